section
-- ===== PART A: goes FIRST, ahead of the names: the tables' words, and 'selects' of the private methods out of them =====
/-- a private method of a class that the tables say can be made, by its rows of tables_1 -/
def lw_okq (q : MethodName × Nat) : Prop := (q.1.cls ≠ "java/lang/invoke/MethodHandle" ∧ q.1.cls ≠ "java/lang/invoke/VarHandle") ∧ Cond.instantiable q.1.cls q.2 ∈ tables_1 ∧ Cond.privateMethod q.1 ∈ tables_1 ∧ Cond.instanceMethod q.1 ∈ tables_1
theorem lw_p0 : lw_okq (⟨"PinholeHouse$Scene", "allPence", "()I"⟩, 5) := ⟨⟨by decide +kernel, by decide +kernel⟩, List.mem_of_getElem? (i := 41) (by decide +kernel), List.mem_of_getElem? (i := 149) (by decide +kernel), List.mem_of_getElem? (i := 150) (by decide +kernel)⟩
theorem lw_p1 : lw_okq (⟨"PinholeHouse", "houseFact", "(I)I"⟩, 3) := ⟨⟨by decide +kernel, by decide +kernel⟩, List.mem_of_getElem? (i := 17) (by decide +kernel), List.mem_of_getElem? (i := 159) (by decide +kernel), List.mem_of_getElem? (i := 160) (by decide +kernel)⟩
theorem lw_p2 : lw_okq (⟨"PinholeHouse", "lightNow", "()I"⟩, 3) := ⟨⟨by decide +kernel, by decide +kernel⟩, List.mem_of_getElem? (i := 17) (by decide +kernel), List.mem_of_getElem? (i := 163) (by decide +kernel), List.mem_of_getElem? (i := 164) (by decide +kernel)⟩
theorem lw_p3 : lw_okq (⟨"PinholeHouse$Sky", "lightAt", "(I)I"⟩, 2) := ⟨⟨by decide +kernel, by decide +kernel⟩, List.mem_of_getElem? (i := 25) (by decide +kernel), List.mem_of_getElem? (i := 167) (by decide +kernel), List.mem_of_getElem? (i := 168) (by decide +kernel)⟩
theorem lw_p4 : lw_okq (⟨"PinholeHouse$Scene", "passersGone", "()I"⟩, 5) := ⟨⟨by decide +kernel, by decide +kernel⟩, List.mem_of_getElem? (i := 41) (by decide +kernel), List.mem_of_getElem? (i := 171) (by decide +kernel), List.mem_of_getElem? (i := 172) (by decide +kernel)⟩
theorem lw_p5 : lw_okq (⟨"PinholeHouse$Passer", "isGone", "()Z"⟩, 4) := ⟨⟨by decide +kernel, by decide +kernel⟩, List.mem_of_getElem? (i := 50) (by decide +kernel), List.mem_of_getElem? (i := 175) (by decide +kernel), List.mem_of_getElem? (i := 176) (by decide +kernel)⟩
theorem lw_p6 : lw_okq (⟨"PinholeHouse$Scene", "allPeople", "()I"⟩, 5) := ⟨⟨by decide +kernel, by decide +kernel⟩, List.mem_of_getElem? (i := 41) (by decide +kernel), List.mem_of_getElem? (i := 179) (by decide +kernel), List.mem_of_getElem? (i := 180) (by decide +kernel)⟩
theorem lw_p7 : lw_okq (⟨"PinholeHouse$Scene", "allShows", "(I)I"⟩, 5) := ⟨⟨by decide +kernel, by decide +kernel⟩, List.mem_of_getElem? (i := 41) (by decide +kernel), List.mem_of_getElem? (i := 183) (by decide +kernel), List.mem_of_getElem? (i := 184) (by decide +kernel)⟩
theorem lw_p8 : lw_okq (⟨"PinholeHouse$Scene", "showIn", "(LPinholeHouse$Room;I)I"⟩, 5) := ⟨⟨by decide +kernel, by decide +kernel⟩, List.mem_of_getElem? (i := 41) (by decide +kernel), List.mem_of_getElem? (i := 187) (by decide +kernel), List.mem_of_getElem? (i := 188) (by decide +kernel)⟩
theorem lw_p9 : lw_okq (⟨"PinholeHouse$Room", "showsWell", "(LPinholeHouse$Passer;I)Z"⟩, 7) := ⟨⟨by decide +kernel, by decide +kernel⟩, List.mem_of_getElem? (i := 76) (by decide +kernel), List.mem_of_getElem? (i := 191) (by decide +kernel), List.mem_of_getElem? (i := 192) (by decide +kernel)⟩
theorem lw_p10 : lw_okq (⟨"PinholeHouse$Room", "shows", "(LPinholeHouse$Passer;)Z"⟩, 7) := ⟨⟨by decide +kernel, by decide +kernel⟩, List.mem_of_getElem? (i := 76) (by decide +kernel), List.mem_of_getElem? (i := 195) (by decide +kernel), List.mem_of_getElem? (i := 196) (by decide +kernel)⟩
theorem lw_p11 : lw_okq (⟨"PinholeHouse$Room", "reach", "()I"⟩, 7) := ⟨⟨by decide +kernel, by decide +kernel⟩, List.mem_of_getElem? (i := 76) (by decide +kernel), List.mem_of_getElem? (i := 203) (by decide +kernel), List.mem_of_getElem? (i := 204) (by decide +kernel)⟩
theorem lw_p12 : lw_okq (⟨"PinholeHouse$Room", "brightnessOf", "(LPinholeHouse$Passer;I)I"⟩, 7) := ⟨⟨by decide +kernel, by decide +kernel⟩, List.mem_of_getElem? (i := 76) (by decide +kernel), List.mem_of_getElem? (i := 207) (by decide +kernel), List.mem_of_getElem? (i := 208) (by decide +kernel)⟩
theorem lw_p13 : lw_okq (⟨"PinholeHouse$Sky", "entry", "(I)I"⟩, 2) := ⟨⟨by decide +kernel, by decide +kernel⟩, List.mem_of_getElem? (i := 25) (by decide +kernel), List.mem_of_getElem? (i := 211) (by decide +kernel), List.mem_of_getElem? (i := 212) (by decide +kernel)⟩
theorem lw_p14 : lw_okq (⟨"PinholeHouse", "passerFact", "(II)I"⟩, 3) := ⟨⟨by decide +kernel, by decide +kernel⟩, List.mem_of_getElem? (i := 17) (by decide +kernel), List.mem_of_getElem? (i := 215) (by decide +kernel), List.mem_of_getElem? (i := 216) (by decide +kernel)⟩
theorem lw_p15 : lw_okq (⟨"PinholeHouse$Scene", "roomsSeeingWell", "(LPinholeHouse$Passer;I)I"⟩, 5) := ⟨⟨by decide +kernel, by decide +kernel⟩, List.mem_of_getElem? (i := 41) (by decide +kernel), List.mem_of_getElem? (i := 219) (by decide +kernel), List.mem_of_getElem? (i := 220) (by decide +kernel)⟩
def lw_privs_1 : List (MethodName × Nat) := [(⟨"PinholeHouse$Scene", "allPence", "()I"⟩, 5), (⟨"PinholeHouse", "houseFact", "(I)I"⟩, 3), (⟨"PinholeHouse", "lightNow", "()I"⟩, 3), (⟨"PinholeHouse$Sky", "lightAt", "(I)I"⟩, 2), (⟨"PinholeHouse$Scene", "passersGone", "()I"⟩, 5), (⟨"PinholeHouse$Passer", "isGone", "()Z"⟩, 4), (⟨"PinholeHouse$Scene", "allPeople", "()I"⟩, 5), (⟨"PinholeHouse$Scene", "allShows", "(I)I"⟩, 5), (⟨"PinholeHouse$Scene", "showIn", "(LPinholeHouse$Room;I)I"⟩, 5), (⟨"PinholeHouse$Room", "showsWell", "(LPinholeHouse$Passer;I)Z"⟩, 7), (⟨"PinholeHouse$Room", "shows", "(LPinholeHouse$Passer;)Z"⟩, 7), (⟨"PinholeHouse$Room", "reach", "()I"⟩, 7), (⟨"PinholeHouse$Room", "brightnessOf", "(LPinholeHouse$Passer;I)I"⟩, 7), (⟨"PinholeHouse$Sky", "entry", "(I)I"⟩, 2), (⟨"PinholeHouse", "passerFact", "(II)I"⟩, 3), (⟨"PinholeHouse$Scene", "roomsSeeingWell", "(LPinholeHouse$Passer;I)I"⟩, 5)]
theorem lw_r1 : ∀ q ∈ lw_privs_1, lw_okq q := List.forall_mem_cons.mpr ⟨lw_p0, List.forall_mem_cons.mpr ⟨lw_p1, List.forall_mem_cons.mpr ⟨lw_p2, List.forall_mem_cons.mpr ⟨lw_p3, List.forall_mem_cons.mpr ⟨lw_p4, List.forall_mem_cons.mpr ⟨lw_p5, List.forall_mem_cons.mpr ⟨lw_p6, List.forall_mem_cons.mpr ⟨lw_p7, List.forall_mem_cons.mpr ⟨lw_p8, List.forall_mem_cons.mpr ⟨lw_p9, List.forall_mem_cons.mpr ⟨lw_p10, List.forall_mem_cons.mpr ⟨lw_p11, List.forall_mem_cons.mpr ⟨lw_p12, List.forall_mem_cons.mpr ⟨lw_p13, List.forall_mem_cons.mpr ⟨lw_p14, List.forall_mem_cons.mpr ⟨lw_p15, fun _ h => absurd h List.not_mem_nil⟩⟩⟩⟩⟩⟩⟩⟩⟩⟩⟩⟩⟩⟩⟩⟩
theorem lw_p16 : lw_okq (⟨"PinholeHouse", "roomFact", "(II)I"⟩, 3) := ⟨⟨by decide +kernel, by decide +kernel⟩, List.mem_of_getElem? (i := 17) (by decide +kernel), List.mem_of_getElem? (i := 223) (by decide +kernel), List.mem_of_getElem? (i := 224) (by decide +kernel)⟩
theorem lw_p17 : lw_okq (⟨"java/lang/Throwable", "fillInStackTrace", "(I)Ljava/lang/Throwable;"⟩, 6) := ⟨⟨by decide +kernel, by decide +kernel⟩, List.mem_of_getElem? (i := 281) (by decide +kernel), List.mem_of_getElem? (i := 279) (by decide +kernel), List.mem_of_getElem? (i := 280) (by decide +kernel)⟩
theorem lw_p18 : lw_okq (⟨"PinholeHouse$Passer", "come", "(IIII)V"⟩, 4) := ⟨⟨by decide +kernel, by decide +kernel⟩, List.mem_of_getElem? (i := 50) (by decide +kernel), List.mem_of_getElem? (i := 321) (by decide +kernel), List.mem_of_getElem? (i := 322) (by decide +kernel)⟩
theorem lw_p19 : lw_okq (⟨"PinholeHouse$Scene", "hasHoleAt", "(I)Z"⟩, 5) := ⟨⟨by decide +kernel, by decide +kernel⟩, List.mem_of_getElem? (i := 41) (by decide +kernel), List.mem_of_getElem? (i := 358) (by decide +kernel), List.mem_of_getElem? (i := 359) (by decide +kernel)⟩
theorem lw_p20 : lw_okq (⟨"PinholeHouse$Room", "build", "(III)V"⟩, 7) := ⟨⟨by decide +kernel, by decide +kernel⟩, List.mem_of_getElem? (i := 76) (by decide +kernel), List.mem_of_getElem? (i := 362) (by decide +kernel), List.mem_of_getElem? (i := 363) (by decide +kernel)⟩
theorem lw_p21 : lw_okq (⟨"PinholeHouse", "needRoom", "(I)V"⟩, 3) := ⟨⟨by decide +kernel, by decide +kernel⟩, List.mem_of_getElem? (i := 17) (by decide +kernel), List.mem_of_getElem? (i := 373) (by decide +kernel), List.mem_of_getElem? (i := 374) (by decide +kernel)⟩
theorem lw_p22 : lw_okq (⟨"PinholeHouse", "needPasser", "(I)V"⟩, 3) := ⟨⟨by decide +kernel, by decide +kernel⟩, List.mem_of_getElem? (i := 17) (by decide +kernel), List.mem_of_getElem? (i := 401) (by decide +kernel), List.mem_of_getElem? (i := 402) (by decide +kernel)⟩
theorem lw_p23 : lw_okq (⟨"PinholeHouse$Scene", "passersAt", "(I)I"⟩, 5) := ⟨⟨by decide +kernel, by decide +kernel⟩, List.mem_of_getElem? (i := 41) (by decide +kernel), List.mem_of_getElem? (i := 420) (by decide +kernel), List.mem_of_getElem? (i := 421) (by decide +kernel)⟩
theorem lw_p24 : lw_okq (⟨"PinholeHouse", "letGoBy", "(LPinholeHouse$Scene;I)I"⟩, 3) := ⟨⟨by decide +kernel, by decide +kernel⟩, List.mem_of_getElem? (i := 17) (by decide +kernel), List.mem_of_getElem? (i := 450) (by decide +kernel), List.mem_of_getElem? (i := 451) (by decide +kernel)⟩
theorem lw_p25 : lw_okq (⟨"PinholeHouse$Scene", "passersWalk", "()V"⟩, 5) := ⟨⟨by decide +kernel, by decide +kernel⟩, List.mem_of_getElem? (i := 41) (by decide +kernel), List.mem_of_getElem? (i := 457) (by decide +kernel), List.mem_of_getElem? (i := 458) (by decide +kernel)⟩
theorem lw_p26 : lw_okq (⟨"PinholeHouse$Passer", "walk", "()V"⟩, 4) := ⟨⟨by decide +kernel, by decide +kernel⟩, List.mem_of_getElem? (i := 50) (by decide +kernel), List.mem_of_getElem? (i := 461) (by decide +kernel), List.mem_of_getElem? (i := 462) (by decide +kernel)⟩
theorem lw_p27 : lw_okq (⟨"PinholeHouse$Scene", "roomsPay", "(I)I"⟩, 5) := ⟨⟨by decide +kernel, by decide +kernel⟩, List.mem_of_getElem? (i := 41) (by decide +kernel), List.mem_of_getElem? (i := 467) (by decide +kernel), List.mem_of_getElem? (i := 468) (by decide +kernel)⟩
theorem lw_p28 : lw_okq (⟨"PinholeHouse$Room", "pay", "(I)I"⟩, 7) := ⟨⟨by decide +kernel, by decide +kernel⟩, List.mem_of_getElem? (i := 76) (by decide +kernel), List.mem_of_getElem? (i := 471) (by decide +kernel), List.mem_of_getElem? (i := 472) (by decide +kernel)⟩
theorem lw_p29 : lw_okq (⟨"PinholeHouse$Scene", "copyFrom", "(LPinholeHouse$Scene;)V"⟩, 5) := ⟨⟨by decide +kernel, by decide +kernel⟩, List.mem_of_getElem? (i := 41) (by decide +kernel), List.mem_of_getElem? (i := 486) (by decide +kernel), List.mem_of_getElem? (i := 487) (by decide +kernel)⟩
theorem lw_p30 : lw_okq (⟨"PinholeHouse$Passer", "copyFrom", "(LPinholeHouse$Passer;)V"⟩, 4) := ⟨⟨by decide +kernel, by decide +kernel⟩, List.mem_of_getElem? (i := 50) (by decide +kernel), List.mem_of_getElem? (i := 490) (by decide +kernel), List.mem_of_getElem? (i := 491) (by decide +kernel)⟩
theorem lw_p31 : lw_okq (⟨"PinholeHouse$Room", "copyFrom", "(LPinholeHouse$Room;)V"⟩, 7) := ⟨⟨by decide +kernel, by decide +kernel⟩, List.mem_of_getElem? (i := 76) (by decide +kernel), List.mem_of_getElem? (i := 495) (by decide +kernel), List.mem_of_getElem? (i := 496) (by decide +kernel)⟩
def lw_privs_2 : List (MethodName × Nat) := [(⟨"PinholeHouse", "roomFact", "(II)I"⟩, 3), (⟨"java/lang/Throwable", "fillInStackTrace", "(I)Ljava/lang/Throwable;"⟩, 6), (⟨"PinholeHouse$Passer", "come", "(IIII)V"⟩, 4), (⟨"PinholeHouse$Scene", "hasHoleAt", "(I)Z"⟩, 5), (⟨"PinholeHouse$Room", "build", "(III)V"⟩, 7), (⟨"PinholeHouse", "needRoom", "(I)V"⟩, 3), (⟨"PinholeHouse", "needPasser", "(I)V"⟩, 3), (⟨"PinholeHouse$Scene", "passersAt", "(I)I"⟩, 5), (⟨"PinholeHouse", "letGoBy", "(LPinholeHouse$Scene;I)I"⟩, 3), (⟨"PinholeHouse$Scene", "passersWalk", "()V"⟩, 5), (⟨"PinholeHouse$Passer", "walk", "()V"⟩, 4), (⟨"PinholeHouse$Scene", "roomsPay", "(I)I"⟩, 5), (⟨"PinholeHouse$Room", "pay", "(I)I"⟩, 7), (⟨"PinholeHouse$Scene", "copyFrom", "(LPinholeHouse$Scene;)V"⟩, 5), (⟨"PinholeHouse$Passer", "copyFrom", "(LPinholeHouse$Passer;)V"⟩, 4), (⟨"PinholeHouse$Room", "copyFrom", "(LPinholeHouse$Room;)V"⟩, 7)]
theorem lw_r2 : ∀ q ∈ lw_privs_2, lw_okq q := List.forall_mem_cons.mpr ⟨lw_p16, List.forall_mem_cons.mpr ⟨lw_p17, List.forall_mem_cons.mpr ⟨lw_p18, List.forall_mem_cons.mpr ⟨lw_p19, List.forall_mem_cons.mpr ⟨lw_p20, List.forall_mem_cons.mpr ⟨lw_p21, List.forall_mem_cons.mpr ⟨lw_p22, List.forall_mem_cons.mpr ⟨lw_p23, List.forall_mem_cons.mpr ⟨lw_p24, List.forall_mem_cons.mpr ⟨lw_p25, List.forall_mem_cons.mpr ⟨lw_p26, List.forall_mem_cons.mpr ⟨lw_p27, List.forall_mem_cons.mpr ⟨lw_p28, List.forall_mem_cons.mpr ⟨lw_p29, List.forall_mem_cons.mpr ⟨lw_p30, List.forall_mem_cons.mpr ⟨lw_p31, fun _ h => absurd h List.not_mem_nil⟩⟩⟩⟩⟩⟩⟩⟩⟩⟩⟩⟩⟩⟩⟩⟩
theorem lw_p32 : lw_okq (⟨"PinholeHouse", "paidWithHole", "(III)I"⟩, 3) := ⟨⟨by decide +kernel, by decide +kernel⟩, List.mem_of_getElem? (i := 17) (by decide +kernel), List.mem_of_getElem? (i := 507) (by decide +kernel), List.mem_of_getElem? (i := 508) (by decide +kernel)⟩
theorem lw_p33 : lw_okq (⟨"PinholeHouse$Scene", "wallsWith", "(LPinholeHouse$Passer;)I"⟩, 5) := ⟨⟨by decide +kernel, by decide +kernel⟩, List.mem_of_getElem? (i := 41) (by decide +kernel), List.mem_of_getElem? (i := 520) (by decide +kernel), List.mem_of_getElem? (i := 521) (by decide +kernel)⟩
theorem lw_p34 : lw_okq (⟨"PinholeHouseModel", "no", "(I)I"⟩, 14) := ⟨⟨by decide +kernel, by decide +kernel⟩, List.mem_of_getElem? (i := 533) (by decide +kernel), List.mem_of_getElem? (i := 634) (by decide +kernel), List.mem_of_getElem? (i := 635) (by decide +kernel)⟩
theorem lw_p35 : lw_okq (⟨"PinholeHouseModel", "isRoom", "(I)Z"⟩, 14) := ⟨⟨by decide +kernel, by decide +kernel⟩, List.mem_of_getElem? (i := 533) (by decide +kernel), List.mem_of_getElem? (i := 650) (by decide +kernel), List.mem_of_getElem? (i := 651) (by decide +kernel)⟩
theorem lw_p36 : lw_okq (⟨"PinholeHouseModel", "isPasser", "(I)Z"⟩, 14) := ⟨⟨by decide +kernel, by decide +kernel⟩, List.mem_of_getElem? (i := 533) (by decide +kernel), List.mem_of_getElem? (i := 666) (by decide +kernel), List.mem_of_getElem? (i := 667) (by decide +kernel)⟩
theorem lw_p37 : lw_okq (⟨"PinholeHouseModel", "passerTold", "(II)I"⟩, 14) := ⟨⟨by decide +kernel, by decide +kernel⟩, List.mem_of_getElem? (i := 533) (by decide +kernel), List.mem_of_getElem? (i := 670) (by decide +kernel), List.mem_of_getElem? (i := 671) (by decide +kernel)⟩
theorem lw_p38 : lw_okq (⟨"PinholeHouseModel", "roomTold", "(II)I"⟩, 14) := ⟨⟨by decide +kernel, by decide +kernel⟩, List.mem_of_getElem? (i := 533) (by decide +kernel), List.mem_of_getElem? (i := 695) (by decide +kernel), List.mem_of_getElem? (i := 696) (by decide +kernel)⟩
theorem lw_p39 : lw_okq (⟨"PinholeHouseModel", "counted", "(I)I"⟩, 14) := ⟨⟨by decide +kernel, by decide +kernel⟩, List.mem_of_getElem? (i := 533) (by decide +kernel), List.mem_of_getElem? (i := 718) (by decide +kernel), List.mem_of_getElem? (i := 719) (by decide +kernel)⟩
theorem lw_p40 : lw_okq (⟨"PinholeHouseModel$State", "copy", "([I[I)V"⟩, 6) := ⟨⟨by decide +kernel, by decide +kernel⟩, List.mem_of_getElem? (i := 539) (by decide +kernel), List.mem_of_getElem? (i := 759) (by decide +kernel), List.mem_of_getElem? (i := 760) (by decide +kernel)⟩
def lw_privs_3 : List (MethodName × Nat) := [(⟨"PinholeHouse", "paidWithHole", "(III)I"⟩, 3), (⟨"PinholeHouse$Scene", "wallsWith", "(LPinholeHouse$Passer;)I"⟩, 5), (⟨"PinholeHouseModel", "no", "(I)I"⟩, 14), (⟨"PinholeHouseModel", "isRoom", "(I)Z"⟩, 14), (⟨"PinholeHouseModel", "isPasser", "(I)Z"⟩, 14), (⟨"PinholeHouseModel", "passerTold", "(II)I"⟩, 14), (⟨"PinholeHouseModel", "roomTold", "(II)I"⟩, 14), (⟨"PinholeHouseModel", "counted", "(I)I"⟩, 14), (⟨"PinholeHouseModel$State", "copy", "([I[I)V"⟩, 6)]
theorem lw_r3 : ∀ q ∈ lw_privs_3, lw_okq q := List.forall_mem_cons.mpr ⟨lw_p32, List.forall_mem_cons.mpr ⟨lw_p33, List.forall_mem_cons.mpr ⟨lw_p34, List.forall_mem_cons.mpr ⟨lw_p35, List.forall_mem_cons.mpr ⟨lw_p36, List.forall_mem_cons.mpr ⟨lw_p37, List.forall_mem_cons.mpr ⟨lw_p38, List.forall_mem_cons.mpr ⟨lw_p39, List.forall_mem_cons.mpr ⟨lw_p40, fun _ h => absurd h List.not_mem_nil⟩⟩⟩⟩⟩⟩⟩⟩⟩
def lw_privs : List (MethodName × Nat) := lw_privs_1 ++ (lw_privs_2 ++ (lw_privs_3))
def lw_tbl : List Cond := k2_sels lw_privs ++ tables_1
theorem lw_privs_ok : ∀ q ∈ lw_privs, lw_okq q := by
  show ∀ q ∈ lw_privs_1 ++ (lw_privs_2 ++ (lw_privs_3)), lw_okq q
  exact List.forall_mem_append.mpr ⟨lw_r1, List.forall_mem_append.mpr ⟨lw_r2, lw_r3⟩⟩
/-- the streams that the claim lets the run draw from -/
abbrev lw_cs : List Choice := [Jvm.Choice.named "NaN.bits"]
theorem lw_bits : nanBits ∈ lw_cs := by first | decide | exact List.mem_cons_self | simp [lw_cs, nanBits]
-- ===== end of PART A; then your names; then what follows =====
end
section
/-! ===== BEGIN words of one list among another's, by their places ===== -/
theorem goodIn_r {big : List Cond} (ws : List Cond) (ps : List Nat) (hp : ws = ps.filterMap (fun i => big[i]?)) (h : ws.all goodWord = true) : GoodIn big ws := by
  intro w hw
  have h1 := List.all_eq_true.mp h w hw
  rw [hp] at hw
  obtain ⟨i, -, hi⟩ := List.mem_filterMap.mp hw
  have hm : w ∈ big := by first | exact List.mem_of_getElem? hi | exact List.getElem?_mem hi
  exact ⟨hm, good_of_word h1⟩
theorem goodIn_app {big a b : List Cond} (ha : GoodIn big a) (hb : GoodIn big b) : GoodIn big (a ++ b) := fun w h => (List.mem_append.mp h).elim (ha w) (hb w)
theorem goodIn_ca {big a b : List Cond} {c : Cond} (ha : GoodIn big (c :: a)) (hb : GoodIn big b) : GoodIn big (c :: (a ++ b)) := fun w h => (List.mem_cons.mp h).elim (fun e => ha w (List.mem_cons.mpr (Or.inl e))) (fun h => (List.mem_append.mp h).elim (fun h => ha w (List.mem_cons.mpr (Or.inr h))) (hb w))
theorem goodIn_sub {big ws : List Cond} (hm : ∀ w ∈ ws, w ∈ big) (h : ws.all goodWord = true) : GoodIn big ws := fun w hw => ⟨hm w hw, good_of_word (List.all_eq_true.mp h w hw)⟩
/-! ===== END ===== -/

/-! ===== BEGIN exceptions that leave a method, and their catching by the caller (launches without stack traces) ===== -/
section VXA
/-! The laws vx_back, vx_callV, vx_callS, vx_callSW, vx_throw0, vx_throwS follow proofs of the library, with one case more: JvmDerived/Free/Laws.lean (Back.of_free), Shelf42/LK1.lean (callV, callS), Shelf/KitTraced.lean (throwNew0V, throwNewS). -/
/-- where a method has thrown q: the class by its name, the cell, what was written, the world -/
def vx_T (XC : String → State → State → Prop) (st : State) (q : Addr) (t : State) (mc ms : Nat) (free : Addr → Prop) : Prop :=
  ∃ (E : String) (ce : Cell) (L : List Loc), XC E st t ∧ t.heap[q]? = some ce ∧ ce.vm = .none ∧ st.vm.findClass E = some ce.cls ∧ st.WarmedH t.vm ∧ st.sameButNew ({ t with vm := st.vm } : State) L mc ms ∧ ∀ z ∈ L, free z.base
def vx_Q (Qc : Array Value → State → Outcome → State → Prop) (XC : String → State → State → Prop) (mc ms : Nat) (free : Addr → Prop) : Array Value → State → Outcome → State → Prop := fun a st o t =>
  (Qc a st o t ∧ ∃ L, FrameEnd st o t L mc ms ∧ ∀ q ∈ L, free q.base) ∨ ∃ q, o = .threw q ∧ vx_T XC st q t mc ms free
/-- a callee that returns or throws -/
def vx_Met (l : Launch) (y : MethodName) (ws : List Cond) (rm : Room) (Pc : Array Value → State → Prop) (Qc : Array Value → State → Outcome → State → Prop) (XC : String → State → State → Prop) (mc ms : Nat) (free : Addr → Prop) : Prop :=
  MetFree l y (headSpec ws rm) Pc (fun _ _ _ _ _ => True) (vx_Q Qc XC mc ms free)
def vx_Post (XC : String → State → State → Prop) (mc ms : Nat) (free : Addr → Prop) : Pt → Array Value → Addr → Pt → Prop := fun A a q B =>
  ∃ (g : JFrame) (mk : MethodId) (t : State) (L : List Loc) (E : String) (ce : Cell), B.U.heap = t.heap ∧ B.U.vm = t.vm ∧ XC E (A.U.calling g mk a) t ∧ t.heap[q]? = some ce ∧ ce.vm = .none ∧ A.U.vm.findClass E = some ce.cls ∧ B.locs = A.locs ++ L ∧ (∀ z ∈ L, free z.base) ∧ B.cells = A.cells + mc ∧ B.slots = A.slots + ms
def vx_Back (l : Launch) (R : Room) (p : Program) (e : Env) (below : List Frame) (s : State) (sargs : Array Value) (y : MethodName) (len W9 : Nat)
    (Pre : Pt → Array Value → Prop) (Post : Pt → Array Value → Option Value → Pt → Prop) (PostX : Pt → Array Value → Addr → Pt → Prop) : Prop :=
  ∀ (m : MethodId) (meth : Method) (c : Code) (A : Pt) (g : JFrame) (ig : Instr) (mk : MethodId) (a : Array Value),
    Stand p l e R s m sargs below meth c A.U A.locs A.cells A.slots → g.method = m → g.locals.size = c.maxLocals → decode c.code g.pc = .ok (ig, len) →
    2 * g.monitorRoom + (g.stack.map fun v => v.category).sum ≤ W9 → A.U.methodNamed? y = some mk → Pre A a →
    (∃ (v : Option Value) (B : Pt), Stand p l e R s m sargs below meth c B.U B.locs B.cells B.slots ∧ Post A a v B ∧
      Steps p.tables e below (doInvoke e (A.U.setTop g) [] mk a).1 (B.U.setTop { g with pc := g.pc + len, stack := v.toList ++ g.stack })) ∨
    (∃ (q : Addr) (B : Pt), Stand p l e R s m sargs below meth c B.U B.locs B.cells B.slots ∧ PostX A a q B ∧
      Steps p.tables e below (doInvoke e (A.U.setTop g) [] mk a).1 ((B.U.setTop g).pushFrame (.throwing q)))
section Payer
variable {l : Launch} {R : Room} {p : Program} {e : Env} {below : List Frame} {s : State} {sargs : Array Value} {y : MethodName} {len W9 : Nat}
theorem vx_back {ws : List Cond} {rm : Room} {Pc : Array Value → State → Prop} {Qc : Array Value → State → Outcome → State → Prop} {XC : String → State → State → Prop} {mc ms : Nat} {free : Addr → Prop} {bytes : ByteArray} {maxL : Nat} {ret : Option FieldType}
    (hM : vx_Met l y ws rm Pc Qc XC mc ms free) (hblind : FrameBlind Pc) (hrc : rm.cells = mc) (hrs : rm.slots = ms)
    (hframes : rm.frames + 1 ≤ R.frames) (hlocals : W9 + (maxL + 11) + rm.locals ≤ R.locals)
    (hws : ∀ w ∈ ws, ∀ a' U, s.WarmedH U.vm → w.before a' U = true) (hcode : Cond.code y bytes maxL ret ∈ ws) (hinit : ∀ a' U, s.WarmedH U.vm → (Cond.initialized y.cls).before a' U = true) :
    vx_Back l R p e below s sargs y len W9 (PreOf R mc ms Pc) (PostOf Qc mc ms free) (vx_Post XC mc ms free) := by
  intro m meth c A g ig mk a X hg hsize hdg hW hn hp
  have h1 : (headSpec ws rm).pre.before a A.U = true := atoms_intro fun w hw => hws w hw _ _ X.warmed
  have h2 : (Cond.code y bytes maxL ret).before a A.U = true := hws _ hcode _ _ X.warmed
  have h3 : (Cond.initialized y.cls).before a A.U = true := hinit _ _ X.warmed
  have h4 : A.cells + (headSpec ws rm).room.cells ≤ R.cells := by rw [show (headSpec ws rm).room.cells = mc from hrc]; exact hp.1
  have h5 : A.slots + (headSpec ws rm).room.slots ≤ R.slots := by rw [show (headSpec ws rm).room.slots = ms from hrs]; exact hp.2.1
  have hPc : Pc a (A.U.calling g mk a) := hblind _ _ _ _ hp.2.2
  obtain ⟨U, Ls, c0, s0⟩ := A
  dsimp only [Pt.U, Pt.locs, Pt.cells, Pt.slots] at h1 h2 h3 h4 h5 X hn hPc ⊢
  obtain ⟨methY, cY, hmY, hcY, -, hlY, -, -, -, -⟩ := Cond.code_spec hn h2
  obtain ⟨kY, hkY, -⟩ := className_of_methodNamed hn
  have hinitY : kY.init = .initialized := Cond.initialized_spec (findClass_of_methodNamed hn) hkY h3
  have h : At U g.method c below := by rw [hg]; exact X.here
  have hlocals9 : W9 + (maxL + 11) + (headSpec ws rm).room.locals ≤ R.locals := hlocals
  have happ : (headSpec ws rm).appliesLoose y e.platform (U.calling g mk a) = true :=
    Spec.appliesLoose_calling (g := g) h hdg hn hkY hinitY
      (X.room_calling (g := g) (R' := (headSpec ws rm).room) hsize hmY hcY hframes (by rw [hlY]; omega) h4 h5) h1
  obtain ⟨mid, hmid⟩ := h.above
  have hfr : (U.setTop g).frames = (.java g :: mid) ++ below := by rw [State.frames_setTop' g h.top, hmid]; rfl
  obtain ⟨o, s₂, hsteps, -, hend, hq⟩ := Steps.callFree hM p X.admits X.cas X.clock (acts := []) hfr happ hPc trivial
  have hq' : vx_Q Qc XC mc ms free a (U.calling g mk a) o s₂ := hq
  rw [State.frames_setTop' g h.top] at hend
  obtain ⟨g₀, hg0⟩ := Option.isSome_iff_exists.mp h.top
  obtain ⟨r, hr⟩ := State.topJava?_eq_some.mp hg0
  have hr' : (({ U with heap := s₂.heap, slotsUsed := s₂.slotsUsed } : State).setVm s₂.vm).frames = .java g₀ :: r := hr
  rcases hq' with ⟨hqc, L, hfe, hL⟩ | ⟨q, rfl, E, ce, L, hx, hce, hcv, hcl, hW₂, hsm, hL⟩
  · obtain ⟨⟨v, rfl⟩, hW₂, e2, q2, q3, q4, q5, q6⟩ := id hfe
    have e3 : s₂ = ({ (U.calling g mk a).setFrames s₂.frames with heap := s₂.heap, slotsUsed := s₂.slotsUsed } : State).setVm s₂.vm := by
      have : s₂ = ({ s₂ with vm := (U.calling g mk a).vm } : State).setVm s₂.vm := rfl
      rw [e2] at this
      exact this
    obtain ⟨c₂, i₂, len₂, hc₂, hd₂, hf₂⟩ := hend
    have hW' : U.WarmedH s₂.vm := hW₂
    have hcc : c₂ = c := by
      have h1 : s₂.code? g.method = U.code? g.method := by
        rw [State.code?_eq, State.code?_eq, hW'.alike.method?]
      exact Option.some.inj (hc₂.symm.trans (h1.trans h.code))
    subst hcc
    have hlen : len₂ = len := by rw [hdg] at hd₂; cases hd₂; rfl
    subst hlen
    have hs₂ : s₂ = (({ U with heap := s₂.heap, slotsUsed := s₂.slotsUsed } : State).setVm s₂.vm).setTop { g with pc := g.pc + len₂, stack := v.toList ++ g.stack } := by
      refine e3.trans ?_
      rw [hf₂, State.calling_eq h.top, State.setFrames_setFrames, State.setTop_of_frames _ hr', hr]
      rfl
    have hsame : U.sameButNew ({ U with heap := s₂.heap, slotsUsed := s₂.slotsUsed } : State) L mc ms := by
      refine ⟨?_, q2, q3, q4, q5, q6⟩
      obtain ⟨t, ht, -⟩ := State.frames_cons hr
      show ({ U with heap := s₂.heap, slotsUsed := s₂.slotsUsed } : State) = { U.setFrames U.frames with heap := s₂.heap, slotsUsed := s₂.slotsUsed }
      rw [State.setFrames_self ht]
    subst hg
    refine Or.inl ⟨v, ⟨(({ U with heap := s₂.heap, slotsUsed := s₂.slotsUsed } : State).setVm s₂.vm), Ls ++ L, c0 + mc, s0 + ms⟩,
      ⟨X.admits, X.cas, X.clock, X.frames, X.room, X.hears, X.method, X.code, (X.here.setHeapUsed s₂.heap s₂.slotsUsed).setVm hW'.alike, X.tail, State.WarmedH.trans X.warmed hW', X.limits, X.bytes, X.same.trans (hsame.setVm s.vm)⟩,
      ⟨g, mk, s₂, L, rfl, rfl, hqc, rfl, hL, rfl, rfl⟩, ?_⟩
    show Steps p.tables e below _ ((({ U with heap := s₂.heap, slotsUsed := s₂.slotsUsed } : State).setVm s₂.vm).setTop { g with pc := g.pc + len₂, stack := v.toList ++ g.stack })
    rw [← hs₂]
    exact hsteps
  · obtain ⟨e2, q2, q3, q4, q5, q6⟩ := id hsm
    have e3 : s₂ = ({ (U.calling g mk a).setFrames s₂.frames with heap := s₂.heap, slotsUsed := s₂.slotsUsed } : State).setVm s₂.vm := by
      have : s₂ = ({ s₂ with vm := (U.calling g mk a).vm } : State).setVm s₂.vm := rfl
      rw [e2] at this
      exact this
    have hf₂ : s₂.frames = .throwing q :: .java g :: U.frames.tail := hend
    have hW' : U.WarmedH s₂.vm := hW₂
    have hs₂ : s₂ = ((({ U with heap := s₂.heap, slotsUsed := s₂.slotsUsed } : State).setVm s₂.vm).setTop g).pushFrame (.throwing q) := by
      refine e3.trans ?_
      rw [hf₂, State.calling_eq h.top, State.setFrames_setFrames, State.pushFrame, State.frames_setTop _ hr', State.setTop_of_frames _ hr', State.setFrames_setFrames, hr]
      rfl
    have hsame : U.sameButNew ({ U with heap := s₂.heap, slotsUsed := s₂.slotsUsed } : State) L mc ms := by
      refine ⟨?_, q2, q3, q4, q5, q6⟩
      obtain ⟨t, ht, -⟩ := State.frames_cons hr
      show ({ U with heap := s₂.heap, slotsUsed := s₂.slotsUsed } : State) = { U.setFrames U.frames with heap := s₂.heap, slotsUsed := s₂.slotsUsed }
      rw [State.setFrames_self ht]
    subst hg
    refine Or.inr ⟨q, ⟨(({ U with heap := s₂.heap, slotsUsed := s₂.slotsUsed } : State).setVm s₂.vm), Ls ++ L, c0 + mc, s0 + ms⟩,
      ⟨X.admits, X.cas, X.clock, X.frames, X.room, X.hears, X.method, X.code, (X.here.setHeapUsed s₂.heap s₂.slotsUsed).setVm hW'.alike, X.tail, State.WarmedH.trans X.warmed hW', X.limits, X.bytes, X.same.trans (hsame.setVm s.vm)⟩,
      ⟨g, mk, s₂, L, E, ce, rfl, rfl, hx, hce, hcv, hcl, rfl, hL, rfl, rfl⟩, ?_⟩
    show Steps p.tables e below _ (((({ U with heap := s₂.heap, slotsUsed := s₂.slotsUsed } : State).setVm s₂.vm).setTop g).pushFrame (.throwing q))
    rw [← hs₂]
    exact hsteps
end Payer
section Calls
variable {p : Program} {l : Launch} {e : Env} {R : Room} {s : State} {m : MethodId} {args : Array Value} {below : List Frame} {meth : Method} {c : Code} {T : State} {locs : List Loc} {cells slots : Nat}
theorem vx_callV (X : Stand p l e R s m args below meth c T locs cells slots) (hexec : p.tables.exec = Jvm.exec) {own C : String} {index : Nat} {y : MethodName} {bytes : ByteArray} {maxL : Nat} {ret : Option FieldType}
    (hown : s.vm.findClass own = some m.cls) (hlink : (Cond.methodLink own index y).before args s = true) (hinst : (Cond.instanceMethod y).before args s = true) (hsel : (Cond.selects C y y).before args s = true)
    (hcode : (Cond.code y bytes maxL ret).before args s = true) (hy : y.cls ≠ "java/lang/invoke/MethodHandle" ∧ y.cls ≠ "java/lang/invoke/VarHandle")
    {W9 : Nat} {Pre : Pt → Array Value → Prop} {Post : Pt → Array Value → Option Value → Pt → Prop} {PostX : Pt → Array Value → Addr → Pt → Prop} (hK : vx_Back l R p e below s args y 3 W9 Pre Post PostX)
    {b : Addr} {cellB : Cell} (hcell : T.heap[b]? = some cellB) (hobj : cellB.vm.isStatics = false) (hcls : s.vm.findClass C = some cellB.cls)
    {g : JFrame} (hg : g.method = m) (hsize : g.locals.size = c.maxLocals) {argsL rest : List Value} (hlen : ∀ sig, parseMethodDescriptor y.desc = some sig → argsL.length = sig.parameters.length)
    (hstack : g.stack = argsL.reverse ++ .ref b :: rest) (hW : 2 * g.monitorRoom + (rest.map fun v => v.category).sum ≤ W9) (hdg : decode c.code g.pc = .ok (.invokevirtual index, 3))
    (hpre : ∀ vm₁, s.WarmedH vm₁ → Pre ⟨T.setVm vm₁, locs, cells, slots⟩ (Value.ref b :: argsL).toArray) :
    (∃ (v : Option Value) (vm₁ : Vm) (B : Pt), s.WarmedH vm₁ ∧ Stand p l e R s m args below meth c B.U B.locs B.cells B.slots ∧ Post ⟨T.setVm vm₁, locs, cells, slots⟩ (Value.ref b :: argsL).toArray v B ∧
      ∀ target, Steps p.tables e below (B.U.setTop { g with pc := g.pc + 3, stack := v.toList ++ rest }) target → Steps p.tables e below (T.setTop g) target) ∨
    (∃ (q : Addr) (vm₁ : Vm) (B : Pt), s.WarmedH vm₁ ∧ Stand p l e R s m args below meth c B.U B.locs B.cells B.slots ∧ PostX ⟨T.setVm vm₁, locs, cells, slots⟩ (Value.ref b :: argsL).toArray q B ∧
      Steps p.tables e below (T.setTop g) ((B.U.setTop { g with stack := rest }).pushFrame (.throwing q))) := by
  obtain ⟨mk, methM, hnamed, hmethM, hstM, habM⟩ := Cond.instanceMethod_spec hinst
  obtain ⟨methM', cM, hmethM', -, -, -, -, -, -, hsigM⟩ := Cond.code_spec hnamed hcode
  cases hmethM.symm.trans hmethM'
  obtain ⟨c2, r2, m2, q1, q2, q3, q4, kP, hkP, hkPi⟩ := Cond.selects_spec hsel
  cases hcls.symm.trans q1
  cases (State.methodFound?_of_named hnamed hy).symm.trans q2
  cases hnamed.symm.trans q3
  have hselP : selectMethod e.platform s.vm cellB.cls mk = .method mk := by rw [Launch.admits_selectMethod X.admits]; exact q4
  obtain ⟨vm₁, X₁, hstep₁⟩ := X.invokevirtual hexec hown hlink hnamed hmethM hstM hkP hkPi hy (a := b) (cell := cellB) hcell
    (fun z h => by rw [h] at hobj; cases hobj) hselP hmethM habM hkP hkPi (g := g) hg (argsL := argsL) (rest := rest) (hlen _ hsigM) hstack hdg
  rcases hK m meth c ⟨T.setVm vm₁, locs, cells, slots⟩ { g with stack := rest } (.invokevirtual index) mk (Value.ref b :: argsL).toArray X₁ hg hsize hdg hW (X₁.named hnamed) (hpre vm₁ X₁.warmed) with ⟨v, B, X', hpost, hsteps⟩ | ⟨q, B, X', hpost, hsteps⟩
  · exact Or.inl ⟨v, vm₁, B, X₁.warmed, X', hpost, fun target h => hstep₁ _ fun acts => by rw [doInvoke_state]; exact hsteps.trans h⟩
  · exact Or.inr ⟨q, vm₁, B, X₁.warmed, X', hpost, hstep₁ _ fun acts => by rw [doInvoke_state]; exact hsteps⟩
theorem vx_callS (X : Stand p l e R s m args below meth c T locs cells slots) (hexec : p.tables.exec = Jvm.exec) {own : String} {index : Nat} {y : MethodName} {bytes : ByteArray} {maxL : Nat} {ret : Option FieldType}
    (hown : s.vm.findClass own = some m.cls) (hlink : (Cond.methodLink own index y).before args s = true) (hstat : (Cond.static y).before args s = true) (hinit : (Cond.initialized y.cls).before args s = true)
    (hcode : (Cond.code y bytes maxL ret).before args s = true) (hy : y.cls ≠ "java/lang/invoke/MethodHandle" ∧ y.cls ≠ "java/lang/invoke/VarHandle")
    {W9 : Nat} {Pre : Pt → Array Value → Prop} {Post : Pt → Array Value → Option Value → Pt → Prop} {PostX : Pt → Array Value → Addr → Pt → Prop} (hK : vx_Back l R p e below s args y 3 W9 Pre Post PostX)
    {g : JFrame} (hg : g.method = m) (hsize : g.locals.size = c.maxLocals) {argsL rest : List Value} (hlen : ∀ sig, parseMethodDescriptor y.desc = some sig → argsL.length = sig.parameters.length)
    (hstack : g.stack = argsL.reverse ++ rest) (hW : 2 * g.monitorRoom + (rest.map fun v => v.category).sum ≤ W9) (hdg : decode c.code g.pc = .ok (.invokestatic index, 3))
    (hpre : ∀ vm₁, s.WarmedH vm₁ → Pre ⟨T.setVm vm₁, locs, cells, slots⟩ argsL.toArray) :
    (∃ (v : Option Value) (vm₁ : Vm) (B : Pt), s.WarmedH vm₁ ∧ Stand p l e R s m args below meth c B.U B.locs B.cells B.slots ∧ Post ⟨T.setVm vm₁, locs, cells, slots⟩ argsL.toArray v B ∧
      ∀ target, Steps p.tables e below (B.U.setTop { g with pc := g.pc + 3, stack := v.toList ++ rest }) target → Steps p.tables e below (T.setTop g) target) ∨
    (∃ (q : Addr) (vm₁ : Vm) (B : Pt), s.WarmedH vm₁ ∧ Stand p l e R s m args below meth c B.U B.locs B.cells B.slots ∧ PostX ⟨T.setVm vm₁, locs, cells, slots⟩ argsL.toArray q B ∧
      Steps p.tables e below (T.setTop g) ((B.U.setTop { g with stack := rest }).pushFrame (.throwing q))) := by
  obtain ⟨mk, hnamed⟩ := Cond.code_named hcode
  obtain ⟨methM, cM, hmethM, -, -, -, -, -, -, hsigM⟩ := Cond.code_spec hnamed hcode
  have hstatic : methM.isStatic = true := Cond.static_spec hnamed hmethM hstat
  obtain ⟨kP, hkP, -⟩ := className_of_methodNamed hnamed
  have hinitP : kP.init = .initialized := Cond.initialized_spec (findClass_of_methodNamed hnamed) hkP hinit
  obtain ⟨vm₁, X₁, hstep₁⟩ := X.invokestatic hexec hown hlink hnamed hmethM hstatic hkP hinitP hy (g := g) hg (argsL := argsL) (rest := rest) (hlen _ hsigM) hstack hdg
  rcases hK m meth c ⟨T.setVm vm₁, locs, cells, slots⟩ { g with stack := rest } (.invokestatic index) mk argsL.toArray X₁ hg hsize hdg hW (X₁.named hnamed) (hpre vm₁ X₁.warmed) with ⟨v, B, X', hpost, hsteps⟩ | ⟨q, B, X', hpost, hsteps⟩
  · exact Or.inl ⟨v, vm₁, B, X₁.warmed, X', hpost, fun target h => hstep₁ _ fun acts => by rw [doInvoke_state]; exact hsteps.trans h⟩
  · exact Or.inr ⟨q, vm₁, B, X₁.warmed, X', hpost, hstep₁ _ fun acts => by rw [doInvoke_state]; exact hsteps⟩
end Calls
theorem vx_cls {s : State} {T : State} {vm₁ : Vm} {E : String} {k : ClassId} (hW : s.WarmedH vm₁) (h : (T.setVm vm₁).vm.findClass E = some k) : s.vm.findClass E = some k := by
  have h1 : vm₁.findClass E = some k := h
  rw [hW.alike.findClass] at h1
  exact h1
/-- the method's frame g, with q thrown over it -/
def vx_W (p : Program) (l : Launch) (e : Env) (R : Room) (s : State) (m : MethodId) (args : Array Value) (below : List Frame) (meth : Method) (c : Code) (H : Heap) (locs : List Loc) (cells slots : Nat) (Q : State → Prop) (g : JFrame) (q : Addr) : Prop :=
  ∀ T : State, T.heap = H → Stand p l e R s m args below meth c T locs cells slots → ∃ t, Steps p.tables e below ((T.setTop g).pushFrame (.throwing q)) t ∧ Q t
def vx_Run (p : Program) (l : Launch) (e : Env) (R : Room) (s : State) (m : MethodId) (args : Array Value) (below : List Frame) (meth : Method) (c : Code) (H : Heap) (locs : List Loc) (cells slots mc ms : Nat) (g : JFrame) (rest : List Value) (Qa : State → Outcome → State → Prop) (XC : String → State → State → Prop) (free : Addr → Prop) : Prop :=
  ∀ T : State, T.heap = H → Stand p l e R s m args below meth c T locs cells slots →
    (∃ (v : Option Value) (st₀ t T' : State) (L : List Loc), st₀.heap = H ∧ Stand p l e R s m args below meth c T' (locs ++ L) (cells + mc) (slots + ms) ∧ (∀ q ∈ L, free q.base) ∧ T'.heap = t.heap ∧ T'.vm = t.vm ∧ Qa st₀ (.returned v) t ∧
      Goes p e below T g T' { g with pc := g.pc + 3, stack := v.toList ++ rest }) ∨
    (∃ (q : Addr) (st₀ t T' : State) (L : List Loc) (E : String) (ce : Cell), st₀.heap = H ∧ Stand p l e R s m args below meth c T' (locs ++ L) (cells + mc) (slots + ms) ∧ (∀ z ∈ L, free z.base) ∧ T'.heap = t.heap ∧ T'.vm = t.vm ∧ XC E st₀ t ∧ t.heap[q]? = some ce ∧ ce.vm = .none ∧ s.vm.findClass E = some ce.cls ∧
      Steps p.tables e below (T.setTop g) ((T'.setTop { g with stack := rest }).pushFrame (.throwing q)))
def vx_X {S : Type} (px : S → Prop) (B : String → S → State → Prop) (A : Nat → Prop) : String → State → State → Prop := fun E st t => ∃ u : S, px u ∧ B E u t ∧ va_F A st t
section Runs
variable {p : Program} {l : Launch} {e : Env} {R : Room} {s : State} {m : MethodId} {args : Array Value} {below : List Frame} {meth : Method} {c : Code} {H : Heap} {locs : List Loc} {cells slots : Nat}
variable {y : MethodName} {bytes cc : ByteArray} {maxL nL mc ms n index : Nat} {ret : Option FieldType} {ws : List Cond} {rm : Room} {Pc : Array Value → State → Prop} {Qc : Array Value → State → Outcome → State → Prop} {XC : String → State → State → Prop} {free : Addr → Prop} {Ts : List Cond} {own C : String} {b : Addr} {As rest : List Value} {g : JFrame}
theorem vx_callBack (cb : CallB R s args own index y bytes maxL ret ws rm mc ms n) (hM : vx_Met l y ws rm Pc Qc XC mc ms free) (hbl : FrameBlind Pc) : vx_Back l R p e below s args y 3 8 (PreOf R mc ms Pc) (PostOf Qc mc ms free) (vx_Post XC mc ms free) := by
  obtain ⟨hrc, hrs, hfr, hlo, hws, hcw, -, hini, -⟩ := cb
  exact vx_back (bytes := bytes) (maxL := maxL) (ret := ret) hM hbl hrc hrs hfr hlo hws hcw (fun a' U hW => word_at hW (Or.inl (by first | rfl | simp [Cond.onTables, Cond.keeps, Cond.steady])) hini)
theorem vx_runV (S : CallFix p m c cc nL s args Ts own) (hM : vx_Met l y ws rm Pc Qc XC mc ms free) (cw : CallW R s args own C index y bytes maxL ret ws rm mc ms n) (hp : PreV s H C b Pc As)
    (hg : g.method = m) (hn : As.length = n) (hsize : g.locals.size = nL) (hstack : g.stack = As.reverse ++ .ref b :: rest) (hW : 2 * g.monitorRoom + (rest.map fun v => v.category).sum ≤ 8) (hdg : decode cc g.pc = .ok (.invokevirtual index, 3)) (hf : cells + mc ≤ R.cells ∧ slots + ms ≤ R.slots) :
    vx_Run p l e R s m args below meth c H locs cells slots mc ms g rest (Qc (Value.ref b :: As).toArray) XC free := by
  have hK : vx_Back l R p e below s args y 3 8 (PreOf R mc ms Pc) (PostOf Qc mc ms free) (vx_Post XC mc ms free) := vx_callBack cw.1 hM hp.1
  obtain ⟨⟨-, -, -, -, -, -, hcode, -, hy, hlen, hl⟩, hin, hse⟩ := cw
  obtain ⟨hx, hb, hml, ho, -⟩ := S
  obtain ⟨-, ⟨cellB, hcB, hoB, hclB⟩, hPc⟩ := hp
  intro T hT X
  rcases vx_callV X hx (C := C) (bytes := bytes) (maxL := maxL) (ret := ret) ho hl hin hse hcode hy hK (by rw [hT]; exact hcB) hoB hclB hg (hsize.trans hml.symm) (argsL := As) (rest := rest) (fun sig h => hn.trans (hlen sig h)) hstack hW (by rw [hb]; exact hdg)
    (fun vm₁ hW₁ => ⟨hf.1, hf.2, hPc (T.setVm vm₁) hT hW₁⟩) with ⟨v, vm₁, ⟨U', l2, c2, s2⟩, hW₁, X', ⟨g', mk, t, L, e1, e2, hq, h1, hL, h2, h3⟩, st⟩ | ⟨q, vm₁, ⟨U', l2, c2, s2⟩, hW₁, X', ⟨g', mk, t, L, E, ce, e1, e2, hq, hce, hcv, hcl, h1, hL, h2, h3⟩, st⟩
  · dsimp only [Pt.U, Pt.locs, Pt.cells, Pt.slots] at X' e1 e2 h1 h2 h3 st
    subst h1; subst h2; subst h3
    exact Or.inl ⟨v, (T.setVm vm₁).calling g' mk (Value.ref b :: As).toArray, t, U', L, hT, X', hL, e1, e2, hq, st⟩
  · dsimp only [Pt.U, Pt.locs, Pt.cells, Pt.slots] at X' e1 e2 h1 h2 h3 st hcl
    subst h1; subst h2; subst h3
    exact Or.inr ⟨q, (T.setVm vm₁).calling g' mk (Value.ref b :: As).toArray, t, U', L, E, ce, hT, X', hL, e1, e2, hq, hce, hcv, vx_cls hW₁ hcl, st⟩
theorem vx_runS (S : CallFix p m c cc nL s args Ts own) (hM : vx_Met l y ws rm Pc Qc XC mc ms free) (cw : CallB R s args own index y bytes maxL ret ws rm mc ms n ∧ (Cond.static y).before args s = true) (hp : PreS s H Pc As)
    (hg : g.method = m) (hn : As.length = n) (hsize : g.locals.size = nL) (hstack : g.stack = As.reverse ++ rest) (hW : 2 * g.monitorRoom + (rest.map fun v => v.category).sum ≤ 8) (hdg : decode cc g.pc = .ok (.invokestatic index, 3)) (hf : cells + mc ≤ R.cells ∧ slots + ms ≤ R.slots) :
    vx_Run p l e R s m args below meth c H locs cells slots mc ms g rest (Qc As.toArray) XC free := by
  have hK : vx_Back l R p e below s args y 3 8 (PreOf R mc ms Pc) (PostOf Qc mc ms free) (vx_Post XC mc ms free) := vx_callBack cw.1 hM hp.1
  obtain ⟨⟨-, -, -, -, -, -, hcode, hini, hy, hlen, hl⟩, hstt⟩ := cw
  obtain ⟨hx, hb, hml, ho, -⟩ := S
  intro T hT X
  rcases vx_callS X hx (bytes := bytes) (maxL := maxL) (ret := ret) ho hl hstt hini hcode hy hK hg (hsize.trans hml.symm) (argsL := As) (rest := rest) (fun sig h => hn.trans (hlen sig h)) hstack hW (by rw [hb]; exact hdg)
    (fun vm₁ hW₁ => ⟨hf.1, hf.2, hp.2 (T.setVm vm₁) hT hW₁⟩) with ⟨v, vm₁, ⟨U', l2, c2, s2⟩, hW₁, X', ⟨g', mk, t, L, e1, e2, hq, h1, hL, h2, h3⟩, st⟩ | ⟨q, vm₁, ⟨U', l2, c2, s2⟩, hW₁, X', ⟨g', mk, t, L, E, ce, e1, e2, hq, hce, hcv, hcl, h1, hL, h2, h3⟩, st⟩
  · dsimp only [Pt.U, Pt.locs, Pt.cells, Pt.slots] at X' e1 e2 h1 h2 h3 st
    subst h1; subst h2; subst h3
    exact Or.inl ⟨v, (T.setVm vm₁).calling g' mk As.toArray, t, U', L, hT, X', hL, e1, e2, hq, st⟩
  · dsimp only [Pt.U, Pt.locs, Pt.cells, Pt.slots] at X' e1 e2 h1 h2 h3 st hcl
    subst h1; subst h2; subst h3
    exact Or.inr ⟨q, (T.setVm vm₁).calling g' mk As.toArray, t, U', L, E, ce, hT, X', hL, e1, e2, hq, hce, hcv, vx_cls hW₁ hcl, st⟩
end Runs
section Rows
variable {p : Program} {l : Launch} {e : Env} {R : Room} {s : State} {m : MethodId} {args : Array Value} {below : List Frame} {meth : Method} {c : Code} {H : Heap} {locs : List Loc} {cells slots : Nat} {Q : State → Prop}
variable {mc ms : Nat} {free : Addr → Prop} {A0 A1 : Nat → Prop} {H0 : Heap} {a : Array Value} {pc : Nat} {ls : Array Slot} {st0 rest : List Value}
theorem vx_keep {st₀ t T' : State} {L : List Loc} (h0 : st₀.heap = H) (e1 : T'.heap = t.heap) (hS : va_S A0 H0 H locs) (hA : ∀ q, q < H.size → A1 q → A0 q) (hf : ∀ q, free q → A0 q) (hL : ∀ q ∈ L, free q.base) (hF : va_F A1 st₀ t) :
    H.size ≤ T'.heap.size ∧ (∀ q : Nat, q < H.size → ¬ A1 q → T'.heap[q]? = H[q]?) ∧ va_S A0 H0 T'.heap (locs ++ L) := by
  obtain ⟨hz, hk⟩ := hF
  rw [h0] at hz hk
  exact ⟨by rw [e1]; exact hz, fun q h1 h2 => by rw [e1]; exact hk q h1 h2,
    ⟨Nat.le_trans hS.1 (by rw [e1]; exact hz), fun q h1 h2 => by rw [e1, hk q (Nat.lt_of_lt_of_le h1 hS.1) (fun z => h2 (hA q (Nat.lt_of_lt_of_le h1 hS.1) z))]; exact hS.2.1 q h1 h2, fun q hq => by
      rcases List.mem_append.mp hq with h | h
      · exact hS.2.2 q h
      · exact hf _ (hL q h)⟩⟩
theorem vx_calli {S SX : Type} {post : Int32 → S → Prop} {px : SX → Prop} {B : S → State → Prop} {BX : String → SX → State → Prop} {AX : Nat → Prop} (hr : vx_Run p l e R s m args below meth c H locs cells slots mc ms (F0 m pc ls st0) rest (va_Qi post B A1 a) (vx_X px BX AX) free) (hS : va_S A0 H0 H locs) (hA : ∀ q, q < H.size → A1 q → A0 q) (hf : ∀ q, free q → A0 q) (hAX : ∀ q, q < H.size → AX q → A0 q)
    (kx : ∀ (E : String) (ce : Cell) (q9 : Addr) (u : SX) (t : State) (H1 : Heap) (locs1 : List Loc), t.heap = H1 → s.vm.Alike t.vm → px u → BX E u t → H.size ≤ H1.size → (∀ q : Nat, q < H.size → ¬ AX q → H1[q]? = H[q]?) → va_S A0 H0 H1 locs1 → H1[q9]? = some ce → ce.vm = .none → s.vm.findClass E = some ce.cls → vx_W p l e R s m args below meth c H1 locs1 (cells + mc) (slots + ms) Q (F0 m pc ls rest) q9)
    (kk : ∀ (r : Int32) (u : S) (t : State) (H1 : Heap) (locs1 : List Loc), t.heap = H1 → s.vm.Alike t.vm → post r u → B u t → H.size ≤ H1.size → (∀ q : Nat, q < H.size → ¬ A1 q → H1[q]? = H[q]?) → va_S A0 H0 H1 locs1 → W p l e R s m args below meth c H1 locs1 (cells + mc) (slots + ms) Q (F0 m (pc + 3) ls (.int r :: rest))) : W p l e R s m args below meth c H locs cells slots Q (F0 m pc ls st0) := by
  intro T hT X
  rcases hr T hT X with ⟨v, st₀, t, T', L, h0, X', hL, e1, e2, ⟨⟨r, u, hv, hp, hb⟩, hF⟩, st⟩ | ⟨q, st₀, t, T', L, E, ce, h0, X', hL, e1, e2, ⟨u, hp, hb, hF⟩, hce, hcv, hcl, st⟩
  · cases hv
    obtain ⟨k1, k2, k3⟩ := vx_keep h0 e1 hS hA hf hL hF
    obtain ⟨t2, a1, b1⟩ := kk r u t T'.heap (locs ++ L) e1.symm (by rw [← e2]; exact X'.warmed.alike) hp hb k1 k2 k3 T' rfl X'
    exact ⟨t2, st t2 a1, b1⟩
  · obtain ⟨k1, k2, k3⟩ := vx_keep h0 e1 hS hAX hf hL hF
    obtain ⟨t2, a1, b1⟩ := kx E ce q u t T'.heap (locs ++ L) e1.symm (by rw [← e2]; exact X'.warmed.alike) hp hb k1 k2 k3 (by rw [e1]; exact hce) hcv hcl T' rfl X'
    exact ⟨t2, st.trans a1, b1⟩
theorem vx_calll {S SX : Type} {post : Int64 → S → Prop} {px : SX → Prop} {B : S → State → Prop} {BX : String → SX → State → Prop} {AX : Nat → Prop} (hr : vx_Run p l e R s m args below meth c H locs cells slots mc ms (F0 m pc ls st0) rest (va_Ql post B A1 a) (vx_X px BX AX) free) (hS : va_S A0 H0 H locs) (hA : ∀ q, q < H.size → A1 q → A0 q) (hf : ∀ q, free q → A0 q) (hAX : ∀ q, q < H.size → AX q → A0 q)
    (kx : ∀ (E : String) (ce : Cell) (q9 : Addr) (u : SX) (t : State) (H1 : Heap) (locs1 : List Loc), t.heap = H1 → s.vm.Alike t.vm → px u → BX E u t → H.size ≤ H1.size → (∀ q : Nat, q < H.size → ¬ AX q → H1[q]? = H[q]?) → va_S A0 H0 H1 locs1 → H1[q9]? = some ce → ce.vm = .none → s.vm.findClass E = some ce.cls → vx_W p l e R s m args below meth c H1 locs1 (cells + mc) (slots + ms) Q (F0 m pc ls rest) q9)
    (kk : ∀ (r : Int64) (u : S) (t : State) (H1 : Heap) (locs1 : List Loc), t.heap = H1 → s.vm.Alike t.vm → post r u → B u t → H.size ≤ H1.size → (∀ q : Nat, q < H.size → ¬ A1 q → H1[q]? = H[q]?) → va_S A0 H0 H1 locs1 → W p l e R s m args below meth c H1 locs1 (cells + mc) (slots + ms) Q (F0 m (pc + 3) ls (.long r :: rest))) : W p l e R s m args below meth c H locs cells slots Q (F0 m pc ls st0) := by
  intro T hT X
  rcases hr T hT X with ⟨v, st₀, t, T', L, h0, X', hL, e1, e2, ⟨⟨r, u, hv, hp, hb⟩, hF⟩, st⟩ | ⟨q, st₀, t, T', L, E, ce, h0, X', hL, e1, e2, ⟨u, hp, hb, hF⟩, hce, hcv, hcl, st⟩
  · cases hv
    obtain ⟨k1, k2, k3⟩ := vx_keep h0 e1 hS hA hf hL hF
    obtain ⟨t2, a1, b1⟩ := kk r u t T'.heap (locs ++ L) e1.symm (by rw [← e2]; exact X'.warmed.alike) hp hb k1 k2 k3 T' rfl X'
    exact ⟨t2, st t2 a1, b1⟩
  · obtain ⟨k1, k2, k3⟩ := vx_keep h0 e1 hS hAX hf hL hF
    obtain ⟨t2, a1, b1⟩ := kx E ce q u t T'.heap (locs ++ L) e1.symm (by rw [← e2]; exact X'.warmed.alike) hp hb k1 k2 k3 (by rw [e1]; exact hce) hcv hcl T' rfl X'
    exact ⟨t2, st.trans a1, b1⟩
theorem vx_callf {S SX : Type} {post : UInt32 → S → Prop} {px : SX → Prop} {B : S → State → Prop} {BX : String → SX → State → Prop} {AX : Nat → Prop} (hr : vx_Run p l e R s m args below meth c H locs cells slots mc ms (F0 m pc ls st0) rest (va_Qf post B A1 a) (vx_X px BX AX) free) (hS : va_S A0 H0 H locs) (hA : ∀ q, q < H.size → A1 q → A0 q) (hf : ∀ q, free q → A0 q) (hAX : ∀ q, q < H.size → AX q → A0 q)
    (kx : ∀ (E : String) (ce : Cell) (q9 : Addr) (u : SX) (t : State) (H1 : Heap) (locs1 : List Loc), t.heap = H1 → s.vm.Alike t.vm → px u → BX E u t → H.size ≤ H1.size → (∀ q : Nat, q < H.size → ¬ AX q → H1[q]? = H[q]?) → va_S A0 H0 H1 locs1 → H1[q9]? = some ce → ce.vm = .none → s.vm.findClass E = some ce.cls → vx_W p l e R s m args below meth c H1 locs1 (cells + mc) (slots + ms) Q (F0 m pc ls rest) q9)
    (kk : ∀ (r : UInt32) (u : S) (t : State) (H1 : Heap) (locs1 : List Loc), t.heap = H1 → s.vm.Alike t.vm → post r u → B u t → H.size ≤ H1.size → (∀ q : Nat, q < H.size → ¬ A1 q → H1[q]? = H[q]?) → va_S A0 H0 H1 locs1 → W p l e R s m args below meth c H1 locs1 (cells + mc) (slots + ms) Q (F0 m (pc + 3) ls (.float r :: rest))) : W p l e R s m args below meth c H locs cells slots Q (F0 m pc ls st0) := by
  intro T hT X
  rcases hr T hT X with ⟨v, st₀, t, T', L, h0, X', hL, e1, e2, ⟨⟨r, u, hv, hp, hb⟩, hF⟩, st⟩ | ⟨q, st₀, t, T', L, E, ce, h0, X', hL, e1, e2, ⟨u, hp, hb, hF⟩, hce, hcv, hcl, st⟩
  · cases hv
    obtain ⟨k1, k2, k3⟩ := vx_keep h0 e1 hS hA hf hL hF
    obtain ⟨t2, a1, b1⟩ := kk r u t T'.heap (locs ++ L) e1.symm (by rw [← e2]; exact X'.warmed.alike) hp hb k1 k2 k3 T' rfl X'
    exact ⟨t2, st t2 a1, b1⟩
  · obtain ⟨k1, k2, k3⟩ := vx_keep h0 e1 hS hAX hf hL hF
    obtain ⟨t2, a1, b1⟩ := kx E ce q u t T'.heap (locs ++ L) e1.symm (by rw [← e2]; exact X'.warmed.alike) hp hb k1 k2 k3 (by rw [e1]; exact hce) hcv hcl T' rfl X'
    exact ⟨t2, st.trans a1, b1⟩
theorem vx_calld {S SX : Type} {post : UInt64 → S → Prop} {px : SX → Prop} {B : S → State → Prop} {BX : String → SX → State → Prop} {AX : Nat → Prop} (hr : vx_Run p l e R s m args below meth c H locs cells slots mc ms (F0 m pc ls st0) rest (va_Qd post B A1 a) (vx_X px BX AX) free) (hS : va_S A0 H0 H locs) (hA : ∀ q, q < H.size → A1 q → A0 q) (hf : ∀ q, free q → A0 q) (hAX : ∀ q, q < H.size → AX q → A0 q)
    (kx : ∀ (E : String) (ce : Cell) (q9 : Addr) (u : SX) (t : State) (H1 : Heap) (locs1 : List Loc), t.heap = H1 → s.vm.Alike t.vm → px u → BX E u t → H.size ≤ H1.size → (∀ q : Nat, q < H.size → ¬ AX q → H1[q]? = H[q]?) → va_S A0 H0 H1 locs1 → H1[q9]? = some ce → ce.vm = .none → s.vm.findClass E = some ce.cls → vx_W p l e R s m args below meth c H1 locs1 (cells + mc) (slots + ms) Q (F0 m pc ls rest) q9)
    (kk : ∀ (r : UInt64) (u : S) (t : State) (H1 : Heap) (locs1 : List Loc), t.heap = H1 → s.vm.Alike t.vm → post r u → B u t → H.size ≤ H1.size → (∀ q : Nat, q < H.size → ¬ A1 q → H1[q]? = H[q]?) → va_S A0 H0 H1 locs1 → W p l e R s m args below meth c H1 locs1 (cells + mc) (slots + ms) Q (F0 m (pc + 3) ls (.double r :: rest))) : W p l e R s m args below meth c H locs cells slots Q (F0 m pc ls st0) := by
  intro T hT X
  rcases hr T hT X with ⟨v, st₀, t, T', L, h0, X', hL, e1, e2, ⟨⟨r, u, hv, hp, hb⟩, hF⟩, st⟩ | ⟨q, st₀, t, T', L, E, ce, h0, X', hL, e1, e2, ⟨u, hp, hb, hF⟩, hce, hcv, hcl, st⟩
  · cases hv
    obtain ⟨k1, k2, k3⟩ := vx_keep h0 e1 hS hA hf hL hF
    obtain ⟨t2, a1, b1⟩ := kk r u t T'.heap (locs ++ L) e1.symm (by rw [← e2]; exact X'.warmed.alike) hp hb k1 k2 k3 T' rfl X'
    exact ⟨t2, st t2 a1, b1⟩
  · obtain ⟨k1, k2, k3⟩ := vx_keep h0 e1 hS hAX hf hL hF
    obtain ⟨t2, a1, b1⟩ := kx E ce q u t T'.heap (locs ++ L) e1.symm (by rw [← e2]; exact X'.warmed.alike) hp hb k1 k2 k3 (by rw [e1]; exact hce) hcv hcl T' rfl X'
    exact ⟨t2, st.trans a1, b1⟩
theorem vx_callv {S SX : Type} {post : S → Prop} {px : SX → Prop} {B : S → State → Prop} {BX : String → SX → State → Prop} {AX : Nat → Prop} (hr : vx_Run p l e R s m args below meth c H locs cells slots mc ms (F0 m pc ls st0) rest (va_Qv post B A1 a) (vx_X px BX AX) free) (hS : va_S A0 H0 H locs) (hA : ∀ q, q < H.size → A1 q → A0 q) (hf : ∀ q, free q → A0 q) (hAX : ∀ q, q < H.size → AX q → A0 q)
    (kx : ∀ (E : String) (ce : Cell) (q9 : Addr) (u : SX) (t : State) (H1 : Heap) (locs1 : List Loc), t.heap = H1 → s.vm.Alike t.vm → px u → BX E u t → H.size ≤ H1.size → (∀ q : Nat, q < H.size → ¬ AX q → H1[q]? = H[q]?) → va_S A0 H0 H1 locs1 → H1[q9]? = some ce → ce.vm = .none → s.vm.findClass E = some ce.cls → vx_W p l e R s m args below meth c H1 locs1 (cells + mc) (slots + ms) Q (F0 m pc ls rest) q9)
    (kk : ∀ (u : S) (t : State) (H1 : Heap) (locs1 : List Loc), t.heap = H1 → s.vm.Alike t.vm → post u → B u t → H.size ≤ H1.size → (∀ q : Nat, q < H.size → ¬ A1 q → H1[q]? = H[q]?) → va_S A0 H0 H1 locs1 → W p l e R s m args below meth c H1 locs1 (cells + mc) (slots + ms) Q (F0 m (pc + 3) ls (rest))) : W p l e R s m args below meth c H locs cells slots Q (F0 m pc ls st0) := by
  intro T hT X
  rcases hr T hT X with ⟨v, st₀, t, T', L, h0, X', hL, e1, e2, ⟨⟨u, hv, hp, hb⟩, hF⟩, st⟩ | ⟨q, st₀, t, T', L, E, ce, h0, X', hL, e1, e2, ⟨u, hp, hb, hF⟩, hce, hcv, hcl, st⟩
  · cases hv
    obtain ⟨k1, k2, k3⟩ := vx_keep h0 e1 hS hA hf hL hF
    obtain ⟨t2, a1, b1⟩ := kk u t T'.heap (locs ++ L) e1.symm (by rw [← e2]; exact X'.warmed.alike) hp hb k1 k2 k3 T' rfl X'
    exact ⟨t2, st t2 a1, b1⟩
  · obtain ⟨k1, k2, k3⟩ := vx_keep h0 e1 hS hAX hf hL hF
    obtain ⟨t2, a1, b1⟩ := kx E ce q u t T'.heap (locs ++ L) e1.symm (by rw [← e2]; exact X'.warmed.alike) hp hb k1 k2 k3 (by rw [e1]; exact hce) hcv hcl T' rfl X'
    exact ⟨t2, st.trans a1, b1⟩
/-- caught by the row x of this method's table; the rows ahead don't take it -/
theorem vx_catch {own name : String} {E : String} {ce : Cell} {q : Addr} (hown : s.vm.findClass own = some m.cls) (pre : List ExceptionTableEntry) (x : ExceptionTableEntry) (suf : List ExceptionTableEntry) (hsplit : c.exceptionTable.toList = pre ++ x :: suf)
    (hpass : ∀ z ∈ pre, covers z pc = false ∨ (z.catchType ≠ 0 ∧ ∃ nm : String, (Cond.classLink own z.catchType nm).before args s = true ∧ va_Nc E nm s)) (hx : covers x pc = true) (h0 : x.catchType ≠ 0)
    (hlink : (Cond.classLink own x.catchType name).before args s = true) (hcast : (Cond.castable E name).before args s = true) (hcell : H[q]? = some ce) (hv : ce.vm = .none) (hcl : s.vm.findClass E = some ce.cls)
    (kk : W p l e R s m args below meth c H locs cells slots Q (F0 m x.handlerPc ls [.ref q])) : vx_W p l e R s m args below meth c H locs cells slots Q (F0 m pc ls rest) q := by
  intro T hT X
  have hpl : e.platform.magicAccessors = ({} : Platform).magicAccessors := by rw [X.admits.platform]
  obtain ⟨c3, c4, hc3, hc4, hasg⟩ := Cond.castable_spec hcast
  cases Option.some.inj (hc3.symm.trans hcl)
  obtain ⟨c5, hc5, hcl5⟩ := Cond.classLink_spec hown hlink e.platform hpl
  cases Option.some.inj (hc4.symm.trans hc5)
  obtain ⟨vm', X', st⟩ := X.thenCaughtThrough q (g := F0 m pc ls rest) rfl (Steps.refl _) (by rw [hT]; exact hcell) (by rw [hv]; rfl) (by obtain ⟨k9, h9, -⟩ := Vm.findClass_spec hcl; exact ⟨k9, h9⟩) pre x suf hsplit
    (fun z hz => by
      rcases hpass z hz with h | ⟨hz0, nm, hl1, hn1⟩
      · exact Or.inl h
      · obtain ⟨c6, hc6, hcl6⟩ := Cond.classLink_spec hown hl1 e.platform hpl
        obtain ⟨a8, b8, h1, h2, h3⟩ := hn1
        cases Option.some.inj (h1.symm.trans hcl)
        cases Option.some.inj (h2.symm.trans hc6)
        exact Or.inr ⟨hz0, _, hcl6, h3⟩) hx (Or.inr ⟨h0, c4, hcl5, hasg⟩)
  obtain ⟨t, a1, b1⟩ := kk (T.setVm vm') hT X'
  exact ⟨t, st.trans a1, b1⟩
end Rows
section Ends
variable {p : Program} {l : Launch} {e : Env} {R : Room} {s : State} {m : MethodId} {args : Array Value} {below : List Frame} {meth : Method} {c : Code} {H : Heap} {locs : List Loc} {cells slots : Nat} {Q : State → Prop}
variable {mc ms : Nat} {free : Addr → Prop} {A0 A1 : Nat → Prop} {H0 : Heap} {a : Array Value} {ls : Array Slot} {st0 rest : List Value}
variable {Qc : Array Value → State → Outcome → State → Prop} {XC : String → State → State → Prop}
/-- what a body that may throw owes at its end -/
def vx_MQ (below : List Frame) (Qc : Array Value → State → Outcome → State → Prop) (XC : String → State → State → Prop) (a : Array Value) (s : State) (mc ms : Nat) (free : Addr → Prop) : State → Prop := fun t =>
  ∃ o, t.status = .running ∧ Ended t below o ∧ vx_Q Qc XC mc ms free a s o t
theorem vx_ret {g : JFrame} {mc ms : Nat} (k : W p l e R s m args below meth c H locs cells slots (MQ below Qc args s mc ms free) g) : W p l e R s m args below meth c H locs cells slots (vx_MQ below Qc XC args s mc ms free) g := by
  intro T hT X
  obtain ⟨t, a1, o, b1, b2, b3, b4⟩ := k T hT X
  exact ⟨t, a1, o, b1, b2, Or.inl ⟨b3, b4⟩⟩
/-- not caught here: it goes on to the caller -/
theorem vx_widen {g : JFrame} {q : Addr} {k n : Nat} (h1 : cells ≤ k) (h2 : slots ≤ n) (kk : vx_W p l e R s m args below meth c H locs k n Q g q) : vx_W p l e R s m args below meth c H locs cells slots Q g q := fun T hT X => kk T hT (stand_widen X h1 h2)
theorem vx_out {pc : Nat} {E : String} {ce : Cell} {q : Addr} {mc ms : Nat} (hout : ∀ x ∈ c.exceptionTable.toList, covers x pc = false) (hlocks : meth.locks = false) (hcell : H[q]? = some ce) (hv : ce.vm = .none) (hcl : s.vm.findClass E = some ce.cls)
    (hx : ∀ t : State, t.heap = H → s.vm.Alike t.vm → XC E s t) (hf : ∀ z ∈ locs, free z.base) (hc : cells ≤ mc) (hs : slots ≤ ms) :
    vx_W p l e R s m args below meth c H locs cells slots (vx_MQ below Qc XC args s mc ms free) (F0 m pc ls rest) q := by
  intro T hT X
  obtain ⟨st1, hrun, hend, hW, hsm⟩ := X.leaveThrown q (g := F0 m pc ls rest) rfl rfl rfl hout hlocks
  have hcell9 : (T.setFrames (.throwing q :: below)).heap[q]? = some ce := by
    show T.heap[q]? = some ce
    rw [hT]; exact hcell
  exact ⟨_, st1, .threw q, hrun, hend, Or.inr ⟨q, rfl, E, ce, locs, hx _ hT hW.alike, hcell9, hv, hcl, hW, hsm.mono hc hs, hf⟩⟩
theorem vx_frame {U : State} {k n : Nat} (h : s.sameButNew ({ U with vm := s.vm } : State) locs k n) : s.heap.size ≤ U.heap.size ∧ ∀ q : Nat, q < s.heap.size → (∀ z ∈ locs, z.base ≠ q) → U.heap[q]? = s.heap[q]? := by
  obtain ⟨-, h2, -, -, -, h6⟩ := h
  refine ⟨h2, fun q hq hz => ?_⟩
  obtain ⟨c9, e1, e2, e3, e4⟩ := h6 q _ (Array.getElem?_eq_getElem hq)
  have hs : c9.slots = (s.heap[q]).slots := Array.ext_getElem? fun i => e4 i fun hm => hz _ hm rfl
  have h9 : c9 = s.heap[q] := by
    rw [hs] at e2
    exact e2
  have e5 : U.heap[q]? = some c9 := e1
  rw [e5, h9, Array.getElem?_eq_getElem hq]
/-- the words of a throw but the four that speak of the heap -/
def vx_no (w : Cond) : Bool := decide (w ≠ .isRef (.static Bundle.tN "UNASSIGNED_STACK" Bundle.steD)) && decide (w ≠ .isRef (.static Bundle.tN "SUPPRESSED_SENTINEL" Bundle.listD)) && decide (w ≠ .laysStatic Bundle.tN "UNASSIGNED_STACK" Bundle.steD) && decide (w ≠ .laysStatic Bundle.tN "SUPPRESSED_SENTINEL" Bundle.listD)
def vx_at0 (own : String) (ic : Nat) (X : String) (names : List String) : List Cond := (Bundle.ownAtoms0 own ic X names).filter vx_no
def vx_atS (own : String) (ic : Nat) (X : String) (names : List String) : List Cond := (Bundle.ownAtoms own ic X names).filter vx_no
/-- a word that the tables alone decide, or a good one -/
def vx_ot (w : Cond) : Bool := w.onTables || goodWord w
theorem vx_ot_at {args a' : Array Value} {s U : State} {w : Cond} (hW : s.WarmedH U.vm) (hvm : s.vm = U.vm) (hg : vx_ot w = true) (h : w.before args s = true) : w.before a' U = true := by
  simp only [vx_ot, Bool.or_eq_true] at hg
  rcases hg with hg | hg
  · exact va_tabs hg hvm h
  · exact word_at hW (good_of_word hg) h
/-- a list's words: the good ones out of the method's own list, the others by premises of their own -/
theorem vx_hat {args : Array Value} {s : State} {L B : List Cond} (h1 : ∀ w ∈ L.filter goodWord, w.before args s = true) (h2 : ∀ w ∈ L.filter (fun w => !goodWord w), w ∈ B) (h3 : ∀ w ∈ B, w.before args s = true) : ∀ w ∈ L, w.before args s = true := by
  intro w hw
  by_cases g : goodWord w = true
  · exact h1 w (List.mem_filter.mpr ⟨hw, g⟩)
  · refine h3 w (h2 w (List.mem_filter.mpr ⟨hw, ?_⟩))
    show (!goodWord w) = true
    cases hgw : goodWord w
    · rfl
    · exact absurd hgw g
theorem vx_c {args : Array Value} {s : State} {w : Cond} {B : List Cond} (h : w.before args s = true) (t : ∀ w ∈ B, w.before args s = true) : ∀ w' ∈ w :: B, w'.before args s = true := fun w' h' => (List.mem_cons.mp h').elim (fun e => by rw [e]; exact h) (t w')
theorem vx_n {args : Array Value} {s : State} : ∀ w ∈ ([] : List Cond), w.before args s = true := fun _ h => nomatch h
theorem vx_own {args : Array Value} {s : State} {L : List Cond} (h1 : ∀ w ∈ L.filter vx_no, w.before args s = true)
    (hU : (Cond.isRef (.static Bundle.tN "UNASSIGNED_STACK" Bundle.steD)).before args s = true) (hN : (Cond.isRef (.static Bundle.tN "SUPPRESSED_SENTINEL" Bundle.listD)).before args s = true)
    (lU : (Cond.laysStatic Bundle.tN "UNASSIGNED_STACK" Bundle.steD).before args s = true) (lN : (Cond.laysStatic Bundle.tN "SUPPRESSED_SENTINEL" Bundle.listD).before args s = true) : ∀ w ∈ L, w.before args s = true := by
  intro w hw
  by_cases e1 : w = .isRef (.static Bundle.tN "UNASSIGNED_STACK" Bundle.steD)
  · rw [e1]; exact hU
  · by_cases e2 : w = .isRef (.static Bundle.tN "SUPPRESSED_SENTINEL" Bundle.listD)
    · rw [e2]; exact hN
    · by_cases e3 : w = .laysStatic Bundle.tN "UNASSIGNED_STACK" Bundle.steD
      · rw [e3]; exact lU
      · by_cases e4 : w = .laysStatic Bundle.tN "SUPPRESSED_SENTINEL" Bundle.listD
        · rw [e4]; exact lN
        · exact h1 w (List.mem_filter.mpr ⟨hw, by unfold vx_no; rw [decide_eq_true e1, decide_eq_true e2, decide_eq_true e3, decide_eq_true e4]; rfl⟩)
/-- where a static field lies, its class's statics cell in H -/
def vx_L (C n d : String) (A : Nat → Prop) (U : State) (H : Heap) : Prop := ∃ (c : ClassId) (k : Class) (i : Nat) (f : Field) (a : Nat) (cell : Cell), U.vm.findClass C = some c ∧ U.fieldFound? C n d = some (c, k, i, f) ∧ f.isStatic = true ∧ k.statics = some a ∧ H[a]? = some cell ∧ cell.vm.isStatics = true ∧ cell.cls = c ∧ f.slot < cell.slots.size ∧ k.staticTypes[f.slot]? = some f.type ∧ ¬ A a
theorem vx_L.moved {C n d : String} {A : Nat → Prop} {u U : State} {H : Heap} (hvm : u.vm.Alike U.vm) (h : vx_L C n d A u H) : vx_L C n d A U H := by
  obtain ⟨c, k, i, f, a, cell, h1, h2, h3, h4, h5, h6, h7, h8, h9, h10⟩ := h
  obtain ⟨k', hi', he⟩ := State.fieldFound?_setVm hvm h2
  exact ⟨c, k', i, f, a, cell, by rw [hvm.findClass]; exact h1, hi', h3, by rw [he]; exact h4, h5, h6, h7, h8, by rw [he]; exact h9, h10⟩
theorem vx_L.kept {C n d : String} {A : Nat → Prop} {U : State} {H H1 : Heap} (h : vx_L C n d A U H) (hq : ∀ a : Nat, a < H.size → ¬ A a → H1[a]? = H[a]?) : vx_L C n d A U H1 := by
  obtain ⟨c, k, i, f, a, cell, h1, h2, h3, h4, h5, h6, h7, h8, h9, h10⟩ := h
  exact ⟨c, k, i, f, a, cell, h1, h2, h3, h4, by rw [hq a (Array.getElem?_eq_some_iff.mp h5).1 h10]; exact h5, h6, h7, h8, h9, h10⟩
theorem vx_L.narrow {C n d : String} {A B : Nat → Prop} {U : State} {H : Heap} (h : vx_L C n d A U H) (hAB : ∀ q, B q → A q) : vx_L C n d B U H := by
  obtain ⟨c, k, i, f, a, cell, h1, h2, h3, h4, h5, h6, h7, h8, h9, h10⟩ := h
  exact ⟨c, k, i, f, a, cell, h1, h2, h3, h4, h5, h6, h7, h8, h9, fun z => h10 (hAB _ z)⟩
theorem vx_L.word {C n d : String} {A : Nat → Prop} {s : State} {args : Array Value} (h : vx_L C n d A s s.heap) : (Cond.laysStatic C n d).before args s = true := by
  obtain ⟨c, k, i, f, a, cell, h1, h2, h3, h4, h5, h6, h7, h8, h9, -⟩ := h
  show (Cond.laysStatic C n d).holds args s none s [] = true
  exact Cond.laysStatic_of h1 h2 h3 h4 h5 h6 h7 h8 h9
/-- .. and what it holds: null or some reference -/
def vx_Zq (C n d : String) (A : Nat → Prop) (U : State) (H : Heap) : Prop := va_Zq C n d A U H ∧ vx_L C n d A U H
theorem vx_Zq.moved {C n d : String} {A : Nat → Prop} {u U : State} {H : Heap} (hvm : u.vm.Alike U.vm) (h : vx_Zq C n d A u H) : vx_Zq C n d A U H := ⟨va_Zq.moved hvm h.1, vx_L.moved hvm h.2⟩
theorem vx_Zq.kept {C n d : String} {A : Nat → Prop} {U : State} {H H1 : Heap} (h : vx_Zq C n d A U H) (hq : ∀ a : Nat, a < H.size → ¬ A a → H1[a]? = H[a]?) : vx_Zq C n d A U H1 := ⟨va_Zq.kept h.1 hq, vx_L.kept h.2 hq⟩
theorem vx_Zq.narrow {C n d : String} {A B : Nat → Prop} {U : State} {H : Heap} (h : vx_Zq C n d A U H) (hAB : ∀ q, B q → A q) : vx_Zq C n d B U H := ⟨va_Zq.narrow h.1 hAB, vx_L.narrow h.2 hAB⟩
theorem vx_Zqof {args : Array Value} {s : State} {C n d : String} {A : Nat → Prop} (hl : (Cond.laysStatic C n d).before args s = true) (hini : (Cond.initialized C).before args s = true) (h : (Cond.isRef (.static C n d)).before args s = true) (hA : ∀ a : Nat, a < s.heap.size → ¬ A a) : vx_Zq C n d A s s.heap := by
  refine ⟨va_Zqof hl hini h hA, ?_⟩
  obtain ⟨c, k, i, f, a, cell, h1, h2, h3, h4, h5, h6, h7, h8, h9⟩ := Cond.laysStatic_spec hl
  exact ⟨c, k, i, f, a, cell, h1, h2, h3, h4, h5, h6, h7, h8, h9, hA a (Array.getElem?_eq_some_iff.mp h5).1⟩
theorem vx_isRef {C n d : String} {v : Value} {A : Nat → Prop} {s : State} {args : Array Value} (h : va_Z C n d v A s s.heap) (hv : v.isRef = true) : (Cond.isRef (.static C n d)).before args s = true := by
  obtain ⟨cf, kf, fi, f, a, cell, h1, h2, h3, h4, h5, h6, h7, -⟩ := h
  have he : (Term.static C n d).eval args s none [] s = some v := by
    simp [Term.eval, State.fieldNamed?, h1, h2, h4, h5, h6, h7]
  simp only [Cond.before, Cond.holds, Cond.value, he]
  cases v <;> simp_all [Value.isRef]
theorem vx_isRefq {C n d : String} {A : Nat → Prop} {s : State} {args : Array Value} (h : va_Zq C n d A s s.heap) : (Cond.isRef (.static C n d)).before args s = true := by
  rcases h with h | ⟨t, h⟩
  · exact vx_isRef h rfl
  · exact vx_isRef h rfl
/-- the same frame, seen from here: as if the method were called anew in this heap -/
theorem vx_rebase {T : State} (X : Stand p l e R s m args below meth c T locs cells slots) {R' : Room} (hf : R'.frames ≤ R.frames) (hl : R'.locals ≤ R.locals) (hc : cells + R'.cells ≤ R.cells) (hs : slots + R'.slots ≤ R.slots) :
    Stand p l e R' ((T.setVm s.vm).setFrames (.invoking m args :: below)) m args below meth c T [] 0 0 := by
  have htop : (T.setVm s.vm).topJava?.isSome := X.here.top
  have hF : ((T.setVm s.vm).setFrames (.invoking m args :: below)).frames = .invoking m args :: below := State.frames_setFrames _ (State.cur_lt_of_top htop)
  obtain ⟨g₀, hg0⟩ := Option.isSome_iff_exists.mp htop
  obtain ⟨r, hr⟩ := State.topJava?_eq_some.mp hg0
  have hl9 : e.platform.stackLimits (T.setVm s.vm).me = e.platform.stackLimits s.me := X.limits
  have hb9 : (T.setVm s.vm).me.stackBytes = s.me.stackBytes := X.bytes
  refine ⟨X.admits, X.cas, X.clock, hF, ?_, X.hears, X.method, X.code, X.here, X.tail, X.warmed, ?_, ?_, ?_⟩
  · have h := X.room
    have hU : ((T.setVm s.vm).setFrames (.invoking m args :: below)).localsInUse = s.localsInUse := by
      rw [State.localsInUse_invoking hF (meth := meth) (c := c) X.method X.code, State.localsInUse_invoking X.frames X.method X.code]
    simp only [State.hasRoom, Bool.and_eq_true, decide_eq_true_eq] at h ⊢
    obtain ⟨⟨⟨⟨h1, h2, h3, h4, h5, h6⟩, h7⟩, h8⟩, h9⟩ := h
    rw [X.frames, List.length_cons] at h2 h3
    have q1 := X.heapSize
    have q2 := X.used
    simp only [hF, hU, List.length_cons, State.stackLimits_setFrames, State.stackBytes_setFrames, hl9, hb9]
    refine ⟨⟨⟨⟨by omega, by omega, by omega, by omega, by omega, h6⟩, ?_⟩, ?_⟩, X.book⟩
    · show T.heap.size + R'.cells ≤ e.platform.maxCells
      omega
    · show T.slotsUsed + R'.slots ≤ e.platform.maxSlots
      omega
  · rw [State.stackLimits_setFrames]; rfl
  · rw [State.stackBytes_setFrames]; rfl
  · refine ⟨?_, Nat.le_refl _, Nat.le_refl _, ?_, ?_, fun a c9 h9 => ⟨c9, h9, rfl, rfl, fun _ _ => rfl⟩⟩
    · obtain ⟨t, ht, -⟩ := State.frames_cons hr
      show T.setVm s.vm = { ((T.setVm s.vm).setFrames (.invoking m args :: below)).setFrames (T.setVm s.vm).frames with heap := T.heap, slotsUsed := T.slotsUsed }
      rw [State.setFrames_setFrames, State.setFrames_self ht]
      rfl
    · show T.slotsUsed = T.slotsUsed + ((T.heap.toList.drop T.heap.size).map (·.slots.size)).sum
      rw [List.drop_eq_nil_of_le (Nat.le_of_eq Array.length_toList)]
      rfl
    · show ((T.heap.toList.drop T.heap.size).map (·.slots.size)).sum ≤ 0
      rw [List.drop_eq_nil_of_le (Nat.le_of_eq Array.length_toList)]
      exact Nat.le_refl _
/-- 'throw new E()': new; dup; invokespecial; athrow -/
theorem vx_throw0 {cc : ByteArray} {pc : Nat} (hexec : p.tables.exec = Jvm.exec) (hb : c.code = cc) (hl : l.stackTraces = false) {own cls : String} {names : List String} {ik ic mc ms : Nat} {A : Nat → Prop}
    (hown : s.vm.findClass own = some m.cls) (hcls : Bundle.fit cls = true) (hnames : ∀ n ∈ names, Bundle.fit n = true)
    (hk : (Cond.classLink own ik cls).before args s = true) (hini : (Cond.initialized cls).before args s = true) (hat : ∀ w ∈ vx_at0 own ic cls names, w.before args s = true)
    (hgood : ∀ w ∈ Cond.classLink own ik cls :: Cond.initialized cls :: vx_at0 own ic cls names, vx_ot w = true)
    (hU : vx_Zq Bundle.tN "UNASSIGNED_STACK" Bundle.steD A s s.heap) (hN : vx_Zq Bundle.tN "SUPPRESSED_SENTINEL" Bundle.listD A s s.heap) (hS : va_S A s.heap H locs) (hsize : ls.size = c.maxLocals)
    (d0 : decode cc pc = .ok (.new ik, 3)) (d3 : decode cc (pc + 3) = .ok (.dup, 1)) (d4 : decode cc (pc + 4) = .ok (.invokespecial ic, 3)) (d7 : decode cc (pc + 7) = .ok (.athrow, 1))
    (hout : ∀ x ∈ c.exceptionTable.toList, covers x (pc + 7) = false)
    (hRframes : names.length + 3 < R.frames) (hRlocals : (rest.map fun v => v.category).sum + (13 * (names.length + 1) + 42) ≤ R.locals) (hRcells : cells + 1 ≤ R.cells) (hRslots : slots + 6 ≤ R.slots) (hlocks : meth.locks = false)
    (hx : ∀ t : State, s.vm.Alike t.vm → H.size ≤ t.heap.size → (∀ q : Nat, q < H.size → t.heap[q]? = H[q]?) → XC cls s t)
    (hf : ∀ z ∈ locs, free z.base) (hc : cells + 1 ≤ mc) (hs : slots + 6 ≤ ms) :
    W p l e R s m args below meth c H locs cells slots (vx_MQ below Qc XC args s mc ms free) (F0 m pc ls rest) := by
  intro T hT X
  have htr : e.platform.stackTraces = false := (show e.platform.stackTraces = l.stackTraces by rw [X.admits.platform]).trans hl
  have Y := vx_rebase X (R' := { frames := R.frames, locals := R.locals, cells := 1, slots := 6 }) (Nat.le_refl _) (Nat.le_refl _) hRcells hRslots
  obtain ⟨s', hA⟩ : ∃ z, z = (T.setVm s.vm).setFrames (.invoking m args :: below) := ⟨_, rfl⟩
  rw [← hA] at Y
  have hvm : s'.vm = s.vm := by rw [hA]; rfl
  have hhp : s'.heap = H := by rw [hA]; exact hT
  have hW0 : s.WarmedH s'.vm := by rw [hvm]; exact State.WarmedH.refl s
  have hat' : ∀ w ∈ vx_at0 own ic cls names, w.before args s' = true := fun w hw => vx_ot_at hW0 hvm.symm (hgood w (List.mem_cons_of_mem _ (List.mem_cons_of_mem _ hw))) (hat w hw)
  have hk' : (Cond.classLink own ik cls).before args s' = true := vx_ot_at hW0 hvm.symm (hgood _ List.mem_cons_self) hk
  have hini' : (Cond.initialized cls).before args s' = true := vx_ot_at hW0 hvm.symm (hgood _ (List.mem_cons_of_mem _ List.mem_cons_self)) hini
  have hU' : vx_Zq Bundle.tN "UNASSIGNED_STACK" Bundle.steD A s' s'.heap := by rw [hhp]; exact vx_Zq.moved hW0.alike (hU.kept hS.2.1)
  have hN' : vx_Zq Bundle.tN "SUPPRESSED_SENTINEL" Bundle.listD A s' s'.heap := by rw [hhp]; exact vx_Zq.moved hW0.alike (hN.kept hS.2.1)
  have h : ∀ w ∈ Bundle.ownAtoms0 own ic cls names, w.before args s' = true := vx_own hat' (vx_isRefq hU'.1) (vx_isRefq hN'.1) hU'.2.word hN'.2.word
  have hown' : s'.vm.findClass own = some m.cls := by rw [hvm]; exact hown
  have hins : (Cond.instantiable cls 6).before args s' = true := h _ (by simp [Bundle.ownAtoms0])
  obtain ⟨vm₁, cX, kX, hfX, hkX, -, -, X₁, st1⟩ := Y.newCold hexec (own := own) (C := cls) (index := ik) (n := 6) hown' hk' hins hini'
    (g := F0 m pc ls rest) rfl (by rw [hb]; exact d0) (Nat.le_refl _) (Nat.le_refl _)
  generalize hT1 : (T.setVm vm₁).pushCell { cls := cX, slots := kX.instanceTypes.map defaultValue, vm := .none } = T1 at X₁ st1
  have hcat : (Value.ref T.heap.size).category = 1 := rfl
  have hcellA : T1.heap[T.heap.size]? = some (freshCell cX kX) := by rw [← hT1]; exact State.heap_pushCell_size _ _
  have d3' : decode c.code (pc + 3) = .ok (.dup, 1) := by rw [hb]; exact d3
  obtain ⟨U, hsteps, hrun, hend, hW, hsame, ce, hce, hO⟩ := X₁.ctorThrow0 hexec htr (own := own) (cls := cls) (names := names) (ic := ic) hown' hcls hnames h (fun x hx => nomatch hx) hfX hkX hcellA (by rw [hhp, hT]; exact Nat.le_refl _)
    (g := { method := m, pc := pc + 4, locals := ls, stack := .ref T.heap.size :: .ref T.heap.size :: rest, locked := none }) rfl hsize rfl rfl (rest := rest) rfl
    (by rw [hb]; exact d4) (by rw [hb]; exact d7) hout hRframes (by simp only [List.map_cons, List.sum_cons, hcat]; omega) hlocks
  obtain ⟨f1, f2⟩ := vx_frame hsame
  rw [hhp] at f1 f2
  have hWs : s.WarmedH U.vm := State.WarmedH.trans hW0 hW
  have hcl : s.vm.findClass cls = some ce.cls := by
    have h9 := hO.cls
    rw [hvm] at h9
    exact h9
  have hall : s.sameButNew ({ U with vm := s.vm } : State) locs mc ms := by
    subst hA
    obtain ⟨e1, e2⟩ := hsame
    rw [State.setFrames_setFrames] at e1
    have h2 : (T.setVm s.vm).sameButNew ({ U with vm := s.vm } : State) [] (0 + 1) (0 + 6) := ⟨e1, e2⟩
    have h3 := X.same.trans h2
    rw [List.append_nil] at h3
    exact h3.mono hc hs
  refine ⟨U, ?_, .threw T.heap.size, hrun, hend, Or.inr ⟨T.heap.size, rfl, cls, ce, locs, hx U hWs.alike f1 (fun q hq => f2 q hq (fun z hz => nomatch hz)), hce, hO.vm, hcl, hWs, hall, hf⟩⟩
  refine st1 _ ?_
  show Steps p.tables e below (T1.setTop { method := m, pc := pc + 3, locals := ls, stack := .ref T.heap.size :: rest, locked := none }) _
  jvm_step X₁.here [X₁.here.top, hexec, d3', Value.category]
  exact hsteps
/-- 'throw new E("text")': new; dup; ldc; invokespecial; athrow -/
theorem vx_throwS {cc : ByteArray} {pc : Nat} (hexec : p.tables.exec = Jvm.exec) (hb : c.code = cc) (hl : l.stackTraces = false) {own cls text : String} {names : List String} {ik is ic mc ms sa : Nat} {A : Nat → Prop}
    (hown : s.vm.findClass own = some m.cls) (hcls : Bundle.fit cls = true) (hnames : ∀ n ∈ names, Bundle.fit n = true)
    (hk : (Cond.classLink own ik cls).before args s = true) (hini : (Cond.initialized cls).before args s = true) (hstr : vk_R own is text sa s) (hat : ∀ w ∈ vx_atS own ic cls names, w.before args s = true)
    (hgood : ∀ w ∈ Cond.classLink own ik cls :: Cond.initialized cls :: vx_atS own ic cls names, vx_ot w = true)
    (hU : vx_Zq Bundle.tN "UNASSIGNED_STACK" Bundle.steD A s s.heap) (hN : vx_Zq Bundle.tN "SUPPRESSED_SENTINEL" Bundle.listD A s s.heap) (hS : va_S A s.heap H locs) (hsize : ls.size = c.maxLocals)
    (d0 : decode cc pc = .ok (.new ik, 3)) (d3 : decode cc (pc + 3) = .ok (.dup, 1)) (d4 : decode cc (pc + 4) = .ok (.ldc is, 2)) (d6 : decode cc (pc + 6) = .ok (.invokespecial ic, 3)) (d9 : decode cc (pc + 9) = .ok (.athrow, 1))
    (hout : ∀ x ∈ c.exceptionTable.toList, covers x (pc + 9) = false)
    (hRframes : names.length + 3 < R.frames) (hRlocals : (rest.map fun v => v.category).sum + (13 * (names.length + 1) + 43) ≤ R.locals) (hRcells : cells + 1 ≤ R.cells) (hRslots : slots + 6 ≤ R.slots) (hlocks : meth.locks = false)
    (hx : ∀ t : State, s.vm.Alike t.vm → H.size ≤ t.heap.size → (∀ q : Nat, q < H.size → t.heap[q]? = H[q]?) → XC cls s t)
    (hf : ∀ z ∈ locs, free z.base) (hc : cells + 1 ≤ mc) (hs : slots + 6 ≤ ms) :
    W p l e R s m args below meth c H locs cells slots (vx_MQ below Qc XC args s mc ms free) (F0 m pc ls rest) := by
  intro T hT X
  have htr : e.platform.stackTraces = false := (show e.platform.stackTraces = l.stackTraces by rw [X.admits.platform]).trans hl
  have Y := vx_rebase X (R' := { frames := R.frames, locals := R.locals, cells := 1, slots := 6 }) (Nat.le_refl _) (Nat.le_refl _) hRcells hRslots
  obtain ⟨s', hA⟩ : ∃ z, z = (T.setVm s.vm).setFrames (.invoking m args :: below) := ⟨_, rfl⟩
  rw [← hA] at Y
  have hvm : s'.vm = s.vm := by rw [hA]; rfl
  have hhp : s'.heap = H := by rw [hA]; exact hT
  have hW0 : s.WarmedH s'.vm := by rw [hvm]; exact State.WarmedH.refl s
  have hat' : ∀ w ∈ vx_atS own ic cls names, w.before args s' = true := fun w hw => vx_ot_at hW0 hvm.symm (hgood w (List.mem_cons_of_mem _ (List.mem_cons_of_mem _ hw))) (hat w hw)
  have hk' : (Cond.classLink own ik cls).before args s' = true := vx_ot_at hW0 hvm.symm (hgood _ List.mem_cons_self) hk
  have hini' : (Cond.initialized cls).before args s' = true := vx_ot_at hW0 hvm.symm (hgood _ (List.mem_cons_of_mem _ List.mem_cons_self)) hini
  have hU' : vx_Zq Bundle.tN "UNASSIGNED_STACK" Bundle.steD A s' s'.heap := by rw [hhp]; exact vx_Zq.moved hW0.alike (hU.kept hS.2.1)
  have hN' : vx_Zq Bundle.tN "SUPPRESSED_SENTINEL" Bundle.listD A s' s'.heap := by rw [hhp]; exact vx_Zq.moved hW0.alike (hN.kept hS.2.1)
  have h : ∀ w ∈ Bundle.ownAtoms own ic cls names, w.before args s' = true := vx_own hat' (vx_isRefq hU'.1) (vx_isRefq hN'.1) hU'.2.word hN'.2.word
  have hown' : s'.vm.findClass own = some m.cls := by rw [hvm]; exact hown
  have hins : (Cond.instantiable cls 6).before args s' = true := h _ (by simp [Bundle.ownAtoms])
  obtain ⟨vm₁, cX, kX, hfX, hkX, -, -, X₁, st1⟩ := Y.newCold hexec (own := own) (C := cls) (index := ik) (n := 6) hown' hk' hins hini'
    (g := F0 m pc ls rest) rfl (by rw [hb]; exact d0) (Nat.le_refl _) (Nat.le_refl _)
  generalize hT1 : (T.setVm vm₁).pushCell { cls := cX, slots := kX.instanceTypes.map defaultValue, vm := .none } = T1 at X₁ st1
  have hcat : (Value.ref T.heap.size).category = 1 := rfl
  have hcellA : T1.heap[T.heap.size]? = some (freshCell cX kX) := by rw [← hT1]; exact State.heap_pushCell_size _ _
  have d3' : decode c.code (pc + 3) = .ok (.dup, 1) := by rw [hb]; exact d3
  have d4' : decode c.code (pc + 4) = .ok (.ldc is, 2) := by rw [hb]; exact d4
  have hstr' : vk_R own is text sa s' := vk_R.warm hW0 hstr
  obtain ⟨U, hsteps, hrun, hend, hW, hsame, ce, hce, hO⟩ := X₁.ctorThrowS hexec htr (own := own) (cls := cls) (names := names) (ic := ic) hown' hcls hnames h (fun x hx => nomatch hx) hfX hkX hcellA (by rw [hhp, hT]; exact Nat.le_refl _) (msg := .ref sa) rfl
    (g := { method := m, pc := pc + 6, locals := ls, stack := .ref sa :: .ref T.heap.size :: .ref T.heap.size :: rest, locked := none }) rfl hsize rfl rfl (rest := rest) rfl
    (by rw [hb]; exact d6) (by rw [hb]; exact d9) hout hRframes (by simp only [List.map_cons, List.sum_cons, hcat]; omega) hlocks
  obtain ⟨f1, f2⟩ := vx_frame hsame
  rw [hhp] at f1 f2
  have hWs : s.WarmedH U.vm := State.WarmedH.trans hW0 hW
  have hcl : s.vm.findClass cls = some ce.cls := by
    have h9 := hO.cls
    rw [hvm] at h9
    exact h9
  have hall : s.sameButNew ({ U with vm := s.vm } : State) locs mc ms := by
    subst hA
    obtain ⟨e1, e2⟩ := hsame
    rw [State.setFrames_setFrames] at e1
    have h2 : (T.setVm s.vm).sameButNew ({ U with vm := s.vm } : State) [] (0 + 1) (0 + 6) := ⟨e1, e2⟩
    have h3 := X.same.trans h2
    rw [List.append_nil] at h3
    exact h3.mono hc hs
  refine ⟨U, ?_, .threw T.heap.size, hrun, hend, Or.inr ⟨T.heap.size, rfl, cls, ce, locs, hx U hWs.alike f1 (fun q hq => f2 q hq (fun z hz => nomatch hz)), hce, hO.vm, hcl, hWs, hall, hf⟩⟩
  refine st1 _ ?_
  show Steps p.tables e below (T1.setTop { method := m, pc := pc + 3, locals := ls, stack := .ref T.heap.size :: rest, locked := none }) _
  jvm_step X₁.here [X₁.here.top, hexec, d3', Value.category]
  exact X₁.ldcString hexec (own := own) (text := text) (index := is) (a := sa) hown' hstr'.1 hstr'.2
    (g := { method := m, pc := pc + 4, locals := ls, stack := .ref T.heap.size :: .ref T.heap.size :: rest, locked := none }) rfl d4' _ hsteps
/-- 'throw new E("text")', the text by a wide index -/
theorem vx_throwSW {cc : ByteArray} {pc : Nat} (hexec : p.tables.exec = Jvm.exec) (hb : c.code = cc) (hl : l.stackTraces = false) {own cls text : String} {names : List String} {ik is ic mc ms sa : Nat} {A : Nat → Prop}
    (hown : s.vm.findClass own = some m.cls) (hcls : Bundle.fit cls = true) (hnames : ∀ n ∈ names, Bundle.fit n = true)
    (hk : (Cond.classLink own ik cls).before args s = true) (hini : (Cond.initialized cls).before args s = true) (hstr : vk_R own is text sa s) (hat : ∀ w ∈ vx_atS own ic cls names, w.before args s = true)
    (hgood : ∀ w ∈ Cond.classLink own ik cls :: Cond.initialized cls :: vx_atS own ic cls names, vx_ot w = true)
    (hU : vx_Zq Bundle.tN "UNASSIGNED_STACK" Bundle.steD A s s.heap) (hN : vx_Zq Bundle.tN "SUPPRESSED_SENTINEL" Bundle.listD A s s.heap) (hS : va_S A s.heap H locs) (hsize : ls.size = c.maxLocals)
    (d0 : decode cc pc = .ok (.new ik, 3)) (d3 : decode cc (pc + 3) = .ok (.dup, 1)) (d4 : decode cc (pc + 4) = .ok (.ldc_w is, 3)) (d7 : decode cc (pc + 7) = .ok (.invokespecial ic, 3)) (d10 : decode cc (pc + 10) = .ok (.athrow, 1))
    (hout : ∀ x ∈ c.exceptionTable.toList, covers x (pc + 10) = false)
    (hRframes : names.length + 3 < R.frames) (hRlocals : (rest.map fun v => v.category).sum + (13 * (names.length + 1) + 43) ≤ R.locals) (hRcells : cells + 1 ≤ R.cells) (hRslots : slots + 6 ≤ R.slots) (hlocks : meth.locks = false)
    (hx : ∀ t : State, s.vm.Alike t.vm → H.size ≤ t.heap.size → (∀ q : Nat, q < H.size → t.heap[q]? = H[q]?) → XC cls s t)
    (hf : ∀ z ∈ locs, free z.base) (hc : cells + 1 ≤ mc) (hs : slots + 6 ≤ ms) :
    W p l e R s m args below meth c H locs cells slots (vx_MQ below Qc XC args s mc ms free) (F0 m pc ls rest) := by
  intro T hT X
  have htr : e.platform.stackTraces = false := (show e.platform.stackTraces = l.stackTraces by rw [X.admits.platform]).trans hl
  have Y := vx_rebase X (R' := { frames := R.frames, locals := R.locals, cells := 1, slots := 6 }) (Nat.le_refl _) (Nat.le_refl _) hRcells hRslots
  obtain ⟨s', hA⟩ : ∃ z, z = (T.setVm s.vm).setFrames (.invoking m args :: below) := ⟨_, rfl⟩
  rw [← hA] at Y
  have hvm : s'.vm = s.vm := by rw [hA]; rfl
  have hhp : s'.heap = H := by rw [hA]; exact hT
  have hW0 : s.WarmedH s'.vm := by rw [hvm]; exact State.WarmedH.refl s
  have hat' : ∀ w ∈ vx_atS own ic cls names, w.before args s' = true := fun w hw => vx_ot_at hW0 hvm.symm (hgood w (List.mem_cons_of_mem _ (List.mem_cons_of_mem _ hw))) (hat w hw)
  have hk' : (Cond.classLink own ik cls).before args s' = true := vx_ot_at hW0 hvm.symm (hgood _ List.mem_cons_self) hk
  have hini' : (Cond.initialized cls).before args s' = true := vx_ot_at hW0 hvm.symm (hgood _ (List.mem_cons_of_mem _ List.mem_cons_self)) hini
  have hU' : vx_Zq Bundle.tN "UNASSIGNED_STACK" Bundle.steD A s' s'.heap := by rw [hhp]; exact vx_Zq.moved hW0.alike (hU.kept hS.2.1)
  have hN' : vx_Zq Bundle.tN "SUPPRESSED_SENTINEL" Bundle.listD A s' s'.heap := by rw [hhp]; exact vx_Zq.moved hW0.alike (hN.kept hS.2.1)
  have h : ∀ w ∈ Bundle.ownAtoms own ic cls names, w.before args s' = true := vx_own hat' (vx_isRefq hU'.1) (vx_isRefq hN'.1) hU'.2.word hN'.2.word
  have hown' : s'.vm.findClass own = some m.cls := by rw [hvm]; exact hown
  have hins : (Cond.instantiable cls 6).before args s' = true := h _ (by simp [Bundle.ownAtoms])
  obtain ⟨vm₁, cX, kX, hfX, hkX, -, -, X₁, st1⟩ := Y.newCold hexec (own := own) (C := cls) (index := ik) (n := 6) hown' hk' hins hini'
    (g := F0 m pc ls rest) rfl (by rw [hb]; exact d0) (Nat.le_refl _) (Nat.le_refl _)
  generalize hT1 : (T.setVm vm₁).pushCell { cls := cX, slots := kX.instanceTypes.map defaultValue, vm := .none } = T1 at X₁ st1
  have hcat : (Value.ref T.heap.size).category = 1 := rfl
  have hcellA : T1.heap[T.heap.size]? = some (freshCell cX kX) := by rw [← hT1]; exact State.heap_pushCell_size _ _
  have d3' : decode c.code (pc + 3) = .ok (.dup, 1) := by rw [hb]; exact d3
  have d4' : decode c.code (pc + 4) = .ok (.ldc_w is, 3) := by rw [hb]; exact d4
  have hstr' : vk_R own is text sa s' := vk_R.warm hW0 hstr
  obtain ⟨U, hsteps, hrun, hend, hW, hsame, ce, hce, hO⟩ := X₁.ctorThrowS hexec htr (own := own) (cls := cls) (names := names) (ic := ic) hown' hcls hnames h (fun x hx => nomatch hx) hfX hkX hcellA (by rw [hhp, hT]; exact Nat.le_refl _) (msg := .ref sa) rfl
    (g := { method := m, pc := pc + 7, locals := ls, stack := .ref sa :: .ref T.heap.size :: .ref T.heap.size :: rest, locked := none }) rfl hsize rfl rfl (rest := rest) rfl
    (by rw [hb]; exact d7) (by rw [hb]; exact d10) hout hRframes (by simp only [List.map_cons, List.sum_cons, hcat]; omega) hlocks
  obtain ⟨f1, f2⟩ := vx_frame hsame
  rw [hhp] at f1 f2
  have hWs : s.WarmedH U.vm := State.WarmedH.trans hW0 hW
  have hcl : s.vm.findClass cls = some ce.cls := by
    have h9 := hO.cls
    rw [hvm] at h9
    exact h9
  have hall : s.sameButNew ({ U with vm := s.vm } : State) locs mc ms := by
    subst hA
    obtain ⟨e1, e2⟩ := hsame
    rw [State.setFrames_setFrames] at e1
    have h2 : (T.setVm s.vm).sameButNew ({ U with vm := s.vm } : State) [] (0 + 1) (0 + 6) := ⟨e1, e2⟩
    have h3 := X.same.trans h2
    rw [List.append_nil] at h3
    exact h3.mono hc hs
  refine ⟨U, ?_, .threw T.heap.size, hrun, hend, Or.inr ⟨T.heap.size, rfl, cls, ce, locs, hx U hWs.alike f1 (fun q hq => f2 q hq (fun z hz => nomatch hz)), hce, hO.vm, hcl, hWs, hall, hf⟩⟩
  refine st1 _ ?_
  show Steps p.tables e below (T1.setTop { method := m, pc := pc + 3, locals := ls, stack := .ref T.heap.size :: rest, locked := none }) _
  jvm_step X₁.here [X₁.here.top, hexec, d3', Value.category]
  exact X₁.ldcStringW hexec (own := own) (text := text) (index := is) (a := sa) hown' hstr'.1 hstr'.2
    (g := { method := m, pc := pc + 4, locals := ls, stack := .ref T.heap.size :: .ref T.heap.size :: rest, locked := none }) rfl d4' _ hsteps
end Ends
section Bodies
variable {l : Launch}
theorem vx_ofW {y : MethodName} {ws ws' : List Cond} {rm : Room} {Pc : Array Value → State → Prop} {Qc : Array Value → State → Outcome → State → Prop} {XC : String → State → State → Prop} {mc ms : Nat} {free : Addr → Prop} {cc : ByteArray} {maxL : Nat} {ret : Option FieldType}
    (hy : plainName y.cls = true) (hw : ws = Cond.code y cc maxL ret :: ws')
    (body : ∀ p e s m args below meth c s₁, BodyLoose p l y (headSpec ws rm) cc maxL ret e s m args below meth c s₁ → c.maxLocals = maxL → (∀ x ∈ c.exceptionTable.toList, False) → Pc args s →
      W p l e (headSpec ws rm).room s m args below meth c s.heap [] 0 0 (vx_MQ below Qc XC args s mc ms free) (entryFrame m args maxL)) : vx_Met l y ws rm Pc Qc XC mc ms free := by
  refine MetFree.of_bodyS (code := cc) (maxLocals := maxL) (ret := ret) hy ?_ ?_
  · intro args s m h hn
    obtain ⟨meth, c, h1, h2, h3, h4, h5, h6, -, -⟩ := Cond.code_spec hn (atoms_spec (ws := ws) h _ (by rw [hw]; exact List.mem_cons_self))
    exact ⟨meth, c, h1, h2, h3, h4, h5, h6⟩
  · intro p e s m args below meth c s₁ B hml hP _
    have hh0 : s₁.heap = s.heap := by rw [B.state]; rfl
    have ht : ∀ x ∈ c.exceptionTable.toList, False := by
      obtain ⟨meth9, c9, h1, h2, -, -, -, -, h7, -⟩ := Cond.code_spec B.named (atoms_spec (ws := ws) B.pre _ (by rw [hw]; exact List.mem_cons_self))
      cases Option.some.inj (h1.symm.trans B.method)
      cases Option.some.inj (h2.symm.trans (Stand.of_body B).code)
      intro x hx
      rw [Array.isEmpty_iff.mp h7] at hx
      cases hx
    obtain ⟨t, a1, o, b1, b2, b3⟩ := body p e s m args below meth c s₁ B hml ht hP s₁ hh0 (Stand.of_body B)
    exact ⟨t, o, a1, b1, b2, b3⟩
/-- the table of a body with handlers -/
theorem vx_table {p : Program} {x y : MethodName} {S : Spec} {cc bytes : ByteArray} {maxL maxL' : Nat} {ret ret' : Option FieldType} {e : Env} {s s₁ : State} {m : MethodId} {args : Array Value} {below : List Frame} {meth : Method} {c : Code} {hh : List (Nat × Nat × Nat × Nat)}
    (B : BodyLoose p l y S cc maxL ret e s m args below meth c s₁) (h : (Cond.codeWith y bytes maxL' ret' hh).before args s = true) : c.exceptionTable.toList = tableOf hh := by
  obtain ⟨m9, meth9, c9, hn9, h1, h2, -, -, h6, -⟩ := Cond.codeWith_spec h
  cases Option.some.inj (hn9.symm.trans B.named)
  cases Option.some.inj (h1.symm.trans B.method)
  cases Option.some.inj (h2.symm.trans (Stand.of_body B).code)
  rw [← h6, table_eq]
end Bodies
end VXA
/-! ===== END ===== -/
/-! ===== BEGIN a static call of a method with an exception table ===== -/
section VXS
variable {p : Program} {l : Launch} {e : Env} {R : Room} {s : State} {m : MethodId} {args : Array Value} {below : List Frame} {meth : Method} {c : Code} {T : State} {H : Heap} {locs : List Loc} {cells slots : Nat}
abbrev vx_CSW (R : Room) (s : State) (args : Array Value) (own : String) (index : Nat) (y : MethodName) (bytes : ByteArray) (maxL : Nat) (ret : Option FieldType) (hh : List (Nat × Nat × Nat × Nat)) (ws : List Cond) (rm : Room) (mc ms n : Nat) : Prop :=
  (rm.cells = mc ∧ rm.slots = ms ∧ rm.frames + 1 ≤ R.frames ∧ 8 + (maxL + 11) + rm.locals ≤ R.locals ∧ (∀ w ∈ ws, ∀ (a' : Array Value) (U : State), s.WarmedH U.vm → w.before a' U = true) ∧ Cond.codeWith y bytes maxL ret hh ∈ ws) ∧
  (Cond.codeWith y bytes maxL ret hh).before args s = true ∧ (Cond.initialized y.cls).before args s = true ∧ (y.cls ≠ "java/lang/invoke/MethodHandle" ∧ y.cls ≠ "java/lang/invoke/VarHandle") ∧
  (∀ sig, parseMethodDescriptor y.desc = some sig → n = sig.parameters.length) ∧ (Cond.methodLink own index y).before args s = true ∧ (Cond.static y).before args s = true
theorem vx_cwSW {own : String} {index maxL mc ms : Nat} {y : MethodName} {bytes : ByteArray} {ret : Option FieldType} {hh : List (Nat × Nat × Nat × Nat)} {Ts ws ws' : List Cond} {rm : Room} (n : Nat) (ht : ∀ w ∈ Ts, w.before args s = true) (hT : GoodIn Ts (va_wsS own index y ws)) (hw : ws = Cond.codeWith y bytes maxL ret hh :: ws') (hrc : rm.cells = mc) (hrs : rm.slots = ms)
    (hd : y.cls ≠ "java/lang/invoke/MethodHandle" ∧ y.cls ≠ "java/lang/invoke/VarHandle" ∧ (parseMethodDescriptor y.desc).map (fun d => d.parameters.length) = some n) (hR : rm.frames + 1 ≤ R.frames ∧ 8 + (maxL + 11) + rm.locals ≤ R.locals) :
    vx_CSW R s args own index y bytes maxL ret hh ws rm mc ms n := by
  have ok : ∀ w ∈ va_wsS own index y ws, w.before args s = true := fun w h => ht w (hT w h).1
  have hG : GoodIn Ts ws := fun w h => hT w (by unfold va_wsS; exact List.mem_append_right _ h)
  have hc : Cond.codeWith y bytes maxL ret hh ∈ ws := by rw [hw]; exact List.mem_cons_self
  refine ⟨⟨hrc, hrs, hR.1, hR.2, pay_in ht hG, hc⟩, ht _ (hG _ hc).1, ok _ (by simp [va_wsS]), ⟨hd.1, hd.2.1⟩, fun sig h => ?_, ok _ (by simp [va_wsS]), ok _ (by simp [va_wsS])⟩
  have h2 := hd.2.2
  rw [h] at h2
  exact (Option.some.inj h2).symm
theorem vx_callSW (X : Stand p l e R s m args below meth c T locs cells slots) (hexec : p.tables.exec = Jvm.exec) {own : String} {index : Nat} {y : MethodName} {bytes : ByteArray} {maxL : Nat} {ret : Option FieldType} {hh : List (Nat × Nat × Nat × Nat)}
    (hown : s.vm.findClass own = some m.cls) (hlink : (Cond.methodLink own index y).before args s = true) (hstat : (Cond.static y).before args s = true) (hinit : (Cond.initialized y.cls).before args s = true)
    (hcode : (Cond.codeWith y bytes maxL ret hh).before args s = true) (hy : y.cls ≠ "java/lang/invoke/MethodHandle" ∧ y.cls ≠ "java/lang/invoke/VarHandle")
    {W9 : Nat} {Pre : Pt → Array Value → Prop} {Post : Pt → Array Value → Option Value → Pt → Prop} (hK : Back l R p e below s args y 3 W9 Pre Post)
    {g : JFrame} (hg : g.method = m) (hsize : g.locals.size = c.maxLocals) {argsL rest : List Value} (hlen : ∀ sig, parseMethodDescriptor y.desc = some sig → argsL.length = sig.parameters.length)
    (hstack : g.stack = argsL.reverse ++ rest) (hW : 2 * g.monitorRoom + (rest.map fun v => v.category).sum ≤ W9) (hdg : decode c.code g.pc = .ok (.invokestatic index, 3))
    (hpre : ∀ vm₁, s.WarmedH vm₁ → Pre ⟨T.setVm vm₁, locs, cells, slots⟩ argsL.toArray) :
    ∃ (v : Option Value) (vm₁ : Vm) (B : Pt), s.WarmedH vm₁ ∧ Stand p l e R s m args below meth c B.U B.locs B.cells B.slots ∧ Post ⟨T.setVm vm₁, locs, cells, slots⟩ argsL.toArray v B ∧
      ∀ target, Steps p.tables e below (B.U.setTop { g with pc := g.pc + 3, stack := v.toList ++ rest }) target → Steps p.tables e below (T.setTop g) target := by
  obtain ⟨mk, methM, cM, hnamed, hmethM, -, -, -, -, -, -, hsigM⟩ := Cond.codeWith_spec hcode
  have hstatic : methM.isStatic = true := Cond.static_spec hnamed hmethM hstat
  obtain ⟨kP, hkP, -⟩ := className_of_methodNamed hnamed
  have hinitP : kP.init = .initialized := Cond.initialized_spec (findClass_of_methodNamed hnamed) hkP hinit
  obtain ⟨vm₁, X₁, hstep₁⟩ := X.invokestatic hexec hown hlink hnamed hmethM hstatic hkP hinitP hy (g := g) hg (argsL := argsL) (rest := rest) (hlen _ hsigM) hstack hdg
  obtain ⟨v, B, X', hpost, hsteps⟩ := hK m meth c ⟨T.setVm vm₁, locs, cells, slots⟩ { g with stack := rest } (.invokestatic index) mk argsL.toArray X₁ hg hsize hdg hW (X₁.named hnamed) (hpre vm₁ X₁.warmed)
  exact ⟨v, vm₁, B, X₁.warmed, X', hpost, fun target h => hstep₁ _ fun acts => by rw [doInvoke_state]; exact hsteps.trans h⟩
theorem vx_runSW {y : MethodName} {bytes cc : ByteArray} {maxL nL mc ms n index : Nat} {ret : Option FieldType} {hh : List (Nat × Nat × Nat × Nat)} {ws : List Cond} {rm : Room} {Pc : Array Value → State → Prop} {Qc : Array Value → State → Outcome → State → Prop} {free : Addr → Prop} {Ts : List Cond} {own : String} {As rest : List Value} {g : JFrame}
    (S : CallFix p m c cc nL s args Ts own) (hM : Met l y ws rm Pc Qc mc ms free) (cw : vx_CSW R s args own index y bytes maxL ret hh ws rm mc ms n) (hp : PreS s H Pc As)
    (hg : g.method = m) (hn : As.length = n) (hsize : g.locals.size = nL) (hstack : g.stack = As.reverse ++ rest) (hW : 2 * g.monitorRoom + (rest.map fun v => v.category).sum ≤ 8) (hdg : decode cc g.pc = .ok (.invokestatic index, 3)) (hf : cells + mc ≤ R.cells ∧ slots + ms ≤ R.slots) :
    va_Run p l e R s m args below meth c H locs cells slots mc ms g rest (Qc As.toArray) (free) := by
  obtain ⟨⟨hrc, hrs, hfr, hlo, hws, hcw⟩, hcode, hini, hy, hlen, hl, hstt⟩ := cw
  have hK : Back l R p e below s args y 3 8 (PreOf R mc ms Pc) (PostOf Qc mc ms free) := va_backW (hh := hh) (bytes := bytes) (maxL := maxL) (ret := ret) hM hp.1 hrc hrs hfr hlo hws hcw (fun a' U hW => word_at hW (Or.inl (by first | rfl | simp [Cond.onTables, Cond.keeps, Cond.steady])) hini)
  obtain ⟨hx, hb, hml, ho, -⟩ := S
  intro T hT X
  obtain ⟨v, vm₁, ⟨U', l2, c2, s2⟩, hW₁, X', ⟨g', mk, t, L, e1, e2, hq, h1, hL, h2, h3⟩, st⟩ := vx_callSW X hx (hh := hh) (bytes := bytes) (maxL := maxL) (ret := ret) ho hl hstt hini hcode hy hK hg (hsize.trans hml.symm) (argsL := As) (rest := rest) (fun sig h => hn.trans (hlen sig h)) hstack hW (by rw [hb]; exact hdg)
    (fun vm₁ hW₁ => ⟨hf.1, hf.2, hp.2 (T.setVm vm₁) hT hW₁⟩)
  dsimp only [Pt.U, Pt.locs, Pt.cells, Pt.slots] at X' e1 e2 h1 h2 h3 st
  subst h1; subst h2; subst h3
  exact ⟨v, (T.setVm vm₁).calling g' mk As.toArray, t, U', L, hT, X', hL, e1, e2, hq, st⟩
/-- not caught here, past rows that name other classes: it goes on to the caller -/
theorem vx_outP {p : Program} {l : Launch} {e : Env} {R : Room} {s : State} {m : MethodId} {args : Array Value} {below : List Frame} {meth : Method} {c : Code} {H : Heap} {locs : List Loc} {cells slots : Nat} {free : Addr → Prop} {ls : Array Slot} {rest : List Value} {Qc : Array Value → State → Outcome → State → Prop} {XC : String → State → State → Prop}
    {pc : Nat} {own E : String} {ce : Cell} {q : Addr} {mc ms : Nat} (hown : s.vm.findClass own = some m.cls) (hlocks : meth.locks = false)
    (hpass : ∀ z ∈ c.exceptionTable.toList, covers z pc = false ∨ (z.catchType ≠ 0 ∧ ∃ nm : String, (Cond.classLink own z.catchType nm).before args s = true ∧ va_Nc E nm s)) (hcell : H[q]? = some ce) (hv : ce.vm = .none) (hcl : s.vm.findClass E = some ce.cls)
    (hx : ∀ t : State, t.heap = H → s.vm.Alike t.vm → XC E s t) (hf : ∀ z ∈ locs, free z.base) (hc : cells ≤ mc) (hs : slots ≤ ms) :
    vx_W p l e R s m args below meth c H locs cells slots (vx_MQ below Qc XC args s mc ms free) (F0 m pc ls rest) q := by
  intro T hT X
  have hpl : e.platform.magicAccessors = ({} : Platform).magicAccessors := by rw [X.admits.platform]
  obtain ⟨vm', hW', X', st⟩ := X.outThrough hlocks q (g := F0 m pc ls rest) rfl rfl rfl (cell := ce) (by rw [hT]; exact hcell) (by rw [hv]; rfl)
    (by obtain ⟨k9, h9, -⟩ := Vm.findClass_spec hcl; exact ⟨k9, h9⟩) (fun z hz => by
      rcases hpass z hz with h | ⟨hz0, nm, hl1, hn1⟩
      · exact Or.inl h
      · obtain ⟨c6, hc6, hcl6⟩ := Cond.classLink_spec hown hl1 e.platform hpl
        obtain ⟨a8, b8, h1, h2, h3⟩ := hn1
        cases Option.some.inj (h1.symm.trans hcl)
        cases Option.some.inj (h2.symm.trans hc6)
        exact Or.inr ⟨hz0, _, hcl6, h3⟩)
  obtain ⟨g₀, hfr⟩ := X'.frames_eq
  have hcell9 : ((T.setVm vm').setFrames (.throwing q :: below)).heap[q]? = some ce := by
    show T.heap[q]? = some ce
    rw [hT]; exact hcell
  have hend : Ended ((T.setVm vm').setFrames (.throwing q :: below)) below (.threw q) := State.frames_setFrames _ (State.cur_lt_of_frames hfr)
  refine ⟨(T.setVm vm').setFrames (.throwing q :: below), ?_, .threw q, X'.here.running, hend, Or.inr ⟨q, rfl, E, ce, locs, hx _ hT (X'.ends _).1.alike, hcell9, hv, hcl, (X'.ends _).1, (X'.ends _).2.mono hc hs, hf⟩⟩
  rw [X.pushThrowing_eq]
  exact st
/-- a thing of a world lies in the heap -/
theorem vx_lt {D : va_G} {cl : List vw_C} {ws : va_W} {H1 : Heap} (h : va_P D cl ws H1) {k : Nat} {q : Nat × va_E} (hk : ws[k]? = some q) : q.1 < H1.size := (h k q hk).lt
end VXS
/-! ===== END ===== -/
/-! ===== BEGIN methods with a table of their own: called by a name, returning or throwing ===== -/
section VXH
/-! vx_backW, vx_callVX, vx_callSX, vx_callVW, vx_runVW, vx_runVX, vx_runSX, vx_ofWH follow the same proofs as their sisters above (Free/Laws.lean, Shelf42/LK1.lean); vx_outP calls Shelf42/NT130.lean (outThrough). -/
section
variable {l : Launch} {R : Room} {p : Program} {e : Env} {below : List Frame} {s : State} {sargs : Array Value} {y : MethodName} {len W9 : Nat}
theorem vx_backW {ws : List Cond} {rm : Room} {Pc : Array Value → State → Prop} {Qc : Array Value → State → Outcome → State → Prop} {XC : String → State → State → Prop} {mc ms : Nat} {free : Addr → Prop} {bytes : ByteArray} {maxL : Nat} {ret : Option FieldType} {hh : List (Nat × Nat × Nat × Nat)}
    (hM : vx_Met l y ws rm Pc Qc XC mc ms free) (hblind : FrameBlind Pc) (hrc : rm.cells = mc) (hrs : rm.slots = ms)
    (hframes : rm.frames + 1 ≤ R.frames) (hlocals : W9 + (maxL + 11) + rm.locals ≤ R.locals)
    (hws : ∀ w ∈ ws, ∀ a' U, s.WarmedH U.vm → w.before a' U = true) (hcode : Cond.codeWith y bytes maxL ret hh ∈ ws) (hinit : ∀ a' U, s.WarmedH U.vm → (Cond.initialized y.cls).before a' U = true) :
    vx_Back l R p e below s sargs y len W9 (PreOf R mc ms Pc) (PostOf Qc mc ms free) (vx_Post XC mc ms free) := by
  intro m meth c A g ig mk a X hg hsize hdg hW hn hp
  have h1 : (headSpec ws rm).pre.before a A.U = true := atoms_intro fun w hw => hws w hw _ _ X.warmed
  have h2 : (Cond.codeWith y bytes maxL ret hh).before a A.U = true := hws _ hcode _ _ X.warmed
  have h3 : (Cond.initialized y.cls).before a A.U = true := hinit _ _ X.warmed
  have h4 : A.cells + (headSpec ws rm).room.cells ≤ R.cells := by rw [show (headSpec ws rm).room.cells = mc from hrc]; exact hp.1
  have h5 : A.slots + (headSpec ws rm).room.slots ≤ R.slots := by rw [show (headSpec ws rm).room.slots = ms from hrs]; exact hp.2.1
  have hPc : Pc a (A.U.calling g mk a) := hblind _ _ _ _ hp.2.2
  obtain ⟨U, Ls, c0, s0⟩ := A
  dsimp only [Pt.U, Pt.locs, Pt.cells, Pt.slots] at h1 h2 h3 h4 h5 X hn hPc ⊢
  obtain ⟨m9, methY, cY, hn9, hmY, hcY, -, hlY, -⟩ := Cond.codeWith_spec h2
  cases Option.some.inj (hn9.symm.trans hn)
  obtain ⟨kY, hkY, -⟩ := className_of_methodNamed hn
  have hinitY : kY.init = .initialized := Cond.initialized_spec (findClass_of_methodNamed hn) hkY h3
  have h : At U g.method c below := by rw [hg]; exact X.here
  have hlocals9 : W9 + (maxL + 11) + (headSpec ws rm).room.locals ≤ R.locals := hlocals
  have happ : (headSpec ws rm).appliesLoose y e.platform (U.calling g mk a) = true :=
    Spec.appliesLoose_calling (g := g) h hdg hn hkY hinitY
      (X.room_calling (g := g) (R' := (headSpec ws rm).room) hsize hmY hcY hframes (by rw [hlY]; omega) h4 h5) h1
  obtain ⟨mid, hmid⟩ := h.above
  have hfr : (U.setTop g).frames = (.java g :: mid) ++ below := by rw [State.frames_setTop' g h.top, hmid]; rfl
  obtain ⟨o, s₂, hsteps, -, hend, hq⟩ := Steps.callFree hM p X.admits X.cas X.clock (acts := []) hfr happ hPc trivial
  have hq' : vx_Q Qc XC mc ms free a (U.calling g mk a) o s₂ := hq
  rw [State.frames_setTop' g h.top] at hend
  obtain ⟨g₀, hg0⟩ := Option.isSome_iff_exists.mp h.top
  obtain ⟨r, hr⟩ := State.topJava?_eq_some.mp hg0
  have hr' : (({ U with heap := s₂.heap, slotsUsed := s₂.slotsUsed } : State).setVm s₂.vm).frames = .java g₀ :: r := hr
  rcases hq' with ⟨hqc, L, hfe, hL⟩ | ⟨q, rfl, E, ce, L, hx, hce, hcv, hcl, hW₂, hsm, hL⟩
  · obtain ⟨⟨v, rfl⟩, hW₂, e2, q2, q3, q4, q5, q6⟩ := id hfe
    have e3 : s₂ = ({ (U.calling g mk a).setFrames s₂.frames with heap := s₂.heap, slotsUsed := s₂.slotsUsed } : State).setVm s₂.vm := by
      have : s₂ = ({ s₂ with vm := (U.calling g mk a).vm } : State).setVm s₂.vm := rfl
      rw [e2] at this
      exact this
    obtain ⟨c₂, i₂, len₂, hc₂, hd₂, hf₂⟩ := hend
    have hW' : U.WarmedH s₂.vm := hW₂
    have hcc : c₂ = c := by
      have h1 : s₂.code? g.method = U.code? g.method := by
        rw [State.code?_eq, State.code?_eq, hW'.alike.method?]
      exact Option.some.inj (hc₂.symm.trans (h1.trans h.code))
    subst hcc
    have hlen : len₂ = len := by rw [hdg] at hd₂; cases hd₂; rfl
    subst hlen
    have hs₂ : s₂ = (({ U with heap := s₂.heap, slotsUsed := s₂.slotsUsed } : State).setVm s₂.vm).setTop { g with pc := g.pc + len₂, stack := v.toList ++ g.stack } := by
      refine e3.trans ?_
      rw [hf₂, State.calling_eq h.top, State.setFrames_setFrames, State.setTop_of_frames _ hr', hr]
      rfl
    have hsame : U.sameButNew ({ U with heap := s₂.heap, slotsUsed := s₂.slotsUsed } : State) L mc ms := by
      refine ⟨?_, q2, q3, q4, q5, q6⟩
      obtain ⟨t, ht, -⟩ := State.frames_cons hr
      show ({ U with heap := s₂.heap, slotsUsed := s₂.slotsUsed } : State) = { U.setFrames U.frames with heap := s₂.heap, slotsUsed := s₂.slotsUsed }
      rw [State.setFrames_self ht]
    subst hg
    refine Or.inl ⟨v, ⟨(({ U with heap := s₂.heap, slotsUsed := s₂.slotsUsed } : State).setVm s₂.vm), Ls ++ L, c0 + mc, s0 + ms⟩,
      ⟨X.admits, X.cas, X.clock, X.frames, X.room, X.hears, X.method, X.code, (X.here.setHeapUsed s₂.heap s₂.slotsUsed).setVm hW'.alike, X.tail, State.WarmedH.trans X.warmed hW', X.limits, X.bytes, X.same.trans (hsame.setVm s.vm)⟩,
      ⟨g, mk, s₂, L, rfl, rfl, hqc, rfl, hL, rfl, rfl⟩, ?_⟩
    show Steps p.tables e below _ ((({ U with heap := s₂.heap, slotsUsed := s₂.slotsUsed } : State).setVm s₂.vm).setTop { g with pc := g.pc + len₂, stack := v.toList ++ g.stack })
    rw [← hs₂]
    exact hsteps
  · obtain ⟨e2, q2, q3, q4, q5, q6⟩ := id hsm
    have e3 : s₂ = ({ (U.calling g mk a).setFrames s₂.frames with heap := s₂.heap, slotsUsed := s₂.slotsUsed } : State).setVm s₂.vm := by
      have : s₂ = ({ s₂ with vm := (U.calling g mk a).vm } : State).setVm s₂.vm := rfl
      rw [e2] at this
      exact this
    have hf₂ : s₂.frames = .throwing q :: .java g :: U.frames.tail := hend
    have hW' : U.WarmedH s₂.vm := hW₂
    have hs₂ : s₂ = ((({ U with heap := s₂.heap, slotsUsed := s₂.slotsUsed } : State).setVm s₂.vm).setTop g).pushFrame (.throwing q) := by
      refine e3.trans ?_
      rw [hf₂, State.calling_eq h.top, State.setFrames_setFrames, State.pushFrame, State.frames_setTop _ hr', State.setTop_of_frames _ hr', State.setFrames_setFrames, hr]
      rfl
    have hsame : U.sameButNew ({ U with heap := s₂.heap, slotsUsed := s₂.slotsUsed } : State) L mc ms := by
      refine ⟨?_, q2, q3, q4, q5, q6⟩
      obtain ⟨t, ht, -⟩ := State.frames_cons hr
      show ({ U with heap := s₂.heap, slotsUsed := s₂.slotsUsed } : State) = { U.setFrames U.frames with heap := s₂.heap, slotsUsed := s₂.slotsUsed }
      rw [State.setFrames_self ht]
    subst hg
    refine Or.inr ⟨q, ⟨(({ U with heap := s₂.heap, slotsUsed := s₂.slotsUsed } : State).setVm s₂.vm), Ls ++ L, c0 + mc, s0 + ms⟩,
      ⟨X.admits, X.cas, X.clock, X.frames, X.room, X.hears, X.method, X.code, (X.here.setHeapUsed s₂.heap s₂.slotsUsed).setVm hW'.alike, X.tail, State.WarmedH.trans X.warmed hW', X.limits, X.bytes, X.same.trans (hsame.setVm s.vm)⟩,
      ⟨g, mk, s₂, L, E, ce, rfl, rfl, hx, hce, hcv, hcl, rfl, hL, rfl, rfl⟩, ?_⟩
    show Steps p.tables e below _ (((({ U with heap := s₂.heap, slotsUsed := s₂.slotsUsed } : State).setVm s₂.vm).setTop g).pushFrame (.throwing q))
    rw [← hs₂]
    exact hsteps
end
variable {p : Program} {l : Launch} {e : Env} {R : Room} {s : State} {m : MethodId} {args : Array Value} {below : List Frame} {meth : Method} {c : Code} {T : State} {H : Heap} {locs : List Loc} {cells slots : Nat}
theorem vx_callVX (X : Stand p l e R s m args below meth c T locs cells slots) (hexec : p.tables.exec = Jvm.exec) {own C : String} {index : Nat} {y : MethodName} {bytes : ByteArray} {maxL : Nat} {ret : Option FieldType} {hh : List (Nat × Nat × Nat × Nat)}
    (hown : s.vm.findClass own = some m.cls) (hlink : (Cond.methodLink own index y).before args s = true) (hinst : (Cond.instanceMethod y).before args s = true) (hsel : (Cond.selects C y y).before args s = true)
    (hcode : (Cond.codeWith y bytes maxL ret hh).before args s = true) (hy : y.cls ≠ "java/lang/invoke/MethodHandle" ∧ y.cls ≠ "java/lang/invoke/VarHandle")
    {W9 : Nat} {Pre : Pt → Array Value → Prop} {Post : Pt → Array Value → Option Value → Pt → Prop} {PostX : Pt → Array Value → Addr → Pt → Prop} (hK : vx_Back l R p e below s args y 3 W9 Pre Post PostX)
    {b : Addr} {cellB : Cell} (hcell : T.heap[b]? = some cellB) (hobj : cellB.vm.isStatics = false) (hcls : s.vm.findClass C = some cellB.cls)
    {g : JFrame} (hg : g.method = m) (hsize : g.locals.size = c.maxLocals) {argsL rest : List Value} (hlen : ∀ sig, parseMethodDescriptor y.desc = some sig → argsL.length = sig.parameters.length)
    (hstack : g.stack = argsL.reverse ++ .ref b :: rest) (hW : 2 * g.monitorRoom + (rest.map fun v => v.category).sum ≤ W9) (hdg : decode c.code g.pc = .ok (.invokevirtual index, 3))
    (hpre : ∀ vm₁, s.WarmedH vm₁ → Pre ⟨T.setVm vm₁, locs, cells, slots⟩ (Value.ref b :: argsL).toArray) :
    (∃ (v : Option Value) (vm₁ : Vm) (B : Pt), s.WarmedH vm₁ ∧ Stand p l e R s m args below meth c B.U B.locs B.cells B.slots ∧ Post ⟨T.setVm vm₁, locs, cells, slots⟩ (Value.ref b :: argsL).toArray v B ∧
      ∀ target, Steps p.tables e below (B.U.setTop { g with pc := g.pc + 3, stack := v.toList ++ rest }) target → Steps p.tables e below (T.setTop g) target) ∨
    (∃ (q : Addr) (vm₁ : Vm) (B : Pt), s.WarmedH vm₁ ∧ Stand p l e R s m args below meth c B.U B.locs B.cells B.slots ∧ PostX ⟨T.setVm vm₁, locs, cells, slots⟩ (Value.ref b :: argsL).toArray q B ∧
      Steps p.tables e below (T.setTop g) ((B.U.setTop { g with stack := rest }).pushFrame (.throwing q))) := by
  obtain ⟨mk, methM, hnamed, hmethM, hstM, habM⟩ := Cond.instanceMethod_spec hinst
  obtain ⟨m8, methM', cM, hn8, hmethM', -, -, -, -, -, -, hsigM⟩ := Cond.codeWith_spec hcode
  cases Option.some.inj (hn8.symm.trans hnamed)
  cases hmethM.symm.trans hmethM'
  obtain ⟨c2, r2, m2, q1, q2, q3, q4, kP, hkP, hkPi⟩ := Cond.selects_spec hsel
  cases hcls.symm.trans q1
  cases (State.methodFound?_of_named hnamed hy).symm.trans q2
  cases hnamed.symm.trans q3
  have hselP : selectMethod e.platform s.vm cellB.cls mk = .method mk := by rw [Launch.admits_selectMethod X.admits]; exact q4
  obtain ⟨vm₁, X₁, hstep₁⟩ := X.invokevirtual hexec hown hlink hnamed hmethM hstM hkP hkPi hy (a := b) (cell := cellB) hcell
    (fun z h => by rw [h] at hobj; cases hobj) hselP hmethM habM hkP hkPi (g := g) hg (argsL := argsL) (rest := rest) (hlen _ hsigM) hstack hdg
  rcases hK m meth c ⟨T.setVm vm₁, locs, cells, slots⟩ { g with stack := rest } (.invokevirtual index) mk (Value.ref b :: argsL).toArray X₁ hg hsize hdg hW (X₁.named hnamed) (hpre vm₁ X₁.warmed) with ⟨v, B, X', hpost, hsteps⟩ | ⟨q, B, X', hpost, hsteps⟩
  · exact Or.inl ⟨v, vm₁, B, X₁.warmed, X', hpost, fun target h => hstep₁ _ fun acts => by rw [doInvoke_state]; exact hsteps.trans h⟩
  · exact Or.inr ⟨q, vm₁, B, X₁.warmed, X', hpost, hstep₁ _ fun acts => by rw [doInvoke_state]; exact hsteps⟩
theorem vx_callSX (X : Stand p l e R s m args below meth c T locs cells slots) (hexec : p.tables.exec = Jvm.exec) {own : String} {index : Nat} {y : MethodName} {bytes : ByteArray} {maxL : Nat} {ret : Option FieldType} {hh : List (Nat × Nat × Nat × Nat)}
    (hown : s.vm.findClass own = some m.cls) (hlink : (Cond.methodLink own index y).before args s = true) (hstat : (Cond.static y).before args s = true) (hinit : (Cond.initialized y.cls).before args s = true)
    (hcode : (Cond.codeWith y bytes maxL ret hh).before args s = true) (hy : y.cls ≠ "java/lang/invoke/MethodHandle" ∧ y.cls ≠ "java/lang/invoke/VarHandle")
    {W9 : Nat} {Pre : Pt → Array Value → Prop} {Post : Pt → Array Value → Option Value → Pt → Prop} {PostX : Pt → Array Value → Addr → Pt → Prop} (hK : vx_Back l R p e below s args y 3 W9 Pre Post PostX)
    {g : JFrame} (hg : g.method = m) (hsize : g.locals.size = c.maxLocals) {argsL rest : List Value} (hlen : ∀ sig, parseMethodDescriptor y.desc = some sig → argsL.length = sig.parameters.length)
    (hstack : g.stack = argsL.reverse ++ rest) (hW : 2 * g.monitorRoom + (rest.map fun v => v.category).sum ≤ W9) (hdg : decode c.code g.pc = .ok (.invokestatic index, 3))
    (hpre : ∀ vm₁, s.WarmedH vm₁ → Pre ⟨T.setVm vm₁, locs, cells, slots⟩ argsL.toArray) :
    (∃ (v : Option Value) (vm₁ : Vm) (B : Pt), s.WarmedH vm₁ ∧ Stand p l e R s m args below meth c B.U B.locs B.cells B.slots ∧ Post ⟨T.setVm vm₁, locs, cells, slots⟩ argsL.toArray v B ∧
      ∀ target, Steps p.tables e below (B.U.setTop { g with pc := g.pc + 3, stack := v.toList ++ rest }) target → Steps p.tables e below (T.setTop g) target) ∨
    (∃ (q : Addr) (vm₁ : Vm) (B : Pt), s.WarmedH vm₁ ∧ Stand p l e R s m args below meth c B.U B.locs B.cells B.slots ∧ PostX ⟨T.setVm vm₁, locs, cells, slots⟩ argsL.toArray q B ∧
      Steps p.tables e below (T.setTop g) ((B.U.setTop { g with stack := rest }).pushFrame (.throwing q))) := by
  obtain ⟨mk, methM, cM, hnamed, hmethM, -, -, -, -, -, -, hsigM⟩ := Cond.codeWith_spec hcode
  have hstatic : methM.isStatic = true := Cond.static_spec hnamed hmethM hstat
  obtain ⟨kP, hkP, -⟩ := className_of_methodNamed hnamed
  have hinitP : kP.init = .initialized := Cond.initialized_spec (findClass_of_methodNamed hnamed) hkP hinit
  obtain ⟨vm₁, X₁, hstep₁⟩ := X.invokestatic hexec hown hlink hnamed hmethM hstatic hkP hinitP hy (g := g) hg (argsL := argsL) (rest := rest) (hlen _ hsigM) hstack hdg
  rcases hK m meth c ⟨T.setVm vm₁, locs, cells, slots⟩ { g with stack := rest } (.invokestatic index) mk argsL.toArray X₁ hg hsize hdg hW (X₁.named hnamed) (hpre vm₁ X₁.warmed) with ⟨v, B, X', hpost, hsteps⟩ | ⟨q, B, X', hpost, hsteps⟩
  · exact Or.inl ⟨v, vm₁, B, X₁.warmed, X', hpost, fun target h => hstep₁ _ fun acts => by rw [doInvoke_state]; exact hsteps.trans h⟩
  · exact Or.inr ⟨q, vm₁, B, X₁.warmed, X', hpost, hstep₁ _ fun acts => by rw [doInvoke_state]; exact hsteps⟩
theorem vx_callVW (X : Stand p l e R s m args below meth c T locs cells slots) (hexec : p.tables.exec = Jvm.exec) {own C : String} {index : Nat} {y : MethodName} {bytes : ByteArray} {maxL : Nat} {ret : Option FieldType} {hh : List (Nat × Nat × Nat × Nat)}
    (hown : s.vm.findClass own = some m.cls) (hlink : (Cond.methodLink own index y).before args s = true) (hinst : (Cond.instanceMethod y).before args s = true) (hsel : (Cond.selects C y y).before args s = true)
    (hcode : (Cond.codeWith y bytes maxL ret hh).before args s = true) (hy : y.cls ≠ "java/lang/invoke/MethodHandle" ∧ y.cls ≠ "java/lang/invoke/VarHandle")
    {W9 : Nat} {Pre : Pt → Array Value → Prop} {Post : Pt → Array Value → Option Value → Pt → Prop} (hK : Back l R p e below s args y 3 W9 Pre Post)
    {b : Addr} {cellB : Cell} (hcell : T.heap[b]? = some cellB) (hobj : cellB.vm.isStatics = false) (hcls : s.vm.findClass C = some cellB.cls)
    {g : JFrame} (hg : g.method = m) (hsize : g.locals.size = c.maxLocals) {argsL rest : List Value} (hlen : ∀ sig, parseMethodDescriptor y.desc = some sig → argsL.length = sig.parameters.length)
    (hstack : g.stack = argsL.reverse ++ .ref b :: rest) (hW : 2 * g.monitorRoom + (rest.map fun v => v.category).sum ≤ W9) (hdg : decode c.code g.pc = .ok (.invokevirtual index, 3))
    (hpre : ∀ vm₁, s.WarmedH vm₁ → Pre ⟨T.setVm vm₁, locs, cells, slots⟩ (Value.ref b :: argsL).toArray) :
    ∃ (v : Option Value) (vm₁ : Vm) (B : Pt), s.WarmedH vm₁ ∧ Stand p l e R s m args below meth c B.U B.locs B.cells B.slots ∧ Post ⟨T.setVm vm₁, locs, cells, slots⟩ (Value.ref b :: argsL).toArray v B ∧
      ∀ target, Steps p.tables e below (B.U.setTop { g with pc := g.pc + 3, stack := v.toList ++ rest }) target → Steps p.tables e below (T.setTop g) target := by
  obtain ⟨mk, methM, hnamed, hmethM, hstM, habM⟩ := Cond.instanceMethod_spec hinst
  obtain ⟨m8, methM', cM, hn8, hmethM', -, -, -, -, -, -, hsigM⟩ := Cond.codeWith_spec hcode
  cases Option.some.inj (hn8.symm.trans hnamed)
  cases hmethM.symm.trans hmethM'
  obtain ⟨c2, r2, m2, q1, q2, q3, q4, kP, hkP, hkPi⟩ := Cond.selects_spec hsel
  cases hcls.symm.trans q1
  cases (State.methodFound?_of_named hnamed hy).symm.trans q2
  cases hnamed.symm.trans q3
  have hselP : selectMethod e.platform s.vm cellB.cls mk = .method mk := by rw [Launch.admits_selectMethod X.admits]; exact q4
  obtain ⟨vm₁, X₁, hstep₁⟩ := X.invokevirtual hexec hown hlink hnamed hmethM hstM hkP hkPi hy (a := b) (cell := cellB) hcell
    (fun z h => by rw [h] at hobj; cases hobj) hselP hmethM habM hkP hkPi (g := g) hg (argsL := argsL) (rest := rest) (hlen _ hsigM) hstack hdg
  obtain ⟨v, B, X', hpost, hsteps⟩ := hK m meth c ⟨T.setVm vm₁, locs, cells, slots⟩ { g with stack := rest } (.invokevirtual index) mk (Value.ref b :: argsL).toArray X₁ hg hsize hdg hW (X₁.named hnamed) (hpre vm₁ X₁.warmed)
  exact ⟨v, vm₁, B, X₁.warmed, X', hpost, fun target h => hstep₁ _ fun acts => by rw [doInvoke_state]; exact hsteps.trans h⟩
abbrev vx_CVW (R : Room) (s : State) (args : Array Value) (own C : String) (index : Nat) (y : MethodName) (bytes : ByteArray) (maxL : Nat) (ret : Option FieldType) (hh : List (Nat × Nat × Nat × Nat)) (ws : List Cond) (rm : Room) (mc ms n : Nat) : Prop :=
  (rm.cells = mc ∧ rm.slots = ms ∧ rm.frames + 1 ≤ R.frames ∧ 8 + (maxL + 11) + rm.locals ≤ R.locals ∧ (∀ w ∈ ws, ∀ (a' : Array Value) (U : State), s.WarmedH U.vm → w.before a' U = true) ∧ Cond.codeWith y bytes maxL ret hh ∈ ws) ∧
  (Cond.codeWith y bytes maxL ret hh).before args s = true ∧ (Cond.initialized y.cls).before args s = true ∧ (y.cls ≠ "java/lang/invoke/MethodHandle" ∧ y.cls ≠ "java/lang/invoke/VarHandle") ∧
  (∀ sig, parseMethodDescriptor y.desc = some sig → n = sig.parameters.length) ∧ (Cond.methodLink own index y).before args s = true ∧ (Cond.instanceMethod y).before args s = true ∧ (Cond.selects C y y).before args s = true
theorem vx_cwVW {own C : String} {index maxL mc ms : Nat} {y : MethodName} {bytes : ByteArray} {ret : Option FieldType} {hh : List (Nat × Nat × Nat × Nat)} {Ts ws ws' : List Cond} {rm : Room} (n : Nat) (ht : ∀ w ∈ Ts, w.before args s = true) (hT : GoodIn Ts (wsV own index C y ws)) (hw : ws = Cond.codeWith y bytes maxL ret hh :: ws') (hrc : rm.cells = mc) (hrs : rm.slots = ms)
    (hd : y.cls = C ∧ y.cls ≠ "java/lang/invoke/MethodHandle" ∧ y.cls ≠ "java/lang/invoke/VarHandle" ∧ (parseMethodDescriptor y.desc).map (fun d => d.parameters.length) = some n) (hR : rm.frames + 1 ≤ R.frames ∧ 8 + (maxL + 11) + rm.locals ≤ R.locals) :
    vx_CVW R s args own C index y bytes maxL ret hh ws rm mc ms n := by
  obtain ⟨hC, hd⟩ := hd
  subst hC
  have ok : ∀ w ∈ wsV own index y.cls y ws, w.before args s = true := fun w h => ht w (hT w h).1
  have hG : GoodIn Ts ws := fun w h => hT w (by unfold wsV; exact List.mem_append_right _ h)
  have hc : Cond.codeWith y bytes maxL ret hh ∈ ws := by rw [hw]; exact List.mem_cons_self
  refine ⟨⟨hrc, hrs, hR.1, hR.2, pay_in ht hG, hc⟩, ht _ (hG _ hc).1, ok _ (by simp [wsV]), ⟨hd.1, hd.2.1⟩, fun sig h => ?_, ok _ (by simp [wsV]), ok _ (by simp [wsV]), ok _ (by simp [wsV])⟩
  have h2 := hd.2.2
  rw [h] at h2
  exact (Option.some.inj h2).symm
theorem vx_runVW {y : MethodName} {bytes cc : ByteArray} {maxL nL mc ms n index : Nat} {ret : Option FieldType} {hh : List (Nat × Nat × Nat × Nat)} {ws : List Cond} {rm : Room} {Pc : Array Value → State → Prop} {Qc : Array Value → State → Outcome → State → Prop} {free : Addr → Prop} {Ts : List Cond} {own C : String} {b : Addr} {As rest : List Value} {g : JFrame}
    (S : CallFix p m c cc nL s args Ts own) (hM : Met l y ws rm Pc Qc mc ms free) (cw : vx_CVW R s args own C index y bytes maxL ret hh ws rm mc ms n) (hp : PreV s H C b Pc As)
    (hg : g.method = m) (hn : As.length = n) (hsize : g.locals.size = nL) (hstack : g.stack = As.reverse ++ .ref b :: rest) (hW : 2 * g.monitorRoom + (rest.map fun v => v.category).sum ≤ 8) (hdg : decode cc g.pc = .ok (.invokevirtual index, 3)) (hf : cells + mc ≤ R.cells ∧ slots + ms ≤ R.slots) :
    va_Run p l e R s m args below meth c H locs cells slots mc ms g rest (Qc (Value.ref b :: As).toArray) free := by
  obtain ⟨⟨hrc, hrs, hfr, hlo, hws, hcw⟩, hcode, hini, hy, hlen, hl, hin, hse⟩ := cw
  have hK : Back l R p e below s args y 3 8 (PreOf R mc ms Pc) (PostOf Qc mc ms free) := va_backW (hh := hh) (bytes := bytes) (maxL := maxL) (ret := ret) hM hp.1 hrc hrs hfr hlo hws hcw (fun a' U hW => word_at hW (Or.inl (by first | rfl | simp [Cond.onTables, Cond.keeps, Cond.steady])) hini)
  obtain ⟨hx, hb, hml, ho, -⟩ := S
  obtain ⟨-, ⟨cellB, hcB, hoB, hclB⟩, hPc⟩ := hp
  intro T hT X
  obtain ⟨v, vm₁, ⟨U', l2, c2, s2⟩, hW₁, X', ⟨g', mk, t, L, e1, e2, hq, h1, hL, h2, h3⟩, st⟩ := vx_callVW X hx (C := C) (hh := hh) (bytes := bytes) (maxL := maxL) (ret := ret) ho hl hin hse hcode hy hK (by rw [hT]; exact hcB) hoB hclB hg (hsize.trans hml.symm) (argsL := As) (rest := rest) (fun sig h => hn.trans (hlen sig h)) hstack hW (by rw [hb]; exact hdg)
    (fun vm₁ hW₁ => ⟨hf.1, hf.2, hPc (T.setVm vm₁) hT hW₁⟩)
  dsimp only [Pt.U, Pt.locs, Pt.cells, Pt.slots] at X' e1 e2 h1 h2 h3 st
  subst h1; subst h2; subst h3
  exact ⟨v, (T.setVm vm₁).calling g' mk (Value.ref b :: As).toArray, t, U', L, hT, X', hL, e1, e2, hq, st⟩
section
variable {y : MethodName} {bytes cc : ByteArray} {maxL nL mc ms n index : Nat} {ret : Option FieldType} {ws : List Cond} {rm : Room} {Pc : Array Value → State → Prop} {Qc : Array Value → State → Outcome → State → Prop} {XC : String → State → State → Prop} {free : Addr → Prop} {Ts : List Cond} {own C : String} {b : Addr} {As rest : List Value} {g : JFrame}
theorem vx_runVX {hh : List (Nat × Nat × Nat × Nat)} (S : CallFix p m c cc nL s args Ts own) (hM : vx_Met l y ws rm Pc Qc XC mc ms free) (cw : vx_CVW R s args own C index y bytes maxL ret hh ws rm mc ms n) (hp : PreV s H C b Pc As)
    (hg : g.method = m) (hn : As.length = n) (hsize : g.locals.size = nL) (hstack : g.stack = As.reverse ++ .ref b :: rest) (hW : 2 * g.monitorRoom + (rest.map fun v => v.category).sum ≤ 8) (hdg : decode cc g.pc = .ok (.invokevirtual index, 3)) (hf : cells + mc ≤ R.cells ∧ slots + ms ≤ R.slots) :
    vx_Run p l e R s m args below meth c H locs cells slots mc ms g rest (Qc (Value.ref b :: As).toArray) XC free := by
  obtain ⟨⟨hrc, hrs, hfr, hlo, hws, hcw⟩, hcode, hini, hy, hlen, hl, hin, hse⟩ := cw
  have hK : vx_Back l R p e below s args y 3 8 (PreOf R mc ms Pc) (PostOf Qc mc ms free) (vx_Post XC mc ms free) := vx_backW (hh := hh) (bytes := bytes) (maxL := maxL) (ret := ret) hM hp.1 hrc hrs hfr hlo hws hcw (fun a' U hW => word_at hW (Or.inl (by first | rfl | simp [Cond.onTables, Cond.keeps, Cond.steady])) hini)
  obtain ⟨hx, hb, hml, ho, -⟩ := S
  obtain ⟨-, ⟨cellB, hcB, hoB, hclB⟩, hPc⟩ := hp
  intro T hT X
  rcases vx_callVX X hx (C := C) (hh := hh) (bytes := bytes) (maxL := maxL) (ret := ret) ho hl hin hse hcode hy hK (by rw [hT]; exact hcB) hoB hclB hg (hsize.trans hml.symm) (argsL := As) (rest := rest) (fun sig h => hn.trans (hlen sig h)) hstack hW (by rw [hb]; exact hdg)
    (fun vm₁ hW₁ => ⟨hf.1, hf.2, hPc (T.setVm vm₁) hT hW₁⟩) with ⟨v, vm₁, ⟨U', l2, c2, s2⟩, hW₁, X', ⟨g', mk, t, L, e1, e2, hq, h1, hL, h2, h3⟩, st⟩ | ⟨q, vm₁, ⟨U', l2, c2, s2⟩, hW₁, X', ⟨g', mk, t, L, E, ce, e1, e2, hq, hce, hcv, hcl, h1, hL, h2, h3⟩, st⟩
  · dsimp only [Pt.U, Pt.locs, Pt.cells, Pt.slots] at X' e1 e2 h1 h2 h3 st
    subst h1; subst h2; subst h3
    exact Or.inl ⟨v, (T.setVm vm₁).calling g' mk (Value.ref b :: As).toArray, t, U', L, hT, X', hL, e1, e2, hq, st⟩
  · dsimp only [Pt.U, Pt.locs, Pt.cells, Pt.slots] at X' e1 e2 h1 h2 h3 st hcl
    subst h1; subst h2; subst h3
    exact Or.inr ⟨q, (T.setVm vm₁).calling g' mk (Value.ref b :: As).toArray, t, U', L, E, ce, hT, X', hL, e1, e2, hq, hce, hcv, vx_cls hW₁ hcl, st⟩
theorem vx_runSX {hh : List (Nat × Nat × Nat × Nat)} (S : CallFix p m c cc nL s args Ts own) (hM : vx_Met l y ws rm Pc Qc XC mc ms free) (cw : vx_CSW R s args own index y bytes maxL ret hh ws rm mc ms n) (hp : PreS s H Pc As)
    (hg : g.method = m) (hn : As.length = n) (hsize : g.locals.size = nL) (hstack : g.stack = As.reverse ++ rest) (hW : 2 * g.monitorRoom + (rest.map fun v => v.category).sum ≤ 8) (hdg : decode cc g.pc = .ok (.invokestatic index, 3)) (hf : cells + mc ≤ R.cells ∧ slots + ms ≤ R.slots) :
    vx_Run p l e R s m args below meth c H locs cells slots mc ms g rest (Qc As.toArray) XC free := by
  obtain ⟨⟨hrc, hrs, hfr, hlo, hws, hcw⟩, hcode, hini, hy, hlen, hl, hstt⟩ := cw
  have hK : vx_Back l R p e below s args y 3 8 (PreOf R mc ms Pc) (PostOf Qc mc ms free) (vx_Post XC mc ms free) := vx_backW (hh := hh) (bytes := bytes) (maxL := maxL) (ret := ret) hM hp.1 hrc hrs hfr hlo hws hcw (fun a' U hW => word_at hW (Or.inl (by first | rfl | simp [Cond.onTables, Cond.keeps, Cond.steady])) hini)
  obtain ⟨hx, hb, hml, ho, -⟩ := S
  intro T hT X
  rcases vx_callSX X hx (hh := hh) (bytes := bytes) (maxL := maxL) (ret := ret) ho hl hstt hini hcode hy hK hg (hsize.trans hml.symm) (argsL := As) (rest := rest) (fun sig h => hn.trans (hlen sig h)) hstack hW (by rw [hb]; exact hdg)
    (fun vm₁ hW₁ => ⟨hf.1, hf.2, hp.2 (T.setVm vm₁) hT hW₁⟩) with ⟨v, vm₁, ⟨U', l2, c2, s2⟩, hW₁, X', ⟨g', mk, t, L, e1, e2, hq, h1, hL, h2, h3⟩, st⟩ | ⟨q, vm₁, ⟨U', l2, c2, s2⟩, hW₁, X', ⟨g', mk, t, L, E, ce, e1, e2, hq, hce, hcv, hcl, h1, hL, h2, h3⟩, st⟩
  · dsimp only [Pt.U, Pt.locs, Pt.cells, Pt.slots] at X' e1 e2 h1 h2 h3 st
    subst h1; subst h2; subst h3
    exact Or.inl ⟨v, (T.setVm vm₁).calling g' mk As.toArray, t, U', L, hT, X', hL, e1, e2, hq, st⟩
  · dsimp only [Pt.U, Pt.locs, Pt.cells, Pt.slots] at X' e1 e2 h1 h2 h3 st hcl
    subst h1; subst h2; subst h3
    exact Or.inr ⟨q, (T.setVm vm₁).calling g' mk As.toArray, t, U', L, E, ce, hT, X', hL, e1, e2, hq, hce, hcv, vx_cls hW₁ hcl, st⟩
end
end VXH
theorem vx_ofWH {l : Launch} {y : MethodName} {ws ws' : List Cond} {rm : Room} {Pc : Array Value → State → Prop} {Qc : Array Value → State → Outcome → State → Prop} {XC : String → State → State → Prop} {mc ms : Nat} {free : Addr → Prop} {cc : ByteArray} {maxL : Nat} {ret : Option FieldType} {hh : List (Nat × Nat × Nat × Nat)}
    (hy : plainName y.cls = true) (hw : ws = Cond.codeWith y cc maxL ret hh :: ws')
    (body : ∀ p e s m args below meth c s₁, BodyLoose p l y (headSpec ws rm) cc maxL ret e s m args below meth c s₁ → c.maxLocals = maxL → Pc args s →
      W p l e (headSpec ws rm).room s m args below meth c s.heap [] 0 0 (vx_MQ below Qc XC args s mc ms free) (entryFrame m args maxL)) : vx_Met l y ws rm Pc Qc XC mc ms free := by
  refine MetFree.of_bodyS (code := cc) (maxLocals := maxL) (ret := ret) hy ?_ ?_
  · intro args s m h hn
    obtain ⟨m9, meth, c, hn9, h1, h2, h3, h4, -, h5, h6, -⟩ := Cond.codeWith_spec (atoms_spec (ws := ws) h _ (by rw [hw]; exact List.mem_cons_self))
    cases hn.symm.trans hn9
    exact ⟨meth, c, h1, h2, h3, h4, h5, h6⟩
  · intro p e s m args below meth c s₁ B hml hP _
    have hh0 : s₁.heap = s.heap := by rw [B.state]; rfl
    obtain ⟨t, a1, o, b1, b2, b3⟩ := body p e s m args below meth c s₁ B hml hP s₁ hh0 (Stand.of_body B)
    exact ⟨t, o, a1, b1, b2, b3⟩
/-! ===== END ===== -/
end
section
/-! ===== BEGIN printed: names, fields, word lists, decode rows ===== -/
def RX0 : String := "PinholeHouse$Passer"
def TX0 : u_T := fun k => match k with
  | 0 => ("PinholeHouse$Passer", "step", "I", false)
  | 1 => ("PinholeHouse$Passer", "pace", "I", false)
  | 2 => ("PinholeHouse$Passer", "tall", "I", false)
  | _ => ("PinholeHouse$Passer", "bright", "I", false)
def tyX0 : Nat → FieldType := fun k => match k with
  | 0 => .int
  | 1 => .int
  | 2 => .int
  | _ => .int
abbrev wsX00 : List Cond := u_ws RX0 TX0 4
theorem nmX0 : ∀ a, a < 4 → ∀ b, b < 4 → a ≠ b → (TX0 a).2.1 ≠ (TX0 b).2.1 := by decide +kernel
theorem tyX0_ok : ∀ k, k < 4 → parseFieldDescriptor (TX0 k).2.2.1 = some (tyX0 k) := by decide +kernel
abbrev cX0_init : ByteArray := prog_2_method_1_code
def yX0_init : MethodName := ⟨RX0, "<init>", "()V"⟩
abbrev cX0_come : ByteArray := prog_2_method_2_code
def yX0_come : MethodName := ⟨RX0, "come", "(IIII)V"⟩
abbrev cX0_copyFrom : ByteArray := prog_2_method_3_code
def yX0_copyFrom : MethodName := ⟨RX0, "copyFrom", "(LPinholeHouse$Passer;)V"⟩
abbrev cX0_isGone : ByteArray := prog_2_method_4_code
def yX0_isGone : MethodName := ⟨RX0, "isGone", "()Z"⟩
abbrev cX0_walk : ByteArray := prog_2_method_5_code
def yX0_walk : MethodName := ⟨RX0, "walk", "()V"⟩
def RX1 : String := "PinholeHouse$Room"
def TX1 : u_T := fun k => match k with
  | 0 => ("PinholeHouse$Room", "step", "I", false)
  | 1 => ("PinholeHouse$Room", "depth", "I", false)
  | 2 => ("PinholeHouse$Room", "hole", "I", false)
  | 3 => ("PinholeHouse$Room", "paint", "I", false)
  | 4 => ("PinholeHouse$Room", "seats", "I", false)
  | 5 => ("PinholeHouse$Room", "people", "I", false)
  | _ => ("PinholeHouse$Room", "pence", "I", false)
def tyX1 : Nat → FieldType := fun k => match k with
  | 0 => .int
  | 1 => .int
  | 2 => .int
  | 3 => .int
  | 4 => .int
  | 5 => .int
  | _ => .int
abbrev wsX10 : List Cond := u_ws RX1 TX1 7
theorem nmX1 : ∀ a, a < 7 → ∀ b, b < 7 → a ≠ b → (TX1 a).2.1 ≠ (TX1 b).2.1 := by decide +kernel
theorem tyX1_ok : ∀ k, k < 7 → parseFieldDescriptor (TX1 k).2.2.1 = some (tyX1 k) := by decide +kernel
abbrev cX1_init : ByteArray := prog_3_method_1_code
def yX1_init : MethodName := ⟨RX1, "<init>", "()V"⟩
abbrev cX1_build : ByteArray := prog_3_method_2_code
def yX1_build : MethodName := ⟨RX1, "build", "(III)V"⟩
abbrev cX1_copyFrom : ByteArray := prog_3_method_3_code
def yX1_copyFrom : MethodName := ⟨RX1, "copyFrom", "(LPinholeHouse$Room;)V"⟩
abbrev cX1_reach : ByteArray := prog_3_method_4_code
def yX1_reach : MethodName := ⟨RX1, "reach", "()I"⟩
abbrev cX1_shows : ByteArray := prog_3_method_5_code
def yX1_shows : MethodName := ⟨RX1, "shows", "(LPinholeHouse$Passer;)Z"⟩
abbrev cX1_brightnessOf : ByteArray := prog_3_method_6_code
def yX1_brightnessOf : MethodName := ⟨RX1, "brightnessOf", "(LPinholeHouse$Passer;I)I"⟩
abbrev cX1_showsWell : ByteArray := prog_3_method_7_code
def yX1_showsWell : MethodName := ⟨RX1, "showsWell", "(LPinholeHouse$Passer;I)Z"⟩
abbrev cX1_pay : ByteArray := prog_3_method_8_code
def yX1_pay : MethodName := ⟨RX1, "pay", "(I)I"⟩
def RX2 : String := "PinholeHouse$Scene"
def TX2 : u_T := fun k => match k with
  | 0 => ("PinholeHouse$Scene", "minute", "I", false)
  | 1 => ("PinholeHouse$Scene", "passersCome", "I", false)
  | 2 => ("PinholeHouse$Scene", "roomsBuilt", "I", false)
  | 3 => ("PinholeHouse$Scene", "passers", "[LPinholeHouse$Passer;", true)
  | _ => ("PinholeHouse$Scene", "rooms", "[LPinholeHouse$Room;", true)
def tyX2 : Nat → FieldType := fun k => match k with
  | 0 => .int
  | 1 => .int
  | 2 => .int
  | 3 => .array (.object "PinholeHouse$Passer")
  | _ => .array (.object "PinholeHouse$Room")
abbrev wsX20 : List Cond := u_ws RX2 TX2 5
theorem nmX2 : ∀ a, a < 5 → ∀ b, b < 5 → a ≠ b → (TX2 a).2.1 ≠ (TX2 b).2.1 := by decide +kernel
theorem tyX2_ok : ∀ k, k < 5 → parseFieldDescriptor (TX2 k).2.2.1 = some (tyX2 k) := by decide +kernel
abbrev cX2_init : ByteArray := prog_4_method_1_code
def yX2_init : MethodName := ⟨RX2, "<init>", "()V"⟩
abbrev cX2_copyFrom : ByteArray := prog_4_method_2_code
def yX2_copyFrom : MethodName := ⟨RX2, "copyFrom", "(LPinholeHouse$Scene;)V"⟩
abbrev cX2_hasHoleAt : ByteArray := prog_4_method_3_code
def yX2_hasHoleAt : MethodName := ⟨RX2, "hasHoleAt", "(I)Z"⟩
abbrev cX2_passersAt : ByteArray := prog_4_method_4_code
def yX2_passersAt : MethodName := ⟨RX2, "passersAt", "(I)I"⟩
abbrev cX2_passersGone : ByteArray := prog_4_method_5_code
def yX2_passersGone : MethodName := ⟨RX2, "passersGone", "()I"⟩
abbrev cX2_showIn : ByteArray := prog_4_method_6_code
def yX2_showIn : MethodName := ⟨RX2, "showIn", "(LPinholeHouse$Room;I)I"⟩
abbrev cX2_roomsSeeingWell : ByteArray := prog_4_method_7_code
def yX2_roomsSeeingWell : MethodName := ⟨RX2, "roomsSeeingWell", "(LPinholeHouse$Passer;I)I"⟩
abbrev cX2_wallsWith : ByteArray := prog_4_method_8_code
def yX2_wallsWith : MethodName := ⟨RX2, "wallsWith", "(LPinholeHouse$Passer;)I"⟩
abbrev cX2_allShows : ByteArray := prog_4_method_9_code
def yX2_allShows : MethodName := ⟨RX2, "allShows", "(I)I"⟩
abbrev cX2_allPeople : ByteArray := prog_4_method_10_code
def yX2_allPeople : MethodName := ⟨RX2, "allPeople", "()I"⟩
abbrev cX2_allPence : ByteArray := prog_4_method_11_code
def yX2_allPence : MethodName := ⟨RX2, "allPence", "()I"⟩
abbrev cX2_passersWalk : ByteArray := prog_4_method_12_code
def yX2_passersWalk : MethodName := ⟨RX2, "passersWalk", "()V"⟩
abbrev cX2_roomsPay : ByteArray := prog_4_method_13_code
def yX2_roomsPay : MethodName := ⟨RX2, "roomsPay", "(I)I"⟩
def RX3 : String := "PinholeHouse$Sky"
def TX3 : u_T := fun k => match k with
  | 0 => ("PinholeHouse$Sky", "light", "[I", true)
  | _ => ("PinholeHouse$Sky", "clouds", "[I", true)
def tyX3 : Nat → FieldType := fun k => match k with
  | 0 => .array .int
  | _ => .array .int
abbrev wsX30 : List Cond := u_ws RX3 TX3 2
theorem nmX3 : ∀ a, a < 2 → ∀ b, b < 2 → a ≠ b → (TX3 a).2.1 ≠ (TX3 b).2.1 := by decide +kernel
theorem tyX3_ok : ∀ k, k < 2 → parseFieldDescriptor (TX3 k).2.2.1 = some (tyX3 k) := by decide +kernel
abbrev cX3_init : ByteArray := prog_5_method_1_code
def yX3_init : MethodName := ⟨RX3, "<init>", "()V"⟩
abbrev cX3_entry : ByteArray := prog_5_method_2_code
def yX3_entry : MethodName := ⟨RX3, "entry", "(I)I"⟩
abbrev cX3_lightAt : ByteArray := prog_5_method_3_code
def yX3_lightAt : MethodName := ⟨RX3, "lightAt", "(I)I"⟩
def RX4 : String := "PinholeHouse"
def TX4 : u_T := fun k => match k with
  | 0 => ("PinholeHouse", "sky", "LPinholeHouse$Sky;", true)
  | 1 => ("PinholeHouse", "now", "LPinholeHouse$Scene;", true)
  | _ => ("PinholeHouse", "trial", "LPinholeHouse$Scene;", true)
def tyX4 : Nat → FieldType := fun k => match k with
  | 0 => .object "PinholeHouse$Sky"
  | 1 => .object "PinholeHouse$Scene"
  | _ => .object "PinholeHouse$Scene"
abbrev wsX40 : List Cond := u_ws RX4 TX4 3
theorem nmX4 : ∀ a, a < 3 → ∀ b, b < 3 → a ≠ b → (TX4 a).2.1 ≠ (TX4 b).2.1 := by decide +kernel
theorem tyX4_ok : ∀ k, k < 3 → parseFieldDescriptor (TX4 k).2.2.1 = some (tyX4 k) := by decide +kernel
abbrev cX4_init : ByteArray := prog_1_method_1_code
def yX4_init : MethodName := ⟨RX4, "<init>", "()V"⟩
abbrev cX4_pass : ByteArray := prog_1_method_2_code
def yX4_pass : MethodName := ⟨RX4, "pass", "(IIII)I"⟩
abbrev cX4_setLight : ByteArray := prog_1_method_3_code
def yX4_setLight : MethodName := ⟨RX4, "setLight", "(III)I"⟩
abbrev cX4_addRoom : ByteArray := prog_1_method_4_code
def yX4_addRoom : MethodName := ⟨RX4, "addRoom", "(III)I"⟩
abbrev cX4_bore : ByteArray := prog_1_method_5_code
def yX4_bore : MethodName := ⟨RX4, "bore", "(II)I"⟩
abbrev cX4_paint : ByteArray := prog_1_method_6_code
def yX4_paint : MethodName := ⟨RX4, "paint", "(II)I"⟩
abbrev cX4_seat : ByteArray := prog_1_method_7_code
def yX4_seat : MethodName := ⟨RX4, "seat", "(II)I"⟩
abbrev cX4_passer : ByteArray := prog_1_method_8_code
def yX4_passer : MethodName := ⟨RX4, "passer", "(II)I"⟩
abbrev cX4_room : ByteArray := prog_1_method_9_code
def yX4_room : MethodName := ⟨RX4, "room", "(II)I"⟩
abbrev cX4_wall : ByteArray := prog_1_method_10_code
def yX4_wall : MethodName := ⟨RX4, "wall", "(II)I"⟩
abbrev cX4_bright : ByteArray := prog_1_method_11_code
def yX4_bright : MethodName := ⟨RX4, "bright", "(II)I"⟩
abbrev cX4_count : ByteArray := prog_1_method_12_code
def yX4_count : MethodName := ⟨RX4, "count", "(I)I"⟩
abbrev cX4_go : ByteArray := prog_1_method_13_code
def yX4_go : MethodName := ⟨RX4, "go", "(I)I"⟩
abbrev cX4_when : ByteArray := prog_1_method_14_code
def yX4_when : MethodName := ⟨RX4, "when", "(I)I"⟩
abbrev cX4_advise : ByteArray := prog_1_method_15_code
def yX4_advise : MethodName := ⟨RX4, "advise", "(II)I"⟩
abbrev cX4_seen : ByteArray := prog_1_method_16_code
def yX4_seen : MethodName := ⟨RX4, "seen", "(I)I"⟩
abbrev cX4_foresee : ByteArray := prog_1_method_17_code
def yX4_foresee : MethodName := ⟨RX4, "foresee", "(II)I"⟩
abbrev cX4_mean : ByteArray := prog_1_method_18_code
def yX4_mean : MethodName := ⟨RX4, "mean", "()D"⟩
abbrev cX4_digest : ByteArray := prog_1_method_19_code
def yX4_digest : MethodName := ⟨RX4, "digest", "()J"⟩
abbrev cX4_isStep : ByteArray := prog_1_method_20_code
def yX4_isStep : MethodName := ⟨RX4, "isStep", "(I)Z"⟩
abbrev cX4_isOneToNine : ByteArray := prog_1_method_21_code
def yX4_isOneToNine : MethodName := ⟨RX4, "isOneToNine", "(I)Z"⟩
abbrev cX4_isZeroToNine : ByteArray := prog_1_method_22_code
def yX4_isZeroToNine : MethodName := ⟨RX4, "isZeroToNine", "(I)Z"⟩
abbrev cX4_needPasser : ByteArray := prog_1_method_23_code
def yX4_needPasser : MethodName := ⟨RX4, "needPasser", "(I)V"⟩
abbrev cX4_needRoom : ByteArray := prog_1_method_24_code
def yX4_needRoom : MethodName := ⟨RX4, "needRoom", "(I)V"⟩
abbrev cX4_needBelow : ByteArray := prog_1_method_25_code
def yX4_needBelow : MethodName := ⟨RX4, "needBelow", "(II)V"⟩
abbrev cX4_needMinutes : ByteArray := prog_1_method_26_code
def yX4_needMinutes : MethodName := ⟨RX4, "needMinutes", "(II)V"⟩
abbrev cX4_lightNow : ByteArray := prog_1_method_27_code
def yX4_lightNow : MethodName := ⟨RX4, "lightNow", "()I"⟩
abbrev cX4_passerFact : ByteArray := prog_1_method_28_code
def yX4_passerFact : MethodName := ⟨RX4, "passerFact", "(II)I"⟩
abbrev cX4_roomFact : ByteArray := prog_1_method_29_code
def yX4_roomFact : MethodName := ⟨RX4, "roomFact", "(II)I"⟩
abbrev cX4_houseFact : ByteArray := prog_1_method_30_code
def yX4_houseFact : MethodName := ⟨RX4, "houseFact", "(I)I"⟩
abbrev cX4_letGoBy : ByteArray := prog_1_method_31_code
def yX4_letGoBy : MethodName := ⟨RX4, "letGoBy", "(LPinholeHouse$Scene;I)I"⟩
abbrev cX4_paidWithHole : ByteArray := prog_1_method_32_code
def yX4_paidWithHole : MethodName := ⟨RX4, "paidWithHole", "(III)I"⟩
def RX5 : String := "PinholeHouseModel$State"
def TX5 : u_T := fun k => match k with
  | 0 => ("PinholeHouseModel$State", "minute", "I", false)
  | 1 => ("PinholeHouseModel$State", "step", "[I", true)
  | 2 => ("PinholeHouseModel$State", "hole", "[I", true)
  | 3 => ("PinholeHouseModel$State", "people", "[I", true)
  | 4 => ("PinholeHouseModel$State", "paid", "[I", true)
  | _ => ("PinholeHouseModel$State", "this$0", "LPinholeHouseModel;", true)
def tyX5 : Nat → FieldType := fun k => match k with
  | 0 => .int
  | 1 => .array .int
  | 2 => .array .int
  | 3 => .array .int
  | 4 => .array .int
  | _ => .object "PinholeHouseModel"
abbrev wsX50 : List Cond := u_ws RX5 TX5 6
theorem nmX5 : ∀ a, a < 6 → ∀ b, b < 6 → a ≠ b → (TX5 a).2.1 ≠ (TX5 b).2.1 := by decide +kernel
theorem tyX5_ok : ∀ k, k < 6 → parseFieldDescriptor (TX5 k).2.2.1 = some (tyX5 k) := by decide +kernel
abbrev cX5_init : ByteArray := prog_8_method_1_code
def yX5_init : MethodName := ⟨RX5, "<init>", "(LPinholeHouseModel;)V"⟩
abbrev cX5_copy : ByteArray := prog_8_method_2_code
def yX5_copy : MethodName := ⟨RX5, "copy", "([I[I)V"⟩
abbrev cX5_become : ByteArray := prog_8_method_3_code
def yX5_become : MethodName := ⟨RX5, "become", "(LPinholeHouseModel$State;)V"⟩
abbrev cX5_lightNow : ByteArray := prog_8_method_4_code
def yX5_lightNow : MethodName := ⟨RX5, "lightNow", "()I"⟩
abbrev cX5_isShown : ByteArray := prog_8_method_5_code
def yX5_isShown : MethodName := ⟨RX5, "isShown", "(II)Z"⟩
abbrev cX5_brightness : ByteArray := prog_8_method_6_code
def yX5_brightness : MethodName := ⟨RX5, "brightness", "(II)I"⟩
abbrev cX5_isWell : ByteArray := prog_8_method_7_code
def yX5_isWell : MethodName := ⟨RX5, "isWell", "(II)Z"⟩
abbrev cX5_show : ByteArray := prog_8_method_8_code
def yX5_show : MethodName := ⟨RX5, "show", "(I)I"⟩
abbrev cX5_go : ByteArray := prog_8_method_9_code
def yX5_go : MethodName := ⟨RX5, "go", "()V"⟩
abbrev cX5_go_ : ByteArray := prog_8_method_10_code
def yX5_go_ : MethodName := ⟨RX5, "go", "(I)V"⟩
abbrev cX5_paidInAll : ByteArray := prog_8_method_11_code
def yX5_paidInAll : MethodName := ⟨RX5, "paidInAll", "()I"⟩
abbrev cX5_inAll : ByteArray := prog_8_method_12_code
def yX5_inAll : MethodName := ⟨RX5, "inAll", "()I"⟩
abbrev cX5_gone : ByteArray := prog_8_method_13_code
def yX5_gone : MethodName := ⟨RX5, "gone", "()I"⟩
def RX6 : String := "PinholeHouseModel"
def TX6 : u_T := fun k => match k with
  | 0 => ("PinholeHouseModel", "thrown", "I", false)
  | 1 => ("PinholeHouseModel", "passers", "I", false)
  | 2 => ("PinholeHouseModel", "rooms", "I", false)
  | 3 => ("PinholeHouseModel", "light", "[I", true)
  | 4 => ("PinholeHouseModel", "clouds", "[I", true)
  | 5 => ("PinholeHouseModel", "pace", "[I", true)
  | 6 => ("PinholeHouseModel", "tall", "[I", true)
  | 7 => ("PinholeHouseModel", "shine", "[I", true)
  | 8 => ("PinholeHouseModel", "place", "[I", true)
  | 9 => ("PinholeHouseModel", "depth", "[I", true)
  | 10 => ("PinholeHouseModel", "paint", "[I", true)
  | 11 => ("PinholeHouseModel", "seats", "[I", true)
  | 12 => ("PinholeHouseModel", "s", "LPinholeHouseModel$State;", true)
  | _ => ("PinholeHouseModel", "ahead", "LPinholeHouseModel$State;", true)
def tyX6 : Nat → FieldType := fun k => match k with
  | 0 => .int
  | 1 => .int
  | 2 => .int
  | 3 => .array .int
  | 4 => .array .int
  | 5 => .array .int
  | 6 => .array .int
  | 7 => .array .int
  | 8 => .array .int
  | 9 => .array .int
  | 10 => .array .int
  | 11 => .array .int
  | 12 => .object "PinholeHouseModel$State"
  | _ => .object "PinholeHouseModel$State"
abbrev wsX60 : List Cond := u_ws RX6 TX6 14
theorem nmX6 : ∀ a, a < 14 → ∀ b, b < 14 → a ≠ b → (TX6 a).2.1 ≠ (TX6 b).2.1 := by decide +kernel
theorem tyX6_ok : ∀ k, k < 14 → parseFieldDescriptor (TX6 k).2.2.1 = some (tyX6 k) := by decide +kernel
abbrev cX6_init : ByteArray := prog_7_method_1_code
def yX6_init : MethodName := ⟨RX6, "<init>", "()V"⟩
abbrev cX6_thrown : ByteArray := prog_7_method_2_code
def yX6_thrown : MethodName := ⟨RX6, "thrown", "()I"⟩
abbrev cX6_no : ByteArray := prog_7_method_3_code
def yX6_no : MethodName := ⟨RX6, "no", "(I)I"⟩
abbrev cX6_isIn : ByteArray := prog_7_method_4_code
def yX6_isIn : MethodName := ⟨RX6, "isIn", "(III)Z"⟩
abbrev cX6_isRoom : ByteArray := prog_7_method_5_code
def yX6_isRoom : MethodName := ⟨RX6, "isRoom", "(I)Z"⟩
abbrev cX6_isPasser : ByteArray := prog_7_method_6_code
def yX6_isPasser : MethodName := ⟨RX6, "isPasser", "(I)Z"⟩
abbrev cX6_pass : ByteArray := prog_7_method_7_code
def yX6_pass : MethodName := ⟨RX6, "pass", "(IIII)I"⟩
abbrev cX6_setLight : ByteArray := prog_7_method_8_code
def yX6_setLight : MethodName := ⟨RX6, "setLight", "(III)I"⟩
abbrev cX6_addRoom : ByteArray := prog_7_method_9_code
def yX6_addRoom : MethodName := ⟨RX6, "addRoom", "(III)I"⟩
abbrev cX6_bore : ByteArray := prog_7_method_10_code
def yX6_bore : MethodName := ⟨RX6, "bore", "(II)I"⟩
abbrev cX6_paint : ByteArray := prog_7_method_11_code
def yX6_paint : MethodName := ⟨RX6, "paint", "(II)I"⟩
abbrev cX6_seat : ByteArray := prog_7_method_12_code
def yX6_seat : MethodName := ⟨RX6, "seat", "(II)I"⟩
abbrev cX6_passerTold : ByteArray := prog_7_method_13_code
def yX6_passerTold : MethodName := ⟨RX6, "passerTold", "(II)I"⟩
abbrev cX6_passer : ByteArray := prog_7_method_14_code
def yX6_passer : MethodName := ⟨RX6, "passer", "(II)I"⟩
abbrev cX6_roomTold : ByteArray := prog_7_method_15_code
def yX6_roomTold : MethodName := ⟨RX6, "roomTold", "(II)I"⟩
abbrev cX6_room : ByteArray := prog_7_method_16_code
def yX6_room : MethodName := ⟨RX6, "room", "(II)I"⟩
abbrev cX6_wall : ByteArray := prog_7_method_17_code
def yX6_wall : MethodName := ⟨RX6, "wall", "(II)I"⟩
abbrev cX6_bright : ByteArray := prog_7_method_18_code
def yX6_bright : MethodName := ⟨RX6, "bright", "(II)I"⟩
abbrev cX6_counted : ByteArray := prog_7_method_19_code
def yX6_counted : MethodName := ⟨RX6, "counted", "(I)I"⟩
abbrev cX6_count : ByteArray := prog_7_method_20_code
def yX6_count : MethodName := ⟨RX6, "count", "(I)I"⟩
abbrev cX6_go : ByteArray := prog_7_method_21_code
def yX6_go : MethodName := ⟨RX6, "go", "(I)I"⟩
abbrev cX6_when : ByteArray := prog_7_method_22_code
def yX6_when : MethodName := ⟨RX6, "when", "(I)I"⟩
abbrev cX6_advise : ByteArray := prog_7_method_23_code
def yX6_advise : MethodName := ⟨RX6, "advise", "(II)I"⟩
abbrev cX6_seen : ByteArray := prog_7_method_24_code
def yX6_seen : MethodName := ⟨RX6, "seen", "(I)I"⟩
abbrev cX6_foresee : ByteArray := prog_7_method_25_code
def yX6_foresee : MethodName := ⟨RX6, "foresee", "(II)I"⟩
abbrev cX6_mean : ByteArray := prog_7_method_26_code
def yX6_mean : MethodName := ⟨RX6, "mean", "()D"⟩
abbrev cX6_digest : ByteArray := prog_7_method_27_code
def yX6_digest : MethodName := ⟨RX6, "digest", "()J"⟩
def RJ9 : String := "java/lang/Math"
def TJ9 : u_T := fun k => match k with
  | _ => ("", "", "", false)
def tyJ9 : Nat → FieldType := fun k => match k with
  | _ => .int
abbrev wsJ90 : List Cond := u_ws RJ9 TJ9 0
theorem nmJ9 : ∀ a, a < 0 → ∀ b, b < 0 → a ≠ b → (TJ9 a).2.1 ≠ (TJ9 b).2.1 := by decide +kernel
theorem tyJ9_ok : ∀ k, k < 0 → parseFieldDescriptor (TJ9 k).2.2.1 = some (tyJ9 k) := by decide +kernel
abbrev cJ9_abs_0f7a4 : ByteArray := prog_13_method_59_code
def yJ9_abs_0f7a4 : MethodName := ⟨RJ9, "abs", "(I)I"⟩
abbrev cJ9_max_7cf53 : ByteArray := prog_13_method_65_code
def yJ9_max_7cf53 : MethodName := ⟨RJ9, "max", "(II)I"⟩
abbrev cJ9_min_7cf53 : ByteArray := prog_13_method_69_code
def yJ9_min_7cf53 : MethodName := ⟨RJ9, "min", "(II)I"⟩
def RJ10 : String := "java/lang/System"
def TJ10 : u_T := fun k => match k with
  | _ => ("", "", "", false)
def tyJ10 : Nat → FieldType := fun k => match k with
  | _ => .int
abbrev wsJ100 : List Cond := u_ws RJ10 TJ10 0
theorem nmJ10 : ∀ a, a < 0 → ∀ b, b < 0 → a ≠ b → (TJ10 a).2.1 ≠ (TJ10 b).2.1 := by decide +kernel
theorem tyJ10_ok : ∀ k, k < 0 → parseFieldDescriptor (TJ10 k).2.2.1 = some (tyJ10 k) := by decide +kernel
def RL : String := "PinholeHouseLaw"
abbrev cL_pass : ByteArray := method_3_code
def yL_pass : MethodName := ⟨RL, "pass", "(LPinholeHouse;IIII[J)I"⟩
abbrev cL_setLight : ByteArray := method_4_code
def yL_setLight : MethodName := ⟨RL, "setLight", "(LPinholeHouse;III[J)I"⟩
abbrev cL_addRoom : ByteArray := method_5_code
def yL_addRoom : MethodName := ⟨RL, "addRoom", "(LPinholeHouse;III[J)I"⟩
abbrev cL_bore : ByteArray := method_6_code
def yL_bore : MethodName := ⟨RL, "bore", "(LPinholeHouse;II[J)I"⟩
abbrev cL_paint : ByteArray := method_7_code
def yL_paint : MethodName := ⟨RL, "paint", "(LPinholeHouse;II[J)I"⟩
abbrev cL_seat : ByteArray := method_8_code
def yL_seat : MethodName := ⟨RL, "seat", "(LPinholeHouse;II[J)I"⟩
abbrev cL_passer : ByteArray := method_9_code
def yL_passer : MethodName := ⟨RL, "passer", "(LPinholeHouse;II[J)I"⟩
abbrev cL_room : ByteArray := method_10_code
def yL_room : MethodName := ⟨RL, "room", "(LPinholeHouse;II[J)I"⟩
abbrev cL_wall : ByteArray := method_11_code
def yL_wall : MethodName := ⟨RL, "wall", "(LPinholeHouse;II[J)I"⟩
abbrev cL_bright : ByteArray := method_12_code
def yL_bright : MethodName := ⟨RL, "bright", "(LPinholeHouse;II[J)I"⟩
abbrev cL_count : ByteArray := method_13_code
def yL_count : MethodName := ⟨RL, "count", "(LPinholeHouse;I[J)I"⟩
abbrev cL_go : ByteArray := method_14_code
def yL_go : MethodName := ⟨RL, "go", "(LPinholeHouse;I[J)I"⟩
abbrev cL_when : ByteArray := method_15_code
def yL_when : MethodName := ⟨RL, "when", "(LPinholeHouse;I[J)I"⟩
abbrev cL_advise : ByteArray := method_16_code
def yL_advise : MethodName := ⟨RL, "advise", "(LPinholeHouse;II[J)I"⟩
abbrev cL_seen : ByteArray := method_17_code
def yL_seen : MethodName := ⟨RL, "seen", "(LPinholeHouse;I[J)I"⟩
abbrev cL_foresee : ByteArray := method_18_code
def yL_foresee : MethodName := ⟨RL, "foresee", "(LPinholeHouse;II[J)I"⟩
abbrev cL_law : ByteArray := code
def yL_law : MethodName := ⟨RL, "law", "([I)Z"⟩
def wsJ9_abs_0f7a4 : List Cond := .code yJ9_abs_0f7a4 cJ9_abs_0f7a4 1 (some .int) :: ([])
def wsJ9_max_7cf53 : List Cond := .code yJ9_max_7cf53 cJ9_max_7cf53 2 (some .int) :: ([])
def wsJ9_min_7cf53 : List Cond := .code yJ9_min_7cf53 cJ9_min_7cf53 2 (some .int) :: ([])
theorem wsL_law_x0 : ∀ w ∈ (vx_at0 RX4 35 "java/lang/IllegalArgumentException" ["java/lang/RuntimeException", "java/lang/Exception"]).filter goodWord, w ∈ lw_tbl := by decide +kernel
theorem wsL_law_x1 : ∀ w ∈ (vx_at0 RX4 42 "java/lang/IllegalStateException" ["java/lang/RuntimeException", "java/lang/Exception"]).filter goodWord, w ∈ lw_tbl := by decide +kernel
theorem wsL_law_x2 : ∀ w ∈ (vx_at0 RX4 55 "java/lang/IndexOutOfBoundsException" ["java/lang/RuntimeException", "java/lang/Exception"]).filter goodWord, w ∈ lw_tbl := by decide +kernel
abbrev vwCl : List vw_C := [(RX0, TX0, 4), (RX1, TX1, 7), (RX2, TX2, 5), (RX3, TX3, 2), (RX4, TX4, 3), (RX5, TX5, 6), (RX6, TX6, 14)]
end
section
theorem dX0_init_0 : decode cX0_init 0 = .ok (.aload_n 0, 1) := by decide +kernel
theorem dX0_init_1 : decode cX0_init 1 = .ok (.invokespecial 3, 3) := by decide +kernel
theorem dX0_init_4 : decode cX0_init 4 = .ok (.aload_n 0, 1) := by decide +kernel
theorem dX0_init_5 : decode cX0_init 5 = .ok (.iconst (-1), 1) := by decide +kernel
theorem dX0_init_6 : decode cX0_init 6 = .ok (.putfield 9, 3) := by decide +kernel
theorem dX0_init_9 : decode cX0_init 9 = .ok (.return_, 1) := by decide +kernel
theorem dX0_come_0 : decode cX0_come 0 = .ok (.aload_n 0, 1) := by decide +kernel
theorem dX0_come_1 : decode cX0_come 1 = .ok (.iload_n 1, 1) := by decide +kernel
theorem dX0_come_2 : decode cX0_come 2 = .ok (.putfield 9, 3) := by decide +kernel
theorem dX0_come_5 : decode cX0_come 5 = .ok (.aload_n 0, 1) := by decide +kernel
theorem dX0_come_6 : decode cX0_come 6 = .ok (.iload_n 2, 1) := by decide +kernel
theorem dX0_come_7 : decode cX0_come 7 = .ok (.putfield 15, 3) := by decide +kernel
theorem dX0_come_10 : decode cX0_come 10 = .ok (.aload_n 0, 1) := by decide +kernel
theorem dX0_come_11 : decode cX0_come 11 = .ok (.iload_n 3, 1) := by decide +kernel
theorem dX0_come_12 : decode cX0_come 12 = .ok (.putfield 18, 3) := by decide +kernel
theorem dX0_come_15 : decode cX0_come 15 = .ok (.aload_n 0, 1) := by decide +kernel
theorem dX0_come_16 : decode cX0_come 16 = .ok (.iload 4, 2) := by decide +kernel
theorem dX0_come_18 : decode cX0_come 18 = .ok (.putfield 21, 3) := by decide +kernel
theorem dX0_come_21 : decode cX0_come 21 = .ok (.return_, 1) := by decide +kernel
theorem dX0_copyFrom_0 : decode cX0_copyFrom 0 = .ok (.aload_n 0, 1) := by decide +kernel
theorem dX0_copyFrom_1 : decode cX0_copyFrom 1 = .ok (.aload_n 1, 1) := by decide +kernel
theorem dX0_copyFrom_2 : decode cX0_copyFrom 2 = .ok (.getfield 9, 3) := by decide +kernel
theorem dX0_copyFrom_5 : decode cX0_copyFrom 5 = .ok (.aload_n 1, 1) := by decide +kernel
theorem dX0_copyFrom_6 : decode cX0_copyFrom 6 = .ok (.getfield 15, 3) := by decide +kernel
theorem dX0_copyFrom_9 : decode cX0_copyFrom 9 = .ok (.aload_n 1, 1) := by decide +kernel
theorem dX0_copyFrom_10 : decode cX0_copyFrom 10 = .ok (.getfield 18, 3) := by decide +kernel
theorem dX0_copyFrom_13 : decode cX0_copyFrom 13 = .ok (.aload_n 1, 1) := by decide +kernel
theorem dX0_copyFrom_14 : decode cX0_copyFrom 14 = .ok (.getfield 21, 3) := by decide +kernel
theorem dX0_copyFrom_17 : decode cX0_copyFrom 17 = .ok (.invokevirtual 24, 3) := by decide +kernel
theorem dX0_copyFrom_20 : decode cX0_copyFrom 20 = .ok (.return_, 1) := by decide +kernel
theorem dX0_isGone_0 : decode cX0_isGone 0 = .ok (.aload_n 0, 1) := by decide +kernel
theorem dX0_isGone_1 : decode cX0_isGone 1 = .ok (.getfield 9, 3) := by decide +kernel
theorem dX0_isGone_4 : decode cX0_isGone 4 = .ok (.iconst (-1), 1) := by decide +kernel
theorem dX0_isGone_5 : decode cX0_isGone 5 = .ok (.if_icmp .ne 7, 3) := by decide +kernel
theorem dX0_isGone_8 : decode cX0_isGone 8 = .ok (.iconst 1, 1) := by decide +kernel
theorem dX0_isGone_9 : decode cX0_isGone 9 = .ok (.goto 4, 3) := by decide +kernel
theorem dX0_isGone_12 : decode cX0_isGone 12 = .ok (.iconst 0, 1) := by decide +kernel
theorem dX0_isGone_13 : decode cX0_isGone 13 = .ok (.ireturn, 1) := by decide +kernel
theorem dX0_walk_0 : decode cX0_walk 0 = .ok (.aload_n 0, 1) := by decide +kernel
theorem dX0_walk_1 : decode cX0_walk 1 = .ok (.invokevirtual 28, 3) := by decide +kernel
theorem dX0_walk_4 : decode cX0_walk 4 = .ok (.ifCond .ne 35, 3) := by decide +kernel
theorem dX0_walk_7 : decode cX0_walk 7 = .ok (.aload_n 0, 1) := by decide +kernel
theorem dX0_walk_8 : decode cX0_walk 8 = .ok (.aload_n 0, 1) := by decide +kernel
theorem dX0_walk_9 : decode cX0_walk 9 = .ok (.getfield 9, 3) := by decide +kernel
theorem dX0_walk_12 : decode cX0_walk 12 = .ok (.aload_n 0, 1) := by decide +kernel
theorem dX0_walk_13 : decode cX0_walk 13 = .ok (.getfield 15, 3) := by decide +kernel
theorem dX0_walk_16 : decode cX0_walk 16 = .ok (.iadd, 1) := by decide +kernel
theorem dX0_walk_17 : decode cX0_walk 17 = .ok (.invokestatic 32, 3) := by decide +kernel
theorem dX0_walk_20 : decode cX0_walk 20 = .ok (.ifCond .eq 15, 3) := by decide +kernel
theorem dX0_walk_23 : decode cX0_walk 23 = .ok (.aload_n 0, 1) := by decide +kernel
theorem dX0_walk_24 : decode cX0_walk 24 = .ok (.getfield 9, 3) := by decide +kernel
theorem dX0_walk_27 : decode cX0_walk 27 = .ok (.aload_n 0, 1) := by decide +kernel
theorem dX0_walk_28 : decode cX0_walk 28 = .ok (.getfield 15, 3) := by decide +kernel
theorem dX0_walk_31 : decode cX0_walk 31 = .ok (.iadd, 1) := by decide +kernel
theorem dX0_walk_32 : decode cX0_walk 32 = .ok (.goto 4, 3) := by decide +kernel
theorem dX0_walk_35 : decode cX0_walk 35 = .ok (.iconst (-1), 1) := by decide +kernel
theorem dX0_walk_36 : decode cX0_walk 36 = .ok (.putfield 9, 3) := by decide +kernel
theorem dX0_walk_39 : decode cX0_walk 39 = .ok (.return_, 1) := by decide +kernel
theorem dX1_init_0 : decode cX1_init 0 = .ok (.aload_n 0, 1) := by decide +kernel
theorem dX1_init_1 : decode cX1_init 1 = .ok (.invokespecial 3, 3) := by decide +kernel
theorem dX1_init_4 : decode cX1_init 4 = .ok (.return_, 1) := by decide +kernel
theorem dX1_build_0 : decode cX1_build 0 = .ok (.aload_n 0, 1) := by decide +kernel
theorem dX1_build_1 : decode cX1_build 1 = .ok (.iload_n 1, 1) := by decide +kernel
theorem dX1_build_2 : decode cX1_build 2 = .ok (.putfield 9, 3) := by decide +kernel
theorem dX1_build_5 : decode cX1_build 5 = .ok (.aload_n 0, 1) := by decide +kernel
theorem dX1_build_6 : decode cX1_build 6 = .ok (.iload_n 2, 1) := by decide +kernel
theorem dX1_build_7 : decode cX1_build 7 = .ok (.putfield 15, 3) := by decide +kernel
theorem dX1_build_10 : decode cX1_build 10 = .ok (.aload_n 0, 1) := by decide +kernel
theorem dX1_build_11 : decode cX1_build 11 = .ok (.iload_n 3, 1) := by decide +kernel
theorem dX1_build_12 : decode cX1_build 12 = .ok (.putfield 18, 3) := by decide +kernel
theorem dX1_build_15 : decode cX1_build 15 = .ok (.aload_n 0, 1) := by decide +kernel
theorem dX1_build_16 : decode cX1_build 16 = .ok (.iconst 3, 1) := by decide +kernel
theorem dX1_build_17 : decode cX1_build 17 = .ok (.putfield 21, 3) := by decide +kernel
theorem dX1_build_20 : decode cX1_build 20 = .ok (.return_, 1) := by decide +kernel
theorem dX1_copyFrom_0 : decode cX1_copyFrom 0 = .ok (.aload_n 0, 1) := by decide +kernel
theorem dX1_copyFrom_1 : decode cX1_copyFrom 1 = .ok (.aload_n 1, 1) := by decide +kernel
theorem dX1_copyFrom_2 : decode cX1_copyFrom 2 = .ok (.getfield 9, 3) := by decide +kernel
theorem dX1_copyFrom_5 : decode cX1_copyFrom 5 = .ok (.aload_n 1, 1) := by decide +kernel
theorem dX1_copyFrom_6 : decode cX1_copyFrom 6 = .ok (.getfield 15, 3) := by decide +kernel
theorem dX1_copyFrom_9 : decode cX1_copyFrom 9 = .ok (.aload_n 1, 1) := by decide +kernel
theorem dX1_copyFrom_10 : decode cX1_copyFrom 10 = .ok (.getfield 18, 3) := by decide +kernel
theorem dX1_copyFrom_13 : decode cX1_copyFrom 13 = .ok (.invokevirtual 24, 3) := by decide +kernel
theorem dX1_copyFrom_16 : decode cX1_copyFrom 16 = .ok (.aload_n 0, 1) := by decide +kernel
theorem dX1_copyFrom_17 : decode cX1_copyFrom 17 = .ok (.aload_n 1, 1) := by decide +kernel
theorem dX1_copyFrom_18 : decode cX1_copyFrom 18 = .ok (.getfield 21, 3) := by decide +kernel
theorem dX1_copyFrom_21 : decode cX1_copyFrom 21 = .ok (.putfield 21, 3) := by decide +kernel
theorem dX1_copyFrom_24 : decode cX1_copyFrom 24 = .ok (.aload_n 0, 1) := by decide +kernel
theorem dX1_copyFrom_25 : decode cX1_copyFrom 25 = .ok (.aload_n 1, 1) := by decide +kernel
theorem dX1_copyFrom_26 : decode cX1_copyFrom 26 = .ok (.getfield 28, 3) := by decide +kernel
theorem dX1_copyFrom_29 : decode cX1_copyFrom 29 = .ok (.putfield 28, 3) := by decide +kernel
theorem dX1_copyFrom_32 : decode cX1_copyFrom 32 = .ok (.aload_n 0, 1) := by decide +kernel
theorem dX1_copyFrom_33 : decode cX1_copyFrom 33 = .ok (.aload_n 1, 1) := by decide +kernel
theorem dX1_copyFrom_34 : decode cX1_copyFrom 34 = .ok (.getfield 31, 3) := by decide +kernel
theorem dX1_copyFrom_37 : decode cX1_copyFrom 37 = .ok (.putfield 31, 3) := by decide +kernel
theorem dX1_copyFrom_40 : decode cX1_copyFrom 40 = .ok (.aload_n 0, 1) := by decide +kernel
theorem dX1_copyFrom_41 : decode cX1_copyFrom 41 = .ok (.aload_n 1, 1) := by decide +kernel
theorem dX1_copyFrom_42 : decode cX1_copyFrom 42 = .ok (.getfield 34, 3) := by decide +kernel
theorem dX1_copyFrom_45 : decode cX1_copyFrom 45 = .ok (.putfield 34, 3) := by decide +kernel
theorem dX1_copyFrom_48 : decode cX1_copyFrom 48 = .ok (.return_, 1) := by decide +kernel
theorem dX1_reach_0 : decode cX1_reach 0 = .ok (.iconst 4, 1) := by decide +kernel
theorem dX1_reach_1 : decode cX1_reach 1 = .ok (.aload_n 0, 1) := by decide +kernel
theorem dX1_reach_2 : decode cX1_reach 2 = .ok (.getfield 15, 3) := by decide +kernel
theorem dX1_reach_5 : decode cX1_reach 5 = .ok (.imul, 1) := by decide +kernel
theorem dX1_reach_6 : decode cX1_reach 6 = .ok (.ireturn, 1) := by decide +kernel
theorem dX1_shows_0 : decode cX1_shows 0 = .ok (.aload_n 1, 1) := by decide +kernel
theorem dX1_shows_1 : decode cX1_shows 1 = .ok (.invokevirtual 37, 3) := by decide +kernel
theorem dX1_shows_4 : decode cX1_shows 4 = .ok (.ifCond .ne 26, 3) := by decide +kernel
theorem dX1_shows_7 : decode cX1_shows 7 = .ok (.aload_n 1, 1) := by decide +kernel
theorem dX1_shows_8 : decode cX1_shows 8 = .ok (.getfield 43, 3) := by decide +kernel
theorem dX1_shows_11 : decode cX1_shows 11 = .ok (.aload_n 0, 1) := by decide +kernel
theorem dX1_shows_12 : decode cX1_shows 12 = .ok (.getfield 9, 3) := by decide +kernel
theorem dX1_shows_15 : decode cX1_shows 15 = .ok (.isub, 1) := by decide +kernel
theorem dX1_shows_16 : decode cX1_shows 16 = .ok (.invokestatic 44, 3) := by decide +kernel
theorem dX1_shows_19 : decode cX1_shows 19 = .ok (.aload_n 0, 1) := by decide +kernel
theorem dX1_shows_20 : decode cX1_shows 20 = .ok (.invokevirtual 50, 3) := by decide +kernel
theorem dX1_shows_23 : decode cX1_shows 23 = .ok (.if_icmp .gt 7, 3) := by decide +kernel
theorem dX1_shows_26 : decode cX1_shows 26 = .ok (.iconst 1, 1) := by decide +kernel
theorem dX1_shows_27 : decode cX1_shows 27 = .ok (.goto 4, 3) := by decide +kernel
theorem dX1_shows_30 : decode cX1_shows 30 = .ok (.iconst 0, 1) := by decide +kernel
theorem dX1_shows_31 : decode cX1_shows 31 = .ok (.ireturn, 1) := by decide +kernel
theorem dX1_brightnessOf_0 : decode cX1_brightnessOf 0 = .ok (.bipush 10, 2) := by decide +kernel
theorem dX1_brightnessOf_2 : decode cX1_brightnessOf 2 = .ok (.aload_n 0, 1) := by decide +kernel
theorem dX1_brightnessOf_3 : decode cX1_brightnessOf 3 = .ok (.getfield 15, 3) := by decide +kernel
theorem dX1_brightnessOf_6 : decode cX1_brightnessOf 6 = .ok (.imul, 1) := by decide +kernel
theorem dX1_brightnessOf_7 : decode cX1_brightnessOf 7 = .ok (.aload_n 0, 1) := by decide +kernel
theorem dX1_brightnessOf_8 : decode cX1_brightnessOf 8 = .ok (.getfield 15, 3) := by decide +kernel
theorem dX1_brightnessOf_11 : decode cX1_brightnessOf 11 = .ok (.imul, 1) := by decide +kernel
theorem dX1_brightnessOf_12 : decode cX1_brightnessOf 12 = .ok (.istore_n 3, 1) := by decide +kernel
theorem dX1_brightnessOf_13 : decode cX1_brightnessOf 13 = .ok (.iload_n 3, 1) := by decide +kernel
theorem dX1_brightnessOf_14 : decode cX1_brightnessOf 14 = .ok (.ifCond .ne 5, 3) := by decide +kernel
theorem dX1_brightnessOf_17 : decode cX1_brightnessOf 17 = .ok (.iconst 0, 1) := by decide +kernel
theorem dX1_brightnessOf_18 : decode cX1_brightnessOf 18 = .ok (.ireturn, 1) := by decide +kernel
theorem dX1_brightnessOf_19 : decode cX1_brightnessOf 19 = .ok (.iload_n 2, 1) := by decide +kernel
theorem dX1_brightnessOf_20 : decode cX1_brightnessOf 20 = .ok (.aload_n 1, 1) := by decide +kernel
theorem dX1_brightnessOf_21 : decode cX1_brightnessOf 21 = .ok (.getfield 54, 3) := by decide +kernel
theorem dX1_brightnessOf_24 : decode cX1_brightnessOf 24 = .ok (.imul, 1) := by decide +kernel
theorem dX1_brightnessOf_25 : decode cX1_brightnessOf 25 = .ok (.aload_n 0, 1) := by decide +kernel
theorem dX1_brightnessOf_26 : decode cX1_brightnessOf 26 = .ok (.getfield 21, 3) := by decide +kernel
theorem dX1_brightnessOf_29 : decode cX1_brightnessOf 29 = .ok (.imul, 1) := by decide +kernel
theorem dX1_brightnessOf_30 : decode cX1_brightnessOf 30 = .ok (.aload_n 0, 1) := by decide +kernel
theorem dX1_brightnessOf_31 : decode cX1_brightnessOf 31 = .ok (.getfield 21, 3) := by decide +kernel
theorem dX1_brightnessOf_34 : decode cX1_brightnessOf 34 = .ok (.imul, 1) := by decide +kernel
theorem dX1_brightnessOf_35 : decode cX1_brightnessOf 35 = .ok (.iload_n 3, 1) := by decide +kernel
theorem dX1_brightnessOf_36 : decode cX1_brightnessOf 36 = .ok (.idiv, 1) := by decide +kernel
theorem dX1_brightnessOf_37 : decode cX1_brightnessOf 37 = .ok (.bipush 10, 2) := by decide +kernel
theorem dX1_brightnessOf_39 : decode cX1_brightnessOf 39 = .ok (.aload_n 0, 1) := by decide +kernel
theorem dX1_brightnessOf_40 : decode cX1_brightnessOf 40 = .ok (.getfield 28, 3) := by decide +kernel
theorem dX1_brightnessOf_43 : decode cX1_brightnessOf 43 = .ok (.isub, 1) := by decide +kernel
theorem dX1_brightnessOf_44 : decode cX1_brightnessOf 44 = .ok (.imul, 1) := by decide +kernel
theorem dX1_brightnessOf_45 : decode cX1_brightnessOf 45 = .ok (.bipush 10, 2) := by decide +kernel
theorem dX1_brightnessOf_47 : decode cX1_brightnessOf 47 = .ok (.idiv, 1) := by decide +kernel
theorem dX1_brightnessOf_48 : decode cX1_brightnessOf 48 = .ok (.ireturn, 1) := by decide +kernel
theorem dX1_showsWell_0 : decode cX1_showsWell 0 = .ok (.aload_n 0, 1) := by decide +kernel
theorem dX1_showsWell_1 : decode cX1_showsWell 1 = .ok (.aload_n 1, 1) := by decide +kernel
theorem dX1_showsWell_2 : decode cX1_showsWell 2 = .ok (.invokevirtual 57, 3) := by decide +kernel
theorem dX1_showsWell_5 : decode cX1_showsWell 5 = .ok (.ifCond .eq 35, 3) := by decide +kernel
theorem dX1_showsWell_8 : decode cX1_showsWell 8 = .ok (.aload_n 0, 1) := by decide +kernel
theorem dX1_showsWell_9 : decode cX1_showsWell 9 = .ok (.getfield 21, 3) := by decide +kernel
theorem dX1_showsWell_12 : decode cX1_showsWell 12 = .ok (.aload_n 0, 1) := by decide +kernel
theorem dX1_showsWell_13 : decode cX1_showsWell 13 = .ok (.getfield 15, 3) := by decide +kernel
theorem dX1_showsWell_16 : decode cX1_showsWell 16 = .ok (.imul, 1) := by decide +kernel
theorem dX1_showsWell_17 : decode cX1_showsWell 17 = .ok (.iconst 3, 1) := by decide +kernel
theorem dX1_showsWell_18 : decode cX1_showsWell 18 = .ok (.idiv, 1) := by decide +kernel
theorem dX1_showsWell_19 : decode cX1_showsWell 19 = .ok (.aload_n 1, 1) := by decide +kernel
theorem dX1_showsWell_20 : decode cX1_showsWell 20 = .ok (.getfield 61, 3) := by decide +kernel
theorem dX1_showsWell_23 : decode cX1_showsWell 23 = .ok (.if_icmp .gt 17, 3) := by decide +kernel
theorem dX1_showsWell_26 : decode cX1_showsWell 26 = .ok (.aload_n 0, 1) := by decide +kernel
theorem dX1_showsWell_27 : decode cX1_showsWell 27 = .ok (.aload_n 1, 1) := by decide +kernel
theorem dX1_showsWell_28 : decode cX1_showsWell 28 = .ok (.iload_n 2, 1) := by decide +kernel
theorem dX1_showsWell_29 : decode cX1_showsWell 29 = .ok (.invokevirtual 64, 3) := by decide +kernel
theorem dX1_showsWell_32 : decode cX1_showsWell 32 = .ok (.iconst 5, 1) := by decide +kernel
theorem dX1_showsWell_33 : decode cX1_showsWell 33 = .ok (.if_icmp .lt 7, 3) := by decide +kernel
theorem dX1_showsWell_36 : decode cX1_showsWell 36 = .ok (.iconst 1, 1) := by decide +kernel
theorem dX1_showsWell_37 : decode cX1_showsWell 37 = .ok (.goto 4, 3) := by decide +kernel
theorem dX1_showsWell_40 : decode cX1_showsWell 40 = .ok (.iconst 0, 1) := by decide +kernel
theorem dX1_showsWell_41 : decode cX1_showsWell 41 = .ok (.ireturn, 1) := by decide +kernel
theorem dX1_pay_0 : decode cX1_pay 0 = .ok (.iload_n 1, 1) := by decide +kernel
theorem dX1_pay_1 : decode cX1_pay 1 = .ok (.ifCond .ne 19, 3) := by decide +kernel
theorem dX1_pay_4 : decode cX1_pay 4 = .ok (.aload_n 0, 1) := by decide +kernel
theorem dX1_pay_5 : decode cX1_pay 5 = .ok (.aload_n 0, 1) := by decide +kernel
theorem dX1_pay_6 : decode cX1_pay 6 = .ok (.getfield 31, 3) := by decide +kernel
theorem dX1_pay_9 : decode cX1_pay 9 = .ok (.iconst 1, 1) := by decide +kernel
theorem dX1_pay_10 : decode cX1_pay 10 = .ok (.isub, 1) := by decide +kernel
theorem dX1_pay_11 : decode cX1_pay 11 = .ok (.iconst 0, 1) := by decide +kernel
theorem dX1_pay_12 : decode cX1_pay 12 = .ok (.invokestatic 68, 3) := by decide +kernel
theorem dX1_pay_15 : decode cX1_pay 15 = .ok (.putfield 31, 3) := by decide +kernel
theorem dX1_pay_18 : decode cX1_pay 18 = .ok (.iconst 0, 1) := by decide +kernel
theorem dX1_pay_19 : decode cX1_pay 19 = .ok (.ireturn, 1) := by decide +kernel
theorem dX1_pay_20 : decode cX1_pay 20 = .ok (.aload_n 0, 1) := by decide +kernel
theorem dX1_pay_21 : decode cX1_pay 21 = .ok (.getfield 31, 3) := by decide +kernel
theorem dX1_pay_24 : decode cX1_pay 24 = .ok (.iload_n 1, 1) := by decide +kernel
theorem dX1_pay_25 : decode cX1_pay 25 = .ok (.iconst 2, 1) := by decide +kernel
theorem dX1_pay_26 : decode cX1_pay 26 = .ok (.invokestatic 72, 3) := by decide +kernel
theorem dX1_pay_29 : decode cX1_pay 29 = .ok (.imul, 1) := by decide +kernel
theorem dX1_pay_30 : decode cX1_pay 30 = .ok (.istore_n 2, 1) := by decide +kernel
theorem dX1_pay_31 : decode cX1_pay 31 = .ok (.aload_n 0, 1) := by decide +kernel
theorem dX1_pay_32 : decode cX1_pay 32 = .ok (.dup, 1) := by decide +kernel
theorem dX1_pay_33 : decode cX1_pay 33 = .ok (.getfield 34, 3) := by decide +kernel
theorem dX1_pay_36 : decode cX1_pay 36 = .ok (.iload_n 2, 1) := by decide +kernel
theorem dX1_pay_37 : decode cX1_pay 37 = .ok (.iadd, 1) := by decide +kernel
theorem dX1_pay_38 : decode cX1_pay 38 = .ok (.putfield 34, 3) := by decide +kernel
theorem dX1_pay_41 : decode cX1_pay 41 = .ok (.iload_n 1, 1) := by decide +kernel
theorem dX1_pay_42 : decode cX1_pay 42 = .ok (.iconst 2, 1) := by decide +kernel
theorem dX1_pay_43 : decode cX1_pay 43 = .ok (.if_icmp .lt 24, 3) := by decide +kernel
theorem dX1_pay_46 : decode cX1_pay 46 = .ok (.aload_n 0, 1) := by decide +kernel
theorem dX1_pay_47 : decode cX1_pay 47 = .ok (.getfield 31, 3) := by decide +kernel
theorem dX1_pay_50 : decode cX1_pay 50 = .ok (.aload_n 0, 1) := by decide +kernel
theorem dX1_pay_51 : decode cX1_pay 51 = .ok (.getfield 18, 3) := by decide +kernel
theorem dX1_pay_54 : decode cX1_pay 54 = .ok (.if_icmp .ge 13, 3) := by decide +kernel
theorem dX1_pay_57 : decode cX1_pay 57 = .ok (.aload_n 0, 1) := by decide +kernel
theorem dX1_pay_58 : decode cX1_pay 58 = .ok (.dup, 1) := by decide +kernel
theorem dX1_pay_59 : decode cX1_pay 59 = .ok (.getfield 31, 3) := by decide +kernel
theorem dX1_pay_62 : decode cX1_pay 62 = .ok (.iconst 1, 1) := by decide +kernel
theorem dX1_pay_63 : decode cX1_pay 63 = .ok (.iadd, 1) := by decide +kernel
theorem dX1_pay_64 : decode cX1_pay 64 = .ok (.putfield 31, 3) := by decide +kernel
theorem dX1_pay_67 : decode cX1_pay 67 = .ok (.iload_n 2, 1) := by decide +kernel
theorem dX1_pay_68 : decode cX1_pay 68 = .ok (.ireturn, 1) := by decide +kernel
theorem dX2_init_0 : decode cX2_init 0 = .ok (.aload_n 0, 1) := by decide +kernel
theorem dX2_init_1 : decode cX2_init 1 = .ok (.invokespecial 3, 3) := by decide +kernel
theorem dX2_init_4 : decode cX2_init 4 = .ok (.aload_n 0, 1) := by decide +kernel
theorem dX2_init_5 : decode cX2_init 5 = .ok (.bipush 10, 2) := by decide +kernel
theorem dX2_init_7 : decode cX2_init 7 = .ok (.anewarray 9, 3) := by decide +kernel
theorem dX2_init_10 : decode cX2_init 10 = .ok (.putfield 11, 3) := by decide +kernel
theorem dX2_init_13 : decode cX2_init 13 = .ok (.aload_n 0, 1) := by decide +kernel
theorem dX2_init_14 : decode cX2_init 14 = .ok (.bipush 8, 2) := by decide +kernel
theorem dX2_init_16 : decode cX2_init 16 = .ok (.anewarray 17, 3) := by decide +kernel
theorem dX2_init_19 : decode cX2_init 19 = .ok (.putfield 19, 3) := by decide +kernel
theorem dX2_init_22 : decode cX2_init 22 = .ok (.iconst 0, 1) := by decide +kernel
theorem dX2_init_23 : decode cX2_init 23 = .ok (.istore_n 1, 1) := by decide +kernel
theorem dX2_init_24 : decode cX2_init 24 = .ok (.iload_n 1, 1) := by decide +kernel
theorem dX2_init_25 : decode cX2_init 25 = .ok (.bipush 10, 2) := by decide +kernel
theorem dX2_init_27 : decode cX2_init 27 = .ok (.if_icmp .ge 22, 3) := by decide +kernel
theorem dX2_init_30 : decode cX2_init 30 = .ok (.aload_n 0, 1) := by decide +kernel
theorem dX2_init_31 : decode cX2_init 31 = .ok (.getfield 11, 3) := by decide +kernel
theorem dX2_init_34 : decode cX2_init 34 = .ok (.iload_n 1, 1) := by decide +kernel
theorem dX2_init_35 : decode cX2_init 35 = .ok (.new 9, 3) := by decide +kernel
theorem dX2_init_38 : decode cX2_init 38 = .ok (.dup, 1) := by decide +kernel
theorem dX2_init_39 : decode cX2_init 39 = .ok (.invokespecial 23, 3) := by decide +kernel
theorem dX2_init_42 : decode cX2_init 42 = .ok (.aastore, 1) := by decide +kernel
theorem dX2_init_43 : decode cX2_init 43 = .ok (.iinc 1 1, 3) := by decide +kernel
theorem dX2_init_46 : decode cX2_init 46 = .ok (.goto (-22), 3) := by decide +kernel
theorem dX2_init_49 : decode cX2_init 49 = .ok (.iconst 0, 1) := by decide +kernel
theorem dX2_init_50 : decode cX2_init 50 = .ok (.istore_n 1, 1) := by decide +kernel
theorem dX2_init_51 : decode cX2_init 51 = .ok (.iload_n 1, 1) := by decide +kernel
theorem dX2_init_52 : decode cX2_init 52 = .ok (.bipush 8, 2) := by decide +kernel
theorem dX2_init_54 : decode cX2_init 54 = .ok (.if_icmp .ge 22, 3) := by decide +kernel
theorem dX2_init_57 : decode cX2_init 57 = .ok (.aload_n 0, 1) := by decide +kernel
theorem dX2_init_58 : decode cX2_init 58 = .ok (.getfield 19, 3) := by decide +kernel
theorem dX2_init_61 : decode cX2_init 61 = .ok (.iload_n 1, 1) := by decide +kernel
theorem dX2_init_62 : decode cX2_init 62 = .ok (.new 17, 3) := by decide +kernel
theorem dX2_init_65 : decode cX2_init 65 = .ok (.dup, 1) := by decide +kernel
theorem dX2_init_66 : decode cX2_init 66 = .ok (.invokespecial 24, 3) := by decide +kernel
theorem dX2_init_69 : decode cX2_init 69 = .ok (.aastore, 1) := by decide +kernel
theorem dX2_init_70 : decode cX2_init 70 = .ok (.iinc 1 1, 3) := by decide +kernel
theorem dX2_init_73 : decode cX2_init 73 = .ok (.goto (-22), 3) := by decide +kernel
theorem dX2_init_76 : decode cX2_init 76 = .ok (.return_, 1) := by decide +kernel
theorem dX2_copyFrom_0 : decode cX2_copyFrom 0 = .ok (.aload_n 0, 1) := by decide +kernel
theorem dX2_copyFrom_1 : decode cX2_copyFrom 1 = .ok (.aload_n 1, 1) := by decide +kernel
theorem dX2_copyFrom_2 : decode cX2_copyFrom 2 = .ok (.getfield 25, 3) := by decide +kernel
theorem dX2_copyFrom_5 : decode cX2_copyFrom 5 = .ok (.putfield 25, 3) := by decide +kernel
theorem dX2_copyFrom_8 : decode cX2_copyFrom 8 = .ok (.aload_n 0, 1) := by decide +kernel
theorem dX2_copyFrom_9 : decode cX2_copyFrom 9 = .ok (.aload_n 1, 1) := by decide +kernel
theorem dX2_copyFrom_10 : decode cX2_copyFrom 10 = .ok (.getfield 29, 3) := by decide +kernel
theorem dX2_copyFrom_13 : decode cX2_copyFrom 13 = .ok (.putfield 29, 3) := by decide +kernel
theorem dX2_copyFrom_16 : decode cX2_copyFrom 16 = .ok (.aload_n 0, 1) := by decide +kernel
theorem dX2_copyFrom_17 : decode cX2_copyFrom 17 = .ok (.aload_n 1, 1) := by decide +kernel
theorem dX2_copyFrom_18 : decode cX2_copyFrom 18 = .ok (.getfield 32, 3) := by decide +kernel
theorem dX2_copyFrom_21 : decode cX2_copyFrom 21 = .ok (.putfield 32, 3) := by decide +kernel
theorem dX2_copyFrom_24 : decode cX2_copyFrom 24 = .ok (.iconst 0, 1) := by decide +kernel
theorem dX2_copyFrom_25 : decode cX2_copyFrom 25 = .ok (.istore_n 2, 1) := by decide +kernel
theorem dX2_copyFrom_26 : decode cX2_copyFrom 26 = .ok (.iload_n 2, 1) := by decide +kernel
theorem dX2_copyFrom_27 : decode cX2_copyFrom 27 = .ok (.aload_n 0, 1) := by decide +kernel
theorem dX2_copyFrom_28 : decode cX2_copyFrom 28 = .ok (.getfield 29, 3) := by decide +kernel
theorem dX2_copyFrom_31 : decode cX2_copyFrom 31 = .ok (.if_icmp .ge 24, 3) := by decide +kernel
theorem dX2_copyFrom_34 : decode cX2_copyFrom 34 = .ok (.aload_n 0, 1) := by decide +kernel
theorem dX2_copyFrom_35 : decode cX2_copyFrom 35 = .ok (.getfield 11, 3) := by decide +kernel
theorem dX2_copyFrom_38 : decode cX2_copyFrom 38 = .ok (.iload_n 2, 1) := by decide +kernel
theorem dX2_copyFrom_39 : decode cX2_copyFrom 39 = .ok (.aaload, 1) := by decide +kernel
theorem dX2_copyFrom_40 : decode cX2_copyFrom 40 = .ok (.aload_n 1, 1) := by decide +kernel
theorem dX2_copyFrom_41 : decode cX2_copyFrom 41 = .ok (.getfield 11, 3) := by decide +kernel
theorem dX2_copyFrom_44 : decode cX2_copyFrom 44 = .ok (.iload_n 2, 1) := by decide +kernel
theorem dX2_copyFrom_45 : decode cX2_copyFrom 45 = .ok (.aaload, 1) := by decide +kernel
theorem dX2_copyFrom_46 : decode cX2_copyFrom 46 = .ok (.invokevirtual 35, 3) := by decide +kernel
theorem dX2_copyFrom_49 : decode cX2_copyFrom 49 = .ok (.iinc 2 1, 3) := by decide +kernel
theorem dX2_copyFrom_52 : decode cX2_copyFrom 52 = .ok (.goto (-26), 3) := by decide +kernel
theorem dX2_copyFrom_55 : decode cX2_copyFrom 55 = .ok (.iconst 0, 1) := by decide +kernel
theorem dX2_copyFrom_56 : decode cX2_copyFrom 56 = .ok (.istore_n 2, 1) := by decide +kernel
theorem dX2_copyFrom_57 : decode cX2_copyFrom 57 = .ok (.iload_n 2, 1) := by decide +kernel
theorem dX2_copyFrom_58 : decode cX2_copyFrom 58 = .ok (.aload_n 0, 1) := by decide +kernel
theorem dX2_copyFrom_59 : decode cX2_copyFrom 59 = .ok (.getfield 32, 3) := by decide +kernel
theorem dX2_copyFrom_62 : decode cX2_copyFrom 62 = .ok (.if_icmp .ge 24, 3) := by decide +kernel
theorem dX2_copyFrom_65 : decode cX2_copyFrom 65 = .ok (.aload_n 0, 1) := by decide +kernel
theorem dX2_copyFrom_66 : decode cX2_copyFrom 66 = .ok (.getfield 19, 3) := by decide +kernel
theorem dX2_copyFrom_69 : decode cX2_copyFrom 69 = .ok (.iload_n 2, 1) := by decide +kernel
theorem dX2_copyFrom_70 : decode cX2_copyFrom 70 = .ok (.aaload, 1) := by decide +kernel
theorem dX2_copyFrom_71 : decode cX2_copyFrom 71 = .ok (.aload_n 1, 1) := by decide +kernel
theorem dX2_copyFrom_72 : decode cX2_copyFrom 72 = .ok (.getfield 19, 3) := by decide +kernel
theorem dX2_copyFrom_75 : decode cX2_copyFrom 75 = .ok (.iload_n 2, 1) := by decide +kernel
theorem dX2_copyFrom_76 : decode cX2_copyFrom 76 = .ok (.aaload, 1) := by decide +kernel
theorem dX2_copyFrom_77 : decode cX2_copyFrom 77 = .ok (.invokevirtual 39, 3) := by decide +kernel
theorem dX2_copyFrom_80 : decode cX2_copyFrom 80 = .ok (.iinc 2 1, 3) := by decide +kernel
theorem dX2_copyFrom_83 : decode cX2_copyFrom 83 = .ok (.goto (-26), 3) := by decide +kernel
theorem dX2_copyFrom_86 : decode cX2_copyFrom 86 = .ok (.return_, 1) := by decide +kernel
theorem dX2_hasHoleAt_0 : decode cX2_hasHoleAt 0 = .ok (.iconst 0, 1) := by decide +kernel
theorem dX2_hasHoleAt_1 : decode cX2_hasHoleAt 1 = .ok (.istore_n 2, 1) := by decide +kernel
theorem dX2_hasHoleAt_2 : decode cX2_hasHoleAt 2 = .ok (.iload_n 2, 1) := by decide +kernel
theorem dX2_hasHoleAt_3 : decode cX2_hasHoleAt 3 = .ok (.aload_n 0, 1) := by decide +kernel
theorem dX2_hasHoleAt_4 : decode cX2_hasHoleAt 4 = .ok (.getfield 32, 3) := by decide +kernel
theorem dX2_hasHoleAt_7 : decode cX2_hasHoleAt 7 = .ok (.if_icmp .ge 24, 3) := by decide +kernel
theorem dX2_hasHoleAt_10 : decode cX2_hasHoleAt 10 = .ok (.aload_n 0, 1) := by decide +kernel
theorem dX2_hasHoleAt_11 : decode cX2_hasHoleAt 11 = .ok (.getfield 19, 3) := by decide +kernel
theorem dX2_hasHoleAt_14 : decode cX2_hasHoleAt 14 = .ok (.iload_n 2, 1) := by decide +kernel
theorem dX2_hasHoleAt_15 : decode cX2_hasHoleAt 15 = .ok (.aaload, 1) := by decide +kernel
theorem dX2_hasHoleAt_16 : decode cX2_hasHoleAt 16 = .ok (.getfield 42, 3) := by decide +kernel
theorem dX2_hasHoleAt_19 : decode cX2_hasHoleAt 19 = .ok (.iload_n 1, 1) := by decide +kernel
theorem dX2_hasHoleAt_20 : decode cX2_hasHoleAt 20 = .ok (.if_icmp .ne 5, 3) := by decide +kernel
theorem dX2_hasHoleAt_23 : decode cX2_hasHoleAt 23 = .ok (.iconst 1, 1) := by decide +kernel
theorem dX2_hasHoleAt_24 : decode cX2_hasHoleAt 24 = .ok (.ireturn, 1) := by decide +kernel
theorem dX2_hasHoleAt_25 : decode cX2_hasHoleAt 25 = .ok (.iinc 2 1, 3) := by decide +kernel
theorem dX2_hasHoleAt_28 : decode cX2_hasHoleAt 28 = .ok (.goto (-26), 3) := by decide +kernel
theorem dX2_hasHoleAt_31 : decode cX2_hasHoleAt 31 = .ok (.iconst 0, 1) := by decide +kernel
theorem dX2_hasHoleAt_32 : decode cX2_hasHoleAt 32 = .ok (.ireturn, 1) := by decide +kernel
theorem dX2_passersAt_0 : decode cX2_passersAt 0 = .ok (.iconst 0, 1) := by decide +kernel
theorem dX2_passersAt_1 : decode cX2_passersAt 1 = .ok (.istore_n 2, 1) := by decide +kernel
theorem dX2_passersAt_2 : decode cX2_passersAt 2 = .ok (.iconst 0, 1) := by decide +kernel
theorem dX2_passersAt_3 : decode cX2_passersAt 3 = .ok (.istore_n 3, 1) := by decide +kernel
theorem dX2_passersAt_4 : decode cX2_passersAt 4 = .ok (.iload_n 3, 1) := by decide +kernel
theorem dX2_passersAt_5 : decode cX2_passersAt 5 = .ok (.aload_n 0, 1) := by decide +kernel
theorem dX2_passersAt_6 : decode cX2_passersAt 6 = .ok (.getfield 29, 3) := by decide +kernel
theorem dX2_passersAt_9 : decode cX2_passersAt 9 = .ok (.if_icmp .ge 37, 3) := by decide +kernel
theorem dX2_passersAt_12 : decode cX2_passersAt 12 = .ok (.aload_n 0, 1) := by decide +kernel
theorem dX2_passersAt_13 : decode cX2_passersAt 13 = .ok (.getfield 11, 3) := by decide +kernel
theorem dX2_passersAt_16 : decode cX2_passersAt 16 = .ok (.iload_n 3, 1) := by decide +kernel
theorem dX2_passersAt_17 : decode cX2_passersAt 17 = .ok (.aaload, 1) := by decide +kernel
theorem dX2_passersAt_18 : decode cX2_passersAt 18 = .ok (.invokevirtual 45, 3) := by decide +kernel
theorem dX2_passersAt_21 : decode cX2_passersAt 21 = .ok (.ifCond .ne 19, 3) := by decide +kernel
theorem dX2_passersAt_24 : decode cX2_passersAt 24 = .ok (.aload_n 0, 1) := by decide +kernel
theorem dX2_passersAt_25 : decode cX2_passersAt 25 = .ok (.getfield 11, 3) := by decide +kernel
theorem dX2_passersAt_28 : decode cX2_passersAt 28 = .ok (.iload_n 3, 1) := by decide +kernel
theorem dX2_passersAt_29 : decode cX2_passersAt 29 = .ok (.aaload, 1) := by decide +kernel
theorem dX2_passersAt_30 : decode cX2_passersAt 30 = .ok (.getfield 49, 3) := by decide +kernel
theorem dX2_passersAt_33 : decode cX2_passersAt 33 = .ok (.iload_n 1, 1) := by decide +kernel
theorem dX2_passersAt_34 : decode cX2_passersAt 34 = .ok (.if_icmp .ne 6, 3) := by decide +kernel
theorem dX2_passersAt_37 : decode cX2_passersAt 37 = .ok (.iinc 2 1, 3) := by decide +kernel
theorem dX2_passersAt_40 : decode cX2_passersAt 40 = .ok (.iinc 3 1, 3) := by decide +kernel
theorem dX2_passersAt_43 : decode cX2_passersAt 43 = .ok (.goto (-39), 3) := by decide +kernel
theorem dX2_passersAt_46 : decode cX2_passersAt 46 = .ok (.iload_n 2, 1) := by decide +kernel
theorem dX2_passersAt_47 : decode cX2_passersAt 47 = .ok (.ireturn, 1) := by decide +kernel
theorem dX2_passersGone_0 : decode cX2_passersGone 0 = .ok (.iconst 0, 1) := by decide +kernel
theorem dX2_passersGone_1 : decode cX2_passersGone 1 = .ok (.istore_n 1, 1) := by decide +kernel
theorem dX2_passersGone_2 : decode cX2_passersGone 2 = .ok (.iconst 0, 1) := by decide +kernel
theorem dX2_passersGone_3 : decode cX2_passersGone 3 = .ok (.istore_n 2, 1) := by decide +kernel
theorem dX2_passersGone_4 : decode cX2_passersGone 4 = .ok (.iload_n 2, 1) := by decide +kernel
theorem dX2_passersGone_5 : decode cX2_passersGone 5 = .ok (.aload_n 0, 1) := by decide +kernel
theorem dX2_passersGone_6 : decode cX2_passersGone 6 = .ok (.getfield 29, 3) := by decide +kernel
theorem dX2_passersGone_9 : decode cX2_passersGone 9 = .ok (.if_icmp .ge 24, 3) := by decide +kernel
theorem dX2_passersGone_12 : decode cX2_passersGone 12 = .ok (.aload_n 0, 1) := by decide +kernel
theorem dX2_passersGone_13 : decode cX2_passersGone 13 = .ok (.getfield 11, 3) := by decide +kernel
theorem dX2_passersGone_16 : decode cX2_passersGone 16 = .ok (.iload_n 2, 1) := by decide +kernel
theorem dX2_passersGone_17 : decode cX2_passersGone 17 = .ok (.aaload, 1) := by decide +kernel
theorem dX2_passersGone_18 : decode cX2_passersGone 18 = .ok (.invokevirtual 45, 3) := by decide +kernel
theorem dX2_passersGone_21 : decode cX2_passersGone 21 = .ok (.ifCond .eq 6, 3) := by decide +kernel
theorem dX2_passersGone_24 : decode cX2_passersGone 24 = .ok (.iinc 1 1, 3) := by decide +kernel
theorem dX2_passersGone_27 : decode cX2_passersGone 27 = .ok (.iinc 2 1, 3) := by decide +kernel
theorem dX2_passersGone_30 : decode cX2_passersGone 30 = .ok (.goto (-26), 3) := by decide +kernel
theorem dX2_passersGone_33 : decode cX2_passersGone 33 = .ok (.iload_n 1, 1) := by decide +kernel
theorem dX2_passersGone_34 : decode cX2_passersGone 34 = .ok (.ireturn, 1) := by decide +kernel
theorem dX2_showIn_0 : decode cX2_showIn 0 = .ok (.iconst 0, 1) := by decide +kernel
theorem dX2_showIn_1 : decode cX2_showIn 1 = .ok (.istore_n 3, 1) := by decide +kernel
theorem dX2_showIn_2 : decode cX2_showIn 2 = .ok (.iconst 0, 1) := by decide +kernel
theorem dX2_showIn_3 : decode cX2_showIn 3 = .ok (.istore 4, 2) := by decide +kernel
theorem dX2_showIn_5 : decode cX2_showIn 5 = .ok (.iload 4, 2) := by decide +kernel
theorem dX2_showIn_7 : decode cX2_showIn 7 = .ok (.aload_n 0, 1) := by decide +kernel
theorem dX2_showIn_8 : decode cX2_showIn 8 = .ok (.getfield 29, 3) := by decide +kernel
theorem dX2_showIn_11 : decode cX2_showIn 11 = .ok (.if_icmp .ge 27, 3) := by decide +kernel
theorem dX2_showIn_14 : decode cX2_showIn 14 = .ok (.aload_n 1, 1) := by decide +kernel
theorem dX2_showIn_15 : decode cX2_showIn 15 = .ok (.aload_n 0, 1) := by decide +kernel
theorem dX2_showIn_16 : decode cX2_showIn 16 = .ok (.getfield 11, 3) := by decide +kernel
theorem dX2_showIn_19 : decode cX2_showIn 19 = .ok (.iload 4, 2) := by decide +kernel
theorem dX2_showIn_21 : decode cX2_showIn 21 = .ok (.aaload, 1) := by decide +kernel
theorem dX2_showIn_22 : decode cX2_showIn 22 = .ok (.iload_n 2, 1) := by decide +kernel
theorem dX2_showIn_23 : decode cX2_showIn 23 = .ok (.invokevirtual 50, 3) := by decide +kernel
theorem dX2_showIn_26 : decode cX2_showIn 26 = .ok (.ifCond .eq 6, 3) := by decide +kernel
theorem dX2_showIn_29 : decode cX2_showIn 29 = .ok (.iinc 3 1, 3) := by decide +kernel
theorem dX2_showIn_32 : decode cX2_showIn 32 = .ok (.iinc 4 1, 3) := by decide +kernel
theorem dX2_showIn_35 : decode cX2_showIn 35 = .ok (.goto (-30), 3) := by decide +kernel
theorem dX2_showIn_38 : decode cX2_showIn 38 = .ok (.iload_n 3, 1) := by decide +kernel
theorem dX2_showIn_39 : decode cX2_showIn 39 = .ok (.ireturn, 1) := by decide +kernel
theorem dX2_roomsSeeingWell_0 : decode cX2_roomsSeeingWell 0 = .ok (.iconst 0, 1) := by decide +kernel
theorem dX2_roomsSeeingWell_1 : decode cX2_roomsSeeingWell 1 = .ok (.istore_n 3, 1) := by decide +kernel
theorem dX2_roomsSeeingWell_2 : decode cX2_roomsSeeingWell 2 = .ok (.iconst 0, 1) := by decide +kernel
theorem dX2_roomsSeeingWell_3 : decode cX2_roomsSeeingWell 3 = .ok (.istore 4, 2) := by decide +kernel
theorem dX2_roomsSeeingWell_5 : decode cX2_roomsSeeingWell 5 = .ok (.iload 4, 2) := by decide +kernel
theorem dX2_roomsSeeingWell_7 : decode cX2_roomsSeeingWell 7 = .ok (.aload_n 0, 1) := by decide +kernel
theorem dX2_roomsSeeingWell_8 : decode cX2_roomsSeeingWell 8 = .ok (.getfield 32, 3) := by decide +kernel
theorem dX2_roomsSeeingWell_11 : decode cX2_roomsSeeingWell 11 = .ok (.if_icmp .ge 27, 3) := by decide +kernel
theorem dX2_roomsSeeingWell_14 : decode cX2_roomsSeeingWell 14 = .ok (.aload_n 0, 1) := by decide +kernel
theorem dX2_roomsSeeingWell_15 : decode cX2_roomsSeeingWell 15 = .ok (.getfield 19, 3) := by decide +kernel
theorem dX2_roomsSeeingWell_18 : decode cX2_roomsSeeingWell 18 = .ok (.iload 4, 2) := by decide +kernel
theorem dX2_roomsSeeingWell_20 : decode cX2_roomsSeeingWell 20 = .ok (.aaload, 1) := by decide +kernel
theorem dX2_roomsSeeingWell_21 : decode cX2_roomsSeeingWell 21 = .ok (.aload_n 1, 1) := by decide +kernel
theorem dX2_roomsSeeingWell_22 : decode cX2_roomsSeeingWell 22 = .ok (.iload_n 2, 1) := by decide +kernel
theorem dX2_roomsSeeingWell_23 : decode cX2_roomsSeeingWell 23 = .ok (.invokevirtual 50, 3) := by decide +kernel
theorem dX2_roomsSeeingWell_26 : decode cX2_roomsSeeingWell 26 = .ok (.ifCond .eq 6, 3) := by decide +kernel
theorem dX2_roomsSeeingWell_29 : decode cX2_roomsSeeingWell 29 = .ok (.iinc 3 1, 3) := by decide +kernel
theorem dX2_roomsSeeingWell_32 : decode cX2_roomsSeeingWell 32 = .ok (.iinc 4 1, 3) := by decide +kernel
theorem dX2_roomsSeeingWell_35 : decode cX2_roomsSeeingWell 35 = .ok (.goto (-30), 3) := by decide +kernel
theorem dX2_roomsSeeingWell_38 : decode cX2_roomsSeeingWell 38 = .ok (.iload_n 3, 1) := by decide +kernel
theorem dX2_roomsSeeingWell_39 : decode cX2_roomsSeeingWell 39 = .ok (.ireturn, 1) := by decide +kernel
theorem dX2_wallsWith_0 : decode cX2_wallsWith 0 = .ok (.iconst 0, 1) := by decide +kernel
theorem dX2_wallsWith_1 : decode cX2_wallsWith 1 = .ok (.istore_n 2, 1) := by decide +kernel
theorem dX2_wallsWith_2 : decode cX2_wallsWith 2 = .ok (.iconst 0, 1) := by decide +kernel
theorem dX2_wallsWith_3 : decode cX2_wallsWith 3 = .ok (.istore_n 3, 1) := by decide +kernel
theorem dX2_wallsWith_4 : decode cX2_wallsWith 4 = .ok (.iload_n 3, 1) := by decide +kernel
theorem dX2_wallsWith_5 : decode cX2_wallsWith 5 = .ok (.aload_n 0, 1) := by decide +kernel
theorem dX2_wallsWith_6 : decode cX2_wallsWith 6 = .ok (.getfield 32, 3) := by decide +kernel
theorem dX2_wallsWith_9 : decode cX2_wallsWith 9 = .ok (.if_icmp .ge 28, 3) := by decide +kernel
theorem dX2_wallsWith_12 : decode cX2_wallsWith 12 = .ok (.aload_n 0, 1) := by decide +kernel
theorem dX2_wallsWith_13 : decode cX2_wallsWith 13 = .ok (.getfield 19, 3) := by decide +kernel
theorem dX2_wallsWith_16 : decode cX2_wallsWith 16 = .ok (.iload_n 3, 1) := by decide +kernel
theorem dX2_wallsWith_17 : decode cX2_wallsWith 17 = .ok (.aaload, 1) := by decide +kernel
theorem dX2_wallsWith_18 : decode cX2_wallsWith 18 = .ok (.aload_n 1, 1) := by decide +kernel
theorem dX2_wallsWith_19 : decode cX2_wallsWith 19 = .ok (.invokevirtual 54, 3) := by decide +kernel
theorem dX2_wallsWith_22 : decode cX2_wallsWith 22 = .ok (.ifCond .eq 9, 3) := by decide +kernel
theorem dX2_wallsWith_25 : decode cX2_wallsWith 25 = .ok (.iload_n 2, 1) := by decide +kernel
theorem dX2_wallsWith_26 : decode cX2_wallsWith 26 = .ok (.iconst 1, 1) := by decide +kernel
theorem dX2_wallsWith_27 : decode cX2_wallsWith 27 = .ok (.iload_n 3, 1) := by decide +kernel
theorem dX2_wallsWith_28 : decode cX2_wallsWith 28 = .ok (.ishl, 1) := by decide +kernel
theorem dX2_wallsWith_29 : decode cX2_wallsWith 29 = .ok (.ior, 1) := by decide +kernel
theorem dX2_wallsWith_30 : decode cX2_wallsWith 30 = .ok (.istore_n 2, 1) := by decide +kernel
theorem dX2_wallsWith_31 : decode cX2_wallsWith 31 = .ok (.iinc 3 1, 3) := by decide +kernel
theorem dX2_wallsWith_34 : decode cX2_wallsWith 34 = .ok (.goto (-30), 3) := by decide +kernel
theorem dX2_wallsWith_37 : decode cX2_wallsWith 37 = .ok (.iload_n 2, 1) := by decide +kernel
theorem dX2_wallsWith_38 : decode cX2_wallsWith 38 = .ok (.ireturn, 1) := by decide +kernel
theorem dX2_allShows_0 : decode cX2_allShows 0 = .ok (.iconst 0, 1) := by decide +kernel
theorem dX2_allShows_1 : decode cX2_allShows 1 = .ok (.istore_n 2, 1) := by decide +kernel
theorem dX2_allShows_2 : decode cX2_allShows 2 = .ok (.iconst 0, 1) := by decide +kernel
theorem dX2_allShows_3 : decode cX2_allShows 3 = .ok (.istore_n 3, 1) := by decide +kernel
theorem dX2_allShows_4 : decode cX2_allShows 4 = .ok (.iload_n 3, 1) := by decide +kernel
theorem dX2_allShows_5 : decode cX2_allShows 5 = .ok (.aload_n 0, 1) := by decide +kernel
theorem dX2_allShows_6 : decode cX2_allShows 6 = .ok (.getfield 32, 3) := by decide +kernel
theorem dX2_allShows_9 : decode cX2_allShows 9 = .ok (.if_icmp .ge 23, 3) := by decide +kernel
theorem dX2_allShows_12 : decode cX2_allShows 12 = .ok (.iload_n 2, 1) := by decide +kernel
theorem dX2_allShows_13 : decode cX2_allShows 13 = .ok (.aload_n 0, 1) := by decide +kernel
theorem dX2_allShows_14 : decode cX2_allShows 14 = .ok (.aload_n 0, 1) := by decide +kernel
theorem dX2_allShows_15 : decode cX2_allShows 15 = .ok (.getfield 19, 3) := by decide +kernel
theorem dX2_allShows_18 : decode cX2_allShows 18 = .ok (.iload_n 3, 1) := by decide +kernel
theorem dX2_allShows_19 : decode cX2_allShows 19 = .ok (.aaload, 1) := by decide +kernel
theorem dX2_allShows_20 : decode cX2_allShows 20 = .ok (.iload_n 1, 1) := by decide +kernel
theorem dX2_allShows_21 : decode cX2_allShows 21 = .ok (.invokevirtual 58, 3) := by decide +kernel
theorem dX2_allShows_24 : decode cX2_allShows 24 = .ok (.iadd, 1) := by decide +kernel
theorem dX2_allShows_25 : decode cX2_allShows 25 = .ok (.istore_n 2, 1) := by decide +kernel
theorem dX2_allShows_26 : decode cX2_allShows 26 = .ok (.iinc 3 1, 3) := by decide +kernel
theorem dX2_allShows_29 : decode cX2_allShows 29 = .ok (.goto (-25), 3) := by decide +kernel
theorem dX2_allShows_32 : decode cX2_allShows 32 = .ok (.iload_n 2, 1) := by decide +kernel
theorem dX2_allShows_33 : decode cX2_allShows 33 = .ok (.ireturn, 1) := by decide +kernel
theorem dX2_allPeople_0 : decode cX2_allPeople 0 = .ok (.iconst 0, 1) := by decide +kernel
theorem dX2_allPeople_1 : decode cX2_allPeople 1 = .ok (.istore_n 1, 1) := by decide +kernel
theorem dX2_allPeople_2 : decode cX2_allPeople 2 = .ok (.iconst 0, 1) := by decide +kernel
theorem dX2_allPeople_3 : decode cX2_allPeople 3 = .ok (.istore_n 2, 1) := by decide +kernel
theorem dX2_allPeople_4 : decode cX2_allPeople 4 = .ok (.iload_n 2, 1) := by decide +kernel
theorem dX2_allPeople_5 : decode cX2_allPeople 5 = .ok (.aload_n 0, 1) := by decide +kernel
theorem dX2_allPeople_6 : decode cX2_allPeople 6 = .ok (.getfield 32, 3) := by decide +kernel
theorem dX2_allPeople_9 : decode cX2_allPeople 9 = .ok (.if_icmp .ge 21, 3) := by decide +kernel
theorem dX2_allPeople_12 : decode cX2_allPeople 12 = .ok (.iload_n 1, 1) := by decide +kernel
theorem dX2_allPeople_13 : decode cX2_allPeople 13 = .ok (.aload_n 0, 1) := by decide +kernel
theorem dX2_allPeople_14 : decode cX2_allPeople 14 = .ok (.getfield 19, 3) := by decide +kernel
theorem dX2_allPeople_17 : decode cX2_allPeople 17 = .ok (.iload_n 2, 1) := by decide +kernel
theorem dX2_allPeople_18 : decode cX2_allPeople 18 = .ok (.aaload, 1) := by decide +kernel
theorem dX2_allPeople_19 : decode cX2_allPeople 19 = .ok (.getfield 62, 3) := by decide +kernel
theorem dX2_allPeople_22 : decode cX2_allPeople 22 = .ok (.iadd, 1) := by decide +kernel
theorem dX2_allPeople_23 : decode cX2_allPeople 23 = .ok (.istore_n 1, 1) := by decide +kernel
theorem dX2_allPeople_24 : decode cX2_allPeople 24 = .ok (.iinc 2 1, 3) := by decide +kernel
theorem dX2_allPeople_27 : decode cX2_allPeople 27 = .ok (.goto (-23), 3) := by decide +kernel
theorem dX2_allPeople_30 : decode cX2_allPeople 30 = .ok (.iload_n 1, 1) := by decide +kernel
theorem dX2_allPeople_31 : decode cX2_allPeople 31 = .ok (.ireturn, 1) := by decide +kernel
theorem dX2_allPence_0 : decode cX2_allPence 0 = .ok (.iconst 0, 1) := by decide +kernel
theorem dX2_allPence_1 : decode cX2_allPence 1 = .ok (.istore_n 1, 1) := by decide +kernel
theorem dX2_allPence_2 : decode cX2_allPence 2 = .ok (.iconst 0, 1) := by decide +kernel
theorem dX2_allPence_3 : decode cX2_allPence 3 = .ok (.istore_n 2, 1) := by decide +kernel
theorem dX2_allPence_4 : decode cX2_allPence 4 = .ok (.iload_n 2, 1) := by decide +kernel
theorem dX2_allPence_5 : decode cX2_allPence 5 = .ok (.aload_n 0, 1) := by decide +kernel
theorem dX2_allPence_6 : decode cX2_allPence 6 = .ok (.getfield 32, 3) := by decide +kernel
theorem dX2_allPence_9 : decode cX2_allPence 9 = .ok (.if_icmp .ge 21, 3) := by decide +kernel
theorem dX2_allPence_12 : decode cX2_allPence 12 = .ok (.iload_n 1, 1) := by decide +kernel
theorem dX2_allPence_13 : decode cX2_allPence 13 = .ok (.aload_n 0, 1) := by decide +kernel
theorem dX2_allPence_14 : decode cX2_allPence 14 = .ok (.getfield 19, 3) := by decide +kernel
theorem dX2_allPence_17 : decode cX2_allPence 17 = .ok (.iload_n 2, 1) := by decide +kernel
theorem dX2_allPence_18 : decode cX2_allPence 18 = .ok (.aaload, 1) := by decide +kernel
theorem dX2_allPence_19 : decode cX2_allPence 19 = .ok (.getfield 65, 3) := by decide +kernel
theorem dX2_allPence_22 : decode cX2_allPence 22 = .ok (.iadd, 1) := by decide +kernel
theorem dX2_allPence_23 : decode cX2_allPence 23 = .ok (.istore_n 1, 1) := by decide +kernel
theorem dX2_allPence_24 : decode cX2_allPence 24 = .ok (.iinc 2 1, 3) := by decide +kernel
theorem dX2_allPence_27 : decode cX2_allPence 27 = .ok (.goto (-23), 3) := by decide +kernel
theorem dX2_allPence_30 : decode cX2_allPence 30 = .ok (.iload_n 1, 1) := by decide +kernel
theorem dX2_allPence_31 : decode cX2_allPence 31 = .ok (.ireturn, 1) := by decide +kernel
theorem dX2_passersWalk_0 : decode cX2_passersWalk 0 = .ok (.iconst 0, 1) := by decide +kernel
theorem dX2_passersWalk_1 : decode cX2_passersWalk 1 = .ok (.istore_n 1, 1) := by decide +kernel
theorem dX2_passersWalk_2 : decode cX2_passersWalk 2 = .ok (.iload_n 1, 1) := by decide +kernel
theorem dX2_passersWalk_3 : decode cX2_passersWalk 3 = .ok (.aload_n 0, 1) := by decide +kernel
theorem dX2_passersWalk_4 : decode cX2_passersWalk 4 = .ok (.getfield 29, 3) := by decide +kernel
theorem dX2_passersWalk_7 : decode cX2_passersWalk 7 = .ok (.if_icmp .ge 18, 3) := by decide +kernel
theorem dX2_passersWalk_10 : decode cX2_passersWalk 10 = .ok (.aload_n 0, 1) := by decide +kernel
theorem dX2_passersWalk_11 : decode cX2_passersWalk 11 = .ok (.getfield 11, 3) := by decide +kernel
theorem dX2_passersWalk_14 : decode cX2_passersWalk 14 = .ok (.iload_n 1, 1) := by decide +kernel
theorem dX2_passersWalk_15 : decode cX2_passersWalk 15 = .ok (.aaload, 1) := by decide +kernel
theorem dX2_passersWalk_16 : decode cX2_passersWalk 16 = .ok (.invokevirtual 68, 3) := by decide +kernel
theorem dX2_passersWalk_19 : decode cX2_passersWalk 19 = .ok (.iinc 1 1, 3) := by decide +kernel
theorem dX2_passersWalk_22 : decode cX2_passersWalk 22 = .ok (.goto (-20), 3) := by decide +kernel
theorem dX2_passersWalk_25 : decode cX2_passersWalk 25 = .ok (.return_, 1) := by decide +kernel
theorem dX2_roomsPay_0 : decode cX2_roomsPay 0 = .ok (.iconst 0, 1) := by decide +kernel
theorem dX2_roomsPay_1 : decode cX2_roomsPay 1 = .ok (.istore_n 2, 1) := by decide +kernel
theorem dX2_roomsPay_2 : decode cX2_roomsPay 2 = .ok (.iconst 0, 1) := by decide +kernel
theorem dX2_roomsPay_3 : decode cX2_roomsPay 3 = .ok (.istore_n 3, 1) := by decide +kernel
theorem dX2_roomsPay_4 : decode cX2_roomsPay 4 = .ok (.iload_n 3, 1) := by decide +kernel
theorem dX2_roomsPay_5 : decode cX2_roomsPay 5 = .ok (.aload_n 0, 1) := by decide +kernel
theorem dX2_roomsPay_6 : decode cX2_roomsPay 6 = .ok (.getfield 32, 3) := by decide +kernel
theorem dX2_roomsPay_9 : decode cX2_roomsPay 9 = .ok (.if_icmp .ge 32, 3) := by decide +kernel
theorem dX2_roomsPay_12 : decode cX2_roomsPay 12 = .ok (.iload_n 2, 1) := by decide +kernel
theorem dX2_roomsPay_13 : decode cX2_roomsPay 13 = .ok (.aload_n 0, 1) := by decide +kernel
theorem dX2_roomsPay_14 : decode cX2_roomsPay 14 = .ok (.getfield 19, 3) := by decide +kernel
theorem dX2_roomsPay_17 : decode cX2_roomsPay 17 = .ok (.iload_n 3, 1) := by decide +kernel
theorem dX2_roomsPay_18 : decode cX2_roomsPay 18 = .ok (.aaload, 1) := by decide +kernel
theorem dX2_roomsPay_19 : decode cX2_roomsPay 19 = .ok (.aload_n 0, 1) := by decide +kernel
theorem dX2_roomsPay_20 : decode cX2_roomsPay 20 = .ok (.aload_n 0, 1) := by decide +kernel
theorem dX2_roomsPay_21 : decode cX2_roomsPay 21 = .ok (.getfield 19, 3) := by decide +kernel
theorem dX2_roomsPay_24 : decode cX2_roomsPay 24 = .ok (.iload_n 3, 1) := by decide +kernel
theorem dX2_roomsPay_25 : decode cX2_roomsPay 25 = .ok (.aaload, 1) := by decide +kernel
theorem dX2_roomsPay_26 : decode cX2_roomsPay 26 = .ok (.iload_n 1, 1) := by decide +kernel
theorem dX2_roomsPay_27 : decode cX2_roomsPay 27 = .ok (.invokevirtual 58, 3) := by decide +kernel
theorem dX2_roomsPay_30 : decode cX2_roomsPay 30 = .ok (.invokevirtual 71, 3) := by decide +kernel
theorem dX2_roomsPay_33 : decode cX2_roomsPay 33 = .ok (.iadd, 1) := by decide +kernel
theorem dX2_roomsPay_34 : decode cX2_roomsPay 34 = .ok (.istore_n 2, 1) := by decide +kernel
theorem dX2_roomsPay_35 : decode cX2_roomsPay 35 = .ok (.iinc 3 1, 3) := by decide +kernel
theorem dX2_roomsPay_38 : decode cX2_roomsPay 38 = .ok (.goto (-34), 3) := by decide +kernel
theorem dX2_roomsPay_41 : decode cX2_roomsPay 41 = .ok (.iload_n 2, 1) := by decide +kernel
theorem dX2_roomsPay_42 : decode cX2_roomsPay 42 = .ok (.ireturn, 1) := by decide +kernel
theorem dX3_init_0 : decode cX3_init 0 = .ok (.aload_n 0, 1) := by decide +kernel
theorem dX3_init_1 : decode cX3_init 1 = .ok (.invokespecial 3, 3) := by decide +kernel
theorem dX3_init_4 : decode cX3_init 4 = .ok (.aload_n 0, 1) := by decide +kernel
theorem dX3_init_5 : decode cX3_init 5 = .ok (.bipush 12, 2) := by decide +kernel
theorem dX3_init_7 : decode cX3_init 7 = .ok (.newarray .int, 2) := by decide +kernel
theorem dX3_init_9 : decode cX3_init 9 = .ok (.putfield 9, 3) := by decide +kernel
theorem dX3_init_12 : decode cX3_init 12 = .ok (.aload_n 0, 1) := by decide +kernel
theorem dX3_init_13 : decode cX3_init 13 = .ok (.bipush 12, 2) := by decide +kernel
theorem dX3_init_15 : decode cX3_init 15 = .ok (.newarray .int, 2) := by decide +kernel
theorem dX3_init_17 : decode cX3_init 17 = .ok (.putfield 15, 3) := by decide +kernel
theorem dX3_init_20 : decode cX3_init 20 = .ok (.iconst 0, 1) := by decide +kernel
theorem dX3_init_21 : decode cX3_init 21 = .ok (.istore_n 1, 1) := by decide +kernel
theorem dX3_init_22 : decode cX3_init 22 = .ok (.iload_n 1, 1) := by decide +kernel
theorem dX3_init_23 : decode cX3_init 23 = .ok (.bipush 12, 2) := by decide +kernel
theorem dX3_init_25 : decode cX3_init 25 = .ok (.if_icmp .ge 17, 3) := by decide +kernel
theorem dX3_init_28 : decode cX3_init 28 = .ok (.aload_n 0, 1) := by decide +kernel
theorem dX3_init_29 : decode cX3_init 29 = .ok (.getfield 9, 3) := by decide +kernel
theorem dX3_init_32 : decode cX3_init 32 = .ok (.iload_n 1, 1) := by decide +kernel
theorem dX3_init_33 : decode cX3_init 33 = .ok (.bipush 50, 2) := by decide +kernel
theorem dX3_init_35 : decode cX3_init 35 = .ok (.iastore, 1) := by decide +kernel
theorem dX3_init_36 : decode cX3_init 36 = .ok (.iinc 1 1, 3) := by decide +kernel
theorem dX3_init_39 : decode cX3_init 39 = .ok (.goto (-17), 3) := by decide +kernel
theorem dX3_init_42 : decode cX3_init 42 = .ok (.return_, 1) := by decide +kernel
theorem dX3_entry_0 : decode cX3_entry 0 = .ok (.bipush 10, 2) := by decide +kernel
theorem dX3_entry_2 : decode cX3_entry 2 = .ok (.aload_n 0, 1) := by decide +kernel
theorem dX3_entry_3 : decode cX3_entry 3 = .ok (.getfield 9, 3) := by decide +kernel
theorem dX3_entry_6 : decode cX3_entry 6 = .ok (.iload_n 1, 1) := by decide +kernel
theorem dX3_entry_7 : decode cX3_entry 7 = .ok (.iaload, 1) := by decide +kernel
theorem dX3_entry_8 : decode cX3_entry 8 = .ok (.imul, 1) := by decide +kernel
theorem dX3_entry_9 : decode cX3_entry 9 = .ok (.aload_n 0, 1) := by decide +kernel
theorem dX3_entry_10 : decode cX3_entry 10 = .ok (.getfield 15, 3) := by decide +kernel
theorem dX3_entry_13 : decode cX3_entry 13 = .ok (.iload_n 1, 1) := by decide +kernel
theorem dX3_entry_14 : decode cX3_entry 14 = .ok (.iaload, 1) := by decide +kernel
theorem dX3_entry_15 : decode cX3_entry 15 = .ok (.iadd, 1) := by decide +kernel
theorem dX3_entry_16 : decode cX3_entry 16 = .ok (.ireturn, 1) := by decide +kernel
theorem dX3_lightAt_0 : decode cX3_lightAt 0 = .ok (.iload_n 1, 1) := by decide +kernel
theorem dX3_lightAt_1 : decode cX3_lightAt 1 = .ok (.ifCond .lt 10, 3) := by decide +kernel
theorem dX3_lightAt_4 : decode cX3_lightAt 4 = .ok (.iload_n 1, 1) := by decide +kernel
theorem dX3_lightAt_5 : decode cX3_lightAt 5 = .ok (.sipush 720, 3) := by decide +kernel
theorem dX3_lightAt_8 : decode cX3_lightAt 8 = .ok (.if_icmp .lt 5, 3) := by decide +kernel
theorem dX3_lightAt_11 : decode cX3_lightAt 11 = .ok (.iconst 0, 1) := by decide +kernel
theorem dX3_lightAt_12 : decode cX3_lightAt 12 = .ok (.ireturn, 1) := by decide +kernel
theorem dX3_lightAt_13 : decode cX3_lightAt 13 = .ok (.iload_n 1, 1) := by decide +kernel
theorem dX3_lightAt_14 : decode cX3_lightAt 14 = .ok (.bipush 60, 2) := by decide +kernel
theorem dX3_lightAt_16 : decode cX3_lightAt 16 = .ok (.idiv, 1) := by decide +kernel
theorem dX3_lightAt_17 : decode cX3_lightAt 17 = .ok (.istore_n 2, 1) := by decide +kernel
theorem dX3_lightAt_18 : decode cX3_lightAt 18 = .ok (.aload_n 0, 1) := by decide +kernel
theorem dX3_lightAt_19 : decode cX3_lightAt 19 = .ok (.getfield 9, 3) := by decide +kernel
theorem dX3_lightAt_22 : decode cX3_lightAt 22 = .ok (.iload_n 2, 1) := by decide +kernel
theorem dX3_lightAt_23 : decode cX3_lightAt 23 = .ok (.iaload, 1) := by decide +kernel
theorem dX3_lightAt_24 : decode cX3_lightAt 24 = .ok (.bipush 10, 2) := by decide +kernel
theorem dX3_lightAt_26 : decode cX3_lightAt 26 = .ok (.aload_n 0, 1) := by decide +kernel
theorem dX3_lightAt_27 : decode cX3_lightAt 27 = .ok (.getfield 15, 3) := by decide +kernel
theorem dX3_lightAt_30 : decode cX3_lightAt 30 = .ok (.iload_n 2, 1) := by decide +kernel
theorem dX3_lightAt_31 : decode cX3_lightAt 31 = .ok (.iaload, 1) := by decide +kernel
theorem dX3_lightAt_32 : decode cX3_lightAt 32 = .ok (.isub, 1) := by decide +kernel
theorem dX3_lightAt_33 : decode cX3_lightAt 33 = .ok (.imul, 1) := by decide +kernel
theorem dX3_lightAt_34 : decode cX3_lightAt 34 = .ok (.bipush 10, 2) := by decide +kernel
theorem dX3_lightAt_36 : decode cX3_lightAt 36 = .ok (.idiv, 1) := by decide +kernel
theorem dX3_lightAt_37 : decode cX3_lightAt 37 = .ok (.ireturn, 1) := by decide +kernel
theorem dX4_init_0 : decode cX4_init 0 = .ok (.aload_n 0, 1) := by decide +kernel
theorem dX4_init_1 : decode cX4_init 1 = .ok (.invokespecial 3, 3) := by decide +kernel
theorem dX4_init_4 : decode cX4_init 4 = .ok (.aload_n 0, 1) := by decide +kernel
theorem dX4_init_5 : decode cX4_init 5 = .ok (.new 9, 3) := by decide +kernel
theorem dX4_init_8 : decode cX4_init 8 = .ok (.dup, 1) := by decide +kernel
theorem dX4_init_9 : decode cX4_init 9 = .ok (.invokespecial 11, 3) := by decide +kernel
theorem dX4_init_12 : decode cX4_init 12 = .ok (.putfield 12, 3) := by decide +kernel
theorem dX4_init_15 : decode cX4_init 15 = .ok (.aload_n 0, 1) := by decide +kernel
theorem dX4_init_16 : decode cX4_init 16 = .ok (.new 16, 3) := by decide +kernel
theorem dX4_init_19 : decode cX4_init 19 = .ok (.dup, 1) := by decide +kernel
theorem dX4_init_20 : decode cX4_init 20 = .ok (.invokespecial 18, 3) := by decide +kernel
theorem dX4_init_23 : decode cX4_init 23 = .ok (.putfield 19, 3) := by decide +kernel
theorem dX4_init_26 : decode cX4_init 26 = .ok (.aload_n 0, 1) := by decide +kernel
theorem dX4_init_27 : decode cX4_init 27 = .ok (.new 16, 3) := by decide +kernel
theorem dX4_init_30 : decode cX4_init 30 = .ok (.dup, 1) := by decide +kernel
theorem dX4_init_31 : decode cX4_init 31 = .ok (.invokespecial 18, 3) := by decide +kernel
theorem dX4_init_34 : decode cX4_init 34 = .ok (.putfield 23, 3) := by decide +kernel
theorem dX4_init_37 : decode cX4_init 37 = .ok (.return_, 1) := by decide +kernel
theorem dX4_pass_0 : decode cX4_pass 0 = .ok (.iload_n 1, 1) := by decide +kernel
theorem dX4_pass_1 : decode cX4_pass 1 = .ok (.invokestatic 26, 3) := by decide +kernel
theorem dX4_pass_4 : decode cX4_pass 4 = .ok (.ifCond .eq 29, 3) := by decide +kernel
theorem dX4_pass_7 : decode cX4_pass 7 = .ok (.iload_n 2, 1) := by decide +kernel
theorem dX4_pass_8 : decode cX4_pass 8 = .ok (.bipush (-3), 2) := by decide +kernel
theorem dX4_pass_10 : decode cX4_pass 10 = .ok (.if_icmp .lt 23, 3) := by decide +kernel
theorem dX4_pass_13 : decode cX4_pass 13 = .ok (.iload_n 2, 1) := by decide +kernel
theorem dX4_pass_14 : decode cX4_pass 14 = .ok (.iconst 3, 1) := by decide +kernel
theorem dX4_pass_15 : decode cX4_pass 15 = .ok (.if_icmp .gt 18, 3) := by decide +kernel
theorem dX4_pass_18 : decode cX4_pass 18 = .ok (.iload_n 3, 1) := by decide +kernel
theorem dX4_pass_19 : decode cX4_pass 19 = .ok (.invokestatic 30, 3) := by decide +kernel
theorem dX4_pass_22 : decode cX4_pass 22 = .ok (.ifCond .eq 11, 3) := by decide +kernel
theorem dX4_pass_25 : decode cX4_pass 25 = .ok (.iload 4, 2) := by decide +kernel
theorem dX4_pass_27 : decode cX4_pass 27 = .ok (.invokestatic 30, 3) := by decide +kernel
theorem dX4_pass_30 : decode cX4_pass 30 = .ok (.ifCond .ne 11, 3) := by decide +kernel
theorem dX4_pass_33 : decode cX4_pass 33 = .ok (.new 33, 3) := by decide +kernel
theorem dX4_pass_36 : decode cX4_pass 36 = .ok (.dup, 1) := by decide +kernel
theorem dX4_pass_37 : decode cX4_pass 37 = .ok (.invokespecial 35, 3) := by decide +kernel
theorem dX4_pass_40 : decode cX4_pass 40 = .ok (.athrow, 1) := by decide +kernel
theorem dX4_pass_41 : decode cX4_pass 41 = .ok (.aload_n 0, 1) := by decide +kernel
theorem dX4_pass_42 : decode cX4_pass 42 = .ok (.getfield 19, 3) := by decide +kernel
theorem dX4_pass_45 : decode cX4_pass 45 = .ok (.getfield 36, 3) := by decide +kernel
theorem dX4_pass_48 : decode cX4_pass 48 = .ok (.bipush 10, 2) := by decide +kernel
theorem dX4_pass_50 : decode cX4_pass 50 = .ok (.if_icmp .lt 11, 3) := by decide +kernel
theorem dX4_pass_53 : decode cX4_pass 53 = .ok (.new 40, 3) := by decide +kernel
theorem dX4_pass_56 : decode cX4_pass 56 = .ok (.dup, 1) := by decide +kernel
theorem dX4_pass_57 : decode cX4_pass 57 = .ok (.invokespecial 42, 3) := by decide +kernel
theorem dX4_pass_60 : decode cX4_pass 60 = .ok (.athrow, 1) := by decide +kernel
theorem dX4_pass_61 : decode cX4_pass 61 = .ok (.aload_n 0, 1) := by decide +kernel
theorem dX4_pass_62 : decode cX4_pass 62 = .ok (.getfield 19, 3) := by decide +kernel
theorem dX4_pass_65 : decode cX4_pass 65 = .ok (.getfield 36, 3) := by decide +kernel
theorem dX4_pass_68 : decode cX4_pass 68 = .ok (.istore 5, 2) := by decide +kernel
theorem dX4_pass_70 : decode cX4_pass 70 = .ok (.aload_n 0, 1) := by decide +kernel
theorem dX4_pass_71 : decode cX4_pass 71 = .ok (.getfield 19, 3) := by decide +kernel
theorem dX4_pass_74 : decode cX4_pass 74 = .ok (.getfield 43, 3) := by decide +kernel
theorem dX4_pass_77 : decode cX4_pass 77 = .ok (.iload 5, 2) := by decide +kernel
theorem dX4_pass_79 : decode cX4_pass 79 = .ok (.aaload, 1) := by decide +kernel
theorem dX4_pass_80 : decode cX4_pass 80 = .ok (.iload_n 1, 1) := by decide +kernel
theorem dX4_pass_81 : decode cX4_pass 81 = .ok (.iload_n 2, 1) := by decide +kernel
theorem dX4_pass_82 : decode cX4_pass 82 = .ok (.iload_n 3, 1) := by decide +kernel
theorem dX4_pass_83 : decode cX4_pass 83 = .ok (.iload 4, 2) := by decide +kernel
theorem dX4_pass_85 : decode cX4_pass 85 = .ok (.invokevirtual 47, 3) := by decide +kernel
theorem dX4_pass_88 : decode cX4_pass 88 = .ok (.aload_n 0, 1) := by decide +kernel
theorem dX4_pass_89 : decode cX4_pass 89 = .ok (.getfield 19, 3) := by decide +kernel
theorem dX4_pass_92 : decode cX4_pass 92 = .ok (.dup, 1) := by decide +kernel
theorem dX4_pass_93 : decode cX4_pass 93 = .ok (.getfield 36, 3) := by decide +kernel
theorem dX4_pass_96 : decode cX4_pass 96 = .ok (.iconst 1, 1) := by decide +kernel
theorem dX4_pass_97 : decode cX4_pass 97 = .ok (.iadd, 1) := by decide +kernel
theorem dX4_pass_98 : decode cX4_pass 98 = .ok (.putfield 36, 3) := by decide +kernel
theorem dX4_pass_101 : decode cX4_pass 101 = .ok (.iload 5, 2) := by decide +kernel
theorem dX4_pass_103 : decode cX4_pass 103 = .ok (.ireturn, 1) := by decide +kernel
theorem dX4_setLight_0 : decode cX4_setLight 0 = .ok (.iload_n 1, 1) := by decide +kernel
theorem dX4_setLight_1 : decode cX4_setLight 1 = .ok (.ifCond .lt 9, 3) := by decide +kernel
theorem dX4_setLight_4 : decode cX4_setLight 4 = .ok (.iload_n 1, 1) := by decide +kernel
theorem dX4_setLight_5 : decode cX4_setLight 5 = .ok (.bipush 12, 2) := by decide +kernel
theorem dX4_setLight_7 : decode cX4_setLight 7 = .ok (.if_icmp .lt 11, 3) := by decide +kernel
theorem dX4_setLight_10 : decode cX4_setLight 10 = .ok (.new 53, 3) := by decide +kernel
theorem dX4_setLight_13 : decode cX4_setLight 13 = .ok (.dup, 1) := by decide +kernel
theorem dX4_setLight_14 : decode cX4_setLight 14 = .ok (.invokespecial 55, 3) := by decide +kernel
theorem dX4_setLight_17 : decode cX4_setLight 17 = .ok (.athrow, 1) := by decide +kernel
theorem dX4_setLight_18 : decode cX4_setLight 18 = .ok (.iload_n 2, 1) := by decide +kernel
theorem dX4_setLight_19 : decode cX4_setLight 19 = .ok (.ifCond .lt 16, 3) := by decide +kernel
theorem dX4_setLight_22 : decode cX4_setLight 22 = .ok (.iload_n 2, 1) := by decide +kernel
theorem dX4_setLight_23 : decode cX4_setLight 23 = .ok (.bipush 100, 2) := by decide +kernel
theorem dX4_setLight_25 : decode cX4_setLight 25 = .ok (.if_icmp .gt 10, 3) := by decide +kernel
theorem dX4_setLight_28 : decode cX4_setLight 28 = .ok (.iload_n 3, 1) := by decide +kernel
theorem dX4_setLight_29 : decode cX4_setLight 29 = .ok (.invokestatic 56, 3) := by decide +kernel
theorem dX4_setLight_32 : decode cX4_setLight 32 = .ok (.ifCond .ne 11, 3) := by decide +kernel
theorem dX4_setLight_35 : decode cX4_setLight 35 = .ok (.new 33, 3) := by decide +kernel
theorem dX4_setLight_38 : decode cX4_setLight 38 = .ok (.dup, 1) := by decide +kernel
theorem dX4_setLight_39 : decode cX4_setLight 39 = .ok (.invokespecial 35, 3) := by decide +kernel
theorem dX4_setLight_42 : decode cX4_setLight 42 = .ok (.athrow, 1) := by decide +kernel
theorem dX4_setLight_43 : decode cX4_setLight 43 = .ok (.aload_n 0, 1) := by decide +kernel
theorem dX4_setLight_44 : decode cX4_setLight 44 = .ok (.getfield 12, 3) := by decide +kernel
theorem dX4_setLight_47 : decode cX4_setLight 47 = .ok (.iload_n 1, 1) := by decide +kernel
theorem dX4_setLight_48 : decode cX4_setLight 48 = .ok (.invokevirtual 59, 3) := by decide +kernel
theorem dX4_setLight_51 : decode cX4_setLight 51 = .ok (.istore 4, 2) := by decide +kernel
theorem dX4_setLight_53 : decode cX4_setLight 53 = .ok (.aload_n 0, 1) := by decide +kernel
theorem dX4_setLight_54 : decode cX4_setLight 54 = .ok (.getfield 12, 3) := by decide +kernel
theorem dX4_setLight_57 : decode cX4_setLight 57 = .ok (.getfield 63, 3) := by decide +kernel
theorem dX4_setLight_60 : decode cX4_setLight 60 = .ok (.iload_n 1, 1) := by decide +kernel
theorem dX4_setLight_61 : decode cX4_setLight 61 = .ok (.iload_n 2, 1) := by decide +kernel
theorem dX4_setLight_62 : decode cX4_setLight 62 = .ok (.iastore, 1) := by decide +kernel
theorem dX4_setLight_63 : decode cX4_setLight 63 = .ok (.aload_n 0, 1) := by decide +kernel
theorem dX4_setLight_64 : decode cX4_setLight 64 = .ok (.getfield 12, 3) := by decide +kernel
theorem dX4_setLight_67 : decode cX4_setLight 67 = .ok (.getfield 67, 3) := by decide +kernel
theorem dX4_setLight_70 : decode cX4_setLight 70 = .ok (.iload_n 1, 1) := by decide +kernel
theorem dX4_setLight_71 : decode cX4_setLight 71 = .ok (.iload_n 3, 1) := by decide +kernel
theorem dX4_setLight_72 : decode cX4_setLight 72 = .ok (.iastore, 1) := by decide +kernel
theorem dX4_setLight_73 : decode cX4_setLight 73 = .ok (.iload 4, 2) := by decide +kernel
theorem dX4_setLight_75 : decode cX4_setLight 75 = .ok (.ireturn, 1) := by decide +kernel
theorem dX4_addRoom_0 : decode cX4_addRoom 0 = .ok (.iload_n 1, 1) := by decide +kernel
theorem dX4_addRoom_1 : decode cX4_addRoom 1 = .ok (.invokestatic 26, 3) := by decide +kernel
theorem dX4_addRoom_4 : decode cX4_addRoom 4 = .ok (.ifCond .eq 20, 3) := by decide +kernel
theorem dX4_addRoom_7 : decode cX4_addRoom 7 = .ok (.iload_n 2, 1) := by decide +kernel
theorem dX4_addRoom_8 : decode cX4_addRoom 8 = .ok (.invokestatic 30, 3) := by decide +kernel
theorem dX4_addRoom_11 : decode cX4_addRoom 11 = .ok (.ifCond .eq 13, 3) := by decide +kernel
theorem dX4_addRoom_14 : decode cX4_addRoom 14 = .ok (.iload_n 3, 1) := by decide +kernel
theorem dX4_addRoom_15 : decode cX4_addRoom 15 = .ok (.ifCond .lt 9, 3) := by decide +kernel
theorem dX4_addRoom_18 : decode cX4_addRoom 18 = .ok (.iload_n 3, 1) := by decide +kernel
theorem dX4_addRoom_19 : decode cX4_addRoom 19 = .ok (.bipush 20, 2) := by decide +kernel
theorem dX4_addRoom_21 : decode cX4_addRoom 21 = .ok (.if_icmp .le 11, 3) := by decide +kernel
theorem dX4_addRoom_24 : decode cX4_addRoom 24 = .ok (.new 33, 3) := by decide +kernel
theorem dX4_addRoom_27 : decode cX4_addRoom 27 = .ok (.dup, 1) := by decide +kernel
theorem dX4_addRoom_28 : decode cX4_addRoom 28 = .ok (.invokespecial 35, 3) := by decide +kernel
theorem dX4_addRoom_31 : decode cX4_addRoom 31 = .ok (.athrow, 1) := by decide +kernel
theorem dX4_addRoom_32 : decode cX4_addRoom 32 = .ok (.aload_n 0, 1) := by decide +kernel
theorem dX4_addRoom_33 : decode cX4_addRoom 33 = .ok (.getfield 19, 3) := by decide +kernel
theorem dX4_addRoom_36 : decode cX4_addRoom 36 = .ok (.getfield 70, 3) := by decide +kernel
theorem dX4_addRoom_39 : decode cX4_addRoom 39 = .ok (.bipush 8, 2) := by decide +kernel
theorem dX4_addRoom_41 : decode cX4_addRoom 41 = .ok (.if_icmp .ge 14, 3) := by decide +kernel
theorem dX4_addRoom_44 : decode cX4_addRoom 44 = .ok (.aload_n 0, 1) := by decide +kernel
theorem dX4_addRoom_45 : decode cX4_addRoom 45 = .ok (.getfield 19, 3) := by decide +kernel
theorem dX4_addRoom_48 : decode cX4_addRoom 48 = .ok (.iload_n 1, 1) := by decide +kernel
theorem dX4_addRoom_49 : decode cX4_addRoom 49 = .ok (.invokevirtual 73, 3) := by decide +kernel
theorem dX4_addRoom_52 : decode cX4_addRoom 52 = .ok (.ifCond .eq 11, 3) := by decide +kernel
theorem dX4_addRoom_55 : decode cX4_addRoom 55 = .ok (.new 40, 3) := by decide +kernel
theorem dX4_addRoom_58 : decode cX4_addRoom 58 = .ok (.dup, 1) := by decide +kernel
theorem dX4_addRoom_59 : decode cX4_addRoom 59 = .ok (.invokespecial 42, 3) := by decide +kernel
theorem dX4_addRoom_62 : decode cX4_addRoom 62 = .ok (.athrow, 1) := by decide +kernel
theorem dX4_addRoom_63 : decode cX4_addRoom 63 = .ok (.aload_n 0, 1) := by decide +kernel
theorem dX4_addRoom_64 : decode cX4_addRoom 64 = .ok (.getfield 19, 3) := by decide +kernel
theorem dX4_addRoom_67 : decode cX4_addRoom 67 = .ok (.getfield 70, 3) := by decide +kernel
theorem dX4_addRoom_70 : decode cX4_addRoom 70 = .ok (.istore 4, 2) := by decide +kernel
theorem dX4_addRoom_72 : decode cX4_addRoom 72 = .ok (.aload_n 0, 1) := by decide +kernel
theorem dX4_addRoom_73 : decode cX4_addRoom 73 = .ok (.getfield 19, 3) := by decide +kernel
theorem dX4_addRoom_76 : decode cX4_addRoom 76 = .ok (.getfield 76, 3) := by decide +kernel
theorem dX4_addRoom_79 : decode cX4_addRoom 79 = .ok (.iload 4, 2) := by decide +kernel
theorem dX4_addRoom_81 : decode cX4_addRoom 81 = .ok (.aaload, 1) := by decide +kernel
theorem dX4_addRoom_82 : decode cX4_addRoom 82 = .ok (.iload_n 1, 1) := by decide +kernel
theorem dX4_addRoom_83 : decode cX4_addRoom 83 = .ok (.iload_n 2, 1) := by decide +kernel
theorem dX4_addRoom_84 : decode cX4_addRoom 84 = .ok (.iload_n 3, 1) := by decide +kernel
theorem dX4_addRoom_85 : decode cX4_addRoom 85 = .ok (.invokevirtual 80, 3) := by decide +kernel
theorem dX4_addRoom_88 : decode cX4_addRoom 88 = .ok (.aload_n 0, 1) := by decide +kernel
theorem dX4_addRoom_89 : decode cX4_addRoom 89 = .ok (.getfield 19, 3) := by decide +kernel
theorem dX4_addRoom_92 : decode cX4_addRoom 92 = .ok (.dup, 1) := by decide +kernel
theorem dX4_addRoom_93 : decode cX4_addRoom 93 = .ok (.getfield 70, 3) := by decide +kernel
theorem dX4_addRoom_96 : decode cX4_addRoom 96 = .ok (.iconst 1, 1) := by decide +kernel
theorem dX4_addRoom_97 : decode cX4_addRoom 97 = .ok (.iadd, 1) := by decide +kernel
theorem dX4_addRoom_98 : decode cX4_addRoom 98 = .ok (.putfield 70, 3) := by decide +kernel
theorem dX4_addRoom_101 : decode cX4_addRoom 101 = .ok (.iload 4, 2) := by decide +kernel
theorem dX4_addRoom_103 : decode cX4_addRoom 103 = .ok (.ireturn, 1) := by decide +kernel
theorem dX4_bore_0 : decode cX4_bore 0 = .ok (.aload_n 0, 1) := by decide +kernel
theorem dX4_bore_1 : decode cX4_bore 1 = .ok (.iload_n 1, 1) := by decide +kernel
theorem dX4_bore_2 : decode cX4_bore 2 = .ok (.invokevirtual 86, 3) := by decide +kernel
theorem dX4_bore_5 : decode cX4_bore 5 = .ok (.iload_n 2, 1) := by decide +kernel
theorem dX4_bore_6 : decode cX4_bore 6 = .ok (.invokestatic 30, 3) := by decide +kernel
theorem dX4_bore_9 : decode cX4_bore 9 = .ok (.ifCond .ne 11, 3) := by decide +kernel
theorem dX4_bore_12 : decode cX4_bore 12 = .ok (.new 33, 3) := by decide +kernel
theorem dX4_bore_15 : decode cX4_bore 15 = .ok (.dup, 1) := by decide +kernel
theorem dX4_bore_16 : decode cX4_bore 16 = .ok (.invokespecial 35, 3) := by decide +kernel
theorem dX4_bore_19 : decode cX4_bore 19 = .ok (.athrow, 1) := by decide +kernel
theorem dX4_bore_20 : decode cX4_bore 20 = .ok (.aload_n 0, 1) := by decide +kernel
theorem dX4_bore_21 : decode cX4_bore 21 = .ok (.getfield 19, 3) := by decide +kernel
theorem dX4_bore_24 : decode cX4_bore 24 = .ok (.getfield 76, 3) := by decide +kernel
theorem dX4_bore_27 : decode cX4_bore 27 = .ok (.iload_n 1, 1) := by decide +kernel
theorem dX4_bore_28 : decode cX4_bore 28 = .ok (.aaload, 1) := by decide +kernel
theorem dX4_bore_29 : decode cX4_bore 29 = .ok (.getfield 90, 3) := by decide +kernel
theorem dX4_bore_32 : decode cX4_bore 32 = .ok (.istore_n 3, 1) := by decide +kernel
theorem dX4_bore_33 : decode cX4_bore 33 = .ok (.aload_n 0, 1) := by decide +kernel
theorem dX4_bore_34 : decode cX4_bore 34 = .ok (.getfield 19, 3) := by decide +kernel
theorem dX4_bore_37 : decode cX4_bore 37 = .ok (.getfield 76, 3) := by decide +kernel
theorem dX4_bore_40 : decode cX4_bore 40 = .ok (.iload_n 1, 1) := by decide +kernel
theorem dX4_bore_41 : decode cX4_bore 41 = .ok (.aaload, 1) := by decide +kernel
theorem dX4_bore_42 : decode cX4_bore 42 = .ok (.iload_n 2, 1) := by decide +kernel
theorem dX4_bore_43 : decode cX4_bore 43 = .ok (.putfield 90, 3) := by decide +kernel
theorem dX4_bore_46 : decode cX4_bore 46 = .ok (.iload_n 3, 1) := by decide +kernel
theorem dX4_bore_47 : decode cX4_bore 47 = .ok (.ireturn, 1) := by decide +kernel
theorem dX4_paint_0 : decode cX4_paint 0 = .ok (.aload_n 0, 1) := by decide +kernel
theorem dX4_paint_1 : decode cX4_paint 1 = .ok (.iload_n 1, 1) := by decide +kernel
theorem dX4_paint_2 : decode cX4_paint 2 = .ok (.invokevirtual 86, 3) := by decide +kernel
theorem dX4_paint_5 : decode cX4_paint 5 = .ok (.iload_n 2, 1) := by decide +kernel
theorem dX4_paint_6 : decode cX4_paint 6 = .ok (.invokestatic 56, 3) := by decide +kernel
theorem dX4_paint_9 : decode cX4_paint 9 = .ok (.ifCond .ne 11, 3) := by decide +kernel
theorem dX4_paint_12 : decode cX4_paint 12 = .ok (.new 33, 3) := by decide +kernel
theorem dX4_paint_15 : decode cX4_paint 15 = .ok (.dup, 1) := by decide +kernel
theorem dX4_paint_16 : decode cX4_paint 16 = .ok (.invokespecial 35, 3) := by decide +kernel
theorem dX4_paint_19 : decode cX4_paint 19 = .ok (.athrow, 1) := by decide +kernel
theorem dX4_paint_20 : decode cX4_paint 20 = .ok (.aload_n 0, 1) := by decide +kernel
theorem dX4_paint_21 : decode cX4_paint 21 = .ok (.getfield 19, 3) := by decide +kernel
theorem dX4_paint_24 : decode cX4_paint 24 = .ok (.getfield 76, 3) := by decide +kernel
theorem dX4_paint_27 : decode cX4_paint 27 = .ok (.iload_n 1, 1) := by decide +kernel
theorem dX4_paint_28 : decode cX4_paint 28 = .ok (.aaload, 1) := by decide +kernel
theorem dX4_paint_29 : decode cX4_paint 29 = .ok (.getfield 93, 3) := by decide +kernel
theorem dX4_paint_32 : decode cX4_paint 32 = .ok (.istore_n 3, 1) := by decide +kernel
theorem dX4_paint_33 : decode cX4_paint 33 = .ok (.aload_n 0, 1) := by decide +kernel
theorem dX4_paint_34 : decode cX4_paint 34 = .ok (.getfield 19, 3) := by decide +kernel
theorem dX4_paint_37 : decode cX4_paint 37 = .ok (.getfield 76, 3) := by decide +kernel
theorem dX4_paint_40 : decode cX4_paint 40 = .ok (.iload_n 1, 1) := by decide +kernel
theorem dX4_paint_41 : decode cX4_paint 41 = .ok (.aaload, 1) := by decide +kernel
theorem dX4_paint_42 : decode cX4_paint 42 = .ok (.iload_n 2, 1) := by decide +kernel
theorem dX4_paint_43 : decode cX4_paint 43 = .ok (.putfield 93, 3) := by decide +kernel
theorem dX4_paint_46 : decode cX4_paint 46 = .ok (.iload_n 3, 1) := by decide +kernel
theorem dX4_paint_47 : decode cX4_paint 47 = .ok (.ireturn, 1) := by decide +kernel
theorem dX4_seat_0 : decode cX4_seat 0 = .ok (.aload_n 0, 1) := by decide +kernel
theorem dX4_seat_1 : decode cX4_seat 1 = .ok (.iload_n 1, 1) := by decide +kernel
theorem dX4_seat_2 : decode cX4_seat 2 = .ok (.invokevirtual 86, 3) := by decide +kernel
theorem dX4_seat_5 : decode cX4_seat 5 = .ok (.iload_n 2, 1) := by decide +kernel
theorem dX4_seat_6 : decode cX4_seat 6 = .ok (.iconst 1, 1) := by decide +kernel
theorem dX4_seat_7 : decode cX4_seat 7 = .ok (.if_icmp .lt 9, 3) := by decide +kernel
theorem dX4_seat_10 : decode cX4_seat 10 = .ok (.iload_n 2, 1) := by decide +kernel
theorem dX4_seat_11 : decode cX4_seat 11 = .ok (.bipush 20, 2) := by decide +kernel
theorem dX4_seat_13 : decode cX4_seat 13 = .ok (.if_icmp .le 11, 3) := by decide +kernel
theorem dX4_seat_16 : decode cX4_seat 16 = .ok (.new 33, 3) := by decide +kernel
theorem dX4_seat_19 : decode cX4_seat 19 = .ok (.dup, 1) := by decide +kernel
theorem dX4_seat_20 : decode cX4_seat 20 = .ok (.invokespecial 35, 3) := by decide +kernel
theorem dX4_seat_23 : decode cX4_seat 23 = .ok (.athrow, 1) := by decide +kernel
theorem dX4_seat_24 : decode cX4_seat 24 = .ok (.aload_n 0, 1) := by decide +kernel
theorem dX4_seat_25 : decode cX4_seat 25 = .ok (.getfield 19, 3) := by decide +kernel
theorem dX4_seat_28 : decode cX4_seat 28 = .ok (.getfield 76, 3) := by decide +kernel
theorem dX4_seat_31 : decode cX4_seat 31 = .ok (.iload_n 1, 1) := by decide +kernel
theorem dX4_seat_32 : decode cX4_seat 32 = .ok (.aaload, 1) := by decide +kernel
theorem dX4_seat_33 : decode cX4_seat 33 = .ok (.astore_n 3, 1) := by decide +kernel
theorem dX4_seat_34 : decode cX4_seat 34 = .ok (.iload_n 2, 1) := by decide +kernel
theorem dX4_seat_35 : decode cX4_seat 35 = .ok (.aload_n 3, 1) := by decide +kernel
theorem dX4_seat_36 : decode cX4_seat 36 = .ok (.getfield 96, 3) := by decide +kernel
theorem dX4_seat_39 : decode cX4_seat 39 = .ok (.aload_n 3, 1) := by decide +kernel
theorem dX4_seat_40 : decode cX4_seat 40 = .ok (.getfield 99, 3) := by decide +kernel
theorem dX4_seat_43 : decode cX4_seat 43 = .ok (.isub, 1) := by decide +kernel
theorem dX4_seat_44 : decode cX4_seat 44 = .ok (.if_icmp .le 11, 3) := by decide +kernel
theorem dX4_seat_47 : decode cX4_seat 47 = .ok (.new 40, 3) := by decide +kernel
theorem dX4_seat_50 : decode cX4_seat 50 = .ok (.dup, 1) := by decide +kernel
theorem dX4_seat_51 : decode cX4_seat 51 = .ok (.invokespecial 42, 3) := by decide +kernel
theorem dX4_seat_54 : decode cX4_seat 54 = .ok (.athrow, 1) := by decide +kernel
theorem dX4_seat_55 : decode cX4_seat 55 = .ok (.aload_n 3, 1) := by decide +kernel
theorem dX4_seat_56 : decode cX4_seat 56 = .ok (.dup, 1) := by decide +kernel
theorem dX4_seat_57 : decode cX4_seat 57 = .ok (.getfield 99, 3) := by decide +kernel
theorem dX4_seat_60 : decode cX4_seat 60 = .ok (.iload_n 2, 1) := by decide +kernel
theorem dX4_seat_61 : decode cX4_seat 61 = .ok (.iadd, 1) := by decide +kernel
theorem dX4_seat_62 : decode cX4_seat 62 = .ok (.putfield 99, 3) := by decide +kernel
theorem dX4_seat_65 : decode cX4_seat 65 = .ok (.aload_n 3, 1) := by decide +kernel
theorem dX4_seat_66 : decode cX4_seat 66 = .ok (.getfield 99, 3) := by decide +kernel
theorem dX4_seat_69 : decode cX4_seat 69 = .ok (.ireturn, 1) := by decide +kernel
theorem dX4_passer_0 : decode cX4_passer 0 = .ok (.aload_n 0, 1) := by decide +kernel
theorem dX4_passer_1 : decode cX4_passer 1 = .ok (.iload_n 1, 1) := by decide +kernel
theorem dX4_passer_2 : decode cX4_passer 2 = .ok (.invokevirtual 102, 3) := by decide +kernel
theorem dX4_passer_5 : decode cX4_passer 5 = .ok (.iload_n 2, 1) := by decide +kernel
theorem dX4_passer_6 : decode cX4_passer 6 = .ok (.iconst 5, 1) := by decide +kernel
theorem dX4_passer_7 : decode cX4_passer 7 = .ok (.invokestatic 105, 3) := by decide +kernel
theorem dX4_passer_10 : decode cX4_passer 10 = .ok (.aload_n 0, 1) := by decide +kernel
theorem dX4_passer_11 : decode cX4_passer 11 = .ok (.iload_n 1, 1) := by decide +kernel
theorem dX4_passer_12 : decode cX4_passer 12 = .ok (.iload_n 2, 1) := by decide +kernel
theorem dX4_passer_13 : decode cX4_passer 13 = .ok (.invokevirtual 109, 3) := by decide +kernel
theorem dX4_passer_16 : decode cX4_passer 16 = .ok (.ireturn, 1) := by decide +kernel
theorem dX4_room_0 : decode cX4_room 0 = .ok (.aload_n 0, 1) := by decide +kernel
theorem dX4_room_1 : decode cX4_room 1 = .ok (.iload_n 1, 1) := by decide +kernel
theorem dX4_room_2 : decode cX4_room 2 = .ok (.invokevirtual 86, 3) := by decide +kernel
theorem dX4_room_5 : decode cX4_room 5 = .ok (.iload_n 2, 1) := by decide +kernel
theorem dX4_room_6 : decode cX4_room 6 = .ok (.bipush 8, 2) := by decide +kernel
theorem dX4_room_8 : decode cX4_room 8 = .ok (.invokestatic 105, 3) := by decide +kernel
theorem dX4_room_11 : decode cX4_room 11 = .ok (.aload_n 0, 1) := by decide +kernel
theorem dX4_room_12 : decode cX4_room 12 = .ok (.iload_n 1, 1) := by decide +kernel
theorem dX4_room_13 : decode cX4_room 13 = .ok (.iload_n 2, 1) := by decide +kernel
theorem dX4_room_14 : decode cX4_room 14 = .ok (.invokevirtual 113, 3) := by decide +kernel
theorem dX4_room_17 : decode cX4_room 17 = .ok (.ireturn, 1) := by decide +kernel
theorem dX4_wall_0 : decode cX4_wall 0 = .ok (.aload_n 0, 1) := by decide +kernel
theorem dX4_wall_1 : decode cX4_wall 1 = .ok (.iload_n 1, 1) := by decide +kernel
theorem dX4_wall_2 : decode cX4_wall 2 = .ok (.invokevirtual 86, 3) := by decide +kernel
theorem dX4_wall_5 : decode cX4_wall 5 = .ok (.aload_n 0, 1) := by decide +kernel
theorem dX4_wall_6 : decode cX4_wall 6 = .ok (.getfield 19, 3) := by decide +kernel
theorem dX4_wall_9 : decode cX4_wall 9 = .ok (.getfield 76, 3) := by decide +kernel
theorem dX4_wall_12 : decode cX4_wall 12 = .ok (.iload_n 1, 1) := by decide +kernel
theorem dX4_wall_13 : decode cX4_wall 13 = .ok (.aaload, 1) := by decide +kernel
theorem dX4_wall_14 : decode cX4_wall 14 = .ok (.astore_n 3, 1) := by decide +kernel
theorem dX4_wall_15 : decode cX4_wall 15 = .ok (.iload_n 2, 1) := by decide +kernel
theorem dX4_wall_16 : decode cX4_wall 16 = .ok (.aload_n 3, 1) := by decide +kernel
theorem dX4_wall_17 : decode cX4_wall 17 = .ok (.invokevirtual 116, 3) := by decide +kernel
theorem dX4_wall_20 : decode cX4_wall 20 = .ok (.ineg, 1) := by decide +kernel
theorem dX4_wall_21 : decode cX4_wall 21 = .ok (.if_icmp .lt 11, 3) := by decide +kernel
theorem dX4_wall_24 : decode cX4_wall 24 = .ok (.iload_n 2, 1) := by decide +kernel
theorem dX4_wall_25 : decode cX4_wall 25 = .ok (.aload_n 3, 1) := by decide +kernel
theorem dX4_wall_26 : decode cX4_wall 26 = .ok (.invokevirtual 116, 3) := by decide +kernel
theorem dX4_wall_29 : decode cX4_wall 29 = .ok (.if_icmp .le 11, 3) := by decide +kernel
theorem dX4_wall_32 : decode cX4_wall 32 = .ok (.new 53, 3) := by decide +kernel
theorem dX4_wall_35 : decode cX4_wall 35 = .ok (.dup, 1) := by decide +kernel
theorem dX4_wall_36 : decode cX4_wall 36 = .ok (.invokespecial 55, 3) := by decide +kernel
theorem dX4_wall_39 : decode cX4_wall 39 = .ok (.athrow, 1) := by decide +kernel
theorem dX4_wall_40 : decode cX4_wall 40 = .ok (.aload_n 0, 1) := by decide +kernel
theorem dX4_wall_41 : decode cX4_wall 41 = .ok (.getfield 19, 3) := by decide +kernel
theorem dX4_wall_44 : decode cX4_wall 44 = .ok (.aload_n 3, 1) := by decide +kernel
theorem dX4_wall_45 : decode cX4_wall 45 = .ok (.getfield 120, 3) := by decide +kernel
theorem dX4_wall_48 : decode cX4_wall 48 = .ok (.iload_n 2, 1) := by decide +kernel
theorem dX4_wall_49 : decode cX4_wall 49 = .ok (.isub, 1) := by decide +kernel
theorem dX4_wall_50 : decode cX4_wall 50 = .ok (.invokevirtual 123, 3) := by decide +kernel
theorem dX4_wall_53 : decode cX4_wall 53 = .ok (.ireturn, 1) := by decide +kernel
theorem dX4_bright_0 : decode cX4_bright 0 = .ok (.aload_n 0, 1) := by decide +kernel
theorem dX4_bright_1 : decode cX4_bright 1 = .ok (.iload_n 1, 1) := by decide +kernel
theorem dX4_bright_2 : decode cX4_bright 2 = .ok (.invokevirtual 86, 3) := by decide +kernel
theorem dX4_bright_5 : decode cX4_bright 5 = .ok (.aload_n 0, 1) := by decide +kernel
theorem dX4_bright_6 : decode cX4_bright 6 = .ok (.iload_n 2, 1) := by decide +kernel
theorem dX4_bright_7 : decode cX4_bright 7 = .ok (.invokevirtual 102, 3) := by decide +kernel
theorem dX4_bright_10 : decode cX4_bright 10 = .ok (.aload_n 0, 1) := by decide +kernel
theorem dX4_bright_11 : decode cX4_bright 11 = .ok (.getfield 19, 3) := by decide +kernel
theorem dX4_bright_14 : decode cX4_bright 14 = .ok (.getfield 76, 3) := by decide +kernel
theorem dX4_bright_17 : decode cX4_bright 17 = .ok (.iload_n 1, 1) := by decide +kernel
theorem dX4_bright_18 : decode cX4_bright 18 = .ok (.aaload, 1) := by decide +kernel
theorem dX4_bright_19 : decode cX4_bright 19 = .ok (.astore_n 3, 1) := by decide +kernel
theorem dX4_bright_20 : decode cX4_bright 20 = .ok (.aload_n 0, 1) := by decide +kernel
theorem dX4_bright_21 : decode cX4_bright 21 = .ok (.getfield 19, 3) := by decide +kernel
theorem dX4_bright_24 : decode cX4_bright 24 = .ok (.getfield 43, 3) := by decide +kernel
theorem dX4_bright_27 : decode cX4_bright 27 = .ok (.iload_n 2, 1) := by decide +kernel
theorem dX4_bright_28 : decode cX4_bright 28 = .ok (.aaload, 1) := by decide +kernel
theorem dX4_bright_29 : decode cX4_bright 29 = .ok (.astore 4, 2) := by decide +kernel
theorem dX4_bright_31 : decode cX4_bright 31 = .ok (.aload_n 3, 1) := by decide +kernel
theorem dX4_bright_32 : decode cX4_bright 32 = .ok (.aload 4, 2) := by decide +kernel
theorem dX4_bright_34 : decode cX4_bright 34 = .ok (.invokevirtual 126, 3) := by decide +kernel
theorem dX4_bright_37 : decode cX4_bright 37 = .ok (.ifCond .eq 16, 3) := by decide +kernel
theorem dX4_bright_40 : decode cX4_bright 40 = .ok (.aload_n 3, 1) := by decide +kernel
theorem dX4_bright_41 : decode cX4_bright 41 = .ok (.aload 4, 2) := by decide +kernel
theorem dX4_bright_43 : decode cX4_bright 43 = .ok (.aload_n 0, 1) := by decide +kernel
theorem dX4_bright_44 : decode cX4_bright 44 = .ok (.invokevirtual 130, 3) := by decide +kernel
theorem dX4_bright_47 : decode cX4_bright 47 = .ok (.invokevirtual 133, 3) := by decide +kernel
theorem dX4_bright_50 : decode cX4_bright 50 = .ok (.goto 4, 3) := by decide +kernel
theorem dX4_bright_53 : decode cX4_bright 53 = .ok (.iconst (-1), 1) := by decide +kernel
theorem dX4_bright_54 : decode cX4_bright 54 = .ok (.ireturn, 1) := by decide +kernel
theorem dX4_count_0 : decode cX4_count 0 = .ok (.iload_n 1, 1) := by decide +kernel
theorem dX4_count_1 : decode cX4_count 1 = .ok (.bipush 9, 2) := by decide +kernel
theorem dX4_count_3 : decode cX4_count 3 = .ok (.invokestatic 105, 3) := by decide +kernel
theorem dX4_count_6 : decode cX4_count 6 = .ok (.aload_n 0, 1) := by decide +kernel
theorem dX4_count_7 : decode cX4_count 7 = .ok (.iload_n 1, 1) := by decide +kernel
theorem dX4_count_8 : decode cX4_count 8 = .ok (.invokevirtual 137, 3) := by decide +kernel
theorem dX4_count_11 : decode cX4_count 11 = .ok (.ireturn, 1) := by decide +kernel
theorem dX4_go_0 : decode cX4_go 0 = .ok (.iload_n 1, 1) := by decide +kernel
theorem dX4_go_1 : decode cX4_go 1 = .ok (.sipush 720, 3) := by decide +kernel
theorem dX4_go_4 : decode cX4_go 4 = .ok (.invokestatic 140, 3) := by decide +kernel
theorem dX4_go_7 : decode cX4_go 7 = .ok (.aload_n 0, 1) := by decide +kernel
theorem dX4_go_8 : decode cX4_go 8 = .ok (.aload_n 0, 1) := by decide +kernel
theorem dX4_go_9 : decode cX4_go 9 = .ok (.getfield 19, 3) := by decide +kernel
theorem dX4_go_12 : decode cX4_go 12 = .ok (.iload_n 1, 1) := by decide +kernel
theorem dX4_go_13 : decode cX4_go 13 = .ok (.invokevirtual 143, 3) := by decide +kernel
theorem dX4_go_16 : decode cX4_go 16 = .ok (.ireturn, 1) := by decide +kernel
theorem dX4_when_0 : decode cX4_when 0 = .ok (.aload_n 0, 1) := by decide +kernel
theorem dX4_when_1 : decode cX4_when 1 = .ok (.iload_n 1, 1) := by decide +kernel
theorem dX4_when_2 : decode cX4_when 2 = .ok (.invokevirtual 86, 3) := by decide +kernel
theorem dX4_when_5 : decode cX4_when 5 = .ok (.aload_n 0, 1) := by decide +kernel
theorem dX4_when_6 : decode cX4_when 6 = .ok (.getfield 23, 3) := by decide +kernel
theorem dX4_when_9 : decode cX4_when 9 = .ok (.aload_n 0, 1) := by decide +kernel
theorem dX4_when_10 : decode cX4_when 10 = .ok (.getfield 19, 3) := by decide +kernel
theorem dX4_when_13 : decode cX4_when 13 = .ok (.invokevirtual 147, 3) := by decide +kernel
theorem dX4_when_16 : decode cX4_when 16 = .ok (.iconst 0, 1) := by decide +kernel
theorem dX4_when_17 : decode cX4_when 17 = .ok (.istore_n 2, 1) := by decide +kernel
theorem dX4_when_18 : decode cX4_when 18 = .ok (.iconst (-1), 1) := by decide +kernel
theorem dX4_when_19 : decode cX4_when 19 = .ok (.istore_n 3, 1) := by decide +kernel
theorem dX4_when_20 : decode cX4_when 20 = .ok (.aload_n 0, 1) := by decide +kernel
theorem dX4_when_21 : decode cX4_when 21 = .ok (.getfield 19, 3) := by decide +kernel
theorem dX4_when_24 : decode cX4_when 24 = .ok (.getfield 151, 3) := by decide +kernel
theorem dX4_when_27 : decode cX4_when 27 = .ok (.istore 4, 2) := by decide +kernel
theorem dX4_when_29 : decode cX4_when 29 = .ok (.iload 4, 2) := by decide +kernel
theorem dX4_when_31 : decode cX4_when 31 = .ok (.sipush 720, 3) := by decide +kernel
theorem dX4_when_34 : decode cX4_when 34 = .ok (.if_icmp .ge 55, 3) := by decide +kernel
theorem dX4_when_37 : decode cX4_when 37 = .ok (.aload_n 0, 1) := by decide +kernel
theorem dX4_when_38 : decode cX4_when 38 = .ok (.getfield 23, 3) := by decide +kernel
theorem dX4_when_41 : decode cX4_when 41 = .ok (.aload_n 0, 1) := by decide +kernel
theorem dX4_when_42 : decode cX4_when 42 = .ok (.getfield 23, 3) := by decide +kernel
theorem dX4_when_45 : decode cX4_when 45 = .ok (.getfield 76, 3) := by decide +kernel
theorem dX4_when_48 : decode cX4_when 48 = .ok (.iload_n 1, 1) := by decide +kernel
theorem dX4_when_49 : decode cX4_when 49 = .ok (.aaload, 1) := by decide +kernel
theorem dX4_when_50 : decode cX4_when 50 = .ok (.aload_n 0, 1) := by decide +kernel
theorem dX4_when_51 : decode cX4_when 51 = .ok (.getfield 12, 3) := by decide +kernel
theorem dX4_when_54 : decode cX4_when 54 = .ok (.iload 4, 2) := by decide +kernel
theorem dX4_when_56 : decode cX4_when 56 = .ok (.invokevirtual 154, 3) := by decide +kernel
theorem dX4_when_59 : decode cX4_when 59 = .ok (.invokevirtual 157, 3) := by decide +kernel
theorem dX4_when_62 : decode cX4_when 62 = .ok (.istore 5, 2) := by decide +kernel
theorem dX4_when_64 : decode cX4_when 64 = .ok (.iload 5, 2) := by decide +kernel
theorem dX4_when_66 : decode cX4_when 66 = .ok (.iload_n 2, 1) := by decide +kernel
theorem dX4_when_67 : decode cX4_when 67 = .ok (.if_icmp .le 9, 3) := by decide +kernel
theorem dX4_when_70 : decode cX4_when 70 = .ok (.iload 5, 2) := by decide +kernel
theorem dX4_when_72 : decode cX4_when 72 = .ok (.istore_n 2, 1) := by decide +kernel
theorem dX4_when_73 : decode cX4_when 73 = .ok (.iload 4, 2) := by decide +kernel
theorem dX4_when_75 : decode cX4_when 75 = .ok (.istore_n 3, 1) := by decide +kernel
theorem dX4_when_76 : decode cX4_when 76 = .ok (.aload_n 0, 1) := by decide +kernel
theorem dX4_when_77 : decode cX4_when 77 = .ok (.getfield 23, 3) := by decide +kernel
theorem dX4_when_80 : decode cX4_when 80 = .ok (.invokevirtual 161, 3) := by decide +kernel
theorem dX4_when_83 : decode cX4_when 83 = .ok (.iinc 4 1, 3) := by decide +kernel
theorem dX4_when_86 : decode cX4_when 86 = .ok (.goto (-57), 3) := by decide +kernel
theorem dX4_when_89 : decode cX4_when 89 = .ok (.iload_n 3, 1) := by decide +kernel
theorem dX4_when_90 : decode cX4_when 90 = .ok (.ireturn, 1) := by decide +kernel
theorem dX4_advise_0 : decode cX4_advise 0 = .ok (.aload_n 0, 1) := by decide +kernel
theorem dX4_advise_1 : decode cX4_advise 1 = .ok (.iload_n 1, 1) := by decide +kernel
theorem dX4_advise_2 : decode cX4_advise 2 = .ok (.invokevirtual 86, 3) := by decide +kernel
theorem dX4_advise_5 : decode cX4_advise 5 = .ok (.iload_n 2, 1) := by decide +kernel
theorem dX4_advise_6 : decode cX4_advise 6 = .ok (.sipush 200, 3) := by decide +kernel
theorem dX4_advise_9 : decode cX4_advise 9 = .ok (.invokestatic 140, 3) := by decide +kernel
theorem dX4_advise_12 : decode cX4_advise 12 = .ok (.iconst (-1), 1) := by decide +kernel
theorem dX4_advise_13 : decode cX4_advise 13 = .ok (.istore_n 3, 1) := by decide +kernel
theorem dX4_advise_14 : decode cX4_advise 14 = .ok (.iconst 1, 1) := by decide +kernel
theorem dX4_advise_15 : decode cX4_advise 15 = .ok (.istore 4, 2) := by decide +kernel
theorem dX4_advise_17 : decode cX4_advise 17 = .ok (.iconst 1, 1) := by decide +kernel
theorem dX4_advise_18 : decode cX4_advise 18 = .ok (.istore 5, 2) := by decide +kernel
theorem dX4_advise_20 : decode cX4_advise 20 = .ok (.iload 5, 2) := by decide +kernel
theorem dX4_advise_22 : decode cX4_advise 22 = .ok (.bipush 9, 2) := by decide +kernel
theorem dX4_advise_24 : decode cX4_advise 24 = .ok (.if_icmp .gt 32, 3) := by decide +kernel
theorem dX4_advise_27 : decode cX4_advise 27 = .ok (.aload_n 0, 1) := by decide +kernel
theorem dX4_advise_28 : decode cX4_advise 28 = .ok (.iload_n 1, 1) := by decide +kernel
theorem dX4_advise_29 : decode cX4_advise 29 = .ok (.iload 5, 2) := by decide +kernel
theorem dX4_advise_31 : decode cX4_advise 31 = .ok (.iload_n 2, 1) := by decide +kernel
theorem dX4_advise_32 : decode cX4_advise 32 = .ok (.invokevirtual 164, 3) := by decide +kernel
theorem dX4_advise_35 : decode cX4_advise 35 = .ok (.istore 6, 2) := by decide +kernel
theorem dX4_advise_37 : decode cX4_advise 37 = .ok (.iload 6, 2) := by decide +kernel
theorem dX4_advise_39 : decode cX4_advise 39 = .ok (.iload_n 3, 1) := by decide +kernel
theorem dX4_advise_40 : decode cX4_advise 40 = .ok (.if_icmp .le 10, 3) := by decide +kernel
theorem dX4_advise_43 : decode cX4_advise 43 = .ok (.iload 6, 2) := by decide +kernel
theorem dX4_advise_45 : decode cX4_advise 45 = .ok (.istore_n 3, 1) := by decide +kernel
theorem dX4_advise_46 : decode cX4_advise 46 = .ok (.iload 5, 2) := by decide +kernel
theorem dX4_advise_48 : decode cX4_advise 48 = .ok (.istore 4, 2) := by decide +kernel
theorem dX4_advise_50 : decode cX4_advise 50 = .ok (.iinc 5 1, 3) := by decide +kernel
theorem dX4_advise_53 : decode cX4_advise 53 = .ok (.goto (-33), 3) := by decide +kernel
theorem dX4_advise_56 : decode cX4_advise 56 = .ok (.iload 4, 2) := by decide +kernel
theorem dX4_advise_58 : decode cX4_advise 58 = .ok (.ireturn, 1) := by decide +kernel
theorem dX4_seen_0 : decode cX4_seen 0 = .ok (.aload_n 0, 1) := by decide +kernel
theorem dX4_seen_1 : decode cX4_seen 1 = .ok (.iload_n 1, 1) := by decide +kernel
theorem dX4_seen_2 : decode cX4_seen 2 = .ok (.invokevirtual 102, 3) := by decide +kernel
theorem dX4_seen_5 : decode cX4_seen 5 = .ok (.aload_n 0, 1) := by decide +kernel
theorem dX4_seen_6 : decode cX4_seen 6 = .ok (.getfield 23, 3) := by decide +kernel
theorem dX4_seen_9 : decode cX4_seen 9 = .ok (.getfield 43, 3) := by decide +kernel
theorem dX4_seen_12 : decode cX4_seen 12 = .ok (.iload_n 1, 1) := by decide +kernel
theorem dX4_seen_13 : decode cX4_seen 13 = .ok (.aaload, 1) := by decide +kernel
theorem dX4_seen_14 : decode cX4_seen 14 = .ok (.astore_n 2, 1) := by decide +kernel
theorem dX4_seen_15 : decode cX4_seen 15 = .ok (.aload_n 2, 1) := by decide +kernel
theorem dX4_seen_16 : decode cX4_seen 16 = .ok (.aload_n 0, 1) := by decide +kernel
theorem dX4_seen_17 : decode cX4_seen 17 = .ok (.getfield 19, 3) := by decide +kernel
theorem dX4_seen_20 : decode cX4_seen 20 = .ok (.getfield 43, 3) := by decide +kernel
theorem dX4_seen_23 : decode cX4_seen 23 = .ok (.iload_n 1, 1) := by decide +kernel
theorem dX4_seen_24 : decode cX4_seen 24 = .ok (.aaload, 1) := by decide +kernel
theorem dX4_seen_25 : decode cX4_seen 25 = .ok (.invokevirtual 168, 3) := by decide +kernel
theorem dX4_seen_28 : decode cX4_seen 28 = .ok (.aload_n 0, 1) := by decide +kernel
theorem dX4_seen_29 : decode cX4_seen 29 = .ok (.getfield 19, 3) := by decide +kernel
theorem dX4_seen_32 : decode cX4_seen 32 = .ok (.aload_n 2, 1) := by decide +kernel
theorem dX4_seen_33 : decode cX4_seen 33 = .ok (.invokevirtual 171, 3) := by decide +kernel
theorem dX4_seen_36 : decode cX4_seen 36 = .ok (.istore_n 3, 1) := by decide +kernel
theorem dX4_seen_37 : decode cX4_seen 37 = .ok (.aload_n 0, 1) := by decide +kernel
theorem dX4_seen_38 : decode cX4_seen 38 = .ok (.getfield 19, 3) := by decide +kernel
theorem dX4_seen_41 : decode cX4_seen 41 = .ok (.getfield 151, 3) := by decide +kernel
theorem dX4_seen_44 : decode cX4_seen 44 = .ok (.iconst 1, 1) := by decide +kernel
theorem dX4_seen_45 : decode cX4_seen 45 = .ok (.iadd, 1) := by decide +kernel
theorem dX4_seen_46 : decode cX4_seen 46 = .ok (.istore 4, 2) := by decide +kernel
theorem dX4_seen_48 : decode cX4_seen 48 = .ok (.iload 4, 2) := by decide +kernel
theorem dX4_seen_50 : decode cX4_seen 50 = .ok (.sipush 720, 3) := by decide +kernel
theorem dX4_seen_53 : decode cX4_seen 53 = .ok (.if_icmp .ge 24, 3) := by decide +kernel
theorem dX4_seen_56 : decode cX4_seen 56 = .ok (.aload_n 2, 1) := by decide +kernel
theorem dX4_seen_57 : decode cX4_seen 57 = .ok (.invokevirtual 175, 3) := by decide +kernel
theorem dX4_seen_60 : decode cX4_seen 60 = .ok (.iload_n 3, 1) := by decide +kernel
theorem dX4_seen_61 : decode cX4_seen 61 = .ok (.aload_n 0, 1) := by decide +kernel
theorem dX4_seen_62 : decode cX4_seen 62 = .ok (.getfield 19, 3) := by decide +kernel
theorem dX4_seen_65 : decode cX4_seen 65 = .ok (.aload_n 2, 1) := by decide +kernel
theorem dX4_seen_66 : decode cX4_seen 66 = .ok (.invokevirtual 171, 3) := by decide +kernel
theorem dX4_seen_69 : decode cX4_seen 69 = .ok (.ior, 1) := by decide +kernel
theorem dX4_seen_70 : decode cX4_seen 70 = .ok (.istore_n 3, 1) := by decide +kernel
theorem dX4_seen_71 : decode cX4_seen 71 = .ok (.iinc 4 1, 3) := by decide +kernel
theorem dX4_seen_74 : decode cX4_seen 74 = .ok (.goto (-26), 3) := by decide +kernel
theorem dX4_seen_77 : decode cX4_seen 77 = .ok (.iload_n 3, 1) := by decide +kernel
theorem dX4_seen_78 : decode cX4_seen 78 = .ok (.ireturn, 1) := by decide +kernel
theorem dX4_foresee_0 : decode cX4_foresee 0 = .ok (.iload_n 1, 1) := by decide +kernel
theorem dX4_foresee_1 : decode cX4_foresee 1 = .ok (.sipush 720, 3) := by decide +kernel
theorem dX4_foresee_4 : decode cX4_foresee 4 = .ok (.invokestatic 140, 3) := by decide +kernel
theorem dX4_foresee_7 : decode cX4_foresee 7 = .ok (.iload_n 2, 1) := by decide +kernel
theorem dX4_foresee_8 : decode cX4_foresee 8 = .ok (.iconst 3, 1) := by decide +kernel
theorem dX4_foresee_9 : decode cX4_foresee 9 = .ok (.invokestatic 105, 3) := by decide +kernel
theorem dX4_foresee_12 : decode cX4_foresee 12 = .ok (.aload_n 0, 1) := by decide +kernel
theorem dX4_foresee_13 : decode cX4_foresee 13 = .ok (.getfield 23, 3) := by decide +kernel
theorem dX4_foresee_16 : decode cX4_foresee 16 = .ok (.aload_n 0, 1) := by decide +kernel
theorem dX4_foresee_17 : decode cX4_foresee 17 = .ok (.getfield 19, 3) := by decide +kernel
theorem dX4_foresee_20 : decode cX4_foresee 20 = .ok (.invokevirtual 147, 3) := by decide +kernel
theorem dX4_foresee_23 : decode cX4_foresee 23 = .ok (.aload_n 0, 1) := by decide +kernel
theorem dX4_foresee_24 : decode cX4_foresee 24 = .ok (.aload_n 0, 1) := by decide +kernel
theorem dX4_foresee_25 : decode cX4_foresee 25 = .ok (.getfield 23, 3) := by decide +kernel
theorem dX4_foresee_28 : decode cX4_foresee 28 = .ok (.iload_n 1, 1) := by decide +kernel
theorem dX4_foresee_29 : decode cX4_foresee 29 = .ok (.invokevirtual 143, 3) := by decide +kernel
theorem dX4_foresee_32 : decode cX4_foresee 32 = .ok (.istore_n 3, 1) := by decide +kernel
theorem dX4_foresee_33 : decode cX4_foresee 33 = .ok (.iload_n 2, 1) := by decide +kernel
theorem dX4_foresee_34 : decode cX4_foresee 34 = .ok (.ifCond .ne 5, 3) := by decide +kernel
theorem dX4_foresee_37 : decode cX4_foresee 37 = .ok (.iload_n 3, 1) := by decide +kernel
theorem dX4_foresee_38 : decode cX4_foresee 38 = .ok (.ireturn, 1) := by decide +kernel
theorem dX4_foresee_39 : decode cX4_foresee 39 = .ok (.iload_n 2, 1) := by decide +kernel
theorem dX4_foresee_40 : decode cX4_foresee 40 = .ok (.iconst 1, 1) := by decide +kernel
theorem dX4_foresee_41 : decode cX4_foresee 41 = .ok (.if_icmp .ne 13, 3) := by decide +kernel
theorem dX4_foresee_44 : decode cX4_foresee 44 = .ok (.aload_n 0, 1) := by decide +kernel
theorem dX4_foresee_45 : decode cX4_foresee 45 = .ok (.getfield 23, 3) := by decide +kernel
theorem dX4_foresee_48 : decode cX4_foresee 48 = .ok (.invokevirtual 178, 3) := by decide +kernel
theorem dX4_foresee_51 : decode cX4_foresee 51 = .ok (.goto 18, 3) := by decide +kernel
theorem dX4_foresee_54 : decode cX4_foresee 54 = .ok (.aload_n 0, 1) := by decide +kernel
theorem dX4_foresee_55 : decode cX4_foresee 55 = .ok (.getfield 23, 3) := by decide +kernel
theorem dX4_foresee_58 : decode cX4_foresee 58 = .ok (.getfield 36, 3) := by decide +kernel
theorem dX4_foresee_61 : decode cX4_foresee 61 = .ok (.aload_n 0, 1) := by decide +kernel
theorem dX4_foresee_62 : decode cX4_foresee 62 = .ok (.getfield 23, 3) := by decide +kernel
theorem dX4_foresee_65 : decode cX4_foresee 65 = .ok (.invokevirtual 181, 3) := by decide +kernel
theorem dX4_foresee_68 : decode cX4_foresee 68 = .ok (.isub, 1) := by decide +kernel
theorem dX4_foresee_69 : decode cX4_foresee 69 = .ok (.ireturn, 1) := by decide +kernel
theorem dX4_mean_0 : decode cX4_mean 0 = .ok (.aload_n 0, 1) := by decide +kernel
theorem dX4_mean_1 : decode cX4_mean 1 = .ok (.getfield 19, 3) := by decide +kernel
theorem dX4_mean_4 : decode cX4_mean 4 = .ok (.getfield 151, 3) := by decide +kernel
theorem dX4_mean_7 : decode cX4_mean 7 = .ok (.ifCond .ne 5, 3) := by decide +kernel
theorem dX4_mean_10 : decode cX4_mean 10 = .ok (.dconst 0, 1) := by decide +kernel
theorem dX4_mean_11 : decode cX4_mean 11 = .ok (.dreturn, 1) := by decide +kernel
theorem dX4_mean_12 : decode cX4_mean 12 = .ok (.aload_n 0, 1) := by decide +kernel
theorem dX4_mean_13 : decode cX4_mean 13 = .ok (.getfield 19, 3) := by decide +kernel
theorem dX4_mean_16 : decode cX4_mean 16 = .ok (.invokevirtual 184, 3) := by decide +kernel
theorem dX4_mean_19 : decode cX4_mean 19 = .ok (.i2d, 1) := by decide +kernel
theorem dX4_mean_20 : decode cX4_mean 20 = .ok (.aload_n 0, 1) := by decide +kernel
theorem dX4_mean_21 : decode cX4_mean 21 = .ok (.getfield 19, 3) := by decide +kernel
theorem dX4_mean_24 : decode cX4_mean 24 = .ok (.getfield 151, 3) := by decide +kernel
theorem dX4_mean_27 : decode cX4_mean 27 = .ok (.i2d, 1) := by decide +kernel
theorem dX4_mean_28 : decode cX4_mean 28 = .ok (.ddiv, 1) := by decide +kernel
theorem dX4_mean_29 : decode cX4_mean 29 = .ok (.dreturn, 1) := by decide +kernel
theorem dX4_digest_0 : decode cX4_digest 0 = .ok (.ldc2_w 187, 3) := by decide +kernel
theorem dX4_digest_3 : decode cX4_digest 3 = .ok (.lstore_n 1, 1) := by decide +kernel
theorem dX4_digest_4 : decode cX4_digest 4 = .ok (.iconst 0, 1) := by decide +kernel
theorem dX4_digest_5 : decode cX4_digest 5 = .ok (.istore_n 3, 1) := by decide +kernel
theorem dX4_digest_6 : decode cX4_digest 6 = .ok (.iload_n 3, 1) := by decide +kernel
theorem dX4_digest_7 : decode cX4_digest 7 = .ok (.bipush 9, 2) := by decide +kernel
theorem dX4_digest_9 : decode cX4_digest 9 = .ok (.if_icmp .ge 22, 3) := by decide +kernel
theorem dX4_digest_12 : decode cX4_digest 12 = .ok (.lload_n 1, 1) := by decide +kernel
theorem dX4_digest_13 : decode cX4_digest 13 = .ok (.ldc2_w 189, 3) := by decide +kernel
theorem dX4_digest_16 : decode cX4_digest 16 = .ok (.lmul, 1) := by decide +kernel
theorem dX4_digest_17 : decode cX4_digest 17 = .ok (.aload_n 0, 1) := by decide +kernel
theorem dX4_digest_18 : decode cX4_digest 18 = .ok (.iload_n 3, 1) := by decide +kernel
theorem dX4_digest_19 : decode cX4_digest 19 = .ok (.invokevirtual 137, 3) := by decide +kernel
theorem dX4_digest_22 : decode cX4_digest 22 = .ok (.i2l, 1) := by decide +kernel
theorem dX4_digest_23 : decode cX4_digest 23 = .ok (.ladd, 1) := by decide +kernel
theorem dX4_digest_24 : decode cX4_digest 24 = .ok (.lstore_n 1, 1) := by decide +kernel
theorem dX4_digest_25 : decode cX4_digest 25 = .ok (.iinc 3 1, 3) := by decide +kernel
theorem dX4_digest_28 : decode cX4_digest 28 = .ok (.goto (-22), 3) := by decide +kernel
theorem dX4_digest_31 : decode cX4_digest 31 = .ok (.iconst 0, 1) := by decide +kernel
theorem dX4_digest_32 : decode cX4_digest 32 = .ok (.istore_n 3, 1) := by decide +kernel
theorem dX4_digest_33 : decode cX4_digest 33 = .ok (.iload_n 3, 1) := by decide +kernel
theorem dX4_digest_34 : decode cX4_digest 34 = .ok (.bipush 12, 2) := by decide +kernel
theorem dX4_digest_36 : decode cX4_digest 36 = .ok (.if_icmp .ge 25, 3) := by decide +kernel
theorem dX4_digest_39 : decode cX4_digest 39 = .ok (.lload_n 1, 1) := by decide +kernel
theorem dX4_digest_40 : decode cX4_digest 40 = .ok (.ldc2_w 189, 3) := by decide +kernel
theorem dX4_digest_43 : decode cX4_digest 43 = .ok (.lmul, 1) := by decide +kernel
theorem dX4_digest_44 : decode cX4_digest 44 = .ok (.aload_n 0, 1) := by decide +kernel
theorem dX4_digest_45 : decode cX4_digest 45 = .ok (.getfield 12, 3) := by decide +kernel
theorem dX4_digest_48 : decode cX4_digest 48 = .ok (.iload_n 3, 1) := by decide +kernel
theorem dX4_digest_49 : decode cX4_digest 49 = .ok (.invokevirtual 59, 3) := by decide +kernel
theorem dX4_digest_52 : decode cX4_digest 52 = .ok (.i2l, 1) := by decide +kernel
theorem dX4_digest_53 : decode cX4_digest 53 = .ok (.ladd, 1) := by decide +kernel
theorem dX4_digest_54 : decode cX4_digest 54 = .ok (.lstore_n 1, 1) := by decide +kernel
theorem dX4_digest_55 : decode cX4_digest 55 = .ok (.iinc 3 1, 3) := by decide +kernel
theorem dX4_digest_58 : decode cX4_digest 58 = .ok (.goto (-25), 3) := by decide +kernel
theorem dX4_digest_61 : decode cX4_digest 61 = .ok (.iconst 0, 1) := by decide +kernel
theorem dX4_digest_62 : decode cX4_digest 62 = .ok (.istore_n 3, 1) := by decide +kernel
theorem dX4_digest_63 : decode cX4_digest 63 = .ok (.iload_n 3, 1) := by decide +kernel
theorem dX4_digest_64 : decode cX4_digest 64 = .ok (.aload_n 0, 1) := by decide +kernel
theorem dX4_digest_65 : decode cX4_digest 65 = .ok (.getfield 19, 3) := by decide +kernel
theorem dX4_digest_68 : decode cX4_digest 68 = .ok (.getfield 36, 3) := by decide +kernel
theorem dX4_digest_71 : decode cX4_digest 71 = .ok (.if_icmp .ge 39, 3) := by decide +kernel
theorem dX4_digest_74 : decode cX4_digest 74 = .ok (.iconst 0, 1) := by decide +kernel
theorem dX4_digest_75 : decode cX4_digest 75 = .ok (.istore 4, 2) := by decide +kernel
theorem dX4_digest_77 : decode cX4_digest 77 = .ok (.iload 4, 2) := by decide +kernel
theorem dX4_digest_79 : decode cX4_digest 79 = .ok (.iconst 5, 1) := by decide +kernel
theorem dX4_digest_80 : decode cX4_digest 80 = .ok (.if_icmp .ge 24, 3) := by decide +kernel
theorem dX4_digest_83 : decode cX4_digest 83 = .ok (.lload_n 1, 1) := by decide +kernel
theorem dX4_digest_84 : decode cX4_digest 84 = .ok (.ldc2_w 189, 3) := by decide +kernel
theorem dX4_digest_87 : decode cX4_digest 87 = .ok (.lmul, 1) := by decide +kernel
theorem dX4_digest_88 : decode cX4_digest 88 = .ok (.aload_n 0, 1) := by decide +kernel
theorem dX4_digest_89 : decode cX4_digest 89 = .ok (.iload_n 3, 1) := by decide +kernel
theorem dX4_digest_90 : decode cX4_digest 90 = .ok (.iload 4, 2) := by decide +kernel
theorem dX4_digest_92 : decode cX4_digest 92 = .ok (.invokevirtual 109, 3) := by decide +kernel
theorem dX4_digest_95 : decode cX4_digest 95 = .ok (.i2l, 1) := by decide +kernel
theorem dX4_digest_96 : decode cX4_digest 96 = .ok (.ladd, 1) := by decide +kernel
theorem dX4_digest_97 : decode cX4_digest 97 = .ok (.lstore_n 1, 1) := by decide +kernel
theorem dX4_digest_98 : decode cX4_digest 98 = .ok (.iinc 4 1, 3) := by decide +kernel
theorem dX4_digest_101 : decode cX4_digest 101 = .ok (.goto (-24), 3) := by decide +kernel
theorem dX4_digest_104 : decode cX4_digest 104 = .ok (.iinc 3 1, 3) := by decide +kernel
theorem dX4_digest_107 : decode cX4_digest 107 = .ok (.goto (-44), 3) := by decide +kernel
theorem dX4_digest_110 : decode cX4_digest 110 = .ok (.iconst 0, 1) := by decide +kernel
theorem dX4_digest_111 : decode cX4_digest 111 = .ok (.istore_n 3, 1) := by decide +kernel
theorem dX4_digest_112 : decode cX4_digest 112 = .ok (.iload_n 3, 1) := by decide +kernel
theorem dX4_digest_113 : decode cX4_digest 113 = .ok (.aload_n 0, 1) := by decide +kernel
theorem dX4_digest_114 : decode cX4_digest 114 = .ok (.getfield 19, 3) := by decide +kernel
theorem dX4_digest_117 : decode cX4_digest 117 = .ok (.getfield 70, 3) := by decide +kernel
theorem dX4_digest_120 : decode cX4_digest 120 = .ok (.if_icmp .ge 40, 3) := by decide +kernel
theorem dX4_digest_123 : decode cX4_digest 123 = .ok (.iconst 0, 1) := by decide +kernel
theorem dX4_digest_124 : decode cX4_digest 124 = .ok (.istore 4, 2) := by decide +kernel
theorem dX4_digest_126 : decode cX4_digest 126 = .ok (.iload 4, 2) := by decide +kernel
theorem dX4_digest_128 : decode cX4_digest 128 = .ok (.bipush 8, 2) := by decide +kernel
theorem dX4_digest_130 : decode cX4_digest 130 = .ok (.if_icmp .ge 24, 3) := by decide +kernel
theorem dX4_digest_133 : decode cX4_digest 133 = .ok (.lload_n 1, 1) := by decide +kernel
theorem dX4_digest_134 : decode cX4_digest 134 = .ok (.ldc2_w 189, 3) := by decide +kernel
theorem dX4_digest_137 : decode cX4_digest 137 = .ok (.lmul, 1) := by decide +kernel
theorem dX4_digest_138 : decode cX4_digest 138 = .ok (.aload_n 0, 1) := by decide +kernel
theorem dX4_digest_139 : decode cX4_digest 139 = .ok (.iload_n 3, 1) := by decide +kernel
theorem dX4_digest_140 : decode cX4_digest 140 = .ok (.iload 4, 2) := by decide +kernel
theorem dX4_digest_142 : decode cX4_digest 142 = .ok (.invokevirtual 113, 3) := by decide +kernel
theorem dX4_digest_145 : decode cX4_digest 145 = .ok (.i2l, 1) := by decide +kernel
theorem dX4_digest_146 : decode cX4_digest 146 = .ok (.ladd, 1) := by decide +kernel
theorem dX4_digest_147 : decode cX4_digest 147 = .ok (.lstore_n 1, 1) := by decide +kernel
theorem dX4_digest_148 : decode cX4_digest 148 = .ok (.iinc 4 1, 3) := by decide +kernel
theorem dX4_digest_151 : decode cX4_digest 151 = .ok (.goto (-25), 3) := by decide +kernel
theorem dX4_digest_154 : decode cX4_digest 154 = .ok (.iinc 3 1, 3) := by decide +kernel
theorem dX4_digest_157 : decode cX4_digest 157 = .ok (.goto (-45), 3) := by decide +kernel
theorem dX4_digest_160 : decode cX4_digest 160 = .ok (.lload_n 1, 1) := by decide +kernel
theorem dX4_digest_161 : decode cX4_digest 161 = .ok (.lreturn, 1) := by decide +kernel
theorem dX4_isStep_0 : decode cX4_isStep 0 = .ok (.iload_n 0, 1) := by decide +kernel
theorem dX4_isStep_1 : decode cX4_isStep 1 = .ok (.ifCond .lt 13, 3) := by decide +kernel
theorem dX4_isStep_4 : decode cX4_isStep 4 = .ok (.iload_n 0, 1) := by decide +kernel
theorem dX4_isStep_5 : decode cX4_isStep 5 = .ok (.bipush 60, 2) := by decide +kernel
theorem dX4_isStep_7 : decode cX4_isStep 7 = .ok (.if_icmp .ge 7, 3) := by decide +kernel
theorem dX4_isStep_10 : decode cX4_isStep 10 = .ok (.iconst 1, 1) := by decide +kernel
theorem dX4_isStep_11 : decode cX4_isStep 11 = .ok (.goto 4, 3) := by decide +kernel
theorem dX4_isStep_14 : decode cX4_isStep 14 = .ok (.iconst 0, 1) := by decide +kernel
theorem dX4_isStep_15 : decode cX4_isStep 15 = .ok (.ireturn, 1) := by decide +kernel
theorem dX4_isOneToNine_0 : decode cX4_isOneToNine 0 = .ok (.iload_n 0, 1) := by decide +kernel
theorem dX4_isOneToNine_1 : decode cX4_isOneToNine 1 = .ok (.iconst 1, 1) := by decide +kernel
theorem dX4_isOneToNine_2 : decode cX4_isOneToNine 2 = .ok (.if_icmp .lt 13, 3) := by decide +kernel
theorem dX4_isOneToNine_5 : decode cX4_isOneToNine 5 = .ok (.iload_n 0, 1) := by decide +kernel
theorem dX4_isOneToNine_6 : decode cX4_isOneToNine 6 = .ok (.bipush 9, 2) := by decide +kernel
theorem dX4_isOneToNine_8 : decode cX4_isOneToNine 8 = .ok (.if_icmp .gt 7, 3) := by decide +kernel
theorem dX4_isOneToNine_11 : decode cX4_isOneToNine 11 = .ok (.iconst 1, 1) := by decide +kernel
theorem dX4_isOneToNine_12 : decode cX4_isOneToNine 12 = .ok (.goto 4, 3) := by decide +kernel
theorem dX4_isOneToNine_15 : decode cX4_isOneToNine 15 = .ok (.iconst 0, 1) := by decide +kernel
theorem dX4_isOneToNine_16 : decode cX4_isOneToNine 16 = .ok (.ireturn, 1) := by decide +kernel
theorem dX4_isZeroToNine_0 : decode cX4_isZeroToNine 0 = .ok (.iload_n 0, 1) := by decide +kernel
theorem dX4_isZeroToNine_1 : decode cX4_isZeroToNine 1 = .ok (.ifCond .lt 13, 3) := by decide +kernel
theorem dX4_isZeroToNine_4 : decode cX4_isZeroToNine 4 = .ok (.iload_n 0, 1) := by decide +kernel
theorem dX4_isZeroToNine_5 : decode cX4_isZeroToNine 5 = .ok (.bipush 9, 2) := by decide +kernel
theorem dX4_isZeroToNine_7 : decode cX4_isZeroToNine 7 = .ok (.if_icmp .gt 7, 3) := by decide +kernel
theorem dX4_isZeroToNine_10 : decode cX4_isZeroToNine 10 = .ok (.iconst 1, 1) := by decide +kernel
theorem dX4_isZeroToNine_11 : decode cX4_isZeroToNine 11 = .ok (.goto 4, 3) := by decide +kernel
theorem dX4_isZeroToNine_14 : decode cX4_isZeroToNine 14 = .ok (.iconst 0, 1) := by decide +kernel
theorem dX4_isZeroToNine_15 : decode cX4_isZeroToNine 15 = .ok (.ireturn, 1) := by decide +kernel
theorem dX4_needPasser_0 : decode cX4_needPasser 0 = .ok (.iload_n 1, 1) := by decide +kernel
theorem dX4_needPasser_1 : decode cX4_needPasser 1 = .ok (.aload_n 0, 1) := by decide +kernel
theorem dX4_needPasser_2 : decode cX4_needPasser 2 = .ok (.getfield 19, 3) := by decide +kernel
theorem dX4_needPasser_5 : decode cX4_needPasser 5 = .ok (.getfield 36, 3) := by decide +kernel
theorem dX4_needPasser_8 : decode cX4_needPasser 8 = .ok (.invokestatic 105, 3) := by decide +kernel
theorem dX4_needPasser_11 : decode cX4_needPasser 11 = .ok (.return_, 1) := by decide +kernel
theorem dX4_needRoom_0 : decode cX4_needRoom 0 = .ok (.iload_n 1, 1) := by decide +kernel
theorem dX4_needRoom_1 : decode cX4_needRoom 1 = .ok (.aload_n 0, 1) := by decide +kernel
theorem dX4_needRoom_2 : decode cX4_needRoom 2 = .ok (.getfield 19, 3) := by decide +kernel
theorem dX4_needRoom_5 : decode cX4_needRoom 5 = .ok (.getfield 70, 3) := by decide +kernel
theorem dX4_needRoom_8 : decode cX4_needRoom 8 = .ok (.invokestatic 105, 3) := by decide +kernel
theorem dX4_needRoom_11 : decode cX4_needRoom 11 = .ok (.return_, 1) := by decide +kernel
theorem dX4_needBelow_0 : decode cX4_needBelow 0 = .ok (.iload_n 0, 1) := by decide +kernel
theorem dX4_needBelow_1 : decode cX4_needBelow 1 = .ok (.ifCond .lt 8, 3) := by decide +kernel
theorem dX4_needBelow_4 : decode cX4_needBelow 4 = .ok (.iload_n 0, 1) := by decide +kernel
theorem dX4_needBelow_5 : decode cX4_needBelow 5 = .ok (.iload_n 1, 1) := by decide +kernel
theorem dX4_needBelow_6 : decode cX4_needBelow 6 = .ok (.if_icmp .lt 11, 3) := by decide +kernel
theorem dX4_needBelow_9 : decode cX4_needBelow 9 = .ok (.new 53, 3) := by decide +kernel
theorem dX4_needBelow_12 : decode cX4_needBelow 12 = .ok (.dup, 1) := by decide +kernel
theorem dX4_needBelow_13 : decode cX4_needBelow 13 = .ok (.invokespecial 55, 3) := by decide +kernel
theorem dX4_needBelow_16 : decode cX4_needBelow 16 = .ok (.athrow, 1) := by decide +kernel
theorem dX4_needBelow_17 : decode cX4_needBelow 17 = .ok (.return_, 1) := by decide +kernel
theorem dX4_needMinutes_0 : decode cX4_needMinutes 0 = .ok (.iload_n 0, 1) := by decide +kernel
theorem dX4_needMinutes_1 : decode cX4_needMinutes 1 = .ok (.iconst 1, 1) := by decide +kernel
theorem dX4_needMinutes_2 : decode cX4_needMinutes 2 = .ok (.if_icmp .lt 8, 3) := by decide +kernel
theorem dX4_needMinutes_5 : decode cX4_needMinutes 5 = .ok (.iload_n 0, 1) := by decide +kernel
theorem dX4_needMinutes_6 : decode cX4_needMinutes 6 = .ok (.iload_n 1, 1) := by decide +kernel
theorem dX4_needMinutes_7 : decode cX4_needMinutes 7 = .ok (.if_icmp .le 11, 3) := by decide +kernel
theorem dX4_needMinutes_10 : decode cX4_needMinutes 10 = .ok (.new 33, 3) := by decide +kernel
theorem dX4_needMinutes_13 : decode cX4_needMinutes 13 = .ok (.dup, 1) := by decide +kernel
theorem dX4_needMinutes_14 : decode cX4_needMinutes 14 = .ok (.invokespecial 35, 3) := by decide +kernel
theorem dX4_needMinutes_17 : decode cX4_needMinutes 17 = .ok (.athrow, 1) := by decide +kernel
theorem dX4_needMinutes_18 : decode cX4_needMinutes 18 = .ok (.return_, 1) := by decide +kernel
theorem dX4_lightNow_0 : decode cX4_lightNow 0 = .ok (.aload_n 0, 1) := by decide +kernel
theorem dX4_lightNow_1 : decode cX4_lightNow 1 = .ok (.getfield 12, 3) := by decide +kernel
theorem dX4_lightNow_4 : decode cX4_lightNow 4 = .ok (.aload_n 0, 1) := by decide +kernel
theorem dX4_lightNow_5 : decode cX4_lightNow 5 = .ok (.getfield 19, 3) := by decide +kernel
theorem dX4_lightNow_8 : decode cX4_lightNow 8 = .ok (.getfield 151, 3) := by decide +kernel
theorem dX4_lightNow_11 : decode cX4_lightNow 11 = .ok (.invokevirtual 154, 3) := by decide +kernel
theorem dX4_lightNow_14 : decode cX4_lightNow 14 = .ok (.ireturn, 1) := by decide +kernel
theorem dX4_passerFact_0 : decode cX4_passerFact 0 = .ok (.aload_n 0, 1) := by decide +kernel
theorem dX4_passerFact_1 : decode cX4_passerFact 1 = .ok (.getfield 19, 3) := by decide +kernel
theorem dX4_passerFact_4 : decode cX4_passerFact 4 = .ok (.getfield 43, 3) := by decide +kernel
theorem dX4_passerFact_7 : decode cX4_passerFact 7 = .ok (.iload_n 1, 1) := by decide +kernel
theorem dX4_passerFact_8 : decode cX4_passerFact 8 = .ok (.aaload, 1) := by decide +kernel
theorem dX4_passerFact_9 : decode cX4_passerFact 9 = .ok (.astore_n 3, 1) := by decide +kernel
theorem dX4_passerFact_10 : decode cX4_passerFact 10 = .ok (.iload_n 2, 1) := by decide +kernel
theorem dX4_passerFact_11 : decode cX4_passerFact 11 = .ok (.tableswitch 49 0 3 #[29, 34, 39, 44], 29) := by decide +kernel
theorem dX4_passerFact_40 : decode cX4_passerFact 40 = .ok (.aload_n 3, 1) := by decide +kernel
theorem dX4_passerFact_41 : decode cX4_passerFact 41 = .ok (.getfield 191, 3) := by decide +kernel
theorem dX4_passerFact_44 : decode cX4_passerFact 44 = .ok (.ireturn, 1) := by decide +kernel
theorem dX4_passerFact_45 : decode cX4_passerFact 45 = .ok (.aload_n 3, 1) := by decide +kernel
theorem dX4_passerFact_46 : decode cX4_passerFact 46 = .ok (.getfield 192, 3) := by decide +kernel
theorem dX4_passerFact_49 : decode cX4_passerFact 49 = .ok (.ireturn, 1) := by decide +kernel
theorem dX4_passerFact_50 : decode cX4_passerFact 50 = .ok (.aload_n 3, 1) := by decide +kernel
theorem dX4_passerFact_51 : decode cX4_passerFact 51 = .ok (.getfield 195, 3) := by decide +kernel
theorem dX4_passerFact_54 : decode cX4_passerFact 54 = .ok (.ireturn, 1) := by decide +kernel
theorem dX4_passerFact_55 : decode cX4_passerFact 55 = .ok (.aload_n 3, 1) := by decide +kernel
theorem dX4_passerFact_56 : decode cX4_passerFact 56 = .ok (.getfield 198, 3) := by decide +kernel
theorem dX4_passerFact_59 : decode cX4_passerFact 59 = .ok (.ireturn, 1) := by decide +kernel
theorem dX4_passerFact_60 : decode cX4_passerFact 60 = .ok (.aload_n 0, 1) := by decide +kernel
theorem dX4_passerFact_61 : decode cX4_passerFact 61 = .ok (.getfield 19, 3) := by decide +kernel
theorem dX4_passerFact_64 : decode cX4_passerFact 64 = .ok (.aload_n 3, 1) := by decide +kernel
theorem dX4_passerFact_65 : decode cX4_passerFact 65 = .ok (.aload_n 0, 1) := by decide +kernel
theorem dX4_passerFact_66 : decode cX4_passerFact 66 = .ok (.invokevirtual 130, 3) := by decide +kernel
theorem dX4_passerFact_69 : decode cX4_passerFact 69 = .ok (.invokevirtual 201, 3) := by decide +kernel
theorem dX4_passerFact_72 : decode cX4_passerFact 72 = .ok (.ireturn, 1) := by decide +kernel
theorem dX4_roomFact_0 : decode cX4_roomFact 0 = .ok (.aload_n 0, 1) := by decide +kernel
theorem dX4_roomFact_1 : decode cX4_roomFact 1 = .ok (.getfield 19, 3) := by decide +kernel
theorem dX4_roomFact_4 : decode cX4_roomFact 4 = .ok (.getfield 76, 3) := by decide +kernel
theorem dX4_roomFact_7 : decode cX4_roomFact 7 = .ok (.iload_n 1, 1) := by decide +kernel
theorem dX4_roomFact_8 : decode cX4_roomFact 8 = .ok (.aaload, 1) := by decide +kernel
theorem dX4_roomFact_9 : decode cX4_roomFact 9 = .ok (.astore_n 3, 1) := by decide +kernel
theorem dX4_roomFact_10 : decode cX4_roomFact 10 = .ok (.iload_n 2, 1) := by decide +kernel
theorem dX4_roomFact_11 : decode cX4_roomFact 11 = .ok (.tableswitch 84 0 6 #[41, 46, 51, 56, 61, 66, 71], 41) := by decide +kernel
theorem dX4_roomFact_52 : decode cX4_roomFact 52 = .ok (.aload_n 3, 1) := by decide +kernel
theorem dX4_roomFact_53 : decode cX4_roomFact 53 = .ok (.getfield 120, 3) := by decide +kernel
theorem dX4_roomFact_56 : decode cX4_roomFact 56 = .ok (.ireturn, 1) := by decide +kernel
theorem dX4_roomFact_57 : decode cX4_roomFact 57 = .ok (.aload_n 3, 1) := by decide +kernel
theorem dX4_roomFact_58 : decode cX4_roomFact 58 = .ok (.getfield 204, 3) := by decide +kernel
theorem dX4_roomFact_61 : decode cX4_roomFact 61 = .ok (.ireturn, 1) := by decide +kernel
theorem dX4_roomFact_62 : decode cX4_roomFact 62 = .ok (.aload_n 3, 1) := by decide +kernel
theorem dX4_roomFact_63 : decode cX4_roomFact 63 = .ok (.getfield 90, 3) := by decide +kernel
theorem dX4_roomFact_66 : decode cX4_roomFact 66 = .ok (.ireturn, 1) := by decide +kernel
theorem dX4_roomFact_67 : decode cX4_roomFact 67 = .ok (.aload_n 3, 1) := by decide +kernel
theorem dX4_roomFact_68 : decode cX4_roomFact 68 = .ok (.getfield 93, 3) := by decide +kernel
theorem dX4_roomFact_71 : decode cX4_roomFact 71 = .ok (.ireturn, 1) := by decide +kernel
theorem dX4_roomFact_72 : decode cX4_roomFact 72 = .ok (.aload_n 3, 1) := by decide +kernel
theorem dX4_roomFact_73 : decode cX4_roomFact 73 = .ok (.getfield 96, 3) := by decide +kernel
theorem dX4_roomFact_76 : decode cX4_roomFact 76 = .ok (.ireturn, 1) := by decide +kernel
theorem dX4_roomFact_77 : decode cX4_roomFact 77 = .ok (.aload_n 3, 1) := by decide +kernel
theorem dX4_roomFact_78 : decode cX4_roomFact 78 = .ok (.getfield 99, 3) := by decide +kernel
theorem dX4_roomFact_81 : decode cX4_roomFact 81 = .ok (.ireturn, 1) := by decide +kernel
theorem dX4_roomFact_82 : decode cX4_roomFact 82 = .ok (.aload_n 0, 1) := by decide +kernel
theorem dX4_roomFact_83 : decode cX4_roomFact 83 = .ok (.getfield 19, 3) := by decide +kernel
theorem dX4_roomFact_86 : decode cX4_roomFact 86 = .ok (.aload_n 3, 1) := by decide +kernel
theorem dX4_roomFact_87 : decode cX4_roomFact 87 = .ok (.aload_n 0, 1) := by decide +kernel
theorem dX4_roomFact_88 : decode cX4_roomFact 88 = .ok (.invokevirtual 130, 3) := by decide +kernel
theorem dX4_roomFact_91 : decode cX4_roomFact 91 = .ok (.invokevirtual 157, 3) := by decide +kernel
theorem dX4_roomFact_94 : decode cX4_roomFact 94 = .ok (.ireturn, 1) := by decide +kernel
theorem dX4_roomFact_95 : decode cX4_roomFact 95 = .ok (.aload_n 3, 1) := by decide +kernel
theorem dX4_roomFact_96 : decode cX4_roomFact 96 = .ok (.getfield 207, 3) := by decide +kernel
theorem dX4_roomFact_99 : decode cX4_roomFact 99 = .ok (.ireturn, 1) := by decide +kernel
theorem dX4_houseFact_0 : decode cX4_houseFact 0 = .ok (.iload_n 1, 1) := by decide +kernel
theorem dX4_houseFact_1 : decode cX4_houseFact 1 = .ok (.tableswitch 112 0 7 #[47, 55, 60, 68, 76, 84, 92, 104], 47) := by decide +kernel
theorem dX4_houseFact_48 : decode cX4_houseFact 48 = .ok (.aload_n 0, 1) := by decide +kernel
theorem dX4_houseFact_49 : decode cX4_houseFact 49 = .ok (.getfield 19, 3) := by decide +kernel
theorem dX4_houseFact_52 : decode cX4_houseFact 52 = .ok (.getfield 151, 3) := by decide +kernel
theorem dX4_houseFact_55 : decode cX4_houseFact 55 = .ok (.ireturn, 1) := by decide +kernel
theorem dX4_houseFact_56 : decode cX4_houseFact 56 = .ok (.aload_n 0, 1) := by decide +kernel
theorem dX4_houseFact_57 : decode cX4_houseFact 57 = .ok (.invokevirtual 130, 3) := by decide +kernel
theorem dX4_houseFact_60 : decode cX4_houseFact 60 = .ok (.ireturn, 1) := by decide +kernel
theorem dX4_houseFact_61 : decode cX4_houseFact 61 = .ok (.aload_n 0, 1) := by decide +kernel
theorem dX4_houseFact_62 : decode cX4_houseFact 62 = .ok (.getfield 19, 3) := by decide +kernel
theorem dX4_houseFact_65 : decode cX4_houseFact 65 = .ok (.getfield 36, 3) := by decide +kernel
theorem dX4_houseFact_68 : decode cX4_houseFact 68 = .ok (.ireturn, 1) := by decide +kernel
theorem dX4_houseFact_69 : decode cX4_houseFact 69 = .ok (.aload_n 0, 1) := by decide +kernel
theorem dX4_houseFact_70 : decode cX4_houseFact 70 = .ok (.getfield 19, 3) := by decide +kernel
theorem dX4_houseFact_73 : decode cX4_houseFact 73 = .ok (.invokevirtual 181, 3) := by decide +kernel
theorem dX4_houseFact_76 : decode cX4_houseFact 76 = .ok (.ireturn, 1) := by decide +kernel
theorem dX4_houseFact_77 : decode cX4_houseFact 77 = .ok (.aload_n 0, 1) := by decide +kernel
theorem dX4_houseFact_78 : decode cX4_houseFact 78 = .ok (.getfield 19, 3) := by decide +kernel
theorem dX4_houseFact_81 : decode cX4_houseFact 81 = .ok (.getfield 70, 3) := by decide +kernel
theorem dX4_houseFact_84 : decode cX4_houseFact 84 = .ok (.ireturn, 1) := by decide +kernel
theorem dX4_houseFact_85 : decode cX4_houseFact 85 = .ok (.aload_n 0, 1) := by decide +kernel
theorem dX4_houseFact_86 : decode cX4_houseFact 86 = .ok (.getfield 19, 3) := by decide +kernel
theorem dX4_houseFact_89 : decode cX4_houseFact 89 = .ok (.invokevirtual 178, 3) := by decide +kernel
theorem dX4_houseFact_92 : decode cX4_houseFact 92 = .ok (.ireturn, 1) := by decide +kernel
theorem dX4_houseFact_93 : decode cX4_houseFact 93 = .ok (.aload_n 0, 1) := by decide +kernel
theorem dX4_houseFact_94 : decode cX4_houseFact 94 = .ok (.getfield 19, 3) := by decide +kernel
theorem dX4_houseFact_97 : decode cX4_houseFact 97 = .ok (.aload_n 0, 1) := by decide +kernel
theorem dX4_houseFact_98 : decode cX4_houseFact 98 = .ok (.invokevirtual 130, 3) := by decide +kernel
theorem dX4_houseFact_101 : decode cX4_houseFact 101 = .ok (.invokevirtual 210, 3) := by decide +kernel
theorem dX4_houseFact_104 : decode cX4_houseFact 104 = .ok (.ireturn, 1) := by decide +kernel
theorem dX4_houseFact_105 : decode cX4_houseFact 105 = .ok (.aload_n 0, 1) := by decide +kernel
theorem dX4_houseFact_106 : decode cX4_houseFact 106 = .ok (.getfield 19, 3) := by decide +kernel
theorem dX4_houseFact_109 : decode cX4_houseFact 109 = .ok (.invokevirtual 184, 3) := by decide +kernel
theorem dX4_houseFact_112 : decode cX4_houseFact 112 = .ok (.ireturn, 1) := by decide +kernel
theorem dX4_houseFact_113 : decode cX4_houseFact 113 = .ok (.aload_n 0, 1) := by decide +kernel
theorem dX4_houseFact_114 : decode cX4_houseFact 114 = .ok (.getfield 19, 3) := by decide +kernel
theorem dX4_houseFact_117 : decode cX4_houseFact 117 = .ok (.getfield 151, 3) := by decide +kernel
theorem dX4_houseFact_120 : decode cX4_houseFact 120 = .ok (.sipush 720, 3) := by decide +kernel
theorem dX4_houseFact_123 : decode cX4_houseFact 123 = .ok (.if_icmp .lt 7, 3) := by decide +kernel
theorem dX4_houseFact_126 : decode cX4_houseFact 126 = .ok (.iconst 1, 1) := by decide +kernel
theorem dX4_houseFact_127 : decode cX4_houseFact 127 = .ok (.goto 4, 3) := by decide +kernel
theorem dX4_houseFact_130 : decode cX4_houseFact 130 = .ok (.iconst 0, 1) := by decide +kernel
theorem dX4_houseFact_131 : decode cX4_houseFact 131 = .ok (.ireturn, 1) := by decide +kernel
theorem dX4_letGoBy_0 : decode cX4_letGoBy 0 = .ok (.aload_n 1, 1) := by decide +kernel
theorem dX4_letGoBy_1 : decode cX4_letGoBy 1 = .ok (.getfield 151, 3) := by decide +kernel
theorem dX4_letGoBy_4 : decode cX4_letGoBy 4 = .ok (.iload_n 2, 1) := by decide +kernel
theorem dX4_letGoBy_5 : decode cX4_letGoBy 5 = .ok (.iadd, 1) := by decide +kernel
theorem dX4_letGoBy_6 : decode cX4_letGoBy 6 = .ok (.sipush 720, 3) := by decide +kernel
theorem dX4_letGoBy_9 : decode cX4_letGoBy 9 = .ok (.invokestatic 213, 3) := by decide +kernel
theorem dX4_letGoBy_12 : decode cX4_letGoBy 12 = .ok (.istore_n 3, 1) := by decide +kernel
theorem dX4_letGoBy_13 : decode cX4_letGoBy 13 = .ok (.iconst 0, 1) := by decide +kernel
theorem dX4_letGoBy_14 : decode cX4_letGoBy 14 = .ok (.istore 4, 2) := by decide +kernel
theorem dX4_letGoBy_16 : decode cX4_letGoBy 16 = .ok (.aload_n 1, 1) := by decide +kernel
theorem dX4_letGoBy_17 : decode cX4_letGoBy 17 = .ok (.getfield 151, 3) := by decide +kernel
theorem dX4_letGoBy_20 : decode cX4_letGoBy 20 = .ok (.istore 5, 2) := by decide +kernel
theorem dX4_letGoBy_22 : decode cX4_letGoBy 22 = .ok (.iload 5, 2) := by decide +kernel
theorem dX4_letGoBy_24 : decode cX4_letGoBy 24 = .ok (.iload_n 3, 1) := by decide +kernel
theorem dX4_letGoBy_25 : decode cX4_letGoBy 25 = .ok (.if_icmp .ge 41, 3) := by decide +kernel
theorem dX4_letGoBy_28 : decode cX4_letGoBy 28 = .ok (.aload_n 1, 1) := by decide +kernel
theorem dX4_letGoBy_29 : decode cX4_letGoBy 29 = .ok (.invokevirtual 161, 3) := by decide +kernel
theorem dX4_letGoBy_32 : decode cX4_letGoBy 32 = .ok (.iload 4, 2) := by decide +kernel
theorem dX4_letGoBy_34 : decode cX4_letGoBy 34 = .ok (.aload_n 1, 1) := by decide +kernel
theorem dX4_letGoBy_35 : decode cX4_letGoBy 35 = .ok (.aload_n 0, 1) := by decide +kernel
theorem dX4_letGoBy_36 : decode cX4_letGoBy 36 = .ok (.getfield 12, 3) := by decide +kernel
theorem dX4_letGoBy_39 : decode cX4_letGoBy 39 = .ok (.iload 5, 2) := by decide +kernel
theorem dX4_letGoBy_41 : decode cX4_letGoBy 41 = .ok (.invokevirtual 154, 3) := by decide +kernel
theorem dX4_letGoBy_44 : decode cX4_letGoBy 44 = .ok (.invokevirtual 218, 3) := by decide +kernel
theorem dX4_letGoBy_47 : decode cX4_letGoBy 47 = .ok (.iadd, 1) := by decide +kernel
theorem dX4_letGoBy_48 : decode cX4_letGoBy 48 = .ok (.istore 4, 2) := by decide +kernel
theorem dX4_letGoBy_50 : decode cX4_letGoBy 50 = .ok (.aload_n 1, 1) := by decide +kernel
theorem dX4_letGoBy_51 : decode cX4_letGoBy 51 = .ok (.dup, 1) := by decide +kernel
theorem dX4_letGoBy_52 : decode cX4_letGoBy 52 = .ok (.getfield 151, 3) := by decide +kernel
theorem dX4_letGoBy_55 : decode cX4_letGoBy 55 = .ok (.iconst 1, 1) := by decide +kernel
theorem dX4_letGoBy_56 : decode cX4_letGoBy 56 = .ok (.iadd, 1) := by decide +kernel
theorem dX4_letGoBy_57 : decode cX4_letGoBy 57 = .ok (.putfield 151, 3) := by decide +kernel
theorem dX4_letGoBy_60 : decode cX4_letGoBy 60 = .ok (.iinc 5 1, 3) := by decide +kernel
theorem dX4_letGoBy_63 : decode cX4_letGoBy 63 = .ok (.goto (-41), 3) := by decide +kernel
theorem dX4_letGoBy_66 : decode cX4_letGoBy 66 = .ok (.iload 4, 2) := by decide +kernel
theorem dX4_letGoBy_68 : decode cX4_letGoBy 68 = .ok (.ireturn, 1) := by decide +kernel
theorem dX4_paidWithHole_0 : decode cX4_paidWithHole 0 = .ok (.aload_n 0, 1) := by decide +kernel
theorem dX4_paidWithHole_1 : decode cX4_paidWithHole 1 = .ok (.getfield 23, 3) := by decide +kernel
theorem dX4_paidWithHole_4 : decode cX4_paidWithHole 4 = .ok (.aload_n 0, 1) := by decide +kernel
theorem dX4_paidWithHole_5 : decode cX4_paidWithHole 5 = .ok (.getfield 19, 3) := by decide +kernel
theorem dX4_paidWithHole_8 : decode cX4_paidWithHole 8 = .ok (.invokevirtual 147, 3) := by decide +kernel
theorem dX4_paidWithHole_11 : decode cX4_paidWithHole 11 = .ok (.aload_n 0, 1) := by decide +kernel
theorem dX4_paidWithHole_12 : decode cX4_paidWithHole 12 = .ok (.getfield 23, 3) := by decide +kernel
theorem dX4_paidWithHole_15 : decode cX4_paidWithHole 15 = .ok (.getfield 76, 3) := by decide +kernel
theorem dX4_paidWithHole_18 : decode cX4_paidWithHole 18 = .ok (.iload_n 1, 1) := by decide +kernel
theorem dX4_paidWithHole_19 : decode cX4_paidWithHole 19 = .ok (.aaload, 1) := by decide +kernel
theorem dX4_paidWithHole_20 : decode cX4_paidWithHole 20 = .ok (.astore 4, 2) := by decide +kernel
theorem dX4_paidWithHole_22 : decode cX4_paidWithHole 22 = .ok (.aload 4, 2) := by decide +kernel
theorem dX4_paidWithHole_24 : decode cX4_paidWithHole 24 = .ok (.iload_n 2, 1) := by decide +kernel
theorem dX4_paidWithHole_25 : decode cX4_paidWithHole 25 = .ok (.putfield 90, 3) := by decide +kernel
theorem dX4_paidWithHole_28 : decode cX4_paidWithHole 28 = .ok (.aload_n 0, 1) := by decide +kernel
theorem dX4_paidWithHole_29 : decode cX4_paidWithHole 29 = .ok (.getfield 19, 3) := by decide +kernel
theorem dX4_paidWithHole_32 : decode cX4_paidWithHole 32 = .ok (.getfield 151, 3) := by decide +kernel
theorem dX4_paidWithHole_35 : decode cX4_paidWithHole 35 = .ok (.iload_n 3, 1) := by decide +kernel
theorem dX4_paidWithHole_36 : decode cX4_paidWithHole 36 = .ok (.iadd, 1) := by decide +kernel
theorem dX4_paidWithHole_37 : decode cX4_paidWithHole 37 = .ok (.sipush 720, 3) := by decide +kernel
theorem dX4_paidWithHole_40 : decode cX4_paidWithHole 40 = .ok (.invokestatic 213, 3) := by decide +kernel
theorem dX4_paidWithHole_43 : decode cX4_paidWithHole 43 = .ok (.istore 5, 2) := by decide +kernel
theorem dX4_paidWithHole_45 : decode cX4_paidWithHole 45 = .ok (.iconst 0, 1) := by decide +kernel
theorem dX4_paidWithHole_46 : decode cX4_paidWithHole 46 = .ok (.istore 6, 2) := by decide +kernel
theorem dX4_paidWithHole_48 : decode cX4_paidWithHole 48 = .ok (.aload_n 0, 1) := by decide +kernel
theorem dX4_paidWithHole_49 : decode cX4_paidWithHole 49 = .ok (.getfield 19, 3) := by decide +kernel
theorem dX4_paidWithHole_52 : decode cX4_paidWithHole 52 = .ok (.getfield 151, 3) := by decide +kernel
theorem dX4_paidWithHole_55 : decode cX4_paidWithHole 55 = .ok (.istore 7, 2) := by decide +kernel
theorem dX4_paidWithHole_57 : decode cX4_paidWithHole 57 = .ok (.iload 7, 2) := by decide +kernel
theorem dX4_paidWithHole_59 : decode cX4_paidWithHole 59 = .ok (.iload 5, 2) := by decide +kernel
theorem dX4_paidWithHole_61 : decode cX4_paidWithHole 61 = .ok (.if_icmp .ge 44, 3) := by decide +kernel
theorem dX4_paidWithHole_64 : decode cX4_paidWithHole 64 = .ok (.aload_n 0, 1) := by decide +kernel
theorem dX4_paidWithHole_65 : decode cX4_paidWithHole 65 = .ok (.getfield 23, 3) := by decide +kernel
theorem dX4_paidWithHole_68 : decode cX4_paidWithHole 68 = .ok (.invokevirtual 161, 3) := by decide +kernel
theorem dX4_paidWithHole_71 : decode cX4_paidWithHole 71 = .ok (.iload 6, 2) := by decide +kernel
theorem dX4_paidWithHole_73 : decode cX4_paidWithHole 73 = .ok (.aload 4, 2) := by decide +kernel
theorem dX4_paidWithHole_75 : decode cX4_paidWithHole 75 = .ok (.aload_n 0, 1) := by decide +kernel
theorem dX4_paidWithHole_76 : decode cX4_paidWithHole 76 = .ok (.getfield 23, 3) := by decide +kernel
theorem dX4_paidWithHole_79 : decode cX4_paidWithHole 79 = .ok (.aload 4, 2) := by decide +kernel
theorem dX4_paidWithHole_81 : decode cX4_paidWithHole 81 = .ok (.aload_n 0, 1) := by decide +kernel
theorem dX4_paidWithHole_82 : decode cX4_paidWithHole 82 = .ok (.getfield 12, 3) := by decide +kernel
theorem dX4_paidWithHole_85 : decode cX4_paidWithHole 85 = .ok (.iload 7, 2) := by decide +kernel
theorem dX4_paidWithHole_87 : decode cX4_paidWithHole 87 = .ok (.invokevirtual 154, 3) := by decide +kernel
theorem dX4_paidWithHole_90 : decode cX4_paidWithHole 90 = .ok (.invokevirtual 157, 3) := by decide +kernel
theorem dX4_paidWithHole_93 : decode cX4_paidWithHole 93 = .ok (.invokevirtual 221, 3) := by decide +kernel
theorem dX4_paidWithHole_96 : decode cX4_paidWithHole 96 = .ok (.iadd, 1) := by decide +kernel
theorem dX4_paidWithHole_97 : decode cX4_paidWithHole 97 = .ok (.istore 6, 2) := by decide +kernel
theorem dX4_paidWithHole_99 : decode cX4_paidWithHole 99 = .ok (.iinc 7 1, 3) := by decide +kernel
theorem dX4_paidWithHole_102 : decode cX4_paidWithHole 102 = .ok (.goto (-45), 3) := by decide +kernel
theorem dX4_paidWithHole_105 : decode cX4_paidWithHole 105 = .ok (.iload 6, 2) := by decide +kernel
theorem dX4_paidWithHole_107 : decode cX4_paidWithHole 107 = .ok (.ireturn, 1) := by decide +kernel
theorem dX5_init_0 : decode cX5_init 0 = .ok (.aload_n 0, 1) := by decide +kernel
theorem dX5_init_1 : decode cX5_init 1 = .ok (.aload_n 1, 1) := by decide +kernel
theorem dX5_init_2 : decode cX5_init 2 = .ok (.putfield 3, 3) := by decide +kernel
theorem dX5_init_5 : decode cX5_init 5 = .ok (.aload_n 0, 1) := by decide +kernel
theorem dX5_init_6 : decode cX5_init 6 = .ok (.invokespecial 9, 3) := by decide +kernel
theorem dX5_init_9 : decode cX5_init 9 = .ok (.aload_n 0, 1) := by decide +kernel
theorem dX5_init_10 : decode cX5_init 10 = .ok (.bipush 10, 2) := by decide +kernel
theorem dX5_init_12 : decode cX5_init 12 = .ok (.newarray .int, 2) := by decide +kernel
theorem dX5_init_14 : decode cX5_init 14 = .ok (.putfield 15, 3) := by decide +kernel
theorem dX5_init_17 : decode cX5_init 17 = .ok (.aload_n 0, 1) := by decide +kernel
theorem dX5_init_18 : decode cX5_init 18 = .ok (.bipush 8, 2) := by decide +kernel
theorem dX5_init_20 : decode cX5_init 20 = .ok (.newarray .int, 2) := by decide +kernel
theorem dX5_init_22 : decode cX5_init 22 = .ok (.putfield 19, 3) := by decide +kernel
theorem dX5_init_25 : decode cX5_init 25 = .ok (.aload_n 0, 1) := by decide +kernel
theorem dX5_init_26 : decode cX5_init 26 = .ok (.bipush 8, 2) := by decide +kernel
theorem dX5_init_28 : decode cX5_init 28 = .ok (.newarray .int, 2) := by decide +kernel
theorem dX5_init_30 : decode cX5_init 30 = .ok (.putfield 22, 3) := by decide +kernel
theorem dX5_init_33 : decode cX5_init 33 = .ok (.aload_n 0, 1) := by decide +kernel
theorem dX5_init_34 : decode cX5_init 34 = .ok (.bipush 8, 2) := by decide +kernel
theorem dX5_init_36 : decode cX5_init 36 = .ok (.newarray .int, 2) := by decide +kernel
theorem dX5_init_38 : decode cX5_init 38 = .ok (.putfield 25, 3) := by decide +kernel
theorem dX5_init_41 : decode cX5_init 41 = .ok (.return_, 1) := by decide +kernel
theorem dX5_copy_0 : decode cX5_copy 0 = .ok (.aload_n 1, 1) := by decide +kernel
theorem dX5_copy_1 : decode cX5_copy 1 = .ok (.iconst 0, 1) := by decide +kernel
theorem dX5_copy_2 : decode cX5_copy 2 = .ok (.aload_n 2, 1) := by decide +kernel
theorem dX5_copy_3 : decode cX5_copy 3 = .ok (.iconst 0, 1) := by decide +kernel
theorem dX5_copy_4 : decode cX5_copy 4 = .ok (.aload_n 1, 1) := by decide +kernel
theorem dX5_copy_5 : decode cX5_copy 5 = .ok (.arraylength, 1) := by decide +kernel
theorem dX5_copy_6 : decode cX5_copy 6 = .ok (.invokestatic 28, 3) := by decide +kernel
theorem dX5_copy_9 : decode cX5_copy 9 = .ok (.return_, 1) := by decide +kernel
theorem dX5_become_0 : decode cX5_become 0 = .ok (.aload_n 0, 1) := by decide +kernel
theorem dX5_become_1 : decode cX5_become 1 = .ok (.aload_n 1, 1) := by decide +kernel
theorem dX5_become_2 : decode cX5_become 2 = .ok (.getfield 34, 3) := by decide +kernel
theorem dX5_become_5 : decode cX5_become 5 = .ok (.putfield 34, 3) := by decide +kernel
theorem dX5_become_8 : decode cX5_become 8 = .ok (.aload_n 0, 1) := by decide +kernel
theorem dX5_become_9 : decode cX5_become 9 = .ok (.aload_n 1, 1) := by decide +kernel
theorem dX5_become_10 : decode cX5_become 10 = .ok (.getfield 15, 3) := by decide +kernel
theorem dX5_become_13 : decode cX5_become 13 = .ok (.aload_n 0, 1) := by decide +kernel
theorem dX5_become_14 : decode cX5_become 14 = .ok (.getfield 15, 3) := by decide +kernel
theorem dX5_become_17 : decode cX5_become 17 = .ok (.invokevirtual 38, 3) := by decide +kernel
theorem dX5_become_20 : decode cX5_become 20 = .ok (.aload_n 0, 1) := by decide +kernel
theorem dX5_become_21 : decode cX5_become 21 = .ok (.aload_n 1, 1) := by decide +kernel
theorem dX5_become_22 : decode cX5_become 22 = .ok (.getfield 19, 3) := by decide +kernel
theorem dX5_become_25 : decode cX5_become 25 = .ok (.aload_n 0, 1) := by decide +kernel
theorem dX5_become_26 : decode cX5_become 26 = .ok (.getfield 19, 3) := by decide +kernel
theorem dX5_become_29 : decode cX5_become 29 = .ok (.invokevirtual 38, 3) := by decide +kernel
theorem dX5_become_32 : decode cX5_become 32 = .ok (.aload_n 0, 1) := by decide +kernel
theorem dX5_become_33 : decode cX5_become 33 = .ok (.aload_n 1, 1) := by decide +kernel
theorem dX5_become_34 : decode cX5_become 34 = .ok (.getfield 22, 3) := by decide +kernel
theorem dX5_become_37 : decode cX5_become 37 = .ok (.aload_n 0, 1) := by decide +kernel
theorem dX5_become_38 : decode cX5_become 38 = .ok (.getfield 22, 3) := by decide +kernel
theorem dX5_become_41 : decode cX5_become 41 = .ok (.invokevirtual 38, 3) := by decide +kernel
theorem dX5_become_44 : decode cX5_become 44 = .ok (.aload_n 0, 1) := by decide +kernel
theorem dX5_become_45 : decode cX5_become 45 = .ok (.aload_n 1, 1) := by decide +kernel
theorem dX5_become_46 : decode cX5_become 46 = .ok (.getfield 25, 3) := by decide +kernel
theorem dX5_become_49 : decode cX5_become 49 = .ok (.aload_n 0, 1) := by decide +kernel
theorem dX5_become_50 : decode cX5_become 50 = .ok (.getfield 25, 3) := by decide +kernel
theorem dX5_become_53 : decode cX5_become 53 = .ok (.invokevirtual 38, 3) := by decide +kernel
theorem dX5_become_56 : decode cX5_become 56 = .ok (.return_, 1) := by decide +kernel
theorem dX5_lightNow_0 : decode cX5_lightNow 0 = .ok (.aload_n 0, 1) := by decide +kernel
theorem dX5_lightNow_1 : decode cX5_lightNow 1 = .ok (.getfield 34, 3) := by decide +kernel
theorem dX5_lightNow_4 : decode cX5_lightNow 4 = .ok (.sipush 720, 3) := by decide +kernel
theorem dX5_lightNow_7 : decode cX5_lightNow 7 = .ok (.if_icmp .ge 43, 3) := by decide +kernel
theorem dX5_lightNow_10 : decode cX5_lightNow 10 = .ok (.aload_n 0, 1) := by decide +kernel
theorem dX5_lightNow_11 : decode cX5_lightNow 11 = .ok (.getfield 3, 3) := by decide +kernel
theorem dX5_lightNow_14 : decode cX5_lightNow 14 = .ok (.getfield 42, 3) := by decide +kernel
theorem dX5_lightNow_17 : decode cX5_lightNow 17 = .ok (.aload_n 0, 1) := by decide +kernel
theorem dX5_lightNow_18 : decode cX5_lightNow 18 = .ok (.getfield 34, 3) := by decide +kernel
theorem dX5_lightNow_21 : decode cX5_lightNow 21 = .ok (.bipush 60, 2) := by decide +kernel
theorem dX5_lightNow_23 : decode cX5_lightNow 23 = .ok (.idiv, 1) := by decide +kernel
theorem dX5_lightNow_24 : decode cX5_lightNow 24 = .ok (.iaload, 1) := by decide +kernel
theorem dX5_lightNow_25 : decode cX5_lightNow 25 = .ok (.bipush 10, 2) := by decide +kernel
theorem dX5_lightNow_27 : decode cX5_lightNow 27 = .ok (.aload_n 0, 1) := by decide +kernel
theorem dX5_lightNow_28 : decode cX5_lightNow 28 = .ok (.getfield 3, 3) := by decide +kernel
theorem dX5_lightNow_31 : decode cX5_lightNow 31 = .ok (.getfield 45, 3) := by decide +kernel
theorem dX5_lightNow_34 : decode cX5_lightNow 34 = .ok (.aload_n 0, 1) := by decide +kernel
theorem dX5_lightNow_35 : decode cX5_lightNow 35 = .ok (.getfield 34, 3) := by decide +kernel
theorem dX5_lightNow_38 : decode cX5_lightNow 38 = .ok (.bipush 60, 2) := by decide +kernel
theorem dX5_lightNow_40 : decode cX5_lightNow 40 = .ok (.idiv, 1) := by decide +kernel
theorem dX5_lightNow_41 : decode cX5_lightNow 41 = .ok (.iaload, 1) := by decide +kernel
theorem dX5_lightNow_42 : decode cX5_lightNow 42 = .ok (.isub, 1) := by decide +kernel
theorem dX5_lightNow_43 : decode cX5_lightNow 43 = .ok (.imul, 1) := by decide +kernel
theorem dX5_lightNow_44 : decode cX5_lightNow 44 = .ok (.bipush 10, 2) := by decide +kernel
theorem dX5_lightNow_46 : decode cX5_lightNow 46 = .ok (.idiv, 1) := by decide +kernel
theorem dX5_lightNow_47 : decode cX5_lightNow 47 = .ok (.goto 4, 3) := by decide +kernel
theorem dX5_lightNow_50 : decode cX5_lightNow 50 = .ok (.iconst 0, 1) := by decide +kernel
theorem dX5_lightNow_51 : decode cX5_lightNow 51 = .ok (.ireturn, 1) := by decide +kernel
theorem dX5_isShown_0 : decode cX5_isShown 0 = .ok (.aload_n 0, 1) := by decide +kernel
theorem dX5_isShown_1 : decode cX5_isShown 1 = .ok (.getfield 15, 3) := by decide +kernel
theorem dX5_isShown_4 : decode cX5_isShown 4 = .ok (.iload_n 2, 1) := by decide +kernel
theorem dX5_isShown_5 : decode cX5_isShown 5 = .ok (.iaload, 1) := by decide +kernel
theorem dX5_isShown_6 : decode cX5_isShown 6 = .ok (.iconst (-1), 1) := by decide +kernel
theorem dX5_isShown_7 : decode cX5_isShown 7 = .ok (.if_icmp .eq 40, 3) := by decide +kernel
theorem dX5_isShown_10 : decode cX5_isShown 10 = .ok (.aload_n 0, 1) := by decide +kernel
theorem dX5_isShown_11 : decode cX5_isShown 11 = .ok (.getfield 15, 3) := by decide +kernel
theorem dX5_isShown_14 : decode cX5_isShown 14 = .ok (.iload_n 2, 1) := by decide +kernel
theorem dX5_isShown_15 : decode cX5_isShown 15 = .ok (.iaload, 1) := by decide +kernel
theorem dX5_isShown_16 : decode cX5_isShown 16 = .ok (.aload_n 0, 1) := by decide +kernel
theorem dX5_isShown_17 : decode cX5_isShown 17 = .ok (.getfield 3, 3) := by decide +kernel
theorem dX5_isShown_20 : decode cX5_isShown 20 = .ok (.getfield 48, 3) := by decide +kernel
theorem dX5_isShown_23 : decode cX5_isShown 23 = .ok (.iload_n 1, 1) := by decide +kernel
theorem dX5_isShown_24 : decode cX5_isShown 24 = .ok (.iaload, 1) := by decide +kernel
theorem dX5_isShown_25 : decode cX5_isShown 25 = .ok (.isub, 1) := by decide +kernel
theorem dX5_isShown_26 : decode cX5_isShown 26 = .ok (.invokestatic 51, 3) := by decide +kernel
theorem dX5_isShown_29 : decode cX5_isShown 29 = .ok (.iconst 4, 1) := by decide +kernel
theorem dX5_isShown_30 : decode cX5_isShown 30 = .ok (.aload_n 0, 1) := by decide +kernel
theorem dX5_isShown_31 : decode cX5_isShown 31 = .ok (.getfield 3, 3) := by decide +kernel
theorem dX5_isShown_34 : decode cX5_isShown 34 = .ok (.getfield 57, 3) := by decide +kernel
theorem dX5_isShown_37 : decode cX5_isShown 37 = .ok (.iload_n 1, 1) := by decide +kernel
theorem dX5_isShown_38 : decode cX5_isShown 38 = .ok (.iaload, 1) := by decide +kernel
theorem dX5_isShown_39 : decode cX5_isShown 39 = .ok (.imul, 1) := by decide +kernel
theorem dX5_isShown_40 : decode cX5_isShown 40 = .ok (.if_icmp .gt 7, 3) := by decide +kernel
theorem dX5_isShown_43 : decode cX5_isShown 43 = .ok (.iconst 1, 1) := by decide +kernel
theorem dX5_isShown_44 : decode cX5_isShown 44 = .ok (.goto 4, 3) := by decide +kernel
theorem dX5_isShown_47 : decode cX5_isShown 47 = .ok (.iconst 0, 1) := by decide +kernel
theorem dX5_isShown_48 : decode cX5_isShown 48 = .ok (.ireturn, 1) := by decide +kernel
theorem dX5_brightness_0 : decode cX5_brightness 0 = .ok (.aload_n 0, 1) := by decide +kernel
theorem dX5_brightness_1 : decode cX5_brightness 1 = .ok (.invokevirtual 60, 3) := by decide +kernel
theorem dX5_brightness_4 : decode cX5_brightness 4 = .ok (.aload_n 0, 1) := by decide +kernel
theorem dX5_brightness_5 : decode cX5_brightness 5 = .ok (.getfield 3, 3) := by decide +kernel
theorem dX5_brightness_8 : decode cX5_brightness 8 = .ok (.getfield 64, 3) := by decide +kernel
theorem dX5_brightness_11 : decode cX5_brightness 11 = .ok (.iload_n 2, 1) := by decide +kernel
theorem dX5_brightness_12 : decode cX5_brightness 12 = .ok (.iaload, 1) := by decide +kernel
theorem dX5_brightness_13 : decode cX5_brightness 13 = .ok (.imul, 1) := by decide +kernel
theorem dX5_brightness_14 : decode cX5_brightness 14 = .ok (.aload_n 0, 1) := by decide +kernel
theorem dX5_brightness_15 : decode cX5_brightness 15 = .ok (.getfield 19, 3) := by decide +kernel
theorem dX5_brightness_18 : decode cX5_brightness 18 = .ok (.iload_n 1, 1) := by decide +kernel
theorem dX5_brightness_19 : decode cX5_brightness 19 = .ok (.iaload, 1) := by decide +kernel
theorem dX5_brightness_20 : decode cX5_brightness 20 = .ok (.imul, 1) := by decide +kernel
theorem dX5_brightness_21 : decode cX5_brightness 21 = .ok (.aload_n 0, 1) := by decide +kernel
theorem dX5_brightness_22 : decode cX5_brightness 22 = .ok (.getfield 19, 3) := by decide +kernel
theorem dX5_brightness_25 : decode cX5_brightness 25 = .ok (.iload_n 1, 1) := by decide +kernel
theorem dX5_brightness_26 : decode cX5_brightness 26 = .ok (.iaload, 1) := by decide +kernel
theorem dX5_brightness_27 : decode cX5_brightness 27 = .ok (.imul, 1) := by decide +kernel
theorem dX5_brightness_28 : decode cX5_brightness 28 = .ok (.bipush 10, 2) := by decide +kernel
theorem dX5_brightness_30 : decode cX5_brightness 30 = .ok (.aload_n 0, 1) := by decide +kernel
theorem dX5_brightness_31 : decode cX5_brightness 31 = .ok (.getfield 3, 3) := by decide +kernel
theorem dX5_brightness_34 : decode cX5_brightness 34 = .ok (.getfield 57, 3) := by decide +kernel
theorem dX5_brightness_37 : decode cX5_brightness 37 = .ok (.iload_n 1, 1) := by decide +kernel
theorem dX5_brightness_38 : decode cX5_brightness 38 = .ok (.iaload, 1) := by decide +kernel
theorem dX5_brightness_39 : decode cX5_brightness 39 = .ok (.imul, 1) := by decide +kernel
theorem dX5_brightness_40 : decode cX5_brightness 40 = .ok (.aload_n 0, 1) := by decide +kernel
theorem dX5_brightness_41 : decode cX5_brightness 41 = .ok (.getfield 3, 3) := by decide +kernel
theorem dX5_brightness_44 : decode cX5_brightness 44 = .ok (.getfield 57, 3) := by decide +kernel
theorem dX5_brightness_47 : decode cX5_brightness 47 = .ok (.iload_n 1, 1) := by decide +kernel
theorem dX5_brightness_48 : decode cX5_brightness 48 = .ok (.iaload, 1) := by decide +kernel
theorem dX5_brightness_49 : decode cX5_brightness 49 = .ok (.imul, 1) := by decide +kernel
theorem dX5_brightness_50 : decode cX5_brightness 50 = .ok (.idiv, 1) := by decide +kernel
theorem dX5_brightness_51 : decode cX5_brightness 51 = .ok (.istore_n 3, 1) := by decide +kernel
theorem dX5_brightness_52 : decode cX5_brightness 52 = .ok (.iload_n 3, 1) := by decide +kernel
theorem dX5_brightness_53 : decode cX5_brightness 53 = .ok (.bipush 10, 2) := by decide +kernel
theorem dX5_brightness_55 : decode cX5_brightness 55 = .ok (.aload_n 0, 1) := by decide +kernel
theorem dX5_brightness_56 : decode cX5_brightness 56 = .ok (.getfield 3, 3) := by decide +kernel
theorem dX5_brightness_59 : decode cX5_brightness 59 = .ok (.getfield 67, 3) := by decide +kernel
theorem dX5_brightness_62 : decode cX5_brightness 62 = .ok (.iload_n 1, 1) := by decide +kernel
theorem dX5_brightness_63 : decode cX5_brightness 63 = .ok (.iaload, 1) := by decide +kernel
theorem dX5_brightness_64 : decode cX5_brightness 64 = .ok (.isub, 1) := by decide +kernel
theorem dX5_brightness_65 : decode cX5_brightness 65 = .ok (.imul, 1) := by decide +kernel
theorem dX5_brightness_66 : decode cX5_brightness 66 = .ok (.bipush 10, 2) := by decide +kernel
theorem dX5_brightness_68 : decode cX5_brightness 68 = .ok (.idiv, 1) := by decide +kernel
theorem dX5_brightness_69 : decode cX5_brightness 69 = .ok (.ireturn, 1) := by decide +kernel
theorem dX5_isWell_0 : decode cX5_isWell 0 = .ok (.aload_n 0, 1) := by decide +kernel
theorem dX5_isWell_1 : decode cX5_isWell 1 = .ok (.iload_n 1, 1) := by decide +kernel
theorem dX5_isWell_2 : decode cX5_isWell 2 = .ok (.iload_n 2, 1) := by decide +kernel
theorem dX5_isWell_3 : decode cX5_isWell 3 = .ok (.invokevirtual 70, 3) := by decide +kernel
theorem dX5_isWell_6 : decode cX5_isWell 6 = .ok (.ifCond .eq 47, 3) := by decide +kernel
theorem dX5_isWell_9 : decode cX5_isWell 9 = .ok (.aload_n 0, 1) := by decide +kernel
theorem dX5_isWell_10 : decode cX5_isWell 10 = .ok (.iload_n 1, 1) := by decide +kernel
theorem dX5_isWell_11 : decode cX5_isWell 11 = .ok (.iload_n 2, 1) := by decide +kernel
theorem dX5_isWell_12 : decode cX5_isWell 12 = .ok (.invokevirtual 74, 3) := by decide +kernel
theorem dX5_isWell_15 : decode cX5_isWell 15 = .ok (.iconst 5, 1) := by decide +kernel
theorem dX5_isWell_16 : decode cX5_isWell 16 = .ok (.if_icmp .lt 37, 3) := by decide +kernel
theorem dX5_isWell_19 : decode cX5_isWell 19 = .ok (.aload_n 0, 1) := by decide +kernel
theorem dX5_isWell_20 : decode cX5_isWell 20 = .ok (.getfield 19, 3) := by decide +kernel
theorem dX5_isWell_23 : decode cX5_isWell 23 = .ok (.iload_n 1, 1) := by decide +kernel
theorem dX5_isWell_24 : decode cX5_isWell 24 = .ok (.iaload, 1) := by decide +kernel
theorem dX5_isWell_25 : decode cX5_isWell 25 = .ok (.aload_n 0, 1) := by decide +kernel
theorem dX5_isWell_26 : decode cX5_isWell 26 = .ok (.getfield 3, 3) := by decide +kernel
theorem dX5_isWell_29 : decode cX5_isWell 29 = .ok (.getfield 57, 3) := by decide +kernel
theorem dX5_isWell_32 : decode cX5_isWell 32 = .ok (.iload_n 1, 1) := by decide +kernel
theorem dX5_isWell_33 : decode cX5_isWell 33 = .ok (.iaload, 1) := by decide +kernel
theorem dX5_isWell_34 : decode cX5_isWell 34 = .ok (.imul, 1) := by decide +kernel
theorem dX5_isWell_35 : decode cX5_isWell 35 = .ok (.iconst 3, 1) := by decide +kernel
theorem dX5_isWell_36 : decode cX5_isWell 36 = .ok (.idiv, 1) := by decide +kernel
theorem dX5_isWell_37 : decode cX5_isWell 37 = .ok (.aload_n 0, 1) := by decide +kernel
theorem dX5_isWell_38 : decode cX5_isWell 38 = .ok (.getfield 3, 3) := by decide +kernel
theorem dX5_isWell_41 : decode cX5_isWell 41 = .ok (.getfield 78, 3) := by decide +kernel
theorem dX5_isWell_44 : decode cX5_isWell 44 = .ok (.iload_n 2, 1) := by decide +kernel
theorem dX5_isWell_45 : decode cX5_isWell 45 = .ok (.iaload, 1) := by decide +kernel
theorem dX5_isWell_46 : decode cX5_isWell 46 = .ok (.if_icmp .gt 7, 3) := by decide +kernel
theorem dX5_isWell_49 : decode cX5_isWell 49 = .ok (.iconst 1, 1) := by decide +kernel
theorem dX5_isWell_50 : decode cX5_isWell 50 = .ok (.goto 4, 3) := by decide +kernel
theorem dX5_isWell_53 : decode cX5_isWell 53 = .ok (.iconst 0, 1) := by decide +kernel
theorem dX5_isWell_54 : decode cX5_isWell 54 = .ok (.ireturn, 1) := by decide +kernel
theorem dX5_show_0 : decode cX5_show 0 = .ok (.iconst 0, 1) := by decide +kernel
theorem dX5_show_1 : decode cX5_show 1 = .ok (.istore_n 2, 1) := by decide +kernel
theorem dX5_show_2 : decode cX5_show 2 = .ok (.iconst 0, 1) := by decide +kernel
theorem dX5_show_3 : decode cX5_show 3 = .ok (.istore_n 3, 1) := by decide +kernel
theorem dX5_show_4 : decode cX5_show 4 = .ok (.iload_n 3, 1) := by decide +kernel
theorem dX5_show_5 : decode cX5_show 5 = .ok (.aload_n 0, 1) := by decide +kernel
theorem dX5_show_6 : decode cX5_show 6 = .ok (.getfield 3, 3) := by decide +kernel
theorem dX5_show_9 : decode cX5_show 9 = .ok (.getfield 81, 3) := by decide +kernel
theorem dX5_show_12 : decode cX5_show 12 = .ok (.if_icmp .ge 26, 3) := by decide +kernel
theorem dX5_show_15 : decode cX5_show 15 = .ok (.iload_n 2, 1) := by decide +kernel
theorem dX5_show_16 : decode cX5_show 16 = .ok (.aload_n 0, 1) := by decide +kernel
theorem dX5_show_17 : decode cX5_show 17 = .ok (.iload_n 1, 1) := by decide +kernel
theorem dX5_show_18 : decode cX5_show 18 = .ok (.iload_n 3, 1) := by decide +kernel
theorem dX5_show_19 : decode cX5_show 19 = .ok (.invokevirtual 84, 3) := by decide +kernel
theorem dX5_show_22 : decode cX5_show 22 = .ok (.ifCond .eq 7, 3) := by decide +kernel
theorem dX5_show_25 : decode cX5_show 25 = .ok (.iconst 1, 1) := by decide +kernel
theorem dX5_show_26 : decode cX5_show 26 = .ok (.goto 4, 3) := by decide +kernel
theorem dX5_show_29 : decode cX5_show 29 = .ok (.iconst 0, 1) := by decide +kernel
theorem dX5_show_30 : decode cX5_show 30 = .ok (.iadd, 1) := by decide +kernel
theorem dX5_show_31 : decode cX5_show 31 = .ok (.istore_n 2, 1) := by decide +kernel
theorem dX5_show_32 : decode cX5_show 32 = .ok (.iinc 3 1, 3) := by decide +kernel
theorem dX5_show_35 : decode cX5_show 35 = .ok (.goto (-31), 3) := by decide +kernel
theorem dX5_show_38 : decode cX5_show 38 = .ok (.iload_n 2, 1) := by decide +kernel
theorem dX5_show_39 : decode cX5_show 39 = .ok (.ireturn, 1) := by decide +kernel
theorem dX5_go_0 : decode cX5_go 0 = .ok (.aload_n 0, 1) := by decide +kernel
theorem dX5_go_1 : decode cX5_go 1 = .ok (.getfield 34, 3) := by decide +kernel
theorem dX5_go_4 : decode cX5_go 4 = .ok (.sipush 720, 3) := by decide +kernel
theorem dX5_go_7 : decode cX5_go 7 = .ok (.if_icmp .ne 4, 3) := by decide +kernel
theorem dX5_go_10 : decode cX5_go 10 = .ok (.return_, 1) := by decide +kernel
theorem dX5_go_11 : decode cX5_go 11 = .ok (.iconst 0, 1) := by decide +kernel
theorem dX5_go_12 : decode cX5_go 12 = .ok (.istore_n 1, 1) := by decide +kernel
theorem dX5_go_13 : decode cX5_go 13 = .ok (.iload_n 1, 1) := by decide +kernel
theorem dX5_go_14 : decode cX5_go 14 = .ok (.aload_n 0, 1) := by decide +kernel
theorem dX5_go_15 : decode cX5_go 15 = .ok (.getfield 3, 3) := by decide +kernel
theorem dX5_go_18 : decode cX5_go 18 = .ok (.getfield 81, 3) := by decide +kernel
theorem dX5_go_21 : decode cX5_go 21 = .ok (.if_icmp .ge 60, 3) := by decide +kernel
theorem dX5_go_24 : decode cX5_go 24 = .ok (.aload_n 0, 1) := by decide +kernel
theorem dX5_go_25 : decode cX5_go 25 = .ok (.getfield 15, 3) := by decide +kernel
theorem dX5_go_28 : decode cX5_go 28 = .ok (.iload_n 1, 1) := by decide +kernel
theorem dX5_go_29 : decode cX5_go 29 = .ok (.iaload, 1) := by decide +kernel
theorem dX5_go_30 : decode cX5_go 30 = .ok (.iconst (-1), 1) := by decide +kernel
theorem dX5_go_31 : decode cX5_go 31 = .ok (.if_icmp .ne 6, 3) := by decide +kernel
theorem dX5_go_34 : decode cX5_go 34 = .ok (.goto 41, 3) := by decide +kernel
theorem dX5_go_37 : decode cX5_go 37 = .ok (.aload_n 0, 1) := by decide +kernel
theorem dX5_go_38 : decode cX5_go 38 = .ok (.getfield 15, 3) := by decide +kernel
theorem dX5_go_41 : decode cX5_go 41 = .ok (.iload_n 1, 1) := by decide +kernel
theorem dX5_go_42 : decode cX5_go 42 = .ok (.iaload, 1) := by decide +kernel
theorem dX5_go_43 : decode cX5_go 43 = .ok (.aload_n 0, 1) := by decide +kernel
theorem dX5_go_44 : decode cX5_go 44 = .ok (.getfield 3, 3) := by decide +kernel
theorem dX5_go_47 : decode cX5_go 47 = .ok (.getfield 87, 3) := by decide +kernel
theorem dX5_go_50 : decode cX5_go 50 = .ok (.iload_n 1, 1) := by decide +kernel
theorem dX5_go_51 : decode cX5_go 51 = .ok (.iaload, 1) := by decide +kernel
theorem dX5_go_52 : decode cX5_go 52 = .ok (.iadd, 1) := by decide +kernel
theorem dX5_go_53 : decode cX5_go 53 = .ok (.istore_n 2, 1) := by decide +kernel
theorem dX5_go_54 : decode cX5_go 54 = .ok (.aload_n 0, 1) := by decide +kernel
theorem dX5_go_55 : decode cX5_go 55 = .ok (.getfield 15, 3) := by decide +kernel
theorem dX5_go_58 : decode cX5_go 58 = .ok (.iload_n 1, 1) := by decide +kernel
theorem dX5_go_59 : decode cX5_go 59 = .ok (.iload_n 2, 1) := by decide +kernel
theorem dX5_go_60 : decode cX5_go 60 = .ok (.iconst 0, 1) := by decide +kernel
theorem dX5_go_61 : decode cX5_go 61 = .ok (.bipush 59, 2) := by decide +kernel
theorem dX5_go_63 : decode cX5_go 63 = .ok (.invokestatic 90, 3) := by decide +kernel
theorem dX5_go_66 : decode cX5_go 66 = .ok (.ifCond .eq 7, 3) := by decide +kernel
theorem dX5_go_69 : decode cX5_go 69 = .ok (.iload_n 2, 1) := by decide +kernel
theorem dX5_go_70 : decode cX5_go 70 = .ok (.goto 4, 3) := by decide +kernel
theorem dX5_go_73 : decode cX5_go 73 = .ok (.iconst (-1), 1) := by decide +kernel
theorem dX5_go_74 : decode cX5_go 74 = .ok (.iastore, 1) := by decide +kernel
theorem dX5_go_75 : decode cX5_go 75 = .ok (.iinc 1 1, 3) := by decide +kernel
theorem dX5_go_78 : decode cX5_go 78 = .ok (.goto (-65), 3) := by decide +kernel
theorem dX5_go_81 : decode cX5_go 81 = .ok (.iconst 0, 1) := by decide +kernel
theorem dX5_go_82 : decode cX5_go 82 = .ok (.istore_n 1, 1) := by decide +kernel
theorem dX5_go_83 : decode cX5_go 83 = .ok (.iload_n 1, 1) := by decide +kernel
theorem dX5_go_84 : decode cX5_go 84 = .ok (.aload_n 0, 1) := by decide +kernel
theorem dX5_go_85 : decode cX5_go 85 = .ok (.getfield 3, 3) := by decide +kernel
theorem dX5_go_88 : decode cX5_go 88 = .ok (.getfield 94, 3) := by decide +kernel
theorem dX5_go_91 : decode cX5_go 91 = .ok (.if_icmp .ge 94, 3) := by decide +kernel
theorem dX5_go_94 : decode cX5_go 94 = .ok (.aload_n 0, 1) := by decide +kernel
theorem dX5_go_95 : decode cX5_go 95 = .ok (.iload_n 1, 1) := by decide +kernel
theorem dX5_go_96 : decode cX5_go 96 = .ok (.invokevirtual 97, 3) := by decide +kernel
theorem dX5_go_99 : decode cX5_go 99 = .ok (.istore_n 2, 1) := by decide +kernel
theorem dX5_go_100 : decode cX5_go 100 = .ok (.iload_n 2, 1) := by decide +kernel
theorem dX5_go_101 : decode cX5_go 101 = .ok (.ifCond .ne 24, 3) := by decide +kernel
theorem dX5_go_104 : decode cX5_go 104 = .ok (.aload_n 0, 1) := by decide +kernel
theorem dX5_go_105 : decode cX5_go 105 = .ok (.getfield 22, 3) := by decide +kernel
theorem dX5_go_108 : decode cX5_go 108 = .ok (.iload_n 1, 1) := by decide +kernel
theorem dX5_go_109 : decode cX5_go 109 = .ok (.iconst 0, 1) := by decide +kernel
theorem dX5_go_110 : decode cX5_go 110 = .ok (.aload_n 0, 1) := by decide +kernel
theorem dX5_go_111 : decode cX5_go 111 = .ok (.getfield 22, 3) := by decide +kernel
theorem dX5_go_114 : decode cX5_go 114 = .ok (.iload_n 1, 1) := by decide +kernel
theorem dX5_go_115 : decode cX5_go 115 = .ok (.iaload, 1) := by decide +kernel
theorem dX5_go_116 : decode cX5_go 116 = .ok (.iconst 1, 1) := by decide +kernel
theorem dX5_go_117 : decode cX5_go 117 = .ok (.isub, 1) := by decide +kernel
theorem dX5_go_118 : decode cX5_go 118 = .ok (.invokestatic 100, 3) := by decide +kernel
theorem dX5_go_121 : decode cX5_go 121 = .ok (.iastore, 1) := by decide +kernel
theorem dX5_go_122 : decode cX5_go 122 = .ok (.goto 24, 3) := by decide +kernel
theorem dX5_go_125 : decode cX5_go 125 = .ok (.aload_n 0, 1) := by decide +kernel
theorem dX5_go_126 : decode cX5_go 126 = .ok (.getfield 25, 3) := by decide +kernel
theorem dX5_go_129 : decode cX5_go 129 = .ok (.iload_n 1, 1) := by decide +kernel
theorem dX5_go_130 : decode cX5_go 130 = .ok (.dup2, 1) := by decide +kernel
theorem dX5_go_131 : decode cX5_go 131 = .ok (.iaload, 1) := by decide +kernel
theorem dX5_go_132 : decode cX5_go 132 = .ok (.aload_n 0, 1) := by decide +kernel
theorem dX5_go_133 : decode cX5_go 133 = .ok (.getfield 22, 3) := by decide +kernel
theorem dX5_go_136 : decode cX5_go 136 = .ok (.iload_n 1, 1) := by decide +kernel
theorem dX5_go_137 : decode cX5_go 137 = .ok (.iaload, 1) := by decide +kernel
theorem dX5_go_138 : decode cX5_go 138 = .ok (.iconst 2, 1) := by decide +kernel
theorem dX5_go_139 : decode cX5_go 139 = .ok (.iload_n 2, 1) := by decide +kernel
theorem dX5_go_140 : decode cX5_go 140 = .ok (.invokestatic 103, 3) := by decide +kernel
theorem dX5_go_143 : decode cX5_go 143 = .ok (.imul, 1) := by decide +kernel
theorem dX5_go_144 : decode cX5_go 144 = .ok (.iadd, 1) := by decide +kernel
theorem dX5_go_145 : decode cX5_go 145 = .ok (.iastore, 1) := by decide +kernel
theorem dX5_go_146 : decode cX5_go 146 = .ok (.iload_n 2, 1) := by decide +kernel
theorem dX5_go_147 : decode cX5_go 147 = .ok (.iconst 1, 1) := by decide +kernel
theorem dX5_go_148 : decode cX5_go 148 = .ok (.if_icmp .le 31, 3) := by decide +kernel
theorem dX5_go_151 : decode cX5_go 151 = .ok (.aload_n 0, 1) := by decide +kernel
theorem dX5_go_152 : decode cX5_go 152 = .ok (.getfield 22, 3) := by decide +kernel
theorem dX5_go_155 : decode cX5_go 155 = .ok (.iload_n 1, 1) := by decide +kernel
theorem dX5_go_156 : decode cX5_go 156 = .ok (.iaload, 1) := by decide +kernel
theorem dX5_go_157 : decode cX5_go 157 = .ok (.aload_n 0, 1) := by decide +kernel
theorem dX5_go_158 : decode cX5_go 158 = .ok (.getfield 3, 3) := by decide +kernel
theorem dX5_go_161 : decode cX5_go 161 = .ok (.getfield 106, 3) := by decide +kernel
theorem dX5_go_164 : decode cX5_go 164 = .ok (.iload_n 1, 1) := by decide +kernel
theorem dX5_go_165 : decode cX5_go 165 = .ok (.iaload, 1) := by decide +kernel
theorem dX5_go_166 : decode cX5_go 166 = .ok (.if_icmp .ge 13, 3) := by decide +kernel
theorem dX5_go_169 : decode cX5_go 169 = .ok (.aload_n 0, 1) := by decide +kernel
theorem dX5_go_170 : decode cX5_go 170 = .ok (.getfield 22, 3) := by decide +kernel
theorem dX5_go_173 : decode cX5_go 173 = .ok (.iload_n 1, 1) := by decide +kernel
theorem dX5_go_174 : decode cX5_go 174 = .ok (.dup2, 1) := by decide +kernel
theorem dX5_go_175 : decode cX5_go 175 = .ok (.iaload, 1) := by decide +kernel
theorem dX5_go_176 : decode cX5_go 176 = .ok (.iconst 1, 1) := by decide +kernel
theorem dX5_go_177 : decode cX5_go 177 = .ok (.iadd, 1) := by decide +kernel
theorem dX5_go_178 : decode cX5_go 178 = .ok (.iastore, 1) := by decide +kernel
theorem dX5_go_179 : decode cX5_go 179 = .ok (.iinc 1 1, 3) := by decide +kernel
theorem dX5_go_182 : decode cX5_go 182 = .ok (.goto (-99), 3) := by decide +kernel
theorem dX5_go_185 : decode cX5_go 185 = .ok (.aload_n 0, 1) := by decide +kernel
theorem dX5_go_186 : decode cX5_go 186 = .ok (.dup, 1) := by decide +kernel
theorem dX5_go_187 : decode cX5_go 187 = .ok (.getfield 34, 3) := by decide +kernel
theorem dX5_go_190 : decode cX5_go 190 = .ok (.iconst 1, 1) := by decide +kernel
theorem dX5_go_191 : decode cX5_go 191 = .ok (.iadd, 1) := by decide +kernel
theorem dX5_go_192 : decode cX5_go 192 = .ok (.putfield 34, 3) := by decide +kernel
theorem dX5_go_195 : decode cX5_go 195 = .ok (.return_, 1) := by decide +kernel
theorem dX5_go__0 : decode cX5_go_ 0 = .ok (.iconst 0, 1) := by decide +kernel
theorem dX5_go__1 : decode cX5_go_ 1 = .ok (.istore_n 2, 1) := by decide +kernel
theorem dX5_go__2 : decode cX5_go_ 2 = .ok (.iload_n 2, 1) := by decide +kernel
theorem dX5_go__3 : decode cX5_go_ 3 = .ok (.iload_n 1, 1) := by decide +kernel
theorem dX5_go__4 : decode cX5_go_ 4 = .ok (.if_icmp .ge 13, 3) := by decide +kernel
theorem dX5_go__7 : decode cX5_go_ 7 = .ok (.aload_n 0, 1) := by decide +kernel
theorem dX5_go__8 : decode cX5_go_ 8 = .ok (.invokevirtual 109, 3) := by decide +kernel
theorem dX5_go__11 : decode cX5_go_ 11 = .ok (.iinc 2 1, 3) := by decide +kernel
theorem dX5_go__14 : decode cX5_go_ 14 = .ok (.goto (-12), 3) := by decide +kernel
theorem dX5_go__17 : decode cX5_go_ 17 = .ok (.return_, 1) := by decide +kernel
theorem dX5_paidInAll_0 : decode cX5_paidInAll 0 = .ok (.iconst 0, 1) := by decide +kernel
theorem dX5_paidInAll_1 : decode cX5_paidInAll 1 = .ok (.istore_n 1, 1) := by decide +kernel
theorem dX5_paidInAll_2 : decode cX5_paidInAll 2 = .ok (.iconst 0, 1) := by decide +kernel
theorem dX5_paidInAll_3 : decode cX5_paidInAll 3 = .ok (.istore_n 2, 1) := by decide +kernel
theorem dX5_paidInAll_4 : decode cX5_paidInAll 4 = .ok (.iload_n 2, 1) := by decide +kernel
theorem dX5_paidInAll_5 : decode cX5_paidInAll 5 = .ok (.aload_n 0, 1) := by decide +kernel
theorem dX5_paidInAll_6 : decode cX5_paidInAll 6 = .ok (.getfield 3, 3) := by decide +kernel
theorem dX5_paidInAll_9 : decode cX5_paidInAll 9 = .ok (.getfield 94, 3) := by decide +kernel
theorem dX5_paidInAll_12 : decode cX5_paidInAll 12 = .ok (.if_icmp .ge 18, 3) := by decide +kernel
theorem dX5_paidInAll_15 : decode cX5_paidInAll 15 = .ok (.iload_n 1, 1) := by decide +kernel
theorem dX5_paidInAll_16 : decode cX5_paidInAll 16 = .ok (.aload_n 0, 1) := by decide +kernel
theorem dX5_paidInAll_17 : decode cX5_paidInAll 17 = .ok (.getfield 25, 3) := by decide +kernel
theorem dX5_paidInAll_20 : decode cX5_paidInAll 20 = .ok (.iload_n 2, 1) := by decide +kernel
theorem dX5_paidInAll_21 : decode cX5_paidInAll 21 = .ok (.iaload, 1) := by decide +kernel
theorem dX5_paidInAll_22 : decode cX5_paidInAll 22 = .ok (.iadd, 1) := by decide +kernel
theorem dX5_paidInAll_23 : decode cX5_paidInAll 23 = .ok (.istore_n 1, 1) := by decide +kernel
theorem dX5_paidInAll_24 : decode cX5_paidInAll 24 = .ok (.iinc 2 1, 3) := by decide +kernel
theorem dX5_paidInAll_27 : decode cX5_paidInAll 27 = .ok (.goto (-23), 3) := by decide +kernel
theorem dX5_paidInAll_30 : decode cX5_paidInAll 30 = .ok (.iload_n 1, 1) := by decide +kernel
theorem dX5_paidInAll_31 : decode cX5_paidInAll 31 = .ok (.ireturn, 1) := by decide +kernel
theorem dX5_inAll_0 : decode cX5_inAll 0 = .ok (.iconst 0, 1) := by decide +kernel
theorem dX5_inAll_1 : decode cX5_inAll 1 = .ok (.istore_n 1, 1) := by decide +kernel
theorem dX5_inAll_2 : decode cX5_inAll 2 = .ok (.iconst 0, 1) := by decide +kernel
theorem dX5_inAll_3 : decode cX5_inAll 3 = .ok (.istore_n 2, 1) := by decide +kernel
theorem dX5_inAll_4 : decode cX5_inAll 4 = .ok (.iload_n 2, 1) := by decide +kernel
theorem dX5_inAll_5 : decode cX5_inAll 5 = .ok (.aload_n 0, 1) := by decide +kernel
theorem dX5_inAll_6 : decode cX5_inAll 6 = .ok (.getfield 3, 3) := by decide +kernel
theorem dX5_inAll_9 : decode cX5_inAll 9 = .ok (.getfield 94, 3) := by decide +kernel
theorem dX5_inAll_12 : decode cX5_inAll 12 = .ok (.if_icmp .ge 18, 3) := by decide +kernel
theorem dX5_inAll_15 : decode cX5_inAll 15 = .ok (.iload_n 1, 1) := by decide +kernel
theorem dX5_inAll_16 : decode cX5_inAll 16 = .ok (.aload_n 0, 1) := by decide +kernel
theorem dX5_inAll_17 : decode cX5_inAll 17 = .ok (.getfield 22, 3) := by decide +kernel
theorem dX5_inAll_20 : decode cX5_inAll 20 = .ok (.iload_n 2, 1) := by decide +kernel
theorem dX5_inAll_21 : decode cX5_inAll 21 = .ok (.iaload, 1) := by decide +kernel
theorem dX5_inAll_22 : decode cX5_inAll 22 = .ok (.iadd, 1) := by decide +kernel
theorem dX5_inAll_23 : decode cX5_inAll 23 = .ok (.istore_n 1, 1) := by decide +kernel
theorem dX5_inAll_24 : decode cX5_inAll 24 = .ok (.iinc 2 1, 3) := by decide +kernel
theorem dX5_inAll_27 : decode cX5_inAll 27 = .ok (.goto (-23), 3) := by decide +kernel
theorem dX5_inAll_30 : decode cX5_inAll 30 = .ok (.iload_n 1, 1) := by decide +kernel
theorem dX5_inAll_31 : decode cX5_inAll 31 = .ok (.ireturn, 1) := by decide +kernel
theorem dX5_gone_0 : decode cX5_gone 0 = .ok (.iconst 0, 1) := by decide +kernel
theorem dX5_gone_1 : decode cX5_gone 1 = .ok (.istore_n 1, 1) := by decide +kernel
theorem dX5_gone_2 : decode cX5_gone 2 = .ok (.iconst 0, 1) := by decide +kernel
theorem dX5_gone_3 : decode cX5_gone 3 = .ok (.istore_n 2, 1) := by decide +kernel
theorem dX5_gone_4 : decode cX5_gone 4 = .ok (.iload_n 2, 1) := by decide +kernel
theorem dX5_gone_5 : decode cX5_gone 5 = .ok (.aload_n 0, 1) := by decide +kernel
theorem dX5_gone_6 : decode cX5_gone 6 = .ok (.getfield 3, 3) := by decide +kernel
theorem dX5_gone_9 : decode cX5_gone 9 = .ok (.getfield 81, 3) := by decide +kernel
theorem dX5_gone_12 : decode cX5_gone 12 = .ok (.if_icmp .ge 27, 3) := by decide +kernel
theorem dX5_gone_15 : decode cX5_gone 15 = .ok (.iload_n 1, 1) := by decide +kernel
theorem dX5_gone_16 : decode cX5_gone 16 = .ok (.aload_n 0, 1) := by decide +kernel
theorem dX5_gone_17 : decode cX5_gone 17 = .ok (.getfield 15, 3) := by decide +kernel
theorem dX5_gone_20 : decode cX5_gone 20 = .ok (.iload_n 2, 1) := by decide +kernel
theorem dX5_gone_21 : decode cX5_gone 21 = .ok (.iaload, 1) := by decide +kernel
theorem dX5_gone_22 : decode cX5_gone 22 = .ok (.iconst (-1), 1) := by decide +kernel
theorem dX5_gone_23 : decode cX5_gone 23 = .ok (.if_icmp .ne 7, 3) := by decide +kernel
theorem dX5_gone_26 : decode cX5_gone 26 = .ok (.iconst 1, 1) := by decide +kernel
theorem dX5_gone_27 : decode cX5_gone 27 = .ok (.goto 4, 3) := by decide +kernel
theorem dX5_gone_30 : decode cX5_gone 30 = .ok (.iconst 0, 1) := by decide +kernel
theorem dX5_gone_31 : decode cX5_gone 31 = .ok (.iadd, 1) := by decide +kernel
theorem dX5_gone_32 : decode cX5_gone 32 = .ok (.istore_n 1, 1) := by decide +kernel
theorem dX5_gone_33 : decode cX5_gone 33 = .ok (.iinc 2 1, 3) := by decide +kernel
theorem dX5_gone_36 : decode cX5_gone 36 = .ok (.goto (-32), 3) := by decide +kernel
theorem dX5_gone_39 : decode cX5_gone 39 = .ok (.iload_n 1, 1) := by decide +kernel
theorem dX5_gone_40 : decode cX5_gone 40 = .ok (.ireturn, 1) := by decide +kernel
theorem dX6_init_0 : decode cX6_init 0 = .ok (.aload_n 0, 1) := by decide +kernel
theorem dX6_init_1 : decode cX6_init 1 = .ok (.invokespecial 1, 3) := by decide +kernel
theorem dX6_init_4 : decode cX6_init 4 = .ok (.aload_n 0, 1) := by decide +kernel
theorem dX6_init_5 : decode cX6_init 5 = .ok (.bipush 12, 2) := by decide +kernel
theorem dX6_init_7 : decode cX6_init 7 = .ok (.newarray .int, 2) := by decide +kernel
theorem dX6_init_9 : decode cX6_init 9 = .ok (.putfield 9, 3) := by decide +kernel
theorem dX6_init_12 : decode cX6_init 12 = .ok (.aload_n 0, 1) := by decide +kernel
theorem dX6_init_13 : decode cX6_init 13 = .ok (.bipush 12, 2) := by decide +kernel
theorem dX6_init_15 : decode cX6_init 15 = .ok (.newarray .int, 2) := by decide +kernel
theorem dX6_init_17 : decode cX6_init 17 = .ok (.putfield 13, 3) := by decide +kernel
theorem dX6_init_20 : decode cX6_init 20 = .ok (.aload_n 0, 1) := by decide +kernel
theorem dX6_init_21 : decode cX6_init 21 = .ok (.bipush 10, 2) := by decide +kernel
theorem dX6_init_23 : decode cX6_init 23 = .ok (.newarray .int, 2) := by decide +kernel
theorem dX6_init_25 : decode cX6_init 25 = .ok (.putfield 16, 3) := by decide +kernel
theorem dX6_init_28 : decode cX6_init 28 = .ok (.aload_n 0, 1) := by decide +kernel
theorem dX6_init_29 : decode cX6_init 29 = .ok (.bipush 10, 2) := by decide +kernel
theorem dX6_init_31 : decode cX6_init 31 = .ok (.newarray .int, 2) := by decide +kernel
theorem dX6_init_33 : decode cX6_init 33 = .ok (.putfield 19, 3) := by decide +kernel
theorem dX6_init_36 : decode cX6_init 36 = .ok (.aload_n 0, 1) := by decide +kernel
theorem dX6_init_37 : decode cX6_init 37 = .ok (.bipush 10, 2) := by decide +kernel
theorem dX6_init_39 : decode cX6_init 39 = .ok (.newarray .int, 2) := by decide +kernel
theorem dX6_init_41 : decode cX6_init 41 = .ok (.putfield 22, 3) := by decide +kernel
theorem dX6_init_44 : decode cX6_init 44 = .ok (.aload_n 0, 1) := by decide +kernel
theorem dX6_init_45 : decode cX6_init 45 = .ok (.bipush 8, 2) := by decide +kernel
theorem dX6_init_47 : decode cX6_init 47 = .ok (.newarray .int, 2) := by decide +kernel
theorem dX6_init_49 : decode cX6_init 49 = .ok (.putfield 25, 3) := by decide +kernel
theorem dX6_init_52 : decode cX6_init 52 = .ok (.aload_n 0, 1) := by decide +kernel
theorem dX6_init_53 : decode cX6_init 53 = .ok (.bipush 8, 2) := by decide +kernel
theorem dX6_init_55 : decode cX6_init 55 = .ok (.newarray .int, 2) := by decide +kernel
theorem dX6_init_57 : decode cX6_init 57 = .ok (.putfield 28, 3) := by decide +kernel
theorem dX6_init_60 : decode cX6_init 60 = .ok (.aload_n 0, 1) := by decide +kernel
theorem dX6_init_61 : decode cX6_init 61 = .ok (.bipush 8, 2) := by decide +kernel
theorem dX6_init_63 : decode cX6_init 63 = .ok (.newarray .int, 2) := by decide +kernel
theorem dX6_init_65 : decode cX6_init 65 = .ok (.putfield 31, 3) := by decide +kernel
theorem dX6_init_68 : decode cX6_init 68 = .ok (.aload_n 0, 1) := by decide +kernel
theorem dX6_init_69 : decode cX6_init 69 = .ok (.bipush 8, 2) := by decide +kernel
theorem dX6_init_71 : decode cX6_init 71 = .ok (.newarray .int, 2) := by decide +kernel
theorem dX6_init_73 : decode cX6_init 73 = .ok (.putfield 34, 3) := by decide +kernel
theorem dX6_init_76 : decode cX6_init 76 = .ok (.aload_n 0, 1) := by decide +kernel
theorem dX6_init_77 : decode cX6_init 77 = .ok (.new 37, 3) := by decide +kernel
theorem dX6_init_80 : decode cX6_init 80 = .ok (.dup, 1) := by decide +kernel
theorem dX6_init_81 : decode cX6_init 81 = .ok (.aload_n 0, 1) := by decide +kernel
theorem dX6_init_82 : decode cX6_init 82 = .ok (.invokespecial 39, 3) := by decide +kernel
theorem dX6_init_85 : decode cX6_init 85 = .ok (.putfield 42, 3) := by decide +kernel
theorem dX6_init_88 : decode cX6_init 88 = .ok (.aload_n 0, 1) := by decide +kernel
theorem dX6_init_89 : decode cX6_init 89 = .ok (.new 37, 3) := by decide +kernel
theorem dX6_init_92 : decode cX6_init 92 = .ok (.dup, 1) := by decide +kernel
theorem dX6_init_93 : decode cX6_init 93 = .ok (.aload_n 0, 1) := by decide +kernel
theorem dX6_init_94 : decode cX6_init 94 = .ok (.invokespecial 39, 3) := by decide +kernel
theorem dX6_init_97 : decode cX6_init 97 = .ok (.putfield 46, 3) := by decide +kernel
theorem dX6_init_100 : decode cX6_init 100 = .ok (.iconst 0, 1) := by decide +kernel
theorem dX6_init_101 : decode cX6_init 101 = .ok (.istore_n 1, 1) := by decide +kernel
theorem dX6_init_102 : decode cX6_init 102 = .ok (.iload_n 1, 1) := by decide +kernel
theorem dX6_init_103 : decode cX6_init 103 = .ok (.bipush 12, 2) := by decide +kernel
theorem dX6_init_105 : decode cX6_init 105 = .ok (.if_icmp .ge 17, 3) := by decide +kernel
theorem dX6_init_108 : decode cX6_init 108 = .ok (.aload_n 0, 1) := by decide +kernel
theorem dX6_init_109 : decode cX6_init 109 = .ok (.getfield 9, 3) := by decide +kernel
theorem dX6_init_112 : decode cX6_init 112 = .ok (.iload_n 1, 1) := by decide +kernel
theorem dX6_init_113 : decode cX6_init 113 = .ok (.bipush 50, 2) := by decide +kernel
theorem dX6_init_115 : decode cX6_init 115 = .ok (.iastore, 1) := by decide +kernel
theorem dX6_init_116 : decode cX6_init 116 = .ok (.iinc 1 1, 3) := by decide +kernel
theorem dX6_init_119 : decode cX6_init 119 = .ok (.goto (-17), 3) := by decide +kernel
theorem dX6_init_122 : decode cX6_init 122 = .ok (.return_, 1) := by decide +kernel
theorem dX6_thrown_0 : decode cX6_thrown 0 = .ok (.aload_n 0, 1) := by decide +kernel
theorem dX6_thrown_1 : decode cX6_thrown 1 = .ok (.getfield 49, 3) := by decide +kernel
theorem dX6_thrown_4 : decode cX6_thrown 4 = .ok (.ireturn, 1) := by decide +kernel
theorem dX6_no_0 : decode cX6_no 0 = .ok (.aload_n 0, 1) := by decide +kernel
theorem dX6_no_1 : decode cX6_no 1 = .ok (.iload_n 1, 1) := by decide +kernel
theorem dX6_no_2 : decode cX6_no 2 = .ok (.putfield 49, 3) := by decide +kernel
theorem dX6_no_5 : decode cX6_no 5 = .ok (.iconst 0, 1) := by decide +kernel
theorem dX6_no_6 : decode cX6_no 6 = .ok (.ireturn, 1) := by decide +kernel
theorem dX6_isIn_0 : decode cX6_isIn 0 = .ok (.iload_n 0, 1) := by decide +kernel
theorem dX6_isIn_1 : decode cX6_isIn 1 = .ok (.iload_n 1, 1) := by decide +kernel
theorem dX6_isIn_2 : decode cX6_isIn 2 = .ok (.if_icmp .lt 12, 3) := by decide +kernel
theorem dX6_isIn_5 : decode cX6_isIn 5 = .ok (.iload_n 0, 1) := by decide +kernel
theorem dX6_isIn_6 : decode cX6_isIn 6 = .ok (.iload_n 2, 1) := by decide +kernel
theorem dX6_isIn_7 : decode cX6_isIn 7 = .ok (.if_icmp .gt 7, 3) := by decide +kernel
theorem dX6_isIn_10 : decode cX6_isIn 10 = .ok (.iconst 1, 1) := by decide +kernel
theorem dX6_isIn_11 : decode cX6_isIn 11 = .ok (.goto 4, 3) := by decide +kernel
theorem dX6_isIn_14 : decode cX6_isIn 14 = .ok (.iconst 0, 1) := by decide +kernel
theorem dX6_isIn_15 : decode cX6_isIn 15 = .ok (.ireturn, 1) := by decide +kernel
theorem dX6_isRoom_0 : decode cX6_isRoom 0 = .ok (.iload_n 1, 1) := by decide +kernel
theorem dX6_isRoom_1 : decode cX6_isRoom 1 = .ok (.iconst 0, 1) := by decide +kernel
theorem dX6_isRoom_2 : decode cX6_isRoom 2 = .ok (.aload_n 0, 1) := by decide +kernel
theorem dX6_isRoom_3 : decode cX6_isRoom 3 = .ok (.getfield 53, 3) := by decide +kernel
theorem dX6_isRoom_6 : decode cX6_isRoom 6 = .ok (.iconst 1, 1) := by decide +kernel
theorem dX6_isRoom_7 : decode cX6_isRoom 7 = .ok (.isub, 1) := by decide +kernel
theorem dX6_isRoom_8 : decode cX6_isRoom 8 = .ok (.invokestatic 56, 3) := by decide +kernel
theorem dX6_isRoom_11 : decode cX6_isRoom 11 = .ok (.ireturn, 1) := by decide +kernel
theorem dX6_isPasser_0 : decode cX6_isPasser 0 = .ok (.iload_n 1, 1) := by decide +kernel
theorem dX6_isPasser_1 : decode cX6_isPasser 1 = .ok (.iconst 0, 1) := by decide +kernel
theorem dX6_isPasser_2 : decode cX6_isPasser 2 = .ok (.aload_n 0, 1) := by decide +kernel
theorem dX6_isPasser_3 : decode cX6_isPasser 3 = .ok (.getfield 60, 3) := by decide +kernel
theorem dX6_isPasser_6 : decode cX6_isPasser 6 = .ok (.iconst 1, 1) := by decide +kernel
theorem dX6_isPasser_7 : decode cX6_isPasser 7 = .ok (.isub, 1) := by decide +kernel
theorem dX6_isPasser_8 : decode cX6_isPasser 8 = .ok (.invokestatic 56, 3) := by decide +kernel
theorem dX6_isPasser_11 : decode cX6_isPasser 11 = .ok (.ireturn, 1) := by decide +kernel
theorem dX6_pass_0 : decode cX6_pass 0 = .ok (.aload_n 0, 1) := by decide +kernel
theorem dX6_pass_1 : decode cX6_pass 1 = .ok (.iconst 0, 1) := by decide +kernel
theorem dX6_pass_2 : decode cX6_pass 2 = .ok (.putfield 49, 3) := by decide +kernel
theorem dX6_pass_5 : decode cX6_pass 5 = .ok (.iload_n 1, 1) := by decide +kernel
theorem dX6_pass_6 : decode cX6_pass 6 = .ok (.iconst 0, 1) := by decide +kernel
theorem dX6_pass_7 : decode cX6_pass 7 = .ok (.bipush 59, 2) := by decide +kernel
theorem dX6_pass_9 : decode cX6_pass 9 = .ok (.invokestatic 56, 3) := by decide +kernel
theorem dX6_pass_12 : decode cX6_pass 12 = .ok (.ifCond .eq 34, 3) := by decide +kernel
theorem dX6_pass_15 : decode cX6_pass 15 = .ok (.iload_n 2, 1) := by decide +kernel
theorem dX6_pass_16 : decode cX6_pass 16 = .ok (.bipush (-3), 2) := by decide +kernel
theorem dX6_pass_18 : decode cX6_pass 18 = .ok (.iconst 3, 1) := by decide +kernel
theorem dX6_pass_19 : decode cX6_pass 19 = .ok (.invokestatic 56, 3) := by decide +kernel
theorem dX6_pass_22 : decode cX6_pass 22 = .ok (.ifCond .eq 24, 3) := by decide +kernel
theorem dX6_pass_25 : decode cX6_pass 25 = .ok (.iload_n 3, 1) := by decide +kernel
theorem dX6_pass_26 : decode cX6_pass 26 = .ok (.iconst 1, 1) := by decide +kernel
theorem dX6_pass_27 : decode cX6_pass 27 = .ok (.bipush 9, 2) := by decide +kernel
theorem dX6_pass_29 : decode cX6_pass 29 = .ok (.invokestatic 56, 3) := by decide +kernel
theorem dX6_pass_32 : decode cX6_pass 32 = .ok (.ifCond .eq 14, 3) := by decide +kernel
theorem dX6_pass_35 : decode cX6_pass 35 = .ok (.iload 4, 2) := by decide +kernel
theorem dX6_pass_37 : decode cX6_pass 37 = .ok (.iconst 1, 1) := by decide +kernel
theorem dX6_pass_38 : decode cX6_pass 38 = .ok (.bipush 9, 2) := by decide +kernel
theorem dX6_pass_40 : decode cX6_pass 40 = .ok (.invokestatic 56, 3) := by decide +kernel
theorem dX6_pass_43 : decode cX6_pass 43 = .ok (.ifCond .ne 9, 3) := by decide +kernel
theorem dX6_pass_46 : decode cX6_pass 46 = .ok (.aload_n 0, 1) := by decide +kernel
theorem dX6_pass_47 : decode cX6_pass 47 = .ok (.iconst 1, 1) := by decide +kernel
theorem dX6_pass_48 : decode cX6_pass 48 = .ok (.invokevirtual 63, 3) := by decide +kernel
theorem dX6_pass_51 : decode cX6_pass 51 = .ok (.ireturn, 1) := by decide +kernel
theorem dX6_pass_52 : decode cX6_pass 52 = .ok (.aload_n 0, 1) := by decide +kernel
theorem dX6_pass_53 : decode cX6_pass 53 = .ok (.getfield 60, 3) := by decide +kernel
theorem dX6_pass_56 : decode cX6_pass 56 = .ok (.bipush 10, 2) := by decide +kernel
theorem dX6_pass_58 : decode cX6_pass 58 = .ok (.if_icmp .ne 9, 3) := by decide +kernel
theorem dX6_pass_61 : decode cX6_pass 61 = .ok (.aload_n 0, 1) := by decide +kernel
theorem dX6_pass_62 : decode cX6_pass 62 = .ok (.iconst 2, 1) := by decide +kernel
theorem dX6_pass_63 : decode cX6_pass 63 = .ok (.invokevirtual 63, 3) := by decide +kernel
theorem dX6_pass_66 : decode cX6_pass 66 = .ok (.ireturn, 1) := by decide +kernel
theorem dX6_pass_67 : decode cX6_pass 67 = .ok (.aload_n 0, 1) := by decide +kernel
theorem dX6_pass_68 : decode cX6_pass 68 = .ok (.getfield 42, 3) := by decide +kernel
theorem dX6_pass_71 : decode cX6_pass 71 = .ok (.getfield 67, 3) := by decide +kernel
theorem dX6_pass_74 : decode cX6_pass 74 = .ok (.aload_n 0, 1) := by decide +kernel
theorem dX6_pass_75 : decode cX6_pass 75 = .ok (.getfield 60, 3) := by decide +kernel
theorem dX6_pass_78 : decode cX6_pass 78 = .ok (.iload_n 1, 1) := by decide +kernel
theorem dX6_pass_79 : decode cX6_pass 79 = .ok (.iastore, 1) := by decide +kernel
theorem dX6_pass_80 : decode cX6_pass 80 = .ok (.aload_n 0, 1) := by decide +kernel
theorem dX6_pass_81 : decode cX6_pass 81 = .ok (.getfield 16, 3) := by decide +kernel
theorem dX6_pass_84 : decode cX6_pass 84 = .ok (.aload_n 0, 1) := by decide +kernel
theorem dX6_pass_85 : decode cX6_pass 85 = .ok (.getfield 60, 3) := by decide +kernel
theorem dX6_pass_88 : decode cX6_pass 88 = .ok (.iload_n 2, 1) := by decide +kernel
theorem dX6_pass_89 : decode cX6_pass 89 = .ok (.iastore, 1) := by decide +kernel
theorem dX6_pass_90 : decode cX6_pass 90 = .ok (.aload_n 0, 1) := by decide +kernel
theorem dX6_pass_91 : decode cX6_pass 91 = .ok (.getfield 19, 3) := by decide +kernel
theorem dX6_pass_94 : decode cX6_pass 94 = .ok (.aload_n 0, 1) := by decide +kernel
theorem dX6_pass_95 : decode cX6_pass 95 = .ok (.getfield 60, 3) := by decide +kernel
theorem dX6_pass_98 : decode cX6_pass 98 = .ok (.iload_n 3, 1) := by decide +kernel
theorem dX6_pass_99 : decode cX6_pass 99 = .ok (.iastore, 1) := by decide +kernel
theorem dX6_pass_100 : decode cX6_pass 100 = .ok (.aload_n 0, 1) := by decide +kernel
theorem dX6_pass_101 : decode cX6_pass 101 = .ok (.getfield 22, 3) := by decide +kernel
theorem dX6_pass_104 : decode cX6_pass 104 = .ok (.aload_n 0, 1) := by decide +kernel
theorem dX6_pass_105 : decode cX6_pass 105 = .ok (.getfield 60, 3) := by decide +kernel
theorem dX6_pass_108 : decode cX6_pass 108 = .ok (.iload 4, 2) := by decide +kernel
theorem dX6_pass_110 : decode cX6_pass 110 = .ok (.iastore, 1) := by decide +kernel
theorem dX6_pass_111 : decode cX6_pass 111 = .ok (.aload_n 0, 1) := by decide +kernel
theorem dX6_pass_112 : decode cX6_pass 112 = .ok (.dup, 1) := by decide +kernel
theorem dX6_pass_113 : decode cX6_pass 113 = .ok (.getfield 60, 3) := by decide +kernel
theorem dX6_pass_116 : decode cX6_pass 116 = .ok (.iconst 1, 1) := by decide +kernel
theorem dX6_pass_117 : decode cX6_pass 117 = .ok (.iadd, 1) := by decide +kernel
theorem dX6_pass_118 : decode cX6_pass 118 = .ok (.putfield 60, 3) := by decide +kernel
theorem dX6_pass_121 : decode cX6_pass 121 = .ok (.aload_n 0, 1) := by decide +kernel
theorem dX6_pass_122 : decode cX6_pass 122 = .ok (.getfield 60, 3) := by decide +kernel
theorem dX6_pass_125 : decode cX6_pass 125 = .ok (.iconst 1, 1) := by decide +kernel
theorem dX6_pass_126 : decode cX6_pass 126 = .ok (.isub, 1) := by decide +kernel
theorem dX6_pass_127 : decode cX6_pass 127 = .ok (.ireturn, 1) := by decide +kernel
theorem dX6_setLight_0 : decode cX6_setLight 0 = .ok (.aload_n 0, 1) := by decide +kernel
theorem dX6_setLight_1 : decode cX6_setLight 1 = .ok (.iconst 0, 1) := by decide +kernel
theorem dX6_setLight_2 : decode cX6_setLight 2 = .ok (.putfield 49, 3) := by decide +kernel
theorem dX6_setLight_5 : decode cX6_setLight 5 = .ok (.iload_n 1, 1) := by decide +kernel
theorem dX6_setLight_6 : decode cX6_setLight 6 = .ok (.iconst 0, 1) := by decide +kernel
theorem dX6_setLight_7 : decode cX6_setLight 7 = .ok (.bipush 11, 2) := by decide +kernel
theorem dX6_setLight_9 : decode cX6_setLight 9 = .ok (.invokestatic 56, 3) := by decide +kernel
theorem dX6_setLight_12 : decode cX6_setLight 12 = .ok (.ifCond .ne 9, 3) := by decide +kernel
theorem dX6_setLight_15 : decode cX6_setLight 15 = .ok (.aload_n 0, 1) := by decide +kernel
theorem dX6_setLight_16 : decode cX6_setLight 16 = .ok (.iconst 1, 1) := by decide +kernel
theorem dX6_setLight_17 : decode cX6_setLight 17 = .ok (.invokevirtual 63, 3) := by decide +kernel
theorem dX6_setLight_20 : decode cX6_setLight 20 = .ok (.ireturn, 1) := by decide +kernel
theorem dX6_setLight_21 : decode cX6_setLight 21 = .ok (.iload_n 2, 1) := by decide +kernel
theorem dX6_setLight_22 : decode cX6_setLight 22 = .ok (.iconst 0, 1) := by decide +kernel
theorem dX6_setLight_23 : decode cX6_setLight 23 = .ok (.bipush 100, 2) := by decide +kernel
theorem dX6_setLight_25 : decode cX6_setLight 25 = .ok (.invokestatic 56, 3) := by decide +kernel
theorem dX6_setLight_28 : decode cX6_setLight 28 = .ok (.ifCond .eq 13, 3) := by decide +kernel
theorem dX6_setLight_31 : decode cX6_setLight 31 = .ok (.iload_n 3, 1) := by decide +kernel
theorem dX6_setLight_32 : decode cX6_setLight 32 = .ok (.iconst 0, 1) := by decide +kernel
theorem dX6_setLight_33 : decode cX6_setLight 33 = .ok (.bipush 9, 2) := by decide +kernel
theorem dX6_setLight_35 : decode cX6_setLight 35 = .ok (.invokestatic 56, 3) := by decide +kernel
theorem dX6_setLight_38 : decode cX6_setLight 38 = .ok (.ifCond .ne 9, 3) := by decide +kernel
theorem dX6_setLight_41 : decode cX6_setLight 41 = .ok (.aload_n 0, 1) := by decide +kernel
theorem dX6_setLight_42 : decode cX6_setLight 42 = .ok (.iconst 2, 1) := by decide +kernel
theorem dX6_setLight_43 : decode cX6_setLight 43 = .ok (.invokevirtual 63, 3) := by decide +kernel
theorem dX6_setLight_46 : decode cX6_setLight 46 = .ok (.ireturn, 1) := by decide +kernel
theorem dX6_setLight_47 : decode cX6_setLight 47 = .ok (.bipush 10, 2) := by decide +kernel
theorem dX6_setLight_49 : decode cX6_setLight 49 = .ok (.aload_n 0, 1) := by decide +kernel
theorem dX6_setLight_50 : decode cX6_setLight 50 = .ok (.getfield 9, 3) := by decide +kernel
theorem dX6_setLight_53 : decode cX6_setLight 53 = .ok (.iload_n 1, 1) := by decide +kernel
theorem dX6_setLight_54 : decode cX6_setLight 54 = .ok (.iaload, 1) := by decide +kernel
theorem dX6_setLight_55 : decode cX6_setLight 55 = .ok (.imul, 1) := by decide +kernel
theorem dX6_setLight_56 : decode cX6_setLight 56 = .ok (.aload_n 0, 1) := by decide +kernel
theorem dX6_setLight_57 : decode cX6_setLight 57 = .ok (.getfield 13, 3) := by decide +kernel
theorem dX6_setLight_60 : decode cX6_setLight 60 = .ok (.iload_n 1, 1) := by decide +kernel
theorem dX6_setLight_61 : decode cX6_setLight 61 = .ok (.iaload, 1) := by decide +kernel
theorem dX6_setLight_62 : decode cX6_setLight 62 = .ok (.iadd, 1) := by decide +kernel
theorem dX6_setLight_63 : decode cX6_setLight 63 = .ok (.istore 4, 2) := by decide +kernel
theorem dX6_setLight_65 : decode cX6_setLight 65 = .ok (.aload_n 0, 1) := by decide +kernel
theorem dX6_setLight_66 : decode cX6_setLight 66 = .ok (.getfield 9, 3) := by decide +kernel
theorem dX6_setLight_69 : decode cX6_setLight 69 = .ok (.iload_n 1, 1) := by decide +kernel
theorem dX6_setLight_70 : decode cX6_setLight 70 = .ok (.iload_n 2, 1) := by decide +kernel
theorem dX6_setLight_71 : decode cX6_setLight 71 = .ok (.iastore, 1) := by decide +kernel
theorem dX6_setLight_72 : decode cX6_setLight 72 = .ok (.aload_n 0, 1) := by decide +kernel
theorem dX6_setLight_73 : decode cX6_setLight 73 = .ok (.getfield 13, 3) := by decide +kernel
theorem dX6_setLight_76 : decode cX6_setLight 76 = .ok (.iload_n 1, 1) := by decide +kernel
theorem dX6_setLight_77 : decode cX6_setLight 77 = .ok (.iload_n 3, 1) := by decide +kernel
theorem dX6_setLight_78 : decode cX6_setLight 78 = .ok (.iastore, 1) := by decide +kernel
theorem dX6_setLight_79 : decode cX6_setLight 79 = .ok (.iload 4, 2) := by decide +kernel
theorem dX6_setLight_81 : decode cX6_setLight 81 = .ok (.ireturn, 1) := by decide +kernel
theorem dX6_addRoom_0 : decode cX6_addRoom 0 = .ok (.aload_n 0, 1) := by decide +kernel
theorem dX6_addRoom_1 : decode cX6_addRoom 1 = .ok (.iconst 0, 1) := by decide +kernel
theorem dX6_addRoom_2 : decode cX6_addRoom 2 = .ok (.putfield 49, 3) := by decide +kernel
theorem dX6_addRoom_5 : decode cX6_addRoom 5 = .ok (.iload_n 1, 1) := by decide +kernel
theorem dX6_addRoom_6 : decode cX6_addRoom 6 = .ok (.iconst 0, 1) := by decide +kernel
theorem dX6_addRoom_7 : decode cX6_addRoom 7 = .ok (.bipush 59, 2) := by decide +kernel
theorem dX6_addRoom_9 : decode cX6_addRoom 9 = .ok (.invokestatic 56, 3) := by decide +kernel
theorem dX6_addRoom_12 : decode cX6_addRoom 12 = .ok (.ifCond .eq 23, 3) := by decide +kernel
theorem dX6_addRoom_15 : decode cX6_addRoom 15 = .ok (.iload_n 2, 1) := by decide +kernel
theorem dX6_addRoom_16 : decode cX6_addRoom 16 = .ok (.iconst 1, 1) := by decide +kernel
theorem dX6_addRoom_17 : decode cX6_addRoom 17 = .ok (.bipush 9, 2) := by decide +kernel
theorem dX6_addRoom_19 : decode cX6_addRoom 19 = .ok (.invokestatic 56, 3) := by decide +kernel
theorem dX6_addRoom_22 : decode cX6_addRoom 22 = .ok (.ifCond .eq 13, 3) := by decide +kernel
theorem dX6_addRoom_25 : decode cX6_addRoom 25 = .ok (.iload_n 3, 1) := by decide +kernel
theorem dX6_addRoom_26 : decode cX6_addRoom 26 = .ok (.iconst 0, 1) := by decide +kernel
theorem dX6_addRoom_27 : decode cX6_addRoom 27 = .ok (.bipush 20, 2) := by decide +kernel
theorem dX6_addRoom_29 : decode cX6_addRoom 29 = .ok (.invokestatic 56, 3) := by decide +kernel
theorem dX6_addRoom_32 : decode cX6_addRoom 32 = .ok (.ifCond .ne 9, 3) := by decide +kernel
theorem dX6_addRoom_35 : decode cX6_addRoom 35 = .ok (.aload_n 0, 1) := by decide +kernel
theorem dX6_addRoom_36 : decode cX6_addRoom 36 = .ok (.iconst 1, 1) := by decide +kernel
theorem dX6_addRoom_37 : decode cX6_addRoom 37 = .ok (.invokevirtual 63, 3) := by decide +kernel
theorem dX6_addRoom_40 : decode cX6_addRoom 40 = .ok (.ireturn, 1) := by decide +kernel
theorem dX6_addRoom_41 : decode cX6_addRoom 41 = .ok (.aload_n 0, 1) := by decide +kernel
theorem dX6_addRoom_42 : decode cX6_addRoom 42 = .ok (.getfield 53, 3) := by decide +kernel
theorem dX6_addRoom_45 : decode cX6_addRoom 45 = .ok (.bipush 8, 2) := by decide +kernel
theorem dX6_addRoom_47 : decode cX6_addRoom 47 = .ok (.if_icmp .ge 7, 3) := by decide +kernel
theorem dX6_addRoom_50 : decode cX6_addRoom 50 = .ok (.iconst 1, 1) := by decide +kernel
theorem dX6_addRoom_51 : decode cX6_addRoom 51 = .ok (.goto 4, 3) := by decide +kernel
theorem dX6_addRoom_54 : decode cX6_addRoom 54 = .ok (.iconst 0, 1) := by decide +kernel
theorem dX6_addRoom_55 : decode cX6_addRoom 55 = .ok (.istore 4, 2) := by decide +kernel
theorem dX6_addRoom_57 : decode cX6_addRoom 57 = .ok (.iconst 0, 1) := by decide +kernel
theorem dX6_addRoom_58 : decode cX6_addRoom 58 = .ok (.istore 5, 2) := by decide +kernel
theorem dX6_addRoom_60 : decode cX6_addRoom 60 = .ok (.iload 5, 2) := by decide +kernel
theorem dX6_addRoom_62 : decode cX6_addRoom 62 = .ok (.aload_n 0, 1) := by decide +kernel
theorem dX6_addRoom_63 : decode cX6_addRoom 63 = .ok (.getfield 53, 3) := by decide +kernel
theorem dX6_addRoom_66 : decode cX6_addRoom 66 = .ok (.if_icmp .ge 30, 3) := by decide +kernel
theorem dX6_addRoom_69 : decode cX6_addRoom 69 = .ok (.iload 4, 2) := by decide +kernel
theorem dX6_addRoom_71 : decode cX6_addRoom 71 = .ok (.aload_n 0, 1) := by decide +kernel
theorem dX6_addRoom_72 : decode cX6_addRoom 72 = .ok (.getfield 25, 3) := by decide +kernel
theorem dX6_addRoom_75 : decode cX6_addRoom 75 = .ok (.iload 5, 2) := by decide +kernel
theorem dX6_addRoom_77 : decode cX6_addRoom 77 = .ok (.iaload, 1) := by decide +kernel
theorem dX6_addRoom_78 : decode cX6_addRoom 78 = .ok (.iload_n 1, 1) := by decide +kernel
theorem dX6_addRoom_79 : decode cX6_addRoom 79 = .ok (.if_icmp .eq 7, 3) := by decide +kernel
theorem dX6_addRoom_82 : decode cX6_addRoom 82 = .ok (.iconst 1, 1) := by decide +kernel
theorem dX6_addRoom_83 : decode cX6_addRoom 83 = .ok (.goto 4, 3) := by decide +kernel
theorem dX6_addRoom_86 : decode cX6_addRoom 86 = .ok (.iconst 0, 1) := by decide +kernel
theorem dX6_addRoom_87 : decode cX6_addRoom 87 = .ok (.iand, 1) := by decide +kernel
theorem dX6_addRoom_88 : decode cX6_addRoom 88 = .ok (.istore 4, 2) := by decide +kernel
theorem dX6_addRoom_90 : decode cX6_addRoom 90 = .ok (.iinc 5 1, 3) := by decide +kernel
theorem dX6_addRoom_93 : decode cX6_addRoom 93 = .ok (.goto (-33), 3) := by decide +kernel
theorem dX6_addRoom_96 : decode cX6_addRoom 96 = .ok (.iload 4, 2) := by decide +kernel
theorem dX6_addRoom_98 : decode cX6_addRoom 98 = .ok (.ifCond .ne 9, 3) := by decide +kernel
theorem dX6_addRoom_101 : decode cX6_addRoom 101 = .ok (.aload_n 0, 1) := by decide +kernel
theorem dX6_addRoom_102 : decode cX6_addRoom 102 = .ok (.iconst 2, 1) := by decide +kernel
theorem dX6_addRoom_103 : decode cX6_addRoom 103 = .ok (.invokevirtual 63, 3) := by decide +kernel
theorem dX6_addRoom_106 : decode cX6_addRoom 106 = .ok (.ireturn, 1) := by decide +kernel
theorem dX6_addRoom_107 : decode cX6_addRoom 107 = .ok (.aload_n 0, 1) := by decide +kernel
theorem dX6_addRoom_108 : decode cX6_addRoom 108 = .ok (.getfield 25, 3) := by decide +kernel
theorem dX6_addRoom_111 : decode cX6_addRoom 111 = .ok (.aload_n 0, 1) := by decide +kernel
theorem dX6_addRoom_112 : decode cX6_addRoom 112 = .ok (.getfield 53, 3) := by decide +kernel
theorem dX6_addRoom_115 : decode cX6_addRoom 115 = .ok (.iload_n 1, 1) := by decide +kernel
theorem dX6_addRoom_116 : decode cX6_addRoom 116 = .ok (.iastore, 1) := by decide +kernel
theorem dX6_addRoom_117 : decode cX6_addRoom 117 = .ok (.aload_n 0, 1) := by decide +kernel
theorem dX6_addRoom_118 : decode cX6_addRoom 118 = .ok (.getfield 28, 3) := by decide +kernel
theorem dX6_addRoom_121 : decode cX6_addRoom 121 = .ok (.aload_n 0, 1) := by decide +kernel
theorem dX6_addRoom_122 : decode cX6_addRoom 122 = .ok (.getfield 53, 3) := by decide +kernel
theorem dX6_addRoom_125 : decode cX6_addRoom 125 = .ok (.iload_n 2, 1) := by decide +kernel
theorem dX6_addRoom_126 : decode cX6_addRoom 126 = .ok (.iastore, 1) := by decide +kernel
theorem dX6_addRoom_127 : decode cX6_addRoom 127 = .ok (.aload_n 0, 1) := by decide +kernel
theorem dX6_addRoom_128 : decode cX6_addRoom 128 = .ok (.getfield 34, 3) := by decide +kernel
theorem dX6_addRoom_131 : decode cX6_addRoom 131 = .ok (.aload_n 0, 1) := by decide +kernel
theorem dX6_addRoom_132 : decode cX6_addRoom 132 = .ok (.getfield 53, 3) := by decide +kernel
theorem dX6_addRoom_135 : decode cX6_addRoom 135 = .ok (.iload_n 3, 1) := by decide +kernel
theorem dX6_addRoom_136 : decode cX6_addRoom 136 = .ok (.iastore, 1) := by decide +kernel
theorem dX6_addRoom_137 : decode cX6_addRoom 137 = .ok (.aload_n 0, 1) := by decide +kernel
theorem dX6_addRoom_138 : decode cX6_addRoom 138 = .ok (.getfield 42, 3) := by decide +kernel
theorem dX6_addRoom_141 : decode cX6_addRoom 141 = .ok (.getfield 70, 3) := by decide +kernel
theorem dX6_addRoom_144 : decode cX6_addRoom 144 = .ok (.aload_n 0, 1) := by decide +kernel
theorem dX6_addRoom_145 : decode cX6_addRoom 145 = .ok (.getfield 53, 3) := by decide +kernel
theorem dX6_addRoom_148 : decode cX6_addRoom 148 = .ok (.iconst 3, 1) := by decide +kernel
theorem dX6_addRoom_149 : decode cX6_addRoom 149 = .ok (.iastore, 1) := by decide +kernel
theorem dX6_addRoom_150 : decode cX6_addRoom 150 = .ok (.aload_n 0, 1) := by decide +kernel
theorem dX6_addRoom_151 : decode cX6_addRoom 151 = .ok (.dup, 1) := by decide +kernel
theorem dX6_addRoom_152 : decode cX6_addRoom 152 = .ok (.getfield 53, 3) := by decide +kernel
theorem dX6_addRoom_155 : decode cX6_addRoom 155 = .ok (.iconst 1, 1) := by decide +kernel
theorem dX6_addRoom_156 : decode cX6_addRoom 156 = .ok (.iadd, 1) := by decide +kernel
theorem dX6_addRoom_157 : decode cX6_addRoom 157 = .ok (.putfield 53, 3) := by decide +kernel
theorem dX6_addRoom_160 : decode cX6_addRoom 160 = .ok (.aload_n 0, 1) := by decide +kernel
theorem dX6_addRoom_161 : decode cX6_addRoom 161 = .ok (.getfield 53, 3) := by decide +kernel
theorem dX6_addRoom_164 : decode cX6_addRoom 164 = .ok (.iconst 1, 1) := by decide +kernel
theorem dX6_addRoom_165 : decode cX6_addRoom 165 = .ok (.isub, 1) := by decide +kernel
theorem dX6_addRoom_166 : decode cX6_addRoom 166 = .ok (.ireturn, 1) := by decide +kernel
theorem dX6_bore_0 : decode cX6_bore 0 = .ok (.aload_n 0, 1) := by decide +kernel
theorem dX6_bore_1 : decode cX6_bore 1 = .ok (.iconst 0, 1) := by decide +kernel
theorem dX6_bore_2 : decode cX6_bore 2 = .ok (.putfield 49, 3) := by decide +kernel
theorem dX6_bore_5 : decode cX6_bore 5 = .ok (.aload_n 0, 1) := by decide +kernel
theorem dX6_bore_6 : decode cX6_bore 6 = .ok (.iload_n 1, 1) := by decide +kernel
theorem dX6_bore_7 : decode cX6_bore 7 = .ok (.invokevirtual 73, 3) := by decide +kernel
theorem dX6_bore_10 : decode cX6_bore 10 = .ok (.ifCond .ne 9, 3) := by decide +kernel
theorem dX6_bore_13 : decode cX6_bore 13 = .ok (.aload_n 0, 1) := by decide +kernel
theorem dX6_bore_14 : decode cX6_bore 14 = .ok (.iconst 1, 1) := by decide +kernel
theorem dX6_bore_15 : decode cX6_bore 15 = .ok (.invokevirtual 63, 3) := by decide +kernel
theorem dX6_bore_18 : decode cX6_bore 18 = .ok (.ireturn, 1) := by decide +kernel
theorem dX6_bore_19 : decode cX6_bore 19 = .ok (.iload_n 2, 1) := by decide +kernel
theorem dX6_bore_20 : decode cX6_bore 20 = .ok (.iconst 1, 1) := by decide +kernel
theorem dX6_bore_21 : decode cX6_bore 21 = .ok (.bipush 9, 2) := by decide +kernel
theorem dX6_bore_23 : decode cX6_bore 23 = .ok (.invokestatic 56, 3) := by decide +kernel
theorem dX6_bore_26 : decode cX6_bore 26 = .ok (.ifCond .ne 9, 3) := by decide +kernel
theorem dX6_bore_29 : decode cX6_bore 29 = .ok (.aload_n 0, 1) := by decide +kernel
theorem dX6_bore_30 : decode cX6_bore 30 = .ok (.iconst 2, 1) := by decide +kernel
theorem dX6_bore_31 : decode cX6_bore 31 = .ok (.invokevirtual 63, 3) := by decide +kernel
theorem dX6_bore_34 : decode cX6_bore 34 = .ok (.ireturn, 1) := by decide +kernel
theorem dX6_bore_35 : decode cX6_bore 35 = .ok (.aload_n 0, 1) := by decide +kernel
theorem dX6_bore_36 : decode cX6_bore 36 = .ok (.getfield 42, 3) := by decide +kernel
theorem dX6_bore_39 : decode cX6_bore 39 = .ok (.getfield 70, 3) := by decide +kernel
theorem dX6_bore_42 : decode cX6_bore 42 = .ok (.iload_n 1, 1) := by decide +kernel
theorem dX6_bore_43 : decode cX6_bore 43 = .ok (.iaload, 1) := by decide +kernel
theorem dX6_bore_44 : decode cX6_bore 44 = .ok (.istore_n 3, 1) := by decide +kernel
theorem dX6_bore_45 : decode cX6_bore 45 = .ok (.aload_n 0, 1) := by decide +kernel
theorem dX6_bore_46 : decode cX6_bore 46 = .ok (.getfield 42, 3) := by decide +kernel
theorem dX6_bore_49 : decode cX6_bore 49 = .ok (.getfield 70, 3) := by decide +kernel
theorem dX6_bore_52 : decode cX6_bore 52 = .ok (.iload_n 1, 1) := by decide +kernel
theorem dX6_bore_53 : decode cX6_bore 53 = .ok (.iload_n 2, 1) := by decide +kernel
theorem dX6_bore_54 : decode cX6_bore 54 = .ok (.iastore, 1) := by decide +kernel
theorem dX6_bore_55 : decode cX6_bore 55 = .ok (.iload_n 3, 1) := by decide +kernel
theorem dX6_bore_56 : decode cX6_bore 56 = .ok (.ireturn, 1) := by decide +kernel
theorem dX6_paint_0 : decode cX6_paint 0 = .ok (.aload_n 0, 1) := by decide +kernel
theorem dX6_paint_1 : decode cX6_paint 1 = .ok (.iconst 0, 1) := by decide +kernel
theorem dX6_paint_2 : decode cX6_paint 2 = .ok (.putfield 49, 3) := by decide +kernel
theorem dX6_paint_5 : decode cX6_paint 5 = .ok (.aload_n 0, 1) := by decide +kernel
theorem dX6_paint_6 : decode cX6_paint 6 = .ok (.iload_n 1, 1) := by decide +kernel
theorem dX6_paint_7 : decode cX6_paint 7 = .ok (.invokevirtual 73, 3) := by decide +kernel
theorem dX6_paint_10 : decode cX6_paint 10 = .ok (.ifCond .ne 9, 3) := by decide +kernel
theorem dX6_paint_13 : decode cX6_paint 13 = .ok (.aload_n 0, 1) := by decide +kernel
theorem dX6_paint_14 : decode cX6_paint 14 = .ok (.iconst 1, 1) := by decide +kernel
theorem dX6_paint_15 : decode cX6_paint 15 = .ok (.invokevirtual 63, 3) := by decide +kernel
theorem dX6_paint_18 : decode cX6_paint 18 = .ok (.ireturn, 1) := by decide +kernel
theorem dX6_paint_19 : decode cX6_paint 19 = .ok (.iload_n 2, 1) := by decide +kernel
theorem dX6_paint_20 : decode cX6_paint 20 = .ok (.iconst 0, 1) := by decide +kernel
theorem dX6_paint_21 : decode cX6_paint 21 = .ok (.bipush 9, 2) := by decide +kernel
theorem dX6_paint_23 : decode cX6_paint 23 = .ok (.invokestatic 56, 3) := by decide +kernel
theorem dX6_paint_26 : decode cX6_paint 26 = .ok (.ifCond .ne 9, 3) := by decide +kernel
theorem dX6_paint_29 : decode cX6_paint 29 = .ok (.aload_n 0, 1) := by decide +kernel
theorem dX6_paint_30 : decode cX6_paint 30 = .ok (.iconst 2, 1) := by decide +kernel
theorem dX6_paint_31 : decode cX6_paint 31 = .ok (.invokevirtual 63, 3) := by decide +kernel
theorem dX6_paint_34 : decode cX6_paint 34 = .ok (.ireturn, 1) := by decide +kernel
theorem dX6_paint_35 : decode cX6_paint 35 = .ok (.aload_n 0, 1) := by decide +kernel
theorem dX6_paint_36 : decode cX6_paint 36 = .ok (.getfield 31, 3) := by decide +kernel
theorem dX6_paint_39 : decode cX6_paint 39 = .ok (.iload_n 1, 1) := by decide +kernel
theorem dX6_paint_40 : decode cX6_paint 40 = .ok (.iaload, 1) := by decide +kernel
theorem dX6_paint_41 : decode cX6_paint 41 = .ok (.istore_n 3, 1) := by decide +kernel
theorem dX6_paint_42 : decode cX6_paint 42 = .ok (.aload_n 0, 1) := by decide +kernel
theorem dX6_paint_43 : decode cX6_paint 43 = .ok (.getfield 31, 3) := by decide +kernel
theorem dX6_paint_46 : decode cX6_paint 46 = .ok (.iload_n 1, 1) := by decide +kernel
theorem dX6_paint_47 : decode cX6_paint 47 = .ok (.iload_n 2, 1) := by decide +kernel
theorem dX6_paint_48 : decode cX6_paint 48 = .ok (.iastore, 1) := by decide +kernel
theorem dX6_paint_49 : decode cX6_paint 49 = .ok (.iload_n 3, 1) := by decide +kernel
theorem dX6_paint_50 : decode cX6_paint 50 = .ok (.ireturn, 1) := by decide +kernel
theorem dX6_seat_0 : decode cX6_seat 0 = .ok (.aload_n 0, 1) := by decide +kernel
theorem dX6_seat_1 : decode cX6_seat 1 = .ok (.iconst 0, 1) := by decide +kernel
theorem dX6_seat_2 : decode cX6_seat 2 = .ok (.putfield 49, 3) := by decide +kernel
theorem dX6_seat_5 : decode cX6_seat 5 = .ok (.aload_n 0, 1) := by decide +kernel
theorem dX6_seat_6 : decode cX6_seat 6 = .ok (.iload_n 1, 1) := by decide +kernel
theorem dX6_seat_7 : decode cX6_seat 7 = .ok (.invokevirtual 73, 3) := by decide +kernel
theorem dX6_seat_10 : decode cX6_seat 10 = .ok (.ifCond .ne 9, 3) := by decide +kernel
theorem dX6_seat_13 : decode cX6_seat 13 = .ok (.aload_n 0, 1) := by decide +kernel
theorem dX6_seat_14 : decode cX6_seat 14 = .ok (.iconst 1, 1) := by decide +kernel
theorem dX6_seat_15 : decode cX6_seat 15 = .ok (.invokevirtual 63, 3) := by decide +kernel
theorem dX6_seat_18 : decode cX6_seat 18 = .ok (.ireturn, 1) := by decide +kernel
theorem dX6_seat_19 : decode cX6_seat 19 = .ok (.iload_n 2, 1) := by decide +kernel
theorem dX6_seat_20 : decode cX6_seat 20 = .ok (.iconst 1, 1) := by decide +kernel
theorem dX6_seat_21 : decode cX6_seat 21 = .ok (.bipush 20, 2) := by decide +kernel
theorem dX6_seat_23 : decode cX6_seat 23 = .ok (.invokestatic 56, 3) := by decide +kernel
theorem dX6_seat_26 : decode cX6_seat 26 = .ok (.ifCond .ne 9, 3) := by decide +kernel
theorem dX6_seat_29 : decode cX6_seat 29 = .ok (.aload_n 0, 1) := by decide +kernel
theorem dX6_seat_30 : decode cX6_seat 30 = .ok (.iconst 2, 1) := by decide +kernel
theorem dX6_seat_31 : decode cX6_seat 31 = .ok (.invokevirtual 63, 3) := by decide +kernel
theorem dX6_seat_34 : decode cX6_seat 34 = .ok (.ireturn, 1) := by decide +kernel
theorem dX6_seat_35 : decode cX6_seat 35 = .ok (.aload_n 0, 1) := by decide +kernel
theorem dX6_seat_36 : decode cX6_seat 36 = .ok (.getfield 42, 3) := by decide +kernel
theorem dX6_seat_39 : decode cX6_seat 39 = .ok (.getfield 77, 3) := by decide +kernel
theorem dX6_seat_42 : decode cX6_seat 42 = .ok (.iload_n 1, 1) := by decide +kernel
theorem dX6_seat_43 : decode cX6_seat 43 = .ok (.iaload, 1) := by decide +kernel
theorem dX6_seat_44 : decode cX6_seat 44 = .ok (.iload_n 2, 1) := by decide +kernel
theorem dX6_seat_45 : decode cX6_seat 45 = .ok (.iadd, 1) := by decide +kernel
theorem dX6_seat_46 : decode cX6_seat 46 = .ok (.aload_n 0, 1) := by decide +kernel
theorem dX6_seat_47 : decode cX6_seat 47 = .ok (.getfield 34, 3) := by decide +kernel
theorem dX6_seat_50 : decode cX6_seat 50 = .ok (.iload_n 1, 1) := by decide +kernel
theorem dX6_seat_51 : decode cX6_seat 51 = .ok (.iaload, 1) := by decide +kernel
theorem dX6_seat_52 : decode cX6_seat 52 = .ok (.if_icmp .le 9, 3) := by decide +kernel
theorem dX6_seat_55 : decode cX6_seat 55 = .ok (.aload_n 0, 1) := by decide +kernel
theorem dX6_seat_56 : decode cX6_seat 56 = .ok (.iconst 3, 1) := by decide +kernel
theorem dX6_seat_57 : decode cX6_seat 57 = .ok (.invokevirtual 63, 3) := by decide +kernel
theorem dX6_seat_60 : decode cX6_seat 60 = .ok (.ireturn, 1) := by decide +kernel
theorem dX6_seat_61 : decode cX6_seat 61 = .ok (.aload_n 0, 1) := by decide +kernel
theorem dX6_seat_62 : decode cX6_seat 62 = .ok (.getfield 42, 3) := by decide +kernel
theorem dX6_seat_65 : decode cX6_seat 65 = .ok (.getfield 77, 3) := by decide +kernel
theorem dX6_seat_68 : decode cX6_seat 68 = .ok (.iload_n 1, 1) := by decide +kernel
theorem dX6_seat_69 : decode cX6_seat 69 = .ok (.dup2, 1) := by decide +kernel
theorem dX6_seat_70 : decode cX6_seat 70 = .ok (.iaload, 1) := by decide +kernel
theorem dX6_seat_71 : decode cX6_seat 71 = .ok (.iload_n 2, 1) := by decide +kernel
theorem dX6_seat_72 : decode cX6_seat 72 = .ok (.iadd, 1) := by decide +kernel
theorem dX6_seat_73 : decode cX6_seat 73 = .ok (.iastore, 1) := by decide +kernel
theorem dX6_seat_74 : decode cX6_seat 74 = .ok (.aload_n 0, 1) := by decide +kernel
theorem dX6_seat_75 : decode cX6_seat 75 = .ok (.getfield 42, 3) := by decide +kernel
theorem dX6_seat_78 : decode cX6_seat 78 = .ok (.getfield 77, 3) := by decide +kernel
theorem dX6_seat_81 : decode cX6_seat 81 = .ok (.iload_n 1, 1) := by decide +kernel
theorem dX6_seat_82 : decode cX6_seat 82 = .ok (.iaload, 1) := by decide +kernel
theorem dX6_seat_83 : decode cX6_seat 83 = .ok (.ireturn, 1) := by decide +kernel
theorem dX6_passerTold_0 : decode cX6_passerTold 0 = .ok (.iconst 0, 1) := by decide +kernel
theorem dX6_passerTold_1 : decode cX6_passerTold 1 = .ok (.istore_n 3, 1) := by decide +kernel
theorem dX6_passerTold_2 : decode cX6_passerTold 2 = .ok (.iconst 0, 1) := by decide +kernel
theorem dX6_passerTold_3 : decode cX6_passerTold 3 = .ok (.istore 4, 2) := by decide +kernel
theorem dX6_passerTold_5 : decode cX6_passerTold 5 = .ok (.iload 4, 2) := by decide +kernel
theorem dX6_passerTold_7 : decode cX6_passerTold 7 = .ok (.aload_n 0, 1) := by decide +kernel
theorem dX6_passerTold_8 : decode cX6_passerTold 8 = .ok (.getfield 53, 3) := by decide +kernel
theorem dX6_passerTold_11 : decode cX6_passerTold 11 = .ok (.if_icmp .ge 30, 3) := by decide +kernel
theorem dX6_passerTold_14 : decode cX6_passerTold 14 = .ok (.iload_n 3, 1) := by decide +kernel
theorem dX6_passerTold_15 : decode cX6_passerTold 15 = .ok (.aload_n 0, 1) := by decide +kernel
theorem dX6_passerTold_16 : decode cX6_passerTold 16 = .ok (.getfield 42, 3) := by decide +kernel
theorem dX6_passerTold_19 : decode cX6_passerTold 19 = .ok (.iload 4, 2) := by decide +kernel
theorem dX6_passerTold_21 : decode cX6_passerTold 21 = .ok (.iload_n 1, 1) := by decide +kernel
theorem dX6_passerTold_22 : decode cX6_passerTold 22 = .ok (.invokevirtual 80, 3) := by decide +kernel
theorem dX6_passerTold_25 : decode cX6_passerTold 25 = .ok (.ifCond .eq 7, 3) := by decide +kernel
theorem dX6_passerTold_28 : decode cX6_passerTold 28 = .ok (.iconst 1, 1) := by decide +kernel
theorem dX6_passerTold_29 : decode cX6_passerTold 29 = .ok (.goto 4, 3) := by decide +kernel
theorem dX6_passerTold_32 : decode cX6_passerTold 32 = .ok (.iconst 0, 1) := by decide +kernel
theorem dX6_passerTold_33 : decode cX6_passerTold 33 = .ok (.iadd, 1) := by decide +kernel
theorem dX6_passerTold_34 : decode cX6_passerTold 34 = .ok (.istore_n 3, 1) := by decide +kernel
theorem dX6_passerTold_35 : decode cX6_passerTold 35 = .ok (.iinc 4 1, 3) := by decide +kernel
theorem dX6_passerTold_38 : decode cX6_passerTold 38 = .ok (.goto (-33), 3) := by decide +kernel
theorem dX6_passerTold_41 : decode cX6_passerTold 41 = .ok (.iload_n 2, 1) := by decide +kernel
theorem dX6_passerTold_42 : decode cX6_passerTold 42 = .ok (.ifCond .ne 15, 3) := by decide +kernel
theorem dX6_passerTold_45 : decode cX6_passerTold 45 = .ok (.aload_n 0, 1) := by decide +kernel
theorem dX6_passerTold_46 : decode cX6_passerTold 46 = .ok (.getfield 42, 3) := by decide +kernel
theorem dX6_passerTold_49 : decode cX6_passerTold 49 = .ok (.getfield 67, 3) := by decide +kernel
theorem dX6_passerTold_52 : decode cX6_passerTold 52 = .ok (.iload_n 1, 1) := by decide +kernel
theorem dX6_passerTold_53 : decode cX6_passerTold 53 = .ok (.iaload, 1) := by decide +kernel
theorem dX6_passerTold_54 : decode cX6_passerTold 54 = .ok (.goto 46, 3) := by decide +kernel
theorem dX6_passerTold_57 : decode cX6_passerTold 57 = .ok (.iload_n 2, 1) := by decide +kernel
theorem dX6_passerTold_58 : decode cX6_passerTold 58 = .ok (.iconst 1, 1) := by decide +kernel
theorem dX6_passerTold_59 : decode cX6_passerTold 59 = .ok (.if_icmp .ne 12, 3) := by decide +kernel
theorem dX6_passerTold_62 : decode cX6_passerTold 62 = .ok (.aload_n 0, 1) := by decide +kernel
theorem dX6_passerTold_63 : decode cX6_passerTold 63 = .ok (.getfield 16, 3) := by decide +kernel
theorem dX6_passerTold_66 : decode cX6_passerTold 66 = .ok (.iload_n 1, 1) := by decide +kernel
theorem dX6_passerTold_67 : decode cX6_passerTold 67 = .ok (.iaload, 1) := by decide +kernel
theorem dX6_passerTold_68 : decode cX6_passerTold 68 = .ok (.goto 32, 3) := by decide +kernel
theorem dX6_passerTold_71 : decode cX6_passerTold 71 = .ok (.iload_n 2, 1) := by decide +kernel
theorem dX6_passerTold_72 : decode cX6_passerTold 72 = .ok (.iconst 2, 1) := by decide +kernel
theorem dX6_passerTold_73 : decode cX6_passerTold 73 = .ok (.if_icmp .ne 12, 3) := by decide +kernel
theorem dX6_passerTold_76 : decode cX6_passerTold 76 = .ok (.aload_n 0, 1) := by decide +kernel
theorem dX6_passerTold_77 : decode cX6_passerTold 77 = .ok (.getfield 19, 3) := by decide +kernel
theorem dX6_passerTold_80 : decode cX6_passerTold 80 = .ok (.iload_n 1, 1) := by decide +kernel
theorem dX6_passerTold_81 : decode cX6_passerTold 81 = .ok (.iaload, 1) := by decide +kernel
theorem dX6_passerTold_82 : decode cX6_passerTold 82 = .ok (.goto 18, 3) := by decide +kernel
theorem dX6_passerTold_85 : decode cX6_passerTold 85 = .ok (.iload_n 2, 1) := by decide +kernel
theorem dX6_passerTold_86 : decode cX6_passerTold 86 = .ok (.iconst 3, 1) := by decide +kernel
theorem dX6_passerTold_87 : decode cX6_passerTold 87 = .ok (.if_icmp .ne 12, 3) := by decide +kernel
theorem dX6_passerTold_90 : decode cX6_passerTold 90 = .ok (.aload_n 0, 1) := by decide +kernel
theorem dX6_passerTold_91 : decode cX6_passerTold 91 = .ok (.getfield 22, 3) := by decide +kernel
theorem dX6_passerTold_94 : decode cX6_passerTold 94 = .ok (.iload_n 1, 1) := by decide +kernel
theorem dX6_passerTold_95 : decode cX6_passerTold 95 = .ok (.iaload, 1) := by decide +kernel
theorem dX6_passerTold_96 : decode cX6_passerTold 96 = .ok (.goto 4, 3) := by decide +kernel
theorem dX6_passerTold_99 : decode cX6_passerTold 99 = .ok (.iload_n 3, 1) := by decide +kernel
theorem dX6_passerTold_100 : decode cX6_passerTold 100 = .ok (.ireturn, 1) := by decide +kernel
theorem dX6_passer_0 : decode cX6_passer 0 = .ok (.aload_n 0, 1) := by decide +kernel
theorem dX6_passer_1 : decode cX6_passer 1 = .ok (.iconst 0, 1) := by decide +kernel
theorem dX6_passer_2 : decode cX6_passer 2 = .ok (.putfield 49, 3) := by decide +kernel
theorem dX6_passer_5 : decode cX6_passer 5 = .ok (.aload_n 0, 1) := by decide +kernel
theorem dX6_passer_6 : decode cX6_passer 6 = .ok (.iload_n 1, 1) := by decide +kernel
theorem dX6_passer_7 : decode cX6_passer 7 = .ok (.invokevirtual 84, 3) := by decide +kernel
theorem dX6_passer_10 : decode cX6_passer 10 = .ok (.ifCond .eq 21, 3) := by decide +kernel
theorem dX6_passer_13 : decode cX6_passer 13 = .ok (.iload_n 2, 1) := by decide +kernel
theorem dX6_passer_14 : decode cX6_passer 14 = .ok (.iconst 0, 1) := by decide +kernel
theorem dX6_passer_15 : decode cX6_passer 15 = .ok (.iconst 4, 1) := by decide +kernel
theorem dX6_passer_16 : decode cX6_passer 16 = .ok (.invokestatic 56, 3) := by decide +kernel
theorem dX6_passer_19 : decode cX6_passer 19 = .ok (.ifCond .eq 12, 3) := by decide +kernel
theorem dX6_passer_22 : decode cX6_passer 22 = .ok (.aload_n 0, 1) := by decide +kernel
theorem dX6_passer_23 : decode cX6_passer 23 = .ok (.iload_n 1, 1) := by decide +kernel
theorem dX6_passer_24 : decode cX6_passer 24 = .ok (.iload_n 2, 1) := by decide +kernel
theorem dX6_passer_25 : decode cX6_passer 25 = .ok (.invokevirtual 87, 3) := by decide +kernel
theorem dX6_passer_28 : decode cX6_passer 28 = .ok (.goto 8, 3) := by decide +kernel
theorem dX6_passer_31 : decode cX6_passer 31 = .ok (.aload_n 0, 1) := by decide +kernel
theorem dX6_passer_32 : decode cX6_passer 32 = .ok (.iconst 1, 1) := by decide +kernel
theorem dX6_passer_33 : decode cX6_passer 33 = .ok (.invokevirtual 63, 3) := by decide +kernel
theorem dX6_passer_36 : decode cX6_passer 36 = .ok (.ireturn, 1) := by decide +kernel
theorem dX6_roomTold_0 : decode cX6_roomTold 0 = .ok (.iload_n 2, 1) := by decide +kernel
theorem dX6_roomTold_1 : decode cX6_roomTold 1 = .ok (.tableswitch 100 0 6 #[43, 50, 57, 67, 74, 81, 91], 43) := by decide +kernel
theorem dX6_roomTold_44 : decode cX6_roomTold 44 = .ok (.aload_n 0, 1) := by decide +kernel
theorem dX6_roomTold_45 : decode cX6_roomTold 45 = .ok (.getfield 25, 3) := by decide +kernel
theorem dX6_roomTold_48 : decode cX6_roomTold 48 = .ok (.iload_n 1, 1) := by decide +kernel
theorem dX6_roomTold_49 : decode cX6_roomTold 49 = .ok (.iaload, 1) := by decide +kernel
theorem dX6_roomTold_50 : decode cX6_roomTold 50 = .ok (.ireturn, 1) := by decide +kernel
theorem dX6_roomTold_51 : decode cX6_roomTold 51 = .ok (.aload_n 0, 1) := by decide +kernel
theorem dX6_roomTold_52 : decode cX6_roomTold 52 = .ok (.getfield 28, 3) := by decide +kernel
theorem dX6_roomTold_55 : decode cX6_roomTold 55 = .ok (.iload_n 1, 1) := by decide +kernel
theorem dX6_roomTold_56 : decode cX6_roomTold 56 = .ok (.iaload, 1) := by decide +kernel
theorem dX6_roomTold_57 : decode cX6_roomTold 57 = .ok (.ireturn, 1) := by decide +kernel
theorem dX6_roomTold_58 : decode cX6_roomTold 58 = .ok (.aload_n 0, 1) := by decide +kernel
theorem dX6_roomTold_59 : decode cX6_roomTold 59 = .ok (.getfield 42, 3) := by decide +kernel
theorem dX6_roomTold_62 : decode cX6_roomTold 62 = .ok (.getfield 70, 3) := by decide +kernel
theorem dX6_roomTold_65 : decode cX6_roomTold 65 = .ok (.iload_n 1, 1) := by decide +kernel
theorem dX6_roomTold_66 : decode cX6_roomTold 66 = .ok (.iaload, 1) := by decide +kernel
theorem dX6_roomTold_67 : decode cX6_roomTold 67 = .ok (.ireturn, 1) := by decide +kernel
theorem dX6_roomTold_68 : decode cX6_roomTold 68 = .ok (.aload_n 0, 1) := by decide +kernel
theorem dX6_roomTold_69 : decode cX6_roomTold 69 = .ok (.getfield 31, 3) := by decide +kernel
theorem dX6_roomTold_72 : decode cX6_roomTold 72 = .ok (.iload_n 1, 1) := by decide +kernel
theorem dX6_roomTold_73 : decode cX6_roomTold 73 = .ok (.iaload, 1) := by decide +kernel
theorem dX6_roomTold_74 : decode cX6_roomTold 74 = .ok (.ireturn, 1) := by decide +kernel
theorem dX6_roomTold_75 : decode cX6_roomTold 75 = .ok (.aload_n 0, 1) := by decide +kernel
theorem dX6_roomTold_76 : decode cX6_roomTold 76 = .ok (.getfield 34, 3) := by decide +kernel
theorem dX6_roomTold_79 : decode cX6_roomTold 79 = .ok (.iload_n 1, 1) := by decide +kernel
theorem dX6_roomTold_80 : decode cX6_roomTold 80 = .ok (.iaload, 1) := by decide +kernel
theorem dX6_roomTold_81 : decode cX6_roomTold 81 = .ok (.ireturn, 1) := by decide +kernel
theorem dX6_roomTold_82 : decode cX6_roomTold 82 = .ok (.aload_n 0, 1) := by decide +kernel
theorem dX6_roomTold_83 : decode cX6_roomTold 83 = .ok (.getfield 42, 3) := by decide +kernel
theorem dX6_roomTold_86 : decode cX6_roomTold 86 = .ok (.getfield 77, 3) := by decide +kernel
theorem dX6_roomTold_89 : decode cX6_roomTold 89 = .ok (.iload_n 1, 1) := by decide +kernel
theorem dX6_roomTold_90 : decode cX6_roomTold 90 = .ok (.iaload, 1) := by decide +kernel
theorem dX6_roomTold_91 : decode cX6_roomTold 91 = .ok (.ireturn, 1) := by decide +kernel
theorem dX6_roomTold_92 : decode cX6_roomTold 92 = .ok (.aload_n 0, 1) := by decide +kernel
theorem dX6_roomTold_93 : decode cX6_roomTold 93 = .ok (.getfield 42, 3) := by decide +kernel
theorem dX6_roomTold_96 : decode cX6_roomTold 96 = .ok (.iload_n 1, 1) := by decide +kernel
theorem dX6_roomTold_97 : decode cX6_roomTold 97 = .ok (.invokevirtual 91, 3) := by decide +kernel
theorem dX6_roomTold_100 : decode cX6_roomTold 100 = .ok (.ireturn, 1) := by decide +kernel
theorem dX6_roomTold_101 : decode cX6_roomTold 101 = .ok (.aload_n 0, 1) := by decide +kernel
theorem dX6_roomTold_102 : decode cX6_roomTold 102 = .ok (.getfield 42, 3) := by decide +kernel
theorem dX6_roomTold_105 : decode cX6_roomTold 105 = .ok (.getfield 94, 3) := by decide +kernel
theorem dX6_roomTold_108 : decode cX6_roomTold 108 = .ok (.iload_n 1, 1) := by decide +kernel
theorem dX6_roomTold_109 : decode cX6_roomTold 109 = .ok (.iaload, 1) := by decide +kernel
theorem dX6_roomTold_110 : decode cX6_roomTold 110 = .ok (.ireturn, 1) := by decide +kernel
theorem dX6_room_0 : decode cX6_room 0 = .ok (.aload_n 0, 1) := by decide +kernel
theorem dX6_room_1 : decode cX6_room 1 = .ok (.iconst 0, 1) := by decide +kernel
theorem dX6_room_2 : decode cX6_room 2 = .ok (.putfield 49, 3) := by decide +kernel
theorem dX6_room_5 : decode cX6_room 5 = .ok (.aload_n 0, 1) := by decide +kernel
theorem dX6_room_6 : decode cX6_room 6 = .ok (.iload_n 1, 1) := by decide +kernel
theorem dX6_room_7 : decode cX6_room 7 = .ok (.invokevirtual 73, 3) := by decide +kernel
theorem dX6_room_10 : decode cX6_room 10 = .ok (.ifCond .eq 22, 3) := by decide +kernel
theorem dX6_room_13 : decode cX6_room 13 = .ok (.iload_n 2, 1) := by decide +kernel
theorem dX6_room_14 : decode cX6_room 14 = .ok (.iconst 0, 1) := by decide +kernel
theorem dX6_room_15 : decode cX6_room 15 = .ok (.bipush 7, 2) := by decide +kernel
theorem dX6_room_17 : decode cX6_room 17 = .ok (.invokestatic 56, 3) := by decide +kernel
theorem dX6_room_20 : decode cX6_room 20 = .ok (.ifCond .eq 12, 3) := by decide +kernel
theorem dX6_room_23 : decode cX6_room 23 = .ok (.aload_n 0, 1) := by decide +kernel
theorem dX6_room_24 : decode cX6_room 24 = .ok (.iload_n 1, 1) := by decide +kernel
theorem dX6_room_25 : decode cX6_room 25 = .ok (.iload_n 2, 1) := by decide +kernel
theorem dX6_room_26 : decode cX6_room 26 = .ok (.invokevirtual 97, 3) := by decide +kernel
theorem dX6_room_29 : decode cX6_room 29 = .ok (.goto 8, 3) := by decide +kernel
theorem dX6_room_32 : decode cX6_room 32 = .ok (.aload_n 0, 1) := by decide +kernel
theorem dX6_room_33 : decode cX6_room 33 = .ok (.iconst 1, 1) := by decide +kernel
theorem dX6_room_34 : decode cX6_room 34 = .ok (.invokevirtual 63, 3) := by decide +kernel
theorem dX6_room_37 : decode cX6_room 37 = .ok (.ireturn, 1) := by decide +kernel
theorem dX6_wall_0 : decode cX6_wall 0 = .ok (.aload_n 0, 1) := by decide +kernel
theorem dX6_wall_1 : decode cX6_wall 1 = .ok (.iconst 0, 1) := by decide +kernel
theorem dX6_wall_2 : decode cX6_wall 2 = .ok (.putfield 49, 3) := by decide +kernel
theorem dX6_wall_5 : decode cX6_wall 5 = .ok (.aload_n 0, 1) := by decide +kernel
theorem dX6_wall_6 : decode cX6_wall 6 = .ok (.iload_n 1, 1) := by decide +kernel
theorem dX6_wall_7 : decode cX6_wall 7 = .ok (.invokevirtual 73, 3) := by decide +kernel
theorem dX6_wall_10 : decode cX6_wall 10 = .ok (.ifCond .eq 27, 3) := by decide +kernel
theorem dX6_wall_13 : decode cX6_wall 13 = .ok (.iload_n 2, 1) := by decide +kernel
theorem dX6_wall_14 : decode cX6_wall 14 = .ok (.bipush (-4), 2) := by decide +kernel
theorem dX6_wall_16 : decode cX6_wall 16 = .ok (.aload_n 0, 1) := by decide +kernel
theorem dX6_wall_17 : decode cX6_wall 17 = .ok (.getfield 28, 3) := by decide +kernel
theorem dX6_wall_20 : decode cX6_wall 20 = .ok (.iload_n 1, 1) := by decide +kernel
theorem dX6_wall_21 : decode cX6_wall 21 = .ok (.iaload, 1) := by decide +kernel
theorem dX6_wall_22 : decode cX6_wall 22 = .ok (.imul, 1) := by decide +kernel
theorem dX6_wall_23 : decode cX6_wall 23 = .ok (.iconst 4, 1) := by decide +kernel
theorem dX6_wall_24 : decode cX6_wall 24 = .ok (.aload_n 0, 1) := by decide +kernel
theorem dX6_wall_25 : decode cX6_wall 25 = .ok (.getfield 28, 3) := by decide +kernel
theorem dX6_wall_28 : decode cX6_wall 28 = .ok (.iload_n 1, 1) := by decide +kernel
theorem dX6_wall_29 : decode cX6_wall 29 = .ok (.iaload, 1) := by decide +kernel
theorem dX6_wall_30 : decode cX6_wall 30 = .ok (.imul, 1) := by decide +kernel
theorem dX6_wall_31 : decode cX6_wall 31 = .ok (.invokestatic 56, 3) := by decide +kernel
theorem dX6_wall_34 : decode cX6_wall 34 = .ok (.ifCond .ne 9, 3) := by decide +kernel
theorem dX6_wall_37 : decode cX6_wall 37 = .ok (.aload_n 0, 1) := by decide +kernel
theorem dX6_wall_38 : decode cX6_wall 38 = .ok (.iconst 1, 1) := by decide +kernel
theorem dX6_wall_39 : decode cX6_wall 39 = .ok (.invokevirtual 63, 3) := by decide +kernel
theorem dX6_wall_42 : decode cX6_wall 42 = .ok (.ireturn, 1) := by decide +kernel
theorem dX6_wall_43 : decode cX6_wall 43 = .ok (.iconst 0, 1) := by decide +kernel
theorem dX6_wall_44 : decode cX6_wall 44 = .ok (.istore_n 3, 1) := by decide +kernel
theorem dX6_wall_45 : decode cX6_wall 45 = .ok (.iconst 0, 1) := by decide +kernel
theorem dX6_wall_46 : decode cX6_wall 46 = .ok (.istore 4, 2) := by decide +kernel
theorem dX6_wall_48 : decode cX6_wall 48 = .ok (.iload 4, 2) := by decide +kernel
theorem dX6_wall_50 : decode cX6_wall 50 = .ok (.aload_n 0, 1) := by decide +kernel
theorem dX6_wall_51 : decode cX6_wall 51 = .ok (.getfield 60, 3) := by decide +kernel
theorem dX6_wall_54 : decode cX6_wall 54 = .ok (.if_icmp .ge 52, 3) := by decide +kernel
theorem dX6_wall_57 : decode cX6_wall 57 = .ok (.iload_n 3, 1) := by decide +kernel
theorem dX6_wall_58 : decode cX6_wall 58 = .ok (.aload_n 0, 1) := by decide +kernel
theorem dX6_wall_59 : decode cX6_wall 59 = .ok (.getfield 42, 3) := by decide +kernel
theorem dX6_wall_62 : decode cX6_wall 62 = .ok (.getfield 67, 3) := by decide +kernel
theorem dX6_wall_65 : decode cX6_wall 65 = .ok (.iload 4, 2) := by decide +kernel
theorem dX6_wall_67 : decode cX6_wall 67 = .ok (.iaload, 1) := by decide +kernel
theorem dX6_wall_68 : decode cX6_wall 68 = .ok (.iconst (-1), 1) := by decide +kernel
theorem dX6_wall_69 : decode cX6_wall 69 = .ok (.if_icmp .eq 28, 3) := by decide +kernel
theorem dX6_wall_72 : decode cX6_wall 72 = .ok (.aload_n 0, 1) := by decide +kernel
theorem dX6_wall_73 : decode cX6_wall 73 = .ok (.getfield 25, 3) := by decide +kernel
theorem dX6_wall_76 : decode cX6_wall 76 = .ok (.iload_n 1, 1) := by decide +kernel
theorem dX6_wall_77 : decode cX6_wall 77 = .ok (.iaload, 1) := by decide +kernel
theorem dX6_wall_78 : decode cX6_wall 78 = .ok (.aload_n 0, 1) := by decide +kernel
theorem dX6_wall_79 : decode cX6_wall 79 = .ok (.getfield 42, 3) := by decide +kernel
theorem dX6_wall_82 : decode cX6_wall 82 = .ok (.getfield 67, 3) := by decide +kernel
theorem dX6_wall_85 : decode cX6_wall 85 = .ok (.iload 4, 2) := by decide +kernel
theorem dX6_wall_87 : decode cX6_wall 87 = .ok (.iaload, 1) := by decide +kernel
theorem dX6_wall_88 : decode cX6_wall 88 = .ok (.isub, 1) := by decide +kernel
theorem dX6_wall_89 : decode cX6_wall 89 = .ok (.iload_n 2, 1) := by decide +kernel
theorem dX6_wall_90 : decode cX6_wall 90 = .ok (.if_icmp .ne 7, 3) := by decide +kernel
theorem dX6_wall_93 : decode cX6_wall 93 = .ok (.iconst 1, 1) := by decide +kernel
theorem dX6_wall_94 : decode cX6_wall 94 = .ok (.goto 4, 3) := by decide +kernel
theorem dX6_wall_97 : decode cX6_wall 97 = .ok (.iconst 0, 1) := by decide +kernel
theorem dX6_wall_98 : decode cX6_wall 98 = .ok (.iadd, 1) := by decide +kernel
theorem dX6_wall_99 : decode cX6_wall 99 = .ok (.istore_n 3, 1) := by decide +kernel
theorem dX6_wall_100 : decode cX6_wall 100 = .ok (.iinc 4 1, 3) := by decide +kernel
theorem dX6_wall_103 : decode cX6_wall 103 = .ok (.goto (-55), 3) := by decide +kernel
theorem dX6_wall_106 : decode cX6_wall 106 = .ok (.iload_n 3, 1) := by decide +kernel
theorem dX6_wall_107 : decode cX6_wall 107 = .ok (.ireturn, 1) := by decide +kernel
theorem dX6_bright_0 : decode cX6_bright 0 = .ok (.aload_n 0, 1) := by decide +kernel
theorem dX6_bright_1 : decode cX6_bright 1 = .ok (.iconst 0, 1) := by decide +kernel
theorem dX6_bright_2 : decode cX6_bright 2 = .ok (.putfield 49, 3) := by decide +kernel
theorem dX6_bright_5 : decode cX6_bright 5 = .ok (.aload_n 0, 1) := by decide +kernel
theorem dX6_bright_6 : decode cX6_bright 6 = .ok (.iload_n 1, 1) := by decide +kernel
theorem dX6_bright_7 : decode cX6_bright 7 = .ok (.invokevirtual 73, 3) := by decide +kernel
theorem dX6_bright_10 : decode cX6_bright 10 = .ok (.ifCond .eq 11, 3) := by decide +kernel
theorem dX6_bright_13 : decode cX6_bright 13 = .ok (.aload_n 0, 1) := by decide +kernel
theorem dX6_bright_14 : decode cX6_bright 14 = .ok (.iload_n 2, 1) := by decide +kernel
theorem dX6_bright_15 : decode cX6_bright 15 = .ok (.invokevirtual 84, 3) := by decide +kernel
theorem dX6_bright_18 : decode cX6_bright 18 = .ok (.ifCond .ne 9, 3) := by decide +kernel
theorem dX6_bright_21 : decode cX6_bright 21 = .ok (.aload_n 0, 1) := by decide +kernel
theorem dX6_bright_22 : decode cX6_bright 22 = .ok (.iconst 1, 1) := by decide +kernel
theorem dX6_bright_23 : decode cX6_bright 23 = .ok (.invokevirtual 63, 3) := by decide +kernel
theorem dX6_bright_26 : decode cX6_bright 26 = .ok (.ireturn, 1) := by decide +kernel
theorem dX6_bright_27 : decode cX6_bright 27 = .ok (.aload_n 0, 1) := by decide +kernel
theorem dX6_bright_28 : decode cX6_bright 28 = .ok (.getfield 42, 3) := by decide +kernel
theorem dX6_bright_31 : decode cX6_bright 31 = .ok (.iload_n 1, 1) := by decide +kernel
theorem dX6_bright_32 : decode cX6_bright 32 = .ok (.iload_n 2, 1) := by decide +kernel
theorem dX6_bright_33 : decode cX6_bright 33 = .ok (.invokevirtual 100, 3) := by decide +kernel
theorem dX6_bright_36 : decode cX6_bright 36 = .ok (.ifCond .eq 15, 3) := by decide +kernel
theorem dX6_bright_39 : decode cX6_bright 39 = .ok (.aload_n 0, 1) := by decide +kernel
theorem dX6_bright_40 : decode cX6_bright 40 = .ok (.getfield 42, 3) := by decide +kernel
theorem dX6_bright_43 : decode cX6_bright 43 = .ok (.iload_n 1, 1) := by decide +kernel
theorem dX6_bright_44 : decode cX6_bright 44 = .ok (.iload_n 2, 1) := by decide +kernel
theorem dX6_bright_45 : decode cX6_bright 45 = .ok (.invokevirtual 103, 3) := by decide +kernel
theorem dX6_bright_48 : decode cX6_bright 48 = .ok (.goto 4, 3) := by decide +kernel
theorem dX6_bright_51 : decode cX6_bright 51 = .ok (.iconst (-1), 1) := by decide +kernel
theorem dX6_bright_52 : decode cX6_bright 52 = .ok (.ireturn, 1) := by decide +kernel
theorem dX6_counted_0 : decode cX6_counted 0 = .ok (.iconst 0, 1) := by decide +kernel
theorem dX6_counted_1 : decode cX6_counted 1 = .ok (.istore_n 2, 1) := by decide +kernel
theorem dX6_counted_2 : decode cX6_counted 2 = .ok (.iconst 0, 1) := by decide +kernel
theorem dX6_counted_3 : decode cX6_counted 3 = .ok (.istore_n 3, 1) := by decide +kernel
theorem dX6_counted_4 : decode cX6_counted 4 = .ok (.iload_n 3, 1) := by decide +kernel
theorem dX6_counted_5 : decode cX6_counted 5 = .ok (.aload_n 0, 1) := by decide +kernel
theorem dX6_counted_6 : decode cX6_counted 6 = .ok (.getfield 53, 3) := by decide +kernel
theorem dX6_counted_9 : decode cX6_counted 9 = .ok (.if_icmp .ge 20, 3) := by decide +kernel
theorem dX6_counted_12 : decode cX6_counted 12 = .ok (.iload_n 2, 1) := by decide +kernel
theorem dX6_counted_13 : decode cX6_counted 13 = .ok (.aload_n 0, 1) := by decide +kernel
theorem dX6_counted_14 : decode cX6_counted 14 = .ok (.getfield 42, 3) := by decide +kernel
theorem dX6_counted_17 : decode cX6_counted 17 = .ok (.iload_n 3, 1) := by decide +kernel
theorem dX6_counted_18 : decode cX6_counted 18 = .ok (.invokevirtual 91, 3) := by decide +kernel
theorem dX6_counted_21 : decode cX6_counted 21 = .ok (.iadd, 1) := by decide +kernel
theorem dX6_counted_22 : decode cX6_counted 22 = .ok (.istore_n 2, 1) := by decide +kernel
theorem dX6_counted_23 : decode cX6_counted 23 = .ok (.iinc 3 1, 3) := by decide +kernel
theorem dX6_counted_26 : decode cX6_counted 26 = .ok (.goto (-22), 3) := by decide +kernel
theorem dX6_counted_29 : decode cX6_counted 29 = .ok (.bipush 9, 2) := by decide +kernel
theorem dX6_counted_31 : decode cX6_counted 31 = .ok (.newarray .int, 2) := by decide +kernel
theorem dX6_counted_33 : decode cX6_counted 33 = .ok (.dup, 1) := by decide +kernel
theorem dX6_counted_34 : decode cX6_counted 34 = .ok (.iconst 0, 1) := by decide +kernel
theorem dX6_counted_35 : decode cX6_counted 35 = .ok (.aload_n 0, 1) := by decide +kernel
theorem dX6_counted_36 : decode cX6_counted 36 = .ok (.getfield 42, 3) := by decide +kernel
theorem dX6_counted_39 : decode cX6_counted 39 = .ok (.getfield 106, 3) := by decide +kernel
theorem dX6_counted_42 : decode cX6_counted 42 = .ok (.iastore, 1) := by decide +kernel
theorem dX6_counted_43 : decode cX6_counted 43 = .ok (.dup, 1) := by decide +kernel
theorem dX6_counted_44 : decode cX6_counted 44 = .ok (.iconst 1, 1) := by decide +kernel
theorem dX6_counted_45 : decode cX6_counted 45 = .ok (.aload_n 0, 1) := by decide +kernel
theorem dX6_counted_46 : decode cX6_counted 46 = .ok (.getfield 42, 3) := by decide +kernel
theorem dX6_counted_49 : decode cX6_counted 49 = .ok (.invokevirtual 109, 3) := by decide +kernel
theorem dX6_counted_52 : decode cX6_counted 52 = .ok (.iastore, 1) := by decide +kernel
theorem dX6_counted_53 : decode cX6_counted 53 = .ok (.dup, 1) := by decide +kernel
theorem dX6_counted_54 : decode cX6_counted 54 = .ok (.iconst 2, 1) := by decide +kernel
theorem dX6_counted_55 : decode cX6_counted 55 = .ok (.aload_n 0, 1) := by decide +kernel
theorem dX6_counted_56 : decode cX6_counted 56 = .ok (.getfield 60, 3) := by decide +kernel
theorem dX6_counted_59 : decode cX6_counted 59 = .ok (.iastore, 1) := by decide +kernel
theorem dX6_counted_60 : decode cX6_counted 60 = .ok (.dup, 1) := by decide +kernel
theorem dX6_counted_61 : decode cX6_counted 61 = .ok (.iconst 3, 1) := by decide +kernel
theorem dX6_counted_62 : decode cX6_counted 62 = .ok (.aload_n 0, 1) := by decide +kernel
theorem dX6_counted_63 : decode cX6_counted 63 = .ok (.getfield 42, 3) := by decide +kernel
theorem dX6_counted_66 : decode cX6_counted 66 = .ok (.invokevirtual 113, 3) := by decide +kernel
theorem dX6_counted_69 : decode cX6_counted 69 = .ok (.iastore, 1) := by decide +kernel
theorem dX6_counted_70 : decode cX6_counted 70 = .ok (.dup, 1) := by decide +kernel
theorem dX6_counted_71 : decode cX6_counted 71 = .ok (.iconst 4, 1) := by decide +kernel
theorem dX6_counted_72 : decode cX6_counted 72 = .ok (.aload_n 0, 1) := by decide +kernel
theorem dX6_counted_73 : decode cX6_counted 73 = .ok (.getfield 53, 3) := by decide +kernel
theorem dX6_counted_76 : decode cX6_counted 76 = .ok (.iastore, 1) := by decide +kernel
theorem dX6_counted_77 : decode cX6_counted 77 = .ok (.dup, 1) := by decide +kernel
theorem dX6_counted_78 : decode cX6_counted 78 = .ok (.iconst 5, 1) := by decide +kernel
theorem dX6_counted_79 : decode cX6_counted 79 = .ok (.aload_n 0, 1) := by decide +kernel
theorem dX6_counted_80 : decode cX6_counted 80 = .ok (.getfield 42, 3) := by decide +kernel
theorem dX6_counted_83 : decode cX6_counted 83 = .ok (.invokevirtual 116, 3) := by decide +kernel
theorem dX6_counted_86 : decode cX6_counted 86 = .ok (.iastore, 1) := by decide +kernel
theorem dX6_counted_87 : decode cX6_counted 87 = .ok (.dup, 1) := by decide +kernel
theorem dX6_counted_88 : decode cX6_counted 88 = .ok (.bipush 6, 2) := by decide +kernel
theorem dX6_counted_90 : decode cX6_counted 90 = .ok (.iload_n 2, 1) := by decide +kernel
theorem dX6_counted_91 : decode cX6_counted 91 = .ok (.iastore, 1) := by decide +kernel
theorem dX6_counted_92 : decode cX6_counted 92 = .ok (.dup, 1) := by decide +kernel
theorem dX6_counted_93 : decode cX6_counted 93 = .ok (.bipush 7, 2) := by decide +kernel
theorem dX6_counted_95 : decode cX6_counted 95 = .ok (.aload_n 0, 1) := by decide +kernel
theorem dX6_counted_96 : decode cX6_counted 96 = .ok (.getfield 42, 3) := by decide +kernel
theorem dX6_counted_99 : decode cX6_counted 99 = .ok (.invokevirtual 119, 3) := by decide +kernel
theorem dX6_counted_102 : decode cX6_counted 102 = .ok (.iastore, 1) := by decide +kernel
theorem dX6_counted_103 : decode cX6_counted 103 = .ok (.dup, 1) := by decide +kernel
theorem dX6_counted_104 : decode cX6_counted 104 = .ok (.bipush 8, 2) := by decide +kernel
theorem dX6_counted_106 : decode cX6_counted 106 = .ok (.aload_n 0, 1) := by decide +kernel
theorem dX6_counted_107 : decode cX6_counted 107 = .ok (.getfield 42, 3) := by decide +kernel
theorem dX6_counted_110 : decode cX6_counted 110 = .ok (.getfield 106, 3) := by decide +kernel
theorem dX6_counted_113 : decode cX6_counted 113 = .ok (.sipush 720, 3) := by decide +kernel
theorem dX6_counted_116 : decode cX6_counted 116 = .ok (.if_icmp .ne 7, 3) := by decide +kernel
theorem dX6_counted_119 : decode cX6_counted 119 = .ok (.iconst 1, 1) := by decide +kernel
theorem dX6_counted_120 : decode cX6_counted 120 = .ok (.goto 4, 3) := by decide +kernel
theorem dX6_counted_123 : decode cX6_counted 123 = .ok (.iconst 0, 1) := by decide +kernel
theorem dX6_counted_124 : decode cX6_counted 124 = .ok (.iastore, 1) := by decide +kernel
theorem dX6_counted_125 : decode cX6_counted 125 = .ok (.astore_n 3, 1) := by decide +kernel
theorem dX6_counted_126 : decode cX6_counted 126 = .ok (.aload_n 3, 1) := by decide +kernel
theorem dX6_counted_127 : decode cX6_counted 127 = .ok (.iload_n 1, 1) := by decide +kernel
theorem dX6_counted_128 : decode cX6_counted 128 = .ok (.iaload, 1) := by decide +kernel
theorem dX6_counted_129 : decode cX6_counted 129 = .ok (.ireturn, 1) := by decide +kernel
theorem dX6_count_0 : decode cX6_count 0 = .ok (.aload_n 0, 1) := by decide +kernel
theorem dX6_count_1 : decode cX6_count 1 = .ok (.iconst 0, 1) := by decide +kernel
theorem dX6_count_2 : decode cX6_count 2 = .ok (.putfield 49, 3) := by decide +kernel
theorem dX6_count_5 : decode cX6_count 5 = .ok (.iload_n 1, 1) := by decide +kernel
theorem dX6_count_6 : decode cX6_count 6 = .ok (.iconst 0, 1) := by decide +kernel
theorem dX6_count_7 : decode cX6_count 7 = .ok (.bipush 8, 2) := by decide +kernel
theorem dX6_count_9 : decode cX6_count 9 = .ok (.invokestatic 56, 3) := by decide +kernel
theorem dX6_count_12 : decode cX6_count 12 = .ok (.ifCond .eq 11, 3) := by decide +kernel
theorem dX6_count_15 : decode cX6_count 15 = .ok (.aload_n 0, 1) := by decide +kernel
theorem dX6_count_16 : decode cX6_count 16 = .ok (.iload_n 1, 1) := by decide +kernel
theorem dX6_count_17 : decode cX6_count 17 = .ok (.invokevirtual 122, 3) := by decide +kernel
theorem dX6_count_20 : decode cX6_count 20 = .ok (.goto 8, 3) := by decide +kernel
theorem dX6_count_23 : decode cX6_count 23 = .ok (.aload_n 0, 1) := by decide +kernel
theorem dX6_count_24 : decode cX6_count 24 = .ok (.iconst 1, 1) := by decide +kernel
theorem dX6_count_25 : decode cX6_count 25 = .ok (.invokevirtual 63, 3) := by decide +kernel
theorem dX6_count_28 : decode cX6_count 28 = .ok (.ireturn, 1) := by decide +kernel
theorem dX6_go_0 : decode cX6_go 0 = .ok (.aload_n 0, 1) := by decide +kernel
theorem dX6_go_1 : decode cX6_go 1 = .ok (.iconst 0, 1) := by decide +kernel
theorem dX6_go_2 : decode cX6_go 2 = .ok (.putfield 49, 3) := by decide +kernel
theorem dX6_go_5 : decode cX6_go 5 = .ok (.iload_n 1, 1) := by decide +kernel
theorem dX6_go_6 : decode cX6_go 6 = .ok (.iconst 1, 1) := by decide +kernel
theorem dX6_go_7 : decode cX6_go 7 = .ok (.sipush 720, 3) := by decide +kernel
theorem dX6_go_10 : decode cX6_go 10 = .ok (.invokestatic 56, 3) := by decide +kernel
theorem dX6_go_13 : decode cX6_go 13 = .ok (.ifCond .ne 9, 3) := by decide +kernel
theorem dX6_go_16 : decode cX6_go 16 = .ok (.aload_n 0, 1) := by decide +kernel
theorem dX6_go_17 : decode cX6_go 17 = .ok (.iconst 1, 1) := by decide +kernel
theorem dX6_go_18 : decode cX6_go 18 = .ok (.invokevirtual 63, 3) := by decide +kernel
theorem dX6_go_21 : decode cX6_go 21 = .ok (.ireturn, 1) := by decide +kernel
theorem dX6_go_22 : decode cX6_go 22 = .ok (.aload_n 0, 1) := by decide +kernel
theorem dX6_go_23 : decode cX6_go 23 = .ok (.getfield 42, 3) := by decide +kernel
theorem dX6_go_26 : decode cX6_go 26 = .ok (.invokevirtual 119, 3) := by decide +kernel
theorem dX6_go_29 : decode cX6_go 29 = .ok (.istore_n 2, 1) := by decide +kernel
theorem dX6_go_30 : decode cX6_go 30 = .ok (.aload_n 0, 1) := by decide +kernel
theorem dX6_go_31 : decode cX6_go 31 = .ok (.getfield 42, 3) := by decide +kernel
theorem dX6_go_34 : decode cX6_go 34 = .ok (.iload_n 1, 1) := by decide +kernel
theorem dX6_go_35 : decode cX6_go 35 = .ok (.invokevirtual 125, 3) := by decide +kernel
theorem dX6_go_38 : decode cX6_go 38 = .ok (.aload_n 0, 1) := by decide +kernel
theorem dX6_go_39 : decode cX6_go 39 = .ok (.getfield 42, 3) := by decide +kernel
theorem dX6_go_42 : decode cX6_go 42 = .ok (.invokevirtual 119, 3) := by decide +kernel
theorem dX6_go_45 : decode cX6_go 45 = .ok (.iload_n 2, 1) := by decide +kernel
theorem dX6_go_46 : decode cX6_go 46 = .ok (.isub, 1) := by decide +kernel
theorem dX6_go_47 : decode cX6_go 47 = .ok (.ireturn, 1) := by decide +kernel
theorem dX6_when_0 : decode cX6_when 0 = .ok (.aload_n 0, 1) := by decide +kernel
theorem dX6_when_1 : decode cX6_when 1 = .ok (.iconst 0, 1) := by decide +kernel
theorem dX6_when_2 : decode cX6_when 2 = .ok (.putfield 49, 3) := by decide +kernel
theorem dX6_when_5 : decode cX6_when 5 = .ok (.aload_n 0, 1) := by decide +kernel
theorem dX6_when_6 : decode cX6_when 6 = .ok (.iload_n 1, 1) := by decide +kernel
theorem dX6_when_7 : decode cX6_when 7 = .ok (.invokevirtual 73, 3) := by decide +kernel
theorem dX6_when_10 : decode cX6_when 10 = .ok (.ifCond .ne 9, 3) := by decide +kernel
theorem dX6_when_13 : decode cX6_when 13 = .ok (.aload_n 0, 1) := by decide +kernel
theorem dX6_when_14 : decode cX6_when 14 = .ok (.iconst 1, 1) := by decide +kernel
theorem dX6_when_15 : decode cX6_when 15 = .ok (.invokevirtual 63, 3) := by decide +kernel
theorem dX6_when_18 : decode cX6_when 18 = .ok (.ireturn, 1) := by decide +kernel
theorem dX6_when_19 : decode cX6_when 19 = .ok (.aload_n 0, 1) := by decide +kernel
theorem dX6_when_20 : decode cX6_when 20 = .ok (.getfield 46, 3) := by decide +kernel
theorem dX6_when_23 : decode cX6_when 23 = .ok (.aload_n 0, 1) := by decide +kernel
theorem dX6_when_24 : decode cX6_when 24 = .ok (.getfield 42, 3) := by decide +kernel
theorem dX6_when_27 : decode cX6_when 27 = .ok (.invokevirtual 129, 3) := by decide +kernel
theorem dX6_when_30 : decode cX6_when 30 = .ok (.iconst (-1), 1) := by decide +kernel
theorem dX6_when_31 : decode cX6_when 31 = .ok (.istore_n 2, 1) := by decide +kernel
theorem dX6_when_32 : decode cX6_when 32 = .ok (.iconst 0, 1) := by decide +kernel
theorem dX6_when_33 : decode cX6_when 33 = .ok (.istore_n 3, 1) := by decide +kernel
theorem dX6_when_34 : decode cX6_when 34 = .ok (.aload_n 0, 1) := by decide +kernel
theorem dX6_when_35 : decode cX6_when 35 = .ok (.getfield 46, 3) := by decide +kernel
theorem dX6_when_38 : decode cX6_when 38 = .ok (.getfield 106, 3) := by decide +kernel
theorem dX6_when_41 : decode cX6_when 41 = .ok (.sipush 720, 3) := by decide +kernel
theorem dX6_when_44 : decode cX6_when 44 = .ok (.if_icmp .ge 40, 3) := by decide +kernel
theorem dX6_when_47 : decode cX6_when 47 = .ok (.aload_n 0, 1) := by decide +kernel
theorem dX6_when_48 : decode cX6_when 48 = .ok (.getfield 46, 3) := by decide +kernel
theorem dX6_when_51 : decode cX6_when 51 = .ok (.iload_n 1, 1) := by decide +kernel
theorem dX6_when_52 : decode cX6_when 52 = .ok (.invokevirtual 91, 3) := by decide +kernel
theorem dX6_when_55 : decode cX6_when 55 = .ok (.istore 4, 2) := by decide +kernel
theorem dX6_when_57 : decode cX6_when 57 = .ok (.iload 4, 2) := by decide +kernel
theorem dX6_when_59 : decode cX6_when 59 = .ok (.iload_n 3, 1) := by decide +kernel
theorem dX6_when_60 : decode cX6_when 60 = .ok (.if_icmp .le 14, 3) := by decide +kernel
theorem dX6_when_63 : decode cX6_when 63 = .ok (.iload 4, 2) := by decide +kernel
theorem dX6_when_65 : decode cX6_when 65 = .ok (.istore_n 3, 1) := by decide +kernel
theorem dX6_when_66 : decode cX6_when 66 = .ok (.aload_n 0, 1) := by decide +kernel
theorem dX6_when_67 : decode cX6_when 67 = .ok (.getfield 46, 3) := by decide +kernel
theorem dX6_when_70 : decode cX6_when 70 = .ok (.getfield 106, 3) := by decide +kernel
theorem dX6_when_73 : decode cX6_when 73 = .ok (.istore_n 2, 1) := by decide +kernel
theorem dX6_when_74 : decode cX6_when 74 = .ok (.aload_n 0, 1) := by decide +kernel
theorem dX6_when_75 : decode cX6_when 75 = .ok (.getfield 46, 3) := by decide +kernel
theorem dX6_when_78 : decode cX6_when 78 = .ok (.invokevirtual 133, 3) := by decide +kernel
theorem dX6_when_81 : decode cX6_when 81 = .ok (.goto (-47), 3) := by decide +kernel
theorem dX6_when_84 : decode cX6_when 84 = .ok (.iload_n 2, 1) := by decide +kernel
theorem dX6_when_85 : decode cX6_when 85 = .ok (.ireturn, 1) := by decide +kernel
theorem dX6_advise_0 : decode cX6_advise 0 = .ok (.aload_n 0, 1) := by decide +kernel
theorem dX6_advise_1 : decode cX6_advise 1 = .ok (.iconst 0, 1) := by decide +kernel
theorem dX6_advise_2 : decode cX6_advise 2 = .ok (.putfield 49, 3) := by decide +kernel
theorem dX6_advise_5 : decode cX6_advise 5 = .ok (.aload_n 0, 1) := by decide +kernel
theorem dX6_advise_6 : decode cX6_advise 6 = .ok (.iload_n 1, 1) := by decide +kernel
theorem dX6_advise_7 : decode cX6_advise 7 = .ok (.invokevirtual 73, 3) := by decide +kernel
theorem dX6_advise_10 : decode cX6_advise 10 = .ok (.ifCond .ne 9, 3) := by decide +kernel
theorem dX6_advise_13 : decode cX6_advise 13 = .ok (.aload_n 0, 1) := by decide +kernel
theorem dX6_advise_14 : decode cX6_advise 14 = .ok (.iconst 1, 1) := by decide +kernel
theorem dX6_advise_15 : decode cX6_advise 15 = .ok (.invokevirtual 63, 3) := by decide +kernel
theorem dX6_advise_18 : decode cX6_advise 18 = .ok (.ireturn, 1) := by decide +kernel
theorem dX6_advise_19 : decode cX6_advise 19 = .ok (.iload_n 2, 1) := by decide +kernel
theorem dX6_advise_20 : decode cX6_advise 20 = .ok (.iconst 1, 1) := by decide +kernel
theorem dX6_advise_21 : decode cX6_advise 21 = .ok (.sipush 200, 3) := by decide +kernel
theorem dX6_advise_24 : decode cX6_advise 24 = .ok (.invokestatic 56, 3) := by decide +kernel
theorem dX6_advise_27 : decode cX6_advise 27 = .ok (.ifCond .ne 9, 3) := by decide +kernel
theorem dX6_advise_30 : decode cX6_advise 30 = .ok (.aload_n 0, 1) := by decide +kernel
theorem dX6_advise_31 : decode cX6_advise 31 = .ok (.iconst 2, 1) := by decide +kernel
theorem dX6_advise_32 : decode cX6_advise 32 = .ok (.invokevirtual 63, 3) := by decide +kernel
theorem dX6_advise_35 : decode cX6_advise 35 = .ok (.ireturn, 1) := by decide +kernel
theorem dX6_advise_36 : decode cX6_advise 36 = .ok (.iconst 0, 1) := by decide +kernel
theorem dX6_advise_37 : decode cX6_advise 37 = .ok (.istore_n 3, 1) := by decide +kernel
theorem dX6_advise_38 : decode cX6_advise 38 = .ok (.iconst (-1), 1) := by decide +kernel
theorem dX6_advise_39 : decode cX6_advise 39 = .ok (.istore 4, 2) := by decide +kernel
theorem dX6_advise_41 : decode cX6_advise 41 = .ok (.iconst 1, 1) := by decide +kernel
theorem dX6_advise_42 : decode cX6_advise 42 = .ok (.istore 5, 2) := by decide +kernel
theorem dX6_advise_44 : decode cX6_advise 44 = .ok (.iload 5, 2) := by decide +kernel
theorem dX6_advise_46 : decode cX6_advise 46 = .ok (.bipush 9, 2) := by decide +kernel
theorem dX6_advise_48 : decode cX6_advise 48 = .ok (.if_icmp .gt 70, 3) := by decide +kernel
theorem dX6_advise_51 : decode cX6_advise 51 = .ok (.aload_n 0, 1) := by decide +kernel
theorem dX6_advise_52 : decode cX6_advise 52 = .ok (.getfield 46, 3) := by decide +kernel
theorem dX6_advise_55 : decode cX6_advise 55 = .ok (.aload_n 0, 1) := by decide +kernel
theorem dX6_advise_56 : decode cX6_advise 56 = .ok (.getfield 42, 3) := by decide +kernel
theorem dX6_advise_59 : decode cX6_advise 59 = .ok (.invokevirtual 129, 3) := by decide +kernel
theorem dX6_advise_62 : decode cX6_advise 62 = .ok (.aload_n 0, 1) := by decide +kernel
theorem dX6_advise_63 : decode cX6_advise 63 = .ok (.getfield 46, 3) := by decide +kernel
theorem dX6_advise_66 : decode cX6_advise 66 = .ok (.getfield 70, 3) := by decide +kernel
theorem dX6_advise_69 : decode cX6_advise 69 = .ok (.iload_n 1, 1) := by decide +kernel
theorem dX6_advise_70 : decode cX6_advise 70 = .ok (.iload 5, 2) := by decide +kernel
theorem dX6_advise_72 : decode cX6_advise 72 = .ok (.iastore, 1) := by decide +kernel
theorem dX6_advise_73 : decode cX6_advise 73 = .ok (.aload_n 0, 1) := by decide +kernel
theorem dX6_advise_74 : decode cX6_advise 74 = .ok (.getfield 46, 3) := by decide +kernel
theorem dX6_advise_77 : decode cX6_advise 77 = .ok (.iload_n 2, 1) := by decide +kernel
theorem dX6_advise_78 : decode cX6_advise 78 = .ok (.invokevirtual 125, 3) := by decide +kernel
theorem dX6_advise_81 : decode cX6_advise 81 = .ok (.aload_n 0, 1) := by decide +kernel
theorem dX6_advise_82 : decode cX6_advise 82 = .ok (.getfield 46, 3) := by decide +kernel
theorem dX6_advise_85 : decode cX6_advise 85 = .ok (.getfield 94, 3) := by decide +kernel
theorem dX6_advise_88 : decode cX6_advise 88 = .ok (.iload_n 1, 1) := by decide +kernel
theorem dX6_advise_89 : decode cX6_advise 89 = .ok (.iaload, 1) := by decide +kernel
theorem dX6_advise_90 : decode cX6_advise 90 = .ok (.iload 4, 2) := by decide +kernel
theorem dX6_advise_92 : decode cX6_advise 92 = .ok (.if_icmp .gt 6, 3) := by decide +kernel
theorem dX6_advise_95 : decode cX6_advise 95 = .ok (.goto 17, 3) := by decide +kernel
theorem dX6_advise_98 : decode cX6_advise 98 = .ok (.aload_n 0, 1) := by decide +kernel
theorem dX6_advise_99 : decode cX6_advise 99 = .ok (.getfield 46, 3) := by decide +kernel
theorem dX6_advise_102 : decode cX6_advise 102 = .ok (.getfield 94, 3) := by decide +kernel
theorem dX6_advise_105 : decode cX6_advise 105 = .ok (.iload_n 1, 1) := by decide +kernel
theorem dX6_advise_106 : decode cX6_advise 106 = .ok (.iaload, 1) := by decide +kernel
theorem dX6_advise_107 : decode cX6_advise 107 = .ok (.istore 4, 2) := by decide +kernel
theorem dX6_advise_109 : decode cX6_advise 109 = .ok (.iload 5, 2) := by decide +kernel
theorem dX6_advise_111 : decode cX6_advise 111 = .ok (.istore_n 3, 1) := by decide +kernel
theorem dX6_advise_112 : decode cX6_advise 112 = .ok (.iinc 5 1, 3) := by decide +kernel
theorem dX6_advise_115 : decode cX6_advise 115 = .ok (.goto (-71), 3) := by decide +kernel
theorem dX6_advise_118 : decode cX6_advise 118 = .ok (.iload_n 3, 1) := by decide +kernel
theorem dX6_advise_119 : decode cX6_advise 119 = .ok (.ireturn, 1) := by decide +kernel
theorem dX6_seen_0 : decode cX6_seen 0 = .ok (.aload_n 0, 1) := by decide +kernel
theorem dX6_seen_1 : decode cX6_seen 1 = .ok (.iconst 0, 1) := by decide +kernel
theorem dX6_seen_2 : decode cX6_seen 2 = .ok (.putfield 49, 3) := by decide +kernel
theorem dX6_seen_5 : decode cX6_seen 5 = .ok (.aload_n 0, 1) := by decide +kernel
theorem dX6_seen_6 : decode cX6_seen 6 = .ok (.iload_n 1, 1) := by decide +kernel
theorem dX6_seen_7 : decode cX6_seen 7 = .ok (.invokevirtual 84, 3) := by decide +kernel
theorem dX6_seen_10 : decode cX6_seen 10 = .ok (.ifCond .ne 9, 3) := by decide +kernel
theorem dX6_seen_13 : decode cX6_seen 13 = .ok (.aload_n 0, 1) := by decide +kernel
theorem dX6_seen_14 : decode cX6_seen 14 = .ok (.iconst 1, 1) := by decide +kernel
theorem dX6_seen_15 : decode cX6_seen 15 = .ok (.invokevirtual 63, 3) := by decide +kernel
theorem dX6_seen_18 : decode cX6_seen 18 = .ok (.ireturn, 1) := by decide +kernel
theorem dX6_seen_19 : decode cX6_seen 19 = .ok (.aload_n 0, 1) := by decide +kernel
theorem dX6_seen_20 : decode cX6_seen 20 = .ok (.getfield 46, 3) := by decide +kernel
theorem dX6_seen_23 : decode cX6_seen 23 = .ok (.aload_n 0, 1) := by decide +kernel
theorem dX6_seen_24 : decode cX6_seen 24 = .ok (.getfield 42, 3) := by decide +kernel
theorem dX6_seen_27 : decode cX6_seen 27 = .ok (.invokevirtual 129, 3) := by decide +kernel
theorem dX6_seen_30 : decode cX6_seen 30 = .ok (.iconst 0, 1) := by decide +kernel
theorem dX6_seen_31 : decode cX6_seen 31 = .ok (.istore_n 2, 1) := by decide +kernel
theorem dX6_seen_32 : decode cX6_seen 32 = .ok (.iconst 1, 1) := by decide +kernel
theorem dX6_seen_33 : decode cX6_seen 33 = .ok (.istore_n 3, 1) := by decide +kernel
theorem dX6_seen_34 : decode cX6_seen 34 = .ok (.iload_n 3, 1) := by decide +kernel
theorem dX6_seen_35 : decode cX6_seen 35 = .ok (.ifCond .eq 70, 3) := by decide +kernel
theorem dX6_seen_38 : decode cX6_seen 38 = .ok (.iconst 0, 1) := by decide +kernel
theorem dX6_seen_39 : decode cX6_seen 39 = .ok (.istore 4, 2) := by decide +kernel
theorem dX6_seen_41 : decode cX6_seen 41 = .ok (.iload 4, 2) := by decide +kernel
theorem dX6_seen_43 : decode cX6_seen 43 = .ok (.aload_n 0, 1) := by decide +kernel
theorem dX6_seen_44 : decode cX6_seen 44 = .ok (.getfield 53, 3) := by decide +kernel
theorem dX6_seen_47 : decode cX6_seen 47 = .ok (.if_icmp .ge 29, 3) := by decide +kernel
theorem dX6_seen_50 : decode cX6_seen 50 = .ok (.aload_n 0, 1) := by decide +kernel
theorem dX6_seen_51 : decode cX6_seen 51 = .ok (.getfield 46, 3) := by decide +kernel
theorem dX6_seen_54 : decode cX6_seen 54 = .ok (.iload 4, 2) := by decide +kernel
theorem dX6_seen_56 : decode cX6_seen 56 = .ok (.iload_n 1, 1) := by decide +kernel
theorem dX6_seen_57 : decode cX6_seen 57 = .ok (.invokevirtual 100, 3) := by decide +kernel
theorem dX6_seen_60 : decode cX6_seen 60 = .ok (.ifCond .eq 10, 3) := by decide +kernel
theorem dX6_seen_63 : decode cX6_seen 63 = .ok (.iload_n 2, 1) := by decide +kernel
theorem dX6_seen_64 : decode cX6_seen 64 = .ok (.iconst 1, 1) := by decide +kernel
theorem dX6_seen_65 : decode cX6_seen 65 = .ok (.iload 4, 2) := by decide +kernel
theorem dX6_seen_67 : decode cX6_seen 67 = .ok (.ishl, 1) := by decide +kernel
theorem dX6_seen_68 : decode cX6_seen 68 = .ok (.ior, 1) := by decide +kernel
theorem dX6_seen_69 : decode cX6_seen 69 = .ok (.istore_n 2, 1) := by decide +kernel
theorem dX6_seen_70 : decode cX6_seen 70 = .ok (.iinc 4 1, 3) := by decide +kernel
theorem dX6_seen_73 : decode cX6_seen 73 = .ok (.goto (-32), 3) := by decide +kernel
theorem dX6_seen_76 : decode cX6_seen 76 = .ok (.aload_n 0, 1) := by decide +kernel
theorem dX6_seen_77 : decode cX6_seen 77 = .ok (.getfield 46, 3) := by decide +kernel
theorem dX6_seen_80 : decode cX6_seen 80 = .ok (.invokevirtual 133, 3) := by decide +kernel
theorem dX6_seen_83 : decode cX6_seen 83 = .ok (.aload_n 0, 1) := by decide +kernel
theorem dX6_seen_84 : decode cX6_seen 84 = .ok (.getfield 46, 3) := by decide +kernel
theorem dX6_seen_87 : decode cX6_seen 87 = .ok (.getfield 106, 3) := by decide +kernel
theorem dX6_seen_90 : decode cX6_seen 90 = .ok (.sipush 720, 3) := by decide +kernel
theorem dX6_seen_93 : decode cX6_seen 93 = .ok (.if_icmp .ge 7, 3) := by decide +kernel
theorem dX6_seen_96 : decode cX6_seen 96 = .ok (.iconst 1, 1) := by decide +kernel
theorem dX6_seen_97 : decode cX6_seen 97 = .ok (.goto 4, 3) := by decide +kernel
theorem dX6_seen_100 : decode cX6_seen 100 = .ok (.iconst 0, 1) := by decide +kernel
theorem dX6_seen_101 : decode cX6_seen 101 = .ok (.istore_n 3, 1) := by decide +kernel
theorem dX6_seen_102 : decode cX6_seen 102 = .ok (.goto (-68), 3) := by decide +kernel
theorem dX6_seen_105 : decode cX6_seen 105 = .ok (.iload_n 2, 1) := by decide +kernel
theorem dX6_seen_106 : decode cX6_seen 106 = .ok (.ireturn, 1) := by decide +kernel
theorem dX6_foresee_0 : decode cX6_foresee 0 = .ok (.aload_n 0, 1) := by decide +kernel
theorem dX6_foresee_1 : decode cX6_foresee 1 = .ok (.iconst 0, 1) := by decide +kernel
theorem dX6_foresee_2 : decode cX6_foresee 2 = .ok (.putfield 49, 3) := by decide +kernel
theorem dX6_foresee_5 : decode cX6_foresee 5 = .ok (.iload_n 1, 1) := by decide +kernel
theorem dX6_foresee_6 : decode cX6_foresee 6 = .ok (.iconst 1, 1) := by decide +kernel
theorem dX6_foresee_7 : decode cX6_foresee 7 = .ok (.sipush 720, 3) := by decide +kernel
theorem dX6_foresee_10 : decode cX6_foresee 10 = .ok (.invokestatic 56, 3) := by decide +kernel
theorem dX6_foresee_13 : decode cX6_foresee 13 = .ok (.ifCond .ne 9, 3) := by decide +kernel
theorem dX6_foresee_16 : decode cX6_foresee 16 = .ok (.aload_n 0, 1) := by decide +kernel
theorem dX6_foresee_17 : decode cX6_foresee 17 = .ok (.iconst 1, 1) := by decide +kernel
theorem dX6_foresee_18 : decode cX6_foresee 18 = .ok (.invokevirtual 63, 3) := by decide +kernel
theorem dX6_foresee_21 : decode cX6_foresee 21 = .ok (.ireturn, 1) := by decide +kernel
theorem dX6_foresee_22 : decode cX6_foresee 22 = .ok (.iload_n 2, 1) := by decide +kernel
theorem dX6_foresee_23 : decode cX6_foresee 23 = .ok (.iconst 0, 1) := by decide +kernel
theorem dX6_foresee_24 : decode cX6_foresee 24 = .ok (.iconst 2, 1) := by decide +kernel
theorem dX6_foresee_25 : decode cX6_foresee 25 = .ok (.invokestatic 56, 3) := by decide +kernel
theorem dX6_foresee_28 : decode cX6_foresee 28 = .ok (.ifCond .ne 9, 3) := by decide +kernel
theorem dX6_foresee_31 : decode cX6_foresee 31 = .ok (.aload_n 0, 1) := by decide +kernel
theorem dX6_foresee_32 : decode cX6_foresee 32 = .ok (.iconst 2, 1) := by decide +kernel
theorem dX6_foresee_33 : decode cX6_foresee 33 = .ok (.invokevirtual 63, 3) := by decide +kernel
theorem dX6_foresee_36 : decode cX6_foresee 36 = .ok (.ireturn, 1) := by decide +kernel
theorem dX6_foresee_37 : decode cX6_foresee 37 = .ok (.aload_n 0, 1) := by decide +kernel
theorem dX6_foresee_38 : decode cX6_foresee 38 = .ok (.getfield 46, 3) := by decide +kernel
theorem dX6_foresee_41 : decode cX6_foresee 41 = .ok (.aload_n 0, 1) := by decide +kernel
theorem dX6_foresee_42 : decode cX6_foresee 42 = .ok (.getfield 42, 3) := by decide +kernel
theorem dX6_foresee_45 : decode cX6_foresee 45 = .ok (.invokevirtual 129, 3) := by decide +kernel
theorem dX6_foresee_48 : decode cX6_foresee 48 = .ok (.aload_n 0, 1) := by decide +kernel
theorem dX6_foresee_49 : decode cX6_foresee 49 = .ok (.getfield 46, 3) := by decide +kernel
theorem dX6_foresee_52 : decode cX6_foresee 52 = .ok (.iload_n 1, 1) := by decide +kernel
theorem dX6_foresee_53 : decode cX6_foresee 53 = .ok (.invokevirtual 125, 3) := by decide +kernel
theorem dX6_foresee_56 : decode cX6_foresee 56 = .ok (.iload_n 2, 1) := by decide +kernel
theorem dX6_foresee_57 : decode cX6_foresee 57 = .ok (.ifCond .ne 21, 3) := by decide +kernel
theorem dX6_foresee_60 : decode cX6_foresee 60 = .ok (.aload_n 0, 1) := by decide +kernel
theorem dX6_foresee_61 : decode cX6_foresee 61 = .ok (.getfield 46, 3) := by decide +kernel
theorem dX6_foresee_64 : decode cX6_foresee 64 = .ok (.invokevirtual 119, 3) := by decide +kernel
theorem dX6_foresee_67 : decode cX6_foresee 67 = .ok (.aload_n 0, 1) := by decide +kernel
theorem dX6_foresee_68 : decode cX6_foresee 68 = .ok (.getfield 42, 3) := by decide +kernel
theorem dX6_foresee_71 : decode cX6_foresee 71 = .ok (.invokevirtual 119, 3) := by decide +kernel
theorem dX6_foresee_74 : decode cX6_foresee 74 = .ok (.isub, 1) := by decide +kernel
theorem dX6_foresee_75 : decode cX6_foresee 75 = .ok (.goto 30, 3) := by decide +kernel
theorem dX6_foresee_78 : decode cX6_foresee 78 = .ok (.iload_n 2, 1) := by decide +kernel
theorem dX6_foresee_79 : decode cX6_foresee 79 = .ok (.iconst 1, 1) := by decide +kernel
theorem dX6_foresee_80 : decode cX6_foresee 80 = .ok (.if_icmp .ne 13, 3) := by decide +kernel
theorem dX6_foresee_83 : decode cX6_foresee 83 = .ok (.aload_n 0, 1) := by decide +kernel
theorem dX6_foresee_84 : decode cX6_foresee 84 = .ok (.getfield 46, 3) := by decide +kernel
theorem dX6_foresee_87 : decode cX6_foresee 87 = .ok (.invokevirtual 116, 3) := by decide +kernel
theorem dX6_foresee_90 : decode cX6_foresee 90 = .ok (.goto 15, 3) := by decide +kernel
theorem dX6_foresee_93 : decode cX6_foresee 93 = .ok (.aload_n 0, 1) := by decide +kernel
theorem dX6_foresee_94 : decode cX6_foresee 94 = .ok (.getfield 60, 3) := by decide +kernel
theorem dX6_foresee_97 : decode cX6_foresee 97 = .ok (.aload_n 0, 1) := by decide +kernel
theorem dX6_foresee_98 : decode cX6_foresee 98 = .ok (.getfield 46, 3) := by decide +kernel
theorem dX6_foresee_101 : decode cX6_foresee 101 = .ok (.invokevirtual 113, 3) := by decide +kernel
theorem dX6_foresee_104 : decode cX6_foresee 104 = .ok (.isub, 1) := by decide +kernel
theorem dX6_foresee_105 : decode cX6_foresee 105 = .ok (.ireturn, 1) := by decide +kernel
theorem dX6_mean_0 : decode cX6_mean 0 = .ok (.aload_n 0, 1) := by decide +kernel
theorem dX6_mean_1 : decode cX6_mean 1 = .ok (.iconst 0, 1) := by decide +kernel
theorem dX6_mean_2 : decode cX6_mean 2 = .ok (.putfield 49, 3) := by decide +kernel
theorem dX6_mean_5 : decode cX6_mean 5 = .ok (.aload_n 0, 1) := by decide +kernel
theorem dX6_mean_6 : decode cX6_mean 6 = .ok (.getfield 42, 3) := by decide +kernel
theorem dX6_mean_9 : decode cX6_mean 9 = .ok (.getfield 106, 3) := by decide +kernel
theorem dX6_mean_12 : decode cX6_mean 12 = .ok (.ifCond .ne 7, 3) := by decide +kernel
theorem dX6_mean_15 : decode cX6_mean 15 = .ok (.dconst 0, 1) := by decide +kernel
theorem dX6_mean_16 : decode cX6_mean 16 = .ok (.goto 20, 3) := by decide +kernel
theorem dX6_mean_19 : decode cX6_mean 19 = .ok (.aload_n 0, 1) := by decide +kernel
theorem dX6_mean_20 : decode cX6_mean 20 = .ok (.getfield 42, 3) := by decide +kernel
theorem dX6_mean_23 : decode cX6_mean 23 = .ok (.invokevirtual 119, 3) := by decide +kernel
theorem dX6_mean_26 : decode cX6_mean 26 = .ok (.i2d, 1) := by decide +kernel
theorem dX6_mean_27 : decode cX6_mean 27 = .ok (.aload_n 0, 1) := by decide +kernel
theorem dX6_mean_28 : decode cX6_mean 28 = .ok (.getfield 42, 3) := by decide +kernel
theorem dX6_mean_31 : decode cX6_mean 31 = .ok (.getfield 106, 3) := by decide +kernel
theorem dX6_mean_34 : decode cX6_mean 34 = .ok (.i2d, 1) := by decide +kernel
theorem dX6_mean_35 : decode cX6_mean 35 = .ok (.ddiv, 1) := by decide +kernel
theorem dX6_mean_36 : decode cX6_mean 36 = .ok (.dreturn, 1) := by decide +kernel
theorem dX6_digest_0 : decode cX6_digest 0 = .ok (.aload_n 0, 1) := by decide +kernel
theorem dX6_digest_1 : decode cX6_digest 1 = .ok (.iconst 0, 1) := by decide +kernel
theorem dX6_digest_2 : decode cX6_digest 2 = .ok (.putfield 49, 3) := by decide +kernel
theorem dX6_digest_5 : decode cX6_digest 5 = .ok (.ldc2_w 135, 3) := by decide +kernel
theorem dX6_digest_8 : decode cX6_digest 8 = .ok (.lstore_n 1, 1) := by decide +kernel
theorem dX6_digest_9 : decode cX6_digest 9 = .ok (.iconst 0, 1) := by decide +kernel
theorem dX6_digest_10 : decode cX6_digest 10 = .ok (.istore_n 3, 1) := by decide +kernel
theorem dX6_digest_11 : decode cX6_digest 11 = .ok (.iload_n 3, 1) := by decide +kernel
theorem dX6_digest_12 : decode cX6_digest 12 = .ok (.bipush 9, 2) := by decide +kernel
theorem dX6_digest_14 : decode cX6_digest 14 = .ok (.if_icmp .ge 22, 3) := by decide +kernel
theorem dX6_digest_17 : decode cX6_digest 17 = .ok (.lload_n 1, 1) := by decide +kernel
theorem dX6_digest_18 : decode cX6_digest 18 = .ok (.ldc2_w 137, 3) := by decide +kernel
theorem dX6_digest_21 : decode cX6_digest 21 = .ok (.lmul, 1) := by decide +kernel
theorem dX6_digest_22 : decode cX6_digest 22 = .ok (.aload_n 0, 1) := by decide +kernel
theorem dX6_digest_23 : decode cX6_digest 23 = .ok (.iload_n 3, 1) := by decide +kernel
theorem dX6_digest_24 : decode cX6_digest 24 = .ok (.invokevirtual 122, 3) := by decide +kernel
theorem dX6_digest_27 : decode cX6_digest 27 = .ok (.i2l, 1) := by decide +kernel
theorem dX6_digest_28 : decode cX6_digest 28 = .ok (.ladd, 1) := by decide +kernel
theorem dX6_digest_29 : decode cX6_digest 29 = .ok (.lstore_n 1, 1) := by decide +kernel
theorem dX6_digest_30 : decode cX6_digest 30 = .ok (.iinc 3 1, 3) := by decide +kernel
theorem dX6_digest_33 : decode cX6_digest 33 = .ok (.goto (-22), 3) := by decide +kernel
theorem dX6_digest_36 : decode cX6_digest 36 = .ok (.iconst 0, 1) := by decide +kernel
theorem dX6_digest_37 : decode cX6_digest 37 = .ok (.istore_n 3, 1) := by decide +kernel
theorem dX6_digest_38 : decode cX6_digest 38 = .ok (.iload_n 3, 1) := by decide +kernel
theorem dX6_digest_39 : decode cX6_digest 39 = .ok (.bipush 12, 2) := by decide +kernel
theorem dX6_digest_41 : decode cX6_digest 41 = .ok (.if_icmp .ge 34, 3) := by decide +kernel
theorem dX6_digest_44 : decode cX6_digest 44 = .ok (.lload_n 1, 1) := by decide +kernel
theorem dX6_digest_45 : decode cX6_digest 45 = .ok (.ldc2_w 137, 3) := by decide +kernel
theorem dX6_digest_48 : decode cX6_digest 48 = .ok (.lmul, 1) := by decide +kernel
theorem dX6_digest_49 : decode cX6_digest 49 = .ok (.bipush 10, 2) := by decide +kernel
theorem dX6_digest_51 : decode cX6_digest 51 = .ok (.aload_n 0, 1) := by decide +kernel
theorem dX6_digest_52 : decode cX6_digest 52 = .ok (.getfield 9, 3) := by decide +kernel
theorem dX6_digest_55 : decode cX6_digest 55 = .ok (.iload_n 3, 1) := by decide +kernel
theorem dX6_digest_56 : decode cX6_digest 56 = .ok (.iaload, 1) := by decide +kernel
theorem dX6_digest_57 : decode cX6_digest 57 = .ok (.imul, 1) := by decide +kernel
theorem dX6_digest_58 : decode cX6_digest 58 = .ok (.i2l, 1) := by decide +kernel
theorem dX6_digest_59 : decode cX6_digest 59 = .ok (.ladd, 1) := by decide +kernel
theorem dX6_digest_60 : decode cX6_digest 60 = .ok (.aload_n 0, 1) := by decide +kernel
theorem dX6_digest_61 : decode cX6_digest 61 = .ok (.getfield 13, 3) := by decide +kernel
theorem dX6_digest_64 : decode cX6_digest 64 = .ok (.iload_n 3, 1) := by decide +kernel
theorem dX6_digest_65 : decode cX6_digest 65 = .ok (.iaload, 1) := by decide +kernel
theorem dX6_digest_66 : decode cX6_digest 66 = .ok (.i2l, 1) := by decide +kernel
theorem dX6_digest_67 : decode cX6_digest 67 = .ok (.ladd, 1) := by decide +kernel
theorem dX6_digest_68 : decode cX6_digest 68 = .ok (.lstore_n 1, 1) := by decide +kernel
theorem dX6_digest_69 : decode cX6_digest 69 = .ok (.iinc 3 1, 3) := by decide +kernel
theorem dX6_digest_72 : decode cX6_digest 72 = .ok (.goto (-34), 3) := by decide +kernel
theorem dX6_digest_75 : decode cX6_digest 75 = .ok (.iconst 0, 1) := by decide +kernel
theorem dX6_digest_76 : decode cX6_digest 76 = .ok (.istore_n 3, 1) := by decide +kernel
theorem dX6_digest_77 : decode cX6_digest 77 = .ok (.iload_n 3, 1) := by decide +kernel
theorem dX6_digest_78 : decode cX6_digest 78 = .ok (.aload_n 0, 1) := by decide +kernel
theorem dX6_digest_79 : decode cX6_digest 79 = .ok (.getfield 60, 3) := by decide +kernel
theorem dX6_digest_82 : decode cX6_digest 82 = .ok (.if_icmp .ge 39, 3) := by decide +kernel
theorem dX6_digest_85 : decode cX6_digest 85 = .ok (.iconst 0, 1) := by decide +kernel
theorem dX6_digest_86 : decode cX6_digest 86 = .ok (.istore 4, 2) := by decide +kernel
theorem dX6_digest_88 : decode cX6_digest 88 = .ok (.iload 4, 2) := by decide +kernel
theorem dX6_digest_90 : decode cX6_digest 90 = .ok (.iconst 5, 1) := by decide +kernel
theorem dX6_digest_91 : decode cX6_digest 91 = .ok (.if_icmp .ge 24, 3) := by decide +kernel
theorem dX6_digest_94 : decode cX6_digest 94 = .ok (.lload_n 1, 1) := by decide +kernel
theorem dX6_digest_95 : decode cX6_digest 95 = .ok (.ldc2_w 137, 3) := by decide +kernel
theorem dX6_digest_98 : decode cX6_digest 98 = .ok (.lmul, 1) := by decide +kernel
theorem dX6_digest_99 : decode cX6_digest 99 = .ok (.aload_n 0, 1) := by decide +kernel
theorem dX6_digest_100 : decode cX6_digest 100 = .ok (.iload_n 3, 1) := by decide +kernel
theorem dX6_digest_101 : decode cX6_digest 101 = .ok (.iload 4, 2) := by decide +kernel
theorem dX6_digest_103 : decode cX6_digest 103 = .ok (.invokevirtual 87, 3) := by decide +kernel
theorem dX6_digest_106 : decode cX6_digest 106 = .ok (.i2l, 1) := by decide +kernel
theorem dX6_digest_107 : decode cX6_digest 107 = .ok (.ladd, 1) := by decide +kernel
theorem dX6_digest_108 : decode cX6_digest 108 = .ok (.lstore_n 1, 1) := by decide +kernel
theorem dX6_digest_109 : decode cX6_digest 109 = .ok (.iinc 4 1, 3) := by decide +kernel
theorem dX6_digest_112 : decode cX6_digest 112 = .ok (.goto (-24), 3) := by decide +kernel
theorem dX6_digest_115 : decode cX6_digest 115 = .ok (.iinc 3 1, 3) := by decide +kernel
theorem dX6_digest_118 : decode cX6_digest 118 = .ok (.goto (-41), 3) := by decide +kernel
theorem dX6_digest_121 : decode cX6_digest 121 = .ok (.iconst 0, 1) := by decide +kernel
theorem dX6_digest_122 : decode cX6_digest 122 = .ok (.istore_n 3, 1) := by decide +kernel
theorem dX6_digest_123 : decode cX6_digest 123 = .ok (.iload_n 3, 1) := by decide +kernel
theorem dX6_digest_124 : decode cX6_digest 124 = .ok (.aload_n 0, 1) := by decide +kernel
theorem dX6_digest_125 : decode cX6_digest 125 = .ok (.getfield 53, 3) := by decide +kernel
theorem dX6_digest_128 : decode cX6_digest 128 = .ok (.if_icmp .ge 40, 3) := by decide +kernel
theorem dX6_digest_131 : decode cX6_digest 131 = .ok (.iconst 0, 1) := by decide +kernel
theorem dX6_digest_132 : decode cX6_digest 132 = .ok (.istore 4, 2) := by decide +kernel
theorem dX6_digest_134 : decode cX6_digest 134 = .ok (.iload 4, 2) := by decide +kernel
theorem dX6_digest_136 : decode cX6_digest 136 = .ok (.bipush 8, 2) := by decide +kernel
theorem dX6_digest_138 : decode cX6_digest 138 = .ok (.if_icmp .ge 24, 3) := by decide +kernel
theorem dX6_digest_141 : decode cX6_digest 141 = .ok (.lload_n 1, 1) := by decide +kernel
theorem dX6_digest_142 : decode cX6_digest 142 = .ok (.ldc2_w 137, 3) := by decide +kernel
theorem dX6_digest_145 : decode cX6_digest 145 = .ok (.lmul, 1) := by decide +kernel
theorem dX6_digest_146 : decode cX6_digest 146 = .ok (.aload_n 0, 1) := by decide +kernel
theorem dX6_digest_147 : decode cX6_digest 147 = .ok (.iload_n 3, 1) := by decide +kernel
theorem dX6_digest_148 : decode cX6_digest 148 = .ok (.iload 4, 2) := by decide +kernel
theorem dX6_digest_150 : decode cX6_digest 150 = .ok (.invokevirtual 97, 3) := by decide +kernel
theorem dX6_digest_153 : decode cX6_digest 153 = .ok (.i2l, 1) := by decide +kernel
theorem dX6_digest_154 : decode cX6_digest 154 = .ok (.ladd, 1) := by decide +kernel
theorem dX6_digest_155 : decode cX6_digest 155 = .ok (.lstore_n 1, 1) := by decide +kernel
theorem dX6_digest_156 : decode cX6_digest 156 = .ok (.iinc 4 1, 3) := by decide +kernel
theorem dX6_digest_159 : decode cX6_digest 159 = .ok (.goto (-25), 3) := by decide +kernel
theorem dX6_digest_162 : decode cX6_digest 162 = .ok (.iinc 3 1, 3) := by decide +kernel
theorem dX6_digest_165 : decode cX6_digest 165 = .ok (.goto (-42), 3) := by decide +kernel
theorem dX6_digest_168 : decode cX6_digest 168 = .ok (.lload_n 1, 1) := by decide +kernel
theorem dX6_digest_169 : decode cX6_digest 169 = .ok (.lreturn, 1) := by decide +kernel
theorem dJ9_abs_0f7a4_0 : decode cJ9_abs_0f7a4 0 = .ok (.iload_n 0, 1) := by decide +kernel
theorem dJ9_abs_0f7a4_1 : decode cJ9_abs_0f7a4 1 = .ok (.ifCond .ge 8, 3) := by decide +kernel
theorem dJ9_abs_0f7a4_4 : decode cJ9_abs_0f7a4 4 = .ok (.iload_n 0, 1) := by decide +kernel
theorem dJ9_abs_0f7a4_5 : decode cJ9_abs_0f7a4 5 = .ok (.ineg, 1) := by decide +kernel
theorem dJ9_abs_0f7a4_6 : decode cJ9_abs_0f7a4 6 = .ok (.goto 4, 3) := by decide +kernel
theorem dJ9_abs_0f7a4_9 : decode cJ9_abs_0f7a4 9 = .ok (.iload_n 0, 1) := by decide +kernel
theorem dJ9_abs_0f7a4_10 : decode cJ9_abs_0f7a4 10 = .ok (.ireturn, 1) := by decide +kernel
theorem dJ9_max_7cf53_0 : decode cJ9_max_7cf53 0 = .ok (.iload_n 0, 1) := by decide +kernel
theorem dJ9_max_7cf53_1 : decode cJ9_max_7cf53 1 = .ok (.iload_n 1, 1) := by decide +kernel
theorem dJ9_max_7cf53_2 : decode cJ9_max_7cf53 2 = .ok (.if_icmp .lt 7, 3) := by decide +kernel
theorem dJ9_max_7cf53_5 : decode cJ9_max_7cf53 5 = .ok (.iload_n 0, 1) := by decide +kernel
theorem dJ9_max_7cf53_6 : decode cJ9_max_7cf53 6 = .ok (.goto 4, 3) := by decide +kernel
theorem dJ9_max_7cf53_9 : decode cJ9_max_7cf53 9 = .ok (.iload_n 1, 1) := by decide +kernel
theorem dJ9_max_7cf53_10 : decode cJ9_max_7cf53 10 = .ok (.ireturn, 1) := by decide +kernel
theorem dJ9_min_7cf53_0 : decode cJ9_min_7cf53 0 = .ok (.iload_n 0, 1) := by decide +kernel
theorem dJ9_min_7cf53_1 : decode cJ9_min_7cf53 1 = .ok (.iload_n 1, 1) := by decide +kernel
theorem dJ9_min_7cf53_2 : decode cJ9_min_7cf53 2 = .ok (.if_icmp .gt 7, 3) := by decide +kernel
theorem dJ9_min_7cf53_5 : decode cJ9_min_7cf53 5 = .ok (.iload_n 0, 1) := by decide +kernel
theorem dJ9_min_7cf53_6 : decode cJ9_min_7cf53 6 = .ok (.goto 4, 3) := by decide +kernel
theorem dJ9_min_7cf53_9 : decode cJ9_min_7cf53 9 = .ok (.iload_n 1, 1) := by decide +kernel
theorem dJ9_min_7cf53_10 : decode cJ9_min_7cf53 10 = .ok (.ireturn, 1) := by decide +kernel
end
section
theorem dL_pass_0 : decode cL_pass 0 = .ok (.aload 5, 2) := by decide +kernel
theorem dL_pass_2 : decode cL_pass 2 = .ok (.iconst 0, 1) := by decide +kernel
theorem dL_pass_3 : decode cL_pass 3 = .ok (.aload_n 0, 1) := by decide +kernel
theorem dL_pass_4 : decode cL_pass 4 = .ok (.iload_n 1, 1) := by decide +kernel
theorem dL_pass_5 : decode cL_pass 5 = .ok (.iload_n 2, 1) := by decide +kernel
theorem dL_pass_6 : decode cL_pass 6 = .ok (.iload_n 3, 1) := by decide +kernel
theorem dL_pass_7 : decode cL_pass 7 = .ok (.iload 4, 2) := by decide +kernel
theorem dL_pass_9 : decode cL_pass 9 = .ok (.invokevirtual 7, 3) := by decide +kernel
theorem dL_pass_12 : decode cL_pass 12 = .ok (.i2l, 1) := by decide +kernel
theorem dL_pass_13 : decode cL_pass 13 = .ok (.lastore, 1) := by decide +kernel
theorem dL_pass_14 : decode cL_pass 14 = .ok (.goto 11, 3) := by decide +kernel
theorem dL_pass_17 : decode cL_pass 17 = .ok (.astore 6, 2) := by decide +kernel
theorem dL_pass_19 : decode cL_pass 19 = .ok (.iconst 1, 1) := by decide +kernel
theorem dL_pass_20 : decode cL_pass 20 = .ok (.ireturn, 1) := by decide +kernel
theorem dL_pass_21 : decode cL_pass 21 = .ok (.astore 6, 2) := by decide +kernel
theorem dL_pass_23 : decode cL_pass 23 = .ok (.iconst 2, 1) := by decide +kernel
theorem dL_pass_24 : decode cL_pass 24 = .ok (.ireturn, 1) := by decide +kernel
theorem dL_pass_25 : decode cL_pass 25 = .ok (.iconst 0, 1) := by decide +kernel
theorem dL_pass_26 : decode cL_pass 26 = .ok (.ireturn, 1) := by decide +kernel
theorem dL_setLight_0 : decode cL_setLight 0 = .ok (.aload 4, 2) := by decide +kernel
theorem dL_setLight_2 : decode cL_setLight 2 = .ok (.iconst 0, 1) := by decide +kernel
theorem dL_setLight_3 : decode cL_setLight 3 = .ok (.aload_n 0, 1) := by decide +kernel
theorem dL_setLight_4 : decode cL_setLight 4 = .ok (.iload_n 1, 1) := by decide +kernel
theorem dL_setLight_5 : decode cL_setLight 5 = .ok (.iload_n 2, 1) := by decide +kernel
theorem dL_setLight_6 : decode cL_setLight 6 = .ok (.iload_n 3, 1) := by decide +kernel
theorem dL_setLight_7 : decode cL_setLight 7 = .ok (.invokevirtual 17, 3) := by decide +kernel
theorem dL_setLight_10 : decode cL_setLight 10 = .ok (.i2l, 1) := by decide +kernel
theorem dL_setLight_11 : decode cL_setLight 11 = .ok (.lastore, 1) := by decide +kernel
theorem dL_setLight_12 : decode cL_setLight 12 = .ok (.goto 11, 3) := by decide +kernel
theorem dL_setLight_15 : decode cL_setLight 15 = .ok (.astore 5, 2) := by decide +kernel
theorem dL_setLight_17 : decode cL_setLight 17 = .ok (.iconst 1, 1) := by decide +kernel
theorem dL_setLight_18 : decode cL_setLight 18 = .ok (.ireturn, 1) := by decide +kernel
theorem dL_setLight_19 : decode cL_setLight 19 = .ok (.astore 5, 2) := by decide +kernel
theorem dL_setLight_21 : decode cL_setLight 21 = .ok (.iconst 2, 1) := by decide +kernel
theorem dL_setLight_22 : decode cL_setLight 22 = .ok (.ireturn, 1) := by decide +kernel
theorem dL_setLight_23 : decode cL_setLight 23 = .ok (.iconst 0, 1) := by decide +kernel
theorem dL_setLight_24 : decode cL_setLight 24 = .ok (.ireturn, 1) := by decide +kernel
theorem dL_addRoom_0 : decode cL_addRoom 0 = .ok (.aload 4, 2) := by decide +kernel
theorem dL_addRoom_2 : decode cL_addRoom 2 = .ok (.iconst 0, 1) := by decide +kernel
theorem dL_addRoom_3 : decode cL_addRoom 3 = .ok (.aload_n 0, 1) := by decide +kernel
theorem dL_addRoom_4 : decode cL_addRoom 4 = .ok (.iload_n 1, 1) := by decide +kernel
theorem dL_addRoom_5 : decode cL_addRoom 5 = .ok (.iload_n 2, 1) := by decide +kernel
theorem dL_addRoom_6 : decode cL_addRoom 6 = .ok (.iload_n 3, 1) := by decide +kernel
theorem dL_addRoom_7 : decode cL_addRoom 7 = .ok (.invokevirtual 23, 3) := by decide +kernel
theorem dL_addRoom_10 : decode cL_addRoom 10 = .ok (.i2l, 1) := by decide +kernel
theorem dL_addRoom_11 : decode cL_addRoom 11 = .ok (.lastore, 1) := by decide +kernel
theorem dL_addRoom_12 : decode cL_addRoom 12 = .ok (.goto 11, 3) := by decide +kernel
theorem dL_addRoom_15 : decode cL_addRoom 15 = .ok (.astore 5, 2) := by decide +kernel
theorem dL_addRoom_17 : decode cL_addRoom 17 = .ok (.iconst 1, 1) := by decide +kernel
theorem dL_addRoom_18 : decode cL_addRoom 18 = .ok (.ireturn, 1) := by decide +kernel
theorem dL_addRoom_19 : decode cL_addRoom 19 = .ok (.astore 5, 2) := by decide +kernel
theorem dL_addRoom_21 : decode cL_addRoom 21 = .ok (.iconst 2, 1) := by decide +kernel
theorem dL_addRoom_22 : decode cL_addRoom 22 = .ok (.ireturn, 1) := by decide +kernel
theorem dL_addRoom_23 : decode cL_addRoom 23 = .ok (.iconst 0, 1) := by decide +kernel
theorem dL_addRoom_24 : decode cL_addRoom 24 = .ok (.ireturn, 1) := by decide +kernel
theorem dL_bore_0 : decode cL_bore 0 = .ok (.aload_n 3, 1) := by decide +kernel
theorem dL_bore_1 : decode cL_bore 1 = .ok (.iconst 0, 1) := by decide +kernel
theorem dL_bore_2 : decode cL_bore 2 = .ok (.aload_n 0, 1) := by decide +kernel
theorem dL_bore_3 : decode cL_bore 3 = .ok (.iload_n 1, 1) := by decide +kernel
theorem dL_bore_4 : decode cL_bore 4 = .ok (.iload_n 2, 1) := by decide +kernel
theorem dL_bore_5 : decode cL_bore 5 = .ok (.invokevirtual 26, 3) := by decide +kernel
theorem dL_bore_8 : decode cL_bore 8 = .ok (.i2l, 1) := by decide +kernel
theorem dL_bore_9 : decode cL_bore 9 = .ok (.lastore, 1) := by decide +kernel
theorem dL_bore_10 : decode cL_bore 10 = .ok (.goto 11, 3) := by decide +kernel
theorem dL_bore_13 : decode cL_bore 13 = .ok (.astore 4, 2) := by decide +kernel
theorem dL_bore_15 : decode cL_bore 15 = .ok (.iconst 1, 1) := by decide +kernel
theorem dL_bore_16 : decode cL_bore 16 = .ok (.ireturn, 1) := by decide +kernel
theorem dL_bore_17 : decode cL_bore 17 = .ok (.astore 4, 2) := by decide +kernel
theorem dL_bore_19 : decode cL_bore 19 = .ok (.iconst 2, 1) := by decide +kernel
theorem dL_bore_20 : decode cL_bore 20 = .ok (.ireturn, 1) := by decide +kernel
theorem dL_bore_21 : decode cL_bore 21 = .ok (.iconst 0, 1) := by decide +kernel
theorem dL_bore_22 : decode cL_bore 22 = .ok (.ireturn, 1) := by decide +kernel
theorem dL_paint_0 : decode cL_paint 0 = .ok (.aload_n 3, 1) := by decide +kernel
theorem dL_paint_1 : decode cL_paint 1 = .ok (.iconst 0, 1) := by decide +kernel
theorem dL_paint_2 : decode cL_paint 2 = .ok (.aload_n 0, 1) := by decide +kernel
theorem dL_paint_3 : decode cL_paint 3 = .ok (.iload_n 1, 1) := by decide +kernel
theorem dL_paint_4 : decode cL_paint 4 = .ok (.iload_n 2, 1) := by decide +kernel
theorem dL_paint_5 : decode cL_paint 5 = .ok (.invokevirtual 30, 3) := by decide +kernel
theorem dL_paint_8 : decode cL_paint 8 = .ok (.i2l, 1) := by decide +kernel
theorem dL_paint_9 : decode cL_paint 9 = .ok (.lastore, 1) := by decide +kernel
theorem dL_paint_10 : decode cL_paint 10 = .ok (.goto 11, 3) := by decide +kernel
theorem dL_paint_13 : decode cL_paint 13 = .ok (.astore 4, 2) := by decide +kernel
theorem dL_paint_15 : decode cL_paint 15 = .ok (.iconst 1, 1) := by decide +kernel
theorem dL_paint_16 : decode cL_paint 16 = .ok (.ireturn, 1) := by decide +kernel
theorem dL_paint_17 : decode cL_paint 17 = .ok (.astore 4, 2) := by decide +kernel
theorem dL_paint_19 : decode cL_paint 19 = .ok (.iconst 2, 1) := by decide +kernel
theorem dL_paint_20 : decode cL_paint 20 = .ok (.ireturn, 1) := by decide +kernel
theorem dL_paint_21 : decode cL_paint 21 = .ok (.iconst 0, 1) := by decide +kernel
theorem dL_paint_22 : decode cL_paint 22 = .ok (.ireturn, 1) := by decide +kernel
theorem dL_seat_0 : decode cL_seat 0 = .ok (.aload_n 3, 1) := by decide +kernel
theorem dL_seat_1 : decode cL_seat 1 = .ok (.iconst 0, 1) := by decide +kernel
theorem dL_seat_2 : decode cL_seat 2 = .ok (.aload_n 0, 1) := by decide +kernel
theorem dL_seat_3 : decode cL_seat 3 = .ok (.iload_n 1, 1) := by decide +kernel
theorem dL_seat_4 : decode cL_seat 4 = .ok (.iload_n 2, 1) := by decide +kernel
theorem dL_seat_5 : decode cL_seat 5 = .ok (.invokevirtual 33, 3) := by decide +kernel
theorem dL_seat_8 : decode cL_seat 8 = .ok (.i2l, 1) := by decide +kernel
theorem dL_seat_9 : decode cL_seat 9 = .ok (.lastore, 1) := by decide +kernel
theorem dL_seat_10 : decode cL_seat 10 = .ok (.goto 15, 3) := by decide +kernel
theorem dL_seat_13 : decode cL_seat 13 = .ok (.astore 4, 2) := by decide +kernel
theorem dL_seat_15 : decode cL_seat 15 = .ok (.iconst 1, 1) := by decide +kernel
theorem dL_seat_16 : decode cL_seat 16 = .ok (.ireturn, 1) := by decide +kernel
theorem dL_seat_17 : decode cL_seat 17 = .ok (.astore 4, 2) := by decide +kernel
theorem dL_seat_19 : decode cL_seat 19 = .ok (.iconst 2, 1) := by decide +kernel
theorem dL_seat_20 : decode cL_seat 20 = .ok (.ireturn, 1) := by decide +kernel
theorem dL_seat_21 : decode cL_seat 21 = .ok (.astore 4, 2) := by decide +kernel
theorem dL_seat_23 : decode cL_seat 23 = .ok (.iconst 3, 1) := by decide +kernel
theorem dL_seat_24 : decode cL_seat 24 = .ok (.ireturn, 1) := by decide +kernel
theorem dL_seat_25 : decode cL_seat 25 = .ok (.iconst 0, 1) := by decide +kernel
theorem dL_seat_26 : decode cL_seat 26 = .ok (.ireturn, 1) := by decide +kernel
theorem dL_passer_0 : decode cL_passer 0 = .ok (.aload_n 3, 1) := by decide +kernel
theorem dL_passer_1 : decode cL_passer 1 = .ok (.iconst 0, 1) := by decide +kernel
theorem dL_passer_2 : decode cL_passer 2 = .ok (.aload_n 0, 1) := by decide +kernel
theorem dL_passer_3 : decode cL_passer 3 = .ok (.iload_n 1, 1) := by decide +kernel
theorem dL_passer_4 : decode cL_passer 4 = .ok (.iload_n 2, 1) := by decide +kernel
theorem dL_passer_5 : decode cL_passer 5 = .ok (.invokevirtual 36, 3) := by decide +kernel
theorem dL_passer_8 : decode cL_passer 8 = .ok (.i2l, 1) := by decide +kernel
theorem dL_passer_9 : decode cL_passer 9 = .ok (.lastore, 1) := by decide +kernel
theorem dL_passer_10 : decode cL_passer 10 = .ok (.goto 7, 3) := by decide +kernel
theorem dL_passer_13 : decode cL_passer 13 = .ok (.astore 4, 2) := by decide +kernel
theorem dL_passer_15 : decode cL_passer 15 = .ok (.iconst 1, 1) := by decide +kernel
theorem dL_passer_16 : decode cL_passer 16 = .ok (.ireturn, 1) := by decide +kernel
theorem dL_passer_17 : decode cL_passer 17 = .ok (.iconst 0, 1) := by decide +kernel
theorem dL_passer_18 : decode cL_passer 18 = .ok (.ireturn, 1) := by decide +kernel
theorem dL_room_0 : decode cL_room 0 = .ok (.aload_n 3, 1) := by decide +kernel
theorem dL_room_1 : decode cL_room 1 = .ok (.iconst 0, 1) := by decide +kernel
theorem dL_room_2 : decode cL_room 2 = .ok (.aload_n 0, 1) := by decide +kernel
theorem dL_room_3 : decode cL_room 3 = .ok (.iload_n 1, 1) := by decide +kernel
theorem dL_room_4 : decode cL_room 4 = .ok (.iload_n 2, 1) := by decide +kernel
theorem dL_room_5 : decode cL_room 5 = .ok (.invokevirtual 39, 3) := by decide +kernel
theorem dL_room_8 : decode cL_room 8 = .ok (.i2l, 1) := by decide +kernel
theorem dL_room_9 : decode cL_room 9 = .ok (.lastore, 1) := by decide +kernel
theorem dL_room_10 : decode cL_room 10 = .ok (.goto 7, 3) := by decide +kernel
theorem dL_room_13 : decode cL_room 13 = .ok (.astore 4, 2) := by decide +kernel
theorem dL_room_15 : decode cL_room 15 = .ok (.iconst 1, 1) := by decide +kernel
theorem dL_room_16 : decode cL_room 16 = .ok (.ireturn, 1) := by decide +kernel
theorem dL_room_17 : decode cL_room 17 = .ok (.iconst 0, 1) := by decide +kernel
theorem dL_room_18 : decode cL_room 18 = .ok (.ireturn, 1) := by decide +kernel
theorem dL_wall_0 : decode cL_wall 0 = .ok (.aload_n 3, 1) := by decide +kernel
theorem dL_wall_1 : decode cL_wall 1 = .ok (.iconst 0, 1) := by decide +kernel
theorem dL_wall_2 : decode cL_wall 2 = .ok (.aload_n 0, 1) := by decide +kernel
theorem dL_wall_3 : decode cL_wall 3 = .ok (.iload_n 1, 1) := by decide +kernel
theorem dL_wall_4 : decode cL_wall 4 = .ok (.iload_n 2, 1) := by decide +kernel
theorem dL_wall_5 : decode cL_wall 5 = .ok (.invokevirtual 42, 3) := by decide +kernel
theorem dL_wall_8 : decode cL_wall 8 = .ok (.i2l, 1) := by decide +kernel
theorem dL_wall_9 : decode cL_wall 9 = .ok (.lastore, 1) := by decide +kernel
theorem dL_wall_10 : decode cL_wall 10 = .ok (.goto 7, 3) := by decide +kernel
theorem dL_wall_13 : decode cL_wall 13 = .ok (.astore 4, 2) := by decide +kernel
theorem dL_wall_15 : decode cL_wall 15 = .ok (.iconst 1, 1) := by decide +kernel
theorem dL_wall_16 : decode cL_wall 16 = .ok (.ireturn, 1) := by decide +kernel
theorem dL_wall_17 : decode cL_wall 17 = .ok (.iconst 0, 1) := by decide +kernel
theorem dL_wall_18 : decode cL_wall 18 = .ok (.ireturn, 1) := by decide +kernel
theorem dL_bright_0 : decode cL_bright 0 = .ok (.aload_n 3, 1) := by decide +kernel
theorem dL_bright_1 : decode cL_bright 1 = .ok (.iconst 0, 1) := by decide +kernel
theorem dL_bright_2 : decode cL_bright 2 = .ok (.aload_n 0, 1) := by decide +kernel
theorem dL_bright_3 : decode cL_bright 3 = .ok (.iload_n 1, 1) := by decide +kernel
theorem dL_bright_4 : decode cL_bright 4 = .ok (.iload_n 2, 1) := by decide +kernel
theorem dL_bright_5 : decode cL_bright 5 = .ok (.invokevirtual 45, 3) := by decide +kernel
theorem dL_bright_8 : decode cL_bright 8 = .ok (.i2l, 1) := by decide +kernel
theorem dL_bright_9 : decode cL_bright 9 = .ok (.lastore, 1) := by decide +kernel
theorem dL_bright_10 : decode cL_bright 10 = .ok (.goto 7, 3) := by decide +kernel
theorem dL_bright_13 : decode cL_bright 13 = .ok (.astore 4, 2) := by decide +kernel
theorem dL_bright_15 : decode cL_bright 15 = .ok (.iconst 1, 1) := by decide +kernel
theorem dL_bright_16 : decode cL_bright 16 = .ok (.ireturn, 1) := by decide +kernel
theorem dL_bright_17 : decode cL_bright 17 = .ok (.iconst 0, 1) := by decide +kernel
theorem dL_bright_18 : decode cL_bright 18 = .ok (.ireturn, 1) := by decide +kernel
theorem dL_count_0 : decode cL_count 0 = .ok (.aload_n 2, 1) := by decide +kernel
theorem dL_count_1 : decode cL_count 1 = .ok (.iconst 0, 1) := by decide +kernel
theorem dL_count_2 : decode cL_count 2 = .ok (.aload_n 0, 1) := by decide +kernel
theorem dL_count_3 : decode cL_count 3 = .ok (.iload_n 1, 1) := by decide +kernel
theorem dL_count_4 : decode cL_count 4 = .ok (.invokevirtual 48, 3) := by decide +kernel
theorem dL_count_7 : decode cL_count 7 = .ok (.i2l, 1) := by decide +kernel
theorem dL_count_8 : decode cL_count 8 = .ok (.lastore, 1) := by decide +kernel
theorem dL_count_9 : decode cL_count 9 = .ok (.goto 6, 3) := by decide +kernel
theorem dL_count_12 : decode cL_count 12 = .ok (.astore_n 3, 1) := by decide +kernel
theorem dL_count_13 : decode cL_count 13 = .ok (.iconst 1, 1) := by decide +kernel
theorem dL_count_14 : decode cL_count 14 = .ok (.ireturn, 1) := by decide +kernel
theorem dL_count_15 : decode cL_count 15 = .ok (.iconst 0, 1) := by decide +kernel
theorem dL_count_16 : decode cL_count 16 = .ok (.ireturn, 1) := by decide +kernel
theorem dL_go_0 : decode cL_go 0 = .ok (.aload_n 2, 1) := by decide +kernel
theorem dL_go_1 : decode cL_go 1 = .ok (.iconst 0, 1) := by decide +kernel
theorem dL_go_2 : decode cL_go 2 = .ok (.aload_n 0, 1) := by decide +kernel
theorem dL_go_3 : decode cL_go 3 = .ok (.iload_n 1, 1) := by decide +kernel
theorem dL_go_4 : decode cL_go 4 = .ok (.invokevirtual 52, 3) := by decide +kernel
theorem dL_go_7 : decode cL_go 7 = .ok (.i2l, 1) := by decide +kernel
theorem dL_go_8 : decode cL_go 8 = .ok (.lastore, 1) := by decide +kernel
theorem dL_go_9 : decode cL_go 9 = .ok (.goto 6, 3) := by decide +kernel
theorem dL_go_12 : decode cL_go 12 = .ok (.astore_n 3, 1) := by decide +kernel
theorem dL_go_13 : decode cL_go 13 = .ok (.iconst 1, 1) := by decide +kernel
theorem dL_go_14 : decode cL_go 14 = .ok (.ireturn, 1) := by decide +kernel
theorem dL_go_15 : decode cL_go 15 = .ok (.iconst 0, 1) := by decide +kernel
theorem dL_go_16 : decode cL_go 16 = .ok (.ireturn, 1) := by decide +kernel
theorem dL_when_0 : decode cL_when 0 = .ok (.aload_n 2, 1) := by decide +kernel
theorem dL_when_1 : decode cL_when 1 = .ok (.iconst 0, 1) := by decide +kernel
theorem dL_when_2 : decode cL_when 2 = .ok (.aload_n 0, 1) := by decide +kernel
theorem dL_when_3 : decode cL_when 3 = .ok (.iload_n 1, 1) := by decide +kernel
theorem dL_when_4 : decode cL_when 4 = .ok (.invokevirtual 55, 3) := by decide +kernel
theorem dL_when_7 : decode cL_when 7 = .ok (.i2l, 1) := by decide +kernel
theorem dL_when_8 : decode cL_when 8 = .ok (.lastore, 1) := by decide +kernel
theorem dL_when_9 : decode cL_when 9 = .ok (.goto 6, 3) := by decide +kernel
theorem dL_when_12 : decode cL_when 12 = .ok (.astore_n 3, 1) := by decide +kernel
theorem dL_when_13 : decode cL_when 13 = .ok (.iconst 1, 1) := by decide +kernel
theorem dL_when_14 : decode cL_when 14 = .ok (.ireturn, 1) := by decide +kernel
theorem dL_when_15 : decode cL_when 15 = .ok (.iconst 0, 1) := by decide +kernel
theorem dL_when_16 : decode cL_when 16 = .ok (.ireturn, 1) := by decide +kernel
theorem dL_advise_0 : decode cL_advise 0 = .ok (.aload_n 3, 1) := by decide +kernel
theorem dL_advise_1 : decode cL_advise 1 = .ok (.iconst 0, 1) := by decide +kernel
theorem dL_advise_2 : decode cL_advise 2 = .ok (.aload_n 0, 1) := by decide +kernel
theorem dL_advise_3 : decode cL_advise 3 = .ok (.iload_n 1, 1) := by decide +kernel
theorem dL_advise_4 : decode cL_advise 4 = .ok (.iload_n 2, 1) := by decide +kernel
theorem dL_advise_5 : decode cL_advise 5 = .ok (.invokevirtual 58, 3) := by decide +kernel
theorem dL_advise_8 : decode cL_advise 8 = .ok (.i2l, 1) := by decide +kernel
theorem dL_advise_9 : decode cL_advise 9 = .ok (.lastore, 1) := by decide +kernel
theorem dL_advise_10 : decode cL_advise 10 = .ok (.goto 11, 3) := by decide +kernel
theorem dL_advise_13 : decode cL_advise 13 = .ok (.astore 4, 2) := by decide +kernel
theorem dL_advise_15 : decode cL_advise 15 = .ok (.iconst 1, 1) := by decide +kernel
theorem dL_advise_16 : decode cL_advise 16 = .ok (.ireturn, 1) := by decide +kernel
theorem dL_advise_17 : decode cL_advise 17 = .ok (.astore 4, 2) := by decide +kernel
theorem dL_advise_19 : decode cL_advise 19 = .ok (.iconst 2, 1) := by decide +kernel
theorem dL_advise_20 : decode cL_advise 20 = .ok (.ireturn, 1) := by decide +kernel
theorem dL_advise_21 : decode cL_advise 21 = .ok (.iconst 0, 1) := by decide +kernel
theorem dL_advise_22 : decode cL_advise 22 = .ok (.ireturn, 1) := by decide +kernel
theorem dL_seen_0 : decode cL_seen 0 = .ok (.aload_n 2, 1) := by decide +kernel
theorem dL_seen_1 : decode cL_seen 1 = .ok (.iconst 0, 1) := by decide +kernel
theorem dL_seen_2 : decode cL_seen 2 = .ok (.aload_n 0, 1) := by decide +kernel
theorem dL_seen_3 : decode cL_seen 3 = .ok (.iload_n 1, 1) := by decide +kernel
theorem dL_seen_4 : decode cL_seen 4 = .ok (.invokevirtual 61, 3) := by decide +kernel
theorem dL_seen_7 : decode cL_seen 7 = .ok (.i2l, 1) := by decide +kernel
theorem dL_seen_8 : decode cL_seen 8 = .ok (.lastore, 1) := by decide +kernel
theorem dL_seen_9 : decode cL_seen 9 = .ok (.goto 6, 3) := by decide +kernel
theorem dL_seen_12 : decode cL_seen 12 = .ok (.astore_n 3, 1) := by decide +kernel
theorem dL_seen_13 : decode cL_seen 13 = .ok (.iconst 1, 1) := by decide +kernel
theorem dL_seen_14 : decode cL_seen 14 = .ok (.ireturn, 1) := by decide +kernel
theorem dL_seen_15 : decode cL_seen 15 = .ok (.iconst 0, 1) := by decide +kernel
theorem dL_seen_16 : decode cL_seen 16 = .ok (.ireturn, 1) := by decide +kernel
theorem dL_foresee_0 : decode cL_foresee 0 = .ok (.aload_n 3, 1) := by decide +kernel
theorem dL_foresee_1 : decode cL_foresee 1 = .ok (.iconst 0, 1) := by decide +kernel
theorem dL_foresee_2 : decode cL_foresee 2 = .ok (.aload_n 0, 1) := by decide +kernel
theorem dL_foresee_3 : decode cL_foresee 3 = .ok (.iload_n 1, 1) := by decide +kernel
theorem dL_foresee_4 : decode cL_foresee 4 = .ok (.iload_n 2, 1) := by decide +kernel
theorem dL_foresee_5 : decode cL_foresee 5 = .ok (.invokevirtual 64, 3) := by decide +kernel
theorem dL_foresee_8 : decode cL_foresee 8 = .ok (.i2l, 1) := by decide +kernel
theorem dL_foresee_9 : decode cL_foresee 9 = .ok (.lastore, 1) := by decide +kernel
theorem dL_foresee_10 : decode cL_foresee 10 = .ok (.goto 11, 3) := by decide +kernel
theorem dL_foresee_13 : decode cL_foresee 13 = .ok (.astore 4, 2) := by decide +kernel
theorem dL_foresee_15 : decode cL_foresee 15 = .ok (.iconst 1, 1) := by decide +kernel
theorem dL_foresee_16 : decode cL_foresee 16 = .ok (.ireturn, 1) := by decide +kernel
theorem dL_foresee_17 : decode cL_foresee 17 = .ok (.astore 4, 2) := by decide +kernel
theorem dL_foresee_19 : decode cL_foresee 19 = .ok (.iconst 2, 1) := by decide +kernel
theorem dL_foresee_20 : decode cL_foresee 20 = .ok (.ireturn, 1) := by decide +kernel
theorem dL_foresee_21 : decode cL_foresee 21 = .ok (.iconst 0, 1) := by decide +kernel
theorem dL_foresee_22 : decode cL_foresee 22 = .ok (.ireturn, 1) := by decide +kernel
theorem dL_law_0 : decode cL_law 0 = .ok (.new 8, 3) := by decide +kernel
theorem dL_law_3 : decode cL_law 3 = .ok (.dup, 1) := by decide +kernel
theorem dL_law_4 : decode cL_law 4 = .ok (.invokespecial 67, 3) := by decide +kernel
theorem dL_law_7 : decode cL_law 7 = .ok (.astore_n 1, 1) := by decide +kernel
theorem dL_law_8 : decode cL_law 8 = .ok (.new 68, 3) := by decide +kernel
theorem dL_law_11 : decode cL_law 11 = .ok (.dup, 1) := by decide +kernel
theorem dL_law_12 : decode cL_law 12 = .ok (.invokespecial 70, 3) := by decide +kernel
theorem dL_law_15 : decode cL_law 15 = .ok (.astore_n 2, 1) := by decide +kernel
theorem dL_law_16 : decode cL_law 16 = .ok (.iconst 1, 1) := by decide +kernel
theorem dL_law_17 : decode cL_law 17 = .ok (.newarray .long, 2) := by decide +kernel
theorem dL_law_19 : decode cL_law 19 = .ok (.astore_n 3, 1) := by decide +kernel
theorem dL_law_20 : decode cL_law 20 = .ok (.iconst 0, 1) := by decide +kernel
theorem dL_law_21 : decode cL_law 21 = .ok (.istore 4, 2) := by decide +kernel
theorem dL_law_23 : decode cL_law 23 = .ok (.iload 4, 2) := by decide +kernel
theorem dL_law_25 : decode cL_law 25 = .ok (.aload_n 0, 1) := by decide +kernel
theorem dL_law_26 : decode cL_law 26 = .ok (.arraylength, 1) := by decide +kernel
theorem dL_law_27 : decode cL_law 27 = .ok (.iconst 5, 1) := by decide +kernel
theorem dL_law_28 : decode cL_law 28 = .ok (.isub, 1) := by decide +kernel
theorem dL_law_29 : decode cL_law 29 = .ok (.if_icmp .gt 1244, 3) := by decide +kernel
theorem dL_law_32 : decode cL_law 32 = .ok (.aload_n 0, 1) := by decide +kernel
theorem dL_law_33 : decode cL_law 33 = .ok (.iload 4, 2) := by decide +kernel
theorem dL_law_35 : decode cL_law 35 = .ok (.iaload, 1) := by decide +kernel
theorem dL_law_36 : decode cL_law 36 = .ok (.bipush 31, 2) := by decide +kernel
theorem dL_law_38 : decode cL_law 38 = .ok (.iand, 1) := by decide +kernel
theorem dL_law_39 : decode cL_law 39 = .ok (.tableswitch 1228 0 17 #[85, 177, 257, 337, 405, 473, 541, 609, 677, 745, 813, 869, 925, 981, 1049, 1105, 1173, 1214], 85) := by decide +kernel
theorem dL_law_124 : decode cL_law 124 = .ok (.aload_n 1, 1) := by decide +kernel
theorem dL_law_125 : decode cL_law 125 = .ok (.aload_n 0, 1) := by decide +kernel
theorem dL_law_126 : decode cL_law 126 = .ok (.iload 4, 2) := by decide +kernel
theorem dL_law_128 : decode cL_law 128 = .ok (.iconst 1, 1) := by decide +kernel
theorem dL_law_129 : decode cL_law 129 = .ok (.iadd, 1) := by decide +kernel
theorem dL_law_130 : decode cL_law 130 = .ok (.iaload, 1) := by decide +kernel
theorem dL_law_131 : decode cL_law 131 = .ok (.aload_n 0, 1) := by decide +kernel
theorem dL_law_132 : decode cL_law 132 = .ok (.iload 4, 2) := by decide +kernel
theorem dL_law_134 : decode cL_law 134 = .ok (.iconst 2, 1) := by decide +kernel
theorem dL_law_135 : decode cL_law 135 = .ok (.iadd, 1) := by decide +kernel
theorem dL_law_136 : decode cL_law 136 = .ok (.iaload, 1) := by decide +kernel
theorem dL_law_137 : decode cL_law 137 = .ok (.aload_n 0, 1) := by decide +kernel
theorem dL_law_138 : decode cL_law 138 = .ok (.iload 4, 2) := by decide +kernel
theorem dL_law_140 : decode cL_law 140 = .ok (.iconst 3, 1) := by decide +kernel
theorem dL_law_141 : decode cL_law 141 = .ok (.iadd, 1) := by decide +kernel
theorem dL_law_142 : decode cL_law 142 = .ok (.iaload, 1) := by decide +kernel
theorem dL_law_143 : decode cL_law 143 = .ok (.aload_n 0, 1) := by decide +kernel
theorem dL_law_144 : decode cL_law 144 = .ok (.iload 4, 2) := by decide +kernel
theorem dL_law_146 : decode cL_law 146 = .ok (.iconst 4, 1) := by decide +kernel
theorem dL_law_147 : decode cL_law 147 = .ok (.iadd, 1) := by decide +kernel
theorem dL_law_148 : decode cL_law 148 = .ok (.iaload, 1) := by decide +kernel
theorem dL_law_149 : decode cL_law 149 = .ok (.aload_n 3, 1) := by decide +kernel
theorem dL_law_150 : decode cL_law 150 = .ok (.invokestatic 71, 3) := by decide +kernel
theorem dL_law_153 : decode cL_law 153 = .ok (.istore 5, 2) := by decide +kernel
theorem dL_law_155 : decode cL_law 155 = .ok (.aload_n 2, 1) := by decide +kernel
theorem dL_law_156 : decode cL_law 156 = .ok (.aload_n 0, 1) := by decide +kernel
theorem dL_law_157 : decode cL_law 157 = .ok (.iload 4, 2) := by decide +kernel
theorem dL_law_159 : decode cL_law 159 = .ok (.iconst 1, 1) := by decide +kernel
theorem dL_law_160 : decode cL_law 160 = .ok (.iadd, 1) := by decide +kernel
theorem dL_law_161 : decode cL_law 161 = .ok (.iaload, 1) := by decide +kernel
theorem dL_law_162 : decode cL_law 162 = .ok (.aload_n 0, 1) := by decide +kernel
theorem dL_law_163 : decode cL_law 163 = .ok (.iload 4, 2) := by decide +kernel
theorem dL_law_165 : decode cL_law 165 = .ok (.iconst 2, 1) := by decide +kernel
theorem dL_law_166 : decode cL_law 166 = .ok (.iadd, 1) := by decide +kernel
theorem dL_law_167 : decode cL_law 167 = .ok (.iaload, 1) := by decide +kernel
theorem dL_law_168 : decode cL_law 168 = .ok (.aload_n 0, 1) := by decide +kernel
theorem dL_law_169 : decode cL_law 169 = .ok (.iload 4, 2) := by decide +kernel
theorem dL_law_171 : decode cL_law 171 = .ok (.iconst 3, 1) := by decide +kernel
theorem dL_law_172 : decode cL_law 172 = .ok (.iadd, 1) := by decide +kernel
theorem dL_law_173 : decode cL_law 173 = .ok (.iaload, 1) := by decide +kernel
theorem dL_law_174 : decode cL_law 174 = .ok (.aload_n 0, 1) := by decide +kernel
theorem dL_law_175 : decode cL_law 175 = .ok (.iload 4, 2) := by decide +kernel
theorem dL_law_177 : decode cL_law 177 = .ok (.iconst 4, 1) := by decide +kernel
theorem dL_law_178 : decode cL_law 178 = .ok (.iadd, 1) := by decide +kernel
theorem dL_law_179 : decode cL_law 179 = .ok (.iaload, 1) := by decide +kernel
theorem dL_law_180 : decode cL_law 180 = .ok (.invokevirtual 76, 3) := by decide +kernel
theorem dL_law_183 : decode cL_law 183 = .ok (.istore 6, 2) := by decide +kernel
theorem dL_law_185 : decode cL_law 185 = .ok (.aload_n 2, 1) := by decide +kernel
theorem dL_law_186 : decode cL_law 186 = .ok (.invokevirtual 77, 3) := by decide +kernel
theorem dL_law_189 : decode cL_law 189 = .ok (.iload 5, 2) := by decide +kernel
theorem dL_law_191 : decode cL_law 191 = .ok (.if_icmp .eq 5, 3) := by decide +kernel
theorem dL_law_194 : decode cL_law 194 = .ok (.iconst 0, 1) := by decide +kernel
theorem dL_law_195 : decode cL_law 195 = .ok (.ireturn, 1) := by decide +kernel
theorem dL_law_196 : decode cL_law 196 = .ok (.iload 5, 2) := by decide +kernel
theorem dL_law_198 : decode cL_law 198 = .ok (.ifCond .ne 15, 3) := by decide +kernel
theorem dL_law_201 : decode cL_law 201 = .ok (.aload_n 3, 1) := by decide +kernel
theorem dL_law_202 : decode cL_law 202 = .ok (.iconst 0, 1) := by decide +kernel
theorem dL_law_203 : decode cL_law 203 = .ok (.laload, 1) := by decide +kernel
theorem dL_law_204 : decode cL_law 204 = .ok (.iload 6, 2) := by decide +kernel
theorem dL_law_206 : decode cL_law 206 = .ok (.i2l, 1) := by decide +kernel
theorem dL_law_207 : decode cL_law 207 = .ok (.lcmp, 1) := by decide +kernel
theorem dL_law_208 : decode cL_law 208 = .ok (.ifCond .eq 5, 3) := by decide +kernel
theorem dL_law_211 : decode cL_law 211 = .ok (.iconst 0, 1) := by decide +kernel
theorem dL_law_212 : decode cL_law 212 = .ok (.ireturn, 1) := by decide +kernel
theorem dL_law_213 : decode cL_law 213 = .ok (.goto 1054, 3) := by decide +kernel
theorem dL_law_216 : decode cL_law 216 = .ok (.aload_n 1, 1) := by decide +kernel
theorem dL_law_217 : decode cL_law 217 = .ok (.aload_n 0, 1) := by decide +kernel
theorem dL_law_218 : decode cL_law 218 = .ok (.iload 4, 2) := by decide +kernel
theorem dL_law_220 : decode cL_law 220 = .ok (.iconst 1, 1) := by decide +kernel
theorem dL_law_221 : decode cL_law 221 = .ok (.iadd, 1) := by decide +kernel
theorem dL_law_222 : decode cL_law 222 = .ok (.iaload, 1) := by decide +kernel
theorem dL_law_223 : decode cL_law 223 = .ok (.aload_n 0, 1) := by decide +kernel
theorem dL_law_224 : decode cL_law 224 = .ok (.iload 4, 2) := by decide +kernel
theorem dL_law_226 : decode cL_law 226 = .ok (.iconst 2, 1) := by decide +kernel
theorem dL_law_227 : decode cL_law 227 = .ok (.iadd, 1) := by decide +kernel
theorem dL_law_228 : decode cL_law 228 = .ok (.iaload, 1) := by decide +kernel
theorem dL_law_229 : decode cL_law 229 = .ok (.aload_n 0, 1) := by decide +kernel
theorem dL_law_230 : decode cL_law 230 = .ok (.iload 4, 2) := by decide +kernel
theorem dL_law_232 : decode cL_law 232 = .ok (.iconst 3, 1) := by decide +kernel
theorem dL_law_233 : decode cL_law 233 = .ok (.iadd, 1) := by decide +kernel
theorem dL_law_234 : decode cL_law 234 = .ok (.iaload, 1) := by decide +kernel
theorem dL_law_235 : decode cL_law 235 = .ok (.aload_n 3, 1) := by decide +kernel
theorem dL_law_236 : decode cL_law 236 = .ok (.invokestatic 81, 3) := by decide +kernel
theorem dL_law_239 : decode cL_law 239 = .ok (.istore 5, 2) := by decide +kernel
theorem dL_law_241 : decode cL_law 241 = .ok (.aload_n 2, 1) := by decide +kernel
theorem dL_law_242 : decode cL_law 242 = .ok (.aload_n 0, 1) := by decide +kernel
theorem dL_law_243 : decode cL_law 243 = .ok (.iload 4, 2) := by decide +kernel
theorem dL_law_245 : decode cL_law 245 = .ok (.iconst 1, 1) := by decide +kernel
theorem dL_law_246 : decode cL_law 246 = .ok (.iadd, 1) := by decide +kernel
theorem dL_law_247 : decode cL_law 247 = .ok (.iaload, 1) := by decide +kernel
theorem dL_law_248 : decode cL_law 248 = .ok (.aload_n 0, 1) := by decide +kernel
theorem dL_law_249 : decode cL_law 249 = .ok (.iload 4, 2) := by decide +kernel
theorem dL_law_251 : decode cL_law 251 = .ok (.iconst 2, 1) := by decide +kernel
theorem dL_law_252 : decode cL_law 252 = .ok (.iadd, 1) := by decide +kernel
theorem dL_law_253 : decode cL_law 253 = .ok (.iaload, 1) := by decide +kernel
theorem dL_law_254 : decode cL_law 254 = .ok (.aload_n 0, 1) := by decide +kernel
theorem dL_law_255 : decode cL_law 255 = .ok (.iload 4, 2) := by decide +kernel
theorem dL_law_257 : decode cL_law 257 = .ok (.iconst 3, 1) := by decide +kernel
theorem dL_law_258 : decode cL_law 258 = .ok (.iadd, 1) := by decide +kernel
theorem dL_law_259 : decode cL_law 259 = .ok (.iaload, 1) := by decide +kernel
theorem dL_law_260 : decode cL_law 260 = .ok (.invokevirtual 84, 3) := by decide +kernel
theorem dL_law_263 : decode cL_law 263 = .ok (.istore 6, 2) := by decide +kernel
theorem dL_law_265 : decode cL_law 265 = .ok (.aload_n 2, 1) := by decide +kernel
theorem dL_law_266 : decode cL_law 266 = .ok (.invokevirtual 77, 3) := by decide +kernel
theorem dL_law_269 : decode cL_law 269 = .ok (.iload 5, 2) := by decide +kernel
theorem dL_law_271 : decode cL_law 271 = .ok (.if_icmp .eq 5, 3) := by decide +kernel
theorem dL_law_274 : decode cL_law 274 = .ok (.iconst 0, 1) := by decide +kernel
theorem dL_law_275 : decode cL_law 275 = .ok (.ireturn, 1) := by decide +kernel
theorem dL_law_276 : decode cL_law 276 = .ok (.iload 5, 2) := by decide +kernel
theorem dL_law_278 : decode cL_law 278 = .ok (.ifCond .ne 15, 3) := by decide +kernel
theorem dL_law_281 : decode cL_law 281 = .ok (.aload_n 3, 1) := by decide +kernel
theorem dL_law_282 : decode cL_law 282 = .ok (.iconst 0, 1) := by decide +kernel
theorem dL_law_283 : decode cL_law 283 = .ok (.laload, 1) := by decide +kernel
theorem dL_law_284 : decode cL_law 284 = .ok (.iload 6, 2) := by decide +kernel
theorem dL_law_286 : decode cL_law 286 = .ok (.i2l, 1) := by decide +kernel
theorem dL_law_287 : decode cL_law 287 = .ok (.lcmp, 1) := by decide +kernel
theorem dL_law_288 : decode cL_law 288 = .ok (.ifCond .eq 5, 3) := by decide +kernel
theorem dL_law_291 : decode cL_law 291 = .ok (.iconst 0, 1) := by decide +kernel
theorem dL_law_292 : decode cL_law 292 = .ok (.ireturn, 1) := by decide +kernel
theorem dL_law_293 : decode cL_law 293 = .ok (.goto 974, 3) := by decide +kernel
theorem dL_law_296 : decode cL_law 296 = .ok (.aload_n 1, 1) := by decide +kernel
theorem dL_law_297 : decode cL_law 297 = .ok (.aload_n 0, 1) := by decide +kernel
theorem dL_law_298 : decode cL_law 298 = .ok (.iload 4, 2) := by decide +kernel
theorem dL_law_300 : decode cL_law 300 = .ok (.iconst 1, 1) := by decide +kernel
theorem dL_law_301 : decode cL_law 301 = .ok (.iadd, 1) := by decide +kernel
theorem dL_law_302 : decode cL_law 302 = .ok (.iaload, 1) := by decide +kernel
theorem dL_law_303 : decode cL_law 303 = .ok (.aload_n 0, 1) := by decide +kernel
theorem dL_law_304 : decode cL_law 304 = .ok (.iload 4, 2) := by decide +kernel
theorem dL_law_306 : decode cL_law 306 = .ok (.iconst 2, 1) := by decide +kernel
theorem dL_law_307 : decode cL_law 307 = .ok (.iadd, 1) := by decide +kernel
theorem dL_law_308 : decode cL_law 308 = .ok (.iaload, 1) := by decide +kernel
theorem dL_law_309 : decode cL_law 309 = .ok (.aload_n 0, 1) := by decide +kernel
theorem dL_law_310 : decode cL_law 310 = .ok (.iload 4, 2) := by decide +kernel
theorem dL_law_312 : decode cL_law 312 = .ok (.iconst 3, 1) := by decide +kernel
theorem dL_law_313 : decode cL_law 313 = .ok (.iadd, 1) := by decide +kernel
theorem dL_law_314 : decode cL_law 314 = .ok (.iaload, 1) := by decide +kernel
theorem dL_law_315 : decode cL_law 315 = .ok (.aload_n 3, 1) := by decide +kernel
theorem dL_law_316 : decode cL_law 316 = .ok (.invokestatic 85, 3) := by decide +kernel
theorem dL_law_319 : decode cL_law 319 = .ok (.istore 5, 2) := by decide +kernel
theorem dL_law_321 : decode cL_law 321 = .ok (.aload_n 2, 1) := by decide +kernel
theorem dL_law_322 : decode cL_law 322 = .ok (.aload_n 0, 1) := by decide +kernel
theorem dL_law_323 : decode cL_law 323 = .ok (.iload 4, 2) := by decide +kernel
theorem dL_law_325 : decode cL_law 325 = .ok (.iconst 1, 1) := by decide +kernel
theorem dL_law_326 : decode cL_law 326 = .ok (.iadd, 1) := by decide +kernel
theorem dL_law_327 : decode cL_law 327 = .ok (.iaload, 1) := by decide +kernel
theorem dL_law_328 : decode cL_law 328 = .ok (.aload_n 0, 1) := by decide +kernel
theorem dL_law_329 : decode cL_law 329 = .ok (.iload 4, 2) := by decide +kernel
theorem dL_law_331 : decode cL_law 331 = .ok (.iconst 2, 1) := by decide +kernel
theorem dL_law_332 : decode cL_law 332 = .ok (.iadd, 1) := by decide +kernel
theorem dL_law_333 : decode cL_law 333 = .ok (.iaload, 1) := by decide +kernel
theorem dL_law_334 : decode cL_law 334 = .ok (.aload_n 0, 1) := by decide +kernel
theorem dL_law_335 : decode cL_law 335 = .ok (.iload 4, 2) := by decide +kernel
theorem dL_law_337 : decode cL_law 337 = .ok (.iconst 3, 1) := by decide +kernel
theorem dL_law_338 : decode cL_law 338 = .ok (.iadd, 1) := by decide +kernel
theorem dL_law_339 : decode cL_law 339 = .ok (.iaload, 1) := by decide +kernel
theorem dL_law_340 : decode cL_law 340 = .ok (.invokevirtual 87, 3) := by decide +kernel
theorem dL_law_343 : decode cL_law 343 = .ok (.istore 6, 2) := by decide +kernel
theorem dL_law_345 : decode cL_law 345 = .ok (.aload_n 2, 1) := by decide +kernel
theorem dL_law_346 : decode cL_law 346 = .ok (.invokevirtual 77, 3) := by decide +kernel
theorem dL_law_349 : decode cL_law 349 = .ok (.iload 5, 2) := by decide +kernel
theorem dL_law_351 : decode cL_law 351 = .ok (.if_icmp .eq 5, 3) := by decide +kernel
theorem dL_law_354 : decode cL_law 354 = .ok (.iconst 0, 1) := by decide +kernel
theorem dL_law_355 : decode cL_law 355 = .ok (.ireturn, 1) := by decide +kernel
theorem dL_law_356 : decode cL_law 356 = .ok (.iload 5, 2) := by decide +kernel
theorem dL_law_358 : decode cL_law 358 = .ok (.ifCond .ne 15, 3) := by decide +kernel
theorem dL_law_361 : decode cL_law 361 = .ok (.aload_n 3, 1) := by decide +kernel
theorem dL_law_362 : decode cL_law 362 = .ok (.iconst 0, 1) := by decide +kernel
theorem dL_law_363 : decode cL_law 363 = .ok (.laload, 1) := by decide +kernel
theorem dL_law_364 : decode cL_law 364 = .ok (.iload 6, 2) := by decide +kernel
theorem dL_law_366 : decode cL_law 366 = .ok (.i2l, 1) := by decide +kernel
theorem dL_law_367 : decode cL_law 367 = .ok (.lcmp, 1) := by decide +kernel
theorem dL_law_368 : decode cL_law 368 = .ok (.ifCond .eq 5, 3) := by decide +kernel
theorem dL_law_371 : decode cL_law 371 = .ok (.iconst 0, 1) := by decide +kernel
theorem dL_law_372 : decode cL_law 372 = .ok (.ireturn, 1) := by decide +kernel
theorem dL_law_373 : decode cL_law 373 = .ok (.goto 894, 3) := by decide +kernel
theorem dL_law_376 : decode cL_law 376 = .ok (.aload_n 1, 1) := by decide +kernel
theorem dL_law_377 : decode cL_law 377 = .ok (.aload_n 0, 1) := by decide +kernel
theorem dL_law_378 : decode cL_law 378 = .ok (.iload 4, 2) := by decide +kernel
theorem dL_law_380 : decode cL_law 380 = .ok (.iconst 1, 1) := by decide +kernel
theorem dL_law_381 : decode cL_law 381 = .ok (.iadd, 1) := by decide +kernel
theorem dL_law_382 : decode cL_law 382 = .ok (.iaload, 1) := by decide +kernel
theorem dL_law_383 : decode cL_law 383 = .ok (.aload_n 0, 1) := by decide +kernel
theorem dL_law_384 : decode cL_law 384 = .ok (.iload 4, 2) := by decide +kernel
theorem dL_law_386 : decode cL_law 386 = .ok (.iconst 2, 1) := by decide +kernel
theorem dL_law_387 : decode cL_law 387 = .ok (.iadd, 1) := by decide +kernel
theorem dL_law_388 : decode cL_law 388 = .ok (.iaload, 1) := by decide +kernel
theorem dL_law_389 : decode cL_law 389 = .ok (.aload_n 3, 1) := by decide +kernel
theorem dL_law_390 : decode cL_law 390 = .ok (.invokestatic 88, 3) := by decide +kernel
theorem dL_law_393 : decode cL_law 393 = .ok (.istore 5, 2) := by decide +kernel
theorem dL_law_395 : decode cL_law 395 = .ok (.aload_n 2, 1) := by decide +kernel
theorem dL_law_396 : decode cL_law 396 = .ok (.aload_n 0, 1) := by decide +kernel
theorem dL_law_397 : decode cL_law 397 = .ok (.iload 4, 2) := by decide +kernel
theorem dL_law_399 : decode cL_law 399 = .ok (.iconst 1, 1) := by decide +kernel
theorem dL_law_400 : decode cL_law 400 = .ok (.iadd, 1) := by decide +kernel
theorem dL_law_401 : decode cL_law 401 = .ok (.iaload, 1) := by decide +kernel
theorem dL_law_402 : decode cL_law 402 = .ok (.aload_n 0, 1) := by decide +kernel
theorem dL_law_403 : decode cL_law 403 = .ok (.iload 4, 2) := by decide +kernel
theorem dL_law_405 : decode cL_law 405 = .ok (.iconst 2, 1) := by decide +kernel
theorem dL_law_406 : decode cL_law 406 = .ok (.iadd, 1) := by decide +kernel
theorem dL_law_407 : decode cL_law 407 = .ok (.iaload, 1) := by decide +kernel
theorem dL_law_408 : decode cL_law 408 = .ok (.invokevirtual 91, 3) := by decide +kernel
theorem dL_law_411 : decode cL_law 411 = .ok (.istore 6, 2) := by decide +kernel
theorem dL_law_413 : decode cL_law 413 = .ok (.aload_n 2, 1) := by decide +kernel
theorem dL_law_414 : decode cL_law 414 = .ok (.invokevirtual 77, 3) := by decide +kernel
theorem dL_law_417 : decode cL_law 417 = .ok (.iload 5, 2) := by decide +kernel
theorem dL_law_419 : decode cL_law 419 = .ok (.if_icmp .eq 5, 3) := by decide +kernel
theorem dL_law_422 : decode cL_law 422 = .ok (.iconst 0, 1) := by decide +kernel
theorem dL_law_423 : decode cL_law 423 = .ok (.ireturn, 1) := by decide +kernel
theorem dL_law_424 : decode cL_law 424 = .ok (.iload 5, 2) := by decide +kernel
theorem dL_law_426 : decode cL_law 426 = .ok (.ifCond .ne 15, 3) := by decide +kernel
theorem dL_law_429 : decode cL_law 429 = .ok (.aload_n 3, 1) := by decide +kernel
theorem dL_law_430 : decode cL_law 430 = .ok (.iconst 0, 1) := by decide +kernel
theorem dL_law_431 : decode cL_law 431 = .ok (.laload, 1) := by decide +kernel
theorem dL_law_432 : decode cL_law 432 = .ok (.iload 6, 2) := by decide +kernel
theorem dL_law_434 : decode cL_law 434 = .ok (.i2l, 1) := by decide +kernel
theorem dL_law_435 : decode cL_law 435 = .ok (.lcmp, 1) := by decide +kernel
theorem dL_law_436 : decode cL_law 436 = .ok (.ifCond .eq 5, 3) := by decide +kernel
theorem dL_law_439 : decode cL_law 439 = .ok (.iconst 0, 1) := by decide +kernel
theorem dL_law_440 : decode cL_law 440 = .ok (.ireturn, 1) := by decide +kernel
theorem dL_law_441 : decode cL_law 441 = .ok (.goto 826, 3) := by decide +kernel
theorem dL_law_444 : decode cL_law 444 = .ok (.aload_n 1, 1) := by decide +kernel
theorem dL_law_445 : decode cL_law 445 = .ok (.aload_n 0, 1) := by decide +kernel
theorem dL_law_446 : decode cL_law 446 = .ok (.iload 4, 2) := by decide +kernel
theorem dL_law_448 : decode cL_law 448 = .ok (.iconst 1, 1) := by decide +kernel
theorem dL_law_449 : decode cL_law 449 = .ok (.iadd, 1) := by decide +kernel
theorem dL_law_450 : decode cL_law 450 = .ok (.iaload, 1) := by decide +kernel
theorem dL_law_451 : decode cL_law 451 = .ok (.aload_n 0, 1) := by decide +kernel
theorem dL_law_452 : decode cL_law 452 = .ok (.iload 4, 2) := by decide +kernel
theorem dL_law_454 : decode cL_law 454 = .ok (.iconst 2, 1) := by decide +kernel
theorem dL_law_455 : decode cL_law 455 = .ok (.iadd, 1) := by decide +kernel
theorem dL_law_456 : decode cL_law 456 = .ok (.iaload, 1) := by decide +kernel
theorem dL_law_457 : decode cL_law 457 = .ok (.aload_n 3, 1) := by decide +kernel
theorem dL_law_458 : decode cL_law 458 = .ok (.invokestatic 92, 3) := by decide +kernel
theorem dL_law_461 : decode cL_law 461 = .ok (.istore 5, 2) := by decide +kernel
theorem dL_law_463 : decode cL_law 463 = .ok (.aload_n 2, 1) := by decide +kernel
theorem dL_law_464 : decode cL_law 464 = .ok (.aload_n 0, 1) := by decide +kernel
theorem dL_law_465 : decode cL_law 465 = .ok (.iload 4, 2) := by decide +kernel
theorem dL_law_467 : decode cL_law 467 = .ok (.iconst 1, 1) := by decide +kernel
theorem dL_law_468 : decode cL_law 468 = .ok (.iadd, 1) := by decide +kernel
theorem dL_law_469 : decode cL_law 469 = .ok (.iaload, 1) := by decide +kernel
theorem dL_law_470 : decode cL_law 470 = .ok (.aload_n 0, 1) := by decide +kernel
theorem dL_law_471 : decode cL_law 471 = .ok (.iload 4, 2) := by decide +kernel
theorem dL_law_473 : decode cL_law 473 = .ok (.iconst 2, 1) := by decide +kernel
theorem dL_law_474 : decode cL_law 474 = .ok (.iadd, 1) := by decide +kernel
theorem dL_law_475 : decode cL_law 475 = .ok (.iaload, 1) := by decide +kernel
theorem dL_law_476 : decode cL_law 476 = .ok (.invokevirtual 94, 3) := by decide +kernel
theorem dL_law_479 : decode cL_law 479 = .ok (.istore 6, 2) := by decide +kernel
theorem dL_law_481 : decode cL_law 481 = .ok (.aload_n 2, 1) := by decide +kernel
theorem dL_law_482 : decode cL_law 482 = .ok (.invokevirtual 77, 3) := by decide +kernel
theorem dL_law_485 : decode cL_law 485 = .ok (.iload 5, 2) := by decide +kernel
theorem dL_law_487 : decode cL_law 487 = .ok (.if_icmp .eq 5, 3) := by decide +kernel
theorem dL_law_490 : decode cL_law 490 = .ok (.iconst 0, 1) := by decide +kernel
theorem dL_law_491 : decode cL_law 491 = .ok (.ireturn, 1) := by decide +kernel
theorem dL_law_492 : decode cL_law 492 = .ok (.iload 5, 2) := by decide +kernel
theorem dL_law_494 : decode cL_law 494 = .ok (.ifCond .ne 15, 3) := by decide +kernel
theorem dL_law_497 : decode cL_law 497 = .ok (.aload_n 3, 1) := by decide +kernel
theorem dL_law_498 : decode cL_law 498 = .ok (.iconst 0, 1) := by decide +kernel
theorem dL_law_499 : decode cL_law 499 = .ok (.laload, 1) := by decide +kernel
theorem dL_law_500 : decode cL_law 500 = .ok (.iload 6, 2) := by decide +kernel
theorem dL_law_502 : decode cL_law 502 = .ok (.i2l, 1) := by decide +kernel
theorem dL_law_503 : decode cL_law 503 = .ok (.lcmp, 1) := by decide +kernel
theorem dL_law_504 : decode cL_law 504 = .ok (.ifCond .eq 5, 3) := by decide +kernel
theorem dL_law_507 : decode cL_law 507 = .ok (.iconst 0, 1) := by decide +kernel
theorem dL_law_508 : decode cL_law 508 = .ok (.ireturn, 1) := by decide +kernel
theorem dL_law_509 : decode cL_law 509 = .ok (.goto 758, 3) := by decide +kernel
theorem dL_law_512 : decode cL_law 512 = .ok (.aload_n 1, 1) := by decide +kernel
theorem dL_law_513 : decode cL_law 513 = .ok (.aload_n 0, 1) := by decide +kernel
theorem dL_law_514 : decode cL_law 514 = .ok (.iload 4, 2) := by decide +kernel
theorem dL_law_516 : decode cL_law 516 = .ok (.iconst 1, 1) := by decide +kernel
theorem dL_law_517 : decode cL_law 517 = .ok (.iadd, 1) := by decide +kernel
theorem dL_law_518 : decode cL_law 518 = .ok (.iaload, 1) := by decide +kernel
theorem dL_law_519 : decode cL_law 519 = .ok (.aload_n 0, 1) := by decide +kernel
theorem dL_law_520 : decode cL_law 520 = .ok (.iload 4, 2) := by decide +kernel
theorem dL_law_522 : decode cL_law 522 = .ok (.iconst 2, 1) := by decide +kernel
theorem dL_law_523 : decode cL_law 523 = .ok (.iadd, 1) := by decide +kernel
theorem dL_law_524 : decode cL_law 524 = .ok (.iaload, 1) := by decide +kernel
theorem dL_law_525 : decode cL_law 525 = .ok (.aload_n 3, 1) := by decide +kernel
theorem dL_law_526 : decode cL_law 526 = .ok (.invokestatic 95, 3) := by decide +kernel
theorem dL_law_529 : decode cL_law 529 = .ok (.istore 5, 2) := by decide +kernel
theorem dL_law_531 : decode cL_law 531 = .ok (.aload_n 2, 1) := by decide +kernel
theorem dL_law_532 : decode cL_law 532 = .ok (.aload_n 0, 1) := by decide +kernel
theorem dL_law_533 : decode cL_law 533 = .ok (.iload 4, 2) := by decide +kernel
theorem dL_law_535 : decode cL_law 535 = .ok (.iconst 1, 1) := by decide +kernel
theorem dL_law_536 : decode cL_law 536 = .ok (.iadd, 1) := by decide +kernel
theorem dL_law_537 : decode cL_law 537 = .ok (.iaload, 1) := by decide +kernel
theorem dL_law_538 : decode cL_law 538 = .ok (.aload_n 0, 1) := by decide +kernel
theorem dL_law_539 : decode cL_law 539 = .ok (.iload 4, 2) := by decide +kernel
theorem dL_law_541 : decode cL_law 541 = .ok (.iconst 2, 1) := by decide +kernel
theorem dL_law_542 : decode cL_law 542 = .ok (.iadd, 1) := by decide +kernel
theorem dL_law_543 : decode cL_law 543 = .ok (.iaload, 1) := by decide +kernel
theorem dL_law_544 : decode cL_law 544 = .ok (.invokevirtual 97, 3) := by decide +kernel
theorem dL_law_547 : decode cL_law 547 = .ok (.istore 6, 2) := by decide +kernel
theorem dL_law_549 : decode cL_law 549 = .ok (.aload_n 2, 1) := by decide +kernel
theorem dL_law_550 : decode cL_law 550 = .ok (.invokevirtual 77, 3) := by decide +kernel
theorem dL_law_553 : decode cL_law 553 = .ok (.iload 5, 2) := by decide +kernel
theorem dL_law_555 : decode cL_law 555 = .ok (.if_icmp .eq 5, 3) := by decide +kernel
theorem dL_law_558 : decode cL_law 558 = .ok (.iconst 0, 1) := by decide +kernel
theorem dL_law_559 : decode cL_law 559 = .ok (.ireturn, 1) := by decide +kernel
theorem dL_law_560 : decode cL_law 560 = .ok (.iload 5, 2) := by decide +kernel
theorem dL_law_562 : decode cL_law 562 = .ok (.ifCond .ne 15, 3) := by decide +kernel
theorem dL_law_565 : decode cL_law 565 = .ok (.aload_n 3, 1) := by decide +kernel
theorem dL_law_566 : decode cL_law 566 = .ok (.iconst 0, 1) := by decide +kernel
theorem dL_law_567 : decode cL_law 567 = .ok (.laload, 1) := by decide +kernel
theorem dL_law_568 : decode cL_law 568 = .ok (.iload 6, 2) := by decide +kernel
theorem dL_law_570 : decode cL_law 570 = .ok (.i2l, 1) := by decide +kernel
theorem dL_law_571 : decode cL_law 571 = .ok (.lcmp, 1) := by decide +kernel
theorem dL_law_572 : decode cL_law 572 = .ok (.ifCond .eq 5, 3) := by decide +kernel
theorem dL_law_575 : decode cL_law 575 = .ok (.iconst 0, 1) := by decide +kernel
theorem dL_law_576 : decode cL_law 576 = .ok (.ireturn, 1) := by decide +kernel
theorem dL_law_577 : decode cL_law 577 = .ok (.goto 690, 3) := by decide +kernel
theorem dL_law_580 : decode cL_law 580 = .ok (.aload_n 1, 1) := by decide +kernel
theorem dL_law_581 : decode cL_law 581 = .ok (.aload_n 0, 1) := by decide +kernel
theorem dL_law_582 : decode cL_law 582 = .ok (.iload 4, 2) := by decide +kernel
theorem dL_law_584 : decode cL_law 584 = .ok (.iconst 1, 1) := by decide +kernel
theorem dL_law_585 : decode cL_law 585 = .ok (.iadd, 1) := by decide +kernel
theorem dL_law_586 : decode cL_law 586 = .ok (.iaload, 1) := by decide +kernel
theorem dL_law_587 : decode cL_law 587 = .ok (.aload_n 0, 1) := by decide +kernel
theorem dL_law_588 : decode cL_law 588 = .ok (.iload 4, 2) := by decide +kernel
theorem dL_law_590 : decode cL_law 590 = .ok (.iconst 2, 1) := by decide +kernel
theorem dL_law_591 : decode cL_law 591 = .ok (.iadd, 1) := by decide +kernel
theorem dL_law_592 : decode cL_law 592 = .ok (.iaload, 1) := by decide +kernel
theorem dL_law_593 : decode cL_law 593 = .ok (.aload_n 3, 1) := by decide +kernel
theorem dL_law_594 : decode cL_law 594 = .ok (.invokestatic 98, 3) := by decide +kernel
theorem dL_law_597 : decode cL_law 597 = .ok (.istore 5, 2) := by decide +kernel
theorem dL_law_599 : decode cL_law 599 = .ok (.aload_n 2, 1) := by decide +kernel
theorem dL_law_600 : decode cL_law 600 = .ok (.aload_n 0, 1) := by decide +kernel
theorem dL_law_601 : decode cL_law 601 = .ok (.iload 4, 2) := by decide +kernel
theorem dL_law_603 : decode cL_law 603 = .ok (.iconst 1, 1) := by decide +kernel
theorem dL_law_604 : decode cL_law 604 = .ok (.iadd, 1) := by decide +kernel
theorem dL_law_605 : decode cL_law 605 = .ok (.iaload, 1) := by decide +kernel
theorem dL_law_606 : decode cL_law 606 = .ok (.aload_n 0, 1) := by decide +kernel
theorem dL_law_607 : decode cL_law 607 = .ok (.iload 4, 2) := by decide +kernel
theorem dL_law_609 : decode cL_law 609 = .ok (.iconst 2, 1) := by decide +kernel
theorem dL_law_610 : decode cL_law 610 = .ok (.iadd, 1) := by decide +kernel
theorem dL_law_611 : decode cL_law 611 = .ok (.iaload, 1) := by decide +kernel
theorem dL_law_612 : decode cL_law 612 = .ok (.invokevirtual 100, 3) := by decide +kernel
theorem dL_law_615 : decode cL_law 615 = .ok (.istore 6, 2) := by decide +kernel
theorem dL_law_617 : decode cL_law 617 = .ok (.aload_n 2, 1) := by decide +kernel
theorem dL_law_618 : decode cL_law 618 = .ok (.invokevirtual 77, 3) := by decide +kernel
theorem dL_law_621 : decode cL_law 621 = .ok (.iload 5, 2) := by decide +kernel
theorem dL_law_623 : decode cL_law 623 = .ok (.if_icmp .eq 5, 3) := by decide +kernel
theorem dL_law_626 : decode cL_law 626 = .ok (.iconst 0, 1) := by decide +kernel
theorem dL_law_627 : decode cL_law 627 = .ok (.ireturn, 1) := by decide +kernel
theorem dL_law_628 : decode cL_law 628 = .ok (.iload 5, 2) := by decide +kernel
theorem dL_law_630 : decode cL_law 630 = .ok (.ifCond .ne 15, 3) := by decide +kernel
theorem dL_law_633 : decode cL_law 633 = .ok (.aload_n 3, 1) := by decide +kernel
theorem dL_law_634 : decode cL_law 634 = .ok (.iconst 0, 1) := by decide +kernel
theorem dL_law_635 : decode cL_law 635 = .ok (.laload, 1) := by decide +kernel
theorem dL_law_636 : decode cL_law 636 = .ok (.iload 6, 2) := by decide +kernel
theorem dL_law_638 : decode cL_law 638 = .ok (.i2l, 1) := by decide +kernel
theorem dL_law_639 : decode cL_law 639 = .ok (.lcmp, 1) := by decide +kernel
theorem dL_law_640 : decode cL_law 640 = .ok (.ifCond .eq 5, 3) := by decide +kernel
theorem dL_law_643 : decode cL_law 643 = .ok (.iconst 0, 1) := by decide +kernel
theorem dL_law_644 : decode cL_law 644 = .ok (.ireturn, 1) := by decide +kernel
theorem dL_law_645 : decode cL_law 645 = .ok (.goto 622, 3) := by decide +kernel
theorem dL_law_648 : decode cL_law 648 = .ok (.aload_n 1, 1) := by decide +kernel
theorem dL_law_649 : decode cL_law 649 = .ok (.aload_n 0, 1) := by decide +kernel
theorem dL_law_650 : decode cL_law 650 = .ok (.iload 4, 2) := by decide +kernel
theorem dL_law_652 : decode cL_law 652 = .ok (.iconst 1, 1) := by decide +kernel
theorem dL_law_653 : decode cL_law 653 = .ok (.iadd, 1) := by decide +kernel
theorem dL_law_654 : decode cL_law 654 = .ok (.iaload, 1) := by decide +kernel
theorem dL_law_655 : decode cL_law 655 = .ok (.aload_n 0, 1) := by decide +kernel
theorem dL_law_656 : decode cL_law 656 = .ok (.iload 4, 2) := by decide +kernel
theorem dL_law_658 : decode cL_law 658 = .ok (.iconst 2, 1) := by decide +kernel
theorem dL_law_659 : decode cL_law 659 = .ok (.iadd, 1) := by decide +kernel
theorem dL_law_660 : decode cL_law 660 = .ok (.iaload, 1) := by decide +kernel
theorem dL_law_661 : decode cL_law 661 = .ok (.aload_n 3, 1) := by decide +kernel
theorem dL_law_662 : decode cL_law 662 = .ok (.invokestatic 101, 3) := by decide +kernel
theorem dL_law_665 : decode cL_law 665 = .ok (.istore 5, 2) := by decide +kernel
theorem dL_law_667 : decode cL_law 667 = .ok (.aload_n 2, 1) := by decide +kernel
theorem dL_law_668 : decode cL_law 668 = .ok (.aload_n 0, 1) := by decide +kernel
theorem dL_law_669 : decode cL_law 669 = .ok (.iload 4, 2) := by decide +kernel
theorem dL_law_671 : decode cL_law 671 = .ok (.iconst 1, 1) := by decide +kernel
theorem dL_law_672 : decode cL_law 672 = .ok (.iadd, 1) := by decide +kernel
theorem dL_law_673 : decode cL_law 673 = .ok (.iaload, 1) := by decide +kernel
theorem dL_law_674 : decode cL_law 674 = .ok (.aload_n 0, 1) := by decide +kernel
theorem dL_law_675 : decode cL_law 675 = .ok (.iload 4, 2) := by decide +kernel
theorem dL_law_677 : decode cL_law 677 = .ok (.iconst 2, 1) := by decide +kernel
theorem dL_law_678 : decode cL_law 678 = .ok (.iadd, 1) := by decide +kernel
theorem dL_law_679 : decode cL_law 679 = .ok (.iaload, 1) := by decide +kernel
theorem dL_law_680 : decode cL_law 680 = .ok (.invokevirtual 103, 3) := by decide +kernel
theorem dL_law_683 : decode cL_law 683 = .ok (.istore 6, 2) := by decide +kernel
theorem dL_law_685 : decode cL_law 685 = .ok (.aload_n 2, 1) := by decide +kernel
theorem dL_law_686 : decode cL_law 686 = .ok (.invokevirtual 77, 3) := by decide +kernel
theorem dL_law_689 : decode cL_law 689 = .ok (.iload 5, 2) := by decide +kernel
theorem dL_law_691 : decode cL_law 691 = .ok (.if_icmp .eq 5, 3) := by decide +kernel
theorem dL_law_694 : decode cL_law 694 = .ok (.iconst 0, 1) := by decide +kernel
theorem dL_law_695 : decode cL_law 695 = .ok (.ireturn, 1) := by decide +kernel
theorem dL_law_696 : decode cL_law 696 = .ok (.iload 5, 2) := by decide +kernel
theorem dL_law_698 : decode cL_law 698 = .ok (.ifCond .ne 15, 3) := by decide +kernel
theorem dL_law_701 : decode cL_law 701 = .ok (.aload_n 3, 1) := by decide +kernel
theorem dL_law_702 : decode cL_law 702 = .ok (.iconst 0, 1) := by decide +kernel
theorem dL_law_703 : decode cL_law 703 = .ok (.laload, 1) := by decide +kernel
theorem dL_law_704 : decode cL_law 704 = .ok (.iload 6, 2) := by decide +kernel
theorem dL_law_706 : decode cL_law 706 = .ok (.i2l, 1) := by decide +kernel
theorem dL_law_707 : decode cL_law 707 = .ok (.lcmp, 1) := by decide +kernel
theorem dL_law_708 : decode cL_law 708 = .ok (.ifCond .eq 5, 3) := by decide +kernel
theorem dL_law_711 : decode cL_law 711 = .ok (.iconst 0, 1) := by decide +kernel
theorem dL_law_712 : decode cL_law 712 = .ok (.ireturn, 1) := by decide +kernel
theorem dL_law_713 : decode cL_law 713 = .ok (.goto 554, 3) := by decide +kernel
theorem dL_law_716 : decode cL_law 716 = .ok (.aload_n 1, 1) := by decide +kernel
theorem dL_law_717 : decode cL_law 717 = .ok (.aload_n 0, 1) := by decide +kernel
theorem dL_law_718 : decode cL_law 718 = .ok (.iload 4, 2) := by decide +kernel
theorem dL_law_720 : decode cL_law 720 = .ok (.iconst 1, 1) := by decide +kernel
theorem dL_law_721 : decode cL_law 721 = .ok (.iadd, 1) := by decide +kernel
theorem dL_law_722 : decode cL_law 722 = .ok (.iaload, 1) := by decide +kernel
theorem dL_law_723 : decode cL_law 723 = .ok (.aload_n 0, 1) := by decide +kernel
theorem dL_law_724 : decode cL_law 724 = .ok (.iload 4, 2) := by decide +kernel
theorem dL_law_726 : decode cL_law 726 = .ok (.iconst 2, 1) := by decide +kernel
theorem dL_law_727 : decode cL_law 727 = .ok (.iadd, 1) := by decide +kernel
theorem dL_law_728 : decode cL_law 728 = .ok (.iaload, 1) := by decide +kernel
theorem dL_law_729 : decode cL_law 729 = .ok (.aload_n 3, 1) := by decide +kernel
theorem dL_law_730 : decode cL_law 730 = .ok (.invokestatic 104, 3) := by decide +kernel
theorem dL_law_733 : decode cL_law 733 = .ok (.istore 5, 2) := by decide +kernel
theorem dL_law_735 : decode cL_law 735 = .ok (.aload_n 2, 1) := by decide +kernel
theorem dL_law_736 : decode cL_law 736 = .ok (.aload_n 0, 1) := by decide +kernel
theorem dL_law_737 : decode cL_law 737 = .ok (.iload 4, 2) := by decide +kernel
theorem dL_law_739 : decode cL_law 739 = .ok (.iconst 1, 1) := by decide +kernel
theorem dL_law_740 : decode cL_law 740 = .ok (.iadd, 1) := by decide +kernel
theorem dL_law_741 : decode cL_law 741 = .ok (.iaload, 1) := by decide +kernel
theorem dL_law_742 : decode cL_law 742 = .ok (.aload_n 0, 1) := by decide +kernel
theorem dL_law_743 : decode cL_law 743 = .ok (.iload 4, 2) := by decide +kernel
theorem dL_law_745 : decode cL_law 745 = .ok (.iconst 2, 1) := by decide +kernel
theorem dL_law_746 : decode cL_law 746 = .ok (.iadd, 1) := by decide +kernel
theorem dL_law_747 : decode cL_law 747 = .ok (.iaload, 1) := by decide +kernel
theorem dL_law_748 : decode cL_law 748 = .ok (.invokevirtual 106, 3) := by decide +kernel
theorem dL_law_751 : decode cL_law 751 = .ok (.istore 6, 2) := by decide +kernel
theorem dL_law_753 : decode cL_law 753 = .ok (.aload_n 2, 1) := by decide +kernel
theorem dL_law_754 : decode cL_law 754 = .ok (.invokevirtual 77, 3) := by decide +kernel
theorem dL_law_757 : decode cL_law 757 = .ok (.iload 5, 2) := by decide +kernel
theorem dL_law_759 : decode cL_law 759 = .ok (.if_icmp .eq 5, 3) := by decide +kernel
theorem dL_law_762 : decode cL_law 762 = .ok (.iconst 0, 1) := by decide +kernel
theorem dL_law_763 : decode cL_law 763 = .ok (.ireturn, 1) := by decide +kernel
theorem dL_law_764 : decode cL_law 764 = .ok (.iload 5, 2) := by decide +kernel
theorem dL_law_766 : decode cL_law 766 = .ok (.ifCond .ne 15, 3) := by decide +kernel
theorem dL_law_769 : decode cL_law 769 = .ok (.aload_n 3, 1) := by decide +kernel
theorem dL_law_770 : decode cL_law 770 = .ok (.iconst 0, 1) := by decide +kernel
theorem dL_law_771 : decode cL_law 771 = .ok (.laload, 1) := by decide +kernel
theorem dL_law_772 : decode cL_law 772 = .ok (.iload 6, 2) := by decide +kernel
theorem dL_law_774 : decode cL_law 774 = .ok (.i2l, 1) := by decide +kernel
theorem dL_law_775 : decode cL_law 775 = .ok (.lcmp, 1) := by decide +kernel
theorem dL_law_776 : decode cL_law 776 = .ok (.ifCond .eq 5, 3) := by decide +kernel
theorem dL_law_779 : decode cL_law 779 = .ok (.iconst 0, 1) := by decide +kernel
theorem dL_law_780 : decode cL_law 780 = .ok (.ireturn, 1) := by decide +kernel
theorem dL_law_781 : decode cL_law 781 = .ok (.goto 486, 3) := by decide +kernel
theorem dL_law_784 : decode cL_law 784 = .ok (.aload_n 1, 1) := by decide +kernel
theorem dL_law_785 : decode cL_law 785 = .ok (.aload_n 0, 1) := by decide +kernel
theorem dL_law_786 : decode cL_law 786 = .ok (.iload 4, 2) := by decide +kernel
theorem dL_law_788 : decode cL_law 788 = .ok (.iconst 1, 1) := by decide +kernel
theorem dL_law_789 : decode cL_law 789 = .ok (.iadd, 1) := by decide +kernel
theorem dL_law_790 : decode cL_law 790 = .ok (.iaload, 1) := by decide +kernel
theorem dL_law_791 : decode cL_law 791 = .ok (.aload_n 0, 1) := by decide +kernel
theorem dL_law_792 : decode cL_law 792 = .ok (.iload 4, 2) := by decide +kernel
theorem dL_law_794 : decode cL_law 794 = .ok (.iconst 2, 1) := by decide +kernel
theorem dL_law_795 : decode cL_law 795 = .ok (.iadd, 1) := by decide +kernel
theorem dL_law_796 : decode cL_law 796 = .ok (.iaload, 1) := by decide +kernel
theorem dL_law_797 : decode cL_law 797 = .ok (.aload_n 3, 1) := by decide +kernel
theorem dL_law_798 : decode cL_law 798 = .ok (.invokestatic 107, 3) := by decide +kernel
theorem dL_law_801 : decode cL_law 801 = .ok (.istore 5, 2) := by decide +kernel
theorem dL_law_803 : decode cL_law 803 = .ok (.aload_n 2, 1) := by decide +kernel
theorem dL_law_804 : decode cL_law 804 = .ok (.aload_n 0, 1) := by decide +kernel
theorem dL_law_805 : decode cL_law 805 = .ok (.iload 4, 2) := by decide +kernel
theorem dL_law_807 : decode cL_law 807 = .ok (.iconst 1, 1) := by decide +kernel
theorem dL_law_808 : decode cL_law 808 = .ok (.iadd, 1) := by decide +kernel
theorem dL_law_809 : decode cL_law 809 = .ok (.iaload, 1) := by decide +kernel
theorem dL_law_810 : decode cL_law 810 = .ok (.aload_n 0, 1) := by decide +kernel
theorem dL_law_811 : decode cL_law 811 = .ok (.iload 4, 2) := by decide +kernel
theorem dL_law_813 : decode cL_law 813 = .ok (.iconst 2, 1) := by decide +kernel
theorem dL_law_814 : decode cL_law 814 = .ok (.iadd, 1) := by decide +kernel
theorem dL_law_815 : decode cL_law 815 = .ok (.iaload, 1) := by decide +kernel
theorem dL_law_816 : decode cL_law 816 = .ok (.invokevirtual 109, 3) := by decide +kernel
theorem dL_law_819 : decode cL_law 819 = .ok (.istore 6, 2) := by decide +kernel
theorem dL_law_821 : decode cL_law 821 = .ok (.aload_n 2, 1) := by decide +kernel
theorem dL_law_822 : decode cL_law 822 = .ok (.invokevirtual 77, 3) := by decide +kernel
theorem dL_law_825 : decode cL_law 825 = .ok (.iload 5, 2) := by decide +kernel
theorem dL_law_827 : decode cL_law 827 = .ok (.if_icmp .eq 5, 3) := by decide +kernel
theorem dL_law_830 : decode cL_law 830 = .ok (.iconst 0, 1) := by decide +kernel
theorem dL_law_831 : decode cL_law 831 = .ok (.ireturn, 1) := by decide +kernel
theorem dL_law_832 : decode cL_law 832 = .ok (.iload 5, 2) := by decide +kernel
theorem dL_law_834 : decode cL_law 834 = .ok (.ifCond .ne 15, 3) := by decide +kernel
theorem dL_law_837 : decode cL_law 837 = .ok (.aload_n 3, 1) := by decide +kernel
theorem dL_law_838 : decode cL_law 838 = .ok (.iconst 0, 1) := by decide +kernel
theorem dL_law_839 : decode cL_law 839 = .ok (.laload, 1) := by decide +kernel
theorem dL_law_840 : decode cL_law 840 = .ok (.iload 6, 2) := by decide +kernel
theorem dL_law_842 : decode cL_law 842 = .ok (.i2l, 1) := by decide +kernel
theorem dL_law_843 : decode cL_law 843 = .ok (.lcmp, 1) := by decide +kernel
theorem dL_law_844 : decode cL_law 844 = .ok (.ifCond .eq 5, 3) := by decide +kernel
theorem dL_law_847 : decode cL_law 847 = .ok (.iconst 0, 1) := by decide +kernel
theorem dL_law_848 : decode cL_law 848 = .ok (.ireturn, 1) := by decide +kernel
theorem dL_law_849 : decode cL_law 849 = .ok (.goto 418, 3) := by decide +kernel
theorem dL_law_852 : decode cL_law 852 = .ok (.aload_n 1, 1) := by decide +kernel
theorem dL_law_853 : decode cL_law 853 = .ok (.aload_n 0, 1) := by decide +kernel
theorem dL_law_854 : decode cL_law 854 = .ok (.iload 4, 2) := by decide +kernel
theorem dL_law_856 : decode cL_law 856 = .ok (.iconst 1, 1) := by decide +kernel
theorem dL_law_857 : decode cL_law 857 = .ok (.iadd, 1) := by decide +kernel
theorem dL_law_858 : decode cL_law 858 = .ok (.iaload, 1) := by decide +kernel
theorem dL_law_859 : decode cL_law 859 = .ok (.aload_n 3, 1) := by decide +kernel
theorem dL_law_860 : decode cL_law 860 = .ok (.invokestatic 110, 3) := by decide +kernel
theorem dL_law_863 : decode cL_law 863 = .ok (.istore 5, 2) := by decide +kernel
theorem dL_law_865 : decode cL_law 865 = .ok (.aload_n 2, 1) := by decide +kernel
theorem dL_law_866 : decode cL_law 866 = .ok (.aload_n 0, 1) := by decide +kernel
theorem dL_law_867 : decode cL_law 867 = .ok (.iload 4, 2) := by decide +kernel
theorem dL_law_869 : decode cL_law 869 = .ok (.iconst 1, 1) := by decide +kernel
theorem dL_law_870 : decode cL_law 870 = .ok (.iadd, 1) := by decide +kernel
theorem dL_law_871 : decode cL_law 871 = .ok (.iaload, 1) := by decide +kernel
theorem dL_law_872 : decode cL_law 872 = .ok (.invokevirtual 113, 3) := by decide +kernel
theorem dL_law_875 : decode cL_law 875 = .ok (.istore 6, 2) := by decide +kernel
theorem dL_law_877 : decode cL_law 877 = .ok (.aload_n 2, 1) := by decide +kernel
theorem dL_law_878 : decode cL_law 878 = .ok (.invokevirtual 77, 3) := by decide +kernel
theorem dL_law_881 : decode cL_law 881 = .ok (.iload 5, 2) := by decide +kernel
theorem dL_law_883 : decode cL_law 883 = .ok (.if_icmp .eq 5, 3) := by decide +kernel
theorem dL_law_886 : decode cL_law 886 = .ok (.iconst 0, 1) := by decide +kernel
theorem dL_law_887 : decode cL_law 887 = .ok (.ireturn, 1) := by decide +kernel
theorem dL_law_888 : decode cL_law 888 = .ok (.iload 5, 2) := by decide +kernel
theorem dL_law_890 : decode cL_law 890 = .ok (.ifCond .ne 15, 3) := by decide +kernel
theorem dL_law_893 : decode cL_law 893 = .ok (.aload_n 3, 1) := by decide +kernel
theorem dL_law_894 : decode cL_law 894 = .ok (.iconst 0, 1) := by decide +kernel
theorem dL_law_895 : decode cL_law 895 = .ok (.laload, 1) := by decide +kernel
theorem dL_law_896 : decode cL_law 896 = .ok (.iload 6, 2) := by decide +kernel
theorem dL_law_898 : decode cL_law 898 = .ok (.i2l, 1) := by decide +kernel
theorem dL_law_899 : decode cL_law 899 = .ok (.lcmp, 1) := by decide +kernel
theorem dL_law_900 : decode cL_law 900 = .ok (.ifCond .eq 5, 3) := by decide +kernel
theorem dL_law_903 : decode cL_law 903 = .ok (.iconst 0, 1) := by decide +kernel
theorem dL_law_904 : decode cL_law 904 = .ok (.ireturn, 1) := by decide +kernel
theorem dL_law_905 : decode cL_law 905 = .ok (.goto 362, 3) := by decide +kernel
theorem dL_law_908 : decode cL_law 908 = .ok (.aload_n 1, 1) := by decide +kernel
theorem dL_law_909 : decode cL_law 909 = .ok (.aload_n 0, 1) := by decide +kernel
theorem dL_law_910 : decode cL_law 910 = .ok (.iload 4, 2) := by decide +kernel
theorem dL_law_912 : decode cL_law 912 = .ok (.iconst 1, 1) := by decide +kernel
theorem dL_law_913 : decode cL_law 913 = .ok (.iadd, 1) := by decide +kernel
theorem dL_law_914 : decode cL_law 914 = .ok (.iaload, 1) := by decide +kernel
theorem dL_law_915 : decode cL_law 915 = .ok (.aload_n 3, 1) := by decide +kernel
theorem dL_law_916 : decode cL_law 916 = .ok (.invokestatic 114, 3) := by decide +kernel
theorem dL_law_919 : decode cL_law 919 = .ok (.istore 5, 2) := by decide +kernel
theorem dL_law_921 : decode cL_law 921 = .ok (.aload_n 2, 1) := by decide +kernel
theorem dL_law_922 : decode cL_law 922 = .ok (.aload_n 0, 1) := by decide +kernel
theorem dL_law_923 : decode cL_law 923 = .ok (.iload 4, 2) := by decide +kernel
theorem dL_law_925 : decode cL_law 925 = .ok (.iconst 1, 1) := by decide +kernel
theorem dL_law_926 : decode cL_law 926 = .ok (.iadd, 1) := by decide +kernel
theorem dL_law_927 : decode cL_law 927 = .ok (.iaload, 1) := by decide +kernel
theorem dL_law_928 : decode cL_law 928 = .ok (.invokevirtual 116, 3) := by decide +kernel
theorem dL_law_931 : decode cL_law 931 = .ok (.istore 6, 2) := by decide +kernel
theorem dL_law_933 : decode cL_law 933 = .ok (.aload_n 2, 1) := by decide +kernel
theorem dL_law_934 : decode cL_law 934 = .ok (.invokevirtual 77, 3) := by decide +kernel
theorem dL_law_937 : decode cL_law 937 = .ok (.iload 5, 2) := by decide +kernel
theorem dL_law_939 : decode cL_law 939 = .ok (.if_icmp .eq 5, 3) := by decide +kernel
theorem dL_law_942 : decode cL_law 942 = .ok (.iconst 0, 1) := by decide +kernel
theorem dL_law_943 : decode cL_law 943 = .ok (.ireturn, 1) := by decide +kernel
theorem dL_law_944 : decode cL_law 944 = .ok (.iload 5, 2) := by decide +kernel
theorem dL_law_946 : decode cL_law 946 = .ok (.ifCond .ne 15, 3) := by decide +kernel
theorem dL_law_949 : decode cL_law 949 = .ok (.aload_n 3, 1) := by decide +kernel
theorem dL_law_950 : decode cL_law 950 = .ok (.iconst 0, 1) := by decide +kernel
theorem dL_law_951 : decode cL_law 951 = .ok (.laload, 1) := by decide +kernel
theorem dL_law_952 : decode cL_law 952 = .ok (.iload 6, 2) := by decide +kernel
theorem dL_law_954 : decode cL_law 954 = .ok (.i2l, 1) := by decide +kernel
theorem dL_law_955 : decode cL_law 955 = .ok (.lcmp, 1) := by decide +kernel
theorem dL_law_956 : decode cL_law 956 = .ok (.ifCond .eq 5, 3) := by decide +kernel
theorem dL_law_959 : decode cL_law 959 = .ok (.iconst 0, 1) := by decide +kernel
theorem dL_law_960 : decode cL_law 960 = .ok (.ireturn, 1) := by decide +kernel
theorem dL_law_961 : decode cL_law 961 = .ok (.goto 306, 3) := by decide +kernel
theorem dL_law_964 : decode cL_law 964 = .ok (.aload_n 1, 1) := by decide +kernel
theorem dL_law_965 : decode cL_law 965 = .ok (.aload_n 0, 1) := by decide +kernel
theorem dL_law_966 : decode cL_law 966 = .ok (.iload 4, 2) := by decide +kernel
theorem dL_law_968 : decode cL_law 968 = .ok (.iconst 1, 1) := by decide +kernel
theorem dL_law_969 : decode cL_law 969 = .ok (.iadd, 1) := by decide +kernel
theorem dL_law_970 : decode cL_law 970 = .ok (.iaload, 1) := by decide +kernel
theorem dL_law_971 : decode cL_law 971 = .ok (.aload_n 3, 1) := by decide +kernel
theorem dL_law_972 : decode cL_law 972 = .ok (.invokestatic 117, 3) := by decide +kernel
theorem dL_law_975 : decode cL_law 975 = .ok (.istore 5, 2) := by decide +kernel
theorem dL_law_977 : decode cL_law 977 = .ok (.aload_n 2, 1) := by decide +kernel
theorem dL_law_978 : decode cL_law 978 = .ok (.aload_n 0, 1) := by decide +kernel
theorem dL_law_979 : decode cL_law 979 = .ok (.iload 4, 2) := by decide +kernel
theorem dL_law_981 : decode cL_law 981 = .ok (.iconst 1, 1) := by decide +kernel
theorem dL_law_982 : decode cL_law 982 = .ok (.iadd, 1) := by decide +kernel
theorem dL_law_983 : decode cL_law 983 = .ok (.iaload, 1) := by decide +kernel
theorem dL_law_984 : decode cL_law 984 = .ok (.invokevirtual 119, 3) := by decide +kernel
theorem dL_law_987 : decode cL_law 987 = .ok (.istore 6, 2) := by decide +kernel
theorem dL_law_989 : decode cL_law 989 = .ok (.aload_n 2, 1) := by decide +kernel
theorem dL_law_990 : decode cL_law 990 = .ok (.invokevirtual 77, 3) := by decide +kernel
theorem dL_law_993 : decode cL_law 993 = .ok (.iload 5, 2) := by decide +kernel
theorem dL_law_995 : decode cL_law 995 = .ok (.if_icmp .eq 5, 3) := by decide +kernel
theorem dL_law_998 : decode cL_law 998 = .ok (.iconst 0, 1) := by decide +kernel
theorem dL_law_999 : decode cL_law 999 = .ok (.ireturn, 1) := by decide +kernel
theorem dL_law_1000 : decode cL_law 1000 = .ok (.iload 5, 2) := by decide +kernel
theorem dL_law_1002 : decode cL_law 1002 = .ok (.ifCond .ne 15, 3) := by decide +kernel
theorem dL_law_1005 : decode cL_law 1005 = .ok (.aload_n 3, 1) := by decide +kernel
theorem dL_law_1006 : decode cL_law 1006 = .ok (.iconst 0, 1) := by decide +kernel
theorem dL_law_1007 : decode cL_law 1007 = .ok (.laload, 1) := by decide +kernel
theorem dL_law_1008 : decode cL_law 1008 = .ok (.iload 6, 2) := by decide +kernel
theorem dL_law_1010 : decode cL_law 1010 = .ok (.i2l, 1) := by decide +kernel
theorem dL_law_1011 : decode cL_law 1011 = .ok (.lcmp, 1) := by decide +kernel
theorem dL_law_1012 : decode cL_law 1012 = .ok (.ifCond .eq 5, 3) := by decide +kernel
theorem dL_law_1015 : decode cL_law 1015 = .ok (.iconst 0, 1) := by decide +kernel
theorem dL_law_1016 : decode cL_law 1016 = .ok (.ireturn, 1) := by decide +kernel
theorem dL_law_1017 : decode cL_law 1017 = .ok (.goto 250, 3) := by decide +kernel
theorem dL_law_1020 : decode cL_law 1020 = .ok (.aload_n 1, 1) := by decide +kernel
theorem dL_law_1021 : decode cL_law 1021 = .ok (.aload_n 0, 1) := by decide +kernel
theorem dL_law_1022 : decode cL_law 1022 = .ok (.iload 4, 2) := by decide +kernel
theorem dL_law_1024 : decode cL_law 1024 = .ok (.iconst 1, 1) := by decide +kernel
theorem dL_law_1025 : decode cL_law 1025 = .ok (.iadd, 1) := by decide +kernel
theorem dL_law_1026 : decode cL_law 1026 = .ok (.iaload, 1) := by decide +kernel
theorem dL_law_1027 : decode cL_law 1027 = .ok (.aload_n 0, 1) := by decide +kernel
theorem dL_law_1028 : decode cL_law 1028 = .ok (.iload 4, 2) := by decide +kernel
theorem dL_law_1030 : decode cL_law 1030 = .ok (.iconst 2, 1) := by decide +kernel
theorem dL_law_1031 : decode cL_law 1031 = .ok (.iadd, 1) := by decide +kernel
theorem dL_law_1032 : decode cL_law 1032 = .ok (.iaload, 1) := by decide +kernel
theorem dL_law_1033 : decode cL_law 1033 = .ok (.aload_n 3, 1) := by decide +kernel
theorem dL_law_1034 : decode cL_law 1034 = .ok (.invokestatic 120, 3) := by decide +kernel
theorem dL_law_1037 : decode cL_law 1037 = .ok (.istore 5, 2) := by decide +kernel
theorem dL_law_1039 : decode cL_law 1039 = .ok (.aload_n 2, 1) := by decide +kernel
theorem dL_law_1040 : decode cL_law 1040 = .ok (.aload_n 0, 1) := by decide +kernel
theorem dL_law_1041 : decode cL_law 1041 = .ok (.iload 4, 2) := by decide +kernel
theorem dL_law_1043 : decode cL_law 1043 = .ok (.iconst 1, 1) := by decide +kernel
theorem dL_law_1044 : decode cL_law 1044 = .ok (.iadd, 1) := by decide +kernel
theorem dL_law_1045 : decode cL_law 1045 = .ok (.iaload, 1) := by decide +kernel
theorem dL_law_1046 : decode cL_law 1046 = .ok (.aload_n 0, 1) := by decide +kernel
theorem dL_law_1047 : decode cL_law 1047 = .ok (.iload 4, 2) := by decide +kernel
theorem dL_law_1049 : decode cL_law 1049 = .ok (.iconst 2, 1) := by decide +kernel
theorem dL_law_1050 : decode cL_law 1050 = .ok (.iadd, 1) := by decide +kernel
theorem dL_law_1051 : decode cL_law 1051 = .ok (.iaload, 1) := by decide +kernel
theorem dL_law_1052 : decode cL_law 1052 = .ok (.invokevirtual 122, 3) := by decide +kernel
theorem dL_law_1055 : decode cL_law 1055 = .ok (.istore 6, 2) := by decide +kernel
theorem dL_law_1057 : decode cL_law 1057 = .ok (.aload_n 2, 1) := by decide +kernel
theorem dL_law_1058 : decode cL_law 1058 = .ok (.invokevirtual 77, 3) := by decide +kernel
theorem dL_law_1061 : decode cL_law 1061 = .ok (.iload 5, 2) := by decide +kernel
theorem dL_law_1063 : decode cL_law 1063 = .ok (.if_icmp .eq 5, 3) := by decide +kernel
theorem dL_law_1066 : decode cL_law 1066 = .ok (.iconst 0, 1) := by decide +kernel
theorem dL_law_1067 : decode cL_law 1067 = .ok (.ireturn, 1) := by decide +kernel
theorem dL_law_1068 : decode cL_law 1068 = .ok (.iload 5, 2) := by decide +kernel
theorem dL_law_1070 : decode cL_law 1070 = .ok (.ifCond .ne 15, 3) := by decide +kernel
theorem dL_law_1073 : decode cL_law 1073 = .ok (.aload_n 3, 1) := by decide +kernel
theorem dL_law_1074 : decode cL_law 1074 = .ok (.iconst 0, 1) := by decide +kernel
theorem dL_law_1075 : decode cL_law 1075 = .ok (.laload, 1) := by decide +kernel
theorem dL_law_1076 : decode cL_law 1076 = .ok (.iload 6, 2) := by decide +kernel
theorem dL_law_1078 : decode cL_law 1078 = .ok (.i2l, 1) := by decide +kernel
theorem dL_law_1079 : decode cL_law 1079 = .ok (.lcmp, 1) := by decide +kernel
theorem dL_law_1080 : decode cL_law 1080 = .ok (.ifCond .eq 5, 3) := by decide +kernel
theorem dL_law_1083 : decode cL_law 1083 = .ok (.iconst 0, 1) := by decide +kernel
theorem dL_law_1084 : decode cL_law 1084 = .ok (.ireturn, 1) := by decide +kernel
theorem dL_law_1085 : decode cL_law 1085 = .ok (.goto 182, 3) := by decide +kernel
theorem dL_law_1088 : decode cL_law 1088 = .ok (.aload_n 1, 1) := by decide +kernel
theorem dL_law_1089 : decode cL_law 1089 = .ok (.aload_n 0, 1) := by decide +kernel
theorem dL_law_1090 : decode cL_law 1090 = .ok (.iload 4, 2) := by decide +kernel
theorem dL_law_1092 : decode cL_law 1092 = .ok (.iconst 1, 1) := by decide +kernel
theorem dL_law_1093 : decode cL_law 1093 = .ok (.iadd, 1) := by decide +kernel
theorem dL_law_1094 : decode cL_law 1094 = .ok (.iaload, 1) := by decide +kernel
theorem dL_law_1095 : decode cL_law 1095 = .ok (.aload_n 3, 1) := by decide +kernel
theorem dL_law_1096 : decode cL_law 1096 = .ok (.invokestatic 123, 3) := by decide +kernel
theorem dL_law_1099 : decode cL_law 1099 = .ok (.istore 5, 2) := by decide +kernel
theorem dL_law_1101 : decode cL_law 1101 = .ok (.aload_n 2, 1) := by decide +kernel
theorem dL_law_1102 : decode cL_law 1102 = .ok (.aload_n 0, 1) := by decide +kernel
theorem dL_law_1103 : decode cL_law 1103 = .ok (.iload 4, 2) := by decide +kernel
theorem dL_law_1105 : decode cL_law 1105 = .ok (.iconst 1, 1) := by decide +kernel
theorem dL_law_1106 : decode cL_law 1106 = .ok (.iadd, 1) := by decide +kernel
theorem dL_law_1107 : decode cL_law 1107 = .ok (.iaload, 1) := by decide +kernel
theorem dL_law_1108 : decode cL_law 1108 = .ok (.invokevirtual 125, 3) := by decide +kernel
theorem dL_law_1111 : decode cL_law 1111 = .ok (.istore 6, 2) := by decide +kernel
theorem dL_law_1113 : decode cL_law 1113 = .ok (.aload_n 2, 1) := by decide +kernel
theorem dL_law_1114 : decode cL_law 1114 = .ok (.invokevirtual 77, 3) := by decide +kernel
theorem dL_law_1117 : decode cL_law 1117 = .ok (.iload 5, 2) := by decide +kernel
theorem dL_law_1119 : decode cL_law 1119 = .ok (.if_icmp .eq 5, 3) := by decide +kernel
theorem dL_law_1122 : decode cL_law 1122 = .ok (.iconst 0, 1) := by decide +kernel
theorem dL_law_1123 : decode cL_law 1123 = .ok (.ireturn, 1) := by decide +kernel
theorem dL_law_1124 : decode cL_law 1124 = .ok (.iload 5, 2) := by decide +kernel
theorem dL_law_1126 : decode cL_law 1126 = .ok (.ifCond .ne 15, 3) := by decide +kernel
theorem dL_law_1129 : decode cL_law 1129 = .ok (.aload_n 3, 1) := by decide +kernel
theorem dL_law_1130 : decode cL_law 1130 = .ok (.iconst 0, 1) := by decide +kernel
theorem dL_law_1131 : decode cL_law 1131 = .ok (.laload, 1) := by decide +kernel
theorem dL_law_1132 : decode cL_law 1132 = .ok (.iload 6, 2) := by decide +kernel
theorem dL_law_1134 : decode cL_law 1134 = .ok (.i2l, 1) := by decide +kernel
theorem dL_law_1135 : decode cL_law 1135 = .ok (.lcmp, 1) := by decide +kernel
theorem dL_law_1136 : decode cL_law 1136 = .ok (.ifCond .eq 5, 3) := by decide +kernel
theorem dL_law_1139 : decode cL_law 1139 = .ok (.iconst 0, 1) := by decide +kernel
theorem dL_law_1140 : decode cL_law 1140 = .ok (.ireturn, 1) := by decide +kernel
theorem dL_law_1141 : decode cL_law 1141 = .ok (.goto 126, 3) := by decide +kernel
theorem dL_law_1144 : decode cL_law 1144 = .ok (.aload_n 1, 1) := by decide +kernel
theorem dL_law_1145 : decode cL_law 1145 = .ok (.aload_n 0, 1) := by decide +kernel
theorem dL_law_1146 : decode cL_law 1146 = .ok (.iload 4, 2) := by decide +kernel
theorem dL_law_1148 : decode cL_law 1148 = .ok (.iconst 1, 1) := by decide +kernel
theorem dL_law_1149 : decode cL_law 1149 = .ok (.iadd, 1) := by decide +kernel
theorem dL_law_1150 : decode cL_law 1150 = .ok (.iaload, 1) := by decide +kernel
theorem dL_law_1151 : decode cL_law 1151 = .ok (.aload_n 0, 1) := by decide +kernel
theorem dL_law_1152 : decode cL_law 1152 = .ok (.iload 4, 2) := by decide +kernel
theorem dL_law_1154 : decode cL_law 1154 = .ok (.iconst 2, 1) := by decide +kernel
theorem dL_law_1155 : decode cL_law 1155 = .ok (.iadd, 1) := by decide +kernel
theorem dL_law_1156 : decode cL_law 1156 = .ok (.iaload, 1) := by decide +kernel
theorem dL_law_1157 : decode cL_law 1157 = .ok (.aload_n 3, 1) := by decide +kernel
theorem dL_law_1158 : decode cL_law 1158 = .ok (.invokestatic 126, 3) := by decide +kernel
theorem dL_law_1161 : decode cL_law 1161 = .ok (.istore 5, 2) := by decide +kernel
theorem dL_law_1163 : decode cL_law 1163 = .ok (.aload_n 2, 1) := by decide +kernel
theorem dL_law_1164 : decode cL_law 1164 = .ok (.aload_n 0, 1) := by decide +kernel
theorem dL_law_1165 : decode cL_law 1165 = .ok (.iload 4, 2) := by decide +kernel
theorem dL_law_1167 : decode cL_law 1167 = .ok (.iconst 1, 1) := by decide +kernel
theorem dL_law_1168 : decode cL_law 1168 = .ok (.iadd, 1) := by decide +kernel
theorem dL_law_1169 : decode cL_law 1169 = .ok (.iaload, 1) := by decide +kernel
theorem dL_law_1170 : decode cL_law 1170 = .ok (.aload_n 0, 1) := by decide +kernel
theorem dL_law_1171 : decode cL_law 1171 = .ok (.iload 4, 2) := by decide +kernel
theorem dL_law_1173 : decode cL_law 1173 = .ok (.iconst 2, 1) := by decide +kernel
theorem dL_law_1174 : decode cL_law 1174 = .ok (.iadd, 1) := by decide +kernel
theorem dL_law_1175 : decode cL_law 1175 = .ok (.iaload, 1) := by decide +kernel
theorem dL_law_1176 : decode cL_law 1176 = .ok (.invokevirtual 128, 3) := by decide +kernel
theorem dL_law_1179 : decode cL_law 1179 = .ok (.istore 6, 2) := by decide +kernel
theorem dL_law_1181 : decode cL_law 1181 = .ok (.aload_n 2, 1) := by decide +kernel
theorem dL_law_1182 : decode cL_law 1182 = .ok (.invokevirtual 77, 3) := by decide +kernel
theorem dL_law_1185 : decode cL_law 1185 = .ok (.iload 5, 2) := by decide +kernel
theorem dL_law_1187 : decode cL_law 1187 = .ok (.if_icmp .eq 5, 3) := by decide +kernel
theorem dL_law_1190 : decode cL_law 1190 = .ok (.iconst 0, 1) := by decide +kernel
theorem dL_law_1191 : decode cL_law 1191 = .ok (.ireturn, 1) := by decide +kernel
theorem dL_law_1192 : decode cL_law 1192 = .ok (.iload 5, 2) := by decide +kernel
theorem dL_law_1194 : decode cL_law 1194 = .ok (.ifCond .ne 15, 3) := by decide +kernel
theorem dL_law_1197 : decode cL_law 1197 = .ok (.aload_n 3, 1) := by decide +kernel
theorem dL_law_1198 : decode cL_law 1198 = .ok (.iconst 0, 1) := by decide +kernel
theorem dL_law_1199 : decode cL_law 1199 = .ok (.laload, 1) := by decide +kernel
theorem dL_law_1200 : decode cL_law 1200 = .ok (.iload 6, 2) := by decide +kernel
theorem dL_law_1202 : decode cL_law 1202 = .ok (.i2l, 1) := by decide +kernel
theorem dL_law_1203 : decode cL_law 1203 = .ok (.lcmp, 1) := by decide +kernel
theorem dL_law_1204 : decode cL_law 1204 = .ok (.ifCond .eq 5, 3) := by decide +kernel
theorem dL_law_1207 : decode cL_law 1207 = .ok (.iconst 0, 1) := by decide +kernel
theorem dL_law_1208 : decode cL_law 1208 = .ok (.ireturn, 1) := by decide +kernel
theorem dL_law_1209 : decode cL_law 1209 = .ok (.goto 58, 3) := by decide +kernel
theorem dL_law_1212 : decode cL_law 1212 = .ok (.aload_n 1, 1) := by decide +kernel
theorem dL_law_1213 : decode cL_law 1213 = .ok (.invokevirtual 129, 3) := by decide +kernel
theorem dL_law_1216 : decode cL_law 1216 = .ok (.dstore 5, 2) := by decide +kernel
theorem dL_law_1218 : decode cL_law 1218 = .ok (.aload_n 2, 1) := by decide +kernel
theorem dL_law_1219 : decode cL_law 1219 = .ok (.invokevirtual 133, 3) := by decide +kernel
theorem dL_law_1222 : decode cL_law 1222 = .ok (.dstore 7, 2) := by decide +kernel
theorem dL_law_1224 : decode cL_law 1224 = .ok (.dload 5, 2) := by decide +kernel
theorem dL_law_1226 : decode cL_law 1226 = .ok (.dload 7, 2) := by decide +kernel
theorem dL_law_1228 : decode cL_law 1228 = .ok (.dcmp .l, 1) := by decide +kernel
theorem dL_law_1229 : decode cL_law 1229 = .ok (.ifCond .eq 21, 3) := by decide +kernel
theorem dL_law_1232 : decode cL_law 1232 = .ok (.dload 5, 2) := by decide +kernel
theorem dL_law_1234 : decode cL_law 1234 = .ok (.dload 5, 2) := by decide +kernel
theorem dL_law_1236 : decode cL_law 1236 = .ok (.dcmp .l, 1) := by decide +kernel
theorem dL_law_1237 : decode cL_law 1237 = .ok (.ifCond .eq 11, 3) := by decide +kernel
theorem dL_law_1240 : decode cL_law 1240 = .ok (.dload 7, 2) := by decide +kernel
theorem dL_law_1242 : decode cL_law 1242 = .ok (.dload 7, 2) := by decide +kernel
theorem dL_law_1244 : decode cL_law 1244 = .ok (.dcmp .l, 1) := by decide +kernel
theorem dL_law_1245 : decode cL_law 1245 = .ok (.ifCond .ne 5, 3) := by decide +kernel
theorem dL_law_1248 : decode cL_law 1248 = .ok (.iconst 0, 1) := by decide +kernel
theorem dL_law_1249 : decode cL_law 1249 = .ok (.ireturn, 1) := by decide +kernel
theorem dL_law_1250 : decode cL_law 1250 = .ok (.goto 17, 3) := by decide +kernel
theorem dL_law_1253 : decode cL_law 1253 = .ok (.aload_n 1, 1) := by decide +kernel
theorem dL_law_1254 : decode cL_law 1254 = .ok (.invokevirtual 134, 3) := by decide +kernel
theorem dL_law_1257 : decode cL_law 1257 = .ok (.aload_n 2, 1) := by decide +kernel
theorem dL_law_1258 : decode cL_law 1258 = .ok (.invokevirtual 138, 3) := by decide +kernel
theorem dL_law_1261 : decode cL_law 1261 = .ok (.lcmp, 1) := by decide +kernel
theorem dL_law_1262 : decode cL_law 1262 = .ok (.ifCond .eq 5, 3) := by decide +kernel
theorem dL_law_1265 : decode cL_law 1265 = .ok (.iconst 0, 1) := by decide +kernel
theorem dL_law_1266 : decode cL_law 1266 = .ok (.ireturn, 1) := by decide +kernel
theorem dL_law_1267 : decode cL_law 1267 = .ok (.iinc 4 5, 3) := by decide +kernel
theorem dL_law_1270 : decode cL_law 1270 = .ok (.goto (-1247), 3) := by decide +kernel
theorem dL_law_1273 : decode cL_law 1273 = .ok (.iconst 1, 1) := by decide +kernel
theorem dL_law_1274 : decode cL_law 1274 = .ok (.ireturn, 1) := by decide +kernel
end
section
section LAYA
/-! the layer: ONE world of 67 cells (the class's 46, the reference's 20, the law's out); what they hold is a memory of ints by cell and slot, and out's longs; the addresses are a map of the cells' numbers -/
abbrev Mem : Type := Nat → Nat → Int32
abbrev GG : Type := (Nat → ClassId) × (Nat → Nat → Nat) × (Nat → Nat) × (Nat → ClassId)
def kdL : List Nat := [4, 3, 7, 7, 2, 8, 9, 0, 0, 0, 0, 0, 0, 0, 0, 0, 0, 1, 1, 1, 1, 1, 1, 1, 1, 2, 8, 9, 0, 0, 0, 0, 0, 0, 0, 0, 0, 0, 1, 1, 1, 1, 1, 1, 1, 1, 6, 7, 7, 7, 7, 7, 7, 7, 7, 7, 5, 7, 7, 7, 7, 5, 7, 7, 7, 7, 10]
def kd (k : Nat) : Nat := kdL.getD k 99
def lnL : List Nat := [0, 0, 12, 12, 0, 0, 0, 0, 0, 0, 0, 0, 0, 0, 0, 0, 0, 0, 0, 0, 0, 0, 0, 0, 0, 0, 0, 0, 0, 0, 0, 0, 0, 0, 0, 0, 0, 0, 0, 0, 0, 0, 0, 0, 0, 0, 0, 12, 12, 10, 10, 10, 8, 8, 8, 8, 0, 10, 8, 8, 8, 0, 10, 8, 8, 8, 0]
def ln (k : Nat) : Nat := lnL.getD k 0
def adr (G : GG) (k : Nat) : Nat := G.2.2.1 k
def u2 (M : Mem) (k i : Nat) (v : Int32) : Mem := fun a b => if a = k ∧ b = i then v else M a b
def ct (G : GG) (M : Mem) (o : Nat → Int64) (k : Nat) : va_E := match kd k with
  | 0 => .inr (0, [.int (M k 0), .int (M k 1), .int (M k 2), .int (M k 3)])
  | 1 => .inr (1, [.int (M k 0), .int (M k 1), .int (M k 2), .int (M k 3), .int (M k 4), .int (M k 5), .int (M k 6)])
  | 2 => .inr (2, [.int (M k 0), .int (M k 1), .int (M k 2), .ref (adr G (k + 1)), .ref (adr G (k + 2))])
  | 3 => .inr (3, [.ref (adr G (k + 1)), .ref (adr G (k + 2))])
  | 4 => .inr (4, [.ref (adr G 1), .ref (adr G 4), .ref (adr G 25)])
  | 5 => .inr (5, [.int (M k 0), .ref (adr G (k + 1)), .ref (adr G (k + 2)), .ref (adr G (k + 3)), .ref (adr G (k + 4)), .ref (adr G 46)])
  | 6 => .inr (6, [.int (M k 0), .int (M k 1), .int (M k 2), .ref (adr G 47), .ref (adr G 48), .ref (adr G 49), .ref (adr G 50), .ref (adr G 51), .ref (adr G 52), .ref (adr G 53), .ref (adr G 54), .ref (adr G 55), .ref (adr G 56), .ref (adr G 61)])
  | 7 => .inl (G.2.2.2 0, ln k, .inl (M k))
  | 8 => .inl (G.2.2.2 1, 10, .inr (.inr (.inr (.inr (fun i => some (adr G (k + 2 + i)))))))
  | 9 => .inl (G.2.2.2 2, 8, .inr (.inr (.inr (.inr (fun i => some (adr G (k + 11 + i)))))))
  | 10 => .inl (G.2.2.2 3, 1, .inr (.inl o))
  | _ => .inr (99, [])
theorem kd_lt {k c : Nat} (h : kd k = c) (hc : c < 99) : k < 67 := by
  rcases Nat.lt_or_ge k 67 with q | q
  · exact q
  · have : kd k = 99 := by
      unfold kd
      rw [List.getD_eq_getElem?_getD, List.getElem?_eq_none (by exact q)]
      rfl
    omega
theorem ct_0 {G : GG} {M : Mem} {o : Nat → Int64} {k : Nat} (h : kd k = 0) : ct G M o k = .inr (0, [.int (M k 0), .int (M k 1), .int (M k 2), .int (M k 3)]) := by unfold ct; rw [h]; rfl
theorem ct_1 {G : GG} {M : Mem} {o : Nat → Int64} {k : Nat} (h : kd k = 1) : ct G M o k = .inr (1, [.int (M k 0), .int (M k 1), .int (M k 2), .int (M k 3), .int (M k 4), .int (M k 5), .int (M k 6)]) := by unfold ct; rw [h]; rfl
theorem ct_2 {G : GG} {M : Mem} {o : Nat → Int64} {k : Nat} (h : kd k = 2) : ct G M o k = .inr (2, [.int (M k 0), .int (M k 1), .int (M k 2), .ref (adr G (k + 1)), .ref (adr G (k + 2))]) := by unfold ct; rw [h]; rfl
theorem ct_3 {G : GG} {M : Mem} {o : Nat → Int64} {k : Nat} (h : kd k = 3) : ct G M o k = .inr (3, [.ref (adr G (k + 1)), .ref (adr G (k + 2))]) := by unfold ct; rw [h]; rfl
theorem ct_4 {G : GG} {M : Mem} {o : Nat → Int64} {k : Nat} (h : kd k = 4) : ct G M o k = .inr (4, [.ref (adr G 1), .ref (adr G 4), .ref (adr G 25)]) := by unfold ct; rw [h]; rfl
theorem ct_5 {G : GG} {M : Mem} {o : Nat → Int64} {k : Nat} (h : kd k = 5) : ct G M o k = .inr (5, [.int (M k 0), .ref (adr G (k + 1)), .ref (adr G (k + 2)), .ref (adr G (k + 3)), .ref (adr G (k + 4)), .ref (adr G 46)]) := by unfold ct; rw [h]; rfl
theorem ct_6 {G : GG} {M : Mem} {o : Nat → Int64} {k : Nat} (h : kd k = 6) : ct G M o k = .inr (6, [.int (M k 0), .int (M k 1), .int (M k 2), .ref (adr G 47), .ref (adr G 48), .ref (adr G 49), .ref (adr G 50), .ref (adr G 51), .ref (adr G 52), .ref (adr G 53), .ref (adr G 54), .ref (adr G 55), .ref (adr G 56), .ref (adr G 61)]) := by unfold ct; rw [h]; rfl
theorem ct_7 {G : GG} {M : Mem} {o : Nat → Int64} {k : Nat} (h : kd k = 7) : ct G M o k = .inl (G.2.2.2 0, ln k, .inl (M k)) := by unfold ct; rw [h]; rfl
theorem ct_8 {G : GG} {M : Mem} {o : Nat → Int64} {k : Nat} (h : kd k = 8) : ct G M o k = .inl (G.2.2.2 1, 10, .inr (.inr (.inr (.inr (fun i => some (adr G (k + 2 + i))))))) := by unfold ct; rw [h]; rfl
theorem ct_9 {G : GG} {M : Mem} {o : Nat → Int64} {k : Nat} (h : kd k = 9) : ct G M o k = .inl (G.2.2.2 2, 8, .inr (.inr (.inr (.inr (fun i => some (adr G (k + 11 + i))))))) := by unfold ct; rw [h]; rfl
theorem ct_10 {G : GG} {M : Mem} {o : Nat → Int64} {k : Nat} (h : kd k = 10) : ct G M o k = .inl (G.2.2.2 3, 1, .inr (.inl o)) := by unfold ct; rw [h]; rfl
theorem ct_same {G : GG} {M M' : Mem} {o : Nat → Int64} {k : Nat} (h : M' k = M k) : ct G M' o k = ct G M o k := by unfold ct; rw [h]
theorem ct_out {G : GG} {M : Mem} {o o' : Nat → Int64} {k : Nat} (h : kd k ≠ 10) : ct G M o' k = ct G M o k := by
  unfold ct
  split <;> first | rfl | exact absurd (by assumption) h
theorem u2_ne {M : Mem} {k i j : Nat} {v : Int32} (h : j ≠ k) : u2 M k i v j = M j := by
  funext b
  unfold u2
  rw [if_neg (fun z => h z.1)]
theorem u2_row {M : Mem} {k i : Nat} {v : Int32} : u2 M k i v k = upd (M k) i v := by
  funext b
  unfold u2 upd
  by_cases hb : b = i
  · rw [if_pos ⟨rfl, hb⟩, if_pos hb]
  · rw [if_neg (fun z => hb z.2), if_neg hb]
theorem u2_at {M : Mem} {k i : Nat} {v : Int32} : u2 M k i v k i = v := by unfold u2; rw [if_pos ⟨rfl, rfl⟩]
theorem u2_sl {M : Mem} {k i j : Nat} {v : Int32} (h : j ≠ i) : u2 M k i v k j = M k j := by unfold u2; rw [if_neg (fun z => h z.2)]
theorem u2_id {M : Mem} {k i : Nat} : u2 M k i (M k i) = M := by
  funext a b
  unfold u2
  by_cases h : a = k ∧ b = i
  · rw [if_pos h, h.1, h.2]
  · rw [if_neg h]
def wld (G : GG) (M : Mem) (o : Nat → Int64) : va_W := (List.range 67).map (fun k => (adr G k, ct G M o k))
theorem wld_at {G : GG} {M : Mem} {o : Nat → Int64} {k : Nat} (hk : k < 67) : (wld G M o)[k]? = some (adr G k, ct G M o k) := by simp [wld, hk]
theorem wld_no {G : GG} {M : Mem} {o : Nat → Int64} {k : Nat} (hk : ¬ k < 67) : (wld G M o)[k]? = none := by simp [wld]; omega
theorem wld_get {G : GG} {M : Mem} {o : Nat → Int64} {k : Nat} {q : Nat × va_E} (h : (wld G M o)[k]? = some q) : k < 67 ∧ q = (adr G k, ct G M o k) := by
  by_cases hk : k < 67
  · rw [wld_at hk] at h
    exact ⟨hk, (Option.some.inj h).symm⟩
  · rw [wld_no hk] at h
    cases h
theorem wld_set {G : GG} {M M' : Mem} {o o' : Nat → Int64} {k : Nat} {e : va_E} (hk : k < 67) (he : ct G M' o' k = e) (ho : ∀ j, j ≠ k → ct G M' o' j = ct G M o j) : (wld G M o).set k (adr G k, e) = wld G M' o' := by
  apply List.ext_getElem?
  intro i
  by_cases h : k = i
  · subst h
    rw [List.getElem?_set_self (by simp [wld, hk]), wld_at hk, he]
  · rw [List.getElem?_set_ne h]
    by_cases hi : i < 67
    · rw [wld_at hi, wld_at hi, ho i (Ne.symm h)]
    · rw [wld_no hi, wld_no hi]
abbrev DG (G : GG) : va_G := (G.1, G.2.1)
abbrev PW (G : GG) (M : Mem) (o : Nat → Int64) (H : Heap) : Prop := va_P (DG G) vwCl (wld G M o) H
def tysG (G : GG) : List (ClassId × FieldType) := [(G.2.2.2 0, .int), (G.2.2.2 1, .object RX0), (G.2.2.2 2, .object RX1), (G.2.2.2 3, .long)]
def pA (G : GG) (sz : Nat) : Nat → Prop := fun q => (∃ k, k < 67 ∧ q = adr G k) ∨ sz ≤ q
def injG (G : GG) : Prop := ∀ i j, i < 67 → j < 67 → adr G i = adr G j → i = j
theorem wld_D {G : GG} {M : Mem} {o : Nat → Int64} {sz : Nat} (hI : injG G) : va_D (pA G sz) (wld G M o) := by
  refine ⟨fun i j p q hi hj hpq => ?_, fun k q hk => ?_⟩
  · obtain ⟨h1, rfl⟩ := wld_get hi
    obtain ⟨h2, rfl⟩ := wld_get hj
    exact hI i j h1 h2 hpq
  · obtain ⟨h1, rfl⟩ := wld_get hk
    exact Or.inl ⟨k, h1, rfl⟩
def nestF : List (String × Nat × String × String × String × String) := [("PinholeHouse$Room", 43, "PinholeHouse$Passer", "step", "I", "PinholeHouse"), ("PinholeHouse$Room", 54, "PinholeHouse$Passer", "bright", "I", "PinholeHouse"), ("PinholeHouse$Room", 61, "PinholeHouse$Passer", "tall", "I", "PinholeHouse"), ("PinholeHouse$Scene", 42, "PinholeHouse$Room", "step", "I", "PinholeHouse"), ("PinholeHouse$Scene", 49, "PinholeHouse$Passer", "step", "I", "PinholeHouse"), ("PinholeHouse$Scene", 62, "PinholeHouse$Room", "people", "I", "PinholeHouse"), ("PinholeHouse$Scene", 65, "PinholeHouse$Room", "pence", "I", "PinholeHouse"), ("PinholeHouse", 36, "PinholeHouse$Scene", "passersCome", "I", "PinholeHouse"), ("PinholeHouse", 43, "PinholeHouse$Scene", "passers", "[LPinholeHouse$Passer;", "PinholeHouse"), ("PinholeHouse", 63, "PinholeHouse$Sky", "light", "[I", "PinholeHouse"), ("PinholeHouse", 67, "PinholeHouse$Sky", "clouds", "[I", "PinholeHouse"), ("PinholeHouse", 70, "PinholeHouse$Scene", "roomsBuilt", "I", "PinholeHouse"), ("PinholeHouse", 76, "PinholeHouse$Scene", "rooms", "[LPinholeHouse$Room;", "PinholeHouse"), ("PinholeHouse", 90, "PinholeHouse$Room", "hole", "I", "PinholeHouse"), ("PinholeHouse", 93, "PinholeHouse$Room", "paint", "I", "PinholeHouse"), ("PinholeHouse", 96, "PinholeHouse$Room", "seats", "I", "PinholeHouse"), ("PinholeHouse", 99, "PinholeHouse$Room", "people", "I", "PinholeHouse"), ("PinholeHouse", 120, "PinholeHouse$Room", "step", "I", "PinholeHouse"), ("PinholeHouse", 151, "PinholeHouse$Scene", "minute", "I", "PinholeHouse"), ("PinholeHouse", 191, "PinholeHouse$Passer", "step", "I", "PinholeHouse"), ("PinholeHouse", 192, "PinholeHouse$Passer", "pace", "I", "PinholeHouse"), ("PinholeHouse", 195, "PinholeHouse$Passer", "tall", "I", "PinholeHouse"), ("PinholeHouse", 198, "PinholeHouse$Passer", "bright", "I", "PinholeHouse"), ("PinholeHouse", 204, "PinholeHouse$Room", "depth", "I", "PinholeHouse"), ("PinholeHouse", 207, "PinholeHouse$Room", "pence", "I", "PinholeHouse"), ("PinholeHouseModel$State", 42, "PinholeHouseModel", "light", "[I", "PinholeHouseModel"), ("PinholeHouseModel$State", 45, "PinholeHouseModel", "clouds", "[I", "PinholeHouseModel"), ("PinholeHouseModel$State", 48, "PinholeHouseModel", "place", "[I", "PinholeHouseModel"), ("PinholeHouseModel$State", 57, "PinholeHouseModel", "depth", "[I", "PinholeHouseModel"), ("PinholeHouseModel$State", 64, "PinholeHouseModel", "shine", "[I", "PinholeHouseModel"), ("PinholeHouseModel$State", 67, "PinholeHouseModel", "paint", "[I", "PinholeHouseModel"), ("PinholeHouseModel$State", 78, "PinholeHouseModel", "tall", "[I", "PinholeHouseModel"), ("PinholeHouseModel$State", 81, "PinholeHouseModel", "passers", "I", "PinholeHouseModel"), ("PinholeHouseModel$State", 87, "PinholeHouseModel", "pace", "[I", "PinholeHouseModel"), ("PinholeHouseModel$State", 94, "PinholeHouseModel", "rooms", "I", "PinholeHouseModel"), ("PinholeHouseModel$State", 106, "PinholeHouseModel", "seats", "[I", "PinholeHouseModel"), ("PinholeHouseModel", 67, "PinholeHouseModel$State", "step", "[I", "PinholeHouseModel"), ("PinholeHouseModel", 70, "PinholeHouseModel$State", "hole", "[I", "PinholeHouseModel"), ("PinholeHouseModel", 77, "PinholeHouseModel$State", "people", "[I", "PinholeHouseModel"), ("PinholeHouseModel", 94, "PinholeHouseModel$State", "paid", "[I", "PinholeHouseModel"), ("PinholeHouseModel", 106, "PinholeHouseModel$State", "minute", "I", "PinholeHouseModel")]
def nestM : List (String × Nat × MethodName × String) := [("PinholeHouse$Passer", 32, yX4_isStep, "PinholeHouse"), ("PinholeHouse$Room", 37, yX0_isGone, "PinholeHouse"), ("PinholeHouse$Scene", 23, yX0_init, "PinholeHouse"), ("PinholeHouse$Scene", 24, yX1_init, "PinholeHouse"), ("PinholeHouse$Scene", 35, yX0_copyFrom, "PinholeHouse"), ("PinholeHouse$Scene", 39, yX1_copyFrom, "PinholeHouse"), ("PinholeHouse$Scene", 45, yX0_isGone, "PinholeHouse"), ("PinholeHouse$Scene", 50, yX1_showsWell, "PinholeHouse"), ("PinholeHouse$Scene", 54, yX1_shows, "PinholeHouse"), ("PinholeHouse$Scene", 68, yX0_walk, "PinholeHouse"), ("PinholeHouse$Scene", 71, yX1_pay, "PinholeHouse"), ("PinholeHouse", 11, yX3_init, "PinholeHouse"), ("PinholeHouse", 18, yX2_init, "PinholeHouse"), ("PinholeHouse", 47, yX0_come, "PinholeHouse"), ("PinholeHouse", 59, yX3_entry, "PinholeHouse"), ("PinholeHouse", 73, yX2_hasHoleAt, "PinholeHouse"), ("PinholeHouse", 80, yX1_build, "PinholeHouse"), ("PinholeHouse", 116, yX1_reach, "PinholeHouse"), ("PinholeHouse", 123, yX2_passersAt, "PinholeHouse"), ("PinholeHouse", 126, yX1_shows, "PinholeHouse"), ("PinholeHouse", 133, yX1_brightnessOf, "PinholeHouse"), ("PinholeHouse", 147, yX2_copyFrom, "PinholeHouse"), ("PinholeHouse", 154, yX3_lightAt, "PinholeHouse"), ("PinholeHouse", 157, yX2_showIn, "PinholeHouse"), ("PinholeHouse", 161, yX2_passersWalk, "PinholeHouse"), ("PinholeHouse", 168, yX0_copyFrom, "PinholeHouse"), ("PinholeHouse", 171, yX2_wallsWith, "PinholeHouse"), ("PinholeHouse", 175, yX0_walk, "PinholeHouse"), ("PinholeHouse", 178, yX2_allPeople, "PinholeHouse"), ("PinholeHouse", 181, yX2_passersGone, "PinholeHouse"), ("PinholeHouse", 184, yX2_allPence, "PinholeHouse"), ("PinholeHouse", 201, yX2_roomsSeeingWell, "PinholeHouse"), ("PinholeHouse", 210, yX2_allShows, "PinholeHouse"), ("PinholeHouse", 218, yX2_roomsPay, "PinholeHouse"), ("PinholeHouse", 221, yX1_pay, "PinholeHouse"), ("PinholeHouseModel$State", 90, yX6_isIn, "PinholeHouseModel"), ("PinholeHouseModel", 39, yX5_init, "PinholeHouseModel")]
def nestD : List MethodName := [⟨"java/lang/RuntimeException", "<init>", "()V"⟩, ⟨"java/lang/Exception", "<init>", "()V"⟩, ⟨"java/lang/Throwable", "<init>", "()V"⟩]
def nestC : List String := ["java/lang/IllegalArgumentException", "java/lang/IllegalStateException", "java/lang/IndexOutOfBoundsException"]
def nestN : List (String × String) := [("java/lang/IllegalStateException", "java/lang/IllegalArgumentException"), ("java/lang/IllegalStateException", "java/lang/IndexOutOfBoundsException"), ("java/lang/IllegalArgumentException", "java/lang/IndexOutOfBoundsException"), ("java/lang/IndexOutOfBoundsException", "java/lang/IllegalArgumentException")]
def NX (U : State) : Prop := (∀ q ∈ nestF, va_Nw (.fieldLinkNest q.1 q.2.1 q.2.2.1 q.2.2.2.1 q.2.2.2.2.1 q.2.2.2.2.2) U) ∧ (∀ q ∈ nestM, va_Nw (.methodLinkNest q.1 q.2.1 q.2.2.1 q.2.2.2) U) ∧ (∀ x ∈ nestD, va_Nw (.declares x) U) ∧ (∀ E ∈ nestC, va_Nw (.castable E E) U) ∧ ∀ q ∈ nestN, va_Nc q.1 q.2 U
theorem NX.warm {s U : State} (hW : s.WarmedH U.vm) (h : NX s) : NX U := ⟨fun q hq => va_Nw.warmF hW (h.1 q hq), fun q hq => va_Nw.warmM hW (h.2.1 q hq), fun q hq => va_Nw.warmD hW (h.2.2.1 q hq), fun q hq => va_Nw.warmC hW (h.2.2.2.1 q hq), fun q hq => va_Nc.moved hW.alike (h.2.2.2.2 q hq)⟩
theorem NX.same {u U : State} (hvm : u.vm = U.vm) (h : NX u) : NX U := ⟨fun q hq => va_Nw.same rfl hvm (h.1 q hq), fun q hq => va_Nw.same rfl hvm (h.2.1 q hq), fun q hq => va_Nw.same rfl hvm (h.2.2.1 q hq), fun q hq => va_Nw.same rfl hvm (h.2.2.2.1 q hq), fun q hq => va_Nc.moved (by rw [hvm]; exact Vm.Alike.refl _) (h.2.2.2.2 q hq)⟩
def EV (G : GG) (sz : Nat) (U : State) : Prop := U.heap.size = sz ∧ va_K (DG G) vwCl (tysG G) U ∧ NX U ∧ injG G ∧ vx_Zq Bundle.tN "UNASSIGNED_STACK" Bundle.steD (pA G sz) U U.heap ∧ vx_Zq Bundle.tN "SUPPRESSED_SENTINEL" Bundle.listD (pA G sz) U U.heap
theorem EV.call {G : GG} {sz : Nat} {s U : State} {H : Heap} {locs : List Loc} (h : EV G sz s) (hS : va_S (pA G sz) s.heap H locs) (hU : U.heap = H) (hW : s.WarmedH U.vm) : EV G H.size U := by
  obtain ⟨h1, h2, h3, h4, h5, h6⟩ := h
  have hn : ∀ q, pA G H.size q → pA G sz q := fun q hq => hq.elim Or.inl (fun z => Or.inr (Nat.le_trans (by rw [← h1]; exact hS.1) z))
  subst hU
  exact ⟨rfl, va_K.moved hW.alike h2, h3.warm hW, h4, vx_Zq.moved hW.alike ((h5.kept hS.2.1).narrow hn), vx_Zq.moved hW.alike ((h6.kept hS.2.1).narrow hn)⟩
theorem EV.calling {G : GG} {sz : Nat} {U : State} {a : Array Value} {g : JFrame} {mk : MethodId} (h : EV G sz U) : EV G sz (U.calling g mk a) := by
  obtain ⟨h1, h2, h3, h4, h5, h6⟩ := h
  exact ⟨h1, va_K.moved (u := U) (U := U.calling g mk a) (Vm.Alike.refl U.vm) h2, h3.same (u := U) (U := U.calling g mk a) rfl, h4, vx_Zq.moved (u := U) (U := U.calling g mk a) (Vm.Alike.refl U.vm) h5, vx_Zq.moved (u := U) (U := U.calling g mk a) (Vm.Alike.refl U.vm) h6⟩
/-- the words: the good ones of the tables -/
def UU : List Cond := lw_tbl.filter goodWord
theorem UU_good : ∀ w ∈ UU, (w.onTables && w.keeps) = true ∨ ∃ ty, w = .arrayClass ty := fun w hw => good_of_word (List.mem_filter.mp hw).2
theorem UU_tbl : ∀ w ∈ UU, w ∈ lw_tbl := fun w hw => (List.mem_filter.mp hw).1
abbrev wsU (y : MethodName) (b : ByteArray) (n : Nat) (r : Option FieldType) : List Cond := Cond.code y b n r :: UU
abbrev wsW (y : MethodName) (b : ByteArray) (n : Nat) (r : Option FieldType) (hh : List (Nat × Nat × Nat × Nat)) : List Cond := Cond.codeWith y b n r hh :: UU
abbrev rmU (fr lo mc ms : Nat) : Room := { frames := fr, cells := mc, slots := ms, locals := lo }
def PCW (G : GG) (sz : Nat) (M : Mem) (o : Nat → Int64) (av : List Value) : Array Value → State → Prop := va_Pc av (fun U => EV G sz U ∧ PW G M o U.heap)
theorem PCW_blind {G : GG} {sz : Nat} {M : Mem} {o : Nat → Int64} {av : List Value} : FrameBlind (PCW G sz M o av) := fun _ _ _ _ h => ⟨h.1, h.2.1.calling, h.2.2⟩
abbrev QI (G : GG) (M' : Mem) (o' : Nat → Int64) (res : Int32) (sz : Nat) : Array Value → State → Outcome → State → Prop := va_Qi (fun (r' : Int32) (_ : Unit) => r' = res) (fun _ t => PW G M' o' t.heap) (pA G sz)
abbrev QL (G : GG) (M' : Mem) (o' : Nat → Int64) (res : Int64) (sz : Nat) : Array Value → State → Outcome → State → Prop := va_Ql (fun (r' : Int64) (_ : Unit) => r' = res) (fun _ t => PW G M' o' t.heap) (pA G sz)
abbrev QV (G : GG) (M' : Mem) (o' : Nat → Int64) (sz : Nat) : Array Value → State → Outcome → State → Prop := va_Qv (fun (_ : Unit) => True) (fun _ t => PW G M' o' t.heap) (pA G sz)
abbrev QN : Array Value → State → Outcome → State → Prop := fun _ _ _ _ => False
abbrev QX (G : GG) (M : Mem) (o : Nat → Int64) (E : String) (sz : Nat) : String → State → State → Prop := vx_X (fun (_ : Unit) => True) (fun E' _ t => E' = E ∧ PW G M o t.heap) (pA G sz)
def MI (l : Launch) (y : MethodName) (b : ByteArray) (n : Nat) (r : Option FieldType) (fr lo : Nat) (G : GG) (av : List Value) (M M' : Mem) (o o' : Nat → Int64) (res : Int32) (mc ms : Nat) : Prop := ∀ sz, Met l y (wsU y b n r) (rmU fr lo mc ms) (PCW G sz M o av) (QI G M' o' res sz) mc ms (pA G sz)
def ML (l : Launch) (y : MethodName) (b : ByteArray) (n : Nat) (r : Option FieldType) (fr lo : Nat) (G : GG) (av : List Value) (M M' : Mem) (o o' : Nat → Int64) (res : Int64) (mc ms : Nat) : Prop := ∀ sz, Met l y (wsU y b n r) (rmU fr lo mc ms) (PCW G sz M o av) (QL G M' o' res sz) mc ms (pA G sz)
def MV (l : Launch) (y : MethodName) (b : ByteArray) (n : Nat) (r : Option FieldType) (fr lo : Nat) (G : GG) (av : List Value) (M M' : Mem) (o o' : Nat → Int64) (mc ms : Nat) : Prop := ∀ sz, Met l y (wsU y b n r) (rmU fr lo mc ms) (PCW G sz M o av) (QV G M' o' sz) mc ms (pA G sz)
/-- it throws E, and nothing is changed but M to M' -/
def MX (l : Launch) (y : MethodName) (b : ByteArray) (n : Nat) (r : Option FieldType) (fr lo : Nat) (G : GG) (av : List Value) (M M' : Mem) (o o' : Nat → Int64) (E : String) (mc ms : Nat) : Prop := ∀ sz, vx_Met l y (wsU y b n r) (rmU fr lo mc ms) (PCW G sz M o av) QN (QX G M' o' E sz) mc ms (pA G sz)
/-- what stands in a body: the machine, the code, the class, the words, the surroundings -/
def CX (p : Program) (s : State) (m : MethodId) (args : Array Value) (meth : Method) (c : Code) (cc : ByteArray) (own : String) (nL : Nat) (G : GG) (sz : Nat) : Prop :=
  p.tables.exec = Jvm.exec ∧ c.code = cc ∧ c.maxLocals = nL ∧ s.vm.findClass own = some m.cls ∧ (∀ w ∈ UU, w.before args s = true) ∧ EV G sz s ∧ meth.locks = false
theorem MI_of {l : Launch} {y : MethodName} {b : ByteArray} {n : Nat} {r : Option FieldType} {fr lo : Nat} {G : GG} {av : List Value} {M M' : Mem} {o o' : Nat → Int64} {res : Int32} {mc ms : Nat} (own : String) (hown : y.cls = own) (hy : plainName y.cls = true) (hn : (lg_sl av).length ≤ n)
    (body : ∀ p e s m below meth c sz, CX p s m av.toArray meth c b own n G sz → meth.sig.returnType = r → PW G M o s.heap → ∀ ls, lv_has ls n (lv_args 0 av) →
      W p l e (rmU fr lo mc ms) s m av.toArray below meth c s.heap [] 0 0 (MQ below (QI G M' o' res sz) av.toArray s mc ms (pA G sz)) (F0 m 0 ls [])) : MI l y b n r fr lo G av M M' o o' res mc ms := by
  intro sz
  refine Met.ofW (cc := b) (maxL := n) (ret := r) hy rfl ?_
  intro p e s m args below meth c s₁ B hml hv
  obtain ⟨rfl, hE, hP⟩ := hv
  subst hown
  have hl := lv_entry av (n := n) hn
  rw [lg_entry_eq]
  generalize (lg_sl av ++ List.replicate (n - (lg_sl av).length) Slot.unset).toArray = ls at hl ⊢
  exact body p e s m below meth c sz ⟨B.exec, B.bytes, hml, findClass_of_methodNamed B.named, fun w hw => atoms_spec (ws := wsU y b n r) B.pre w (List.mem_cons_of_mem _ hw), hE, B.notSynchronized⟩ B.returns hP ls hl
theorem ML_of {l : Launch} {y : MethodName} {b : ByteArray} {n : Nat} {r : Option FieldType} {fr lo : Nat} {G : GG} {av : List Value} {M M' : Mem} {o o' : Nat → Int64} {res : Int64} {mc ms : Nat} (own : String) (hown : y.cls = own) (hy : plainName y.cls = true) (hn : (lg_sl av).length ≤ n)
    (body : ∀ p e s m below meth c sz, CX p s m av.toArray meth c b own n G sz → meth.sig.returnType = r → PW G M o s.heap → ∀ ls, lv_has ls n (lv_args 0 av) →
      W p l e (rmU fr lo mc ms) s m av.toArray below meth c s.heap [] 0 0 (MQ below (QL G M' o' res sz) av.toArray s mc ms (pA G sz)) (F0 m 0 ls [])) : ML l y b n r fr lo G av M M' o o' res mc ms := by
  intro sz
  refine Met.ofW (cc := b) (maxL := n) (ret := r) hy rfl ?_
  intro p e s m args below meth c s₁ B hml hv
  obtain ⟨rfl, hE, hP⟩ := hv
  subst hown
  have hl := lv_entry av (n := n) hn
  rw [lg_entry_eq]
  generalize (lg_sl av ++ List.replicate (n - (lg_sl av).length) Slot.unset).toArray = ls at hl ⊢
  exact body p e s m below meth c sz ⟨B.exec, B.bytes, hml, findClass_of_methodNamed B.named, fun w hw => atoms_spec (ws := wsU y b n r) B.pre w (List.mem_cons_of_mem _ hw), hE, B.notSynchronized⟩ B.returns hP ls hl
theorem MV_of {l : Launch} {y : MethodName} {b : ByteArray} {n : Nat} {r : Option FieldType} {fr lo : Nat} {G : GG} {av : List Value} {M M' : Mem} {o o' : Nat → Int64} {mc ms : Nat} (own : String) (hown : y.cls = own) (hy : plainName y.cls = true) (hn : (lg_sl av).length ≤ n)
    (body : ∀ p e s m below meth c sz, CX p s m av.toArray meth c b own n G sz → meth.sig.returnType = r → PW G M o s.heap → ∀ ls, lv_has ls n (lv_args 0 av) →
      W p l e (rmU fr lo mc ms) s m av.toArray below meth c s.heap [] 0 0 (MQ below (QV G M' o' sz) av.toArray s mc ms (pA G sz)) (F0 m 0 ls [])) : MV l y b n r fr lo G av M M' o o' mc ms := by
  intro sz
  refine Met.ofW (cc := b) (maxL := n) (ret := r) hy rfl ?_
  intro p e s m args below meth c s₁ B hml hv
  obtain ⟨rfl, hE, hP⟩ := hv
  subst hown
  have hl := lv_entry av (n := n) hn
  rw [lg_entry_eq]
  generalize (lg_sl av ++ List.replicate (n - (lg_sl av).length) Slot.unset).toArray = ls at hl ⊢
  exact body p e s m below meth c sz ⟨B.exec, B.bytes, hml, findClass_of_methodNamed B.named, fun w hw => atoms_spec (ws := wsU y b n r) B.pre w (List.mem_cons_of_mem _ hw), hE, B.notSynchronized⟩ B.returns hP ls hl
theorem MX_of {l : Launch} {y : MethodName} {b : ByteArray} {n : Nat} {r : Option FieldType} {fr lo : Nat} {G : GG} {av : List Value} {M M' : Mem} {o o' : Nat → Int64} {E : String} {mc ms : Nat} (own : String) (hown : y.cls = own) (hy : plainName y.cls = true) (hn : (lg_sl av).length ≤ n)
    (body : ∀ p e s m below meth c sz, CX p s m av.toArray meth c b own n G sz → (∀ x ∈ c.exceptionTable.toList, False) → PW G M o s.heap → ∀ ls, lv_has ls n (lv_args 0 av) →
      W p l e (rmU fr lo mc ms) s m av.toArray below meth c s.heap [] 0 0 (vx_MQ below QN (QX G M' o' E sz) av.toArray s mc ms (pA G sz)) (F0 m 0 ls [])) : MX l y b n r fr lo G av M M' o o' E mc ms := by
  intro sz
  refine vx_ofW (cc := b) (maxL := n) (ret := r) hy rfl ?_
  intro p e s m args below meth c s₁ B hml hx hv
  obtain ⟨rfl, hE, hP⟩ := hv
  subst hown
  have hl := lv_entry av (n := n) hn
  rw [lg_entry_eq]
  generalize (lg_sl av ++ List.replicate (n - (lg_sl av).length) Slot.unset).toArray = ls at hl ⊢
  exact body p e s m below meth c sz ⟨B.exec, B.bytes, hml, findClass_of_methodNamed B.named, fun w hw => atoms_spec (ws := wsU y b n r) B.pre w (List.mem_cons_of_mem _ hw), hE, B.notSynchronized⟩ hx hP ls hl
end LAYA
end
section
section ROW
variable {p : Program} {l : Launch} {e : Env} {R : Room} {s : State} {m : MethodId} {args : Array Value} {below : List Frame} {meth : Method} {c : Code} {H : Heap} {locs : List Loc} {cells slots : Nat} {Q : State → Prop} {cc : ByteArray} {pc : Nat} {ls : Array Slot} {rest : List Value} {own : String} {nL : Nat} {G : GG} {sz : Nat} {M : Mem} {o : Nat → Int64}

theorem CX.hz (C0 : CX p s m args meth c cc own nL G sz) : s.heap.size = sz := C0.2.2.2.2.2.1.1
theorem CX.K (C0 : CX p s m args meth c cc own nL G sz) : va_K (DG G) vwCl (tysG G) s := C0.2.2.2.2.2.1.2.1
theorem CX.nx (C0 : CX p s m args meth c cc own nL G sz) : NX s := C0.2.2.2.2.2.1.2.2.1
theorem CX.inj (C0 : CX p s m args meth c cc own nL G sz) : injG G := C0.2.2.2.2.2.1.2.2.2.1
theorem CX.ts (C0 : CX p s m args meth c cc own nL G sz) : ∀ w ∈ UU, w.before args s = true := C0.2.2.2.2.1
theorem CX.ow (C0 : CX p s m args meth c cc own nL G sz) : s.vm.findClass own = some m.cls := C0.2.2.2.1
theorem CX.ev (C0 : CX p s m args meth c cc own nL G sz) : EV G sz s := C0.2.2.2.2.2.1
theorem CX.lk (C0 : CX p s m args meth c cc own nL G sz) : meth.locks = false := C0.2.2.2.2.2.2
theorem CX.mono (C0 : CX p s m args meth c cc own nL G sz) (hS : va_S (pA G sz) s.heap H locs) : ∀ q, pA G H.size q → pA G sz q := fun q hq => hq.elim Or.inl (fun z => Or.inr (Nat.le_trans (by rw [← C0.hz]; exact hS.1) z))
theorem w_get (C0 : CX p s m args meth c cc own nL G sz) (hP : PW G M o H) {k ci j idx N : Nat} {C : String} {T : u_T} {fs : List Value} {v : Value} (hk : k < 67) (hct : ct G M o k = .inr (ci, fs)) (hin : ∀ w ∈ u_ws C T N, w ∈ UU) (hc : vwCl[ci]? = some (C, T, N)) (hj : j < N) (hown : (T j).1 = C)
    (hlink : Cond.fieldLink own idx C (T j).2.1 (T j).2.2.1 ∈ UU) (hv : fs[j]? = some v) (dg : decode cc pc = .ok (.getfield idx, 3))
    (kk : W p l e R s m args below meth c H locs cells slots Q (F0 m (pc + 3) ls (v :: rest))) : W p l e R s m args below meth c H locs cells slots Q (F0 m pc ls (.ref (adr G k) :: rest)) :=
  va_get (D := DG G) (ci := ci) (v := v) (C := C) (T := T) (N := N) (ref := C) C0.1 C0.2.1 C0.ts hin C0.ow C0.K hP k (by rw [wld_at hk, hct]) hc j hj (C0.ts _ hlink) (fun x h => by rw [hown] at h; exact h) hv dg kk
theorem w_getN (C0 : CX p s m args meth c cc own nL G sz) (hP : PW G M o H) {k ci j idx N : Nat} {C host : String} {T : u_T} {fs : List Value} {v : Value} (hk : k < 67) (hct : ct G M o k = .inr (ci, fs)) (hin : ∀ w ∈ u_ws C T N, w ∈ UU) (hc : vwCl[ci]? = some (C, T, N)) (hj : j < N) (hown : (T j).1 = C)
    (hlink : (own, idx, C, (T j).2.1, (T j).2.2.1, host) ∈ nestF) (hv : fs[j]? = some v) (dg : decode cc pc = .ok (.getfield idx, 3))
    (kk : W p l e R s m args below meth c H locs cells slots Q (F0 m (pc + 3) ls (v :: rest))) : W p l e R s m args below meth c H locs cells slots Q (F0 m pc ls (.ref (adr G k) :: rest)) :=
  va_getN (D := DG G) (ci := ci) (v := v) (C := C) (T := T) (N := N) (ref := C) (host := host) C0.1 C0.2.1 C0.ts hin C0.ow C0.K hP k (by rw [wld_at hk, hct]) hc j hj (va_Nw.use rfl (C0.nx.1 _ hlink)) (fun x h => by rw [hown] at h; exact h) hv dg kk
theorem w_put (C0 : CX p s m args meth c cc own nL G sz) (hP : PW G M o H) (hS : va_S (pA G sz) s.heap H locs) {k ci j idx N : Nat} {C : String} {T : u_T} {fs : List Value} {v : Int32} (ty0 : Nat → FieldType) (hty : ∀ k, k < N → parseFieldDescriptor (T k).2.2.1 = some (ty0 k)) (hnm : ∀ a, a < N → ∀ b, b < N → a ≠ b → (T a).2.1 ≠ (T b).2.1) (hk : k < 67) (hct : ct G M o k = .inr (ci, fs)) (hct2 : ct G (u2 M k j v) o k = .inr (ci, fs.set j (.int v))) (hin : ∀ w ∈ u_ws C T N, w ∈ UU) (hc : vwCl[ci]? = some (C, T, N)) (hj : j < N) (hown : (T j).1 = C)
    (hlink : Cond.fieldLink own idx C (T j).2.1 (T j).2.2.1 ∈ UU) (hfin : (T j).2.2.2 = false) (hd : parseFieldDescriptor (T j).2.2.1 = some .int) (hl : j < fs.length) (dg : decode cc pc = .ok (.putfield idx, 3))
    (kk : ∀ (H1 : Heap) (locs1 : List Loc), PW G (u2 M k j v) o H1 → va_S (pA G sz) s.heap H1 locs1 → W p l e R s m args below meth c H1 locs1 cells slots Q (F0 m (pc + 3) ls (rest))) : W p l e R s m args below meth c H locs cells slots Q (F0 m pc ls (.int v :: .ref (adr G k) :: rest)) := by
  refine va_put (D := DG G) (ci := ci) (v := .int v) (ty := .int) (C := C) (T := T) (N := N) (ref := C) C0.1 C0.2.1 C0.ts hin ty0 hty hnm C0.ow C0.K hP (wld_D C0.inj) hS k (by rw [wld_at hk, hct]) hc j hj (C0.ts _ hlink) (fun x h => by rw [hown] at h; exact h) hfin hd rfl rfl hl dg (fun H1 locs1 hP1 _ hS1 => ?_)
  rw [wld_set hk hct2 (fun i hi => ct_same (u2_ne hi))] at hP1
  exact kk H1 locs1 hP1 hS1
theorem w_putN (C0 : CX p s m args meth c cc own nL G sz) (hP : PW G M o H) (hS : va_S (pA G sz) s.heap H locs) {k ci j idx N : Nat} {C host : String} {T : u_T} {fs : List Value} {v : Int32} (ty0 : Nat → FieldType) (hty : ∀ k, k < N → parseFieldDescriptor (T k).2.2.1 = some (ty0 k)) (hnm : ∀ a, a < N → ∀ b, b < N → a ≠ b → (T a).2.1 ≠ (T b).2.1) (hk : k < 67) (hct : ct G M o k = .inr (ci, fs)) (hct2 : ct G (u2 M k j v) o k = .inr (ci, fs.set j (.int v))) (hin : ∀ w ∈ u_ws C T N, w ∈ UU) (hc : vwCl[ci]? = some (C, T, N)) (hj : j < N) (hown : (T j).1 = C)
    (hlink : (own, idx, C, (T j).2.1, (T j).2.2.1, host) ∈ nestF) (hfin : (T j).2.2.2 = false) (hd : parseFieldDescriptor (T j).2.2.1 = some .int) (hl : j < fs.length) (dg : decode cc pc = .ok (.putfield idx, 3))
    (kk : ∀ (H1 : Heap) (locs1 : List Loc), PW G (u2 M k j v) o H1 → va_S (pA G sz) s.heap H1 locs1 → W p l e R s m args below meth c H1 locs1 cells slots Q (F0 m (pc + 3) ls (rest))) : W p l e R s m args below meth c H locs cells slots Q (F0 m pc ls (.int v :: .ref (adr G k) :: rest)) := by
  refine va_putN (D := DG G) (ci := ci) (v := .int v) (ty := .int) (C := C) (T := T) (N := N) (ref := C) (host := host) C0.1 C0.2.1 C0.ts hin ty0 hty hnm C0.ow C0.K hP (wld_D C0.inj) hS k (by rw [wld_at hk, hct]) hc j hj (va_Nw.use rfl (C0.nx.1 _ hlink)) (fun x h => by rw [hown] at h; exact h) hfin hd rfl rfl hl dg (fun H1 locs1 hP1 _ hS1 => ?_)
  rw [wld_set hk hct2 (fun i hi => ct_same (u2_ne hi))] at hP1
  exact kk H1 locs1 hP1 hS1
/-- arrays of ints -/
theorem w_iald (C0 : CX p s m args meth c cc own nL G sz) (hP : PW G M o H) {k : Nat} {x : Int32} (hk : kd k = 7) (hin : vp_in x (ln k)) (dg : decode cc pc = .ok (.iaload, 1))
    (kk : W p l e R s m args below meth c H locs cells slots Q (F0 m (pc + 1) ls (.int (M k x.toNatClampNeg) :: rest))) : W p l e R s m args below meth c H locs cells slots Q (F0 m pc ls (.int x :: .ref (adr G k) :: rest)) :=
  va_iald (D := DG G) C0.1 C0.2.1 C0.K hP k 0 (by rw [wld_at (kd_lt hk (by decide)), ct_7 hk]) rfl hin dg kk
theorem w_ialdN (C0 : CX p s m args meth c cc own nL G sz) (hP : PW G M o H) {k i : Nat} (hk : kd k = 7) (hin : i < ln k) (hi : i < 64) (dg : decode cc pc = .ok (.iaload, 1))
    (kk : W p l e R s m args below meth c H locs cells slots Q (F0 m (pc + 1) ls (.int (M k i) :: rest))) : W p l e R s m args below meth c H locs cells slots Q (F0 m pc ls (.int (nI i) :: .ref (adr G k) :: rest)) :=
  w_iald C0 hP hk (vp_in_iff.mpr (by rw [nI_toInt (by omega)]; omega)) dg (by rw [nI_clamp (by omega)]; exact kk)
theorem w_iast (C0 : CX p s m args meth c cc own nL G sz) (hP : PW G M o H) (hS : va_S (pA G sz) s.heap H locs) {k : Nat} {x v : Int32} (hk : kd k = 7) (hin : vp_in x (ln k)) (dg : decode cc pc = .ok (.iastore, 1))
    (kk : ∀ (H1 : Heap) (locs1 : List Loc), PW G (u2 M k x.toNatClampNeg v) o H1 → va_S (pA G sz) s.heap H1 locs1 → W p l e R s m args below meth c H1 locs1 cells slots Q (F0 m (pc + 1) ls (rest))) : W p l e R s m args below meth c H locs cells slots Q (F0 m pc ls (.int v :: .int x :: .ref (adr G k) :: rest)) := by
  refine va_iast (D := DG G) C0.1 C0.2.1 C0.K hP (wld_D C0.inj) hS k 0 (by rw [wld_at (kd_lt hk (by decide)), ct_7 hk]) rfl hin dg (fun H1 locs1 hP1 _ hS1 => ?_)
  rw [wld_set (M' := u2 M k x.toNatClampNeg v) (o' := o) (kd_lt hk (by decide)) (by rw [ct_7 hk, u2_row]) (fun i hi => ct_same (u2_ne hi))] at hP1
  exact kk H1 locs1 hP1 hS1
theorem w_iastN (C0 : CX p s m args meth c cc own nL G sz) (hP : PW G M o H) (hS : va_S (pA G sz) s.heap H locs) {k i : Nat} {v : Int32} (hk : kd k = 7) (hin : i < ln k) (hi : i < 64) (dg : decode cc pc = .ok (.iastore, 1))
    (kk : ∀ (H1 : Heap) (locs1 : List Loc), PW G (u2 M k i v) o H1 → va_S (pA G sz) s.heap H1 locs1 → W p l e R s m args below meth c H1 locs1 cells slots Q (F0 m (pc + 1) ls (rest))) : W p l e R s m args below meth c H locs cells slots Q (F0 m pc ls (.int v :: .int (nI i) :: .ref (adr G k) :: rest)) :=
  w_iast C0 hP hS hk (vp_in_iff.mpr (by rw [nI_toInt (by omega)]; omega)) dg (by rw [nI_clamp (by omega)]; exact kk)
theorem w_aldP (C0 : CX p s m args meth c cc own nL G sz) (hP : PW G M o H) {k i : Nat} (hk : kd k = 8) (hin : i < 10) (dg : decode cc pc = .ok (.aaload, 1))
    (kk : W p l e R s m args below meth c H locs cells slots Q (F0 m (pc + 1) ls (.ref (adr G (k + 2 + i)) :: rest))) : W p l e R s m args below meth c H locs cells slots Q (F0 m pc ls (.int (nI i) :: .ref (adr G k) :: rest)) :=
  va_aldq (D := DG G) (C := RX0) C0.1 C0.2.1 C0.K hP k 1 (by rw [wld_at (kd_lt hk (by decide)), ct_8 hk]) rfl (vp_in_iff.mpr (by rw [nI_toInt (by omega)]; omega)) dg (by rw [nI_clamp (by omega)]; exact kk)
theorem w_aldR (C0 : CX p s m args meth c cc own nL G sz) (hP : PW G M o H) {k i : Nat} (hk : kd k = 9) (hin : i < 8) (dg : decode cc pc = .ok (.aaload, 1))
    (kk : W p l e R s m args below meth c H locs cells slots Q (F0 m (pc + 1) ls (.ref (adr G (k + 11 + i)) :: rest))) : W p l e R s m args below meth c H locs cells slots Q (F0 m pc ls (.int (nI i) :: .ref (adr G k) :: rest)) :=
  va_aldq (D := DG G) (C := RX1) C0.1 C0.2.1 C0.K hP k 2 (by rw [wld_at (kd_lt hk (by decide)), ct_9 hk]) rfl (vp_in_iff.mpr (by rw [nI_toInt (by omega)]; omega)) dg (by rw [nI_clamp (by omega)]; exact kk)
theorem w_alen (C0 : CX p s m args meth c cc own nL G sz) (hP : PW G M o H) {k : Nat} (hk : kd k = 7) (dg : decode cc pc = .ok (.arraylength, 1))
    (kk : W p l e R s m args below meth c H locs cells slots Q (F0 m (pc + 1) ls (.int (nI (ln k)) :: rest))) : W p l e R s m args below meth c H locs cells slots Q (F0 m pc ls (.ref (adr G k) :: rest)) :=
  va_alen (D := DG G) (x := (ln k, .inl (M k))) C0.1 C0.2.1 C0.K hP k 0 (by rw [wld_at (kd_lt hk (by decide)), ct_7 hk]) rfl rfl dg kk
/-- the law's out -/
theorem w_outst (C0 : CX p s m args meth c cc own nL G sz) (hP : PW G M o H) (hS : va_S (pA G sz) s.heap H locs) {v : Int64} (dg : decode cc pc = .ok (.lastore, 1))
    (kk : ∀ (H1 : Heap) (locs1 : List Loc), PW G M (vp_updL o 0 v) H1 → va_S (pA G sz) s.heap H1 locs1 → W p l e R s m args below meth c H1 locs1 cells slots Q (F0 m (pc + 1) ls (rest))) : W p l e R s m args below meth c H locs cells slots Q (F0 m pc ls (.long v :: .int 0 :: .ref (adr G 66) :: rest)) := by
  refine va_last (D := DG G) C0.1 C0.2.1 C0.K hP (wld_D C0.inj) hS 66 3 (by rw [wld_at (by decide), ct_10 (by decide)]) rfl (vp_in_iff.mpr (by decide)) dg (fun H1 locs1 hP1 _ hS1 => ?_)
  rw [wld_set (M' := M) (o' := vp_updL o 0 v) (by decide) (by rw [ct_10 (by decide)]; rfl) (fun i hi => ?_)] at hP1
  · exact kk H1 locs1 hP1 hS1
  · by_cases h : i < 67
    · refine ct_out (fun z => hi ?_)
      have := (by decide +kernel : ∀ i, i < 67 → kd i = 10 → i = 66) i h z
      exact this
    · unfold ct
      have h9 : kd i = 99 := by
        unfold kd
        rw [List.getD_eq_getElem?_getD, List.getElem?_eq_none (by show 67 ≤ i; omega)]
        rfl
      rw [h9]; rfl
theorem w_outld (C0 : CX p s m args meth c cc own nL G sz) (hP : PW G M o H) (dg : decode cc pc = .ok (.laload, 1))
    (kk : W p l e R s m args below meth c H locs cells slots Q (F0 m (pc + 1) ls (.long (o 0) :: rest))) : W p l e R s m args below meth c H locs cells slots Q (F0 m pc ls (.int 0 :: .ref (adr G 66) :: rest)) :=
  va_lald (D := DG G) C0.1 C0.2.1 C0.K hP 66 3 (by rw [wld_at (by decide), ct_10 (by decide)]) rfl (vp_in_iff.mpr (by decide)) dg kk
/-- facts of a method: its code stands among the words .. -/
def MFV (C : String) (y : MethodName) (b : ByteArray) (n : Nat) (r : Option FieldType) (na : Nat) : Prop :=
  (Cond.code y b n r ∈ UU ∧ Cond.instanceMethod y ∈ UU ∧ Cond.selects C y y ∈ UU ∧ Cond.initialized C ∈ UU) ∧ y.cls = C ∧ y.cls ≠ "java/lang/invoke/MethodHandle" ∧ y.cls ≠ "java/lang/invoke/VarHandle" ∧ (parseMethodDescriptor y.desc).map (fun d => d.parameters.length) = some na
def MFS (y : MethodName) (b : ByteArray) (n : Nat) (r : Option FieldType) (na : Nat) : Prop :=
  (Cond.code y b n r ∈ UU ∧ Cond.static y ∈ UU ∧ Cond.initialized y.cls ∈ UU) ∧ y.cls ≠ "java/lang/invoke/MethodHandle" ∧ y.cls ≠ "java/lang/invoke/VarHandle" ∧ (parseMethodDescriptor y.desc).map (fun d => d.parameters.length) = some na
theorem wsU_in {y : MethodName} {b : ByteArray} {n : Nat} {r : Option FieldType} (h : Cond.code y b n r ∈ UU) : GoodIn UU (wsU y b n r) := fun w hw => by
  rcases List.mem_cons.mp hw with e | hw
  · rw [e]; exact ⟨h, UU_good _ h⟩
  · exact ⟨hw, UU_good _ hw⟩
theorem wsV_in {idx : Nat} {C : String} {y : MethodName} {b : ByteArray} {n na : Nat} {r : Option FieldType} (h : MFV C y b n r na) (hl : Cond.methodLink own idx y ∈ UU) : GoodIn UU (wsV own idx C y (wsU y b n r)) := by
  obtain ⟨⟨h1, h2, h3, h4⟩, -⟩ := h
  refine goodIn_app (fun w hw => ?_) (wsU_in h1)
  simp only [List.mem_cons, List.not_mem_nil, or_false] at hw
  rcases hw with e | e | e | e <;> rw [e]
  · exact ⟨hl, UU_good _ hl⟩
  · exact ⟨h2, UU_good _ h2⟩
  · exact ⟨h3, UU_good _ h3⟩
  · exact ⟨h4, UU_good _ h4⟩
theorem w_recv (C0 : CX p s m args meth c cc own nL G sz) (hP : PW G M o H) {k ci : Nat} {fs : List Value} {q : vw_C} (hk : k < 67) (hct : ct G M o k = .inr (ci, fs)) (hc : vwCl[ci]? = some q) : ∃ cell : Cell, H[adr G k]? = some cell ∧ cell.vm.isStatics = false ∧ s.vm.findClass q.1 = some cell.cls :=
  va_recv C0.K hP hc (by rw [wld_at hk, hct])
theorem k_VI (C0 : CX p s m args meth c cc own nL G sz) (hP : PW G M o H) (hS : va_S (pA G sz) s.heap H locs) {k ci na n fr lo mc ms idx : Nat} {C : String} {T : u_T} {N : Nat} {fs As rest st0 : List Value} {y : MethodName} {b : ByteArray} {r : Option FieldType} {M' : Mem} {o' : Nat → Int64} {res : Int32} (hM : MI l y b n r fr lo G (.ref (adr G k) :: As) M M' o o' res mc ms) (mf : MFV C y b n r na) (hlink : Cond.methodLink own idx y ∈ UU) (hk : k < 67) (hct : ct G M o k = .inr (ci, fs)) (hc : vwCl[ci]? = some (C, T, N)) (hls : ls.size = nL) (hR : fr + 1 ≤ R.frames ∧ 8 + (n + 11) + lo ≤ R.locals) (hroom : cells + mc ≤ R.cells ∧ slots + ms ≤ R.slots) (hw : (rest.map fun v => v.category).sum ≤ 8) (hna : As.length = na) (hst : st0 = As.reverse ++ .ref (adr G k) :: rest) (dg : decode cc pc = .ok (.invokevirtual idx, 3))
    (kk : ∀ (H1 : Heap) (locs1 : List Loc), PW G M' o' H1 → va_S (pA G sz) s.heap H1 locs1 → W p l e R s m args below meth c H1 locs1 (cells + mc) (slots + ms) Q (F0 m (pc + 3) ls (.int res :: rest))) : W p l e R s m args below meth c H locs cells slots Q (F0 m pc ls (st0)) := by
  refine va_calli (va_runV (As := As) (rest := rest) ⟨C0.1, C0.2.1, C0.2.2.1, C0.ow, C0.ts⟩ (hM H.size) (cwV na C0.ts (wsV_in mf hlink) rfl rfl rfl mf.2 hR) ⟨PCW_blind, w_recv C0 hP hk hct hc, fun U hU hW => ⟨rfl, C0.ev.call hS hU hW, by rw [hU]; exact hP⟩⟩ rfl hna hls hst (lv_room hw) dg hroom) hS (fun q _ h => C0.mono hS q h) (C0.mono hS) (fun r1 u t H1 locs1 ht hvm hw1 hB hz1 hk1 hS1 => ?_)
  rw [ht] at hB
  subst hw1
  exact kk H1 locs1 hB hS1
theorem k_VNI (C0 : CX p s m args meth c cc own nL G sz) (hP : PW G M o H) (hS : va_S (pA G sz) s.heap H locs) {k ci na n fr lo mc ms idx : Nat} {C : String} {T : u_T} {N : Nat} {fs As rest st0 : List Value} {y : MethodName} {b : ByteArray} {r : Option FieldType} {M' : Mem} {o' : Nat → Int64} {res : Int32} {host : String} (hM : MI l y b n r fr lo G (.ref (adr G k) :: As) M M' o o' res mc ms) (mf : MFV C y b n r na) (hlink : (own, idx, y, host) ∈ nestM) (hk : k < 67) (hct : ct G M o k = .inr (ci, fs)) (hc : vwCl[ci]? = some (C, T, N)) (hls : ls.size = nL) (hR : fr + 1 ≤ R.frames ∧ 8 + (n + 11) + lo ≤ R.locals) (hroom : cells + mc ≤ R.cells ∧ slots + ms ≤ R.slots) (hw : (rest.map fun v => v.category).sum ≤ 8) (hna : As.length = na) (hst : st0 = As.reverse ++ .ref (adr G k) :: rest) (dg : decode cc pc = .ok (.invokevirtual idx, 3))
    (kk : ∀ (H1 : Heap) (locs1 : List Loc), PW G M' o' H1 → va_S (pA G sz) s.heap H1 locs1 → W p l e R s m args below meth c H1 locs1 (cells + mc) (slots + ms) Q (F0 m (pc + 3) ls (.int res :: rest))) : W p l e R s m args below meth c H locs cells slots Q (F0 m pc ls (st0)) := by
  refine va_calli (va_runVN (As := As) (rest := rest) (host := host) ⟨C0.1, C0.2.1, C0.2.2.1, C0.ow, C0.ts⟩ (hM H.size) ⟨va_cnB na C0.ts (wsU_in mf.1.1) rfl rfl rfl (C0.nx.2.1 _ hlink) (by rw [mf.2.1]; exact C0.ts _ mf.1.2.2.2) mf.2.2 hR, C0.ts _ mf.1.2.1, C0.ts _ mf.1.2.2.1⟩ ⟨PCW_blind, w_recv C0 hP hk hct hc, fun U hU hW => ⟨rfl, C0.ev.call hS hU hW, by rw [hU]; exact hP⟩⟩ rfl hna hls hst (lv_room hw) dg hroom) hS (fun q _ h => C0.mono hS q h) (C0.mono hS) (fun r1 u t H1 locs1 ht hvm hw1 hB hz1 hk1 hS1 => ?_)
  rw [ht] at hB
  subst hw1
  exact kk H1 locs1 hB hS1
theorem k_SI (C0 : CX p s m args meth c cc own nL G sz) (hP : PW G M o H) (hS : va_S (pA G sz) s.heap H locs) {na n fr lo mc ms idx : Nat} {As rest st0 : List Value} {y : MethodName} {b : ByteArray} {r : Option FieldType} {M' : Mem} {o' : Nat → Int64} {res : Int32} (hM : MI l y b n r fr lo G As M M' o o' res mc ms) (mf : MFS y b n r na) (hy : y.cls = own) (hlink : Cond.methodLink own idx y ∈ UU) (hls : ls.size = nL) (hR : fr + 1 ≤ R.frames ∧ 8 + (n + 11) + lo ≤ R.locals) (hroom : cells + mc ≤ R.cells ∧ slots + ms ≤ R.slots) (hw : (rest.map fun v => v.category).sum ≤ 8) (hna : As.length = na) (hst : st0 = As.reverse ++ rest) (dg : decode cc pc = .ok (.invokestatic idx, 3))
    (kk : ∀ (H1 : Heap) (locs1 : List Loc), PW G M' o' H1 → va_S (pA G sz) s.heap H1 locs1 → W p l e R s m args below meth c H1 locs1 (cells + mc) (slots + ms) Q (F0 m (pc + 3) ls (.int res :: rest))) : W p l e R s m args below meth c H locs cells slots Q (F0 m pc ls (st0)) := by
  refine va_calli (va_runS (As := As) (rest := rest) ⟨C0.1, C0.2.1, C0.2.2.1, C0.ow, C0.ts⟩ (hM H.size) ⟨callB_of na C0.ts (wsU_in mf.1.1) rfl rfl rfl (C0.ts _ mf.1.2.2) (C0.ts _ hlink) mf.2 hR, C0.ts _ mf.1.2.1⟩ ⟨PCW_blind, fun U hU hW => ⟨rfl, C0.ev.call hS hU hW, by rw [hU]; exact hP⟩⟩ rfl hna hls hst (lv_room hw) dg hroom) hS (fun q _ h => C0.mono hS q h) (C0.mono hS) (fun r1 u t H1 locs1 ht hvm hw1 hB hz1 hk1 hS1 => ?_)
  rw [ht] at hB
  subst hw1
  exact kk H1 locs1 hB hS1
theorem k_SNI (C0 : CX p s m args meth c cc own nL G sz) (hP : PW G M o H) (hS : va_S (pA G sz) s.heap H locs) {na n fr lo mc ms idx : Nat} {As rest st0 : List Value} {y : MethodName} {b : ByteArray} {r : Option FieldType} {M' : Mem} {o' : Nat → Int64} {res : Int32} {host : String} (hM : MI l y b n r fr lo G As M M' o o' res mc ms) (mf : MFS y b n r na) (hlink : (own, idx, y, host) ∈ nestM) (hls : ls.size = nL) (hR : fr + 1 ≤ R.frames ∧ 8 + (n + 11) + lo ≤ R.locals) (hroom : cells + mc ≤ R.cells ∧ slots + ms ≤ R.slots) (hw : (rest.map fun v => v.category).sum ≤ 8) (hna : As.length = na) (hst : st0 = As.reverse ++ rest) (dg : decode cc pc = .ok (.invokestatic idx, 3))
    (kk : ∀ (H1 : Heap) (locs1 : List Loc), PW G M' o' H1 → va_S (pA G sz) s.heap H1 locs1 → W p l e R s m args below meth c H1 locs1 (cells + mc) (slots + ms) Q (F0 m (pc + 3) ls (.int res :: rest))) : W p l e R s m args below meth c H locs cells slots Q (F0 m pc ls (st0)) := by
  refine va_calli (va_runSN (As := As) (rest := rest) (host := host) ⟨C0.1, C0.2.1, C0.2.2.1, C0.ow, C0.ts⟩ (hM H.size) ⟨va_cnB na C0.ts (wsU_in mf.1.1) rfl rfl rfl (C0.nx.2.1 _ hlink) (C0.ts _ mf.1.2.2) mf.2 hR, C0.ts _ mf.1.2.1, trivial⟩ ⟨PCW_blind, fun U hU hW => ⟨rfl, C0.ev.call hS hU hW, by rw [hU]; exact hP⟩⟩ rfl hna hls hst (lv_room hw) dg hroom) hS (fun q _ h => C0.mono hS q h) (C0.mono hS) (fun r1 u t H1 locs1 ht hvm hw1 hB hz1 hk1 hS1 => ?_)
  rw [ht] at hB
  subst hw1
  exact kk H1 locs1 hB hS1
theorem k_VL (C0 : CX p s m args meth c cc own nL G sz) (hP : PW G M o H) (hS : va_S (pA G sz) s.heap H locs) {k ci na n fr lo mc ms idx : Nat} {C : String} {T : u_T} {N : Nat} {fs As rest st0 : List Value} {y : MethodName} {b : ByteArray} {r : Option FieldType} {M' : Mem} {o' : Nat → Int64} {res : Int64} (hM : ML l y b n r fr lo G (.ref (adr G k) :: As) M M' o o' res mc ms) (mf : MFV C y b n r na) (hlink : Cond.methodLink own idx y ∈ UU) (hk : k < 67) (hct : ct G M o k = .inr (ci, fs)) (hc : vwCl[ci]? = some (C, T, N)) (hls : ls.size = nL) (hR : fr + 1 ≤ R.frames ∧ 8 + (n + 11) + lo ≤ R.locals) (hroom : cells + mc ≤ R.cells ∧ slots + ms ≤ R.slots) (hw : (rest.map fun v => v.category).sum ≤ 8) (hna : As.length = na) (hst : st0 = As.reverse ++ .ref (adr G k) :: rest) (dg : decode cc pc = .ok (.invokevirtual idx, 3))
    (kk : ∀ (H1 : Heap) (locs1 : List Loc), PW G M' o' H1 → va_S (pA G sz) s.heap H1 locs1 → W p l e R s m args below meth c H1 locs1 (cells + mc) (slots + ms) Q (F0 m (pc + 3) ls (.long res :: rest))) : W p l e R s m args below meth c H locs cells slots Q (F0 m pc ls (st0)) := by
  refine va_calll (va_runV (As := As) (rest := rest) ⟨C0.1, C0.2.1, C0.2.2.1, C0.ow, C0.ts⟩ (hM H.size) (cwV na C0.ts (wsV_in mf hlink) rfl rfl rfl mf.2 hR) ⟨PCW_blind, w_recv C0 hP hk hct hc, fun U hU hW => ⟨rfl, C0.ev.call hS hU hW, by rw [hU]; exact hP⟩⟩ rfl hna hls hst (lv_room hw) dg hroom) hS (fun q _ h => C0.mono hS q h) (C0.mono hS) (fun r1 u t H1 locs1 ht hvm hw1 hB hz1 hk1 hS1 => ?_)
  rw [ht] at hB
  subst hw1
  exact kk H1 locs1 hB hS1
theorem k_VNL (C0 : CX p s m args meth c cc own nL G sz) (hP : PW G M o H) (hS : va_S (pA G sz) s.heap H locs) {k ci na n fr lo mc ms idx : Nat} {C : String} {T : u_T} {N : Nat} {fs As rest st0 : List Value} {y : MethodName} {b : ByteArray} {r : Option FieldType} {M' : Mem} {o' : Nat → Int64} {res : Int64} {host : String} (hM : ML l y b n r fr lo G (.ref (adr G k) :: As) M M' o o' res mc ms) (mf : MFV C y b n r na) (hlink : (own, idx, y, host) ∈ nestM) (hk : k < 67) (hct : ct G M o k = .inr (ci, fs)) (hc : vwCl[ci]? = some (C, T, N)) (hls : ls.size = nL) (hR : fr + 1 ≤ R.frames ∧ 8 + (n + 11) + lo ≤ R.locals) (hroom : cells + mc ≤ R.cells ∧ slots + ms ≤ R.slots) (hw : (rest.map fun v => v.category).sum ≤ 8) (hna : As.length = na) (hst : st0 = As.reverse ++ .ref (adr G k) :: rest) (dg : decode cc pc = .ok (.invokevirtual idx, 3))
    (kk : ∀ (H1 : Heap) (locs1 : List Loc), PW G M' o' H1 → va_S (pA G sz) s.heap H1 locs1 → W p l e R s m args below meth c H1 locs1 (cells + mc) (slots + ms) Q (F0 m (pc + 3) ls (.long res :: rest))) : W p l e R s m args below meth c H locs cells slots Q (F0 m pc ls (st0)) := by
  refine va_calll (va_runVN (As := As) (rest := rest) (host := host) ⟨C0.1, C0.2.1, C0.2.2.1, C0.ow, C0.ts⟩ (hM H.size) ⟨va_cnB na C0.ts (wsU_in mf.1.1) rfl rfl rfl (C0.nx.2.1 _ hlink) (by rw [mf.2.1]; exact C0.ts _ mf.1.2.2.2) mf.2.2 hR, C0.ts _ mf.1.2.1, C0.ts _ mf.1.2.2.1⟩ ⟨PCW_blind, w_recv C0 hP hk hct hc, fun U hU hW => ⟨rfl, C0.ev.call hS hU hW, by rw [hU]; exact hP⟩⟩ rfl hna hls hst (lv_room hw) dg hroom) hS (fun q _ h => C0.mono hS q h) (C0.mono hS) (fun r1 u t H1 locs1 ht hvm hw1 hB hz1 hk1 hS1 => ?_)
  rw [ht] at hB
  subst hw1
  exact kk H1 locs1 hB hS1
theorem k_SL (C0 : CX p s m args meth c cc own nL G sz) (hP : PW G M o H) (hS : va_S (pA G sz) s.heap H locs) {na n fr lo mc ms idx : Nat} {As rest st0 : List Value} {y : MethodName} {b : ByteArray} {r : Option FieldType} {M' : Mem} {o' : Nat → Int64} {res : Int64} (hM : ML l y b n r fr lo G As M M' o o' res mc ms) (mf : MFS y b n r na) (hy : y.cls = own) (hlink : Cond.methodLink own idx y ∈ UU) (hls : ls.size = nL) (hR : fr + 1 ≤ R.frames ∧ 8 + (n + 11) + lo ≤ R.locals) (hroom : cells + mc ≤ R.cells ∧ slots + ms ≤ R.slots) (hw : (rest.map fun v => v.category).sum ≤ 8) (hna : As.length = na) (hst : st0 = As.reverse ++ rest) (dg : decode cc pc = .ok (.invokestatic idx, 3))
    (kk : ∀ (H1 : Heap) (locs1 : List Loc), PW G M' o' H1 → va_S (pA G sz) s.heap H1 locs1 → W p l e R s m args below meth c H1 locs1 (cells + mc) (slots + ms) Q (F0 m (pc + 3) ls (.long res :: rest))) : W p l e R s m args below meth c H locs cells slots Q (F0 m pc ls (st0)) := by
  refine va_calll (va_runS (As := As) (rest := rest) ⟨C0.1, C0.2.1, C0.2.2.1, C0.ow, C0.ts⟩ (hM H.size) ⟨callB_of na C0.ts (wsU_in mf.1.1) rfl rfl rfl (C0.ts _ mf.1.2.2) (C0.ts _ hlink) mf.2 hR, C0.ts _ mf.1.2.1⟩ ⟨PCW_blind, fun U hU hW => ⟨rfl, C0.ev.call hS hU hW, by rw [hU]; exact hP⟩⟩ rfl hna hls hst (lv_room hw) dg hroom) hS (fun q _ h => C0.mono hS q h) (C0.mono hS) (fun r1 u t H1 locs1 ht hvm hw1 hB hz1 hk1 hS1 => ?_)
  rw [ht] at hB
  subst hw1
  exact kk H1 locs1 hB hS1
theorem k_SNL (C0 : CX p s m args meth c cc own nL G sz) (hP : PW G M o H) (hS : va_S (pA G sz) s.heap H locs) {na n fr lo mc ms idx : Nat} {As rest st0 : List Value} {y : MethodName} {b : ByteArray} {r : Option FieldType} {M' : Mem} {o' : Nat → Int64} {res : Int64} {host : String} (hM : ML l y b n r fr lo G As M M' o o' res mc ms) (mf : MFS y b n r na) (hlink : (own, idx, y, host) ∈ nestM) (hls : ls.size = nL) (hR : fr + 1 ≤ R.frames ∧ 8 + (n + 11) + lo ≤ R.locals) (hroom : cells + mc ≤ R.cells ∧ slots + ms ≤ R.slots) (hw : (rest.map fun v => v.category).sum ≤ 8) (hna : As.length = na) (hst : st0 = As.reverse ++ rest) (dg : decode cc pc = .ok (.invokestatic idx, 3))
    (kk : ∀ (H1 : Heap) (locs1 : List Loc), PW G M' o' H1 → va_S (pA G sz) s.heap H1 locs1 → W p l e R s m args below meth c H1 locs1 (cells + mc) (slots + ms) Q (F0 m (pc + 3) ls (.long res :: rest))) : W p l e R s m args below meth c H locs cells slots Q (F0 m pc ls (st0)) := by
  refine va_calll (va_runSN (As := As) (rest := rest) (host := host) ⟨C0.1, C0.2.1, C0.2.2.1, C0.ow, C0.ts⟩ (hM H.size) ⟨va_cnB na C0.ts (wsU_in mf.1.1) rfl rfl rfl (C0.nx.2.1 _ hlink) (C0.ts _ mf.1.2.2) mf.2 hR, C0.ts _ mf.1.2.1, trivial⟩ ⟨PCW_blind, fun U hU hW => ⟨rfl, C0.ev.call hS hU hW, by rw [hU]; exact hP⟩⟩ rfl hna hls hst (lv_room hw) dg hroom) hS (fun q _ h => C0.mono hS q h) (C0.mono hS) (fun r1 u t H1 locs1 ht hvm hw1 hB hz1 hk1 hS1 => ?_)
  rw [ht] at hB
  subst hw1
  exact kk H1 locs1 hB hS1
theorem k_VV (C0 : CX p s m args meth c cc own nL G sz) (hP : PW G M o H) (hS : va_S (pA G sz) s.heap H locs) {k ci na n fr lo mc ms idx : Nat} {C : String} {T : u_T} {N : Nat} {fs As rest st0 : List Value} {y : MethodName} {b : ByteArray} {r : Option FieldType} {M' : Mem} {o' : Nat → Int64}  (hM : MV l y b n r fr lo G (.ref (adr G k) :: As) M M' o o'  mc ms) (mf : MFV C y b n r na) (hlink : Cond.methodLink own idx y ∈ UU) (hk : k < 67) (hct : ct G M o k = .inr (ci, fs)) (hc : vwCl[ci]? = some (C, T, N)) (hls : ls.size = nL) (hR : fr + 1 ≤ R.frames ∧ 8 + (n + 11) + lo ≤ R.locals) (hroom : cells + mc ≤ R.cells ∧ slots + ms ≤ R.slots) (hw : (rest.map fun v => v.category).sum ≤ 8) (hna : As.length = na) (hst : st0 = As.reverse ++ .ref (adr G k) :: rest) (dg : decode cc pc = .ok (.invokevirtual idx, 3))
    (kk : ∀ (H1 : Heap) (locs1 : List Loc), PW G M' o' H1 → va_S (pA G sz) s.heap H1 locs1 → W p l e R s m args below meth c H1 locs1 (cells + mc) (slots + ms) Q (F0 m (pc + 3) ls (rest))) : W p l e R s m args below meth c H locs cells slots Q (F0 m pc ls (st0)) := by
  refine va_callv (va_runV (As := As) (rest := rest) ⟨C0.1, C0.2.1, C0.2.2.1, C0.ow, C0.ts⟩ (hM H.size) (cwV na C0.ts (wsV_in mf hlink) rfl rfl rfl mf.2 hR) ⟨PCW_blind, w_recv C0 hP hk hct hc, fun U hU hW => ⟨rfl, C0.ev.call hS hU hW, by rw [hU]; exact hP⟩⟩ rfl hna hls hst (lv_room hw) dg hroom) hS (fun q _ h => C0.mono hS q h) (C0.mono hS) (fun u t H1 locs1 ht hvm hw1 hB hz1 hk1 hS1 => ?_)
  rw [ht] at hB
  exact kk H1 locs1 hB hS1
theorem k_VNV (C0 : CX p s m args meth c cc own nL G sz) (hP : PW G M o H) (hS : va_S (pA G sz) s.heap H locs) {k ci na n fr lo mc ms idx : Nat} {C : String} {T : u_T} {N : Nat} {fs As rest st0 : List Value} {y : MethodName} {b : ByteArray} {r : Option FieldType} {M' : Mem} {o' : Nat → Int64}  {host : String} (hM : MV l y b n r fr lo G (.ref (adr G k) :: As) M M' o o'  mc ms) (mf : MFV C y b n r na) (hlink : (own, idx, y, host) ∈ nestM) (hk : k < 67) (hct : ct G M o k = .inr (ci, fs)) (hc : vwCl[ci]? = some (C, T, N)) (hls : ls.size = nL) (hR : fr + 1 ≤ R.frames ∧ 8 + (n + 11) + lo ≤ R.locals) (hroom : cells + mc ≤ R.cells ∧ slots + ms ≤ R.slots) (hw : (rest.map fun v => v.category).sum ≤ 8) (hna : As.length = na) (hst : st0 = As.reverse ++ .ref (adr G k) :: rest) (dg : decode cc pc = .ok (.invokevirtual idx, 3))
    (kk : ∀ (H1 : Heap) (locs1 : List Loc), PW G M' o' H1 → va_S (pA G sz) s.heap H1 locs1 → W p l e R s m args below meth c H1 locs1 (cells + mc) (slots + ms) Q (F0 m (pc + 3) ls (rest))) : W p l e R s m args below meth c H locs cells slots Q (F0 m pc ls (st0)) := by
  refine va_callv (va_runVN (As := As) (rest := rest) (host := host) ⟨C0.1, C0.2.1, C0.2.2.1, C0.ow, C0.ts⟩ (hM H.size) ⟨va_cnB na C0.ts (wsU_in mf.1.1) rfl rfl rfl (C0.nx.2.1 _ hlink) (by rw [mf.2.1]; exact C0.ts _ mf.1.2.2.2) mf.2.2 hR, C0.ts _ mf.1.2.1, C0.ts _ mf.1.2.2.1⟩ ⟨PCW_blind, w_recv C0 hP hk hct hc, fun U hU hW => ⟨rfl, C0.ev.call hS hU hW, by rw [hU]; exact hP⟩⟩ rfl hna hls hst (lv_room hw) dg hroom) hS (fun q _ h => C0.mono hS q h) (C0.mono hS) (fun u t H1 locs1 ht hvm hw1 hB hz1 hk1 hS1 => ?_)
  rw [ht] at hB
  exact kk H1 locs1 hB hS1
theorem k_SV (C0 : CX p s m args meth c cc own nL G sz) (hP : PW G M o H) (hS : va_S (pA G sz) s.heap H locs) {na n fr lo mc ms idx : Nat} {As rest st0 : List Value} {y : MethodName} {b : ByteArray} {r : Option FieldType} {M' : Mem} {o' : Nat → Int64}  (hM : MV l y b n r fr lo G As M M' o o'  mc ms) (mf : MFS y b n r na) (hy : y.cls = own) (hlink : Cond.methodLink own idx y ∈ UU) (hls : ls.size = nL) (hR : fr + 1 ≤ R.frames ∧ 8 + (n + 11) + lo ≤ R.locals) (hroom : cells + mc ≤ R.cells ∧ slots + ms ≤ R.slots) (hw : (rest.map fun v => v.category).sum ≤ 8) (hna : As.length = na) (hst : st0 = As.reverse ++ rest) (dg : decode cc pc = .ok (.invokestatic idx, 3))
    (kk : ∀ (H1 : Heap) (locs1 : List Loc), PW G M' o' H1 → va_S (pA G sz) s.heap H1 locs1 → W p l e R s m args below meth c H1 locs1 (cells + mc) (slots + ms) Q (F0 m (pc + 3) ls (rest))) : W p l e R s m args below meth c H locs cells slots Q (F0 m pc ls (st0)) := by
  refine va_callv (va_runS (As := As) (rest := rest) ⟨C0.1, C0.2.1, C0.2.2.1, C0.ow, C0.ts⟩ (hM H.size) ⟨callB_of na C0.ts (wsU_in mf.1.1) rfl rfl rfl (C0.ts _ mf.1.2.2) (C0.ts _ hlink) mf.2 hR, C0.ts _ mf.1.2.1⟩ ⟨PCW_blind, fun U hU hW => ⟨rfl, C0.ev.call hS hU hW, by rw [hU]; exact hP⟩⟩ rfl hna hls hst (lv_room hw) dg hroom) hS (fun q _ h => C0.mono hS q h) (C0.mono hS) (fun u t H1 locs1 ht hvm hw1 hB hz1 hk1 hS1 => ?_)
  rw [ht] at hB
  exact kk H1 locs1 hB hS1
theorem k_SNV (C0 : CX p s m args meth c cc own nL G sz) (hP : PW G M o H) (hS : va_S (pA G sz) s.heap H locs) {na n fr lo mc ms idx : Nat} {As rest st0 : List Value} {y : MethodName} {b : ByteArray} {r : Option FieldType} {M' : Mem} {o' : Nat → Int64}  {host : String} (hM : MV l y b n r fr lo G As M M' o o'  mc ms) (mf : MFS y b n r na) (hlink : (own, idx, y, host) ∈ nestM) (hls : ls.size = nL) (hR : fr + 1 ≤ R.frames ∧ 8 + (n + 11) + lo ≤ R.locals) (hroom : cells + mc ≤ R.cells ∧ slots + ms ≤ R.slots) (hw : (rest.map fun v => v.category).sum ≤ 8) (hna : As.length = na) (hst : st0 = As.reverse ++ rest) (dg : decode cc pc = .ok (.invokestatic idx, 3))
    (kk : ∀ (H1 : Heap) (locs1 : List Loc), PW G M' o' H1 → va_S (pA G sz) s.heap H1 locs1 → W p l e R s m args below meth c H1 locs1 (cells + mc) (slots + ms) Q (F0 m (pc + 3) ls (rest))) : W p l e R s m args below meth c H locs cells slots Q (F0 m pc ls (st0)) := by
  refine va_callv (va_runSN (As := As) (rest := rest) (host := host) ⟨C0.1, C0.2.1, C0.2.2.1, C0.ow, C0.ts⟩ (hM H.size) ⟨va_cnB na C0.ts (wsU_in mf.1.1) rfl rfl rfl (C0.nx.2.1 _ hlink) (C0.ts _ mf.1.2.2) mf.2 hR, C0.ts _ mf.1.2.1, trivial⟩ ⟨PCW_blind, fun U hU hW => ⟨rfl, C0.ev.call hS hU hW, by rw [hU]; exact hP⟩⟩ rfl hna hls hst (lv_room hw) dg hroom) hS (fun q _ h => C0.mono hS q h) (C0.mono hS) (fun u t H1 locs1 ht hvm hw1 hB hz1 hk1 hS1 => ?_)
  rw [ht] at hB
  exact kk H1 locs1 hB hS1

theorem e_I {below : List Frame} {mc ms : Nat} {M' : Mem} {o' : Nat → Int64} {res v : Int32} {ty : FieldType} {av : List Value} (C0 : CX p s m av.toArray meth c cc own nL G sz) (hr : meth.sig.returnType = some ty) (hn : narrow ty (.int v) = .int v) (hP : PW G M' o' H) (hS : va_S (pA G sz) s.heap H locs) (hv : v = res) (hw : cells ≤ mc ∧ slots ≤ ms) (dg : decode cc pc = .ok (.ireturn, 1)) : W p l e R s m av.toArray below meth c H locs cells slots (MQ below (QI G M' o' res sz) av.toArray s mc ms (pA G sz)) (F0 m pc ls [.int v]) :=
  W.widen (k := mc) (n := ms) hw.1 hw.2 (W.zret (v := v) (ty := ty) C0.1 C0.2.1 hr hn (fun t ht hW => ⟨⟨v, (), rfl, hv, by show PW G M' o' t.heap; rw [ht]; exact hP⟩, hS.F ht⟩) hS.2.2 dg C0.lk)
theorem e_Ii {below : List Frame} {mc ms : Nat} {M' : Mem} {o' : Nat → Int64} {res v : Int32} {av : List Value} (C0 : CX p s m av.toArray meth c cc own nL G sz) (hr : meth.sig.returnType = some .int) (hP : PW G M' o' H) (hS : va_S (pA G sz) s.heap H locs) (hv : v = res) (hw : cells ≤ mc ∧ slots ≤ ms) (dg : decode cc pc = .ok (.ireturn, 1)) : W p l e R s m av.toArray below meth c H locs cells slots (MQ below (QI G M' o' res sz) av.toArray s mc ms (pA G sz)) (F0 m pc ls [.int v]) :=
  W.widen (k := mc) (n := ms) hw.1 hw.2 (W.iret (v := v) C0.1 C0.2.1 hr (fun t ht hW => ⟨⟨v, (), rfl, hv, by show PW G M' o' t.heap; rw [ht]; exact hP⟩, hS.F ht⟩) hS.2.2 dg C0.lk)
theorem e_L {below : List Frame} {mc ms : Nat} {M' : Mem} {o' : Nat → Int64} {res v : Int64} {av : List Value} (C0 : CX p s m av.toArray meth c cc own nL G sz) (hr : meth.sig.returnType = some .long) (hP : PW G M' o' H) (hS : va_S (pA G sz) s.heap H locs) (hv : v = res) (hw : cells ≤ mc ∧ slots ≤ ms) (dg : decode cc pc = .ok (.lreturn, 1)) : W p l e R s m av.toArray below meth c H locs cells slots (MQ below (QL G M' o' res sz) av.toArray s mc ms (pA G sz)) (F0 m pc ls [.long v]) :=
  W.widen (k := mc) (n := ms) hw.1 hw.2 (W.lret (v := v) C0.1 C0.2.1 hr (fun t ht hW => ⟨⟨v, (), rfl, hv, by show PW G M' o' t.heap; rw [ht]; exact hP⟩, hS.F ht⟩) hS.2.2 dg C0.lk)
theorem e_V {below : List Frame} {mc ms : Nat} {M' : Mem} {o' : Nat → Int64} {av : List Value} (C0 : CX p s m av.toArray meth c cc own nL G sz) (hr : meth.sig.returnType = none) (hP : PW G M' o' H) (hS : va_S (pA G sz) s.heap H locs) (hw : cells ≤ mc ∧ slots ≤ ms) (dg : decode cc pc = .ok (.return_, 1)) : W p l e R s m av.toArray below meth c H locs cells slots (MQ below (QV G M' o' sz) av.toArray s mc ms (pA G sz)) (F0 m pc ls []) :=
  W.widen (k := mc) (n := ms) hw.1 hw.2 (W.vret C0.1 C0.2.1 hr (fun t ht hW => ⟨⟨(), rfl, trivial, by show PW G M' o' t.heap; rw [ht]; exact hP⟩, hS.F ht⟩) hS.2.2 dg C0.lk)
theorem PW_eq {M M' : Mem} (h : M = M') (hP : PW G M o H) : PW G M' o H := h ▸ hP
theorem bz_narrow {x : Int32} (h : x = 0 ∨ x = 1) : narrow .boolean (.int x) = .int x := by rcases h with rfl | rfl <;> decide +kernel
end ROW
end
section
section FLD
variable {p : Program} {l : Launch} {e : Env} {R : Room} {s : State} {m : MethodId} {args : Array Value} {below : List Frame} {meth : Method} {c : Code} {H : Heap} {locs : List Loc} {cells slots : Nat} {Q : State → Prop} {cc : ByteArray} {pc : Nat} {ls : Array Slot} {rest : List Value} {own : String} {nL : Nat} {G : GG} {sz : Nat} {M : Mem} {o : Nat → Int64}
theorem lay_X0_0 : u_lay RX0 TX0 0 ∈ UU := List.mem_filter.mpr ⟨List.mem_append_right _ (List.mem_append_left _ (List.mem_of_getElem? (i := 67) rfl)), rfl⟩
theorem lay_X0_1 : u_lay RX0 TX0 1 ∈ UU := List.mem_filter.mpr ⟨List.mem_append_right _ (List.mem_append_left _ (List.mem_of_getElem? (i := 69) rfl)), rfl⟩
theorem lay_X0_2 : u_lay RX0 TX0 2 ∈ UU := List.mem_filter.mpr ⟨List.mem_append_right _ (List.mem_append_left _ (List.mem_of_getElem? (i := 71) rfl)), rfl⟩
theorem lay_X0_3 : u_lay RX0 TX0 3 ∈ UU := List.mem_filter.mpr ⟨List.mem_append_right _ (List.mem_append_left _ (List.mem_of_getElem? (i := 73) rfl)), rfl⟩
theorem inU_X0 : ∀ w ∈ u_ws RX0 TX0 4, w ∈ UU := by
  intro w hw
  obtain ⟨k, hk, rfl⟩ := List.mem_map.mp hw
  have hk := List.mem_range.mp hk
  match k, hk with
  | 0, _ => exact lay_X0_0
  | 1, _ => exact lay_X0_1
  | 2, _ => exact lay_X0_2
  | 3, _ => exact lay_X0_3
  | k + 4, h => exact absurd h (by omega)
theorem lay_X1_0 : u_lay RX1 TX1 0 ∈ UU := List.mem_filter.mpr ⟨List.mem_append_right _ (List.mem_append_left _ (List.mem_of_getElem? (i := 98) rfl)), rfl⟩
theorem lay_X1_1 : u_lay RX1 TX1 1 ∈ UU := List.mem_filter.mpr ⟨List.mem_append_right _ (List.mem_append_left _ (List.mem_of_getElem? (i := 100) rfl)), rfl⟩
theorem lay_X1_2 : u_lay RX1 TX1 2 ∈ UU := List.mem_filter.mpr ⟨List.mem_append_right _ (List.mem_append_left _ (List.mem_of_getElem? (i := 102) rfl)), rfl⟩
theorem lay_X1_3 : u_lay RX1 TX1 3 ∈ UU := List.mem_filter.mpr ⟨List.mem_append_right _ (List.mem_append_left _ (List.mem_of_getElem? (i := 104) rfl)), rfl⟩
theorem lay_X1_4 : u_lay RX1 TX1 4 ∈ UU := List.mem_filter.mpr ⟨List.mem_append_right _ (List.mem_append_left _ (List.mem_of_getElem? (i := 106) rfl)), rfl⟩
theorem lay_X1_5 : u_lay RX1 TX1 5 ∈ UU := List.mem_filter.mpr ⟨List.mem_append_right _ (List.mem_append_left _ (List.mem_of_getElem? (i := 108) rfl)), rfl⟩
theorem lay_X1_6 : u_lay RX1 TX1 6 ∈ UU := List.mem_filter.mpr ⟨List.mem_append_right _ (List.mem_append_left _ (List.mem_of_getElem? (i := 110) rfl)), rfl⟩
theorem inU_X1 : ∀ w ∈ u_ws RX1 TX1 7, w ∈ UU := by
  intro w hw
  obtain ⟨k, hk, rfl⟩ := List.mem_map.mp hw
  have hk := List.mem_range.mp hk
  match k, hk with
  | 0, _ => exact lay_X1_0
  | 1, _ => exact lay_X1_1
  | 2, _ => exact lay_X1_2
  | 3, _ => exact lay_X1_3
  | 4, _ => exact lay_X1_4
  | 5, _ => exact lay_X1_5
  | 6, _ => exact lay_X1_6
  | k + 7, h => exact absurd h (by omega)
theorem lay_X2_0 : u_lay RX2 TX2 0 ∈ UU := List.mem_filter.mpr ⟨List.mem_append_right _ (List.mem_append_left _ (List.mem_of_getElem? (i := 123) rfl)), rfl⟩
theorem lay_X2_1 : u_lay RX2 TX2 1 ∈ UU := List.mem_filter.mpr ⟨List.mem_append_right _ (List.mem_append_left _ (List.mem_of_getElem? (i := 125) rfl)), rfl⟩
theorem lay_X2_2 : u_lay RX2 TX2 2 ∈ UU := List.mem_filter.mpr ⟨List.mem_append_right _ (List.mem_append_left _ (List.mem_of_getElem? (i := 127) rfl)), rfl⟩
theorem lay_X2_3 : u_lay RX2 TX2 3 ∈ UU := List.mem_filter.mpr ⟨List.mem_append_right _ (List.mem_append_left _ (List.mem_of_getElem? (i := 129) rfl)), rfl⟩
theorem lay_X2_4 : u_lay RX2 TX2 4 ∈ UU := List.mem_filter.mpr ⟨List.mem_append_right _ (List.mem_append_left _ (List.mem_of_getElem? (i := 131) rfl)), rfl⟩
theorem inU_X2 : ∀ w ∈ u_ws RX2 TX2 5, w ∈ UU := by
  intro w hw
  obtain ⟨k, hk, rfl⟩ := List.mem_map.mp hw
  have hk := List.mem_range.mp hk
  match k, hk with
  | 0, _ => exact lay_X2_0
  | 1, _ => exact lay_X2_1
  | 2, _ => exact lay_X2_2
  | 3, _ => exact lay_X2_3
  | 4, _ => exact lay_X2_4
  | k + 5, h => exact absurd h (by omega)
theorem lay_X3_0 : u_lay RX3 TX3 0 ∈ UU := List.mem_filter.mpr ⟨List.mem_append_right _ (List.mem_append_left _ (List.mem_of_getElem? (i := 34) rfl)), rfl⟩
theorem lay_X3_1 : u_lay RX3 TX3 1 ∈ UU := List.mem_filter.mpr ⟨List.mem_append_right _ (List.mem_append_left _ (List.mem_of_getElem? (i := 36) rfl)), rfl⟩
theorem inU_X3 : ∀ w ∈ u_ws RX3 TX3 2, w ∈ UU := by
  intro w hw
  obtain ⟨k, hk, rfl⟩ := List.mem_map.mp hw
  have hk := List.mem_range.mp hk
  match k, hk with
  | 0, _ => exact lay_X3_0
  | 1, _ => exact lay_X3_1
  | k + 2, h => exact absurd h (by omega)
theorem lay_X4_0 : u_lay RX4 TX4 0 ∈ UU := List.mem_filter.mpr ⟨List.mem_append_right _ (List.mem_append_left _ (List.mem_of_getElem? (i := 137) rfl)), rfl⟩
theorem lay_X4_1 : u_lay RX4 TX4 1 ∈ UU := List.mem_filter.mpr ⟨List.mem_append_right _ (List.mem_append_left _ (List.mem_of_getElem? (i := 139) rfl)), rfl⟩
theorem lay_X4_2 : u_lay RX4 TX4 2 ∈ UU := List.mem_filter.mpr ⟨List.mem_append_right _ (List.mem_append_left _ (List.mem_of_getElem? (i := 141) rfl)), rfl⟩
theorem inU_X4 : ∀ w ∈ u_ws RX4 TX4 3, w ∈ UU := by
  intro w hw
  obtain ⟨k, hk, rfl⟩ := List.mem_map.mp hw
  have hk := List.mem_range.mp hk
  match k, hk with
  | 0, _ => exact lay_X4_0
  | 1, _ => exact lay_X4_1
  | 2, _ => exact lay_X4_2
  | k + 3, h => exact absurd h (by omega)
theorem lay_X5_0 : u_lay RX5 TX5 0 ∈ UU := List.mem_filter.mpr ⟨List.mem_append_right _ (List.mem_append_right _ (List.mem_append_right _ (List.mem_append_left _ (List.mem_of_getElem? (i := 75) rfl)))), rfl⟩
theorem lay_X5_1 : u_lay RX5 TX5 1 ∈ UU := List.mem_filter.mpr ⟨List.mem_append_right _ (List.mem_append_right _ (List.mem_append_right _ (List.mem_append_left _ (List.mem_of_getElem? (i := 77) rfl)))), rfl⟩
theorem lay_X5_2 : u_lay RX5 TX5 2 ∈ UU := List.mem_filter.mpr ⟨List.mem_append_right _ (List.mem_append_right _ (List.mem_append_right _ (List.mem_append_left _ (List.mem_of_getElem? (i := 79) rfl)))), rfl⟩
theorem lay_X5_3 : u_lay RX5 TX5 3 ∈ UU := List.mem_filter.mpr ⟨List.mem_append_right _ (List.mem_append_right _ (List.mem_append_right _ (List.mem_append_left _ (List.mem_of_getElem? (i := 81) rfl)))), rfl⟩
theorem lay_X5_4 : u_lay RX5 TX5 4 ∈ UU := List.mem_filter.mpr ⟨List.mem_append_right _ (List.mem_append_right _ (List.mem_append_right _ (List.mem_append_left _ (List.mem_of_getElem? (i := 83) rfl)))), rfl⟩
theorem lay_X5_5 : u_lay RX5 TX5 5 ∈ UU := List.mem_filter.mpr ⟨List.mem_append_right _ (List.mem_append_right _ (List.mem_append_right _ (List.mem_append_left _ (List.mem_of_getElem? (i := 85) rfl)))), rfl⟩
theorem inU_X5 : ∀ w ∈ u_ws RX5 TX5 6, w ∈ UU := by
  intro w hw
  obtain ⟨k, hk, rfl⟩ := List.mem_map.mp hw
  have hk := List.mem_range.mp hk
  match k, hk with
  | 0, _ => exact lay_X5_0
  | 1, _ => exact lay_X5_1
  | 2, _ => exact lay_X5_2
  | 3, _ => exact lay_X5_3
  | 4, _ => exact lay_X5_4
  | 5, _ => exact lay_X5_5
  | k + 6, h => exact absurd h (by omega)
theorem lay_X6_0 : u_lay RX6 TX6 0 ∈ UU := List.mem_filter.mpr ⟨List.mem_append_right _ (List.mem_append_right _ (List.mem_append_right _ (List.mem_append_left _ (List.mem_of_getElem? (i := 113) rfl)))), rfl⟩
theorem lay_X6_1 : u_lay RX6 TX6 1 ∈ UU := List.mem_filter.mpr ⟨List.mem_append_right _ (List.mem_append_right _ (List.mem_append_right _ (List.mem_append_left _ (List.mem_of_getElem? (i := 115) rfl)))), rfl⟩
theorem lay_X6_2 : u_lay RX6 TX6 2 ∈ UU := List.mem_filter.mpr ⟨List.mem_append_right _ (List.mem_append_right _ (List.mem_append_right _ (List.mem_append_left _ (List.mem_of_getElem? (i := 117) rfl)))), rfl⟩
theorem lay_X6_3 : u_lay RX6 TX6 3 ∈ UU := List.mem_filter.mpr ⟨List.mem_append_right _ (List.mem_append_right _ (List.mem_append_right _ (List.mem_append_left _ (List.mem_of_getElem? (i := 119) rfl)))), rfl⟩
theorem lay_X6_4 : u_lay RX6 TX6 4 ∈ UU := List.mem_filter.mpr ⟨List.mem_append_right _ (List.mem_append_right _ (List.mem_append_right _ (List.mem_append_left _ (List.mem_of_getElem? (i := 121) rfl)))), rfl⟩
theorem lay_X6_5 : u_lay RX6 TX6 5 ∈ UU := List.mem_filter.mpr ⟨List.mem_append_right _ (List.mem_append_right _ (List.mem_append_right _ (List.mem_append_left _ (List.mem_of_getElem? (i := 123) rfl)))), rfl⟩
theorem lay_X6_6 : u_lay RX6 TX6 6 ∈ UU := List.mem_filter.mpr ⟨List.mem_append_right _ (List.mem_append_right _ (List.mem_append_right _ (List.mem_append_left _ (List.mem_of_getElem? (i := 125) rfl)))), rfl⟩
theorem lay_X6_7 : u_lay RX6 TX6 7 ∈ UU := List.mem_filter.mpr ⟨List.mem_append_right _ (List.mem_append_right _ (List.mem_append_right _ (List.mem_append_left _ (List.mem_of_getElem? (i := 127) rfl)))), rfl⟩
theorem lay_X6_8 : u_lay RX6 TX6 8 ∈ UU := List.mem_filter.mpr ⟨List.mem_append_right _ (List.mem_append_right _ (List.mem_append_right _ (List.mem_append_left _ (List.mem_of_getElem? (i := 129) rfl)))), rfl⟩
theorem lay_X6_9 : u_lay RX6 TX6 9 ∈ UU := List.mem_filter.mpr ⟨List.mem_append_right _ (List.mem_append_right _ (List.mem_append_right _ (List.mem_append_left _ (List.mem_of_getElem? (i := 131) rfl)))), rfl⟩
theorem lay_X6_10 : u_lay RX6 TX6 10 ∈ UU := List.mem_filter.mpr ⟨List.mem_append_right _ (List.mem_append_right _ (List.mem_append_right _ (List.mem_append_left _ (List.mem_of_getElem? (i := 133) rfl)))), rfl⟩
theorem lay_X6_11 : u_lay RX6 TX6 11 ∈ UU := List.mem_filter.mpr ⟨List.mem_append_right _ (List.mem_append_right _ (List.mem_append_right _ (List.mem_append_left _ (List.mem_of_getElem? (i := 135) rfl)))), rfl⟩
theorem lay_X6_12 : u_lay RX6 TX6 12 ∈ UU := List.mem_filter.mpr ⟨List.mem_append_right _ (List.mem_append_right _ (List.mem_append_right _ (List.mem_append_left _ (List.mem_of_getElem? (i := 137) rfl)))), rfl⟩
theorem lay_X6_13 : u_lay RX6 TX6 13 ∈ UU := List.mem_filter.mpr ⟨List.mem_append_right _ (List.mem_append_right _ (List.mem_append_right _ (List.mem_append_left _ (List.mem_of_getElem? (i := 139) rfl)))), rfl⟩
theorem inU_X6 : ∀ w ∈ u_ws RX6 TX6 14, w ∈ UU := by
  intro w hw
  obtain ⟨k, hk, rfl⟩ := List.mem_map.mp hw
  have hk := List.mem_range.mp hk
  match k, hk with
  | 0, _ => exact lay_X6_0
  | 1, _ => exact lay_X6_1
  | 2, _ => exact lay_X6_2
  | 3, _ => exact lay_X6_3
  | 4, _ => exact lay_X6_4
  | 5, _ => exact lay_X6_5
  | 6, _ => exact lay_X6_6
  | 7, _ => exact lay_X6_7
  | 8, _ => exact lay_X6_8
  | 9, _ => exact lay_X6_9
  | 10, _ => exact lay_X6_10
  | 11, _ => exact lay_X6_11
  | 12, _ => exact lay_X6_12
  | 13, _ => exact lay_X6_13
  | k + 14, h => exact absurd h (by omega)
theorem fl_X0_9 : Cond.fieldLink RX0 9 "PinholeHouse$Passer" "step" "I" ∈ UU := List.mem_filter.mpr ⟨List.mem_append_right _ (List.mem_append_left _ (List.mem_of_getElem? (i := 55) rfl)), rfl⟩
theorem gf_X0_9 (C0 : CX p s m args meth c cc RX0 nL G sz) (hP : PW G M o H) {k : Nat} (hk : kd k = 0) (dg : decode cc pc = .ok (.getfield 9, 3))
    (kk : W p l e R s m args below meth c H locs cells slots Q (F0 m (pc + 3) ls (.int (M k 0) :: rest))) : W p l e R s m args below meth c H locs cells slots Q (F0 m pc ls (.ref (adr G k) :: rest)) :=
  w_get C0 hP (T := TX0) (C := RX0) (kd_lt hk (by decide)) (ct_0 hk) inU_X0 rfl (j := 0) (by decide) rfl fl_X0_9 rfl dg kk
theorem pf_X0_9 (C0 : CX p s m args meth c cc RX0 nL G sz) (hP : PW G M o H) (hS : va_S (pA G sz) s.heap H locs) {k : Nat} {v : Int32} (hk : kd k = 0) (dg : decode cc pc = .ok (.putfield 9, 3))
    (kk : ∀ (H1 : Heap) (locs1 : List Loc), PW G (u2 M k 0 v) o H1 → va_S (pA G sz) s.heap H1 locs1 → W p l e R s m args below meth c H1 locs1 cells slots Q (F0 m (pc + 3) ls (rest))) : W p l e R s m args below meth c H locs cells slots Q (F0 m pc ls (.int v :: .ref (adr G k) :: rest)) :=
  w_put C0 hP hS tyX0 tyX0_ok nmX0 (T := TX0) (C := RX0) (kd_lt hk (by decide)) (ct_0 hk) (by rw [ct_0 hk, u2_at, u2_sl (j := 1) (by decide), u2_sl (j := 2) (by decide), u2_sl (j := 3) (by decide)]; rfl) inU_X0 rfl (j := 0) (by decide) rfl fl_X0_9 rfl (by decide +kernel) (Nat.le_of_ble_eq_true rfl) dg kk
theorem fl_X0_15 : Cond.fieldLink RX0 15 "PinholeHouse$Passer" "pace" "I" ∈ UU := List.mem_filter.mpr ⟨List.mem_append_right _ (List.mem_append_left _ (List.mem_of_getElem? (i := 59) rfl)), rfl⟩
theorem gf_X0_15 (C0 : CX p s m args meth c cc RX0 nL G sz) (hP : PW G M o H) {k : Nat} (hk : kd k = 0) (dg : decode cc pc = .ok (.getfield 15, 3))
    (kk : W p l e R s m args below meth c H locs cells slots Q (F0 m (pc + 3) ls (.int (M k 1) :: rest))) : W p l e R s m args below meth c H locs cells slots Q (F0 m pc ls (.ref (adr G k) :: rest)) :=
  w_get C0 hP (T := TX0) (C := RX0) (kd_lt hk (by decide)) (ct_0 hk) inU_X0 rfl (j := 1) (by decide) rfl fl_X0_15 rfl dg kk
theorem pf_X0_15 (C0 : CX p s m args meth c cc RX0 nL G sz) (hP : PW G M o H) (hS : va_S (pA G sz) s.heap H locs) {k : Nat} {v : Int32} (hk : kd k = 0) (dg : decode cc pc = .ok (.putfield 15, 3))
    (kk : ∀ (H1 : Heap) (locs1 : List Loc), PW G (u2 M k 1 v) o H1 → va_S (pA G sz) s.heap H1 locs1 → W p l e R s m args below meth c H1 locs1 cells slots Q (F0 m (pc + 3) ls (rest))) : W p l e R s m args below meth c H locs cells slots Q (F0 m pc ls (.int v :: .ref (adr G k) :: rest)) :=
  w_put C0 hP hS tyX0 tyX0_ok nmX0 (T := TX0) (C := RX0) (kd_lt hk (by decide)) (ct_0 hk) (by rw [ct_0 hk, u2_at, u2_sl (j := 0) (by decide), u2_sl (j := 2) (by decide), u2_sl (j := 3) (by decide)]; rfl) inU_X0 rfl (j := 1) (by decide) rfl fl_X0_15 rfl (by decide +kernel) (Nat.le_of_ble_eq_true rfl) dg kk
theorem fl_X0_18 : Cond.fieldLink RX0 18 "PinholeHouse$Passer" "tall" "I" ∈ UU := List.mem_filter.mpr ⟨List.mem_append_right _ (List.mem_append_left _ (List.mem_of_getElem? (i := 61) rfl)), rfl⟩
theorem gf_X0_18 (C0 : CX p s m args meth c cc RX0 nL G sz) (hP : PW G M o H) {k : Nat} (hk : kd k = 0) (dg : decode cc pc = .ok (.getfield 18, 3))
    (kk : W p l e R s m args below meth c H locs cells slots Q (F0 m (pc + 3) ls (.int (M k 2) :: rest))) : W p l e R s m args below meth c H locs cells slots Q (F0 m pc ls (.ref (adr G k) :: rest)) :=
  w_get C0 hP (T := TX0) (C := RX0) (kd_lt hk (by decide)) (ct_0 hk) inU_X0 rfl (j := 2) (by decide) rfl fl_X0_18 rfl dg kk
theorem pf_X0_18 (C0 : CX p s m args meth c cc RX0 nL G sz) (hP : PW G M o H) (hS : va_S (pA G sz) s.heap H locs) {k : Nat} {v : Int32} (hk : kd k = 0) (dg : decode cc pc = .ok (.putfield 18, 3))
    (kk : ∀ (H1 : Heap) (locs1 : List Loc), PW G (u2 M k 2 v) o H1 → va_S (pA G sz) s.heap H1 locs1 → W p l e R s m args below meth c H1 locs1 cells slots Q (F0 m (pc + 3) ls (rest))) : W p l e R s m args below meth c H locs cells slots Q (F0 m pc ls (.int v :: .ref (adr G k) :: rest)) :=
  w_put C0 hP hS tyX0 tyX0_ok nmX0 (T := TX0) (C := RX0) (kd_lt hk (by decide)) (ct_0 hk) (by rw [ct_0 hk, u2_at, u2_sl (j := 0) (by decide), u2_sl (j := 1) (by decide), u2_sl (j := 3) (by decide)]; rfl) inU_X0 rfl (j := 2) (by decide) rfl fl_X0_18 rfl (by decide +kernel) (Nat.le_of_ble_eq_true rfl) dg kk
theorem fl_X0_21 : Cond.fieldLink RX0 21 "PinholeHouse$Passer" "bright" "I" ∈ UU := List.mem_filter.mpr ⟨List.mem_append_right _ (List.mem_append_left _ (List.mem_of_getElem? (i := 64) rfl)), rfl⟩
theorem gf_X0_21 (C0 : CX p s m args meth c cc RX0 nL G sz) (hP : PW G M o H) {k : Nat} (hk : kd k = 0) (dg : decode cc pc = .ok (.getfield 21, 3))
    (kk : W p l e R s m args below meth c H locs cells slots Q (F0 m (pc + 3) ls (.int (M k 3) :: rest))) : W p l e R s m args below meth c H locs cells slots Q (F0 m pc ls (.ref (adr G k) :: rest)) :=
  w_get C0 hP (T := TX0) (C := RX0) (kd_lt hk (by decide)) (ct_0 hk) inU_X0 rfl (j := 3) (by decide) rfl fl_X0_21 rfl dg kk
theorem pf_X0_21 (C0 : CX p s m args meth c cc RX0 nL G sz) (hP : PW G M o H) (hS : va_S (pA G sz) s.heap H locs) {k : Nat} {v : Int32} (hk : kd k = 0) (dg : decode cc pc = .ok (.putfield 21, 3))
    (kk : ∀ (H1 : Heap) (locs1 : List Loc), PW G (u2 M k 3 v) o H1 → va_S (pA G sz) s.heap H1 locs1 → W p l e R s m args below meth c H1 locs1 cells slots Q (F0 m (pc + 3) ls (rest))) : W p l e R s m args below meth c H locs cells slots Q (F0 m pc ls (.int v :: .ref (adr G k) :: rest)) :=
  w_put C0 hP hS tyX0 tyX0_ok nmX0 (T := TX0) (C := RX0) (kd_lt hk (by decide)) (ct_0 hk) (by rw [ct_0 hk, u2_at, u2_sl (j := 0) (by decide), u2_sl (j := 1) (by decide), u2_sl (j := 2) (by decide)]; rfl) inU_X0 rfl (j := 3) (by decide) rfl fl_X0_21 rfl (by decide +kernel) (Nat.le_of_ble_eq_true rfl) dg kk
theorem fl_X1_9 : Cond.fieldLink RX1 9 "PinholeHouse$Room" "step" "I" ∈ UU := List.mem_filter.mpr ⟨List.mem_append_right _ (List.mem_append_left _ (List.mem_of_getElem? (i := 81) rfl)), rfl⟩
theorem gf_X1_9 (C0 : CX p s m args meth c cc RX1 nL G sz) (hP : PW G M o H) {k : Nat} (hk : kd k = 1) (dg : decode cc pc = .ok (.getfield 9, 3))
    (kk : W p l e R s m args below meth c H locs cells slots Q (F0 m (pc + 3) ls (.int (M k 0) :: rest))) : W p l e R s m args below meth c H locs cells slots Q (F0 m pc ls (.ref (adr G k) :: rest)) :=
  w_get C0 hP (T := TX1) (C := RX1) (kd_lt hk (by decide)) (ct_1 hk) inU_X1 rfl (j := 0) (by decide) rfl fl_X1_9 rfl dg kk
theorem pf_X1_9 (C0 : CX p s m args meth c cc RX1 nL G sz) (hP : PW G M o H) (hS : va_S (pA G sz) s.heap H locs) {k : Nat} {v : Int32} (hk : kd k = 1) (dg : decode cc pc = .ok (.putfield 9, 3))
    (kk : ∀ (H1 : Heap) (locs1 : List Loc), PW G (u2 M k 0 v) o H1 → va_S (pA G sz) s.heap H1 locs1 → W p l e R s m args below meth c H1 locs1 cells slots Q (F0 m (pc + 3) ls (rest))) : W p l e R s m args below meth c H locs cells slots Q (F0 m pc ls (.int v :: .ref (adr G k) :: rest)) :=
  w_put C0 hP hS tyX1 tyX1_ok nmX1 (T := TX1) (C := RX1) (kd_lt hk (by decide)) (ct_1 hk) (by rw [ct_1 hk, u2_at, u2_sl (j := 1) (by decide), u2_sl (j := 2) (by decide), u2_sl (j := 3) (by decide), u2_sl (j := 4) (by decide), u2_sl (j := 5) (by decide), u2_sl (j := 6) (by decide)]; rfl) inU_X1 rfl (j := 0) (by decide) rfl fl_X1_9 rfl (by decide +kernel) (Nat.le_of_ble_eq_true rfl) dg kk
theorem fl_X1_15 : Cond.fieldLink RX1 15 "PinholeHouse$Room" "depth" "I" ∈ UU := List.mem_filter.mpr ⟨List.mem_append_right _ (List.mem_append_left _ (List.mem_of_getElem? (i := 84) rfl)), rfl⟩
theorem gf_X1_15 (C0 : CX p s m args meth c cc RX1 nL G sz) (hP : PW G M o H) {k : Nat} (hk : kd k = 1) (dg : decode cc pc = .ok (.getfield 15, 3))
    (kk : W p l e R s m args below meth c H locs cells slots Q (F0 m (pc + 3) ls (.int (M k 1) :: rest))) : W p l e R s m args below meth c H locs cells slots Q (F0 m pc ls (.ref (adr G k) :: rest)) :=
  w_get C0 hP (T := TX1) (C := RX1) (kd_lt hk (by decide)) (ct_1 hk) inU_X1 rfl (j := 1) (by decide) rfl fl_X1_15 rfl dg kk
theorem pf_X1_15 (C0 : CX p s m args meth c cc RX1 nL G sz) (hP : PW G M o H) (hS : va_S (pA G sz) s.heap H locs) {k : Nat} {v : Int32} (hk : kd k = 1) (dg : decode cc pc = .ok (.putfield 15, 3))
    (kk : ∀ (H1 : Heap) (locs1 : List Loc), PW G (u2 M k 1 v) o H1 → va_S (pA G sz) s.heap H1 locs1 → W p l e R s m args below meth c H1 locs1 cells slots Q (F0 m (pc + 3) ls (rest))) : W p l e R s m args below meth c H locs cells slots Q (F0 m pc ls (.int v :: .ref (adr G k) :: rest)) :=
  w_put C0 hP hS tyX1 tyX1_ok nmX1 (T := TX1) (C := RX1) (kd_lt hk (by decide)) (ct_1 hk) (by rw [ct_1 hk, u2_at, u2_sl (j := 0) (by decide), u2_sl (j := 2) (by decide), u2_sl (j := 3) (by decide), u2_sl (j := 4) (by decide), u2_sl (j := 5) (by decide), u2_sl (j := 6) (by decide)]; rfl) inU_X1 rfl (j := 1) (by decide) rfl fl_X1_15 rfl (by decide +kernel) (Nat.le_of_ble_eq_true rfl) dg kk
theorem fl_X1_18 : Cond.fieldLink RX1 18 "PinholeHouse$Room" "seats" "I" ∈ UU := List.mem_filter.mpr ⟨List.mem_append_right _ (List.mem_append_left _ (List.mem_of_getElem? (i := 90) rfl)), rfl⟩
theorem gf_X1_18 (C0 : CX p s m args meth c cc RX1 nL G sz) (hP : PW G M o H) {k : Nat} (hk : kd k = 1) (dg : decode cc pc = .ok (.getfield 18, 3))
    (kk : W p l e R s m args below meth c H locs cells slots Q (F0 m (pc + 3) ls (.int (M k 4) :: rest))) : W p l e R s m args below meth c H locs cells slots Q (F0 m pc ls (.ref (adr G k) :: rest)) :=
  w_get C0 hP (T := TX1) (C := RX1) (kd_lt hk (by decide)) (ct_1 hk) inU_X1 rfl (j := 4) (by decide) rfl fl_X1_18 rfl dg kk
theorem pf_X1_18 (C0 : CX p s m args meth c cc RX1 nL G sz) (hP : PW G M o H) (hS : va_S (pA G sz) s.heap H locs) {k : Nat} {v : Int32} (hk : kd k = 1) (dg : decode cc pc = .ok (.putfield 18, 3))
    (kk : ∀ (H1 : Heap) (locs1 : List Loc), PW G (u2 M k 4 v) o H1 → va_S (pA G sz) s.heap H1 locs1 → W p l e R s m args below meth c H1 locs1 cells slots Q (F0 m (pc + 3) ls (rest))) : W p l e R s m args below meth c H locs cells slots Q (F0 m pc ls (.int v :: .ref (adr G k) :: rest)) :=
  w_put C0 hP hS tyX1 tyX1_ok nmX1 (T := TX1) (C := RX1) (kd_lt hk (by decide)) (ct_1 hk) (by rw [ct_1 hk, u2_at, u2_sl (j := 0) (by decide), u2_sl (j := 1) (by decide), u2_sl (j := 2) (by decide), u2_sl (j := 3) (by decide), u2_sl (j := 5) (by decide), u2_sl (j := 6) (by decide)]; rfl) inU_X1 rfl (j := 4) (by decide) rfl fl_X1_18 rfl (by decide +kernel) (Nat.le_of_ble_eq_true rfl) dg kk
theorem fl_X1_21 : Cond.fieldLink RX1 21 "PinholeHouse$Room" "hole" "I" ∈ UU := List.mem_filter.mpr ⟨List.mem_append_right _ (List.mem_append_left _ (List.mem_of_getElem? (i := 86) rfl)), rfl⟩
theorem gf_X1_21 (C0 : CX p s m args meth c cc RX1 nL G sz) (hP : PW G M o H) {k : Nat} (hk : kd k = 1) (dg : decode cc pc = .ok (.getfield 21, 3))
    (kk : W p l e R s m args below meth c H locs cells slots Q (F0 m (pc + 3) ls (.int (M k 2) :: rest))) : W p l e R s m args below meth c H locs cells slots Q (F0 m pc ls (.ref (adr G k) :: rest)) :=
  w_get C0 hP (T := TX1) (C := RX1) (kd_lt hk (by decide)) (ct_1 hk) inU_X1 rfl (j := 2) (by decide) rfl fl_X1_21 rfl dg kk
theorem pf_X1_21 (C0 : CX p s m args meth c cc RX1 nL G sz) (hP : PW G M o H) (hS : va_S (pA G sz) s.heap H locs) {k : Nat} {v : Int32} (hk : kd k = 1) (dg : decode cc pc = .ok (.putfield 21, 3))
    (kk : ∀ (H1 : Heap) (locs1 : List Loc), PW G (u2 M k 2 v) o H1 → va_S (pA G sz) s.heap H1 locs1 → W p l e R s m args below meth c H1 locs1 cells slots Q (F0 m (pc + 3) ls (rest))) : W p l e R s m args below meth c H locs cells slots Q (F0 m pc ls (.int v :: .ref (adr G k) :: rest)) :=
  w_put C0 hP hS tyX1 tyX1_ok nmX1 (T := TX1) (C := RX1) (kd_lt hk (by decide)) (ct_1 hk) (by rw [ct_1 hk, u2_at, u2_sl (j := 0) (by decide), u2_sl (j := 1) (by decide), u2_sl (j := 3) (by decide), u2_sl (j := 4) (by decide), u2_sl (j := 5) (by decide), u2_sl (j := 6) (by decide)]; rfl) inU_X1 rfl (j := 2) (by decide) rfl fl_X1_21 rfl (by decide +kernel) (Nat.le_of_ble_eq_true rfl) dg kk
theorem fl_X1_28 : Cond.fieldLink RX1 28 "PinholeHouse$Room" "paint" "I" ∈ UU := List.mem_filter.mpr ⟨List.mem_append_right _ (List.mem_append_left _ (List.mem_of_getElem? (i := 88) rfl)), rfl⟩
theorem gf_X1_28 (C0 : CX p s m args meth c cc RX1 nL G sz) (hP : PW G M o H) {k : Nat} (hk : kd k = 1) (dg : decode cc pc = .ok (.getfield 28, 3))
    (kk : W p l e R s m args below meth c H locs cells slots Q (F0 m (pc + 3) ls (.int (M k 3) :: rest))) : W p l e R s m args below meth c H locs cells slots Q (F0 m pc ls (.ref (adr G k) :: rest)) :=
  w_get C0 hP (T := TX1) (C := RX1) (kd_lt hk (by decide)) (ct_1 hk) inU_X1 rfl (j := 3) (by decide) rfl fl_X1_28 rfl dg kk
theorem pf_X1_28 (C0 : CX p s m args meth c cc RX1 nL G sz) (hP : PW G M o H) (hS : va_S (pA G sz) s.heap H locs) {k : Nat} {v : Int32} (hk : kd k = 1) (dg : decode cc pc = .ok (.putfield 28, 3))
    (kk : ∀ (H1 : Heap) (locs1 : List Loc), PW G (u2 M k 3 v) o H1 → va_S (pA G sz) s.heap H1 locs1 → W p l e R s m args below meth c H1 locs1 cells slots Q (F0 m (pc + 3) ls (rest))) : W p l e R s m args below meth c H locs cells slots Q (F0 m pc ls (.int v :: .ref (adr G k) :: rest)) :=
  w_put C0 hP hS tyX1 tyX1_ok nmX1 (T := TX1) (C := RX1) (kd_lt hk (by decide)) (ct_1 hk) (by rw [ct_1 hk, u2_at, u2_sl (j := 0) (by decide), u2_sl (j := 1) (by decide), u2_sl (j := 2) (by decide), u2_sl (j := 4) (by decide), u2_sl (j := 5) (by decide), u2_sl (j := 6) (by decide)]; rfl) inU_X1 rfl (j := 3) (by decide) rfl fl_X1_28 rfl (by decide +kernel) (Nat.le_of_ble_eq_true rfl) dg kk
theorem fl_X1_31 : Cond.fieldLink RX1 31 "PinholeHouse$Room" "people" "I" ∈ UU := List.mem_filter.mpr ⟨List.mem_append_right _ (List.mem_append_left _ (List.mem_of_getElem? (i := 92) rfl)), rfl⟩
theorem gf_X1_31 (C0 : CX p s m args meth c cc RX1 nL G sz) (hP : PW G M o H) {k : Nat} (hk : kd k = 1) (dg : decode cc pc = .ok (.getfield 31, 3))
    (kk : W p l e R s m args below meth c H locs cells slots Q (F0 m (pc + 3) ls (.int (M k 5) :: rest))) : W p l e R s m args below meth c H locs cells slots Q (F0 m pc ls (.ref (adr G k) :: rest)) :=
  w_get C0 hP (T := TX1) (C := RX1) (kd_lt hk (by decide)) (ct_1 hk) inU_X1 rfl (j := 5) (by decide) rfl fl_X1_31 rfl dg kk
theorem pf_X1_31 (C0 : CX p s m args meth c cc RX1 nL G sz) (hP : PW G M o H) (hS : va_S (pA G sz) s.heap H locs) {k : Nat} {v : Int32} (hk : kd k = 1) (dg : decode cc pc = .ok (.putfield 31, 3))
    (kk : ∀ (H1 : Heap) (locs1 : List Loc), PW G (u2 M k 5 v) o H1 → va_S (pA G sz) s.heap H1 locs1 → W p l e R s m args below meth c H1 locs1 cells slots Q (F0 m (pc + 3) ls (rest))) : W p l e R s m args below meth c H locs cells slots Q (F0 m pc ls (.int v :: .ref (adr G k) :: rest)) :=
  w_put C0 hP hS tyX1 tyX1_ok nmX1 (T := TX1) (C := RX1) (kd_lt hk (by decide)) (ct_1 hk) (by rw [ct_1 hk, u2_at, u2_sl (j := 0) (by decide), u2_sl (j := 1) (by decide), u2_sl (j := 2) (by decide), u2_sl (j := 3) (by decide), u2_sl (j := 4) (by decide), u2_sl (j := 6) (by decide)]; rfl) inU_X1 rfl (j := 5) (by decide) rfl fl_X1_31 rfl (by decide +kernel) (Nat.le_of_ble_eq_true rfl) dg kk
theorem fl_X1_34 : Cond.fieldLink RX1 34 "PinholeHouse$Room" "pence" "I" ∈ UU := List.mem_filter.mpr ⟨List.mem_append_right _ (List.mem_append_left _ (List.mem_of_getElem? (i := 95) rfl)), rfl⟩
theorem gf_X1_34 (C0 : CX p s m args meth c cc RX1 nL G sz) (hP : PW G M o H) {k : Nat} (hk : kd k = 1) (dg : decode cc pc = .ok (.getfield 34, 3))
    (kk : W p l e R s m args below meth c H locs cells slots Q (F0 m (pc + 3) ls (.int (M k 6) :: rest))) : W p l e R s m args below meth c H locs cells slots Q (F0 m pc ls (.ref (adr G k) :: rest)) :=
  w_get C0 hP (T := TX1) (C := RX1) (kd_lt hk (by decide)) (ct_1 hk) inU_X1 rfl (j := 6) (by decide) rfl fl_X1_34 rfl dg kk
theorem pf_X1_34 (C0 : CX p s m args meth c cc RX1 nL G sz) (hP : PW G M o H) (hS : va_S (pA G sz) s.heap H locs) {k : Nat} {v : Int32} (hk : kd k = 1) (dg : decode cc pc = .ok (.putfield 34, 3))
    (kk : ∀ (H1 : Heap) (locs1 : List Loc), PW G (u2 M k 6 v) o H1 → va_S (pA G sz) s.heap H1 locs1 → W p l e R s m args below meth c H1 locs1 cells slots Q (F0 m (pc + 3) ls (rest))) : W p l e R s m args below meth c H locs cells slots Q (F0 m pc ls (.int v :: .ref (adr G k) :: rest)) :=
  w_put C0 hP hS tyX1 tyX1_ok nmX1 (T := TX1) (C := RX1) (kd_lt hk (by decide)) (ct_1 hk) (by rw [ct_1 hk, u2_at, u2_sl (j := 0) (by decide), u2_sl (j := 1) (by decide), u2_sl (j := 2) (by decide), u2_sl (j := 3) (by decide), u2_sl (j := 4) (by decide), u2_sl (j := 5) (by decide)]; rfl) inU_X1 rfl (j := 6) (by decide) rfl fl_X1_34 rfl (by decide +kernel) (Nat.le_of_ble_eq_true rfl) dg kk
theorem fl_X1_43 : (RX1, 43, "PinholeHouse$Passer", "step", "I", "PinholeHouse") ∈ nestF := List.mem_of_getElem? (i := 0) rfl
theorem gf_X1_43 (C0 : CX p s m args meth c cc RX1 nL G sz) (hP : PW G M o H) {k : Nat} (hk : kd k = 0) (dg : decode cc pc = .ok (.getfield 43, 3))
    (kk : W p l e R s m args below meth c H locs cells slots Q (F0 m (pc + 3) ls (.int (M k 0) :: rest))) : W p l e R s m args below meth c H locs cells slots Q (F0 m pc ls (.ref (adr G k) :: rest)) :=
  w_getN C0 hP (T := TX0) (C := RX0) (kd_lt hk (by decide)) (ct_0 hk) inU_X0 rfl (j := 0) (by decide) rfl fl_X1_43 rfl dg kk
theorem pf_X1_43 (C0 : CX p s m args meth c cc RX1 nL G sz) (hP : PW G M o H) (hS : va_S (pA G sz) s.heap H locs) {k : Nat} {v : Int32} (hk : kd k = 0) (dg : decode cc pc = .ok (.putfield 43, 3))
    (kk : ∀ (H1 : Heap) (locs1 : List Loc), PW G (u2 M k 0 v) o H1 → va_S (pA G sz) s.heap H1 locs1 → W p l e R s m args below meth c H1 locs1 cells slots Q (F0 m (pc + 3) ls (rest))) : W p l e R s m args below meth c H locs cells slots Q (F0 m pc ls (.int v :: .ref (adr G k) :: rest)) :=
  w_putN C0 hP hS tyX0 tyX0_ok nmX0 (T := TX0) (C := RX0) (kd_lt hk (by decide)) (ct_0 hk) (by rw [ct_0 hk, u2_at, u2_sl (j := 1) (by decide), u2_sl (j := 2) (by decide), u2_sl (j := 3) (by decide)]; rfl) inU_X0 rfl (j := 0) (by decide) rfl fl_X1_43 rfl (by decide +kernel) (Nat.le_of_ble_eq_true rfl) dg kk
theorem fl_X1_54 : (RX1, 54, "PinholeHouse$Passer", "bright", "I", "PinholeHouse") ∈ nestF := List.mem_of_getElem? (i := 1) rfl
theorem gf_X1_54 (C0 : CX p s m args meth c cc RX1 nL G sz) (hP : PW G M o H) {k : Nat} (hk : kd k = 0) (dg : decode cc pc = .ok (.getfield 54, 3))
    (kk : W p l e R s m args below meth c H locs cells slots Q (F0 m (pc + 3) ls (.int (M k 3) :: rest))) : W p l e R s m args below meth c H locs cells slots Q (F0 m pc ls (.ref (adr G k) :: rest)) :=
  w_getN C0 hP (T := TX0) (C := RX0) (kd_lt hk (by decide)) (ct_0 hk) inU_X0 rfl (j := 3) (by decide) rfl fl_X1_54 rfl dg kk
theorem pf_X1_54 (C0 : CX p s m args meth c cc RX1 nL G sz) (hP : PW G M o H) (hS : va_S (pA G sz) s.heap H locs) {k : Nat} {v : Int32} (hk : kd k = 0) (dg : decode cc pc = .ok (.putfield 54, 3))
    (kk : ∀ (H1 : Heap) (locs1 : List Loc), PW G (u2 M k 3 v) o H1 → va_S (pA G sz) s.heap H1 locs1 → W p l e R s m args below meth c H1 locs1 cells slots Q (F0 m (pc + 3) ls (rest))) : W p l e R s m args below meth c H locs cells slots Q (F0 m pc ls (.int v :: .ref (adr G k) :: rest)) :=
  w_putN C0 hP hS tyX0 tyX0_ok nmX0 (T := TX0) (C := RX0) (kd_lt hk (by decide)) (ct_0 hk) (by rw [ct_0 hk, u2_at, u2_sl (j := 0) (by decide), u2_sl (j := 1) (by decide), u2_sl (j := 2) (by decide)]; rfl) inU_X0 rfl (j := 3) (by decide) rfl fl_X1_54 rfl (by decide +kernel) (Nat.le_of_ble_eq_true rfl) dg kk
theorem fl_X1_61 : (RX1, 61, "PinholeHouse$Passer", "tall", "I", "PinholeHouse") ∈ nestF := List.mem_of_getElem? (i := 2) rfl
theorem gf_X1_61 (C0 : CX p s m args meth c cc RX1 nL G sz) (hP : PW G M o H) {k : Nat} (hk : kd k = 0) (dg : decode cc pc = .ok (.getfield 61, 3))
    (kk : W p l e R s m args below meth c H locs cells slots Q (F0 m (pc + 3) ls (.int (M k 2) :: rest))) : W p l e R s m args below meth c H locs cells slots Q (F0 m pc ls (.ref (adr G k) :: rest)) :=
  w_getN C0 hP (T := TX0) (C := RX0) (kd_lt hk (by decide)) (ct_0 hk) inU_X0 rfl (j := 2) (by decide) rfl fl_X1_61 rfl dg kk
theorem pf_X1_61 (C0 : CX p s m args meth c cc RX1 nL G sz) (hP : PW G M o H) (hS : va_S (pA G sz) s.heap H locs) {k : Nat} {v : Int32} (hk : kd k = 0) (dg : decode cc pc = .ok (.putfield 61, 3))
    (kk : ∀ (H1 : Heap) (locs1 : List Loc), PW G (u2 M k 2 v) o H1 → va_S (pA G sz) s.heap H1 locs1 → W p l e R s m args below meth c H1 locs1 cells slots Q (F0 m (pc + 3) ls (rest))) : W p l e R s m args below meth c H locs cells slots Q (F0 m pc ls (.int v :: .ref (adr G k) :: rest)) :=
  w_putN C0 hP hS tyX0 tyX0_ok nmX0 (T := TX0) (C := RX0) (kd_lt hk (by decide)) (ct_0 hk) (by rw [ct_0 hk, u2_at, u2_sl (j := 0) (by decide), u2_sl (j := 1) (by decide), u2_sl (j := 3) (by decide)]; rfl) inU_X0 rfl (j := 2) (by decide) rfl fl_X1_61 rfl (by decide +kernel) (Nat.le_of_ble_eq_true rfl) dg kk
theorem fl_X2_11 : Cond.fieldLink RX2 11 "PinholeHouse$Scene" "passers" "[LPinholeHouse$Passer;" ∈ UU := List.mem_filter.mpr ⟨List.mem_append_right _ (List.mem_append_left _ (List.mem_of_getElem? (i := 119) rfl)), rfl⟩
theorem gf_X2_11 (C0 : CX p s m args meth c cc RX2 nL G sz) (hP : PW G M o H) {k : Nat} (hk : kd k = 2) (dg : decode cc pc = .ok (.getfield 11, 3))
    (kk : W p l e R s m args below meth c H locs cells slots Q (F0 m (pc + 3) ls (.ref (adr G (k + 1)) :: rest))) : W p l e R s m args below meth c H locs cells slots Q (F0 m pc ls (.ref (adr G k) :: rest)) :=
  w_get C0 hP (T := TX2) (C := RX2) (kd_lt hk (by decide)) (ct_2 hk) inU_X2 rfl (j := 3) (by decide) rfl fl_X2_11 rfl dg kk
theorem fl_X2_19 : Cond.fieldLink RX2 19 "PinholeHouse$Scene" "rooms" "[LPinholeHouse$Room;" ∈ UU := List.mem_filter.mpr ⟨List.mem_append_right _ (List.mem_append_left _ (List.mem_of_getElem? (i := 121) rfl)), rfl⟩
theorem gf_X2_19 (C0 : CX p s m args meth c cc RX2 nL G sz) (hP : PW G M o H) {k : Nat} (hk : kd k = 2) (dg : decode cc pc = .ok (.getfield 19, 3))
    (kk : W p l e R s m args below meth c H locs cells slots Q (F0 m (pc + 3) ls (.ref (adr G (k + 2)) :: rest))) : W p l e R s m args below meth c H locs cells slots Q (F0 m pc ls (.ref (adr G k) :: rest)) :=
  w_get C0 hP (T := TX2) (C := RX2) (kd_lt hk (by decide)) (ct_2 hk) inU_X2 rfl (j := 4) (by decide) rfl fl_X2_19 rfl dg kk
theorem fl_X2_25 : Cond.fieldLink RX2 25 "PinholeHouse$Scene" "minute" "I" ∈ UU := List.mem_filter.mpr ⟨List.mem_append_right _ (List.mem_append_left _ (List.mem_of_getElem? (i := 113) rfl)), rfl⟩
theorem gf_X2_25 (C0 : CX p s m args meth c cc RX2 nL G sz) (hP : PW G M o H) {k : Nat} (hk : kd k = 2) (dg : decode cc pc = .ok (.getfield 25, 3))
    (kk : W p l e R s m args below meth c H locs cells slots Q (F0 m (pc + 3) ls (.int (M k 0) :: rest))) : W p l e R s m args below meth c H locs cells slots Q (F0 m pc ls (.ref (adr G k) :: rest)) :=
  w_get C0 hP (T := TX2) (C := RX2) (kd_lt hk (by decide)) (ct_2 hk) inU_X2 rfl (j := 0) (by decide) rfl fl_X2_25 rfl dg kk
theorem pf_X2_25 (C0 : CX p s m args meth c cc RX2 nL G sz) (hP : PW G M o H) (hS : va_S (pA G sz) s.heap H locs) {k : Nat} {v : Int32} (hk : kd k = 2) (dg : decode cc pc = .ok (.putfield 25, 3))
    (kk : ∀ (H1 : Heap) (locs1 : List Loc), PW G (u2 M k 0 v) o H1 → va_S (pA G sz) s.heap H1 locs1 → W p l e R s m args below meth c H1 locs1 cells slots Q (F0 m (pc + 3) ls (rest))) : W p l e R s m args below meth c H locs cells slots Q (F0 m pc ls (.int v :: .ref (adr G k) :: rest)) :=
  w_put C0 hP hS tyX2 tyX2_ok nmX2 (T := TX2) (C := RX2) (kd_lt hk (by decide)) (ct_2 hk) (by rw [ct_2 hk, u2_at, u2_sl (j := 1) (by decide), u2_sl (j := 2) (by decide)]; rfl) inU_X2 rfl (j := 0) (by decide) rfl fl_X2_25 rfl (by decide +kernel) (Nat.le_of_ble_eq_true rfl) dg kk
theorem fl_X2_29 : Cond.fieldLink RX2 29 "PinholeHouse$Scene" "passersCome" "I" ∈ UU := List.mem_filter.mpr ⟨List.mem_append_right _ (List.mem_append_left _ (List.mem_of_getElem? (i := 115) rfl)), rfl⟩
theorem gf_X2_29 (C0 : CX p s m args meth c cc RX2 nL G sz) (hP : PW G M o H) {k : Nat} (hk : kd k = 2) (dg : decode cc pc = .ok (.getfield 29, 3))
    (kk : W p l e R s m args below meth c H locs cells slots Q (F0 m (pc + 3) ls (.int (M k 1) :: rest))) : W p l e R s m args below meth c H locs cells slots Q (F0 m pc ls (.ref (adr G k) :: rest)) :=
  w_get C0 hP (T := TX2) (C := RX2) (kd_lt hk (by decide)) (ct_2 hk) inU_X2 rfl (j := 1) (by decide) rfl fl_X2_29 rfl dg kk
theorem pf_X2_29 (C0 : CX p s m args meth c cc RX2 nL G sz) (hP : PW G M o H) (hS : va_S (pA G sz) s.heap H locs) {k : Nat} {v : Int32} (hk : kd k = 2) (dg : decode cc pc = .ok (.putfield 29, 3))
    (kk : ∀ (H1 : Heap) (locs1 : List Loc), PW G (u2 M k 1 v) o H1 → va_S (pA G sz) s.heap H1 locs1 → W p l e R s m args below meth c H1 locs1 cells slots Q (F0 m (pc + 3) ls (rest))) : W p l e R s m args below meth c H locs cells slots Q (F0 m pc ls (.int v :: .ref (adr G k) :: rest)) :=
  w_put C0 hP hS tyX2 tyX2_ok nmX2 (T := TX2) (C := RX2) (kd_lt hk (by decide)) (ct_2 hk) (by rw [ct_2 hk, u2_at, u2_sl (j := 0) (by decide), u2_sl (j := 2) (by decide)]; rfl) inU_X2 rfl (j := 1) (by decide) rfl fl_X2_29 rfl (by decide +kernel) (Nat.le_of_ble_eq_true rfl) dg kk
theorem fl_X2_32 : Cond.fieldLink RX2 32 "PinholeHouse$Scene" "roomsBuilt" "I" ∈ UU := List.mem_filter.mpr ⟨List.mem_append_right _ (List.mem_append_left _ (List.mem_of_getElem? (i := 117) rfl)), rfl⟩
theorem gf_X2_32 (C0 : CX p s m args meth c cc RX2 nL G sz) (hP : PW G M o H) {k : Nat} (hk : kd k = 2) (dg : decode cc pc = .ok (.getfield 32, 3))
    (kk : W p l e R s m args below meth c H locs cells slots Q (F0 m (pc + 3) ls (.int (M k 2) :: rest))) : W p l e R s m args below meth c H locs cells slots Q (F0 m pc ls (.ref (adr G k) :: rest)) :=
  w_get C0 hP (T := TX2) (C := RX2) (kd_lt hk (by decide)) (ct_2 hk) inU_X2 rfl (j := 2) (by decide) rfl fl_X2_32 rfl dg kk
theorem pf_X2_32 (C0 : CX p s m args meth c cc RX2 nL G sz) (hP : PW G M o H) (hS : va_S (pA G sz) s.heap H locs) {k : Nat} {v : Int32} (hk : kd k = 2) (dg : decode cc pc = .ok (.putfield 32, 3))
    (kk : ∀ (H1 : Heap) (locs1 : List Loc), PW G (u2 M k 2 v) o H1 → va_S (pA G sz) s.heap H1 locs1 → W p l e R s m args below meth c H1 locs1 cells slots Q (F0 m (pc + 3) ls (rest))) : W p l e R s m args below meth c H locs cells slots Q (F0 m pc ls (.int v :: .ref (adr G k) :: rest)) :=
  w_put C0 hP hS tyX2 tyX2_ok nmX2 (T := TX2) (C := RX2) (kd_lt hk (by decide)) (ct_2 hk) (by rw [ct_2 hk, u2_at, u2_sl (j := 0) (by decide), u2_sl (j := 1) (by decide)]; rfl) inU_X2 rfl (j := 2) (by decide) rfl fl_X2_32 rfl (by decide +kernel) (Nat.le_of_ble_eq_true rfl) dg kk
theorem fl_X2_42 : (RX2, 42, "PinholeHouse$Room", "step", "I", "PinholeHouse") ∈ nestF := List.mem_of_getElem? (i := 3) rfl
theorem gf_X2_42 (C0 : CX p s m args meth c cc RX2 nL G sz) (hP : PW G M o H) {k : Nat} (hk : kd k = 1) (dg : decode cc pc = .ok (.getfield 42, 3))
    (kk : W p l e R s m args below meth c H locs cells slots Q (F0 m (pc + 3) ls (.int (M k 0) :: rest))) : W p l e R s m args below meth c H locs cells slots Q (F0 m pc ls (.ref (adr G k) :: rest)) :=
  w_getN C0 hP (T := TX1) (C := RX1) (kd_lt hk (by decide)) (ct_1 hk) inU_X1 rfl (j := 0) (by decide) rfl fl_X2_42 rfl dg kk
theorem pf_X2_42 (C0 : CX p s m args meth c cc RX2 nL G sz) (hP : PW G M o H) (hS : va_S (pA G sz) s.heap H locs) {k : Nat} {v : Int32} (hk : kd k = 1) (dg : decode cc pc = .ok (.putfield 42, 3))
    (kk : ∀ (H1 : Heap) (locs1 : List Loc), PW G (u2 M k 0 v) o H1 → va_S (pA G sz) s.heap H1 locs1 → W p l e R s m args below meth c H1 locs1 cells slots Q (F0 m (pc + 3) ls (rest))) : W p l e R s m args below meth c H locs cells slots Q (F0 m pc ls (.int v :: .ref (adr G k) :: rest)) :=
  w_putN C0 hP hS tyX1 tyX1_ok nmX1 (T := TX1) (C := RX1) (kd_lt hk (by decide)) (ct_1 hk) (by rw [ct_1 hk, u2_at, u2_sl (j := 1) (by decide), u2_sl (j := 2) (by decide), u2_sl (j := 3) (by decide), u2_sl (j := 4) (by decide), u2_sl (j := 5) (by decide), u2_sl (j := 6) (by decide)]; rfl) inU_X1 rfl (j := 0) (by decide) rfl fl_X2_42 rfl (by decide +kernel) (Nat.le_of_ble_eq_true rfl) dg kk
theorem fl_X2_49 : (RX2, 49, "PinholeHouse$Passer", "step", "I", "PinholeHouse") ∈ nestF := List.mem_of_getElem? (i := 4) rfl
theorem gf_X2_49 (C0 : CX p s m args meth c cc RX2 nL G sz) (hP : PW G M o H) {k : Nat} (hk : kd k = 0) (dg : decode cc pc = .ok (.getfield 49, 3))
    (kk : W p l e R s m args below meth c H locs cells slots Q (F0 m (pc + 3) ls (.int (M k 0) :: rest))) : W p l e R s m args below meth c H locs cells slots Q (F0 m pc ls (.ref (adr G k) :: rest)) :=
  w_getN C0 hP (T := TX0) (C := RX0) (kd_lt hk (by decide)) (ct_0 hk) inU_X0 rfl (j := 0) (by decide) rfl fl_X2_49 rfl dg kk
theorem pf_X2_49 (C0 : CX p s m args meth c cc RX2 nL G sz) (hP : PW G M o H) (hS : va_S (pA G sz) s.heap H locs) {k : Nat} {v : Int32} (hk : kd k = 0) (dg : decode cc pc = .ok (.putfield 49, 3))
    (kk : ∀ (H1 : Heap) (locs1 : List Loc), PW G (u2 M k 0 v) o H1 → va_S (pA G sz) s.heap H1 locs1 → W p l e R s m args below meth c H1 locs1 cells slots Q (F0 m (pc + 3) ls (rest))) : W p l e R s m args below meth c H locs cells slots Q (F0 m pc ls (.int v :: .ref (adr G k) :: rest)) :=
  w_putN C0 hP hS tyX0 tyX0_ok nmX0 (T := TX0) (C := RX0) (kd_lt hk (by decide)) (ct_0 hk) (by rw [ct_0 hk, u2_at, u2_sl (j := 1) (by decide), u2_sl (j := 2) (by decide), u2_sl (j := 3) (by decide)]; rfl) inU_X0 rfl (j := 0) (by decide) rfl fl_X2_49 rfl (by decide +kernel) (Nat.le_of_ble_eq_true rfl) dg kk
theorem fl_X2_62 : (RX2, 62, "PinholeHouse$Room", "people", "I", "PinholeHouse") ∈ nestF := List.mem_of_getElem? (i := 5) rfl
theorem gf_X2_62 (C0 : CX p s m args meth c cc RX2 nL G sz) (hP : PW G M o H) {k : Nat} (hk : kd k = 1) (dg : decode cc pc = .ok (.getfield 62, 3))
    (kk : W p l e R s m args below meth c H locs cells slots Q (F0 m (pc + 3) ls (.int (M k 5) :: rest))) : W p l e R s m args below meth c H locs cells slots Q (F0 m pc ls (.ref (adr G k) :: rest)) :=
  w_getN C0 hP (T := TX1) (C := RX1) (kd_lt hk (by decide)) (ct_1 hk) inU_X1 rfl (j := 5) (by decide) rfl fl_X2_62 rfl dg kk
theorem pf_X2_62 (C0 : CX p s m args meth c cc RX2 nL G sz) (hP : PW G M o H) (hS : va_S (pA G sz) s.heap H locs) {k : Nat} {v : Int32} (hk : kd k = 1) (dg : decode cc pc = .ok (.putfield 62, 3))
    (kk : ∀ (H1 : Heap) (locs1 : List Loc), PW G (u2 M k 5 v) o H1 → va_S (pA G sz) s.heap H1 locs1 → W p l e R s m args below meth c H1 locs1 cells slots Q (F0 m (pc + 3) ls (rest))) : W p l e R s m args below meth c H locs cells slots Q (F0 m pc ls (.int v :: .ref (adr G k) :: rest)) :=
  w_putN C0 hP hS tyX1 tyX1_ok nmX1 (T := TX1) (C := RX1) (kd_lt hk (by decide)) (ct_1 hk) (by rw [ct_1 hk, u2_at, u2_sl (j := 0) (by decide), u2_sl (j := 1) (by decide), u2_sl (j := 2) (by decide), u2_sl (j := 3) (by decide), u2_sl (j := 4) (by decide), u2_sl (j := 6) (by decide)]; rfl) inU_X1 rfl (j := 5) (by decide) rfl fl_X2_62 rfl (by decide +kernel) (Nat.le_of_ble_eq_true rfl) dg kk
theorem fl_X2_65 : (RX2, 65, "PinholeHouse$Room", "pence", "I", "PinholeHouse") ∈ nestF := List.mem_of_getElem? (i := 6) rfl
theorem gf_X2_65 (C0 : CX p s m args meth c cc RX2 nL G sz) (hP : PW G M o H) {k : Nat} (hk : kd k = 1) (dg : decode cc pc = .ok (.getfield 65, 3))
    (kk : W p l e R s m args below meth c H locs cells slots Q (F0 m (pc + 3) ls (.int (M k 6) :: rest))) : W p l e R s m args below meth c H locs cells slots Q (F0 m pc ls (.ref (adr G k) :: rest)) :=
  w_getN C0 hP (T := TX1) (C := RX1) (kd_lt hk (by decide)) (ct_1 hk) inU_X1 rfl (j := 6) (by decide) rfl fl_X2_65 rfl dg kk
theorem pf_X2_65 (C0 : CX p s m args meth c cc RX2 nL G sz) (hP : PW G M o H) (hS : va_S (pA G sz) s.heap H locs) {k : Nat} {v : Int32} (hk : kd k = 1) (dg : decode cc pc = .ok (.putfield 65, 3))
    (kk : ∀ (H1 : Heap) (locs1 : List Loc), PW G (u2 M k 6 v) o H1 → va_S (pA G sz) s.heap H1 locs1 → W p l e R s m args below meth c H1 locs1 cells slots Q (F0 m (pc + 3) ls (rest))) : W p l e R s m args below meth c H locs cells slots Q (F0 m pc ls (.int v :: .ref (adr G k) :: rest)) :=
  w_putN C0 hP hS tyX1 tyX1_ok nmX1 (T := TX1) (C := RX1) (kd_lt hk (by decide)) (ct_1 hk) (by rw [ct_1 hk, u2_at, u2_sl (j := 0) (by decide), u2_sl (j := 1) (by decide), u2_sl (j := 2) (by decide), u2_sl (j := 3) (by decide), u2_sl (j := 4) (by decide), u2_sl (j := 5) (by decide)]; rfl) inU_X1 rfl (j := 6) (by decide) rfl fl_X2_65 rfl (by decide +kernel) (Nat.le_of_ble_eq_true rfl) dg kk
theorem fl_X3_9 : Cond.fieldLink RX3 9 "PinholeHouse$Sky" "light" "[I" ∈ UU := List.mem_filter.mpr ⟨List.mem_append_right _ (List.mem_append_left _ (List.mem_of_getElem? (i := 30) rfl)), rfl⟩
theorem gf_X3_9 (C0 : CX p s m args meth c cc RX3 nL G sz) (hP : PW G M o H) {k : Nat} (hk : kd k = 3) (dg : decode cc pc = .ok (.getfield 9, 3))
    (kk : W p l e R s m args below meth c H locs cells slots Q (F0 m (pc + 3) ls (.ref (adr G (k + 1)) :: rest))) : W p l e R s m args below meth c H locs cells slots Q (F0 m pc ls (.ref (adr G k) :: rest)) :=
  w_get C0 hP (T := TX3) (C := RX3) (kd_lt hk (by decide)) (ct_3 hk) inU_X3 rfl (j := 0) (by decide) rfl fl_X3_9 rfl dg kk
theorem fl_X3_15 : Cond.fieldLink RX3 15 "PinholeHouse$Sky" "clouds" "[I" ∈ UU := List.mem_filter.mpr ⟨List.mem_append_right _ (List.mem_append_left _ (List.mem_of_getElem? (i := 32) rfl)), rfl⟩
theorem gf_X3_15 (C0 : CX p s m args meth c cc RX3 nL G sz) (hP : PW G M o H) {k : Nat} (hk : kd k = 3) (dg : decode cc pc = .ok (.getfield 15, 3))
    (kk : W p l e R s m args below meth c H locs cells slots Q (F0 m (pc + 3) ls (.ref (adr G (k + 2)) :: rest))) : W p l e R s m args below meth c H locs cells slots Q (F0 m pc ls (.ref (adr G k) :: rest)) :=
  w_get C0 hP (T := TX3) (C := RX3) (kd_lt hk (by decide)) (ct_3 hk) inU_X3 rfl (j := 1) (by decide) rfl fl_X3_15 rfl dg kk
theorem fl_X4_12 : Cond.fieldLink RX4 12 "PinholeHouse" "sky" "LPinholeHouse$Sky;" ∈ UU := List.mem_filter.mpr ⟨List.mem_append_right _ (List.mem_append_left _ (List.mem_of_getElem? (i := 134) rfl)), rfl⟩
theorem gf_X4_12 (C0 : CX p s m args meth c cc RX4 nL G sz) (hP : PW G M o H) {k : Nat} (hk : kd k = 4) (dg : decode cc pc = .ok (.getfield 12, 3))
    (kk : W p l e R s m args below meth c H locs cells slots Q (F0 m (pc + 3) ls (.ref (adr G 1) :: rest))) : W p l e R s m args below meth c H locs cells slots Q (F0 m pc ls (.ref (adr G k) :: rest)) :=
  w_get C0 hP (T := TX4) (C := RX4) (kd_lt hk (by decide)) (ct_4 hk) inU_X4 rfl (j := 0) (by decide) rfl fl_X4_12 rfl dg kk
theorem fl_X4_19 : Cond.fieldLink RX4 19 "PinholeHouse" "now" "LPinholeHouse$Scene;" ∈ UU := List.mem_filter.mpr ⟨List.mem_append_right _ (List.mem_append_left _ (List.mem_of_getElem? (i := 135) rfl)), rfl⟩
theorem gf_X4_19 (C0 : CX p s m args meth c cc RX4 nL G sz) (hP : PW G M o H) {k : Nat} (hk : kd k = 4) (dg : decode cc pc = .ok (.getfield 19, 3))
    (kk : W p l e R s m args below meth c H locs cells slots Q (F0 m (pc + 3) ls (.ref (adr G 4) :: rest))) : W p l e R s m args below meth c H locs cells slots Q (F0 m pc ls (.ref (adr G k) :: rest)) :=
  w_get C0 hP (T := TX4) (C := RX4) (kd_lt hk (by decide)) (ct_4 hk) inU_X4 rfl (j := 1) (by decide) rfl fl_X4_19 rfl dg kk
theorem fl_X4_23 : Cond.fieldLink RX4 23 "PinholeHouse" "trial" "LPinholeHouse$Scene;" ∈ UU := List.mem_filter.mpr ⟨List.mem_append_right _ (List.mem_append_left _ (List.mem_of_getElem? (i := 136) rfl)), rfl⟩
theorem gf_X4_23 (C0 : CX p s m args meth c cc RX4 nL G sz) (hP : PW G M o H) {k : Nat} (hk : kd k = 4) (dg : decode cc pc = .ok (.getfield 23, 3))
    (kk : W p l e R s m args below meth c H locs cells slots Q (F0 m (pc + 3) ls (.ref (adr G 25) :: rest))) : W p l e R s m args below meth c H locs cells slots Q (F0 m pc ls (.ref (adr G k) :: rest)) :=
  w_get C0 hP (T := TX4) (C := RX4) (kd_lt hk (by decide)) (ct_4 hk) inU_X4 rfl (j := 2) (by decide) rfl fl_X4_23 rfl dg kk
theorem fl_X4_36 : (RX4, 36, "PinholeHouse$Scene", "passersCome", "I", "PinholeHouse") ∈ nestF := List.mem_of_getElem? (i := 7) rfl
theorem gf_X4_36 (C0 : CX p s m args meth c cc RX4 nL G sz) (hP : PW G M o H) {k : Nat} (hk : kd k = 2) (dg : decode cc pc = .ok (.getfield 36, 3))
    (kk : W p l e R s m args below meth c H locs cells slots Q (F0 m (pc + 3) ls (.int (M k 1) :: rest))) : W p l e R s m args below meth c H locs cells slots Q (F0 m pc ls (.ref (adr G k) :: rest)) :=
  w_getN C0 hP (T := TX2) (C := RX2) (kd_lt hk (by decide)) (ct_2 hk) inU_X2 rfl (j := 1) (by decide) rfl fl_X4_36 rfl dg kk
theorem pf_X4_36 (C0 : CX p s m args meth c cc RX4 nL G sz) (hP : PW G M o H) (hS : va_S (pA G sz) s.heap H locs) {k : Nat} {v : Int32} (hk : kd k = 2) (dg : decode cc pc = .ok (.putfield 36, 3))
    (kk : ∀ (H1 : Heap) (locs1 : List Loc), PW G (u2 M k 1 v) o H1 → va_S (pA G sz) s.heap H1 locs1 → W p l e R s m args below meth c H1 locs1 cells slots Q (F0 m (pc + 3) ls (rest))) : W p l e R s m args below meth c H locs cells slots Q (F0 m pc ls (.int v :: .ref (adr G k) :: rest)) :=
  w_putN C0 hP hS tyX2 tyX2_ok nmX2 (T := TX2) (C := RX2) (kd_lt hk (by decide)) (ct_2 hk) (by rw [ct_2 hk, u2_at, u2_sl (j := 0) (by decide), u2_sl (j := 2) (by decide)]; rfl) inU_X2 rfl (j := 1) (by decide) rfl fl_X4_36 rfl (by decide +kernel) (Nat.le_of_ble_eq_true rfl) dg kk
theorem fl_X4_43 : (RX4, 43, "PinholeHouse$Scene", "passers", "[LPinholeHouse$Passer;", "PinholeHouse") ∈ nestF := List.mem_of_getElem? (i := 8) rfl
theorem gf_X4_43 (C0 : CX p s m args meth c cc RX4 nL G sz) (hP : PW G M o H) {k : Nat} (hk : kd k = 2) (dg : decode cc pc = .ok (.getfield 43, 3))
    (kk : W p l e R s m args below meth c H locs cells slots Q (F0 m (pc + 3) ls (.ref (adr G (k + 1)) :: rest))) : W p l e R s m args below meth c H locs cells slots Q (F0 m pc ls (.ref (adr G k) :: rest)) :=
  w_getN C0 hP (T := TX2) (C := RX2) (kd_lt hk (by decide)) (ct_2 hk) inU_X2 rfl (j := 3) (by decide) rfl fl_X4_43 rfl dg kk
theorem fl_X4_63 : (RX4, 63, "PinholeHouse$Sky", "light", "[I", "PinholeHouse") ∈ nestF := List.mem_of_getElem? (i := 9) rfl
theorem gf_X4_63 (C0 : CX p s m args meth c cc RX4 nL G sz) (hP : PW G M o H) {k : Nat} (hk : kd k = 3) (dg : decode cc pc = .ok (.getfield 63, 3))
    (kk : W p l e R s m args below meth c H locs cells slots Q (F0 m (pc + 3) ls (.ref (adr G (k + 1)) :: rest))) : W p l e R s m args below meth c H locs cells slots Q (F0 m pc ls (.ref (adr G k) :: rest)) :=
  w_getN C0 hP (T := TX3) (C := RX3) (kd_lt hk (by decide)) (ct_3 hk) inU_X3 rfl (j := 0) (by decide) rfl fl_X4_63 rfl dg kk
theorem fl_X4_67 : (RX4, 67, "PinholeHouse$Sky", "clouds", "[I", "PinholeHouse") ∈ nestF := List.mem_of_getElem? (i := 10) rfl
theorem gf_X4_67 (C0 : CX p s m args meth c cc RX4 nL G sz) (hP : PW G M o H) {k : Nat} (hk : kd k = 3) (dg : decode cc pc = .ok (.getfield 67, 3))
    (kk : W p l e R s m args below meth c H locs cells slots Q (F0 m (pc + 3) ls (.ref (adr G (k + 2)) :: rest))) : W p l e R s m args below meth c H locs cells slots Q (F0 m pc ls (.ref (adr G k) :: rest)) :=
  w_getN C0 hP (T := TX3) (C := RX3) (kd_lt hk (by decide)) (ct_3 hk) inU_X3 rfl (j := 1) (by decide) rfl fl_X4_67 rfl dg kk
theorem fl_X4_70 : (RX4, 70, "PinholeHouse$Scene", "roomsBuilt", "I", "PinholeHouse") ∈ nestF := List.mem_of_getElem? (i := 11) rfl
theorem gf_X4_70 (C0 : CX p s m args meth c cc RX4 nL G sz) (hP : PW G M o H) {k : Nat} (hk : kd k = 2) (dg : decode cc pc = .ok (.getfield 70, 3))
    (kk : W p l e R s m args below meth c H locs cells slots Q (F0 m (pc + 3) ls (.int (M k 2) :: rest))) : W p l e R s m args below meth c H locs cells slots Q (F0 m pc ls (.ref (adr G k) :: rest)) :=
  w_getN C0 hP (T := TX2) (C := RX2) (kd_lt hk (by decide)) (ct_2 hk) inU_X2 rfl (j := 2) (by decide) rfl fl_X4_70 rfl dg kk
theorem pf_X4_70 (C0 : CX p s m args meth c cc RX4 nL G sz) (hP : PW G M o H) (hS : va_S (pA G sz) s.heap H locs) {k : Nat} {v : Int32} (hk : kd k = 2) (dg : decode cc pc = .ok (.putfield 70, 3))
    (kk : ∀ (H1 : Heap) (locs1 : List Loc), PW G (u2 M k 2 v) o H1 → va_S (pA G sz) s.heap H1 locs1 → W p l e R s m args below meth c H1 locs1 cells slots Q (F0 m (pc + 3) ls (rest))) : W p l e R s m args below meth c H locs cells slots Q (F0 m pc ls (.int v :: .ref (adr G k) :: rest)) :=
  w_putN C0 hP hS tyX2 tyX2_ok nmX2 (T := TX2) (C := RX2) (kd_lt hk (by decide)) (ct_2 hk) (by rw [ct_2 hk, u2_at, u2_sl (j := 0) (by decide), u2_sl (j := 1) (by decide)]; rfl) inU_X2 rfl (j := 2) (by decide) rfl fl_X4_70 rfl (by decide +kernel) (Nat.le_of_ble_eq_true rfl) dg kk
theorem fl_X4_76 : (RX4, 76, "PinholeHouse$Scene", "rooms", "[LPinholeHouse$Room;", "PinholeHouse") ∈ nestF := List.mem_of_getElem? (i := 12) rfl
theorem gf_X4_76 (C0 : CX p s m args meth c cc RX4 nL G sz) (hP : PW G M o H) {k : Nat} (hk : kd k = 2) (dg : decode cc pc = .ok (.getfield 76, 3))
    (kk : W p l e R s m args below meth c H locs cells slots Q (F0 m (pc + 3) ls (.ref (adr G (k + 2)) :: rest))) : W p l e R s m args below meth c H locs cells slots Q (F0 m pc ls (.ref (adr G k) :: rest)) :=
  w_getN C0 hP (T := TX2) (C := RX2) (kd_lt hk (by decide)) (ct_2 hk) inU_X2 rfl (j := 4) (by decide) rfl fl_X4_76 rfl dg kk
theorem fl_X4_90 : (RX4, 90, "PinholeHouse$Room", "hole", "I", "PinholeHouse") ∈ nestF := List.mem_of_getElem? (i := 13) rfl
theorem gf_X4_90 (C0 : CX p s m args meth c cc RX4 nL G sz) (hP : PW G M o H) {k : Nat} (hk : kd k = 1) (dg : decode cc pc = .ok (.getfield 90, 3))
    (kk : W p l e R s m args below meth c H locs cells slots Q (F0 m (pc + 3) ls (.int (M k 2) :: rest))) : W p l e R s m args below meth c H locs cells slots Q (F0 m pc ls (.ref (adr G k) :: rest)) :=
  w_getN C0 hP (T := TX1) (C := RX1) (kd_lt hk (by decide)) (ct_1 hk) inU_X1 rfl (j := 2) (by decide) rfl fl_X4_90 rfl dg kk
theorem pf_X4_90 (C0 : CX p s m args meth c cc RX4 nL G sz) (hP : PW G M o H) (hS : va_S (pA G sz) s.heap H locs) {k : Nat} {v : Int32} (hk : kd k = 1) (dg : decode cc pc = .ok (.putfield 90, 3))
    (kk : ∀ (H1 : Heap) (locs1 : List Loc), PW G (u2 M k 2 v) o H1 → va_S (pA G sz) s.heap H1 locs1 → W p l e R s m args below meth c H1 locs1 cells slots Q (F0 m (pc + 3) ls (rest))) : W p l e R s m args below meth c H locs cells slots Q (F0 m pc ls (.int v :: .ref (adr G k) :: rest)) :=
  w_putN C0 hP hS tyX1 tyX1_ok nmX1 (T := TX1) (C := RX1) (kd_lt hk (by decide)) (ct_1 hk) (by rw [ct_1 hk, u2_at, u2_sl (j := 0) (by decide), u2_sl (j := 1) (by decide), u2_sl (j := 3) (by decide), u2_sl (j := 4) (by decide), u2_sl (j := 5) (by decide), u2_sl (j := 6) (by decide)]; rfl) inU_X1 rfl (j := 2) (by decide) rfl fl_X4_90 rfl (by decide +kernel) (Nat.le_of_ble_eq_true rfl) dg kk
theorem fl_X4_93 : (RX4, 93, "PinholeHouse$Room", "paint", "I", "PinholeHouse") ∈ nestF := List.mem_of_getElem? (i := 14) rfl
theorem gf_X4_93 (C0 : CX p s m args meth c cc RX4 nL G sz) (hP : PW G M o H) {k : Nat} (hk : kd k = 1) (dg : decode cc pc = .ok (.getfield 93, 3))
    (kk : W p l e R s m args below meth c H locs cells slots Q (F0 m (pc + 3) ls (.int (M k 3) :: rest))) : W p l e R s m args below meth c H locs cells slots Q (F0 m pc ls (.ref (adr G k) :: rest)) :=
  w_getN C0 hP (T := TX1) (C := RX1) (kd_lt hk (by decide)) (ct_1 hk) inU_X1 rfl (j := 3) (by decide) rfl fl_X4_93 rfl dg kk
theorem pf_X4_93 (C0 : CX p s m args meth c cc RX4 nL G sz) (hP : PW G M o H) (hS : va_S (pA G sz) s.heap H locs) {k : Nat} {v : Int32} (hk : kd k = 1) (dg : decode cc pc = .ok (.putfield 93, 3))
    (kk : ∀ (H1 : Heap) (locs1 : List Loc), PW G (u2 M k 3 v) o H1 → va_S (pA G sz) s.heap H1 locs1 → W p l e R s m args below meth c H1 locs1 cells slots Q (F0 m (pc + 3) ls (rest))) : W p l e R s m args below meth c H locs cells slots Q (F0 m pc ls (.int v :: .ref (adr G k) :: rest)) :=
  w_putN C0 hP hS tyX1 tyX1_ok nmX1 (T := TX1) (C := RX1) (kd_lt hk (by decide)) (ct_1 hk) (by rw [ct_1 hk, u2_at, u2_sl (j := 0) (by decide), u2_sl (j := 1) (by decide), u2_sl (j := 2) (by decide), u2_sl (j := 4) (by decide), u2_sl (j := 5) (by decide), u2_sl (j := 6) (by decide)]; rfl) inU_X1 rfl (j := 3) (by decide) rfl fl_X4_93 rfl (by decide +kernel) (Nat.le_of_ble_eq_true rfl) dg kk
theorem fl_X4_96 : (RX4, 96, "PinholeHouse$Room", "seats", "I", "PinholeHouse") ∈ nestF := List.mem_of_getElem? (i := 15) rfl
theorem gf_X4_96 (C0 : CX p s m args meth c cc RX4 nL G sz) (hP : PW G M o H) {k : Nat} (hk : kd k = 1) (dg : decode cc pc = .ok (.getfield 96, 3))
    (kk : W p l e R s m args below meth c H locs cells slots Q (F0 m (pc + 3) ls (.int (M k 4) :: rest))) : W p l e R s m args below meth c H locs cells slots Q (F0 m pc ls (.ref (adr G k) :: rest)) :=
  w_getN C0 hP (T := TX1) (C := RX1) (kd_lt hk (by decide)) (ct_1 hk) inU_X1 rfl (j := 4) (by decide) rfl fl_X4_96 rfl dg kk
theorem pf_X4_96 (C0 : CX p s m args meth c cc RX4 nL G sz) (hP : PW G M o H) (hS : va_S (pA G sz) s.heap H locs) {k : Nat} {v : Int32} (hk : kd k = 1) (dg : decode cc pc = .ok (.putfield 96, 3))
    (kk : ∀ (H1 : Heap) (locs1 : List Loc), PW G (u2 M k 4 v) o H1 → va_S (pA G sz) s.heap H1 locs1 → W p l e R s m args below meth c H1 locs1 cells slots Q (F0 m (pc + 3) ls (rest))) : W p l e R s m args below meth c H locs cells slots Q (F0 m pc ls (.int v :: .ref (adr G k) :: rest)) :=
  w_putN C0 hP hS tyX1 tyX1_ok nmX1 (T := TX1) (C := RX1) (kd_lt hk (by decide)) (ct_1 hk) (by rw [ct_1 hk, u2_at, u2_sl (j := 0) (by decide), u2_sl (j := 1) (by decide), u2_sl (j := 2) (by decide), u2_sl (j := 3) (by decide), u2_sl (j := 5) (by decide), u2_sl (j := 6) (by decide)]; rfl) inU_X1 rfl (j := 4) (by decide) rfl fl_X4_96 rfl (by decide +kernel) (Nat.le_of_ble_eq_true rfl) dg kk
theorem fl_X4_99 : (RX4, 99, "PinholeHouse$Room", "people", "I", "PinholeHouse") ∈ nestF := List.mem_of_getElem? (i := 16) rfl
theorem gf_X4_99 (C0 : CX p s m args meth c cc RX4 nL G sz) (hP : PW G M o H) {k : Nat} (hk : kd k = 1) (dg : decode cc pc = .ok (.getfield 99, 3))
    (kk : W p l e R s m args below meth c H locs cells slots Q (F0 m (pc + 3) ls (.int (M k 5) :: rest))) : W p l e R s m args below meth c H locs cells slots Q (F0 m pc ls (.ref (adr G k) :: rest)) :=
  w_getN C0 hP (T := TX1) (C := RX1) (kd_lt hk (by decide)) (ct_1 hk) inU_X1 rfl (j := 5) (by decide) rfl fl_X4_99 rfl dg kk
theorem pf_X4_99 (C0 : CX p s m args meth c cc RX4 nL G sz) (hP : PW G M o H) (hS : va_S (pA G sz) s.heap H locs) {k : Nat} {v : Int32} (hk : kd k = 1) (dg : decode cc pc = .ok (.putfield 99, 3))
    (kk : ∀ (H1 : Heap) (locs1 : List Loc), PW G (u2 M k 5 v) o H1 → va_S (pA G sz) s.heap H1 locs1 → W p l e R s m args below meth c H1 locs1 cells slots Q (F0 m (pc + 3) ls (rest))) : W p l e R s m args below meth c H locs cells slots Q (F0 m pc ls (.int v :: .ref (adr G k) :: rest)) :=
  w_putN C0 hP hS tyX1 tyX1_ok nmX1 (T := TX1) (C := RX1) (kd_lt hk (by decide)) (ct_1 hk) (by rw [ct_1 hk, u2_at, u2_sl (j := 0) (by decide), u2_sl (j := 1) (by decide), u2_sl (j := 2) (by decide), u2_sl (j := 3) (by decide), u2_sl (j := 4) (by decide), u2_sl (j := 6) (by decide)]; rfl) inU_X1 rfl (j := 5) (by decide) rfl fl_X4_99 rfl (by decide +kernel) (Nat.le_of_ble_eq_true rfl) dg kk
theorem fl_X4_120 : (RX4, 120, "PinholeHouse$Room", "step", "I", "PinholeHouse") ∈ nestF := List.mem_of_getElem? (i := 17) rfl
theorem gf_X4_120 (C0 : CX p s m args meth c cc RX4 nL G sz) (hP : PW G M o H) {k : Nat} (hk : kd k = 1) (dg : decode cc pc = .ok (.getfield 120, 3))
    (kk : W p l e R s m args below meth c H locs cells slots Q (F0 m (pc + 3) ls (.int (M k 0) :: rest))) : W p l e R s m args below meth c H locs cells slots Q (F0 m pc ls (.ref (adr G k) :: rest)) :=
  w_getN C0 hP (T := TX1) (C := RX1) (kd_lt hk (by decide)) (ct_1 hk) inU_X1 rfl (j := 0) (by decide) rfl fl_X4_120 rfl dg kk
theorem pf_X4_120 (C0 : CX p s m args meth c cc RX4 nL G sz) (hP : PW G M o H) (hS : va_S (pA G sz) s.heap H locs) {k : Nat} {v : Int32} (hk : kd k = 1) (dg : decode cc pc = .ok (.putfield 120, 3))
    (kk : ∀ (H1 : Heap) (locs1 : List Loc), PW G (u2 M k 0 v) o H1 → va_S (pA G sz) s.heap H1 locs1 → W p l e R s m args below meth c H1 locs1 cells slots Q (F0 m (pc + 3) ls (rest))) : W p l e R s m args below meth c H locs cells slots Q (F0 m pc ls (.int v :: .ref (adr G k) :: rest)) :=
  w_putN C0 hP hS tyX1 tyX1_ok nmX1 (T := TX1) (C := RX1) (kd_lt hk (by decide)) (ct_1 hk) (by rw [ct_1 hk, u2_at, u2_sl (j := 1) (by decide), u2_sl (j := 2) (by decide), u2_sl (j := 3) (by decide), u2_sl (j := 4) (by decide), u2_sl (j := 5) (by decide), u2_sl (j := 6) (by decide)]; rfl) inU_X1 rfl (j := 0) (by decide) rfl fl_X4_120 rfl (by decide +kernel) (Nat.le_of_ble_eq_true rfl) dg kk
theorem fl_X4_151 : (RX4, 151, "PinholeHouse$Scene", "minute", "I", "PinholeHouse") ∈ nestF := List.mem_of_getElem? (i := 18) rfl
theorem gf_X4_151 (C0 : CX p s m args meth c cc RX4 nL G sz) (hP : PW G M o H) {k : Nat} (hk : kd k = 2) (dg : decode cc pc = .ok (.getfield 151, 3))
    (kk : W p l e R s m args below meth c H locs cells slots Q (F0 m (pc + 3) ls (.int (M k 0) :: rest))) : W p l e R s m args below meth c H locs cells slots Q (F0 m pc ls (.ref (adr G k) :: rest)) :=
  w_getN C0 hP (T := TX2) (C := RX2) (kd_lt hk (by decide)) (ct_2 hk) inU_X2 rfl (j := 0) (by decide) rfl fl_X4_151 rfl dg kk
theorem pf_X4_151 (C0 : CX p s m args meth c cc RX4 nL G sz) (hP : PW G M o H) (hS : va_S (pA G sz) s.heap H locs) {k : Nat} {v : Int32} (hk : kd k = 2) (dg : decode cc pc = .ok (.putfield 151, 3))
    (kk : ∀ (H1 : Heap) (locs1 : List Loc), PW G (u2 M k 0 v) o H1 → va_S (pA G sz) s.heap H1 locs1 → W p l e R s m args below meth c H1 locs1 cells slots Q (F0 m (pc + 3) ls (rest))) : W p l e R s m args below meth c H locs cells slots Q (F0 m pc ls (.int v :: .ref (adr G k) :: rest)) :=
  w_putN C0 hP hS tyX2 tyX2_ok nmX2 (T := TX2) (C := RX2) (kd_lt hk (by decide)) (ct_2 hk) (by rw [ct_2 hk, u2_at, u2_sl (j := 1) (by decide), u2_sl (j := 2) (by decide)]; rfl) inU_X2 rfl (j := 0) (by decide) rfl fl_X4_151 rfl (by decide +kernel) (Nat.le_of_ble_eq_true rfl) dg kk
theorem fl_X4_191 : (RX4, 191, "PinholeHouse$Passer", "step", "I", "PinholeHouse") ∈ nestF := List.mem_of_getElem? (i := 19) rfl
theorem gf_X4_191 (C0 : CX p s m args meth c cc RX4 nL G sz) (hP : PW G M o H) {k : Nat} (hk : kd k = 0) (dg : decode cc pc = .ok (.getfield 191, 3))
    (kk : W p l e R s m args below meth c H locs cells slots Q (F0 m (pc + 3) ls (.int (M k 0) :: rest))) : W p l e R s m args below meth c H locs cells slots Q (F0 m pc ls (.ref (adr G k) :: rest)) :=
  w_getN C0 hP (T := TX0) (C := RX0) (kd_lt hk (by decide)) (ct_0 hk) inU_X0 rfl (j := 0) (by decide) rfl fl_X4_191 rfl dg kk
theorem pf_X4_191 (C0 : CX p s m args meth c cc RX4 nL G sz) (hP : PW G M o H) (hS : va_S (pA G sz) s.heap H locs) {k : Nat} {v : Int32} (hk : kd k = 0) (dg : decode cc pc = .ok (.putfield 191, 3))
    (kk : ∀ (H1 : Heap) (locs1 : List Loc), PW G (u2 M k 0 v) o H1 → va_S (pA G sz) s.heap H1 locs1 → W p l e R s m args below meth c H1 locs1 cells slots Q (F0 m (pc + 3) ls (rest))) : W p l e R s m args below meth c H locs cells slots Q (F0 m pc ls (.int v :: .ref (adr G k) :: rest)) :=
  w_putN C0 hP hS tyX0 tyX0_ok nmX0 (T := TX0) (C := RX0) (kd_lt hk (by decide)) (ct_0 hk) (by rw [ct_0 hk, u2_at, u2_sl (j := 1) (by decide), u2_sl (j := 2) (by decide), u2_sl (j := 3) (by decide)]; rfl) inU_X0 rfl (j := 0) (by decide) rfl fl_X4_191 rfl (by decide +kernel) (Nat.le_of_ble_eq_true rfl) dg kk
theorem fl_X4_192 : (RX4, 192, "PinholeHouse$Passer", "pace", "I", "PinholeHouse") ∈ nestF := List.mem_of_getElem? (i := 20) rfl
theorem gf_X4_192 (C0 : CX p s m args meth c cc RX4 nL G sz) (hP : PW G M o H) {k : Nat} (hk : kd k = 0) (dg : decode cc pc = .ok (.getfield 192, 3))
    (kk : W p l e R s m args below meth c H locs cells slots Q (F0 m (pc + 3) ls (.int (M k 1) :: rest))) : W p l e R s m args below meth c H locs cells slots Q (F0 m pc ls (.ref (adr G k) :: rest)) :=
  w_getN C0 hP (T := TX0) (C := RX0) (kd_lt hk (by decide)) (ct_0 hk) inU_X0 rfl (j := 1) (by decide) rfl fl_X4_192 rfl dg kk
theorem pf_X4_192 (C0 : CX p s m args meth c cc RX4 nL G sz) (hP : PW G M o H) (hS : va_S (pA G sz) s.heap H locs) {k : Nat} {v : Int32} (hk : kd k = 0) (dg : decode cc pc = .ok (.putfield 192, 3))
    (kk : ∀ (H1 : Heap) (locs1 : List Loc), PW G (u2 M k 1 v) o H1 → va_S (pA G sz) s.heap H1 locs1 → W p l e R s m args below meth c H1 locs1 cells slots Q (F0 m (pc + 3) ls (rest))) : W p l e R s m args below meth c H locs cells slots Q (F0 m pc ls (.int v :: .ref (adr G k) :: rest)) :=
  w_putN C0 hP hS tyX0 tyX0_ok nmX0 (T := TX0) (C := RX0) (kd_lt hk (by decide)) (ct_0 hk) (by rw [ct_0 hk, u2_at, u2_sl (j := 0) (by decide), u2_sl (j := 2) (by decide), u2_sl (j := 3) (by decide)]; rfl) inU_X0 rfl (j := 1) (by decide) rfl fl_X4_192 rfl (by decide +kernel) (Nat.le_of_ble_eq_true rfl) dg kk
theorem fl_X4_195 : (RX4, 195, "PinholeHouse$Passer", "tall", "I", "PinholeHouse") ∈ nestF := List.mem_of_getElem? (i := 21) rfl
theorem gf_X4_195 (C0 : CX p s m args meth c cc RX4 nL G sz) (hP : PW G M o H) {k : Nat} (hk : kd k = 0) (dg : decode cc pc = .ok (.getfield 195, 3))
    (kk : W p l e R s m args below meth c H locs cells slots Q (F0 m (pc + 3) ls (.int (M k 2) :: rest))) : W p l e R s m args below meth c H locs cells slots Q (F0 m pc ls (.ref (adr G k) :: rest)) :=
  w_getN C0 hP (T := TX0) (C := RX0) (kd_lt hk (by decide)) (ct_0 hk) inU_X0 rfl (j := 2) (by decide) rfl fl_X4_195 rfl dg kk
theorem pf_X4_195 (C0 : CX p s m args meth c cc RX4 nL G sz) (hP : PW G M o H) (hS : va_S (pA G sz) s.heap H locs) {k : Nat} {v : Int32} (hk : kd k = 0) (dg : decode cc pc = .ok (.putfield 195, 3))
    (kk : ∀ (H1 : Heap) (locs1 : List Loc), PW G (u2 M k 2 v) o H1 → va_S (pA G sz) s.heap H1 locs1 → W p l e R s m args below meth c H1 locs1 cells slots Q (F0 m (pc + 3) ls (rest))) : W p l e R s m args below meth c H locs cells slots Q (F0 m pc ls (.int v :: .ref (adr G k) :: rest)) :=
  w_putN C0 hP hS tyX0 tyX0_ok nmX0 (T := TX0) (C := RX0) (kd_lt hk (by decide)) (ct_0 hk) (by rw [ct_0 hk, u2_at, u2_sl (j := 0) (by decide), u2_sl (j := 1) (by decide), u2_sl (j := 3) (by decide)]; rfl) inU_X0 rfl (j := 2) (by decide) rfl fl_X4_195 rfl (by decide +kernel) (Nat.le_of_ble_eq_true rfl) dg kk
theorem fl_X4_198 : (RX4, 198, "PinholeHouse$Passer", "bright", "I", "PinholeHouse") ∈ nestF := List.mem_of_getElem? (i := 22) rfl
theorem gf_X4_198 (C0 : CX p s m args meth c cc RX4 nL G sz) (hP : PW G M o H) {k : Nat} (hk : kd k = 0) (dg : decode cc pc = .ok (.getfield 198, 3))
    (kk : W p l e R s m args below meth c H locs cells slots Q (F0 m (pc + 3) ls (.int (M k 3) :: rest))) : W p l e R s m args below meth c H locs cells slots Q (F0 m pc ls (.ref (adr G k) :: rest)) :=
  w_getN C0 hP (T := TX0) (C := RX0) (kd_lt hk (by decide)) (ct_0 hk) inU_X0 rfl (j := 3) (by decide) rfl fl_X4_198 rfl dg kk
theorem pf_X4_198 (C0 : CX p s m args meth c cc RX4 nL G sz) (hP : PW G M o H) (hS : va_S (pA G sz) s.heap H locs) {k : Nat} {v : Int32} (hk : kd k = 0) (dg : decode cc pc = .ok (.putfield 198, 3))
    (kk : ∀ (H1 : Heap) (locs1 : List Loc), PW G (u2 M k 3 v) o H1 → va_S (pA G sz) s.heap H1 locs1 → W p l e R s m args below meth c H1 locs1 cells slots Q (F0 m (pc + 3) ls (rest))) : W p l e R s m args below meth c H locs cells slots Q (F0 m pc ls (.int v :: .ref (adr G k) :: rest)) :=
  w_putN C0 hP hS tyX0 tyX0_ok nmX0 (T := TX0) (C := RX0) (kd_lt hk (by decide)) (ct_0 hk) (by rw [ct_0 hk, u2_at, u2_sl (j := 0) (by decide), u2_sl (j := 1) (by decide), u2_sl (j := 2) (by decide)]; rfl) inU_X0 rfl (j := 3) (by decide) rfl fl_X4_198 rfl (by decide +kernel) (Nat.le_of_ble_eq_true rfl) dg kk
theorem fl_X4_204 : (RX4, 204, "PinholeHouse$Room", "depth", "I", "PinholeHouse") ∈ nestF := List.mem_of_getElem? (i := 23) rfl
theorem gf_X4_204 (C0 : CX p s m args meth c cc RX4 nL G sz) (hP : PW G M o H) {k : Nat} (hk : kd k = 1) (dg : decode cc pc = .ok (.getfield 204, 3))
    (kk : W p l e R s m args below meth c H locs cells slots Q (F0 m (pc + 3) ls (.int (M k 1) :: rest))) : W p l e R s m args below meth c H locs cells slots Q (F0 m pc ls (.ref (adr G k) :: rest)) :=
  w_getN C0 hP (T := TX1) (C := RX1) (kd_lt hk (by decide)) (ct_1 hk) inU_X1 rfl (j := 1) (by decide) rfl fl_X4_204 rfl dg kk
theorem pf_X4_204 (C0 : CX p s m args meth c cc RX4 nL G sz) (hP : PW G M o H) (hS : va_S (pA G sz) s.heap H locs) {k : Nat} {v : Int32} (hk : kd k = 1) (dg : decode cc pc = .ok (.putfield 204, 3))
    (kk : ∀ (H1 : Heap) (locs1 : List Loc), PW G (u2 M k 1 v) o H1 → va_S (pA G sz) s.heap H1 locs1 → W p l e R s m args below meth c H1 locs1 cells slots Q (F0 m (pc + 3) ls (rest))) : W p l e R s m args below meth c H locs cells slots Q (F0 m pc ls (.int v :: .ref (adr G k) :: rest)) :=
  w_putN C0 hP hS tyX1 tyX1_ok nmX1 (T := TX1) (C := RX1) (kd_lt hk (by decide)) (ct_1 hk) (by rw [ct_1 hk, u2_at, u2_sl (j := 0) (by decide), u2_sl (j := 2) (by decide), u2_sl (j := 3) (by decide), u2_sl (j := 4) (by decide), u2_sl (j := 5) (by decide), u2_sl (j := 6) (by decide)]; rfl) inU_X1 rfl (j := 1) (by decide) rfl fl_X4_204 rfl (by decide +kernel) (Nat.le_of_ble_eq_true rfl) dg kk
theorem fl_X4_207 : (RX4, 207, "PinholeHouse$Room", "pence", "I", "PinholeHouse") ∈ nestF := List.mem_of_getElem? (i := 24) rfl
theorem gf_X4_207 (C0 : CX p s m args meth c cc RX4 nL G sz) (hP : PW G M o H) {k : Nat} (hk : kd k = 1) (dg : decode cc pc = .ok (.getfield 207, 3))
    (kk : W p l e R s m args below meth c H locs cells slots Q (F0 m (pc + 3) ls (.int (M k 6) :: rest))) : W p l e R s m args below meth c H locs cells slots Q (F0 m pc ls (.ref (adr G k) :: rest)) :=
  w_getN C0 hP (T := TX1) (C := RX1) (kd_lt hk (by decide)) (ct_1 hk) inU_X1 rfl (j := 6) (by decide) rfl fl_X4_207 rfl dg kk
theorem pf_X4_207 (C0 : CX p s m args meth c cc RX4 nL G sz) (hP : PW G M o H) (hS : va_S (pA G sz) s.heap H locs) {k : Nat} {v : Int32} (hk : kd k = 1) (dg : decode cc pc = .ok (.putfield 207, 3))
    (kk : ∀ (H1 : Heap) (locs1 : List Loc), PW G (u2 M k 6 v) o H1 → va_S (pA G sz) s.heap H1 locs1 → W p l e R s m args below meth c H1 locs1 cells slots Q (F0 m (pc + 3) ls (rest))) : W p l e R s m args below meth c H locs cells slots Q (F0 m pc ls (.int v :: .ref (adr G k) :: rest)) :=
  w_putN C0 hP hS tyX1 tyX1_ok nmX1 (T := TX1) (C := RX1) (kd_lt hk (by decide)) (ct_1 hk) (by rw [ct_1 hk, u2_at, u2_sl (j := 0) (by decide), u2_sl (j := 1) (by decide), u2_sl (j := 2) (by decide), u2_sl (j := 3) (by decide), u2_sl (j := 4) (by decide), u2_sl (j := 5) (by decide)]; rfl) inU_X1 rfl (j := 6) (by decide) rfl fl_X4_207 rfl (by decide +kernel) (Nat.le_of_ble_eq_true rfl) dg kk
theorem fl_X5_3 : Cond.fieldLink RX5 3 "PinholeHouseModel$State" "this$0" "LPinholeHouseModel;" ∈ UU := List.mem_filter.mpr ⟨List.mem_append_right _ (List.mem_append_right _ (List.mem_append_right _ (List.mem_append_left _ (List.mem_of_getElem? (i := 74) rfl)))), rfl⟩
theorem gf_X5_3 (C0 : CX p s m args meth c cc RX5 nL G sz) (hP : PW G M o H) {k : Nat} (hk : kd k = 5) (dg : decode cc pc = .ok (.getfield 3, 3))
    (kk : W p l e R s m args below meth c H locs cells slots Q (F0 m (pc + 3) ls (.ref (adr G 46) :: rest))) : W p l e R s m args below meth c H locs cells slots Q (F0 m pc ls (.ref (adr G k) :: rest)) :=
  w_get C0 hP (T := TX5) (C := RX5) (kd_lt hk (by decide)) (ct_5 hk) inU_X5 rfl (j := 5) (by decide) rfl fl_X5_3 rfl dg kk
theorem fl_X5_15 : Cond.fieldLink RX5 15 "PinholeHouseModel$State" "step" "[I" ∈ UU := List.mem_filter.mpr ⟨List.mem_append_right _ (List.mem_append_right _ (List.mem_append_right _ (List.mem_append_left _ (List.mem_of_getElem? (i := 66) rfl)))), rfl⟩
theorem gf_X5_15 (C0 : CX p s m args meth c cc RX5 nL G sz) (hP : PW G M o H) {k : Nat} (hk : kd k = 5) (dg : decode cc pc = .ok (.getfield 15, 3))
    (kk : W p l e R s m args below meth c H locs cells slots Q (F0 m (pc + 3) ls (.ref (adr G (k + 1)) :: rest))) : W p l e R s m args below meth c H locs cells slots Q (F0 m pc ls (.ref (adr G k) :: rest)) :=
  w_get C0 hP (T := TX5) (C := RX5) (kd_lt hk (by decide)) (ct_5 hk) inU_X5 rfl (j := 1) (by decide) rfl fl_X5_15 rfl dg kk
theorem fl_X5_19 : Cond.fieldLink RX5 19 "PinholeHouseModel$State" "hole" "[I" ∈ UU := List.mem_filter.mpr ⟨List.mem_append_right _ (List.mem_append_right _ (List.mem_append_right _ (List.mem_append_left _ (List.mem_of_getElem? (i := 68) rfl)))), rfl⟩
theorem gf_X5_19 (C0 : CX p s m args meth c cc RX5 nL G sz) (hP : PW G M o H) {k : Nat} (hk : kd k = 5) (dg : decode cc pc = .ok (.getfield 19, 3))
    (kk : W p l e R s m args below meth c H locs cells slots Q (F0 m (pc + 3) ls (.ref (adr G (k + 2)) :: rest))) : W p l e R s m args below meth c H locs cells slots Q (F0 m pc ls (.ref (adr G k) :: rest)) :=
  w_get C0 hP (T := TX5) (C := RX5) (kd_lt hk (by decide)) (ct_5 hk) inU_X5 rfl (j := 2) (by decide) rfl fl_X5_19 rfl dg kk
theorem fl_X5_22 : Cond.fieldLink RX5 22 "PinholeHouseModel$State" "people" "[I" ∈ UU := List.mem_filter.mpr ⟨List.mem_append_right _ (List.mem_append_right _ (List.mem_append_right _ (List.mem_append_left _ (List.mem_of_getElem? (i := 70) rfl)))), rfl⟩
theorem gf_X5_22 (C0 : CX p s m args meth c cc RX5 nL G sz) (hP : PW G M o H) {k : Nat} (hk : kd k = 5) (dg : decode cc pc = .ok (.getfield 22, 3))
    (kk : W p l e R s m args below meth c H locs cells slots Q (F0 m (pc + 3) ls (.ref (adr G (k + 3)) :: rest))) : W p l e R s m args below meth c H locs cells slots Q (F0 m pc ls (.ref (adr G k) :: rest)) :=
  w_get C0 hP (T := TX5) (C := RX5) (kd_lt hk (by decide)) (ct_5 hk) inU_X5 rfl (j := 3) (by decide) rfl fl_X5_22 rfl dg kk
theorem fl_X5_25 : Cond.fieldLink RX5 25 "PinholeHouseModel$State" "paid" "[I" ∈ UU := List.mem_filter.mpr ⟨List.mem_append_right _ (List.mem_append_right _ (List.mem_append_right _ (List.mem_append_left _ (List.mem_of_getElem? (i := 72) rfl)))), rfl⟩
theorem gf_X5_25 (C0 : CX p s m args meth c cc RX5 nL G sz) (hP : PW G M o H) {k : Nat} (hk : kd k = 5) (dg : decode cc pc = .ok (.getfield 25, 3))
    (kk : W p l e R s m args below meth c H locs cells slots Q (F0 m (pc + 3) ls (.ref (adr G (k + 4)) :: rest))) : W p l e R s m args below meth c H locs cells slots Q (F0 m pc ls (.ref (adr G k) :: rest)) :=
  w_get C0 hP (T := TX5) (C := RX5) (kd_lt hk (by decide)) (ct_5 hk) inU_X5 rfl (j := 4) (by decide) rfl fl_X5_25 rfl dg kk
theorem fl_X5_34 : Cond.fieldLink RX5 34 "PinholeHouseModel$State" "minute" "I" ∈ UU := List.mem_filter.mpr ⟨List.mem_append_right _ (List.mem_append_right _ (List.mem_append_right _ (List.mem_append_left _ (List.mem_of_getElem? (i := 64) rfl)))), rfl⟩
theorem gf_X5_34 (C0 : CX p s m args meth c cc RX5 nL G sz) (hP : PW G M o H) {k : Nat} (hk : kd k = 5) (dg : decode cc pc = .ok (.getfield 34, 3))
    (kk : W p l e R s m args below meth c H locs cells slots Q (F0 m (pc + 3) ls (.int (M k 0) :: rest))) : W p l e R s m args below meth c H locs cells slots Q (F0 m pc ls (.ref (adr G k) :: rest)) :=
  w_get C0 hP (T := TX5) (C := RX5) (kd_lt hk (by decide)) (ct_5 hk) inU_X5 rfl (j := 0) (by decide) rfl fl_X5_34 rfl dg kk
theorem pf_X5_34 (C0 : CX p s m args meth c cc RX5 nL G sz) (hP : PW G M o H) (hS : va_S (pA G sz) s.heap H locs) {k : Nat} {v : Int32} (hk : kd k = 5) (dg : decode cc pc = .ok (.putfield 34, 3))
    (kk : ∀ (H1 : Heap) (locs1 : List Loc), PW G (u2 M k 0 v) o H1 → va_S (pA G sz) s.heap H1 locs1 → W p l e R s m args below meth c H1 locs1 cells slots Q (F0 m (pc + 3) ls (rest))) : W p l e R s m args below meth c H locs cells slots Q (F0 m pc ls (.int v :: .ref (adr G k) :: rest)) :=
  w_put C0 hP hS tyX5 tyX5_ok nmX5 (T := TX5) (C := RX5) (kd_lt hk (by decide)) (ct_5 hk) (by rw [ct_5 hk, u2_at]; rfl) inU_X5 rfl (j := 0) (by decide) rfl fl_X5_34 rfl (by decide +kernel) (Nat.le_of_ble_eq_true rfl) dg kk
theorem fl_X5_42 : (RX5, 42, "PinholeHouseModel", "light", "[I", "PinholeHouseModel") ∈ nestF := List.mem_of_getElem? (i := 25) rfl
theorem gf_X5_42 (C0 : CX p s m args meth c cc RX5 nL G sz) (hP : PW G M o H) {k : Nat} (hk : kd k = 6) (dg : decode cc pc = .ok (.getfield 42, 3))
    (kk : W p l e R s m args below meth c H locs cells slots Q (F0 m (pc + 3) ls (.ref (adr G 47) :: rest))) : W p l e R s m args below meth c H locs cells slots Q (F0 m pc ls (.ref (adr G k) :: rest)) :=
  w_getN C0 hP (T := TX6) (C := RX6) (kd_lt hk (by decide)) (ct_6 hk) inU_X6 rfl (j := 3) (by decide) rfl fl_X5_42 rfl dg kk
theorem fl_X5_45 : (RX5, 45, "PinholeHouseModel", "clouds", "[I", "PinholeHouseModel") ∈ nestF := List.mem_of_getElem? (i := 26) rfl
theorem gf_X5_45 (C0 : CX p s m args meth c cc RX5 nL G sz) (hP : PW G M o H) {k : Nat} (hk : kd k = 6) (dg : decode cc pc = .ok (.getfield 45, 3))
    (kk : W p l e R s m args below meth c H locs cells slots Q (F0 m (pc + 3) ls (.ref (adr G 48) :: rest))) : W p l e R s m args below meth c H locs cells slots Q (F0 m pc ls (.ref (adr G k) :: rest)) :=
  w_getN C0 hP (T := TX6) (C := RX6) (kd_lt hk (by decide)) (ct_6 hk) inU_X6 rfl (j := 4) (by decide) rfl fl_X5_45 rfl dg kk
theorem fl_X5_48 : (RX5, 48, "PinholeHouseModel", "place", "[I", "PinholeHouseModel") ∈ nestF := List.mem_of_getElem? (i := 27) rfl
theorem gf_X5_48 (C0 : CX p s m args meth c cc RX5 nL G sz) (hP : PW G M o H) {k : Nat} (hk : kd k = 6) (dg : decode cc pc = .ok (.getfield 48, 3))
    (kk : W p l e R s m args below meth c H locs cells slots Q (F0 m (pc + 3) ls (.ref (adr G 52) :: rest))) : W p l e R s m args below meth c H locs cells slots Q (F0 m pc ls (.ref (adr G k) :: rest)) :=
  w_getN C0 hP (T := TX6) (C := RX6) (kd_lt hk (by decide)) (ct_6 hk) inU_X6 rfl (j := 8) (by decide) rfl fl_X5_48 rfl dg kk
theorem fl_X5_57 : (RX5, 57, "PinholeHouseModel", "depth", "[I", "PinholeHouseModel") ∈ nestF := List.mem_of_getElem? (i := 28) rfl
theorem gf_X5_57 (C0 : CX p s m args meth c cc RX5 nL G sz) (hP : PW G M o H) {k : Nat} (hk : kd k = 6) (dg : decode cc pc = .ok (.getfield 57, 3))
    (kk : W p l e R s m args below meth c H locs cells slots Q (F0 m (pc + 3) ls (.ref (adr G 53) :: rest))) : W p l e R s m args below meth c H locs cells slots Q (F0 m pc ls (.ref (adr G k) :: rest)) :=
  w_getN C0 hP (T := TX6) (C := RX6) (kd_lt hk (by decide)) (ct_6 hk) inU_X6 rfl (j := 9) (by decide) rfl fl_X5_57 rfl dg kk
theorem fl_X5_64 : (RX5, 64, "PinholeHouseModel", "shine", "[I", "PinholeHouseModel") ∈ nestF := List.mem_of_getElem? (i := 29) rfl
theorem gf_X5_64 (C0 : CX p s m args meth c cc RX5 nL G sz) (hP : PW G M o H) {k : Nat} (hk : kd k = 6) (dg : decode cc pc = .ok (.getfield 64, 3))
    (kk : W p l e R s m args below meth c H locs cells slots Q (F0 m (pc + 3) ls (.ref (adr G 51) :: rest))) : W p l e R s m args below meth c H locs cells slots Q (F0 m pc ls (.ref (adr G k) :: rest)) :=
  w_getN C0 hP (T := TX6) (C := RX6) (kd_lt hk (by decide)) (ct_6 hk) inU_X6 rfl (j := 7) (by decide) rfl fl_X5_64 rfl dg kk
theorem fl_X5_67 : (RX5, 67, "PinholeHouseModel", "paint", "[I", "PinholeHouseModel") ∈ nestF := List.mem_of_getElem? (i := 30) rfl
theorem gf_X5_67 (C0 : CX p s m args meth c cc RX5 nL G sz) (hP : PW G M o H) {k : Nat} (hk : kd k = 6) (dg : decode cc pc = .ok (.getfield 67, 3))
    (kk : W p l e R s m args below meth c H locs cells slots Q (F0 m (pc + 3) ls (.ref (adr G 54) :: rest))) : W p l e R s m args below meth c H locs cells slots Q (F0 m pc ls (.ref (adr G k) :: rest)) :=
  w_getN C0 hP (T := TX6) (C := RX6) (kd_lt hk (by decide)) (ct_6 hk) inU_X6 rfl (j := 10) (by decide) rfl fl_X5_67 rfl dg kk
theorem fl_X5_78 : (RX5, 78, "PinholeHouseModel", "tall", "[I", "PinholeHouseModel") ∈ nestF := List.mem_of_getElem? (i := 31) rfl
theorem gf_X5_78 (C0 : CX p s m args meth c cc RX5 nL G sz) (hP : PW G M o H) {k : Nat} (hk : kd k = 6) (dg : decode cc pc = .ok (.getfield 78, 3))
    (kk : W p l e R s m args below meth c H locs cells slots Q (F0 m (pc + 3) ls (.ref (adr G 50) :: rest))) : W p l e R s m args below meth c H locs cells slots Q (F0 m pc ls (.ref (adr G k) :: rest)) :=
  w_getN C0 hP (T := TX6) (C := RX6) (kd_lt hk (by decide)) (ct_6 hk) inU_X6 rfl (j := 6) (by decide) rfl fl_X5_78 rfl dg kk
theorem fl_X5_81 : (RX5, 81, "PinholeHouseModel", "passers", "I", "PinholeHouseModel") ∈ nestF := List.mem_of_getElem? (i := 32) rfl
theorem gf_X5_81 (C0 : CX p s m args meth c cc RX5 nL G sz) (hP : PW G M o H) {k : Nat} (hk : kd k = 6) (dg : decode cc pc = .ok (.getfield 81, 3))
    (kk : W p l e R s m args below meth c H locs cells slots Q (F0 m (pc + 3) ls (.int (M k 1) :: rest))) : W p l e R s m args below meth c H locs cells slots Q (F0 m pc ls (.ref (adr G k) :: rest)) :=
  w_getN C0 hP (T := TX6) (C := RX6) (kd_lt hk (by decide)) (ct_6 hk) inU_X6 rfl (j := 1) (by decide) rfl fl_X5_81 rfl dg kk
theorem pf_X5_81 (C0 : CX p s m args meth c cc RX5 nL G sz) (hP : PW G M o H) (hS : va_S (pA G sz) s.heap H locs) {k : Nat} {v : Int32} (hk : kd k = 6) (dg : decode cc pc = .ok (.putfield 81, 3))
    (kk : ∀ (H1 : Heap) (locs1 : List Loc), PW G (u2 M k 1 v) o H1 → va_S (pA G sz) s.heap H1 locs1 → W p l e R s m args below meth c H1 locs1 cells slots Q (F0 m (pc + 3) ls (rest))) : W p l e R s m args below meth c H locs cells slots Q (F0 m pc ls (.int v :: .ref (adr G k) :: rest)) :=
  w_putN C0 hP hS tyX6 tyX6_ok nmX6 (T := TX6) (C := RX6) (kd_lt hk (by decide)) (ct_6 hk) (by rw [ct_6 hk, u2_at, u2_sl (j := 0) (by decide), u2_sl (j := 2) (by decide)]; rfl) inU_X6 rfl (j := 1) (by decide) rfl fl_X5_81 rfl (by decide +kernel) (Nat.le_of_ble_eq_true rfl) dg kk
theorem fl_X5_87 : (RX5, 87, "PinholeHouseModel", "pace", "[I", "PinholeHouseModel") ∈ nestF := List.mem_of_getElem? (i := 33) rfl
theorem gf_X5_87 (C0 : CX p s m args meth c cc RX5 nL G sz) (hP : PW G M o H) {k : Nat} (hk : kd k = 6) (dg : decode cc pc = .ok (.getfield 87, 3))
    (kk : W p l e R s m args below meth c H locs cells slots Q (F0 m (pc + 3) ls (.ref (adr G 49) :: rest))) : W p l e R s m args below meth c H locs cells slots Q (F0 m pc ls (.ref (adr G k) :: rest)) :=
  w_getN C0 hP (T := TX6) (C := RX6) (kd_lt hk (by decide)) (ct_6 hk) inU_X6 rfl (j := 5) (by decide) rfl fl_X5_87 rfl dg kk
theorem fl_X5_94 : (RX5, 94, "PinholeHouseModel", "rooms", "I", "PinholeHouseModel") ∈ nestF := List.mem_of_getElem? (i := 34) rfl
theorem gf_X5_94 (C0 : CX p s m args meth c cc RX5 nL G sz) (hP : PW G M o H) {k : Nat} (hk : kd k = 6) (dg : decode cc pc = .ok (.getfield 94, 3))
    (kk : W p l e R s m args below meth c H locs cells slots Q (F0 m (pc + 3) ls (.int (M k 2) :: rest))) : W p l e R s m args below meth c H locs cells slots Q (F0 m pc ls (.ref (adr G k) :: rest)) :=
  w_getN C0 hP (T := TX6) (C := RX6) (kd_lt hk (by decide)) (ct_6 hk) inU_X6 rfl (j := 2) (by decide) rfl fl_X5_94 rfl dg kk
theorem pf_X5_94 (C0 : CX p s m args meth c cc RX5 nL G sz) (hP : PW G M o H) (hS : va_S (pA G sz) s.heap H locs) {k : Nat} {v : Int32} (hk : kd k = 6) (dg : decode cc pc = .ok (.putfield 94, 3))
    (kk : ∀ (H1 : Heap) (locs1 : List Loc), PW G (u2 M k 2 v) o H1 → va_S (pA G sz) s.heap H1 locs1 → W p l e R s m args below meth c H1 locs1 cells slots Q (F0 m (pc + 3) ls (rest))) : W p l e R s m args below meth c H locs cells slots Q (F0 m pc ls (.int v :: .ref (adr G k) :: rest)) :=
  w_putN C0 hP hS tyX6 tyX6_ok nmX6 (T := TX6) (C := RX6) (kd_lt hk (by decide)) (ct_6 hk) (by rw [ct_6 hk, u2_at, u2_sl (j := 0) (by decide), u2_sl (j := 1) (by decide)]; rfl) inU_X6 rfl (j := 2) (by decide) rfl fl_X5_94 rfl (by decide +kernel) (Nat.le_of_ble_eq_true rfl) dg kk
theorem fl_X5_106 : (RX5, 106, "PinholeHouseModel", "seats", "[I", "PinholeHouseModel") ∈ nestF := List.mem_of_getElem? (i := 35) rfl
theorem gf_X5_106 (C0 : CX p s m args meth c cc RX5 nL G sz) (hP : PW G M o H) {k : Nat} (hk : kd k = 6) (dg : decode cc pc = .ok (.getfield 106, 3))
    (kk : W p l e R s m args below meth c H locs cells slots Q (F0 m (pc + 3) ls (.ref (adr G 55) :: rest))) : W p l e R s m args below meth c H locs cells slots Q (F0 m pc ls (.ref (adr G k) :: rest)) :=
  w_getN C0 hP (T := TX6) (C := RX6) (kd_lt hk (by decide)) (ct_6 hk) inU_X6 rfl (j := 11) (by decide) rfl fl_X5_106 rfl dg kk
theorem fl_X6_9 : Cond.fieldLink RX6 9 "PinholeHouseModel" "light" "[I" ∈ UU := List.mem_filter.mpr ⟨List.mem_append_right _ (List.mem_append_right _ (List.mem_append_right _ (List.mem_append_left _ (List.mem_of_getElem? (i := 93) rfl)))), rfl⟩
theorem gf_X6_9 (C0 : CX p s m args meth c cc RX6 nL G sz) (hP : PW G M o H) {k : Nat} (hk : kd k = 6) (dg : decode cc pc = .ok (.getfield 9, 3))
    (kk : W p l e R s m args below meth c H locs cells slots Q (F0 m (pc + 3) ls (.ref (adr G 47) :: rest))) : W p l e R s m args below meth c H locs cells slots Q (F0 m pc ls (.ref (adr G k) :: rest)) :=
  w_get C0 hP (T := TX6) (C := RX6) (kd_lt hk (by decide)) (ct_6 hk) inU_X6 rfl (j := 3) (by decide) rfl fl_X6_9 rfl dg kk
theorem fl_X6_13 : Cond.fieldLink RX6 13 "PinholeHouseModel" "clouds" "[I" ∈ UU := List.mem_filter.mpr ⟨List.mem_append_right _ (List.mem_append_right _ (List.mem_append_right _ (List.mem_append_left _ (List.mem_of_getElem? (i := 95) rfl)))), rfl⟩
theorem gf_X6_13 (C0 : CX p s m args meth c cc RX6 nL G sz) (hP : PW G M o H) {k : Nat} (hk : kd k = 6) (dg : decode cc pc = .ok (.getfield 13, 3))
    (kk : W p l e R s m args below meth c H locs cells slots Q (F0 m (pc + 3) ls (.ref (adr G 48) :: rest))) : W p l e R s m args below meth c H locs cells slots Q (F0 m pc ls (.ref (adr G k) :: rest)) :=
  w_get C0 hP (T := TX6) (C := RX6) (kd_lt hk (by decide)) (ct_6 hk) inU_X6 rfl (j := 4) (by decide) rfl fl_X6_13 rfl dg kk
theorem fl_X6_16 : Cond.fieldLink RX6 16 "PinholeHouseModel" "pace" "[I" ∈ UU := List.mem_filter.mpr ⟨List.mem_append_right _ (List.mem_append_right _ (List.mem_append_right _ (List.mem_append_left _ (List.mem_of_getElem? (i := 97) rfl)))), rfl⟩
theorem gf_X6_16 (C0 : CX p s m args meth c cc RX6 nL G sz) (hP : PW G M o H) {k : Nat} (hk : kd k = 6) (dg : decode cc pc = .ok (.getfield 16, 3))
    (kk : W p l e R s m args below meth c H locs cells slots Q (F0 m (pc + 3) ls (.ref (adr G 49) :: rest))) : W p l e R s m args below meth c H locs cells slots Q (F0 m pc ls (.ref (adr G k) :: rest)) :=
  w_get C0 hP (T := TX6) (C := RX6) (kd_lt hk (by decide)) (ct_6 hk) inU_X6 rfl (j := 5) (by decide) rfl fl_X6_16 rfl dg kk
theorem fl_X6_19 : Cond.fieldLink RX6 19 "PinholeHouseModel" "tall" "[I" ∈ UU := List.mem_filter.mpr ⟨List.mem_append_right _ (List.mem_append_right _ (List.mem_append_right _ (List.mem_append_left _ (List.mem_of_getElem? (i := 99) rfl)))), rfl⟩
theorem gf_X6_19 (C0 : CX p s m args meth c cc RX6 nL G sz) (hP : PW G M o H) {k : Nat} (hk : kd k = 6) (dg : decode cc pc = .ok (.getfield 19, 3))
    (kk : W p l e R s m args below meth c H locs cells slots Q (F0 m (pc + 3) ls (.ref (adr G 50) :: rest))) : W p l e R s m args below meth c H locs cells slots Q (F0 m pc ls (.ref (adr G k) :: rest)) :=
  w_get C0 hP (T := TX6) (C := RX6) (kd_lt hk (by decide)) (ct_6 hk) inU_X6 rfl (j := 6) (by decide) rfl fl_X6_19 rfl dg kk
theorem fl_X6_22 : Cond.fieldLink RX6 22 "PinholeHouseModel" "shine" "[I" ∈ UU := List.mem_filter.mpr ⟨List.mem_append_right _ (List.mem_append_right _ (List.mem_append_right _ (List.mem_append_left _ (List.mem_of_getElem? (i := 101) rfl)))), rfl⟩
theorem gf_X6_22 (C0 : CX p s m args meth c cc RX6 nL G sz) (hP : PW G M o H) {k : Nat} (hk : kd k = 6) (dg : decode cc pc = .ok (.getfield 22, 3))
    (kk : W p l e R s m args below meth c H locs cells slots Q (F0 m (pc + 3) ls (.ref (adr G 51) :: rest))) : W p l e R s m args below meth c H locs cells slots Q (F0 m pc ls (.ref (adr G k) :: rest)) :=
  w_get C0 hP (T := TX6) (C := RX6) (kd_lt hk (by decide)) (ct_6 hk) inU_X6 rfl (j := 7) (by decide) rfl fl_X6_22 rfl dg kk
theorem fl_X6_25 : Cond.fieldLink RX6 25 "PinholeHouseModel" "place" "[I" ∈ UU := List.mem_filter.mpr ⟨List.mem_append_right _ (List.mem_append_right _ (List.mem_append_right _ (List.mem_append_left _ (List.mem_of_getElem? (i := 103) rfl)))), rfl⟩
theorem gf_X6_25 (C0 : CX p s m args meth c cc RX6 nL G sz) (hP : PW G M o H) {k : Nat} (hk : kd k = 6) (dg : decode cc pc = .ok (.getfield 25, 3))
    (kk : W p l e R s m args below meth c H locs cells slots Q (F0 m (pc + 3) ls (.ref (adr G 52) :: rest))) : W p l e R s m args below meth c H locs cells slots Q (F0 m pc ls (.ref (adr G k) :: rest)) :=
  w_get C0 hP (T := TX6) (C := RX6) (kd_lt hk (by decide)) (ct_6 hk) inU_X6 rfl (j := 8) (by decide) rfl fl_X6_25 rfl dg kk
theorem fl_X6_28 : Cond.fieldLink RX6 28 "PinholeHouseModel" "depth" "[I" ∈ UU := List.mem_filter.mpr ⟨List.mem_append_right _ (List.mem_append_right _ (List.mem_append_right _ (List.mem_append_left _ (List.mem_of_getElem? (i := 105) rfl)))), rfl⟩
theorem gf_X6_28 (C0 : CX p s m args meth c cc RX6 nL G sz) (hP : PW G M o H) {k : Nat} (hk : kd k = 6) (dg : decode cc pc = .ok (.getfield 28, 3))
    (kk : W p l e R s m args below meth c H locs cells slots Q (F0 m (pc + 3) ls (.ref (adr G 53) :: rest))) : W p l e R s m args below meth c H locs cells slots Q (F0 m pc ls (.ref (adr G k) :: rest)) :=
  w_get C0 hP (T := TX6) (C := RX6) (kd_lt hk (by decide)) (ct_6 hk) inU_X6 rfl (j := 9) (by decide) rfl fl_X6_28 rfl dg kk
theorem fl_X6_31 : Cond.fieldLink RX6 31 "PinholeHouseModel" "paint" "[I" ∈ UU := List.mem_filter.mpr ⟨List.mem_append_right _ (List.mem_append_right _ (List.mem_append_right _ (List.mem_append_left _ (List.mem_of_getElem? (i := 107) rfl)))), rfl⟩
theorem gf_X6_31 (C0 : CX p s m args meth c cc RX6 nL G sz) (hP : PW G M o H) {k : Nat} (hk : kd k = 6) (dg : decode cc pc = .ok (.getfield 31, 3))
    (kk : W p l e R s m args below meth c H locs cells slots Q (F0 m (pc + 3) ls (.ref (adr G 54) :: rest))) : W p l e R s m args below meth c H locs cells slots Q (F0 m pc ls (.ref (adr G k) :: rest)) :=
  w_get C0 hP (T := TX6) (C := RX6) (kd_lt hk (by decide)) (ct_6 hk) inU_X6 rfl (j := 10) (by decide) rfl fl_X6_31 rfl dg kk
theorem fl_X6_34 : Cond.fieldLink RX6 34 "PinholeHouseModel" "seats" "[I" ∈ UU := List.mem_filter.mpr ⟨List.mem_append_right _ (List.mem_append_right _ (List.mem_append_right _ (List.mem_append_left _ (List.mem_of_getElem? (i := 109) rfl)))), rfl⟩
theorem gf_X6_34 (C0 : CX p s m args meth c cc RX6 nL G sz) (hP : PW G M o H) {k : Nat} (hk : kd k = 6) (dg : decode cc pc = .ok (.getfield 34, 3))
    (kk : W p l e R s m args below meth c H locs cells slots Q (F0 m (pc + 3) ls (.ref (adr G 55) :: rest))) : W p l e R s m args below meth c H locs cells slots Q (F0 m pc ls (.ref (adr G k) :: rest)) :=
  w_get C0 hP (T := TX6) (C := RX6) (kd_lt hk (by decide)) (ct_6 hk) inU_X6 rfl (j := 11) (by decide) rfl fl_X6_34 rfl dg kk
theorem fl_X6_42 : Cond.fieldLink RX6 42 "PinholeHouseModel" "s" "LPinholeHouseModel$State;" ∈ UU := List.mem_filter.mpr ⟨List.mem_append_right _ (List.mem_append_right _ (List.mem_append_right _ (List.mem_append_left _ (List.mem_of_getElem? (i := 111) rfl)))), rfl⟩
theorem gf_X6_42 (C0 : CX p s m args meth c cc RX6 nL G sz) (hP : PW G M o H) {k : Nat} (hk : kd k = 6) (dg : decode cc pc = .ok (.getfield 42, 3))
    (kk : W p l e R s m args below meth c H locs cells slots Q (F0 m (pc + 3) ls (.ref (adr G 56) :: rest))) : W p l e R s m args below meth c H locs cells slots Q (F0 m pc ls (.ref (adr G k) :: rest)) :=
  w_get C0 hP (T := TX6) (C := RX6) (kd_lt hk (by decide)) (ct_6 hk) inU_X6 rfl (j := 12) (by decide) rfl fl_X6_42 rfl dg kk
theorem fl_X6_46 : Cond.fieldLink RX6 46 "PinholeHouseModel" "ahead" "LPinholeHouseModel$State;" ∈ UU := List.mem_filter.mpr ⟨List.mem_append_right _ (List.mem_append_right _ (List.mem_append_right _ (List.mem_append_left _ (List.mem_of_getElem? (i := 112) rfl)))), rfl⟩
theorem gf_X6_46 (C0 : CX p s m args meth c cc RX6 nL G sz) (hP : PW G M o H) {k : Nat} (hk : kd k = 6) (dg : decode cc pc = .ok (.getfield 46, 3))
    (kk : W p l e R s m args below meth c H locs cells slots Q (F0 m (pc + 3) ls (.ref (adr G 61) :: rest))) : W p l e R s m args below meth c H locs cells slots Q (F0 m pc ls (.ref (adr G k) :: rest)) :=
  w_get C0 hP (T := TX6) (C := RX6) (kd_lt hk (by decide)) (ct_6 hk) inU_X6 rfl (j := 13) (by decide) rfl fl_X6_46 rfl dg kk
theorem fl_X6_49 : Cond.fieldLink RX6 49 "PinholeHouseModel" "thrown" "I" ∈ UU := List.mem_filter.mpr ⟨List.mem_append_right _ (List.mem_append_right _ (List.mem_append_right _ (List.mem_append_left _ (List.mem_of_getElem? (i := 88) rfl)))), rfl⟩
theorem gf_X6_49 (C0 : CX p s m args meth c cc RX6 nL G sz) (hP : PW G M o H) {k : Nat} (hk : kd k = 6) (dg : decode cc pc = .ok (.getfield 49, 3))
    (kk : W p l e R s m args below meth c H locs cells slots Q (F0 m (pc + 3) ls (.int (M k 0) :: rest))) : W p l e R s m args below meth c H locs cells slots Q (F0 m pc ls (.ref (adr G k) :: rest)) :=
  w_get C0 hP (T := TX6) (C := RX6) (kd_lt hk (by decide)) (ct_6 hk) inU_X6 rfl (j := 0) (by decide) rfl fl_X6_49 rfl dg kk
theorem pf_X6_49 (C0 : CX p s m args meth c cc RX6 nL G sz) (hP : PW G M o H) (hS : va_S (pA G sz) s.heap H locs) {k : Nat} {v : Int32} (hk : kd k = 6) (dg : decode cc pc = .ok (.putfield 49, 3))
    (kk : ∀ (H1 : Heap) (locs1 : List Loc), PW G (u2 M k 0 v) o H1 → va_S (pA G sz) s.heap H1 locs1 → W p l e R s m args below meth c H1 locs1 cells slots Q (F0 m (pc + 3) ls (rest))) : W p l e R s m args below meth c H locs cells slots Q (F0 m pc ls (.int v :: .ref (adr G k) :: rest)) :=
  w_put C0 hP hS tyX6 tyX6_ok nmX6 (T := TX6) (C := RX6) (kd_lt hk (by decide)) (ct_6 hk) (by rw [ct_6 hk, u2_at, u2_sl (j := 1) (by decide), u2_sl (j := 2) (by decide)]; rfl) inU_X6 rfl (j := 0) (by decide) rfl fl_X6_49 rfl (by decide +kernel) (Nat.le_of_ble_eq_true rfl) dg kk
theorem fl_X6_53 : Cond.fieldLink RX6 53 "PinholeHouseModel" "rooms" "I" ∈ UU := List.mem_filter.mpr ⟨List.mem_append_right _ (List.mem_append_right _ (List.mem_append_right _ (List.mem_append_left _ (List.mem_of_getElem? (i := 91) rfl)))), rfl⟩
theorem gf_X6_53 (C0 : CX p s m args meth c cc RX6 nL G sz) (hP : PW G M o H) {k : Nat} (hk : kd k = 6) (dg : decode cc pc = .ok (.getfield 53, 3))
    (kk : W p l e R s m args below meth c H locs cells slots Q (F0 m (pc + 3) ls (.int (M k 2) :: rest))) : W p l e R s m args below meth c H locs cells slots Q (F0 m pc ls (.ref (adr G k) :: rest)) :=
  w_get C0 hP (T := TX6) (C := RX6) (kd_lt hk (by decide)) (ct_6 hk) inU_X6 rfl (j := 2) (by decide) rfl fl_X6_53 rfl dg kk
theorem pf_X6_53 (C0 : CX p s m args meth c cc RX6 nL G sz) (hP : PW G M o H) (hS : va_S (pA G sz) s.heap H locs) {k : Nat} {v : Int32} (hk : kd k = 6) (dg : decode cc pc = .ok (.putfield 53, 3))
    (kk : ∀ (H1 : Heap) (locs1 : List Loc), PW G (u2 M k 2 v) o H1 → va_S (pA G sz) s.heap H1 locs1 → W p l e R s m args below meth c H1 locs1 cells slots Q (F0 m (pc + 3) ls (rest))) : W p l e R s m args below meth c H locs cells slots Q (F0 m pc ls (.int v :: .ref (adr G k) :: rest)) :=
  w_put C0 hP hS tyX6 tyX6_ok nmX6 (T := TX6) (C := RX6) (kd_lt hk (by decide)) (ct_6 hk) (by rw [ct_6 hk, u2_at, u2_sl (j := 0) (by decide), u2_sl (j := 1) (by decide)]; rfl) inU_X6 rfl (j := 2) (by decide) rfl fl_X6_53 rfl (by decide +kernel) (Nat.le_of_ble_eq_true rfl) dg kk
theorem fl_X6_60 : Cond.fieldLink RX6 60 "PinholeHouseModel" "passers" "I" ∈ UU := List.mem_filter.mpr ⟨List.mem_append_right _ (List.mem_append_right _ (List.mem_append_right _ (List.mem_append_left _ (List.mem_of_getElem? (i := 89) rfl)))), rfl⟩
theorem gf_X6_60 (C0 : CX p s m args meth c cc RX6 nL G sz) (hP : PW G M o H) {k : Nat} (hk : kd k = 6) (dg : decode cc pc = .ok (.getfield 60, 3))
    (kk : W p l e R s m args below meth c H locs cells slots Q (F0 m (pc + 3) ls (.int (M k 1) :: rest))) : W p l e R s m args below meth c H locs cells slots Q (F0 m pc ls (.ref (adr G k) :: rest)) :=
  w_get C0 hP (T := TX6) (C := RX6) (kd_lt hk (by decide)) (ct_6 hk) inU_X6 rfl (j := 1) (by decide) rfl fl_X6_60 rfl dg kk
theorem pf_X6_60 (C0 : CX p s m args meth c cc RX6 nL G sz) (hP : PW G M o H) (hS : va_S (pA G sz) s.heap H locs) {k : Nat} {v : Int32} (hk : kd k = 6) (dg : decode cc pc = .ok (.putfield 60, 3))
    (kk : ∀ (H1 : Heap) (locs1 : List Loc), PW G (u2 M k 1 v) o H1 → va_S (pA G sz) s.heap H1 locs1 → W p l e R s m args below meth c H1 locs1 cells slots Q (F0 m (pc + 3) ls (rest))) : W p l e R s m args below meth c H locs cells slots Q (F0 m pc ls (.int v :: .ref (adr G k) :: rest)) :=
  w_put C0 hP hS tyX6 tyX6_ok nmX6 (T := TX6) (C := RX6) (kd_lt hk (by decide)) (ct_6 hk) (by rw [ct_6 hk, u2_at, u2_sl (j := 0) (by decide), u2_sl (j := 2) (by decide)]; rfl) inU_X6 rfl (j := 1) (by decide) rfl fl_X6_60 rfl (by decide +kernel) (Nat.le_of_ble_eq_true rfl) dg kk
theorem fl_X6_67 : (RX6, 67, "PinholeHouseModel$State", "step", "[I", "PinholeHouseModel") ∈ nestF := List.mem_of_getElem? (i := 36) rfl
theorem gf_X6_67 (C0 : CX p s m args meth c cc RX6 nL G sz) (hP : PW G M o H) {k : Nat} (hk : kd k = 5) (dg : decode cc pc = .ok (.getfield 67, 3))
    (kk : W p l e R s m args below meth c H locs cells slots Q (F0 m (pc + 3) ls (.ref (adr G (k + 1)) :: rest))) : W p l e R s m args below meth c H locs cells slots Q (F0 m pc ls (.ref (adr G k) :: rest)) :=
  w_getN C0 hP (T := TX5) (C := RX5) (kd_lt hk (by decide)) (ct_5 hk) inU_X5 rfl (j := 1) (by decide) rfl fl_X6_67 rfl dg kk
theorem fl_X6_70 : (RX6, 70, "PinholeHouseModel$State", "hole", "[I", "PinholeHouseModel") ∈ nestF := List.mem_of_getElem? (i := 37) rfl
theorem gf_X6_70 (C0 : CX p s m args meth c cc RX6 nL G sz) (hP : PW G M o H) {k : Nat} (hk : kd k = 5) (dg : decode cc pc = .ok (.getfield 70, 3))
    (kk : W p l e R s m args below meth c H locs cells slots Q (F0 m (pc + 3) ls (.ref (adr G (k + 2)) :: rest))) : W p l e R s m args below meth c H locs cells slots Q (F0 m pc ls (.ref (adr G k) :: rest)) :=
  w_getN C0 hP (T := TX5) (C := RX5) (kd_lt hk (by decide)) (ct_5 hk) inU_X5 rfl (j := 2) (by decide) rfl fl_X6_70 rfl dg kk
theorem fl_X6_77 : (RX6, 77, "PinholeHouseModel$State", "people", "[I", "PinholeHouseModel") ∈ nestF := List.mem_of_getElem? (i := 38) rfl
theorem gf_X6_77 (C0 : CX p s m args meth c cc RX6 nL G sz) (hP : PW G M o H) {k : Nat} (hk : kd k = 5) (dg : decode cc pc = .ok (.getfield 77, 3))
    (kk : W p l e R s m args below meth c H locs cells slots Q (F0 m (pc + 3) ls (.ref (adr G (k + 3)) :: rest))) : W p l e R s m args below meth c H locs cells slots Q (F0 m pc ls (.ref (adr G k) :: rest)) :=
  w_getN C0 hP (T := TX5) (C := RX5) (kd_lt hk (by decide)) (ct_5 hk) inU_X5 rfl (j := 3) (by decide) rfl fl_X6_77 rfl dg kk
theorem fl_X6_94 : (RX6, 94, "PinholeHouseModel$State", "paid", "[I", "PinholeHouseModel") ∈ nestF := List.mem_of_getElem? (i := 39) rfl
theorem gf_X6_94 (C0 : CX p s m args meth c cc RX6 nL G sz) (hP : PW G M o H) {k : Nat} (hk : kd k = 5) (dg : decode cc pc = .ok (.getfield 94, 3))
    (kk : W p l e R s m args below meth c H locs cells slots Q (F0 m (pc + 3) ls (.ref (adr G (k + 4)) :: rest))) : W p l e R s m args below meth c H locs cells slots Q (F0 m pc ls (.ref (adr G k) :: rest)) :=
  w_getN C0 hP (T := TX5) (C := RX5) (kd_lt hk (by decide)) (ct_5 hk) inU_X5 rfl (j := 4) (by decide) rfl fl_X6_94 rfl dg kk
theorem fl_X6_106 : (RX6, 106, "PinholeHouseModel$State", "minute", "I", "PinholeHouseModel") ∈ nestF := List.mem_of_getElem? (i := 40) rfl
theorem gf_X6_106 (C0 : CX p s m args meth c cc RX6 nL G sz) (hP : PW G M o H) {k : Nat} (hk : kd k = 5) (dg : decode cc pc = .ok (.getfield 106, 3))
    (kk : W p l e R s m args below meth c H locs cells slots Q (F0 m (pc + 3) ls (.int (M k 0) :: rest))) : W p l e R s m args below meth c H locs cells slots Q (F0 m pc ls (.ref (adr G k) :: rest)) :=
  w_getN C0 hP (T := TX5) (C := RX5) (kd_lt hk (by decide)) (ct_5 hk) inU_X5 rfl (j := 0) (by decide) rfl fl_X6_106 rfl dg kk
theorem pf_X6_106 (C0 : CX p s m args meth c cc RX6 nL G sz) (hP : PW G M o H) (hS : va_S (pA G sz) s.heap H locs) {k : Nat} {v : Int32} (hk : kd k = 5) (dg : decode cc pc = .ok (.putfield 106, 3))
    (kk : ∀ (H1 : Heap) (locs1 : List Loc), PW G (u2 M k 0 v) o H1 → va_S (pA G sz) s.heap H1 locs1 → W p l e R s m args below meth c H1 locs1 cells slots Q (F0 m (pc + 3) ls (rest))) : W p l e R s m args below meth c H locs cells slots Q (F0 m pc ls (.int v :: .ref (adr G k) :: rest)) :=
  w_putN C0 hP hS tyX5 tyX5_ok nmX5 (T := TX5) (C := RX5) (kd_lt hk (by decide)) (ct_5 hk) (by rw [ct_5 hk, u2_at]; rfl) inU_X5 rfl (j := 0) (by decide) rfl fl_X6_106 rfl (by decide +kernel) (Nat.le_of_ble_eq_true rfl) dg kk
theorem ml_X0_24 : Cond.methodLink RX0 24 yX0_come ∈ UU := List.mem_filter.mpr ⟨List.mem_append_right _ (List.mem_append_right _ (List.mem_append_right _ (List.mem_append_left _ (List.mem_of_getElem? (i := 13) rfl)))), rfl⟩
theorem ml_X0_28 : Cond.methodLink RX0 28 yX0_isGone ∈ UU := List.mem_filter.mpr ⟨List.mem_append_right _ (List.mem_append_right _ (List.mem_append_left _ (List.mem_of_getElem? (i := 224) rfl))), rfl⟩
theorem ml_X0_32 : (RX0, 32, yX4_isStep, "PinholeHouse") ∈ nestM := List.mem_of_getElem? (i := 0) rfl
theorem ml_X1_24 : Cond.methodLink RX1 24 yX1_build ∈ UU := List.mem_filter.mpr ⟨List.mem_append_right _ (List.mem_append_right _ (List.mem_append_right _ (List.mem_append_left _ (List.mem_of_getElem? (i := 18) rfl)))), rfl⟩
theorem ml_X1_37 : (RX1, 37, yX0_isGone, "PinholeHouse") ∈ nestM := List.mem_of_getElem? (i := 1) rfl
theorem ml_X1_50 : Cond.methodLink RX1 50 yX1_reach ∈ UU := List.mem_filter.mpr ⟨List.mem_append_right _ (List.mem_append_left _ (List.mem_of_getElem? (i := 202) rfl)), rfl⟩
theorem ml_X1_57 : Cond.methodLink RX1 57 yX1_shows ∈ UU := List.mem_filter.mpr ⟨List.mem_append_right _ (List.mem_append_left _ (List.mem_of_getElem? (i := 194) rfl)), rfl⟩
theorem ml_X1_64 : Cond.methodLink RX1 64 yX1_brightnessOf ∈ UU := List.mem_filter.mpr ⟨List.mem_append_right _ (List.mem_append_left _ (List.mem_of_getElem? (i := 206) rfl)), rfl⟩
theorem ml_X2_35 : (RX2, 35, yX0_copyFrom, "PinholeHouse") ∈ nestM := List.mem_of_getElem? (i := 4) rfl
theorem ml_X2_39 : (RX2, 39, yX1_copyFrom, "PinholeHouse") ∈ nestM := List.mem_of_getElem? (i := 5) rfl
theorem ml_X2_45 : (RX2, 45, yX0_isGone, "PinholeHouse") ∈ nestM := List.mem_of_getElem? (i := 6) rfl
theorem ml_X2_50 : (RX2, 50, yX1_showsWell, "PinholeHouse") ∈ nestM := List.mem_of_getElem? (i := 7) rfl
theorem ml_X2_54 : (RX2, 54, yX1_shows, "PinholeHouse") ∈ nestM := List.mem_of_getElem? (i := 8) rfl
theorem ml_X2_58 : Cond.methodLink RX2 58 yX2_showIn ∈ UU := List.mem_filter.mpr ⟨List.mem_append_right _ (List.mem_append_left _ (List.mem_of_getElem? (i := 186) rfl)), rfl⟩
theorem ml_X2_68 : (RX2, 68, yX0_walk, "PinholeHouse") ∈ nestM := List.mem_of_getElem? (i := 9) rfl
theorem ml_X2_71 : (RX2, 71, yX1_pay, "PinholeHouse") ∈ nestM := List.mem_of_getElem? (i := 10) rfl
theorem ml_X4_26 : Cond.methodLink RX4 26 yX4_isStep ∈ UU := List.mem_filter.mpr ⟨List.mem_append_right _ (List.mem_append_left _ (List.mem_of_getElem? (i := 236) rfl)), rfl⟩
theorem ml_X4_30 : Cond.methodLink RX4 30 yX4_isOneToNine ∈ UU := List.mem_filter.mpr ⟨List.mem_append_right _ (List.mem_append_left _ (List.mem_of_getElem? (i := 239) rfl)), rfl⟩
theorem ml_X4_47 : (RX4, 47, yX0_come, "PinholeHouse") ∈ nestM := List.mem_of_getElem? (i := 13) rfl
theorem ml_X4_56 : Cond.methodLink RX4 56 yX4_isZeroToNine ∈ UU := List.mem_filter.mpr ⟨List.mem_append_right _ (List.mem_append_right _ (List.mem_append_left _ (List.mem_of_getElem? (i := 107) rfl))), rfl⟩
theorem ml_X4_59 : (RX4, 59, yX3_entry, "PinholeHouse") ∈ nestM := List.mem_of_getElem? (i := 14) rfl
theorem ml_X4_73 : (RX4, 73, yX2_hasHoleAt, "PinholeHouse") ∈ nestM := List.mem_of_getElem? (i := 15) rfl
theorem ml_X4_80 : (RX4, 80, yX1_build, "PinholeHouse") ∈ nestM := List.mem_of_getElem? (i := 16) rfl
theorem ml_X4_86 : Cond.methodLink RX4 86 yX4_needRoom ∈ UU := List.mem_filter.mpr ⟨List.mem_append_right _ (List.mem_append_right _ (List.mem_append_left _ (List.mem_of_getElem? (i := 132) rfl))), rfl⟩
theorem ml_X4_102 : Cond.methodLink RX4 102 yX4_needPasser ∈ UU := List.mem_filter.mpr ⟨List.mem_append_right _ (List.mem_append_right _ (List.mem_append_left _ (List.mem_of_getElem? (i := 160) rfl))), rfl⟩
theorem ml_X4_105 : Cond.methodLink RX4 105 yX4_needBelow ∈ UU := List.mem_filter.mpr ⟨List.mem_append_right _ (List.mem_append_right _ (List.mem_append_left _ (List.mem_of_getElem? (i := 136) rfl))), rfl⟩
theorem ml_X4_109 : Cond.methodLink RX4 109 yX4_passerFact ∈ UU := List.mem_filter.mpr ⟨List.mem_append_right _ (List.mem_append_left _ (List.mem_of_getElem? (i := 214) rfl)), rfl⟩
theorem ml_X4_113 : Cond.methodLink RX4 113 yX4_roomFact ∈ UU := List.mem_filter.mpr ⟨List.mem_append_right _ (List.mem_append_left _ (List.mem_of_getElem? (i := 222) rfl)), rfl⟩
theorem ml_X4_116 : (RX4, 116, yX1_reach, "PinholeHouse") ∈ nestM := List.mem_of_getElem? (i := 17) rfl
theorem ml_X4_123 : (RX4, 123, yX2_passersAt, "PinholeHouse") ∈ nestM := List.mem_of_getElem? (i := 18) rfl
theorem ml_X4_126 : (RX4, 126, yX1_shows, "PinholeHouse") ∈ nestM := List.mem_of_getElem? (i := 19) rfl
theorem ml_X4_130 : Cond.methodLink RX4 130 yX4_lightNow ∈ UU := List.mem_filter.mpr ⟨List.mem_append_right _ (List.mem_append_left _ (List.mem_of_getElem? (i := 162) rfl)), rfl⟩
theorem ml_X4_133 : (RX4, 133, yX1_brightnessOf, "PinholeHouse") ∈ nestM := List.mem_of_getElem? (i := 20) rfl
theorem ml_X4_137 : Cond.methodLink RX4 137 yX4_houseFact ∈ UU := List.mem_filter.mpr ⟨List.mem_append_right _ (List.mem_append_left _ (List.mem_of_getElem? (i := 158) rfl)), rfl⟩
theorem ml_X4_140 : Cond.methodLink RX4 140 yX4_needMinutes ∈ UU := List.mem_filter.mpr ⟨List.mem_append_right _ (List.mem_append_right _ (List.mem_append_left _ (List.mem_of_getElem? (i := 206) rfl))), rfl⟩
theorem ml_X4_143 : Cond.methodLink RX4 143 yX4_letGoBy ∈ UU := List.mem_filter.mpr ⟨List.mem_append_right _ (List.mem_append_right _ (List.mem_append_left _ (List.mem_of_getElem? (i := 209) rfl))), rfl⟩
theorem ml_X4_147 : (RX4, 147, yX2_copyFrom, "PinholeHouse") ∈ nestM := List.mem_of_getElem? (i := 21) rfl
theorem ml_X4_154 : (RX4, 154, yX3_lightAt, "PinholeHouse") ∈ nestM := List.mem_of_getElem? (i := 22) rfl
theorem ml_X4_157 : (RX4, 157, yX2_showIn, "PinholeHouse") ∈ nestM := List.mem_of_getElem? (i := 23) rfl
theorem ml_X4_161 : (RX4, 161, yX2_passersWalk, "PinholeHouse") ∈ nestM := List.mem_of_getElem? (i := 24) rfl
theorem ml_X4_164 : Cond.methodLink RX4 164 yX4_paidWithHole ∈ UU := List.mem_filter.mpr ⟨List.mem_append_right _ (List.mem_append_right _ (List.mem_append_right _ (List.mem_append_left _ (List.mem_of_getElem? (i := 26) rfl)))), rfl⟩
theorem ml_X4_168 : (RX4, 168, yX0_copyFrom, "PinholeHouse") ∈ nestM := List.mem_of_getElem? (i := 25) rfl
theorem ml_X4_171 : (RX4, 171, yX2_wallsWith, "PinholeHouse") ∈ nestM := List.mem_of_getElem? (i := 26) rfl
theorem ml_X4_175 : (RX4, 175, yX0_walk, "PinholeHouse") ∈ nestM := List.mem_of_getElem? (i := 27) rfl
theorem ml_X4_178 : (RX4, 178, yX2_allPeople, "PinholeHouse") ∈ nestM := List.mem_of_getElem? (i := 28) rfl
theorem ml_X4_181 : (RX4, 181, yX2_passersGone, "PinholeHouse") ∈ nestM := List.mem_of_getElem? (i := 29) rfl
theorem ml_X4_184 : (RX4, 184, yX2_allPence, "PinholeHouse") ∈ nestM := List.mem_of_getElem? (i := 30) rfl
theorem ml_X4_201 : (RX4, 201, yX2_roomsSeeingWell, "PinholeHouse") ∈ nestM := List.mem_of_getElem? (i := 31) rfl
theorem ml_X4_210 : (RX4, 210, yX2_allShows, "PinholeHouse") ∈ nestM := List.mem_of_getElem? (i := 32) rfl
theorem ml_X4_218 : (RX4, 218, yX2_roomsPay, "PinholeHouse") ∈ nestM := List.mem_of_getElem? (i := 33) rfl
theorem ml_X4_221 : (RX4, 221, yX1_pay, "PinholeHouse") ∈ nestM := List.mem_of_getElem? (i := 34) rfl
theorem ml_X5_38 : Cond.methodLink RX5 38 yX5_copy ∈ UU := List.mem_filter.mpr ⟨List.mem_append_right _ (List.mem_append_right _ (List.mem_append_right _ (List.mem_append_right _ (List.mem_of_getElem? (i := 38) rfl)))), rfl⟩
theorem ml_X5_60 : Cond.methodLink RX5 60 yX5_lightNow ∈ UU := List.mem_filter.mpr ⟨List.mem_append_right _ (List.mem_append_right _ (List.mem_append_right _ (List.mem_append_left _ (List.mem_of_getElem? (i := 206) rfl)))), rfl⟩
theorem ml_X5_70 : Cond.methodLink RX5 70 yX5_isShown ∈ UU := List.mem_filter.mpr ⟨List.mem_append_right _ (List.mem_append_right _ (List.mem_append_right _ (List.mem_append_left _ (List.mem_of_getElem? (i := 197) rfl)))), rfl⟩
theorem ml_X5_74 : Cond.methodLink RX5 74 yX5_brightness ∈ UU := List.mem_filter.mpr ⟨List.mem_append_right _ (List.mem_append_right _ (List.mem_append_right _ (List.mem_append_left _ (List.mem_of_getElem? (i := 202) rfl)))), rfl⟩
theorem ml_X5_84 : Cond.methodLink RX5 84 yX5_isWell ∈ UU := List.mem_filter.mpr ⟨List.mem_append_right _ (List.mem_append_right _ (List.mem_append_right _ (List.mem_append_left _ (List.mem_of_getElem? (i := 222) rfl)))), rfl⟩
theorem ml_X5_90 : (RX5, 90, yX6_isIn, "PinholeHouseModel") ∈ nestM := List.mem_of_getElem? (i := 35) rfl
theorem ml_X5_97 : Cond.methodLink RX5 97 yX5_show ∈ UU := List.mem_filter.mpr ⟨List.mem_append_right _ (List.mem_append_right _ (List.mem_append_right _ (List.mem_append_right _ (List.mem_of_getElem? (i := 27) rfl)))), rfl⟩
theorem ml_X5_109 : Cond.methodLink RX5 109 yX5_go ∈ UU := List.mem_filter.mpr ⟨List.mem_append_right _ (List.mem_append_right _ (List.mem_append_right _ (List.mem_append_right _ (List.mem_of_getElem? (i := 22) rfl)))), rfl⟩
theorem ml_X6_56 : Cond.methodLink RX6 56 yX6_isIn ∈ UU := List.mem_filter.mpr ⟨List.mem_append_right _ (List.mem_append_right _ (List.mem_append_right _ (List.mem_append_left _ (List.mem_of_getElem? (i := 150) rfl)))), rfl⟩
theorem ml_X6_63 : Cond.methodLink RX6 63 yX6_no ∈ UU := List.mem_filter.mpr ⟨List.mem_append_right _ (List.mem_append_right _ (List.mem_append_right _ (List.mem_append_left _ (List.mem_of_getElem? (i := 153) rfl)))), rfl⟩
theorem ml_X6_73 : Cond.methodLink RX6 73 yX6_isRoom ∈ UU := List.mem_filter.mpr ⟨List.mem_append_right _ (List.mem_append_right _ (List.mem_append_right _ (List.mem_append_left _ (List.mem_of_getElem? (i := 169) rfl)))), rfl⟩
theorem ml_X6_80 : Cond.methodLink RX6 80 yX5_isWell ∈ UU := List.mem_filter.mpr ⟨List.mem_append_right _ (List.mem_append_right _ (List.mem_append_right _ (List.mem_append_left _ (List.mem_of_getElem? (i := 193) rfl)))), rfl⟩
theorem ml_X6_84 : Cond.methodLink RX6 84 yX6_isPasser ∈ UU := List.mem_filter.mpr ⟨List.mem_append_right _ (List.mem_append_right _ (List.mem_append_right _ (List.mem_append_left _ (List.mem_of_getElem? (i := 185) rfl)))), rfl⟩
theorem ml_X6_87 : Cond.methodLink RX6 87 yX6_passerTold ∈ UU := List.mem_filter.mpr ⟨List.mem_append_right _ (List.mem_append_right _ (List.mem_append_right _ (List.mem_append_left _ (List.mem_of_getElem? (i := 189) rfl)))), rfl⟩
theorem ml_X6_91 : Cond.methodLink RX6 91 yX5_show ∈ UU := List.mem_filter.mpr ⟨List.mem_append_right _ (List.mem_append_right _ (List.mem_append_right _ (List.mem_append_left _ (List.mem_of_getElem? (i := 218) rfl)))), rfl⟩
theorem ml_X6_97 : Cond.methodLink RX6 97 yX6_roomTold ∈ UU := List.mem_filter.mpr ⟨List.mem_append_right _ (List.mem_append_right _ (List.mem_append_right _ (List.mem_append_left _ (List.mem_of_getElem? (i := 214) rfl)))), rfl⟩
theorem ml_X6_100 : Cond.methodLink RX6 100 yX5_isShown ∈ UU := List.mem_filter.mpr ⟨List.mem_append_right _ (List.mem_append_right _ (List.mem_append_right _ (List.mem_append_left _ (List.mem_of_getElem? (i := 231) rfl)))), rfl⟩
theorem ml_X6_103 : Cond.methodLink RX6 103 yX5_brightness ∈ UU := List.mem_filter.mpr ⟨List.mem_append_right _ (List.mem_append_right _ (List.mem_append_right _ (List.mem_append_left _ (List.mem_of_getElem? (i := 232) rfl)))), rfl⟩
theorem ml_X6_109 : Cond.methodLink RX6 109 yX5_lightNow ∈ UU := List.mem_filter.mpr ⟨List.mem_append_right _ (List.mem_append_right _ (List.mem_append_right _ (List.mem_append_right _ (List.mem_of_getElem? (i := 1) rfl)))), rfl⟩
theorem ml_X6_113 : Cond.methodLink RX6 113 yX5_gone ∈ UU := List.mem_filter.mpr ⟨List.mem_append_right _ (List.mem_append_right _ (List.mem_append_right _ (List.mem_append_right _ (List.mem_of_getElem? (i := 2) rfl)))), rfl⟩
theorem ml_X6_116 : Cond.methodLink RX6 116 yX5_inAll ∈ UU := List.mem_filter.mpr ⟨List.mem_append_right _ (List.mem_append_right _ (List.mem_append_right _ (List.mem_append_right _ (List.mem_of_getElem? (i := 6) rfl)))), rfl⟩
theorem ml_X6_119 : Cond.methodLink RX6 119 yX5_paidInAll ∈ UU := List.mem_filter.mpr ⟨List.mem_append_right _ (List.mem_append_right _ (List.mem_append_right _ (List.mem_append_right _ (List.mem_of_getElem? (i := 10) rfl)))), rfl⟩
theorem ml_X6_122 : Cond.methodLink RX6 122 yX6_counted ∈ UU := List.mem_filter.mpr ⟨List.mem_append_right _ (List.mem_append_right _ (List.mem_append_right _ (List.mem_append_left _ (List.mem_of_getElem? (i := 237) rfl)))), rfl⟩
theorem ml_X6_125 : Cond.methodLink RX6 125 yX5_go_ ∈ UU := List.mem_filter.mpr ⟨List.mem_append_right _ (List.mem_append_right _ (List.mem_append_right _ (List.mem_append_right _ (List.mem_of_getElem? (i := 18) rfl)))), rfl⟩
theorem ml_X6_129 : Cond.methodLink RX6 129 yX5_become ∈ UU := List.mem_filter.mpr ⟨List.mem_append_right _ (List.mem_append_right _ (List.mem_append_right _ (List.mem_append_right _ (List.mem_of_getElem? (i := 34) rfl)))), rfl⟩
theorem ml_X6_133 : Cond.methodLink RX6 133 yX5_go ∈ UU := List.mem_filter.mpr ⟨List.mem_append_right _ (List.mem_append_right _ (List.mem_append_right _ (List.mem_append_right _ (List.mem_of_getElem? (i := 45) rfl)))), rfl⟩
theorem mf_X0_come : MFV RX0 yX0_come cX0_come 5 none 4 := ⟨⟨List.mem_filter.mpr ⟨List.mem_append_right _ (List.mem_append_right _ (List.mem_append_left _ (List.mem_of_getElem? (i := 83) rfl))), rfl⟩, List.mem_filter.mpr ⟨List.mem_append_right _ (List.mem_append_right _ (List.mem_append_left _ (List.mem_of_getElem? (i := 82) rfl))), rfl⟩, List.mem_filter.mpr ⟨List.mem_append_left _ (List.mem_of_getElem? (i := 18) rfl), rfl⟩, List.mem_filter.mpr ⟨List.mem_append_right _ (List.mem_append_left _ (List.mem_of_getElem? (i := 4) rfl)), rfl⟩⟩, rfl, by decide +kernel, by decide +kernel, by decide +kernel⟩
theorem mf_X0_copyFrom : MFV RX0 yX0_copyFrom cX0_copyFrom 2 none 1 := ⟨⟨List.mem_filter.mpr ⟨List.mem_append_right _ (List.mem_append_right _ (List.mem_append_right _ (List.mem_append_left _ (List.mem_of_getElem? (i := 12) rfl)))), rfl⟩, List.mem_filter.mpr ⟨List.mem_append_right _ (List.mem_append_right _ (List.mem_append_right _ (List.mem_append_left _ (List.mem_of_getElem? (i := 11) rfl)))), rfl⟩, List.mem_filter.mpr ⟨List.mem_append_left _ (List.mem_of_getElem? (i := 30) rfl), rfl⟩, List.mem_filter.mpr ⟨List.mem_append_right _ (List.mem_append_left _ (List.mem_of_getElem? (i := 4) rfl)), rfl⟩⟩, rfl, by decide +kernel, by decide +kernel, by decide +kernel⟩
theorem mf_X0_isGone : MFV RX0 yX0_isGone cX0_isGone 1 (some .boolean) 0 := ⟨⟨List.mem_filter.mpr ⟨List.mem_append_right _ (List.mem_append_left _ (List.mem_of_getElem? (i := 177) rfl)), rfl⟩, List.mem_filter.mpr ⟨List.mem_append_right _ (List.mem_append_left _ (List.mem_of_getElem? (i := 176) rfl)), rfl⟩, List.mem_filter.mpr ⟨List.mem_append_left _ (List.mem_of_getElem? (i := 5) rfl), rfl⟩, List.mem_filter.mpr ⟨List.mem_append_right _ (List.mem_append_left _ (List.mem_of_getElem? (i := 4) rfl)), rfl⟩⟩, rfl, by decide +kernel, by decide +kernel, by decide +kernel⟩
theorem mf_X0_walk : MFV RX0 yX0_walk cX0_walk 1 none 0 := ⟨⟨List.mem_filter.mpr ⟨List.mem_append_right _ (List.mem_append_right _ (List.mem_append_left _ (List.mem_of_getElem? (i := 223) rfl))), rfl⟩, List.mem_filter.mpr ⟨List.mem_append_right _ (List.mem_append_right _ (List.mem_append_left _ (List.mem_of_getElem? (i := 222) rfl))), rfl⟩, List.mem_filter.mpr ⟨List.mem_append_left _ (List.mem_of_getElem? (i := 26) rfl), rfl⟩, List.mem_filter.mpr ⟨List.mem_append_right _ (List.mem_append_left _ (List.mem_of_getElem? (i := 4) rfl)), rfl⟩⟩, rfl, by decide +kernel, by decide +kernel, by decide +kernel⟩
theorem mf_X1_brightnessOf : MFV RX1 yX1_brightnessOf cX1_brightnessOf 4 (some .int) 2 := ⟨⟨List.mem_filter.mpr ⟨List.mem_append_right _ (List.mem_append_left _ (List.mem_of_getElem? (i := 209) rfl)), rfl⟩, List.mem_filter.mpr ⟨List.mem_append_right _ (List.mem_append_left _ (List.mem_of_getElem? (i := 208) rfl)), rfl⟩, List.mem_filter.mpr ⟨List.mem_append_left _ (List.mem_of_getElem? (i := 12) rfl), rfl⟩, List.mem_filter.mpr ⟨List.mem_append_right _ (List.mem_append_left _ (List.mem_of_getElem? (i := 5) rfl)), rfl⟩⟩, rfl, by decide +kernel, by decide +kernel, by decide +kernel⟩
theorem mf_X1_build : MFV RX1 yX1_build cX1_build 4 none 3 := ⟨⟨List.mem_filter.mpr ⟨List.mem_append_right _ (List.mem_append_right _ (List.mem_append_left _ (List.mem_of_getElem? (i := 124) rfl))), rfl⟩, List.mem_filter.mpr ⟨List.mem_append_right _ (List.mem_append_right _ (List.mem_append_left _ (List.mem_of_getElem? (i := 123) rfl))), rfl⟩, List.mem_filter.mpr ⟨List.mem_append_left _ (List.mem_of_getElem? (i := 20) rfl), rfl⟩, List.mem_filter.mpr ⟨List.mem_append_right _ (List.mem_append_left _ (List.mem_of_getElem? (i := 5) rfl)), rfl⟩⟩, rfl, by decide +kernel, by decide +kernel, by decide +kernel⟩
theorem mf_X1_copyFrom : MFV RX1 yX1_copyFrom cX1_copyFrom 2 none 1 := ⟨⟨List.mem_filter.mpr ⟨List.mem_append_right _ (List.mem_append_right _ (List.mem_append_right _ (List.mem_append_left _ (List.mem_of_getElem? (i := 17) rfl)))), rfl⟩, List.mem_filter.mpr ⟨List.mem_append_right _ (List.mem_append_right _ (List.mem_append_right _ (List.mem_append_left _ (List.mem_of_getElem? (i := 16) rfl)))), rfl⟩, List.mem_filter.mpr ⟨List.mem_append_left _ (List.mem_of_getElem? (i := 31) rfl), rfl⟩, List.mem_filter.mpr ⟨List.mem_append_right _ (List.mem_append_left _ (List.mem_of_getElem? (i := 5) rfl)), rfl⟩⟩, rfl, by decide +kernel, by decide +kernel, by decide +kernel⟩
theorem mf_X1_pay : MFV RX1 yX1_pay cX1_pay 3 (some .int) 1 := ⟨⟨List.mem_filter.mpr ⟨List.mem_append_right _ (List.mem_append_right _ (List.mem_append_left _ (List.mem_of_getElem? (i := 233) rfl))), rfl⟩, List.mem_filter.mpr ⟨List.mem_append_right _ (List.mem_append_right _ (List.mem_append_left _ (List.mem_of_getElem? (i := 232) rfl))), rfl⟩, List.mem_filter.mpr ⟨List.mem_append_left _ (List.mem_of_getElem? (i := 28) rfl), rfl⟩, List.mem_filter.mpr ⟨List.mem_append_right _ (List.mem_append_left _ (List.mem_of_getElem? (i := 5) rfl)), rfl⟩⟩, rfl, by decide +kernel, by decide +kernel, by decide +kernel⟩
theorem mf_X1_reach : MFV RX1 yX1_reach cX1_reach 1 (some .int) 0 := ⟨⟨List.mem_filter.mpr ⟨List.mem_append_right _ (List.mem_append_left _ (List.mem_of_getElem? (i := 205) rfl)), rfl⟩, List.mem_filter.mpr ⟨List.mem_append_right _ (List.mem_append_left _ (List.mem_of_getElem? (i := 204) rfl)), rfl⟩, List.mem_filter.mpr ⟨List.mem_append_left _ (List.mem_of_getElem? (i := 11) rfl), rfl⟩, List.mem_filter.mpr ⟨List.mem_append_right _ (List.mem_append_left _ (List.mem_of_getElem? (i := 5) rfl)), rfl⟩⟩, rfl, by decide +kernel, by decide +kernel, by decide +kernel⟩
theorem mf_X1_shows : MFV RX1 yX1_shows cX1_shows 2 (some .boolean) 1 := ⟨⟨List.mem_filter.mpr ⟨List.mem_append_right _ (List.mem_append_left _ (List.mem_of_getElem? (i := 197) rfl)), rfl⟩, List.mem_filter.mpr ⟨List.mem_append_right _ (List.mem_append_left _ (List.mem_of_getElem? (i := 196) rfl)), rfl⟩, List.mem_filter.mpr ⟨List.mem_append_left _ (List.mem_of_getElem? (i := 10) rfl), rfl⟩, List.mem_filter.mpr ⟨List.mem_append_right _ (List.mem_append_left _ (List.mem_of_getElem? (i := 5) rfl)), rfl⟩⟩, rfl, by decide +kernel, by decide +kernel, by decide +kernel⟩
theorem mf_X1_showsWell : MFV RX1 yX1_showsWell cX1_showsWell 3 (some .boolean) 2 := ⟨⟨List.mem_filter.mpr ⟨List.mem_append_right _ (List.mem_append_left _ (List.mem_of_getElem? (i := 193) rfl)), rfl⟩, List.mem_filter.mpr ⟨List.mem_append_right _ (List.mem_append_left _ (List.mem_of_getElem? (i := 192) rfl)), rfl⟩, List.mem_filter.mpr ⟨List.mem_append_left _ (List.mem_of_getElem? (i := 9) rfl), rfl⟩, List.mem_filter.mpr ⟨List.mem_append_right _ (List.mem_append_left _ (List.mem_of_getElem? (i := 5) rfl)), rfl⟩⟩, rfl, by decide +kernel, by decide +kernel, by decide +kernel⟩
theorem mf_X2_allPence : MFV RX2 yX2_allPence cX2_allPence 3 (some .int) 0 := ⟨⟨List.mem_filter.mpr ⟨List.mem_append_right _ (List.mem_append_left _ (List.mem_of_getElem? (i := 151) rfl)), rfl⟩, List.mem_filter.mpr ⟨List.mem_append_right _ (List.mem_append_left _ (List.mem_of_getElem? (i := 150) rfl)), rfl⟩, List.mem_filter.mpr ⟨List.mem_append_left _ (List.mem_of_getElem? (i := 0) rfl), rfl⟩, List.mem_filter.mpr ⟨List.mem_append_right _ (List.mem_append_left _ (List.mem_of_getElem? (i := 3) rfl)), rfl⟩⟩, rfl, by decide +kernel, by decide +kernel, by decide +kernel⟩
theorem mf_X2_allPeople : MFV RX2 yX2_allPeople cX2_allPeople 3 (some .int) 0 := ⟨⟨List.mem_filter.mpr ⟨List.mem_append_right _ (List.mem_append_left _ (List.mem_of_getElem? (i := 181) rfl)), rfl⟩, List.mem_filter.mpr ⟨List.mem_append_right _ (List.mem_append_left _ (List.mem_of_getElem? (i := 180) rfl)), rfl⟩, List.mem_filter.mpr ⟨List.mem_append_left _ (List.mem_of_getElem? (i := 6) rfl), rfl⟩, List.mem_filter.mpr ⟨List.mem_append_right _ (List.mem_append_left _ (List.mem_of_getElem? (i := 3) rfl)), rfl⟩⟩, rfl, by decide +kernel, by decide +kernel, by decide +kernel⟩
theorem mf_X2_allShows : MFV RX2 yX2_allShows cX2_allShows 4 (some .int) 1 := ⟨⟨List.mem_filter.mpr ⟨List.mem_append_right _ (List.mem_append_left _ (List.mem_of_getElem? (i := 185) rfl)), rfl⟩, List.mem_filter.mpr ⟨List.mem_append_right _ (List.mem_append_left _ (List.mem_of_getElem? (i := 184) rfl)), rfl⟩, List.mem_filter.mpr ⟨List.mem_append_left _ (List.mem_of_getElem? (i := 7) rfl), rfl⟩, List.mem_filter.mpr ⟨List.mem_append_right _ (List.mem_append_left _ (List.mem_of_getElem? (i := 3) rfl)), rfl⟩⟩, rfl, by decide +kernel, by decide +kernel, by decide +kernel⟩
theorem mf_X2_copyFrom : MFV RX2 yX2_copyFrom cX2_copyFrom 3 none 1 := ⟨⟨List.mem_filter.mpr ⟨List.mem_append_right _ (List.mem_append_right _ (List.mem_append_right _ (List.mem_append_left _ (List.mem_of_getElem? (i := 8) rfl)))), rfl⟩, List.mem_filter.mpr ⟨List.mem_append_right _ (List.mem_append_right _ (List.mem_append_right _ (List.mem_append_left _ (List.mem_of_getElem? (i := 7) rfl)))), rfl⟩, List.mem_filter.mpr ⟨List.mem_append_left _ (List.mem_of_getElem? (i := 29) rfl), rfl⟩, List.mem_filter.mpr ⟨List.mem_append_right _ (List.mem_append_left _ (List.mem_of_getElem? (i := 3) rfl)), rfl⟩⟩, rfl, by decide +kernel, by decide +kernel, by decide +kernel⟩
theorem mf_X2_hasHoleAt : MFV RX2 yX2_hasHoleAt cX2_hasHoleAt 3 (some .boolean) 1 := ⟨⟨List.mem_filter.mpr ⟨List.mem_append_right _ (List.mem_append_right _ (List.mem_append_left _ (List.mem_of_getElem? (i := 120) rfl))), rfl⟩, List.mem_filter.mpr ⟨List.mem_append_right _ (List.mem_append_right _ (List.mem_append_left _ (List.mem_of_getElem? (i := 119) rfl))), rfl⟩, List.mem_filter.mpr ⟨List.mem_append_left _ (List.mem_of_getElem? (i := 19) rfl), rfl⟩, List.mem_filter.mpr ⟨List.mem_append_right _ (List.mem_append_left _ (List.mem_of_getElem? (i := 3) rfl)), rfl⟩⟩, rfl, by decide +kernel, by decide +kernel, by decide +kernel⟩
theorem mf_X2_passersAt : MFV RX2 yX2_passersAt cX2_passersAt 4 (some .int) 1 := ⟨⟨List.mem_filter.mpr ⟨List.mem_append_right _ (List.mem_append_right _ (List.mem_append_left _ (List.mem_of_getElem? (i := 182) rfl))), rfl⟩, List.mem_filter.mpr ⟨List.mem_append_right _ (List.mem_append_right _ (List.mem_append_left _ (List.mem_of_getElem? (i := 181) rfl))), rfl⟩, List.mem_filter.mpr ⟨List.mem_append_left _ (List.mem_of_getElem? (i := 23) rfl), rfl⟩, List.mem_filter.mpr ⟨List.mem_append_right _ (List.mem_append_left _ (List.mem_of_getElem? (i := 3) rfl)), rfl⟩⟩, rfl, by decide +kernel, by decide +kernel, by decide +kernel⟩
theorem mf_X2_passersGone : MFV RX2 yX2_passersGone cX2_passersGone 3 (some .int) 0 := ⟨⟨List.mem_filter.mpr ⟨List.mem_append_right _ (List.mem_append_left _ (List.mem_of_getElem? (i := 173) rfl)), rfl⟩, List.mem_filter.mpr ⟨List.mem_append_right _ (List.mem_append_left _ (List.mem_of_getElem? (i := 172) rfl)), rfl⟩, List.mem_filter.mpr ⟨List.mem_append_left _ (List.mem_of_getElem? (i := 4) rfl), rfl⟩, List.mem_filter.mpr ⟨List.mem_append_right _ (List.mem_append_left _ (List.mem_of_getElem? (i := 3) rfl)), rfl⟩⟩, rfl, by decide +kernel, by decide +kernel, by decide +kernel⟩
theorem mf_X2_passersWalk : MFV RX2 yX2_passersWalk cX2_passersWalk 2 none 0 := ⟨⟨List.mem_filter.mpr ⟨List.mem_append_right _ (List.mem_append_right _ (List.mem_append_left _ (List.mem_of_getElem? (i := 219) rfl))), rfl⟩, List.mem_filter.mpr ⟨List.mem_append_right _ (List.mem_append_right _ (List.mem_append_left _ (List.mem_of_getElem? (i := 218) rfl))), rfl⟩, List.mem_filter.mpr ⟨List.mem_append_left _ (List.mem_of_getElem? (i := 25) rfl), rfl⟩, List.mem_filter.mpr ⟨List.mem_append_right _ (List.mem_append_left _ (List.mem_of_getElem? (i := 3) rfl)), rfl⟩⟩, rfl, by decide +kernel, by decide +kernel, by decide +kernel⟩
theorem mf_X2_roomsPay : MFV RX2 yX2_roomsPay cX2_roomsPay 4 (some .int) 1 := ⟨⟨List.mem_filter.mpr ⟨List.mem_append_right _ (List.mem_append_right _ (List.mem_append_left _ (List.mem_of_getElem? (i := 229) rfl))), rfl⟩, List.mem_filter.mpr ⟨List.mem_append_right _ (List.mem_append_right _ (List.mem_append_left _ (List.mem_of_getElem? (i := 228) rfl))), rfl⟩, List.mem_filter.mpr ⟨List.mem_append_left _ (List.mem_of_getElem? (i := 27) rfl), rfl⟩, List.mem_filter.mpr ⟨List.mem_append_right _ (List.mem_append_left _ (List.mem_of_getElem? (i := 3) rfl)), rfl⟩⟩, rfl, by decide +kernel, by decide +kernel, by decide +kernel⟩
theorem mf_X2_roomsSeeingWell : MFV RX2 yX2_roomsSeeingWell cX2_roomsSeeingWell 5 (some .int) 2 := ⟨⟨List.mem_filter.mpr ⟨List.mem_append_right _ (List.mem_append_left _ (List.mem_of_getElem? (i := 221) rfl)), rfl⟩, List.mem_filter.mpr ⟨List.mem_append_right _ (List.mem_append_left _ (List.mem_of_getElem? (i := 220) rfl)), rfl⟩, List.mem_filter.mpr ⟨List.mem_append_left _ (List.mem_of_getElem? (i := 15) rfl), rfl⟩, List.mem_filter.mpr ⟨List.mem_append_right _ (List.mem_append_left _ (List.mem_of_getElem? (i := 3) rfl)), rfl⟩⟩, rfl, by decide +kernel, by decide +kernel, by decide +kernel⟩
theorem mf_X2_showIn : MFV RX2 yX2_showIn cX2_showIn 5 (some .int) 2 := ⟨⟨List.mem_filter.mpr ⟨List.mem_append_right _ (List.mem_append_left _ (List.mem_of_getElem? (i := 189) rfl)), rfl⟩, List.mem_filter.mpr ⟨List.mem_append_right _ (List.mem_append_left _ (List.mem_of_getElem? (i := 188) rfl)), rfl⟩, List.mem_filter.mpr ⟨List.mem_append_left _ (List.mem_of_getElem? (i := 8) rfl), rfl⟩, List.mem_filter.mpr ⟨List.mem_append_right _ (List.mem_append_left _ (List.mem_of_getElem? (i := 3) rfl)), rfl⟩⟩, rfl, by decide +kernel, by decide +kernel, by decide +kernel⟩
theorem mf_X2_wallsWith : MFV RX2 yX2_wallsWith cX2_wallsWith 4 (some .int) 1 := ⟨⟨List.mem_filter.mpr ⟨List.mem_append_right _ (List.mem_append_right _ (List.mem_append_right _ (List.mem_append_left _ (List.mem_of_getElem? (i := 42) rfl)))), rfl⟩, List.mem_filter.mpr ⟨List.mem_append_right _ (List.mem_append_right _ (List.mem_append_right _ (List.mem_append_left _ (List.mem_of_getElem? (i := 41) rfl)))), rfl⟩, List.mem_filter.mpr ⟨List.mem_append_left _ (List.mem_of_getElem? (i := 33) rfl), rfl⟩, List.mem_filter.mpr ⟨List.mem_append_right _ (List.mem_append_left _ (List.mem_of_getElem? (i := 3) rfl)), rfl⟩⟩, rfl, by decide +kernel, by decide +kernel, by decide +kernel⟩
theorem mf_X3_entry : MFV RX3 yX3_entry cX3_entry 2 (some .int) 1 := ⟨⟨List.mem_filter.mpr ⟨List.mem_append_right _ (List.mem_append_left _ (List.mem_of_getElem? (i := 213) rfl)), rfl⟩, List.mem_filter.mpr ⟨List.mem_append_right _ (List.mem_append_left _ (List.mem_of_getElem? (i := 212) rfl)), rfl⟩, List.mem_filter.mpr ⟨List.mem_append_left _ (List.mem_of_getElem? (i := 13) rfl), rfl⟩, List.mem_filter.mpr ⟨List.mem_append_right _ (List.mem_append_left _ (List.mem_of_getElem? (i := 2) rfl)), rfl⟩⟩, rfl, by decide +kernel, by decide +kernel, by decide +kernel⟩
theorem mf_X3_lightAt : MFV RX3 yX3_lightAt cX3_lightAt 3 (some .int) 1 := ⟨⟨List.mem_filter.mpr ⟨List.mem_append_right _ (List.mem_append_left _ (List.mem_of_getElem? (i := 169) rfl)), rfl⟩, List.mem_filter.mpr ⟨List.mem_append_right _ (List.mem_append_left _ (List.mem_of_getElem? (i := 168) rfl)), rfl⟩, List.mem_filter.mpr ⟨List.mem_append_left _ (List.mem_of_getElem? (i := 3) rfl), rfl⟩, List.mem_filter.mpr ⟨List.mem_append_right _ (List.mem_append_left _ (List.mem_of_getElem? (i := 2) rfl)), rfl⟩⟩, rfl, by decide +kernel, by decide +kernel, by decide +kernel⟩
theorem mf_X4_addRoom : MFV RX4 yX4_addRoom cX4_addRoom 5 (some .int) 3 := ⟨⟨List.mem_filter.mpr ⟨List.mem_append_right _ (List.mem_append_right _ (List.mem_append_left _ (List.mem_of_getElem? (i := 116) rfl))), rfl⟩, List.mem_filter.mpr ⟨List.mem_append_right _ (List.mem_append_right _ (List.mem_append_left _ (List.mem_of_getElem? (i := 114) rfl))), rfl⟩, List.mem_filter.mpr ⟨List.mem_append_right _ (List.mem_append_right _ (List.mem_append_left _ (List.mem_of_getElem? (i := 115) rfl))), rfl⟩, List.mem_filter.mpr ⟨List.mem_append_right _ (List.mem_append_left _ (List.mem_of_getElem? (i := 1) rfl)), rfl⟩⟩, rfl, by decide +kernel, by decide +kernel, by decide +kernel⟩
theorem mf_X4_advise : MFV RX4 yX4_advise cX4_advise 7 (some .int) 2 := ⟨⟨List.mem_filter.mpr ⟨List.mem_append_right _ (List.mem_append_right _ (List.mem_append_right _ (List.mem_append_left _ (List.mem_of_getElem? (i := 25) rfl)))), rfl⟩, List.mem_filter.mpr ⟨List.mem_append_right _ (List.mem_append_right _ (List.mem_append_right _ (List.mem_append_left _ (List.mem_of_getElem? (i := 23) rfl)))), rfl⟩, List.mem_filter.mpr ⟨List.mem_append_right _ (List.mem_append_right _ (List.mem_append_right _ (List.mem_append_left _ (List.mem_of_getElem? (i := 24) rfl)))), rfl⟩, List.mem_filter.mpr ⟨List.mem_append_right _ (List.mem_append_left _ (List.mem_of_getElem? (i := 1) rfl)), rfl⟩⟩, rfl, by decide +kernel, by decide +kernel, by decide +kernel⟩
theorem mf_X4_bore : MFV RX4 yX4_bore cX4_bore 4 (some .int) 2 := ⟨⟨List.mem_filter.mpr ⟨List.mem_append_right _ (List.mem_append_right _ (List.mem_append_left _ (List.mem_of_getElem? (i := 131) rfl))), rfl⟩, List.mem_filter.mpr ⟨List.mem_append_right _ (List.mem_append_right _ (List.mem_append_left _ (List.mem_of_getElem? (i := 129) rfl))), rfl⟩, List.mem_filter.mpr ⟨List.mem_append_right _ (List.mem_append_right _ (List.mem_append_left _ (List.mem_of_getElem? (i := 130) rfl))), rfl⟩, List.mem_filter.mpr ⟨List.mem_append_right _ (List.mem_append_left _ (List.mem_of_getElem? (i := 1) rfl)), rfl⟩⟩, rfl, by decide +kernel, by decide +kernel, by decide +kernel⟩
theorem mf_X4_bright : MFV RX4 yX4_bright cX4_bright 5 (some .int) 2 := ⟨⟨List.mem_filter.mpr ⟨List.mem_append_right _ (List.mem_append_right _ (List.mem_append_left _ (List.mem_of_getElem? (i := 189) rfl))), rfl⟩, List.mem_filter.mpr ⟨List.mem_append_right _ (List.mem_append_right _ (List.mem_append_left _ (List.mem_of_getElem? (i := 187) rfl))), rfl⟩, List.mem_filter.mpr ⟨List.mem_append_right _ (List.mem_append_right _ (List.mem_append_left _ (List.mem_of_getElem? (i := 188) rfl))), rfl⟩, List.mem_filter.mpr ⟨List.mem_append_right _ (List.mem_append_left _ (List.mem_of_getElem? (i := 1) rfl)), rfl⟩⟩, rfl, by decide +kernel, by decide +kernel, by decide +kernel⟩
theorem mf_X4_count : MFV RX4 yX4_count cX4_count 2 (some .int) 1 := ⟨⟨List.mem_filter.mpr ⟨List.mem_append_right _ (List.mem_append_right _ (List.mem_append_left _ (List.mem_of_getElem? (i := 198) rfl))), rfl⟩, List.mem_filter.mpr ⟨List.mem_append_right _ (List.mem_append_right _ (List.mem_append_left _ (List.mem_of_getElem? (i := 196) rfl))), rfl⟩, List.mem_filter.mpr ⟨List.mem_append_right _ (List.mem_append_right _ (List.mem_append_left _ (List.mem_of_getElem? (i := 197) rfl))), rfl⟩, List.mem_filter.mpr ⟨List.mem_append_right _ (List.mem_append_left _ (List.mem_of_getElem? (i := 1) rfl)), rfl⟩⟩, rfl, by decide +kernel, by decide +kernel, by decide +kernel⟩
theorem mf_X4_digest : MFV RX4 yX4_digest cX4_digest 5 (some .long) 0 := ⟨⟨List.mem_filter.mpr ⟨List.mem_append_right _ (List.mem_append_left _ (List.mem_of_getElem? (i := 155) rfl)), rfl⟩, List.mem_filter.mpr ⟨List.mem_append_right _ (List.mem_append_left _ (List.mem_of_getElem? (i := 153) rfl)), rfl⟩, List.mem_filter.mpr ⟨List.mem_append_right _ (List.mem_append_left _ (List.mem_of_getElem? (i := 154) rfl)), rfl⟩, List.mem_filter.mpr ⟨List.mem_append_right _ (List.mem_append_left _ (List.mem_of_getElem? (i := 1) rfl)), rfl⟩⟩, rfl, by decide +kernel, by decide +kernel, by decide +kernel⟩
theorem mf_X4_foresee : MFV RX4 yX4_foresee cX4_foresee 4 (some .int) 2 := ⟨⟨List.mem_filter.mpr ⟨List.mem_append_right _ (List.mem_append_right _ (List.mem_append_right _ (List.mem_append_left _ (List.mem_of_getElem? (i := 51) rfl)))), rfl⟩, List.mem_filter.mpr ⟨List.mem_append_right _ (List.mem_append_right _ (List.mem_append_right _ (List.mem_append_left _ (List.mem_of_getElem? (i := 49) rfl)))), rfl⟩, List.mem_filter.mpr ⟨List.mem_append_right _ (List.mem_append_right _ (List.mem_append_right _ (List.mem_append_left _ (List.mem_of_getElem? (i := 50) rfl)))), rfl⟩, List.mem_filter.mpr ⟨List.mem_append_right _ (List.mem_append_left _ (List.mem_of_getElem? (i := 1) rfl)), rfl⟩⟩, rfl, by decide +kernel, by decide +kernel, by decide +kernel⟩
theorem mf_X4_go : MFV RX4 yX4_go cX4_go 2 (some .int) 1 := ⟨⟨List.mem_filter.mpr ⟨List.mem_append_right _ (List.mem_append_right _ (List.mem_append_left _ (List.mem_of_getElem? (i := 205) rfl))), rfl⟩, List.mem_filter.mpr ⟨List.mem_append_right _ (List.mem_append_right _ (List.mem_append_left _ (List.mem_of_getElem? (i := 203) rfl))), rfl⟩, List.mem_filter.mpr ⟨List.mem_append_right _ (List.mem_append_right _ (List.mem_append_left _ (List.mem_of_getElem? (i := 204) rfl))), rfl⟩, List.mem_filter.mpr ⟨List.mem_append_right _ (List.mem_append_left _ (List.mem_of_getElem? (i := 1) rfl)), rfl⟩⟩, rfl, by decide +kernel, by decide +kernel, by decide +kernel⟩
theorem mf_X4_houseFact : MFV RX4 yX4_houseFact cX4_houseFact 2 (some .int) 1 := ⟨⟨List.mem_filter.mpr ⟨List.mem_append_right _ (List.mem_append_left _ (List.mem_of_getElem? (i := 161) rfl)), rfl⟩, List.mem_filter.mpr ⟨List.mem_append_right _ (List.mem_append_left _ (List.mem_of_getElem? (i := 160) rfl)), rfl⟩, List.mem_filter.mpr ⟨List.mem_append_left _ (List.mem_of_getElem? (i := 1) rfl), rfl⟩, List.mem_filter.mpr ⟨List.mem_append_right _ (List.mem_append_left _ (List.mem_of_getElem? (i := 1) rfl)), rfl⟩⟩, rfl, by decide +kernel, by decide +kernel, by decide +kernel⟩
theorem mf_X4_isOneToNine : MFS yX4_isOneToNine cX4_isOneToNine 1 (some .boolean) 1 := ⟨⟨List.mem_filter.mpr ⟨List.mem_append_right _ (List.mem_append_right _ (List.mem_append_left _ (List.mem_of_getElem? (i := 1) rfl))), rfl⟩, List.mem_filter.mpr ⟨List.mem_append_right _ (List.mem_append_right _ (List.mem_append_left _ (List.mem_of_getElem? (i := 0) rfl))), rfl⟩, List.mem_filter.mpr ⟨List.mem_append_right _ (List.mem_append_left _ (List.mem_of_getElem? (i := 1) rfl)), rfl⟩⟩, by decide +kernel, by decide +kernel, by decide +kernel⟩
theorem mf_X4_isStep : MFS yX4_isStep cX4_isStep 1 (some .boolean) 1 := ⟨⟨List.mem_filter.mpr ⟨List.mem_append_right _ (List.mem_append_left _ (List.mem_of_getElem? (i := 238) rfl)), rfl⟩, List.mem_filter.mpr ⟨List.mem_append_right _ (List.mem_append_left _ (List.mem_of_getElem? (i := 237) rfl)), rfl⟩, List.mem_filter.mpr ⟨List.mem_append_right _ (List.mem_append_left _ (List.mem_of_getElem? (i := 1) rfl)), rfl⟩⟩, by decide +kernel, by decide +kernel, by decide +kernel⟩
theorem mf_X4_isZeroToNine : MFS yX4_isZeroToNine cX4_isZeroToNine 1 (some .boolean) 1 := ⟨⟨List.mem_filter.mpr ⟨List.mem_append_right _ (List.mem_append_right _ (List.mem_append_left _ (List.mem_of_getElem? (i := 109) rfl))), rfl⟩, List.mem_filter.mpr ⟨List.mem_append_right _ (List.mem_append_right _ (List.mem_append_left _ (List.mem_of_getElem? (i := 108) rfl))), rfl⟩, List.mem_filter.mpr ⟨List.mem_append_right _ (List.mem_append_left _ (List.mem_of_getElem? (i := 1) rfl)), rfl⟩⟩, by decide +kernel, by decide +kernel, by decide +kernel⟩
theorem mf_X4_letGoBy : MFV RX4 yX4_letGoBy cX4_letGoBy 6 (some .int) 2 := ⟨⟨List.mem_filter.mpr ⟨List.mem_append_right _ (List.mem_append_right _ (List.mem_append_left _ (List.mem_of_getElem? (i := 212) rfl))), rfl⟩, List.mem_filter.mpr ⟨List.mem_append_right _ (List.mem_append_right _ (List.mem_append_left _ (List.mem_of_getElem? (i := 211) rfl))), rfl⟩, List.mem_filter.mpr ⟨List.mem_append_left _ (List.mem_of_getElem? (i := 24) rfl), rfl⟩, List.mem_filter.mpr ⟨List.mem_append_right _ (List.mem_append_left _ (List.mem_of_getElem? (i := 1) rfl)), rfl⟩⟩, rfl, by decide +kernel, by decide +kernel, by decide +kernel⟩
theorem mf_X4_lightNow : MFV RX4 yX4_lightNow cX4_lightNow 1 (some .int) 0 := ⟨⟨List.mem_filter.mpr ⟨List.mem_append_right _ (List.mem_append_left _ (List.mem_of_getElem? (i := 165) rfl)), rfl⟩, List.mem_filter.mpr ⟨List.mem_append_right _ (List.mem_append_left _ (List.mem_of_getElem? (i := 164) rfl)), rfl⟩, List.mem_filter.mpr ⟨List.mem_append_left _ (List.mem_of_getElem? (i := 2) rfl), rfl⟩, List.mem_filter.mpr ⟨List.mem_append_right _ (List.mem_append_left _ (List.mem_of_getElem? (i := 1) rfl)), rfl⟩⟩, rfl, by decide +kernel, by decide +kernel, by decide +kernel⟩
theorem mf_X4_mean : MFV RX4 yX4_mean cX4_mean 1 (some .double) 0 := ⟨⟨List.mem_filter.mpr ⟨List.mem_append_right _ (List.mem_append_left _ (List.mem_of_getElem? (i := 147) rfl)), rfl⟩, List.mem_filter.mpr ⟨List.mem_append_right _ (List.mem_append_left _ (List.mem_of_getElem? (i := 145) rfl)), rfl⟩, List.mem_filter.mpr ⟨List.mem_append_right _ (List.mem_append_left _ (List.mem_of_getElem? (i := 146) rfl)), rfl⟩, List.mem_filter.mpr ⟨List.mem_append_right _ (List.mem_append_left _ (List.mem_of_getElem? (i := 1) rfl)), rfl⟩⟩, rfl, by decide +kernel, by decide +kernel, by decide +kernel⟩
theorem mf_X4_needBelow : MFS yX4_needBelow cX4_needBelow 2 none 2 := ⟨⟨List.mem_filter.mpr ⟨List.mem_append_right _ (List.mem_append_right _ (List.mem_append_left _ (List.mem_of_getElem? (i := 138) rfl))), rfl⟩, List.mem_filter.mpr ⟨List.mem_append_right _ (List.mem_append_right _ (List.mem_append_left _ (List.mem_of_getElem? (i := 137) rfl))), rfl⟩, List.mem_filter.mpr ⟨List.mem_append_right _ (List.mem_append_left _ (List.mem_of_getElem? (i := 1) rfl)), rfl⟩⟩, by decide +kernel, by decide +kernel, by decide +kernel⟩
theorem mf_X4_needMinutes : MFS yX4_needMinutes cX4_needMinutes 2 none 2 := ⟨⟨List.mem_filter.mpr ⟨List.mem_append_right _ (List.mem_append_right _ (List.mem_append_left _ (List.mem_of_getElem? (i := 208) rfl))), rfl⟩, List.mem_filter.mpr ⟨List.mem_append_right _ (List.mem_append_right _ (List.mem_append_left _ (List.mem_of_getElem? (i := 207) rfl))), rfl⟩, List.mem_filter.mpr ⟨List.mem_append_right _ (List.mem_append_left _ (List.mem_of_getElem? (i := 1) rfl)), rfl⟩⟩, by decide +kernel, by decide +kernel, by decide +kernel⟩
theorem mf_X4_needPasser : MFV RX4 yX4_needPasser cX4_needPasser 2 none 1 := ⟨⟨List.mem_filter.mpr ⟨List.mem_append_right _ (List.mem_append_right _ (List.mem_append_left _ (List.mem_of_getElem? (i := 163) rfl))), rfl⟩, List.mem_filter.mpr ⟨List.mem_append_right _ (List.mem_append_right _ (List.mem_append_left _ (List.mem_of_getElem? (i := 162) rfl))), rfl⟩, List.mem_filter.mpr ⟨List.mem_append_left _ (List.mem_of_getElem? (i := 22) rfl), rfl⟩, List.mem_filter.mpr ⟨List.mem_append_right _ (List.mem_append_left _ (List.mem_of_getElem? (i := 1) rfl)), rfl⟩⟩, rfl, by decide +kernel, by decide +kernel, by decide +kernel⟩
theorem mf_X4_needRoom : MFV RX4 yX4_needRoom cX4_needRoom 2 none 1 := ⟨⟨List.mem_filter.mpr ⟨List.mem_append_right _ (List.mem_append_right _ (List.mem_append_left _ (List.mem_of_getElem? (i := 135) rfl))), rfl⟩, List.mem_filter.mpr ⟨List.mem_append_right _ (List.mem_append_right _ (List.mem_append_left _ (List.mem_of_getElem? (i := 134) rfl))), rfl⟩, List.mem_filter.mpr ⟨List.mem_append_left _ (List.mem_of_getElem? (i := 21) rfl), rfl⟩, List.mem_filter.mpr ⟨List.mem_append_right _ (List.mem_append_left _ (List.mem_of_getElem? (i := 1) rfl)), rfl⟩⟩, rfl, by decide +kernel, by decide +kernel, by decide +kernel⟩
theorem mf_X4_paidWithHole : MFV RX4 yX4_paidWithHole cX4_paidWithHole 8 (some .int) 3 := ⟨⟨List.mem_filter.mpr ⟨List.mem_append_right _ (List.mem_append_right _ (List.mem_append_right _ (List.mem_append_left _ (List.mem_of_getElem? (i := 29) rfl)))), rfl⟩, List.mem_filter.mpr ⟨List.mem_append_right _ (List.mem_append_right _ (List.mem_append_right _ (List.mem_append_left _ (List.mem_of_getElem? (i := 28) rfl)))), rfl⟩, List.mem_filter.mpr ⟨List.mem_append_left _ (List.mem_of_getElem? (i := 32) rfl), rfl⟩, List.mem_filter.mpr ⟨List.mem_append_right _ (List.mem_append_left _ (List.mem_of_getElem? (i := 1) rfl)), rfl⟩⟩, rfl, by decide +kernel, by decide +kernel, by decide +kernel⟩
theorem mf_X4_paint : MFV RX4 yX4_paint cX4_paint 4 (some .int) 2 := ⟨⟨List.mem_filter.mpr ⟨List.mem_append_right _ (List.mem_append_right _ (List.mem_append_left _ (List.mem_of_getElem? (i := 145) rfl))), rfl⟩, List.mem_filter.mpr ⟨List.mem_append_right _ (List.mem_append_right _ (List.mem_append_left _ (List.mem_of_getElem? (i := 143) rfl))), rfl⟩, List.mem_filter.mpr ⟨List.mem_append_right _ (List.mem_append_right _ (List.mem_append_left _ (List.mem_of_getElem? (i := 144) rfl))), rfl⟩, List.mem_filter.mpr ⟨List.mem_append_right _ (List.mem_append_left _ (List.mem_of_getElem? (i := 1) rfl)), rfl⟩⟩, rfl, by decide +kernel, by decide +kernel, by decide +kernel⟩
theorem mf_X4_pass : MFV RX4 yX4_pass cX4_pass 6 (some .int) 4 := ⟨⟨List.mem_filter.mpr ⟨List.mem_append_right _ (List.mem_append_left _ (List.mem_of_getElem? (i := 235) rfl)), rfl⟩, List.mem_filter.mpr ⟨List.mem_append_right _ (List.mem_append_left _ (List.mem_of_getElem? (i := 233) rfl)), rfl⟩, List.mem_filter.mpr ⟨List.mem_append_right _ (List.mem_append_left _ (List.mem_of_getElem? (i := 234) rfl)), rfl⟩, List.mem_filter.mpr ⟨List.mem_append_right _ (List.mem_append_left _ (List.mem_of_getElem? (i := 1) rfl)), rfl⟩⟩, rfl, by decide +kernel, by decide +kernel, by decide +kernel⟩
theorem mf_X4_passer : MFV RX4 yX4_passer cX4_passer 3 (some .int) 2 := ⟨⟨List.mem_filter.mpr ⟨List.mem_append_right _ (List.mem_append_right _ (List.mem_append_left _ (List.mem_of_getElem? (i := 159) rfl))), rfl⟩, List.mem_filter.mpr ⟨List.mem_append_right _ (List.mem_append_right _ (List.mem_append_left _ (List.mem_of_getElem? (i := 157) rfl))), rfl⟩, List.mem_filter.mpr ⟨List.mem_append_right _ (List.mem_append_right _ (List.mem_append_left _ (List.mem_of_getElem? (i := 158) rfl))), rfl⟩, List.mem_filter.mpr ⟨List.mem_append_right _ (List.mem_append_left _ (List.mem_of_getElem? (i := 1) rfl)), rfl⟩⟩, rfl, by decide +kernel, by decide +kernel, by decide +kernel⟩
theorem mf_X4_passerFact : MFV RX4 yX4_passerFact cX4_passerFact 4 (some .int) 2 := ⟨⟨List.mem_filter.mpr ⟨List.mem_append_right _ (List.mem_append_left _ (List.mem_of_getElem? (i := 217) rfl)), rfl⟩, List.mem_filter.mpr ⟨List.mem_append_right _ (List.mem_append_left _ (List.mem_of_getElem? (i := 216) rfl)), rfl⟩, List.mem_filter.mpr ⟨List.mem_append_left _ (List.mem_of_getElem? (i := 14) rfl), rfl⟩, List.mem_filter.mpr ⟨List.mem_append_right _ (List.mem_append_left _ (List.mem_of_getElem? (i := 1) rfl)), rfl⟩⟩, rfl, by decide +kernel, by decide +kernel, by decide +kernel⟩
theorem mf_X4_room : MFV RX4 yX4_room cX4_room 3 (some .int) 2 := ⟨⟨List.mem_filter.mpr ⟨List.mem_append_right _ (List.mem_append_right _ (List.mem_append_left _ (List.mem_of_getElem? (i := 170) rfl))), rfl⟩, List.mem_filter.mpr ⟨List.mem_append_right _ (List.mem_append_right _ (List.mem_append_left _ (List.mem_of_getElem? (i := 168) rfl))), rfl⟩, List.mem_filter.mpr ⟨List.mem_append_right _ (List.mem_append_right _ (List.mem_append_left _ (List.mem_of_getElem? (i := 169) rfl))), rfl⟩, List.mem_filter.mpr ⟨List.mem_append_right _ (List.mem_append_left _ (List.mem_of_getElem? (i := 1) rfl)), rfl⟩⟩, rfl, by decide +kernel, by decide +kernel, by decide +kernel⟩
theorem mf_X4_roomFact : MFV RX4 yX4_roomFact cX4_roomFact 4 (some .int) 2 := ⟨⟨List.mem_filter.mpr ⟨List.mem_append_right _ (List.mem_append_left _ (List.mem_of_getElem? (i := 225) rfl)), rfl⟩, List.mem_filter.mpr ⟨List.mem_append_right _ (List.mem_append_left _ (List.mem_of_getElem? (i := 224) rfl)), rfl⟩, List.mem_filter.mpr ⟨List.mem_append_left _ (List.mem_of_getElem? (i := 16) rfl), rfl⟩, List.mem_filter.mpr ⟨List.mem_append_right _ (List.mem_append_left _ (List.mem_of_getElem? (i := 1) rfl)), rfl⟩⟩, rfl, by decide +kernel, by decide +kernel, by decide +kernel⟩
theorem mf_X4_seat : MFV RX4 yX4_seat cX4_seat 4 (some .int) 2 := ⟨⟨List.mem_filter.mpr ⟨List.mem_append_right _ (List.mem_append_right _ (List.mem_append_left _ (List.mem_of_getElem? (i := 152) rfl))), rfl⟩, List.mem_filter.mpr ⟨List.mem_append_right _ (List.mem_append_right _ (List.mem_append_left _ (List.mem_of_getElem? (i := 150) rfl))), rfl⟩, List.mem_filter.mpr ⟨List.mem_append_right _ (List.mem_append_right _ (List.mem_append_left _ (List.mem_of_getElem? (i := 151) rfl))), rfl⟩, List.mem_filter.mpr ⟨List.mem_append_right _ (List.mem_append_left _ (List.mem_of_getElem? (i := 1) rfl)), rfl⟩⟩, rfl, by decide +kernel, by decide +kernel, by decide +kernel⟩
theorem mf_X4_seen : MFV RX4 yX4_seen cX4_seen 5 (some .int) 1 := ⟨⟨List.mem_filter.mpr ⟨List.mem_append_right _ (List.mem_append_right _ (List.mem_append_right _ (List.mem_append_left _ (List.mem_of_getElem? (i := 37) rfl)))), rfl⟩, List.mem_filter.mpr ⟨List.mem_append_right _ (List.mem_append_right _ (List.mem_append_right _ (List.mem_append_left _ (List.mem_of_getElem? (i := 35) rfl)))), rfl⟩, List.mem_filter.mpr ⟨List.mem_append_right _ (List.mem_append_right _ (List.mem_append_right _ (List.mem_append_left _ (List.mem_of_getElem? (i := 36) rfl)))), rfl⟩, List.mem_filter.mpr ⟨List.mem_append_right _ (List.mem_append_left _ (List.mem_of_getElem? (i := 1) rfl)), rfl⟩⟩, rfl, by decide +kernel, by decide +kernel, by decide +kernel⟩
theorem mf_X4_setLight : MFV RX4 yX4_setLight cX4_setLight 5 (some .int) 3 := ⟨⟨List.mem_filter.mpr ⟨List.mem_append_right _ (List.mem_append_right _ (List.mem_append_left _ (List.mem_of_getElem? (i := 91) rfl))), rfl⟩, List.mem_filter.mpr ⟨List.mem_append_right _ (List.mem_append_right _ (List.mem_append_left _ (List.mem_of_getElem? (i := 89) rfl))), rfl⟩, List.mem_filter.mpr ⟨List.mem_append_right _ (List.mem_append_right _ (List.mem_append_left _ (List.mem_of_getElem? (i := 90) rfl))), rfl⟩, List.mem_filter.mpr ⟨List.mem_append_right _ (List.mem_append_left _ (List.mem_of_getElem? (i := 1) rfl)), rfl⟩⟩, rfl, by decide +kernel, by decide +kernel, by decide +kernel⟩
theorem mf_X4_wall : MFV RX4 yX4_wall cX4_wall 4 (some .int) 2 := ⟨⟨List.mem_filter.mpr ⟨List.mem_append_right _ (List.mem_append_right _ (List.mem_append_left _ (List.mem_of_getElem? (i := 177) rfl))), rfl⟩, List.mem_filter.mpr ⟨List.mem_append_right _ (List.mem_append_right _ (List.mem_append_left _ (List.mem_of_getElem? (i := 175) rfl))), rfl⟩, List.mem_filter.mpr ⟨List.mem_append_right _ (List.mem_append_right _ (List.mem_append_left _ (List.mem_of_getElem? (i := 176) rfl))), rfl⟩, List.mem_filter.mpr ⟨List.mem_append_right _ (List.mem_append_left _ (List.mem_of_getElem? (i := 1) rfl)), rfl⟩⟩, rfl, by decide +kernel, by decide +kernel, by decide +kernel⟩
theorem mf_X4_when : MFV RX4 yX4_when cX4_when 6 (some .int) 1 := ⟨⟨List.mem_filter.mpr ⟨List.mem_append_right _ (List.mem_append_right _ (List.mem_append_right _ (List.mem_append_left _ (List.mem_of_getElem? (i := 4) rfl)))), rfl⟩, List.mem_filter.mpr ⟨List.mem_append_right _ (List.mem_append_right _ (List.mem_append_right _ (List.mem_append_left _ (List.mem_of_getElem? (i := 2) rfl)))), rfl⟩, List.mem_filter.mpr ⟨List.mem_append_right _ (List.mem_append_right _ (List.mem_append_right _ (List.mem_append_left _ (List.mem_of_getElem? (i := 3) rfl)))), rfl⟩, List.mem_filter.mpr ⟨List.mem_append_right _ (List.mem_append_left _ (List.mem_of_getElem? (i := 1) rfl)), rfl⟩⟩, rfl, by decide +kernel, by decide +kernel, by decide +kernel⟩
theorem mf_X5_become : MFV RX5 yX5_become cX5_become 2 none 1 := ⟨⟨List.mem_filter.mpr ⟨List.mem_append_right _ (List.mem_append_right _ (List.mem_append_right _ (List.mem_append_right _ (List.mem_of_getElem? (i := 37) rfl)))), rfl⟩, List.mem_filter.mpr ⟨List.mem_append_right _ (List.mem_append_right _ (List.mem_append_right _ (List.mem_append_right _ (List.mem_of_getElem? (i := 35) rfl)))), rfl⟩, List.mem_filter.mpr ⟨List.mem_append_right _ (List.mem_append_right _ (List.mem_append_right _ (List.mem_append_right _ (List.mem_of_getElem? (i := 36) rfl)))), rfl⟩, List.mem_filter.mpr ⟨List.mem_append_right _ (List.mem_append_left _ (List.mem_of_getElem? (i := 7) rfl)), rfl⟩⟩, rfl, by decide +kernel, by decide +kernel, by decide +kernel⟩
theorem mf_X5_brightness : MFV RX5 yX5_brightness cX5_brightness 4 (some .int) 2 := ⟨⟨List.mem_filter.mpr ⟨List.mem_append_right _ (List.mem_append_right _ (List.mem_append_right _ (List.mem_append_left _ (List.mem_of_getElem? (i := 205) rfl)))), rfl⟩, List.mem_filter.mpr ⟨List.mem_append_right _ (List.mem_append_right _ (List.mem_append_right _ (List.mem_append_left _ (List.mem_of_getElem? (i := 203) rfl)))), rfl⟩, List.mem_filter.mpr ⟨List.mem_append_right _ (List.mem_append_right _ (List.mem_append_right _ (List.mem_append_left _ (List.mem_of_getElem? (i := 204) rfl)))), rfl⟩, List.mem_filter.mpr ⟨List.mem_append_right _ (List.mem_append_left _ (List.mem_of_getElem? (i := 7) rfl)), rfl⟩⟩, rfl, by decide +kernel, by decide +kernel, by decide +kernel⟩
theorem mf_X5_copy : MFV RX5 yX5_copy cX5_copy 3 none 2 := ⟨⟨List.mem_filter.mpr ⟨List.mem_append_right _ (List.mem_append_right _ (List.mem_append_right _ (List.mem_append_right _ (List.mem_of_getElem? (i := 41) rfl)))), rfl⟩, List.mem_filter.mpr ⟨List.mem_append_right _ (List.mem_append_right _ (List.mem_append_right _ (List.mem_append_right _ (List.mem_of_getElem? (i := 40) rfl)))), rfl⟩, List.mem_filter.mpr ⟨List.mem_append_left _ (List.mem_of_getElem? (i := 40) rfl), rfl⟩, List.mem_filter.mpr ⟨List.mem_append_right _ (List.mem_append_left _ (List.mem_of_getElem? (i := 7) rfl)), rfl⟩⟩, rfl, by decide +kernel, by decide +kernel, by decide +kernel⟩
theorem mf_X5_go : MFV RX5 yX5_go cX5_go 3 none 0 := ⟨⟨List.mem_filter.mpr ⟨List.mem_append_right _ (List.mem_append_right _ (List.mem_append_right _ (List.mem_append_right _ (List.mem_of_getElem? (i := 25) rfl)))), rfl⟩, List.mem_filter.mpr ⟨List.mem_append_right _ (List.mem_append_right _ (List.mem_append_right _ (List.mem_append_right _ (List.mem_of_getElem? (i := 23) rfl)))), rfl⟩, List.mem_filter.mpr ⟨List.mem_append_right _ (List.mem_append_right _ (List.mem_append_right _ (List.mem_append_right _ (List.mem_of_getElem? (i := 24) rfl)))), rfl⟩, List.mem_filter.mpr ⟨List.mem_append_right _ (List.mem_append_left _ (List.mem_of_getElem? (i := 7) rfl)), rfl⟩⟩, rfl, by decide +kernel, by decide +kernel, by decide +kernel⟩
theorem mf_X5_go_ : MFV RX5 yX5_go_ cX5_go_ 3 none 1 := ⟨⟨List.mem_filter.mpr ⟨List.mem_append_right _ (List.mem_append_right _ (List.mem_append_right _ (List.mem_append_right _ (List.mem_of_getElem? (i := 21) rfl)))), rfl⟩, List.mem_filter.mpr ⟨List.mem_append_right _ (List.mem_append_right _ (List.mem_append_right _ (List.mem_append_right _ (List.mem_of_getElem? (i := 19) rfl)))), rfl⟩, List.mem_filter.mpr ⟨List.mem_append_right _ (List.mem_append_right _ (List.mem_append_right _ (List.mem_append_right _ (List.mem_of_getElem? (i := 20) rfl)))), rfl⟩, List.mem_filter.mpr ⟨List.mem_append_right _ (List.mem_append_left _ (List.mem_of_getElem? (i := 7) rfl)), rfl⟩⟩, rfl, by decide +kernel, by decide +kernel, by decide +kernel⟩
theorem mf_X5_gone : MFV RX5 yX5_gone cX5_gone 3 (some .int) 0 := ⟨⟨List.mem_filter.mpr ⟨List.mem_append_right _ (List.mem_append_right _ (List.mem_append_right _ (List.mem_append_right _ (List.mem_of_getElem? (i := 5) rfl)))), rfl⟩, List.mem_filter.mpr ⟨List.mem_append_right _ (List.mem_append_right _ (List.mem_append_right _ (List.mem_append_right _ (List.mem_of_getElem? (i := 3) rfl)))), rfl⟩, List.mem_filter.mpr ⟨List.mem_append_right _ (List.mem_append_right _ (List.mem_append_right _ (List.mem_append_right _ (List.mem_of_getElem? (i := 4) rfl)))), rfl⟩, List.mem_filter.mpr ⟨List.mem_append_right _ (List.mem_append_left _ (List.mem_of_getElem? (i := 7) rfl)), rfl⟩⟩, rfl, by decide +kernel, by decide +kernel, by decide +kernel⟩
theorem mf_X5_inAll : MFV RX5 yX5_inAll cX5_inAll 3 (some .int) 0 := ⟨⟨List.mem_filter.mpr ⟨List.mem_append_right _ (List.mem_append_right _ (List.mem_append_right _ (List.mem_append_right _ (List.mem_of_getElem? (i := 9) rfl)))), rfl⟩, List.mem_filter.mpr ⟨List.mem_append_right _ (List.mem_append_right _ (List.mem_append_right _ (List.mem_append_right _ (List.mem_of_getElem? (i := 7) rfl)))), rfl⟩, List.mem_filter.mpr ⟨List.mem_append_right _ (List.mem_append_right _ (List.mem_append_right _ (List.mem_append_right _ (List.mem_of_getElem? (i := 8) rfl)))), rfl⟩, List.mem_filter.mpr ⟨List.mem_append_right _ (List.mem_append_left _ (List.mem_of_getElem? (i := 7) rfl)), rfl⟩⟩, rfl, by decide +kernel, by decide +kernel, by decide +kernel⟩
theorem mf_X5_isShown : MFV RX5 yX5_isShown cX5_isShown 3 (some .boolean) 2 := ⟨⟨List.mem_filter.mpr ⟨List.mem_append_right _ (List.mem_append_right _ (List.mem_append_right _ (List.mem_append_left _ (List.mem_of_getElem? (i := 200) rfl)))), rfl⟩, List.mem_filter.mpr ⟨List.mem_append_right _ (List.mem_append_right _ (List.mem_append_right _ (List.mem_append_left _ (List.mem_of_getElem? (i := 198) rfl)))), rfl⟩, List.mem_filter.mpr ⟨List.mem_append_right _ (List.mem_append_right _ (List.mem_append_right _ (List.mem_append_left _ (List.mem_of_getElem? (i := 199) rfl)))), rfl⟩, List.mem_filter.mpr ⟨List.mem_append_right _ (List.mem_append_left _ (List.mem_of_getElem? (i := 7) rfl)), rfl⟩⟩, rfl, by decide +kernel, by decide +kernel, by decide +kernel⟩
theorem mf_X5_isWell : MFV RX5 yX5_isWell cX5_isWell 3 (some .boolean) 2 := ⟨⟨List.mem_filter.mpr ⟨List.mem_append_right _ (List.mem_append_right _ (List.mem_append_right _ (List.mem_append_left _ (List.mem_of_getElem? (i := 196) rfl)))), rfl⟩, List.mem_filter.mpr ⟨List.mem_append_right _ (List.mem_append_right _ (List.mem_append_right _ (List.mem_append_left _ (List.mem_of_getElem? (i := 194) rfl)))), rfl⟩, List.mem_filter.mpr ⟨List.mem_append_right _ (List.mem_append_right _ (List.mem_append_right _ (List.mem_append_left _ (List.mem_of_getElem? (i := 195) rfl)))), rfl⟩, List.mem_filter.mpr ⟨List.mem_append_right _ (List.mem_append_left _ (List.mem_of_getElem? (i := 7) rfl)), rfl⟩⟩, rfl, by decide +kernel, by decide +kernel, by decide +kernel⟩
theorem mf_X5_lightNow : MFV RX5 yX5_lightNow cX5_lightNow 1 (some .int) 0 := ⟨⟨List.mem_filter.mpr ⟨List.mem_append_right _ (List.mem_append_right _ (List.mem_append_right _ (List.mem_append_left _ (List.mem_of_getElem? (i := 209) rfl)))), rfl⟩, List.mem_filter.mpr ⟨List.mem_append_right _ (List.mem_append_right _ (List.mem_append_right _ (List.mem_append_left _ (List.mem_of_getElem? (i := 207) rfl)))), rfl⟩, List.mem_filter.mpr ⟨List.mem_append_right _ (List.mem_append_right _ (List.mem_append_right _ (List.mem_append_left _ (List.mem_of_getElem? (i := 208) rfl)))), rfl⟩, List.mem_filter.mpr ⟨List.mem_append_right _ (List.mem_append_left _ (List.mem_of_getElem? (i := 7) rfl)), rfl⟩⟩, rfl, by decide +kernel, by decide +kernel, by decide +kernel⟩
theorem mf_X5_paidInAll : MFV RX5 yX5_paidInAll cX5_paidInAll 3 (some .int) 0 := ⟨⟨List.mem_filter.mpr ⟨List.mem_append_right _ (List.mem_append_right _ (List.mem_append_right _ (List.mem_append_right _ (List.mem_of_getElem? (i := 13) rfl)))), rfl⟩, List.mem_filter.mpr ⟨List.mem_append_right _ (List.mem_append_right _ (List.mem_append_right _ (List.mem_append_right _ (List.mem_of_getElem? (i := 11) rfl)))), rfl⟩, List.mem_filter.mpr ⟨List.mem_append_right _ (List.mem_append_right _ (List.mem_append_right _ (List.mem_append_right _ (List.mem_of_getElem? (i := 12) rfl)))), rfl⟩, List.mem_filter.mpr ⟨List.mem_append_right _ (List.mem_append_left _ (List.mem_of_getElem? (i := 7) rfl)), rfl⟩⟩, rfl, by decide +kernel, by decide +kernel, by decide +kernel⟩
theorem mf_X5_show : MFV RX5 yX5_show cX5_show 4 (some .int) 1 := ⟨⟨List.mem_filter.mpr ⟨List.mem_append_right _ (List.mem_append_right _ (List.mem_append_right _ (List.mem_append_left _ (List.mem_of_getElem? (i := 221) rfl)))), rfl⟩, List.mem_filter.mpr ⟨List.mem_append_right _ (List.mem_append_right _ (List.mem_append_right _ (List.mem_append_left _ (List.mem_of_getElem? (i := 219) rfl)))), rfl⟩, List.mem_filter.mpr ⟨List.mem_append_right _ (List.mem_append_right _ (List.mem_append_right _ (List.mem_append_left _ (List.mem_of_getElem? (i := 220) rfl)))), rfl⟩, List.mem_filter.mpr ⟨List.mem_append_right _ (List.mem_append_left _ (List.mem_of_getElem? (i := 7) rfl)), rfl⟩⟩, rfl, by decide +kernel, by decide +kernel, by decide +kernel⟩
theorem mf_X6_addRoom : MFV RX6 yX6_addRoom cX6_addRoom 6 (some .int) 3 := ⟨⟨List.mem_filter.mpr ⟨List.mem_append_right _ (List.mem_append_right _ (List.mem_append_right _ (List.mem_append_left _ (List.mem_of_getElem? (i := 164) rfl)))), rfl⟩, List.mem_filter.mpr ⟨List.mem_append_right _ (List.mem_append_right _ (List.mem_append_right _ (List.mem_append_left _ (List.mem_of_getElem? (i := 162) rfl)))), rfl⟩, List.mem_filter.mpr ⟨List.mem_append_right _ (List.mem_append_right _ (List.mem_append_right _ (List.mem_append_left _ (List.mem_of_getElem? (i := 163) rfl)))), rfl⟩, List.mem_filter.mpr ⟨List.mem_append_right _ (List.mem_append_left _ (List.mem_of_getElem? (i := 6) rfl)), rfl⟩⟩, rfl, by decide +kernel, by decide +kernel, by decide +kernel⟩
theorem mf_X6_advise : MFV RX6 yX6_advise cX6_advise 6 (some .int) 2 := ⟨⟨List.mem_filter.mpr ⟨List.mem_append_right _ (List.mem_append_right _ (List.mem_append_right _ (List.mem_append_right _ (List.mem_of_getElem? (i := 49) rfl)))), rfl⟩, List.mem_filter.mpr ⟨List.mem_append_right _ (List.mem_append_right _ (List.mem_append_right _ (List.mem_append_right _ (List.mem_of_getElem? (i := 47) rfl)))), rfl⟩, List.mem_filter.mpr ⟨List.mem_append_right _ (List.mem_append_right _ (List.mem_append_right _ (List.mem_append_right _ (List.mem_of_getElem? (i := 48) rfl)))), rfl⟩, List.mem_filter.mpr ⟨List.mem_append_right _ (List.mem_append_left _ (List.mem_of_getElem? (i := 6) rfl)), rfl⟩⟩, rfl, by decide +kernel, by decide +kernel, by decide +kernel⟩
theorem mf_X6_bore : MFV RX6 yX6_bore cX6_bore 4 (some .int) 2 := ⟨⟨List.mem_filter.mpr ⟨List.mem_append_right _ (List.mem_append_right _ (List.mem_append_right _ (List.mem_append_left _ (List.mem_of_getElem? (i := 168) rfl)))), rfl⟩, List.mem_filter.mpr ⟨List.mem_append_right _ (List.mem_append_right _ (List.mem_append_right _ (List.mem_append_left _ (List.mem_of_getElem? (i := 166) rfl)))), rfl⟩, List.mem_filter.mpr ⟨List.mem_append_right _ (List.mem_append_right _ (List.mem_append_right _ (List.mem_append_left _ (List.mem_of_getElem? (i := 167) rfl)))), rfl⟩, List.mem_filter.mpr ⟨List.mem_append_right _ (List.mem_append_left _ (List.mem_of_getElem? (i := 6) rfl)), rfl⟩⟩, rfl, by decide +kernel, by decide +kernel, by decide +kernel⟩
theorem mf_X6_bright : MFV RX6 yX6_bright cX6_bright 3 (some .int) 2 := ⟨⟨List.mem_filter.mpr ⟨List.mem_append_right _ (List.mem_append_right _ (List.mem_append_right _ (List.mem_append_left _ (List.mem_of_getElem? (i := 230) rfl)))), rfl⟩, List.mem_filter.mpr ⟨List.mem_append_right _ (List.mem_append_right _ (List.mem_append_right _ (List.mem_append_left _ (List.mem_of_getElem? (i := 228) rfl)))), rfl⟩, List.mem_filter.mpr ⟨List.mem_append_right _ (List.mem_append_right _ (List.mem_append_right _ (List.mem_append_left _ (List.mem_of_getElem? (i := 229) rfl)))), rfl⟩, List.mem_filter.mpr ⟨List.mem_append_right _ (List.mem_append_left _ (List.mem_of_getElem? (i := 6) rfl)), rfl⟩⟩, rfl, by decide +kernel, by decide +kernel, by decide +kernel⟩
theorem mf_X6_count : MFV RX6 yX6_count cX6_count 2 (some .int) 1 := ⟨⟨List.mem_filter.mpr ⟨List.mem_append_right _ (List.mem_append_right _ (List.mem_append_right _ (List.mem_append_left _ (List.mem_of_getElem? (i := 236) rfl)))), rfl⟩, List.mem_filter.mpr ⟨List.mem_append_right _ (List.mem_append_right _ (List.mem_append_right _ (List.mem_append_left _ (List.mem_of_getElem? (i := 234) rfl)))), rfl⟩, List.mem_filter.mpr ⟨List.mem_append_right _ (List.mem_append_right _ (List.mem_append_right _ (List.mem_append_left _ (List.mem_of_getElem? (i := 235) rfl)))), rfl⟩, List.mem_filter.mpr ⟨List.mem_append_right _ (List.mem_append_left _ (List.mem_of_getElem? (i := 6) rfl)), rfl⟩⟩, rfl, by decide +kernel, by decide +kernel, by decide +kernel⟩
theorem mf_X6_counted : MFV RX6 yX6_counted cX6_counted 4 (some .int) 1 := ⟨⟨List.mem_filter.mpr ⟨List.mem_append_right _ (List.mem_append_right _ (List.mem_append_right _ (List.mem_append_right _ (List.mem_of_getElem? (i := 0) rfl)))), rfl⟩, List.mem_filter.mpr ⟨List.mem_append_right _ (List.mem_append_right _ (List.mem_append_right _ (List.mem_append_left _ (List.mem_of_getElem? (i := 239) rfl)))), rfl⟩, List.mem_filter.mpr ⟨List.mem_append_left _ (List.mem_of_getElem? (i := 39) rfl), rfl⟩, List.mem_filter.mpr ⟨List.mem_append_right _ (List.mem_append_left _ (List.mem_of_getElem? (i := 6) rfl)), rfl⟩⟩, rfl, by decide +kernel, by decide +kernel, by decide +kernel⟩
theorem mf_X6_digest : MFV RX6 yX6_digest cX6_digest 5 (some .long) 0 := ⟨⟨List.mem_filter.mpr ⟨List.mem_append_right _ (List.mem_append_right _ (List.mem_append_right _ (List.mem_append_right _ (List.mem_of_getElem? (i := 65) rfl)))), rfl⟩, List.mem_filter.mpr ⟨List.mem_append_right _ (List.mem_append_right _ (List.mem_append_right _ (List.mem_append_right _ (List.mem_of_getElem? (i := 63) rfl)))), rfl⟩, List.mem_filter.mpr ⟨List.mem_append_right _ (List.mem_append_right _ (List.mem_append_right _ (List.mem_append_right _ (List.mem_of_getElem? (i := 64) rfl)))), rfl⟩, List.mem_filter.mpr ⟨List.mem_append_right _ (List.mem_append_left _ (List.mem_of_getElem? (i := 6) rfl)), rfl⟩⟩, rfl, by decide +kernel, by decide +kernel, by decide +kernel⟩
theorem mf_X6_foresee : MFV RX6 yX6_foresee cX6_foresee 3 (some .int) 2 := ⟨⟨List.mem_filter.mpr ⟨List.mem_append_right _ (List.mem_append_right _ (List.mem_append_right _ (List.mem_append_right _ (List.mem_of_getElem? (i := 57) rfl)))), rfl⟩, List.mem_filter.mpr ⟨List.mem_append_right _ (List.mem_append_right _ (List.mem_append_right _ (List.mem_append_right _ (List.mem_of_getElem? (i := 55) rfl)))), rfl⟩, List.mem_filter.mpr ⟨List.mem_append_right _ (List.mem_append_right _ (List.mem_append_right _ (List.mem_append_right _ (List.mem_of_getElem? (i := 56) rfl)))), rfl⟩, List.mem_filter.mpr ⟨List.mem_append_right _ (List.mem_append_left _ (List.mem_of_getElem? (i := 6) rfl)), rfl⟩⟩, rfl, by decide +kernel, by decide +kernel, by decide +kernel⟩
theorem mf_X6_go : MFV RX6 yX6_go cX6_go 3 (some .int) 1 := ⟨⟨List.mem_filter.mpr ⟨List.mem_append_right _ (List.mem_append_right _ (List.mem_append_right _ (List.mem_append_right _ (List.mem_of_getElem? (i := 17) rfl)))), rfl⟩, List.mem_filter.mpr ⟨List.mem_append_right _ (List.mem_append_right _ (List.mem_append_right _ (List.mem_append_right _ (List.mem_of_getElem? (i := 15) rfl)))), rfl⟩, List.mem_filter.mpr ⟨List.mem_append_right _ (List.mem_append_right _ (List.mem_append_right _ (List.mem_append_right _ (List.mem_of_getElem? (i := 16) rfl)))), rfl⟩, List.mem_filter.mpr ⟨List.mem_append_right _ (List.mem_append_left _ (List.mem_of_getElem? (i := 6) rfl)), rfl⟩⟩, rfl, by decide +kernel, by decide +kernel, by decide +kernel⟩
theorem mf_X6_isIn : MFS yX6_isIn cX6_isIn 3 (some .boolean) 3 := ⟨⟨List.mem_filter.mpr ⟨List.mem_append_right _ (List.mem_append_right _ (List.mem_append_right _ (List.mem_append_left _ (List.mem_of_getElem? (i := 152) rfl)))), rfl⟩, List.mem_filter.mpr ⟨List.mem_append_right _ (List.mem_append_right _ (List.mem_append_right _ (List.mem_append_left _ (List.mem_of_getElem? (i := 151) rfl)))), rfl⟩, List.mem_filter.mpr ⟨List.mem_append_right _ (List.mem_append_left _ (List.mem_of_getElem? (i := 6) rfl)), rfl⟩⟩, by decide +kernel, by decide +kernel, by decide +kernel⟩
theorem mf_X6_isPasser : MFV RX6 yX6_isPasser cX6_isPasser 2 (some .boolean) 1 := ⟨⟨List.mem_filter.mpr ⟨List.mem_append_right _ (List.mem_append_right _ (List.mem_append_right _ (List.mem_append_left _ (List.mem_of_getElem? (i := 188) rfl)))), rfl⟩, List.mem_filter.mpr ⟨List.mem_append_right _ (List.mem_append_right _ (List.mem_append_right _ (List.mem_append_left _ (List.mem_of_getElem? (i := 187) rfl)))), rfl⟩, List.mem_filter.mpr ⟨List.mem_append_left _ (List.mem_of_getElem? (i := 36) rfl), rfl⟩, List.mem_filter.mpr ⟨List.mem_append_right _ (List.mem_append_left _ (List.mem_of_getElem? (i := 6) rfl)), rfl⟩⟩, rfl, by decide +kernel, by decide +kernel, by decide +kernel⟩
theorem mf_X6_isRoom : MFV RX6 yX6_isRoom cX6_isRoom 2 (some .boolean) 1 := ⟨⟨List.mem_filter.mpr ⟨List.mem_append_right _ (List.mem_append_right _ (List.mem_append_right _ (List.mem_append_left _ (List.mem_of_getElem? (i := 172) rfl)))), rfl⟩, List.mem_filter.mpr ⟨List.mem_append_right _ (List.mem_append_right _ (List.mem_append_right _ (List.mem_append_left _ (List.mem_of_getElem? (i := 171) rfl)))), rfl⟩, List.mem_filter.mpr ⟨List.mem_append_left _ (List.mem_of_getElem? (i := 35) rfl), rfl⟩, List.mem_filter.mpr ⟨List.mem_append_right _ (List.mem_append_left _ (List.mem_of_getElem? (i := 6) rfl)), rfl⟩⟩, rfl, by decide +kernel, by decide +kernel, by decide +kernel⟩
theorem mf_X6_mean : MFV RX6 yX6_mean cX6_mean 1 (some .double) 0 := ⟨⟨List.mem_filter.mpr ⟨List.mem_append_right _ (List.mem_append_right _ (List.mem_append_right _ (List.mem_append_right _ (List.mem_of_getElem? (i := 61) rfl)))), rfl⟩, List.mem_filter.mpr ⟨List.mem_append_right _ (List.mem_append_right _ (List.mem_append_right _ (List.mem_append_right _ (List.mem_of_getElem? (i := 59) rfl)))), rfl⟩, List.mem_filter.mpr ⟨List.mem_append_right _ (List.mem_append_right _ (List.mem_append_right _ (List.mem_append_right _ (List.mem_of_getElem? (i := 60) rfl)))), rfl⟩, List.mem_filter.mpr ⟨List.mem_append_right _ (List.mem_append_left _ (List.mem_of_getElem? (i := 6) rfl)), rfl⟩⟩, rfl, by decide +kernel, by decide +kernel, by decide +kernel⟩
theorem mf_X6_no : MFV RX6 yX6_no cX6_no 2 (some .int) 1 := ⟨⟨List.mem_filter.mpr ⟨List.mem_append_right _ (List.mem_append_right _ (List.mem_append_right _ (List.mem_append_left _ (List.mem_of_getElem? (i := 156) rfl)))), rfl⟩, List.mem_filter.mpr ⟨List.mem_append_right _ (List.mem_append_right _ (List.mem_append_right _ (List.mem_append_left _ (List.mem_of_getElem? (i := 155) rfl)))), rfl⟩, List.mem_filter.mpr ⟨List.mem_append_left _ (List.mem_of_getElem? (i := 34) rfl), rfl⟩, List.mem_filter.mpr ⟨List.mem_append_right _ (List.mem_append_left _ (List.mem_of_getElem? (i := 6) rfl)), rfl⟩⟩, rfl, by decide +kernel, by decide +kernel, by decide +kernel⟩
theorem mf_X6_paint : MFV RX6 yX6_paint cX6_paint 4 (some .int) 2 := ⟨⟨List.mem_filter.mpr ⟨List.mem_append_right _ (List.mem_append_right _ (List.mem_append_right _ (List.mem_append_left _ (List.mem_of_getElem? (i := 176) rfl)))), rfl⟩, List.mem_filter.mpr ⟨List.mem_append_right _ (List.mem_append_right _ (List.mem_append_right _ (List.mem_append_left _ (List.mem_of_getElem? (i := 174) rfl)))), rfl⟩, List.mem_filter.mpr ⟨List.mem_append_right _ (List.mem_append_right _ (List.mem_append_right _ (List.mem_append_left _ (List.mem_of_getElem? (i := 175) rfl)))), rfl⟩, List.mem_filter.mpr ⟨List.mem_append_right _ (List.mem_append_left _ (List.mem_of_getElem? (i := 6) rfl)), rfl⟩⟩, rfl, by decide +kernel, by decide +kernel, by decide +kernel⟩
theorem mf_X6_pass : MFV RX6 yX6_pass cX6_pass 5 (some .int) 4 := ⟨⟨List.mem_filter.mpr ⟨List.mem_append_right _ (List.mem_append_right _ (List.mem_append_right _ (List.mem_append_left _ (List.mem_of_getElem? (i := 149) rfl)))), rfl⟩, List.mem_filter.mpr ⟨List.mem_append_right _ (List.mem_append_right _ (List.mem_append_right _ (List.mem_append_left _ (List.mem_of_getElem? (i := 147) rfl)))), rfl⟩, List.mem_filter.mpr ⟨List.mem_append_right _ (List.mem_append_right _ (List.mem_append_right _ (List.mem_append_left _ (List.mem_of_getElem? (i := 148) rfl)))), rfl⟩, List.mem_filter.mpr ⟨List.mem_append_right _ (List.mem_append_left _ (List.mem_of_getElem? (i := 6) rfl)), rfl⟩⟩, rfl, by decide +kernel, by decide +kernel, by decide +kernel⟩
theorem mf_X6_passer : MFV RX6 yX6_passer cX6_passer 3 (some .int) 2 := ⟨⟨List.mem_filter.mpr ⟨List.mem_append_right _ (List.mem_append_right _ (List.mem_append_right _ (List.mem_append_left _ (List.mem_of_getElem? (i := 184) rfl)))), rfl⟩, List.mem_filter.mpr ⟨List.mem_append_right _ (List.mem_append_right _ (List.mem_append_right _ (List.mem_append_left _ (List.mem_of_getElem? (i := 182) rfl)))), rfl⟩, List.mem_filter.mpr ⟨List.mem_append_right _ (List.mem_append_right _ (List.mem_append_right _ (List.mem_append_left _ (List.mem_of_getElem? (i := 183) rfl)))), rfl⟩, List.mem_filter.mpr ⟨List.mem_append_right _ (List.mem_append_left _ (List.mem_of_getElem? (i := 6) rfl)), rfl⟩⟩, rfl, by decide +kernel, by decide +kernel, by decide +kernel⟩
theorem mf_X6_passerTold : MFV RX6 yX6_passerTold cX6_passerTold 5 (some .int) 2 := ⟨⟨List.mem_filter.mpr ⟨List.mem_append_right _ (List.mem_append_right _ (List.mem_append_right _ (List.mem_append_left _ (List.mem_of_getElem? (i := 192) rfl)))), rfl⟩, List.mem_filter.mpr ⟨List.mem_append_right _ (List.mem_append_right _ (List.mem_append_right _ (List.mem_append_left _ (List.mem_of_getElem? (i := 191) rfl)))), rfl⟩, List.mem_filter.mpr ⟨List.mem_append_left _ (List.mem_of_getElem? (i := 37) rfl), rfl⟩, List.mem_filter.mpr ⟨List.mem_append_right _ (List.mem_append_left _ (List.mem_of_getElem? (i := 6) rfl)), rfl⟩⟩, rfl, by decide +kernel, by decide +kernel, by decide +kernel⟩
theorem mf_X6_room : MFV RX6 yX6_room cX6_room 3 (some .int) 2 := ⟨⟨List.mem_filter.mpr ⟨List.mem_append_right _ (List.mem_append_right _ (List.mem_append_right _ (List.mem_append_left _ (List.mem_of_getElem? (i := 213) rfl)))), rfl⟩, List.mem_filter.mpr ⟨List.mem_append_right _ (List.mem_append_right _ (List.mem_append_right _ (List.mem_append_left _ (List.mem_of_getElem? (i := 211) rfl)))), rfl⟩, List.mem_filter.mpr ⟨List.mem_append_right _ (List.mem_append_right _ (List.mem_append_right _ (List.mem_append_left _ (List.mem_of_getElem? (i := 212) rfl)))), rfl⟩, List.mem_filter.mpr ⟨List.mem_append_right _ (List.mem_append_left _ (List.mem_of_getElem? (i := 6) rfl)), rfl⟩⟩, rfl, by decide +kernel, by decide +kernel, by decide +kernel⟩
theorem mf_X6_roomTold : MFV RX6 yX6_roomTold cX6_roomTold 3 (some .int) 2 := ⟨⟨List.mem_filter.mpr ⟨List.mem_append_right _ (List.mem_append_right _ (List.mem_append_right _ (List.mem_append_left _ (List.mem_of_getElem? (i := 217) rfl)))), rfl⟩, List.mem_filter.mpr ⟨List.mem_append_right _ (List.mem_append_right _ (List.mem_append_right _ (List.mem_append_left _ (List.mem_of_getElem? (i := 216) rfl)))), rfl⟩, List.mem_filter.mpr ⟨List.mem_append_left _ (List.mem_of_getElem? (i := 38) rfl), rfl⟩, List.mem_filter.mpr ⟨List.mem_append_right _ (List.mem_append_left _ (List.mem_of_getElem? (i := 6) rfl)), rfl⟩⟩, rfl, by decide +kernel, by decide +kernel, by decide +kernel⟩
theorem mf_X6_seat : MFV RX6 yX6_seat cX6_seat 3 (some .int) 2 := ⟨⟨List.mem_filter.mpr ⟨List.mem_append_right _ (List.mem_append_right _ (List.mem_append_right _ (List.mem_append_left _ (List.mem_of_getElem? (i := 180) rfl)))), rfl⟩, List.mem_filter.mpr ⟨List.mem_append_right _ (List.mem_append_right _ (List.mem_append_right _ (List.mem_append_left _ (List.mem_of_getElem? (i := 178) rfl)))), rfl⟩, List.mem_filter.mpr ⟨List.mem_append_right _ (List.mem_append_right _ (List.mem_append_right _ (List.mem_append_left _ (List.mem_of_getElem? (i := 179) rfl)))), rfl⟩, List.mem_filter.mpr ⟨List.mem_append_right _ (List.mem_append_left _ (List.mem_of_getElem? (i := 6) rfl)), rfl⟩⟩, rfl, by decide +kernel, by decide +kernel, by decide +kernel⟩
theorem mf_X6_seen : MFV RX6 yX6_seen cX6_seen 5 (some .int) 1 := ⟨⟨List.mem_filter.mpr ⟨List.mem_append_right _ (List.mem_append_right _ (List.mem_append_right _ (List.mem_append_right _ (List.mem_of_getElem? (i := 53) rfl)))), rfl⟩, List.mem_filter.mpr ⟨List.mem_append_right _ (List.mem_append_right _ (List.mem_append_right _ (List.mem_append_right _ (List.mem_of_getElem? (i := 51) rfl)))), rfl⟩, List.mem_filter.mpr ⟨List.mem_append_right _ (List.mem_append_right _ (List.mem_append_right _ (List.mem_append_right _ (List.mem_of_getElem? (i := 52) rfl)))), rfl⟩, List.mem_filter.mpr ⟨List.mem_append_right _ (List.mem_append_left _ (List.mem_of_getElem? (i := 6) rfl)), rfl⟩⟩, rfl, by decide +kernel, by decide +kernel, by decide +kernel⟩
theorem mf_X6_setLight : MFV RX6 yX6_setLight cX6_setLight 5 (some .int) 3 := ⟨⟨List.mem_filter.mpr ⟨List.mem_append_right _ (List.mem_append_right _ (List.mem_append_right _ (List.mem_append_left _ (List.mem_of_getElem? (i := 160) rfl)))), rfl⟩, List.mem_filter.mpr ⟨List.mem_append_right _ (List.mem_append_right _ (List.mem_append_right _ (List.mem_append_left _ (List.mem_of_getElem? (i := 158) rfl)))), rfl⟩, List.mem_filter.mpr ⟨List.mem_append_right _ (List.mem_append_right _ (List.mem_append_right _ (List.mem_append_left _ (List.mem_of_getElem? (i := 159) rfl)))), rfl⟩, List.mem_filter.mpr ⟨List.mem_append_right _ (List.mem_append_left _ (List.mem_of_getElem? (i := 6) rfl)), rfl⟩⟩, rfl, by decide +kernel, by decide +kernel, by decide +kernel⟩
theorem mf_X6_thrown : MFV RX6 yX6_thrown cX6_thrown 1 (some .int) 0 := ⟨⟨List.mem_filter.mpr ⟨List.mem_append_right _ (List.mem_append_right _ (List.mem_append_right _ (List.mem_append_left _ (List.mem_of_getElem? (i := 145) rfl)))), rfl⟩, List.mem_filter.mpr ⟨List.mem_append_right _ (List.mem_append_right _ (List.mem_append_right _ (List.mem_append_left _ (List.mem_of_getElem? (i := 143) rfl)))), rfl⟩, List.mem_filter.mpr ⟨List.mem_append_right _ (List.mem_append_right _ (List.mem_append_right _ (List.mem_append_left _ (List.mem_of_getElem? (i := 144) rfl)))), rfl⟩, List.mem_filter.mpr ⟨List.mem_append_right _ (List.mem_append_left _ (List.mem_of_getElem? (i := 6) rfl)), rfl⟩⟩, rfl, by decide +kernel, by decide +kernel, by decide +kernel⟩
theorem mf_X6_wall : MFV RX6 yX6_wall cX6_wall 5 (some .int) 2 := ⟨⟨List.mem_filter.mpr ⟨List.mem_append_right _ (List.mem_append_right _ (List.mem_append_right _ (List.mem_append_left _ (List.mem_of_getElem? (i := 226) rfl)))), rfl⟩, List.mem_filter.mpr ⟨List.mem_append_right _ (List.mem_append_right _ (List.mem_append_right _ (List.mem_append_left _ (List.mem_of_getElem? (i := 224) rfl)))), rfl⟩, List.mem_filter.mpr ⟨List.mem_append_right _ (List.mem_append_right _ (List.mem_append_right _ (List.mem_append_left _ (List.mem_of_getElem? (i := 225) rfl)))), rfl⟩, List.mem_filter.mpr ⟨List.mem_append_right _ (List.mem_append_left _ (List.mem_of_getElem? (i := 6) rfl)), rfl⟩⟩, rfl, by decide +kernel, by decide +kernel, by decide +kernel⟩
theorem mf_X6_when : MFV RX6 yX6_when cX6_when 5 (some .int) 1 := ⟨⟨List.mem_filter.mpr ⟨List.mem_append_right _ (List.mem_append_right _ (List.mem_append_right _ (List.mem_append_right _ (List.mem_of_getElem? (i := 33) rfl)))), rfl⟩, List.mem_filter.mpr ⟨List.mem_append_right _ (List.mem_append_right _ (List.mem_append_right _ (List.mem_append_right _ (List.mem_of_getElem? (i := 31) rfl)))), rfl⟩, List.mem_filter.mpr ⟨List.mem_append_right _ (List.mem_append_right _ (List.mem_append_right _ (List.mem_append_right _ (List.mem_of_getElem? (i := 32) rfl)))), rfl⟩, List.mem_filter.mpr ⟨List.mem_append_right _ (List.mem_append_left _ (List.mem_of_getElem? (i := 6) rfl)), rfl⟩⟩, rfl, by decide +kernel, by decide +kernel, by decide +kernel⟩
end FLD
end
section
section MOR
variable {p : Program} {l : Launch} {e : Env} {R : Room} {s : State} {m : MethodId} {args : Array Value} {below : List Frame} {meth : Method} {c : Code} {H : Heap} {locs : List Loc} {cells slots : Nat} {Q : State → Prop} {cc : ByteArray} {pc : Nat} {ls : Array Slot} {rest : List Value} {own : String} {nL : Nat} {G : GG} {sz : Nat} {M : Mem} {o : Nat → Int64}

abbrev QD (G : GG) (M' : Mem) (o' : Nat → Int64) (res : UInt64) (sz : Nat) : Array Value → State → Outcome → State → Prop := va_Qd (fun (r' : UInt64) (_ : Unit) => r' = res) (fun _ t => PW G M' o' t.heap) (pA G sz)
def MD (l : Launch) (y : MethodName) (b : ByteArray) (n : Nat) (r : Option FieldType) (fr lo : Nat) (G : GG) (av : List Value) (M M' : Mem) (o o' : Nat → Int64) (res : UInt64) (mc ms : Nat) : Prop := ∀ sz, Met l y (wsU y b n r) (rmU fr lo mc ms) (PCW G sz M o av) (QD G M' o' res sz) mc ms (pA G sz)
theorem MD_of {y : MethodName} {b : ByteArray} {n : Nat} {r : Option FieldType} {fr lo : Nat} {av : List Value} {M' : Mem} {o' : Nat → Int64} {res : UInt64} {mc ms : Nat} (own : String) (hown : y.cls = own) (hy : plainName y.cls = true) (hn : (lg_sl av).length ≤ n)
    (body : ∀ p e s m below meth c sz, CX p s m av.toArray meth c b own n G sz → meth.sig.returnType = r → PW G M o s.heap → ∀ ls, lv_has ls n (lv_args 0 av) →
      W p l e (rmU fr lo mc ms) s m av.toArray below meth c s.heap [] 0 0 (MQ below (QD G M' o' res sz) av.toArray s mc ms (pA G sz)) (F0 m 0 ls [])) : MD l y b n r fr lo G av M M' o o' res mc ms := by
  intro sz
  refine Met.ofW (cc := b) (maxL := n) (ret := r) hy rfl ?_
  intro p e s m args below meth c s₁ B hml hv
  obtain ⟨rfl, hE, hP⟩ := hv
  subst hown
  have hl := lv_entry av (n := n) hn
  rw [lg_entry_eq]
  generalize (lg_sl av ++ List.replicate (n - (lg_sl av).length) Slot.unset).toArray = ls at hl ⊢
  exact body p e s m below meth c sz ⟨B.exec, B.bytes, hml, findClass_of_methodNamed B.named, fun w hw => atoms_spec (ws := wsU y b n r) B.pre w (List.mem_cons_of_mem _ hw), hE, B.notSynchronized⟩ B.returns hP ls hl
theorem e_D {below : List Frame} {mc ms : Nat} {M' : Mem} {o' : Nat → Int64} {res v : UInt64} {av : List Value} (C0 : CX p s m av.toArray meth c cc own nL G sz) (hr : meth.sig.returnType = some .double) (hP : PW G M' o' H) (hS : va_S (pA G sz) s.heap H locs) (hv : v = res) (hw : cells ≤ mc ∧ slots ≤ ms) (dg : decode cc pc = .ok (.dreturn, 1)) : W p l e R s m av.toArray below meth c H locs cells slots (MQ below (QD G M' o' res sz) av.toArray s mc ms (pA G sz)) (F0 m pc ls [.double v]) :=
  have hlocks := C0.lk
  W.widen (k := mc) (n := ms) hw.1 hw.2 (W.dret (v := v) C0.1 C0.2.1 hr (fun t ht hW => ⟨⟨v, (), rfl, hv, by show PW G M' o' t.heap; rw [ht]; exact hP⟩, hS.F ht⟩) hS.2.2 dg hlocks)
theorem k_VD (C0 : CX p s m args meth c cc own nL G sz) (hP : PW G M o H) (hS : va_S (pA G sz) s.heap H locs) {k ci na n fr lo mc ms idx : Nat} {C : String} {T : u_T} {N : Nat} {fs As rest st0 : List Value} {y : MethodName} {b : ByteArray} {r : Option FieldType} {M' : Mem} {o' : Nat → Int64} {res : UInt64} (hM : MD l y b n r fr lo G (.ref (adr G k) :: As) M M' o o' res mc ms) (mf : MFV C y b n r na) (hlink : Cond.methodLink own idx y ∈ UU) (hk : k < 67) (hct : ct G M o k = .inr (ci, fs)) (hc : vwCl[ci]? = some (C, T, N)) (hls : ls.size = nL) (hR : fr + 1 ≤ R.frames ∧ 8 + (n + 11) + lo ≤ R.locals) (hroom : cells + mc ≤ R.cells ∧ slots + ms ≤ R.slots) (hw : (rest.map fun v => v.category).sum ≤ 8) (hna : As.length = na) (hst : st0 = As.reverse ++ .ref (adr G k) :: rest) (dg : decode cc pc = .ok (.invokevirtual idx, 3))
    (kk : ∀ (H1 : Heap) (locs1 : List Loc), PW G M' o' H1 → va_S (pA G sz) s.heap H1 locs1 → W p l e R s m args below meth c H1 locs1 (cells + mc) (slots + ms) Q (F0 m (pc + 3) ls (.double res :: rest))) : W p l e R s m args below meth c H locs cells slots Q (F0 m pc ls (st0)) := by
  refine va_calld (va_runV (As := As) (rest := rest) ⟨C0.1, C0.2.1, C0.2.2.1, C0.ow, C0.ts⟩ (hM H.size) (cwV na C0.ts (wsV_in mf hlink) rfl rfl rfl mf.2 hR) ⟨PCW_blind, w_recv C0 hP hk hct hc, fun U hU hW => ⟨rfl, C0.ev.call hS hU hW, by rw [hU]; exact hP⟩⟩ rfl hna hls hst (lv_room hw) dg hroom) hS (fun q _ h => C0.mono hS q h) (C0.mono hS) (fun r1 u t H1 locs1 ht hvm hw1 hB hz1 hk1 hS1 => ?_)
  rw [ht] at hB
  subst hw1
  exact kk H1 locs1 hB hS1
/-- 'throw new E()' -/
def NG : List Cond := nestD.map (fun x => Cond.declares x) ++ nestC.map (fun E => Cond.castable E E)
theorem NG_ok (h : NX s) : ∀ w ∈ NG, w.before args s = true := by
  intro w hw
  rcases List.mem_append.mp hw with hw | hw
  · obtain ⟨x, hx, rfl⟩ := List.mem_map.mp hw
    exact va_Nw.use rfl (h.2.2.1 x hx)
  · obtain ⟨x, hx, rfl⟩ := List.mem_map.mp hw
    exact va_Nw.use rfl (h.2.2.2.1 x hx)
theorem PW_kept {H1 : Heap} (hP : PW G M o H) (hq : ∀ q : Nat, q < H.size → H1[q]? = H[q]?) : PW G M o H1 := va_P.kept hP (fun k q hk => hq q.1 (va_at.lt (hP k q hk)))
theorem w_throw {below : List Frame} {mc ms ik ic : Nat} {cls : String} {names : List String} {av : List Value} (C0 : CX p s m av.toArray meth c cc own nL G sz) (hst : l.stackTraces = false) (hx0 : ∀ x ∈ c.exceptionTable.toList, False) (hP : PW G M o H) (hS : va_S (pA G sz) s.heap H locs)
    (hcls : Bundle.fit cls = true) (hnames : ∀ n ∈ names, Bundle.fit n = true) (hk : Cond.classLink own ik cls ∈ UU) (hini : Cond.initialized cls ∈ UU)
    (h1 : ∀ w ∈ (vx_at0 own ic cls names).filter goodWord, w ∈ lw_tbl) (h2 : ∀ w ∈ (vx_at0 own ic cls names).filter (fun w => !goodWord w), w ∈ NG)
    (hgood : ∀ w ∈ Cond.classLink own ik cls :: Cond.initialized cls :: vx_at0 own ic cls names, vx_ot w = true)
    (hls : ls.size = nL) (d0 : decode cc pc = .ok (.new ik, 3)) (d3 : decode cc (pc + 3) = .ok (.dup, 1)) (d4 : decode cc (pc + 4) = .ok (.invokespecial ic, 3)) (d7 : decode cc (pc + 7) = .ok (.athrow, 1))
    (hR : names.length + 3 < R.frames ∧ (rest.map fun v => v.category).sum + (13 * (names.length + 1) + 42) ≤ R.locals ∧ cells + 1 ≤ R.cells ∧ slots + 6 ≤ R.slots) (hw : cells + 1 ≤ mc ∧ slots + 6 ≤ ms) :
    W p l e R s m av.toArray below meth c H locs cells slots (vx_MQ below QN (QX G M o cls sz) av.toArray s mc ms (pA G sz)) (F0 m pc ls rest) := by
  refine vx_throw0 C0.1 C0.2.1 hst C0.ow hcls hnames (C0.ts _ hk) (C0.ts _ hini) (vx_hat (B := NG) (fun w hw => C0.ts w (List.mem_filter.mpr ⟨h1 w hw, (List.mem_filter.mp hw).2⟩)) h2 (NG_ok C0.nx)) hgood (A := pA G sz) C0.ev.2.2.2.2.1 C0.ev.2.2.2.2.2 hS (hls.trans C0.2.2.1.symm) d0 d3 d4 d7 (fun x hx => (hx0 x hx).elim) hR.1 hR.2.1 hR.2.2.1 hR.2.2.2 C0.lk ?_ hS.2.2 hw.1 hw.2
  intro t hvm hz hq
  refine ⟨(), trivial, ⟨rfl, PW_kept hP hq⟩, Nat.le_trans hS.1 hz, fun q h1 h2 => ?_⟩
  rw [hq q (Nat.lt_of_lt_of_le h1 hS.1)]
  exact hS.2.1 q h1 h2
/-- a callee that throws -/
theorem k_thr {rest st0 : List Value} {a : Array Value} {mc ms sz1 : Nat} {free : Addr → Prop} {M' : Mem} {o' : Nat → Int64} {E : String} (hr : vx_Run p l e R s m args below meth c H locs cells slots mc ms (F0 m pc ls st0) rest (QN a) (QX G M' o' E sz1) free) (hS : va_S (pA G sz) s.heap H locs) (hAX : ∀ q, pA G sz1 q → pA G sz q) (hf : ∀ q, free q → pA G sz q)
    (kx : ∀ (ce : Cell) (q9 : Addr) (H1 : Heap) (locs1 : List Loc), PW G M' o' H1 → va_S (pA G sz) s.heap H1 locs1 → H1[q9]? = some ce → ce.vm = .none → s.vm.findClass E = some ce.cls → vx_W p l e R s m args below meth c H1 locs1 (cells + mc) (slots + ms) Q (F0 m pc ls rest) q9) : W p l e R s m args below meth c H locs cells slots Q (F0 m pc ls st0) := by
  intro T hT X
  rcases hr T hT X with ⟨v, st₀, t, T', L, h0, X', hL, e1, e2, hF, st⟩ | ⟨q, st₀, t, T', L, E9, ce, h0, X', hL, e1, e2, ⟨u, hp, ⟨hE, hB⟩, hF⟩, hce, hcv, hcl, st⟩
  · exact hF.elim
  · subst hE
    obtain ⟨k1, k2, k3⟩ := vx_keep h0 e1 hS (fun q _ h => hAX q h) hf hL hF
    obtain ⟨t2, a1, b1⟩ := kx ce q T'.heap (locs ++ L) (by rw [e1]; exact hB) k3 (by rw [e1]; exact hce) hcv hcl T' rfl X'
    exact ⟨t2, st.trans a1, b1⟩
theorem k_VX (C0 : CX p s m args meth c cc own nL G sz) (hP : PW G M o H) (hS : va_S (pA G sz) s.heap H locs) {k ci na n fr lo mc ms idx : Nat} {C : String} {T : u_T} {N : Nat} {fs As rest st0 : List Value} {y : MethodName} {b : ByteArray} {r : Option FieldType} {M' : Mem} {o' : Nat → Int64} {E : String} (hM : MX l y b n r fr lo G (.ref (adr G k) :: As) M M' o o' E mc ms) (mf : MFV C y b n r na) (hlink : Cond.methodLink own idx y ∈ UU) (hk : k < 67) (hct : ct G M o k = .inr (ci, fs)) (hc : vwCl[ci]? = some (C, T, N)) (hls : ls.size = nL) (hR : fr + 1 ≤ R.frames ∧ 8 + (n + 11) + lo ≤ R.locals) (hroom : cells + mc ≤ R.cells ∧ slots + ms ≤ R.slots) (hw : (rest.map fun v => v.category).sum ≤ 8) (hna : As.length = na) (hst : st0 = As.reverse ++ .ref (adr G k) :: rest) (dg : decode cc pc = .ok (.invokevirtual idx, 3))
    (kx : ∀ (ce : Cell) (q9 : Addr) (H1 : Heap) (locs1 : List Loc), PW G M' o' H1 → va_S (pA G sz) s.heap H1 locs1 → H1[q9]? = some ce → ce.vm = .none → s.vm.findClass E = some ce.cls → vx_W p l e R s m args below meth c H1 locs1 (cells + mc) (slots + ms) Q (F0 m pc ls rest) q9) : W p l e R s m args below meth c H locs cells slots Q (F0 m pc ls (st0)) :=
  k_thr (vx_runV (As := As) (rest := rest) ⟨C0.1, C0.2.1, C0.2.2.1, C0.ow, C0.ts⟩ (hM H.size) (cwV na C0.ts (wsV_in mf hlink) rfl rfl rfl mf.2 hR) ⟨PCW_blind, w_recv C0 hP hk hct hc, fun U hU hW => ⟨rfl, C0.ev.call hS hU hW, by rw [hU]; exact hP⟩⟩ rfl hna hls hst (lv_room hw) dg hroom) hS (C0.mono hS) (C0.mono hS) kx
theorem k_SX (C0 : CX p s m args meth c cc own nL G sz) (hP : PW G M o H) (hS : va_S (pA G sz) s.heap H locs) {na n fr lo mc ms idx : Nat} {As rest st0 : List Value} {y : MethodName} {b : ByteArray} {r : Option FieldType} {M' : Mem} {o' : Nat → Int64} {E : String} (hM : MX l y b n r fr lo G As M M' o o' E mc ms) (mf : MFS y b n r na) (hy : y.cls = own) (hlink : Cond.methodLink own idx y ∈ UU) (hls : ls.size = nL) (hR : fr + 1 ≤ R.frames ∧ 8 + (n + 11) + lo ≤ R.locals) (hroom : cells + mc ≤ R.cells ∧ slots + ms ≤ R.slots) (hw : (rest.map fun v => v.category).sum ≤ 8) (hna : As.length = na) (hst : st0 = As.reverse ++ rest) (dg : decode cc pc = .ok (.invokestatic idx, 3))
    (kx : ∀ (ce : Cell) (q9 : Addr) (H1 : Heap) (locs1 : List Loc), PW G M' o' H1 → va_S (pA G sz) s.heap H1 locs1 → H1[q9]? = some ce → ce.vm = .none → s.vm.findClass E = some ce.cls → vx_W p l e R s m args below meth c H1 locs1 (cells + mc) (slots + ms) Q (F0 m pc ls rest) q9) : W p l e R s m args below meth c H locs cells slots Q (F0 m pc ls (st0)) :=
  k_thr (vx_runS (As := As) (rest := rest) ⟨C0.1, C0.2.1, C0.2.2.1, C0.ow, C0.ts⟩ (hM H.size) ⟨callB_of na C0.ts (wsU_in mf.1.1) rfl rfl rfl (C0.ts _ mf.1.2.2) (C0.ts _ hlink) mf.2 hR, C0.ts _ mf.1.2.1⟩ ⟨PCW_blind, fun U hU hW => ⟨rfl, C0.ev.call hS hU hW, by rw [hU]; exact hP⟩⟩ rfl hna hls hst (lv_room hw) dg hroom) hS (C0.mono hS) (C0.mono hS) kx
/-- it goes on to the caller -/
theorem e_X {below : List Frame} {mc ms : Nat} {M' : Mem} {o' : Nat → Int64} {E : String} {ce : Cell} {q9 : Addr} {av : List Value} (C0 : CX p s m av.toArray meth c cc own nL G sz) (hx0 : ∀ x ∈ c.exceptionTable.toList, False) (hP : PW G M' o' H) (hS : va_S (pA G sz) s.heap H locs) (hce : H[q9]? = some ce) (hcv : ce.vm = .none) (hcl : s.vm.findClass E = some ce.cls) (hw : cells ≤ mc ∧ slots ≤ ms) : vx_W p l e R s m av.toArray below meth c H locs cells slots (vx_MQ below QN (QX G M' o' E sz) av.toArray s mc ms (pA G sz)) (F0 m pc ls rest) q9 :=
  vx_out (fun x hx => (hx0 x hx).elim) C0.lk hce hcv hcl (fun t ht hvm => ⟨(), trivial, ⟨rfl, by rw [ht]; exact hP⟩, hS.F ht⟩) hS.2.2 hw.1 hw.2
theorem th_IAE_k : Cond.classLink RX4 33 "java/lang/IllegalArgumentException" ∈ UU := List.mem_filter.mpr ⟨List.mem_append_right _ (List.mem_append_right _ (List.mem_append_left _ (List.mem_of_getElem? (i := 2) rfl))), rfl⟩
theorem th_IAE_i : Cond.initialized "java/lang/IllegalArgumentException" ∈ UU := List.mem_filter.mpr ⟨List.mem_append_right _ (List.mem_append_left _ (List.mem_of_getElem? (i := 11) rfl)), rfl⟩
theorem th_IAE_2 : ∀ w ∈ (vx_at0 RX4 35 "java/lang/IllegalArgumentException" ["java/lang/RuntimeException", "java/lang/Exception"]).filter (fun w => !goodWord w), w ∈ NG := by decide +kernel
theorem th_IAE_g : ∀ w ∈ Cond.classLink RX4 33 "java/lang/IllegalArgumentException" :: Cond.initialized "java/lang/IllegalArgumentException" :: vx_at0 RX4 35 "java/lang/IllegalArgumentException" ["java/lang/RuntimeException", "java/lang/Exception"], vx_ot w = true := by decide +kernel
theorem th_IAE {below : List Frame} {mc ms : Nat} {av : List Value} (C0 : CX p s m av.toArray meth c cc RX4 nL G sz) (hst : l.stackTraces = false) (hx0 : ∀ x ∈ c.exceptionTable.toList, False) (hP : PW G M o H) (hS : va_S (pA G sz) s.heap H locs) (hls : ls.size = nL) (d0 : decode cc pc = .ok (.new 33, 3)) (d3 : decode cc (pc + 3) = .ok (.dup, 1)) (d4 : decode cc (pc + 4) = .ok (.invokespecial 35, 3)) (d7 : decode cc (pc + 7) = .ok (.athrow, 1))
    (hR : 5 < R.frames ∧ (rest.map fun v => v.category).sum + 81 ≤ R.locals ∧ cells + 1 ≤ R.cells ∧ slots + 6 ≤ R.slots) (hw : cells + 1 ≤ mc ∧ slots + 6 ≤ ms) :
    W p l e R s m av.toArray below meth c H locs cells slots (vx_MQ below QN (QX G M o "java/lang/IllegalArgumentException" sz) av.toArray s mc ms (pA G sz)) (F0 m pc ls rest) :=
  w_throw (names := ["java/lang/RuntimeException", "java/lang/Exception"]) C0 hst hx0 hP hS (by decide +kernel) (by decide +kernel) th_IAE_k th_IAE_i wsL_law_x0 th_IAE_2 th_IAE_g hls d0 d3 d4 d7 hR hw
theorem th_ISE_k : Cond.classLink RX4 40 "java/lang/IllegalStateException" ∈ UU := List.mem_filter.mpr ⟨List.mem_append_right _ (List.mem_append_right _ (List.mem_append_left _ (List.mem_of_getElem? (i := 65) rfl))), rfl⟩
theorem th_ISE_i : Cond.initialized "java/lang/IllegalStateException" ∈ UU := List.mem_filter.mpr ⟨List.mem_append_right _ (List.mem_append_left _ (List.mem_of_getElem? (i := 12) rfl)), rfl⟩
theorem th_ISE_2 : ∀ w ∈ (vx_at0 RX4 42 "java/lang/IllegalStateException" ["java/lang/RuntimeException", "java/lang/Exception"]).filter (fun w => !goodWord w), w ∈ NG := by decide +kernel
theorem th_ISE_g : ∀ w ∈ Cond.classLink RX4 40 "java/lang/IllegalStateException" :: Cond.initialized "java/lang/IllegalStateException" :: vx_at0 RX4 42 "java/lang/IllegalStateException" ["java/lang/RuntimeException", "java/lang/Exception"], vx_ot w = true := by decide +kernel
theorem th_ISE {below : List Frame} {mc ms : Nat} {av : List Value} (C0 : CX p s m av.toArray meth c cc RX4 nL G sz) (hst : l.stackTraces = false) (hx0 : ∀ x ∈ c.exceptionTable.toList, False) (hP : PW G M o H) (hS : va_S (pA G sz) s.heap H locs) (hls : ls.size = nL) (d0 : decode cc pc = .ok (.new 40, 3)) (d3 : decode cc (pc + 3) = .ok (.dup, 1)) (d4 : decode cc (pc + 4) = .ok (.invokespecial 42, 3)) (d7 : decode cc (pc + 7) = .ok (.athrow, 1))
    (hR : 5 < R.frames ∧ (rest.map fun v => v.category).sum + 81 ≤ R.locals ∧ cells + 1 ≤ R.cells ∧ slots + 6 ≤ R.slots) (hw : cells + 1 ≤ mc ∧ slots + 6 ≤ ms) :
    W p l e R s m av.toArray below meth c H locs cells slots (vx_MQ below QN (QX G M o "java/lang/IllegalStateException" sz) av.toArray s mc ms (pA G sz)) (F0 m pc ls rest) :=
  w_throw (names := ["java/lang/RuntimeException", "java/lang/Exception"]) C0 hst hx0 hP hS (by decide +kernel) (by decide +kernel) th_ISE_k th_ISE_i wsL_law_x1 th_ISE_2 th_ISE_g hls d0 d3 d4 d7 hR hw
theorem th_IOE_k : Cond.classLink RX4 53 "java/lang/IndexOutOfBoundsException" ∈ UU := List.mem_filter.mpr ⟨List.mem_append_right _ (List.mem_append_right _ (List.mem_append_left _ (List.mem_of_getElem? (i := 92) rfl))), rfl⟩
theorem th_IOE_i : Cond.initialized "java/lang/IndexOutOfBoundsException" ∈ UU := List.mem_filter.mpr ⟨List.mem_append_right _ (List.mem_append_left _ (List.mem_of_getElem? (i := 13) rfl)), rfl⟩
theorem th_IOE_2 : ∀ w ∈ (vx_at0 RX4 55 "java/lang/IndexOutOfBoundsException" ["java/lang/RuntimeException", "java/lang/Exception"]).filter (fun w => !goodWord w), w ∈ NG := by decide +kernel
theorem th_IOE_g : ∀ w ∈ Cond.classLink RX4 53 "java/lang/IndexOutOfBoundsException" :: Cond.initialized "java/lang/IndexOutOfBoundsException" :: vx_at0 RX4 55 "java/lang/IndexOutOfBoundsException" ["java/lang/RuntimeException", "java/lang/Exception"], vx_ot w = true := by decide +kernel
theorem th_IOE {below : List Frame} {mc ms : Nat} {av : List Value} (C0 : CX p s m av.toArray meth c cc RX4 nL G sz) (hst : l.stackTraces = false) (hx0 : ∀ x ∈ c.exceptionTable.toList, False) (hP : PW G M o H) (hS : va_S (pA G sz) s.heap H locs) (hls : ls.size = nL) (d0 : decode cc pc = .ok (.new 53, 3)) (d3 : decode cc (pc + 3) = .ok (.dup, 1)) (d4 : decode cc (pc + 4) = .ok (.invokespecial 55, 3)) (d7 : decode cc (pc + 7) = .ok (.athrow, 1))
    (hR : 5 < R.frames ∧ (rest.map fun v => v.category).sum + 81 ≤ R.locals ∧ cells + 1 ≤ R.cells ∧ slots + 6 ≤ R.slots) (hw : cells + 1 ≤ mc ∧ slots + 6 ≤ ms) :
    W p l e R s m av.toArray below meth c H locs cells slots (vx_MQ below QN (QX G M o "java/lang/IndexOutOfBoundsException" sz) av.toArray s mc ms (pA G sz)) (F0 m pc ls rest) :=
  w_throw (names := ["java/lang/RuntimeException", "java/lang/Exception"]) C0 hst hx0 hP hS (by decide +kernel) (by decide +kernel) th_IOE_k th_IOE_i wsL_law_x2 th_IOE_2 th_IOE_g hls d0 d3 d4 d7 hR hw
/-- a whole number over one that isn't 0 is a number -/
theorem dv_num {x y : Int32} (hy : y ≠ 0) : vf_n64 (FP.ddiv (FP.i2d x) (FP.i2d y)) := by
  have hb := Jvm.FP.Core.i2d_fin y
  have hz : ¬ Jvm.FP.Core.DZero (Jvm.FP.Core.i2d y) := by
    rw [Jvm.FP.Core.zero_bits2]
    exact Jvm.FP.Core.i2d_ne_zero hy
  have ha : Jvm.FP.Core.dIsNaN (Jvm.FP.Core.i2d x) = false := (Jvm.FP.Core.notNaN_iff _).mpr (Jvm.FP.Core.i2d_fin x).ne_nan
  have h := Jvm.FP.Core.ddiv_out ha hb hz
  have h2 : ¬ 9218868437227405312 < (FP.ddiv (FP.i2d x) (FP.i2d y)).toNat % 2 ^ 63 := by
    intro z
    have := (Jvm.FP.Core.isNaN_bits (FP.ddiv (FP.i2d x) (FP.i2d y))).mpr z
    have e : Jvm.FP.Core.dIsNaN (FP.ddiv (FP.i2d x) (FP.i2d y)) = false := h
    rw [e] at this
    cases this
  unfold vf_n64
  rw [UInt64.le_iff_toNat_le, UInt64.toNat_and]
  have e1 : (9223372036854775807 : UInt64).toNat = 2 ^ 63 - 1 := by decide
  have e2 : (9218868437227405312 : UInt64).toNat = 9218868437227405312 := by decide
  rw [show (0x7fffffffffffffff : UInt64).toNat = 2 ^ 63 - 1 from by decide, Nat.and_two_pow_sub_one_eq_mod, show (0x7ff0000000000000 : UInt64).toNat = 9218868437227405312 from by decide]
  omega
end MOR
end
section
section FUN

/-! what the methods answer, as plain functions; the class's and the reference's alike -/
def gn (x : Int32) : Int32 := if x = -1 then 1 else 0
def ab (x : Int32) : Int32 := if 0 ≤ x then x else 0 - x
def mn (x y : Int32) : Int32 := if y < x then y else x
def mx (x y : Int32) : Int32 := if x < y then y else x
def stp (v : Int32) : Int32 := if v < 0 then 0 else if 60 ≤ v then 0 else 1
def wk (x y : Int32) : Int32 := if gn x = 0 then (if stp (x + y) = 0 then -1 else x + y) else x
def shF (x rs dp : Int32) : Int32 := if gn x = 0 then (if 4 * dp < ab (x - rs) then 0 else 1) else 0
def brF (li br ho dp pa : Int32) : Int32 := li * br * ho * ho / (10 * dp * dp) * (10 - pa) / 10
def wlF (x rs dp ho ta li br pa : Int32) : Int32 := if shF x rs dp = 0 then 0 else if ta < ho * dp / 3 then 0 else if brF li br ho dp pa < 5 then 0 else 1
def paF (sh pe : Int32) : Int32 := if sh = 0 then 0 else pe * mn sh 2
def ppF (sh pe se : Int32) : Int32 := if sh = 0 then mx (pe - 1) 0 else if sh < 2 then pe else if se ≤ pe then pe else pe + 1
def cntF (P : Nat → Int32) : Nat → Int32
  | 0 => 0
  | n + 1 => if P n = 0 then cntF P n else cntF P n + 1
def sumF (P : Nat → Int32) : Nat → Int32
  | 0 => 0
  | n + 1 => sumF P n + P n
def setF (P : Nat → Int32) : Nat → Int32
  | 0 => 0
  | n + 1 => if P n = 0 then setF P n else setF P n ||| (1 <<< (nI n &&& 31))
def anyF (P : Nat → Int32) : Nat → Int32
  | 0 => 0
  | n + 1 => if P n = 0 then anyF P n else 1
theorem cntF_congr {P Q : Nat → Int32} : ∀ {n : Nat}, (∀ i, i < n → P i = Q i) → cntF P n = cntF Q n
  | 0, _ => rfl
  | n + 1, h => by
    unfold cntF
    rw [h n (Nat.lt_succ_self n), cntF_congr (fun i hi => h i (Nat.lt_succ_of_lt hi))]
theorem sumF_congr {P Q : Nat → Int32} : ∀ {n : Nat}, (∀ i, i < n → P i = Q i) → sumF P n = sumF Q n
  | 0, _ => rfl
  | n + 1, h => by
    unfold sumF
    rw [h n (Nat.lt_succ_self n), sumF_congr (fun i hi => h i (Nat.lt_succ_of_lt hi))]
theorem setF_congr {P Q : Nat → Int32} : ∀ {n : Nat}, (∀ i, i < n → P i = Q i) → setF P n = setF Q n
  | 0, _ => rfl
  | n + 1, h => by
    unfold setF
    rw [h n (Nat.lt_succ_self n), setF_congr (fun i hi => h i (Nat.lt_succ_of_lt hi))]
theorem anyF_hit {P : Nat → Int32} {i : Nat} (hp : ¬ P i = 0) : ∀ {n : Nat}, i < n → anyF P n = 1
  | 0, h => absurd h (Nat.not_lt_zero i)
  | n + 1, h => by
    unfold anyF
    by_cases hn : P n = 0
    · rw [if_pos hn]
      have : i ≠ n := fun z => hp (z ▸ hn)
      exact anyF_hit hp (by omega)
    · rw [if_neg hn]
theorem anyF_no {P : Nat → Int32} : ∀ {n : Nat}, (∀ i, i < n → P i = 0) → anyF P n = 0
  | 0, _ => rfl
  | n + 1, h => by
    unfold anyF
    rw [if_pos (h n (Nat.lt_succ_self n))]
    exact anyF_no (fun i hi => h i (Nat.lt_succ_of_lt hi))
theorem gn01 (x : Int32) : gn x = 0 ∨ gn x = 1 := by unfold gn; split <;> simp
/-- over the memory -/
def wlM (M : Mem) (r q : Nat) (li : Int32) : Int32 := wlF (M q 0) (M r 0) (M r 1) (M r 2) (M q 2) li (M q 3) (M r 3)
def shM (M : Mem) (r q : Nat) : Int32 := shF (M q 0) (M r 0) (M r 1)
def brM (M : Mem) (r q : Nat) (li : Int32) : Int32 := brF li (M q 3) (M r 2) (M r 1) (M r 3)
def siM (M : Mem) (sc r : Nat) (li : Int32) (n : Nat) : Int32 := cntF (fun i => wlM M r (sc + 3 + i) li) n
def rsM (M : Mem) (sc q : Nat) (li : Int32) (n : Nat) : Int32 := cntF (fun i => wlM M (sc + 13 + i) q li) n
def waM (M : Mem) (sc q n : Nat) : Int32 := setF (fun i => shM M (sc + 13 + i) q) n
def asM (M : Mem) (sc : Nat) (li : Int32) (np n : Nat) : Int32 := sumF (fun i => siM M sc (sc + 13 + i) li np) n
def peM (M : Mem) (sc n : Nat) : Int32 := sumF (fun i => M (sc + 13 + i) 5) n
def pnM (M : Mem) (sc n : Nat) : Int32 := sumF (fun i => M (sc + 13 + i) 6) n
def goM (M : Mem) (sc n : Nat) : Int32 := cntF (fun i => gn (M (sc + 3 + i) 0)) n
def atF (x v : Int32) : Int32 := if gn x = 0 then (if x = v then 1 else 0) else 0
def paM (M : Mem) (sc : Nat) (v : Int32) (n : Nat) : Int32 := cntF (fun i => atF (M (sc + 3 + i) 0) v) n
def hhF (x v : Int32) : Int32 := if x = v then 1 else 0
def hhM (M : Mem) (sc : Nat) (v : Int32) (n : Nat) : Int32 := anyF (fun i => hhF (M (sc + 13 + i) 0) v) n
def ltF (L C : Nat → Int32) (k : Nat) : Int32 := if k < 720 then L (k / 60) * (10 - C (k / 60)) / 10 else 0
/-- passers go -/
def pwM (M : Mem) (sc n : Nat) : Mem := fun a b => if (sc + 3 ≤ a ∧ a < sc + 3 + n) ∧ b = 0 then wk (M a 0) (M a 1) else M a b
/-- a room pays -/
def pyM (M : Mem) (r : Nat) (sh : Int32) : Mem := fun a b => if a = r then (if b = 5 then ppF sh (M r 5) (M r 4) else if b = 6 then M r 6 + paF sh (M r 5) else M a b) else M a b
/-- rooms pay -/
def rpM (M : Mem) (sc : Nat) (li : Int32) (np n : Nat) : Mem := fun a b => if sc + 13 ≤ a ∧ a < sc + 13 + n then (if b = 5 then ppF (siM M sc a li np) (M a 5) (M a 4) else if b = 6 then M a 6 + paF (siM M sc a li np) (M a 5) else M a b) else M a b
def rpS (M : Mem) (sc : Nat) (li : Int32) (np n : Nat) : Int32 := sumF (fun i => paF (siM M sc (sc + 13 + i) li np) (M (sc + 13 + i) 5)) n
/-- the trial becomes as now is -/
def cpM (M : Mem) (np nr : Nat) : Mem := fun a b => if a = 25 then (if b < 3 then M 4 b else M a b) else if (28 ≤ a ∧ a < 28 + np) ∧ b < 4 then M (a - 21) b else if (38 ≤ a ∧ a < 38 + nr) ∧ b < 7 then M (a - 21) b else M a b
def cmM (M : Mem) (h : Nat) (a b c d : Int32) : Mem := u2 (u2 (u2 (u2 M h 0 a) h 1 b) h 2 c) h 3 d
def bdM (M : Mem) (h : Nat) (a b c : Int32) : Mem := u2 (u2 (u2 (u2 M h 0 a) h 1 b) h 4 c) h 2 3
/-- cells' kinds -/
theorem kdS {sc : Nat} (h : sc = 4 ∨ sc = 25) : kd sc = 2 := by rcases h with rfl | rfl <;> decide
theorem kdS1 {sc : Nat} (h : sc = 4 ∨ sc = 25) : kd (sc + 1) = 8 := by rcases h with rfl | rfl <;> decide
theorem kdS2 {sc : Nat} (h : sc = 4 ∨ sc = 25) : kd (sc + 2) = 9 := by rcases h with rfl | rfl <;> decide
theorem kdSp {sc i : Nat} (h : sc = 4 ∨ sc = 25) (hi : i < 10) : kd (sc + 3 + i) = 0 := by
  rcases h with rfl | rfl
  · exact (by decide : ∀ i, i < 10 → kd (4 + 3 + i) = 0) i hi
  · exact (by decide : ∀ i, i < 10 → kd (25 + 3 + i) = 0) i hi
theorem kdSr {sc i : Nat} (h : sc = 4 ∨ sc = 25) (hi : i < 8) : kd (sc + 13 + i) = 1 := by
  rcases h with rfl | rfl
  · exact (by decide : ∀ i, i < 8 → kd (4 + 13 + i) = 1) i hi
  · exact (by decide : ∀ i, i < 8 → kd (25 + 13 + i) = 1) i hi
theorem kdT {t : Nat} (h : t = 56 ∨ t = 61) : kd t = 5 := by rcases h with rfl | rfl <;> decide
theorem kdT1 {t : Nat} (h : t = 56 ∨ t = 61) : kd (t + 1) = 7 := by rcases h with rfl | rfl <;> decide
theorem kdT2 {t : Nat} (h : t = 56 ∨ t = 61) : kd (t + 2) = 7 := by rcases h with rfl | rfl <;> decide
theorem kdT3 {t : Nat} (h : t = 56 ∨ t = 61) : kd (t + 3) = 7 := by rcases h with rfl | rfl <;> decide
theorem kdT4 {t : Nat} (h : t = 56 ∨ t = 61) : kd (t + 4) = 7 := by rcases h with rfl | rfl <;> decide
theorem lnT1 {t : Nat} (h : t = 56 ∨ t = 61) : ln (t + 1) = 10 := by rcases h with rfl | rfl <;> decide
theorem lnT2 {t : Nat} (h : t = 56 ∨ t = 61) : ln (t + 2) = 8 := by rcases h with rfl | rfl <;> decide
theorem lnT3 {t : Nat} (h : t = 56 ∨ t = 61) : ln (t + 3) = 8 := by rcases h with rfl | rfl <;> decide
theorem lnT4 {t : Nat} (h : t = 56 ∨ t = 61) : ln (t + 4) = 8 := by rcases h with rfl | rfl <;> decide
/-- a loop's guard -/
theorem lp_ge {i n : Nat} (h : nI n ≤ nI i) (hn : n < 64) (hi : i ≤ n) : i = n := by
  have := (nI_leI (by omega) (by omega)).mp h
  omega
theorem lp_lt {i n : Nat} (h : ¬ nI n ≤ nI i) (hn : n < 64) (hi : i ≤ n) : i < n := by
  rcases Nat.lt_or_ge i n with q | q
  · exact q
  · exact absurd (nI_le q (by omega)) h
/-- how the writes come together -/
theorem pwM_0 {M : Mem} {sc : Nat} : pwM M sc 0 = M := by
  funext a b
  unfold pwM
  rw [if_neg (by omega)]
theorem pwM_s {M : Mem} {sc i : Nat} : u2 (pwM M sc i) (sc + 3 + i) 0 (wk (pwM M sc i (sc + 3 + i) 0) (pwM M sc i (sc + 3 + i) 1)) = pwM M sc (i + 1) := by
  funext a b
  unfold u2
  by_cases h : a = sc + 3 + i ∧ b = 0
  · obtain ⟨rfl, rfl⟩ := h
    rw [if_pos ⟨rfl, rfl⟩]
    unfold pwM
    rw [if_neg (by omega), if_neg (by omega), if_pos (by omega)]
  · rw [if_neg h]
    unfold pwM
    by_cases h2 : (sc + 3 ≤ a ∧ a < sc + 3 + i) ∧ b = 0
    · rw [if_pos h2, if_pos (by omega)]
    · rw [if_neg h2, if_neg (by omega)]
theorem pwM_sl {M : Mem} {sc n j : Nat} {a : Nat} (h : a < sc + 3 ∨ sc + 3 + n ≤ a) : pwM M sc n a j = M a j := by
  unfold pwM
  rw [if_neg (by omega)]
end FUN
section MTH
variable {p : Program} {l : Launch} {e : Env} {R : Room} {s : State} {m : MethodId} {args : Array Value} {below : List Frame} {meth : Method} {c : Code} {H : Heap} {locs : List Loc} {cells slots : Nat} {Q : State → Prop} {cc : ByteArray} {pc : Nat} {ls : Array Slot} {rest : List Value} {own : String} {nL : Nat} {G : GG} {sz : Nat} {M : Mem} {o : Nat → Int64}
theorem mt_abs : Cond.static Lib.Math.abs.name ∈ UU ∧ Cond.initialized "java/lang/Math" ∈ UU ∧ Cond.code Lib.Math.abs.name Lib.Math.abs.code 1 (some .int) ∈ UU := ⟨List.mem_filter.mpr ⟨List.mem_append_right _ (List.mem_append_left _ (List.mem_of_getElem? (i := 200) rfl)), rfl⟩, List.mem_filter.mpr ⟨List.mem_append_right _ (List.mem_append_left _ (List.mem_of_getElem? (i := 14) rfl)), rfl⟩, List.mem_filter.mpr ⟨List.mem_append_right _ (List.mem_append_left _ (List.mem_of_getElem? (i := 201) rfl)), rfl⟩⟩
theorem mt_min : Cond.static Lib.Math.min.name ∈ UU ∧ Cond.initialized "java/lang/Math" ∈ UU ∧ Cond.code Lib.Math.min.name Lib.Math.min.code 2 (some .int) ∈ UU := ⟨List.mem_filter.mpr ⟨List.mem_append_right _ (List.mem_append_right _ (List.mem_append_left _ (List.mem_of_getElem? (i := 214) rfl))), rfl⟩, List.mem_filter.mpr ⟨List.mem_append_right _ (List.mem_append_left _ (List.mem_of_getElem? (i := 14) rfl)), rfl⟩, List.mem_filter.mpr ⟨List.mem_append_right _ (List.mem_append_right _ (List.mem_append_left _ (List.mem_of_getElem? (i := 215) rfl))), rfl⟩⟩
theorem mt_max : Cond.static Lib.Math.max.name ∈ UU ∧ Cond.initialized "java/lang/Math" ∈ UU ∧ Cond.code Lib.Math.max.name Lib.Math.max.code 2 (some .int) ∈ UU := ⟨List.mem_filter.mpr ⟨List.mem_append_right _ (List.mem_append_right _ (List.mem_append_left _ (List.mem_of_getElem? (i := 235) rfl))), rfl⟩, List.mem_filter.mpr ⟨List.mem_append_right _ (List.mem_append_left _ (List.mem_of_getElem? (i := 14) rfl)), rfl⟩, List.mem_filter.mpr ⟨List.mem_append_right _ (List.mem_append_right _ (List.mem_append_left _ (List.mem_of_getElem? (i := 236) rfl))), rfl⟩⟩
theorem ml_X1_44 : Cond.methodLink RX1 44 Lib.Math.abs.name ∈ UU := List.mem_filter.mpr ⟨List.mem_append_right _ (List.mem_append_left _ (List.mem_of_getElem? (i := 199) rfl)), rfl⟩
theorem ml_X1_68 : Cond.methodLink RX1 68 Lib.Math.max.name ∈ UU := List.mem_filter.mpr ⟨List.mem_append_right _ (List.mem_append_right _ (List.mem_append_left _ (List.mem_of_getElem? (i := 234) rfl))), rfl⟩
theorem ml_X1_72 : Cond.methodLink RX1 72 Lib.Math.min.name ∈ UU := List.mem_filter.mpr ⟨List.mem_append_right _ (List.mem_append_right _ (List.mem_append_left _ (List.mem_of_getElem? (i := 237) rfl))), rfl⟩
theorem ml_X4_213 : Cond.methodLink RX4 213 Lib.Math.min.name ∈ UU := List.mem_filter.mpr ⟨List.mem_append_right _ (List.mem_append_right _ (List.mem_append_left _ (List.mem_of_getElem? (i := 213) rfl))), rfl⟩
theorem ml_X5_51 : Cond.methodLink RX5 51 Lib.Math.abs.name ∈ UU := List.mem_filter.mpr ⟨List.mem_append_right _ (List.mem_append_right _ (List.mem_append_right _ (List.mem_append_left _ (List.mem_of_getElem? (i := 201) rfl)))), rfl⟩
theorem ml_X5_100 : Cond.methodLink RX5 100 Lib.Math.max.name ∈ UU := List.mem_filter.mpr ⟨List.mem_append_right _ (List.mem_append_right _ (List.mem_append_right _ (List.mem_append_right _ (List.mem_of_getElem? (i := 28) rfl)))), rfl⟩
theorem ml_X5_103 : Cond.methodLink RX5 103 Lib.Math.min.name ∈ UU := List.mem_filter.mpr ⟨List.mem_append_right _ (List.mem_append_right _ (List.mem_append_right _ (List.mem_append_right _ (List.mem_of_getElem? (i := 29) rfl)))), rfl⟩
theorem m_abs (C0 : CX p s m args meth c cc own nL G sz) {idx : Nat} (hlink : Cond.methodLink own idx Lib.Math.abs.name ∈ UU) (hls : ls.size = nL) (hR : (rest.map fun v => v.category).sum ≤ 8 ∧ 1 ≤ R.frames ∧ 21 ≤ R.locals) (hroom : cells ≤ R.cells ∧ slots ≤ R.slots) {x : Int32} (dg : decode cc pc = .ok (.invokestatic idx, 3))
    (kk : W p l e R s m args below meth c H locs cells slots Q (F0 m (pc + 3) ls (.int (ab x) :: rest))) : W p l e R s m args below meth c H locs cells slots Q (F0 m pc ls (.int x :: rest)) :=
  va_mabs C0.1 C0.2.1 (by rw [C0.2.2.1, hls]) C0.ow (C0.ts _ hlink) (C0.ts _ mt_abs.1) (C0.ts _ mt_abs.2.1) (C0.ts _ mt_abs.2.2) hR.2.1 (by omega) hroom.1 hroom.2 dg kk
theorem m_min (C0 : CX p s m args meth c cc own nL G sz) {idx : Nat} (hlink : Cond.methodLink own idx Lib.Math.min.name ∈ UU) (hls : ls.size = nL) (hR : (rest.map fun v => v.category).sum ≤ 8 ∧ 1 ≤ R.frames ∧ 21 ≤ R.locals) (hroom : cells ≤ R.cells ∧ slots ≤ R.slots) {x y : Int32} (dg : decode cc pc = .ok (.invokestatic idx, 3))
    (kk : W p l e R s m args below meth c H locs cells slots Q (F0 m (pc + 3) ls (.int (mn x y) :: rest))) : W p l e R s m args below meth c H locs cells slots Q (F0 m pc ls (.int y :: .int x :: rest)) :=
  va_mmin C0.1 C0.2.1 (by rw [C0.2.2.1, hls]) C0.ow (C0.ts _ hlink) (C0.ts _ mt_min.1) (C0.ts _ mt_min.2.1) (C0.ts _ mt_min.2.2) hR.2.1 (by omega) hroom.1 hroom.2 dg kk
theorem m_max (C0 : CX p s m args meth c cc own nL G sz) {idx : Nat} (hlink : Cond.methodLink own idx Lib.Math.max.name ∈ UU) (hls : ls.size = nL) (hR : (rest.map fun v => v.category).sum ≤ 8 ∧ 1 ≤ R.frames ∧ 21 ≤ R.locals) (hroom : cells ≤ R.cells ∧ slots ≤ R.slots) {x y : Int32} (dg : decode cc pc = .ok (.invokestatic idx, 3))
    (kk : W p l e R s m args below meth c H locs cells slots Q (F0 m (pc + 3) ls (.int (mx x y) :: rest))) : W p l e R s m args below meth c H locs cells slots Q (F0 m pc ls (.int y :: .int x :: rest)) :=
  va_mmax C0.1 C0.2.1 (by rw [C0.2.2.1, hls]) C0.ow (C0.ts _ hlink) (C0.ts _ mt_max.1) (C0.ts _ mt_max.2.1) (C0.ts _ mt_max.2.2) hR.2.1 (by omega) hroom.1 hroom.2 dg kk
end MTH
end
section
section CLA
theorem crM {M : Mem} {r q : Nat} (h : q ≠ r) : u2 (u2 (u2 (u2 (bdM M r (M q 0) (M q 1) (M q 4)) r 2 (bdM M r (M q 0) (M q 1) (M q 4) q 2)) r 3 (u2 (bdM M r (M q 0) (M q 1) (M q 4)) r 2 (bdM M r (M q 0) (M q 1) (M q 4) q 2) q 3)) r 5 (u2 (u2 (bdM M r (M q 0) (M q 1) (M q 4)) r 2 (bdM M r (M q 0) (M q 1) (M q 4) q 2)) r 3 (u2 (bdM M r (M q 0) (M q 1) (M q 4)) r 2 (bdM M r (M q 0) (M q 1) (M q 4) q 2) q 3) q 5)) r 6 (u2 (u2 (u2 (bdM M r (M q 0) (M q 1) (M q 4)) r 2 (bdM M r (M q 0) (M q 1) (M q 4) q 2)) r 3 (u2 (bdM M r (M q 0) (M q 1) (M q 4)) r 2 (bdM M r (M q 0) (M q 1) (M q 4) q 2) q 3)) r 5 (u2 (u2 (bdM M r (M q 0) (M q 1) (M q 4)) r 2 (bdM M r (M q 0) (M q 1) (M q 4) q 2)) r 3 (u2 (bdM M r (M q 0) (M q 1) (M q 4)) r 2 (bdM M r (M q 0) (M q 1) (M q 4) q 2) q 3) q 5) q 6) = (fun a b => if a = r ∧ b < 7 then M q b else M a b) := by
  funext a b
  by_cases h1 : a = r
  · subst h1
    by_cases hb : b < 7
    · rcases (show b = 0 ∨ b = 1 ∨ b = 2 ∨ b = 3 ∨ b = 4 ∨ b = 5 ∨ b = 6 by omega) with rfl | rfl | rfl | rfl | rfl | rfl | rfl <;> simp [bdM, u2, h]
    · simp [bdM, u2, hb, show b ≠ 0 by omega, show b ≠ 1 by omega, show b ≠ 2 by omega, show b ≠ 3 by omega, show b ≠ 4 by omega, show b ≠ 5 by omega, show b ≠ 6 by omega]
  · simp [bdM, u2, h1]
set_option maxHeartbeats 4000000 in
set_option maxRecDepth 100000 in
theorem c_X0_come (l : Launch) (G : GG) (M : Mem) (o : Nat → Int64) (h : Nat) (hh : kd h = 0) (a1 a2 a3 a4 : Int32) : MV l yX0_come cX0_come 5 none 0 0 G [.ref (adr G h), .int a1, .int a2, .int a3, .int a4] M (cmM M h a1 a2 a3 a4) o o 0 0 := by
  refine MV_of RX0 rfl (by decide +kernel) (Nat.le_of_ble_eq_true rfl) ?_
  intro p e s m below meth c sz C0 hr hP ls hl
  have hx := C0.1
  have hb := C0.2.1
  have hS : va_S (pA G sz) s.heap s.heap [] := va_S.rf
  have hl : lv_has ls 5 [(0, .ref (adr G h)), (1, .int a1), (2, .int a2), (3, .int a3), (4, .int a4)] := hl
  refine lv_aload_n hx hb dX0_come_0 rfl (lv_at hl 0 rfl) ?_
  refine lv_iload_n hx hb dX0_come_1 rfl (lv_at hl 1 rfl) ?_
  refine pf_X0_9 C0 hP hS (k := h) hh dX0_come_2 (fun H locs hP hS => ?_)
  refine lv_aload_n hx hb dX0_come_5 rfl (lv_at hl 0 rfl) ?_
  refine lv_iload_n hx hb dX0_come_6 rfl (lv_at hl 2 rfl) ?_
  refine pf_X0_15 C0 hP hS (k := h) hh dX0_come_7 (fun H locs hP hS => ?_)
  refine lv_aload_n hx hb dX0_come_10 rfl (lv_at hl 0 rfl) ?_
  refine lv_iload_n hx hb dX0_come_11 rfl (lv_at hl 3 rfl) ?_
  refine pf_X0_18 C0 hP hS (k := h) hh dX0_come_12 (fun H locs hP hS => ?_)
  refine lv_aload_n hx hb dX0_come_15 rfl (lv_at hl 0 rfl) ?_
  refine lv_iload hx hb dX0_come_16 (lv_at hl 4 rfl) ?_
  refine pf_X0_21 C0 hP hS (k := h) hh dX0_come_18 (fun H locs hP hS => ?_)
  exact e_V C0 hr hP hS (by decide) dX0_come_21

set_option maxHeartbeats 4000000 in
set_option maxRecDepth 100000 in
theorem c_X0_copyFrom (l : Launch) (G : GG) (M : Mem) (o : Nat → Int64) (h q : Nat) (hh : kd h = 0) (hq : kd q = 0) : MV l yX0_copyFrom cX0_copyFrom 2 none 1 24 G [.ref (adr G h), .ref (adr G q)] M (cmM M h (M q 0) (M q 1) (M q 2) (M q 3)) o o 0 0 := by
  refine MV_of RX0 rfl (by decide +kernel) (Nat.le_of_ble_eq_true rfl) ?_
  intro p e s m below meth c sz C0 hr hP ls hl
  have hx := C0.1
  have hb := C0.2.1
  have hS : va_S (pA G sz) s.heap s.heap [] := va_S.rf
  have hl : lv_has ls 2 [(0, .ref (adr G h)), (1, .ref (adr G q))] := hl
  refine lv_aload_n hx hb dX0_copyFrom_0 rfl (lv_at hl 0 rfl) ?_
  refine lv_aload_n hx hb dX0_copyFrom_1 rfl (lv_at hl 1 rfl) ?_
  refine gf_X0_9 C0 hP (k := q) hq dX0_copyFrom_2 ?_
  refine lv_aload_n hx hb dX0_copyFrom_5 rfl (lv_at hl 1 rfl) ?_
  refine gf_X0_15 C0 hP (k := q) hq dX0_copyFrom_6 ?_
  refine lv_aload_n hx hb dX0_copyFrom_9 rfl (lv_at hl 1 rfl) ?_
  refine gf_X0_18 C0 hP (k := q) hq dX0_copyFrom_10 ?_
  refine lv_aload_n hx hb dX0_copyFrom_13 rfl (lv_at hl 1 rfl) ?_
  refine gf_X0_21 C0 hP (k := q) hq dX0_copyFrom_14 ?_
  refine k_VV C0 hP hS (rest := []) (c_X0_come l G M o h hh (M q 0) (M q 1) (M q 2) (M q 3)) mf_X0_come ml_X0_24 (kd_lt hh (by decide)) (ct_0 hh) rfl hl.1 (by decide) (by decide) (Nat.le_of_ble_eq_true rfl) rfl rfl dX0_copyFrom_17 (fun H locs hP hS => ?_)
  exact e_V C0 hr hP hS (by decide) dX0_copyFrom_20

set_option maxHeartbeats 4000000 in
set_option maxRecDepth 100000 in
theorem c_X0_isGone (l : Launch) (G : GG) (M : Mem) (o : Nat → Int64) (h : Nat) (hh : kd h = 0) : MI l yX0_isGone cX0_isGone 1 (some .boolean) 0 0 G [.ref (adr G h)] M M o o (gn (M h 0)) 0 0 := by
  refine MI_of RX0 rfl (by decide +kernel) (Nat.le_of_ble_eq_true rfl) ?_
  intro p e s m below meth c sz C0 hr hP ls hl
  have hx := C0.1
  have hb := C0.2.1
  have hS : va_S (pA G sz) s.heap s.heap [] := va_S.rf
  have hl : lv_has ls 1 [(0, .ref (adr G h))] := hl
  refine lv_aload_n hx hb dX0_isGone_0 rfl (lv_at hl 0 rfl) ?_
  refine gf_X0_9 C0 hP (k := h) hh dX0_isGone_1 ?_
  refine lv_iconst (v := -1) hx hb dX0_isGone_4 (by decide) ?_
  refine lv_icmp_ne (tgt := 12) hx hb dX0_isGone_5 (by decide) (fun c_1 => ?_) (fun c_1 => ?_)
  · refine lv_iconst (v := 0) hx hb dX0_isGone_12 (by decide) ?_
    exact e_I (ty := .boolean) C0 hr (by decide +kernel) hP hS (by simp [gn, c_1]) (by decide) dX0_isGone_13
  · refine lv_iconst (v := 1) hx hb dX0_isGone_8 (by decide) ?_
    refine lv_goto (tgt := 13) hx hb dX0_isGone_9 (by decide) ?_
    exact e_I (ty := .boolean) C0 hr (by decide +kernel) hP hS (by simp [gn, c_1]) (by decide) dX0_isGone_13

set_option maxHeartbeats 4000000 in
set_option maxRecDepth 100000 in
theorem c_X4_isStep (l : Launch) (G : GG) (M : Mem) (o : Nat → Int64) (v : Int32) : MI l yX4_isStep cX4_isStep 1 (some .boolean) 0 0 G [.int v] M M o o (stp v) 0 0 := by
  refine MI_of RX4 rfl (by decide +kernel) (Nat.le_of_ble_eq_true rfl) ?_
  intro p e s m below meth c sz C0 hr hP ls hl
  have hx := C0.1
  have hb := C0.2.1
  have hS : va_S (pA G sz) s.heap s.heap [] := va_S.rf
  have hl : lv_has ls 1 [(0, .int v)] := hl
  refine lv_iload_n hx hb dX4_isStep_0 rfl (lv_at hl 0 rfl) ?_
  refine lv_if_lt (tgt := 14) hx hb dX4_isStep_1 (by decide) (fun c_1 => ?_) (fun c_1 => ?_)
  · refine lv_iconst (v := 0) hx hb dX4_isStep_14 (by decide) ?_
    exact e_I (ty := .boolean) C0 hr (by decide +kernel) hP hS (by simp [stp, c_1]) (by decide) dX4_isStep_15
  · refine lv_iload_n hx hb dX4_isStep_4 rfl (lv_at hl 0 rfl) ?_
    refine lv_bipush (v := 60) hx hb dX4_isStep_5 (by decide) ?_
    refine lv_icmp_ge (tgt := 14) hx hb dX4_isStep_7 (by decide) (fun c_2 => ?_) (fun c_2 => ?_)
    · refine lv_iconst (v := 0) hx hb dX4_isStep_14 (by decide) ?_
      exact e_I (ty := .boolean) C0 hr (by decide +kernel) hP hS (by simp [stp, c_1, c_2]) (by decide) dX4_isStep_15
    · refine lv_iconst (v := 1) hx hb dX4_isStep_10 (by decide) ?_
      refine lv_goto (tgt := 15) hx hb dX4_isStep_11 (by decide) ?_
      exact e_I (ty := .boolean) C0 hr (by decide +kernel) hP hS (by simp [stp, c_1, c_2]) (by decide) dX4_isStep_15

set_option maxHeartbeats 4000000 in
set_option maxRecDepth 100000 in
theorem c_X0_walk (l : Launch) (G : GG) (M : Mem) (o : Nat → Int64) (h : Nat) (hh : kd h = 0) : MV l yX0_walk cX0_walk 1 none 1 20 G [.ref (adr G h)] M (u2 M h 0 (wk (M h 0) (M h 1))) o o 0 0 := by
  refine MV_of RX0 rfl (by decide +kernel) (Nat.le_of_ble_eq_true rfl) ?_
  intro p e s m below meth c sz C0 hr hP ls hl
  have hx := C0.1
  have hb := C0.2.1
  have hS : va_S (pA G sz) s.heap s.heap [] := va_S.rf
  have hl : lv_has ls 1 [(0, .ref (adr G h))] := hl
  refine lv_aload_n hx hb dX0_walk_0 rfl (lv_at hl 0 rfl) ?_
  refine k_VI C0 hP hS (rest := []) (c_X0_isGone l G M o h hh) mf_X0_isGone ml_X0_28 (kd_lt hh (by decide)) (ct_0 hh) rfl hl.1 (by decide) (by decide) (Nat.le_of_ble_eq_true rfl) rfl rfl dX0_walk_1 (fun H locs hP hS => ?_)
  refine lv_if_ne (tgt := 39) hx hb dX0_walk_4 (by decide) (fun c_1 => ?_) (fun c_1 => ?_)
  · have hP := PW_eq (M' := u2 M h 0 (wk (M h 0) (M h 1))) (by simp [wk, u2_id, c_1]) hP
    exact e_V C0 hr hP hS (by decide) dX0_walk_39
  · refine lv_aload_n hx hb dX0_walk_7 rfl (lv_at hl 0 rfl) ?_
    refine lv_aload_n hx hb dX0_walk_8 rfl (lv_at hl 0 rfl) ?_
    refine gf_X0_9 C0 hP (k := h) hh dX0_walk_9 ?_
    refine lv_aload_n hx hb dX0_walk_12 rfl (lv_at hl 0 rfl) ?_
    refine gf_X0_15 C0 hP (k := h) hh dX0_walk_13 ?_
    refine lv_iadd hx hb dX0_walk_16 ?_
    refine k_SNI C0 hP hS (rest := [.ref (adr G h)]) (c_X4_isStep l G M o ((M h 0) + (M h 1))) mf_X4_isStep ml_X0_32 hl.1 (by decide) (by decide) (Nat.le_of_ble_eq_true rfl) rfl rfl dX0_walk_17 (fun H locs hP hS => ?_)
    refine lv_if_eq (tgt := 35) hx hb dX0_walk_20 (by decide) (fun c_2 => ?_) (fun c_2 => ?_)
    · refine lv_iconst (v := -1) hx hb dX0_walk_35 (by decide) ?_
      refine pf_X0_9 C0 hP hS (k := h) hh dX0_walk_36 (fun H locs hP hS => ?_)
      have hP := PW_eq (M' := u2 M h 0 (wk (M h 0) (M h 1))) (by simp [wk, u2_id, c_1, c_2]) hP
      exact e_V C0 hr hP hS (by decide) dX0_walk_39
    · refine lv_aload_n hx hb dX0_walk_23 rfl (lv_at hl 0 rfl) ?_
      refine gf_X0_9 C0 hP (k := h) hh dX0_walk_24 ?_
      refine lv_aload_n hx hb dX0_walk_27 rfl (lv_at hl 0 rfl) ?_
      refine gf_X0_15 C0 hP (k := h) hh dX0_walk_28 ?_
      refine lv_iadd hx hb dX0_walk_31 ?_
      refine lv_goto (tgt := 36) hx hb dX0_walk_32 (by decide) ?_
      refine pf_X0_9 C0 hP hS (k := h) hh dX0_walk_36 (fun H locs hP hS => ?_)
      have hP := PW_eq (M' := u2 M h 0 (wk (M h 0) (M h 1))) (by simp [wk, u2_id, c_1, c_2]) hP
      exact e_V C0 hr hP hS (by decide) dX0_walk_39

set_option maxHeartbeats 4000000 in
set_option maxRecDepth 100000 in
theorem c_X1_build (l : Launch) (G : GG) (M : Mem) (o : Nat → Int64) (r : Nat) (hr0 : kd r = 1) (a1 a2 a3 : Int32) : MV l yX1_build cX1_build 4 none 0 0 G [.ref (adr G r), .int a1, .int a2, .int a3] M (bdM M r a1 a2 a3) o o 0 0 := by
  refine MV_of RX1 rfl (by decide +kernel) (Nat.le_of_ble_eq_true rfl) ?_
  intro p e s m below meth c sz C0 hr hP ls hl
  have hx := C0.1
  have hb := C0.2.1
  have hS : va_S (pA G sz) s.heap s.heap [] := va_S.rf
  have hl : lv_has ls 4 [(0, .ref (adr G r)), (1, .int a1), (2, .int a2), (3, .int a3)] := hl
  refine lv_aload_n hx hb dX1_build_0 rfl (lv_at hl 0 rfl) ?_
  refine lv_iload_n hx hb dX1_build_1 rfl (lv_at hl 1 rfl) ?_
  refine pf_X1_9 C0 hP hS (k := r) hr0 dX1_build_2 (fun H locs hP hS => ?_)
  refine lv_aload_n hx hb dX1_build_5 rfl (lv_at hl 0 rfl) ?_
  refine lv_iload_n hx hb dX1_build_6 rfl (lv_at hl 2 rfl) ?_
  refine pf_X1_15 C0 hP hS (k := r) hr0 dX1_build_7 (fun H locs hP hS => ?_)
  refine lv_aload_n hx hb dX1_build_10 rfl (lv_at hl 0 rfl) ?_
  refine lv_iload_n hx hb dX1_build_11 rfl (lv_at hl 3 rfl) ?_
  refine pf_X1_18 C0 hP hS (k := r) hr0 dX1_build_12 (fun H locs hP hS => ?_)
  refine lv_aload_n hx hb dX1_build_15 rfl (lv_at hl 0 rfl) ?_
  refine lv_iconst (v := 3) hx hb dX1_build_16 (by decide) ?_
  refine pf_X1_21 C0 hP hS (k := r) hr0 dX1_build_17 (fun H locs hP hS => ?_)
  exact e_V C0 hr hP hS (by decide) dX1_build_20

set_option maxHeartbeats 4000000 in
set_option maxRecDepth 100000 in
theorem c_X1_copyFrom (l : Launch) (G : GG) (M : Mem) (o : Nat → Int64) (r q : Nat) (hr0 : kd r = 1) (hq : kd q = 1) (hrq : q ≠ r) : MV l yX1_copyFrom cX1_copyFrom 2 none 1 23 G [.ref (adr G r), .ref (adr G q)] M (fun a b => if a = r ∧ b < 7 then M q b else M a b) o o 0 0 := by
  refine MV_of RX1 rfl (by decide +kernel) (Nat.le_of_ble_eq_true rfl) ?_
  intro p e s m below meth c sz C0 hr hP ls hl
  have hx := C0.1
  have hb := C0.2.1
  have hS : va_S (pA G sz) s.heap s.heap [] := va_S.rf
  have hl : lv_has ls 2 [(0, .ref (adr G r)), (1, .ref (adr G q))] := hl
  refine lv_aload_n hx hb dX1_copyFrom_0 rfl (lv_at hl 0 rfl) ?_
  refine lv_aload_n hx hb dX1_copyFrom_1 rfl (lv_at hl 1 rfl) ?_
  refine gf_X1_9 C0 hP (k := q) hq dX1_copyFrom_2 ?_
  refine lv_aload_n hx hb dX1_copyFrom_5 rfl (lv_at hl 1 rfl) ?_
  refine gf_X1_15 C0 hP (k := q) hq dX1_copyFrom_6 ?_
  refine lv_aload_n hx hb dX1_copyFrom_9 rfl (lv_at hl 1 rfl) ?_
  refine gf_X1_18 C0 hP (k := q) hq dX1_copyFrom_10 ?_
  refine k_VV C0 hP hS (rest := []) (c_X1_build l G M o r hr0 (M q 0) (M q 1) (M q 4)) mf_X1_build ml_X1_24 (kd_lt hr0 (by decide)) (ct_1 hr0) rfl hl.1 (by decide) (by decide) (Nat.le_of_ble_eq_true rfl) rfl rfl dX1_copyFrom_13 (fun H locs hP hS => ?_)
  refine lv_aload_n hx hb dX1_copyFrom_16 rfl (lv_at hl 0 rfl) ?_
  refine lv_aload_n hx hb dX1_copyFrom_17 rfl (lv_at hl 1 rfl) ?_
  refine gf_X1_21 C0 hP (k := q) hq dX1_copyFrom_18 ?_
  refine pf_X1_21 C0 hP hS (k := r) hr0 dX1_copyFrom_21 (fun H locs hP hS => ?_)
  refine lv_aload_n hx hb dX1_copyFrom_24 rfl (lv_at hl 0 rfl) ?_
  refine lv_aload_n hx hb dX1_copyFrom_25 rfl (lv_at hl 1 rfl) ?_
  refine gf_X1_28 C0 hP (k := q) hq dX1_copyFrom_26 ?_
  refine pf_X1_28 C0 hP hS (k := r) hr0 dX1_copyFrom_29 (fun H locs hP hS => ?_)
  refine lv_aload_n hx hb dX1_copyFrom_32 rfl (lv_at hl 0 rfl) ?_
  refine lv_aload_n hx hb dX1_copyFrom_33 rfl (lv_at hl 1 rfl) ?_
  refine gf_X1_31 C0 hP (k := q) hq dX1_copyFrom_34 ?_
  refine pf_X1_31 C0 hP hS (k := r) hr0 dX1_copyFrom_37 (fun H locs hP hS => ?_)
  refine lv_aload_n hx hb dX1_copyFrom_40 rfl (lv_at hl 0 rfl) ?_
  refine lv_aload_n hx hb dX1_copyFrom_41 rfl (lv_at hl 1 rfl) ?_
  refine gf_X1_34 C0 hP (k := q) hq dX1_copyFrom_42 ?_
  refine pf_X1_34 C0 hP hS (k := r) hr0 dX1_copyFrom_45 (fun H locs hP hS => ?_)
  have hP := PW_eq (crM hrq) hP
  exact e_V C0 hr hP hS (by decide) dX1_copyFrom_48

set_option maxHeartbeats 4000000 in
set_option maxRecDepth 100000 in
theorem c_X1_reach (l : Launch) (G : GG) (M : Mem) (o : Nat → Int64) (r : Nat) (hr0 : kd r = 1) : MI l yX1_reach cX1_reach 1 (some .int) 0 0 G [.ref (adr G r)] M M o o (4 * M r 1) 0 0 := by
  refine MI_of RX1 rfl (by decide +kernel) (Nat.le_of_ble_eq_true rfl) ?_
  intro p e s m below meth c sz C0 hr hP ls hl
  have hx := C0.1
  have hb := C0.2.1
  have hS : va_S (pA G sz) s.heap s.heap [] := va_S.rf
  have hl : lv_has ls 1 [(0, .ref (adr G r))] := hl
  refine lv_iconst (v := 4) hx hb dX1_reach_0 (by decide) ?_
  refine lv_aload_n hx hb dX1_reach_1 rfl (lv_at hl 0 rfl) ?_
  refine gf_X1_15 C0 hP (k := r) hr0 dX1_reach_2 ?_
  refine lv_imul hx hb dX1_reach_5 ?_
  exact e_Ii C0 hr hP hS rfl (by decide) dX1_reach_6

set_option maxHeartbeats 4000000 in
set_option maxRecDepth 100000 in
theorem c_X1_shows (l : Launch) (G : GG) (M : Mem) (o : Nat → Int64) (r q : Nat) (hr0 : kd r = 1) (hq : kd q = 0) : MI l yX1_shows cX1_shows 2 (some .boolean) 1 21 G [.ref (adr G r), .ref (adr G q)] M M o o (shM M r q) 0 0 := by
  refine MI_of RX1 rfl (by decide +kernel) (Nat.le_of_ble_eq_true rfl) ?_
  intro p e s m below meth c sz C0 hr hP ls hl
  have hx := C0.1
  have hb := C0.2.1
  have hS : va_S (pA G sz) s.heap s.heap [] := va_S.rf
  have hl : lv_has ls 2 [(0, .ref (adr G r)), (1, .ref (adr G q))] := hl
  refine lv_aload_n hx hb dX1_shows_0 rfl (lv_at hl 1 rfl) ?_
  refine k_VNI C0 hP hS (rest := []) (c_X0_isGone l G M o q hq) mf_X0_isGone ml_X1_37 (kd_lt hq (by decide)) (ct_0 hq) rfl hl.1 (by decide) (by decide) (Nat.le_of_ble_eq_true rfl) rfl rfl dX1_shows_1 (fun H locs hP hS => ?_)
  refine lv_if_ne (tgt := 30) hx hb dX1_shows_4 (by decide) (fun c_1 => ?_) (fun c_1 => ?_)
  · refine lv_iconst (v := 0) hx hb dX1_shows_30 (by decide) ?_
    exact e_I (ty := .boolean) C0 hr (by decide +kernel) hP hS (by simp [shM, shF, c_1]) (by decide) dX1_shows_31
  · refine lv_aload_n hx hb dX1_shows_7 rfl (lv_at hl 1 rfl) ?_
    refine gf_X1_43 C0 hP (k := q) hq dX1_shows_8 ?_
    refine lv_aload_n hx hb dX1_shows_11 rfl (lv_at hl 0 rfl) ?_
    refine gf_X1_9 C0 hP (k := r) hr0 dX1_shows_12 ?_
    refine lv_isub hx hb dX1_shows_15 ?_
    refine m_abs C0 ml_X1_44 hl.1 ⟨Nat.le_of_ble_eq_true rfl, by decide, by decide⟩ (by decide) dX1_shows_16 ?_
    refine lv_aload_n hx hb dX1_shows_19 rfl (lv_at hl 0 rfl) ?_
    refine k_VI C0 hP hS (rest := [.int (ab ((M q 0) - (M r 0)))]) (c_X1_reach l G M o r hr0) mf_X1_reach ml_X1_50 (kd_lt hr0 (by decide)) (ct_1 hr0) rfl hl.1 (by decide) (by decide) (Nat.le_of_ble_eq_true rfl) rfl rfl dX1_shows_20 (fun H locs hP hS => ?_)
    refine lv_icmp_gt (tgt := 30) hx hb dX1_shows_23 (by decide) (fun c_2 => ?_) (fun c_2 => ?_)
    · refine lv_iconst (v := 0) hx hb dX1_shows_30 (by decide) ?_
      exact e_I (ty := .boolean) C0 hr (by decide +kernel) hP hS (by simp [shM, shF, c_1, c_2]) (by decide) dX1_shows_31
    · refine lv_iconst (v := 1) hx hb dX1_shows_26 (by decide) ?_
      refine lv_goto (tgt := 31) hx hb dX1_shows_27 (by decide) ?_
      exact e_I (ty := .boolean) C0 hr (by decide +kernel) hP hS (by simp [shM, shF, c_1, c_2]) (by decide) dX1_shows_31

set_option maxHeartbeats 4000000 in
set_option maxRecDepth 100000 in
theorem c_X1_brightnessOf (l : Launch) (G : GG) (M : Mem) (o : Nat → Int64) (r q : Nat) (li : Int32) (hr0 : kd r = 1) (hq : kd q = 0) : MI l yX1_brightnessOf cX1_brightnessOf 4 (some .int) 0 0 G [.ref (adr G r), .ref (adr G q), .int li] M M o o (brM M r q li) 0 0 := by
  refine MI_of RX1 rfl (by decide +kernel) (Nat.le_of_ble_eq_true rfl) ?_
  intro p e s m below meth c sz C0 hr hP ls hl
  have hx := C0.1
  have hb := C0.2.1
  have hS : va_S (pA G sz) s.heap s.heap [] := va_S.rf
  have hl : lv_has ls 4 [(0, .ref (adr G r)), (1, .ref (adr G q)), (2, .int li)] := hl
  refine lv_bipush (v := 10) hx hb dX1_brightnessOf_0 (by decide) ?_
  refine lv_aload_n hx hb dX1_brightnessOf_2 rfl (lv_at hl 0 rfl) ?_
  refine gf_X1_15 C0 hP (k := r) hr0 dX1_brightnessOf_3 ?_
  refine lv_imul hx hb dX1_brightnessOf_6 ?_
  refine lv_aload_n hx hb dX1_brightnessOf_7 rfl (lv_at hl 0 rfl) ?_
  refine gf_X1_15 C0 hP (k := r) hr0 dX1_brightnessOf_8 ?_
  refine lv_imul hx hb dX1_brightnessOf_11 ?_
  refine lv_istore_n (lv' := [(3, .int ((10 * (M r 1)) * (M r 1))), (0, .ref (adr G r)), (1, .ref (adr G q)), (2, .int li)]) hx hb dX1_brightnessOf_12 rfl hl (by decide) rfl (fun ls hl => ?_)
  refine lv_iload_n hx hb dX1_brightnessOf_13 rfl (lv_at hl 0 rfl) ?_
  refine lv_if_ne (tgt := 19) hx hb dX1_brightnessOf_14 (by decide) (fun c_1 => ?_) (fun c_1 => ?_)
  · refine lv_iload_n hx hb dX1_brightnessOf_19 rfl (lv_at hl 3 rfl) ?_
    refine lv_aload_n hx hb dX1_brightnessOf_20 rfl (lv_at hl 2 rfl) ?_
    refine gf_X1_54 C0 hP (k := q) hq dX1_brightnessOf_21 ?_
    refine lv_imul hx hb dX1_brightnessOf_24 ?_
    refine lv_aload_n hx hb dX1_brightnessOf_25 rfl (lv_at hl 1 rfl) ?_
    refine gf_X1_21 C0 hP (k := r) hr0 dX1_brightnessOf_26 ?_
    refine lv_imul hx hb dX1_brightnessOf_29 ?_
    refine lv_aload_n hx hb dX1_brightnessOf_30 rfl (lv_at hl 1 rfl) ?_
    refine gf_X1_21 C0 hP (k := r) hr0 dX1_brightnessOf_31 ?_
    refine lv_imul hx hb dX1_brightnessOf_34 ?_
    refine lv_iload_n hx hb dX1_brightnessOf_35 rfl (lv_at hl 0 rfl) ?_
    refine lv_idiv hx hb dX1_brightnessOf_36 c_1 ?_
    refine lv_bipush (v := 10) hx hb dX1_brightnessOf_37 (by decide) ?_
    refine lv_aload_n hx hb dX1_brightnessOf_39 rfl (lv_at hl 1 rfl) ?_
    refine gf_X1_28 C0 hP (k := r) hr0 dX1_brightnessOf_40 ?_
    refine lv_isub hx hb dX1_brightnessOf_43 ?_
    refine lv_imul hx hb dX1_brightnessOf_44 ?_
    refine lv_bipush (v := 10) hx hb dX1_brightnessOf_45 (by decide) ?_
    refine lv_idiv hx hb dX1_brightnessOf_47 (by decide) ?_
    exact e_Ii C0 hr hP hS rfl (by decide) dX1_brightnessOf_48
  · refine lv_iconst (v := 0) hx hb dX1_brightnessOf_17 (by decide) ?_
    exact e_Ii C0 hr hP hS (by simp [brM, brF, c_1]) (by decide) dX1_brightnessOf_18

set_option maxHeartbeats 4000000 in
set_option maxRecDepth 100000 in
theorem c_X1_showsWell (l : Launch) (G : GG) (M : Mem) (o : Nat → Int64) (r q : Nat) (li : Int32) (hr0 : kd r = 1) (hq : kd q = 0) : MI l yX1_showsWell cX1_showsWell 3 (some .boolean) 2 42 G [.ref (adr G r), .ref (adr G q), .int li] M M o o (wlM M r q li) 0 0 := by
  refine MI_of RX1 rfl (by decide +kernel) (Nat.le_of_ble_eq_true rfl) ?_
  intro p e s m below meth c sz C0 hr hP ls hl
  have hx := C0.1
  have hb := C0.2.1
  have hS : va_S (pA G sz) s.heap s.heap [] := va_S.rf
  have hl : lv_has ls 3 [(0, .ref (adr G r)), (1, .ref (adr G q)), (2, .int li)] := hl
  refine lv_aload_n hx hb dX1_showsWell_0 rfl (lv_at hl 0 rfl) ?_
  refine lv_aload_n hx hb dX1_showsWell_1 rfl (lv_at hl 1 rfl) ?_
  refine k_VI C0 hP hS (rest := []) (c_X1_shows l G M o r q hr0 hq) mf_X1_shows ml_X1_57 (kd_lt hr0 (by decide)) (ct_1 hr0) rfl hl.1 (by decide) (by decide) (Nat.le_of_ble_eq_true rfl) rfl rfl dX1_showsWell_2 (fun H locs hP hS => ?_)
  refine lv_if_eq (tgt := 40) hx hb dX1_showsWell_5 (by decide) (fun c_1 => ?_) (fun c_1 => ?_)
  · unfold shM at c_1
    refine lv_iconst (v := 0) hx hb dX1_showsWell_40 (by decide) ?_
    exact e_I (ty := .boolean) C0 hr (by decide +kernel) hP hS (by simp [wlM, wlF, c_1]) (by decide) dX1_showsWell_41
  · unfold shM at c_1
    refine lv_aload_n hx hb dX1_showsWell_8 rfl (lv_at hl 0 rfl) ?_
    refine gf_X1_21 C0 hP (k := r) hr0 dX1_showsWell_9 ?_
    refine lv_aload_n hx hb dX1_showsWell_12 rfl (lv_at hl 0 rfl) ?_
    refine gf_X1_15 C0 hP (k := r) hr0 dX1_showsWell_13 ?_
    refine lv_imul hx hb dX1_showsWell_16 ?_
    refine lv_iconst (v := 3) hx hb dX1_showsWell_17 (by decide) ?_
    refine lv_idiv hx hb dX1_showsWell_18 (by decide) ?_
    refine lv_aload_n hx hb dX1_showsWell_19 rfl (lv_at hl 1 rfl) ?_
    refine gf_X1_61 C0 hP (k := q) hq dX1_showsWell_20 ?_
    refine lv_icmp_gt (tgt := 40) hx hb dX1_showsWell_23 (by decide) (fun c_2 => ?_) (fun c_2 => ?_)
    · refine lv_iconst (v := 0) hx hb dX1_showsWell_40 (by decide) ?_
      exact e_I (ty := .boolean) C0 hr (by decide +kernel) hP hS (by simp [wlM, wlF, c_1, c_2]) (by decide) dX1_showsWell_41
    · refine lv_aload_n hx hb dX1_showsWell_26 rfl (lv_at hl 0 rfl) ?_
      refine lv_aload_n hx hb dX1_showsWell_27 rfl (lv_at hl 1 rfl) ?_
      refine lv_iload_n hx hb dX1_showsWell_28 rfl (lv_at hl 2 rfl) ?_
      refine k_VI C0 hP hS (rest := []) (c_X1_brightnessOf l G M o r q li hr0 hq) mf_X1_brightnessOf ml_X1_64 (kd_lt hr0 (by decide)) (ct_1 hr0) rfl hl.1 (by decide) (by decide) (Nat.le_of_ble_eq_true rfl) rfl rfl dX1_showsWell_29 (fun H locs hP hS => ?_)
      refine lv_iconst (v := 5) hx hb dX1_showsWell_32 (by decide) ?_
      refine lv_icmp_lt (tgt := 40) hx hb dX1_showsWell_33 (by decide) (fun c_3 => ?_) (fun c_3 => ?_)
      · unfold brM at c_3
        refine lv_iconst (v := 0) hx hb dX1_showsWell_40 (by decide) ?_
        exact e_I (ty := .boolean) C0 hr (by decide +kernel) hP hS (by simp [wlM, wlF, c_1, c_2, c_3]) (by decide) dX1_showsWell_41
      · unfold brM at c_3
        refine lv_iconst (v := 1) hx hb dX1_showsWell_36 (by decide) ?_
        refine lv_goto (tgt := 41) hx hb dX1_showsWell_37 (by decide) ?_
        exact e_I (ty := .boolean) C0 hr (by decide +kernel) hP hS (by simp [wlM, wlF, c_1, c_2, c_3]) (by decide) dX1_showsWell_41

set_option maxHeartbeats 4000000 in
set_option maxRecDepth 100000 in
theorem c_X1_pay (l : Launch) (G : GG) (M : Mem) (o : Nat → Int64) (r : Nat) (sh : Int32) (hr0 : kd r = 1) : MI l yX1_pay cX1_pay 3 (some .int) 1 21 G [.ref (adr G r), .int sh] M (pyM M r sh) o o (paF sh (M r 5)) 0 0 := by
  refine MI_of RX1 rfl (by decide +kernel) (Nat.le_of_ble_eq_true rfl) ?_
  intro p e s m below meth c sz C0 hr hP ls hl
  have hx := C0.1
  have hb := C0.2.1
  have hS : va_S (pA G sz) s.heap s.heap [] := va_S.rf
  have hl : lv_has ls 3 [(0, .ref (adr G r)), (1, .int sh)] := hl
  refine lv_iload_n hx hb dX1_pay_0 rfl (lv_at hl 1 rfl) ?_
  refine lv_if_ne (tgt := 20) hx hb dX1_pay_1 (by decide) (fun c_1 => ?_) (fun c_1 => ?_)
  · refine lv_aload_n hx hb dX1_pay_20 rfl (lv_at hl 0 rfl) ?_
    refine gf_X1_31 C0 hP (k := r) hr0 dX1_pay_21 ?_
    refine lv_iload_n hx hb dX1_pay_24 rfl (lv_at hl 1 rfl) ?_
    refine lv_iconst (v := 2) hx hb dX1_pay_25 (by decide) ?_
    refine m_min C0 ml_X1_72 hl.1 ⟨Nat.le_of_ble_eq_true rfl, by decide, by decide⟩ (by decide) dX1_pay_26 ?_
    refine lv_imul hx hb dX1_pay_29 ?_
    refine lv_istore_n (lv' := [(2, .int ((M r 5) * (mn sh 2))), (0, .ref (adr G r)), (1, .int sh)]) hx hb dX1_pay_30 rfl hl (by decide) rfl (fun ls hl => ?_)
    refine lv_aload_n hx hb dX1_pay_31 rfl (lv_at hl 1 rfl) ?_
    refine lv_dup hx hb dX1_pay_32 rfl ?_
    refine gf_X1_34 C0 hP (k := r) hr0 dX1_pay_33 ?_
    refine lv_iload_n hx hb dX1_pay_36 rfl (lv_at hl 0 rfl) ?_
    refine lv_iadd hx hb dX1_pay_37 ?_
    refine pf_X1_34 C0 hP hS (k := r) hr0 dX1_pay_38 (fun H locs hP hS => ?_)
    refine lv_iload_n hx hb dX1_pay_41 rfl (lv_at hl 2 rfl) ?_
    refine lv_iconst (v := 2) hx hb dX1_pay_42 (by decide) ?_
    refine lv_icmp_lt (tgt := 67) hx hb dX1_pay_43 (by decide) (fun c_2 => ?_) (fun c_2 => ?_)
    · refine lv_iload_n hx hb dX1_pay_67 rfl (lv_at hl 0 rfl) ?_
      have hP := PW_eq (M' := pyM M r sh) (by
          funext a9 b9
          by_cases h1 : a9 = r
          · subst h1
            by_cases h5 : b9 = 5
            · subst h5; simp [pyM, u2, ppF, paF, c_1, c_2]
            · by_cases h6 : b9 = 6
              · subst h6; simp [pyM, u2, ppF, paF, c_1, c_2]
              · simp [pyM, u2, h5, h6]
          · simp [pyM, u2, h1]) hP
      exact e_Ii C0 hr hP hS (by simp [paF, c_1, c_2]) (by decide) dX1_pay_68
    · refine lv_aload_n hx hb dX1_pay_46 rfl (lv_at hl 1 rfl) ?_
      refine gf_X1_31 C0 hP (k := r) hr0 dX1_pay_47 ?_
      refine lv_aload_n hx hb dX1_pay_50 rfl (lv_at hl 1 rfl) ?_
      refine gf_X1_18 C0 hP (k := r) hr0 dX1_pay_51 ?_
      refine lv_icmp_ge (tgt := 67) hx hb dX1_pay_54 (by decide) (fun c_3 => ?_) (fun c_3 => ?_)
      · rw [u2_sl (by decide), u2_sl (by decide)] at c_3
        refine lv_iload_n hx hb dX1_pay_67 rfl (lv_at hl 0 rfl) ?_
        have hP := PW_eq (M' := pyM M r sh) (by
            funext a9 b9
            by_cases h1 : a9 = r
            · subst h1
              by_cases h5 : b9 = 5
              · subst h5; simp [pyM, u2, ppF, paF, c_1, c_2, c_3]
              · by_cases h6 : b9 = 6
                · subst h6; simp [pyM, u2, ppF, paF, c_1, c_2, c_3]
                · simp [pyM, u2, h5, h6]
            · simp [pyM, u2, h1]) hP
        exact e_Ii C0 hr hP hS (by simp [paF, c_1, c_2, c_3]) (by decide) dX1_pay_68
      · rw [u2_sl (by decide), u2_sl (by decide)] at c_3
        refine lv_aload_n hx hb dX1_pay_57 rfl (lv_at hl 1 rfl) ?_
        refine lv_dup hx hb dX1_pay_58 rfl ?_
        refine gf_X1_31 C0 hP (k := r) hr0 dX1_pay_59 ?_
        refine lv_iconst (v := 1) hx hb dX1_pay_62 (by decide) ?_
        refine lv_iadd hx hb dX1_pay_63 ?_
        refine pf_X1_31 C0 hP hS (k := r) hr0 dX1_pay_64 (fun H locs hP hS => ?_)
        refine lv_iload_n hx hb dX1_pay_67 rfl (lv_at hl 0 rfl) ?_
        have hP := PW_eq (M' := pyM M r sh) (by
            funext a9 b9
            by_cases h1 : a9 = r
            · subst h1
              by_cases h5 : b9 = 5
              · subst h5; simp [pyM, u2, ppF, paF, c_1, c_2, c_3]
              · by_cases h6 : b9 = 6
                · subst h6; simp [pyM, u2, ppF, paF, c_1, c_2, c_3]
                · simp [pyM, u2, h5, h6]
            · simp [pyM, u2, h1]) hP
        exact e_Ii C0 hr hP hS (by simp [paF, c_1, c_2, c_3]) (by decide) dX1_pay_68
  · refine lv_aload_n hx hb dX1_pay_4 rfl (lv_at hl 0 rfl) ?_
    refine lv_aload_n hx hb dX1_pay_5 rfl (lv_at hl 0 rfl) ?_
    refine gf_X1_31 C0 hP (k := r) hr0 dX1_pay_6 ?_
    refine lv_iconst (v := 1) hx hb dX1_pay_9 (by decide) ?_
    refine lv_isub hx hb dX1_pay_10 ?_
    refine lv_iconst (v := 0) hx hb dX1_pay_11 (by decide) ?_
    refine m_max C0 ml_X1_68 hl.1 ⟨Nat.le_of_ble_eq_true rfl, by decide, by decide⟩ (by decide) dX1_pay_12 ?_
    refine pf_X1_31 C0 hP hS (k := r) hr0 dX1_pay_15 (fun H locs hP hS => ?_)
    refine lv_iconst (v := 0) hx hb dX1_pay_18 (by decide) ?_
    have hP := PW_eq (M' := pyM M r sh) (by
        funext a9 b9
        by_cases h1 : a9 = r
        · subst h1
          by_cases h5 : b9 = 5
          · subst h5; simp [pyM, u2, ppF, paF, c_1]
          · by_cases h6 : b9 = 6
            · subst h6; simp [pyM, u2, ppF, paF, c_1]
            · simp [pyM, u2, h5, h6]
        · simp [pyM, u2, h1]) hP
    exact e_Ii C0 hr hP hS (by simp [paF, c_1]) (by decide) dX1_pay_19

set_option maxHeartbeats 4000000 in
set_option maxRecDepth 100000 in
theorem c_X3_entry (l : Launch) (G : GG) (M : Mem) (o : Nat → Int64) (k : Nat) (hk : k < 12) : MI l yX3_entry cX3_entry 2 (some .int) 0 0 G [.ref (adr G 1), .int (nI k)] M M o o (10 * M 2 k + M 3 k) 0 0 := by
  refine MI_of RX3 rfl (by decide +kernel) (Nat.le_of_ble_eq_true rfl) ?_
  intro p e s m below meth c sz C0 hr hP ls hl
  have hx := C0.1
  have hb := C0.2.1
  have hS : va_S (pA G sz) s.heap s.heap [] := va_S.rf
  have hl : lv_has ls 2 [(0, .ref (adr G 1)), (1, .int (nI k))] := hl
  refine lv_bipush (v := 10) hx hb dX3_entry_0 (by decide) ?_
  refine lv_aload_n hx hb dX3_entry_2 rfl (lv_at hl 0 rfl) ?_
  refine gf_X3_9 C0 hP (k := 1) (show kd 1 = 3 by decide) dX3_entry_3 ?_
  refine lv_iload_n hx hb dX3_entry_6 rfl (lv_at hl 1 rfl) ?_
  refine w_ialdN C0 hP (k := 2) (i := k) (show kd 2 = 7 by decide) (show k < 12 by omega) (by omega) dX3_entry_7 ?_
  refine lv_imul hx hb dX3_entry_8 ?_
  refine lv_aload_n hx hb dX3_entry_9 rfl (lv_at hl 0 rfl) ?_
  refine gf_X3_15 C0 hP (k := 1) (show kd 1 = 3 by decide) dX3_entry_10 ?_
  refine lv_iload_n hx hb dX3_entry_13 rfl (lv_at hl 1 rfl) ?_
  refine w_ialdN C0 hP (k := 3) (i := k) (show kd 3 = 7 by decide) (show k < 12 by omega) (by omega) dX3_entry_14 ?_
  refine lv_iadd hx hb dX3_entry_15 ?_
  exact e_Ii C0 hr hP hS rfl (by decide) dX3_entry_16

set_option maxHeartbeats 4000000 in
set_option maxRecDepth 100000 in
theorem c_X3_lightAt (l : Launch) (G : GG) (M : Mem) (o : Nat → Int64) (k : Nat) (hk : k ≤ 720) : MI l yX3_lightAt cX3_lightAt 3 (some .int) 0 0 G [.ref (adr G 1), .int (nI k)] M M o o (ltF (M 2) (M 3) k) 0 0 := by
  refine MI_of RX3 rfl (by decide +kernel) (Nat.le_of_ble_eq_true rfl) ?_
  intro p e s m below meth c sz C0 hr hP ls hl
  have hx := C0.1
  have hb := C0.2.1
  have hS : va_S (pA G sz) s.heap s.heap [] := va_S.rf
  have hl : lv_has ls 3 [(0, .ref (adr G 1)), (1, .int (nI k))] := hl
  refine lv_iload_n hx hb dX3_lightAt_0 rfl (lv_at hl 1 rfl) ?_
  refine lv_if_lt (tgt := 11) hx hb dX3_lightAt_1 (by decide) (fun c_1 => ?_) (fun c_1 => ?_)
  · exact absurd c_1 (nI_pos (by omega))
  · refine lv_iload_n hx hb dX3_lightAt_4 rfl (lv_at hl 1 rfl) ?_
    refine lv_sipush (v := 720) hx hb dX3_lightAt_5 (by decide) ?_
    refine lv_icmp_lt (tgt := 13) hx hb dX3_lightAt_8 (by decide) (fun c_2 => ?_) (fun c_2 => ?_)
    · have hk2 : k < 720 := by
        rcases Nat.lt_or_ge k 720 with z | z
        · exact z
        · exact absurd c_2 (nI_nlt (a := k) (b := 720) z (by omega))
      refine lv_iload_n hx hb dX3_lightAt_13 rfl (lv_at hl 1 rfl) ?_
      refine lv_bipush (v := 60) hx hb dX3_lightAt_14 (by decide) ?_
      refine lv_idiv hx hb dX3_lightAt_16 (by decide) ?_
      rw [show (nI k / 60 : Int32) = nI (k / 60) from pk_div (by omega) (by decide) (by decide)]
      refine lv_istore_n (lv' := [(2, .int (nI (k / 60))), (0, .ref (adr G 1)), (1, .int (nI k))]) hx hb dX3_lightAt_17 rfl hl (by decide) rfl (fun ls hl => ?_)
      refine lv_aload_n hx hb dX3_lightAt_18 rfl (lv_at hl 1 rfl) ?_
      refine gf_X3_9 C0 hP (k := 1) (show kd 1 = 3 by decide) dX3_lightAt_19 ?_
      refine lv_iload_n hx hb dX3_lightAt_22 rfl (lv_at hl 0 rfl) ?_
      refine w_ialdN C0 hP (k := 2) (i := (k / 60)) (show kd 2 = 7 by decide) (show (k / 60) < 12 by omega) (by omega) dX3_lightAt_23 ?_
      refine lv_bipush (v := 10) hx hb dX3_lightAt_24 (by decide) ?_
      refine lv_aload_n hx hb dX3_lightAt_26 rfl (lv_at hl 1 rfl) ?_
      refine gf_X3_15 C0 hP (k := 1) (show kd 1 = 3 by decide) dX3_lightAt_27 ?_
      refine lv_iload_n hx hb dX3_lightAt_30 rfl (lv_at hl 0 rfl) ?_
      refine w_ialdN C0 hP (k := 3) (i := (k / 60)) (show kd 3 = 7 by decide) (show (k / 60) < 12 by omega) (by omega) dX3_lightAt_31 ?_
      refine lv_isub hx hb dX3_lightAt_32 ?_
      refine lv_imul hx hb dX3_lightAt_33 ?_
      refine lv_bipush (v := 10) hx hb dX3_lightAt_34 (by decide) ?_
      refine lv_idiv hx hb dX3_lightAt_36 (by decide) ?_
      exact e_Ii C0 hr hP hS (by simp [ltF, hk2]) (by decide) dX3_lightAt_37
    · have hk2 : ¬ k < 720 := fun z => c_2 (nI_lt (a := k) (b := 720) z (by omega))
      refine lv_iconst (v := 0) hx hb dX3_lightAt_11 (by decide) ?_
      exact e_Ii C0 hr hP hS (by simp [ltF, hk2]) (by decide) dX3_lightAt_12
end CLA
end
section
section CLB
theorem rpM_0 {M : Mem} {sc np : Nat} {li : Int32} : rpM M sc li np 0 = M := by
  funext a b
  unfold rpM
  rw [if_neg (by omega)]
theorem rpM_sl {M : Mem} {sc np n a j : Nat} {li : Int32} (h : a < sc + 13 ∨ sc + 13 + n ≤ a) : rpM M sc li np n a j = M a j := by
  unfold rpM
  rw [if_neg (by omega)]
theorem rpM_st {M : Mem} {sc np n a j : Nat} {li : Int32} (h : j ≠ 5 ∧ j ≠ 6) : rpM M sc li np n a j = M a j := by
  unfold rpM
  rw [if_neg h.1, if_neg h.2, ite_self]
theorem siM_rp {M : Mem} {sc np n r : Nat} {li li2 : Int32} (hp : np ≤ 10) : siM (rpM M sc li np n) sc r li2 np = siM M sc r li2 np := by
  unfold siM
  refine cntF_congr (fun i hi => ?_)
  unfold wlM
  rw [rpM_sl (a := sc + 3 + i) (by omega), rpM_sl (a := sc + 3 + i) (by omega), rpM_sl (a := sc + 3 + i) (by omega), rpM_st (by omega), rpM_st (by omega), rpM_st (by omega), rpM_st (by omega)]
theorem rpM_s {M : Mem} {sc np i : Nat} {li : Int32} (hp : np ≤ 10) : pyM (rpM M sc li np i) (sc + 13 + i) (siM (rpM M sc li np i) sc (sc + 13 + i) li np) = rpM M sc li np (i + 1) := by
  funext a b
  rw [siM_rp hp]
  by_cases h : a = sc + 13 + i
  · subst h
    have e : ∀ j, rpM M sc li np i (sc + 13 + i) j = M (sc + 13 + i) j := fun j => rpM_sl (by omega)
    have e2 : rpM M sc li np (i + 1) (sc + 13 + i) b = (if b = 5 then ppF (siM M sc (sc + 13 + i) li np) (M (sc + 13 + i) 5) (M (sc + 13 + i) 4) else if b = 6 then M (sc + 13 + i) 6 + paF (siM M sc (sc + 13 + i) li np) (M (sc + 13 + i) 5) else M (sc + 13 + i) b) := by
      unfold rpM
      rw [if_pos ⟨by omega, by omega⟩]
    rw [e2]
    unfold pyM
    rw [if_pos rfl, e, e, e, e]
  · have e1 : pyM (rpM M sc li np i) (sc + 13 + i) (siM M sc (sc + 13 + i) li np) a b = rpM M sc li np i a b := by
      unfold pyM
      rw [if_neg h]
    rw [e1]
    unfold rpM
    by_cases h2 : sc + 13 ≤ a ∧ a < sc + 13 + i
    · rw [if_pos h2, if_pos (show sc + 13 ≤ a ∧ a < sc + 13 + (i + 1) by omega)]
    · rw [if_neg h2, if_neg (show ¬ (sc + 13 ≤ a ∧ a < sc + 13 + (i + 1)) by omega)]
theorem cpM_25 {M : Mem} {np nr j : Nat} (h : j < 3) : cpM M np nr 25 j = M 4 j := by
  unfold cpM
  rw [if_pos rfl, if_pos h]
theorem cpM_lo {M : Mem} {np nr a j : Nat} (h : a < 25 ∨ 46 ≤ a) (hp : np ≤ 10) (hr : nr ≤ 8) : cpM M np nr a j = M a j := by
  unfold cpM
  rw [if_neg (by omega), if_neg (by omega), if_neg (by omega)]
theorem cpM_0 {M : Mem} : u2 (u2 (u2 M 25 0 (M 4 0)) 25 1 (u2 M 25 0 (M 4 0) 4 1)) 25 2 (u2 (u2 M 25 0 (M 4 0)) 25 1 (u2 M 25 0 (M 4 0) 4 1) 4 2) = cpM M 0 0 := by
  funext a b
  unfold cpM
  by_cases h : a = 25
  · subst h
    rw [if_pos rfl]
    by_cases hb : b < 3
    · rcases (show b = 0 ∨ b = 1 ∨ b = 2 by omega) with rfl | rfl | rfl <;> simp [u2]
    · simp [u2, hb, show b ≠ 0 by omega, show b ≠ 1 by omega, show b ≠ 2 by omega]
  · rw [if_neg h, if_neg (by omega), if_neg (by omega)]
    simp [u2, h]
theorem cpM_p {M : Mem} {i : Nat} (hi : i < 10) : cmM (cpM M i 0) (25 + 3 + i) (cpM M i 0 (4 + 3 + i) 0) (cpM M i 0 (4 + 3 + i) 1) (cpM M i 0 (4 + 3 + i) 2) (cpM M i 0 (4 + 3 + i) 3) = cpM M (i + 1) 0 := by
  have e : ∀ j, cpM M i 0 (4 + 3 + i) j = M (4 + 3 + i) j := fun j => cpM_lo (by omega) (by omega) (by omega)
  rw [e, e, e, e]
  funext a b
  by_cases h : a = 25 + 3 + i
  · subst h
    by_cases hb : b < 4
    · have h2 : cpM M (i + 1) 0 (25 + 3 + i) b = M (4 + 3 + i) b := by
        unfold cpM
        rw [if_neg (by omega), if_pos (by omega)]
        congr 1
        omega
      rw [h2]
      rcases (show b = 0 ∨ b = 1 ∨ b = 2 ∨ b = 3 by omega) with rfl | rfl | rfl | rfl <;> simp [cmM, u2]
    · simp only [cmM, u2, show b ≠ 0 by omega, show b ≠ 1 by omega, show b ≠ 2 by omega, show b ≠ 3 by omega, and_false, if_false]
      unfold cpM
      repeat' split
      all_goals first | rfl | omega
  · simp only [cmM, u2, h, false_and, if_false]
    unfold cpM
    by_cases h5 : a = 25
    · rw [if_pos h5, if_pos h5]
    · rw [if_neg h5, if_neg h5]
      repeat' split
      all_goals first | rfl | omega
theorem cpM_r {M : Mem} {np j : Nat} (hj : j < 8) (hp : np ≤ 10) : (fun a b => if a = 25 + 13 + j ∧ b < 7 then cpM M np j (4 + 13 + j) b else cpM M np j a b) = cpM M np (j + 1) := by
  funext a b
  show (if a = 25 + 13 + j ∧ b < 7 then cpM M np j (4 + 13 + j) b else cpM M np j a b) = _
  by_cases h : a = 25 + 13 + j ∧ b < 7
  · obtain ⟨rfl, hb⟩ := h
    rw [if_pos ⟨rfl, hb⟩, cpM_lo (by omega) hp (by omega)]
    unfold cpM
    rw [if_neg (by omega), if_neg (by omega), if_pos (by omega)]
    congr 1
    omega
  · rw [if_neg h]
    unfold cpM
    by_cases h5 : a = 25
    · rw [if_pos h5, if_pos h5]
    · rw [if_neg h5, if_neg h5]
      by_cases h6 : (28 ≤ a ∧ a < 28 + np) ∧ b < 4
      · rw [if_pos h6, if_pos h6]
      · rw [if_neg h6, if_neg h6]
        by_cases h7 : (38 ≤ a ∧ a < 38 + j) ∧ b < 7
        · rw [if_pos h7, if_pos (by omega)]
        · rw [if_neg h7, if_neg (by omega)]
set_option maxHeartbeats 4000000 in
set_option maxRecDepth 100000 in
theorem c_X2_showIn (l : Launch) (G : GG) (M : Mem) (o : Nat → Int64) (sc r : Nat) (li : Int32) (n : Nat) (hsc : sc = 4 ∨ sc = 25) (hr0 : kd r = 1) (hn : M sc 1 = nI n) (hle : n ≤ 10) : MI l yX2_showIn cX2_showIn 5 (some .int) 3 64 G [.ref (adr G sc), .ref (adr G r), .int li] M M o o (siM M sc r li n) 0 0 := by
  refine MI_of RX2 rfl (by decide +kernel) (Nat.le_of_ble_eq_true rfl) ?_
  intro p e s m below meth c sz C0 hr hP ls hl
  have hx := C0.1
  have hb := C0.2.1
  have hS : va_S (pA G sz) s.heap s.heap [] := va_S.rf
  have hl : lv_has ls 5 [(0, .ref (adr G sc)), (1, .ref (adr G r)), (2, .int li)] := hl
  refine lv_iconst (v := 0) hx hb dX2_showIn_0 (by decide) ?_
  refine lv_istore_n (lv' := [(3, .int 0), (0, .ref (adr G sc)), (1, .ref (adr G r)), (2, .int li)]) hx hb dX2_showIn_1 rfl hl (by decide) rfl (fun ls hl => ?_)
  refine lv_iconst (v := 0) hx hb dX2_showIn_2 (by decide) ?_
  refine lv_istore (lv' := [(4, .int 0), (3, .int 0), (0, .ref (adr G sc)), (1, .ref (adr G r)), (2, .int li)]) hx hb dX2_showIn_3 hl (by decide) rfl (fun ls hl => ?_)
  have loop_5 : ∀ (fuel_5 : Nat) (i : Nat) (x : Int32), n + 1 ≤ i + fuel_5 → (i ≤ n) → (x = siM M sc r li i) → ∀ (H : Heap) (locs : List Loc), PW G M o H → va_S (pA G sz) s.heap H locs → ∀ ls : Array Slot, lv_has ls 5 [(4, .int (nI i)), (3, .int x), (0, .ref (adr G sc)), (1, .ref (adr G r)), (2, .int li)] → W p l e (rmU 3 64 0 0) s m ([.ref (adr G sc), .ref (adr G r), .int li] : List Value).toArray below meth c H locs 0 0 (MQ below (QI G M o (siM M sc r li n) sz) ([.ref (adr G sc), .ref (adr G r), .int li] : List Value).toArray s 0 0 (pA G sz)) (F0 m 5 ls []) := by
    intro fuel_5
    induction fuel_5 with
    | zero =>
      intro i x hf hi hxx
      exact absurd hf (by omega)
    | succ fuel_5 ih_5 =>
      intro i x hf hi hxx H locs hP hS ls hl
      refine lv_iload hx hb dX2_showIn_5 (lv_at hl 0 rfl) ?_
      refine lv_aload_n hx hb dX2_showIn_7 rfl (lv_at hl 2 rfl) ?_
      refine gf_X2_29 C0 hP (k := sc) (kdS hsc) dX2_showIn_8 ?_
      refine lv_icmp_ge (tgt := 38) hx hb dX2_showIn_11 (by decide) (fun c_1 => ?_) (fun c_1 => ?_)
      · rw [hn] at c_1
        have hi9 := lp_ge c_1 (by omega) hi
        refine lv_iload_n hx hb dX2_showIn_38 rfl (lv_at hl 1 rfl) ?_
        exact e_Ii C0 hr hP hS (by rw [hxx, hi9]) (by decide) dX2_showIn_39
      · rw [hn] at c_1
        have hlt := lp_lt c_1 (by omega) hi
        refine lv_aload_n hx hb dX2_showIn_14 rfl (lv_at hl 3 rfl) ?_
        refine lv_aload_n hx hb dX2_showIn_15 rfl (lv_at hl 2 rfl) ?_
        refine gf_X2_11 C0 hP (k := sc) (kdS hsc) dX2_showIn_16 ?_
        refine lv_iload hx hb dX2_showIn_19 (lv_at hl 0 rfl) ?_
        refine w_aldP C0 hP (k := sc + 1) (i := i) (kdS1 hsc) (by omega) dX2_showIn_21 ?_
        refine lv_iload_n hx hb dX2_showIn_22 rfl (lv_at hl 4 rfl) ?_
        refine k_VNI C0 hP hS (rest := []) (c_X1_showsWell l G M o r (sc + 3 + i) li hr0 (kdSp hsc (by omega))) mf_X1_showsWell ml_X2_50 (kd_lt hr0 (by decide)) (ct_1 hr0) rfl hl.1 (by decide) (by decide) (Nat.le_of_ble_eq_true rfl) rfl rfl dX2_showIn_23 (fun H locs hP hS => ?_)
        refine lv_if_eq (tgt := 32) hx hb dX2_showIn_26 (by decide) (fun c_2 => ?_) (fun c_2 => ?_)
        · refine lv_iinc (v := nI (i + 1)) (lv' := [(4, .int (nI (i + 1))), (3, .int x), (0, .ref (adr G sc)), (1, .ref (adr G r)), (2, .int li)]) hx hb dX2_showIn_32 hl (k := 0) rfl (nI_1 i) (by decide) rfl (fun ls hl => ?_)
          refine lv_goto (tgt := 5) hx hb dX2_showIn_35 (by decide) ?_
          exact ih_5 (i + 1) _ (by omega) (by omega) (by rw [hxx]; simp [siM, cntF, c_1, c_2]) _ _ hP hS _ (lv_sub hl [0, 1, 2, 3, 4] rfl)
        · refine lv_iinc (v := x + 1) (lv' := [(3, .int (x + 1)), (4, .int (nI i)), (0, .ref (adr G sc)), (1, .ref (adr G r)), (2, .int li)]) hx hb dX2_showIn_29 hl (k := 1) rfl rfl (by decide) rfl (fun ls hl => ?_)
          refine lv_iinc (v := nI (i + 1)) (lv' := [(4, .int (nI (i + 1))), (3, .int (x + 1)), (0, .ref (adr G sc)), (1, .ref (adr G r)), (2, .int li)]) hx hb dX2_showIn_32 hl (k := 1) rfl (nI_1 i) (by decide) rfl (fun ls hl => ?_)
          refine lv_goto (tgt := 5) hx hb dX2_showIn_35 (by decide) ?_
          exact ih_5 (i + 1) _ (by omega) (by omega) (by rw [hxx]; simp [siM, cntF, c_1, c_2]) _ _ hP hS _ (lv_sub hl [0, 1, 2, 3, 4] rfl)
  exact loop_5 (n + 1) 0 0 (by omega) (by omega) rfl _ _ hP hS _ (lv_sub hl [0, 1, 2, 3, 4] rfl)

set_option maxHeartbeats 4000000 in
set_option maxRecDepth 100000 in
theorem c_X2_roomsSeeingWell (l : Launch) (G : GG) (M : Mem) (o : Nat → Int64) (sc q : Nat) (li : Int32) (n : Nat) (hsc : sc = 4 ∨ sc = 25) (hq : kd q = 0) (hn : M sc 2 = nI n) (hle : n ≤ 8) : MI l yX2_roomsSeeingWell cX2_roomsSeeingWell 5 (some .int) 3 64 G [.ref (adr G sc), .ref (adr G q), .int li] M M o o (rsM M sc q li n) 0 0 := by
  refine MI_of RX2 rfl (by decide +kernel) (Nat.le_of_ble_eq_true rfl) ?_
  intro p e s m below meth c sz C0 hr hP ls hl
  have hx := C0.1
  have hb := C0.2.1
  have hS : va_S (pA G sz) s.heap s.heap [] := va_S.rf
  have hl : lv_has ls 5 [(0, .ref (adr G sc)), (1, .ref (adr G q)), (2, .int li)] := hl
  refine lv_iconst (v := 0) hx hb dX2_roomsSeeingWell_0 (by decide) ?_
  refine lv_istore_n (lv' := [(3, .int 0), (0, .ref (adr G sc)), (1, .ref (adr G q)), (2, .int li)]) hx hb dX2_roomsSeeingWell_1 rfl hl (by decide) rfl (fun ls hl => ?_)
  refine lv_iconst (v := 0) hx hb dX2_roomsSeeingWell_2 (by decide) ?_
  refine lv_istore (lv' := [(4, .int 0), (3, .int 0), (0, .ref (adr G sc)), (1, .ref (adr G q)), (2, .int li)]) hx hb dX2_roomsSeeingWell_3 hl (by decide) rfl (fun ls hl => ?_)
  have loop_5 : ∀ (fuel_5 : Nat) (i : Nat) (x : Int32), n + 1 ≤ i + fuel_5 → (i ≤ n) → (x = rsM M sc q li i) → ∀ (H : Heap) (locs : List Loc), PW G M o H → va_S (pA G sz) s.heap H locs → ∀ ls : Array Slot, lv_has ls 5 [(4, .int (nI i)), (3, .int x), (0, .ref (adr G sc)), (1, .ref (adr G q)), (2, .int li)] → W p l e (rmU 3 64 0 0) s m ([.ref (adr G sc), .ref (adr G q), .int li] : List Value).toArray below meth c H locs 0 0 (MQ below (QI G M o (rsM M sc q li n) sz) ([.ref (adr G sc), .ref (adr G q), .int li] : List Value).toArray s 0 0 (pA G sz)) (F0 m 5 ls []) := by
    intro fuel_5
    induction fuel_5 with
    | zero =>
      intro i x hf hi hxx
      exact absurd hf (by omega)
    | succ fuel_5 ih_5 =>
      intro i x hf hi hxx H locs hP hS ls hl
      refine lv_iload hx hb dX2_roomsSeeingWell_5 (lv_at hl 0 rfl) ?_
      refine lv_aload_n hx hb dX2_roomsSeeingWell_7 rfl (lv_at hl 2 rfl) ?_
      refine gf_X2_32 C0 hP (k := sc) (kdS hsc) dX2_roomsSeeingWell_8 ?_
      refine lv_icmp_ge (tgt := 38) hx hb dX2_roomsSeeingWell_11 (by decide) (fun c_1 => ?_) (fun c_1 => ?_)
      · rw [hn] at c_1
        have hi9 := lp_ge c_1 (by omega) hi
        refine lv_iload_n hx hb dX2_roomsSeeingWell_38 rfl (lv_at hl 1 rfl) ?_
        exact e_Ii C0 hr hP hS (by rw [hxx, hi9]) (by decide) dX2_roomsSeeingWell_39
      · rw [hn] at c_1
        have hlt := lp_lt c_1 (by omega) hi
        refine lv_aload_n hx hb dX2_roomsSeeingWell_14 rfl (lv_at hl 2 rfl) ?_
        refine gf_X2_19 C0 hP (k := sc) (kdS hsc) dX2_roomsSeeingWell_15 ?_
        refine lv_iload hx hb dX2_roomsSeeingWell_18 (lv_at hl 0 rfl) ?_
        refine w_aldR C0 hP (k := sc + 2) (i := i) (kdS2 hsc) (by omega) dX2_roomsSeeingWell_20 ?_
        refine lv_aload_n hx hb dX2_roomsSeeingWell_21 rfl (lv_at hl 3 rfl) ?_
        refine lv_iload_n hx hb dX2_roomsSeeingWell_22 rfl (lv_at hl 4 rfl) ?_
        refine k_VNI C0 hP hS (rest := []) (c_X1_showsWell l G M o (sc + 13 + i) q li (kdSr hsc (by omega)) hq) mf_X1_showsWell ml_X2_50 (kd_lt (kdSr hsc (by omega)) (by decide)) (ct_1 (kdSr hsc (by omega))) rfl hl.1 (by decide) (by decide) (Nat.le_of_ble_eq_true rfl) rfl rfl dX2_roomsSeeingWell_23 (fun H locs hP hS => ?_)
        refine lv_if_eq (tgt := 32) hx hb dX2_roomsSeeingWell_26 (by decide) (fun c_2 => ?_) (fun c_2 => ?_)
        · refine lv_iinc (v := nI (i + 1)) (lv' := [(4, .int (nI (i + 1))), (3, .int x), (0, .ref (adr G sc)), (1, .ref (adr G q)), (2, .int li)]) hx hb dX2_roomsSeeingWell_32 hl (k := 0) rfl (nI_1 i) (by decide) rfl (fun ls hl => ?_)
          refine lv_goto (tgt := 5) hx hb dX2_roomsSeeingWell_35 (by decide) ?_
          exact ih_5 (i + 1) _ (by omega) (by omega) (by rw [hxx]; simp [rsM, cntF, c_1, c_2]) _ _ hP hS _ (lv_sub hl [0, 1, 2, 3, 4] rfl)
        · refine lv_iinc (v := x + 1) (lv' := [(3, .int (x + 1)), (4, .int (nI i)), (0, .ref (adr G sc)), (1, .ref (adr G q)), (2, .int li)]) hx hb dX2_roomsSeeingWell_29 hl (k := 1) rfl rfl (by decide) rfl (fun ls hl => ?_)
          refine lv_iinc (v := nI (i + 1)) (lv' := [(4, .int (nI (i + 1))), (3, .int (x + 1)), (0, .ref (adr G sc)), (1, .ref (adr G q)), (2, .int li)]) hx hb dX2_roomsSeeingWell_32 hl (k := 1) rfl (nI_1 i) (by decide) rfl (fun ls hl => ?_)
          refine lv_goto (tgt := 5) hx hb dX2_roomsSeeingWell_35 (by decide) ?_
          exact ih_5 (i + 1) _ (by omega) (by omega) (by rw [hxx]; simp [rsM, cntF, c_1, c_2]) _ _ hP hS _ (lv_sub hl [0, 1, 2, 3, 4] rfl)
  exact loop_5 (n + 1) 0 0 (by omega) (by omega) rfl _ _ hP hS _ (lv_sub hl [0, 1, 2, 3, 4] rfl)

set_option maxHeartbeats 4000000 in
set_option maxRecDepth 100000 in
theorem c_X2_wallsWith (l : Launch) (G : GG) (M : Mem) (o : Nat → Int64) (sc q : Nat) (n : Nat) (hsc : sc = 4 ∨ sc = 25) (hq : kd q = 0) (hn : M sc 2 = nI n) (hle : n ≤ 8) : MI l yX2_wallsWith cX2_wallsWith 4 (some .int) 2 42 G [.ref (adr G sc), .ref (adr G q)] M M o o (waM M sc q n) 0 0 := by
  refine MI_of RX2 rfl (by decide +kernel) (Nat.le_of_ble_eq_true rfl) ?_
  intro p e s m below meth c sz C0 hr hP ls hl
  have hx := C0.1
  have hb := C0.2.1
  have hS : va_S (pA G sz) s.heap s.heap [] := va_S.rf
  have hl : lv_has ls 4 [(0, .ref (adr G sc)), (1, .ref (adr G q))] := hl
  refine lv_iconst (v := 0) hx hb dX2_wallsWith_0 (by decide) ?_
  refine lv_istore_n (lv' := [(2, .int 0), (0, .ref (adr G sc)), (1, .ref (adr G q))]) hx hb dX2_wallsWith_1 rfl hl (by decide) rfl (fun ls hl => ?_)
  refine lv_iconst (v := 0) hx hb dX2_wallsWith_2 (by decide) ?_
  refine lv_istore_n (lv' := [(3, .int 0), (2, .int 0), (0, .ref (adr G sc)), (1, .ref (adr G q))]) hx hb dX2_wallsWith_3 rfl hl (by decide) rfl (fun ls hl => ?_)
  have loop_4 : ∀ (fuel_4 : Nat) (i : Nat) (x : Int32), n + 1 ≤ i + fuel_4 → (i ≤ n) → (x = waM M sc q i) → ∀ (H : Heap) (locs : List Loc), PW G M o H → va_S (pA G sz) s.heap H locs → ∀ ls : Array Slot, lv_has ls 4 [(3, .int (nI i)), (2, .int x), (0, .ref (adr G sc)), (1, .ref (adr G q))] → W p l e (rmU 2 42 0 0) s m ([.ref (adr G sc), .ref (adr G q)] : List Value).toArray below meth c H locs 0 0 (MQ below (QI G M o (waM M sc q n) sz) ([.ref (adr G sc), .ref (adr G q)] : List Value).toArray s 0 0 (pA G sz)) (F0 m 4 ls []) := by
    intro fuel_4
    induction fuel_4 with
    | zero =>
      intro i x hf hi hxx
      exact absurd hf (by omega)
    | succ fuel_4 ih_4 =>
      intro i x hf hi hxx H locs hP hS ls hl
      refine lv_iload_n hx hb dX2_wallsWith_4 rfl (lv_at hl 0 rfl) ?_
      refine lv_aload_n hx hb dX2_wallsWith_5 rfl (lv_at hl 2 rfl) ?_
      refine gf_X2_32 C0 hP (k := sc) (kdS hsc) dX2_wallsWith_6 ?_
      refine lv_icmp_ge (tgt := 37) hx hb dX2_wallsWith_9 (by decide) (fun c_1 => ?_) (fun c_1 => ?_)
      · rw [hn] at c_1
        have hi9 := lp_ge c_1 (by omega) hi
        refine lv_iload_n hx hb dX2_wallsWith_37 rfl (lv_at hl 1 rfl) ?_
        exact e_Ii C0 hr hP hS (by rw [hxx, hi9]) (by decide) dX2_wallsWith_38
      · rw [hn] at c_1
        have hlt := lp_lt c_1 (by omega) hi
        refine lv_aload_n hx hb dX2_wallsWith_12 rfl (lv_at hl 2 rfl) ?_
        refine gf_X2_19 C0 hP (k := sc) (kdS hsc) dX2_wallsWith_13 ?_
        refine lv_iload_n hx hb dX2_wallsWith_16 rfl (lv_at hl 0 rfl) ?_
        refine w_aldR C0 hP (k := sc + 2) (i := i) (kdS2 hsc) (by omega) dX2_wallsWith_17 ?_
        refine lv_aload_n hx hb dX2_wallsWith_18 rfl (lv_at hl 3 rfl) ?_
        refine k_VNI C0 hP hS (rest := []) (c_X1_shows l G M o (sc + 13 + i) q (kdSr hsc (by omega)) hq) mf_X1_shows ml_X2_54 (kd_lt (kdSr hsc (by omega)) (by decide)) (ct_1 (kdSr hsc (by omega))) rfl hl.1 (by decide) (by decide) (Nat.le_of_ble_eq_true rfl) rfl rfl dX2_wallsWith_19 (fun H locs hP hS => ?_)
        refine lv_if_eq (tgt := 31) hx hb dX2_wallsWith_22 (by decide) (fun c_2 => ?_) (fun c_2 => ?_)
        · refine lv_iinc (v := nI (i + 1)) (lv' := [(3, .int (nI (i + 1))), (2, .int x), (0, .ref (adr G sc)), (1, .ref (adr G q))]) hx hb dX2_wallsWith_31 hl (k := 0) rfl (nI_1 i) (by decide) rfl (fun ls hl => ?_)
          refine lv_goto (tgt := 4) hx hb dX2_wallsWith_34 (by decide) ?_
          exact ih_4 (i + 1) _ (by omega) (by omega) (by rw [hxx]; simp [waM, setF, c_1, c_2]) _ _ hP hS _ (lv_sub hl [0, 1, 2, 3] rfl)
        · refine lv_iload_n hx hb dX2_wallsWith_25 rfl (lv_at hl 1 rfl) ?_
          refine lv_iconst (v := 1) hx hb dX2_wallsWith_26 (by decide) ?_
          refine lv_iload_n hx hb dX2_wallsWith_27 rfl (lv_at hl 0 rfl) ?_
          refine lv_ishl hx hb dX2_wallsWith_28 ?_
          refine lv_ior hx hb dX2_wallsWith_29 ?_
          refine lv_istore_n (lv' := [(2, .int (x ||| (1 <<< ((nI i) &&& 31)))), (3, .int (nI i)), (0, .ref (adr G sc)), (1, .ref (adr G q))]) hx hb dX2_wallsWith_30 rfl hl (by decide) rfl (fun ls hl => ?_)
          refine lv_iinc (v := nI (i + 1)) (lv' := [(3, .int (nI (i + 1))), (2, .int (x ||| (1 <<< ((nI i) &&& 31)))), (0, .ref (adr G sc)), (1, .ref (adr G q))]) hx hb dX2_wallsWith_31 hl (k := 1) rfl (nI_1 i) (by decide) rfl (fun ls hl => ?_)
          refine lv_goto (tgt := 4) hx hb dX2_wallsWith_34 (by decide) ?_
          exact ih_4 (i + 1) _ (by omega) (by omega) (by rw [hxx]; simp [waM, setF, c_1, c_2]) _ _ hP hS _ (lv_sub hl [0, 1, 2, 3] rfl)
  exact loop_4 (n + 1) 0 0 (by omega) (by omega) rfl _ _ hP hS _ (lv_sub hl [0, 1, 2, 3] rfl)

set_option maxHeartbeats 4000000 in
set_option maxRecDepth 100000 in
theorem c_X2_passersGone (l : Launch) (G : GG) (M : Mem) (o : Nat → Int64) (sc : Nat) (n : Nat) (hsc : sc = 4 ∨ sc = 25) (hn : M sc 1 = nI n) (hle : n ≤ 10) : MI l yX2_passersGone cX2_passersGone 3 (some .int) 1 20 G [.ref (adr G sc)] M M o o (goM M sc n) 0 0 := by
  refine MI_of RX2 rfl (by decide +kernel) (Nat.le_of_ble_eq_true rfl) ?_
  intro p e s m below meth c sz C0 hr hP ls hl
  have hx := C0.1
  have hb := C0.2.1
  have hS : va_S (pA G sz) s.heap s.heap [] := va_S.rf
  have hl : lv_has ls 3 [(0, .ref (adr G sc))] := hl
  refine lv_iconst (v := 0) hx hb dX2_passersGone_0 (by decide) ?_
  refine lv_istore_n (lv' := [(1, .int 0), (0, .ref (adr G sc))]) hx hb dX2_passersGone_1 rfl hl (by decide) rfl (fun ls hl => ?_)
  refine lv_iconst (v := 0) hx hb dX2_passersGone_2 (by decide) ?_
  refine lv_istore_n (lv' := [(2, .int 0), (1, .int 0), (0, .ref (adr G sc))]) hx hb dX2_passersGone_3 rfl hl (by decide) rfl (fun ls hl => ?_)
  have loop_4 : ∀ (fuel_4 : Nat) (i : Nat) (x : Int32), n + 1 ≤ i + fuel_4 → (i ≤ n) → (x = goM M sc i) → ∀ (H : Heap) (locs : List Loc), PW G M o H → va_S (pA G sz) s.heap H locs → ∀ ls : Array Slot, lv_has ls 3 [(2, .int (nI i)), (1, .int x), (0, .ref (adr G sc))] → W p l e (rmU 1 20 0 0) s m ([.ref (adr G sc)] : List Value).toArray below meth c H locs 0 0 (MQ below (QI G M o (goM M sc n) sz) ([.ref (adr G sc)] : List Value).toArray s 0 0 (pA G sz)) (F0 m 4 ls []) := by
    intro fuel_4
    induction fuel_4 with
    | zero =>
      intro i x hf hi hxx
      exact absurd hf (by omega)
    | succ fuel_4 ih_4 =>
      intro i x hf hi hxx H locs hP hS ls hl
      refine lv_iload_n hx hb dX2_passersGone_4 rfl (lv_at hl 0 rfl) ?_
      refine lv_aload_n hx hb dX2_passersGone_5 rfl (lv_at hl 2 rfl) ?_
      refine gf_X2_29 C0 hP (k := sc) (kdS hsc) dX2_passersGone_6 ?_
      refine lv_icmp_ge (tgt := 33) hx hb dX2_passersGone_9 (by decide) (fun c_1 => ?_) (fun c_1 => ?_)
      · rw [hn] at c_1
        have hi9 := lp_ge c_1 (by omega) hi
        refine lv_iload_n hx hb dX2_passersGone_33 rfl (lv_at hl 1 rfl) ?_
        exact e_Ii C0 hr hP hS (by rw [hxx, hi9]) (by decide) dX2_passersGone_34
      · rw [hn] at c_1
        have hlt := lp_lt c_1 (by omega) hi
        refine lv_aload_n hx hb dX2_passersGone_12 rfl (lv_at hl 2 rfl) ?_
        refine gf_X2_11 C0 hP (k := sc) (kdS hsc) dX2_passersGone_13 ?_
        refine lv_iload_n hx hb dX2_passersGone_16 rfl (lv_at hl 0 rfl) ?_
        refine w_aldP C0 hP (k := sc + 1) (i := i) (kdS1 hsc) (by omega) dX2_passersGone_17 ?_
        refine k_VNI C0 hP hS (rest := []) (c_X0_isGone l G M o (sc + 3 + i) (kdSp hsc (by omega))) mf_X0_isGone ml_X2_45 (kd_lt (kdSp hsc (by omega)) (by decide)) (ct_0 (kdSp hsc (by omega))) rfl hl.1 (by decide) (by decide) (Nat.le_of_ble_eq_true rfl) rfl rfl dX2_passersGone_18 (fun H locs hP hS => ?_)
        refine lv_if_eq (tgt := 27) hx hb dX2_passersGone_21 (by decide) (fun c_2 => ?_) (fun c_2 => ?_)
        · refine lv_iinc (v := nI (i + 1)) (lv' := [(2, .int (nI (i + 1))), (1, .int x), (0, .ref (adr G sc))]) hx hb dX2_passersGone_27 hl (k := 0) rfl (nI_1 i) (by decide) rfl (fun ls hl => ?_)
          refine lv_goto (tgt := 4) hx hb dX2_passersGone_30 (by decide) ?_
          exact ih_4 (i + 1) _ (by omega) (by omega) (by rw [hxx]; simp [goM, cntF, c_1, c_2]) _ _ hP hS _ (lv_sub hl [0, 1, 2] rfl)
        · refine lv_iinc (v := x + 1) (lv' := [(1, .int (x + 1)), (2, .int (nI i)), (0, .ref (adr G sc))]) hx hb dX2_passersGone_24 hl (k := 1) rfl rfl (by decide) rfl (fun ls hl => ?_)
          refine lv_iinc (v := nI (i + 1)) (lv' := [(2, .int (nI (i + 1))), (1, .int (x + 1)), (0, .ref (adr G sc))]) hx hb dX2_passersGone_27 hl (k := 1) rfl (nI_1 i) (by decide) rfl (fun ls hl => ?_)
          refine lv_goto (tgt := 4) hx hb dX2_passersGone_30 (by decide) ?_
          exact ih_4 (i + 1) _ (by omega) (by omega) (by rw [hxx]; simp [goM, cntF, c_1, c_2]) _ _ hP hS _ (lv_sub hl [0, 1, 2] rfl)
  exact loop_4 (n + 1) 0 0 (by omega) (by omega) rfl _ _ hP hS _ (lv_sub hl [0, 1, 2] rfl)

set_option maxHeartbeats 4000000 in
set_option maxRecDepth 100000 in
theorem c_X2_passersAt (l : Launch) (G : GG) (M : Mem) (o : Nat → Int64) (sc : Nat) (v : Int32) (n : Nat) (hsc : sc = 4 ∨ sc = 25) (hn : M sc 1 = nI n) (hle : n ≤ 10) : MI l yX2_passersAt cX2_passersAt 4 (some .int) 1 20 G [.ref (adr G sc), .int v] M M o o (paM M sc v n) 0 0 := by
  refine MI_of RX2 rfl (by decide +kernel) (Nat.le_of_ble_eq_true rfl) ?_
  intro p e s m below meth c sz C0 hr hP ls hl
  have hx := C0.1
  have hb := C0.2.1
  have hS : va_S (pA G sz) s.heap s.heap [] := va_S.rf
  have hl : lv_has ls 4 [(0, .ref (adr G sc)), (1, .int v)] := hl
  refine lv_iconst (v := 0) hx hb dX2_passersAt_0 (by decide) ?_
  refine lv_istore_n (lv' := [(2, .int 0), (0, .ref (adr G sc)), (1, .int v)]) hx hb dX2_passersAt_1 rfl hl (by decide) rfl (fun ls hl => ?_)
  refine lv_iconst (v := 0) hx hb dX2_passersAt_2 (by decide) ?_
  refine lv_istore_n (lv' := [(3, .int 0), (2, .int 0), (0, .ref (adr G sc)), (1, .int v)]) hx hb dX2_passersAt_3 rfl hl (by decide) rfl (fun ls hl => ?_)
  have loop_4 : ∀ (fuel_4 : Nat) (i : Nat) (x : Int32), n + 1 ≤ i + fuel_4 → (i ≤ n) → (x = paM M sc v i) → ∀ (H : Heap) (locs : List Loc), PW G M o H → va_S (pA G sz) s.heap H locs → ∀ ls : Array Slot, lv_has ls 4 [(3, .int (nI i)), (2, .int x), (0, .ref (adr G sc)), (1, .int v)] → W p l e (rmU 1 20 0 0) s m ([.ref (adr G sc), .int v] : List Value).toArray below meth c H locs 0 0 (MQ below (QI G M o (paM M sc v n) sz) ([.ref (adr G sc), .int v] : List Value).toArray s 0 0 (pA G sz)) (F0 m 4 ls []) := by
    intro fuel_4
    induction fuel_4 with
    | zero =>
      intro i x hf hi hxx
      exact absurd hf (by omega)
    | succ fuel_4 ih_4 =>
      intro i x hf hi hxx H locs hP hS ls hl
      refine lv_iload_n hx hb dX2_passersAt_4 rfl (lv_at hl 0 rfl) ?_
      refine lv_aload_n hx hb dX2_passersAt_5 rfl (lv_at hl 2 rfl) ?_
      refine gf_X2_29 C0 hP (k := sc) (kdS hsc) dX2_passersAt_6 ?_
      refine lv_icmp_ge (tgt := 46) hx hb dX2_passersAt_9 (by decide) (fun c_1 => ?_) (fun c_1 => ?_)
      · rw [hn] at c_1
        have hi9 := lp_ge c_1 (by omega) hi
        refine lv_iload_n hx hb dX2_passersAt_46 rfl (lv_at hl 1 rfl) ?_
        exact e_Ii C0 hr hP hS (by rw [hxx, hi9]) (by decide) dX2_passersAt_47
      · rw [hn] at c_1
        have hlt := lp_lt c_1 (by omega) hi
        refine lv_aload_n hx hb dX2_passersAt_12 rfl (lv_at hl 2 rfl) ?_
        refine gf_X2_11 C0 hP (k := sc) (kdS hsc) dX2_passersAt_13 ?_
        refine lv_iload_n hx hb dX2_passersAt_16 rfl (lv_at hl 0 rfl) ?_
        refine w_aldP C0 hP (k := sc + 1) (i := i) (kdS1 hsc) (by omega) dX2_passersAt_17 ?_
        refine k_VNI C0 hP hS (rest := []) (c_X0_isGone l G M o (sc + 3 + i) (kdSp hsc (by omega))) mf_X0_isGone ml_X2_45 (kd_lt (kdSp hsc (by omega)) (by decide)) (ct_0 (kdSp hsc (by omega))) rfl hl.1 (by decide) (by decide) (Nat.le_of_ble_eq_true rfl) rfl rfl dX2_passersAt_18 (fun H locs hP hS => ?_)
        refine lv_if_ne (tgt := 40) hx hb dX2_passersAt_21 (by decide) (fun c_2 => ?_) (fun c_2 => ?_)
        · refine lv_iinc (v := nI (i + 1)) (lv' := [(3, .int (nI (i + 1))), (2, .int x), (0, .ref (adr G sc)), (1, .int v)]) hx hb dX2_passersAt_40 hl (k := 0) rfl (nI_1 i) (by decide) rfl (fun ls hl => ?_)
          refine lv_goto (tgt := 4) hx hb dX2_passersAt_43 (by decide) ?_
          exact ih_4 (i + 1) _ (by omega) (by omega) (by rw [hxx]; simp [paM, cntF, atF, c_1, c_2]) _ _ hP hS _ (lv_sub hl [0, 1, 2, 3] rfl)
        · refine lv_aload_n hx hb dX2_passersAt_24 rfl (lv_at hl 2 rfl) ?_
          refine gf_X2_11 C0 hP (k := sc) (kdS hsc) dX2_passersAt_25 ?_
          refine lv_iload_n hx hb dX2_passersAt_28 rfl (lv_at hl 0 rfl) ?_
          refine w_aldP C0 hP (k := sc + 1) (i := i) (kdS1 hsc) (by omega) dX2_passersAt_29 ?_
          refine gf_X2_49 C0 hP (k := sc + 3 + i) (kdSp hsc (by omega)) dX2_passersAt_30 ?_
          refine lv_iload_n hx hb dX2_passersAt_33 rfl (lv_at hl 3 rfl) ?_
          refine lv_icmp_ne (tgt := 40) hx hb dX2_passersAt_34 (by decide) (fun c_3 => ?_) (fun c_3 => ?_)
          · refine lv_iinc (v := nI (i + 1)) (lv' := [(3, .int (nI (i + 1))), (2, .int x), (0, .ref (adr G sc)), (1, .int v)]) hx hb dX2_passersAt_40 hl (k := 0) rfl (nI_1 i) (by decide) rfl (fun ls hl => ?_)
            refine lv_goto (tgt := 4) hx hb dX2_passersAt_43 (by decide) ?_
            exact ih_4 (i + 1) _ (by omega) (by omega) (by rw [hxx]; simp [paM, cntF, atF, c_1, c_2, c_3]) _ _ hP hS _ (lv_sub hl [0, 1, 2, 3] rfl)
          · replace c_3 := eq_true c_3
            refine lv_iinc (v := x + 1) (lv' := [(2, .int (x + 1)), (3, .int (nI i)), (0, .ref (adr G sc)), (1, .int v)]) hx hb dX2_passersAt_37 hl (k := 1) rfl rfl (by decide) rfl (fun ls hl => ?_)
            refine lv_iinc (v := nI (i + 1)) (lv' := [(3, .int (nI (i + 1))), (2, .int (x + 1)), (0, .ref (adr G sc)), (1, .int v)]) hx hb dX2_passersAt_40 hl (k := 1) rfl (nI_1 i) (by decide) rfl (fun ls hl => ?_)
            refine lv_goto (tgt := 4) hx hb dX2_passersAt_43 (by decide) ?_
            exact ih_4 (i + 1) _ (by omega) (by omega) (by rw [hxx]; simp [paM, cntF, atF, c_1, c_2, c_3]) _ _ hP hS _ (lv_sub hl [0, 1, 2, 3] rfl)
  exact loop_4 (n + 1) 0 0 (by omega) (by omega) rfl _ _ hP hS _ (lv_sub hl [0, 1, 2, 3] rfl)

set_option maxHeartbeats 4000000 in
set_option maxRecDepth 100000 in
theorem c_X2_allPeople (l : Launch) (G : GG) (M : Mem) (o : Nat → Int64) (sc : Nat) (n : Nat) (hsc : sc = 4 ∨ sc = 25) (hn : M sc 2 = nI n) (hle : n ≤ 8) : MI l yX2_allPeople cX2_allPeople 3 (some .int) 0 0 G [.ref (adr G sc)] M M o o (peM M sc n) 0 0 := by
  refine MI_of RX2 rfl (by decide +kernel) (Nat.le_of_ble_eq_true rfl) ?_
  intro p e s m below meth c sz C0 hr hP ls hl
  have hx := C0.1
  have hb := C0.2.1
  have hS : va_S (pA G sz) s.heap s.heap [] := va_S.rf
  have hl : lv_has ls 3 [(0, .ref (adr G sc))] := hl
  refine lv_iconst (v := 0) hx hb dX2_allPeople_0 (by decide) ?_
  refine lv_istore_n (lv' := [(1, .int 0), (0, .ref (adr G sc))]) hx hb dX2_allPeople_1 rfl hl (by decide) rfl (fun ls hl => ?_)
  refine lv_iconst (v := 0) hx hb dX2_allPeople_2 (by decide) ?_
  refine lv_istore_n (lv' := [(2, .int 0), (1, .int 0), (0, .ref (adr G sc))]) hx hb dX2_allPeople_3 rfl hl (by decide) rfl (fun ls hl => ?_)
  have loop_4 : ∀ (fuel_4 : Nat) (i : Nat) (x : Int32), n + 1 ≤ i + fuel_4 → (i ≤ n) → (x = peM M sc i) → ∀ (H : Heap) (locs : List Loc), PW G M o H → va_S (pA G sz) s.heap H locs → ∀ ls : Array Slot, lv_has ls 3 [(2, .int (nI i)), (1, .int x), (0, .ref (adr G sc))] → W p l e (rmU 0 0 0 0) s m ([.ref (adr G sc)] : List Value).toArray below meth c H locs 0 0 (MQ below (QI G M o (peM M sc n) sz) ([.ref (adr G sc)] : List Value).toArray s 0 0 (pA G sz)) (F0 m 4 ls []) := by
    intro fuel_4
    induction fuel_4 with
    | zero =>
      intro i x hf hi hxx
      exact absurd hf (by omega)
    | succ fuel_4 ih_4 =>
      intro i x hf hi hxx H locs hP hS ls hl
      refine lv_iload_n hx hb dX2_allPeople_4 rfl (lv_at hl 0 rfl) ?_
      refine lv_aload_n hx hb dX2_allPeople_5 rfl (lv_at hl 2 rfl) ?_
      refine gf_X2_32 C0 hP (k := sc) (kdS hsc) dX2_allPeople_6 ?_
      refine lv_icmp_ge (tgt := 30) hx hb dX2_allPeople_9 (by decide) (fun c_1 => ?_) (fun c_1 => ?_)
      · rw [hn] at c_1
        have hi9 := lp_ge c_1 (by omega) hi
        refine lv_iload_n hx hb dX2_allPeople_30 rfl (lv_at hl 1 rfl) ?_
        exact e_Ii C0 hr hP hS (by rw [hxx, hi9]) (by decide) dX2_allPeople_31
      · rw [hn] at c_1
        have hlt := lp_lt c_1 (by omega) hi
        refine lv_iload_n hx hb dX2_allPeople_12 rfl (lv_at hl 1 rfl) ?_
        refine lv_aload_n hx hb dX2_allPeople_13 rfl (lv_at hl 2 rfl) ?_
        refine gf_X2_19 C0 hP (k := sc) (kdS hsc) dX2_allPeople_14 ?_
        refine lv_iload_n hx hb dX2_allPeople_17 rfl (lv_at hl 0 rfl) ?_
        refine w_aldR C0 hP (k := sc + 2) (i := i) (kdS2 hsc) (by omega) dX2_allPeople_18 ?_
        refine gf_X2_62 C0 hP (k := sc + 13 + i) (kdSr hsc (by omega)) dX2_allPeople_19 ?_
        refine lv_iadd hx hb dX2_allPeople_22 ?_
        refine lv_istore_n (lv' := [(1, .int (x + (M (sc + 13 + i) 5))), (2, .int (nI i)), (0, .ref (adr G sc))]) hx hb dX2_allPeople_23 rfl hl (by decide) rfl (fun ls hl => ?_)
        refine lv_iinc (v := nI (i + 1)) (lv' := [(2, .int (nI (i + 1))), (1, .int (x + (M (sc + 13 + i) 5))), (0, .ref (adr G sc))]) hx hb dX2_allPeople_24 hl (k := 1) rfl (nI_1 i) (by decide) rfl (fun ls hl => ?_)
        refine lv_goto (tgt := 4) hx hb dX2_allPeople_27 (by decide) ?_
        exact ih_4 (i + 1) _ (by omega) (by omega) (by rw [hxx]; simp [peM, sumF, c_1]) _ _ hP hS _ (lv_sub hl [0, 1, 2] rfl)
  exact loop_4 (n + 1) 0 0 (by omega) (by omega) rfl _ _ hP hS _ (lv_sub hl [0, 1, 2] rfl)

set_option maxHeartbeats 4000000 in
set_option maxRecDepth 100000 in
theorem c_X2_allPence (l : Launch) (G : GG) (M : Mem) (o : Nat → Int64) (sc : Nat) (n : Nat) (hsc : sc = 4 ∨ sc = 25) (hn : M sc 2 = nI n) (hle : n ≤ 8) : MI l yX2_allPence cX2_allPence 3 (some .int) 0 0 G [.ref (adr G sc)] M M o o (pnM M sc n) 0 0 := by
  refine MI_of RX2 rfl (by decide +kernel) (Nat.le_of_ble_eq_true rfl) ?_
  intro p e s m below meth c sz C0 hr hP ls hl
  have hx := C0.1
  have hb := C0.2.1
  have hS : va_S (pA G sz) s.heap s.heap [] := va_S.rf
  have hl : lv_has ls 3 [(0, .ref (adr G sc))] := hl
  refine lv_iconst (v := 0) hx hb dX2_allPence_0 (by decide) ?_
  refine lv_istore_n (lv' := [(1, .int 0), (0, .ref (adr G sc))]) hx hb dX2_allPence_1 rfl hl (by decide) rfl (fun ls hl => ?_)
  refine lv_iconst (v := 0) hx hb dX2_allPence_2 (by decide) ?_
  refine lv_istore_n (lv' := [(2, .int 0), (1, .int 0), (0, .ref (adr G sc))]) hx hb dX2_allPence_3 rfl hl (by decide) rfl (fun ls hl => ?_)
  have loop_4 : ∀ (fuel_4 : Nat) (i : Nat) (x : Int32), n + 1 ≤ i + fuel_4 → (i ≤ n) → (x = pnM M sc i) → ∀ (H : Heap) (locs : List Loc), PW G M o H → va_S (pA G sz) s.heap H locs → ∀ ls : Array Slot, lv_has ls 3 [(2, .int (nI i)), (1, .int x), (0, .ref (adr G sc))] → W p l e (rmU 0 0 0 0) s m ([.ref (adr G sc)] : List Value).toArray below meth c H locs 0 0 (MQ below (QI G M o (pnM M sc n) sz) ([.ref (adr G sc)] : List Value).toArray s 0 0 (pA G sz)) (F0 m 4 ls []) := by
    intro fuel_4
    induction fuel_4 with
    | zero =>
      intro i x hf hi hxx
      exact absurd hf (by omega)
    | succ fuel_4 ih_4 =>
      intro i x hf hi hxx H locs hP hS ls hl
      refine lv_iload_n hx hb dX2_allPence_4 rfl (lv_at hl 0 rfl) ?_
      refine lv_aload_n hx hb dX2_allPence_5 rfl (lv_at hl 2 rfl) ?_
      refine gf_X2_32 C0 hP (k := sc) (kdS hsc) dX2_allPence_6 ?_
      refine lv_icmp_ge (tgt := 30) hx hb dX2_allPence_9 (by decide) (fun c_1 => ?_) (fun c_1 => ?_)
      · rw [hn] at c_1
        have hi9 := lp_ge c_1 (by omega) hi
        refine lv_iload_n hx hb dX2_allPence_30 rfl (lv_at hl 1 rfl) ?_
        exact e_Ii C0 hr hP hS (by rw [hxx, hi9]) (by decide) dX2_allPence_31
      · rw [hn] at c_1
        have hlt := lp_lt c_1 (by omega) hi
        refine lv_iload_n hx hb dX2_allPence_12 rfl (lv_at hl 1 rfl) ?_
        refine lv_aload_n hx hb dX2_allPence_13 rfl (lv_at hl 2 rfl) ?_
        refine gf_X2_19 C0 hP (k := sc) (kdS hsc) dX2_allPence_14 ?_
        refine lv_iload_n hx hb dX2_allPence_17 rfl (lv_at hl 0 rfl) ?_
        refine w_aldR C0 hP (k := sc + 2) (i := i) (kdS2 hsc) (by omega) dX2_allPence_18 ?_
        refine gf_X2_65 C0 hP (k := sc + 13 + i) (kdSr hsc (by omega)) dX2_allPence_19 ?_
        refine lv_iadd hx hb dX2_allPence_22 ?_
        refine lv_istore_n (lv' := [(1, .int (x + (M (sc + 13 + i) 6))), (2, .int (nI i)), (0, .ref (adr G sc))]) hx hb dX2_allPence_23 rfl hl (by decide) rfl (fun ls hl => ?_)
        refine lv_iinc (v := nI (i + 1)) (lv' := [(2, .int (nI (i + 1))), (1, .int (x + (M (sc + 13 + i) 6))), (0, .ref (adr G sc))]) hx hb dX2_allPence_24 hl (k := 1) rfl (nI_1 i) (by decide) rfl (fun ls hl => ?_)
        refine lv_goto (tgt := 4) hx hb dX2_allPence_27 (by decide) ?_
        exact ih_4 (i + 1) _ (by omega) (by omega) (by rw [hxx]; simp [pnM, sumF, c_1]) _ _ hP hS _ (lv_sub hl [0, 1, 2] rfl)
  exact loop_4 (n + 1) 0 0 (by omega) (by omega) rfl _ _ hP hS _ (lv_sub hl [0, 1, 2] rfl)

set_option maxHeartbeats 4000000 in
set_option maxRecDepth 100000 in
theorem c_X2_allShows (l : Launch) (G : GG) (M : Mem) (o : Nat → Int64) (sc : Nat) (li : Int32) (np n : Nat) (hsc : sc = 4 ∨ sc = 25) (hnp : M sc 1 = nI np) (hple : np ≤ 10) (hn : M sc 2 = nI n) (hle : n ≤ 8) : MI l yX2_allShows cX2_allShows 4 (some .int) 4 88 G [.ref (adr G sc), .int li] M M o o (asM M sc li np n) 0 0 := by
  refine MI_of RX2 rfl (by decide +kernel) (Nat.le_of_ble_eq_true rfl) ?_
  intro p e s m below meth c sz C0 hr hP ls hl
  have hx := C0.1
  have hb := C0.2.1
  have hS : va_S (pA G sz) s.heap s.heap [] := va_S.rf
  have hl : lv_has ls 4 [(0, .ref (adr G sc)), (1, .int li)] := hl
  refine lv_iconst (v := 0) hx hb dX2_allShows_0 (by decide) ?_
  refine lv_istore_n (lv' := [(2, .int 0), (0, .ref (adr G sc)), (1, .int li)]) hx hb dX2_allShows_1 rfl hl (by decide) rfl (fun ls hl => ?_)
  refine lv_iconst (v := 0) hx hb dX2_allShows_2 (by decide) ?_
  refine lv_istore_n (lv' := [(3, .int 0), (2, .int 0), (0, .ref (adr G sc)), (1, .int li)]) hx hb dX2_allShows_3 rfl hl (by decide) rfl (fun ls hl => ?_)
  have loop_4 : ∀ (fuel_4 : Nat) (i : Nat) (x : Int32), n + 1 ≤ i + fuel_4 → (i ≤ n) → (x = asM M sc li np i) → ∀ (H : Heap) (locs : List Loc), PW G M o H → va_S (pA G sz) s.heap H locs → ∀ ls : Array Slot, lv_has ls 4 [(3, .int (nI i)), (2, .int x), (0, .ref (adr G sc)), (1, .int li)] → W p l e (rmU 4 88 0 0) s m ([.ref (adr G sc), .int li] : List Value).toArray below meth c H locs 0 0 (MQ below (QI G M o (asM M sc li np n) sz) ([.ref (adr G sc), .int li] : List Value).toArray s 0 0 (pA G sz)) (F0 m 4 ls []) := by
    intro fuel_4
    induction fuel_4 with
    | zero =>
      intro i x hf hi hxx
      exact absurd hf (by omega)
    | succ fuel_4 ih_4 =>
      intro i x hf hi hxx H locs hP hS ls hl
      refine lv_iload_n hx hb dX2_allShows_4 rfl (lv_at hl 0 rfl) ?_
      refine lv_aload_n hx hb dX2_allShows_5 rfl (lv_at hl 2 rfl) ?_
      refine gf_X2_32 C0 hP (k := sc) (kdS hsc) dX2_allShows_6 ?_
      refine lv_icmp_ge (tgt := 32) hx hb dX2_allShows_9 (by decide) (fun c_1 => ?_) (fun c_1 => ?_)
      · rw [hn] at c_1
        have hi9 := lp_ge c_1 (by omega) hi
        refine lv_iload_n hx hb dX2_allShows_32 rfl (lv_at hl 1 rfl) ?_
        exact e_Ii C0 hr hP hS (by rw [hxx, hi9]) (by decide) dX2_allShows_33
      · rw [hn] at c_1
        have hlt := lp_lt c_1 (by omega) hi
        refine lv_iload_n hx hb dX2_allShows_12 rfl (lv_at hl 1 rfl) ?_
        refine lv_aload_n hx hb dX2_allShows_13 rfl (lv_at hl 2 rfl) ?_
        refine lv_aload_n hx hb dX2_allShows_14 rfl (lv_at hl 2 rfl) ?_
        refine gf_X2_19 C0 hP (k := sc) (kdS hsc) dX2_allShows_15 ?_
        refine lv_iload_n hx hb dX2_allShows_18 rfl (lv_at hl 0 rfl) ?_
        refine w_aldR C0 hP (k := sc + 2) (i := i) (kdS2 hsc) (by omega) dX2_allShows_19 ?_
        refine lv_iload_n hx hb dX2_allShows_20 rfl (lv_at hl 3 rfl) ?_
        refine k_VI C0 hP hS (rest := [.int x]) (c_X2_showIn l G M o sc (sc + 13 + i) li np hsc (kdSr hsc (by omega)) hnp hple) mf_X2_showIn ml_X2_58 (kd_lt (kdS hsc) (by decide)) (ct_2 (kdS hsc)) rfl hl.1 (by decide) (by decide) (Nat.le_of_ble_eq_true rfl) rfl rfl dX2_allShows_21 (fun H locs hP hS => ?_)
        refine lv_iadd hx hb dX2_allShows_24 ?_
        refine lv_istore_n (lv' := [(2, .int (x + (siM M sc (sc + 13 + i) li np))), (3, .int (nI i)), (0, .ref (adr G sc)), (1, .int li)]) hx hb dX2_allShows_25 rfl hl (by decide) rfl (fun ls hl => ?_)
        refine lv_iinc (v := nI (i + 1)) (lv' := [(3, .int (nI (i + 1))), (2, .int (x + (siM M sc (sc + 13 + i) li np))), (0, .ref (adr G sc)), (1, .int li)]) hx hb dX2_allShows_26 hl (k := 1) rfl (nI_1 i) (by decide) rfl (fun ls hl => ?_)
        refine lv_goto (tgt := 4) hx hb dX2_allShows_29 (by decide) ?_
        exact ih_4 (i + 1) _ (by omega) (by omega) (by rw [hxx]; simp [asM, sumF, c_1]) _ _ hP hS _ (lv_sub hl [0, 1, 2, 3] rfl)
  exact loop_4 (n + 1) 0 0 (by omega) (by omega) rfl _ _ hP hS _ (lv_sub hl [0, 1, 2, 3] rfl)

set_option maxHeartbeats 4000000 in
set_option maxRecDepth 100000 in
theorem c_X2_hasHoleAt (l : Launch) (G : GG) (M : Mem) (o : Nat → Int64) (sc : Nat) (v : Int32) (n : Nat) (hsc : sc = 4 ∨ sc = 25) (hn : M sc 2 = nI n) (hle : n ≤ 8) : MI l yX2_hasHoleAt cX2_hasHoleAt 3 (some .boolean) 0 0 G [.ref (adr G sc), .int v] M M o o (hhM M sc v n) 0 0 := by
  refine MI_of RX2 rfl (by decide +kernel) (Nat.le_of_ble_eq_true rfl) ?_
  intro p e s m below meth c sz C0 hr hP ls hl
  have hx := C0.1
  have hb := C0.2.1
  have hS : va_S (pA G sz) s.heap s.heap [] := va_S.rf
  have hl : lv_has ls 3 [(0, .ref (adr G sc)), (1, .int v)] := hl
  refine lv_iconst (v := 0) hx hb dX2_hasHoleAt_0 (by decide) ?_
  refine lv_istore_n (lv' := [(2, .int 0), (0, .ref (adr G sc)), (1, .int v)]) hx hb dX2_hasHoleAt_1 rfl hl (by decide) rfl (fun ls hl => ?_)
  have loop_2 : ∀ (fuel_2 : Nat) (i : Nat), n + 1 ≤ i + fuel_2 → (i ≤ n) → (∀ j, j < i → hhF (M (sc + 13 + j) 0) v = 0) → ∀ (H : Heap) (locs : List Loc), PW G M o H → va_S (pA G sz) s.heap H locs → ∀ ls : Array Slot, lv_has ls 3 [(2, .int (nI i)), (0, .ref (adr G sc)), (1, .int v)] → W p l e (rmU 0 0 0 0) s m ([.ref (adr G sc), .int v] : List Value).toArray below meth c H locs 0 0 (MQ below (QI G M o (hhM M sc v n) sz) ([.ref (adr G sc), .int v] : List Value).toArray s 0 0 (pA G sz)) (F0 m 2 ls []) := by
    intro fuel_2
    induction fuel_2 with
    | zero =>
      intro i hf hi hno
      exact absurd hf (by omega)
    | succ fuel_2 ih_2 =>
      intro i hf hi hno H locs hP hS ls hl
      refine lv_iload_n hx hb dX2_hasHoleAt_2 rfl (lv_at hl 0 rfl) ?_
      refine lv_aload_n hx hb dX2_hasHoleAt_3 rfl (lv_at hl 1 rfl) ?_
      refine gf_X2_32 C0 hP (k := sc) (kdS hsc) dX2_hasHoleAt_4 ?_
      refine lv_icmp_ge (tgt := 31) hx hb dX2_hasHoleAt_7 (by decide) (fun c_1 => ?_) (fun c_1 => ?_)
      · rw [hn] at c_1
        have hi9 := lp_ge c_1 (by omega) hi
        refine lv_iconst (v := 0) hx hb dX2_hasHoleAt_31 (by decide) ?_
        exact e_I (ty := .boolean) C0 hr (by decide +kernel) hP hS (by rw [hhM, anyF_no (fun j hj => hno j (by omega))]) (by decide) dX2_hasHoleAt_32
      · rw [hn] at c_1
        have hlt := lp_lt c_1 (by omega) hi
        refine lv_aload_n hx hb dX2_hasHoleAt_10 rfl (lv_at hl 1 rfl) ?_
        refine gf_X2_19 C0 hP (k := sc) (kdS hsc) dX2_hasHoleAt_11 ?_
        refine lv_iload_n hx hb dX2_hasHoleAt_14 rfl (lv_at hl 0 rfl) ?_
        refine w_aldR C0 hP (k := sc + 2) (i := i) (kdS2 hsc) (by omega) dX2_hasHoleAt_15 ?_
        refine gf_X2_42 C0 hP (k := sc + 13 + i) (kdSr hsc (by omega)) dX2_hasHoleAt_16 ?_
        refine lv_iload_n hx hb dX2_hasHoleAt_19 rfl (lv_at hl 2 rfl) ?_
        refine lv_icmp_ne (tgt := 25) hx hb dX2_hasHoleAt_20 (by decide) (fun c_2 => ?_) (fun c_2 => ?_)
        · refine lv_iinc (v := nI (i + 1)) (lv' := [(2, .int (nI (i + 1))), (0, .ref (adr G sc)), (1, .int v)]) hx hb dX2_hasHoleAt_25 hl (k := 0) rfl (nI_1 i) (by decide) rfl (fun ls hl => ?_)
          refine lv_goto (tgt := 2) hx hb dX2_hasHoleAt_28 (by decide) ?_
          exact ih_2 (i + 1) (by omega) (by omega) (fun j hj => by rcases Nat.lt_succ_iff_lt_or_eq.mp hj with z | z; exact hno j z; subst z; simp [hhF, c_1, c_2]) _ _ hP hS _ (lv_sub hl [0, 1, 2] rfl)
        · refine lv_iconst (v := 1) hx hb dX2_hasHoleAt_23 (by decide) ?_
          exact e_I (ty := .boolean) C0 hr (by decide +kernel) hP hS (by rw [hhM, anyF_hit (i := i) (by simp [hhF, c_1, c_2]) hlt]) (by decide) dX2_hasHoleAt_24
  exact loop_2 (n + 1) 0 (by omega) (by omega) (fun j hj => absurd hj (Nat.not_lt_zero j)) _ _ hP hS _ (lv_sub hl [0, 1, 2] rfl)

set_option maxHeartbeats 4000000 in
set_option maxRecDepth 100000 in
theorem c_X2_passersWalk (l : Launch) (G : GG) (M : Mem) (o : Nat → Int64) (sc : Nat) (n : Nat) (hsc : sc = 4 ∨ sc = 25) (hn : M sc 1 = nI n) (hle : n ≤ 10) : MV l yX2_passersWalk cX2_passersWalk 2 none 2 40 G [.ref (adr G sc)] M (pwM M sc n) o o 0 0 := by
  refine MV_of RX2 rfl (by decide +kernel) (Nat.le_of_ble_eq_true rfl) ?_
  intro p e s m below meth c sz C0 hr hP ls hl
  have hx := C0.1
  have hb := C0.2.1
  have hS : va_S (pA G sz) s.heap s.heap [] := va_S.rf
  have hl : lv_has ls 2 [(0, .ref (adr G sc))] := hl
  refine lv_iconst (v := 0) hx hb dX2_passersWalk_0 (by decide) ?_
  refine lv_istore_n (lv' := [(1, .int 0), (0, .ref (adr G sc))]) hx hb dX2_passersWalk_1 rfl hl (by decide) rfl (fun ls hl => ?_)
  have loop_2 : ∀ (fuel_2 : Nat) (i : Nat), n + 1 ≤ i + fuel_2 → (i ≤ n) → ∀ (H : Heap) (locs : List Loc), PW G (pwM M sc i) o H → va_S (pA G sz) s.heap H locs → ∀ ls : Array Slot, lv_has ls 2 [(1, .int (nI i)), (0, .ref (adr G sc))] → W p l e (rmU 2 40 0 0) s m ([.ref (adr G sc)] : List Value).toArray below meth c H locs 0 0 (MQ below (QV G (pwM M sc n) o sz) ([.ref (adr G sc)] : List Value).toArray s 0 0 (pA G sz)) (F0 m 2 ls []) := by
    intro fuel_2
    induction fuel_2 with
    | zero =>
      intro i hf hi
      exact absurd hf (by omega)
    | succ fuel_2 ih_2 =>
      intro i hf hi H locs hP hS ls hl
      refine lv_iload_n hx hb dX2_passersWalk_2 rfl (lv_at hl 0 rfl) ?_
      refine lv_aload_n hx hb dX2_passersWalk_3 rfl (lv_at hl 1 rfl) ?_
      refine gf_X2_29 C0 hP (k := sc) (kdS hsc) dX2_passersWalk_4 ?_
      refine lv_icmp_ge (tgt := 25) hx hb dX2_passersWalk_7 (by decide) (fun c_1 => ?_) (fun c_1 => ?_)
      · rw [pwM_sl (by omega), hn] at c_1
        have hi9 := lp_ge c_1 (by omega) hi
        have hP := PW_eq (M' := pwM M sc n) (by rw [hi9]) hP
        exact e_V C0 hr hP hS (by decide) dX2_passersWalk_25
      · rw [pwM_sl (by omega), hn] at c_1
        have hlt := lp_lt c_1 (by omega) hi
        refine lv_aload_n hx hb dX2_passersWalk_10 rfl (lv_at hl 1 rfl) ?_
        refine gf_X2_11 C0 hP (k := sc) (kdS hsc) dX2_passersWalk_11 ?_
        refine lv_iload_n hx hb dX2_passersWalk_14 rfl (lv_at hl 0 rfl) ?_
        refine w_aldP C0 hP (k := sc + 1) (i := i) (kdS1 hsc) (by omega) dX2_passersWalk_15 ?_
        refine k_VNV C0 hP hS (rest := []) (c_X0_walk l G (pwM M sc i) o (sc + 3 + i) (kdSp hsc (by omega))) mf_X0_walk ml_X2_68 (kd_lt (kdSp hsc (by omega)) (by decide)) (ct_0 (kdSp hsc (by omega))) rfl hl.1 (by decide) (by decide) (Nat.le_of_ble_eq_true rfl) rfl rfl dX2_passersWalk_16 (fun H locs hP hS => ?_)
        refine lv_iinc (v := nI (i + 1)) (lv' := [(1, .int (nI (i + 1))), (0, .ref (adr G sc))]) hx hb dX2_passersWalk_19 hl (k := 0) rfl (nI_1 i) (by decide) rfl (fun ls hl => ?_)
        refine lv_goto (tgt := 2) hx hb dX2_passersWalk_22 (by decide) ?_
        have hP := PW_eq (M' := pwM M sc (i + 1)) pwM_s hP
        exact ih_2 (i + 1) (by omega) (by omega) _ _ hP hS _ (lv_sub hl [0, 1] rfl)
  have hP := PW_eq (M' := pwM M sc 0) pwM_0.symm hP
  exact loop_2 (n + 1) 0 (by omega) (by omega) _ _ hP hS _ (lv_sub hl [0, 1] rfl)

set_option maxHeartbeats 4000000 in
set_option maxRecDepth 100000 in
theorem c_X2_roomsPay (l : Launch) (G : GG) (M : Mem) (o : Nat → Int64) (sc : Nat) (li : Int32) (np n : Nat) (hsc : sc = 4 ∨ sc = 25) (hnp : M sc 1 = nI np) (hple : np ≤ 10) (hn : M sc 2 = nI n) (hle : n ≤ 8) : MI l yX2_roomsPay cX2_roomsPay 4 (some .int) 4 88 G [.ref (adr G sc), .int li] M (rpM M sc li np n) o o (rpS M sc li np n) 0 0 := by
  refine MI_of RX2 rfl (by decide +kernel) (Nat.le_of_ble_eq_true rfl) ?_
  intro p e s m below meth c sz C0 hr hP ls hl
  have hx := C0.1
  have hb := C0.2.1
  have hS : va_S (pA G sz) s.heap s.heap [] := va_S.rf
  have hl : lv_has ls 4 [(0, .ref (adr G sc)), (1, .int li)] := hl
  refine lv_iconst (v := 0) hx hb dX2_roomsPay_0 (by decide) ?_
  refine lv_istore_n (lv' := [(2, .int 0), (0, .ref (adr G sc)), (1, .int li)]) hx hb dX2_roomsPay_1 rfl hl (by decide) rfl (fun ls hl => ?_)
  refine lv_iconst (v := 0) hx hb dX2_roomsPay_2 (by decide) ?_
  refine lv_istore_n (lv' := [(3, .int 0), (2, .int 0), (0, .ref (adr G sc)), (1, .int li)]) hx hb dX2_roomsPay_3 rfl hl (by decide) rfl (fun ls hl => ?_)
  have loop_4 : ∀ (fuel_4 : Nat) (i : Nat) (x : Int32), n + 1 ≤ i + fuel_4 → (i ≤ n) → (x = rpS M sc li np i) → ∀ (H : Heap) (locs : List Loc), PW G (rpM M sc li np i) o H → va_S (pA G sz) s.heap H locs → ∀ ls : Array Slot, lv_has ls 4 [(3, .int (nI i)), (2, .int x), (0, .ref (adr G sc)), (1, .int li)] → W p l e (rmU 4 88 0 0) s m ([.ref (adr G sc), .int li] : List Value).toArray below meth c H locs 0 0 (MQ below (QI G (rpM M sc li np n) o (rpS M sc li np n) sz) ([.ref (adr G sc), .int li] : List Value).toArray s 0 0 (pA G sz)) (F0 m 4 ls []) := by
    intro fuel_4
    induction fuel_4 with
    | zero =>
      intro i x hf hi hxx
      exact absurd hf (by omega)
    | succ fuel_4 ih_4 =>
      intro i x hf hi hxx H locs hP hS ls hl
      refine lv_iload_n hx hb dX2_roomsPay_4 rfl (lv_at hl 0 rfl) ?_
      refine lv_aload_n hx hb dX2_roomsPay_5 rfl (lv_at hl 2 rfl) ?_
      refine gf_X2_32 C0 hP (k := sc) (kdS hsc) dX2_roomsPay_6 ?_
      refine lv_icmp_ge (tgt := 41) hx hb dX2_roomsPay_9 (by decide) (fun c_1 => ?_) (fun c_1 => ?_)
      · rw [rpM_sl (by omega), hn] at c_1
        have hi9 := lp_ge c_1 (by omega) hi
        refine lv_iload_n hx hb dX2_roomsPay_41 rfl (lv_at hl 1 rfl) ?_
        have hP := PW_eq (M' := rpM M sc li np n) (by rw [hi9]) hP
        exact e_Ii C0 hr hP hS (by rw [hxx, hi9]) (by decide) dX2_roomsPay_42
      · rw [rpM_sl (by omega), hn] at c_1
        have hlt := lp_lt c_1 (by omega) hi
        refine lv_iload_n hx hb dX2_roomsPay_12 rfl (lv_at hl 1 rfl) ?_
        refine lv_aload_n hx hb dX2_roomsPay_13 rfl (lv_at hl 2 rfl) ?_
        refine gf_X2_19 C0 hP (k := sc) (kdS hsc) dX2_roomsPay_14 ?_
        refine lv_iload_n hx hb dX2_roomsPay_17 rfl (lv_at hl 0 rfl) ?_
        refine w_aldR C0 hP (k := sc + 2) (i := i) (kdS2 hsc) (by omega) dX2_roomsPay_18 ?_
        refine lv_aload_n hx hb dX2_roomsPay_19 rfl (lv_at hl 2 rfl) ?_
        refine lv_aload_n hx hb dX2_roomsPay_20 rfl (lv_at hl 2 rfl) ?_
        refine gf_X2_19 C0 hP (k := sc) (kdS hsc) dX2_roomsPay_21 ?_
        refine lv_iload_n hx hb dX2_roomsPay_24 rfl (lv_at hl 0 rfl) ?_
        refine w_aldR C0 hP (k := sc + 2) (i := i) (kdS2 hsc) (by omega) dX2_roomsPay_25 ?_
        refine lv_iload_n hx hb dX2_roomsPay_26 rfl (lv_at hl 3 rfl) ?_
        refine k_VI C0 hP hS (rest := [.ref (adr G (sc + 13 + i)), .int x]) (c_X2_showIn l G (rpM M sc li np i) o sc (sc + 13 + i) li np hsc (kdSr hsc (by omega)) (by rw [rpM_sl (by omega)]; exact hnp) hple) mf_X2_showIn ml_X2_58 (kd_lt (kdS hsc) (by decide)) (ct_2 (kdS hsc)) rfl hl.1 (by decide) (by decide) (Nat.le_of_ble_eq_true rfl) rfl rfl dX2_roomsPay_27 (fun H locs hP hS => ?_)
        refine k_VNI C0 hP hS (rest := [.int x]) (c_X1_pay l G (rpM M sc li np i) o (sc + 13 + i) (siM (rpM M sc li np i) sc (sc + 13 + i) li np) (kdSr hsc (by omega))) mf_X1_pay ml_X2_71 (kd_lt (kdSr hsc (by omega)) (by decide)) (ct_1 (kdSr hsc (by omega))) rfl hl.1 (by decide) (by decide) (Nat.le_of_ble_eq_true rfl) rfl rfl dX2_roomsPay_30 (fun H locs hP hS => ?_)
        refine lv_iadd hx hb dX2_roomsPay_33 ?_
        refine lv_istore_n (lv' := [(2, .int (x + (paF (siM (rpM M sc li np i) sc (sc + 13 + i) li np) ((rpM M sc li np i) (sc + 13 + i) 5)))), (3, .int (nI i)), (0, .ref (adr G sc)), (1, .int li)]) hx hb dX2_roomsPay_34 rfl hl (by decide) rfl (fun ls hl => ?_)
        refine lv_iinc (v := nI (i + 1)) (lv' := [(3, .int (nI (i + 1))), (2, .int (x + (paF (siM (rpM M sc li np i) sc (sc + 13 + i) li np) ((rpM M sc li np i) (sc + 13 + i) 5)))), (0, .ref (adr G sc)), (1, .int li)]) hx hb dX2_roomsPay_35 hl (k := 1) rfl (nI_1 i) (by decide) rfl (fun ls hl => ?_)
        refine lv_goto (tgt := 4) hx hb dX2_roomsPay_38 (by decide) ?_
        have hP := PW_eq (M' := rpM M sc li np (i + 1)) (rpM_s hple) hP
        exact ih_4 (i + 1) _ (by omega) (by omega) (by rw [hxx, siM_rp hple, rpM_sl (by omega)]; rfl) _ _ hP hS _ (lv_sub hl [0, 1, 2, 3] rfl)
  have hP := PW_eq (M' := rpM M sc li np 0) rpM_0.symm hP
  exact loop_4 (n + 1) 0 0 (by omega) (by omega) rfl _ _ hP hS _ (lv_sub hl [0, 1, 2, 3] rfl)

set_option maxHeartbeats 4000000 in
set_option maxRecDepth 100000 in
theorem c_X2_copyFrom (l : Launch) (G : GG) (M : Mem) (o : Nat → Int64) (np nr : Nat) (hnp : M 4 1 = nI np) (hple : np ≤ 10) (hnr : M 4 2 = nI nr) (hrle : nr ≤ 8) : MV l yX2_copyFrom cX2_copyFrom 3 none 2 45 G [.ref (adr G 25), .ref (adr G 4)] M (cpM M np nr) o o 0 0 := by
  refine MV_of RX2 rfl (by decide +kernel) (Nat.le_of_ble_eq_true rfl) ?_
  intro p e s m below meth c sz C0 hr hP ls hl
  have hx := C0.1
  have hb := C0.2.1
  have hS : va_S (pA G sz) s.heap s.heap [] := va_S.rf
  have hl : lv_has ls 3 [(0, .ref (adr G 25)), (1, .ref (adr G 4))] := hl
  refine lv_aload_n hx hb dX2_copyFrom_0 rfl (lv_at hl 0 rfl) ?_
  refine lv_aload_n hx hb dX2_copyFrom_1 rfl (lv_at hl 1 rfl) ?_
  refine gf_X2_25 C0 hP (k := 4) (show kd 4 = 2 by decide) dX2_copyFrom_2 ?_
  refine pf_X2_25 C0 hP hS (k := 25) (show kd 25 = 2 by decide) dX2_copyFrom_5 (fun H locs hP hS => ?_)
  refine lv_aload_n hx hb dX2_copyFrom_8 rfl (lv_at hl 0 rfl) ?_
  refine lv_aload_n hx hb dX2_copyFrom_9 rfl (lv_at hl 1 rfl) ?_
  refine gf_X2_29 C0 hP (k := 4) (show kd 4 = 2 by decide) dX2_copyFrom_10 ?_
  refine pf_X2_29 C0 hP hS (k := 25) (show kd 25 = 2 by decide) dX2_copyFrom_13 (fun H locs hP hS => ?_)
  refine lv_aload_n hx hb dX2_copyFrom_16 rfl (lv_at hl 0 rfl) ?_
  refine lv_aload_n hx hb dX2_copyFrom_17 rfl (lv_at hl 1 rfl) ?_
  refine gf_X2_32 C0 hP (k := 4) (show kd 4 = 2 by decide) dX2_copyFrom_18 ?_
  refine pf_X2_32 C0 hP hS (k := 25) (show kd 25 = 2 by decide) dX2_copyFrom_21 (fun H locs hP hS => ?_)
  refine lv_iconst (v := 0) hx hb dX2_copyFrom_24 (by decide) ?_
  refine lv_istore_n (lv' := [(2, .int 0), (0, .ref (adr G 25)), (1, .ref (adr G 4))]) hx hb dX2_copyFrom_25 rfl hl (by decide) rfl (fun ls hl => ?_)
  have loop_26 : ∀ (fuel_26 : Nat) (i : Nat), np + 1 ≤ i + fuel_26 → (i ≤ np) → ∀ (H : Heap) (locs : List Loc), PW G (cpM M i 0) o H → va_S (pA G sz) s.heap H locs → ∀ ls : Array Slot, lv_has ls 3 [(2, .int (nI i)), (0, .ref (adr G 25)), (1, .ref (adr G 4))] → W p l e (rmU 2 45 0 0) s m ([.ref (adr G 25), .ref (adr G 4)] : List Value).toArray below meth c H locs 0 0 (MQ below (QV G (cpM M np nr) o sz) ([.ref (adr G 25), .ref (adr G 4)] : List Value).toArray s 0 0 (pA G sz)) (F0 m 26 ls []) := by
    intro fuel_26
    induction fuel_26 with
    | zero =>
      intro i hf hi
      exact absurd hf (by omega)
    | succ fuel_26 ih_26 =>
      intro i hf hi H locs hP hS ls hl
      refine lv_iload_n hx hb dX2_copyFrom_26 rfl (lv_at hl 0 rfl) ?_
      refine lv_aload_n hx hb dX2_copyFrom_27 rfl (lv_at hl 1 rfl) ?_
      refine gf_X2_29 C0 hP (k := 25) (show kd 25 = 2 by decide) dX2_copyFrom_28 ?_
      refine lv_icmp_ge (tgt := 55) hx hb dX2_copyFrom_31 (by decide) (fun c_1 => ?_) (fun c_1 => ?_)
      · rw [cpM_25 (by decide), hnp] at c_1
        have hi9 := lp_ge c_1 (by omega) hi
        refine lv_iconst (v := 0) hx hb dX2_copyFrom_55 (by decide) ?_
        refine lv_istore_n (lv' := [(2, .int 0), (0, .ref (adr G 25)), (1, .ref (adr G 4))]) hx hb dX2_copyFrom_56 rfl hl (by decide) rfl (fun ls hl => ?_)
        have loop_57 : ∀ (fuel_57 : Nat) (j : Nat), nr + 1 ≤ j + fuel_57 → (j ≤ nr) → ∀ (H : Heap) (locs : List Loc), PW G (cpM M np j) o H → va_S (pA G sz) s.heap H locs → ∀ ls : Array Slot, lv_has ls 3 [(2, .int (nI j)), (0, .ref (adr G 25)), (1, .ref (adr G 4))] → W p l e (rmU 2 45 0 0) s m ([.ref (adr G 25), .ref (adr G 4)] : List Value).toArray below meth c H locs 0 0 (MQ below (QV G (cpM M np nr) o sz) ([.ref (adr G 25), .ref (adr G 4)] : List Value).toArray s 0 0 (pA G sz)) (F0 m 57 ls []) := by
          intro fuel_57
          induction fuel_57 with
          | zero =>
            intro j hf hj
            exact absurd hf (by omega)
          | succ fuel_57 ih_57 =>
            intro j hf hj H locs hP hS ls hl
            refine lv_iload_n hx hb dX2_copyFrom_57 rfl (lv_at hl 0 rfl) ?_
            refine lv_aload_n hx hb dX2_copyFrom_58 rfl (lv_at hl 1 rfl) ?_
            refine gf_X2_32 C0 hP (k := 25) (show kd 25 = 2 by decide) dX2_copyFrom_59 ?_
            refine lv_icmp_ge (tgt := 86) hx hb dX2_copyFrom_62 (by decide) (fun c_2 => ?_) (fun c_2 => ?_)
            · rw [cpM_25 (by decide), hnr] at c_2
              have hj9 := lp_ge c_2 (by omega) hj
              have hP := PW_eq (M' := cpM M np nr) (by rw [hj9]) hP
              exact e_V C0 hr hP hS (by decide) dX2_copyFrom_86
            · rw [cpM_25 (by decide), hnr] at c_2
              have hjt := lp_lt c_2 (by omega) hj
              refine lv_aload_n hx hb dX2_copyFrom_65 rfl (lv_at hl 1 rfl) ?_
              refine gf_X2_19 C0 hP (k := 25) (show kd 25 = 2 by decide) dX2_copyFrom_66 ?_
              refine lv_iload_n hx hb dX2_copyFrom_69 rfl (lv_at hl 0 rfl) ?_
              refine w_aldR C0 hP (k := 25 + 2) (i := j) (kdS2 (Or.inr rfl)) (by omega) dX2_copyFrom_70 ?_
              refine lv_aload_n hx hb dX2_copyFrom_71 rfl (lv_at hl 2 rfl) ?_
              refine gf_X2_19 C0 hP (k := 4) (show kd 4 = 2 by decide) dX2_copyFrom_72 ?_
              refine lv_iload_n hx hb dX2_copyFrom_75 rfl (lv_at hl 0 rfl) ?_
              refine w_aldR C0 hP (k := 4 + 2) (i := j) (kdS2 (Or.inl rfl)) (by omega) dX2_copyFrom_76 ?_
              refine k_VNV C0 hP hS (rest := []) (c_X1_copyFrom l G (cpM M np j) o (25 + 13 + j) (4 + 13 + j) (kdSr (Or.inr rfl) (by omega)) (kdSr (Or.inl rfl) (by omega)) (by omega)) mf_X1_copyFrom ml_X2_39 (kd_lt (kdSr (Or.inr rfl) (by omega)) (by decide)) (ct_1 (kdSr (Or.inr rfl) (by omega))) rfl hl.1 (by decide) (by decide) (Nat.le_of_ble_eq_true rfl) rfl rfl dX2_copyFrom_77 (fun H locs hP hS => ?_)
              refine lv_iinc (v := nI (j + 1)) (lv' := [(2, .int (nI (j + 1))), (0, .ref (adr G 25)), (1, .ref (adr G 4))]) hx hb dX2_copyFrom_80 hl (k := 0) rfl (nI_1 j) (by decide) rfl (fun ls hl => ?_)
              refine lv_goto (tgt := 57) hx hb dX2_copyFrom_83 (by decide) ?_
              have hP := PW_eq (M' := cpM M np (j + 1)) (cpM_r (by omega) hple) hP
              exact ih_57 (j + 1) (by omega) (by omega) _ _ hP hS _ (lv_sub hl [0, 1, 2] rfl)
        have hP := PW_eq (M' := cpM M np 0) (by rw [hi9]) hP
        exact loop_57 (nr + 1) 0 (by omega) (by omega) _ _ hP hS _ (lv_sub hl [0, 1, 2] rfl)
      · rw [cpM_25 (by decide), hnp] at c_1
        have hlt := lp_lt c_1 (by omega) hi
        refine lv_aload_n hx hb dX2_copyFrom_34 rfl (lv_at hl 1 rfl) ?_
        refine gf_X2_11 C0 hP (k := 25) (show kd 25 = 2 by decide) dX2_copyFrom_35 ?_
        refine lv_iload_n hx hb dX2_copyFrom_38 rfl (lv_at hl 0 rfl) ?_
        refine w_aldP C0 hP (k := 25 + 1) (i := i) (kdS1 (Or.inr rfl)) (by omega) dX2_copyFrom_39 ?_
        refine lv_aload_n hx hb dX2_copyFrom_40 rfl (lv_at hl 2 rfl) ?_
        refine gf_X2_11 C0 hP (k := 4) (show kd 4 = 2 by decide) dX2_copyFrom_41 ?_
        refine lv_iload_n hx hb dX2_copyFrom_44 rfl (lv_at hl 0 rfl) ?_
        refine w_aldP C0 hP (k := 4 + 1) (i := i) (kdS1 (Or.inl rfl)) (by omega) dX2_copyFrom_45 ?_
        refine k_VNV C0 hP hS (rest := []) (c_X0_copyFrom l G (cpM M i 0) o (25 + 3 + i) (4 + 3 + i) (kdSp (Or.inr rfl) (by omega)) (kdSp (Or.inl rfl) (by omega))) mf_X0_copyFrom ml_X2_35 (kd_lt (kdSp (Or.inr rfl) (by omega)) (by decide)) (ct_0 (kdSp (Or.inr rfl) (by omega))) rfl hl.1 (by decide) (by decide) (Nat.le_of_ble_eq_true rfl) rfl rfl dX2_copyFrom_46 (fun H locs hP hS => ?_)
        refine lv_iinc (v := nI (i + 1)) (lv' := [(2, .int (nI (i + 1))), (0, .ref (adr G 25)), (1, .ref (adr G 4))]) hx hb dX2_copyFrom_49 hl (k := 0) rfl (nI_1 i) (by decide) rfl (fun ls hl => ?_)
        refine lv_goto (tgt := 26) hx hb dX2_copyFrom_52 (by decide) ?_
        have hP := PW_eq (M' := cpM M (i + 1) 0) (cpM_p (by omega)) hP
        exact ih_26 (i + 1) (by omega) (by omega) _ _ hP hS _ (lv_sub hl [0, 1, 2] rfl)
  have hP := PW_eq (M' := cpM M 0 0) cpM_0 hP
  exact loop_26 (np + 1) 0 (by omega) (by omega) _ _ hP hS _ (lv_sub hl [0, 1, 2] rfl)
end CLB
end
section
section CLC
def otn (v : Int32) : Int32 := if v < 1 then 0 else if 9 < v then 0 else 1
def ztn (v : Int32) : Int32 := if v < 0 then 0 else if 9 < v then 0 else 1
/-- np passers-by, nr rooms, the minute k -/
def OKM (M : Mem) (np nr k : Nat) : Prop := M 4 1 = nI np ∧ np ≤ 10 ∧ M 4 2 = nI nr ∧ nr ≤ 8 ∧ M 4 0 = nI k ∧ k ≤ 720
def bdP (a1 a2 a3 a4 : Int32) : Prop := stp a1 = 0 ∨ a2 < -3 ∨ 3 < a2 ∨ otn a3 = 0 ∨ otn a4 = 0
def bdL (a2 a3 : Int32) : Prop := a2 < 0 ∨ 100 < a2 ∨ ztn a3 = 0
def bdR (a1 a2 a3 : Int32) : Prop := stp a1 = 0 ∨ otn a2 = 0 ∨ a3 < 0 ∨ ¬ a3 ≤ 20
def bdS (a2 : Int32) : Prop := a2 < 1 ∨ ¬ a2 ≤ 20
def bdW (a2 dp : Int32) : Prop := a2 < -(4 * dp) ∨ ¬ a2 ≤ 4 * dp
def pfF (M : Mem) (nr k i : Nat) : Nat → Int32
  | 0 => M (4 + 3 + i) 0
  | 1 => M (4 + 3 + i) 1
  | 2 => M (4 + 3 + i) 2
  | 3 => M (4 + 3 + i) 3
  | _ => rsM M 4 (4 + 3 + i) (ltF (M 2) (M 3) k) nr
def rfF (M : Mem) (np k i : Nat) : Nat → Int32
  | 0 => M (4 + 13 + i) 0
  | 1 => M (4 + 13 + i) 1
  | 2 => M (4 + 13 + i) 2
  | 3 => M (4 + 13 + i) 3
  | 4 => M (4 + 13 + i) 4
  | 5 => M (4 + 13 + i) 5
  | 6 => siM M 4 (4 + 13 + i) (ltF (M 2) (M 3) k) np
  | _ => M (4 + 13 + i) 6
def hfF (M : Mem) (np nr k : Nat) : Nat → Int32
  | 0 => nI k
  | 1 => ltF (M 2) (M 3) k
  | 2 => nI np
  | 3 => goM M 4 np
  | 4 => nI nr
  | 5 => peM M 4 nr
  | 6 => asM M 4 (ltF (M 2) (M 3) k) np nr
  | 7 => pnM M 4 nr
  | _ => if k < 720 then 0 else 1
theorem cmM_lo {M : Mem} {h a j : Nat} {a1 a2 a3 a4 : Int32} (hne : a ≠ h) : cmM M h a1 a2 a3 a4 a j = M a j := by
  unfold cmM
  rw [u2_ne hne, u2_ne hne, u2_ne hne, u2_ne hne]
theorem bdM_lo {M : Mem} {h a j : Nat} {a1 a2 a3 : Int32} (hne : a ≠ h) : bdM M h a1 a2 a3 a j = M a j := by
  unfold bdM
  rw [u2_ne hne, u2_ne hne, u2_ne hne, u2_ne hne]
section TOPE
variable {p : Program} {l : Launch} {e : Env} {R : Room} {s : State} {m : MethodId} {args : Array Value} {below : List Frame} {meth : Method} {c : Code} {H : Heap} {locs : List Loc} {cells slots : Nat} {Q : State → Prop} {pc : Nat} {ls : Array Slot} {rest : List Value}
theorem lv_topE {x y : Int32} (h : x = y) (k : W p l e R s m args below meth c H locs cells slots Q (F0 m pc ls (.int y :: rest))) : W p l e R s m args below meth c H locs cells slots Q (F0 m pc ls (.int x :: rest)) := by
  rw [h]
  exact k
end TOPE
theorem kl_X4_187 : Cond.constantLong RX4 187 853 ∈ UU := List.mem_filter.mpr ⟨List.mem_append_right _ (List.mem_append_left _ (List.mem_of_getElem? (i := 156) rfl)), rfl⟩
theorem kl_X4_189 : Cond.constantLong RX4 189 31 ∈ UU := List.mem_filter.mpr ⟨List.mem_append_right _ (List.mem_append_left _ (List.mem_of_getElem? (i := 157) rfl)), rfl⟩
theorem kl_X6_135 : Cond.constantLong RX6 135 853 ∈ UU := List.mem_filter.mpr ⟨List.mem_append_right _ (List.mem_append_right _ (List.mem_append_right _ (List.mem_append_right _ (List.mem_of_getElem? (i := 66) rfl)))), rfl⟩
theorem kl_X6_137 : Cond.constantLong RX6 137 31 ∈ UU := List.mem_filter.mpr ⟨List.mem_append_right _ (List.mem_append_right _ (List.mem_append_right _ (List.mem_append_right _ (List.mem_of_getElem? (i := 67) rfl)))), rfl⟩
set_option maxHeartbeats 4000000 in
set_option maxRecDepth 100000 in
theorem c_X4_isOneToNine (l : Launch) (G : GG) (M : Mem) (o : Nat → Int64) (v : Int32) : MI l yX4_isOneToNine cX4_isOneToNine 1 (some .boolean) 0 0 G [.int v] M M o o (otn v) 0 0 := by
  refine MI_of RX4 rfl (by decide +kernel) (Nat.le_of_ble_eq_true rfl) ?_
  intro p e s m below meth c sz C0 hr hP ls hl
  have hx := C0.1
  have hb := C0.2.1
  have hS : va_S (pA G sz) s.heap s.heap [] := va_S.rf
  have hl : lv_has ls 1 [(0, .int v)] := hl
  refine lv_iload_n hx hb dX4_isOneToNine_0 rfl (lv_at hl 0 rfl) ?_
  refine lv_iconst (v := 1) hx hb dX4_isOneToNine_1 (by decide) ?_
  refine lv_icmp_lt (tgt := 15) hx hb dX4_isOneToNine_2 (by decide) (fun c_1 => ?_) (fun c_1 => ?_)
  · refine lv_iconst (v := 0) hx hb dX4_isOneToNine_15 (by decide) ?_
    exact e_I (ty := .boolean) C0 hr (by decide +kernel) hP hS (by simp [otn, c_1]) (by decide) dX4_isOneToNine_16
  · refine lv_iload_n hx hb dX4_isOneToNine_5 rfl (lv_at hl 0 rfl) ?_
    refine lv_bipush (v := 9) hx hb dX4_isOneToNine_6 (by decide) ?_
    refine lv_icmp_gt (tgt := 15) hx hb dX4_isOneToNine_8 (by decide) (fun c_2 => ?_) (fun c_2 => ?_)
    · refine lv_iconst (v := 0) hx hb dX4_isOneToNine_15 (by decide) ?_
      exact e_I (ty := .boolean) C0 hr (by decide +kernel) hP hS (by simp [otn, c_1, c_2]) (by decide) dX4_isOneToNine_16
    · refine lv_iconst (v := 1) hx hb dX4_isOneToNine_11 (by decide) ?_
      refine lv_goto (tgt := 16) hx hb dX4_isOneToNine_12 (by decide) ?_
      exact e_I (ty := .boolean) C0 hr (by decide +kernel) hP hS (by simp [otn, c_1, c_2]) (by decide) dX4_isOneToNine_16

set_option maxHeartbeats 4000000 in
set_option maxRecDepth 100000 in
theorem c_X4_isZeroToNine (l : Launch) (G : GG) (M : Mem) (o : Nat → Int64) (v : Int32) : MI l yX4_isZeroToNine cX4_isZeroToNine 1 (some .boolean) 0 0 G [.int v] M M o o (ztn v) 0 0 := by
  refine MI_of RX4 rfl (by decide +kernel) (Nat.le_of_ble_eq_true rfl) ?_
  intro p e s m below meth c sz C0 hr hP ls hl
  have hx := C0.1
  have hb := C0.2.1
  have hS : va_S (pA G sz) s.heap s.heap [] := va_S.rf
  have hl : lv_has ls 1 [(0, .int v)] := hl
  refine lv_iload_n hx hb dX4_isZeroToNine_0 rfl (lv_at hl 0 rfl) ?_
  refine lv_if_lt (tgt := 14) hx hb dX4_isZeroToNine_1 (by decide) (fun c_1 => ?_) (fun c_1 => ?_)
  · refine lv_iconst (v := 0) hx hb dX4_isZeroToNine_14 (by decide) ?_
    exact e_I (ty := .boolean) C0 hr (by decide +kernel) hP hS (by simp [ztn, c_1]) (by decide) dX4_isZeroToNine_15
  · refine lv_iload_n hx hb dX4_isZeroToNine_4 rfl (lv_at hl 0 rfl) ?_
    refine lv_bipush (v := 9) hx hb dX4_isZeroToNine_5 (by decide) ?_
    refine lv_icmp_gt (tgt := 14) hx hb dX4_isZeroToNine_7 (by decide) (fun c_2 => ?_) (fun c_2 => ?_)
    · refine lv_iconst (v := 0) hx hb dX4_isZeroToNine_14 (by decide) ?_
      exact e_I (ty := .boolean) C0 hr (by decide +kernel) hP hS (by simp [ztn, c_1, c_2]) (by decide) dX4_isZeroToNine_15
    · refine lv_iconst (v := 1) hx hb dX4_isZeroToNine_10 (by decide) ?_
      refine lv_goto (tgt := 15) hx hb dX4_isZeroToNine_11 (by decide) ?_
      exact e_I (ty := .boolean) C0 hr (by decide +kernel) hP hS (by simp [ztn, c_1, c_2]) (by decide) dX4_isZeroToNine_15

set_option maxHeartbeats 4000000 in
set_option maxRecDepth 100000 in
theorem c_X4_needBelow (l : Launch) (G : GG) (M : Mem) (o : Nat → Int64) (a1 a2 : Nat) (h1 : a1 < a2) (h2 : a2 < 64) : MV l yX4_needBelow cX4_needBelow 2 none 0 0 G [.int (nI a1), .int (nI a2)] M M o o 0 0 := by
  refine MV_of RX4 rfl (by decide +kernel) (Nat.le_of_ble_eq_true rfl) ?_
  intro p e s m below meth c sz C0 hr hP ls hl
  have hx := C0.1
  have hb := C0.2.1
  have hS : va_S (pA G sz) s.heap s.heap [] := va_S.rf
  have hl : lv_has ls 2 [(0, .int (nI a1)), (1, .int (nI a2))] := hl
  refine lv_iload_n hx hb dX4_needBelow_0 rfl (lv_at hl 0 rfl) ?_
  refine lv_if_lt (tgt := 9) hx hb dX4_needBelow_1 (by decide) (fun c_1 => ?_) (fun c_1 => ?_)
  · exact absurd c_1 (nI_pos (by omega))
  · refine lv_iload_n hx hb dX4_needBelow_4 rfl (lv_at hl 0 rfl) ?_
    refine lv_iload_n hx hb dX4_needBelow_5 rfl (lv_at hl 1 rfl) ?_
    refine lv_icmp_lt (tgt := 17) hx hb dX4_needBelow_6 (by decide) (fun c_2 => ?_) (fun c_2 => ?_)
    · exact e_V C0 hr hP hS (by decide) dX4_needBelow_17
    · exact absurd (nI_lt h1 (by omega)) c_2

set_option maxHeartbeats 4000000 in
set_option maxRecDepth 100000 in
theorem c_X4_needBelow_x (l : Launch) (G : GG) (M : Mem) (o : Nat → Int64) (hst : l.stackTraces = false) (x1 x2 : Int32) (hbd : x1 < 0 ∨ ¬ x1 < x2) : MX l yX4_needBelow cX4_needBelow 2 none 6 89 G [.int x1, .int x2] M M o o "java/lang/IndexOutOfBoundsException" 1 6 := by
  refine MX_of RX4 rfl (by decide +kernel) (Nat.le_of_ble_eq_true rfl) ?_
  intro p e s m below meth c sz C0 hx0 hP ls hl
  have hx := C0.1
  have hb := C0.2.1
  have hS : va_S (pA G sz) s.heap s.heap [] := va_S.rf
  have hl : lv_has ls 2 [(0, .int x1), (1, .int x2)] := hl
  refine lv_iload_n hx hb dX4_needBelow_0 rfl (lv_at hl 0 rfl) ?_
  refine lv_if_lt (tgt := 9) hx hb dX4_needBelow_1 (by decide) (fun c_1 => ?_) (fun c_1 => ?_)
  · exact th_IOE C0 hst hx0 hP hS hl.1 dX4_needBelow_9 dX4_needBelow_12 dX4_needBelow_13 dX4_needBelow_16 ⟨by decide, Nat.le_of_ble_eq_true rfl, by decide, by decide⟩ (by decide)
  · refine lv_iload_n hx hb dX4_needBelow_4 rfl (lv_at hl 0 rfl) ?_
    refine lv_iload_n hx hb dX4_needBelow_5 rfl (lv_at hl 1 rfl) ?_
    refine lv_icmp_lt (tgt := 17) hx hb dX4_needBelow_6 (by decide) (fun c_2 => ?_) (fun c_2 => ?_)
    · exact absurd hbd (by simp [c_1, c_2])
    · exact th_IOE C0 hst hx0 hP hS hl.1 dX4_needBelow_9 dX4_needBelow_12 dX4_needBelow_13 dX4_needBelow_16 ⟨by decide, Nat.le_of_ble_eq_true rfl, by decide, by decide⟩ (by decide)

set_option maxHeartbeats 4000000 in
set_option maxRecDepth 100000 in
theorem c_X4_needMinutes (l : Launch) (G : GG) (M : Mem) (o : Nat → Int64) (a1 a2 : Nat) (h0 : 1 ≤ a1) (h1 : a1 ≤ a2) (h2 : a2 < 1000) : MV l yX4_needMinutes cX4_needMinutes 2 none 0 0 G [.int (nI a1), .int (nI a2)] M M o o 0 0 := by
  refine MV_of RX4 rfl (by decide +kernel) (Nat.le_of_ble_eq_true rfl) ?_
  intro p e s m below meth c sz C0 hr hP ls hl
  have hx := C0.1
  have hb := C0.2.1
  have hS : va_S (pA G sz) s.heap s.heap [] := va_S.rf
  have hl : lv_has ls 2 [(0, .int (nI a1)), (1, .int (nI a2))] := hl
  refine lv_iload_n hx hb dX4_needMinutes_0 rfl (lv_at hl 0 rfl) ?_
  refine lv_iconst (v := 1) hx hb dX4_needMinutes_1 (by decide) ?_
  refine lv_icmp_lt (tgt := 10) hx hb dX4_needMinutes_2 (by decide) (fun c_1 => ?_) (fun c_1 => ?_)
  · exact absurd c_1 (nI_nlt (a := a1) (b := 1) h0 (by omega))
  · refine lv_iload_n hx hb dX4_needMinutes_5 rfl (lv_at hl 0 rfl) ?_
    refine lv_iload_n hx hb dX4_needMinutes_6 rfl (lv_at hl 1 rfl) ?_
    refine lv_icmp_le (tgt := 18) hx hb dX4_needMinutes_7 (by decide) (fun c_2 => ?_) (fun c_2 => ?_)
    · exact e_V C0 hr hP hS (by decide) dX4_needMinutes_18
    · exact absurd (nI_le h1 (by omega)) c_2

set_option maxHeartbeats 4000000 in
set_option maxRecDepth 100000 in
theorem c_X4_needMinutes_x (l : Launch) (G : GG) (M : Mem) (o : Nat → Int64) (hst : l.stackTraces = false) (x1 x2 : Int32) (hbd : x1 < 1 ∨ ¬ x1 ≤ x2) : MX l yX4_needMinutes cX4_needMinutes 2 none 6 89 G [.int x1, .int x2] M M o o "java/lang/IllegalArgumentException" 1 6 := by
  refine MX_of RX4 rfl (by decide +kernel) (Nat.le_of_ble_eq_true rfl) ?_
  intro p e s m below meth c sz C0 hx0 hP ls hl
  have hx := C0.1
  have hb := C0.2.1
  have hS : va_S (pA G sz) s.heap s.heap [] := va_S.rf
  have hl : lv_has ls 2 [(0, .int x1), (1, .int x2)] := hl
  refine lv_iload_n hx hb dX4_needMinutes_0 rfl (lv_at hl 0 rfl) ?_
  refine lv_iconst (v := 1) hx hb dX4_needMinutes_1 (by decide) ?_
  refine lv_icmp_lt (tgt := 10) hx hb dX4_needMinutes_2 (by decide) (fun c_1 => ?_) (fun c_1 => ?_)
  · exact th_IAE C0 hst hx0 hP hS hl.1 dX4_needMinutes_10 dX4_needMinutes_13 dX4_needMinutes_14 dX4_needMinutes_17 ⟨by decide, Nat.le_of_ble_eq_true rfl, by decide, by decide⟩ (by decide)
  · refine lv_iload_n hx hb dX4_needMinutes_5 rfl (lv_at hl 0 rfl) ?_
    refine lv_iload_n hx hb dX4_needMinutes_6 rfl (lv_at hl 1 rfl) ?_
    refine lv_icmp_le (tgt := 18) hx hb dX4_needMinutes_7 (by decide) (fun c_2 => ?_) (fun c_2 => ?_)
    · exact absurd hbd (by simp [c_1, c_2])
    · exact th_IAE C0 hst hx0 hP hS hl.1 dX4_needMinutes_10 dX4_needMinutes_13 dX4_needMinutes_14 dX4_needMinutes_17 ⟨by decide, Nat.le_of_ble_eq_true rfl, by decide, by decide⟩ (by decide)

set_option maxHeartbeats 4000000 in
set_option maxRecDepth 100000 in
theorem c_X4_needPasser (l : Launch) (G : GG) (M : Mem) (o : Nat → Int64) (np nr k : Nat) (hO : OKM M np nr k) (i : Nat) (hi : i < np) : MV l yX4_needPasser cX4_needPasser 2 none 1 21 G [.ref (adr G 0), .int (nI i)] M M o o 0 0 := by
  refine MV_of RX4 rfl (by decide +kernel) (Nat.le_of_ble_eq_true rfl) ?_
  intro p e s m below meth c sz C0 hr hP ls hl
  have hx := C0.1
  have hb := C0.2.1
  have hS : va_S (pA G sz) s.heap s.heap [] := va_S.rf
  have hl : lv_has ls 2 [(0, .ref (adr G 0)), (1, .int (nI i))] := hl
  obtain ⟨hnp, hple, hnr, hrle, hk0, hkle⟩ := id hO
  refine lv_iload_n hx hb dX4_needPasser_0 rfl (lv_at hl 1 rfl) ?_
  refine lv_aload_n hx hb dX4_needPasser_1 rfl (lv_at hl 0 rfl) ?_
  refine gf_X4_19 C0 hP (k := 0) (show kd 0 = 4 by decide) dX4_needPasser_2 ?_
  refine gf_X4_36 C0 hP (k := 4) (show kd 4 = 2 by decide) dX4_needPasser_5 ?_
  refine lv_topE hnp ?_
  refine k_SV C0 hP hS (rest := []) (c_X4_needBelow l G M o i np (by omega) (by omega)) mf_X4_needBelow rfl ml_X4_105 hl.1 (by decide) (by decide) (Nat.le_of_ble_eq_true rfl) rfl rfl dX4_needPasser_8 (fun H locs hP hS => ?_)
  exact e_V C0 hr hP hS (by decide) dX4_needPasser_11

set_option maxHeartbeats 4000000 in
set_option maxRecDepth 100000 in
theorem c_X4_needPasser_x (l : Launch) (G : GG) (M : Mem) (o : Nat → Int64) (hst : l.stackTraces = false) (np nr k : Nat) (hO : OKM M np nr k) (x1 : Int32) (hbd : x1 < 0 ∨ ¬ x1 < nI np) : MX l yX4_needPasser cX4_needPasser 2 none 7 110 G [.ref (adr G 0), .int x1] M M o o "java/lang/IndexOutOfBoundsException" 1 6 := by
  refine MX_of RX4 rfl (by decide +kernel) (Nat.le_of_ble_eq_true rfl) ?_
  intro p e s m below meth c sz C0 hx0 hP ls hl
  have hx := C0.1
  have hb := C0.2.1
  have hS : va_S (pA G sz) s.heap s.heap [] := va_S.rf
  have hl : lv_has ls 2 [(0, .ref (adr G 0)), (1, .int x1)] := hl
  obtain ⟨hnp, hple, hnr, hrle, hk0, hkle⟩ := id hO
  refine lv_iload_n hx hb dX4_needPasser_0 rfl (lv_at hl 1 rfl) ?_
  refine lv_aload_n hx hb dX4_needPasser_1 rfl (lv_at hl 0 rfl) ?_
  refine gf_X4_19 C0 hP (k := 0) (show kd 0 = 4 by decide) dX4_needPasser_2 ?_
  refine gf_X4_36 C0 hP (k := 4) (show kd 4 = 2 by decide) dX4_needPasser_5 ?_
  refine lv_topE hnp ?_
  refine k_SX C0 hP hS (rest := []) (c_X4_needBelow_x l G M o hst x1 (nI np) hbd) mf_X4_needBelow rfl ml_X4_105 hl.1 (by decide) (by decide) (Nat.le_of_ble_eq_true rfl) rfl rfl dX4_needPasser_8 (fun ce q9 H locs hP hS hce hcv hcl => ?_)
  exact e_X C0 hx0 hP hS hce hcv hcl (by decide)

set_option maxHeartbeats 4000000 in
set_option maxRecDepth 100000 in
theorem c_X4_needRoom (l : Launch) (G : GG) (M : Mem) (o : Nat → Int64) (np nr k : Nat) (hO : OKM M np nr k) (i : Nat) (hi : i < nr) : MV l yX4_needRoom cX4_needRoom 2 none 1 21 G [.ref (adr G 0), .int (nI i)] M M o o 0 0 := by
  refine MV_of RX4 rfl (by decide +kernel) (Nat.le_of_ble_eq_true rfl) ?_
  intro p e s m below meth c sz C0 hr hP ls hl
  have hx := C0.1
  have hb := C0.2.1
  have hS : va_S (pA G sz) s.heap s.heap [] := va_S.rf
  have hl : lv_has ls 2 [(0, .ref (adr G 0)), (1, .int (nI i))] := hl
  obtain ⟨hnp, hple, hnr, hrle, hk0, hkle⟩ := id hO
  refine lv_iload_n hx hb dX4_needRoom_0 rfl (lv_at hl 1 rfl) ?_
  refine lv_aload_n hx hb dX4_needRoom_1 rfl (lv_at hl 0 rfl) ?_
  refine gf_X4_19 C0 hP (k := 0) (show kd 0 = 4 by decide) dX4_needRoom_2 ?_
  refine gf_X4_70 C0 hP (k := 4) (show kd 4 = 2 by decide) dX4_needRoom_5 ?_
  refine lv_topE hnr ?_
  refine k_SV C0 hP hS (rest := []) (c_X4_needBelow l G M o i nr (by omega) (by omega)) mf_X4_needBelow rfl ml_X4_105 hl.1 (by decide) (by decide) (Nat.le_of_ble_eq_true rfl) rfl rfl dX4_needRoom_8 (fun H locs hP hS => ?_)
  exact e_V C0 hr hP hS (by decide) dX4_needRoom_11

set_option maxHeartbeats 4000000 in
set_option maxRecDepth 100000 in
theorem c_X4_needRoom_x (l : Launch) (G : GG) (M : Mem) (o : Nat → Int64) (hst : l.stackTraces = false) (np nr k : Nat) (hO : OKM M np nr k) (x1 : Int32) (hbd : x1 < 0 ∨ ¬ x1 < nI nr) : MX l yX4_needRoom cX4_needRoom 2 none 7 110 G [.ref (adr G 0), .int x1] M M o o "java/lang/IndexOutOfBoundsException" 1 6 := by
  refine MX_of RX4 rfl (by decide +kernel) (Nat.le_of_ble_eq_true rfl) ?_
  intro p e s m below meth c sz C0 hx0 hP ls hl
  have hx := C0.1
  have hb := C0.2.1
  have hS : va_S (pA G sz) s.heap s.heap [] := va_S.rf
  have hl : lv_has ls 2 [(0, .ref (adr G 0)), (1, .int x1)] := hl
  obtain ⟨hnp, hple, hnr, hrle, hk0, hkle⟩ := id hO
  refine lv_iload_n hx hb dX4_needRoom_0 rfl (lv_at hl 1 rfl) ?_
  refine lv_aload_n hx hb dX4_needRoom_1 rfl (lv_at hl 0 rfl) ?_
  refine gf_X4_19 C0 hP (k := 0) (show kd 0 = 4 by decide) dX4_needRoom_2 ?_
  refine gf_X4_70 C0 hP (k := 4) (show kd 4 = 2 by decide) dX4_needRoom_5 ?_
  refine lv_topE hnr ?_
  refine k_SX C0 hP hS (rest := []) (c_X4_needBelow_x l G M o hst x1 (nI nr) hbd) mf_X4_needBelow rfl ml_X4_105 hl.1 (by decide) (by decide) (Nat.le_of_ble_eq_true rfl) rfl rfl dX4_needRoom_8 (fun ce q9 H locs hP hS hce hcv hcl => ?_)
  exact e_X C0 hx0 hP hS hce hcv hcl (by decide)

set_option maxHeartbeats 4000000 in
set_option maxRecDepth 100000 in
theorem c_X4_lightNow (l : Launch) (G : GG) (M : Mem) (o : Nat → Int64) (np nr k : Nat) (hO : OKM M np nr k)  : MI l yX4_lightNow cX4_lightNow 1 (some .int) 1 22 G [.ref (adr G 0)] M M o o (ltF (M 2) (M 3) k) 0 0 := by
  refine MI_of RX4 rfl (by decide +kernel) (Nat.le_of_ble_eq_true rfl) ?_
  intro p e s m below meth c sz C0 hr hP ls hl
  have hx := C0.1
  have hb := C0.2.1
  have hS : va_S (pA G sz) s.heap s.heap [] := va_S.rf
  have hl : lv_has ls 1 [(0, .ref (adr G 0))] := hl
  obtain ⟨hnp, hple, hnr, hrle, hk0, hkle⟩ := id hO
  refine lv_aload_n hx hb dX4_lightNow_0 rfl (lv_at hl 0 rfl) ?_
  refine gf_X4_12 C0 hP (k := 0) (show kd 0 = 4 by decide) dX4_lightNow_1 ?_
  refine lv_aload_n hx hb dX4_lightNow_4 rfl (lv_at hl 0 rfl) ?_
  refine gf_X4_19 C0 hP (k := 0) (show kd 0 = 4 by decide) dX4_lightNow_5 ?_
  refine gf_X4_151 C0 hP (k := 4) (show kd 4 = 2 by decide) dX4_lightNow_8 ?_
  refine lv_topE hk0 ?_
  refine k_VNI C0 hP hS (rest := []) (c_X3_lightAt l G M o k hkle) mf_X3_lightAt ml_X4_154 (kd_lt (show kd 1 = 3 by decide) (by decide)) (ct_3 (show kd 1 = 3 by decide)) rfl hl.1 (by decide) (by decide) (Nat.le_of_ble_eq_true rfl) rfl rfl dX4_lightNow_11 (fun H locs hP hS => ?_)
  exact e_Ii C0 hr hP hS rfl (by decide) dX4_lightNow_14

set_option maxHeartbeats 4000000 in
set_option maxRecDepth 100000 in
theorem c_X4_passerFact (l : Launch) (G : GG) (M : Mem) (o : Nat → Int64) (np nr k : Nat) (hO : OKM M np nr k) (i w : Nat) (hi : i < np) (hw : w < 5) : MI l yX4_passerFact cX4_passerFact 4 (some .int) 4 88 G [.ref (adr G 0), .int (nI i), .int (nI w)] M M o o (pfF M nr k i w) 0 0 := by
  refine MI_of RX4 rfl (by decide +kernel) (Nat.le_of_ble_eq_true rfl) ?_
  intro p e s m below meth c sz C0 hr hP ls hl
  have hx := C0.1
  have hb := C0.2.1
  have hS : va_S (pA G sz) s.heap s.heap [] := va_S.rf
  have hl : lv_has ls 4 [(0, .ref (adr G 0)), (1, .int (nI i)), (2, .int (nI w))] := hl
  obtain ⟨hnp, hple, hnr, hrle, hk0, hkle⟩ := id hO
  refine lv_aload_n hx hb dX4_passerFact_0 rfl (lv_at hl 0 rfl) ?_
  refine gf_X4_19 C0 hP (k := 0) (show kd 0 = 4 by decide) dX4_passerFact_1 ?_
  refine gf_X4_43 C0 hP (k := 4) (show kd 4 = 2 by decide) dX4_passerFact_4 ?_
  refine lv_iload_n hx hb dX4_passerFact_7 rfl (lv_at hl 1 rfl) ?_
  refine w_aldP C0 hP (k := 4 + 1) (i := i) (kdS1 (Or.inl rfl)) (by omega) dX4_passerFact_8 ?_
  refine lv_astore_n (lv' := [(3, .ref (adr G (4 + 3 + i))), (0, .ref (adr G 0)), (1, .int (nI i)), (2, .int (nI w))]) hx hb dX4_passerFact_9 rfl hl (by decide) rfl (fun ls hl => ?_)
  refine lv_iload_n hx hb dX4_passerFact_10 rfl (lv_at hl 3 rfl) ?_
  rcases (show w = 0 ∨ w = 1 ∨ w = 2 ∨ w = 3 ∨ w = 4 by omega) with h9 | h9 | h9 | h9 | h9
  · subst h9
    refine lv_tableIn (off := 29) (tgt := 40) hx hb dX4_passerFact_11 (by decide) (by decide) (by decide +kernel) (by decide) ?_
    refine lv_aload_n hx hb dX4_passerFact_40 rfl (lv_at hl 0 rfl) ?_
    refine gf_X4_191 C0 hP (k := 4 + 3 + i) (kdSp (Or.inl rfl) (by omega)) dX4_passerFact_41 ?_
    exact e_Ii C0 hr hP hS rfl (by decide) dX4_passerFact_44
  · subst h9
    refine lv_tableIn (off := 34) (tgt := 45) hx hb dX4_passerFact_11 (by decide) (by decide) (by decide +kernel) (by decide) ?_
    refine lv_aload_n hx hb dX4_passerFact_45 rfl (lv_at hl 0 rfl) ?_
    refine gf_X4_192 C0 hP (k := 4 + 3 + i) (kdSp (Or.inl rfl) (by omega)) dX4_passerFact_46 ?_
    exact e_Ii C0 hr hP hS rfl (by decide) dX4_passerFact_49
  · subst h9
    refine lv_tableIn (off := 39) (tgt := 50) hx hb dX4_passerFact_11 (by decide) (by decide) (by decide +kernel) (by decide) ?_
    refine lv_aload_n hx hb dX4_passerFact_50 rfl (lv_at hl 0 rfl) ?_
    refine gf_X4_195 C0 hP (k := 4 + 3 + i) (kdSp (Or.inl rfl) (by omega)) dX4_passerFact_51 ?_
    exact e_Ii C0 hr hP hS rfl (by decide) dX4_passerFact_54
  · subst h9
    refine lv_tableIn (off := 44) (tgt := 55) hx hb dX4_passerFact_11 (by decide) (by decide) (by decide +kernel) (by decide) ?_
    refine lv_aload_n hx hb dX4_passerFact_55 rfl (lv_at hl 0 rfl) ?_
    refine gf_X4_198 C0 hP (k := 4 + 3 + i) (kdSp (Or.inl rfl) (by omega)) dX4_passerFact_56 ?_
    exact e_Ii C0 hr hP hS rfl (by decide) dX4_passerFact_59
  · subst h9
    refine lv_tableOut (tgt := 60) hx hb dX4_passerFact_11 (by decide) (by decide) ?_
    refine lv_aload_n hx hb dX4_passerFact_60 rfl (lv_at hl 1 rfl) ?_
    refine gf_X4_19 C0 hP (k := 0) (show kd 0 = 4 by decide) dX4_passerFact_61 ?_
    refine lv_aload_n hx hb dX4_passerFact_64 rfl (lv_at hl 0 rfl) ?_
    refine lv_aload_n hx hb dX4_passerFact_65 rfl (lv_at hl 1 rfl) ?_
    refine k_VI C0 hP hS (rest := [.ref (adr G (4 + 3 + i)), .ref (adr G 4)]) (c_X4_lightNow l G M o np nr k hO) mf_X4_lightNow ml_X4_130 (kd_lt (show kd 0 = 4 by decide) (by decide)) (ct_4 (show kd 0 = 4 by decide)) rfl hl.1 (by decide) (by decide) (Nat.le_of_ble_eq_true rfl) rfl rfl dX4_passerFact_66 (fun H locs hP hS => ?_)
    refine k_VNI C0 hP hS (rest := []) (c_X2_roomsSeeingWell l G M o 4 (4 + 3 + i) (ltF (M 2) (M 3) k) nr (Or.inl rfl) (kdSp (Or.inl rfl) (by omega)) hnr hrle) mf_X2_roomsSeeingWell ml_X4_201 (kd_lt (show kd 4 = 2 by decide) (by decide)) (ct_2 (show kd 4 = 2 by decide)) rfl hl.1 (by decide) (by decide) (Nat.le_of_ble_eq_true rfl) rfl rfl dX4_passerFact_69 (fun H locs hP hS => ?_)
    exact e_Ii C0 hr hP hS rfl (by decide) dX4_passerFact_72

set_option maxHeartbeats 4000000 in
set_option maxRecDepth 100000 in
theorem c_X4_roomFact (l : Launch) (G : GG) (M : Mem) (o : Nat → Int64) (np nr k : Nat) (hO : OKM M np nr k) (i w : Nat) (hi : i < nr) (hw : w < 8) : MI l yX4_roomFact cX4_roomFact 4 (some .int) 4 88 G [.ref (adr G 0), .int (nI i), .int (nI w)] M M o o (rfF M np k i w) 0 0 := by
  refine MI_of RX4 rfl (by decide +kernel) (Nat.le_of_ble_eq_true rfl) ?_
  intro p e s m below meth c sz C0 hr hP ls hl
  have hx := C0.1
  have hb := C0.2.1
  have hS : va_S (pA G sz) s.heap s.heap [] := va_S.rf
  have hl : lv_has ls 4 [(0, .ref (adr G 0)), (1, .int (nI i)), (2, .int (nI w))] := hl
  obtain ⟨hnp, hple, hnr, hrle, hk0, hkle⟩ := id hO
  refine lv_aload_n hx hb dX4_roomFact_0 rfl (lv_at hl 0 rfl) ?_
  refine gf_X4_19 C0 hP (k := 0) (show kd 0 = 4 by decide) dX4_roomFact_1 ?_
  refine gf_X4_76 C0 hP (k := 4) (show kd 4 = 2 by decide) dX4_roomFact_4 ?_
  refine lv_iload_n hx hb dX4_roomFact_7 rfl (lv_at hl 1 rfl) ?_
  refine w_aldR C0 hP (k := 4 + 2) (i := i) (kdS2 (Or.inl rfl)) (by omega) dX4_roomFact_8 ?_
  refine lv_astore_n (lv' := [(3, .ref (adr G (4 + 13 + i))), (0, .ref (adr G 0)), (1, .int (nI i)), (2, .int (nI w))]) hx hb dX4_roomFact_9 rfl hl (by decide) rfl (fun ls hl => ?_)
  refine lv_iload_n hx hb dX4_roomFact_10 rfl (lv_at hl 3 rfl) ?_
  rcases (show w = 0 ∨ w = 1 ∨ w = 2 ∨ w = 3 ∨ w = 4 ∨ w = 5 ∨ w = 6 ∨ w = 7 by omega) with h9 | h9 | h9 | h9 | h9 | h9 | h9 | h9
  · subst h9
    refine lv_tableIn (off := 41) (tgt := 52) hx hb dX4_roomFact_11 (by decide) (by decide) (by decide +kernel) (by decide) ?_
    refine lv_aload_n hx hb dX4_roomFact_52 rfl (lv_at hl 0 rfl) ?_
    refine gf_X4_120 C0 hP (k := 4 + 13 + i) (kdSr (Or.inl rfl) (by omega)) dX4_roomFact_53 ?_
    exact e_Ii C0 hr hP hS rfl (by decide) dX4_roomFact_56
  · subst h9
    refine lv_tableIn (off := 46) (tgt := 57) hx hb dX4_roomFact_11 (by decide) (by decide) (by decide +kernel) (by decide) ?_
    refine lv_aload_n hx hb dX4_roomFact_57 rfl (lv_at hl 0 rfl) ?_
    refine gf_X4_204 C0 hP (k := 4 + 13 + i) (kdSr (Or.inl rfl) (by omega)) dX4_roomFact_58 ?_
    exact e_Ii C0 hr hP hS rfl (by decide) dX4_roomFact_61
  · subst h9
    refine lv_tableIn (off := 51) (tgt := 62) hx hb dX4_roomFact_11 (by decide) (by decide) (by decide +kernel) (by decide) ?_
    refine lv_aload_n hx hb dX4_roomFact_62 rfl (lv_at hl 0 rfl) ?_
    refine gf_X4_90 C0 hP (k := 4 + 13 + i) (kdSr (Or.inl rfl) (by omega)) dX4_roomFact_63 ?_
    exact e_Ii C0 hr hP hS rfl (by decide) dX4_roomFact_66
  · subst h9
    refine lv_tableIn (off := 56) (tgt := 67) hx hb dX4_roomFact_11 (by decide) (by decide) (by decide +kernel) (by decide) ?_
    refine lv_aload_n hx hb dX4_roomFact_67 rfl (lv_at hl 0 rfl) ?_
    refine gf_X4_93 C0 hP (k := 4 + 13 + i) (kdSr (Or.inl rfl) (by omega)) dX4_roomFact_68 ?_
    exact e_Ii C0 hr hP hS rfl (by decide) dX4_roomFact_71
  · subst h9
    refine lv_tableIn (off := 61) (tgt := 72) hx hb dX4_roomFact_11 (by decide) (by decide) (by decide +kernel) (by decide) ?_
    refine lv_aload_n hx hb dX4_roomFact_72 rfl (lv_at hl 0 rfl) ?_
    refine gf_X4_96 C0 hP (k := 4 + 13 + i) (kdSr (Or.inl rfl) (by omega)) dX4_roomFact_73 ?_
    exact e_Ii C0 hr hP hS rfl (by decide) dX4_roomFact_76
  · subst h9
    refine lv_tableIn (off := 66) (tgt := 77) hx hb dX4_roomFact_11 (by decide) (by decide) (by decide +kernel) (by decide) ?_
    refine lv_aload_n hx hb dX4_roomFact_77 rfl (lv_at hl 0 rfl) ?_
    refine gf_X4_99 C0 hP (k := 4 + 13 + i) (kdSr (Or.inl rfl) (by omega)) dX4_roomFact_78 ?_
    exact e_Ii C0 hr hP hS rfl (by decide) dX4_roomFact_81
  · subst h9
    refine lv_tableIn (off := 71) (tgt := 82) hx hb dX4_roomFact_11 (by decide) (by decide) (by decide +kernel) (by decide) ?_
    refine lv_aload_n hx hb dX4_roomFact_82 rfl (lv_at hl 1 rfl) ?_
    refine gf_X4_19 C0 hP (k := 0) (show kd 0 = 4 by decide) dX4_roomFact_83 ?_
    refine lv_aload_n hx hb dX4_roomFact_86 rfl (lv_at hl 0 rfl) ?_
    refine lv_aload_n hx hb dX4_roomFact_87 rfl (lv_at hl 1 rfl) ?_
    refine k_VI C0 hP hS (rest := [.ref (adr G (4 + 13 + i)), .ref (adr G 4)]) (c_X4_lightNow l G M o np nr k hO) mf_X4_lightNow ml_X4_130 (kd_lt (show kd 0 = 4 by decide) (by decide)) (ct_4 (show kd 0 = 4 by decide)) rfl hl.1 (by decide) (by decide) (Nat.le_of_ble_eq_true rfl) rfl rfl dX4_roomFact_88 (fun H locs hP hS => ?_)
    refine k_VNI C0 hP hS (rest := []) (c_X2_showIn l G M o 4 (4 + 13 + i) (ltF (M 2) (M 3) k) np (Or.inl rfl) (kdSr (Or.inl rfl) (by omega)) hnp hple) mf_X2_showIn ml_X4_157 (kd_lt (show kd 4 = 2 by decide) (by decide)) (ct_2 (show kd 4 = 2 by decide)) rfl hl.1 (by decide) (by decide) (Nat.le_of_ble_eq_true rfl) rfl rfl dX4_roomFact_91 (fun H locs hP hS => ?_)
    exact e_Ii C0 hr hP hS rfl (by decide) dX4_roomFact_94
  · subst h9
    refine lv_tableOut (tgt := 95) hx hb dX4_roomFact_11 (by decide) (by decide) ?_
    refine lv_aload_n hx hb dX4_roomFact_95 rfl (lv_at hl 0 rfl) ?_
    refine gf_X4_207 C0 hP (k := 4 + 13 + i) (kdSr (Or.inl rfl) (by omega)) dX4_roomFact_96 ?_
    exact e_Ii C0 hr hP hS rfl (by decide) dX4_roomFact_99

set_option maxHeartbeats 4000000 in
set_option maxRecDepth 100000 in
theorem c_X4_houseFact (l : Launch) (G : GG) (M : Mem) (o : Nat → Int64) (np nr k : Nat) (hO : OKM M np nr k) (w : Nat) (hw : w < 9) : MI l yX4_houseFact cX4_houseFact 2 (some .int) 5 111 G [.ref (adr G 0), .int (nI w)] M M o o (hfF M np nr k w) 0 0 := by
  refine MI_of RX4 rfl (by decide +kernel) (Nat.le_of_ble_eq_true rfl) ?_
  intro p e s m below meth c sz C0 hr hP ls hl
  have hx := C0.1
  have hb := C0.2.1
  have hS : va_S (pA G sz) s.heap s.heap [] := va_S.rf
  have hl : lv_has ls 2 [(0, .ref (adr G 0)), (1, .int (nI w))] := hl
  obtain ⟨hnp, hple, hnr, hrle, hk0, hkle⟩ := id hO
  refine lv_iload_n hx hb dX4_houseFact_0 rfl (lv_at hl 1 rfl) ?_
  rcases (show w = 0 ∨ w = 1 ∨ w = 2 ∨ w = 3 ∨ w = 4 ∨ w = 5 ∨ w = 6 ∨ w = 7 ∨ w = 8 by omega) with h9 | h9 | h9 | h9 | h9 | h9 | h9 | h9 | h9
  · subst h9
    refine lv_tableIn (off := 47) (tgt := 48) hx hb dX4_houseFact_1 (by decide) (by decide) (by decide +kernel) (by decide) ?_
    refine lv_aload_n hx hb dX4_houseFact_48 rfl (lv_at hl 0 rfl) ?_
    refine gf_X4_19 C0 hP (k := 0) (show kd 0 = 4 by decide) dX4_houseFact_49 ?_
    refine gf_X4_151 C0 hP (k := 4) (show kd 4 = 2 by decide) dX4_houseFact_52 ?_
    exact e_Ii C0 hr hP hS hk0 (by decide) dX4_houseFact_55
  · subst h9
    refine lv_tableIn (off := 55) (tgt := 56) hx hb dX4_houseFact_1 (by decide) (by decide) (by decide +kernel) (by decide) ?_
    refine lv_aload_n hx hb dX4_houseFact_56 rfl (lv_at hl 0 rfl) ?_
    refine k_VI C0 hP hS (rest := []) (c_X4_lightNow l G M o np nr k hO) mf_X4_lightNow ml_X4_130 (kd_lt (show kd 0 = 4 by decide) (by decide)) (ct_4 (show kd 0 = 4 by decide)) rfl hl.1 (by decide) (by decide) (Nat.le_of_ble_eq_true rfl) rfl rfl dX4_houseFact_57 (fun H locs hP hS => ?_)
    exact e_Ii C0 hr hP hS rfl (by decide) dX4_houseFact_60
  · subst h9
    refine lv_tableIn (off := 60) (tgt := 61) hx hb dX4_houseFact_1 (by decide) (by decide) (by decide +kernel) (by decide) ?_
    refine lv_aload_n hx hb dX4_houseFact_61 rfl (lv_at hl 0 rfl) ?_
    refine gf_X4_19 C0 hP (k := 0) (show kd 0 = 4 by decide) dX4_houseFact_62 ?_
    refine gf_X4_36 C0 hP (k := 4) (show kd 4 = 2 by decide) dX4_houseFact_65 ?_
    exact e_Ii C0 hr hP hS hnp (by decide) dX4_houseFact_68
  · subst h9
    refine lv_tableIn (off := 68) (tgt := 69) hx hb dX4_houseFact_1 (by decide) (by decide) (by decide +kernel) (by decide) ?_
    refine lv_aload_n hx hb dX4_houseFact_69 rfl (lv_at hl 0 rfl) ?_
    refine gf_X4_19 C0 hP (k := 0) (show kd 0 = 4 by decide) dX4_houseFact_70 ?_
    refine k_VNI C0 hP hS (rest := []) (c_X2_passersGone l G M o 4 np (Or.inl rfl) hnp hple) mf_X2_passersGone ml_X4_181 (kd_lt (show kd 4 = 2 by decide) (by decide)) (ct_2 (show kd 4 = 2 by decide)) rfl hl.1 (by decide) (by decide) (Nat.le_of_ble_eq_true rfl) rfl rfl dX4_houseFact_73 (fun H locs hP hS => ?_)
    exact e_Ii C0 hr hP hS rfl (by decide) dX4_houseFact_76
  · subst h9
    refine lv_tableIn (off := 76) (tgt := 77) hx hb dX4_houseFact_1 (by decide) (by decide) (by decide +kernel) (by decide) ?_
    refine lv_aload_n hx hb dX4_houseFact_77 rfl (lv_at hl 0 rfl) ?_
    refine gf_X4_19 C0 hP (k := 0) (show kd 0 = 4 by decide) dX4_houseFact_78 ?_
    refine gf_X4_70 C0 hP (k := 4) (show kd 4 = 2 by decide) dX4_houseFact_81 ?_
    exact e_Ii C0 hr hP hS hnr (by decide) dX4_houseFact_84
  · subst h9
    refine lv_tableIn (off := 84) (tgt := 85) hx hb dX4_houseFact_1 (by decide) (by decide) (by decide +kernel) (by decide) ?_
    refine lv_aload_n hx hb dX4_houseFact_85 rfl (lv_at hl 0 rfl) ?_
    refine gf_X4_19 C0 hP (k := 0) (show kd 0 = 4 by decide) dX4_houseFact_86 ?_
    refine k_VNI C0 hP hS (rest := []) (c_X2_allPeople l G M o 4 nr (Or.inl rfl) hnr hrle) mf_X2_allPeople ml_X4_178 (kd_lt (show kd 4 = 2 by decide) (by decide)) (ct_2 (show kd 4 = 2 by decide)) rfl hl.1 (by decide) (by decide) (Nat.le_of_ble_eq_true rfl) rfl rfl dX4_houseFact_89 (fun H locs hP hS => ?_)
    exact e_Ii C0 hr hP hS rfl (by decide) dX4_houseFact_92
  · subst h9
    refine lv_tableIn (off := 92) (tgt := 93) hx hb dX4_houseFact_1 (by decide) (by decide) (by decide +kernel) (by decide) ?_
    refine lv_aload_n hx hb dX4_houseFact_93 rfl (lv_at hl 0 rfl) ?_
    refine gf_X4_19 C0 hP (k := 0) (show kd 0 = 4 by decide) dX4_houseFact_94 ?_
    refine lv_aload_n hx hb dX4_houseFact_97 rfl (lv_at hl 0 rfl) ?_
    refine k_VI C0 hP hS (rest := [.ref (adr G 4)]) (c_X4_lightNow l G M o np nr k hO) mf_X4_lightNow ml_X4_130 (kd_lt (show kd 0 = 4 by decide) (by decide)) (ct_4 (show kd 0 = 4 by decide)) rfl hl.1 (by decide) (by decide) (Nat.le_of_ble_eq_true rfl) rfl rfl dX4_houseFact_98 (fun H locs hP hS => ?_)
    refine k_VNI C0 hP hS (rest := []) (c_X2_allShows l G M o 4 (ltF (M 2) (M 3) k) np nr (Or.inl rfl) hnp hple hnr hrle) mf_X2_allShows ml_X4_210 (kd_lt (show kd 4 = 2 by decide) (by decide)) (ct_2 (show kd 4 = 2 by decide)) rfl hl.1 (by decide) (by decide) (Nat.le_of_ble_eq_true rfl) rfl rfl dX4_houseFact_101 (fun H locs hP hS => ?_)
    exact e_Ii C0 hr hP hS rfl (by decide) dX4_houseFact_104
  · subst h9
    refine lv_tableIn (off := 104) (tgt := 105) hx hb dX4_houseFact_1 (by decide) (by decide) (by decide +kernel) (by decide) ?_
    refine lv_aload_n hx hb dX4_houseFact_105 rfl (lv_at hl 0 rfl) ?_
    refine gf_X4_19 C0 hP (k := 0) (show kd 0 = 4 by decide) dX4_houseFact_106 ?_
    refine k_VNI C0 hP hS (rest := []) (c_X2_allPence l G M o 4 nr (Or.inl rfl) hnr hrle) mf_X2_allPence ml_X4_184 (kd_lt (show kd 4 = 2 by decide) (by decide)) (ct_2 (show kd 4 = 2 by decide)) rfl hl.1 (by decide) (by decide) (Nat.le_of_ble_eq_true rfl) rfl rfl dX4_houseFact_109 (fun H locs hP hS => ?_)
    exact e_Ii C0 hr hP hS rfl (by decide) dX4_houseFact_112
  · subst h9
    refine lv_tableOut (tgt := 113) hx hb dX4_houseFact_1 (by decide) (by decide) ?_
    refine lv_aload_n hx hb dX4_houseFact_113 rfl (lv_at hl 0 rfl) ?_
    refine gf_X4_19 C0 hP (k := 0) (show kd 0 = 4 by decide) dX4_houseFact_114 ?_
    refine gf_X4_151 C0 hP (k := 4) (show kd 4 = 2 by decide) dX4_houseFact_117 ?_
    refine lv_sipush (v := 720) hx hb dX4_houseFact_120 (by decide) ?_
    refine lv_icmp_lt (tgt := 130) hx hb dX4_houseFact_123 (by decide) (fun c_1 => ?_) (fun c_1 => ?_)
    · rw [hk0] at c_1
      have hk2 : k < 720 := by
        rcases Nat.lt_or_ge k 720 with z | z
        · exact z
        · exact absurd c_1 (nI_nlt (a := k) (b := 720) z (by omega))
      refine lv_iconst (v := 0) hx hb dX4_houseFact_130 (by decide) ?_
      exact e_Ii C0 hr hP hS (by simp [hfF, hk2]) (by decide) dX4_houseFact_131
    · rw [hk0] at c_1
      have hk2 : ¬ k < 720 := fun z => c_1 (nI_lt (a := k) (b := 720) z (by omega))
      refine lv_iconst (v := 1) hx hb dX4_houseFact_126 (by decide) ?_
      refine lv_goto (tgt := 131) hx hb dX4_houseFact_127 (by decide) ?_
      exact e_Ii C0 hr hP hS (by simp [hfF, hk2]) (by decide) dX4_houseFact_131

set_option maxHeartbeats 4000000 in
set_option maxRecDepth 100000 in
theorem c_X4_pass (l : Launch) (G : GG) (M : Mem) (o : Nat → Int64) (np nr k : Nat) (hO : OKM M np nr k) (a1 a2 a3 a4 : Int32) (hbd : ¬ bdP a1 a2 a3 a4) (hroom : np < 10) : MI l yX4_pass cX4_pass 6 (some .int) 1 24 G [.ref (adr G 0), .int a1, .int a2, .int a3, .int a4] M (u2 (cmM M (4 + 3 + np) a1 a2 a3 a4) 4 1 (nI (np + 1))) o o (nI np) 0 0 := by
  refine MI_of RX4 rfl (by decide +kernel) (Nat.le_of_ble_eq_true rfl) ?_
  intro p e s m below meth c sz C0 hr hP ls hl
  have hx := C0.1
  have hb := C0.2.1
  have hS : va_S (pA G sz) s.heap s.heap [] := va_S.rf
  have hl : lv_has ls 6 [(0, .ref (adr G 0)), (1, .int a1), (2, .int a2), (3, .int a3), (4, .int a4)] := hl
  obtain ⟨hnp, hple, hnr, hrle, hk0, hkle⟩ := id hO
  refine lv_iload_n hx hb dX4_pass_0 rfl (lv_at hl 1 rfl) ?_
  refine k_SI C0 hP hS (rest := []) (c_X4_isStep l G M o a1) mf_X4_isStep rfl ml_X4_26 hl.1 (by decide) (by decide) (Nat.le_of_ble_eq_true rfl) rfl rfl dX4_pass_1 (fun H locs hP hS => ?_)
  refine lv_if_eq (tgt := 33) hx hb dX4_pass_4 (by decide) (fun c_1 => ?_) (fun c_1 => ?_)
  · exact (hbd (by simp [bdP, c_1])).elim
  · refine lv_iload_n hx hb dX4_pass_7 rfl (lv_at hl 2 rfl) ?_
    refine lv_bipush (v := -3) hx hb dX4_pass_8 (by decide) ?_
    refine lv_icmp_lt (tgt := 33) hx hb dX4_pass_10 (by decide) (fun c_2 => ?_) (fun c_2 => ?_)
    · exact (hbd (by simp [bdP, c_1, c_2])).elim
    · refine lv_iload_n hx hb dX4_pass_13 rfl (lv_at hl 2 rfl) ?_
      refine lv_iconst (v := 3) hx hb dX4_pass_14 (by decide) ?_
      refine lv_icmp_gt (tgt := 33) hx hb dX4_pass_15 (by decide) (fun c_3 => ?_) (fun c_3 => ?_)
      · exact (hbd (by simp [bdP, c_1, c_2, c_3])).elim
      · refine lv_iload_n hx hb dX4_pass_18 rfl (lv_at hl 3 rfl) ?_
        refine k_SI C0 hP hS (rest := []) (c_X4_isOneToNine l G M o a3) mf_X4_isOneToNine rfl ml_X4_30 hl.1 (by decide) (by decide) (Nat.le_of_ble_eq_true rfl) rfl rfl dX4_pass_19 (fun H locs hP hS => ?_)
        refine lv_if_eq (tgt := 33) hx hb dX4_pass_22 (by decide) (fun c_4 => ?_) (fun c_4 => ?_)
        · exact (hbd (by simp [bdP, c_1, c_2, c_3, c_4])).elim
        · refine lv_iload hx hb dX4_pass_25 (lv_at hl 4 rfl) ?_
          refine k_SI C0 hP hS (rest := []) (c_X4_isOneToNine l G M o a4) mf_X4_isOneToNine rfl ml_X4_30 hl.1 (by decide) (by decide) (Nat.le_of_ble_eq_true rfl) rfl rfl dX4_pass_27 (fun H locs hP hS => ?_)
          refine lv_if_ne (tgt := 41) hx hb dX4_pass_30 (by decide) (fun c_5 => ?_) (fun c_5 => ?_)
          · refine lv_aload_n hx hb dX4_pass_41 rfl (lv_at hl 0 rfl) ?_
            refine gf_X4_19 C0 hP (k := 0) (show kd 0 = 4 by decide) dX4_pass_42 ?_
            refine gf_X4_36 C0 hP (k := 4) (show kd 4 = 2 by decide) dX4_pass_45 ?_
            refine lv_topE hnp ?_
            refine lv_bipush (v := 10) hx hb dX4_pass_48 (by decide) ?_
            refine lv_icmp_lt (tgt := 61) hx hb dX4_pass_50 (by decide) (fun c_6 => ?_) (fun c_6 => ?_)
            · refine lv_aload_n hx hb dX4_pass_61 rfl (lv_at hl 0 rfl) ?_
              refine gf_X4_19 C0 hP (k := 0) (show kd 0 = 4 by decide) dX4_pass_62 ?_
              refine gf_X4_36 C0 hP (k := 4) (show kd 4 = 2 by decide) dX4_pass_65 ?_
              refine lv_topE hnp ?_
              refine lv_istore (lv' := [(5, .int (nI np)), (0, .ref (adr G 0)), (1, .int a1), (2, .int a2), (3, .int a3), (4, .int a4)]) hx hb dX4_pass_68 hl (by decide) rfl (fun ls hl => ?_)
              refine lv_aload_n hx hb dX4_pass_70 rfl (lv_at hl 1 rfl) ?_
              refine gf_X4_19 C0 hP (k := 0) (show kd 0 = 4 by decide) dX4_pass_71 ?_
              refine gf_X4_43 C0 hP (k := 4) (show kd 4 = 2 by decide) dX4_pass_74 ?_
              refine lv_iload hx hb dX4_pass_77 (lv_at hl 0 rfl) ?_
              refine w_aldP C0 hP (k := 4 + 1) (i := np) (kdS1 (Or.inl rfl)) (by omega) dX4_pass_79 ?_
              refine lv_iload_n hx hb dX4_pass_80 rfl (lv_at hl 2 rfl) ?_
              refine lv_iload_n hx hb dX4_pass_81 rfl (lv_at hl 3 rfl) ?_
              refine lv_iload_n hx hb dX4_pass_82 rfl (lv_at hl 4 rfl) ?_
              refine lv_iload hx hb dX4_pass_83 (lv_at hl 5 rfl) ?_
              refine k_VNV C0 hP hS (rest := []) (c_X0_come l G M o (4 + 3 + np) (kdSp (Or.inl rfl) (by omega)) a1 a2 a3 a4) mf_X0_come ml_X4_47 (kd_lt (kdSp (Or.inl rfl) (by omega)) (by decide)) (ct_0 (kdSp (Or.inl rfl) (by omega))) rfl hl.1 (by decide) (by decide) (Nat.le_of_ble_eq_true rfl) rfl rfl dX4_pass_85 (fun H locs hP hS => ?_)
              refine lv_aload_n hx hb dX4_pass_88 rfl (lv_at hl 1 rfl) ?_
              refine gf_X4_19 C0 hP (k := 0) (show kd 0 = 4 by decide) dX4_pass_89 ?_
              refine lv_dup hx hb dX4_pass_92 rfl ?_
              refine gf_X4_36 C0 hP (k := 4) (show kd 4 = 2 by decide) dX4_pass_93 ?_
              refine lv_iconst (v := 1) hx hb dX4_pass_96 (by decide) ?_
              refine lv_iadd hx hb dX4_pass_97 ?_
              refine lv_topE (y := nI (np + 1)) (by rw [cmM_lo (by omega), hnp]; exact nI_1 np) ?_
              refine pf_X4_36 C0 hP hS (k := 4) (show kd 4 = 2 by decide) dX4_pass_98 (fun H locs hP hS => ?_)
              refine lv_iload hx hb dX4_pass_101 (lv_at hl 0 rfl) ?_
              exact e_Ii C0 hr hP hS rfl (by decide) dX4_pass_103
            · exact absurd (nI_lt (a := np) (b := 10) hroom (by omega)) c_6
          · exact (hbd (by simp [bdP, c_1, c_2, c_3, c_4, c_5])).elim

set_option maxHeartbeats 4000000 in
set_option maxRecDepth 100000 in
theorem c_X4_pass_a (l : Launch) (G : GG) (M : Mem) (o : Nat → Int64) (hst : l.stackTraces = false) (np nr k : Nat) (hO : OKM M np nr k) (a1 a2 a3 a4 : Int32) (hbd : bdP a1 a2 a3 a4) : MX l yX4_pass cX4_pass 6 (some .int) 6 89 G [.ref (adr G 0), .int a1, .int a2, .int a3, .int a4] M M o o "java/lang/IllegalArgumentException" 1 6 := by
  refine MX_of RX4 rfl (by decide +kernel) (Nat.le_of_ble_eq_true rfl) ?_
  intro p e s m below meth c sz C0 hx0 hP ls hl
  have hx := C0.1
  have hb := C0.2.1
  have hS : va_S (pA G sz) s.heap s.heap [] := va_S.rf
  have hl : lv_has ls 6 [(0, .ref (adr G 0)), (1, .int a1), (2, .int a2), (3, .int a3), (4, .int a4)] := hl
  obtain ⟨hnp, hple, hnr, hrle, hk0, hkle⟩ := id hO
  refine lv_iload_n hx hb dX4_pass_0 rfl (lv_at hl 1 rfl) ?_
  refine k_SI C0 hP hS (rest := []) (c_X4_isStep l G M o a1) mf_X4_isStep rfl ml_X4_26 hl.1 (by decide) (by decide) (Nat.le_of_ble_eq_true rfl) rfl rfl dX4_pass_1 (fun H locs hP hS => ?_)
  refine lv_if_eq (tgt := 33) hx hb dX4_pass_4 (by decide) (fun c_1 => ?_) (fun c_1 => ?_)
  · exact th_IAE C0 hst hx0 hP hS hl.1 dX4_pass_33 dX4_pass_36 dX4_pass_37 dX4_pass_40 ⟨by decide, Nat.le_of_ble_eq_true rfl, by decide, by decide⟩ (by decide)
  · refine lv_iload_n hx hb dX4_pass_7 rfl (lv_at hl 2 rfl) ?_
    refine lv_bipush (v := -3) hx hb dX4_pass_8 (by decide) ?_
    refine lv_icmp_lt (tgt := 33) hx hb dX4_pass_10 (by decide) (fun c_2 => ?_) (fun c_2 => ?_)
    · exact th_IAE C0 hst hx0 hP hS hl.1 dX4_pass_33 dX4_pass_36 dX4_pass_37 dX4_pass_40 ⟨by decide, Nat.le_of_ble_eq_true rfl, by decide, by decide⟩ (by decide)
    · refine lv_iload_n hx hb dX4_pass_13 rfl (lv_at hl 2 rfl) ?_
      refine lv_iconst (v := 3) hx hb dX4_pass_14 (by decide) ?_
      refine lv_icmp_gt (tgt := 33) hx hb dX4_pass_15 (by decide) (fun c_3 => ?_) (fun c_3 => ?_)
      · exact th_IAE C0 hst hx0 hP hS hl.1 dX4_pass_33 dX4_pass_36 dX4_pass_37 dX4_pass_40 ⟨by decide, Nat.le_of_ble_eq_true rfl, by decide, by decide⟩ (by decide)
      · refine lv_iload_n hx hb dX4_pass_18 rfl (lv_at hl 3 rfl) ?_
        refine k_SI C0 hP hS (rest := []) (c_X4_isOneToNine l G M o a3) mf_X4_isOneToNine rfl ml_X4_30 hl.1 (by decide) (by decide) (Nat.le_of_ble_eq_true rfl) rfl rfl dX4_pass_19 (fun H locs hP hS => ?_)
        refine lv_if_eq (tgt := 33) hx hb dX4_pass_22 (by decide) (fun c_4 => ?_) (fun c_4 => ?_)
        · exact th_IAE C0 hst hx0 hP hS hl.1 dX4_pass_33 dX4_pass_36 dX4_pass_37 dX4_pass_40 ⟨by decide, Nat.le_of_ble_eq_true rfl, by decide, by decide⟩ (by decide)
        · refine lv_iload hx hb dX4_pass_25 (lv_at hl 4 rfl) ?_
          refine k_SI C0 hP hS (rest := []) (c_X4_isOneToNine l G M o a4) mf_X4_isOneToNine rfl ml_X4_30 hl.1 (by decide) (by decide) (Nat.le_of_ble_eq_true rfl) rfl rfl dX4_pass_27 (fun H locs hP hS => ?_)
          refine lv_if_ne (tgt := 41) hx hb dX4_pass_30 (by decide) (fun c_5 => ?_) (fun c_5 => ?_)
          · exact absurd hbd (by simp [bdP, c_1, c_2, c_3, c_4, c_5])
          · exact th_IAE C0 hst hx0 hP hS hl.1 dX4_pass_33 dX4_pass_36 dX4_pass_37 dX4_pass_40 ⟨by decide, Nat.le_of_ble_eq_true rfl, by decide, by decide⟩ (by decide)

set_option maxHeartbeats 4000000 in
set_option maxRecDepth 100000 in
theorem c_X4_pass_s (l : Launch) (G : GG) (M : Mem) (o : Nat → Int64) (hst : l.stackTraces = false) (np nr k : Nat) (hO : OKM M np nr k) (a1 a2 a3 a4 : Int32) (hbd : ¬ bdP a1 a2 a3 a4) (hroom : ¬ np < 10) : MX l yX4_pass cX4_pass 6 (some .int) 6 89 G [.ref (adr G 0), .int a1, .int a2, .int a3, .int a4] M M o o "java/lang/IllegalStateException" 1 6 := by
  refine MX_of RX4 rfl (by decide +kernel) (Nat.le_of_ble_eq_true rfl) ?_
  intro p e s m below meth c sz C0 hx0 hP ls hl
  have hx := C0.1
  have hb := C0.2.1
  have hS : va_S (pA G sz) s.heap s.heap [] := va_S.rf
  have hl : lv_has ls 6 [(0, .ref (adr G 0)), (1, .int a1), (2, .int a2), (3, .int a3), (4, .int a4)] := hl
  obtain ⟨hnp, hple, hnr, hrle, hk0, hkle⟩ := id hO
  refine lv_iload_n hx hb dX4_pass_0 rfl (lv_at hl 1 rfl) ?_
  refine k_SI C0 hP hS (rest := []) (c_X4_isStep l G M o a1) mf_X4_isStep rfl ml_X4_26 hl.1 (by decide) (by decide) (Nat.le_of_ble_eq_true rfl) rfl rfl dX4_pass_1 (fun H locs hP hS => ?_)
  refine lv_if_eq (tgt := 33) hx hb dX4_pass_4 (by decide) (fun c_1 => ?_) (fun c_1 => ?_)
  · exact (hbd (by simp [bdP, c_1])).elim
  · refine lv_iload_n hx hb dX4_pass_7 rfl (lv_at hl 2 rfl) ?_
    refine lv_bipush (v := -3) hx hb dX4_pass_8 (by decide) ?_
    refine lv_icmp_lt (tgt := 33) hx hb dX4_pass_10 (by decide) (fun c_2 => ?_) (fun c_2 => ?_)
    · exact (hbd (by simp [bdP, c_1, c_2])).elim
    · refine lv_iload_n hx hb dX4_pass_13 rfl (lv_at hl 2 rfl) ?_
      refine lv_iconst (v := 3) hx hb dX4_pass_14 (by decide) ?_
      refine lv_icmp_gt (tgt := 33) hx hb dX4_pass_15 (by decide) (fun c_3 => ?_) (fun c_3 => ?_)
      · exact (hbd (by simp [bdP, c_1, c_2, c_3])).elim
      · refine lv_iload_n hx hb dX4_pass_18 rfl (lv_at hl 3 rfl) ?_
        refine k_SI C0 hP hS (rest := []) (c_X4_isOneToNine l G M o a3) mf_X4_isOneToNine rfl ml_X4_30 hl.1 (by decide) (by decide) (Nat.le_of_ble_eq_true rfl) rfl rfl dX4_pass_19 (fun H locs hP hS => ?_)
        refine lv_if_eq (tgt := 33) hx hb dX4_pass_22 (by decide) (fun c_4 => ?_) (fun c_4 => ?_)
        · exact (hbd (by simp [bdP, c_1, c_2, c_3, c_4])).elim
        · refine lv_iload hx hb dX4_pass_25 (lv_at hl 4 rfl) ?_
          refine k_SI C0 hP hS (rest := []) (c_X4_isOneToNine l G M o a4) mf_X4_isOneToNine rfl ml_X4_30 hl.1 (by decide) (by decide) (Nat.le_of_ble_eq_true rfl) rfl rfl dX4_pass_27 (fun H locs hP hS => ?_)
          refine lv_if_ne (tgt := 41) hx hb dX4_pass_30 (by decide) (fun c_5 => ?_) (fun c_5 => ?_)
          · refine lv_aload_n hx hb dX4_pass_41 rfl (lv_at hl 0 rfl) ?_
            refine gf_X4_19 C0 hP (k := 0) (show kd 0 = 4 by decide) dX4_pass_42 ?_
            refine gf_X4_36 C0 hP (k := 4) (show kd 4 = 2 by decide) dX4_pass_45 ?_
            refine lv_topE hnp ?_
            refine lv_bipush (v := 10) hx hb dX4_pass_48 (by decide) ?_
            refine lv_icmp_lt (tgt := 61) hx hb dX4_pass_50 (by decide) (fun c_6 => ?_) (fun c_6 => ?_)
            · exact absurd c_6 (nI_nlt (a := np) (b := 10) (by omega) (by omega))
            · exact th_ISE C0 hst hx0 hP hS hl.1 dX4_pass_53 dX4_pass_56 dX4_pass_57 dX4_pass_60 ⟨by decide, Nat.le_of_ble_eq_true rfl, by decide, by decide⟩ (by decide)
          · exact (hbd (by simp [bdP, c_1, c_2, c_3, c_4, c_5])).elim

set_option maxHeartbeats 4000000 in
set_option maxRecDepth 100000 in
theorem c_X4_setLight (l : Launch) (G : GG) (M : Mem) (o : Nat → Int64) (np nr k : Nat) (hO : OKM M np nr k) (h : Nat) (hh : h < 12) (a2 a3 : Int32) (hbd : ¬ bdL a2 a3) : MI l yX4_setLight cX4_setLight 5 (some .int) 1 21 G [.ref (adr G 0), .int (nI h), .int a2, .int a3] M (u2 (u2 M 2 h a2) 3 h a3) o o (10 * M 2 h + M 3 h) 0 0 := by
  refine MI_of RX4 rfl (by decide +kernel) (Nat.le_of_ble_eq_true rfl) ?_
  intro p e s m below meth c sz C0 hr hP ls hl
  have hx := C0.1
  have hb := C0.2.1
  have hS : va_S (pA G sz) s.heap s.heap [] := va_S.rf
  have hl : lv_has ls 5 [(0, .ref (adr G 0)), (1, .int (nI h)), (2, .int a2), (3, .int a3)] := hl
  obtain ⟨hnp, hple, hnr, hrle, hk0, hkle⟩ := id hO
  refine lv_iload_n hx hb dX4_setLight_0 rfl (lv_at hl 1 rfl) ?_
  refine lv_if_lt (tgt := 10) hx hb dX4_setLight_1 (by decide) (fun c_1 => ?_) (fun c_1 => ?_)
  · exact absurd c_1 (nI_pos (by omega))
  · refine lv_iload_n hx hb dX4_setLight_4 rfl (lv_at hl 1 rfl) ?_
    refine lv_bipush (v := 12) hx hb dX4_setLight_5 (by decide) ?_
    refine lv_icmp_lt (tgt := 18) hx hb dX4_setLight_7 (by decide) (fun c_2 => ?_) (fun c_2 => ?_)
    · refine lv_iload_n hx hb dX4_setLight_18 rfl (lv_at hl 2 rfl) ?_
      refine lv_if_lt (tgt := 35) hx hb dX4_setLight_19 (by decide) (fun c_3 => ?_) (fun c_3 => ?_)
      · exact (hbd (by simp [bdL, c_1, c_2, c_3])).elim
      · refine lv_iload_n hx hb dX4_setLight_22 rfl (lv_at hl 2 rfl) ?_
        refine lv_bipush (v := 100) hx hb dX4_setLight_23 (by decide) ?_
        refine lv_icmp_gt (tgt := 35) hx hb dX4_setLight_25 (by decide) (fun c_4 => ?_) (fun c_4 => ?_)
        · exact (hbd (by simp [bdL, c_1, c_2, c_3, c_4])).elim
        · refine lv_iload_n hx hb dX4_setLight_28 rfl (lv_at hl 3 rfl) ?_
          refine k_SI C0 hP hS (rest := []) (c_X4_isZeroToNine l G M o a3) mf_X4_isZeroToNine rfl ml_X4_56 hl.1 (by decide) (by decide) (Nat.le_of_ble_eq_true rfl) rfl rfl dX4_setLight_29 (fun H locs hP hS => ?_)
          refine lv_if_ne (tgt := 43) hx hb dX4_setLight_32 (by decide) (fun c_5 => ?_) (fun c_5 => ?_)
          · refine lv_aload_n hx hb dX4_setLight_43 rfl (lv_at hl 0 rfl) ?_
            refine gf_X4_12 C0 hP (k := 0) (show kd 0 = 4 by decide) dX4_setLight_44 ?_
            refine lv_iload_n hx hb dX4_setLight_47 rfl (lv_at hl 1 rfl) ?_
            refine k_VNI C0 hP hS (rest := []) (c_X3_entry l G M o h (by omega)) mf_X3_entry ml_X4_59 (kd_lt (show kd 1 = 3 by decide) (by decide)) (ct_3 (show kd 1 = 3 by decide)) rfl hl.1 (by decide) (by decide) (Nat.le_of_ble_eq_true rfl) rfl rfl dX4_setLight_48 (fun H locs hP hS => ?_)
            refine lv_istore (lv' := [(4, .int (10 * M 2 h + M 3 h)), (0, .ref (adr G 0)), (1, .int (nI h)), (2, .int a2), (3, .int a3)]) hx hb dX4_setLight_51 hl (by decide) rfl (fun ls hl => ?_)
            refine lv_aload_n hx hb dX4_setLight_53 rfl (lv_at hl 1 rfl) ?_
            refine gf_X4_12 C0 hP (k := 0) (show kd 0 = 4 by decide) dX4_setLight_54 ?_
            refine gf_X4_63 C0 hP (k := 1) (show kd 1 = 3 by decide) dX4_setLight_57 ?_
            refine lv_iload_n hx hb dX4_setLight_60 rfl (lv_at hl 2 rfl) ?_
            refine lv_iload_n hx hb dX4_setLight_61 rfl (lv_at hl 3 rfl) ?_
            refine w_iastN C0 hP hS (k := 2) (i := h) (show kd 2 = 7 by decide) (show h < 12 by omega) (by omega) dX4_setLight_62 (fun H locs hP hS => ?_)
            refine lv_aload_n hx hb dX4_setLight_63 rfl (lv_at hl 1 rfl) ?_
            refine gf_X4_12 C0 hP (k := 0) (show kd 0 = 4 by decide) dX4_setLight_64 ?_
            refine gf_X4_67 C0 hP (k := 1) (show kd 1 = 3 by decide) dX4_setLight_67 ?_
            refine lv_iload_n hx hb dX4_setLight_70 rfl (lv_at hl 2 rfl) ?_
            refine lv_iload_n hx hb dX4_setLight_71 rfl (lv_at hl 4 rfl) ?_
            refine w_iastN C0 hP hS (k := 3) (i := h) (show kd 3 = 7 by decide) (show h < 12 by omega) (by omega) dX4_setLight_72 (fun H locs hP hS => ?_)
            refine lv_iload hx hb dX4_setLight_73 (lv_at hl 0 rfl) ?_
            exact e_Ii C0 hr hP hS rfl (by decide) dX4_setLight_75
          · exact (hbd (by simp [bdL, c_1, c_2, c_3, c_4, c_5])).elim
    · exact absurd (nI_lt (a := h) (b := 12) hh (by omega)) c_2

set_option maxHeartbeats 4000000 in
set_option maxRecDepth 100000 in
theorem c_X4_setLight_i (l : Launch) (G : GG) (M : Mem) (o : Nat → Int64) (hst : l.stackTraces = false) (np nr k : Nat) (hO : OKM M np nr k) (x1 a2 a3 : Int32) (hbd : x1 < 0 ∨ ¬ x1 < 12) : MX l yX4_setLight cX4_setLight 5 (some .int) 6 89 G [.ref (adr G 0), .int x1, .int a2, .int a3] M M o o "java/lang/IndexOutOfBoundsException" 1 6 := by
  refine MX_of RX4 rfl (by decide +kernel) (Nat.le_of_ble_eq_true rfl) ?_
  intro p e s m below meth c sz C0 hx0 hP ls hl
  have hx := C0.1
  have hb := C0.2.1
  have hS : va_S (pA G sz) s.heap s.heap [] := va_S.rf
  have hl : lv_has ls 5 [(0, .ref (adr G 0)), (1, .int x1), (2, .int a2), (3, .int a3)] := hl
  obtain ⟨hnp, hple, hnr, hrle, hk0, hkle⟩ := id hO
  refine lv_iload_n hx hb dX4_setLight_0 rfl (lv_at hl 1 rfl) ?_
  refine lv_if_lt (tgt := 10) hx hb dX4_setLight_1 (by decide) (fun c_1 => ?_) (fun c_1 => ?_)
  · exact th_IOE C0 hst hx0 hP hS hl.1 dX4_setLight_10 dX4_setLight_13 dX4_setLight_14 dX4_setLight_17 ⟨by decide, Nat.le_of_ble_eq_true rfl, by decide, by decide⟩ (by decide)
  · refine lv_iload_n hx hb dX4_setLight_4 rfl (lv_at hl 1 rfl) ?_
    refine lv_bipush (v := 12) hx hb dX4_setLight_5 (by decide) ?_
    refine lv_icmp_lt (tgt := 18) hx hb dX4_setLight_7 (by decide) (fun c_2 => ?_) (fun c_2 => ?_)
    · exact absurd hbd (by simp [c_1, c_2])
    · exact th_IOE C0 hst hx0 hP hS hl.1 dX4_setLight_10 dX4_setLight_13 dX4_setLight_14 dX4_setLight_17 ⟨by decide, Nat.le_of_ble_eq_true rfl, by decide, by decide⟩ (by decide)

set_option maxHeartbeats 4000000 in
set_option maxRecDepth 100000 in
theorem c_X4_setLight_a (l : Launch) (G : GG) (M : Mem) (o : Nat → Int64) (hst : l.stackTraces = false) (np nr k : Nat) (hO : OKM M np nr k) (h : Nat) (hh : h < 12) (a2 a3 : Int32) (hbd : bdL a2 a3) : MX l yX4_setLight cX4_setLight 5 (some .int) 6 89 G [.ref (adr G 0), .int (nI h), .int a2, .int a3] M M o o "java/lang/IllegalArgumentException" 1 6 := by
  refine MX_of RX4 rfl (by decide +kernel) (Nat.le_of_ble_eq_true rfl) ?_
  intro p e s m below meth c sz C0 hx0 hP ls hl
  have hx := C0.1
  have hb := C0.2.1
  have hS : va_S (pA G sz) s.heap s.heap [] := va_S.rf
  have hl : lv_has ls 5 [(0, .ref (adr G 0)), (1, .int (nI h)), (2, .int a2), (3, .int a3)] := hl
  obtain ⟨hnp, hple, hnr, hrle, hk0, hkle⟩ := id hO
  refine lv_iload_n hx hb dX4_setLight_0 rfl (lv_at hl 1 rfl) ?_
  refine lv_if_lt (tgt := 10) hx hb dX4_setLight_1 (by decide) (fun c_1 => ?_) (fun c_1 => ?_)
  · exact absurd c_1 (nI_pos (by omega))
  · refine lv_iload_n hx hb dX4_setLight_4 rfl (lv_at hl 1 rfl) ?_
    refine lv_bipush (v := 12) hx hb dX4_setLight_5 (by decide) ?_
    refine lv_icmp_lt (tgt := 18) hx hb dX4_setLight_7 (by decide) (fun c_2 => ?_) (fun c_2 => ?_)
    · refine lv_iload_n hx hb dX4_setLight_18 rfl (lv_at hl 2 rfl) ?_
      refine lv_if_lt (tgt := 35) hx hb dX4_setLight_19 (by decide) (fun c_3 => ?_) (fun c_3 => ?_)
      · exact th_IAE C0 hst hx0 hP hS hl.1 dX4_setLight_35 dX4_setLight_38 dX4_setLight_39 dX4_setLight_42 ⟨by decide, Nat.le_of_ble_eq_true rfl, by decide, by decide⟩ (by decide)
      · refine lv_iload_n hx hb dX4_setLight_22 rfl (lv_at hl 2 rfl) ?_
        refine lv_bipush (v := 100) hx hb dX4_setLight_23 (by decide) ?_
        refine lv_icmp_gt (tgt := 35) hx hb dX4_setLight_25 (by decide) (fun c_4 => ?_) (fun c_4 => ?_)
        · exact th_IAE C0 hst hx0 hP hS hl.1 dX4_setLight_35 dX4_setLight_38 dX4_setLight_39 dX4_setLight_42 ⟨by decide, Nat.le_of_ble_eq_true rfl, by decide, by decide⟩ (by decide)
        · refine lv_iload_n hx hb dX4_setLight_28 rfl (lv_at hl 3 rfl) ?_
          refine k_SI C0 hP hS (rest := []) (c_X4_isZeroToNine l G M o a3) mf_X4_isZeroToNine rfl ml_X4_56 hl.1 (by decide) (by decide) (Nat.le_of_ble_eq_true rfl) rfl rfl dX4_setLight_29 (fun H locs hP hS => ?_)
          refine lv_if_ne (tgt := 43) hx hb dX4_setLight_32 (by decide) (fun c_5 => ?_) (fun c_5 => ?_)
          · exact absurd hbd (by simp [bdL, c_1, c_2, c_3, c_4, c_5])
          · exact th_IAE C0 hst hx0 hP hS hl.1 dX4_setLight_35 dX4_setLight_38 dX4_setLight_39 dX4_setLight_42 ⟨by decide, Nat.le_of_ble_eq_true rfl, by decide, by decide⟩ (by decide)
    · exact absurd (nI_lt (a := h) (b := 12) hh (by omega)) c_2

set_option maxHeartbeats 4000000 in
set_option maxRecDepth 100000 in
theorem c_X4_addRoom (l : Launch) (G : GG) (M : Mem) (o : Nat → Int64) (np nr k : Nat) (hO : OKM M np nr k) (a1 a2 a3 : Int32) (hbd : ¬ bdR a1 a2 a3) (hroom : nr < 8) (hfree : hhM M 4 a1 nr = 0) : MI l yX4_addRoom cX4_addRoom 5 (some .int) 1 23 G [.ref (adr G 0), .int a1, .int a2, .int a3] M (u2 (bdM M (4 + 13 + nr) a1 a2 a3) 4 2 (nI (nr + 1))) o o (nI nr) 0 0 := by
  refine MI_of RX4 rfl (by decide +kernel) (Nat.le_of_ble_eq_true rfl) ?_
  intro p e s m below meth c sz C0 hr hP ls hl
  have hx := C0.1
  have hb := C0.2.1
  have hS : va_S (pA G sz) s.heap s.heap [] := va_S.rf
  have hl : lv_has ls 5 [(0, .ref (adr G 0)), (1, .int a1), (2, .int a2), (3, .int a3)] := hl
  obtain ⟨hnp, hple, hnr, hrle, hk0, hkle⟩ := id hO
  refine lv_iload_n hx hb dX4_addRoom_0 rfl (lv_at hl 1 rfl) ?_
  refine k_SI C0 hP hS (rest := []) (c_X4_isStep l G M o a1) mf_X4_isStep rfl ml_X4_26 hl.1 (by decide) (by decide) (Nat.le_of_ble_eq_true rfl) rfl rfl dX4_addRoom_1 (fun H locs hP hS => ?_)
  refine lv_if_eq (tgt := 24) hx hb dX4_addRoom_4 (by decide) (fun c_1 => ?_) (fun c_1 => ?_)
  · exact (hbd (by simp [bdR, c_1])).elim
  · refine lv_iload_n hx hb dX4_addRoom_7 rfl (lv_at hl 2 rfl) ?_
    refine k_SI C0 hP hS (rest := []) (c_X4_isOneToNine l G M o a2) mf_X4_isOneToNine rfl ml_X4_30 hl.1 (by decide) (by decide) (Nat.le_of_ble_eq_true rfl) rfl rfl dX4_addRoom_8 (fun H locs hP hS => ?_)
    refine lv_if_eq (tgt := 24) hx hb dX4_addRoom_11 (by decide) (fun c_2 => ?_) (fun c_2 => ?_)
    · exact (hbd (by simp [bdR, c_1, c_2])).elim
    · refine lv_iload_n hx hb dX4_addRoom_14 rfl (lv_at hl 3 rfl) ?_
      refine lv_if_lt (tgt := 24) hx hb dX4_addRoom_15 (by decide) (fun c_3 => ?_) (fun c_3 => ?_)
      · exact (hbd (by simp [bdR, c_1, c_2, c_3])).elim
      · refine lv_iload_n hx hb dX4_addRoom_18 rfl (lv_at hl 3 rfl) ?_
        refine lv_bipush (v := 20) hx hb dX4_addRoom_19 (by decide) ?_
        refine lv_icmp_le (tgt := 32) hx hb dX4_addRoom_21 (by decide) (fun c_4 => ?_) (fun c_4 => ?_)
        · refine lv_aload_n hx hb dX4_addRoom_32 rfl (lv_at hl 0 rfl) ?_
          refine gf_X4_19 C0 hP (k := 0) (show kd 0 = 4 by decide) dX4_addRoom_33 ?_
          refine gf_X4_70 C0 hP (k := 4) (show kd 4 = 2 by decide) dX4_addRoom_36 ?_
          refine lv_topE hnr ?_
          refine lv_bipush (v := 8) hx hb dX4_addRoom_39 (by decide) ?_
          refine lv_icmp_ge (tgt := 55) hx hb dX4_addRoom_41 (by decide) (fun c_5 => ?_) (fun c_5 => ?_)
          · exact absurd c_5 (nI_ge (a := nr) (b := 8) hroom (by omega))
          · refine lv_aload_n hx hb dX4_addRoom_44 rfl (lv_at hl 0 rfl) ?_
            refine gf_X4_19 C0 hP (k := 0) (show kd 0 = 4 by decide) dX4_addRoom_45 ?_
            refine lv_iload_n hx hb dX4_addRoom_48 rfl (lv_at hl 1 rfl) ?_
            refine k_VNI C0 hP hS (rest := []) (c_X2_hasHoleAt l G M o 4 a1 nr (Or.inl rfl) hnr hrle) mf_X2_hasHoleAt ml_X4_73 (kd_lt (show kd 4 = 2 by decide) (by decide)) (ct_2 (show kd 4 = 2 by decide)) rfl hl.1 (by decide) (by decide) (Nat.le_of_ble_eq_true rfl) rfl rfl dX4_addRoom_49 (fun H locs hP hS => ?_)
            refine lv_if_eq (tgt := 63) hx hb dX4_addRoom_52 (by decide) (fun c_6 => ?_) (fun c_6 => ?_)
            · refine lv_aload_n hx hb dX4_addRoom_63 rfl (lv_at hl 0 rfl) ?_
              refine gf_X4_19 C0 hP (k := 0) (show kd 0 = 4 by decide) dX4_addRoom_64 ?_
              refine gf_X4_70 C0 hP (k := 4) (show kd 4 = 2 by decide) dX4_addRoom_67 ?_
              refine lv_topE hnr ?_
              refine lv_istore (lv' := [(4, .int (nI nr)), (0, .ref (adr G 0)), (1, .int a1), (2, .int a2), (3, .int a3)]) hx hb dX4_addRoom_70 hl (by decide) rfl (fun ls hl => ?_)
              refine lv_aload_n hx hb dX4_addRoom_72 rfl (lv_at hl 1 rfl) ?_
              refine gf_X4_19 C0 hP (k := 0) (show kd 0 = 4 by decide) dX4_addRoom_73 ?_
              refine gf_X4_76 C0 hP (k := 4) (show kd 4 = 2 by decide) dX4_addRoom_76 ?_
              refine lv_iload hx hb dX4_addRoom_79 (lv_at hl 0 rfl) ?_
              refine w_aldR C0 hP (k := 4 + 2) (i := nr) (kdS2 (Or.inl rfl)) (by omega) dX4_addRoom_81 ?_
              refine lv_iload_n hx hb dX4_addRoom_82 rfl (lv_at hl 2 rfl) ?_
              refine lv_iload_n hx hb dX4_addRoom_83 rfl (lv_at hl 3 rfl) ?_
              refine lv_iload_n hx hb dX4_addRoom_84 rfl (lv_at hl 4 rfl) ?_
              refine k_VNV C0 hP hS (rest := []) (c_X1_build l G M o (4 + 13 + nr) (kdSr (Or.inl rfl) (by omega)) a1 a2 a3) mf_X1_build ml_X4_80 (kd_lt (kdSr (Or.inl rfl) (by omega)) (by decide)) (ct_1 (kdSr (Or.inl rfl) (by omega))) rfl hl.1 (by decide) (by decide) (Nat.le_of_ble_eq_true rfl) rfl rfl dX4_addRoom_85 (fun H locs hP hS => ?_)
              refine lv_aload_n hx hb dX4_addRoom_88 rfl (lv_at hl 1 rfl) ?_
              refine gf_X4_19 C0 hP (k := 0) (show kd 0 = 4 by decide) dX4_addRoom_89 ?_
              refine lv_dup hx hb dX4_addRoom_92 rfl ?_
              refine gf_X4_70 C0 hP (k := 4) (show kd 4 = 2 by decide) dX4_addRoom_93 ?_
              refine lv_iconst (v := 1) hx hb dX4_addRoom_96 (by decide) ?_
              refine lv_iadd hx hb dX4_addRoom_97 ?_
              refine lv_topE (y := nI (nr + 1)) (by rw [bdM_lo (by omega), hnr]; exact nI_1 nr) ?_
              refine pf_X4_70 C0 hP hS (k := 4) (show kd 4 = 2 by decide) dX4_addRoom_98 (fun H locs hP hS => ?_)
              refine lv_iload hx hb dX4_addRoom_101 (lv_at hl 0 rfl) ?_
              exact e_Ii C0 hr hP hS rfl (by decide) dX4_addRoom_103
            · exact absurd hfree c_6
        · exact (hbd (by simp [bdR, c_1, c_2, c_3, c_4])).elim

set_option maxHeartbeats 4000000 in
set_option maxRecDepth 100000 in
theorem c_X4_addRoom_a (l : Launch) (G : GG) (M : Mem) (o : Nat → Int64) (hst : l.stackTraces = false) (np nr k : Nat) (hO : OKM M np nr k) (a1 a2 a3 : Int32) (hbd : bdR a1 a2 a3) : MX l yX4_addRoom cX4_addRoom 5 (some .int) 6 89 G [.ref (adr G 0), .int a1, .int a2, .int a3] M M o o "java/lang/IllegalArgumentException" 1 6 := by
  refine MX_of RX4 rfl (by decide +kernel) (Nat.le_of_ble_eq_true rfl) ?_
  intro p e s m below meth c sz C0 hx0 hP ls hl
  have hx := C0.1
  have hb := C0.2.1
  have hS : va_S (pA G sz) s.heap s.heap [] := va_S.rf
  have hl : lv_has ls 5 [(0, .ref (adr G 0)), (1, .int a1), (2, .int a2), (3, .int a3)] := hl
  obtain ⟨hnp, hple, hnr, hrle, hk0, hkle⟩ := id hO
  refine lv_iload_n hx hb dX4_addRoom_0 rfl (lv_at hl 1 rfl) ?_
  refine k_SI C0 hP hS (rest := []) (c_X4_isStep l G M o a1) mf_X4_isStep rfl ml_X4_26 hl.1 (by decide) (by decide) (Nat.le_of_ble_eq_true rfl) rfl rfl dX4_addRoom_1 (fun H locs hP hS => ?_)
  refine lv_if_eq (tgt := 24) hx hb dX4_addRoom_4 (by decide) (fun c_1 => ?_) (fun c_1 => ?_)
  · exact th_IAE C0 hst hx0 hP hS hl.1 dX4_addRoom_24 dX4_addRoom_27 dX4_addRoom_28 dX4_addRoom_31 ⟨by decide, Nat.le_of_ble_eq_true rfl, by decide, by decide⟩ (by decide)
  · refine lv_iload_n hx hb dX4_addRoom_7 rfl (lv_at hl 2 rfl) ?_
    refine k_SI C0 hP hS (rest := []) (c_X4_isOneToNine l G M o a2) mf_X4_isOneToNine rfl ml_X4_30 hl.1 (by decide) (by decide) (Nat.le_of_ble_eq_true rfl) rfl rfl dX4_addRoom_8 (fun H locs hP hS => ?_)
    refine lv_if_eq (tgt := 24) hx hb dX4_addRoom_11 (by decide) (fun c_2 => ?_) (fun c_2 => ?_)
    · exact th_IAE C0 hst hx0 hP hS hl.1 dX4_addRoom_24 dX4_addRoom_27 dX4_addRoom_28 dX4_addRoom_31 ⟨by decide, Nat.le_of_ble_eq_true rfl, by decide, by decide⟩ (by decide)
    · refine lv_iload_n hx hb dX4_addRoom_14 rfl (lv_at hl 3 rfl) ?_
      refine lv_if_lt (tgt := 24) hx hb dX4_addRoom_15 (by decide) (fun c_3 => ?_) (fun c_3 => ?_)
      · exact th_IAE C0 hst hx0 hP hS hl.1 dX4_addRoom_24 dX4_addRoom_27 dX4_addRoom_28 dX4_addRoom_31 ⟨by decide, Nat.le_of_ble_eq_true rfl, by decide, by decide⟩ (by decide)
      · refine lv_iload_n hx hb dX4_addRoom_18 rfl (lv_at hl 3 rfl) ?_
        refine lv_bipush (v := 20) hx hb dX4_addRoom_19 (by decide) ?_
        refine lv_icmp_le (tgt := 32) hx hb dX4_addRoom_21 (by decide) (fun c_4 => ?_) (fun c_4 => ?_)
        · exact absurd hbd (by simp [bdR, c_1, c_2, c_3, c_4])
        · exact th_IAE C0 hst hx0 hP hS hl.1 dX4_addRoom_24 dX4_addRoom_27 dX4_addRoom_28 dX4_addRoom_31 ⟨by decide, Nat.le_of_ble_eq_true rfl, by decide, by decide⟩ (by decide)

set_option maxHeartbeats 4000000 in
set_option maxRecDepth 100000 in
theorem c_X4_addRoom_s (l : Launch) (G : GG) (M : Mem) (o : Nat → Int64) (hst : l.stackTraces = false) (np nr k : Nat) (hO : OKM M np nr k) (a1 a2 a3 : Int32) (hbd : ¬ bdR a1 a2 a3) (hroom : ¬ nr < 8 ∨ ¬ hhM M 4 a1 nr = 0) : MX l yX4_addRoom cX4_addRoom 5 (some .int) 6 89 G [.ref (adr G 0), .int a1, .int a2, .int a3] M M o o "java/lang/IllegalStateException" 1 6 := by
  refine MX_of RX4 rfl (by decide +kernel) (Nat.le_of_ble_eq_true rfl) ?_
  intro p e s m below meth c sz C0 hx0 hP ls hl
  have hx := C0.1
  have hb := C0.2.1
  have hS : va_S (pA G sz) s.heap s.heap [] := va_S.rf
  have hl : lv_has ls 5 [(0, .ref (adr G 0)), (1, .int a1), (2, .int a2), (3, .int a3)] := hl
  obtain ⟨hnp, hple, hnr, hrle, hk0, hkle⟩ := id hO
  refine lv_iload_n hx hb dX4_addRoom_0 rfl (lv_at hl 1 rfl) ?_
  refine k_SI C0 hP hS (rest := []) (c_X4_isStep l G M o a1) mf_X4_isStep rfl ml_X4_26 hl.1 (by decide) (by decide) (Nat.le_of_ble_eq_true rfl) rfl rfl dX4_addRoom_1 (fun H locs hP hS => ?_)
  refine lv_if_eq (tgt := 24) hx hb dX4_addRoom_4 (by decide) (fun c_1 => ?_) (fun c_1 => ?_)
  · exact (hbd (by simp [bdR, c_1])).elim
  · refine lv_iload_n hx hb dX4_addRoom_7 rfl (lv_at hl 2 rfl) ?_
    refine k_SI C0 hP hS (rest := []) (c_X4_isOneToNine l G M o a2) mf_X4_isOneToNine rfl ml_X4_30 hl.1 (by decide) (by decide) (Nat.le_of_ble_eq_true rfl) rfl rfl dX4_addRoom_8 (fun H locs hP hS => ?_)
    refine lv_if_eq (tgt := 24) hx hb dX4_addRoom_11 (by decide) (fun c_2 => ?_) (fun c_2 => ?_)
    · exact (hbd (by simp [bdR, c_1, c_2])).elim
    · refine lv_iload_n hx hb dX4_addRoom_14 rfl (lv_at hl 3 rfl) ?_
      refine lv_if_lt (tgt := 24) hx hb dX4_addRoom_15 (by decide) (fun c_3 => ?_) (fun c_3 => ?_)
      · exact (hbd (by simp [bdR, c_1, c_2, c_3])).elim
      · refine lv_iload_n hx hb dX4_addRoom_18 rfl (lv_at hl 3 rfl) ?_
        refine lv_bipush (v := 20) hx hb dX4_addRoom_19 (by decide) ?_
        refine lv_icmp_le (tgt := 32) hx hb dX4_addRoom_21 (by decide) (fun c_4 => ?_) (fun c_4 => ?_)
        · refine lv_aload_n hx hb dX4_addRoom_32 rfl (lv_at hl 0 rfl) ?_
          refine gf_X4_19 C0 hP (k := 0) (show kd 0 = 4 by decide) dX4_addRoom_33 ?_
          refine gf_X4_70 C0 hP (k := 4) (show kd 4 = 2 by decide) dX4_addRoom_36 ?_
          refine lv_topE hnr ?_
          refine lv_bipush (v := 8) hx hb dX4_addRoom_39 (by decide) ?_
          refine lv_icmp_ge (tgt := 55) hx hb dX4_addRoom_41 (by decide) (fun c_5 => ?_) (fun c_5 => ?_)
          · exact th_ISE C0 hst hx0 hP hS hl.1 dX4_addRoom_55 dX4_addRoom_58 dX4_addRoom_59 dX4_addRoom_62 ⟨by decide, Nat.le_of_ble_eq_true rfl, by decide, by decide⟩ (by decide)
          · refine lv_aload_n hx hb dX4_addRoom_44 rfl (lv_at hl 0 rfl) ?_
            refine gf_X4_19 C0 hP (k := 0) (show kd 0 = 4 by decide) dX4_addRoom_45 ?_
            refine lv_iload_n hx hb dX4_addRoom_48 rfl (lv_at hl 1 rfl) ?_
            refine k_VNI C0 hP hS (rest := []) (c_X2_hasHoleAt l G M o 4 a1 nr (Or.inl rfl) hnr hrle) mf_X2_hasHoleAt ml_X4_73 (kd_lt (show kd 4 = 2 by decide) (by decide)) (ct_2 (show kd 4 = 2 by decide)) rfl hl.1 (by decide) (by decide) (Nat.le_of_ble_eq_true rfl) rfl rfl dX4_addRoom_49 (fun H locs hP hS => ?_)
            refine lv_if_eq (tgt := 63) hx hb dX4_addRoom_52 (by decide) (fun c_6 => ?_) (fun c_6 => ?_)
            · exact (hroom.elim (fun z => c_5 (nI_le (a := 8) (b := nr) (by omega) (by omega))) (fun z => z c_6)).elim
            · exact th_ISE C0 hst hx0 hP hS hl.1 dX4_addRoom_55 dX4_addRoom_58 dX4_addRoom_59 dX4_addRoom_62 ⟨by decide, Nat.le_of_ble_eq_true rfl, by decide, by decide⟩ (by decide)
        · exact (hbd (by simp [bdR, c_1, c_2, c_3, c_4])).elim

set_option maxHeartbeats 4000000 in
set_option maxRecDepth 100000 in
theorem c_X4_bore (l : Launch) (G : GG) (M : Mem) (o : Nat → Int64) (np nr k : Nat) (hO : OKM M np nr k) (r : Nat) (hr0 : r < nr) (a2 : Int32) (hbd : ¬ otn a2 = 0) : MI l yX4_bore cX4_bore 4 (some .int) 2 42 G [.ref (adr G 0), .int (nI r), .int a2] M (u2 M (4 + 13 + r) 2 a2) o o (M (4 + 13 + r) 2) 0 0 := by
  refine MI_of RX4 rfl (by decide +kernel) (Nat.le_of_ble_eq_true rfl) ?_
  intro p e s m below meth c sz C0 hr hP ls hl
  have hx := C0.1
  have hb := C0.2.1
  have hS : va_S (pA G sz) s.heap s.heap [] := va_S.rf
  have hl : lv_has ls 4 [(0, .ref (adr G 0)), (1, .int (nI r)), (2, .int a2)] := hl
  obtain ⟨hnp, hple, hnr, hrle, hk0, hkle⟩ := id hO
  refine lv_aload_n hx hb dX4_bore_0 rfl (lv_at hl 0 rfl) ?_
  refine lv_iload_n hx hb dX4_bore_1 rfl (lv_at hl 1 rfl) ?_
  refine k_VV C0 hP hS (rest := []) (c_X4_needRoom l G M o np nr k hO r (by omega)) mf_X4_needRoom ml_X4_86 (kd_lt (show kd 0 = 4 by decide) (by decide)) (ct_4 (show kd 0 = 4 by decide)) rfl hl.1 (by decide) (by decide) (Nat.le_of_ble_eq_true rfl) rfl rfl dX4_bore_2 (fun H locs hP hS => ?_)
  refine lv_iload_n hx hb dX4_bore_5 rfl (lv_at hl 2 rfl) ?_
  refine k_SI C0 hP hS (rest := []) (c_X4_isOneToNine l G M o a2) mf_X4_isOneToNine rfl ml_X4_30 hl.1 (by decide) (by decide) (Nat.le_of_ble_eq_true rfl) rfl rfl dX4_bore_6 (fun H locs hP hS => ?_)
  refine lv_if_ne (tgt := 20) hx hb dX4_bore_9 (by decide) (fun c_1 => ?_) (fun c_1 => ?_)
  · refine lv_aload_n hx hb dX4_bore_20 rfl (lv_at hl 0 rfl) ?_
    refine gf_X4_19 C0 hP (k := 0) (show kd 0 = 4 by decide) dX4_bore_21 ?_
    refine gf_X4_76 C0 hP (k := 4) (show kd 4 = 2 by decide) dX4_bore_24 ?_
    refine lv_iload_n hx hb dX4_bore_27 rfl (lv_at hl 1 rfl) ?_
    refine w_aldR C0 hP (k := 4 + 2) (i := r) (kdS2 (Or.inl rfl)) (by omega) dX4_bore_28 ?_
    refine gf_X4_90 C0 hP (k := 4 + 13 + r) (kdSr (Or.inl rfl) (by omega)) dX4_bore_29 ?_
    refine lv_istore_n (lv' := [(3, .int (M (4 + 13 + r) 2)), (0, .ref (adr G 0)), (1, .int (nI r)), (2, .int a2)]) hx hb dX4_bore_32 rfl hl (by decide) rfl (fun ls hl => ?_)
    refine lv_aload_n hx hb dX4_bore_33 rfl (lv_at hl 1 rfl) ?_
    refine gf_X4_19 C0 hP (k := 0) (show kd 0 = 4 by decide) dX4_bore_34 ?_
    refine gf_X4_76 C0 hP (k := 4) (show kd 4 = 2 by decide) dX4_bore_37 ?_
    refine lv_iload_n hx hb dX4_bore_40 rfl (lv_at hl 2 rfl) ?_
    refine w_aldR C0 hP (k := 4 + 2) (i := r) (kdS2 (Or.inl rfl)) (by omega) dX4_bore_41 ?_
    refine lv_iload_n hx hb dX4_bore_42 rfl (lv_at hl 3 rfl) ?_
    refine pf_X4_90 C0 hP hS (k := 4 + 13 + r) (kdSr (Or.inl rfl) (by omega)) dX4_bore_43 (fun H locs hP hS => ?_)
    refine lv_iload_n hx hb dX4_bore_46 rfl (lv_at hl 0 rfl) ?_
    exact e_Ii C0 hr hP hS rfl (by decide) dX4_bore_47
  · exact absurd c_1 hbd

set_option maxHeartbeats 4000000 in
set_option maxRecDepth 100000 in
theorem c_X4_bore_i (l : Launch) (G : GG) (M : Mem) (o : Nat → Int64) (hst : l.stackTraces = false) (np nr k : Nat) (hO : OKM M np nr k) (x1 a2 : Int32) (hbd : x1 < 0 ∨ ¬ x1 < nI nr) : MX l yX4_bore cX4_bore 4 (some .int) 8 131 G [.ref (adr G 0), .int x1, .int a2] M M o o "java/lang/IndexOutOfBoundsException" 1 6 := by
  refine MX_of RX4 rfl (by decide +kernel) (Nat.le_of_ble_eq_true rfl) ?_
  intro p e s m below meth c sz C0 hx0 hP ls hl
  have hx := C0.1
  have hb := C0.2.1
  have hS : va_S (pA G sz) s.heap s.heap [] := va_S.rf
  have hl : lv_has ls 4 [(0, .ref (adr G 0)), (1, .int x1), (2, .int a2)] := hl
  obtain ⟨hnp, hple, hnr, hrle, hk0, hkle⟩ := id hO
  refine lv_aload_n hx hb dX4_bore_0 rfl (lv_at hl 0 rfl) ?_
  refine lv_iload_n hx hb dX4_bore_1 rfl (lv_at hl 1 rfl) ?_
  refine k_VX C0 hP hS (rest := []) (c_X4_needRoom_x l G M o hst np nr k hO x1 hbd) mf_X4_needRoom ml_X4_86 (kd_lt (show kd 0 = 4 by decide) (by decide)) (ct_4 (show kd 0 = 4 by decide)) rfl hl.1 (by decide) (by decide) (Nat.le_of_ble_eq_true rfl) rfl rfl dX4_bore_2 (fun ce q9 H locs hP hS hce hcv hcl => ?_)
  exact e_X C0 hx0 hP hS hce hcv hcl (by decide)

set_option maxHeartbeats 4000000 in
set_option maxRecDepth 100000 in
theorem c_X4_bore_a (l : Launch) (G : GG) (M : Mem) (o : Nat → Int64) (hst : l.stackTraces = false) (np nr k : Nat) (hO : OKM M np nr k) (r : Nat) (hr0 : r < nr) (a2 : Int32) (hbd : otn a2 = 0) : MX l yX4_bore cX4_bore 4 (some .int) 6 89 G [.ref (adr G 0), .int (nI r), .int a2] M M o o "java/lang/IllegalArgumentException" 1 6 := by
  refine MX_of RX4 rfl (by decide +kernel) (Nat.le_of_ble_eq_true rfl) ?_
  intro p e s m below meth c sz C0 hx0 hP ls hl
  have hx := C0.1
  have hb := C0.2.1
  have hS : va_S (pA G sz) s.heap s.heap [] := va_S.rf
  have hl : lv_has ls 4 [(0, .ref (adr G 0)), (1, .int (nI r)), (2, .int a2)] := hl
  obtain ⟨hnp, hple, hnr, hrle, hk0, hkle⟩ := id hO
  refine lv_aload_n hx hb dX4_bore_0 rfl (lv_at hl 0 rfl) ?_
  refine lv_iload_n hx hb dX4_bore_1 rfl (lv_at hl 1 rfl) ?_
  refine k_VV C0 hP hS (rest := []) (c_X4_needRoom l G M o np nr k hO r (by omega)) mf_X4_needRoom ml_X4_86 (kd_lt (show kd 0 = 4 by decide) (by decide)) (ct_4 (show kd 0 = 4 by decide)) rfl hl.1 (by decide) (by decide) (Nat.le_of_ble_eq_true rfl) rfl rfl dX4_bore_2 (fun H locs hP hS => ?_)
  refine lv_iload_n hx hb dX4_bore_5 rfl (lv_at hl 2 rfl) ?_
  refine k_SI C0 hP hS (rest := []) (c_X4_isOneToNine l G M o a2) mf_X4_isOneToNine rfl ml_X4_30 hl.1 (by decide) (by decide) (Nat.le_of_ble_eq_true rfl) rfl rfl dX4_bore_6 (fun H locs hP hS => ?_)
  refine lv_if_ne (tgt := 20) hx hb dX4_bore_9 (by decide) (fun c_1 => ?_) (fun c_1 => ?_)
  · exact absurd hbd c_1
  · exact th_IAE C0 hst hx0 hP hS hl.1 dX4_bore_12 dX4_bore_15 dX4_bore_16 dX4_bore_19 ⟨by decide, Nat.le_of_ble_eq_true rfl, by decide, by decide⟩ (by decide)

set_option maxHeartbeats 4000000 in
set_option maxRecDepth 100000 in
theorem c_X4_paint (l : Launch) (G : GG) (M : Mem) (o : Nat → Int64) (np nr k : Nat) (hO : OKM M np nr k) (r : Nat) (hr0 : r < nr) (a2 : Int32) (hbd : ¬ ztn a2 = 0) : MI l yX4_paint cX4_paint 4 (some .int) 2 42 G [.ref (adr G 0), .int (nI r), .int a2] M (u2 M (4 + 13 + r) 3 a2) o o (M (4 + 13 + r) 3) 0 0 := by
  refine MI_of RX4 rfl (by decide +kernel) (Nat.le_of_ble_eq_true rfl) ?_
  intro p e s m below meth c sz C0 hr hP ls hl
  have hx := C0.1
  have hb := C0.2.1
  have hS : va_S (pA G sz) s.heap s.heap [] := va_S.rf
  have hl : lv_has ls 4 [(0, .ref (adr G 0)), (1, .int (nI r)), (2, .int a2)] := hl
  obtain ⟨hnp, hple, hnr, hrle, hk0, hkle⟩ := id hO
  refine lv_aload_n hx hb dX4_paint_0 rfl (lv_at hl 0 rfl) ?_
  refine lv_iload_n hx hb dX4_paint_1 rfl (lv_at hl 1 rfl) ?_
  refine k_VV C0 hP hS (rest := []) (c_X4_needRoom l G M o np nr k hO r (by omega)) mf_X4_needRoom ml_X4_86 (kd_lt (show kd 0 = 4 by decide) (by decide)) (ct_4 (show kd 0 = 4 by decide)) rfl hl.1 (by decide) (by decide) (Nat.le_of_ble_eq_true rfl) rfl rfl dX4_paint_2 (fun H locs hP hS => ?_)
  refine lv_iload_n hx hb dX4_paint_5 rfl (lv_at hl 2 rfl) ?_
  refine k_SI C0 hP hS (rest := []) (c_X4_isZeroToNine l G M o a2) mf_X4_isZeroToNine rfl ml_X4_56 hl.1 (by decide) (by decide) (Nat.le_of_ble_eq_true rfl) rfl rfl dX4_paint_6 (fun H locs hP hS => ?_)
  refine lv_if_ne (tgt := 20) hx hb dX4_paint_9 (by decide) (fun c_1 => ?_) (fun c_1 => ?_)
  · refine lv_aload_n hx hb dX4_paint_20 rfl (lv_at hl 0 rfl) ?_
    refine gf_X4_19 C0 hP (k := 0) (show kd 0 = 4 by decide) dX4_paint_21 ?_
    refine gf_X4_76 C0 hP (k := 4) (show kd 4 = 2 by decide) dX4_paint_24 ?_
    refine lv_iload_n hx hb dX4_paint_27 rfl (lv_at hl 1 rfl) ?_
    refine w_aldR C0 hP (k := 4 + 2) (i := r) (kdS2 (Or.inl rfl)) (by omega) dX4_paint_28 ?_
    refine gf_X4_93 C0 hP (k := 4 + 13 + r) (kdSr (Or.inl rfl) (by omega)) dX4_paint_29 ?_
    refine lv_istore_n (lv' := [(3, .int (M (4 + 13 + r) 3)), (0, .ref (adr G 0)), (1, .int (nI r)), (2, .int a2)]) hx hb dX4_paint_32 rfl hl (by decide) rfl (fun ls hl => ?_)
    refine lv_aload_n hx hb dX4_paint_33 rfl (lv_at hl 1 rfl) ?_
    refine gf_X4_19 C0 hP (k := 0) (show kd 0 = 4 by decide) dX4_paint_34 ?_
    refine gf_X4_76 C0 hP (k := 4) (show kd 4 = 2 by decide) dX4_paint_37 ?_
    refine lv_iload_n hx hb dX4_paint_40 rfl (lv_at hl 2 rfl) ?_
    refine w_aldR C0 hP (k := 4 + 2) (i := r) (kdS2 (Or.inl rfl)) (by omega) dX4_paint_41 ?_
    refine lv_iload_n hx hb dX4_paint_42 rfl (lv_at hl 3 rfl) ?_
    refine pf_X4_93 C0 hP hS (k := 4 + 13 + r) (kdSr (Or.inl rfl) (by omega)) dX4_paint_43 (fun H locs hP hS => ?_)
    refine lv_iload_n hx hb dX4_paint_46 rfl (lv_at hl 0 rfl) ?_
    exact e_Ii C0 hr hP hS rfl (by decide) dX4_paint_47
  · exact absurd c_1 hbd

set_option maxHeartbeats 4000000 in
set_option maxRecDepth 100000 in
theorem c_X4_paint_i (l : Launch) (G : GG) (M : Mem) (o : Nat → Int64) (hst : l.stackTraces = false) (np nr k : Nat) (hO : OKM M np nr k) (x1 a2 : Int32) (hbd : x1 < 0 ∨ ¬ x1 < nI nr) : MX l yX4_paint cX4_paint 4 (some .int) 8 131 G [.ref (adr G 0), .int x1, .int a2] M M o o "java/lang/IndexOutOfBoundsException" 1 6 := by
  refine MX_of RX4 rfl (by decide +kernel) (Nat.le_of_ble_eq_true rfl) ?_
  intro p e s m below meth c sz C0 hx0 hP ls hl
  have hx := C0.1
  have hb := C0.2.1
  have hS : va_S (pA G sz) s.heap s.heap [] := va_S.rf
  have hl : lv_has ls 4 [(0, .ref (adr G 0)), (1, .int x1), (2, .int a2)] := hl
  obtain ⟨hnp, hple, hnr, hrle, hk0, hkle⟩ := id hO
  refine lv_aload_n hx hb dX4_paint_0 rfl (lv_at hl 0 rfl) ?_
  refine lv_iload_n hx hb dX4_paint_1 rfl (lv_at hl 1 rfl) ?_
  refine k_VX C0 hP hS (rest := []) (c_X4_needRoom_x l G M o hst np nr k hO x1 hbd) mf_X4_needRoom ml_X4_86 (kd_lt (show kd 0 = 4 by decide) (by decide)) (ct_4 (show kd 0 = 4 by decide)) rfl hl.1 (by decide) (by decide) (Nat.le_of_ble_eq_true rfl) rfl rfl dX4_paint_2 (fun ce q9 H locs hP hS hce hcv hcl => ?_)
  exact e_X C0 hx0 hP hS hce hcv hcl (by decide)

set_option maxHeartbeats 4000000 in
set_option maxRecDepth 100000 in
theorem c_X4_paint_a (l : Launch) (G : GG) (M : Mem) (o : Nat → Int64) (hst : l.stackTraces = false) (np nr k : Nat) (hO : OKM M np nr k) (r : Nat) (hr0 : r < nr) (a2 : Int32) (hbd : ztn a2 = 0) : MX l yX4_paint cX4_paint 4 (some .int) 6 89 G [.ref (adr G 0), .int (nI r), .int a2] M M o o "java/lang/IllegalArgumentException" 1 6 := by
  refine MX_of RX4 rfl (by decide +kernel) (Nat.le_of_ble_eq_true rfl) ?_
  intro p e s m below meth c sz C0 hx0 hP ls hl
  have hx := C0.1
  have hb := C0.2.1
  have hS : va_S (pA G sz) s.heap s.heap [] := va_S.rf
  have hl : lv_has ls 4 [(0, .ref (adr G 0)), (1, .int (nI r)), (2, .int a2)] := hl
  obtain ⟨hnp, hple, hnr, hrle, hk0, hkle⟩ := id hO
  refine lv_aload_n hx hb dX4_paint_0 rfl (lv_at hl 0 rfl) ?_
  refine lv_iload_n hx hb dX4_paint_1 rfl (lv_at hl 1 rfl) ?_
  refine k_VV C0 hP hS (rest := []) (c_X4_needRoom l G M o np nr k hO r (by omega)) mf_X4_needRoom ml_X4_86 (kd_lt (show kd 0 = 4 by decide) (by decide)) (ct_4 (show kd 0 = 4 by decide)) rfl hl.1 (by decide) (by decide) (Nat.le_of_ble_eq_true rfl) rfl rfl dX4_paint_2 (fun H locs hP hS => ?_)
  refine lv_iload_n hx hb dX4_paint_5 rfl (lv_at hl 2 rfl) ?_
  refine k_SI C0 hP hS (rest := []) (c_X4_isZeroToNine l G M o a2) mf_X4_isZeroToNine rfl ml_X4_56 hl.1 (by decide) (by decide) (Nat.le_of_ble_eq_true rfl) rfl rfl dX4_paint_6 (fun H locs hP hS => ?_)
  refine lv_if_ne (tgt := 20) hx hb dX4_paint_9 (by decide) (fun c_1 => ?_) (fun c_1 => ?_)
  · exact absurd hbd c_1
  · exact th_IAE C0 hst hx0 hP hS hl.1 dX4_paint_12 dX4_paint_15 dX4_paint_16 dX4_paint_19 ⟨by decide, Nat.le_of_ble_eq_true rfl, by decide, by decide⟩ (by decide)

set_option maxHeartbeats 4000000 in
set_option maxRecDepth 100000 in
theorem c_X4_seat (l : Launch) (G : GG) (M : Mem) (o : Nat → Int64) (np nr k : Nat) (hO : OKM M np nr k) (r : Nat) (hr0 : r < nr) (a2 : Int32) (hbd : ¬ bdS a2) (hfree : a2 ≤ M (4 + 13 + r) 4 - M (4 + 13 + r) 5) : MI l yX4_seat cX4_seat 4 (some .int) 2 42 G [.ref (adr G 0), .int (nI r), .int a2] M (u2 M (4 + 13 + r) 5 (M (4 + 13 + r) 5 + a2)) o o (M (4 + 13 + r) 5 + a2) 0 0 := by
  refine MI_of RX4 rfl (by decide +kernel) (Nat.le_of_ble_eq_true rfl) ?_
  intro p e s m below meth c sz C0 hr hP ls hl
  have hx := C0.1
  have hb := C0.2.1
  have hS : va_S (pA G sz) s.heap s.heap [] := va_S.rf
  have hl : lv_has ls 4 [(0, .ref (adr G 0)), (1, .int (nI r)), (2, .int a2)] := hl
  obtain ⟨hnp, hple, hnr, hrle, hk0, hkle⟩ := id hO
  refine lv_aload_n hx hb dX4_seat_0 rfl (lv_at hl 0 rfl) ?_
  refine lv_iload_n hx hb dX4_seat_1 rfl (lv_at hl 1 rfl) ?_
  refine k_VV C0 hP hS (rest := []) (c_X4_needRoom l G M o np nr k hO r (by omega)) mf_X4_needRoom ml_X4_86 (kd_lt (show kd 0 = 4 by decide) (by decide)) (ct_4 (show kd 0 = 4 by decide)) rfl hl.1 (by decide) (by decide) (Nat.le_of_ble_eq_true rfl) rfl rfl dX4_seat_2 (fun H locs hP hS => ?_)
  refine lv_iload_n hx hb dX4_seat_5 rfl (lv_at hl 2 rfl) ?_
  refine lv_iconst (v := 1) hx hb dX4_seat_6 (by decide) ?_
  refine lv_icmp_lt (tgt := 16) hx hb dX4_seat_7 (by decide) (fun c_1 => ?_) (fun c_1 => ?_)
  · exact (hbd (by simp [bdS, c_1])).elim
  · refine lv_iload_n hx hb dX4_seat_10 rfl (lv_at hl 2 rfl) ?_
    refine lv_bipush (v := 20) hx hb dX4_seat_11 (by decide) ?_
    refine lv_icmp_le (tgt := 24) hx hb dX4_seat_13 (by decide) (fun c_2 => ?_) (fun c_2 => ?_)
    · refine lv_aload_n hx hb dX4_seat_24 rfl (lv_at hl 0 rfl) ?_
      refine gf_X4_19 C0 hP (k := 0) (show kd 0 = 4 by decide) dX4_seat_25 ?_
      refine gf_X4_76 C0 hP (k := 4) (show kd 4 = 2 by decide) dX4_seat_28 ?_
      refine lv_iload_n hx hb dX4_seat_31 rfl (lv_at hl 1 rfl) ?_
      refine w_aldR C0 hP (k := 4 + 2) (i := r) (kdS2 (Or.inl rfl)) (by omega) dX4_seat_32 ?_
      refine lv_astore_n (lv' := [(3, .ref (adr G (4 + 13 + r))), (0, .ref (adr G 0)), (1, .int (nI r)), (2, .int a2)]) hx hb dX4_seat_33 rfl hl (by decide) rfl (fun ls hl => ?_)
      refine lv_iload_n hx hb dX4_seat_34 rfl (lv_at hl 3 rfl) ?_
      refine lv_aload_n hx hb dX4_seat_35 rfl (lv_at hl 0 rfl) ?_
      refine gf_X4_96 C0 hP (k := 4 + 13 + r) (kdSr (Or.inl rfl) (by omega)) dX4_seat_36 ?_
      refine lv_aload_n hx hb dX4_seat_39 rfl (lv_at hl 0 rfl) ?_
      refine gf_X4_99 C0 hP (k := 4 + 13 + r) (kdSr (Or.inl rfl) (by omega)) dX4_seat_40 ?_
      refine lv_isub hx hb dX4_seat_43 ?_
      refine lv_icmp_le (tgt := 55) hx hb dX4_seat_44 (by decide) (fun c_3 => ?_) (fun c_3 => ?_)
      · refine lv_aload_n hx hb dX4_seat_55 rfl (lv_at hl 0 rfl) ?_
        refine lv_dup hx hb dX4_seat_56 rfl ?_
        refine gf_X4_99 C0 hP (k := 4 + 13 + r) (kdSr (Or.inl rfl) (by omega)) dX4_seat_57 ?_
        refine lv_iload_n hx hb dX4_seat_60 rfl (lv_at hl 3 rfl) ?_
        refine lv_iadd hx hb dX4_seat_61 ?_
        refine pf_X4_99 C0 hP hS (k := 4 + 13 + r) (kdSr (Or.inl rfl) (by omega)) dX4_seat_62 (fun H locs hP hS => ?_)
        refine lv_aload_n hx hb dX4_seat_65 rfl (lv_at hl 0 rfl) ?_
        refine gf_X4_99 C0 hP (k := 4 + 13 + r) (kdSr (Or.inl rfl) (by omega)) dX4_seat_66 ?_
        exact e_Ii C0 hr hP hS u2_at (by decide) dX4_seat_69
      · exact absurd hfree c_3
    · exact (hbd (by simp [bdS, c_1, c_2])).elim

set_option maxHeartbeats 4000000 in
set_option maxRecDepth 100000 in
theorem c_X4_seat_i (l : Launch) (G : GG) (M : Mem) (o : Nat → Int64) (hst : l.stackTraces = false) (np nr k : Nat) (hO : OKM M np nr k) (x1 a2 : Int32) (hbd : x1 < 0 ∨ ¬ x1 < nI nr) : MX l yX4_seat cX4_seat 4 (some .int) 8 131 G [.ref (adr G 0), .int x1, .int a2] M M o o "java/lang/IndexOutOfBoundsException" 1 6 := by
  refine MX_of RX4 rfl (by decide +kernel) (Nat.le_of_ble_eq_true rfl) ?_
  intro p e s m below meth c sz C0 hx0 hP ls hl
  have hx := C0.1
  have hb := C0.2.1
  have hS : va_S (pA G sz) s.heap s.heap [] := va_S.rf
  have hl : lv_has ls 4 [(0, .ref (adr G 0)), (1, .int x1), (2, .int a2)] := hl
  obtain ⟨hnp, hple, hnr, hrle, hk0, hkle⟩ := id hO
  refine lv_aload_n hx hb dX4_seat_0 rfl (lv_at hl 0 rfl) ?_
  refine lv_iload_n hx hb dX4_seat_1 rfl (lv_at hl 1 rfl) ?_
  refine k_VX C0 hP hS (rest := []) (c_X4_needRoom_x l G M o hst np nr k hO x1 hbd) mf_X4_needRoom ml_X4_86 (kd_lt (show kd 0 = 4 by decide) (by decide)) (ct_4 (show kd 0 = 4 by decide)) rfl hl.1 (by decide) (by decide) (Nat.le_of_ble_eq_true rfl) rfl rfl dX4_seat_2 (fun ce q9 H locs hP hS hce hcv hcl => ?_)
  exact e_X C0 hx0 hP hS hce hcv hcl (by decide)

set_option maxHeartbeats 4000000 in
set_option maxRecDepth 100000 in
theorem c_X4_seat_a (l : Launch) (G : GG) (M : Mem) (o : Nat → Int64) (hst : l.stackTraces = false) (np nr k : Nat) (hO : OKM M np nr k) (r : Nat) (hr0 : r < nr) (a2 : Int32) (hbd : bdS a2) : MX l yX4_seat cX4_seat 4 (some .int) 6 89 G [.ref (adr G 0), .int (nI r), .int a2] M M o o "java/lang/IllegalArgumentException" 1 6 := by
  refine MX_of RX4 rfl (by decide +kernel) (Nat.le_of_ble_eq_true rfl) ?_
  intro p e s m below meth c sz C0 hx0 hP ls hl
  have hx := C0.1
  have hb := C0.2.1
  have hS : va_S (pA G sz) s.heap s.heap [] := va_S.rf
  have hl : lv_has ls 4 [(0, .ref (adr G 0)), (1, .int (nI r)), (2, .int a2)] := hl
  obtain ⟨hnp, hple, hnr, hrle, hk0, hkle⟩ := id hO
  refine lv_aload_n hx hb dX4_seat_0 rfl (lv_at hl 0 rfl) ?_
  refine lv_iload_n hx hb dX4_seat_1 rfl (lv_at hl 1 rfl) ?_
  refine k_VV C0 hP hS (rest := []) (c_X4_needRoom l G M o np nr k hO r (by omega)) mf_X4_needRoom ml_X4_86 (kd_lt (show kd 0 = 4 by decide) (by decide)) (ct_4 (show kd 0 = 4 by decide)) rfl hl.1 (by decide) (by decide) (Nat.le_of_ble_eq_true rfl) rfl rfl dX4_seat_2 (fun H locs hP hS => ?_)
  refine lv_iload_n hx hb dX4_seat_5 rfl (lv_at hl 2 rfl) ?_
  refine lv_iconst (v := 1) hx hb dX4_seat_6 (by decide) ?_
  refine lv_icmp_lt (tgt := 16) hx hb dX4_seat_7 (by decide) (fun c_1 => ?_) (fun c_1 => ?_)
  · exact th_IAE C0 hst hx0 hP hS hl.1 dX4_seat_16 dX4_seat_19 dX4_seat_20 dX4_seat_23 ⟨by decide, Nat.le_of_ble_eq_true rfl, by decide, by decide⟩ (by decide)
  · refine lv_iload_n hx hb dX4_seat_10 rfl (lv_at hl 2 rfl) ?_
    refine lv_bipush (v := 20) hx hb dX4_seat_11 (by decide) ?_
    refine lv_icmp_le (tgt := 24) hx hb dX4_seat_13 (by decide) (fun c_2 => ?_) (fun c_2 => ?_)
    · exact absurd hbd (by simp [bdS, c_1, c_2])
    · exact th_IAE C0 hst hx0 hP hS hl.1 dX4_seat_16 dX4_seat_19 dX4_seat_20 dX4_seat_23 ⟨by decide, Nat.le_of_ble_eq_true rfl, by decide, by decide⟩ (by decide)

set_option maxHeartbeats 4000000 in
set_option maxRecDepth 100000 in
theorem c_X4_seat_s (l : Launch) (G : GG) (M : Mem) (o : Nat → Int64) (hst : l.stackTraces = false) (np nr k : Nat) (hO : OKM M np nr k) (r : Nat) (hr0 : r < nr) (a2 : Int32) (hbd : ¬ bdS a2) (hfree : ¬ a2 ≤ M (4 + 13 + r) 4 - M (4 + 13 + r) 5) : MX l yX4_seat cX4_seat 4 (some .int) 6 89 G [.ref (adr G 0), .int (nI r), .int a2] M M o o "java/lang/IllegalStateException" 1 6 := by
  refine MX_of RX4 rfl (by decide +kernel) (Nat.le_of_ble_eq_true rfl) ?_
  intro p e s m below meth c sz C0 hx0 hP ls hl
  have hx := C0.1
  have hb := C0.2.1
  have hS : va_S (pA G sz) s.heap s.heap [] := va_S.rf
  have hl : lv_has ls 4 [(0, .ref (adr G 0)), (1, .int (nI r)), (2, .int a2)] := hl
  obtain ⟨hnp, hple, hnr, hrle, hk0, hkle⟩ := id hO
  refine lv_aload_n hx hb dX4_seat_0 rfl (lv_at hl 0 rfl) ?_
  refine lv_iload_n hx hb dX4_seat_1 rfl (lv_at hl 1 rfl) ?_
  refine k_VV C0 hP hS (rest := []) (c_X4_needRoom l G M o np nr k hO r (by omega)) mf_X4_needRoom ml_X4_86 (kd_lt (show kd 0 = 4 by decide) (by decide)) (ct_4 (show kd 0 = 4 by decide)) rfl hl.1 (by decide) (by decide) (Nat.le_of_ble_eq_true rfl) rfl rfl dX4_seat_2 (fun H locs hP hS => ?_)
  refine lv_iload_n hx hb dX4_seat_5 rfl (lv_at hl 2 rfl) ?_
  refine lv_iconst (v := 1) hx hb dX4_seat_6 (by decide) ?_
  refine lv_icmp_lt (tgt := 16) hx hb dX4_seat_7 (by decide) (fun c_1 => ?_) (fun c_1 => ?_)
  · exact (hbd (by simp [bdS, c_1])).elim
  · refine lv_iload_n hx hb dX4_seat_10 rfl (lv_at hl 2 rfl) ?_
    refine lv_bipush (v := 20) hx hb dX4_seat_11 (by decide) ?_
    refine lv_icmp_le (tgt := 24) hx hb dX4_seat_13 (by decide) (fun c_2 => ?_) (fun c_2 => ?_)
    · refine lv_aload_n hx hb dX4_seat_24 rfl (lv_at hl 0 rfl) ?_
      refine gf_X4_19 C0 hP (k := 0) (show kd 0 = 4 by decide) dX4_seat_25 ?_
      refine gf_X4_76 C0 hP (k := 4) (show kd 4 = 2 by decide) dX4_seat_28 ?_
      refine lv_iload_n hx hb dX4_seat_31 rfl (lv_at hl 1 rfl) ?_
      refine w_aldR C0 hP (k := 4 + 2) (i := r) (kdS2 (Or.inl rfl)) (by omega) dX4_seat_32 ?_
      refine lv_astore_n (lv' := [(3, .ref (adr G (4 + 13 + r))), (0, .ref (adr G 0)), (1, .int (nI r)), (2, .int a2)]) hx hb dX4_seat_33 rfl hl (by decide) rfl (fun ls hl => ?_)
      refine lv_iload_n hx hb dX4_seat_34 rfl (lv_at hl 3 rfl) ?_
      refine lv_aload_n hx hb dX4_seat_35 rfl (lv_at hl 0 rfl) ?_
      refine gf_X4_96 C0 hP (k := 4 + 13 + r) (kdSr (Or.inl rfl) (by omega)) dX4_seat_36 ?_
      refine lv_aload_n hx hb dX4_seat_39 rfl (lv_at hl 0 rfl) ?_
      refine gf_X4_99 C0 hP (k := 4 + 13 + r) (kdSr (Or.inl rfl) (by omega)) dX4_seat_40 ?_
      refine lv_isub hx hb dX4_seat_43 ?_
      refine lv_icmp_le (tgt := 55) hx hb dX4_seat_44 (by decide) (fun c_3 => ?_) (fun c_3 => ?_)
      · exact absurd c_3 hfree
      · exact th_ISE C0 hst hx0 hP hS hl.1 dX4_seat_47 dX4_seat_50 dX4_seat_51 dX4_seat_54 ⟨by decide, Nat.le_of_ble_eq_true rfl, by decide, by decide⟩ (by decide)
    · exact (hbd (by simp [bdS, c_1, c_2])).elim

set_option maxHeartbeats 4000000 in
set_option maxRecDepth 100000 in
theorem c_X4_passer (l : Launch) (G : GG) (M : Mem) (o : Nat → Int64) (np nr k : Nat) (hO : OKM M np nr k) (i w : Nat) (hi : i < np) (hw : w < 5) : MI l yX4_passer cX4_passer 3 (some .int) 5 111 G [.ref (adr G 0), .int (nI i), .int (nI w)] M M o o (pfF M nr k i w) 0 0 := by
  refine MI_of RX4 rfl (by decide +kernel) (Nat.le_of_ble_eq_true rfl) ?_
  intro p e s m below meth c sz C0 hr hP ls hl
  have hx := C0.1
  have hb := C0.2.1
  have hS : va_S (pA G sz) s.heap s.heap [] := va_S.rf
  have hl : lv_has ls 3 [(0, .ref (adr G 0)), (1, .int (nI i)), (2, .int (nI w))] := hl
  obtain ⟨hnp, hple, hnr, hrle, hk0, hkle⟩ := id hO
  refine lv_aload_n hx hb dX4_passer_0 rfl (lv_at hl 0 rfl) ?_
  refine lv_iload_n hx hb dX4_passer_1 rfl (lv_at hl 1 rfl) ?_
  refine k_VV C0 hP hS (rest := []) (c_X4_needPasser l G M o np nr k hO i (by omega)) mf_X4_needPasser ml_X4_102 (kd_lt (show kd 0 = 4 by decide) (by decide)) (ct_4 (show kd 0 = 4 by decide)) rfl hl.1 (by decide) (by decide) (Nat.le_of_ble_eq_true rfl) rfl rfl dX4_passer_2 (fun H locs hP hS => ?_)
  refine lv_iload_n hx hb dX4_passer_5 rfl (lv_at hl 2 rfl) ?_
  refine lv_iconst (v := 5) hx hb dX4_passer_6 (by decide) ?_
  refine k_SV C0 hP hS (rest := []) (c_X4_needBelow l G M o w 5 (by omega) (by omega)) mf_X4_needBelow rfl ml_X4_105 hl.1 (by decide) (by decide) (Nat.le_of_ble_eq_true rfl) rfl rfl dX4_passer_7 (fun H locs hP hS => ?_)
  refine lv_aload_n hx hb dX4_passer_10 rfl (lv_at hl 0 rfl) ?_
  refine lv_iload_n hx hb dX4_passer_11 rfl (lv_at hl 1 rfl) ?_
  refine lv_iload_n hx hb dX4_passer_12 rfl (lv_at hl 2 rfl) ?_
  refine k_VI C0 hP hS (rest := []) (c_X4_passerFact l G M o np nr k hO i w (by omega) (by omega)) mf_X4_passerFact ml_X4_109 (kd_lt (show kd 0 = 4 by decide) (by decide)) (ct_4 (show kd 0 = 4 by decide)) rfl hl.1 (by decide) (by decide) (Nat.le_of_ble_eq_true rfl) rfl rfl dX4_passer_13 (fun H locs hP hS => ?_)
  exact e_Ii C0 hr hP hS rfl (by decide) dX4_passer_16

set_option maxHeartbeats 4000000 in
set_option maxRecDepth 100000 in
theorem c_X4_passer_i (l : Launch) (G : GG) (M : Mem) (o : Nat → Int64) (hst : l.stackTraces = false) (np nr k : Nat) (hO : OKM M np nr k) (x1 a2 : Int32) (hbd : x1 < 0 ∨ ¬ x1 < nI np) : MX l yX4_passer cX4_passer 3 (some .int) 8 131 G [.ref (adr G 0), .int x1, .int a2] M M o o "java/lang/IndexOutOfBoundsException" 1 6 := by
  refine MX_of RX4 rfl (by decide +kernel) (Nat.le_of_ble_eq_true rfl) ?_
  intro p e s m below meth c sz C0 hx0 hP ls hl
  have hx := C0.1
  have hb := C0.2.1
  have hS : va_S (pA G sz) s.heap s.heap [] := va_S.rf
  have hl : lv_has ls 3 [(0, .ref (adr G 0)), (1, .int x1), (2, .int a2)] := hl
  obtain ⟨hnp, hple, hnr, hrle, hk0, hkle⟩ := id hO
  refine lv_aload_n hx hb dX4_passer_0 rfl (lv_at hl 0 rfl) ?_
  refine lv_iload_n hx hb dX4_passer_1 rfl (lv_at hl 1 rfl) ?_
  refine k_VX C0 hP hS (rest := []) (c_X4_needPasser_x l G M o hst np nr k hO x1 hbd) mf_X4_needPasser ml_X4_102 (kd_lt (show kd 0 = 4 by decide) (by decide)) (ct_4 (show kd 0 = 4 by decide)) rfl hl.1 (by decide) (by decide) (Nat.le_of_ble_eq_true rfl) rfl rfl dX4_passer_2 (fun ce q9 H locs hP hS hce hcv hcl => ?_)
  exact e_X C0 hx0 hP hS hce hcv hcl (by decide)

set_option maxHeartbeats 4000000 in
set_option maxRecDepth 100000 in
theorem c_X4_passer_j (l : Launch) (G : GG) (M : Mem) (o : Nat → Int64) (hst : l.stackTraces = false) (np nr k : Nat) (hO : OKM M np nr k) (i : Nat) (hi : i < np) (a2 : Int32) (hbd : a2 < 0 ∨ ¬ a2 < 5) : MX l yX4_passer cX4_passer 3 (some .int) 7 110 G [.ref (adr G 0), .int (nI i), .int a2] M M o o "java/lang/IndexOutOfBoundsException" 1 6 := by
  refine MX_of RX4 rfl (by decide +kernel) (Nat.le_of_ble_eq_true rfl) ?_
  intro p e s m below meth c sz C0 hx0 hP ls hl
  have hx := C0.1
  have hb := C0.2.1
  have hS : va_S (pA G sz) s.heap s.heap [] := va_S.rf
  have hl : lv_has ls 3 [(0, .ref (adr G 0)), (1, .int (nI i)), (2, .int a2)] := hl
  obtain ⟨hnp, hple, hnr, hrle, hk0, hkle⟩ := id hO
  refine lv_aload_n hx hb dX4_passer_0 rfl (lv_at hl 0 rfl) ?_
  refine lv_iload_n hx hb dX4_passer_1 rfl (lv_at hl 1 rfl) ?_
  refine k_VV C0 hP hS (rest := []) (c_X4_needPasser l G M o np nr k hO i (by omega)) mf_X4_needPasser ml_X4_102 (kd_lt (show kd 0 = 4 by decide) (by decide)) (ct_4 (show kd 0 = 4 by decide)) rfl hl.1 (by decide) (by decide) (Nat.le_of_ble_eq_true rfl) rfl rfl dX4_passer_2 (fun H locs hP hS => ?_)
  refine lv_iload_n hx hb dX4_passer_5 rfl (lv_at hl 2 rfl) ?_
  refine lv_iconst (v := 5) hx hb dX4_passer_6 (by decide) ?_
  refine k_SX C0 hP hS (rest := []) (c_X4_needBelow_x l G M o hst a2 5 hbd) mf_X4_needBelow rfl ml_X4_105 hl.1 (by decide) (by decide) (Nat.le_of_ble_eq_true rfl) rfl rfl dX4_passer_7 (fun ce q9 H locs hP hS hce hcv hcl => ?_)
  exact e_X C0 hx0 hP hS hce hcv hcl (by decide)

set_option maxHeartbeats 4000000 in
set_option maxRecDepth 100000 in
theorem c_X4_room (l : Launch) (G : GG) (M : Mem) (o : Nat → Int64) (np nr k : Nat) (hO : OKM M np nr k) (i w : Nat) (hi : i < nr) (hw : w < 8) : MI l yX4_room cX4_room 3 (some .int) 5 111 G [.ref (adr G 0), .int (nI i), .int (nI w)] M M o o (rfF M np k i w) 0 0 := by
  refine MI_of RX4 rfl (by decide +kernel) (Nat.le_of_ble_eq_true rfl) ?_
  intro p e s m below meth c sz C0 hr hP ls hl
  have hx := C0.1
  have hb := C0.2.1
  have hS : va_S (pA G sz) s.heap s.heap [] := va_S.rf
  have hl : lv_has ls 3 [(0, .ref (adr G 0)), (1, .int (nI i)), (2, .int (nI w))] := hl
  obtain ⟨hnp, hple, hnr, hrle, hk0, hkle⟩ := id hO
  refine lv_aload_n hx hb dX4_room_0 rfl (lv_at hl 0 rfl) ?_
  refine lv_iload_n hx hb dX4_room_1 rfl (lv_at hl 1 rfl) ?_
  refine k_VV C0 hP hS (rest := []) (c_X4_needRoom l G M o np nr k hO i (by omega)) mf_X4_needRoom ml_X4_86 (kd_lt (show kd 0 = 4 by decide) (by decide)) (ct_4 (show kd 0 = 4 by decide)) rfl hl.1 (by decide) (by decide) (Nat.le_of_ble_eq_true rfl) rfl rfl dX4_room_2 (fun H locs hP hS => ?_)
  refine lv_iload_n hx hb dX4_room_5 rfl (lv_at hl 2 rfl) ?_
  refine lv_bipush (v := 8) hx hb dX4_room_6 (by decide) ?_
  refine k_SV C0 hP hS (rest := []) (c_X4_needBelow l G M o w 8 (by omega) (by omega)) mf_X4_needBelow rfl ml_X4_105 hl.1 (by decide) (by decide) (Nat.le_of_ble_eq_true rfl) rfl rfl dX4_room_8 (fun H locs hP hS => ?_)
  refine lv_aload_n hx hb dX4_room_11 rfl (lv_at hl 0 rfl) ?_
  refine lv_iload_n hx hb dX4_room_12 rfl (lv_at hl 1 rfl) ?_
  refine lv_iload_n hx hb dX4_room_13 rfl (lv_at hl 2 rfl) ?_
  refine k_VI C0 hP hS (rest := []) (c_X4_roomFact l G M o np nr k hO i w (by omega) (by omega)) mf_X4_roomFact ml_X4_113 (kd_lt (show kd 0 = 4 by decide) (by decide)) (ct_4 (show kd 0 = 4 by decide)) rfl hl.1 (by decide) (by decide) (Nat.le_of_ble_eq_true rfl) rfl rfl dX4_room_14 (fun H locs hP hS => ?_)
  exact e_Ii C0 hr hP hS rfl (by decide) dX4_room_17

set_option maxHeartbeats 4000000 in
set_option maxRecDepth 100000 in
theorem c_X4_room_i (l : Launch) (G : GG) (M : Mem) (o : Nat → Int64) (hst : l.stackTraces = false) (np nr k : Nat) (hO : OKM M np nr k) (x1 a2 : Int32) (hbd : x1 < 0 ∨ ¬ x1 < nI nr) : MX l yX4_room cX4_room 3 (some .int) 8 131 G [.ref (adr G 0), .int x1, .int a2] M M o o "java/lang/IndexOutOfBoundsException" 1 6 := by
  refine MX_of RX4 rfl (by decide +kernel) (Nat.le_of_ble_eq_true rfl) ?_
  intro p e s m below meth c sz C0 hx0 hP ls hl
  have hx := C0.1
  have hb := C0.2.1
  have hS : va_S (pA G sz) s.heap s.heap [] := va_S.rf
  have hl : lv_has ls 3 [(0, .ref (adr G 0)), (1, .int x1), (2, .int a2)] := hl
  obtain ⟨hnp, hple, hnr, hrle, hk0, hkle⟩ := id hO
  refine lv_aload_n hx hb dX4_room_0 rfl (lv_at hl 0 rfl) ?_
  refine lv_iload_n hx hb dX4_room_1 rfl (lv_at hl 1 rfl) ?_
  refine k_VX C0 hP hS (rest := []) (c_X4_needRoom_x l G M o hst np nr k hO x1 hbd) mf_X4_needRoom ml_X4_86 (kd_lt (show kd 0 = 4 by decide) (by decide)) (ct_4 (show kd 0 = 4 by decide)) rfl hl.1 (by decide) (by decide) (Nat.le_of_ble_eq_true rfl) rfl rfl dX4_room_2 (fun ce q9 H locs hP hS hce hcv hcl => ?_)
  exact e_X C0 hx0 hP hS hce hcv hcl (by decide)

set_option maxHeartbeats 4000000 in
set_option maxRecDepth 100000 in
theorem c_X4_room_j (l : Launch) (G : GG) (M : Mem) (o : Nat → Int64) (hst : l.stackTraces = false) (np nr k : Nat) (hO : OKM M np nr k) (i : Nat) (hi : i < nr) (a2 : Int32) (hbd : a2 < 0 ∨ ¬ a2 < 8) : MX l yX4_room cX4_room 3 (some .int) 7 110 G [.ref (adr G 0), .int (nI i), .int a2] M M o o "java/lang/IndexOutOfBoundsException" 1 6 := by
  refine MX_of RX4 rfl (by decide +kernel) (Nat.le_of_ble_eq_true rfl) ?_
  intro p e s m below meth c sz C0 hx0 hP ls hl
  have hx := C0.1
  have hb := C0.2.1
  have hS : va_S (pA G sz) s.heap s.heap [] := va_S.rf
  have hl : lv_has ls 3 [(0, .ref (adr G 0)), (1, .int (nI i)), (2, .int a2)] := hl
  obtain ⟨hnp, hple, hnr, hrle, hk0, hkle⟩ := id hO
  refine lv_aload_n hx hb dX4_room_0 rfl (lv_at hl 0 rfl) ?_
  refine lv_iload_n hx hb dX4_room_1 rfl (lv_at hl 1 rfl) ?_
  refine k_VV C0 hP hS (rest := []) (c_X4_needRoom l G M o np nr k hO i (by omega)) mf_X4_needRoom ml_X4_86 (kd_lt (show kd 0 = 4 by decide) (by decide)) (ct_4 (show kd 0 = 4 by decide)) rfl hl.1 (by decide) (by decide) (Nat.le_of_ble_eq_true rfl) rfl rfl dX4_room_2 (fun H locs hP hS => ?_)
  refine lv_iload_n hx hb dX4_room_5 rfl (lv_at hl 2 rfl) ?_
  refine lv_bipush (v := 8) hx hb dX4_room_6 (by decide) ?_
  refine k_SX C0 hP hS (rest := []) (c_X4_needBelow_x l G M o hst a2 8 hbd) mf_X4_needBelow rfl ml_X4_105 hl.1 (by decide) (by decide) (Nat.le_of_ble_eq_true rfl) rfl rfl dX4_room_8 (fun ce q9 H locs hP hS hce hcv hcl => ?_)
  exact e_X C0 hx0 hP hS hce hcv hcl (by decide)

set_option maxHeartbeats 4000000 in
set_option maxRecDepth 100000 in
theorem c_X4_wall (l : Launch) (G : GG) (M : Mem) (o : Nat → Int64) (np nr k : Nat) (hO : OKM M np nr k) (r : Nat) (hr0 : r < nr) (a2 : Int32) (hbd : ¬ bdW a2 (M (4 + 13 + r) 1)) : MI l yX4_wall cX4_wall 4 (some .int) 2 43 G [.ref (adr G 0), .int (nI r), .int a2] M M o o (paM M 4 (M (4 + 13 + r) 0 - a2) np) 0 0 := by
  refine MI_of RX4 rfl (by decide +kernel) (Nat.le_of_ble_eq_true rfl) ?_
  intro p e s m below meth c sz C0 hr hP ls hl
  have hx := C0.1
  have hb := C0.2.1
  have hS : va_S (pA G sz) s.heap s.heap [] := va_S.rf
  have hl : lv_has ls 4 [(0, .ref (adr G 0)), (1, .int (nI r)), (2, .int a2)] := hl
  obtain ⟨hnp, hple, hnr, hrle, hk0, hkle⟩ := id hO
  refine lv_aload_n hx hb dX4_wall_0 rfl (lv_at hl 0 rfl) ?_
  refine lv_iload_n hx hb dX4_wall_1 rfl (lv_at hl 1 rfl) ?_
  refine k_VV C0 hP hS (rest := []) (c_X4_needRoom l G M o np nr k hO r (by omega)) mf_X4_needRoom ml_X4_86 (kd_lt (show kd 0 = 4 by decide) (by decide)) (ct_4 (show kd 0 = 4 by decide)) rfl hl.1 (by decide) (by decide) (Nat.le_of_ble_eq_true rfl) rfl rfl dX4_wall_2 (fun H locs hP hS => ?_)
  refine lv_aload_n hx hb dX4_wall_5 rfl (lv_at hl 0 rfl) ?_
  refine gf_X4_19 C0 hP (k := 0) (show kd 0 = 4 by decide) dX4_wall_6 ?_
  refine gf_X4_76 C0 hP (k := 4) (show kd 4 = 2 by decide) dX4_wall_9 ?_
  refine lv_iload_n hx hb dX4_wall_12 rfl (lv_at hl 1 rfl) ?_
  refine w_aldR C0 hP (k := 4 + 2) (i := r) (kdS2 (Or.inl rfl)) (by omega) dX4_wall_13 ?_
  refine lv_astore_n (lv' := [(3, .ref (adr G (4 + 13 + r))), (0, .ref (adr G 0)), (1, .int (nI r)), (2, .int a2)]) hx hb dX4_wall_14 rfl hl (by decide) rfl (fun ls hl => ?_)
  refine lv_iload_n hx hb dX4_wall_15 rfl (lv_at hl 3 rfl) ?_
  refine lv_aload_n hx hb dX4_wall_16 rfl (lv_at hl 0 rfl) ?_
  refine k_VNI C0 hP hS (rest := [.int a2]) (c_X1_reach l G M o (4 + 13 + r) (kdSr (Or.inl rfl) (by omega))) mf_X1_reach ml_X4_116 (kd_lt (kdSr (Or.inl rfl) (by omega)) (by decide)) (ct_1 (kdSr (Or.inl rfl) (by omega))) rfl hl.1 (by decide) (by decide) (Nat.le_of_ble_eq_true rfl) rfl rfl dX4_wall_17 (fun H locs hP hS => ?_)
  refine lv_ineg hx hb dX4_wall_20 ?_
  refine lv_icmp_lt (tgt := 32) hx hb dX4_wall_21 (by decide) (fun c_1 => ?_) (fun c_1 => ?_)
  · exact (hbd (by simp [bdW, c_1])).elim
  · refine lv_iload_n hx hb dX4_wall_24 rfl (lv_at hl 3 rfl) ?_
    refine lv_aload_n hx hb dX4_wall_25 rfl (lv_at hl 0 rfl) ?_
    refine k_VNI C0 hP hS (rest := [.int a2]) (c_X1_reach l G M o (4 + 13 + r) (kdSr (Or.inl rfl) (by omega))) mf_X1_reach ml_X4_116 (kd_lt (kdSr (Or.inl rfl) (by omega)) (by decide)) (ct_1 (kdSr (Or.inl rfl) (by omega))) rfl hl.1 (by decide) (by decide) (Nat.le_of_ble_eq_true rfl) rfl rfl dX4_wall_26 (fun H locs hP hS => ?_)
    refine lv_icmp_le (tgt := 40) hx hb dX4_wall_29 (by decide) (fun c_2 => ?_) (fun c_2 => ?_)
    · refine lv_aload_n hx hb dX4_wall_40 rfl (lv_at hl 1 rfl) ?_
      refine gf_X4_19 C0 hP (k := 0) (show kd 0 = 4 by decide) dX4_wall_41 ?_
      refine lv_aload_n hx hb dX4_wall_44 rfl (lv_at hl 0 rfl) ?_
      refine gf_X4_120 C0 hP (k := 4 + 13 + r) (kdSr (Or.inl rfl) (by omega)) dX4_wall_45 ?_
      refine lv_iload_n hx hb dX4_wall_48 rfl (lv_at hl 3 rfl) ?_
      refine lv_isub hx hb dX4_wall_49 ?_
      refine k_VNI C0 hP hS (rest := []) (c_X2_passersAt l G M o 4 ((M (4 + 13 + r) 0) - a2) np (Or.inl rfl) hnp hple) mf_X2_passersAt ml_X4_123 (kd_lt (show kd 4 = 2 by decide) (by decide)) (ct_2 (show kd 4 = 2 by decide)) rfl hl.1 (by decide) (by decide) (Nat.le_of_ble_eq_true rfl) rfl rfl dX4_wall_50 (fun H locs hP hS => ?_)
      exact e_Ii C0 hr hP hS rfl (by decide) dX4_wall_53
    · exact (hbd (by simp [bdW, c_1, c_2])).elim

set_option maxHeartbeats 4000000 in
set_option maxRecDepth 100000 in
theorem c_X4_wall_i (l : Launch) (G : GG) (M : Mem) (o : Nat → Int64) (hst : l.stackTraces = false) (np nr k : Nat) (hO : OKM M np nr k) (x1 a2 : Int32) (hbd : x1 < 0 ∨ ¬ x1 < nI nr) : MX l yX4_wall cX4_wall 4 (some .int) 8 131 G [.ref (adr G 0), .int x1, .int a2] M M o o "java/lang/IndexOutOfBoundsException" 1 6 := by
  refine MX_of RX4 rfl (by decide +kernel) (Nat.le_of_ble_eq_true rfl) ?_
  intro p e s m below meth c sz C0 hx0 hP ls hl
  have hx := C0.1
  have hb := C0.2.1
  have hS : va_S (pA G sz) s.heap s.heap [] := va_S.rf
  have hl : lv_has ls 4 [(0, .ref (adr G 0)), (1, .int x1), (2, .int a2)] := hl
  obtain ⟨hnp, hple, hnr, hrle, hk0, hkle⟩ := id hO
  refine lv_aload_n hx hb dX4_wall_0 rfl (lv_at hl 0 rfl) ?_
  refine lv_iload_n hx hb dX4_wall_1 rfl (lv_at hl 1 rfl) ?_
  refine k_VX C0 hP hS (rest := []) (c_X4_needRoom_x l G M o hst np nr k hO x1 hbd) mf_X4_needRoom ml_X4_86 (kd_lt (show kd 0 = 4 by decide) (by decide)) (ct_4 (show kd 0 = 4 by decide)) rfl hl.1 (by decide) (by decide) (Nat.le_of_ble_eq_true rfl) rfl rfl dX4_wall_2 (fun ce q9 H locs hP hS hce hcv hcl => ?_)
  exact e_X C0 hx0 hP hS hce hcv hcl (by decide)

set_option maxHeartbeats 4000000 in
set_option maxRecDepth 100000 in
theorem c_X4_wall_j (l : Launch) (G : GG) (M : Mem) (o : Nat → Int64) (hst : l.stackTraces = false) (np nr k : Nat) (hO : OKM M np nr k) (r : Nat) (hr0 : r < nr) (a2 : Int32) (hbd : bdW a2 (M (4 + 13 + r) 1)) : MX l yX4_wall cX4_wall 4 (some .int) 6 89 G [.ref (adr G 0), .int (nI r), .int a2] M M o o "java/lang/IndexOutOfBoundsException" 1 6 := by
  refine MX_of RX4 rfl (by decide +kernel) (Nat.le_of_ble_eq_true rfl) ?_
  intro p e s m below meth c sz C0 hx0 hP ls hl
  have hx := C0.1
  have hb := C0.2.1
  have hS : va_S (pA G sz) s.heap s.heap [] := va_S.rf
  have hl : lv_has ls 4 [(0, .ref (adr G 0)), (1, .int (nI r)), (2, .int a2)] := hl
  obtain ⟨hnp, hple, hnr, hrle, hk0, hkle⟩ := id hO
  refine lv_aload_n hx hb dX4_wall_0 rfl (lv_at hl 0 rfl) ?_
  refine lv_iload_n hx hb dX4_wall_1 rfl (lv_at hl 1 rfl) ?_
  refine k_VV C0 hP hS (rest := []) (c_X4_needRoom l G M o np nr k hO r (by omega)) mf_X4_needRoom ml_X4_86 (kd_lt (show kd 0 = 4 by decide) (by decide)) (ct_4 (show kd 0 = 4 by decide)) rfl hl.1 (by decide) (by decide) (Nat.le_of_ble_eq_true rfl) rfl rfl dX4_wall_2 (fun H locs hP hS => ?_)
  refine lv_aload_n hx hb dX4_wall_5 rfl (lv_at hl 0 rfl) ?_
  refine gf_X4_19 C0 hP (k := 0) (show kd 0 = 4 by decide) dX4_wall_6 ?_
  refine gf_X4_76 C0 hP (k := 4) (show kd 4 = 2 by decide) dX4_wall_9 ?_
  refine lv_iload_n hx hb dX4_wall_12 rfl (lv_at hl 1 rfl) ?_
  refine w_aldR C0 hP (k := 4 + 2) (i := r) (kdS2 (Or.inl rfl)) (by omega) dX4_wall_13 ?_
  refine lv_astore_n (lv' := [(3, .ref (adr G (4 + 13 + r))), (0, .ref (adr G 0)), (1, .int (nI r)), (2, .int a2)]) hx hb dX4_wall_14 rfl hl (by decide) rfl (fun ls hl => ?_)
  refine lv_iload_n hx hb dX4_wall_15 rfl (lv_at hl 3 rfl) ?_
  refine lv_aload_n hx hb dX4_wall_16 rfl (lv_at hl 0 rfl) ?_
  refine k_VNI C0 hP hS (rest := [.int a2]) (c_X1_reach l G M o (4 + 13 + r) (kdSr (Or.inl rfl) (by omega))) mf_X1_reach ml_X4_116 (kd_lt (kdSr (Or.inl rfl) (by omega)) (by decide)) (ct_1 (kdSr (Or.inl rfl) (by omega))) rfl hl.1 (by decide) (by decide) (Nat.le_of_ble_eq_true rfl) rfl rfl dX4_wall_17 (fun H locs hP hS => ?_)
  refine lv_ineg hx hb dX4_wall_20 ?_
  refine lv_icmp_lt (tgt := 32) hx hb dX4_wall_21 (by decide) (fun c_1 => ?_) (fun c_1 => ?_)
  · exact th_IOE C0 hst hx0 hP hS hl.1 dX4_wall_32 dX4_wall_35 dX4_wall_36 dX4_wall_39 ⟨by decide, Nat.le_of_ble_eq_true rfl, by decide, by decide⟩ (by decide)
  · refine lv_iload_n hx hb dX4_wall_24 rfl (lv_at hl 3 rfl) ?_
    refine lv_aload_n hx hb dX4_wall_25 rfl (lv_at hl 0 rfl) ?_
    refine k_VNI C0 hP hS (rest := [.int a2]) (c_X1_reach l G M o (4 + 13 + r) (kdSr (Or.inl rfl) (by omega))) mf_X1_reach ml_X4_116 (kd_lt (kdSr (Or.inl rfl) (by omega)) (by decide)) (ct_1 (kdSr (Or.inl rfl) (by omega))) rfl hl.1 (by decide) (by decide) (Nat.le_of_ble_eq_true rfl) rfl rfl dX4_wall_26 (fun H locs hP hS => ?_)
    refine lv_icmp_le (tgt := 40) hx hb dX4_wall_29 (by decide) (fun c_2 => ?_) (fun c_2 => ?_)
    · exact absurd hbd (by simp [bdW, c_1, c_2])
    · exact th_IOE C0 hst hx0 hP hS hl.1 dX4_wall_32 dX4_wall_35 dX4_wall_36 dX4_wall_39 ⟨by decide, Nat.le_of_ble_eq_true rfl, by decide, by decide⟩ (by decide)

set_option maxHeartbeats 4000000 in
set_option maxRecDepth 100000 in
theorem c_X4_bright (l : Launch) (G : GG) (M : Mem) (o : Nat → Int64) (np nr k : Nat) (hO : OKM M np nr k) (r i : Nat) (hr0 : r < nr) (hi : i < np) : MI l yX4_bright cX4_bright 5 (some .int) 2 42 G [.ref (adr G 0), .int (nI r), .int (nI i)] M M o o (if shM M (4 + 13 + r) (4 + 3 + i) = 0 then -1 else brM M (4 + 13 + r) (4 + 3 + i) (ltF (M 2) (M 3) k)) 0 0 := by
  refine MI_of RX4 rfl (by decide +kernel) (Nat.le_of_ble_eq_true rfl) ?_
  intro p e s m below meth c sz C0 hr hP ls hl
  have hx := C0.1
  have hb := C0.2.1
  have hS : va_S (pA G sz) s.heap s.heap [] := va_S.rf
  have hl : lv_has ls 5 [(0, .ref (adr G 0)), (1, .int (nI r)), (2, .int (nI i))] := hl
  obtain ⟨hnp, hple, hnr, hrle, hk0, hkle⟩ := id hO
  refine lv_aload_n hx hb dX4_bright_0 rfl (lv_at hl 0 rfl) ?_
  refine lv_iload_n hx hb dX4_bright_1 rfl (lv_at hl 1 rfl) ?_
  refine k_VV C0 hP hS (rest := []) (c_X4_needRoom l G M o np nr k hO r (by omega)) mf_X4_needRoom ml_X4_86 (kd_lt (show kd 0 = 4 by decide) (by decide)) (ct_4 (show kd 0 = 4 by decide)) rfl hl.1 (by decide) (by decide) (Nat.le_of_ble_eq_true rfl) rfl rfl dX4_bright_2 (fun H locs hP hS => ?_)
  refine lv_aload_n hx hb dX4_bright_5 rfl (lv_at hl 0 rfl) ?_
  refine lv_iload_n hx hb dX4_bright_6 rfl (lv_at hl 2 rfl) ?_
  refine k_VV C0 hP hS (rest := []) (c_X4_needPasser l G M o np nr k hO i (by omega)) mf_X4_needPasser ml_X4_102 (kd_lt (show kd 0 = 4 by decide) (by decide)) (ct_4 (show kd 0 = 4 by decide)) rfl hl.1 (by decide) (by decide) (Nat.le_of_ble_eq_true rfl) rfl rfl dX4_bright_7 (fun H locs hP hS => ?_)
  refine lv_aload_n hx hb dX4_bright_10 rfl (lv_at hl 0 rfl) ?_
  refine gf_X4_19 C0 hP (k := 0) (show kd 0 = 4 by decide) dX4_bright_11 ?_
  refine gf_X4_76 C0 hP (k := 4) (show kd 4 = 2 by decide) dX4_bright_14 ?_
  refine lv_iload_n hx hb dX4_bright_17 rfl (lv_at hl 1 rfl) ?_
  refine w_aldR C0 hP (k := 4 + 2) (i := r) (kdS2 (Or.inl rfl)) (by omega) dX4_bright_18 ?_
  refine lv_astore_n (lv' := [(3, .ref (adr G (4 + 13 + r))), (0, .ref (adr G 0)), (1, .int (nI r)), (2, .int (nI i))]) hx hb dX4_bright_19 rfl hl (by decide) rfl (fun ls hl => ?_)
  refine lv_aload_n hx hb dX4_bright_20 rfl (lv_at hl 1 rfl) ?_
  refine gf_X4_19 C0 hP (k := 0) (show kd 0 = 4 by decide) dX4_bright_21 ?_
  refine gf_X4_43 C0 hP (k := 4) (show kd 4 = 2 by decide) dX4_bright_24 ?_
  refine lv_iload_n hx hb dX4_bright_27 rfl (lv_at hl 3 rfl) ?_
  refine w_aldP C0 hP (k := 4 + 1) (i := i) (kdS1 (Or.inl rfl)) (by omega) dX4_bright_28 ?_
  refine lv_astore (lv' := [(4, .ref (adr G (4 + 3 + i))), (3, .ref (adr G (4 + 13 + r))), (0, .ref (adr G 0)), (1, .int (nI r)), (2, .int (nI i))]) hx hb dX4_bright_29 hl (by decide) rfl (fun ls hl => ?_)
  refine lv_aload_n hx hb dX4_bright_31 rfl (lv_at hl 1 rfl) ?_
  refine lv_aload hx hb dX4_bright_32 (lv_at hl 0 rfl) ?_
  refine k_VNI C0 hP hS (rest := []) (c_X1_shows l G M o (4 + 13 + r) (4 + 3 + i) (kdSr (Or.inl rfl) (by omega)) (kdSp (Or.inl rfl) (by omega))) mf_X1_shows ml_X4_126 (kd_lt (kdSr (Or.inl rfl) (by omega)) (by decide)) (ct_1 (kdSr (Or.inl rfl) (by omega))) rfl hl.1 (by decide) (by decide) (Nat.le_of_ble_eq_true rfl) rfl rfl dX4_bright_34 (fun H locs hP hS => ?_)
  refine lv_if_eq (tgt := 53) hx hb dX4_bright_37 (by decide) (fun c_1 => ?_) (fun c_1 => ?_)
  · refine lv_iconst (v := -1) hx hb dX4_bright_53 (by decide) ?_
    exact e_Ii C0 hr hP hS (by simp [c_1]) (by decide) dX4_bright_54
  · refine lv_aload_n hx hb dX4_bright_40 rfl (lv_at hl 1 rfl) ?_
    refine lv_aload hx hb dX4_bright_41 (lv_at hl 0 rfl) ?_
    refine lv_aload_n hx hb dX4_bright_43 rfl (lv_at hl 2 rfl) ?_
    refine k_VI C0 hP hS (rest := [.ref (adr G (4 + 3 + i)), .ref (adr G (4 + 13 + r))]) (c_X4_lightNow l G M o np nr k hO) mf_X4_lightNow ml_X4_130 (kd_lt (show kd 0 = 4 by decide) (by decide)) (ct_4 (show kd 0 = 4 by decide)) rfl hl.1 (by decide) (by decide) (Nat.le_of_ble_eq_true rfl) rfl rfl dX4_bright_44 (fun H locs hP hS => ?_)
    refine k_VNI C0 hP hS (rest := []) (c_X1_brightnessOf l G M o (4 + 13 + r) (4 + 3 + i) (ltF (M 2) (M 3) k) (kdSr (Or.inl rfl) (by omega)) (kdSp (Or.inl rfl) (by omega))) mf_X1_brightnessOf ml_X4_133 (kd_lt (kdSr (Or.inl rfl) (by omega)) (by decide)) (ct_1 (kdSr (Or.inl rfl) (by omega))) rfl hl.1 (by decide) (by decide) (Nat.le_of_ble_eq_true rfl) rfl rfl dX4_bright_47 (fun H locs hP hS => ?_)
    refine lv_goto (tgt := 54) hx hb dX4_bright_50 (by decide) ?_
    exact e_Ii C0 hr hP hS (by simp [c_1]) (by decide) dX4_bright_54

set_option maxHeartbeats 4000000 in
set_option maxRecDepth 100000 in
theorem c_X4_bright_i (l : Launch) (G : GG) (M : Mem) (o : Nat → Int64) (hst : l.stackTraces = false) (np nr k : Nat) (hO : OKM M np nr k) (x1 a2 : Int32) (hbd : x1 < 0 ∨ ¬ x1 < nI nr) : MX l yX4_bright cX4_bright 5 (some .int) 8 131 G [.ref (adr G 0), .int x1, .int a2] M M o o "java/lang/IndexOutOfBoundsException" 1 6 := by
  refine MX_of RX4 rfl (by decide +kernel) (Nat.le_of_ble_eq_true rfl) ?_
  intro p e s m below meth c sz C0 hx0 hP ls hl
  have hx := C0.1
  have hb := C0.2.1
  have hS : va_S (pA G sz) s.heap s.heap [] := va_S.rf
  have hl : lv_has ls 5 [(0, .ref (adr G 0)), (1, .int x1), (2, .int a2)] := hl
  obtain ⟨hnp, hple, hnr, hrle, hk0, hkle⟩ := id hO
  refine lv_aload_n hx hb dX4_bright_0 rfl (lv_at hl 0 rfl) ?_
  refine lv_iload_n hx hb dX4_bright_1 rfl (lv_at hl 1 rfl) ?_
  refine k_VX C0 hP hS (rest := []) (c_X4_needRoom_x l G M o hst np nr k hO x1 hbd) mf_X4_needRoom ml_X4_86 (kd_lt (show kd 0 = 4 by decide) (by decide)) (ct_4 (show kd 0 = 4 by decide)) rfl hl.1 (by decide) (by decide) (Nat.le_of_ble_eq_true rfl) rfl rfl dX4_bright_2 (fun ce q9 H locs hP hS hce hcv hcl => ?_)
  exact e_X C0 hx0 hP hS hce hcv hcl (by decide)

set_option maxHeartbeats 4000000 in
set_option maxRecDepth 100000 in
theorem c_X4_bright_j (l : Launch) (G : GG) (M : Mem) (o : Nat → Int64) (hst : l.stackTraces = false) (np nr k : Nat) (hO : OKM M np nr k) (r : Nat) (hr0 : r < nr) (a2 : Int32) (hbd : a2 < 0 ∨ ¬ a2 < nI np) : MX l yX4_bright cX4_bright 5 (some .int) 8 131 G [.ref (adr G 0), .int (nI r), .int a2] M M o o "java/lang/IndexOutOfBoundsException" 1 6 := by
  refine MX_of RX4 rfl (by decide +kernel) (Nat.le_of_ble_eq_true rfl) ?_
  intro p e s m below meth c sz C0 hx0 hP ls hl
  have hx := C0.1
  have hb := C0.2.1
  have hS : va_S (pA G sz) s.heap s.heap [] := va_S.rf
  have hl : lv_has ls 5 [(0, .ref (adr G 0)), (1, .int (nI r)), (2, .int a2)] := hl
  obtain ⟨hnp, hple, hnr, hrle, hk0, hkle⟩ := id hO
  refine lv_aload_n hx hb dX4_bright_0 rfl (lv_at hl 0 rfl) ?_
  refine lv_iload_n hx hb dX4_bright_1 rfl (lv_at hl 1 rfl) ?_
  refine k_VV C0 hP hS (rest := []) (c_X4_needRoom l G M o np nr k hO r (by omega)) mf_X4_needRoom ml_X4_86 (kd_lt (show kd 0 = 4 by decide) (by decide)) (ct_4 (show kd 0 = 4 by decide)) rfl hl.1 (by decide) (by decide) (Nat.le_of_ble_eq_true rfl) rfl rfl dX4_bright_2 (fun H locs hP hS => ?_)
  refine lv_aload_n hx hb dX4_bright_5 rfl (lv_at hl 0 rfl) ?_
  refine lv_iload_n hx hb dX4_bright_6 rfl (lv_at hl 2 rfl) ?_
  refine k_VX C0 hP hS (rest := []) (c_X4_needPasser_x l G M o hst np nr k hO a2 hbd) mf_X4_needPasser ml_X4_102 (kd_lt (show kd 0 = 4 by decide) (by decide)) (ct_4 (show kd 0 = 4 by decide)) rfl hl.1 (by decide) (by decide) (Nat.le_of_ble_eq_true rfl) rfl rfl dX4_bright_7 (fun ce q9 H locs hP hS hce hcv hcl => ?_)
  exact e_X C0 hx0 hP hS hce hcv hcl (by decide)

set_option maxHeartbeats 4000000 in
set_option maxRecDepth 100000 in
theorem c_X4_count (l : Launch) (G : GG) (M : Mem) (o : Nat → Int64) (np nr k : Nat) (hO : OKM M np nr k) (w : Nat) (hw : w < 9) : MI l yX4_count cX4_count 2 (some .int) 6 132 G [.ref (adr G 0), .int (nI w)] M M o o (hfF M np nr k w) 0 0 := by
  refine MI_of RX4 rfl (by decide +kernel) (Nat.le_of_ble_eq_true rfl) ?_
  intro p e s m below meth c sz C0 hr hP ls hl
  have hx := C0.1
  have hb := C0.2.1
  have hS : va_S (pA G sz) s.heap s.heap [] := va_S.rf
  have hl : lv_has ls 2 [(0, .ref (adr G 0)), (1, .int (nI w))] := hl
  obtain ⟨hnp, hple, hnr, hrle, hk0, hkle⟩ := id hO
  refine lv_iload_n hx hb dX4_count_0 rfl (lv_at hl 1 rfl) ?_
  refine lv_bipush (v := 9) hx hb dX4_count_1 (by decide) ?_
  refine k_SV C0 hP hS (rest := []) (c_X4_needBelow l G M o w 9 (by omega) (by omega)) mf_X4_needBelow rfl ml_X4_105 hl.1 (by decide) (by decide) (Nat.le_of_ble_eq_true rfl) rfl rfl dX4_count_3 (fun H locs hP hS => ?_)
  refine lv_aload_n hx hb dX4_count_6 rfl (lv_at hl 0 rfl) ?_
  refine lv_iload_n hx hb dX4_count_7 rfl (lv_at hl 1 rfl) ?_
  refine k_VI C0 hP hS (rest := []) (c_X4_houseFact l G M o np nr k hO w (by omega)) mf_X4_houseFact ml_X4_137 (kd_lt (show kd 0 = 4 by decide) (by decide)) (ct_4 (show kd 0 = 4 by decide)) rfl hl.1 (by decide) (by decide) (Nat.le_of_ble_eq_true rfl) rfl rfl dX4_count_8 (fun H locs hP hS => ?_)
  exact e_Ii C0 hr hP hS rfl (by decide) dX4_count_11

set_option maxHeartbeats 4000000 in
set_option maxRecDepth 100000 in
theorem c_X4_count_i (l : Launch) (G : GG) (M : Mem) (o : Nat → Int64) (hst : l.stackTraces = false) (np nr k : Nat) (hO : OKM M np nr k) (x1 : Int32) (hbd : x1 < 0 ∨ ¬ x1 < 9) : MX l yX4_count cX4_count 2 (some .int) 7 110 G [.ref (adr G 0), .int x1] M M o o "java/lang/IndexOutOfBoundsException" 1 6 := by
  refine MX_of RX4 rfl (by decide +kernel) (Nat.le_of_ble_eq_true rfl) ?_
  intro p e s m below meth c sz C0 hx0 hP ls hl
  have hx := C0.1
  have hb := C0.2.1
  have hS : va_S (pA G sz) s.heap s.heap [] := va_S.rf
  have hl : lv_has ls 2 [(0, .ref (adr G 0)), (1, .int x1)] := hl
  obtain ⟨hnp, hple, hnr, hrle, hk0, hkle⟩ := id hO
  refine lv_iload_n hx hb dX4_count_0 rfl (lv_at hl 1 rfl) ?_
  refine lv_bipush (v := 9) hx hb dX4_count_1 (by decide) ?_
  refine k_SX C0 hP hS (rest := []) (c_X4_needBelow_x l G M o hst x1 9 hbd) mf_X4_needBelow rfl ml_X4_105 hl.1 (by decide) (by decide) (Nat.le_of_ble_eq_true rfl) rfl rfl dX4_count_3 (fun ce q9 H locs hP hS hce hcv hcl => ?_)
  exact e_X C0 hx0 hP hS hce hcv hcl (by decide)

set_option maxHeartbeats 4000000 in
set_option maxRecDepth 100000 in
theorem c_X4_mean (l : Launch) (G : GG) (M : Mem) (o : Nat → Int64) (np nr k : Nat) (hO : OKM M np nr k)  : MD l yX4_mean cX4_mean 1 (some .double) 1 22 G [.ref (adr G 0)] M M o o (if k = 0 then FP.dconst0 else FP.ddiv (FP.i2d (pnM M 4 nr)) (FP.i2d (M 4 0))) 0 0 := by
  refine MD_of RX4 rfl (by decide +kernel) (Nat.le_of_ble_eq_true rfl) ?_
  intro p e s m below meth c sz C0 hr hP ls hl
  have hx := C0.1
  have hb := C0.2.1
  have hS : va_S (pA G sz) s.heap s.heap [] := va_S.rf
  have hl : lv_has ls 1 [(0, .ref (adr G 0))] := hl
  obtain ⟨hnp, hple, hnr, hrle, hk0, hkle⟩ := id hO
  refine lv_aload_n hx hb dX4_mean_0 rfl (lv_at hl 0 rfl) ?_
  refine gf_X4_19 C0 hP (k := 0) (show kd 0 = 4 by decide) dX4_mean_1 ?_
  refine gf_X4_151 C0 hP (k := 4) (show kd 4 = 2 by decide) dX4_mean_4 ?_
  refine lv_if_ne (tgt := 12) hx hb dX4_mean_7 (by decide) (fun c_1 => ?_) (fun c_1 => ?_)
  · have hk3 : k ≠ 0 := fun z => c_1 (by rw [hk0, z]; rfl)
    refine lv_aload_n hx hb dX4_mean_12 rfl (lv_at hl 0 rfl) ?_
    refine gf_X4_19 C0 hP (k := 0) (show kd 0 = 4 by decide) dX4_mean_13 ?_
    refine k_VNI C0 hP hS (rest := []) (c_X2_allPence l G M o 4 nr (Or.inl rfl) hnr hrle) mf_X2_allPence ml_X4_184 (kd_lt (show kd 4 = 2 by decide) (by decide)) (ct_2 (show kd 4 = 2 by decide)) rfl hl.1 (by decide) (by decide) (Nat.le_of_ble_eq_true rfl) rfl rfl dX4_mean_16 (fun H locs hP hS => ?_)
    refine lv_i2d hx hb dX4_mean_19 ?_
    refine lv_aload_n hx hb dX4_mean_20 rfl (lv_at hl 0 rfl) ?_
    refine gf_X4_19 C0 hP (k := 0) (show kd 0 = 4 by decide) dX4_mean_21 ?_
    refine gf_X4_151 C0 hP (k := 4) (show kd 4 = 2 by decide) dX4_mean_24 ?_
    refine lv_i2d hx hb dX4_mean_27 ?_
    refine lv_ddiv hx hb dX4_mean_28 (dv_num c_1) ?_
    exact e_D C0 hr hP hS (by simp [hk3]) (by decide) dX4_mean_29
  · have hk3 : k = 0 := by
      rw [hk0] at c_1
      exact (nI_eq (b := 0) (by omega) (by omega)).mp c_1
    refine lv_dconst0 hx hb dX4_mean_10 ?_
    exact e_D C0 hr hP hS (by simp [hk3]) (by decide) dX4_mean_11
end CLC
end
