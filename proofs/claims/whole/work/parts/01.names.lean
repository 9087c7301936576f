-- ===== PART A: goes FIRST, ahead of the names: the tables' words, and 'selects' of the private methods out of them =====
/-- a private method of a class that the tables say can be made, by its rows of tables_1 -/
def lw_okq (q : MethodName × Nat) : Prop := (q.1.cls ≠ "java/lang/invoke/MethodHandle" ∧ q.1.cls ≠ "java/lang/invoke/VarHandle") ∧ Cond.instantiable q.1.cls q.2 ∈ tables_1 ∧ Cond.privateMethod q.1 ∈ tables_1 ∧ Cond.instanceMethod q.1 ∈ tables_1
theorem lw_p0 : lw_okq (⟨"HullSums", "tell", "(JJ)V"⟩, 10) := ⟨⟨by decide +kernel, by decide +kernel⟩, List.mem_of_getElem? (i := 8) (by decide +kernel), List.mem_of_getElem? (i := 107) (by decide +kernel), List.mem_of_getElem? (i := 108) (by decide +kernel)⟩
theorem lw_p1 : lw_okq (⟨"HullSums", "rowOf", "(I)LHullSums$Row;"⟩, 10) := ⟨⟨by decide +kernel, by decide +kernel⟩, List.mem_of_getElem? (i := 8) (by decide +kernel), List.mem_of_getElem? (i := 115) (by decide +kernel), List.mem_of_getElem? (i := 116) (by decide +kernel)⟩
theorem lw_p2 : lw_okq (⟨"HullSums", "hullOf", "(LHullSums$Row;)LHullSums$Row;"⟩, 10) := ⟨⟨by decide +kernel, by decide +kernel⟩, List.mem_of_getElem? (i := 8) (by decide +kernel), List.mem_of_getElem? (i := 158) (by decide +kernel), List.mem_of_getElem? (i := 159) (by decide +kernel)⟩
theorem lw_p3 : lw_okq (⟨"HullSums$Row", "addCorner", "(III)V"⟩, 3) := ⟨⟨by decide +kernel, by decide +kernel⟩, List.mem_of_getElem? (i := 17) (by decide +kernel), List.mem_of_getElem? (i := 172) (by decide +kernel), List.mem_of_getElem? (i := 173) (by decide +kernel)⟩
theorem lw_p4 : lw_okq (⟨"HullSums$Row", "turn", "(IIII)I"⟩, 3) := ⟨⟨by decide +kernel, by decide +kernel⟩, List.mem_of_getElem? (i := 17) (by decide +kernel), List.mem_of_getElem? (i := 176) (by decide +kernel), List.mem_of_getElem? (i := 177) (by decide +kernel)⟩
theorem lw_p5 : lw_okq (⟨"HullSums$Row", "isOnThin", "(II)Z"⟩, 3) := ⟨⟨by decide +kernel, by decide +kernel⟩, List.mem_of_getElem? (i := 17) (by decide +kernel), List.mem_of_getElem? (i := 206) (by decide +kernel), List.mem_of_getElem? (i := 207) (by decide +kernel)⟩
theorem lw_p6 : lw_okq (⟨"HullSums$Row", "next", "(I)I"⟩, 3) := ⟨⟨by decide +kernel, by decide +kernel⟩, List.mem_of_getElem? (i := 17) (by decide +kernel), List.mem_of_getElem? (i := 218) (by decide +kernel), List.mem_of_getElem? (i := 219) (by decide +kernel)⟩
theorem lw_p7 : lw_okq (⟨"HullSums$Row", "gridSteps", "()I"⟩, 3) := ⟨⟨by decide +kernel, by decide +kernel⟩, List.mem_of_getElem? (i := 17) (by decide +kernel), List.mem_of_getElem? (i := 238) (by decide +kernel), List.mem_of_getElem? (i := 239) (by decide +kernel)⟩
theorem lw_p8 : lw_okq (⟨"HullSums", "tellFraction", "(JJ)V"⟩, 10) := ⟨⟨by decide +kernel, by decide +kernel⟩, List.mem_of_getElem? (i := 8) (by decide +kernel), List.mem_of_getElem? (i := 312) (by decide +kernel), List.mem_of_getElem? (i := 313) (by decide +kernel)⟩
theorem lw_p9 : lw_okq (⟨"HullSums$Circle", "shrinkTo", "(LHullSums$Row;I)V"⟩, 5) := ⟨⟨by decide +kernel, by decide +kernel⟩, List.mem_of_getElem? (i := 34) (by decide +kernel), List.mem_of_getElem? (i := 325) (by decide +kernel), List.mem_of_getElem? (i := 326) (by decide +kernel)⟩
theorem lw_p10 : lw_okq (⟨"HullSums$Circle", "has", "(LHullSums$Row;I)Z"⟩, 5) := ⟨⟨by decide +kernel, by decide +kernel⟩, List.mem_of_getElem? (i := 34) (by decide +kernel), List.mem_of_getElem? (i := 332) (by decide +kernel), List.mem_of_getElem? (i := 333) (by decide +kernel)⟩
theorem lw_p11 : lw_okq (⟨"HullSums$Circle", "encloseThrough", "(LHullSums$Row;I)V"⟩, 5) := ⟨⟨by decide +kernel, by decide +kernel⟩, List.mem_of_getElem? (i := 34) (by decide +kernel), List.mem_of_getElem? (i := 337) (by decide +kernel), List.mem_of_getElem? (i := 338) (by decide +kernel)⟩
theorem lw_p12 : lw_okq (⟨"HullSums$Circle", "encloseThroughBoth", "(LHullSums$Row;II)V"⟩, 5) := ⟨⟨by decide +kernel, by decide +kernel⟩, List.mem_of_getElem? (i := 34) (by decide +kernel), List.mem_of_getElem? (i := 341) (by decide +kernel), List.mem_of_getElem? (i := 342) (by decide +kernel)⟩
theorem lw_p13 : lw_okq (⟨"HullSums$Circle", "spanAcross", "(LHullSums$Row;II)V"⟩, 5) := ⟨⟨by decide +kernel, by decide +kernel⟩, List.mem_of_getElem? (i := 34) (by decide +kernel), List.mem_of_getElem? (i := 345) (by decide +kernel), List.mem_of_getElem? (i := 346) (by decide +kernel)⟩
theorem lw_p14 : lw_okq (⟨"HullSums$Circle", "passThrough", "(LHullSums$Row;III)V"⟩, 5) := ⟨⟨by decide +kernel, by decide +kernel⟩, List.mem_of_getElem? (i := 34) (by decide +kernel), List.mem_of_getElem? (i := 349) (by decide +kernel), List.mem_of_getElem? (i := 350) (by decide +kernel)⟩
theorem lw_p15 : lw_okq (⟨"HullSums", "fillSums", "(III)I"⟩, 10) := ⟨⟨by decide +kernel, by decide +kernel⟩, List.mem_of_getElem? (i := 8) (by decide +kernel), List.mem_of_getElem? (i := 378) (by decide +kernel), List.mem_of_getElem? (i := 379) (by decide +kernel)⟩
def lw_privs_1 : List (MethodName × Nat) := [(⟨"HullSums", "tell", "(JJ)V"⟩, 10), (⟨"HullSums", "rowOf", "(I)LHullSums$Row;"⟩, 10), (⟨"HullSums", "hullOf", "(LHullSums$Row;)LHullSums$Row;"⟩, 10), (⟨"HullSums$Row", "addCorner", "(III)V"⟩, 3), (⟨"HullSums$Row", "turn", "(IIII)I"⟩, 3), (⟨"HullSums$Row", "isOnThin", "(II)Z"⟩, 3), (⟨"HullSums$Row", "next", "(I)I"⟩, 3), (⟨"HullSums$Row", "gridSteps", "()I"⟩, 3), (⟨"HullSums", "tellFraction", "(JJ)V"⟩, 10), (⟨"HullSums$Circle", "shrinkTo", "(LHullSums$Row;I)V"⟩, 5), (⟨"HullSums$Circle", "has", "(LHullSums$Row;I)Z"⟩, 5), (⟨"HullSums$Circle", "encloseThrough", "(LHullSums$Row;I)V"⟩, 5), (⟨"HullSums$Circle", "encloseThroughBoth", "(LHullSums$Row;II)V"⟩, 5), (⟨"HullSums$Circle", "spanAcross", "(LHullSums$Row;II)V"⟩, 5), (⟨"HullSums$Circle", "passThrough", "(LHullSums$Row;III)V"⟩, 5), (⟨"HullSums", "fillSums", "(III)I"⟩, 10)]
theorem lw_r1 : ∀ q ∈ lw_privs_1, lw_okq q := List.forall_mem_cons.mpr ⟨lw_p0, List.forall_mem_cons.mpr ⟨lw_p1, List.forall_mem_cons.mpr ⟨lw_p2, List.forall_mem_cons.mpr ⟨lw_p3, List.forall_mem_cons.mpr ⟨lw_p4, List.forall_mem_cons.mpr ⟨lw_p5, List.forall_mem_cons.mpr ⟨lw_p6, List.forall_mem_cons.mpr ⟨lw_p7, List.forall_mem_cons.mpr ⟨lw_p8, List.forall_mem_cons.mpr ⟨lw_p9, List.forall_mem_cons.mpr ⟨lw_p10, List.forall_mem_cons.mpr ⟨lw_p11, List.forall_mem_cons.mpr ⟨lw_p12, List.forall_mem_cons.mpr ⟨lw_p13, List.forall_mem_cons.mpr ⟨lw_p14, List.forall_mem_cons.mpr ⟨lw_p15, fun _ h => absurd h List.not_mem_nil⟩⟩⟩⟩⟩⟩⟩⟩⟩⟩⟩⟩⟩⟩⟩⟩
theorem lw_p16 : lw_okq (⟨"HullSums", "setOf", "(LHullSums$Row;)I"⟩, 10) := ⟨⟨by decide +kernel, by decide +kernel⟩, List.mem_of_getElem? (i := 8) (by decide +kernel), List.mem_of_getElem? (i := 397) (by decide +kernel), List.mem_of_getElem? (i := 398) (by decide +kernel)⟩
theorem lw_p17 : lw_okq (⟨"HullSums", "takeDistancesFromZero", "(LHullSums$Row;)V"⟩, 10) := ⟨⟨by decide +kernel, by decide +kernel⟩, List.mem_of_getElem? (i := 8) (by decide +kernel), List.mem_of_getElem? (i := 414) (by decide +kernel), List.mem_of_getElem? (i := 415) (by decide +kernel)⟩
theorem lw_p18 : lw_okq (⟨"HullSumsModel", "is", "(I)Z"⟩, 23) := ⟨⟨by decide +kernel, by decide +kernel⟩, List.mem_of_getElem? (i := 460) (by decide +kernel), List.mem_of_getElem? (i := 548) (by decide +kernel), List.mem_of_getElem? (i := 549) (by decide +kernel)⟩
theorem lw_p19 : lw_okq (⟨"HullSumsModel", "load", "(I)V"⟩, 23) := ⟨⟨by decide +kernel, by decide +kernel⟩, List.mem_of_getElem? (i := 460) (by decide +kernel), List.mem_of_getElem? (i := 563) (by decide +kernel), List.mem_of_getElem? (i := 564) (by decide +kernel)⟩
theorem lw_p20 : lw_okq (⟨"HullSumsModel", "goRound", "()V"⟩, 23) := ⟨⟨by decide +kernel, by decide +kernel⟩, List.mem_of_getElem? (i := 460) (by decide +kernel), List.mem_of_getElem? (i := 567) (by decide +kernel), List.mem_of_getElem? (i := 568) (by decide +kernel)⟩
theorem lw_p21 : lw_okq (⟨"HullSumsModel", "nextOf", "(I)I"⟩, 23) := ⟨⟨by decide +kernel, by decide +kernel⟩, List.mem_of_getElem? (i := 460) (by decide +kernel), List.mem_of_getElem? (i := 571) (by decide +kernel), List.mem_of_getElem? (i := 572) (by decide +kernel)⟩
theorem lw_p22 : lw_okq (⟨"HullSumsModel", "placeOf", "(JJ)I"⟩, 23) := ⟨⟨by decide +kernel, by decide +kernel⟩, List.mem_of_getElem? (i := 460) (by decide +kernel), List.mem_of_getElem? (i := 593) (by decide +kernel), List.mem_of_getElem? (i := 594) (by decide +kernel)⟩
theorem lw_p23 : lw_okq (⟨"HullSumsModel", "isOn", "(IJJ)Z"⟩, 23) := ⟨⟨by decide +kernel, by decide +kernel⟩, List.mem_of_getElem? (i := 460) (by decide +kernel), List.mem_of_getElem? (i := 597) (by decide +kernel), List.mem_of_getElem? (i := 598) (by decide +kernel)⟩
theorem lw_p24 : lw_okq (⟨"HullSumsModel", "after", "(I)I"⟩, 23) := ⟨⟨by decide +kernel, by decide +kernel⟩, List.mem_of_getElem? (i := 460) (by decide +kernel), List.mem_of_getElem? (i := 601) (by decide +kernel), List.mem_of_getElem? (i := 602) (by decide +kernel)⟩
theorem lw_p25 : lw_okq (⟨"HullSumsModel", "areaOf", "()J"⟩, 23) := ⟨⟨by decide +kernel, by decide +kernel⟩, List.mem_of_getElem? (i := 460) (by decide +kernel), List.mem_of_getElem? (i := 609) (by decide +kernel), List.mem_of_getElem? (i := 610) (by decide +kernel)⟩
theorem lw_p26 : lw_okq (⟨"HullSumsModel", "borderOf", "()I"⟩, 23) := ⟨⟨by decide +kernel, by decide +kernel⟩, List.mem_of_getElem? (i := 460) (by decide +kernel), List.mem_of_getElem? (i := 617) (by decide +kernel), List.mem_of_getElem? (i := 618) (by decide +kernel)⟩
theorem lw_p27 : lw_okq (⟨"HullSumsModel", "allPoints", "(I)I"⟩, 23) := ⟨⟨by decide +kernel, by decide +kernel⟩, List.mem_of_getElem? (i := 460) (by decide +kernel), List.mem_of_getElem? (i := 629) (by decide +kernel), List.mem_of_getElem? (i := 630) (by decide +kernel)⟩
theorem lw_p28 : lw_okq (⟨"HullSumsModel", "row", "(IJI)V"⟩, 23) := ⟨⟨by decide +kernel, by decide +kernel⟩, List.mem_of_getElem? (i := 460) (by decide +kernel), List.mem_of_getElem? (i := 635) (by decide +kernel), List.mem_of_getElem? (i := 636) (by decide +kernel)⟩
theorem lw_p29 : lw_okq (⟨"HullSumsModel", "see", "(JJ)V"⟩, 23) := ⟨⟨by decide +kernel, by decide +kernel⟩, List.mem_of_getElem? (i := 460) (by decide +kernel), List.mem_of_getElem? (i := 639) (by decide +kernel), List.mem_of_getElem? (i := 640) (by decide +kernel)⟩
theorem lw_p30 : lw_okq (⟨"HullSumsModel", "spread", "(II)V"⟩, 23) := ⟨⟨by decide +kernel, by decide +kernel⟩, List.mem_of_getElem? (i := 460) (by decide +kernel), List.mem_of_getElem? (i := 658) (by decide +kernel), List.mem_of_getElem? (i := 659) (by decide +kernel)⟩
theorem lw_p31 : lw_okq (⟨"HullSumsModel", "tell", "(JJ)V"⟩, 23) := ⟨⟨by decide +kernel, by decide +kernel⟩, List.mem_of_getElem? (i := 460) (by decide +kernel), List.mem_of_getElem? (i := 662) (by decide +kernel), List.mem_of_getElem? (i := 663) (by decide +kernel)⟩
def lw_privs_2 : List (MethodName × Nat) := [(⟨"HullSums", "setOf", "(LHullSums$Row;)I"⟩, 10), (⟨"HullSums", "takeDistancesFromZero", "(LHullSums$Row;)V"⟩, 10), (⟨"HullSumsModel", "is", "(I)Z"⟩, 23), (⟨"HullSumsModel", "load", "(I)V"⟩, 23), (⟨"HullSumsModel", "goRound", "()V"⟩, 23), (⟨"HullSumsModel", "nextOf", "(I)I"⟩, 23), (⟨"HullSumsModel", "placeOf", "(JJ)I"⟩, 23), (⟨"HullSumsModel", "isOn", "(IJJ)Z"⟩, 23), (⟨"HullSumsModel", "after", "(I)I"⟩, 23), (⟨"HullSumsModel", "areaOf", "()J"⟩, 23), (⟨"HullSumsModel", "borderOf", "()I"⟩, 23), (⟨"HullSumsModel", "allPoints", "(I)I"⟩, 23), (⟨"HullSumsModel", "row", "(IJI)V"⟩, 23), (⟨"HullSumsModel", "see", "(JJ)V"⟩, 23), (⟨"HullSumsModel", "spread", "(II)V"⟩, 23), (⟨"HullSumsModel", "tell", "(JJ)V"⟩, 23)]
theorem lw_r2 : ∀ q ∈ lw_privs_2, lw_okq q := List.forall_mem_cons.mpr ⟨lw_p16, List.forall_mem_cons.mpr ⟨lw_p17, List.forall_mem_cons.mpr ⟨lw_p18, List.forall_mem_cons.mpr ⟨lw_p19, List.forall_mem_cons.mpr ⟨lw_p20, List.forall_mem_cons.mpr ⟨lw_p21, List.forall_mem_cons.mpr ⟨lw_p22, List.forall_mem_cons.mpr ⟨lw_p23, List.forall_mem_cons.mpr ⟨lw_p24, List.forall_mem_cons.mpr ⟨lw_p25, List.forall_mem_cons.mpr ⟨lw_p26, List.forall_mem_cons.mpr ⟨lw_p27, List.forall_mem_cons.mpr ⟨lw_p28, List.forall_mem_cons.mpr ⟨lw_p29, List.forall_mem_cons.mpr ⟨lw_p30, List.forall_mem_cons.mpr ⟨lw_p31, fun _ h => absurd h List.not_mem_nil⟩⟩⟩⟩⟩⟩⟩⟩⟩⟩⟩⟩⟩⟩⟩⟩
theorem lw_p32 : lw_okq (⟨"HullSumsModel", "findCircle", "()Z"⟩, 23) := ⟨⟨by decide +kernel, by decide +kernel⟩, List.mem_of_getElem? (i := 460) (by decide +kernel), List.mem_of_getElem? (i := 671) (by decide +kernel), List.mem_of_getElem? (i := 672) (by decide +kernel)⟩
theorem lw_p33 : lw_okq (⟨"HullSumsModel", "isAcross", "(II)Z"⟩, 23) := ⟨⟨by decide +kernel, by decide +kernel⟩, List.mem_of_getElem? (i := 460) (by decide +kernel), List.mem_of_getElem? (i := 675) (by decide +kernel), List.mem_of_getElem? (i := 676) (by decide +kernel)⟩
theorem lw_p34 : lw_okq (⟨"HullSumsModel", "isRound", "(III)Z"⟩, 23) := ⟨⟨by decide +kernel, by decide +kernel⟩, List.mem_of_getElem? (i := 460) (by decide +kernel), List.mem_of_getElem? (i := 680) (by decide +kernel), List.mem_of_getElem? (i := 681) (by decide +kernel)⟩
theorem lw_p35 : lw_okq (⟨"HullSumsModel", "isSharp", "(III)Z"⟩, 23) := ⟨⟨by decide +kernel, by decide +kernel⟩, List.mem_of_getElem? (i := 460) (by decide +kernel), List.mem_of_getElem? (i := 684) (by decide +kernel), List.mem_of_getElem? (i := 685) (by decide +kernel)⟩
theorem lw_p36 : lw_okq (⟨"HullSumsModel", "wrong", "(II)I"⟩, 23) := ⟨⟨by decide +kernel, by decide +kernel⟩, List.mem_of_getElem? (i := 460) (by decide +kernel), List.mem_of_getElem? (i := 692) (by decide +kernel), List.mem_of_getElem? (i := 693) (by decide +kernel)⟩
theorem lw_p37 : lw_okq (⟨"HullSumsModel", "loadBoth", "(III)V"⟩, 23) := ⟨⟨by decide +kernel, by decide +kernel⟩, List.mem_of_getElem? (i := 460) (by decide +kernel), List.mem_of_getElem? (i := 696) (by decide +kernel), List.mem_of_getElem? (i := 697) (by decide +kernel)⟩
theorem lw_p38 : lw_okq (⟨"HullSumsModel", "keep", "()I"⟩, 23) := ⟨⟨by decide +kernel, by decide +kernel⟩, List.mem_of_getElem? (i := 460) (by decide +kernel), List.mem_of_getElem? (i := 700) (by decide +kernel), List.mem_of_getElem? (i := 701) (by decide +kernel)⟩
theorem lw_p39 : lw_okq (⟨"HullSumsModel", "better", "(JJ)V"⟩, 23) := ⟨⟨by decide +kernel, by decide +kernel⟩, List.mem_of_getElem? (i := 460) (by decide +kernel), List.mem_of_getElem? (i := 716) (by decide +kernel), List.mem_of_getElem? (i := 717) (by decide +kernel)⟩
def lw_privs_3 : List (MethodName × Nat) := [(⟨"HullSumsModel", "findCircle", "()Z"⟩, 23), (⟨"HullSumsModel", "isAcross", "(II)Z"⟩, 23), (⟨"HullSumsModel", "isRound", "(III)Z"⟩, 23), (⟨"HullSumsModel", "isSharp", "(III)Z"⟩, 23), (⟨"HullSumsModel", "wrong", "(II)I"⟩, 23), (⟨"HullSumsModel", "loadBoth", "(III)V"⟩, 23), (⟨"HullSumsModel", "keep", "()I"⟩, 23), (⟨"HullSumsModel", "better", "(JJ)V"⟩, 23)]
theorem lw_r3 : ∀ q ∈ lw_privs_3, lw_okq q := List.forall_mem_cons.mpr ⟨lw_p32, List.forall_mem_cons.mpr ⟨lw_p33, List.forall_mem_cons.mpr ⟨lw_p34, List.forall_mem_cons.mpr ⟨lw_p35, List.forall_mem_cons.mpr ⟨lw_p36, List.forall_mem_cons.mpr ⟨lw_p37, List.forall_mem_cons.mpr ⟨lw_p38, List.forall_mem_cons.mpr ⟨lw_p39, fun _ h => absurd h List.not_mem_nil⟩⟩⟩⟩⟩⟩⟩⟩
def lw_privs : List (MethodName × Nat) := lw_privs_1 ++ (lw_privs_2 ++ (lw_privs_3))
def lw_tbl : List Cond := k2_sels lw_privs ++ tables_1
theorem lw_privs_ok : ∀ q ∈ lw_privs, lw_okq q := by
  show ∀ q ∈ lw_privs_1 ++ (lw_privs_2 ++ (lw_privs_3)), lw_okq q
  exact List.forall_mem_append.mpr ⟨lw_r1, List.forall_mem_append.mpr ⟨lw_r2, lw_r3⟩⟩
def T_R : u_T := fun k => match k with
  | 0 => ("HullSums$Row", "xs", "[I", true)
  | 1 => ("HullSums$Row", "ys", "[I", true)
  | _ => ("HullSums$Row", "size", "I", false)
def ty_R : Nat → FieldType := fun k => match k with
  | 0 => .array .int
  | 1 => .array .int
  | _ => .int
theorem nm_R : ∀ a, a < 3 → ∀ b, b < 3 → a ≠ b → (T_R a).2.1 ≠ (T_R b).2.1 := by decide +kernel
theorem tyok_R : ∀ k, k < 3 → parseFieldDescriptor (T_R k).2.2.1 = some (ty_R k) := by decide +kernel
def T_C : u_T := fun k => match k with
  | 0 => ("HullSums$Circle", "px", "J", false)
  | 1 => ("HullSums$Circle", "py", "J", false)
  | 2 => ("HullSums$Circle", "ux", "J", false)
  | 3 => ("HullSums$Circle", "uy", "J", false)
  | _ => ("HullSums$Circle", "under", "J", false)
def ty_C : Nat → FieldType := fun k => match k with
  | 0 => .long
  | 1 => .long
  | 2 => .long
  | 3 => .long
  | _ => .long
theorem nm_C : ∀ a, a < 5 → ∀ b, b < 5 → a ≠ b → (T_C a).2.1 ≠ (T_C b).2.1 := by decide +kernel
theorem tyok_C : ∀ k, k < 5 → parseFieldDescriptor (T_C k).2.2.1 = some (ty_C k) := by decide +kernel
def T_L : u_T := fun k => match k with
  | 0 => ("HullSums$Lowest", "over", "J", false)
  | 1 => ("HullSums$Lowest", "under", "J", false)
  | _ => ("HullSums$Lowest", "isSet", "Z", false)
def ty_L : Nat → FieldType := fun k => match k with
  | 0 => .long
  | 1 => .long
  | _ => .boolean
theorem nm_L : ∀ a, a < 3 → ∀ b, b < 3 → a ≠ b → (T_L a).2.1 ≠ (T_L b).2.1 := by decide +kernel
theorem tyok_L : ∀ k, k < 3 → parseFieldDescriptor (T_L k).2.2.1 = some (ty_L k) := by decide +kernel
def T_H : u_T := fun k => match k with
  | 0 => ("HullSums", "sets", "[LHullSums$Row;", true)
  | 1 => ("HullSums", "howMany", "I", false)
  | 2 => ("HullSums", "toldFirst", "J", false)
  | 3 => ("HullSums", "toldSecond", "J", false)
  | 4 => ("HullSums", "sorted", "LHullSums$Row;", true)
  | 5 => ("HullSums", "left", "LHullSums$Row;", true)
  | 6 => ("HullSums", "right", "LHullSums$Row;", true)
  | 7 => ("HullSums", "sums", "LHullSums$Row;", true)
  | 8 => ("HullSums", "least", "LHullSums$Circle;", true)
  | _ => ("HullSums", "lowest", "LHullSums$Lowest;", true)
def ty_H : Nat → FieldType := fun k => match k with
  | 0 => .array (.object "HullSums$Row")
  | 1 => .int
  | 2 => .long
  | 3 => .long
  | 4 => .object "HullSums$Row"
  | 5 => .object "HullSums$Row"
  | 6 => .object "HullSums$Row"
  | 7 => .object "HullSums$Row"
  | 8 => .object "HullSums$Circle"
  | _ => .object "HullSums$Lowest"
theorem nm_H : ∀ a, a < 10 → ∀ b, b < 10 → a ≠ b → (T_H a).2.1 ≠ (T_H b).2.1 := by decide +kernel
theorem tyok_H : ∀ k, k < 10 → parseFieldDescriptor (T_H k).2.2.1 = some (ty_H k) := by decide +kernel
def T_M : u_T := fun k => match k with
  | 0 => ("HullSumsModel", "thrown", "I", false)
  | 1 => ("HullSumsModel", "sets", "I", false)
  | 2 => ("HullSumsModel", "xs", "[I", false)
  | 3 => ("HullSumsModel", "ys", "[I", false)
  | 4 => ("HullSumsModel", "sizes", "[I", false)
  | 5 => ("HullSumsModel", "wx", "[I", false)
  | 6 => ("HullSumsModel", "wy", "[I", false)
  | 7 => ("HullSumsModel", "looked", "I", false)
  | 8 => ("HullSumsModel", "hx", "[I", false)
  | 9 => ("HullSumsModel", "hy", "[I", false)
  | 10 => ("HullSumsModel", "found", "I", false)
  | 11 => ("HullSumsModel", "one", "J", false)
  | 12 => ("HullSumsModel", "two", "J", false)
  | 13 => ("HullSumsModel", "upper", "J", false)
  | 14 => ("HullSumsModel", "lower", "J", false)
  | 15 => ("HullSumsModel", "rowFrom", "J", false)
  | 16 => ("HullSumsModel", "rowTo", "J", false)
  | 17 => ("HullSumsModel", "reach", "J", false)
  | 18 => ("HullSumsModel", "middleX", "J", false)
  | 19 => ("HullSumsModel", "middleY", "J", false)
  | 20 => ("HullSumsModel", "middleBy", "J", false)
  | 21 => ("HullSumsModel", "radius", "J", false)
  | _ => ("HullSumsModel", "radiusBy", "J", false)
def ty_M : Nat → FieldType := fun k => match k with
  | 0 => .int
  | 1 => .int
  | 2 => .array .int
  | 3 => .array .int
  | 4 => .array .int
  | 5 => .array .int
  | 6 => .array .int
  | 7 => .int
  | 8 => .array .int
  | 9 => .array .int
  | 10 => .int
  | 11 => .long
  | 12 => .long
  | 13 => .long
  | 14 => .long
  | 15 => .long
  | 16 => .long
  | 17 => .long
  | 18 => .long
  | 19 => .long
  | 20 => .long
  | 21 => .long
  | _ => .long
theorem nm_M : ∀ a, a < 23 → ∀ b, b < 23 → a ≠ b → (T_M a).2.1 ≠ (T_M b).2.1 := by decide +kernel
theorem tyok_M : ∀ k, k < 23 → parseFieldDescriptor (T_M k).2.2.1 = some (ty_M k) := by decide +kernel
/-- the classes: 0 HullSums, 1 Row, 2 Circle, 3 Lowest, 4 the reference -/
abbrev cls5 : List vw_C := [("HullSums", T_H, 10), ("HullSums$Row", T_R, 3), ("HullSums$Circle", T_C, 5), ("HullSums$Lowest", T_L, 3), ("HullSumsModel", T_M, 23)]
def y_H_init : MethodName := ⟨"HullSums", "<init>", "()V"⟩
abbrev b_H_init : ByteArray := prog_1_method_1_code
def y_H_clear : MethodName := ⟨"HullSums", "clear", "()V"⟩
abbrev b_H_clear : ByteArray := prog_1_method_2_code
def y_H_set : MethodName := ⟨"HullSums", "set", "()I"⟩
abbrev b_H_set : ByteArray := prog_1_method_3_code
def y_H_point : MethodName := ⟨"HullSums", "point", "(III)I"⟩
abbrev b_H_point : ByteArray := prog_1_method_4_code
def y_H_points : MethodName := ⟨"HullSums", "points", "(I)I"⟩
abbrev b_H_points : ByteArray := prog_1_method_5_code
def y_H_kind : MethodName := ⟨"HullSums", "kind", "(I)I"⟩
abbrev b_H_kind : ByteArray := prog_1_method_6_code
def y_H_corners : MethodName := ⟨"HullSums", "corners", "(I)I"⟩
abbrev b_H_corners : ByteArray := prog_1_method_7_code
def y_H_corner : MethodName := ⟨"HullSums", "corner", "(II)I"⟩
abbrev b_H_corner : ByteArray := prog_1_method_8_code
def y_H_beside : MethodName := ⟨"HullSums", "beside", "(I)I"⟩
abbrev b_H_beside : ByteArray := prog_1_method_9_code
def y_H_area : MethodName := ⟨"HullSums", "area", "(I)I"⟩
abbrev b_H_area : ByteArray := prog_1_method_10_code
def y_H_border : MethodName := ⟨"HullSums", "border", "(I)I"⟩
abbrev b_H_border : ByteArray := prog_1_method_11_code
def y_H_inside : MethodName := ⟨"HullSums", "inside", "(I)I"⟩
abbrev b_H_inside : ByteArray := prog_1_method_12_code
def y_H_grown : MethodName := ⟨"HullSums", "grown", "(II)I"⟩
abbrev b_H_grown : ByteArray := prog_1_method_13_code
def y_H_wide : MethodName := ⟨"HullSums", "wide", "(I)I"⟩
abbrev b_H_wide : ByteArray := prog_1_method_14_code
def y_H_width : MethodName := ⟨"HullSums", "width", "(I)I"⟩
abbrev b_H_width : ByteArray := prog_1_method_15_code
def y_H_circle : MethodName := ⟨"HullSums", "circle", "(II)I"⟩
abbrev b_H_circle : ByteArray := prog_1_method_16_code
def y_H_sum : MethodName := ⟨"HullSums", "sum", "(II)I"⟩
abbrev b_H_sum : ByteArray := prog_1_method_17_code
def y_H_turned : MethodName := ⟨"HullSums", "turned", "(I)I"⟩
abbrev b_H_turned : ByteArray := prog_1_method_18_code
def y_H_meets : MethodName := ⟨"HullSums", "meets", "(II)I"⟩
abbrev b_H_meets : ByteArray := prog_1_method_19_code
def y_H_apart : MethodName := ⟨"HullSums", "apart", "(II)I"⟩
abbrev b_H_apart : ByteArray := prog_1_method_20_code
def y_H_holds : MethodName := ⟨"HullSums", "holds", "(III)I"⟩
abbrev b_H_holds : ByteArray := prog_1_method_21_code
def y_H_supports : MethodName := ⟨"HullSums", "supports", "(III)I"⟩
abbrev b_H_supports : ByteArray := prog_1_method_22_code
def y_H_mixed : MethodName := ⟨"HullSums", "mixed", "(II)I"⟩
abbrev b_H_mixed : ByteArray := prog_1_method_23_code
def y_H_nearest : MethodName := ⟨"HullSums", "nearest", "(I)I"⟩
abbrev b_H_nearest : ByteArray := prog_1_method_24_code
def y_H_within : MethodName := ⟨"HullSums", "within", "(II)I"⟩
abbrev b_H_within : ByteArray := prog_1_method_25_code
def y_H_first : MethodName := ⟨"HullSums", "first", "()J"⟩
abbrev b_H_first : ByteArray := prog_1_method_26_code
def y_H_second : MethodName := ⟨"HullSums", "second", "()J"⟩
abbrev b_H_second : ByteArray := prog_1_method_27_code
def y_H_told : MethodName := ⟨"HullSums", "told", "(I)I"⟩
abbrev b_H_told : ByteArray := prog_1_method_28_code
def y_H_rowOf : MethodName := ⟨"HullSums", "rowOf", "(I)LHullSums$Row;"⟩
abbrev b_H_rowOf : ByteArray := prog_1_method_29_code
def y_H_hullOf : MethodName := ⟨"HullSums", "hullOf", "(LHullSums$Row;)LHullSums$Row;"⟩
abbrev b_H_hullOf : ByteArray := prog_1_method_30_code
def y_H_fillSums : MethodName := ⟨"HullSums", "fillSums", "(III)I"⟩
abbrev b_H_fillSums : ByteArray := prog_1_method_31_code
def y_H_setOf : MethodName := ⟨"HullSums", "setOf", "(LHullSums$Row;)I"⟩
abbrev b_H_setOf : ByteArray := prog_1_method_32_code
def y_H_takeDistancesFromZero : MethodName := ⟨"HullSums", "takeDistancesFromZero", "(LHullSums$Row;)V"⟩
abbrev b_H_takeDistancesFromZero : ByteArray := prog_1_method_33_code
def y_H_tell : MethodName := ⟨"HullSums", "tell", "(JJ)V"⟩
abbrev b_H_tell : ByteArray := prog_1_method_34_code
def y_H_tellFraction : MethodName := ⟨"HullSums", "tellFraction", "(JJ)V"⟩
abbrev b_H_tellFraction : ByteArray := prog_1_method_35_code
def y_H_isNear : MethodName := ⟨"HullSums", "isNear", "(II)Z"⟩
abbrev b_H_isNear : ByteArray := prog_1_method_36_code
def y_H_commonDivisor : MethodName := ⟨"HullSums", "commonDivisor", "(JJ)J"⟩
abbrev b_H_commonDivisor : ByteArray := prog_1_method_37_code
def y_M_init : MethodName := ⟨"HullSumsModel", "<init>", "()V"⟩
abbrev b_M_init : ByteArray := prog_6_method_1_code
def y_M_clear : MethodName := ⟨"HullSumsModel", "clear", "()V"⟩
abbrev b_M_clear : ByteArray := prog_6_method_3_code
def y_M_is : MethodName := ⟨"HullSumsModel", "is", "(I)Z"⟩
abbrev b_M_is : ByteArray := prog_6_method_4_code
def y_M_in : MethodName := ⟨"HullSumsModel", "in", "(III)Z"⟩
abbrev b_M_in : ByteArray := prog_6_method_5_code
def y_M_load : MethodName := ⟨"HullSumsModel", "load", "(I)V"⟩
abbrev b_M_load : ByteArray := prog_6_method_6_code
def y_M_loadBoth : MethodName := ⟨"HullSumsModel", "loadBoth", "(III)V"⟩
abbrev b_M_loadBoth : ByteArray := prog_6_method_7_code
def y_M_turn : MethodName := ⟨"HullSumsModel", "turn", "(JJJJJJ)J"⟩
abbrev b_M_turn : ByteArray := prog_6_method_8_code
def y_M_square : MethodName := ⟨"HullSumsModel", "square", "(JJJJ)J"⟩
abbrev b_M_square : ByteArray := prog_6_method_9_code
def y_M_goRound : MethodName := ⟨"HullSumsModel", "goRound", "()V"⟩
abbrev b_M_goRound : ByteArray := prog_6_method_10_code
def y_M_nextOf : MethodName := ⟨"HullSumsModel", "nextOf", "(I)I"⟩
abbrev b_M_nextOf : ByteArray := prog_6_method_11_code
def y_M_after : MethodName := ⟨"HullSumsModel", "after", "(I)I"⟩
abbrev b_M_after : ByteArray := prog_6_method_12_code
def y_M_areaOf : MethodName := ⟨"HullSumsModel", "areaOf", "()J"⟩
abbrev b_M_areaOf : ByteArray := prog_6_method_13_code
def y_M_isOn : MethodName := ⟨"HullSumsModel", "isOn", "(IJJ)Z"⟩
abbrev b_M_isOn : ByteArray := prog_6_method_14_code
def y_M_placeOf : MethodName := ⟨"HullSumsModel", "placeOf", "(JJ)I"⟩
abbrev b_M_placeOf : ByteArray := prog_6_method_15_code
def y_M_common : MethodName := ⟨"HullSumsModel", "common", "(JJ)J"⟩
abbrev b_M_common : ByteArray := prog_6_method_16_code
def y_M_tell : MethodName := ⟨"HullSumsModel", "tell", "(JJ)V"⟩
abbrev b_M_tell : ByteArray := prog_6_method_17_code
def y_M_set : MethodName := ⟨"HullSumsModel", "set", "()I"⟩
abbrev b_M_set : ByteArray := prog_6_method_18_code
def y_M_point : MethodName := ⟨"HullSumsModel", "point", "(III)I"⟩
abbrev b_M_point : ByteArray := prog_6_method_19_code
def y_M_points : MethodName := ⟨"HullSumsModel", "points", "(I)I"⟩
abbrev b_M_points : ByteArray := prog_6_method_20_code
def y_M_kind : MethodName := ⟨"HullSumsModel", "kind", "(I)I"⟩
abbrev b_M_kind : ByteArray := prog_6_method_21_code
def y_M_corners : MethodName := ⟨"HullSumsModel", "corners", "(I)I"⟩
abbrev b_M_corners : ByteArray := prog_6_method_22_code
def y_M_corner : MethodName := ⟨"HullSumsModel", "corner", "(II)I"⟩
abbrev b_M_corner : ByteArray := prog_6_method_23_code
def y_M_beside : MethodName := ⟨"HullSumsModel", "beside", "(I)I"⟩
abbrev b_M_beside : ByteArray := prog_6_method_24_code
def y_M_area : MethodName := ⟨"HullSumsModel", "area", "(I)I"⟩
abbrev b_M_area : ByteArray := prog_6_method_25_code
def y_M_borderOf : MethodName := ⟨"HullSumsModel", "borderOf", "()I"⟩
abbrev b_M_borderOf : ByteArray := prog_6_method_26_code
def y_M_part : MethodName := ⟨"HullSumsModel", "part", "(JJZ)J"⟩
abbrev b_M_part : ByteArray := prog_6_method_27_code
def y_M_row : MethodName := ⟨"HullSumsModel", "row", "(IJI)V"⟩
abbrev b_M_row : ByteArray := prog_6_method_28_code
def y_M_see : MethodName := ⟨"HullSumsModel", "see", "(JJ)V"⟩
abbrev b_M_see : ByteArray := prog_6_method_29_code
def y_M_allPoints : MethodName := ⟨"HullSumsModel", "allPoints", "(I)I"⟩
abbrev b_M_allPoints : ByteArray := prog_6_method_30_code
def y_M_border : MethodName := ⟨"HullSumsModel", "border", "(I)I"⟩
abbrev b_M_border : ByteArray := prog_6_method_31_code
def y_M_inside : MethodName := ⟨"HullSumsModel", "inside", "(I)I"⟩
abbrev b_M_inside : ByteArray := prog_6_method_32_code
def y_M_grown : MethodName := ⟨"HullSumsModel", "grown", "(II)I"⟩
abbrev b_M_grown : ByteArray := prog_6_method_33_code
def y_M_wide : MethodName := ⟨"HullSumsModel", "wide", "(I)I"⟩
abbrev b_M_wide : ByteArray := prog_6_method_34_code
def y_M_width : MethodName := ⟨"HullSumsModel", "width", "(I)I"⟩
abbrev b_M_width : ByteArray := prog_6_method_35_code
def y_M_spread : MethodName := ⟨"HullSumsModel", "spread", "(II)V"⟩
abbrev b_M_spread : ByteArray := prog_6_method_36_code
def y_M_isAcross : MethodName := ⟨"HullSumsModel", "isAcross", "(II)Z"⟩
abbrev b_M_isAcross : ByteArray := prog_6_method_37_code
def y_M_isSharp : MethodName := ⟨"HullSumsModel", "isSharp", "(III)Z"⟩
abbrev b_M_isSharp : ByteArray := prog_6_method_38_code
def y_M_isRound : MethodName := ⟨"HullSumsModel", "isRound", "(III)Z"⟩
abbrev b_M_isRound : ByteArray := prog_6_method_39_code
def y_M_findCircle : MethodName := ⟨"HullSumsModel", "findCircle", "()Z"⟩
abbrev b_M_findCircle : ByteArray := prog_6_method_40_code
def y_M_circle : MethodName := ⟨"HullSumsModel", "circle", "(II)I"⟩
abbrev b_M_circle : ByteArray := prog_6_method_41_code
def y_M_keep : MethodName := ⟨"HullSumsModel", "keep", "()I"⟩
abbrev b_M_keep : ByteArray := prog_6_method_42_code
def y_M_wrong : MethodName := ⟨"HullSumsModel", "wrong", "(II)I"⟩
abbrev b_M_wrong : ByteArray := prog_6_method_43_code
def y_M_sum : MethodName := ⟨"HullSumsModel", "sum", "(II)I"⟩
abbrev b_M_sum : ByteArray := prog_6_method_44_code
def y_M_turned : MethodName := ⟨"HullSumsModel", "turned", "(I)I"⟩
abbrev b_M_turned : ByteArray := prog_6_method_45_code
def y_M_meets : MethodName := ⟨"HullSumsModel", "meets", "(II)I"⟩
abbrev b_M_meets : ByteArray := prog_6_method_46_code
def y_M_apart : MethodName := ⟨"HullSumsModel", "apart", "(II)I"⟩
abbrev b_M_apart : ByteArray := prog_6_method_47_code
def y_M_better : MethodName := ⟨"HullSumsModel", "better", "(JJ)V"⟩
abbrev b_M_better : ByteArray := prog_6_method_48_code
def y_M_mixed : MethodName := ⟨"HullSumsModel", "mixed", "(II)I"⟩
abbrev b_M_mixed : ByteArray := prog_6_method_49_code
def y_M_holds : MethodName := ⟨"HullSumsModel", "holds", "(III)I"⟩
abbrev b_M_holds : ByteArray := prog_6_method_50_code
def y_M_supports : MethodName := ⟨"HullSumsModel", "supports", "(III)I"⟩
abbrev b_M_supports : ByteArray := prog_6_method_51_code
def y_M_nearest : MethodName := ⟨"HullSumsModel", "nearest", "(I)I"⟩
abbrev b_M_nearest : ByteArray := prog_6_method_52_code
def y_M_within : MethodName := ⟨"HullSumsModel", "within", "(II)I"⟩
abbrev b_M_within : ByteArray := prog_6_method_53_code
def y_M_first : MethodName := ⟨"HullSumsModel", "first", "()J"⟩
abbrev b_M_first : ByteArray := prog_6_method_54_code
def y_M_second : MethodName := ⟨"HullSumsModel", "second", "()J"⟩
abbrev b_M_second : ByteArray := prog_6_method_55_code
def y_M_told : MethodName := ⟨"HullSumsModel", "told", "(I)I"⟩
abbrev b_M_told : ByteArray := prog_6_method_56_code
def y_C_init : MethodName := ⟨"HullSums$Circle", "<init>", "()V"⟩
abbrev b_C_init : ByteArray := prog_2_method_1_code
def y_C_enclose : MethodName := ⟨"HullSums$Circle", "enclose", "(LHullSums$Row;)V"⟩
abbrev b_C_enclose : ByteArray := prog_2_method_2_code
def y_C_encloseThrough : MethodName := ⟨"HullSums$Circle", "encloseThrough", "(LHullSums$Row;I)V"⟩
abbrev b_C_encloseThrough : ByteArray := prog_2_method_3_code
def y_C_encloseThroughBoth : MethodName := ⟨"HullSums$Circle", "encloseThroughBoth", "(LHullSums$Row;II)V"⟩
abbrev b_C_encloseThroughBoth : ByteArray := prog_2_method_4_code
def y_C_has : MethodName := ⟨"HullSums$Circle", "has", "(LHullSums$Row;I)Z"⟩
abbrev b_C_has : ByteArray := prog_2_method_5_code
def y_C_shrinkTo : MethodName := ⟨"HullSums$Circle", "shrinkTo", "(LHullSums$Row;I)V"⟩
abbrev b_C_shrinkTo : ByteArray := prog_2_method_6_code
def y_C_spanAcross : MethodName := ⟨"HullSums$Circle", "spanAcross", "(LHullSums$Row;II)V"⟩
abbrev b_C_spanAcross : ByteArray := prog_2_method_7_code
def y_C_passThrough : MethodName := ⟨"HullSums$Circle", "passThrough", "(LHullSums$Row;III)V"⟩
abbrev b_C_passThrough : ByteArray := prog_2_method_8_code
def y_C_middleX : MethodName := ⟨"HullSums$Circle", "middleX", "()J"⟩
abbrev b_C_middleX : ByteArray := prog_2_method_9_code
def y_C_middleY : MethodName := ⟨"HullSums$Circle", "middleY", "()J"⟩
abbrev b_C_middleY : ByteArray := prog_2_method_10_code
def y_C_middleUnder : MethodName := ⟨"HullSums$Circle", "middleUnder", "()J"⟩
abbrev b_C_middleUnder : ByteArray := prog_2_method_11_code
def y_C_squareOver : MethodName := ⟨"HullSums$Circle", "squareOver", "()J"⟩
abbrev b_C_squareOver : ByteArray := prog_2_method_12_code
def y_C_squareUnder : MethodName := ⟨"HullSums$Circle", "squareUnder", "()J"⟩
abbrev b_C_squareUnder : ByteArray := prog_2_method_13_code
def y_L_init : MethodName := ⟨"HullSums$Lowest", "<init>", "()V"⟩
abbrev b_L_init : ByteArray := prog_3_method_1_code
def y_L_forget : MethodName := ⟨"HullSums$Lowest", "forget", "()V"⟩
abbrev b_L_forget : ByteArray := prog_3_method_2_code
def y_L_take : MethodName := ⟨"HullSums$Lowest", "take", "(JJ)V"⟩
abbrev b_L_take : ByteArray := prog_3_method_3_code
def y_L_over : MethodName := ⟨"HullSums$Lowest", "over", "()J"⟩
abbrev b_L_over : ByteArray := prog_3_method_4_code
def y_L_under : MethodName := ⟨"HullSums$Lowest", "under", "()J"⟩
abbrev b_L_under : ByteArray := prog_3_method_5_code
def y_R_init : MethodName := ⟨"HullSums$Row", "<init>", "()V"⟩
abbrev b_R_init : ByteArray := prog_4_method_1_code
def y_R_size : MethodName := ⟨"HullSums$Row", "size", "()I"⟩
abbrev b_R_size : ByteArray := prog_4_method_2_code
def y_R_x : MethodName := ⟨"HullSums$Row", "x", "(I)I"⟩
abbrev b_R_x : ByteArray := prog_4_method_3_code
def y_R_y : MethodName := ⟨"HullSums$Row", "y", "(I)I"⟩
abbrev b_R_y : ByteArray := prog_4_method_4_code
def y_R_empty : MethodName := ⟨"HullSums$Row", "empty", "()V"⟩
abbrev b_R_empty : ByteArray := prog_4_method_5_code
def y_R_add : MethodName := ⟨"HullSums$Row", "add", "(II)V"⟩
abbrev b_R_add : ByteArray := prog_4_method_6_code
def y_R_dropLast : MethodName := ⟨"HullSums$Row", "dropLast", "()V"⟩
abbrev b_R_dropLast : ByteArray := prog_4_method_7_code
def y_R_has : MethodName := ⟨"HullSums$Row", "has", "(II)Z"⟩
abbrev b_R_has : ByteArray := prog_4_method_8_code
def y_R_isWithin : MethodName := ⟨"HullSums$Row", "isWithin", "(I)Z"⟩
abbrev b_R_isWithin : ByteArray := prog_4_method_9_code
def y_R_addSorted : MethodName := ⟨"HullSums$Row", "addSorted", "(II)V"⟩
abbrev b_R_addSorted : ByteArray := prog_4_method_10_code
def y_R_squareBetween : MethodName := ⟨"HullSums$Row", "squareBetween", "(II)I"⟩
abbrev b_R_squareBetween : ByteArray := prog_4_method_11_code
def y_R_squareFromZero : MethodName := ⟨"HullSums$Row", "squareFromZero", "(I)I"⟩
abbrev b_R_squareFromZero : ByteArray := prog_4_method_12_code
def y_R_becomeHull : MethodName := ⟨"HullSums$Row", "becomeHull", "(LHullSums$Row;ILHullSums$Row;)V"⟩
abbrev b_R_becomeHull : ByteArray := prog_4_method_13_code
def y_R_addCorner : MethodName := ⟨"HullSums$Row", "addCorner", "(III)V"⟩
abbrev b_R_addCorner : ByteArray := prog_4_method_14_code
def y_R_turn : MethodName := ⟨"HullSums$Row", "turn", "(IIII)I"⟩
abbrev b_R_turn : ByteArray := prog_4_method_15_code
def y_R_sides : MethodName := ⟨"HullSums$Row", "sides", "()I"⟩
abbrev b_R_sides : ByteArray := prog_4_method_16_code
def y_R_next : MethodName := ⟨"HullSums$Row", "next", "(I)I"⟩
abbrev b_R_next : ByteArray := prog_4_method_17_code
def y_R_sideX : MethodName := ⟨"HullSums$Row", "sideX", "(I)I"⟩
abbrev b_R_sideX : ByteArray := prog_4_method_18_code
def y_R_sideY : MethodName := ⟨"HullSums$Row", "sideY", "(I)I"⟩
abbrev b_R_sideY : ByteArray := prog_4_method_19_code
def y_R_squareOfSide : MethodName := ⟨"HullSums$Row", "squareOfSide", "(I)I"⟩
abbrev b_R_squareOfSide : ByteArray := prog_4_method_20_code
def y_R_offSide : MethodName := ⟨"HullSums$Row", "offSide", "(III)I"⟩
abbrev b_R_offSide : ByteArray := prog_4_method_21_code
def y_R_reachFromSide : MethodName := ⟨"HullSums$Row", "reachFromSide", "(I)I"⟩
abbrev b_R_reachFromSide : ByteArray := prog_4_method_22_code
def y_R_sideFacesZero : MethodName := ⟨"HullSums$Row", "sideFacesZero", "(I)Z"⟩
abbrev b_R_sideFacesZero : ByteArray := prog_4_method_23_code
def y_R_place : MethodName := ⟨"HullSums$Row", "place", "(II)I"⟩
abbrev b_R_place : ByteArray := prog_4_method_24_code
def y_R_isOnThin : MethodName := ⟨"HullSums$Row", "isOnThin", "(II)Z"⟩
abbrev b_R_isOnThin : ByteArray := prog_4_method_25_code
def y_R_doubleArea : MethodName := ⟨"HullSums$Row", "doubleArea", "()I"⟩
abbrev b_R_doubleArea : ByteArray := prog_4_method_26_code
def y_R_gridSteps : MethodName := ⟨"HullSums$Row", "gridSteps", "()I"⟩
abbrev b_R_gridSteps : ByteArray := prog_4_method_27_code
def y_R_gridOnBorder : MethodName := ⟨"HullSums$Row", "gridOnBorder", "()I"⟩
abbrev b_R_gridOnBorder : ByteArray := prog_4_method_28_code
def y_R_gridWhenGrown : MethodName := ⟨"HullSums$Row", "gridWhenGrown", "(I)I"⟩
abbrev b_R_gridWhenGrown : ByteArray := prog_4_method_29_code
def y_R_becomeSums : MethodName := ⟨"HullSums$Row", "becomeSums", "(LHullSums$Row;LHullSums$Row;)V"⟩
abbrev b_R_becomeSums : ByteArray := prog_4_method_30_code
def y_R_orderOfSides : MethodName := ⟨"HullSums$Row", "orderOfSides", "(LHullSums$Row;ILHullSums$Row;I)I"⟩
abbrev b_R_orderOfSides : ByteArray := prog_4_method_31_code
def y_R_goesBack : MethodName := ⟨"HullSums$Row", "goesBack", "(II)Z"⟩
abbrev b_R_goesBack : ByteArray := prog_4_method_32_code
theorem tw_1 {w : Cond} (k : Nat) (h : tables_1_1[k]? = some w) (hg : goodWord w = true := by rfl) : w ∈ lw_tbl.filter goodWord := List.mem_filter.mpr ⟨List.mem_append_right _ (List.mem_append_left _ (List.mem_of_getElem? h)), hg⟩
theorem tw_2 {w : Cond} (k : Nat) (h : tables_1_2[k]? = some w) (hg : goodWord w = true := by rfl) : w ∈ lw_tbl.filter goodWord := List.mem_filter.mpr ⟨List.mem_append_right _ (List.mem_append_right _ (List.mem_append_left _ (List.mem_of_getElem? h))), hg⟩
theorem tw_3 {w : Cond} (k : Nat) (h : tables_1_3[k]? = some w) (hg : goodWord w = true := by rfl) : w ∈ lw_tbl.filter goodWord := List.mem_filter.mpr ⟨List.mem_append_right _ (List.mem_append_right _ (List.mem_append_right _ (List.mem_append_left _ (List.mem_of_getElem? h)))), hg⟩
theorem tw_4 {w : Cond} (k : Nat) (h : tables_1_4[k]? = some w) (hg : goodWord w = true := by rfl) : w ∈ lw_tbl.filter goodWord := List.mem_filter.mpr ⟨List.mem_append_right _ (List.mem_append_right _ (List.mem_append_right _ (List.mem_append_right _ (List.mem_of_getElem? h)))), hg⟩
