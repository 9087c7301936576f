section
-- ===== PART A: goes FIRST, ahead of the names: the tables' words, and 'selects' of the private methods out of them =====
/-- a private method of a class that the tables say can be made, by its rows of tables_1 -/
def lw_okq (q : MethodName × Nat) : Prop := (q.1.cls ≠ "java/lang/invoke/MethodHandle" ∧ q.1.cls ≠ "java/lang/invoke/VarHandle") ∧ Cond.instantiable q.1.cls q.2 ∈ tables_1 ∧ Cond.privateMethod q.1 ∈ tables_1 ∧ Cond.instanceMethod q.1 ∈ tables_1
theorem lw_p0 : lw_okq (⟨"HullSums", "tell", "(JJ)V"⟩, 10) := ⟨⟨by decide +kernel, by decide +kernel⟩, List.mem_of_getElem? (i := 8) (by decide +kernel), List.mem_of_getElem? (i := 107) (by decide +kernel), List.mem_of_getElem? (i := 108) (by decide +kernel)⟩
theorem lw_p1 : lw_okq (⟨"HullSums", "rowOf", "(I)LHullSums$Row;"⟩, 10) := ⟨⟨by decide +kernel, by decide +kernel⟩, List.mem_of_getElem? (i := 8) (by decide +kernel), List.mem_of_getElem? (i := 115) (by decide +kernel), List.mem_of_getElem? (i := 116) (by decide +kernel)⟩
theorem lw_p2 : lw_okq (⟨"HullSums", "hullOf", "(LHullSums$Row;)LHullSums$Row;"⟩, 10) := ⟨⟨by decide +kernel, by decide +kernel⟩, List.mem_of_getElem? (i := 8) (by decide +kernel), List.mem_of_getElem? (i := 158) (by decide +kernel), List.mem_of_getElem? (i := 159) (by decide +kernel)⟩
theorem lw_p3 : lw_okq (⟨"HullSums$Row", "addCorner", "(III)V"⟩, 3) := ⟨⟨by decide +kernel, by decide +kernel⟩, List.mem_of_getElem? (i := 17) (by decide +kernel), List.mem_of_getElem? (i := 172) (by decide +kernel), List.mem_of_getElem? (i := 173) (by decide +kernel)⟩
theorem lw_p4 : lw_okq (⟨"HullSums$Row", "turn", "(IIII)I"⟩, 3) := ⟨⟨by decide +kernel, by decide +kernel⟩, List.mem_of_getElem? (i := 17) (by decide +kernel), List.mem_of_getElem? (i := 176) (by decide +kernel), List.mem_of_getElem? (i := 177) (by decide +kernel)⟩
theorem lw_p5 : lw_okq (⟨"HullSums$Row", "isOnThin", "(II)Z"⟩, 3) := ⟨⟨by decide +kernel, by decide +kernel⟩, List.mem_of_getElem? (i := 17) (by decide +kernel), List.mem_of_getElem? (i := 206) (by decide +kernel), List.mem_of_getElem? (i := 207) (by decide +kernel)⟩
theorem lw_p6 : lw_okq (⟨"HullSums$Row", "next", "(I)I"⟩, 3) := ⟨⟨by decide +kernel, by decide +kernel⟩, List.mem_of_getElem? (i := 17) (by decide +kernel), List.mem_of_getElem? (i := 218) (by decide +kernel), List.mem_of_getElem? (i := 219) (by decide +kernel)⟩
theorem lw_p7 : lw_okq (⟨"HullSums$Row", "gridSteps", "()I"⟩, 3) := ⟨⟨by decide +kernel, by decide +kernel⟩, List.mem_of_getElem? (i := 17) (by decide +kernel), List.mem_of_getElem? (i := 238) (by decide +kernel), List.mem_of_getElem? (i := 239) (by decide +kernel)⟩
theorem lw_p8 : lw_okq (⟨"HullSums", "tellFraction", "(JJ)V"⟩, 10) := ⟨⟨by decide +kernel, by decide +kernel⟩, List.mem_of_getElem? (i := 8) (by decide +kernel), List.mem_of_getElem? (i := 312) (by decide +kernel), List.mem_of_getElem? (i := 313) (by decide +kernel)⟩
theorem lw_p9 : lw_okq (⟨"HullSums$Circle", "shrinkTo", "(LHullSums$Row;I)V"⟩, 5) := ⟨⟨by decide +kernel, by decide +kernel⟩, List.mem_of_getElem? (i := 34) (by decide +kernel), List.mem_of_getElem? (i := 325) (by decide +kernel), List.mem_of_getElem? (i := 326) (by decide +kernel)⟩
theorem lw_p10 : lw_okq (⟨"HullSums$Circle", "has", "(LHullSums$Row;I)Z"⟩, 5) := ⟨⟨by decide +kernel, by decide +kernel⟩, List.mem_of_getElem? (i := 34) (by decide +kernel), List.mem_of_getElem? (i := 332) (by decide +kernel), List.mem_of_getElem? (i := 333) (by decide +kernel)⟩
theorem lw_p11 : lw_okq (⟨"HullSums$Circle", "encloseThrough", "(LHullSums$Row;I)V"⟩, 5) := ⟨⟨by decide +kernel, by decide +kernel⟩, List.mem_of_getElem? (i := 34) (by decide +kernel), List.mem_of_getElem? (i := 337) (by decide +kernel), List.mem_of_getElem? (i := 338) (by decide +kernel)⟩
theorem lw_p12 : lw_okq (⟨"HullSums$Circle", "encloseThroughBoth", "(LHullSums$Row;II)V"⟩, 5) := ⟨⟨by decide +kernel, by decide +kernel⟩, List.mem_of_getElem? (i := 34) (by decide +kernel), List.mem_of_getElem? (i := 341) (by decide +kernel), List.mem_of_getElem? (i := 342) (by decide +kernel)⟩
theorem lw_p13 : lw_okq (⟨"HullSums$Circle", "spanAcross", "(LHullSums$Row;II)V"⟩, 5) := ⟨⟨by decide +kernel, by decide +kernel⟩, List.mem_of_getElem? (i := 34) (by decide +kernel), List.mem_of_getElem? (i := 345) (by decide +kernel), List.mem_of_getElem? (i := 346) (by decide +kernel)⟩
theorem lw_p14 : lw_okq (⟨"HullSums$Circle", "passThrough", "(LHullSums$Row;III)V"⟩, 5) := ⟨⟨by decide +kernel, by decide +kernel⟩, List.mem_of_getElem? (i := 34) (by decide +kernel), List.mem_of_getElem? (i := 349) (by decide +kernel), List.mem_of_getElem? (i := 350) (by decide +kernel)⟩
theorem lw_p15 : lw_okq (⟨"HullSums", "fillSums", "(III)I"⟩, 10) := ⟨⟨by decide +kernel, by decide +kernel⟩, List.mem_of_getElem? (i := 8) (by decide +kernel), List.mem_of_getElem? (i := 378) (by decide +kernel), List.mem_of_getElem? (i := 379) (by decide +kernel)⟩
def lw_privs_1 : List (MethodName × Nat) := [(⟨"HullSums", "tell", "(JJ)V"⟩, 10), (⟨"HullSums", "rowOf", "(I)LHullSums$Row;"⟩, 10), (⟨"HullSums", "hullOf", "(LHullSums$Row;)LHullSums$Row;"⟩, 10), (⟨"HullSums$Row", "addCorner", "(III)V"⟩, 3), (⟨"HullSums$Row", "turn", "(IIII)I"⟩, 3), (⟨"HullSums$Row", "isOnThin", "(II)Z"⟩, 3), (⟨"HullSums$Row", "next", "(I)I"⟩, 3), (⟨"HullSums$Row", "gridSteps", "()I"⟩, 3), (⟨"HullSums", "tellFraction", "(JJ)V"⟩, 10), (⟨"HullSums$Circle", "shrinkTo", "(LHullSums$Row;I)V"⟩, 5), (⟨"HullSums$Circle", "has", "(LHullSums$Row;I)Z"⟩, 5), (⟨"HullSums$Circle", "encloseThrough", "(LHullSums$Row;I)V"⟩, 5), (⟨"HullSums$Circle", "encloseThroughBoth", "(LHullSums$Row;II)V"⟩, 5), (⟨"HullSums$Circle", "spanAcross", "(LHullSums$Row;II)V"⟩, 5), (⟨"HullSums$Circle", "passThrough", "(LHullSums$Row;III)V"⟩, 5), (⟨"HullSums", "fillSums", "(III)I"⟩, 10)]
theorem lw_r1 : ∀ q ∈ lw_privs_1, lw_okq q := List.forall_mem_cons.mpr ⟨lw_p0, List.forall_mem_cons.mpr ⟨lw_p1, List.forall_mem_cons.mpr ⟨lw_p2, List.forall_mem_cons.mpr ⟨lw_p3, List.forall_mem_cons.mpr ⟨lw_p4, List.forall_mem_cons.mpr ⟨lw_p5, List.forall_mem_cons.mpr ⟨lw_p6, List.forall_mem_cons.mpr ⟨lw_p7, List.forall_mem_cons.mpr ⟨lw_p8, List.forall_mem_cons.mpr ⟨lw_p9, List.forall_mem_cons.mpr ⟨lw_p10, List.forall_mem_cons.mpr ⟨lw_p11, List.forall_mem_cons.mpr ⟨lw_p12, List.forall_mem_cons.mpr ⟨lw_p13, List.forall_mem_cons.mpr ⟨lw_p14, List.forall_mem_cons.mpr ⟨lw_p15, fun _ h => absurd h List.not_mem_nil⟩⟩⟩⟩⟩⟩⟩⟩⟩⟩⟩⟩⟩⟩⟩⟩
theorem lw_p16 : lw_okq (⟨"HullSums", "setOf", "(LHullSums$Row;)I"⟩, 10) := ⟨⟨by decide +kernel, by decide +kernel⟩, List.mem_of_getElem? (i := 8) (by decide +kernel), List.mem_of_getElem? (i := 397) (by decide +kernel), List.mem_of_getElem? (i := 398) (by decide +kernel)⟩
theorem lw_p17 : lw_okq (⟨"HullSums", "takeDistancesFromZero", "(LHullSums$Row;)V"⟩, 10) := ⟨⟨by decide +kernel, by decide +kernel⟩, List.mem_of_getElem? (i := 8) (by decide +kernel), List.mem_of_getElem? (i := 414) (by decide +kernel), List.mem_of_getElem? (i := 415) (by decide +kernel)⟩
theorem lw_p18 : lw_okq (⟨"HullSumsModel", "is", "(I)Z"⟩, 23) := ⟨⟨by decide +kernel, by decide +kernel⟩, List.mem_of_getElem? (i := 460) (by decide +kernel), List.mem_of_getElem? (i := 548) (by decide +kernel), List.mem_of_getElem? (i := 549) (by decide +kernel)⟩
theorem lw_p19 : lw_okq (⟨"HullSumsModel", "load", "(I)V"⟩, 23) := ⟨⟨by decide +kernel, by decide +kernel⟩, List.mem_of_getElem? (i := 460) (by decide +kernel), List.mem_of_getElem? (i := 563) (by decide +kernel), List.mem_of_getElem? (i := 564) (by decide +kernel)⟩
theorem lw_p20 : lw_okq (⟨"HullSumsModel", "goRound", "()V"⟩, 23) := ⟨⟨by decide +kernel, by decide +kernel⟩, List.mem_of_getElem? (i := 460) (by decide +kernel), List.mem_of_getElem? (i := 567) (by decide +kernel), List.mem_of_getElem? (i := 568) (by decide +kernel)⟩
theorem lw_p21 : lw_okq (⟨"HullSumsModel", "nextOf", "(I)I"⟩, 23) := ⟨⟨by decide +kernel, by decide +kernel⟩, List.mem_of_getElem? (i := 460) (by decide +kernel), List.mem_of_getElem? (i := 571) (by decide +kernel), List.mem_of_getElem? (i := 572) (by decide +kernel)⟩
theorem lw_p22 : lw_okq (⟨"HullSumsModel", "placeOf", "(JJ)I"⟩, 23) := ⟨⟨by decide +kernel, by decide +kernel⟩, List.mem_of_getElem? (i := 460) (by decide +kernel), List.mem_of_getElem? (i := 593) (by decide +kernel), List.mem_of_getElem? (i := 594) (by decide +kernel)⟩
theorem lw_p23 : lw_okq (⟨"HullSumsModel", "isOn", "(IJJ)Z"⟩, 23) := ⟨⟨by decide +kernel, by decide +kernel⟩, List.mem_of_getElem? (i := 460) (by decide +kernel), List.mem_of_getElem? (i := 597) (by decide +kernel), List.mem_of_getElem? (i := 598) (by decide +kernel)⟩
theorem lw_p24 : lw_okq (⟨"HullSumsModel", "after", "(I)I"⟩, 23) := ⟨⟨by decide +kernel, by decide +kernel⟩, List.mem_of_getElem? (i := 460) (by decide +kernel), List.mem_of_getElem? (i := 601) (by decide +kernel), List.mem_of_getElem? (i := 602) (by decide +kernel)⟩
theorem lw_p25 : lw_okq (⟨"HullSumsModel", "areaOf", "()J"⟩, 23) := ⟨⟨by decide +kernel, by decide +kernel⟩, List.mem_of_getElem? (i := 460) (by decide +kernel), List.mem_of_getElem? (i := 609) (by decide +kernel), List.mem_of_getElem? (i := 610) (by decide +kernel)⟩
theorem lw_p26 : lw_okq (⟨"HullSumsModel", "borderOf", "()I"⟩, 23) := ⟨⟨by decide +kernel, by decide +kernel⟩, List.mem_of_getElem? (i := 460) (by decide +kernel), List.mem_of_getElem? (i := 617) (by decide +kernel), List.mem_of_getElem? (i := 618) (by decide +kernel)⟩
theorem lw_p27 : lw_okq (⟨"HullSumsModel", "allPoints", "(I)I"⟩, 23) := ⟨⟨by decide +kernel, by decide +kernel⟩, List.mem_of_getElem? (i := 460) (by decide +kernel), List.mem_of_getElem? (i := 629) (by decide +kernel), List.mem_of_getElem? (i := 630) (by decide +kernel)⟩
theorem lw_p28 : lw_okq (⟨"HullSumsModel", "row", "(IJI)V"⟩, 23) := ⟨⟨by decide +kernel, by decide +kernel⟩, List.mem_of_getElem? (i := 460) (by decide +kernel), List.mem_of_getElem? (i := 635) (by decide +kernel), List.mem_of_getElem? (i := 636) (by decide +kernel)⟩
theorem lw_p29 : lw_okq (⟨"HullSumsModel", "see", "(JJ)V"⟩, 23) := ⟨⟨by decide +kernel, by decide +kernel⟩, List.mem_of_getElem? (i := 460) (by decide +kernel), List.mem_of_getElem? (i := 639) (by decide +kernel), List.mem_of_getElem? (i := 640) (by decide +kernel)⟩
theorem lw_p30 : lw_okq (⟨"HullSumsModel", "spread", "(II)V"⟩, 23) := ⟨⟨by decide +kernel, by decide +kernel⟩, List.mem_of_getElem? (i := 460) (by decide +kernel), List.mem_of_getElem? (i := 658) (by decide +kernel), List.mem_of_getElem? (i := 659) (by decide +kernel)⟩
theorem lw_p31 : lw_okq (⟨"HullSumsModel", "tell", "(JJ)V"⟩, 23) := ⟨⟨by decide +kernel, by decide +kernel⟩, List.mem_of_getElem? (i := 460) (by decide +kernel), List.mem_of_getElem? (i := 662) (by decide +kernel), List.mem_of_getElem? (i := 663) (by decide +kernel)⟩
def lw_privs_2 : List (MethodName × Nat) := [(⟨"HullSums", "setOf", "(LHullSums$Row;)I"⟩, 10), (⟨"HullSums", "takeDistancesFromZero", "(LHullSums$Row;)V"⟩, 10), (⟨"HullSumsModel", "is", "(I)Z"⟩, 23), (⟨"HullSumsModel", "load", "(I)V"⟩, 23), (⟨"HullSumsModel", "goRound", "()V"⟩, 23), (⟨"HullSumsModel", "nextOf", "(I)I"⟩, 23), (⟨"HullSumsModel", "placeOf", "(JJ)I"⟩, 23), (⟨"HullSumsModel", "isOn", "(IJJ)Z"⟩, 23), (⟨"HullSumsModel", "after", "(I)I"⟩, 23), (⟨"HullSumsModel", "areaOf", "()J"⟩, 23), (⟨"HullSumsModel", "borderOf", "()I"⟩, 23), (⟨"HullSumsModel", "allPoints", "(I)I"⟩, 23), (⟨"HullSumsModel", "row", "(IJI)V"⟩, 23), (⟨"HullSumsModel", "see", "(JJ)V"⟩, 23), (⟨"HullSumsModel", "spread", "(II)V"⟩, 23), (⟨"HullSumsModel", "tell", "(JJ)V"⟩, 23)]
theorem lw_r2 : ∀ q ∈ lw_privs_2, lw_okq q := List.forall_mem_cons.mpr ⟨lw_p16, List.forall_mem_cons.mpr ⟨lw_p17, List.forall_mem_cons.mpr ⟨lw_p18, List.forall_mem_cons.mpr ⟨lw_p19, List.forall_mem_cons.mpr ⟨lw_p20, List.forall_mem_cons.mpr ⟨lw_p21, List.forall_mem_cons.mpr ⟨lw_p22, List.forall_mem_cons.mpr ⟨lw_p23, List.forall_mem_cons.mpr ⟨lw_p24, List.forall_mem_cons.mpr ⟨lw_p25, List.forall_mem_cons.mpr ⟨lw_p26, List.forall_mem_cons.mpr ⟨lw_p27, List.forall_mem_cons.mpr ⟨lw_p28, List.forall_mem_cons.mpr ⟨lw_p29, List.forall_mem_cons.mpr ⟨lw_p30, List.forall_mem_cons.mpr ⟨lw_p31, fun _ h => absurd h List.not_mem_nil⟩⟩⟩⟩⟩⟩⟩⟩⟩⟩⟩⟩⟩⟩⟩⟩
theorem lw_p32 : lw_okq (⟨"HullSumsModel", "findCircle", "()Z"⟩, 23) := ⟨⟨by decide +kernel, by decide +kernel⟩, List.mem_of_getElem? (i := 460) (by decide +kernel), List.mem_of_getElem? (i := 671) (by decide +kernel), List.mem_of_getElem? (i := 672) (by decide +kernel)⟩
theorem lw_p33 : lw_okq (⟨"HullSumsModel", "isAcross", "(II)Z"⟩, 23) := ⟨⟨by decide +kernel, by decide +kernel⟩, List.mem_of_getElem? (i := 460) (by decide +kernel), List.mem_of_getElem? (i := 675) (by decide +kernel), List.mem_of_getElem? (i := 676) (by decide +kernel)⟩
theorem lw_p34 : lw_okq (⟨"HullSumsModel", "isRound", "(III)Z"⟩, 23) := ⟨⟨by decide +kernel, by decide +kernel⟩, List.mem_of_getElem? (i := 460) (by decide +kernel), List.mem_of_getElem? (i := 680) (by decide +kernel), List.mem_of_getElem? (i := 681) (by decide +kernel)⟩
theorem lw_p35 : lw_okq (⟨"HullSumsModel", "isSharp", "(III)Z"⟩, 23) := ⟨⟨by decide +kernel, by decide +kernel⟩, List.mem_of_getElem? (i := 460) (by decide +kernel), List.mem_of_getElem? (i := 684) (by decide +kernel), List.mem_of_getElem? (i := 685) (by decide +kernel)⟩
theorem lw_p36 : lw_okq (⟨"HullSumsModel", "wrong", "(II)I"⟩, 23) := ⟨⟨by decide +kernel, by decide +kernel⟩, List.mem_of_getElem? (i := 460) (by decide +kernel), List.mem_of_getElem? (i := 692) (by decide +kernel), List.mem_of_getElem? (i := 693) (by decide +kernel)⟩
theorem lw_p37 : lw_okq (⟨"HullSumsModel", "loadBoth", "(III)V"⟩, 23) := ⟨⟨by decide +kernel, by decide +kernel⟩, List.mem_of_getElem? (i := 460) (by decide +kernel), List.mem_of_getElem? (i := 696) (by decide +kernel), List.mem_of_getElem? (i := 697) (by decide +kernel)⟩
theorem lw_p38 : lw_okq (⟨"HullSumsModel", "keep", "()I"⟩, 23) := ⟨⟨by decide +kernel, by decide +kernel⟩, List.mem_of_getElem? (i := 460) (by decide +kernel), List.mem_of_getElem? (i := 700) (by decide +kernel), List.mem_of_getElem? (i := 701) (by decide +kernel)⟩
theorem lw_p39 : lw_okq (⟨"HullSumsModel", "better", "(JJ)V"⟩, 23) := ⟨⟨by decide +kernel, by decide +kernel⟩, List.mem_of_getElem? (i := 460) (by decide +kernel), List.mem_of_getElem? (i := 716) (by decide +kernel), List.mem_of_getElem? (i := 717) (by decide +kernel)⟩
def lw_privs_3 : List (MethodName × Nat) := [(⟨"HullSumsModel", "findCircle", "()Z"⟩, 23), (⟨"HullSumsModel", "isAcross", "(II)Z"⟩, 23), (⟨"HullSumsModel", "isRound", "(III)Z"⟩, 23), (⟨"HullSumsModel", "isSharp", "(III)Z"⟩, 23), (⟨"HullSumsModel", "wrong", "(II)I"⟩, 23), (⟨"HullSumsModel", "loadBoth", "(III)V"⟩, 23), (⟨"HullSumsModel", "keep", "()I"⟩, 23), (⟨"HullSumsModel", "better", "(JJ)V"⟩, 23)]
theorem lw_r3 : ∀ q ∈ lw_privs_3, lw_okq q := List.forall_mem_cons.mpr ⟨lw_p32, List.forall_mem_cons.mpr ⟨lw_p33, List.forall_mem_cons.mpr ⟨lw_p34, List.forall_mem_cons.mpr ⟨lw_p35, List.forall_mem_cons.mpr ⟨lw_p36, List.forall_mem_cons.mpr ⟨lw_p37, List.forall_mem_cons.mpr ⟨lw_p38, List.forall_mem_cons.mpr ⟨lw_p39, fun _ h => absurd h List.not_mem_nil⟩⟩⟩⟩⟩⟩⟩⟩
def lw_privs : List (MethodName × Nat) := lw_privs_1 ++ (lw_privs_2 ++ (lw_privs_3))
def lw_tbl : List Cond := k2_sels lw_privs ++ tables_1
theorem lw_privs_ok : ∀ q ∈ lw_privs, lw_okq q := by
  show ∀ q ∈ lw_privs_1 ++ (lw_privs_2 ++ (lw_privs_3)), lw_okq q
  exact List.forall_mem_append.mpr ⟨lw_r1, List.forall_mem_append.mpr ⟨lw_r2, lw_r3⟩⟩
def T_R : u_T := fun k => match k with
  | 0 => ("HullSums$Row", "xs", "[I", true)
  | 1 => ("HullSums$Row", "ys", "[I", true)
  | _ => ("HullSums$Row", "size", "I", false)
def ty_R : Nat → FieldType := fun k => match k with
  | 0 => .array .int
  | 1 => .array .int
  | _ => .int
theorem nm_R : ∀ a, a < 3 → ∀ b, b < 3 → a ≠ b → (T_R a).2.1 ≠ (T_R b).2.1 := by decide +kernel
theorem tyok_R : ∀ k, k < 3 → parseFieldDescriptor (T_R k).2.2.1 = some (ty_R k) := by decide +kernel
def T_C : u_T := fun k => match k with
  | 0 => ("HullSums$Circle", "px", "J", false)
  | 1 => ("HullSums$Circle", "py", "J", false)
  | 2 => ("HullSums$Circle", "ux", "J", false)
  | 3 => ("HullSums$Circle", "uy", "J", false)
  | _ => ("HullSums$Circle", "under", "J", false)
def ty_C : Nat → FieldType := fun k => match k with
  | 0 => .long
  | 1 => .long
  | 2 => .long
  | 3 => .long
  | _ => .long
theorem nm_C : ∀ a, a < 5 → ∀ b, b < 5 → a ≠ b → (T_C a).2.1 ≠ (T_C b).2.1 := by decide +kernel
theorem tyok_C : ∀ k, k < 5 → parseFieldDescriptor (T_C k).2.2.1 = some (ty_C k) := by decide +kernel
def T_L : u_T := fun k => match k with
  | 0 => ("HullSums$Lowest", "over", "J", false)
  | 1 => ("HullSums$Lowest", "under", "J", false)
  | _ => ("HullSums$Lowest", "isSet", "Z", false)
def ty_L : Nat → FieldType := fun k => match k with
  | 0 => .long
  | 1 => .long
  | _ => .boolean
theorem nm_L : ∀ a, a < 3 → ∀ b, b < 3 → a ≠ b → (T_L a).2.1 ≠ (T_L b).2.1 := by decide +kernel
theorem tyok_L : ∀ k, k < 3 → parseFieldDescriptor (T_L k).2.2.1 = some (ty_L k) := by decide +kernel
def T_H : u_T := fun k => match k with
  | 0 => ("HullSums", "sets", "[LHullSums$Row;", true)
  | 1 => ("HullSums", "howMany", "I", false)
  | 2 => ("HullSums", "toldFirst", "J", false)
  | 3 => ("HullSums", "toldSecond", "J", false)
  | 4 => ("HullSums", "sorted", "LHullSums$Row;", true)
  | 5 => ("HullSums", "left", "LHullSums$Row;", true)
  | 6 => ("HullSums", "right", "LHullSums$Row;", true)
  | 7 => ("HullSums", "sums", "LHullSums$Row;", true)
  | 8 => ("HullSums", "least", "LHullSums$Circle;", true)
  | _ => ("HullSums", "lowest", "LHullSums$Lowest;", true)
def ty_H : Nat → FieldType := fun k => match k with
  | 0 => .array (.object "HullSums$Row")
  | 1 => .int
  | 2 => .long
  | 3 => .long
  | 4 => .object "HullSums$Row"
  | 5 => .object "HullSums$Row"
  | 6 => .object "HullSums$Row"
  | 7 => .object "HullSums$Row"
  | 8 => .object "HullSums$Circle"
  | _ => .object "HullSums$Lowest"
theorem nm_H : ∀ a, a < 10 → ∀ b, b < 10 → a ≠ b → (T_H a).2.1 ≠ (T_H b).2.1 := by decide +kernel
theorem tyok_H : ∀ k, k < 10 → parseFieldDescriptor (T_H k).2.2.1 = some (ty_H k) := by decide +kernel
def T_M : u_T := fun k => match k with
  | 0 => ("HullSumsModel", "thrown", "I", false)
  | 1 => ("HullSumsModel", "sets", "I", false)
  | 2 => ("HullSumsModel", "xs", "[I", false)
  | 3 => ("HullSumsModel", "ys", "[I", false)
  | 4 => ("HullSumsModel", "sizes", "[I", false)
  | 5 => ("HullSumsModel", "wx", "[I", false)
  | 6 => ("HullSumsModel", "wy", "[I", false)
  | 7 => ("HullSumsModel", "looked", "I", false)
  | 8 => ("HullSumsModel", "hx", "[I", false)
  | 9 => ("HullSumsModel", "hy", "[I", false)
  | 10 => ("HullSumsModel", "found", "I", false)
  | 11 => ("HullSumsModel", "one", "J", false)
  | 12 => ("HullSumsModel", "two", "J", false)
  | 13 => ("HullSumsModel", "upper", "J", false)
  | 14 => ("HullSumsModel", "lower", "J", false)
  | 15 => ("HullSumsModel", "rowFrom", "J", false)
  | 16 => ("HullSumsModel", "rowTo", "J", false)
  | 17 => ("HullSumsModel", "reach", "J", false)
  | 18 => ("HullSumsModel", "middleX", "J", false)
  | 19 => ("HullSumsModel", "middleY", "J", false)
  | 20 => ("HullSumsModel", "middleBy", "J", false)
  | 21 => ("HullSumsModel", "radius", "J", false)
  | _ => ("HullSumsModel", "radiusBy", "J", false)
def ty_M : Nat → FieldType := fun k => match k with
  | 0 => .int
  | 1 => .int
  | 2 => .array .int
  | 3 => .array .int
  | 4 => .array .int
  | 5 => .array .int
  | 6 => .array .int
  | 7 => .int
  | 8 => .array .int
  | 9 => .array .int
  | 10 => .int
  | 11 => .long
  | 12 => .long
  | 13 => .long
  | 14 => .long
  | 15 => .long
  | 16 => .long
  | 17 => .long
  | 18 => .long
  | 19 => .long
  | 20 => .long
  | 21 => .long
  | _ => .long
theorem nm_M : ∀ a, a < 23 → ∀ b, b < 23 → a ≠ b → (T_M a).2.1 ≠ (T_M b).2.1 := by decide +kernel
theorem tyok_M : ∀ k, k < 23 → parseFieldDescriptor (T_M k).2.2.1 = some (ty_M k) := by decide +kernel
/-- the classes: 0 HullSums, 1 Row, 2 Circle, 3 Lowest, 4 the reference -/
abbrev cls5 : List vw_C := [("HullSums", T_H, 10), ("HullSums$Row", T_R, 3), ("HullSums$Circle", T_C, 5), ("HullSums$Lowest", T_L, 3), ("HullSumsModel", T_M, 23)]
def y_H_init : MethodName := ⟨"HullSums", "<init>", "()V"⟩
abbrev b_H_init : ByteArray := prog_1_method_1_code
def y_H_clear : MethodName := ⟨"HullSums", "clear", "()V"⟩
abbrev b_H_clear : ByteArray := prog_1_method_2_code
def y_H_set : MethodName := ⟨"HullSums", "set", "()I"⟩
abbrev b_H_set : ByteArray := prog_1_method_3_code
def y_H_point : MethodName := ⟨"HullSums", "point", "(III)I"⟩
abbrev b_H_point : ByteArray := prog_1_method_4_code
def y_H_points : MethodName := ⟨"HullSums", "points", "(I)I"⟩
abbrev b_H_points : ByteArray := prog_1_method_5_code
def y_H_kind : MethodName := ⟨"HullSums", "kind", "(I)I"⟩
abbrev b_H_kind : ByteArray := prog_1_method_6_code
def y_H_corners : MethodName := ⟨"HullSums", "corners", "(I)I"⟩
abbrev b_H_corners : ByteArray := prog_1_method_7_code
def y_H_corner : MethodName := ⟨"HullSums", "corner", "(II)I"⟩
abbrev b_H_corner : ByteArray := prog_1_method_8_code
def y_H_beside : MethodName := ⟨"HullSums", "beside", "(I)I"⟩
abbrev b_H_beside : ByteArray := prog_1_method_9_code
def y_H_area : MethodName := ⟨"HullSums", "area", "(I)I"⟩
abbrev b_H_area : ByteArray := prog_1_method_10_code
def y_H_border : MethodName := ⟨"HullSums", "border", "(I)I"⟩
abbrev b_H_border : ByteArray := prog_1_method_11_code
def y_H_inside : MethodName := ⟨"HullSums", "inside", "(I)I"⟩
abbrev b_H_inside : ByteArray := prog_1_method_12_code
def y_H_grown : MethodName := ⟨"HullSums", "grown", "(II)I"⟩
abbrev b_H_grown : ByteArray := prog_1_method_13_code
def y_H_wide : MethodName := ⟨"HullSums", "wide", "(I)I"⟩
abbrev b_H_wide : ByteArray := prog_1_method_14_code
def y_H_width : MethodName := ⟨"HullSums", "width", "(I)I"⟩
abbrev b_H_width : ByteArray := prog_1_method_15_code
def y_H_circle : MethodName := ⟨"HullSums", "circle", "(II)I"⟩
abbrev b_H_circle : ByteArray := prog_1_method_16_code
def y_H_sum : MethodName := ⟨"HullSums", "sum", "(II)I"⟩
abbrev b_H_sum : ByteArray := prog_1_method_17_code
def y_H_turned : MethodName := ⟨"HullSums", "turned", "(I)I"⟩
abbrev b_H_turned : ByteArray := prog_1_method_18_code
def y_H_meets : MethodName := ⟨"HullSums", "meets", "(II)I"⟩
abbrev b_H_meets : ByteArray := prog_1_method_19_code
def y_H_apart : MethodName := ⟨"HullSums", "apart", "(II)I"⟩
abbrev b_H_apart : ByteArray := prog_1_method_20_code
def y_H_holds : MethodName := ⟨"HullSums", "holds", "(III)I"⟩
abbrev b_H_holds : ByteArray := prog_1_method_21_code
def y_H_supports : MethodName := ⟨"HullSums", "supports", "(III)I"⟩
abbrev b_H_supports : ByteArray := prog_1_method_22_code
def y_H_mixed : MethodName := ⟨"HullSums", "mixed", "(II)I"⟩
abbrev b_H_mixed : ByteArray := prog_1_method_23_code
def y_H_nearest : MethodName := ⟨"HullSums", "nearest", "(I)I"⟩
abbrev b_H_nearest : ByteArray := prog_1_method_24_code
def y_H_within : MethodName := ⟨"HullSums", "within", "(II)I"⟩
abbrev b_H_within : ByteArray := prog_1_method_25_code
def y_H_first : MethodName := ⟨"HullSums", "first", "()J"⟩
abbrev b_H_first : ByteArray := prog_1_method_26_code
def y_H_second : MethodName := ⟨"HullSums", "second", "()J"⟩
abbrev b_H_second : ByteArray := prog_1_method_27_code
def y_H_told : MethodName := ⟨"HullSums", "told", "(I)I"⟩
abbrev b_H_told : ByteArray := prog_1_method_28_code
def y_H_rowOf : MethodName := ⟨"HullSums", "rowOf", "(I)LHullSums$Row;"⟩
abbrev b_H_rowOf : ByteArray := prog_1_method_29_code
def y_H_hullOf : MethodName := ⟨"HullSums", "hullOf", "(LHullSums$Row;)LHullSums$Row;"⟩
abbrev b_H_hullOf : ByteArray := prog_1_method_30_code
def y_H_fillSums : MethodName := ⟨"HullSums", "fillSums", "(III)I"⟩
abbrev b_H_fillSums : ByteArray := prog_1_method_31_code
def y_H_setOf : MethodName := ⟨"HullSums", "setOf", "(LHullSums$Row;)I"⟩
abbrev b_H_setOf : ByteArray := prog_1_method_32_code
def y_H_takeDistancesFromZero : MethodName := ⟨"HullSums", "takeDistancesFromZero", "(LHullSums$Row;)V"⟩
abbrev b_H_takeDistancesFromZero : ByteArray := prog_1_method_33_code
def y_H_tell : MethodName := ⟨"HullSums", "tell", "(JJ)V"⟩
abbrev b_H_tell : ByteArray := prog_1_method_34_code
def y_H_tellFraction : MethodName := ⟨"HullSums", "tellFraction", "(JJ)V"⟩
abbrev b_H_tellFraction : ByteArray := prog_1_method_35_code
def y_H_isNear : MethodName := ⟨"HullSums", "isNear", "(II)Z"⟩
abbrev b_H_isNear : ByteArray := prog_1_method_36_code
def y_H_commonDivisor : MethodName := ⟨"HullSums", "commonDivisor", "(JJ)J"⟩
abbrev b_H_commonDivisor : ByteArray := prog_1_method_37_code
def y_M_init : MethodName := ⟨"HullSumsModel", "<init>", "()V"⟩
abbrev b_M_init : ByteArray := prog_6_method_1_code
def y_M_clear : MethodName := ⟨"HullSumsModel", "clear", "()V"⟩
abbrev b_M_clear : ByteArray := prog_6_method_3_code
def y_M_is : MethodName := ⟨"HullSumsModel", "is", "(I)Z"⟩
abbrev b_M_is : ByteArray := prog_6_method_4_code
def y_M_in : MethodName := ⟨"HullSumsModel", "in", "(III)Z"⟩
abbrev b_M_in : ByteArray := prog_6_method_5_code
def y_M_load : MethodName := ⟨"HullSumsModel", "load", "(I)V"⟩
abbrev b_M_load : ByteArray := prog_6_method_6_code
def y_M_loadBoth : MethodName := ⟨"HullSumsModel", "loadBoth", "(III)V"⟩
abbrev b_M_loadBoth : ByteArray := prog_6_method_7_code
def y_M_turn : MethodName := ⟨"HullSumsModel", "turn", "(JJJJJJ)J"⟩
abbrev b_M_turn : ByteArray := prog_6_method_8_code
def y_M_square : MethodName := ⟨"HullSumsModel", "square", "(JJJJ)J"⟩
abbrev b_M_square : ByteArray := prog_6_method_9_code
def y_M_goRound : MethodName := ⟨"HullSumsModel", "goRound", "()V"⟩
abbrev b_M_goRound : ByteArray := prog_6_method_10_code
def y_M_nextOf : MethodName := ⟨"HullSumsModel", "nextOf", "(I)I"⟩
abbrev b_M_nextOf : ByteArray := prog_6_method_11_code
def y_M_after : MethodName := ⟨"HullSumsModel", "after", "(I)I"⟩
abbrev b_M_after : ByteArray := prog_6_method_12_code
def y_M_areaOf : MethodName := ⟨"HullSumsModel", "areaOf", "()J"⟩
abbrev b_M_areaOf : ByteArray := prog_6_method_13_code
def y_M_isOn : MethodName := ⟨"HullSumsModel", "isOn", "(IJJ)Z"⟩
abbrev b_M_isOn : ByteArray := prog_6_method_14_code
def y_M_placeOf : MethodName := ⟨"HullSumsModel", "placeOf", "(JJ)I"⟩
abbrev b_M_placeOf : ByteArray := prog_6_method_15_code
def y_M_common : MethodName := ⟨"HullSumsModel", "common", "(JJ)J"⟩
abbrev b_M_common : ByteArray := prog_6_method_16_code
def y_M_tell : MethodName := ⟨"HullSumsModel", "tell", "(JJ)V"⟩
abbrev b_M_tell : ByteArray := prog_6_method_17_code
def y_M_set : MethodName := ⟨"HullSumsModel", "set", "()I"⟩
abbrev b_M_set : ByteArray := prog_6_method_18_code
def y_M_point : MethodName := ⟨"HullSumsModel", "point", "(III)I"⟩
abbrev b_M_point : ByteArray := prog_6_method_19_code
def y_M_points : MethodName := ⟨"HullSumsModel", "points", "(I)I"⟩
abbrev b_M_points : ByteArray := prog_6_method_20_code
def y_M_kind : MethodName := ⟨"HullSumsModel", "kind", "(I)I"⟩
abbrev b_M_kind : ByteArray := prog_6_method_21_code
def y_M_corners : MethodName := ⟨"HullSumsModel", "corners", "(I)I"⟩
abbrev b_M_corners : ByteArray := prog_6_method_22_code
def y_M_corner : MethodName := ⟨"HullSumsModel", "corner", "(II)I"⟩
abbrev b_M_corner : ByteArray := prog_6_method_23_code
def y_M_beside : MethodName := ⟨"HullSumsModel", "beside", "(I)I"⟩
abbrev b_M_beside : ByteArray := prog_6_method_24_code
def y_M_area : MethodName := ⟨"HullSumsModel", "area", "(I)I"⟩
abbrev b_M_area : ByteArray := prog_6_method_25_code
def y_M_borderOf : MethodName := ⟨"HullSumsModel", "borderOf", "()I"⟩
abbrev b_M_borderOf : ByteArray := prog_6_method_26_code
def y_M_part : MethodName := ⟨"HullSumsModel", "part", "(JJZ)J"⟩
abbrev b_M_part : ByteArray := prog_6_method_27_code
def y_M_row : MethodName := ⟨"HullSumsModel", "row", "(IJI)V"⟩
abbrev b_M_row : ByteArray := prog_6_method_28_code
def y_M_see : MethodName := ⟨"HullSumsModel", "see", "(JJ)V"⟩
abbrev b_M_see : ByteArray := prog_6_method_29_code
def y_M_allPoints : MethodName := ⟨"HullSumsModel", "allPoints", "(I)I"⟩
abbrev b_M_allPoints : ByteArray := prog_6_method_30_code
def y_M_border : MethodName := ⟨"HullSumsModel", "border", "(I)I"⟩
abbrev b_M_border : ByteArray := prog_6_method_31_code
def y_M_inside : MethodName := ⟨"HullSumsModel", "inside", "(I)I"⟩
abbrev b_M_inside : ByteArray := prog_6_method_32_code
def y_M_grown : MethodName := ⟨"HullSumsModel", "grown", "(II)I"⟩
abbrev b_M_grown : ByteArray := prog_6_method_33_code
def y_M_wide : MethodName := ⟨"HullSumsModel", "wide", "(I)I"⟩
abbrev b_M_wide : ByteArray := prog_6_method_34_code
def y_M_width : MethodName := ⟨"HullSumsModel", "width", "(I)I"⟩
abbrev b_M_width : ByteArray := prog_6_method_35_code
def y_M_spread : MethodName := ⟨"HullSumsModel", "spread", "(II)V"⟩
abbrev b_M_spread : ByteArray := prog_6_method_36_code
def y_M_isAcross : MethodName := ⟨"HullSumsModel", "isAcross", "(II)Z"⟩
abbrev b_M_isAcross : ByteArray := prog_6_method_37_code
def y_M_isSharp : MethodName := ⟨"HullSumsModel", "isSharp", "(III)Z"⟩
abbrev b_M_isSharp : ByteArray := prog_6_method_38_code
def y_M_isRound : MethodName := ⟨"HullSumsModel", "isRound", "(III)Z"⟩
abbrev b_M_isRound : ByteArray := prog_6_method_39_code
def y_M_findCircle : MethodName := ⟨"HullSumsModel", "findCircle", "()Z"⟩
abbrev b_M_findCircle : ByteArray := prog_6_method_40_code
def y_M_circle : MethodName := ⟨"HullSumsModel", "circle", "(II)I"⟩
abbrev b_M_circle : ByteArray := prog_6_method_41_code
def y_M_keep : MethodName := ⟨"HullSumsModel", "keep", "()I"⟩
abbrev b_M_keep : ByteArray := prog_6_method_42_code
def y_M_wrong : MethodName := ⟨"HullSumsModel", "wrong", "(II)I"⟩
abbrev b_M_wrong : ByteArray := prog_6_method_43_code
def y_M_sum : MethodName := ⟨"HullSumsModel", "sum", "(II)I"⟩
abbrev b_M_sum : ByteArray := prog_6_method_44_code
def y_M_turned : MethodName := ⟨"HullSumsModel", "turned", "(I)I"⟩
abbrev b_M_turned : ByteArray := prog_6_method_45_code
def y_M_meets : MethodName := ⟨"HullSumsModel", "meets", "(II)I"⟩
abbrev b_M_meets : ByteArray := prog_6_method_46_code
def y_M_apart : MethodName := ⟨"HullSumsModel", "apart", "(II)I"⟩
abbrev b_M_apart : ByteArray := prog_6_method_47_code
def y_M_better : MethodName := ⟨"HullSumsModel", "better", "(JJ)V"⟩
abbrev b_M_better : ByteArray := prog_6_method_48_code
def y_M_mixed : MethodName := ⟨"HullSumsModel", "mixed", "(II)I"⟩
abbrev b_M_mixed : ByteArray := prog_6_method_49_code
def y_M_holds : MethodName := ⟨"HullSumsModel", "holds", "(III)I"⟩
abbrev b_M_holds : ByteArray := prog_6_method_50_code
def y_M_supports : MethodName := ⟨"HullSumsModel", "supports", "(III)I"⟩
abbrev b_M_supports : ByteArray := prog_6_method_51_code
def y_M_nearest : MethodName := ⟨"HullSumsModel", "nearest", "(I)I"⟩
abbrev b_M_nearest : ByteArray := prog_6_method_52_code
def y_M_within : MethodName := ⟨"HullSumsModel", "within", "(II)I"⟩
abbrev b_M_within : ByteArray := prog_6_method_53_code
def y_M_first : MethodName := ⟨"HullSumsModel", "first", "()J"⟩
abbrev b_M_first : ByteArray := prog_6_method_54_code
def y_M_second : MethodName := ⟨"HullSumsModel", "second", "()J"⟩
abbrev b_M_second : ByteArray := prog_6_method_55_code
def y_M_told : MethodName := ⟨"HullSumsModel", "told", "(I)I"⟩
abbrev b_M_told : ByteArray := prog_6_method_56_code
def y_C_init : MethodName := ⟨"HullSums$Circle", "<init>", "()V"⟩
abbrev b_C_init : ByteArray := prog_2_method_1_code
def y_C_enclose : MethodName := ⟨"HullSums$Circle", "enclose", "(LHullSums$Row;)V"⟩
abbrev b_C_enclose : ByteArray := prog_2_method_2_code
def y_C_encloseThrough : MethodName := ⟨"HullSums$Circle", "encloseThrough", "(LHullSums$Row;I)V"⟩
abbrev b_C_encloseThrough : ByteArray := prog_2_method_3_code
def y_C_encloseThroughBoth : MethodName := ⟨"HullSums$Circle", "encloseThroughBoth", "(LHullSums$Row;II)V"⟩
abbrev b_C_encloseThroughBoth : ByteArray := prog_2_method_4_code
def y_C_has : MethodName := ⟨"HullSums$Circle", "has", "(LHullSums$Row;I)Z"⟩
abbrev b_C_has : ByteArray := prog_2_method_5_code
def y_C_shrinkTo : MethodName := ⟨"HullSums$Circle", "shrinkTo", "(LHullSums$Row;I)V"⟩
abbrev b_C_shrinkTo : ByteArray := prog_2_method_6_code
def y_C_spanAcross : MethodName := ⟨"HullSums$Circle", "spanAcross", "(LHullSums$Row;II)V"⟩
abbrev b_C_spanAcross : ByteArray := prog_2_method_7_code
def y_C_passThrough : MethodName := ⟨"HullSums$Circle", "passThrough", "(LHullSums$Row;III)V"⟩
abbrev b_C_passThrough : ByteArray := prog_2_method_8_code
def y_C_middleX : MethodName := ⟨"HullSums$Circle", "middleX", "()J"⟩
abbrev b_C_middleX : ByteArray := prog_2_method_9_code
def y_C_middleY : MethodName := ⟨"HullSums$Circle", "middleY", "()J"⟩
abbrev b_C_middleY : ByteArray := prog_2_method_10_code
def y_C_middleUnder : MethodName := ⟨"HullSums$Circle", "middleUnder", "()J"⟩
abbrev b_C_middleUnder : ByteArray := prog_2_method_11_code
def y_C_squareOver : MethodName := ⟨"HullSums$Circle", "squareOver", "()J"⟩
abbrev b_C_squareOver : ByteArray := prog_2_method_12_code
def y_C_squareUnder : MethodName := ⟨"HullSums$Circle", "squareUnder", "()J"⟩
abbrev b_C_squareUnder : ByteArray := prog_2_method_13_code
def y_L_init : MethodName := ⟨"HullSums$Lowest", "<init>", "()V"⟩
abbrev b_L_init : ByteArray := prog_3_method_1_code
def y_L_forget : MethodName := ⟨"HullSums$Lowest", "forget", "()V"⟩
abbrev b_L_forget : ByteArray := prog_3_method_2_code
def y_L_take : MethodName := ⟨"HullSums$Lowest", "take", "(JJ)V"⟩
abbrev b_L_take : ByteArray := prog_3_method_3_code
def y_L_over : MethodName := ⟨"HullSums$Lowest", "over", "()J"⟩
abbrev b_L_over : ByteArray := prog_3_method_4_code
def y_L_under : MethodName := ⟨"HullSums$Lowest", "under", "()J"⟩
abbrev b_L_under : ByteArray := prog_3_method_5_code
def y_R_init : MethodName := ⟨"HullSums$Row", "<init>", "()V"⟩
abbrev b_R_init : ByteArray := prog_4_method_1_code
def y_R_size : MethodName := ⟨"HullSums$Row", "size", "()I"⟩
abbrev b_R_size : ByteArray := prog_4_method_2_code
def y_R_x : MethodName := ⟨"HullSums$Row", "x", "(I)I"⟩
abbrev b_R_x : ByteArray := prog_4_method_3_code
def y_R_y : MethodName := ⟨"HullSums$Row", "y", "(I)I"⟩
abbrev b_R_y : ByteArray := prog_4_method_4_code
def y_R_empty : MethodName := ⟨"HullSums$Row", "empty", "()V"⟩
abbrev b_R_empty : ByteArray := prog_4_method_5_code
def y_R_add : MethodName := ⟨"HullSums$Row", "add", "(II)V"⟩
abbrev b_R_add : ByteArray := prog_4_method_6_code
def y_R_dropLast : MethodName := ⟨"HullSums$Row", "dropLast", "()V"⟩
abbrev b_R_dropLast : ByteArray := prog_4_method_7_code
def y_R_has : MethodName := ⟨"HullSums$Row", "has", "(II)Z"⟩
abbrev b_R_has : ByteArray := prog_4_method_8_code
def y_R_isWithin : MethodName := ⟨"HullSums$Row", "isWithin", "(I)Z"⟩
abbrev b_R_isWithin : ByteArray := prog_4_method_9_code
def y_R_addSorted : MethodName := ⟨"HullSums$Row", "addSorted", "(II)V"⟩
abbrev b_R_addSorted : ByteArray := prog_4_method_10_code
def y_R_squareBetween : MethodName := ⟨"HullSums$Row", "squareBetween", "(II)I"⟩
abbrev b_R_squareBetween : ByteArray := prog_4_method_11_code
def y_R_squareFromZero : MethodName := ⟨"HullSums$Row", "squareFromZero", "(I)I"⟩
abbrev b_R_squareFromZero : ByteArray := prog_4_method_12_code
def y_R_becomeHull : MethodName := ⟨"HullSums$Row", "becomeHull", "(LHullSums$Row;ILHullSums$Row;)V"⟩
abbrev b_R_becomeHull : ByteArray := prog_4_method_13_code
def y_R_addCorner : MethodName := ⟨"HullSums$Row", "addCorner", "(III)V"⟩
abbrev b_R_addCorner : ByteArray := prog_4_method_14_code
def y_R_turn : MethodName := ⟨"HullSums$Row", "turn", "(IIII)I"⟩
abbrev b_R_turn : ByteArray := prog_4_method_15_code
def y_R_sides : MethodName := ⟨"HullSums$Row", "sides", "()I"⟩
abbrev b_R_sides : ByteArray := prog_4_method_16_code
def y_R_next : MethodName := ⟨"HullSums$Row", "next", "(I)I"⟩
abbrev b_R_next : ByteArray := prog_4_method_17_code
def y_R_sideX : MethodName := ⟨"HullSums$Row", "sideX", "(I)I"⟩
abbrev b_R_sideX : ByteArray := prog_4_method_18_code
def y_R_sideY : MethodName := ⟨"HullSums$Row", "sideY", "(I)I"⟩
abbrev b_R_sideY : ByteArray := prog_4_method_19_code
def y_R_squareOfSide : MethodName := ⟨"HullSums$Row", "squareOfSide", "(I)I"⟩
abbrev b_R_squareOfSide : ByteArray := prog_4_method_20_code
def y_R_offSide : MethodName := ⟨"HullSums$Row", "offSide", "(III)I"⟩
abbrev b_R_offSide : ByteArray := prog_4_method_21_code
def y_R_reachFromSide : MethodName := ⟨"HullSums$Row", "reachFromSide", "(I)I"⟩
abbrev b_R_reachFromSide : ByteArray := prog_4_method_22_code
def y_R_sideFacesZero : MethodName := ⟨"HullSums$Row", "sideFacesZero", "(I)Z"⟩
abbrev b_R_sideFacesZero : ByteArray := prog_4_method_23_code
def y_R_place : MethodName := ⟨"HullSums$Row", "place", "(II)I"⟩
abbrev b_R_place : ByteArray := prog_4_method_24_code
def y_R_isOnThin : MethodName := ⟨"HullSums$Row", "isOnThin", "(II)Z"⟩
abbrev b_R_isOnThin : ByteArray := prog_4_method_25_code
def y_R_doubleArea : MethodName := ⟨"HullSums$Row", "doubleArea", "()I"⟩
abbrev b_R_doubleArea : ByteArray := prog_4_method_26_code
def y_R_gridSteps : MethodName := ⟨"HullSums$Row", "gridSteps", "()I"⟩
abbrev b_R_gridSteps : ByteArray := prog_4_method_27_code
def y_R_gridOnBorder : MethodName := ⟨"HullSums$Row", "gridOnBorder", "()I"⟩
abbrev b_R_gridOnBorder : ByteArray := prog_4_method_28_code
def y_R_gridWhenGrown : MethodName := ⟨"HullSums$Row", "gridWhenGrown", "(I)I"⟩
abbrev b_R_gridWhenGrown : ByteArray := prog_4_method_29_code
def y_R_becomeSums : MethodName := ⟨"HullSums$Row", "becomeSums", "(LHullSums$Row;LHullSums$Row;)V"⟩
abbrev b_R_becomeSums : ByteArray := prog_4_method_30_code
def y_R_orderOfSides : MethodName := ⟨"HullSums$Row", "orderOfSides", "(LHullSums$Row;ILHullSums$Row;I)I"⟩
abbrev b_R_orderOfSides : ByteArray := prog_4_method_31_code
def y_R_goesBack : MethodName := ⟨"HullSums$Row", "goesBack", "(II)Z"⟩
abbrev b_R_goesBack : ByteArray := prog_4_method_32_code
theorem tw_1 {w : Cond} (k : Nat) (h : tables_1_1[k]? = some w) (hg : goodWord w = true := by rfl) : w ∈ lw_tbl.filter goodWord := List.mem_filter.mpr ⟨List.mem_append_right _ (List.mem_append_left _ (List.mem_of_getElem? h)), hg⟩
theorem tw_2 {w : Cond} (k : Nat) (h : tables_1_2[k]? = some w) (hg : goodWord w = true := by rfl) : w ∈ lw_tbl.filter goodWord := List.mem_filter.mpr ⟨List.mem_append_right _ (List.mem_append_right _ (List.mem_append_left _ (List.mem_of_getElem? h))), hg⟩
theorem tw_3 {w : Cond} (k : Nat) (h : tables_1_3[k]? = some w) (hg : goodWord w = true := by rfl) : w ∈ lw_tbl.filter goodWord := List.mem_filter.mpr ⟨List.mem_append_right _ (List.mem_append_right _ (List.mem_append_right _ (List.mem_append_left _ (List.mem_of_getElem? h)))), hg⟩
theorem tw_4 {w : Cond} (k : Nat) (h : tables_1_4[k]? = some w) (hg : goodWord w = true := by rfl) : w ∈ lw_tbl.filter goodWord := List.mem_filter.mpr ⟨List.mem_append_right _ (List.mem_append_right _ (List.mem_append_right _ (List.mem_append_right _ (List.mem_of_getElem? h)))), hg⟩
end
section
/-- the table's words that stay through calls; beside them three that stay in another way -/
def lw_g : List Cond := lw_tbl.filter goodWord
theorem gd_g : ∀ w ∈ lw_g, ((w.onTables && w.keeps) = true ∨ ∃ ty, w = .arrayClass ty) := fun w hw => good_of_word (List.mem_filter.mp hw).2
def ty2 (cI cR : ClassId) : List (ClassId × FieldType) := [(cI, .int), (cR, .object "HullSums$Row")]
def gE (U : State) : Prop := va_AO "HullSums$Row" U ∧ va_Nw (.methodLinkNest "HullSums$Row" 29 y_H_isNear "HullSums") U ∧ va_Nw (.methodLinkNest "HullSums$Row" 91 y_H_commonDivisor "HullSums") U
theorem gE_same {u U : State} (h : u.vm = U.vm) (q : gE u) : gE U := ⟨va_AO.moved (by rw [h]; exact Vm.Alike.refl _) q.1, va_tabs rfl h q.2.1, va_tabs rfl h q.2.2⟩
theorem gE_warm {s U : State} (hW : s.WarmedH U.vm) (q : gE s) : gE U := ⟨va_AO.moved hW.alike q.1, va_Nw.warmM hW q.2.1, va_Nw.warmM hW q.2.2⟩
/-! MY ROWS OVER ONE POOL: the world is the cells at the addresses L, f says what each holds; a method is a step from f to g. -/
/-- what stays the same through a walk: the machine, the code, the table's words, the classes -/
def gx (p : Program) (m : MethodId) (c : Code) (cc : ByteArray) (nL : Nat) (s : State) (args : Array Value) (own : String) (D : va_G) (cI cR : ClassId) : Prop :=
  CallFix p m c cc nL s args lw_g own ∧ va_K D cls5 (ty2 cI cR) s ∧ gE s
/-- the world now -/
def gw (D : va_G) (A : Nat → Prop) (H0 H : Heap) (locs : List Loc) (L : List Nat) (f : Nat → va_E) : Prop :=
  va_P D cls5 (va_pl L f) H ∧ va_D A (va_pl L f) ∧ va_S A H0 H locs ∧ ∀ q, H0.size ≤ q → A q
def gA (L : List Nat) (sz : Nat) : Nat → Prop := fun q => q ∈ L ∨ sz ≤ q
def gP (D : va_G) (cI cR : ClassId) (L : List Nat) (f : Nat → va_E) (sz : Nat) : State → Prop := fun U => U.heap.size = sz ∧ va_P D cls5 (va_pl L f) U.heap ∧ va_K D cls5 (ty2 cI cR) U ∧ va_D (fun _ => True) (va_pl L f) ∧ gE U
def gB (D : va_G) (cI cR : ClassId) (A : Nat → Prop) (u : List Nat × (Nat → va_E)) : State → Prop := fun t => va_P D cls5 (va_pl u.1 u.2) t.heap ∧ va_K D cls5 (ty2 cI cR) t ∧ va_D A (va_pl u.1 u.2)
/-- contracts: av the arguments, L f the world before; post the answer and the world behind (its addresses, what they hold) -/
def gMi (D : va_G) (cI cR : ClassId) (l : Launch) (y : MethodName) (ws : List Cond) (rm : Room) (av : List Value) (L : List Nat) (f : Nat → va_E) (post : Int32 → List Nat × (Nat → va_E) → Prop) : Prop :=
  ∀ sz, Met l y ws rm (va_Pc av (gP D cI cR L f sz)) (va_Qi post (gB D cI cR (gA L sz)) (gA L sz)) rm.cells rm.slots (gA L sz)
def gMl (D : va_G) (cI cR : ClassId) (l : Launch) (y : MethodName) (ws : List Cond) (rm : Room) (av : List Value) (L : List Nat) (f : Nat → va_E) (post : Int64 → List Nat × (Nat → va_E) → Prop) : Prop :=
  ∀ sz, Met l y ws rm (va_Pc av (gP D cI cR L f sz)) (va_Ql post (gB D cI cR (gA L sz)) (gA L sz)) rm.cells rm.slots (gA L sz)
def gMv (D : va_G) (cI cR : ClassId) (l : Launch) (y : MethodName) (ws : List Cond) (rm : Room) (av : List Value) (L : List Nat) (f : Nat → va_E) (post : List Nat × (Nat → va_E) → Prop) : Prop :=
  ∀ sz, Met l y ws rm (va_Pc av (gP D cI cR L f sz)) (va_Qv post (gB D cI cR (gA L sz)) (gA L sz)) rm.cells rm.slots (gA L sz)
def gMq (D : va_G) (cI cR : ClassId) (l : Launch) (y : MethodName) (ws : List Cond) (rm : Room) (av : List Value) (L : List Nat) (f : Nat → va_E) (post : Option Nat → List Nat × (Nat → va_E) → Prop) : Prop :=
  ∀ sz, Met l y ws rm (va_Pc av (gP D cI cR L f sz)) (va_Qq post (gB D cI cR (gA L sz)) (gA L sz)) rm.cells rm.slots (gA L sz)
theorem ga_A {L : List Nat} {f : Nat → va_E} {sz : Nat} : va_A (va_pl L f) sz = gA L sz := by
  funext q
  refine propext ⟨fun h => ?_, fun h => ?_⟩
  · rcases h with ⟨k, e, hk⟩ | h
    · refine Or.inl ?_
      have h1 := List.mem_of_getElem? hk
      obtain ⟨a, ha, he⟩ := List.mem_map.mp h1
      cases he
      exact ha
    · exact Or.inr h
  · rcases h with h | h
    · obtain ⟨k, hk⟩ := va_pl_get (X := []) (f := f) h
      exact Or.inl ⟨k, _, hk⟩
    · exact Or.inr h
theorem gp_blind {D : va_G} {cI cR : ClassId} {L : List Nat} {f : Nat → va_E} {sz : Nat} {av : List Value} : FrameBlind (va_Pc av (gP D cI cR L f sz)) := by
  intro a U g mk q
  obtain ⟨q0, q1, qP, qK, qD, qE⟩ := q
  exact ⟨q0, q1, qP, va_K.moved (u := U) (U := U.calling g mk a) (Vm.Alike.refl U.vm) qK, qD, gE_same (u := U) (U := U.calling g mk a) rfl qE⟩
section GR
variable {p : Program} {l : Launch} {e : Env} {R : Room} {s : State} {m : MethodId} {args : Array Value} {below : List Frame} {meth : Method} {c : Code} {H : Heap} {locs : List Loc} {cells slots : Nat} {Q : State → Prop}
variable {cc : ByteArray} {pc nL : Nat} {ls : Array Slot} {rest : List Value} {D : va_G} {A : Nat → Prop} {a : Nat} {cI cR : ClassId} {L : List Nat} {f : Nat → va_E} {H0 : Heap} {own : String}
theorem gw_in (w : gw D A H0 H locs L f) : ∀ q, gA L H.size q → A q := by
  intro q h
  rcases h with h | h
  · obtain ⟨k, hk⟩ := va_pl_get (X := []) (f := f) h
    exact w.2.1.2 k _ hk
  · exact w.2.2.2 q (Nat.le_trans w.2.2.1.1 h)
theorem gw_pos (h : a ∈ L) : ∃ k : Nat, (va_pl L f)[k]? = some (a, f a) := by
  obtain ⟨k, hk⟩ := va_pl_get (X := []) (f := f) h
  exact ⟨k, hk⟩
theorem gw_set {k : Nat} {e' : va_E} (w : gw D A H0 H locs L f) (h : a ∈ L) (hk : (va_pl L f)[k]? = some (a, f a)) : (va_pl L f).set k (a, e') = va_pl L (va_up f a e') :=
  va_pl_set (X := []) (A := A) w.2.1 h hk
/-- getfield -/
theorem gk_get (X : gx p m c cc nL s args own D cI cR) (w : gw D A H0 H locs L f) {C : String} {T : u_T} {N ci index : Nat} {fs : List Value} (ha : a ∈ L) (he : f a = .inr (ci, fs)) (hc : cls5[ci]? = some (C, T, N)) (hin : ∀ w ∈ u_ws C T N, w ∈ lw_g) (k : Nat) (hk : k < N) (hlink : Cond.fieldLink own index (T k).1 (T k).2.1 (T k).2.2.1 ∈ lw_g) {v : Value} (hv : fs[k]? = some v) (hdg : decode cc pc = .ok (.getfield index, 3))
    (kk : W p l e R s m args below meth c H locs cells slots Q (F0 m (pc + 3) ls (v :: rest))) : W p l e R s m args below meth c H locs cells slots Q (F0 m pc ls (.ref a :: rest)) := by
  obtain ⟨q0, hq⟩ := gw_pos (f := f) ha
  rw [he] at hq
  exact va_get X.1.1 X.1.2.1 X.1.2.2.2.2 hin X.1.2.2.2.1 X.2.1 w.1 q0 hq hc k hk (X.1.2.2.2.2 _ hlink) (fun _ h => h) hv hdg kk
/-- putfield -/
theorem gk_put (X : gx p m c cc nL s args own D cI cR) (w : gw D A H0 H locs L f) {C : String} {T : u_T} {N ci index : Nat} {fs : List Value} (ha : a ∈ L) (he : f a = .inr (ci, fs)) (hc : cls5[ci]? = some (C, T, N)) (hin : ∀ w ∈ u_ws C T N, w ∈ lw_g) (ty0 : Nat → FieldType) (hty : ∀ k, k < N → parseFieldDescriptor (T k).2.2.1 = some (ty0 k)) (hnm : ∀ a, a < N → ∀ b, b < N → a ≠ b → (T a).2.1 ≠ (T b).2.1) (k : Nat) (hk : k < N) (hlink : Cond.fieldLink own index (T k).1 (T k).2.1 (T k).2.2.1 ∈ lw_g) (hfin : (T k).2.2.2 = false) {ty : FieldType} {v : Value} (hd : parseFieldDescriptor (T k).2.2.1 = some ty) (hn : narrow ty v = v) (hfit : fits ty v = true) (hl : k < fs.length) (hdg : decode cc pc = .ok (.putfield index, 3))
    (kk : ∀ (H1 : Heap) (locs1 : List Loc), gw D A H0 H1 locs1 L (va_up f a (.inr (ci, fs.set k v))) → W p l e R s m args below meth c H1 locs1 cells slots Q (F0 m (pc + 3) ls rest)) : W p l e R s m args below meth c H locs cells slots Q (F0 m pc ls (v :: .ref a :: rest)) := by
  obtain ⟨q0, hq⟩ := gw_pos (f := f) ha
  have hq' := hq
  rw [he] at hq
  refine va_put X.1.1 X.1.2.1 X.1.2.2.2.2 hin ty0 hty hnm X.1.2.2.2.1 X.2.1 w.1 w.2.1 w.2.2.1 q0 hq hc k hk (X.1.2.2.2.2 _ hlink) (fun _ h => h) hfin hd hn hfit hl hdg (fun H1 locs1 hP hD hS => kk H1 locs1 ?_)
  rw [gw_set w ha hq'] at hP hD
  exact ⟨hP, hD, hS, w.2.2.2⟩
theorem gk_putF (X : gx p m c cc nL s args own D cI cR) (w : gw D A H0 H locs L f) {C : String} {T : u_T} {N ci index : Nat} {fs : List Value} (ha : a ∈ L) (he : f a = .inr (ci, fs)) (hc : cls5[ci]? = some (C, T, N)) (hin : ∀ w ∈ u_ws C T N, w ∈ lw_g) (ty0 : Nat → FieldType) (hty : ∀ k, k < N → parseFieldDescriptor (T k).2.2.1 = some (ty0 k)) (hnm : ∀ a, a < N → ∀ b, b < N → a ≠ b → (T a).2.1 ≠ (T b).2.1) (k : Nat) (hk : k < N) (hlink : Cond.fieldLink own index (T k).1 (T k).2.1 (T k).2.2.1 ∈ lw_g) (hfin : (T k).2.2.2 = true) (hin2 : meth.name = "<init>") (hdecl : (T k).1 = own) {ty : FieldType} {v : Value} (hd : parseFieldDescriptor (T k).2.2.1 = some ty) (hn : narrow ty v = v) (hfit : fits ty v = true) (hl : k < fs.length) (hdg : decode cc pc = .ok (.putfield index, 3))
    (kk : ∀ (H1 : Heap) (locs1 : List Loc), gw D A H0 H1 locs1 L (va_up f a (.inr (ci, fs.set k v))) → W p l e R s m args below meth c H1 locs1 cells slots Q (F0 m (pc + 3) ls rest)) : W p l e R s m args below meth c H locs cells slots Q (F0 m pc ls (v :: .ref a :: rest)) := by
  obtain ⟨q0, hq⟩ := gw_pos (f := f) ha
  have hq' := hq
  rw [he] at hq
  refine va_putF X.1.1 X.1.2.1 X.1.2.2.2.2 hin ty0 hty hnm X.1.2.2.2.1 X.2.1 w.1 w.2.1 w.2.2.1 q0 hq hc k hk (X.1.2.2.2.2 _ hlink) (fun _ h => h) hfin hin2 hdecl hd hn hfit hl hdg (fun H1 locs1 hP hD hS => kk H1 locs1 ?_)
  rw [gw_set w ha hq'] at hP hD
  exact ⟨hP, hD, hS, w.2.2.2⟩
/-- iaload -/
theorem gk_iald (X : gx p m c cc nL s args own D cI cR) (w : gw D A H0 H locs L f) (t0 : Nat) {cA : ClassId} {n : Nat} {F : Nat → Int32} (ha : a ∈ L) (he : f a = .inl (cA, n, .inl F)) (ht : (ty2 cI cR)[t0]? = some (cA, .int)) {i : Int32} (hin : vp_in i n) (hdg : decode cc pc = .ok (.iaload, 1))
    (kk : W p l e R s m args below meth c H locs cells slots Q (F0 m (pc + 1) ls (.int (F i.toNatClampNeg) :: rest))) : W p l e R s m args below meth c H locs cells slots Q (F0 m pc ls (.int i :: .ref a :: rest)) := by
  obtain ⟨q0, hq⟩ := gw_pos (f := f) ha
  rw [he] at hq
  exact va_iald X.1.1 X.1.2.1 X.2.1 w.1 q0 t0 hq ht hin hdg kk
/-- iastore -/
theorem gk_iast (X : gx p m c cc nL s args own D cI cR) (w : gw D A H0 H locs L f) (t0 : Nat) {cA : ClassId} {n : Nat} {F : Nat → Int32} (ha : a ∈ L) (he : f a = .inl (cA, n, .inl F)) (ht : (ty2 cI cR)[t0]? = some (cA, .int)) {i : Int32} {x : Int32} (hin : vp_in i n) (hdg : decode cc pc = .ok (.iastore, 1))
    (kk : ∀ (H1 : Heap) (locs1 : List Loc), gw D A H0 H1 locs1 L (va_up f a (.inl (cA, n, .inl (upd F i.toNatClampNeg x)))) → W p l e R s m args below meth c H1 locs1 cells slots Q (F0 m (pc + 1) ls rest)) : W p l e R s m args below meth c H locs cells slots Q (F0 m pc ls (.int x :: .int i :: .ref a :: rest)) := by
  obtain ⟨q0, hq⟩ := gw_pos (f := f) ha
  have hq' := hq
  rw [he] at hq
  refine va_iast X.1.1 X.1.2.1 X.2.1 w.1 w.2.1 w.2.2.1 q0 t0 hq ht hin hdg (fun H1 locs1 hP hD hS => kk H1 locs1 ?_)
  rw [gw_set w ha hq'] at hP hD
  exact ⟨hP, hD, hS, w.2.2.2⟩
/-- arraylength -/
theorem gk_alen (X : gx p m c cc nL s args own D cI cR) (w : gw D A H0 H locs L f) (t0 : Nat) {cA : ClassId} {x : vp_A} (ha : a ∈ L) (he : f a = .inl (cA, x)) {ty : FieldType} (ht : (ty2 cI cR)[t0]? = some (cA, ty)) {v : Int32} (hv : Int32.ofNat x.1 = v) (hdg : decode cc pc = .ok (.arraylength, 1))
    (kk : W p l e R s m args below meth c H locs cells slots Q (F0 m (pc + 1) ls (.int v :: rest))) : W p l e R s m args below meth c H locs cells slots Q (F0 m pc ls (.ref a :: rest)) := by
  obtain ⟨q0, hq⟩ := gw_pos (f := f) ha
  rw [he] at hq
  exact va_alen X.1.1 X.1.2.1 X.2.1 w.1 q0 t0 hq ht hv hdg kk
/-- aaload -/
theorem gk_aald (X : gx p m c cc nL s args own D cI cR) (w : gw D A H0 H locs L f) (t0 : Nat) {cA : ClassId} {C : String} {n : Nat} {F : Nat → Option Nat} (ha : a ∈ L) (he : f a = .inl (cA, n, .inr (.inr (.inr (.inr F))))) (ht : (ty2 cI cR)[t0]? = some (cA, .object C)) {i : Int32} (hin : vp_in i n) (hdg : decode cc pc = .ok (.aaload, 1))
    (kk : W p l e R s m args below meth c H locs cells slots Q (F0 m (pc + 1) ls (va_rf (F i.toNatClampNeg) :: rest))) : W p l e R s m args below meth c H locs cells slots Q (F0 m pc ls (.int i :: .ref a :: rest)) := by
  obtain ⟨q0, hq⟩ := gw_pos (f := f) ha
  rw [he] at hq
  exact va_aldq X.1.1 X.1.2.1 X.2.1 w.1 q0 t0 hq ht hin hdg kk
/-- aastore of an object -/
theorem gk_aast (X : gx p m c cc nL s args own D cI cR) (w : gw D A H0 H locs L f) (t0 ci : Nat) {cA : ClassId} {r : vw_C} {n v : Nat} {vs : List Value} {F : Nat → Option Nat} (ha : a ∈ L) (he : f a = .inl (cA, n, .inr (.inr (.inr (.inr F))))) (ht : (ty2 cI cR)[t0]? = some (cA, .object r.1)) (hv : v ∈ L) (hve : f v = .inr (ci, vs)) (hc : cls5[ci]? = some r) {i : Int32} (hin : vp_in i n) (hdg : decode cc pc = .ok (.aastore, 1))
    (kk : ∀ (H1 : Heap) (locs1 : List Loc), gw D A H0 H1 locs1 L (va_up f a (.inl (cA, n, .inr (.inr (.inr (.inr (va_up F i.toNatClampNeg (some v)))))))) → W p l e R s m args below meth c H1 locs1 cells slots Q (F0 m (pc + 1) ls rest)) : W p l e R s m args below meth c H locs cells slots Q (F0 m pc ls (.ref v :: .int i :: .ref a :: rest)) := by
  obtain ⟨q0, hq⟩ := gw_pos (f := f) ha
  obtain ⟨q1, hq1⟩ := gw_pos (f := f) hv
  have hq' := hq
  rw [he] at hq
  rw [hve] at hq1
  refine va_astq X.1.1 X.1.2.1 X.2.1 w.1 w.2.1 w.2.2.1 q0 t0 q1 ci hq ht hq1 hc hin hdg (fun H1 locs1 hP hD hS => kk H1 locs1 ?_)
  rw [gw_set w ha hq'] at hP hD
  exact ⟨hP, hD, hS, w.2.2.2⟩
end GR
section GC
variable {p : Program} {l : Launch} {e : Env} {R : Room} {s : State} {m : MethodId} {args : Array Value} {below : List Frame} {meth : Method} {c : Code} {H : Heap} {locs : List Loc} {cells slots : Nat} {Q : State → Prop}
variable {cc : ByteArray} {pc nL : Nat} {ls : Array Slot} {rest st0 : List Value} {D : va_G} {A : Nat → Prop} {a : Nat} {cI cR : ClassId} {L : List Nat} {f : Nat → va_E} {H0 : Heap} {own : String}
variable {y : MethodName} {rm : Room} {bytes : ByteArray} {maxL n index : Nat} {ret : Option FieldType} {b : Nat} {As : List Value}
/-- what the table says of a method, its class and code; of one that is called on an object; of a static one -/
def gY (y : MethodName) (bytes : ByteArray) (maxL : Nat) (ret : Option FieldType) (n : Nat) : Prop :=
  Cond.code y bytes maxL ret ∈ lw_g ∧ Cond.initialized y.cls ∈ lw_g ∧ (y.cls ≠ "java/lang/invoke/MethodHandle" ∧ y.cls ≠ "java/lang/invoke/VarHandle" ∧ (parseMethodDescriptor y.desc).map (fun d => d.parameters.length) = some n)
def gYv (y : MethodName) : Prop := Cond.instanceMethod y ∈ lw_g ∧ Cond.selects y.cls y y ∈ lw_g
theorem gY_good (yk : gY y bytes maxL ret n) : GoodIn lw_g (Cond.code y bytes maxL ret :: lw_g) := by
  intro w hw
  rcases List.mem_cons.mp hw with h | h
  · subst h; exact ⟨yk.1, gd_g _ yk.1⟩
  · exact ⟨h, gd_g _ h⟩
/-- a method's walk from its entry -/
theorem g_enter {av : List Value} {sz mc ms : Nat} {Qc : Array Value → State → Outcome → State → Prop} {ws : List Cond} (hy : plainName y.cls = true) (hw : ws = Cond.code y cc maxL ret :: lw_g) (hlen : (lg_sl av).length ≤ maxL)
    (body : ∀ (p : Program) (e : Env) (s : State) (m : MethodId) (below : List Frame) (meth : Method) (c : Code) (ls : Array Slot), gx p m c cc maxL s av.toArray y.cls D cI cR → meth.sig.returnType = ret → meth.locks = false → meth.name = y.name → lv_has ls maxL (lv_args 0 av) → s.heap.size = sz → gw D (gA L sz) s.heap s.heap [] L f → W p l e rm s m av.toArray below meth c s.heap [] 0 0 (MQ below Qc av.toArray s mc ms (gA L sz)) (F0 m 0 ls [])) : Met l y ws rm (va_Pc av (gP D cI cR L f sz)) Qc mc ms (gA L sz) := by
  refine Met.ofW (cc := cc) (maxL := maxL) (ret := ret) hy hw ?_
  intro p e s m args below meth c s₁ B hml hv
  obtain ⟨rfl, hsz, hP, hK, hD0, hE⟩ := hv
  have hts := atoms_spec (ws := ws) B.pre
  have hown := findClass_of_methodNamed B.named
  have hl := lv_entry av (n := maxL) hlen
  rw [lg_entry_eq]
  refine body p e s m below meth c _ ⟨⟨B.exec, B.bytes, hml, hown, fun w h => hts w (by rw [hw]; exact List.mem_cons_of_mem _ h)⟩, hK, hE⟩ B.returns B.notSynchronized (name_of_methodNamed B.named B.method).1 hl hsz ⟨hP, ?_, va_S.rf, fun q h => Or.inr (by rw [← hsz]; exact h)⟩
  have h := hD0.self (sz := sz)
  rw [ga_A] at h
  exact h
theorem g_iret {r : Int32} {g : Nat → va_E} {post : Int32 → List Nat × (Nat → va_E) → Prop} (X : gx p m c cc nL s args own D cI cR) (w : gw D A s.heap H locs L g) (hr : meth.sig.returnType = some .int) (hlocks : meth.locks = false) (hdg : decode cc pc = .ok (.ireturn, 1)) (hq : post r (L, g)) : W p l e R s m args below meth c H locs cells slots (MQ below (va_Qi post (gB D cI cR A) A) args s cells slots A) (F0 m pc ls [.int r]) :=
  W.iret X.1.1 X.1.2.1 hr (fun t ht hW => ⟨⟨r, (L, g), rfl, hq, by rw [ht]; exact w.1, va_K.moved hW.alike X.2.1, w.2.1⟩, w.2.2.1.F ht⟩) w.2.2.1.2.2 hdg hlocks
theorem g_zret {r : Int32} {g : Nat → va_E} {post : Int32 → List Nat × (Nat → va_E) → Prop} {ty : FieldType} (X : gx p m c cc nL s args own D cI cR) (w : gw D A s.heap H locs L g) (hr : meth.sig.returnType = some ty) (hlocks : meth.locks = false) (hdg : decode cc pc = .ok (.ireturn, 1)) (hn : narrow ty (.int r) = .int r) (hq : post r (L, g)) : W p l e R s m args below meth c H locs cells slots (MQ below (va_Qi post (gB D cI cR A) A) args s cells slots A) (F0 m pc ls [.int r]) :=
  W.zret X.1.1 X.1.2.1 hr hn (fun t ht hW => ⟨⟨r, (L, g), rfl, hq, by rw [ht]; exact w.1, va_K.moved hW.alike X.2.1, w.2.1⟩, w.2.2.1.F ht⟩) w.2.2.1.2.2 hdg hlocks
theorem g_lret {r : Int64} {g : Nat → va_E} {post : Int64 → List Nat × (Nat → va_E) → Prop} (X : gx p m c cc nL s args own D cI cR) (w : gw D A s.heap H locs L g) (hr : meth.sig.returnType = some .long) (hlocks : meth.locks = false) (hdg : decode cc pc = .ok (.lreturn, 1)) (hq : post r (L, g)) : W p l e R s m args below meth c H locs cells slots (MQ below (va_Ql post (gB D cI cR A) A) args s cells slots A) (F0 m pc ls [.long r]) :=
  W.lret X.1.1 X.1.2.1 hr (fun t ht hW => ⟨⟨r, (L, g), rfl, hq, by rw [ht]; exact w.1, va_K.moved hW.alike X.2.1, w.2.1⟩, w.2.2.1.F ht⟩) w.2.2.1.2.2 hdg hlocks
theorem g_vret {g : Nat → va_E} {post : List Nat × (Nat → va_E) → Prop} (X : gx p m c cc nL s args own D cI cR) (w : gw D A s.heap H locs L g) (hr : meth.sig.returnType = none) (hlocks : meth.locks = false) (hdg : decode cc pc = .ok (.return_, 1)) (hq : post (L, g)) : W p l e R s m args below meth c H locs cells slots (MQ below (va_Qv post (gB D cI cR A) A) args s cells slots A) (F0 m pc ls []) :=
  W.vret X.1.1 X.1.2.1 hr (fun t ht hW => ⟨⟨(L, g), rfl, hq, by rw [ht]; exact w.1, va_K.moved hW.alike X.2.1, w.2.1⟩, w.2.2.1.F ht⟩) w.2.2.1.2.2 hdg hlocks
theorem g_qret {r : Option Nat} {g : Nat → va_E} {post : Option Nat → List Nat × (Nat → va_E) → Prop} {rt : FieldType} (X : gx p m c cc nL s args own D cI cR) (w : gw D A s.heap H locs L g) (hr : meth.sig.returnType = some rt) (hrt : (∃ n, rt = .object n) ∨ ∃ t, rt = .array t) (hlocks : meth.locks = false) (hdg : decode cc pc = .ok (.areturn, 1)) (hq : post r (L, g)) : W p l e R s m args below meth c H locs cells slots (MQ below (va_Qq post (gB D cI cR A) A) args s cells slots A) (F0 m pc ls [va_rf r]) :=
  W.aret X.1.1 X.1.2.1 hr hrt (by cases r with | none => exact Or.inl rfl | some q => exact Or.inr ⟨q, rfl⟩) (fun t ht hW => ⟨⟨r, (L, g), rfl, hq, by rw [ht]; exact w.1, va_K.moved hW.alike X.2.1, w.2.1⟩, w.2.2.1.F ht⟩) w.2.2.1.2.2 hdg hlocks
/-- calls: the run -/
theorem g_pre (X : gx p m c cc nL s args own D cI cR) (w : gw D A H0 H locs L f) (av : List Value) : PreS s H (va_Pc av (gP D cI cR L f H.size)) av :=
  ⟨gp_blind, fun U hU hW => ⟨rfl, by rw [hU], by rw [hU]; exact w.1, va_K.moved hW.alike X.2.1, w.2.1.weaken (fun _ _ _ _ => trivial), gE_warm hW X.2.2⟩⟩
theorem g_runV {Qc : Nat → Array Value → State → Outcome → State → Prop} (X : gx p m c cc nL s args own D cI cR) (w : gw D A H0 H locs L f) (hM : ∀ sz, Met l y (Cond.code y bytes maxL ret :: lw_g) rm (va_Pc (.ref b :: As) (gP D cI cR L f sz)) (Qc sz) rm.cells rm.slots (gA L sz)) (yk : gY y bytes maxL ret n) (yv : gYv y) (hlk : Cond.methodLink own index y ∈ lw_g) {ci N : Nat} {T : u_T} {fs : List Value} (hb : b ∈ L) (he : f b = .inr (ci, fs)) (hc : cls5[ci]? = some (y.cls, T, N)) (hR : rm.frames + 1 ≤ R.frames ∧ 8 + (maxL + 11) + rm.locals ≤ R.locals) (hn : As.length = n) (hsize : ls.size = nL) (hst : st0 = As.reverse ++ .ref b :: rest) (hroom : (rest.map fun v => v.category).sum ≤ 8) (hdg : decode cc pc = .ok (.invokevirtual index, 3)) (hcs : cells + rm.cells ≤ R.cells ∧ slots + rm.slots ≤ R.slots) :
    va_Run p l e R s m args below meth c H locs cells slots rm.cells rm.slots (F0 m pc ls st0) rest (Qc H.size (Value.ref b :: As).toArray) (gA L H.size) := by
  have hG : GoodIn lw_g (wsV own index y.cls y (Cond.code y bytes maxL ret :: lw_g)) := by
    intro w hw
    rcases List.mem_append.mp hw with h | h
    · have hm : w ∈ lw_g := by
        simp only [List.mem_cons, List.not_mem_nil, or_false] at h
        rcases h with h | h | h | h <;> subst h
        · exact hlk
        · exact yv.1
        · exact yv.2
        · exact yk.2.1
      exact ⟨hm, gd_g _ hm⟩
    · exact gY_good yk w h
  obtain ⟨q0, hq⟩ := gw_pos (f := f) hb
  rw [he] at hq
  exact va_runV X.1 (hM H.size) (cwV n X.1.2.2.2.2 hG rfl rfl rfl ⟨rfl, yk.2.2⟩ hR) ⟨(g_pre X w _).1, va_recv X.2.1 w.1 hc hq, (g_pre X w _).2⟩ rfl hn hsize hst (lv_room hroom) hdg hcs
theorem g_runS {Qc : Nat → Array Value → State → Outcome → State → Prop} (X : gx p m c cc nL s args own D cI cR) (w : gw D A H0 H locs L f) (hM : ∀ sz, Met l y (Cond.code y bytes maxL ret :: lw_g) rm (va_Pc As (gP D cI cR L f sz)) (Qc sz) rm.cells rm.slots (gA L sz)) (yk : gY y bytes maxL ret n) (hlk : Cond.methodLink own index y ∈ lw_g) (hs : Cond.static y ∈ lw_g) (hR : rm.frames + 1 ≤ R.frames ∧ 8 + (maxL + 11) + rm.locals ≤ R.locals) (hn : As.length = n) (hsize : ls.size = nL) (hst : st0 = As.reverse ++ rest) (hroom : (rest.map fun v => v.category).sum ≤ 8) (hdg : decode cc pc = .ok (.invokestatic index, 3)) (hcs : cells + rm.cells ≤ R.cells ∧ slots + rm.slots ≤ R.slots) :
    va_Run p l e R s m args below meth c H locs cells slots rm.cells rm.slots (F0 m pc ls st0) rest (Qc H.size As.toArray) (gA L H.size) := by
  have hts := X.1.2.2.2.2
  exact va_runS X.1 (hM H.size) ⟨callB_of n hts (gY_good yk) rfl rfl rfl (hts _ yk.2.1) (hts _ hlk) yk.2.2 hR, hts _ hs⟩ (g_pre X w _) rfl hn hsize hst (lv_room hroom) hdg hcs
theorem g_runSN {Qc : Nat → Array Value → State → Outcome → State → Prop} {host : String} (X : gx p m c cc nL s args own D cI cR) (w : gw D A H0 H locs L f) (hM : ∀ sz, Met l y (Cond.code y bytes maxL ret :: lw_g) rm (va_Pc As (gP D cI cR L f sz)) (Qc sz) rm.cells rm.slots (gA L sz)) (yk : gY y bytes maxL ret n) (hlk : va_Nw (.methodLinkNest own index y host) s) (hs : Cond.static y ∈ lw_g) (hR : rm.frames + 1 ≤ R.frames ∧ 8 + (maxL + 11) + rm.locals ≤ R.locals) (hn : As.length = n) (hsize : ls.size = nL) (hst : st0 = As.reverse ++ rest) (hroom : (rest.map fun v => v.category).sum ≤ 8) (hdg : decode cc pc = .ok (.invokestatic index, 3)) (hcs : cells + rm.cells ≤ R.cells ∧ slots + rm.slots ≤ R.slots) :
    va_Run p l e R s m args below meth c H locs cells slots rm.cells rm.slots (F0 m pc ls st0) rest (Qc H.size As.toArray) (gA L H.size) := by
  have hts := X.1.2.2.2.2
  exact va_runSN X.1 (hM H.size) ⟨va_cnB n hts (gY_good yk) rfl rfl rfl hlk (hts _ yk.2.1) yk.2.2 hR, hts _ hs, trivial⟩ (g_pre X w _) rfl hn hsize hst (lv_room hroom) hdg hcs
theorem g_runI {Qc : Nat → Array Value → State → Outcome → State → Prop} (X : gx p m c cc nL s args own D cI cR) (w : gw D A H0 H locs L f) (hM : ∀ sz, Met l y (Cond.code y bytes maxL none :: lw_g) rm (va_Pc (.ref b :: As) (gP D cI cR L f sz)) (Qc sz) rm.cells rm.slots (gA L sz)) (yk : gY y bytes maxL none n) (hyn : y.name = "<init>") (hi : Cond.instanceMethod y ∈ lw_g) (hlk : Cond.methodLink own index y ∈ lw_g) (hR : rm.frames + 1 ≤ R.frames ∧ 8 + (maxL + 11) + rm.locals ≤ R.locals) (hn : As.length = n) (hsize : ls.size = nL) (hst : st0 = As.reverse ++ .ref b :: rest) (hroom : (rest.map fun v => v.category).sum ≤ 8) (hdg : decode cc pc = .ok (.invokespecial index, 3)) (hcs : cells + rm.cells ≤ R.cells ∧ slots + rm.slots ≤ R.slots) :
    va_Run p l e R s m args below meth c H locs cells slots rm.cells rm.slots (F0 m pc ls st0) rest (Qc H.size (Value.ref b :: As).toArray) (gA L H.size) := by
  have hts := X.1.2.2.2.2
  exact va_runI X.1 (hM H.size) ⟨callB_of n hts (gY_good yk) rfl rfl rfl (hts _ yk.2.1) (hts _ hlk) yk.2.2 hR, hyn, hts _ hi⟩ (g_pre X w _) rfl hn hsize hst (lv_room hroom) hdg hcs
/-- calls: what goes on behind them -/
theorem g_back {u : List Nat × (Nat → va_E)} {t : State} {H1 : Heap} {locs1 : List Loc} (w : gw D A H0 H locs L f) (ht : t.heap = H1) (hB : gB D cI cR (gA L H.size) u t) (hS : va_S A H0 H1 locs1) : gw D A H0 H1 locs1 u.1 u.2 :=
  ⟨by rw [← ht]; exact hB.1, hB.2.2.weaken (fun _ _ _ h => gw_in w _ h), hS, w.2.2.2⟩
theorem g_ci {mc ms : Nat} {a : Array Value} {post : Int32 → List Nat × (Nat → va_E) → Prop} (w : gw D A H0 H locs L f) (hr : va_Run p l e R s m args below meth c H locs cells slots mc ms (F0 m pc ls st0) rest (va_Qi post (gB D cI cR (gA L H.size)) (gA L H.size) a) (gA L H.size))
    (kk : ∀ (r : Int32) (u : List Nat × (Nat → va_E)) (H1 : Heap) (locs1 : List Loc), post r u → gw D A H0 H1 locs1 u.1 u.2 → W p l e R s m args below meth c H1 locs1 (cells + mc) (slots + ms) Q (F0 m (pc + 3) ls (.int r :: rest))) : W p l e R s m args below meth c H locs cells slots Q (F0 m pc ls st0) :=
  va_calli hr w.2.2.1 (fun q _ h => gw_in w q h) (gw_in w) (fun r u _ H1 locs1 ht _ hp hB _ _ hS => kk r u H1 locs1 hp (g_back w ht hB hS))
theorem g_cl {mc ms : Nat} {a : Array Value} {post : Int64 → List Nat × (Nat → va_E) → Prop} (w : gw D A H0 H locs L f) (hr : va_Run p l e R s m args below meth c H locs cells slots mc ms (F0 m pc ls st0) rest (va_Ql post (gB D cI cR (gA L H.size)) (gA L H.size) a) (gA L H.size))
    (kk : ∀ (r : Int64) (u : List Nat × (Nat → va_E)) (H1 : Heap) (locs1 : List Loc), post r u → gw D A H0 H1 locs1 u.1 u.2 → W p l e R s m args below meth c H1 locs1 (cells + mc) (slots + ms) Q (F0 m (pc + 3) ls (.long r :: rest))) : W p l e R s m args below meth c H locs cells slots Q (F0 m pc ls st0) :=
  va_calll hr w.2.2.1 (fun q _ h => gw_in w q h) (gw_in w) (fun r u _ H1 locs1 ht _ hp hB _ _ hS => kk r u H1 locs1 hp (g_back w ht hB hS))
theorem g_cv {mc ms : Nat} {a : Array Value} {post : List Nat × (Nat → va_E) → Prop} (w : gw D A H0 H locs L f) (hr : va_Run p l e R s m args below meth c H locs cells slots mc ms (F0 m pc ls st0) rest (va_Qv post (gB D cI cR (gA L H.size)) (gA L H.size) a) (gA L H.size))
    (kk : ∀ (u : List Nat × (Nat → va_E)) (H1 : Heap) (locs1 : List Loc), post u → gw D A H0 H1 locs1 u.1 u.2 → W p l e R s m args below meth c H1 locs1 (cells + mc) (slots + ms) Q (F0 m (pc + 3) ls rest)) : W p l e R s m args below meth c H locs cells slots Q (F0 m pc ls st0) :=
  va_callv hr w.2.2.1 (fun q _ h => gw_in w q h) (gw_in w) (fun u _ H1 locs1 ht _ hp hB _ _ hS => kk u H1 locs1 hp (g_back w ht hB hS))
theorem g_cq {mc ms : Nat} {a : Array Value} {post : Option Nat → List Nat × (Nat → va_E) → Prop} (w : gw D A H0 H locs L f) (hr : va_Run p l e R s m args below meth c H locs cells slots mc ms (F0 m pc ls st0) rest (va_Qq post (gB D cI cR (gA L H.size)) (gA L H.size) a) (gA L H.size))
    (kk : ∀ (r : Option Nat) (u : List Nat × (Nat → va_E)) (H1 : Heap) (locs1 : List Loc), post r u → gw D A H0 H1 locs1 u.1 u.2 → W p l e R s m args below meth c H1 locs1 (cells + mc) (slots + ms) Q (F0 m (pc + 3) ls (va_rf r :: rest))) : W p l e R s m args below meth c H locs cells slots Q (F0 m pc ls st0) :=
  va_callq hr w.2.2.1 (fun q _ h => gw_in w q h) (gw_in w) (fun r u _ H1 locs1 ht _ hp hB _ _ hS => kk r u H1 locs1 hp (g_back w ht hB hS))
end GC
section GN
variable {p : Program} {l : Launch} {e : Env} {R : Room} {s : State} {m : MethodId} {args : Array Value} {below : List Frame} {meth : Method} {c : Code} {H : Heap} {locs : List Loc} {cells slots : Nat} {Q : State → Prop}
variable {cc : ByteArray} {pc nL : Nat} {ls : Array Slot} {rest : List Value} {D : va_G} {A : Nat → Prop} {a : Nat} {cI cR : ClassId} {L : List Nat} {f : Nat → va_E} {H0 : Heap} {own : String}
theorem gw_push {q : Nat} {e' : va_E} {H1 : Heap} {locs1 : List Loc} (w : gw D A H0 H locs L f) (hP : va_P D cls5 (va_pl L f ++ [(q, e')]) H1) (hD : va_D A (va_pl L f ++ [(q, e')])) (hS : va_S A H0 H1 locs1) : q ∉ L ∧ gw D A H0 H1 locs1 (L ++ [q]) (va_up f q e') := by
  have hq : q ∉ L := va_pl_fresh2 (X := []) hD
  rw [va_pl_push hq] at hP hD
  exact ⟨hq, hP, hD, hS, w.2.2.2⟩
/-- newarray int -/
theorem gk_newi (X : gx p m c cc nL s args own D cI cR) (w : gw D A H0 H locs L f) (t0 : Nat) {cA : ClassId} (ht : (ty2 cI cR)[t0]? = some (cA, .int)) (harr : Cond.arrayClass .int ∈ lw_g) {n : Int32} (N' : Nat) (hn : ¬ n < 0) (hN : n.toNatClampNeg = N') (hbytes : N' ≤ 100000) (hcells : cells + 1 ≤ R.cells) (hslots : slots + N' ≤ R.slots) (hdg : decode cc pc = .ok (.newarray .int, 2))
    (kk : ∀ (q : Nat) (H1 : Heap), q ∉ L → gw D A H0 H1 locs (L ++ [q]) (va_up f q (.inl (cA, N', .inl (fun _ => 0)))) → W p l e R s m args below meth c H1 locs (cells + 1) (slots + N') Q (F0 m (pc + 2) ls (.ref q :: rest))) : W p l e R s m args below meth c H locs cells slots Q (F0 m pc ls (.int n :: rest)) := by
  refine va_newa (atype := .int) (a0 := (N', .inl (fun _ => 0))) X.1.1 X.1.2.1 (X.1.2.2.2.2 _ harr) rfl X.2.1 w.1 w.2.1 w.2.2.1 w.2.2.2 (fun _ => rfl) hn hN (by show N' * 4 ≤ _; omega) hcells hslots hdg (fun q cB H1 hK hP hD hS => ?_)
  have h1 : s.vm.findClass ("[" ++ FieldType.int.toString) = some cA := (X.2.1.2 t0 _ ht).2
  have h2 : s.vm.findClass ("[" ++ FieldType.int.toString) = some cB := (hK.2 (ty2 cI cR).length (cB, .int) (by simp [newarray.typeOf])).2
  have h3 : cA = cB := Option.some.inj (h1.symm.trans h2)
  subst h3
  obtain ⟨hq, w'⟩ := gw_push w hP hD hS
  exact kk q H1 hq w'
/-- anewarray -/
theorem gk_newq (X : gx p m c cc nL s args own D cI cR) (w : gw D A H0 H locs L f) (t0 : Nat) {cA : ClassId} {C : String} {index : Nat} (ht : (ty2 cI cR)[t0]? = some (cA, .object C)) (harr : va_AO C s) (hcl : Cond.classLink own index C ∈ lw_g) {n : Int32} (N' : Nat) (hn : ¬ n < 0) (hN : n.toNatClampNeg = N') (hbytes : N' ≤ 100000) (hcells : cells + 1 ≤ R.cells) (hslots : slots + N' ≤ R.slots) (hdg : decode cc pc = .ok (.anewarray index, 3))
    (kk : ∀ (q : Nat) (H1 : Heap), q ∉ L → gw D A H0 H1 locs (L ++ [q]) (va_up f q (.inl (cA, N', .inr (.inr (.inr (.inr (fun _ => none))))))) → W p l e R s m args below meth c H1 locs (cells + 1) (slots + N') Q (F0 m (pc + 3) ls (.ref q :: rest))) : W p l e R s m args below meth c H locs cells slots Q (F0 m pc ls (.int n :: rest)) := by
  refine va_newq X.1.1 X.1.2.1 X.1.2.2.2.1 (X.1.2.2.2.2 _ hcl) harr X.2.1 w.1 w.2.1 w.2.2.1 w.2.2.2 hn hN (by omega) hcells hslots hdg (fun q cB H1 hK hP hD hS => ?_)
  obtain ⟨-, -, -, -, -, h1⟩ := (X.2.1.2 t0 _ ht).2
  obtain ⟨-, -, -, -, -, h2⟩ := (hK.2 (ty2 cI cR).length (cB, .object C) (by simp)).2
  have h3 : cA = cB := Option.some.inj (h1.symm.trans h2)
  subst h3
  obtain ⟨hq, w'⟩ := gw_push w hP hD hS
  exact kk q H1 hq w'
/-- new -/
theorem gk_new (X : gx p m c cc nL s args own D cI cR) (w : gw D A H0 H locs L f) {C : String} {T : u_T} {N ci index : Nat} (hin : ∀ w ∈ u_ws C T N, w ∈ lw_g) (ty : Nat → FieldType) (hty : ∀ k, k < N → parseFieldDescriptor (T k).2.2.1 = some (ty k)) (hcl : Cond.classLink own index C ∈ lw_g) (hinst : Cond.instantiable C N ∈ lw_g) (hini : Cond.initialized C ∈ lw_g) (hc : cls5[ci]? = some (C, T, N)) (fs : List Value) (hfs : ∀ j, j < N → defaultValue (ty j) = vp_V fs j) (hcells : cells + 1 ≤ R.cells) (hslots : slots + N ≤ R.slots) (hdg : decode cc pc = .ok (.new index, 3))
    (kk : ∀ (q : Nat) (H1 : Heap), q ∉ L → gw D A H0 H1 locs (L ++ [q]) (va_up f q (.inr (ci, fs))) → W p l e R s m args below meth c H1 locs (cells + 1) (slots + N) Q (F0 m (pc + 3) ls (.ref q :: rest))) : W p l e R s m args below meth c H locs cells slots Q (F0 m pc ls rest) := by
  have hts := X.1.2.2.2.2
  refine va_new (ci := ci) (fs := fs) X.1.1 X.1.2.1 hts hin ty hty X.1.2.2.2.1 (hts _ hcl) (hts _ hinst) (hts _ hini) X.2.1 w.1 w.2.1 w.2.2.1 w.2.2.2 hc hfs hcells hslots hdg (fun q H1 hP hD hS => ?_)
  obtain ⟨hq, w'⟩ := gw_push w hP hD hS
  exact kk q H1 hq w'
end GN
end
section
/-! whole numbers for the machine's: iN z, jN z are the int and the long of z -/
def iN (z : Int) : Int32 := Int32.ofInt z
def jN (z : Int) : Int64 := Int64.ofInt z
def i3 (z : Int) : Prop := -2147483648 ≤ z ∧ z ≤ 2147483647
def i6 (z : Int) : Prop := -9223372036854775808 ≤ z ∧ z ≤ 9223372036854775807
theorem iN_add (a b : Int) : iN a + iN b = iN (a + b) := (Int32.ofInt_add a b).symm
theorem iN_sub (a b : Int) : iN a - iN b = iN (a - b) := (Int32.ofInt_sub a b).symm
theorem iN_mul (a b : Int) : iN a * iN b = iN (a * b) := (Int32.ofInt_mul a b).symm
theorem iN_neg (a : Int) : -iN a = iN (-a) := (Int32.ofInt_neg a).symm
theorem jN_add (a b : Int) : jN a + jN b = jN (a + b) := (Int64.ofInt_add a b).symm
theorem jN_sub (a b : Int) : jN a - jN b = jN (a - b) := (Int64.ofInt_sub a b).symm
theorem jN_mul (a b : Int) : jN a * jN b = jN (a * b) := (Int64.ofInt_mul a b).symm
theorem jN_neg (a : Int) : -jN a = jN (-a) := (Int64.ofInt_neg a).symm
theorem iN_T {z : Int} (h : i3 z) : (iN z).toInt = z := Int32.toInt_ofInt_of_le (by have := h.1; omega) (by have := h.2; omega)
theorem jN_T {z : Int} (h : i6 z) : (jN z).toInt = z := Int64.toInt_ofInt_of_le (by have := h.1; omega) (by have := h.2; omega)
theorem iN_self (x : Int32) : iN x.toInt = x := Int32.ofInt_toInt x
theorem jN_self (x : Int64) : jN x.toInt = x := Int64.ofInt_toInt x
theorem iN_i3 (x : Int32) : i3 x.toInt := ⟨by have := x.le_toInt; omega, by have := x.toInt_lt; omega⟩
theorem jN_i6 (x : Int64) : i6 x.toInt := ⟨by have := x.le_toInt; omega, by have := x.toInt_lt; omega⟩
theorem iN_ex (x : Int32) : ∃ z, i3 z ∧ x = iN z := ⟨x.toInt, iN_i3 x, (iN_self x).symm⟩
theorem iN_lt {a b : Int} (ha : i3 a) (hb : i3 b) : iN a < iN b ↔ a < b := by rw [Int32.lt_iff_toInt_lt, iN_T ha, iN_T hb]
theorem iN_le {a b : Int} (ha : i3 a) (hb : i3 b) : iN a ≤ iN b ↔ a ≤ b := by rw [Int32.le_iff_toInt_le, iN_T ha, iN_T hb]
theorem iN_eq {a b : Int} (ha : i3 a) (hb : i3 b) : iN a = iN b ↔ a = b := by rw [← Int32.toInt_inj, iN_T ha, iN_T hb]
theorem jN_lt {a b : Int} (ha : i6 a) (hb : i6 b) : jN a < jN b ↔ a < b := by rw [Int64.lt_iff_toInt_lt, jN_T ha, jN_T hb]
theorem jN_le {a b : Int} (ha : i6 a) (hb : i6 b) : jN a ≤ jN b ↔ a ≤ b := by rw [Int64.le_iff_toInt_le, jN_T ha, jN_T hb]
theorem jN_eq {a b : Int} (ha : i6 a) (hb : i6 b) : jN a = jN b ↔ a = b := by rw [← Int64.toInt_inj, jN_T ha, jN_T hb]
theorem iN_l {a : Int} (ha : i3 a) : (iN a).toInt64 = jN a := Int64.toInt.inj (by rw [Int32.toInt_toInt64, iN_T ha, jN_T ⟨by have := ha.1; omega, by have := ha.2; omega⟩])
theorem jN_i {a : Int} (ha : i6 a) : (jN a).toInt32 = iN a := by
  rw [← Int32.ofInt_int64ToInt, jN_T ha]; rfl
theorem iN_nI (n : Nat) : nI n = iN n := (Int32.ofInt_eq_ofNat).symm
theorem iN_cl {n : Nat} (h : n < 2147483648) : (iN n).toNatClampNeg = n := by
  rw [← iN_nI]; exact nI_clamp h
theorem iN_in {n N : Nat} (h : n < N) (hN : N < 2147483648) : vp_in (iN n) N := by
  rw [← iN_nI]; exact vp_in_nI h hN
theorem iN_div {a b : Int} (ha : i3 a) (hb : 0 < b) (hb2 : i3 b) : iN a / iN b = iN (a.tdiv b) := by
  refine (Int32.ofInt_tdiv ?_ ?_ ?_ ?_).symm
  · exact ha.1
  · exact ha.2
  · exact hb2.1
  · exact hb2.2
theorem jN_div {a b : Int} (ha : i6 a) (hb2 : i6 b) : jN a / jN b = jN (a.tdiv b) := by
  refine (Int64.ofInt_tdiv ?_ ?_ ?_ ?_).symm
  · exact ha.1
  · exact ha.2
  · exact hb2.1
  · exact hb2.2
theorem jN_rem {a b : Int} (ha : i6 a) (hb2 : i6 b) : jN a - jN a / jN b * jN b = jN (a.tmod b) := by
  rw [jN_div ha hb2, jN_mul, jN_sub]
  congr 1
  rw [Int.tmod_def, Int.mul_comm]
section RI
variable {p : Program} {l : Launch} {e : Env} {R : Room} {s : State} {m : MethodId} {args : Array Value} {below : List Frame} {meth : Method} {c : Code} {H : Heap} {locs : List Loc} {cells slots : Nat} {Q : State → Prop} {cc : ByteArray} {pc : Nat} {ls : Array Slot} {rest : List Value}
theorem ri_add (hx : p.tables.exec = Jvm.exec) (hb : c.code = cc) {x y : Int32} {a b : Int} (hdg : decode cc pc = .ok (.iadd, 1)) (e1 : x = iN a) (e2 : y = iN b) (k : W p l e R s m args below meth c H locs cells slots Q (F0 m (pc + 1) ls (.int (iN (a + b)) :: rest))) : W p l e R s m args below meth c H locs cells slots Q (F0 m pc ls (.int y :: .int x :: rest)) := by
  subst e1; subst e2
  refine lv_iadd hx hb hdg ?_
  rw [iN_add]
  exact k
theorem rj_add (hx : p.tables.exec = Jvm.exec) (hb : c.code = cc) {x y : Int64} {a b : Int} (hdg : decode cc pc = .ok (.ladd, 1)) (e1 : x = jN a) (e2 : y = jN b) (k : W p l e R s m args below meth c H locs cells slots Q (F0 m (pc + 1) ls (.long (jN (a + b)) :: rest))) : W p l e R s m args below meth c H locs cells slots Q (F0 m pc ls (.long y :: .long x :: rest)) := by
  subst e1; subst e2
  refine lv_ladd hx hb hdg ?_
  rw [jN_add]
  exact k
theorem ri_sub (hx : p.tables.exec = Jvm.exec) (hb : c.code = cc) {x y : Int32} {a b : Int} (hdg : decode cc pc = .ok (.isub, 1)) (e1 : x = iN a) (e2 : y = iN b) (k : W p l e R s m args below meth c H locs cells slots Q (F0 m (pc + 1) ls (.int (iN (a - b)) :: rest))) : W p l e R s m args below meth c H locs cells slots Q (F0 m pc ls (.int y :: .int x :: rest)) := by
  subst e1; subst e2
  refine lv_isub hx hb hdg ?_
  rw [iN_sub]
  exact k
theorem rj_sub (hx : p.tables.exec = Jvm.exec) (hb : c.code = cc) {x y : Int64} {a b : Int} (hdg : decode cc pc = .ok (.lsub, 1)) (e1 : x = jN a) (e2 : y = jN b) (k : W p l e R s m args below meth c H locs cells slots Q (F0 m (pc + 1) ls (.long (jN (a - b)) :: rest))) : W p l e R s m args below meth c H locs cells slots Q (F0 m pc ls (.long y :: .long x :: rest)) := by
  subst e1; subst e2
  refine lv_lsub hx hb hdg ?_
  rw [jN_sub]
  exact k
theorem ri_mul (hx : p.tables.exec = Jvm.exec) (hb : c.code = cc) {x y : Int32} {a b : Int} (hdg : decode cc pc = .ok (.imul, 1)) (e1 : x = iN a) (e2 : y = iN b) (k : W p l e R s m args below meth c H locs cells slots Q (F0 m (pc + 1) ls (.int (iN (a * b)) :: rest))) : W p l e R s m args below meth c H locs cells slots Q (F0 m pc ls (.int y :: .int x :: rest)) := by
  subst e1; subst e2
  refine lv_imul hx hb hdg ?_
  rw [iN_mul]
  exact k
theorem rj_mul (hx : p.tables.exec = Jvm.exec) (hb : c.code = cc) {x y : Int64} {a b : Int} (hdg : decode cc pc = .ok (.lmul, 1)) (e1 : x = jN a) (e2 : y = jN b) (k : W p l e R s m args below meth c H locs cells slots Q (F0 m (pc + 1) ls (.long (jN (a * b)) :: rest))) : W p l e R s m args below meth c H locs cells slots Q (F0 m pc ls (.long y :: .long x :: rest)) := by
  subst e1; subst e2
  refine lv_lmul hx hb hdg ?_
  rw [jN_mul]
  exact k
theorem ri_neg (hx : p.tables.exec = Jvm.exec) (hb : c.code = cc) {x : Int32} {a : Int} (hdg : decode cc pc = .ok (.ineg, 1)) (e1 : x = iN a) (k : W p l e R s m args below meth c H locs cells slots Q (F0 m (pc + 1) ls (.int (iN (-a)) :: rest))) : W p l e R s m args below meth c H locs cells slots Q (F0 m pc ls (.int x :: rest)) := by
  subst e1
  refine lv_ineg hx hb hdg ?_
  rw [iN_neg]
  exact k
theorem rj_neg (hx : p.tables.exec = Jvm.exec) (hb : c.code = cc) {x : Int64} {a : Int} (hdg : decode cc pc = .ok (.lneg, 1)) (e1 : x = jN a) (k : W p l e R s m args below meth c H locs cells slots Q (F0 m (pc + 1) ls (.long (jN (-a)) :: rest))) : W p l e R s m args below meth c H locs cells slots Q (F0 m pc ls (.long x :: rest)) := by
  subst e1
  refine lv_lneg hx hb hdg ?_
  rw [jN_neg]
  exact k
theorem ri_i2l (hx : p.tables.exec = Jvm.exec) (hb : c.code = cc) {x : Int32} {a : Int} (hdg : decode cc pc = .ok (.i2l, 1)) (e1 : x = iN a) (ha : i3 a) (k : W p l e R s m args below meth c H locs cells slots Q (F0 m (pc + 1) ls (.long (jN a) :: rest))) : W p l e R s m args below meth c H locs cells slots Q (F0 m pc ls (.int x :: rest)) := by
  subst e1
  exact lv_i2l hx hb hdg (iN_l ha) k
theorem ri_l2i (hx : p.tables.exec = Jvm.exec) (hb : c.code = cc) {x : Int64} {a : Int} (hdg : decode cc pc = .ok (.l2i, 1)) (e1 : x = jN a) (ha : i6 a) (k : W p l e R s m args below meth c H locs cells slots Q (F0 m (pc + 1) ls (.int (iN a) :: rest))) : W p l e R s m args below meth c H locs cells slots Q (F0 m pc ls (.long x :: rest)) := by
  subst e1
  exact lv_l2i hx hb hdg (jN_i ha) k
theorem ri_ceq (hx : p.tables.exec = Jvm.exec) (hb : c.code = cc) {x y : Int32} {a b : Int} {off : Int} {tgt : Nat} (hdg : decode cc pc = .ok (.if_icmp .eq off, 3)) (ht : (pc : Int) + off = (tgt : Int)) (e1 : x = iN a) (e2 : y = iN b) (ha : i3 a) (hb3 : i3 b) (kt : a = b → W p l e R s m args below meth c H locs cells slots Q (F0 m tgt ls (rest))) (kf : ¬ (a = b) → W p l e R s m args below meth c H locs cells slots Q (F0 m (pc + 3) ls (rest))) : W p l e R s m args below meth c H locs cells slots Q (F0 m pc ls (.int y :: .int x :: rest)) := by
  subst e1; subst e2
  exact lv_icmp_eq hx hb hdg ht (fun h => kt ((iN_eq ha hb3).mp h)) (fun h => kf (fun q => h ((iN_eq ha hb3).mpr q)))
theorem ri_zeq (hx : p.tables.exec = Jvm.exec) (hb : c.code = cc) {x : Int32} {a : Int} {off : Int} {tgt : Nat} (hdg : decode cc pc = .ok (.ifCond .eq off, 3)) (ht : (pc : Int) + off = (tgt : Int)) (e1 : x = iN a) (ha : i3 a) (kt : a = 0 → W p l e R s m args below meth c H locs cells slots Q (F0 m tgt ls (rest))) (kf : ¬ (a = 0) → W p l e R s m args below meth c H locs cells slots Q (F0 m (pc + 3) ls (rest))) : W p l e R s m args below meth c H locs cells slots Q (F0 m pc ls (.int x :: rest)) := by
  subst e1
  have hz : i3 0 := ⟨by decide, by decide⟩
  exact lv_if_eq hx hb hdg ht (fun h => kt ((iN_eq ha hz).mp h)) (fun h => kf (fun q => h ((iN_eq ha hz).mpr q)))
theorem rj_ceq (hx : p.tables.exec = Jvm.exec) (hb : c.code = cc) {x y : Int64} {a b : Int} {off : Int} {tgt : Nat} (hd1 : decode cc pc = .ok (.lcmp, 1)) (hdg : decode cc (pc + 1) = .ok (.ifCond .eq off, 3)) (ht : ((pc + 1 : Nat) : Int) + off = (tgt : Int)) (e1 : x = jN a) (e2 : y = jN b) (ha : i6 a) (hb3 : i6 b) (kt : a = b → W p l e R s m args below meth c H locs cells slots Q (F0 m tgt ls (rest))) (kf : ¬ (a = b) → W p l e R s m args below meth c H locs cells slots Q (F0 m (pc + 1 + 3) ls (rest))) : W p l e R s m args below meth c H locs cells slots Q (F0 m pc ls (.long y :: .long x :: rest)) := by
  subst e1; subst e2
  refine W.lcmp hx hb hd1 ?_
  exact lv_if_eq hx hb hdg ht (fun h => kt ((jN_eq ha hb3).mp ((lg_cmp_eq _ _).mp h))) (fun h => kf (fun q => h ((lg_cmp_eq _ _).mpr ((jN_eq ha hb3).mpr q))))
theorem ri_cne (hx : p.tables.exec = Jvm.exec) (hb : c.code = cc) {x y : Int32} {a b : Int} {off : Int} {tgt : Nat} (hdg : decode cc pc = .ok (.if_icmp .ne off, 3)) (ht : (pc : Int) + off = (tgt : Int)) (e1 : x = iN a) (e2 : y = iN b) (ha : i3 a) (hb3 : i3 b) (kt : a ≠ b → W p l e R s m args below meth c H locs cells slots Q (F0 m tgt ls (rest))) (kf : ¬ (a ≠ b) → W p l e R s m args below meth c H locs cells slots Q (F0 m (pc + 3) ls (rest))) : W p l e R s m args below meth c H locs cells slots Q (F0 m pc ls (.int y :: .int x :: rest)) := by
  subst e1; subst e2
  exact lv_icmp_ne hx hb hdg ht (fun h => kt (fun q => h ((iN_eq ha hb3).mpr q))) (fun h => kf (fun q => q ((iN_eq ha hb3).mp h)))
theorem ri_zne (hx : p.tables.exec = Jvm.exec) (hb : c.code = cc) {x : Int32} {a : Int} {off : Int} {tgt : Nat} (hdg : decode cc pc = .ok (.ifCond .ne off, 3)) (ht : (pc : Int) + off = (tgt : Int)) (e1 : x = iN a) (ha : i3 a) (kt : a ≠ 0 → W p l e R s m args below meth c H locs cells slots Q (F0 m tgt ls (rest))) (kf : ¬ (a ≠ 0) → W p l e R s m args below meth c H locs cells slots Q (F0 m (pc + 3) ls (rest))) : W p l e R s m args below meth c H locs cells slots Q (F0 m pc ls (.int x :: rest)) := by
  subst e1
  have hz : i3 0 := ⟨by decide, by decide⟩
  exact lv_if_ne hx hb hdg ht (fun h => kt (fun q => h ((iN_eq ha hz).mpr q))) (fun h => kf (fun q => q ((iN_eq ha hz).mp h)))
theorem rj_cne (hx : p.tables.exec = Jvm.exec) (hb : c.code = cc) {x y : Int64} {a b : Int} {off : Int} {tgt : Nat} (hd1 : decode cc pc = .ok (.lcmp, 1)) (hdg : decode cc (pc + 1) = .ok (.ifCond .ne off, 3)) (ht : ((pc + 1 : Nat) : Int) + off = (tgt : Int)) (e1 : x = jN a) (e2 : y = jN b) (ha : i6 a) (hb3 : i6 b) (kt : a ≠ b → W p l e R s m args below meth c H locs cells slots Q (F0 m tgt ls (rest))) (kf : ¬ (a ≠ b) → W p l e R s m args below meth c H locs cells slots Q (F0 m (pc + 1 + 3) ls (rest))) : W p l e R s m args below meth c H locs cells slots Q (F0 m pc ls (.long y :: .long x :: rest)) := by
  subst e1; subst e2
  refine W.lcmp hx hb hd1 ?_
  exact lv_if_ne hx hb hdg ht (fun h => kt (fun q => h ((lg_cmp_eq _ _).mpr ((jN_eq ha hb3).mpr q)))) (fun h => kf (fun q => q ((jN_eq ha hb3).mp ((lg_cmp_eq _ _).mp h))))
theorem ri_clt (hx : p.tables.exec = Jvm.exec) (hb : c.code = cc) {x y : Int32} {a b : Int} {off : Int} {tgt : Nat} (hdg : decode cc pc = .ok (.if_icmp .lt off, 3)) (ht : (pc : Int) + off = (tgt : Int)) (e1 : x = iN a) (e2 : y = iN b) (ha : i3 a) (hb3 : i3 b) (kt : a < b → W p l e R s m args below meth c H locs cells slots Q (F0 m tgt ls (rest))) (kf : ¬ (a < b) → W p l e R s m args below meth c H locs cells slots Q (F0 m (pc + 3) ls (rest))) : W p l e R s m args below meth c H locs cells slots Q (F0 m pc ls (.int y :: .int x :: rest)) := by
  subst e1; subst e2
  exact lv_icmp_lt hx hb hdg ht (fun h => kt ((iN_lt ha hb3).mp h)) (fun h => kf (fun q => h ((iN_lt ha hb3).mpr q)))
theorem ri_zlt (hx : p.tables.exec = Jvm.exec) (hb : c.code = cc) {x : Int32} {a : Int} {off : Int} {tgt : Nat} (hdg : decode cc pc = .ok (.ifCond .lt off, 3)) (ht : (pc : Int) + off = (tgt : Int)) (e1 : x = iN a) (ha : i3 a) (kt : a < 0 → W p l e R s m args below meth c H locs cells slots Q (F0 m tgt ls (rest))) (kf : ¬ (a < 0) → W p l e R s m args below meth c H locs cells slots Q (F0 m (pc + 3) ls (rest))) : W p l e R s m args below meth c H locs cells slots Q (F0 m pc ls (.int x :: rest)) := by
  subst e1
  have hz : i3 0 := ⟨by decide, by decide⟩
  exact lv_if_lt hx hb hdg ht (fun h => kt ((iN_lt ha hz).mp h)) (fun h => kf (fun q => h ((iN_lt ha hz).mpr q)))
theorem rj_clt (hx : p.tables.exec = Jvm.exec) (hb : c.code = cc) {x y : Int64} {a b : Int} {off : Int} {tgt : Nat} (hd1 : decode cc pc = .ok (.lcmp, 1)) (hdg : decode cc (pc + 1) = .ok (.ifCond .lt off, 3)) (ht : ((pc + 1 : Nat) : Int) + off = (tgt : Int)) (e1 : x = jN a) (e2 : y = jN b) (ha : i6 a) (hb3 : i6 b) (kt : a < b → W p l e R s m args below meth c H locs cells slots Q (F0 m tgt ls (rest))) (kf : ¬ (a < b) → W p l e R s m args below meth c H locs cells slots Q (F0 m (pc + 1 + 3) ls (rest))) : W p l e R s m args below meth c H locs cells slots Q (F0 m pc ls (.long y :: .long x :: rest)) := by
  subst e1; subst e2
  refine W.lcmp hx hb hd1 ?_
  exact lv_if_lt hx hb hdg ht (fun h => kt ((jN_lt ha hb3).mp ((lg_cmp_lt _ _).mp h))) (fun h => kf (fun q => h ((lg_cmp_lt _ _).mpr ((jN_lt ha hb3).mpr q))))
theorem ri_cge (hx : p.tables.exec = Jvm.exec) (hb : c.code = cc) {x y : Int32} {a b : Int} {off : Int} {tgt : Nat} (hdg : decode cc pc = .ok (.if_icmp .ge off, 3)) (ht : (pc : Int) + off = (tgt : Int)) (e1 : x = iN a) (e2 : y = iN b) (ha : i3 a) (hb3 : i3 b) (kt : b ≤ a → W p l e R s m args below meth c H locs cells slots Q (F0 m tgt ls (rest))) (kf : ¬ (b ≤ a) → W p l e R s m args below meth c H locs cells slots Q (F0 m (pc + 3) ls (rest))) : W p l e R s m args below meth c H locs cells slots Q (F0 m pc ls (.int y :: .int x :: rest)) := by
  subst e1; subst e2
  exact lv_icmp_ge hx hb hdg ht (fun h => kt ((iN_le hb3 ha).mp h)) (fun h => kf (fun q => h ((iN_le hb3 ha).mpr q)))
theorem ri_zge (hx : p.tables.exec = Jvm.exec) (hb : c.code = cc) {x : Int32} {a : Int} {off : Int} {tgt : Nat} (hdg : decode cc pc = .ok (.ifCond .ge off, 3)) (ht : (pc : Int) + off = (tgt : Int)) (e1 : x = iN a) (ha : i3 a) (kt : 0 ≤ a → W p l e R s m args below meth c H locs cells slots Q (F0 m tgt ls (rest))) (kf : ¬ (0 ≤ a) → W p l e R s m args below meth c H locs cells slots Q (F0 m (pc + 3) ls (rest))) : W p l e R s m args below meth c H locs cells slots Q (F0 m pc ls (.int x :: rest)) := by
  subst e1
  have hz : i3 0 := ⟨by decide, by decide⟩
  exact lv_if_ge hx hb hdg ht (fun h => kt ((iN_le hz ha).mp h)) (fun h => kf (fun q => h ((iN_le hz ha).mpr q)))
theorem rj_cge (hx : p.tables.exec = Jvm.exec) (hb : c.code = cc) {x y : Int64} {a b : Int} {off : Int} {tgt : Nat} (hd1 : decode cc pc = .ok (.lcmp, 1)) (hdg : decode cc (pc + 1) = .ok (.ifCond .ge off, 3)) (ht : ((pc + 1 : Nat) : Int) + off = (tgt : Int)) (e1 : x = jN a) (e2 : y = jN b) (ha : i6 a) (hb3 : i6 b) (kt : b ≤ a → W p l e R s m args below meth c H locs cells slots Q (F0 m tgt ls (rest))) (kf : ¬ (b ≤ a) → W p l e R s m args below meth c H locs cells slots Q (F0 m (pc + 1 + 3) ls (rest))) : W p l e R s m args below meth c H locs cells slots Q (F0 m pc ls (.long y :: .long x :: rest)) := by
  subst e1; subst e2
  refine W.lcmp hx hb hd1 ?_
  exact lv_if_ge hx hb hdg ht (fun h => kt ((jN_le hb3 ha).mp ((lg_cmp_ge _ _).mp h))) (fun h => kf (fun q => h ((lg_cmp_ge _ _).mpr ((jN_le hb3 ha).mpr q))))
theorem ri_cgt (hx : p.tables.exec = Jvm.exec) (hb : c.code = cc) {x y : Int32} {a b : Int} {off : Int} {tgt : Nat} (hdg : decode cc pc = .ok (.if_icmp .gt off, 3)) (ht : (pc : Int) + off = (tgt : Int)) (e1 : x = iN a) (e2 : y = iN b) (ha : i3 a) (hb3 : i3 b) (kt : b < a → W p l e R s m args below meth c H locs cells slots Q (F0 m tgt ls (rest))) (kf : ¬ (b < a) → W p l e R s m args below meth c H locs cells slots Q (F0 m (pc + 3) ls (rest))) : W p l e R s m args below meth c H locs cells slots Q (F0 m pc ls (.int y :: .int x :: rest)) := by
  subst e1; subst e2
  exact lv_icmp_gt hx hb hdg ht (fun h => kt ((iN_lt hb3 ha).mp h)) (fun h => kf (fun q => h ((iN_lt hb3 ha).mpr q)))
theorem ri_zgt (hx : p.tables.exec = Jvm.exec) (hb : c.code = cc) {x : Int32} {a : Int} {off : Int} {tgt : Nat} (hdg : decode cc pc = .ok (.ifCond .gt off, 3)) (ht : (pc : Int) + off = (tgt : Int)) (e1 : x = iN a) (ha : i3 a) (kt : 0 < a → W p l e R s m args below meth c H locs cells slots Q (F0 m tgt ls (rest))) (kf : ¬ (0 < a) → W p l e R s m args below meth c H locs cells slots Q (F0 m (pc + 3) ls (rest))) : W p l e R s m args below meth c H locs cells slots Q (F0 m pc ls (.int x :: rest)) := by
  subst e1
  have hz : i3 0 := ⟨by decide, by decide⟩
  exact lv_if_gt hx hb hdg ht (fun h => kt ((iN_lt hz ha).mp h)) (fun h => kf (fun q => h ((iN_lt hz ha).mpr q)))
theorem rj_cgt (hx : p.tables.exec = Jvm.exec) (hb : c.code = cc) {x y : Int64} {a b : Int} {off : Int} {tgt : Nat} (hd1 : decode cc pc = .ok (.lcmp, 1)) (hdg : decode cc (pc + 1) = .ok (.ifCond .gt off, 3)) (ht : ((pc + 1 : Nat) : Int) + off = (tgt : Int)) (e1 : x = jN a) (e2 : y = jN b) (ha : i6 a) (hb3 : i6 b) (kt : b < a → W p l e R s m args below meth c H locs cells slots Q (F0 m tgt ls (rest))) (kf : ¬ (b < a) → W p l e R s m args below meth c H locs cells slots Q (F0 m (pc + 1 + 3) ls (rest))) : W p l e R s m args below meth c H locs cells slots Q (F0 m pc ls (.long y :: .long x :: rest)) := by
  subst e1; subst e2
  refine W.lcmp hx hb hd1 ?_
  exact lv_if_gt hx hb hdg ht (fun h => kt ((jN_lt hb3 ha).mp ((lg_cmp_gt _ _).mp h))) (fun h => kf (fun q => h ((lg_cmp_gt _ _).mpr ((jN_lt hb3 ha).mpr q))))
theorem ri_cle (hx : p.tables.exec = Jvm.exec) (hb : c.code = cc) {x y : Int32} {a b : Int} {off : Int} {tgt : Nat} (hdg : decode cc pc = .ok (.if_icmp .le off, 3)) (ht : (pc : Int) + off = (tgt : Int)) (e1 : x = iN a) (e2 : y = iN b) (ha : i3 a) (hb3 : i3 b) (kt : a ≤ b → W p l e R s m args below meth c H locs cells slots Q (F0 m tgt ls (rest))) (kf : ¬ (a ≤ b) → W p l e R s m args below meth c H locs cells slots Q (F0 m (pc + 3) ls (rest))) : W p l e R s m args below meth c H locs cells slots Q (F0 m pc ls (.int y :: .int x :: rest)) := by
  subst e1; subst e2
  exact lv_icmp_le hx hb hdg ht (fun h => kt ((iN_le ha hb3).mp h)) (fun h => kf (fun q => h ((iN_le ha hb3).mpr q)))
theorem ri_zle (hx : p.tables.exec = Jvm.exec) (hb : c.code = cc) {x : Int32} {a : Int} {off : Int} {tgt : Nat} (hdg : decode cc pc = .ok (.ifCond .le off, 3)) (ht : (pc : Int) + off = (tgt : Int)) (e1 : x = iN a) (ha : i3 a) (kt : a ≤ 0 → W p l e R s m args below meth c H locs cells slots Q (F0 m tgt ls (rest))) (kf : ¬ (a ≤ 0) → W p l e R s m args below meth c H locs cells slots Q (F0 m (pc + 3) ls (rest))) : W p l e R s m args below meth c H locs cells slots Q (F0 m pc ls (.int x :: rest)) := by
  subst e1
  have hz : i3 0 := ⟨by decide, by decide⟩
  exact lv_if_le hx hb hdg ht (fun h => kt ((iN_le ha hz).mp h)) (fun h => kf (fun q => h ((iN_le ha hz).mpr q)))
theorem rj_cle (hx : p.tables.exec = Jvm.exec) (hb : c.code = cc) {x y : Int64} {a b : Int} {off : Int} {tgt : Nat} (hd1 : decode cc pc = .ok (.lcmp, 1)) (hdg : decode cc (pc + 1) = .ok (.ifCond .le off, 3)) (ht : ((pc + 1 : Nat) : Int) + off = (tgt : Int)) (e1 : x = jN a) (e2 : y = jN b) (ha : i6 a) (hb3 : i6 b) (kt : a ≤ b → W p l e R s m args below meth c H locs cells slots Q (F0 m tgt ls (rest))) (kf : ¬ (a ≤ b) → W p l e R s m args below meth c H locs cells slots Q (F0 m (pc + 1 + 3) ls (rest))) : W p l e R s m args below meth c H locs cells slots Q (F0 m pc ls (.long y :: .long x :: rest)) := by
  subst e1; subst e2
  refine W.lcmp hx hb hd1 ?_
  exact lv_if_le hx hb hdg ht (fun h => kt ((jN_le ha hb3).mp ((lg_cmp_le _ _).mp h))) (fun h => kf (fun q => h ((lg_cmp_le _ _).mpr ((jN_le ha hb3).mpr q))))
end RI
end
section
theorem id_law : Cond.initialized "HullSumsLaw" ∈ lw_g := tw_1 0 rfl
theorem id_H : Cond.initialized "HullSums" ∈ lw_g := tw_1 1 rfl
theorem id_R : Cond.initialized "HullSums$Row" ∈ lw_g := tw_1 2 rfl
theorem id_C : Cond.initialized "HullSums$Circle" ∈ lw_g := tw_1 3 rfl
theorem id_L : Cond.initialized "HullSums$Lowest" ∈ lw_g := tw_1 4 rfl
theorem id_M : Cond.initialized "HullSumsModel" ∈ lw_g := tw_1 5 rfl
theorem id_Math : Cond.initialized "java/lang/Math" ∈ lw_g := tw_1 6 rfl
theorem lk_law_7 : Cond.classLink "HullSumsLaw" 7 "HullSums" ∈ lw_g := tw_1 7 rfl
theorem ib_H : Cond.instantiable "HullSums" 10 ∈ lw_g := tw_1 8 rfl
theorem lk_law_9 : Cond.methodLink "HullSumsLaw" 9 y_H_init ∈ lw_g := tw_1 9 rfl
theorem lk_H_3 : Cond.methodLink "HullSums" 3 Lib.objectInit ∈ lw_g := tw_1 12 rfl
theorem lk_H_9 : Cond.classLink "HullSums" 9 "HullSums$Row" ∈ lw_g := tw_1 15 rfl
theorem ib_R : Cond.instantiable "HullSums$Row" 3 ∈ lw_g := tw_1 17 rfl
theorem lk_H_15 : Cond.methodLink "HullSums" 15 y_R_init ∈ lw_g := tw_1 18 rfl
theorem lk_R_3 : Cond.methodLink "HullSums$Row" 3 Lib.objectInit ∈ lw_g := tw_1 21 rfl
theorem lk_R_9 : Cond.fieldLink "HullSums$Row" 9 (T_R 0).1 (T_R 0).2.1 (T_R 0).2.2.1 ∈ lw_g := tw_1 22 rfl
theorem lk_R_15 : Cond.fieldLink "HullSums$Row" 15 (T_R 1).1 (T_R 1).2.1 (T_R 1).2.2.1 ∈ lw_g := tw_1 23 rfl
theorem lk_R_18 : Cond.fieldLink "HullSums$Row" 18 (T_R 2).1 (T_R 2).2.1 (T_R 2).2.2.1 ∈ lw_g := tw_1 24 rfl
theorem ar_int : Cond.arrayClass .int ∈ lw_g := tw_1 32 rfl
theorem lk_H_29 : Cond.classLink "HullSums" 29 "HullSums$Circle" ∈ lw_g := tw_1 33 rfl
theorem ib_C : Cond.instantiable "HullSums$Circle" 5 ∈ lw_g := tw_1 34 rfl
theorem lk_H_31 : Cond.methodLink "HullSums" 31 y_C_init ∈ lw_g := tw_1 35 rfl
theorem lk_C_1 : Cond.methodLink "HullSums$Circle" 1 Lib.objectInit ∈ lw_g := tw_1 38 rfl
theorem lk_C_7 : Cond.fieldLink "HullSums$Circle" 7 (T_C 0).1 (T_C 0).2.1 (T_C 0).2.2.1 ∈ lw_g := tw_1 39 rfl
theorem lk_C_13 : Cond.fieldLink "HullSums$Circle" 13 (T_C 1).1 (T_C 1).2.1 (T_C 1).2.2.1 ∈ lw_g := tw_1 40 rfl
theorem lk_C_16 : Cond.fieldLink "HullSums$Circle" 16 (T_C 2).1 (T_C 2).2.1 (T_C 2).2.2.1 ∈ lw_g := tw_1 41 rfl
theorem lk_C_19 : Cond.fieldLink "HullSums$Circle" 19 (T_C 3).1 (T_C 3).2.1 (T_C 3).2.2.1 ∈ lw_g := tw_1 42 rfl
theorem lk_C_22 : Cond.fieldLink "HullSums$Circle" 22 (T_C 4).1 (T_C 4).2.1 (T_C 4).2.2.1 ∈ lw_g := tw_1 43 rfl
theorem lk_H_36 : Cond.classLink "HullSums" 36 "HullSums$Lowest" ∈ lw_g := tw_1 55 rfl
theorem ib_L : Cond.instantiable "HullSums$Lowest" 3 ∈ lw_g := tw_1 56 rfl
theorem lk_H_38 : Cond.methodLink "HullSums" 38 y_L_init ∈ lw_g := tw_1 57 rfl
theorem lk_L_1 : Cond.methodLink "HullSums$Lowest" 1 Lib.objectInit ∈ lw_g := tw_1 60 rfl
theorem lk_L_7 : Cond.fieldLink "HullSums$Lowest" 7 (T_L 0).1 (T_L 0).2.1 (T_L 0).2.2.1 ∈ lw_g := tw_1 61 rfl
theorem lk_L_13 : Cond.fieldLink "HullSums$Lowest" 13 (T_L 1).1 (T_L 1).2.1 (T_L 1).2.2.1 ∈ lw_g := tw_1 62 rfl
theorem lk_L_16 : Cond.fieldLink "HullSums$Lowest" 16 (T_L 2).1 (T_L 2).2.1 (T_L 2).2.2.1 ∈ lw_g := tw_1 63 rfl
theorem lk_H_11 : Cond.fieldLink "HullSums" 11 (T_H 0).1 (T_H 0).2.1 (T_H 0).2.2.1 ∈ lw_g := tw_1 71 rfl
theorem lk_H_43 : Cond.fieldLink "HullSums" 43 (T_H 1).1 (T_H 1).2.1 (T_H 1).2.2.1 ∈ lw_g := tw_1 72 rfl
theorem lk_H_47 : Cond.fieldLink "HullSums" 47 (T_H 2).1 (T_H 2).2.1 (T_H 2).2.2.1 ∈ lw_g := tw_1 73 rfl
theorem lk_H_51 : Cond.fieldLink "HullSums" 51 (T_H 3).1 (T_H 3).2.1 (T_H 3).2.2.1 ∈ lw_g := tw_1 74 rfl
theorem lk_H_16 : Cond.fieldLink "HullSums" 16 (T_H 4).1 (T_H 4).2.1 (T_H 4).2.2.1 ∈ lw_g := tw_1 75 rfl
theorem lk_H_20 : Cond.fieldLink "HullSums" 20 (T_H 5).1 (T_H 5).2.1 (T_H 5).2.2.1 ∈ lw_g := tw_1 76 rfl
theorem lk_H_23 : Cond.fieldLink "HullSums" 23 (T_H 6).1 (T_H 6).2.1 (T_H 6).2.2.1 ∈ lw_g := tw_1 77 rfl
theorem lk_H_26 : Cond.fieldLink "HullSums" 26 (T_H 7).1 (T_H 7).2.1 (T_H 7).2.2.1 ∈ lw_g := tw_1 78 rfl
theorem lk_H_32 : Cond.fieldLink "HullSums" 32 (T_H 8).1 (T_H 8).2.1 (T_H 8).2.2.1 ∈ lw_g := tw_1 79 rfl
theorem lk_H_39 : Cond.fieldLink "HullSums" 39 (T_H 9).1 (T_H 9).2.1 (T_H 9).2.2.1 ∈ lw_g := tw_1 80 rfl
theorem lk_law_13 : Cond.methodLink "HullSumsLaw" 13 y_H_clear ∈ lw_g := tw_1 102 rfl
theorem lk_H_54 : Cond.methodLink "HullSums" 54 y_H_tell ∈ lw_g := tw_1 106 rfl
theorem lk_law_17 : Cond.methodLink "HullSumsLaw" 17 y_H_set ∈ lw_g := tw_1 110 rfl
theorem lk_H_58 : Cond.methodLink "HullSums" 58 y_H_rowOf ∈ lw_g := tw_1 114 rfl
theorem lk_H_62 : Cond.methodLink "HullSums" 62 y_R_empty ∈ lw_g := tw_1 118 rfl
theorem lk_law_22 : Cond.methodLink "HullSumsLaw" 22 y_H_point ∈ lw_g := tw_1 122 rfl
theorem lk_H_65 : Cond.methodLink "HullSums" 65 y_H_isNear ∈ lw_g := tw_1 126 rfl
theorem lk_H_69 : Cond.methodLink "HullSums" 69 y_R_has ∈ lw_g := tw_1 129 rfl
theorem lk_R_22 : Cond.methodLink "HullSums$Row" 22 y_R_x ∈ lw_g := tw_1 133 rfl
theorem lk_R_26 : Cond.methodLink "HullSums$Row" 26 y_R_y ∈ lw_g := tw_1 137 rfl
theorem lk_H_72 : Cond.methodLink "HullSums" 72 y_R_size ∈ lw_g := tw_1 141 rfl
theorem lk_H_76 : Cond.methodLink "HullSums" 76 y_R_add ∈ lw_g := tw_1 145 rfl
theorem lk_law_27 : Cond.methodLink "HullSumsLaw" 27 y_H_points ∈ lw_g := tw_1 149 rfl
theorem lk_law_32 : Cond.methodLink "HullSumsLaw" 32 y_H_kind ∈ lw_g := tw_1 153 rfl
theorem lk_H_80 : Cond.methodLink "HullSums" 80 y_H_hullOf ∈ lw_g := tw_1 157 rfl
theorem lk_H_171 : Cond.methodLink "HullSums" 171 y_R_becomeHull ∈ lw_g := tw_1 161 rfl
theorem lk_R_33 : Cond.methodLink "HullSums$Row" 33 y_R_empty ∈ lw_g := tw_1 165 rfl
theorem lk_R_36 : Cond.methodLink "HullSums$Row" 36 y_R_size ∈ lw_g := tw_1 166 rfl
theorem lk_R_39 : Cond.methodLink "HullSums$Row" 39 y_R_addSorted ∈ lw_g := tw_1 167 rfl
theorem lk_R_43 : Cond.methodLink "HullSums$Row" 43 y_R_addCorner ∈ lw_g := tw_1 171 rfl
theorem lk_R_50 : Cond.methodLink "HullSums$Row" 50 y_R_turn ∈ lw_g := tw_1 175 rfl
theorem lk_R_54 : Cond.methodLink "HullSums$Row" 54 y_R_add ∈ lw_g := tw_1 179 rfl
theorem lk_R_47 : Cond.methodLink "HullSums$Row" 47 y_R_dropLast ∈ lw_g := tw_1 180 rfl
theorem lk_H_84 : Cond.methodLink "HullSums" 84 Lib.Math.min.name ∈ lw_g := tw_1 184 rfl
theorem lk_law_36 : Cond.methodLink "HullSumsLaw" 36 y_H_corners ∈ lw_g := tw_1 187 rfl
theorem lk_law_40 : Cond.methodLink "HullSumsLaw" 40 y_H_corner ∈ lw_g := tw_1 191 rfl
theorem lk_H_90 : Cond.methodLink "HullSums" 90 y_R_x ∈ lw_g := tw_1 195 rfl
theorem lk_H_94 : Cond.methodLink "HullSums" 94 y_R_y ∈ lw_g := tw_1 196 rfl
theorem lk_law_45 : Cond.methodLink "HullSumsLaw" 45 y_H_beside ∈ lw_g := tw_1 197 rfl
theorem lk_H_97 : Cond.methodLink "HullSums" 97 y_R_place ∈ lw_g := tw_1 201 rfl
theorem lk_R_82 : Cond.methodLink "HullSums$Row" 82 y_R_isOnThin ∈ lw_g := tw_1 205 rfl
theorem lk_R_85 : Cond.methodLink "HullSums$Row" 85 Lib.Math.min.name ∈ lw_g := tw_1 209 rfl
theorem lk_R_68 : Cond.methodLink "HullSums$Row" 68 Lib.Math.max.name ∈ lw_g := tw_1 210 rfl
theorem lk_R_64 : Cond.methodLink "HullSums$Row" 64 y_R_offSide ∈ lw_g := tw_1 213 rfl
theorem lk_R_57 : Cond.methodLink "HullSums$Row" 57 y_R_next ∈ lw_g := tw_1 217 rfl
theorem lk_law_49 : Cond.methodLink "HullSumsLaw" 49 y_H_area ∈ lw_g := tw_1 221 rfl
theorem lk_H_100 : Cond.methodLink "HullSums" 100 y_R_doubleArea ∈ lw_g := tw_1 225 rfl
theorem lk_law_53 : Cond.methodLink "HullSumsLaw" 53 y_H_border ∈ lw_g := tw_1 229 rfl
theorem lk_H_103 : Cond.methodLink "HullSums" 103 y_R_gridOnBorder ∈ lw_g := tw_1 233 rfl
theorem lk_R_95 : Cond.methodLink "HullSums$Row" 95 y_R_gridSteps ∈ lw_g := tw_1 237 rfl
theorem lk_R_88 : Cond.methodLink "HullSums$Row" 88 y_R_sides ∈ lw_g := tw_2 1 rfl
theorem lk_R_73 : Cond.methodLink "HullSums$Row" 73 y_R_sideX ∈ lw_g := tw_2 5 rfl
theorem lk_R_76 : Cond.methodLink "HullSums$Row" 76 y_R_sideY ∈ lw_g := tw_2 9 rfl
theorem lk_H_198 : Cond.methodLink "HullSums" 198 Lib.MathLoose.abs_long.x ∈ lw_g := tw_2 16 rfl
theorem lk_law_57 : Cond.methodLink "HullSumsLaw" 57 y_H_inside ∈ lw_g := tw_2 19 rfl
theorem lk_H_106 : Cond.methodLink "HullSums" 106 y_R_gridWhenGrown ∈ lw_g := tw_2 23 rfl
theorem lk_R_98 : Cond.methodLink "HullSums$Row" 98 y_R_doubleArea ∈ lw_g := tw_2 27 rfl
theorem lk_law_61 : Cond.methodLink "HullSumsLaw" 61 y_H_grown ∈ lw_g := tw_2 28 rfl
theorem lk_law_65 : Cond.methodLink "HullSumsLaw" 65 y_H_wide ∈ lw_g := tw_2 32 rfl
theorem lk_H_109 : Cond.methodLink "HullSums" 109 y_R_squareBetween ∈ lw_g := tw_2 36 rfl
theorem lk_H_112 : Cond.methodLink "HullSums" 112 Lib.Math.max.name ∈ lw_g := tw_2 40 rfl
theorem lk_law_69 : Cond.methodLink "HullSumsLaw" 69 y_H_width ∈ lw_g := tw_2 41 rfl
theorem lk_H_115 : Cond.methodLink "HullSums" 115 y_L_forget ∈ lw_g := tw_2 45 rfl
theorem lk_H_118 : Cond.methodLink "HullSums" 118 y_R_sides ∈ lw_g := tw_2 49 rfl
theorem lk_H_121 : Cond.methodLink "HullSums" 121 y_R_reachFromSide ∈ lw_g := tw_2 50 rfl
theorem lk_H_124 : Cond.methodLink "HullSums" 124 y_R_squareOfSide ∈ lw_g := tw_2 54 rfl
theorem lk_R_60 : Cond.methodLink "HullSums$Row" 60 y_R_squareBetween ∈ lw_g := tw_2 58 rfl
theorem lk_H_127 : Cond.methodLink "HullSums" 127 y_L_take ∈ lw_g := tw_2 59 rfl
theorem lk_H_130 : Cond.methodLink "HullSums" 130 y_L_over ∈ lw_g := tw_2 63 rfl
theorem lk_H_134 : Cond.methodLink "HullSums" 134 y_L_under ∈ lw_g := tw_2 67 rfl
theorem lk_H_137 : Cond.methodLink "HullSums" 137 y_H_tellFraction ∈ lw_g := tw_2 71 rfl
theorem lk_H_194 : Cond.methodLink "HullSums" 194 y_H_commonDivisor ∈ lw_g := tw_2 75 rfl
theorem lk_law_73 : Cond.methodLink "HullSumsLaw" 73 y_H_circle ∈ lw_g := tw_2 76 rfl
theorem lk_H_140 : Cond.methodLink "HullSums" 140 y_C_enclose ∈ lw_g := tw_2 80 rfl
theorem lk_C_25 : Cond.methodLink "HullSums$Circle" 25 y_C_shrinkTo ∈ lw_g := tw_2 84 rfl
theorem lk_C_53 : Cond.methodLink "HullSums$Circle" 53 y_R_x ∈ lw_g := tw_2 88 rfl
theorem lk_C_57 : Cond.methodLink "HullSums$Circle" 57 y_R_y ∈ lw_g := tw_2 89 rfl
theorem lk_C_29 : Cond.methodLink "HullSums$Circle" 29 y_R_size ∈ lw_g := tw_2 90 rfl
theorem lk_C_35 : Cond.methodLink "HullSums$Circle" 35 y_C_has ∈ lw_g := tw_2 91 rfl
theorem lk_C_60 : Cond.constantLong "HullSums$Circle" 60 (jN (2)) ∈ lw_g := tw_2 95 rfl
theorem lk_C_39 : Cond.methodLink "HullSums$Circle" 39 y_C_encloseThrough ∈ lw_g := tw_2 96 rfl
theorem lk_C_42 : Cond.methodLink "HullSums$Circle" 42 y_C_encloseThroughBoth ∈ lw_g := tw_2 100 rfl
theorem lk_C_46 : Cond.methodLink "HullSums$Circle" 46 y_C_spanAcross ∈ lw_g := tw_2 104 rfl
theorem lk_C_49 : Cond.methodLink "HullSums$Circle" 49 y_C_passThrough ∈ lw_g := tw_2 108 rfl
theorem lk_C_62 : Cond.constantLong "HullSums$Circle" 62 (jN (-1)) ∈ lw_g := tw_2 112 rfl
theorem lk_H_144 : Cond.methodLink "HullSums" 144 y_C_middleX ∈ lw_g := tw_2 113 rfl
theorem lk_H_147 : Cond.methodLink "HullSums" 147 y_C_middleUnder ∈ lw_g := tw_2 117 rfl
theorem lk_H_150 : Cond.methodLink "HullSums" 150 y_C_middleY ∈ lw_g := tw_2 121 rfl
theorem lk_H_153 : Cond.methodLink "HullSums" 153 y_C_squareOver ∈ lw_g := tw_2 125 rfl
theorem lk_H_156 : Cond.methodLink "HullSums" 156 y_C_squareUnder ∈ lw_g := tw_2 129 rfl
theorem lk_law_77 : Cond.methodLink "HullSumsLaw" 77 y_H_sum ∈ lw_g := tw_2 133 rfl
theorem lk_H_159 : Cond.methodLink "HullSums" 159 y_H_fillSums ∈ lw_g := tw_2 137 rfl
theorem lk_H_178 : Cond.methodLink "HullSums" 178 y_R_becomeSums ∈ lw_g := tw_2 141 rfl
theorem lk_R_101 : Cond.methodLink "HullSums$Row" 101 y_R_orderOfSides ∈ lw_g := tw_2 145 rfl
theorem lk_R_105 : Cond.methodLink "HullSums$Row" 105 y_R_goesBack ∈ lw_g := tw_2 148 rfl
theorem lk_H_163 : Cond.methodLink "HullSums" 163 y_R_isWithin ∈ lw_g := tw_2 151 rfl
theorem lk_H_167 : Cond.methodLink "HullSums" 167 y_H_setOf ∈ lw_g := tw_2 156 rfl
theorem lk_H_182 : Cond.methodLink "HullSums" 182 y_H_set ∈ lw_g := tw_2 160 rfl
theorem lk_law_81 : Cond.methodLink "HullSumsLaw" 81 y_H_turned ∈ lw_g := tw_2 161 rfl
theorem lk_law_85 : Cond.methodLink "HullSumsLaw" 85 y_H_meets ∈ lw_g := tw_2 165 rfl
theorem lk_law_89 : Cond.methodLink "HullSumsLaw" 89 y_H_apart ∈ lw_g := tw_2 169 rfl
theorem lk_H_175 : Cond.methodLink "HullSums" 175 y_H_takeDistancesFromZero ∈ lw_g := tw_2 173 rfl
theorem lk_H_185 : Cond.methodLink "HullSums" 185 y_R_squareFromZero ∈ lw_g := tw_2 177 rfl
theorem lk_H_188 : Cond.methodLink "HullSums" 188 y_R_sideFacesZero ∈ lw_g := tw_2 181 rfl
theorem lk_R_79 : Cond.methodLink "HullSums$Row" 79 y_R_squareOfSide ∈ lw_g := tw_2 185 rfl
theorem lk_H_191 : Cond.methodLink "HullSums" 191 y_R_offSide ∈ lw_g := tw_2 186 rfl
theorem lk_law_93 : Cond.methodLink "HullSumsLaw" 93 y_H_holds ∈ lw_g := tw_2 187 rfl
theorem lk_law_97 : Cond.methodLink "HullSumsLaw" 97 y_H_supports ∈ lw_g := tw_2 191 rfl
theorem lk_law_101 : Cond.methodLink "HullSumsLaw" 101 y_H_mixed ∈ lw_g := tw_2 195 rfl
theorem lk_law_105 : Cond.methodLink "HullSumsLaw" 105 y_H_nearest ∈ lw_g := tw_2 199 rfl
theorem lk_law_109 : Cond.methodLink "HullSumsLaw" 109 y_H_within ∈ lw_g := tw_2 203 rfl
theorem lk_law_113 : Cond.methodLink "HullSumsLaw" 113 y_H_first ∈ lw_g := tw_2 207 rfl
theorem lk_law_118 : Cond.methodLink "HullSumsLaw" 118 y_H_second ∈ lw_g := tw_2 211 rfl
theorem lk_law_122 : Cond.methodLink "HullSumsLaw" 122 y_H_told ∈ lw_g := tw_2 215 rfl
theorem lk_law_10 : Cond.classLink "HullSumsLaw" 10 "HullSumsModel" ∈ lw_g := tw_2 219 rfl
theorem ib_M : Cond.instantiable "HullSumsModel" 23 ∈ lw_g := tw_2 220 rfl
theorem lk_law_12 : Cond.methodLink "HullSumsLaw" 12 y_M_init ∈ lw_g := tw_2 221 rfl
theorem lk_M_1 : Cond.methodLink "HullSumsModel" 1 Lib.objectInit ∈ lw_g := tw_2 224 rfl
theorem lk_M_35 : Cond.fieldLink "HullSumsModel" 35 (T_M 0).1 (T_M 0).2.1 (T_M 0).2.2.1 ∈ lw_g := tw_2 225 rfl
theorem lk_M_39 : Cond.fieldLink "HullSumsModel" 39 (T_M 1).1 (T_M 1).2.1 (T_M 1).2.2.1 ∈ lw_g := tw_2 226 rfl
theorem lk_M_7 : Cond.fieldLink "HullSumsModel" 7 (T_M 2).1 (T_M 2).2.1 (T_M 2).2.2.1 ∈ lw_g := tw_2 227 rfl
theorem lk_M_13 : Cond.fieldLink "HullSumsModel" 13 (T_M 3).1 (T_M 3).2.1 (T_M 3).2.2.1 ∈ lw_g := tw_2 228 rfl
theorem lk_M_16 : Cond.fieldLink "HullSumsModel" 16 (T_M 4).1 (T_M 4).2.1 (T_M 4).2.2.1 ∈ lw_g := tw_2 229 rfl
theorem lk_M_19 : Cond.fieldLink "HullSumsModel" 19 (T_M 5).1 (T_M 5).2.1 (T_M 5).2.2.1 ∈ lw_g := tw_2 230 rfl
theorem lk_M_22 : Cond.fieldLink "HullSumsModel" 22 (T_M 6).1 (T_M 6).2.1 (T_M 6).2.2.1 ∈ lw_g := tw_2 231 rfl
theorem lk_M_45 : Cond.fieldLink "HullSumsModel" 45 (T_M 7).1 (T_M 7).2.1 (T_M 7).2.2.1 ∈ lw_g := tw_2 232 rfl
theorem lk_M_25 : Cond.fieldLink "HullSumsModel" 25 (T_M 8).1 (T_M 8).2.1 (T_M 8).2.2.1 ∈ lw_g := tw_2 233 rfl
theorem lk_M_28 : Cond.fieldLink "HullSumsModel" 28 (T_M 9).1 (T_M 9).2.1 (T_M 9).2.2.1 ∈ lw_g := tw_2 234 rfl
theorem lk_M_51 : Cond.fieldLink "HullSumsModel" 51 (T_M 10).1 (T_M 10).2.1 (T_M 10).2.2.1 ∈ lw_g := tw_2 235 rfl
theorem lk_M_42 : Cond.fieldLink "HullSumsModel" 42 (T_M 11).1 (T_M 11).2.1 (T_M 11).2.2.1 ∈ lw_g := tw_2 236 rfl
theorem lk_M_31 : Cond.fieldLink "HullSumsModel" 31 (T_M 12).1 (T_M 12).2.1 (T_M 12).2.2.1 ∈ lw_g := tw_2 237 rfl
theorem lk_M_130 : Cond.fieldLink "HullSumsModel" 130 (T_M 13).1 (T_M 13).2.1 (T_M 13).2.2.1 ∈ lw_g := tw_2 238 rfl
theorem lk_M_133 : Cond.fieldLink "HullSumsModel" 133 (T_M 14).1 (T_M 14).2.1 (T_M 14).2.2.1 ∈ lw_g := tw_2 239 rfl
theorem lk_M_109 : Cond.fieldLink "HullSumsModel" 109 (T_M 15).1 (T_M 15).2.1 (T_M 15).2.2.1 ∈ lw_g := tw_3 0 rfl
theorem lk_M_112 : Cond.fieldLink "HullSumsModel" 112 (T_M 16).1 (T_M 16).2.1 (T_M 16).2.2.1 ∈ lw_g := tw_3 1 rfl
theorem lk_M_140 : Cond.fieldLink "HullSumsModel" 140 (T_M 17).1 (T_M 17).2.1 (T_M 17).2.2.1 ∈ lw_g := tw_3 2 rfl
theorem lk_M_149 : Cond.fieldLink "HullSumsModel" 149 (T_M 18).1 (T_M 18).2.1 (T_M 18).2.2.1 ∈ lw_g := tw_3 3 rfl
theorem lk_M_152 : Cond.fieldLink "HullSumsModel" 152 (T_M 19).1 (T_M 19).2.1 (T_M 19).2.2.1 ∈ lw_g := tw_3 4 rfl
theorem lk_M_155 : Cond.fieldLink "HullSumsModel" 155 (T_M 20).1 (T_M 20).2.1 (T_M 20).2.2.1 ∈ lw_g := tw_3 5 rfl
theorem lk_M_158 : Cond.fieldLink "HullSumsModel" 158 (T_M 21).1 (T_M 21).2.1 (T_M 21).2.2.1 ∈ lw_g := tw_3 6 rfl
theorem lk_M_161 : Cond.fieldLink "HullSumsModel" 161 (T_M 22).1 (T_M 22).2.1 (T_M 22).2.2.1 ∈ lw_g := tw_3 7 rfl
theorem lk_law_16 : Cond.methodLink "HullSumsLaw" 16 y_M_clear ∈ lw_g := tw_3 55 rfl
theorem lk_law_21 : Cond.methodLink "HullSumsLaw" 21 y_M_set ∈ lw_g := tw_3 59 rfl
theorem lk_law_26 : Cond.methodLink "HullSumsLaw" 26 y_M_point ∈ lw_g := tw_3 63 rfl
theorem lk_M_79 : Cond.methodLink "HullSumsModel" 79 y_M_is ∈ lw_g := tw_3 67 rfl
theorem lk_M_83 : Cond.methodLink "HullSumsModel" 83 y_M_in ∈ lw_g := tw_3 71 rfl
theorem lk_law_31 : Cond.methodLink "HullSumsLaw" 31 y_M_points ∈ lw_g := tw_3 74 rfl
theorem lk_law_35 : Cond.methodLink "HullSumsLaw" 35 y_M_kind ∈ lw_g := tw_3 78 rfl
theorem lk_M_87 : Cond.methodLink "HullSumsModel" 87 y_M_load ∈ lw_g := tw_3 82 rfl
theorem lk_M_48 : Cond.methodLink "HullSumsModel" 48 y_M_goRound ∈ lw_g := tw_3 86 rfl
theorem lk_M_54 : Cond.methodLink "HullSumsModel" 54 y_M_nextOf ∈ lw_g := tw_3 90 rfl
theorem lk_M_58 : Cond.methodLink "HullSumsModel" 58 y_M_turn ∈ lw_g := tw_3 94 rfl
theorem lk_M_62 : Cond.methodLink "HullSumsModel" 62 y_M_square ∈ lw_g := tw_3 97 rfl
theorem lk_law_39 : Cond.methodLink "HullSumsLaw" 39 y_M_corners ∈ lw_g := tw_3 100 rfl
theorem lk_law_44 : Cond.methodLink "HullSumsLaw" 44 y_M_corner ∈ lw_g := tw_3 104 rfl
theorem lk_law_48 : Cond.methodLink "HullSumsLaw" 48 y_M_beside ∈ lw_g := tw_3 108 rfl
theorem lk_M_91 : Cond.methodLink "HullSumsModel" 91 y_M_placeOf ∈ lw_g := tw_3 112 rfl
theorem lk_M_69 : Cond.methodLink "HullSumsModel" 69 y_M_isOn ∈ lw_g := tw_3 116 rfl
theorem lk_M_66 : Cond.methodLink "HullSumsModel" 66 y_M_after ∈ lw_g := tw_3 120 rfl
theorem lk_law_52 : Cond.methodLink "HullSumsLaw" 52 y_M_area ∈ lw_g := tw_3 124 rfl
theorem lk_M_95 : Cond.methodLink "HullSumsModel" 95 y_M_areaOf ∈ lw_g := tw_3 128 rfl
theorem lk_law_56 : Cond.methodLink "HullSumsLaw" 56 y_M_border ∈ lw_g := tw_3 132 rfl
theorem lk_M_123 : Cond.methodLink "HullSumsModel" 123 y_M_borderOf ∈ lw_g := tw_3 136 rfl
theorem lk_M_73 : Cond.methodLink "HullSumsModel" 73 y_M_common ∈ lw_g := tw_3 140 rfl
theorem lk_M_99 : Cond.constantLong "HullSumsModel" 99 (jN (2)) ∈ lw_g := tw_3 143 rfl
theorem lk_law_60 : Cond.methodLink "HullSumsLaw" 60 y_M_inside ∈ lw_g := tw_3 144 rfl
theorem lk_M_127 : Cond.methodLink "HullSumsModel" 127 y_M_allPoints ∈ lw_g := tw_3 148 rfl
theorem lk_M_115 : Cond.constantLong "HullSumsModel" 115 (jN (10000)) ∈ lw_g := tw_3 152 rfl
theorem lk_M_117 : Cond.constantLong "HullSumsModel" 117 (jN (-10000)) ∈ lw_g := tw_3 153 rfl
theorem lk_M_119 : Cond.methodLink "HullSumsModel" 119 y_M_row ∈ lw_g := tw_3 154 rfl
theorem lk_M_101 : Cond.methodLink "HullSumsModel" 101 y_M_see ∈ lw_g := tw_3 158 rfl
theorem lk_M_105 : Cond.methodLink "HullSumsModel" 105 y_M_part ∈ lw_g := tw_3 162 rfl
theorem lk_law_64 : Cond.methodLink "HullSumsLaw" 64 y_M_grown ∈ lw_g := tw_3 165 rfl
theorem lk_law_68 : Cond.methodLink "HullSumsLaw" 68 y_M_wide ∈ lw_g := tw_3 169 rfl
theorem lk_law_72 : Cond.methodLink "HullSumsLaw" 72 y_M_width ∈ lw_g := tw_3 173 rfl
theorem lk_M_136 : Cond.methodLink "HullSumsModel" 136 y_M_spread ∈ lw_g := tw_3 177 rfl
theorem lk_M_143 : Cond.methodLink "HullSumsModel" 143 y_M_tell ∈ lw_g := tw_3 181 rfl
theorem lk_M_77 : Cond.constantLong "HullSumsModel" 77 (jN (-1)) ∈ lw_g := tw_3 185 rfl
theorem lk_law_76 : Cond.methodLink "HullSumsLaw" 76 y_M_circle ∈ lw_g := tw_3 186 rfl
theorem lk_M_173 : Cond.methodLink "HullSumsModel" 173 y_M_findCircle ∈ lw_g := tw_3 190 rfl
theorem lk_M_164 : Cond.methodLink "HullSumsModel" 164 y_M_isAcross ∈ lw_g := tw_3 194 rfl
theorem lk_M_168 : Cond.constantLong "HullSumsModel" 168 (jN (4)) ∈ lw_g := tw_3 198 rfl
theorem lk_M_170 : Cond.methodLink "HullSumsModel" 170 y_M_isRound ∈ lw_g := tw_3 199 rfl
theorem lk_M_146 : Cond.methodLink "HullSumsModel" 146 y_M_isSharp ∈ lw_g := tw_3 203 rfl
theorem lk_law_80 : Cond.methodLink "HullSumsLaw" 80 y_M_sum ∈ lw_g := tw_3 207 rfl
theorem lk_M_177 : Cond.methodLink "HullSumsModel" 177 y_M_wrong ∈ lw_g := tw_3 211 rfl
theorem lk_M_181 : Cond.methodLink "HullSumsModel" 181 y_M_loadBoth ∈ lw_g := tw_3 215 rfl
theorem lk_M_185 : Cond.methodLink "HullSumsModel" 185 y_M_keep ∈ lw_g := tw_3 219 rfl
theorem lk_law_84 : Cond.methodLink "HullSumsLaw" 84 y_M_turned ∈ lw_g := tw_3 223 rfl
theorem lk_law_88 : Cond.methodLink "HullSumsLaw" 88 y_M_meets ∈ lw_g := tw_3 227 rfl
theorem lk_law_92 : Cond.methodLink "HullSumsLaw" 92 y_M_apart ∈ lw_g := tw_3 231 rfl
theorem lk_M_188 : Cond.methodLink "HullSumsModel" 188 y_M_better ∈ lw_g := tw_3 235 rfl
theorem lk_law_104 : Cond.methodLink "HullSumsLaw" 104 y_M_mixed ∈ lw_g := tw_3 239 rfl
theorem lk_law_96 : Cond.methodLink "HullSumsLaw" 96 y_M_holds ∈ lw_g := tw_4 3 rfl
theorem lk_law_100 : Cond.methodLink "HullSumsLaw" 100 y_M_supports ∈ lw_g := tw_4 7 rfl
theorem lk_law_108 : Cond.methodLink "HullSumsLaw" 108 y_M_nearest ∈ lw_g := tw_4 11 rfl
theorem lk_law_112 : Cond.methodLink "HullSumsLaw" 112 y_M_within ∈ lw_g := tw_4 15 rfl
theorem lk_law_117 : Cond.methodLink "HullSumsLaw" 117 y_M_first ∈ lw_g := tw_4 19 rfl
theorem lk_law_121 : Cond.methodLink "HullSumsLaw" 121 y_M_second ∈ lw_g := tw_4 23 rfl
theorem lk_law_125 : Cond.methodLink "HullSumsLaw" 125 y_M_told ∈ lw_g := tw_4 27 rfl
theorem k_H_init : gY y_H_init b_H_init 2 none 0 := ⟨tw_1 11 rfl, id_H, by decide, by decide, by decide⟩
theorem im_H_init : Cond.instanceMethod y_H_init ∈ lw_g := tw_1 10 rfl
theorem k_H_clear : gY y_H_clear b_H_clear 1 none 0 := ⟨tw_1 105 rfl, id_H, by decide, by decide, by decide⟩
theorem im_H_clear : Cond.instanceMethod y_H_clear ∈ lw_g := tw_1 103 rfl
theorem v_H_clear : gYv y_H_clear := ⟨im_H_clear, tw_1 104 rfl⟩
theorem k_H_set : gY y_H_set b_H_set 3 (some .int) 0 := ⟨tw_1 113 rfl, id_H, by decide, by decide, by decide⟩
theorem im_H_set : Cond.instanceMethod y_H_set ∈ lw_g := tw_1 111 rfl
theorem v_H_set : gYv y_H_set := ⟨im_H_set, tw_1 112 rfl⟩
theorem k_H_point : gY y_H_point b_H_point 5 (some .int) 3 := ⟨tw_1 125 rfl, id_H, by decide, by decide, by decide⟩
theorem im_H_point : Cond.instanceMethod y_H_point ∈ lw_g := tw_1 123 rfl
theorem v_H_point : gYv y_H_point := ⟨im_H_point, tw_1 124 rfl⟩
theorem k_H_points : gY y_H_points b_H_points 3 (some .int) 1 := ⟨tw_1 152 rfl, id_H, by decide, by decide, by decide⟩
theorem im_H_points : Cond.instanceMethod y_H_points ∈ lw_g := tw_1 150 rfl
theorem v_H_points : gYv y_H_points := ⟨im_H_points, tw_1 151 rfl⟩
theorem k_H_kind : gY y_H_kind b_H_kind 3 (some .int) 1 := ⟨tw_1 156 rfl, id_H, by decide, by decide, by decide⟩
theorem im_H_kind : Cond.instanceMethod y_H_kind ∈ lw_g := tw_1 154 rfl
theorem v_H_kind : gYv y_H_kind := ⟨im_H_kind, tw_1 155 rfl⟩
theorem k_H_corners : gY y_H_corners b_H_corners 3 (some .int) 1 := ⟨tw_1 190 rfl, id_H, by decide, by decide, by decide⟩
theorem im_H_corners : Cond.instanceMethod y_H_corners ∈ lw_g := tw_1 188 rfl
theorem v_H_corners : gYv y_H_corners := ⟨im_H_corners, tw_1 189 rfl⟩
theorem k_H_corner : gY y_H_corner b_H_corner 5 (some .int) 2 := ⟨tw_1 194 rfl, id_H, by decide, by decide, by decide⟩
theorem im_H_corner : Cond.instanceMethod y_H_corner ∈ lw_g := tw_1 192 rfl
theorem v_H_corner : gYv y_H_corner := ⟨im_H_corner, tw_1 193 rfl⟩
theorem k_H_beside : gY y_H_beside b_H_beside 6 (some .int) 1 := ⟨tw_1 200 rfl, id_H, by decide, by decide, by decide⟩
theorem im_H_beside : Cond.instanceMethod y_H_beside ∈ lw_g := tw_1 198 rfl
theorem v_H_beside : gYv y_H_beside := ⟨im_H_beside, tw_1 199 rfl⟩
theorem k_H_area : gY y_H_area b_H_area 3 (some .int) 1 := ⟨tw_1 224 rfl, id_H, by decide, by decide, by decide⟩
theorem im_H_area : Cond.instanceMethod y_H_area ∈ lw_g := tw_1 222 rfl
theorem v_H_area : gYv y_H_area := ⟨im_H_area, tw_1 223 rfl⟩
theorem k_H_border : gY y_H_border b_H_border 3 (some .int) 1 := ⟨tw_1 232 rfl, id_H, by decide, by decide, by decide⟩
theorem im_H_border : Cond.instanceMethod y_H_border ∈ lw_g := tw_1 230 rfl
theorem v_H_border : gYv y_H_border := ⟨im_H_border, tw_1 231 rfl⟩
theorem k_H_inside : gY y_H_inside b_H_inside 4 (some .int) 1 := ⟨tw_2 22 rfl, id_H, by decide, by decide, by decide⟩
theorem im_H_inside : Cond.instanceMethod y_H_inside ∈ lw_g := tw_2 20 rfl
theorem v_H_inside : gYv y_H_inside := ⟨im_H_inside, tw_2 21 rfl⟩
theorem k_H_grown : gY y_H_grown b_H_grown 4 (some .int) 2 := ⟨tw_2 31 rfl, id_H, by decide, by decide, by decide⟩
theorem im_H_grown : Cond.instanceMethod y_H_grown ∈ lw_g := tw_2 29 rfl
theorem v_H_grown : gYv y_H_grown := ⟨im_H_grown, tw_2 30 rfl⟩
theorem k_H_wide : gY y_H_wide b_H_wide 6 (some .int) 1 := ⟨tw_2 35 rfl, id_H, by decide, by decide, by decide⟩
theorem im_H_wide : Cond.instanceMethod y_H_wide ∈ lw_g := tw_2 33 rfl
theorem v_H_wide : gYv y_H_wide := ⟨im_H_wide, tw_2 34 rfl⟩
theorem k_H_width : gY y_H_width b_H_width 7 (some .int) 1 := ⟨tw_2 44 rfl, id_H, by decide, by decide, by decide⟩
theorem im_H_width : Cond.instanceMethod y_H_width ∈ lw_g := tw_2 42 rfl
theorem v_H_width : gYv y_H_width := ⟨im_H_width, tw_2 43 rfl⟩
theorem k_H_circle : gY y_H_circle b_H_circle 4 (some .int) 2 := ⟨tw_2 79 rfl, id_H, by decide, by decide, by decide⟩
theorem im_H_circle : Cond.instanceMethod y_H_circle ∈ lw_g := tw_2 77 rfl
theorem v_H_circle : gYv y_H_circle := ⟨im_H_circle, tw_2 78 rfl⟩
theorem k_H_sum : gY y_H_sum b_H_sum 4 (some .int) 2 := ⟨tw_2 136 rfl, id_H, by decide, by decide, by decide⟩
theorem im_H_sum : Cond.instanceMethod y_H_sum ∈ lw_g := tw_2 134 rfl
theorem v_H_sum : gYv y_H_sum := ⟨im_H_sum, tw_2 135 rfl⟩
theorem k_H_turned : gY y_H_turned b_H_turned 3 (some .int) 1 := ⟨tw_2 164 rfl, id_H, by decide, by decide, by decide⟩
theorem im_H_turned : Cond.instanceMethod y_H_turned ∈ lw_g := tw_2 162 rfl
theorem v_H_turned : gYv y_H_turned := ⟨im_H_turned, tw_2 163 rfl⟩
theorem k_H_meets : gY y_H_meets b_H_meets 4 (some .int) 2 := ⟨tw_2 168 rfl, id_H, by decide, by decide, by decide⟩
theorem im_H_meets : Cond.instanceMethod y_H_meets ∈ lw_g := tw_2 166 rfl
theorem v_H_meets : gYv y_H_meets := ⟨im_H_meets, tw_2 167 rfl⟩
theorem k_H_apart : gY y_H_apart b_H_apart 4 (some .int) 2 := ⟨tw_2 172 rfl, id_H, by decide, by decide, by decide⟩
theorem im_H_apart : Cond.instanceMethod y_H_apart ∈ lw_g := tw_2 170 rfl
theorem v_H_apart : gYv y_H_apart := ⟨im_H_apart, tw_2 171 rfl⟩
theorem k_H_holds : gY y_H_holds b_H_holds 5 (some .int) 3 := ⟨tw_2 190 rfl, id_H, by decide, by decide, by decide⟩
theorem im_H_holds : Cond.instanceMethod y_H_holds ∈ lw_g := tw_2 188 rfl
theorem v_H_holds : gYv y_H_holds := ⟨im_H_holds, tw_2 189 rfl⟩
theorem k_H_supports : gY y_H_supports b_H_supports 10 (some .int) 3 := ⟨tw_2 194 rfl, id_H, by decide, by decide, by decide⟩
theorem im_H_supports : Cond.instanceMethod y_H_supports ∈ lw_g := tw_2 192 rfl
theorem v_H_supports : gYv y_H_supports := ⟨im_H_supports, tw_2 193 rfl⟩
theorem k_H_mixed : gY y_H_mixed b_H_mixed 4 (some .int) 2 := ⟨tw_2 198 rfl, id_H, by decide, by decide, by decide⟩
theorem im_H_mixed : Cond.instanceMethod y_H_mixed ∈ lw_g := tw_2 196 rfl
theorem v_H_mixed : gYv y_H_mixed := ⟨im_H_mixed, tw_2 197 rfl⟩
theorem k_H_nearest : gY y_H_nearest b_H_nearest 6 (some .int) 1 := ⟨tw_2 202 rfl, id_H, by decide, by decide, by decide⟩
theorem im_H_nearest : Cond.instanceMethod y_H_nearest ∈ lw_g := tw_2 200 rfl
theorem v_H_nearest : gYv y_H_nearest := ⟨im_H_nearest, tw_2 201 rfl⟩
theorem k_H_within : gY y_H_within b_H_within 7 (some .int) 2 := ⟨tw_2 206 rfl, id_H, by decide, by decide, by decide⟩
theorem im_H_within : Cond.instanceMethod y_H_within ∈ lw_g := tw_2 204 rfl
theorem v_H_within : gYv y_H_within := ⟨im_H_within, tw_2 205 rfl⟩
theorem k_H_first : gY y_H_first b_H_first 1 (some .long) 0 := ⟨tw_2 210 rfl, id_H, by decide, by decide, by decide⟩
theorem im_H_first : Cond.instanceMethod y_H_first ∈ lw_g := tw_2 208 rfl
theorem v_H_first : gYv y_H_first := ⟨im_H_first, tw_2 209 rfl⟩
theorem k_H_second : gY y_H_second b_H_second 1 (some .long) 0 := ⟨tw_2 214 rfl, id_H, by decide, by decide, by decide⟩
theorem im_H_second : Cond.instanceMethod y_H_second ∈ lw_g := tw_2 212 rfl
theorem v_H_second : gYv y_H_second := ⟨im_H_second, tw_2 213 rfl⟩
theorem k_H_told : gY y_H_told b_H_told 5 (some .int) 1 := ⟨tw_2 218 rfl, id_H, by decide, by decide, by decide⟩
theorem im_H_told : Cond.instanceMethod y_H_told ∈ lw_g := tw_2 216 rfl
theorem v_H_told : gYv y_H_told := ⟨im_H_told, tw_2 217 rfl⟩
theorem k_H_rowOf : gY y_H_rowOf b_H_rowOf 2 (some (.object "HullSums$Row")) 1 := ⟨tw_1 117 rfl, id_H, by decide, by decide, by decide⟩
theorem im_H_rowOf : Cond.instanceMethod y_H_rowOf ∈ lw_g := tw_1 116 rfl
theorem v_H_rowOf : gYv y_H_rowOf := ⟨im_H_rowOf, List.mem_filter.mpr ⟨List.mem_append_left _ (by decide +kernel), rfl⟩⟩
theorem k_H_hullOf : gY y_H_hullOf b_H_hullOf 2 (some (.object "HullSums$Row")) 1 := ⟨tw_1 160 rfl, id_H, by decide, by decide, by decide⟩
theorem im_H_hullOf : Cond.instanceMethod y_H_hullOf ∈ lw_g := tw_1 159 rfl
theorem v_H_hullOf : gYv y_H_hullOf := ⟨im_H_hullOf, List.mem_filter.mpr ⟨List.mem_append_left _ (by decide +kernel), rfl⟩⟩
theorem k_H_fillSums : gY y_H_fillSums b_H_fillSums 6 (some .int) 3 := ⟨tw_2 140 rfl, id_H, by decide, by decide, by decide⟩
theorem im_H_fillSums : Cond.instanceMethod y_H_fillSums ∈ lw_g := tw_2 139 rfl
theorem v_H_fillSums : gYv y_H_fillSums := ⟨im_H_fillSums, List.mem_filter.mpr ⟨List.mem_append_left _ (by decide +kernel), rfl⟩⟩
theorem k_H_setOf : gY y_H_setOf b_H_setOf 5 (some .int) 1 := ⟨tw_2 159 rfl, id_H, by decide, by decide, by decide⟩
theorem im_H_setOf : Cond.instanceMethod y_H_setOf ∈ lw_g := tw_2 158 rfl
theorem v_H_setOf : gYv y_H_setOf := ⟨im_H_setOf, List.mem_filter.mpr ⟨List.mem_append_left _ (by decide +kernel), rfl⟩⟩
theorem k_H_takeDistancesFromZero : gY y_H_takeDistancesFromZero b_H_takeDistancesFromZero 5 none 1 := ⟨tw_2 176 rfl, id_H, by decide, by decide, by decide⟩
theorem im_H_takeDistancesFromZero : Cond.instanceMethod y_H_takeDistancesFromZero ∈ lw_g := tw_2 175 rfl
theorem v_H_takeDistancesFromZero : gYv y_H_takeDistancesFromZero := ⟨im_H_takeDistancesFromZero, List.mem_filter.mpr ⟨List.mem_append_left _ (by decide +kernel), rfl⟩⟩
theorem k_H_tell : gY y_H_tell b_H_tell 5 none 2 := ⟨tw_1 109 rfl, id_H, by decide, by decide, by decide⟩
theorem im_H_tell : Cond.instanceMethod y_H_tell ∈ lw_g := tw_1 108 rfl
theorem v_H_tell : gYv y_H_tell := ⟨im_H_tell, List.mem_filter.mpr ⟨List.mem_append_left _ (by decide +kernel), rfl⟩⟩
theorem k_H_tellFraction : gY y_H_tellFraction b_H_tellFraction 7 none 2 := ⟨tw_2 74 rfl, id_H, by decide, by decide, by decide⟩
theorem im_H_tellFraction : Cond.instanceMethod y_H_tellFraction ∈ lw_g := tw_2 73 rfl
theorem v_H_tellFraction : gYv y_H_tellFraction := ⟨im_H_tellFraction, List.mem_filter.mpr ⟨List.mem_append_left _ (by decide +kernel), rfl⟩⟩
theorem k_H_isNear : gY y_H_isNear b_H_isNear 2 (some .boolean) 2 := ⟨tw_1 128 rfl, id_H, by decide, by decide, by decide⟩
theorem st_H_isNear : Cond.static y_H_isNear ∈ lw_g := tw_1 127 rfl
theorem k_H_commonDivisor : gY y_H_commonDivisor b_H_commonDivisor 11 (some .long) 2 := ⟨tw_2 15 rfl, id_H, by decide, by decide, by decide⟩
theorem st_H_commonDivisor : Cond.static y_H_commonDivisor ∈ lw_g := tw_2 14 rfl
theorem k_M_init : gY y_M_init b_M_init 1 none 0 := ⟨tw_2 223 rfl, id_M, by decide, by decide, by decide⟩
theorem im_M_init : Cond.instanceMethod y_M_init ∈ lw_g := tw_2 222 rfl
theorem k_M_clear : gY y_M_clear b_M_clear 1 none 0 := ⟨tw_3 58 rfl, id_M, by decide, by decide, by decide⟩
theorem im_M_clear : Cond.instanceMethod y_M_clear ∈ lw_g := tw_3 56 rfl
theorem v_M_clear : gYv y_M_clear := ⟨im_M_clear, tw_3 57 rfl⟩
theorem k_M_is : gY y_M_is b_M_is 2 (some .boolean) 1 := ⟨tw_3 70 rfl, id_M, by decide, by decide, by decide⟩
theorem im_M_is : Cond.instanceMethod y_M_is ∈ lw_g := tw_3 69 rfl
theorem v_M_is : gYv y_M_is := ⟨im_M_is, List.mem_filter.mpr ⟨List.mem_append_left _ (by decide +kernel), rfl⟩⟩
theorem k_M_in : gY y_M_in b_M_in 3 (some .boolean) 3 := ⟨tw_3 73 rfl, id_M, by decide, by decide, by decide⟩
theorem st_M_in : Cond.static y_M_in ∈ lw_g := tw_3 72 rfl
theorem k_M_load : gY y_M_load b_M_load 3 none 1 := ⟨tw_3 85 rfl, id_M, by decide, by decide, by decide⟩
theorem im_M_load : Cond.instanceMethod y_M_load ∈ lw_g := tw_3 84 rfl
theorem v_M_load : gYv y_M_load := ⟨im_M_load, List.mem_filter.mpr ⟨List.mem_append_left _ (by decide +kernel), rfl⟩⟩
theorem k_M_loadBoth : gY y_M_loadBoth b_M_loadBoth 6 none 3 := ⟨tw_3 218 rfl, id_M, by decide, by decide, by decide⟩
theorem im_M_loadBoth : Cond.instanceMethod y_M_loadBoth ∈ lw_g := tw_3 217 rfl
theorem v_M_loadBoth : gYv y_M_loadBoth := ⟨im_M_loadBoth, List.mem_filter.mpr ⟨List.mem_append_left _ (by decide +kernel), rfl⟩⟩
theorem k_M_turn : gY y_M_turn b_M_turn 12 (some .long) 6 := ⟨tw_3 96 rfl, id_M, by decide, by decide, by decide⟩
theorem st_M_turn : Cond.static y_M_turn ∈ lw_g := tw_3 95 rfl
theorem k_M_square : gY y_M_square b_M_square 8 (some .long) 4 := ⟨tw_3 99 rfl, id_M, by decide, by decide, by decide⟩
theorem st_M_square : Cond.static y_M_square ∈ lw_g := tw_3 98 rfl
theorem k_M_goRound : gY y_M_goRound b_M_goRound 4 none 0 := ⟨tw_3 89 rfl, id_M, by decide, by decide, by decide⟩
theorem im_M_goRound : Cond.instanceMethod y_M_goRound ∈ lw_g := tw_3 88 rfl
theorem v_M_goRound : gYv y_M_goRound := ⟨im_M_goRound, List.mem_filter.mpr ⟨List.mem_append_left _ (by decide +kernel), rfl⟩⟩
theorem k_M_nextOf : gY y_M_nextOf b_M_nextOf 7 (some .int) 1 := ⟨tw_3 93 rfl, id_M, by decide, by decide, by decide⟩
theorem im_M_nextOf : Cond.instanceMethod y_M_nextOf ∈ lw_g := tw_3 92 rfl
theorem v_M_nextOf : gYv y_M_nextOf := ⟨im_M_nextOf, List.mem_filter.mpr ⟨List.mem_append_left _ (by decide +kernel), rfl⟩⟩
theorem k_M_after : gY y_M_after b_M_after 2 (some .int) 1 := ⟨tw_3 123 rfl, id_M, by decide, by decide, by decide⟩
theorem im_M_after : Cond.instanceMethod y_M_after ∈ lw_g := tw_3 122 rfl
theorem v_M_after : gYv y_M_after := ⟨im_M_after, List.mem_filter.mpr ⟨List.mem_append_left _ (by decide +kernel), rfl⟩⟩
theorem k_M_areaOf : gY y_M_areaOf b_M_areaOf 4 (some .long) 0 := ⟨tw_3 131 rfl, id_M, by decide, by decide, by decide⟩
theorem im_M_areaOf : Cond.instanceMethod y_M_areaOf ∈ lw_g := tw_3 130 rfl
theorem v_M_areaOf : gYv y_M_areaOf := ⟨im_M_areaOf, List.mem_filter.mpr ⟨List.mem_append_left _ (by decide +kernel), rfl⟩⟩
theorem k_M_isOn : gY y_M_isOn b_M_isOn 8 (some .boolean) 3 := ⟨tw_3 119 rfl, id_M, by decide, by decide, by decide⟩
theorem im_M_isOn : Cond.instanceMethod y_M_isOn ∈ lw_g := tw_3 118 rfl
theorem v_M_isOn : gYv y_M_isOn := ⟨im_M_isOn, List.mem_filter.mpr ⟨List.mem_append_left _ (by decide +kernel), rfl⟩⟩
theorem k_M_placeOf : gY y_M_placeOf b_M_placeOf 7 (some .int) 2 := ⟨tw_3 115 rfl, id_M, by decide, by decide, by decide⟩
theorem im_M_placeOf : Cond.instanceMethod y_M_placeOf ∈ lw_g := tw_3 114 rfl
theorem v_M_placeOf : gYv y_M_placeOf := ⟨im_M_placeOf, List.mem_filter.mpr ⟨List.mem_append_left _ (by decide +kernel), rfl⟩⟩
theorem k_M_common : gY y_M_common b_M_common 10 (some .long) 2 := ⟨tw_3 142 rfl, id_M, by decide, by decide, by decide⟩
theorem st_M_common : Cond.static y_M_common ∈ lw_g := tw_3 141 rfl
theorem k_M_tell : gY y_M_tell b_M_tell 9 none 2 := ⟨tw_3 184 rfl, id_M, by decide, by decide, by decide⟩
theorem im_M_tell : Cond.instanceMethod y_M_tell ∈ lw_g := tw_3 183 rfl
theorem v_M_tell : gYv y_M_tell := ⟨im_M_tell, List.mem_filter.mpr ⟨List.mem_append_left _ (by decide +kernel), rfl⟩⟩
theorem k_M_set : gY y_M_set b_M_set 1 (some .int) 0 := ⟨tw_3 62 rfl, id_M, by decide, by decide, by decide⟩
theorem im_M_set : Cond.instanceMethod y_M_set ∈ lw_g := tw_3 60 rfl
theorem v_M_set : gYv y_M_set := ⟨im_M_set, tw_3 61 rfl⟩
theorem k_M_point : gY y_M_point b_M_point 5 (some .int) 3 := ⟨tw_3 66 rfl, id_M, by decide, by decide, by decide⟩
theorem im_M_point : Cond.instanceMethod y_M_point ∈ lw_g := tw_3 64 rfl
theorem v_M_point : gYv y_M_point := ⟨im_M_point, tw_3 65 rfl⟩
theorem k_M_points : gY y_M_points b_M_points 2 (some .int) 1 := ⟨tw_3 77 rfl, id_M, by decide, by decide, by decide⟩
theorem im_M_points : Cond.instanceMethod y_M_points ∈ lw_g := tw_3 75 rfl
theorem v_M_points : gYv y_M_points := ⟨im_M_points, tw_3 76 rfl⟩
theorem k_M_kind : gY y_M_kind b_M_kind 2 (some .int) 1 := ⟨tw_3 81 rfl, id_M, by decide, by decide, by decide⟩
theorem im_M_kind : Cond.instanceMethod y_M_kind ∈ lw_g := tw_3 79 rfl
theorem v_M_kind : gYv y_M_kind := ⟨im_M_kind, tw_3 80 rfl⟩
theorem k_M_corners : gY y_M_corners b_M_corners 2 (some .int) 1 := ⟨tw_3 103 rfl, id_M, by decide, by decide, by decide⟩
theorem im_M_corners : Cond.instanceMethod y_M_corners ∈ lw_g := tw_3 101 rfl
theorem v_M_corners : gYv y_M_corners := ⟨im_M_corners, tw_3 102 rfl⟩
theorem k_M_corner : gY y_M_corner b_M_corner 3 (some .int) 2 := ⟨tw_3 107 rfl, id_M, by decide, by decide, by decide⟩
theorem im_M_corner : Cond.instanceMethod y_M_corner ∈ lw_g := tw_3 105 rfl
theorem v_M_corner : gYv y_M_corner := ⟨im_M_corner, tw_3 106 rfl⟩
theorem k_M_beside : gY y_M_beside b_M_beside 6 (some .int) 1 := ⟨tw_3 111 rfl, id_M, by decide, by decide, by decide⟩
theorem im_M_beside : Cond.instanceMethod y_M_beside ∈ lw_g := tw_3 109 rfl
theorem v_M_beside : gYv y_M_beside := ⟨im_M_beside, tw_3 110 rfl⟩
theorem k_M_area : gY y_M_area b_M_area 2 (some .int) 1 := ⟨tw_3 127 rfl, id_M, by decide, by decide, by decide⟩
theorem im_M_area : Cond.instanceMethod y_M_area ∈ lw_g := tw_3 125 rfl
theorem v_M_area : gYv y_M_area := ⟨im_M_area, tw_3 126 rfl⟩
theorem k_M_borderOf : gY y_M_borderOf b_M_borderOf 4 (some .int) 0 := ⟨tw_3 139 rfl, id_M, by decide, by decide, by decide⟩
theorem im_M_borderOf : Cond.instanceMethod y_M_borderOf ∈ lw_g := tw_3 138 rfl
theorem v_M_borderOf : gYv y_M_borderOf := ⟨im_M_borderOf, List.mem_filter.mpr ⟨List.mem_append_left _ (by decide +kernel), rfl⟩⟩
theorem k_M_part : gY y_M_part b_M_part 9 (some .long) 3 := ⟨tw_3 164 rfl, id_M, by decide, by decide, by decide⟩
theorem st_M_part : Cond.static y_M_part ∈ lw_g := tw_3 163 rfl
theorem k_M_row : gY y_M_row b_M_row 15 none 3 := ⟨tw_3 157 rfl, id_M, by decide, by decide, by decide⟩
theorem im_M_row : Cond.instanceMethod y_M_row ∈ lw_g := tw_3 156 rfl
theorem v_M_row : gYv y_M_row := ⟨im_M_row, List.mem_filter.mpr ⟨List.mem_append_left _ (by decide +kernel), rfl⟩⟩
theorem k_M_see : gY y_M_see b_M_see 5 none 2 := ⟨tw_3 161 rfl, id_M, by decide, by decide, by decide⟩
theorem im_M_see : Cond.instanceMethod y_M_see ∈ lw_g := tw_3 160 rfl
theorem v_M_see : gYv y_M_see := ⟨im_M_see, List.mem_filter.mpr ⟨List.mem_append_left _ (by decide +kernel), rfl⟩⟩
theorem k_M_allPoints : gY y_M_allPoints b_M_allPoints 11 (some .int) 1 := ⟨tw_3 151 rfl, id_M, by decide, by decide, by decide⟩
theorem im_M_allPoints : Cond.instanceMethod y_M_allPoints ∈ lw_g := tw_3 150 rfl
theorem v_M_allPoints : gYv y_M_allPoints := ⟨im_M_allPoints, List.mem_filter.mpr ⟨List.mem_append_left _ (by decide +kernel), rfl⟩⟩
theorem k_M_border : gY y_M_border b_M_border 2 (some .int) 1 := ⟨tw_3 135 rfl, id_M, by decide, by decide, by decide⟩
theorem im_M_border : Cond.instanceMethod y_M_border ∈ lw_g := tw_3 133 rfl
theorem v_M_border : gYv y_M_border := ⟨im_M_border, tw_3 134 rfl⟩
theorem k_M_inside : gY y_M_inside b_M_inside 2 (some .int) 1 := ⟨tw_3 147 rfl, id_M, by decide, by decide, by decide⟩
theorem im_M_inside : Cond.instanceMethod y_M_inside ∈ lw_g := tw_3 145 rfl
theorem v_M_inside : gYv y_M_inside := ⟨im_M_inside, tw_3 146 rfl⟩
theorem k_M_grown : gY y_M_grown b_M_grown 3 (some .int) 2 := ⟨tw_3 168 rfl, id_M, by decide, by decide, by decide⟩
theorem im_M_grown : Cond.instanceMethod y_M_grown ∈ lw_g := tw_3 166 rfl
theorem v_M_grown : gYv y_M_grown := ⟨im_M_grown, tw_3 167 rfl⟩
theorem k_M_wide : gY y_M_wide b_M_wide 8 (some .int) 1 := ⟨tw_3 172 rfl, id_M, by decide, by decide, by decide⟩
theorem im_M_wide : Cond.instanceMethod y_M_wide ∈ lw_g := tw_3 170 rfl
theorem v_M_wide : gYv y_M_wide := ⟨im_M_wide, tw_3 171 rfl⟩
theorem k_M_width : gY y_M_width b_M_width 9 (some .int) 1 := ⟨tw_3 176 rfl, id_M, by decide, by decide, by decide⟩
theorem im_M_width : Cond.instanceMethod y_M_width ∈ lw_g := tw_3 174 rfl
theorem v_M_width : gYv y_M_width := ⟨im_M_width, tw_3 175 rfl⟩
theorem k_M_spread : gY y_M_spread b_M_spread 10 none 2 := ⟨tw_3 180 rfl, id_M, by decide, by decide, by decide⟩
theorem im_M_spread : Cond.instanceMethod y_M_spread ∈ lw_g := tw_3 179 rfl
theorem v_M_spread : gYv y_M_spread := ⟨im_M_spread, List.mem_filter.mpr ⟨List.mem_append_left _ (by decide +kernel), rfl⟩⟩
theorem k_M_isAcross : gY y_M_isAcross b_M_isAcross 7 (some .boolean) 2 := ⟨tw_3 197 rfl, id_M, by decide, by decide, by decide⟩
theorem im_M_isAcross : Cond.instanceMethod y_M_isAcross ∈ lw_g := tw_3 196 rfl
theorem v_M_isAcross : gYv y_M_isAcross := ⟨im_M_isAcross, List.mem_filter.mpr ⟨List.mem_append_left _ (by decide +kernel), rfl⟩⟩
theorem k_M_isSharp : gY y_M_isSharp b_M_isSharp 4 (some .boolean) 3 := ⟨tw_3 206 rfl, id_M, by decide, by decide, by decide⟩
theorem im_M_isSharp : Cond.instanceMethod y_M_isSharp ∈ lw_g := tw_3 205 rfl
theorem v_M_isSharp : gYv y_M_isSharp := ⟨im_M_isSharp, List.mem_filter.mpr ⟨List.mem_append_left _ (by decide +kernel), rfl⟩⟩
theorem k_M_isRound : gY y_M_isRound b_M_isRound 20 (some .boolean) 3 := ⟨tw_3 202 rfl, id_M, by decide, by decide, by decide⟩
theorem im_M_isRound : Cond.instanceMethod y_M_isRound ∈ lw_g := tw_3 201 rfl
theorem v_M_isRound : gYv y_M_isRound := ⟨im_M_isRound, List.mem_filter.mpr ⟨List.mem_append_left _ (by decide +kernel), rfl⟩⟩
theorem k_M_findCircle : gY y_M_findCircle b_M_findCircle 4 (some .boolean) 0 := ⟨tw_3 193 rfl, id_M, by decide, by decide, by decide⟩
theorem im_M_findCircle : Cond.instanceMethod y_M_findCircle ∈ lw_g := tw_3 192 rfl
theorem v_M_findCircle : gYv y_M_findCircle := ⟨im_M_findCircle, List.mem_filter.mpr ⟨List.mem_append_left _ (by decide +kernel), rfl⟩⟩
theorem k_M_circle : gY y_M_circle b_M_circle 3 (some .int) 2 := ⟨tw_3 189 rfl, id_M, by decide, by decide, by decide⟩
theorem im_M_circle : Cond.instanceMethod y_M_circle ∈ lw_g := tw_3 187 rfl
theorem v_M_circle : gYv y_M_circle := ⟨im_M_circle, tw_3 188 rfl⟩
theorem k_M_keep : gY y_M_keep b_M_keep 2 (some .int) 0 := ⟨tw_3 222 rfl, id_M, by decide, by decide, by decide⟩
theorem im_M_keep : Cond.instanceMethod y_M_keep ∈ lw_g := tw_3 221 rfl
theorem v_M_keep : gYv y_M_keep := ⟨im_M_keep, List.mem_filter.mpr ⟨List.mem_append_left _ (by decide +kernel), rfl⟩⟩
theorem k_M_wrong : gY y_M_wrong b_M_wrong 3 (some .int) 2 := ⟨tw_3 214 rfl, id_M, by decide, by decide, by decide⟩
theorem im_M_wrong : Cond.instanceMethod y_M_wrong ∈ lw_g := tw_3 213 rfl
theorem v_M_wrong : gYv y_M_wrong := ⟨im_M_wrong, List.mem_filter.mpr ⟨List.mem_append_left _ (by decide +kernel), rfl⟩⟩
theorem k_M_sum : gY y_M_sum b_M_sum 5 (some .int) 2 := ⟨tw_3 210 rfl, id_M, by decide, by decide, by decide⟩
theorem im_M_sum : Cond.instanceMethod y_M_sum ∈ lw_g := tw_3 208 rfl
theorem v_M_sum : gYv y_M_sum := ⟨im_M_sum, tw_3 209 rfl⟩
theorem k_M_turned : gY y_M_turned b_M_turned 3 (some .int) 1 := ⟨tw_3 226 rfl, id_M, by decide, by decide, by decide⟩
theorem im_M_turned : Cond.instanceMethod y_M_turned ∈ lw_g := tw_3 224 rfl
theorem v_M_turned : gYv y_M_turned := ⟨im_M_turned, tw_3 225 rfl⟩
theorem k_M_meets : gY y_M_meets b_M_meets 4 (some .int) 2 := ⟨tw_3 230 rfl, id_M, by decide, by decide, by decide⟩
theorem im_M_meets : Cond.instanceMethod y_M_meets ∈ lw_g := tw_3 228 rfl
theorem v_M_meets : gYv y_M_meets := ⟨im_M_meets, tw_3 229 rfl⟩
theorem k_M_apart : gY y_M_apart b_M_apart 16 (some .int) 2 := ⟨tw_3 234 rfl, id_M, by decide, by decide, by decide⟩
theorem im_M_apart : Cond.instanceMethod y_M_apart ∈ lw_g := tw_3 232 rfl
theorem v_M_apart : gYv y_M_apart := ⟨im_M_apart, tw_3 233 rfl⟩
theorem k_M_better : gY y_M_better b_M_better 5 none 2 := ⟨tw_3 238 rfl, id_M, by decide, by decide, by decide⟩
theorem im_M_better : Cond.instanceMethod y_M_better ∈ lw_g := tw_3 237 rfl
theorem v_M_better : gYv y_M_better := ⟨im_M_better, List.mem_filter.mpr ⟨List.mem_append_left _ (by decide +kernel), rfl⟩⟩
theorem k_M_mixed : gY y_M_mixed b_M_mixed 6 (some .int) 2 := ⟨tw_4 2 rfl, id_M, by decide, by decide, by decide⟩
theorem im_M_mixed : Cond.instanceMethod y_M_mixed ∈ lw_g := tw_4 0 rfl
theorem v_M_mixed : gYv y_M_mixed := ⟨im_M_mixed, tw_4 1 rfl⟩
theorem k_M_holds : gY y_M_holds b_M_holds 4 (some .int) 3 := ⟨tw_4 6 rfl, id_M, by decide, by decide, by decide⟩
theorem im_M_holds : Cond.instanceMethod y_M_holds ∈ lw_g := tw_4 4 rfl
theorem v_M_holds : gYv y_M_holds := ⟨im_M_holds, tw_4 5 rfl⟩
theorem k_M_supports : gY y_M_supports b_M_supports 7 (some .int) 3 := ⟨tw_4 10 rfl, id_M, by decide, by decide, by decide⟩
theorem im_M_supports : Cond.instanceMethod y_M_supports ∈ lw_g := tw_4 8 rfl
theorem v_M_supports : gYv y_M_supports := ⟨im_M_supports, tw_4 9 rfl⟩
theorem k_M_nearest : gY y_M_nearest b_M_nearest 8 (some .int) 1 := ⟨tw_4 14 rfl, id_M, by decide, by decide, by decide⟩
theorem im_M_nearest : Cond.instanceMethod y_M_nearest ∈ lw_g := tw_4 12 rfl
theorem v_M_nearest : gYv y_M_nearest := ⟨im_M_nearest, tw_4 13 rfl⟩
theorem k_M_within : gY y_M_within b_M_within 5 (some .int) 2 := ⟨tw_4 18 rfl, id_M, by decide, by decide, by decide⟩
theorem im_M_within : Cond.instanceMethod y_M_within ∈ lw_g := tw_4 16 rfl
theorem v_M_within : gYv y_M_within := ⟨im_M_within, tw_4 17 rfl⟩
theorem k_M_first : gY y_M_first b_M_first 1 (some .long) 0 := ⟨tw_4 22 rfl, id_M, by decide, by decide, by decide⟩
theorem im_M_first : Cond.instanceMethod y_M_first ∈ lw_g := tw_4 20 rfl
theorem v_M_first : gYv y_M_first := ⟨im_M_first, tw_4 21 rfl⟩
theorem k_M_second : gY y_M_second b_M_second 1 (some .long) 0 := ⟨tw_4 26 rfl, id_M, by decide, by decide, by decide⟩
theorem im_M_second : Cond.instanceMethod y_M_second ∈ lw_g := tw_4 24 rfl
theorem v_M_second : gYv y_M_second := ⟨im_M_second, tw_4 25 rfl⟩
theorem k_M_told : gY y_M_told b_M_told 4 (some .int) 1 := ⟨tw_4 30 rfl, id_M, by decide, by decide, by decide⟩
theorem im_M_told : Cond.instanceMethod y_M_told ∈ lw_g := tw_4 28 rfl
theorem v_M_told : gYv y_M_told := ⟨im_M_told, tw_4 29 rfl⟩
theorem k_C_init : gY y_C_init b_C_init 1 none 0 := ⟨tw_1 37 rfl, id_C, by decide, by decide, by decide⟩
theorem im_C_init : Cond.instanceMethod y_C_init ∈ lw_g := tw_1 36 rfl
theorem k_C_enclose : gY y_C_enclose b_C_enclose 3 none 1 := ⟨tw_2 83 rfl, id_C, by decide, by decide, by decide⟩
theorem im_C_enclose : Cond.instanceMethod y_C_enclose ∈ lw_g := tw_2 81 rfl
theorem v_C_enclose : gYv y_C_enclose := ⟨im_C_enclose, tw_2 82 rfl⟩
theorem k_C_encloseThrough : gY y_C_encloseThrough b_C_encloseThrough 4 none 2 := ⟨tw_2 99 rfl, id_C, by decide, by decide, by decide⟩
theorem im_C_encloseThrough : Cond.instanceMethod y_C_encloseThrough ∈ lw_g := tw_2 98 rfl
theorem v_C_encloseThrough : gYv y_C_encloseThrough := ⟨im_C_encloseThrough, List.mem_filter.mpr ⟨List.mem_append_left _ (by decide +kernel), rfl⟩⟩
theorem k_C_encloseThroughBoth : gY y_C_encloseThroughBoth b_C_encloseThroughBoth 5 none 3 := ⟨tw_2 103 rfl, id_C, by decide, by decide, by decide⟩
theorem im_C_encloseThroughBoth : Cond.instanceMethod y_C_encloseThroughBoth ∈ lw_g := tw_2 102 rfl
theorem v_C_encloseThroughBoth : gYv y_C_encloseThroughBoth := ⟨im_C_encloseThroughBoth, List.mem_filter.mpr ⟨List.mem_append_left _ (by decide +kernel), rfl⟩⟩
theorem k_C_has : gY y_C_has b_C_has 7 (some .boolean) 2 := ⟨tw_2 94 rfl, id_C, by decide, by decide, by decide⟩
theorem im_C_has : Cond.instanceMethod y_C_has ∈ lw_g := tw_2 93 rfl
theorem v_C_has : gYv y_C_has := ⟨im_C_has, List.mem_filter.mpr ⟨List.mem_append_left _ (by decide +kernel), rfl⟩⟩
theorem k_C_shrinkTo : gY y_C_shrinkTo b_C_shrinkTo 3 none 2 := ⟨tw_2 87 rfl, id_C, by decide, by decide, by decide⟩
theorem im_C_shrinkTo : Cond.instanceMethod y_C_shrinkTo ∈ lw_g := tw_2 86 rfl
theorem v_C_shrinkTo : gYv y_C_shrinkTo := ⟨im_C_shrinkTo, List.mem_filter.mpr ⟨List.mem_append_left _ (by decide +kernel), rfl⟩⟩
theorem k_C_spanAcross : gY y_C_spanAcross b_C_spanAcross 4 none 3 := ⟨tw_2 107 rfl, id_C, by decide, by decide, by decide⟩
theorem im_C_spanAcross : Cond.instanceMethod y_C_spanAcross ∈ lw_g := tw_2 106 rfl
theorem v_C_spanAcross : gYv y_C_spanAcross := ⟨im_C_spanAcross, List.mem_filter.mpr ⟨List.mem_append_left _ (by decide +kernel), rfl⟩⟩
theorem k_C_passThrough : gY y_C_passThrough b_C_passThrough 21 none 4 := ⟨tw_2 111 rfl, id_C, by decide, by decide, by decide⟩
theorem im_C_passThrough : Cond.instanceMethod y_C_passThrough ∈ lw_g := tw_2 110 rfl
theorem v_C_passThrough : gYv y_C_passThrough := ⟨im_C_passThrough, List.mem_filter.mpr ⟨List.mem_append_left _ (by decide +kernel), rfl⟩⟩
theorem k_C_middleX : gY y_C_middleX b_C_middleX 1 (some .long) 0 := ⟨tw_2 116 rfl, id_C, by decide, by decide, by decide⟩
theorem im_C_middleX : Cond.instanceMethod y_C_middleX ∈ lw_g := tw_2 114 rfl
theorem v_C_middleX : gYv y_C_middleX := ⟨im_C_middleX, tw_2 115 rfl⟩
theorem k_C_middleY : gY y_C_middleY b_C_middleY 1 (some .long) 0 := ⟨tw_2 124 rfl, id_C, by decide, by decide, by decide⟩
theorem im_C_middleY : Cond.instanceMethod y_C_middleY ∈ lw_g := tw_2 122 rfl
theorem v_C_middleY : gYv y_C_middleY := ⟨im_C_middleY, tw_2 123 rfl⟩
theorem k_C_middleUnder : gY y_C_middleUnder b_C_middleUnder 1 (some .long) 0 := ⟨tw_2 120 rfl, id_C, by decide, by decide, by decide⟩
theorem im_C_middleUnder : Cond.instanceMethod y_C_middleUnder ∈ lw_g := tw_2 118 rfl
theorem v_C_middleUnder : gYv y_C_middleUnder := ⟨im_C_middleUnder, tw_2 119 rfl⟩
theorem k_C_squareOver : gY y_C_squareOver b_C_squareOver 1 (some .long) 0 := ⟨tw_2 128 rfl, id_C, by decide, by decide, by decide⟩
theorem im_C_squareOver : Cond.instanceMethod y_C_squareOver ∈ lw_g := tw_2 126 rfl
theorem v_C_squareOver : gYv y_C_squareOver := ⟨im_C_squareOver, tw_2 127 rfl⟩
theorem k_C_squareUnder : gY y_C_squareUnder b_C_squareUnder 1 (some .long) 0 := ⟨tw_2 132 rfl, id_C, by decide, by decide, by decide⟩
theorem im_C_squareUnder : Cond.instanceMethod y_C_squareUnder ∈ lw_g := tw_2 130 rfl
theorem v_C_squareUnder : gYv y_C_squareUnder := ⟨im_C_squareUnder, tw_2 131 rfl⟩
theorem k_L_init : gY y_L_init b_L_init 1 none 0 := ⟨tw_1 59 rfl, id_L, by decide, by decide, by decide⟩
theorem im_L_init : Cond.instanceMethod y_L_init ∈ lw_g := tw_1 58 rfl
theorem k_L_forget : gY y_L_forget b_L_forget 1 none 0 := ⟨tw_2 48 rfl, id_L, by decide, by decide, by decide⟩
theorem im_L_forget : Cond.instanceMethod y_L_forget ∈ lw_g := tw_2 46 rfl
theorem v_L_forget : gYv y_L_forget := ⟨im_L_forget, tw_2 47 rfl⟩
theorem k_L_take : gY y_L_take b_L_take 5 none 2 := ⟨tw_2 62 rfl, id_L, by decide, by decide, by decide⟩
theorem im_L_take : Cond.instanceMethod y_L_take ∈ lw_g := tw_2 60 rfl
theorem v_L_take : gYv y_L_take := ⟨im_L_take, tw_2 61 rfl⟩
theorem k_L_over : gY y_L_over b_L_over 1 (some .long) 0 := ⟨tw_2 66 rfl, id_L, by decide, by decide, by decide⟩
theorem im_L_over : Cond.instanceMethod y_L_over ∈ lw_g := tw_2 64 rfl
theorem v_L_over : gYv y_L_over := ⟨im_L_over, tw_2 65 rfl⟩
theorem k_L_under : gY y_L_under b_L_under 1 (some .long) 0 := ⟨tw_2 70 rfl, id_L, by decide, by decide, by decide⟩
theorem im_L_under : Cond.instanceMethod y_L_under ∈ lw_g := tw_2 68 rfl
theorem v_L_under : gYv y_L_under := ⟨im_L_under, tw_2 69 rfl⟩
theorem k_R_init : gY y_R_init b_R_init 1 none 0 := ⟨tw_1 20 rfl, id_R, by decide, by decide, by decide⟩
theorem im_R_init : Cond.instanceMethod y_R_init ∈ lw_g := tw_1 19 rfl
theorem k_R_size : gY y_R_size b_R_size 1 (some .int) 0 := ⟨tw_1 144 rfl, id_R, by decide, by decide, by decide⟩
theorem im_R_size : Cond.instanceMethod y_R_size ∈ lw_g := tw_1 142 rfl
theorem v_R_size : gYv y_R_size := ⟨im_R_size, tw_1 143 rfl⟩
theorem k_R_x : gY y_R_x b_R_x 2 (some .int) 1 := ⟨tw_1 136 rfl, id_R, by decide, by decide, by decide⟩
theorem im_R_x : Cond.instanceMethod y_R_x ∈ lw_g := tw_1 134 rfl
theorem v_R_x : gYv y_R_x := ⟨im_R_x, tw_1 135 rfl⟩
theorem k_R_y : gY y_R_y b_R_y 2 (some .int) 1 := ⟨tw_1 140 rfl, id_R, by decide, by decide, by decide⟩
theorem im_R_y : Cond.instanceMethod y_R_y ∈ lw_g := tw_1 138 rfl
theorem v_R_y : gYv y_R_y := ⟨im_R_y, tw_1 139 rfl⟩
theorem k_R_empty : gY y_R_empty b_R_empty 1 none 0 := ⟨tw_1 121 rfl, id_R, by decide, by decide, by decide⟩
theorem im_R_empty : Cond.instanceMethod y_R_empty ∈ lw_g := tw_1 119 rfl
theorem v_R_empty : gYv y_R_empty := ⟨im_R_empty, tw_1 120 rfl⟩
theorem k_R_add : gY y_R_add b_R_add 3 none 2 := ⟨tw_1 148 rfl, id_R, by decide, by decide, by decide⟩
theorem im_R_add : Cond.instanceMethod y_R_add ∈ lw_g := tw_1 146 rfl
theorem v_R_add : gYv y_R_add := ⟨im_R_add, tw_1 147 rfl⟩
theorem k_R_dropLast : gY y_R_dropLast b_R_dropLast 1 none 0 := ⟨tw_1 183 rfl, id_R, by decide, by decide, by decide⟩
theorem im_R_dropLast : Cond.instanceMethod y_R_dropLast ∈ lw_g := tw_1 181 rfl
theorem v_R_dropLast : gYv y_R_dropLast := ⟨im_R_dropLast, tw_1 182 rfl⟩
theorem k_R_has : gY y_R_has b_R_has 4 (some .boolean) 2 := ⟨tw_1 132 rfl, id_R, by decide, by decide, by decide⟩
theorem im_R_has : Cond.instanceMethod y_R_has ∈ lw_g := tw_1 130 rfl
theorem v_R_has : gYv y_R_has := ⟨im_R_has, tw_1 131 rfl⟩
theorem k_R_isWithin : gY y_R_isWithin b_R_isWithin 3 (some .boolean) 1 := ⟨tw_2 154 rfl, id_R, by decide, by decide, by decide⟩
theorem im_R_isWithin : Cond.instanceMethod y_R_isWithin ∈ lw_g := tw_2 152 rfl
theorem v_R_isWithin : gYv y_R_isWithin := ⟨im_R_isWithin, tw_2 153 rfl⟩
theorem k_R_addSorted : gY y_R_addSorted b_R_addSorted 4 none 2 := ⟨tw_1 170 rfl, id_R, by decide, by decide, by decide⟩
theorem im_R_addSorted : Cond.instanceMethod y_R_addSorted ∈ lw_g := tw_1 168 rfl
theorem v_R_addSorted : gYv y_R_addSorted := ⟨im_R_addSorted, tw_1 169 rfl⟩
theorem k_R_squareBetween : gY y_R_squareBetween b_R_squareBetween 5 (some .int) 2 := ⟨tw_2 39 rfl, id_R, by decide, by decide, by decide⟩
theorem im_R_squareBetween : Cond.instanceMethod y_R_squareBetween ∈ lw_g := tw_2 37 rfl
theorem v_R_squareBetween : gYv y_R_squareBetween := ⟨im_R_squareBetween, tw_2 38 rfl⟩
theorem k_R_squareFromZero : gY y_R_squareFromZero b_R_squareFromZero 2 (some .int) 1 := ⟨tw_2 180 rfl, id_R, by decide, by decide, by decide⟩
theorem im_R_squareFromZero : Cond.instanceMethod y_R_squareFromZero ∈ lw_g := tw_2 178 rfl
theorem v_R_squareFromZero : gYv y_R_squareFromZero := ⟨im_R_squareFromZero, tw_2 179 rfl⟩
theorem k_R_becomeHull : gY y_R_becomeHull b_R_becomeHull 6 none 3 := ⟨tw_1 164 rfl, id_R, by decide, by decide, by decide⟩
theorem im_R_becomeHull : Cond.instanceMethod y_R_becomeHull ∈ lw_g := tw_1 162 rfl
theorem v_R_becomeHull : gYv y_R_becomeHull := ⟨im_R_becomeHull, tw_1 163 rfl⟩
theorem k_R_addCorner : gY y_R_addCorner b_R_addCorner 4 none 3 := ⟨tw_1 174 rfl, id_R, by decide, by decide, by decide⟩
theorem im_R_addCorner : Cond.instanceMethod y_R_addCorner ∈ lw_g := tw_1 173 rfl
theorem v_R_addCorner : gYv y_R_addCorner := ⟨im_R_addCorner, List.mem_filter.mpr ⟨List.mem_append_left _ (by decide +kernel), rfl⟩⟩
theorem k_R_turn : gY y_R_turn b_R_turn 5 (some .int) 4 := ⟨tw_1 178 rfl, id_R, by decide, by decide, by decide⟩
theorem im_R_turn : Cond.instanceMethod y_R_turn ∈ lw_g := tw_1 177 rfl
theorem v_R_turn : gYv y_R_turn := ⟨im_R_turn, List.mem_filter.mpr ⟨List.mem_append_left _ (by decide +kernel), rfl⟩⟩
theorem k_R_sides : gY y_R_sides b_R_sides 1 (some .int) 0 := ⟨tw_2 4 rfl, id_R, by decide, by decide, by decide⟩
theorem im_R_sides : Cond.instanceMethod y_R_sides ∈ lw_g := tw_2 2 rfl
theorem v_R_sides : gYv y_R_sides := ⟨im_R_sides, tw_2 3 rfl⟩
theorem k_R_next : gY y_R_next b_R_next 2 (some .int) 1 := ⟨tw_1 220 rfl, id_R, by decide, by decide, by decide⟩
theorem im_R_next : Cond.instanceMethod y_R_next ∈ lw_g := tw_1 219 rfl
theorem v_R_next : gYv y_R_next := ⟨im_R_next, List.mem_filter.mpr ⟨List.mem_append_left _ (by decide +kernel), rfl⟩⟩
theorem k_R_sideX : gY y_R_sideX b_R_sideX 2 (some .int) 1 := ⟨tw_2 8 rfl, id_R, by decide, by decide, by decide⟩
theorem im_R_sideX : Cond.instanceMethod y_R_sideX ∈ lw_g := tw_2 6 rfl
theorem v_R_sideX : gYv y_R_sideX := ⟨im_R_sideX, tw_2 7 rfl⟩
theorem k_R_sideY : gY y_R_sideY b_R_sideY 2 (some .int) 1 := ⟨tw_2 12 rfl, id_R, by decide, by decide, by decide⟩
theorem im_R_sideY : Cond.instanceMethod y_R_sideY ∈ lw_g := tw_2 10 rfl
theorem v_R_sideY : gYv y_R_sideY := ⟨im_R_sideY, tw_2 11 rfl⟩
theorem k_R_squareOfSide : gY y_R_squareOfSide b_R_squareOfSide 2 (some .int) 1 := ⟨tw_2 57 rfl, id_R, by decide, by decide, by decide⟩
theorem im_R_squareOfSide : Cond.instanceMethod y_R_squareOfSide ∈ lw_g := tw_2 55 rfl
theorem v_R_squareOfSide : gYv y_R_squareOfSide := ⟨im_R_squareOfSide, tw_2 56 rfl⟩
theorem k_R_offSide : gY y_R_offSide b_R_offSide 4 (some .int) 3 := ⟨tw_1 216 rfl, id_R, by decide, by decide, by decide⟩
theorem im_R_offSide : Cond.instanceMethod y_R_offSide ∈ lw_g := tw_1 214 rfl
theorem v_R_offSide : gYv y_R_offSide := ⟨im_R_offSide, tw_1 215 rfl⟩
theorem k_R_reachFromSide : gY y_R_reachFromSide b_R_reachFromSide 4 (some .int) 1 := ⟨tw_2 53 rfl, id_R, by decide, by decide, by decide⟩
theorem im_R_reachFromSide : Cond.instanceMethod y_R_reachFromSide ∈ lw_g := tw_2 51 rfl
theorem v_R_reachFromSide : gYv y_R_reachFromSide := ⟨im_R_reachFromSide, tw_2 52 rfl⟩
theorem k_R_sideFacesZero : gY y_R_sideFacesZero b_R_sideFacesZero 3 (some .boolean) 1 := ⟨tw_2 184 rfl, id_R, by decide, by decide, by decide⟩
theorem im_R_sideFacesZero : Cond.instanceMethod y_R_sideFacesZero ∈ lw_g := tw_2 182 rfl
theorem v_R_sideFacesZero : gYv y_R_sideFacesZero := ⟨im_R_sideFacesZero, tw_2 183 rfl⟩
theorem k_R_place : gY y_R_place b_R_place 6 (some .int) 2 := ⟨tw_1 204 rfl, id_R, by decide, by decide, by decide⟩
theorem im_R_place : Cond.instanceMethod y_R_place ∈ lw_g := tw_1 202 rfl
theorem v_R_place : gYv y_R_place := ⟨im_R_place, tw_1 203 rfl⟩
theorem k_R_isOnThin : gY y_R_isOnThin b_R_isOnThin 4 (some .boolean) 2 := ⟨tw_1 208 rfl, id_R, by decide, by decide, by decide⟩
theorem im_R_isOnThin : Cond.instanceMethod y_R_isOnThin ∈ lw_g := tw_1 207 rfl
theorem v_R_isOnThin : gYv y_R_isOnThin := ⟨im_R_isOnThin, List.mem_filter.mpr ⟨List.mem_append_left _ (by decide +kernel), rfl⟩⟩
theorem k_R_doubleArea : gY y_R_doubleArea b_R_doubleArea 3 (some .int) 0 := ⟨tw_1 228 rfl, id_R, by decide, by decide, by decide⟩
theorem im_R_doubleArea : Cond.instanceMethod y_R_doubleArea ∈ lw_g := tw_1 226 rfl
theorem v_R_doubleArea : gYv y_R_doubleArea := ⟨im_R_doubleArea, tw_1 227 rfl⟩
theorem k_R_gridSteps : gY y_R_gridSteps b_R_gridSteps 3 (some .int) 0 := ⟨tw_2 0 rfl, id_R, by decide, by decide, by decide⟩
theorem im_R_gridSteps : Cond.instanceMethod y_R_gridSteps ∈ lw_g := tw_1 239 rfl
theorem v_R_gridSteps : gYv y_R_gridSteps := ⟨im_R_gridSteps, List.mem_filter.mpr ⟨List.mem_append_left _ (by decide +kernel), rfl⟩⟩
theorem k_R_gridOnBorder : gY y_R_gridOnBorder b_R_gridOnBorder 1 (some .int) 0 := ⟨tw_1 236 rfl, id_R, by decide, by decide, by decide⟩
theorem im_R_gridOnBorder : Cond.instanceMethod y_R_gridOnBorder ∈ lw_g := tw_1 234 rfl
theorem v_R_gridOnBorder : gYv y_R_gridOnBorder := ⟨im_R_gridOnBorder, tw_1 235 rfl⟩
theorem k_R_gridWhenGrown : gY y_R_gridWhenGrown b_R_gridWhenGrown 2 (some .int) 1 := ⟨tw_2 26 rfl, id_R, by decide, by decide, by decide⟩
theorem im_R_gridWhenGrown : Cond.instanceMethod y_R_gridWhenGrown ∈ lw_g := tw_2 24 rfl
theorem v_R_gridWhenGrown : gYv y_R_gridWhenGrown := ⟨im_R_gridWhenGrown, tw_2 25 rfl⟩
theorem k_R_becomeSums : gY y_R_becomeSums b_R_becomeSums 10 none 2 := ⟨tw_2 144 rfl, id_R, by decide, by decide, by decide⟩
theorem im_R_becomeSums : Cond.instanceMethod y_R_becomeSums ∈ lw_g := tw_2 142 rfl
theorem v_R_becomeSums : gYv y_R_becomeSums := ⟨im_R_becomeSums, tw_2 143 rfl⟩
theorem k_R_orderOfSides : gY y_R_orderOfSides b_R_orderOfSides 5 (some .int) 4 := ⟨tw_2 147 rfl, id_R, by decide, by decide, by decide⟩
theorem st_R_orderOfSides : Cond.static y_R_orderOfSides ∈ lw_g := tw_2 146 rfl
theorem k_R_goesBack : gY y_R_goesBack b_R_goesBack 2 (some .boolean) 2 := ⟨tw_2 150 rfl, id_R, by decide, by decide, by decide⟩
theorem st_R_goesBack : Cond.static y_R_goesBack ∈ lw_g := tw_2 149 rfl
theorem in_H : ∀ w ∈ u_ws "HullSums" T_H 10, w ∈ lw_g := by decide +kernel
theorem in_R : ∀ w ∈ u_ws "HullSums$Row" T_R 3, w ∈ lw_g := by decide +kernel
theorem in_C : ∀ w ∈ u_ws "HullSums$Circle" T_C 5, w ∈ lw_g := by decide +kernel
theorem in_L : ∀ w ∈ u_ws "HullSums$Lowest" T_L 3, w ∈ lw_g := by decide +kernel
theorem in_M : ∀ w ∈ u_ws "HullSumsModel" T_M 23, w ∈ lw_g := by decide +kernel
end
section
theorem d_H_init_0 : decode b_H_init 0 = .ok (.aload_n 0, 1) := by decide +kernel
theorem d_H_init_1 : decode b_H_init 1 = .ok (.invokespecial 3, 3) := by decide +kernel
theorem d_H_init_4 : decode b_H_init 4 = .ok (.aload_n 0, 1) := by decide +kernel
theorem d_H_init_5 : decode b_H_init 5 = .ok (.bipush (8), 2) := by decide +kernel
theorem d_H_init_7 : decode b_H_init 7 = .ok (.anewarray 9, 3) := by decide +kernel
theorem d_H_init_10 : decode b_H_init 10 = .ok (.putfield 11, 3) := by decide +kernel
theorem d_H_init_13 : decode b_H_init 13 = .ok (.iconst 0, 1) := by decide +kernel
theorem d_H_init_14 : decode b_H_init 14 = .ok (.istore_n 1, 1) := by decide +kernel
theorem d_H_init_15 : decode b_H_init 15 = .ok (.iload_n 1, 1) := by decide +kernel
theorem d_H_init_16 : decode b_H_init 16 = .ok (.aload_n 0, 1) := by decide +kernel
theorem d_H_init_17 : decode b_H_init 17 = .ok (.getfield 11, 3) := by decide +kernel
theorem d_H_init_20 : decode b_H_init 20 = .ok (.arraylength, 1) := by decide +kernel
theorem d_H_init_21 : decode b_H_init 21 = .ok (.if_icmp .ge (22), 3) := by decide +kernel
theorem d_H_init_24 : decode b_H_init 24 = .ok (.aload_n 0, 1) := by decide +kernel
theorem d_H_init_25 : decode b_H_init 25 = .ok (.getfield 11, 3) := by decide +kernel
theorem d_H_init_28 : decode b_H_init 28 = .ok (.iload_n 1, 1) := by decide +kernel
theorem d_H_init_29 : decode b_H_init 29 = .ok (.new 9, 3) := by decide +kernel
theorem d_H_init_32 : decode b_H_init 32 = .ok (.dup, 1) := by decide +kernel
theorem d_H_init_33 : decode b_H_init 33 = .ok (.invokespecial 15, 3) := by decide +kernel
theorem d_H_init_36 : decode b_H_init 36 = .ok (.aastore, 1) := by decide +kernel
theorem d_H_init_37 : decode b_H_init 37 = .ok (.iinc 1 (1), 3) := by decide +kernel
theorem d_H_init_40 : decode b_H_init 40 = .ok (.goto (-25), 3) := by decide +kernel
theorem d_H_init_43 : decode b_H_init 43 = .ok (.aload_n 0, 1) := by decide +kernel
theorem d_H_init_44 : decode b_H_init 44 = .ok (.new 9, 3) := by decide +kernel
theorem d_H_init_47 : decode b_H_init 47 = .ok (.dup, 1) := by decide +kernel
theorem d_H_init_48 : decode b_H_init 48 = .ok (.invokespecial 15, 3) := by decide +kernel
theorem d_H_init_51 : decode b_H_init 51 = .ok (.putfield 16, 3) := by decide +kernel
theorem d_H_init_54 : decode b_H_init 54 = .ok (.aload_n 0, 1) := by decide +kernel
theorem d_H_init_55 : decode b_H_init 55 = .ok (.new 9, 3) := by decide +kernel
theorem d_H_init_58 : decode b_H_init 58 = .ok (.dup, 1) := by decide +kernel
theorem d_H_init_59 : decode b_H_init 59 = .ok (.invokespecial 15, 3) := by decide +kernel
theorem d_H_init_62 : decode b_H_init 62 = .ok (.putfield 20, 3) := by decide +kernel
theorem d_H_init_65 : decode b_H_init 65 = .ok (.aload_n 0, 1) := by decide +kernel
theorem d_H_init_66 : decode b_H_init 66 = .ok (.new 9, 3) := by decide +kernel
theorem d_H_init_69 : decode b_H_init 69 = .ok (.dup, 1) := by decide +kernel
theorem d_H_init_70 : decode b_H_init 70 = .ok (.invokespecial 15, 3) := by decide +kernel
theorem d_H_init_73 : decode b_H_init 73 = .ok (.putfield 23, 3) := by decide +kernel
theorem d_H_init_76 : decode b_H_init 76 = .ok (.aload_n 0, 1) := by decide +kernel
theorem d_H_init_77 : decode b_H_init 77 = .ok (.new 9, 3) := by decide +kernel
theorem d_H_init_80 : decode b_H_init 80 = .ok (.dup, 1) := by decide +kernel
theorem d_H_init_81 : decode b_H_init 81 = .ok (.invokespecial 15, 3) := by decide +kernel
theorem d_H_init_84 : decode b_H_init 84 = .ok (.putfield 26, 3) := by decide +kernel
theorem d_H_init_87 : decode b_H_init 87 = .ok (.aload_n 0, 1) := by decide +kernel
theorem d_H_init_88 : decode b_H_init 88 = .ok (.new 29, 3) := by decide +kernel
theorem d_H_init_91 : decode b_H_init 91 = .ok (.dup, 1) := by decide +kernel
theorem d_H_init_92 : decode b_H_init 92 = .ok (.invokespecial 31, 3) := by decide +kernel
theorem d_H_init_95 : decode b_H_init 95 = .ok (.putfield 32, 3) := by decide +kernel
theorem d_H_init_98 : decode b_H_init 98 = .ok (.aload_n 0, 1) := by decide +kernel
theorem d_H_init_99 : decode b_H_init 99 = .ok (.new 36, 3) := by decide +kernel
theorem d_H_init_102 : decode b_H_init 102 = .ok (.dup, 1) := by decide +kernel
theorem d_H_init_103 : decode b_H_init 103 = .ok (.invokespecial 38, 3) := by decide +kernel
theorem d_H_init_106 : decode b_H_init 106 = .ok (.putfield 39, 3) := by decide +kernel
theorem d_H_init_109 : decode b_H_init 109 = .ok (.aload_n 0, 1) := by decide +kernel
theorem d_H_init_110 : decode b_H_init 110 = .ok (.iconst 0, 1) := by decide +kernel
theorem d_H_init_111 : decode b_H_init 111 = .ok (.putfield 43, 3) := by decide +kernel
theorem d_H_init_114 : decode b_H_init 114 = .ok (.aload_n 0, 1) := by decide +kernel
theorem d_H_init_115 : decode b_H_init 115 = .ok (.lconst 0, 1) := by decide +kernel
theorem d_H_init_116 : decode b_H_init 116 = .ok (.putfield 47, 3) := by decide +kernel
theorem d_H_init_119 : decode b_H_init 119 = .ok (.aload_n 0, 1) := by decide +kernel
theorem d_H_init_120 : decode b_H_init 120 = .ok (.lconst 1, 1) := by decide +kernel
theorem d_H_init_121 : decode b_H_init 121 = .ok (.putfield 51, 3) := by decide +kernel
theorem d_H_init_124 : decode b_H_init 124 = .ok (.return_, 1) := by decide +kernel
theorem d_H_clear_0 : decode b_H_clear 0 = .ok (.aload_n 0, 1) := by decide +kernel
theorem d_H_clear_1 : decode b_H_clear 1 = .ok (.iconst 0, 1) := by decide +kernel
theorem d_H_clear_2 : decode b_H_clear 2 = .ok (.putfield 43, 3) := by decide +kernel
theorem d_H_clear_5 : decode b_H_clear 5 = .ok (.aload_n 0, 1) := by decide +kernel
theorem d_H_clear_6 : decode b_H_clear 6 = .ok (.lconst 0, 1) := by decide +kernel
theorem d_H_clear_7 : decode b_H_clear 7 = .ok (.lconst 1, 1) := by decide +kernel
theorem d_H_clear_8 : decode b_H_clear 8 = .ok (.invokevirtual 54, 3) := by decide +kernel
theorem d_H_clear_11 : decode b_H_clear 11 = .ok (.return_, 1) := by decide +kernel
theorem d_H_set_0 : decode b_H_set 0 = .ok (.aload_n 0, 1) := by decide +kernel
theorem d_H_set_1 : decode b_H_set 1 = .ok (.getfield 43, 3) := by decide +kernel
theorem d_H_set_4 : decode b_H_set 4 = .ok (.bipush (8), 2) := by decide +kernel
theorem d_H_set_6 : decode b_H_set 6 = .ok (.if_icmp .lt (6), 3) := by decide +kernel
theorem d_H_set_9 : decode b_H_set 9 = .ok (.bipush (-5), 2) := by decide +kernel
theorem d_H_set_11 : decode b_H_set 11 = .ok (.ireturn, 1) := by decide +kernel
theorem d_H_set_12 : decode b_H_set 12 = .ok (.aload_n 0, 1) := by decide +kernel
theorem d_H_set_13 : decode b_H_set 13 = .ok (.getfield 43, 3) := by decide +kernel
theorem d_H_set_16 : decode b_H_set 16 = .ok (.istore_n 1, 1) := by decide +kernel
theorem d_H_set_17 : decode b_H_set 17 = .ok (.aload_n 0, 1) := by decide +kernel
theorem d_H_set_18 : decode b_H_set 18 = .ok (.dup, 1) := by decide +kernel
theorem d_H_set_19 : decode b_H_set 19 = .ok (.getfield 43, 3) := by decide +kernel
theorem d_H_set_22 : decode b_H_set 22 = .ok (.iconst 1, 1) := by decide +kernel
theorem d_H_set_23 : decode b_H_set 23 = .ok (.iadd, 1) := by decide +kernel
theorem d_H_set_24 : decode b_H_set 24 = .ok (.putfield 43, 3) := by decide +kernel
theorem d_H_set_27 : decode b_H_set 27 = .ok (.aload_n 0, 1) := by decide +kernel
theorem d_H_set_28 : decode b_H_set 28 = .ok (.iload_n 1, 1) := by decide +kernel
theorem d_H_set_29 : decode b_H_set 29 = .ok (.invokevirtual 58, 3) := by decide +kernel
theorem d_H_set_32 : decode b_H_set 32 = .ok (.astore_n 2, 1) := by decide +kernel
theorem d_H_set_33 : decode b_H_set 33 = .ok (.aload_n 2, 1) := by decide +kernel
theorem d_H_set_34 : decode b_H_set 34 = .ok (.ifnull (7), 3) := by decide +kernel
theorem d_H_set_37 : decode b_H_set 37 = .ok (.aload_n 2, 1) := by decide +kernel
theorem d_H_set_38 : decode b_H_set 38 = .ok (.invokevirtual 62, 3) := by decide +kernel
theorem d_H_set_41 : decode b_H_set 41 = .ok (.iload_n 1, 1) := by decide +kernel
theorem d_H_set_42 : decode b_H_set 42 = .ok (.ireturn, 1) := by decide +kernel
theorem d_H_point_0 : decode b_H_point 0 = .ok (.aload_n 0, 1) := by decide +kernel
theorem d_H_point_1 : decode b_H_point 1 = .ok (.iload_n 1, 1) := by decide +kernel
theorem d_H_point_2 : decode b_H_point 2 = .ok (.invokevirtual 58, 3) := by decide +kernel
theorem d_H_point_5 : decode b_H_point 5 = .ok (.astore 4, 2) := by decide +kernel
theorem d_H_point_7 : decode b_H_point 7 = .ok (.aload 4, 2) := by decide +kernel
theorem d_H_point_9 : decode b_H_point 9 = .ok (.ifnonnull (5), 3) := by decide +kernel
theorem d_H_point_12 : decode b_H_point 12 = .ok (.iconst (-1), 1) := by decide +kernel
theorem d_H_point_13 : decode b_H_point 13 = .ok (.ireturn, 1) := by decide +kernel
theorem d_H_point_14 : decode b_H_point 14 = .ok (.iload_n 2, 1) := by decide +kernel
theorem d_H_point_15 : decode b_H_point 15 = .ok (.bipush (100), 2) := by decide +kernel
theorem d_H_point_17 : decode b_H_point 17 = .ok (.invokestatic 65, 3) := by decide +kernel
theorem d_H_point_20 : decode b_H_point 20 = .ok (.ifCond .eq (12), 3) := by decide +kernel
theorem d_H_point_23 : decode b_H_point 23 = .ok (.iload_n 3, 1) := by decide +kernel
theorem d_H_point_24 : decode b_H_point 24 = .ok (.bipush (100), 2) := by decide +kernel
theorem d_H_point_26 : decode b_H_point 26 = .ok (.invokestatic 65, 3) := by decide +kernel
theorem d_H_point_29 : decode b_H_point 29 = .ok (.ifCond .ne (6), 3) := by decide +kernel
theorem d_H_point_32 : decode b_H_point 32 = .ok (.bipush (-2), 2) := by decide +kernel
theorem d_H_point_34 : decode b_H_point 34 = .ok (.ireturn, 1) := by decide +kernel
theorem d_H_point_35 : decode b_H_point 35 = .ok (.aload 4, 2) := by decide +kernel
theorem d_H_point_37 : decode b_H_point 37 = .ok (.iload_n 2, 1) := by decide +kernel
theorem d_H_point_38 : decode b_H_point 38 = .ok (.iload_n 3, 1) := by decide +kernel
theorem d_H_point_39 : decode b_H_point 39 = .ok (.invokevirtual 69, 3) := by decide +kernel
theorem d_H_point_42 : decode b_H_point 42 = .ok (.ifCond .eq (5), 3) := by decide +kernel
theorem d_H_point_45 : decode b_H_point 45 = .ok (.iconst 0, 1) := by decide +kernel
theorem d_H_point_46 : decode b_H_point 46 = .ok (.ireturn, 1) := by decide +kernel
theorem d_H_point_47 : decode b_H_point 47 = .ok (.aload 4, 2) := by decide +kernel
theorem d_H_point_49 : decode b_H_point 49 = .ok (.invokevirtual 72, 3) := by decide +kernel
theorem d_H_point_52 : decode b_H_point 52 = .ok (.bipush (24), 2) := by decide +kernel
theorem d_H_point_54 : decode b_H_point 54 = .ok (.if_icmp .lt (6), 3) := by decide +kernel
theorem d_H_point_57 : decode b_H_point 57 = .ok (.bipush (-5), 2) := by decide +kernel
theorem d_H_point_59 : decode b_H_point 59 = .ok (.ireturn, 1) := by decide +kernel
theorem d_H_point_60 : decode b_H_point 60 = .ok (.aload 4, 2) := by decide +kernel
theorem d_H_point_62 : decode b_H_point 62 = .ok (.iload_n 2, 1) := by decide +kernel
theorem d_H_point_63 : decode b_H_point 63 = .ok (.iload_n 3, 1) := by decide +kernel
theorem d_H_point_64 : decode b_H_point 64 = .ok (.invokevirtual 76, 3) := by decide +kernel
theorem d_H_point_67 : decode b_H_point 67 = .ok (.iconst 1, 1) := by decide +kernel
theorem d_H_point_68 : decode b_H_point 68 = .ok (.ireturn, 1) := by decide +kernel
theorem d_H_points_0 : decode b_H_points 0 = .ok (.aload_n 0, 1) := by decide +kernel
theorem d_H_points_1 : decode b_H_points 1 = .ok (.iload_n 1, 1) := by decide +kernel
theorem d_H_points_2 : decode b_H_points 2 = .ok (.invokevirtual 58, 3) := by decide +kernel
theorem d_H_points_5 : decode b_H_points 5 = .ok (.astore_n 2, 1) := by decide +kernel
theorem d_H_points_6 : decode b_H_points 6 = .ok (.aload_n 2, 1) := by decide +kernel
theorem d_H_points_7 : decode b_H_points 7 = .ok (.ifnonnull (7), 3) := by decide +kernel
theorem d_H_points_10 : decode b_H_points 10 = .ok (.iconst (-1), 1) := by decide +kernel
theorem d_H_points_11 : decode b_H_points 11 = .ok (.goto (7), 3) := by decide +kernel
theorem d_H_points_14 : decode b_H_points 14 = .ok (.aload_n 2, 1) := by decide +kernel
theorem d_H_points_15 : decode b_H_points 15 = .ok (.invokevirtual 72, 3) := by decide +kernel
theorem d_H_points_18 : decode b_H_points 18 = .ok (.ireturn, 1) := by decide +kernel
theorem d_H_kind_0 : decode b_H_kind 0 = .ok (.aload_n 0, 1) := by decide +kernel
theorem d_H_kind_1 : decode b_H_kind 1 = .ok (.iload_n 1, 1) := by decide +kernel
theorem d_H_kind_2 : decode b_H_kind 2 = .ok (.invokevirtual 58, 3) := by decide +kernel
theorem d_H_kind_5 : decode b_H_kind 5 = .ok (.astore_n 2, 1) := by decide +kernel
theorem d_H_kind_6 : decode b_H_kind 6 = .ok (.aload_n 2, 1) := by decide +kernel
theorem d_H_kind_7 : decode b_H_kind 7 = .ok (.ifnonnull (5), 3) := by decide +kernel
theorem d_H_kind_10 : decode b_H_kind 10 = .ok (.iconst (-1), 1) := by decide +kernel
theorem d_H_kind_11 : decode b_H_kind 11 = .ok (.ireturn, 1) := by decide +kernel
theorem d_H_kind_12 : decode b_H_kind 12 = .ok (.aload_n 0, 1) := by decide +kernel
theorem d_H_kind_13 : decode b_H_kind 13 = .ok (.aload_n 2, 1) := by decide +kernel
theorem d_H_kind_14 : decode b_H_kind 14 = .ok (.invokevirtual 80, 3) := by decide +kernel
theorem d_H_kind_17 : decode b_H_kind 17 = .ok (.invokevirtual 72, 3) := by decide +kernel
theorem d_H_kind_20 : decode b_H_kind 20 = .ok (.iconst 3, 1) := by decide +kernel
theorem d_H_kind_21 : decode b_H_kind 21 = .ok (.invokestatic 84, 3) := by decide +kernel
theorem d_H_kind_24 : decode b_H_kind 24 = .ok (.ireturn, 1) := by decide +kernel
theorem d_H_corners_0 : decode b_H_corners 0 = .ok (.aload_n 0, 1) := by decide +kernel
theorem d_H_corners_1 : decode b_H_corners 1 = .ok (.iload_n 1, 1) := by decide +kernel
theorem d_H_corners_2 : decode b_H_corners 2 = .ok (.invokevirtual 58, 3) := by decide +kernel
theorem d_H_corners_5 : decode b_H_corners 5 = .ok (.astore_n 2, 1) := by decide +kernel
theorem d_H_corners_6 : decode b_H_corners 6 = .ok (.aload_n 2, 1) := by decide +kernel
theorem d_H_corners_7 : decode b_H_corners 7 = .ok (.ifnonnull (7), 3) := by decide +kernel
theorem d_H_corners_10 : decode b_H_corners 10 = .ok (.iconst (-1), 1) := by decide +kernel
theorem d_H_corners_11 : decode b_H_corners 11 = .ok (.goto (11), 3) := by decide +kernel
theorem d_H_corners_14 : decode b_H_corners 14 = .ok (.aload_n 0, 1) := by decide +kernel
theorem d_H_corners_15 : decode b_H_corners 15 = .ok (.aload_n 2, 1) := by decide +kernel
theorem d_H_corners_16 : decode b_H_corners 16 = .ok (.invokevirtual 80, 3) := by decide +kernel
theorem d_H_corners_19 : decode b_H_corners 19 = .ok (.invokevirtual 72, 3) := by decide +kernel
theorem d_H_corners_22 : decode b_H_corners 22 = .ok (.ireturn, 1) := by decide +kernel
theorem d_H_corner_0 : decode b_H_corner 0 = .ok (.aload_n 0, 1) := by decide +kernel
theorem d_H_corner_1 : decode b_H_corner 1 = .ok (.iload_n 1, 1) := by decide +kernel
theorem d_H_corner_2 : decode b_H_corner 2 = .ok (.invokevirtual 58, 3) := by decide +kernel
theorem d_H_corner_5 : decode b_H_corner 5 = .ok (.astore_n 3, 1) := by decide +kernel
theorem d_H_corner_6 : decode b_H_corner 6 = .ok (.aload_n 3, 1) := by decide +kernel
theorem d_H_corner_7 : decode b_H_corner 7 = .ok (.ifnonnull (5), 3) := by decide +kernel
theorem d_H_corner_10 : decode b_H_corner 10 = .ok (.iconst (-1), 1) := by decide +kernel
theorem d_H_corner_11 : decode b_H_corner 11 = .ok (.ireturn, 1) := by decide +kernel
theorem d_H_corner_12 : decode b_H_corner 12 = .ok (.aload_n 0, 1) := by decide +kernel
theorem d_H_corner_13 : decode b_H_corner 13 = .ok (.aload_n 3, 1) := by decide +kernel
theorem d_H_corner_14 : decode b_H_corner 14 = .ok (.invokevirtual 80, 3) := by decide +kernel
theorem d_H_corner_17 : decode b_H_corner 17 = .ok (.astore 4, 2) := by decide +kernel
theorem d_H_corner_19 : decode b_H_corner 19 = .ok (.iload_n 2, 1) := by decide +kernel
theorem d_H_corner_20 : decode b_H_corner 20 = .ok (.ifCond .lt (12), 3) := by decide +kernel
theorem d_H_corner_23 : decode b_H_corner 23 = .ok (.iload_n 2, 1) := by decide +kernel
theorem d_H_corner_24 : decode b_H_corner 24 = .ok (.aload 4, 2) := by decide +kernel
theorem d_H_corner_26 : decode b_H_corner 26 = .ok (.invokevirtual 72, 3) := by decide +kernel
theorem d_H_corner_29 : decode b_H_corner 29 = .ok (.if_icmp .lt (6), 3) := by decide +kernel
theorem d_H_corner_32 : decode b_H_corner 32 = .ok (.bipush (-2), 2) := by decide +kernel
theorem d_H_corner_34 : decode b_H_corner 34 = .ok (.ireturn, 1) := by decide +kernel
theorem d_H_corner_35 : decode b_H_corner 35 = .ok (.aload_n 0, 1) := by decide +kernel
theorem d_H_corner_36 : decode b_H_corner 36 = .ok (.aload 4, 2) := by decide +kernel
theorem d_H_corner_38 : decode b_H_corner 38 = .ok (.iload_n 2, 1) := by decide +kernel
theorem d_H_corner_39 : decode b_H_corner 39 = .ok (.invokevirtual 90, 3) := by decide +kernel
theorem d_H_corner_42 : decode b_H_corner 42 = .ok (.i2l, 1) := by decide +kernel
theorem d_H_corner_43 : decode b_H_corner 43 = .ok (.aload 4, 2) := by decide +kernel
theorem d_H_corner_45 : decode b_H_corner 45 = .ok (.iload_n 2, 1) := by decide +kernel
theorem d_H_corner_46 : decode b_H_corner 46 = .ok (.invokevirtual 94, 3) := by decide +kernel
theorem d_H_corner_49 : decode b_H_corner 49 = .ok (.i2l, 1) := by decide +kernel
theorem d_H_corner_50 : decode b_H_corner 50 = .ok (.invokevirtual 54, 3) := by decide +kernel
theorem d_H_corner_53 : decode b_H_corner 53 = .ok (.iconst 1, 1) := by decide +kernel
theorem d_H_corner_54 : decode b_H_corner 54 = .ok (.ireturn, 1) := by decide +kernel
theorem d_H_beside_0 : decode b_H_beside 0 = .ok (.aload_n 0, 1) := by decide +kernel
theorem d_H_beside_1 : decode b_H_beside 1 = .ok (.iload_n 1, 1) := by decide +kernel
theorem d_H_beside_2 : decode b_H_beside 2 = .ok (.invokevirtual 58, 3) := by decide +kernel
theorem d_H_beside_5 : decode b_H_beside 5 = .ok (.astore_n 2, 1) := by decide +kernel
theorem d_H_beside_6 : decode b_H_beside 6 = .ok (.aload_n 2, 1) := by decide +kernel
theorem d_H_beside_7 : decode b_H_beside 7 = .ok (.ifnonnull (5), 3) := by decide +kernel
theorem d_H_beside_10 : decode b_H_beside 10 = .ok (.iconst (-1), 1) := by decide +kernel
theorem d_H_beside_11 : decode b_H_beside 11 = .ok (.ireturn, 1) := by decide +kernel
theorem d_H_beside_12 : decode b_H_beside 12 = .ok (.aload_n 0, 1) := by decide +kernel
theorem d_H_beside_13 : decode b_H_beside 13 = .ok (.aload_n 2, 1) := by decide +kernel
theorem d_H_beside_14 : decode b_H_beside 14 = .ok (.invokevirtual 80, 3) := by decide +kernel
theorem d_H_beside_17 : decode b_H_beside 17 = .ok (.astore_n 3, 1) := by decide +kernel
theorem d_H_beside_18 : decode b_H_beside 18 = .ok (.iconst 0, 1) := by decide +kernel
theorem d_H_beside_19 : decode b_H_beside 19 = .ok (.istore 4, 2) := by decide +kernel
theorem d_H_beside_21 : decode b_H_beside 21 = .ok (.iconst 0, 1) := by decide +kernel
theorem d_H_beside_22 : decode b_H_beside 22 = .ok (.istore 5, 2) := by decide +kernel
theorem d_H_beside_24 : decode b_H_beside 24 = .ok (.iload 5, 2) := by decide +kernel
theorem d_H_beside_26 : decode b_H_beside 26 = .ok (.aload_n 2, 1) := by decide +kernel
theorem d_H_beside_27 : decode b_H_beside 27 = .ok (.invokevirtual 72, 3) := by decide +kernel
theorem d_H_beside_30 : decode b_H_beside 30 = .ok (.if_icmp .ge (32), 3) := by decide +kernel
theorem d_H_beside_33 : decode b_H_beside 33 = .ok (.aload_n 3, 1) := by decide +kernel
theorem d_H_beside_34 : decode b_H_beside 34 = .ok (.aload_n 2, 1) := by decide +kernel
theorem d_H_beside_35 : decode b_H_beside 35 = .ok (.iload 5, 2) := by decide +kernel
theorem d_H_beside_37 : decode b_H_beside 37 = .ok (.invokevirtual 90, 3) := by decide +kernel
theorem d_H_beside_40 : decode b_H_beside 40 = .ok (.aload_n 2, 1) := by decide +kernel
theorem d_H_beside_41 : decode b_H_beside 41 = .ok (.iload 5, 2) := by decide +kernel
theorem d_H_beside_43 : decode b_H_beside 43 = .ok (.invokevirtual 94, 3) := by decide +kernel
theorem d_H_beside_46 : decode b_H_beside 46 = .ok (.invokevirtual 97, 3) := by decide +kernel
theorem d_H_beside_49 : decode b_H_beside 49 = .ok (.iconst 1, 1) := by decide +kernel
theorem d_H_beside_50 : decode b_H_beside 50 = .ok (.if_icmp .ne (6), 3) := by decide +kernel
theorem d_H_beside_53 : decode b_H_beside 53 = .ok (.iinc 4 (1), 3) := by decide +kernel
theorem d_H_beside_56 : decode b_H_beside 56 = .ok (.iinc 5 (1), 3) := by decide +kernel
theorem d_H_beside_59 : decode b_H_beside 59 = .ok (.goto (-35), 3) := by decide +kernel
theorem d_H_beside_62 : decode b_H_beside 62 = .ok (.iload 4, 2) := by decide +kernel
theorem d_H_beside_64 : decode b_H_beside 64 = .ok (.aload_n 3, 1) := by decide +kernel
theorem d_H_beside_65 : decode b_H_beside 65 = .ok (.invokevirtual 72, 3) := by decide +kernel
theorem d_H_beside_68 : decode b_H_beside 68 = .ok (.isub, 1) := by decide +kernel
theorem d_H_beside_69 : decode b_H_beside 69 = .ok (.ireturn, 1) := by decide +kernel
theorem d_H_area_0 : decode b_H_area 0 = .ok (.aload_n 0, 1) := by decide +kernel
theorem d_H_area_1 : decode b_H_area 1 = .ok (.iload_n 1, 1) := by decide +kernel
theorem d_H_area_2 : decode b_H_area 2 = .ok (.invokevirtual 58, 3) := by decide +kernel
theorem d_H_area_5 : decode b_H_area 5 = .ok (.astore_n 2, 1) := by decide +kernel
theorem d_H_area_6 : decode b_H_area 6 = .ok (.aload_n 2, 1) := by decide +kernel
theorem d_H_area_7 : decode b_H_area 7 = .ok (.ifnonnull (7), 3) := by decide +kernel
theorem d_H_area_10 : decode b_H_area 10 = .ok (.iconst (-1), 1) := by decide +kernel
theorem d_H_area_11 : decode b_H_area 11 = .ok (.goto (11), 3) := by decide +kernel
theorem d_H_area_14 : decode b_H_area 14 = .ok (.aload_n 0, 1) := by decide +kernel
theorem d_H_area_15 : decode b_H_area 15 = .ok (.aload_n 2, 1) := by decide +kernel
theorem d_H_area_16 : decode b_H_area 16 = .ok (.invokevirtual 80, 3) := by decide +kernel
theorem d_H_area_19 : decode b_H_area 19 = .ok (.invokevirtual 100, 3) := by decide +kernel
theorem d_H_area_22 : decode b_H_area 22 = .ok (.ireturn, 1) := by decide +kernel
theorem d_H_border_0 : decode b_H_border 0 = .ok (.aload_n 0, 1) := by decide +kernel
theorem d_H_border_1 : decode b_H_border 1 = .ok (.iload_n 1, 1) := by decide +kernel
theorem d_H_border_2 : decode b_H_border 2 = .ok (.invokevirtual 58, 3) := by decide +kernel
theorem d_H_border_5 : decode b_H_border 5 = .ok (.astore_n 2, 1) := by decide +kernel
theorem d_H_border_6 : decode b_H_border 6 = .ok (.aload_n 2, 1) := by decide +kernel
theorem d_H_border_7 : decode b_H_border 7 = .ok (.ifnonnull (7), 3) := by decide +kernel
theorem d_H_border_10 : decode b_H_border 10 = .ok (.iconst (-1), 1) := by decide +kernel
theorem d_H_border_11 : decode b_H_border 11 = .ok (.goto (11), 3) := by decide +kernel
theorem d_H_border_14 : decode b_H_border 14 = .ok (.aload_n 0, 1) := by decide +kernel
theorem d_H_border_15 : decode b_H_border 15 = .ok (.aload_n 2, 1) := by decide +kernel
theorem d_H_border_16 : decode b_H_border 16 = .ok (.invokevirtual 80, 3) := by decide +kernel
theorem d_H_border_19 : decode b_H_border 19 = .ok (.invokevirtual 103, 3) := by decide +kernel
theorem d_H_border_22 : decode b_H_border 22 = .ok (.ireturn, 1) := by decide +kernel
theorem d_H_inside_0 : decode b_H_inside 0 = .ok (.aload_n 0, 1) := by decide +kernel
theorem d_H_inside_1 : decode b_H_inside 1 = .ok (.iload_n 1, 1) := by decide +kernel
theorem d_H_inside_2 : decode b_H_inside 2 = .ok (.invokevirtual 58, 3) := by decide +kernel
theorem d_H_inside_5 : decode b_H_inside 5 = .ok (.astore_n 2, 1) := by decide +kernel
theorem d_H_inside_6 : decode b_H_inside 6 = .ok (.aload_n 2, 1) := by decide +kernel
theorem d_H_inside_7 : decode b_H_inside 7 = .ok (.ifnonnull (5), 3) := by decide +kernel
theorem d_H_inside_10 : decode b_H_inside 10 = .ok (.iconst (-1), 1) := by decide +kernel
theorem d_H_inside_11 : decode b_H_inside 11 = .ok (.ireturn, 1) := by decide +kernel
theorem d_H_inside_12 : decode b_H_inside 12 = .ok (.aload_n 0, 1) := by decide +kernel
theorem d_H_inside_13 : decode b_H_inside 13 = .ok (.aload_n 2, 1) := by decide +kernel
theorem d_H_inside_14 : decode b_H_inside 14 = .ok (.invokevirtual 80, 3) := by decide +kernel
theorem d_H_inside_17 : decode b_H_inside 17 = .ok (.astore_n 3, 1) := by decide +kernel
theorem d_H_inside_18 : decode b_H_inside 18 = .ok (.aload_n 3, 1) := by decide +kernel
theorem d_H_inside_19 : decode b_H_inside 19 = .ok (.iconst 1, 1) := by decide +kernel
theorem d_H_inside_20 : decode b_H_inside 20 = .ok (.invokevirtual 106, 3) := by decide +kernel
theorem d_H_inside_23 : decode b_H_inside 23 = .ok (.aload_n 3, 1) := by decide +kernel
theorem d_H_inside_24 : decode b_H_inside 24 = .ok (.invokevirtual 103, 3) := by decide +kernel
theorem d_H_inside_27 : decode b_H_inside 27 = .ok (.isub, 1) := by decide +kernel
theorem d_H_inside_28 : decode b_H_inside 28 = .ok (.ireturn, 1) := by decide +kernel
theorem d_H_grown_0 : decode b_H_grown 0 = .ok (.aload_n 0, 1) := by decide +kernel
theorem d_H_grown_1 : decode b_H_grown 1 = .ok (.iload_n 1, 1) := by decide +kernel
theorem d_H_grown_2 : decode b_H_grown 2 = .ok (.invokevirtual 58, 3) := by decide +kernel
theorem d_H_grown_5 : decode b_H_grown 5 = .ok (.astore_n 3, 1) := by decide +kernel
theorem d_H_grown_6 : decode b_H_grown 6 = .ok (.aload_n 3, 1) := by decide +kernel
theorem d_H_grown_7 : decode b_H_grown 7 = .ok (.ifnonnull (5), 3) := by decide +kernel
theorem d_H_grown_10 : decode b_H_grown 10 = .ok (.iconst (-1), 1) := by decide +kernel
theorem d_H_grown_11 : decode b_H_grown 11 = .ok (.ireturn, 1) := by decide +kernel
theorem d_H_grown_12 : decode b_H_grown 12 = .ok (.iload_n 2, 1) := by decide +kernel
theorem d_H_grown_13 : decode b_H_grown 13 = .ok (.ifCond .lt (9), 3) := by decide +kernel
theorem d_H_grown_16 : decode b_H_grown 16 = .ok (.iload_n 2, 1) := by decide +kernel
theorem d_H_grown_17 : decode b_H_grown 17 = .ok (.bipush (6), 2) := by decide +kernel
theorem d_H_grown_19 : decode b_H_grown 19 = .ok (.if_icmp .le (6), 3) := by decide +kernel
theorem d_H_grown_22 : decode b_H_grown 22 = .ok (.bipush (-2), 2) := by decide +kernel
theorem d_H_grown_24 : decode b_H_grown 24 = .ok (.ireturn, 1) := by decide +kernel
theorem d_H_grown_25 : decode b_H_grown 25 = .ok (.aload_n 0, 1) := by decide +kernel
theorem d_H_grown_26 : decode b_H_grown 26 = .ok (.aload_n 3, 1) := by decide +kernel
theorem d_H_grown_27 : decode b_H_grown 27 = .ok (.invokevirtual 80, 3) := by decide +kernel
theorem d_H_grown_30 : decode b_H_grown 30 = .ok (.iload_n 2, 1) := by decide +kernel
theorem d_H_grown_31 : decode b_H_grown 31 = .ok (.invokevirtual 106, 3) := by decide +kernel
theorem d_H_grown_34 : decode b_H_grown 34 = .ok (.ireturn, 1) := by decide +kernel
theorem d_H_wide_0 : decode b_H_wide 0 = .ok (.aload_n 0, 1) := by decide +kernel
theorem d_H_wide_1 : decode b_H_wide 1 = .ok (.iload_n 1, 1) := by decide +kernel
theorem d_H_wide_2 : decode b_H_wide 2 = .ok (.invokevirtual 58, 3) := by decide +kernel
theorem d_H_wide_5 : decode b_H_wide 5 = .ok (.astore_n 2, 1) := by decide +kernel
theorem d_H_wide_6 : decode b_H_wide 6 = .ok (.aload_n 2, 1) := by decide +kernel
theorem d_H_wide_7 : decode b_H_wide 7 = .ok (.ifnonnull (5), 3) := by decide +kernel
theorem d_H_wide_10 : decode b_H_wide 10 = .ok (.iconst (-1), 1) := by decide +kernel
theorem d_H_wide_11 : decode b_H_wide 11 = .ok (.ireturn, 1) := by decide +kernel
theorem d_H_wide_12 : decode b_H_wide 12 = .ok (.aload_n 2, 1) := by decide +kernel
theorem d_H_wide_13 : decode b_H_wide 13 = .ok (.invokevirtual 72, 3) := by decide +kernel
theorem d_H_wide_16 : decode b_H_wide 16 = .ok (.ifCond .ne (6), 3) := by decide +kernel
theorem d_H_wide_19 : decode b_H_wide 19 = .ok (.bipush (-3), 2) := by decide +kernel
theorem d_H_wide_21 : decode b_H_wide 21 = .ok (.ireturn, 1) := by decide +kernel
theorem d_H_wide_22 : decode b_H_wide 22 = .ok (.iconst 0, 1) := by decide +kernel
theorem d_H_wide_23 : decode b_H_wide 23 = .ok (.istore_n 3, 1) := by decide +kernel
theorem d_H_wide_24 : decode b_H_wide 24 = .ok (.iconst 1, 1) := by decide +kernel
theorem d_H_wide_25 : decode b_H_wide 25 = .ok (.istore 4, 2) := by decide +kernel
theorem d_H_wide_27 : decode b_H_wide 27 = .ok (.iload 4, 2) := by decide +kernel
theorem d_H_wide_29 : decode b_H_wide 29 = .ok (.aload_n 2, 1) := by decide +kernel
theorem d_H_wide_30 : decode b_H_wide 30 = .ok (.invokevirtual 72, 3) := by decide +kernel
theorem d_H_wide_33 : decode b_H_wide 33 = .ok (.if_icmp .ge (38), 3) := by decide +kernel
theorem d_H_wide_36 : decode b_H_wide 36 = .ok (.iconst 0, 1) := by decide +kernel
theorem d_H_wide_37 : decode b_H_wide 37 = .ok (.istore 5, 2) := by decide +kernel
theorem d_H_wide_39 : decode b_H_wide 39 = .ok (.iload 5, 2) := by decide +kernel
theorem d_H_wide_41 : decode b_H_wide 41 = .ok (.iload 4, 2) := by decide +kernel
theorem d_H_wide_43 : decode b_H_wide 43 = .ok (.if_icmp .ge (22), 3) := by decide +kernel
theorem d_H_wide_46 : decode b_H_wide 46 = .ok (.iload_n 3, 1) := by decide +kernel
theorem d_H_wide_47 : decode b_H_wide 47 = .ok (.aload_n 2, 1) := by decide +kernel
theorem d_H_wide_48 : decode b_H_wide 48 = .ok (.iload 4, 2) := by decide +kernel
theorem d_H_wide_50 : decode b_H_wide 50 = .ok (.iload 5, 2) := by decide +kernel
theorem d_H_wide_52 : decode b_H_wide 52 = .ok (.invokevirtual 109, 3) := by decide +kernel
theorem d_H_wide_55 : decode b_H_wide 55 = .ok (.invokestatic 112, 3) := by decide +kernel
theorem d_H_wide_58 : decode b_H_wide 58 = .ok (.istore_n 3, 1) := by decide +kernel
theorem d_H_wide_59 : decode b_H_wide 59 = .ok (.iinc 5 (1), 3) := by decide +kernel
theorem d_H_wide_62 : decode b_H_wide 62 = .ok (.goto (-23), 3) := by decide +kernel
theorem d_H_wide_65 : decode b_H_wide 65 = .ok (.iinc 4 (1), 3) := by decide +kernel
theorem d_H_wide_68 : decode b_H_wide 68 = .ok (.goto (-41), 3) := by decide +kernel
theorem d_H_wide_71 : decode b_H_wide 71 = .ok (.iload_n 3, 1) := by decide +kernel
theorem d_H_wide_72 : decode b_H_wide 72 = .ok (.ireturn, 1) := by decide +kernel
theorem d_H_width_0 : decode b_H_width 0 = .ok (.aload_n 0, 1) := by decide +kernel
theorem d_H_width_1 : decode b_H_width 1 = .ok (.iload_n 1, 1) := by decide +kernel
theorem d_H_width_2 : decode b_H_width 2 = .ok (.invokevirtual 58, 3) := by decide +kernel
theorem d_H_width_5 : decode b_H_width 5 = .ok (.astore_n 2, 1) := by decide +kernel
theorem d_H_width_6 : decode b_H_width 6 = .ok (.aload_n 2, 1) := by decide +kernel
theorem d_H_width_7 : decode b_H_width 7 = .ok (.ifnonnull (5), 3) := by decide +kernel
theorem d_H_width_10 : decode b_H_width 10 = .ok (.iconst (-1), 1) := by decide +kernel
theorem d_H_width_11 : decode b_H_width 11 = .ok (.ireturn, 1) := by decide +kernel
theorem d_H_width_12 : decode b_H_width 12 = .ok (.aload_n 2, 1) := by decide +kernel
theorem d_H_width_13 : decode b_H_width 13 = .ok (.invokevirtual 72, 3) := by decide +kernel
theorem d_H_width_16 : decode b_H_width 16 = .ok (.ifCond .ne (6), 3) := by decide +kernel
theorem d_H_width_19 : decode b_H_width 19 = .ok (.bipush (-3), 2) := by decide +kernel
theorem d_H_width_21 : decode b_H_width 21 = .ok (.ireturn, 1) := by decide +kernel
theorem d_H_width_22 : decode b_H_width 22 = .ok (.aload_n 0, 1) := by decide +kernel
theorem d_H_width_23 : decode b_H_width 23 = .ok (.aload_n 2, 1) := by decide +kernel
theorem d_H_width_24 : decode b_H_width 24 = .ok (.invokevirtual 80, 3) := by decide +kernel
theorem d_H_width_27 : decode b_H_width 27 = .ok (.astore_n 3, 1) := by decide +kernel
theorem d_H_width_28 : decode b_H_width 28 = .ok (.aload_n 0, 1) := by decide +kernel
theorem d_H_width_29 : decode b_H_width 29 = .ok (.getfield 39, 3) := by decide +kernel
theorem d_H_width_32 : decode b_H_width 32 = .ok (.invokevirtual 115, 3) := by decide +kernel
theorem d_H_width_35 : decode b_H_width 35 = .ok (.iconst 0, 1) := by decide +kernel
theorem d_H_width_36 : decode b_H_width 36 = .ok (.istore 4, 2) := by decide +kernel
theorem d_H_width_38 : decode b_H_width 38 = .ok (.iload 4, 2) := by decide +kernel
theorem d_H_width_40 : decode b_H_width 40 = .ok (.aload_n 3, 1) := by decide +kernel
theorem d_H_width_41 : decode b_H_width 41 = .ok (.invokevirtual 118, 3) := by decide +kernel
theorem d_H_width_44 : decode b_H_width 44 = .ok (.if_icmp .ge (37), 3) := by decide +kernel
theorem d_H_width_47 : decode b_H_width 47 = .ok (.aload_n 3, 1) := by decide +kernel
theorem d_H_width_48 : decode b_H_width 48 = .ok (.iload 4, 2) := by decide +kernel
theorem d_H_width_50 : decode b_H_width 50 = .ok (.invokevirtual 121, 3) := by decide +kernel
theorem d_H_width_53 : decode b_H_width 53 = .ok (.i2l, 1) := by decide +kernel
theorem d_H_width_54 : decode b_H_width 54 = .ok (.lstore 5, 2) := by decide +kernel
theorem d_H_width_56 : decode b_H_width 56 = .ok (.aload_n 0, 1) := by decide +kernel
theorem d_H_width_57 : decode b_H_width 57 = .ok (.getfield 39, 3) := by decide +kernel
theorem d_H_width_60 : decode b_H_width 60 = .ok (.lload 5, 2) := by decide +kernel
theorem d_H_width_62 : decode b_H_width 62 = .ok (.lload 5, 2) := by decide +kernel
theorem d_H_width_64 : decode b_H_width 64 = .ok (.lmul, 1) := by decide +kernel
theorem d_H_width_65 : decode b_H_width 65 = .ok (.aload_n 3, 1) := by decide +kernel
theorem d_H_width_66 : decode b_H_width 66 = .ok (.iload 4, 2) := by decide +kernel
theorem d_H_width_68 : decode b_H_width 68 = .ok (.invokevirtual 124, 3) := by decide +kernel
theorem d_H_width_71 : decode b_H_width 71 = .ok (.i2l, 1) := by decide +kernel
theorem d_H_width_72 : decode b_H_width 72 = .ok (.invokevirtual 127, 3) := by decide +kernel
theorem d_H_width_75 : decode b_H_width 75 = .ok (.iinc 4 (1), 3) := by decide +kernel
theorem d_H_width_78 : decode b_H_width 78 = .ok (.goto (-40), 3) := by decide +kernel
theorem d_H_width_81 : decode b_H_width 81 = .ok (.aload_n 0, 1) := by decide +kernel
theorem d_H_width_82 : decode b_H_width 82 = .ok (.aload_n 0, 1) := by decide +kernel
theorem d_H_width_83 : decode b_H_width 83 = .ok (.getfield 39, 3) := by decide +kernel
theorem d_H_width_86 : decode b_H_width 86 = .ok (.invokevirtual 130, 3) := by decide +kernel
theorem d_H_width_89 : decode b_H_width 89 = .ok (.aload_n 0, 1) := by decide +kernel
theorem d_H_width_90 : decode b_H_width 90 = .ok (.getfield 39, 3) := by decide +kernel
theorem d_H_width_93 : decode b_H_width 93 = .ok (.invokevirtual 134, 3) := by decide +kernel
theorem d_H_width_96 : decode b_H_width 96 = .ok (.invokevirtual 137, 3) := by decide +kernel
theorem d_H_width_99 : decode b_H_width 99 = .ok (.iconst 1, 1) := by decide +kernel
theorem d_H_width_100 : decode b_H_width 100 = .ok (.ireturn, 1) := by decide +kernel
theorem d_H_circle_0 : decode b_H_circle 0 = .ok (.aload_n 0, 1) := by decide +kernel
theorem d_H_circle_1 : decode b_H_circle 1 = .ok (.iload_n 1, 1) := by decide +kernel
theorem d_H_circle_2 : decode b_H_circle 2 = .ok (.invokevirtual 58, 3) := by decide +kernel
theorem d_H_circle_5 : decode b_H_circle 5 = .ok (.astore_n 3, 1) := by decide +kernel
theorem d_H_circle_6 : decode b_H_circle 6 = .ok (.aload_n 3, 1) := by decide +kernel
theorem d_H_circle_7 : decode b_H_circle 7 = .ok (.ifnonnull (5), 3) := by decide +kernel
theorem d_H_circle_10 : decode b_H_circle 10 = .ok (.iconst (-1), 1) := by decide +kernel
theorem d_H_circle_11 : decode b_H_circle 11 = .ok (.ireturn, 1) := by decide +kernel
theorem d_H_circle_12 : decode b_H_circle 12 = .ok (.iload_n 2, 1) := by decide +kernel
theorem d_H_circle_13 : decode b_H_circle 13 = .ok (.ifCond .lt (8), 3) := by decide +kernel
theorem d_H_circle_16 : decode b_H_circle 16 = .ok (.iload_n 2, 1) := by decide +kernel
theorem d_H_circle_17 : decode b_H_circle 17 = .ok (.iconst 2, 1) := by decide +kernel
theorem d_H_circle_18 : decode b_H_circle 18 = .ok (.if_icmp .le (6), 3) := by decide +kernel
theorem d_H_circle_21 : decode b_H_circle 21 = .ok (.bipush (-2), 2) := by decide +kernel
theorem d_H_circle_23 : decode b_H_circle 23 = .ok (.ireturn, 1) := by decide +kernel
theorem d_H_circle_24 : decode b_H_circle 24 = .ok (.aload_n 3, 1) := by decide +kernel
theorem d_H_circle_25 : decode b_H_circle 25 = .ok (.invokevirtual 72, 3) := by decide +kernel
theorem d_H_circle_28 : decode b_H_circle 28 = .ok (.ifCond .ne (6), 3) := by decide +kernel
theorem d_H_circle_31 : decode b_H_circle 31 = .ok (.bipush (-3), 2) := by decide +kernel
theorem d_H_circle_33 : decode b_H_circle 33 = .ok (.ireturn, 1) := by decide +kernel
theorem d_H_circle_34 : decode b_H_circle 34 = .ok (.aload_n 0, 1) := by decide +kernel
theorem d_H_circle_35 : decode b_H_circle 35 = .ok (.getfield 32, 3) := by decide +kernel
theorem d_H_circle_38 : decode b_H_circle 38 = .ok (.aload_n 0, 1) := by decide +kernel
theorem d_H_circle_39 : decode b_H_circle 39 = .ok (.aload_n 3, 1) := by decide +kernel
theorem d_H_circle_40 : decode b_H_circle 40 = .ok (.invokevirtual 80, 3) := by decide +kernel
theorem d_H_circle_43 : decode b_H_circle 43 = .ok (.invokevirtual 140, 3) := by decide +kernel
theorem d_H_circle_46 : decode b_H_circle 46 = .ok (.iload_n 2, 1) := by decide +kernel
theorem d_H_circle_47 : decode b_H_circle 47 = .ok (.ifCond .ne (24), 3) := by decide +kernel
theorem d_H_circle_50 : decode b_H_circle 50 = .ok (.aload_n 0, 1) := by decide +kernel
theorem d_H_circle_51 : decode b_H_circle 51 = .ok (.aload_n 0, 1) := by decide +kernel
theorem d_H_circle_52 : decode b_H_circle 52 = .ok (.getfield 32, 3) := by decide +kernel
theorem d_H_circle_55 : decode b_H_circle 55 = .ok (.invokevirtual 144, 3) := by decide +kernel
theorem d_H_circle_58 : decode b_H_circle 58 = .ok (.aload_n 0, 1) := by decide +kernel
theorem d_H_circle_59 : decode b_H_circle 59 = .ok (.getfield 32, 3) := by decide +kernel
theorem d_H_circle_62 : decode b_H_circle 62 = .ok (.invokevirtual 147, 3) := by decide +kernel
theorem d_H_circle_65 : decode b_H_circle 65 = .ok (.invokevirtual 137, 3) := by decide +kernel
theorem d_H_circle_68 : decode b_H_circle 68 = .ok (.goto (47), 3) := by decide +kernel
theorem d_H_circle_71 : decode b_H_circle 71 = .ok (.iload_n 2, 1) := by decide +kernel
theorem d_H_circle_72 : decode b_H_circle 72 = .ok (.iconst 1, 1) := by decide +kernel
theorem d_H_circle_73 : decode b_H_circle 73 = .ok (.if_icmp .ne (24), 3) := by decide +kernel
theorem d_H_circle_76 : decode b_H_circle 76 = .ok (.aload_n 0, 1) := by decide +kernel
theorem d_H_circle_77 : decode b_H_circle 77 = .ok (.aload_n 0, 1) := by decide +kernel
theorem d_H_circle_78 : decode b_H_circle 78 = .ok (.getfield 32, 3) := by decide +kernel
theorem d_H_circle_81 : decode b_H_circle 81 = .ok (.invokevirtual 150, 3) := by decide +kernel
theorem d_H_circle_84 : decode b_H_circle 84 = .ok (.aload_n 0, 1) := by decide +kernel
theorem d_H_circle_85 : decode b_H_circle 85 = .ok (.getfield 32, 3) := by decide +kernel
theorem d_H_circle_88 : decode b_H_circle 88 = .ok (.invokevirtual 147, 3) := by decide +kernel
theorem d_H_circle_91 : decode b_H_circle 91 = .ok (.invokevirtual 137, 3) := by decide +kernel
theorem d_H_circle_94 : decode b_H_circle 94 = .ok (.goto (21), 3) := by decide +kernel
theorem d_H_circle_97 : decode b_H_circle 97 = .ok (.aload_n 0, 1) := by decide +kernel
theorem d_H_circle_98 : decode b_H_circle 98 = .ok (.aload_n 0, 1) := by decide +kernel
theorem d_H_circle_99 : decode b_H_circle 99 = .ok (.getfield 32, 3) := by decide +kernel
theorem d_H_circle_102 : decode b_H_circle 102 = .ok (.invokevirtual 153, 3) := by decide +kernel
theorem d_H_circle_105 : decode b_H_circle 105 = .ok (.aload_n 0, 1) := by decide +kernel
theorem d_H_circle_106 : decode b_H_circle 106 = .ok (.getfield 32, 3) := by decide +kernel
theorem d_H_circle_109 : decode b_H_circle 109 = .ok (.invokevirtual 156, 3) := by decide +kernel
theorem d_H_circle_112 : decode b_H_circle 112 = .ok (.invokevirtual 137, 3) := by decide +kernel
theorem d_H_circle_115 : decode b_H_circle 115 = .ok (.iconst 1, 1) := by decide +kernel
theorem d_H_circle_116 : decode b_H_circle 116 = .ok (.ireturn, 1) := by decide +kernel
theorem d_H_sum_0 : decode b_H_sum 0 = .ok (.aload_n 0, 1) := by decide +kernel
theorem d_H_sum_1 : decode b_H_sum 1 = .ok (.iload_n 1, 1) := by decide +kernel
theorem d_H_sum_2 : decode b_H_sum 2 = .ok (.iload_n 2, 1) := by decide +kernel
theorem d_H_sum_3 : decode b_H_sum 3 = .ok (.iconst 1, 1) := by decide +kernel
theorem d_H_sum_4 : decode b_H_sum 4 = .ok (.invokevirtual 159, 3) := by decide +kernel
theorem d_H_sum_7 : decode b_H_sum 7 = .ok (.istore_n 3, 1) := by decide +kernel
theorem d_H_sum_8 : decode b_H_sum 8 = .ok (.iload_n 3, 1) := by decide +kernel
theorem d_H_sum_9 : decode b_H_sum 9 = .ok (.ifCond .ge (5), 3) := by decide +kernel
theorem d_H_sum_12 : decode b_H_sum 12 = .ok (.iload_n 3, 1) := by decide +kernel
theorem d_H_sum_13 : decode b_H_sum 13 = .ok (.ireturn, 1) := by decide +kernel
theorem d_H_sum_14 : decode b_H_sum 14 = .ok (.aload_n 0, 1) := by decide +kernel
theorem d_H_sum_15 : decode b_H_sum 15 = .ok (.getfield 26, 3) := by decide +kernel
theorem d_H_sum_18 : decode b_H_sum 18 = .ok (.sipush (300), 3) := by decide +kernel
theorem d_H_sum_21 : decode b_H_sum 21 = .ok (.invokevirtual 163, 3) := by decide +kernel
theorem d_H_sum_24 : decode b_H_sum 24 = .ok (.ifCond .ne (6), 3) := by decide +kernel
theorem d_H_sum_27 : decode b_H_sum 27 = .ok (.bipush (-6), 2) := by decide +kernel
theorem d_H_sum_29 : decode b_H_sum 29 = .ok (.ireturn, 1) := by decide +kernel
theorem d_H_sum_30 : decode b_H_sum 30 = .ok (.aload_n 0, 1) := by decide +kernel
theorem d_H_sum_31 : decode b_H_sum 31 = .ok (.getfield 26, 3) := by decide +kernel
theorem d_H_sum_34 : decode b_H_sum 34 = .ok (.invokevirtual 72, 3) := by decide +kernel
theorem d_H_sum_37 : decode b_H_sum 37 = .ok (.bipush (24), 2) := by decide +kernel
theorem d_H_sum_39 : decode b_H_sum 39 = .ok (.if_icmp .le (8), 3) := by decide +kernel
theorem d_H_sum_42 : decode b_H_sum 42 = .ok (.bipush (-5), 2) := by decide +kernel
theorem d_H_sum_44 : decode b_H_sum 44 = .ok (.goto (11), 3) := by decide +kernel
theorem d_H_sum_47 : decode b_H_sum 47 = .ok (.aload_n 0, 1) := by decide +kernel
theorem d_H_sum_48 : decode b_H_sum 48 = .ok (.aload_n 0, 1) := by decide +kernel
theorem d_H_sum_49 : decode b_H_sum 49 = .ok (.getfield 26, 3) := by decide +kernel
theorem d_H_sum_52 : decode b_H_sum 52 = .ok (.invokevirtual 167, 3) := by decide +kernel
theorem d_H_sum_55 : decode b_H_sum 55 = .ok (.ireturn, 1) := by decide +kernel
theorem d_H_turned_0 : decode b_H_turned 0 = .ok (.aload_n 0, 1) := by decide +kernel
theorem d_H_turned_1 : decode b_H_turned 1 = .ok (.iload_n 1, 1) := by decide +kernel
theorem d_H_turned_2 : decode b_H_turned 2 = .ok (.invokevirtual 58, 3) := by decide +kernel
theorem d_H_turned_5 : decode b_H_turned 5 = .ok (.astore_n 2, 1) := by decide +kernel
theorem d_H_turned_6 : decode b_H_turned 6 = .ok (.aload_n 2, 1) := by decide +kernel
theorem d_H_turned_7 : decode b_H_turned 7 = .ok (.ifnonnull (5), 3) := by decide +kernel
theorem d_H_turned_10 : decode b_H_turned 10 = .ok (.iconst (-1), 1) := by decide +kernel
theorem d_H_turned_11 : decode b_H_turned 11 = .ok (.ireturn, 1) := by decide +kernel
theorem d_H_turned_12 : decode b_H_turned 12 = .ok (.aload_n 2, 1) := by decide +kernel
theorem d_H_turned_13 : decode b_H_turned 13 = .ok (.invokevirtual 72, 3) := by decide +kernel
theorem d_H_turned_16 : decode b_H_turned 16 = .ok (.ifCond .ne (6), 3) := by decide +kernel
theorem d_H_turned_19 : decode b_H_turned 19 = .ok (.bipush (-3), 2) := by decide +kernel
theorem d_H_turned_21 : decode b_H_turned 21 = .ok (.ireturn, 1) := by decide +kernel
theorem d_H_turned_22 : decode b_H_turned 22 = .ok (.aload_n 0, 1) := by decide +kernel
theorem d_H_turned_23 : decode b_H_turned 23 = .ok (.getfield 23, 3) := by decide +kernel
theorem d_H_turned_26 : decode b_H_turned 26 = .ok (.aload_n 2, 1) := by decide +kernel
theorem d_H_turned_27 : decode b_H_turned 27 = .ok (.iconst (-1), 1) := by decide +kernel
theorem d_H_turned_28 : decode b_H_turned 28 = .ok (.aload_n 0, 1) := by decide +kernel
theorem d_H_turned_29 : decode b_H_turned 29 = .ok (.getfield 16, 3) := by decide +kernel
theorem d_H_turned_32 : decode b_H_turned 32 = .ok (.invokevirtual 171, 3) := by decide +kernel
theorem d_H_turned_35 : decode b_H_turned 35 = .ok (.aload_n 0, 1) := by decide +kernel
theorem d_H_turned_36 : decode b_H_turned 36 = .ok (.aload_n 0, 1) := by decide +kernel
theorem d_H_turned_37 : decode b_H_turned 37 = .ok (.getfield 23, 3) := by decide +kernel
theorem d_H_turned_40 : decode b_H_turned 40 = .ok (.invokevirtual 167, 3) := by decide +kernel
theorem d_H_turned_43 : decode b_H_turned 43 = .ok (.ireturn, 1) := by decide +kernel
theorem d_H_meets_0 : decode b_H_meets 0 = .ok (.aload_n 0, 1) := by decide +kernel
theorem d_H_meets_1 : decode b_H_meets 1 = .ok (.iload_n 1, 1) := by decide +kernel
theorem d_H_meets_2 : decode b_H_meets 2 = .ok (.iload_n 2, 1) := by decide +kernel
theorem d_H_meets_3 : decode b_H_meets 3 = .ok (.iconst (-1), 1) := by decide +kernel
theorem d_H_meets_4 : decode b_H_meets 4 = .ok (.invokevirtual 159, 3) := by decide +kernel
theorem d_H_meets_7 : decode b_H_meets 7 = .ok (.istore_n 3, 1) := by decide +kernel
theorem d_H_meets_8 : decode b_H_meets 8 = .ok (.iload_n 3, 1) := by decide +kernel
theorem d_H_meets_9 : decode b_H_meets 9 = .ok (.ifCond .ge (5), 3) := by decide +kernel
theorem d_H_meets_12 : decode b_H_meets 12 = .ok (.iload_n 3, 1) := by decide +kernel
theorem d_H_meets_13 : decode b_H_meets 13 = .ok (.ireturn, 1) := by decide +kernel
theorem d_H_meets_14 : decode b_H_meets 14 = .ok (.aload_n 0, 1) := by decide +kernel
theorem d_H_meets_15 : decode b_H_meets 15 = .ok (.getfield 26, 3) := by decide +kernel
theorem d_H_meets_18 : decode b_H_meets 18 = .ok (.iconst 0, 1) := by decide +kernel
theorem d_H_meets_19 : decode b_H_meets 19 = .ok (.iconst 0, 1) := by decide +kernel
theorem d_H_meets_20 : decode b_H_meets 20 = .ok (.invokevirtual 97, 3) := by decide +kernel
theorem d_H_meets_23 : decode b_H_meets 23 = .ok (.ifCond .ne (7), 3) := by decide +kernel
theorem d_H_meets_26 : decode b_H_meets 26 = .ok (.iconst 0, 1) := by decide +kernel
theorem d_H_meets_27 : decode b_H_meets 27 = .ok (.goto (4), 3) := by decide +kernel
theorem d_H_meets_30 : decode b_H_meets 30 = .ok (.iconst 1, 1) := by decide +kernel
theorem d_H_meets_31 : decode b_H_meets 31 = .ok (.ireturn, 1) := by decide +kernel
theorem d_H_apart_0 : decode b_H_apart 0 = .ok (.aload_n 0, 1) := by decide +kernel
theorem d_H_apart_1 : decode b_H_apart 1 = .ok (.iload_n 1, 1) := by decide +kernel
theorem d_H_apart_2 : decode b_H_apart 2 = .ok (.iload_n 2, 1) := by decide +kernel
theorem d_H_apart_3 : decode b_H_apart 3 = .ok (.iconst (-1), 1) := by decide +kernel
theorem d_H_apart_4 : decode b_H_apart 4 = .ok (.invokevirtual 159, 3) := by decide +kernel
theorem d_H_apart_7 : decode b_H_apart 7 = .ok (.istore_n 3, 1) := by decide +kernel
theorem d_H_apart_8 : decode b_H_apart 8 = .ok (.iload_n 3, 1) := by decide +kernel
theorem d_H_apart_9 : decode b_H_apart 9 = .ok (.ifCond .ge (5), 3) := by decide +kernel
theorem d_H_apart_12 : decode b_H_apart 12 = .ok (.iload_n 3, 1) := by decide +kernel
theorem d_H_apart_13 : decode b_H_apart 13 = .ok (.ireturn, 1) := by decide +kernel
theorem d_H_apart_14 : decode b_H_apart 14 = .ok (.aload_n 0, 1) := by decide +kernel
theorem d_H_apart_15 : decode b_H_apart 15 = .ok (.getfield 39, 3) := by decide +kernel
theorem d_H_apart_18 : decode b_H_apart 18 = .ok (.invokevirtual 115, 3) := by decide +kernel
theorem d_H_apart_21 : decode b_H_apart 21 = .ok (.aload_n 0, 1) := by decide +kernel
theorem d_H_apart_22 : decode b_H_apart 22 = .ok (.getfield 26, 3) := by decide +kernel
theorem d_H_apart_25 : decode b_H_apart 25 = .ok (.iconst 0, 1) := by decide +kernel
theorem d_H_apart_26 : decode b_H_apart 26 = .ok (.iconst 0, 1) := by decide +kernel
theorem d_H_apart_27 : decode b_H_apart 27 = .ok (.invokevirtual 97, 3) := by decide +kernel
theorem d_H_apart_30 : decode b_H_apart 30 = .ok (.ifCond .ne (11), 3) := by decide +kernel
theorem d_H_apart_33 : decode b_H_apart 33 = .ok (.aload_n 0, 1) := by decide +kernel
theorem d_H_apart_34 : decode b_H_apart 34 = .ok (.aload_n 0, 1) := by decide +kernel
theorem d_H_apart_35 : decode b_H_apart 35 = .ok (.getfield 26, 3) := by decide +kernel
theorem d_H_apart_38 : decode b_H_apart 38 = .ok (.invokevirtual 175, 3) := by decide +kernel
theorem d_H_apart_41 : decode b_H_apart 41 = .ok (.aload_n 0, 1) := by decide +kernel
theorem d_H_apart_42 : decode b_H_apart 42 = .ok (.aload_n 0, 1) := by decide +kernel
theorem d_H_apart_43 : decode b_H_apart 43 = .ok (.getfield 39, 3) := by decide +kernel
theorem d_H_apart_46 : decode b_H_apart 46 = .ok (.invokevirtual 130, 3) := by decide +kernel
theorem d_H_apart_49 : decode b_H_apart 49 = .ok (.aload_n 0, 1) := by decide +kernel
theorem d_H_apart_50 : decode b_H_apart 50 = .ok (.getfield 39, 3) := by decide +kernel
theorem d_H_apart_53 : decode b_H_apart 53 = .ok (.invokevirtual 134, 3) := by decide +kernel
theorem d_H_apart_56 : decode b_H_apart 56 = .ok (.invokevirtual 137, 3) := by decide +kernel
theorem d_H_apart_59 : decode b_H_apart 59 = .ok (.iconst 1, 1) := by decide +kernel
theorem d_H_apart_60 : decode b_H_apart 60 = .ok (.ireturn, 1) := by decide +kernel
theorem d_H_holds_0 : decode b_H_holds 0 = .ok (.aload_n 0, 1) := by decide +kernel
theorem d_H_holds_1 : decode b_H_holds 1 = .ok (.iload_n 1, 1) := by decide +kernel
theorem d_H_holds_2 : decode b_H_holds 2 = .ok (.invokevirtual 58, 3) := by decide +kernel
theorem d_H_holds_5 : decode b_H_holds 5 = .ok (.astore 4, 2) := by decide +kernel
theorem d_H_holds_7 : decode b_H_holds 7 = .ok (.aload 4, 2) := by decide +kernel
theorem d_H_holds_9 : decode b_H_holds 9 = .ok (.ifnonnull (5), 3) := by decide +kernel
theorem d_H_holds_12 : decode b_H_holds 12 = .ok (.iconst (-1), 1) := by decide +kernel
theorem d_H_holds_13 : decode b_H_holds 13 = .ok (.ireturn, 1) := by decide +kernel
theorem d_H_holds_14 : decode b_H_holds 14 = .ok (.iload_n 2, 1) := by decide +kernel
theorem d_H_holds_15 : decode b_H_holds 15 = .ok (.sipush (1000), 3) := by decide +kernel
theorem d_H_holds_18 : decode b_H_holds 18 = .ok (.invokestatic 65, 3) := by decide +kernel
theorem d_H_holds_21 : decode b_H_holds 21 = .ok (.ifCond .eq (13), 3) := by decide +kernel
theorem d_H_holds_24 : decode b_H_holds 24 = .ok (.iload_n 3, 1) := by decide +kernel
theorem d_H_holds_25 : decode b_H_holds 25 = .ok (.sipush (1000), 3) := by decide +kernel
theorem d_H_holds_28 : decode b_H_holds 28 = .ok (.invokestatic 65, 3) := by decide +kernel
theorem d_H_holds_31 : decode b_H_holds 31 = .ok (.ifCond .ne (6), 3) := by decide +kernel
theorem d_H_holds_34 : decode b_H_holds 34 = .ok (.bipush (-2), 2) := by decide +kernel
theorem d_H_holds_36 : decode b_H_holds 36 = .ok (.ireturn, 1) := by decide +kernel
theorem d_H_holds_37 : decode b_H_holds 37 = .ok (.aload_n 0, 1) := by decide +kernel
theorem d_H_holds_38 : decode b_H_holds 38 = .ok (.aload 4, 2) := by decide +kernel
theorem d_H_holds_40 : decode b_H_holds 40 = .ok (.invokevirtual 80, 3) := by decide +kernel
theorem d_H_holds_43 : decode b_H_holds 43 = .ok (.iload_n 2, 1) := by decide +kernel
theorem d_H_holds_44 : decode b_H_holds 44 = .ok (.iload_n 3, 1) := by decide +kernel
theorem d_H_holds_45 : decode b_H_holds 45 = .ok (.invokevirtual 97, 3) := by decide +kernel
theorem d_H_holds_48 : decode b_H_holds 48 = .ok (.ireturn, 1) := by decide +kernel
theorem d_H_supports_0 : decode b_H_supports 0 = .ok (.aload_n 0, 1) := by decide +kernel
theorem d_H_supports_1 : decode b_H_supports 1 = .ok (.iload_n 1, 1) := by decide +kernel
theorem d_H_supports_2 : decode b_H_supports 2 = .ok (.invokevirtual 58, 3) := by decide +kernel
theorem d_H_supports_5 : decode b_H_supports 5 = .ok (.astore 4, 2) := by decide +kernel
theorem d_H_supports_7 : decode b_H_supports 7 = .ok (.aload 4, 2) := by decide +kernel
theorem d_H_supports_9 : decode b_H_supports 9 = .ok (.ifnonnull (5), 3) := by decide +kernel
theorem d_H_supports_12 : decode b_H_supports 12 = .ok (.iconst (-1), 1) := by decide +kernel
theorem d_H_supports_13 : decode b_H_supports 13 = .ok (.ireturn, 1) := by decide +kernel
theorem d_H_supports_14 : decode b_H_supports 14 = .ok (.iload_n 2, 1) := by decide +kernel
theorem d_H_supports_15 : decode b_H_supports 15 = .ok (.bipush (100), 2) := by decide +kernel
theorem d_H_supports_17 : decode b_H_supports 17 = .ok (.invokestatic 65, 3) := by decide +kernel
theorem d_H_supports_20 : decode b_H_supports 20 = .ok (.ifCond .eq (12), 3) := by decide +kernel
theorem d_H_supports_23 : decode b_H_supports 23 = .ok (.iload_n 3, 1) := by decide +kernel
theorem d_H_supports_24 : decode b_H_supports 24 = .ok (.bipush (100), 2) := by decide +kernel
theorem d_H_supports_26 : decode b_H_supports 26 = .ok (.invokestatic 65, 3) := by decide +kernel
theorem d_H_supports_29 : decode b_H_supports 29 = .ok (.ifCond .ne (6), 3) := by decide +kernel
theorem d_H_supports_32 : decode b_H_supports 32 = .ok (.bipush (-2), 2) := by decide +kernel
theorem d_H_supports_34 : decode b_H_supports 34 = .ok (.ireturn, 1) := by decide +kernel
theorem d_H_supports_35 : decode b_H_supports 35 = .ok (.aload 4, 2) := by decide +kernel
theorem d_H_supports_37 : decode b_H_supports 37 = .ok (.invokevirtual 72, 3) := by decide +kernel
theorem d_H_supports_40 : decode b_H_supports 40 = .ok (.ifCond .ne (6), 3) := by decide +kernel
theorem d_H_supports_43 : decode b_H_supports 43 = .ok (.bipush (-3), 2) := by decide +kernel
theorem d_H_supports_45 : decode b_H_supports 45 = .ok (.ireturn, 1) := by decide +kernel
theorem d_H_supports_46 : decode b_H_supports 46 = .ok (.aload_n 0, 1) := by decide +kernel
theorem d_H_supports_47 : decode b_H_supports 47 = .ok (.aload 4, 2) := by decide +kernel
theorem d_H_supports_49 : decode b_H_supports 49 = .ok (.invokevirtual 80, 3) := by decide +kernel
theorem d_H_supports_52 : decode b_H_supports 52 = .ok (.astore 5, 2) := by decide +kernel
theorem d_H_supports_54 : decode b_H_supports 54 = .ok (.iconst 0, 1) := by decide +kernel
theorem d_H_supports_55 : decode b_H_supports 55 = .ok (.istore 6, 2) := by decide +kernel
theorem d_H_supports_57 : decode b_H_supports 57 = .ok (.iconst 0, 1) := by decide +kernel
theorem d_H_supports_58 : decode b_H_supports 58 = .ok (.istore 7, 2) := by decide +kernel
theorem d_H_supports_60 : decode b_H_supports 60 = .ok (.iconst 0, 1) := by decide +kernel
theorem d_H_supports_61 : decode b_H_supports 61 = .ok (.istore 8, 2) := by decide +kernel
theorem d_H_supports_63 : decode b_H_supports 63 = .ok (.iload 8, 2) := by decide +kernel
theorem d_H_supports_65 : decode b_H_supports 65 = .ok (.aload 5, 2) := by decide +kernel
theorem d_H_supports_67 : decode b_H_supports 67 = .ok (.invokevirtual 72, 3) := by decide +kernel
theorem d_H_supports_70 : decode b_H_supports 70 = .ok (.if_icmp .ge (62), 3) := by decide +kernel
theorem d_H_supports_73 : decode b_H_supports 73 = .ok (.iload_n 2, 1) := by decide +kernel
theorem d_H_supports_74 : decode b_H_supports 74 = .ok (.aload 5, 2) := by decide +kernel
theorem d_H_supports_76 : decode b_H_supports 76 = .ok (.iload 8, 2) := by decide +kernel
theorem d_H_supports_78 : decode b_H_supports 78 = .ok (.invokevirtual 90, 3) := by decide +kernel
theorem d_H_supports_81 : decode b_H_supports 81 = .ok (.imul, 1) := by decide +kernel
theorem d_H_supports_82 : decode b_H_supports 82 = .ok (.iload_n 3, 1) := by decide +kernel
theorem d_H_supports_83 : decode b_H_supports 83 = .ok (.aload 5, 2) := by decide +kernel
theorem d_H_supports_85 : decode b_H_supports 85 = .ok (.iload 8, 2) := by decide +kernel
theorem d_H_supports_87 : decode b_H_supports 87 = .ok (.invokevirtual 94, 3) := by decide +kernel
theorem d_H_supports_90 : decode b_H_supports 90 = .ok (.imul, 1) := by decide +kernel
theorem d_H_supports_91 : decode b_H_supports 91 = .ok (.iadd, 1) := by decide +kernel
theorem d_H_supports_92 : decode b_H_supports 92 = .ok (.istore 9, 2) := by decide +kernel
theorem d_H_supports_94 : decode b_H_supports 94 = .ok (.iload 7, 2) := by decide +kernel
theorem d_H_supports_96 : decode b_H_supports 96 = .ok (.ifCond .eq (10), 3) := by decide +kernel
theorem d_H_supports_99 : decode b_H_supports 99 = .ok (.iload 9, 2) := by decide +kernel
theorem d_H_supports_101 : decode b_H_supports 101 = .ok (.iload 6, 2) := by decide +kernel
theorem d_H_supports_103 : decode b_H_supports 103 = .ok (.if_icmp .le (13), 3) := by decide +kernel
theorem d_H_supports_106 : decode b_H_supports 106 = .ok (.iload 9, 2) := by decide +kernel
theorem d_H_supports_108 : decode b_H_supports 108 = .ok (.istore 6, 2) := by decide +kernel
theorem d_H_supports_110 : decode b_H_supports 110 = .ok (.iconst 1, 1) := by decide +kernel
theorem d_H_supports_111 : decode b_H_supports 111 = .ok (.istore 7, 2) := by decide +kernel
theorem d_H_supports_113 : decode b_H_supports 113 = .ok (.goto (13), 3) := by decide +kernel
theorem d_H_supports_116 : decode b_H_supports 116 = .ok (.iload 9, 2) := by decide +kernel
theorem d_H_supports_118 : decode b_H_supports 118 = .ok (.iload 6, 2) := by decide +kernel
theorem d_H_supports_120 : decode b_H_supports 120 = .ok (.if_icmp .ne (6), 3) := by decide +kernel
theorem d_H_supports_123 : decode b_H_supports 123 = .ok (.iinc 7 (1), 3) := by decide +kernel
theorem d_H_supports_126 : decode b_H_supports 126 = .ok (.iinc 8 (1), 3) := by decide +kernel
theorem d_H_supports_129 : decode b_H_supports 129 = .ok (.goto (-66), 3) := by decide +kernel
theorem d_H_supports_132 : decode b_H_supports 132 = .ok (.aload_n 0, 1) := by decide +kernel
theorem d_H_supports_133 : decode b_H_supports 133 = .ok (.iload 6, 2) := by decide +kernel
theorem d_H_supports_135 : decode b_H_supports 135 = .ok (.i2l, 1) := by decide +kernel
theorem d_H_supports_136 : decode b_H_supports 136 = .ok (.iload 7, 2) := by decide +kernel
theorem d_H_supports_138 : decode b_H_supports 138 = .ok (.i2l, 1) := by decide +kernel
theorem d_H_supports_139 : decode b_H_supports 139 = .ok (.invokevirtual 54, 3) := by decide +kernel
theorem d_H_supports_142 : decode b_H_supports 142 = .ok (.iconst 1, 1) := by decide +kernel
theorem d_H_supports_143 : decode b_H_supports 143 = .ok (.ireturn, 1) := by decide +kernel
theorem d_H_mixed_0 : decode b_H_mixed 0 = .ok (.aload_n 0, 1) := by decide +kernel
theorem d_H_mixed_1 : decode b_H_mixed 1 = .ok (.iload_n 1, 1) := by decide +kernel
theorem d_H_mixed_2 : decode b_H_mixed 2 = .ok (.iload_n 2, 1) := by decide +kernel
theorem d_H_mixed_3 : decode b_H_mixed 3 = .ok (.iconst 1, 1) := by decide +kernel
theorem d_H_mixed_4 : decode b_H_mixed 4 = .ok (.invokevirtual 159, 3) := by decide +kernel
theorem d_H_mixed_7 : decode b_H_mixed 7 = .ok (.istore_n 3, 1) := by decide +kernel
theorem d_H_mixed_8 : decode b_H_mixed 8 = .ok (.iload_n 3, 1) := by decide +kernel
theorem d_H_mixed_9 : decode b_H_mixed 9 = .ok (.ifCond .ge (5), 3) := by decide +kernel
theorem d_H_mixed_12 : decode b_H_mixed 12 = .ok (.iload_n 3, 1) := by decide +kernel
theorem d_H_mixed_13 : decode b_H_mixed 13 = .ok (.ireturn, 1) := by decide +kernel
theorem d_H_mixed_14 : decode b_H_mixed 14 = .ok (.aload_n 0, 1) := by decide +kernel
theorem d_H_mixed_15 : decode b_H_mixed 15 = .ok (.getfield 26, 3) := by decide +kernel
theorem d_H_mixed_18 : decode b_H_mixed 18 = .ok (.invokevirtual 100, 3) := by decide +kernel
theorem d_H_mixed_21 : decode b_H_mixed 21 = .ok (.aload_n 0, 1) := by decide +kernel
theorem d_H_mixed_22 : decode b_H_mixed 22 = .ok (.getfield 20, 3) := by decide +kernel
theorem d_H_mixed_25 : decode b_H_mixed 25 = .ok (.invokevirtual 100, 3) := by decide +kernel
theorem d_H_mixed_28 : decode b_H_mixed 28 = .ok (.isub, 1) := by decide +kernel
theorem d_H_mixed_29 : decode b_H_mixed 29 = .ok (.aload_n 0, 1) := by decide +kernel
theorem d_H_mixed_30 : decode b_H_mixed 30 = .ok (.getfield 23, 3) := by decide +kernel
theorem d_H_mixed_33 : decode b_H_mixed 33 = .ok (.invokevirtual 100, 3) := by decide +kernel
theorem d_H_mixed_36 : decode b_H_mixed 36 = .ok (.isub, 1) := by decide +kernel
theorem d_H_mixed_37 : decode b_H_mixed 37 = .ok (.ireturn, 1) := by decide +kernel
theorem d_H_nearest_0 : decode b_H_nearest 0 = .ok (.aload_n 0, 1) := by decide +kernel
theorem d_H_nearest_1 : decode b_H_nearest 1 = .ok (.iload_n 1, 1) := by decide +kernel
theorem d_H_nearest_2 : decode b_H_nearest 2 = .ok (.invokevirtual 58, 3) := by decide +kernel
theorem d_H_nearest_5 : decode b_H_nearest 5 = .ok (.astore_n 2, 1) := by decide +kernel
theorem d_H_nearest_6 : decode b_H_nearest 6 = .ok (.aload_n 2, 1) := by decide +kernel
theorem d_H_nearest_7 : decode b_H_nearest 7 = .ok (.ifnonnull (5), 3) := by decide +kernel
theorem d_H_nearest_10 : decode b_H_nearest 10 = .ok (.iconst (-1), 1) := by decide +kernel
theorem d_H_nearest_11 : decode b_H_nearest 11 = .ok (.ireturn, 1) := by decide +kernel
theorem d_H_nearest_12 : decode b_H_nearest 12 = .ok (.aload_n 2, 1) := by decide +kernel
theorem d_H_nearest_13 : decode b_H_nearest 13 = .ok (.invokevirtual 72, 3) := by decide +kernel
theorem d_H_nearest_16 : decode b_H_nearest 16 = .ok (.iconst 2, 1) := by decide +kernel
theorem d_H_nearest_17 : decode b_H_nearest 17 = .ok (.if_icmp .ge (6), 3) := by decide +kernel
theorem d_H_nearest_20 : decode b_H_nearest 20 = .ok (.bipush (-3), 2) := by decide +kernel
theorem d_H_nearest_22 : decode b_H_nearest 22 = .ok (.ireturn, 1) := by decide +kernel
theorem d_H_nearest_23 : decode b_H_nearest 23 = .ok (.aload_n 2, 1) := by decide +kernel
theorem d_H_nearest_24 : decode b_H_nearest 24 = .ok (.iconst 0, 1) := by decide +kernel
theorem d_H_nearest_25 : decode b_H_nearest 25 = .ok (.iconst 1, 1) := by decide +kernel
theorem d_H_nearest_26 : decode b_H_nearest 26 = .ok (.invokevirtual 109, 3) := by decide +kernel
theorem d_H_nearest_29 : decode b_H_nearest 29 = .ok (.istore_n 3, 1) := by decide +kernel
theorem d_H_nearest_30 : decode b_H_nearest 30 = .ok (.iconst 2, 1) := by decide +kernel
theorem d_H_nearest_31 : decode b_H_nearest 31 = .ok (.istore 4, 2) := by decide +kernel
theorem d_H_nearest_33 : decode b_H_nearest 33 = .ok (.iload 4, 2) := by decide +kernel
theorem d_H_nearest_35 : decode b_H_nearest 35 = .ok (.aload_n 2, 1) := by decide +kernel
theorem d_H_nearest_36 : decode b_H_nearest 36 = .ok (.invokevirtual 72, 3) := by decide +kernel
theorem d_H_nearest_39 : decode b_H_nearest 39 = .ok (.if_icmp .ge (38), 3) := by decide +kernel
theorem d_H_nearest_42 : decode b_H_nearest 42 = .ok (.iconst 0, 1) := by decide +kernel
theorem d_H_nearest_43 : decode b_H_nearest 43 = .ok (.istore 5, 2) := by decide +kernel
theorem d_H_nearest_45 : decode b_H_nearest 45 = .ok (.iload 5, 2) := by decide +kernel
theorem d_H_nearest_47 : decode b_H_nearest 47 = .ok (.iload 4, 2) := by decide +kernel
theorem d_H_nearest_49 : decode b_H_nearest 49 = .ok (.if_icmp .ge (22), 3) := by decide +kernel
theorem d_H_nearest_52 : decode b_H_nearest 52 = .ok (.iload_n 3, 1) := by decide +kernel
theorem d_H_nearest_53 : decode b_H_nearest 53 = .ok (.aload_n 2, 1) := by decide +kernel
theorem d_H_nearest_54 : decode b_H_nearest 54 = .ok (.iload 4, 2) := by decide +kernel
theorem d_H_nearest_56 : decode b_H_nearest 56 = .ok (.iload 5, 2) := by decide +kernel
theorem d_H_nearest_58 : decode b_H_nearest 58 = .ok (.invokevirtual 109, 3) := by decide +kernel
theorem d_H_nearest_61 : decode b_H_nearest 61 = .ok (.invokestatic 84, 3) := by decide +kernel
theorem d_H_nearest_64 : decode b_H_nearest 64 = .ok (.istore_n 3, 1) := by decide +kernel
theorem d_H_nearest_65 : decode b_H_nearest 65 = .ok (.iinc 5 (1), 3) := by decide +kernel
theorem d_H_nearest_68 : decode b_H_nearest 68 = .ok (.goto (-23), 3) := by decide +kernel
theorem d_H_nearest_71 : decode b_H_nearest 71 = .ok (.iinc 4 (1), 3) := by decide +kernel
theorem d_H_nearest_74 : decode b_H_nearest 74 = .ok (.goto (-41), 3) := by decide +kernel
theorem d_H_nearest_77 : decode b_H_nearest 77 = .ok (.iload_n 3, 1) := by decide +kernel
theorem d_H_nearest_78 : decode b_H_nearest 78 = .ok (.ireturn, 1) := by decide +kernel
theorem d_H_within_0 : decode b_H_within 0 = .ok (.aload_n 0, 1) := by decide +kernel
theorem d_H_within_1 : decode b_H_within 1 = .ok (.iload_n 1, 1) := by decide +kernel
theorem d_H_within_2 : decode b_H_within 2 = .ok (.invokevirtual 58, 3) := by decide +kernel
theorem d_H_within_5 : decode b_H_within 5 = .ok (.astore_n 3, 1) := by decide +kernel
theorem d_H_within_6 : decode b_H_within 6 = .ok (.aload_n 0, 1) := by decide +kernel
theorem d_H_within_7 : decode b_H_within 7 = .ok (.iload_n 2, 1) := by decide +kernel
theorem d_H_within_8 : decode b_H_within 8 = .ok (.invokevirtual 58, 3) := by decide +kernel
theorem d_H_within_11 : decode b_H_within 11 = .ok (.astore 4, 2) := by decide +kernel
theorem d_H_within_13 : decode b_H_within 13 = .ok (.aload_n 3, 1) := by decide +kernel
theorem d_H_within_14 : decode b_H_within 14 = .ok (.ifnull (8), 3) := by decide +kernel
theorem d_H_within_17 : decode b_H_within 17 = .ok (.aload 4, 2) := by decide +kernel
theorem d_H_within_19 : decode b_H_within 19 = .ok (.ifnonnull (5), 3) := by decide +kernel
theorem d_H_within_22 : decode b_H_within 22 = .ok (.iconst (-1), 1) := by decide +kernel
theorem d_H_within_23 : decode b_H_within 23 = .ok (.ireturn, 1) := by decide +kernel
theorem d_H_within_24 : decode b_H_within 24 = .ok (.aload_n 0, 1) := by decide +kernel
theorem d_H_within_25 : decode b_H_within 25 = .ok (.aload 4, 2) := by decide +kernel
theorem d_H_within_27 : decode b_H_within 27 = .ok (.invokevirtual 80, 3) := by decide +kernel
theorem d_H_within_30 : decode b_H_within 30 = .ok (.astore 5, 2) := by decide +kernel
theorem d_H_within_32 : decode b_H_within 32 = .ok (.iconst 0, 1) := by decide +kernel
theorem d_H_within_33 : decode b_H_within 33 = .ok (.istore 6, 2) := by decide +kernel
theorem d_H_within_35 : decode b_H_within 35 = .ok (.iload 6, 2) := by decide +kernel
theorem d_H_within_37 : decode b_H_within 37 = .ok (.aload_n 3, 1) := by decide +kernel
theorem d_H_within_38 : decode b_H_within 38 = .ok (.invokevirtual 72, 3) := by decide +kernel
theorem d_H_within_41 : decode b_H_within 41 = .ok (.if_icmp .ge (31), 3) := by decide +kernel
theorem d_H_within_44 : decode b_H_within 44 = .ok (.aload 5, 2) := by decide +kernel
theorem d_H_within_46 : decode b_H_within 46 = .ok (.aload_n 3, 1) := by decide +kernel
theorem d_H_within_47 : decode b_H_within 47 = .ok (.iload 6, 2) := by decide +kernel
theorem d_H_within_49 : decode b_H_within 49 = .ok (.invokevirtual 90, 3) := by decide +kernel
theorem d_H_within_52 : decode b_H_within 52 = .ok (.aload_n 3, 1) := by decide +kernel
theorem d_H_within_53 : decode b_H_within 53 = .ok (.iload 6, 2) := by decide +kernel
theorem d_H_within_55 : decode b_H_within 55 = .ok (.invokevirtual 94, 3) := by decide +kernel
theorem d_H_within_58 : decode b_H_within 58 = .ok (.invokevirtual 97, 3) := by decide +kernel
theorem d_H_within_61 : decode b_H_within 61 = .ok (.ifCond .ne (5), 3) := by decide +kernel
theorem d_H_within_64 : decode b_H_within 64 = .ok (.iconst 0, 1) := by decide +kernel
theorem d_H_within_65 : decode b_H_within 65 = .ok (.ireturn, 1) := by decide +kernel
theorem d_H_within_66 : decode b_H_within 66 = .ok (.iinc 6 (1), 3) := by decide +kernel
theorem d_H_within_69 : decode b_H_within 69 = .ok (.goto (-34), 3) := by decide +kernel
theorem d_H_within_72 : decode b_H_within 72 = .ok (.iconst 1, 1) := by decide +kernel
theorem d_H_within_73 : decode b_H_within 73 = .ok (.ireturn, 1) := by decide +kernel
theorem d_H_first_0 : decode b_H_first 0 = .ok (.aload_n 0, 1) := by decide +kernel
theorem d_H_first_1 : decode b_H_first 1 = .ok (.getfield 47, 3) := by decide +kernel
theorem d_H_first_4 : decode b_H_first 4 = .ok (.lreturn, 1) := by decide +kernel
theorem d_H_second_0 : decode b_H_second 0 = .ok (.aload_n 0, 1) := by decide +kernel
theorem d_H_second_1 : decode b_H_second 1 = .ok (.getfield 51, 3) := by decide +kernel
theorem d_H_second_4 : decode b_H_second 4 = .ok (.lreturn, 1) := by decide +kernel
theorem d_H_told_0 : decode b_H_told 0 = .ok (.iload_n 1, 1) := by decide +kernel
theorem d_H_told_1 : decode b_H_told 1 = .ok (.ifCond .ne (8), 3) := by decide +kernel
theorem d_H_told_4 : decode b_H_told 4 = .ok (.aload_n 0, 1) := by decide +kernel
theorem d_H_told_5 : decode b_H_told 5 = .ok (.getfield 43, 3) := by decide +kernel
theorem d_H_told_8 : decode b_H_told 8 = .ok (.ireturn, 1) := by decide +kernel
theorem d_H_told_9 : decode b_H_told 9 = .ok (.iload_n 1, 1) := by decide +kernel
theorem d_H_told_10 : decode b_H_told 10 = .ok (.iconst 1, 1) := by decide +kernel
theorem d_H_told_11 : decode b_H_told 11 = .ok (.if_icmp .eq (6), 3) := by decide +kernel
theorem d_H_told_14 : decode b_H_told 14 = .ok (.bipush (-2), 2) := by decide +kernel
theorem d_H_told_16 : decode b_H_told 16 = .ok (.ireturn, 1) := by decide +kernel
theorem d_H_told_17 : decode b_H_told 17 = .ok (.iconst 0, 1) := by decide +kernel
theorem d_H_told_18 : decode b_H_told 18 = .ok (.istore_n 2, 1) := by decide +kernel
theorem d_H_told_19 : decode b_H_told 19 = .ok (.iconst 0, 1) := by decide +kernel
theorem d_H_told_20 : decode b_H_told 20 = .ok (.istore_n 3, 1) := by decide +kernel
theorem d_H_told_21 : decode b_H_told 21 = .ok (.iload_n 3, 1) := by decide +kernel
theorem d_H_told_22 : decode b_H_told 22 = .ok (.aload_n 0, 1) := by decide +kernel
theorem d_H_told_23 : decode b_H_told 23 = .ok (.getfield 43, 3) := by decide +kernel
theorem d_H_told_26 : decode b_H_told 26 = .ok (.if_icmp .ge (29), 3) := by decide +kernel
theorem d_H_told_29 : decode b_H_told 29 = .ok (.aload_n 0, 1) := by decide +kernel
theorem d_H_told_30 : decode b_H_told 30 = .ok (.iload_n 3, 1) := by decide +kernel
theorem d_H_told_31 : decode b_H_told 31 = .ok (.invokevirtual 58, 3) := by decide +kernel
theorem d_H_told_34 : decode b_H_told 34 = .ok (.astore 4, 2) := by decide +kernel
theorem d_H_told_36 : decode b_H_told 36 = .ok (.aload 4, 2) := by decide +kernel
theorem d_H_told_38 : decode b_H_told 38 = .ok (.ifnull (11), 3) := by decide +kernel
theorem d_H_told_41 : decode b_H_told 41 = .ok (.iload_n 2, 1) := by decide +kernel
theorem d_H_told_42 : decode b_H_told 42 = .ok (.aload 4, 2) := by decide +kernel
theorem d_H_told_44 : decode b_H_told 44 = .ok (.invokevirtual 72, 3) := by decide +kernel
theorem d_H_told_47 : decode b_H_told 47 = .ok (.iadd, 1) := by decide +kernel
theorem d_H_told_48 : decode b_H_told 48 = .ok (.istore_n 2, 1) := by decide +kernel
theorem d_H_told_49 : decode b_H_told 49 = .ok (.iinc 3 (1), 3) := by decide +kernel
theorem d_H_told_52 : decode b_H_told 52 = .ok (.goto (-31), 3) := by decide +kernel
theorem d_H_told_55 : decode b_H_told 55 = .ok (.iload_n 2, 1) := by decide +kernel
theorem d_H_told_56 : decode b_H_told 56 = .ok (.ireturn, 1) := by decide +kernel
theorem d_H_rowOf_0 : decode b_H_rowOf 0 = .ok (.iload_n 1, 1) := by decide +kernel
theorem d_H_rowOf_1 : decode b_H_rowOf 1 = .ok (.ifCond .lt (20), 3) := by decide +kernel
theorem d_H_rowOf_4 : decode b_H_rowOf 4 = .ok (.iload_n 1, 1) := by decide +kernel
theorem d_H_rowOf_5 : decode b_H_rowOf 5 = .ok (.aload_n 0, 1) := by decide +kernel
theorem d_H_rowOf_6 : decode b_H_rowOf 6 = .ok (.getfield 43, 3) := by decide +kernel
theorem d_H_rowOf_9 : decode b_H_rowOf 9 = .ok (.if_icmp .ge (12), 3) := by decide +kernel
theorem d_H_rowOf_12 : decode b_H_rowOf 12 = .ok (.iload_n 1, 1) := by decide +kernel
theorem d_H_rowOf_13 : decode b_H_rowOf 13 = .ok (.aload_n 0, 1) := by decide +kernel
theorem d_H_rowOf_14 : decode b_H_rowOf 14 = .ok (.getfield 11, 3) := by decide +kernel
theorem d_H_rowOf_17 : decode b_H_rowOf 17 = .ok (.arraylength, 1) := by decide +kernel
theorem d_H_rowOf_18 : decode b_H_rowOf 18 = .ok (.if_icmp .lt (5), 3) := by decide +kernel
theorem d_H_rowOf_21 : decode b_H_rowOf 21 = .ok (.aconst_null, 1) := by decide +kernel
theorem d_H_rowOf_22 : decode b_H_rowOf 22 = .ok (.areturn, 1) := by decide +kernel
theorem d_H_rowOf_23 : decode b_H_rowOf 23 = .ok (.aload_n 0, 1) := by decide +kernel
theorem d_H_rowOf_24 : decode b_H_rowOf 24 = .ok (.getfield 11, 3) := by decide +kernel
theorem d_H_rowOf_27 : decode b_H_rowOf 27 = .ok (.iload_n 1, 1) := by decide +kernel
theorem d_H_rowOf_28 : decode b_H_rowOf 28 = .ok (.aaload, 1) := by decide +kernel
theorem d_H_rowOf_29 : decode b_H_rowOf 29 = .ok (.areturn, 1) := by decide +kernel
theorem d_H_hullOf_0 : decode b_H_hullOf 0 = .ok (.aload_n 0, 1) := by decide +kernel
theorem d_H_hullOf_1 : decode b_H_hullOf 1 = .ok (.getfield 20, 3) := by decide +kernel
theorem d_H_hullOf_4 : decode b_H_hullOf 4 = .ok (.aload_n 1, 1) := by decide +kernel
theorem d_H_hullOf_5 : decode b_H_hullOf 5 = .ok (.iconst 1, 1) := by decide +kernel
theorem d_H_hullOf_6 : decode b_H_hullOf 6 = .ok (.aload_n 0, 1) := by decide +kernel
theorem d_H_hullOf_7 : decode b_H_hullOf 7 = .ok (.getfield 16, 3) := by decide +kernel
theorem d_H_hullOf_10 : decode b_H_hullOf 10 = .ok (.invokevirtual 171, 3) := by decide +kernel
theorem d_H_hullOf_13 : decode b_H_hullOf 13 = .ok (.aload_n 0, 1) := by decide +kernel
theorem d_H_hullOf_14 : decode b_H_hullOf 14 = .ok (.getfield 20, 3) := by decide +kernel
theorem d_H_hullOf_17 : decode b_H_hullOf 17 = .ok (.areturn, 1) := by decide +kernel
theorem d_H_fillSums_0 : decode b_H_fillSums 0 = .ok (.aload_n 0, 1) := by decide +kernel
theorem d_H_fillSums_1 : decode b_H_fillSums 1 = .ok (.iload_n 1, 1) := by decide +kernel
theorem d_H_fillSums_2 : decode b_H_fillSums 2 = .ok (.invokevirtual 58, 3) := by decide +kernel
theorem d_H_fillSums_5 : decode b_H_fillSums 5 = .ok (.astore 4, 2) := by decide +kernel
theorem d_H_fillSums_7 : decode b_H_fillSums 7 = .ok (.aload_n 0, 1) := by decide +kernel
theorem d_H_fillSums_8 : decode b_H_fillSums 8 = .ok (.iload_n 2, 1) := by decide +kernel
theorem d_H_fillSums_9 : decode b_H_fillSums 9 = .ok (.invokevirtual 58, 3) := by decide +kernel
theorem d_H_fillSums_12 : decode b_H_fillSums 12 = .ok (.astore 5, 2) := by decide +kernel
theorem d_H_fillSums_14 : decode b_H_fillSums 14 = .ok (.aload 4, 2) := by decide +kernel
theorem d_H_fillSums_16 : decode b_H_fillSums 16 = .ok (.ifnull (8), 3) := by decide +kernel
theorem d_H_fillSums_19 : decode b_H_fillSums 19 = .ok (.aload 5, 2) := by decide +kernel
theorem d_H_fillSums_21 : decode b_H_fillSums 21 = .ok (.ifnonnull (5), 3) := by decide +kernel
theorem d_H_fillSums_24 : decode b_H_fillSums 24 = .ok (.iconst (-1), 1) := by decide +kernel
theorem d_H_fillSums_25 : decode b_H_fillSums 25 = .ok (.ireturn, 1) := by decide +kernel
theorem d_H_fillSums_26 : decode b_H_fillSums 26 = .ok (.aload 4, 2) := by decide +kernel
theorem d_H_fillSums_28 : decode b_H_fillSums 28 = .ok (.invokevirtual 72, 3) := by decide +kernel
theorem d_H_fillSums_31 : decode b_H_fillSums 31 = .ok (.ifCond .eq (11), 3) := by decide +kernel
theorem d_H_fillSums_34 : decode b_H_fillSums 34 = .ok (.aload 5, 2) := by decide +kernel
theorem d_H_fillSums_36 : decode b_H_fillSums 36 = .ok (.invokevirtual 72, 3) := by decide +kernel
theorem d_H_fillSums_39 : decode b_H_fillSums 39 = .ok (.ifCond .ne (6), 3) := by decide +kernel
theorem d_H_fillSums_42 : decode b_H_fillSums 42 = .ok (.bipush (-3), 2) := by decide +kernel
theorem d_H_fillSums_44 : decode b_H_fillSums 44 = .ok (.ireturn, 1) := by decide +kernel
theorem d_H_fillSums_45 : decode b_H_fillSums 45 = .ok (.aload_n 0, 1) := by decide +kernel
theorem d_H_fillSums_46 : decode b_H_fillSums 46 = .ok (.getfield 20, 3) := by decide +kernel
theorem d_H_fillSums_49 : decode b_H_fillSums 49 = .ok (.aload 4, 2) := by decide +kernel
theorem d_H_fillSums_51 : decode b_H_fillSums 51 = .ok (.iconst 1, 1) := by decide +kernel
theorem d_H_fillSums_52 : decode b_H_fillSums 52 = .ok (.aload_n 0, 1) := by decide +kernel
theorem d_H_fillSums_53 : decode b_H_fillSums 53 = .ok (.getfield 16, 3) := by decide +kernel
theorem d_H_fillSums_56 : decode b_H_fillSums 56 = .ok (.invokevirtual 171, 3) := by decide +kernel
theorem d_H_fillSums_59 : decode b_H_fillSums 59 = .ok (.aload_n 0, 1) := by decide +kernel
theorem d_H_fillSums_60 : decode b_H_fillSums 60 = .ok (.getfield 23, 3) := by decide +kernel
theorem d_H_fillSums_63 : decode b_H_fillSums 63 = .ok (.aload 5, 2) := by decide +kernel
theorem d_H_fillSums_65 : decode b_H_fillSums 65 = .ok (.iload_n 3, 1) := by decide +kernel
theorem d_H_fillSums_66 : decode b_H_fillSums 66 = .ok (.aload_n 0, 1) := by decide +kernel
theorem d_H_fillSums_67 : decode b_H_fillSums 67 = .ok (.getfield 16, 3) := by decide +kernel
theorem d_H_fillSums_70 : decode b_H_fillSums 70 = .ok (.invokevirtual 171, 3) := by decide +kernel
theorem d_H_fillSums_73 : decode b_H_fillSums 73 = .ok (.aload_n 0, 1) := by decide +kernel
theorem d_H_fillSums_74 : decode b_H_fillSums 74 = .ok (.getfield 26, 3) := by decide +kernel
theorem d_H_fillSums_77 : decode b_H_fillSums 77 = .ok (.aload_n 0, 1) := by decide +kernel
theorem d_H_fillSums_78 : decode b_H_fillSums 78 = .ok (.getfield 20, 3) := by decide +kernel
theorem d_H_fillSums_81 : decode b_H_fillSums 81 = .ok (.aload_n 0, 1) := by decide +kernel
theorem d_H_fillSums_82 : decode b_H_fillSums 82 = .ok (.getfield 23, 3) := by decide +kernel
theorem d_H_fillSums_85 : decode b_H_fillSums 85 = .ok (.invokevirtual 178, 3) := by decide +kernel
theorem d_H_fillSums_88 : decode b_H_fillSums 88 = .ok (.iconst 0, 1) := by decide +kernel
theorem d_H_fillSums_89 : decode b_H_fillSums 89 = .ok (.ireturn, 1) := by decide +kernel
theorem d_H_setOf_0 : decode b_H_setOf 0 = .ok (.aload_n 0, 1) := by decide +kernel
theorem d_H_setOf_1 : decode b_H_setOf 1 = .ok (.invokevirtual 182, 3) := by decide +kernel
theorem d_H_setOf_4 : decode b_H_setOf 4 = .ok (.istore_n 2, 1) := by decide +kernel
theorem d_H_setOf_5 : decode b_H_setOf 5 = .ok (.aload_n 0, 1) := by decide +kernel
theorem d_H_setOf_6 : decode b_H_setOf 6 = .ok (.iload_n 2, 1) := by decide +kernel
theorem d_H_setOf_7 : decode b_H_setOf 7 = .ok (.invokevirtual 58, 3) := by decide +kernel
theorem d_H_setOf_10 : decode b_H_setOf 10 = .ok (.astore_n 3, 1) := by decide +kernel
theorem d_H_setOf_11 : decode b_H_setOf 11 = .ok (.aload_n 3, 1) := by decide +kernel
theorem d_H_setOf_12 : decode b_H_setOf 12 = .ok (.ifnull (37), 3) := by decide +kernel
theorem d_H_setOf_15 : decode b_H_setOf 15 = .ok (.iconst 0, 1) := by decide +kernel
theorem d_H_setOf_16 : decode b_H_setOf 16 = .ok (.istore 4, 2) := by decide +kernel
theorem d_H_setOf_18 : decode b_H_setOf 18 = .ok (.iload 4, 2) := by decide +kernel
theorem d_H_setOf_20 : decode b_H_setOf 20 = .ok (.aload_n 1, 1) := by decide +kernel
theorem d_H_setOf_21 : decode b_H_setOf 21 = .ok (.invokevirtual 72, 3) := by decide +kernel
theorem d_H_setOf_24 : decode b_H_setOf 24 = .ok (.if_icmp .ge (25), 3) := by decide +kernel
theorem d_H_setOf_27 : decode b_H_setOf 27 = .ok (.aload_n 3, 1) := by decide +kernel
theorem d_H_setOf_28 : decode b_H_setOf 28 = .ok (.aload_n 1, 1) := by decide +kernel
theorem d_H_setOf_29 : decode b_H_setOf 29 = .ok (.iload 4, 2) := by decide +kernel
theorem d_H_setOf_31 : decode b_H_setOf 31 = .ok (.invokevirtual 90, 3) := by decide +kernel
theorem d_H_setOf_34 : decode b_H_setOf 34 = .ok (.aload_n 1, 1) := by decide +kernel
theorem d_H_setOf_35 : decode b_H_setOf 35 = .ok (.iload 4, 2) := by decide +kernel
theorem d_H_setOf_37 : decode b_H_setOf 37 = .ok (.invokevirtual 94, 3) := by decide +kernel
theorem d_H_setOf_40 : decode b_H_setOf 40 = .ok (.invokevirtual 76, 3) := by decide +kernel
theorem d_H_setOf_43 : decode b_H_setOf 43 = .ok (.iinc 4 (1), 3) := by decide +kernel
theorem d_H_setOf_46 : decode b_H_setOf 46 = .ok (.goto (-28), 3) := by decide +kernel
theorem d_H_setOf_49 : decode b_H_setOf 49 = .ok (.iload_n 2, 1) := by decide +kernel
theorem d_H_setOf_50 : decode b_H_setOf 50 = .ok (.ireturn, 1) := by decide +kernel
theorem d_H_takeDistancesFromZero_0 : decode b_H_takeDistancesFromZero 0 = .ok (.iconst 0, 1) := by decide +kernel
theorem d_H_takeDistancesFromZero_1 : decode b_H_takeDistancesFromZero 1 = .ok (.istore_n 2, 1) := by decide +kernel
theorem d_H_takeDistancesFromZero_2 : decode b_H_takeDistancesFromZero 2 = .ok (.iload_n 2, 1) := by decide +kernel
theorem d_H_takeDistancesFromZero_3 : decode b_H_takeDistancesFromZero 3 = .ok (.aload_n 1, 1) := by decide +kernel
theorem d_H_takeDistancesFromZero_4 : decode b_H_takeDistancesFromZero 4 = .ok (.invokevirtual 72, 3) := by decide +kernel
theorem d_H_takeDistancesFromZero_7 : decode b_H_takeDistancesFromZero 7 = .ok (.if_icmp .ge (23), 3) := by decide +kernel
theorem d_H_takeDistancesFromZero_10 : decode b_H_takeDistancesFromZero 10 = .ok (.aload_n 0, 1) := by decide +kernel
theorem d_H_takeDistancesFromZero_11 : decode b_H_takeDistancesFromZero 11 = .ok (.getfield 39, 3) := by decide +kernel
theorem d_H_takeDistancesFromZero_14 : decode b_H_takeDistancesFromZero 14 = .ok (.aload_n 1, 1) := by decide +kernel
theorem d_H_takeDistancesFromZero_15 : decode b_H_takeDistancesFromZero 15 = .ok (.iload_n 2, 1) := by decide +kernel
theorem d_H_takeDistancesFromZero_16 : decode b_H_takeDistancesFromZero 16 = .ok (.invokevirtual 185, 3) := by decide +kernel
theorem d_H_takeDistancesFromZero_19 : decode b_H_takeDistancesFromZero 19 = .ok (.i2l, 1) := by decide +kernel
theorem d_H_takeDistancesFromZero_20 : decode b_H_takeDistancesFromZero 20 = .ok (.lconst 1, 1) := by decide +kernel
theorem d_H_takeDistancesFromZero_21 : decode b_H_takeDistancesFromZero 21 = .ok (.invokevirtual 127, 3) := by decide +kernel
theorem d_H_takeDistancesFromZero_24 : decode b_H_takeDistancesFromZero 24 = .ok (.iinc 2 (1), 3) := by decide +kernel
theorem d_H_takeDistancesFromZero_27 : decode b_H_takeDistancesFromZero 27 = .ok (.goto (-25), 3) := by decide +kernel
theorem d_H_takeDistancesFromZero_30 : decode b_H_takeDistancesFromZero 30 = .ok (.iconst 0, 1) := by decide +kernel
theorem d_H_takeDistancesFromZero_31 : decode b_H_takeDistancesFromZero 31 = .ok (.istore_n 2, 1) := by decide +kernel
theorem d_H_takeDistancesFromZero_32 : decode b_H_takeDistancesFromZero 32 = .ok (.iload_n 2, 1) := by decide +kernel
theorem d_H_takeDistancesFromZero_33 : decode b_H_takeDistancesFromZero 33 = .ok (.aload_n 1, 1) := by decide +kernel
theorem d_H_takeDistancesFromZero_34 : decode b_H_takeDistancesFromZero 34 = .ok (.invokevirtual 118, 3) := by decide +kernel
theorem d_H_takeDistancesFromZero_37 : decode b_H_takeDistancesFromZero 37 = .ok (.if_icmp .ge (42), 3) := by decide +kernel
theorem d_H_takeDistancesFromZero_40 : decode b_H_takeDistancesFromZero 40 = .ok (.aload_n 1, 1) := by decide +kernel
theorem d_H_takeDistancesFromZero_41 : decode b_H_takeDistancesFromZero 41 = .ok (.iload_n 2, 1) := by decide +kernel
theorem d_H_takeDistancesFromZero_42 : decode b_H_takeDistancesFromZero 42 = .ok (.invokevirtual 188, 3) := by decide +kernel
theorem d_H_takeDistancesFromZero_45 : decode b_H_takeDistancesFromZero 45 = .ok (.ifCond .eq (28), 3) := by decide +kernel
theorem d_H_takeDistancesFromZero_48 : decode b_H_takeDistancesFromZero 48 = .ok (.aload_n 1, 1) := by decide +kernel
theorem d_H_takeDistancesFromZero_49 : decode b_H_takeDistancesFromZero 49 = .ok (.iload_n 2, 1) := by decide +kernel
theorem d_H_takeDistancesFromZero_50 : decode b_H_takeDistancesFromZero 50 = .ok (.iconst 0, 1) := by decide +kernel
theorem d_H_takeDistancesFromZero_51 : decode b_H_takeDistancesFromZero 51 = .ok (.iconst 0, 1) := by decide +kernel
theorem d_H_takeDistancesFromZero_52 : decode b_H_takeDistancesFromZero 52 = .ok (.invokevirtual 191, 3) := by decide +kernel
theorem d_H_takeDistancesFromZero_55 : decode b_H_takeDistancesFromZero 55 = .ok (.i2l, 1) := by decide +kernel
theorem d_H_takeDistancesFromZero_56 : decode b_H_takeDistancesFromZero 56 = .ok (.lstore_n 3, 1) := by decide +kernel
theorem d_H_takeDistancesFromZero_57 : decode b_H_takeDistancesFromZero 57 = .ok (.aload_n 0, 1) := by decide +kernel
theorem d_H_takeDistancesFromZero_58 : decode b_H_takeDistancesFromZero 58 = .ok (.getfield 39, 3) := by decide +kernel
theorem d_H_takeDistancesFromZero_61 : decode b_H_takeDistancesFromZero 61 = .ok (.lload_n 3, 1) := by decide +kernel
theorem d_H_takeDistancesFromZero_62 : decode b_H_takeDistancesFromZero 62 = .ok (.lload_n 3, 1) := by decide +kernel
theorem d_H_takeDistancesFromZero_63 : decode b_H_takeDistancesFromZero 63 = .ok (.lmul, 1) := by decide +kernel
theorem d_H_takeDistancesFromZero_64 : decode b_H_takeDistancesFromZero 64 = .ok (.aload_n 1, 1) := by decide +kernel
theorem d_H_takeDistancesFromZero_65 : decode b_H_takeDistancesFromZero 65 = .ok (.iload_n 2, 1) := by decide +kernel
theorem d_H_takeDistancesFromZero_66 : decode b_H_takeDistancesFromZero 66 = .ok (.invokevirtual 124, 3) := by decide +kernel
theorem d_H_takeDistancesFromZero_69 : decode b_H_takeDistancesFromZero 69 = .ok (.i2l, 1) := by decide +kernel
theorem d_H_takeDistancesFromZero_70 : decode b_H_takeDistancesFromZero 70 = .ok (.invokevirtual 127, 3) := by decide +kernel
theorem d_H_takeDistancesFromZero_73 : decode b_H_takeDistancesFromZero 73 = .ok (.iinc 2 (1), 3) := by decide +kernel
theorem d_H_takeDistancesFromZero_76 : decode b_H_takeDistancesFromZero 76 = .ok (.goto (-44), 3) := by decide +kernel
theorem d_H_takeDistancesFromZero_79 : decode b_H_takeDistancesFromZero 79 = .ok (.return_, 1) := by decide +kernel
theorem d_H_tell_0 : decode b_H_tell 0 = .ok (.aload_n 0, 1) := by decide +kernel
theorem d_H_tell_1 : decode b_H_tell 1 = .ok (.lload_n 1, 1) := by decide +kernel
theorem d_H_tell_2 : decode b_H_tell 2 = .ok (.putfield 47, 3) := by decide +kernel
theorem d_H_tell_5 : decode b_H_tell 5 = .ok (.aload_n 0, 1) := by decide +kernel
theorem d_H_tell_6 : decode b_H_tell 6 = .ok (.lload_n 3, 1) := by decide +kernel
theorem d_H_tell_7 : decode b_H_tell 7 = .ok (.putfield 51, 3) := by decide +kernel
theorem d_H_tell_10 : decode b_H_tell 10 = .ok (.return_, 1) := by decide +kernel
theorem d_H_tellFraction_0 : decode b_H_tellFraction 0 = .ok (.lload_n 1, 1) := by decide +kernel
theorem d_H_tellFraction_1 : decode b_H_tellFraction 1 = .ok (.lload_n 3, 1) := by decide +kernel
theorem d_H_tellFraction_2 : decode b_H_tellFraction 2 = .ok (.invokestatic 194, 3) := by decide +kernel
theorem d_H_tellFraction_5 : decode b_H_tellFraction 5 = .ok (.lstore 5, 2) := by decide +kernel
theorem d_H_tellFraction_7 : decode b_H_tellFraction 7 = .ok (.lload 5, 2) := by decide +kernel
theorem d_H_tellFraction_9 : decode b_H_tellFraction 9 = .ok (.lconst 0, 1) := by decide +kernel
theorem d_H_tellFraction_10 : decode b_H_tellFraction 10 = .ok (.lcmp, 1) := by decide +kernel
theorem d_H_tellFraction_11 : decode b_H_tellFraction 11 = .ok (.ifCond .ne (10), 3) := by decide +kernel
theorem d_H_tellFraction_14 : decode b_H_tellFraction 14 = .ok (.aload_n 0, 1) := by decide +kernel
theorem d_H_tellFraction_15 : decode b_H_tellFraction 15 = .ok (.lconst 0, 1) := by decide +kernel
theorem d_H_tellFraction_16 : decode b_H_tellFraction 16 = .ok (.lconst 1, 1) := by decide +kernel
theorem d_H_tellFraction_17 : decode b_H_tellFraction 17 = .ok (.invokevirtual 54, 3) := by decide +kernel
theorem d_H_tellFraction_20 : decode b_H_tellFraction 20 = .ok (.return_, 1) := by decide +kernel
theorem d_H_tellFraction_21 : decode b_H_tellFraction 21 = .ok (.aload_n 0, 1) := by decide +kernel
theorem d_H_tellFraction_22 : decode b_H_tellFraction 22 = .ok (.lload_n 1, 1) := by decide +kernel
theorem d_H_tellFraction_23 : decode b_H_tellFraction 23 = .ok (.lload 5, 2) := by decide +kernel
theorem d_H_tellFraction_25 : decode b_H_tellFraction 25 = .ok (.ldiv, 1) := by decide +kernel
theorem d_H_tellFraction_26 : decode b_H_tellFraction 26 = .ok (.lload_n 3, 1) := by decide +kernel
theorem d_H_tellFraction_27 : decode b_H_tellFraction 27 = .ok (.lload 5, 2) := by decide +kernel
theorem d_H_tellFraction_29 : decode b_H_tellFraction 29 = .ok (.ldiv, 1) := by decide +kernel
theorem d_H_tellFraction_30 : decode b_H_tellFraction 30 = .ok (.invokevirtual 54, 3) := by decide +kernel
theorem d_H_tellFraction_33 : decode b_H_tellFraction 33 = .ok (.return_, 1) := by decide +kernel
theorem d_H_isNear_0 : decode b_H_isNear 0 = .ok (.iload_n 0, 1) := by decide +kernel
theorem d_H_isNear_1 : decode b_H_isNear 1 = .ok (.iload_n 1, 1) := by decide +kernel
theorem d_H_isNear_2 : decode b_H_isNear 2 = .ok (.ineg, 1) := by decide +kernel
theorem d_H_isNear_3 : decode b_H_isNear 3 = .ok (.if_icmp .lt (12), 3) := by decide +kernel
theorem d_H_isNear_6 : decode b_H_isNear 6 = .ok (.iload_n 0, 1) := by decide +kernel
theorem d_H_isNear_7 : decode b_H_isNear 7 = .ok (.iload_n 1, 1) := by decide +kernel
theorem d_H_isNear_8 : decode b_H_isNear 8 = .ok (.if_icmp .gt (7), 3) := by decide +kernel
theorem d_H_isNear_11 : decode b_H_isNear 11 = .ok (.iconst 1, 1) := by decide +kernel
theorem d_H_isNear_12 : decode b_H_isNear 12 = .ok (.goto (4), 3) := by decide +kernel
theorem d_H_isNear_15 : decode b_H_isNear 15 = .ok (.iconst 0, 1) := by decide +kernel
theorem d_H_isNear_16 : decode b_H_isNear 16 = .ok (.ireturn, 1) := by decide +kernel
theorem d_H_commonDivisor_0 : decode b_H_commonDivisor 0 = .ok (.lload_n 0, 1) := by decide +kernel
theorem d_H_commonDivisor_1 : decode b_H_commonDivisor 1 = .ok (.invokestatic 198, 3) := by decide +kernel
theorem d_H_commonDivisor_4 : decode b_H_commonDivisor 4 = .ok (.lstore 4, 2) := by decide +kernel
theorem d_H_commonDivisor_6 : decode b_H_commonDivisor 6 = .ok (.lload_n 2, 1) := by decide +kernel
theorem d_H_commonDivisor_7 : decode b_H_commonDivisor 7 = .ok (.invokestatic 198, 3) := by decide +kernel
theorem d_H_commonDivisor_10 : decode b_H_commonDivisor 10 = .ok (.lstore 6, 2) := by decide +kernel
theorem d_H_commonDivisor_12 : decode b_H_commonDivisor 12 = .ok (.iconst 0, 1) := by decide +kernel
theorem d_H_commonDivisor_13 : decode b_H_commonDivisor 13 = .ok (.istore 8, 2) := by decide +kernel
theorem d_H_commonDivisor_15 : decode b_H_commonDivisor 15 = .ok (.iload 8, 2) := by decide +kernel
theorem d_H_commonDivisor_17 : decode b_H_commonDivisor 17 = .ok (.bipush (100), 2) := by decide +kernel
theorem d_H_commonDivisor_19 : decode b_H_commonDivisor 19 = .ok (.if_icmp .ge (31), 3) := by decide +kernel
theorem d_H_commonDivisor_22 : decode b_H_commonDivisor 22 = .ok (.lload 6, 2) := by decide +kernel
theorem d_H_commonDivisor_24 : decode b_H_commonDivisor 24 = .ok (.lconst 0, 1) := by decide +kernel
theorem d_H_commonDivisor_25 : decode b_H_commonDivisor 25 = .ok (.lcmp, 1) := by decide +kernel
theorem d_H_commonDivisor_26 : decode b_H_commonDivisor 26 = .ok (.ifCond .eq (24), 3) := by decide +kernel
theorem d_H_commonDivisor_29 : decode b_H_commonDivisor 29 = .ok (.lload 4, 2) := by decide +kernel
theorem d_H_commonDivisor_31 : decode b_H_commonDivisor 31 = .ok (.lload 6, 2) := by decide +kernel
theorem d_H_commonDivisor_33 : decode b_H_commonDivisor 33 = .ok (.lrem, 1) := by decide +kernel
theorem d_H_commonDivisor_34 : decode b_H_commonDivisor 34 = .ok (.lstore 9, 2) := by decide +kernel
theorem d_H_commonDivisor_36 : decode b_H_commonDivisor 36 = .ok (.lload 6, 2) := by decide +kernel
theorem d_H_commonDivisor_38 : decode b_H_commonDivisor 38 = .ok (.lstore 4, 2) := by decide +kernel
theorem d_H_commonDivisor_40 : decode b_H_commonDivisor 40 = .ok (.lload 9, 2) := by decide +kernel
theorem d_H_commonDivisor_42 : decode b_H_commonDivisor 42 = .ok (.lstore 6, 2) := by decide +kernel
theorem d_H_commonDivisor_44 : decode b_H_commonDivisor 44 = .ok (.iinc 8 (1), 3) := by decide +kernel
theorem d_H_commonDivisor_47 : decode b_H_commonDivisor 47 = .ok (.goto (-32), 3) := by decide +kernel
theorem d_H_commonDivisor_50 : decode b_H_commonDivisor 50 = .ok (.lload 4, 2) := by decide +kernel
theorem d_H_commonDivisor_52 : decode b_H_commonDivisor 52 = .ok (.lreturn, 1) := by decide +kernel
theorem d_M_init_0 : decode b_M_init 0 = .ok (.aload_n 0, 1) := by decide +kernel
theorem d_M_init_1 : decode b_M_init 1 = .ok (.invokespecial 1, 3) := by decide +kernel
theorem d_M_init_4 : decode b_M_init 4 = .ok (.aload_n 0, 1) := by decide +kernel
theorem d_M_init_5 : decode b_M_init 5 = .ok (.sipush (192), 3) := by decide +kernel
theorem d_M_init_8 : decode b_M_init 8 = .ok (.newarray .int, 2) := by decide +kernel
theorem d_M_init_10 : decode b_M_init 10 = .ok (.putfield 7, 3) := by decide +kernel
theorem d_M_init_13 : decode b_M_init 13 = .ok (.aload_n 0, 1) := by decide +kernel
theorem d_M_init_14 : decode b_M_init 14 = .ok (.sipush (192), 3) := by decide +kernel
theorem d_M_init_17 : decode b_M_init 17 = .ok (.newarray .int, 2) := by decide +kernel
theorem d_M_init_19 : decode b_M_init 19 = .ok (.putfield 13, 3) := by decide +kernel
theorem d_M_init_22 : decode b_M_init 22 = .ok (.aload_n 0, 1) := by decide +kernel
theorem d_M_init_23 : decode b_M_init 23 = .ok (.bipush (8), 2) := by decide +kernel
theorem d_M_init_25 : decode b_M_init 25 = .ok (.newarray .int, 2) := by decide +kernel
theorem d_M_init_27 : decode b_M_init 27 = .ok (.putfield 16, 3) := by decide +kernel
theorem d_M_init_30 : decode b_M_init 30 = .ok (.aload_n 0, 1) := by decide +kernel
theorem d_M_init_31 : decode b_M_init 31 = .ok (.sipush (576), 3) := by decide +kernel
theorem d_M_init_34 : decode b_M_init 34 = .ok (.newarray .int, 2) := by decide +kernel
theorem d_M_init_36 : decode b_M_init 36 = .ok (.putfield 19, 3) := by decide +kernel
theorem d_M_init_39 : decode b_M_init 39 = .ok (.aload_n 0, 1) := by decide +kernel
theorem d_M_init_40 : decode b_M_init 40 = .ok (.sipush (576), 3) := by decide +kernel
theorem d_M_init_43 : decode b_M_init 43 = .ok (.newarray .int, 2) := by decide +kernel
theorem d_M_init_45 : decode b_M_init 45 = .ok (.putfield 22, 3) := by decide +kernel
theorem d_M_init_48 : decode b_M_init 48 = .ok (.aload_n 0, 1) := by decide +kernel
theorem d_M_init_49 : decode b_M_init 49 = .ok (.sipush (576), 3) := by decide +kernel
theorem d_M_init_52 : decode b_M_init 52 = .ok (.newarray .int, 2) := by decide +kernel
theorem d_M_init_54 : decode b_M_init 54 = .ok (.putfield 25, 3) := by decide +kernel
theorem d_M_init_57 : decode b_M_init 57 = .ok (.aload_n 0, 1) := by decide +kernel
theorem d_M_init_58 : decode b_M_init 58 = .ok (.sipush (576), 3) := by decide +kernel
theorem d_M_init_61 : decode b_M_init 61 = .ok (.newarray .int, 2) := by decide +kernel
theorem d_M_init_63 : decode b_M_init 63 = .ok (.putfield 28, 3) := by decide +kernel
theorem d_M_init_66 : decode b_M_init 66 = .ok (.aload_n 0, 1) := by decide +kernel
theorem d_M_init_67 : decode b_M_init 67 = .ok (.lconst 1, 1) := by decide +kernel
theorem d_M_init_68 : decode b_M_init 68 = .ok (.putfield 31, 3) := by decide +kernel
theorem d_M_init_71 : decode b_M_init 71 = .ok (.return_, 1) := by decide +kernel
theorem d_M_clear_0 : decode b_M_clear 0 = .ok (.aload_n 0, 1) := by decide +kernel
theorem d_M_clear_1 : decode b_M_clear 1 = .ok (.iconst 0, 1) := by decide +kernel
theorem d_M_clear_2 : decode b_M_clear 2 = .ok (.putfield 35, 3) := by decide +kernel
theorem d_M_clear_5 : decode b_M_clear 5 = .ok (.aload_n 0, 1) := by decide +kernel
theorem d_M_clear_6 : decode b_M_clear 6 = .ok (.iconst 0, 1) := by decide +kernel
theorem d_M_clear_7 : decode b_M_clear 7 = .ok (.putfield 39, 3) := by decide +kernel
theorem d_M_clear_10 : decode b_M_clear 10 = .ok (.aload_n 0, 1) := by decide +kernel
theorem d_M_clear_11 : decode b_M_clear 11 = .ok (.lconst 0, 1) := by decide +kernel
theorem d_M_clear_12 : decode b_M_clear 12 = .ok (.putfield 42, 3) := by decide +kernel
theorem d_M_clear_15 : decode b_M_clear 15 = .ok (.aload_n 0, 1) := by decide +kernel
theorem d_M_clear_16 : decode b_M_clear 16 = .ok (.lconst 1, 1) := by decide +kernel
theorem d_M_clear_17 : decode b_M_clear 17 = .ok (.putfield 31, 3) := by decide +kernel
theorem d_M_clear_20 : decode b_M_clear 20 = .ok (.return_, 1) := by decide +kernel
theorem d_M_is_0 : decode b_M_is 0 = .ok (.aload_n 0, 1) := by decide +kernel
theorem d_M_is_1 : decode b_M_is 1 = .ok (.iconst 0, 1) := by decide +kernel
theorem d_M_is_2 : decode b_M_is 2 = .ok (.putfield 35, 3) := by decide +kernel
theorem d_M_is_5 : decode b_M_is 5 = .ok (.iload_n 1, 1) := by decide +kernel
theorem d_M_is_6 : decode b_M_is 6 = .ok (.ifCond .lt (15), 3) := by decide +kernel
theorem d_M_is_9 : decode b_M_is 9 = .ok (.iload_n 1, 1) := by decide +kernel
theorem d_M_is_10 : decode b_M_is 10 = .ok (.aload_n 0, 1) := by decide +kernel
theorem d_M_is_11 : decode b_M_is 11 = .ok (.getfield 39, 3) := by decide +kernel
theorem d_M_is_14 : decode b_M_is 14 = .ok (.if_icmp .ge (7), 3) := by decide +kernel
theorem d_M_is_17 : decode b_M_is 17 = .ok (.iconst 1, 1) := by decide +kernel
theorem d_M_is_18 : decode b_M_is 18 = .ok (.goto (4), 3) := by decide +kernel
theorem d_M_is_21 : decode b_M_is 21 = .ok (.iconst 0, 1) := by decide +kernel
theorem d_M_is_22 : decode b_M_is 22 = .ok (.ireturn, 1) := by decide +kernel
theorem d_M_in_0 : decode b_M_in 0 = .ok (.iload_n 0, 1) := by decide +kernel
theorem d_M_in_1 : decode b_M_in 1 = .ok (.iload_n 1, 1) := by decide +kernel
theorem d_M_in_2 : decode b_M_in 2 = .ok (.if_icmp .lt (12), 3) := by decide +kernel
theorem d_M_in_5 : decode b_M_in 5 = .ok (.iload_n 0, 1) := by decide +kernel
theorem d_M_in_6 : decode b_M_in 6 = .ok (.iload_n 2, 1) := by decide +kernel
theorem d_M_in_7 : decode b_M_in 7 = .ok (.if_icmp .gt (7), 3) := by decide +kernel
theorem d_M_in_10 : decode b_M_in 10 = .ok (.iconst 1, 1) := by decide +kernel
theorem d_M_in_11 : decode b_M_in 11 = .ok (.goto (4), 3) := by decide +kernel
theorem d_M_in_14 : decode b_M_in 14 = .ok (.iconst 0, 1) := by decide +kernel
theorem d_M_in_15 : decode b_M_in 15 = .ok (.ireturn, 1) := by decide +kernel
theorem d_M_load_0 : decode b_M_load 0 = .ok (.aload_n 0, 1) := by decide +kernel
theorem d_M_load_1 : decode b_M_load 1 = .ok (.aload_n 0, 1) := by decide +kernel
theorem d_M_load_2 : decode b_M_load 2 = .ok (.getfield 16, 3) := by decide +kernel
theorem d_M_load_5 : decode b_M_load 5 = .ok (.iload_n 1, 1) := by decide +kernel
theorem d_M_load_6 : decode b_M_load 6 = .ok (.iaload, 1) := by decide +kernel
theorem d_M_load_7 : decode b_M_load 7 = .ok (.putfield 45, 3) := by decide +kernel
theorem d_M_load_10 : decode b_M_load 10 = .ok (.iconst 0, 1) := by decide +kernel
theorem d_M_load_11 : decode b_M_load 11 = .ok (.istore_n 2, 1) := by decide +kernel
theorem d_M_load_12 : decode b_M_load 12 = .ok (.iload_n 2, 1) := by decide +kernel
theorem d_M_load_13 : decode b_M_load 13 = .ok (.aload_n 0, 1) := by decide +kernel
theorem d_M_load_14 : decode b_M_load 14 = .ok (.getfield 45, 3) := by decide +kernel
theorem d_M_load_17 : decode b_M_load 17 = .ok (.if_icmp .ge (43), 3) := by decide +kernel
theorem d_M_load_20 : decode b_M_load 20 = .ok (.aload_n 0, 1) := by decide +kernel
theorem d_M_load_21 : decode b_M_load 21 = .ok (.getfield 19, 3) := by decide +kernel
theorem d_M_load_24 : decode b_M_load 24 = .ok (.iload_n 2, 1) := by decide +kernel
theorem d_M_load_25 : decode b_M_load 25 = .ok (.aload_n 0, 1) := by decide +kernel
theorem d_M_load_26 : decode b_M_load 26 = .ok (.getfield 7, 3) := by decide +kernel
theorem d_M_load_29 : decode b_M_load 29 = .ok (.bipush (24), 2) := by decide +kernel
theorem d_M_load_31 : decode b_M_load 31 = .ok (.iload_n 1, 1) := by decide +kernel
theorem d_M_load_32 : decode b_M_load 32 = .ok (.imul, 1) := by decide +kernel
theorem d_M_load_33 : decode b_M_load 33 = .ok (.iload_n 2, 1) := by decide +kernel
theorem d_M_load_34 : decode b_M_load 34 = .ok (.iadd, 1) := by decide +kernel
theorem d_M_load_35 : decode b_M_load 35 = .ok (.iaload, 1) := by decide +kernel
theorem d_M_load_36 : decode b_M_load 36 = .ok (.iastore, 1) := by decide +kernel
theorem d_M_load_37 : decode b_M_load 37 = .ok (.aload_n 0, 1) := by decide +kernel
theorem d_M_load_38 : decode b_M_load 38 = .ok (.getfield 22, 3) := by decide +kernel
theorem d_M_load_41 : decode b_M_load 41 = .ok (.iload_n 2, 1) := by decide +kernel
theorem d_M_load_42 : decode b_M_load 42 = .ok (.aload_n 0, 1) := by decide +kernel
theorem d_M_load_43 : decode b_M_load 43 = .ok (.getfield 13, 3) := by decide +kernel
theorem d_M_load_46 : decode b_M_load 46 = .ok (.bipush (24), 2) := by decide +kernel
theorem d_M_load_48 : decode b_M_load 48 = .ok (.iload_n 1, 1) := by decide +kernel
theorem d_M_load_49 : decode b_M_load 49 = .ok (.imul, 1) := by decide +kernel
theorem d_M_load_50 : decode b_M_load 50 = .ok (.iload_n 2, 1) := by decide +kernel
theorem d_M_load_51 : decode b_M_load 51 = .ok (.iadd, 1) := by decide +kernel
theorem d_M_load_52 : decode b_M_load 52 = .ok (.iaload, 1) := by decide +kernel
theorem d_M_load_53 : decode b_M_load 53 = .ok (.iastore, 1) := by decide +kernel
theorem d_M_load_54 : decode b_M_load 54 = .ok (.iinc 2 (1), 3) := by decide +kernel
theorem d_M_load_57 : decode b_M_load 57 = .ok (.goto (-45), 3) := by decide +kernel
theorem d_M_load_60 : decode b_M_load 60 = .ok (.aload_n 0, 1) := by decide +kernel
theorem d_M_load_61 : decode b_M_load 61 = .ok (.invokevirtual 48, 3) := by decide +kernel
theorem d_M_load_64 : decode b_M_load 64 = .ok (.return_, 1) := by decide +kernel
theorem d_M_loadBoth_0 : decode b_M_loadBoth 0 = .ok (.aload_n 0, 1) := by decide +kernel
theorem d_M_loadBoth_1 : decode b_M_loadBoth 1 = .ok (.iconst 0, 1) := by decide +kernel
theorem d_M_loadBoth_2 : decode b_M_loadBoth 2 = .ok (.putfield 45, 3) := by decide +kernel
theorem d_M_loadBoth_5 : decode b_M_loadBoth 5 = .ok (.iconst 0, 1) := by decide +kernel
theorem d_M_loadBoth_6 : decode b_M_loadBoth 6 = .ok (.istore 4, 2) := by decide +kernel
theorem d_M_loadBoth_8 : decode b_M_loadBoth 8 = .ok (.iload 4, 2) := by decide +kernel
theorem d_M_loadBoth_10 : decode b_M_loadBoth 10 = .ok (.aload_n 0, 1) := by decide +kernel
theorem d_M_loadBoth_11 : decode b_M_loadBoth 11 = .ok (.getfield 16, 3) := by decide +kernel
theorem d_M_loadBoth_14 : decode b_M_loadBoth 14 = .ok (.iload_n 1, 1) := by decide +kernel
theorem d_M_loadBoth_15 : decode b_M_loadBoth 15 = .ok (.iaload, 1) := by decide +kernel
theorem d_M_loadBoth_16 : decode b_M_loadBoth 16 = .ok (.if_icmp .ge (111), 3) := by decide +kernel
theorem d_M_loadBoth_19 : decode b_M_loadBoth 19 = .ok (.iconst 0, 1) := by decide +kernel
theorem d_M_loadBoth_20 : decode b_M_loadBoth 20 = .ok (.istore 5, 2) := by decide +kernel
theorem d_M_loadBoth_22 : decode b_M_loadBoth 22 = .ok (.iload 5, 2) := by decide +kernel
theorem d_M_loadBoth_24 : decode b_M_loadBoth 24 = .ok (.aload_n 0, 1) := by decide +kernel
theorem d_M_loadBoth_25 : decode b_M_loadBoth 25 = .ok (.getfield 16, 3) := by decide +kernel
theorem d_M_loadBoth_28 : decode b_M_loadBoth 28 = .ok (.iload_n 2, 1) := by decide +kernel
theorem d_M_loadBoth_29 : decode b_M_loadBoth 29 = .ok (.iaload, 1) := by decide +kernel
theorem d_M_loadBoth_30 : decode b_M_loadBoth 30 = .ok (.if_icmp .ge (91), 3) := by decide +kernel
theorem d_M_loadBoth_33 : decode b_M_loadBoth 33 = .ok (.aload_n 0, 1) := by decide +kernel
theorem d_M_loadBoth_34 : decode b_M_loadBoth 34 = .ok (.getfield 19, 3) := by decide +kernel
theorem d_M_loadBoth_37 : decode b_M_loadBoth 37 = .ok (.aload_n 0, 1) := by decide +kernel
theorem d_M_loadBoth_38 : decode b_M_loadBoth 38 = .ok (.getfield 45, 3) := by decide +kernel
theorem d_M_loadBoth_41 : decode b_M_loadBoth 41 = .ok (.aload_n 0, 1) := by decide +kernel
theorem d_M_loadBoth_42 : decode b_M_loadBoth 42 = .ok (.getfield 7, 3) := by decide +kernel
theorem d_M_loadBoth_45 : decode b_M_loadBoth 45 = .ok (.bipush (24), 2) := by decide +kernel
theorem d_M_loadBoth_47 : decode b_M_loadBoth 47 = .ok (.iload_n 1, 1) := by decide +kernel
theorem d_M_loadBoth_48 : decode b_M_loadBoth 48 = .ok (.imul, 1) := by decide +kernel
theorem d_M_loadBoth_49 : decode b_M_loadBoth 49 = .ok (.iload 4, 2) := by decide +kernel
theorem d_M_loadBoth_51 : decode b_M_loadBoth 51 = .ok (.iadd, 1) := by decide +kernel
theorem d_M_loadBoth_52 : decode b_M_loadBoth 52 = .ok (.iaload, 1) := by decide +kernel
theorem d_M_loadBoth_53 : decode b_M_loadBoth 53 = .ok (.iload_n 3, 1) := by decide +kernel
theorem d_M_loadBoth_54 : decode b_M_loadBoth 54 = .ok (.aload_n 0, 1) := by decide +kernel
theorem d_M_loadBoth_55 : decode b_M_loadBoth 55 = .ok (.getfield 7, 3) := by decide +kernel
theorem d_M_loadBoth_58 : decode b_M_loadBoth 58 = .ok (.bipush (24), 2) := by decide +kernel
theorem d_M_loadBoth_60 : decode b_M_loadBoth 60 = .ok (.iload_n 2, 1) := by decide +kernel
theorem d_M_loadBoth_61 : decode b_M_loadBoth 61 = .ok (.imul, 1) := by decide +kernel
theorem d_M_loadBoth_62 : decode b_M_loadBoth 62 = .ok (.iload 5, 2) := by decide +kernel
theorem d_M_loadBoth_64 : decode b_M_loadBoth 64 = .ok (.iadd, 1) := by decide +kernel
theorem d_M_loadBoth_65 : decode b_M_loadBoth 65 = .ok (.iaload, 1) := by decide +kernel
theorem d_M_loadBoth_66 : decode b_M_loadBoth 66 = .ok (.imul, 1) := by decide +kernel
theorem d_M_loadBoth_67 : decode b_M_loadBoth 67 = .ok (.iadd, 1) := by decide +kernel
theorem d_M_loadBoth_68 : decode b_M_loadBoth 68 = .ok (.iastore, 1) := by decide +kernel
theorem d_M_loadBoth_69 : decode b_M_loadBoth 69 = .ok (.aload_n 0, 1) := by decide +kernel
theorem d_M_loadBoth_70 : decode b_M_loadBoth 70 = .ok (.getfield 22, 3) := by decide +kernel
theorem d_M_loadBoth_73 : decode b_M_loadBoth 73 = .ok (.aload_n 0, 1) := by decide +kernel
theorem d_M_loadBoth_74 : decode b_M_loadBoth 74 = .ok (.getfield 45, 3) := by decide +kernel
theorem d_M_loadBoth_77 : decode b_M_loadBoth 77 = .ok (.aload_n 0, 1) := by decide +kernel
theorem d_M_loadBoth_78 : decode b_M_loadBoth 78 = .ok (.getfield 13, 3) := by decide +kernel
theorem d_M_loadBoth_81 : decode b_M_loadBoth 81 = .ok (.bipush (24), 2) := by decide +kernel
theorem d_M_loadBoth_83 : decode b_M_loadBoth 83 = .ok (.iload_n 1, 1) := by decide +kernel
theorem d_M_loadBoth_84 : decode b_M_loadBoth 84 = .ok (.imul, 1) := by decide +kernel
theorem d_M_loadBoth_85 : decode b_M_loadBoth 85 = .ok (.iload 4, 2) := by decide +kernel
theorem d_M_loadBoth_87 : decode b_M_loadBoth 87 = .ok (.iadd, 1) := by decide +kernel
theorem d_M_loadBoth_88 : decode b_M_loadBoth 88 = .ok (.iaload, 1) := by decide +kernel
theorem d_M_loadBoth_89 : decode b_M_loadBoth 89 = .ok (.iload_n 3, 1) := by decide +kernel
theorem d_M_loadBoth_90 : decode b_M_loadBoth 90 = .ok (.aload_n 0, 1) := by decide +kernel
theorem d_M_loadBoth_91 : decode b_M_loadBoth 91 = .ok (.getfield 13, 3) := by decide +kernel
theorem d_M_loadBoth_94 : decode b_M_loadBoth 94 = .ok (.bipush (24), 2) := by decide +kernel
theorem d_M_loadBoth_96 : decode b_M_loadBoth 96 = .ok (.iload_n 2, 1) := by decide +kernel
theorem d_M_loadBoth_97 : decode b_M_loadBoth 97 = .ok (.imul, 1) := by decide +kernel
theorem d_M_loadBoth_98 : decode b_M_loadBoth 98 = .ok (.iload 5, 2) := by decide +kernel
theorem d_M_loadBoth_100 : decode b_M_loadBoth 100 = .ok (.iadd, 1) := by decide +kernel
theorem d_M_loadBoth_101 : decode b_M_loadBoth 101 = .ok (.iaload, 1) := by decide +kernel
theorem d_M_loadBoth_102 : decode b_M_loadBoth 102 = .ok (.imul, 1) := by decide +kernel
theorem d_M_loadBoth_103 : decode b_M_loadBoth 103 = .ok (.iadd, 1) := by decide +kernel
theorem d_M_loadBoth_104 : decode b_M_loadBoth 104 = .ok (.iastore, 1) := by decide +kernel
theorem d_M_loadBoth_105 : decode b_M_loadBoth 105 = .ok (.aload_n 0, 1) := by decide +kernel
theorem d_M_loadBoth_106 : decode b_M_loadBoth 106 = .ok (.dup, 1) := by decide +kernel
theorem d_M_loadBoth_107 : decode b_M_loadBoth 107 = .ok (.getfield 45, 3) := by decide +kernel
theorem d_M_loadBoth_110 : decode b_M_loadBoth 110 = .ok (.iconst 1, 1) := by decide +kernel
theorem d_M_loadBoth_111 : decode b_M_loadBoth 111 = .ok (.iadd, 1) := by decide +kernel
theorem d_M_loadBoth_112 : decode b_M_loadBoth 112 = .ok (.putfield 45, 3) := by decide +kernel
theorem d_M_loadBoth_115 : decode b_M_loadBoth 115 = .ok (.iinc 5 (1), 3) := by decide +kernel
theorem d_M_loadBoth_118 : decode b_M_loadBoth 118 = .ok (.goto (-96), 3) := by decide +kernel
theorem d_M_loadBoth_121 : decode b_M_loadBoth 121 = .ok (.iinc 4 (1), 3) := by decide +kernel
theorem d_M_loadBoth_124 : decode b_M_loadBoth 124 = .ok (.goto (-116), 3) := by decide +kernel
theorem d_M_loadBoth_127 : decode b_M_loadBoth 127 = .ok (.aload_n 0, 1) := by decide +kernel
theorem d_M_loadBoth_128 : decode b_M_loadBoth 128 = .ok (.invokevirtual 48, 3) := by decide +kernel
theorem d_M_loadBoth_131 : decode b_M_loadBoth 131 = .ok (.return_, 1) := by decide +kernel
theorem d_M_turn_0 : decode b_M_turn 0 = .ok (.lload 4, 2) := by decide +kernel
theorem d_M_turn_2 : decode b_M_turn 2 = .ok (.lload_n 0, 1) := by decide +kernel
theorem d_M_turn_3 : decode b_M_turn 3 = .ok (.lsub, 1) := by decide +kernel
theorem d_M_turn_4 : decode b_M_turn 4 = .ok (.lload 10, 2) := by decide +kernel
theorem d_M_turn_6 : decode b_M_turn 6 = .ok (.lload_n 2, 1) := by decide +kernel
theorem d_M_turn_7 : decode b_M_turn 7 = .ok (.lsub, 1) := by decide +kernel
theorem d_M_turn_8 : decode b_M_turn 8 = .ok (.lmul, 1) := by decide +kernel
theorem d_M_turn_9 : decode b_M_turn 9 = .ok (.lload 6, 2) := by decide +kernel
theorem d_M_turn_11 : decode b_M_turn 11 = .ok (.lload_n 2, 1) := by decide +kernel
theorem d_M_turn_12 : decode b_M_turn 12 = .ok (.lsub, 1) := by decide +kernel
theorem d_M_turn_13 : decode b_M_turn 13 = .ok (.lload 8, 2) := by decide +kernel
theorem d_M_turn_15 : decode b_M_turn 15 = .ok (.lload_n 0, 1) := by decide +kernel
theorem d_M_turn_16 : decode b_M_turn 16 = .ok (.lsub, 1) := by decide +kernel
theorem d_M_turn_17 : decode b_M_turn 17 = .ok (.lmul, 1) := by decide +kernel
theorem d_M_turn_18 : decode b_M_turn 18 = .ok (.lsub, 1) := by decide +kernel
theorem d_M_turn_19 : decode b_M_turn 19 = .ok (.lreturn, 1) := by decide +kernel
theorem d_M_square_0 : decode b_M_square 0 = .ok (.lload_n 0, 1) := by decide +kernel
theorem d_M_square_1 : decode b_M_square 1 = .ok (.lload 4, 2) := by decide +kernel
theorem d_M_square_3 : decode b_M_square 3 = .ok (.lsub, 1) := by decide +kernel
theorem d_M_square_4 : decode b_M_square 4 = .ok (.lload_n 0, 1) := by decide +kernel
theorem d_M_square_5 : decode b_M_square 5 = .ok (.lload 4, 2) := by decide +kernel
theorem d_M_square_7 : decode b_M_square 7 = .ok (.lsub, 1) := by decide +kernel
theorem d_M_square_8 : decode b_M_square 8 = .ok (.lmul, 1) := by decide +kernel
theorem d_M_square_9 : decode b_M_square 9 = .ok (.lload_n 2, 1) := by decide +kernel
theorem d_M_square_10 : decode b_M_square 10 = .ok (.lload 6, 2) := by decide +kernel
theorem d_M_square_12 : decode b_M_square 12 = .ok (.lsub, 1) := by decide +kernel
theorem d_M_square_13 : decode b_M_square 13 = .ok (.lload_n 2, 1) := by decide +kernel
theorem d_M_square_14 : decode b_M_square 14 = .ok (.lload 6, 2) := by decide +kernel
theorem d_M_square_16 : decode b_M_square 16 = .ok (.lsub, 1) := by decide +kernel
theorem d_M_square_17 : decode b_M_square 17 = .ok (.lmul, 1) := by decide +kernel
theorem d_M_square_18 : decode b_M_square 18 = .ok (.ladd, 1) := by decide +kernel
theorem d_M_square_19 : decode b_M_square 19 = .ok (.lreturn, 1) := by decide +kernel
theorem d_M_goRound_0 : decode b_M_goRound 0 = .ok (.aload_n 0, 1) := by decide +kernel
theorem d_M_goRound_1 : decode b_M_goRound 1 = .ok (.iconst 0, 1) := by decide +kernel
theorem d_M_goRound_2 : decode b_M_goRound 2 = .ok (.putfield 51, 3) := by decide +kernel
theorem d_M_goRound_5 : decode b_M_goRound 5 = .ok (.iconst (-1), 1) := by decide +kernel
theorem d_M_goRound_6 : decode b_M_goRound 6 = .ok (.istore_n 1, 1) := by decide +kernel
theorem d_M_goRound_7 : decode b_M_goRound 7 = .ok (.iconst 0, 1) := by decide +kernel
theorem d_M_goRound_8 : decode b_M_goRound 8 = .ok (.istore_n 2, 1) := by decide +kernel
theorem d_M_goRound_9 : decode b_M_goRound 9 = .ok (.iload_n 2, 1) := by decide +kernel
theorem d_M_goRound_10 : decode b_M_goRound 10 = .ok (.aload_n 0, 1) := by decide +kernel
theorem d_M_goRound_11 : decode b_M_goRound 11 = .ok (.getfield 45, 3) := by decide +kernel
theorem d_M_goRound_14 : decode b_M_goRound 14 = .ok (.if_icmp .ge (60), 3) := by decide +kernel
theorem d_M_goRound_17 : decode b_M_goRound 17 = .ok (.iload_n 1, 1) := by decide +kernel
theorem d_M_goRound_18 : decode b_M_goRound 18 = .ok (.ifCond .lt (48), 3) := by decide +kernel
theorem d_M_goRound_21 : decode b_M_goRound 21 = .ok (.aload_n 0, 1) := by decide +kernel
theorem d_M_goRound_22 : decode b_M_goRound 22 = .ok (.getfield 19, 3) := by decide +kernel
theorem d_M_goRound_25 : decode b_M_goRound 25 = .ok (.iload_n 2, 1) := by decide +kernel
theorem d_M_goRound_26 : decode b_M_goRound 26 = .ok (.iaload, 1) := by decide +kernel
theorem d_M_goRound_27 : decode b_M_goRound 27 = .ok (.aload_n 0, 1) := by decide +kernel
theorem d_M_goRound_28 : decode b_M_goRound 28 = .ok (.getfield 19, 3) := by decide +kernel
theorem d_M_goRound_31 : decode b_M_goRound 31 = .ok (.iload_n 1, 1) := by decide +kernel
theorem d_M_goRound_32 : decode b_M_goRound 32 = .ok (.iaload, 1) := by decide +kernel
theorem d_M_goRound_33 : decode b_M_goRound 33 = .ok (.if_icmp .lt (33), 3) := by decide +kernel
theorem d_M_goRound_36 : decode b_M_goRound 36 = .ok (.aload_n 0, 1) := by decide +kernel
theorem d_M_goRound_37 : decode b_M_goRound 37 = .ok (.getfield 19, 3) := by decide +kernel
theorem d_M_goRound_40 : decode b_M_goRound 40 = .ok (.iload_n 2, 1) := by decide +kernel
theorem d_M_goRound_41 : decode b_M_goRound 41 = .ok (.iaload, 1) := by decide +kernel
theorem d_M_goRound_42 : decode b_M_goRound 42 = .ok (.aload_n 0, 1) := by decide +kernel
theorem d_M_goRound_43 : decode b_M_goRound 43 = .ok (.getfield 19, 3) := by decide +kernel
theorem d_M_goRound_46 : decode b_M_goRound 46 = .ok (.iload_n 1, 1) := by decide +kernel
theorem d_M_goRound_47 : decode b_M_goRound 47 = .ok (.iaload, 1) := by decide +kernel
theorem d_M_goRound_48 : decode b_M_goRound 48 = .ok (.if_icmp .ne (20), 3) := by decide +kernel
theorem d_M_goRound_51 : decode b_M_goRound 51 = .ok (.aload_n 0, 1) := by decide +kernel
theorem d_M_goRound_52 : decode b_M_goRound 52 = .ok (.getfield 22, 3) := by decide +kernel
theorem d_M_goRound_55 : decode b_M_goRound 55 = .ok (.iload_n 2, 1) := by decide +kernel
theorem d_M_goRound_56 : decode b_M_goRound 56 = .ok (.iaload, 1) := by decide +kernel
theorem d_M_goRound_57 : decode b_M_goRound 57 = .ok (.aload_n 0, 1) := by decide +kernel
theorem d_M_goRound_58 : decode b_M_goRound 58 = .ok (.getfield 22, 3) := by decide +kernel
theorem d_M_goRound_61 : decode b_M_goRound 61 = .ok (.iload_n 1, 1) := by decide +kernel
theorem d_M_goRound_62 : decode b_M_goRound 62 = .ok (.iaload, 1) := by decide +kernel
theorem d_M_goRound_63 : decode b_M_goRound 63 = .ok (.if_icmp .ge (5), 3) := by decide +kernel
theorem d_M_goRound_66 : decode b_M_goRound 66 = .ok (.iload_n 2, 1) := by decide +kernel
theorem d_M_goRound_67 : decode b_M_goRound 67 = .ok (.istore_n 1, 1) := by decide +kernel
theorem d_M_goRound_68 : decode b_M_goRound 68 = .ok (.iinc 2 (1), 3) := by decide +kernel
theorem d_M_goRound_71 : decode b_M_goRound 71 = .ok (.goto (-62), 3) := by decide +kernel
theorem d_M_goRound_74 : decode b_M_goRound 74 = .ok (.iload_n 1, 1) := by decide +kernel
theorem d_M_goRound_75 : decode b_M_goRound 75 = .ok (.ifCond .lt (7), 3) := by decide +kernel
theorem d_M_goRound_78 : decode b_M_goRound 78 = .ok (.iconst 1, 1) := by decide +kernel
theorem d_M_goRound_79 : decode b_M_goRound 79 = .ok (.goto (4), 3) := by decide +kernel
theorem d_M_goRound_82 : decode b_M_goRound 82 = .ok (.iconst 0, 1) := by decide +kernel
theorem d_M_goRound_83 : decode b_M_goRound 83 = .ok (.istore_n 2, 1) := by decide +kernel
theorem d_M_goRound_84 : decode b_M_goRound 84 = .ok (.iload_n 2, 1) := by decide +kernel
theorem d_M_goRound_85 : decode b_M_goRound 85 = .ok (.ifCond .eq (94), 3) := by decide +kernel
theorem d_M_goRound_88 : decode b_M_goRound 88 = .ok (.aload_n 0, 1) := by decide +kernel
theorem d_M_goRound_89 : decode b_M_goRound 89 = .ok (.getfield 25, 3) := by decide +kernel
theorem d_M_goRound_92 : decode b_M_goRound 92 = .ok (.aload_n 0, 1) := by decide +kernel
theorem d_M_goRound_93 : decode b_M_goRound 93 = .ok (.getfield 51, 3) := by decide +kernel
theorem d_M_goRound_96 : decode b_M_goRound 96 = .ok (.aload_n 0, 1) := by decide +kernel
theorem d_M_goRound_97 : decode b_M_goRound 97 = .ok (.getfield 19, 3) := by decide +kernel
theorem d_M_goRound_100 : decode b_M_goRound 100 = .ok (.iload_n 1, 1) := by decide +kernel
theorem d_M_goRound_101 : decode b_M_goRound 101 = .ok (.iaload, 1) := by decide +kernel
theorem d_M_goRound_102 : decode b_M_goRound 102 = .ok (.iastore, 1) := by decide +kernel
theorem d_M_goRound_103 : decode b_M_goRound 103 = .ok (.aload_n 0, 1) := by decide +kernel
theorem d_M_goRound_104 : decode b_M_goRound 104 = .ok (.getfield 28, 3) := by decide +kernel
theorem d_M_goRound_107 : decode b_M_goRound 107 = .ok (.aload_n 0, 1) := by decide +kernel
theorem d_M_goRound_108 : decode b_M_goRound 108 = .ok (.getfield 51, 3) := by decide +kernel
theorem d_M_goRound_111 : decode b_M_goRound 111 = .ok (.aload_n 0, 1) := by decide +kernel
theorem d_M_goRound_112 : decode b_M_goRound 112 = .ok (.getfield 22, 3) := by decide +kernel
theorem d_M_goRound_115 : decode b_M_goRound 115 = .ok (.iload_n 1, 1) := by decide +kernel
theorem d_M_goRound_116 : decode b_M_goRound 116 = .ok (.iaload, 1) := by decide +kernel
theorem d_M_goRound_117 : decode b_M_goRound 117 = .ok (.iastore, 1) := by decide +kernel
theorem d_M_goRound_118 : decode b_M_goRound 118 = .ok (.aload_n 0, 1) := by decide +kernel
theorem d_M_goRound_119 : decode b_M_goRound 119 = .ok (.dup, 1) := by decide +kernel
theorem d_M_goRound_120 : decode b_M_goRound 120 = .ok (.getfield 51, 3) := by decide +kernel
theorem d_M_goRound_123 : decode b_M_goRound 123 = .ok (.iconst 1, 1) := by decide +kernel
theorem d_M_goRound_124 : decode b_M_goRound 124 = .ok (.iadd, 1) := by decide +kernel
theorem d_M_goRound_125 : decode b_M_goRound 125 = .ok (.putfield 51, 3) := by decide +kernel
theorem d_M_goRound_128 : decode b_M_goRound 128 = .ok (.aload_n 0, 1) := by decide +kernel
theorem d_M_goRound_129 : decode b_M_goRound 129 = .ok (.iload_n 1, 1) := by decide +kernel
theorem d_M_goRound_130 : decode b_M_goRound 130 = .ok (.invokevirtual 54, 3) := by decide +kernel
theorem d_M_goRound_133 : decode b_M_goRound 133 = .ok (.istore_n 3, 1) := by decide +kernel
theorem d_M_goRound_134 : decode b_M_goRound 134 = .ok (.iload_n 3, 1) := by decide +kernel
theorem d_M_goRound_135 : decode b_M_goRound 135 = .ok (.ifCond .lt (37), 3) := by decide +kernel
theorem d_M_goRound_138 : decode b_M_goRound 138 = .ok (.aload_n 0, 1) := by decide +kernel
theorem d_M_goRound_139 : decode b_M_goRound 139 = .ok (.getfield 19, 3) := by decide +kernel
theorem d_M_goRound_142 : decode b_M_goRound 142 = .ok (.iload_n 3, 1) := by decide +kernel
theorem d_M_goRound_143 : decode b_M_goRound 143 = .ok (.iaload, 1) := by decide +kernel
theorem d_M_goRound_144 : decode b_M_goRound 144 = .ok (.aload_n 0, 1) := by decide +kernel
theorem d_M_goRound_145 : decode b_M_goRound 145 = .ok (.getfield 25, 3) := by decide +kernel
theorem d_M_goRound_148 : decode b_M_goRound 148 = .ok (.iconst 0, 1) := by decide +kernel
theorem d_M_goRound_149 : decode b_M_goRound 149 = .ok (.iaload, 1) := by decide +kernel
theorem d_M_goRound_150 : decode b_M_goRound 150 = .ok (.if_icmp .ne (18), 3) := by decide +kernel
theorem d_M_goRound_153 : decode b_M_goRound 153 = .ok (.aload_n 0, 1) := by decide +kernel
theorem d_M_goRound_154 : decode b_M_goRound 154 = .ok (.getfield 22, 3) := by decide +kernel
theorem d_M_goRound_157 : decode b_M_goRound 157 = .ok (.iload_n 3, 1) := by decide +kernel
theorem d_M_goRound_158 : decode b_M_goRound 158 = .ok (.iaload, 1) := by decide +kernel
theorem d_M_goRound_159 : decode b_M_goRound 159 = .ok (.aload_n 0, 1) := by decide +kernel
theorem d_M_goRound_160 : decode b_M_goRound 160 = .ok (.getfield 28, 3) := by decide +kernel
theorem d_M_goRound_163 : decode b_M_goRound 163 = .ok (.iconst 0, 1) := by decide +kernel
theorem d_M_goRound_164 : decode b_M_goRound 164 = .ok (.iaload, 1) := by decide +kernel
theorem d_M_goRound_165 : decode b_M_goRound 165 = .ok (.if_icmp .eq (7), 3) := by decide +kernel
theorem d_M_goRound_168 : decode b_M_goRound 168 = .ok (.iconst 1, 1) := by decide +kernel
theorem d_M_goRound_169 : decode b_M_goRound 169 = .ok (.goto (4), 3) := by decide +kernel
theorem d_M_goRound_172 : decode b_M_goRound 172 = .ok (.iconst 0, 1) := by decide +kernel
theorem d_M_goRound_173 : decode b_M_goRound 173 = .ok (.istore_n 2, 1) := by decide +kernel
theorem d_M_goRound_174 : decode b_M_goRound 174 = .ok (.iload_n 3, 1) := by decide +kernel
theorem d_M_goRound_175 : decode b_M_goRound 175 = .ok (.istore_n 1, 1) := by decide +kernel
theorem d_M_goRound_176 : decode b_M_goRound 176 = .ok (.goto (-92), 3) := by decide +kernel
theorem d_M_goRound_179 : decode b_M_goRound 179 = .ok (.return_, 1) := by decide +kernel
theorem d_M_nextOf_0 : decode b_M_nextOf 0 = .ok (.iconst (-1), 1) := by decide +kernel
theorem d_M_nextOf_1 : decode b_M_nextOf 1 = .ok (.istore_n 2, 1) := by decide +kernel
theorem d_M_nextOf_2 : decode b_M_nextOf 2 = .ok (.iconst 0, 1) := by decide +kernel
theorem d_M_nextOf_3 : decode b_M_nextOf 3 = .ok (.istore_n 3, 1) := by decide +kernel
theorem d_M_nextOf_4 : decode b_M_nextOf 4 = .ok (.iload_n 3, 1) := by decide +kernel
theorem d_M_nextOf_5 : decode b_M_nextOf 5 = .ok (.aload_n 0, 1) := by decide +kernel
theorem d_M_nextOf_6 : decode b_M_nextOf 6 = .ok (.getfield 45, 3) := by decide +kernel
theorem d_M_nextOf_9 : decode b_M_nextOf 9 = .ok (.if_icmp .ge (192), 3) := by decide +kernel
theorem d_M_nextOf_12 : decode b_M_nextOf 12 = .ok (.aload_n 0, 1) := by decide +kernel
theorem d_M_nextOf_13 : decode b_M_nextOf 13 = .ok (.getfield 19, 3) := by decide +kernel
theorem d_M_nextOf_16 : decode b_M_nextOf 16 = .ok (.iload_n 3, 1) := by decide +kernel
theorem d_M_nextOf_17 : decode b_M_nextOf 17 = .ok (.iaload, 1) := by decide +kernel
theorem d_M_nextOf_18 : decode b_M_nextOf 18 = .ok (.aload_n 0, 1) := by decide +kernel
theorem d_M_nextOf_19 : decode b_M_nextOf 19 = .ok (.getfield 19, 3) := by decide +kernel
theorem d_M_nextOf_22 : decode b_M_nextOf 22 = .ok (.iload_n 1, 1) := by decide +kernel
theorem d_M_nextOf_23 : decode b_M_nextOf 23 = .ok (.iaload, 1) := by decide +kernel
theorem d_M_nextOf_24 : decode b_M_nextOf 24 = .ok (.if_icmp .ne (21), 3) := by decide +kernel
theorem d_M_nextOf_27 : decode b_M_nextOf 27 = .ok (.aload_n 0, 1) := by decide +kernel
theorem d_M_nextOf_28 : decode b_M_nextOf 28 = .ok (.getfield 22, 3) := by decide +kernel
theorem d_M_nextOf_31 : decode b_M_nextOf 31 = .ok (.iload_n 3, 1) := by decide +kernel
theorem d_M_nextOf_32 : decode b_M_nextOf 32 = .ok (.iaload, 1) := by decide +kernel
theorem d_M_nextOf_33 : decode b_M_nextOf 33 = .ok (.aload_n 0, 1) := by decide +kernel
theorem d_M_nextOf_34 : decode b_M_nextOf 34 = .ok (.getfield 22, 3) := by decide +kernel
theorem d_M_nextOf_37 : decode b_M_nextOf 37 = .ok (.iload_n 1, 1) := by decide +kernel
theorem d_M_nextOf_38 : decode b_M_nextOf 38 = .ok (.iaload, 1) := by decide +kernel
theorem d_M_nextOf_39 : decode b_M_nextOf 39 = .ok (.if_icmp .ne (6), 3) := by decide +kernel
theorem d_M_nextOf_42 : decode b_M_nextOf 42 = .ok (.goto (153), 3) := by decide +kernel
theorem d_M_nextOf_45 : decode b_M_nextOf 45 = .ok (.iload_n 2, 1) := by decide +kernel
theorem d_M_nextOf_46 : decode b_M_nextOf 46 = .ok (.ifCond .ge (8), 3) := by decide +kernel
theorem d_M_nextOf_49 : decode b_M_nextOf 49 = .ok (.iload_n 3, 1) := by decide +kernel
theorem d_M_nextOf_50 : decode b_M_nextOf 50 = .ok (.istore_n 2, 1) := by decide +kernel
theorem d_M_nextOf_51 : decode b_M_nextOf 51 = .ok (.goto (144), 3) := by decide +kernel
theorem d_M_nextOf_54 : decode b_M_nextOf 54 = .ok (.aload_n 0, 1) := by decide +kernel
theorem d_M_nextOf_55 : decode b_M_nextOf 55 = .ok (.getfield 19, 3) := by decide +kernel
theorem d_M_nextOf_58 : decode b_M_nextOf 58 = .ok (.iload_n 1, 1) := by decide +kernel
theorem d_M_nextOf_59 : decode b_M_nextOf 59 = .ok (.iaload, 1) := by decide +kernel
theorem d_M_nextOf_60 : decode b_M_nextOf 60 = .ok (.i2l, 1) := by decide +kernel
theorem d_M_nextOf_61 : decode b_M_nextOf 61 = .ok (.aload_n 0, 1) := by decide +kernel
theorem d_M_nextOf_62 : decode b_M_nextOf 62 = .ok (.getfield 22, 3) := by decide +kernel
theorem d_M_nextOf_65 : decode b_M_nextOf 65 = .ok (.iload_n 1, 1) := by decide +kernel
theorem d_M_nextOf_66 : decode b_M_nextOf 66 = .ok (.iaload, 1) := by decide +kernel
theorem d_M_nextOf_67 : decode b_M_nextOf 67 = .ok (.i2l, 1) := by decide +kernel
theorem d_M_nextOf_68 : decode b_M_nextOf 68 = .ok (.aload_n 0, 1) := by decide +kernel
theorem d_M_nextOf_69 : decode b_M_nextOf 69 = .ok (.getfield 19, 3) := by decide +kernel
theorem d_M_nextOf_72 : decode b_M_nextOf 72 = .ok (.iload_n 2, 1) := by decide +kernel
theorem d_M_nextOf_73 : decode b_M_nextOf 73 = .ok (.iaload, 1) := by decide +kernel
theorem d_M_nextOf_74 : decode b_M_nextOf 74 = .ok (.i2l, 1) := by decide +kernel
theorem d_M_nextOf_75 : decode b_M_nextOf 75 = .ok (.aload_n 0, 1) := by decide +kernel
theorem d_M_nextOf_76 : decode b_M_nextOf 76 = .ok (.getfield 22, 3) := by decide +kernel
theorem d_M_nextOf_79 : decode b_M_nextOf 79 = .ok (.iload_n 2, 1) := by decide +kernel
theorem d_M_nextOf_80 : decode b_M_nextOf 80 = .ok (.iaload, 1) := by decide +kernel
theorem d_M_nextOf_81 : decode b_M_nextOf 81 = .ok (.i2l, 1) := by decide +kernel
theorem d_M_nextOf_82 : decode b_M_nextOf 82 = .ok (.aload_n 0, 1) := by decide +kernel
theorem d_M_nextOf_83 : decode b_M_nextOf 83 = .ok (.getfield 19, 3) := by decide +kernel
theorem d_M_nextOf_86 : decode b_M_nextOf 86 = .ok (.iload_n 3, 1) := by decide +kernel
theorem d_M_nextOf_87 : decode b_M_nextOf 87 = .ok (.iaload, 1) := by decide +kernel
theorem d_M_nextOf_88 : decode b_M_nextOf 88 = .ok (.i2l, 1) := by decide +kernel
theorem d_M_nextOf_89 : decode b_M_nextOf 89 = .ok (.aload_n 0, 1) := by decide +kernel
theorem d_M_nextOf_90 : decode b_M_nextOf 90 = .ok (.getfield 22, 3) := by decide +kernel
theorem d_M_nextOf_93 : decode b_M_nextOf 93 = .ok (.iload_n 3, 1) := by decide +kernel
theorem d_M_nextOf_94 : decode b_M_nextOf 94 = .ok (.iaload, 1) := by decide +kernel
theorem d_M_nextOf_95 : decode b_M_nextOf 95 = .ok (.i2l, 1) := by decide +kernel
theorem d_M_nextOf_96 : decode b_M_nextOf 96 = .ok (.invokestatic 58, 3) := by decide +kernel
theorem d_M_nextOf_99 : decode b_M_nextOf 99 = .ok (.lstore 4, 2) := by decide +kernel
theorem d_M_nextOf_101 : decode b_M_nextOf 101 = .ok (.aload_n 0, 1) := by decide +kernel
theorem d_M_nextOf_102 : decode b_M_nextOf 102 = .ok (.getfield 19, 3) := by decide +kernel
theorem d_M_nextOf_105 : decode b_M_nextOf 105 = .ok (.iload_n 1, 1) := by decide +kernel
theorem d_M_nextOf_106 : decode b_M_nextOf 106 = .ok (.iaload, 1) := by decide +kernel
theorem d_M_nextOf_107 : decode b_M_nextOf 107 = .ok (.i2l, 1) := by decide +kernel
theorem d_M_nextOf_108 : decode b_M_nextOf 108 = .ok (.aload_n 0, 1) := by decide +kernel
theorem d_M_nextOf_109 : decode b_M_nextOf 109 = .ok (.getfield 22, 3) := by decide +kernel
theorem d_M_nextOf_112 : decode b_M_nextOf 112 = .ok (.iload_n 1, 1) := by decide +kernel
theorem d_M_nextOf_113 : decode b_M_nextOf 113 = .ok (.iaload, 1) := by decide +kernel
theorem d_M_nextOf_114 : decode b_M_nextOf 114 = .ok (.i2l, 1) := by decide +kernel
theorem d_M_nextOf_115 : decode b_M_nextOf 115 = .ok (.aload_n 0, 1) := by decide +kernel
theorem d_M_nextOf_116 : decode b_M_nextOf 116 = .ok (.getfield 19, 3) := by decide +kernel
theorem d_M_nextOf_119 : decode b_M_nextOf 119 = .ok (.iload_n 3, 1) := by decide +kernel
theorem d_M_nextOf_120 : decode b_M_nextOf 120 = .ok (.iaload, 1) := by decide +kernel
theorem d_M_nextOf_121 : decode b_M_nextOf 121 = .ok (.i2l, 1) := by decide +kernel
theorem d_M_nextOf_122 : decode b_M_nextOf 122 = .ok (.aload_n 0, 1) := by decide +kernel
theorem d_M_nextOf_123 : decode b_M_nextOf 123 = .ok (.getfield 22, 3) := by decide +kernel
theorem d_M_nextOf_126 : decode b_M_nextOf 126 = .ok (.iload_n 3, 1) := by decide +kernel
theorem d_M_nextOf_127 : decode b_M_nextOf 127 = .ok (.iaload, 1) := by decide +kernel
theorem d_M_nextOf_128 : decode b_M_nextOf 128 = .ok (.i2l, 1) := by decide +kernel
theorem d_M_nextOf_129 : decode b_M_nextOf 129 = .ok (.invokestatic 62, 3) := by decide +kernel
theorem d_M_nextOf_132 : decode b_M_nextOf 132 = .ok (.aload_n 0, 1) := by decide +kernel
theorem d_M_nextOf_133 : decode b_M_nextOf 133 = .ok (.getfield 19, 3) := by decide +kernel
theorem d_M_nextOf_136 : decode b_M_nextOf 136 = .ok (.iload_n 1, 1) := by decide +kernel
theorem d_M_nextOf_137 : decode b_M_nextOf 137 = .ok (.iaload, 1) := by decide +kernel
theorem d_M_nextOf_138 : decode b_M_nextOf 138 = .ok (.i2l, 1) := by decide +kernel
theorem d_M_nextOf_139 : decode b_M_nextOf 139 = .ok (.aload_n 0, 1) := by decide +kernel
theorem d_M_nextOf_140 : decode b_M_nextOf 140 = .ok (.getfield 22, 3) := by decide +kernel
theorem d_M_nextOf_143 : decode b_M_nextOf 143 = .ok (.iload_n 1, 1) := by decide +kernel
theorem d_M_nextOf_144 : decode b_M_nextOf 144 = .ok (.iaload, 1) := by decide +kernel
theorem d_M_nextOf_145 : decode b_M_nextOf 145 = .ok (.i2l, 1) := by decide +kernel
theorem d_M_nextOf_146 : decode b_M_nextOf 146 = .ok (.aload_n 0, 1) := by decide +kernel
theorem d_M_nextOf_147 : decode b_M_nextOf 147 = .ok (.getfield 19, 3) := by decide +kernel
theorem d_M_nextOf_150 : decode b_M_nextOf 150 = .ok (.iload_n 2, 1) := by decide +kernel
theorem d_M_nextOf_151 : decode b_M_nextOf 151 = .ok (.iaload, 1) := by decide +kernel
theorem d_M_nextOf_152 : decode b_M_nextOf 152 = .ok (.i2l, 1) := by decide +kernel
theorem d_M_nextOf_153 : decode b_M_nextOf 153 = .ok (.aload_n 0, 1) := by decide +kernel
theorem d_M_nextOf_154 : decode b_M_nextOf 154 = .ok (.getfield 22, 3) := by decide +kernel
theorem d_M_nextOf_157 : decode b_M_nextOf 157 = .ok (.iload_n 2, 1) := by decide +kernel
theorem d_M_nextOf_158 : decode b_M_nextOf 158 = .ok (.iaload, 1) := by decide +kernel
theorem d_M_nextOf_159 : decode b_M_nextOf 159 = .ok (.i2l, 1) := by decide +kernel
theorem d_M_nextOf_160 : decode b_M_nextOf 160 = .ok (.invokestatic 62, 3) := by decide +kernel
theorem d_M_nextOf_163 : decode b_M_nextOf 163 = .ok (.lcmp, 1) := by decide +kernel
theorem d_M_nextOf_164 : decode b_M_nextOf 164 = .ok (.ifCond .le (7), 3) := by decide +kernel
theorem d_M_nextOf_167 : decode b_M_nextOf 167 = .ok (.iconst 1, 1) := by decide +kernel
theorem d_M_nextOf_168 : decode b_M_nextOf 168 = .ok (.goto (4), 3) := by decide +kernel
theorem d_M_nextOf_171 : decode b_M_nextOf 171 = .ok (.iconst 0, 1) := by decide +kernel
theorem d_M_nextOf_172 : decode b_M_nextOf 172 = .ok (.istore 6, 2) := by decide +kernel
theorem d_M_nextOf_174 : decode b_M_nextOf 174 = .ok (.lload 4, 2) := by decide +kernel
theorem d_M_nextOf_176 : decode b_M_nextOf 176 = .ok (.lconst 0, 1) := by decide +kernel
theorem d_M_nextOf_177 : decode b_M_nextOf 177 = .ok (.lcmp, 1) := by decide +kernel
theorem d_M_nextOf_178 : decode b_M_nextOf 178 = .ok (.ifCond .lt (15), 3) := by decide +kernel
theorem d_M_nextOf_181 : decode b_M_nextOf 181 = .ok (.lload 4, 2) := by decide +kernel
theorem d_M_nextOf_183 : decode b_M_nextOf 183 = .ok (.lconst 0, 1) := by decide +kernel
theorem d_M_nextOf_184 : decode b_M_nextOf 184 = .ok (.lcmp, 1) := by decide +kernel
theorem d_M_nextOf_185 : decode b_M_nextOf 185 = .ok (.ifCond .ne (10), 3) := by decide +kernel
theorem d_M_nextOf_188 : decode b_M_nextOf 188 = .ok (.iload 6, 2) := by decide +kernel
theorem d_M_nextOf_190 : decode b_M_nextOf 190 = .ok (.ifCond .eq (5), 3) := by decide +kernel
theorem d_M_nextOf_193 : decode b_M_nextOf 193 = .ok (.iload_n 3, 1) := by decide +kernel
theorem d_M_nextOf_194 : decode b_M_nextOf 194 = .ok (.istore_n 2, 1) := by decide +kernel
theorem d_M_nextOf_195 : decode b_M_nextOf 195 = .ok (.iinc 3 (1), 3) := by decide +kernel
theorem d_M_nextOf_198 : decode b_M_nextOf 198 = .ok (.goto (-194), 3) := by decide +kernel
theorem d_M_nextOf_201 : decode b_M_nextOf 201 = .ok (.iload_n 2, 1) := by decide +kernel
theorem d_M_nextOf_202 : decode b_M_nextOf 202 = .ok (.ireturn, 1) := by decide +kernel
theorem d_M_after_0 : decode b_M_after 0 = .ok (.iload_n 1, 1) := by decide +kernel
theorem d_M_after_1 : decode b_M_after 1 = .ok (.iconst 1, 1) := by decide +kernel
theorem d_M_after_2 : decode b_M_after 2 = .ok (.iadd, 1) := by decide +kernel
theorem d_M_after_3 : decode b_M_after 3 = .ok (.aload_n 0, 1) := by decide +kernel
theorem d_M_after_4 : decode b_M_after 4 = .ok (.getfield 51, 3) := by decide +kernel
theorem d_M_after_7 : decode b_M_after 7 = .ok (.if_icmp .ge (9), 3) := by decide +kernel
theorem d_M_after_10 : decode b_M_after 10 = .ok (.iload_n 1, 1) := by decide +kernel
theorem d_M_after_11 : decode b_M_after 11 = .ok (.iconst 1, 1) := by decide +kernel
theorem d_M_after_12 : decode b_M_after 12 = .ok (.iadd, 1) := by decide +kernel
theorem d_M_after_13 : decode b_M_after 13 = .ok (.goto (4), 3) := by decide +kernel
theorem d_M_after_16 : decode b_M_after 16 = .ok (.iconst 0, 1) := by decide +kernel
theorem d_M_after_17 : decode b_M_after 17 = .ok (.ireturn, 1) := by decide +kernel
theorem d_M_areaOf_0 : decode b_M_areaOf 0 = .ok (.lconst 0, 1) := by decide +kernel
theorem d_M_areaOf_1 : decode b_M_areaOf 1 = .ok (.lstore_n 1, 1) := by decide +kernel
theorem d_M_areaOf_2 : decode b_M_areaOf 2 = .ok (.iconst 0, 1) := by decide +kernel
theorem d_M_areaOf_3 : decode b_M_areaOf 3 = .ok (.istore_n 3, 1) := by decide +kernel
theorem d_M_areaOf_4 : decode b_M_areaOf 4 = .ok (.iload_n 3, 1) := by decide +kernel
theorem d_M_areaOf_5 : decode b_M_areaOf 5 = .ok (.aload_n 0, 1) := by decide +kernel
theorem d_M_areaOf_6 : decode b_M_areaOf 6 = .ok (.getfield 51, 3) := by decide +kernel
theorem d_M_areaOf_9 : decode b_M_areaOf 9 = .ok (.if_icmp .ge (65), 3) := by decide +kernel
theorem d_M_areaOf_12 : decode b_M_areaOf 12 = .ok (.lload_n 1, 1) := by decide +kernel
theorem d_M_areaOf_13 : decode b_M_areaOf 13 = .ok (.aload_n 0, 1) := by decide +kernel
theorem d_M_areaOf_14 : decode b_M_areaOf 14 = .ok (.getfield 25, 3) := by decide +kernel
theorem d_M_areaOf_17 : decode b_M_areaOf 17 = .ok (.iconst 0, 1) := by decide +kernel
theorem d_M_areaOf_18 : decode b_M_areaOf 18 = .ok (.iaload, 1) := by decide +kernel
theorem d_M_areaOf_19 : decode b_M_areaOf 19 = .ok (.i2l, 1) := by decide +kernel
theorem d_M_areaOf_20 : decode b_M_areaOf 20 = .ok (.aload_n 0, 1) := by decide +kernel
theorem d_M_areaOf_21 : decode b_M_areaOf 21 = .ok (.getfield 28, 3) := by decide +kernel
theorem d_M_areaOf_24 : decode b_M_areaOf 24 = .ok (.iconst 0, 1) := by decide +kernel
theorem d_M_areaOf_25 : decode b_M_areaOf 25 = .ok (.iaload, 1) := by decide +kernel
theorem d_M_areaOf_26 : decode b_M_areaOf 26 = .ok (.i2l, 1) := by decide +kernel
theorem d_M_areaOf_27 : decode b_M_areaOf 27 = .ok (.aload_n 0, 1) := by decide +kernel
theorem d_M_areaOf_28 : decode b_M_areaOf 28 = .ok (.getfield 25, 3) := by decide +kernel
theorem d_M_areaOf_31 : decode b_M_areaOf 31 = .ok (.iload_n 3, 1) := by decide +kernel
theorem d_M_areaOf_32 : decode b_M_areaOf 32 = .ok (.iaload, 1) := by decide +kernel
theorem d_M_areaOf_33 : decode b_M_areaOf 33 = .ok (.i2l, 1) := by decide +kernel
theorem d_M_areaOf_34 : decode b_M_areaOf 34 = .ok (.aload_n 0, 1) := by decide +kernel
theorem d_M_areaOf_35 : decode b_M_areaOf 35 = .ok (.getfield 28, 3) := by decide +kernel
theorem d_M_areaOf_38 : decode b_M_areaOf 38 = .ok (.iload_n 3, 1) := by decide +kernel
theorem d_M_areaOf_39 : decode b_M_areaOf 39 = .ok (.iaload, 1) := by decide +kernel
theorem d_M_areaOf_40 : decode b_M_areaOf 40 = .ok (.i2l, 1) := by decide +kernel
theorem d_M_areaOf_41 : decode b_M_areaOf 41 = .ok (.aload_n 0, 1) := by decide +kernel
theorem d_M_areaOf_42 : decode b_M_areaOf 42 = .ok (.getfield 25, 3) := by decide +kernel
theorem d_M_areaOf_45 : decode b_M_areaOf 45 = .ok (.aload_n 0, 1) := by decide +kernel
theorem d_M_areaOf_46 : decode b_M_areaOf 46 = .ok (.iload_n 3, 1) := by decide +kernel
theorem d_M_areaOf_47 : decode b_M_areaOf 47 = .ok (.invokevirtual 66, 3) := by decide +kernel
theorem d_M_areaOf_50 : decode b_M_areaOf 50 = .ok (.iaload, 1) := by decide +kernel
theorem d_M_areaOf_51 : decode b_M_areaOf 51 = .ok (.i2l, 1) := by decide +kernel
theorem d_M_areaOf_52 : decode b_M_areaOf 52 = .ok (.aload_n 0, 1) := by decide +kernel
theorem d_M_areaOf_53 : decode b_M_areaOf 53 = .ok (.getfield 28, 3) := by decide +kernel
theorem d_M_areaOf_56 : decode b_M_areaOf 56 = .ok (.aload_n 0, 1) := by decide +kernel
theorem d_M_areaOf_57 : decode b_M_areaOf 57 = .ok (.iload_n 3, 1) := by decide +kernel
theorem d_M_areaOf_58 : decode b_M_areaOf 58 = .ok (.invokevirtual 66, 3) := by decide +kernel
theorem d_M_areaOf_61 : decode b_M_areaOf 61 = .ok (.iaload, 1) := by decide +kernel
theorem d_M_areaOf_62 : decode b_M_areaOf 62 = .ok (.i2l, 1) := by decide +kernel
theorem d_M_areaOf_63 : decode b_M_areaOf 63 = .ok (.invokestatic 58, 3) := by decide +kernel
theorem d_M_areaOf_66 : decode b_M_areaOf 66 = .ok (.ladd, 1) := by decide +kernel
theorem d_M_areaOf_67 : decode b_M_areaOf 67 = .ok (.lstore_n 1, 1) := by decide +kernel
theorem d_M_areaOf_68 : decode b_M_areaOf 68 = .ok (.iinc 3 (1), 3) := by decide +kernel
theorem d_M_areaOf_71 : decode b_M_areaOf 71 = .ok (.goto (-67), 3) := by decide +kernel
theorem d_M_areaOf_74 : decode b_M_areaOf 74 = .ok (.lload_n 1, 1) := by decide +kernel
theorem d_M_areaOf_75 : decode b_M_areaOf 75 = .ok (.lreturn, 1) := by decide +kernel
theorem d_M_isOn_0 : decode b_M_isOn 0 = .ok (.aload_n 0, 1) := by decide +kernel
theorem d_M_isOn_1 : decode b_M_isOn 1 = .ok (.iload_n 1, 1) := by decide +kernel
theorem d_M_isOn_2 : decode b_M_isOn 2 = .ok (.invokevirtual 66, 3) := by decide +kernel
theorem d_M_isOn_5 : decode b_M_isOn 5 = .ok (.istore 6, 2) := by decide +kernel
theorem d_M_isOn_7 : decode b_M_isOn 7 = .ok (.lload_n 2, 1) := by decide +kernel
theorem d_M_isOn_8 : decode b_M_isOn 8 = .ok (.aload_n 0, 1) := by decide +kernel
theorem d_M_isOn_9 : decode b_M_isOn 9 = .ok (.getfield 25, 3) := by decide +kernel
theorem d_M_isOn_12 : decode b_M_isOn 12 = .ok (.iload_n 1, 1) := by decide +kernel
theorem d_M_isOn_13 : decode b_M_isOn 13 = .ok (.iaload, 1) := by decide +kernel
theorem d_M_isOn_14 : decode b_M_isOn 14 = .ok (.aload_n 0, 1) := by decide +kernel
theorem d_M_isOn_15 : decode b_M_isOn 15 = .ok (.getfield 25, 3) := by decide +kernel
theorem d_M_isOn_18 : decode b_M_isOn 18 = .ok (.iload 6, 2) := by decide +kernel
theorem d_M_isOn_20 : decode b_M_isOn 20 = .ok (.iaload, 1) := by decide +kernel
theorem d_M_isOn_21 : decode b_M_isOn 21 = .ok (.if_icmp .ge (12), 3) := by decide +kernel
theorem d_M_isOn_24 : decode b_M_isOn 24 = .ok (.aload_n 0, 1) := by decide +kernel
theorem d_M_isOn_25 : decode b_M_isOn 25 = .ok (.getfield 25, 3) := by decide +kernel
theorem d_M_isOn_28 : decode b_M_isOn 28 = .ok (.iload_n 1, 1) := by decide +kernel
theorem d_M_isOn_29 : decode b_M_isOn 29 = .ok (.iaload, 1) := by decide +kernel
theorem d_M_isOn_30 : decode b_M_isOn 30 = .ok (.goto (10), 3) := by decide +kernel
theorem d_M_isOn_33 : decode b_M_isOn 33 = .ok (.aload_n 0, 1) := by decide +kernel
theorem d_M_isOn_34 : decode b_M_isOn 34 = .ok (.getfield 25, 3) := by decide +kernel
theorem d_M_isOn_37 : decode b_M_isOn 37 = .ok (.iload 6, 2) := by decide +kernel
theorem d_M_isOn_39 : decode b_M_isOn 39 = .ok (.iaload, 1) := by decide +kernel
theorem d_M_isOn_40 : decode b_M_isOn 40 = .ok (.i2l, 1) := by decide +kernel
theorem d_M_isOn_41 : decode b_M_isOn 41 = .ok (.lcmp, 1) := by decide +kernel
theorem d_M_isOn_42 : decode b_M_isOn 42 = .ok (.ifCond .lt (123), 3) := by decide +kernel
theorem d_M_isOn_45 : decode b_M_isOn 45 = .ok (.lload_n 2, 1) := by decide +kernel
theorem d_M_isOn_46 : decode b_M_isOn 46 = .ok (.aload_n 0, 1) := by decide +kernel
theorem d_M_isOn_47 : decode b_M_isOn 47 = .ok (.getfield 25, 3) := by decide +kernel
theorem d_M_isOn_50 : decode b_M_isOn 50 = .ok (.iload_n 1, 1) := by decide +kernel
theorem d_M_isOn_51 : decode b_M_isOn 51 = .ok (.iaload, 1) := by decide +kernel
theorem d_M_isOn_52 : decode b_M_isOn 52 = .ok (.aload_n 0, 1) := by decide +kernel
theorem d_M_isOn_53 : decode b_M_isOn 53 = .ok (.getfield 25, 3) := by decide +kernel
theorem d_M_isOn_56 : decode b_M_isOn 56 = .ok (.iload 6, 2) := by decide +kernel
theorem d_M_isOn_58 : decode b_M_isOn 58 = .ok (.iaload, 1) := by decide +kernel
theorem d_M_isOn_59 : decode b_M_isOn 59 = .ok (.if_icmp .le (12), 3) := by decide +kernel
theorem d_M_isOn_62 : decode b_M_isOn 62 = .ok (.aload_n 0, 1) := by decide +kernel
theorem d_M_isOn_63 : decode b_M_isOn 63 = .ok (.getfield 25, 3) := by decide +kernel
theorem d_M_isOn_66 : decode b_M_isOn 66 = .ok (.iload_n 1, 1) := by decide +kernel
theorem d_M_isOn_67 : decode b_M_isOn 67 = .ok (.iaload, 1) := by decide +kernel
theorem d_M_isOn_68 : decode b_M_isOn 68 = .ok (.goto (10), 3) := by decide +kernel
theorem d_M_isOn_71 : decode b_M_isOn 71 = .ok (.aload_n 0, 1) := by decide +kernel
theorem d_M_isOn_72 : decode b_M_isOn 72 = .ok (.getfield 25, 3) := by decide +kernel
theorem d_M_isOn_75 : decode b_M_isOn 75 = .ok (.iload 6, 2) := by decide +kernel
theorem d_M_isOn_77 : decode b_M_isOn 77 = .ok (.iaload, 1) := by decide +kernel
theorem d_M_isOn_78 : decode b_M_isOn 78 = .ok (.i2l, 1) := by decide +kernel
theorem d_M_isOn_79 : decode b_M_isOn 79 = .ok (.lcmp, 1) := by decide +kernel
theorem d_M_isOn_80 : decode b_M_isOn 80 = .ok (.ifCond .gt (85), 3) := by decide +kernel
theorem d_M_isOn_83 : decode b_M_isOn 83 = .ok (.lload 4, 2) := by decide +kernel
theorem d_M_isOn_85 : decode b_M_isOn 85 = .ok (.aload_n 0, 1) := by decide +kernel
theorem d_M_isOn_86 : decode b_M_isOn 86 = .ok (.getfield 28, 3) := by decide +kernel
theorem d_M_isOn_89 : decode b_M_isOn 89 = .ok (.iload_n 1, 1) := by decide +kernel
theorem d_M_isOn_90 : decode b_M_isOn 90 = .ok (.iaload, 1) := by decide +kernel
theorem d_M_isOn_91 : decode b_M_isOn 91 = .ok (.aload_n 0, 1) := by decide +kernel
theorem d_M_isOn_92 : decode b_M_isOn 92 = .ok (.getfield 28, 3) := by decide +kernel
theorem d_M_isOn_95 : decode b_M_isOn 95 = .ok (.iload 6, 2) := by decide +kernel
theorem d_M_isOn_97 : decode b_M_isOn 97 = .ok (.iaload, 1) := by decide +kernel
theorem d_M_isOn_98 : decode b_M_isOn 98 = .ok (.if_icmp .ge (12), 3) := by decide +kernel
theorem d_M_isOn_101 : decode b_M_isOn 101 = .ok (.aload_n 0, 1) := by decide +kernel
theorem d_M_isOn_102 : decode b_M_isOn 102 = .ok (.getfield 28, 3) := by decide +kernel
theorem d_M_isOn_105 : decode b_M_isOn 105 = .ok (.iload_n 1, 1) := by decide +kernel
theorem d_M_isOn_106 : decode b_M_isOn 106 = .ok (.iaload, 1) := by decide +kernel
theorem d_M_isOn_107 : decode b_M_isOn 107 = .ok (.goto (10), 3) := by decide +kernel
theorem d_M_isOn_110 : decode b_M_isOn 110 = .ok (.aload_n 0, 1) := by decide +kernel
theorem d_M_isOn_111 : decode b_M_isOn 111 = .ok (.getfield 28, 3) := by decide +kernel
theorem d_M_isOn_114 : decode b_M_isOn 114 = .ok (.iload 6, 2) := by decide +kernel
theorem d_M_isOn_116 : decode b_M_isOn 116 = .ok (.iaload, 1) := by decide +kernel
theorem d_M_isOn_117 : decode b_M_isOn 117 = .ok (.i2l, 1) := by decide +kernel
theorem d_M_isOn_118 : decode b_M_isOn 118 = .ok (.lcmp, 1) := by decide +kernel
theorem d_M_isOn_119 : decode b_M_isOn 119 = .ok (.ifCond .lt (46), 3) := by decide +kernel
theorem d_M_isOn_122 : decode b_M_isOn 122 = .ok (.lload 4, 2) := by decide +kernel
theorem d_M_isOn_124 : decode b_M_isOn 124 = .ok (.aload_n 0, 1) := by decide +kernel
theorem d_M_isOn_125 : decode b_M_isOn 125 = .ok (.getfield 28, 3) := by decide +kernel
theorem d_M_isOn_128 : decode b_M_isOn 128 = .ok (.iload_n 1, 1) := by decide +kernel
theorem d_M_isOn_129 : decode b_M_isOn 129 = .ok (.iaload, 1) := by decide +kernel
theorem d_M_isOn_130 : decode b_M_isOn 130 = .ok (.aload_n 0, 1) := by decide +kernel
theorem d_M_isOn_131 : decode b_M_isOn 131 = .ok (.getfield 28, 3) := by decide +kernel
theorem d_M_isOn_134 : decode b_M_isOn 134 = .ok (.iload 6, 2) := by decide +kernel
theorem d_M_isOn_136 : decode b_M_isOn 136 = .ok (.iaload, 1) := by decide +kernel
theorem d_M_isOn_137 : decode b_M_isOn 137 = .ok (.if_icmp .le (12), 3) := by decide +kernel
theorem d_M_isOn_140 : decode b_M_isOn 140 = .ok (.aload_n 0, 1) := by decide +kernel
theorem d_M_isOn_141 : decode b_M_isOn 141 = .ok (.getfield 28, 3) := by decide +kernel
theorem d_M_isOn_144 : decode b_M_isOn 144 = .ok (.iload_n 1, 1) := by decide +kernel
theorem d_M_isOn_145 : decode b_M_isOn 145 = .ok (.iaload, 1) := by decide +kernel
theorem d_M_isOn_146 : decode b_M_isOn 146 = .ok (.goto (10), 3) := by decide +kernel
theorem d_M_isOn_149 : decode b_M_isOn 149 = .ok (.aload_n 0, 1) := by decide +kernel
theorem d_M_isOn_150 : decode b_M_isOn 150 = .ok (.getfield 28, 3) := by decide +kernel
theorem d_M_isOn_153 : decode b_M_isOn 153 = .ok (.iload 6, 2) := by decide +kernel
theorem d_M_isOn_155 : decode b_M_isOn 155 = .ok (.iaload, 1) := by decide +kernel
theorem d_M_isOn_156 : decode b_M_isOn 156 = .ok (.i2l, 1) := by decide +kernel
theorem d_M_isOn_157 : decode b_M_isOn 157 = .ok (.lcmp, 1) := by decide +kernel
theorem d_M_isOn_158 : decode b_M_isOn 158 = .ok (.ifCond .gt (7), 3) := by decide +kernel
theorem d_M_isOn_161 : decode b_M_isOn 161 = .ok (.iconst 1, 1) := by decide +kernel
theorem d_M_isOn_162 : decode b_M_isOn 162 = .ok (.goto (4), 3) := by decide +kernel
theorem d_M_isOn_165 : decode b_M_isOn 165 = .ok (.iconst 0, 1) := by decide +kernel
theorem d_M_isOn_166 : decode b_M_isOn 166 = .ok (.istore 7, 2) := by decide +kernel
theorem d_M_isOn_168 : decode b_M_isOn 168 = .ok (.iload 7, 2) := by decide +kernel
theorem d_M_isOn_170 : decode b_M_isOn 170 = .ok (.ifCond .eq (48), 3) := by decide +kernel
theorem d_M_isOn_173 : decode b_M_isOn 173 = .ok (.aload_n 0, 1) := by decide +kernel
theorem d_M_isOn_174 : decode b_M_isOn 174 = .ok (.getfield 25, 3) := by decide +kernel
theorem d_M_isOn_177 : decode b_M_isOn 177 = .ok (.iload_n 1, 1) := by decide +kernel
theorem d_M_isOn_178 : decode b_M_isOn 178 = .ok (.iaload, 1) := by decide +kernel
theorem d_M_isOn_179 : decode b_M_isOn 179 = .ok (.i2l, 1) := by decide +kernel
theorem d_M_isOn_180 : decode b_M_isOn 180 = .ok (.aload_n 0, 1) := by decide +kernel
theorem d_M_isOn_181 : decode b_M_isOn 181 = .ok (.getfield 28, 3) := by decide +kernel
theorem d_M_isOn_184 : decode b_M_isOn 184 = .ok (.iload_n 1, 1) := by decide +kernel
theorem d_M_isOn_185 : decode b_M_isOn 185 = .ok (.iaload, 1) := by decide +kernel
theorem d_M_isOn_186 : decode b_M_isOn 186 = .ok (.i2l, 1) := by decide +kernel
theorem d_M_isOn_187 : decode b_M_isOn 187 = .ok (.aload_n 0, 1) := by decide +kernel
theorem d_M_isOn_188 : decode b_M_isOn 188 = .ok (.getfield 25, 3) := by decide +kernel
theorem d_M_isOn_191 : decode b_M_isOn 191 = .ok (.iload 6, 2) := by decide +kernel
theorem d_M_isOn_193 : decode b_M_isOn 193 = .ok (.iaload, 1) := by decide +kernel
theorem d_M_isOn_194 : decode b_M_isOn 194 = .ok (.i2l, 1) := by decide +kernel
theorem d_M_isOn_195 : decode b_M_isOn 195 = .ok (.aload_n 0, 1) := by decide +kernel
theorem d_M_isOn_196 : decode b_M_isOn 196 = .ok (.getfield 28, 3) := by decide +kernel
theorem d_M_isOn_199 : decode b_M_isOn 199 = .ok (.iload 6, 2) := by decide +kernel
theorem d_M_isOn_201 : decode b_M_isOn 201 = .ok (.iaload, 1) := by decide +kernel
theorem d_M_isOn_202 : decode b_M_isOn 202 = .ok (.i2l, 1) := by decide +kernel
theorem d_M_isOn_203 : decode b_M_isOn 203 = .ok (.lload_n 2, 1) := by decide +kernel
theorem d_M_isOn_204 : decode b_M_isOn 204 = .ok (.lload 4, 2) := by decide +kernel
theorem d_M_isOn_206 : decode b_M_isOn 206 = .ok (.invokestatic 58, 3) := by decide +kernel
theorem d_M_isOn_209 : decode b_M_isOn 209 = .ok (.lconst 0, 1) := by decide +kernel
theorem d_M_isOn_210 : decode b_M_isOn 210 = .ok (.lcmp, 1) := by decide +kernel
theorem d_M_isOn_211 : decode b_M_isOn 211 = .ok (.ifCond .ne (7), 3) := by decide +kernel
theorem d_M_isOn_214 : decode b_M_isOn 214 = .ok (.iconst 1, 1) := by decide +kernel
theorem d_M_isOn_215 : decode b_M_isOn 215 = .ok (.goto (4), 3) := by decide +kernel
theorem d_M_isOn_218 : decode b_M_isOn 218 = .ok (.iconst 0, 1) := by decide +kernel
theorem d_M_isOn_219 : decode b_M_isOn 219 = .ok (.ireturn, 1) := by decide +kernel
theorem d_M_placeOf_0 : decode b_M_placeOf 0 = .ok (.aload_n 0, 1) := by decide +kernel
theorem d_M_placeOf_1 : decode b_M_placeOf 1 = .ok (.getfield 51, 3) := by decide +kernel
theorem d_M_placeOf_4 : decode b_M_placeOf 4 = .ok (.iconst 2, 1) := by decide +kernel
theorem d_M_placeOf_5 : decode b_M_placeOf 5 = .ok (.if_icmp .le (7), 3) := by decide +kernel
theorem d_M_placeOf_8 : decode b_M_placeOf 8 = .ok (.iconst 1, 1) := by decide +kernel
theorem d_M_placeOf_9 : decode b_M_placeOf 9 = .ok (.goto (4), 3) := by decide +kernel
theorem d_M_placeOf_12 : decode b_M_placeOf 12 = .ok (.iconst 0, 1) := by decide +kernel
theorem d_M_placeOf_13 : decode b_M_placeOf 13 = .ok (.istore 5, 2) := by decide +kernel
theorem d_M_placeOf_15 : decode b_M_placeOf 15 = .ok (.iconst 0, 1) := by decide +kernel
theorem d_M_placeOf_16 : decode b_M_placeOf 16 = .ok (.istore 6, 2) := by decide +kernel
theorem d_M_placeOf_18 : decode b_M_placeOf 18 = .ok (.iload 6, 2) := by decide +kernel
theorem d_M_placeOf_20 : decode b_M_placeOf 20 = .ok (.aload_n 0, 1) := by decide +kernel
theorem d_M_placeOf_21 : decode b_M_placeOf 21 = .ok (.getfield 51, 3) := by decide +kernel
theorem d_M_placeOf_24 : decode b_M_placeOf 24 = .ok (.if_icmp .ge (84), 3) := by decide +kernel
theorem d_M_placeOf_27 : decode b_M_placeOf 27 = .ok (.aload_n 0, 1) := by decide +kernel
theorem d_M_placeOf_28 : decode b_M_placeOf 28 = .ok (.iload 6, 2) := by decide +kernel
theorem d_M_placeOf_30 : decode b_M_placeOf 30 = .ok (.lload_n 1, 1) := by decide +kernel
theorem d_M_placeOf_31 : decode b_M_placeOf 31 = .ok (.lload_n 3, 1) := by decide +kernel
theorem d_M_placeOf_32 : decode b_M_placeOf 32 = .ok (.invokevirtual 69, 3) := by decide +kernel
theorem d_M_placeOf_35 : decode b_M_placeOf 35 = .ok (.ifCond .eq (5), 3) := by decide +kernel
theorem d_M_placeOf_38 : decode b_M_placeOf 38 = .ok (.iconst 1, 1) := by decide +kernel
theorem d_M_placeOf_39 : decode b_M_placeOf 39 = .ok (.ireturn, 1) := by decide +kernel
theorem d_M_placeOf_40 : decode b_M_placeOf 40 = .ok (.iload 5, 2) := by decide +kernel
theorem d_M_placeOf_42 : decode b_M_placeOf 42 = .ok (.ifCond .eq (57), 3) := by decide +kernel
theorem d_M_placeOf_45 : decode b_M_placeOf 45 = .ok (.aload_n 0, 1) := by decide +kernel
theorem d_M_placeOf_46 : decode b_M_placeOf 46 = .ok (.getfield 25, 3) := by decide +kernel
theorem d_M_placeOf_49 : decode b_M_placeOf 49 = .ok (.iload 6, 2) := by decide +kernel
theorem d_M_placeOf_51 : decode b_M_placeOf 51 = .ok (.iaload, 1) := by decide +kernel
theorem d_M_placeOf_52 : decode b_M_placeOf 52 = .ok (.i2l, 1) := by decide +kernel
theorem d_M_placeOf_53 : decode b_M_placeOf 53 = .ok (.aload_n 0, 1) := by decide +kernel
theorem d_M_placeOf_54 : decode b_M_placeOf 54 = .ok (.getfield 28, 3) := by decide +kernel
theorem d_M_placeOf_57 : decode b_M_placeOf 57 = .ok (.iload 6, 2) := by decide +kernel
theorem d_M_placeOf_59 : decode b_M_placeOf 59 = .ok (.iaload, 1) := by decide +kernel
theorem d_M_placeOf_60 : decode b_M_placeOf 60 = .ok (.i2l, 1) := by decide +kernel
theorem d_M_placeOf_61 : decode b_M_placeOf 61 = .ok (.aload_n 0, 1) := by decide +kernel
theorem d_M_placeOf_62 : decode b_M_placeOf 62 = .ok (.getfield 25, 3) := by decide +kernel
theorem d_M_placeOf_65 : decode b_M_placeOf 65 = .ok (.aload_n 0, 1) := by decide +kernel
theorem d_M_placeOf_66 : decode b_M_placeOf 66 = .ok (.iload 6, 2) := by decide +kernel
theorem d_M_placeOf_68 : decode b_M_placeOf 68 = .ok (.invokevirtual 66, 3) := by decide +kernel
theorem d_M_placeOf_71 : decode b_M_placeOf 71 = .ok (.iaload, 1) := by decide +kernel
theorem d_M_placeOf_72 : decode b_M_placeOf 72 = .ok (.i2l, 1) := by decide +kernel
theorem d_M_placeOf_73 : decode b_M_placeOf 73 = .ok (.aload_n 0, 1) := by decide +kernel
theorem d_M_placeOf_74 : decode b_M_placeOf 74 = .ok (.getfield 28, 3) := by decide +kernel
theorem d_M_placeOf_77 : decode b_M_placeOf 77 = .ok (.aload_n 0, 1) := by decide +kernel
theorem d_M_placeOf_78 : decode b_M_placeOf 78 = .ok (.iload 6, 2) := by decide +kernel
theorem d_M_placeOf_80 : decode b_M_placeOf 80 = .ok (.invokevirtual 66, 3) := by decide +kernel
theorem d_M_placeOf_83 : decode b_M_placeOf 83 = .ok (.iaload, 1) := by decide +kernel
theorem d_M_placeOf_84 : decode b_M_placeOf 84 = .ok (.i2l, 1) := by decide +kernel
theorem d_M_placeOf_85 : decode b_M_placeOf 85 = .ok (.lload_n 1, 1) := by decide +kernel
theorem d_M_placeOf_86 : decode b_M_placeOf 86 = .ok (.lload_n 3, 1) := by decide +kernel
theorem d_M_placeOf_87 : decode b_M_placeOf 87 = .ok (.invokestatic 58, 3) := by decide +kernel
theorem d_M_placeOf_90 : decode b_M_placeOf 90 = .ok (.lconst 0, 1) := by decide +kernel
theorem d_M_placeOf_91 : decode b_M_placeOf 91 = .ok (.lcmp, 1) := by decide +kernel
theorem d_M_placeOf_92 : decode b_M_placeOf 92 = .ok (.ifCond .le (7), 3) := by decide +kernel
theorem d_M_placeOf_95 : decode b_M_placeOf 95 = .ok (.iconst 1, 1) := by decide +kernel
theorem d_M_placeOf_96 : decode b_M_placeOf 96 = .ok (.goto (4), 3) := by decide +kernel
theorem d_M_placeOf_99 : decode b_M_placeOf 99 = .ok (.iconst 0, 1) := by decide +kernel
theorem d_M_placeOf_100 : decode b_M_placeOf 100 = .ok (.istore 5, 2) := by decide +kernel
theorem d_M_placeOf_102 : decode b_M_placeOf 102 = .ok (.iinc 6 (1), 3) := by decide +kernel
theorem d_M_placeOf_105 : decode b_M_placeOf 105 = .ok (.goto (-87), 3) := by decide +kernel
theorem d_M_placeOf_108 : decode b_M_placeOf 108 = .ok (.iload 5, 2) := by decide +kernel
theorem d_M_placeOf_110 : decode b_M_placeOf 110 = .ok (.ifCond .eq (7), 3) := by decide +kernel
theorem d_M_placeOf_113 : decode b_M_placeOf 113 = .ok (.iconst 2, 1) := by decide +kernel
theorem d_M_placeOf_114 : decode b_M_placeOf 114 = .ok (.goto (4), 3) := by decide +kernel
theorem d_M_placeOf_117 : decode b_M_placeOf 117 = .ok (.iconst 0, 1) := by decide +kernel
theorem d_M_placeOf_118 : decode b_M_placeOf 118 = .ok (.ireturn, 1) := by decide +kernel
theorem d_M_common_0 : decode b_M_common 0 = .ok (.lload_n 0, 1) := by decide +kernel
theorem d_M_common_1 : decode b_M_common 1 = .ok (.lconst 0, 1) := by decide +kernel
theorem d_M_common_2 : decode b_M_common 2 = .ok (.lcmp, 1) := by decide +kernel
theorem d_M_common_3 : decode b_M_common 3 = .ok (.ifCond .ge (8), 3) := by decide +kernel
theorem d_M_common_6 : decode b_M_common 6 = .ok (.lload_n 0, 1) := by decide +kernel
theorem d_M_common_7 : decode b_M_common 7 = .ok (.lneg, 1) := by decide +kernel
theorem d_M_common_8 : decode b_M_common 8 = .ok (.goto (4), 3) := by decide +kernel
theorem d_M_common_11 : decode b_M_common 11 = .ok (.lload_n 0, 1) := by decide +kernel
theorem d_M_common_12 : decode b_M_common 12 = .ok (.lstore 4, 2) := by decide +kernel
theorem d_M_common_14 : decode b_M_common 14 = .ok (.lload_n 2, 1) := by decide +kernel
theorem d_M_common_15 : decode b_M_common 15 = .ok (.lconst 0, 1) := by decide +kernel
theorem d_M_common_16 : decode b_M_common 16 = .ok (.lcmp, 1) := by decide +kernel
theorem d_M_common_17 : decode b_M_common 17 = .ok (.ifCond .ge (8), 3) := by decide +kernel
theorem d_M_common_20 : decode b_M_common 20 = .ok (.lload_n 2, 1) := by decide +kernel
theorem d_M_common_21 : decode b_M_common 21 = .ok (.lneg, 1) := by decide +kernel
theorem d_M_common_22 : decode b_M_common 22 = .ok (.goto (4), 3) := by decide +kernel
theorem d_M_common_25 : decode b_M_common 25 = .ok (.lload_n 2, 1) := by decide +kernel
theorem d_M_common_26 : decode b_M_common 26 = .ok (.lstore 6, 2) := by decide +kernel
theorem d_M_common_28 : decode b_M_common 28 = .ok (.lload 6, 2) := by decide +kernel
theorem d_M_common_30 : decode b_M_common 30 = .ok (.lconst 0, 1) := by decide +kernel
theorem d_M_common_31 : decode b_M_common 31 = .ok (.lcmp, 1) := by decide +kernel
theorem d_M_common_32 : decode b_M_common 32 = .ok (.ifCond .eq (21), 3) := by decide +kernel
theorem d_M_common_35 : decode b_M_common 35 = .ok (.lload 4, 2) := by decide +kernel
theorem d_M_common_37 : decode b_M_common 37 = .ok (.lload 6, 2) := by decide +kernel
theorem d_M_common_39 : decode b_M_common 39 = .ok (.lrem, 1) := by decide +kernel
theorem d_M_common_40 : decode b_M_common 40 = .ok (.lstore 8, 2) := by decide +kernel
theorem d_M_common_42 : decode b_M_common 42 = .ok (.lload 6, 2) := by decide +kernel
theorem d_M_common_44 : decode b_M_common 44 = .ok (.lstore 4, 2) := by decide +kernel
theorem d_M_common_46 : decode b_M_common 46 = .ok (.lload 8, 2) := by decide +kernel
theorem d_M_common_48 : decode b_M_common 48 = .ok (.lstore 6, 2) := by decide +kernel
theorem d_M_common_50 : decode b_M_common 50 = .ok (.goto (-22), 3) := by decide +kernel
theorem d_M_common_53 : decode b_M_common 53 = .ok (.lload 4, 2) := by decide +kernel
theorem d_M_common_55 : decode b_M_common 55 = .ok (.lreturn, 1) := by decide +kernel
theorem d_M_tell_0 : decode b_M_tell 0 = .ok (.lload_n 1, 1) := by decide +kernel
theorem d_M_tell_1 : decode b_M_tell 1 = .ok (.lload_n 3, 1) := by decide +kernel
theorem d_M_tell_2 : decode b_M_tell 2 = .ok (.invokestatic 73, 3) := by decide +kernel
theorem d_M_tell_5 : decode b_M_tell 5 = .ok (.lstore 5, 2) := by decide +kernel
theorem d_M_tell_7 : decode b_M_tell 7 = .ok (.lload_n 3, 1) := by decide +kernel
theorem d_M_tell_8 : decode b_M_tell 8 = .ok (.lconst 0, 1) := by decide +kernel
theorem d_M_tell_9 : decode b_M_tell 9 = .ok (.lcmp, 1) := by decide +kernel
theorem d_M_tell_10 : decode b_M_tell 10 = .ok (.ifCond .ge (9), 3) := by decide +kernel
theorem d_M_tell_13 : decode b_M_tell 13 = .ok (.ldc2_w 77, 3) := by decide +kernel
theorem d_M_tell_16 : decode b_M_tell 16 = .ok (.goto (4), 3) := by decide +kernel
theorem d_M_tell_19 : decode b_M_tell 19 = .ok (.lconst 1, 1) := by decide +kernel
theorem d_M_tell_20 : decode b_M_tell 20 = .ok (.lstore 7, 2) := by decide +kernel
theorem d_M_tell_22 : decode b_M_tell 22 = .ok (.aload_n 0, 1) := by decide +kernel
theorem d_M_tell_23 : decode b_M_tell 23 = .ok (.lload 7, 2) := by decide +kernel
theorem d_M_tell_25 : decode b_M_tell 25 = .ok (.lload_n 1, 1) := by decide +kernel
theorem d_M_tell_26 : decode b_M_tell 26 = .ok (.lmul, 1) := by decide +kernel
theorem d_M_tell_27 : decode b_M_tell 27 = .ok (.lload 5, 2) := by decide +kernel
theorem d_M_tell_29 : decode b_M_tell 29 = .ok (.ldiv, 1) := by decide +kernel
theorem d_M_tell_30 : decode b_M_tell 30 = .ok (.putfield 42, 3) := by decide +kernel
theorem d_M_tell_33 : decode b_M_tell 33 = .ok (.aload_n 0, 1) := by decide +kernel
theorem d_M_tell_34 : decode b_M_tell 34 = .ok (.lload 7, 2) := by decide +kernel
theorem d_M_tell_36 : decode b_M_tell 36 = .ok (.lload_n 3, 1) := by decide +kernel
theorem d_M_tell_37 : decode b_M_tell 37 = .ok (.lmul, 1) := by decide +kernel
theorem d_M_tell_38 : decode b_M_tell 38 = .ok (.lload 5, 2) := by decide +kernel
theorem d_M_tell_40 : decode b_M_tell 40 = .ok (.ldiv, 1) := by decide +kernel
theorem d_M_tell_41 : decode b_M_tell 41 = .ok (.putfield 31, 3) := by decide +kernel
theorem d_M_tell_44 : decode b_M_tell 44 = .ok (.return_, 1) := by decide +kernel
theorem d_M_set_0 : decode b_M_set 0 = .ok (.aload_n 0, 1) := by decide +kernel
theorem d_M_set_1 : decode b_M_set 1 = .ok (.iconst 0, 1) := by decide +kernel
theorem d_M_set_2 : decode b_M_set 2 = .ok (.putfield 35, 3) := by decide +kernel
theorem d_M_set_5 : decode b_M_set 5 = .ok (.aload_n 0, 1) := by decide +kernel
theorem d_M_set_6 : decode b_M_set 6 = .ok (.getfield 39, 3) := by decide +kernel
theorem d_M_set_9 : decode b_M_set 9 = .ok (.bipush (8), 2) := by decide +kernel
theorem d_M_set_11 : decode b_M_set 11 = .ok (.if_icmp .ne (6), 3) := by decide +kernel
theorem d_M_set_14 : decode b_M_set 14 = .ok (.bipush (-5), 2) := by decide +kernel
theorem d_M_set_16 : decode b_M_set 16 = .ok (.ireturn, 1) := by decide +kernel
theorem d_M_set_17 : decode b_M_set 17 = .ok (.aload_n 0, 1) := by decide +kernel
theorem d_M_set_18 : decode b_M_set 18 = .ok (.getfield 16, 3) := by decide +kernel
theorem d_M_set_21 : decode b_M_set 21 = .ok (.aload_n 0, 1) := by decide +kernel
theorem d_M_set_22 : decode b_M_set 22 = .ok (.getfield 39, 3) := by decide +kernel
theorem d_M_set_25 : decode b_M_set 25 = .ok (.iconst 0, 1) := by decide +kernel
theorem d_M_set_26 : decode b_M_set 26 = .ok (.iastore, 1) := by decide +kernel
theorem d_M_set_27 : decode b_M_set 27 = .ok (.aload_n 0, 1) := by decide +kernel
theorem d_M_set_28 : decode b_M_set 28 = .ok (.dup, 1) := by decide +kernel
theorem d_M_set_29 : decode b_M_set 29 = .ok (.getfield 39, 3) := by decide +kernel
theorem d_M_set_32 : decode b_M_set 32 = .ok (.iconst 1, 1) := by decide +kernel
theorem d_M_set_33 : decode b_M_set 33 = .ok (.iadd, 1) := by decide +kernel
theorem d_M_set_34 : decode b_M_set 34 = .ok (.putfield 39, 3) := by decide +kernel
theorem d_M_set_37 : decode b_M_set 37 = .ok (.aload_n 0, 1) := by decide +kernel
theorem d_M_set_38 : decode b_M_set 38 = .ok (.getfield 39, 3) := by decide +kernel
theorem d_M_set_41 : decode b_M_set 41 = .ok (.iconst 1, 1) := by decide +kernel
theorem d_M_set_42 : decode b_M_set 42 = .ok (.isub, 1) := by decide +kernel
theorem d_M_set_43 : decode b_M_set 43 = .ok (.ireturn, 1) := by decide +kernel
theorem d_M_point_0 : decode b_M_point 0 = .ok (.aload_n 0, 1) := by decide +kernel
theorem d_M_point_1 : decode b_M_point 1 = .ok (.iload_n 1, 1) := by decide +kernel
theorem d_M_point_2 : decode b_M_point 2 = .ok (.invokevirtual 79, 3) := by decide +kernel
theorem d_M_point_5 : decode b_M_point 5 = .ok (.ifCond .ne (5), 3) := by decide +kernel
theorem d_M_point_8 : decode b_M_point 8 = .ok (.iconst (-1), 1) := by decide +kernel
theorem d_M_point_9 : decode b_M_point 9 = .ok (.ireturn, 1) := by decide +kernel
theorem d_M_point_10 : decode b_M_point 10 = .ok (.iload_n 2, 1) := by decide +kernel
theorem d_M_point_11 : decode b_M_point 11 = .ok (.bipush (-100), 2) := by decide +kernel
theorem d_M_point_13 : decode b_M_point 13 = .ok (.bipush (100), 2) := by decide +kernel
theorem d_M_point_15 : decode b_M_point 15 = .ok (.invokestatic 83, 3) := by decide +kernel
theorem d_M_point_18 : decode b_M_point 18 = .ok (.ifCond .eq (14), 3) := by decide +kernel
theorem d_M_point_21 : decode b_M_point 21 = .ok (.iload_n 3, 1) := by decide +kernel
theorem d_M_point_22 : decode b_M_point 22 = .ok (.bipush (-100), 2) := by decide +kernel
theorem d_M_point_24 : decode b_M_point 24 = .ok (.bipush (100), 2) := by decide +kernel
theorem d_M_point_26 : decode b_M_point 26 = .ok (.invokestatic 83, 3) := by decide +kernel
theorem d_M_point_29 : decode b_M_point 29 = .ok (.ifCond .ne (6), 3) := by decide +kernel
theorem d_M_point_32 : decode b_M_point 32 = .ok (.bipush (-2), 2) := by decide +kernel
theorem d_M_point_34 : decode b_M_point 34 = .ok (.ireturn, 1) := by decide +kernel
theorem d_M_point_35 : decode b_M_point 35 = .ok (.iconst 0, 1) := by decide +kernel
theorem d_M_point_36 : decode b_M_point 36 = .ok (.istore 4, 2) := by decide +kernel
theorem d_M_point_38 : decode b_M_point 38 = .ok (.iload 4, 2) := by decide +kernel
theorem d_M_point_40 : decode b_M_point 40 = .ok (.aload_n 0, 1) := by decide +kernel
theorem d_M_point_41 : decode b_M_point 41 = .ok (.getfield 16, 3) := by decide +kernel
theorem d_M_point_44 : decode b_M_point 44 = .ok (.iload_n 1, 1) := by decide +kernel
theorem d_M_point_45 : decode b_M_point 45 = .ok (.iaload, 1) := by decide +kernel
theorem d_M_point_46 : decode b_M_point 46 = .ok (.if_icmp .ge (43), 3) := by decide +kernel
theorem d_M_point_49 : decode b_M_point 49 = .ok (.aload_n 0, 1) := by decide +kernel
theorem d_M_point_50 : decode b_M_point 50 = .ok (.getfield 7, 3) := by decide +kernel
theorem d_M_point_53 : decode b_M_point 53 = .ok (.bipush (24), 2) := by decide +kernel
theorem d_M_point_55 : decode b_M_point 55 = .ok (.iload_n 1, 1) := by decide +kernel
theorem d_M_point_56 : decode b_M_point 56 = .ok (.imul, 1) := by decide +kernel
theorem d_M_point_57 : decode b_M_point 57 = .ok (.iload 4, 2) := by decide +kernel
theorem d_M_point_59 : decode b_M_point 59 = .ok (.iadd, 1) := by decide +kernel
theorem d_M_point_60 : decode b_M_point 60 = .ok (.iaload, 1) := by decide +kernel
theorem d_M_point_61 : decode b_M_point 61 = .ok (.iload_n 2, 1) := by decide +kernel
theorem d_M_point_62 : decode b_M_point 62 = .ok (.if_icmp .ne (21), 3) := by decide +kernel
theorem d_M_point_65 : decode b_M_point 65 = .ok (.aload_n 0, 1) := by decide +kernel
theorem d_M_point_66 : decode b_M_point 66 = .ok (.getfield 13, 3) := by decide +kernel
theorem d_M_point_69 : decode b_M_point 69 = .ok (.bipush (24), 2) := by decide +kernel
theorem d_M_point_71 : decode b_M_point 71 = .ok (.iload_n 1, 1) := by decide +kernel
theorem d_M_point_72 : decode b_M_point 72 = .ok (.imul, 1) := by decide +kernel
theorem d_M_point_73 : decode b_M_point 73 = .ok (.iload 4, 2) := by decide +kernel
theorem d_M_point_75 : decode b_M_point 75 = .ok (.iadd, 1) := by decide +kernel
theorem d_M_point_76 : decode b_M_point 76 = .ok (.iaload, 1) := by decide +kernel
theorem d_M_point_77 : decode b_M_point 77 = .ok (.iload_n 3, 1) := by decide +kernel
theorem d_M_point_78 : decode b_M_point 78 = .ok (.if_icmp .ne (5), 3) := by decide +kernel
theorem d_M_point_81 : decode b_M_point 81 = .ok (.iconst 0, 1) := by decide +kernel
theorem d_M_point_82 : decode b_M_point 82 = .ok (.ireturn, 1) := by decide +kernel
theorem d_M_point_83 : decode b_M_point 83 = .ok (.iinc 4 (1), 3) := by decide +kernel
theorem d_M_point_86 : decode b_M_point 86 = .ok (.goto (-48), 3) := by decide +kernel
theorem d_M_point_89 : decode b_M_point 89 = .ok (.aload_n 0, 1) := by decide +kernel
theorem d_M_point_90 : decode b_M_point 90 = .ok (.getfield 16, 3) := by decide +kernel
theorem d_M_point_93 : decode b_M_point 93 = .ok (.iload_n 1, 1) := by decide +kernel
theorem d_M_point_94 : decode b_M_point 94 = .ok (.iaload, 1) := by decide +kernel
theorem d_M_point_95 : decode b_M_point 95 = .ok (.bipush (24), 2) := by decide +kernel
theorem d_M_point_97 : decode b_M_point 97 = .ok (.if_icmp .ne (6), 3) := by decide +kernel
theorem d_M_point_100 : decode b_M_point 100 = .ok (.bipush (-5), 2) := by decide +kernel
theorem d_M_point_102 : decode b_M_point 102 = .ok (.ireturn, 1) := by decide +kernel
theorem d_M_point_103 : decode b_M_point 103 = .ok (.aload_n 0, 1) := by decide +kernel
theorem d_M_point_104 : decode b_M_point 104 = .ok (.getfield 7, 3) := by decide +kernel
theorem d_M_point_107 : decode b_M_point 107 = .ok (.bipush (24), 2) := by decide +kernel
theorem d_M_point_109 : decode b_M_point 109 = .ok (.iload_n 1, 1) := by decide +kernel
theorem d_M_point_110 : decode b_M_point 110 = .ok (.imul, 1) := by decide +kernel
theorem d_M_point_111 : decode b_M_point 111 = .ok (.aload_n 0, 1) := by decide +kernel
theorem d_M_point_112 : decode b_M_point 112 = .ok (.getfield 16, 3) := by decide +kernel
theorem d_M_point_115 : decode b_M_point 115 = .ok (.iload_n 1, 1) := by decide +kernel
theorem d_M_point_116 : decode b_M_point 116 = .ok (.iaload, 1) := by decide +kernel
theorem d_M_point_117 : decode b_M_point 117 = .ok (.iadd, 1) := by decide +kernel
theorem d_M_point_118 : decode b_M_point 118 = .ok (.iload_n 2, 1) := by decide +kernel
theorem d_M_point_119 : decode b_M_point 119 = .ok (.iastore, 1) := by decide +kernel
theorem d_M_point_120 : decode b_M_point 120 = .ok (.aload_n 0, 1) := by decide +kernel
theorem d_M_point_121 : decode b_M_point 121 = .ok (.getfield 13, 3) := by decide +kernel
theorem d_M_point_124 : decode b_M_point 124 = .ok (.bipush (24), 2) := by decide +kernel
theorem d_M_point_126 : decode b_M_point 126 = .ok (.iload_n 1, 1) := by decide +kernel
theorem d_M_point_127 : decode b_M_point 127 = .ok (.imul, 1) := by decide +kernel
theorem d_M_point_128 : decode b_M_point 128 = .ok (.aload_n 0, 1) := by decide +kernel
theorem d_M_point_129 : decode b_M_point 129 = .ok (.getfield 16, 3) := by decide +kernel
theorem d_M_point_132 : decode b_M_point 132 = .ok (.iload_n 1, 1) := by decide +kernel
theorem d_M_point_133 : decode b_M_point 133 = .ok (.iaload, 1) := by decide +kernel
theorem d_M_point_134 : decode b_M_point 134 = .ok (.iadd, 1) := by decide +kernel
theorem d_M_point_135 : decode b_M_point 135 = .ok (.iload_n 3, 1) := by decide +kernel
theorem d_M_point_136 : decode b_M_point 136 = .ok (.iastore, 1) := by decide +kernel
theorem d_M_point_137 : decode b_M_point 137 = .ok (.aload_n 0, 1) := by decide +kernel
theorem d_M_point_138 : decode b_M_point 138 = .ok (.getfield 16, 3) := by decide +kernel
theorem d_M_point_141 : decode b_M_point 141 = .ok (.iload_n 1, 1) := by decide +kernel
theorem d_M_point_142 : decode b_M_point 142 = .ok (.dup2, 1) := by decide +kernel
theorem d_M_point_143 : decode b_M_point 143 = .ok (.iaload, 1) := by decide +kernel
theorem d_M_point_144 : decode b_M_point 144 = .ok (.iconst 1, 1) := by decide +kernel
theorem d_M_point_145 : decode b_M_point 145 = .ok (.iadd, 1) := by decide +kernel
theorem d_M_point_146 : decode b_M_point 146 = .ok (.iastore, 1) := by decide +kernel
theorem d_M_point_147 : decode b_M_point 147 = .ok (.iconst 1, 1) := by decide +kernel
theorem d_M_point_148 : decode b_M_point 148 = .ok (.ireturn, 1) := by decide +kernel
theorem d_M_points_0 : decode b_M_points 0 = .ok (.aload_n 0, 1) := by decide +kernel
theorem d_M_points_1 : decode b_M_points 1 = .ok (.iload_n 1, 1) := by decide +kernel
theorem d_M_points_2 : decode b_M_points 2 = .ok (.invokevirtual 79, 3) := by decide +kernel
theorem d_M_points_5 : decode b_M_points 5 = .ok (.ifCond .eq (12), 3) := by decide +kernel
theorem d_M_points_8 : decode b_M_points 8 = .ok (.aload_n 0, 1) := by decide +kernel
theorem d_M_points_9 : decode b_M_points 9 = .ok (.getfield 16, 3) := by decide +kernel
theorem d_M_points_12 : decode b_M_points 12 = .ok (.iload_n 1, 1) := by decide +kernel
theorem d_M_points_13 : decode b_M_points 13 = .ok (.iaload, 1) := by decide +kernel
theorem d_M_points_14 : decode b_M_points 14 = .ok (.goto (4), 3) := by decide +kernel
theorem d_M_points_17 : decode b_M_points 17 = .ok (.iconst (-1), 1) := by decide +kernel
theorem d_M_points_18 : decode b_M_points 18 = .ok (.ireturn, 1) := by decide +kernel
theorem d_M_kind_0 : decode b_M_kind 0 = .ok (.aload_n 0, 1) := by decide +kernel
theorem d_M_kind_1 : decode b_M_kind 1 = .ok (.iload_n 1, 1) := by decide +kernel
theorem d_M_kind_2 : decode b_M_kind 2 = .ok (.invokevirtual 79, 3) := by decide +kernel
theorem d_M_kind_5 : decode b_M_kind 5 = .ok (.ifCond .ne (5), 3) := by decide +kernel
theorem d_M_kind_8 : decode b_M_kind 8 = .ok (.iconst (-1), 1) := by decide +kernel
theorem d_M_kind_9 : decode b_M_kind 9 = .ok (.ireturn, 1) := by decide +kernel
theorem d_M_kind_10 : decode b_M_kind 10 = .ok (.aload_n 0, 1) := by decide +kernel
theorem d_M_kind_11 : decode b_M_kind 11 = .ok (.iload_n 1, 1) := by decide +kernel
theorem d_M_kind_12 : decode b_M_kind 12 = .ok (.invokevirtual 87, 3) := by decide +kernel
theorem d_M_kind_15 : decode b_M_kind 15 = .ok (.aload_n 0, 1) := by decide +kernel
theorem d_M_kind_16 : decode b_M_kind 16 = .ok (.getfield 51, 3) := by decide +kernel
theorem d_M_kind_19 : decode b_M_kind 19 = .ok (.iconst 3, 1) := by decide +kernel
theorem d_M_kind_20 : decode b_M_kind 20 = .ok (.if_icmp .ge (10), 3) := by decide +kernel
theorem d_M_kind_23 : decode b_M_kind 23 = .ok (.aload_n 0, 1) := by decide +kernel
theorem d_M_kind_24 : decode b_M_kind 24 = .ok (.getfield 51, 3) := by decide +kernel
theorem d_M_kind_27 : decode b_M_kind 27 = .ok (.goto (4), 3) := by decide +kernel
theorem d_M_kind_30 : decode b_M_kind 30 = .ok (.iconst 3, 1) := by decide +kernel
theorem d_M_kind_31 : decode b_M_kind 31 = .ok (.ireturn, 1) := by decide +kernel
theorem d_M_corners_0 : decode b_M_corners 0 = .ok (.aload_n 0, 1) := by decide +kernel
theorem d_M_corners_1 : decode b_M_corners 1 = .ok (.iload_n 1, 1) := by decide +kernel
theorem d_M_corners_2 : decode b_M_corners 2 = .ok (.invokevirtual 79, 3) := by decide +kernel
theorem d_M_corners_5 : decode b_M_corners 5 = .ok (.ifCond .ne (5), 3) := by decide +kernel
theorem d_M_corners_8 : decode b_M_corners 8 = .ok (.iconst (-1), 1) := by decide +kernel
theorem d_M_corners_9 : decode b_M_corners 9 = .ok (.ireturn, 1) := by decide +kernel
theorem d_M_corners_10 : decode b_M_corners 10 = .ok (.aload_n 0, 1) := by decide +kernel
theorem d_M_corners_11 : decode b_M_corners 11 = .ok (.iload_n 1, 1) := by decide +kernel
theorem d_M_corners_12 : decode b_M_corners 12 = .ok (.invokevirtual 87, 3) := by decide +kernel
theorem d_M_corners_15 : decode b_M_corners 15 = .ok (.aload_n 0, 1) := by decide +kernel
theorem d_M_corners_16 : decode b_M_corners 16 = .ok (.getfield 51, 3) := by decide +kernel
theorem d_M_corners_19 : decode b_M_corners 19 = .ok (.ireturn, 1) := by decide +kernel
theorem d_M_corner_0 : decode b_M_corner 0 = .ok (.aload_n 0, 1) := by decide +kernel
theorem d_M_corner_1 : decode b_M_corner 1 = .ok (.iload_n 1, 1) := by decide +kernel
theorem d_M_corner_2 : decode b_M_corner 2 = .ok (.invokevirtual 79, 3) := by decide +kernel
theorem d_M_corner_5 : decode b_M_corner 5 = .ok (.ifCond .ne (5), 3) := by decide +kernel
theorem d_M_corner_8 : decode b_M_corner 8 = .ok (.iconst (-1), 1) := by decide +kernel
theorem d_M_corner_9 : decode b_M_corner 9 = .ok (.ireturn, 1) := by decide +kernel
theorem d_M_corner_10 : decode b_M_corner 10 = .ok (.aload_n 0, 1) := by decide +kernel
theorem d_M_corner_11 : decode b_M_corner 11 = .ok (.iload_n 1, 1) := by decide +kernel
theorem d_M_corner_12 : decode b_M_corner 12 = .ok (.invokevirtual 87, 3) := by decide +kernel
theorem d_M_corner_15 : decode b_M_corner 15 = .ok (.iload_n 2, 1) := by decide +kernel
theorem d_M_corner_16 : decode b_M_corner 16 = .ok (.ifCond .lt (11), 3) := by decide +kernel
theorem d_M_corner_19 : decode b_M_corner 19 = .ok (.iload_n 2, 1) := by decide +kernel
theorem d_M_corner_20 : decode b_M_corner 20 = .ok (.aload_n 0, 1) := by decide +kernel
theorem d_M_corner_21 : decode b_M_corner 21 = .ok (.getfield 51, 3) := by decide +kernel
theorem d_M_corner_24 : decode b_M_corner 24 = .ok (.if_icmp .lt (6), 3) := by decide +kernel
theorem d_M_corner_27 : decode b_M_corner 27 = .ok (.bipush (-2), 2) := by decide +kernel
theorem d_M_corner_29 : decode b_M_corner 29 = .ok (.ireturn, 1) := by decide +kernel
theorem d_M_corner_30 : decode b_M_corner 30 = .ok (.aload_n 0, 1) := by decide +kernel
theorem d_M_corner_31 : decode b_M_corner 31 = .ok (.aload_n 0, 1) := by decide +kernel
theorem d_M_corner_32 : decode b_M_corner 32 = .ok (.getfield 25, 3) := by decide +kernel
theorem d_M_corner_35 : decode b_M_corner 35 = .ok (.iload_n 2, 1) := by decide +kernel
theorem d_M_corner_36 : decode b_M_corner 36 = .ok (.iaload, 1) := by decide +kernel
theorem d_M_corner_37 : decode b_M_corner 37 = .ok (.i2l, 1) := by decide +kernel
theorem d_M_corner_38 : decode b_M_corner 38 = .ok (.putfield 42, 3) := by decide +kernel
theorem d_M_corner_41 : decode b_M_corner 41 = .ok (.aload_n 0, 1) := by decide +kernel
theorem d_M_corner_42 : decode b_M_corner 42 = .ok (.aload_n 0, 1) := by decide +kernel
theorem d_M_corner_43 : decode b_M_corner 43 = .ok (.getfield 28, 3) := by decide +kernel
theorem d_M_corner_46 : decode b_M_corner 46 = .ok (.iload_n 2, 1) := by decide +kernel
theorem d_M_corner_47 : decode b_M_corner 47 = .ok (.iaload, 1) := by decide +kernel
theorem d_M_corner_48 : decode b_M_corner 48 = .ok (.i2l, 1) := by decide +kernel
theorem d_M_corner_49 : decode b_M_corner 49 = .ok (.putfield 31, 3) := by decide +kernel
theorem d_M_corner_52 : decode b_M_corner 52 = .ok (.iconst 1, 1) := by decide +kernel
theorem d_M_corner_53 : decode b_M_corner 53 = .ok (.ireturn, 1) := by decide +kernel
theorem d_M_beside_0 : decode b_M_beside 0 = .ok (.aload_n 0, 1) := by decide +kernel
theorem d_M_beside_1 : decode b_M_beside 1 = .ok (.iload_n 1, 1) := by decide +kernel
theorem d_M_beside_2 : decode b_M_beside 2 = .ok (.invokevirtual 79, 3) := by decide +kernel
theorem d_M_beside_5 : decode b_M_beside 5 = .ok (.ifCond .ne (5), 3) := by decide +kernel
theorem d_M_beside_8 : decode b_M_beside 8 = .ok (.iconst (-1), 1) := by decide +kernel
theorem d_M_beside_9 : decode b_M_beside 9 = .ok (.ireturn, 1) := by decide +kernel
theorem d_M_beside_10 : decode b_M_beside 10 = .ok (.aload_n 0, 1) := by decide +kernel
theorem d_M_beside_11 : decode b_M_beside 11 = .ok (.iload_n 1, 1) := by decide +kernel
theorem d_M_beside_12 : decode b_M_beside 12 = .ok (.invokevirtual 87, 3) := by decide +kernel
theorem d_M_beside_15 : decode b_M_beside 15 = .ok (.iconst 0, 1) := by decide +kernel
theorem d_M_beside_16 : decode b_M_beside 16 = .ok (.istore_n 2, 1) := by decide +kernel
theorem d_M_beside_17 : decode b_M_beside 17 = .ok (.iconst 0, 1) := by decide +kernel
theorem d_M_beside_18 : decode b_M_beside 18 = .ok (.istore_n 3, 1) := by decide +kernel
theorem d_M_beside_19 : decode b_M_beside 19 = .ok (.iload_n 3, 1) := by decide +kernel
theorem d_M_beside_20 : decode b_M_beside 20 = .ok (.aload_n 0, 1) := by decide +kernel
theorem d_M_beside_21 : decode b_M_beside 21 = .ok (.getfield 45, 3) := by decide +kernel
theorem d_M_beside_24 : decode b_M_beside 24 = .ok (.if_icmp .ge (109), 3) := by decide +kernel
theorem d_M_beside_27 : decode b_M_beside 27 = .ok (.iconst 0, 1) := by decide +kernel
theorem d_M_beside_28 : decode b_M_beside 28 = .ok (.istore 4, 2) := by decide +kernel
theorem d_M_beside_30 : decode b_M_beside 30 = .ok (.iconst 0, 1) := by decide +kernel
theorem d_M_beside_31 : decode b_M_beside 31 = .ok (.istore 5, 2) := by decide +kernel
theorem d_M_beside_33 : decode b_M_beside 33 = .ok (.iload 5, 2) := by decide +kernel
theorem d_M_beside_35 : decode b_M_beside 35 = .ok (.aload_n 0, 1) := by decide +kernel
theorem d_M_beside_36 : decode b_M_beside 36 = .ok (.getfield 51, 3) := by decide +kernel
theorem d_M_beside_39 : decode b_M_beside 39 = .ok (.if_icmp .ge (53), 3) := by decide +kernel
theorem d_M_beside_42 : decode b_M_beside 42 = .ok (.iload 4, 2) := by decide +kernel
theorem d_M_beside_44 : decode b_M_beside 44 = .ok (.ifCond .ne (35), 3) := by decide +kernel
theorem d_M_beside_47 : decode b_M_beside 47 = .ok (.aload_n 0, 1) := by decide +kernel
theorem d_M_beside_48 : decode b_M_beside 48 = .ok (.getfield 25, 3) := by decide +kernel
theorem d_M_beside_51 : decode b_M_beside 51 = .ok (.iload 5, 2) := by decide +kernel
theorem d_M_beside_53 : decode b_M_beside 53 = .ok (.iaload, 1) := by decide +kernel
theorem d_M_beside_54 : decode b_M_beside 54 = .ok (.aload_n 0, 1) := by decide +kernel
theorem d_M_beside_55 : decode b_M_beside 55 = .ok (.getfield 19, 3) := by decide +kernel
theorem d_M_beside_58 : decode b_M_beside 58 = .ok (.iload_n 3, 1) := by decide +kernel
theorem d_M_beside_59 : decode b_M_beside 59 = .ok (.iaload, 1) := by decide +kernel
theorem d_M_beside_60 : decode b_M_beside 60 = .ok (.if_icmp .ne (23), 3) := by decide +kernel
theorem d_M_beside_63 : decode b_M_beside 63 = .ok (.aload_n 0, 1) := by decide +kernel
theorem d_M_beside_64 : decode b_M_beside 64 = .ok (.getfield 28, 3) := by decide +kernel
theorem d_M_beside_67 : decode b_M_beside 67 = .ok (.iload 5, 2) := by decide +kernel
theorem d_M_beside_69 : decode b_M_beside 69 = .ok (.iaload, 1) := by decide +kernel
theorem d_M_beside_70 : decode b_M_beside 70 = .ok (.aload_n 0, 1) := by decide +kernel
theorem d_M_beside_71 : decode b_M_beside 71 = .ok (.getfield 22, 3) := by decide +kernel
theorem d_M_beside_74 : decode b_M_beside 74 = .ok (.iload_n 3, 1) := by decide +kernel
theorem d_M_beside_75 : decode b_M_beside 75 = .ok (.iaload, 1) := by decide +kernel
theorem d_M_beside_76 : decode b_M_beside 76 = .ok (.if_icmp .ne (7), 3) := by decide +kernel
theorem d_M_beside_79 : decode b_M_beside 79 = .ok (.iconst 1, 1) := by decide +kernel
theorem d_M_beside_80 : decode b_M_beside 80 = .ok (.goto (4), 3) := by decide +kernel
theorem d_M_beside_83 : decode b_M_beside 83 = .ok (.iconst 0, 1) := by decide +kernel
theorem d_M_beside_84 : decode b_M_beside 84 = .ok (.istore 4, 2) := by decide +kernel
theorem d_M_beside_86 : decode b_M_beside 86 = .ok (.iinc 5 (1), 3) := by decide +kernel
theorem d_M_beside_89 : decode b_M_beside 89 = .ok (.goto (-56), 3) := by decide +kernel
theorem d_M_beside_92 : decode b_M_beside 92 = .ok (.iload_n 2, 1) := by decide +kernel
theorem d_M_beside_93 : decode b_M_beside 93 = .ok (.iload 4, 2) := by decide +kernel
theorem d_M_beside_95 : decode b_M_beside 95 = .ok (.ifCond .ne (29), 3) := by decide +kernel
theorem d_M_beside_98 : decode b_M_beside 98 = .ok (.aload_n 0, 1) := by decide +kernel
theorem d_M_beside_99 : decode b_M_beside 99 = .ok (.aload_n 0, 1) := by decide +kernel
theorem d_M_beside_100 : decode b_M_beside 100 = .ok (.getfield 19, 3) := by decide +kernel
theorem d_M_beside_103 : decode b_M_beside 103 = .ok (.iload_n 3, 1) := by decide +kernel
theorem d_M_beside_104 : decode b_M_beside 104 = .ok (.iaload, 1) := by decide +kernel
theorem d_M_beside_105 : decode b_M_beside 105 = .ok (.i2l, 1) := by decide +kernel
theorem d_M_beside_106 : decode b_M_beside 106 = .ok (.aload_n 0, 1) := by decide +kernel
theorem d_M_beside_107 : decode b_M_beside 107 = .ok (.getfield 22, 3) := by decide +kernel
theorem d_M_beside_110 : decode b_M_beside 110 = .ok (.iload_n 3, 1) := by decide +kernel
theorem d_M_beside_111 : decode b_M_beside 111 = .ok (.iaload, 1) := by decide +kernel
theorem d_M_beside_112 : decode b_M_beside 112 = .ok (.i2l, 1) := by decide +kernel
theorem d_M_beside_113 : decode b_M_beside 113 = .ok (.invokevirtual 91, 3) := by decide +kernel
theorem d_M_beside_116 : decode b_M_beside 116 = .ok (.iconst 1, 1) := by decide +kernel
theorem d_M_beside_117 : decode b_M_beside 117 = .ok (.if_icmp .ne (7), 3) := by decide +kernel
theorem d_M_beside_120 : decode b_M_beside 120 = .ok (.iconst 1, 1) := by decide +kernel
theorem d_M_beside_121 : decode b_M_beside 121 = .ok (.goto (4), 3) := by decide +kernel
theorem d_M_beside_124 : decode b_M_beside 124 = .ok (.iconst 0, 1) := by decide +kernel
theorem d_M_beside_125 : decode b_M_beside 125 = .ok (.iadd, 1) := by decide +kernel
theorem d_M_beside_126 : decode b_M_beside 126 = .ok (.istore_n 2, 1) := by decide +kernel
theorem d_M_beside_127 : decode b_M_beside 127 = .ok (.iinc 3 (1), 3) := by decide +kernel
theorem d_M_beside_130 : decode b_M_beside 130 = .ok (.goto (-111), 3) := by decide +kernel
theorem d_M_beside_133 : decode b_M_beside 133 = .ok (.iload_n 2, 1) := by decide +kernel
theorem d_M_beside_134 : decode b_M_beside 134 = .ok (.ireturn, 1) := by decide +kernel
theorem d_M_area_0 : decode b_M_area 0 = .ok (.aload_n 0, 1) := by decide +kernel
theorem d_M_area_1 : decode b_M_area 1 = .ok (.iload_n 1, 1) := by decide +kernel
theorem d_M_area_2 : decode b_M_area 2 = .ok (.invokevirtual 79, 3) := by decide +kernel
theorem d_M_area_5 : decode b_M_area 5 = .ok (.ifCond .ne (5), 3) := by decide +kernel
theorem d_M_area_8 : decode b_M_area 8 = .ok (.iconst (-1), 1) := by decide +kernel
theorem d_M_area_9 : decode b_M_area 9 = .ok (.ireturn, 1) := by decide +kernel
theorem d_M_area_10 : decode b_M_area 10 = .ok (.aload_n 0, 1) := by decide +kernel
theorem d_M_area_11 : decode b_M_area 11 = .ok (.iload_n 1, 1) := by decide +kernel
theorem d_M_area_12 : decode b_M_area 12 = .ok (.invokevirtual 87, 3) := by decide +kernel
theorem d_M_area_15 : decode b_M_area 15 = .ok (.aload_n 0, 1) := by decide +kernel
theorem d_M_area_16 : decode b_M_area 16 = .ok (.invokevirtual 95, 3) := by decide +kernel
theorem d_M_area_19 : decode b_M_area 19 = .ok (.l2i, 1) := by decide +kernel
theorem d_M_area_20 : decode b_M_area 20 = .ok (.ireturn, 1) := by decide +kernel
theorem d_M_borderOf_0 : decode b_M_borderOf 0 = .ok (.aload_n 0, 1) := by decide +kernel
theorem d_M_borderOf_1 : decode b_M_borderOf 1 = .ok (.getfield 51, 3) := by decide +kernel
theorem d_M_borderOf_4 : decode b_M_borderOf 4 = .ok (.iconst 2, 1) := by decide +kernel
theorem d_M_borderOf_5 : decode b_M_borderOf 5 = .ok (.if_icmp .ge (8), 3) := by decide +kernel
theorem d_M_borderOf_8 : decode b_M_borderOf 8 = .ok (.aload_n 0, 1) := by decide +kernel
theorem d_M_borderOf_9 : decode b_M_borderOf 9 = .ok (.getfield 51, 3) := by decide +kernel
theorem d_M_borderOf_12 : decode b_M_borderOf 12 = .ok (.ireturn, 1) := by decide +kernel
theorem d_M_borderOf_13 : decode b_M_borderOf 13 = .ok (.lconst 0, 1) := by decide +kernel
theorem d_M_borderOf_14 : decode b_M_borderOf 14 = .ok (.lstore_n 1, 1) := by decide +kernel
theorem d_M_borderOf_15 : decode b_M_borderOf 15 = .ok (.iconst 0, 1) := by decide +kernel
theorem d_M_borderOf_16 : decode b_M_borderOf 16 = .ok (.istore_n 3, 1) := by decide +kernel
theorem d_M_borderOf_17 : decode b_M_borderOf 17 = .ok (.iload_n 3, 1) := by decide +kernel
theorem d_M_borderOf_18 : decode b_M_borderOf 18 = .ok (.aload_n 0, 1) := by decide +kernel
theorem d_M_borderOf_19 : decode b_M_borderOf 19 = .ok (.getfield 51, 3) := by decide +kernel
theorem d_M_borderOf_22 : decode b_M_borderOf 22 = .ok (.if_icmp .ge (51), 3) := by decide +kernel
theorem d_M_borderOf_25 : decode b_M_borderOf 25 = .ok (.lload_n 1, 1) := by decide +kernel
theorem d_M_borderOf_26 : decode b_M_borderOf 26 = .ok (.aload_n 0, 1) := by decide +kernel
theorem d_M_borderOf_27 : decode b_M_borderOf 27 = .ok (.getfield 25, 3) := by decide +kernel
theorem d_M_borderOf_30 : decode b_M_borderOf 30 = .ok (.aload_n 0, 1) := by decide +kernel
theorem d_M_borderOf_31 : decode b_M_borderOf 31 = .ok (.iload_n 3, 1) := by decide +kernel
theorem d_M_borderOf_32 : decode b_M_borderOf 32 = .ok (.invokevirtual 66, 3) := by decide +kernel
theorem d_M_borderOf_35 : decode b_M_borderOf 35 = .ok (.iaload, 1) := by decide +kernel
theorem d_M_borderOf_36 : decode b_M_borderOf 36 = .ok (.aload_n 0, 1) := by decide +kernel
theorem d_M_borderOf_37 : decode b_M_borderOf 37 = .ok (.getfield 25, 3) := by decide +kernel
theorem d_M_borderOf_40 : decode b_M_borderOf 40 = .ok (.iload_n 3, 1) := by decide +kernel
theorem d_M_borderOf_41 : decode b_M_borderOf 41 = .ok (.iaload, 1) := by decide +kernel
theorem d_M_borderOf_42 : decode b_M_borderOf 42 = .ok (.isub, 1) := by decide +kernel
theorem d_M_borderOf_43 : decode b_M_borderOf 43 = .ok (.i2l, 1) := by decide +kernel
theorem d_M_borderOf_44 : decode b_M_borderOf 44 = .ok (.aload_n 0, 1) := by decide +kernel
theorem d_M_borderOf_45 : decode b_M_borderOf 45 = .ok (.getfield 28, 3) := by decide +kernel
theorem d_M_borderOf_48 : decode b_M_borderOf 48 = .ok (.aload_n 0, 1) := by decide +kernel
theorem d_M_borderOf_49 : decode b_M_borderOf 49 = .ok (.iload_n 3, 1) := by decide +kernel
theorem d_M_borderOf_50 : decode b_M_borderOf 50 = .ok (.invokevirtual 66, 3) := by decide +kernel
theorem d_M_borderOf_53 : decode b_M_borderOf 53 = .ok (.iaload, 1) := by decide +kernel
theorem d_M_borderOf_54 : decode b_M_borderOf 54 = .ok (.aload_n 0, 1) := by decide +kernel
theorem d_M_borderOf_55 : decode b_M_borderOf 55 = .ok (.getfield 28, 3) := by decide +kernel
theorem d_M_borderOf_58 : decode b_M_borderOf 58 = .ok (.iload_n 3, 1) := by decide +kernel
theorem d_M_borderOf_59 : decode b_M_borderOf 59 = .ok (.iaload, 1) := by decide +kernel
theorem d_M_borderOf_60 : decode b_M_borderOf 60 = .ok (.isub, 1) := by decide +kernel
theorem d_M_borderOf_61 : decode b_M_borderOf 61 = .ok (.i2l, 1) := by decide +kernel
theorem d_M_borderOf_62 : decode b_M_borderOf 62 = .ok (.invokestatic 73, 3) := by decide +kernel
theorem d_M_borderOf_65 : decode b_M_borderOf 65 = .ok (.ladd, 1) := by decide +kernel
theorem d_M_borderOf_66 : decode b_M_borderOf 66 = .ok (.lstore_n 1, 1) := by decide +kernel
theorem d_M_borderOf_67 : decode b_M_borderOf 67 = .ok (.iinc 3 (1), 3) := by decide +kernel
theorem d_M_borderOf_70 : decode b_M_borderOf 70 = .ok (.goto (-53), 3) := by decide +kernel
theorem d_M_borderOf_73 : decode b_M_borderOf 73 = .ok (.aload_n 0, 1) := by decide +kernel
theorem d_M_borderOf_74 : decode b_M_borderOf 74 = .ok (.getfield 51, 3) := by decide +kernel
theorem d_M_borderOf_77 : decode b_M_borderOf 77 = .ok (.iconst 2, 1) := by decide +kernel
theorem d_M_borderOf_78 : decode b_M_borderOf 78 = .ok (.if_icmp .ne (13), 3) := by decide +kernel
theorem d_M_borderOf_81 : decode b_M_borderOf 81 = .ok (.lload_n 1, 1) := by decide +kernel
theorem d_M_borderOf_82 : decode b_M_borderOf 82 = .ok (.ldc2_w 99, 3) := by decide +kernel
theorem d_M_borderOf_85 : decode b_M_borderOf 85 = .ok (.ldiv, 1) := by decide +kernel
theorem d_M_borderOf_86 : decode b_M_borderOf 86 = .ok (.lconst 1, 1) := by decide +kernel
theorem d_M_borderOf_87 : decode b_M_borderOf 87 = .ok (.ladd, 1) := by decide +kernel
theorem d_M_borderOf_88 : decode b_M_borderOf 88 = .ok (.goto (4), 3) := by decide +kernel
theorem d_M_borderOf_91 : decode b_M_borderOf 91 = .ok (.lload_n 1, 1) := by decide +kernel
theorem d_M_borderOf_92 : decode b_M_borderOf 92 = .ok (.l2i, 1) := by decide +kernel
theorem d_M_borderOf_93 : decode b_M_borderOf 93 = .ok (.ireturn, 1) := by decide +kernel
theorem d_M_part_0 : decode b_M_part 0 = .ok (.lload_n 0, 1) := by decide +kernel
theorem d_M_part_1 : decode b_M_part 1 = .ok (.lload_n 2, 1) := by decide +kernel
theorem d_M_part_2 : decode b_M_part 2 = .ok (.ldiv, 1) := by decide +kernel
theorem d_M_part_3 : decode b_M_part 3 = .ok (.lstore 5, 2) := by decide +kernel
theorem d_M_part_5 : decode b_M_part 5 = .ok (.lload_n 0, 1) := by decide +kernel
theorem d_M_part_6 : decode b_M_part 6 = .ok (.lload 5, 2) := by decide +kernel
theorem d_M_part_8 : decode b_M_part 8 = .ok (.lload_n 2, 1) := by decide +kernel
theorem d_M_part_9 : decode b_M_part 9 = .ok (.lmul, 1) := by decide +kernel
theorem d_M_part_10 : decode b_M_part 10 = .ok (.lsub, 1) := by decide +kernel
theorem d_M_part_11 : decode b_M_part 11 = .ok (.lstore 7, 2) := by decide +kernel
theorem d_M_part_13 : decode b_M_part 13 = .ok (.iload 4, 2) := by decide +kernel
theorem d_M_part_15 : decode b_M_part 15 = .ok (.ifCond .eq (22), 3) := by decide +kernel
theorem d_M_part_18 : decode b_M_part 18 = .ok (.lload 7, 2) := by decide +kernel
theorem d_M_part_20 : decode b_M_part 20 = .ok (.lconst 0, 1) := by decide +kernel
theorem d_M_part_21 : decode b_M_part 21 = .ok (.lcmp, 1) := by decide +kernel
theorem d_M_part_22 : decode b_M_part 22 = .ok (.ifCond .le (10), 3) := by decide +kernel
theorem d_M_part_25 : decode b_M_part 25 = .ok (.lload 5, 2) := by decide +kernel
theorem d_M_part_27 : decode b_M_part 27 = .ok (.lconst 1, 1) := by decide +kernel
theorem d_M_part_28 : decode b_M_part 28 = .ok (.ladd, 1) := by decide +kernel
theorem d_M_part_29 : decode b_M_part 29 = .ok (.goto (24), 3) := by decide +kernel
theorem d_M_part_32 : decode b_M_part 32 = .ok (.lload 5, 2) := by decide +kernel
theorem d_M_part_34 : decode b_M_part 34 = .ok (.goto (19), 3) := by decide +kernel
theorem d_M_part_37 : decode b_M_part 37 = .ok (.lload 7, 2) := by decide +kernel
theorem d_M_part_39 : decode b_M_part 39 = .ok (.lconst 0, 1) := by decide +kernel
theorem d_M_part_40 : decode b_M_part 40 = .ok (.lcmp, 1) := by decide +kernel
theorem d_M_part_41 : decode b_M_part 41 = .ok (.ifCond .ge (10), 3) := by decide +kernel
theorem d_M_part_44 : decode b_M_part 44 = .ok (.lload 5, 2) := by decide +kernel
theorem d_M_part_46 : decode b_M_part 46 = .ok (.lconst 1, 1) := by decide +kernel
theorem d_M_part_47 : decode b_M_part 47 = .ok (.lsub, 1) := by decide +kernel
theorem d_M_part_48 : decode b_M_part 48 = .ok (.goto (5), 3) := by decide +kernel
theorem d_M_part_51 : decode b_M_part 51 = .ok (.lload 5, 2) := by decide +kernel
theorem d_M_part_53 : decode b_M_part 53 = .ok (.lreturn, 1) := by decide +kernel
theorem d_M_row_0 : decode b_M_row 0 = .ok (.iload 4, 2) := by decide +kernel
theorem d_M_row_2 : decode b_M_row 2 = .ok (.i2l, 1) := by decide +kernel
theorem d_M_row_3 : decode b_M_row 3 = .ok (.aload_n 0, 1) := by decide +kernel
theorem d_M_row_4 : decode b_M_row 4 = .ok (.getfield 25, 3) := by decide +kernel
theorem d_M_row_7 : decode b_M_row 7 = .ok (.iload_n 1, 1) := by decide +kernel
theorem d_M_row_8 : decode b_M_row 8 = .ok (.iaload, 1) := by decide +kernel
theorem d_M_row_9 : decode b_M_row 9 = .ok (.i2l, 1) := by decide +kernel
theorem d_M_row_10 : decode b_M_row 10 = .ok (.lmul, 1) := by decide +kernel
theorem d_M_row_11 : decode b_M_row 11 = .ok (.lstore 5, 2) := by decide +kernel
theorem d_M_row_13 : decode b_M_row 13 = .ok (.iload 4, 2) := by decide +kernel
theorem d_M_row_15 : decode b_M_row 15 = .ok (.i2l, 1) := by decide +kernel
theorem d_M_row_16 : decode b_M_row 16 = .ok (.aload_n 0, 1) := by decide +kernel
theorem d_M_row_17 : decode b_M_row 17 = .ok (.getfield 28, 3) := by decide +kernel
theorem d_M_row_20 : decode b_M_row 20 = .ok (.iload_n 1, 1) := by decide +kernel
theorem d_M_row_21 : decode b_M_row 21 = .ok (.iaload, 1) := by decide +kernel
theorem d_M_row_22 : decode b_M_row 22 = .ok (.i2l, 1) := by decide +kernel
theorem d_M_row_23 : decode b_M_row 23 = .ok (.lmul, 1) := by decide +kernel
theorem d_M_row_24 : decode b_M_row 24 = .ok (.lstore 7, 2) := by decide +kernel
theorem d_M_row_26 : decode b_M_row 26 = .ok (.iload 4, 2) := by decide +kernel
theorem d_M_row_28 : decode b_M_row 28 = .ok (.i2l, 1) := by decide +kernel
theorem d_M_row_29 : decode b_M_row 29 = .ok (.aload_n 0, 1) := by decide +kernel
theorem d_M_row_30 : decode b_M_row 30 = .ok (.getfield 25, 3) := by decide +kernel
theorem d_M_row_33 : decode b_M_row 33 = .ok (.aload_n 0, 1) := by decide +kernel
theorem d_M_row_34 : decode b_M_row 34 = .ok (.iload_n 1, 1) := by decide +kernel
theorem d_M_row_35 : decode b_M_row 35 = .ok (.invokevirtual 66, 3) := by decide +kernel
theorem d_M_row_38 : decode b_M_row 38 = .ok (.iaload, 1) := by decide +kernel
theorem d_M_row_39 : decode b_M_row 39 = .ok (.i2l, 1) := by decide +kernel
theorem d_M_row_40 : decode b_M_row 40 = .ok (.lmul, 1) := by decide +kernel
theorem d_M_row_41 : decode b_M_row 41 = .ok (.lstore 9, 2) := by decide +kernel
theorem d_M_row_43 : decode b_M_row 43 = .ok (.iload 4, 2) := by decide +kernel
theorem d_M_row_45 : decode b_M_row 45 = .ok (.i2l, 1) := by decide +kernel
theorem d_M_row_46 : decode b_M_row 46 = .ok (.aload_n 0, 1) := by decide +kernel
theorem d_M_row_47 : decode b_M_row 47 = .ok (.getfield 28, 3) := by decide +kernel
theorem d_M_row_50 : decode b_M_row 50 = .ok (.aload_n 0, 1) := by decide +kernel
theorem d_M_row_51 : decode b_M_row 51 = .ok (.iload_n 1, 1) := by decide +kernel
theorem d_M_row_52 : decode b_M_row 52 = .ok (.invokevirtual 66, 3) := by decide +kernel
theorem d_M_row_55 : decode b_M_row 55 = .ok (.iaload, 1) := by decide +kernel
theorem d_M_row_56 : decode b_M_row 56 = .ok (.i2l, 1) := by decide +kernel
theorem d_M_row_57 : decode b_M_row 57 = .ok (.lmul, 1) := by decide +kernel
theorem d_M_row_58 : decode b_M_row 58 = .ok (.lstore 11, 2) := by decide +kernel
theorem d_M_row_60 : decode b_M_row 60 = .ok (.lload 7, 2) := by decide +kernel
theorem d_M_row_62 : decode b_M_row 62 = .ok (.lload 11, 2) := by decide +kernel
theorem d_M_row_64 : decode b_M_row 64 = .ok (.lcmp, 1) := by decide +kernel
theorem d_M_row_65 : decode b_M_row 65 = .ok (.ifCond .le (27), 3) := by decide +kernel
theorem d_M_row_68 : decode b_M_row 68 = .ok (.lload 5, 2) := by decide +kernel
theorem d_M_row_70 : decode b_M_row 70 = .ok (.lstore 13, 2) := by decide +kernel
theorem d_M_row_72 : decode b_M_row 72 = .ok (.lload 9, 2) := by decide +kernel
theorem d_M_row_74 : decode b_M_row 74 = .ok (.lstore 5, 2) := by decide +kernel
theorem d_M_row_76 : decode b_M_row 76 = .ok (.lload 13, 2) := by decide +kernel
theorem d_M_row_78 : decode b_M_row 78 = .ok (.lstore 9, 2) := by decide +kernel
theorem d_M_row_80 : decode b_M_row 80 = .ok (.lload 7, 2) := by decide +kernel
theorem d_M_row_82 : decode b_M_row 82 = .ok (.lstore 13, 2) := by decide +kernel
theorem d_M_row_84 : decode b_M_row 84 = .ok (.lload 11, 2) := by decide +kernel
theorem d_M_row_86 : decode b_M_row 86 = .ok (.lstore 7, 2) := by decide +kernel
theorem d_M_row_88 : decode b_M_row 88 = .ok (.lload 13, 2) := by decide +kernel
theorem d_M_row_90 : decode b_M_row 90 = .ok (.lstore 11, 2) := by decide +kernel
theorem d_M_row_92 : decode b_M_row 92 = .ok (.lload_n 2, 1) := by decide +kernel
theorem d_M_row_93 : decode b_M_row 93 = .ok (.lload 7, 2) := by decide +kernel
theorem d_M_row_95 : decode b_M_row 95 = .ok (.lcmp, 1) := by decide +kernel
theorem d_M_row_96 : decode b_M_row 96 = .ok (.ifCond .lt (10), 3) := by decide +kernel
theorem d_M_row_99 : decode b_M_row 99 = .ok (.lload_n 2, 1) := by decide +kernel
theorem d_M_row_100 : decode b_M_row 100 = .ok (.lload 11, 2) := by decide +kernel
theorem d_M_row_102 : decode b_M_row 102 = .ok (.lcmp, 1) := by decide +kernel
theorem d_M_row_103 : decode b_M_row 103 = .ok (.ifCond .le (4), 3) := by decide +kernel
theorem d_M_row_106 : decode b_M_row 106 = .ok (.return_, 1) := by decide +kernel
theorem d_M_row_107 : decode b_M_row 107 = .ok (.lload 7, 2) := by decide +kernel
theorem d_M_row_109 : decode b_M_row 109 = .ok (.lload 11, 2) := by decide +kernel
theorem d_M_row_111 : decode b_M_row 111 = .ok (.lcmp, 1) := by decide +kernel
theorem d_M_row_112 : decode b_M_row 112 = .ok (.ifCond .ne (20), 3) := by decide +kernel
theorem d_M_row_115 : decode b_M_row 115 = .ok (.aload_n 0, 1) := by decide +kernel
theorem d_M_row_116 : decode b_M_row 116 = .ok (.lload 5, 2) := by decide +kernel
theorem d_M_row_118 : decode b_M_row 118 = .ok (.lload 5, 2) := by decide +kernel
theorem d_M_row_120 : decode b_M_row 120 = .ok (.invokevirtual 101, 3) := by decide +kernel
theorem d_M_row_123 : decode b_M_row 123 = .ok (.aload_n 0, 1) := by decide +kernel
theorem d_M_row_124 : decode b_M_row 124 = .ok (.lload 9, 2) := by decide +kernel
theorem d_M_row_126 : decode b_M_row 126 = .ok (.lload 9, 2) := by decide +kernel
theorem d_M_row_128 : decode b_M_row 128 = .ok (.invokevirtual 101, 3) := by decide +kernel
theorem d_M_row_131 : decode b_M_row 131 = .ok (.return_, 1) := by decide +kernel
theorem d_M_row_132 : decode b_M_row 132 = .ok (.lload 9, 2) := by decide +kernel
theorem d_M_row_134 : decode b_M_row 134 = .ok (.lload 5, 2) := by decide +kernel
theorem d_M_row_136 : decode b_M_row 136 = .ok (.lsub, 1) := by decide +kernel
theorem d_M_row_137 : decode b_M_row 137 = .ok (.lload_n 2, 1) := by decide +kernel
theorem d_M_row_138 : decode b_M_row 138 = .ok (.lload 7, 2) := by decide +kernel
theorem d_M_row_140 : decode b_M_row 140 = .ok (.lsub, 1) := by decide +kernel
theorem d_M_row_141 : decode b_M_row 141 = .ok (.lmul, 1) := by decide +kernel
theorem d_M_row_142 : decode b_M_row 142 = .ok (.lstore 13, 2) := by decide +kernel
theorem d_M_row_144 : decode b_M_row 144 = .ok (.aload_n 0, 1) := by decide +kernel
theorem d_M_row_145 : decode b_M_row 145 = .ok (.lload 5, 2) := by decide +kernel
theorem d_M_row_147 : decode b_M_row 147 = .ok (.lload 13, 2) := by decide +kernel
theorem d_M_row_149 : decode b_M_row 149 = .ok (.lload 11, 2) := by decide +kernel
theorem d_M_row_151 : decode b_M_row 151 = .ok (.lload 7, 2) := by decide +kernel
theorem d_M_row_153 : decode b_M_row 153 = .ok (.lsub, 1) := by decide +kernel
theorem d_M_row_154 : decode b_M_row 154 = .ok (.iconst 1, 1) := by decide +kernel
theorem d_M_row_155 : decode b_M_row 155 = .ok (.invokestatic 105, 3) := by decide +kernel
theorem d_M_row_158 : decode b_M_row 158 = .ok (.ladd, 1) := by decide +kernel
theorem d_M_row_159 : decode b_M_row 159 = .ok (.lload 5, 2) := by decide +kernel
theorem d_M_row_161 : decode b_M_row 161 = .ok (.lload 13, 2) := by decide +kernel
theorem d_M_row_163 : decode b_M_row 163 = .ok (.lload 11, 2) := by decide +kernel
theorem d_M_row_165 : decode b_M_row 165 = .ok (.lload 7, 2) := by decide +kernel
theorem d_M_row_167 : decode b_M_row 167 = .ok (.lsub, 1) := by decide +kernel
theorem d_M_row_168 : decode b_M_row 168 = .ok (.iconst 0, 1) := by decide +kernel
theorem d_M_row_169 : decode b_M_row 169 = .ok (.invokestatic 105, 3) := by decide +kernel
theorem d_M_row_172 : decode b_M_row 172 = .ok (.ladd, 1) := by decide +kernel
theorem d_M_row_173 : decode b_M_row 173 = .ok (.invokevirtual 101, 3) := by decide +kernel
theorem d_M_row_176 : decode b_M_row 176 = .ok (.return_, 1) := by decide +kernel
theorem d_M_see_0 : decode b_M_see 0 = .ok (.aload_n 0, 1) := by decide +kernel
theorem d_M_see_1 : decode b_M_see 1 = .ok (.lload_n 1, 1) := by decide +kernel
theorem d_M_see_2 : decode b_M_see 2 = .ok (.aload_n 0, 1) := by decide +kernel
theorem d_M_see_3 : decode b_M_see 3 = .ok (.getfield 109, 3) := by decide +kernel
theorem d_M_see_6 : decode b_M_see 6 = .ok (.lcmp, 1) := by decide +kernel
theorem d_M_see_7 : decode b_M_see 7 = .ok (.ifCond .ge (7), 3) := by decide +kernel
theorem d_M_see_10 : decode b_M_see 10 = .ok (.lload_n 1, 1) := by decide +kernel
theorem d_M_see_11 : decode b_M_see 11 = .ok (.goto (7), 3) := by decide +kernel
theorem d_M_see_14 : decode b_M_see 14 = .ok (.aload_n 0, 1) := by decide +kernel
theorem d_M_see_15 : decode b_M_see 15 = .ok (.getfield 109, 3) := by decide +kernel
theorem d_M_see_18 : decode b_M_see 18 = .ok (.putfield 109, 3) := by decide +kernel
theorem d_M_see_21 : decode b_M_see 21 = .ok (.aload_n 0, 1) := by decide +kernel
theorem d_M_see_22 : decode b_M_see 22 = .ok (.lload_n 3, 1) := by decide +kernel
theorem d_M_see_23 : decode b_M_see 23 = .ok (.aload_n 0, 1) := by decide +kernel
theorem d_M_see_24 : decode b_M_see 24 = .ok (.getfield 112, 3) := by decide +kernel
theorem d_M_see_27 : decode b_M_see 27 = .ok (.lcmp, 1) := by decide +kernel
theorem d_M_see_28 : decode b_M_see 28 = .ok (.ifCond .le (7), 3) := by decide +kernel
theorem d_M_see_31 : decode b_M_see 31 = .ok (.lload_n 3, 1) := by decide +kernel
theorem d_M_see_32 : decode b_M_see 32 = .ok (.goto (7), 3) := by decide +kernel
theorem d_M_see_35 : decode b_M_see 35 = .ok (.aload_n 0, 1) := by decide +kernel
theorem d_M_see_36 : decode b_M_see 36 = .ok (.getfield 112, 3) := by decide +kernel
theorem d_M_see_39 : decode b_M_see 39 = .ok (.putfield 112, 3) := by decide +kernel
theorem d_M_see_42 : decode b_M_see 42 = .ok (.return_, 1) := by decide +kernel
theorem d_M_allPoints_0 : decode b_M_allPoints 0 = .ok (.lconst 0, 1) := by decide +kernel
theorem d_M_allPoints_1 : decode b_M_allPoints 1 = .ok (.lstore_n 2, 1) := by decide +kernel
theorem d_M_allPoints_2 : decode b_M_allPoints 2 = .ok (.aload_n 0, 1) := by decide +kernel
theorem d_M_allPoints_3 : decode b_M_allPoints 3 = .ok (.getfield 51, 3) := by decide +kernel
theorem d_M_allPoints_6 : decode b_M_allPoints 6 = .ok (.ifCond .ne (5), 3) := by decide +kernel
theorem d_M_allPoints_9 : decode b_M_allPoints 9 = .ok (.iconst 0, 1) := by decide +kernel
theorem d_M_allPoints_10 : decode b_M_allPoints 10 = .ok (.ireturn, 1) := by decide +kernel
theorem d_M_allPoints_11 : decode b_M_allPoints 11 = .ok (.iload_n 1, 1) := by decide +kernel
theorem d_M_allPoints_12 : decode b_M_allPoints 12 = .ok (.i2l, 1) := by decide +kernel
theorem d_M_allPoints_13 : decode b_M_allPoints 13 = .ok (.aload_n 0, 1) := by decide +kernel
theorem d_M_allPoints_14 : decode b_M_allPoints 14 = .ok (.getfield 28, 3) := by decide +kernel
theorem d_M_allPoints_17 : decode b_M_allPoints 17 = .ok (.iconst 0, 1) := by decide +kernel
theorem d_M_allPoints_18 : decode b_M_allPoints 18 = .ok (.iaload, 1) := by decide +kernel
theorem d_M_allPoints_19 : decode b_M_allPoints 19 = .ok (.i2l, 1) := by decide +kernel
theorem d_M_allPoints_20 : decode b_M_allPoints 20 = .ok (.lmul, 1) := by decide +kernel
theorem d_M_allPoints_21 : decode b_M_allPoints 21 = .ok (.lstore 4, 2) := by decide +kernel
theorem d_M_allPoints_23 : decode b_M_allPoints 23 = .ok (.lload 4, 2) := by decide +kernel
theorem d_M_allPoints_25 : decode b_M_allPoints 25 = .ok (.lstore 6, 2) := by decide +kernel
theorem d_M_allPoints_27 : decode b_M_allPoints 27 = .ok (.iconst 0, 1) := by decide +kernel
theorem d_M_allPoints_28 : decode b_M_allPoints 28 = .ok (.istore 8, 2) := by decide +kernel
theorem d_M_allPoints_30 : decode b_M_allPoints 30 = .ok (.iload 8, 2) := by decide +kernel
theorem d_M_allPoints_32 : decode b_M_allPoints 32 = .ok (.aload_n 0, 1) := by decide +kernel
theorem d_M_allPoints_33 : decode b_M_allPoints 33 = .ok (.getfield 51, 3) := by decide +kernel
theorem d_M_allPoints_36 : decode b_M_allPoints 36 = .ok (.if_icmp .ge (56), 3) := by decide +kernel
theorem d_M_allPoints_39 : decode b_M_allPoints 39 = .ok (.iload_n 1, 1) := by decide +kernel
theorem d_M_allPoints_40 : decode b_M_allPoints 40 = .ok (.i2l, 1) := by decide +kernel
theorem d_M_allPoints_41 : decode b_M_allPoints 41 = .ok (.aload_n 0, 1) := by decide +kernel
theorem d_M_allPoints_42 : decode b_M_allPoints 42 = .ok (.getfield 28, 3) := by decide +kernel
theorem d_M_allPoints_45 : decode b_M_allPoints 45 = .ok (.iload 8, 2) := by decide +kernel
theorem d_M_allPoints_47 : decode b_M_allPoints 47 = .ok (.iaload, 1) := by decide +kernel
theorem d_M_allPoints_48 : decode b_M_allPoints 48 = .ok (.i2l, 1) := by decide +kernel
theorem d_M_allPoints_49 : decode b_M_allPoints 49 = .ok (.lmul, 1) := by decide +kernel
theorem d_M_allPoints_50 : decode b_M_allPoints 50 = .ok (.lstore 9, 2) := by decide +kernel
theorem d_M_allPoints_52 : decode b_M_allPoints 52 = .ok (.lload 9, 2) := by decide +kernel
theorem d_M_allPoints_54 : decode b_M_allPoints 54 = .ok (.lload 4, 2) := by decide +kernel
theorem d_M_allPoints_56 : decode b_M_allPoints 56 = .ok (.lcmp, 1) := by decide +kernel
theorem d_M_allPoints_57 : decode b_M_allPoints 57 = .ok (.ifCond .ge (8), 3) := by decide +kernel
theorem d_M_allPoints_60 : decode b_M_allPoints 60 = .ok (.lload 9, 2) := by decide +kernel
theorem d_M_allPoints_62 : decode b_M_allPoints 62 = .ok (.goto (5), 3) := by decide +kernel
theorem d_M_allPoints_65 : decode b_M_allPoints 65 = .ok (.lload 4, 2) := by decide +kernel
theorem d_M_allPoints_67 : decode b_M_allPoints 67 = .ok (.lstore 4, 2) := by decide +kernel
theorem d_M_allPoints_69 : decode b_M_allPoints 69 = .ok (.lload 9, 2) := by decide +kernel
theorem d_M_allPoints_71 : decode b_M_allPoints 71 = .ok (.lload 6, 2) := by decide +kernel
theorem d_M_allPoints_73 : decode b_M_allPoints 73 = .ok (.lcmp, 1) := by decide +kernel
theorem d_M_allPoints_74 : decode b_M_allPoints 74 = .ok (.ifCond .le (8), 3) := by decide +kernel
theorem d_M_allPoints_77 : decode b_M_allPoints 77 = .ok (.lload 9, 2) := by decide +kernel
theorem d_M_allPoints_79 : decode b_M_allPoints 79 = .ok (.goto (5), 3) := by decide +kernel
theorem d_M_allPoints_82 : decode b_M_allPoints 82 = .ok (.lload 6, 2) := by decide +kernel
theorem d_M_allPoints_84 : decode b_M_allPoints 84 = .ok (.lstore 6, 2) := by decide +kernel
theorem d_M_allPoints_86 : decode b_M_allPoints 86 = .ok (.iinc 8 (1), 3) := by decide +kernel
theorem d_M_allPoints_89 : decode b_M_allPoints 89 = .ok (.goto (-59), 3) := by decide +kernel
theorem d_M_allPoints_92 : decode b_M_allPoints 92 = .ok (.lload 4, 2) := by decide +kernel
theorem d_M_allPoints_94 : decode b_M_allPoints 94 = .ok (.lstore 8, 2) := by decide +kernel
theorem d_M_allPoints_96 : decode b_M_allPoints 96 = .ok (.lload 8, 2) := by decide +kernel
theorem d_M_allPoints_98 : decode b_M_allPoints 98 = .ok (.lload 6, 2) := by decide +kernel
theorem d_M_allPoints_100 : decode b_M_allPoints 100 = .ok (.lcmp, 1) := by decide +kernel
theorem d_M_allPoints_101 : decode b_M_allPoints 101 = .ok (.ifCond .gt (83), 3) := by decide +kernel
theorem d_M_allPoints_104 : decode b_M_allPoints 104 = .ok (.aload_n 0, 1) := by decide +kernel
theorem d_M_allPoints_105 : decode b_M_allPoints 105 = .ok (.ldc2_w 115, 3) := by decide +kernel
theorem d_M_allPoints_108 : decode b_M_allPoints 108 = .ok (.putfield 109, 3) := by decide +kernel
theorem d_M_allPoints_111 : decode b_M_allPoints 111 = .ok (.aload_n 0, 1) := by decide +kernel
theorem d_M_allPoints_112 : decode b_M_allPoints 112 = .ok (.ldc2_w 117, 3) := by decide +kernel
theorem d_M_allPoints_115 : decode b_M_allPoints 115 = .ok (.putfield 112, 3) := by decide +kernel
theorem d_M_allPoints_118 : decode b_M_allPoints 118 = .ok (.iconst 0, 1) := by decide +kernel
theorem d_M_allPoints_119 : decode b_M_allPoints 119 = .ok (.istore 10, 2) := by decide +kernel
theorem d_M_allPoints_121 : decode b_M_allPoints 121 = .ok (.iload 10, 2) := by decide +kernel
theorem d_M_allPoints_123 : decode b_M_allPoints 123 = .ok (.aload_n 0, 1) := by decide +kernel
theorem d_M_allPoints_124 : decode b_M_allPoints 124 = .ok (.getfield 51, 3) := by decide +kernel
theorem d_M_allPoints_127 : decode b_M_allPoints 127 = .ok (.if_icmp .ge (18), 3) := by decide +kernel
theorem d_M_allPoints_130 : decode b_M_allPoints 130 = .ok (.aload_n 0, 1) := by decide +kernel
theorem d_M_allPoints_131 : decode b_M_allPoints 131 = .ok (.iload 10, 2) := by decide +kernel
theorem d_M_allPoints_133 : decode b_M_allPoints 133 = .ok (.lload 8, 2) := by decide +kernel
theorem d_M_allPoints_135 : decode b_M_allPoints 135 = .ok (.iload_n 1, 1) := by decide +kernel
theorem d_M_allPoints_136 : decode b_M_allPoints 136 = .ok (.invokevirtual 119, 3) := by decide +kernel
theorem d_M_allPoints_139 : decode b_M_allPoints 139 = .ok (.iinc 10 (1), 3) := by decide +kernel
theorem d_M_allPoints_142 : decode b_M_allPoints 142 = .ok (.goto (-21), 3) := by decide +kernel
theorem d_M_allPoints_145 : decode b_M_allPoints 145 = .ok (.lload_n 2, 1) := by decide +kernel
theorem d_M_allPoints_146 : decode b_M_allPoints 146 = .ok (.aload_n 0, 1) := by decide +kernel
theorem d_M_allPoints_147 : decode b_M_allPoints 147 = .ok (.getfield 112, 3) := by decide +kernel
theorem d_M_allPoints_150 : decode b_M_allPoints 150 = .ok (.aload_n 0, 1) := by decide +kernel
theorem d_M_allPoints_151 : decode b_M_allPoints 151 = .ok (.getfield 109, 3) := by decide +kernel
theorem d_M_allPoints_154 : decode b_M_allPoints 154 = .ok (.lcmp, 1) := by decide +kernel
theorem d_M_allPoints_155 : decode b_M_allPoints 155 = .ok (.ifCond .lt (17), 3) := by decide +kernel
theorem d_M_allPoints_158 : decode b_M_allPoints 158 = .ok (.aload_n 0, 1) := by decide +kernel
theorem d_M_allPoints_159 : decode b_M_allPoints 159 = .ok (.getfield 112, 3) := by decide +kernel
theorem d_M_allPoints_162 : decode b_M_allPoints 162 = .ok (.aload_n 0, 1) := by decide +kernel
theorem d_M_allPoints_163 : decode b_M_allPoints 163 = .ok (.getfield 109, 3) := by decide +kernel
theorem d_M_allPoints_166 : decode b_M_allPoints 166 = .ok (.lsub, 1) := by decide +kernel
theorem d_M_allPoints_167 : decode b_M_allPoints 167 = .ok (.lconst 1, 1) := by decide +kernel
theorem d_M_allPoints_168 : decode b_M_allPoints 168 = .ok (.ladd, 1) := by decide +kernel
theorem d_M_allPoints_169 : decode b_M_allPoints 169 = .ok (.goto (4), 3) := by decide +kernel
theorem d_M_allPoints_172 : decode b_M_allPoints 172 = .ok (.lconst 0, 1) := by decide +kernel
theorem d_M_allPoints_173 : decode b_M_allPoints 173 = .ok (.ladd, 1) := by decide +kernel
theorem d_M_allPoints_174 : decode b_M_allPoints 174 = .ok (.lstore_n 2, 1) := by decide +kernel
theorem d_M_allPoints_175 : decode b_M_allPoints 175 = .ok (.lload 8, 2) := by decide +kernel
theorem d_M_allPoints_177 : decode b_M_allPoints 177 = .ok (.lconst 1, 1) := by decide +kernel
theorem d_M_allPoints_178 : decode b_M_allPoints 178 = .ok (.ladd, 1) := by decide +kernel
theorem d_M_allPoints_179 : decode b_M_allPoints 179 = .ok (.lstore 8, 2) := by decide +kernel
theorem d_M_allPoints_181 : decode b_M_allPoints 181 = .ok (.goto (-85), 3) := by decide +kernel
theorem d_M_allPoints_184 : decode b_M_allPoints 184 = .ok (.lload_n 2, 1) := by decide +kernel
theorem d_M_allPoints_185 : decode b_M_allPoints 185 = .ok (.l2i, 1) := by decide +kernel
theorem d_M_allPoints_186 : decode b_M_allPoints 186 = .ok (.ireturn, 1) := by decide +kernel
theorem d_M_border_0 : decode b_M_border 0 = .ok (.aload_n 0, 1) := by decide +kernel
theorem d_M_border_1 : decode b_M_border 1 = .ok (.iload_n 1, 1) := by decide +kernel
theorem d_M_border_2 : decode b_M_border 2 = .ok (.invokevirtual 79, 3) := by decide +kernel
theorem d_M_border_5 : decode b_M_border 5 = .ok (.ifCond .ne (5), 3) := by decide +kernel
theorem d_M_border_8 : decode b_M_border 8 = .ok (.iconst (-1), 1) := by decide +kernel
theorem d_M_border_9 : decode b_M_border 9 = .ok (.ireturn, 1) := by decide +kernel
theorem d_M_border_10 : decode b_M_border 10 = .ok (.aload_n 0, 1) := by decide +kernel
theorem d_M_border_11 : decode b_M_border 11 = .ok (.iload_n 1, 1) := by decide +kernel
theorem d_M_border_12 : decode b_M_border 12 = .ok (.invokevirtual 87, 3) := by decide +kernel
theorem d_M_border_15 : decode b_M_border 15 = .ok (.aload_n 0, 1) := by decide +kernel
theorem d_M_border_16 : decode b_M_border 16 = .ok (.invokevirtual 123, 3) := by decide +kernel
theorem d_M_border_19 : decode b_M_border 19 = .ok (.ireturn, 1) := by decide +kernel
theorem d_M_inside_0 : decode b_M_inside 0 = .ok (.aload_n 0, 1) := by decide +kernel
theorem d_M_inside_1 : decode b_M_inside 1 = .ok (.iload_n 1, 1) := by decide +kernel
theorem d_M_inside_2 : decode b_M_inside 2 = .ok (.invokevirtual 79, 3) := by decide +kernel
theorem d_M_inside_5 : decode b_M_inside 5 = .ok (.ifCond .ne (5), 3) := by decide +kernel
theorem d_M_inside_8 : decode b_M_inside 8 = .ok (.iconst (-1), 1) := by decide +kernel
theorem d_M_inside_9 : decode b_M_inside 9 = .ok (.ireturn, 1) := by decide +kernel
theorem d_M_inside_10 : decode b_M_inside 10 = .ok (.aload_n 0, 1) := by decide +kernel
theorem d_M_inside_11 : decode b_M_inside 11 = .ok (.iload_n 1, 1) := by decide +kernel
theorem d_M_inside_12 : decode b_M_inside 12 = .ok (.invokevirtual 87, 3) := by decide +kernel
theorem d_M_inside_15 : decode b_M_inside 15 = .ok (.aload_n 0, 1) := by decide +kernel
theorem d_M_inside_16 : decode b_M_inside 16 = .ok (.iconst 1, 1) := by decide +kernel
theorem d_M_inside_17 : decode b_M_inside 17 = .ok (.invokevirtual 127, 3) := by decide +kernel
theorem d_M_inside_20 : decode b_M_inside 20 = .ok (.aload_n 0, 1) := by decide +kernel
theorem d_M_inside_21 : decode b_M_inside 21 = .ok (.invokevirtual 123, 3) := by decide +kernel
theorem d_M_inside_24 : decode b_M_inside 24 = .ok (.isub, 1) := by decide +kernel
theorem d_M_inside_25 : decode b_M_inside 25 = .ok (.ireturn, 1) := by decide +kernel
theorem d_M_grown_0 : decode b_M_grown 0 = .ok (.aload_n 0, 1) := by decide +kernel
theorem d_M_grown_1 : decode b_M_grown 1 = .ok (.iload_n 1, 1) := by decide +kernel
theorem d_M_grown_2 : decode b_M_grown 2 = .ok (.invokevirtual 79, 3) := by decide +kernel
theorem d_M_grown_5 : decode b_M_grown 5 = .ok (.ifCond .ne (5), 3) := by decide +kernel
theorem d_M_grown_8 : decode b_M_grown 8 = .ok (.iconst (-1), 1) := by decide +kernel
theorem d_M_grown_9 : decode b_M_grown 9 = .ok (.ireturn, 1) := by decide +kernel
theorem d_M_grown_10 : decode b_M_grown 10 = .ok (.iload_n 2, 1) := by decide +kernel
theorem d_M_grown_11 : decode b_M_grown 11 = .ok (.iconst 0, 1) := by decide +kernel
theorem d_M_grown_12 : decode b_M_grown 12 = .ok (.bipush (6), 2) := by decide +kernel
theorem d_M_grown_14 : decode b_M_grown 14 = .ok (.invokestatic 83, 3) := by decide +kernel
theorem d_M_grown_17 : decode b_M_grown 17 = .ok (.ifCond .ne (6), 3) := by decide +kernel
theorem d_M_grown_20 : decode b_M_grown 20 = .ok (.bipush (-2), 2) := by decide +kernel
theorem d_M_grown_22 : decode b_M_grown 22 = .ok (.ireturn, 1) := by decide +kernel
theorem d_M_grown_23 : decode b_M_grown 23 = .ok (.aload_n 0, 1) := by decide +kernel
theorem d_M_grown_24 : decode b_M_grown 24 = .ok (.iload_n 1, 1) := by decide +kernel
theorem d_M_grown_25 : decode b_M_grown 25 = .ok (.invokevirtual 87, 3) := by decide +kernel
theorem d_M_grown_28 : decode b_M_grown 28 = .ok (.aload_n 0, 1) := by decide +kernel
theorem d_M_grown_29 : decode b_M_grown 29 = .ok (.iload_n 2, 1) := by decide +kernel
theorem d_M_grown_30 : decode b_M_grown 30 = .ok (.invokevirtual 127, 3) := by decide +kernel
theorem d_M_grown_33 : decode b_M_grown 33 = .ok (.ireturn, 1) := by decide +kernel
theorem d_M_wide_0 : decode b_M_wide 0 = .ok (.aload_n 0, 1) := by decide +kernel
theorem d_M_wide_1 : decode b_M_wide 1 = .ok (.iload_n 1, 1) := by decide +kernel
theorem d_M_wide_2 : decode b_M_wide 2 = .ok (.invokevirtual 79, 3) := by decide +kernel
theorem d_M_wide_5 : decode b_M_wide 5 = .ok (.ifCond .ne (5), 3) := by decide +kernel
theorem d_M_wide_8 : decode b_M_wide 8 = .ok (.iconst (-1), 1) := by decide +kernel
theorem d_M_wide_9 : decode b_M_wide 9 = .ok (.ireturn, 1) := by decide +kernel
theorem d_M_wide_10 : decode b_M_wide 10 = .ok (.aload_n 0, 1) := by decide +kernel
theorem d_M_wide_11 : decode b_M_wide 11 = .ok (.iload_n 1, 1) := by decide +kernel
theorem d_M_wide_12 : decode b_M_wide 12 = .ok (.invokevirtual 87, 3) := by decide +kernel
theorem d_M_wide_15 : decode b_M_wide 15 = .ok (.lconst 0, 1) := by decide +kernel
theorem d_M_wide_16 : decode b_M_wide 16 = .ok (.lstore_n 2, 1) := by decide +kernel
theorem d_M_wide_17 : decode b_M_wide 17 = .ok (.iconst 0, 1) := by decide +kernel
theorem d_M_wide_18 : decode b_M_wide 18 = .ok (.istore 4, 2) := by decide +kernel
theorem d_M_wide_20 : decode b_M_wide 20 = .ok (.iload 4, 2) := by decide +kernel
theorem d_M_wide_22 : decode b_M_wide 22 = .ok (.aload_n 0, 1) := by decide +kernel
theorem d_M_wide_23 : decode b_M_wide 23 = .ok (.getfield 45, 3) := by decide +kernel
theorem d_M_wide_26 : decode b_M_wide 26 = .ok (.if_icmp .ge (76), 3) := by decide +kernel
theorem d_M_wide_29 : decode b_M_wide 29 = .ok (.iconst 0, 1) := by decide +kernel
theorem d_M_wide_30 : decode b_M_wide 30 = .ok (.istore 5, 2) := by decide +kernel
theorem d_M_wide_32 : decode b_M_wide 32 = .ok (.iload 5, 2) := by decide +kernel
theorem d_M_wide_34 : decode b_M_wide 34 = .ok (.iload 4, 2) := by decide +kernel
theorem d_M_wide_36 : decode b_M_wide 36 = .ok (.if_icmp .ge (60), 3) := by decide +kernel
theorem d_M_wide_39 : decode b_M_wide 39 = .ok (.aload_n 0, 1) := by decide +kernel
theorem d_M_wide_40 : decode b_M_wide 40 = .ok (.getfield 19, 3) := by decide +kernel
theorem d_M_wide_43 : decode b_M_wide 43 = .ok (.iload 4, 2) := by decide +kernel
theorem d_M_wide_45 : decode b_M_wide 45 = .ok (.iaload, 1) := by decide +kernel
theorem d_M_wide_46 : decode b_M_wide 46 = .ok (.i2l, 1) := by decide +kernel
theorem d_M_wide_47 : decode b_M_wide 47 = .ok (.aload_n 0, 1) := by decide +kernel
theorem d_M_wide_48 : decode b_M_wide 48 = .ok (.getfield 22, 3) := by decide +kernel
theorem d_M_wide_51 : decode b_M_wide 51 = .ok (.iload 4, 2) := by decide +kernel
theorem d_M_wide_53 : decode b_M_wide 53 = .ok (.iaload, 1) := by decide +kernel
theorem d_M_wide_54 : decode b_M_wide 54 = .ok (.i2l, 1) := by decide +kernel
theorem d_M_wide_55 : decode b_M_wide 55 = .ok (.aload_n 0, 1) := by decide +kernel
theorem d_M_wide_56 : decode b_M_wide 56 = .ok (.getfield 19, 3) := by decide +kernel
theorem d_M_wide_59 : decode b_M_wide 59 = .ok (.iload 5, 2) := by decide +kernel
theorem d_M_wide_61 : decode b_M_wide 61 = .ok (.iaload, 1) := by decide +kernel
theorem d_M_wide_62 : decode b_M_wide 62 = .ok (.i2l, 1) := by decide +kernel
theorem d_M_wide_63 : decode b_M_wide 63 = .ok (.aload_n 0, 1) := by decide +kernel
theorem d_M_wide_64 : decode b_M_wide 64 = .ok (.getfield 22, 3) := by decide +kernel
theorem d_M_wide_67 : decode b_M_wide 67 = .ok (.iload 5, 2) := by decide +kernel
theorem d_M_wide_69 : decode b_M_wide 69 = .ok (.iaload, 1) := by decide +kernel
theorem d_M_wide_70 : decode b_M_wide 70 = .ok (.i2l, 1) := by decide +kernel
theorem d_M_wide_71 : decode b_M_wide 71 = .ok (.invokestatic 62, 3) := by decide +kernel
theorem d_M_wide_74 : decode b_M_wide 74 = .ok (.lstore 6, 2) := by decide +kernel
theorem d_M_wide_76 : decode b_M_wide 76 = .ok (.lload 6, 2) := by decide +kernel
theorem d_M_wide_78 : decode b_M_wide 78 = .ok (.lload_n 2, 1) := by decide +kernel
theorem d_M_wide_79 : decode b_M_wide 79 = .ok (.lcmp, 1) := by decide +kernel
theorem d_M_wide_80 : decode b_M_wide 80 = .ok (.ifCond .le (8), 3) := by decide +kernel
theorem d_M_wide_83 : decode b_M_wide 83 = .ok (.lload 6, 2) := by decide +kernel
theorem d_M_wide_85 : decode b_M_wide 85 = .ok (.goto (4), 3) := by decide +kernel
theorem d_M_wide_88 : decode b_M_wide 88 = .ok (.lload_n 2, 1) := by decide +kernel
theorem d_M_wide_89 : decode b_M_wide 89 = .ok (.lstore_n 2, 1) := by decide +kernel
theorem d_M_wide_90 : decode b_M_wide 90 = .ok (.iinc 5 (1), 3) := by decide +kernel
theorem d_M_wide_93 : decode b_M_wide 93 = .ok (.goto (-61), 3) := by decide +kernel
theorem d_M_wide_96 : decode b_M_wide 96 = .ok (.iinc 4 (1), 3) := by decide +kernel
theorem d_M_wide_99 : decode b_M_wide 99 = .ok (.goto (-79), 3) := by decide +kernel
theorem d_M_wide_102 : decode b_M_wide 102 = .ok (.aload_n 0, 1) := by decide +kernel
theorem d_M_wide_103 : decode b_M_wide 103 = .ok (.getfield 45, 3) := by decide +kernel
theorem d_M_wide_106 : decode b_M_wide 106 = .ok (.ifCond .ne (8), 3) := by decide +kernel
theorem d_M_wide_109 : decode b_M_wide 109 = .ok (.bipush (-3), 2) := by decide +kernel
theorem d_M_wide_111 : decode b_M_wide 111 = .ok (.goto (5), 3) := by decide +kernel
theorem d_M_wide_114 : decode b_M_wide 114 = .ok (.lload_n 2, 1) := by decide +kernel
theorem d_M_wide_115 : decode b_M_wide 115 = .ok (.l2i, 1) := by decide +kernel
theorem d_M_wide_116 : decode b_M_wide 116 = .ok (.ireturn, 1) := by decide +kernel
theorem d_M_width_0 : decode b_M_width 0 = .ok (.aload_n 0, 1) := by decide +kernel
theorem d_M_width_1 : decode b_M_width 1 = .ok (.iload_n 1, 1) := by decide +kernel
theorem d_M_width_2 : decode b_M_width 2 = .ok (.invokevirtual 79, 3) := by decide +kernel
theorem d_M_width_5 : decode b_M_width 5 = .ok (.ifCond .ne (5), 3) := by decide +kernel
theorem d_M_width_8 : decode b_M_width 8 = .ok (.iconst (-1), 1) := by decide +kernel
theorem d_M_width_9 : decode b_M_width 9 = .ok (.ireturn, 1) := by decide +kernel
theorem d_M_width_10 : decode b_M_width 10 = .ok (.aload_n 0, 1) := by decide +kernel
theorem d_M_width_11 : decode b_M_width 11 = .ok (.iload_n 1, 1) := by decide +kernel
theorem d_M_width_12 : decode b_M_width 12 = .ok (.invokevirtual 87, 3) := by decide +kernel
theorem d_M_width_15 : decode b_M_width 15 = .ok (.aload_n 0, 1) := by decide +kernel
theorem d_M_width_16 : decode b_M_width 16 = .ok (.getfield 45, 3) := by decide +kernel
theorem d_M_width_19 : decode b_M_width 19 = .ok (.ifCond .ne (6), 3) := by decide +kernel
theorem d_M_width_22 : decode b_M_width 22 = .ok (.bipush (-3), 2) := by decide +kernel
theorem d_M_width_24 : decode b_M_width 24 = .ok (.ireturn, 1) := by decide +kernel
theorem d_M_width_25 : decode b_M_width 25 = .ok (.iconst 0, 1) := by decide +kernel
theorem d_M_width_26 : decode b_M_width 26 = .ok (.istore_n 2, 1) := by decide +kernel
theorem d_M_width_27 : decode b_M_width 27 = .ok (.aload_n 0, 1) := by decide +kernel
theorem d_M_width_28 : decode b_M_width 28 = .ok (.lconst 0, 1) := by decide +kernel
theorem d_M_width_29 : decode b_M_width 29 = .ok (.putfield 130, 3) := by decide +kernel
theorem d_M_width_32 : decode b_M_width 32 = .ok (.aload_n 0, 1) := by decide +kernel
theorem d_M_width_33 : decode b_M_width 33 = .ok (.lconst 1, 1) := by decide +kernel
theorem d_M_width_34 : decode b_M_width 34 = .ok (.putfield 133, 3) := by decide +kernel
theorem d_M_width_37 : decode b_M_width 37 = .ok (.iconst 0, 1) := by decide +kernel
theorem d_M_width_38 : decode b_M_width 38 = .ok (.istore_n 3, 1) := by decide +kernel
theorem d_M_width_39 : decode b_M_width 39 = .ok (.iload_n 3, 1) := by decide +kernel
theorem d_M_width_40 : decode b_M_width 40 = .ok (.aload_n 0, 1) := by decide +kernel
theorem d_M_width_41 : decode b_M_width 41 = .ok (.getfield 45, 3) := by decide +kernel
theorem d_M_width_44 : decode b_M_width 44 = .ok (.if_icmp .ge (113), 3) := by decide +kernel
theorem d_M_width_47 : decode b_M_width 47 = .ok (.iconst 0, 1) := by decide +kernel
theorem d_M_width_48 : decode b_M_width 48 = .ok (.istore 4, 2) := by decide +kernel
theorem d_M_width_50 : decode b_M_width 50 = .ok (.iload 4, 2) := by decide +kernel
theorem d_M_width_52 : decode b_M_width 52 = .ok (.iload_n 3, 1) := by decide +kernel
theorem d_M_width_53 : decode b_M_width 53 = .ok (.if_icmp .ge (98), 3) := by decide +kernel
theorem d_M_width_56 : decode b_M_width 56 = .ok (.aload_n 0, 1) := by decide +kernel
theorem d_M_width_57 : decode b_M_width 57 = .ok (.iload_n 3, 1) := by decide +kernel
theorem d_M_width_58 : decode b_M_width 58 = .ok (.iload 4, 2) := by decide +kernel
theorem d_M_width_60 : decode b_M_width 60 = .ok (.invokevirtual 136, 3) := by decide +kernel
theorem d_M_width_63 : decode b_M_width 63 = .ok (.aload_n 0, 1) := by decide +kernel
theorem d_M_width_64 : decode b_M_width 64 = .ok (.getfield 19, 3) := by decide +kernel
theorem d_M_width_67 : decode b_M_width 67 = .ok (.iload_n 3, 1) := by decide +kernel
theorem d_M_width_68 : decode b_M_width 68 = .ok (.iaload, 1) := by decide +kernel
theorem d_M_width_69 : decode b_M_width 69 = .ok (.i2l, 1) := by decide +kernel
theorem d_M_width_70 : decode b_M_width 70 = .ok (.aload_n 0, 1) := by decide +kernel
theorem d_M_width_71 : decode b_M_width 71 = .ok (.getfield 22, 3) := by decide +kernel
theorem d_M_width_74 : decode b_M_width 74 = .ok (.iload_n 3, 1) := by decide +kernel
theorem d_M_width_75 : decode b_M_width 75 = .ok (.iaload, 1) := by decide +kernel
theorem d_M_width_76 : decode b_M_width 76 = .ok (.i2l, 1) := by decide +kernel
theorem d_M_width_77 : decode b_M_width 77 = .ok (.aload_n 0, 1) := by decide +kernel
theorem d_M_width_78 : decode b_M_width 78 = .ok (.getfield 19, 3) := by decide +kernel
theorem d_M_width_81 : decode b_M_width 81 = .ok (.iload 4, 2) := by decide +kernel
theorem d_M_width_83 : decode b_M_width 83 = .ok (.iaload, 1) := by decide +kernel
theorem d_M_width_84 : decode b_M_width 84 = .ok (.i2l, 1) := by decide +kernel
theorem d_M_width_85 : decode b_M_width 85 = .ok (.aload_n 0, 1) := by decide +kernel
theorem d_M_width_86 : decode b_M_width 86 = .ok (.getfield 22, 3) := by decide +kernel
theorem d_M_width_89 : decode b_M_width 89 = .ok (.iload 4, 2) := by decide +kernel
theorem d_M_width_91 : decode b_M_width 91 = .ok (.iaload, 1) := by decide +kernel
theorem d_M_width_92 : decode b_M_width 92 = .ok (.i2l, 1) := by decide +kernel
theorem d_M_width_93 : decode b_M_width 93 = .ok (.invokestatic 62, 3) := by decide +kernel
theorem d_M_width_96 : decode b_M_width 96 = .ok (.lstore 5, 2) := by decide +kernel
theorem d_M_width_98 : decode b_M_width 98 = .ok (.aload_n 0, 1) := by decide +kernel
theorem d_M_width_99 : decode b_M_width 99 = .ok (.getfield 140, 3) := by decide +kernel
theorem d_M_width_102 : decode b_M_width 102 = .ok (.aload_n 0, 1) := by decide +kernel
theorem d_M_width_103 : decode b_M_width 103 = .ok (.getfield 140, 3) := by decide +kernel
theorem d_M_width_106 : decode b_M_width 106 = .ok (.lmul, 1) := by decide +kernel
theorem d_M_width_107 : decode b_M_width 107 = .ok (.lstore 7, 2) := by decide +kernel
theorem d_M_width_109 : decode b_M_width 109 = .ok (.iload_n 2, 1) := by decide +kernel
theorem d_M_width_110 : decode b_M_width 110 = .ok (.ifCond .eq (21), 3) := by decide +kernel
theorem d_M_width_113 : decode b_M_width 113 = .ok (.lload 7, 2) := by decide +kernel
theorem d_M_width_115 : decode b_M_width 115 = .ok (.aload_n 0, 1) := by decide +kernel
theorem d_M_width_116 : decode b_M_width 116 = .ok (.getfield 133, 3) := by decide +kernel
theorem d_M_width_119 : decode b_M_width 119 = .ok (.lmul, 1) := by decide +kernel
theorem d_M_width_120 : decode b_M_width 120 = .ok (.aload_n 0, 1) := by decide +kernel
theorem d_M_width_121 : decode b_M_width 121 = .ok (.getfield 130, 3) := by decide +kernel
theorem d_M_width_124 : decode b_M_width 124 = .ok (.lload 5, 2) := by decide +kernel
theorem d_M_width_126 : decode b_M_width 126 = .ok (.lmul, 1) := by decide +kernel
theorem d_M_width_127 : decode b_M_width 127 = .ok (.lcmp, 1) := by decide +kernel
theorem d_M_width_128 : decode b_M_width 128 = .ok (.ifCond .ge (17), 3) := by decide +kernel
theorem d_M_width_131 : decode b_M_width 131 = .ok (.aload_n 0, 1) := by decide +kernel
theorem d_M_width_132 : decode b_M_width 132 = .ok (.lload 7, 2) := by decide +kernel
theorem d_M_width_134 : decode b_M_width 134 = .ok (.putfield 130, 3) := by decide +kernel
theorem d_M_width_137 : decode b_M_width 137 = .ok (.aload_n 0, 1) := by decide +kernel
theorem d_M_width_138 : decode b_M_width 138 = .ok (.lload 5, 2) := by decide +kernel
theorem d_M_width_140 : decode b_M_width 140 = .ok (.putfield 133, 3) := by decide +kernel
theorem d_M_width_143 : decode b_M_width 143 = .ok (.iconst 1, 1) := by decide +kernel
theorem d_M_width_144 : decode b_M_width 144 = .ok (.istore_n 2, 1) := by decide +kernel
theorem d_M_width_145 : decode b_M_width 145 = .ok (.iinc 4 (1), 3) := by decide +kernel
theorem d_M_width_148 : decode b_M_width 148 = .ok (.goto (-98), 3) := by decide +kernel
theorem d_M_width_151 : decode b_M_width 151 = .ok (.iinc 3 (1), 3) := by decide +kernel
theorem d_M_width_154 : decode b_M_width 154 = .ok (.goto (-115), 3) := by decide +kernel
end
section
theorem d_M_width_157 : decode b_M_width 157 = .ok (.aload_n 0, 1) := by decide +kernel
theorem d_M_width_158 : decode b_M_width 158 = .ok (.aload_n 0, 1) := by decide +kernel
theorem d_M_width_159 : decode b_M_width 159 = .ok (.getfield 130, 3) := by decide +kernel
theorem d_M_width_162 : decode b_M_width 162 = .ok (.aload_n 0, 1) := by decide +kernel
theorem d_M_width_163 : decode b_M_width 163 = .ok (.getfield 133, 3) := by decide +kernel
theorem d_M_width_166 : decode b_M_width 166 = .ok (.invokevirtual 143, 3) := by decide +kernel
theorem d_M_width_169 : decode b_M_width 169 = .ok (.iconst 1, 1) := by decide +kernel
theorem d_M_width_170 : decode b_M_width 170 = .ok (.ireturn, 1) := by decide +kernel
theorem d_M_spread_0 : decode b_M_spread 0 = .ok (.lconst 0, 1) := by decide +kernel
theorem d_M_spread_1 : decode b_M_spread 1 = .ok (.lstore_n 3, 1) := by decide +kernel
theorem d_M_spread_2 : decode b_M_spread 2 = .ok (.lconst 0, 1) := by decide +kernel
theorem d_M_spread_3 : decode b_M_spread 3 = .ok (.lstore 5, 2) := by decide +kernel
theorem d_M_spread_5 : decode b_M_spread 5 = .ok (.iconst 0, 1) := by decide +kernel
theorem d_M_spread_6 : decode b_M_spread 6 = .ok (.istore 7, 2) := by decide +kernel
theorem d_M_spread_8 : decode b_M_spread 8 = .ok (.iload 7, 2) := by decide +kernel
theorem d_M_spread_10 : decode b_M_spread 10 = .ok (.aload_n 0, 1) := by decide +kernel
theorem d_M_spread_11 : decode b_M_spread 11 = .ok (.getfield 45, 3) := by decide +kernel
theorem d_M_spread_14 : decode b_M_spread 14 = .ok (.if_icmp .ge (89), 3) := by decide +kernel
theorem d_M_spread_17 : decode b_M_spread 17 = .ok (.aload_n 0, 1) := by decide +kernel
theorem d_M_spread_18 : decode b_M_spread 18 = .ok (.getfield 19, 3) := by decide +kernel
theorem d_M_spread_21 : decode b_M_spread 21 = .ok (.iload_n 1, 1) := by decide +kernel
theorem d_M_spread_22 : decode b_M_spread 22 = .ok (.iaload, 1) := by decide +kernel
theorem d_M_spread_23 : decode b_M_spread 23 = .ok (.i2l, 1) := by decide +kernel
theorem d_M_spread_24 : decode b_M_spread 24 = .ok (.aload_n 0, 1) := by decide +kernel
theorem d_M_spread_25 : decode b_M_spread 25 = .ok (.getfield 22, 3) := by decide +kernel
theorem d_M_spread_28 : decode b_M_spread 28 = .ok (.iload_n 1, 1) := by decide +kernel
theorem d_M_spread_29 : decode b_M_spread 29 = .ok (.iaload, 1) := by decide +kernel
theorem d_M_spread_30 : decode b_M_spread 30 = .ok (.i2l, 1) := by decide +kernel
theorem d_M_spread_31 : decode b_M_spread 31 = .ok (.aload_n 0, 1) := by decide +kernel
theorem d_M_spread_32 : decode b_M_spread 32 = .ok (.getfield 19, 3) := by decide +kernel
theorem d_M_spread_35 : decode b_M_spread 35 = .ok (.iload_n 2, 1) := by decide +kernel
theorem d_M_spread_36 : decode b_M_spread 36 = .ok (.iaload, 1) := by decide +kernel
theorem d_M_spread_37 : decode b_M_spread 37 = .ok (.i2l, 1) := by decide +kernel
theorem d_M_spread_38 : decode b_M_spread 38 = .ok (.aload_n 0, 1) := by decide +kernel
theorem d_M_spread_39 : decode b_M_spread 39 = .ok (.getfield 22, 3) := by decide +kernel
theorem d_M_spread_42 : decode b_M_spread 42 = .ok (.iload_n 2, 1) := by decide +kernel
theorem d_M_spread_43 : decode b_M_spread 43 = .ok (.iaload, 1) := by decide +kernel
theorem d_M_spread_44 : decode b_M_spread 44 = .ok (.i2l, 1) := by decide +kernel
theorem d_M_spread_45 : decode b_M_spread 45 = .ok (.aload_n 0, 1) := by decide +kernel
theorem d_M_spread_46 : decode b_M_spread 46 = .ok (.getfield 19, 3) := by decide +kernel
theorem d_M_spread_49 : decode b_M_spread 49 = .ok (.iload 7, 2) := by decide +kernel
theorem d_M_spread_51 : decode b_M_spread 51 = .ok (.iaload, 1) := by decide +kernel
theorem d_M_spread_52 : decode b_M_spread 52 = .ok (.i2l, 1) := by decide +kernel
theorem d_M_spread_53 : decode b_M_spread 53 = .ok (.aload_n 0, 1) := by decide +kernel
theorem d_M_spread_54 : decode b_M_spread 54 = .ok (.getfield 22, 3) := by decide +kernel
theorem d_M_spread_57 : decode b_M_spread 57 = .ok (.iload 7, 2) := by decide +kernel
theorem d_M_spread_59 : decode b_M_spread 59 = .ok (.iaload, 1) := by decide +kernel
theorem d_M_spread_60 : decode b_M_spread 60 = .ok (.i2l, 1) := by decide +kernel
theorem d_M_spread_61 : decode b_M_spread 61 = .ok (.invokestatic 58, 3) := by decide +kernel
theorem d_M_spread_64 : decode b_M_spread 64 = .ok (.lstore 8, 2) := by decide +kernel
theorem d_M_spread_66 : decode b_M_spread 66 = .ok (.lload 8, 2) := by decide +kernel
theorem d_M_spread_68 : decode b_M_spread 68 = .ok (.lload_n 3, 1) := by decide +kernel
theorem d_M_spread_69 : decode b_M_spread 69 = .ok (.lcmp, 1) := by decide +kernel
theorem d_M_spread_70 : decode b_M_spread 70 = .ok (.ifCond .ge (8), 3) := by decide +kernel
theorem d_M_spread_73 : decode b_M_spread 73 = .ok (.lload 8, 2) := by decide +kernel
theorem d_M_spread_75 : decode b_M_spread 75 = .ok (.goto (4), 3) := by decide +kernel
theorem d_M_spread_78 : decode b_M_spread 78 = .ok (.lload_n 3, 1) := by decide +kernel
theorem d_M_spread_79 : decode b_M_spread 79 = .ok (.lstore_n 3, 1) := by decide +kernel
theorem d_M_spread_80 : decode b_M_spread 80 = .ok (.lload 8, 2) := by decide +kernel
theorem d_M_spread_82 : decode b_M_spread 82 = .ok (.lload 5, 2) := by decide +kernel
theorem d_M_spread_84 : decode b_M_spread 84 = .ok (.lcmp, 1) := by decide +kernel
theorem d_M_spread_85 : decode b_M_spread 85 = .ok (.ifCond .le (8), 3) := by decide +kernel
theorem d_M_spread_88 : decode b_M_spread 88 = .ok (.lload 8, 2) := by decide +kernel
theorem d_M_spread_90 : decode b_M_spread 90 = .ok (.goto (5), 3) := by decide +kernel
theorem d_M_spread_93 : decode b_M_spread 93 = .ok (.lload 5, 2) := by decide +kernel
theorem d_M_spread_95 : decode b_M_spread 95 = .ok (.lstore 5, 2) := by decide +kernel
theorem d_M_spread_97 : decode b_M_spread 97 = .ok (.iinc 7 (1), 3) := by decide +kernel
theorem d_M_spread_100 : decode b_M_spread 100 = .ok (.goto (-92), 3) := by decide +kernel
theorem d_M_spread_103 : decode b_M_spread 103 = .ok (.aload_n 0, 1) := by decide +kernel
theorem d_M_spread_104 : decode b_M_spread 104 = .ok (.lload 5, 2) := by decide +kernel
theorem d_M_spread_106 : decode b_M_spread 106 = .ok (.lload_n 3, 1) := by decide +kernel
theorem d_M_spread_107 : decode b_M_spread 107 = .ok (.lsub, 1) := by decide +kernel
theorem d_M_spread_108 : decode b_M_spread 108 = .ok (.putfield 140, 3) := by decide +kernel
theorem d_M_spread_111 : decode b_M_spread 111 = .ok (.return_, 1) := by decide +kernel
theorem d_M_isAcross_0 : decode b_M_isAcross 0 = .ok (.iconst 1, 1) := by decide +kernel
theorem d_M_isAcross_1 : decode b_M_isAcross 1 = .ok (.istore_n 3, 1) := by decide +kernel
theorem d_M_isAcross_2 : decode b_M_isAcross 2 = .ok (.iconst 0, 1) := by decide +kernel
theorem d_M_isAcross_3 : decode b_M_isAcross 3 = .ok (.istore 4, 2) := by decide +kernel
theorem d_M_isAcross_5 : decode b_M_isAcross 5 = .ok (.iload 4, 2) := by decide +kernel
theorem d_M_isAcross_7 : decode b_M_isAcross 7 = .ok (.aload_n 0, 1) := by decide +kernel
theorem d_M_isAcross_8 : decode b_M_isAcross 8 = .ok (.getfield 45, 3) := by decide +kernel
theorem d_M_isAcross_11 : decode b_M_isAcross 11 = .ok (.if_icmp .ge (91), 3) := by decide +kernel
theorem d_M_isAcross_14 : decode b_M_isAcross 14 = .ok (.iload_n 3, 1) := by decide +kernel
theorem d_M_isAcross_15 : decode b_M_isAcross 15 = .ok (.ifCond .eq (87), 3) := by decide +kernel
theorem d_M_isAcross_18 : decode b_M_isAcross 18 = .ok (.aload_n 0, 1) := by decide +kernel
theorem d_M_isAcross_19 : decode b_M_isAcross 19 = .ok (.getfield 19, 3) := by decide +kernel
theorem d_M_isAcross_22 : decode b_M_isAcross 22 = .ok (.iload 4, 2) := by decide +kernel
theorem d_M_isAcross_24 : decode b_M_isAcross 24 = .ok (.iaload, 1) := by decide +kernel
theorem d_M_isAcross_25 : decode b_M_isAcross 25 = .ok (.aload_n 0, 1) := by decide +kernel
theorem d_M_isAcross_26 : decode b_M_isAcross 26 = .ok (.getfield 19, 3) := by decide +kernel
theorem d_M_isAcross_29 : decode b_M_isAcross 29 = .ok (.iload_n 1, 1) := by decide +kernel
theorem d_M_isAcross_30 : decode b_M_isAcross 30 = .ok (.iaload, 1) := by decide +kernel
theorem d_M_isAcross_31 : decode b_M_isAcross 31 = .ok (.isub, 1) := by decide +kernel
theorem d_M_isAcross_32 : decode b_M_isAcross 32 = .ok (.i2l, 1) := by decide +kernel
theorem d_M_isAcross_33 : decode b_M_isAcross 33 = .ok (.aload_n 0, 1) := by decide +kernel
theorem d_M_isAcross_34 : decode b_M_isAcross 34 = .ok (.getfield 19, 3) := by decide +kernel
theorem d_M_isAcross_37 : decode b_M_isAcross 37 = .ok (.iload 4, 2) := by decide +kernel
theorem d_M_isAcross_39 : decode b_M_isAcross 39 = .ok (.iaload, 1) := by decide +kernel
theorem d_M_isAcross_40 : decode b_M_isAcross 40 = .ok (.aload_n 0, 1) := by decide +kernel
theorem d_M_isAcross_41 : decode b_M_isAcross 41 = .ok (.getfield 19, 3) := by decide +kernel
theorem d_M_isAcross_44 : decode b_M_isAcross 44 = .ok (.iload_n 2, 1) := by decide +kernel
theorem d_M_isAcross_45 : decode b_M_isAcross 45 = .ok (.iaload, 1) := by decide +kernel
theorem d_M_isAcross_46 : decode b_M_isAcross 46 = .ok (.isub, 1) := by decide +kernel
theorem d_M_isAcross_47 : decode b_M_isAcross 47 = .ok (.i2l, 1) := by decide +kernel
theorem d_M_isAcross_48 : decode b_M_isAcross 48 = .ok (.lmul, 1) := by decide +kernel
theorem d_M_isAcross_49 : decode b_M_isAcross 49 = .ok (.aload_n 0, 1) := by decide +kernel
theorem d_M_isAcross_50 : decode b_M_isAcross 50 = .ok (.getfield 22, 3) := by decide +kernel
theorem d_M_isAcross_53 : decode b_M_isAcross 53 = .ok (.iload 4, 2) := by decide +kernel
theorem d_M_isAcross_55 : decode b_M_isAcross 55 = .ok (.iaload, 1) := by decide +kernel
theorem d_M_isAcross_56 : decode b_M_isAcross 56 = .ok (.aload_n 0, 1) := by decide +kernel
theorem d_M_isAcross_57 : decode b_M_isAcross 57 = .ok (.getfield 22, 3) := by decide +kernel
theorem d_M_isAcross_60 : decode b_M_isAcross 60 = .ok (.iload_n 1, 1) := by decide +kernel
theorem d_M_isAcross_61 : decode b_M_isAcross 61 = .ok (.iaload, 1) := by decide +kernel
theorem d_M_isAcross_62 : decode b_M_isAcross 62 = .ok (.isub, 1) := by decide +kernel
theorem d_M_isAcross_63 : decode b_M_isAcross 63 = .ok (.i2l, 1) := by decide +kernel
theorem d_M_isAcross_64 : decode b_M_isAcross 64 = .ok (.aload_n 0, 1) := by decide +kernel
theorem d_M_isAcross_65 : decode b_M_isAcross 65 = .ok (.getfield 22, 3) := by decide +kernel
theorem d_M_isAcross_68 : decode b_M_isAcross 68 = .ok (.iload 4, 2) := by decide +kernel
theorem d_M_isAcross_70 : decode b_M_isAcross 70 = .ok (.iaload, 1) := by decide +kernel
theorem d_M_isAcross_71 : decode b_M_isAcross 71 = .ok (.aload_n 0, 1) := by decide +kernel
theorem d_M_isAcross_72 : decode b_M_isAcross 72 = .ok (.getfield 22, 3) := by decide +kernel
theorem d_M_isAcross_75 : decode b_M_isAcross 75 = .ok (.iload_n 2, 1) := by decide +kernel
theorem d_M_isAcross_76 : decode b_M_isAcross 76 = .ok (.iaload, 1) := by decide +kernel
theorem d_M_isAcross_77 : decode b_M_isAcross 77 = .ok (.isub, 1) := by decide +kernel
theorem d_M_isAcross_78 : decode b_M_isAcross 78 = .ok (.i2l, 1) := by decide +kernel
theorem d_M_isAcross_79 : decode b_M_isAcross 79 = .ok (.lmul, 1) := by decide +kernel
theorem d_M_isAcross_80 : decode b_M_isAcross 80 = .ok (.ladd, 1) := by decide +kernel
theorem d_M_isAcross_81 : decode b_M_isAcross 81 = .ok (.lstore 5, 2) := by decide +kernel
theorem d_M_isAcross_83 : decode b_M_isAcross 83 = .ok (.lload 5, 2) := by decide +kernel
theorem d_M_isAcross_85 : decode b_M_isAcross 85 = .ok (.lconst 0, 1) := by decide +kernel
theorem d_M_isAcross_86 : decode b_M_isAcross 86 = .ok (.lcmp, 1) := by decide +kernel
theorem d_M_isAcross_87 : decode b_M_isAcross 87 = .ok (.ifCond .gt (7), 3) := by decide +kernel
theorem d_M_isAcross_90 : decode b_M_isAcross 90 = .ok (.iconst 1, 1) := by decide +kernel
theorem d_M_isAcross_91 : decode b_M_isAcross 91 = .ok (.goto (4), 3) := by decide +kernel
theorem d_M_isAcross_94 : decode b_M_isAcross 94 = .ok (.iconst 0, 1) := by decide +kernel
theorem d_M_isAcross_95 : decode b_M_isAcross 95 = .ok (.istore_n 3, 1) := by decide +kernel
theorem d_M_isAcross_96 : decode b_M_isAcross 96 = .ok (.iinc 4 (1), 3) := by decide +kernel
theorem d_M_isAcross_99 : decode b_M_isAcross 99 = .ok (.goto (-94), 3) := by decide +kernel
theorem d_M_isAcross_102 : decode b_M_isAcross 102 = .ok (.iload_n 3, 1) := by decide +kernel
theorem d_M_isAcross_103 : decode b_M_isAcross 103 = .ok (.ireturn, 1) := by decide +kernel
theorem d_M_isSharp_0 : decode b_M_isSharp 0 = .ok (.aload_n 0, 1) := by decide +kernel
theorem d_M_isSharp_1 : decode b_M_isSharp 1 = .ok (.getfield 19, 3) := by decide +kernel
theorem d_M_isSharp_4 : decode b_M_isSharp 4 = .ok (.iload_n 2, 1) := by decide +kernel
theorem d_M_isSharp_5 : decode b_M_isSharp 5 = .ok (.iaload, 1) := by decide +kernel
theorem d_M_isSharp_6 : decode b_M_isSharp 6 = .ok (.aload_n 0, 1) := by decide +kernel
theorem d_M_isSharp_7 : decode b_M_isSharp 7 = .ok (.getfield 19, 3) := by decide +kernel
theorem d_M_isSharp_10 : decode b_M_isSharp 10 = .ok (.iload_n 1, 1) := by decide +kernel
theorem d_M_isSharp_11 : decode b_M_isSharp 11 = .ok (.iaload, 1) := by decide +kernel
theorem d_M_isSharp_12 : decode b_M_isSharp 12 = .ok (.isub, 1) := by decide +kernel
theorem d_M_isSharp_13 : decode b_M_isSharp 13 = .ok (.i2l, 1) := by decide +kernel
theorem d_M_isSharp_14 : decode b_M_isSharp 14 = .ok (.aload_n 0, 1) := by decide +kernel
theorem d_M_isSharp_15 : decode b_M_isSharp 15 = .ok (.getfield 19, 3) := by decide +kernel
theorem d_M_isSharp_18 : decode b_M_isSharp 18 = .ok (.iload_n 3, 1) := by decide +kernel
theorem d_M_isSharp_19 : decode b_M_isSharp 19 = .ok (.iaload, 1) := by decide +kernel
theorem d_M_isSharp_20 : decode b_M_isSharp 20 = .ok (.aload_n 0, 1) := by decide +kernel
theorem d_M_isSharp_21 : decode b_M_isSharp 21 = .ok (.getfield 19, 3) := by decide +kernel
theorem d_M_isSharp_24 : decode b_M_isSharp 24 = .ok (.iload_n 1, 1) := by decide +kernel
theorem d_M_isSharp_25 : decode b_M_isSharp 25 = .ok (.iaload, 1) := by decide +kernel
theorem d_M_isSharp_26 : decode b_M_isSharp 26 = .ok (.isub, 1) := by decide +kernel
theorem d_M_isSharp_27 : decode b_M_isSharp 27 = .ok (.i2l, 1) := by decide +kernel
theorem d_M_isSharp_28 : decode b_M_isSharp 28 = .ok (.lmul, 1) := by decide +kernel
theorem d_M_isSharp_29 : decode b_M_isSharp 29 = .ok (.aload_n 0, 1) := by decide +kernel
theorem d_M_isSharp_30 : decode b_M_isSharp 30 = .ok (.getfield 22, 3) := by decide +kernel
theorem d_M_isSharp_33 : decode b_M_isSharp 33 = .ok (.iload_n 2, 1) := by decide +kernel
theorem d_M_isSharp_34 : decode b_M_isSharp 34 = .ok (.iaload, 1) := by decide +kernel
theorem d_M_isSharp_35 : decode b_M_isSharp 35 = .ok (.aload_n 0, 1) := by decide +kernel
theorem d_M_isSharp_36 : decode b_M_isSharp 36 = .ok (.getfield 22, 3) := by decide +kernel
theorem d_M_isSharp_39 : decode b_M_isSharp 39 = .ok (.iload_n 1, 1) := by decide +kernel
theorem d_M_isSharp_40 : decode b_M_isSharp 40 = .ok (.iaload, 1) := by decide +kernel
theorem d_M_isSharp_41 : decode b_M_isSharp 41 = .ok (.isub, 1) := by decide +kernel
theorem d_M_isSharp_42 : decode b_M_isSharp 42 = .ok (.i2l, 1) := by decide +kernel
theorem d_M_isSharp_43 : decode b_M_isSharp 43 = .ok (.aload_n 0, 1) := by decide +kernel
theorem d_M_isSharp_44 : decode b_M_isSharp 44 = .ok (.getfield 22, 3) := by decide +kernel
theorem d_M_isSharp_47 : decode b_M_isSharp 47 = .ok (.iload_n 3, 1) := by decide +kernel
theorem d_M_isSharp_48 : decode b_M_isSharp 48 = .ok (.iaload, 1) := by decide +kernel
theorem d_M_isSharp_49 : decode b_M_isSharp 49 = .ok (.aload_n 0, 1) := by decide +kernel
theorem d_M_isSharp_50 : decode b_M_isSharp 50 = .ok (.getfield 22, 3) := by decide +kernel
theorem d_M_isSharp_53 : decode b_M_isSharp 53 = .ok (.iload_n 1, 1) := by decide +kernel
theorem d_M_isSharp_54 : decode b_M_isSharp 54 = .ok (.iaload, 1) := by decide +kernel
theorem d_M_isSharp_55 : decode b_M_isSharp 55 = .ok (.isub, 1) := by decide +kernel
theorem d_M_isSharp_56 : decode b_M_isSharp 56 = .ok (.i2l, 1) := by decide +kernel
theorem d_M_isSharp_57 : decode b_M_isSharp 57 = .ok (.lmul, 1) := by decide +kernel
theorem d_M_isSharp_58 : decode b_M_isSharp 58 = .ok (.ladd, 1) := by decide +kernel
theorem d_M_isSharp_59 : decode b_M_isSharp 59 = .ok (.lconst 0, 1) := by decide +kernel
theorem d_M_isSharp_60 : decode b_M_isSharp 60 = .ok (.lcmp, 1) := by decide +kernel
theorem d_M_isSharp_61 : decode b_M_isSharp 61 = .ok (.ifCond .le (7), 3) := by decide +kernel
theorem d_M_isSharp_64 : decode b_M_isSharp 64 = .ok (.iconst 1, 1) := by decide +kernel
theorem d_M_isSharp_65 : decode b_M_isSharp 65 = .ok (.goto (4), 3) := by decide +kernel
theorem d_M_isSharp_68 : decode b_M_isSharp 68 = .ok (.iconst 0, 1) := by decide +kernel
theorem d_M_isSharp_69 : decode b_M_isSharp 69 = .ok (.ireturn, 1) := by decide +kernel
theorem d_M_isRound_0 : decode b_M_isRound 0 = .ok (.ldc2_w 99, 3) := by decide +kernel
theorem d_M_isRound_3 : decode b_M_isRound 3 = .ok (.aload_n 0, 1) := by decide +kernel
theorem d_M_isRound_4 : decode b_M_isRound 4 = .ok (.getfield 19, 3) := by decide +kernel
theorem d_M_isRound_7 : decode b_M_isRound 7 = .ok (.iload_n 1, 1) := by decide +kernel
theorem d_M_isRound_8 : decode b_M_isRound 8 = .ok (.iaload, 1) := by decide +kernel
theorem d_M_isRound_9 : decode b_M_isRound 9 = .ok (.i2l, 1) := by decide +kernel
theorem d_M_isRound_10 : decode b_M_isRound 10 = .ok (.aload_n 0, 1) := by decide +kernel
theorem d_M_isRound_11 : decode b_M_isRound 11 = .ok (.getfield 22, 3) := by decide +kernel
theorem d_M_isRound_14 : decode b_M_isRound 14 = .ok (.iload_n 1, 1) := by decide +kernel
theorem d_M_isRound_15 : decode b_M_isRound 15 = .ok (.iaload, 1) := by decide +kernel
theorem d_M_isRound_16 : decode b_M_isRound 16 = .ok (.i2l, 1) := by decide +kernel
theorem d_M_isRound_17 : decode b_M_isRound 17 = .ok (.aload_n 0, 1) := by decide +kernel
theorem d_M_isRound_18 : decode b_M_isRound 18 = .ok (.getfield 19, 3) := by decide +kernel
theorem d_M_isRound_21 : decode b_M_isRound 21 = .ok (.iload_n 2, 1) := by decide +kernel
theorem d_M_isRound_22 : decode b_M_isRound 22 = .ok (.iaload, 1) := by decide +kernel
theorem d_M_isRound_23 : decode b_M_isRound 23 = .ok (.i2l, 1) := by decide +kernel
theorem d_M_isRound_24 : decode b_M_isRound 24 = .ok (.aload_n 0, 1) := by decide +kernel
theorem d_M_isRound_25 : decode b_M_isRound 25 = .ok (.getfield 22, 3) := by decide +kernel
theorem d_M_isRound_28 : decode b_M_isRound 28 = .ok (.iload_n 2, 1) := by decide +kernel
theorem d_M_isRound_29 : decode b_M_isRound 29 = .ok (.iaload, 1) := by decide +kernel
theorem d_M_isRound_30 : decode b_M_isRound 30 = .ok (.i2l, 1) := by decide +kernel
theorem d_M_isRound_31 : decode b_M_isRound 31 = .ok (.aload_n 0, 1) := by decide +kernel
theorem d_M_isRound_32 : decode b_M_isRound 32 = .ok (.getfield 19, 3) := by decide +kernel
theorem d_M_isRound_35 : decode b_M_isRound 35 = .ok (.iload_n 3, 1) := by decide +kernel
theorem d_M_isRound_36 : decode b_M_isRound 36 = .ok (.iaload, 1) := by decide +kernel
theorem d_M_isRound_37 : decode b_M_isRound 37 = .ok (.i2l, 1) := by decide +kernel
theorem d_M_isRound_38 : decode b_M_isRound 38 = .ok (.aload_n 0, 1) := by decide +kernel
theorem d_M_isRound_39 : decode b_M_isRound 39 = .ok (.getfield 22, 3) := by decide +kernel
theorem d_M_isRound_42 : decode b_M_isRound 42 = .ok (.iload_n 3, 1) := by decide +kernel
theorem d_M_isRound_43 : decode b_M_isRound 43 = .ok (.iaload, 1) := by decide +kernel
theorem d_M_isRound_44 : decode b_M_isRound 44 = .ok (.i2l, 1) := by decide +kernel
theorem d_M_isRound_45 : decode b_M_isRound 45 = .ok (.invokestatic 58, 3) := by decide +kernel
theorem d_M_isRound_48 : decode b_M_isRound 48 = .ok (.lmul, 1) := by decide +kernel
theorem d_M_isRound_49 : decode b_M_isRound 49 = .ok (.lstore 4, 2) := by decide +kernel
theorem d_M_isRound_51 : decode b_M_isRound 51 = .ok (.lload 4, 2) := by decide +kernel
theorem d_M_isRound_53 : decode b_M_isRound 53 = .ok (.lconst 0, 1) := by decide +kernel
theorem d_M_isRound_54 : decode b_M_isRound 54 = .ok (.lcmp, 1) := by decide +kernel
theorem d_M_isRound_55 : decode b_M_isRound 55 = .ok (.ifCond .le (33), 3) := by decide +kernel
theorem d_M_isRound_58 : decode b_M_isRound 58 = .ok (.aload_n 0, 1) := by decide +kernel
theorem d_M_isRound_59 : decode b_M_isRound 59 = .ok (.iload_n 1, 1) := by decide +kernel
theorem d_M_isRound_60 : decode b_M_isRound 60 = .ok (.iload_n 2, 1) := by decide +kernel
theorem d_M_isRound_61 : decode b_M_isRound 61 = .ok (.iload_n 3, 1) := by decide +kernel
theorem d_M_isRound_62 : decode b_M_isRound 62 = .ok (.invokevirtual 146, 3) := by decide +kernel
theorem d_M_isRound_65 : decode b_M_isRound 65 = .ok (.ifCond .eq (23), 3) := by decide +kernel
theorem d_M_isRound_68 : decode b_M_isRound 68 = .ok (.aload_n 0, 1) := by decide +kernel
theorem d_M_isRound_69 : decode b_M_isRound 69 = .ok (.iload_n 2, 1) := by decide +kernel
theorem d_M_isRound_70 : decode b_M_isRound 70 = .ok (.iload_n 1, 1) := by decide +kernel
theorem d_M_isRound_71 : decode b_M_isRound 71 = .ok (.iload_n 3, 1) := by decide +kernel
theorem d_M_isRound_72 : decode b_M_isRound 72 = .ok (.invokevirtual 146, 3) := by decide +kernel
theorem d_M_isRound_75 : decode b_M_isRound 75 = .ok (.ifCond .eq (13), 3) := by decide +kernel
theorem d_M_isRound_78 : decode b_M_isRound 78 = .ok (.aload_n 0, 1) := by decide +kernel
theorem d_M_isRound_79 : decode b_M_isRound 79 = .ok (.iload_n 3, 1) := by decide +kernel
theorem d_M_isRound_80 : decode b_M_isRound 80 = .ok (.iload_n 1, 1) := by decide +kernel
theorem d_M_isRound_81 : decode b_M_isRound 81 = .ok (.iload_n 2, 1) := by decide +kernel
theorem d_M_isRound_82 : decode b_M_isRound 82 = .ok (.invokevirtual 146, 3) := by decide +kernel
theorem d_M_isRound_85 : decode b_M_isRound 85 = .ok (.ifCond .ne (5), 3) := by decide +kernel
theorem d_M_isRound_88 : decode b_M_isRound 88 = .ok (.iconst 0, 1) := by decide +kernel
theorem d_M_isRound_89 : decode b_M_isRound 89 = .ok (.ireturn, 1) := by decide +kernel
theorem d_M_isRound_90 : decode b_M_isRound 90 = .ok (.aload_n 0, 1) := by decide +kernel
theorem d_M_isRound_91 : decode b_M_isRound 91 = .ok (.getfield 19, 3) := by decide +kernel
theorem d_M_isRound_94 : decode b_M_isRound 94 = .ok (.iload_n 1, 1) := by decide +kernel
theorem d_M_isRound_95 : decode b_M_isRound 95 = .ok (.iaload, 1) := by decide +kernel
theorem d_M_isRound_96 : decode b_M_isRound 96 = .ok (.i2l, 1) := by decide +kernel
theorem d_M_isRound_97 : decode b_M_isRound 97 = .ok (.aload_n 0, 1) := by decide +kernel
theorem d_M_isRound_98 : decode b_M_isRound 98 = .ok (.getfield 22, 3) := by decide +kernel
theorem d_M_isRound_101 : decode b_M_isRound 101 = .ok (.iload_n 1, 1) := by decide +kernel
theorem d_M_isRound_102 : decode b_M_isRound 102 = .ok (.iaload, 1) := by decide +kernel
theorem d_M_isRound_103 : decode b_M_isRound 103 = .ok (.i2l, 1) := by decide +kernel
theorem d_M_isRound_104 : decode b_M_isRound 104 = .ok (.aload_n 0, 1) := by decide +kernel
theorem d_M_isRound_105 : decode b_M_isRound 105 = .ok (.getfield 19, 3) := by decide +kernel
theorem d_M_isRound_108 : decode b_M_isRound 108 = .ok (.iload_n 2, 1) := by decide +kernel
theorem d_M_isRound_109 : decode b_M_isRound 109 = .ok (.iaload, 1) := by decide +kernel
theorem d_M_isRound_110 : decode b_M_isRound 110 = .ok (.i2l, 1) := by decide +kernel
theorem d_M_isRound_111 : decode b_M_isRound 111 = .ok (.aload_n 0, 1) := by decide +kernel
theorem d_M_isRound_112 : decode b_M_isRound 112 = .ok (.getfield 22, 3) := by decide +kernel
theorem d_M_isRound_115 : decode b_M_isRound 115 = .ok (.iload_n 2, 1) := by decide +kernel
theorem d_M_isRound_116 : decode b_M_isRound 116 = .ok (.iaload, 1) := by decide +kernel
theorem d_M_isRound_117 : decode b_M_isRound 117 = .ok (.i2l, 1) := by decide +kernel
theorem d_M_isRound_118 : decode b_M_isRound 118 = .ok (.invokestatic 62, 3) := by decide +kernel
theorem d_M_isRound_121 : decode b_M_isRound 121 = .ok (.lstore 6, 2) := by decide +kernel
theorem d_M_isRound_123 : decode b_M_isRound 123 = .ok (.aload_n 0, 1) := by decide +kernel
theorem d_M_isRound_124 : decode b_M_isRound 124 = .ok (.getfield 19, 3) := by decide +kernel
theorem d_M_isRound_127 : decode b_M_isRound 127 = .ok (.iload_n 1, 1) := by decide +kernel
theorem d_M_isRound_128 : decode b_M_isRound 128 = .ok (.iaload, 1) := by decide +kernel
theorem d_M_isRound_129 : decode b_M_isRound 129 = .ok (.i2l, 1) := by decide +kernel
theorem d_M_isRound_130 : decode b_M_isRound 130 = .ok (.aload_n 0, 1) := by decide +kernel
theorem d_M_isRound_131 : decode b_M_isRound 131 = .ok (.getfield 22, 3) := by decide +kernel
theorem d_M_isRound_134 : decode b_M_isRound 134 = .ok (.iload_n 1, 1) := by decide +kernel
theorem d_M_isRound_135 : decode b_M_isRound 135 = .ok (.iaload, 1) := by decide +kernel
theorem d_M_isRound_136 : decode b_M_isRound 136 = .ok (.i2l, 1) := by decide +kernel
theorem d_M_isRound_137 : decode b_M_isRound 137 = .ok (.aload_n 0, 1) := by decide +kernel
theorem d_M_isRound_138 : decode b_M_isRound 138 = .ok (.getfield 19, 3) := by decide +kernel
theorem d_M_isRound_141 : decode b_M_isRound 141 = .ok (.iload_n 3, 1) := by decide +kernel
theorem d_M_isRound_142 : decode b_M_isRound 142 = .ok (.iaload, 1) := by decide +kernel
theorem d_M_isRound_143 : decode b_M_isRound 143 = .ok (.i2l, 1) := by decide +kernel
theorem d_M_isRound_144 : decode b_M_isRound 144 = .ok (.aload_n 0, 1) := by decide +kernel
theorem d_M_isRound_145 : decode b_M_isRound 145 = .ok (.getfield 22, 3) := by decide +kernel
theorem d_M_isRound_148 : decode b_M_isRound 148 = .ok (.iload_n 3, 1) := by decide +kernel
theorem d_M_isRound_149 : decode b_M_isRound 149 = .ok (.iaload, 1) := by decide +kernel
theorem d_M_isRound_150 : decode b_M_isRound 150 = .ok (.i2l, 1) := by decide +kernel
theorem d_M_isRound_151 : decode b_M_isRound 151 = .ok (.invokestatic 62, 3) := by decide +kernel
theorem d_M_isRound_154 : decode b_M_isRound 154 = .ok (.lstore 8, 2) := by decide +kernel
theorem d_M_isRound_156 : decode b_M_isRound 156 = .ok (.lload 6, 2) := by decide +kernel
theorem d_M_isRound_158 : decode b_M_isRound 158 = .ok (.aload_n 0, 1) := by decide +kernel
theorem d_M_isRound_159 : decode b_M_isRound 159 = .ok (.getfield 22, 3) := by decide +kernel
theorem d_M_isRound_162 : decode b_M_isRound 162 = .ok (.iload_n 3, 1) := by decide +kernel
theorem d_M_isRound_163 : decode b_M_isRound 163 = .ok (.iaload, 1) := by decide +kernel
theorem d_M_isRound_164 : decode b_M_isRound 164 = .ok (.aload_n 0, 1) := by decide +kernel
theorem d_M_isRound_165 : decode b_M_isRound 165 = .ok (.getfield 22, 3) := by decide +kernel
theorem d_M_isRound_168 : decode b_M_isRound 168 = .ok (.iload_n 1, 1) := by decide +kernel
theorem d_M_isRound_169 : decode b_M_isRound 169 = .ok (.iaload, 1) := by decide +kernel
theorem d_M_isRound_170 : decode b_M_isRound 170 = .ok (.isub, 1) := by decide +kernel
theorem d_M_isRound_171 : decode b_M_isRound 171 = .ok (.i2l, 1) := by decide +kernel
theorem d_M_isRound_172 : decode b_M_isRound 172 = .ok (.lmul, 1) := by decide +kernel
theorem d_M_isRound_173 : decode b_M_isRound 173 = .ok (.lload 8, 2) := by decide +kernel
theorem d_M_isRound_175 : decode b_M_isRound 175 = .ok (.aload_n 0, 1) := by decide +kernel
theorem d_M_isRound_176 : decode b_M_isRound 176 = .ok (.getfield 22, 3) := by decide +kernel
theorem d_M_isRound_179 : decode b_M_isRound 179 = .ok (.iload_n 2, 1) := by decide +kernel
theorem d_M_isRound_180 : decode b_M_isRound 180 = .ok (.iaload, 1) := by decide +kernel
theorem d_M_isRound_181 : decode b_M_isRound 181 = .ok (.aload_n 0, 1) := by decide +kernel
theorem d_M_isRound_182 : decode b_M_isRound 182 = .ok (.getfield 22, 3) := by decide +kernel
theorem d_M_isRound_185 : decode b_M_isRound 185 = .ok (.iload_n 1, 1) := by decide +kernel
theorem d_M_isRound_186 : decode b_M_isRound 186 = .ok (.iaload, 1) := by decide +kernel
theorem d_M_isRound_187 : decode b_M_isRound 187 = .ok (.isub, 1) := by decide +kernel
theorem d_M_isRound_188 : decode b_M_isRound 188 = .ok (.i2l, 1) := by decide +kernel
theorem d_M_isRound_189 : decode b_M_isRound 189 = .ok (.lmul, 1) := by decide +kernel
theorem d_M_isRound_190 : decode b_M_isRound 190 = .ok (.lsub, 1) := by decide +kernel
theorem d_M_isRound_191 : decode b_M_isRound 191 = .ok (.lstore 10, 2) := by decide +kernel
theorem d_M_isRound_193 : decode b_M_isRound 193 = .ok (.lload 8, 2) := by decide +kernel
theorem d_M_isRound_195 : decode b_M_isRound 195 = .ok (.aload_n 0, 1) := by decide +kernel
theorem d_M_isRound_196 : decode b_M_isRound 196 = .ok (.getfield 19, 3) := by decide +kernel
theorem d_M_isRound_199 : decode b_M_isRound 199 = .ok (.iload_n 2, 1) := by decide +kernel
theorem d_M_isRound_200 : decode b_M_isRound 200 = .ok (.iaload, 1) := by decide +kernel
theorem d_M_isRound_201 : decode b_M_isRound 201 = .ok (.aload_n 0, 1) := by decide +kernel
theorem d_M_isRound_202 : decode b_M_isRound 202 = .ok (.getfield 19, 3) := by decide +kernel
theorem d_M_isRound_205 : decode b_M_isRound 205 = .ok (.iload_n 1, 1) := by decide +kernel
theorem d_M_isRound_206 : decode b_M_isRound 206 = .ok (.iaload, 1) := by decide +kernel
theorem d_M_isRound_207 : decode b_M_isRound 207 = .ok (.isub, 1) := by decide +kernel
theorem d_M_isRound_208 : decode b_M_isRound 208 = .ok (.i2l, 1) := by decide +kernel
theorem d_M_isRound_209 : decode b_M_isRound 209 = .ok (.lmul, 1) := by decide +kernel
theorem d_M_isRound_210 : decode b_M_isRound 210 = .ok (.lload 6, 2) := by decide +kernel
theorem d_M_isRound_212 : decode b_M_isRound 212 = .ok (.aload_n 0, 1) := by decide +kernel
theorem d_M_isRound_213 : decode b_M_isRound 213 = .ok (.getfield 19, 3) := by decide +kernel
theorem d_M_isRound_216 : decode b_M_isRound 216 = .ok (.iload_n 3, 1) := by decide +kernel
theorem d_M_isRound_217 : decode b_M_isRound 217 = .ok (.iaload, 1) := by decide +kernel
theorem d_M_isRound_218 : decode b_M_isRound 218 = .ok (.aload_n 0, 1) := by decide +kernel
theorem d_M_isRound_219 : decode b_M_isRound 219 = .ok (.getfield 19, 3) := by decide +kernel
theorem d_M_isRound_222 : decode b_M_isRound 222 = .ok (.iload_n 1, 1) := by decide +kernel
theorem d_M_isRound_223 : decode b_M_isRound 223 = .ok (.iaload, 1) := by decide +kernel
theorem d_M_isRound_224 : decode b_M_isRound 224 = .ok (.isub, 1) := by decide +kernel
theorem d_M_isRound_225 : decode b_M_isRound 225 = .ok (.i2l, 1) := by decide +kernel
theorem d_M_isRound_226 : decode b_M_isRound 226 = .ok (.lmul, 1) := by decide +kernel
theorem d_M_isRound_227 : decode b_M_isRound 227 = .ok (.lsub, 1) := by decide +kernel
theorem d_M_isRound_228 : decode b_M_isRound 228 = .ok (.lstore 12, 2) := by decide +kernel
theorem d_M_isRound_230 : decode b_M_isRound 230 = .ok (.iconst 1, 1) := by decide +kernel
theorem d_M_isRound_231 : decode b_M_isRound 231 = .ok (.istore 14, 2) := by decide +kernel
theorem d_M_isRound_233 : decode b_M_isRound 233 = .ok (.iconst 0, 1) := by decide +kernel
theorem d_M_isRound_234 : decode b_M_isRound 234 = .ok (.istore 15, 2) := by decide +kernel
theorem d_M_isRound_236 : decode b_M_isRound 236 = .ok (.iload 15, 2) := by decide +kernel
theorem d_M_isRound_238 : decode b_M_isRound 238 = .ok (.aload_n 0, 1) := by decide +kernel
theorem d_M_isRound_239 : decode b_M_isRound 239 = .ok (.getfield 45, 3) := by decide +kernel
theorem d_M_isRound_242 : decode b_M_isRound 242 = .ok (.if_icmp .ge (88), 3) := by decide +kernel
theorem d_M_isRound_245 : decode b_M_isRound 245 = .ok (.iload 14, 2) := by decide +kernel
theorem d_M_isRound_247 : decode b_M_isRound 247 = .ok (.ifCond .eq (83), 3) := by decide +kernel
theorem d_M_isRound_250 : decode b_M_isRound 250 = .ok (.aload_n 0, 1) := by decide +kernel
theorem d_M_isRound_251 : decode b_M_isRound 251 = .ok (.getfield 19, 3) := by decide +kernel
theorem d_M_isRound_254 : decode b_M_isRound 254 = .ok (.iload 15, 2) := by decide +kernel
theorem d_M_isRound_256 : decode b_M_isRound 256 = .ok (.iaload, 1) := by decide +kernel
theorem d_M_isRound_257 : decode b_M_isRound 257 = .ok (.aload_n 0, 1) := by decide +kernel
theorem d_M_isRound_258 : decode b_M_isRound 258 = .ok (.getfield 19, 3) := by decide +kernel
theorem d_M_isRound_261 : decode b_M_isRound 261 = .ok (.iload_n 1, 1) := by decide +kernel
theorem d_M_isRound_262 : decode b_M_isRound 262 = .ok (.iaload, 1) := by decide +kernel
theorem d_M_isRound_263 : decode b_M_isRound 263 = .ok (.isub, 1) := by decide +kernel
theorem d_M_isRound_264 : decode b_M_isRound 264 = .ok (.i2l, 1) := by decide +kernel
theorem d_M_isRound_265 : decode b_M_isRound 265 = .ok (.lstore 16, 2) := by decide +kernel
theorem d_M_isRound_267 : decode b_M_isRound 267 = .ok (.aload_n 0, 1) := by decide +kernel
theorem d_M_isRound_268 : decode b_M_isRound 268 = .ok (.getfield 22, 3) := by decide +kernel
theorem d_M_isRound_271 : decode b_M_isRound 271 = .ok (.iload 15, 2) := by decide +kernel
theorem d_M_isRound_273 : decode b_M_isRound 273 = .ok (.iaload, 1) := by decide +kernel
theorem d_M_isRound_274 : decode b_M_isRound 274 = .ok (.aload_n 0, 1) := by decide +kernel
theorem d_M_isRound_275 : decode b_M_isRound 275 = .ok (.getfield 22, 3) := by decide +kernel
theorem d_M_isRound_278 : decode b_M_isRound 278 = .ok (.iload_n 1, 1) := by decide +kernel
theorem d_M_isRound_279 : decode b_M_isRound 279 = .ok (.iaload, 1) := by decide +kernel
theorem d_M_isRound_280 : decode b_M_isRound 280 = .ok (.isub, 1) := by decide +kernel
theorem d_M_isRound_281 : decode b_M_isRound 281 = .ok (.i2l, 1) := by decide +kernel
theorem d_M_isRound_282 : decode b_M_isRound 282 = .ok (.lstore 18, 2) := by decide +kernel
theorem d_M_isRound_284 : decode b_M_isRound 284 = .ok (.lload 16, 2) := by decide +kernel
theorem d_M_isRound_286 : decode b_M_isRound 286 = .ok (.lload 16, 2) := by decide +kernel
theorem d_M_isRound_288 : decode b_M_isRound 288 = .ok (.lmul, 1) := by decide +kernel
theorem d_M_isRound_289 : decode b_M_isRound 289 = .ok (.lload 18, 2) := by decide +kernel
theorem d_M_isRound_291 : decode b_M_isRound 291 = .ok (.lload 18, 2) := by decide +kernel
theorem d_M_isRound_293 : decode b_M_isRound 293 = .ok (.lmul, 1) := by decide +kernel
theorem d_M_isRound_294 : decode b_M_isRound 294 = .ok (.ladd, 1) := by decide +kernel
theorem d_M_isRound_295 : decode b_M_isRound 295 = .ok (.lload 4, 2) := by decide +kernel
theorem d_M_isRound_297 : decode b_M_isRound 297 = .ok (.lmul, 1) := by decide +kernel
theorem d_M_isRound_298 : decode b_M_isRound 298 = .ok (.ldc2_w 99, 3) := by decide +kernel
theorem d_M_isRound_301 : decode b_M_isRound 301 = .ok (.lload 16, 2) := by decide +kernel
theorem d_M_isRound_303 : decode b_M_isRound 303 = .ok (.lload 10, 2) := by decide +kernel
theorem d_M_isRound_305 : decode b_M_isRound 305 = .ok (.lmul, 1) := by decide +kernel
theorem d_M_isRound_306 : decode b_M_isRound 306 = .ok (.lload 18, 2) := by decide +kernel
theorem d_M_isRound_308 : decode b_M_isRound 308 = .ok (.lload 12, 2) := by decide +kernel
theorem d_M_isRound_310 : decode b_M_isRound 310 = .ok (.lmul, 1) := by decide +kernel
theorem d_M_isRound_311 : decode b_M_isRound 311 = .ok (.ladd, 1) := by decide +kernel
theorem d_M_isRound_312 : decode b_M_isRound 312 = .ok (.lmul, 1) := by decide +kernel
theorem d_M_isRound_313 : decode b_M_isRound 313 = .ok (.lcmp, 1) := by decide +kernel
theorem d_M_isRound_314 : decode b_M_isRound 314 = .ok (.ifCond .gt (7), 3) := by decide +kernel
theorem d_M_isRound_317 : decode b_M_isRound 317 = .ok (.iconst 1, 1) := by decide +kernel
theorem d_M_isRound_318 : decode b_M_isRound 318 = .ok (.goto (4), 3) := by decide +kernel
theorem d_M_isRound_321 : decode b_M_isRound 321 = .ok (.iconst 0, 1) := by decide +kernel
theorem d_M_isRound_322 : decode b_M_isRound 322 = .ok (.istore 14, 2) := by decide +kernel
theorem d_M_isRound_324 : decode b_M_isRound 324 = .ok (.iinc 15 (1), 3) := by decide +kernel
theorem d_M_isRound_327 : decode b_M_isRound 327 = .ok (.goto (-91), 3) := by decide +kernel
theorem d_M_isRound_330 : decode b_M_isRound 330 = .ok (.aload_n 0, 1) := by decide +kernel
theorem d_M_isRound_331 : decode b_M_isRound 331 = .ok (.aload_n 0, 1) := by decide +kernel
theorem d_M_isRound_332 : decode b_M_isRound 332 = .ok (.getfield 19, 3) := by decide +kernel
theorem d_M_isRound_335 : decode b_M_isRound 335 = .ok (.iload_n 1, 1) := by decide +kernel
theorem d_M_isRound_336 : decode b_M_isRound 336 = .ok (.iaload, 1) := by decide +kernel
theorem d_M_isRound_337 : decode b_M_isRound 337 = .ok (.i2l, 1) := by decide +kernel
theorem d_M_isRound_338 : decode b_M_isRound 338 = .ok (.lload 4, 2) := by decide +kernel
theorem d_M_isRound_340 : decode b_M_isRound 340 = .ok (.lmul, 1) := by decide +kernel
theorem d_M_isRound_341 : decode b_M_isRound 341 = .ok (.lload 10, 2) := by decide +kernel
theorem d_M_isRound_343 : decode b_M_isRound 343 = .ok (.ladd, 1) := by decide +kernel
theorem d_M_isRound_344 : decode b_M_isRound 344 = .ok (.putfield 149, 3) := by decide +kernel
theorem d_M_isRound_347 : decode b_M_isRound 347 = .ok (.aload_n 0, 1) := by decide +kernel
theorem d_M_isRound_348 : decode b_M_isRound 348 = .ok (.aload_n 0, 1) := by decide +kernel
theorem d_M_isRound_349 : decode b_M_isRound 349 = .ok (.getfield 22, 3) := by decide +kernel
theorem d_M_isRound_352 : decode b_M_isRound 352 = .ok (.iload_n 1, 1) := by decide +kernel
theorem d_M_isRound_353 : decode b_M_isRound 353 = .ok (.iaload, 1) := by decide +kernel
theorem d_M_isRound_354 : decode b_M_isRound 354 = .ok (.i2l, 1) := by decide +kernel
theorem d_M_isRound_355 : decode b_M_isRound 355 = .ok (.lload 4, 2) := by decide +kernel
theorem d_M_isRound_357 : decode b_M_isRound 357 = .ok (.lmul, 1) := by decide +kernel
theorem d_M_isRound_358 : decode b_M_isRound 358 = .ok (.lload 12, 2) := by decide +kernel
theorem d_M_isRound_360 : decode b_M_isRound 360 = .ok (.ladd, 1) := by decide +kernel
theorem d_M_isRound_361 : decode b_M_isRound 361 = .ok (.putfield 152, 3) := by decide +kernel
theorem d_M_isRound_364 : decode b_M_isRound 364 = .ok (.aload_n 0, 1) := by decide +kernel
theorem d_M_isRound_365 : decode b_M_isRound 365 = .ok (.lload 4, 2) := by decide +kernel
theorem d_M_isRound_367 : decode b_M_isRound 367 = .ok (.putfield 155, 3) := by decide +kernel
theorem d_M_isRound_370 : decode b_M_isRound 370 = .ok (.aload_n 0, 1) := by decide +kernel
theorem d_M_isRound_371 : decode b_M_isRound 371 = .ok (.lload 10, 2) := by decide +kernel
theorem d_M_isRound_373 : decode b_M_isRound 373 = .ok (.lload 10, 2) := by decide +kernel
theorem d_M_isRound_375 : decode b_M_isRound 375 = .ok (.lmul, 1) := by decide +kernel
theorem d_M_isRound_376 : decode b_M_isRound 376 = .ok (.lload 12, 2) := by decide +kernel
theorem d_M_isRound_378 : decode b_M_isRound 378 = .ok (.lload 12, 2) := by decide +kernel
theorem d_M_isRound_380 : decode b_M_isRound 380 = .ok (.lmul, 1) := by decide +kernel
theorem d_M_isRound_381 : decode b_M_isRound 381 = .ok (.ladd, 1) := by decide +kernel
theorem d_M_isRound_382 : decode b_M_isRound 382 = .ok (.putfield 158, 3) := by decide +kernel
theorem d_M_isRound_385 : decode b_M_isRound 385 = .ok (.aload_n 0, 1) := by decide +kernel
theorem d_M_isRound_386 : decode b_M_isRound 386 = .ok (.lload 4, 2) := by decide +kernel
theorem d_M_isRound_388 : decode b_M_isRound 388 = .ok (.lload 4, 2) := by decide +kernel
theorem d_M_isRound_390 : decode b_M_isRound 390 = .ok (.lmul, 1) := by decide +kernel
theorem d_M_isRound_391 : decode b_M_isRound 391 = .ok (.putfield 161, 3) := by decide +kernel
theorem d_M_isRound_394 : decode b_M_isRound 394 = .ok (.iload 14, 2) := by decide +kernel
theorem d_M_isRound_396 : decode b_M_isRound 396 = .ok (.ireturn, 1) := by decide +kernel
theorem d_M_findCircle_0 : decode b_M_findCircle 0 = .ok (.iconst 0, 1) := by decide +kernel
theorem d_M_findCircle_1 : decode b_M_findCircle 1 = .ok (.istore_n 1, 1) := by decide +kernel
theorem d_M_findCircle_2 : decode b_M_findCircle 2 = .ok (.iload_n 1, 1) := by decide +kernel
theorem d_M_findCircle_3 : decode b_M_findCircle 3 = .ok (.aload_n 0, 1) := by decide +kernel
theorem d_M_findCircle_4 : decode b_M_findCircle 4 = .ok (.getfield 45, 3) := by decide +kernel
theorem d_M_findCircle_7 : decode b_M_findCircle 7 = .ok (.if_icmp .ge (118), 3) := by decide +kernel
theorem d_M_findCircle_10 : decode b_M_findCircle 10 = .ok (.iconst 0, 1) := by decide +kernel
theorem d_M_findCircle_11 : decode b_M_findCircle 11 = .ok (.istore_n 2, 1) := by decide +kernel
theorem d_M_findCircle_12 : decode b_M_findCircle 12 = .ok (.iload_n 2, 1) := by decide +kernel
theorem d_M_findCircle_13 : decode b_M_findCircle 13 = .ok (.iload_n 1, 1) := by decide +kernel
theorem d_M_findCircle_14 : decode b_M_findCircle 14 = .ok (.if_icmp .gt (105), 3) := by decide +kernel
theorem d_M_findCircle_17 : decode b_M_findCircle 17 = .ok (.aload_n 0, 1) := by decide +kernel
theorem d_M_findCircle_18 : decode b_M_findCircle 18 = .ok (.iload_n 1, 1) := by decide +kernel
theorem d_M_findCircle_19 : decode b_M_findCircle 19 = .ok (.iload_n 2, 1) := by decide +kernel
theorem d_M_findCircle_20 : decode b_M_findCircle 20 = .ok (.invokevirtual 164, 3) := by decide +kernel
theorem d_M_findCircle_23 : decode b_M_findCircle 23 = .ok (.ifCond .eq (90), 3) := by decide +kernel
theorem d_M_findCircle_26 : decode b_M_findCircle 26 = .ok (.aload_n 0, 1) := by decide +kernel
theorem d_M_findCircle_27 : decode b_M_findCircle 27 = .ok (.aload_n 0, 1) := by decide +kernel
theorem d_M_findCircle_28 : decode b_M_findCircle 28 = .ok (.getfield 19, 3) := by decide +kernel
theorem d_M_findCircle_31 : decode b_M_findCircle 31 = .ok (.iload_n 1, 1) := by decide +kernel
theorem d_M_findCircle_32 : decode b_M_findCircle 32 = .ok (.iaload, 1) := by decide +kernel
theorem d_M_findCircle_33 : decode b_M_findCircle 33 = .ok (.aload_n 0, 1) := by decide +kernel
theorem d_M_findCircle_34 : decode b_M_findCircle 34 = .ok (.getfield 19, 3) := by decide +kernel
theorem d_M_findCircle_37 : decode b_M_findCircle 37 = .ok (.iload_n 2, 1) := by decide +kernel
theorem d_M_findCircle_38 : decode b_M_findCircle 38 = .ok (.iaload, 1) := by decide +kernel
theorem d_M_findCircle_39 : decode b_M_findCircle 39 = .ok (.iadd, 1) := by decide +kernel
theorem d_M_findCircle_40 : decode b_M_findCircle 40 = .ok (.i2l, 1) := by decide +kernel
theorem d_M_findCircle_41 : decode b_M_findCircle 41 = .ok (.putfield 149, 3) := by decide +kernel
theorem d_M_findCircle_44 : decode b_M_findCircle 44 = .ok (.aload_n 0, 1) := by decide +kernel
theorem d_M_findCircle_45 : decode b_M_findCircle 45 = .ok (.aload_n 0, 1) := by decide +kernel
theorem d_M_findCircle_46 : decode b_M_findCircle 46 = .ok (.getfield 22, 3) := by decide +kernel
theorem d_M_findCircle_49 : decode b_M_findCircle 49 = .ok (.iload_n 1, 1) := by decide +kernel
theorem d_M_findCircle_50 : decode b_M_findCircle 50 = .ok (.iaload, 1) := by decide +kernel
theorem d_M_findCircle_51 : decode b_M_findCircle 51 = .ok (.aload_n 0, 1) := by decide +kernel
theorem d_M_findCircle_52 : decode b_M_findCircle 52 = .ok (.getfield 22, 3) := by decide +kernel
theorem d_M_findCircle_55 : decode b_M_findCircle 55 = .ok (.iload_n 2, 1) := by decide +kernel
theorem d_M_findCircle_56 : decode b_M_findCircle 56 = .ok (.iaload, 1) := by decide +kernel
theorem d_M_findCircle_57 : decode b_M_findCircle 57 = .ok (.iadd, 1) := by decide +kernel
theorem d_M_findCircle_58 : decode b_M_findCircle 58 = .ok (.i2l, 1) := by decide +kernel
theorem d_M_findCircle_59 : decode b_M_findCircle 59 = .ok (.putfield 152, 3) := by decide +kernel
theorem d_M_findCircle_62 : decode b_M_findCircle 62 = .ok (.aload_n 0, 1) := by decide +kernel
theorem d_M_findCircle_63 : decode b_M_findCircle 63 = .ok (.ldc2_w 99, 3) := by decide +kernel
theorem d_M_findCircle_66 : decode b_M_findCircle 66 = .ok (.putfield 155, 3) := by decide +kernel
theorem d_M_findCircle_69 : decode b_M_findCircle 69 = .ok (.aload_n 0, 1) := by decide +kernel
theorem d_M_findCircle_70 : decode b_M_findCircle 70 = .ok (.aload_n 0, 1) := by decide +kernel
theorem d_M_findCircle_71 : decode b_M_findCircle 71 = .ok (.getfield 19, 3) := by decide +kernel
theorem d_M_findCircle_74 : decode b_M_findCircle 74 = .ok (.iload_n 1, 1) := by decide +kernel
theorem d_M_findCircle_75 : decode b_M_findCircle 75 = .ok (.iaload, 1) := by decide +kernel
theorem d_M_findCircle_76 : decode b_M_findCircle 76 = .ok (.i2l, 1) := by decide +kernel
theorem d_M_findCircle_77 : decode b_M_findCircle 77 = .ok (.aload_n 0, 1) := by decide +kernel
theorem d_M_findCircle_78 : decode b_M_findCircle 78 = .ok (.getfield 22, 3) := by decide +kernel
theorem d_M_findCircle_81 : decode b_M_findCircle 81 = .ok (.iload_n 1, 1) := by decide +kernel
theorem d_M_findCircle_82 : decode b_M_findCircle 82 = .ok (.iaload, 1) := by decide +kernel
theorem d_M_findCircle_83 : decode b_M_findCircle 83 = .ok (.i2l, 1) := by decide +kernel
theorem d_M_findCircle_84 : decode b_M_findCircle 84 = .ok (.aload_n 0, 1) := by decide +kernel
theorem d_M_findCircle_85 : decode b_M_findCircle 85 = .ok (.getfield 19, 3) := by decide +kernel
theorem d_M_findCircle_88 : decode b_M_findCircle 88 = .ok (.iload_n 2, 1) := by decide +kernel
theorem d_M_findCircle_89 : decode b_M_findCircle 89 = .ok (.iaload, 1) := by decide +kernel
theorem d_M_findCircle_90 : decode b_M_findCircle 90 = .ok (.i2l, 1) := by decide +kernel
theorem d_M_findCircle_91 : decode b_M_findCircle 91 = .ok (.aload_n 0, 1) := by decide +kernel
theorem d_M_findCircle_92 : decode b_M_findCircle 92 = .ok (.getfield 22, 3) := by decide +kernel
theorem d_M_findCircle_95 : decode b_M_findCircle 95 = .ok (.iload_n 2, 1) := by decide +kernel
theorem d_M_findCircle_96 : decode b_M_findCircle 96 = .ok (.iaload, 1) := by decide +kernel
theorem d_M_findCircle_97 : decode b_M_findCircle 97 = .ok (.i2l, 1) := by decide +kernel
theorem d_M_findCircle_98 : decode b_M_findCircle 98 = .ok (.invokestatic 62, 3) := by decide +kernel
theorem d_M_findCircle_101 : decode b_M_findCircle 101 = .ok (.putfield 158, 3) := by decide +kernel
theorem d_M_findCircle_104 : decode b_M_findCircle 104 = .ok (.aload_n 0, 1) := by decide +kernel
theorem d_M_findCircle_105 : decode b_M_findCircle 105 = .ok (.ldc2_w 168, 3) := by decide +kernel
theorem d_M_findCircle_108 : decode b_M_findCircle 108 = .ok (.putfield 161, 3) := by decide +kernel
theorem d_M_findCircle_111 : decode b_M_findCircle 111 = .ok (.iconst 1, 1) := by decide +kernel
theorem d_M_findCircle_112 : decode b_M_findCircle 112 = .ok (.ireturn, 1) := by decide +kernel
theorem d_M_findCircle_113 : decode b_M_findCircle 113 = .ok (.iinc 2 (1), 3) := by decide +kernel
theorem d_M_findCircle_116 : decode b_M_findCircle 116 = .ok (.goto (-104), 3) := by decide +kernel
theorem d_M_findCircle_119 : decode b_M_findCircle 119 = .ok (.iinc 1 (1), 3) := by decide +kernel
theorem d_M_findCircle_122 : decode b_M_findCircle 122 = .ok (.goto (-120), 3) := by decide +kernel
theorem d_M_findCircle_125 : decode b_M_findCircle 125 = .ok (.iconst 0, 1) := by decide +kernel
theorem d_M_findCircle_126 : decode b_M_findCircle 126 = .ok (.istore_n 1, 1) := by decide +kernel
theorem d_M_findCircle_127 : decode b_M_findCircle 127 = .ok (.iload_n 1, 1) := by decide +kernel
theorem d_M_findCircle_128 : decode b_M_findCircle 128 = .ok (.aload_n 0, 1) := by decide +kernel
theorem d_M_findCircle_129 : decode b_M_findCircle 129 = .ok (.getfield 45, 3) := by decide +kernel
theorem d_M_findCircle_132 : decode b_M_findCircle 132 = .ok (.if_icmp .ge (68), 3) := by decide +kernel
theorem d_M_findCircle_135 : decode b_M_findCircle 135 = .ok (.iconst 0, 1) := by decide +kernel
theorem d_M_findCircle_136 : decode b_M_findCircle 136 = .ok (.istore_n 2, 1) := by decide +kernel
theorem d_M_findCircle_137 : decode b_M_findCircle 137 = .ok (.iload_n 2, 1) := by decide +kernel
theorem d_M_findCircle_138 : decode b_M_findCircle 138 = .ok (.aload_n 0, 1) := by decide +kernel
theorem d_M_findCircle_139 : decode b_M_findCircle 139 = .ok (.getfield 45, 3) := by decide +kernel
theorem d_M_findCircle_142 : decode b_M_findCircle 142 = .ok (.if_icmp .ge (52), 3) := by decide +kernel
theorem d_M_findCircle_145 : decode b_M_findCircle 145 = .ok (.iconst 0, 1) := by decide +kernel
theorem d_M_findCircle_146 : decode b_M_findCircle 146 = .ok (.istore_n 3, 1) := by decide +kernel
theorem d_M_findCircle_147 : decode b_M_findCircle 147 = .ok (.iload_n 3, 1) := by decide +kernel
theorem d_M_findCircle_148 : decode b_M_findCircle 148 = .ok (.aload_n 0, 1) := by decide +kernel
theorem d_M_findCircle_149 : decode b_M_findCircle 149 = .ok (.getfield 45, 3) := by decide +kernel
theorem d_M_findCircle_152 : decode b_M_findCircle 152 = .ok (.if_icmp .ge (36), 3) := by decide +kernel
theorem d_M_findCircle_155 : decode b_M_findCircle 155 = .ok (.iload_n 1, 1) := by decide +kernel
theorem d_M_findCircle_156 : decode b_M_findCircle 156 = .ok (.iload_n 2, 1) := by decide +kernel
theorem d_M_findCircle_157 : decode b_M_findCircle 157 = .ok (.if_icmp .eq (25), 3) := by decide +kernel
theorem d_M_findCircle_160 : decode b_M_findCircle 160 = .ok (.iload_n 2, 1) := by decide +kernel
theorem d_M_findCircle_161 : decode b_M_findCircle 161 = .ok (.iload_n 3, 1) := by decide +kernel
theorem d_M_findCircle_162 : decode b_M_findCircle 162 = .ok (.if_icmp .eq (20), 3) := by decide +kernel
theorem d_M_findCircle_165 : decode b_M_findCircle 165 = .ok (.iload_n 1, 1) := by decide +kernel
theorem d_M_findCircle_166 : decode b_M_findCircle 166 = .ok (.iload_n 3, 1) := by decide +kernel
theorem d_M_findCircle_167 : decode b_M_findCircle 167 = .ok (.if_icmp .eq (15), 3) := by decide +kernel
theorem d_M_findCircle_170 : decode b_M_findCircle 170 = .ok (.aload_n 0, 1) := by decide +kernel
theorem d_M_findCircle_171 : decode b_M_findCircle 171 = .ok (.iload_n 1, 1) := by decide +kernel
theorem d_M_findCircle_172 : decode b_M_findCircle 172 = .ok (.iload_n 2, 1) := by decide +kernel
theorem d_M_findCircle_173 : decode b_M_findCircle 173 = .ok (.iload_n 3, 1) := by decide +kernel
theorem d_M_findCircle_174 : decode b_M_findCircle 174 = .ok (.invokevirtual 170, 3) := by decide +kernel
theorem d_M_findCircle_177 : decode b_M_findCircle 177 = .ok (.ifCond .eq (5), 3) := by decide +kernel
theorem d_M_findCircle_180 : decode b_M_findCircle 180 = .ok (.iconst 1, 1) := by decide +kernel
theorem d_M_findCircle_181 : decode b_M_findCircle 181 = .ok (.ireturn, 1) := by decide +kernel
theorem d_M_findCircle_182 : decode b_M_findCircle 182 = .ok (.iinc 3 (1), 3) := by decide +kernel
theorem d_M_findCircle_185 : decode b_M_findCircle 185 = .ok (.goto (-38), 3) := by decide +kernel
theorem d_M_findCircle_188 : decode b_M_findCircle 188 = .ok (.iinc 2 (1), 3) := by decide +kernel
theorem d_M_findCircle_191 : decode b_M_findCircle 191 = .ok (.goto (-54), 3) := by decide +kernel
theorem d_M_findCircle_194 : decode b_M_findCircle 194 = .ok (.iinc 1 (1), 3) := by decide +kernel
theorem d_M_findCircle_197 : decode b_M_findCircle 197 = .ok (.goto (-70), 3) := by decide +kernel
theorem d_M_findCircle_200 : decode b_M_findCircle 200 = .ok (.iconst 0, 1) := by decide +kernel
theorem d_M_findCircle_201 : decode b_M_findCircle 201 = .ok (.ireturn, 1) := by decide +kernel
theorem d_M_circle_0 : decode b_M_circle 0 = .ok (.aload_n 0, 1) := by decide +kernel
theorem d_M_circle_1 : decode b_M_circle 1 = .ok (.iload_n 1, 1) := by decide +kernel
theorem d_M_circle_2 : decode b_M_circle 2 = .ok (.invokevirtual 79, 3) := by decide +kernel
theorem d_M_circle_5 : decode b_M_circle 5 = .ok (.ifCond .ne (5), 3) := by decide +kernel
theorem d_M_circle_8 : decode b_M_circle 8 = .ok (.iconst (-1), 1) := by decide +kernel
theorem d_M_circle_9 : decode b_M_circle 9 = .ok (.ireturn, 1) := by decide +kernel
theorem d_M_circle_10 : decode b_M_circle 10 = .ok (.iload_n 2, 1) := by decide +kernel
theorem d_M_circle_11 : decode b_M_circle 11 = .ok (.iconst 0, 1) := by decide +kernel
theorem d_M_circle_12 : decode b_M_circle 12 = .ok (.iconst 2, 1) := by decide +kernel
theorem d_M_circle_13 : decode b_M_circle 13 = .ok (.invokestatic 83, 3) := by decide +kernel
theorem d_M_circle_16 : decode b_M_circle 16 = .ok (.ifCond .ne (6), 3) := by decide +kernel
theorem d_M_circle_19 : decode b_M_circle 19 = .ok (.bipush (-2), 2) := by decide +kernel
theorem d_M_circle_21 : decode b_M_circle 21 = .ok (.ireturn, 1) := by decide +kernel
theorem d_M_circle_22 : decode b_M_circle 22 = .ok (.aload_n 0, 1) := by decide +kernel
theorem d_M_circle_23 : decode b_M_circle 23 = .ok (.iload_n 1, 1) := by decide +kernel
theorem d_M_circle_24 : decode b_M_circle 24 = .ok (.invokevirtual 87, 3) := by decide +kernel
theorem d_M_circle_27 : decode b_M_circle 27 = .ok (.aload_n 0, 1) := by decide +kernel
theorem d_M_circle_28 : decode b_M_circle 28 = .ok (.invokevirtual 173, 3) := by decide +kernel
theorem d_M_circle_31 : decode b_M_circle 31 = .ok (.ifCond .ne (6), 3) := by decide +kernel
theorem d_M_circle_34 : decode b_M_circle 34 = .ok (.bipush (-3), 2) := by decide +kernel
theorem d_M_circle_36 : decode b_M_circle 36 = .ok (.ireturn, 1) := by decide +kernel
theorem d_M_circle_37 : decode b_M_circle 37 = .ok (.iload_n 2, 1) := by decide +kernel
theorem d_M_circle_38 : decode b_M_circle 38 = .ok (.iconst 2, 1) := by decide +kernel
theorem d_M_circle_39 : decode b_M_circle 39 = .ok (.if_icmp .ne (18), 3) := by decide +kernel
theorem d_M_circle_42 : decode b_M_circle 42 = .ok (.aload_n 0, 1) := by decide +kernel
theorem d_M_circle_43 : decode b_M_circle 43 = .ok (.aload_n 0, 1) := by decide +kernel
theorem d_M_circle_44 : decode b_M_circle 44 = .ok (.getfield 158, 3) := by decide +kernel
theorem d_M_circle_47 : decode b_M_circle 47 = .ok (.aload_n 0, 1) := by decide +kernel
theorem d_M_circle_48 : decode b_M_circle 48 = .ok (.getfield 161, 3) := by decide +kernel
theorem d_M_circle_51 : decode b_M_circle 51 = .ok (.invokevirtual 143, 3) := by decide +kernel
theorem d_M_circle_54 : decode b_M_circle 54 = .ok (.goto (26), 3) := by decide +kernel
theorem d_M_circle_57 : decode b_M_circle 57 = .ok (.aload_n 0, 1) := by decide +kernel
theorem d_M_circle_58 : decode b_M_circle 58 = .ok (.iload_n 2, 1) := by decide +kernel
theorem d_M_circle_59 : decode b_M_circle 59 = .ok (.ifCond .ne (10), 3) := by decide +kernel
theorem d_M_circle_62 : decode b_M_circle 62 = .ok (.aload_n 0, 1) := by decide +kernel
theorem d_M_circle_63 : decode b_M_circle 63 = .ok (.getfield 149, 3) := by decide +kernel
theorem d_M_circle_66 : decode b_M_circle 66 = .ok (.goto (7), 3) := by decide +kernel
theorem d_M_circle_69 : decode b_M_circle 69 = .ok (.aload_n 0, 1) := by decide +kernel
theorem d_M_circle_70 : decode b_M_circle 70 = .ok (.getfield 152, 3) := by decide +kernel
theorem d_M_circle_73 : decode b_M_circle 73 = .ok (.aload_n 0, 1) := by decide +kernel
theorem d_M_circle_74 : decode b_M_circle 74 = .ok (.getfield 155, 3) := by decide +kernel
theorem d_M_circle_77 : decode b_M_circle 77 = .ok (.invokevirtual 143, 3) := by decide +kernel
theorem d_M_circle_80 : decode b_M_circle 80 = .ok (.iconst 1, 1) := by decide +kernel
theorem d_M_circle_81 : decode b_M_circle 81 = .ok (.ireturn, 1) := by decide +kernel
theorem d_M_keep_0 : decode b_M_keep 0 = .ok (.aload_n 0, 1) := by decide +kernel
theorem d_M_keep_1 : decode b_M_keep 1 = .ok (.getfield 39, 3) := by decide +kernel
theorem d_M_keep_4 : decode b_M_keep 4 = .ok (.bipush (8), 2) := by decide +kernel
theorem d_M_keep_6 : decode b_M_keep 6 = .ok (.if_icmp .eq (12), 3) := by decide +kernel
theorem d_M_keep_9 : decode b_M_keep 9 = .ok (.aload_n 0, 1) := by decide +kernel
theorem d_M_keep_10 : decode b_M_keep 10 = .ok (.getfield 51, 3) := by decide +kernel
theorem d_M_keep_13 : decode b_M_keep 13 = .ok (.bipush (24), 2) := by decide +kernel
theorem d_M_keep_15 : decode b_M_keep 15 = .ok (.if_icmp .le (6), 3) := by decide +kernel
theorem d_M_keep_18 : decode b_M_keep 18 = .ok (.bipush (-5), 2) := by decide +kernel
theorem d_M_keep_20 : decode b_M_keep 20 = .ok (.ireturn, 1) := by decide +kernel
theorem d_M_keep_21 : decode b_M_keep 21 = .ok (.iconst 0, 1) := by decide +kernel
theorem d_M_keep_22 : decode b_M_keep 22 = .ok (.istore_n 1, 1) := by decide +kernel
theorem d_M_keep_23 : decode b_M_keep 23 = .ok (.iload_n 1, 1) := by decide +kernel
theorem d_M_keep_24 : decode b_M_keep 24 = .ok (.aload_n 0, 1) := by decide +kernel
theorem d_M_keep_25 : decode b_M_keep 25 = .ok (.getfield 51, 3) := by decide +kernel
theorem d_M_keep_28 : decode b_M_keep 28 = .ok (.if_icmp .ge (49), 3) := by decide +kernel
theorem d_M_keep_31 : decode b_M_keep 31 = .ok (.aload_n 0, 1) := by decide +kernel
theorem d_M_keep_32 : decode b_M_keep 32 = .ok (.getfield 7, 3) := by decide +kernel
theorem d_M_keep_35 : decode b_M_keep 35 = .ok (.bipush (24), 2) := by decide +kernel
theorem d_M_keep_37 : decode b_M_keep 37 = .ok (.aload_n 0, 1) := by decide +kernel
theorem d_M_keep_38 : decode b_M_keep 38 = .ok (.getfield 39, 3) := by decide +kernel
theorem d_M_keep_41 : decode b_M_keep 41 = .ok (.imul, 1) := by decide +kernel
theorem d_M_keep_42 : decode b_M_keep 42 = .ok (.iload_n 1, 1) := by decide +kernel
theorem d_M_keep_43 : decode b_M_keep 43 = .ok (.iadd, 1) := by decide +kernel
theorem d_M_keep_44 : decode b_M_keep 44 = .ok (.aload_n 0, 1) := by decide +kernel
theorem d_M_keep_45 : decode b_M_keep 45 = .ok (.getfield 25, 3) := by decide +kernel
theorem d_M_keep_48 : decode b_M_keep 48 = .ok (.iload_n 1, 1) := by decide +kernel
theorem d_M_keep_49 : decode b_M_keep 49 = .ok (.iaload, 1) := by decide +kernel
theorem d_M_keep_50 : decode b_M_keep 50 = .ok (.iastore, 1) := by decide +kernel
theorem d_M_keep_51 : decode b_M_keep 51 = .ok (.aload_n 0, 1) := by decide +kernel
theorem d_M_keep_52 : decode b_M_keep 52 = .ok (.getfield 13, 3) := by decide +kernel
theorem d_M_keep_55 : decode b_M_keep 55 = .ok (.bipush (24), 2) := by decide +kernel
theorem d_M_keep_57 : decode b_M_keep 57 = .ok (.aload_n 0, 1) := by decide +kernel
theorem d_M_keep_58 : decode b_M_keep 58 = .ok (.getfield 39, 3) := by decide +kernel
theorem d_M_keep_61 : decode b_M_keep 61 = .ok (.imul, 1) := by decide +kernel
theorem d_M_keep_62 : decode b_M_keep 62 = .ok (.iload_n 1, 1) := by decide +kernel
theorem d_M_keep_63 : decode b_M_keep 63 = .ok (.iadd, 1) := by decide +kernel
theorem d_M_keep_64 : decode b_M_keep 64 = .ok (.aload_n 0, 1) := by decide +kernel
theorem d_M_keep_65 : decode b_M_keep 65 = .ok (.getfield 28, 3) := by decide +kernel
theorem d_M_keep_68 : decode b_M_keep 68 = .ok (.iload_n 1, 1) := by decide +kernel
theorem d_M_keep_69 : decode b_M_keep 69 = .ok (.iaload, 1) := by decide +kernel
theorem d_M_keep_70 : decode b_M_keep 70 = .ok (.iastore, 1) := by decide +kernel
theorem d_M_keep_71 : decode b_M_keep 71 = .ok (.iinc 1 (1), 3) := by decide +kernel
theorem d_M_keep_74 : decode b_M_keep 74 = .ok (.goto (-51), 3) := by decide +kernel
theorem d_M_keep_77 : decode b_M_keep 77 = .ok (.aload_n 0, 1) := by decide +kernel
theorem d_M_keep_78 : decode b_M_keep 78 = .ok (.getfield 16, 3) := by decide +kernel
theorem d_M_keep_81 : decode b_M_keep 81 = .ok (.aload_n 0, 1) := by decide +kernel
theorem d_M_keep_82 : decode b_M_keep 82 = .ok (.getfield 39, 3) := by decide +kernel
theorem d_M_keep_85 : decode b_M_keep 85 = .ok (.aload_n 0, 1) := by decide +kernel
theorem d_M_keep_86 : decode b_M_keep 86 = .ok (.getfield 51, 3) := by decide +kernel
theorem d_M_keep_89 : decode b_M_keep 89 = .ok (.iastore, 1) := by decide +kernel
theorem d_M_keep_90 : decode b_M_keep 90 = .ok (.aload_n 0, 1) := by decide +kernel
theorem d_M_keep_91 : decode b_M_keep 91 = .ok (.dup, 1) := by decide +kernel
theorem d_M_keep_92 : decode b_M_keep 92 = .ok (.getfield 39, 3) := by decide +kernel
theorem d_M_keep_95 : decode b_M_keep 95 = .ok (.iconst 1, 1) := by decide +kernel
theorem d_M_keep_96 : decode b_M_keep 96 = .ok (.iadd, 1) := by decide +kernel
theorem d_M_keep_97 : decode b_M_keep 97 = .ok (.putfield 39, 3) := by decide +kernel
theorem d_M_keep_100 : decode b_M_keep 100 = .ok (.aload_n 0, 1) := by decide +kernel
theorem d_M_keep_101 : decode b_M_keep 101 = .ok (.getfield 39, 3) := by decide +kernel
theorem d_M_keep_104 : decode b_M_keep 104 = .ok (.iconst 1, 1) := by decide +kernel
theorem d_M_keep_105 : decode b_M_keep 105 = .ok (.isub, 1) := by decide +kernel
theorem d_M_keep_106 : decode b_M_keep 106 = .ok (.ireturn, 1) := by decide +kernel
theorem d_M_wrong_0 : decode b_M_wrong 0 = .ok (.aload_n 0, 1) := by decide +kernel
theorem d_M_wrong_1 : decode b_M_wrong 1 = .ok (.iload_n 1, 1) := by decide +kernel
theorem d_M_wrong_2 : decode b_M_wrong 2 = .ok (.invokevirtual 79, 3) := by decide +kernel
theorem d_M_wrong_5 : decode b_M_wrong 5 = .ok (.ifCond .eq (11), 3) := by decide +kernel
theorem d_M_wrong_8 : decode b_M_wrong 8 = .ok (.aload_n 0, 1) := by decide +kernel
theorem d_M_wrong_9 : decode b_M_wrong 9 = .ok (.iload_n 2, 1) := by decide +kernel
theorem d_M_wrong_10 : decode b_M_wrong 10 = .ok (.invokevirtual 79, 3) := by decide +kernel
theorem d_M_wrong_13 : decode b_M_wrong 13 = .ok (.ifCond .ne (7), 3) := by decide +kernel
theorem d_M_wrong_16 : decode b_M_wrong 16 = .ok (.iconst (-1), 1) := by decide +kernel
theorem d_M_wrong_17 : decode b_M_wrong 17 = .ok (.goto (27), 3) := by decide +kernel
theorem d_M_wrong_20 : decode b_M_wrong 20 = .ok (.aload_n 0, 1) := by decide +kernel
theorem d_M_wrong_21 : decode b_M_wrong 21 = .ok (.getfield 16, 3) := by decide +kernel
theorem d_M_wrong_24 : decode b_M_wrong 24 = .ok (.iload_n 1, 1) := by decide +kernel
theorem d_M_wrong_25 : decode b_M_wrong 25 = .ok (.iaload, 1) := by decide +kernel
theorem d_M_wrong_26 : decode b_M_wrong 26 = .ok (.ifCond .eq (12), 3) := by decide +kernel
theorem d_M_wrong_29 : decode b_M_wrong 29 = .ok (.aload_n 0, 1) := by decide +kernel
theorem d_M_wrong_30 : decode b_M_wrong 30 = .ok (.getfield 16, 3) := by decide +kernel
theorem d_M_wrong_33 : decode b_M_wrong 33 = .ok (.iload_n 2, 1) := by decide +kernel
theorem d_M_wrong_34 : decode b_M_wrong 34 = .ok (.iaload, 1) := by decide +kernel
theorem d_M_wrong_35 : decode b_M_wrong 35 = .ok (.ifCond .ne (8), 3) := by decide +kernel
theorem d_M_wrong_38 : decode b_M_wrong 38 = .ok (.bipush (-3), 2) := by decide +kernel
theorem d_M_wrong_40 : decode b_M_wrong 40 = .ok (.goto (4), 3) := by decide +kernel
theorem d_M_wrong_43 : decode b_M_wrong 43 = .ok (.iconst 0, 1) := by decide +kernel
theorem d_M_wrong_44 : decode b_M_wrong 44 = .ok (.ireturn, 1) := by decide +kernel
theorem d_M_sum_0 : decode b_M_sum 0 = .ok (.aload_n 0, 1) := by decide +kernel
theorem d_M_sum_1 : decode b_M_sum 1 = .ok (.iload_n 1, 1) := by decide +kernel
theorem d_M_sum_2 : decode b_M_sum 2 = .ok (.iload_n 2, 1) := by decide +kernel
theorem d_M_sum_3 : decode b_M_sum 3 = .ok (.invokevirtual 177, 3) := by decide +kernel
theorem d_M_sum_6 : decode b_M_sum 6 = .ok (.istore_n 3, 1) := by decide +kernel
theorem d_M_sum_7 : decode b_M_sum 7 = .ok (.iload_n 3, 1) := by decide +kernel
theorem d_M_sum_8 : decode b_M_sum 8 = .ok (.ifCond .ge (5), 3) := by decide +kernel
theorem d_M_sum_11 : decode b_M_sum 11 = .ok (.iload_n 3, 1) := by decide +kernel
theorem d_M_sum_12 : decode b_M_sum 12 = .ok (.ireturn, 1) := by decide +kernel
theorem d_M_sum_13 : decode b_M_sum 13 = .ok (.aload_n 0, 1) := by decide +kernel
theorem d_M_sum_14 : decode b_M_sum 14 = .ok (.iload_n 1, 1) := by decide +kernel
theorem d_M_sum_15 : decode b_M_sum 15 = .ok (.iload_n 2, 1) := by decide +kernel
theorem d_M_sum_16 : decode b_M_sum 16 = .ok (.iconst 1, 1) := by decide +kernel
theorem d_M_sum_17 : decode b_M_sum 17 = .ok (.invokevirtual 181, 3) := by decide +kernel
theorem d_M_sum_20 : decode b_M_sum 20 = .ok (.iconst 0, 1) := by decide +kernel
theorem d_M_sum_21 : decode b_M_sum 21 = .ok (.istore 4, 2) := by decide +kernel
theorem d_M_sum_23 : decode b_M_sum 23 = .ok (.iload 4, 2) := by decide +kernel
theorem d_M_sum_25 : decode b_M_sum 25 = .ok (.aload_n 0, 1) := by decide +kernel
theorem d_M_sum_26 : decode b_M_sum 26 = .ok (.getfield 45, 3) := by decide +kernel
theorem d_M_sum_29 : decode b_M_sum 29 = .ok (.if_icmp .ge (50), 3) := by decide +kernel
theorem d_M_sum_32 : decode b_M_sum 32 = .ok (.aload_n 0, 1) := by decide +kernel
theorem d_M_sum_33 : decode b_M_sum 33 = .ok (.getfield 19, 3) := by decide +kernel
theorem d_M_sum_36 : decode b_M_sum 36 = .ok (.iload 4, 2) := by decide +kernel
theorem d_M_sum_38 : decode b_M_sum 38 = .ok (.iaload, 1) := by decide +kernel
theorem d_M_sum_39 : decode b_M_sum 39 = .ok (.sipush (-300), 3) := by decide +kernel
theorem d_M_sum_42 : decode b_M_sum 42 = .ok (.sipush (300), 3) := by decide +kernel
theorem d_M_sum_45 : decode b_M_sum 45 = .ok (.invokestatic 83, 3) := by decide +kernel
theorem d_M_sum_48 : decode b_M_sum 48 = .ok (.ifCond .eq (22), 3) := by decide +kernel
theorem d_M_sum_51 : decode b_M_sum 51 = .ok (.aload_n 0, 1) := by decide +kernel
theorem d_M_sum_52 : decode b_M_sum 52 = .ok (.getfield 22, 3) := by decide +kernel
theorem d_M_sum_55 : decode b_M_sum 55 = .ok (.iload 4, 2) := by decide +kernel
theorem d_M_sum_57 : decode b_M_sum 57 = .ok (.iaload, 1) := by decide +kernel
theorem d_M_sum_58 : decode b_M_sum 58 = .ok (.sipush (-300), 3) := by decide +kernel
theorem d_M_sum_61 : decode b_M_sum 61 = .ok (.sipush (300), 3) := by decide +kernel
theorem d_M_sum_64 : decode b_M_sum 64 = .ok (.invokestatic 83, 3) := by decide +kernel
theorem d_M_sum_67 : decode b_M_sum 67 = .ok (.ifCond .ne (6), 3) := by decide +kernel
theorem d_M_sum_70 : decode b_M_sum 70 = .ok (.bipush (-6), 2) := by decide +kernel
theorem d_M_sum_72 : decode b_M_sum 72 = .ok (.ireturn, 1) := by decide +kernel
theorem d_M_sum_73 : decode b_M_sum 73 = .ok (.iinc 4 (1), 3) := by decide +kernel
theorem d_M_sum_76 : decode b_M_sum 76 = .ok (.goto (-53), 3) := by decide +kernel
theorem d_M_sum_79 : decode b_M_sum 79 = .ok (.aload_n 0, 1) := by decide +kernel
theorem d_M_sum_80 : decode b_M_sum 80 = .ok (.invokevirtual 185, 3) := by decide +kernel
theorem d_M_sum_83 : decode b_M_sum 83 = .ok (.ireturn, 1) := by decide +kernel
theorem d_M_turned_0 : decode b_M_turned 0 = .ok (.aload_n 0, 1) := by decide +kernel
theorem d_M_turned_1 : decode b_M_turned 1 = .ok (.iload_n 1, 1) := by decide +kernel
theorem d_M_turned_2 : decode b_M_turned 2 = .ok (.invokevirtual 79, 3) := by decide +kernel
theorem d_M_turned_5 : decode b_M_turned 5 = .ok (.ifCond .ne (5), 3) := by decide +kernel
theorem d_M_turned_8 : decode b_M_turned 8 = .ok (.iconst (-1), 1) := by decide +kernel
theorem d_M_turned_9 : decode b_M_turned 9 = .ok (.ireturn, 1) := by decide +kernel
theorem d_M_turned_10 : decode b_M_turned 10 = .ok (.aload_n 0, 1) := by decide +kernel
theorem d_M_turned_11 : decode b_M_turned 11 = .ok (.getfield 16, 3) := by decide +kernel
theorem d_M_turned_14 : decode b_M_turned 14 = .ok (.iload_n 1, 1) := by decide +kernel
theorem d_M_turned_15 : decode b_M_turned 15 = .ok (.iaload, 1) := by decide +kernel
theorem d_M_turned_16 : decode b_M_turned 16 = .ok (.ifCond .ne (6), 3) := by decide +kernel
theorem d_M_turned_19 : decode b_M_turned 19 = .ok (.bipush (-3), 2) := by decide +kernel
theorem d_M_turned_21 : decode b_M_turned 21 = .ok (.ireturn, 1) := by decide +kernel
theorem d_M_turned_22 : decode b_M_turned 22 = .ok (.aload_n 0, 1) := by decide +kernel
theorem d_M_turned_23 : decode b_M_turned 23 = .ok (.aload_n 0, 1) := by decide +kernel
theorem d_M_turned_24 : decode b_M_turned 24 = .ok (.getfield 16, 3) := by decide +kernel
theorem d_M_turned_27 : decode b_M_turned 27 = .ok (.iload_n 1, 1) := by decide +kernel
theorem d_M_turned_28 : decode b_M_turned 28 = .ok (.iaload, 1) := by decide +kernel
theorem d_M_turned_29 : decode b_M_turned 29 = .ok (.putfield 45, 3) := by decide +kernel
theorem d_M_turned_32 : decode b_M_turned 32 = .ok (.iconst 0, 1) := by decide +kernel
theorem d_M_turned_33 : decode b_M_turned 33 = .ok (.istore_n 2, 1) := by decide +kernel
theorem d_M_turned_34 : decode b_M_turned 34 = .ok (.iload_n 2, 1) := by decide +kernel
theorem d_M_turned_35 : decode b_M_turned 35 = .ok (.aload_n 0, 1) := by decide +kernel
theorem d_M_turned_36 : decode b_M_turned 36 = .ok (.getfield 45, 3) := by decide +kernel
theorem d_M_turned_39 : decode b_M_turned 39 = .ok (.if_icmp .ge (45), 3) := by decide +kernel
theorem d_M_turned_42 : decode b_M_turned 42 = .ok (.aload_n 0, 1) := by decide +kernel
theorem d_M_turned_43 : decode b_M_turned 43 = .ok (.getfield 19, 3) := by decide +kernel
theorem d_M_turned_46 : decode b_M_turned 46 = .ok (.iload_n 2, 1) := by decide +kernel
theorem d_M_turned_47 : decode b_M_turned 47 = .ok (.aload_n 0, 1) := by decide +kernel
theorem d_M_turned_48 : decode b_M_turned 48 = .ok (.getfield 7, 3) := by decide +kernel
theorem d_M_turned_51 : decode b_M_turned 51 = .ok (.bipush (24), 2) := by decide +kernel
theorem d_M_turned_53 : decode b_M_turned 53 = .ok (.iload_n 1, 1) := by decide +kernel
theorem d_M_turned_54 : decode b_M_turned 54 = .ok (.imul, 1) := by decide +kernel
theorem d_M_turned_55 : decode b_M_turned 55 = .ok (.iload_n 2, 1) := by decide +kernel
theorem d_M_turned_56 : decode b_M_turned 56 = .ok (.iadd, 1) := by decide +kernel
theorem d_M_turned_57 : decode b_M_turned 57 = .ok (.iaload, 1) := by decide +kernel
theorem d_M_turned_58 : decode b_M_turned 58 = .ok (.ineg, 1) := by decide +kernel
theorem d_M_turned_59 : decode b_M_turned 59 = .ok (.iastore, 1) := by decide +kernel
theorem d_M_turned_60 : decode b_M_turned 60 = .ok (.aload_n 0, 1) := by decide +kernel
theorem d_M_turned_61 : decode b_M_turned 61 = .ok (.getfield 22, 3) := by decide +kernel
theorem d_M_turned_64 : decode b_M_turned 64 = .ok (.iload_n 2, 1) := by decide +kernel
theorem d_M_turned_65 : decode b_M_turned 65 = .ok (.aload_n 0, 1) := by decide +kernel
theorem d_M_turned_66 : decode b_M_turned 66 = .ok (.getfield 13, 3) := by decide +kernel
theorem d_M_turned_69 : decode b_M_turned 69 = .ok (.bipush (24), 2) := by decide +kernel
theorem d_M_turned_71 : decode b_M_turned 71 = .ok (.iload_n 1, 1) := by decide +kernel
theorem d_M_turned_72 : decode b_M_turned 72 = .ok (.imul, 1) := by decide +kernel
theorem d_M_turned_73 : decode b_M_turned 73 = .ok (.iload_n 2, 1) := by decide +kernel
theorem d_M_turned_74 : decode b_M_turned 74 = .ok (.iadd, 1) := by decide +kernel
theorem d_M_turned_75 : decode b_M_turned 75 = .ok (.iaload, 1) := by decide +kernel
theorem d_M_turned_76 : decode b_M_turned 76 = .ok (.ineg, 1) := by decide +kernel
theorem d_M_turned_77 : decode b_M_turned 77 = .ok (.iastore, 1) := by decide +kernel
theorem d_M_turned_78 : decode b_M_turned 78 = .ok (.iinc 2 (1), 3) := by decide +kernel
theorem d_M_turned_81 : decode b_M_turned 81 = .ok (.goto (-47), 3) := by decide +kernel
theorem d_M_turned_84 : decode b_M_turned 84 = .ok (.aload_n 0, 1) := by decide +kernel
theorem d_M_turned_85 : decode b_M_turned 85 = .ok (.invokevirtual 48, 3) := by decide +kernel
theorem d_M_turned_88 : decode b_M_turned 88 = .ok (.aload_n 0, 1) := by decide +kernel
theorem d_M_turned_89 : decode b_M_turned 89 = .ok (.invokevirtual 185, 3) := by decide +kernel
theorem d_M_turned_92 : decode b_M_turned 92 = .ok (.ireturn, 1) := by decide +kernel
theorem d_M_meets_0 : decode b_M_meets 0 = .ok (.aload_n 0, 1) := by decide +kernel
theorem d_M_meets_1 : decode b_M_meets 1 = .ok (.iload_n 1, 1) := by decide +kernel
theorem d_M_meets_2 : decode b_M_meets 2 = .ok (.iload_n 2, 1) := by decide +kernel
theorem d_M_meets_3 : decode b_M_meets 3 = .ok (.invokevirtual 177, 3) := by decide +kernel
theorem d_M_meets_6 : decode b_M_meets 6 = .ok (.istore_n 3, 1) := by decide +kernel
theorem d_M_meets_7 : decode b_M_meets 7 = .ok (.iload_n 3, 1) := by decide +kernel
theorem d_M_meets_8 : decode b_M_meets 8 = .ok (.ifCond .ge (5), 3) := by decide +kernel
theorem d_M_meets_11 : decode b_M_meets 11 = .ok (.iload_n 3, 1) := by decide +kernel
theorem d_M_meets_12 : decode b_M_meets 12 = .ok (.ireturn, 1) := by decide +kernel
theorem d_M_meets_13 : decode b_M_meets 13 = .ok (.aload_n 0, 1) := by decide +kernel
theorem d_M_meets_14 : decode b_M_meets 14 = .ok (.iload_n 1, 1) := by decide +kernel
theorem d_M_meets_15 : decode b_M_meets 15 = .ok (.iload_n 2, 1) := by decide +kernel
theorem d_M_meets_16 : decode b_M_meets 16 = .ok (.iconst (-1), 1) := by decide +kernel
theorem d_M_meets_17 : decode b_M_meets 17 = .ok (.invokevirtual 181, 3) := by decide +kernel
theorem d_M_meets_20 : decode b_M_meets 20 = .ok (.aload_n 0, 1) := by decide +kernel
theorem d_M_meets_21 : decode b_M_meets 21 = .ok (.lconst 0, 1) := by decide +kernel
theorem d_M_meets_22 : decode b_M_meets 22 = .ok (.lconst 0, 1) := by decide +kernel
theorem d_M_meets_23 : decode b_M_meets 23 = .ok (.invokevirtual 91, 3) := by decide +kernel
theorem d_M_meets_26 : decode b_M_meets 26 = .ok (.ifCond .le (7), 3) := by decide +kernel
theorem d_M_meets_29 : decode b_M_meets 29 = .ok (.iconst 1, 1) := by decide +kernel
theorem d_M_meets_30 : decode b_M_meets 30 = .ok (.goto (4), 3) := by decide +kernel
theorem d_M_meets_33 : decode b_M_meets 33 = .ok (.iconst 0, 1) := by decide +kernel
theorem d_M_meets_34 : decode b_M_meets 34 = .ok (.ireturn, 1) := by decide +kernel
theorem d_M_apart_0 : decode b_M_apart 0 = .ok (.aload_n 0, 1) := by decide +kernel
theorem d_M_apart_1 : decode b_M_apart 1 = .ok (.iload_n 1, 1) := by decide +kernel
theorem d_M_apart_2 : decode b_M_apart 2 = .ok (.iload_n 2, 1) := by decide +kernel
theorem d_M_apart_3 : decode b_M_apart 3 = .ok (.invokevirtual 177, 3) := by decide +kernel
theorem d_M_apart_6 : decode b_M_apart 6 = .ok (.istore_n 3, 1) := by decide +kernel
theorem d_M_apart_7 : decode b_M_apart 7 = .ok (.iload_n 3, 1) := by decide +kernel
theorem d_M_apart_8 : decode b_M_apart 8 = .ok (.ifCond .ge (5), 3) := by decide +kernel
theorem d_M_apart_11 : decode b_M_apart 11 = .ok (.iload_n 3, 1) := by decide +kernel
theorem d_M_apart_12 : decode b_M_apart 12 = .ok (.ireturn, 1) := by decide +kernel
theorem d_M_apart_13 : decode b_M_apart 13 = .ok (.aload_n 0, 1) := by decide +kernel
theorem d_M_apart_14 : decode b_M_apart 14 = .ok (.iload_n 1, 1) := by decide +kernel
theorem d_M_apart_15 : decode b_M_apart 15 = .ok (.iload_n 2, 1) := by decide +kernel
theorem d_M_apart_16 : decode b_M_apart 16 = .ok (.iconst (-1), 1) := by decide +kernel
theorem d_M_apart_17 : decode b_M_apart 17 = .ok (.invokevirtual 181, 3) := by decide +kernel
theorem d_M_apart_20 : decode b_M_apart 20 = .ok (.aload_n 0, 1) := by decide +kernel
theorem d_M_apart_21 : decode b_M_apart 21 = .ok (.aload_n 0, 1) := by decide +kernel
theorem d_M_apart_22 : decode b_M_apart 22 = .ok (.getfield 25, 3) := by decide +kernel
theorem d_M_apart_25 : decode b_M_apart 25 = .ok (.iconst 0, 1) := by decide +kernel
theorem d_M_apart_26 : decode b_M_apart 26 = .ok (.iaload, 1) := by decide +kernel
theorem d_M_apart_27 : decode b_M_apart 27 = .ok (.i2l, 1) := by decide +kernel
theorem d_M_apart_28 : decode b_M_apart 28 = .ok (.aload_n 0, 1) := by decide +kernel
theorem d_M_apart_29 : decode b_M_apart 29 = .ok (.getfield 28, 3) := by decide +kernel
theorem d_M_apart_32 : decode b_M_apart 32 = .ok (.iconst 0, 1) := by decide +kernel
theorem d_M_apart_33 : decode b_M_apart 33 = .ok (.iaload, 1) := by decide +kernel
theorem d_M_apart_34 : decode b_M_apart 34 = .ok (.i2l, 1) := by decide +kernel
theorem d_M_apart_35 : decode b_M_apart 35 = .ok (.lconst 0, 1) := by decide +kernel
theorem d_M_apart_36 : decode b_M_apart 36 = .ok (.lconst 0, 1) := by decide +kernel
theorem d_M_apart_37 : decode b_M_apart 37 = .ok (.invokestatic 62, 3) := by decide +kernel
theorem d_M_apart_40 : decode b_M_apart 40 = .ok (.putfield 130, 3) := by decide +kernel
theorem d_M_apart_43 : decode b_M_apart 43 = .ok (.aload_n 0, 1) := by decide +kernel
theorem d_M_apart_44 : decode b_M_apart 44 = .ok (.lconst 1, 1) := by decide +kernel
theorem d_M_apart_45 : decode b_M_apart 45 = .ok (.putfield 133, 3) := by decide +kernel
theorem d_M_apart_48 : decode b_M_apart 48 = .ok (.aload_n 0, 1) := by decide +kernel
theorem d_M_apart_49 : decode b_M_apart 49 = .ok (.lconst 0, 1) := by decide +kernel
theorem d_M_apart_50 : decode b_M_apart 50 = .ok (.lconst 0, 1) := by decide +kernel
theorem d_M_apart_51 : decode b_M_apart 51 = .ok (.invokevirtual 91, 3) := by decide +kernel
theorem d_M_apart_54 : decode b_M_apart 54 = .ok (.ifCond .le (8), 3) := by decide +kernel
theorem d_M_apart_57 : decode b_M_apart 57 = .ok (.aload_n 0, 1) := by decide +kernel
theorem d_M_apart_58 : decode b_M_apart 58 = .ok (.lconst 0, 1) := by decide +kernel
theorem d_M_apart_59 : decode b_M_apart 59 = .ok (.putfield 130, 3) := by decide +kernel
theorem d_M_apart_62 : decode b_M_apart 62 = .ok (.iconst 0, 1) := by decide +kernel
theorem d_M_apart_63 : decode b_M_apart 63 = .ok (.istore 4, 2) := by decide +kernel
theorem d_M_apart_65 : decode b_M_apart 65 = .ok (.iload 4, 2) := by decide +kernel
theorem d_M_apart_67 : decode b_M_apart 67 = .ok (.aload_n 0, 1) := by decide +kernel
theorem d_M_apart_68 : decode b_M_apart 68 = .ok (.getfield 51, 3) := by decide +kernel
theorem d_M_apart_71 : decode b_M_apart 71 = .ok (.if_icmp .ge (192), 3) := by decide +kernel
theorem d_M_apart_74 : decode b_M_apart 74 = .ok (.aload_n 0, 1) := by decide +kernel
theorem d_M_apart_75 : decode b_M_apart 75 = .ok (.getfield 130, 3) := by decide +kernel
theorem d_M_apart_78 : decode b_M_apart 78 = .ok (.lconst 0, 1) := by decide +kernel
theorem d_M_apart_79 : decode b_M_apart 79 = .ok (.lcmp, 1) := by decide +kernel
theorem d_M_apart_80 : decode b_M_apart 80 = .ok (.ifCond .le (183), 3) := by decide +kernel
theorem d_M_apart_83 : decode b_M_apart 83 = .ok (.aload_n 0, 1) := by decide +kernel
theorem d_M_apart_84 : decode b_M_apart 84 = .ok (.iload 4, 2) := by decide +kernel
theorem d_M_apart_86 : decode b_M_apart 86 = .ok (.invokevirtual 66, 3) := by decide +kernel
theorem d_M_apart_89 : decode b_M_apart 89 = .ok (.istore 5, 2) := by decide +kernel
theorem d_M_apart_91 : decode b_M_apart 91 = .ok (.aload_n 0, 1) := by decide +kernel
theorem d_M_apart_92 : decode b_M_apart 92 = .ok (.aload_n 0, 1) := by decide +kernel
theorem d_M_apart_93 : decode b_M_apart 93 = .ok (.getfield 25, 3) := by decide +kernel
theorem d_M_apart_96 : decode b_M_apart 96 = .ok (.iload 4, 2) := by decide +kernel
theorem d_M_apart_98 : decode b_M_apart 98 = .ok (.iaload, 1) := by decide +kernel
theorem d_M_apart_99 : decode b_M_apart 99 = .ok (.i2l, 1) := by decide +kernel
theorem d_M_apart_100 : decode b_M_apart 100 = .ok (.aload_n 0, 1) := by decide +kernel
theorem d_M_apart_101 : decode b_M_apart 101 = .ok (.getfield 28, 3) := by decide +kernel
theorem d_M_apart_104 : decode b_M_apart 104 = .ok (.iload 4, 2) := by decide +kernel
theorem d_M_apart_106 : decode b_M_apart 106 = .ok (.iaload, 1) := by decide +kernel
theorem d_M_apart_107 : decode b_M_apart 107 = .ok (.i2l, 1) := by decide +kernel
theorem d_M_apart_108 : decode b_M_apart 108 = .ok (.lconst 0, 1) := by decide +kernel
theorem d_M_apart_109 : decode b_M_apart 109 = .ok (.lconst 0, 1) := by decide +kernel
theorem d_M_apart_110 : decode b_M_apart 110 = .ok (.invokestatic 62, 3) := by decide +kernel
theorem d_M_apart_113 : decode b_M_apart 113 = .ok (.lconst 1, 1) := by decide +kernel
theorem d_M_apart_114 : decode b_M_apart 114 = .ok (.invokevirtual 188, 3) := by decide +kernel
theorem d_M_apart_117 : decode b_M_apart 117 = .ok (.aload_n 0, 1) := by decide +kernel
theorem d_M_apart_118 : decode b_M_apart 118 = .ok (.getfield 25, 3) := by decide +kernel
theorem d_M_apart_121 : decode b_M_apart 121 = .ok (.iload 5, 2) := by decide +kernel
theorem d_M_apart_123 : decode b_M_apart 123 = .ok (.iaload, 1) := by decide +kernel
theorem d_M_apart_124 : decode b_M_apart 124 = .ok (.aload_n 0, 1) := by decide +kernel
theorem d_M_apart_125 : decode b_M_apart 125 = .ok (.getfield 25, 3) := by decide +kernel
theorem d_M_apart_128 : decode b_M_apart 128 = .ok (.iload 4, 2) := by decide +kernel
theorem d_M_apart_130 : decode b_M_apart 130 = .ok (.iaload, 1) := by decide +kernel
theorem d_M_apart_131 : decode b_M_apart 131 = .ok (.isub, 1) := by decide +kernel
theorem d_M_apart_132 : decode b_M_apart 132 = .ok (.i2l, 1) := by decide +kernel
theorem d_M_apart_133 : decode b_M_apart 133 = .ok (.lstore 6, 2) := by decide +kernel
theorem d_M_apart_135 : decode b_M_apart 135 = .ok (.aload_n 0, 1) := by decide +kernel
theorem d_M_apart_136 : decode b_M_apart 136 = .ok (.getfield 28, 3) := by decide +kernel
theorem d_M_apart_139 : decode b_M_apart 139 = .ok (.iload 5, 2) := by decide +kernel
theorem d_M_apart_141 : decode b_M_apart 141 = .ok (.iaload, 1) := by decide +kernel
theorem d_M_apart_142 : decode b_M_apart 142 = .ok (.aload_n 0, 1) := by decide +kernel
theorem d_M_apart_143 : decode b_M_apart 143 = .ok (.getfield 28, 3) := by decide +kernel
theorem d_M_apart_146 : decode b_M_apart 146 = .ok (.iload 4, 2) := by decide +kernel
theorem d_M_apart_148 : decode b_M_apart 148 = .ok (.iaload, 1) := by decide +kernel
theorem d_M_apart_149 : decode b_M_apart 149 = .ok (.isub, 1) := by decide +kernel
theorem d_M_apart_150 : decode b_M_apart 150 = .ok (.i2l, 1) := by decide +kernel
theorem d_M_apart_151 : decode b_M_apart 151 = .ok (.lstore 8, 2) := by decide +kernel
theorem d_M_apart_153 : decode b_M_apart 153 = .ok (.aload_n 0, 1) := by decide +kernel
theorem d_M_apart_154 : decode b_M_apart 154 = .ok (.getfield 25, 3) := by decide +kernel
theorem d_M_apart_157 : decode b_M_apart 157 = .ok (.iload 4, 2) := by decide +kernel
theorem d_M_apart_159 : decode b_M_apart 159 = .ok (.iaload, 1) := by decide +kernel
theorem d_M_apart_160 : decode b_M_apart 160 = .ok (.i2l, 1) := by decide +kernel
theorem d_M_apart_161 : decode b_M_apart 161 = .ok (.lload 6, 2) := by decide +kernel
theorem d_M_apart_163 : decode b_M_apart 163 = .ok (.lmul, 1) := by decide +kernel
theorem d_M_apart_164 : decode b_M_apart 164 = .ok (.aload_n 0, 1) := by decide +kernel
theorem d_M_apart_165 : decode b_M_apart 165 = .ok (.getfield 28, 3) := by decide +kernel
theorem d_M_apart_168 : decode b_M_apart 168 = .ok (.iload 4, 2) := by decide +kernel
theorem d_M_apart_170 : decode b_M_apart 170 = .ok (.iaload, 1) := by decide +kernel
theorem d_M_apart_171 : decode b_M_apart 171 = .ok (.i2l, 1) := by decide +kernel
theorem d_M_apart_172 : decode b_M_apart 172 = .ok (.lload 8, 2) := by decide +kernel
theorem d_M_apart_174 : decode b_M_apart 174 = .ok (.lmul, 1) := by decide +kernel
theorem d_M_apart_175 : decode b_M_apart 175 = .ok (.ladd, 1) := by decide +kernel
theorem d_M_apart_176 : decode b_M_apart 176 = .ok (.lneg, 1) := by decide +kernel
theorem d_M_apart_177 : decode b_M_apart 177 = .ok (.lstore 10, 2) := by decide +kernel
theorem d_M_apart_179 : decode b_M_apart 179 = .ok (.lload 6, 2) := by decide +kernel
theorem d_M_apart_181 : decode b_M_apart 181 = .ok (.lload 6, 2) := by decide +kernel
theorem d_M_apart_183 : decode b_M_apart 183 = .ok (.lmul, 1) := by decide +kernel
theorem d_M_apart_184 : decode b_M_apart 184 = .ok (.lload 8, 2) := by decide +kernel
theorem d_M_apart_186 : decode b_M_apart 186 = .ok (.lload 8, 2) := by decide +kernel
theorem d_M_apart_188 : decode b_M_apart 188 = .ok (.lmul, 1) := by decide +kernel
theorem d_M_apart_189 : decode b_M_apart 189 = .ok (.ladd, 1) := by decide +kernel
theorem d_M_apart_190 : decode b_M_apart 190 = .ok (.lstore 12, 2) := by decide +kernel
theorem d_M_apart_192 : decode b_M_apart 192 = .ok (.lload 10, 2) := by decide +kernel
theorem d_M_apart_194 : decode b_M_apart 194 = .ok (.lconst 0, 1) := by decide +kernel
theorem d_M_apart_195 : decode b_M_apart 195 = .ok (.lcmp, 1) := by decide +kernel
theorem d_M_apart_196 : decode b_M_apart 196 = .ok (.ifCond .le (61), 3) := by decide +kernel
theorem d_M_apart_199 : decode b_M_apart 199 = .ok (.lload 10, 2) := by decide +kernel
theorem d_M_apart_201 : decode b_M_apart 201 = .ok (.lload 12, 2) := by decide +kernel
theorem d_M_apart_203 : decode b_M_apart 203 = .ok (.lcmp, 1) := by decide +kernel
theorem d_M_apart_204 : decode b_M_apart 204 = .ok (.ifCond .ge (53), 3) := by decide +kernel
theorem d_M_apart_207 : decode b_M_apart 207 = .ok (.lconst 0, 1) := by decide +kernel
theorem d_M_apart_208 : decode b_M_apart 208 = .ok (.lconst 0, 1) := by decide +kernel
theorem d_M_apart_209 : decode b_M_apart 209 = .ok (.aload_n 0, 1) := by decide +kernel
theorem d_M_apart_210 : decode b_M_apart 210 = .ok (.getfield 25, 3) := by decide +kernel
theorem d_M_apart_213 : decode b_M_apart 213 = .ok (.iload 4, 2) := by decide +kernel
theorem d_M_apart_215 : decode b_M_apart 215 = .ok (.iaload, 1) := by decide +kernel
theorem d_M_apart_216 : decode b_M_apart 216 = .ok (.i2l, 1) := by decide +kernel
theorem d_M_apart_217 : decode b_M_apart 217 = .ok (.aload_n 0, 1) := by decide +kernel
theorem d_M_apart_218 : decode b_M_apart 218 = .ok (.getfield 28, 3) := by decide +kernel
theorem d_M_apart_221 : decode b_M_apart 221 = .ok (.iload 4, 2) := by decide +kernel
theorem d_M_apart_223 : decode b_M_apart 223 = .ok (.iaload, 1) := by decide +kernel
theorem d_M_apart_224 : decode b_M_apart 224 = .ok (.i2l, 1) := by decide +kernel
theorem d_M_apart_225 : decode b_M_apart 225 = .ok (.aload_n 0, 1) := by decide +kernel
theorem d_M_apart_226 : decode b_M_apart 226 = .ok (.getfield 25, 3) := by decide +kernel
theorem d_M_apart_229 : decode b_M_apart 229 = .ok (.iload 5, 2) := by decide +kernel
theorem d_M_apart_231 : decode b_M_apart 231 = .ok (.iaload, 1) := by decide +kernel
theorem d_M_apart_232 : decode b_M_apart 232 = .ok (.i2l, 1) := by decide +kernel
theorem d_M_apart_233 : decode b_M_apart 233 = .ok (.aload_n 0, 1) := by decide +kernel
theorem d_M_apart_234 : decode b_M_apart 234 = .ok (.getfield 28, 3) := by decide +kernel
theorem d_M_apart_237 : decode b_M_apart 237 = .ok (.iload 5, 2) := by decide +kernel
theorem d_M_apart_239 : decode b_M_apart 239 = .ok (.iaload, 1) := by decide +kernel
theorem d_M_apart_240 : decode b_M_apart 240 = .ok (.i2l, 1) := by decide +kernel
theorem d_M_apart_241 : decode b_M_apart 241 = .ok (.invokestatic 58, 3) := by decide +kernel
theorem d_M_apart_244 : decode b_M_apart 244 = .ok (.lstore 14, 2) := by decide +kernel
theorem d_M_apart_246 : decode b_M_apart 246 = .ok (.aload_n 0, 1) := by decide +kernel
theorem d_M_apart_247 : decode b_M_apart 247 = .ok (.lload 14, 2) := by decide +kernel
theorem d_M_apart_249 : decode b_M_apart 249 = .ok (.lload 14, 2) := by decide +kernel
theorem d_M_apart_251 : decode b_M_apart 251 = .ok (.lmul, 1) := by decide +kernel
theorem d_M_apart_252 : decode b_M_apart 252 = .ok (.lload 12, 2) := by decide +kernel
theorem d_M_apart_254 : decode b_M_apart 254 = .ok (.invokevirtual 188, 3) := by decide +kernel
theorem d_M_apart_257 : decode b_M_apart 257 = .ok (.iinc 4 (1), 3) := by decide +kernel
theorem d_M_apart_260 : decode b_M_apart 260 = .ok (.goto (-195), 3) := by decide +kernel
theorem d_M_apart_263 : decode b_M_apart 263 = .ok (.aload_n 0, 1) := by decide +kernel
theorem d_M_apart_264 : decode b_M_apart 264 = .ok (.aload_n 0, 1) := by decide +kernel
theorem d_M_apart_265 : decode b_M_apart 265 = .ok (.getfield 130, 3) := by decide +kernel
theorem d_M_apart_268 : decode b_M_apart 268 = .ok (.aload_n 0, 1) := by decide +kernel
theorem d_M_apart_269 : decode b_M_apart 269 = .ok (.getfield 133, 3) := by decide +kernel
theorem d_M_apart_272 : decode b_M_apart 272 = .ok (.invokevirtual 143, 3) := by decide +kernel
theorem d_M_apart_275 : decode b_M_apart 275 = .ok (.iconst 1, 1) := by decide +kernel
theorem d_M_apart_276 : decode b_M_apart 276 = .ok (.ireturn, 1) := by decide +kernel
theorem d_M_better_0 : decode b_M_better 0 = .ok (.lload_n 1, 1) := by decide +kernel
theorem d_M_better_1 : decode b_M_better 1 = .ok (.aload_n 0, 1) := by decide +kernel
theorem d_M_better_2 : decode b_M_better 2 = .ok (.getfield 133, 3) := by decide +kernel
theorem d_M_better_5 : decode b_M_better 5 = .ok (.lmul, 1) := by decide +kernel
theorem d_M_better_6 : decode b_M_better 6 = .ok (.aload_n 0, 1) := by decide +kernel
theorem d_M_better_7 : decode b_M_better 7 = .ok (.getfield 130, 3) := by decide +kernel
theorem d_M_better_10 : decode b_M_better 10 = .ok (.lload_n 3, 1) := by decide +kernel
theorem d_M_better_11 : decode b_M_better 11 = .ok (.lmul, 1) := by decide +kernel
theorem d_M_better_12 : decode b_M_better 12 = .ok (.lcmp, 1) := by decide +kernel
theorem d_M_better_13 : decode b_M_better 13 = .ok (.ifCond .ge (13), 3) := by decide +kernel
theorem d_M_better_16 : decode b_M_better 16 = .ok (.aload_n 0, 1) := by decide +kernel
theorem d_M_better_17 : decode b_M_better 17 = .ok (.lload_n 1, 1) := by decide +kernel
theorem d_M_better_18 : decode b_M_better 18 = .ok (.putfield 130, 3) := by decide +kernel
theorem d_M_better_21 : decode b_M_better 21 = .ok (.aload_n 0, 1) := by decide +kernel
theorem d_M_better_22 : decode b_M_better 22 = .ok (.lload_n 3, 1) := by decide +kernel
theorem d_M_better_23 : decode b_M_better 23 = .ok (.putfield 133, 3) := by decide +kernel
theorem d_M_better_26 : decode b_M_better 26 = .ok (.return_, 1) := by decide +kernel
theorem d_M_mixed_0 : decode b_M_mixed 0 = .ok (.aload_n 0, 1) := by decide +kernel
theorem d_M_mixed_1 : decode b_M_mixed 1 = .ok (.iload_n 1, 1) := by decide +kernel
theorem d_M_mixed_2 : decode b_M_mixed 2 = .ok (.iload_n 2, 1) := by decide +kernel
theorem d_M_mixed_3 : decode b_M_mixed 3 = .ok (.invokevirtual 177, 3) := by decide +kernel
theorem d_M_mixed_6 : decode b_M_mixed 6 = .ok (.istore_n 3, 1) := by decide +kernel
theorem d_M_mixed_7 : decode b_M_mixed 7 = .ok (.iload_n 3, 1) := by decide +kernel
theorem d_M_mixed_8 : decode b_M_mixed 8 = .ok (.ifCond .ge (5), 3) := by decide +kernel
theorem d_M_mixed_11 : decode b_M_mixed 11 = .ok (.iload_n 3, 1) := by decide +kernel
theorem d_M_mixed_12 : decode b_M_mixed 12 = .ok (.ireturn, 1) := by decide +kernel
theorem d_M_mixed_13 : decode b_M_mixed 13 = .ok (.aload_n 0, 1) := by decide +kernel
theorem d_M_mixed_14 : decode b_M_mixed 14 = .ok (.iload_n 1, 1) := by decide +kernel
theorem d_M_mixed_15 : decode b_M_mixed 15 = .ok (.iload_n 2, 1) := by decide +kernel
theorem d_M_mixed_16 : decode b_M_mixed 16 = .ok (.iconst 1, 1) := by decide +kernel
theorem d_M_mixed_17 : decode b_M_mixed 17 = .ok (.invokevirtual 181, 3) := by decide +kernel
theorem d_M_mixed_20 : decode b_M_mixed 20 = .ok (.aload_n 0, 1) := by decide +kernel
theorem d_M_mixed_21 : decode b_M_mixed 21 = .ok (.invokevirtual 95, 3) := by decide +kernel
theorem d_M_mixed_24 : decode b_M_mixed 24 = .ok (.lstore 4, 2) := by decide +kernel
theorem d_M_mixed_26 : decode b_M_mixed 26 = .ok (.aload_n 0, 1) := by decide +kernel
theorem d_M_mixed_27 : decode b_M_mixed 27 = .ok (.iload_n 1, 1) := by decide +kernel
theorem d_M_mixed_28 : decode b_M_mixed 28 = .ok (.invokevirtual 87, 3) := by decide +kernel
theorem d_M_mixed_31 : decode b_M_mixed 31 = .ok (.lload 4, 2) := by decide +kernel
theorem d_M_mixed_33 : decode b_M_mixed 33 = .ok (.aload_n 0, 1) := by decide +kernel
theorem d_M_mixed_34 : decode b_M_mixed 34 = .ok (.invokevirtual 95, 3) := by decide +kernel
theorem d_M_mixed_37 : decode b_M_mixed 37 = .ok (.lsub, 1) := by decide +kernel
theorem d_M_mixed_38 : decode b_M_mixed 38 = .ok (.lstore 4, 2) := by decide +kernel
theorem d_M_mixed_40 : decode b_M_mixed 40 = .ok (.aload_n 0, 1) := by decide +kernel
theorem d_M_mixed_41 : decode b_M_mixed 41 = .ok (.iload_n 2, 1) := by decide +kernel
theorem d_M_mixed_42 : decode b_M_mixed 42 = .ok (.invokevirtual 87, 3) := by decide +kernel
theorem d_M_mixed_45 : decode b_M_mixed 45 = .ok (.lload 4, 2) := by decide +kernel
theorem d_M_mixed_47 : decode b_M_mixed 47 = .ok (.aload_n 0, 1) := by decide +kernel
theorem d_M_mixed_48 : decode b_M_mixed 48 = .ok (.invokevirtual 95, 3) := by decide +kernel
theorem d_M_mixed_51 : decode b_M_mixed 51 = .ok (.lsub, 1) := by decide +kernel
theorem d_M_mixed_52 : decode b_M_mixed 52 = .ok (.l2i, 1) := by decide +kernel
theorem d_M_mixed_53 : decode b_M_mixed 53 = .ok (.ireturn, 1) := by decide +kernel
theorem d_M_holds_0 : decode b_M_holds 0 = .ok (.aload_n 0, 1) := by decide +kernel
theorem d_M_holds_1 : decode b_M_holds 1 = .ok (.iload_n 1, 1) := by decide +kernel
theorem d_M_holds_2 : decode b_M_holds 2 = .ok (.invokevirtual 79, 3) := by decide +kernel
theorem d_M_holds_5 : decode b_M_holds 5 = .ok (.ifCond .ne (5), 3) := by decide +kernel
theorem d_M_holds_8 : decode b_M_holds 8 = .ok (.iconst (-1), 1) := by decide +kernel
theorem d_M_holds_9 : decode b_M_holds 9 = .ok (.ireturn, 1) := by decide +kernel
theorem d_M_holds_10 : decode b_M_holds 10 = .ok (.iload_n 2, 1) := by decide +kernel
theorem d_M_holds_11 : decode b_M_holds 11 = .ok (.sipush (-1000), 3) := by decide +kernel
theorem d_M_holds_14 : decode b_M_holds 14 = .ok (.sipush (1000), 3) := by decide +kernel
theorem d_M_holds_17 : decode b_M_holds 17 = .ok (.invokestatic 83, 3) := by decide +kernel
theorem d_M_holds_20 : decode b_M_holds 20 = .ok (.ifCond .eq (16), 3) := by decide +kernel
theorem d_M_holds_23 : decode b_M_holds 23 = .ok (.iload_n 3, 1) := by decide +kernel
theorem d_M_holds_24 : decode b_M_holds 24 = .ok (.sipush (-1000), 3) := by decide +kernel
theorem d_M_holds_27 : decode b_M_holds 27 = .ok (.sipush (1000), 3) := by decide +kernel
theorem d_M_holds_30 : decode b_M_holds 30 = .ok (.invokestatic 83, 3) := by decide +kernel
theorem d_M_holds_33 : decode b_M_holds 33 = .ok (.ifCond .ne (6), 3) := by decide +kernel
theorem d_M_holds_36 : decode b_M_holds 36 = .ok (.bipush (-2), 2) := by decide +kernel
theorem d_M_holds_38 : decode b_M_holds 38 = .ok (.ireturn, 1) := by decide +kernel
theorem d_M_holds_39 : decode b_M_holds 39 = .ok (.aload_n 0, 1) := by decide +kernel
theorem d_M_holds_40 : decode b_M_holds 40 = .ok (.iload_n 1, 1) := by decide +kernel
theorem d_M_holds_41 : decode b_M_holds 41 = .ok (.invokevirtual 87, 3) := by decide +kernel
theorem d_M_holds_44 : decode b_M_holds 44 = .ok (.aload_n 0, 1) := by decide +kernel
theorem d_M_holds_45 : decode b_M_holds 45 = .ok (.iload_n 2, 1) := by decide +kernel
theorem d_M_holds_46 : decode b_M_holds 46 = .ok (.i2l, 1) := by decide +kernel
theorem d_M_holds_47 : decode b_M_holds 47 = .ok (.iload_n 3, 1) := by decide +kernel
theorem d_M_holds_48 : decode b_M_holds 48 = .ok (.i2l, 1) := by decide +kernel
theorem d_M_holds_49 : decode b_M_holds 49 = .ok (.invokevirtual 91, 3) := by decide +kernel
theorem d_M_holds_52 : decode b_M_holds 52 = .ok (.ireturn, 1) := by decide +kernel
theorem d_M_supports_0 : decode b_M_supports 0 = .ok (.aload_n 0, 1) := by decide +kernel
theorem d_M_supports_1 : decode b_M_supports 1 = .ok (.iload_n 1, 1) := by decide +kernel
theorem d_M_supports_2 : decode b_M_supports 2 = .ok (.invokevirtual 79, 3) := by decide +kernel
theorem d_M_supports_5 : decode b_M_supports 5 = .ok (.ifCond .ne (5), 3) := by decide +kernel
theorem d_M_supports_8 : decode b_M_supports 8 = .ok (.iconst (-1), 1) := by decide +kernel
theorem d_M_supports_9 : decode b_M_supports 9 = .ok (.ireturn, 1) := by decide +kernel
theorem d_M_supports_10 : decode b_M_supports 10 = .ok (.iload_n 2, 1) := by decide +kernel
theorem d_M_supports_11 : decode b_M_supports 11 = .ok (.bipush (-100), 2) := by decide +kernel
theorem d_M_supports_13 : decode b_M_supports 13 = .ok (.bipush (100), 2) := by decide +kernel
theorem d_M_supports_15 : decode b_M_supports 15 = .ok (.invokestatic 83, 3) := by decide +kernel
theorem d_M_supports_18 : decode b_M_supports 18 = .ok (.ifCond .eq (14), 3) := by decide +kernel
theorem d_M_supports_21 : decode b_M_supports 21 = .ok (.iload_n 3, 1) := by decide +kernel
theorem d_M_supports_22 : decode b_M_supports 22 = .ok (.bipush (-100), 2) := by decide +kernel
theorem d_M_supports_24 : decode b_M_supports 24 = .ok (.bipush (100), 2) := by decide +kernel
theorem d_M_supports_26 : decode b_M_supports 26 = .ok (.invokestatic 83, 3) := by decide +kernel
theorem d_M_supports_29 : decode b_M_supports 29 = .ok (.ifCond .ne (6), 3) := by decide +kernel
theorem d_M_supports_32 : decode b_M_supports 32 = .ok (.bipush (-2), 2) := by decide +kernel
theorem d_M_supports_34 : decode b_M_supports 34 = .ok (.ireturn, 1) := by decide +kernel
theorem d_M_supports_35 : decode b_M_supports 35 = .ok (.aload_n 0, 1) := by decide +kernel
theorem d_M_supports_36 : decode b_M_supports 36 = .ok (.iload_n 1, 1) := by decide +kernel
theorem d_M_supports_37 : decode b_M_supports 37 = .ok (.invokevirtual 87, 3) := by decide +kernel
theorem d_M_supports_40 : decode b_M_supports 40 = .ok (.aload_n 0, 1) := by decide +kernel
theorem d_M_supports_41 : decode b_M_supports 41 = .ok (.getfield 51, 3) := by decide +kernel
theorem d_M_supports_44 : decode b_M_supports 44 = .ok (.ifCond .ne (6), 3) := by decide +kernel
theorem d_M_supports_47 : decode b_M_supports 47 = .ok (.bipush (-3), 2) := by decide +kernel
theorem d_M_supports_49 : decode b_M_supports 49 = .ok (.ireturn, 1) := by decide +kernel
theorem d_M_supports_50 : decode b_M_supports 50 = .ok (.iload_n 2, 1) := by decide +kernel
theorem d_M_supports_51 : decode b_M_supports 51 = .ok (.aload_n 0, 1) := by decide +kernel
theorem d_M_supports_52 : decode b_M_supports 52 = .ok (.getfield 19, 3) := by decide +kernel
theorem d_M_supports_55 : decode b_M_supports 55 = .ok (.iconst 0, 1) := by decide +kernel
theorem d_M_supports_56 : decode b_M_supports 56 = .ok (.iaload, 1) := by decide +kernel
theorem d_M_supports_57 : decode b_M_supports 57 = .ok (.imul, 1) := by decide +kernel
theorem d_M_supports_58 : decode b_M_supports 58 = .ok (.iload_n 3, 1) := by decide +kernel
theorem d_M_supports_59 : decode b_M_supports 59 = .ok (.aload_n 0, 1) := by decide +kernel
theorem d_M_supports_60 : decode b_M_supports 60 = .ok (.getfield 22, 3) := by decide +kernel
theorem d_M_supports_63 : decode b_M_supports 63 = .ok (.iconst 0, 1) := by decide +kernel
theorem d_M_supports_64 : decode b_M_supports 64 = .ok (.iaload, 1) := by decide +kernel
theorem d_M_supports_65 : decode b_M_supports 65 = .ok (.imul, 1) := by decide +kernel
theorem d_M_supports_66 : decode b_M_supports 66 = .ok (.iadd, 1) := by decide +kernel
theorem d_M_supports_67 : decode b_M_supports 67 = .ok (.istore 4, 2) := by decide +kernel
theorem d_M_supports_69 : decode b_M_supports 69 = .ok (.iconst 1, 1) := by decide +kernel
theorem d_M_supports_70 : decode b_M_supports 70 = .ok (.istore 5, 2) := by decide +kernel
theorem d_M_supports_72 : decode b_M_supports 72 = .ok (.iload 5, 2) := by decide +kernel
theorem d_M_supports_74 : decode b_M_supports 74 = .ok (.aload_n 0, 1) := by decide +kernel
theorem d_M_supports_75 : decode b_M_supports 75 = .ok (.getfield 45, 3) := by decide +kernel
theorem d_M_supports_78 : decode b_M_supports 78 = .ok (.if_icmp .ge (46), 3) := by decide +kernel
theorem d_M_supports_81 : decode b_M_supports 81 = .ok (.iload_n 2, 1) := by decide +kernel
theorem d_M_supports_82 : decode b_M_supports 82 = .ok (.aload_n 0, 1) := by decide +kernel
theorem d_M_supports_83 : decode b_M_supports 83 = .ok (.getfield 19, 3) := by decide +kernel
theorem d_M_supports_86 : decode b_M_supports 86 = .ok (.iload 5, 2) := by decide +kernel
theorem d_M_supports_88 : decode b_M_supports 88 = .ok (.iaload, 1) := by decide +kernel
theorem d_M_supports_89 : decode b_M_supports 89 = .ok (.imul, 1) := by decide +kernel
theorem d_M_supports_90 : decode b_M_supports 90 = .ok (.iload_n 3, 1) := by decide +kernel
theorem d_M_supports_91 : decode b_M_supports 91 = .ok (.aload_n 0, 1) := by decide +kernel
theorem d_M_supports_92 : decode b_M_supports 92 = .ok (.getfield 22, 3) := by decide +kernel
theorem d_M_supports_95 : decode b_M_supports 95 = .ok (.iload 5, 2) := by decide +kernel
theorem d_M_supports_97 : decode b_M_supports 97 = .ok (.iaload, 1) := by decide +kernel
theorem d_M_supports_98 : decode b_M_supports 98 = .ok (.imul, 1) := by decide +kernel
theorem d_M_supports_99 : decode b_M_supports 99 = .ok (.iadd, 1) := by decide +kernel
theorem d_M_supports_100 : decode b_M_supports 100 = .ok (.istore 6, 2) := by decide +kernel
theorem d_M_supports_102 : decode b_M_supports 102 = .ok (.iload 6, 2) := by decide +kernel
theorem d_M_supports_104 : decode b_M_supports 104 = .ok (.iload 4, 2) := by decide +kernel
theorem d_M_supports_106 : decode b_M_supports 106 = .ok (.if_icmp .le (8), 3) := by decide +kernel
theorem d_M_supports_109 : decode b_M_supports 109 = .ok (.iload 6, 2) := by decide +kernel
theorem d_M_supports_111 : decode b_M_supports 111 = .ok (.goto (5), 3) := by decide +kernel
theorem d_M_supports_114 : decode b_M_supports 114 = .ok (.iload 4, 2) := by decide +kernel
theorem d_M_supports_116 : decode b_M_supports 116 = .ok (.istore 4, 2) := by decide +kernel
theorem d_M_supports_118 : decode b_M_supports 118 = .ok (.iinc 5 (1), 3) := by decide +kernel
theorem d_M_supports_121 : decode b_M_supports 121 = .ok (.goto (-49), 3) := by decide +kernel
theorem d_M_supports_124 : decode b_M_supports 124 = .ok (.iconst 0, 1) := by decide +kernel
theorem d_M_supports_125 : decode b_M_supports 125 = .ok (.istore 5, 2) := by decide +kernel
theorem d_M_supports_127 : decode b_M_supports 127 = .ok (.iconst 0, 1) := by decide +kernel
theorem d_M_supports_128 : decode b_M_supports 128 = .ok (.istore 6, 2) := by decide +kernel
theorem d_M_supports_130 : decode b_M_supports 130 = .ok (.iload 6, 2) := by decide +kernel
theorem d_M_supports_132 : decode b_M_supports 132 = .ok (.aload_n 0, 1) := by decide +kernel
theorem d_M_supports_133 : decode b_M_supports 133 = .ok (.getfield 51, 3) := by decide +kernel
theorem d_M_supports_136 : decode b_M_supports 136 = .ok (.if_icmp .ge (43), 3) := by decide +kernel
theorem d_M_supports_139 : decode b_M_supports 139 = .ok (.iload 5, 2) := by decide +kernel
theorem d_M_supports_141 : decode b_M_supports 141 = .ok (.iload_n 2, 1) := by decide +kernel
theorem d_M_supports_142 : decode b_M_supports 142 = .ok (.aload_n 0, 1) := by decide +kernel
theorem d_M_supports_143 : decode b_M_supports 143 = .ok (.getfield 25, 3) := by decide +kernel
theorem d_M_supports_146 : decode b_M_supports 146 = .ok (.iload 6, 2) := by decide +kernel
theorem d_M_supports_148 : decode b_M_supports 148 = .ok (.iaload, 1) := by decide +kernel
theorem d_M_supports_149 : decode b_M_supports 149 = .ok (.imul, 1) := by decide +kernel
theorem d_M_supports_150 : decode b_M_supports 150 = .ok (.iload_n 3, 1) := by decide +kernel
theorem d_M_supports_151 : decode b_M_supports 151 = .ok (.aload_n 0, 1) := by decide +kernel
theorem d_M_supports_152 : decode b_M_supports 152 = .ok (.getfield 28, 3) := by decide +kernel
theorem d_M_supports_155 : decode b_M_supports 155 = .ok (.iload 6, 2) := by decide +kernel
theorem d_M_supports_157 : decode b_M_supports 157 = .ok (.iaload, 1) := by decide +kernel
theorem d_M_supports_158 : decode b_M_supports 158 = .ok (.imul, 1) := by decide +kernel
theorem d_M_supports_159 : decode b_M_supports 159 = .ok (.iadd, 1) := by decide +kernel
theorem d_M_supports_160 : decode b_M_supports 160 = .ok (.iload 4, 2) := by decide +kernel
theorem d_M_supports_162 : decode b_M_supports 162 = .ok (.if_icmp .ne (7), 3) := by decide +kernel
theorem d_M_supports_165 : decode b_M_supports 165 = .ok (.iconst 1, 1) := by decide +kernel
theorem d_M_supports_166 : decode b_M_supports 166 = .ok (.goto (4), 3) := by decide +kernel
theorem d_M_supports_169 : decode b_M_supports 169 = .ok (.iconst 0, 1) := by decide +kernel
theorem d_M_supports_170 : decode b_M_supports 170 = .ok (.iadd, 1) := by decide +kernel
theorem d_M_supports_171 : decode b_M_supports 171 = .ok (.istore 5, 2) := by decide +kernel
theorem d_M_supports_173 : decode b_M_supports 173 = .ok (.iinc 6 (1), 3) := by decide +kernel
theorem d_M_supports_176 : decode b_M_supports 176 = .ok (.goto (-46), 3) := by decide +kernel
theorem d_M_supports_179 : decode b_M_supports 179 = .ok (.aload_n 0, 1) := by decide +kernel
theorem d_M_supports_180 : decode b_M_supports 180 = .ok (.iload 4, 2) := by decide +kernel
theorem d_M_supports_182 : decode b_M_supports 182 = .ok (.i2l, 1) := by decide +kernel
theorem d_M_supports_183 : decode b_M_supports 183 = .ok (.putfield 42, 3) := by decide +kernel
theorem d_M_supports_186 : decode b_M_supports 186 = .ok (.aload_n 0, 1) := by decide +kernel
theorem d_M_supports_187 : decode b_M_supports 187 = .ok (.iload 5, 2) := by decide +kernel
theorem d_M_supports_189 : decode b_M_supports 189 = .ok (.i2l, 1) := by decide +kernel
theorem d_M_supports_190 : decode b_M_supports 190 = .ok (.putfield 31, 3) := by decide +kernel
theorem d_M_supports_193 : decode b_M_supports 193 = .ok (.iconst 1, 1) := by decide +kernel
theorem d_M_supports_194 : decode b_M_supports 194 = .ok (.ireturn, 1) := by decide +kernel
theorem d_M_nearest_0 : decode b_M_nearest 0 = .ok (.aload_n 0, 1) := by decide +kernel
theorem d_M_nearest_1 : decode b_M_nearest 1 = .ok (.iload_n 1, 1) := by decide +kernel
theorem d_M_nearest_2 : decode b_M_nearest 2 = .ok (.invokevirtual 79, 3) := by decide +kernel
theorem d_M_nearest_5 : decode b_M_nearest 5 = .ok (.ifCond .ne (5), 3) := by decide +kernel
theorem d_M_nearest_8 : decode b_M_nearest 8 = .ok (.iconst (-1), 1) := by decide +kernel
theorem d_M_nearest_9 : decode b_M_nearest 9 = .ok (.ireturn, 1) := by decide +kernel
theorem d_M_nearest_10 : decode b_M_nearest 10 = .ok (.aload_n 0, 1) := by decide +kernel
theorem d_M_nearest_11 : decode b_M_nearest 11 = .ok (.iload_n 1, 1) := by decide +kernel
theorem d_M_nearest_12 : decode b_M_nearest 12 = .ok (.invokevirtual 87, 3) := by decide +kernel
theorem d_M_nearest_15 : decode b_M_nearest 15 = .ok (.aload_n 0, 1) := by decide +kernel
theorem d_M_nearest_16 : decode b_M_nearest 16 = .ok (.getfield 45, 3) := by decide +kernel
theorem d_M_nearest_19 : decode b_M_nearest 19 = .ok (.iconst 2, 1) := by decide +kernel
theorem d_M_nearest_20 : decode b_M_nearest 20 = .ok (.if_icmp .ge (6), 3) := by decide +kernel
theorem d_M_nearest_23 : decode b_M_nearest 23 = .ok (.bipush (-3), 2) := by decide +kernel
theorem d_M_nearest_25 : decode b_M_nearest 25 = .ok (.ireturn, 1) := by decide +kernel
theorem d_M_nearest_26 : decode b_M_nearest 26 = .ok (.aload_n 0, 1) := by decide +kernel
theorem d_M_nearest_27 : decode b_M_nearest 27 = .ok (.getfield 19, 3) := by decide +kernel
theorem d_M_nearest_30 : decode b_M_nearest 30 = .ok (.iconst 0, 1) := by decide +kernel
theorem d_M_nearest_31 : decode b_M_nearest 31 = .ok (.iaload, 1) := by decide +kernel
theorem d_M_nearest_32 : decode b_M_nearest 32 = .ok (.i2l, 1) := by decide +kernel
theorem d_M_nearest_33 : decode b_M_nearest 33 = .ok (.aload_n 0, 1) := by decide +kernel
theorem d_M_nearest_34 : decode b_M_nearest 34 = .ok (.getfield 22, 3) := by decide +kernel
theorem d_M_nearest_37 : decode b_M_nearest 37 = .ok (.iconst 0, 1) := by decide +kernel
theorem d_M_nearest_38 : decode b_M_nearest 38 = .ok (.iaload, 1) := by decide +kernel
theorem d_M_nearest_39 : decode b_M_nearest 39 = .ok (.i2l, 1) := by decide +kernel
theorem d_M_nearest_40 : decode b_M_nearest 40 = .ok (.aload_n 0, 1) := by decide +kernel
theorem d_M_nearest_41 : decode b_M_nearest 41 = .ok (.getfield 19, 3) := by decide +kernel
theorem d_M_nearest_44 : decode b_M_nearest 44 = .ok (.iconst 1, 1) := by decide +kernel
theorem d_M_nearest_45 : decode b_M_nearest 45 = .ok (.iaload, 1) := by decide +kernel
theorem d_M_nearest_46 : decode b_M_nearest 46 = .ok (.i2l, 1) := by decide +kernel
theorem d_M_nearest_47 : decode b_M_nearest 47 = .ok (.aload_n 0, 1) := by decide +kernel
theorem d_M_nearest_48 : decode b_M_nearest 48 = .ok (.getfield 22, 3) := by decide +kernel
theorem d_M_nearest_51 : decode b_M_nearest 51 = .ok (.iconst 1, 1) := by decide +kernel
theorem d_M_nearest_52 : decode b_M_nearest 52 = .ok (.iaload, 1) := by decide +kernel
theorem d_M_nearest_53 : decode b_M_nearest 53 = .ok (.i2l, 1) := by decide +kernel
theorem d_M_nearest_54 : decode b_M_nearest 54 = .ok (.invokestatic 62, 3) := by decide +kernel
theorem d_M_nearest_57 : decode b_M_nearest 57 = .ok (.lstore_n 2, 1) := by decide +kernel
theorem d_M_nearest_58 : decode b_M_nearest 58 = .ok (.iconst 0, 1) := by decide +kernel
theorem d_M_nearest_59 : decode b_M_nearest 59 = .ok (.istore 4, 2) := by decide +kernel
theorem d_M_nearest_61 : decode b_M_nearest 61 = .ok (.iload 4, 2) := by decide +kernel
theorem d_M_nearest_63 : decode b_M_nearest 63 = .ok (.aload_n 0, 1) := by decide +kernel
theorem d_M_nearest_64 : decode b_M_nearest 64 = .ok (.getfield 45, 3) := by decide +kernel
theorem d_M_nearest_67 : decode b_M_nearest 67 = .ok (.if_icmp .ge (76), 3) := by decide +kernel
theorem d_M_nearest_70 : decode b_M_nearest 70 = .ok (.iconst 0, 1) := by decide +kernel
theorem d_M_nearest_71 : decode b_M_nearest 71 = .ok (.istore 5, 2) := by decide +kernel
theorem d_M_nearest_73 : decode b_M_nearest 73 = .ok (.iload 5, 2) := by decide +kernel
theorem d_M_nearest_75 : decode b_M_nearest 75 = .ok (.iload 4, 2) := by decide +kernel
theorem d_M_nearest_77 : decode b_M_nearest 77 = .ok (.if_icmp .ge (60), 3) := by decide +kernel
theorem d_M_nearest_80 : decode b_M_nearest 80 = .ok (.aload_n 0, 1) := by decide +kernel
theorem d_M_nearest_81 : decode b_M_nearest 81 = .ok (.getfield 19, 3) := by decide +kernel
theorem d_M_nearest_84 : decode b_M_nearest 84 = .ok (.iload 4, 2) := by decide +kernel
theorem d_M_nearest_86 : decode b_M_nearest 86 = .ok (.iaload, 1) := by decide +kernel
theorem d_M_nearest_87 : decode b_M_nearest 87 = .ok (.i2l, 1) := by decide +kernel
theorem d_M_nearest_88 : decode b_M_nearest 88 = .ok (.aload_n 0, 1) := by decide +kernel
theorem d_M_nearest_89 : decode b_M_nearest 89 = .ok (.getfield 22, 3) := by decide +kernel
theorem d_M_nearest_92 : decode b_M_nearest 92 = .ok (.iload 4, 2) := by decide +kernel
theorem d_M_nearest_94 : decode b_M_nearest 94 = .ok (.iaload, 1) := by decide +kernel
theorem d_M_nearest_95 : decode b_M_nearest 95 = .ok (.i2l, 1) := by decide +kernel
theorem d_M_nearest_96 : decode b_M_nearest 96 = .ok (.aload_n 0, 1) := by decide +kernel
theorem d_M_nearest_97 : decode b_M_nearest 97 = .ok (.getfield 19, 3) := by decide +kernel
theorem d_M_nearest_100 : decode b_M_nearest 100 = .ok (.iload 5, 2) := by decide +kernel
theorem d_M_nearest_102 : decode b_M_nearest 102 = .ok (.iaload, 1) := by decide +kernel
theorem d_M_nearest_103 : decode b_M_nearest 103 = .ok (.i2l, 1) := by decide +kernel
theorem d_M_nearest_104 : decode b_M_nearest 104 = .ok (.aload_n 0, 1) := by decide +kernel
theorem d_M_nearest_105 : decode b_M_nearest 105 = .ok (.getfield 22, 3) := by decide +kernel
theorem d_M_nearest_108 : decode b_M_nearest 108 = .ok (.iload 5, 2) := by decide +kernel
theorem d_M_nearest_110 : decode b_M_nearest 110 = .ok (.iaload, 1) := by decide +kernel
theorem d_M_nearest_111 : decode b_M_nearest 111 = .ok (.i2l, 1) := by decide +kernel
theorem d_M_nearest_112 : decode b_M_nearest 112 = .ok (.invokestatic 62, 3) := by decide +kernel
theorem d_M_nearest_115 : decode b_M_nearest 115 = .ok (.lstore 6, 2) := by decide +kernel
theorem d_M_nearest_117 : decode b_M_nearest 117 = .ok (.lload 6, 2) := by decide +kernel
theorem d_M_nearest_119 : decode b_M_nearest 119 = .ok (.lload_n 2, 1) := by decide +kernel
theorem d_M_nearest_120 : decode b_M_nearest 120 = .ok (.lcmp, 1) := by decide +kernel
theorem d_M_nearest_121 : decode b_M_nearest 121 = .ok (.ifCond .ge (8), 3) := by decide +kernel
theorem d_M_nearest_124 : decode b_M_nearest 124 = .ok (.lload 6, 2) := by decide +kernel
theorem d_M_nearest_126 : decode b_M_nearest 126 = .ok (.goto (4), 3) := by decide +kernel
theorem d_M_nearest_129 : decode b_M_nearest 129 = .ok (.lload_n 2, 1) := by decide +kernel
theorem d_M_nearest_130 : decode b_M_nearest 130 = .ok (.lstore_n 2, 1) := by decide +kernel
theorem d_M_nearest_131 : decode b_M_nearest 131 = .ok (.iinc 5 (1), 3) := by decide +kernel
theorem d_M_nearest_134 : decode b_M_nearest 134 = .ok (.goto (-61), 3) := by decide +kernel
theorem d_M_nearest_137 : decode b_M_nearest 137 = .ok (.iinc 4 (1), 3) := by decide +kernel
theorem d_M_nearest_140 : decode b_M_nearest 140 = .ok (.goto (-79), 3) := by decide +kernel
theorem d_M_nearest_143 : decode b_M_nearest 143 = .ok (.lload_n 2, 1) := by decide +kernel
theorem d_M_nearest_144 : decode b_M_nearest 144 = .ok (.l2i, 1) := by decide +kernel
theorem d_M_nearest_145 : decode b_M_nearest 145 = .ok (.ireturn, 1) := by decide +kernel
theorem d_M_within_0 : decode b_M_within 0 = .ok (.aload_n 0, 1) := by decide +kernel
theorem d_M_within_1 : decode b_M_within 1 = .ok (.iload_n 1, 1) := by decide +kernel
theorem d_M_within_2 : decode b_M_within 2 = .ok (.invokevirtual 79, 3) := by decide +kernel
theorem d_M_within_5 : decode b_M_within 5 = .ok (.ifCond .eq (11), 3) := by decide +kernel
theorem d_M_within_8 : decode b_M_within 8 = .ok (.aload_n 0, 1) := by decide +kernel
theorem d_M_within_9 : decode b_M_within 9 = .ok (.iload_n 2, 1) := by decide +kernel
theorem d_M_within_10 : decode b_M_within 10 = .ok (.invokevirtual 79, 3) := by decide +kernel
theorem d_M_within_13 : decode b_M_within 13 = .ok (.ifCond .ne (5), 3) := by decide +kernel
theorem d_M_within_16 : decode b_M_within 16 = .ok (.iconst (-1), 1) := by decide +kernel
theorem d_M_within_17 : decode b_M_within 17 = .ok (.ireturn, 1) := by decide +kernel
theorem d_M_within_18 : decode b_M_within 18 = .ok (.aload_n 0, 1) := by decide +kernel
theorem d_M_within_19 : decode b_M_within 19 = .ok (.iload_n 2, 1) := by decide +kernel
theorem d_M_within_20 : decode b_M_within 20 = .ok (.invokevirtual 87, 3) := by decide +kernel
theorem d_M_within_23 : decode b_M_within 23 = .ok (.iconst 1, 1) := by decide +kernel
theorem d_M_within_24 : decode b_M_within 24 = .ok (.istore_n 3, 1) := by decide +kernel
theorem d_M_within_25 : decode b_M_within 25 = .ok (.iconst 0, 1) := by decide +kernel
theorem d_M_within_26 : decode b_M_within 26 = .ok (.istore 4, 2) := by decide +kernel
theorem d_M_within_28 : decode b_M_within 28 = .ok (.iload 4, 2) := by decide +kernel
theorem d_M_within_30 : decode b_M_within 30 = .ok (.aload_n 0, 1) := by decide +kernel
theorem d_M_within_31 : decode b_M_within 31 = .ok (.getfield 16, 3) := by decide +kernel
theorem d_M_within_34 : decode b_M_within 34 = .ok (.iload_n 1, 1) := by decide +kernel
theorem d_M_within_35 : decode b_M_within 35 = .ok (.iaload, 1) := by decide +kernel
theorem d_M_within_36 : decode b_M_within 36 = .ok (.if_icmp .ge (52), 3) := by decide +kernel
theorem d_M_within_39 : decode b_M_within 39 = .ok (.iload_n 3, 1) := by decide +kernel
theorem d_M_within_40 : decode b_M_within 40 = .ok (.ifCond .eq (40), 3) := by decide +kernel
theorem d_M_within_43 : decode b_M_within 43 = .ok (.aload_n 0, 1) := by decide +kernel
theorem d_M_within_44 : decode b_M_within 44 = .ok (.aload_n 0, 1) := by decide +kernel
theorem d_M_within_45 : decode b_M_within 45 = .ok (.getfield 7, 3) := by decide +kernel
theorem d_M_within_48 : decode b_M_within 48 = .ok (.bipush (24), 2) := by decide +kernel
theorem d_M_within_50 : decode b_M_within 50 = .ok (.iload_n 1, 1) := by decide +kernel
theorem d_M_within_51 : decode b_M_within 51 = .ok (.imul, 1) := by decide +kernel
theorem d_M_within_52 : decode b_M_within 52 = .ok (.iload 4, 2) := by decide +kernel
theorem d_M_within_54 : decode b_M_within 54 = .ok (.iadd, 1) := by decide +kernel
theorem d_M_within_55 : decode b_M_within 55 = .ok (.iaload, 1) := by decide +kernel
theorem d_M_within_56 : decode b_M_within 56 = .ok (.i2l, 1) := by decide +kernel
theorem d_M_within_57 : decode b_M_within 57 = .ok (.aload_n 0, 1) := by decide +kernel
theorem d_M_within_58 : decode b_M_within 58 = .ok (.getfield 13, 3) := by decide +kernel
theorem d_M_within_61 : decode b_M_within 61 = .ok (.bipush (24), 2) := by decide +kernel
theorem d_M_within_63 : decode b_M_within 63 = .ok (.iload_n 1, 1) := by decide +kernel
theorem d_M_within_64 : decode b_M_within 64 = .ok (.imul, 1) := by decide +kernel
theorem d_M_within_65 : decode b_M_within 65 = .ok (.iload 4, 2) := by decide +kernel
theorem d_M_within_67 : decode b_M_within 67 = .ok (.iadd, 1) := by decide +kernel
theorem d_M_within_68 : decode b_M_within 68 = .ok (.iaload, 1) := by decide +kernel
theorem d_M_within_69 : decode b_M_within 69 = .ok (.i2l, 1) := by decide +kernel
theorem d_M_within_70 : decode b_M_within 70 = .ok (.invokevirtual 91, 3) := by decide +kernel
theorem d_M_within_73 : decode b_M_within 73 = .ok (.ifCond .le (7), 3) := by decide +kernel
theorem d_M_within_76 : decode b_M_within 76 = .ok (.iconst 1, 1) := by decide +kernel
theorem d_M_within_77 : decode b_M_within 77 = .ok (.goto (4), 3) := by decide +kernel
theorem d_M_within_80 : decode b_M_within 80 = .ok (.iconst 0, 1) := by decide +kernel
theorem d_M_within_81 : decode b_M_within 81 = .ok (.istore_n 3, 1) := by decide +kernel
theorem d_M_within_82 : decode b_M_within 82 = .ok (.iinc 4 (1), 3) := by decide +kernel
theorem d_M_within_85 : decode b_M_within 85 = .ok (.goto (-57), 3) := by decide +kernel
theorem d_M_within_88 : decode b_M_within 88 = .ok (.iload_n 3, 1) := by decide +kernel
theorem d_M_within_89 : decode b_M_within 89 = .ok (.ifCond .eq (7), 3) := by decide +kernel
theorem d_M_within_92 : decode b_M_within 92 = .ok (.iconst 1, 1) := by decide +kernel
theorem d_M_within_93 : decode b_M_within 93 = .ok (.goto (4), 3) := by decide +kernel
theorem d_M_within_96 : decode b_M_within 96 = .ok (.iconst 0, 1) := by decide +kernel
theorem d_M_within_97 : decode b_M_within 97 = .ok (.ireturn, 1) := by decide +kernel
theorem d_M_first_0 : decode b_M_first 0 = .ok (.aload_n 0, 1) := by decide +kernel
theorem d_M_first_1 : decode b_M_first 1 = .ok (.iconst 0, 1) := by decide +kernel
theorem d_M_first_2 : decode b_M_first 2 = .ok (.putfield 35, 3) := by decide +kernel
theorem d_M_first_5 : decode b_M_first 5 = .ok (.aload_n 0, 1) := by decide +kernel
theorem d_M_first_6 : decode b_M_first 6 = .ok (.getfield 42, 3) := by decide +kernel
theorem d_M_first_9 : decode b_M_first 9 = .ok (.lreturn, 1) := by decide +kernel
theorem d_M_second_0 : decode b_M_second 0 = .ok (.aload_n 0, 1) := by decide +kernel
theorem d_M_second_1 : decode b_M_second 1 = .ok (.iconst 0, 1) := by decide +kernel
theorem d_M_second_2 : decode b_M_second 2 = .ok (.putfield 35, 3) := by decide +kernel
theorem d_M_second_5 : decode b_M_second 5 = .ok (.aload_n 0, 1) := by decide +kernel
theorem d_M_second_6 : decode b_M_second 6 = .ok (.getfield 31, 3) := by decide +kernel
theorem d_M_second_9 : decode b_M_second 9 = .ok (.lreturn, 1) := by decide +kernel
theorem d_M_told_0 : decode b_M_told 0 = .ok (.aload_n 0, 1) := by decide +kernel
theorem d_M_told_1 : decode b_M_told 1 = .ok (.iconst 0, 1) := by decide +kernel
theorem d_M_told_2 : decode b_M_told 2 = .ok (.putfield 35, 3) := by decide +kernel
theorem d_M_told_5 : decode b_M_told 5 = .ok (.iload_n 1, 1) := by decide +kernel
theorem d_M_told_6 : decode b_M_told 6 = .ok (.iconst 0, 1) := by decide +kernel
theorem d_M_told_7 : decode b_M_told 7 = .ok (.iconst 1, 1) := by decide +kernel
theorem d_M_told_8 : decode b_M_told 8 = .ok (.invokestatic 83, 3) := by decide +kernel
theorem d_M_told_11 : decode b_M_told 11 = .ok (.ifCond .ne (6), 3) := by decide +kernel
theorem d_M_told_14 : decode b_M_told 14 = .ok (.bipush (-2), 2) := by decide +kernel
theorem d_M_told_16 : decode b_M_told 16 = .ok (.ireturn, 1) := by decide +kernel
theorem d_M_told_17 : decode b_M_told 17 = .ok (.iconst 0, 1) := by decide +kernel
theorem d_M_told_18 : decode b_M_told 18 = .ok (.istore_n 2, 1) := by decide +kernel
theorem d_M_told_19 : decode b_M_told 19 = .ok (.iconst 0, 1) := by decide +kernel
theorem d_M_told_20 : decode b_M_told 20 = .ok (.istore_n 3, 1) := by decide +kernel
theorem d_M_told_21 : decode b_M_told 21 = .ok (.iload_n 3, 1) := by decide +kernel
theorem d_M_told_22 : decode b_M_told 22 = .ok (.aload_n 0, 1) := by decide +kernel
theorem d_M_told_23 : decode b_M_told 23 = .ok (.getfield 39, 3) := by decide +kernel
theorem d_M_told_26 : decode b_M_told 26 = .ok (.if_icmp .ge (18), 3) := by decide +kernel
theorem d_M_told_29 : decode b_M_told 29 = .ok (.iload_n 2, 1) := by decide +kernel
theorem d_M_told_30 : decode b_M_told 30 = .ok (.aload_n 0, 1) := by decide +kernel
theorem d_M_told_31 : decode b_M_told 31 = .ok (.getfield 16, 3) := by decide +kernel
theorem d_M_told_34 : decode b_M_told 34 = .ok (.iload_n 3, 1) := by decide +kernel
theorem d_M_told_35 : decode b_M_told 35 = .ok (.iaload, 1) := by decide +kernel
theorem d_M_told_36 : decode b_M_told 36 = .ok (.iadd, 1) := by decide +kernel
theorem d_M_told_37 : decode b_M_told 37 = .ok (.istore_n 2, 1) := by decide +kernel
theorem d_M_told_38 : decode b_M_told 38 = .ok (.iinc 3 (1), 3) := by decide +kernel
theorem d_M_told_41 : decode b_M_told 41 = .ok (.goto (-20), 3) := by decide +kernel
theorem d_M_told_44 : decode b_M_told 44 = .ok (.iload_n 1, 1) := by decide +kernel
theorem d_M_told_45 : decode b_M_told 45 = .ok (.ifCond .ne (10), 3) := by decide +kernel
theorem d_M_told_48 : decode b_M_told 48 = .ok (.aload_n 0, 1) := by decide +kernel
theorem d_M_told_49 : decode b_M_told 49 = .ok (.getfield 39, 3) := by decide +kernel
theorem d_M_told_52 : decode b_M_told 52 = .ok (.goto (4), 3) := by decide +kernel
theorem d_M_told_55 : decode b_M_told 55 = .ok (.iload_n 2, 1) := by decide +kernel
theorem d_M_told_56 : decode b_M_told 56 = .ok (.ireturn, 1) := by decide +kernel
theorem d_C_init_0 : decode b_C_init 0 = .ok (.aload_n 0, 1) := by decide +kernel
theorem d_C_init_1 : decode b_C_init 1 = .ok (.invokespecial 1, 3) := by decide +kernel
theorem d_C_init_4 : decode b_C_init 4 = .ok (.aload_n 0, 1) := by decide +kernel
theorem d_C_init_5 : decode b_C_init 5 = .ok (.lconst 0, 1) := by decide +kernel
theorem d_C_init_6 : decode b_C_init 6 = .ok (.putfield 7, 3) := by decide +kernel
theorem d_C_init_9 : decode b_C_init 9 = .ok (.aload_n 0, 1) := by decide +kernel
theorem d_C_init_10 : decode b_C_init 10 = .ok (.lconst 0, 1) := by decide +kernel
theorem d_C_init_11 : decode b_C_init 11 = .ok (.putfield 13, 3) := by decide +kernel
theorem d_C_init_14 : decode b_C_init 14 = .ok (.aload_n 0, 1) := by decide +kernel
theorem d_C_init_15 : decode b_C_init 15 = .ok (.lconst 0, 1) := by decide +kernel
theorem d_C_init_16 : decode b_C_init 16 = .ok (.putfield 16, 3) := by decide +kernel
theorem d_C_init_19 : decode b_C_init 19 = .ok (.aload_n 0, 1) := by decide +kernel
theorem d_C_init_20 : decode b_C_init 20 = .ok (.lconst 0, 1) := by decide +kernel
theorem d_C_init_21 : decode b_C_init 21 = .ok (.putfield 19, 3) := by decide +kernel
theorem d_C_init_24 : decode b_C_init 24 = .ok (.aload_n 0, 1) := by decide +kernel
theorem d_C_init_25 : decode b_C_init 25 = .ok (.lconst 1, 1) := by decide +kernel
theorem d_C_init_26 : decode b_C_init 26 = .ok (.putfield 22, 3) := by decide +kernel
theorem d_C_init_29 : decode b_C_init 29 = .ok (.return_, 1) := by decide +kernel
theorem d_C_enclose_0 : decode b_C_enclose 0 = .ok (.aload_n 0, 1) := by decide +kernel
theorem d_C_enclose_1 : decode b_C_enclose 1 = .ok (.aload_n 1, 1) := by decide +kernel
theorem d_C_enclose_2 : decode b_C_enclose 2 = .ok (.iconst 0, 1) := by decide +kernel
theorem d_C_enclose_3 : decode b_C_enclose 3 = .ok (.invokevirtual 25, 3) := by decide +kernel
theorem d_C_enclose_6 : decode b_C_enclose 6 = .ok (.iconst 1, 1) := by decide +kernel
theorem d_C_enclose_7 : decode b_C_enclose 7 = .ok (.istore_n 2, 1) := by decide +kernel
theorem d_C_enclose_8 : decode b_C_enclose 8 = .ok (.iload_n 2, 1) := by decide +kernel
theorem d_C_enclose_9 : decode b_C_enclose 9 = .ok (.aload_n 1, 1) := by decide +kernel
theorem d_C_enclose_10 : decode b_C_enclose 10 = .ok (.invokevirtual 29, 3) := by decide +kernel
theorem d_C_enclose_13 : decode b_C_enclose 13 = .ok (.if_icmp .ge (24), 3) := by decide +kernel
theorem d_C_enclose_16 : decode b_C_enclose 16 = .ok (.aload_n 0, 1) := by decide +kernel
theorem d_C_enclose_17 : decode b_C_enclose 17 = .ok (.aload_n 1, 1) := by decide +kernel
theorem d_C_enclose_18 : decode b_C_enclose 18 = .ok (.iload_n 2, 1) := by decide +kernel
theorem d_C_enclose_19 : decode b_C_enclose 19 = .ok (.invokevirtual 35, 3) := by decide +kernel
theorem d_C_enclose_22 : decode b_C_enclose 22 = .ok (.ifCond .ne (9), 3) := by decide +kernel
theorem d_C_enclose_25 : decode b_C_enclose 25 = .ok (.aload_n 0, 1) := by decide +kernel
theorem d_C_enclose_26 : decode b_C_enclose 26 = .ok (.aload_n 1, 1) := by decide +kernel
theorem d_C_enclose_27 : decode b_C_enclose 27 = .ok (.iload_n 2, 1) := by decide +kernel
theorem d_C_enclose_28 : decode b_C_enclose 28 = .ok (.invokevirtual 39, 3) := by decide +kernel
theorem d_C_enclose_31 : decode b_C_enclose 31 = .ok (.iinc 2 (1), 3) := by decide +kernel
theorem d_C_enclose_34 : decode b_C_enclose 34 = .ok (.goto (-26), 3) := by decide +kernel
theorem d_C_enclose_37 : decode b_C_enclose 37 = .ok (.return_, 1) := by decide +kernel
theorem d_C_encloseThrough_0 : decode b_C_encloseThrough 0 = .ok (.aload_n 0, 1) := by decide +kernel
theorem d_C_encloseThrough_1 : decode b_C_encloseThrough 1 = .ok (.aload_n 1, 1) := by decide +kernel
theorem d_C_encloseThrough_2 : decode b_C_encloseThrough 2 = .ok (.iload_n 2, 1) := by decide +kernel
theorem d_C_encloseThrough_3 : decode b_C_encloseThrough 3 = .ok (.invokevirtual 25, 3) := by decide +kernel
theorem d_C_encloseThrough_6 : decode b_C_encloseThrough 6 = .ok (.iconst 0, 1) := by decide +kernel
theorem d_C_encloseThrough_7 : decode b_C_encloseThrough 7 = .ok (.istore_n 3, 1) := by decide +kernel
theorem d_C_encloseThrough_8 : decode b_C_encloseThrough 8 = .ok (.iload_n 3, 1) := by decide +kernel
theorem d_C_encloseThrough_9 : decode b_C_encloseThrough 9 = .ok (.iload_n 2, 1) := by decide +kernel
theorem d_C_encloseThrough_10 : decode b_C_encloseThrough 10 = .ok (.if_icmp .ge (25), 3) := by decide +kernel
theorem d_C_encloseThrough_13 : decode b_C_encloseThrough 13 = .ok (.aload_n 0, 1) := by decide +kernel
theorem d_C_encloseThrough_14 : decode b_C_encloseThrough 14 = .ok (.aload_n 1, 1) := by decide +kernel
theorem d_C_encloseThrough_15 : decode b_C_encloseThrough 15 = .ok (.iload_n 3, 1) := by decide +kernel
theorem d_C_encloseThrough_16 : decode b_C_encloseThrough 16 = .ok (.invokevirtual 35, 3) := by decide +kernel
theorem d_C_encloseThrough_19 : decode b_C_encloseThrough 19 = .ok (.ifCond .ne (10), 3) := by decide +kernel
theorem d_C_encloseThrough_22 : decode b_C_encloseThrough 22 = .ok (.aload_n 0, 1) := by decide +kernel
theorem d_C_encloseThrough_23 : decode b_C_encloseThrough 23 = .ok (.aload_n 1, 1) := by decide +kernel
theorem d_C_encloseThrough_24 : decode b_C_encloseThrough 24 = .ok (.iload_n 2, 1) := by decide +kernel
theorem d_C_encloseThrough_25 : decode b_C_encloseThrough 25 = .ok (.iload_n 3, 1) := by decide +kernel
theorem d_C_encloseThrough_26 : decode b_C_encloseThrough 26 = .ok (.invokevirtual 42, 3) := by decide +kernel
theorem d_C_encloseThrough_29 : decode b_C_encloseThrough 29 = .ok (.iinc 3 (1), 3) := by decide +kernel
theorem d_C_encloseThrough_32 : decode b_C_encloseThrough 32 = .ok (.goto (-24), 3) := by decide +kernel
theorem d_C_encloseThrough_35 : decode b_C_encloseThrough 35 = .ok (.return_, 1) := by decide +kernel
theorem d_C_encloseThroughBoth_0 : decode b_C_encloseThroughBoth 0 = .ok (.aload_n 0, 1) := by decide +kernel
theorem d_C_encloseThroughBoth_1 : decode b_C_encloseThroughBoth 1 = .ok (.aload_n 1, 1) := by decide +kernel
theorem d_C_encloseThroughBoth_2 : decode b_C_encloseThroughBoth 2 = .ok (.iload_n 2, 1) := by decide +kernel
theorem d_C_encloseThroughBoth_3 : decode b_C_encloseThroughBoth 3 = .ok (.iload_n 3, 1) := by decide +kernel
theorem d_C_encloseThroughBoth_4 : decode b_C_encloseThroughBoth 4 = .ok (.invokevirtual 46, 3) := by decide +kernel
theorem d_C_encloseThroughBoth_7 : decode b_C_encloseThroughBoth 7 = .ok (.iconst 0, 1) := by decide +kernel
theorem d_C_encloseThroughBoth_8 : decode b_C_encloseThroughBoth 8 = .ok (.istore 4, 2) := by decide +kernel
theorem d_C_encloseThroughBoth_10 : decode b_C_encloseThroughBoth 10 = .ok (.iload 4, 2) := by decide +kernel
theorem d_C_encloseThroughBoth_12 : decode b_C_encloseThroughBoth 12 = .ok (.iload_n 3, 1) := by decide +kernel
theorem d_C_encloseThroughBoth_13 : decode b_C_encloseThroughBoth 13 = .ok (.if_icmp .ge (28), 3) := by decide +kernel
theorem d_C_encloseThroughBoth_16 : decode b_C_encloseThroughBoth 16 = .ok (.aload_n 0, 1) := by decide +kernel
theorem d_C_encloseThroughBoth_17 : decode b_C_encloseThroughBoth 17 = .ok (.aload_n 1, 1) := by decide +kernel
theorem d_C_encloseThroughBoth_18 : decode b_C_encloseThroughBoth 18 = .ok (.iload 4, 2) := by decide +kernel
theorem d_C_encloseThroughBoth_20 : decode b_C_encloseThroughBoth 20 = .ok (.invokevirtual 35, 3) := by decide +kernel
theorem d_C_encloseThroughBoth_23 : decode b_C_encloseThroughBoth 23 = .ok (.ifCond .ne (12), 3) := by decide +kernel
theorem d_C_encloseThroughBoth_26 : decode b_C_encloseThroughBoth 26 = .ok (.aload_n 0, 1) := by decide +kernel
theorem d_C_encloseThroughBoth_27 : decode b_C_encloseThroughBoth 27 = .ok (.aload_n 1, 1) := by decide +kernel
theorem d_C_encloseThroughBoth_28 : decode b_C_encloseThroughBoth 28 = .ok (.iload_n 2, 1) := by decide +kernel
theorem d_C_encloseThroughBoth_29 : decode b_C_encloseThroughBoth 29 = .ok (.iload_n 3, 1) := by decide +kernel
theorem d_C_encloseThroughBoth_30 : decode b_C_encloseThroughBoth 30 = .ok (.iload 4, 2) := by decide +kernel
theorem d_C_encloseThroughBoth_32 : decode b_C_encloseThroughBoth 32 = .ok (.invokevirtual 49, 3) := by decide +kernel
theorem d_C_encloseThroughBoth_35 : decode b_C_encloseThroughBoth 35 = .ok (.iinc 4 (1), 3) := by decide +kernel
theorem d_C_encloseThroughBoth_38 : decode b_C_encloseThroughBoth 38 = .ok (.goto (-28), 3) := by decide +kernel
theorem d_C_encloseThroughBoth_41 : decode b_C_encloseThroughBoth 41 = .ok (.return_, 1) := by decide +kernel
theorem d_C_has_0 : decode b_C_has 0 = .ok (.aload_n 1, 1) := by decide +kernel
theorem d_C_has_1 : decode b_C_has 1 = .ok (.iload_n 2, 1) := by decide +kernel
theorem d_C_has_2 : decode b_C_has 2 = .ok (.invokevirtual 53, 3) := by decide +kernel
theorem d_C_has_5 : decode b_C_has 5 = .ok (.i2l, 1) := by decide +kernel
theorem d_C_has_6 : decode b_C_has 6 = .ok (.aload_n 0, 1) := by decide +kernel
theorem d_C_has_7 : decode b_C_has 7 = .ok (.getfield 7, 3) := by decide +kernel
theorem d_C_has_10 : decode b_C_has 10 = .ok (.lsub, 1) := by decide +kernel
theorem d_C_has_11 : decode b_C_has 11 = .ok (.lstore_n 3, 1) := by decide +kernel
theorem d_C_has_12 : decode b_C_has 12 = .ok (.aload_n 1, 1) := by decide +kernel
theorem d_C_has_13 : decode b_C_has 13 = .ok (.iload_n 2, 1) := by decide +kernel
theorem d_C_has_14 : decode b_C_has 14 = .ok (.invokevirtual 57, 3) := by decide +kernel
theorem d_C_has_17 : decode b_C_has 17 = .ok (.i2l, 1) := by decide +kernel
theorem d_C_has_18 : decode b_C_has 18 = .ok (.aload_n 0, 1) := by decide +kernel
theorem d_C_has_19 : decode b_C_has 19 = .ok (.getfield 13, 3) := by decide +kernel
theorem d_C_has_22 : decode b_C_has 22 = .ok (.lsub, 1) := by decide +kernel
theorem d_C_has_23 : decode b_C_has 23 = .ok (.lstore 5, 2) := by decide +kernel
theorem d_C_has_25 : decode b_C_has 25 = .ok (.lload_n 3, 1) := by decide +kernel
theorem d_C_has_26 : decode b_C_has 26 = .ok (.lload_n 3, 1) := by decide +kernel
theorem d_C_has_27 : decode b_C_has 27 = .ok (.lmul, 1) := by decide +kernel
theorem d_C_has_28 : decode b_C_has 28 = .ok (.lload 5, 2) := by decide +kernel
theorem d_C_has_30 : decode b_C_has 30 = .ok (.lload 5, 2) := by decide +kernel
theorem d_C_has_32 : decode b_C_has 32 = .ok (.lmul, 1) := by decide +kernel
theorem d_C_has_33 : decode b_C_has 33 = .ok (.ladd, 1) := by decide +kernel
theorem d_C_has_34 : decode b_C_has 34 = .ok (.aload_n 0, 1) := by decide +kernel
theorem d_C_has_35 : decode b_C_has 35 = .ok (.getfield 22, 3) := by decide +kernel
theorem d_C_has_38 : decode b_C_has 38 = .ok (.lmul, 1) := by decide +kernel
theorem d_C_has_39 : decode b_C_has 39 = .ok (.ldc2_w 60, 3) := by decide +kernel
theorem d_C_has_42 : decode b_C_has 42 = .ok (.lload_n 3, 1) := by decide +kernel
theorem d_C_has_43 : decode b_C_has 43 = .ok (.aload_n 0, 1) := by decide +kernel
theorem d_C_has_44 : decode b_C_has 44 = .ok (.getfield 16, 3) := by decide +kernel
theorem d_C_has_47 : decode b_C_has 47 = .ok (.lmul, 1) := by decide +kernel
theorem d_C_has_48 : decode b_C_has 48 = .ok (.lload 5, 2) := by decide +kernel
theorem d_C_has_50 : decode b_C_has 50 = .ok (.aload_n 0, 1) := by decide +kernel
theorem d_C_has_51 : decode b_C_has 51 = .ok (.getfield 19, 3) := by decide +kernel
theorem d_C_has_54 : decode b_C_has 54 = .ok (.lmul, 1) := by decide +kernel
theorem d_C_has_55 : decode b_C_has 55 = .ok (.ladd, 1) := by decide +kernel
theorem d_C_has_56 : decode b_C_has 56 = .ok (.lmul, 1) := by decide +kernel
theorem d_C_has_57 : decode b_C_has 57 = .ok (.lcmp, 1) := by decide +kernel
theorem d_C_has_58 : decode b_C_has 58 = .ok (.ifCond .gt (7), 3) := by decide +kernel
theorem d_C_has_61 : decode b_C_has 61 = .ok (.iconst 1, 1) := by decide +kernel
theorem d_C_has_62 : decode b_C_has 62 = .ok (.goto (4), 3) := by decide +kernel
theorem d_C_has_65 : decode b_C_has 65 = .ok (.iconst 0, 1) := by decide +kernel
theorem d_C_has_66 : decode b_C_has 66 = .ok (.ireturn, 1) := by decide +kernel
theorem d_C_shrinkTo_0 : decode b_C_shrinkTo 0 = .ok (.aload_n 0, 1) := by decide +kernel
theorem d_C_shrinkTo_1 : decode b_C_shrinkTo 1 = .ok (.aload_n 1, 1) := by decide +kernel
theorem d_C_shrinkTo_2 : decode b_C_shrinkTo 2 = .ok (.iload_n 2, 1) := by decide +kernel
theorem d_C_shrinkTo_3 : decode b_C_shrinkTo 3 = .ok (.invokevirtual 53, 3) := by decide +kernel
theorem d_C_shrinkTo_6 : decode b_C_shrinkTo 6 = .ok (.i2l, 1) := by decide +kernel
theorem d_C_shrinkTo_7 : decode b_C_shrinkTo 7 = .ok (.putfield 7, 3) := by decide +kernel
theorem d_C_shrinkTo_10 : decode b_C_shrinkTo 10 = .ok (.aload_n 0, 1) := by decide +kernel
theorem d_C_shrinkTo_11 : decode b_C_shrinkTo 11 = .ok (.aload_n 1, 1) := by decide +kernel
theorem d_C_shrinkTo_12 : decode b_C_shrinkTo 12 = .ok (.iload_n 2, 1) := by decide +kernel
theorem d_C_shrinkTo_13 : decode b_C_shrinkTo 13 = .ok (.invokevirtual 57, 3) := by decide +kernel
theorem d_C_shrinkTo_16 : decode b_C_shrinkTo 16 = .ok (.i2l, 1) := by decide +kernel
theorem d_C_shrinkTo_17 : decode b_C_shrinkTo 17 = .ok (.putfield 13, 3) := by decide +kernel
theorem d_C_shrinkTo_20 : decode b_C_shrinkTo 20 = .ok (.aload_n 0, 1) := by decide +kernel
theorem d_C_shrinkTo_21 : decode b_C_shrinkTo 21 = .ok (.lconst 0, 1) := by decide +kernel
theorem d_C_shrinkTo_22 : decode b_C_shrinkTo 22 = .ok (.putfield 16, 3) := by decide +kernel
theorem d_C_shrinkTo_25 : decode b_C_shrinkTo 25 = .ok (.aload_n 0, 1) := by decide +kernel
theorem d_C_shrinkTo_26 : decode b_C_shrinkTo 26 = .ok (.lconst 0, 1) := by decide +kernel
theorem d_C_shrinkTo_27 : decode b_C_shrinkTo 27 = .ok (.putfield 19, 3) := by decide +kernel
theorem d_C_shrinkTo_30 : decode b_C_shrinkTo 30 = .ok (.aload_n 0, 1) := by decide +kernel
theorem d_C_shrinkTo_31 : decode b_C_shrinkTo 31 = .ok (.lconst 1, 1) := by decide +kernel
theorem d_C_shrinkTo_32 : decode b_C_shrinkTo 32 = .ok (.putfield 22, 3) := by decide +kernel
theorem d_C_shrinkTo_35 : decode b_C_shrinkTo 35 = .ok (.return_, 1) := by decide +kernel
theorem d_C_spanAcross_0 : decode b_C_spanAcross 0 = .ok (.aload_n 0, 1) := by decide +kernel
theorem d_C_spanAcross_1 : decode b_C_spanAcross 1 = .ok (.aload_n 1, 1) := by decide +kernel
theorem d_C_spanAcross_2 : decode b_C_spanAcross 2 = .ok (.iload_n 2, 1) := by decide +kernel
theorem d_C_spanAcross_3 : decode b_C_spanAcross 3 = .ok (.invokevirtual 53, 3) := by decide +kernel
theorem d_C_spanAcross_6 : decode b_C_spanAcross 6 = .ok (.i2l, 1) := by decide +kernel
theorem d_C_spanAcross_7 : decode b_C_spanAcross 7 = .ok (.putfield 7, 3) := by decide +kernel
theorem d_C_spanAcross_10 : decode b_C_spanAcross 10 = .ok (.aload_n 0, 1) := by decide +kernel
theorem d_C_spanAcross_11 : decode b_C_spanAcross 11 = .ok (.aload_n 1, 1) := by decide +kernel
theorem d_C_spanAcross_12 : decode b_C_spanAcross 12 = .ok (.iload_n 2, 1) := by decide +kernel
theorem d_C_spanAcross_13 : decode b_C_spanAcross 13 = .ok (.invokevirtual 57, 3) := by decide +kernel
theorem d_C_spanAcross_16 : decode b_C_spanAcross 16 = .ok (.i2l, 1) := by decide +kernel
theorem d_C_spanAcross_17 : decode b_C_spanAcross 17 = .ok (.putfield 13, 3) := by decide +kernel
theorem d_C_spanAcross_20 : decode b_C_spanAcross 20 = .ok (.aload_n 0, 1) := by decide +kernel
theorem d_C_spanAcross_21 : decode b_C_spanAcross 21 = .ok (.aload_n 1, 1) := by decide +kernel
theorem d_C_spanAcross_22 : decode b_C_spanAcross 22 = .ok (.iload_n 3, 1) := by decide +kernel
theorem d_C_spanAcross_23 : decode b_C_spanAcross 23 = .ok (.invokevirtual 53, 3) := by decide +kernel
theorem d_C_spanAcross_26 : decode b_C_spanAcross 26 = .ok (.i2l, 1) := by decide +kernel
theorem d_C_spanAcross_27 : decode b_C_spanAcross 27 = .ok (.aload_n 0, 1) := by decide +kernel
theorem d_C_spanAcross_28 : decode b_C_spanAcross 28 = .ok (.getfield 7, 3) := by decide +kernel
theorem d_C_spanAcross_31 : decode b_C_spanAcross 31 = .ok (.lsub, 1) := by decide +kernel
theorem d_C_spanAcross_32 : decode b_C_spanAcross 32 = .ok (.putfield 16, 3) := by decide +kernel
theorem d_C_spanAcross_35 : decode b_C_spanAcross 35 = .ok (.aload_n 0, 1) := by decide +kernel
theorem d_C_spanAcross_36 : decode b_C_spanAcross 36 = .ok (.aload_n 1, 1) := by decide +kernel
theorem d_C_spanAcross_37 : decode b_C_spanAcross 37 = .ok (.iload_n 3, 1) := by decide +kernel
theorem d_C_spanAcross_38 : decode b_C_spanAcross 38 = .ok (.invokevirtual 57, 3) := by decide +kernel
theorem d_C_spanAcross_41 : decode b_C_spanAcross 41 = .ok (.i2l, 1) := by decide +kernel
theorem d_C_spanAcross_42 : decode b_C_spanAcross 42 = .ok (.aload_n 0, 1) := by decide +kernel
theorem d_C_spanAcross_43 : decode b_C_spanAcross 43 = .ok (.getfield 13, 3) := by decide +kernel
theorem d_C_spanAcross_46 : decode b_C_spanAcross 46 = .ok (.lsub, 1) := by decide +kernel
theorem d_C_spanAcross_47 : decode b_C_spanAcross 47 = .ok (.putfield 19, 3) := by decide +kernel
theorem d_C_spanAcross_50 : decode b_C_spanAcross 50 = .ok (.aload_n 0, 1) := by decide +kernel
theorem d_C_spanAcross_51 : decode b_C_spanAcross 51 = .ok (.ldc2_w 60, 3) := by decide +kernel
theorem d_C_spanAcross_54 : decode b_C_spanAcross 54 = .ok (.putfield 22, 3) := by decide +kernel
theorem d_C_spanAcross_57 : decode b_C_spanAcross 57 = .ok (.return_, 1) := by decide +kernel
theorem d_C_passThrough_0 : decode b_C_passThrough 0 = .ok (.aload_n 0, 1) := by decide +kernel
theorem d_C_passThrough_1 : decode b_C_passThrough 1 = .ok (.aload_n 1, 1) := by decide +kernel
theorem d_C_passThrough_2 : decode b_C_passThrough 2 = .ok (.iload_n 2, 1) := by decide +kernel
theorem d_C_passThrough_3 : decode b_C_passThrough 3 = .ok (.invokevirtual 53, 3) := by decide +kernel
theorem d_C_passThrough_6 : decode b_C_passThrough 6 = .ok (.i2l, 1) := by decide +kernel
theorem d_C_passThrough_7 : decode b_C_passThrough 7 = .ok (.putfield 7, 3) := by decide +kernel
theorem d_C_passThrough_10 : decode b_C_passThrough 10 = .ok (.aload_n 0, 1) := by decide +kernel
theorem d_C_passThrough_11 : decode b_C_passThrough 11 = .ok (.aload_n 1, 1) := by decide +kernel
theorem d_C_passThrough_12 : decode b_C_passThrough 12 = .ok (.iload_n 2, 1) := by decide +kernel
theorem d_C_passThrough_13 : decode b_C_passThrough 13 = .ok (.invokevirtual 57, 3) := by decide +kernel
theorem d_C_passThrough_16 : decode b_C_passThrough 16 = .ok (.i2l, 1) := by decide +kernel
theorem d_C_passThrough_17 : decode b_C_passThrough 17 = .ok (.putfield 13, 3) := by decide +kernel
theorem d_C_passThrough_20 : decode b_C_passThrough 20 = .ok (.aload_n 1, 1) := by decide +kernel
theorem d_C_passThrough_21 : decode b_C_passThrough 21 = .ok (.iload_n 3, 1) := by decide +kernel
theorem d_C_passThrough_22 : decode b_C_passThrough 22 = .ok (.invokevirtual 53, 3) := by decide +kernel
theorem d_C_passThrough_25 : decode b_C_passThrough 25 = .ok (.i2l, 1) := by decide +kernel
theorem d_C_passThrough_26 : decode b_C_passThrough 26 = .ok (.aload_n 0, 1) := by decide +kernel
theorem d_C_passThrough_27 : decode b_C_passThrough 27 = .ok (.getfield 7, 3) := by decide +kernel
theorem d_C_passThrough_30 : decode b_C_passThrough 30 = .ok (.lsub, 1) := by decide +kernel
theorem d_C_passThrough_31 : decode b_C_passThrough 31 = .ok (.lstore 5, 2) := by decide +kernel
theorem d_C_passThrough_33 : decode b_C_passThrough 33 = .ok (.aload_n 1, 1) := by decide +kernel
theorem d_C_passThrough_34 : decode b_C_passThrough 34 = .ok (.iload_n 3, 1) := by decide +kernel
theorem d_C_passThrough_35 : decode b_C_passThrough 35 = .ok (.invokevirtual 57, 3) := by decide +kernel
theorem d_C_passThrough_38 : decode b_C_passThrough 38 = .ok (.i2l, 1) := by decide +kernel
theorem d_C_passThrough_39 : decode b_C_passThrough 39 = .ok (.aload_n 0, 1) := by decide +kernel
theorem d_C_passThrough_40 : decode b_C_passThrough 40 = .ok (.getfield 13, 3) := by decide +kernel
theorem d_C_passThrough_43 : decode b_C_passThrough 43 = .ok (.lsub, 1) := by decide +kernel
theorem d_C_passThrough_44 : decode b_C_passThrough 44 = .ok (.lstore 7, 2) := by decide +kernel
theorem d_C_passThrough_46 : decode b_C_passThrough 46 = .ok (.aload_n 1, 1) := by decide +kernel
theorem d_C_passThrough_47 : decode b_C_passThrough 47 = .ok (.iload 4, 2) := by decide +kernel
theorem d_C_passThrough_49 : decode b_C_passThrough 49 = .ok (.invokevirtual 53, 3) := by decide +kernel
theorem d_C_passThrough_52 : decode b_C_passThrough 52 = .ok (.i2l, 1) := by decide +kernel
theorem d_C_passThrough_53 : decode b_C_passThrough 53 = .ok (.aload_n 0, 1) := by decide +kernel
theorem d_C_passThrough_54 : decode b_C_passThrough 54 = .ok (.getfield 7, 3) := by decide +kernel
theorem d_C_passThrough_57 : decode b_C_passThrough 57 = .ok (.lsub, 1) := by decide +kernel
theorem d_C_passThrough_58 : decode b_C_passThrough 58 = .ok (.lstore 9, 2) := by decide +kernel
theorem d_C_passThrough_60 : decode b_C_passThrough 60 = .ok (.aload_n 1, 1) := by decide +kernel
theorem d_C_passThrough_61 : decode b_C_passThrough 61 = .ok (.iload 4, 2) := by decide +kernel
theorem d_C_passThrough_63 : decode b_C_passThrough 63 = .ok (.invokevirtual 57, 3) := by decide +kernel
theorem d_C_passThrough_66 : decode b_C_passThrough 66 = .ok (.i2l, 1) := by decide +kernel
theorem d_C_passThrough_67 : decode b_C_passThrough 67 = .ok (.aload_n 0, 1) := by decide +kernel
theorem d_C_passThrough_68 : decode b_C_passThrough 68 = .ok (.getfield 13, 3) := by decide +kernel
theorem d_C_passThrough_71 : decode b_C_passThrough 71 = .ok (.lsub, 1) := by decide +kernel
theorem d_C_passThrough_72 : decode b_C_passThrough 72 = .ok (.lstore 11, 2) := by decide +kernel
theorem d_C_passThrough_74 : decode b_C_passThrough 74 = .ok (.lload 5, 2) := by decide +kernel
theorem d_C_passThrough_76 : decode b_C_passThrough 76 = .ok (.lload 5, 2) := by decide +kernel
theorem d_C_passThrough_78 : decode b_C_passThrough 78 = .ok (.lmul, 1) := by decide +kernel
theorem d_C_passThrough_79 : decode b_C_passThrough 79 = .ok (.lload 7, 2) := by decide +kernel
theorem d_C_passThrough_81 : decode b_C_passThrough 81 = .ok (.lload 7, 2) := by decide +kernel
theorem d_C_passThrough_83 : decode b_C_passThrough 83 = .ok (.lmul, 1) := by decide +kernel
theorem d_C_passThrough_84 : decode b_C_passThrough 84 = .ok (.ladd, 1) := by decide +kernel
theorem d_C_passThrough_85 : decode b_C_passThrough 85 = .ok (.lstore 13, 2) := by decide +kernel
theorem d_C_passThrough_87 : decode b_C_passThrough 87 = .ok (.lload 9, 2) := by decide +kernel
theorem d_C_passThrough_89 : decode b_C_passThrough 89 = .ok (.lload 9, 2) := by decide +kernel
theorem d_C_passThrough_91 : decode b_C_passThrough 91 = .ok (.lmul, 1) := by decide +kernel
theorem d_C_passThrough_92 : decode b_C_passThrough 92 = .ok (.lload 11, 2) := by decide +kernel
theorem d_C_passThrough_94 : decode b_C_passThrough 94 = .ok (.lload 11, 2) := by decide +kernel
theorem d_C_passThrough_96 : decode b_C_passThrough 96 = .ok (.lmul, 1) := by decide +kernel
theorem d_C_passThrough_97 : decode b_C_passThrough 97 = .ok (.ladd, 1) := by decide +kernel
theorem d_C_passThrough_98 : decode b_C_passThrough 98 = .ok (.lstore 15, 2) := by decide +kernel
theorem d_C_passThrough_100 : decode b_C_passThrough 100 = .ok (.lload 5, 2) := by decide +kernel
theorem d_C_passThrough_102 : decode b_C_passThrough 102 = .ok (.lload 11, 2) := by decide +kernel
theorem d_C_passThrough_104 : decode b_C_passThrough 104 = .ok (.lmul, 1) := by decide +kernel
theorem d_C_passThrough_105 : decode b_C_passThrough 105 = .ok (.lload 7, 2) := by decide +kernel
theorem d_C_passThrough_107 : decode b_C_passThrough 107 = .ok (.lload 9, 2) := by decide +kernel
theorem d_C_passThrough_109 : decode b_C_passThrough 109 = .ok (.lmul, 1) := by decide +kernel
theorem d_C_passThrough_110 : decode b_C_passThrough 110 = .ok (.lsub, 1) := by decide +kernel
theorem d_C_passThrough_111 : decode b_C_passThrough 111 = .ok (.lstore 17, 2) := by decide +kernel
theorem d_C_passThrough_113 : decode b_C_passThrough 113 = .ok (.lload 17, 2) := by decide +kernel
theorem d_C_passThrough_115 : decode b_C_passThrough 115 = .ok (.lconst 0, 1) := by decide +kernel
theorem d_C_passThrough_116 : decode b_C_passThrough 116 = .ok (.lcmp, 1) := by decide +kernel
theorem d_C_passThrough_117 : decode b_C_passThrough 117 = .ok (.ifCond .ge (9), 3) := by decide +kernel
theorem d_C_passThrough_120 : decode b_C_passThrough 120 = .ok (.ldc2_w 62, 3) := by decide +kernel
theorem d_C_passThrough_123 : decode b_C_passThrough 123 = .ok (.goto (4), 3) := by decide +kernel
theorem d_C_passThrough_126 : decode b_C_passThrough 126 = .ok (.lconst 1, 1) := by decide +kernel
theorem d_C_passThrough_127 : decode b_C_passThrough 127 = .ok (.lstore 19, 2) := by decide +kernel
theorem d_C_passThrough_129 : decode b_C_passThrough 129 = .ok (.aload_n 0, 1) := by decide +kernel
theorem d_C_passThrough_130 : decode b_C_passThrough 130 = .ok (.lload 19, 2) := by decide +kernel
theorem d_C_passThrough_132 : decode b_C_passThrough 132 = .ok (.lload 11, 2) := by decide +kernel
theorem d_C_passThrough_134 : decode b_C_passThrough 134 = .ok (.lload 13, 2) := by decide +kernel
theorem d_C_passThrough_136 : decode b_C_passThrough 136 = .ok (.lmul, 1) := by decide +kernel
theorem d_C_passThrough_137 : decode b_C_passThrough 137 = .ok (.lload 7, 2) := by decide +kernel
theorem d_C_passThrough_139 : decode b_C_passThrough 139 = .ok (.lload 15, 2) := by decide +kernel
theorem d_C_passThrough_141 : decode b_C_passThrough 141 = .ok (.lmul, 1) := by decide +kernel
theorem d_C_passThrough_142 : decode b_C_passThrough 142 = .ok (.lsub, 1) := by decide +kernel
theorem d_C_passThrough_143 : decode b_C_passThrough 143 = .ok (.lmul, 1) := by decide +kernel
theorem d_C_passThrough_144 : decode b_C_passThrough 144 = .ok (.putfield 16, 3) := by decide +kernel
theorem d_C_passThrough_147 : decode b_C_passThrough 147 = .ok (.aload_n 0, 1) := by decide +kernel
theorem d_C_passThrough_148 : decode b_C_passThrough 148 = .ok (.lload 19, 2) := by decide +kernel
theorem d_C_passThrough_150 : decode b_C_passThrough 150 = .ok (.lload 5, 2) := by decide +kernel
theorem d_C_passThrough_152 : decode b_C_passThrough 152 = .ok (.lload 15, 2) := by decide +kernel
theorem d_C_passThrough_154 : decode b_C_passThrough 154 = .ok (.lmul, 1) := by decide +kernel
theorem d_C_passThrough_155 : decode b_C_passThrough 155 = .ok (.lload 9, 2) := by decide +kernel
theorem d_C_passThrough_157 : decode b_C_passThrough 157 = .ok (.lload 13, 2) := by decide +kernel
theorem d_C_passThrough_159 : decode b_C_passThrough 159 = .ok (.lmul, 1) := by decide +kernel
theorem d_C_passThrough_160 : decode b_C_passThrough 160 = .ok (.lsub, 1) := by decide +kernel
theorem d_C_passThrough_161 : decode b_C_passThrough 161 = .ok (.lmul, 1) := by decide +kernel
theorem d_C_passThrough_162 : decode b_C_passThrough 162 = .ok (.putfield 19, 3) := by decide +kernel
theorem d_C_passThrough_165 : decode b_C_passThrough 165 = .ok (.aload_n 0, 1) := by decide +kernel
theorem d_C_passThrough_166 : decode b_C_passThrough 166 = .ok (.lload 19, 2) := by decide +kernel
theorem d_C_passThrough_168 : decode b_C_passThrough 168 = .ok (.ldc2_w 60, 3) := by decide +kernel
theorem d_C_passThrough_171 : decode b_C_passThrough 171 = .ok (.lmul, 1) := by decide +kernel
theorem d_C_passThrough_172 : decode b_C_passThrough 172 = .ok (.lload 17, 2) := by decide +kernel
theorem d_C_passThrough_174 : decode b_C_passThrough 174 = .ok (.lmul, 1) := by decide +kernel
theorem d_C_passThrough_175 : decode b_C_passThrough 175 = .ok (.putfield 22, 3) := by decide +kernel
theorem d_C_passThrough_178 : decode b_C_passThrough 178 = .ok (.return_, 1) := by decide +kernel
theorem d_C_middleX_0 : decode b_C_middleX 0 = .ok (.aload_n 0, 1) := by decide +kernel
theorem d_C_middleX_1 : decode b_C_middleX 1 = .ok (.getfield 7, 3) := by decide +kernel
theorem d_C_middleX_4 : decode b_C_middleX 4 = .ok (.aload_n 0, 1) := by decide +kernel
theorem d_C_middleX_5 : decode b_C_middleX 5 = .ok (.getfield 22, 3) := by decide +kernel
theorem d_C_middleX_8 : decode b_C_middleX 8 = .ok (.lmul, 1) := by decide +kernel
theorem d_C_middleX_9 : decode b_C_middleX 9 = .ok (.aload_n 0, 1) := by decide +kernel
theorem d_C_middleX_10 : decode b_C_middleX 10 = .ok (.getfield 16, 3) := by decide +kernel
theorem d_C_middleX_13 : decode b_C_middleX 13 = .ok (.ladd, 1) := by decide +kernel
theorem d_C_middleX_14 : decode b_C_middleX 14 = .ok (.lreturn, 1) := by decide +kernel
theorem d_C_middleY_0 : decode b_C_middleY 0 = .ok (.aload_n 0, 1) := by decide +kernel
theorem d_C_middleY_1 : decode b_C_middleY 1 = .ok (.getfield 13, 3) := by decide +kernel
theorem d_C_middleY_4 : decode b_C_middleY 4 = .ok (.aload_n 0, 1) := by decide +kernel
theorem d_C_middleY_5 : decode b_C_middleY 5 = .ok (.getfield 22, 3) := by decide +kernel
theorem d_C_middleY_8 : decode b_C_middleY 8 = .ok (.lmul, 1) := by decide +kernel
theorem d_C_middleY_9 : decode b_C_middleY 9 = .ok (.aload_n 0, 1) := by decide +kernel
theorem d_C_middleY_10 : decode b_C_middleY 10 = .ok (.getfield 19, 3) := by decide +kernel
theorem d_C_middleY_13 : decode b_C_middleY 13 = .ok (.ladd, 1) := by decide +kernel
theorem d_C_middleY_14 : decode b_C_middleY 14 = .ok (.lreturn, 1) := by decide +kernel
theorem d_C_middleUnder_0 : decode b_C_middleUnder 0 = .ok (.aload_n 0, 1) := by decide +kernel
theorem d_C_middleUnder_1 : decode b_C_middleUnder 1 = .ok (.getfield 22, 3) := by decide +kernel
theorem d_C_middleUnder_4 : decode b_C_middleUnder 4 = .ok (.lreturn, 1) := by decide +kernel
theorem d_C_squareOver_0 : decode b_C_squareOver 0 = .ok (.aload_n 0, 1) := by decide +kernel
theorem d_C_squareOver_1 : decode b_C_squareOver 1 = .ok (.getfield 16, 3) := by decide +kernel
theorem d_C_squareOver_4 : decode b_C_squareOver 4 = .ok (.aload_n 0, 1) := by decide +kernel
theorem d_C_squareOver_5 : decode b_C_squareOver 5 = .ok (.getfield 16, 3) := by decide +kernel
theorem d_C_squareOver_8 : decode b_C_squareOver 8 = .ok (.lmul, 1) := by decide +kernel
theorem d_C_squareOver_9 : decode b_C_squareOver 9 = .ok (.aload_n 0, 1) := by decide +kernel
theorem d_C_squareOver_10 : decode b_C_squareOver 10 = .ok (.getfield 19, 3) := by decide +kernel
theorem d_C_squareOver_13 : decode b_C_squareOver 13 = .ok (.aload_n 0, 1) := by decide +kernel
theorem d_C_squareOver_14 : decode b_C_squareOver 14 = .ok (.getfield 19, 3) := by decide +kernel
theorem d_C_squareOver_17 : decode b_C_squareOver 17 = .ok (.lmul, 1) := by decide +kernel
theorem d_C_squareOver_18 : decode b_C_squareOver 18 = .ok (.ladd, 1) := by decide +kernel
theorem d_C_squareOver_19 : decode b_C_squareOver 19 = .ok (.lreturn, 1) := by decide +kernel
theorem d_C_squareUnder_0 : decode b_C_squareUnder 0 = .ok (.aload_n 0, 1) := by decide +kernel
theorem d_C_squareUnder_1 : decode b_C_squareUnder 1 = .ok (.getfield 22, 3) := by decide +kernel
theorem d_C_squareUnder_4 : decode b_C_squareUnder 4 = .ok (.aload_n 0, 1) := by decide +kernel
theorem d_C_squareUnder_5 : decode b_C_squareUnder 5 = .ok (.getfield 22, 3) := by decide +kernel
theorem d_C_squareUnder_8 : decode b_C_squareUnder 8 = .ok (.lmul, 1) := by decide +kernel
theorem d_C_squareUnder_9 : decode b_C_squareUnder 9 = .ok (.lreturn, 1) := by decide +kernel
theorem d_L_init_0 : decode b_L_init 0 = .ok (.aload_n 0, 1) := by decide +kernel
theorem d_L_init_1 : decode b_L_init 1 = .ok (.invokespecial 1, 3) := by decide +kernel
theorem d_L_init_4 : decode b_L_init 4 = .ok (.aload_n 0, 1) := by decide +kernel
theorem d_L_init_5 : decode b_L_init 5 = .ok (.lconst 0, 1) := by decide +kernel
theorem d_L_init_6 : decode b_L_init 6 = .ok (.putfield 7, 3) := by decide +kernel
theorem d_L_init_9 : decode b_L_init 9 = .ok (.aload_n 0, 1) := by decide +kernel
theorem d_L_init_10 : decode b_L_init 10 = .ok (.lconst 1, 1) := by decide +kernel
theorem d_L_init_11 : decode b_L_init 11 = .ok (.putfield 13, 3) := by decide +kernel
theorem d_L_init_14 : decode b_L_init 14 = .ok (.aload_n 0, 1) := by decide +kernel
theorem d_L_init_15 : decode b_L_init 15 = .ok (.iconst 0, 1) := by decide +kernel
theorem d_L_init_16 : decode b_L_init 16 = .ok (.putfield 16, 3) := by decide +kernel
theorem d_L_init_19 : decode b_L_init 19 = .ok (.return_, 1) := by decide +kernel
theorem d_L_forget_0 : decode b_L_forget 0 = .ok (.aload_n 0, 1) := by decide +kernel
theorem d_L_forget_1 : decode b_L_forget 1 = .ok (.lconst 0, 1) := by decide +kernel
theorem d_L_forget_2 : decode b_L_forget 2 = .ok (.putfield 7, 3) := by decide +kernel
theorem d_L_forget_5 : decode b_L_forget 5 = .ok (.aload_n 0, 1) := by decide +kernel
theorem d_L_forget_6 : decode b_L_forget 6 = .ok (.lconst 1, 1) := by decide +kernel
theorem d_L_forget_7 : decode b_L_forget 7 = .ok (.putfield 13, 3) := by decide +kernel
theorem d_L_forget_10 : decode b_L_forget 10 = .ok (.aload_n 0, 1) := by decide +kernel
theorem d_L_forget_11 : decode b_L_forget 11 = .ok (.iconst 0, 1) := by decide +kernel
theorem d_L_forget_12 : decode b_L_forget 12 = .ok (.putfield 16, 3) := by decide +kernel
theorem d_L_forget_15 : decode b_L_forget 15 = .ok (.return_, 1) := by decide +kernel
theorem d_L_take_0 : decode b_L_take 0 = .ok (.aload_n 0, 1) := by decide +kernel
theorem d_L_take_1 : decode b_L_take 1 = .ok (.getfield 16, 3) := by decide +kernel
theorem d_L_take_4 : decode b_L_take 4 = .ok (.ifCond .eq (19), 3) := by decide +kernel
theorem d_L_take_7 : decode b_L_take 7 = .ok (.lload_n 1, 1) := by decide +kernel
theorem d_L_take_8 : decode b_L_take 8 = .ok (.aload_n 0, 1) := by decide +kernel
theorem d_L_take_9 : decode b_L_take 9 = .ok (.getfield 13, 3) := by decide +kernel
theorem d_L_take_12 : decode b_L_take 12 = .ok (.lmul, 1) := by decide +kernel
theorem d_L_take_13 : decode b_L_take 13 = .ok (.aload_n 0, 1) := by decide +kernel
theorem d_L_take_14 : decode b_L_take 14 = .ok (.getfield 7, 3) := by decide +kernel
theorem d_L_take_17 : decode b_L_take 17 = .ok (.lload_n 3, 1) := by decide +kernel
theorem d_L_take_18 : decode b_L_take 18 = .ok (.lmul, 1) := by decide +kernel
theorem d_L_take_19 : decode b_L_take 19 = .ok (.lcmp, 1) := by decide +kernel
theorem d_L_take_20 : decode b_L_take 20 = .ok (.ifCond .ge (18), 3) := by decide +kernel
theorem d_L_take_23 : decode b_L_take 23 = .ok (.aload_n 0, 1) := by decide +kernel
theorem d_L_take_24 : decode b_L_take 24 = .ok (.lload_n 1, 1) := by decide +kernel
theorem d_L_take_25 : decode b_L_take 25 = .ok (.putfield 7, 3) := by decide +kernel
theorem d_L_take_28 : decode b_L_take 28 = .ok (.aload_n 0, 1) := by decide +kernel
theorem d_L_take_29 : decode b_L_take 29 = .ok (.lload_n 3, 1) := by decide +kernel
theorem d_L_take_30 : decode b_L_take 30 = .ok (.putfield 13, 3) := by decide +kernel
theorem d_L_take_33 : decode b_L_take 33 = .ok (.aload_n 0, 1) := by decide +kernel
theorem d_L_take_34 : decode b_L_take 34 = .ok (.iconst 1, 1) := by decide +kernel
theorem d_L_take_35 : decode b_L_take 35 = .ok (.putfield 16, 3) := by decide +kernel
theorem d_L_take_38 : decode b_L_take 38 = .ok (.return_, 1) := by decide +kernel
theorem d_L_over_0 : decode b_L_over 0 = .ok (.aload_n 0, 1) := by decide +kernel
theorem d_L_over_1 : decode b_L_over 1 = .ok (.getfield 7, 3) := by decide +kernel
theorem d_L_over_4 : decode b_L_over 4 = .ok (.lreturn, 1) := by decide +kernel
theorem d_L_under_0 : decode b_L_under 0 = .ok (.aload_n 0, 1) := by decide +kernel
theorem d_L_under_1 : decode b_L_under 1 = .ok (.getfield 13, 3) := by decide +kernel
theorem d_L_under_4 : decode b_L_under 4 = .ok (.lreturn, 1) := by decide +kernel
theorem d_R_init_0 : decode b_R_init 0 = .ok (.aload_n 0, 1) := by decide +kernel
theorem d_R_init_1 : decode b_R_init 1 = .ok (.invokespecial 3, 3) := by decide +kernel
theorem d_R_init_4 : decode b_R_init 4 = .ok (.aload_n 0, 1) := by decide +kernel
theorem d_R_init_5 : decode b_R_init 5 = .ok (.bipush (48), 2) := by decide +kernel
theorem d_R_init_7 : decode b_R_init 7 = .ok (.newarray .int, 2) := by decide +kernel
theorem d_R_init_9 : decode b_R_init 9 = .ok (.putfield 9, 3) := by decide +kernel
theorem d_R_init_12 : decode b_R_init 12 = .ok (.aload_n 0, 1) := by decide +kernel
theorem d_R_init_13 : decode b_R_init 13 = .ok (.bipush (48), 2) := by decide +kernel
theorem d_R_init_15 : decode b_R_init 15 = .ok (.newarray .int, 2) := by decide +kernel
theorem d_R_init_17 : decode b_R_init 17 = .ok (.putfield 15, 3) := by decide +kernel
theorem d_R_init_20 : decode b_R_init 20 = .ok (.aload_n 0, 1) := by decide +kernel
theorem d_R_init_21 : decode b_R_init 21 = .ok (.iconst 0, 1) := by decide +kernel
theorem d_R_init_22 : decode b_R_init 22 = .ok (.putfield 18, 3) := by decide +kernel
theorem d_R_init_25 : decode b_R_init 25 = .ok (.return_, 1) := by decide +kernel
theorem d_R_size_0 : decode b_R_size 0 = .ok (.aload_n 0, 1) := by decide +kernel
theorem d_R_size_1 : decode b_R_size 1 = .ok (.getfield 18, 3) := by decide +kernel
theorem d_R_size_4 : decode b_R_size 4 = .ok (.ireturn, 1) := by decide +kernel
theorem d_R_x_0 : decode b_R_x 0 = .ok (.iload_n 1, 1) := by decide +kernel
theorem d_R_x_1 : decode b_R_x 1 = .ok (.ifCond .lt (29), 3) := by decide +kernel
theorem d_R_x_4 : decode b_R_x 4 = .ok (.iload_n 1, 1) := by decide +kernel
theorem d_R_x_5 : decode b_R_x 5 = .ok (.aload_n 0, 1) := by decide +kernel
theorem d_R_x_6 : decode b_R_x 6 = .ok (.getfield 18, 3) := by decide +kernel
theorem d_R_x_9 : decode b_R_x 9 = .ok (.if_icmp .ge (21), 3) := by decide +kernel
theorem d_R_x_12 : decode b_R_x 12 = .ok (.iload_n 1, 1) := by decide +kernel
theorem d_R_x_13 : decode b_R_x 13 = .ok (.aload_n 0, 1) := by decide +kernel
theorem d_R_x_14 : decode b_R_x 14 = .ok (.getfield 9, 3) := by decide +kernel
theorem d_R_x_17 : decode b_R_x 17 = .ok (.arraylength, 1) := by decide +kernel
theorem d_R_x_18 : decode b_R_x 18 = .ok (.if_icmp .ge (12), 3) := by decide +kernel
theorem d_R_x_21 : decode b_R_x 21 = .ok (.aload_n 0, 1) := by decide +kernel
theorem d_R_x_22 : decode b_R_x 22 = .ok (.getfield 9, 3) := by decide +kernel
theorem d_R_x_25 : decode b_R_x 25 = .ok (.iload_n 1, 1) := by decide +kernel
theorem d_R_x_26 : decode b_R_x 26 = .ok (.iaload, 1) := by decide +kernel
theorem d_R_x_27 : decode b_R_x 27 = .ok (.goto (4), 3) := by decide +kernel
theorem d_R_x_30 : decode b_R_x 30 = .ok (.iconst 0, 1) := by decide +kernel
theorem d_R_x_31 : decode b_R_x 31 = .ok (.ireturn, 1) := by decide +kernel
theorem d_R_y_0 : decode b_R_y 0 = .ok (.iload_n 1, 1) := by decide +kernel
theorem d_R_y_1 : decode b_R_y 1 = .ok (.ifCond .lt (29), 3) := by decide +kernel
theorem d_R_y_4 : decode b_R_y 4 = .ok (.iload_n 1, 1) := by decide +kernel
theorem d_R_y_5 : decode b_R_y 5 = .ok (.aload_n 0, 1) := by decide +kernel
theorem d_R_y_6 : decode b_R_y 6 = .ok (.getfield 18, 3) := by decide +kernel
theorem d_R_y_9 : decode b_R_y 9 = .ok (.if_icmp .ge (21), 3) := by decide +kernel
theorem d_R_y_12 : decode b_R_y 12 = .ok (.iload_n 1, 1) := by decide +kernel
theorem d_R_y_13 : decode b_R_y 13 = .ok (.aload_n 0, 1) := by decide +kernel
theorem d_R_y_14 : decode b_R_y 14 = .ok (.getfield 15, 3) := by decide +kernel
theorem d_R_y_17 : decode b_R_y 17 = .ok (.arraylength, 1) := by decide +kernel
theorem d_R_y_18 : decode b_R_y 18 = .ok (.if_icmp .ge (12), 3) := by decide +kernel
theorem d_R_y_21 : decode b_R_y 21 = .ok (.aload_n 0, 1) := by decide +kernel
theorem d_R_y_22 : decode b_R_y 22 = .ok (.getfield 15, 3) := by decide +kernel
theorem d_R_y_25 : decode b_R_y 25 = .ok (.iload_n 1, 1) := by decide +kernel
theorem d_R_y_26 : decode b_R_y 26 = .ok (.iaload, 1) := by decide +kernel
theorem d_R_y_27 : decode b_R_y 27 = .ok (.goto (4), 3) := by decide +kernel
theorem d_R_y_30 : decode b_R_y 30 = .ok (.iconst 0, 1) := by decide +kernel
theorem d_R_y_31 : decode b_R_y 31 = .ok (.ireturn, 1) := by decide +kernel
theorem d_R_empty_0 : decode b_R_empty 0 = .ok (.aload_n 0, 1) := by decide +kernel
theorem d_R_empty_1 : decode b_R_empty 1 = .ok (.iconst 0, 1) := by decide +kernel
theorem d_R_empty_2 : decode b_R_empty 2 = .ok (.putfield 18, 3) := by decide +kernel
theorem d_R_empty_5 : decode b_R_empty 5 = .ok (.return_, 1) := by decide +kernel
theorem d_R_add_0 : decode b_R_add 0 = .ok (.aload_n 0, 1) := by decide +kernel
theorem d_R_add_1 : decode b_R_add 1 = .ok (.getfield 18, 3) := by decide +kernel
theorem d_R_add_4 : decode b_R_add 4 = .ok (.ifCond .lt (57), 3) := by decide +kernel
theorem d_R_add_7 : decode b_R_add 7 = .ok (.aload_n 0, 1) := by decide +kernel
theorem d_R_add_8 : decode b_R_add 8 = .ok (.getfield 18, 3) := by decide +kernel
theorem d_R_add_11 : decode b_R_add 11 = .ok (.aload_n 0, 1) := by decide +kernel
theorem d_R_add_12 : decode b_R_add 12 = .ok (.getfield 9, 3) := by decide +kernel
theorem d_R_add_15 : decode b_R_add 15 = .ok (.arraylength, 1) := by decide +kernel
theorem d_R_add_16 : decode b_R_add 16 = .ok (.if_icmp .ge (45), 3) := by decide +kernel
theorem d_R_add_19 : decode b_R_add 19 = .ok (.aload_n 0, 1) := by decide +kernel
theorem d_R_add_20 : decode b_R_add 20 = .ok (.getfield 18, 3) := by decide +kernel
theorem d_R_add_23 : decode b_R_add 23 = .ok (.aload_n 0, 1) := by decide +kernel
theorem d_R_add_24 : decode b_R_add 24 = .ok (.getfield 15, 3) := by decide +kernel
theorem d_R_add_27 : decode b_R_add 27 = .ok (.arraylength, 1) := by decide +kernel
theorem d_R_add_28 : decode b_R_add 28 = .ok (.if_icmp .ge (33), 3) := by decide +kernel
theorem d_R_add_31 : decode b_R_add 31 = .ok (.aload_n 0, 1) := by decide +kernel
theorem d_R_add_32 : decode b_R_add 32 = .ok (.getfield 9, 3) := by decide +kernel
theorem d_R_add_35 : decode b_R_add 35 = .ok (.aload_n 0, 1) := by decide +kernel
theorem d_R_add_36 : decode b_R_add 36 = .ok (.getfield 18, 3) := by decide +kernel
theorem d_R_add_39 : decode b_R_add 39 = .ok (.iload_n 1, 1) := by decide +kernel
theorem d_R_add_40 : decode b_R_add 40 = .ok (.iastore, 1) := by decide +kernel
theorem d_R_add_41 : decode b_R_add 41 = .ok (.aload_n 0, 1) := by decide +kernel
theorem d_R_add_42 : decode b_R_add 42 = .ok (.getfield 15, 3) := by decide +kernel
theorem d_R_add_45 : decode b_R_add 45 = .ok (.aload_n 0, 1) := by decide +kernel
theorem d_R_add_46 : decode b_R_add 46 = .ok (.getfield 18, 3) := by decide +kernel
theorem d_R_add_49 : decode b_R_add 49 = .ok (.iload_n 2, 1) := by decide +kernel
theorem d_R_add_50 : decode b_R_add 50 = .ok (.iastore, 1) := by decide +kernel
theorem d_R_add_51 : decode b_R_add 51 = .ok (.aload_n 0, 1) := by decide +kernel
theorem d_R_add_52 : decode b_R_add 52 = .ok (.dup, 1) := by decide +kernel
theorem d_R_add_53 : decode b_R_add 53 = .ok (.getfield 18, 3) := by decide +kernel
theorem d_R_add_56 : decode b_R_add 56 = .ok (.iconst 1, 1) := by decide +kernel
theorem d_R_add_57 : decode b_R_add 57 = .ok (.iadd, 1) := by decide +kernel
theorem d_R_add_58 : decode b_R_add 58 = .ok (.putfield 18, 3) := by decide +kernel
theorem d_R_add_61 : decode b_R_add 61 = .ok (.return_, 1) := by decide +kernel
theorem d_R_dropLast_0 : decode b_R_dropLast 0 = .ok (.aload_n 0, 1) := by decide +kernel
theorem d_R_dropLast_1 : decode b_R_dropLast 1 = .ok (.getfield 18, 3) := by decide +kernel
theorem d_R_dropLast_4 : decode b_R_dropLast 4 = .ok (.ifCond .le (13), 3) := by decide +kernel
theorem d_R_dropLast_7 : decode b_R_dropLast 7 = .ok (.aload_n 0, 1) := by decide +kernel
theorem d_R_dropLast_8 : decode b_R_dropLast 8 = .ok (.dup, 1) := by decide +kernel
theorem d_R_dropLast_9 : decode b_R_dropLast 9 = .ok (.getfield 18, 3) := by decide +kernel
theorem d_R_dropLast_12 : decode b_R_dropLast 12 = .ok (.iconst 1, 1) := by decide +kernel
theorem d_R_dropLast_13 : decode b_R_dropLast 13 = .ok (.isub, 1) := by decide +kernel
theorem d_R_dropLast_14 : decode b_R_dropLast 14 = .ok (.putfield 18, 3) := by decide +kernel
theorem d_R_dropLast_17 : decode b_R_dropLast 17 = .ok (.return_, 1) := by decide +kernel
theorem d_R_has_0 : decode b_R_has 0 = .ok (.iconst 0, 1) := by decide +kernel
theorem d_R_has_1 : decode b_R_has 1 = .ok (.istore_n 3, 1) := by decide +kernel
theorem d_R_has_2 : decode b_R_has 2 = .ok (.iload_n 3, 1) := by decide +kernel
theorem d_R_has_3 : decode b_R_has 3 = .ok (.aload_n 0, 1) := by decide +kernel
theorem d_R_has_4 : decode b_R_has 4 = .ok (.getfield 18, 3) := by decide +kernel
theorem d_R_has_7 : decode b_R_has 7 = .ok (.if_icmp .ge (29), 3) := by decide +kernel
theorem d_R_has_10 : decode b_R_has 10 = .ok (.aload_n 0, 1) := by decide +kernel
theorem d_R_has_11 : decode b_R_has 11 = .ok (.iload_n 3, 1) := by decide +kernel
theorem d_R_has_12 : decode b_R_has 12 = .ok (.invokevirtual 22, 3) := by decide +kernel
theorem d_R_has_15 : decode b_R_has 15 = .ok (.iload_n 1, 1) := by decide +kernel
theorem d_R_has_16 : decode b_R_has 16 = .ok (.if_icmp .ne (14), 3) := by decide +kernel
theorem d_R_has_19 : decode b_R_has 19 = .ok (.aload_n 0, 1) := by decide +kernel
theorem d_R_has_20 : decode b_R_has 20 = .ok (.iload_n 3, 1) := by decide +kernel
theorem d_R_has_21 : decode b_R_has 21 = .ok (.invokevirtual 26, 3) := by decide +kernel
theorem d_R_has_24 : decode b_R_has 24 = .ok (.iload_n 2, 1) := by decide +kernel
theorem d_R_has_25 : decode b_R_has 25 = .ok (.if_icmp .ne (5), 3) := by decide +kernel
theorem d_R_has_28 : decode b_R_has 28 = .ok (.iconst 1, 1) := by decide +kernel
theorem d_R_has_29 : decode b_R_has 29 = .ok (.ireturn, 1) := by decide +kernel
theorem d_R_has_30 : decode b_R_has 30 = .ok (.iinc 3 (1), 3) := by decide +kernel
theorem d_R_has_33 : decode b_R_has 33 = .ok (.goto (-31), 3) := by decide +kernel
theorem d_R_has_36 : decode b_R_has 36 = .ok (.iconst 0, 1) := by decide +kernel
theorem d_R_has_37 : decode b_R_has 37 = .ok (.ireturn, 1) := by decide +kernel
theorem d_R_isWithin_0 : decode b_R_isWithin 0 = .ok (.iconst 0, 1) := by decide +kernel
theorem d_R_isWithin_1 : decode b_R_isWithin 1 = .ok (.istore_n 2, 1) := by decide +kernel
theorem d_R_isWithin_2 : decode b_R_isWithin 2 = .ok (.iload_n 2, 1) := by decide +kernel
theorem d_R_isWithin_3 : decode b_R_isWithin 3 = .ok (.aload_n 0, 1) := by decide +kernel
theorem d_R_isWithin_4 : decode b_R_isWithin 4 = .ok (.getfield 18, 3) := by decide +kernel
theorem d_R_isWithin_7 : decode b_R_isWithin 7 = .ok (.if_icmp .ge (35), 3) := by decide +kernel
theorem d_R_isWithin_10 : decode b_R_isWithin 10 = .ok (.aload_n 0, 1) := by decide +kernel
theorem d_R_isWithin_11 : decode b_R_isWithin 11 = .ok (.iload_n 2, 1) := by decide +kernel
theorem d_R_isWithin_12 : decode b_R_isWithin 12 = .ok (.invokevirtual 22, 3) := by decide +kernel
theorem d_R_isWithin_15 : decode b_R_isWithin 15 = .ok (.iload_n 1, 1) := by decide +kernel
theorem d_R_isWithin_16 : decode b_R_isWithin 16 = .ok (.invokestatic 29, 3) := by decide +kernel
theorem d_R_isWithin_19 : decode b_R_isWithin 19 = .ok (.ifCond .eq (15), 3) := by decide +kernel
theorem d_R_isWithin_22 : decode b_R_isWithin 22 = .ok (.aload_n 0, 1) := by decide +kernel
theorem d_R_isWithin_23 : decode b_R_isWithin 23 = .ok (.iload_n 2, 1) := by decide +kernel
theorem d_R_isWithin_24 : decode b_R_isWithin 24 = .ok (.invokevirtual 26, 3) := by decide +kernel
theorem d_R_isWithin_27 : decode b_R_isWithin 27 = .ok (.iload_n 1, 1) := by decide +kernel
theorem d_R_isWithin_28 : decode b_R_isWithin 28 = .ok (.invokestatic 29, 3) := by decide +kernel
theorem d_R_isWithin_31 : decode b_R_isWithin 31 = .ok (.ifCond .ne (5), 3) := by decide +kernel
theorem d_R_isWithin_34 : decode b_R_isWithin 34 = .ok (.iconst 0, 1) := by decide +kernel
theorem d_R_isWithin_35 : decode b_R_isWithin 35 = .ok (.ireturn, 1) := by decide +kernel
theorem d_R_isWithin_36 : decode b_R_isWithin 36 = .ok (.iinc 2 (1), 3) := by decide +kernel
theorem d_R_isWithin_39 : decode b_R_isWithin 39 = .ok (.goto (-37), 3) := by decide +kernel
theorem d_R_isWithin_42 : decode b_R_isWithin 42 = .ok (.iconst 1, 1) := by decide +kernel
theorem d_R_isWithin_43 : decode b_R_isWithin 43 = .ok (.ireturn, 1) := by decide +kernel
theorem d_R_addSorted_0 : decode b_R_addSorted 0 = .ok (.aload_n 0, 1) := by decide +kernel
theorem d_R_addSorted_1 : decode b_R_addSorted 1 = .ok (.getfield 18, 3) := by decide +kernel
theorem d_R_addSorted_4 : decode b_R_addSorted 4 = .ok (.ifCond .lt (27), 3) := by decide +kernel
theorem d_R_addSorted_7 : decode b_R_addSorted 7 = .ok (.aload_n 0, 1) := by decide +kernel
theorem d_R_addSorted_8 : decode b_R_addSorted 8 = .ok (.getfield 18, 3) := by decide +kernel
theorem d_R_addSorted_11 : decode b_R_addSorted 11 = .ok (.aload_n 0, 1) := by decide +kernel
theorem d_R_addSorted_12 : decode b_R_addSorted 12 = .ok (.getfield 9, 3) := by decide +kernel
theorem d_R_addSorted_15 : decode b_R_addSorted 15 = .ok (.arraylength, 1) := by decide +kernel
theorem d_R_addSorted_16 : decode b_R_addSorted 16 = .ok (.if_icmp .ge (15), 3) := by decide +kernel
theorem d_R_addSorted_19 : decode b_R_addSorted 19 = .ok (.aload_n 0, 1) := by decide +kernel
theorem d_R_addSorted_20 : decode b_R_addSorted 20 = .ok (.getfield 18, 3) := by decide +kernel
theorem d_R_addSorted_23 : decode b_R_addSorted 23 = .ok (.aload_n 0, 1) := by decide +kernel
theorem d_R_addSorted_24 : decode b_R_addSorted 24 = .ok (.getfield 15, 3) := by decide +kernel
theorem d_R_addSorted_27 : decode b_R_addSorted 27 = .ok (.arraylength, 1) := by decide +kernel
theorem d_R_addSorted_28 : decode b_R_addSorted 28 = .ok (.if_icmp .lt (4), 3) := by decide +kernel
theorem d_R_addSorted_31 : decode b_R_addSorted 31 = .ok (.return_, 1) := by decide +kernel
theorem d_R_addSorted_32 : decode b_R_addSorted 32 = .ok (.aload_n 0, 1) := by decide +kernel
theorem d_R_addSorted_33 : decode b_R_addSorted 33 = .ok (.getfield 18, 3) := by decide +kernel
theorem d_R_addSorted_36 : decode b_R_addSorted 36 = .ok (.istore_n 3, 1) := by decide +kernel
theorem d_R_addSorted_37 : decode b_R_addSorted 37 = .ok (.iload_n 3, 1) := by decide +kernel
theorem d_R_addSorted_38 : decode b_R_addSorted 38 = .ok (.ifCond .le (73), 3) := by decide +kernel
theorem d_R_addSorted_41 : decode b_R_addSorted 41 = .ok (.aload_n 0, 1) := by decide +kernel
theorem d_R_addSorted_42 : decode b_R_addSorted 42 = .ok (.getfield 9, 3) := by decide +kernel
theorem d_R_addSorted_45 : decode b_R_addSorted 45 = .ok (.iload_n 3, 1) := by decide +kernel
theorem d_R_addSorted_46 : decode b_R_addSorted 46 = .ok (.iconst 1, 1) := by decide +kernel
theorem d_R_addSorted_47 : decode b_R_addSorted 47 = .ok (.isub, 1) := by decide +kernel
theorem d_R_addSorted_48 : decode b_R_addSorted 48 = .ok (.iaload, 1) := by decide +kernel
theorem d_R_addSorted_49 : decode b_R_addSorted 49 = .ok (.iload_n 1, 1) := by decide +kernel
theorem d_R_addSorted_50 : decode b_R_addSorted 50 = .ok (.if_icmp .gt (27), 3) := by decide +kernel
theorem d_R_addSorted_53 : decode b_R_addSorted 53 = .ok (.aload_n 0, 1) := by decide +kernel
theorem d_R_addSorted_54 : decode b_R_addSorted 54 = .ok (.getfield 9, 3) := by decide +kernel
theorem d_R_addSorted_57 : decode b_R_addSorted 57 = .ok (.iload_n 3, 1) := by decide +kernel
theorem d_R_addSorted_58 : decode b_R_addSorted 58 = .ok (.iconst 1, 1) := by decide +kernel
theorem d_R_addSorted_59 : decode b_R_addSorted 59 = .ok (.isub, 1) := by decide +kernel
theorem d_R_addSorted_60 : decode b_R_addSorted 60 = .ok (.iaload, 1) := by decide +kernel
theorem d_R_addSorted_61 : decode b_R_addSorted 61 = .ok (.iload_n 1, 1) := by decide +kernel
theorem d_R_addSorted_62 : decode b_R_addSorted 62 = .ok (.if_icmp .ne (49), 3) := by decide +kernel
theorem d_R_addSorted_65 : decode b_R_addSorted 65 = .ok (.aload_n 0, 1) := by decide +kernel
theorem d_R_addSorted_66 : decode b_R_addSorted 66 = .ok (.getfield 15, 3) := by decide +kernel
theorem d_R_addSorted_69 : decode b_R_addSorted 69 = .ok (.iload_n 3, 1) := by decide +kernel
theorem d_R_addSorted_70 : decode b_R_addSorted 70 = .ok (.iconst 1, 1) := by decide +kernel
theorem d_R_addSorted_71 : decode b_R_addSorted 71 = .ok (.isub, 1) := by decide +kernel
theorem d_R_addSorted_72 : decode b_R_addSorted 72 = .ok (.iaload, 1) := by decide +kernel
theorem d_R_addSorted_73 : decode b_R_addSorted 73 = .ok (.iload_n 2, 1) := by decide +kernel
theorem d_R_addSorted_74 : decode b_R_addSorted 74 = .ok (.if_icmp .le (37), 3) := by decide +kernel
theorem d_R_addSorted_77 : decode b_R_addSorted 77 = .ok (.aload_n 0, 1) := by decide +kernel
theorem d_R_addSorted_78 : decode b_R_addSorted 78 = .ok (.getfield 9, 3) := by decide +kernel
theorem d_R_addSorted_81 : decode b_R_addSorted 81 = .ok (.iload_n 3, 1) := by decide +kernel
theorem d_R_addSorted_82 : decode b_R_addSorted 82 = .ok (.aload_n 0, 1) := by decide +kernel
theorem d_R_addSorted_83 : decode b_R_addSorted 83 = .ok (.getfield 9, 3) := by decide +kernel
theorem d_R_addSorted_86 : decode b_R_addSorted 86 = .ok (.iload_n 3, 1) := by decide +kernel
theorem d_R_addSorted_87 : decode b_R_addSorted 87 = .ok (.iconst 1, 1) := by decide +kernel
theorem d_R_addSorted_88 : decode b_R_addSorted 88 = .ok (.isub, 1) := by decide +kernel
theorem d_R_addSorted_89 : decode b_R_addSorted 89 = .ok (.iaload, 1) := by decide +kernel
theorem d_R_addSorted_90 : decode b_R_addSorted 90 = .ok (.iastore, 1) := by decide +kernel
theorem d_R_addSorted_91 : decode b_R_addSorted 91 = .ok (.aload_n 0, 1) := by decide +kernel
theorem d_R_addSorted_92 : decode b_R_addSorted 92 = .ok (.getfield 15, 3) := by decide +kernel
theorem d_R_addSorted_95 : decode b_R_addSorted 95 = .ok (.iload_n 3, 1) := by decide +kernel
theorem d_R_addSorted_96 : decode b_R_addSorted 96 = .ok (.aload_n 0, 1) := by decide +kernel
theorem d_R_addSorted_97 : decode b_R_addSorted 97 = .ok (.getfield 15, 3) := by decide +kernel
theorem d_R_addSorted_100 : decode b_R_addSorted 100 = .ok (.iload_n 3, 1) := by decide +kernel
theorem d_R_addSorted_101 : decode b_R_addSorted 101 = .ok (.iconst 1, 1) := by decide +kernel
theorem d_R_addSorted_102 : decode b_R_addSorted 102 = .ok (.isub, 1) := by decide +kernel
theorem d_R_addSorted_103 : decode b_R_addSorted 103 = .ok (.iaload, 1) := by decide +kernel
theorem d_R_addSorted_104 : decode b_R_addSorted 104 = .ok (.iastore, 1) := by decide +kernel
theorem d_R_addSorted_105 : decode b_R_addSorted 105 = .ok (.iinc 3 (-1), 3) := by decide +kernel
theorem d_R_addSorted_108 : decode b_R_addSorted 108 = .ok (.goto (-71), 3) := by decide +kernel
theorem d_R_addSorted_111 : decode b_R_addSorted 111 = .ok (.aload_n 0, 1) := by decide +kernel
theorem d_R_addSorted_112 : decode b_R_addSorted 112 = .ok (.getfield 9, 3) := by decide +kernel
theorem d_R_addSorted_115 : decode b_R_addSorted 115 = .ok (.iload_n 3, 1) := by decide +kernel
theorem d_R_addSorted_116 : decode b_R_addSorted 116 = .ok (.iload_n 1, 1) := by decide +kernel
theorem d_R_addSorted_117 : decode b_R_addSorted 117 = .ok (.iastore, 1) := by decide +kernel
theorem d_R_addSorted_118 : decode b_R_addSorted 118 = .ok (.aload_n 0, 1) := by decide +kernel
theorem d_R_addSorted_119 : decode b_R_addSorted 119 = .ok (.getfield 15, 3) := by decide +kernel
theorem d_R_addSorted_122 : decode b_R_addSorted 122 = .ok (.iload_n 3, 1) := by decide +kernel
theorem d_R_addSorted_123 : decode b_R_addSorted 123 = .ok (.iload_n 2, 1) := by decide +kernel
theorem d_R_addSorted_124 : decode b_R_addSorted 124 = .ok (.iastore, 1) := by decide +kernel
theorem d_R_addSorted_125 : decode b_R_addSorted 125 = .ok (.aload_n 0, 1) := by decide +kernel
theorem d_R_addSorted_126 : decode b_R_addSorted 126 = .ok (.dup, 1) := by decide +kernel
theorem d_R_addSorted_127 : decode b_R_addSorted 127 = .ok (.getfield 18, 3) := by decide +kernel
theorem d_R_addSorted_130 : decode b_R_addSorted 130 = .ok (.iconst 1, 1) := by decide +kernel
theorem d_R_addSorted_131 : decode b_R_addSorted 131 = .ok (.iadd, 1) := by decide +kernel
theorem d_R_addSorted_132 : decode b_R_addSorted 132 = .ok (.putfield 18, 3) := by decide +kernel
theorem d_R_addSorted_135 : decode b_R_addSorted 135 = .ok (.return_, 1) := by decide +kernel
theorem d_R_squareBetween_0 : decode b_R_squareBetween 0 = .ok (.aload_n 0, 1) := by decide +kernel
theorem d_R_squareBetween_1 : decode b_R_squareBetween 1 = .ok (.iload_n 1, 1) := by decide +kernel
theorem d_R_squareBetween_2 : decode b_R_squareBetween 2 = .ok (.invokevirtual 22, 3) := by decide +kernel
theorem d_R_squareBetween_5 : decode b_R_squareBetween 5 = .ok (.aload_n 0, 1) := by decide +kernel
theorem d_R_squareBetween_6 : decode b_R_squareBetween 6 = .ok (.iload_n 2, 1) := by decide +kernel
theorem d_R_squareBetween_7 : decode b_R_squareBetween 7 = .ok (.invokevirtual 22, 3) := by decide +kernel
theorem d_R_squareBetween_10 : decode b_R_squareBetween 10 = .ok (.isub, 1) := by decide +kernel
theorem d_R_squareBetween_11 : decode b_R_squareBetween 11 = .ok (.istore_n 3, 1) := by decide +kernel
theorem d_R_squareBetween_12 : decode b_R_squareBetween 12 = .ok (.aload_n 0, 1) := by decide +kernel
theorem d_R_squareBetween_13 : decode b_R_squareBetween 13 = .ok (.iload_n 1, 1) := by decide +kernel
theorem d_R_squareBetween_14 : decode b_R_squareBetween 14 = .ok (.invokevirtual 26, 3) := by decide +kernel
theorem d_R_squareBetween_17 : decode b_R_squareBetween 17 = .ok (.aload_n 0, 1) := by decide +kernel
theorem d_R_squareBetween_18 : decode b_R_squareBetween 18 = .ok (.iload_n 2, 1) := by decide +kernel
theorem d_R_squareBetween_19 : decode b_R_squareBetween 19 = .ok (.invokevirtual 26, 3) := by decide +kernel
theorem d_R_squareBetween_22 : decode b_R_squareBetween 22 = .ok (.isub, 1) := by decide +kernel
theorem d_R_squareBetween_23 : decode b_R_squareBetween 23 = .ok (.istore 4, 2) := by decide +kernel
theorem d_R_squareBetween_25 : decode b_R_squareBetween 25 = .ok (.iload_n 3, 1) := by decide +kernel
theorem d_R_squareBetween_26 : decode b_R_squareBetween 26 = .ok (.iload_n 3, 1) := by decide +kernel
theorem d_R_squareBetween_27 : decode b_R_squareBetween 27 = .ok (.imul, 1) := by decide +kernel
theorem d_R_squareBetween_28 : decode b_R_squareBetween 28 = .ok (.iload 4, 2) := by decide +kernel
theorem d_R_squareBetween_30 : decode b_R_squareBetween 30 = .ok (.iload 4, 2) := by decide +kernel
theorem d_R_squareBetween_32 : decode b_R_squareBetween 32 = .ok (.imul, 1) := by decide +kernel
theorem d_R_squareBetween_33 : decode b_R_squareBetween 33 = .ok (.iadd, 1) := by decide +kernel
theorem d_R_squareBetween_34 : decode b_R_squareBetween 34 = .ok (.ireturn, 1) := by decide +kernel
theorem d_R_squareFromZero_0 : decode b_R_squareFromZero 0 = .ok (.aload_n 0, 1) := by decide +kernel
theorem d_R_squareFromZero_1 : decode b_R_squareFromZero 1 = .ok (.iload_n 1, 1) := by decide +kernel
theorem d_R_squareFromZero_2 : decode b_R_squareFromZero 2 = .ok (.invokevirtual 22, 3) := by decide +kernel
theorem d_R_squareFromZero_5 : decode b_R_squareFromZero 5 = .ok (.aload_n 0, 1) := by decide +kernel
theorem d_R_squareFromZero_6 : decode b_R_squareFromZero 6 = .ok (.iload_n 1, 1) := by decide +kernel
theorem d_R_squareFromZero_7 : decode b_R_squareFromZero 7 = .ok (.invokevirtual 22, 3) := by decide +kernel
theorem d_R_squareFromZero_10 : decode b_R_squareFromZero 10 = .ok (.imul, 1) := by decide +kernel
theorem d_R_squareFromZero_11 : decode b_R_squareFromZero 11 = .ok (.aload_n 0, 1) := by decide +kernel
theorem d_R_squareFromZero_12 : decode b_R_squareFromZero 12 = .ok (.iload_n 1, 1) := by decide +kernel
theorem d_R_squareFromZero_13 : decode b_R_squareFromZero 13 = .ok (.invokevirtual 26, 3) := by decide +kernel
theorem d_R_squareFromZero_16 : decode b_R_squareFromZero 16 = .ok (.aload_n 0, 1) := by decide +kernel
theorem d_R_squareFromZero_17 : decode b_R_squareFromZero 17 = .ok (.iload_n 1, 1) := by decide +kernel
theorem d_R_squareFromZero_18 : decode b_R_squareFromZero 18 = .ok (.invokevirtual 26, 3) := by decide +kernel
theorem d_R_squareFromZero_21 : decode b_R_squareFromZero 21 = .ok (.imul, 1) := by decide +kernel
theorem d_R_squareFromZero_22 : decode b_R_squareFromZero 22 = .ok (.iadd, 1) := by decide +kernel
theorem d_R_squareFromZero_23 : decode b_R_squareFromZero 23 = .ok (.ireturn, 1) := by decide +kernel
theorem d_R_becomeHull_0 : decode b_R_becomeHull 0 = .ok (.aload_n 3, 1) := by decide +kernel
theorem d_R_becomeHull_1 : decode b_R_becomeHull 1 = .ok (.invokevirtual 33, 3) := by decide +kernel
theorem d_R_becomeHull_4 : decode b_R_becomeHull 4 = .ok (.iconst 0, 1) := by decide +kernel
theorem d_R_becomeHull_5 : decode b_R_becomeHull 5 = .ok (.istore 4, 2) := by decide +kernel
theorem d_R_becomeHull_7 : decode b_R_becomeHull 7 = .ok (.iload 4, 2) := by decide +kernel
theorem d_R_becomeHull_9 : decode b_R_becomeHull 9 = .ok (.aload_n 1, 1) := by decide +kernel
theorem d_R_becomeHull_10 : decode b_R_becomeHull 10 = .ok (.invokevirtual 36, 3) := by decide +kernel
theorem d_R_becomeHull_13 : decode b_R_becomeHull 13 = .ok (.if_icmp .ge (29), 3) := by decide +kernel
theorem d_R_becomeHull_16 : decode b_R_becomeHull 16 = .ok (.aload_n 3, 1) := by decide +kernel
theorem d_R_becomeHull_17 : decode b_R_becomeHull 17 = .ok (.iload_n 2, 1) := by decide +kernel
theorem d_R_becomeHull_18 : decode b_R_becomeHull 18 = .ok (.aload_n 1, 1) := by decide +kernel
theorem d_R_becomeHull_19 : decode b_R_becomeHull 19 = .ok (.iload 4, 2) := by decide +kernel
theorem d_R_becomeHull_21 : decode b_R_becomeHull 21 = .ok (.invokevirtual 22, 3) := by decide +kernel
theorem d_R_becomeHull_24 : decode b_R_becomeHull 24 = .ok (.imul, 1) := by decide +kernel
theorem d_R_becomeHull_25 : decode b_R_becomeHull 25 = .ok (.iload_n 2, 1) := by decide +kernel
theorem d_R_becomeHull_26 : decode b_R_becomeHull 26 = .ok (.aload_n 1, 1) := by decide +kernel
theorem d_R_becomeHull_27 : decode b_R_becomeHull 27 = .ok (.iload 4, 2) := by decide +kernel
theorem d_R_becomeHull_29 : decode b_R_becomeHull 29 = .ok (.invokevirtual 26, 3) := by decide +kernel
theorem d_R_becomeHull_32 : decode b_R_becomeHull 32 = .ok (.imul, 1) := by decide +kernel
theorem d_R_becomeHull_33 : decode b_R_becomeHull 33 = .ok (.invokevirtual 39, 3) := by decide +kernel
theorem d_R_becomeHull_36 : decode b_R_becomeHull 36 = .ok (.iinc 4 (1), 3) := by decide +kernel
theorem d_R_becomeHull_39 : decode b_R_becomeHull 39 = .ok (.goto (-32), 3) := by decide +kernel
theorem d_R_becomeHull_42 : decode b_R_becomeHull 42 = .ok (.aload_n 0, 1) := by decide +kernel
theorem d_R_becomeHull_43 : decode b_R_becomeHull 43 = .ok (.invokevirtual 33, 3) := by decide +kernel
theorem d_R_becomeHull_46 : decode b_R_becomeHull 46 = .ok (.iconst 0, 1) := by decide +kernel
theorem d_R_becomeHull_47 : decode b_R_becomeHull 47 = .ok (.istore 4, 2) := by decide +kernel
theorem d_R_becomeHull_49 : decode b_R_becomeHull 49 = .ok (.iload 4, 2) := by decide +kernel
theorem d_R_becomeHull_51 : decode b_R_becomeHull 51 = .ok (.aload_n 3, 1) := by decide +kernel
theorem d_R_becomeHull_52 : decode b_R_becomeHull 52 = .ok (.invokevirtual 36, 3) := by decide +kernel
theorem d_R_becomeHull_55 : decode b_R_becomeHull 55 = .ok (.if_icmp .ge (26), 3) := by decide +kernel
theorem d_R_becomeHull_58 : decode b_R_becomeHull 58 = .ok (.aload_n 0, 1) := by decide +kernel
theorem d_R_becomeHull_59 : decode b_R_becomeHull 59 = .ok (.aload_n 3, 1) := by decide +kernel
theorem d_R_becomeHull_60 : decode b_R_becomeHull 60 = .ok (.iload 4, 2) := by decide +kernel
theorem d_R_becomeHull_62 : decode b_R_becomeHull 62 = .ok (.invokevirtual 22, 3) := by decide +kernel
theorem d_R_becomeHull_65 : decode b_R_becomeHull 65 = .ok (.aload_n 3, 1) := by decide +kernel
theorem d_R_becomeHull_66 : decode b_R_becomeHull 66 = .ok (.iload 4, 2) := by decide +kernel
theorem d_R_becomeHull_68 : decode b_R_becomeHull 68 = .ok (.invokevirtual 26, 3) := by decide +kernel
theorem d_R_becomeHull_71 : decode b_R_becomeHull 71 = .ok (.iconst 1, 1) := by decide +kernel
theorem d_R_becomeHull_72 : decode b_R_becomeHull 72 = .ok (.invokevirtual 43, 3) := by decide +kernel
theorem d_R_becomeHull_75 : decode b_R_becomeHull 75 = .ok (.iinc 4 (1), 3) := by decide +kernel
theorem d_R_becomeHull_78 : decode b_R_becomeHull 78 = .ok (.goto (-29), 3) := by decide +kernel
theorem d_R_becomeHull_81 : decode b_R_becomeHull 81 = .ok (.aload_n 0, 1) := by decide +kernel
theorem d_R_becomeHull_82 : decode b_R_becomeHull 82 = .ok (.getfield 18, 3) := by decide +kernel
theorem d_R_becomeHull_85 : decode b_R_becomeHull 85 = .ok (.istore 4, 2) := by decide +kernel
theorem d_R_becomeHull_87 : decode b_R_becomeHull 87 = .ok (.aload_n 3, 1) := by decide +kernel
theorem d_R_becomeHull_88 : decode b_R_becomeHull 88 = .ok (.invokevirtual 36, 3) := by decide +kernel
theorem d_R_becomeHull_91 : decode b_R_becomeHull 91 = .ok (.iconst 2, 1) := by decide +kernel
theorem d_R_becomeHull_92 : decode b_R_becomeHull 92 = .ok (.isub, 1) := by decide +kernel
theorem d_R_becomeHull_93 : decode b_R_becomeHull 93 = .ok (.istore 5, 2) := by decide +kernel
theorem d_R_becomeHull_95 : decode b_R_becomeHull 95 = .ok (.iload 5, 2) := by decide +kernel
theorem d_R_becomeHull_97 : decode b_R_becomeHull 97 = .ok (.ifCond .lt (27), 3) := by decide +kernel
theorem d_R_becomeHull_100 : decode b_R_becomeHull 100 = .ok (.aload_n 0, 1) := by decide +kernel
theorem d_R_becomeHull_101 : decode b_R_becomeHull 101 = .ok (.aload_n 3, 1) := by decide +kernel
theorem d_R_becomeHull_102 : decode b_R_becomeHull 102 = .ok (.iload 5, 2) := by decide +kernel
theorem d_R_becomeHull_104 : decode b_R_becomeHull 104 = .ok (.invokevirtual 22, 3) := by decide +kernel
theorem d_R_becomeHull_107 : decode b_R_becomeHull 107 = .ok (.aload_n 3, 1) := by decide +kernel
theorem d_R_becomeHull_108 : decode b_R_becomeHull 108 = .ok (.iload 5, 2) := by decide +kernel
theorem d_R_becomeHull_110 : decode b_R_becomeHull 110 = .ok (.invokevirtual 26, 3) := by decide +kernel
theorem d_R_becomeHull_113 : decode b_R_becomeHull 113 = .ok (.iload 4, 2) := by decide +kernel
theorem d_R_becomeHull_115 : decode b_R_becomeHull 115 = .ok (.invokevirtual 43, 3) := by decide +kernel
theorem d_R_becomeHull_118 : decode b_R_becomeHull 118 = .ok (.iinc 5 (-1), 3) := by decide +kernel
theorem d_R_becomeHull_121 : decode b_R_becomeHull 121 = .ok (.goto (-26), 3) := by decide +kernel
theorem d_R_becomeHull_124 : decode b_R_becomeHull 124 = .ok (.aload_n 0, 1) := by decide +kernel
theorem d_R_becomeHull_125 : decode b_R_becomeHull 125 = .ok (.getfield 18, 3) := by decide +kernel
theorem d_R_becomeHull_128 : decode b_R_becomeHull 128 = .ok (.iconst 1, 1) := by decide +kernel
theorem d_R_becomeHull_129 : decode b_R_becomeHull 129 = .ok (.if_icmp .le (7), 3) := by decide +kernel
theorem d_R_becomeHull_132 : decode b_R_becomeHull 132 = .ok (.aload_n 0, 1) := by decide +kernel
theorem d_R_becomeHull_133 : decode b_R_becomeHull 133 = .ok (.invokevirtual 47, 3) := by decide +kernel
theorem d_R_becomeHull_136 : decode b_R_becomeHull 136 = .ok (.return_, 1) := by decide +kernel
theorem d_R_addCorner_0 : decode b_R_addCorner 0 = .ok (.aload_n 0, 1) := by decide +kernel
theorem d_R_addCorner_1 : decode b_R_addCorner 1 = .ok (.getfield 18, 3) := by decide +kernel
theorem d_R_addCorner_4 : decode b_R_addCorner 4 = .ok (.iload_n 3, 1) := by decide +kernel
theorem d_R_addCorner_5 : decode b_R_addCorner 5 = .ok (.if_icmp .le (45), 3) := by decide +kernel
theorem d_R_addCorner_8 : decode b_R_addCorner 8 = .ok (.aload_n 0, 1) := by decide +kernel
theorem d_R_addCorner_9 : decode b_R_addCorner 9 = .ok (.getfield 18, 3) := by decide +kernel
theorem d_R_addCorner_12 : decode b_R_addCorner 12 = .ok (.iconst 1, 1) := by decide +kernel
theorem d_R_addCorner_13 : decode b_R_addCorner 13 = .ok (.if_icmp .le (37), 3) := by decide +kernel
theorem d_R_addCorner_16 : decode b_R_addCorner 16 = .ok (.aload_n 0, 1) := by decide +kernel
theorem d_R_addCorner_17 : decode b_R_addCorner 17 = .ok (.aload_n 0, 1) := by decide +kernel
theorem d_R_addCorner_18 : decode b_R_addCorner 18 = .ok (.getfield 18, 3) := by decide +kernel
theorem d_R_addCorner_21 : decode b_R_addCorner 21 = .ok (.iconst 2, 1) := by decide +kernel
theorem d_R_addCorner_22 : decode b_R_addCorner 22 = .ok (.isub, 1) := by decide +kernel
theorem d_R_addCorner_23 : decode b_R_addCorner 23 = .ok (.aload_n 0, 1) := by decide +kernel
theorem d_R_addCorner_24 : decode b_R_addCorner 24 = .ok (.getfield 18, 3) := by decide +kernel
theorem d_R_addCorner_27 : decode b_R_addCorner 27 = .ok (.iconst 1, 1) := by decide +kernel
theorem d_R_addCorner_28 : decode b_R_addCorner 28 = .ok (.isub, 1) := by decide +kernel
theorem d_R_addCorner_29 : decode b_R_addCorner 29 = .ok (.iload_n 1, 1) := by decide +kernel
theorem d_R_addCorner_30 : decode b_R_addCorner 30 = .ok (.iload_n 2, 1) := by decide +kernel
theorem d_R_addCorner_31 : decode b_R_addCorner 31 = .ok (.invokevirtual 50, 3) := by decide +kernel
theorem d_R_addCorner_34 : decode b_R_addCorner 34 = .ok (.ifCond .gt (16), 3) := by decide +kernel
theorem d_R_addCorner_37 : decode b_R_addCorner 37 = .ok (.aload_n 0, 1) := by decide +kernel
theorem d_R_addCorner_38 : decode b_R_addCorner 38 = .ok (.dup, 1) := by decide +kernel
theorem d_R_addCorner_39 : decode b_R_addCorner 39 = .ok (.getfield 18, 3) := by decide +kernel
theorem d_R_addCorner_42 : decode b_R_addCorner 42 = .ok (.iconst 1, 1) := by decide +kernel
theorem d_R_addCorner_43 : decode b_R_addCorner 43 = .ok (.isub, 1) := by decide +kernel
theorem d_R_addCorner_44 : decode b_R_addCorner 44 = .ok (.putfield 18, 3) := by decide +kernel
theorem d_R_addCorner_47 : decode b_R_addCorner 47 = .ok (.goto (-47), 3) := by decide +kernel
theorem d_R_addCorner_50 : decode b_R_addCorner 50 = .ok (.aload_n 0, 1) := by decide +kernel
theorem d_R_addCorner_51 : decode b_R_addCorner 51 = .ok (.iload_n 1, 1) := by decide +kernel
theorem d_R_addCorner_52 : decode b_R_addCorner 52 = .ok (.iload_n 2, 1) := by decide +kernel
theorem d_R_addCorner_53 : decode b_R_addCorner 53 = .ok (.invokevirtual 54, 3) := by decide +kernel
theorem d_R_addCorner_56 : decode b_R_addCorner 56 = .ok (.return_, 1) := by decide +kernel
theorem d_R_turn_0 : decode b_R_turn 0 = .ok (.aload_n 0, 1) := by decide +kernel
theorem d_R_turn_1 : decode b_R_turn 1 = .ok (.iload_n 2, 1) := by decide +kernel
theorem d_R_turn_2 : decode b_R_turn 2 = .ok (.invokevirtual 22, 3) := by decide +kernel
theorem d_R_turn_5 : decode b_R_turn 5 = .ok (.aload_n 0, 1) := by decide +kernel
theorem d_R_turn_6 : decode b_R_turn 6 = .ok (.iload_n 1, 1) := by decide +kernel
theorem d_R_turn_7 : decode b_R_turn 7 = .ok (.invokevirtual 22, 3) := by decide +kernel
theorem d_R_turn_10 : decode b_R_turn 10 = .ok (.isub, 1) := by decide +kernel
theorem d_R_turn_11 : decode b_R_turn 11 = .ok (.iload 4, 2) := by decide +kernel
theorem d_R_turn_13 : decode b_R_turn 13 = .ok (.aload_n 0, 1) := by decide +kernel
theorem d_R_turn_14 : decode b_R_turn 14 = .ok (.iload_n 1, 1) := by decide +kernel
theorem d_R_turn_15 : decode b_R_turn 15 = .ok (.invokevirtual 26, 3) := by decide +kernel
theorem d_R_turn_18 : decode b_R_turn 18 = .ok (.isub, 1) := by decide +kernel
theorem d_R_turn_19 : decode b_R_turn 19 = .ok (.imul, 1) := by decide +kernel
theorem d_R_turn_20 : decode b_R_turn 20 = .ok (.aload_n 0, 1) := by decide +kernel
theorem d_R_turn_21 : decode b_R_turn 21 = .ok (.iload_n 2, 1) := by decide +kernel
theorem d_R_turn_22 : decode b_R_turn 22 = .ok (.invokevirtual 26, 3) := by decide +kernel
theorem d_R_turn_25 : decode b_R_turn 25 = .ok (.aload_n 0, 1) := by decide +kernel
theorem d_R_turn_26 : decode b_R_turn 26 = .ok (.iload_n 1, 1) := by decide +kernel
theorem d_R_turn_27 : decode b_R_turn 27 = .ok (.invokevirtual 26, 3) := by decide +kernel
theorem d_R_turn_30 : decode b_R_turn 30 = .ok (.isub, 1) := by decide +kernel
theorem d_R_turn_31 : decode b_R_turn 31 = .ok (.iload_n 3, 1) := by decide +kernel
theorem d_R_turn_32 : decode b_R_turn 32 = .ok (.aload_n 0, 1) := by decide +kernel
theorem d_R_turn_33 : decode b_R_turn 33 = .ok (.iload_n 1, 1) := by decide +kernel
theorem d_R_turn_34 : decode b_R_turn 34 = .ok (.invokevirtual 22, 3) := by decide +kernel
theorem d_R_turn_37 : decode b_R_turn 37 = .ok (.isub, 1) := by decide +kernel
theorem d_R_turn_38 : decode b_R_turn 38 = .ok (.imul, 1) := by decide +kernel
theorem d_R_turn_39 : decode b_R_turn 39 = .ok (.isub, 1) := by decide +kernel
theorem d_R_turn_40 : decode b_R_turn 40 = .ok (.ireturn, 1) := by decide +kernel
theorem d_R_sides_0 : decode b_R_sides 0 = .ok (.aload_n 0, 1) := by decide +kernel
theorem d_R_sides_1 : decode b_R_sides 1 = .ok (.getfield 18, 3) := by decide +kernel
theorem d_R_sides_4 : decode b_R_sides 4 = .ok (.iconst 2, 1) := by decide +kernel
theorem d_R_sides_5 : decode b_R_sides 5 = .ok (.if_icmp .ge (7), 3) := by decide +kernel
theorem d_R_sides_8 : decode b_R_sides 8 = .ok (.iconst 0, 1) := by decide +kernel
theorem d_R_sides_9 : decode b_R_sides 9 = .ok (.goto (7), 3) := by decide +kernel
theorem d_R_sides_12 : decode b_R_sides 12 = .ok (.aload_n 0, 1) := by decide +kernel
theorem d_R_sides_13 : decode b_R_sides 13 = .ok (.getfield 18, 3) := by decide +kernel
theorem d_R_sides_16 : decode b_R_sides 16 = .ok (.ireturn, 1) := by decide +kernel
theorem d_R_next_0 : decode b_R_next 0 = .ok (.iload_n 1, 1) := by decide +kernel
theorem d_R_next_1 : decode b_R_next 1 = .ok (.iconst 1, 1) := by decide +kernel
theorem d_R_next_2 : decode b_R_next 2 = .ok (.iadd, 1) := by decide +kernel
theorem d_R_next_3 : decode b_R_next 3 = .ok (.aload_n 0, 1) := by decide +kernel
theorem d_R_next_4 : decode b_R_next 4 = .ok (.getfield 18, 3) := by decide +kernel
theorem d_R_next_7 : decode b_R_next 7 = .ok (.if_icmp .ge (9), 3) := by decide +kernel
theorem d_R_next_10 : decode b_R_next 10 = .ok (.iload_n 1, 1) := by decide +kernel
theorem d_R_next_11 : decode b_R_next 11 = .ok (.iconst 1, 1) := by decide +kernel
theorem d_R_next_12 : decode b_R_next 12 = .ok (.iadd, 1) := by decide +kernel
theorem d_R_next_13 : decode b_R_next 13 = .ok (.goto (4), 3) := by decide +kernel
theorem d_R_next_16 : decode b_R_next 16 = .ok (.iconst 0, 1) := by decide +kernel
theorem d_R_next_17 : decode b_R_next 17 = .ok (.ireturn, 1) := by decide +kernel
theorem d_R_sideX_0 : decode b_R_sideX 0 = .ok (.aload_n 0, 1) := by decide +kernel
theorem d_R_sideX_1 : decode b_R_sideX 1 = .ok (.aload_n 0, 1) := by decide +kernel
theorem d_R_sideX_2 : decode b_R_sideX 2 = .ok (.iload_n 1, 1) := by decide +kernel
theorem d_R_sideX_3 : decode b_R_sideX 3 = .ok (.invokevirtual 57, 3) := by decide +kernel
theorem d_R_sideX_6 : decode b_R_sideX 6 = .ok (.invokevirtual 22, 3) := by decide +kernel
theorem d_R_sideX_9 : decode b_R_sideX 9 = .ok (.aload_n 0, 1) := by decide +kernel
theorem d_R_sideX_10 : decode b_R_sideX 10 = .ok (.iload_n 1, 1) := by decide +kernel
theorem d_R_sideX_11 : decode b_R_sideX 11 = .ok (.invokevirtual 22, 3) := by decide +kernel
theorem d_R_sideX_14 : decode b_R_sideX 14 = .ok (.isub, 1) := by decide +kernel
theorem d_R_sideX_15 : decode b_R_sideX 15 = .ok (.ireturn, 1) := by decide +kernel
theorem d_R_sideY_0 : decode b_R_sideY 0 = .ok (.aload_n 0, 1) := by decide +kernel
theorem d_R_sideY_1 : decode b_R_sideY 1 = .ok (.aload_n 0, 1) := by decide +kernel
theorem d_R_sideY_2 : decode b_R_sideY 2 = .ok (.iload_n 1, 1) := by decide +kernel
theorem d_R_sideY_3 : decode b_R_sideY 3 = .ok (.invokevirtual 57, 3) := by decide +kernel
theorem d_R_sideY_6 : decode b_R_sideY 6 = .ok (.invokevirtual 26, 3) := by decide +kernel
theorem d_R_sideY_9 : decode b_R_sideY 9 = .ok (.aload_n 0, 1) := by decide +kernel
theorem d_R_sideY_10 : decode b_R_sideY 10 = .ok (.iload_n 1, 1) := by decide +kernel
theorem d_R_sideY_11 : decode b_R_sideY 11 = .ok (.invokevirtual 26, 3) := by decide +kernel
theorem d_R_sideY_14 : decode b_R_sideY 14 = .ok (.isub, 1) := by decide +kernel
theorem d_R_sideY_15 : decode b_R_sideY 15 = .ok (.ireturn, 1) := by decide +kernel
theorem d_R_squareOfSide_0 : decode b_R_squareOfSide 0 = .ok (.aload_n 0, 1) := by decide +kernel
theorem d_R_squareOfSide_1 : decode b_R_squareOfSide 1 = .ok (.iload_n 1, 1) := by decide +kernel
theorem d_R_squareOfSide_2 : decode b_R_squareOfSide 2 = .ok (.aload_n 0, 1) := by decide +kernel
theorem d_R_squareOfSide_3 : decode b_R_squareOfSide 3 = .ok (.iload_n 1, 1) := by decide +kernel
theorem d_R_squareOfSide_4 : decode b_R_squareOfSide 4 = .ok (.invokevirtual 57, 3) := by decide +kernel
theorem d_R_squareOfSide_7 : decode b_R_squareOfSide 7 = .ok (.invokevirtual 60, 3) := by decide +kernel
theorem d_R_squareOfSide_10 : decode b_R_squareOfSide 10 = .ok (.ireturn, 1) := by decide +kernel
theorem d_R_offSide_0 : decode b_R_offSide 0 = .ok (.aload_n 0, 1) := by decide +kernel
theorem d_R_offSide_1 : decode b_R_offSide 1 = .ok (.iload_n 1, 1) := by decide +kernel
theorem d_R_offSide_2 : decode b_R_offSide 2 = .ok (.aload_n 0, 1) := by decide +kernel
theorem d_R_offSide_3 : decode b_R_offSide 3 = .ok (.iload_n 1, 1) := by decide +kernel
theorem d_R_offSide_4 : decode b_R_offSide 4 = .ok (.invokevirtual 57, 3) := by decide +kernel
theorem d_R_offSide_7 : decode b_R_offSide 7 = .ok (.iload_n 2, 1) := by decide +kernel
theorem d_R_offSide_8 : decode b_R_offSide 8 = .ok (.iload_n 3, 1) := by decide +kernel
theorem d_R_offSide_9 : decode b_R_offSide 9 = .ok (.invokevirtual 50, 3) := by decide +kernel
theorem d_R_offSide_12 : decode b_R_offSide 12 = .ok (.ireturn, 1) := by decide +kernel
theorem d_R_reachFromSide_0 : decode b_R_reachFromSide 0 = .ok (.iconst 0, 1) := by decide +kernel
theorem d_R_reachFromSide_1 : decode b_R_reachFromSide 1 = .ok (.istore_n 2, 1) := by decide +kernel
theorem d_R_reachFromSide_2 : decode b_R_reachFromSide 2 = .ok (.iconst 0, 1) := by decide +kernel
theorem d_R_reachFromSide_3 : decode b_R_reachFromSide 3 = .ok (.istore_n 3, 1) := by decide +kernel
theorem d_R_reachFromSide_4 : decode b_R_reachFromSide 4 = .ok (.iload_n 3, 1) := by decide +kernel
theorem d_R_reachFromSide_5 : decode b_R_reachFromSide 5 = .ok (.aload_n 0, 1) := by decide +kernel
theorem d_R_reachFromSide_6 : decode b_R_reachFromSide 6 = .ok (.getfield 18, 3) := by decide +kernel
theorem d_R_reachFromSide_9 : decode b_R_reachFromSide 9 = .ok (.if_icmp .ge (29), 3) := by decide +kernel
theorem d_R_reachFromSide_12 : decode b_R_reachFromSide 12 = .ok (.iload_n 2, 1) := by decide +kernel
theorem d_R_reachFromSide_13 : decode b_R_reachFromSide 13 = .ok (.aload_n 0, 1) := by decide +kernel
theorem d_R_reachFromSide_14 : decode b_R_reachFromSide 14 = .ok (.iload_n 1, 1) := by decide +kernel
theorem d_R_reachFromSide_15 : decode b_R_reachFromSide 15 = .ok (.aload_n 0, 1) := by decide +kernel
theorem d_R_reachFromSide_16 : decode b_R_reachFromSide 16 = .ok (.iload_n 3, 1) := by decide +kernel
theorem d_R_reachFromSide_17 : decode b_R_reachFromSide 17 = .ok (.invokevirtual 22, 3) := by decide +kernel
theorem d_R_reachFromSide_20 : decode b_R_reachFromSide 20 = .ok (.aload_n 0, 1) := by decide +kernel
theorem d_R_reachFromSide_21 : decode b_R_reachFromSide 21 = .ok (.iload_n 3, 1) := by decide +kernel
theorem d_R_reachFromSide_22 : decode b_R_reachFromSide 22 = .ok (.invokevirtual 26, 3) := by decide +kernel
theorem d_R_reachFromSide_25 : decode b_R_reachFromSide 25 = .ok (.invokevirtual 64, 3) := by decide +kernel
theorem d_R_reachFromSide_28 : decode b_R_reachFromSide 28 = .ok (.invokestatic 68, 3) := by decide +kernel
theorem d_R_reachFromSide_31 : decode b_R_reachFromSide 31 = .ok (.istore_n 2, 1) := by decide +kernel
theorem d_R_reachFromSide_32 : decode b_R_reachFromSide 32 = .ok (.iinc 3 (1), 3) := by decide +kernel
theorem d_R_reachFromSide_35 : decode b_R_reachFromSide 35 = .ok (.goto (-31), 3) := by decide +kernel
theorem d_R_reachFromSide_38 : decode b_R_reachFromSide 38 = .ok (.iload_n 2, 1) := by decide +kernel
theorem d_R_reachFromSide_39 : decode b_R_reachFromSide 39 = .ok (.ireturn, 1) := by decide +kernel
theorem d_R_sideFacesZero_0 : decode b_R_sideFacesZero 0 = .ok (.aload_n 0, 1) := by decide +kernel
theorem d_R_sideFacesZero_1 : decode b_R_sideFacesZero 1 = .ok (.iload_n 1, 1) := by decide +kernel
theorem d_R_sideFacesZero_2 : decode b_R_sideFacesZero 2 = .ok (.invokevirtual 22, 3) := by decide +kernel
theorem d_R_sideFacesZero_5 : decode b_R_sideFacesZero 5 = .ok (.ineg, 1) := by decide +kernel
theorem d_R_sideFacesZero_6 : decode b_R_sideFacesZero 6 = .ok (.aload_n 0, 1) := by decide +kernel
theorem d_R_sideFacesZero_7 : decode b_R_sideFacesZero 7 = .ok (.iload_n 1, 1) := by decide +kernel
theorem d_R_sideFacesZero_8 : decode b_R_sideFacesZero 8 = .ok (.invokevirtual 73, 3) := by decide +kernel
theorem d_R_sideFacesZero_11 : decode b_R_sideFacesZero 11 = .ok (.imul, 1) := by decide +kernel
theorem d_R_sideFacesZero_12 : decode b_R_sideFacesZero 12 = .ok (.aload_n 0, 1) := by decide +kernel
theorem d_R_sideFacesZero_13 : decode b_R_sideFacesZero 13 = .ok (.iload_n 1, 1) := by decide +kernel
theorem d_R_sideFacesZero_14 : decode b_R_sideFacesZero 14 = .ok (.invokevirtual 26, 3) := by decide +kernel
theorem d_R_sideFacesZero_17 : decode b_R_sideFacesZero 17 = .ok (.aload_n 0, 1) := by decide +kernel
theorem d_R_sideFacesZero_18 : decode b_R_sideFacesZero 18 = .ok (.iload_n 1, 1) := by decide +kernel
theorem d_R_sideFacesZero_19 : decode b_R_sideFacesZero 19 = .ok (.invokevirtual 76, 3) := by decide +kernel
theorem d_R_sideFacesZero_22 : decode b_R_sideFacesZero 22 = .ok (.imul, 1) := by decide +kernel
theorem d_R_sideFacesZero_23 : decode b_R_sideFacesZero 23 = .ok (.isub, 1) := by decide +kernel
theorem d_R_sideFacesZero_24 : decode b_R_sideFacesZero 24 = .ok (.istore_n 2, 1) := by decide +kernel
theorem d_R_sideFacesZero_25 : decode b_R_sideFacesZero 25 = .ok (.iload_n 2, 1) := by decide +kernel
theorem d_R_sideFacesZero_26 : decode b_R_sideFacesZero 26 = .ok (.ifCond .lt (16), 3) := by decide +kernel
theorem d_R_sideFacesZero_29 : decode b_R_sideFacesZero 29 = .ok (.iload_n 2, 1) := by decide +kernel
theorem d_R_sideFacesZero_30 : decode b_R_sideFacesZero 30 = .ok (.aload_n 0, 1) := by decide +kernel
theorem d_R_sideFacesZero_31 : decode b_R_sideFacesZero 31 = .ok (.iload_n 1, 1) := by decide +kernel
theorem d_R_sideFacesZero_32 : decode b_R_sideFacesZero 32 = .ok (.invokevirtual 79, 3) := by decide +kernel
theorem d_R_sideFacesZero_35 : decode b_R_sideFacesZero 35 = .ok (.if_icmp .gt (7), 3) := by decide +kernel
theorem d_R_sideFacesZero_38 : decode b_R_sideFacesZero 38 = .ok (.iconst 1, 1) := by decide +kernel
theorem d_R_sideFacesZero_39 : decode b_R_sideFacesZero 39 = .ok (.goto (4), 3) := by decide +kernel
theorem d_R_sideFacesZero_42 : decode b_R_sideFacesZero 42 = .ok (.iconst 0, 1) := by decide +kernel
theorem d_R_sideFacesZero_43 : decode b_R_sideFacesZero 43 = .ok (.ireturn, 1) := by decide +kernel
theorem d_R_place_0 : decode b_R_place 0 = .ok (.aload_n 0, 1) := by decide +kernel
theorem d_R_place_1 : decode b_R_place 1 = .ok (.getfield 18, 3) := by decide +kernel
theorem d_R_place_4 : decode b_R_place 4 = .ok (.iconst 3, 1) := by decide +kernel
theorem d_R_place_5 : decode b_R_place 5 = .ok (.if_icmp .ge (18), 3) := by decide +kernel
theorem d_R_place_8 : decode b_R_place 8 = .ok (.aload_n 0, 1) := by decide +kernel
theorem d_R_place_9 : decode b_R_place 9 = .ok (.iload_n 1, 1) := by decide +kernel
theorem d_R_place_10 : decode b_R_place 10 = .ok (.iload_n 2, 1) := by decide +kernel
theorem d_R_place_11 : decode b_R_place 11 = .ok (.invokevirtual 82, 3) := by decide +kernel
theorem d_R_place_14 : decode b_R_place 14 = .ok (.ifCond .eq (7), 3) := by decide +kernel
theorem d_R_place_17 : decode b_R_place 17 = .ok (.iconst 1, 1) := by decide +kernel
theorem d_R_place_18 : decode b_R_place 18 = .ok (.goto (4), 3) := by decide +kernel
theorem d_R_place_21 : decode b_R_place 21 = .ok (.iconst 0, 1) := by decide +kernel
theorem d_R_place_22 : decode b_R_place 22 = .ok (.ireturn, 1) := by decide +kernel
theorem d_R_place_23 : decode b_R_place 23 = .ok (.iconst 2, 1) := by decide +kernel
theorem d_R_place_24 : decode b_R_place 24 = .ok (.istore_n 3, 1) := by decide +kernel
theorem d_R_place_25 : decode b_R_place 25 = .ok (.iconst 0, 1) := by decide +kernel
theorem d_R_place_26 : decode b_R_place 26 = .ok (.istore 4, 2) := by decide +kernel
theorem d_R_place_28 : decode b_R_place 28 = .ok (.iload 4, 2) := by decide +kernel
theorem d_R_place_30 : decode b_R_place 30 = .ok (.aload_n 0, 1) := by decide +kernel
theorem d_R_place_31 : decode b_R_place 31 = .ok (.getfield 18, 3) := by decide +kernel
theorem d_R_place_34 : decode b_R_place 34 = .ok (.if_icmp .ge (33), 3) := by decide +kernel
theorem d_R_place_37 : decode b_R_place 37 = .ok (.aload_n 0, 1) := by decide +kernel
theorem d_R_place_38 : decode b_R_place 38 = .ok (.iload 4, 2) := by decide +kernel
theorem d_R_place_40 : decode b_R_place 40 = .ok (.iload_n 1, 1) := by decide +kernel
theorem d_R_place_41 : decode b_R_place 41 = .ok (.iload_n 2, 1) := by decide +kernel
theorem d_R_place_42 : decode b_R_place 42 = .ok (.invokevirtual 64, 3) := by decide +kernel
theorem d_R_place_45 : decode b_R_place 45 = .ok (.istore 5, 2) := by decide +kernel
theorem d_R_place_47 : decode b_R_place 47 = .ok (.iload 5, 2) := by decide +kernel
theorem d_R_place_49 : decode b_R_place 49 = .ok (.ifCond .ge (5), 3) := by decide +kernel
theorem d_R_place_52 : decode b_R_place 52 = .ok (.iconst 0, 1) := by decide +kernel
theorem d_R_place_53 : decode b_R_place 53 = .ok (.ireturn, 1) := by decide +kernel
theorem d_R_place_54 : decode b_R_place 54 = .ok (.iload 5, 2) := by decide +kernel
theorem d_R_place_56 : decode b_R_place 56 = .ok (.ifCond .ne (5), 3) := by decide +kernel
theorem d_R_place_59 : decode b_R_place 59 = .ok (.iconst 1, 1) := by decide +kernel
theorem d_R_place_60 : decode b_R_place 60 = .ok (.istore_n 3, 1) := by decide +kernel
theorem d_R_place_61 : decode b_R_place 61 = .ok (.iinc 4 (1), 3) := by decide +kernel
theorem d_R_place_64 : decode b_R_place 64 = .ok (.goto (-36), 3) := by decide +kernel
theorem d_R_place_67 : decode b_R_place 67 = .ok (.iload_n 3, 1) := by decide +kernel
theorem d_R_place_68 : decode b_R_place 68 = .ok (.ireturn, 1) := by decide +kernel
theorem d_R_isOnThin_0 : decode b_R_isOnThin 0 = .ok (.aload_n 0, 1) := by decide +kernel
theorem d_R_isOnThin_1 : decode b_R_isOnThin 1 = .ok (.getfield 18, 3) := by decide +kernel
theorem d_R_isOnThin_4 : decode b_R_isOnThin 4 = .ok (.ifCond .ne (5), 3) := by decide +kernel
theorem d_R_isOnThin_7 : decode b_R_isOnThin 7 = .ok (.iconst 0, 1) := by decide +kernel
theorem d_R_isOnThin_8 : decode b_R_isOnThin 8 = .ok (.ireturn, 1) := by decide +kernel
theorem d_R_isOnThin_9 : decode b_R_isOnThin 9 = .ok (.aload_n 0, 1) := by decide +kernel
theorem d_R_isOnThin_10 : decode b_R_isOnThin 10 = .ok (.getfield 18, 3) := by decide +kernel
theorem d_R_isOnThin_13 : decode b_R_isOnThin 13 = .ok (.iconst 1, 1) := by decide +kernel
theorem d_R_isOnThin_14 : decode b_R_isOnThin 14 = .ok (.isub, 1) := by decide +kernel
theorem d_R_isOnThin_15 : decode b_R_isOnThin 15 = .ok (.istore_n 3, 1) := by decide +kernel
theorem d_R_isOnThin_16 : decode b_R_isOnThin 16 = .ok (.aload_n 0, 1) := by decide +kernel
theorem d_R_isOnThin_17 : decode b_R_isOnThin 17 = .ok (.iconst 0, 1) := by decide +kernel
theorem d_R_isOnThin_18 : decode b_R_isOnThin 18 = .ok (.iload_n 3, 1) := by decide +kernel
theorem d_R_isOnThin_19 : decode b_R_isOnThin 19 = .ok (.iload_n 1, 1) := by decide +kernel
theorem d_R_isOnThin_20 : decode b_R_isOnThin 20 = .ok (.iload_n 2, 1) := by decide +kernel
theorem d_R_isOnThin_21 : decode b_R_isOnThin 21 = .ok (.invokevirtual 50, 3) := by decide +kernel
theorem d_R_isOnThin_24 : decode b_R_isOnThin 24 = .ok (.ifCond .ne (75), 3) := by decide +kernel
theorem d_R_isOnThin_27 : decode b_R_isOnThin 27 = .ok (.iload_n 1, 1) := by decide +kernel
theorem d_R_isOnThin_28 : decode b_R_isOnThin 28 = .ok (.aload_n 0, 1) := by decide +kernel
theorem d_R_isOnThin_29 : decode b_R_isOnThin 29 = .ok (.iconst 0, 1) := by decide +kernel
theorem d_R_isOnThin_30 : decode b_R_isOnThin 30 = .ok (.invokevirtual 22, 3) := by decide +kernel
theorem d_R_isOnThin_33 : decode b_R_isOnThin 33 = .ok (.aload_n 0, 1) := by decide +kernel
theorem d_R_isOnThin_34 : decode b_R_isOnThin 34 = .ok (.iload_n 3, 1) := by decide +kernel
theorem d_R_isOnThin_35 : decode b_R_isOnThin 35 = .ok (.invokevirtual 22, 3) := by decide +kernel
theorem d_R_isOnThin_38 : decode b_R_isOnThin 38 = .ok (.invokestatic 85, 3) := by decide +kernel
theorem d_R_isOnThin_41 : decode b_R_isOnThin 41 = .ok (.if_icmp .lt (58), 3) := by decide +kernel
theorem d_R_isOnThin_44 : decode b_R_isOnThin 44 = .ok (.iload_n 1, 1) := by decide +kernel
theorem d_R_isOnThin_45 : decode b_R_isOnThin 45 = .ok (.aload_n 0, 1) := by decide +kernel
theorem d_R_isOnThin_46 : decode b_R_isOnThin 46 = .ok (.iconst 0, 1) := by decide +kernel
theorem d_R_isOnThin_47 : decode b_R_isOnThin 47 = .ok (.invokevirtual 22, 3) := by decide +kernel
theorem d_R_isOnThin_50 : decode b_R_isOnThin 50 = .ok (.aload_n 0, 1) := by decide +kernel
theorem d_R_isOnThin_51 : decode b_R_isOnThin 51 = .ok (.iload_n 3, 1) := by decide +kernel
theorem d_R_isOnThin_52 : decode b_R_isOnThin 52 = .ok (.invokevirtual 22, 3) := by decide +kernel
theorem d_R_isOnThin_55 : decode b_R_isOnThin 55 = .ok (.invokestatic 68, 3) := by decide +kernel
theorem d_R_isOnThin_58 : decode b_R_isOnThin 58 = .ok (.if_icmp .gt (41), 3) := by decide +kernel
theorem d_R_isOnThin_61 : decode b_R_isOnThin 61 = .ok (.iload_n 2, 1) := by decide +kernel
theorem d_R_isOnThin_62 : decode b_R_isOnThin 62 = .ok (.aload_n 0, 1) := by decide +kernel
theorem d_R_isOnThin_63 : decode b_R_isOnThin 63 = .ok (.iconst 0, 1) := by decide +kernel
theorem d_R_isOnThin_64 : decode b_R_isOnThin 64 = .ok (.invokevirtual 26, 3) := by decide +kernel
theorem d_R_isOnThin_67 : decode b_R_isOnThin 67 = .ok (.aload_n 0, 1) := by decide +kernel
theorem d_R_isOnThin_68 : decode b_R_isOnThin 68 = .ok (.iload_n 3, 1) := by decide +kernel
theorem d_R_isOnThin_69 : decode b_R_isOnThin 69 = .ok (.invokevirtual 26, 3) := by decide +kernel
theorem d_R_isOnThin_72 : decode b_R_isOnThin 72 = .ok (.invokestatic 85, 3) := by decide +kernel
theorem d_R_isOnThin_75 : decode b_R_isOnThin 75 = .ok (.if_icmp .lt (24), 3) := by decide +kernel
theorem d_R_isOnThin_78 : decode b_R_isOnThin 78 = .ok (.iload_n 2, 1) := by decide +kernel
theorem d_R_isOnThin_79 : decode b_R_isOnThin 79 = .ok (.aload_n 0, 1) := by decide +kernel
theorem d_R_isOnThin_80 : decode b_R_isOnThin 80 = .ok (.iconst 0, 1) := by decide +kernel
theorem d_R_isOnThin_81 : decode b_R_isOnThin 81 = .ok (.invokevirtual 26, 3) := by decide +kernel
theorem d_R_isOnThin_84 : decode b_R_isOnThin 84 = .ok (.aload_n 0, 1) := by decide +kernel
theorem d_R_isOnThin_85 : decode b_R_isOnThin 85 = .ok (.iload_n 3, 1) := by decide +kernel
theorem d_R_isOnThin_86 : decode b_R_isOnThin 86 = .ok (.invokevirtual 26, 3) := by decide +kernel
theorem d_R_isOnThin_89 : decode b_R_isOnThin 89 = .ok (.invokestatic 68, 3) := by decide +kernel
theorem d_R_isOnThin_92 : decode b_R_isOnThin 92 = .ok (.if_icmp .gt (7), 3) := by decide +kernel
theorem d_R_isOnThin_95 : decode b_R_isOnThin 95 = .ok (.iconst 1, 1) := by decide +kernel
theorem d_R_isOnThin_96 : decode b_R_isOnThin 96 = .ok (.goto (4), 3) := by decide +kernel
theorem d_R_isOnThin_99 : decode b_R_isOnThin 99 = .ok (.iconst 0, 1) := by decide +kernel
theorem d_R_isOnThin_100 : decode b_R_isOnThin 100 = .ok (.ireturn, 1) := by decide +kernel
theorem d_R_doubleArea_0 : decode b_R_doubleArea 0 = .ok (.iconst 0, 1) := by decide +kernel
theorem d_R_doubleArea_1 : decode b_R_doubleArea 1 = .ok (.istore_n 1, 1) := by decide +kernel
theorem d_R_doubleArea_2 : decode b_R_doubleArea 2 = .ok (.iconst 0, 1) := by decide +kernel
theorem d_R_doubleArea_3 : decode b_R_doubleArea 3 = .ok (.istore_n 2, 1) := by decide +kernel
theorem d_R_doubleArea_4 : decode b_R_doubleArea 4 = .ok (.iload_n 2, 1) := by decide +kernel
theorem d_R_doubleArea_5 : decode b_R_doubleArea 5 = .ok (.aload_n 0, 1) := by decide +kernel
theorem d_R_doubleArea_6 : decode b_R_doubleArea 6 = .ok (.getfield 18, 3) := by decide +kernel
theorem d_R_doubleArea_9 : decode b_R_doubleArea 9 = .ok (.if_icmp .ge (43), 3) := by decide +kernel
theorem d_R_doubleArea_12 : decode b_R_doubleArea 12 = .ok (.iload_n 1, 1) := by decide +kernel
theorem d_R_doubleArea_13 : decode b_R_doubleArea 13 = .ok (.aload_n 0, 1) := by decide +kernel
theorem d_R_doubleArea_14 : decode b_R_doubleArea 14 = .ok (.iload_n 2, 1) := by decide +kernel
theorem d_R_doubleArea_15 : decode b_R_doubleArea 15 = .ok (.invokevirtual 22, 3) := by decide +kernel
theorem d_R_doubleArea_18 : decode b_R_doubleArea 18 = .ok (.aload_n 0, 1) := by decide +kernel
theorem d_R_doubleArea_19 : decode b_R_doubleArea 19 = .ok (.aload_n 0, 1) := by decide +kernel
theorem d_R_doubleArea_20 : decode b_R_doubleArea 20 = .ok (.iload_n 2, 1) := by decide +kernel
theorem d_R_doubleArea_21 : decode b_R_doubleArea 21 = .ok (.invokevirtual 57, 3) := by decide +kernel
theorem d_R_doubleArea_24 : decode b_R_doubleArea 24 = .ok (.invokevirtual 26, 3) := by decide +kernel
theorem d_R_doubleArea_27 : decode b_R_doubleArea 27 = .ok (.imul, 1) := by decide +kernel
theorem d_R_doubleArea_28 : decode b_R_doubleArea 28 = .ok (.aload_n 0, 1) := by decide +kernel
theorem d_R_doubleArea_29 : decode b_R_doubleArea 29 = .ok (.iload_n 2, 1) := by decide +kernel
theorem d_R_doubleArea_30 : decode b_R_doubleArea 30 = .ok (.invokevirtual 26, 3) := by decide +kernel
theorem d_R_doubleArea_33 : decode b_R_doubleArea 33 = .ok (.aload_n 0, 1) := by decide +kernel
theorem d_R_doubleArea_34 : decode b_R_doubleArea 34 = .ok (.aload_n 0, 1) := by decide +kernel
theorem d_R_doubleArea_35 : decode b_R_doubleArea 35 = .ok (.iload_n 2, 1) := by decide +kernel
theorem d_R_doubleArea_36 : decode b_R_doubleArea 36 = .ok (.invokevirtual 57, 3) := by decide +kernel
theorem d_R_doubleArea_39 : decode b_R_doubleArea 39 = .ok (.invokevirtual 22, 3) := by decide +kernel
theorem d_R_doubleArea_42 : decode b_R_doubleArea 42 = .ok (.imul, 1) := by decide +kernel
theorem d_R_doubleArea_43 : decode b_R_doubleArea 43 = .ok (.isub, 1) := by decide +kernel
theorem d_R_doubleArea_44 : decode b_R_doubleArea 44 = .ok (.iadd, 1) := by decide +kernel
theorem d_R_doubleArea_45 : decode b_R_doubleArea 45 = .ok (.istore_n 1, 1) := by decide +kernel
theorem d_R_doubleArea_46 : decode b_R_doubleArea 46 = .ok (.iinc 2 (1), 3) := by decide +kernel
theorem d_R_doubleArea_49 : decode b_R_doubleArea 49 = .ok (.goto (-45), 3) := by decide +kernel
theorem d_R_doubleArea_52 : decode b_R_doubleArea 52 = .ok (.iload_n 1, 1) := by decide +kernel
theorem d_R_doubleArea_53 : decode b_R_doubleArea 53 = .ok (.ireturn, 1) := by decide +kernel
theorem d_R_gridSteps_0 : decode b_R_gridSteps 0 = .ok (.iconst 0, 1) := by decide +kernel
theorem d_R_gridSteps_1 : decode b_R_gridSteps 1 = .ok (.istore_n 1, 1) := by decide +kernel
theorem d_R_gridSteps_2 : decode b_R_gridSteps 2 = .ok (.iconst 0, 1) := by decide +kernel
theorem d_R_gridSteps_3 : decode b_R_gridSteps 3 = .ok (.istore_n 2, 1) := by decide +kernel
theorem d_R_gridSteps_4 : decode b_R_gridSteps 4 = .ok (.iload_n 2, 1) := by decide +kernel
theorem d_R_gridSteps_5 : decode b_R_gridSteps 5 = .ok (.aload_n 0, 1) := by decide +kernel
theorem d_R_gridSteps_6 : decode b_R_gridSteps 6 = .ok (.invokevirtual 88, 3) := by decide +kernel
theorem d_R_gridSteps_9 : decode b_R_gridSteps 9 = .ok (.if_icmp .ge (28), 3) := by decide +kernel
theorem d_R_gridSteps_12 : decode b_R_gridSteps 12 = .ok (.iload_n 1, 1) := by decide +kernel
theorem d_R_gridSteps_13 : decode b_R_gridSteps 13 = .ok (.aload_n 0, 1) := by decide +kernel
theorem d_R_gridSteps_14 : decode b_R_gridSteps 14 = .ok (.iload_n 2, 1) := by decide +kernel
theorem d_R_gridSteps_15 : decode b_R_gridSteps 15 = .ok (.invokevirtual 73, 3) := by decide +kernel
theorem d_R_gridSteps_18 : decode b_R_gridSteps 18 = .ok (.i2l, 1) := by decide +kernel
theorem d_R_gridSteps_19 : decode b_R_gridSteps 19 = .ok (.aload_n 0, 1) := by decide +kernel
theorem d_R_gridSteps_20 : decode b_R_gridSteps 20 = .ok (.iload_n 2, 1) := by decide +kernel
theorem d_R_gridSteps_21 : decode b_R_gridSteps 21 = .ok (.invokevirtual 76, 3) := by decide +kernel
theorem d_R_gridSteps_24 : decode b_R_gridSteps 24 = .ok (.i2l, 1) := by decide +kernel
theorem d_R_gridSteps_25 : decode b_R_gridSteps 25 = .ok (.invokestatic 91, 3) := by decide +kernel
theorem d_R_gridSteps_28 : decode b_R_gridSteps 28 = .ok (.l2i, 1) := by decide +kernel
theorem d_R_gridSteps_29 : decode b_R_gridSteps 29 = .ok (.iadd, 1) := by decide +kernel
theorem d_R_gridSteps_30 : decode b_R_gridSteps 30 = .ok (.istore_n 1, 1) := by decide +kernel
theorem d_R_gridSteps_31 : decode b_R_gridSteps 31 = .ok (.iinc 2 (1), 3) := by decide +kernel
theorem d_R_gridSteps_34 : decode b_R_gridSteps 34 = .ok (.goto (-30), 3) := by decide +kernel
theorem d_R_gridSteps_37 : decode b_R_gridSteps 37 = .ok (.iload_n 1, 1) := by decide +kernel
theorem d_R_gridSteps_38 : decode b_R_gridSteps 38 = .ok (.ireturn, 1) := by decide +kernel
theorem d_R_gridOnBorder_0 : decode b_R_gridOnBorder 0 = .ok (.aload_n 0, 1) := by decide +kernel
theorem d_R_gridOnBorder_1 : decode b_R_gridOnBorder 1 = .ok (.getfield 18, 3) := by decide +kernel
theorem d_R_gridOnBorder_4 : decode b_R_gridOnBorder 4 = .ok (.ifCond .ne (5), 3) := by decide +kernel
theorem d_R_gridOnBorder_7 : decode b_R_gridOnBorder 7 = .ok (.iconst 0, 1) := by decide +kernel
theorem d_R_gridOnBorder_8 : decode b_R_gridOnBorder 8 = .ok (.ireturn, 1) := by decide +kernel
theorem d_R_gridOnBorder_9 : decode b_R_gridOnBorder 9 = .ok (.aload_n 0, 1) := by decide +kernel
theorem d_R_gridOnBorder_10 : decode b_R_gridOnBorder 10 = .ok (.getfield 18, 3) := by decide +kernel
theorem d_R_gridOnBorder_13 : decode b_R_gridOnBorder 13 = .ok (.iconst 3, 1) := by decide +kernel
theorem d_R_gridOnBorder_14 : decode b_R_gridOnBorder 14 = .ok (.if_icmp .ge (14), 3) := by decide +kernel
theorem d_R_gridOnBorder_17 : decode b_R_gridOnBorder 17 = .ok (.aload_n 0, 1) := by decide +kernel
theorem d_R_gridOnBorder_18 : decode b_R_gridOnBorder 18 = .ok (.invokevirtual 95, 3) := by decide +kernel
theorem d_R_gridOnBorder_21 : decode b_R_gridOnBorder 21 = .ok (.iconst 2, 1) := by decide +kernel
theorem d_R_gridOnBorder_22 : decode b_R_gridOnBorder 22 = .ok (.idiv, 1) := by decide +kernel
theorem d_R_gridOnBorder_23 : decode b_R_gridOnBorder 23 = .ok (.iconst 1, 1) := by decide +kernel
theorem d_R_gridOnBorder_24 : decode b_R_gridOnBorder 24 = .ok (.iadd, 1) := by decide +kernel
theorem d_R_gridOnBorder_25 : decode b_R_gridOnBorder 25 = .ok (.goto (7), 3) := by decide +kernel
theorem d_R_gridOnBorder_28 : decode b_R_gridOnBorder 28 = .ok (.aload_n 0, 1) := by decide +kernel
theorem d_R_gridOnBorder_29 : decode b_R_gridOnBorder 29 = .ok (.invokevirtual 95, 3) := by decide +kernel
theorem d_R_gridOnBorder_32 : decode b_R_gridOnBorder 32 = .ok (.ireturn, 1) := by decide +kernel
theorem d_R_gridWhenGrown_0 : decode b_R_gridWhenGrown 0 = .ok (.aload_n 0, 1) := by decide +kernel
theorem d_R_gridWhenGrown_1 : decode b_R_gridWhenGrown 1 = .ok (.getfield 18, 3) := by decide +kernel
theorem d_R_gridWhenGrown_4 : decode b_R_gridWhenGrown 4 = .ok (.ifCond .ne (7), 3) := by decide +kernel
theorem d_R_gridWhenGrown_7 : decode b_R_gridWhenGrown 7 = .ok (.iconst 0, 1) := by decide +kernel
theorem d_R_gridWhenGrown_8 : decode b_R_gridWhenGrown 8 = .ok (.goto (22), 3) := by decide +kernel
theorem d_R_gridWhenGrown_11 : decode b_R_gridWhenGrown 11 = .ok (.aload_n 0, 1) := by decide +kernel
theorem d_R_gridWhenGrown_12 : decode b_R_gridWhenGrown 12 = .ok (.invokevirtual 98, 3) := by decide +kernel
theorem d_R_gridWhenGrown_15 : decode b_R_gridWhenGrown 15 = .ok (.iload_n 1, 1) := by decide +kernel
theorem d_R_gridWhenGrown_16 : decode b_R_gridWhenGrown 16 = .ok (.imul, 1) := by decide +kernel
theorem d_R_gridWhenGrown_17 : decode b_R_gridWhenGrown 17 = .ok (.iload_n 1, 1) := by decide +kernel
theorem d_R_gridWhenGrown_18 : decode b_R_gridWhenGrown 18 = .ok (.imul, 1) := by decide +kernel
theorem d_R_gridWhenGrown_19 : decode b_R_gridWhenGrown 19 = .ok (.aload_n 0, 1) := by decide +kernel
theorem d_R_gridWhenGrown_20 : decode b_R_gridWhenGrown 20 = .ok (.invokevirtual 95, 3) := by decide +kernel
theorem d_R_gridWhenGrown_23 : decode b_R_gridWhenGrown 23 = .ok (.iload_n 1, 1) := by decide +kernel
theorem d_R_gridWhenGrown_24 : decode b_R_gridWhenGrown 24 = .ok (.imul, 1) := by decide +kernel
theorem d_R_gridWhenGrown_25 : decode b_R_gridWhenGrown 25 = .ok (.iadd, 1) := by decide +kernel
theorem d_R_gridWhenGrown_26 : decode b_R_gridWhenGrown 26 = .ok (.iconst 2, 1) := by decide +kernel
theorem d_R_gridWhenGrown_27 : decode b_R_gridWhenGrown 27 = .ok (.iadd, 1) := by decide +kernel
theorem d_R_gridWhenGrown_28 : decode b_R_gridWhenGrown 28 = .ok (.iconst 2, 1) := by decide +kernel
theorem d_R_gridWhenGrown_29 : decode b_R_gridWhenGrown 29 = .ok (.idiv, 1) := by decide +kernel
theorem d_R_gridWhenGrown_30 : decode b_R_gridWhenGrown 30 = .ok (.ireturn, 1) := by decide +kernel
theorem d_R_becomeSums_0 : decode b_R_becomeSums 0 = .ok (.aload_n 0, 1) := by decide +kernel
theorem d_R_becomeSums_1 : decode b_R_becomeSums 1 = .ok (.invokevirtual 33, 3) := by decide +kernel
theorem d_R_becomeSums_4 : decode b_R_becomeSums 4 = .ok (.aload_n 1, 1) := by decide +kernel
theorem d_R_becomeSums_5 : decode b_R_becomeSums 5 = .ok (.iconst 0, 1) := by decide +kernel
theorem d_R_becomeSums_6 : decode b_R_becomeSums 6 = .ok (.invokevirtual 22, 3) := by decide +kernel
theorem d_R_becomeSums_9 : decode b_R_becomeSums 9 = .ok (.aload_n 2, 1) := by decide +kernel
theorem d_R_becomeSums_10 : decode b_R_becomeSums 10 = .ok (.iconst 0, 1) := by decide +kernel
theorem d_R_becomeSums_11 : decode b_R_becomeSums 11 = .ok (.invokevirtual 22, 3) := by decide +kernel
theorem d_R_becomeSums_14 : decode b_R_becomeSums 14 = .ok (.iadd, 1) := by decide +kernel
theorem d_R_becomeSums_15 : decode b_R_becomeSums 15 = .ok (.istore_n 3, 1) := by decide +kernel
theorem d_R_becomeSums_16 : decode b_R_becomeSums 16 = .ok (.aload_n 1, 1) := by decide +kernel
theorem d_R_becomeSums_17 : decode b_R_becomeSums 17 = .ok (.iconst 0, 1) := by decide +kernel
theorem d_R_becomeSums_18 : decode b_R_becomeSums 18 = .ok (.invokevirtual 26, 3) := by decide +kernel
theorem d_R_becomeSums_21 : decode b_R_becomeSums 21 = .ok (.aload_n 2, 1) := by decide +kernel
theorem d_R_becomeSums_22 : decode b_R_becomeSums 22 = .ok (.iconst 0, 1) := by decide +kernel
theorem d_R_becomeSums_23 : decode b_R_becomeSums 23 = .ok (.invokevirtual 26, 3) := by decide +kernel
theorem d_R_becomeSums_26 : decode b_R_becomeSums 26 = .ok (.iadd, 1) := by decide +kernel
theorem d_R_becomeSums_27 : decode b_R_becomeSums 27 = .ok (.istore 4, 2) := by decide +kernel
theorem d_R_becomeSums_29 : decode b_R_becomeSums 29 = .ok (.iconst 0, 1) := by decide +kernel
theorem d_R_becomeSums_30 : decode b_R_becomeSums 30 = .ok (.istore 5, 2) := by decide +kernel
theorem d_R_becomeSums_32 : decode b_R_becomeSums 32 = .ok (.iconst 0, 1) := by decide +kernel
theorem d_R_becomeSums_33 : decode b_R_becomeSums 33 = .ok (.istore 6, 2) := by decide +kernel
theorem d_R_becomeSums_35 : decode b_R_becomeSums 35 = .ok (.aload_n 1, 1) := by decide +kernel
theorem d_R_becomeSums_36 : decode b_R_becomeSums 36 = .ok (.invokevirtual 88, 3) := by decide +kernel
theorem d_R_becomeSums_39 : decode b_R_becomeSums 39 = .ok (.aload_n 2, 1) := by decide +kernel
theorem d_R_becomeSums_40 : decode b_R_becomeSums 40 = .ok (.invokevirtual 88, 3) := by decide +kernel
theorem d_R_becomeSums_43 : decode b_R_becomeSums 43 = .ok (.iadd, 1) := by decide +kernel
theorem d_R_becomeSums_44 : decode b_R_becomeSums 44 = .ok (.istore 7, 2) := by decide +kernel
theorem d_R_becomeSums_46 : decode b_R_becomeSums 46 = .ok (.aload_n 0, 1) := by decide +kernel
theorem d_R_becomeSums_47 : decode b_R_becomeSums 47 = .ok (.iload_n 3, 1) := by decide +kernel
theorem d_R_becomeSums_48 : decode b_R_becomeSums 48 = .ok (.iload 4, 2) := by decide +kernel
theorem d_R_becomeSums_50 : decode b_R_becomeSums 50 = .ok (.invokevirtual 54, 3) := by decide +kernel
theorem d_R_becomeSums_53 : decode b_R_becomeSums 53 = .ok (.iconst 0, 1) := by decide +kernel
theorem d_R_becomeSums_54 : decode b_R_becomeSums 54 = .ok (.istore 8, 2) := by decide +kernel
theorem d_R_becomeSums_56 : decode b_R_becomeSums 56 = .ok (.iload 8, 2) := by decide +kernel
theorem d_R_becomeSums_58 : decode b_R_becomeSums 58 = .ok (.iload 7, 2) := by decide +kernel
theorem d_R_becomeSums_60 : decode b_R_becomeSums 60 = .ok (.if_icmp .ge (103), 3) := by decide +kernel
theorem d_R_becomeSums_63 : decode b_R_becomeSums 63 = .ok (.iload 5, 2) := by decide +kernel
theorem d_R_becomeSums_65 : decode b_R_becomeSums 65 = .ok (.iload 6, 2) := by decide +kernel
theorem d_R_becomeSums_67 : decode b_R_becomeSums 67 = .ok (.iadd, 1) := by decide +kernel
theorem d_R_becomeSums_68 : decode b_R_becomeSums 68 = .ok (.iload 7, 2) := by decide +kernel
theorem d_R_becomeSums_70 : decode b_R_becomeSums 70 = .ok (.if_icmp .ge (93), 3) := by decide +kernel
theorem d_R_becomeSums_73 : decode b_R_becomeSums 73 = .ok (.aload_n 1, 1) := by decide +kernel
theorem d_R_becomeSums_74 : decode b_R_becomeSums 74 = .ok (.iload 5, 2) := by decide +kernel
theorem d_R_becomeSums_76 : decode b_R_becomeSums 76 = .ok (.aload_n 2, 1) := by decide +kernel
theorem d_R_becomeSums_77 : decode b_R_becomeSums 77 = .ok (.iload 6, 2) := by decide +kernel
theorem d_R_becomeSums_79 : decode b_R_becomeSums 79 = .ok (.invokestatic 101, 3) := by decide +kernel
theorem d_R_becomeSums_82 : decode b_R_becomeSums 82 = .ok (.istore 9, 2) := by decide +kernel
theorem d_R_becomeSums_84 : decode b_R_becomeSums 84 = .ok (.iload 9, 2) := by decide +kernel
theorem d_R_becomeSums_86 : decode b_R_becomeSums 86 = .ok (.ifCond .gt (26), 3) := by decide +kernel
theorem d_R_becomeSums_89 : decode b_R_becomeSums 89 = .ok (.iload_n 3, 1) := by decide +kernel
theorem d_R_becomeSums_90 : decode b_R_becomeSums 90 = .ok (.aload_n 1, 1) := by decide +kernel
theorem d_R_becomeSums_91 : decode b_R_becomeSums 91 = .ok (.iload 5, 2) := by decide +kernel
theorem d_R_becomeSums_93 : decode b_R_becomeSums 93 = .ok (.invokevirtual 73, 3) := by decide +kernel
theorem d_R_becomeSums_96 : decode b_R_becomeSums 96 = .ok (.iadd, 1) := by decide +kernel
theorem d_R_becomeSums_97 : decode b_R_becomeSums 97 = .ok (.istore_n 3, 1) := by decide +kernel
theorem d_R_becomeSums_98 : decode b_R_becomeSums 98 = .ok (.iload 4, 2) := by decide +kernel
theorem d_R_becomeSums_100 : decode b_R_becomeSums 100 = .ok (.aload_n 1, 1) := by decide +kernel
theorem d_R_becomeSums_101 : decode b_R_becomeSums 101 = .ok (.iload 5, 2) := by decide +kernel
theorem d_R_becomeSums_103 : decode b_R_becomeSums 103 = .ok (.invokevirtual 76, 3) := by decide +kernel
theorem d_R_becomeSums_106 : decode b_R_becomeSums 106 = .ok (.iadd, 1) := by decide +kernel
theorem d_R_becomeSums_107 : decode b_R_becomeSums 107 = .ok (.istore 4, 2) := by decide +kernel
theorem d_R_becomeSums_109 : decode b_R_becomeSums 109 = .ok (.iinc 5 (1), 3) := by decide +kernel
theorem d_R_becomeSums_112 : decode b_R_becomeSums 112 = .ok (.iload 9, 2) := by decide +kernel
theorem d_R_becomeSums_114 : decode b_R_becomeSums 114 = .ok (.ifCond .lt (26), 3) := by decide +kernel
theorem d_R_becomeSums_117 : decode b_R_becomeSums 117 = .ok (.iload_n 3, 1) := by decide +kernel
theorem d_R_becomeSums_118 : decode b_R_becomeSums 118 = .ok (.aload_n 2, 1) := by decide +kernel
theorem d_R_becomeSums_119 : decode b_R_becomeSums 119 = .ok (.iload 6, 2) := by decide +kernel
theorem d_R_becomeSums_121 : decode b_R_becomeSums 121 = .ok (.invokevirtual 73, 3) := by decide +kernel
theorem d_R_becomeSums_124 : decode b_R_becomeSums 124 = .ok (.iadd, 1) := by decide +kernel
theorem d_R_becomeSums_125 : decode b_R_becomeSums 125 = .ok (.istore_n 3, 1) := by decide +kernel
theorem d_R_becomeSums_126 : decode b_R_becomeSums 126 = .ok (.iload 4, 2) := by decide +kernel
theorem d_R_becomeSums_128 : decode b_R_becomeSums 128 = .ok (.aload_n 2, 1) := by decide +kernel
theorem d_R_becomeSums_129 : decode b_R_becomeSums 129 = .ok (.iload 6, 2) := by decide +kernel
theorem d_R_becomeSums_131 : decode b_R_becomeSums 131 = .ok (.invokevirtual 76, 3) := by decide +kernel
theorem d_R_becomeSums_134 : decode b_R_becomeSums 134 = .ok (.iadd, 1) := by decide +kernel
theorem d_R_becomeSums_135 : decode b_R_becomeSums 135 = .ok (.istore 4, 2) := by decide +kernel
theorem d_R_becomeSums_137 : decode b_R_becomeSums 137 = .ok (.iinc 6 (1), 3) := by decide +kernel
theorem d_R_becomeSums_140 : decode b_R_becomeSums 140 = .ok (.iload 5, 2) := by decide +kernel
theorem d_R_becomeSums_142 : decode b_R_becomeSums 142 = .ok (.iload 6, 2) := by decide +kernel
theorem d_R_becomeSums_144 : decode b_R_becomeSums 144 = .ok (.iadd, 1) := by decide +kernel
theorem d_R_becomeSums_145 : decode b_R_becomeSums 145 = .ok (.iload 7, 2) := by decide +kernel
theorem d_R_becomeSums_147 : decode b_R_becomeSums 147 = .ok (.if_icmp .ge (10), 3) := by decide +kernel
theorem d_R_becomeSums_150 : decode b_R_becomeSums 150 = .ok (.aload_n 0, 1) := by decide +kernel
theorem d_R_becomeSums_151 : decode b_R_becomeSums 151 = .ok (.iload_n 3, 1) := by decide +kernel
theorem d_R_becomeSums_152 : decode b_R_becomeSums 152 = .ok (.iload 4, 2) := by decide +kernel
theorem d_R_becomeSums_154 : decode b_R_becomeSums 154 = .ok (.invokevirtual 54, 3) := by decide +kernel
theorem d_R_becomeSums_157 : decode b_R_becomeSums 157 = .ok (.iinc 8 (1), 3) := by decide +kernel
theorem d_R_becomeSums_160 : decode b_R_becomeSums 160 = .ok (.goto (-104), 3) := by decide +kernel
theorem d_R_becomeSums_163 : decode b_R_becomeSums 163 = .ok (.return_, 1) := by decide +kernel
theorem d_R_orderOfSides_0 : decode b_R_orderOfSides 0 = .ok (.iload_n 1, 1) := by decide +kernel
theorem d_R_orderOfSides_1 : decode b_R_orderOfSides 1 = .ok (.aload_n 0, 1) := by decide +kernel
theorem d_R_orderOfSides_2 : decode b_R_orderOfSides 2 = .ok (.invokevirtual 88, 3) := by decide +kernel
theorem d_R_orderOfSides_5 : decode b_R_orderOfSides 5 = .ok (.if_icmp .lt (5), 3) := by decide +kernel
theorem d_R_orderOfSides_8 : decode b_R_orderOfSides 8 = .ok (.iconst 1, 1) := by decide +kernel
theorem d_R_orderOfSides_9 : decode b_R_orderOfSides 9 = .ok (.ireturn, 1) := by decide +kernel
theorem d_R_orderOfSides_10 : decode b_R_orderOfSides 10 = .ok (.iload_n 3, 1) := by decide +kernel
theorem d_R_orderOfSides_11 : decode b_R_orderOfSides 11 = .ok (.aload_n 2, 1) := by decide +kernel
theorem d_R_orderOfSides_12 : decode b_R_orderOfSides 12 = .ok (.invokevirtual 88, 3) := by decide +kernel
theorem d_R_orderOfSides_15 : decode b_R_orderOfSides 15 = .ok (.if_icmp .lt (5), 3) := by decide +kernel
theorem d_R_orderOfSides_18 : decode b_R_orderOfSides 18 = .ok (.iconst (-1), 1) := by decide +kernel
theorem d_R_orderOfSides_19 : decode b_R_orderOfSides 19 = .ok (.ireturn, 1) := by decide +kernel
theorem d_R_orderOfSides_20 : decode b_R_orderOfSides 20 = .ok (.aload_n 0, 1) := by decide +kernel
theorem d_R_orderOfSides_21 : decode b_R_orderOfSides 21 = .ok (.iload_n 1, 1) := by decide +kernel
theorem d_R_orderOfSides_22 : decode b_R_orderOfSides 22 = .ok (.invokevirtual 73, 3) := by decide +kernel
theorem d_R_orderOfSides_25 : decode b_R_orderOfSides 25 = .ok (.aload_n 0, 1) := by decide +kernel
theorem d_R_orderOfSides_26 : decode b_R_orderOfSides 26 = .ok (.iload_n 1, 1) := by decide +kernel
theorem d_R_orderOfSides_27 : decode b_R_orderOfSides 27 = .ok (.invokevirtual 76, 3) := by decide +kernel
theorem d_R_orderOfSides_30 : decode b_R_orderOfSides 30 = .ok (.invokestatic 105, 3) := by decide +kernel
theorem d_R_orderOfSides_33 : decode b_R_orderOfSides 33 = .ok (.istore 4, 2) := by decide +kernel
theorem d_R_orderOfSides_35 : decode b_R_orderOfSides 35 = .ok (.iload 4, 2) := by decide +kernel
theorem d_R_orderOfSides_37 : decode b_R_orderOfSides 37 = .ok (.aload_n 2, 1) := by decide +kernel
theorem d_R_orderOfSides_38 : decode b_R_orderOfSides 38 = .ok (.iload_n 3, 1) := by decide +kernel
theorem d_R_orderOfSides_39 : decode b_R_orderOfSides 39 = .ok (.invokevirtual 73, 3) := by decide +kernel
theorem d_R_orderOfSides_42 : decode b_R_orderOfSides 42 = .ok (.aload_n 2, 1) := by decide +kernel
theorem d_R_orderOfSides_43 : decode b_R_orderOfSides 43 = .ok (.iload_n 3, 1) := by decide +kernel
theorem d_R_orderOfSides_44 : decode b_R_orderOfSides 44 = .ok (.invokevirtual 76, 3) := by decide +kernel
theorem d_R_orderOfSides_47 : decode b_R_orderOfSides 47 = .ok (.invokestatic 105, 3) := by decide +kernel
theorem d_R_orderOfSides_50 : decode b_R_orderOfSides 50 = .ok (.if_icmp .eq (14), 3) := by decide +kernel
theorem d_R_orderOfSides_53 : decode b_R_orderOfSides 53 = .ok (.iload 4, 2) := by decide +kernel
theorem d_R_orderOfSides_55 : decode b_R_orderOfSides 55 = .ok (.ifCond .eq (7), 3) := by decide +kernel
theorem d_R_orderOfSides_58 : decode b_R_orderOfSides 58 = .ok (.iconst 1, 1) := by decide +kernel
theorem d_R_orderOfSides_59 : decode b_R_orderOfSides 59 = .ok (.goto (4), 3) := by decide +kernel
theorem d_R_orderOfSides_62 : decode b_R_orderOfSides 62 = .ok (.iconst (-1), 1) := by decide +kernel
theorem d_R_orderOfSides_63 : decode b_R_orderOfSides 63 = .ok (.ireturn, 1) := by decide +kernel
theorem d_R_orderOfSides_64 : decode b_R_orderOfSides 64 = .ok (.aload_n 2, 1) := by decide +kernel
theorem d_R_orderOfSides_65 : decode b_R_orderOfSides 65 = .ok (.iload_n 3, 1) := by decide +kernel
theorem d_R_orderOfSides_66 : decode b_R_orderOfSides 66 = .ok (.invokevirtual 73, 3) := by decide +kernel
theorem d_R_orderOfSides_69 : decode b_R_orderOfSides 69 = .ok (.aload_n 0, 1) := by decide +kernel
theorem d_R_orderOfSides_70 : decode b_R_orderOfSides 70 = .ok (.iload_n 1, 1) := by decide +kernel
theorem d_R_orderOfSides_71 : decode b_R_orderOfSides 71 = .ok (.invokevirtual 76, 3) := by decide +kernel
theorem d_R_orderOfSides_74 : decode b_R_orderOfSides 74 = .ok (.imul, 1) := by decide +kernel
theorem d_R_orderOfSides_75 : decode b_R_orderOfSides 75 = .ok (.aload_n 2, 1) := by decide +kernel
theorem d_R_orderOfSides_76 : decode b_R_orderOfSides 76 = .ok (.iload_n 3, 1) := by decide +kernel
theorem d_R_orderOfSides_77 : decode b_R_orderOfSides 77 = .ok (.invokevirtual 76, 3) := by decide +kernel
theorem d_R_orderOfSides_80 : decode b_R_orderOfSides 80 = .ok (.aload_n 0, 1) := by decide +kernel
theorem d_R_orderOfSides_81 : decode b_R_orderOfSides 81 = .ok (.iload_n 1, 1) := by decide +kernel
theorem d_R_orderOfSides_82 : decode b_R_orderOfSides 82 = .ok (.invokevirtual 73, 3) := by decide +kernel
theorem d_R_orderOfSides_85 : decode b_R_orderOfSides 85 = .ok (.imul, 1) := by decide +kernel
theorem d_R_orderOfSides_86 : decode b_R_orderOfSides 86 = .ok (.isub, 1) := by decide +kernel
theorem d_R_orderOfSides_87 : decode b_R_orderOfSides 87 = .ok (.ireturn, 1) := by decide +kernel
theorem d_R_goesBack_0 : decode b_R_goesBack 0 = .ok (.iload_n 0, 1) := by decide +kernel
theorem d_R_goesBack_1 : decode b_R_goesBack 1 = .ok (.ifCond .lt (11), 3) := by decide +kernel
theorem d_R_goesBack_4 : decode b_R_goesBack 4 = .ok (.iload_n 0, 1) := by decide +kernel
theorem d_R_goesBack_5 : decode b_R_goesBack 5 = .ok (.ifCond .ne (11), 3) := by decide +kernel
theorem d_R_goesBack_8 : decode b_R_goesBack 8 = .ok (.iload_n 1, 1) := by decide +kernel
theorem d_R_goesBack_9 : decode b_R_goesBack 9 = .ok (.ifCond .ge (7), 3) := by decide +kernel
theorem d_R_goesBack_12 : decode b_R_goesBack 12 = .ok (.iconst 1, 1) := by decide +kernel
theorem d_R_goesBack_13 : decode b_R_goesBack 13 = .ok (.goto (4), 3) := by decide +kernel
theorem d_R_goesBack_16 : decode b_R_goesBack 16 = .ok (.iconst 0, 1) := by decide +kernel
theorem d_R_goesBack_17 : decode b_R_goesBack 17 = .ok (.ireturn, 1) := by decide +kernel
end
section
/-! Math.max, min, abs in whole numbers -/
theorem st_Mmin : Cond.static Lib.Math.min.name ∈ lw_g := tw_1 185 rfl
theorem co_Mmin : Cond.code Lib.Math.min.name Lib.Math.min.code 2 (some .int) ∈ lw_g := tw_1 186 (by decide +kernel)
theorem st_Mmax : Cond.static Lib.Math.max.name ∈ lw_g := tw_1 211 rfl
theorem co_Mmax : Cond.code Lib.Math.max.name Lib.Math.max.code 2 (some .int) ∈ lw_g := tw_1 212 (by decide +kernel)
theorem st_Mabs : Cond.static Lib.MathLoose.abs_long.x ∈ lw_g := tw_2 17 rfl
theorem co_Mabs : Cond.code Lib.MathLoose.abs_long.x Lib.MathLoose.abs_long.code 2 (some .long) ∈ lw_g := tw_2 18 (by decide +kernel)
def zabs (x : Int) : Int := if 0 < x then x else -x
section MM
variable {p : Program} {l : Launch} {e : Env} {R : Room} {s : State} {m : MethodId} {args : Array Value} {below : List Frame} {meth : Method} {c : Code} {H : Heap} {locs : List Loc} {cells slots : Nat} {Q : State → Prop} {cc : ByteArray} {pc nL : Nat} {ls : Array Slot} {rest : List Value} {D : va_G} {cI cR : ClassId} {own : String} {index : Nat}
theorem ri_mmax {x y : Int32} {a b : Int} (X : gx p m c cc nL s args own D cI cR) (hsz : ls.size = nL) (hlk : Cond.methodLink own index Lib.Math.max.name ∈ lw_g) (hf : 1 ≤ R.frames) (hlo : (rest.map fun v => v.category).sum + 13 ≤ R.locals) (hc : cells ≤ R.cells) (hs : slots ≤ R.slots) (e1 : x = iN a) (e2 : y = iN b) (ha : i3 a) (hb : i3 b) (hdg : decode cc pc = .ok (.invokestatic index, 3)) (k : W p l e R s m args below meth c H locs cells slots Q (F0 m (pc + 3) ls (.int (iN (max a b)) :: rest))) : W p l e R s m args below meth c H locs cells slots Q (F0 m pc ls (.int y :: .int x :: rest)) := by
  subst e1; subst e2
  have hts := X.1.2.2.2.2
  refine va_mmax X.1.1 X.1.2.1 (X.1.2.2.1.trans hsz.symm) X.1.2.2.2.1 (hts _ hlk) (hts _ st_Mmax) (hts _ id_Math) (hts _ co_Mmax) hf hlo hc hs hdg ?_
  have h : (if iN a < iN b then iN b else iN a) = iN (max a b) := by
    by_cases q : a < b
    · rw [if_pos ((iN_lt ha hb).mpr q), Int.max_eq_right (by omega)]
    · rw [if_neg (fun z => q ((iN_lt ha hb).mp z)), Int.max_eq_left (by omega)]
  rw [h]
  exact k
theorem ri_mmin {x y : Int32} {a b : Int} (X : gx p m c cc nL s args own D cI cR) (hsz : ls.size = nL) (hlk : Cond.methodLink own index Lib.Math.min.name ∈ lw_g) (hf : 1 ≤ R.frames) (hlo : (rest.map fun v => v.category).sum + 13 ≤ R.locals) (hc : cells ≤ R.cells) (hs : slots ≤ R.slots) (e1 : x = iN a) (e2 : y = iN b) (ha : i3 a) (hb : i3 b) (hdg : decode cc pc = .ok (.invokestatic index, 3)) (k : W p l e R s m args below meth c H locs cells slots Q (F0 m (pc + 3) ls (.int (iN (min a b)) :: rest))) : W p l e R s m args below meth c H locs cells slots Q (F0 m pc ls (.int y :: .int x :: rest)) := by
  subst e1; subst e2
  have hts := X.1.2.2.2.2
  refine va_mmin X.1.1 X.1.2.1 (X.1.2.2.1.trans hsz.symm) X.1.2.2.2.1 (hts _ hlk) (hts _ st_Mmin) (hts _ id_Math) (hts _ co_Mmin) hf hlo hc hs hdg ?_
  have h : (if iN b < iN a then iN b else iN a) = iN (min a b) := by
    by_cases q : b < a
    · rw [if_pos ((iN_lt hb ha).mpr q), Int.min_eq_right (by omega)]
    · rw [if_neg (fun z => q ((iN_lt hb ha).mp z)), Int.min_eq_left (by omega)]
  rw [h]
  exact k
theorem rj_mabs {x : Int64} {a : Int} (X : gx p m c cc nL s args own D cI cR) (hsz : ls.size = nL) (hlk : Cond.methodLink own index Lib.MathLoose.abs_long.x ∈ lw_g) (hf : 1 ≤ R.frames) (hlo : (rest.map fun v => v.category).sum + 13 ≤ R.locals) (hc : cells ≤ R.cells) (hs : slots ≤ R.slots) (e1 : x = jN a) (ha : i6 a) (hdg : decode cc pc = .ok (.invokestatic index, 3)) (k : W p l e R s m args below meth c H locs cells slots Q (F0 m (pc + 3) ls (.long (jN (zabs a)) :: rest))) : W p l e R s m args below meth c H locs cells slots Q (F0 m pc ls (.long x :: rest)) := by
  subst e1
  have hts := X.1.2.2.2.2
  have hz : i6 0 := ⟨by decide, by decide⟩
  refine va_mabs_long X.1.1 X.1.2.1 (X.1.2.2.1.trans hsz.symm) X.1.2.2.2.1 (hts _ hlk) (hts _ st_Mabs) (hts _ id_Math) (hts _ co_Mabs) hf hlo hc hs hdg ?_
  have h : (if 0 < jN a then jN a else -jN a) = jN (zabs a) := by
    have e0 : (0 : Int64) = jN 0 := rfl
    unfold zabs
    by_cases q : 0 < a
    · rw [e0, if_pos ((jN_lt hz ha).mpr q), if_pos q]
    · rw [e0, if_neg (fun z => q ((jN_lt hz ha).mp z)), if_neg q, jN_neg]
  rw [h]
  exact k
end MM
/-- bounds of products -/
theorem mb {a b A B : Int} (h1 : -A ≤ a) (h2 : a ≤ A) (h3 : -B ≤ b) (h4 : b ≤ B) : -(A * B) ≤ a * b ∧ a * b ≤ A * B := by
  have q1 := Int.mul_nonneg (show 0 ≤ A - a by omega) (show 0 ≤ B + b by omega)
  have q2 := Int.mul_nonneg (show 0 ≤ A + a by omega) (show 0 ≤ B - b by omega)
  have q3 := Int.mul_nonneg (show 0 ≤ A - a by omega) (show 0 ≤ B - b by omega)
  have q4 := Int.mul_nonneg (show 0 ≤ A + a by omega) (show 0 ≤ B + b by omega)
  grind
theorem mbc {a b : Int} (A B C : Int) (h1 : -A ≤ a) (h2 : a ≤ A) (h3 : -B ≤ b) (h4 : b ≤ B) (hC : A * B = C) : -C ≤ a * b ∧ a * b ≤ C := by
  have := mb h1 h2 h3 h4
  rw [hC] at this
  exact this
noncomputable def bI (p : Prop) : Int := @ite _ p (Classical.propDecidable p) 1 0
theorem bI_t {p : Prop} (h : p) : bI p = 1 := if_pos h
theorem bI_f {p : Prop} (h : ¬ p) : bI p = 0 := if_neg h
theorem bI_0 {p : Prop} (h : bI p = 0) : ¬ p := fun q => by rw [bI_t q] at h; omega
theorem bI_n {p : Prop} (h : ¬ bI p = 0) : p := by
  by_cases q : p
  · exact q
  · exact absurd (bI_f q) h
theorem bI_01 (p : Prop) : bI p = 0 ∨ bI p = 1 := by
  by_cases q : p
  · exact Or.inr (bI_t q)
  · exact Or.inl (bI_f q)
theorem bI_3 (p : Prop) : i3 (bI p) := by
  have := bI_01 p; unfold i3; omega
theorem bI_iff {p q : Prop} (h : p ↔ q) : bI p = bI q := by rw [propext h]
end
section
/-! a loop with an empty stack at its head: a measure falls, the world and the locals are those of a state x -/
section GL
variable {p : Program} {l : Launch} {e : Env} {R : Room} {s : State} {m : MethodId} {args : Array Value} {below : List Frame} {meth : Method} {c : Code} {cells slots : Nat} {Q : State → Prop}
variable {pc nL : Nat} {D : va_G} {A : Nat → Prop} {H0 : Heap}
theorem g_loop {σ : Type} (μ : σ → Nat) (lv : σ → List (Nat × Value)) (L : List Nat) (F : σ → (Nat → va_E)) (I : σ → Prop)
    (body : ∀ (x : σ) (H : Heap) (locs : List Loc) (ls : Array Slot), I x → gw D A H0 H locs L (F x) → lv_has ls nL (lv x) →
      (∀ (y : σ) (H' : Heap) (locs' : List Loc) (ls' : Array Slot), μ y < μ x → I y → gw D A H0 H' locs' L (F y) → lv_has ls' nL (lv y) → W p l e R s m args below meth c H' locs' cells slots Q (F0 m pc ls' [])) →
      W p l e R s m args below meth c H locs cells slots Q (F0 m pc ls []))
    (x : σ) (H : Heap) (locs : List Loc) (ls : Array Slot) (hI : I x) (w : gw D A H0 H locs L (F x)) (hl : lv_has ls nL (lv x)) : W p l e R s m args below meth c H locs cells slots Q (F0 m pc ls []) := by
  have key : ∀ (n : Nat) (x : σ) (H : Heap) (locs : List Loc) (ls : Array Slot), μ x < n → I x → gw D A H0 H locs L (F x) → lv_has ls nL (lv x) → W p l e R s m args below meth c H locs cells slots Q (F0 m pc ls []) := by
    intro n
    induction n with
    | zero => intro x H locs ls h; exact absurd h (Nat.not_lt_zero _)
    | succ n ih =>
      intro x H locs ls h hI w hl
      exact body x H locs ls hI w hl (fun y H' locs' ls' hm hI' w' hl' => ih y H' locs' ls' (by omega) hI' w' hl')
  exact key (μ x + 1) x H locs ls (Nat.lt_succ_self _) hI w hl
end GL
end
section
/-! division rows -/
section DV
variable {p : Program} {l : Launch} {e : Env} {R : Room} {s : State} {m : MethodId} {args : Array Value} {below : List Frame} {meth : Method} {c : Code} {H : Heap} {locs : List Loc} {cells slots : Nat} {Q : State → Prop} {cc : ByteArray} {pc : Nat} {ls : Array Slot} {rest : List Value}
theorem jN_ne0 {b : Int} (hb : i6 b) (h : b ≠ 0) : ¬ jN b = 0 := fun q => h ((jN_eq hb ⟨by decide, by decide⟩).mp (q.trans (rfl : (0 : Int64) = jN 0)))
theorem iN_ne0 {b : Int} (hb : i3 b) (h : b ≠ 0) : ¬ iN b = 0 := fun q => h ((iN_eq hb ⟨by decide, by decide⟩).mp (q.trans (rfl : (0 : Int32) = iN 0)))
theorem rj_rem (hx : p.tables.exec = Jvm.exec) (hb : c.code = cc) {x y : Int64} {a b : Int} (hdg : decode cc pc = .ok (.lrem, 1)) (e1 : x = jN a) (e2 : y = jN b) (ha : i6 a) (hb6 : i6 b) (h0 : b ≠ 0) (k : W p l e R s m args below meth c H locs cells slots Q (F0 m (pc + 1) ls (.long (jN (a.tmod b)) :: rest))) : W p l e R s m args below meth c H locs cells slots Q (F0 m pc ls (.long y :: .long x :: rest)) := by
  subst e1; subst e2
  refine lv_lrem hx hb hdg (jN_ne0 hb6 h0) ?_
  rw [jN_rem ha hb6]
  exact k
theorem rj_div (hx : p.tables.exec = Jvm.exec) (hb : c.code = cc) {x y : Int64} {a b : Int} (hdg : decode cc pc = .ok (.ldiv, 1)) (e1 : x = jN a) (e2 : y = jN b) (ha : i6 a) (hb6 : i6 b) (h0 : b ≠ 0) (k : W p l e R s m args below meth c H locs cells slots Q (F0 m (pc + 1) ls (.long (jN (a.tdiv b)) :: rest))) : W p l e R s m args below meth c H locs cells slots Q (F0 m pc ls (.long y :: .long x :: rest)) := by
  subst e1; subst e2
  refine lv_ldiv hx hb hdg (jN_ne0 hb6 h0) ?_
  rw [jN_div ha hb6]
  exact k
theorem ri_div (hx : p.tables.exec = Jvm.exec) (hb : c.code = cc) {x y : Int32} {a b : Int} (hdg : decode cc pc = .ok (.idiv, 1)) (e1 : x = iN a) (e2 : y = iN b) (ha : i3 a) (hb3 : i3 b) (h0 : 0 < b) (k : W p l e R s m args below meth c H locs cells slots Q (F0 m (pc + 1) ls (.int (iN (a.tdiv b)) :: rest))) : W p l e R s m args below meth c H locs cells slots Q (F0 m pc ls (.int y :: .int x :: rest)) := by
  subst e1; subst e2
  refine lv_idiv hx hb hdg (iN_ne0 hb3 (by omega)) ?_
  rw [iN_div ha h0 hb3]
  exact k
end DV
/-- Euclid's steps: the product halves -/
theorem eu_step {x y : Int} (hy : 0 < y) (hx : 0 ≤ x) : 0 ≤ x.tmod y ∧ x.tmod y < y ∧ (y ≤ x → 2 * (y * x.tmod y) ≤ x * y) := by
  have e : x.tmod y = x % y := Int.tmod_eq_emod_of_nonneg hx
  rw [e]
  have h1 := Int.emod_nonneg x (show y ≠ 0 by omega)
  have h2 := Int.emod_lt_of_pos x hy
  refine ⟨h1, h2, fun h => ?_⟩
  have h3 : 2 * (x % y) ≤ x := by
    have h4 : y * (x / y) + x % y = x := Int.mul_ediv_add_emod x y
    have h5 : 1 ≤ x / y := by
      have := Int.ediv_le_ediv hy h
      rwa [Int.ediv_self (by omega)] at this
    have h6 : y * 1 ≤ y * (x / y) := Int.mul_le_mul_of_nonneg_left h5 (by omega)
    omega
  have h7 : y * (2 * (x % y)) ≤ y * x := Int.mul_le_mul_of_nonneg_left h3 (by omega)
  grind
theorem eu_gcd {x y : Int} (hx : 0 ≤ x) (hy : 0 < y) : Int.gcd y (x.tmod y) = Int.gcd x y := by
  rw [Int.tmod_eq_emod_of_nonneg hx]
  obtain ⟨n, rfl⟩ : ∃ n : Nat, x = n := ⟨x.toNat, by omega⟩
  obtain ⟨k, rfl⟩ : ∃ k : Nat, y = k := ⟨y.toNat, by omega⟩
  rw [← Int.natCast_emod]
  show Nat.gcd k (n % k) = Nat.gcd n k
  rw [Nat.gcd_comm, ← Nat.gcd_rec, Nat.gcd_comm]
end
section
/-! ROWS: the points of a row; what each method of Row answers -/
abbrev Pt : Type := Int × Int
def rowIs (cI : ClassId) (rx ry : Nat → Nat) (f : Nat → va_E) (a : Nat) (P : List Pt) : Prop :=
  P.length ≤ 48 ∧ f a = .inr (1, [.ref (rx a), .ref (ry a), .int (iN P.length)]) ∧ ∃ X Y : Nat → Int32, f (rx a) = .inl (cI, 48, .inl X) ∧ f (ry a) = .inl (cI, 48, .inl Y) ∧ ∀ i q, P[i]? = some q → X i = iN q.1 ∧ Y i = iN q.2
def ro (L : List Nat) (rx ry : Nat → Nat) (a : Nat) : Prop := a ∈ L ∧ rx a ∈ L ∧ ry a ∈ L ∧ a ≠ rx a ∧ a ≠ ry a ∧ rx a ≠ ry a
def pX (P : List Pt) (z : Int) : Int := if z < 0 then 0 else ((P[z.toNat]?).getD (0, 0)).1
def pY (P : List Pt) (z : Int) : Int := if z < 0 then 0 else ((P[z.toNat]?).getD (0, 0)).2
theorem pX_neg {P : List Pt} {z : Int} (h : z < 0) : pX P z = 0 := by simp [pX, h]
theorem pY_neg {P : List Pt} {z : Int} (h : z < 0) : pY P z = 0 := by simp [pY, h]
theorem pX_big {P : List Pt} {z : Int} (h : P.length ≤ z) : pX P z = 0 := by
  unfold pX; split
  · rfl
  · rw [List.getElem?_eq_none (by omega)]; rfl
theorem pY_big {P : List Pt} {z : Int} (h : P.length ≤ z) : pY P z = 0 := by
  unfold pY; split
  · rfl
  · rw [List.getElem?_eq_none (by omega)]; rfl
theorem pX_nat {P : List Pt} {i : Nat} {q : Pt} (h : P[i]? = some q) : pX P i = q.1 := by
  unfold pX; rw [if_neg (by omega)]; simp [h]
theorem pY_nat {P : List Pt} {i : Nat} {q : Pt} (h : P[i]? = some q) : pY P i = q.2 := by
  unfold pY; rw [if_neg (by omega)]; simp [h]
theorem px_at {P : List Pt} {z : Int} (h0 : ¬ z < 0) (h1 : ¬ (P.length : Int) ≤ z) : ∃ (i : Nat) (q : Pt), z = i ∧ i < P.length ∧ P[i]? = some q := by
  refine ⟨z.toNat, P[z.toNat]'(by omega), by omega, by omega, ?_⟩
  simp

set_option maxHeartbeats 4000000 in
set_option maxRecDepth 100000 in
theorem c_R_x (l : Launch) {D : va_G} {cI cR : ClassId} {L : List Nat} {f : Nat → va_E} {rx ry : Nat → Nat} {a : Nat} {P : List Pt} (ho : ro L rx ry a) (hr : rowIs cI rx ry f a P) {z : Int} (hz : i3 z) : gMi D cI cR l y_R_x (Cond.code y_R_x b_R_x 2 (some .int) :: lw_g) { frames := 0, cells := 0, slots := 0, locals := 0 } [.ref a, .int (iN z)] L f (fun r u => r = iN (pX P z) ∧ u = (L, f)) := by
  obtain ⟨hn, h1, F1, F2, h2, h3, h4⟩ := hr
  intro sz
  refine g_enter (by decide) rfl (Nat.le_of_ble_eq_true rfl) ?_
  intro p e s m below meth cd ls X hrt hlk hnm hl hsz w
  have X : gx p m cd b_R_x 2 s _ "HullSums$Row" D cI cR := X
  have hx := X.1.1
  have hb := X.1.2.1
  have hl : lv_has ls 2 [(0, .ref a), (1, .int (iN z))] := hl
  refine lv_iload_n hx hb d_R_x_0 rfl (lv_at hl 1 rfl) ?_
  refine ri_zlt (a := z) (tgt := 30) hx hb d_R_x_1 (by decide) rfl hz (fun c1 => ?_) (fun c1 => ?_)
  · skip
    refine lv_iconst (v := iN (0)) hx hb d_R_x_30 (by decide) ?_
    exact g_iret X w hrt hlk d_R_x_31 ⟨by rw [pX_neg c1], rfl⟩
  · skip
    refine lv_iload_n hx hb d_R_x_4 rfl (lv_at hl 1 rfl) ?_
    refine lv_aload_n hx hb d_R_x_5 rfl (lv_at hl 0 rfl) ?_
    refine gk_get X w ho.1 h1 rfl in_R 2 (by decide) lk_R_18 rfl d_R_x_6 ?_
    refine ri_cge (a := z) (b := (P.length : Int)) (tgt := 30) hx hb d_R_x_9 (by decide) rfl rfl hz (by unfold i3; omega) (fun c9 => ?_) (fun c9 => ?_)
    · skip
      refine lv_iconst (v := iN (0)) hx hb d_R_x_30 (by decide) ?_
      exact g_iret X w hrt hlk d_R_x_31 ⟨by rw [pX_big c9], rfl⟩
    · skip
      refine lv_iload_n hx hb d_R_x_12 rfl (lv_at hl 1 rfl) ?_
      refine lv_aload_n hx hb d_R_x_13 rfl (lv_at hl 0 rfl) ?_
      refine gk_get X w ho.1 h1 rfl in_R 0 (by decide) lk_R_9 rfl d_R_x_14 ?_
      refine gk_alen X w 0 ho.2.1 h2 rfl (v := iN (48)) rfl d_R_x_17 ?_
      refine ri_cge (a := z) (b := 48) (tgt := 30) hx hb d_R_x_18 (by decide) rfl rfl hz (by unfold i3; omega) (fun c18 => ?_) (fun c18 => ?_)
      · skip
        refine lv_iconst (v := iN (0)) hx hb d_R_x_30 (by decide) ?_
        exact g_iret X w hrt hlk d_R_x_31 ⟨by rw [pX_big (by omega)], rfl⟩
      · skip
        refine lv_aload_n hx hb d_R_x_21 rfl (lv_at hl 0 rfl) ?_
        refine gk_get X w ho.1 h1 rfl in_R 0 (by decide) lk_R_9 rfl d_R_x_22 ?_
        refine lv_iload_n hx hb d_R_x_25 rfl (lv_at hl 1 rfl) ?_
        obtain ⟨i, q, rfl, hi, hq⟩ := px_at (P := P) c1 c9
        refine gk_iald X w 0 ho.2.1 h2 rfl (iN_in (by omega) (by decide)) d_R_x_26 ?_
        rw [iN_cl (by omega), (h4 i q hq).1]
        refine lv_goto (tgt := 31) hx hb d_R_x_27 (by decide) ?_
        exact g_iret X w hrt hlk d_R_x_31 ⟨by rw [pX_nat hq], rfl⟩
set_option maxHeartbeats 4000000 in
set_option maxRecDepth 100000 in
theorem c_R_y (l : Launch) {D : va_G} {cI cR : ClassId} {L : List Nat} {f : Nat → va_E} {rx ry : Nat → Nat} {a : Nat} {P : List Pt} (ho : ro L rx ry a) (hr : rowIs cI rx ry f a P) {z : Int} (hz : i3 z) : gMi D cI cR l y_R_y (Cond.code y_R_y b_R_y 2 (some .int) :: lw_g) { frames := 0, cells := 0, slots := 0, locals := 0 } [.ref a, .int (iN z)] L f (fun r u => r = iN (pY P z) ∧ u = (L, f)) := by
  obtain ⟨hn, h1, F1, F2, h2, h3, h4⟩ := hr
  intro sz
  refine g_enter (by decide) rfl (Nat.le_of_ble_eq_true rfl) ?_
  intro p e s m below meth cd ls X hrt hlk hnm hl hsz w
  have X : gx p m cd b_R_y 2 s _ "HullSums$Row" D cI cR := X
  have hx := X.1.1
  have hb := X.1.2.1
  have hl : lv_has ls 2 [(0, .ref a), (1, .int (iN z))] := hl
  refine lv_iload_n hx hb d_R_y_0 rfl (lv_at hl 1 rfl) ?_
  refine ri_zlt (a := z) (tgt := 30) hx hb d_R_y_1 (by decide) rfl hz (fun c1 => ?_) (fun c1 => ?_)
  · skip
    refine lv_iconst (v := iN (0)) hx hb d_R_y_30 (by decide) ?_
    exact g_iret X w hrt hlk d_R_y_31 ⟨by rw [pY_neg c1], rfl⟩
  · skip
    refine lv_iload_n hx hb d_R_y_4 rfl (lv_at hl 1 rfl) ?_
    refine lv_aload_n hx hb d_R_y_5 rfl (lv_at hl 0 rfl) ?_
    refine gk_get X w ho.1 h1 rfl in_R 2 (by decide) lk_R_18 rfl d_R_y_6 ?_
    refine ri_cge (a := z) (b := (P.length : Int)) (tgt := 30) hx hb d_R_y_9 (by decide) rfl rfl hz (by unfold i3; omega) (fun c9 => ?_) (fun c9 => ?_)
    · skip
      refine lv_iconst (v := iN (0)) hx hb d_R_y_30 (by decide) ?_
      exact g_iret X w hrt hlk d_R_y_31 ⟨by rw [pY_big c9], rfl⟩
    · skip
      refine lv_iload_n hx hb d_R_y_12 rfl (lv_at hl 1 rfl) ?_
      refine lv_aload_n hx hb d_R_y_13 rfl (lv_at hl 0 rfl) ?_
      refine gk_get X w ho.1 h1 rfl in_R 1 (by decide) lk_R_15 rfl d_R_y_14 ?_
      refine gk_alen X w 0 ho.2.2.1 h3 rfl (v := iN (48)) rfl d_R_y_17 ?_
      refine ri_cge (a := z) (b := 48) (tgt := 30) hx hb d_R_y_18 (by decide) rfl rfl hz (by unfold i3; omega) (fun c18 => ?_) (fun c18 => ?_)
      · skip
        refine lv_iconst (v := iN (0)) hx hb d_R_y_30 (by decide) ?_
        exact g_iret X w hrt hlk d_R_y_31 ⟨by rw [pY_big (by omega)], rfl⟩
      · skip
        refine lv_aload_n hx hb d_R_y_21 rfl (lv_at hl 0 rfl) ?_
        refine gk_get X w ho.1 h1 rfl in_R 1 (by decide) lk_R_15 rfl d_R_y_22 ?_
        refine lv_iload_n hx hb d_R_y_25 rfl (lv_at hl 1 rfl) ?_
        obtain ⟨i, q, rfl, hi, hq⟩ := px_at (P := P) c1 c9
        refine gk_iald X w 0 ho.2.2.1 h3 rfl (iN_in (by omega) (by decide)) d_R_y_26 ?_
        rw [iN_cl (by omega), (h4 i q hq).2]
        refine lv_goto (tgt := 31) hx hb d_R_y_27 (by decide) ?_
        exact g_iret X w hrt hlk d_R_y_31 ⟨by rw [pY_nat hq], rfl⟩
set_option maxHeartbeats 4000000 in
set_option maxRecDepth 100000 in
theorem c_R_size (l : Launch) {D : va_G} {cI cR : ClassId} {L : List Nat} {f : Nat → va_E} {rx ry : Nat → Nat} {a : Nat} {P : List Pt} (ho : ro L rx ry a) (hr : rowIs cI rx ry f a P) : gMi D cI cR l y_R_size (Cond.code y_R_size b_R_size 1 (some .int) :: lw_g) { frames := 0, cells := 0, slots := 0, locals := 0 } [.ref a] L f (fun r u => r = iN P.length ∧ u = (L, f)) := by
  obtain ⟨hn, h1, F1, F2, h2, h3, h4⟩ := hr
  intro sz
  refine g_enter (by decide) rfl (Nat.le_of_ble_eq_true rfl) ?_
  intro p e s m below meth cd ls X hrt hlk hnm hl hsz w
  have X : gx p m cd b_R_size 1 s _ "HullSums$Row" D cI cR := X
  have hx := X.1.1
  have hb := X.1.2.1
  have hl : lv_has ls 1 [(0, .ref a)] := hl
  refine lv_aload_n hx hb d_R_size_0 rfl (lv_at hl 0 rfl) ?_
  refine gk_get X w ho.1 h1 rfl in_R 2 (by decide) lk_R_18 rfl d_R_size_1 ?_
  exact g_iret X w hrt hlk d_R_size_4 ⟨rfl, rfl⟩
end
section
/-! ROWS: what is asked of a row without changing it -/
def pb (B : Int) (P : List Pt) : Prop := ∀ i : Int, -B ≤ pX P i ∧ pX P i ≤ B ∧ -B ≤ pY P i ∧ pY P i ≤ B
def pT (P : List Pt) (i j x y : Int) : Int := (pX P j - pX P i) * (y - pY P i) - (pY P j - pY P i) * (x - pX P i)
def nx (P : List Pt) (i : Int) : Int := if i + 1 < (P.length : Int) then i + 1 else 0
def sq (P : List Pt) (i j : Int) : Int := (pX P i - pX P j) * (pX P i - pX P j) + (pY P i - pY P j) * (pY P i - pY P j)
def off (P : List Pt) (i x y : Int) : Int := pT P i (nx P i) x y
def sd (P : List Pt) : Int := if P.length < 2 then 0 else P.length
theorem nx_3 {P : List Pt} {i : Int} (h0 : 0 ≤ i) (h1 : i ≤ 100) : 0 ≤ nx P i ∧ nx P i ≤ 101 := by unfold nx; split <;> omega
theorem nx_4 {P : List Pt} {i : Int} (hn : P.length ≤ 48) (h : 0 ≤ i ∧ i ≤ 100) : 0 ≤ nx P i ∧ nx P i ≤ 100 := by unfold nx; split <;> omega
theorem ssq (a : Int) : 0 ≤ a * a := by
  rcases Int.le_total 0 a with h | h
  · exact Int.mul_nonneg h h
  · exact Int.mul_nonneg_of_nonpos_of_nonpos h h
theorem pX_3 {P : List Pt} (h : pb 600 P) (i : Int) : i3 (pX P i) := by have := h i; unfold i3; omega
theorem pY_3 {P : List Pt} (h : pb 600 P) (i : Int) : i3 (pY P i) := by have := h i; unfold i3; omega
theorem pT_b {P : List Pt} (h : pb 600 P) (i j : Int) {x y : Int} (hx : -1000 ≤ x ∧ x ≤ 1000) (hy : -1000 ≤ y ∧ y ≤ 1000) : -4000000 ≤ pT P i j x y ∧ pT P i j x y ≤ 4000000 := by
  have a := h i; have b := h j
  have q1 := mbc (a := pX P j - pX P i) (b := y - pY P i) 1200 1600 1920000 (by omega) (by omega) (by omega) (by omega) (by decide)
  have q2 := mbc (a := pY P j - pY P i) (b := x - pX P i) 1200 1600 1920000 (by omega) (by omega) (by omega) (by omega) (by decide)
  unfold pT; omega
theorem pT_3 {P : List Pt} (h : pb 600 P) (i j : Int) {x y : Int} (hx : -1000 ≤ x ∧ x ≤ 1000) (hy : -1000 ≤ y ∧ y ≤ 1000) : i3 (pT P i j x y) := by
  have := pT_b h i j hx hy; unfold i3; omega
theorem sq_b {P : List Pt} (h : pb 600 P) (i j : Int) : 0 ≤ sq P i j ∧ sq P i j ≤ 2880000 := by
  have a := h i; have b := h j
  have q1 := mbc (a := pX P i - pX P j) (b := pX P i - pX P j) 1200 1200 1440000 (by omega) (by omega) (by omega) (by omega) (by decide)
  have q2 := mbc (a := pY P i - pY P j) (b := pY P i - pY P j) 1200 1200 1440000 (by omega) (by omega) (by omega) (by omega) (by decide)
  have r1 := ssq (pX P i - pX P j)
  have r2 := ssq (pY P i - pY P j)
  unfold sq; omega

set_option maxHeartbeats 4000000 in
set_option maxRecDepth 100000 in
theorem c_R_squareBetween (l : Launch) {D : va_G} {cI cR : ClassId} {L : List Nat} {f : Nat → va_E} {rx ry : Nat → Nat} {a : Nat} {P : List Pt} (ho : ro L rx ry a) (hr : rowIs cI rx ry f a P) {i : Int} (hi : 0 ≤ i ∧ i ≤ 100) {j : Int} (hj : 0 ≤ j ∧ j ≤ 100) : gMi D cI cR l y_R_squareBetween (Cond.code y_R_squareBetween b_R_squareBetween 5 (some .int) :: lw_g) { frames := 1, cells := 0, slots := 0, locals := 21 } [.ref a, .int (iN (i)), .int (iN (j))] L f (fun r u => r = iN (sq P i j) ∧ u = (L, f)) := by
  intro sz
  refine g_enter (by decide) rfl (Nat.le_of_ble_eq_true rfl) ?_
  intro p e s m below meth cd ls X hrt hlk hnm hl hsz w
  have X : gx p m cd b_R_squareBetween 5 s _ "HullSums$Row" D cI cR := X
  have hx := X.1.1
  have hb := X.1.2.1
  have hl : lv_has ls 5 [(0, .ref a), (1, .int (iN (i))), (2, .int (iN (j)))] := hl
  have hn48 := hr.1
  refine lv_aload_n hx hb d_R_squareBetween_0 rfl (lv_at hl 0 rfl) ?_
  refine lv_iload_n hx hb d_R_squareBetween_1 rfl (lv_at hl 1 rfl) ?_
  refine g_ci w (g_runV (As := [.int (iN (i))]) (rest := []) X w (c_R_x l ho hr (by unfold i3; omega)) k_R_x v_R_x lk_R_22 ho.1 hr.2.1 rfl ⟨(Nat.le_of_ble_eq_true rfl), (Nat.le_of_ble_eq_true rfl)⟩ rfl hl.1 rfl (Nat.le_of_ble_eq_true rfl) d_R_squareBetween_2 ⟨Nat.zero_le _, Nat.zero_le _⟩) (fun r u H locs hp w => ?_)
  obtain ⟨rfl, rfl⟩ := hp
  have w : gw D (gA L sz) s.heap H locs L f := w
  refine lv_aload_n hx hb d_R_squareBetween_5 rfl (lv_at hl 0 rfl) ?_
  refine lv_iload_n hx hb d_R_squareBetween_6 rfl (lv_at hl 2 rfl) ?_
  refine g_ci w (g_runV (As := [.int (iN (j))]) (rest := [.int (iN ((pX P i)))]) X w (c_R_x l ho hr (by unfold i3; omega)) k_R_x v_R_x lk_R_22 ho.1 hr.2.1 rfl ⟨(Nat.le_of_ble_eq_true rfl), (Nat.le_of_ble_eq_true rfl)⟩ rfl hl.1 rfl (Nat.le_of_ble_eq_true rfl) d_R_squareBetween_7 ⟨Nat.zero_le _, Nat.zero_le _⟩) (fun r u H locs hp w => ?_)
  obtain ⟨rfl, rfl⟩ := hp
  have w : gw D (gA L sz) s.heap H locs L f := w
  refine ri_sub (a := (pX P i)) (b := (pX P j)) hx hb d_R_squareBetween_10 rfl rfl ?_
  refine lv_istore_n (lv' := [(3, .int (iN (((pX P i) - (pX P j))))), (0, .ref a), (1, .int (iN (i))), (2, .int (iN (j)))]) hx hb d_R_squareBetween_11 rfl hl (by decide) rfl (fun ls hl => ?_)
  refine lv_aload_n hx hb d_R_squareBetween_12 rfl (lv_at hl 1 rfl) ?_
  refine lv_iload_n hx hb d_R_squareBetween_13 rfl (lv_at hl 2 rfl) ?_
  refine g_ci w (g_runV (As := [.int (iN (i))]) (rest := []) X w (c_R_y l ho hr (by unfold i3; omega)) k_R_y v_R_y lk_R_26 ho.1 hr.2.1 rfl ⟨(Nat.le_of_ble_eq_true rfl), (Nat.le_of_ble_eq_true rfl)⟩ rfl hl.1 rfl (Nat.le_of_ble_eq_true rfl) d_R_squareBetween_14 ⟨Nat.zero_le _, Nat.zero_le _⟩) (fun r u H locs hp w => ?_)
  obtain ⟨rfl, rfl⟩ := hp
  have w : gw D (gA L sz) s.heap H locs L f := w
  refine lv_aload_n hx hb d_R_squareBetween_17 rfl (lv_at hl 1 rfl) ?_
  refine lv_iload_n hx hb d_R_squareBetween_18 rfl (lv_at hl 3 rfl) ?_
  refine g_ci w (g_runV (As := [.int (iN (j))]) (rest := [.int (iN ((pY P i)))]) X w (c_R_y l ho hr (by unfold i3; omega)) k_R_y v_R_y lk_R_26 ho.1 hr.2.1 rfl ⟨(Nat.le_of_ble_eq_true rfl), (Nat.le_of_ble_eq_true rfl)⟩ rfl hl.1 rfl (Nat.le_of_ble_eq_true rfl) d_R_squareBetween_19 ⟨Nat.zero_le _, Nat.zero_le _⟩) (fun r u H locs hp w => ?_)
  obtain ⟨rfl, rfl⟩ := hp
  have w : gw D (gA L sz) s.heap H locs L f := w
  refine ri_sub (a := (pY P i)) (b := (pY P j)) hx hb d_R_squareBetween_22 rfl rfl ?_
  refine lv_istore (lv' := [(4, .int (iN (((pY P i) - (pY P j))))), (3, .int (iN (((pX P i) - (pX P j))))), (0, .ref a), (1, .int (iN (i))), (2, .int (iN (j)))]) hx hb d_R_squareBetween_23 hl (by decide) rfl (fun ls hl => ?_)
  refine lv_iload_n hx hb d_R_squareBetween_25 rfl (lv_at hl 1 rfl) ?_
  refine lv_iload_n hx hb d_R_squareBetween_26 rfl (lv_at hl 1 rfl) ?_
  refine ri_mul (a := ((pX P i) - (pX P j))) (b := ((pX P i) - (pX P j))) hx hb d_R_squareBetween_27 rfl rfl ?_
  refine lv_iload hx hb d_R_squareBetween_28 (lv_at hl 0 rfl) ?_
  refine lv_iload hx hb d_R_squareBetween_30 (lv_at hl 0 rfl) ?_
  refine ri_mul (a := ((pY P i) - (pY P j))) (b := ((pY P i) - (pY P j))) hx hb d_R_squareBetween_32 rfl rfl ?_
  refine ri_add (a := (((pX P i) - (pX P j)) * ((pX P i) - (pX P j)))) (b := (((pY P i) - (pY P j)) * ((pY P i) - (pY P j)))) hx hb d_R_squareBetween_33 rfl rfl ?_
  exact g_iret X w hrt hlk d_R_squareBetween_34 ⟨rfl, rfl⟩
set_option maxHeartbeats 4000000 in
set_option maxRecDepth 100000 in
theorem c_R_squareFromZero (l : Launch) {D : va_G} {cI cR : ClassId} {L : List Nat} {f : Nat → va_E} {rx ry : Nat → Nat} {a : Nat} {P : List Pt} (ho : ro L rx ry a) (hr : rowIs cI rx ry f a P) {i : Int} (hi : 0 ≤ i ∧ i ≤ 100) : gMi D cI cR l y_R_squareFromZero (Cond.code y_R_squareFromZero b_R_squareFromZero 2 (some .int) :: lw_g) { frames := 1, cells := 0, slots := 0, locals := 21 } [.ref a, .int (iN (i))] L f (fun r u => r = iN (pX P i * pX P i + pY P i * pY P i) ∧ u = (L, f)) := by
  intro sz
  refine g_enter (by decide) rfl (Nat.le_of_ble_eq_true rfl) ?_
  intro p e s m below meth cd ls X hrt hlk hnm hl hsz w
  have X : gx p m cd b_R_squareFromZero 2 s _ "HullSums$Row" D cI cR := X
  have hx := X.1.1
  have hb := X.1.2.1
  have hl : lv_has ls 2 [(0, .ref a), (1, .int (iN (i)))] := hl
  have hn48 := hr.1
  refine lv_aload_n hx hb d_R_squareFromZero_0 rfl (lv_at hl 0 rfl) ?_
  refine lv_iload_n hx hb d_R_squareFromZero_1 rfl (lv_at hl 1 rfl) ?_
  refine g_ci w (g_runV (As := [.int (iN (i))]) (rest := []) X w (c_R_x l ho hr (by unfold i3; omega)) k_R_x v_R_x lk_R_22 ho.1 hr.2.1 rfl ⟨(Nat.le_of_ble_eq_true rfl), (Nat.le_of_ble_eq_true rfl)⟩ rfl hl.1 rfl (Nat.le_of_ble_eq_true rfl) d_R_squareFromZero_2 ⟨Nat.zero_le _, Nat.zero_le _⟩) (fun r u H locs hp w => ?_)
  obtain ⟨rfl, rfl⟩ := hp
  have w : gw D (gA L sz) s.heap H locs L f := w
  refine lv_aload_n hx hb d_R_squareFromZero_5 rfl (lv_at hl 0 rfl) ?_
  refine lv_iload_n hx hb d_R_squareFromZero_6 rfl (lv_at hl 1 rfl) ?_
  refine g_ci w (g_runV (As := [.int (iN (i))]) (rest := [.int (iN ((pX P i)))]) X w (c_R_x l ho hr (by unfold i3; omega)) k_R_x v_R_x lk_R_22 ho.1 hr.2.1 rfl ⟨(Nat.le_of_ble_eq_true rfl), (Nat.le_of_ble_eq_true rfl)⟩ rfl hl.1 rfl (Nat.le_of_ble_eq_true rfl) d_R_squareFromZero_7 ⟨Nat.zero_le _, Nat.zero_le _⟩) (fun r u H locs hp w => ?_)
  obtain ⟨rfl, rfl⟩ := hp
  have w : gw D (gA L sz) s.heap H locs L f := w
  refine ri_mul (a := (pX P i)) (b := (pX P i)) hx hb d_R_squareFromZero_10 rfl rfl ?_
  refine lv_aload_n hx hb d_R_squareFromZero_11 rfl (lv_at hl 0 rfl) ?_
  refine lv_iload_n hx hb d_R_squareFromZero_12 rfl (lv_at hl 1 rfl) ?_
  refine g_ci w (g_runV (As := [.int (iN (i))]) (rest := [.int (iN (((pX P i) * (pX P i))))]) X w (c_R_y l ho hr (by unfold i3; omega)) k_R_y v_R_y lk_R_26 ho.1 hr.2.1 rfl ⟨(Nat.le_of_ble_eq_true rfl), (Nat.le_of_ble_eq_true rfl)⟩ rfl hl.1 rfl (Nat.le_of_ble_eq_true rfl) d_R_squareFromZero_13 ⟨Nat.zero_le _, Nat.zero_le _⟩) (fun r u H locs hp w => ?_)
  obtain ⟨rfl, rfl⟩ := hp
  have w : gw D (gA L sz) s.heap H locs L f := w
  refine lv_aload_n hx hb d_R_squareFromZero_16 rfl (lv_at hl 0 rfl) ?_
  refine lv_iload_n hx hb d_R_squareFromZero_17 rfl (lv_at hl 1 rfl) ?_
  refine g_ci w (g_runV (As := [.int (iN (i))]) (rest := [.int (iN ((pY P i))), .int (iN (((pX P i) * (pX P i))))]) X w (c_R_y l ho hr (by unfold i3; omega)) k_R_y v_R_y lk_R_26 ho.1 hr.2.1 rfl ⟨(Nat.le_of_ble_eq_true rfl), (Nat.le_of_ble_eq_true rfl)⟩ rfl hl.1 rfl (Nat.le_of_ble_eq_true rfl) d_R_squareFromZero_18 ⟨Nat.zero_le _, Nat.zero_le _⟩) (fun r u H locs hp w => ?_)
  obtain ⟨rfl, rfl⟩ := hp
  have w : gw D (gA L sz) s.heap H locs L f := w
  refine ri_mul (a := (pY P i)) (b := (pY P i)) hx hb d_R_squareFromZero_21 rfl rfl ?_
  refine ri_add (a := ((pX P i) * (pX P i))) (b := ((pY P i) * (pY P i))) hx hb d_R_squareFromZero_22 rfl rfl ?_
  exact g_iret X w hrt hlk d_R_squareFromZero_23 ⟨rfl, rfl⟩
set_option maxHeartbeats 4000000 in
set_option maxRecDepth 100000 in
theorem c_R_turn (l : Launch) {D : va_G} {cI cR : ClassId} {L : List Nat} {f : Nat → va_E} {rx ry : Nat → Nat} {a : Nat} {P : List Pt} (ho : ro L rx ry a) (hr : rowIs cI rx ry f a P) {x y : Int} {i : Int} (hi : 0 ≤ i ∧ i ≤ 100) {j : Int} (hj : 0 ≤ j ∧ j ≤ 100) : gMi D cI cR l y_R_turn (Cond.code y_R_turn b_R_turn 5 (some .int) :: lw_g) { frames := 1, cells := 0, slots := 0, locals := 21 } [.ref a, .int (iN (i)), .int (iN (j)), .int (iN (x)), .int (iN (y))] L f (fun r u => r = iN (pT P i j x y) ∧ u = (L, f)) := by
  intro sz
  refine g_enter (by decide) rfl (Nat.le_of_ble_eq_true rfl) ?_
  intro p e s m below meth cd ls X hrt hlk hnm hl hsz w
  have X : gx p m cd b_R_turn 5 s _ "HullSums$Row" D cI cR := X
  have hx := X.1.1
  have hb := X.1.2.1
  have hl : lv_has ls 5 [(0, .ref a), (1, .int (iN (i))), (2, .int (iN (j))), (3, .int (iN (x))), (4, .int (iN (y)))] := hl
  have hn48 := hr.1
  refine lv_aload_n hx hb d_R_turn_0 rfl (lv_at hl 0 rfl) ?_
  refine lv_iload_n hx hb d_R_turn_1 rfl (lv_at hl 2 rfl) ?_
  refine g_ci w (g_runV (As := [.int (iN (j))]) (rest := []) X w (c_R_x l ho hr (by unfold i3; omega)) k_R_x v_R_x lk_R_22 ho.1 hr.2.1 rfl ⟨(Nat.le_of_ble_eq_true rfl), (Nat.le_of_ble_eq_true rfl)⟩ rfl hl.1 rfl (Nat.le_of_ble_eq_true rfl) d_R_turn_2 ⟨Nat.zero_le _, Nat.zero_le _⟩) (fun r u H locs hp w => ?_)
  obtain ⟨rfl, rfl⟩ := hp
  have w : gw D (gA L sz) s.heap H locs L f := w
  refine lv_aload_n hx hb d_R_turn_5 rfl (lv_at hl 0 rfl) ?_
  refine lv_iload_n hx hb d_R_turn_6 rfl (lv_at hl 1 rfl) ?_
  refine g_ci w (g_runV (As := [.int (iN (i))]) (rest := [.int (iN ((pX P j)))]) X w (c_R_x l ho hr (by unfold i3; omega)) k_R_x v_R_x lk_R_22 ho.1 hr.2.1 rfl ⟨(Nat.le_of_ble_eq_true rfl), (Nat.le_of_ble_eq_true rfl)⟩ rfl hl.1 rfl (Nat.le_of_ble_eq_true rfl) d_R_turn_7 ⟨Nat.zero_le _, Nat.zero_le _⟩) (fun r u H locs hp w => ?_)
  obtain ⟨rfl, rfl⟩ := hp
  have w : gw D (gA L sz) s.heap H locs L f := w
  refine ri_sub (a := (pX P j)) (b := (pX P i)) hx hb d_R_turn_10 rfl rfl ?_
  refine lv_iload hx hb d_R_turn_11 (lv_at hl 4 rfl) ?_
  refine lv_aload_n hx hb d_R_turn_13 rfl (lv_at hl 0 rfl) ?_
  refine lv_iload_n hx hb d_R_turn_14 rfl (lv_at hl 1 rfl) ?_
  refine g_ci w (g_runV (As := [.int (iN (i))]) (rest := [.int (iN (y)), .int (iN (((pX P j) - (pX P i))))]) X w (c_R_y l ho hr (by unfold i3; omega)) k_R_y v_R_y lk_R_26 ho.1 hr.2.1 rfl ⟨(Nat.le_of_ble_eq_true rfl), (Nat.le_of_ble_eq_true rfl)⟩ rfl hl.1 rfl (Nat.le_of_ble_eq_true rfl) d_R_turn_15 ⟨Nat.zero_le _, Nat.zero_le _⟩) (fun r u H locs hp w => ?_)
  obtain ⟨rfl, rfl⟩ := hp
  have w : gw D (gA L sz) s.heap H locs L f := w
  refine ri_sub (a := y) (b := (pY P i)) hx hb d_R_turn_18 rfl rfl ?_
  refine ri_mul (a := ((pX P j) - (pX P i))) (b := (y - (pY P i))) hx hb d_R_turn_19 rfl rfl ?_
  refine lv_aload_n hx hb d_R_turn_20 rfl (lv_at hl 0 rfl) ?_
  refine lv_iload_n hx hb d_R_turn_21 rfl (lv_at hl 2 rfl) ?_
  refine g_ci w (g_runV (As := [.int (iN (j))]) (rest := [.int (iN ((((pX P j) - (pX P i)) * (y - (pY P i)))))]) X w (c_R_y l ho hr (by unfold i3; omega)) k_R_y v_R_y lk_R_26 ho.1 hr.2.1 rfl ⟨(Nat.le_of_ble_eq_true rfl), (Nat.le_of_ble_eq_true rfl)⟩ rfl hl.1 rfl (Nat.le_of_ble_eq_true rfl) d_R_turn_22 ⟨Nat.zero_le _, Nat.zero_le _⟩) (fun r u H locs hp w => ?_)
  obtain ⟨rfl, rfl⟩ := hp
  have w : gw D (gA L sz) s.heap H locs L f := w
  refine lv_aload_n hx hb d_R_turn_25 rfl (lv_at hl 0 rfl) ?_
  refine lv_iload_n hx hb d_R_turn_26 rfl (lv_at hl 1 rfl) ?_
  refine g_ci w (g_runV (As := [.int (iN (i))]) (rest := [.int (iN ((pY P j))), .int (iN ((((pX P j) - (pX P i)) * (y - (pY P i)))))]) X w (c_R_y l ho hr (by unfold i3; omega)) k_R_y v_R_y lk_R_26 ho.1 hr.2.1 rfl ⟨(Nat.le_of_ble_eq_true rfl), (Nat.le_of_ble_eq_true rfl)⟩ rfl hl.1 rfl (Nat.le_of_ble_eq_true rfl) d_R_turn_27 ⟨Nat.zero_le _, Nat.zero_le _⟩) (fun r u H locs hp w => ?_)
  obtain ⟨rfl, rfl⟩ := hp
  have w : gw D (gA L sz) s.heap H locs L f := w
  refine ri_sub (a := (pY P j)) (b := (pY P i)) hx hb d_R_turn_30 rfl rfl ?_
  refine lv_iload_n hx hb d_R_turn_31 rfl (lv_at hl 3 rfl) ?_
  refine lv_aload_n hx hb d_R_turn_32 rfl (lv_at hl 0 rfl) ?_
  refine lv_iload_n hx hb d_R_turn_33 rfl (lv_at hl 1 rfl) ?_
  refine g_ci w (g_runV (As := [.int (iN (i))]) (rest := [.int (iN (x)), .int (iN (((pY P j) - (pY P i)))), .int (iN ((((pX P j) - (pX P i)) * (y - (pY P i)))))]) X w (c_R_x l ho hr (by unfold i3; omega)) k_R_x v_R_x lk_R_22 ho.1 hr.2.1 rfl ⟨(Nat.le_of_ble_eq_true rfl), (Nat.le_of_ble_eq_true rfl)⟩ rfl hl.1 rfl (Nat.le_of_ble_eq_true rfl) d_R_turn_34 ⟨Nat.zero_le _, Nat.zero_le _⟩) (fun r u H locs hp w => ?_)
  obtain ⟨rfl, rfl⟩ := hp
  have w : gw D (gA L sz) s.heap H locs L f := w
  refine ri_sub (a := x) (b := (pX P i)) hx hb d_R_turn_37 rfl rfl ?_
  refine ri_mul (a := ((pY P j) - (pY P i))) (b := (x - (pX P i))) hx hb d_R_turn_38 rfl rfl ?_
  refine ri_sub (a := (((pX P j) - (pX P i)) * (y - (pY P i)))) (b := (((pY P j) - (pY P i)) * (x - (pX P i)))) hx hb d_R_turn_39 rfl rfl ?_
  exact g_iret X w hrt hlk d_R_turn_40 ⟨rfl, rfl⟩
set_option maxHeartbeats 4000000 in
set_option maxRecDepth 100000 in
theorem c_R_sides (l : Launch) {D : va_G} {cI cR : ClassId} {L : List Nat} {f : Nat → va_E} {rx ry : Nat → Nat} {a : Nat} {P : List Pt} (ho : ro L rx ry a) (hr : rowIs cI rx ry f a P) : gMi D cI cR l y_R_sides (Cond.code y_R_sides b_R_sides 1 (some .int) :: lw_g) { frames := 0, cells := 0, slots := 0, locals := 0 } [.ref a] L f (fun r u => r = iN (sd P) ∧ u = (L, f)) := by
  intro sz
  refine g_enter (by decide) rfl (Nat.le_of_ble_eq_true rfl) ?_
  intro p e s m below meth cd ls X hrt hlk hnm hl hsz w
  have X : gx p m cd b_R_sides 1 s _ "HullSums$Row" D cI cR := X
  have hx := X.1.1
  have hb := X.1.2.1
  have hl : lv_has ls 1 [(0, .ref a)] := hl
  have hn48 := hr.1
  refine lv_aload_n hx hb d_R_sides_0 rfl (lv_at hl 0 rfl) ?_
  refine gk_get X w ho.1 hr.2.1 rfl in_R 2 (by decide) lk_R_18 rfl d_R_sides_1 ?_
  refine lv_iconst (v := iN (2)) hx hb d_R_sides_4 (by decide) ?_
  refine ri_cge (a := (P.length : Int)) (b := 2) (tgt := 12) hx hb d_R_sides_5 (by decide) rfl rfl (by have := hr.1; unfold i3; omega) (by unfold i3; omega) (fun c5 => ?_) (fun c5 => ?_)
  · skip
    refine lv_aload_n hx hb d_R_sides_12 rfl (lv_at hl 0 rfl) ?_
    refine gk_get X w ho.1 hr.2.1 rfl in_R 2 (by decide) lk_R_18 rfl d_R_sides_13 ?_
    exact g_iret X w hrt hlk d_R_sides_16 ⟨by unfold sd; rw [if_neg (by omega)], rfl⟩
  · skip
    refine lv_iconst (v := iN (0)) hx hb d_R_sides_8 (by decide) ?_
    refine lv_goto (tgt := 16) hx hb d_R_sides_9 (by decide) ?_
    exact g_iret X w hrt hlk d_R_sides_16 ⟨by unfold sd; rw [if_pos (by omega)], rfl⟩
set_option maxHeartbeats 4000000 in
set_option maxRecDepth 100000 in
theorem c_R_next (l : Launch) {D : va_G} {cI cR : ClassId} {L : List Nat} {f : Nat → va_E} {rx ry : Nat → Nat} {a : Nat} {P : List Pt} (ho : ro L rx ry a) (hr : rowIs cI rx ry f a P) {i : Int} (hi : 0 ≤ i ∧ i ≤ 100) : gMi D cI cR l y_R_next (Cond.code y_R_next b_R_next 2 (some .int) :: lw_g) { frames := 0, cells := 0, slots := 0, locals := 0 } [.ref a, .int (iN (i))] L f (fun r u => r = iN (nx P i) ∧ u = (L, f)) := by
  intro sz
  refine g_enter (by decide) rfl (Nat.le_of_ble_eq_true rfl) ?_
  intro p e s m below meth cd ls X hrt hlk hnm hl hsz w
  have X : gx p m cd b_R_next 2 s _ "HullSums$Row" D cI cR := X
  have hx := X.1.1
  have hb := X.1.2.1
  have hl : lv_has ls 2 [(0, .ref a), (1, .int (iN (i)))] := hl
  have hn48 := hr.1
  refine lv_iload_n hx hb d_R_next_0 rfl (lv_at hl 1 rfl) ?_
  refine lv_iconst (v := iN (1)) hx hb d_R_next_1 (by decide) ?_
  refine ri_add (a := i) (b := 1) hx hb d_R_next_2 rfl rfl ?_
  refine lv_aload_n hx hb d_R_next_3 rfl (lv_at hl 0 rfl) ?_
  refine gk_get X w ho.1 hr.2.1 rfl in_R 2 (by decide) lk_R_18 rfl d_R_next_4 ?_
  refine ri_cge (a := (i + 1)) (b := (P.length : Int)) (tgt := 16) hx hb d_R_next_7 (by decide) rfl rfl (by have := hr.1; unfold i3; omega) (by have := hr.1; unfold i3; omega) (fun c7 => ?_) (fun c7 => ?_)
  · skip
    refine lv_iconst (v := iN (0)) hx hb d_R_next_16 (by decide) ?_
    exact g_iret X w hrt hlk d_R_next_17 ⟨by unfold nx; rw [if_neg (by omega)], rfl⟩
  · skip
    refine lv_iload_n hx hb d_R_next_10 rfl (lv_at hl 1 rfl) ?_
    refine lv_iconst (v := iN (1)) hx hb d_R_next_11 (by decide) ?_
    refine ri_add (a := i) (b := 1) hx hb d_R_next_12 rfl rfl ?_
    refine lv_goto (tgt := 17) hx hb d_R_next_13 (by decide) ?_
    exact g_iret X w hrt hlk d_R_next_17 ⟨by unfold nx; rw [if_pos (by omega)], rfl⟩
set_option maxHeartbeats 4000000 in
set_option maxRecDepth 100000 in
theorem c_R_sideX (l : Launch) {D : va_G} {cI cR : ClassId} {L : List Nat} {f : Nat → va_E} {rx ry : Nat → Nat} {a : Nat} {P : List Pt} (ho : ro L rx ry a) (hr : rowIs cI rx ry f a P) {i : Int} (hi : 0 ≤ i ∧ i ≤ 100) : gMi D cI cR l y_R_sideX (Cond.code y_R_sideX b_R_sideX 2 (some .int) :: lw_g) { frames := 1, cells := 0, slots := 0, locals := 21 } [.ref a, .int (iN (i))] L f (fun r u => r = iN (pX P (nx P i) - pX P i) ∧ u = (L, f)) := by
  intro sz
  refine g_enter (by decide) rfl (Nat.le_of_ble_eq_true rfl) ?_
  intro p e s m below meth cd ls X hrt hlk hnm hl hsz w
  have X : gx p m cd b_R_sideX 2 s _ "HullSums$Row" D cI cR := X
  have hx := X.1.1
  have hb := X.1.2.1
  have hl : lv_has ls 2 [(0, .ref a), (1, .int (iN (i)))] := hl
  have hn48 := hr.1
  refine lv_aload_n hx hb d_R_sideX_0 rfl (lv_at hl 0 rfl) ?_
  refine lv_aload_n hx hb d_R_sideX_1 rfl (lv_at hl 0 rfl) ?_
  refine lv_iload_n hx hb d_R_sideX_2 rfl (lv_at hl 1 rfl) ?_
  refine g_ci w (g_runV (As := [.int (iN (i))]) (rest := [.ref a]) X w (c_R_next l ho hr (by omega)) k_R_next v_R_next lk_R_57 ho.1 hr.2.1 rfl ⟨(Nat.le_of_ble_eq_true rfl), (Nat.le_of_ble_eq_true rfl)⟩ rfl hl.1 rfl (Nat.le_of_ble_eq_true rfl) d_R_sideX_3 ⟨Nat.zero_le _, Nat.zero_le _⟩) (fun r u H locs hp w => ?_)
  obtain ⟨rfl, rfl⟩ := hp
  have w : gw D (gA L sz) s.heap H locs L f := w
  refine g_ci w (g_runV (As := [.int (iN ((nx P i)))]) (rest := []) X w (c_R_x l ho hr (by have := nx_3 (P := P) hi.1 hi.2; unfold i3; omega)) k_R_x v_R_x lk_R_22 ho.1 hr.2.1 rfl ⟨(Nat.le_of_ble_eq_true rfl), (Nat.le_of_ble_eq_true rfl)⟩ rfl hl.1 rfl (Nat.le_of_ble_eq_true rfl) d_R_sideX_6 ⟨Nat.zero_le _, Nat.zero_le _⟩) (fun r u H locs hp w => ?_)
  obtain ⟨rfl, rfl⟩ := hp
  have w : gw D (gA L sz) s.heap H locs L f := w
  refine lv_aload_n hx hb d_R_sideX_9 rfl (lv_at hl 0 rfl) ?_
  refine lv_iload_n hx hb d_R_sideX_10 rfl (lv_at hl 1 rfl) ?_
  refine g_ci w (g_runV (As := [.int (iN (i))]) (rest := [.int (iN ((pX P (nx P i))))]) X w (c_R_x l ho hr (by unfold i3; omega)) k_R_x v_R_x lk_R_22 ho.1 hr.2.1 rfl ⟨(Nat.le_of_ble_eq_true rfl), (Nat.le_of_ble_eq_true rfl)⟩ rfl hl.1 rfl (Nat.le_of_ble_eq_true rfl) d_R_sideX_11 ⟨Nat.zero_le _, Nat.zero_le _⟩) (fun r u H locs hp w => ?_)
  obtain ⟨rfl, rfl⟩ := hp
  have w : gw D (gA L sz) s.heap H locs L f := w
  refine ri_sub (a := (pX P (nx P i))) (b := (pX P i)) hx hb d_R_sideX_14 rfl rfl ?_
  exact g_iret X w hrt hlk d_R_sideX_15 ⟨rfl, rfl⟩
set_option maxHeartbeats 4000000 in
set_option maxRecDepth 100000 in
theorem c_R_sideY (l : Launch) {D : va_G} {cI cR : ClassId} {L : List Nat} {f : Nat → va_E} {rx ry : Nat → Nat} {a : Nat} {P : List Pt} (ho : ro L rx ry a) (hr : rowIs cI rx ry f a P) {i : Int} (hi : 0 ≤ i ∧ i ≤ 100) : gMi D cI cR l y_R_sideY (Cond.code y_R_sideY b_R_sideY 2 (some .int) :: lw_g) { frames := 1, cells := 0, slots := 0, locals := 21 } [.ref a, .int (iN (i))] L f (fun r u => r = iN (pY P (nx P i) - pY P i) ∧ u = (L, f)) := by
  intro sz
  refine g_enter (by decide) rfl (Nat.le_of_ble_eq_true rfl) ?_
  intro p e s m below meth cd ls X hrt hlk hnm hl hsz w
  have X : gx p m cd b_R_sideY 2 s _ "HullSums$Row" D cI cR := X
  have hx := X.1.1
  have hb := X.1.2.1
  have hl : lv_has ls 2 [(0, .ref a), (1, .int (iN (i)))] := hl
  have hn48 := hr.1
  refine lv_aload_n hx hb d_R_sideY_0 rfl (lv_at hl 0 rfl) ?_
  refine lv_aload_n hx hb d_R_sideY_1 rfl (lv_at hl 0 rfl) ?_
  refine lv_iload_n hx hb d_R_sideY_2 rfl (lv_at hl 1 rfl) ?_
  refine g_ci w (g_runV (As := [.int (iN (i))]) (rest := [.ref a]) X w (c_R_next l ho hr (by omega)) k_R_next v_R_next lk_R_57 ho.1 hr.2.1 rfl ⟨(Nat.le_of_ble_eq_true rfl), (Nat.le_of_ble_eq_true rfl)⟩ rfl hl.1 rfl (Nat.le_of_ble_eq_true rfl) d_R_sideY_3 ⟨Nat.zero_le _, Nat.zero_le _⟩) (fun r u H locs hp w => ?_)
  obtain ⟨rfl, rfl⟩ := hp
  have w : gw D (gA L sz) s.heap H locs L f := w
  refine g_ci w (g_runV (As := [.int (iN ((nx P i)))]) (rest := []) X w (c_R_y l ho hr (by have := nx_3 (P := P) hi.1 hi.2; unfold i3; omega)) k_R_y v_R_y lk_R_26 ho.1 hr.2.1 rfl ⟨(Nat.le_of_ble_eq_true rfl), (Nat.le_of_ble_eq_true rfl)⟩ rfl hl.1 rfl (Nat.le_of_ble_eq_true rfl) d_R_sideY_6 ⟨Nat.zero_le _, Nat.zero_le _⟩) (fun r u H locs hp w => ?_)
  obtain ⟨rfl, rfl⟩ := hp
  have w : gw D (gA L sz) s.heap H locs L f := w
  refine lv_aload_n hx hb d_R_sideY_9 rfl (lv_at hl 0 rfl) ?_
  refine lv_iload_n hx hb d_R_sideY_10 rfl (lv_at hl 1 rfl) ?_
  refine g_ci w (g_runV (As := [.int (iN (i))]) (rest := [.int (iN ((pY P (nx P i))))]) X w (c_R_y l ho hr (by unfold i3; omega)) k_R_y v_R_y lk_R_26 ho.1 hr.2.1 rfl ⟨(Nat.le_of_ble_eq_true rfl), (Nat.le_of_ble_eq_true rfl)⟩ rfl hl.1 rfl (Nat.le_of_ble_eq_true rfl) d_R_sideY_11 ⟨Nat.zero_le _, Nat.zero_le _⟩) (fun r u H locs hp w => ?_)
  obtain ⟨rfl, rfl⟩ := hp
  have w : gw D (gA L sz) s.heap H locs L f := w
  refine ri_sub (a := (pY P (nx P i))) (b := (pY P i)) hx hb d_R_sideY_14 rfl rfl ?_
  exact g_iret X w hrt hlk d_R_sideY_15 ⟨rfl, rfl⟩
set_option maxHeartbeats 4000000 in
set_option maxRecDepth 100000 in
theorem c_R_squareOfSide (l : Launch) {D : va_G} {cI cR : ClassId} {L : List Nat} {f : Nat → va_E} {rx ry : Nat → Nat} {a : Nat} {P : List Pt} (ho : ro L rx ry a) (hr : rowIs cI rx ry f a P) {i : Int} (hi : 0 ≤ i ∧ i ≤ 100) : gMi D cI cR l y_R_squareOfSide (Cond.code y_R_squareOfSide b_R_squareOfSide 2 (some .int) :: lw_g) { frames := 2, cells := 0, slots := 0, locals := 45 } [.ref a, .int (iN (i))] L f (fun r u => r = iN (sq P i (nx P i)) ∧ u = (L, f)) := by
  intro sz
  refine g_enter (by decide) rfl (Nat.le_of_ble_eq_true rfl) ?_
  intro p e s m below meth cd ls X hrt hlk hnm hl hsz w
  have X : gx p m cd b_R_squareOfSide 2 s _ "HullSums$Row" D cI cR := X
  have hx := X.1.1
  have hb := X.1.2.1
  have hl : lv_has ls 2 [(0, .ref a), (1, .int (iN (i)))] := hl
  have hn48 := hr.1
  refine lv_aload_n hx hb d_R_squareOfSide_0 rfl (lv_at hl 0 rfl) ?_
  refine lv_iload_n hx hb d_R_squareOfSide_1 rfl (lv_at hl 1 rfl) ?_
  refine lv_aload_n hx hb d_R_squareOfSide_2 rfl (lv_at hl 0 rfl) ?_
  refine lv_iload_n hx hb d_R_squareOfSide_3 rfl (lv_at hl 1 rfl) ?_
  refine g_ci w (g_runV (As := [.int (iN (i))]) (rest := [.int (iN (i)), .ref a]) X w (c_R_next l ho hr (by omega)) k_R_next v_R_next lk_R_57 ho.1 hr.2.1 rfl ⟨(Nat.le_of_ble_eq_true rfl), (Nat.le_of_ble_eq_true rfl)⟩ rfl hl.1 rfl (Nat.le_of_ble_eq_true rfl) d_R_squareOfSide_4 ⟨Nat.zero_le _, Nat.zero_le _⟩) (fun r u H locs hp w => ?_)
  obtain ⟨rfl, rfl⟩ := hp
  have w : gw D (gA L sz) s.heap H locs L f := w
  refine g_ci w (g_runV (As := [.int (iN (i)), .int (iN ((nx P i)))]) (rest := []) X w (c_R_squareBetween l ho hr (by omega) (nx_4 hr.1 hi)) k_R_squareBetween v_R_squareBetween lk_R_60 ho.1 hr.2.1 rfl ⟨(Nat.le_of_ble_eq_true rfl), (Nat.le_of_ble_eq_true rfl)⟩ rfl hl.1 rfl (Nat.le_of_ble_eq_true rfl) d_R_squareOfSide_7 ⟨Nat.zero_le _, Nat.zero_le _⟩) (fun r u H locs hp w => ?_)
  obtain ⟨rfl, rfl⟩ := hp
  have w : gw D (gA L sz) s.heap H locs L f := w
  exact g_iret X w hrt hlk d_R_squareOfSide_10 ⟨rfl, rfl⟩
set_option maxHeartbeats 4000000 in
set_option maxRecDepth 100000 in
theorem c_R_offSide (l : Launch) {D : va_G} {cI cR : ClassId} {L : List Nat} {f : Nat → va_E} {rx ry : Nat → Nat} {a : Nat} {P : List Pt} (ho : ro L rx ry a) (hr : rowIs cI rx ry f a P) {x y : Int} {i : Int} (hi : 0 ≤ i ∧ i ≤ 100) : gMi D cI cR l y_R_offSide (Cond.code y_R_offSide b_R_offSide 4 (some .int) :: lw_g) { frames := 2, cells := 0, slots := 0, locals := 45 } [.ref a, .int (iN (i)), .int (iN (x)), .int (iN (y))] L f (fun r u => r = iN (off P i x y) ∧ u = (L, f)) := by
  intro sz
  refine g_enter (by decide) rfl (Nat.le_of_ble_eq_true rfl) ?_
  intro p e s m below meth cd ls X hrt hlk hnm hl hsz w
  have X : gx p m cd b_R_offSide 4 s _ "HullSums$Row" D cI cR := X
  have hx := X.1.1
  have hb := X.1.2.1
  have hl : lv_has ls 4 [(0, .ref a), (1, .int (iN (i))), (2, .int (iN (x))), (3, .int (iN (y)))] := hl
  have hn48 := hr.1
  refine lv_aload_n hx hb d_R_offSide_0 rfl (lv_at hl 0 rfl) ?_
  refine lv_iload_n hx hb d_R_offSide_1 rfl (lv_at hl 1 rfl) ?_
  refine lv_aload_n hx hb d_R_offSide_2 rfl (lv_at hl 0 rfl) ?_
  refine lv_iload_n hx hb d_R_offSide_3 rfl (lv_at hl 1 rfl) ?_
  refine g_ci w (g_runV (As := [.int (iN (i))]) (rest := [.int (iN (i)), .ref a]) X w (c_R_next l ho hr (by omega)) k_R_next v_R_next lk_R_57 ho.1 hr.2.1 rfl ⟨(Nat.le_of_ble_eq_true rfl), (Nat.le_of_ble_eq_true rfl)⟩ rfl hl.1 rfl (Nat.le_of_ble_eq_true rfl) d_R_offSide_4 ⟨Nat.zero_le _, Nat.zero_le _⟩) (fun r u H locs hp w => ?_)
  obtain ⟨rfl, rfl⟩ := hp
  have w : gw D (gA L sz) s.heap H locs L f := w
  refine lv_iload_n hx hb d_R_offSide_7 rfl (lv_at hl 2 rfl) ?_
  refine lv_iload_n hx hb d_R_offSide_8 rfl (lv_at hl 3 rfl) ?_
  refine g_ci w (g_runV (As := [.int (iN (i)), .int (iN ((nx P i))), .int (iN (x)), .int (iN (y))]) (rest := []) X w (c_R_turn l ho hr (x := x) (y := y) (by omega) (nx_4 hr.1 hi)) k_R_turn v_R_turn lk_R_50 ho.1 hr.2.1 rfl ⟨(Nat.le_of_ble_eq_true rfl), (Nat.le_of_ble_eq_true rfl)⟩ rfl hl.1 rfl (Nat.le_of_ble_eq_true rfl) d_R_offSide_9 ⟨Nat.zero_le _, Nat.zero_le _⟩) (fun r u H locs hp w => ?_)
  obtain ⟨rfl, rfl⟩ := hp
  have w : gw D (gA L sz) s.heap H locs L f := w
  exact g_iret X w hrt hlk d_R_offSide_12 ⟨rfl, rfl⟩
end
section
/-! ROWS: asked of all points of a row -/
theorem px_get {P : List Pt} {i : Int} (h0 : 0 ≤ i) (h1 : i < P.length) : ∃ (k : Nat) (q : Pt), i = k ∧ P[k]? = some q ∧ pX P i = q.1 ∧ pY P i = q.2 := by
  obtain ⟨k, q, e, _, hq⟩ := px_at (P := P) (z := i) (by omega) (by omega)
  subst e
  exact ⟨k, q, rfl, hq, pX_nat hq, pY_nat hq⟩
def pin (P : List Pt) (n : Int) (x y : Int) : Prop := ∃ i : Int, 0 ≤ i ∧ i < n ∧ pX P i = x ∧ pY P i = y
theorem pin_mem {P : List Pt} {x y : Int} : pin P P.length x y ↔ (x, y) ∈ P := by
  constructor
  · rintro ⟨i, h0, h1, hx, hy⟩
    obtain ⟨k, q, e, hq, ex, ey⟩ := px_get h0 h1
    have : q = (x, y) := by rw [← hx, ← hy, ex, ey]
    rw [← this]
    exact List.mem_of_getElem? hq
  · intro h
    obtain ⟨k, hk⟩ := List.getElem?_of_mem h
    have hlt : k < P.length := (List.getElem?_eq_some_iff.mp hk).1
    exact ⟨k, by omega, by omega, pX_nat hk, pY_nat hk⟩

set_option maxHeartbeats 4000000 in
set_option maxRecDepth 100000 in
theorem c_R_has (l : Launch) {D : va_G} {cI cR : ClassId} {L : List Nat} {f : Nat → va_E} {rx ry : Nat → Nat} {a : Nat} {P : List Pt} (ho : ro L rx ry a) (hr : rowIs cI rx ry f a P) (hB : pb 600 P) {x y : Int} (hx3 : i3 x) (hy3 : i3 y) : gMi D cI cR l y_R_has (Cond.code y_R_has b_R_has 4 (some .boolean) :: lw_g) { frames := 1, cells := 0, slots := 0, locals := 21 } [.ref a, .int (iN (x)), .int (iN (y))] L f (fun r u => r = iN (bI (pin P P.length x y)) ∧ u = (L, f)) := by
  intro sz
  refine g_enter (by decide) rfl (Nat.le_of_ble_eq_true rfl) ?_
  intro p e s m below meth cd ls X hrt hlk hnm hl hsz w
  have X : gx p m cd b_R_has 4 s _ "HullSums$Row" D cI cR := X
  have hx := X.1.1
  have hb := X.1.2.1
  have hl : lv_has ls 4 [(0, .ref a), (1, .int (iN (x))), (2, .int (iN (y)))] := hl
  have hn48 := hr.1
  refine lv_iconst (v := iN (0)) hx hb d_R_has_0 (by decide) ?_
  refine lv_istore_n (lv' := [(3, .int (iN (0))), (0, .ref a), (1, .int (iN (x))), (2, .int (iN (y)))]) hx hb d_R_has_1 rfl hl (by decide) rfl (fun ls hl => ?_)
  refine g_loop (σ := Int) (fun z9 => (P.length - z9).toNat) (fun z9 => [(0, .ref a), (1, .int (iN (x))), (2, .int (iN (y))), (3, .int (iN (z9)))]) L (fun z9 => f) (fun z9 => 0 ≤ z9 ∧ z9 ≤ P.length ∧ ¬ pin P z9 x y) ?_ 0 _ _ _ ⟨by omega, by omega, fun ⟨_, q0, q1, _⟩ => by omega⟩ w (lv_sub hl [1, 2, 3, 0] rfl)
  intro i H locs ls hI w hl ih
  have hl : lv_has ls 4 [(0, .ref a), (1, .int (iN (x))), (2, .int (iN (y))), (3, .int (iN (i)))] := hl
  have w : gw D (gA L sz) s.heap H locs L (f) := w
  have hI : 0 ≤ i ∧ i ≤ P.length ∧ ¬ pin P i x y := hI
  obtain ⟨h0, h1, h2⟩ := hI
  refine lv_iload_n hx hb d_R_has_2 rfl (lv_at hl 3 rfl) ?_
  refine lv_aload_n hx hb d_R_has_3 rfl (lv_at hl 0 rfl) ?_
  refine gk_get X w ho.1 hr.2.1 rfl in_R 2 (by decide) lk_R_18 rfl d_R_has_4 ?_
  refine ri_cge (a := i) (b := (P.length : Int)) (tgt := 36) hx hb d_R_has_7 (by decide) rfl rfl (by have := hr.1; unfold i3; omega) (by have := hr.1; unfold i3; omega) (fun c7 => ?_) (fun c7 => ?_)
  · skip
    refine lv_iconst (v := iN (0)) hx hb d_R_has_36 (by decide) ?_
    exact g_zret X w hrt hlk d_R_has_37 rfl ⟨by rw [bI_f (fun h => h2 (by obtain ⟨j, q0, q1, q2⟩ := h; exact ⟨j, q0, by omega, q2⟩))], rfl⟩
  · skip
    refine lv_aload_n hx hb d_R_has_10 rfl (lv_at hl 0 rfl) ?_
    refine lv_iload_n hx hb d_R_has_11 rfl (lv_at hl 3 rfl) ?_
    refine g_ci w (g_runV (As := [.int (iN (i))]) (rest := []) X w (c_R_x l ho hr (by unfold i3; omega)) k_R_x v_R_x lk_R_22 ho.1 hr.2.1 rfl ⟨(Nat.le_of_ble_eq_true rfl), (Nat.le_of_ble_eq_true rfl)⟩ rfl hl.1 rfl (Nat.le_of_ble_eq_true rfl) d_R_has_12 ⟨Nat.zero_le _, Nat.zero_le _⟩) (fun r u H locs hp w => ?_)
    obtain ⟨rfl, rfl⟩ := hp
    have w : gw D (gA L sz) s.heap H locs L f := w
    refine lv_iload_n hx hb d_R_has_15 rfl (lv_at hl 1 rfl) ?_
    refine ri_cne (a := (pX P i)) (b := x) (tgt := 30) hx hb d_R_has_16 (by decide) rfl rfl (pX_3 hB _) hx3 (fun c16 => ?_) (fun c16 => ?_)
    · skip
      refine lv_iinc (v := iN ((i + 1))) (lv' := [(3, .int (iN ((i + 1)))), (0, .ref a), (1, .int (iN (x))), (2, .int (iN (y)))]) hx hb d_R_has_30 hl (k := 3) rfl (by rw [show (i + 1) = i + (1 : Int) by omega, ← iN_add]; rfl) (by decide) rfl (fun ls hl => ?_)
      refine lv_goto (tgt := 2) hx hb d_R_has_33 (by decide) ?_
      exact ih (i + 1) _ _ _ (by omega) ⟨by omega, by omega, fun ⟨j, q0, q1, q2, q3⟩ => (by by_cases e : j = i; (subst e; first | exact absurd q2 c16 | exact absurd q3 c25 | simp_all); exact h2 ⟨j, q0, by omega, q2, q3⟩)⟩ w (lv_sub hl [1, 2, 3, 0] rfl)
    · skip
      refine lv_aload_n hx hb d_R_has_19 rfl (lv_at hl 0 rfl) ?_
      refine lv_iload_n hx hb d_R_has_20 rfl (lv_at hl 3 rfl) ?_
      refine g_ci w (g_runV (As := [.int (iN (i))]) (rest := []) X w (c_R_y l ho hr (by unfold i3; omega)) k_R_y v_R_y lk_R_26 ho.1 hr.2.1 rfl ⟨(Nat.le_of_ble_eq_true rfl), (Nat.le_of_ble_eq_true rfl)⟩ rfl hl.1 rfl (Nat.le_of_ble_eq_true rfl) d_R_has_21 ⟨Nat.zero_le _, Nat.zero_le _⟩) (fun r u H locs hp w => ?_)
      obtain ⟨rfl, rfl⟩ := hp
      have w : gw D (gA L sz) s.heap H locs L f := w
      refine lv_iload_n hx hb d_R_has_24 rfl (lv_at hl 2 rfl) ?_
      refine ri_cne (a := (pY P i)) (b := y) (tgt := 30) hx hb d_R_has_25 (by decide) rfl rfl (pY_3 hB _) hy3 (fun c25 => ?_) (fun c25 => ?_)
      · skip
        refine lv_iinc (v := iN ((i + 1))) (lv' := [(3, .int (iN ((i + 1)))), (0, .ref a), (1, .int (iN (x))), (2, .int (iN (y)))]) hx hb d_R_has_30 hl (k := 3) rfl (by rw [show (i + 1) = i + (1 : Int) by omega, ← iN_add]; rfl) (by decide) rfl (fun ls hl => ?_)
        refine lv_goto (tgt := 2) hx hb d_R_has_33 (by decide) ?_
        exact ih (i + 1) _ _ _ (by omega) ⟨by omega, by omega, fun ⟨j, q0, q1, q2, q3⟩ => (by by_cases e : j = i; (subst e; first | exact absurd q2 c16 | exact absurd q3 c25 | simp_all); exact h2 ⟨j, q0, by omega, q2, q3⟩)⟩ w (lv_sub hl [1, 2, 3, 0] rfl)
      · skip
        refine lv_iconst (v := iN (1)) hx hb d_R_has_28 (by decide) ?_
        exact g_zret X w hrt hlk d_R_has_29 rfl ⟨by rw [bI_t ⟨i, h0, by omega, by simp_all, by simp_all⟩], rfl⟩
def thin (P : List Pt) (x y : Int) : Prop := P.length ≠ 0 ∧ pT P 0 (P.length - 1) x y = 0 ∧ min (pX P 0) (pX P (P.length - 1)) ≤ x ∧ x ≤ max (pX P 0) (pX P (P.length - 1)) ∧ min (pY P 0) (pY P (P.length - 1)) ≤ y ∧ y ≤ max (pY P 0) (pY P (P.length - 1))
set_option maxHeartbeats 4000000 in
set_option maxRecDepth 100000 in
theorem c_R_isOnThin (l : Launch) {D : va_G} {cI cR : ClassId} {L : List Nat} {f : Nat → va_E} {rx ry : Nat → Nat} {a : Nat} {P : List Pt} (ho : ro L rx ry a) (hr : rowIs cI rx ry f a P) (hB : pb 600 P) {x y : Int} (hx0 : -1000 ≤ x ∧ x ≤ 1000) (hy0 : -1000 ≤ y ∧ y ≤ 1000) : gMi D cI cR l y_R_isOnThin (Cond.code y_R_isOnThin b_R_isOnThin 4 (some .boolean) :: lw_g) { frames := 2, cells := 0, slots := 0, locals := 45 } [.ref a, .int (iN (x)), .int (iN (y))] L f (fun r u => r = iN (bI (thin P x y)) ∧ u = (L, f)) := by
  intro sz
  refine g_enter (by decide) rfl (Nat.le_of_ble_eq_true rfl) ?_
  intro p e s m below meth cd ls X hrt hlk hnm hl hsz w
  have X : gx p m cd b_R_isOnThin 4 s _ "HullSums$Row" D cI cR := X
  have hx := X.1.1
  have hb := X.1.2.1
  have hl : lv_has ls 4 [(0, .ref a), (1, .int (iN (x))), (2, .int (iN (y)))] := hl
  have hn48 := hr.1
  refine lv_aload_n hx hb d_R_isOnThin_0 rfl (lv_at hl 0 rfl) ?_
  refine gk_get X w ho.1 hr.2.1 rfl in_R 2 (by decide) lk_R_18 rfl d_R_isOnThin_1 ?_
  refine ri_zne (a := (P.length : Int)) (tgt := 9) hx hb d_R_isOnThin_4 (by decide) rfl (by have := hr.1; unfold i3; omega) (fun c4 => ?_) (fun c4 => ?_)
  · skip
    refine lv_aload_n hx hb d_R_isOnThin_9 rfl (lv_at hl 0 rfl) ?_
    refine gk_get X w ho.1 hr.2.1 rfl in_R 2 (by decide) lk_R_18 rfl d_R_isOnThin_10 ?_
    refine lv_iconst (v := iN (1)) hx hb d_R_isOnThin_13 (by decide) ?_
    refine ri_sub (a := (P.length : Int)) (b := 1) hx hb d_R_isOnThin_14 rfl rfl ?_
    refine lv_istore_n (lv' := [(3, .int (iN (((P.length : Int) - 1)))), (0, .ref a), (1, .int (iN (x))), (2, .int (iN (y)))]) hx hb d_R_isOnThin_15 rfl hl (by decide) rfl (fun ls hl => ?_)
    refine lv_aload_n hx hb d_R_isOnThin_16 rfl (lv_at hl 1 rfl) ?_
    refine lv_iconst (v := iN (0)) hx hb d_R_isOnThin_17 (by decide) ?_
    refine lv_iload_n hx hb d_R_isOnThin_18 rfl (lv_at hl 0 rfl) ?_
    refine lv_iload_n hx hb d_R_isOnThin_19 rfl (lv_at hl 2 rfl) ?_
    refine lv_iload_n hx hb d_R_isOnThin_20 rfl (lv_at hl 3 rfl) ?_
    refine g_ci w (g_runV (As := [.int (iN (0)), .int (iN (((P.length : Int) - 1))), .int (iN (x)), .int (iN (y))]) (rest := []) X w (c_R_turn l ho hr (x := x) (y := y) (by omega) (by have := hr.1; omega)) k_R_turn v_R_turn lk_R_50 ho.1 hr.2.1 rfl ⟨(Nat.le_of_ble_eq_true rfl), (Nat.le_of_ble_eq_true rfl)⟩ rfl hl.1 rfl (Nat.le_of_ble_eq_true rfl) d_R_isOnThin_21 ⟨Nat.zero_le _, Nat.zero_le _⟩) (fun r u H locs hp w => ?_)
    obtain ⟨rfl, rfl⟩ := hp
    have w : gw D (gA L sz) s.heap H locs L f := w
    refine ri_zne (a := (pT P 0 ((P.length : Int) - 1) x y)) (tgt := 99) hx hb d_R_isOnThin_24 (by decide) rfl (pT_3 hB _ _ hx0 hy0) (fun c24 => ?_) (fun c24 => ?_)
    · skip
      refine lv_iconst (v := iN (0)) hx hb d_R_isOnThin_99 (by decide) ?_
      exact g_zret X w hrt hlk d_R_isOnThin_100 rfl ⟨by rw [bI_f (fun h => by obtain ⟨q1, q2, q3, q4, q5, q6⟩ := h; omega)], rfl⟩
    · skip
      refine lv_iload_n hx hb d_R_isOnThin_27 rfl (lv_at hl 2 rfl) ?_
      refine lv_aload_n hx hb d_R_isOnThin_28 rfl (lv_at hl 1 rfl) ?_
      refine lv_iconst (v := iN (0)) hx hb d_R_isOnThin_29 (by decide) ?_
      refine g_ci w (g_runV (As := [.int (iN (0))]) (rest := [.int (iN (x))]) X w (c_R_x l ho hr (by unfold i3; omega)) k_R_x v_R_x lk_R_22 ho.1 hr.2.1 rfl ⟨(Nat.le_of_ble_eq_true rfl), (Nat.le_of_ble_eq_true rfl)⟩ rfl hl.1 rfl (Nat.le_of_ble_eq_true rfl) d_R_isOnThin_30 ⟨Nat.zero_le _, Nat.zero_le _⟩) (fun r u H locs hp w => ?_)
      obtain ⟨rfl, rfl⟩ := hp
      have w : gw D (gA L sz) s.heap H locs L f := w
      refine lv_aload_n hx hb d_R_isOnThin_33 rfl (lv_at hl 1 rfl) ?_
      refine lv_iload_n hx hb d_R_isOnThin_34 rfl (lv_at hl 0 rfl) ?_
      refine g_ci w (g_runV (As := [.int (iN (((P.length : Int) - 1)))]) (rest := [.int (iN ((pX P 0))), .int (iN (x))]) X w (c_R_x l ho hr (by have := hr.1; unfold i3; omega)) k_R_x v_R_x lk_R_22 ho.1 hr.2.1 rfl ⟨(Nat.le_of_ble_eq_true rfl), (Nat.le_of_ble_eq_true rfl)⟩ rfl hl.1 rfl (Nat.le_of_ble_eq_true rfl) d_R_isOnThin_35 ⟨Nat.zero_le _, Nat.zero_le _⟩) (fun r u H locs hp w => ?_)
      obtain ⟨rfl, rfl⟩ := hp
      have w : gw D (gA L sz) s.heap H locs L f := w
      refine ri_mmin (a := (pX P 0)) (b := (pX P ((P.length : Int) - 1))) X hl.1 lk_R_85 (Nat.le_of_ble_eq_true rfl) (Nat.le_of_ble_eq_true rfl) (Nat.zero_le _) (Nat.zero_le _) rfl rfl (pX_3 hB _) (pX_3 hB _) d_R_isOnThin_38 ?_
      refine ri_clt (a := x) (b := (min (pX P 0) (pX P ((P.length : Int) - 1)))) (tgt := 99) hx hb d_R_isOnThin_41 (by decide) rfl rfl (by unfold i3; omega) (by have := pX_3 hB 0; have := pX_3 hB (P.length - 1); unfold i3 at *; omega) (fun c41 => ?_) (fun c41 => ?_)
      · skip
        refine lv_iconst (v := iN (0)) hx hb d_R_isOnThin_99 (by decide) ?_
        exact g_zret X w hrt hlk d_R_isOnThin_100 rfl ⟨by rw [bI_f (fun h => by obtain ⟨q1, q2, q3, q4, q5, q6⟩ := h; omega)], rfl⟩
      · skip
        refine lv_iload_n hx hb d_R_isOnThin_44 rfl (lv_at hl 2 rfl) ?_
        refine lv_aload_n hx hb d_R_isOnThin_45 rfl (lv_at hl 1 rfl) ?_
        refine lv_iconst (v := iN (0)) hx hb d_R_isOnThin_46 (by decide) ?_
        refine g_ci w (g_runV (As := [.int (iN (0))]) (rest := [.int (iN (x))]) X w (c_R_x l ho hr (by unfold i3; omega)) k_R_x v_R_x lk_R_22 ho.1 hr.2.1 rfl ⟨(Nat.le_of_ble_eq_true rfl), (Nat.le_of_ble_eq_true rfl)⟩ rfl hl.1 rfl (Nat.le_of_ble_eq_true rfl) d_R_isOnThin_47 ⟨Nat.zero_le _, Nat.zero_le _⟩) (fun r u H locs hp w => ?_)
        obtain ⟨rfl, rfl⟩ := hp
        have w : gw D (gA L sz) s.heap H locs L f := w
        refine lv_aload_n hx hb d_R_isOnThin_50 rfl (lv_at hl 1 rfl) ?_
        refine lv_iload_n hx hb d_R_isOnThin_51 rfl (lv_at hl 0 rfl) ?_
        refine g_ci w (g_runV (As := [.int (iN (((P.length : Int) - 1)))]) (rest := [.int (iN ((pX P 0))), .int (iN (x))]) X w (c_R_x l ho hr (by have := hr.1; unfold i3; omega)) k_R_x v_R_x lk_R_22 ho.1 hr.2.1 rfl ⟨(Nat.le_of_ble_eq_true rfl), (Nat.le_of_ble_eq_true rfl)⟩ rfl hl.1 rfl (Nat.le_of_ble_eq_true rfl) d_R_isOnThin_52 ⟨Nat.zero_le _, Nat.zero_le _⟩) (fun r u H locs hp w => ?_)
        obtain ⟨rfl, rfl⟩ := hp
        have w : gw D (gA L sz) s.heap H locs L f := w
        refine ri_mmax (a := (pX P 0)) (b := (pX P ((P.length : Int) - 1))) X hl.1 lk_R_68 (Nat.le_of_ble_eq_true rfl) (Nat.le_of_ble_eq_true rfl) (Nat.zero_le _) (Nat.zero_le _) rfl rfl (pX_3 hB _) (pX_3 hB _) d_R_isOnThin_55 ?_
        refine ri_cgt (a := x) (b := (max (pX P 0) (pX P ((P.length : Int) - 1)))) (tgt := 99) hx hb d_R_isOnThin_58 (by decide) rfl rfl (by unfold i3; omega) (by have := pX_3 hB 0; have := pX_3 hB (P.length - 1); unfold i3 at *; omega) (fun c58 => ?_) (fun c58 => ?_)
        · skip
          refine lv_iconst (v := iN (0)) hx hb d_R_isOnThin_99 (by decide) ?_
          exact g_zret X w hrt hlk d_R_isOnThin_100 rfl ⟨by rw [bI_f (fun h => by obtain ⟨q1, q2, q3, q4, q5, q6⟩ := h; omega)], rfl⟩
        · skip
          refine lv_iload_n hx hb d_R_isOnThin_61 rfl (lv_at hl 3 rfl) ?_
          refine lv_aload_n hx hb d_R_isOnThin_62 rfl (lv_at hl 1 rfl) ?_
          refine lv_iconst (v := iN (0)) hx hb d_R_isOnThin_63 (by decide) ?_
          refine g_ci w (g_runV (As := [.int (iN (0))]) (rest := [.int (iN (y))]) X w (c_R_y l ho hr (by unfold i3; omega)) k_R_y v_R_y lk_R_26 ho.1 hr.2.1 rfl ⟨(Nat.le_of_ble_eq_true rfl), (Nat.le_of_ble_eq_true rfl)⟩ rfl hl.1 rfl (Nat.le_of_ble_eq_true rfl) d_R_isOnThin_64 ⟨Nat.zero_le _, Nat.zero_le _⟩) (fun r u H locs hp w => ?_)
          obtain ⟨rfl, rfl⟩ := hp
          have w : gw D (gA L sz) s.heap H locs L f := w
          refine lv_aload_n hx hb d_R_isOnThin_67 rfl (lv_at hl 1 rfl) ?_
          refine lv_iload_n hx hb d_R_isOnThin_68 rfl (lv_at hl 0 rfl) ?_
          refine g_ci w (g_runV (As := [.int (iN (((P.length : Int) - 1)))]) (rest := [.int (iN ((pY P 0))), .int (iN (y))]) X w (c_R_y l ho hr (by have := hr.1; unfold i3; omega)) k_R_y v_R_y lk_R_26 ho.1 hr.2.1 rfl ⟨(Nat.le_of_ble_eq_true rfl), (Nat.le_of_ble_eq_true rfl)⟩ rfl hl.1 rfl (Nat.le_of_ble_eq_true rfl) d_R_isOnThin_69 ⟨Nat.zero_le _, Nat.zero_le _⟩) (fun r u H locs hp w => ?_)
          obtain ⟨rfl, rfl⟩ := hp
          have w : gw D (gA L sz) s.heap H locs L f := w
          refine ri_mmin (a := (pY P 0)) (b := (pY P ((P.length : Int) - 1))) X hl.1 lk_R_85 (Nat.le_of_ble_eq_true rfl) (Nat.le_of_ble_eq_true rfl) (Nat.zero_le _) (Nat.zero_le _) rfl rfl (pY_3 hB _) (pY_3 hB _) d_R_isOnThin_72 ?_
          refine ri_clt (a := y) (b := (min (pY P 0) (pY P ((P.length : Int) - 1)))) (tgt := 99) hx hb d_R_isOnThin_75 (by decide) rfl rfl (by unfold i3; omega) (by have := pY_3 hB 0; have := pY_3 hB (P.length - 1); unfold i3 at *; omega) (fun c75 => ?_) (fun c75 => ?_)
          · skip
            refine lv_iconst (v := iN (0)) hx hb d_R_isOnThin_99 (by decide) ?_
            exact g_zret X w hrt hlk d_R_isOnThin_100 rfl ⟨by rw [bI_f (fun h => by obtain ⟨q1, q2, q3, q4, q5, q6⟩ := h; omega)], rfl⟩
          · skip
            refine lv_iload_n hx hb d_R_isOnThin_78 rfl (lv_at hl 3 rfl) ?_
            refine lv_aload_n hx hb d_R_isOnThin_79 rfl (lv_at hl 1 rfl) ?_
            refine lv_iconst (v := iN (0)) hx hb d_R_isOnThin_80 (by decide) ?_
            refine g_ci w (g_runV (As := [.int (iN (0))]) (rest := [.int (iN (y))]) X w (c_R_y l ho hr (by unfold i3; omega)) k_R_y v_R_y lk_R_26 ho.1 hr.2.1 rfl ⟨(Nat.le_of_ble_eq_true rfl), (Nat.le_of_ble_eq_true rfl)⟩ rfl hl.1 rfl (Nat.le_of_ble_eq_true rfl) d_R_isOnThin_81 ⟨Nat.zero_le _, Nat.zero_le _⟩) (fun r u H locs hp w => ?_)
            obtain ⟨rfl, rfl⟩ := hp
            have w : gw D (gA L sz) s.heap H locs L f := w
            refine lv_aload_n hx hb d_R_isOnThin_84 rfl (lv_at hl 1 rfl) ?_
            refine lv_iload_n hx hb d_R_isOnThin_85 rfl (lv_at hl 0 rfl) ?_
            refine g_ci w (g_runV (As := [.int (iN (((P.length : Int) - 1)))]) (rest := [.int (iN ((pY P 0))), .int (iN (y))]) X w (c_R_y l ho hr (by have := hr.1; unfold i3; omega)) k_R_y v_R_y lk_R_26 ho.1 hr.2.1 rfl ⟨(Nat.le_of_ble_eq_true rfl), (Nat.le_of_ble_eq_true rfl)⟩ rfl hl.1 rfl (Nat.le_of_ble_eq_true rfl) d_R_isOnThin_86 ⟨Nat.zero_le _, Nat.zero_le _⟩) (fun r u H locs hp w => ?_)
            obtain ⟨rfl, rfl⟩ := hp
            have w : gw D (gA L sz) s.heap H locs L f := w
            refine ri_mmax (a := (pY P 0)) (b := (pY P ((P.length : Int) - 1))) X hl.1 lk_R_68 (Nat.le_of_ble_eq_true rfl) (Nat.le_of_ble_eq_true rfl) (Nat.zero_le _) (Nat.zero_le _) rfl rfl (pY_3 hB _) (pY_3 hB _) d_R_isOnThin_89 ?_
            refine ri_cgt (a := y) (b := (max (pY P 0) (pY P ((P.length : Int) - 1)))) (tgt := 99) hx hb d_R_isOnThin_92 (by decide) rfl rfl (by unfold i3; omega) (by have := pY_3 hB 0; have := pY_3 hB (P.length - 1); unfold i3 at *; omega) (fun c92 => ?_) (fun c92 => ?_)
            · skip
              refine lv_iconst (v := iN (0)) hx hb d_R_isOnThin_99 (by decide) ?_
              exact g_zret X w hrt hlk d_R_isOnThin_100 rfl ⟨by rw [bI_f (fun h => by obtain ⟨q1, q2, q3, q4, q5, q6⟩ := h; omega)], rfl⟩
            · skip
              refine lv_iconst (v := iN (1)) hx hb d_R_isOnThin_95 (by decide) ?_
              refine lv_goto (tgt := 100) hx hb d_R_isOnThin_96 (by decide) ?_
              exact g_zret X w hrt hlk d_R_isOnThin_100 rfl ⟨by rw [bI_t ⟨by omega, by omega, by omega, by omega, by omega, by omega⟩], rfl⟩
  · skip
    refine lv_iconst (v := iN (0)) hx hb d_R_isOnThin_7 (by decide) ?_
    exact g_zret X w hrt hlk d_R_isOnThin_8 rfl ⟨by rw [bI_f (fun h => by obtain ⟨q1, q2, q3, q4, q5, q6⟩ := h; omega)], rfl⟩
def out_ (P : List Pt) (n x y : Int) : Prop := ∃ i : Int, 0 ≤ i ∧ i < n ∧ off P i x y < 0
def bor_ (P : List Pt) (n x y : Int) : Prop := ∃ i : Int, 0 ≤ i ∧ i < n ∧ off P i x y = 0
noncomputable def plc (P : List Pt) (x y : Int) : Int := if P.length < 3 then bI (thin P x y) else (1 - bI (out_ P P.length x y)) * (2 - bI (bor_ P P.length x y))
theorem out_s {P : List Pt} {i x y : Int} (h : ¬ out_ P i x y) (h2 : ¬ off P i x y < 0) : ¬ out_ P (i + 1) x y := by
  rintro ⟨j, q0, q1, q2⟩
  by_cases e : j = i
  · subst e; exact h2 q2
  · exact h ⟨j, q0, by omega, q2⟩
theorem bor_s {P : List Pt} {i x y : Int} (h2 : ¬ off P i x y = 0) : bor_ P (i + 1) x y ↔ bor_ P i x y := by
  constructor
  · rintro ⟨j, q0, q1, q2⟩
    by_cases e : j = i
    · subst e; exact absurd q2 h2
    · exact ⟨j, q0, by omega, q2⟩
  · rintro ⟨j, q0, q1, q2⟩; exact ⟨j, q0, by omega, q2⟩

set_option maxHeartbeats 4000000 in
set_option maxRecDepth 100000 in
theorem c_R_place (l : Launch) {D : va_G} {cI cR : ClassId} {L : List Nat} {f : Nat → va_E} {rx ry : Nat → Nat} {a : Nat} {P : List Pt} (ho : ro L rx ry a) (hr : rowIs cI rx ry f a P) (hB : pb 600 P) {x y : Int} (hx0 : -1000 ≤ x ∧ x ≤ 1000) (hy0 : -1000 ≤ y ∧ y ≤ 1000) : gMi D cI cR l y_R_place (Cond.code y_R_place b_R_place 6 (some .int) :: lw_g) { frames := 3, cells := 0, slots := 0, locals := 68 } [.ref a, .int (iN (x)), .int (iN (y))] L f (fun r u => r = iN (plc P x y) ∧ u = (L, f)) := by
  intro sz
  refine g_enter (by decide) rfl (Nat.le_of_ble_eq_true rfl) ?_
  intro p e s m below meth cd ls X hrt hlk hnm hl hsz w
  have X : gx p m cd b_R_place 6 s _ "HullSums$Row" D cI cR := X
  have hx := X.1.1
  have hb := X.1.2.1
  have hl : lv_has ls 6 [(0, .ref a), (1, .int (iN (x))), (2, .int (iN (y)))] := hl
  have hn48 := hr.1
  refine lv_aload_n hx hb d_R_place_0 rfl (lv_at hl 0 rfl) ?_
  refine gk_get X w ho.1 hr.2.1 rfl in_R 2 (by decide) lk_R_18 rfl d_R_place_1 ?_
  refine lv_iconst (v := iN (3)) hx hb d_R_place_4 (by decide) ?_
  refine ri_cge (a := (P.length : Int)) (b := 3) (tgt := 23) hx hb d_R_place_5 (by decide) rfl rfl (by have := hr.1; unfold i3; omega) (by unfold i3; omega) (fun c5 => ?_) (fun c5 => ?_)
  · skip
    refine lv_iconst (v := iN (2)) hx hb d_R_place_23 (by decide) ?_
    refine lv_istore_n (lv' := [(3, .int (iN (2))), (0, .ref a), (1, .int (iN (x))), (2, .int (iN (y)))]) hx hb d_R_place_24 rfl hl (by decide) rfl (fun ls hl => ?_)
    refine lv_iconst (v := iN (0)) hx hb d_R_place_25 (by decide) ?_
    refine lv_istore (lv' := [(4, .int (iN (0))), (3, .int (iN (2))), (0, .ref a), (1, .int (iN (x))), (2, .int (iN (y)))]) hx hb d_R_place_26 hl (by decide) rfl (fun ls hl => ?_)
    refine g_loop (σ := Int × Int) (fun z9 => (P.length - z9.1).toNat) (fun z9 => [(0, .ref a), (1, .int (iN (x))), (2, .int (iN (y))), (3, .int (iN (z9.2))), (4, .int (iN (z9.1)))]) L (fun z9 => f) (fun z9 => 0 ≤ z9.1 ∧ z9.1 ≤ P.length ∧ ¬ out_ P z9.1 x y ∧ z9.2 = 2 - bI (bor_ P z9.1 x y)) ?_ (0, 2) _ _ _ ⟨by omega, by omega, fun ⟨_, q0, q1, _⟩ => by omega, by rw [bI_f (fun ⟨_, q0, q1, _⟩ => by omega)]; rfl⟩ w (lv_sub hl [2, 3, 4, 1, 0] rfl)
    intro z9 H locs ls hI w hl ih
    obtain ⟨i, k⟩ := z9
    have hl : lv_has ls 6 [(0, .ref a), (1, .int (iN (x))), (2, .int (iN (y))), (3, .int (iN (k))), (4, .int (iN (i)))] := hl
    have w : gw D (gA L sz) s.heap H locs L (f) := w
    have hI : 0 ≤ i ∧ i ≤ P.length ∧ ¬ out_ P i x y ∧ k = 2 - bI (bor_ P i x y) := hI
    obtain ⟨h0, h1, h2, h3⟩ := hI
    refine lv_iload hx hb d_R_place_28 (lv_at hl 4 rfl) ?_
    refine lv_aload_n hx hb d_R_place_30 rfl (lv_at hl 0 rfl) ?_
    refine gk_get X w ho.1 hr.2.1 rfl in_R 2 (by decide) lk_R_18 rfl d_R_place_31 ?_
    refine ri_cge (a := i) (b := (P.length : Int)) (tgt := 67) hx hb d_R_place_34 (by decide) rfl rfl (by have := hr.1; unfold i3; omega) (by have := hr.1; unfold i3; omega) (fun c34 => ?_) (fun c34 => ?_)
    · skip
      refine lv_iload_n hx hb d_R_place_67 rfl (lv_at hl 3 rfl) ?_
      exact g_iret X w hrt hlk d_R_place_68 ⟨by unfold plc; rw [if_neg (by omega), show (P.length : Int) = i by omega, bI_f h2, h3]; simp, rfl⟩
    · skip
      refine lv_aload_n hx hb d_R_place_37 rfl (lv_at hl 0 rfl) ?_
      refine lv_iload hx hb d_R_place_38 (lv_at hl 4 rfl) ?_
      refine lv_iload_n hx hb d_R_place_40 rfl (lv_at hl 1 rfl) ?_
      refine lv_iload_n hx hb d_R_place_41 rfl (lv_at hl 2 rfl) ?_
      refine g_ci w (g_runV (As := [.int (iN (i)), .int (iN (x)), .int (iN (y))]) (rest := []) X w (c_R_offSide l ho hr (x := x) (y := y) (by have := hr.1; omega)) k_R_offSide v_R_offSide lk_R_64 ho.1 hr.2.1 rfl ⟨(Nat.le_of_ble_eq_true rfl), (Nat.le_of_ble_eq_true rfl)⟩ rfl hl.1 rfl (Nat.le_of_ble_eq_true rfl) d_R_place_42 ⟨Nat.zero_le _, Nat.zero_le _⟩) (fun r u H locs hp w => ?_)
      obtain ⟨rfl, rfl⟩ := hp
      have w : gw D (gA L sz) s.heap H locs L f := w
      refine lv_istore (lv' := [(5, .int (iN ((off P i x y)))), (0, .ref a), (1, .int (iN (x))), (2, .int (iN (y))), (3, .int (iN (k))), (4, .int (iN (i)))]) hx hb d_R_place_45 hl (by decide) rfl (fun ls hl => ?_)
      refine lv_iload hx hb d_R_place_47 (lv_at hl 0 rfl) ?_
      refine ri_zge (a := (off P i x y)) (tgt := 54) hx hb d_R_place_49 (by decide) rfl (pT_3 hB _ _ hx0 hy0) (fun c49 => ?_) (fun c49 => ?_)
      · skip
        refine lv_iload hx hb d_R_place_54 (lv_at hl 0 rfl) ?_
        refine ri_zne (a := (off P i x y)) (tgt := 61) hx hb d_R_place_56 (by decide) rfl (pT_3 hB _ _ hx0 hy0) (fun c56 => ?_) (fun c56 => ?_)
        · skip
          refine lv_iinc (v := iN ((i + 1))) (lv' := [(4, .int (iN ((i + 1)))), (5, .int (iN ((off P i x y)))), (0, .ref a), (1, .int (iN (x))), (2, .int (iN (y))), (3, .int (iN (k)))]) hx hb d_R_place_61 hl (k := 5) rfl (by rw [show (i + 1) = i + (1 : Int) by omega, ← iN_add]; rfl) (by decide) rfl (fun ls hl => ?_)
          refine lv_goto (tgt := 28) hx hb d_R_place_64 (by decide) ?_
          exact ih ((i + 1), k) _ _ _ (by omega) ⟨by omega, by omega, out_s h2 (by omega), by rw [bI_iff (bor_s (by omega))]; exact h3⟩ w (lv_sub hl [2, 3, 4, 5, 0] rfl)
        · skip
          refine lv_iconst (v := iN (1)) hx hb d_R_place_59 (by decide) ?_
          refine lv_istore_n (lv' := [(3, .int (iN (1))), (5, .int (iN ((off P i x y)))), (0, .ref a), (1, .int (iN (x))), (2, .int (iN (y))), (4, .int (iN (i)))]) hx hb d_R_place_60 rfl hl (by decide) rfl (fun ls hl => ?_)
          refine lv_iinc (v := iN ((i + 1))) (lv' := [(4, .int (iN ((i + 1)))), (3, .int (iN (1))), (5, .int (iN ((off P i x y)))), (0, .ref a), (1, .int (iN (x))), (2, .int (iN (y)))]) hx hb d_R_place_61 hl (k := 5) rfl (by rw [show (i + 1) = i + (1 : Int) by omega, ← iN_add]; rfl) (by decide) rfl (fun ls hl => ?_)
          refine lv_goto (tgt := 28) hx hb d_R_place_64 (by decide) ?_
          exact ih ((i + 1), 1) _ _ _ (by omega) ⟨by omega, by omega, out_s h2 (by omega), by rw [bI_t ⟨i, h0, by omega, by omega⟩]; rfl⟩ w (lv_sub hl [3, 4, 5, 1, 0] rfl)
      · skip
        refine lv_iconst (v := iN (0)) hx hb d_R_place_52 (by decide) ?_
        exact g_iret X w hrt hlk d_R_place_53 ⟨by unfold plc; rw [if_neg (by omega), bI_t ⟨i, h0, by omega, by omega⟩]; simp, rfl⟩
  · skip
    refine lv_aload_n hx hb d_R_place_8 rfl (lv_at hl 0 rfl) ?_
    refine lv_iload_n hx hb d_R_place_9 rfl (lv_at hl 1 rfl) ?_
    refine lv_iload_n hx hb d_R_place_10 rfl (lv_at hl 2 rfl) ?_
    refine g_ci w (g_runV (As := [.int (iN (x)), .int (iN (y))]) (rest := []) X w (c_R_isOnThin l ho hr hB hx0 hy0) k_R_isOnThin v_R_isOnThin lk_R_82 ho.1 hr.2.1 rfl ⟨(Nat.le_of_ble_eq_true rfl), (Nat.le_of_ble_eq_true rfl)⟩ rfl hl.1 rfl (Nat.le_of_ble_eq_true rfl) d_R_place_11 ⟨Nat.zero_le _, Nat.zero_le _⟩) (fun r u H locs hp w => ?_)
    obtain ⟨rfl, rfl⟩ := hp
    have w : gw D (gA L sz) s.heap H locs L f := w
    refine ri_zeq (a := (bI (thin P x y))) (tgt := 21) hx hb d_R_place_14 (by decide) rfl (bI_3 _) (fun c14 => ?_) (fun c14 => ?_)
    · skip
      refine lv_iconst (v := iN (0)) hx hb d_R_place_21 (by decide) ?_
      exact g_iret X w hrt hlk d_R_place_22 ⟨by unfold plc; rw [if_pos (by omega)]; rw [c14], rfl⟩
    · skip
      refine lv_iconst (v := iN (1)) hx hb d_R_place_17 (by decide) ?_
      refine lv_goto (tgt := 22) hx hb d_R_place_18 (by decide) ?_
      exact g_iret X w hrt hlk d_R_place_22 ⟨by unfold plc; rw [if_pos (by omega)]; rw [bI_t (bI_n c14)], rfl⟩
end
section
/-! ROWS: sums and greatest numbers round a row -/
theorem tn_s {j : Int} (h : 0 ≤ j) : (j + 1).toNat = j.toNat + 1 := by omega
theorem tn_c {j : Int} (h : 0 ≤ j) : ((j.toNat : Nat) : Int) = j := by omega
def rch (P : List Pt) (i : Int) : Nat → Int
  | 0 => 0
  | n + 1 => max (rch P i n) (off P i (pX P n) (pY P n))
theorem rch_b {P : List Pt} (h : pb 600 P) (i : Int) (n : Nat) : 0 ≤ rch P i n ∧ rch P i n ≤ 4000000 := by
  induction n with
  | zero => unfold rch; omega
  | succ n ih =>
    have b := h n
    have := pT_b h i (nx P i) (x := pX P n) (y := pY P n) (by omega) (by omega)
    unfold rch off; omega
def dar (P : List Pt) : Nat → Int
  | 0 => 0
  | n + 1 => dar P n + (pX P n * pY P (nx P n) - pY P n * pX P (nx P n))
theorem dar_b {P : List Pt} (h : pb 600 P) (n : Nat) : -(720000 * (n : Int)) ≤ dar P n ∧ dar P n ≤ 720000 * n := by
  induction n with
  | zero => unfold dar; omega
  | succ n ih =>
    have a := h n; have b := h (nx P n)
    have q1 := mbc (a := pX P n) (b := pY P (nx P n)) 600 600 360000 (by omega) (by omega) (by omega) (by omega) (by decide)
    have q2 := mbc (a := pY P n) (b := pX P (nx P n)) 600 600 360000 (by omega) (by omega) (by omega) (by omega) (by decide)
    unfold dar; omega
def sX (P : List Pt) (i : Int) : Int := pX P (nx P i) - pX P i
def sY (P : List Pt) (i : Int) : Int := pY P (nx P i) - pY P i
def gst (P : List Pt) : Nat → Int
  | 0 => 0
  | n + 1 => gst P n + Int.gcd (sX P n) (sY P n)
theorem gcd_b {a b : Int} {B : Int} (h1 : -B ≤ a ∧ a ≤ B) (h2 : -B ≤ b ∧ b ≤ B) : (Int.gcd a b : Int) ≤ B := by
  by_cases h : a = 0
  · subst h
    rw [Int.gcd_zero_left]
    omega
  · have := Int.gcd_le_natAbs_left b h
    omega
theorem gst_b {P : List Pt} (h : pb 600 P) (n : Nat) : 0 ≤ gst P n ∧ gst P n ≤ 1200 * n := by
  induction n with
  | zero => unfold gst; omega
  | succ n ih =>
    have a := h n; have b := h (nx P n)
    have := gcd_b (a := sX P n) (b := sY P n) (B := 1200) (by unfold sX; omega) (by unfold sY; omega)
    unfold gst; omega

def faceZ (P : List Pt) (i : Int) : Prop := 0 ≤ (-pX P i) * sX P i - pY P i * sY P i ∧ (-pX P i) * sX P i - pY P i * sY P i ≤ sq P i (nx P i)
theorem face_b {P : List Pt} (h : pb 600 P) (i : Int) : -1440000 ≤ (-pX P i) * sX P i - pY P i * sY P i ∧ (-pX P i) * sX P i - pY P i * sY P i ≤ 1440000 := by
  have a := h i; have b := h (nx P i)
  have q1 := mbc (a := -pX P i) (b := sX P i) 600 1200 720000 (by omega) (by omega) (by unfold sX; omega) (by unfold sX; omega) (by decide)
  have q2 := mbc (a := pY P i) (b := sY P i) 600 1200 720000 (by omega) (by omega) (by unfold sY; omega) (by unfold sY; omega) (by decide)
  omega
set_option maxHeartbeats 4000000 in
set_option maxRecDepth 100000 in
theorem c_R_sideFacesZero (l : Launch) {D : va_G} {cI cR : ClassId} {L : List Nat} {f : Nat → va_E} {rx ry : Nat → Nat} {a : Nat} {P : List Pt} (ho : ro L rx ry a) (hr : rowIs cI rx ry f a P) (hB : pb 600 P) {i : Int} (hi : 0 ≤ i ∧ i ≤ 100) : gMi D cI cR l y_R_sideFacesZero (Cond.code y_R_sideFacesZero b_R_sideFacesZero 3 (some .boolean) :: lw_g) { frames := 3, cells := 0, slots := 0, locals := 66 } [.ref a, .int (iN (i))] L f (fun r u => r = iN (bI (faceZ P i)) ∧ u = (L, f)) := by
  intro sz
  refine g_enter (by decide) rfl (Nat.le_of_ble_eq_true rfl) ?_
  intro p e s m below meth cd ls X hrt hlk hnm hl hsz w
  have X : gx p m cd b_R_sideFacesZero 3 s _ "HullSums$Row" D cI cR := X
  have hx := X.1.1
  have hb := X.1.2.1
  have hl : lv_has ls 3 [(0, .ref a), (1, .int (iN (i)))] := hl
  have hn48 := hr.1
  refine lv_aload_n hx hb d_R_sideFacesZero_0 rfl (lv_at hl 0 rfl) ?_
  refine lv_iload_n hx hb d_R_sideFacesZero_1 rfl (lv_at hl 1 rfl) ?_
  refine g_ci w (g_runV (As := [.int (iN (i))]) (rest := []) X w (c_R_x l ho hr (by unfold i3; omega)) k_R_x v_R_x lk_R_22 ho.1 hr.2.1 rfl ⟨(Nat.le_of_ble_eq_true rfl), (Nat.le_of_ble_eq_true rfl)⟩ rfl hl.1 rfl (Nat.le_of_ble_eq_true rfl) d_R_sideFacesZero_2 ⟨Nat.zero_le _, Nat.zero_le _⟩) (fun r u H locs hp w => ?_)
  obtain ⟨rfl, rfl⟩ := hp
  have w : gw D (gA L sz) s.heap H locs L f := w
  refine ri_neg (a := (pX P i)) hx hb d_R_sideFacesZero_5 rfl ?_
  refine lv_aload_n hx hb d_R_sideFacesZero_6 rfl (lv_at hl 0 rfl) ?_
  refine lv_iload_n hx hb d_R_sideFacesZero_7 rfl (lv_at hl 1 rfl) ?_
  refine g_ci w (g_runV (As := [.int (iN (i))]) (rest := [.int (iN ((-(pX P i))))]) X w (c_R_sideX l ho hr (by omega)) k_R_sideX v_R_sideX lk_R_73 ho.1 hr.2.1 rfl ⟨(Nat.le_of_ble_eq_true rfl), (Nat.le_of_ble_eq_true rfl)⟩ rfl hl.1 rfl (Nat.le_of_ble_eq_true rfl) d_R_sideFacesZero_8 ⟨Nat.zero_le _, Nat.zero_le _⟩) (fun r u H locs hp w => ?_)
  obtain ⟨rfl, rfl⟩ := hp
  have w : gw D (gA L sz) s.heap H locs L f := w
  refine ri_mul (a := (-(pX P i))) (b := (sX P i)) hx hb d_R_sideFacesZero_11 rfl rfl ?_
  refine lv_aload_n hx hb d_R_sideFacesZero_12 rfl (lv_at hl 0 rfl) ?_
  refine lv_iload_n hx hb d_R_sideFacesZero_13 rfl (lv_at hl 1 rfl) ?_
  refine g_ci w (g_runV (As := [.int (iN (i))]) (rest := [.int (iN (((-(pX P i)) * (sX P i))))]) X w (c_R_y l ho hr (by unfold i3; omega)) k_R_y v_R_y lk_R_26 ho.1 hr.2.1 rfl ⟨(Nat.le_of_ble_eq_true rfl), (Nat.le_of_ble_eq_true rfl)⟩ rfl hl.1 rfl (Nat.le_of_ble_eq_true rfl) d_R_sideFacesZero_14 ⟨Nat.zero_le _, Nat.zero_le _⟩) (fun r u H locs hp w => ?_)
  obtain ⟨rfl, rfl⟩ := hp
  have w : gw D (gA L sz) s.heap H locs L f := w
  refine lv_aload_n hx hb d_R_sideFacesZero_17 rfl (lv_at hl 0 rfl) ?_
  refine lv_iload_n hx hb d_R_sideFacesZero_18 rfl (lv_at hl 1 rfl) ?_
  refine g_ci w (g_runV (As := [.int (iN (i))]) (rest := [.int (iN ((pY P i))), .int (iN (((-(pX P i)) * (sX P i))))]) X w (c_R_sideY l ho hr (by omega)) k_R_sideY v_R_sideY lk_R_76 ho.1 hr.2.1 rfl ⟨(Nat.le_of_ble_eq_true rfl), (Nat.le_of_ble_eq_true rfl)⟩ rfl hl.1 rfl (Nat.le_of_ble_eq_true rfl) d_R_sideFacesZero_19 ⟨Nat.zero_le _, Nat.zero_le _⟩) (fun r u H locs hp w => ?_)
  obtain ⟨rfl, rfl⟩ := hp
  have w : gw D (gA L sz) s.heap H locs L f := w
  refine ri_mul (a := (pY P i)) (b := (sY P i)) hx hb d_R_sideFacesZero_22 rfl rfl ?_
  refine ri_sub (a := ((-(pX P i)) * (sX P i))) (b := ((pY P i) * (sY P i))) hx hb d_R_sideFacesZero_23 rfl rfl ?_
  refine lv_istore_n (lv' := [(2, .int (iN ((((-(pX P i)) * (sX P i)) - ((pY P i) * (sY P i)))))), (0, .ref a), (1, .int (iN (i)))]) hx hb d_R_sideFacesZero_24 rfl hl (by decide) rfl (fun ls hl => ?_)
  refine lv_iload_n hx hb d_R_sideFacesZero_25 rfl (lv_at hl 0 rfl) ?_
  refine ri_zlt (a := (((-(pX P i)) * (sX P i)) - ((pY P i) * (sY P i)))) (tgt := 42) hx hb d_R_sideFacesZero_26 (by decide) rfl (by have := face_b hB i; unfold i3; omega) (fun c26 => ?_) (fun c26 => ?_)
  · skip
    refine lv_iconst (v := iN (0)) hx hb d_R_sideFacesZero_42 (by decide) ?_
    exact g_zret X w hrt hlk d_R_sideFacesZero_43 rfl ⟨by rw [bI_f (fun h => by have := h.1; have := h.2; omega)], rfl⟩
  · skip
    refine lv_iload_n hx hb d_R_sideFacesZero_29 rfl (lv_at hl 0 rfl) ?_
    refine lv_aload_n hx hb d_R_sideFacesZero_30 rfl (lv_at hl 1 rfl) ?_
    refine lv_iload_n hx hb d_R_sideFacesZero_31 rfl (lv_at hl 2 rfl) ?_
    refine g_ci w (g_runV (As := [.int (iN (i))]) (rest := [.int (iN ((((-(pX P i)) * (sX P i)) - ((pY P i) * (sY P i)))))]) X w (c_R_squareOfSide l ho hr (by omega)) k_R_squareOfSide v_R_squareOfSide lk_R_79 ho.1 hr.2.1 rfl ⟨(Nat.le_of_ble_eq_true rfl), (Nat.le_of_ble_eq_true rfl)⟩ rfl hl.1 rfl (Nat.le_of_ble_eq_true rfl) d_R_sideFacesZero_32 ⟨Nat.zero_le _, Nat.zero_le _⟩) (fun r u H locs hp w => ?_)
    obtain ⟨rfl, rfl⟩ := hp
    have w : gw D (gA L sz) s.heap H locs L f := w
    refine ri_cgt (a := (((-(pX P i)) * (sX P i)) - ((pY P i) * (sY P i)))) (b := (sq P i (nx P i))) (tgt := 42) hx hb d_R_sideFacesZero_35 (by decide) rfl rfl (by have := face_b hB i; unfold i3; omega) (by have := sq_b hB i (nx P i); unfold i3; omega) (fun c35 => ?_) (fun c35 => ?_)
    · skip
      refine lv_iconst (v := iN (0)) hx hb d_R_sideFacesZero_42 (by decide) ?_
      exact g_zret X w hrt hlk d_R_sideFacesZero_43 rfl ⟨by rw [bI_f (fun h => by have := h.1; have := h.2; omega)], rfl⟩
    · skip
      refine lv_iconst (v := iN (1)) hx hb d_R_sideFacesZero_38 (by decide) ?_
      refine lv_goto (tgt := 43) hx hb d_R_sideFacesZero_39 (by decide) ?_
      exact g_zret X w hrt hlk d_R_sideFacesZero_43 rfl ⟨by rw [bI_t ⟨by omega, by omega⟩], rfl⟩
set_option maxHeartbeats 4000000 in
set_option maxRecDepth 100000 in
theorem c_R_reachFromSide (l : Launch) {D : va_G} {cI cR : ClassId} {L : List Nat} {f : Nat → va_E} {rx ry : Nat → Nat} {a : Nat} {P : List Pt} (ho : ro L rx ry a) (hr : rowIs cI rx ry f a P) (hB : pb 600 P) {i : Int} (hi : 0 ≤ i ∧ i ≤ 100) : gMi D cI cR l y_R_reachFromSide (Cond.code y_R_reachFromSide b_R_reachFromSide 4 (some .int) :: lw_g) { frames := 3, cells := 0, slots := 0, locals := 68 } [.ref a, .int (iN (i))] L f (fun r u => r = iN (rch P i P.length) ∧ u = (L, f)) := by
  intro sz
  refine g_enter (by decide) rfl (Nat.le_of_ble_eq_true rfl) ?_
  intro p e s m below meth cd ls X hrt hlk hnm hl hsz w
  have X : gx p m cd b_R_reachFromSide 4 s _ "HullSums$Row" D cI cR := X
  have hx := X.1.1
  have hb := X.1.2.1
  have hl : lv_has ls 4 [(0, .ref a), (1, .int (iN (i)))] := hl
  have hn48 := hr.1
  refine lv_iconst (v := iN (0)) hx hb d_R_reachFromSide_0 (by decide) ?_
  refine lv_istore_n (lv' := [(2, .int (iN (0))), (0, .ref a), (1, .int (iN (i)))]) hx hb d_R_reachFromSide_1 rfl hl (by decide) rfl (fun ls hl => ?_)
  refine lv_iconst (v := iN (0)) hx hb d_R_reachFromSide_2 (by decide) ?_
  refine lv_istore_n (lv' := [(3, .int (iN (0))), (2, .int (iN (0))), (0, .ref a), (1, .int (iN (i)))]) hx hb d_R_reachFromSide_3 rfl hl (by decide) rfl (fun ls hl => ?_)
  refine g_loop (σ := Int × Int) (fun z9 => (P.length - z9.1).toNat) (fun z9 => [(0, .ref a), (1, .int (iN (i))), (2, .int (iN (z9.2))), (3, .int (iN (z9.1)))]) L (fun z9 => f) (fun z9 => 0 ≤ z9.1 ∧ z9.1 ≤ P.length ∧ z9.2 = rch P i z9.1.toNat) ?_ (0, 0) _ _ _ ⟨by omega, by omega, rfl⟩ w (lv_sub hl [2, 3, 1, 0] rfl)
  intro z9 H locs ls hI w hl ih
  obtain ⟨j, k⟩ := z9
  have hl : lv_has ls 4 [(0, .ref a), (1, .int (iN (i))), (2, .int (iN (k))), (3, .int (iN (j)))] := hl
  have w : gw D (gA L sz) s.heap H locs L (f) := w
  have hI : 0 ≤ j ∧ j ≤ P.length ∧ k = rch P i j.toNat := hI
  obtain ⟨h0, h1, h2⟩ := hI
  refine lv_iload_n hx hb d_R_reachFromSide_4 rfl (lv_at hl 3 rfl) ?_
  refine lv_aload_n hx hb d_R_reachFromSide_5 rfl (lv_at hl 0 rfl) ?_
  refine gk_get X w ho.1 hr.2.1 rfl in_R 2 (by decide) lk_R_18 rfl d_R_reachFromSide_6 ?_
  refine ri_cge (a := j) (b := (P.length : Int)) (tgt := 38) hx hb d_R_reachFromSide_9 (by decide) rfl rfl (by unfold i3; omega) (by unfold i3; omega) (fun c9 => ?_) (fun c9 => ?_)
  · skip
    refine lv_iload_n hx hb d_R_reachFromSide_38 rfl (lv_at hl 2 rfl) ?_
    exact g_iret X w hrt hlk d_R_reachFromSide_39 ⟨by rw [h2, show j.toNat = P.length by omega], rfl⟩
  · skip
    refine lv_iload_n hx hb d_R_reachFromSide_12 rfl (lv_at hl 2 rfl) ?_
    refine lv_aload_n hx hb d_R_reachFromSide_13 rfl (lv_at hl 0 rfl) ?_
    refine lv_iload_n hx hb d_R_reachFromSide_14 rfl (lv_at hl 1 rfl) ?_
    refine lv_aload_n hx hb d_R_reachFromSide_15 rfl (lv_at hl 0 rfl) ?_
    refine lv_iload_n hx hb d_R_reachFromSide_16 rfl (lv_at hl 3 rfl) ?_
    refine g_ci w (g_runV (As := [.int (iN (j))]) (rest := [.int (iN (i)), .ref a, .int (iN (k))]) X w (c_R_x l ho hr (by unfold i3; omega)) k_R_x v_R_x lk_R_22 ho.1 hr.2.1 rfl ⟨(Nat.le_of_ble_eq_true rfl), (Nat.le_of_ble_eq_true rfl)⟩ rfl hl.1 rfl (Nat.le_of_ble_eq_true rfl) d_R_reachFromSide_17 ⟨Nat.zero_le _, Nat.zero_le _⟩) (fun r u H locs hp w => ?_)
    obtain ⟨rfl, rfl⟩ := hp
    have w : gw D (gA L sz) s.heap H locs L f := w
    refine lv_aload_n hx hb d_R_reachFromSide_20 rfl (lv_at hl 0 rfl) ?_
    refine lv_iload_n hx hb d_R_reachFromSide_21 rfl (lv_at hl 3 rfl) ?_
    refine g_ci w (g_runV (As := [.int (iN (j))]) (rest := [.int (iN ((pX P j))), .int (iN (i)), .ref a, .int (iN (k))]) X w (c_R_y l ho hr (by unfold i3; omega)) k_R_y v_R_y lk_R_26 ho.1 hr.2.1 rfl ⟨(Nat.le_of_ble_eq_true rfl), (Nat.le_of_ble_eq_true rfl)⟩ rfl hl.1 rfl (Nat.le_of_ble_eq_true rfl) d_R_reachFromSide_22 ⟨Nat.zero_le _, Nat.zero_le _⟩) (fun r u H locs hp w => ?_)
    obtain ⟨rfl, rfl⟩ := hp
    have w : gw D (gA L sz) s.heap H locs L f := w
    refine g_ci w (g_runV (As := [.int (iN (i)), .int (iN ((pX P j))), .int (iN ((pY P j)))]) (rest := [.int (iN (k))]) X w (c_R_offSide l ho hr (x := (pX P j)) (y := (pY P j)) (by omega)) k_R_offSide v_R_offSide lk_R_64 ho.1 hr.2.1 rfl ⟨(Nat.le_of_ble_eq_true rfl), (Nat.le_of_ble_eq_true rfl)⟩ rfl hl.1 rfl (Nat.le_of_ble_eq_true rfl) d_R_reachFromSide_25 ⟨Nat.zero_le _, Nat.zero_le _⟩) (fun r u H locs hp w => ?_)
    obtain ⟨rfl, rfl⟩ := hp
    have w : gw D (gA L sz) s.heap H locs L f := w
    refine ri_mmax (a := k) (b := (off P i (pX P j) (pY P j))) X hl.1 lk_R_68 (Nat.le_of_ble_eq_true rfl) (Nat.le_of_ble_eq_true rfl) (Nat.zero_le _) (Nat.zero_le _) rfl rfl (by have := rch_b hB i j.toNat; unfold i3; omega) (by have := hB j; exact pT_3 hB _ _ (by omega) (by omega)) d_R_reachFromSide_28 ?_
    refine lv_istore_n (lv' := [(2, .int (iN ((max k (off P i (pX P j) (pY P j)))))), (0, .ref a), (1, .int (iN (i))), (3, .int (iN (j)))]) hx hb d_R_reachFromSide_31 rfl hl (by decide) rfl (fun ls hl => ?_)
    refine lv_iinc (v := iN ((j + 1))) (lv' := [(3, .int (iN ((j + 1)))), (2, .int (iN ((max k (off P i (pX P j) (pY P j)))))), (0, .ref a), (1, .int (iN (i)))]) hx hb d_R_reachFromSide_32 hl (k := 3) rfl (by rw [show (j + 1) = j + (1 : Int) by omega, ← iN_add]; rfl) (by decide) rfl (fun ls hl => ?_)
    refine lv_goto (tgt := 4) hx hb d_R_reachFromSide_35 (by decide) ?_
    exact ih ((j + 1), (max k (off P i (pX P j) (pY P j)))) _ _ _ (by omega) ⟨by omega, by omega, by rw [tn_s h0]; unfold rch; rw [← h2, tn_c h0]⟩ w (lv_sub hl [2, 3, 1, 0] rfl)
set_option maxHeartbeats 4000000 in
set_option maxRecDepth 100000 in
theorem c_R_doubleArea (l : Launch) {D : va_G} {cI cR : ClassId} {L : List Nat} {f : Nat → va_E} {rx ry : Nat → Nat} {a : Nat} {P : List Pt} (ho : ro L rx ry a) (hr : rowIs cI rx ry f a P) : gMi D cI cR l y_R_doubleArea (Cond.code y_R_doubleArea b_R_doubleArea 3 (some .int) :: lw_g) { frames := 1, cells := 0, slots := 0, locals := 21 } [.ref a] L f (fun r u => r = iN (dar P P.length) ∧ u = (L, f)) := by
  intro sz
  refine g_enter (by decide) rfl (Nat.le_of_ble_eq_true rfl) ?_
  intro p e s m below meth cd ls X hrt hlk hnm hl hsz w
  have X : gx p m cd b_R_doubleArea 3 s _ "HullSums$Row" D cI cR := X
  have hx := X.1.1
  have hb := X.1.2.1
  have hl : lv_has ls 3 [(0, .ref a)] := hl
  have hn48 := hr.1
  refine lv_iconst (v := iN (0)) hx hb d_R_doubleArea_0 (by decide) ?_
  refine lv_istore_n (lv' := [(1, .int (iN (0))), (0, .ref a)]) hx hb d_R_doubleArea_1 rfl hl (by decide) rfl (fun ls hl => ?_)
  refine lv_iconst (v := iN (0)) hx hb d_R_doubleArea_2 (by decide) ?_
  refine lv_istore_n (lv' := [(2, .int (iN (0))), (1, .int (iN (0))), (0, .ref a)]) hx hb d_R_doubleArea_3 rfl hl (by decide) rfl (fun ls hl => ?_)
  refine g_loop (σ := Int × Int) (fun z9 => (P.length - z9.1).toNat) (fun z9 => [(0, .ref a), (1, .int (iN (z9.2))), (2, .int (iN (z9.1)))]) L (fun z9 => f) (fun z9 => 0 ≤ z9.1 ∧ z9.1 ≤ P.length ∧ z9.2 = dar P z9.1.toNat) ?_ (0, 0) _ _ _ ⟨by omega, by omega, rfl⟩ w (lv_sub hl [2, 1, 0] rfl)
  intro z9 H locs ls hI w hl ih
  obtain ⟨i, k⟩ := z9
  have hl : lv_has ls 3 [(0, .ref a), (1, .int (iN (k))), (2, .int (iN (i)))] := hl
  have w : gw D (gA L sz) s.heap H locs L (f) := w
  have hI : 0 ≤ i ∧ i ≤ P.length ∧ k = dar P i.toNat := hI
  obtain ⟨h0, h1, h2⟩ := hI
  refine lv_iload_n hx hb d_R_doubleArea_4 rfl (lv_at hl 2 rfl) ?_
  refine lv_aload_n hx hb d_R_doubleArea_5 rfl (lv_at hl 0 rfl) ?_
  refine gk_get X w ho.1 hr.2.1 rfl in_R 2 (by decide) lk_R_18 rfl d_R_doubleArea_6 ?_
  refine ri_cge (a := i) (b := (P.length : Int)) (tgt := 52) hx hb d_R_doubleArea_9 (by decide) rfl rfl (by unfold i3; omega) (by unfold i3; omega) (fun c9 => ?_) (fun c9 => ?_)
  · skip
    refine lv_iload_n hx hb d_R_doubleArea_52 rfl (lv_at hl 1 rfl) ?_
    exact g_iret X w hrt hlk d_R_doubleArea_53 ⟨by rw [h2, show i.toNat = P.length by omega], rfl⟩
  · skip
    refine lv_iload_n hx hb d_R_doubleArea_12 rfl (lv_at hl 1 rfl) ?_
    refine lv_aload_n hx hb d_R_doubleArea_13 rfl (lv_at hl 0 rfl) ?_
    refine lv_iload_n hx hb d_R_doubleArea_14 rfl (lv_at hl 2 rfl) ?_
    refine g_ci w (g_runV (As := [.int (iN (i))]) (rest := [.int (iN (k))]) X w (c_R_x l ho hr (by unfold i3; omega)) k_R_x v_R_x lk_R_22 ho.1 hr.2.1 rfl ⟨(Nat.le_of_ble_eq_true rfl), (Nat.le_of_ble_eq_true rfl)⟩ rfl hl.1 rfl (Nat.le_of_ble_eq_true rfl) d_R_doubleArea_15 ⟨Nat.zero_le _, Nat.zero_le _⟩) (fun r u H locs hp w => ?_)
    obtain ⟨rfl, rfl⟩ := hp
    have w : gw D (gA L sz) s.heap H locs L f := w
    refine lv_aload_n hx hb d_R_doubleArea_18 rfl (lv_at hl 0 rfl) ?_
    refine lv_aload_n hx hb d_R_doubleArea_19 rfl (lv_at hl 0 rfl) ?_
    refine lv_iload_n hx hb d_R_doubleArea_20 rfl (lv_at hl 2 rfl) ?_
    refine g_ci w (g_runV (As := [.int (iN (i))]) (rest := [.ref a, .int (iN ((pX P i))), .int (iN (k))]) X w (c_R_next l ho hr (by omega)) k_R_next v_R_next lk_R_57 ho.1 hr.2.1 rfl ⟨(Nat.le_of_ble_eq_true rfl), (Nat.le_of_ble_eq_true rfl)⟩ rfl hl.1 rfl (Nat.le_of_ble_eq_true rfl) d_R_doubleArea_21 ⟨Nat.zero_le _, Nat.zero_le _⟩) (fun r u H locs hp w => ?_)
    obtain ⟨rfl, rfl⟩ := hp
    have w : gw D (gA L sz) s.heap H locs L f := w
    refine g_ci w (g_runV (As := [.int (iN ((nx P i)))]) (rest := [.int (iN ((pX P i))), .int (iN (k))]) X w (c_R_y l ho hr (by have := nx_4 (i := i) hn48 (by omega); unfold i3; omega)) k_R_y v_R_y lk_R_26 ho.1 hr.2.1 rfl ⟨(Nat.le_of_ble_eq_true rfl), (Nat.le_of_ble_eq_true rfl)⟩ rfl hl.1 rfl (Nat.le_of_ble_eq_true rfl) d_R_doubleArea_24 ⟨Nat.zero_le _, Nat.zero_le _⟩) (fun r u H locs hp w => ?_)
    obtain ⟨rfl, rfl⟩ := hp
    have w : gw D (gA L sz) s.heap H locs L f := w
    refine ri_mul (a := (pX P i)) (b := (pY P (nx P i))) hx hb d_R_doubleArea_27 rfl rfl ?_
    refine lv_aload_n hx hb d_R_doubleArea_28 rfl (lv_at hl 0 rfl) ?_
    refine lv_iload_n hx hb d_R_doubleArea_29 rfl (lv_at hl 2 rfl) ?_
    refine g_ci w (g_runV (As := [.int (iN (i))]) (rest := [.int (iN (((pX P i) * (pY P (nx P i))))), .int (iN (k))]) X w (c_R_y l ho hr (by unfold i3; omega)) k_R_y v_R_y lk_R_26 ho.1 hr.2.1 rfl ⟨(Nat.le_of_ble_eq_true rfl), (Nat.le_of_ble_eq_true rfl)⟩ rfl hl.1 rfl (Nat.le_of_ble_eq_true rfl) d_R_doubleArea_30 ⟨Nat.zero_le _, Nat.zero_le _⟩) (fun r u H locs hp w => ?_)
    obtain ⟨rfl, rfl⟩ := hp
    have w : gw D (gA L sz) s.heap H locs L f := w
    refine lv_aload_n hx hb d_R_doubleArea_33 rfl (lv_at hl 0 rfl) ?_
    refine lv_aload_n hx hb d_R_doubleArea_34 rfl (lv_at hl 0 rfl) ?_
    refine lv_iload_n hx hb d_R_doubleArea_35 rfl (lv_at hl 2 rfl) ?_
    refine g_ci w (g_runV (As := [.int (iN (i))]) (rest := [.ref a, .int (iN ((pY P i))), .int (iN (((pX P i) * (pY P (nx P i))))), .int (iN (k))]) X w (c_R_next l ho hr (by omega)) k_R_next v_R_next lk_R_57 ho.1 hr.2.1 rfl ⟨(Nat.le_of_ble_eq_true rfl), (Nat.le_of_ble_eq_true rfl)⟩ rfl hl.1 rfl (Nat.le_of_ble_eq_true rfl) d_R_doubleArea_36 ⟨Nat.zero_le _, Nat.zero_le _⟩) (fun r u H locs hp w => ?_)
    obtain ⟨rfl, rfl⟩ := hp
    have w : gw D (gA L sz) s.heap H locs L f := w
    refine g_ci w (g_runV (As := [.int (iN ((nx P i)))]) (rest := [.int (iN ((pY P i))), .int (iN (((pX P i) * (pY P (nx P i))))), .int (iN (k))]) X w (c_R_x l ho hr (by have := nx_4 (i := i) hn48 (by omega); unfold i3; omega)) k_R_x v_R_x lk_R_22 ho.1 hr.2.1 rfl ⟨(Nat.le_of_ble_eq_true rfl), (Nat.le_of_ble_eq_true rfl)⟩ rfl hl.1 rfl (Nat.le_of_ble_eq_true rfl) d_R_doubleArea_39 ⟨Nat.zero_le _, Nat.zero_le _⟩) (fun r u H locs hp w => ?_)
    obtain ⟨rfl, rfl⟩ := hp
    have w : gw D (gA L sz) s.heap H locs L f := w
    refine ri_mul (a := (pY P i)) (b := (pX P (nx P i))) hx hb d_R_doubleArea_42 rfl rfl ?_
    refine ri_sub (a := ((pX P i) * (pY P (nx P i)))) (b := ((pY P i) * (pX P (nx P i)))) hx hb d_R_doubleArea_43 rfl rfl ?_
    refine ri_add (a := k) (b := (((pX P i) * (pY P (nx P i))) - ((pY P i) * (pX P (nx P i))))) hx hb d_R_doubleArea_44 rfl rfl ?_
    refine lv_istore_n (lv' := [(1, .int (iN ((k + (((pX P i) * (pY P (nx P i))) - ((pY P i) * (pX P (nx P i)))))))), (0, .ref a), (2, .int (iN (i)))]) hx hb d_R_doubleArea_45 rfl hl (by decide) rfl (fun ls hl => ?_)
    refine lv_iinc (v := iN ((i + 1))) (lv' := [(2, .int (iN ((i + 1)))), (1, .int (iN ((k + (((pX P i) * (pY P (nx P i))) - ((pY P i) * (pX P (nx P i)))))))), (0, .ref a)]) hx hb d_R_doubleArea_46 hl (k := 2) rfl (by rw [show (i + 1) = i + (1 : Int) by omega, ← iN_add]; rfl) (by decide) rfl (fun ls hl => ?_)
    refine lv_goto (tgt := 4) hx hb d_R_doubleArea_49 (by decide) ?_
    exact ih ((i + 1), (k + (((pX P i) * (pY P (nx P i))) - ((pY P i) * (pX P (nx P i)))))) _ _ _ (by omega) ⟨by omega, by omega, by rw [tn_s h0]; unfold dar; rw [← h2, tn_c h0]⟩ w (lv_sub hl [2, 1, 0] rfl)
def gbk (x y : Int) : Prop := x < 0 ∨ (x = 0 ∧ y < 0)
set_option maxHeartbeats 4000000 in
set_option maxRecDepth 100000 in
theorem c_R_goesBack (l : Launch) {D : va_G} {cI cR : ClassId} {L : List Nat} {f : Nat → va_E} {x y : Int} (hx3 : i3 x) (hy3 : i3 y) : gMi D cI cR l y_R_goesBack (Cond.code y_R_goesBack b_R_goesBack 2 (some .boolean) :: lw_g) { frames := 0, cells := 0, slots := 0, locals := 0 } [.int (iN (x)), .int (iN (y))] L f (fun r u => r = iN (bI (gbk x y)) ∧ u = (L, f)) := by
  intro sz
  refine g_enter (by decide) rfl (Nat.le_of_ble_eq_true rfl) ?_
  intro p e s m below meth cd ls X hrt hlk hnm hl hsz w
  have X : gx p m cd b_R_goesBack 2 s _ "HullSums$Row" D cI cR := X
  have hx := X.1.1
  have hb := X.1.2.1
  have hl : lv_has ls 2 [(0, .int (iN (x))), (1, .int (iN (y)))] := hl
  refine lv_iload_n hx hb d_R_goesBack_0 rfl (lv_at hl 0 rfl) ?_
  refine ri_zlt (a := x) (tgt := 12) hx hb d_R_goesBack_1 (by decide) rfl hx3 (fun c1 => ?_) (fun c1 => ?_)
  · skip
    refine lv_iconst (v := iN (1)) hx hb d_R_goesBack_12 (by decide) ?_
    refine lv_goto (tgt := 17) hx hb d_R_goesBack_13 (by decide) ?_
    exact g_zret X w hrt hlk d_R_goesBack_17 rfl ⟨by rw [bI_t (show gbk x y by unfold gbk; omega)], rfl⟩
  · skip
    refine lv_iload_n hx hb d_R_goesBack_4 rfl (lv_at hl 0 rfl) ?_
    refine ri_zne (a := x) (tgt := 16) hx hb d_R_goesBack_5 (by decide) rfl hx3 (fun c5 => ?_) (fun c5 => ?_)
    · skip
      refine lv_iconst (v := iN (0)) hx hb d_R_goesBack_16 (by decide) ?_
      exact g_zret X w hrt hlk d_R_goesBack_17 rfl ⟨by rw [bI_f (show ¬ gbk x y by unfold gbk; omega)], rfl⟩
    · skip
      refine lv_iload_n hx hb d_R_goesBack_8 rfl (lv_at hl 1 rfl) ?_
      refine ri_zge (a := y) (tgt := 16) hx hb d_R_goesBack_9 (by decide) rfl hy3 (fun c9 => ?_) (fun c9 => ?_)
      · skip
        refine lv_iconst (v := iN (0)) hx hb d_R_goesBack_16 (by decide) ?_
        exact g_zret X w hrt hlk d_R_goesBack_17 rfl ⟨by rw [bI_f (show ¬ gbk x y by unfold gbk; omega)], rfl⟩
      · skip
        refine lv_iconst (v := iN (1)) hx hb d_R_goesBack_12 (by decide) ?_
        refine lv_goto (tgt := 17) hx hb d_R_goesBack_13 (by decide) ?_
        exact g_zret X w hrt hlk d_R_goesBack_17 rfl ⟨by rw [bI_t (show gbk x y by unfold gbk; omega)], rfl⟩
set_option maxHeartbeats 4000000 in
set_option maxRecDepth 100000 in
theorem c_H_isNear (l : Launch) {D : va_G} {cI cR : ClassId} {L : List Nat} {f : Nat → va_E} {x y : Int} (hx3 : i3 x) (hy3 : 0 ≤ y ∧ y ≤ 1000) : gMi D cI cR l y_H_isNear (Cond.code y_H_isNear b_H_isNear 2 (some .boolean) :: lw_g) { frames := 0, cells := 0, slots := 0, locals := 0 } [.int (iN (x)), .int (iN (y))] L f (fun r u => r = iN (bI (-y ≤ x ∧ x ≤ y)) ∧ u = (L, f)) := by
  intro sz
  refine g_enter (by decide) rfl (Nat.le_of_ble_eq_true rfl) ?_
  intro p e s m below meth cd ls X hrt hlk hnm hl hsz w
  have X : gx p m cd b_H_isNear 2 s _ "HullSums" D cI cR := X
  have hx := X.1.1
  have hb := X.1.2.1
  have hl : lv_has ls 2 [(0, .int (iN (x))), (1, .int (iN (y)))] := hl
  refine lv_iload_n hx hb d_H_isNear_0 rfl (lv_at hl 0 rfl) ?_
  refine lv_iload_n hx hb d_H_isNear_1 rfl (lv_at hl 1 rfl) ?_
  refine ri_neg (a := y) hx hb d_H_isNear_2 rfl ?_
  refine ri_clt (a := x) (b := (-y)) (tgt := 15) hx hb d_H_isNear_3 (by decide) rfl rfl hx3 (by unfold i3; omega) (fun c3 => ?_) (fun c3 => ?_)
  · skip
    refine lv_iconst (v := iN (0)) hx hb d_H_isNear_15 (by decide) ?_
    exact g_zret X w hrt hlk d_H_isNear_16 rfl ⟨by rw [bI_f (fun h => by have := h.1; have := h.2; omega)], rfl⟩
  · skip
    refine lv_iload_n hx hb d_H_isNear_6 rfl (lv_at hl 0 rfl) ?_
    refine lv_iload_n hx hb d_H_isNear_7 rfl (lv_at hl 1 rfl) ?_
    refine ri_cgt (a := x) (b := y) (tgt := 15) hx hb d_H_isNear_8 (by decide) rfl rfl hx3 (by unfold i3; omega) (fun c8 => ?_) (fun c8 => ?_)
    · skip
      refine lv_iconst (v := iN (0)) hx hb d_H_isNear_15 (by decide) ?_
      exact g_zret X w hrt hlk d_H_isNear_16 rfl ⟨by rw [bI_f (fun h => by have := h.1; have := h.2; omega)], rfl⟩
    · skip
      refine lv_iconst (v := iN (1)) hx hb d_H_isNear_11 (by decide) ?_
      refine lv_goto (tgt := 16) hx hb d_H_isNear_12 (by decide) ?_
      exact g_zret X w hrt hlk d_H_isNear_16 rfl ⟨by rw [bI_t ⟨by omega, by omega⟩], rfl⟩
theorem eu_inv {x y k : Int} {N : Int} (hk : 1 ≤ k) (hxy : y < x) (hy : 0 < y) (hb : x * y * 2 ^ (k - 1).toNat < N) : y * x.tmod y * 2 ^ (k + 1 - 1).toNat < N := by
  obtain ⟨h1, h2, h3⟩ := eu_step (x := x) hy (by omega)
  have h4 := h3 (by omega)
  rw [show (k + 1 - 1).toNat = (k - 1).toNat + 1 by omega, Int.pow_succ]
  have h5 : 0 ≤ (2 : Int) ^ (k - 1).toNat := Int.le_of_lt (Int.pow_pos (by decide))
  have h6 := Int.mul_le_mul_of_nonneg_right h4 h5
  grind
theorem eu_end {x y k : Int} (hk : 100 ≤ k) (hxy : y < x) (hy : 0 ≤ y) (hb : x * y * 2 ^ (k - 1).toNat < 2 ^ 96) : y = 0 := by
  by_cases h : y = 0
  · exact h
  · exfalso
    have h1 : 1 ≤ x * y := by
      have := Int.mul_pos (show 0 < x by omega) (show 0 < y by omega)
      omega
    have h2 : (2 : Int) ^ 96 ≤ 2 ^ (k - 1).toNat := by
      have : (2 : Nat) ^ 96 ≤ 2 ^ (k - 1).toNat := Nat.pow_le_pow_right (by decide) (by omega)
      exact_mod_cast this
    have h3 := Int.mul_le_mul_of_nonneg_right h1 (show (0 : Int) ≤ 2 ^ (k - 1).toNat from Int.le_of_lt (Int.pow_pos (by decide)))
    omega
theorem zabs_n (a : Int) : zabs a = a.natAbs := by unfold zabs; split <;> omega
def euI (a b k x y : Int) : Prop := 0 ≤ k ∧ k ≤ 100 ∧ 0 ≤ x ∧ 0 ≤ y ∧ Int.gcd x y = Int.gcd a b ∧ i6 x ∧ y < 2 ^ 48 ∧ (k = 0 ∨ (y < x ∧ x < 2 ^ 48 ∧ x * y * 2 ^ (k - 1).toNat < 2 ^ 96))
theorem euI_0 {a b : Int} (ha : i6 a ∧ -9223372036854775807 ≤ a) (hb48 : -281474976710656 < b ∧ b < 281474976710656) : euI a b 0 (zabs a) (zabs b) := by
  obtain ⟨⟨q1, q2⟩, q3⟩ := ha
  have e1 := zabs_n a
  have e2 := zabs_n b
  exact ⟨by omega, by omega, by omega, by omega, by rw [e1, e2]; rfl, ⟨by omega, by omega⟩, by omega, Or.inl rfl⟩
theorem euI_s {a b k x y : Int} (h : euI a b k x y) (hk : k < 100) (hy : y ≠ 0) : euI a b (k + 1) y (x.tmod y) := by
  obtain ⟨h0, h1, h2, h3, h4, h5, h6, h7⟩ := h
  have hy : 0 < y := by omega
  obtain ⟨q1, q2, q3⟩ := eu_step hy h2
  refine ⟨by omega, by omega, h3, q1, ?_, ⟨by omega, by omega⟩, by omega, Or.inr ⟨q2, h6, ?_⟩⟩
  · rw [eu_gcd h2 hy, h4]
  · rcases h7 with h7 | ⟨r1, r2, r3⟩
    · subst h7
      show y * x.tmod y * 2 ^ (0 + 1 - 1 : Int).toNat < 2 ^ 96
      have e1 : (2 : Int) ^ (0 + 1 - 1 : Int).toNat = 1 := rfl
      rw [e1, Int.mul_one]
      have := Int.mul_le_mul_of_nonneg_left (show x.tmod y ≤ 2 ^ 48 - 1 by omega) h3
      have := Int.mul_le_mul_of_nonneg_right (show y ≤ 2 ^ 48 - 1 by omega) (show (0 : Int) ≤ 2 ^ 48 - 1 by omega)
      omega
    · by_cases hk0 : k = 0
      · subst hk0
        show y * x.tmod y * 2 ^ (0 + 1 - 1 : Int).toNat < 2 ^ 96
        have e1 : (2 : Int) ^ (0 + 1 - 1 : Int).toNat = 1 := rfl
        rw [e1, Int.mul_one]
        have := Int.mul_le_mul_of_nonneg_left (show x.tmod y ≤ 2 ^ 48 - 1 by omega) h3
        have := Int.mul_le_mul_of_nonneg_right (show y ≤ 2 ^ 48 - 1 by omega) (show (0 : Int) ≤ 2 ^ 48 - 1 by omega)
        omega
      · exact eu_inv (by omega) r1 hy r3
theorem euI_e {a b k x y : Int} (h : euI a b k x y) (hk : 100 ≤ k ∨ y = 0) : x = Int.gcd a b := by
  obtain ⟨h0, h1, h2, h3, h4, h5, h6, h7⟩ := h
  have hy : y = 0 := by
    rcases hk with hk | hk
    · rcases h7 with h7 | ⟨r1, r2, r3⟩
      · omega
      · exact eu_end hk r1 h3 r3
    · exact hk
  subst hy
  rw [← h4, Int.gcd_zero_right]
  omega

set_option maxHeartbeats 4000000 in
set_option maxRecDepth 100000 in
theorem c_H_commonDivisor (l : Launch) {D : va_G} {cI cR : ClassId} {L : List Nat} {f : Nat → va_E} {a b : Int} (ha : i6 a ∧ -9223372036854775807 ≤ a) (hb48 : -281474976710656 < b ∧ b < 281474976710656) : gMl D cI cR l y_H_commonDivisor (Cond.code y_H_commonDivisor b_H_commonDivisor 11 (some .long) :: lw_g) { frames := 1, cells := 0, slots := 0, locals := 21 } [.long (jN (a)), .long (jN (b))] L f (fun r u => r = jN (Int.gcd a b) ∧ u = (L, f)) := by
  obtain ⟨ha, ha'⟩ := ha
  intro sz
  refine g_enter (by decide) rfl (Nat.le_of_ble_eq_true rfl) ?_
  intro p e s m below meth cd ls X hrt hlk hnm hl hsz w
  have X : gx p m cd b_H_commonDivisor 11 s _ "HullSums" D cI cR := X
  have hx := X.1.1
  have hb := X.1.2.1
  have hl : lv_has ls 11 [(0, .long (jN (a))), (2, .long (jN (b)))] := hl
  refine lv_lload_n hx hb d_H_commonDivisor_0 rfl (lv_at hl 0 rfl) ?_
  refine rj_mabs (a := a) X hl.1 lk_H_198 (Nat.le_of_ble_eq_true rfl) (Nat.le_of_ble_eq_true rfl) (Nat.zero_le _) (Nat.zero_le _) rfl ha d_H_commonDivisor_1 ?_
  refine lv_lstore (lv' := [(4, .long (jN ((zabs a)))), (0, .long (jN (a))), (2, .long (jN (b)))]) hx hb d_H_commonDivisor_4 hl (by decide) rfl (fun ls hl => ?_)
  refine lv_lload_n hx hb d_H_commonDivisor_6 rfl (lv_at hl 2 rfl) ?_
  refine rj_mabs (a := b) X hl.1 lk_H_198 (Nat.le_of_ble_eq_true rfl) (Nat.le_of_ble_eq_true rfl) (Nat.zero_le _) (Nat.zero_le _) rfl (by unfold i6; omega) d_H_commonDivisor_7 ?_
  refine lv_lstore (lv' := [(6, .long (jN ((zabs b)))), (4, .long (jN ((zabs a)))), (0, .long (jN (a))), (2, .long (jN (b)))]) hx hb d_H_commonDivisor_10 hl (by decide) rfl (fun ls hl => ?_)
  refine lv_iconst (v := iN (0)) hx hb d_H_commonDivisor_12 (by decide) ?_
  refine lv_istore (lv' := [(8, .int (iN (0))), (6, .long (jN ((zabs b)))), (4, .long (jN ((zabs a)))), (0, .long (jN (a))), (2, .long (jN (b)))]) hx hb d_H_commonDivisor_13 hl (by decide) rfl (fun ls hl => ?_)
  refine g_loop (σ := Int × Int × Int) (fun z9 => (100 - z9.1).toNat) (fun z9 => [(4, .long (jN (z9.2.1))), (6, .long (jN (z9.2.2))), (8, .int (iN (z9.1)))]) L (fun z9 => f) (fun z9 => euI a b z9.1 z9.2.1 z9.2.2) ?_ (0, (zabs a), (zabs b)) _ _ _ (euI_0 ⟨ha, ha'⟩ hb48) w (lv_sub hl [2, 1, 0] rfl)
  intro z9 H locs ls hI w hl ih
  obtain ⟨k, x, y⟩ := z9
  have hl : lv_has ls 11 [(4, .long (jN (x))), (6, .long (jN (y))), (8, .int (iN (k)))] := hl
  have w : gw D (gA L sz) s.heap H locs L (f) := w
  have hI : euI a b k x y := hI
  have hI0 := hI.1
  have hI1 := hI.2.1
  have hI3 := hI.2.2.2.1
  have hI6 := hI.2.2.2.2.2.2.1
  refine lv_iload hx hb d_H_commonDivisor_15 (lv_at hl 2 rfl) ?_
  refine lv_bipush (v := iN (100)) hx hb d_H_commonDivisor_17 (by decide) ?_
  refine ri_cge (a := k) (b := 100) (tgt := 50) hx hb d_H_commonDivisor_19 (by decide) rfl rfl (by unfold i3; omega) (by unfold i3; omega) (fun c19 => ?_) (fun c19 => ?_)
  · skip
    refine lv_lload hx hb d_H_commonDivisor_50 (lv_at hl 0 rfl) ?_
    exact g_lret X w hrt hlk d_H_commonDivisor_52 ⟨by rw [euI_e hI (by omega)], rfl⟩
  · skip
    refine lv_lload hx hb d_H_commonDivisor_22 (lv_at hl 1 rfl) ?_
    refine lv_lconst (v := jN (0)) hx hb d_H_commonDivisor_24 (by decide) ?_
    refine rj_ceq (a := y) (b := 0) (tgt := 50) hx hb d_H_commonDivisor_25 d_H_commonDivisor_26 (by decide) rfl rfl (by unfold i6; omega) (by unfold i6; omega) (fun c25 => ?_) (fun c25 => ?_)
    · skip
      refine lv_lload hx hb d_H_commonDivisor_50 (lv_at hl 0 rfl) ?_
      exact g_lret X w hrt hlk d_H_commonDivisor_52 ⟨by rw [euI_e hI (by omega)], rfl⟩
    · skip
      refine lv_lload hx hb d_H_commonDivisor_29 (lv_at hl 0 rfl) ?_
      refine lv_lload hx hb d_H_commonDivisor_31 (lv_at hl 1 rfl) ?_
      refine rj_rem (a := x) (b := y) hx hb d_H_commonDivisor_33 rfl rfl hI.2.2.2.2.2.1 (by have := hI.2.2.2.1; have := hI.2.2.2.2.2.2.1; unfold i6; omega) (by omega) ?_
      refine lv_lstore (lv' := [(9, .long (jN ((x.tmod y)))), (4, .long (jN (x))), (6, .long (jN (y))), (8, .int (iN (k)))]) hx hb d_H_commonDivisor_34 hl (by decide) rfl (fun ls hl => ?_)
      refine lv_lload hx hb d_H_commonDivisor_36 (lv_at hl 2 rfl) ?_
      refine lv_lstore (lv' := [(4, .long (jN (y))), (9, .long (jN ((x.tmod y)))), (6, .long (jN (y))), (8, .int (iN (k)))]) hx hb d_H_commonDivisor_38 hl (by decide) rfl (fun ls hl => ?_)
      refine lv_lload hx hb d_H_commonDivisor_40 (lv_at hl 1 rfl) ?_
      refine lv_lstore (lv' := [(6, .long (jN ((x.tmod y)))), (4, .long (jN (y))), (9, .long (jN ((x.tmod y)))), (8, .int (iN (k)))]) hx hb d_H_commonDivisor_42 hl (by decide) rfl (fun ls hl => ?_)
      refine lv_iinc (v := iN ((k + 1))) (lv' := [(8, .int (iN ((k + 1)))), (6, .long (jN ((x.tmod y)))), (4, .long (jN (y))), (9, .long (jN ((x.tmod y))))]) hx hb d_H_commonDivisor_44 hl (k := 3) rfl (by rw [show (k + 1) = k + (1 : Int) by omega, ← iN_add]; rfl) (by decide) rfl (fun ls hl => ?_)
      refine lv_goto (tgt := 15) hx hb d_H_commonDivisor_47 (by decide) ?_
      exact ih ((k + 1), y, (x.tmod y)) _ _ _ (by omega) (euI_s hI (by omega) (by omega)) w (lv_sub hl [2, 1, 0] rfl)
set_option maxHeartbeats 4000000 in
set_option maxRecDepth 100000 in
theorem c_R_gridSteps (l : Launch) {D : va_G} {cI cR : ClassId} {L : List Nat} {f : Nat → va_E} {rx ry : Nat → Nat} {a : Nat} {P : List Pt} (ho : ro L rx ry a) (hr : rowIs cI rx ry f a P) (hB : pb 600 P) : gMi D cI cR l y_R_gridSteps (Cond.code y_R_gridSteps b_R_gridSteps 3 (some .int) :: lw_g) { frames := 2, cells := 0, slots := 0, locals := 51 } [.ref a] L f (fun r u => r = iN (gst P (sd P).toNat) ∧ u = (L, f)) := by
  intro sz
  refine g_enter (by decide) rfl (Nat.le_of_ble_eq_true rfl) ?_
  intro p e s m below meth cd ls X hrt hlk hnm hl hsz w
  have X : gx p m cd b_R_gridSteps 3 s _ "HullSums$Row" D cI cR := X
  have hx := X.1.1
  have hb := X.1.2.1
  have hl : lv_has ls 3 [(0, .ref a)] := hl
  have hn48 := hr.1
  refine lv_iconst (v := iN (0)) hx hb d_R_gridSteps_0 (by decide) ?_
  refine lv_istore_n (lv' := [(1, .int (iN (0))), (0, .ref a)]) hx hb d_R_gridSteps_1 rfl hl (by decide) rfl (fun ls hl => ?_)
  refine lv_iconst (v := iN (0)) hx hb d_R_gridSteps_2 (by decide) ?_
  refine lv_istore_n (lv' := [(2, .int (iN (0))), (1, .int (iN (0))), (0, .ref a)]) hx hb d_R_gridSteps_3 rfl hl (by decide) rfl (fun ls hl => ?_)
  refine g_loop (σ := Int × Int) (fun z9 => (sd P - z9.1).toNat) (fun z9 => [(0, .ref a), (1, .int (iN (z9.2))), (2, .int (iN (z9.1)))]) L (fun z9 => f) (fun z9 => 0 ≤ z9.1 ∧ z9.1 ≤ sd P ∧ sd P ≤ 48 ∧ z9.2 = gst P z9.1.toNat) ?_ (0, 0) _ _ _ ⟨by omega, by unfold sd; split <;> omega, by unfold sd; split <;> omega, rfl⟩ w (lv_sub hl [2, 1, 0] rfl)
  intro z9 H locs ls hI w hl ih
  obtain ⟨i, k⟩ := z9
  have hl : lv_has ls 3 [(0, .ref a), (1, .int (iN (k))), (2, .int (iN (i)))] := hl
  have w : gw D (gA L sz) s.heap H locs L (f) := w
  have hI : 0 ≤ i ∧ i ≤ sd P ∧ sd P ≤ 48 ∧ k = gst P i.toNat := hI
  obtain ⟨h0, h1, h3, h2⟩ := hI
  refine lv_iload_n hx hb d_R_gridSteps_4 rfl (lv_at hl 2 rfl) ?_
  refine lv_aload_n hx hb d_R_gridSteps_5 rfl (lv_at hl 0 rfl) ?_
  refine g_ci w (g_runV (As := []) (rest := [.int (iN (i))]) X w (c_R_sides l ho hr) k_R_sides v_R_sides lk_R_88 ho.1 hr.2.1 rfl ⟨(Nat.le_of_ble_eq_true rfl), (Nat.le_of_ble_eq_true rfl)⟩ rfl hl.1 rfl (Nat.le_of_ble_eq_true rfl) d_R_gridSteps_6 ⟨Nat.zero_le _, Nat.zero_le _⟩) (fun r u H locs hp w => ?_)
  obtain ⟨rfl, rfl⟩ := hp
  have w : gw D (gA L sz) s.heap H locs L f := w
  refine ri_cge (a := i) (b := (sd P)) (tgt := 37) hx hb d_R_gridSteps_9 (by decide) rfl rfl (by unfold i3; omega) (by unfold sd i3; split <;> omega) (fun c9 => ?_) (fun c9 => ?_)
  · skip
    refine lv_iload_n hx hb d_R_gridSteps_37 rfl (lv_at hl 1 rfl) ?_
    exact g_iret X w hrt hlk d_R_gridSteps_38 ⟨by rw [h2, show i = sd P by omega], rfl⟩
  · skip
    refine lv_iload_n hx hb d_R_gridSteps_12 rfl (lv_at hl 1 rfl) ?_
    refine lv_aload_n hx hb d_R_gridSteps_13 rfl (lv_at hl 0 rfl) ?_
    refine lv_iload_n hx hb d_R_gridSteps_14 rfl (lv_at hl 2 rfl) ?_
    refine g_ci w (g_runV (As := [.int (iN (i))]) (rest := [.int (iN (k))]) X w (c_R_sideX l ho hr (by omega)) k_R_sideX v_R_sideX lk_R_73 ho.1 hr.2.1 rfl ⟨(Nat.le_of_ble_eq_true rfl), (Nat.le_of_ble_eq_true rfl)⟩ rfl hl.1 rfl (Nat.le_of_ble_eq_true rfl) d_R_gridSteps_15 ⟨Nat.zero_le _, Nat.zero_le _⟩) (fun r u H locs hp w => ?_)
    obtain ⟨rfl, rfl⟩ := hp
    have w : gw D (gA L sz) s.heap H locs L f := w
    refine ri_i2l (a := (sX P i)) hx hb d_R_gridSteps_18 rfl (by have := hB i; have := hB (nx P i); unfold sX i3; omega) ?_
    refine lv_aload_n hx hb d_R_gridSteps_19 rfl (lv_at hl 0 rfl) ?_
    refine lv_iload_n hx hb d_R_gridSteps_20 rfl (lv_at hl 2 rfl) ?_
    refine g_ci w (g_runV (As := [.int (iN (i))]) (rest := [.long (jN ((sX P i))), .int (iN (k))]) X w (c_R_sideY l ho hr (by omega)) k_R_sideY v_R_sideY lk_R_76 ho.1 hr.2.1 rfl ⟨(Nat.le_of_ble_eq_true rfl), (Nat.le_of_ble_eq_true rfl)⟩ rfl hl.1 rfl (Nat.le_of_ble_eq_true rfl) d_R_gridSteps_21 ⟨Nat.zero_le _, Nat.zero_le _⟩) (fun r u H locs hp w => ?_)
    obtain ⟨rfl, rfl⟩ := hp
    have w : gw D (gA L sz) s.heap H locs L f := w
    refine ri_i2l (a := (sY P i)) hx hb d_R_gridSteps_24 rfl (by have := hB i; have := hB (nx P i); unfold sY i3; omega) ?_
    refine g_cl w (g_runSN (As := [.long (jN ((sX P i))), .long (jN ((sY P i)))]) (rest := [.int (iN (k))]) X w (c_H_commonDivisor l (by have := hB i; have := hB (nx P i); unfold sX i6; omega) (by have := hB i; have := hB (nx P i); unfold sY; omega)) k_H_commonDivisor X.2.2.2.2 st_H_commonDivisor ⟨(Nat.le_of_ble_eq_true rfl), (Nat.le_of_ble_eq_true rfl)⟩ rfl hl.1 rfl (Nat.le_of_ble_eq_true rfl) d_R_gridSteps_25 ⟨Nat.zero_le _, Nat.zero_le _⟩) (fun r u H locs hp w => ?_)
    obtain ⟨rfl, rfl⟩ := hp
    have w : gw D (gA L sz) s.heap H locs L f := w
    have hsd : sd P ≤ P.length := by unfold sd; split <;> omega
    refine ri_l2i (a := ((Int.gcd (sX P i) (sY P i) : Nat) : Int)) hx hb d_R_gridSteps_28 rfl (by have := hB i; have := hB (nx P i); have := gcd_b (a := sX P i) (b := sY P i) (B := 1200) (by unfold sX; omega) (by unfold sY; omega); unfold i6; omega) ?_
    refine ri_add (a := k) (b := ((Int.gcd (sX P i) (sY P i) : Nat) : Int)) hx hb d_R_gridSteps_29 rfl rfl ?_
    refine lv_istore_n (lv' := [(1, .int (iN ((k + ((Int.gcd (sX P i) (sY P i) : Nat) : Int))))), (0, .ref a), (2, .int (iN (i)))]) hx hb d_R_gridSteps_30 rfl hl (by decide) rfl (fun ls hl => ?_)
    refine lv_iinc (v := iN ((i + 1))) (lv' := [(2, .int (iN ((i + 1)))), (1, .int (iN ((k + ((Int.gcd (sX P i) (sY P i) : Nat) : Int))))), (0, .ref a)]) hx hb d_R_gridSteps_31 hl (k := 2) rfl (by rw [show (i + 1) = i + (1 : Int) by omega, ← iN_add]; rfl) (by decide) rfl (fun ls hl => ?_)
    refine lv_goto (tgt := 4) hx hb d_R_gridSteps_34 (by decide) ?_
    exact ih ((i + 1), (k + ((Int.gcd (sX P i) (sY P i) : Nat) : Int))) _ _ _ (by omega) ⟨by omega, by omega, h3, by rw [tn_s h0]; unfold gst; rw [← h2, tn_c h0]⟩ w (lv_sub hl [2, 1, 0] rfl)
theorem gs_b {P : List Pt} (h : pb 600 P) (hn : P.length ≤ 48) : 0 ≤ gst P (sd P).toNat ∧ gst P (sd P).toNat ≤ 57600 := by
  have h1 := gst_b h (sd P).toNat
  have : sd P ≤ 48 := by unfold sd; split <;> omega
  omega
def gob (P : List Pt) : Int := if P.length = 0 then 0 else if P.length < 3 then (gst P (sd P).toNat).tdiv 2 + 1 else gst P (sd P).toNat
def gwg (P : List Pt) (k : Int) : Int := if P.length = 0 then 0 else (dar P P.length * k * k + gst P (sd P).toNat * k + 2).tdiv 2
theorem gwg_b {P : List Pt} (h : pb 600 P) (hn : P.length ≤ 48) {k : Int} (hk : 0 ≤ k ∧ k ≤ 6) : i3 (dar P P.length * k * k + gst P (sd P).toNat * k + 2) := by
  have h1 := gs_b h hn
  have h2 := dar_b h P.length
  have q1 := mbc (a := dar P P.length) (b := k) 34560000 6 207360000 (by omega) (by omega) (by omega) (by omega) (by decide)
  have q2 := mbc (a := dar P P.length * k) (b := k) 207360000 6 1244160000 (by omega) (by omega) (by omega) (by omega) (by decide)
  have q3 := mbc (a := gst P (sd P).toNat) (b := k) 57600 6 345600 (by omega) (by omega) (by omega) (by omega) (by decide)
  unfold i3; omega
set_option maxHeartbeats 4000000 in
set_option maxRecDepth 100000 in
theorem c_R_gridOnBorder (l : Launch) {D : va_G} {cI cR : ClassId} {L : List Nat} {f : Nat → va_E} {rx ry : Nat → Nat} {a : Nat} {P : List Pt} (ho : ro L rx ry a) (hr : rowIs cI rx ry f a P) (hB : pb 600 P) : gMi D cI cR l y_R_gridOnBorder (Cond.code y_R_gridOnBorder b_R_gridOnBorder 1 (some .int) :: lw_g) { frames := 3, cells := 0, slots := 0, locals := 73 } [.ref a] L f (fun r u => r = iN (gob P) ∧ u = (L, f)) := by
  intro sz
  refine g_enter (by decide) rfl (Nat.le_of_ble_eq_true rfl) ?_
  intro p e s m below meth cd ls X hrt hlk hnm hl hsz w
  have X : gx p m cd b_R_gridOnBorder 1 s _ "HullSums$Row" D cI cR := X
  have hx := X.1.1
  have hb := X.1.2.1
  have hl : lv_has ls 1 [(0, .ref a)] := hl
  have hn48 := hr.1
  refine lv_aload_n hx hb d_R_gridOnBorder_0 rfl (lv_at hl 0 rfl) ?_
  refine gk_get X w ho.1 hr.2.1 rfl in_R 2 (by decide) lk_R_18 rfl d_R_gridOnBorder_1 ?_
  refine ri_zne (a := (P.length : Int)) (tgt := 9) hx hb d_R_gridOnBorder_4 (by decide) rfl (by unfold i3; omega) (fun c4 => ?_) (fun c4 => ?_)
  · skip
    refine lv_aload_n hx hb d_R_gridOnBorder_9 rfl (lv_at hl 0 rfl) ?_
    refine gk_get X w ho.1 hr.2.1 rfl in_R 2 (by decide) lk_R_18 rfl d_R_gridOnBorder_10 ?_
    refine lv_iconst (v := iN (3)) hx hb d_R_gridOnBorder_13 (by decide) ?_
    refine ri_cge (a := (P.length : Int)) (b := 3) (tgt := 28) hx hb d_R_gridOnBorder_14 (by decide) rfl rfl (by unfold i3; omega) (by unfold i3; omega) (fun c14 => ?_) (fun c14 => ?_)
    · skip
      refine lv_aload_n hx hb d_R_gridOnBorder_28 rfl (lv_at hl 0 rfl) ?_
      refine g_ci w (g_runV (As := []) (rest := []) X w (c_R_gridSteps l ho hr hB) k_R_gridSteps v_R_gridSteps lk_R_95 ho.1 hr.2.1 rfl ⟨(Nat.le_of_ble_eq_true rfl), (Nat.le_of_ble_eq_true rfl)⟩ rfl hl.1 rfl (Nat.le_of_ble_eq_true rfl) d_R_gridOnBorder_29 ⟨Nat.zero_le _, Nat.zero_le _⟩) (fun r u H locs hp w => ?_)
      obtain ⟨rfl, rfl⟩ := hp
      have w : gw D (gA L sz) s.heap H locs L f := w
      exact g_iret X w hrt hlk d_R_gridOnBorder_32 ⟨by unfold gob; rw [if_neg (by omega), if_neg (by omega)], rfl⟩
    · skip
      refine lv_aload_n hx hb d_R_gridOnBorder_17 rfl (lv_at hl 0 rfl) ?_
      refine g_ci w (g_runV (As := []) (rest := []) X w (c_R_gridSteps l ho hr hB) k_R_gridSteps v_R_gridSteps lk_R_95 ho.1 hr.2.1 rfl ⟨(Nat.le_of_ble_eq_true rfl), (Nat.le_of_ble_eq_true rfl)⟩ rfl hl.1 rfl (Nat.le_of_ble_eq_true rfl) d_R_gridOnBorder_18 ⟨Nat.zero_le _, Nat.zero_le _⟩) (fun r u H locs hp w => ?_)
      obtain ⟨rfl, rfl⟩ := hp
      have w : gw D (gA L sz) s.heap H locs L f := w
      refine lv_iconst (v := iN (2)) hx hb d_R_gridOnBorder_21 (by decide) ?_
      refine ri_div (a := (gst P (sd P).toNat)) (b := 2) hx hb d_R_gridOnBorder_22 rfl rfl (by have := gs_b hB hn48; unfold i3; omega) (by unfold i3; omega) (by decide) ?_
      refine lv_iconst (v := iN (1)) hx hb d_R_gridOnBorder_23 (by decide) ?_
      refine ri_add (a := ((gst P (sd P).toNat).tdiv 2)) (b := 1) hx hb d_R_gridOnBorder_24 rfl rfl ?_
      refine lv_goto (tgt := 32) hx hb d_R_gridOnBorder_25 (by decide) ?_
      exact g_iret X w hrt hlk d_R_gridOnBorder_32 ⟨by unfold gob; rw [if_neg (by omega), if_pos (by omega)], rfl⟩
  · skip
    refine lv_iconst (v := iN (0)) hx hb d_R_gridOnBorder_7 (by decide) ?_
    exact g_iret X w hrt hlk d_R_gridOnBorder_8 ⟨by unfold gob; rw [if_pos (by omega)], rfl⟩
set_option maxHeartbeats 4000000 in
set_option maxRecDepth 100000 in
theorem c_R_gridWhenGrown (l : Launch) {D : va_G} {cI cR : ClassId} {L : List Nat} {f : Nat → va_E} {rx ry : Nat → Nat} {a : Nat} {P : List Pt} (ho : ro L rx ry a) (hr : rowIs cI rx ry f a P) (hB : pb 600 P) {k : Int} (hk : 0 ≤ k ∧ k ≤ 6) : gMi D cI cR l y_R_gridWhenGrown (Cond.code y_R_gridWhenGrown b_R_gridWhenGrown 2 (some .int) :: lw_g) { frames := 3, cells := 0, slots := 0, locals := 73 } [.ref a, .int (iN (k))] L f (fun r u => r = iN (gwg P k) ∧ u = (L, f)) := by
  intro sz
  refine g_enter (by decide) rfl (Nat.le_of_ble_eq_true rfl) ?_
  intro p e s m below meth cd ls X hrt hlk hnm hl hsz w
  have X : gx p m cd b_R_gridWhenGrown 2 s _ "HullSums$Row" D cI cR := X
  have hx := X.1.1
  have hb := X.1.2.1
  have hl : lv_has ls 2 [(0, .ref a), (1, .int (iN (k)))] := hl
  have hn48 := hr.1
  refine lv_aload_n hx hb d_R_gridWhenGrown_0 rfl (lv_at hl 0 rfl) ?_
  refine gk_get X w ho.1 hr.2.1 rfl in_R 2 (by decide) lk_R_18 rfl d_R_gridWhenGrown_1 ?_
  refine ri_zne (a := (P.length : Int)) (tgt := 11) hx hb d_R_gridWhenGrown_4 (by decide) rfl (by unfold i3; omega) (fun c4 => ?_) (fun c4 => ?_)
  · skip
    refine lv_aload_n hx hb d_R_gridWhenGrown_11 rfl (lv_at hl 0 rfl) ?_
    refine g_ci w (g_runV (As := []) (rest := []) X w (c_R_doubleArea l ho hr) k_R_doubleArea v_R_doubleArea lk_R_98 ho.1 hr.2.1 rfl ⟨(Nat.le_of_ble_eq_true rfl), (Nat.le_of_ble_eq_true rfl)⟩ rfl hl.1 rfl (Nat.le_of_ble_eq_true rfl) d_R_gridWhenGrown_12 ⟨Nat.zero_le _, Nat.zero_le _⟩) (fun r u H locs hp w => ?_)
    obtain ⟨rfl, rfl⟩ := hp
    have w : gw D (gA L sz) s.heap H locs L f := w
    refine lv_iload_n hx hb d_R_gridWhenGrown_15 rfl (lv_at hl 1 rfl) ?_
    refine ri_mul (a := (dar P P.length)) (b := k) hx hb d_R_gridWhenGrown_16 rfl rfl ?_
    refine lv_iload_n hx hb d_R_gridWhenGrown_17 rfl (lv_at hl 1 rfl) ?_
    refine ri_mul (a := ((dar P P.length) * k)) (b := k) hx hb d_R_gridWhenGrown_18 rfl rfl ?_
    refine lv_aload_n hx hb d_R_gridWhenGrown_19 rfl (lv_at hl 0 rfl) ?_
    refine g_ci w (g_runV (As := []) (rest := [.int (iN ((((dar P P.length) * k) * k)))]) X w (c_R_gridSteps l ho hr hB) k_R_gridSteps v_R_gridSteps lk_R_95 ho.1 hr.2.1 rfl ⟨(Nat.le_of_ble_eq_true rfl), (Nat.le_of_ble_eq_true rfl)⟩ rfl hl.1 rfl (Nat.le_of_ble_eq_true rfl) d_R_gridWhenGrown_20 ⟨Nat.zero_le _, Nat.zero_le _⟩) (fun r u H locs hp w => ?_)
    obtain ⟨rfl, rfl⟩ := hp
    have w : gw D (gA L sz) s.heap H locs L f := w
    refine lv_iload_n hx hb d_R_gridWhenGrown_23 rfl (lv_at hl 1 rfl) ?_
    refine ri_mul (a := (gst P (sd P).toNat)) (b := k) hx hb d_R_gridWhenGrown_24 rfl rfl ?_
    refine ri_add (a := (((dar P P.length) * k) * k)) (b := ((gst P (sd P).toNat) * k)) hx hb d_R_gridWhenGrown_25 rfl rfl ?_
    refine lv_iconst (v := iN (2)) hx hb d_R_gridWhenGrown_26 (by decide) ?_
    refine ri_add (a := ((((dar P P.length) * k) * k) + ((gst P (sd P).toNat) * k))) (b := 2) hx hb d_R_gridWhenGrown_27 rfl rfl ?_
    refine lv_iconst (v := iN (2)) hx hb d_R_gridWhenGrown_28 (by decide) ?_
    refine ri_div (a := (((((dar P P.length) * k) * k) + ((gst P (sd P).toNat) * k)) + 2)) (b := 2) hx hb d_R_gridWhenGrown_29 rfl rfl (gwg_b hB hn48 hk) (by unfold i3; omega) (by decide) ?_
    exact g_iret X w hrt hlk d_R_gridWhenGrown_30 ⟨by unfold gwg; rw [if_neg (by omega)], rfl⟩
  · skip
    refine lv_iconst (v := iN (0)) hx hb d_R_gridWhenGrown_7 (by decide) ?_
    refine lv_goto (tgt := 30) hx hb d_R_gridWhenGrown_8 (by decide) ?_
    exact g_iret X w hrt hlk d_R_gridWhenGrown_30 ⟨by unfold gwg; rw [if_pos (by omega)], rfl⟩
def wth (P : List Pt) (n r : Int) : Prop := ∀ i : Int, 0 ≤ i → i < n → (-r ≤ pX P i ∧ pX P i ≤ r) ∧ (-r ≤ pY P i ∧ pY P i ≤ r)
set_option maxHeartbeats 4000000 in
set_option maxRecDepth 100000 in
theorem c_R_isWithin (l : Launch) {D : va_G} {cI cR : ClassId} {L : List Nat} {f : Nat → va_E} {rx ry : Nat → Nat} {a : Nat} {P : List Pt} (ho : ro L rx ry a) (hr : rowIs cI rx ry f a P) (hB : pb 600 P) {r0 : Int} (hr0 : 0 ≤ r0 ∧ r0 ≤ 1000) : gMi D cI cR l y_R_isWithin (Cond.code y_R_isWithin b_R_isWithin 3 (some .boolean) :: lw_g) { frames := 1, cells := 0, slots := 0, locals := 21 } [.ref a, .int (iN (r0))] L f (fun r u => r = iN (bI (wth P P.length r0)) ∧ u = (L, f)) := by
  intro sz
  refine g_enter (by decide) rfl (Nat.le_of_ble_eq_true rfl) ?_
  intro p e s m below meth cd ls X hrt hlk hnm hl hsz w
  have X : gx p m cd b_R_isWithin 3 s _ "HullSums$Row" D cI cR := X
  have hx := X.1.1
  have hb := X.1.2.1
  have hl : lv_has ls 3 [(0, .ref a), (1, .int (iN (r0)))] := hl
  have hn48 := hr.1
  refine lv_iconst (v := iN (0)) hx hb d_R_isWithin_0 (by decide) ?_
  refine lv_istore_n (lv' := [(2, .int (iN (0))), (0, .ref a), (1, .int (iN (r0)))]) hx hb d_R_isWithin_1 rfl hl (by decide) rfl (fun ls hl => ?_)
  refine g_loop (σ := Int) (fun z9 => (P.length - z9).toNat) (fun z9 => [(0, .ref a), (1, .int (iN (r0))), (2, .int (iN (z9)))]) L (fun z9 => f) (fun z9 => 0 ≤ z9 ∧ z9 ≤ P.length ∧ wth P z9 r0) ?_ 0 _ _ _ ⟨by omega, by omega, fun _ q0 q1 => by omega⟩ w (lv_sub hl [1, 2, 0] rfl)
  intro i H locs ls hI w hl ih
  have hl : lv_has ls 3 [(0, .ref a), (1, .int (iN (r0))), (2, .int (iN (i)))] := hl
  have w : gw D (gA L sz) s.heap H locs L (f) := w
  have hI : 0 ≤ i ∧ i ≤ P.length ∧ wth P i r0 := hI
  obtain ⟨h0, h1, h2⟩ := hI
  refine lv_iload_n hx hb d_R_isWithin_2 rfl (lv_at hl 2 rfl) ?_
  refine lv_aload_n hx hb d_R_isWithin_3 rfl (lv_at hl 0 rfl) ?_
  refine gk_get X w ho.1 hr.2.1 rfl in_R 2 (by decide) lk_R_18 rfl d_R_isWithin_4 ?_
  refine ri_cge (a := i) (b := (P.length : Int)) (tgt := 42) hx hb d_R_isWithin_7 (by decide) rfl rfl (by unfold i3; omega) (by unfold i3; omega) (fun c7 => ?_) (fun c7 => ?_)
  · skip
    refine lv_iconst (v := iN (1)) hx hb d_R_isWithin_42 (by decide) ?_
    exact g_zret X w hrt hlk d_R_isWithin_43 rfl ⟨by rw [bI_t (by rw [show (P.length : Int) = i by omega]; exact h2)], rfl⟩
  · skip
    refine lv_aload_n hx hb d_R_isWithin_10 rfl (lv_at hl 0 rfl) ?_
    refine lv_iload_n hx hb d_R_isWithin_11 rfl (lv_at hl 2 rfl) ?_
    refine g_ci w (g_runV (As := [.int (iN (i))]) (rest := []) X w (c_R_x l ho hr (by unfold i3; omega)) k_R_x v_R_x lk_R_22 ho.1 hr.2.1 rfl ⟨(Nat.le_of_ble_eq_true rfl), (Nat.le_of_ble_eq_true rfl)⟩ rfl hl.1 rfl (Nat.le_of_ble_eq_true rfl) d_R_isWithin_12 ⟨Nat.zero_le _, Nat.zero_le _⟩) (fun r u H locs hp w => ?_)
    obtain ⟨rfl, rfl⟩ := hp
    have w : gw D (gA L sz) s.heap H locs L f := w
    refine lv_iload_n hx hb d_R_isWithin_15 rfl (lv_at hl 1 rfl) ?_
    refine g_ci w (g_runSN (As := [.int (iN ((pX P i))), .int (iN (r0))]) (rest := []) X w (c_H_isNear l (pX_3 hB _) hr0) k_H_isNear X.2.2.2.1 st_H_isNear ⟨(Nat.le_of_ble_eq_true rfl), (Nat.le_of_ble_eq_true rfl)⟩ rfl hl.1 rfl (Nat.le_of_ble_eq_true rfl) d_R_isWithin_16 ⟨Nat.zero_le _, Nat.zero_le _⟩) (fun r u H locs hp w => ?_)
    obtain ⟨rfl, rfl⟩ := hp
    have w : gw D (gA L sz) s.heap H locs L f := w
    refine ri_zeq (a := (bI (-r0 ≤ (pX P i) ∧ (pX P i) ≤ r0))) (tgt := 34) hx hb d_R_isWithin_19 (by decide) rfl (bI_3 _) (fun c19 => ?_) (fun c19 => ?_)
    · skip
      refine lv_iconst (v := iN (0)) hx hb d_R_isWithin_34 (by decide) ?_
      exact g_zret X w hrt hlk d_R_isWithin_35 rfl ⟨by rw [bI_f (fun h => by have q := h i h0 (by omega); first | exact bI_0 c19 q.1 | exact bI_0 (by omega) q.2)], rfl⟩
    · skip
      refine lv_aload_n hx hb d_R_isWithin_22 rfl (lv_at hl 0 rfl) ?_
      refine lv_iload_n hx hb d_R_isWithin_23 rfl (lv_at hl 2 rfl) ?_
      refine g_ci w (g_runV (As := [.int (iN (i))]) (rest := []) X w (c_R_y l ho hr (by unfold i3; omega)) k_R_y v_R_y lk_R_26 ho.1 hr.2.1 rfl ⟨(Nat.le_of_ble_eq_true rfl), (Nat.le_of_ble_eq_true rfl)⟩ rfl hl.1 rfl (Nat.le_of_ble_eq_true rfl) d_R_isWithin_24 ⟨Nat.zero_le _, Nat.zero_le _⟩) (fun r u H locs hp w => ?_)
      obtain ⟨rfl, rfl⟩ := hp
      have w : gw D (gA L sz) s.heap H locs L f := w
      refine lv_iload_n hx hb d_R_isWithin_27 rfl (lv_at hl 1 rfl) ?_
      refine g_ci w (g_runSN (As := [.int (iN ((pY P i))), .int (iN (r0))]) (rest := []) X w (c_H_isNear l (pY_3 hB _) hr0) k_H_isNear X.2.2.2.1 st_H_isNear ⟨(Nat.le_of_ble_eq_true rfl), (Nat.le_of_ble_eq_true rfl)⟩ rfl hl.1 rfl (Nat.le_of_ble_eq_true rfl) d_R_isWithin_28 ⟨Nat.zero_le _, Nat.zero_le _⟩) (fun r u H locs hp w => ?_)
      obtain ⟨rfl, rfl⟩ := hp
      have w : gw D (gA L sz) s.heap H locs L f := w
      refine ri_zne (a := (bI (-r0 ≤ (pY P i) ∧ (pY P i) ≤ r0))) (tgt := 36) hx hb d_R_isWithin_31 (by decide) rfl (bI_3 _) (fun c31 => ?_) (fun c31 => ?_)
      · skip
        refine lv_iinc (v := iN ((i + 1))) (lv' := [(2, .int (iN ((i + 1)))), (0, .ref a), (1, .int (iN (r0)))]) hx hb d_R_isWithin_36 hl (k := 2) rfl (by rw [show (i + 1) = i + (1 : Int) by omega, ← iN_add]; rfl) (by decide) rfl (fun ls hl => ?_)
        refine lv_goto (tgt := 2) hx hb d_R_isWithin_39 (by decide) ?_
        exact ih (i + 1) _ _ _ (by omega) ⟨by omega, by omega, fun j q0 q1 => by by_cases e : j = i; (subst e; exact ⟨bI_n c19, bI_n c31⟩); exact h2 j q0 (by omega)⟩ w (lv_sub hl [1, 2, 0] rfl)
      · skip
        refine lv_iconst (v := iN (0)) hx hb d_R_isWithin_34 (by decide) ?_
        exact g_zret X w hrt hlk d_R_isWithin_35 rfl ⟨by rw [bI_f (fun h => by have q := h i h0 (by omega); first | exact bI_0 c19 q.1 | exact bI_0 (by omega) q.2)], rfl⟩
noncomputable def ordS (P : List Pt) (i : Int) (S : List Pt) (j : Int) : Int := by
  classical
  exact if sd P ≤ i then 1 else if sd S ≤ j then -1 else if bI (gbk (sX P i) (sY P i)) ≠ bI (gbk (sX S j) (sY S j)) then (if gbk (sX P i) (sY P i) then 1 else -1) else sX S j * sY P i - sY S j * sX P i
set_option maxHeartbeats 4000000 in
set_option maxRecDepth 100000 in
theorem c_R_orderOfSides (l : Launch) {D : va_G} {cI cR : ClassId} {L : List Nat} {f : Nat → va_E} {rx ry : Nat → Nat} {a b : Nat} {P S : List Pt} (ho : ro L rx ry a) (hr : rowIs cI rx ry f a P) (ho2 : ro L rx ry b) (hr2 : rowIs cI rx ry f b S) (hB : pb 600 P) (hB2 : pb 600 S) {i : Int} (hi : 0 ≤ i ∧ i ≤ 100) {j : Int} (hj : 0 ≤ j ∧ j ≤ 100) : gMi D cI cR l y_R_orderOfSides (Cond.code y_R_orderOfSides b_R_orderOfSides 5 (some .int) :: lw_g) { frames := 2, cells := 0, slots := 0, locals := 42 } [.ref a, .int (iN (i)), .ref b, .int (iN (j))] L f (fun r u => r = iN (ordS P i S j) ∧ u = (L, f)) := by
  intro sz
  refine g_enter (by decide) rfl (Nat.le_of_ble_eq_true rfl) ?_
  intro p e s m below meth cd ls X hrt hlk hnm hl hsz w
  have X : gx p m cd b_R_orderOfSides 5 s _ "HullSums$Row" D cI cR := X
  have hx := X.1.1
  have hb := X.1.2.1
  have hl : lv_has ls 5 [(0, .ref a), (1, .int (iN (i))), (2, .ref b), (3, .int (iN (j)))] := hl
  have hn48 := hr.1
  have hn482 := hr2.1
  refine lv_iload_n hx hb d_R_orderOfSides_0 rfl (lv_at hl 1 rfl) ?_
  refine lv_aload_n hx hb d_R_orderOfSides_1 rfl (lv_at hl 0 rfl) ?_
  refine g_ci w (g_runV (As := []) (rest := [.int (iN (i))]) X w (c_R_sides l ho hr) k_R_sides v_R_sides lk_R_88 ho.1 hr.2.1 rfl ⟨(Nat.le_of_ble_eq_true rfl), (Nat.le_of_ble_eq_true rfl)⟩ rfl hl.1 rfl (Nat.le_of_ble_eq_true rfl) d_R_orderOfSides_2 ⟨Nat.zero_le _, Nat.zero_le _⟩) (fun r u H locs hp w => ?_)
  obtain ⟨rfl, rfl⟩ := hp
  have w : gw D (gA L sz) s.heap H locs L f := w
  refine ri_clt (a := i) (b := (sd P)) (tgt := 10) hx hb d_R_orderOfSides_5 (by decide) rfl rfl (by unfold i3; omega) (by unfold sd i3; split <;> omega) (fun c5 => ?_) (fun c5 => ?_)
  · skip
    refine lv_iload_n hx hb d_R_orderOfSides_10 rfl (lv_at hl 3 rfl) ?_
    refine lv_aload_n hx hb d_R_orderOfSides_11 rfl (lv_at hl 2 rfl) ?_
    refine g_ci w (g_runV (As := []) (rest := [.int (iN (j))]) X w (c_R_sides l ho2 hr2) k_R_sides v_R_sides lk_R_88 ho2.1 hr2.2.1 rfl ⟨(Nat.le_of_ble_eq_true rfl), (Nat.le_of_ble_eq_true rfl)⟩ rfl hl.1 rfl (Nat.le_of_ble_eq_true rfl) d_R_orderOfSides_12 ⟨Nat.zero_le _, Nat.zero_le _⟩) (fun r u H locs hp w => ?_)
    obtain ⟨rfl, rfl⟩ := hp
    have w : gw D (gA L sz) s.heap H locs L f := w
    refine ri_clt (a := j) (b := (sd S)) (tgt := 20) hx hb d_R_orderOfSides_15 (by decide) rfl rfl (by unfold i3; omega) (by unfold sd i3; split <;> omega) (fun c15 => ?_) (fun c15 => ?_)
    · skip
      refine lv_aload_n hx hb d_R_orderOfSides_20 rfl (lv_at hl 0 rfl) ?_
      refine lv_iload_n hx hb d_R_orderOfSides_21 rfl (lv_at hl 1 rfl) ?_
      refine g_ci w (g_runV (As := [.int (iN (i))]) (rest := []) X w (c_R_sideX l ho hr (by omega)) k_R_sideX v_R_sideX lk_R_73 ho.1 hr.2.1 rfl ⟨(Nat.le_of_ble_eq_true rfl), (Nat.le_of_ble_eq_true rfl)⟩ rfl hl.1 rfl (Nat.le_of_ble_eq_true rfl) d_R_orderOfSides_22 ⟨Nat.zero_le _, Nat.zero_le _⟩) (fun r u H locs hp w => ?_)
      obtain ⟨rfl, rfl⟩ := hp
      have w : gw D (gA L sz) s.heap H locs L f := w
      refine lv_aload_n hx hb d_R_orderOfSides_25 rfl (lv_at hl 0 rfl) ?_
      refine lv_iload_n hx hb d_R_orderOfSides_26 rfl (lv_at hl 1 rfl) ?_
      refine g_ci w (g_runV (As := [.int (iN (i))]) (rest := [.int (iN ((sX P i)))]) X w (c_R_sideY l ho hr (by omega)) k_R_sideY v_R_sideY lk_R_76 ho.1 hr.2.1 rfl ⟨(Nat.le_of_ble_eq_true rfl), (Nat.le_of_ble_eq_true rfl)⟩ rfl hl.1 rfl (Nat.le_of_ble_eq_true rfl) d_R_orderOfSides_27 ⟨Nat.zero_le _, Nat.zero_le _⟩) (fun r u H locs hp w => ?_)
      obtain ⟨rfl, rfl⟩ := hp
      have w : gw D (gA L sz) s.heap H locs L f := w
      refine g_ci w (g_runS (As := [.int (iN ((sX P i))), .int (iN ((sY P i)))]) (rest := []) X w (c_R_goesBack l (by have := hB i; have := hB (nx P i); unfold sX i3; omega) (by have := hB i; have := hB (nx P i); unfold sY i3; omega)) k_R_goesBack lk_R_105 st_R_goesBack ⟨(Nat.le_of_ble_eq_true rfl), (Nat.le_of_ble_eq_true rfl)⟩ rfl hl.1 rfl (Nat.le_of_ble_eq_true rfl) d_R_orderOfSides_30 ⟨Nat.zero_le _, Nat.zero_le _⟩) (fun r u H locs hp w => ?_)
      obtain ⟨rfl, rfl⟩ := hp
      have w : gw D (gA L sz) s.heap H locs L f := w
      refine lv_istore (lv' := [(4, .int (iN ((bI (gbk (sX P i) (sY P i)))))), (0, .ref a), (1, .int (iN (i))), (2, .ref b), (3, .int (iN (j)))]) hx hb d_R_orderOfSides_33 hl (by decide) rfl (fun ls hl => ?_)
      refine lv_iload hx hb d_R_orderOfSides_35 (lv_at hl 0 rfl) ?_
      refine lv_aload_n hx hb d_R_orderOfSides_37 rfl (lv_at hl 3 rfl) ?_
      refine lv_iload_n hx hb d_R_orderOfSides_38 rfl (lv_at hl 4 rfl) ?_
      refine g_ci w (g_runV (As := [.int (iN (j))]) (rest := [.int (iN ((bI (gbk (sX P i) (sY P i)))))]) X w (c_R_sideX l ho2 hr2 (by omega)) k_R_sideX v_R_sideX lk_R_73 ho2.1 hr2.2.1 rfl ⟨(Nat.le_of_ble_eq_true rfl), (Nat.le_of_ble_eq_true rfl)⟩ rfl hl.1 rfl (Nat.le_of_ble_eq_true rfl) d_R_orderOfSides_39 ⟨Nat.zero_le _, Nat.zero_le _⟩) (fun r u H locs hp w => ?_)
      obtain ⟨rfl, rfl⟩ := hp
      have w : gw D (gA L sz) s.heap H locs L f := w
      refine lv_aload_n hx hb d_R_orderOfSides_42 rfl (lv_at hl 3 rfl) ?_
      refine lv_iload_n hx hb d_R_orderOfSides_43 rfl (lv_at hl 4 rfl) ?_
      refine g_ci w (g_runV (As := [.int (iN (j))]) (rest := [.int (iN ((sX S j))), .int (iN ((bI (gbk (sX P i) (sY P i)))))]) X w (c_R_sideY l ho2 hr2 (by omega)) k_R_sideY v_R_sideY lk_R_76 ho2.1 hr2.2.1 rfl ⟨(Nat.le_of_ble_eq_true rfl), (Nat.le_of_ble_eq_true rfl)⟩ rfl hl.1 rfl (Nat.le_of_ble_eq_true rfl) d_R_orderOfSides_44 ⟨Nat.zero_le _, Nat.zero_le _⟩) (fun r u H locs hp w => ?_)
      obtain ⟨rfl, rfl⟩ := hp
      have w : gw D (gA L sz) s.heap H locs L f := w
      refine g_ci w (g_runS (As := [.int (iN ((sX S j))), .int (iN ((sY S j)))]) (rest := [.int (iN ((bI (gbk (sX P i) (sY P i)))))]) X w (c_R_goesBack l (by have := hB2 j; have := hB2 (nx S j); unfold sX i3; omega) (by have := hB2 j; have := hB2 (nx S j); unfold sY i3; omega)) k_R_goesBack lk_R_105 st_R_goesBack ⟨(Nat.le_of_ble_eq_true rfl), (Nat.le_of_ble_eq_true rfl)⟩ rfl hl.1 rfl (Nat.le_of_ble_eq_true rfl) d_R_orderOfSides_47 ⟨Nat.zero_le _, Nat.zero_le _⟩) (fun r u H locs hp w => ?_)
      obtain ⟨rfl, rfl⟩ := hp
      have w : gw D (gA L sz) s.heap H locs L f := w
      refine ri_ceq (a := (bI (gbk (sX P i) (sY P i)))) (b := (bI (gbk (sX S j) (sY S j)))) (tgt := 64) hx hb d_R_orderOfSides_50 (by decide) rfl rfl (bI_3 _) (bI_3 _) (fun c50 => ?_) (fun c50 => ?_)
      · skip
        refine lv_aload_n hx hb d_R_orderOfSides_64 rfl (lv_at hl 3 rfl) ?_
        refine lv_iload_n hx hb d_R_orderOfSides_65 rfl (lv_at hl 4 rfl) ?_
        refine g_ci w (g_runV (As := [.int (iN (j))]) (rest := []) X w (c_R_sideX l ho2 hr2 (by omega)) k_R_sideX v_R_sideX lk_R_73 ho2.1 hr2.2.1 rfl ⟨(Nat.le_of_ble_eq_true rfl), (Nat.le_of_ble_eq_true rfl)⟩ rfl hl.1 rfl (Nat.le_of_ble_eq_true rfl) d_R_orderOfSides_66 ⟨Nat.zero_le _, Nat.zero_le _⟩) (fun r u H locs hp w => ?_)
        obtain ⟨rfl, rfl⟩ := hp
        have w : gw D (gA L sz) s.heap H locs L f := w
        refine lv_aload_n hx hb d_R_orderOfSides_69 rfl (lv_at hl 1 rfl) ?_
        refine lv_iload_n hx hb d_R_orderOfSides_70 rfl (lv_at hl 2 rfl) ?_
        refine g_ci w (g_runV (As := [.int (iN (i))]) (rest := [.int (iN ((sX S j)))]) X w (c_R_sideY l ho hr (by omega)) k_R_sideY v_R_sideY lk_R_76 ho.1 hr.2.1 rfl ⟨(Nat.le_of_ble_eq_true rfl), (Nat.le_of_ble_eq_true rfl)⟩ rfl hl.1 rfl (Nat.le_of_ble_eq_true rfl) d_R_orderOfSides_71 ⟨Nat.zero_le _, Nat.zero_le _⟩) (fun r u H locs hp w => ?_)
        obtain ⟨rfl, rfl⟩ := hp
        have w : gw D (gA L sz) s.heap H locs L f := w
        refine ri_mul (a := (sX S j)) (b := (sY P i)) hx hb d_R_orderOfSides_74 rfl rfl ?_
        refine lv_aload_n hx hb d_R_orderOfSides_75 rfl (lv_at hl 3 rfl) ?_
        refine lv_iload_n hx hb d_R_orderOfSides_76 rfl (lv_at hl 4 rfl) ?_
        refine g_ci w (g_runV (As := [.int (iN (j))]) (rest := [.int (iN (((sX S j) * (sY P i))))]) X w (c_R_sideY l ho2 hr2 (by omega)) k_R_sideY v_R_sideY lk_R_76 ho2.1 hr2.2.1 rfl ⟨(Nat.le_of_ble_eq_true rfl), (Nat.le_of_ble_eq_true rfl)⟩ rfl hl.1 rfl (Nat.le_of_ble_eq_true rfl) d_R_orderOfSides_77 ⟨Nat.zero_le _, Nat.zero_le _⟩) (fun r u H locs hp w => ?_)
        obtain ⟨rfl, rfl⟩ := hp
        have w : gw D (gA L sz) s.heap H locs L f := w
        refine lv_aload_n hx hb d_R_orderOfSides_80 rfl (lv_at hl 1 rfl) ?_
        refine lv_iload_n hx hb d_R_orderOfSides_81 rfl (lv_at hl 2 rfl) ?_
        refine g_ci w (g_runV (As := [.int (iN (i))]) (rest := [.int (iN ((sY S j))), .int (iN (((sX S j) * (sY P i))))]) X w (c_R_sideX l ho hr (by omega)) k_R_sideX v_R_sideX lk_R_73 ho.1 hr.2.1 rfl ⟨(Nat.le_of_ble_eq_true rfl), (Nat.le_of_ble_eq_true rfl)⟩ rfl hl.1 rfl (Nat.le_of_ble_eq_true rfl) d_R_orderOfSides_82 ⟨Nat.zero_le _, Nat.zero_le _⟩) (fun r u H locs hp w => ?_)
        obtain ⟨rfl, rfl⟩ := hp
        have w : gw D (gA L sz) s.heap H locs L f := w
        refine ri_mul (a := (sY S j)) (b := (sX P i)) hx hb d_R_orderOfSides_85 rfl rfl ?_
        refine ri_sub (a := ((sX S j) * (sY P i))) (b := ((sY S j) * (sX P i))) hx hb d_R_orderOfSides_86 rfl rfl ?_
        exact g_iret X w hrt hlk d_R_orderOfSides_87 ⟨by unfold ordS; rw [if_neg (by omega), if_neg (by omega), if_neg (by simpa using c50)], rfl⟩
      · skip
        refine lv_iload hx hb d_R_orderOfSides_53 (lv_at hl 0 rfl) ?_
        refine ri_zeq (a := (bI (gbk (sX P i) (sY P i)))) (tgt := 62) hx hb d_R_orderOfSides_55 (by decide) rfl (bI_3 _) (fun c55 => ?_) (fun c55 => ?_)
        · skip
          refine lv_iconst (v := iN (-1)) hx hb d_R_orderOfSides_62 (by decide) ?_
          exact g_iret X w hrt hlk d_R_orderOfSides_63 ⟨by unfold ordS; rw [if_neg (by omega), if_neg (by omega), if_pos c50, if_neg (bI_0 c55)], rfl⟩
        · skip
          refine lv_iconst (v := iN (1)) hx hb d_R_orderOfSides_58 (by decide) ?_
          refine lv_goto (tgt := 63) hx hb d_R_orderOfSides_59 (by decide) ?_
          exact g_iret X w hrt hlk d_R_orderOfSides_63 ⟨by unfold ordS; rw [if_neg (by omega), if_neg (by omega), if_pos c50, if_pos (bI_n c55)], rfl⟩
    · skip
      refine lv_iconst (v := iN (-1)) hx hb d_R_orderOfSides_18 (by decide) ?_
      exact g_iret X w hrt hlk d_R_orderOfSides_19 ⟨by unfold ordS; rw [if_neg (by omega), if_pos (by omega)], rfl⟩
  · skip
    refine lv_iconst (v := iN (1)) hx hb d_R_orderOfSides_8 (by decide) ?_
    exact g_iret X w hrt hlk d_R_orderOfSides_9 ⟨by unfold ordS; rw [if_pos (by omega)], rfl⟩
end
section
/-! ROWS: what changes them. A row's store is rst of its arrays and its size over the rest. -/
def rst (cI : ClassId) (rx ry : Nat → Nat) (f : Nat → va_E) (a : Nat) (X Y : Nat → Int32) (n : Int) : Nat → va_E :=
  va_up (va_up (va_up f (rx a) (.inl (cI, 48, .inl X))) (ry a) (.inl (cI, 48, .inl Y))) a (.inr (1, [.ref (rx a), .ref (ry a), .int (iN n)]))
def chg (rx ry : Nat → Nat) (a : Nat) (f g : Nat → va_E) : Prop := ∀ q, q ≠ a → q ≠ rx a → q ≠ ry a → g q = f q
/-- two rows have no cell in common -/
def rd (rx ry : Nat → Nat) (a b : Nat) : Prop := a ≠ b ∧ a ≠ rx b ∧ a ≠ ry b ∧ rx a ≠ b ∧ rx a ≠ rx b ∧ rx a ≠ ry b ∧ ry a ≠ b ∧ ry a ≠ rx b ∧ ry a ≠ ry b
theorem rd.symm {rx ry : Nat → Nat} {a b : Nat} (h : rd rx ry a b) : rd rx ry b a := by unfold rd at *; omega
section RS
variable {cI : ClassId} {rx ry : Nat → Nat} {f g : Nat → va_E} {a b : Nat} {X Y X' Y' : Nat → Int32} {n n' : Int} {L : List Nat} {P : List Pt}
theorem rst_a : rst cI rx ry f a X Y n a = .inr (1, [.ref (rx a), .ref (ry a), .int (iN n)]) := va_up_self _ _ _
theorem rst_x (ho : ro L rx ry a) : rst cI rx ry f a X Y n (rx a) = .inl (cI, 48, .inl X) := by
  obtain ⟨-, -, -, h1, h2, h3⟩ := ho
  unfold rst
  rw [va_up_ne _ _ (by omega), va_up_ne _ _ (by omega), va_up_self]
theorem rst_y (ho : ro L rx ry a) : rst cI rx ry f a X Y n (ry a) = .inl (cI, 48, .inl Y) := by
  obtain ⟨-, -, -, h1, h2, h3⟩ := ho
  unfold rst
  rw [va_up_ne _ _ (by omega), va_up_self]
theorem rst_q {q : Nat} (h1 : q ≠ a) (h2 : q ≠ rx a) (h3 : q ≠ ry a) : rst cI rx ry f a X Y n q = f q := by
  unfold rst
  rw [va_up_ne _ _ h1, va_up_ne _ _ h3, va_up_ne _ _ h2]
theorem rst_chg : chg rx ry a f (rst cI rx ry f a X Y n) := fun _ h1 h2 h3 => rst_q h1 h2 h3
theorem rst_ux (ho : ro L rx ry a) : va_up (rst cI rx ry f a X Y n) (rx a) (.inl (cI, 48, .inl X')) = rst cI rx ry f a X' Y n := by
  obtain ⟨-, -, -, h1, h2, h3⟩ := ho
  funext q
  by_cases e1 : q = rx a
  · subst e1; rw [va_up_self]; unfold rst; rw [va_up_ne _ _ (by omega), va_up_ne _ _ (by omega), va_up_self]
  · rw [va_up_ne _ _ e1]
    unfold rst
    by_cases e2 : q = a
    · subst e2; rw [va_up_self, va_up_self]
    · rw [va_up_ne _ _ e2, va_up_ne _ _ e2]
      by_cases e3 : q = ry a
      · subst e3; rw [va_up_self, va_up_self]
      · rw [va_up_ne _ _ e3, va_up_ne _ _ e3, va_up_ne _ _ e1, va_up_ne _ _ e1]
theorem rst_uy (ho : ro L rx ry a) : va_up (rst cI rx ry f a X Y n) (ry a) (.inl (cI, 48, .inl Y')) = rst cI rx ry f a X Y' n := by
  obtain ⟨-, -, -, h1, h2, h3⟩ := ho
  funext q
  by_cases e1 : q = ry a
  · subst e1; rw [va_up_self]; unfold rst; rw [va_up_ne _ _ (by omega), va_up_self]
  · rw [va_up_ne _ _ e1]
    unfold rst
    by_cases e2 : q = a
    · subst e2; rw [va_up_self, va_up_self]
    · rw [va_up_ne _ _ e2, va_up_ne _ _ e2, va_up_ne _ _ e1, va_up_ne _ _ e1]
theorem rst_un : va_up (rst cI rx ry f a X Y n) a (.inr (1, [.ref (rx a), .ref (ry a), .int (iN n')])) = rst cI rx ry f a X Y n' := by
  funext q
  by_cases e1 : q = a
  · subst e1; rw [va_up_self, rst_a]
  · rw [va_up_ne _ _ e1]; unfold rst; rw [va_up_ne _ _ e1, va_up_ne _ _ e1]
theorem rst_0 (h1 : f a = .inr (1, [.ref (rx a), .ref (ry a), .int (iN n)])) (h2 : f (rx a) = .inl (cI, 48, .inl X)) (h3 : f (ry a) = .inl (cI, 48, .inl Y)) : rst cI rx ry f a X Y n = f := by
  funext q
  unfold rst
  by_cases e1 : q = a
  · subst e1; rw [va_up_self, h1]
  · rw [va_up_ne _ _ e1]
    by_cases e2 : q = ry a
    · subst e2; rw [va_up_self, h3]
    · rw [va_up_ne _ _ e2]
      by_cases e3 : q = rx a
      · subst e3; rw [va_up_self, h2]
      · rw [va_up_ne _ _ e3]
theorem rowIs_rst (ho : ro L rx ry a) (hn : P.length ≤ 48) (h : ∀ i q, P[i]? = some q → X i = iN q.1 ∧ Y i = iN q.2) : rowIs cI rx ry (rst cI rx ry f a X Y P.length) a P :=
  ⟨hn, rst_a, X, Y, rst_x ho, rst_y ho, h⟩
theorem rowIs_keep (hd : rd rx ry a b) (hc : chg rx ry b f g) (h : rowIs cI rx ry f a P) : rowIs cI rx ry g a P := by
  obtain ⟨h0, h1, F1, F2, h2, h3, h4⟩ := h
  obtain ⟨d1, d2, d3, d4, d5, d6, d7, d8, d9⟩ := hd
  exact ⟨h0, by rw [hc a d1 d2 d3]; exact h1, F1, F2, by rw [hc _ d4 d5 d6]; exact h2, by rw [hc _ d7 d8 d9]; exact h3, h4⟩
theorem chg_trans {h : Nat → va_E} (h1 : chg rx ry a f g) (h2 : chg rx ry a g h) : chg rx ry a f h := fun q q1 q2 q3 => (h2 q q1 q2 q3).trans (h1 q q1 q2 q3)
end RS

set_option maxHeartbeats 4000000 in
set_option maxRecDepth 100000 in
theorem c_R_empty (l : Launch) {D : va_G} {cI cR : ClassId} {L : List Nat} {f : Nat → va_E} {rx ry : Nat → Nat} {a : Nat} {P : List Pt} (ho : ro L rx ry a) (hr : rowIs cI rx ry f a P) : gMv D cI cR l y_R_empty (Cond.code y_R_empty b_R_empty 1 none :: lw_g) { frames := 0, cells := 0, slots := 0, locals := 0 } [.ref a] L f (fun u => ∃ g, u = (L, g) ∧ rowIs cI rx ry g a ([]) ∧ chg rx ry a f g) := by
  intro sz
  refine g_enter (by decide) rfl (Nat.le_of_ble_eq_true rfl) ?_
  intro p e s m below meth cd ls X hrt hlk hnm hl hsz w
  have X : gx p m cd b_R_empty 1 s _ "HullSums$Row" D cI cR := X
  have hx := X.1.1
  have hb := X.1.2.1
  have hl : lv_has ls 1 [(0, .ref a)] := hl
  obtain ⟨hn48, h1, F1, F2, h2, h3, h4⟩ := hr
  have w : gw D (gA L sz) s.heap s.heap [] L (rst cI rx ry f a F1 F2 P.length) := by rw [rst_0 h1 h2 h3]; exact w
  refine lv_aload_n hx hb d_R_empty_0 rfl (lv_at hl 0 rfl) ?_
  refine lv_iconst (v := iN (0)) hx hb d_R_empty_1 (by decide) ?_
  refine gk_put X w ho.1 rst_a rfl in_R ty_R tyok_R nm_R 2 (by decide) lk_R_18 rfl (ty := .int) (by decide +kernel) rfl rfl (Nat.le_of_ble_eq_true rfl) d_R_empty_2 (fun H locs w => ?_)
  have w : gw D (gA L sz) s.heap H locs L (rst cI rx ry f a F1 F2 0) := by rw [← rst_un (n := (P.length : Int))]; exact w
  exact g_vret X w hrt hlk d_R_empty_5 ⟨_, rfl, rowIs_rst (P := []) ho (by decide) (fun i q h => by simp at h), rst_chg⟩
set_option maxHeartbeats 4000000 in
set_option maxRecDepth 100000 in
theorem c_R_dropLast (l : Launch) {D : va_G} {cI cR : ClassId} {L : List Nat} {f : Nat → va_E} {rx ry : Nat → Nat} {a : Nat} {P : List Pt} (ho : ro L rx ry a) (hr : rowIs cI rx ry f a P) : gMv D cI cR l y_R_dropLast (Cond.code y_R_dropLast b_R_dropLast 1 none :: lw_g) { frames := 0, cells := 0, slots := 0, locals := 0 } [.ref a] L f (fun u => ∃ g, u = (L, g) ∧ rowIs cI rx ry g a (P.dropLast) ∧ chg rx ry a f g) := by
  intro sz
  refine g_enter (by decide) rfl (Nat.le_of_ble_eq_true rfl) ?_
  intro p e s m below meth cd ls X hrt hlk hnm hl hsz w
  have X : gx p m cd b_R_dropLast 1 s _ "HullSums$Row" D cI cR := X
  have hx := X.1.1
  have hb := X.1.2.1
  have hl : lv_has ls 1 [(0, .ref a)] := hl
  obtain ⟨hn48, h1, F1, F2, h2, h3, h4⟩ := hr
  have w : gw D (gA L sz) s.heap s.heap [] L (rst cI rx ry f a F1 F2 P.length) := by rw [rst_0 h1 h2 h3]; exact w
  refine lv_aload_n hx hb d_R_dropLast_0 rfl (lv_at hl 0 rfl) ?_
  refine gk_get X w ho.1 rst_a rfl in_R 2 (by decide) lk_R_18 rfl d_R_dropLast_1 ?_
  refine ri_zle (a := (P.length : Int)) (tgt := 17) hx hb d_R_dropLast_4 (by decide) rfl (by unfold i3; omega) (fun c4 => ?_) (fun c4 => ?_)
  · skip
    have hP : P = [] := List.length_eq_zero_iff.mp (by omega)
    exact g_vret X w hrt hlk d_R_dropLast_17 ⟨_, rfl, by subst hP; exact rowIs_rst (P := []) ho (by decide) (fun i q h => by simp at h), rst_chg⟩
  · skip
    refine lv_aload_n hx hb d_R_dropLast_7 rfl (lv_at hl 0 rfl) ?_
    refine lv_dup hx hb d_R_dropLast_8 rfl ?_
    refine gk_get X w ho.1 rst_a rfl in_R 2 (by decide) lk_R_18 rfl d_R_dropLast_9 ?_
    refine lv_iconst (v := iN (1)) hx hb d_R_dropLast_12 (by decide) ?_
    refine ri_sub (a := (P.length : Int)) (b := 1) hx hb d_R_dropLast_13 rfl rfl ?_
    refine gk_put X w ho.1 rst_a rfl in_R ty_R tyok_R nm_R 2 (by decide) lk_R_18 rfl (ty := .int) (by decide +kernel) rfl rfl (Nat.le_of_ble_eq_true rfl) d_R_dropLast_14 (fun H locs w => ?_)
    have w : gw D (gA L sz) s.heap H locs L (rst cI rx ry f a F1 F2 ((P.length : Int) - 1)) := by rw [← rst_un (n := (P.length : Int))]; exact w
    have e : ((P.length : Int) - 1) = ((P.dropLast.length : Nat) : Int) := by rw [List.length_dropLast]; omega
    rw [e] at w
    exact g_vret X w hrt hlk d_R_dropLast_17 ⟨_, rfl, rowIs_rst ho (by rw [List.length_dropLast]; omega) (fun i q h => h4 i q (by rw [List.getElem?_dropLast] at h; split at h; exact h; exact absurd h (by simp))), rst_chg⟩
theorem up_at {P : List Pt} {F1 F2 : Nat → Int32} {x y : Int} (h4 : ∀ i q, P[i]? = some q → F1 i = iN q.1 ∧ F2 i = iN q.2) : ∀ i q, (P ++ [(x, y)])[i]? = some q → upd F1 P.length (iN x) i = iN q.1 ∧ upd F2 P.length (iN y) i = iN q.2 := by
  intro i q h
  by_cases e : i = P.length
  · subst e
    simp at h
    subst h
    unfold upd; simp
  · rw [List.getElem?_append] at h
    split at h
    · unfold upd; rw [if_neg e, if_neg e]; exact h4 i q h
    · rename_i h5
      rw [List.getElem?_eq_none (by simp; omega)] at h
      exact absurd h (by simp)
set_option maxHeartbeats 4000000 in
set_option maxRecDepth 100000 in
theorem c_R_add (l : Launch) {D : va_G} {cI cR : ClassId} {L : List Nat} {f : Nat → va_E} {rx ry : Nat → Nat} {a : Nat} {P : List Pt} (ho : ro L rx ry a) (hr : rowIs cI rx ry f a P) (hlt : P.length < 48) {x y : Int} : gMv D cI cR l y_R_add (Cond.code y_R_add b_R_add 3 none :: lw_g) { frames := 0, cells := 0, slots := 0, locals := 0 } [.ref a, .int (iN (x)), .int (iN (y))] L f (fun u => ∃ g, u = (L, g) ∧ rowIs cI rx ry g a (P ++ [(x, y)]) ∧ chg rx ry a f g) := by
  intro sz
  refine g_enter (by decide) rfl (Nat.le_of_ble_eq_true rfl) ?_
  intro p e s m below meth cd ls X hrt hlk hnm hl hsz w
  have X : gx p m cd b_R_add 3 s _ "HullSums$Row" D cI cR := X
  have hx := X.1.1
  have hb := X.1.2.1
  have hl : lv_has ls 3 [(0, .ref a), (1, .int (iN (x))), (2, .int (iN (y)))] := hl
  obtain ⟨hn48, h1, F1, F2, h2, h3, h4⟩ := hr
  have w : gw D (gA L sz) s.heap s.heap [] L (rst cI rx ry f a F1 F2 P.length) := by rw [rst_0 h1 h2 h3]; exact w
  refine lv_aload_n hx hb d_R_add_0 rfl (lv_at hl 0 rfl) ?_
  refine gk_get X w ho.1 rst_a rfl in_R 2 (by decide) lk_R_18 rfl d_R_add_1 ?_
  refine ri_zlt (a := (P.length : Int)) (tgt := 61) hx hb d_R_add_4 (by decide) rfl (by unfold i3; omega) (fun c4 => ?_) (fun c4 => ?_)
  · skip
    omega
  · skip
    refine lv_aload_n hx hb d_R_add_7 rfl (lv_at hl 0 rfl) ?_
    refine gk_get X w ho.1 rst_a rfl in_R 2 (by decide) lk_R_18 rfl d_R_add_8 ?_
    refine lv_aload_n hx hb d_R_add_11 rfl (lv_at hl 0 rfl) ?_
    refine gk_get X w ho.1 rst_a rfl in_R 0 (by decide) lk_R_9 rfl d_R_add_12 ?_
    refine gk_alen X w 0 ho.2.1 (rst_x ho) rfl (v := iN (48)) rfl d_R_add_15 ?_
    refine ri_cge (a := (P.length : Int)) (b := 48) (tgt := 61) hx hb d_R_add_16 (by decide) rfl rfl (by unfold i3; omega) (by unfold i3; omega) (fun c16 => ?_) (fun c16 => ?_)
    · skip
      omega
    · skip
      refine lv_aload_n hx hb d_R_add_19 rfl (lv_at hl 0 rfl) ?_
      refine gk_get X w ho.1 rst_a rfl in_R 2 (by decide) lk_R_18 rfl d_R_add_20 ?_
      refine lv_aload_n hx hb d_R_add_23 rfl (lv_at hl 0 rfl) ?_
      refine gk_get X w ho.1 rst_a rfl in_R 1 (by decide) lk_R_15 rfl d_R_add_24 ?_
      refine gk_alen X w 0 ho.2.2.1 (rst_y ho) rfl (v := iN (48)) rfl d_R_add_27 ?_
      refine ri_cge (a := (P.length : Int)) (b := 48) (tgt := 61) hx hb d_R_add_28 (by decide) rfl rfl (by unfold i3; omega) (by unfold i3; omega) (fun c28 => ?_) (fun c28 => ?_)
      · skip
        omega
      · skip
        refine lv_aload_n hx hb d_R_add_31 rfl (lv_at hl 0 rfl) ?_
        refine gk_get X w ho.1 rst_a rfl in_R 0 (by decide) lk_R_9 rfl d_R_add_32 ?_
        refine lv_aload_n hx hb d_R_add_35 rfl (lv_at hl 0 rfl) ?_
        refine gk_get X w ho.1 rst_a rfl in_R 2 (by decide) lk_R_18 rfl d_R_add_36 ?_
        refine lv_iload_n hx hb d_R_add_39 rfl (lv_at hl 1 rfl) ?_
        refine gk_iast X w 0 ho.2.1 (rst_x ho) rfl (iN_in (by omega) (by decide)) d_R_add_40 (fun H locs w => ?_)
        rw [iN_cl (by omega)] at w
        have w : gw D (gA L sz) s.heap H locs L (rst cI rx ry f a (upd F1 P.length (iN (x))) F2 (P.length : Int)) := by rw [← rst_ux (X := F1) (Y := F2) ho]; exact w
        refine lv_aload_n hx hb d_R_add_41 rfl (lv_at hl 0 rfl) ?_
        refine gk_get X w ho.1 rst_a rfl in_R 1 (by decide) lk_R_15 rfl d_R_add_42 ?_
        refine lv_aload_n hx hb d_R_add_45 rfl (lv_at hl 0 rfl) ?_
        refine gk_get X w ho.1 rst_a rfl in_R 2 (by decide) lk_R_18 rfl d_R_add_46 ?_
        refine lv_iload_n hx hb d_R_add_49 rfl (lv_at hl 2 rfl) ?_
        refine gk_iast X w 0 ho.2.2.1 (rst_y ho) rfl (iN_in (by omega) (by decide)) d_R_add_50 (fun H locs w => ?_)
        rw [iN_cl (by omega)] at w
        have w : gw D (gA L sz) s.heap H locs L (rst cI rx ry f a (upd F1 P.length (iN (x))) (upd F2 P.length (iN (y))) (P.length : Int)) := by rw [← rst_uy (Y := F2) ho]; exact w
        refine lv_aload_n hx hb d_R_add_51 rfl (lv_at hl 0 rfl) ?_
        refine lv_dup hx hb d_R_add_52 rfl ?_
        refine gk_get X w ho.1 rst_a rfl in_R 2 (by decide) lk_R_18 rfl d_R_add_53 ?_
        refine lv_iconst (v := iN (1)) hx hb d_R_add_56 (by decide) ?_
        refine ri_add (a := (P.length : Int)) (b := 1) hx hb d_R_add_57 rfl rfl ?_
        refine gk_put X w ho.1 rst_a rfl in_R ty_R tyok_R nm_R 2 (by decide) lk_R_18 rfl (ty := .int) (by decide +kernel) rfl rfl (Nat.le_of_ble_eq_true rfl) d_R_add_58 (fun H locs w => ?_)
        have w : gw D (gA L sz) s.heap H locs L (rst cI rx ry f a (upd F1 P.length (iN (x))) (upd F2 P.length (iN (y))) ((P.length : Int) + 1)) := by rw [← rst_un (n := (P.length : Int))]; exact w
        rw [show ((P.length : Int) + 1) = (((P ++ [(x, y)]).length : Nat) : Int) by simp] at w
        exact g_vret X w hrt hlk d_R_add_61 ⟨_, rfl, rowIs_rst ho (by simp; omega) (up_at h4), rst_chg⟩
end
section
/-! ROWS: sorting in, and corners -/
def insAt (P : List Pt) (x y : Int) : Nat → Nat
  | 0 => 0
  | n + 1 => if x < pX P n ∨ (pX P n = x ∧ y < pY P n) then insAt P x y n else n + 1
def insS (P : List Pt) (q : Pt) : List Pt := P.take (insAt P q.1 q.2 P.length) ++ q :: P.drop (insAt P q.1 q.2 P.length)
theorem insAt_le (P : List Pt) (x y : Int) (n : Nat) : insAt P x y n ≤ n := by
  induction n with
  | zero => exact Nat.le_refl _
  | succ n ih => unfold insAt; split <;> omega
theorem insS_len (P : List Pt) (q : Pt) : (insS P q).length = P.length + 1 := by
  have := insAt_le P q.1 q.2 P.length
  simp [insS]; omega
theorem ins_row {P : List Pt} {X Y : Nat → Int32} {x y : Int} {m : Nat} (hm : m ≤ P.length) (hA : ∀ j q, P[j]? = some q → (j < m → X j = iN q.1 ∧ Y j = iN q.2) ∧ (m ≤ j → X (j + 1) = iN q.1 ∧ Y (j + 1) = iN q.2)) :
    ∀ i q, (P.take m ++ (x, y) :: P.drop m)[i]? = some q → upd X m (iN x) i = iN q.1 ∧ upd Y m (iN y) i = iN q.2 := by
  intro i q h
  have hl : (P.take m).length = m := by simp; omega
  unfold upd
  by_cases e : i = m
  · subst e
    rw [List.getElem?_append_right (by omega), hl, Nat.sub_self] at h
    simp at h
    subst h
    simp
  · rw [if_neg e, if_neg e]
    by_cases e2 : i < m
    · rw [List.getElem?_append_left (by omega), List.getElem?_take, if_pos e2] at h
      exact (hA i q h).1 e2
    · rw [List.getElem?_append_right (by omega), hl, show i - m = (i - m - 1) + 1 by omega, List.getElem?_cons_succ, List.getElem?_drop, show m + (i - m - 1) = i - 1 by omega] at h
      have := (hA (i - 1) q h).2 (by omega)
      rwa [show i - 1 + 1 = i by omega] at this

set_option maxHeartbeats 4000000 in
set_option maxRecDepth 100000 in
theorem c_R_addSorted (l : Launch) {D : va_G} {cI cR : ClassId} {L : List Nat} {f : Nat → va_E} {rx ry : Nat → Nat} {a : Nat} {P : List Pt} (ho : ro L rx ry a) (hr : rowIs cI rx ry f a P) (hlt : P.length < 48) {x y : Int} (hB : pb 600 P) (hx0 : -1000 ≤ x ∧ x ≤ 1000) (hy0 : -1000 ≤ y ∧ y ≤ 1000) : gMv D cI cR l y_R_addSorted (Cond.code y_R_addSorted b_R_addSorted 4 none :: lw_g) { frames := 0, cells := 0, slots := 0, locals := 0 } [.ref a, .int (iN (x)), .int (iN (y))] L f (fun u => ∃ g, u = (L, g) ∧ rowIs cI rx ry g a (insS P (x, y)) ∧ chg rx ry a f g) := by
  intro sz
  refine g_enter (by decide) rfl (Nat.le_of_ble_eq_true rfl) ?_
  intro p e s m below meth cd ls X hrt hlk hnm hl hsz w
  have X : gx p m cd b_R_addSorted 4 s _ "HullSums$Row" D cI cR := X
  have hx := X.1.1
  have hb := X.1.2.1
  have hl : lv_has ls 4 [(0, .ref a), (1, .int (iN (x))), (2, .int (iN (y)))] := hl
  obtain ⟨hn48, h1, F1, F2, h2, h3, h4⟩ := hr
  have w : gw D (gA L sz) s.heap s.heap [] L (rst cI rx ry f a F1 F2 P.length) := by rw [rst_0 h1 h2 h3]; exact w
  refine lv_aload_n hx hb d_R_addSorted_0 rfl (lv_at hl 0 rfl) ?_
  refine gk_get X w ho.1 rst_a rfl in_R 2 (by decide) lk_R_18 rfl d_R_addSorted_1 ?_
  refine ri_zlt (a := (P.length : Int)) (tgt := 31) hx hb d_R_addSorted_4 (by decide) rfl (by unfold i3; omega) (fun c4 => ?_) (fun c4 => ?_)
  · skip
    omega
  · skip
    refine lv_aload_n hx hb d_R_addSorted_7 rfl (lv_at hl 0 rfl) ?_
    refine gk_get X w ho.1 rst_a rfl in_R 2 (by decide) lk_R_18 rfl d_R_addSorted_8 ?_
    refine lv_aload_n hx hb d_R_addSorted_11 rfl (lv_at hl 0 rfl) ?_
    refine gk_get X w ho.1 rst_a rfl in_R 0 (by decide) lk_R_9 rfl d_R_addSorted_12 ?_
    refine gk_alen X w 0 ho.2.1 (rst_x ho) rfl (v := iN (48)) rfl d_R_addSorted_15 ?_
    refine ri_cge (a := (P.length : Int)) (b := 48) (tgt := 31) hx hb d_R_addSorted_16 (by decide) rfl rfl (by unfold i3; omega) (by unfold i3; omega) (fun c16 => ?_) (fun c16 => ?_)
    · skip
      omega
    · skip
      refine lv_aload_n hx hb d_R_addSorted_19 rfl (lv_at hl 0 rfl) ?_
      refine gk_get X w ho.1 rst_a rfl in_R 2 (by decide) lk_R_18 rfl d_R_addSorted_20 ?_
      refine lv_aload_n hx hb d_R_addSorted_23 rfl (lv_at hl 0 rfl) ?_
      refine gk_get X w ho.1 rst_a rfl in_R 1 (by decide) lk_R_15 rfl d_R_addSorted_24 ?_
      refine gk_alen X w 0 ho.2.2.1 (rst_y ho) rfl (v := iN (48)) rfl d_R_addSorted_27 ?_
      refine ri_clt (a := (P.length : Int)) (b := 48) (tgt := 32) hx hb d_R_addSorted_28 (by decide) rfl rfl (by unfold i3; omega) (by unfold i3; omega) (fun c28 => ?_) (fun c28 => ?_)
      · skip
        refine lv_aload_n hx hb d_R_addSorted_32 rfl (lv_at hl 0 rfl) ?_
        refine gk_get X w ho.1 rst_a rfl in_R 2 (by decide) lk_R_18 rfl d_R_addSorted_33 ?_
        refine lv_istore_n (lv' := [(3, .int (iN ((P.length : Int)))), (0, .ref a), (1, .int (iN (x))), (2, .int (iN (y)))]) hx hb d_R_addSorted_36 rfl hl (by decide) rfl (fun ls hl => ?_)
        refine g_loop (σ := Int × (Nat → Int32) × (Nat → Int32)) (fun z9 => z9.1.toNat) (fun z9 => [(0, .ref a), (1, .int (iN (x))), (2, .int (iN (y))), (3, .int (iN (z9.1)))]) L (fun z9 => rst cI rx ry f a z9.2.1 z9.2.2 P.length) (fun z9 => 0 ≤ z9.1 ∧ z9.1 ≤ P.length ∧ insAt P x y P.length = insAt P x y z9.1.toNat ∧ (∀ (j7 : Nat) (q7 : Pt), P[j7]? = some q7 → ((j7 : Int) < z9.1 → z9.2.1 j7 = iN q7.1 ∧ z9.2.2 j7 = iN q7.2) ∧ (z9.1 ≤ j7 → z9.2.1 (j7 + 1) = iN q7.1 ∧ z9.2.2 (j7 + 1) = iN q7.2))) ?_ ((P.length : Int), F1, F2) _ _ _ ⟨by omega, by omega, by rw [Int.toNat_natCast], fun j q h => ⟨fun _ => h4 j q h, fun h7 => by have := (List.getElem?_eq_some_iff.mp h).1; omega⟩⟩ w (lv_sub hl [1, 2, 3, 0] rfl)
        intro z9 H locs ls hI w hl ih
        obtain ⟨k, G1, G2⟩ := z9
        have hl : lv_has ls 4 [(0, .ref a), (1, .int (iN (x))), (2, .int (iN (y))), (3, .int (iN (k)))] := hl
        have w : gw D (gA L sz) s.heap H locs L (rst cI rx ry f a G1 G2 P.length) := w
        have hI : 0 ≤ k ∧ k ≤ P.length ∧ insAt P x y P.length = insAt P x y k.toNat ∧ (∀ (j7 : Nat) (q7 : Pt), P[j7]? = some q7 → ((j7 : Int) < k → G1 j7 = iN q7.1 ∧ G2 j7 = iN q7.2) ∧ (k ≤ j7 → G1 (j7 + 1) = iN q7.1 ∧ G2 (j7 + 1) = iN q7.2)) := hI
        obtain ⟨h0, h5, h6, hA⟩ := hI
        refine lv_iload_n hx hb d_R_addSorted_37 rfl (lv_at hl 3 rfl) ?_
        refine ri_zle (a := k) (tgt := 111) hx hb d_R_addSorted_38 (by decide) rfl (by unfold i3; omega) (fun c38 => ?_) (fun c38 => ?_)
        · skip
          refine lv_aload_n hx hb d_R_addSorted_111 rfl (lv_at hl 0 rfl) ?_
          refine gk_get X w ho.1 rst_a rfl in_R 0 (by decide) lk_R_9 rfl d_R_addSorted_112 ?_
          refine lv_iload_n hx hb d_R_addSorted_115 rfl (lv_at hl 3 rfl) ?_
          refine lv_iload_n hx hb d_R_addSorted_116 rfl (lv_at hl 1 rfl) ?_
          refine gk_iast X w 0 ho.2.1 (rst_x ho) rfl (by rw [show k = ((k.toNat : Nat) : Int) by omega]; exact iN_in (by omega) (by decide)) d_R_addSorted_117 (fun H locs w => ?_)
          rw [show (iN k).toNatClampNeg = k.toNat by (conv => lhs; rw [show k = ((k.toNat : Nat) : Int) by omega]); exact iN_cl (by omega)] at w
          have w : gw D (gA L sz) s.heap H locs L (rst cI rx ry f a (upd G1 k.toNat (iN (x))) G2 (P.length : Int)) := by rw [← rst_ux (X := G1) (Y := G2) ho]; exact w
          refine lv_aload_n hx hb d_R_addSorted_118 rfl (lv_at hl 0 rfl) ?_
          refine gk_get X w ho.1 rst_a rfl in_R 1 (by decide) lk_R_15 rfl d_R_addSorted_119 ?_
          refine lv_iload_n hx hb d_R_addSorted_122 rfl (lv_at hl 3 rfl) ?_
          refine lv_iload_n hx hb d_R_addSorted_123 rfl (lv_at hl 2 rfl) ?_
          refine gk_iast X w 0 ho.2.2.1 (rst_y ho) rfl (by rw [show k = ((k.toNat : Nat) : Int) by omega]; exact iN_in (by omega) (by decide)) d_R_addSorted_124 (fun H locs w => ?_)
          rw [show (iN k).toNatClampNeg = k.toNat by (conv => lhs; rw [show k = ((k.toNat : Nat) : Int) by omega]); exact iN_cl (by omega)] at w
          have w : gw D (gA L sz) s.heap H locs L (rst cI rx ry f a (upd G1 k.toNat (iN (x))) (upd G2 k.toNat (iN (y))) (P.length : Int)) := by rw [← rst_uy (Y := G2) ho]; exact w
          refine lv_aload_n hx hb d_R_addSorted_125 rfl (lv_at hl 0 rfl) ?_
          refine lv_dup hx hb d_R_addSorted_126 rfl ?_
          refine gk_get X w ho.1 rst_a rfl in_R 2 (by decide) lk_R_18 rfl d_R_addSorted_127 ?_
          refine lv_iconst (v := iN (1)) hx hb d_R_addSorted_130 (by decide) ?_
          refine ri_add (a := (P.length : Int)) (b := 1) hx hb d_R_addSorted_131 rfl rfl ?_
          refine gk_put X w ho.1 rst_a rfl in_R ty_R tyok_R nm_R 2 (by decide) lk_R_18 rfl (ty := .int) (by decide +kernel) rfl rfl (Nat.le_of_ble_eq_true rfl) d_R_addSorted_132 (fun H locs w => ?_)
          have w : gw D (gA L sz) s.heap H locs L (rst cI rx ry f a (upd G1 k.toNat (iN (x))) (upd G2 k.toNat (iN (y))) ((P.length : Int) + 1)) := by rw [← rst_un (n := (P.length : Int))]; exact w
          have hm : insAt P x y P.length = k.toNat := by
            rw [h6]
            by_cases hk : k = 0
            · subst hk; rfl
            · obtain ⟨t, ht⟩ : ∃ t : Nat, k.toNat = t + 1 := ⟨k.toNat - 1, by omega⟩
              rw [ht]; exact if_neg (by rw [show ((t : Nat) : Int) = k - 1 by omega]; omega)
          have e8 : ((P.length : Int) + 1) = (((insS P (x, y)).length : Nat) : Int) := by rw [insS_len]; omega
          rw [e8] at w
          exact g_vret X w hrt hlk d_R_addSorted_135 ⟨_, rfl, rowIs_rst ho (by rw [insS_len]; omega) (by unfold insS; rw [hm]; exact ins_row (by omega) (fun j q h => ⟨fun h7 => (hA j q h).1 (by omega), fun h7 => (hA j q h).2 (by omega)⟩)), rst_chg⟩
        · skip
          obtain ⟨j, q, ej, hq, ex, ey⟩ := px_get (P := P) (i := k - 1) (by omega) (by omega)
          have hxj := (hA j q hq).1 (by omega)
          have hin : vp_in (iN (k - 1)) 48 := by rw [ej]; exact iN_in (by omega) (by decide)
          have hcl : (iN (k - 1)).toNatClampNeg = j := by rw [ej]; exact iN_cl (by omega)
          have hin2 : vp_in (iN k) 48 := by rw [show k = ((j + 1 : Nat) : Int) by omega]; exact iN_in (by omega) (by decide)
          have hcl2 : (iN k).toNatClampNeg = j + 1 := by rw [show k = ((j + 1 : Nat) : Int) by omega]; exact iN_cl (by omega)
          refine lv_aload_n hx hb d_R_addSorted_41 rfl (lv_at hl 0 rfl) ?_
          refine gk_get X w ho.1 rst_a rfl in_R 0 (by decide) lk_R_9 rfl d_R_addSorted_42 ?_
          refine lv_iload_n hx hb d_R_addSorted_45 rfl (lv_at hl 3 rfl) ?_
          refine lv_iconst (v := iN (1)) hx hb d_R_addSorted_46 (by decide) ?_
          refine ri_sub (a := k) (b := 1) hx hb d_R_addSorted_47 rfl rfl ?_
          refine gk_iald X w 0 ho.2.1 (rst_x ho) rfl hin d_R_addSorted_48 ?_
          rw [hcl, hxj.1, ← ex]
          refine lv_iload_n hx hb d_R_addSorted_49 rfl (lv_at hl 1 rfl) ?_
          refine ri_cgt (a := (pX P (k - 1))) (b := x) (tgt := 77) hx hb d_R_addSorted_50 (by decide) rfl rfl (pX_3 hB _) (by unfold i3; omega) (fun c50 => ?_) (fun c50 => ?_)
          · skip
            refine lv_aload_n hx hb d_R_addSorted_77 rfl (lv_at hl 0 rfl) ?_
            refine gk_get X w ho.1 rst_a rfl in_R 0 (by decide) lk_R_9 rfl d_R_addSorted_78 ?_
            refine lv_iload_n hx hb d_R_addSorted_81 rfl (lv_at hl 3 rfl) ?_
            refine lv_aload_n hx hb d_R_addSorted_82 rfl (lv_at hl 0 rfl) ?_
            refine gk_get X w ho.1 rst_a rfl in_R 0 (by decide) lk_R_9 rfl d_R_addSorted_83 ?_
            refine lv_iload_n hx hb d_R_addSorted_86 rfl (lv_at hl 3 rfl) ?_
            refine lv_iconst (v := iN (1)) hx hb d_R_addSorted_87 (by decide) ?_
            refine ri_sub (a := k) (b := 1) hx hb d_R_addSorted_88 rfl rfl ?_
            refine gk_iald X w 0 ho.2.1 (rst_x ho) rfl hin d_R_addSorted_89 ?_
            rw [hcl, hxj.1, ← ex]
            refine gk_iast X w 0 ho.2.1 (rst_x ho) rfl hin2 d_R_addSorted_90 (fun H locs w => ?_)
            rw [hcl2] at w
            have w : gw D (gA L sz) s.heap H locs L (rst cI rx ry f a (upd G1 (j + 1) (iN ((pX P (k - 1))))) G2 (P.length : Int)) := by rw [← rst_ux (X := G1) (Y := G2) ho]; exact w
            refine lv_aload_n hx hb d_R_addSorted_91 rfl (lv_at hl 0 rfl) ?_
            refine gk_get X w ho.1 rst_a rfl in_R 1 (by decide) lk_R_15 rfl d_R_addSorted_92 ?_
            refine lv_iload_n hx hb d_R_addSorted_95 rfl (lv_at hl 3 rfl) ?_
            refine lv_aload_n hx hb d_R_addSorted_96 rfl (lv_at hl 0 rfl) ?_
            refine gk_get X w ho.1 rst_a rfl in_R 1 (by decide) lk_R_15 rfl d_R_addSorted_97 ?_
            refine lv_iload_n hx hb d_R_addSorted_100 rfl (lv_at hl 3 rfl) ?_
            refine lv_iconst (v := iN (1)) hx hb d_R_addSorted_101 (by decide) ?_
            refine ri_sub (a := k) (b := 1) hx hb d_R_addSorted_102 rfl rfl ?_
            refine gk_iald X w 0 ho.2.2.1 (rst_y ho) rfl hin d_R_addSorted_103 ?_
            rw [hcl, hxj.2, ← ey]
            refine gk_iast X w 0 ho.2.2.1 (rst_y ho) rfl hin2 d_R_addSorted_104 (fun H locs w => ?_)
            rw [hcl2] at w
            have w : gw D (gA L sz) s.heap H locs L (rst cI rx ry f a (upd G1 (j + 1) (iN ((pX P (k - 1))))) (upd G2 (j + 1) (iN ((pY P (k - 1))))) (P.length : Int)) := by rw [← rst_uy (Y := G2) ho]; exact w
            refine lv_iinc (v := iN ((k - 1))) (lv' := [(3, .int (iN ((k - 1)))), (0, .ref a), (1, .int (iN (x))), (2, .int (iN (y)))]) hx hb d_R_addSorted_105 hl (k := 3) rfl (by rw [show (k - 1) = k + (-1 : Int) by omega, ← iN_add]; rfl) (by decide) rfl (fun ls hl => ?_)
            refine lv_goto (tgt := 37) hx hb d_R_addSorted_108 (by decide) ?_
            have hI' : 0 ≤ (k - 1) ∧ (k - 1) ≤ P.length ∧ insAt P x y P.length = insAt P x y (k - 1).toNat ∧ (∀ (j7 : Nat) (q7 : Pt), P[j7]? = some q7 → ((j7 : Int) < (k - 1) → (upd G1 (j + 1) (iN ((pX P (k - 1))))) j7 = iN q7.1 ∧ (upd G2 (j + 1) (iN ((pY P (k - 1))))) j7 = iN q7.2) ∧ ((k - 1) ≤ j7 → (upd G1 (j + 1) (iN ((pX P (k - 1))))) (j7 + 1) = iN q7.1 ∧ (upd G2 (j + 1) (iN ((pY P (k - 1))))) (j7 + 1) = iN q7.2)) := ⟨by omega, by omega, by rw [h6, show k.toNat = j + 1 by omega, show (k - 1).toNat = j by omega]; exact if_pos (by rw [show ((j : Nat) : Int) = k - 1 by omega]; omega), fun t r hr => ⟨fun h7 => by unfold upd; rw [if_neg (by omega), if_neg (by omega)]; exact (hA t r hr).1 (by omega), fun h7 => by unfold upd; (by_cases e9 : t = j); (subst e9; rw [hq] at hr; cases hr; rw [if_pos rfl, if_pos rfl, ex, ey]; exact ⟨rfl, rfl⟩); rw [if_neg (by omega), if_neg (by omega)]; exact (hA t r hr).2 (by omega)⟩⟩
            exact ih ((k - 1), (upd G1 (j + 1) (iN ((pX P (k - 1))))), (upd G2 (j + 1) (iN ((pY P (k - 1)))))) _ _ _ (by omega) hI' w (lv_sub hl [1, 2, 3, 0] rfl)
          · skip
            refine lv_aload_n hx hb d_R_addSorted_53 rfl (lv_at hl 0 rfl) ?_
            refine gk_get X w ho.1 rst_a rfl in_R 0 (by decide) lk_R_9 rfl d_R_addSorted_54 ?_
            refine lv_iload_n hx hb d_R_addSorted_57 rfl (lv_at hl 3 rfl) ?_
            refine lv_iconst (v := iN (1)) hx hb d_R_addSorted_58 (by decide) ?_
            refine ri_sub (a := k) (b := 1) hx hb d_R_addSorted_59 rfl rfl ?_
            refine gk_iald X w 0 ho.2.1 (rst_x ho) rfl hin d_R_addSorted_60 ?_
            rw [hcl, hxj.1, ← ex]
            refine lv_iload_n hx hb d_R_addSorted_61 rfl (lv_at hl 1 rfl) ?_
            refine ri_cne (a := (pX P (k - 1))) (b := x) (tgt := 111) hx hb d_R_addSorted_62 (by decide) rfl rfl (pX_3 hB _) (by unfold i3; omega) (fun c62 => ?_) (fun c62 => ?_)
            · skip
              refine lv_aload_n hx hb d_R_addSorted_111 rfl (lv_at hl 0 rfl) ?_
              refine gk_get X w ho.1 rst_a rfl in_R 0 (by decide) lk_R_9 rfl d_R_addSorted_112 ?_
              refine lv_iload_n hx hb d_R_addSorted_115 rfl (lv_at hl 3 rfl) ?_
              refine lv_iload_n hx hb d_R_addSorted_116 rfl (lv_at hl 1 rfl) ?_
              refine gk_iast X w 0 ho.2.1 (rst_x ho) rfl (by rw [show k = ((k.toNat : Nat) : Int) by omega]; exact iN_in (by omega) (by decide)) d_R_addSorted_117 (fun H locs w => ?_)
              rw [show (iN k).toNatClampNeg = k.toNat by (conv => lhs; rw [show k = ((k.toNat : Nat) : Int) by omega]); exact iN_cl (by omega)] at w
              have w : gw D (gA L sz) s.heap H locs L (rst cI rx ry f a (upd G1 k.toNat (iN (x))) G2 (P.length : Int)) := by rw [← rst_ux (X := G1) (Y := G2) ho]; exact w
              refine lv_aload_n hx hb d_R_addSorted_118 rfl (lv_at hl 0 rfl) ?_
              refine gk_get X w ho.1 rst_a rfl in_R 1 (by decide) lk_R_15 rfl d_R_addSorted_119 ?_
              refine lv_iload_n hx hb d_R_addSorted_122 rfl (lv_at hl 3 rfl) ?_
              refine lv_iload_n hx hb d_R_addSorted_123 rfl (lv_at hl 2 rfl) ?_
              refine gk_iast X w 0 ho.2.2.1 (rst_y ho) rfl (by rw [show k = ((k.toNat : Nat) : Int) by omega]; exact iN_in (by omega) (by decide)) d_R_addSorted_124 (fun H locs w => ?_)
              rw [show (iN k).toNatClampNeg = k.toNat by (conv => lhs; rw [show k = ((k.toNat : Nat) : Int) by omega]); exact iN_cl (by omega)] at w
              have w : gw D (gA L sz) s.heap H locs L (rst cI rx ry f a (upd G1 k.toNat (iN (x))) (upd G2 k.toNat (iN (y))) (P.length : Int)) := by rw [← rst_uy (Y := G2) ho]; exact w
              refine lv_aload_n hx hb d_R_addSorted_125 rfl (lv_at hl 0 rfl) ?_
              refine lv_dup hx hb d_R_addSorted_126 rfl ?_
              refine gk_get X w ho.1 rst_a rfl in_R 2 (by decide) lk_R_18 rfl d_R_addSorted_127 ?_
              refine lv_iconst (v := iN (1)) hx hb d_R_addSorted_130 (by decide) ?_
              refine ri_add (a := (P.length : Int)) (b := 1) hx hb d_R_addSorted_131 rfl rfl ?_
              refine gk_put X w ho.1 rst_a rfl in_R ty_R tyok_R nm_R 2 (by decide) lk_R_18 rfl (ty := .int) (by decide +kernel) rfl rfl (Nat.le_of_ble_eq_true rfl) d_R_addSorted_132 (fun H locs w => ?_)
              have w : gw D (gA L sz) s.heap H locs L (rst cI rx ry f a (upd G1 k.toNat (iN (x))) (upd G2 k.toNat (iN (y))) ((P.length : Int) + 1)) := by rw [← rst_un (n := (P.length : Int))]; exact w
              have hm : insAt P x y P.length = k.toNat := by
                rw [h6]
                by_cases hk : k = 0
                · subst hk; rfl
                · obtain ⟨t, ht⟩ : ∃ t : Nat, k.toNat = t + 1 := ⟨k.toNat - 1, by omega⟩
                  rw [ht]; exact if_neg (by rw [show ((t : Nat) : Int) = k - 1 by omega]; omega)
              have e8 : ((P.length : Int) + 1) = (((insS P (x, y)).length : Nat) : Int) := by rw [insS_len]; omega
              rw [e8] at w
              exact g_vret X w hrt hlk d_R_addSorted_135 ⟨_, rfl, rowIs_rst ho (by rw [insS_len]; omega) (by unfold insS; rw [hm]; exact ins_row (by omega) (fun j q h => ⟨fun h7 => (hA j q h).1 (by omega), fun h7 => (hA j q h).2 (by omega)⟩)), rst_chg⟩
            · skip
              refine lv_aload_n hx hb d_R_addSorted_65 rfl (lv_at hl 0 rfl) ?_
              refine gk_get X w ho.1 rst_a rfl in_R 1 (by decide) lk_R_15 rfl d_R_addSorted_66 ?_
              refine lv_iload_n hx hb d_R_addSorted_69 rfl (lv_at hl 3 rfl) ?_
              refine lv_iconst (v := iN (1)) hx hb d_R_addSorted_70 (by decide) ?_
              refine ri_sub (a := k) (b := 1) hx hb d_R_addSorted_71 rfl rfl ?_
              refine gk_iald X w 0 ho.2.2.1 (rst_y ho) rfl hin d_R_addSorted_72 ?_
              rw [hcl, hxj.2, ← ey]
              refine lv_iload_n hx hb d_R_addSorted_73 rfl (lv_at hl 2 rfl) ?_
              refine ri_cle (a := (pY P (k - 1))) (b := y) (tgt := 111) hx hb d_R_addSorted_74 (by decide) rfl rfl (pY_3 hB _) (by unfold i3; omega) (fun c74 => ?_) (fun c74 => ?_)
              · skip
                refine lv_aload_n hx hb d_R_addSorted_111 rfl (lv_at hl 0 rfl) ?_
                refine gk_get X w ho.1 rst_a rfl in_R 0 (by decide) lk_R_9 rfl d_R_addSorted_112 ?_
                refine lv_iload_n hx hb d_R_addSorted_115 rfl (lv_at hl 3 rfl) ?_
                refine lv_iload_n hx hb d_R_addSorted_116 rfl (lv_at hl 1 rfl) ?_
                refine gk_iast X w 0 ho.2.1 (rst_x ho) rfl (by rw [show k = ((k.toNat : Nat) : Int) by omega]; exact iN_in (by omega) (by decide)) d_R_addSorted_117 (fun H locs w => ?_)
                rw [show (iN k).toNatClampNeg = k.toNat by (conv => lhs; rw [show k = ((k.toNat : Nat) : Int) by omega]); exact iN_cl (by omega)] at w
                have w : gw D (gA L sz) s.heap H locs L (rst cI rx ry f a (upd G1 k.toNat (iN (x))) G2 (P.length : Int)) := by rw [← rst_ux (X := G1) (Y := G2) ho]; exact w
                refine lv_aload_n hx hb d_R_addSorted_118 rfl (lv_at hl 0 rfl) ?_
                refine gk_get X w ho.1 rst_a rfl in_R 1 (by decide) lk_R_15 rfl d_R_addSorted_119 ?_
                refine lv_iload_n hx hb d_R_addSorted_122 rfl (lv_at hl 3 rfl) ?_
                refine lv_iload_n hx hb d_R_addSorted_123 rfl (lv_at hl 2 rfl) ?_
                refine gk_iast X w 0 ho.2.2.1 (rst_y ho) rfl (by rw [show k = ((k.toNat : Nat) : Int) by omega]; exact iN_in (by omega) (by decide)) d_R_addSorted_124 (fun H locs w => ?_)
                rw [show (iN k).toNatClampNeg = k.toNat by (conv => lhs; rw [show k = ((k.toNat : Nat) : Int) by omega]); exact iN_cl (by omega)] at w
                have w : gw D (gA L sz) s.heap H locs L (rst cI rx ry f a (upd G1 k.toNat (iN (x))) (upd G2 k.toNat (iN (y))) (P.length : Int)) := by rw [← rst_uy (Y := G2) ho]; exact w
                refine lv_aload_n hx hb d_R_addSorted_125 rfl (lv_at hl 0 rfl) ?_
                refine lv_dup hx hb d_R_addSorted_126 rfl ?_
                refine gk_get X w ho.1 rst_a rfl in_R 2 (by decide) lk_R_18 rfl d_R_addSorted_127 ?_
                refine lv_iconst (v := iN (1)) hx hb d_R_addSorted_130 (by decide) ?_
                refine ri_add (a := (P.length : Int)) (b := 1) hx hb d_R_addSorted_131 rfl rfl ?_
                refine gk_put X w ho.1 rst_a rfl in_R ty_R tyok_R nm_R 2 (by decide) lk_R_18 rfl (ty := .int) (by decide +kernel) rfl rfl (Nat.le_of_ble_eq_true rfl) d_R_addSorted_132 (fun H locs w => ?_)
                have w : gw D (gA L sz) s.heap H locs L (rst cI rx ry f a (upd G1 k.toNat (iN (x))) (upd G2 k.toNat (iN (y))) ((P.length : Int) + 1)) := by rw [← rst_un (n := (P.length : Int))]; exact w
                have hm : insAt P x y P.length = k.toNat := by
                  rw [h6]
                  by_cases hk : k = 0
                  · subst hk; rfl
                  · obtain ⟨t, ht⟩ : ∃ t : Nat, k.toNat = t + 1 := ⟨k.toNat - 1, by omega⟩
                    rw [ht]; exact if_neg (by rw [show ((t : Nat) : Int) = k - 1 by omega]; omega)
                have e8 : ((P.length : Int) + 1) = (((insS P (x, y)).length : Nat) : Int) := by rw [insS_len]; omega
                rw [e8] at w
                exact g_vret X w hrt hlk d_R_addSorted_135 ⟨_, rfl, rowIs_rst ho (by rw [insS_len]; omega) (by unfold insS; rw [hm]; exact ins_row (by omega) (fun j q h => ⟨fun h7 => (hA j q h).1 (by omega), fun h7 => (hA j q h).2 (by omega)⟩)), rst_chg⟩
              · skip
                refine lv_aload_n hx hb d_R_addSorted_77 rfl (lv_at hl 0 rfl) ?_
                refine gk_get X w ho.1 rst_a rfl in_R 0 (by decide) lk_R_9 rfl d_R_addSorted_78 ?_
                refine lv_iload_n hx hb d_R_addSorted_81 rfl (lv_at hl 3 rfl) ?_
                refine lv_aload_n hx hb d_R_addSorted_82 rfl (lv_at hl 0 rfl) ?_
                refine gk_get X w ho.1 rst_a rfl in_R 0 (by decide) lk_R_9 rfl d_R_addSorted_83 ?_
                refine lv_iload_n hx hb d_R_addSorted_86 rfl (lv_at hl 3 rfl) ?_
                refine lv_iconst (v := iN (1)) hx hb d_R_addSorted_87 (by decide) ?_
                refine ri_sub (a := k) (b := 1) hx hb d_R_addSorted_88 rfl rfl ?_
                refine gk_iald X w 0 ho.2.1 (rst_x ho) rfl hin d_R_addSorted_89 ?_
                rw [hcl, hxj.1, ← ex]
                refine gk_iast X w 0 ho.2.1 (rst_x ho) rfl hin2 d_R_addSorted_90 (fun H locs w => ?_)
                rw [hcl2] at w
                have w : gw D (gA L sz) s.heap H locs L (rst cI rx ry f a (upd G1 (j + 1) (iN ((pX P (k - 1))))) G2 (P.length : Int)) := by rw [← rst_ux (X := G1) (Y := G2) ho]; exact w
                refine lv_aload_n hx hb d_R_addSorted_91 rfl (lv_at hl 0 rfl) ?_
                refine gk_get X w ho.1 rst_a rfl in_R 1 (by decide) lk_R_15 rfl d_R_addSorted_92 ?_
                refine lv_iload_n hx hb d_R_addSorted_95 rfl (lv_at hl 3 rfl) ?_
                refine lv_aload_n hx hb d_R_addSorted_96 rfl (lv_at hl 0 rfl) ?_
                refine gk_get X w ho.1 rst_a rfl in_R 1 (by decide) lk_R_15 rfl d_R_addSorted_97 ?_
                refine lv_iload_n hx hb d_R_addSorted_100 rfl (lv_at hl 3 rfl) ?_
                refine lv_iconst (v := iN (1)) hx hb d_R_addSorted_101 (by decide) ?_
                refine ri_sub (a := k) (b := 1) hx hb d_R_addSorted_102 rfl rfl ?_
                refine gk_iald X w 0 ho.2.2.1 (rst_y ho) rfl hin d_R_addSorted_103 ?_
                rw [hcl, hxj.2, ← ey]
                refine gk_iast X w 0 ho.2.2.1 (rst_y ho) rfl hin2 d_R_addSorted_104 (fun H locs w => ?_)
                rw [hcl2] at w
                have w : gw D (gA L sz) s.heap H locs L (rst cI rx ry f a (upd G1 (j + 1) (iN ((pX P (k - 1))))) (upd G2 (j + 1) (iN ((pY P (k - 1))))) (P.length : Int)) := by rw [← rst_uy (Y := G2) ho]; exact w
                refine lv_iinc (v := iN ((k - 1))) (lv' := [(3, .int (iN ((k - 1)))), (0, .ref a), (1, .int (iN (x))), (2, .int (iN (y)))]) hx hb d_R_addSorted_105 hl (k := 3) rfl (by rw [show (k - 1) = k + (-1 : Int) by omega, ← iN_add]; rfl) (by decide) rfl (fun ls hl => ?_)
                refine lv_goto (tgt := 37) hx hb d_R_addSorted_108 (by decide) ?_
                have hI' : 0 ≤ (k - 1) ∧ (k - 1) ≤ P.length ∧ insAt P x y P.length = insAt P x y (k - 1).toNat ∧ (∀ (j7 : Nat) (q7 : Pt), P[j7]? = some q7 → ((j7 : Int) < (k - 1) → (upd G1 (j + 1) (iN ((pX P (k - 1))))) j7 = iN q7.1 ∧ (upd G2 (j + 1) (iN ((pY P (k - 1))))) j7 = iN q7.2) ∧ ((k - 1) ≤ j7 → (upd G1 (j + 1) (iN ((pX P (k - 1))))) (j7 + 1) = iN q7.1 ∧ (upd G2 (j + 1) (iN ((pY P (k - 1))))) (j7 + 1) = iN q7.2)) := ⟨by omega, by omega, by rw [h6, show k.toNat = j + 1 by omega, show (k - 1).toNat = j by omega]; exact if_pos (by rw [show ((j : Nat) : Int) = k - 1 by omega]; omega), fun t r hr => ⟨fun h7 => by unfold upd; rw [if_neg (by omega), if_neg (by omega)]; exact (hA t r hr).1 (by omega), fun h7 => by unfold upd; (by_cases e9 : t = j); (subst e9; rw [hq] at hr; cases hr; rw [if_pos rfl, if_pos rfl, ex, ey]; exact ⟨rfl, rfl⟩); rw [if_neg (by omega), if_neg (by omega)]; exact (hA t r hr).2 (by omega)⟩⟩
                exact ih ((k - 1), (upd G1 (j + 1) (iN ((pX P (k - 1))))), (upd G2 (j + 1) (iN ((pY P (k - 1)))))) _ _ _ (by omega) hI' w (lv_sub hl [1, 2, 3, 0] rfl)
      · skip
        omega
def popTo (P : List Pt) (x y kept : Int) : Nat → Nat
  | 0 => 0
  | n + 1 => if kept < (n : Int) + 1 ∧ 1 < (n : Int) + 1 ∧ pT P ((n : Int) - 1) n x y ≤ 0 then popTo P x y kept n else n + 1
def addC (kept : Int) (P : List Pt) (q : Pt) : List Pt := P.take (popTo P q.1 q.2 kept P.length) ++ [q]
theorem popTo_le (P : List Pt) (x y kept : Int) (n : Nat) : popTo P x y kept n ≤ n := by
  induction n with
  | zero => exact Nat.le_refl _
  | succ n ih => unfold popTo; split <;> omega
theorem addC_len (kept : Int) (P : List Pt) (q : Pt) : (addC kept P q).length ≤ P.length + 1 := by
  have := popTo_le P q.1 q.2 kept P.length
  simp [addC]; omega
theorem pX_take {P : List Pt} {n : Nat} {i : Int} (h : i < n) : pX (P.take n) i = pX P i := by
  unfold pX; split
  · rfl
  · rw [List.getElem?_take, if_pos (by omega)]
theorem pY_take {P : List Pt} {n : Nat} {i : Int} (h : i < n) : pY (P.take n) i = pY P i := by
  unfold pY; split
  · rfl
  · rw [List.getElem?_take, if_pos (by omega)]
theorem pT_take {P : List Pt} {n : Nat} {i j x y : Int} (h : i < n) (h2 : j < n) : pT (P.take n) i j x y = pT P i j x y := by
  unfold pT; rw [pX_take h, pX_take h2, pY_take h, pY_take h2]

set_option maxHeartbeats 4000000 in
set_option maxRecDepth 100000 in
theorem c_R_addCorner (l : Launch) {D : va_G} {cI cR : ClassId} {L : List Nat} {f : Nat → va_E} {rx ry : Nat → Nat} {a : Nat} {P : List Pt} (ho : ro L rx ry a) (hr : rowIs cI rx ry f a P) (hlt : P.length < 48) {x y kept : Int} (hk3 : i3 kept) (hB : pb 600 P) (hx0 : -1000 ≤ x ∧ x ≤ 1000) (hy0 : -1000 ≤ y ∧ y ≤ 1000) : gMv D cI cR l y_R_addCorner (Cond.code y_R_addCorner b_R_addCorner 4 none :: lw_g) { frames := 2, cells := 0, slots := 0, locals := 45 } [.ref a, .int (iN (x)), .int (iN (y)), .int (iN (kept))] L f (fun u => ∃ g, u = (L, g) ∧ rowIs cI rx ry g a (addC kept P (x, y)) ∧ chg rx ry a f g) := by
  intro sz
  refine g_enter (by decide) rfl (Nat.le_of_ble_eq_true rfl) ?_
  intro p e s m below meth cd ls X hrt hlk hnm hl hsz w
  have X : gx p m cd b_R_addCorner 4 s _ "HullSums$Row" D cI cR := X
  have hx := X.1.1
  have hb := X.1.2.1
  have hl : lv_has ls 4 [(0, .ref a), (1, .int (iN (x))), (2, .int (iN (y))), (3, .int (iN (kept)))] := hl
  have hr0 := hr
  obtain ⟨hn48, h1, F1, F2, h2, h3, h4⟩ := hr
  have w : gw D (gA L sz) s.heap s.heap [] L (rst cI rx ry f a F1 F2 P.length) := by rw [rst_0 h1 h2 h3]; exact w
  refine g_loop (σ := Int) (fun z9 => z9.toNat) (fun z9 => [(0, .ref a), (1, .int (iN (x))), (2, .int (iN (y))), (3, .int (iN (kept)))]) L (fun z9 => rst cI rx ry f a F1 F2 z9) (fun z9 => 0 ≤ z9 ∧ z9 ≤ P.length ∧ popTo P x y kept P.length = popTo P x y kept z9.toNat) ?_ (P.length : Int) _ _ _ ⟨by omega, by omega, by rw [Int.toNat_natCast]⟩ w (lv_sub hl [0, 1, 2, 3] rfl)
  intro n H locs ls hI w hl ih
  have hl : lv_has ls 4 [(0, .ref a), (1, .int (iN (x))), (2, .int (iN (y))), (3, .int (iN (kept)))] := hl
  have w : gw D (gA L sz) s.heap H locs L (rst cI rx ry f a F1 F2 n) := w
  have hI : 0 ≤ n ∧ n ≤ P.length ∧ popTo P x y kept P.length = popTo P x y kept n.toNat := hI
  obtain ⟨h0, h5, h6⟩ := hI
  have hln : (P.take n.toNat).length = n.toNat := by simp; omega
  have hrn : rowIs cI rx ry (rst cI rx ry f a F1 F2 n) a (P.take n.toNat) := by
    have := rowIs_rst (cI := cI) (f := f) (X := F1) (Y := F2) (P := P.take n.toNat) ho (by omega) (fun i q h => h4 i q (by rw [List.getElem?_take] at h; split at h; exact h; exact absurd h (by simp)))
    rwa [hln, show ((n.toNat : Nat) : Int) = n by omega] at this
  have hpt : n > 1 → pT (P.take n.toNat) (n - 2) (n - 1) x y = pT P (n - 2) (n - 1) x y := fun h => pT_take (by omega) (by omega)
  refine lv_aload_n hx hb d_R_addCorner_0 rfl (lv_at hl 0 rfl) ?_
  refine gk_get X w ho.1 rst_a rfl in_R 2 (by decide) lk_R_18 rfl d_R_addCorner_1 ?_
  refine lv_iload_n hx hb d_R_addCorner_4 rfl (lv_at hl 3 rfl) ?_
  refine ri_cle (a := n) (b := kept) (tgt := 50) hx hb d_R_addCorner_5 (by decide) rfl rfl (by unfold i3; omega) hk3 (fun c5 => ?_) (fun c5 => ?_)
  · skip
    refine lv_aload_n hx hb d_R_addCorner_50 rfl (lv_at hl 0 rfl) ?_
    refine lv_iload_n hx hb d_R_addCorner_51 rfl (lv_at hl 1 rfl) ?_
    refine lv_iload_n hx hb d_R_addCorner_52 rfl (lv_at hl 2 rfl) ?_
    refine g_cv w (g_runV (As := [.int (iN (x)), .int (iN (y))]) (rest := []) X w (c_R_add l ho hrn (by omega) (x := x) (y := y)) k_R_add v_R_add lk_R_54 ho.1 rst_a rfl ⟨(Nat.le_of_ble_eq_true rfl), (Nat.le_of_ble_eq_true rfl)⟩ rfl hl.1 rfl (Nat.le_of_ble_eq_true rfl) d_R_addCorner_53 ⟨(Nat.le_of_ble_eq_true rfl), (Nat.le_of_ble_eq_true rfl)⟩) (fun u H locs hp w => ?_)
    obtain ⟨g, rfl, hr2, hc2⟩ := hp
    have w : gw D (gA L sz) s.heap H locs L g := w
    have hm : popTo P x y kept P.length = n.toNat := by
      rw [h6]
      by_cases hk : n = 0
      · subst hk; rfl
      · obtain ⟨t, ht⟩ : ∃ t : Nat, n = (t : Int) + 1 := ⟨(n - 1).toNat, by omega⟩
        subst ht; rw [show ((t : Int) + 1).toNat = t + 1 by omega]
        refine if_neg (fun h => ?_)
        first | omega | (rw [hpt, show (t : Int) + 1 - 2 = (t : Int) - 1 by omega, show (t : Int) + 1 - 1 = t by omega] at c34; omega)
    exact g_vret X w hrt hlk d_R_addCorner_56 ⟨g, rfl, by unfold addC; rw [hm]; exact hr2, chg_trans rst_chg hc2⟩
  · skip
    refine lv_aload_n hx hb d_R_addCorner_8 rfl (lv_at hl 0 rfl) ?_
    refine gk_get X w ho.1 rst_a rfl in_R 2 (by decide) lk_R_18 rfl d_R_addCorner_9 ?_
    refine lv_iconst (v := iN (1)) hx hb d_R_addCorner_12 (by decide) ?_
    refine ri_cle (a := n) (b := 1) (tgt := 50) hx hb d_R_addCorner_13 (by decide) rfl rfl (by unfold i3; omega) (by unfold i3; omega) (fun c13 => ?_) (fun c13 => ?_)
    · skip
      refine lv_aload_n hx hb d_R_addCorner_50 rfl (lv_at hl 0 rfl) ?_
      refine lv_iload_n hx hb d_R_addCorner_51 rfl (lv_at hl 1 rfl) ?_
      refine lv_iload_n hx hb d_R_addCorner_52 rfl (lv_at hl 2 rfl) ?_
      refine g_cv w (g_runV (As := [.int (iN (x)), .int (iN (y))]) (rest := []) X w (c_R_add l ho hrn (by omega) (x := x) (y := y)) k_R_add v_R_add lk_R_54 ho.1 rst_a rfl ⟨(Nat.le_of_ble_eq_true rfl), (Nat.le_of_ble_eq_true rfl)⟩ rfl hl.1 rfl (Nat.le_of_ble_eq_true rfl) d_R_addCorner_53 ⟨(Nat.le_of_ble_eq_true rfl), (Nat.le_of_ble_eq_true rfl)⟩) (fun u H locs hp w => ?_)
      obtain ⟨g, rfl, hr2, hc2⟩ := hp
      have w : gw D (gA L sz) s.heap H locs L g := w
      have hm : popTo P x y kept P.length = n.toNat := by
        rw [h6]
        by_cases hk : n = 0
        · subst hk; rfl
        · obtain ⟨t, ht⟩ : ∃ t : Nat, n = (t : Int) + 1 := ⟨(n - 1).toNat, by omega⟩
          subst ht; rw [show ((t : Int) + 1).toNat = t + 1 by omega]
          refine if_neg (fun h => ?_)
          first | omega | (rw [hpt, show (t : Int) + 1 - 2 = (t : Int) - 1 by omega, show (t : Int) + 1 - 1 = t by omega] at c34; omega)
      exact g_vret X w hrt hlk d_R_addCorner_56 ⟨g, rfl, by unfold addC; rw [hm]; exact hr2, chg_trans rst_chg hc2⟩
    · skip
      have hpt := hpt (by omega)
      refine lv_aload_n hx hb d_R_addCorner_16 rfl (lv_at hl 0 rfl) ?_
      refine lv_aload_n hx hb d_R_addCorner_17 rfl (lv_at hl 0 rfl) ?_
      refine gk_get X w ho.1 rst_a rfl in_R 2 (by decide) lk_R_18 rfl d_R_addCorner_18 ?_
      refine lv_iconst (v := iN (2)) hx hb d_R_addCorner_21 (by decide) ?_
      refine ri_sub (a := n) (b := 2) hx hb d_R_addCorner_22 rfl rfl ?_
      refine lv_aload_n hx hb d_R_addCorner_23 rfl (lv_at hl 0 rfl) ?_
      refine gk_get X w ho.1 rst_a rfl in_R 2 (by decide) lk_R_18 rfl d_R_addCorner_24 ?_
      refine lv_iconst (v := iN (1)) hx hb d_R_addCorner_27 (by decide) ?_
      refine ri_sub (a := n) (b := 1) hx hb d_R_addCorner_28 rfl rfl ?_
      refine lv_iload_n hx hb d_R_addCorner_29 rfl (lv_at hl 1 rfl) ?_
      refine lv_iload_n hx hb d_R_addCorner_30 rfl (lv_at hl 2 rfl) ?_
      refine g_ci w (g_runV (As := [.int (iN ((n - 2))), .int (iN ((n - 1))), .int (iN (x)), .int (iN (y))]) (rest := []) X w (c_R_turn l ho hrn (x := x) (y := y) (by omega) (by omega)) k_R_turn v_R_turn lk_R_50 ho.1 rst_a rfl ⟨(Nat.le_of_ble_eq_true rfl), (Nat.le_of_ble_eq_true rfl)⟩ rfl hl.1 rfl (Nat.le_of_ble_eq_true rfl) d_R_addCorner_31 ⟨Nat.zero_le _, Nat.zero_le _⟩) (fun r u H locs hp w => ?_)
      obtain ⟨rfl, rfl⟩ := hp
      have w : gw D (gA L sz) s.heap H locs L (rst cI rx ry f a F1 F2 n) := w
      refine ri_zgt (a := (pT (P.take n.toNat) (n - 2) (n - 1) x y)) (tgt := 50) hx hb d_R_addCorner_34 (by decide) rfl (by rw [hpt]; exact pT_3 hB _ _ hx0 hy0) (fun c34 => ?_) (fun c34 => ?_)
      · skip
        refine lv_aload_n hx hb d_R_addCorner_50 rfl (lv_at hl 0 rfl) ?_
        refine lv_iload_n hx hb d_R_addCorner_51 rfl (lv_at hl 1 rfl) ?_
        refine lv_iload_n hx hb d_R_addCorner_52 rfl (lv_at hl 2 rfl) ?_
        refine g_cv w (g_runV (As := [.int (iN (x)), .int (iN (y))]) (rest := []) X w (c_R_add l ho hrn (by omega) (x := x) (y := y)) k_R_add v_R_add lk_R_54 ho.1 rst_a rfl ⟨(Nat.le_of_ble_eq_true rfl), (Nat.le_of_ble_eq_true rfl)⟩ rfl hl.1 rfl (Nat.le_of_ble_eq_true rfl) d_R_addCorner_53 ⟨(Nat.le_of_ble_eq_true rfl), (Nat.le_of_ble_eq_true rfl)⟩) (fun u H locs hp w => ?_)
        obtain ⟨g, rfl, hr2, hc2⟩ := hp
        have w : gw D (gA L sz) s.heap H locs L g := w
        have hm : popTo P x y kept P.length = n.toNat := by
          rw [h6]
          by_cases hk : n = 0
          · subst hk; rfl
          · obtain ⟨t, ht⟩ : ∃ t : Nat, n = (t : Int) + 1 := ⟨(n - 1).toNat, by omega⟩
            subst ht; rw [show ((t : Int) + 1).toNat = t + 1 by omega]
            refine if_neg (fun h => ?_)
            first | omega | (rw [hpt, show (t : Int) + 1 - 2 = (t : Int) - 1 by omega, show (t : Int) + 1 - 1 = t by omega] at c34; omega)
        exact g_vret X w hrt hlk d_R_addCorner_56 ⟨g, rfl, by unfold addC; rw [hm]; exact hr2, chg_trans rst_chg hc2⟩
      · skip
        refine lv_aload_n hx hb d_R_addCorner_37 rfl (lv_at hl 0 rfl) ?_
        refine lv_dup hx hb d_R_addCorner_38 rfl ?_
        refine gk_get X w ho.1 rst_a rfl in_R 2 (by decide) lk_R_18 rfl d_R_addCorner_39 ?_
        refine lv_iconst (v := iN (1)) hx hb d_R_addCorner_42 (by decide) ?_
        refine ri_sub (a := n) (b := 1) hx hb d_R_addCorner_43 rfl rfl ?_
        refine gk_put X w ho.1 rst_a rfl in_R ty_R tyok_R nm_R 2 (by decide) lk_R_18 rfl (ty := .int) (by decide +kernel) rfl rfl (Nat.le_of_ble_eq_true rfl) d_R_addCorner_44 (fun H locs w => ?_)
        have w : gw D (gA L sz) s.heap H locs L (rst cI rx ry f a F1 F2 (n - 1)) := by rw [← rst_un (n := n)]; exact w
        refine lv_goto (tgt := 0) hx hb d_R_addCorner_47 (by decide) ?_
        exact ih (n - 1) _ _ _ (by omega) ⟨by omega, by omega, by rw [h6]; obtain ⟨t, ht⟩ : ∃ t : Nat, n = (t : Int) + 1 := ⟨(n - 1).toNat, by omega⟩; subst ht; rw [show ((t : Int) + 1).toNat = t + 1 by omega, show ((t : Int) + 1 - 1).toNat = t by omega]; exact if_pos ⟨by omega, by omega, by rw [hpt, show (t : Int) + 1 - 2 = (t : Int) - 1 by omega, show (t : Int) + 1 - 1 = t by omega] at c34; omega⟩⟩ w (lv_sub hl [0, 1, 2, 3] rfl)
end
section
/-! ROWS: becomeHull -/
def sgm (s : Int) (q : Pt) : Pt := (s * q.1, s * q.2)
def sortF (Q : List Pt) : List Pt := Q.foldl insS []
def lowF (S : List Pt) : List Pt := S.foldl (addC 1) []
def uppF (S : List Pt) : List Pt := S.dropLast.reverse.foldl (addC ((lowF S).length : Int)) (lowF S)
def hullF (Q : List Pt) : List Pt := if 1 < (uppF (sortF Q)).length then (uppF (sortF Q)).dropLast else uppF (sortF Q)
def bq (B : Int) (q : Pt) : Prop := -B ≤ q.1 ∧ q.1 ≤ B ∧ -B ≤ q.2 ∧ q.2 ≤ B
def pbl (B : Int) (P : List Pt) : Prop := ∀ q ∈ P, bq B q
theorem pb_of {B : Int} {P : List Pt} (h0 : 0 ≤ B) (h : pbl B P) : pb B P := by
  intro i
  by_cases h1 : 0 ≤ i ∧ i < P.length
  · obtain ⟨k, q, e, hq, ex, ey⟩ := px_get h1.1 h1.2
    rw [ex, ey]; exact h q (List.mem_of_getElem? hq)
  · by_cases h2 : i < 0
    · rw [pX_neg h2, pY_neg h2]; omega
    · rw [pX_big (by omega), pY_big (by omega)]; omega
theorem sg_b {s z B : Int} (hs : s = 1 ∨ s = -1) (h : -B ≤ z ∧ z ≤ B) : -B ≤ s * z ∧ s * z ≤ B := by
  rcases hs with rfl | rfl <;> omega
theorem mem_insS {P : List Pt} {q r : Pt} (h : r ∈ insS P q) : r = q ∨ r ∈ P := by
  unfold insS at h
  rcases List.mem_append.mp h with h | h
  · exact Or.inr (List.mem_of_mem_take h)
  · rcases List.mem_cons.mp h with h | h
    · exact Or.inl h
    · exact Or.inr (List.mem_of_mem_drop h)
theorem mem_addC {k : Int} {P : List Pt} {q r : Pt} (h : r ∈ addC k P q) : r = q ∨ r ∈ P := by
  unfold addC at h
  rcases List.mem_append.mp h with h | h
  · exact Or.inr (List.mem_of_mem_take h)
  · exact Or.inl (List.mem_singleton.mp h)
theorem mem_fold {g : List Pt → Pt → List Pt} (hg : ∀ P q r, r ∈ g P q → r = q ∨ r ∈ P) (l : List Pt) : ∀ (z : List Pt) (r : Pt), r ∈ l.foldl g z → r ∈ l ∨ r ∈ z := by
  induction l with
  | nil => exact fun z r h => Or.inr h
  | cons x l ih =>
    intro z r h
    rcases ih (g z x) r h with h | h
    · exact Or.inl (List.mem_cons_of_mem _ h)
    · rcases hg _ _ _ h with h | h
      · exact Or.inl (by rw [h]; exact List.mem_cons_self)
      · exact Or.inr h
theorem pbl_fold {B : Int} {g : List Pt → Pt → List Pt} (hg : ∀ P q r, r ∈ g P q → r = q ∨ r ∈ P) {l z : List Pt} (hl : pbl B l) (hz : pbl B z) : pbl B (l.foldl g z) := fun r h => (mem_fold hg l z r h).elim (hl r) (hz r)
theorem pbl_take {B : Int} {l : List Pt} (h : pbl B l) (n : Nat) : pbl B (l.take n) := fun r q => h r (List.mem_of_mem_take q)
theorem fold_len {g : List Pt → Pt → List Pt} (hg : ∀ P q, (g P q).length ≤ P.length + 1) (l : List Pt) : ∀ z : List Pt, (l.foldl g z).length ≤ z.length + l.length := by
  induction l with
  | nil => exact fun z => Nat.le_refl _
  | cons x l ih =>
    intro z
    have h1 := ih (g z x); have h2 := hg z x
    simp only [List.foldl_cons, List.length_cons]; omega
theorem fold_ins_len (l : List Pt) : ∀ z : List Pt, (l.foldl insS z).length = z.length + l.length := by
  induction l with
  | nil => exact fun z => rfl
  | cons x l ih => intro z; rw [List.foldl_cons, ih, insS_len, List.length_cons]; omega
theorem sortF_len (Q : List Pt) : (sortF Q).length = Q.length := by unfold sortF; rw [fold_ins_len]; simp
theorem fold_take {g : List Pt → Pt → List Pt} {l z : List Pt} {i : Nat} {x : Pt} (h : l[i]? = some x) : (l.take (i + 1)).foldl g z = g ((l.take i).foldl g z) x := by
  rw [List.take_add_one, h, List.foldl_append]; rfl
theorem pbl_sgm {B s : Int} {P : List Pt} (hs : s = 1 ∨ s = -1) (h : pbl B P) : pbl B (P.map (sgm s)) := by
  intro r hr
  obtain ⟨q, hq, rfl⟩ := List.mem_map.mp hr
  have := h q hq
  have h1 := sg_b hs (z := q.1) (B := B) ⟨this.1, this.2.1⟩
  have h2 := sg_b hs (z := q.2) (B := B) ⟨this.2.2.1, this.2.2.2⟩
  exact ⟨h1.1, h1.2, h2.1, h2.2⟩
theorem rev_at {S : List Pt} {j : Int} (h0 : 0 ≤ j) (h1 : j ≤ S.length - 2) : S.dropLast.reverse[((S.length : Int) - 2 - j).toNat]? = S[j.toNat]? := by
  have hl : S.dropLast.length = S.length - 1 := List.length_dropLast
  rw [List.getElem?_reverse (by omega), List.getElem?_dropLast, if_pos (by omega), hl]
  congr 1
  omega
def chg2 (rx ry : Nat → Nat) (a c : Nat) (f g : Nat → va_E) : Prop := ∀ q, q ≠ a → q ≠ rx a → q ≠ ry a → q ≠ c → q ≠ rx c → q ≠ ry c → g q = f q

set_option maxHeartbeats 4000000 in
set_option maxRecDepth 100000 in
theorem c_R_becomeHull (l : Launch) {D : va_G} {cI cR : ClassId} {L : List Nat} {f : Nat → va_E} {rx ry : Nat → Nat} {a b c : Nat} {A P C : List Pt} (hoa : ro L rx ry a) (hob : ro L rx ry b) (hoc : ro L rx ry c) (hab : rd rx ry a b) (hac : rd rx ry a c) (hbc : rd rx ry b c) (hra : rowIs cI rx ry f a A) (hrb : rowIs cI rx ry f b P) (hrc : rowIs cI rx ry f c C) (hP : pbl 600 P) (hP24 : P.length ≤ 24) {sg : Int} (hsg : sg = 1 ∨ sg = -1) : gMv D cI cR l y_R_becomeHull (Cond.code y_R_becomeHull b_R_becomeHull 6 none :: lw_g) { frames := 3, cells := 0, slots := 0, locals := 68 } [.ref a, .ref b, .int (iN (sg)), .ref c] L f (fun u => ∃ g, u = (L, g) ∧ rowIs cI rx ry g a (hullF (P.map (sgm sg))) ∧ rowIs cI rx ry g c (sortF (P.map (sgm sg))) ∧ chg2 rx ry a c f g) := by
  intro sz
  refine g_enter (by decide) rfl (Nat.le_of_ble_eq_true rfl) ?_
  intro p e s m below meth cd ls X hrt hlk hnm hl hsz w
  have X : gx p m cd b_R_becomeHull 6 s _ "HullSums$Row" D cI cR := X
  have hx := X.1.1
  have hb := X.1.2.1
  have hl : lv_has ls 6 [(0, .ref a), (1, .ref b), (2, .int (iN (sg))), (3, .ref c)] := hl
  have hn24 := hP24
  have hBP := pb_of (by decide) hP
  have hQ := pbl_sgm hsg hP
  have hQl : (P.map (sgm sg)).length = P.length := List.length_map _
  have hSl := sortF_len (P.map (sgm sg))
  have hS : pbl 600 (sortF (P.map (sgm sg))) := pbl_fold (fun _ _ _ h => mem_insS h) hQ (fun _ h => by simp at h)
  have hBS := pb_of (by decide) hS
  generalize hSe : sortF (P.map (sgm sg)) = S at hSl hS hBS
  refine lv_aload_n hx hb d_R_becomeHull_0 rfl (lv_at hl 3 rfl) ?_
  refine g_cv w (g_runV (As := []) (rest := []) X w (c_R_empty l hoc hrc) k_R_empty v_R_empty lk_R_33 hoc.1 hrc.2.1 rfl ⟨(Nat.le_of_ble_eq_true rfl), (Nat.le_of_ble_eq_true rfl)⟩ rfl hl.1 rfl (Nat.le_of_ble_eq_true rfl) d_R_becomeHull_1 ⟨(Nat.le_of_ble_eq_true rfl), (Nat.le_of_ble_eq_true rfl)⟩) (fun u H locs hp w => ?_)
  obtain ⟨g1x, rfl, hn1, hk1⟩ := hp
  have w : gw D (gA L sz) s.heap H locs L g1x := w
  have ha1 := rowIs_keep hac hk1 hra
  have hb1 := rowIs_keep hbc hk1 hrb
  refine lv_iconst (v := iN (0)) hx hb d_R_becomeHull_4 (by decide) ?_
  refine lv_istore (lv' := [(4, .int (iN (0))), (0, .ref a), (1, .ref b), (2, .int (iN (sg))), (3, .ref c)]) hx hb d_R_becomeHull_5 hl (by decide) rfl (fun ls hl => ?_)
  refine g_loop (σ := Int × (Nat → va_E)) (fun z9 => (P.length - z9.1).toNat) (fun z9 => [(0, .ref a), (1, .ref b), (2, .int (iN (sg))), (3, .ref c), (4, .int (iN (z9.1)))]) L (fun z9 => z9.2) (fun z9 => 0 ≤ z9.1 ∧ z9.1 ≤ P.length ∧ rowIs cI rx ry z9.2 c (((P.map (sgm sg)).take z9.1.toNat).foldl insS []) ∧ rowIs cI rx ry z9.2 b P ∧ rowIs cI rx ry z9.2 a A ∧ chg rx ry c f z9.2) ?_ (0, g1x) _ _ _ ⟨by omega, by omega, hn1, hb1, ha1, hk1⟩ w (lv_sub hl [1, 2, 3, 4, 0] rfl)
  intro z9 H locs ls hI w hl ih
  obtain ⟨i, g⟩ := z9
  have hl : lv_has ls 6 [(0, .ref a), (1, .ref b), (2, .int (iN (sg))), (3, .ref c), (4, .int (iN (i)))] := hl
  have w : gw D (gA L sz) s.heap H locs L (g) := w
  have hI : 0 ≤ i ∧ i ≤ P.length ∧ rowIs cI rx ry g c (((P.map (sgm sg)).take i.toNat).foldl insS []) ∧ rowIs cI rx ry g b P ∧ rowIs cI rx ry g a A ∧ chg rx ry c f g := hI
  obtain ⟨h0, h1, hc, hb9, ha, hch⟩ := hI
  have hle : (((P.map (sgm sg)).take i.toNat).foldl insS []).length = i.toNat := by rw [fold_ins_len, List.length_take]; simp; omega
  have hBC : pb 600 (((P.map (sgm sg)).take i.toNat).foldl insS []) := pb_of (by decide) (pbl_fold (fun _ _ _ h => mem_insS h) (pbl_take hQ _) (fun _ h => by simp at h))
  refine lv_iload hx hb d_R_becomeHull_7 (lv_at hl 4 rfl) ?_
  refine lv_aload_n hx hb d_R_becomeHull_9 rfl (lv_at hl 1 rfl) ?_
  refine g_ci w (g_runV (As := []) (rest := [.int (iN (i))]) X w (c_R_size l hob hb9) k_R_size v_R_size lk_R_36 hob.1 hb9.2.1 rfl ⟨(Nat.le_of_ble_eq_true rfl), (Nat.le_of_ble_eq_true rfl)⟩ rfl hl.1 rfl (Nat.le_of_ble_eq_true rfl) d_R_becomeHull_10 ⟨Nat.zero_le _, Nat.zero_le _⟩) (fun r u H locs hp w => ?_)
  obtain ⟨rfl, rfl⟩ := hp
  have w : gw D (gA L sz) s.heap H locs L g := w
  refine ri_cge (a := i) (b := (P.length : Int)) (tgt := 42) hx hb d_R_becomeHull_13 (by decide) rfl rfl (by unfold i3; omega) (by unfold i3; omega) (fun c13 => ?_) (fun c13 => ?_)
  · skip
    have hcS : rowIs cI rx ry g c S := by rw [← hSe]; rw [show i.toNat = (P.map (sgm sg)).length by omega, List.take_length] at hc; exact hc
    refine lv_aload_n hx hb d_R_becomeHull_42 rfl (lv_at hl 0 rfl) ?_
    refine g_cv w (g_runV (As := []) (rest := []) X w (c_R_empty l hoa ha) k_R_empty v_R_empty lk_R_33 hoa.1 ha.2.1 rfl ⟨(Nat.le_of_ble_eq_true rfl), (Nat.le_of_ble_eq_true rfl)⟩ rfl hl.1 rfl (Nat.le_of_ble_eq_true rfl) d_R_becomeHull_43 ⟨(Nat.le_of_ble_eq_true rfl), (Nat.le_of_ble_eq_true rfl)⟩) (fun u H locs hp w => ?_)
    obtain ⟨g2x, rfl, hn2, hk2⟩ := hp
    have w : gw D (gA L sz) s.heap H locs L g2x := w
    have hb2 := rowIs_keep hab.symm hk2 hb9
    have hc2 := rowIs_keep hac.symm hk2 hcS
    refine lv_iconst (v := iN (0)) hx hb d_R_becomeHull_46 (by decide) ?_
    refine lv_istore (lv' := [(4, .int (iN (0))), (0, .ref a), (1, .ref b), (2, .int (iN (sg))), (3, .ref c)]) hx hb d_R_becomeHull_47 hl (by decide) rfl (fun ls hl => ?_)
    refine g_loop (σ := Int × (Nat → va_E)) (fun z9 => (S.length - z9.1).toNat) (fun z9 => [(0, .ref a), (1, .ref b), (2, .int (iN (sg))), (3, .ref c), (4, .int (iN (z9.1)))]) L (fun z9 => z9.2) (fun z9 => 0 ≤ z9.1 ∧ z9.1 ≤ S.length ∧ rowIs cI rx ry z9.2 a ((S.take z9.1.toNat).foldl (addC 1) []) ∧ rowIs cI rx ry z9.2 b P ∧ rowIs cI rx ry z9.2 c S ∧ chg2 rx ry a c f z9.2) ?_ (0, g2x) _ _ _ ⟨by omega, by omega, hn2, hb2, hc2, fun q q1 q2 q3 q4 q5 q6 => (hk2 q q1 q2 q3).trans (hch q q4 q5 q6)⟩ w (lv_sub hl [1, 2, 3, 4, 0] rfl)
    intro z9 H locs ls hI w hl ih
    obtain ⟨i, g⟩ := z9
    have hl : lv_has ls 6 [(0, .ref a), (1, .ref b), (2, .int (iN (sg))), (3, .ref c), (4, .int (iN (i)))] := hl
    have w : gw D (gA L sz) s.heap H locs L (g) := w
    have hI : 0 ≤ i ∧ i ≤ S.length ∧ rowIs cI rx ry g a ((S.take i.toNat).foldl (addC 1) []) ∧ rowIs cI rx ry g b P ∧ rowIs cI rx ry g c S ∧ chg2 rx ry a c f g := hI
    obtain ⟨h0, h1, ha, hb9, hc, hch⟩ := hI
    have hle : ((S.take i.toNat).foldl (addC 1) []).length ≤ i.toNat := by have := fold_len (g := addC 1) (fun _ _ => addC_len _ _ _) (S.take i.toNat) []; simp at this; omega
    have hBA : pb 600 ((S.take i.toNat).foldl (addC 1) []) := pb_of (by decide) (pbl_fold (fun _ _ _ h => mem_addC h) (pbl_take hS _) (fun _ h => by simp at h))
    refine lv_iload hx hb d_R_becomeHull_49 (lv_at hl 4 rfl) ?_
    refine lv_aload_n hx hb d_R_becomeHull_51 rfl (lv_at hl 3 rfl) ?_
    refine g_ci w (g_runV (As := []) (rest := [.int (iN (i))]) X w (c_R_size l hoc hc) k_R_size v_R_size lk_R_36 hoc.1 hc.2.1 rfl ⟨(Nat.le_of_ble_eq_true rfl), (Nat.le_of_ble_eq_true rfl)⟩ rfl hl.1 rfl (Nat.le_of_ble_eq_true rfl) d_R_becomeHull_52 ⟨Nat.zero_le _, Nat.zero_le _⟩) (fun r u H locs hp w => ?_)
    obtain ⟨rfl, rfl⟩ := hp
    have w : gw D (gA L sz) s.heap H locs L g := w
    refine ri_cge (a := i) (b := (S.length : Int)) (tgt := 81) hx hb d_R_becomeHull_55 (by decide) rfl rfl (by unfold i3; omega) (by unfold i3; omega) (fun c55 => ?_) (fun c55 => ?_)
    · skip
      have haL : rowIs cI rx ry g a (lowF S) := by unfold lowF; rw [show i.toNat = S.length by omega, List.take_length] at ha; exact ha
      have hlL : (lowF S).length ≤ S.length := by have := fold_len (g := addC 1) (fun _ _ => addC_len _ _ _) S []; simp at this; exact this
      have hLb : pbl 600 (lowF S) := pbl_fold (fun _ _ _ h => mem_addC h) hS (fun _ h => by simp at h)
      refine lv_aload_n hx hb d_R_becomeHull_81 rfl (lv_at hl 0 rfl) ?_
      refine gk_get X w hoa.1 haL.2.1 rfl in_R 2 (by decide) lk_R_18 rfl d_R_becomeHull_82 ?_
      refine lv_istore (lv' := [(4, .int (iN (((lowF S).length : Int)))), (0, .ref a), (1, .ref b), (2, .int (iN (sg))), (3, .ref c)]) hx hb d_R_becomeHull_85 hl (by decide) rfl (fun ls hl => ?_)
      refine lv_aload_n hx hb d_R_becomeHull_87 rfl (lv_at hl 4 rfl) ?_
      refine g_ci w (g_runV (As := []) (rest := []) X w (c_R_size l hoc hc) k_R_size v_R_size lk_R_36 hoc.1 hc.2.1 rfl ⟨(Nat.le_of_ble_eq_true rfl), (Nat.le_of_ble_eq_true rfl)⟩ rfl hl.1 rfl (Nat.le_of_ble_eq_true rfl) d_R_becomeHull_88 ⟨Nat.zero_le _, Nat.zero_le _⟩) (fun r u H locs hp w => ?_)
      obtain ⟨rfl, rfl⟩ := hp
      have w : gw D (gA L sz) s.heap H locs L g := w
      refine lv_iconst (v := iN (2)) hx hb d_R_becomeHull_91 (by decide) ?_
      refine ri_sub (a := (S.length : Int)) (b := 2) hx hb d_R_becomeHull_92 rfl rfl ?_
      refine lv_istore (lv' := [(5, .int (iN (((S.length : Int) - 2)))), (4, .int (iN (((lowF S).length : Int)))), (0, .ref a), (1, .ref b), (2, .int (iN (sg))), (3, .ref c)]) hx hb d_R_becomeHull_93 hl (by decide) rfl (fun ls hl => ?_)
      refine g_loop (σ := Int × (Nat → va_E)) (fun z9 => (z9.1 + 3).toNat) (fun z9 => [(0, .ref a), (1, .ref b), (2, .int (iN (sg))), (3, .ref c), (4, .int (iN (((lowF S).length : Int)))), (5, .int (iN (z9.1)))]) L (fun z9 => z9.2) (fun z9 => -2 ≤ z9.1 ∧ z9.1 ≤ (S.length : Int) - 2 ∧ (z9.1 = -2 → S.length = 0) ∧ rowIs cI rx ry z9.2 a ((S.dropLast.reverse.take ((S.length : Int) - 2 - z9.1).toNat).foldl (addC ((lowF S).length : Int)) (lowF S)) ∧ rowIs cI rx ry z9.2 b P ∧ rowIs cI rx ry z9.2 c S ∧ chg2 rx ry a c f z9.2) ?_ (((S.length : Int) - 2), g) _ _ _ ⟨by omega, by omega, fun h => by omega, by rw [show ((S.length : Int) - 2 - ((S.length : Int) - 2)).toNat = 0 by omega]; exact haL, hb9, hc, hch⟩ w (lv_sub hl [2, 3, 4, 5, 1, 0] rfl)
      intro z9 H locs ls hI w hl ih
      obtain ⟨j, g⟩ := z9
      have hl : lv_has ls 6 [(0, .ref a), (1, .ref b), (2, .int (iN (sg))), (3, .ref c), (4, .int (iN (((lowF S).length : Int)))), (5, .int (iN (j)))] := hl
      have w : gw D (gA L sz) s.heap H locs L (g) := w
      have hI : -2 ≤ j ∧ j ≤ (S.length : Int) - 2 ∧ (j = -2 → S.length = 0) ∧ rowIs cI rx ry g a ((S.dropLast.reverse.take ((S.length : Int) - 2 - j).toNat).foldl (addC ((lowF S).length : Int)) (lowF S)) ∧ rowIs cI rx ry g b P ∧ rowIs cI rx ry g c S ∧ chg2 rx ry a c f g := hI
      obtain ⟨h0, h1, hz, ha, hb9, hc, hch⟩ := hI
      have hle : ((S.dropLast.reverse.take ((S.length : Int) - 2 - j).toNat).foldl (addC ((lowF S).length : Int)) (lowF S)).length ≤ (lowF S).length + ((S.length : Int) - 2 - j).toNat := by have := fold_len (g := addC ((lowF S).length : Int)) (fun _ _ => addC_len _ _ _) (S.dropLast.reverse.take ((S.length : Int) - 2 - j).toNat) (lowF S); rw [List.length_take] at this; omega
      have hBA : pb 600 ((S.dropLast.reverse.take ((S.length : Int) - 2 - j).toNat).foldl (addC ((lowF S).length : Int)) (lowF S)) := pb_of (by decide) (pbl_fold (fun _ _ _ h => mem_addC h) (pbl_take (fun q hq => hS q (List.dropLast_subset S (List.mem_reverse.mp hq))) _) hLb)
      refine lv_iload hx hb d_R_becomeHull_95 (lv_at hl 5 rfl) ?_
      refine ri_zlt (a := j) (tgt := 124) hx hb d_R_becomeHull_97 (by decide) rfl (by unfold i3; omega) (fun c97 => ?_) (fun c97 => ?_)
      · skip
        have haU : rowIs cI rx ry g a (uppF S) := by
          unfold uppF
          rw [List.take_of_length_le (by rw [List.length_reverse, List.length_dropLast]; omega)] at ha; exact ha
        have hBU := hBA
        refine lv_aload_n hx hb d_R_becomeHull_124 rfl (lv_at hl 0 rfl) ?_
        refine gk_get X w hoa.1 haU.2.1 rfl in_R 2 (by decide) lk_R_18 rfl d_R_becomeHull_125 ?_
        refine lv_iconst (v := iN (1)) hx hb d_R_becomeHull_128 (by decide) ?_
        refine ri_cle (a := ((uppF S).length : Int)) (b := 1) (tgt := 136) hx hb d_R_becomeHull_129 (by decide) rfl rfl (by have := haU.1; unfold i3; omega) (by unfold i3; omega) (fun c129 => ?_) (fun c129 => ?_)
        · skip
          exact g_vret X w hrt hlk d_R_becomeHull_136 ⟨g, rfl, by unfold hullF; rw [hSe, if_neg (by omega)]; exact haU, hc, hch⟩
        · skip
          refine lv_aload_n hx hb d_R_becomeHull_132 rfl (lv_at hl 0 rfl) ?_
          refine g_cv w (g_runV (As := []) (rest := []) X w (c_R_dropLast l hoa haU) k_R_dropLast v_R_dropLast lk_R_47 hoa.1 haU.2.1 rfl ⟨(Nat.le_of_ble_eq_true rfl), (Nat.le_of_ble_eq_true rfl)⟩ rfl hl.1 rfl (Nat.le_of_ble_eq_true rfl) d_R_becomeHull_133 ⟨(Nat.le_of_ble_eq_true rfl), (Nat.le_of_ble_eq_true rfl)⟩) (fun u H locs hp w => ?_)
          obtain ⟨g3x, rfl, hn3, hk3⟩ := hp
          have w : gw D (gA L sz) s.heap H locs L g3x := w
          have hb3 := rowIs_keep hab.symm hk3 hb9
          have hc3 := rowIs_keep hac.symm hk3 hc
          exact g_vret X w hrt hlk d_R_becomeHull_136 ⟨_, rfl, by unfold hullF; rw [hSe, if_pos (by omega)]; exact hn3, hc3, fun q q1 q2 q3 q4 q5 q6 => (hk3 q q1 q2 q3).trans (hch q q1 q2 q3 q4 q5 q6)⟩
      · skip
        obtain ⟨ki, qi, eki, hqi0, exi, eyi⟩ := px_get (P := S) (i := j) (by omega) (by omega)
        have hsj : S.dropLast.reverse[((S.length : Int) - 2 - j).toNat]? = some (pX S j, pY S j) := by rw [rev_at (by omega) h1, show j.toNat = ki by omega, hqi0, exi, eyi]
        refine lv_aload_n hx hb d_R_becomeHull_100 rfl (lv_at hl 0 rfl) ?_
        refine lv_aload_n hx hb d_R_becomeHull_101 rfl (lv_at hl 3 rfl) ?_
        refine lv_iload hx hb d_R_becomeHull_102 (lv_at hl 5 rfl) ?_
        refine g_ci w (g_runV (As := [.int (iN (j))]) (rest := [.ref a]) X w (c_R_x l hoc hc (by unfold i3; omega)) k_R_x v_R_x lk_R_22 hoc.1 hc.2.1 rfl ⟨(Nat.le_of_ble_eq_true rfl), (Nat.le_of_ble_eq_true rfl)⟩ rfl hl.1 rfl (Nat.le_of_ble_eq_true rfl) d_R_becomeHull_104 ⟨Nat.zero_le _, Nat.zero_le _⟩) (fun r u H locs hp w => ?_)
        obtain ⟨rfl, rfl⟩ := hp
        have w : gw D (gA L sz) s.heap H locs L g := w
        refine lv_aload_n hx hb d_R_becomeHull_107 rfl (lv_at hl 3 rfl) ?_
        refine lv_iload hx hb d_R_becomeHull_108 (lv_at hl 5 rfl) ?_
        refine g_ci w (g_runV (As := [.int (iN (j))]) (rest := [.int (iN ((pX S j))), .ref a]) X w (c_R_y l hoc hc (by unfold i3; omega)) k_R_y v_R_y lk_R_26 hoc.1 hc.2.1 rfl ⟨(Nat.le_of_ble_eq_true rfl), (Nat.le_of_ble_eq_true rfl)⟩ rfl hl.1 rfl (Nat.le_of_ble_eq_true rfl) d_R_becomeHull_110 ⟨Nat.zero_le _, Nat.zero_le _⟩) (fun r u H locs hp w => ?_)
        obtain ⟨rfl, rfl⟩ := hp
        have w : gw D (gA L sz) s.heap H locs L g := w
        refine lv_iload hx hb d_R_becomeHull_113 (lv_at hl 4 rfl) ?_
        refine g_cv w (g_runV (As := [.int (iN ((pX S j))), .int (iN ((pY S j))), .int (iN (((lowF S).length : Int)))]) (rest := []) X w (c_R_addCorner l hoa ha (by omega) (x := pX S j) (y := pY S j) (by unfold i3; omega) hBA (by have := hBS j; omega) (by have := hBS j; omega)) k_R_addCorner v_R_addCorner lk_R_43 hoa.1 ha.2.1 rfl ⟨(Nat.le_of_ble_eq_true rfl), (Nat.le_of_ble_eq_true rfl)⟩ rfl hl.1 rfl (Nat.le_of_ble_eq_true rfl) d_R_becomeHull_115 ⟨(Nat.le_of_ble_eq_true rfl), (Nat.le_of_ble_eq_true rfl)⟩) (fun u H locs hp w => ?_)
        obtain ⟨g4x, rfl, hn4, hk4⟩ := hp
        have w : gw D (gA L sz) s.heap H locs L g4x := w
        have hb4 := rowIs_keep hab.symm hk4 hb9
        have hc4 := rowIs_keep hac.symm hk4 hc
        refine lv_iinc (v := iN ((j - 1))) (lv' := [(5, .int (iN ((j - 1)))), (0, .ref a), (1, .ref b), (2, .int (iN (sg))), (3, .ref c), (4, .int (iN (((lowF S).length : Int))))]) hx hb d_R_becomeHull_118 hl (k := 5) rfl (by rw [show (j - 1) = j + (-1 : Int) by omega, ← iN_add]; rfl) (by decide) rfl (fun ls hl => ?_)
        refine lv_goto (tgt := 95) hx hb d_R_becomeHull_121 (by decide) ?_
        have hI' : -2 ≤ (j - 1) ∧ (j - 1) ≤ (S.length : Int) - 2 ∧ ((j - 1) = -2 → S.length = 0) ∧ rowIs cI rx ry g4x a ((S.dropLast.reverse.take ((S.length : Int) - 2 - (j - 1)).toNat).foldl (addC ((lowF S).length : Int)) (lowF S)) ∧ rowIs cI rx ry g4x b P ∧ rowIs cI rx ry g4x c S ∧ chg2 rx ry a c f g4x := ⟨by omega, by omega, fun h => by omega, by rw [show ((S.length : Int) - 2 - (j - 1)).toNat = ((S.length : Int) - 2 - j).toNat + 1 by omega, fold_take hsj]; exact hn4, hb4, hc4, fun q q1 q2 q3 q4 q5 q6 => (hk4 q q1 q2 q3).trans (hch q q1 q2 q3 q4 q5 q6)⟩
        exact ih ((j - 1), g4x) _ _ _ (by omega) hI' w (lv_sub hl [1, 2, 3, 4, 5, 0] rfl)
    · skip
      obtain ⟨ki, qi, eki, hqi0, exi, eyi⟩ := px_get (P := S) (i := i) h0 (by omega)
      have hsi : S[i.toNat]? = some (pX S i, pY S i) := by rw [show i.toNat = ki by omega, hqi0, exi, eyi]
      refine lv_aload_n hx hb d_R_becomeHull_58 rfl (lv_at hl 0 rfl) ?_
      refine lv_aload_n hx hb d_R_becomeHull_59 rfl (lv_at hl 3 rfl) ?_
      refine lv_iload hx hb d_R_becomeHull_60 (lv_at hl 4 rfl) ?_
      refine g_ci w (g_runV (As := [.int (iN (i))]) (rest := [.ref a]) X w (c_R_x l hoc hc (by unfold i3; omega)) k_R_x v_R_x lk_R_22 hoc.1 hc.2.1 rfl ⟨(Nat.le_of_ble_eq_true rfl), (Nat.le_of_ble_eq_true rfl)⟩ rfl hl.1 rfl (Nat.le_of_ble_eq_true rfl) d_R_becomeHull_62 ⟨Nat.zero_le _, Nat.zero_le _⟩) (fun r u H locs hp w => ?_)
      obtain ⟨rfl, rfl⟩ := hp
      have w : gw D (gA L sz) s.heap H locs L g := w
      refine lv_aload_n hx hb d_R_becomeHull_65 rfl (lv_at hl 3 rfl) ?_
      refine lv_iload hx hb d_R_becomeHull_66 (lv_at hl 4 rfl) ?_
      refine g_ci w (g_runV (As := [.int (iN (i))]) (rest := [.int (iN ((pX S i))), .ref a]) X w (c_R_y l hoc hc (by unfold i3; omega)) k_R_y v_R_y lk_R_26 hoc.1 hc.2.1 rfl ⟨(Nat.le_of_ble_eq_true rfl), (Nat.le_of_ble_eq_true rfl)⟩ rfl hl.1 rfl (Nat.le_of_ble_eq_true rfl) d_R_becomeHull_68 ⟨Nat.zero_le _, Nat.zero_le _⟩) (fun r u H locs hp w => ?_)
      obtain ⟨rfl, rfl⟩ := hp
      have w : gw D (gA L sz) s.heap H locs L g := w
      refine lv_iconst (v := iN (1)) hx hb d_R_becomeHull_71 (by decide) ?_
      refine g_cv w (g_runV (As := [.int (iN ((pX S i))), .int (iN ((pY S i))), .int (iN (1))]) (rest := []) X w (c_R_addCorner l hoa ha (by omega) (x := pX S i) (y := pY S i) (by unfold i3; omega) hBA (by have := hBS i; omega) (by have := hBS i; omega)) k_R_addCorner v_R_addCorner lk_R_43 hoa.1 ha.2.1 rfl ⟨(Nat.le_of_ble_eq_true rfl), (Nat.le_of_ble_eq_true rfl)⟩ rfl hl.1 rfl (Nat.le_of_ble_eq_true rfl) d_R_becomeHull_72 ⟨(Nat.le_of_ble_eq_true rfl), (Nat.le_of_ble_eq_true rfl)⟩) (fun u H locs hp w => ?_)
      obtain ⟨g5x, rfl, hn5, hk5⟩ := hp
      have w : gw D (gA L sz) s.heap H locs L g5x := w
      have hb5 := rowIs_keep hab.symm hk5 hb9
      have hc5 := rowIs_keep hac.symm hk5 hc
      refine lv_iinc (v := iN ((i + 1))) (lv' := [(4, .int (iN ((i + 1)))), (0, .ref a), (1, .ref b), (2, .int (iN (sg))), (3, .ref c)]) hx hb d_R_becomeHull_75 hl (k := 4) rfl (by rw [show (i + 1) = i + (1 : Int) by omega, ← iN_add]; rfl) (by decide) rfl (fun ls hl => ?_)
      refine lv_goto (tgt := 49) hx hb d_R_becomeHull_78 (by decide) ?_
      have hI' : 0 ≤ (i + 1) ∧ (i + 1) ≤ S.length ∧ rowIs cI rx ry g5x a ((S.take (i + 1).toNat).foldl (addC 1) []) ∧ rowIs cI rx ry g5x b P ∧ rowIs cI rx ry g5x c S ∧ chg2 rx ry a c f g5x := ⟨by omega, by omega, by rw [tn_s h0, fold_take hsi]; exact hn5, hb5, hc5, fun q q1 q2 q3 q4 q5 q6 => (hk5 q q1 q2 q3).trans (hch q q1 q2 q3 q4 q5 q6)⟩
      exact ih ((i + 1), g5x) _ _ _ (by omega) hI' w (lv_sub hl [1, 2, 3, 4, 0] rfl)
  · skip
    obtain ⟨ki, qi, eki, hqi0, exi, eyi⟩ := px_get (P := P) (i := i) h0 (by omega)
    have hqi : (P.map (sgm sg))[i.toNat]? = some (sg * pX P i, sg * pY P i) := by rw [List.getElem?_map, show i.toNat = ki by omega, hqi0, exi, eyi]; rfl
    refine lv_aload_n hx hb d_R_becomeHull_16 rfl (lv_at hl 3 rfl) ?_
    refine lv_iload_n hx hb d_R_becomeHull_17 rfl (lv_at hl 2 rfl) ?_
    refine lv_aload_n hx hb d_R_becomeHull_18 rfl (lv_at hl 1 rfl) ?_
    refine lv_iload hx hb d_R_becomeHull_19 (lv_at hl 4 rfl) ?_
    refine g_ci w (g_runV (As := [.int (iN (i))]) (rest := [.int (iN (sg)), .ref c]) X w (c_R_x l hob hb9 (by unfold i3; omega)) k_R_x v_R_x lk_R_22 hob.1 hb9.2.1 rfl ⟨(Nat.le_of_ble_eq_true rfl), (Nat.le_of_ble_eq_true rfl)⟩ rfl hl.1 rfl (Nat.le_of_ble_eq_true rfl) d_R_becomeHull_21 ⟨Nat.zero_le _, Nat.zero_le _⟩) (fun r u H locs hp w => ?_)
    obtain ⟨rfl, rfl⟩ := hp
    have w : gw D (gA L sz) s.heap H locs L g := w
    refine ri_mul (a := sg) (b := (pX P i)) hx hb d_R_becomeHull_24 rfl rfl ?_
    refine lv_iload_n hx hb d_R_becomeHull_25 rfl (lv_at hl 2 rfl) ?_
    refine lv_aload_n hx hb d_R_becomeHull_26 rfl (lv_at hl 1 rfl) ?_
    refine lv_iload hx hb d_R_becomeHull_27 (lv_at hl 4 rfl) ?_
    refine g_ci w (g_runV (As := [.int (iN (i))]) (rest := [.int (iN (sg)), .int (iN ((sg * (pX P i)))), .ref c]) X w (c_R_y l hob hb9 (by unfold i3; omega)) k_R_y v_R_y lk_R_26 hob.1 hb9.2.1 rfl ⟨(Nat.le_of_ble_eq_true rfl), (Nat.le_of_ble_eq_true rfl)⟩ rfl hl.1 rfl (Nat.le_of_ble_eq_true rfl) d_R_becomeHull_29 ⟨Nat.zero_le _, Nat.zero_le _⟩) (fun r u H locs hp w => ?_)
    obtain ⟨rfl, rfl⟩ := hp
    have w : gw D (gA L sz) s.heap H locs L g := w
    refine ri_mul (a := sg) (b := (pY P i)) hx hb d_R_becomeHull_32 rfl rfl ?_
    refine g_cv w (g_runV (As := [.int (iN ((sg * (pX P i)))), .int (iN ((sg * (pY P i))))]) (rest := []) X w (c_R_addSorted l hoc hc (by omega) (x := sg * (pX P i)) (y := sg * (pY P i)) hBC (by have := hBP i; have := sg_b hsg (z := pX P i) (B := 600) (by omega); omega) (by have := hBP i; have := sg_b hsg (z := pY P i) (B := 600) (by omega); omega)) k_R_addSorted v_R_addSorted lk_R_39 hoc.1 hc.2.1 rfl ⟨(Nat.le_of_ble_eq_true rfl), (Nat.le_of_ble_eq_true rfl)⟩ rfl hl.1 rfl (Nat.le_of_ble_eq_true rfl) d_R_becomeHull_33 ⟨(Nat.le_of_ble_eq_true rfl), (Nat.le_of_ble_eq_true rfl)⟩) (fun u H locs hp w => ?_)
    obtain ⟨g6x, rfl, hn6, hk6⟩ := hp
    have w : gw D (gA L sz) s.heap H locs L g6x := w
    have ha6 := rowIs_keep hac hk6 ha
    have hb6 := rowIs_keep hbc hk6 hb9
    refine lv_iinc (v := iN ((i + 1))) (lv' := [(4, .int (iN ((i + 1)))), (0, .ref a), (1, .ref b), (2, .int (iN (sg))), (3, .ref c)]) hx hb d_R_becomeHull_36 hl (k := 4) rfl (by rw [show (i + 1) = i + (1 : Int) by omega, ← iN_add]; rfl) (by decide) rfl (fun ls hl => ?_)
    refine lv_goto (tgt := 7) hx hb d_R_becomeHull_39 (by decide) ?_
    have hI' : 0 ≤ (i + 1) ∧ (i + 1) ≤ P.length ∧ rowIs cI rx ry g6x c (((P.map (sgm sg)).take (i + 1).toNat).foldl insS []) ∧ rowIs cI rx ry g6x b P ∧ rowIs cI rx ry g6x a A ∧ chg rx ry c f g6x := ⟨by omega, by omega, by rw [tn_s h0, fold_take hqi]; exact hn6, hb6, ha6, chg_trans hch hk6⟩
    exact ih ((i + 1), g6x) _ _ _ (by omega) hI' w (lv_sub hl [1, 2, 3, 4, 0] rfl)
end
section
/-! ROWS: becomeSums, the sides of two rows by their direction -/
theorem ordS_b {P S : List Pt} (h : pb 600 P) (h2 : pb 600 S) (i j : Int) : -3000000 ≤ ordS P i S j ∧ ordS P i S j ≤ 3000000 := by
  have a := h i; have b := h (nx P i); have c := h2 j; have d := h2 (nx S j)
  have q1 := mbc (a := sX S j) (b := sY P i) 1200 1200 1440000 (by unfold sX; omega) (by unfold sX; omega) (by unfold sY; omega) (by unfold sY; omega) (by decide)
  have q2 := mbc (a := sY S j) (b := sX P i) 1200 1200 1440000 (by unfold sY; omega) (by unfold sY; omega) (by unfold sX; omega) (by unfold sX; omega) (by decide)
  unfold ordS
  split
  · omega
  · split
    · omega
    · split
      · split <;> omega
      · omega
theorem ordS_le {P S : List Pt} {i j : Int} (h : ordS P i S j ≤ 0) : i < sd P := by
  unfold ordS at h
  split at h
  · omega
  · omega
theorem ordS_ge {P S : List Pt} {i j : Int} (h : 0 ≤ ordS P i S j) (hij : i + j < sd P + sd S) : j < sd S := by
  unfold ordS at h
  split at h
  · omega
  · split at h
    · omega
    · omega
/-- the walk: i, j sides are gone, x, y is the place, out what is laid -/
noncomputable def mrgF (P S : List Pt) : Nat → Int → Int → Int → Int → List Pt → List Pt
  | 0, _, _, _, _, out => out
  | n + 1, i, j, x, y, out =>
    if i + j < sd P + sd S then
      (let o := ordS P i S j
       let i' := if o ≤ 0 then i + 1 else i
       let x' := if o ≤ 0 then x + sX P i else x
       let y' := if o ≤ 0 then y + sY P i else y
       let j' := if 0 ≤ o then j + 1 else j
       let x2 := if 0 ≤ o then x' + sX S j else x'
       let y2 := if 0 ≤ o then y' + sY S j else y'
       mrgF P S n i' j' x2 y2 (if i' + j' < sd P + sd S then out ++ [(x2, y2)] else out))
    else out
noncomputable def sumF (P S : List Pt) : List Pt := mrgF P S (sd P + sd S).toNat 0 0 (pX P 0 + pX S 0) (pY P 0 + pY S 0) [(pX P 0 + pX S 0, pY P 0 + pY S 0)]
theorem mrg_e {P S : List Pt} {n : Nat} {i j x y : Int} {out : List Pt} (h : n = 0 ∨ ¬ i + j < sd P + sd S) : mrgF P S n i j x y out = out := by
  rcases h with rfl | h
  · rfl
  · cases n with
    | zero => rfl
    | succ n => unfold mrgF; rw [if_neg h]
theorem mrg_s {P S : List Pt} {n : Nat} {i j x y : Int} {out : List Pt} (h : i + j < sd P + sd S) (i' j' x2 y2 : Int) (hi : i' = if ordS P i S j ≤ 0 then i + 1 else i) (hj : j' = if 0 ≤ ordS P i S j then j + 1 else j)
    (hx : x2 = if 0 ≤ ordS P i S j then (if ordS P i S j ≤ 0 then x + sX P i else x) + sX S j else (if ordS P i S j ≤ 0 then x + sX P i else x)) (hy : y2 = if 0 ≤ ordS P i S j then (if ordS P i S j ≤ 0 then y + sY P i else y) + sY S j else (if ordS P i S j ≤ 0 then y + sY P i else y)) :
    mrgF P S (n + 1) i j x y out = mrgF P S n i' j' x2 y2 (if i' + j' < sd P + sd S then out ++ [(x2, y2)] else out) := by
  conv => lhs; unfold mrgF
  rw [if_pos h, hi, hj, hx, hy]

set_option maxHeartbeats 4000000 in
set_option maxRecDepth 100000 in
theorem c_R_becomeSums (l : Launch) {D : va_G} {cI cR : ClassId} {L : List Nat} {f : Nat → va_E} {rx ry : Nat → Nat} {a b c : Nat} {A P S : List Pt} (hoa : ro L rx ry a) (hob : ro L rx ry b) (hoc : ro L rx ry c) (hab : rd rx ry a b) (hac : rd rx ry a c) (hra : rowIs cI rx ry f a A) (hrb : rowIs cI rx ry f b P) (hrc : rowIs cI rx ry f c S) (hP : pb 600 P) (hS : pb 600 S) (hP24 : P.length ≤ 24) (hS24 : S.length ≤ 24) : gMv D cI cR l y_R_becomeSums (Cond.code y_R_becomeSums b_R_becomeSums 10 none :: lw_g) { frames := 3, cells := 0, slots := 0, locals := 66 } [.ref a, .ref b, .ref c] L f (fun u => ∃ g, u = (L, g) ∧ rowIs cI rx ry g a (sumF P S) ∧ chg rx ry a f g) := by
  intro sz
  refine g_enter (by decide) rfl (Nat.le_of_ble_eq_true rfl) ?_
  intro p e s m below meth cd ls X hrt hlk hnm hl hsz w
  have X : gx p m cd b_R_becomeSums 10 s _ "HullSums$Row" D cI cR := X
  have hx := X.1.1
  have hb := X.1.2.1
  have hl : lv_has ls 10 [(0, .ref a), (1, .ref b), (2, .ref c)] := hl
  have hsP : sd P ≤ 24 ∧ 0 ≤ sd P := by unfold sd; split <;> omega
  have hsS : sd S ≤ 24 ∧ 0 ≤ sd S := by unfold sd; split <;> omega
  refine lv_aload_n hx hb d_R_becomeSums_0 rfl (lv_at hl 0 rfl) ?_
  refine g_cv w (g_runV (As := []) (rest := []) X w (c_R_empty l hoa hra) k_R_empty v_R_empty lk_R_33 hoa.1 hra.2.1 rfl ⟨(Nat.le_of_ble_eq_true rfl), (Nat.le_of_ble_eq_true rfl)⟩ rfl hl.1 rfl (Nat.le_of_ble_eq_true rfl) d_R_becomeSums_1 ⟨(Nat.le_of_ble_eq_true rfl), (Nat.le_of_ble_eq_true rfl)⟩) (fun u H locs hp w => ?_)
  obtain ⟨g1x, rfl, hn1, hk1⟩ := hp
  have w : gw D (gA L sz) s.heap H locs L g1x := w
  have hb1 := rowIs_keep hab.symm hk1 hrb
  have hc1 := rowIs_keep hac.symm hk1 hrc
  refine lv_aload_n hx hb d_R_becomeSums_4 rfl (lv_at hl 1 rfl) ?_
  refine lv_iconst (v := iN (0)) hx hb d_R_becomeSums_5 (by decide) ?_
  refine g_ci w (g_runV (As := [.int (iN (0))]) (rest := []) X w (c_R_x l hob hb1 (by unfold i3; omega)) k_R_x v_R_x lk_R_22 hob.1 hb1.2.1 rfl ⟨(Nat.le_of_ble_eq_true rfl), (Nat.le_of_ble_eq_true rfl)⟩ rfl hl.1 rfl (Nat.le_of_ble_eq_true rfl) d_R_becomeSums_6 ⟨Nat.zero_le _, Nat.zero_le _⟩) (fun r u H locs hp w => ?_)
  obtain ⟨rfl, rfl⟩ := hp
  have w : gw D (gA L sz) s.heap H locs L g1x := w
  refine lv_aload_n hx hb d_R_becomeSums_9 rfl (lv_at hl 2 rfl) ?_
  refine lv_iconst (v := iN (0)) hx hb d_R_becomeSums_10 (by decide) ?_
  refine g_ci w (g_runV (As := [.int (iN (0))]) (rest := [.int (iN ((pX P 0)))]) X w (c_R_x l hoc hc1 (by unfold i3; omega)) k_R_x v_R_x lk_R_22 hoc.1 hc1.2.1 rfl ⟨(Nat.le_of_ble_eq_true rfl), (Nat.le_of_ble_eq_true rfl)⟩ rfl hl.1 rfl (Nat.le_of_ble_eq_true rfl) d_R_becomeSums_11 ⟨Nat.zero_le _, Nat.zero_le _⟩) (fun r u H locs hp w => ?_)
  obtain ⟨rfl, rfl⟩ := hp
  have w : gw D (gA L sz) s.heap H locs L g1x := w
  refine ri_add (a := (pX P 0)) (b := (pX S 0)) hx hb d_R_becomeSums_14 rfl rfl ?_
  refine lv_istore_n (lv' := [(3, .int (iN (((pX P 0) + (pX S 0))))), (0, .ref a), (1, .ref b), (2, .ref c)]) hx hb d_R_becomeSums_15 rfl hl (by decide) rfl (fun ls hl => ?_)
  refine lv_aload_n hx hb d_R_becomeSums_16 rfl (lv_at hl 2 rfl) ?_
  refine lv_iconst (v := iN (0)) hx hb d_R_becomeSums_17 (by decide) ?_
  refine g_ci w (g_runV (As := [.int (iN (0))]) (rest := []) X w (c_R_y l hob hb1 (by unfold i3; omega)) k_R_y v_R_y lk_R_26 hob.1 hb1.2.1 rfl ⟨(Nat.le_of_ble_eq_true rfl), (Nat.le_of_ble_eq_true rfl)⟩ rfl hl.1 rfl (Nat.le_of_ble_eq_true rfl) d_R_becomeSums_18 ⟨Nat.zero_le _, Nat.zero_le _⟩) (fun r u H locs hp w => ?_)
  obtain ⟨rfl, rfl⟩ := hp
  have w : gw D (gA L sz) s.heap H locs L g1x := w
  refine lv_aload_n hx hb d_R_becomeSums_21 rfl (lv_at hl 3 rfl) ?_
  refine lv_iconst (v := iN (0)) hx hb d_R_becomeSums_22 (by decide) ?_
  refine g_ci w (g_runV (As := [.int (iN (0))]) (rest := [.int (iN ((pY P 0)))]) X w (c_R_y l hoc hc1 (by unfold i3; omega)) k_R_y v_R_y lk_R_26 hoc.1 hc1.2.1 rfl ⟨(Nat.le_of_ble_eq_true rfl), (Nat.le_of_ble_eq_true rfl)⟩ rfl hl.1 rfl (Nat.le_of_ble_eq_true rfl) d_R_becomeSums_23 ⟨Nat.zero_le _, Nat.zero_le _⟩) (fun r u H locs hp w => ?_)
  obtain ⟨rfl, rfl⟩ := hp
  have w : gw D (gA L sz) s.heap H locs L g1x := w
  refine ri_add (a := (pY P 0)) (b := (pY S 0)) hx hb d_R_becomeSums_26 rfl rfl ?_
  refine lv_istore (lv' := [(4, .int (iN (((pY P 0) + (pY S 0))))), (3, .int (iN (((pX P 0) + (pX S 0))))), (0, .ref a), (1, .ref b), (2, .ref c)]) hx hb d_R_becomeSums_27 hl (by decide) rfl (fun ls hl => ?_)
  refine lv_iconst (v := iN (0)) hx hb d_R_becomeSums_29 (by decide) ?_
  refine lv_istore (lv' := [(5, .int (iN (0))), (4, .int (iN (((pY P 0) + (pY S 0))))), (3, .int (iN (((pX P 0) + (pX S 0))))), (0, .ref a), (1, .ref b), (2, .ref c)]) hx hb d_R_becomeSums_30 hl (by decide) rfl (fun ls hl => ?_)
  refine lv_iconst (v := iN (0)) hx hb d_R_becomeSums_32 (by decide) ?_
  refine lv_istore (lv' := [(6, .int (iN (0))), (5, .int (iN (0))), (4, .int (iN (((pY P 0) + (pY S 0))))), (3, .int (iN (((pX P 0) + (pX S 0))))), (0, .ref a), (1, .ref b), (2, .ref c)]) hx hb d_R_becomeSums_33 hl (by decide) rfl (fun ls hl => ?_)
  refine lv_aload_n hx hb d_R_becomeSums_35 rfl (lv_at hl 5 rfl) ?_
  refine g_ci w (g_runV (As := []) (rest := []) X w (c_R_sides l hob hb1) k_R_sides v_R_sides lk_R_88 hob.1 hb1.2.1 rfl ⟨(Nat.le_of_ble_eq_true rfl), (Nat.le_of_ble_eq_true rfl)⟩ rfl hl.1 rfl (Nat.le_of_ble_eq_true rfl) d_R_becomeSums_36 ⟨Nat.zero_le _, Nat.zero_le _⟩) (fun r u H locs hp w => ?_)
  obtain ⟨rfl, rfl⟩ := hp
  have w : gw D (gA L sz) s.heap H locs L g1x := w
  refine lv_aload_n hx hb d_R_becomeSums_39 rfl (lv_at hl 6 rfl) ?_
  refine g_ci w (g_runV (As := []) (rest := [.int (iN ((sd P)))]) X w (c_R_sides l hoc hc1) k_R_sides v_R_sides lk_R_88 hoc.1 hc1.2.1 rfl ⟨(Nat.le_of_ble_eq_true rfl), (Nat.le_of_ble_eq_true rfl)⟩ rfl hl.1 rfl (Nat.le_of_ble_eq_true rfl) d_R_becomeSums_40 ⟨Nat.zero_le _, Nat.zero_le _⟩) (fun r u H locs hp w => ?_)
  obtain ⟨rfl, rfl⟩ := hp
  have w : gw D (gA L sz) s.heap H locs L g1x := w
  refine ri_add (a := (sd P)) (b := (sd S)) hx hb d_R_becomeSums_43 rfl rfl ?_
  refine lv_istore (lv' := [(7, .int (iN (((sd P) + (sd S))))), (6, .int (iN (0))), (5, .int (iN (0))), (4, .int (iN (((pY P 0) + (pY S 0))))), (3, .int (iN (((pX P 0) + (pX S 0))))), (0, .ref a), (1, .ref b), (2, .ref c)]) hx hb d_R_becomeSums_44 hl (by decide) rfl (fun ls hl => ?_)
  refine lv_aload_n hx hb d_R_becomeSums_46 rfl (lv_at hl 5 rfl) ?_
  refine lv_iload_n hx hb d_R_becomeSums_47 rfl (lv_at hl 4 rfl) ?_
  refine lv_iload hx hb d_R_becomeSums_48 (lv_at hl 3 rfl) ?_
  refine g_cv w (g_runV (As := [.int (iN (((pX P 0) + (pX S 0)))), .int (iN (((pY P 0) + (pY S 0))))]) (rest := []) X w (c_R_add l hoa hn1 (by decide) (x := ((pX P 0) + (pX S 0))) (y := ((pY P 0) + (pY S 0)))) k_R_add v_R_add lk_R_54 hoa.1 hn1.2.1 rfl ⟨(Nat.le_of_ble_eq_true rfl), (Nat.le_of_ble_eq_true rfl)⟩ rfl hl.1 rfl (Nat.le_of_ble_eq_true rfl) d_R_becomeSums_50 ⟨(Nat.le_of_ble_eq_true rfl), (Nat.le_of_ble_eq_true rfl)⟩) (fun u H locs hp w => ?_)
  obtain ⟨g2x, rfl, hn2, hk2⟩ := hp
  have w : gw D (gA L sz) s.heap H locs L g2x := w
  have hb2 := rowIs_keep hab.symm hk2 hb1
  have hc2 := rowIs_keep hac.symm hk2 hc1
  refine lv_iconst (v := iN (0)) hx hb d_R_becomeSums_53 (by decide) ?_
  refine lv_istore (lv' := [(8, .int (iN (0))), (7, .int (iN (((sd P) + (sd S))))), (6, .int (iN (0))), (5, .int (iN (0))), (4, .int (iN (((pY P 0) + (pY S 0))))), (3, .int (iN (((pX P 0) + (pX S 0))))), (0, .ref a), (1, .ref b), (2, .ref c)]) hx hb d_R_becomeSums_54 hl (by decide) rfl (fun ls hl => ?_)
  refine g_loop (σ := Int × Int × Int × Int × Int × List Pt × (Nat → va_E)) (fun z9 => ((sd P + sd S) - z9.1).toNat) (fun z9 => [(0, .ref a), (1, .ref b), (2, .ref c), (3, .int (iN (z9.2.2.2.1))), (4, .int (iN (z9.2.2.2.2.1))), (5, .int (iN (z9.2.1))), (6, .int (iN (z9.2.2.1))), (7, .int (iN ((sd P + sd S)))), (8, .int (iN (z9.1)))]) L (fun z9 => z9.2.2.2.2.2.2) (fun z9 => 0 ≤ z9.1 ∧ z9.1 ≤ (sd P + sd S) ∧ 0 ≤ z9.2.1 ∧ z9.2.1 ≤ sd P ∧ 0 ≤ z9.2.2.1 ∧ z9.2.2.1 ≤ sd S ∧ (z9.2.2.2.2.2.1.length : Int) ≤ z9.2.1 + z9.2.2.1 + 1 ∧ z9.1 ≤ z9.2.1 + z9.2.2.1 ∧ sumF P S = mrgF P S ((sd P + sd S) - z9.1).toNat z9.2.1 z9.2.2.1 z9.2.2.2.1 z9.2.2.2.2.1 z9.2.2.2.2.2.1 ∧ rowIs cI rx ry z9.2.2.2.2.2.2 a z9.2.2.2.2.2.1 ∧ rowIs cI rx ry z9.2.2.2.2.2.2 b P ∧ rowIs cI rx ry z9.2.2.2.2.2.2 c S ∧ chg rx ry a f z9.2.2.2.2.2.2) ?_ (0, 0, 0, (pX P 0 + pX S 0), (pY P 0 + pY S 0), ([] ++ [(pX P 0 + pX S 0, pY P 0 + pY S 0)]), g2x) _ _ _ ⟨by (try dsimp only); omega, by (try dsimp only); omega, by (try dsimp only); omega, by (try dsimp only); omega, by (try dsimp only); omega, by (try dsimp only); omega, by simp, by (try dsimp only); omega, by simp [sumF], hn2, hb2, hc2, chg_trans hk1 hk2⟩ w (lv_sub hl [6, 7, 8, 5, 4, 3, 2, 1, 0] rfl)
  intro z9 H locs ls hI w hl ih
  obtain ⟨t, i, j, x, y, out, g⟩ := z9
  have hl : lv_has ls 10 [(0, .ref a), (1, .ref b), (2, .ref c), (3, .int (iN (x))), (4, .int (iN (y))), (5, .int (iN (i))), (6, .int (iN (j))), (7, .int (iN ((sd P + sd S)))), (8, .int (iN (t)))] := hl
  have w : gw D (gA L sz) s.heap H locs L (g) := w
  have hI : 0 ≤ t ∧ t ≤ (sd P + sd S) ∧ 0 ≤ i ∧ i ≤ sd P ∧ 0 ≤ j ∧ j ≤ sd S ∧ (out.length : Int) ≤ i + j + 1 ∧ t ≤ i + j ∧ sumF P S = mrgF P S ((sd P + sd S) - t).toNat i j x y out ∧ rowIs cI rx ry g a out ∧ rowIs cI rx ry g b P ∧ rowIs cI rx ry g c S ∧ chg rx ry a f g := hI
  obtain ⟨h0, h1, h2, h3, h4, h5, h6, h7, h8, ha, hb9, hc, hch⟩ := hI
  refine lv_iload hx hb d_R_becomeSums_56 (lv_at hl 8 rfl) ?_
  refine lv_iload hx hb d_R_becomeSums_58 (lv_at hl 7 rfl) ?_
  refine ri_cge (a := t) (b := (sd P + sd S)) (tgt := 163) hx hb d_R_becomeSums_60 (by decide) rfl rfl (by unfold i3; omega) (by unfold i3; omega) (fun c60 => ?_) (fun c60 => ?_)
  · skip
    exact g_vret X w hrt hlk d_R_becomeSums_163 ⟨g, rfl, by rw [h8, mrg_e (by omega)]; exact ha, hch⟩
  · skip
    refine lv_iload hx hb d_R_becomeSums_63 (lv_at hl 5 rfl) ?_
    refine lv_iload hx hb d_R_becomeSums_65 (lv_at hl 6 rfl) ?_
    refine ri_add (a := i) (b := j) hx hb d_R_becomeSums_67 rfl rfl ?_
    refine lv_iload hx hb d_R_becomeSums_68 (lv_at hl 7 rfl) ?_
    refine ri_cge (a := (i + j)) (b := (sd P + sd S)) (tgt := 163) hx hb d_R_becomeSums_70 (by decide) rfl rfl (by unfold i3; omega) (by unfold i3; omega) (fun c70 => ?_) (fun c70 => ?_)
    · skip
      exact g_vret X w hrt hlk d_R_becomeSums_163 ⟨g, rfl, by rw [h8, mrg_e (by omega)]; exact ha, hch⟩
    · skip
      refine lv_aload_n hx hb d_R_becomeSums_73 rfl (lv_at hl 1 rfl) ?_
      refine lv_iload hx hb d_R_becomeSums_74 (lv_at hl 5 rfl) ?_
      refine lv_aload_n hx hb d_R_becomeSums_76 rfl (lv_at hl 2 rfl) ?_
      refine lv_iload hx hb d_R_becomeSums_77 (lv_at hl 6 rfl) ?_
      refine g_ci w (g_runS (As := [.ref b, .int (iN (i)), .ref c, .int (iN (j))]) (rest := []) X w (c_R_orderOfSides l hob hb9 hoc hc hP hS (by omega) (by omega)) k_R_orderOfSides lk_R_101 st_R_orderOfSides ⟨(Nat.le_of_ble_eq_true rfl), (Nat.le_of_ble_eq_true rfl)⟩ rfl hl.1 rfl (Nat.le_of_ble_eq_true rfl) d_R_becomeSums_79 ⟨Nat.zero_le _, Nat.zero_le _⟩) (fun r u H locs hp w => ?_)
      obtain ⟨rfl, rfl⟩ := hp
      have w : gw D (gA L sz) s.heap H locs L g := w
      refine lv_istore (lv' := [(9, .int (iN ((ordS P i S j)))), (0, .ref a), (1, .ref b), (2, .ref c), (3, .int (iN (x))), (4, .int (iN (y))), (5, .int (iN (i))), (6, .int (iN (j))), (7, .int (iN ((sd P + sd S)))), (8, .int (iN (t)))]) hx hb d_R_becomeSums_82 hl (by decide) rfl (fun ls hl => ?_)
      refine lv_iload hx hb d_R_becomeSums_84 (lv_at hl 0 rfl) ?_
      refine ri_zgt (a := (ordS P i S j)) (tgt := 112) hx hb d_R_becomeSums_86 (by decide) rfl (by have := ordS_b hP hS i j; unfold i3; omega) (fun c86 => ?_) (fun c86 => ?_)
      · skip
        refine lv_iload hx hb d_R_becomeSums_112 (lv_at hl 0 rfl) ?_
        refine ri_zlt (a := (ordS P i S j)) (tgt := 140) hx hb d_R_becomeSums_114 (by decide) rfl (by have := ordS_b hP hS i j; unfold i3; omega) (fun c114 => ?_) (fun c114 => ?_)
        · skip
          refine lv_iload hx hb d_R_becomeSums_140 (lv_at hl 6 rfl) ?_
          refine lv_iload hx hb d_R_becomeSums_142 (lv_at hl 7 rfl) ?_
          refine ri_add (a := i) (b := j) hx hb d_R_becomeSums_144 rfl rfl ?_
          refine lv_iload hx hb d_R_becomeSums_145 (lv_at hl 8 rfl) ?_
          refine ri_cge (a := (i + j)) (b := (sd P + sd S)) (tgt := 157) hx hb d_R_becomeSums_147 (by decide) rfl rfl (by unfold i3; omega) (by unfold i3; omega) (fun c147 => ?_) (fun c147 => ?_)
          · skip
            refine lv_iinc (v := iN ((t + 1))) (lv' := [(8, .int (iN ((t + 1)))), (9, .int (iN ((ordS P i S j)))), (0, .ref a), (1, .ref b), (2, .ref c), (3, .int (iN (x))), (4, .int (iN (y))), (5, .int (iN (i))), (6, .int (iN (j))), (7, .int (iN ((sd P + sd S))))]) hx hb d_R_becomeSums_157 hl (k := 9) rfl (by rw [show (t + 1) = t + (1 : Int) by omega, ← iN_add]; rfl) (by decide) rfl (fun ls hl => ?_)
            refine lv_goto (tgt := 56) hx hb d_R_becomeSums_160 (by decide) ?_
            have e1 : (ordS P i S j ≤ 0) = False := by exact eq_false (by omega)
            have e2 : (0 ≤ ordS P i S j) = False := by exact eq_false (by omega)
            have hI' : 0 ≤ (t + 1) ∧ (t + 1) ≤ (sd P + sd S) ∧ 0 ≤ i ∧ i ≤ sd P ∧ 0 ≤ j ∧ j ≤ sd S ∧ (out.length : Int) ≤ i + j + 1 ∧ (t + 1) ≤ i + j ∧ sumF P S = mrgF P S ((sd P + sd S) - (t + 1)).toNat i j x y out ∧ rowIs cI rx ry g a out ∧ rowIs cI rx ry g b P ∧ rowIs cI rx ry g c S ∧ chg rx ry a f g := ⟨by omega, by omega, by omega, by omega, by omega, by omega, by omega, by omega, by rw [h8, show (sd P + sd S - t).toNat = (sd P + sd S - (t + 1)).toNat + 1 by omega, mrg_s (by omega) i j x y (by simp only [e1, e2, if_true, if_false]) (by simp only [e1, e2, if_true, if_false]) (by simp only [e1, e2, if_true, if_false]) (by simp only [e1, e2, if_true, if_false]), if_neg (by omega)], ha, hb9, hc, hch⟩
            exact ih ((t + 1), i, j, x, y, out, g) _ _ _ (by omega) hI' w (lv_sub hl [2, 3, 4, 5, 6, 7, 8, 9, 0] rfl)
          · skip
            refine lv_aload_n hx hb d_R_becomeSums_150 rfl (lv_at hl 1 rfl) ?_
            refine lv_iload_n hx hb d_R_becomeSums_151 rfl (lv_at hl 4 rfl) ?_
            refine lv_iload hx hb d_R_becomeSums_152 (lv_at hl 5 rfl) ?_
            refine g_cv w (g_runV (As := [.int (iN (x)), .int (iN (y))]) (rest := []) X w (c_R_add l hoa ha (by omega) (x := x) (y := y)) k_R_add v_R_add lk_R_54 hoa.1 ha.2.1 rfl ⟨(Nat.le_of_ble_eq_true rfl), (Nat.le_of_ble_eq_true rfl)⟩ rfl hl.1 rfl (Nat.le_of_ble_eq_true rfl) d_R_becomeSums_154 ⟨(Nat.le_of_ble_eq_true rfl), (Nat.le_of_ble_eq_true rfl)⟩) (fun u H locs hp w => ?_)
            obtain ⟨g3x, rfl, hn3, hk3⟩ := hp
            have w : gw D (gA L sz) s.heap H locs L g3x := w
            have hb3 := rowIs_keep hab.symm hk3 hb9
            have hc3 := rowIs_keep hac.symm hk3 hc
            refine lv_iinc (v := iN ((t + 1))) (lv' := [(8, .int (iN ((t + 1)))), (9, .int (iN ((ordS P i S j)))), (0, .ref a), (1, .ref b), (2, .ref c), (3, .int (iN (x))), (4, .int (iN (y))), (5, .int (iN (i))), (6, .int (iN (j))), (7, .int (iN ((sd P + sd S))))]) hx hb d_R_becomeSums_157 hl (k := 9) rfl (by rw [show (t + 1) = t + (1 : Int) by omega, ← iN_add]; rfl) (by decide) rfl (fun ls hl => ?_)
            refine lv_goto (tgt := 56) hx hb d_R_becomeSums_160 (by decide) ?_
            have e1 : (ordS P i S j ≤ 0) = False := by exact eq_false (by omega)
            have e2 : (0 ≤ ordS P i S j) = False := by exact eq_false (by omega)
            have hI' : 0 ≤ (t + 1) ∧ (t + 1) ≤ (sd P + sd S) ∧ 0 ≤ i ∧ i ≤ sd P ∧ 0 ≤ j ∧ j ≤ sd S ∧ ((out ++ [(x, y)]).length : Int) ≤ i + j + 1 ∧ (t + 1) ≤ i + j ∧ sumF P S = mrgF P S ((sd P + sd S) - (t + 1)).toNat i j x y (out ++ [(x, y)]) ∧ rowIs cI rx ry g3x a (out ++ [(x, y)]) ∧ rowIs cI rx ry g3x b P ∧ rowIs cI rx ry g3x c S ∧ chg rx ry a f g3x := ⟨by omega, by omega, by omega, by omega, by omega, by omega, by simp; omega, by omega, by rw [h8, show (sd P + sd S - t).toNat = (sd P + sd S - (t + 1)).toNat + 1 by omega, mrg_s (by omega) i j x y (by simp only [e1, e2, if_true, if_false]) (by simp only [e1, e2, if_true, if_false]) (by simp only [e1, e2, if_true, if_false]) (by simp only [e1, e2, if_true, if_false]), if_pos (by omega)], hn3, hb3, hc3, chg_trans hch hk3⟩
            exact ih ((t + 1), i, j, x, y, (out ++ [(x, y)]), g3x) _ _ _ (by omega) hI' w (lv_sub hl [2, 3, 4, 5, 6, 7, 8, 9, 0] rfl)
        · skip
          refine lv_iload_n hx hb d_R_becomeSums_117 rfl (lv_at hl 4 rfl) ?_
          refine lv_aload_n hx hb d_R_becomeSums_118 rfl (lv_at hl 3 rfl) ?_
          refine lv_iload hx hb d_R_becomeSums_119 (lv_at hl 7 rfl) ?_
          refine g_ci w (g_runV (As := [.int (iN (j))]) (rest := [.int (iN (x))]) X w (c_R_sideX l hoc hc (by omega)) k_R_sideX v_R_sideX lk_R_73 hoc.1 hc.2.1 rfl ⟨(Nat.le_of_ble_eq_true rfl), (Nat.le_of_ble_eq_true rfl)⟩ rfl hl.1 rfl (Nat.le_of_ble_eq_true rfl) d_R_becomeSums_121 ⟨Nat.zero_le _, Nat.zero_le _⟩) (fun r u H locs hp w => ?_)
          obtain ⟨rfl, rfl⟩ := hp
          have w : gw D (gA L sz) s.heap H locs L g := w
          refine ri_add (a := x) (b := (sX S j)) hx hb d_R_becomeSums_124 rfl rfl ?_
          refine lv_istore_n (lv' := [(3, .int (iN ((x + (sX S j))))), (9, .int (iN ((ordS P i S j)))), (0, .ref a), (1, .ref b), (2, .ref c), (4, .int (iN (y))), (5, .int (iN (i))), (6, .int (iN (j))), (7, .int (iN ((sd P + sd S)))), (8, .int (iN (t)))]) hx hb d_R_becomeSums_125 rfl hl (by decide) rfl (fun ls hl => ?_)
          refine lv_iload hx hb d_R_becomeSums_126 (lv_at hl 5 rfl) ?_
          refine lv_aload_n hx hb d_R_becomeSums_128 rfl (lv_at hl 4 rfl) ?_
          refine lv_iload hx hb d_R_becomeSums_129 (lv_at hl 7 rfl) ?_
          refine g_ci w (g_runV (As := [.int (iN (j))]) (rest := [.int (iN (y))]) X w (c_R_sideY l hoc hc (by omega)) k_R_sideY v_R_sideY lk_R_76 hoc.1 hc.2.1 rfl ⟨(Nat.le_of_ble_eq_true rfl), (Nat.le_of_ble_eq_true rfl)⟩ rfl hl.1 rfl (Nat.le_of_ble_eq_true rfl) d_R_becomeSums_131 ⟨Nat.zero_le _, Nat.zero_le _⟩) (fun r u H locs hp w => ?_)
          obtain ⟨rfl, rfl⟩ := hp
          have w : gw D (gA L sz) s.heap H locs L g := w
          refine ri_add (a := y) (b := (sY S j)) hx hb d_R_becomeSums_134 rfl rfl ?_
          refine lv_istore (lv' := [(4, .int (iN ((y + (sY S j))))), (3, .int (iN ((x + (sX S j))))), (9, .int (iN ((ordS P i S j)))), (0, .ref a), (1, .ref b), (2, .ref c), (5, .int (iN (i))), (6, .int (iN (j))), (7, .int (iN ((sd P + sd S)))), (8, .int (iN (t)))]) hx hb d_R_becomeSums_135 hl (by decide) rfl (fun ls hl => ?_)
          refine lv_iinc (v := iN ((j + 1))) (lv' := [(6, .int (iN ((j + 1)))), (4, .int (iN ((y + (sY S j))))), (3, .int (iN ((x + (sX S j))))), (9, .int (iN ((ordS P i S j)))), (0, .ref a), (1, .ref b), (2, .ref c), (5, .int (iN (i))), (7, .int (iN ((sd P + sd S)))), (8, .int (iN (t)))]) hx hb d_R_becomeSums_137 hl (k := 7) rfl (by rw [show (j + 1) = j + (1 : Int) by omega, ← iN_add]; rfl) (by decide) rfl (fun ls hl => ?_)
          refine lv_iload hx hb d_R_becomeSums_140 (lv_at hl 7 rfl) ?_
          refine lv_iload hx hb d_R_becomeSums_142 (lv_at hl 0 rfl) ?_
          refine ri_add (a := i) (b := (j + 1)) hx hb d_R_becomeSums_144 rfl rfl ?_
          refine lv_iload hx hb d_R_becomeSums_145 (lv_at hl 8 rfl) ?_
          refine ri_cge (a := (i + (j + 1))) (b := (sd P + sd S)) (tgt := 157) hx hb d_R_becomeSums_147 (by decide) rfl rfl (by unfold i3; omega) (by unfold i3; omega) (fun c147 => ?_) (fun c147 => ?_)
          · skip
            refine lv_iinc (v := iN ((t + 1))) (lv' := [(8, .int (iN ((t + 1)))), (6, .int (iN ((j + 1)))), (4, .int (iN ((y + (sY S j))))), (3, .int (iN ((x + (sX S j))))), (9, .int (iN ((ordS P i S j)))), (0, .ref a), (1, .ref b), (2, .ref c), (5, .int (iN (i))), (7, .int (iN ((sd P + sd S))))]) hx hb d_R_becomeSums_157 hl (k := 9) rfl (by rw [show (t + 1) = t + (1 : Int) by omega, ← iN_add]; rfl) (by decide) rfl (fun ls hl => ?_)
            refine lv_goto (tgt := 56) hx hb d_R_becomeSums_160 (by decide) ?_
            have e1 : (ordS P i S j ≤ 0) = False := by exact eq_false (by omega)
            have e2 : (0 ≤ ordS P i S j) = True := by exact eq_true (by omega)
            have hsj := ordS_ge (P := P) (S := S) (i := i) (j := j) (by omega) (by omega)
            have hI' : 0 ≤ (t + 1) ∧ (t + 1) ≤ (sd P + sd S) ∧ 0 ≤ i ∧ i ≤ sd P ∧ 0 ≤ (j + 1) ∧ (j + 1) ≤ sd S ∧ (out.length : Int) ≤ i + (j + 1) + 1 ∧ (t + 1) ≤ i + (j + 1) ∧ sumF P S = mrgF P S ((sd P + sd S) - (t + 1)).toNat i (j + 1) (x + (sX S j)) (y + (sY S j)) out ∧ rowIs cI rx ry g a out ∧ rowIs cI rx ry g b P ∧ rowIs cI rx ry g c S ∧ chg rx ry a f g := ⟨by omega, by omega, by omega, by omega, by omega, by omega, by omega, by omega, by rw [h8, show (sd P + sd S - t).toNat = (sd P + sd S - (t + 1)).toNat + 1 by omega, mrg_s (by omega) i (j + 1) (x + (sX S j)) (y + (sY S j)) (by simp only [e1, e2, if_true, if_false]) (by simp only [e1, e2, if_true, if_false]) (by simp only [e1, e2, if_true, if_false]) (by simp only [e1, e2, if_true, if_false]), if_neg (by omega)], ha, hb9, hc, hch⟩
            exact ih ((t + 1), i, (j + 1), (x + (sX S j)), (y + (sY S j)), out, g) _ _ _ (by omega) hI' w (lv_sub hl [5, 6, 7, 3, 2, 8, 1, 9, 0] rfl)
          · skip
            refine lv_aload_n hx hb d_R_becomeSums_150 rfl (lv_at hl 4 rfl) ?_
            refine lv_iload_n hx hb d_R_becomeSums_151 rfl (lv_at hl 2 rfl) ?_
            refine lv_iload hx hb d_R_becomeSums_152 (lv_at hl 1 rfl) ?_
            refine g_cv w (g_runV (As := [.int (iN ((x + (sX S j)))), .int (iN ((y + (sY S j))))]) (rest := []) X w (c_R_add l hoa ha (by omega) (x := (x + (sX S j))) (y := (y + (sY S j)))) k_R_add v_R_add lk_R_54 hoa.1 ha.2.1 rfl ⟨(Nat.le_of_ble_eq_true rfl), (Nat.le_of_ble_eq_true rfl)⟩ rfl hl.1 rfl (Nat.le_of_ble_eq_true rfl) d_R_becomeSums_154 ⟨(Nat.le_of_ble_eq_true rfl), (Nat.le_of_ble_eq_true rfl)⟩) (fun u H locs hp w => ?_)
            obtain ⟨g4x, rfl, hn4, hk4⟩ := hp
            have w : gw D (gA L sz) s.heap H locs L g4x := w
            have hb4 := rowIs_keep hab.symm hk4 hb9
            have hc4 := rowIs_keep hac.symm hk4 hc
            refine lv_iinc (v := iN ((t + 1))) (lv' := [(8, .int (iN ((t + 1)))), (6, .int (iN ((j + 1)))), (4, .int (iN ((y + (sY S j))))), (3, .int (iN ((x + (sX S j))))), (9, .int (iN ((ordS P i S j)))), (0, .ref a), (1, .ref b), (2, .ref c), (5, .int (iN (i))), (7, .int (iN ((sd P + sd S))))]) hx hb d_R_becomeSums_157 hl (k := 9) rfl (by rw [show (t + 1) = t + (1 : Int) by omega, ← iN_add]; rfl) (by decide) rfl (fun ls hl => ?_)
            refine lv_goto (tgt := 56) hx hb d_R_becomeSums_160 (by decide) ?_
            have e1 : (ordS P i S j ≤ 0) = False := by exact eq_false (by omega)
            have e2 : (0 ≤ ordS P i S j) = True := by exact eq_true (by omega)
            have hsj := ordS_ge (P := P) (S := S) (i := i) (j := j) (by omega) (by omega)
            have hI' : 0 ≤ (t + 1) ∧ (t + 1) ≤ (sd P + sd S) ∧ 0 ≤ i ∧ i ≤ sd P ∧ 0 ≤ (j + 1) ∧ (j + 1) ≤ sd S ∧ ((out ++ [((x + (sX S j)), (y + (sY S j)))]).length : Int) ≤ i + (j + 1) + 1 ∧ (t + 1) ≤ i + (j + 1) ∧ sumF P S = mrgF P S ((sd P + sd S) - (t + 1)).toNat i (j + 1) (x + (sX S j)) (y + (sY S j)) (out ++ [((x + (sX S j)), (y + (sY S j)))]) ∧ rowIs cI rx ry g4x a (out ++ [((x + (sX S j)), (y + (sY S j)))]) ∧ rowIs cI rx ry g4x b P ∧ rowIs cI rx ry g4x c S ∧ chg rx ry a f g4x := ⟨by omega, by omega, by omega, by omega, by omega, by omega, by simp; omega, by omega, by rw [h8, show (sd P + sd S - t).toNat = (sd P + sd S - (t + 1)).toNat + 1 by omega, mrg_s (by omega) i (j + 1) (x + (sX S j)) (y + (sY S j)) (by simp only [e1, e2, if_true, if_false]) (by simp only [e1, e2, if_true, if_false]) (by simp only [e1, e2, if_true, if_false]) (by simp only [e1, e2, if_true, if_false]), if_pos (by omega)], hn4, hb4, hc4, chg_trans hch hk4⟩
            exact ih ((t + 1), i, (j + 1), (x + (sX S j)), (y + (sY S j)), (out ++ [((x + (sX S j)), (y + (sY S j)))]), g4x) _ _ _ (by omega) hI' w (lv_sub hl [5, 6, 7, 3, 2, 8, 1, 9, 0] rfl)
      · skip
        refine lv_iload_n hx hb d_R_becomeSums_89 rfl (lv_at hl 4 rfl) ?_
        refine lv_aload_n hx hb d_R_becomeSums_90 rfl (lv_at hl 2 rfl) ?_
        refine lv_iload hx hb d_R_becomeSums_91 (lv_at hl 6 rfl) ?_
        refine g_ci w (g_runV (As := [.int (iN (i))]) (rest := [.int (iN (x))]) X w (c_R_sideX l hob hb9 (by omega)) k_R_sideX v_R_sideX lk_R_73 hob.1 hb9.2.1 rfl ⟨(Nat.le_of_ble_eq_true rfl), (Nat.le_of_ble_eq_true rfl)⟩ rfl hl.1 rfl (Nat.le_of_ble_eq_true rfl) d_R_becomeSums_93 ⟨Nat.zero_le _, Nat.zero_le _⟩) (fun r u H locs hp w => ?_)
        obtain ⟨rfl, rfl⟩ := hp
        have w : gw D (gA L sz) s.heap H locs L g := w
        refine ri_add (a := x) (b := (sX P i)) hx hb d_R_becomeSums_96 rfl rfl ?_
        refine lv_istore_n (lv' := [(3, .int (iN ((x + (sX P i))))), (9, .int (iN ((ordS P i S j)))), (0, .ref a), (1, .ref b), (2, .ref c), (4, .int (iN (y))), (5, .int (iN (i))), (6, .int (iN (j))), (7, .int (iN ((sd P + sd S)))), (8, .int (iN (t)))]) hx hb d_R_becomeSums_97 rfl hl (by decide) rfl (fun ls hl => ?_)
        refine lv_iload hx hb d_R_becomeSums_98 (lv_at hl 5 rfl) ?_
        refine lv_aload_n hx hb d_R_becomeSums_100 rfl (lv_at hl 3 rfl) ?_
        refine lv_iload hx hb d_R_becomeSums_101 (lv_at hl 6 rfl) ?_
        refine g_ci w (g_runV (As := [.int (iN (i))]) (rest := [.int (iN (y))]) X w (c_R_sideY l hob hb9 (by omega)) k_R_sideY v_R_sideY lk_R_76 hob.1 hb9.2.1 rfl ⟨(Nat.le_of_ble_eq_true rfl), (Nat.le_of_ble_eq_true rfl)⟩ rfl hl.1 rfl (Nat.le_of_ble_eq_true rfl) d_R_becomeSums_103 ⟨Nat.zero_le _, Nat.zero_le _⟩) (fun r u H locs hp w => ?_)
        obtain ⟨rfl, rfl⟩ := hp
        have w : gw D (gA L sz) s.heap H locs L g := w
        refine ri_add (a := y) (b := (sY P i)) hx hb d_R_becomeSums_106 rfl rfl ?_
        refine lv_istore (lv' := [(4, .int (iN ((y + (sY P i))))), (3, .int (iN ((x + (sX P i))))), (9, .int (iN ((ordS P i S j)))), (0, .ref a), (1, .ref b), (2, .ref c), (5, .int (iN (i))), (6, .int (iN (j))), (7, .int (iN ((sd P + sd S)))), (8, .int (iN (t)))]) hx hb d_R_becomeSums_107 hl (by decide) rfl (fun ls hl => ?_)
        refine lv_iinc (v := iN ((i + 1))) (lv' := [(5, .int (iN ((i + 1)))), (4, .int (iN ((y + (sY P i))))), (3, .int (iN ((x + (sX P i))))), (9, .int (iN ((ordS P i S j)))), (0, .ref a), (1, .ref b), (2, .ref c), (6, .int (iN (j))), (7, .int (iN ((sd P + sd S)))), (8, .int (iN (t)))]) hx hb d_R_becomeSums_109 hl (k := 6) rfl (by rw [show (i + 1) = i + (1 : Int) by omega, ← iN_add]; rfl) (by decide) rfl (fun ls hl => ?_)
        refine lv_iload hx hb d_R_becomeSums_112 (lv_at hl 3 rfl) ?_
        refine ri_zlt (a := (ordS P i S j)) (tgt := 140) hx hb d_R_becomeSums_114 (by decide) rfl (by have := ordS_b hP hS i j; unfold i3; omega) (fun c114 => ?_) (fun c114 => ?_)
        · skip
          refine lv_iload hx hb d_R_becomeSums_140 (lv_at hl 0 rfl) ?_
          refine lv_iload hx hb d_R_becomeSums_142 (lv_at hl 7 rfl) ?_
          refine ri_add (a := (i + 1)) (b := j) hx hb d_R_becomeSums_144 rfl rfl ?_
          refine lv_iload hx hb d_R_becomeSums_145 (lv_at hl 8 rfl) ?_
          refine ri_cge (a := ((i + 1) + j)) (b := (sd P + sd S)) (tgt := 157) hx hb d_R_becomeSums_147 (by decide) rfl rfl (by unfold i3; omega) (by unfold i3; omega) (fun c147 => ?_) (fun c147 => ?_)
          · skip
            refine lv_iinc (v := iN ((t + 1))) (lv' := [(8, .int (iN ((t + 1)))), (5, .int (iN ((i + 1)))), (4, .int (iN ((y + (sY P i))))), (3, .int (iN ((x + (sX P i))))), (9, .int (iN ((ordS P i S j)))), (0, .ref a), (1, .ref b), (2, .ref c), (6, .int (iN (j))), (7, .int (iN ((sd P + sd S))))]) hx hb d_R_becomeSums_157 hl (k := 9) rfl (by rw [show (t + 1) = t + (1 : Int) by omega, ← iN_add]; rfl) (by decide) rfl (fun ls hl => ?_)
            refine lv_goto (tgt := 56) hx hb d_R_becomeSums_160 (by decide) ?_
            have e1 : (ordS P i S j ≤ 0) = True := by exact eq_true (by omega)
            have e2 : (0 ≤ ordS P i S j) = False := by exact eq_false (by omega)
            have hsi := ordS_le (P := P) (S := S) (i := i) (j := j) (by omega)
            have hI' : 0 ≤ (t + 1) ∧ (t + 1) ≤ (sd P + sd S) ∧ 0 ≤ (i + 1) ∧ (i + 1) ≤ sd P ∧ 0 ≤ j ∧ j ≤ sd S ∧ (out.length : Int) ≤ (i + 1) + j + 1 ∧ (t + 1) ≤ (i + 1) + j ∧ sumF P S = mrgF P S ((sd P + sd S) - (t + 1)).toNat (i + 1) j (x + (sX P i)) (y + (sY P i)) out ∧ rowIs cI rx ry g a out ∧ rowIs cI rx ry g b P ∧ rowIs cI rx ry g c S ∧ chg rx ry a f g := ⟨by omega, by omega, by omega, by omega, by omega, by omega, by omega, by omega, by rw [h8, show (sd P + sd S - t).toNat = (sd P + sd S - (t + 1)).toNat + 1 by omega, mrg_s (by omega) (i + 1) j (x + (sX P i)) (y + (sY P i)) (by simp only [e1, e2, if_true, if_false]) (by simp only [e1, e2, if_true, if_false]) (by simp only [e1, e2, if_true, if_false]) (by simp only [e1, e2, if_true, if_false]), if_neg (by omega)], ha, hb9, hc, hch⟩
            exact ih ((t + 1), (i + 1), j, (x + (sX P i)), (y + (sY P i)), out, g) _ _ _ (by omega) hI' w (lv_sub hl [5, 6, 7, 3, 2, 1, 8, 9, 0] rfl)
          · skip
            refine lv_aload_n hx hb d_R_becomeSums_150 rfl (lv_at hl 4 rfl) ?_
            refine lv_iload_n hx hb d_R_becomeSums_151 rfl (lv_at hl 2 rfl) ?_
            refine lv_iload hx hb d_R_becomeSums_152 (lv_at hl 1 rfl) ?_
            refine g_cv w (g_runV (As := [.int (iN ((x + (sX P i)))), .int (iN ((y + (sY P i))))]) (rest := []) X w (c_R_add l hoa ha (by omega) (x := (x + (sX P i))) (y := (y + (sY P i)))) k_R_add v_R_add lk_R_54 hoa.1 ha.2.1 rfl ⟨(Nat.le_of_ble_eq_true rfl), (Nat.le_of_ble_eq_true rfl)⟩ rfl hl.1 rfl (Nat.le_of_ble_eq_true rfl) d_R_becomeSums_154 ⟨(Nat.le_of_ble_eq_true rfl), (Nat.le_of_ble_eq_true rfl)⟩) (fun u H locs hp w => ?_)
            obtain ⟨g5x, rfl, hn5, hk5⟩ := hp
            have w : gw D (gA L sz) s.heap H locs L g5x := w
            have hb5 := rowIs_keep hab.symm hk5 hb9
            have hc5 := rowIs_keep hac.symm hk5 hc
            refine lv_iinc (v := iN ((t + 1))) (lv' := [(8, .int (iN ((t + 1)))), (5, .int (iN ((i + 1)))), (4, .int (iN ((y + (sY P i))))), (3, .int (iN ((x + (sX P i))))), (9, .int (iN ((ordS P i S j)))), (0, .ref a), (1, .ref b), (2, .ref c), (6, .int (iN (j))), (7, .int (iN ((sd P + sd S))))]) hx hb d_R_becomeSums_157 hl (k := 9) rfl (by rw [show (t + 1) = t + (1 : Int) by omega, ← iN_add]; rfl) (by decide) rfl (fun ls hl => ?_)
            refine lv_goto (tgt := 56) hx hb d_R_becomeSums_160 (by decide) ?_
            have e1 : (ordS P i S j ≤ 0) = True := by exact eq_true (by omega)
            have e2 : (0 ≤ ordS P i S j) = False := by exact eq_false (by omega)
            have hsi := ordS_le (P := P) (S := S) (i := i) (j := j) (by omega)
            have hI' : 0 ≤ (t + 1) ∧ (t + 1) ≤ (sd P + sd S) ∧ 0 ≤ (i + 1) ∧ (i + 1) ≤ sd P ∧ 0 ≤ j ∧ j ≤ sd S ∧ ((out ++ [((x + (sX P i)), (y + (sY P i)))]).length : Int) ≤ (i + 1) + j + 1 ∧ (t + 1) ≤ (i + 1) + j ∧ sumF P S = mrgF P S ((sd P + sd S) - (t + 1)).toNat (i + 1) j (x + (sX P i)) (y + (sY P i)) (out ++ [((x + (sX P i)), (y + (sY P i)))]) ∧ rowIs cI rx ry g5x a (out ++ [((x + (sX P i)), (y + (sY P i)))]) ∧ rowIs cI rx ry g5x b P ∧ rowIs cI rx ry g5x c S ∧ chg rx ry a f g5x := ⟨by omega, by omega, by omega, by omega, by omega, by omega, by simp; omega, by omega, by rw [h8, show (sd P + sd S - t).toNat = (sd P + sd S - (t + 1)).toNat + 1 by omega, mrg_s (by omega) (i + 1) j (x + (sX P i)) (y + (sY P i)) (by simp only [e1, e2, if_true, if_false]) (by simp only [e1, e2, if_true, if_false]) (by simp only [e1, e2, if_true, if_false]) (by simp only [e1, e2, if_true, if_false]), if_pos (by omega)], hn5, hb5, hc5, chg_trans hch hk5⟩
            exact ih ((t + 1), (i + 1), j, (x + (sX P i)), (y + (sY P i)), (out ++ [((x + (sX P i)), (y + (sY P i)))]), g5x) _ _ _ (by omega) hI' w (lv_sub hl [5, 6, 7, 3, 2, 1, 8, 9, 0] rfl)
        · skip
          refine lv_iload_n hx hb d_R_becomeSums_117 rfl (lv_at hl 2 rfl) ?_
          refine lv_aload_n hx hb d_R_becomeSums_118 rfl (lv_at hl 6 rfl) ?_
          refine lv_iload hx hb d_R_becomeSums_119 (lv_at hl 7 rfl) ?_
          refine g_ci w (g_runV (As := [.int (iN (j))]) (rest := [.int (iN ((x + (sX P i))))]) X w (c_R_sideX l hoc hc (by omega)) k_R_sideX v_R_sideX lk_R_73 hoc.1 hc.2.1 rfl ⟨(Nat.le_of_ble_eq_true rfl), (Nat.le_of_ble_eq_true rfl)⟩ rfl hl.1 rfl (Nat.le_of_ble_eq_true rfl) d_R_becomeSums_121 ⟨Nat.zero_le _, Nat.zero_le _⟩) (fun r u H locs hp w => ?_)
          obtain ⟨rfl, rfl⟩ := hp
          have w : gw D (gA L sz) s.heap H locs L g := w
          refine ri_add (a := (x + (sX P i))) (b := (sX S j)) hx hb d_R_becomeSums_124 rfl rfl ?_
          refine lv_istore_n (lv' := [(3, .int (iN (((x + (sX P i)) + (sX S j))))), (5, .int (iN ((i + 1)))), (4, .int (iN ((y + (sY P i))))), (9, .int (iN ((ordS P i S j)))), (0, .ref a), (1, .ref b), (2, .ref c), (6, .int (iN (j))), (7, .int (iN ((sd P + sd S)))), (8, .int (iN (t)))]) hx hb d_R_becomeSums_125 rfl hl (by decide) rfl (fun ls hl => ?_)
          refine lv_iload hx hb d_R_becomeSums_126 (lv_at hl 2 rfl) ?_
          refine lv_aload_n hx hb d_R_becomeSums_128 rfl (lv_at hl 6 rfl) ?_
          refine lv_iload hx hb d_R_becomeSums_129 (lv_at hl 7 rfl) ?_
          refine g_ci w (g_runV (As := [.int (iN (j))]) (rest := [.int (iN ((y + (sY P i))))]) X w (c_R_sideY l hoc hc (by omega)) k_R_sideY v_R_sideY lk_R_76 hoc.1 hc.2.1 rfl ⟨(Nat.le_of_ble_eq_true rfl), (Nat.le_of_ble_eq_true rfl)⟩ rfl hl.1 rfl (Nat.le_of_ble_eq_true rfl) d_R_becomeSums_131 ⟨Nat.zero_le _, Nat.zero_le _⟩) (fun r u H locs hp w => ?_)
          obtain ⟨rfl, rfl⟩ := hp
          have w : gw D (gA L sz) s.heap H locs L g := w
          refine ri_add (a := (y + (sY P i))) (b := (sY S j)) hx hb d_R_becomeSums_134 rfl rfl ?_
          refine lv_istore (lv' := [(4, .int (iN (((y + (sY P i)) + (sY S j))))), (3, .int (iN (((x + (sX P i)) + (sX S j))))), (5, .int (iN ((i + 1)))), (9, .int (iN ((ordS P i S j)))), (0, .ref a), (1, .ref b), (2, .ref c), (6, .int (iN (j))), (7, .int (iN ((sd P + sd S)))), (8, .int (iN (t)))]) hx hb d_R_becomeSums_135 hl (by decide) rfl (fun ls hl => ?_)
          refine lv_iinc (v := iN ((j + 1))) (lv' := [(6, .int (iN ((j + 1)))), (4, .int (iN (((y + (sY P i)) + (sY S j))))), (3, .int (iN (((x + (sX P i)) + (sX S j))))), (5, .int (iN ((i + 1)))), (9, .int (iN ((ordS P i S j)))), (0, .ref a), (1, .ref b), (2, .ref c), (7, .int (iN ((sd P + sd S)))), (8, .int (iN (t)))]) hx hb d_R_becomeSums_137 hl (k := 7) rfl (by rw [show (j + 1) = j + (1 : Int) by omega, ← iN_add]; rfl) (by decide) rfl (fun ls hl => ?_)
          refine lv_iload hx hb d_R_becomeSums_140 (lv_at hl 3 rfl) ?_
          refine lv_iload hx hb d_R_becomeSums_142 (lv_at hl 0 rfl) ?_
          refine ri_add (a := (i + 1)) (b := (j + 1)) hx hb d_R_becomeSums_144 rfl rfl ?_
          refine lv_iload hx hb d_R_becomeSums_145 (lv_at hl 8 rfl) ?_
          refine ri_cge (a := ((i + 1) + (j + 1))) (b := (sd P + sd S)) (tgt := 157) hx hb d_R_becomeSums_147 (by decide) rfl rfl (by unfold i3; omega) (by unfold i3; omega) (fun c147 => ?_) (fun c147 => ?_)
          · skip
            refine lv_iinc (v := iN ((t + 1))) (lv' := [(8, .int (iN ((t + 1)))), (6, .int (iN ((j + 1)))), (4, .int (iN (((y + (sY P i)) + (sY S j))))), (3, .int (iN (((x + (sX P i)) + (sX S j))))), (5, .int (iN ((i + 1)))), (9, .int (iN ((ordS P i S j)))), (0, .ref a), (1, .ref b), (2, .ref c), (7, .int (iN ((sd P + sd S))))]) hx hb d_R_becomeSums_157 hl (k := 9) rfl (by rw [show (t + 1) = t + (1 : Int) by omega, ← iN_add]; rfl) (by decide) rfl (fun ls hl => ?_)
            refine lv_goto (tgt := 56) hx hb d_R_becomeSums_160 (by decide) ?_
            have e1 : (ordS P i S j ≤ 0) = True := by exact eq_true (by omega)
            have e2 : (0 ≤ ordS P i S j) = True := by exact eq_true (by omega)
            have hsi := ordS_le (P := P) (S := S) (i := i) (j := j) (by omega)
            have hsj := ordS_ge (P := P) (S := S) (i := i) (j := j) (by omega) (by omega)
            have hI' : 0 ≤ (t + 1) ∧ (t + 1) ≤ (sd P + sd S) ∧ 0 ≤ (i + 1) ∧ (i + 1) ≤ sd P ∧ 0 ≤ (j + 1) ∧ (j + 1) ≤ sd S ∧ (out.length : Int) ≤ (i + 1) + (j + 1) + 1 ∧ (t + 1) ≤ (i + 1) + (j + 1) ∧ sumF P S = mrgF P S ((sd P + sd S) - (t + 1)).toNat (i + 1) (j + 1) ((x + (sX P i)) + (sX S j)) ((y + (sY P i)) + (sY S j)) out ∧ rowIs cI rx ry g a out ∧ rowIs cI rx ry g b P ∧ rowIs cI rx ry g c S ∧ chg rx ry a f g := ⟨by omega, by omega, by omega, by omega, by omega, by omega, by omega, by omega, by rw [h8, show (sd P + sd S - t).toNat = (sd P + sd S - (t + 1)).toNat + 1 by omega, mrg_s (by omega) (i + 1) (j + 1) ((x + (sX P i)) + (sX S j)) ((y + (sY P i)) + (sY S j)) (by simp only [e1, e2, if_true, if_false]) (by simp only [e1, e2, if_true, if_false]) (by simp only [e1, e2, if_true, if_false]) (by simp only [e1, e2, if_true, if_false]), if_neg (by omega)], ha, hb9, hc, hch⟩
            exact ih ((t + 1), (i + 1), (j + 1), ((x + (sX P i)) + (sX S j)), ((y + (sY P i)) + (sY S j)), out, g) _ _ _ (by omega) hI' w (lv_sub hl [6, 7, 8, 3, 2, 4, 1, 9, 0] rfl)
          · skip
            refine lv_aload_n hx hb d_R_becomeSums_150 rfl (lv_at hl 5 rfl) ?_
            refine lv_iload_n hx hb d_R_becomeSums_151 rfl (lv_at hl 2 rfl) ?_
            refine lv_iload hx hb d_R_becomeSums_152 (lv_at hl 1 rfl) ?_
            refine g_cv w (g_runV (As := [.int (iN (((x + (sX P i)) + (sX S j)))), .int (iN (((y + (sY P i)) + (sY S j))))]) (rest := []) X w (c_R_add l hoa ha (by omega) (x := ((x + (sX P i)) + (sX S j))) (y := ((y + (sY P i)) + (sY S j)))) k_R_add v_R_add lk_R_54 hoa.1 ha.2.1 rfl ⟨(Nat.le_of_ble_eq_true rfl), (Nat.le_of_ble_eq_true rfl)⟩ rfl hl.1 rfl (Nat.le_of_ble_eq_true rfl) d_R_becomeSums_154 ⟨(Nat.le_of_ble_eq_true rfl), (Nat.le_of_ble_eq_true rfl)⟩) (fun u H locs hp w => ?_)
            obtain ⟨g6x, rfl, hn6, hk6⟩ := hp
            have w : gw D (gA L sz) s.heap H locs L g6x := w
            have hb6 := rowIs_keep hab.symm hk6 hb9
            have hc6 := rowIs_keep hac.symm hk6 hc
            refine lv_iinc (v := iN ((t + 1))) (lv' := [(8, .int (iN ((t + 1)))), (6, .int (iN ((j + 1)))), (4, .int (iN (((y + (sY P i)) + (sY S j))))), (3, .int (iN (((x + (sX P i)) + (sX S j))))), (5, .int (iN ((i + 1)))), (9, .int (iN ((ordS P i S j)))), (0, .ref a), (1, .ref b), (2, .ref c), (7, .int (iN ((sd P + sd S))))]) hx hb d_R_becomeSums_157 hl (k := 9) rfl (by rw [show (t + 1) = t + (1 : Int) by omega, ← iN_add]; rfl) (by decide) rfl (fun ls hl => ?_)
            refine lv_goto (tgt := 56) hx hb d_R_becomeSums_160 (by decide) ?_
            have e1 : (ordS P i S j ≤ 0) = True := by exact eq_true (by omega)
            have e2 : (0 ≤ ordS P i S j) = True := by exact eq_true (by omega)
            have hsi := ordS_le (P := P) (S := S) (i := i) (j := j) (by omega)
            have hsj := ordS_ge (P := P) (S := S) (i := i) (j := j) (by omega) (by omega)
            have hI' : 0 ≤ (t + 1) ∧ (t + 1) ≤ (sd P + sd S) ∧ 0 ≤ (i + 1) ∧ (i + 1) ≤ sd P ∧ 0 ≤ (j + 1) ∧ (j + 1) ≤ sd S ∧ ((out ++ [(((x + (sX P i)) + (sX S j)), ((y + (sY P i)) + (sY S j)))]).length : Int) ≤ (i + 1) + (j + 1) + 1 ∧ (t + 1) ≤ (i + 1) + (j + 1) ∧ sumF P S = mrgF P S ((sd P + sd S) - (t + 1)).toNat (i + 1) (j + 1) ((x + (sX P i)) + (sX S j)) ((y + (sY P i)) + (sY S j)) (out ++ [(((x + (sX P i)) + (sX S j)), ((y + (sY P i)) + (sY S j)))]) ∧ rowIs cI rx ry g6x a (out ++ [(((x + (sX P i)) + (sX S j)), ((y + (sY P i)) + (sY S j)))]) ∧ rowIs cI rx ry g6x b P ∧ rowIs cI rx ry g6x c S ∧ chg rx ry a f g6x := ⟨by omega, by omega, by omega, by omega, by omega, by omega, by simp; omega, by omega, by rw [h8, show (sd P + sd S - t).toNat = (sd P + sd S - (t + 1)).toNat + 1 by omega, mrg_s (by omega) (i + 1) (j + 1) ((x + (sX P i)) + (sX S j)) ((y + (sY P i)) + (sY S j)) (by simp only [e1, e2, if_true, if_false]) (by simp only [e1, e2, if_true, if_false]) (by simp only [e1, e2, if_true, if_false]) (by simp only [e1, e2, if_true, if_false]), if_pos (by omega)], hn6, hb6, hc6, chg_trans hch hk6⟩
            exact ih ((t + 1), (i + 1), (j + 1), ((x + (sX P i)) + (sX S j)), ((y + (sY P i)) + (sY S j)), (out ++ [(((x + (sX P i)) + (sX S j)), ((y + (sY P i)) + (sY S j)))]), g6x) _ _ _ (by omega) hI' w (lv_sub hl [6, 7, 8, 3, 2, 4, 1, 9, 0] rfl)
end
section
/-! LOWEST AND CIRCLE -/
theorem va_same {f : Nat → va_E} {a : Nat} {c : va_E} (h : f a = c) : va_up f a c = f := by
  funext q; by_cases e : q = a
  · subst e; rw [va_up_self, h]
  · rw [va_up_ne _ _ e]
/-- the object a is none of the cells of the row r -/
def oo (rx ry : Nat → Nat) (a r : Nat) : Prop := r ≠ a ∧ rx r ≠ a ∧ ry r ≠ a
theorem rowIs_up {cI : ClassId} {rx ry : Nat → Nat} {f : Nat → va_E} {a r : Nat} {c : va_E} {P : List Pt} (h : oo rx ry a r) (hr : rowIs cI rx ry f r P) : rowIs cI rx ry (va_up f a c) r P := by
  obtain ⟨h0, h1, F1, F2, h2, h3, h4⟩ := hr
  exact ⟨h0, by rw [va_up_ne _ _ h.1]; exact h1, F1, F2, by rw [va_up_ne _ _ h.2.1]; exact h2, by rw [va_up_ne _ _ h.2.2]; exact h3, h4⟩
def cL (o u b : Int) : va_E := .inr (3, [.long (jN o), .long (jN u), .int (iN b)])
def cC (px py ux uy un : Int) : va_E := .inr (2, [.long (jN px), .long (jN py), .long (jN ux), .long (jN uy), .long (jN un)])

set_option maxHeartbeats 4000000 in
set_option maxRecDepth 100000 in
theorem c_L_forget (l : Launch) {D : va_G} {cI cR : ClassId} {L : List Nat} {f : Nat → va_E} {a : Nat} {o u b : Int} (ha : a ∈ L) (he : f a = cL o u b) : gMv D cI cR l y_L_forget (Cond.code y_L_forget b_L_forget 1 none :: lw_g) { frames := 0, cells := 0, slots := 0, locals := 0 } [.ref a] L f (fun u => u = (L, va_up f a (cL 0 1 0))) := by
  intro sz
  refine g_enter (by decide) rfl (Nat.le_of_ble_eq_true rfl) ?_
  intro p e s m below meth cd ls X hrt hlk hnm hl hsz w
  have X : gx p m cd b_L_forget 1 s _ "HullSums$Lowest" D cI cR := X
  have hx := X.1.1
  have hb := X.1.2.1
  have hl : lv_has ls 1 [(0, .ref a)] := hl
  have w : gw D (gA L sz) s.heap s.heap [] L (va_up f a (.inr (3, [.long (jN (o)), .long (jN (u)), .int (iN (b))]))) := by rw [va_same (c := .inr (3, [.long (jN (o)), .long (jN (u)), .int (iN (b))])) he]; exact w
  refine lv_aload_n hx hb d_L_forget_0 rfl (lv_at hl 0 rfl) ?_
  refine lv_lconst (v := jN (0)) hx hb d_L_forget_1 (by decide) ?_
  refine gk_put X w ha (va_up_self _ _ _) rfl in_L ty_L tyok_L nm_L 0 (by decide) lk_L_7 rfl (ty := .long) (by decide +kernel) rfl rfl (Nat.le_of_ble_eq_true rfl) d_L_forget_2 (fun H locs w => ?_)
  have w : gw D (gA L sz) s.heap H locs L (va_up f a (.inr (3, [.long (jN (0)), .long (jN (u)), .int (iN (b))]))) := by rw [bx_uu] at w; exact w
  refine lv_aload_n hx hb d_L_forget_5 rfl (lv_at hl 0 rfl) ?_
  refine lv_lconst (v := jN (1)) hx hb d_L_forget_6 (by decide) ?_
  refine gk_put X w ha (va_up_self _ _ _) rfl in_L ty_L tyok_L nm_L 1 (by decide) lk_L_13 rfl (ty := .long) (by decide +kernel) rfl rfl (Nat.le_of_ble_eq_true rfl) d_L_forget_7 (fun H locs w => ?_)
  have w : gw D (gA L sz) s.heap H locs L (va_up f a (.inr (3, [.long (jN (0)), .long (jN (1)), .int (iN (b))]))) := by rw [bx_uu] at w; exact w
  refine lv_aload_n hx hb d_L_forget_10 rfl (lv_at hl 0 rfl) ?_
  refine lv_iconst (v := iN (0)) hx hb d_L_forget_11 (by decide) ?_
  refine gk_put X w ha (va_up_self _ _ _) rfl in_L ty_L tyok_L nm_L 2 (by decide) lk_L_16 rfl (ty := .boolean) (by decide +kernel) rfl rfl (Nat.le_of_ble_eq_true rfl) d_L_forget_12 (fun H locs w => ?_)
  have w : gw D (gA L sz) s.heap H locs L (va_up f a (.inr (3, [.long (jN (0)), .long (jN (1)), .int (iN (0))]))) := by rw [bx_uu] at w; exact w
  exact g_vret X w hrt hlk d_L_forget_15 rfl
set_option maxHeartbeats 4000000 in
set_option maxRecDepth 100000 in
theorem c_L_over (l : Launch) {D : va_G} {cI cR : ClassId} {L : List Nat} {f : Nat → va_E} {a : Nat} {o u b : Int} (ha : a ∈ L) (he : f a = cL o u b) : gMl D cI cR l y_L_over (Cond.code y_L_over b_L_over 1 (some .long) :: lw_g) { frames := 0, cells := 0, slots := 0, locals := 0 } [.ref a] L f (fun r u => r = jN o ∧ u = (L, f)) := by
  intro sz
  refine g_enter (by decide) rfl (Nat.le_of_ble_eq_true rfl) ?_
  intro p e s m below meth cd ls X hrt hlk hnm hl hsz w
  have X : gx p m cd b_L_over 1 s _ "HullSums$Lowest" D cI cR := X
  have hx := X.1.1
  have hb := X.1.2.1
  have hl : lv_has ls 1 [(0, .ref a)] := hl
  refine lv_aload_n hx hb d_L_over_0 rfl (lv_at hl 0 rfl) ?_
  refine gk_get X w ha he rfl in_L 0 (by decide) lk_L_7 rfl d_L_over_1 ?_
  exact g_lret X w hrt hlk d_L_over_4 ⟨rfl, rfl⟩
set_option maxHeartbeats 4000000 in
set_option maxRecDepth 100000 in
theorem c_L_under (l : Launch) {D : va_G} {cI cR : ClassId} {L : List Nat} {f : Nat → va_E} {a : Nat} {o u b : Int} (ha : a ∈ L) (he : f a = cL o u b) : gMl D cI cR l y_L_under (Cond.code y_L_under b_L_under 1 (some .long) :: lw_g) { frames := 0, cells := 0, slots := 0, locals := 0 } [.ref a] L f (fun r u9 => r = jN u ∧ u9 = (L, f)) := by
  intro sz
  refine g_enter (by decide) rfl (Nat.le_of_ble_eq_true rfl) ?_
  intro p e s m below meth cd ls X hrt hlk hnm hl hsz w
  have X : gx p m cd b_L_under 1 s _ "HullSums$Lowest" D cI cR := X
  have hx := X.1.1
  have hb := X.1.2.1
  have hl : lv_has ls 1 [(0, .ref a)] := hl
  refine lv_aload_n hx hb d_L_under_0 rfl (lv_at hl 0 rfl) ?_
  refine gk_get X w ha he rfl in_L 1 (by decide) lk_L_13 rfl d_L_under_1 ?_
  exact g_lret X w hrt hlk d_L_under_4 ⟨rfl, rfl⟩
noncomputable def lTake (o u b no nu : Int) : va_E := by
  classical
  exact if b = 0 ∨ no * u < o * nu then cL no nu 1 else cL o u b
set_option maxHeartbeats 4000000 in
set_option maxRecDepth 100000 in
theorem c_L_take (l : Launch) {D : va_G} {cI cR : ClassId} {L : List Nat} {f : Nat → va_E} {a : Nat} {o u b : Int} (ha : a ∈ L) (he : f a = cL o u b) (hb01 : b = 0 ∨ b = 1) {no nu : Int} (h1 : i6 (no * u)) (h2 : i6 (o * nu)) : gMv D cI cR l y_L_take (Cond.code y_L_take b_L_take 5 none :: lw_g) { frames := 0, cells := 0, slots := 0, locals := 0 } [.ref a, .long (jN (no)), .long (jN (nu))] L f (fun u9 => u9 = (L, va_up f a (lTake o u b no nu))) := by
  intro sz
  refine g_enter (by decide) rfl (Nat.le_of_ble_eq_true rfl) ?_
  intro p e s m below meth cd ls X hrt hlk hnm hl hsz w
  have X : gx p m cd b_L_take 5 s _ "HullSums$Lowest" D cI cR := X
  have hx := X.1.1
  have hb := X.1.2.1
  have hl : lv_has ls 5 [(0, .ref a), (1, .long (jN (no))), (3, .long (jN (nu)))] := hl
  have w : gw D (gA L sz) s.heap s.heap [] L (va_up f a (.inr (3, [.long (jN (o)), .long (jN (u)), .int (iN (b))]))) := by rw [va_same (c := .inr (3, [.long (jN (o)), .long (jN (u)), .int (iN (b))])) he]; exact w
  refine lv_aload_n hx hb d_L_take_0 rfl (lv_at hl 0 rfl) ?_
  refine gk_get X w ha (va_up_self _ _ _) rfl in_L 2 (by decide) lk_L_16 rfl d_L_take_1 ?_
  refine ri_zeq (a := b) (tgt := 23) hx hb d_L_take_4 (by decide) rfl (by unfold i3; omega) (fun c4 => ?_) (fun c4 => ?_)
  · skip
    refine lv_aload_n hx hb d_L_take_23 rfl (lv_at hl 0 rfl) ?_
    refine lv_lload_n hx hb d_L_take_24 rfl (lv_at hl 1 rfl) ?_
    refine gk_put X w ha (va_up_self _ _ _) rfl in_L ty_L tyok_L nm_L 0 (by decide) lk_L_7 rfl (ty := .long) (by decide +kernel) rfl rfl (Nat.le_of_ble_eq_true rfl) d_L_take_25 (fun H locs w => ?_)
    have w : gw D (gA L sz) s.heap H locs L (va_up f a (.inr (3, [.long (jN (no)), .long (jN (u)), .int (iN (b))]))) := by rw [bx_uu] at w; exact w
    refine lv_aload_n hx hb d_L_take_28 rfl (lv_at hl 0 rfl) ?_
    refine lv_lload_n hx hb d_L_take_29 rfl (lv_at hl 2 rfl) ?_
    refine gk_put X w ha (va_up_self _ _ _) rfl in_L ty_L tyok_L nm_L 1 (by decide) lk_L_13 rfl (ty := .long) (by decide +kernel) rfl rfl (Nat.le_of_ble_eq_true rfl) d_L_take_30 (fun H locs w => ?_)
    have w : gw D (gA L sz) s.heap H locs L (va_up f a (.inr (3, [.long (jN (no)), .long (jN (nu)), .int (iN (b))]))) := by rw [bx_uu] at w; exact w
    refine lv_aload_n hx hb d_L_take_33 rfl (lv_at hl 0 rfl) ?_
    refine lv_iconst (v := iN (1)) hx hb d_L_take_34 (by decide) ?_
    refine gk_put X w ha (va_up_self _ _ _) rfl in_L ty_L tyok_L nm_L 2 (by decide) lk_L_16 rfl (ty := .boolean) (by decide +kernel) rfl rfl (Nat.le_of_ble_eq_true rfl) d_L_take_35 (fun H locs w => ?_)
    have w : gw D (gA L sz) s.heap H locs L (va_up f a (.inr (3, [.long (jN (no)), .long (jN (nu)), .int (iN (1))]))) := by rw [bx_uu] at w; exact w
    exact g_vret X w hrt hlk d_L_take_38 (by unfold lTake; rw [if_pos (by omega)]; rfl)
  · skip
    refine lv_lload_n hx hb d_L_take_7 rfl (lv_at hl 1 rfl) ?_
    refine lv_aload_n hx hb d_L_take_8 rfl (lv_at hl 0 rfl) ?_
    refine gk_get X w ha (va_up_self _ _ _) rfl in_L 1 (by decide) lk_L_13 rfl d_L_take_9 ?_
    refine rj_mul (a := no) (b := u) hx hb d_L_take_12 rfl rfl ?_
    refine lv_aload_n hx hb d_L_take_13 rfl (lv_at hl 0 rfl) ?_
    refine gk_get X w ha (va_up_self _ _ _) rfl in_L 0 (by decide) lk_L_7 rfl d_L_take_14 ?_
    refine lv_lload_n hx hb d_L_take_17 rfl (lv_at hl 2 rfl) ?_
    refine rj_mul (a := o) (b := nu) hx hb d_L_take_18 rfl rfl ?_
    refine rj_cge (a := (no * u)) (b := (o * nu)) (tgt := 38) hx hb d_L_take_19 d_L_take_20 (by decide) rfl rfl h1 h2 (fun c19 => ?_) (fun c19 => ?_)
    · skip
      exact g_vret X w hrt hlk d_L_take_38 (by unfold lTake; rw [if_neg (by omega)]; rfl)
    · skip
      refine lv_aload_n hx hb d_L_take_23 rfl (lv_at hl 0 rfl) ?_
      refine lv_lload_n hx hb d_L_take_24 rfl (lv_at hl 1 rfl) ?_
      refine gk_put X w ha (va_up_self _ _ _) rfl in_L ty_L tyok_L nm_L 0 (by decide) lk_L_7 rfl (ty := .long) (by decide +kernel) rfl rfl (Nat.le_of_ble_eq_true rfl) d_L_take_25 (fun H locs w => ?_)
      have w : gw D (gA L sz) s.heap H locs L (va_up f a (.inr (3, [.long (jN (no)), .long (jN (u)), .int (iN (b))]))) := by rw [bx_uu] at w; exact w
      refine lv_aload_n hx hb d_L_take_28 rfl (lv_at hl 0 rfl) ?_
      refine lv_lload_n hx hb d_L_take_29 rfl (lv_at hl 2 rfl) ?_
      refine gk_put X w ha (va_up_self _ _ _) rfl in_L ty_L tyok_L nm_L 1 (by decide) lk_L_13 rfl (ty := .long) (by decide +kernel) rfl rfl (Nat.le_of_ble_eq_true rfl) d_L_take_30 (fun H locs w => ?_)
      have w : gw D (gA L sz) s.heap H locs L (va_up f a (.inr (3, [.long (jN (no)), .long (jN (nu)), .int (iN (b))]))) := by rw [bx_uu] at w; exact w
      refine lv_aload_n hx hb d_L_take_33 rfl (lv_at hl 0 rfl) ?_
      refine lv_iconst (v := iN (1)) hx hb d_L_take_34 (by decide) ?_
      refine gk_put X w ha (va_up_self _ _ _) rfl in_L ty_L tyok_L nm_L 2 (by decide) lk_L_16 rfl (ty := .boolean) (by decide +kernel) rfl rfl (Nat.le_of_ble_eq_true rfl) d_L_take_35 (fun H locs w => ?_)
      have w : gw D (gA L sz) s.heap H locs L (va_up f a (.inr (3, [.long (jN (no)), .long (jN (nu)), .int (iN (1))]))) := by rw [bx_uu] at w; exact w
      exact g_vret X w hrt hlk d_L_take_38 (by unfold lTake; rw [if_pos (by omega)]; rfl)
set_option maxHeartbeats 4000000 in
set_option maxRecDepth 100000 in
theorem c_C_middleX (l : Launch) {D : va_G} {cI cR : ClassId} {L : List Nat} {f : Nat → va_E} {a : Nat} {px py ux uy un : Int} (ha : a ∈ L) (he : f a = cC px py ux uy un) : gMl D cI cR l y_C_middleX (Cond.code y_C_middleX b_C_middleX 1 (some .long) :: lw_g) { frames := 0, cells := 0, slots := 0, locals := 0 } [.ref a] L f (fun r u => r = jN (px * un + ux) ∧ u = (L, f)) := by
  intro sz
  refine g_enter (by decide) rfl (Nat.le_of_ble_eq_true rfl) ?_
  intro p e s m below meth cd ls X hrt hlk hnm hl hsz w
  have X : gx p m cd b_C_middleX 1 s _ "HullSums$Circle" D cI cR := X
  have hx := X.1.1
  have hb := X.1.2.1
  have hl : lv_has ls 1 [(0, .ref a)] := hl
  refine lv_aload_n hx hb d_C_middleX_0 rfl (lv_at hl 0 rfl) ?_
  refine gk_get X w ha he rfl in_C 0 (by decide) lk_C_7 rfl d_C_middleX_1 ?_
  refine lv_aload_n hx hb d_C_middleX_4 rfl (lv_at hl 0 rfl) ?_
  refine gk_get X w ha he rfl in_C 4 (by decide) lk_C_22 rfl d_C_middleX_5 ?_
  refine rj_mul (a := px) (b := un) hx hb d_C_middleX_8 rfl rfl ?_
  refine lv_aload_n hx hb d_C_middleX_9 rfl (lv_at hl 0 rfl) ?_
  refine gk_get X w ha he rfl in_C 2 (by decide) lk_C_16 rfl d_C_middleX_10 ?_
  refine rj_add (a := (px * un)) (b := ux) hx hb d_C_middleX_13 rfl rfl ?_
  exact g_lret X w hrt hlk d_C_middleX_14 ⟨rfl, rfl⟩
set_option maxHeartbeats 4000000 in
set_option maxRecDepth 100000 in
theorem c_C_middleY (l : Launch) {D : va_G} {cI cR : ClassId} {L : List Nat} {f : Nat → va_E} {a : Nat} {px py ux uy un : Int} (ha : a ∈ L) (he : f a = cC px py ux uy un) : gMl D cI cR l y_C_middleY (Cond.code y_C_middleY b_C_middleY 1 (some .long) :: lw_g) { frames := 0, cells := 0, slots := 0, locals := 0 } [.ref a] L f (fun r u => r = jN (py * un + uy) ∧ u = (L, f)) := by
  intro sz
  refine g_enter (by decide) rfl (Nat.le_of_ble_eq_true rfl) ?_
  intro p e s m below meth cd ls X hrt hlk hnm hl hsz w
  have X : gx p m cd b_C_middleY 1 s _ "HullSums$Circle" D cI cR := X
  have hx := X.1.1
  have hb := X.1.2.1
  have hl : lv_has ls 1 [(0, .ref a)] := hl
  refine lv_aload_n hx hb d_C_middleY_0 rfl (lv_at hl 0 rfl) ?_
  refine gk_get X w ha he rfl in_C 1 (by decide) lk_C_13 rfl d_C_middleY_1 ?_
  refine lv_aload_n hx hb d_C_middleY_4 rfl (lv_at hl 0 rfl) ?_
  refine gk_get X w ha he rfl in_C 4 (by decide) lk_C_22 rfl d_C_middleY_5 ?_
  refine rj_mul (a := py) (b := un) hx hb d_C_middleY_8 rfl rfl ?_
  refine lv_aload_n hx hb d_C_middleY_9 rfl (lv_at hl 0 rfl) ?_
  refine gk_get X w ha he rfl in_C 3 (by decide) lk_C_19 rfl d_C_middleY_10 ?_
  refine rj_add (a := (py * un)) (b := uy) hx hb d_C_middleY_13 rfl rfl ?_
  exact g_lret X w hrt hlk d_C_middleY_14 ⟨rfl, rfl⟩
set_option maxHeartbeats 4000000 in
set_option maxRecDepth 100000 in
theorem c_C_middleUnder (l : Launch) {D : va_G} {cI cR : ClassId} {L : List Nat} {f : Nat → va_E} {a : Nat} {px py ux uy un : Int} (ha : a ∈ L) (he : f a = cC px py ux uy un) : gMl D cI cR l y_C_middleUnder (Cond.code y_C_middleUnder b_C_middleUnder 1 (some .long) :: lw_g) { frames := 0, cells := 0, slots := 0, locals := 0 } [.ref a] L f (fun r u => r = jN (un) ∧ u = (L, f)) := by
  intro sz
  refine g_enter (by decide) rfl (Nat.le_of_ble_eq_true rfl) ?_
  intro p e s m below meth cd ls X hrt hlk hnm hl hsz w
  have X : gx p m cd b_C_middleUnder 1 s _ "HullSums$Circle" D cI cR := X
  have hx := X.1.1
  have hb := X.1.2.1
  have hl : lv_has ls 1 [(0, .ref a)] := hl
  refine lv_aload_n hx hb d_C_middleUnder_0 rfl (lv_at hl 0 rfl) ?_
  refine gk_get X w ha he rfl in_C 4 (by decide) lk_C_22 rfl d_C_middleUnder_1 ?_
  exact g_lret X w hrt hlk d_C_middleUnder_4 ⟨rfl, rfl⟩
set_option maxHeartbeats 4000000 in
set_option maxRecDepth 100000 in
theorem c_C_squareOver (l : Launch) {D : va_G} {cI cR : ClassId} {L : List Nat} {f : Nat → va_E} {a : Nat} {px py ux uy un : Int} (ha : a ∈ L) (he : f a = cC px py ux uy un) : gMl D cI cR l y_C_squareOver (Cond.code y_C_squareOver b_C_squareOver 1 (some .long) :: lw_g) { frames := 0, cells := 0, slots := 0, locals := 0 } [.ref a] L f (fun r u => r = jN (ux * ux + uy * uy) ∧ u = (L, f)) := by
  intro sz
  refine g_enter (by decide) rfl (Nat.le_of_ble_eq_true rfl) ?_
  intro p e s m below meth cd ls X hrt hlk hnm hl hsz w
  have X : gx p m cd b_C_squareOver 1 s _ "HullSums$Circle" D cI cR := X
  have hx := X.1.1
  have hb := X.1.2.1
  have hl : lv_has ls 1 [(0, .ref a)] := hl
  refine lv_aload_n hx hb d_C_squareOver_0 rfl (lv_at hl 0 rfl) ?_
  refine gk_get X w ha he rfl in_C 2 (by decide) lk_C_16 rfl d_C_squareOver_1 ?_
  refine lv_aload_n hx hb d_C_squareOver_4 rfl (lv_at hl 0 rfl) ?_
  refine gk_get X w ha he rfl in_C 2 (by decide) lk_C_16 rfl d_C_squareOver_5 ?_
  refine rj_mul (a := ux) (b := ux) hx hb d_C_squareOver_8 rfl rfl ?_
  refine lv_aload_n hx hb d_C_squareOver_9 rfl (lv_at hl 0 rfl) ?_
  refine gk_get X w ha he rfl in_C 3 (by decide) lk_C_19 rfl d_C_squareOver_10 ?_
  refine lv_aload_n hx hb d_C_squareOver_13 rfl (lv_at hl 0 rfl) ?_
  refine gk_get X w ha he rfl in_C 3 (by decide) lk_C_19 rfl d_C_squareOver_14 ?_
  refine rj_mul (a := uy) (b := uy) hx hb d_C_squareOver_17 rfl rfl ?_
  refine rj_add (a := (ux * ux)) (b := (uy * uy)) hx hb d_C_squareOver_18 rfl rfl ?_
  exact g_lret X w hrt hlk d_C_squareOver_19 ⟨rfl, rfl⟩
set_option maxHeartbeats 4000000 in
set_option maxRecDepth 100000 in
theorem c_C_squareUnder (l : Launch) {D : va_G} {cI cR : ClassId} {L : List Nat} {f : Nat → va_E} {a : Nat} {px py ux uy un : Int} (ha : a ∈ L) (he : f a = cC px py ux uy un) : gMl D cI cR l y_C_squareUnder (Cond.code y_C_squareUnder b_C_squareUnder 1 (some .long) :: lw_g) { frames := 0, cells := 0, slots := 0, locals := 0 } [.ref a] L f (fun r u => r = jN (un * un) ∧ u = (L, f)) := by
  intro sz
  refine g_enter (by decide) rfl (Nat.le_of_ble_eq_true rfl) ?_
  intro p e s m below meth cd ls X hrt hlk hnm hl hsz w
  have X : gx p m cd b_C_squareUnder 1 s _ "HullSums$Circle" D cI cR := X
  have hx := X.1.1
  have hb := X.1.2.1
  have hl : lv_has ls 1 [(0, .ref a)] := hl
  refine lv_aload_n hx hb d_C_squareUnder_0 rfl (lv_at hl 0 rfl) ?_
  refine gk_get X w ha he rfl in_C 4 (by decide) lk_C_22 rfl d_C_squareUnder_1 ?_
  refine lv_aload_n hx hb d_C_squareUnder_4 rfl (lv_at hl 0 rfl) ?_
  refine gk_get X w ha he rfl in_C 4 (by decide) lk_C_22 rfl d_C_squareUnder_5 ?_
  refine rj_mul (a := un) (b := un) hx hb d_C_squareUnder_8 rfl rfl ?_
  exact g_lret X w hrt hlk d_C_squareUnder_9 ⟨rfl, rfl⟩
theorem has_b {P : List Pt} {px py ux uy un i : Int} (hB : pb 300 P) (hc : -300 ≤ px ∧ px ≤ 300 ∧ -300 ≤ py ∧ py ≤ 300 ∧ -864000000 ≤ ux ∧ ux ≤ 864000000 ∧ -864000000 ≤ uy ∧ uy ≤ 864000000 ∧ -1440000 ≤ un ∧ un ≤ 1440000) :
    i6 (((pX P i - px) * (pX P i - px) + (pY P i - py) * (pY P i - py)) * un) ∧ i6 (2 * ((pX P i - px) * ux + (pY P i - py) * uy)) := by
  have h := hB i
  have q1 := mbc (a := pX P i - px) (b := pX P i - px) 600 600 360000 (by omega) (by omega) (by omega) (by omega) (by decide)
  have q2 := mbc (a := pY P i - py) (b := pY P i - py) 600 600 360000 (by omega) (by omega) (by omega) (by omega) (by decide)
  have q3 := mbc (a := (pX P i - px) * (pX P i - px) + (pY P i - py) * (pY P i - py)) (b := un) 720000 1440000 1036800000000 (by omega) (by omega) (by omega) (by omega) (by decide)
  have q4 := mbc (a := pX P i - px) (b := ux) 600 864000000 518400000000 (by omega) (by omega) (by omega) (by omega) (by decide)
  have q5 := mbc (a := pY P i - py) (b := uy) 600 864000000 518400000000 (by omega) (by omega) (by omega) (by omega) (by decide)
  unfold i6; omega
def cB (px py ux uy un : Int) : Prop := -300 ≤ px ∧ px ≤ 300 ∧ -300 ≤ py ∧ py ≤ 300 ∧ -864000000 ≤ ux ∧ ux ≤ 864000000 ∧ -864000000 ≤ uy ∧ uy ≤ 864000000 ∧ -1440000 ≤ un ∧ un ≤ 1440000
def cHas (px py ux uy un x y : Int) : Prop := ((x - px) * (x - px) + (y - py) * (y - py)) * un ≤ 2 * ((x - px) * ux + (y - py) * uy)
set_option maxHeartbeats 4000000 in
set_option maxRecDepth 100000 in
theorem c_C_has (l : Launch) {D : va_G} {cI cR : ClassId} {L : List Nat} {f : Nat → va_E} {a : Nat} {px py ux uy un : Int} (ha : a ∈ L) (he : f a = cC px py ux uy un) {rx ry : Nat → Nat} {r0 : Nat} {P : List Pt} (hor : ro L rx ry r0) (hr : rowIs cI rx ry f r0 P) (hoo : oo rx ry a r0) (hB : pb 300 P) {i : Int} (hi : 0 ≤ i ∧ i ≤ 100) (hcb : cB px py ux uy un) : gMi D cI cR l y_C_has (Cond.code y_C_has b_C_has 7 (some .boolean) :: lw_g) { frames := 1, cells := 0, slots := 0, locals := 21 } [.ref a, .ref r0, .int (iN (i))] L f (fun r u => r = iN (bI (cHas px py ux uy un (pX P i) (pY P i))) ∧ u = (L, f)) := by
  intro sz
  refine g_enter (by decide) rfl (Nat.le_of_ble_eq_true rfl) ?_
  intro p e s m below meth cd ls X hrt hlk hnm hl hsz w
  have X : gx p m cd b_C_has 7 s _ "HullSums$Circle" D cI cR := X
  have hx := X.1.1
  have hb := X.1.2.1
  have hl : lv_has ls 7 [(0, .ref a), (1, .ref r0), (2, .int (iN (i)))] := hl
  refine lv_aload_n hx hb d_C_has_0 rfl (lv_at hl 1 rfl) ?_
  refine lv_iload_n hx hb d_C_has_1 rfl (lv_at hl 2 rfl) ?_
  refine g_ci w (g_runV (As := [.int (iN (i))]) (rest := []) X w (c_R_x l hor hr (by unfold i3; omega)) k_R_x v_R_x lk_C_53 hor.1 hr.2.1 rfl ⟨(Nat.le_of_ble_eq_true rfl), (Nat.le_of_ble_eq_true rfl)⟩ rfl hl.1 rfl (Nat.le_of_ble_eq_true rfl) d_C_has_2 ⟨Nat.zero_le _, Nat.zero_le _⟩) (fun r u H locs hp w => ?_)
  obtain ⟨rfl, rfl⟩ := hp
  have w : gw D (gA L sz) s.heap H locs L f := w
  refine ri_i2l (a := (pX P i)) hx hb d_C_has_5 rfl (by have := hB i; unfold i3; omega) ?_
  refine lv_aload_n hx hb d_C_has_6 rfl (lv_at hl 0 rfl) ?_
  refine gk_get X w ha he rfl in_C 0 (by decide) lk_C_7 rfl d_C_has_7 ?_
  refine rj_sub (a := (pX P i)) (b := px) hx hb d_C_has_10 rfl rfl ?_
  refine lv_lstore_n (lv' := [(3, .long (jN (((pX P i) - px)))), (0, .ref a), (1, .ref r0), (2, .int (iN (i)))]) hx hb d_C_has_11 rfl hl (by decide) rfl (fun ls hl => ?_)
  refine lv_aload_n hx hb d_C_has_12 rfl (lv_at hl 2 rfl) ?_
  refine lv_iload_n hx hb d_C_has_13 rfl (lv_at hl 3 rfl) ?_
  refine g_ci w (g_runV (As := [.int (iN (i))]) (rest := []) X w (c_R_y l hor hr (by unfold i3; omega)) k_R_y v_R_y lk_C_57 hor.1 hr.2.1 rfl ⟨(Nat.le_of_ble_eq_true rfl), (Nat.le_of_ble_eq_true rfl)⟩ rfl hl.1 rfl (Nat.le_of_ble_eq_true rfl) d_C_has_14 ⟨Nat.zero_le _, Nat.zero_le _⟩) (fun r u H locs hp w => ?_)
  obtain ⟨rfl, rfl⟩ := hp
  have w : gw D (gA L sz) s.heap H locs L f := w
  refine ri_i2l (a := (pY P i)) hx hb d_C_has_17 rfl (by have := hB i; unfold i3; omega) ?_
  refine lv_aload_n hx hb d_C_has_18 rfl (lv_at hl 1 rfl) ?_
  refine gk_get X w ha he rfl in_C 1 (by decide) lk_C_13 rfl d_C_has_19 ?_
  refine rj_sub (a := (pY P i)) (b := py) hx hb d_C_has_22 rfl rfl ?_
  refine lv_lstore (lv' := [(5, .long (jN (((pY P i) - py)))), (3, .long (jN (((pX P i) - px)))), (0, .ref a), (1, .ref r0), (2, .int (iN (i)))]) hx hb d_C_has_23 hl (by decide) rfl (fun ls hl => ?_)
  refine lv_lload_n hx hb d_C_has_25 rfl (lv_at hl 1 rfl) ?_
  refine lv_lload_n hx hb d_C_has_26 rfl (lv_at hl 1 rfl) ?_
  refine rj_mul (a := ((pX P i) - px)) (b := ((pX P i) - px)) hx hb d_C_has_27 rfl rfl ?_
  refine lv_lload hx hb d_C_has_28 (lv_at hl 0 rfl) ?_
  refine lv_lload hx hb d_C_has_30 (lv_at hl 0 rfl) ?_
  refine rj_mul (a := ((pY P i) - py)) (b := ((pY P i) - py)) hx hb d_C_has_32 rfl rfl ?_
  refine rj_add (a := (((pX P i) - px) * ((pX P i) - px))) (b := (((pY P i) - py) * ((pY P i) - py))) hx hb d_C_has_33 rfl rfl ?_
  refine lv_aload_n hx hb d_C_has_34 rfl (lv_at hl 2 rfl) ?_
  refine gk_get X w ha he rfl in_C 4 (by decide) lk_C_22 rfl d_C_has_35 ?_
  refine rj_mul (a := ((((pX P i) - px) * ((pX P i) - px)) + (((pY P i) - py) * ((pY P i) - py)))) (b := un) hx hb d_C_has_38 rfl rfl ?_
  refine lv_ldc2 hx hb X.1.2.2.2.1 (X.1.2.2.2.2 _ lk_C_60) d_C_has_39 ?_
  refine lv_lload_n hx hb d_C_has_42 rfl (lv_at hl 1 rfl) ?_
  refine lv_aload_n hx hb d_C_has_43 rfl (lv_at hl 2 rfl) ?_
  refine gk_get X w ha he rfl in_C 2 (by decide) lk_C_16 rfl d_C_has_44 ?_
  refine rj_mul (a := ((pX P i) - px)) (b := ux) hx hb d_C_has_47 rfl rfl ?_
  refine lv_lload hx hb d_C_has_48 (lv_at hl 0 rfl) ?_
  refine lv_aload_n hx hb d_C_has_50 rfl (lv_at hl 2 rfl) ?_
  refine gk_get X w ha he rfl in_C 3 (by decide) lk_C_19 rfl d_C_has_51 ?_
  refine rj_mul (a := ((pY P i) - py)) (b := uy) hx hb d_C_has_54 rfl rfl ?_
  refine rj_add (a := (((pX P i) - px) * ux)) (b := (((pY P i) - py) * uy)) hx hb d_C_has_55 rfl rfl ?_
  refine rj_mul (a := 2) (b := ((((pX P i) - px) * ux) + (((pY P i) - py) * uy))) hx hb d_C_has_56 rfl rfl ?_
  refine rj_cgt (a := (((((pX P i) - px) * ((pX P i) - px)) + (((pY P i) - py) * ((pY P i) - py))) * un)) (b := (2 * ((((pX P i) - px) * ux) + (((pY P i) - py) * uy)))) (tgt := 65) hx hb d_C_has_57 d_C_has_58 (by decide) rfl rfl (has_b hB hcb).1 (has_b hB hcb).2 (fun c57 => ?_) (fun c57 => ?_)
  · skip
    refine lv_iconst (v := iN (0)) hx hb d_C_has_65 (by decide) ?_
    exact g_zret X w hrt hlk d_C_has_66 rfl ⟨by rw [bI_f (show ¬ cHas px py ux uy un (pX P i) (pY P i) by unfold cHas; omega)], rfl⟩
  · skip
    refine lv_iconst (v := iN (1)) hx hb d_C_has_61 (by decide) ?_
    refine lv_goto (tgt := 66) hx hb d_C_has_62 (by decide) ?_
    exact g_zret X w hrt hlk d_C_has_66 rfl ⟨by rw [bI_t (show cHas px py ux uy un (pX P i) (pY P i) by unfold cHas; omega)], rfl⟩
set_option maxHeartbeats 4000000 in
set_option maxRecDepth 100000 in
theorem c_C_shrinkTo (l : Launch) {D : va_G} {cI cR : ClassId} {L : List Nat} {f : Nat → va_E} {a : Nat} {px py ux uy un : Int} (ha : a ∈ L) (he : f a = cC px py ux uy un) {rx ry : Nat → Nat} {r0 : Nat} {P : List Pt} (hor : ro L rx ry r0) (hr : rowIs cI rx ry f r0 P) (hoo : oo rx ry a r0) (hB : pb 300 P) {i : Int} (hi : 0 ≤ i ∧ i ≤ 100) : gMv D cI cR l y_C_shrinkTo (Cond.code y_C_shrinkTo b_C_shrinkTo 3 none :: lw_g) { frames := 1, cells := 0, slots := 0, locals := 21 } [.ref a, .ref r0, .int (iN (i))] L f (fun u => u = (L, va_up f a (cC (pX P i) (pY P i) 0 0 1))) := by
  intro sz
  refine g_enter (by decide) rfl (Nat.le_of_ble_eq_true rfl) ?_
  intro p e s m below meth cd ls X hrt hlk hnm hl hsz w
  have X : gx p m cd b_C_shrinkTo 3 s _ "HullSums$Circle" D cI cR := X
  have hx := X.1.1
  have hb := X.1.2.1
  have hl : lv_has ls 3 [(0, .ref a), (1, .ref r0), (2, .int (iN (i)))] := hl
  have w : gw D (gA L sz) s.heap s.heap [] L (va_up f a (.inr (2, [.long (jN (px)), .long (jN (py)), .long (jN (ux)), .long (jN (uy)), .long (jN (un))]))) := by rw [va_same (c := .inr (2, [.long (jN (px)), .long (jN (py)), .long (jN (ux)), .long (jN (uy)), .long (jN (un))])) he]; exact w
  refine lv_aload_n hx hb d_C_shrinkTo_0 rfl (lv_at hl 0 rfl) ?_
  refine lv_aload_n hx hb d_C_shrinkTo_1 rfl (lv_at hl 1 rfl) ?_
  refine lv_iload_n hx hb d_C_shrinkTo_2 rfl (lv_at hl 2 rfl) ?_
  refine g_ci w (g_runV (As := [.int (iN (i))]) (rest := [.ref a]) X w (c_R_x l hor (rowIs_up hoo hr) (by unfold i3; omega)) k_R_x v_R_x lk_C_53 hor.1 (rowIs_up hoo hr).2.1 rfl ⟨(Nat.le_of_ble_eq_true rfl), (Nat.le_of_ble_eq_true rfl)⟩ rfl hl.1 rfl (Nat.le_of_ble_eq_true rfl) d_C_shrinkTo_3 ⟨Nat.zero_le _, Nat.zero_le _⟩) (fun r u H locs hp w => ?_)
  obtain ⟨rfl, rfl⟩ := hp
  have w : gw D (gA L sz) s.heap H locs L (va_up f a (.inr (2, [.long (jN (px)), .long (jN (py)), .long (jN (ux)), .long (jN (uy)), .long (jN (un))]))) := w
  refine ri_i2l (a := (pX P i)) hx hb d_C_shrinkTo_6 rfl (by have := hB i; unfold i3; omega) ?_
  refine gk_put X w ha (va_up_self _ _ _) rfl in_C ty_C tyok_C nm_C 0 (by decide) lk_C_7 rfl (ty := .long) (by decide +kernel) rfl rfl (Nat.le_of_ble_eq_true rfl) d_C_shrinkTo_7 (fun H locs w => ?_)
  have w : gw D (gA L sz) s.heap H locs L (va_up f a (.inr (2, [.long (jN ((pX P i))), .long (jN (py)), .long (jN (ux)), .long (jN (uy)), .long (jN (un))]))) := by rw [bx_uu] at w; exact w
  refine lv_aload_n hx hb d_C_shrinkTo_10 rfl (lv_at hl 0 rfl) ?_
  refine lv_aload_n hx hb d_C_shrinkTo_11 rfl (lv_at hl 1 rfl) ?_
  refine lv_iload_n hx hb d_C_shrinkTo_12 rfl (lv_at hl 2 rfl) ?_
  refine g_ci w (g_runV (As := [.int (iN (i))]) (rest := [.ref a]) X w (c_R_y l hor (rowIs_up hoo hr) (by unfold i3; omega)) k_R_y v_R_y lk_C_57 hor.1 (rowIs_up hoo hr).2.1 rfl ⟨(Nat.le_of_ble_eq_true rfl), (Nat.le_of_ble_eq_true rfl)⟩ rfl hl.1 rfl (Nat.le_of_ble_eq_true rfl) d_C_shrinkTo_13 ⟨Nat.zero_le _, Nat.zero_le _⟩) (fun r u H locs hp w => ?_)
  obtain ⟨rfl, rfl⟩ := hp
  have w : gw D (gA L sz) s.heap H locs L (va_up f a (.inr (2, [.long (jN ((pX P i))), .long (jN (py)), .long (jN (ux)), .long (jN (uy)), .long (jN (un))]))) := w
  refine ri_i2l (a := (pY P i)) hx hb d_C_shrinkTo_16 rfl (by have := hB i; unfold i3; omega) ?_
  refine gk_put X w ha (va_up_self _ _ _) rfl in_C ty_C tyok_C nm_C 1 (by decide) lk_C_13 rfl (ty := .long) (by decide +kernel) rfl rfl (Nat.le_of_ble_eq_true rfl) d_C_shrinkTo_17 (fun H locs w => ?_)
  have w : gw D (gA L sz) s.heap H locs L (va_up f a (.inr (2, [.long (jN ((pX P i))), .long (jN ((pY P i))), .long (jN (ux)), .long (jN (uy)), .long (jN (un))]))) := by rw [bx_uu] at w; exact w
  refine lv_aload_n hx hb d_C_shrinkTo_20 rfl (lv_at hl 0 rfl) ?_
  refine lv_lconst (v := jN (0)) hx hb d_C_shrinkTo_21 (by decide) ?_
  refine gk_put X w ha (va_up_self _ _ _) rfl in_C ty_C tyok_C nm_C 2 (by decide) lk_C_16 rfl (ty := .long) (by decide +kernel) rfl rfl (Nat.le_of_ble_eq_true rfl) d_C_shrinkTo_22 (fun H locs w => ?_)
  have w : gw D (gA L sz) s.heap H locs L (va_up f a (.inr (2, [.long (jN ((pX P i))), .long (jN ((pY P i))), .long (jN (0)), .long (jN (uy)), .long (jN (un))]))) := by rw [bx_uu] at w; exact w
  refine lv_aload_n hx hb d_C_shrinkTo_25 rfl (lv_at hl 0 rfl) ?_
  refine lv_lconst (v := jN (0)) hx hb d_C_shrinkTo_26 (by decide) ?_
  refine gk_put X w ha (va_up_self _ _ _) rfl in_C ty_C tyok_C nm_C 3 (by decide) lk_C_19 rfl (ty := .long) (by decide +kernel) rfl rfl (Nat.le_of_ble_eq_true rfl) d_C_shrinkTo_27 (fun H locs w => ?_)
  have w : gw D (gA L sz) s.heap H locs L (va_up f a (.inr (2, [.long (jN ((pX P i))), .long (jN ((pY P i))), .long (jN (0)), .long (jN (0)), .long (jN (un))]))) := by rw [bx_uu] at w; exact w
  refine lv_aload_n hx hb d_C_shrinkTo_30 rfl (lv_at hl 0 rfl) ?_
  refine lv_lconst (v := jN (1)) hx hb d_C_shrinkTo_31 (by decide) ?_
  refine gk_put X w ha (va_up_self _ _ _) rfl in_C ty_C tyok_C nm_C 4 (by decide) lk_C_22 rfl (ty := .long) (by decide +kernel) rfl rfl (Nat.le_of_ble_eq_true rfl) d_C_shrinkTo_32 (fun H locs w => ?_)
  have w : gw D (gA L sz) s.heap H locs L (va_up f a (.inr (2, [.long (jN ((pX P i))), .long (jN ((pY P i))), .long (jN (0)), .long (jN (0)), .long (jN (1))]))) := by rw [bx_uu] at w; exact w
  exact g_vret X w hrt hlk d_C_shrinkTo_35 rfl
set_option maxHeartbeats 4000000 in
set_option maxRecDepth 100000 in
theorem c_C_spanAcross (l : Launch) {D : va_G} {cI cR : ClassId} {L : List Nat} {f : Nat → va_E} {a : Nat} {px py ux uy un : Int} (ha : a ∈ L) (he : f a = cC px py ux uy un) {rx ry : Nat → Nat} {r0 : Nat} {P : List Pt} (hor : ro L rx ry r0) (hr : rowIs cI rx ry f r0 P) (hoo : oo rx ry a r0) (hB : pb 300 P) {i : Int} (hi : 0 ≤ i ∧ i ≤ 100) {j : Int} (hj : 0 ≤ j ∧ j ≤ 100) : gMv D cI cR l y_C_spanAcross (Cond.code y_C_spanAcross b_C_spanAcross 4 none :: lw_g) { frames := 1, cells := 0, slots := 0, locals := 21 } [.ref a, .ref r0, .int (iN (i)), .int (iN (j))] L f (fun u => u = (L, va_up f a (cC (pX P i) (pY P i) (pX P j - pX P i) (pY P j - pY P i) 2))) := by
  intro sz
  refine g_enter (by decide) rfl (Nat.le_of_ble_eq_true rfl) ?_
  intro p e s m below meth cd ls X hrt hlk hnm hl hsz w
  have X : gx p m cd b_C_spanAcross 4 s _ "HullSums$Circle" D cI cR := X
  have hx := X.1.1
  have hb := X.1.2.1
  have hl : lv_has ls 4 [(0, .ref a), (1, .ref r0), (2, .int (iN (i))), (3, .int (iN (j)))] := hl
  have w : gw D (gA L sz) s.heap s.heap [] L (va_up f a (.inr (2, [.long (jN (px)), .long (jN (py)), .long (jN (ux)), .long (jN (uy)), .long (jN (un))]))) := by rw [va_same (c := .inr (2, [.long (jN (px)), .long (jN (py)), .long (jN (ux)), .long (jN (uy)), .long (jN (un))])) he]; exact w
  refine lv_aload_n hx hb d_C_spanAcross_0 rfl (lv_at hl 0 rfl) ?_
  refine lv_aload_n hx hb d_C_spanAcross_1 rfl (lv_at hl 1 rfl) ?_
  refine lv_iload_n hx hb d_C_spanAcross_2 rfl (lv_at hl 2 rfl) ?_
  refine g_ci w (g_runV (As := [.int (iN (i))]) (rest := [.ref a]) X w (c_R_x l hor (rowIs_up hoo hr) (by unfold i3; omega)) k_R_x v_R_x lk_C_53 hor.1 (rowIs_up hoo hr).2.1 rfl ⟨(Nat.le_of_ble_eq_true rfl), (Nat.le_of_ble_eq_true rfl)⟩ rfl hl.1 rfl (Nat.le_of_ble_eq_true rfl) d_C_spanAcross_3 ⟨Nat.zero_le _, Nat.zero_le _⟩) (fun r u H locs hp w => ?_)
  obtain ⟨rfl, rfl⟩ := hp
  have w : gw D (gA L sz) s.heap H locs L (va_up f a (.inr (2, [.long (jN (px)), .long (jN (py)), .long (jN (ux)), .long (jN (uy)), .long (jN (un))]))) := w
  refine ri_i2l (a := (pX P i)) hx hb d_C_spanAcross_6 rfl (by have := hB i; have := hB j; unfold i3; omega) ?_
  refine gk_put X w ha (va_up_self _ _ _) rfl in_C ty_C tyok_C nm_C 0 (by decide) lk_C_7 rfl (ty := .long) (by decide +kernel) rfl rfl (Nat.le_of_ble_eq_true rfl) d_C_spanAcross_7 (fun H locs w => ?_)
  have w : gw D (gA L sz) s.heap H locs L (va_up f a (.inr (2, [.long (jN ((pX P i))), .long (jN (py)), .long (jN (ux)), .long (jN (uy)), .long (jN (un))]))) := by rw [bx_uu] at w; exact w
  refine lv_aload_n hx hb d_C_spanAcross_10 rfl (lv_at hl 0 rfl) ?_
  refine lv_aload_n hx hb d_C_spanAcross_11 rfl (lv_at hl 1 rfl) ?_
  refine lv_iload_n hx hb d_C_spanAcross_12 rfl (lv_at hl 2 rfl) ?_
  refine g_ci w (g_runV (As := [.int (iN (i))]) (rest := [.ref a]) X w (c_R_y l hor (rowIs_up hoo hr) (by unfold i3; omega)) k_R_y v_R_y lk_C_57 hor.1 (rowIs_up hoo hr).2.1 rfl ⟨(Nat.le_of_ble_eq_true rfl), (Nat.le_of_ble_eq_true rfl)⟩ rfl hl.1 rfl (Nat.le_of_ble_eq_true rfl) d_C_spanAcross_13 ⟨Nat.zero_le _, Nat.zero_le _⟩) (fun r u H locs hp w => ?_)
  obtain ⟨rfl, rfl⟩ := hp
  have w : gw D (gA L sz) s.heap H locs L (va_up f a (.inr (2, [.long (jN ((pX P i))), .long (jN (py)), .long (jN (ux)), .long (jN (uy)), .long (jN (un))]))) := w
  refine ri_i2l (a := (pY P i)) hx hb d_C_spanAcross_16 rfl (by have := hB i; have := hB j; unfold i3; omega) ?_
  refine gk_put X w ha (va_up_self _ _ _) rfl in_C ty_C tyok_C nm_C 1 (by decide) lk_C_13 rfl (ty := .long) (by decide +kernel) rfl rfl (Nat.le_of_ble_eq_true rfl) d_C_spanAcross_17 (fun H locs w => ?_)
  have w : gw D (gA L sz) s.heap H locs L (va_up f a (.inr (2, [.long (jN ((pX P i))), .long (jN ((pY P i))), .long (jN (ux)), .long (jN (uy)), .long (jN (un))]))) := by rw [bx_uu] at w; exact w
  refine lv_aload_n hx hb d_C_spanAcross_20 rfl (lv_at hl 0 rfl) ?_
  refine lv_aload_n hx hb d_C_spanAcross_21 rfl (lv_at hl 1 rfl) ?_
  refine lv_iload_n hx hb d_C_spanAcross_22 rfl (lv_at hl 3 rfl) ?_
  refine g_ci w (g_runV (As := [.int (iN (j))]) (rest := [.ref a]) X w (c_R_x l hor (rowIs_up hoo hr) (by unfold i3; omega)) k_R_x v_R_x lk_C_53 hor.1 (rowIs_up hoo hr).2.1 rfl ⟨(Nat.le_of_ble_eq_true rfl), (Nat.le_of_ble_eq_true rfl)⟩ rfl hl.1 rfl (Nat.le_of_ble_eq_true rfl) d_C_spanAcross_23 ⟨Nat.zero_le _, Nat.zero_le _⟩) (fun r u H locs hp w => ?_)
  obtain ⟨rfl, rfl⟩ := hp
  have w : gw D (gA L sz) s.heap H locs L (va_up f a (.inr (2, [.long (jN ((pX P i))), .long (jN ((pY P i))), .long (jN (ux)), .long (jN (uy)), .long (jN (un))]))) := w
  refine ri_i2l (a := (pX P j)) hx hb d_C_spanAcross_26 rfl (by have := hB i; have := hB j; unfold i3; omega) ?_
  refine lv_aload_n hx hb d_C_spanAcross_27 rfl (lv_at hl 0 rfl) ?_
  refine gk_get X w ha (va_up_self _ _ _) rfl in_C 0 (by decide) lk_C_7 rfl d_C_spanAcross_28 ?_
  refine rj_sub (a := (pX P j)) (b := (pX P i)) hx hb d_C_spanAcross_31 rfl rfl ?_
  refine gk_put X w ha (va_up_self _ _ _) rfl in_C ty_C tyok_C nm_C 2 (by decide) lk_C_16 rfl (ty := .long) (by decide +kernel) rfl rfl (Nat.le_of_ble_eq_true rfl) d_C_spanAcross_32 (fun H locs w => ?_)
  have w : gw D (gA L sz) s.heap H locs L (va_up f a (.inr (2, [.long (jN ((pX P i))), .long (jN ((pY P i))), .long (jN (((pX P j) - (pX P i)))), .long (jN (uy)), .long (jN (un))]))) := by rw [bx_uu] at w; exact w
  refine lv_aload_n hx hb d_C_spanAcross_35 rfl (lv_at hl 0 rfl) ?_
  refine lv_aload_n hx hb d_C_spanAcross_36 rfl (lv_at hl 1 rfl) ?_
  refine lv_iload_n hx hb d_C_spanAcross_37 rfl (lv_at hl 3 rfl) ?_
  refine g_ci w (g_runV (As := [.int (iN (j))]) (rest := [.ref a]) X w (c_R_y l hor (rowIs_up hoo hr) (by unfold i3; omega)) k_R_y v_R_y lk_C_57 hor.1 (rowIs_up hoo hr).2.1 rfl ⟨(Nat.le_of_ble_eq_true rfl), (Nat.le_of_ble_eq_true rfl)⟩ rfl hl.1 rfl (Nat.le_of_ble_eq_true rfl) d_C_spanAcross_38 ⟨Nat.zero_le _, Nat.zero_le _⟩) (fun r u H locs hp w => ?_)
  obtain ⟨rfl, rfl⟩ := hp
  have w : gw D (gA L sz) s.heap H locs L (va_up f a (.inr (2, [.long (jN ((pX P i))), .long (jN ((pY P i))), .long (jN (((pX P j) - (pX P i)))), .long (jN (uy)), .long (jN (un))]))) := w
  refine ri_i2l (a := (pY P j)) hx hb d_C_spanAcross_41 rfl (by have := hB i; have := hB j; unfold i3; omega) ?_
  refine lv_aload_n hx hb d_C_spanAcross_42 rfl (lv_at hl 0 rfl) ?_
  refine gk_get X w ha (va_up_self _ _ _) rfl in_C 1 (by decide) lk_C_13 rfl d_C_spanAcross_43 ?_
  refine rj_sub (a := (pY P j)) (b := (pY P i)) hx hb d_C_spanAcross_46 rfl rfl ?_
  refine gk_put X w ha (va_up_self _ _ _) rfl in_C ty_C tyok_C nm_C 3 (by decide) lk_C_19 rfl (ty := .long) (by decide +kernel) rfl rfl (Nat.le_of_ble_eq_true rfl) d_C_spanAcross_47 (fun H locs w => ?_)
  have w : gw D (gA L sz) s.heap H locs L (va_up f a (.inr (2, [.long (jN ((pX P i))), .long (jN ((pY P i))), .long (jN (((pX P j) - (pX P i)))), .long (jN (((pY P j) - (pY P i)))), .long (jN (un))]))) := by rw [bx_uu] at w; exact w
  refine lv_aload_n hx hb d_C_spanAcross_50 rfl (lv_at hl 0 rfl) ?_
  refine lv_ldc2 hx hb X.1.2.2.2.1 (X.1.2.2.2.2 _ lk_C_60) d_C_spanAcross_51 ?_
  refine gk_put X w ha (va_up_self _ _ _) rfl in_C ty_C tyok_C nm_C 4 (by decide) lk_C_22 rfl (ty := .long) (by decide +kernel) rfl rfl (Nat.le_of_ble_eq_true rfl) d_C_spanAcross_54 (fun H locs w => ?_)
  have w : gw D (gA L sz) s.heap H locs L (va_up f a (.inr (2, [.long (jN ((pX P i))), .long (jN ((pY P i))), .long (jN (((pX P j) - (pX P i)))), .long (jN (((pY P j) - (pY P i)))), .long (jN (2))]))) := by rw [bx_uu] at w; exact w
  exact g_vret X w hrt hlk d_C_spanAcross_57 rfl
def twi (P : List Pt) (i j k : Int) : Int := (pX P j - pX P i) * (pY P k - pY P i) - (pY P j - pY P i) * (pX P k - pX P i)
def sgn (z : Int) : Int := if z < 0 then -1 else 1
def psx (P : List Pt) (i j k : Int) : Int := (pY P k - pY P i) * ((pX P j - pX P i) * (pX P j - pX P i) + (pY P j - pY P i) * (pY P j - pY P i)) - (pY P j - pY P i) * ((pX P k - pX P i) * (pX P k - pX P i) + (pY P k - pY P i) * (pY P k - pY P i))
def psy (P : List Pt) (i j k : Int) : Int := (pX P j - pX P i) * ((pX P k - pX P i) * (pX P k - pX P i) + (pY P k - pY P i) * (pY P k - pY P i)) - (pX P k - pX P i) * ((pX P j - pX P i) * (pX P j - pX P i) + (pY P j - pY P i) * (pY P j - pY P i))
theorem pass_b {P : List Pt} (hB : pb 300 P) (i j k : Int) : (-720000 ≤ twi P i j k ∧ twi P i j k ≤ 720000) ∧ (-864000000 ≤ psx P i j k ∧ psx P i j k ≤ 864000000) ∧ (-864000000 ≤ psy P i j k ∧ psy P i j k ≤ 864000000) := by
  have a := hB i; have b := hB j; have c := hB k
  have q1 := mbc (a := pX P j - pX P i) (b := pX P j - pX P i) 600 600 360000 (by omega) (by omega) (by omega) (by omega) (by decide)
  have q2 := mbc (a := pY P j - pY P i) (b := pY P j - pY P i) 600 600 360000 (by omega) (by omega) (by omega) (by omega) (by decide)
  have q3 := mbc (a := pX P k - pX P i) (b := pX P k - pX P i) 600 600 360000 (by omega) (by omega) (by omega) (by omega) (by decide)
  have q4 := mbc (a := pY P k - pY P i) (b := pY P k - pY P i) 600 600 360000 (by omega) (by omega) (by omega) (by omega) (by decide)
  have q5 := mbc (a := pX P j - pX P i) (b := pY P k - pY P i) 600 600 360000 (by omega) (by omega) (by omega) (by omega) (by decide)
  have q6 := mbc (a := pY P j - pY P i) (b := pX P k - pX P i) 600 600 360000 (by omega) (by omega) (by omega) (by omega) (by decide)
  have q7 := mbc (a := pY P k - pY P i) (b := (pX P j - pX P i) * (pX P j - pX P i) + (pY P j - pY P i) * (pY P j - pY P i)) 600 720000 432000000 (by omega) (by omega) (by omega) (by omega) (by decide)
  have q8 := mbc (a := pY P j - pY P i) (b := (pX P k - pX P i) * (pX P k - pX P i) + (pY P k - pY P i) * (pY P k - pY P i)) 600 720000 432000000 (by omega) (by omega) (by omega) (by omega) (by decide)
  have q9 := mbc (a := pX P j - pX P i) (b := (pX P k - pX P i) * (pX P k - pX P i) + (pY P k - pY P i) * (pY P k - pY P i)) 600 720000 432000000 (by omega) (by omega) (by omega) (by omega) (by decide)
  have q10 := mbc (a := pX P k - pX P i) (b := (pX P j - pX P i) * (pX P j - pX P i) + (pY P j - pY P i) * (pY P j - pY P i)) 600 720000 432000000 (by omega) (by omega) (by omega) (by omega) (by decide)
  unfold twi psx psy; omega
set_option maxHeartbeats 4000000 in
set_option maxRecDepth 100000 in
theorem c_C_passThrough (l : Launch) {D : va_G} {cI cR : ClassId} {L : List Nat} {f : Nat → va_E} {a : Nat} {px py ux uy un : Int} (ha : a ∈ L) (he : f a = cC px py ux uy un) {rx ry : Nat → Nat} {r0 : Nat} {P : List Pt} (hor : ro L rx ry r0) (hr : rowIs cI rx ry f r0 P) (hoo : oo rx ry a r0) (hB : pb 300 P) {i : Int} (hi : 0 ≤ i ∧ i ≤ 100) {j : Int} (hj : 0 ≤ j ∧ j ≤ 100) {k : Int} (hk : 0 ≤ k ∧ k ≤ 100) : gMv D cI cR l y_C_passThrough (Cond.code y_C_passThrough b_C_passThrough 21 none :: lw_g) { frames := 1, cells := 0, slots := 0, locals := 21 } [.ref a, .ref r0, .int (iN (i)), .int (iN (j)), .int (iN (k))] L f (fun u => u = (L, va_up f a (cC (pX P i) (pY P i) (sgn (twi P i j k) * psx P i j k) (sgn (twi P i j k) * psy P i j k) (sgn (twi P i j k) * 2 * twi P i j k)))) := by
  intro sz
  refine g_enter (by decide) rfl (Nat.le_of_ble_eq_true rfl) ?_
  intro p e s m below meth cd ls X hrt hlk hnm hl hsz w
  have X : gx p m cd b_C_passThrough 21 s _ "HullSums$Circle" D cI cR := X
  have hx := X.1.1
  have hb := X.1.2.1
  have hl : lv_has ls 21 [(0, .ref a), (1, .ref r0), (2, .int (iN (i))), (3, .int (iN (j))), (4, .int (iN (k)))] := hl
  have w : gw D (gA L sz) s.heap s.heap [] L (va_up f a (.inr (2, [.long (jN (px)), .long (jN (py)), .long (jN (ux)), .long (jN (uy)), .long (jN (un))]))) := by rw [va_same (c := .inr (2, [.long (jN (px)), .long (jN (py)), .long (jN (ux)), .long (jN (uy)), .long (jN (un))])) he]; exact w
  refine lv_aload_n hx hb d_C_passThrough_0 rfl (lv_at hl 0 rfl) ?_
  refine lv_aload_n hx hb d_C_passThrough_1 rfl (lv_at hl 1 rfl) ?_
  refine lv_iload_n hx hb d_C_passThrough_2 rfl (lv_at hl 2 rfl) ?_
  refine g_ci w (g_runV (As := [.int (iN (i))]) (rest := [.ref a]) X w (c_R_x l hor (rowIs_up hoo hr) (by unfold i3; omega)) k_R_x v_R_x lk_C_53 hor.1 (rowIs_up hoo hr).2.1 rfl ⟨(Nat.le_of_ble_eq_true rfl), (Nat.le_of_ble_eq_true rfl)⟩ rfl hl.1 rfl (Nat.le_of_ble_eq_true rfl) d_C_passThrough_3 ⟨Nat.zero_le _, Nat.zero_le _⟩) (fun r u H locs hp w => ?_)
  obtain ⟨rfl, rfl⟩ := hp
  have w : gw D (gA L sz) s.heap H locs L (va_up f a (.inr (2, [.long (jN (px)), .long (jN (py)), .long (jN (ux)), .long (jN (uy)), .long (jN (un))]))) := w
  refine ri_i2l (a := (pX P i)) hx hb d_C_passThrough_6 rfl (by have := hB i; have := hB j; have := hB k; unfold i3; omega) ?_
  refine gk_put X w ha (va_up_self _ _ _) rfl in_C ty_C tyok_C nm_C 0 (by decide) lk_C_7 rfl (ty := .long) (by decide +kernel) rfl rfl (Nat.le_of_ble_eq_true rfl) d_C_passThrough_7 (fun H locs w => ?_)
  have w : gw D (gA L sz) s.heap H locs L (va_up f a (.inr (2, [.long (jN ((pX P i))), .long (jN (py)), .long (jN (ux)), .long (jN (uy)), .long (jN (un))]))) := by rw [bx_uu] at w; exact w
  refine lv_aload_n hx hb d_C_passThrough_10 rfl (lv_at hl 0 rfl) ?_
  refine lv_aload_n hx hb d_C_passThrough_11 rfl (lv_at hl 1 rfl) ?_
  refine lv_iload_n hx hb d_C_passThrough_12 rfl (lv_at hl 2 rfl) ?_
  refine g_ci w (g_runV (As := [.int (iN (i))]) (rest := [.ref a]) X w (c_R_y l hor (rowIs_up hoo hr) (by unfold i3; omega)) k_R_y v_R_y lk_C_57 hor.1 (rowIs_up hoo hr).2.1 rfl ⟨(Nat.le_of_ble_eq_true rfl), (Nat.le_of_ble_eq_true rfl)⟩ rfl hl.1 rfl (Nat.le_of_ble_eq_true rfl) d_C_passThrough_13 ⟨Nat.zero_le _, Nat.zero_le _⟩) (fun r u H locs hp w => ?_)
  obtain ⟨rfl, rfl⟩ := hp
  have w : gw D (gA L sz) s.heap H locs L (va_up f a (.inr (2, [.long (jN ((pX P i))), .long (jN (py)), .long (jN (ux)), .long (jN (uy)), .long (jN (un))]))) := w
  refine ri_i2l (a := (pY P i)) hx hb d_C_passThrough_16 rfl (by have := hB i; have := hB j; have := hB k; unfold i3; omega) ?_
  refine gk_put X w ha (va_up_self _ _ _) rfl in_C ty_C tyok_C nm_C 1 (by decide) lk_C_13 rfl (ty := .long) (by decide +kernel) rfl rfl (Nat.le_of_ble_eq_true rfl) d_C_passThrough_17 (fun H locs w => ?_)
  have w : gw D (gA L sz) s.heap H locs L (va_up f a (.inr (2, [.long (jN ((pX P i))), .long (jN ((pY P i))), .long (jN (ux)), .long (jN (uy)), .long (jN (un))]))) := by rw [bx_uu] at w; exact w
  refine lv_aload_n hx hb d_C_passThrough_20 rfl (lv_at hl 1 rfl) ?_
  refine lv_iload_n hx hb d_C_passThrough_21 rfl (lv_at hl 3 rfl) ?_
  refine g_ci w (g_runV (As := [.int (iN (j))]) (rest := []) X w (c_R_x l hor (rowIs_up hoo hr) (by unfold i3; omega)) k_R_x v_R_x lk_C_53 hor.1 (rowIs_up hoo hr).2.1 rfl ⟨(Nat.le_of_ble_eq_true rfl), (Nat.le_of_ble_eq_true rfl)⟩ rfl hl.1 rfl (Nat.le_of_ble_eq_true rfl) d_C_passThrough_22 ⟨Nat.zero_le _, Nat.zero_le _⟩) (fun r u H locs hp w => ?_)
  obtain ⟨rfl, rfl⟩ := hp
  have w : gw D (gA L sz) s.heap H locs L (va_up f a (.inr (2, [.long (jN ((pX P i))), .long (jN ((pY P i))), .long (jN (ux)), .long (jN (uy)), .long (jN (un))]))) := w
  refine ri_i2l (a := (pX P j)) hx hb d_C_passThrough_25 rfl (by have := hB i; have := hB j; have := hB k; unfold i3; omega) ?_
  refine lv_aload_n hx hb d_C_passThrough_26 rfl (lv_at hl 0 rfl) ?_
  refine gk_get X w ha (va_up_self _ _ _) rfl in_C 0 (by decide) lk_C_7 rfl d_C_passThrough_27 ?_
  refine rj_sub (a := (pX P j)) (b := (pX P i)) hx hb d_C_passThrough_30 rfl rfl ?_
  refine lv_lstore (lv' := [(5, .long (jN (((pX P j) - (pX P i))))), (0, .ref a), (1, .ref r0), (2, .int (iN (i))), (3, .int (iN (j))), (4, .int (iN (k)))]) hx hb d_C_passThrough_31 hl (by decide) rfl (fun ls hl => ?_)
  refine lv_aload_n hx hb d_C_passThrough_33 rfl (lv_at hl 2 rfl) ?_
  refine lv_iload_n hx hb d_C_passThrough_34 rfl (lv_at hl 4 rfl) ?_
  refine g_ci w (g_runV (As := [.int (iN (j))]) (rest := []) X w (c_R_y l hor (rowIs_up hoo hr) (by unfold i3; omega)) k_R_y v_R_y lk_C_57 hor.1 (rowIs_up hoo hr).2.1 rfl ⟨(Nat.le_of_ble_eq_true rfl), (Nat.le_of_ble_eq_true rfl)⟩ rfl hl.1 rfl (Nat.le_of_ble_eq_true rfl) d_C_passThrough_35 ⟨Nat.zero_le _, Nat.zero_le _⟩) (fun r u H locs hp w => ?_)
  obtain ⟨rfl, rfl⟩ := hp
  have w : gw D (gA L sz) s.heap H locs L (va_up f a (.inr (2, [.long (jN ((pX P i))), .long (jN ((pY P i))), .long (jN (ux)), .long (jN (uy)), .long (jN (un))]))) := w
  refine ri_i2l (a := (pY P j)) hx hb d_C_passThrough_38 rfl (by have := hB i; have := hB j; have := hB k; unfold i3; omega) ?_
  refine lv_aload_n hx hb d_C_passThrough_39 rfl (lv_at hl 1 rfl) ?_
  refine gk_get X w ha (va_up_self _ _ _) rfl in_C 1 (by decide) lk_C_13 rfl d_C_passThrough_40 ?_
  refine rj_sub (a := (pY P j)) (b := (pY P i)) hx hb d_C_passThrough_43 rfl rfl ?_
  refine lv_lstore (lv' := [(7, .long (jN (((pY P j) - (pY P i))))), (5, .long (jN (((pX P j) - (pX P i))))), (0, .ref a), (1, .ref r0), (2, .int (iN (i))), (3, .int (iN (j))), (4, .int (iN (k)))]) hx hb d_C_passThrough_44 hl (by decide) rfl (fun ls hl => ?_)
  refine lv_aload_n hx hb d_C_passThrough_46 rfl (lv_at hl 3 rfl) ?_
  refine lv_iload hx hb d_C_passThrough_47 (lv_at hl 6 rfl) ?_
  refine g_ci w (g_runV (As := [.int (iN (k))]) (rest := []) X w (c_R_x l hor (rowIs_up hoo hr) (by unfold i3; omega)) k_R_x v_R_x lk_C_53 hor.1 (rowIs_up hoo hr).2.1 rfl ⟨(Nat.le_of_ble_eq_true rfl), (Nat.le_of_ble_eq_true rfl)⟩ rfl hl.1 rfl (Nat.le_of_ble_eq_true rfl) d_C_passThrough_49 ⟨Nat.zero_le _, Nat.zero_le _⟩) (fun r u H locs hp w => ?_)
  obtain ⟨rfl, rfl⟩ := hp
  have w : gw D (gA L sz) s.heap H locs L (va_up f a (.inr (2, [.long (jN ((pX P i))), .long (jN ((pY P i))), .long (jN (ux)), .long (jN (uy)), .long (jN (un))]))) := w
  refine ri_i2l (a := (pX P k)) hx hb d_C_passThrough_52 rfl (by have := hB i; have := hB j; have := hB k; unfold i3; omega) ?_
  refine lv_aload_n hx hb d_C_passThrough_53 rfl (lv_at hl 2 rfl) ?_
  refine gk_get X w ha (va_up_self _ _ _) rfl in_C 0 (by decide) lk_C_7 rfl d_C_passThrough_54 ?_
  refine rj_sub (a := (pX P k)) (b := (pX P i)) hx hb d_C_passThrough_57 rfl rfl ?_
  refine lv_lstore (lv' := [(9, .long (jN (((pX P k) - (pX P i))))), (7, .long (jN (((pY P j) - (pY P i))))), (5, .long (jN (((pX P j) - (pX P i))))), (0, .ref a), (1, .ref r0), (2, .int (iN (i))), (3, .int (iN (j))), (4, .int (iN (k)))]) hx hb d_C_passThrough_58 hl (by decide) rfl (fun ls hl => ?_)
  refine lv_aload_n hx hb d_C_passThrough_60 rfl (lv_at hl 4 rfl) ?_
  refine lv_iload hx hb d_C_passThrough_61 (lv_at hl 7 rfl) ?_
  refine g_ci w (g_runV (As := [.int (iN (k))]) (rest := []) X w (c_R_y l hor (rowIs_up hoo hr) (by unfold i3; omega)) k_R_y v_R_y lk_C_57 hor.1 (rowIs_up hoo hr).2.1 rfl ⟨(Nat.le_of_ble_eq_true rfl), (Nat.le_of_ble_eq_true rfl)⟩ rfl hl.1 rfl (Nat.le_of_ble_eq_true rfl) d_C_passThrough_63 ⟨Nat.zero_le _, Nat.zero_le _⟩) (fun r u H locs hp w => ?_)
  obtain ⟨rfl, rfl⟩ := hp
  have w : gw D (gA L sz) s.heap H locs L (va_up f a (.inr (2, [.long (jN ((pX P i))), .long (jN ((pY P i))), .long (jN (ux)), .long (jN (uy)), .long (jN (un))]))) := w
  refine ri_i2l (a := (pY P k)) hx hb d_C_passThrough_66 rfl (by have := hB i; have := hB j; have := hB k; unfold i3; omega) ?_
  refine lv_aload_n hx hb d_C_passThrough_67 rfl (lv_at hl 3 rfl) ?_
  refine gk_get X w ha (va_up_self _ _ _) rfl in_C 1 (by decide) lk_C_13 rfl d_C_passThrough_68 ?_
  refine rj_sub (a := (pY P k)) (b := (pY P i)) hx hb d_C_passThrough_71 rfl rfl ?_
  refine lv_lstore (lv' := [(11, .long (jN (((pY P k) - (pY P i))))), (9, .long (jN (((pX P k) - (pX P i))))), (7, .long (jN (((pY P j) - (pY P i))))), (5, .long (jN (((pX P j) - (pX P i))))), (0, .ref a), (1, .ref r0), (2, .int (iN (i))), (3, .int (iN (j))), (4, .int (iN (k)))]) hx hb d_C_passThrough_72 hl (by decide) rfl (fun ls hl => ?_)
  refine lv_lload hx hb d_C_passThrough_74 (lv_at hl 3 rfl) ?_
  refine lv_lload hx hb d_C_passThrough_76 (lv_at hl 3 rfl) ?_
  refine rj_mul (a := ((pX P j) - (pX P i))) (b := ((pX P j) - (pX P i))) hx hb d_C_passThrough_78 rfl rfl ?_
  refine lv_lload hx hb d_C_passThrough_79 (lv_at hl 2 rfl) ?_
  refine lv_lload hx hb d_C_passThrough_81 (lv_at hl 2 rfl) ?_
  refine rj_mul (a := ((pY P j) - (pY P i))) (b := ((pY P j) - (pY P i))) hx hb d_C_passThrough_83 rfl rfl ?_
  refine rj_add (a := (((pX P j) - (pX P i)) * ((pX P j) - (pX P i)))) (b := (((pY P j) - (pY P i)) * ((pY P j) - (pY P i)))) hx hb d_C_passThrough_84 rfl rfl ?_
  refine lv_lstore (lv' := [(13, .long (jN (((((pX P j) - (pX P i)) * ((pX P j) - (pX P i))) + (((pY P j) - (pY P i)) * ((pY P j) - (pY P i))))))), (11, .long (jN (((pY P k) - (pY P i))))), (9, .long (jN (((pX P k) - (pX P i))))), (7, .long (jN (((pY P j) - (pY P i))))), (5, .long (jN (((pX P j) - (pX P i))))), (0, .ref a), (1, .ref r0), (2, .int (iN (i))), (3, .int (iN (j))), (4, .int (iN (k)))]) hx hb d_C_passThrough_85 hl (by decide) rfl (fun ls hl => ?_)
  refine lv_lload hx hb d_C_passThrough_87 (lv_at hl 2 rfl) ?_
  refine lv_lload hx hb d_C_passThrough_89 (lv_at hl 2 rfl) ?_
  refine rj_mul (a := ((pX P k) - (pX P i))) (b := ((pX P k) - (pX P i))) hx hb d_C_passThrough_91 rfl rfl ?_
  refine lv_lload hx hb d_C_passThrough_92 (lv_at hl 1 rfl) ?_
  refine lv_lload hx hb d_C_passThrough_94 (lv_at hl 1 rfl) ?_
  refine rj_mul (a := ((pY P k) - (pY P i))) (b := ((pY P k) - (pY P i))) hx hb d_C_passThrough_96 rfl rfl ?_
  refine rj_add (a := (((pX P k) - (pX P i)) * ((pX P k) - (pX P i)))) (b := (((pY P k) - (pY P i)) * ((pY P k) - (pY P i)))) hx hb d_C_passThrough_97 rfl rfl ?_
  refine lv_lstore (lv' := [(15, .long (jN (((((pX P k) - (pX P i)) * ((pX P k) - (pX P i))) + (((pY P k) - (pY P i)) * ((pY P k) - (pY P i))))))), (13, .long (jN (((((pX P j) - (pX P i)) * ((pX P j) - (pX P i))) + (((pY P j) - (pY P i)) * ((pY P j) - (pY P i))))))), (11, .long (jN (((pY P k) - (pY P i))))), (9, .long (jN (((pX P k) - (pX P i))))), (7, .long (jN (((pY P j) - (pY P i))))), (5, .long (jN (((pX P j) - (pX P i))))), (0, .ref a), (1, .ref r0), (2, .int (iN (i))), (3, .int (iN (j))), (4, .int (iN (k)))]) hx hb d_C_passThrough_98 hl (by decide) rfl (fun ls hl => ?_)
  refine lv_lload hx hb d_C_passThrough_100 (lv_at hl 5 rfl) ?_
  refine lv_lload hx hb d_C_passThrough_102 (lv_at hl 2 rfl) ?_
  refine rj_mul (a := ((pX P j) - (pX P i))) (b := ((pY P k) - (pY P i))) hx hb d_C_passThrough_104 rfl rfl ?_
  refine lv_lload hx hb d_C_passThrough_105 (lv_at hl 4 rfl) ?_
  refine lv_lload hx hb d_C_passThrough_107 (lv_at hl 3 rfl) ?_
  refine rj_mul (a := ((pY P j) - (pY P i))) (b := ((pX P k) - (pX P i))) hx hb d_C_passThrough_109 rfl rfl ?_
  refine rj_sub (a := (((pX P j) - (pX P i)) * ((pY P k) - (pY P i)))) (b := (((pY P j) - (pY P i)) * ((pX P k) - (pX P i)))) hx hb d_C_passThrough_110 rfl rfl ?_
  refine lv_lstore (lv' := [(17, .long (jN (((((pX P j) - (pX P i)) * ((pY P k) - (pY P i))) - (((pY P j) - (pY P i)) * ((pX P k) - (pX P i))))))), (15, .long (jN (((((pX P k) - (pX P i)) * ((pX P k) - (pX P i))) + (((pY P k) - (pY P i)) * ((pY P k) - (pY P i))))))), (13, .long (jN (((((pX P j) - (pX P i)) * ((pX P j) - (pX P i))) + (((pY P j) - (pY P i)) * ((pY P j) - (pY P i))))))), (11, .long (jN (((pY P k) - (pY P i))))), (9, .long (jN (((pX P k) - (pX P i))))), (7, .long (jN (((pY P j) - (pY P i))))), (5, .long (jN (((pX P j) - (pX P i))))), (0, .ref a), (1, .ref r0), (2, .int (iN (i))), (3, .int (iN (j))), (4, .int (iN (k)))]) hx hb d_C_passThrough_111 hl (by decide) rfl (fun ls hl => ?_)
  refine lv_lload hx hb d_C_passThrough_113 (lv_at hl 0 rfl) ?_
  refine lv_lconst (v := jN (0)) hx hb d_C_passThrough_115 (by decide) ?_
  refine rj_cge (a := ((((pX P j) - (pX P i)) * ((pY P k) - (pY P i))) - (((pY P j) - (pY P i)) * ((pX P k) - (pX P i))))) (b := 0) (tgt := 126) hx hb d_C_passThrough_116 d_C_passThrough_117 (by decide) rfl rfl (by have := (pass_b hB i j k).1; unfold twi at this; unfold i6; omega) (by unfold i6; omega) (fun c116 => ?_) (fun c116 => ?_)
  · skip
    refine lv_lconst (v := jN (1)) hx hb d_C_passThrough_126 (by decide) ?_
    refine lv_lstore (lv' := [(19, .long (jN (1))), (17, .long (jN (((((pX P j) - (pX P i)) * ((pY P k) - (pY P i))) - (((pY P j) - (pY P i)) * ((pX P k) - (pX P i))))))), (15, .long (jN (((((pX P k) - (pX P i)) * ((pX P k) - (pX P i))) + (((pY P k) - (pY P i)) * ((pY P k) - (pY P i))))))), (13, .long (jN (((((pX P j) - (pX P i)) * ((pX P j) - (pX P i))) + (((pY P j) - (pY P i)) * ((pY P j) - (pY P i))))))), (11, .long (jN (((pY P k) - (pY P i))))), (9, .long (jN (((pX P k) - (pX P i))))), (7, .long (jN (((pY P j) - (pY P i))))), (5, .long (jN (((pX P j) - (pX P i))))), (0, .ref a), (1, .ref r0), (2, .int (iN (i))), (3, .int (iN (j))), (4, .int (iN (k)))]) hx hb d_C_passThrough_127 hl (by decide) rfl (fun ls hl => ?_)
    refine lv_aload_n hx hb d_C_passThrough_129 rfl (lv_at hl 8 rfl) ?_
    refine lv_lload hx hb d_C_passThrough_130 (lv_at hl 0 rfl) ?_
    refine lv_lload hx hb d_C_passThrough_132 (lv_at hl 4 rfl) ?_
    refine lv_lload hx hb d_C_passThrough_134 (lv_at hl 3 rfl) ?_
    refine rj_mul (a := ((pY P k) - (pY P i))) (b := ((((pX P j) - (pX P i)) * ((pX P j) - (pX P i))) + (((pY P j) - (pY P i)) * ((pY P j) - (pY P i))))) hx hb d_C_passThrough_136 rfl rfl ?_
    refine lv_lload hx hb d_C_passThrough_137 (lv_at hl 6 rfl) ?_
    refine lv_lload hx hb d_C_passThrough_139 (lv_at hl 2 rfl) ?_
    refine rj_mul (a := ((pY P j) - (pY P i))) (b := ((((pX P k) - (pX P i)) * ((pX P k) - (pX P i))) + (((pY P k) - (pY P i)) * ((pY P k) - (pY P i))))) hx hb d_C_passThrough_141 rfl rfl ?_
    refine rj_sub (a := (((pY P k) - (pY P i)) * ((((pX P j) - (pX P i)) * ((pX P j) - (pX P i))) + (((pY P j) - (pY P i)) * ((pY P j) - (pY P i)))))) (b := (((pY P j) - (pY P i)) * ((((pX P k) - (pX P i)) * ((pX P k) - (pX P i))) + (((pY P k) - (pY P i)) * ((pY P k) - (pY P i)))))) hx hb d_C_passThrough_142 rfl rfl ?_
    refine rj_mul (a := 1) (b := ((((pY P k) - (pY P i)) * ((((pX P j) - (pX P i)) * ((pX P j) - (pX P i))) + (((pY P j) - (pY P i)) * ((pY P j) - (pY P i))))) - (((pY P j) - (pY P i)) * ((((pX P k) - (pX P i)) * ((pX P k) - (pX P i))) + (((pY P k) - (pY P i)) * ((pY P k) - (pY P i))))))) hx hb d_C_passThrough_143 rfl rfl ?_
    refine gk_put X w ha (va_up_self _ _ _) rfl in_C ty_C tyok_C nm_C 2 (by decide) lk_C_16 rfl (ty := .long) (by decide +kernel) rfl rfl (Nat.le_of_ble_eq_true rfl) d_C_passThrough_144 (fun H locs w => ?_)
    have w : gw D (gA L sz) s.heap H locs L (va_up f a (.inr (2, [.long (jN ((pX P i))), .long (jN ((pY P i))), .long (jN ((1 * ((((pY P k) - (pY P i)) * ((((pX P j) - (pX P i)) * ((pX P j) - (pX P i))) + (((pY P j) - (pY P i)) * ((pY P j) - (pY P i))))) - (((pY P j) - (pY P i)) * ((((pX P k) - (pX P i)) * ((pX P k) - (pX P i))) + (((pY P k) - (pY P i)) * ((pY P k) - (pY P i))))))))), .long (jN (uy)), .long (jN (un))]))) := by rw [bx_uu] at w; exact w
    refine lv_aload_n hx hb d_C_passThrough_147 rfl (lv_at hl 8 rfl) ?_
    refine lv_lload hx hb d_C_passThrough_148 (lv_at hl 0 rfl) ?_
    refine lv_lload hx hb d_C_passThrough_150 (lv_at hl 7 rfl) ?_
    refine lv_lload hx hb d_C_passThrough_152 (lv_at hl 2 rfl) ?_
    refine rj_mul (a := ((pX P j) - (pX P i))) (b := ((((pX P k) - (pX P i)) * ((pX P k) - (pX P i))) + (((pY P k) - (pY P i)) * ((pY P k) - (pY P i))))) hx hb d_C_passThrough_154 rfl rfl ?_
    refine lv_lload hx hb d_C_passThrough_155 (lv_at hl 5 rfl) ?_
    refine lv_lload hx hb d_C_passThrough_157 (lv_at hl 3 rfl) ?_
    refine rj_mul (a := ((pX P k) - (pX P i))) (b := ((((pX P j) - (pX P i)) * ((pX P j) - (pX P i))) + (((pY P j) - (pY P i)) * ((pY P j) - (pY P i))))) hx hb d_C_passThrough_159 rfl rfl ?_
    refine rj_sub (a := (((pX P j) - (pX P i)) * ((((pX P k) - (pX P i)) * ((pX P k) - (pX P i))) + (((pY P k) - (pY P i)) * ((pY P k) - (pY P i)))))) (b := (((pX P k) - (pX P i)) * ((((pX P j) - (pX P i)) * ((pX P j) - (pX P i))) + (((pY P j) - (pY P i)) * ((pY P j) - (pY P i)))))) hx hb d_C_passThrough_160 rfl rfl ?_
    refine rj_mul (a := 1) (b := ((((pX P j) - (pX P i)) * ((((pX P k) - (pX P i)) * ((pX P k) - (pX P i))) + (((pY P k) - (pY P i)) * ((pY P k) - (pY P i))))) - (((pX P k) - (pX P i)) * ((((pX P j) - (pX P i)) * ((pX P j) - (pX P i))) + (((pY P j) - (pY P i)) * ((pY P j) - (pY P i))))))) hx hb d_C_passThrough_161 rfl rfl ?_
    refine gk_put X w ha (va_up_self _ _ _) rfl in_C ty_C tyok_C nm_C 3 (by decide) lk_C_19 rfl (ty := .long) (by decide +kernel) rfl rfl (Nat.le_of_ble_eq_true rfl) d_C_passThrough_162 (fun H locs w => ?_)
    have w : gw D (gA L sz) s.heap H locs L (va_up f a (.inr (2, [.long (jN ((pX P i))), .long (jN ((pY P i))), .long (jN ((1 * ((((pY P k) - (pY P i)) * ((((pX P j) - (pX P i)) * ((pX P j) - (pX P i))) + (((pY P j) - (pY P i)) * ((pY P j) - (pY P i))))) - (((pY P j) - (pY P i)) * ((((pX P k) - (pX P i)) * ((pX P k) - (pX P i))) + (((pY P k) - (pY P i)) * ((pY P k) - (pY P i))))))))), .long (jN ((1 * ((((pX P j) - (pX P i)) * ((((pX P k) - (pX P i)) * ((pX P k) - (pX P i))) + (((pY P k) - (pY P i)) * ((pY P k) - (pY P i))))) - (((pX P k) - (pX P i)) * ((((pX P j) - (pX P i)) * ((pX P j) - (pX P i))) + (((pY P j) - (pY P i)) * ((pY P j) - (pY P i))))))))), .long (jN (un))]))) := by rw [bx_uu] at w; exact w
    refine lv_aload_n hx hb d_C_passThrough_165 rfl (lv_at hl 8 rfl) ?_
    refine lv_lload hx hb d_C_passThrough_166 (lv_at hl 0 rfl) ?_
    refine lv_ldc2 hx hb X.1.2.2.2.1 (X.1.2.2.2.2 _ lk_C_60) d_C_passThrough_168 ?_
    refine rj_mul (a := 1) (b := 2) hx hb d_C_passThrough_171 rfl rfl ?_
    refine lv_lload hx hb d_C_passThrough_172 (lv_at hl 1 rfl) ?_
    refine rj_mul (a := (1 * 2)) (b := ((((pX P j) - (pX P i)) * ((pY P k) - (pY P i))) - (((pY P j) - (pY P i)) * ((pX P k) - (pX P i))))) hx hb d_C_passThrough_174 rfl rfl ?_
    refine gk_put X w ha (va_up_self _ _ _) rfl in_C ty_C tyok_C nm_C 4 (by decide) lk_C_22 rfl (ty := .long) (by decide +kernel) rfl rfl (Nat.le_of_ble_eq_true rfl) d_C_passThrough_175 (fun H locs w => ?_)
    have w : gw D (gA L sz) s.heap H locs L (va_up f a (.inr (2, [.long (jN ((pX P i))), .long (jN ((pY P i))), .long (jN ((1 * ((((pY P k) - (pY P i)) * ((((pX P j) - (pX P i)) * ((pX P j) - (pX P i))) + (((pY P j) - (pY P i)) * ((pY P j) - (pY P i))))) - (((pY P j) - (pY P i)) * ((((pX P k) - (pX P i)) * ((pX P k) - (pX P i))) + (((pY P k) - (pY P i)) * ((pY P k) - (pY P i))))))))), .long (jN ((1 * ((((pX P j) - (pX P i)) * ((((pX P k) - (pX P i)) * ((pX P k) - (pX P i))) + (((pY P k) - (pY P i)) * ((pY P k) - (pY P i))))) - (((pX P k) - (pX P i)) * ((((pX P j) - (pX P i)) * ((pX P j) - (pX P i))) + (((pY P j) - (pY P i)) * ((pY P j) - (pY P i))))))))), .long (jN (((1 * 2) * ((((pX P j) - (pX P i)) * ((pY P k) - (pY P i))) - (((pY P j) - (pY P i)) * ((pX P k) - (pX P i)))))))]))) := by rw [bx_uu] at w; exact w
    have hsg : sgn (twi P i j k) = 1 := by unfold sgn twi; rw [if_neg (by omega)]
    exact g_vret X w hrt hlk d_C_passThrough_178 (by rw [hsg]; rfl)
  · skip
    refine lv_ldc2 hx hb X.1.2.2.2.1 (X.1.2.2.2.2 _ lk_C_62) d_C_passThrough_120 ?_
    refine lv_goto (tgt := 127) hx hb d_C_passThrough_123 (by decide) ?_
    refine lv_lstore (lv' := [(19, .long (jN ((-1)))), (17, .long (jN (((((pX P j) - (pX P i)) * ((pY P k) - (pY P i))) - (((pY P j) - (pY P i)) * ((pX P k) - (pX P i))))))), (15, .long (jN (((((pX P k) - (pX P i)) * ((pX P k) - (pX P i))) + (((pY P k) - (pY P i)) * ((pY P k) - (pY P i))))))), (13, .long (jN (((((pX P j) - (pX P i)) * ((pX P j) - (pX P i))) + (((pY P j) - (pY P i)) * ((pY P j) - (pY P i))))))), (11, .long (jN (((pY P k) - (pY P i))))), (9, .long (jN (((pX P k) - (pX P i))))), (7, .long (jN (((pY P j) - (pY P i))))), (5, .long (jN (((pX P j) - (pX P i))))), (0, .ref a), (1, .ref r0), (2, .int (iN (i))), (3, .int (iN (j))), (4, .int (iN (k)))]) hx hb d_C_passThrough_127 hl (by decide) rfl (fun ls hl => ?_)
    refine lv_aload_n hx hb d_C_passThrough_129 rfl (lv_at hl 8 rfl) ?_
    refine lv_lload hx hb d_C_passThrough_130 (lv_at hl 0 rfl) ?_
    refine lv_lload hx hb d_C_passThrough_132 (lv_at hl 4 rfl) ?_
    refine lv_lload hx hb d_C_passThrough_134 (lv_at hl 3 rfl) ?_
    refine rj_mul (a := ((pY P k) - (pY P i))) (b := ((((pX P j) - (pX P i)) * ((pX P j) - (pX P i))) + (((pY P j) - (pY P i)) * ((pY P j) - (pY P i))))) hx hb d_C_passThrough_136 rfl rfl ?_
    refine lv_lload hx hb d_C_passThrough_137 (lv_at hl 6 rfl) ?_
    refine lv_lload hx hb d_C_passThrough_139 (lv_at hl 2 rfl) ?_
    refine rj_mul (a := ((pY P j) - (pY P i))) (b := ((((pX P k) - (pX P i)) * ((pX P k) - (pX P i))) + (((pY P k) - (pY P i)) * ((pY P k) - (pY P i))))) hx hb d_C_passThrough_141 rfl rfl ?_
    refine rj_sub (a := (((pY P k) - (pY P i)) * ((((pX P j) - (pX P i)) * ((pX P j) - (pX P i))) + (((pY P j) - (pY P i)) * ((pY P j) - (pY P i)))))) (b := (((pY P j) - (pY P i)) * ((((pX P k) - (pX P i)) * ((pX P k) - (pX P i))) + (((pY P k) - (pY P i)) * ((pY P k) - (pY P i)))))) hx hb d_C_passThrough_142 rfl rfl ?_
    refine rj_mul (a := (-1)) (b := ((((pY P k) - (pY P i)) * ((((pX P j) - (pX P i)) * ((pX P j) - (pX P i))) + (((pY P j) - (pY P i)) * ((pY P j) - (pY P i))))) - (((pY P j) - (pY P i)) * ((((pX P k) - (pX P i)) * ((pX P k) - (pX P i))) + (((pY P k) - (pY P i)) * ((pY P k) - (pY P i))))))) hx hb d_C_passThrough_143 rfl rfl ?_
    refine gk_put X w ha (va_up_self _ _ _) rfl in_C ty_C tyok_C nm_C 2 (by decide) lk_C_16 rfl (ty := .long) (by decide +kernel) rfl rfl (Nat.le_of_ble_eq_true rfl) d_C_passThrough_144 (fun H locs w => ?_)
    have w : gw D (gA L sz) s.heap H locs L (va_up f a (.inr (2, [.long (jN ((pX P i))), .long (jN ((pY P i))), .long (jN (((-1) * ((((pY P k) - (pY P i)) * ((((pX P j) - (pX P i)) * ((pX P j) - (pX P i))) + (((pY P j) - (pY P i)) * ((pY P j) - (pY P i))))) - (((pY P j) - (pY P i)) * ((((pX P k) - (pX P i)) * ((pX P k) - (pX P i))) + (((pY P k) - (pY P i)) * ((pY P k) - (pY P i))))))))), .long (jN (uy)), .long (jN (un))]))) := by rw [bx_uu] at w; exact w
    refine lv_aload_n hx hb d_C_passThrough_147 rfl (lv_at hl 8 rfl) ?_
    refine lv_lload hx hb d_C_passThrough_148 (lv_at hl 0 rfl) ?_
    refine lv_lload hx hb d_C_passThrough_150 (lv_at hl 7 rfl) ?_
    refine lv_lload hx hb d_C_passThrough_152 (lv_at hl 2 rfl) ?_
    refine rj_mul (a := ((pX P j) - (pX P i))) (b := ((((pX P k) - (pX P i)) * ((pX P k) - (pX P i))) + (((pY P k) - (pY P i)) * ((pY P k) - (pY P i))))) hx hb d_C_passThrough_154 rfl rfl ?_
    refine lv_lload hx hb d_C_passThrough_155 (lv_at hl 5 rfl) ?_
    refine lv_lload hx hb d_C_passThrough_157 (lv_at hl 3 rfl) ?_
    refine rj_mul (a := ((pX P k) - (pX P i))) (b := ((((pX P j) - (pX P i)) * ((pX P j) - (pX P i))) + (((pY P j) - (pY P i)) * ((pY P j) - (pY P i))))) hx hb d_C_passThrough_159 rfl rfl ?_
    refine rj_sub (a := (((pX P j) - (pX P i)) * ((((pX P k) - (pX P i)) * ((pX P k) - (pX P i))) + (((pY P k) - (pY P i)) * ((pY P k) - (pY P i)))))) (b := (((pX P k) - (pX P i)) * ((((pX P j) - (pX P i)) * ((pX P j) - (pX P i))) + (((pY P j) - (pY P i)) * ((pY P j) - (pY P i)))))) hx hb d_C_passThrough_160 rfl rfl ?_
    refine rj_mul (a := (-1)) (b := ((((pX P j) - (pX P i)) * ((((pX P k) - (pX P i)) * ((pX P k) - (pX P i))) + (((pY P k) - (pY P i)) * ((pY P k) - (pY P i))))) - (((pX P k) - (pX P i)) * ((((pX P j) - (pX P i)) * ((pX P j) - (pX P i))) + (((pY P j) - (pY P i)) * ((pY P j) - (pY P i))))))) hx hb d_C_passThrough_161 rfl rfl ?_
    refine gk_put X w ha (va_up_self _ _ _) rfl in_C ty_C tyok_C nm_C 3 (by decide) lk_C_19 rfl (ty := .long) (by decide +kernel) rfl rfl (Nat.le_of_ble_eq_true rfl) d_C_passThrough_162 (fun H locs w => ?_)
    have w : gw D (gA L sz) s.heap H locs L (va_up f a (.inr (2, [.long (jN ((pX P i))), .long (jN ((pY P i))), .long (jN (((-1) * ((((pY P k) - (pY P i)) * ((((pX P j) - (pX P i)) * ((pX P j) - (pX P i))) + (((pY P j) - (pY P i)) * ((pY P j) - (pY P i))))) - (((pY P j) - (pY P i)) * ((((pX P k) - (pX P i)) * ((pX P k) - (pX P i))) + (((pY P k) - (pY P i)) * ((pY P k) - (pY P i))))))))), .long (jN (((-1) * ((((pX P j) - (pX P i)) * ((((pX P k) - (pX P i)) * ((pX P k) - (pX P i))) + (((pY P k) - (pY P i)) * ((pY P k) - (pY P i))))) - (((pX P k) - (pX P i)) * ((((pX P j) - (pX P i)) * ((pX P j) - (pX P i))) + (((pY P j) - (pY P i)) * ((pY P j) - (pY P i))))))))), .long (jN (un))]))) := by rw [bx_uu] at w; exact w
    refine lv_aload_n hx hb d_C_passThrough_165 rfl (lv_at hl 8 rfl) ?_
    refine lv_lload hx hb d_C_passThrough_166 (lv_at hl 0 rfl) ?_
    refine lv_ldc2 hx hb X.1.2.2.2.1 (X.1.2.2.2.2 _ lk_C_60) d_C_passThrough_168 ?_
    refine rj_mul (a := (-1)) (b := 2) hx hb d_C_passThrough_171 rfl rfl ?_
    refine lv_lload hx hb d_C_passThrough_172 (lv_at hl 1 rfl) ?_
    refine rj_mul (a := ((-1) * 2)) (b := ((((pX P j) - (pX P i)) * ((pY P k) - (pY P i))) - (((pY P j) - (pY P i)) * ((pX P k) - (pX P i))))) hx hb d_C_passThrough_174 rfl rfl ?_
    refine gk_put X w ha (va_up_self _ _ _) rfl in_C ty_C tyok_C nm_C 4 (by decide) lk_C_22 rfl (ty := .long) (by decide +kernel) rfl rfl (Nat.le_of_ble_eq_true rfl) d_C_passThrough_175 (fun H locs w => ?_)
    have w : gw D (gA L sz) s.heap H locs L (va_up f a (.inr (2, [.long (jN ((pX P i))), .long (jN ((pY P i))), .long (jN (((-1) * ((((pY P k) - (pY P i)) * ((((pX P j) - (pX P i)) * ((pX P j) - (pX P i))) + (((pY P j) - (pY P i)) * ((pY P j) - (pY P i))))) - (((pY P j) - (pY P i)) * ((((pX P k) - (pX P i)) * ((pX P k) - (pX P i))) + (((pY P k) - (pY P i)) * ((pY P k) - (pY P i))))))))), .long (jN (((-1) * ((((pX P j) - (pX P i)) * ((((pX P k) - (pX P i)) * ((pX P k) - (pX P i))) + (((pY P k) - (pY P i)) * ((pY P k) - (pY P i))))) - (((pX P k) - (pX P i)) * ((((pX P j) - (pX P i)) * ((pX P j) - (pX P i))) + (((pY P j) - (pY P i)) * ((pY P j) - (pY P i))))))))), .long (jN ((((-1) * 2) * ((((pX P j) - (pX P i)) * ((pY P k) - (pY P i))) - (((pY P j) - (pY P i)) * ((pX P k) - (pX P i)))))))]))) := by rw [bx_uu] at w; exact w
    have hsg : sgn (twi P i j k) = -1 := by unfold sgn twi; rw [if_pos (by omega)]
    exact g_vret X w hrt hlk d_C_passThrough_178 (by rw [hsg]; rfl)
end
section
/-! CIRCLE: the loops of enclose; a circle's numbers as one state -/
abbrev C5 : Type := Int × Int × Int × Int × Int
def c5 (c : C5) : va_E := cC c.1 c.2.1 c.2.2.1 c.2.2.2.1 c.2.2.2.2
def cB5 (c : C5) : Prop := cB c.1 c.2.1 c.2.2.1 c.2.2.2.1 c.2.2.2.2
def cHas5 (c : C5) (P : List Pt) (i : Int) : Prop := cHas c.1 c.2.1 c.2.2.1 c.2.2.2.1 c.2.2.2.2 (pX P i) (pY P i)
def cShr (P : List Pt) (i : Int) : C5 := (pX P i, pY P i, 0, 0, 1)
def cSpan (P : List Pt) (i j : Int) : C5 := (pX P i, pY P i, pX P j - pX P i, pY P j - pY P i, 2)
def cPass (P : List Pt) (i j k : Int) : C5 := (pX P i, pY P i, sgn (twi P i j k) * psx P i j k, sgn (twi P i j k) * psy P i j k, sgn (twi P i j k) * 2 * twi P i j k)
noncomputable def cIf (p : Prop) (x y : C5) : C5 := @ite _ p (Classical.propDecidable p) x y
theorem cIf_t {p : Prop} {x y : C5} (h : p) : cIf p x y = x := if_pos h
theorem cIf_f {p : Prop} {x y : C5} (h : ¬ p) : cIf p x y = y := if_neg h
noncomputable def encB (P : List Pt) (i j : Int) : Nat → C5
  | 0 => cSpan P i j
  | k + 1 => cIf (cHas5 (encB P i j k) P k) (encB P i j k) (cPass P i j k)
noncomputable def encT (P : List Pt) (i : Int) : Nat → C5
  | 0 => cShr P i
  | j + 1 => cIf (cHas5 (encT P i j) P j) (encT P i j) (encB P i j j)
noncomputable def encA (P : List Pt) : Nat → C5
  | 0 => cShr P 0
  | i + 1 => cIf (cHas5 (encA P i) P (i + 1)) (encA P i) (encT P (i + 1) (i + 1))
theorem cShr_b {P : List Pt} (h : pb 300 P) (i : Int) : cB5 (cShr P i) := by
  have := h i; unfold cB5 cShr cB; dsimp only; omega
theorem cSpan_b {P : List Pt} (h : pb 300 P) (i j : Int) : cB5 (cSpan P i j) := by
  have := h i; have := h j; unfold cB5 cSpan cB; dsimp only; omega
theorem sgn_b {z y B : Int} (h : -B ≤ y ∧ y ≤ B) : -B ≤ sgn z * y ∧ sgn z * y ≤ B := by unfold sgn; split <;> omega
theorem cPass_b {P : List Pt} (h : pb 300 P) (i j k : Int) : cB5 (cPass P i j k) := by
  have h1 := h i
  obtain ⟨a, b, c⟩ := pass_b h i j k
  have a' := sgn_b (z := twi P i j k) (y := 2 * twi P i j k) (B := 1440000) (by omega)
  have b' := sgn_b (z := twi P i j k) b
  have c' := sgn_b (z := twi P i j k) c
  rw [← Int.mul_assoc] at a'
  unfold cB5 cPass cB; dsimp only; omega
theorem encB_b {P : List Pt} (h : pb 300 P) (i j : Int) (k : Nat) : cB5 (encB P i j k) := by
  induction k with
  | zero => exact cSpan_b h i j
  | succ k ih =>
    unfold encB
    by_cases q : cHas5 (encB P i j k) P k
    · rw [cIf_t q]; exact ih
    · rw [cIf_f q]; exact cPass_b h i j k
theorem encT_b {P : List Pt} (h : pb 300 P) (i : Int) (j : Nat) : cB5 (encT P i j) := by
  induction j with
  | zero => exact cShr_b h i
  | succ j ih =>
    unfold encT
    by_cases q : cHas5 (encT P i j) P j
    · rw [cIf_t q]; exact ih
    · rw [cIf_f q]; exact encB_b h i j j
theorem encA_b {P : List Pt} (h : pb 300 P) (i : Nat) : cB5 (encA P i) := by
  induction i with
  | zero => exact cShr_b h 0
  | succ i ih =>
    unfold encA
    by_cases q : cHas5 (encA P i) P (i + 1)
    · rw [cIf_t q]; exact ih
    · rw [cIf_f q]; exact encT_b h (i + 1) (i + 1)

set_option maxHeartbeats 4000000 in
set_option maxRecDepth 100000 in
theorem c_C_encloseThroughBoth (l : Launch) {D : va_G} {cI cR : ClassId} {L : List Nat} {f : Nat → va_E} {a : Nat} {c0 : C5} (ha : a ∈ L) (he : f a = c5 c0) {rx ry : Nat → Nat} {r0 : Nat} {P : List Pt} (hor : ro L rx ry r0) (hr : rowIs cI rx ry f r0 P) (hoo : oo rx ry a r0) (hB : pb 300 P) {i : Int} (hi : 0 ≤ i ∧ i ≤ 100) {j : Int} (hj : 0 ≤ j ∧ j ≤ 100) : gMv D cI cR l y_C_encloseThroughBoth (Cond.code y_C_encloseThroughBoth b_C_encloseThroughBoth 5 none :: lw_g) { frames := 2, cells := 0, slots := 0, locals := 61 } [.ref a, .ref r0, .int (iN (i)), .int (iN (j))] L f (fun u => u = (L, va_up f a (c5 (encB P i j j.toNat)))) := by
  intro sz
  refine g_enter (by decide) rfl (Nat.le_of_ble_eq_true rfl) ?_
  intro p e s m below meth cd ls X hrt hlk hnm hl hsz w
  have X : gx p m cd b_C_encloseThroughBoth 5 s _ "HullSums$Circle" D cI cR := X
  have hx := X.1.1
  have hb := X.1.2.1
  have hl : lv_has ls 5 [(0, .ref a), (1, .ref r0), (2, .int (iN (i))), (3, .int (iN (j)))] := hl
  have hn48 := hr.1
  have w : gw D (gA L sz) s.heap s.heap [] L (va_up f a (c5 c0)) := by rw [va_same he]; exact w
  refine lv_aload_n hx hb d_C_encloseThroughBoth_0 rfl (lv_at hl 0 rfl) ?_
  refine lv_aload_n hx hb d_C_encloseThroughBoth_1 rfl (lv_at hl 1 rfl) ?_
  refine lv_iload_n hx hb d_C_encloseThroughBoth_2 rfl (lv_at hl 2 rfl) ?_
  refine lv_iload_n hx hb d_C_encloseThroughBoth_3 rfl (lv_at hl 3 rfl) ?_
  refine g_cv w (g_runV (As := [.ref r0, .int (iN (i)), .int (iN (j))]) (rest := []) X w (c_C_spanAcross l ha (va_up_self _ _ _) hor (rowIs_up hoo hr) hoo hB (i := i) (by omega) (j := j) (by omega)) k_C_spanAcross v_C_spanAcross lk_C_46 ha (show va_up f a (c5 c0) a = .inr (2, _) from va_up_self _ _ _) rfl ⟨(Nat.le_of_ble_eq_true rfl), (Nat.le_of_ble_eq_true rfl)⟩ rfl hl.1 rfl (Nat.le_of_ble_eq_true rfl) d_C_encloseThroughBoth_4 ⟨(Nat.le_of_ble_eq_true rfl), (Nat.le_of_ble_eq_true rfl)⟩) (fun u H locs hp w => ?_)
  obtain rfl := hp
  have w : gw D (gA L sz) s.heap H locs L (va_up f a (c5 (cSpan P i j))) := by have w9 := w; dsimp only at w9; rw [bx_uu] at w9; exact w9
  refine lv_iconst (v := iN (0)) hx hb d_C_encloseThroughBoth_7 (by decide) ?_
  refine lv_istore (lv' := [(4, .int (iN (0))), (0, .ref a), (1, .ref r0), (2, .int (iN (i))), (3, .int (iN (j)))]) hx hb d_C_encloseThroughBoth_8 hl (by decide) rfl (fun ls hl => ?_)
  refine g_loop (σ := Int) (fun z9 => (j - z9).toNat) (fun z9 => [(0, .ref a), (1, .ref r0), (2, .int (iN (i))), (3, .int (iN (j))), (4, .int (iN (z9)))]) L (fun z9 => va_up f a (c5 (encB P i j z9.toNat))) (fun z9 => 0 ≤ z9 ∧ z9 ≤ j) ?_ 0 _ _ _ ⟨by omega, by omega⟩ w (lv_sub hl [1, 2, 3, 4, 0] rfl)
  intro k H locs ls hI w hl ih
  have hl : lv_has ls 5 [(0, .ref a), (1, .ref r0), (2, .int (iN (i))), (3, .int (iN (j))), (4, .int (iN (k)))] := hl
  have w : gw D (gA L sz) s.heap H locs L (va_up f a (c5 (encB P i j k.toNat))) := w
  have hI : 0 ≤ k ∧ k ≤ j := hI
  obtain ⟨h0, h1⟩ := hI
  have hcb : cB5 (encB P i j k.toNat) := encB_b hB _ _ _
  refine lv_iload hx hb d_C_encloseThroughBoth_10 (lv_at hl 4 rfl) ?_
  refine lv_iload_n hx hb d_C_encloseThroughBoth_12 rfl (lv_at hl 3 rfl) ?_
  refine ri_cge (a := k) (b := j) (tgt := 41) hx hb d_C_encloseThroughBoth_13 (by decide) rfl rfl (by unfold i3; omega) (by unfold i3; omega) (fun c13 => ?_) (fun c13 => ?_)
  · skip
    exact g_vret X w hrt hlk d_C_encloseThroughBoth_41 (by rw [show k = j by omega])
  · skip
    refine lv_aload_n hx hb d_C_encloseThroughBoth_16 rfl (lv_at hl 0 rfl) ?_
    refine lv_aload_n hx hb d_C_encloseThroughBoth_17 rfl (lv_at hl 1 rfl) ?_
    refine lv_iload hx hb d_C_encloseThroughBoth_18 (lv_at hl 4 rfl) ?_
    refine g_ci w (g_runV (As := [.ref r0, .int (iN (k))]) (rest := []) X w (c_C_has l ha (va_up_self _ _ _) hor (rowIs_up hoo hr) hoo hB (i := k) (by omega) hcb) k_C_has v_C_has lk_C_35 ha (show va_up f a (c5 (encB P i j k.toNat)) a = .inr (2, _) from va_up_self _ _ _) rfl ⟨(Nat.le_of_ble_eq_true rfl), (Nat.le_of_ble_eq_true rfl)⟩ rfl hl.1 rfl (Nat.le_of_ble_eq_true rfl) d_C_encloseThroughBoth_20 ⟨Nat.zero_le _, Nat.zero_le _⟩) (fun r u H locs hp w => ?_)
    obtain ⟨rfl, rfl⟩ := hp
    have w : gw D (gA L sz) s.heap H locs L (va_up f a (c5 (encB P i j k.toNat))) := w
    refine ri_zne (a := (bI (cHas5 (encB P i j k.toNat) P k))) (tgt := 35) hx hb d_C_encloseThroughBoth_23 (by decide) rfl (bI_3 _) (fun c23 => ?_) (fun c23 => ?_)
    · skip
      refine lv_iinc (v := iN ((k + 1))) (lv' := [(4, .int (iN ((k + 1)))), (0, .ref a), (1, .ref r0), (2, .int (iN (i))), (3, .int (iN (j)))]) hx hb d_C_encloseThroughBoth_35 hl (k := 4) rfl (by rw [show (k + 1) = k + (1 : Int) by omega, ← iN_add]; rfl) (by decide) rfl (fun ls hl => ?_)
      refine lv_goto (tgt := 10) hx hb d_C_encloseThroughBoth_38 (by decide) ?_
      have es : (encB P i j (k + 1).toNat) = (encB P i j k.toNat) := by
        rw [show (k + 1).toNat = k.toNat + 1 by omega, encB, tn_c h0]; first | exact cIf_t (bI_n (by omega)) | exact cIf_f (bI_0 (by omega)) | (rw [tn_c (by omega)]; first | exact cIf_t (bI_n (by omega)) | exact cIf_f (bI_0 (by omega)))
      rw [← es] at w
      exact ih (k + 1) _ _ _ (by omega) ⟨by omega, by omega⟩ w (lv_sub hl [1, 2, 3, 4, 0] rfl)
    · skip
      refine lv_aload_n hx hb d_C_encloseThroughBoth_26 rfl (lv_at hl 0 rfl) ?_
      refine lv_aload_n hx hb d_C_encloseThroughBoth_27 rfl (lv_at hl 1 rfl) ?_
      refine lv_iload_n hx hb d_C_encloseThroughBoth_28 rfl (lv_at hl 2 rfl) ?_
      refine lv_iload_n hx hb d_C_encloseThroughBoth_29 rfl (lv_at hl 3 rfl) ?_
      refine lv_iload hx hb d_C_encloseThroughBoth_30 (lv_at hl 4 rfl) ?_
      refine g_cv w (g_runV (As := [.ref r0, .int (iN (i)), .int (iN (j)), .int (iN (k))]) (rest := []) X w (c_C_passThrough l ha (va_up_self _ _ _) hor (rowIs_up hoo hr) hoo hB (i := i) (by omega) (j := j) (by omega) (k := k) (by omega)) k_C_passThrough v_C_passThrough lk_C_49 ha (show va_up f a (c5 (encB P i j k.toNat)) a = .inr (2, _) from va_up_self _ _ _) rfl ⟨(Nat.le_of_ble_eq_true rfl), (Nat.le_of_ble_eq_true rfl)⟩ rfl hl.1 rfl (Nat.le_of_ble_eq_true rfl) d_C_encloseThroughBoth_32 ⟨(Nat.le_of_ble_eq_true rfl), (Nat.le_of_ble_eq_true rfl)⟩) (fun u H locs hp w => ?_)
      obtain rfl := hp
      have w : gw D (gA L sz) s.heap H locs L (va_up f a (c5 (cPass P i j k))) := by have w9 := w; dsimp only at w9; rw [bx_uu] at w9; exact w9
      refine lv_iinc (v := iN ((k + 1))) (lv' := [(4, .int (iN ((k + 1)))), (0, .ref a), (1, .ref r0), (2, .int (iN (i))), (3, .int (iN (j)))]) hx hb d_C_encloseThroughBoth_35 hl (k := 4) rfl (by rw [show (k + 1) = k + (1 : Int) by omega, ← iN_add]; rfl) (by decide) rfl (fun ls hl => ?_)
      refine lv_goto (tgt := 10) hx hb d_C_encloseThroughBoth_38 (by decide) ?_
      have es : (encB P i j (k + 1).toNat) = (cPass P i j k) := by
        rw [show (k + 1).toNat = k.toNat + 1 by omega, encB, tn_c h0]; first | exact cIf_t (bI_n (by omega)) | exact cIf_f (bI_0 (by omega)) | (rw [tn_c (by omega)]; first | exact cIf_t (bI_n (by omega)) | exact cIf_f (bI_0 (by omega)))
      rw [← es] at w
      exact ih (k + 1) _ _ _ (by omega) ⟨by omega, by omega⟩ w (lv_sub hl [1, 2, 3, 4, 0] rfl)
set_option maxHeartbeats 4000000 in
set_option maxRecDepth 100000 in
theorem c_C_encloseThrough (l : Launch) {D : va_G} {cI cR : ClassId} {L : List Nat} {f : Nat → va_E} {a : Nat} {c0 : C5} (ha : a ∈ L) (he : f a = c5 c0) {rx ry : Nat → Nat} {r0 : Nat} {P : List Pt} (hor : ro L rx ry r0) (hr : rowIs cI rx ry f r0 P) (hoo : oo rx ry a r0) (hB : pb 300 P) {i : Int} (hi : 0 ≤ i ∧ i ≤ 100) : gMv D cI cR l y_C_encloseThrough (Cond.code y_C_encloseThrough b_C_encloseThrough 4 none :: lw_g) { frames := 3, cells := 0, slots := 0, locals := 85 } [.ref a, .ref r0, .int (iN (i))] L f (fun u => u = (L, va_up f a (c5 (encT P i i.toNat)))) := by
  intro sz
  refine g_enter (by decide) rfl (Nat.le_of_ble_eq_true rfl) ?_
  intro p e s m below meth cd ls X hrt hlk hnm hl hsz w
  have X : gx p m cd b_C_encloseThrough 4 s _ "HullSums$Circle" D cI cR := X
  have hx := X.1.1
  have hb := X.1.2.1
  have hl : lv_has ls 4 [(0, .ref a), (1, .ref r0), (2, .int (iN (i)))] := hl
  have hn48 := hr.1
  have w : gw D (gA L sz) s.heap s.heap [] L (va_up f a (c5 c0)) := by rw [va_same he]; exact w
  refine lv_aload_n hx hb d_C_encloseThrough_0 rfl (lv_at hl 0 rfl) ?_
  refine lv_aload_n hx hb d_C_encloseThrough_1 rfl (lv_at hl 1 rfl) ?_
  refine lv_iload_n hx hb d_C_encloseThrough_2 rfl (lv_at hl 2 rfl) ?_
  refine g_cv w (g_runV (As := [.ref r0, .int (iN (i))]) (rest := []) X w (c_C_shrinkTo l ha (va_up_self _ _ _) hor (rowIs_up hoo hr) hoo hB (i := i) (by omega)) k_C_shrinkTo v_C_shrinkTo lk_C_25 ha (show va_up f a (c5 c0) a = .inr (2, _) from va_up_self _ _ _) rfl ⟨(Nat.le_of_ble_eq_true rfl), (Nat.le_of_ble_eq_true rfl)⟩ rfl hl.1 rfl (Nat.le_of_ble_eq_true rfl) d_C_encloseThrough_3 ⟨(Nat.le_of_ble_eq_true rfl), (Nat.le_of_ble_eq_true rfl)⟩) (fun u H locs hp w => ?_)
  obtain rfl := hp
  have w : gw D (gA L sz) s.heap H locs L (va_up f a (c5 (cShr P i))) := by have w9 := w; dsimp only at w9; rw [bx_uu] at w9; exact w9
  refine lv_iconst (v := iN (0)) hx hb d_C_encloseThrough_6 (by decide) ?_
  refine lv_istore_n (lv' := [(3, .int (iN (0))), (0, .ref a), (1, .ref r0), (2, .int (iN (i)))]) hx hb d_C_encloseThrough_7 rfl hl (by decide) rfl (fun ls hl => ?_)
  refine g_loop (σ := Int) (fun z9 => (i - z9).toNat) (fun z9 => [(0, .ref a), (1, .ref r0), (2, .int (iN (i))), (3, .int (iN (z9)))]) L (fun z9 => va_up f a (c5 (encT P i z9.toNat))) (fun z9 => 0 ≤ z9 ∧ z9 ≤ i) ?_ 0 _ _ _ ⟨by omega, by omega⟩ w (lv_sub hl [1, 2, 3, 0] rfl)
  intro j H locs ls hI w hl ih
  have hl : lv_has ls 4 [(0, .ref a), (1, .ref r0), (2, .int (iN (i))), (3, .int (iN (j)))] := hl
  have w : gw D (gA L sz) s.heap H locs L (va_up f a (c5 (encT P i j.toNat))) := w
  have hI : 0 ≤ j ∧ j ≤ i := hI
  obtain ⟨h0, h1⟩ := hI
  have hcb : cB5 (encT P i j.toNat) := encT_b hB _ _
  refine lv_iload_n hx hb d_C_encloseThrough_8 rfl (lv_at hl 3 rfl) ?_
  refine lv_iload_n hx hb d_C_encloseThrough_9 rfl (lv_at hl 2 rfl) ?_
  refine ri_cge (a := j) (b := i) (tgt := 35) hx hb d_C_encloseThrough_10 (by decide) rfl rfl (by unfold i3; omega) (by unfold i3; omega) (fun c10 => ?_) (fun c10 => ?_)
  · skip
    exact g_vret X w hrt hlk d_C_encloseThrough_35 (by rw [show j = i by omega])
  · skip
    refine lv_aload_n hx hb d_C_encloseThrough_13 rfl (lv_at hl 0 rfl) ?_
    refine lv_aload_n hx hb d_C_encloseThrough_14 rfl (lv_at hl 1 rfl) ?_
    refine lv_iload_n hx hb d_C_encloseThrough_15 rfl (lv_at hl 3 rfl) ?_
    refine g_ci w (g_runV (As := [.ref r0, .int (iN (j))]) (rest := []) X w (c_C_has l ha (va_up_self _ _ _) hor (rowIs_up hoo hr) hoo hB (i := j) (by omega) hcb) k_C_has v_C_has lk_C_35 ha (show va_up f a (c5 (encT P i j.toNat)) a = .inr (2, _) from va_up_self _ _ _) rfl ⟨(Nat.le_of_ble_eq_true rfl), (Nat.le_of_ble_eq_true rfl)⟩ rfl hl.1 rfl (Nat.le_of_ble_eq_true rfl) d_C_encloseThrough_16 ⟨Nat.zero_le _, Nat.zero_le _⟩) (fun r u H locs hp w => ?_)
    obtain ⟨rfl, rfl⟩ := hp
    have w : gw D (gA L sz) s.heap H locs L (va_up f a (c5 (encT P i j.toNat))) := w
    refine ri_zne (a := (bI (cHas5 (encT P i j.toNat) P j))) (tgt := 29) hx hb d_C_encloseThrough_19 (by decide) rfl (bI_3 _) (fun c19 => ?_) (fun c19 => ?_)
    · skip
      refine lv_iinc (v := iN ((j + 1))) (lv' := [(3, .int (iN ((j + 1)))), (0, .ref a), (1, .ref r0), (2, .int (iN (i)))]) hx hb d_C_encloseThrough_29 hl (k := 3) rfl (by rw [show (j + 1) = j + (1 : Int) by omega, ← iN_add]; rfl) (by decide) rfl (fun ls hl => ?_)
      refine lv_goto (tgt := 8) hx hb d_C_encloseThrough_32 (by decide) ?_
      have es : (encT P i (j + 1).toNat) = (encT P i j.toNat) := by
        rw [show (j + 1).toNat = j.toNat + 1 by omega, encT, tn_c h0]; first | exact cIf_t (bI_n (by omega)) | exact cIf_f (bI_0 (by omega)) | (rw [tn_c (by omega)]; first | exact cIf_t (bI_n (by omega)) | exact cIf_f (bI_0 (by omega)))
      rw [← es] at w
      exact ih (j + 1) _ _ _ (by omega) ⟨by omega, by omega⟩ w (lv_sub hl [1, 2, 3, 0] rfl)
    · skip
      refine lv_aload_n hx hb d_C_encloseThrough_22 rfl (lv_at hl 0 rfl) ?_
      refine lv_aload_n hx hb d_C_encloseThrough_23 rfl (lv_at hl 1 rfl) ?_
      refine lv_iload_n hx hb d_C_encloseThrough_24 rfl (lv_at hl 2 rfl) ?_
      refine lv_iload_n hx hb d_C_encloseThrough_25 rfl (lv_at hl 3 rfl) ?_
      refine g_cv w (g_runV (As := [.ref r0, .int (iN (i)), .int (iN (j))]) (rest := []) X w (c_C_encloseThroughBoth l ha (va_up_self _ _ _) hor (rowIs_up hoo hr) hoo hB (i := i) (by omega) (j := j) (by omega)) k_C_encloseThroughBoth v_C_encloseThroughBoth lk_C_42 ha (show va_up f a (c5 (encT P i j.toNat)) a = .inr (2, _) from va_up_self _ _ _) rfl ⟨(Nat.le_of_ble_eq_true rfl), (Nat.le_of_ble_eq_true rfl)⟩ rfl hl.1 rfl (Nat.le_of_ble_eq_true rfl) d_C_encloseThrough_26 ⟨(Nat.le_of_ble_eq_true rfl), (Nat.le_of_ble_eq_true rfl)⟩) (fun u H locs hp w => ?_)
      obtain rfl := hp
      have w : gw D (gA L sz) s.heap H locs L (va_up f a (c5 (encB P i j j.toNat))) := by have w9 := w; dsimp only at w9; rw [bx_uu] at w9; exact w9
      refine lv_iinc (v := iN ((j + 1))) (lv' := [(3, .int (iN ((j + 1)))), (0, .ref a), (1, .ref r0), (2, .int (iN (i)))]) hx hb d_C_encloseThrough_29 hl (k := 3) rfl (by rw [show (j + 1) = j + (1 : Int) by omega, ← iN_add]; rfl) (by decide) rfl (fun ls hl => ?_)
      refine lv_goto (tgt := 8) hx hb d_C_encloseThrough_32 (by decide) ?_
      have es : (encT P i (j + 1).toNat) = (encB P i j j.toNat) := by
        rw [show (j + 1).toNat = j.toNat + 1 by omega, encT, tn_c h0]; first | exact cIf_t (bI_n (by omega)) | exact cIf_f (bI_0 (by omega)) | (rw [tn_c (by omega)]; first | exact cIf_t (bI_n (by omega)) | exact cIf_f (bI_0 (by omega)))
      rw [← es] at w
      exact ih (j + 1) _ _ _ (by omega) ⟨by omega, by omega⟩ w (lv_sub hl [1, 2, 3, 0] rfl)
set_option maxHeartbeats 4000000 in
set_option maxRecDepth 100000 in
theorem c_C_enclose (l : Launch) {D : va_G} {cI cR : ClassId} {L : List Nat} {f : Nat → va_E} {a : Nat} {c0 : C5} (ha : a ∈ L) (he : f a = c5 c0) {rx ry : Nat → Nat} {r0 : Nat} {P : List Pt} (hor : ro L rx ry r0) (hr : rowIs cI rx ry f r0 P) (hoo : oo rx ry a r0) (hB : pb 300 P) (hne : 1 ≤ P.length) : gMv D cI cR l y_C_enclose (Cond.code y_C_enclose b_C_enclose 3 none :: lw_g) { frames := 4, cells := 0, slots := 0, locals := 108 } [.ref a, .ref r0] L f (fun u => u = (L, va_up f a (c5 (encA P (P.length - 1))))) := by
  intro sz
  refine g_enter (by decide) rfl (Nat.le_of_ble_eq_true rfl) ?_
  intro p e s m below meth cd ls X hrt hlk hnm hl hsz w
  have X : gx p m cd b_C_enclose 3 s _ "HullSums$Circle" D cI cR := X
  have hx := X.1.1
  have hb := X.1.2.1
  have hl : lv_has ls 3 [(0, .ref a), (1, .ref r0)] := hl
  have hn48 := hr.1
  have w : gw D (gA L sz) s.heap s.heap [] L (va_up f a (c5 c0)) := by rw [va_same he]; exact w
  refine lv_aload_n hx hb d_C_enclose_0 rfl (lv_at hl 0 rfl) ?_
  refine lv_aload_n hx hb d_C_enclose_1 rfl (lv_at hl 1 rfl) ?_
  refine lv_iconst (v := iN (0)) hx hb d_C_enclose_2 (by decide) ?_
  refine g_cv w (g_runV (As := [.ref r0, .int (iN (0))]) (rest := []) X w (c_C_shrinkTo l ha (va_up_self _ _ _) hor (rowIs_up hoo hr) hoo hB (i := 0) (by omega)) k_C_shrinkTo v_C_shrinkTo lk_C_25 ha (show va_up f a (c5 c0) a = .inr (2, _) from va_up_self _ _ _) rfl ⟨(Nat.le_of_ble_eq_true rfl), (Nat.le_of_ble_eq_true rfl)⟩ rfl hl.1 rfl (Nat.le_of_ble_eq_true rfl) d_C_enclose_3 ⟨(Nat.le_of_ble_eq_true rfl), (Nat.le_of_ble_eq_true rfl)⟩) (fun u H locs hp w => ?_)
  obtain rfl := hp
  have w : gw D (gA L sz) s.heap H locs L (va_up f a (c5 (cShr P 0))) := by have w9 := w; dsimp only at w9; rw [bx_uu] at w9; exact w9
  refine lv_iconst (v := iN (1)) hx hb d_C_enclose_6 (by decide) ?_
  refine lv_istore_n (lv' := [(2, .int (iN (1))), (0, .ref a), (1, .ref r0)]) hx hb d_C_enclose_7 rfl hl (by decide) rfl (fun ls hl => ?_)
  refine g_loop (σ := Int) (fun z9 => ((P.length : Int) - z9).toNat) (fun z9 => [(0, .ref a), (1, .ref r0), (2, .int (iN (z9)))]) L (fun z9 => va_up f a (c5 (encA P (z9 - 1).toNat))) (fun z9 => 1 ≤ z9 ∧ z9 ≤ (P.length : Int)) ?_ 1 _ _ _ ⟨by omega, by omega⟩ w (lv_sub hl [1, 2, 0] rfl)
  intro i H locs ls hI w hl ih
  have hl : lv_has ls 3 [(0, .ref a), (1, .ref r0), (2, .int (iN (i)))] := hl
  have w : gw D (gA L sz) s.heap H locs L (va_up f a (c5 (encA P (i - 1).toNat))) := w
  have hI : 1 ≤ i ∧ i ≤ (P.length : Int) := hI
  obtain ⟨h0, h1⟩ := hI
  have hcb : cB5 (encA P (i - 1).toNat) := encA_b hB _
  refine lv_iload_n hx hb d_C_enclose_8 rfl (lv_at hl 2 rfl) ?_
  refine lv_aload_n hx hb d_C_enclose_9 rfl (lv_at hl 1 rfl) ?_
  refine g_ci w (g_runV (As := []) (rest := [.int (iN (i))]) X w (c_R_size l hor (rowIs_up hoo hr)) k_R_size v_R_size lk_C_29 hor.1 (rowIs_up (c := c5 (encA P (i - 1).toNat)) hoo hr).2.1 rfl ⟨(Nat.le_of_ble_eq_true rfl), (Nat.le_of_ble_eq_true rfl)⟩ rfl hl.1 rfl (Nat.le_of_ble_eq_true rfl) d_C_enclose_10 ⟨Nat.zero_le _, Nat.zero_le _⟩) (fun r u H locs hp w => ?_)
  obtain ⟨rfl, rfl⟩ := hp
  have w : gw D (gA L sz) s.heap H locs L (va_up f a (c5 (encA P (i - 1).toNat))) := w
  refine ri_cge (a := i) (b := (P.length : Int)) (tgt := 37) hx hb d_C_enclose_13 (by decide) rfl rfl (by unfold i3; omega) (by unfold i3; omega) (fun c13 => ?_) (fun c13 => ?_)
  · skip
    exact g_vret X w hrt hlk d_C_enclose_37 (by rw [show (i - 1).toNat = P.length - 1 by omega])
  · skip
    refine lv_aload_n hx hb d_C_enclose_16 rfl (lv_at hl 0 rfl) ?_
    refine lv_aload_n hx hb d_C_enclose_17 rfl (lv_at hl 1 rfl) ?_
    refine lv_iload_n hx hb d_C_enclose_18 rfl (lv_at hl 2 rfl) ?_
    refine g_ci w (g_runV (As := [.ref r0, .int (iN (i))]) (rest := []) X w (c_C_has l ha (va_up_self _ _ _) hor (rowIs_up hoo hr) hoo hB (i := i) (by omega) hcb) k_C_has v_C_has lk_C_35 ha (show va_up f a (c5 (encA P (i - 1).toNat)) a = .inr (2, _) from va_up_self _ _ _) rfl ⟨(Nat.le_of_ble_eq_true rfl), (Nat.le_of_ble_eq_true rfl)⟩ rfl hl.1 rfl (Nat.le_of_ble_eq_true rfl) d_C_enclose_19 ⟨Nat.zero_le _, Nat.zero_le _⟩) (fun r u H locs hp w => ?_)
    obtain ⟨rfl, rfl⟩ := hp
    have w : gw D (gA L sz) s.heap H locs L (va_up f a (c5 (encA P (i - 1).toNat))) := w
    refine ri_zne (a := (bI (cHas5 (encA P (i - 1).toNat) P i))) (tgt := 31) hx hb d_C_enclose_22 (by decide) rfl (bI_3 _) (fun c22 => ?_) (fun c22 => ?_)
    · skip
      refine lv_iinc (v := iN ((i + 1))) (lv' := [(2, .int (iN ((i + 1)))), (0, .ref a), (1, .ref r0)]) hx hb d_C_enclose_31 hl (k := 2) rfl (by rw [show (i + 1) = i + (1 : Int) by omega, ← iN_add]; rfl) (by decide) rfl (fun ls hl => ?_)
      refine lv_goto (tgt := 8) hx hb d_C_enclose_34 (by decide) ?_
      have es : (encA P ((i + 1) - 1).toNat) = (encA P (i - 1).toNat) := by
        rw [show (i + 1 - 1).toNat = (i - 1).toNat + 1 by omega, encA, tn_c (show 0 ≤ i - 1 by omega), show i - 1 + 1 = i by omega, show (i - 1).toNat + 1 = i.toNat by omega]; first | exact cIf_t (bI_n (by omega)) | exact cIf_f (bI_0 (by omega)) | (rw [tn_c (by omega)]; first | exact cIf_t (bI_n (by omega)) | exact cIf_f (bI_0 (by omega)))
      rw [← es] at w
      exact ih (i + 1) _ _ _ (by omega) ⟨by omega, by omega⟩ w (lv_sub hl [1, 2, 0] rfl)
    · skip
      refine lv_aload_n hx hb d_C_enclose_25 rfl (lv_at hl 0 rfl) ?_
      refine lv_aload_n hx hb d_C_enclose_26 rfl (lv_at hl 1 rfl) ?_
      refine lv_iload_n hx hb d_C_enclose_27 rfl (lv_at hl 2 rfl) ?_
      refine g_cv w (g_runV (As := [.ref r0, .int (iN (i))]) (rest := []) X w (c_C_encloseThrough l ha (va_up_self _ _ _) hor (rowIs_up hoo hr) hoo hB (i := i) (by omega)) k_C_encloseThrough v_C_encloseThrough lk_C_39 ha (show va_up f a (c5 (encA P (i - 1).toNat)) a = .inr (2, _) from va_up_self _ _ _) rfl ⟨(Nat.le_of_ble_eq_true rfl), (Nat.le_of_ble_eq_true rfl)⟩ rfl hl.1 rfl (Nat.le_of_ble_eq_true rfl) d_C_enclose_28 ⟨(Nat.le_of_ble_eq_true rfl), (Nat.le_of_ble_eq_true rfl)⟩) (fun u H locs hp w => ?_)
      obtain rfl := hp
      have w : gw D (gA L sz) s.heap H locs L (va_up f a (c5 (encT P i i.toNat))) := by have w9 := w; dsimp only at w9; rw [bx_uu] at w9; exact w9
      refine lv_iinc (v := iN ((i + 1))) (lv' := [(2, .int (iN ((i + 1)))), (0, .ref a), (1, .ref r0)]) hx hb d_C_enclose_31 hl (k := 2) rfl (by rw [show (i + 1) = i + (1 : Int) by omega, ← iN_add]; rfl) (by decide) rfl (fun ls hl => ?_)
      refine lv_goto (tgt := 8) hx hb d_C_enclose_34 (by decide) ?_
      have es : (encA P ((i + 1) - 1).toNat) = (encT P i i.toNat) := by
        rw [show (i + 1 - 1).toNat = (i - 1).toNat + 1 by omega, encA, tn_c (show 0 ≤ i - 1 by omega), show i - 1 + 1 = i by omega, show (i - 1).toNat + 1 = i.toNat by omega]; first | exact cIf_t (bI_n (by omega)) | exact cIf_f (bI_0 (by omega)) | (rw [tn_c (by omega)]; first | exact cIf_t (bI_n (by omega)) | exact cIf_f (bI_0 (by omega)))
      rw [← es] at w
      exact ih (i + 1) _ _ _ (by omega) ⟨by omega, by omega⟩ w (lv_sub hl [1, 2, 0] rfl)
end
section
/-! HULLSUMS: its world. Rows 0 to 7 are the sets, 8 sorted, 9 left, 10 right, 11 sums. -/
def geo (L : List Nat) (rx ry ra : Nat → Nat) (h ar ci lo : Nat) : Prop :=
  (h ∈ L ∧ ar ∈ L ∧ ci ∈ L ∧ lo ∈ L) ∧ (h ≠ ar ∧ h ≠ ci ∧ h ≠ lo ∧ ar ≠ ci ∧ ar ≠ lo ∧ ci ≠ lo) ∧ (∀ i, i < 12 → ro L rx ry (ra i)) ∧ (∀ i j, i < 12 → j < 12 → i ≠ j → rd rx ry (ra i) (ra j)) ∧ (∀ i, i < 12 → oo rx ry h (ra i) ∧ oo rx ry ar (ra i) ∧ oo rx ry ci (ra i) ∧ oo rx ry lo (ra i))
def hCell (ra : Nat → Nat) (ar ci lo : Nat) (K t1 t2 : Int) : va_E := .inr (0, [.ref ar, .int (iN K), .long (jN t1), .long (jN t2), .ref (ra 8), .ref (ra 9), .ref (ra 10), .ref (ra 11), .ref ci, .ref lo])
def clsIs (cI cR : ClassId) (rx ry ra : Nat → Nat) (h ar ci lo : Nat) (f : Nat → va_E) (K t1 t2 : Int) (S : Nat → List Pt) : Prop :=
  f h = hCell ra ar ci lo K t1 t2 ∧ (∃ F : Nat → Option Nat, f ar = .inl (cR, 8, .inr (.inr (.inr (.inr F)))) ∧ ∀ i, i < 8 → F i = some (ra i)) ∧ (∀ i, i < 12 → rowIs cI rx ry f (ra i) (S i)) ∧ (∃ c : C5, f ci = c5 c) ∧ (∃ o u b : Int, (b = 0 ∨ b = 1) ∧ f lo = cL o u b) ∧ 0 ≤ K ∧ K ≤ 8
def hOwn (rx ry ra : Nat → Nat) (h ar ci lo : Nat) (q : Nat) : Prop := q = h ∨ q = ar ∨ q = ci ∨ q = lo ∨ ∃ i, i < 12 ∧ (q = ra i ∨ q = rx (ra i) ∨ q = ry (ra i))
def unch (rx ry ra : Nat → Nat) (h ar ci lo : Nat) (f g : Nat → va_E) : Prop := ∀ q, ¬ hOwn rx ry ra h ar ci lo q → g q = f q
def supd (S : Nat → List Pt) (i : Nat) (P : List Pt) : Nat → List Pt := fun j => if j = i then P else S j
theorem su_s {S : Nat → List Pt} {i : Nat} {P : List Pt} : supd S i P i = P := if_pos rfl
theorem su_n {S : Nat → List Pt} {i j : Nat} {P : List Pt} (h : j ≠ i) : supd S i P j = S j := if_neg h
/-- the sets that are there: small, near -/
def okS (K : Int) (S : Nat → List Pt) : Prop := ∀ i : Nat, (i : Int) < K → (S i).length ≤ 24 ∧ pbl 300 (S i)
section CW
variable {cI cR : ClassId} {rx ry ra : Nat → Nat} {h ar ci lo : Nat} {f g g2 : Nat → va_E} {K t1 t2 : Int} {S : Nat → List Pt} {L : List Nat}
theorem unch_rf : unch rx ry ra h ar ci lo f f := fun _ _ => rfl
theorem unch_tr (h1 : unch rx ry ra h ar ci lo f g) (h2 : unch rx ry ra h ar ci lo g g2) : unch rx ry ra h ar ci lo f g2 := fun q hq => (h2 q hq).trans (h1 q hq)
theorem cls_row (G : geo L rx ry ra h ar ci lo) (hc : clsIs cI cR rx ry ra h ar ci lo f K t1 t2 S) {i : Nat} (hi : i < 12) {P : List Pt} (hr : rowIs cI rx ry g (ra i) P) (hk : chg rx ry (ra i) f g) : clsIs cI cR rx ry ra h ar ci lo g K t1 t2 (supd S i P) ∧ unch rx ry ra h ar ci lo f g := by
  obtain ⟨h1, ⟨F, h2, h3⟩, h4, ⟨c, h5⟩, ⟨o, u, b, h6, h7⟩, h8⟩ := hc
  obtain ⟨o1, o2, o3, o4⟩ := G.2.2.2.2 i hi
  have e : ∀ q, oo rx ry q (ra i) → g q = f q := fun q hq => hk q (Ne.symm hq.1) (Ne.symm hq.2.1) (Ne.symm hq.2.2)
  refine ⟨⟨by rw [e h o1]; exact h1, ⟨F, by rw [e ar o2]; exact h2, h3⟩, fun j hj => ?_, ⟨c, by rw [e ci o3]; exact h5⟩, ⟨o, u, b, h6, by rw [e lo o4]; exact h7⟩, h8⟩, fun q hq => hk q (fun z => hq (Or.inr (Or.inr (Or.inr (Or.inr ⟨i, hi, Or.inl z⟩))))) (fun z => hq (Or.inr (Or.inr (Or.inr (Or.inr ⟨i, hi, Or.inr (Or.inl z)⟩))))) (fun z => hq (Or.inr (Or.inr (Or.inr (Or.inr ⟨i, hi, Or.inr (Or.inr z)⟩)))))⟩
  by_cases hji : j = i
  · subst hji; rw [su_s]; exact hr
  · rw [su_n hji]; exact rowIs_keep (G.2.2.2.1 j i hj hi hji) hk (h4 j hj)
theorem cls_row2 (G : geo L rx ry ra h ar ci lo) (hc : clsIs cI cR rx ry ra h ar ci lo f K t1 t2 S) {i k : Nat} (hi : i < 12) (hk12 : k < 12) (hik : k ≠ i) {P Q : List Pt} (hr : rowIs cI rx ry g (ra i) P) (hr2 : rowIs cI rx ry g (ra k) Q) (hk : chg2 rx ry (ra i) (ra k) f g) : clsIs cI cR rx ry ra h ar ci lo g K t1 t2 (supd (supd S k Q) i P) ∧ unch rx ry ra h ar ci lo f g := by
  obtain ⟨h1, ⟨F, h2, h3⟩, h4, ⟨c, h5⟩, ⟨o, u, b, h6, h7⟩, h8⟩ := hc
  obtain ⟨o1, o2, o3, o4⟩ := G.2.2.2.2 i hi
  obtain ⟨p1, p2, p3, p4⟩ := G.2.2.2.2 k hk12
  have e : ∀ q, oo rx ry q (ra i) → oo rx ry q (ra k) → g q = f q := fun q hq hp => hk q (Ne.symm hq.1) (Ne.symm hq.2.1) (Ne.symm hq.2.2) (Ne.symm hp.1) (Ne.symm hp.2.1) (Ne.symm hp.2.2)
  refine ⟨⟨by rw [e h o1 p1]; exact h1, ⟨F, by rw [e ar o2 p2]; exact h2, h3⟩, fun j hj => ?_, ⟨c, by rw [e ci o3 p3]; exact h5⟩, ⟨o, u, b, h6, by rw [e lo o4 p4]; exact h7⟩, h8⟩, fun q hq => hk q (fun z => hq (Or.inr (Or.inr (Or.inr (Or.inr ⟨i, hi, Or.inl z⟩))))) (fun z => hq (Or.inr (Or.inr (Or.inr (Or.inr ⟨i, hi, Or.inr (Or.inl z)⟩))))) (fun z => hq (Or.inr (Or.inr (Or.inr (Or.inr ⟨i, hi, Or.inr (Or.inr z)⟩))))) (fun z => hq (Or.inr (Or.inr (Or.inr (Or.inr ⟨k, hk12, Or.inl z⟩))))) (fun z => hq (Or.inr (Or.inr (Or.inr (Or.inr ⟨k, hk12, Or.inr (Or.inl z)⟩))))) (fun z => hq (Or.inr (Or.inr (Or.inr (Or.inr ⟨k, hk12, Or.inr (Or.inr z)⟩)))))⟩
  by_cases hji : j = i
  · subst hji; rw [su_s]; exact hr
  · rw [su_n hji]
    by_cases hjk : j = k
    · subst hjk; rw [su_s]; exact hr2
    · rw [su_n hjk]
      obtain ⟨h0, r1, F1, F2, r2, r3, r4⟩ := h4 j hj
      obtain ⟨d1, d2, d3, d4, d5, d6, d7, d8, d9⟩ := G.2.2.2.1 j i hj hi hji
      obtain ⟨b1, b2, b3, b4, b5, b6, b7, b8, b9⟩ := G.2.2.2.1 j k hj hk12 hjk
      exact ⟨h0, by rw [hk _ d1 d2 d3 b1 b2 b3]; exact r1, F1, F2, by rw [hk _ d4 d5 d6 b4 b5 b6]; exact r2, by rw [hk _ d7 d8 d9 b7 b8 b9]; exact r3, r4⟩
theorem cls_obj (G : geo L rx ry ra h ar ci lo) (hc : clsIs cI cR rx ry ra h ar ci lo f K t1 t2 S) {K' t1' t2' : Int} (hK : 0 ≤ K' ∧ K' ≤ 8) : clsIs cI cR rx ry ra h ar ci lo (va_up f h (hCell ra ar ci lo K' t1' t2')) K' t1' t2' S ∧ unch rx ry ra h ar ci lo f (va_up f h (hCell ra ar ci lo K' t1' t2')) := by
  obtain ⟨h1, ⟨F, h2, h3⟩, h4, ⟨c, h5⟩, ⟨o, u, b, h6, h7⟩, h8⟩ := hc
  obtain ⟨n1, n2, n3, n4, n5, n6⟩ := G.2.1
  exact ⟨⟨va_up_self _ _ _, ⟨F, by rw [va_up_ne _ _ (Ne.symm n1)]; exact h2, h3⟩, fun j hj => rowIs_up (G.2.2.2.2 j hj).1 (h4 j hj), ⟨c, by rw [va_up_ne _ _ (Ne.symm n2)]; exact h5⟩, ⟨o, u, b, h6, by rw [va_up_ne _ _ (Ne.symm n3)]; exact h7⟩, hK⟩, fun q hq => va_up_ne _ _ (fun z => hq (Or.inl z))⟩
theorem cls_ci (G : geo L rx ry ra h ar ci lo) (hc : clsIs cI cR rx ry ra h ar ci lo f K t1 t2 S) {c' : C5} : clsIs cI cR rx ry ra h ar ci lo (va_up f ci (c5 c')) K t1 t2 S ∧ unch rx ry ra h ar ci lo f (va_up f ci (c5 c')) := by
  obtain ⟨h1, ⟨F, h2, h3⟩, h4, ⟨c, h5⟩, ⟨o, u, b, h6, h7⟩, h8⟩ := hc
  obtain ⟨n1, n2, n3, n4, n5, n6⟩ := G.2.1
  exact ⟨⟨by rw [va_up_ne _ _ n2]; exact h1, ⟨F, by rw [va_up_ne _ _ n4]; exact h2, h3⟩, fun j hj => rowIs_up (G.2.2.2.2 j hj).2.2.1 (h4 j hj), ⟨c', va_up_self _ _ _⟩, ⟨o, u, b, h6, by rw [va_up_ne _ _ (Ne.symm n6)]; exact h7⟩, h8⟩, fun q hq => va_up_ne _ _ (fun z => hq (Or.inr (Or.inr (Or.inl z))))⟩
theorem cls_lo (G : geo L rx ry ra h ar ci lo) (hc : clsIs cI cR rx ry ra h ar ci lo f K t1 t2 S) {o' u' b' : Int} (hb' : b' = 0 ∨ b' = 1) : clsIs cI cR rx ry ra h ar ci lo (va_up f lo (cL o' u' b')) K t1 t2 S ∧ unch rx ry ra h ar ci lo f (va_up f lo (cL o' u' b')) := by
  obtain ⟨h1, ⟨F, h2, h3⟩, h4, ⟨c, h5⟩, ⟨o, u, b, h6, h7⟩, h8⟩ := hc
  obtain ⟨n1, n2, n3, n4, n5, n6⟩ := G.2.1
  exact ⟨⟨by rw [va_up_ne _ _ n3]; exact h1, ⟨F, by rw [va_up_ne _ _ n5]; exact h2, h3⟩, fun j hj => rowIs_up (G.2.2.2.2 j hj).2.2.2 (h4 j hj), ⟨c, by rw [va_up_ne _ _ n6]; exact h5⟩, ⟨o', u', b', hb', va_up_self _ _ _⟩, h8⟩, fun q hq => va_up_ne _ _ (fun z => hq (Or.inr (Or.inr (Or.inr (Or.inl z)))))⟩
end CW

set_option maxHeartbeats 4000000 in
set_option maxRecDepth 100000 in
theorem c_H_rowOf (l : Launch) {D : va_G} {cI cR : ClassId} {L : List Nat} {f : Nat → va_E} {rx ry ra : Nat → Nat} {h ar ci lo : Nat} {K t1 t2 : Int} {S : Nat → List Pt} (G : geo L rx ry ra h ar ci lo) (hc : clsIs cI cR rx ry ra h ar ci lo f K t1 t2 S) {z : Int} (hz : i3 z) : gMq D cI cR l y_H_rowOf (Cond.code y_H_rowOf b_H_rowOf 2 (some (.object "HullSums$Row")) :: lw_g) { frames := 0, cells := 0, slots := 0, locals := 0 } [.ref h, .int (iN (z))] L f (fun r u => r = (if 0 ≤ z ∧ z < K then some (ra z.toNat) else none) ∧ u = (L, f)) := by
  intro sz
  refine g_enter (by decide) rfl (Nat.le_of_ble_eq_true rfl) ?_
  intro p e s m below meth cd ls X hrt hlk hnm hl hsz w
  have X : gx p m cd b_H_rowOf 2 s _ "HullSums" D cI cR := X
  have hx := X.1.1
  have hb := X.1.2.1
  have hl : lv_has ls 2 [(0, .ref h), (1, .int (iN (z)))] := hl
  have hK := hc.2.2.2.2.2
  obtain ⟨F, hF, hFi⟩ := hc.2.1
  refine lv_iload_n hx hb d_H_rowOf_0 rfl (lv_at hl 1 rfl) ?_
  refine ri_zlt (a := z) (tgt := 21) hx hb d_H_rowOf_1 (by decide) rfl hz (fun c1 => ?_) (fun c1 => ?_)
  · skip
    refine lv_null hx hb d_H_rowOf_21 ?_
    exact g_qret (r := none) X w hrt (Or.inl ⟨_, rfl⟩) hlk d_H_rowOf_22 ⟨by rw [if_neg (by omega)], rfl⟩
  · skip
    refine lv_iload_n hx hb d_H_rowOf_4 rfl (lv_at hl 1 rfl) ?_
    refine lv_aload_n hx hb d_H_rowOf_5 rfl (lv_at hl 0 rfl) ?_
    refine gk_get X w G.1.1 hc.1 rfl in_H 1 (by decide) lk_H_43 rfl d_H_rowOf_6 ?_
    refine ri_cge (a := z) (b := K) (tgt := 21) hx hb d_H_rowOf_9 (by decide) rfl rfl hz (by unfold i3; omega) (fun c9 => ?_) (fun c9 => ?_)
    · skip
      refine lv_null hx hb d_H_rowOf_21 ?_
      exact g_qret (r := none) X w hrt (Or.inl ⟨_, rfl⟩) hlk d_H_rowOf_22 ⟨by rw [if_neg (by omega)], rfl⟩
    · skip
      refine lv_iload_n hx hb d_H_rowOf_12 rfl (lv_at hl 1 rfl) ?_
      refine lv_aload_n hx hb d_H_rowOf_13 rfl (lv_at hl 0 rfl) ?_
      refine gk_get X w G.1.1 hc.1 rfl in_H 0 (by decide) lk_H_11 rfl d_H_rowOf_14 ?_
      refine gk_alen X w 1 G.1.2.1 hF rfl (v := iN (8)) rfl d_H_rowOf_17 ?_
      refine ri_clt (a := z) (b := 8) (tgt := 23) hx hb d_H_rowOf_18 (by decide) rfl rfl hz (by unfold i3; omega) (fun c18 => ?_) (fun c18 => ?_)
      · skip
        refine lv_aload_n hx hb d_H_rowOf_23 rfl (lv_at hl 0 rfl) ?_
        refine gk_get X w G.1.1 hc.1 rfl in_H 0 (by decide) lk_H_11 rfl d_H_rowOf_24 ?_
        refine lv_iload_n hx hb d_H_rowOf_27 rfl (lv_at hl 1 rfl) ?_
        have hin : vp_in (iN z) 8 := by rw [show z = ((z.toNat : Nat) : Int) by omega]; exact iN_in (by omega) (by decide)
        have hcl : (iN z).toNatClampNeg = z.toNat := by (conv => lhs; rw [show z = ((z.toNat : Nat) : Int) by omega]); exact iN_cl (by omega)
        refine gk_aald X w 1 G.1.2.1 hF rfl hin d_H_rowOf_28 ?_
        rw [hcl, hFi _ (by omega)]
        exact g_qret (r := some (ra z.toNat)) X w hrt (Or.inl ⟨_, rfl⟩) hlk d_H_rowOf_29 ⟨by rw [if_pos (by omega)], rfl⟩
      · skip
        refine lv_null hx hb d_H_rowOf_21 ?_
        exact g_qret (r := none) X w hrt (Or.inl ⟨_, rfl⟩) hlk d_H_rowOf_22 ⟨by rw [if_neg (by omega)], rfl⟩
set_option maxHeartbeats 4000000 in
set_option maxRecDepth 100000 in
theorem c_H_tell (l : Launch) {D : va_G} {cI cR : ClassId} {L : List Nat} {f : Nat → va_E} {rx ry ra : Nat → Nat} {h ar ci lo : Nat} {K t1 t2 : Int} {S : Nat → List Pt} (G : geo L rx ry ra h ar ci lo) (hc : clsIs cI cR rx ry ra h ar ci lo f K t1 t2 S) {x y : Int} : gMv D cI cR l y_H_tell (Cond.code y_H_tell b_H_tell 5 none :: lw_g) { frames := 0, cells := 0, slots := 0, locals := 0 } [.ref h, .long (jN (x)), .long (jN (y))] L f (fun u => u = (L, va_up f h (hCell ra ar ci lo K x y))) := by
  intro sz
  refine g_enter (by decide) rfl (Nat.le_of_ble_eq_true rfl) ?_
  intro p e s m below meth cd ls X hrt hlk hnm hl hsz w
  have X : gx p m cd b_H_tell 5 s _ "HullSums" D cI cR := X
  have hx := X.1.1
  have hb := X.1.2.1
  have hl : lv_has ls 5 [(0, .ref h), (1, .long (jN (x))), (3, .long (jN (y)))] := hl
  have w : gw D (gA L sz) s.heap s.heap [] L (va_up f h (.inr (0, [.ref ar, .int (iN (K)), .long (jN (t1)), .long (jN (t2)), .ref (ra 8), .ref (ra 9), .ref (ra 10), .ref (ra 11), .ref ci, .ref lo]))) := by rw [va_same (c := .inr (0, [.ref ar, .int (iN (K)), .long (jN (t1)), .long (jN (t2)), .ref (ra 8), .ref (ra 9), .ref (ra 10), .ref (ra 11), .ref ci, .ref lo])) hc.1]; exact w
  refine lv_aload_n hx hb d_H_tell_0 rfl (lv_at hl 0 rfl) ?_
  refine lv_lload_n hx hb d_H_tell_1 rfl (lv_at hl 1 rfl) ?_
  refine gk_put X w G.1.1 (va_up_self _ _ _) rfl in_H ty_H tyok_H nm_H 2 (by decide) lk_H_47 rfl (ty := .long) (by decide +kernel) rfl rfl (Nat.le_of_ble_eq_true rfl) d_H_tell_2 (fun H locs w => ?_)
  have w : gw D (gA L sz) s.heap H locs L (va_up f h (.inr (0, [.ref ar, .int (iN (K)), .long (jN (x)), .long (jN (t2)), .ref (ra 8), .ref (ra 9), .ref (ra 10), .ref (ra 11), .ref ci, .ref lo]))) := by rw [bx_uu] at w; exact w
  refine lv_aload_n hx hb d_H_tell_5 rfl (lv_at hl 0 rfl) ?_
  refine lv_lload_n hx hb d_H_tell_6 rfl (lv_at hl 2 rfl) ?_
  refine gk_put X w G.1.1 (va_up_self _ _ _) rfl in_H ty_H tyok_H nm_H 3 (by decide) lk_H_51 rfl (ty := .long) (by decide +kernel) rfl rfl (Nat.le_of_ble_eq_true rfl) d_H_tell_7 (fun H locs w => ?_)
  have w : gw D (gA L sz) s.heap H locs L (va_up f h (.inr (0, [.ref ar, .int (iN (K)), .long (jN (x)), .long (jN (y)), .ref (ra 8), .ref (ra 9), .ref (ra 10), .ref (ra 11), .ref ci, .ref lo]))) := by rw [bx_uu] at w; exact w
  exact g_vret X w hrt hlk d_H_tell_10 rfl
def frac1 (x y : Int) : Int := if Int.gcd x y = 0 then 0 else x.tdiv (Int.gcd x y)
def frac2 (x y : Int) : Int := if Int.gcd x y = 0 then 1 else y.tdiv (Int.gcd x y)
theorem gcd_6 {x y : Int} (hy : -281474976710656 < y ∧ y < 281474976710656) (hx : i6 x ∧ -9223372036854775807 ≤ x) : i6 ((Int.gcd x y : Nat) : Int) := by
  obtain ⟨⟨h1, h2⟩, h3⟩ := hx
  have := gcd_b (a := x) (b := y) (B := 9223372036854775807) (by omega) (by omega)
  unfold i6; omega
set_option maxHeartbeats 4000000 in
set_option maxRecDepth 100000 in
theorem c_H_tellFraction (l : Launch) {D : va_G} {cI cR : ClassId} {L : List Nat} {f : Nat → va_E} {rx ry ra : Nat → Nat} {h ar ci lo : Nat} {K t1 t2 : Int} {S : Nat → List Pt} (G : geo L rx ry ra h ar ci lo) (hc : clsIs cI cR rx ry ra h ar ci lo f K t1 t2 S) {x y : Int} (hx6 : i6 x ∧ -9223372036854775807 ≤ x) (hy48 : -281474976710656 < y ∧ y < 281474976710656) : gMv D cI cR l y_H_tellFraction (Cond.code y_H_tellFraction b_H_tellFraction 7 none :: lw_g) { frames := 2, cells := 0, slots := 0, locals := 51 } [.ref h, .long (jN (x)), .long (jN (y))] L f (fun u => u = (L, va_up f h (hCell ra ar ci lo K (frac1 x y) (frac2 x y)))) := by
  intro sz
  refine g_enter (by decide) rfl (Nat.le_of_ble_eq_true rfl) ?_
  intro p e s m below meth cd ls X hrt hlk hnm hl hsz w
  have X : gx p m cd b_H_tellFraction 7 s _ "HullSums" D cI cR := X
  have hx := X.1.1
  have hb := X.1.2.1
  have hl : lv_has ls 7 [(0, .ref h), (1, .long (jN (x))), (3, .long (jN (y)))] := hl
  refine lv_lload_n hx hb d_H_tellFraction_0 rfl (lv_at hl 1 rfl) ?_
  refine lv_lload_n hx hb d_H_tellFraction_1 rfl (lv_at hl 2 rfl) ?_
  refine g_cl w (g_runS (As := [.long (jN (x)), .long (jN (y))]) (rest := []) X w (c_H_commonDivisor l hx6 hy48) k_H_commonDivisor lk_H_194 st_H_commonDivisor ⟨(Nat.le_of_ble_eq_true rfl), (Nat.le_of_ble_eq_true rfl)⟩ rfl hl.1 rfl (Nat.le_of_ble_eq_true rfl) d_H_tellFraction_2 ⟨Nat.zero_le _, Nat.zero_le _⟩) (fun r u H locs hp w => ?_)
  obtain ⟨rfl, rfl⟩ := hp
  have w : gw D (gA L sz) s.heap H locs L f := w
  refine lv_lstore (lv' := [(5, .long (jN (((Int.gcd x y : Nat) : Int)))), (0, .ref h), (1, .long (jN (x))), (3, .long (jN (y)))]) hx hb d_H_tellFraction_5 hl (by decide) rfl (fun ls hl => ?_)
  refine lv_lload hx hb d_H_tellFraction_7 (lv_at hl 0 rfl) ?_
  refine lv_lconst (v := jN (0)) hx hb d_H_tellFraction_9 (by decide) ?_
  refine rj_cne (a := ((Int.gcd x y : Nat) : Int)) (b := 0) (tgt := 21) hx hb d_H_tellFraction_10 d_H_tellFraction_11 (by decide) rfl rfl (gcd_6 hy48 hx6) (by unfold i6; omega) (fun c10 => ?_) (fun c10 => ?_)
  · skip
    refine lv_aload_n hx hb d_H_tellFraction_21 rfl (lv_at hl 1 rfl) ?_
    refine lv_lload_n hx hb d_H_tellFraction_22 rfl (lv_at hl 2 rfl) ?_
    refine lv_lload hx hb d_H_tellFraction_23 (lv_at hl 0 rfl) ?_
    refine rj_div (a := x) (b := ((Int.gcd x y : Nat) : Int)) hx hb d_H_tellFraction_25 rfl rfl hx6.1 (gcd_6 hy48 hx6) (by omega) ?_
    refine lv_lload_n hx hb d_H_tellFraction_26 rfl (lv_at hl 3 rfl) ?_
    refine lv_lload hx hb d_H_tellFraction_27 (lv_at hl 0 rfl) ?_
    refine rj_div (a := y) (b := ((Int.gcd x y : Nat) : Int)) hx hb d_H_tellFraction_29 rfl rfl (by unfold i6; omega) (gcd_6 hy48 hx6) (by omega) ?_
    refine g_cv w (g_runV (As := [.long (jN ((x.tdiv ((Int.gcd x y : Nat) : Int)))), .long (jN ((y.tdiv ((Int.gcd x y : Nat) : Int))))]) (rest := []) X w (c_H_tell l G hc (x := (x.tdiv ((Int.gcd x y : Nat) : Int))) (y := (y.tdiv ((Int.gcd x y : Nat) : Int)))) k_H_tell v_H_tell lk_H_54 G.1.1 hc.1 rfl ⟨(Nat.le_of_ble_eq_true rfl), (Nat.le_of_ble_eq_true rfl)⟩ rfl hl.1 rfl (Nat.le_of_ble_eq_true rfl) d_H_tellFraction_30 ⟨(Nat.le_of_ble_eq_true rfl), (Nat.le_of_ble_eq_true rfl)⟩) (fun u H locs hp w => ?_)
    obtain rfl := hp
    exact g_vret X w hrt hlk d_H_tellFraction_33 (by unfold frac1 frac2; rw [if_neg (by omega), if_neg (by omega)])
  · skip
    refine lv_aload_n hx hb d_H_tellFraction_14 rfl (lv_at hl 1 rfl) ?_
    refine lv_lconst (v := jN (0)) hx hb d_H_tellFraction_15 (by decide) ?_
    refine lv_lconst (v := jN (1)) hx hb d_H_tellFraction_16 (by decide) ?_
    refine g_cv w (g_runV (As := [.long (jN (0)), .long (jN (1))]) (rest := []) X w (c_H_tell l G hc (x := 0) (y := 1)) k_H_tell v_H_tell lk_H_54 G.1.1 hc.1 rfl ⟨(Nat.le_of_ble_eq_true rfl), (Nat.le_of_ble_eq_true rfl)⟩ rfl hl.1 rfl (Nat.le_of_ble_eq_true rfl) d_H_tellFraction_17 ⟨(Nat.le_of_ble_eq_true rfl), (Nat.le_of_ble_eq_true rfl)⟩) (fun u H locs hp w => ?_)
    obtain rfl := hp
    exact g_vret X w hrt hlk d_H_tellFraction_20 (by unfold frac1 frac2; rw [if_pos (by omega), if_pos (by omega)])
set_option maxHeartbeats 4000000 in
set_option maxRecDepth 100000 in
theorem c_H_clear (l : Launch) {D : va_G} {cI cR : ClassId} {L : List Nat} {f : Nat → va_E} {rx ry ra : Nat → Nat} {h ar ci lo : Nat} {K t1 t2 : Int} {S : Nat → List Pt} (G : geo L rx ry ra h ar ci lo) (hc : clsIs cI cR rx ry ra h ar ci lo f K t1 t2 S) : gMv D cI cR l y_H_clear (Cond.code y_H_clear b_H_clear 1 none :: lw_g) { frames := 1, cells := 0, slots := 0, locals := 24 } [.ref h] L f (fun u => u = (L, va_up f h (hCell ra ar ci lo 0 0 1))) := by
  intro sz
  refine g_enter (by decide) rfl (Nat.le_of_ble_eq_true rfl) ?_
  intro p e s m below meth cd ls X hrt hlk hnm hl hsz w
  have X : gx p m cd b_H_clear 1 s _ "HullSums" D cI cR := X
  have hx := X.1.1
  have hb := X.1.2.1
  have hl : lv_has ls 1 [(0, .ref h)] := hl
  have w : gw D (gA L sz) s.heap s.heap [] L (va_up f h (.inr (0, [.ref ar, .int (iN (K)), .long (jN (t1)), .long (jN (t2)), .ref (ra 8), .ref (ra 9), .ref (ra 10), .ref (ra 11), .ref ci, .ref lo]))) := by rw [va_same (c := .inr (0, [.ref ar, .int (iN (K)), .long (jN (t1)), .long (jN (t2)), .ref (ra 8), .ref (ra 9), .ref (ra 10), .ref (ra 11), .ref ci, .ref lo])) hc.1]; exact w
  refine lv_aload_n hx hb d_H_clear_0 rfl (lv_at hl 0 rfl) ?_
  refine lv_iconst (v := iN (0)) hx hb d_H_clear_1 (by decide) ?_
  refine gk_put X w G.1.1 (va_up_self _ _ _) rfl in_H ty_H tyok_H nm_H 1 (by decide) lk_H_43 rfl (ty := .int) (by decide +kernel) rfl rfl (Nat.le_of_ble_eq_true rfl) d_H_clear_2 (fun H locs w => ?_)
  have w : gw D (gA L sz) s.heap H locs L (va_up f h (.inr (0, [.ref ar, .int (iN (0)), .long (jN (t1)), .long (jN (t2)), .ref (ra 8), .ref (ra 9), .ref (ra 10), .ref (ra 11), .ref ci, .ref lo]))) := by rw [bx_uu] at w; exact w
  refine lv_aload_n hx hb d_H_clear_5 rfl (lv_at hl 0 rfl) ?_
  refine lv_lconst (v := jN (0)) hx hb d_H_clear_6 (by decide) ?_
  refine lv_lconst (v := jN (1)) hx hb d_H_clear_7 (by decide) ?_
  refine g_cv w (g_runV (As := [.long (jN (0)), .long (jN (1))]) (rest := []) X w (c_H_tell l G (cls_obj G hc (K' := 0) (t1' := t1) (t2' := t2) (by omega)).1 (x := 0) (y := 1)) k_H_tell v_H_tell lk_H_54 G.1.1 (va_up_self _ _ _) rfl ⟨(Nat.le_of_ble_eq_true rfl), (Nat.le_of_ble_eq_true rfl)⟩ rfl hl.1 rfl (Nat.le_of_ble_eq_true rfl) d_H_clear_8 ⟨(Nat.le_of_ble_eq_true rfl), (Nat.le_of_ble_eq_true rfl)⟩) (fun u H locs hp w => ?_)
  obtain rfl := hp
  exact g_vret X w hrt hlk d_H_clear_11 (by rw [bx_uu])
set_option maxHeartbeats 4000000 in
set_option maxRecDepth 100000 in
theorem c_H_first (l : Launch) {D : va_G} {cI cR : ClassId} {L : List Nat} {f : Nat → va_E} {rx ry ra : Nat → Nat} {h ar ci lo : Nat} {K t1 t2 : Int} {S : Nat → List Pt} (G : geo L rx ry ra h ar ci lo) (hc : clsIs cI cR rx ry ra h ar ci lo f K t1 t2 S) : gMl D cI cR l y_H_first (Cond.code y_H_first b_H_first 1 (some .long) :: lw_g) { frames := 0, cells := 0, slots := 0, locals := 0 } [.ref h] L f (fun r u => r = jN t1 ∧ u = (L, f)) := by
  intro sz
  refine g_enter (by decide) rfl (Nat.le_of_ble_eq_true rfl) ?_
  intro p e s m below meth cd ls X hrt hlk hnm hl hsz w
  have X : gx p m cd b_H_first 1 s _ "HullSums" D cI cR := X
  have hx := X.1.1
  have hb := X.1.2.1
  have hl : lv_has ls 1 [(0, .ref h)] := hl
  refine lv_aload_n hx hb d_H_first_0 rfl (lv_at hl 0 rfl) ?_
  refine gk_get X w G.1.1 hc.1 rfl in_H 2 (by decide) lk_H_47 rfl d_H_first_1 ?_
  exact g_lret X w hrt hlk d_H_first_4 ⟨rfl, rfl⟩
set_option maxHeartbeats 4000000 in
set_option maxRecDepth 100000 in
theorem c_H_second (l : Launch) {D : va_G} {cI cR : ClassId} {L : List Nat} {f : Nat → va_E} {rx ry ra : Nat → Nat} {h ar ci lo : Nat} {K t1 t2 : Int} {S : Nat → List Pt} (G : geo L rx ry ra h ar ci lo) (hc : clsIs cI cR rx ry ra h ar ci lo f K t1 t2 S) : gMl D cI cR l y_H_second (Cond.code y_H_second b_H_second 1 (some .long) :: lw_g) { frames := 0, cells := 0, slots := 0, locals := 0 } [.ref h] L f (fun r u => r = jN t2 ∧ u = (L, f)) := by
  intro sz
  refine g_enter (by decide) rfl (Nat.le_of_ble_eq_true rfl) ?_
  intro p e s m below meth cd ls X hrt hlk hnm hl hsz w
  have X : gx p m cd b_H_second 1 s _ "HullSums" D cI cR := X
  have hx := X.1.1
  have hb := X.1.2.1
  have hl : lv_has ls 1 [(0, .ref h)] := hl
  refine lv_aload_n hx hb d_H_second_0 rfl (lv_at hl 0 rfl) ?_
  refine gk_get X w G.1.1 hc.1 rfl in_H 3 (by decide) lk_H_51 rfl d_H_second_1 ?_
  exact g_lret X w hrt hlk d_H_second_4 ⟨rfl, rfl⟩
set_option maxHeartbeats 4000000 in
set_option maxRecDepth 100000 in
theorem c_H_points (l : Launch) {D : va_G} {cI cR : ClassId} {L : List Nat} {f : Nat → va_E} {rx ry ra : Nat → Nat} {h ar ci lo : Nat} {K t1 t2 : Int} {S : Nat → List Pt} (G : geo L rx ry ra h ar ci lo) (hc : clsIs cI cR rx ry ra h ar ci lo f K t1 t2 S) {z : Int} (hz : i3 z) : gMi D cI cR l y_H_points (Cond.code y_H_points b_H_points 3 (some .int) :: lw_g) { frames := 1, cells := 0, slots := 0, locals := 21 } [.ref h, .int (iN (z))] L f (fun r u => r = iN (if 0 ≤ z ∧ z < K then ((S z.toNat).length : Int) else -1) ∧ u = (L, f)) := by
  intro sz
  refine g_enter (by decide) rfl (Nat.le_of_ble_eq_true rfl) ?_
  intro p e s m below meth cd ls X hrt hlk hnm hl hsz w
  have X : gx p m cd b_H_points 3 s _ "HullSums" D cI cR := X
  have hx := X.1.1
  have hb := X.1.2.1
  have hl : lv_has ls 3 [(0, .ref h), (1, .int (iN (z)))] := hl
  refine lv_aload_n hx hb d_H_points_0 rfl (lv_at hl 0 rfl) ?_
  refine lv_iload_n hx hb d_H_points_1 rfl (lv_at hl 1 rfl) ?_
  refine g_cq w (g_runV (As := [.int (iN (z))]) (rest := []) X w (c_H_rowOf l G hc (z := z) hz) k_H_rowOf v_H_rowOf lk_H_58 G.1.1 hc.1 rfl ⟨(Nat.le_of_ble_eq_true rfl), (Nat.le_of_ble_eq_true rfl)⟩ rfl hl.1 rfl (Nat.le_of_ble_eq_true rfl) d_H_points_2 ⟨(Nat.le_of_ble_eq_true rfl), (Nat.le_of_ble_eq_true rfl)⟩) (fun r u H locs hp w => ?_)
  obtain ⟨hr9, rfl⟩ := hp
  have w : gw D (gA L sz) s.heap H locs L f := w
  by_cases hz1 : 0 ≤ z ∧ z < K
  · skip
    rw [if_pos hz1] at hr9
    subst hr9
    have hz18 : z.toNat < 8 := by have := hc.2.2.2.2.2; omega
    refine lv_astore_n (lv' := [(2, .ref (ra z.toNat)), (0, .ref h), (1, .int (iN (z)))]) hx hb d_H_points_5 rfl hl (by decide) rfl (fun ls hl => ?_)
    refine lv_aload_n hx hb d_H_points_6 rfl (lv_at hl 0 rfl) ?_
    refine lv_ifnonnull (tgt := 14) hx hb d_H_points_7 (by decide) ?_
    refine lv_aload_n hx hb d_H_points_14 rfl (lv_at hl 0 rfl) ?_
    refine g_ci w (g_runV (As := []) (rest := []) X w (c_R_size l (G.2.2.1 z.toNat (by omega)) (hc.2.2.1 z.toNat (by omega))) k_R_size v_R_size lk_H_72 (G.2.2.1 z.toNat (by omega)).1 (hc.2.2.1 z.toNat (by omega)).2.1 rfl ⟨(Nat.le_of_ble_eq_true rfl), (Nat.le_of_ble_eq_true rfl)⟩ rfl hl.1 rfl (Nat.le_of_ble_eq_true rfl) d_H_points_15 ⟨Nat.zero_le _, Nat.zero_le _⟩) (fun r u H locs hp w => ?_)
    obtain ⟨rfl, rfl⟩ := hp
    have w : gw D (gA L sz) s.heap H locs L f := w
    exact g_iret X w hrt hlk d_H_points_18 ⟨by rw [if_pos hz1], rfl⟩
  · skip
    rw [if_neg hz1] at hr9
    subst hr9
    refine lv_astore_nN (lv' := [(2, .null), (0, .ref h), (1, .int (iN (z)))]) hx hb d_H_points_5 rfl hl (by decide) rfl (fun ls hl => ?_)
    refine lv_aload_nN hx hb d_H_points_6 rfl (lv_at hl 0 rfl) ?_
    refine lv_ifnonnullN hx hb d_H_points_7 ?_
    refine lv_iconst (v := iN (-1)) hx hb d_H_points_10 (by decide) ?_
    refine lv_goto (tgt := 18) hx hb d_H_points_11 (by decide) ?_
    exact g_iret X w hrt hlk d_H_points_18 ⟨by rw [if_neg hz1], rfl⟩
end
