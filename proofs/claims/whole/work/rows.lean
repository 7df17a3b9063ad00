section
-- ===== PART A: goes FIRST, ahead of the names: the tables' words, and 'selects' of the private methods out of them =====
/-- a private method of a class that the tables say can be made, by its rows of tables_1 -/
def lw_okq (q : MethodName × Nat) : Prop := (q.1.cls ≠ "java/lang/invoke/MethodHandle" ∧ q.1.cls ≠ "java/lang/invoke/VarHandle") ∧ Cond.instantiable q.1.cls q.2 ∈ tables_1 ∧ Cond.privateMethod q.1 ∈ tables_1 ∧ Cond.instanceMethod q.1 ∈ tables_1
theorem lw_p0 : lw_okq (⟨"YearDeck", "failed", "(I)I"⟩, 6) := ⟨⟨by decide +kernel, by decide +kernel⟩, List.mem_of_getElem? (i := 13) (by decide +kernel), List.mem_of_getElem? (i := 170) (by decide +kernel), List.mem_of_getElem? (i := 171) (by decide +kernel)⟩
theorem lw_p1 : lw_okq (⟨"YearDeck", "takeSitting", "(LYearDeck$Sheet;I)Z"⟩, 6) := ⟨⟨by decide +kernel, by decide +kernel⟩, List.mem_of_getElem? (i := 13) (by decide +kernel), List.mem_of_getElem? (i := 288) (by decide +kernel), List.mem_of_getElem? (i := 289) (by decide +kernel)⟩
theorem lw_p2 : lw_okq (⟨"YearDeck", "ofSitting", "(I)I"⟩, 6) := ⟨⟨by decide +kernel, by decide +kernel⟩, List.mem_of_getElem? (i := 13) (by decide +kernel), List.mem_of_getElem? (i := 293) (by decide +kernel), List.mem_of_getElem? (i := 294) (by decide +kernel)⟩
theorem lw_p3 : lw_okq (⟨"YearDeck", "eldest", "()I"⟩, 6) := ⟨⟨by decide +kernel, by decide +kernel⟩, List.mem_of_getElem? (i := 13) (by decide +kernel), List.mem_of_getElem? (i := 308) (by decide +kernel), List.mem_of_getElem? (i := 309) (by decide +kernel)⟩
theorem lw_p4 : lw_okq (⟨"YearDeck", "rightOnes", "()I"⟩, 6) := ⟨⟨by decide +kernel, by decide +kernel⟩, List.mem_of_getElem? (i := 13) (by decide +kernel), List.mem_of_getElem? (i := 312) (by decide +kernel), List.mem_of_getElem? (i := 313) (by decide +kernel)⟩
theorem lw_p5 : lw_okq (⟨"YearDeck$Ride", "bothAgree", "(LYearDeck$Rider;ILYearDeck$Rider;I)Z"⟩, 6) := ⟨⟨by decide +kernel, by decide +kernel⟩, List.mem_of_getElem? (i := 21) (by decide +kernel), List.mem_of_getElem? (i := 350) (by decide +kernel), List.mem_of_getElem? (i := 351) (by decide +kernel)⟩
theorem lw_p6 : lw_okq (⟨"YearDeck$Ride", "setsToBeRight", "(LYearDeck$Rider;)I"⟩, 6) := ⟨⟨by decide +kernel, by decide +kernel⟩, List.mem_of_getElem? (i := 21) (by decide +kernel), List.mem_of_getElem? (i := 370) (by decide +kernel), List.mem_of_getElem? (i := 371) (by decide +kernel)⟩
theorem lw_p7 : lw_okq (⟨"YearDeck$Ride", "canAllBeRight", "(III)Z"⟩, 6) := ⟨⟨by decide +kernel, by decide +kernel⟩, List.mem_of_getElem? (i := 21) (by decide +kernel), List.mem_of_getElem? (i := 375) (by decide +kernel), List.mem_of_getElem? (i := 376) (by decide +kernel)⟩
theorem lw_p8 : lw_okq (⟨"YearDeck$Sheet", "cutToLane", "(I)I"⟩, 3) := ⟨⟨by decide +kernel, by decide +kernel⟩, List.mem_of_getElem? (i := 104) (by decide +kernel), List.mem_of_getElem? (i := 439) (by decide +kernel), List.mem_of_getElem? (i := 440) (by decide +kernel)⟩
theorem lw_p9 : lw_okq (⟨"YearDeck", "toldAsRider", "(LYearDeck$Rider;)I"⟩, 6) := ⟨⟨by decide +kernel, by decide +kernel⟩, List.mem_of_getElem? (i := 13) (by decide +kernel), List.mem_of_getElem? (i := 460) (by decide +kernel), List.mem_of_getElem? (i := 461) (by decide +kernel)⟩
theorem lw_p10 : lw_okq (⟨"YearDeck", "beginBody", "(I)V"⟩, 6) := ⟨⟨by decide +kernel, by decide +kernel⟩, List.mem_of_getElem? (i := 13) (by decide +kernel), List.mem_of_getElem? (i := 464) (by decide +kernel), List.mem_of_getElem? (i := 465) (by decide +kernel)⟩
theorem lw_p11 : lw_okq (⟨"YearDeck", "toldAsLad", "(LYearDeck$Rider;)I"⟩, 6) := ⟨⟨by decide +kernel, by decide +kernel⟩, List.mem_of_getElem? (i := 13) (by decide +kernel), List.mem_of_getElem? (i := 468) (by decide +kernel), List.mem_of_getElem? (i := 469) (by decide +kernel)⟩
theorem lw_p12 : lw_okq (⟨"YearDeck", "toldAsElder", "(LYearDeck$Rider;)I"⟩, 6) := ⟨⟨by decide +kernel, by decide +kernel⟩, List.mem_of_getElem? (i := 13) (by decide +kernel), List.mem_of_getElem? (i := 472) (by decide +kernel), List.mem_of_getElem? (i := 473) (by decide +kernel)⟩
theorem lw_p13 : lw_okq (⟨"YearDeckModel", "refused", "(I)I"⟩, 31) := ⟨⟨by decide +kernel, by decide +kernel⟩, List.mem_of_getElem? (i := 496) (by decide +kernel), List.mem_of_getElem? (i := 608) (by decide +kernel), List.mem_of_getElem? (i := 609) (by decide +kernel)⟩
theorem lw_p14 : lw_okq (⟨"YearDeckModel", "cellsBarred", "(IIIJ)I"⟩, 31) := ⟨⟨by decide +kernel, by decide +kernel⟩, List.mem_of_getElem? (i := 496) (by decide +kernel), List.mem_of_getElem? (i := 613) (by decide +kernel), List.mem_of_getElem? (i := 614) (by decide +kernel)⟩
theorem lw_p15 : lw_okq (⟨"YearDeckModel", "failed", "(I)I"⟩, 31) := ⟨⟨by decide +kernel, by decide +kernel⟩, List.mem_of_getElem? (i := 496) (by decide +kernel), List.mem_of_getElem? (i := 617) (by decide +kernel), List.mem_of_getElem? (i := 618) (by decide +kernel)⟩
def lw_privs_1 : List (MethodName × Nat) := [(⟨"YearDeck", "failed", "(I)I"⟩, 6), (⟨"YearDeck", "takeSitting", "(LYearDeck$Sheet;I)Z"⟩, 6), (⟨"YearDeck", "ofSitting", "(I)I"⟩, 6), (⟨"YearDeck", "eldest", "()I"⟩, 6), (⟨"YearDeck", "rightOnes", "()I"⟩, 6), (⟨"YearDeck$Ride", "bothAgree", "(LYearDeck$Rider;ILYearDeck$Rider;I)Z"⟩, 6), (⟨"YearDeck$Ride", "setsToBeRight", "(LYearDeck$Rider;)I"⟩, 6), (⟨"YearDeck$Ride", "canAllBeRight", "(III)Z"⟩, 6), (⟨"YearDeck$Sheet", "cutToLane", "(I)I"⟩, 3), (⟨"YearDeck", "toldAsRider", "(LYearDeck$Rider;)I"⟩, 6), (⟨"YearDeck", "beginBody", "(I)V"⟩, 6), (⟨"YearDeck", "toldAsLad", "(LYearDeck$Rider;)I"⟩, 6), (⟨"YearDeck", "toldAsElder", "(LYearDeck$Rider;)I"⟩, 6), (⟨"YearDeckModel", "refused", "(I)I"⟩, 31), (⟨"YearDeckModel", "cellsBarred", "(IIIJ)I"⟩, 31), (⟨"YearDeckModel", "failed", "(I)I"⟩, 31)]
theorem lw_r1 : ∀ q ∈ lw_privs_1, lw_okq q := List.forall_mem_cons.mpr ⟨lw_p0, List.forall_mem_cons.mpr ⟨lw_p1, List.forall_mem_cons.mpr ⟨lw_p2, List.forall_mem_cons.mpr ⟨lw_p3, List.forall_mem_cons.mpr ⟨lw_p4, List.forall_mem_cons.mpr ⟨lw_p5, List.forall_mem_cons.mpr ⟨lw_p6, List.forall_mem_cons.mpr ⟨lw_p7, List.forall_mem_cons.mpr ⟨lw_p8, List.forall_mem_cons.mpr ⟨lw_p9, List.forall_mem_cons.mpr ⟨lw_p10, List.forall_mem_cons.mpr ⟨lw_p11, List.forall_mem_cons.mpr ⟨lw_p12, List.forall_mem_cons.mpr ⟨lw_p13, List.forall_mem_cons.mpr ⟨lw_p14, List.forall_mem_cons.mpr ⟨lw_p15, fun _ h => absurd h List.not_mem_nil⟩⟩⟩⟩⟩⟩⟩⟩⟩⟩⟩⟩⟩⟩⟩⟩
theorem lw_p16 : lw_okq (⟨"YearDeckModel", "readsRide", "(II)Z"⟩, 31) := ⟨⟨by decide +kernel, by decide +kernel⟩, List.mem_of_getElem? (i := 496) (by decide +kernel), List.mem_of_getElem? (i := 624) (by decide +kernel), List.mem_of_getElem? (i := 625) (by decide +kernel)⟩
theorem lw_p17 : lw_okq (⟨"YearDeckModel", "codeAt", "(II)I"⟩, 31) := ⟨⟨by decide +kernel, by decide +kernel⟩, List.mem_of_getElem? (i := 496) (by decide +kernel), List.mem_of_getElem? (i := 628) (by decide +kernel), List.mem_of_getElem? (i := 629) (by decide +kernel)⟩
theorem lw_p18 : lw_okq (⟨"YearDeckModel", "figure", "(IIII)I"⟩, 31) := ⟨⟨by decide +kernel, by decide +kernel⟩, List.mem_of_getElem? (i := 496) (by decide +kernel), List.mem_of_getElem? (i := 632) (by decide +kernel), List.mem_of_getElem? (i := 633) (by decide +kernel)⟩
theorem lw_p19 : lw_okq (⟨"YearDeckModel", "readsSections", "(II)Z"⟩, 31) := ⟨⟨by decide +kernel, by decide +kernel⟩, List.mem_of_getElem? (i := 496) (by decide +kernel), List.mem_of_getElem? (i := 636) (by decide +kernel), List.mem_of_getElem? (i := 637) (by decide +kernel)⟩
theorem lw_p20 : lw_okq (⟨"YearDeckModel", "readsRider", "(II)Z"⟩, 31) := ⟨⟨by decide +kernel, by decide +kernel⟩, List.mem_of_getElem? (i := 496) (by decide +kernel), List.mem_of_getElem? (i := 640) (by decide +kernel), List.mem_of_getElem? (i := 641) (by decide +kernel)⟩
theorem lw_p21 : lw_okq (⟨"YearDeckModel", "twoFigures", "(III)I"⟩, 31) := ⟨⟨by decide +kernel, by decide +kernel⟩, List.mem_of_getElem? (i := 496) (by decide +kernel), List.mem_of_getElem? (i := 644) (by decide +kernel), List.mem_of_getElem? (i := 645) (by decide +kernel)⟩
theorem lw_p22 : lw_okq (⟨"YearDeckModel", "noRider", "(I)Z"⟩, 31) := ⟨⟨by decide +kernel, by decide +kernel⟩, List.mem_of_getElem? (i := 496) (by decide +kernel), List.mem_of_getElem? (i := 652) (by decide +kernel), List.mem_of_getElem? (i := 653) (by decide +kernel)⟩
theorem lw_p23 : lw_okq (⟨"YearDeckModel", "allOf", "(I)I"⟩, 31) := ⟨⟨by decide +kernel, by decide +kernel⟩, List.mem_of_getElem? (i := 496) (by decide +kernel), List.mem_of_getElem? (i := 656) (by decide +kernel), List.mem_of_getElem? (i := 657) (by decide +kernel)⟩
theorem lw_p24 : lw_okq (⟨"YearDeckModel", "noSection", "(I)Z"⟩, 31) := ⟨⟨by decide +kernel, by decide +kernel⟩, List.mem_of_getElem? (i := 496) (by decide +kernel), List.mem_of_getElem? (i := 664) (by decide +kernel), List.mem_of_getElem? (i := 665) (by decide +kernel)⟩
theorem lw_p25 : lw_okq (⟨"YearDeckModel", "gainOf", "(II)I"⟩, 31) := ⟨⟨by decide +kernel, by decide +kernel⟩, List.mem_of_getElem? (i := 496) (by decide +kernel), List.mem_of_getElem? (i := 685) (by decide +kernel), List.mem_of_getElem? (i := 686) (by decide +kernel)⟩
theorem lw_p26 : lw_okq (⟨"YearDeckModel", "noSetOf", "(II)Z"⟩, 31) := ⟨⟨by decide +kernel, by decide +kernel⟩, List.mem_of_getElem? (i := 496) (by decide +kernel), List.mem_of_getElem? (i := 693) (by decide +kernel), List.mem_of_getElem? (i := 694) (by decide +kernel)⟩
theorem lw_p27 : lw_okq (⟨"YearDeckModel", "ageBy", "(II)I"⟩, 31) := ⟨⟨by decide +kernel, by decide +kernel⟩, List.mem_of_getElem? (i := 496) (by decide +kernel), List.mem_of_getElem? (i := 697) (by decide +kernel), List.mem_of_getElem? (i := 698) (by decide +kernel)⟩
theorem lw_p28 : lw_okq (⟨"YearDeckModel", "sitBy", "(II)I"⟩, 31) := ⟨⟨by decide +kernel, by decide +kernel⟩, List.mem_of_getElem? (i := 496) (by decide +kernel), List.mem_of_getElem? (i := 712) (by decide +kernel), List.mem_of_getElem? (i := 713) (by decide +kernel)⟩
theorem lw_p29 : lw_okq (⟨"YearDeckModel", "wrongIn", "(I)I"⟩, 31) := ⟨⟨by decide +kernel, by decide +kernel⟩, List.mem_of_getElem? (i := 496) (by decide +kernel), List.mem_of_getElem? (i := 716) (by decide +kernel), List.mem_of_getElem? (i := 717) (by decide +kernel)⟩
theorem lw_p30 : lw_okq (⟨"YearDeckModel", "aboveOn", "(II)I"⟩, 31) := ⟨⟨by decide +kernel, by decide +kernel⟩, List.mem_of_getElem? (i := 496) (by decide +kernel), List.mem_of_getElem? (i := 720) (by decide +kernel), List.mem_of_getElem? (i := 721) (by decide +kernel)⟩
theorem lw_p31 : lw_okq (⟨"YearDeckModel", "maySit", "(II)Z"⟩, 31) := ⟨⟨by decide +kernel, by decide +kernel⟩, List.mem_of_getElem? (i := 496) (by decide +kernel), List.mem_of_getElem? (i := 732) (by decide +kernel), List.mem_of_getElem? (i := 733) (by decide +kernel)⟩
def lw_privs_2 : List (MethodName × Nat) := [(⟨"YearDeckModel", "readsRide", "(II)Z"⟩, 31), (⟨"YearDeckModel", "codeAt", "(II)I"⟩, 31), (⟨"YearDeckModel", "figure", "(IIII)I"⟩, 31), (⟨"YearDeckModel", "readsSections", "(II)Z"⟩, 31), (⟨"YearDeckModel", "readsRider", "(II)Z"⟩, 31), (⟨"YearDeckModel", "twoFigures", "(III)I"⟩, 31), (⟨"YearDeckModel", "noRider", "(I)Z"⟩, 31), (⟨"YearDeckModel", "allOf", "(I)I"⟩, 31), (⟨"YearDeckModel", "noSection", "(I)Z"⟩, 31), (⟨"YearDeckModel", "gainOf", "(II)I"⟩, 31), (⟨"YearDeckModel", "noSetOf", "(II)Z"⟩, 31), (⟨"YearDeckModel", "ageBy", "(II)I"⟩, 31), (⟨"YearDeckModel", "sitBy", "(II)I"⟩, 31), (⟨"YearDeckModel", "wrongIn", "(I)I"⟩, 31), (⟨"YearDeckModel", "aboveOn", "(II)I"⟩, 31), (⟨"YearDeckModel", "maySit", "(II)Z"⟩, 31)]
theorem lw_r2 : ∀ q ∈ lw_privs_2, lw_okq q := List.forall_mem_cons.mpr ⟨lw_p16, List.forall_mem_cons.mpr ⟨lw_p17, List.forall_mem_cons.mpr ⟨lw_p18, List.forall_mem_cons.mpr ⟨lw_p19, List.forall_mem_cons.mpr ⟨lw_p20, List.forall_mem_cons.mpr ⟨lw_p21, List.forall_mem_cons.mpr ⟨lw_p22, List.forall_mem_cons.mpr ⟨lw_p23, List.forall_mem_cons.mpr ⟨lw_p24, List.forall_mem_cons.mpr ⟨lw_p25, List.forall_mem_cons.mpr ⟨lw_p26, List.forall_mem_cons.mpr ⟨lw_p27, List.forall_mem_cons.mpr ⟨lw_p28, List.forall_mem_cons.mpr ⟨lw_p29, List.forall_mem_cons.mpr ⟨lw_p30, List.forall_mem_cons.mpr ⟨lw_p31, fun _ h => absurd h List.not_mem_nil⟩⟩⟩⟩⟩⟩⟩⟩⟩⟩⟩⟩⟩⟩⟩⟩
theorem lw_p32 : lw_okq (⟨"YearDeckModel", "haveSeats", "(II)Z"⟩, 31) := ⟨⟨by decide +kernel, by decide +kernel⟩, List.mem_of_getElem? (i := 496) (by decide +kernel), List.mem_of_getElem? (i := 745) (by decide +kernel), List.mem_of_getElem? (i := 746) (by decide +kernel)⟩
theorem lw_p33 : lw_okq (⟨"YearDeckModel", "canAllBeRight", "(I)Z"⟩, 31) := ⟨⟨by decide +kernel, by decide +kernel⟩, List.mem_of_getElem? (i := 496) (by decide +kernel), List.mem_of_getElem? (i := 753) (by decide +kernel), List.mem_of_getElem? (i := 754) (by decide +kernel)⟩
theorem lw_p34 : lw_okq (⟨"YearDeckModel", "goOn", "(I)V"⟩, 31) := ⟨⟨by decide +kernel, by decide +kernel⟩, List.mem_of_getElem? (i := 496) (by decide +kernel), List.mem_of_getElem? (i := 757) (by decide +kernel), List.mem_of_getElem? (i := 758) (by decide +kernel)⟩
theorem lw_p35 : lw_okq (⟨"YearDeckModel", "addTo", "(I)V"⟩, 31) := ⟨⟨by decide +kernel, by decide +kernel⟩, List.mem_of_getElem? (i := 496) (by decide +kernel), List.mem_of_getElem? (i := 761) (by decide +kernel), List.mem_of_getElem? (i := 762) (by decide +kernel)⟩
theorem lw_p36 : lw_okq (⟨"YearDeckModel", "withOne", "(II)I"⟩, 31) := ⟨⟨by decide +kernel, by decide +kernel⟩, List.mem_of_getElem? (i := 496) (by decide +kernel), List.mem_of_getElem? (i := 765) (by decide +kernel), List.mem_of_getElem? (i := 766) (by decide +kernel)⟩
theorem lw_p37 : lw_okq (⟨"YearDeckModel", "areSo", "()Z"⟩, 31) := ⟨⟨by decide +kernel, by decide +kernel⟩, List.mem_of_getElem? (i := 496) (by decide +kernel), List.mem_of_getElem? (i := 781) (by decide +kernel), List.mem_of_getElem? (i := 782) (by decide +kernel)⟩
theorem lw_p38 : lw_okq (⟨"YearDeckModel", "noCell", "(II)I"⟩, 31) := ⟨⟨by decide +kernel, by decide +kernel⟩, List.mem_of_getElem? (i := 496) (by decide +kernel), List.mem_of_getElem? (i := 816) (by decide +kernel), List.mem_of_getElem? (i := 817) (by decide +kernel)⟩
theorem lw_p39 : lw_okq (⟨"YearDeckModel", "failedLong", "(I)J"⟩, 31) := ⟨⟨by decide +kernel, by decide +kernel⟩, List.mem_of_getElem? (i := 496) (by decide +kernel), List.mem_of_getElem? (i := 824) (by decide +kernel), List.mem_of_getElem? (i := 825) (by decide +kernel)⟩
theorem lw_p40 : lw_okq (⟨"YearDeckModel", "traced", "(I)V"⟩, 31) := ⟨⟨by decide +kernel, by decide +kernel⟩, List.mem_of_getElem? (i := 496) (by decide +kernel), List.mem_of_getElem? (i := 836) (by decide +kernel), List.mem_of_getElem? (i := 837) (by decide +kernel)⟩
def lw_privs_3 : List (MethodName × Nat) := [(⟨"YearDeckModel", "haveSeats", "(II)Z"⟩, 31), (⟨"YearDeckModel", "canAllBeRight", "(I)Z"⟩, 31), (⟨"YearDeckModel", "goOn", "(I)V"⟩, 31), (⟨"YearDeckModel", "addTo", "(I)V"⟩, 31), (⟨"YearDeckModel", "withOne", "(II)I"⟩, 31), (⟨"YearDeckModel", "areSo", "()Z"⟩, 31), (⟨"YearDeckModel", "noCell", "(II)I"⟩, 31), (⟨"YearDeckModel", "failedLong", "(I)J"⟩, 31), (⟨"YearDeckModel", "traced", "(I)V"⟩, 31)]
theorem lw_r3 : ∀ q ∈ lw_privs_3, lw_okq q := List.forall_mem_cons.mpr ⟨lw_p32, List.forall_mem_cons.mpr ⟨lw_p33, List.forall_mem_cons.mpr ⟨lw_p34, List.forall_mem_cons.mpr ⟨lw_p35, List.forall_mem_cons.mpr ⟨lw_p36, List.forall_mem_cons.mpr ⟨lw_p37, List.forall_mem_cons.mpr ⟨lw_p38, List.forall_mem_cons.mpr ⟨lw_p39, List.forall_mem_cons.mpr ⟨lw_p40, fun _ h => absurd h List.not_mem_nil⟩⟩⟩⟩⟩⟩⟩⟩⟩
def lw_privs : List (MethodName × Nat) := lw_privs_1 ++ (lw_privs_2 ++ (lw_privs_3))
def lw_tbl : List Cond := k2_sels lw_privs ++ tables_1
theorem lw_privs_ok : ∀ q ∈ lw_privs, lw_okq q := by
  show ∀ q ∈ lw_privs_1 ++ (lw_privs_2 ++ (lw_privs_3)), lw_okq q
  exact List.forall_mem_append.mpr ⟨lw_r1, List.forall_mem_append.mpr ⟨lw_r2, lw_r3⟩⟩
end
section
/-! ===== BEGIN printed: names, fields, word lists, decode rows ===== -/
def RX0 : String := "YearDeck$Load"
def TX0 : u_T := fun k => match k with
  | _ => ("", "", "", false)
def tyX0 : Nat → FieldType := fun k => match k with
  | _ => .int
abbrev wsX00 : List Cond := u_ws RX0 TX0 0
theorem nmX0 : ∀ a, a < 0 → ∀ b, b < 0 → a ≠ b → (TX0 a).2.1 ≠ (TX0 b).2.1 := by decide +kernel
theorem tyX0_ok : ∀ k, k < 0 → parseFieldDescriptor (TX0 k).2.2.1 = some (tyX0 k) := by decide +kernel
abbrev cX0_of : ByteArray := prog_2_method_2_code
def yX0_of : MethodName := ⟨RX0, "of", "(I)I"⟩
abbrev cX0_on : ByteArray := prog_2_method_3_code
def yX0_on : MethodName := ⟨RX0, "on", "(II)I"⟩
def RX1 : String := "YearDeck$Readings"
def TX1 : u_T := fun k => match k with
  | 0 => ("YearDeck$Readings", "who", "[I", true)
  | 1 => ("YearDeck$Readings", "sets", "[I", true)
  | 2 => ("YearDeck$Readings", "years", "[I", true)
  | _ => ("YearDeck$Readings", "count", "I", false)
def tyX1 : Nat → FieldType := fun k => match k with
  | 0 => .array .int
  | 1 => .array .int
  | 2 => .array .int
  | _ => .int
abbrev wsX10 : List Cond := u_ws RX1 TX1 4
theorem nmX1 : ∀ a, a < 4 → ∀ b, b < 4 → a ≠ b → (TX1 a).2.1 ≠ (TX1 b).2.1 := by decide +kernel
theorem tyX1_ok : ∀ k, k < 4 → parseFieldDescriptor (TX1 k).2.2.1 = some (tyX1 k) := by decide +kernel
abbrev cX1_init : ByteArray := prog_3_method_1_code
def yX1_init : MethodName := ⟨RX1, "<init>", "()V"⟩
abbrev cX1_append : ByteArray := prog_3_method_2_code
def yX1_append : MethodName := ⟨RX1, "append", "(III)V"⟩
abbrev cX1_allHold : ByteArray := prog_3_method_3_code
def yX1_allHold : MethodName := ⟨RX1, "allHold", "(LYearDeck$Ride;)Z"⟩
def RX2 : String := "YearDeck$Ride"
def TX2 : u_T := fun k => match k with
  | 0 => ("YearDeck$Ride", "steep", "[I", true)
  | 1 => ("YearDeck$Ride", "riders", "[LYearDeck$Rider;", true)
  | 2 => ("YearDeck$Ride", "rightSets", "[I", true)
  | 3 => ("YearDeck$Ride", "seats", "I", false)
  | 4 => ("YearDeck$Ride", "sections", "I", false)
  | _ => ("YearDeck$Ride", "count", "I", false)
def tyX2 : Nat → FieldType := fun k => match k with
  | 0 => .array .int
  | 1 => .array (.object "YearDeck$Rider")
  | 2 => .array .int
  | 3 => .int
  | 4 => .int
  | _ => .int
abbrev wsX20 : List Cond := u_ws RX2 TX2 6
theorem nmX2 : ∀ a, a < 6 → ∀ b, b < 6 → a ≠ b → (TX2 a).2.1 ≠ (TX2 b).2.1 := by decide +kernel
theorem tyX2_ok : ∀ k, k < 6 → parseFieldDescriptor (TX2 k).2.2.1 = some (tyX2 k) := by decide +kernel
abbrev cX2_init : ByteArray := prog_4_method_1_code
def yX2_init : MethodName := ⟨RX2, "<init>", "()V"⟩
abbrev cX2_isTold : ByteArray := prog_4_method_2_code
def yX2_isTold : MethodName := ⟨RX2, "isTold", "()Z"⟩
abbrev cX2_hasRider : ByteArray := prog_4_method_3_code
def yX2_hasRider : MethodName := ⟨RX2, "hasRider", "(I)Z"⟩
abbrev cX2_hasSection : ByteArray := prog_4_method_4_code
def yX2_hasSection : MethodName := ⟨RX2, "hasSection", "(I)Z"⟩
abbrev cX2_board : ByteArray := prog_4_method_5_code
def yX2_board : MethodName := ⟨RX2, "board", "(LYearDeck$Sheet;II)V"⟩
abbrev cX2_yearsOff : ByteArray := prog_4_method_6_code
def yX2_yearsOff : MethodName := ⟨RX2, "yearsOff", "(LYearDeck$Rider;I)I"⟩
abbrev cX2_isRight : ByteArray := prog_4_method_7_code
def yX2_isRight : MethodName := ⟨RX2, "isRight", "(LYearDeck$Rider;I)Z"⟩
abbrev cX2_canSitAlone : ByteArray := prog_4_method_8_code
def yX2_canSitAlone : MethodName := ⟨RX2, "canSitAlone", "(LYearDeck$Rider;I)Z"⟩
abbrev cX2_firstOver : ByteArray := prog_4_method_9_code
def yX2_firstOver : MethodName := ⟨RX2, "firstOver", "(I)I"⟩
abbrev cX2_agreeing : ByteArray := prog_4_method_10_code
def yX2_agreeing : MethodName := ⟨RX2, "agreeing", "(LYearDeck$Rider;LYearDeck$Rider;)I"⟩
abbrev cX2_bothAgree : ByteArray := prog_4_method_11_code
def yX2_bothAgree : MethodName := ⟨RX2, "bothAgree", "(LYearDeck$Rider;ILYearDeck$Rider;I)Z"⟩
abbrev cX2_firstOf : ByteArray := prog_4_method_12_code
def yX2_firstOf : MethodName := ⟨RX2, "firstOf", "(I)I"⟩
abbrev cX2_otherOf : ByteArray := prog_4_method_13_code
def yX2_otherOf : MethodName := ⟨RX2, "otherOf", "(I)I"⟩
abbrev cX2_mostRight : ByteArray := prog_4_method_14_code
def yX2_mostRight : MethodName := ⟨RX2, "mostRight", "()I"⟩
abbrev cX2_setsToBeRight : ByteArray := prog_4_method_15_code
def yX2_setsToBeRight : MethodName := ⟨RX2, "setsToBeRight", "(LYearDeck$Rider;)I"⟩
abbrev cX2_canAllBeRight : ByteArray := prog_4_method_16_code
def yX2_canAllBeRight : MethodName := ⟨RX2, "canAllBeRight", "(III)Z"⟩
def RX3 : String := "YearDeck$RideText"
def TX3 : u_T := fun k => match k with
  | _ => ("", "", "", false)
def tyX3 : Nat → FieldType := fun k => match k with
  | _ => .int
abbrev wsX30 : List Cond := u_ws RX3 TX3 0
theorem nmX3 : ∀ a, a < 0 → ∀ b, b < 0 → a ≠ b → (TX3 a).2.1 ≠ (TX3 b).2.1 := by decide +kernel
theorem tyX3_ok : ∀ k, k < 0 → parseFieldDescriptor (TX3 k).2.2.1 = some (tyX3 k) := by decide +kernel
abbrev cX3_firstFault : ByteArray := prog_5_method_2_code
def yX3_firstFault : MethodName := ⟨RX3, "firstFault", "(LYearDeck$Sheet;II)I"⟩
abbrev cX3_sectionsTold : ByteArray := prog_5_method_3_code
def yX3_sectionsTold : MethodName := ⟨RX3, "sectionsTold", "(LYearDeck$Sheet;II)I"⟩
abbrev cX3_goesOn : ByteArray := prog_5_method_4_code
def yX3_goesOn : MethodName := ⟨RX3, "goesOn", "(LYearDeck$Sheet;III)Z"⟩
abbrev cX3_riderGoesOn : ByteArray := prog_5_method_5_code
def yX3_riderGoesOn : MethodName := ⟨RX3, "riderGoesOn", "(LYearDeck$Sheet;III)Z"⟩
abbrev cX3_kindOf : ByteArray := prog_5_method_6_code
def yX3_kindOf : MethodName := ⟨RX3, "kindOf", "(I)I"⟩
abbrev cX3_digit : ByteArray := prog_5_method_7_code
def yX3_digit : MethodName := ⟨RX3, "digit", "(I)I"⟩
abbrev cX3_isDigit : ByteArray := prog_5_method_8_code
def yX3_isDigit : MethodName := ⟨RX3, "isDigit", "(III)Z"⟩
def RX4 : String := "YearDeck$Rider"
def TX4 : u_T := fun k => match k with
  | 0 => ("YearDeck$Rider", "kind", "I", false)
  | 1 => ("YearDeck$Rider", "on", "I", false)
  | 2 => ("YearDeck$Rider", "off", "I", false)
  | 3 => ("YearDeck$Rider", "years", "I", false)
  | _ => ("YearDeck$Rider", "want", "I", false)
def tyX4 : Nat → FieldType := fun k => match k with
  | 0 => .int
  | 1 => .int
  | 2 => .int
  | 3 => .int
  | _ => .int
abbrev wsX40 : List Cond := u_ws RX4 TX4 5
theorem nmX4 : ∀ a, a < 5 → ∀ b, b < 5 → a ≠ b → (TX4 a).2.1 ≠ (TX4 b).2.1 := by decide +kernel
theorem tyX4_ok : ∀ k, k < 5 → parseFieldDescriptor (TX4 k).2.2.1 = some (tyX4 k) := by decide +kernel
abbrev cX4_init : ByteArray := prog_6_method_1_code
def yX4_init : MethodName := ⟨RX4, "<init>", "()V"⟩
abbrev cX4_board : ByteArray := prog_6_method_2_code
def yX4_board : MethodName := ⟨RX4, "board", "(LYearDeck$Sheet;I)V"⟩
abbrev cX4_twoDigits : ByteArray := prog_6_method_3_code
def yX4_twoDigits : MethodName := ⟨RX4, "twoDigits", "(LYearDeck$Sheet;I)I"⟩
abbrev cX4_own : ByteArray := prog_6_method_4_code
def yX4_own : MethodName := ⟨RX4, "own", "()I"⟩
abbrev cX4_owns : ByteArray := prog_6_method_5_code
def yX4_owns : MethodName := ⟨RX4, "owns", "(I)Z"⟩
abbrev cX4_yearsAbove : ByteArray := prog_6_method_6_code
def yX4_yearsAbove : MethodName := ⟨RX4, "yearsAbove", "(I)I"⟩
def RX5 : String := "YearDeck$Sheet"
def TX5 : u_T := fun k => match k with
  | 0 => ("YearDeck$Sheet", "cells", "[I", true)
  | 1 => ("YearDeck$Sheet", "lane", "I", false)
  | _ => ("YearDeck$Sheet", "length", "I", false)
def tyX5 : Nat → FieldType := fun k => match k with
  | 0 => .array .int
  | 1 => .int
  | _ => .int
abbrev wsX50 : List Cond := u_ws RX5 TX5 3
theorem nmX5 : ∀ a, a < 3 → ∀ b, b < 3 → a ≠ b → (TX5 a).2.1 ≠ (TX5 b).2.1 := by decide +kernel
theorem tyX5_ok : ∀ k, k < 3 → parseFieldDescriptor (TX5 k).2.2.1 = some (tyX5 k) := by decide +kernel
abbrev cX5_init : ByteArray := prog_7_method_1_code
def yX5_init : MethodName := ⟨RX5, "<init>", "()V"⟩
abbrev cX5_hasRow : ByteArray := prog_7_method_2_code
def yX5_hasRow : MethodName := ⟨RX5, "hasRow", "()Z"⟩
abbrev cX5_renew : ByteArray := prog_7_method_3_code
def yX5_renew : MethodName := ⟨RX5, "renew", "(II)V"⟩
abbrev cX5_drop : ByteArray := prog_7_method_4_code
def yX5_drop : MethodName := ⟨RX5, "drop", "()V"⟩
abbrev cX5_hasCell : ByteArray := prog_7_method_5_code
def yX5_hasCell : MethodName := ⟨RX5, "hasCell", "(I)Z"⟩
abbrev cX5_hasCells : ByteArray := prog_7_method_6_code
def yX5_hasCells : MethodName := ⟨RX5, "hasCells", "(II)Z"⟩
abbrev cX5_at : ByteArray := prog_7_method_7_code
def yX5_at : MethodName := ⟨RX5, "at", "(I)I"⟩
abbrev cX5_write : ByteArray := prog_7_method_8_code
def yX5_write : MethodName := ⟨RX5, "write", "(II)V"⟩
abbrev cX5_cutToLane : ByteArray := prog_7_method_9_code
def yX5_cutToLane : MethodName := ⟨RX5, "cutToLane", "(I)I"⟩
abbrev cX5_faultOfRow : ByteArray := prog_7_method_10_code
def yX5_faultOfRow : MethodName := ⟨RX5, "faultOfRow", "(I)I"⟩
abbrev cX5_faultOfCells : ByteArray := prog_7_method_11_code
def yX5_faultOfCells : MethodName := ⟨RX5, "faultOfCells", "(III)I"⟩
def RX6 : String := "YearDeck"
def TX6 : u_T := fun k => match k with
  | 0 => ("YearDeck", "trip", "LYearDeck$Ride;", true)
  | 1 => ("YearDeck", "read", "LYearDeck$Readings;", true)
  | 2 => ("YearDeck", "sheets", "[LYearDeck$Sheet;", true)
  | 3 => ("YearDeck", "sitting", "[I", true)
  | 4 => ("YearDeck", "traced", "I", false)
  | _ => ("YearDeck", "lastFault", "I", false)
def tyX6 : Nat → FieldType := fun k => match k with
  | 0 => .object "YearDeck$Ride"
  | 1 => .object "YearDeck$Readings"
  | 2 => .array (.object "YearDeck$Sheet")
  | 3 => .array .int
  | 4 => .int
  | _ => .int
abbrev wsX60 : List Cond := u_ws RX6 TX6 6
theorem nmX6 : ∀ a, a < 6 → ∀ b, b < 6 → a ≠ b → (TX6 a).2.1 ≠ (TX6 b).2.1 := by decide +kernel
theorem tyX6_ok : ∀ k, k < 6 → parseFieldDescriptor (TX6 k).2.2.1 = some (tyX6 k) := by decide +kernel
abbrev cX6_init : ByteArray := prog_1_method_1_code
def yX6_init : MethodName := ⟨RX6, "<init>", "()V"⟩
abbrev cX6_ride : ByteArray := prog_1_method_2_code
def yX6_ride : MethodName := ⟨RX6, "ride", "(IIII)I"⟩
abbrev cX6_ofRider : ByteArray := prog_1_method_3_code
def yX6_ofRider : MethodName := ⟨RX6, "ofRider", "(II)I"⟩
abbrev cX6_slope : ByteArray := prog_1_method_4_code
def yX6_slope : MethodName := ⟨RX6, "slope", "(I)I"⟩
abbrev cX6_tilt : ByteArray := prog_1_method_5_code
def yX6_tilt : MethodName := ⟨RX6, "tilt", "(II)I"⟩
abbrev cX6_seat : ByteArray := prog_1_method_6_code
def yX6_seat : MethodName := ⟨RX6, "seat", "(I)I"⟩
abbrev cX6_wish : ByteArray := prog_1_method_7_code
def yX6_wish : MethodName := ⟨RX6, "wish", "(II)I"⟩
abbrev cX6_gain : ByteArray := prog_1_method_8_code
def yX6_gain : MethodName := ⟨RX6, "gain", "(II)I"⟩
abbrev cX6_age : ByteArray := prog_1_method_9_code
def yX6_age : MethodName := ⟨RX6, "age", "(II)I"⟩
abbrev cX6_sit : ByteArray := prog_1_method_10_code
def yX6_sit : MethodName := ⟨RX6, "sit", "(IIIII)I"⟩
abbrev cX6_isSittingQuestion : ByteArray := prog_1_method_11_code
def yX6_isSittingQuestion : MethodName := ⟨RX6, "isSittingQuestion", "(I)Z"⟩
abbrev cX6_takeSitting : ByteArray := prog_1_method_12_code
def yX6_takeSitting : MethodName := ⟨RX6, "takeSitting", "(LYearDeck$Sheet;I)Z"⟩
abbrev cX6_ofSitting : ByteArray := prog_1_method_13_code
def yX6_ofSitting : MethodName := ⟨RX6, "ofSitting", "(I)I"⟩
abbrev cX6_rightOnes : ByteArray := prog_1_method_14_code
def yX6_rightOnes : MethodName := ⟨RX6, "rightOnes", "()I"⟩
abbrev cX6_eldest : ByteArray := prog_1_method_15_code
def yX6_eldest : MethodName := ⟨RX6, "eldest", "()I"⟩
abbrev cX6_way : ByteArray := prog_1_method_16_code
def yX6_way : MethodName := ⟨RX6, "way", "(II)I"⟩
abbrev cX6_spread : ByteArray := prog_1_method_17_code
def yX6_spread : MethodName := ⟨RX6, "spread", "(I)I"⟩
abbrev cX6_agree : ByteArray := prog_1_method_18_code
def yX6_agree : MethodName := ⟨RX6, "agree", "(III)I"⟩
abbrev cX6_most : ByteArray := prog_1_method_19_code
def yX6_most : MethodName := ⟨RX6, "most", "()I"⟩
abbrev cX6_reading : ByteArray := prog_1_method_20_code
def yX6_reading : MethodName := ⟨RX6, "reading", "(III)I"⟩
abbrev cX6_back : ByteArray := prog_1_method_21_code
def yX6_back : MethodName := ⟨RX6, "back", "(I)I"⟩
abbrev cX6_slopes : ByteArray := prog_1_method_22_code
def yX6_slopes : MethodName := ⟨RX6, "slopes", "(I)I"⟩
abbrev cX6_kinds : ByteArray := prog_1_method_23_code
def yX6_kinds : MethodName := ⟨RX6, "kinds", "(I)I"⟩
abbrev cX6_began : ByteArray := prog_1_method_24_code
def yX6_began : MethodName := ⟨RX6, "began", "(II)I"⟩
abbrev cX6_odds : ByteArray := prog_1_method_25_code
def yX6_odds : MethodName := ⟨RX6, "odds", "(III)J"⟩
abbrev cX6_sheet : ByteArray := prog_1_method_26_code
def yX6_sheet : MethodName := ⟨RX6, "sheet", "(III)I"⟩
abbrev cX6_lose : ByteArray := prog_1_method_27_code
def yX6_lose : MethodName := ⟨RX6, "lose", "(I)I"⟩
abbrev cX6_put : ByteArray := prog_1_method_28_code
def yX6_put : MethodName := ⟨RX6, "put", "(III)I"⟩
abbrev cX6_cell : ByteArray := prog_1_method_29_code
def yX6_cell : MethodName := ⟨RX6, "cell", "(III)J"⟩
abbrev cX6_copy : ByteArray := prog_1_method_30_code
def yX6_copy : MethodName := ⟨RX6, "copy", "(IIIII)I"⟩
abbrev cX6_tell : ByteArray := prog_1_method_31_code
def yX6_tell : MethodName := ⟨RX6, "tell", "(I)I"⟩
abbrev cX6_ring : ByteArray := prog_1_method_32_code
def yX6_ring : MethodName := ⟨RX6, "ring", "(I)I"⟩
abbrev cX6_as : ByteArray := prog_1_method_33_code
def yX6_as : MethodName := ⟨RX6, "as", "(II)I"⟩
abbrev cX6_trace : ByteArray := prog_1_method_34_code
def yX6_trace : MethodName := ⟨RX6, "trace", "()I"⟩
abbrev cX6_fault : ByteArray := prog_1_method_35_code
def yX6_fault : MethodName := ⟨RX6, "fault", "()I"⟩
abbrev cX6_many : ByteArray := prog_1_method_36_code
def yX6_many : MethodName := ⟨RX6, "many", "(I)I"⟩
abbrev cX6_toldAsRider : ByteArray := prog_1_method_37_code
def yX6_toldAsRider : MethodName := ⟨RX6, "toldAsRider", "(LYearDeck$Rider;)I"⟩
abbrev cX6_toldAsLad : ByteArray := prog_1_method_38_code
def yX6_toldAsLad : MethodName := ⟨RX6, "toldAsLad", "(LYearDeck$Rider;)I"⟩
abbrev cX6_toldAsElder : ByteArray := prog_1_method_39_code
def yX6_toldAsElder : MethodName := ⟨RX6, "toldAsElder", "(LYearDeck$Rider;)I"⟩
abbrev cX6_beginBody : ByteArray := prog_1_method_40_code
def yX6_beginBody : MethodName := ⟨RX6, "beginBody", "(I)V"⟩
abbrev cX6_failed : ByteArray := prog_1_method_41_code
def yX6_failed : MethodName := ⟨RX6, "failed", "(I)I"⟩
abbrev cX6_isSheet : ByteArray := prog_1_method_42_code
def yX6_isSheet : MethodName := ⟨RX6, "isSheet", "(I)Z"⟩
abbrev cX6_isLane : ByteArray := prog_1_method_43_code
def yX6_isLane : MethodName := ⟨RX6, "isLane", "(I)Z"⟩
abbrev cX6_within : ByteArray := prog_1_method_44_code
def yX6_within : MethodName := ⟨RX6, "within", "(II)Z"⟩
def RX7 : String := "YearDeckModel"
def TX7 : u_T := fun k => match k with
  | 0 => ("YearDeckModel", "fault", "I", false)
  | 1 => ("YearDeckModel", "seats", "I", false)
  | 2 => ("YearDeckModel", "sections", "I", false)
  | 3 => ("YearDeckModel", "slopeOf", "[I", true)
  | 4 => ("YearDeckModel", "riders", "I", false)
  | 5 => ("YearDeckModel", "kindOf", "[I", true)
  | 6 => ("YearDeckModel", "onOf", "[I", true)
  | 7 => ("YearDeckModel", "offOf", "[I", true)
  | 8 => ("YearDeckModel", "ageOf", "[I", true)
  | 9 => ("YearDeckModel", "wantOf", "[I", true)
  | 10 => ("YearDeckModel", "readAt", "I", false)
  | 11 => ("YearDeckModel", "readSeats", "I", false)
  | 12 => ("YearDeckModel", "readSections", "I", false)
  | 13 => ("YearDeckModel", "readRiders", "I", false)
  | 14 => ("YearDeckModel", "readSlope", "[I", true)
  | 15 => ("YearDeckModel", "readKind", "[I", true)
  | 16 => ("YearDeckModel", "readOn", "[I", true)
  | 17 => ("YearDeckModel", "readOff", "[I", true)
  | 18 => ("YearDeckModel", "readAge", "[I", true)
  | 19 => ("YearDeckModel", "readWant", "[I", true)
  | 20 => ("YearDeckModel", "canBe", "[Z", true)
  | 21 => ("YearDeckModel", "canThen", "[Z", true)
  | 22 => ("YearDeckModel", "readings", "I", false)
  | 23 => ("YearDeckModel", "readingOf", "[I", true)
  | 24 => ("YearDeckModel", "readingBy", "[I", true)
  | 25 => ("YearDeckModel", "readingWas", "[I", true)
  | 26 => ("YearDeckModel", "sheetSize", "[I", true)
  | 27 => ("YearDeckModel", "sheetLane", "[I", true)
  | 28 => ("YearDeckModel", "sheet", "[I", true)
  | 29 => ("YearDeckModel", "hands", "[I", true)
  | _ => ("YearDeckModel", "traceNow", "I", false)
def tyX7 : Nat → FieldType := fun k => match k with
  | 0 => .int
  | 1 => .int
  | 2 => .int
  | 3 => .array .int
  | 4 => .int
  | 5 => .array .int
  | 6 => .array .int
  | 7 => .array .int
  | 8 => .array .int
  | 9 => .array .int
  | 10 => .int
  | 11 => .int
  | 12 => .int
  | 13 => .int
  | 14 => .array .int
  | 15 => .array .int
  | 16 => .array .int
  | 17 => .array .int
  | 18 => .array .int
  | 19 => .array .int
  | 20 => .array .boolean
  | 21 => .array .boolean
  | 22 => .int
  | 23 => .array .int
  | 24 => .array .int
  | 25 => .array .int
  | 26 => .array .int
  | 27 => .array .int
  | 28 => .array .int
  | 29 => .array .int
  | _ => .int
abbrev wsX70 : List Cond := u_ws RX7 TX7 31
theorem nmX7 : ∀ a, a < 31 → ∀ b, b < 31 → a ≠ b → (TX7 a).2.1 ≠ (TX7 b).2.1 := by decide +kernel
theorem tyX7_ok : ∀ k, k < 31 → parseFieldDescriptor (TX7 k).2.2.1 = some (tyX7 k) := by decide +kernel
abbrev cX7_init : ByteArray := prog_9_method_1_code
def yX7_init : MethodName := ⟨RX7, "<init>", "()V"⟩
abbrev cX7_in : ByteArray := prog_9_method_2_code
def yX7_in : MethodName := ⟨RX7, "in", "(JJJ)Z"⟩
abbrev cX7_lost : ByteArray := prog_9_method_3_code
def yX7_lost : MethodName := ⟨RX7, "lost", "()J"⟩
abbrev cX7_isIn : ByteArray := prog_9_method_4_code
def yX7_isIn : MethodName := ⟨RX7, "isIn", "(II)Z"⟩
abbrev cX7_bits : ByteArray := prog_9_method_5_code
def yX7_bits : MethodName := ⟨RX7, "bits", "(I)I"⟩
abbrev cX7_share : ByteArray := prog_9_method_6_code
def yX7_share : MethodName := ⟨RX7, "share", "(JJI)J"⟩
abbrev cX7_refused : ByteArray := prog_9_method_7_code
def yX7_refused : MethodName := ⟨RX7, "refused", "(I)I"⟩
abbrev cX7_failed : ByteArray := prog_9_method_8_code
def yX7_failed : MethodName := ⟨RX7, "failed", "(I)I"⟩
abbrev cX7_failedLong : ByteArray := prog_9_method_9_code
def yX7_failedLong : MethodName := ⟨RX7, "failedLong", "(I)J"⟩
abbrev cX7_noSection : ByteArray := prog_9_method_10_code
def yX7_noSection : MethodName := ⟨RX7, "noSection", "(I)Z"⟩
abbrev cX7_noRider : ByteArray := prog_9_method_11_code
def yX7_noRider : MethodName := ⟨RX7, "noRider", "(I)Z"⟩
abbrev cX7_allOf : ByteArray := prog_9_method_12_code
def yX7_allOf : MethodName := ⟨RX7, "allOf", "(I)I"⟩
abbrev cX7_noSetOf : ByteArray := prog_9_method_13_code
def yX7_noSetOf : MethodName := ⟨RX7, "noSetOf", "(II)Z"⟩
abbrev cX7_codeAt : ByteArray := prog_9_method_14_code
def yX7_codeAt : MethodName := ⟨RX7, "codeAt", "(II)I"⟩
abbrev cX7_figure : ByteArray := prog_9_method_15_code
def yX7_figure : MethodName := ⟨RX7, "figure", "(IIII)I"⟩
abbrev cX7_twoFigures : ByteArray := prog_9_method_16_code
def yX7_twoFigures : MethodName := ⟨RX7, "twoFigures", "(III)I"⟩
abbrev cX7_readsSections : ByteArray := prog_9_method_17_code
def yX7_readsSections : MethodName := ⟨RX7, "readsSections", "(II)Z"⟩
abbrev cX7_readsRider : ByteArray := prog_9_method_18_code
def yX7_readsRider : MethodName := ⟨RX7, "readsRider", "(II)Z"⟩
abbrev cX7_readsRide : ByteArray := prog_9_method_19_code
def yX7_readsRide : MethodName := ⟨RX7, "readsRide", "(II)Z"⟩
abbrev cX7_cellsBarred : ByteArray := prog_9_method_20_code
def yX7_cellsBarred : MethodName := ⟨RX7, "cellsBarred", "(IIIJ)I"⟩
abbrev cX7_ride : ByteArray := prog_9_method_21_code
def yX7_ride : MethodName := ⟨RX7, "ride", "(IIII)I"⟩
abbrev cX7_ofRider : ByteArray := prog_9_method_22_code
def yX7_ofRider : MethodName := ⟨RX7, "ofRider", "(II)I"⟩
abbrev cX7_slope : ByteArray := prog_9_method_23_code
def yX7_slope : MethodName := ⟨RX7, "slope", "(I)I"⟩
abbrev cX7_tilt : ByteArray := prog_9_method_24_code
def yX7_tilt : MethodName := ⟨RX7, "tilt", "(II)I"⟩
abbrev cX7_seat : ByteArray := prog_9_method_25_code
def yX7_seat : MethodName := ⟨RX7, "seat", "(I)I"⟩
abbrev cX7_wish : ByteArray := prog_9_method_26_code
def yX7_wish : MethodName := ⟨RX7, "wish", "(II)I"⟩
abbrev cX7_gainOf : ByteArray := prog_9_method_27_code
def yX7_gainOf : MethodName := ⟨RX7, "gainOf", "(II)I"⟩
abbrev cX7_gain : ByteArray := prog_9_method_28_code
def yX7_gain : MethodName := ⟨RX7, "gain", "(II)I"⟩
abbrev cX7_ageBy : ByteArray := prog_9_method_29_code
def yX7_ageBy : MethodName := ⟨RX7, "ageBy", "(II)I"⟩
abbrev cX7_age : ByteArray := prog_9_method_30_code
def yX7_age : MethodName := ⟨RX7, "age", "(II)I"⟩
abbrev cX7_aboveOn : ByteArray := prog_9_method_31_code
def yX7_aboveOn : MethodName := ⟨RX7, "aboveOn", "(II)I"⟩
abbrev cX7_wrongIn : ByteArray := prog_9_method_32_code
def yX7_wrongIn : MethodName := ⟨RX7, "wrongIn", "(I)I"⟩
abbrev cX7_sitBy : ByteArray := prog_9_method_33_code
def yX7_sitBy : MethodName := ⟨RX7, "sitBy", "(II)I"⟩
abbrev cX7_sit : ByteArray := prog_9_method_34_code
def yX7_sit : MethodName := ⟨RX7, "sit", "(IIIII)I"⟩
abbrev cX7_maySit : ByteArray := prog_9_method_35_code
def yX7_maySit : MethodName := ⟨RX7, "maySit", "(II)Z"⟩
abbrev cX7_way : ByteArray := prog_9_method_36_code
def yX7_way : MethodName := ⟨RX7, "way", "(II)I"⟩
abbrev cX7_spread : ByteArray := prog_9_method_37_code
def yX7_spread : MethodName := ⟨RX7, "spread", "(I)I"⟩
abbrev cX7_haveSeats : ByteArray := prog_9_method_38_code
def yX7_haveSeats : MethodName := ⟨RX7, "haveSeats", "(II)Z"⟩
abbrev cX7_agree : ByteArray := prog_9_method_39_code
def yX7_agree : MethodName := ⟨RX7, "agree", "(III)I"⟩
abbrev cX7_withOne : ByteArray := prog_9_method_40_code
def yX7_withOne : MethodName := ⟨RX7, "withOne", "(II)I"⟩
abbrev cX7_goOn : ByteArray := prog_9_method_41_code
def yX7_goOn : MethodName := ⟨RX7, "goOn", "(I)V"⟩
abbrev cX7_addTo : ByteArray := prog_9_method_42_code
def yX7_addTo : MethodName := ⟨RX7, "addTo", "(I)V"⟩
abbrev cX7_canAllBeRight : ByteArray := prog_9_method_43_code
def yX7_canAllBeRight : MethodName := ⟨RX7, "canAllBeRight", "(I)Z"⟩
abbrev cX7_most : ByteArray := prog_9_method_44_code
def yX7_most : MethodName := ⟨RX7, "most", "()I"⟩
abbrev cX7_reading : ByteArray := prog_9_method_45_code
def yX7_reading : MethodName := ⟨RX7, "reading", "(III)I"⟩
abbrev cX7_back : ByteArray := prog_9_method_46_code
def yX7_back : MethodName := ⟨RX7, "back", "(I)I"⟩
abbrev cX7_areSo : ByteArray := prog_9_method_47_code
def yX7_areSo : MethodName := ⟨RX7, "areSo", "()Z"⟩
abbrev cX7_slopes : ByteArray := prog_9_method_48_code
def yX7_slopes : MethodName := ⟨RX7, "slopes", "(I)I"⟩
abbrev cX7_kinds : ByteArray := prog_9_method_49_code
def yX7_kinds : MethodName := ⟨RX7, "kinds", "(I)I"⟩
abbrev cX7_began : ByteArray := prog_9_method_50_code
def yX7_began : MethodName := ⟨RX7, "began", "(II)I"⟩
abbrev cX7_odds : ByteArray := prog_9_method_51_code
def yX7_odds : MethodName := ⟨RX7, "odds", "(III)J"⟩
abbrev cX7_noSheet : ByteArray := prog_9_method_52_code
def yX7_noSheet : MethodName := ⟨RX7, "noSheet", "(I)Z"⟩
abbrev cX7_sheet : ByteArray := prog_9_method_53_code
def yX7_sheet : MethodName := ⟨RX7, "sheet", "(III)I"⟩
abbrev cX7_lose : ByteArray := prog_9_method_54_code
def yX7_lose : MethodName := ⟨RX7, "lose", "(I)I"⟩
abbrev cX7_noCell : ByteArray := prog_9_method_55_code
def yX7_noCell : MethodName := ⟨RX7, "noCell", "(II)I"⟩
abbrev cX7_put : ByteArray := prog_9_method_56_code
def yX7_put : MethodName := ⟨RX7, "put", "(III)I"⟩
abbrev cX7_cell : ByteArray := prog_9_method_57_code
def yX7_cell : MethodName := ⟨RX7, "cell", "(III)J"⟩
abbrev cX7_isBeyond : ByteArray := prog_9_method_58_code
def yX7_isBeyond : MethodName := ⟨RX7, "isBeyond", "(IJI)Z"⟩
abbrev cX7_copy : ByteArray := prog_9_method_59_code
def yX7_copy : MethodName := ⟨RX7, "copy", "(IIIII)I"⟩
abbrev cX7_traced : ByteArray := prog_9_method_60_code
def yX7_traced : MethodName := ⟨RX7, "traced", "(I)V"⟩
abbrev cX7_tell : ByteArray := prog_9_method_61_code
def yX7_tell : MethodName := ⟨RX7, "tell", "(I)I"⟩
abbrev cX7_ring : ByteArray := prog_9_method_62_code
def yX7_ring : MethodName := ⟨RX7, "ring", "(I)I"⟩
abbrev cX7_as : ByteArray := prog_9_method_63_code
def yX7_as : MethodName := ⟨RX7, "as", "(II)I"⟩
abbrev cX7_trace : ByteArray := prog_9_method_64_code
def yX7_trace : MethodName := ⟨RX7, "trace", "()I"⟩
abbrev cX7_fault : ByteArray := prog_9_method_65_code
def yX7_fault : MethodName := ⟨RX7, "fault", "()I"⟩
abbrev cX7_many : ByteArray := prog_9_method_66_code
def yX7_many : MethodName := ⟨RX7, "many", "(I)I"⟩
def RJ6 : String := "java/lang/Integer"
def TJ6 : u_T := fun k => match k with
  | _ => ("", "", "", false)
def tyJ6 : Nat → FieldType := fun k => match k with
  | _ => .int
abbrev wsJ60 : List Cond := u_ws RJ6 TJ6 0
theorem nmJ6 : ∀ a, a < 0 → ∀ b, b < 0 → a ≠ b → (TJ6 a).2.1 ≠ (TJ6 b).2.1 := by decide +kernel
theorem tyJ6_ok : ∀ k, k < 0 → parseFieldDescriptor (TJ6 k).2.2.1 = some (tyJ6 k) := by decide +kernel
abbrev cJ6_bitCount_0f7a4 : ByteArray := prog_10_method_49_code
def yJ6_bitCount_0f7a4 : MethodName := ⟨RJ6, "bitCount", "(I)I"⟩
def RJ9 : String := "java/lang/Math"
def TJ9 : u_T := fun k => match k with
  | _ => ("", "", "", false)
def tyJ9 : Nat → FieldType := fun k => match k with
  | _ => .int
abbrev wsJ90 : List Cond := u_ws RJ9 TJ9 0
theorem nmJ9 : ∀ a, a < 0 → ∀ b, b < 0 → a ≠ b → (TJ9 a).2.1 ≠ (TJ9 b).2.1 := by decide +kernel
theorem tyJ9_ok : ∀ k, k < 0 → parseFieldDescriptor (TJ9 k).2.2.1 = some (tyJ9 k) := by decide +kernel
abbrev cJ9_min_7cf53 : ByteArray := prog_11_method_69_code
def yJ9_min_7cf53 : MethodName := ⟨RJ9, "min", "(II)I"⟩
def RJ10 : String := "java/lang/System"
def TJ10 : u_T := fun k => match k with
  | _ => ("", "", "", false)
def tyJ10 : Nat → FieldType := fun k => match k with
  | _ => .int
abbrev wsJ100 : List Cond := u_ws RJ10 TJ10 0
theorem nmJ10 : ∀ a, a < 0 → ∀ b, b < 0 → a ≠ b → (TJ10 a).2.1 ≠ (TJ10 b).2.1 := by decide +kernel
theorem tyJ10_ok : ∀ k, k < 0 → parseFieldDescriptor (TJ10 k).2.2.1 = some (tyJ10 k) := by decide +kernel
def RL : String := "YearDeckLaw"
abbrev cL_law : ByteArray := code
def yL_law : MethodName := ⟨RL, "law", "([I)Z"⟩
abbrev vwCl : List vw_C := [(RX1, TX1, 4), (RX2, TX2, 6), (RX4, TX4, 5), (RX5, TX5, 3), (RX6, TX6, 6), (RX7, TX7, 31)]
end
section
theorem dX0_of_0 : decode cX0_of 0 = .ok (.iconst 0, 1) := by decide +kernel
theorem dX0_of_1 : decode cX0_of 1 = .ok (.istore_n 1, 1) := by decide +kernel
theorem dX0_of_2 : decode cX0_of 2 = .ok (.iconst 0, 1) := by decide +kernel
theorem dX0_of_3 : decode cX0_of 3 = .ok (.istore_n 2, 1) := by decide +kernel
theorem dX0_of_4 : decode cX0_of 4 = .ok (.iload_n 2, 1) := by decide +kernel
theorem dX0_of_5 : decode cX0_of 5 = .ok (.iconst 5, 1) := by decide +kernel
theorem dX0_of_6 : decode cX0_of 6 = .ok (.if_icmp .ge 21, 3) := by decide +kernel
theorem dX0_of_9 : decode cX0_of 9 = .ok (.iload_n 1, 1) := by decide +kernel
theorem dX0_of_10 : decode cX0_of 10 = .ok (.iload_n 0, 1) := by decide +kernel
theorem dX0_of_11 : decode cX0_of 11 = .ok (.iload_n 2, 1) := by decide +kernel
theorem dX0_of_12 : decode cX0_of 12 = .ok (.ishr, 1) := by decide +kernel
theorem dX0_of_13 : decode cX0_of 13 = .ok (.iconst 1, 1) := by decide +kernel
theorem dX0_of_14 : decode cX0_of 14 = .ok (.iand, 1) := by decide +kernel
theorem dX0_of_15 : decode cX0_of 15 = .ok (.iconst 4, 1) := by decide +kernel
theorem dX0_of_16 : decode cX0_of 16 = .ok (.iload_n 2, 1) := by decide +kernel
theorem dX0_of_17 : decode cX0_of 17 = .ok (.imul, 1) := by decide +kernel
theorem dX0_of_18 : decode cX0_of 18 = .ok (.ishl, 1) := by decide +kernel
theorem dX0_of_19 : decode cX0_of 19 = .ok (.ior, 1) := by decide +kernel
theorem dX0_of_20 : decode cX0_of 20 = .ok (.istore_n 1, 1) := by decide +kernel
theorem dX0_of_21 : decode cX0_of 21 = .ok (.iinc 2 1, 3) := by decide +kernel
theorem dX0_of_24 : decode cX0_of 24 = .ok (.goto (-20), 3) := by decide +kernel
theorem dX0_of_27 : decode cX0_of 27 = .ok (.iload_n 1, 1) := by decide +kernel
theorem dX0_of_28 : decode cX0_of 28 = .ok (.ireturn, 1) := by decide +kernel
theorem dX0_on_0 : decode cX0_on 0 = .ok (.iload_n 0, 1) := by decide +kernel
theorem dX0_on_1 : decode cX0_on 1 = .ok (.iconst 4, 1) := by decide +kernel
theorem dX0_on_2 : decode cX0_on 2 = .ok (.iload_n 1, 1) := by decide +kernel
theorem dX0_on_3 : decode cX0_on 3 = .ok (.imul, 1) := by decide +kernel
theorem dX0_on_4 : decode cX0_on 4 = .ok (.ishr, 1) := by decide +kernel
theorem dX0_on_5 : decode cX0_on 5 = .ok (.bipush 15, 2) := by decide +kernel
theorem dX0_on_7 : decode cX0_on 7 = .ok (.iand, 1) := by decide +kernel
theorem dX0_on_8 : decode cX0_on 8 = .ok (.ireturn, 1) := by decide +kernel
theorem dX1_init_0 : decode cX1_init 0 = .ok (.aload_n 0, 1) := by decide +kernel
theorem dX1_init_1 : decode cX1_init 1 = .ok (.invokespecial 3, 3) := by decide +kernel
theorem dX1_init_4 : decode cX1_init 4 = .ok (.aload_n 0, 1) := by decide +kernel
theorem dX1_init_5 : decode cX1_init 5 = .ok (.bipush 8, 2) := by decide +kernel
theorem dX1_init_7 : decode cX1_init 7 = .ok (.newarray .int, 2) := by decide +kernel
theorem dX1_init_9 : decode cX1_init 9 = .ok (.putfield 9, 3) := by decide +kernel
theorem dX1_init_12 : decode cX1_init 12 = .ok (.aload_n 0, 1) := by decide +kernel
theorem dX1_init_13 : decode cX1_init 13 = .ok (.bipush 8, 2) := by decide +kernel
theorem dX1_init_15 : decode cX1_init 15 = .ok (.newarray .int, 2) := by decide +kernel
theorem dX1_init_17 : decode cX1_init 17 = .ok (.putfield 15, 3) := by decide +kernel
theorem dX1_init_20 : decode cX1_init 20 = .ok (.aload_n 0, 1) := by decide +kernel
theorem dX1_init_21 : decode cX1_init 21 = .ok (.bipush 8, 2) := by decide +kernel
theorem dX1_init_23 : decode cX1_init 23 = .ok (.newarray .int, 2) := by decide +kernel
theorem dX1_init_25 : decode cX1_init 25 = .ok (.putfield 18, 3) := by decide +kernel
theorem dX1_init_28 : decode cX1_init 28 = .ok (.aload_n 0, 1) := by decide +kernel
theorem dX1_init_29 : decode cX1_init 29 = .ok (.iconst 0, 1) := by decide +kernel
theorem dX1_init_30 : decode cX1_init 30 = .ok (.putfield 21, 3) := by decide +kernel
theorem dX1_init_33 : decode cX1_init 33 = .ok (.return_, 1) := by decide +kernel
theorem dX1_append_0 : decode cX1_append 0 = .ok (.aload_n 0, 1) := by decide +kernel
theorem dX1_append_1 : decode cX1_append 1 = .ok (.getfield 21, 3) := by decide +kernel
theorem dX1_append_4 : decode cX1_append 4 = .ok (.bipush 8, 2) := by decide +kernel
theorem dX1_append_6 : decode cX1_append 6 = .ok (.if_icmp .ge 43, 3) := by decide +kernel
theorem dX1_append_9 : decode cX1_append 9 = .ok (.aload_n 0, 1) := by decide +kernel
theorem dX1_append_10 : decode cX1_append 10 = .ok (.getfield 9, 3) := by decide +kernel
theorem dX1_append_13 : decode cX1_append 13 = .ok (.aload_n 0, 1) := by decide +kernel
theorem dX1_append_14 : decode cX1_append 14 = .ok (.getfield 21, 3) := by decide +kernel
theorem dX1_append_17 : decode cX1_append 17 = .ok (.iload_n 1, 1) := by decide +kernel
theorem dX1_append_18 : decode cX1_append 18 = .ok (.iastore, 1) := by decide +kernel
theorem dX1_append_19 : decode cX1_append 19 = .ok (.aload_n 0, 1) := by decide +kernel
theorem dX1_append_20 : decode cX1_append 20 = .ok (.getfield 15, 3) := by decide +kernel
theorem dX1_append_23 : decode cX1_append 23 = .ok (.aload_n 0, 1) := by decide +kernel
theorem dX1_append_24 : decode cX1_append 24 = .ok (.getfield 21, 3) := by decide +kernel
theorem dX1_append_27 : decode cX1_append 27 = .ok (.iload_n 2, 1) := by decide +kernel
theorem dX1_append_28 : decode cX1_append 28 = .ok (.iastore, 1) := by decide +kernel
theorem dX1_append_29 : decode cX1_append 29 = .ok (.aload_n 0, 1) := by decide +kernel
theorem dX1_append_30 : decode cX1_append 30 = .ok (.getfield 18, 3) := by decide +kernel
theorem dX1_append_33 : decode cX1_append 33 = .ok (.aload_n 0, 1) := by decide +kernel
theorem dX1_append_34 : decode cX1_append 34 = .ok (.getfield 21, 3) := by decide +kernel
theorem dX1_append_37 : decode cX1_append 37 = .ok (.iload_n 3, 1) := by decide +kernel
theorem dX1_append_38 : decode cX1_append 38 = .ok (.iastore, 1) := by decide +kernel
theorem dX1_append_39 : decode cX1_append 39 = .ok (.aload_n 0, 1) := by decide +kernel
theorem dX1_append_40 : decode cX1_append 40 = .ok (.dup, 1) := by decide +kernel
theorem dX1_append_41 : decode cX1_append 41 = .ok (.getfield 21, 3) := by decide +kernel
theorem dX1_append_44 : decode cX1_append 44 = .ok (.iconst 1, 1) := by decide +kernel
theorem dX1_append_45 : decode cX1_append 45 = .ok (.iadd, 1) := by decide +kernel
theorem dX1_append_46 : decode cX1_append 46 = .ok (.putfield 21, 3) := by decide +kernel
theorem dX1_append_49 : decode cX1_append 49 = .ok (.return_, 1) := by decide +kernel
theorem dX1_allHold_0 : decode cX1_allHold 0 = .ok (.iconst 0, 1) := by decide +kernel
theorem dX1_allHold_1 : decode cX1_allHold 1 = .ok (.istore_n 2, 1) := by decide +kernel
theorem dX1_allHold_2 : decode cX1_allHold 2 = .ok (.iload_n 2, 1) := by decide +kernel
theorem dX1_allHold_3 : decode cX1_allHold 3 = .ok (.aload_n 0, 1) := by decide +kernel
theorem dX1_allHold_4 : decode cX1_allHold 4 = .ok (.getfield 21, 3) := by decide +kernel
theorem dX1_allHold_7 : decode cX1_allHold 7 = .ok (.if_icmp .ge 41, 3) := by decide +kernel
theorem dX1_allHold_10 : decode cX1_allHold 10 = .ok (.aload_n 1, 1) := by decide +kernel
theorem dX1_allHold_11 : decode cX1_allHold 11 = .ok (.aload_n 1, 1) := by decide +kernel
theorem dX1_allHold_12 : decode cX1_allHold 12 = .ok (.getfield 25, 3) := by decide +kernel
theorem dX1_allHold_15 : decode cX1_allHold 15 = .ok (.aload_n 0, 1) := by decide +kernel
theorem dX1_allHold_16 : decode cX1_allHold 16 = .ok (.getfield 9, 3) := by decide +kernel
theorem dX1_allHold_19 : decode cX1_allHold 19 = .ok (.iload_n 2, 1) := by decide +kernel
theorem dX1_allHold_20 : decode cX1_allHold 20 = .ok (.iaload, 1) := by decide +kernel
theorem dX1_allHold_21 : decode cX1_allHold 21 = .ok (.aaload, 1) := by decide +kernel
theorem dX1_allHold_22 : decode cX1_allHold 22 = .ok (.aload_n 0, 1) := by decide +kernel
theorem dX1_allHold_23 : decode cX1_allHold 23 = .ok (.getfield 15, 3) := by decide +kernel
theorem dX1_allHold_26 : decode cX1_allHold 26 = .ok (.iload_n 2, 1) := by decide +kernel
theorem dX1_allHold_27 : decode cX1_allHold 27 = .ok (.iaload, 1) := by decide +kernel
theorem dX1_allHold_28 : decode cX1_allHold 28 = .ok (.invokevirtual 31, 3) := by decide +kernel
theorem dX1_allHold_31 : decode cX1_allHold 31 = .ok (.aload_n 0, 1) := by decide +kernel
theorem dX1_allHold_32 : decode cX1_allHold 32 = .ok (.getfield 18, 3) := by decide +kernel
theorem dX1_allHold_35 : decode cX1_allHold 35 = .ok (.iload_n 2, 1) := by decide +kernel
theorem dX1_allHold_36 : decode cX1_allHold 36 = .ok (.iaload, 1) := by decide +kernel
theorem dX1_allHold_37 : decode cX1_allHold 37 = .ok (.if_icmp .eq 5, 3) := by decide +kernel
theorem dX1_allHold_40 : decode cX1_allHold 40 = .ok (.iconst 0, 1) := by decide +kernel
theorem dX1_allHold_41 : decode cX1_allHold 41 = .ok (.ireturn, 1) := by decide +kernel
theorem dX1_allHold_42 : decode cX1_allHold 42 = .ok (.iinc 2 1, 3) := by decide +kernel
theorem dX1_allHold_45 : decode cX1_allHold 45 = .ok (.goto (-43), 3) := by decide +kernel
theorem dX1_allHold_48 : decode cX1_allHold 48 = .ok (.iconst 1, 1) := by decide +kernel
theorem dX1_allHold_49 : decode cX1_allHold 49 = .ok (.ireturn, 1) := by decide +kernel
theorem dX2_init_0 : decode cX2_init 0 = .ok (.aload_n 0, 1) := by decide +kernel
theorem dX2_init_1 : decode cX2_init 1 = .ok (.invokespecial 3, 3) := by decide +kernel
theorem dX2_init_4 : decode cX2_init 4 = .ok (.aload_n 0, 1) := by decide +kernel
theorem dX2_init_5 : decode cX2_init 5 = .ok (.iconst 5, 1) := by decide +kernel
theorem dX2_init_6 : decode cX2_init 6 = .ok (.newarray .int, 2) := by decide +kernel
theorem dX2_init_8 : decode cX2_init 8 = .ok (.putfield 9, 3) := by decide +kernel
theorem dX2_init_11 : decode cX2_init 11 = .ok (.aload_n 0, 1) := by decide +kernel
theorem dX2_init_12 : decode cX2_init 12 = .ok (.iconst 4, 1) := by decide +kernel
theorem dX2_init_13 : decode cX2_init 13 = .ok (.anewarray 15, 3) := by decide +kernel
theorem dX2_init_16 : decode cX2_init 16 = .ok (.putfield 17, 3) := by decide +kernel
theorem dX2_init_19 : decode cX2_init 19 = .ok (.aload_n 0, 1) := by decide +kernel
theorem dX2_init_20 : decode cX2_init 20 = .ok (.iconst 4, 1) := by decide +kernel
theorem dX2_init_21 : decode cX2_init 21 = .ok (.newarray .int, 2) := by decide +kernel
theorem dX2_init_23 : decode cX2_init 23 = .ok (.putfield 21, 3) := by decide +kernel
theorem dX2_init_26 : decode cX2_init 26 = .ok (.aload_n 0, 1) := by decide +kernel
theorem dX2_init_27 : decode cX2_init 27 = .ok (.iconst 0, 1) := by decide +kernel
theorem dX2_init_28 : decode cX2_init 28 = .ok (.putfield 24, 3) := by decide +kernel
theorem dX2_init_31 : decode cX2_init 31 = .ok (.aload_n 0, 1) := by decide +kernel
theorem dX2_init_32 : decode cX2_init 32 = .ok (.iconst 0, 1) := by decide +kernel
theorem dX2_init_33 : decode cX2_init 33 = .ok (.putfield 28, 3) := by decide +kernel
theorem dX2_init_36 : decode cX2_init 36 = .ok (.aload_n 0, 1) := by decide +kernel
theorem dX2_init_37 : decode cX2_init 37 = .ok (.iconst 0, 1) := by decide +kernel
theorem dX2_init_38 : decode cX2_init 38 = .ok (.putfield 31, 3) := by decide +kernel
theorem dX2_init_41 : decode cX2_init 41 = .ok (.iconst 0, 1) := by decide +kernel
theorem dX2_init_42 : decode cX2_init 42 = .ok (.istore_n 1, 1) := by decide +kernel
theorem dX2_init_43 : decode cX2_init 43 = .ok (.iload_n 1, 1) := by decide +kernel
theorem dX2_init_44 : decode cX2_init 44 = .ok (.iconst 4, 1) := by decide +kernel
theorem dX2_init_45 : decode cX2_init 45 = .ok (.if_icmp .ge 22, 3) := by decide +kernel
theorem dX2_init_48 : decode cX2_init 48 = .ok (.aload_n 0, 1) := by decide +kernel
theorem dX2_init_49 : decode cX2_init 49 = .ok (.getfield 17, 3) := by decide +kernel
theorem dX2_init_52 : decode cX2_init 52 = .ok (.iload_n 1, 1) := by decide +kernel
theorem dX2_init_53 : decode cX2_init 53 = .ok (.new 15, 3) := by decide +kernel
theorem dX2_init_56 : decode cX2_init 56 = .ok (.dup, 1) := by decide +kernel
theorem dX2_init_57 : decode cX2_init 57 = .ok (.invokespecial 34, 3) := by decide +kernel
theorem dX2_init_60 : decode cX2_init 60 = .ok (.aastore, 1) := by decide +kernel
theorem dX2_init_61 : decode cX2_init 61 = .ok (.iinc 1 1, 3) := by decide +kernel
theorem dX2_init_64 : decode cX2_init 64 = .ok (.goto (-21), 3) := by decide +kernel
theorem dX2_init_67 : decode cX2_init 67 = .ok (.return_, 1) := by decide +kernel
theorem dX2_isTold_0 : decode cX2_isTold 0 = .ok (.aload_n 0, 1) := by decide +kernel
theorem dX2_isTold_1 : decode cX2_isTold 1 = .ok (.getfield 31, 3) := by decide +kernel
theorem dX2_isTold_4 : decode cX2_isTold 4 = .ok (.ifCond .le 7, 3) := by decide +kernel
theorem dX2_isTold_7 : decode cX2_isTold 7 = .ok (.iconst 1, 1) := by decide +kernel
theorem dX2_isTold_8 : decode cX2_isTold 8 = .ok (.goto 4, 3) := by decide +kernel
theorem dX2_isTold_11 : decode cX2_isTold 11 = .ok (.iconst 0, 1) := by decide +kernel
theorem dX2_isTold_12 : decode cX2_isTold 12 = .ok (.ireturn, 1) := by decide +kernel
theorem dX2_hasRider_0 : decode cX2_hasRider 0 = .ok (.iload_n 1, 1) := by decide +kernel
theorem dX2_hasRider_1 : decode cX2_hasRider 1 = .ok (.ifCond .lt 15, 3) := by decide +kernel
theorem dX2_hasRider_4 : decode cX2_hasRider 4 = .ok (.iload_n 1, 1) := by decide +kernel
theorem dX2_hasRider_5 : decode cX2_hasRider 5 = .ok (.aload_n 0, 1) := by decide +kernel
theorem dX2_hasRider_6 : decode cX2_hasRider 6 = .ok (.getfield 31, 3) := by decide +kernel
theorem dX2_hasRider_9 : decode cX2_hasRider 9 = .ok (.if_icmp .ge 7, 3) := by decide +kernel
theorem dX2_hasRider_12 : decode cX2_hasRider 12 = .ok (.iconst 1, 1) := by decide +kernel
theorem dX2_hasRider_13 : decode cX2_hasRider 13 = .ok (.goto 4, 3) := by decide +kernel
theorem dX2_hasRider_16 : decode cX2_hasRider 16 = .ok (.iconst 0, 1) := by decide +kernel
theorem dX2_hasRider_17 : decode cX2_hasRider 17 = .ok (.ireturn, 1) := by decide +kernel
theorem dX2_hasSection_0 : decode cX2_hasSection 0 = .ok (.iload_n 1, 1) := by decide +kernel
theorem dX2_hasSection_1 : decode cX2_hasSection 1 = .ok (.ifCond .lt 15, 3) := by decide +kernel
theorem dX2_hasSection_4 : decode cX2_hasSection 4 = .ok (.iload_n 1, 1) := by decide +kernel
theorem dX2_hasSection_5 : decode cX2_hasSection 5 = .ok (.aload_n 0, 1) := by decide +kernel
theorem dX2_hasSection_6 : decode cX2_hasSection 6 = .ok (.getfield 28, 3) := by decide +kernel
theorem dX2_hasSection_9 : decode cX2_hasSection 9 = .ok (.if_icmp .ge 7, 3) := by decide +kernel
theorem dX2_hasSection_12 : decode cX2_hasSection 12 = .ok (.iconst 1, 1) := by decide +kernel
theorem dX2_hasSection_13 : decode cX2_hasSection 13 = .ok (.goto 4, 3) := by decide +kernel
theorem dX2_hasSection_16 : decode cX2_hasSection 16 = .ok (.iconst 0, 1) := by decide +kernel
theorem dX2_hasSection_17 : decode cX2_hasSection 17 = .ok (.ireturn, 1) := by decide +kernel
theorem dX2_board_0 : decode cX2_board 0 = .ok (.aload_n 0, 1) := by decide +kernel
theorem dX2_board_1 : decode cX2_board 1 = .ok (.aload_n 1, 1) := by decide +kernel
theorem dX2_board_2 : decode cX2_board 2 = .ok (.iload_n 2, 1) := by decide +kernel
theorem dX2_board_3 : decode cX2_board 3 = .ok (.iconst 1, 1) := by decide +kernel
theorem dX2_board_4 : decode cX2_board 4 = .ok (.iadd, 1) := by decide +kernel
theorem dX2_board_5 : decode cX2_board 5 = .ok (.invokevirtual 35, 3) := by decide +kernel
theorem dX2_board_8 : decode cX2_board 8 = .ok (.invokestatic 41, 3) := by decide +kernel
theorem dX2_board_11 : decode cX2_board 11 = .ok (.putfield 24, 3) := by decide +kernel
theorem dX2_board_14 : decode cX2_board 14 = .ok (.aload_n 0, 1) := by decide +kernel
theorem dX2_board_15 : decode cX2_board 15 = .ok (.aload_n 1, 1) := by decide +kernel
theorem dX2_board_16 : decode cX2_board 16 = .ok (.iload_n 2, 1) := by decide +kernel
theorem dX2_board_17 : decode cX2_board 17 = .ok (.iload_n 3, 1) := by decide +kernel
theorem dX2_board_18 : decode cX2_board 18 = .ok (.invokestatic 46, 3) := by decide +kernel
theorem dX2_board_21 : decode cX2_board 21 = .ok (.putfield 28, 3) := by decide +kernel
theorem dX2_board_24 : decode cX2_board 24 = .ok (.iconst 0, 1) := by decide +kernel
theorem dX2_board_25 : decode cX2_board 25 = .ok (.istore 4, 2) := by decide +kernel
theorem dX2_board_27 : decode cX2_board 27 = .ok (.iload 4, 2) := by decide +kernel
theorem dX2_board_29 : decode cX2_board 29 = .ok (.aload_n 0, 1) := by decide +kernel
theorem dX2_board_30 : decode cX2_board 30 = .ok (.getfield 28, 3) := by decide +kernel
theorem dX2_board_33 : decode cX2_board 33 = .ok (.if_icmp .ge 29, 3) := by decide +kernel
theorem dX2_board_36 : decode cX2_board 36 = .ok (.aload_n 0, 1) := by decide +kernel
theorem dX2_board_37 : decode cX2_board 37 = .ok (.getfield 9, 3) := by decide +kernel
theorem dX2_board_40 : decode cX2_board 40 = .ok (.iload 4, 2) := by decide +kernel
theorem dX2_board_42 : decode cX2_board 42 = .ok (.aload_n 1, 1) := by decide +kernel
theorem dX2_board_43 : decode cX2_board 43 = .ok (.iload_n 2, 1) := by decide +kernel
theorem dX2_board_44 : decode cX2_board 44 = .ok (.iconst 3, 1) := by decide +kernel
theorem dX2_board_45 : decode cX2_board 45 = .ok (.iadd, 1) := by decide +kernel
theorem dX2_board_46 : decode cX2_board 46 = .ok (.iload 4, 2) := by decide +kernel
theorem dX2_board_48 : decode cX2_board 48 = .ok (.iadd, 1) := by decide +kernel
theorem dX2_board_49 : decode cX2_board 49 = .ok (.invokevirtual 35, 3) := by decide +kernel
theorem dX2_board_52 : decode cX2_board 52 = .ok (.invokestatic 41, 3) := by decide +kernel
theorem dX2_board_55 : decode cX2_board 55 = .ok (.iastore, 1) := by decide +kernel
theorem dX2_board_56 : decode cX2_board 56 = .ok (.iinc 4 1, 3) := by decide +kernel
theorem dX2_board_59 : decode cX2_board 59 = .ok (.goto (-32), 3) := by decide +kernel
theorem dX2_board_62 : decode cX2_board 62 = .ok (.iconst 3, 1) := by decide +kernel
theorem dX2_board_63 : decode cX2_board 63 = .ok (.aload_n 0, 1) := by decide +kernel
theorem dX2_board_64 : decode cX2_board 64 = .ok (.getfield 28, 3) := by decide +kernel
theorem dX2_board_67 : decode cX2_board 67 = .ok (.iadd, 1) := by decide +kernel
theorem dX2_board_68 : decode cX2_board 68 = .ok (.istore 4, 2) := by decide +kernel
theorem dX2_board_70 : decode cX2_board 70 = .ok (.aload_n 0, 1) := by decide +kernel
theorem dX2_board_71 : decode cX2_board 71 = .ok (.iconst 4, 1) := by decide +kernel
theorem dX2_board_72 : decode cX2_board 72 = .ok (.iload_n 3, 1) := by decide +kernel
theorem dX2_board_73 : decode cX2_board 73 = .ok (.iload 4, 2) := by decide +kernel
theorem dX2_board_75 : decode cX2_board 75 = .ok (.isub, 1) := by decide +kernel
theorem dX2_board_76 : decode cX2_board 76 = .ok (.bipush 8, 2) := by decide +kernel
theorem dX2_board_78 : decode cX2_board 78 = .ok (.idiv, 1) := by decide +kernel
theorem dX2_board_79 : decode cX2_board 79 = .ok (.invokestatic 50, 3) := by decide +kernel
theorem dX2_board_82 : decode cX2_board 82 = .ok (.putfield 31, 3) := by decide +kernel
theorem dX2_board_85 : decode cX2_board 85 = .ok (.iconst 0, 1) := by decide +kernel
theorem dX2_board_86 : decode cX2_board 86 = .ok (.istore 5, 2) := by decide +kernel
theorem dX2_board_88 : decode cX2_board 88 = .ok (.iload 5, 2) := by decide +kernel
theorem dX2_board_90 : decode cX2_board 90 = .ok (.aload_n 0, 1) := by decide +kernel
theorem dX2_board_91 : decode cX2_board 91 = .ok (.getfield 31, 3) := by decide +kernel
theorem dX2_board_94 : decode cX2_board 94 = .ok (.if_icmp .ge 30, 3) := by decide +kernel
theorem dX2_board_97 : decode cX2_board 97 = .ok (.aload_n 0, 1) := by decide +kernel
theorem dX2_board_98 : decode cX2_board 98 = .ok (.getfield 17, 3) := by decide +kernel
theorem dX2_board_101 : decode cX2_board 101 = .ok (.iload 5, 2) := by decide +kernel
theorem dX2_board_103 : decode cX2_board 103 = .ok (.aaload, 1) := by decide +kernel
theorem dX2_board_104 : decode cX2_board 104 = .ok (.aload_n 1, 1) := by decide +kernel
theorem dX2_board_105 : decode cX2_board 105 = .ok (.iload_n 2, 1) := by decide +kernel
theorem dX2_board_106 : decode cX2_board 106 = .ok (.iload 4, 2) := by decide +kernel
theorem dX2_board_108 : decode cX2_board 108 = .ok (.iadd, 1) := by decide +kernel
theorem dX2_board_109 : decode cX2_board 109 = .ok (.bipush 8, 2) := by decide +kernel
theorem dX2_board_111 : decode cX2_board 111 = .ok (.iload 5, 2) := by decide +kernel
theorem dX2_board_113 : decode cX2_board 113 = .ok (.imul, 1) := by decide +kernel
theorem dX2_board_114 : decode cX2_board 114 = .ok (.iadd, 1) := by decide +kernel
theorem dX2_board_115 : decode cX2_board 115 = .ok (.invokevirtual 56, 3) := by decide +kernel
theorem dX2_board_118 : decode cX2_board 118 = .ok (.iinc 5 1, 3) := by decide +kernel
theorem dX2_board_121 : decode cX2_board 121 = .ok (.goto (-33), 3) := by decide +kernel
theorem dX2_board_124 : decode cX2_board 124 = .ok (.return_, 1) := by decide +kernel
theorem dX2_yearsOff_0 : decode cX2_yearsOff 0 = .ok (.aload_n 1, 1) := by decide +kernel
theorem dX2_yearsOff_1 : decode cX2_yearsOff 1 = .ok (.getfield 60, 3) := by decide +kernel
theorem dX2_yearsOff_4 : decode cX2_yearsOff 4 = .ok (.istore_n 3, 1) := by decide +kernel
theorem dX2_yearsOff_5 : decode cX2_yearsOff 5 = .ok (.iconst 0, 1) := by decide +kernel
theorem dX2_yearsOff_6 : decode cX2_yearsOff 6 = .ok (.istore 4, 2) := by decide +kernel
theorem dX2_yearsOff_8 : decode cX2_yearsOff 8 = .ok (.iload 4, 2) := by decide +kernel
theorem dX2_yearsOff_10 : decode cX2_yearsOff 10 = .ok (.aload_n 0, 1) := by decide +kernel
theorem dX2_yearsOff_11 : decode cX2_yearsOff 11 = .ok (.getfield 28, 3) := by decide +kernel
theorem dX2_yearsOff_14 : decode cX2_yearsOff 14 = .ok (.if_icmp .ge 33, 3) := by decide +kernel
theorem dX2_yearsOff_17 : decode cX2_yearsOff 17 = .ok (.iload_n 2, 1) := by decide +kernel
theorem dX2_yearsOff_18 : decode cX2_yearsOff 18 = .ok (.iload 4, 2) := by decide +kernel
theorem dX2_yearsOff_20 : decode cX2_yearsOff 20 = .ok (.ishr, 1) := by decide +kernel
theorem dX2_yearsOff_21 : decode cX2_yearsOff 21 = .ok (.iconst 1, 1) := by decide +kernel
theorem dX2_yearsOff_22 : decode cX2_yearsOff 22 = .ok (.iand, 1) := by decide +kernel
theorem dX2_yearsOff_23 : decode cX2_yearsOff 23 = .ok (.iconst 1, 1) := by decide +kernel
theorem dX2_yearsOff_24 : decode cX2_yearsOff 24 = .ok (.if_icmp .ne 17, 3) := by decide +kernel
theorem dX2_yearsOff_27 : decode cX2_yearsOff 27 = .ok (.iload_n 3, 1) := by decide +kernel
theorem dX2_yearsOff_28 : decode cX2_yearsOff 28 = .ok (.aload_n 1, 1) := by decide +kernel
theorem dX2_yearsOff_29 : decode cX2_yearsOff 29 = .ok (.aload_n 0, 1) := by decide +kernel
theorem dX2_yearsOff_30 : decode cX2_yearsOff 30 = .ok (.getfield 9, 3) := by decide +kernel
theorem dX2_yearsOff_33 : decode cX2_yearsOff 33 = .ok (.iload 4, 2) := by decide +kernel
theorem dX2_yearsOff_35 : decode cX2_yearsOff 35 = .ok (.iaload, 1) := by decide +kernel
theorem dX2_yearsOff_36 : decode cX2_yearsOff 36 = .ok (.invokevirtual 63, 3) := by decide +kernel
theorem dX2_yearsOff_39 : decode cX2_yearsOff 39 = .ok (.iadd, 1) := by decide +kernel
theorem dX2_yearsOff_40 : decode cX2_yearsOff 40 = .ok (.istore_n 3, 1) := by decide +kernel
theorem dX2_yearsOff_41 : decode cX2_yearsOff 41 = .ok (.iinc 4 1, 3) := by decide +kernel
theorem dX2_yearsOff_44 : decode cX2_yearsOff 44 = .ok (.goto (-36), 3) := by decide +kernel
theorem dX2_yearsOff_47 : decode cX2_yearsOff 47 = .ok (.iload_n 3, 1) := by decide +kernel
theorem dX2_yearsOff_48 : decode cX2_yearsOff 48 = .ok (.ireturn, 1) := by decide +kernel
theorem dX2_isRight_0 : decode cX2_isRight 0 = .ok (.aload_n 0, 1) := by decide +kernel
theorem dX2_isRight_1 : decode cX2_isRight 1 = .ok (.aload_n 1, 1) := by decide +kernel
theorem dX2_isRight_2 : decode cX2_isRight 2 = .ok (.iload_n 2, 1) := by decide +kernel
theorem dX2_isRight_3 : decode cX2_isRight 3 = .ok (.invokevirtual 66, 3) := by decide +kernel
theorem dX2_isRight_6 : decode cX2_isRight 6 = .ok (.aload_n 1, 1) := by decide +kernel
theorem dX2_isRight_7 : decode cX2_isRight 7 = .ok (.getfield 70, 3) := by decide +kernel
theorem dX2_isRight_10 : decode cX2_isRight 10 = .ok (.if_icmp .ne 7, 3) := by decide +kernel
theorem dX2_isRight_13 : decode cX2_isRight 13 = .ok (.iconst 1, 1) := by decide +kernel
theorem dX2_isRight_14 : decode cX2_isRight 14 = .ok (.goto 4, 3) := by decide +kernel
theorem dX2_isRight_17 : decode cX2_isRight 17 = .ok (.iconst 0, 1) := by decide +kernel
theorem dX2_isRight_18 : decode cX2_isRight 18 = .ok (.ireturn, 1) := by decide +kernel
theorem dX2_canSitAlone_0 : decode cX2_canSitAlone 0 = .ok (.aload_n 1, 1) := by decide +kernel
theorem dX2_canSitAlone_1 : decode cX2_canSitAlone 1 = .ok (.iload_n 2, 1) := by decide +kernel
theorem dX2_canSitAlone_2 : decode cX2_canSitAlone 2 = .ok (.invokevirtual 73, 3) := by decide +kernel
theorem dX2_canSitAlone_5 : decode cX2_canSitAlone 5 = .ok (.ifCond .eq 18, 3) := by decide +kernel
theorem dX2_canSitAlone_8 : decode cX2_canSitAlone 8 = .ok (.iload_n 2, 1) := by decide +kernel
theorem dX2_canSitAlone_9 : decode cX2_canSitAlone 9 = .ok (.ifCond .eq 10, 3) := by decide +kernel
theorem dX2_canSitAlone_12 : decode cX2_canSitAlone 12 = .ok (.aload_n 0, 1) := by decide +kernel
theorem dX2_canSitAlone_13 : decode cX2_canSitAlone 13 = .ok (.getfield 24, 3) := by decide +kernel
theorem dX2_canSitAlone_16 : decode cX2_canSitAlone 16 = .ok (.ifCond .le 7, 3) := by decide +kernel
theorem dX2_canSitAlone_19 : decode cX2_canSitAlone 19 = .ok (.iconst 1, 1) := by decide +kernel
theorem dX2_canSitAlone_20 : decode cX2_canSitAlone 20 = .ok (.goto 4, 3) := by decide +kernel
theorem dX2_canSitAlone_23 : decode cX2_canSitAlone 23 = .ok (.iconst 0, 1) := by decide +kernel
theorem dX2_canSitAlone_24 : decode cX2_canSitAlone 24 = .ok (.ireturn, 1) := by decide +kernel
theorem dX2_firstOver_0 : decode cX2_firstOver 0 = .ok (.iconst 0, 1) := by decide +kernel
theorem dX2_firstOver_1 : decode cX2_firstOver 1 = .ok (.istore_n 2, 1) := by decide +kernel
theorem dX2_firstOver_2 : decode cX2_firstOver 2 = .ok (.iload_n 2, 1) := by decide +kernel
theorem dX2_firstOver_3 : decode cX2_firstOver 3 = .ok (.aload_n 0, 1) := by decide +kernel
theorem dX2_firstOver_4 : decode cX2_firstOver 4 = .ok (.getfield 28, 3) := by decide +kernel
theorem dX2_firstOver_7 : decode cX2_firstOver 7 = .ok (.if_icmp .ge 23, 3) := by decide +kernel
theorem dX2_firstOver_10 : decode cX2_firstOver 10 = .ok (.iload_n 1, 1) := by decide +kernel
theorem dX2_firstOver_11 : decode cX2_firstOver 11 = .ok (.iload_n 2, 1) := by decide +kernel
theorem dX2_firstOver_12 : decode cX2_firstOver 12 = .ok (.invokestatic 77, 3) := by decide +kernel
theorem dX2_firstOver_15 : decode cX2_firstOver 15 = .ok (.aload_n 0, 1) := by decide +kernel
theorem dX2_firstOver_16 : decode cX2_firstOver 16 = .ok (.getfield 24, 3) := by decide +kernel
theorem dX2_firstOver_19 : decode cX2_firstOver 19 = .ok (.if_icmp .le 5, 3) := by decide +kernel
theorem dX2_firstOver_22 : decode cX2_firstOver 22 = .ok (.iload_n 2, 1) := by decide +kernel
theorem dX2_firstOver_23 : decode cX2_firstOver 23 = .ok (.ireturn, 1) := by decide +kernel
theorem dX2_firstOver_24 : decode cX2_firstOver 24 = .ok (.iinc 2 1, 3) := by decide +kernel
theorem dX2_firstOver_27 : decode cX2_firstOver 27 = .ok (.goto (-25), 3) := by decide +kernel
theorem dX2_firstOver_30 : decode cX2_firstOver 30 = .ok (.bipush (-9), 2) := by decide +kernel
theorem dX2_firstOver_32 : decode cX2_firstOver 32 = .ok (.ireturn, 1) := by decide +kernel
theorem dX2_agreeing_0 : decode cX2_agreeing 0 = .ok (.bipush (-9), 2) := by decide +kernel
theorem dX2_agreeing_2 : decode cX2_agreeing 2 = .ok (.istore_n 3, 1) := by decide +kernel
theorem dX2_agreeing_3 : decode cX2_agreeing 3 = .ok (.bipush 11, 2) := by decide +kernel
theorem dX2_agreeing_5 : decode cX2_agreeing 5 = .ok (.istore 4, 2) := by decide +kernel
theorem dX2_agreeing_7 : decode cX2_agreeing 7 = .ok (.iconst 0, 1) := by decide +kernel
theorem dX2_agreeing_8 : decode cX2_agreeing 8 = .ok (.istore 5, 2) := by decide +kernel
theorem dX2_agreeing_10 : decode cX2_agreeing 10 = .ok (.iload 5, 2) := by decide +kernel
theorem dX2_agreeing_12 : decode cX2_agreeing 12 = .ok (.aload_n 1, 1) := by decide +kernel
theorem dX2_agreeing_13 : decode cX2_agreeing 13 = .ok (.invokevirtual 82, 3) := by decide +kernel
theorem dX2_agreeing_16 : decode cX2_agreeing 16 = .ok (.if_icmp .gt 90, 3) := by decide +kernel
theorem dX2_agreeing_19 : decode cX2_agreeing 19 = .ok (.iconst 0, 1) := by decide +kernel
theorem dX2_agreeing_20 : decode cX2_agreeing 20 = .ok (.istore 6, 2) := by decide +kernel
theorem dX2_agreeing_22 : decode cX2_agreeing 22 = .ok (.iload 6, 2) := by decide +kernel
theorem dX2_agreeing_24 : decode cX2_agreeing 24 = .ok (.aload_n 2, 1) := by decide +kernel
theorem dX2_agreeing_25 : decode cX2_agreeing 25 = .ok (.invokevirtual 82, 3) := by decide +kernel
theorem dX2_agreeing_28 : decode cX2_agreeing 28 = .ok (.if_icmp .gt 72, 3) := by decide +kernel
theorem dX2_agreeing_31 : decode cX2_agreeing 31 = .ok (.iload 5, 2) := by decide +kernel
theorem dX2_agreeing_33 : decode cX2_agreeing 33 = .ok (.invokestatic 86, 3) := by decide +kernel
theorem dX2_agreeing_36 : decode cX2_agreeing 36 = .ok (.iload 6, 2) := by decide +kernel
theorem dX2_agreeing_38 : decode cX2_agreeing 38 = .ok (.invokestatic 86, 3) := by decide +kernel
theorem dX2_agreeing_41 : decode cX2_agreeing 41 = .ok (.iadd, 1) := by decide +kernel
theorem dX2_agreeing_42 : decode cX2_agreeing 42 = .ok (.istore 7, 2) := by decide +kernel
theorem dX2_agreeing_44 : decode cX2_agreeing 44 = .ok (.iload 7, 2) := by decide +kernel
theorem dX2_agreeing_46 : decode cX2_agreeing 46 = .ok (.iload 4, 2) := by decide +kernel
theorem dX2_agreeing_48 : decode cX2_agreeing 48 = .ok (.if_icmp .ge 46, 3) := by decide +kernel
theorem dX2_agreeing_51 : decode cX2_agreeing 51 = .ok (.aload_n 1, 1) := by decide +kernel
theorem dX2_agreeing_52 : decode cX2_agreeing 52 = .ok (.iload 5, 2) := by decide +kernel
theorem dX2_agreeing_54 : decode cX2_agreeing 54 = .ok (.invokevirtual 73, 3) := by decide +kernel
theorem dX2_agreeing_57 : decode cX2_agreeing 57 = .ok (.ifCond .eq 37, 3) := by decide +kernel
theorem dX2_agreeing_60 : decode cX2_agreeing 60 = .ok (.aload_n 2, 1) := by decide +kernel
theorem dX2_agreeing_61 : decode cX2_agreeing 61 = .ok (.iload 6, 2) := by decide +kernel
theorem dX2_agreeing_63 : decode cX2_agreeing 63 = .ok (.invokevirtual 73, 3) := by decide +kernel
theorem dX2_agreeing_66 : decode cX2_agreeing 66 = .ok (.ifCond .eq 28, 3) := by decide +kernel
theorem dX2_agreeing_69 : decode cX2_agreeing 69 = .ok (.aload_n 0, 1) := by decide +kernel
theorem dX2_agreeing_70 : decode cX2_agreeing 70 = .ok (.aload_n 1, 1) := by decide +kernel
theorem dX2_agreeing_71 : decode cX2_agreeing 71 = .ok (.iload 5, 2) := by decide +kernel
theorem dX2_agreeing_73 : decode cX2_agreeing 73 = .ok (.aload_n 2, 1) := by decide +kernel
theorem dX2_agreeing_74 : decode cX2_agreeing 74 = .ok (.iload 6, 2) := by decide +kernel
theorem dX2_agreeing_76 : decode cX2_agreeing 76 = .ok (.invokevirtual 91, 3) := by decide +kernel
theorem dX2_agreeing_79 : decode cX2_agreeing 79 = .ok (.ifCond .eq 15, 3) := by decide +kernel
theorem dX2_agreeing_82 : decode cX2_agreeing 82 = .ok (.iload 7, 2) := by decide +kernel
theorem dX2_agreeing_84 : decode cX2_agreeing 84 = .ok (.istore 4, 2) := by decide +kernel
theorem dX2_agreeing_86 : decode cX2_agreeing 86 = .ok (.iload 5, 2) := by decide +kernel
theorem dX2_agreeing_88 : decode cX2_agreeing 88 = .ok (.iconst 5, 1) := by decide +kernel
theorem dX2_agreeing_89 : decode cX2_agreeing 89 = .ok (.ishl, 1) := by decide +kernel
theorem dX2_agreeing_90 : decode cX2_agreeing 90 = .ok (.iload 6, 2) := by decide +kernel
theorem dX2_agreeing_92 : decode cX2_agreeing 92 = .ok (.ior, 1) := by decide +kernel
theorem dX2_agreeing_93 : decode cX2_agreeing 93 = .ok (.istore_n 3, 1) := by decide +kernel
theorem dX2_agreeing_94 : decode cX2_agreeing 94 = .ok (.iinc 6 1, 3) := by decide +kernel
theorem dX2_agreeing_97 : decode cX2_agreeing 97 = .ok (.goto (-75), 3) := by decide +kernel
theorem dX2_agreeing_100 : decode cX2_agreeing 100 = .ok (.iinc 5 1, 3) := by decide +kernel
theorem dX2_agreeing_103 : decode cX2_agreeing 103 = .ok (.goto (-93), 3) := by decide +kernel
theorem dX2_agreeing_106 : decode cX2_agreeing 106 = .ok (.iload_n 3, 1) := by decide +kernel
theorem dX2_agreeing_107 : decode cX2_agreeing 107 = .ok (.ireturn, 1) := by decide +kernel
theorem dX2_bothAgree_0 : decode cX2_bothAgree 0 = .ok (.aload_n 0, 1) := by decide +kernel
theorem dX2_bothAgree_1 : decode cX2_bothAgree 1 = .ok (.aload_n 1, 1) := by decide +kernel
theorem dX2_bothAgree_2 : decode cX2_bothAgree 2 = .ok (.iload_n 2, 1) := by decide +kernel
theorem dX2_bothAgree_3 : decode cX2_bothAgree 3 = .ok (.invokevirtual 66, 3) := by decide +kernel
theorem dX2_bothAgree_6 : decode cX2_bothAgree 6 = .ok (.aload_n 0, 1) := by decide +kernel
theorem dX2_bothAgree_7 : decode cX2_bothAgree 7 = .ok (.aload_n 3, 1) := by decide +kernel
theorem dX2_bothAgree_8 : decode cX2_bothAgree 8 = .ok (.iload 4, 2) := by decide +kernel
theorem dX2_bothAgree_10 : decode cX2_bothAgree 10 = .ok (.invokevirtual 66, 3) := by decide +kernel
theorem dX2_bothAgree_13 : decode cX2_bothAgree 13 = .ok (.if_icmp .ne 26, 3) := by decide +kernel
theorem dX2_bothAgree_16 : decode cX2_bothAgree 16 = .ok (.aload_n 0, 1) := by decide +kernel
theorem dX2_bothAgree_17 : decode cX2_bothAgree 17 = .ok (.iload_n 2, 1) := by decide +kernel
theorem dX2_bothAgree_18 : decode cX2_bothAgree 18 = .ok (.invokestatic 95, 3) := by decide +kernel
theorem dX2_bothAgree_21 : decode cX2_bothAgree 21 = .ok (.iload 4, 2) := by decide +kernel
theorem dX2_bothAgree_23 : decode cX2_bothAgree 23 = .ok (.invokestatic 95, 3) := by decide +kernel
theorem dX2_bothAgree_26 : decode cX2_bothAgree 26 = .ok (.iadd, 1) := by decide +kernel
theorem dX2_bothAgree_27 : decode cX2_bothAgree 27 = .ok (.invokevirtual 98, 3) := by decide +kernel
theorem dX2_bothAgree_30 : decode cX2_bothAgree 30 = .ok (.bipush (-9), 2) := by decide +kernel
theorem dX2_bothAgree_32 : decode cX2_bothAgree 32 = .ok (.if_icmp .ne 7, 3) := by decide +kernel
theorem dX2_bothAgree_35 : decode cX2_bothAgree 35 = .ok (.iconst 1, 1) := by decide +kernel
theorem dX2_bothAgree_36 : decode cX2_bothAgree 36 = .ok (.goto 4, 3) := by decide +kernel
theorem dX2_bothAgree_39 : decode cX2_bothAgree 39 = .ok (.iconst 0, 1) := by decide +kernel
theorem dX2_bothAgree_40 : decode cX2_bothAgree 40 = .ok (.ireturn, 1) := by decide +kernel
theorem dX2_firstOf_0 : decode cX2_firstOf 0 = .ok (.iload_n 0, 1) := by decide +kernel
theorem dX2_firstOf_1 : decode cX2_firstOf 1 = .ok (.iconst 5, 1) := by decide +kernel
theorem dX2_firstOf_2 : decode cX2_firstOf 2 = .ok (.ishr, 1) := by decide +kernel
theorem dX2_firstOf_3 : decode cX2_firstOf 3 = .ok (.ireturn, 1) := by decide +kernel
theorem dX2_otherOf_0 : decode cX2_otherOf 0 = .ok (.iload_n 0, 1) := by decide +kernel
theorem dX2_otherOf_1 : decode cX2_otherOf 1 = .ok (.bipush 31, 2) := by decide +kernel
theorem dX2_otherOf_3 : decode cX2_otherOf 3 = .ok (.iand, 1) := by decide +kernel
theorem dX2_otherOf_4 : decode cX2_otherOf 4 = .ok (.ireturn, 1) := by decide +kernel
theorem dX2_mostRight_0 : decode cX2_mostRight 0 = .ok (.iconst 0, 1) := by decide +kernel
theorem dX2_mostRight_1 : decode cX2_mostRight 1 = .ok (.istore_n 1, 1) := by decide +kernel
theorem dX2_mostRight_2 : decode cX2_mostRight 2 = .ok (.iload_n 1, 1) := by decide +kernel
theorem dX2_mostRight_3 : decode cX2_mostRight 3 = .ok (.aload_n 0, 1) := by decide +kernel
theorem dX2_mostRight_4 : decode cX2_mostRight 4 = .ok (.getfield 31, 3) := by decide +kernel
theorem dX2_mostRight_7 : decode cX2_mostRight 7 = .ok (.if_icmp .ge 25, 3) := by decide +kernel
theorem dX2_mostRight_10 : decode cX2_mostRight 10 = .ok (.aload_n 0, 1) := by decide +kernel
theorem dX2_mostRight_11 : decode cX2_mostRight 11 = .ok (.getfield 21, 3) := by decide +kernel
theorem dX2_mostRight_14 : decode cX2_mostRight 14 = .ok (.iload_n 1, 1) := by decide +kernel
theorem dX2_mostRight_15 : decode cX2_mostRight 15 = .ok (.aload_n 0, 1) := by decide +kernel
theorem dX2_mostRight_16 : decode cX2_mostRight 16 = .ok (.aload_n 0, 1) := by decide +kernel
theorem dX2_mostRight_17 : decode cX2_mostRight 17 = .ok (.getfield 17, 3) := by decide +kernel
theorem dX2_mostRight_20 : decode cX2_mostRight 20 = .ok (.iload_n 1, 1) := by decide +kernel
theorem dX2_mostRight_21 : decode cX2_mostRight 21 = .ok (.aaload, 1) := by decide +kernel
theorem dX2_mostRight_22 : decode cX2_mostRight 22 = .ok (.invokevirtual 101, 3) := by decide +kernel
theorem dX2_mostRight_25 : decode cX2_mostRight 25 = .ok (.iastore, 1) := by decide +kernel
theorem dX2_mostRight_26 : decode cX2_mostRight 26 = .ok (.iinc 1 1, 3) := by decide +kernel
theorem dX2_mostRight_29 : decode cX2_mostRight 29 = .ok (.goto (-27), 3) := by decide +kernel
theorem dX2_mostRight_32 : decode cX2_mostRight 32 = .ok (.iconst 0, 1) := by decide +kernel
theorem dX2_mostRight_33 : decode cX2_mostRight 33 = .ok (.istore_n 1, 1) := by decide +kernel
theorem dX2_mostRight_34 : decode cX2_mostRight 34 = .ok (.iconst 1, 1) := by decide +kernel
theorem dX2_mostRight_35 : decode cX2_mostRight 35 = .ok (.istore_n 2, 1) := by decide +kernel
theorem dX2_mostRight_36 : decode cX2_mostRight 36 = .ok (.iload_n 2, 1) := by decide +kernel
theorem dX2_mostRight_37 : decode cX2_mostRight 37 = .ok (.iconst 1, 1) := by decide +kernel
theorem dX2_mostRight_38 : decode cX2_mostRight 38 = .ok (.aload_n 0, 1) := by decide +kernel
theorem dX2_mostRight_39 : decode cX2_mostRight 39 = .ok (.getfield 31, 3) := by decide +kernel
theorem dX2_mostRight_42 : decode cX2_mostRight 42 = .ok (.ishl, 1) := by decide +kernel
theorem dX2_mostRight_43 : decode cX2_mostRight 43 = .ok (.if_icmp .ge 32, 3) := by decide +kernel
theorem dX2_mostRight_46 : decode cX2_mostRight 46 = .ok (.iload_n 2, 1) := by decide +kernel
theorem dX2_mostRight_47 : decode cX2_mostRight 47 = .ok (.invokestatic 86, 3) := by decide +kernel
theorem dX2_mostRight_50 : decode cX2_mostRight 50 = .ok (.iload_n 1, 1) := by decide +kernel
theorem dX2_mostRight_51 : decode cX2_mostRight 51 = .ok (.invokestatic 86, 3) := by decide +kernel
theorem dX2_mostRight_54 : decode cX2_mostRight 54 = .ok (.if_icmp .le 15, 3) := by decide +kernel
theorem dX2_mostRight_57 : decode cX2_mostRight 57 = .ok (.aload_n 0, 1) := by decide +kernel
theorem dX2_mostRight_58 : decode cX2_mostRight 58 = .ok (.iload_n 2, 1) := by decide +kernel
theorem dX2_mostRight_59 : decode cX2_mostRight 59 = .ok (.iconst 0, 1) := by decide +kernel
theorem dX2_mostRight_60 : decode cX2_mostRight 60 = .ok (.iconst 0, 1) := by decide +kernel
theorem dX2_mostRight_61 : decode cX2_mostRight 61 = .ok (.invokevirtual 105, 3) := by decide +kernel
theorem dX2_mostRight_64 : decode cX2_mostRight 64 = .ok (.ifCond .eq 5, 3) := by decide +kernel
theorem dX2_mostRight_67 : decode cX2_mostRight 67 = .ok (.iload_n 2, 1) := by decide +kernel
theorem dX2_mostRight_68 : decode cX2_mostRight 68 = .ok (.istore_n 1, 1) := by decide +kernel
theorem dX2_mostRight_69 : decode cX2_mostRight 69 = .ok (.iinc 2 1, 3) := by decide +kernel
theorem dX2_mostRight_72 : decode cX2_mostRight 72 = .ok (.goto (-36), 3) := by decide +kernel
theorem dX2_mostRight_75 : decode cX2_mostRight 75 = .ok (.iload_n 1, 1) := by decide +kernel
theorem dX2_mostRight_76 : decode cX2_mostRight 76 = .ok (.ireturn, 1) := by decide +kernel
theorem dX2_setsToBeRight_0 : decode cX2_setsToBeRight 0 = .ok (.iconst 0, 1) := by decide +kernel
theorem dX2_setsToBeRight_1 : decode cX2_setsToBeRight 1 = .ok (.istore_n 2, 1) := by decide +kernel
theorem dX2_setsToBeRight_2 : decode cX2_setsToBeRight 2 = .ok (.iconst 0, 1) := by decide +kernel
theorem dX2_setsToBeRight_3 : decode cX2_setsToBeRight 3 = .ok (.istore_n 3, 1) := by decide +kernel
theorem dX2_setsToBeRight_4 : decode cX2_setsToBeRight 4 = .ok (.iload_n 3, 1) := by decide +kernel
theorem dX2_setsToBeRight_5 : decode cX2_setsToBeRight 5 = .ok (.aload_n 1, 1) := by decide +kernel
theorem dX2_setsToBeRight_6 : decode cX2_setsToBeRight 6 = .ok (.invokevirtual 82, 3) := by decide +kernel
theorem dX2_setsToBeRight_9 : decode cX2_setsToBeRight 9 = .ok (.if_icmp .gt 32, 3) := by decide +kernel
theorem dX2_setsToBeRight_12 : decode cX2_setsToBeRight 12 = .ok (.aload_n 1, 1) := by decide +kernel
theorem dX2_setsToBeRight_13 : decode cX2_setsToBeRight 13 = .ok (.iload_n 3, 1) := by decide +kernel
theorem dX2_setsToBeRight_14 : decode cX2_setsToBeRight 14 = .ok (.invokevirtual 73, 3) := by decide +kernel
theorem dX2_setsToBeRight_17 : decode cX2_setsToBeRight 17 = .ok (.ifCond .eq 18, 3) := by decide +kernel
theorem dX2_setsToBeRight_20 : decode cX2_setsToBeRight 20 = .ok (.aload_n 0, 1) := by decide +kernel
theorem dX2_setsToBeRight_21 : decode cX2_setsToBeRight 21 = .ok (.aload_n 1, 1) := by decide +kernel
theorem dX2_setsToBeRight_22 : decode cX2_setsToBeRight 22 = .ok (.iload_n 3, 1) := by decide +kernel
theorem dX2_setsToBeRight_23 : decode cX2_setsToBeRight 23 = .ok (.invokevirtual 109, 3) := by decide +kernel
theorem dX2_setsToBeRight_26 : decode cX2_setsToBeRight 26 = .ok (.ifCond .eq 9, 3) := by decide +kernel
theorem dX2_setsToBeRight_29 : decode cX2_setsToBeRight 29 = .ok (.iload_n 2, 1) := by decide +kernel
theorem dX2_setsToBeRight_30 : decode cX2_setsToBeRight 30 = .ok (.iconst 1, 1) := by decide +kernel
theorem dX2_setsToBeRight_31 : decode cX2_setsToBeRight 31 = .ok (.iload_n 3, 1) := by decide +kernel
theorem dX2_setsToBeRight_32 : decode cX2_setsToBeRight 32 = .ok (.ishl, 1) := by decide +kernel
theorem dX2_setsToBeRight_33 : decode cX2_setsToBeRight 33 = .ok (.ior, 1) := by decide +kernel
theorem dX2_setsToBeRight_34 : decode cX2_setsToBeRight 34 = .ok (.istore_n 2, 1) := by decide +kernel
theorem dX2_setsToBeRight_35 : decode cX2_setsToBeRight 35 = .ok (.iinc 3 1, 3) := by decide +kernel
theorem dX2_setsToBeRight_38 : decode cX2_setsToBeRight 38 = .ok (.goto (-34), 3) := by decide +kernel
theorem dX2_setsToBeRight_41 : decode cX2_setsToBeRight 41 = .ok (.iload_n 2, 1) := by decide +kernel
theorem dX2_setsToBeRight_42 : decode cX2_setsToBeRight 42 = .ok (.ireturn, 1) := by decide +kernel
theorem dX2_canAllBeRight_0 : decode cX2_canAllBeRight 0 = .ok (.iload_n 2, 1) := by decide +kernel
theorem dX2_canAllBeRight_1 : decode cX2_canAllBeRight 1 = .ok (.aload_n 0, 1) := by decide +kernel
theorem dX2_canAllBeRight_2 : decode cX2_canAllBeRight 2 = .ok (.getfield 31, 3) := by decide +kernel
theorem dX2_canAllBeRight_5 : decode cX2_canAllBeRight 5 = .ok (.if_icmp .lt 5, 3) := by decide +kernel
theorem dX2_canAllBeRight_8 : decode cX2_canAllBeRight 8 = .ok (.iconst 1, 1) := by decide +kernel
theorem dX2_canAllBeRight_9 : decode cX2_canAllBeRight 9 = .ok (.ireturn, 1) := by decide +kernel
theorem dX2_canAllBeRight_10 : decode cX2_canAllBeRight 10 = .ok (.iload_n 1, 1) := by decide +kernel
theorem dX2_canAllBeRight_11 : decode cX2_canAllBeRight 11 = .ok (.iload_n 2, 1) := by decide +kernel
theorem dX2_canAllBeRight_12 : decode cX2_canAllBeRight 12 = .ok (.ishr, 1) := by decide +kernel
theorem dX2_canAllBeRight_13 : decode cX2_canAllBeRight 13 = .ok (.iconst 1, 1) := by decide +kernel
theorem dX2_canAllBeRight_14 : decode cX2_canAllBeRight 14 = .ok (.iand, 1) := by decide +kernel
theorem dX2_canAllBeRight_15 : decode cX2_canAllBeRight 15 = .ok (.ifCond .ne 13, 3) := by decide +kernel
theorem dX2_canAllBeRight_18 : decode cX2_canAllBeRight 18 = .ok (.aload_n 0, 1) := by decide +kernel
theorem dX2_canAllBeRight_19 : decode cX2_canAllBeRight 19 = .ok (.iload_n 1, 1) := by decide +kernel
theorem dX2_canAllBeRight_20 : decode cX2_canAllBeRight 20 = .ok (.iload_n 2, 1) := by decide +kernel
theorem dX2_canAllBeRight_21 : decode cX2_canAllBeRight 21 = .ok (.iconst 1, 1) := by decide +kernel
theorem dX2_canAllBeRight_22 : decode cX2_canAllBeRight 22 = .ok (.iadd, 1) := by decide +kernel
theorem dX2_canAllBeRight_23 : decode cX2_canAllBeRight 23 = .ok (.iload_n 3, 1) := by decide +kernel
theorem dX2_canAllBeRight_24 : decode cX2_canAllBeRight 24 = .ok (.invokevirtual 105, 3) := by decide +kernel
theorem dX2_canAllBeRight_27 : decode cX2_canAllBeRight 27 = .ok (.ireturn, 1) := by decide +kernel
theorem dX2_canAllBeRight_28 : decode cX2_canAllBeRight 28 = .ok (.iconst 0, 1) := by decide +kernel
theorem dX2_canAllBeRight_29 : decode cX2_canAllBeRight 29 = .ok (.istore 4, 2) := by decide +kernel
theorem dX2_canAllBeRight_31 : decode cX2_canAllBeRight 31 = .ok (.iload 4, 2) := by decide +kernel
theorem dX2_canAllBeRight_33 : decode cX2_canAllBeRight 33 = .ok (.aload_n 0, 1) := by decide +kernel
theorem dX2_canAllBeRight_34 : decode cX2_canAllBeRight 34 = .ok (.getfield 17, 3) := by decide +kernel
theorem dX2_canAllBeRight_37 : decode cX2_canAllBeRight 37 = .ok (.iload_n 2, 1) := by decide +kernel
theorem dX2_canAllBeRight_38 : decode cX2_canAllBeRight 38 = .ok (.aaload, 1) := by decide +kernel
theorem dX2_canAllBeRight_39 : decode cX2_canAllBeRight 39 = .ok (.invokevirtual 82, 3) := by decide +kernel
theorem dX2_canAllBeRight_42 : decode cX2_canAllBeRight 42 = .ok (.if_icmp .gt 59, 3) := by decide +kernel
theorem dX2_canAllBeRight_45 : decode cX2_canAllBeRight 45 = .ok (.aload_n 0, 1) := by decide +kernel
theorem dX2_canAllBeRight_46 : decode cX2_canAllBeRight 46 = .ok (.getfield 21, 3) := by decide +kernel
theorem dX2_canAllBeRight_49 : decode cX2_canAllBeRight 49 = .ok (.iload_n 2, 1) := by decide +kernel
theorem dX2_canAllBeRight_50 : decode cX2_canAllBeRight 50 = .ok (.iaload, 1) := by decide +kernel
theorem dX2_canAllBeRight_51 : decode cX2_canAllBeRight 51 = .ok (.iload 4, 2) := by decide +kernel
theorem dX2_canAllBeRight_53 : decode cX2_canAllBeRight 53 = .ok (.ishr, 1) := by decide +kernel
theorem dX2_canAllBeRight_54 : decode cX2_canAllBeRight 54 = .ok (.iconst 1, 1) := by decide +kernel
theorem dX2_canAllBeRight_55 : decode cX2_canAllBeRight 55 = .ok (.iand, 1) := by decide +kernel
theorem dX2_canAllBeRight_56 : decode cX2_canAllBeRight 56 = .ok (.iconst 1, 1) := by decide +kernel
theorem dX2_canAllBeRight_57 : decode cX2_canAllBeRight 57 = .ok (.if_icmp .ne 38, 3) := by decide +kernel
theorem dX2_canAllBeRight_60 : decode cX2_canAllBeRight 60 = .ok (.iload_n 3, 1) := by decide +kernel
theorem dX2_canAllBeRight_61 : decode cX2_canAllBeRight 61 = .ok (.iload 4, 2) := by decide +kernel
theorem dX2_canAllBeRight_63 : decode cX2_canAllBeRight 63 = .ok (.invokestatic 95, 3) := by decide +kernel
theorem dX2_canAllBeRight_66 : decode cX2_canAllBeRight 66 = .ok (.iadd, 1) := by decide +kernel
theorem dX2_canAllBeRight_67 : decode cX2_canAllBeRight 67 = .ok (.istore 5, 2) := by decide +kernel
theorem dX2_canAllBeRight_69 : decode cX2_canAllBeRight 69 = .ok (.aload_n 0, 1) := by decide +kernel
theorem dX2_canAllBeRight_70 : decode cX2_canAllBeRight 70 = .ok (.iload 5, 2) := by decide +kernel
theorem dX2_canAllBeRight_72 : decode cX2_canAllBeRight 72 = .ok (.invokevirtual 98, 3) := by decide +kernel
theorem dX2_canAllBeRight_75 : decode cX2_canAllBeRight 75 = .ok (.bipush (-9), 2) := by decide +kernel
theorem dX2_canAllBeRight_77 : decode cX2_canAllBeRight 77 = .ok (.if_icmp .ne 18, 3) := by decide +kernel
theorem dX2_canAllBeRight_80 : decode cX2_canAllBeRight 80 = .ok (.aload_n 0, 1) := by decide +kernel
theorem dX2_canAllBeRight_81 : decode cX2_canAllBeRight 81 = .ok (.iload_n 1, 1) := by decide +kernel
theorem dX2_canAllBeRight_82 : decode cX2_canAllBeRight 82 = .ok (.iload_n 2, 1) := by decide +kernel
theorem dX2_canAllBeRight_83 : decode cX2_canAllBeRight 83 = .ok (.iconst 1, 1) := by decide +kernel
theorem dX2_canAllBeRight_84 : decode cX2_canAllBeRight 84 = .ok (.iadd, 1) := by decide +kernel
theorem dX2_canAllBeRight_85 : decode cX2_canAllBeRight 85 = .ok (.iload 5, 2) := by decide +kernel
theorem dX2_canAllBeRight_87 : decode cX2_canAllBeRight 87 = .ok (.invokevirtual 105, 3) := by decide +kernel
theorem dX2_canAllBeRight_90 : decode cX2_canAllBeRight 90 = .ok (.ifCond .eq 5, 3) := by decide +kernel
theorem dX2_canAllBeRight_93 : decode cX2_canAllBeRight 93 = .ok (.iconst 1, 1) := by decide +kernel
theorem dX2_canAllBeRight_94 : decode cX2_canAllBeRight 94 = .ok (.ireturn, 1) := by decide +kernel
theorem dX2_canAllBeRight_95 : decode cX2_canAllBeRight 95 = .ok (.iinc 4 1, 3) := by decide +kernel
theorem dX2_canAllBeRight_98 : decode cX2_canAllBeRight 98 = .ok (.goto (-67), 3) := by decide +kernel
theorem dX2_canAllBeRight_101 : decode cX2_canAllBeRight 101 = .ok (.iconst 0, 1) := by decide +kernel
theorem dX2_canAllBeRight_102 : decode cX2_canAllBeRight 102 = .ok (.ireturn, 1) := by decide +kernel
theorem dX3_firstFault_0 : decode cX3_firstFault 0 = .ok (.aload_n 0, 1) := by decide +kernel
theorem dX3_firstFault_1 : decode cX3_firstFault 1 = .ok (.iload_n 1, 1) := by decide +kernel
theorem dX3_firstFault_2 : decode cX3_firstFault 2 = .ok (.iload_n 2, 1) := by decide +kernel
theorem dX3_firstFault_3 : decode cX3_firstFault 3 = .ok (.invokestatic 9, 3) := by decide +kernel
theorem dX3_firstFault_6 : decode cX3_firstFault 6 = .ok (.istore_n 3, 1) := by decide +kernel
theorem dX3_firstFault_7 : decode cX3_firstFault 7 = .ok (.iconst 0, 1) := by decide +kernel
theorem dX3_firstFault_8 : decode cX3_firstFault 8 = .ok (.istore 4, 2) := by decide +kernel
theorem dX3_firstFault_10 : decode cX3_firstFault 10 = .ok (.iload 4, 2) := by decide +kernel
theorem dX3_firstFault_12 : decode cX3_firstFault 12 = .ok (.iload_n 2, 1) := by decide +kernel
theorem dX3_firstFault_13 : decode cX3_firstFault 13 = .ok (.if_icmp .ge 23, 3) := by decide +kernel
theorem dX3_firstFault_16 : decode cX3_firstFault 16 = .ok (.aload_n 0, 1) := by decide +kernel
theorem dX3_firstFault_17 : decode cX3_firstFault 17 = .ok (.iload_n 1, 1) := by decide +kernel
theorem dX3_firstFault_18 : decode cX3_firstFault 18 = .ok (.iload 4, 2) := by decide +kernel
theorem dX3_firstFault_20 : decode cX3_firstFault 20 = .ok (.iload_n 3, 1) := by decide +kernel
theorem dX3_firstFault_21 : decode cX3_firstFault 21 = .ok (.invokestatic 15, 3) := by decide +kernel
theorem dX3_firstFault_24 : decode cX3_firstFault 24 = .ok (.ifCond .ne 6, 3) := by decide +kernel
theorem dX3_firstFault_27 : decode cX3_firstFault 27 = .ok (.iload 4, 2) := by decide +kernel
theorem dX3_firstFault_29 : decode cX3_firstFault 29 = .ok (.ireturn, 1) := by decide +kernel
theorem dX3_firstFault_30 : decode cX3_firstFault 30 = .ok (.iinc 4 1, 3) := by decide +kernel
theorem dX3_firstFault_33 : decode cX3_firstFault 33 = .ok (.goto (-23), 3) := by decide +kernel
theorem dX3_firstFault_36 : decode cX3_firstFault 36 = .ok (.iload_n 2, 1) := by decide +kernel
theorem dX3_firstFault_37 : decode cX3_firstFault 37 = .ok (.iconst 3, 1) := by decide +kernel
theorem dX3_firstFault_38 : decode cX3_firstFault 38 = .ok (.isub, 1) := by decide +kernel
theorem dX3_firstFault_39 : decode cX3_firstFault 39 = .ok (.iload_n 3, 1) := by decide +kernel
theorem dX3_firstFault_40 : decode cX3_firstFault 40 = .ok (.isub, 1) := by decide +kernel
theorem dX3_firstFault_41 : decode cX3_firstFault 41 = .ok (.istore 4, 2) := by decide +kernel
theorem dX3_firstFault_43 : decode cX3_firstFault 43 = .ok (.iload_n 3, 1) := by decide +kernel
theorem dX3_firstFault_44 : decode cX3_firstFault 44 = .ok (.ifCond .le 20, 3) := by decide +kernel
theorem dX3_firstFault_47 : decode cX3_firstFault 47 = .ok (.iload 4, 2) := by decide +kernel
theorem dX3_firstFault_49 : decode cX3_firstFault 49 = .ok (.ifCond .le 15, 3) := by decide +kernel
theorem dX3_firstFault_52 : decode cX3_firstFault 52 = .ok (.iload 4, 2) := by decide +kernel
theorem dX3_firstFault_54 : decode cX3_firstFault 54 = .ok (.bipush 8, 2) := by decide +kernel
theorem dX3_firstFault_56 : decode cX3_firstFault 56 = .ok (.irem, 1) := by decide +kernel
theorem dX3_firstFault_57 : decode cX3_firstFault 57 = .ok (.ifCond .ne 7, 3) := by decide +kernel
theorem dX3_firstFault_60 : decode cX3_firstFault 60 = .ok (.iconst 1, 1) := by decide +kernel
theorem dX3_firstFault_61 : decode cX3_firstFault 61 = .ok (.goto 4, 3) := by decide +kernel
theorem dX3_firstFault_64 : decode cX3_firstFault 64 = .ok (.iconst 0, 1) := by decide +kernel
theorem dX3_firstFault_65 : decode cX3_firstFault 65 = .ok (.istore 5, 2) := by decide +kernel
theorem dX3_firstFault_67 : decode cX3_firstFault 67 = .ok (.iload 5, 2) := by decide +kernel
theorem dX3_firstFault_69 : decode cX3_firstFault 69 = .ok (.ifCond .eq 8, 3) := by decide +kernel
theorem dX3_firstFault_72 : decode cX3_firstFault 72 = .ok (.bipush (-9), 2) := by decide +kernel
theorem dX3_firstFault_74 : decode cX3_firstFault 74 = .ok (.goto 4, 3) := by decide +kernel
theorem dX3_firstFault_77 : decode cX3_firstFault 77 = .ok (.iload_n 2, 1) := by decide +kernel
theorem dX3_firstFault_78 : decode cX3_firstFault 78 = .ok (.ireturn, 1) := by decide +kernel
theorem dX3_sectionsTold_0 : decode cX3_sectionsTold 0 = .ok (.iconst 0, 1) := by decide +kernel
theorem dX3_sectionsTold_1 : decode cX3_sectionsTold 1 = .ok (.istore_n 3, 1) := by decide +kernel
theorem dX3_sectionsTold_2 : decode cX3_sectionsTold 2 = .ok (.iload_n 3, 1) := by decide +kernel
theorem dX3_sectionsTold_3 : decode cX3_sectionsTold 3 = .ok (.iconst 5, 1) := by decide +kernel
theorem dX3_sectionsTold_4 : decode cX3_sectionsTold 4 = .ok (.if_icmp .ge 33, 3) := by decide +kernel
theorem dX3_sectionsTold_7 : decode cX3_sectionsTold 7 = .ok (.iconst 3, 1) := by decide +kernel
theorem dX3_sectionsTold_8 : decode cX3_sectionsTold 8 = .ok (.iload_n 3, 1) := by decide +kernel
theorem dX3_sectionsTold_9 : decode cX3_sectionsTold 9 = .ok (.iadd, 1) := by decide +kernel
theorem dX3_sectionsTold_10 : decode cX3_sectionsTold 10 = .ok (.iload_n 2, 1) := by decide +kernel
theorem dX3_sectionsTold_11 : decode cX3_sectionsTold 11 = .ok (.if_icmp .ge 26, 3) := by decide +kernel
theorem dX3_sectionsTold_14 : decode cX3_sectionsTold 14 = .ok (.aload_n 0, 1) := by decide +kernel
theorem dX3_sectionsTold_15 : decode cX3_sectionsTold 15 = .ok (.iload_n 1, 1) := by decide +kernel
theorem dX3_sectionsTold_16 : decode cX3_sectionsTold 16 = .ok (.iconst 3, 1) := by decide +kernel
theorem dX3_sectionsTold_17 : decode cX3_sectionsTold 17 = .ok (.iadd, 1) := by decide +kernel
theorem dX3_sectionsTold_18 : decode cX3_sectionsTold 18 = .ok (.iload_n 3, 1) := by decide +kernel
theorem dX3_sectionsTold_19 : decode cX3_sectionsTold 19 = .ok (.iadd, 1) := by decide +kernel
theorem dX3_sectionsTold_20 : decode cX3_sectionsTold 20 = .ok (.invokevirtual 19, 3) := by decide +kernel
theorem dX3_sectionsTold_23 : decode cX3_sectionsTold 23 = .ok (.iconst 0, 1) := by decide +kernel
theorem dX3_sectionsTold_24 : decode cX3_sectionsTold 24 = .ok (.iconst 3, 1) := by decide +kernel
theorem dX3_sectionsTold_25 : decode cX3_sectionsTold 25 = .ok (.invokestatic 25, 3) := by decide +kernel
theorem dX3_sectionsTold_28 : decode cX3_sectionsTold 28 = .ok (.ifCond .eq 9, 3) := by decide +kernel
theorem dX3_sectionsTold_31 : decode cX3_sectionsTold 31 = .ok (.iinc 3 1, 3) := by decide +kernel
theorem dX3_sectionsTold_34 : decode cX3_sectionsTold 34 = .ok (.goto (-32), 3) := by decide +kernel
theorem dX3_sectionsTold_37 : decode cX3_sectionsTold 37 = .ok (.iload_n 3, 1) := by decide +kernel
theorem dX3_sectionsTold_38 : decode cX3_sectionsTold 38 = .ok (.ireturn, 1) := by decide +kernel
theorem dX3_goesOn_0 : decode cX3_goesOn 0 = .ok (.aload_n 0, 1) := by decide +kernel
theorem dX3_goesOn_1 : decode cX3_goesOn 1 = .ok (.iload_n 1, 1) := by decide +kernel
theorem dX3_goesOn_2 : decode cX3_goesOn 2 = .ok (.iload_n 2, 1) := by decide +kernel
theorem dX3_goesOn_3 : decode cX3_goesOn 3 = .ok (.iadd, 1) := by decide +kernel
theorem dX3_goesOn_4 : decode cX3_goesOn 4 = .ok (.invokevirtual 19, 3) := by decide +kernel
theorem dX3_goesOn_7 : decode cX3_goesOn 7 = .ok (.istore 4, 2) := by decide +kernel
theorem dX3_goesOn_9 : decode cX3_goesOn 9 = .ok (.iload_n 2, 1) := by decide +kernel
theorem dX3_goesOn_10 : decode cX3_goesOn 10 = .ok (.tableswitch 60 0 2 #[26, 39, 47], 26) := by decide +kernel
theorem dX3_goesOn_36 : decode cX3_goesOn 36 = .ok (.iload 4, 2) := by decide +kernel
theorem dX3_goesOn_38 : decode cX3_goesOn 38 = .ok (.bipush 117, 2) := by decide +kernel
theorem dX3_goesOn_40 : decode cX3_goesOn 40 = .ok (.if_icmp .ne 7, 3) := by decide +kernel
theorem dX3_goesOn_43 : decode cX3_goesOn 43 = .ok (.iconst 1, 1) := by decide +kernel
theorem dX3_goesOn_44 : decode cX3_goesOn 44 = .ok (.goto 4, 3) := by decide +kernel
theorem dX3_goesOn_47 : decode cX3_goesOn 47 = .ok (.iconst 0, 1) := by decide +kernel
theorem dX3_goesOn_48 : decode cX3_goesOn 48 = .ok (.ireturn, 1) := by decide +kernel
theorem dX3_goesOn_49 : decode cX3_goesOn 49 = .ok (.iload 4, 2) := by decide +kernel
theorem dX3_goesOn_51 : decode cX3_goesOn 51 = .ok (.iconst 0, 1) := by decide +kernel
theorem dX3_goesOn_52 : decode cX3_goesOn 52 = .ok (.iconst 3, 1) := by decide +kernel
theorem dX3_goesOn_53 : decode cX3_goesOn 53 = .ok (.invokestatic 25, 3) := by decide +kernel
theorem dX3_goesOn_56 : decode cX3_goesOn 56 = .ok (.ireturn, 1) := by decide +kernel
theorem dX3_goesOn_57 : decode cX3_goesOn 57 = .ok (.iload 4, 2) := by decide +kernel
theorem dX3_goesOn_59 : decode cX3_goesOn 59 = .ok (.bipush 44, 2) := by decide +kernel
theorem dX3_goesOn_61 : decode cX3_goesOn 61 = .ok (.if_icmp .ne 7, 3) := by decide +kernel
theorem dX3_goesOn_64 : decode cX3_goesOn 64 = .ok (.iconst 1, 1) := by decide +kernel
theorem dX3_goesOn_65 : decode cX3_goesOn 65 = .ok (.goto 4, 3) := by decide +kernel
theorem dX3_goesOn_68 : decode cX3_goesOn 68 = .ok (.iconst 0, 1) := by decide +kernel
theorem dX3_goesOn_69 : decode cX3_goesOn 69 = .ok (.ireturn, 1) := by decide +kernel
theorem dX3_goesOn_70 : decode cX3_goesOn 70 = .ok (.iload_n 2, 1) := by decide +kernel
theorem dX3_goesOn_71 : decode cX3_goesOn 71 = .ok (.iconst 3, 1) := by decide +kernel
theorem dX3_goesOn_72 : decode cX3_goesOn 72 = .ok (.iload_n 3, 1) := by decide +kernel
theorem dX3_goesOn_73 : decode cX3_goesOn 73 = .ok (.iadd, 1) := by decide +kernel
theorem dX3_goesOn_74 : decode cX3_goesOn 74 = .ok (.if_icmp .ge 5, 3) := by decide +kernel
theorem dX3_goesOn_77 : decode cX3_goesOn 77 = .ok (.iconst 1, 1) := by decide +kernel
theorem dX3_goesOn_78 : decode cX3_goesOn 78 = .ok (.ireturn, 1) := by decide +kernel
theorem dX3_goesOn_79 : decode cX3_goesOn 79 = .ok (.iload_n 2, 1) := by decide +kernel
theorem dX3_goesOn_80 : decode cX3_goesOn 80 = .ok (.iconst 3, 1) := by decide +kernel
theorem dX3_goesOn_81 : decode cX3_goesOn 81 = .ok (.isub, 1) := by decide +kernel
theorem dX3_goesOn_82 : decode cX3_goesOn 82 = .ok (.iload_n 3, 1) := by decide +kernel
theorem dX3_goesOn_83 : decode cX3_goesOn 83 = .ok (.isub, 1) := by decide +kernel
theorem dX3_goesOn_84 : decode cX3_goesOn 84 = .ok (.istore 5, 2) := by decide +kernel
theorem dX3_goesOn_86 : decode cX3_goesOn 86 = .ok (.iload_n 3, 1) := by decide +kernel
theorem dX3_goesOn_87 : decode cX3_goesOn 87 = .ok (.ifCond .eq 10, 3) := by decide +kernel
theorem dX3_goesOn_90 : decode cX3_goesOn 90 = .ok (.iload 5, 2) := by decide +kernel
theorem dX3_goesOn_92 : decode cX3_goesOn 92 = .ok (.bipush 32, 2) := by decide +kernel
theorem dX3_goesOn_94 : decode cX3_goesOn 94 = .ok (.if_icmp .lt 5, 3) := by decide +kernel
theorem dX3_goesOn_97 : decode cX3_goesOn 97 = .ok (.iconst 0, 1) := by decide +kernel
theorem dX3_goesOn_98 : decode cX3_goesOn 98 = .ok (.ireturn, 1) := by decide +kernel
theorem dX3_goesOn_99 : decode cX3_goesOn 99 = .ok (.aload_n 0, 1) := by decide +kernel
theorem dX3_goesOn_100 : decode cX3_goesOn 100 = .ok (.iload_n 1, 1) := by decide +kernel
theorem dX3_goesOn_101 : decode cX3_goesOn 101 = .ok (.iload_n 2, 1) := by decide +kernel
theorem dX3_goesOn_102 : decode cX3_goesOn 102 = .ok (.iadd, 1) := by decide +kernel
theorem dX3_goesOn_103 : decode cX3_goesOn 103 = .ok (.iload 5, 2) := by decide +kernel
theorem dX3_goesOn_105 : decode cX3_goesOn 105 = .ok (.bipush 8, 2) := by decide +kernel
theorem dX3_goesOn_107 : decode cX3_goesOn 107 = .ok (.irem, 1) := by decide +kernel
theorem dX3_goesOn_108 : decode cX3_goesOn 108 = .ok (.iload_n 3, 1) := by decide +kernel
theorem dX3_goesOn_109 : decode cX3_goesOn 109 = .ok (.invokestatic 29, 3) := by decide +kernel
theorem dX3_goesOn_112 : decode cX3_goesOn 112 = .ok (.ireturn, 1) := by decide +kernel
theorem dX3_riderGoesOn_0 : decode cX3_riderGoesOn 0 = .ok (.aload_n 0, 1) := by decide +kernel
theorem dX3_riderGoesOn_1 : decode cX3_riderGoesOn 1 = .ok (.iload_n 1, 1) := by decide +kernel
theorem dX3_riderGoesOn_2 : decode cX3_riderGoesOn 2 = .ok (.invokevirtual 19, 3) := by decide +kernel
theorem dX3_riderGoesOn_5 : decode cX3_riderGoesOn 5 = .ok (.istore 4, 2) := by decide +kernel
theorem dX3_riderGoesOn_7 : decode cX3_riderGoesOn 7 = .ok (.iload_n 2, 1) := by decide +kernel
theorem dX3_riderGoesOn_8 : decode cX3_riderGoesOn 8 = .ok (.tableswitch 103 0 4 #[36, 49, 65, 75, 94], 36) := by decide +kernel
theorem dX3_riderGoesOn_44 : decode cX3_riderGoesOn 44 = .ok (.iload 4, 2) := by decide +kernel
theorem dX3_riderGoesOn_46 : decode cX3_riderGoesOn 46 = .ok (.bipush 59, 2) := by decide +kernel
theorem dX3_riderGoesOn_48 : decode cX3_riderGoesOn 48 = .ok (.if_icmp .ne 7, 3) := by decide +kernel
theorem dX3_riderGoesOn_51 : decode cX3_riderGoesOn 51 = .ok (.iconst 1, 1) := by decide +kernel
theorem dX3_riderGoesOn_52 : decode cX3_riderGoesOn 52 = .ok (.goto 4, 3) := by decide +kernel
theorem dX3_riderGoesOn_55 : decode cX3_riderGoesOn 55 = .ok (.iconst 0, 1) := by decide +kernel
theorem dX3_riderGoesOn_56 : decode cX3_riderGoesOn 56 = .ok (.ireturn, 1) := by decide +kernel
theorem dX3_riderGoesOn_57 : decode cX3_riderGoesOn 57 = .ok (.iload 4, 2) := by decide +kernel
theorem dX3_riderGoesOn_59 : decode cX3_riderGoesOn 59 = .ok (.invokestatic 32, 3) := by decide +kernel
theorem dX3_riderGoesOn_62 : decode cX3_riderGoesOn 62 = .ok (.bipush (-9), 2) := by decide +kernel
theorem dX3_riderGoesOn_64 : decode cX3_riderGoesOn 64 = .ok (.if_icmp .eq 7, 3) := by decide +kernel
theorem dX3_riderGoesOn_67 : decode cX3_riderGoesOn 67 = .ok (.iconst 1, 1) := by decide +kernel
theorem dX3_riderGoesOn_68 : decode cX3_riderGoesOn 68 = .ok (.goto 4, 3) := by decide +kernel
theorem dX3_riderGoesOn_71 : decode cX3_riderGoesOn 71 = .ok (.iconst 0, 1) := by decide +kernel
theorem dX3_riderGoesOn_72 : decode cX3_riderGoesOn 72 = .ok (.ireturn, 1) := by decide +kernel
theorem dX3_riderGoesOn_73 : decode cX3_riderGoesOn 73 = .ok (.iload 4, 2) := by decide +kernel
theorem dX3_riderGoesOn_75 : decode cX3_riderGoesOn 75 = .ok (.iconst 0, 1) := by decide +kernel
theorem dX3_riderGoesOn_76 : decode cX3_riderGoesOn 76 = .ok (.iload_n 3, 1) := by decide +kernel
theorem dX3_riderGoesOn_77 : decode cX3_riderGoesOn 77 = .ok (.iconst 1, 1) := by decide +kernel
theorem dX3_riderGoesOn_78 : decode cX3_riderGoesOn 78 = .ok (.isub, 1) := by decide +kernel
theorem dX3_riderGoesOn_79 : decode cX3_riderGoesOn 79 = .ok (.invokestatic 25, 3) := by decide +kernel
theorem dX3_riderGoesOn_82 : decode cX3_riderGoesOn 82 = .ok (.ireturn, 1) := by decide +kernel
theorem dX3_riderGoesOn_83 : decode cX3_riderGoesOn 83 = .ok (.iload 4, 2) := by decide +kernel
theorem dX3_riderGoesOn_85 : decode cX3_riderGoesOn 85 = .ok (.aload_n 0, 1) := by decide +kernel
theorem dX3_riderGoesOn_86 : decode cX3_riderGoesOn 86 = .ok (.iload_n 1, 1) := by decide +kernel
theorem dX3_riderGoesOn_87 : decode cX3_riderGoesOn 87 = .ok (.iconst 1, 1) := by decide +kernel
theorem dX3_riderGoesOn_88 : decode cX3_riderGoesOn 88 = .ok (.isub, 1) := by decide +kernel
theorem dX3_riderGoesOn_89 : decode cX3_riderGoesOn 89 = .ok (.invokevirtual 19, 3) := by decide +kernel
theorem dX3_riderGoesOn_92 : decode cX3_riderGoesOn 92 = .ok (.invokestatic 35, 3) := by decide +kernel
theorem dX3_riderGoesOn_95 : decode cX3_riderGoesOn 95 = .ok (.iconst 1, 1) := by decide +kernel
theorem dX3_riderGoesOn_96 : decode cX3_riderGoesOn 96 = .ok (.iadd, 1) := by decide +kernel
theorem dX3_riderGoesOn_97 : decode cX3_riderGoesOn 97 = .ok (.iload_n 3, 1) := by decide +kernel
theorem dX3_riderGoesOn_98 : decode cX3_riderGoesOn 98 = .ok (.invokestatic 25, 3) := by decide +kernel
theorem dX3_riderGoesOn_101 : decode cX3_riderGoesOn 101 = .ok (.ireturn, 1) := by decide +kernel
theorem dX3_riderGoesOn_102 : decode cX3_riderGoesOn 102 = .ok (.iload 4, 2) := by decide +kernel
theorem dX3_riderGoesOn_104 : decode cX3_riderGoesOn 104 = .ok (.iconst 0, 1) := by decide +kernel
theorem dX3_riderGoesOn_105 : decode cX3_riderGoesOn 105 = .ok (.bipush 7, 2) := by decide +kernel
theorem dX3_riderGoesOn_107 : decode cX3_riderGoesOn 107 = .ok (.invokestatic 25, 3) := by decide +kernel
theorem dX3_riderGoesOn_110 : decode cX3_riderGoesOn 110 = .ok (.ireturn, 1) := by decide +kernel
theorem dX3_riderGoesOn_111 : decode cX3_riderGoesOn 111 = .ok (.iload 4, 2) := by decide +kernel
theorem dX3_riderGoesOn_113 : decode cX3_riderGoesOn 113 = .ok (.iconst 0, 1) := by decide +kernel
theorem dX3_riderGoesOn_114 : decode cX3_riderGoesOn 114 = .ok (.bipush 9, 2) := by decide +kernel
theorem dX3_riderGoesOn_116 : decode cX3_riderGoesOn 116 = .ok (.invokestatic 25, 3) := by decide +kernel
theorem dX3_riderGoesOn_119 : decode cX3_riderGoesOn 119 = .ok (.ireturn, 1) := by decide +kernel
theorem dX3_kindOf_0 : decode cX3_kindOf 0 = .ok (.iload_n 0, 1) := by decide +kernel
theorem dX3_kindOf_1 : decode cX3_kindOf 1 = .ok (.lookupswitch 41 #[(101, 39), (108, 37), (114, 35)], 35) := by decide +kernel
theorem dX3_kindOf_36 : decode cX3_kindOf 36 = .ok (.iconst 0, 1) := by decide +kernel
theorem dX3_kindOf_37 : decode cX3_kindOf 37 = .ok (.ireturn, 1) := by decide +kernel
theorem dX3_kindOf_38 : decode cX3_kindOf 38 = .ok (.iconst 1, 1) := by decide +kernel
theorem dX3_kindOf_39 : decode cX3_kindOf 39 = .ok (.ireturn, 1) := by decide +kernel
theorem dX3_kindOf_40 : decode cX3_kindOf 40 = .ok (.iconst 2, 1) := by decide +kernel
theorem dX3_kindOf_41 : decode cX3_kindOf 41 = .ok (.ireturn, 1) := by decide +kernel
theorem dX3_kindOf_42 : decode cX3_kindOf 42 = .ok (.bipush (-9), 2) := by decide +kernel
theorem dX3_kindOf_44 : decode cX3_kindOf 44 = .ok (.ireturn, 1) := by decide +kernel
theorem dX3_digit_0 : decode cX3_digit 0 = .ok (.iload_n 0, 1) := by decide +kernel
theorem dX3_digit_1 : decode cX3_digit 1 = .ok (.bipush 48, 2) := by decide +kernel
theorem dX3_digit_3 : decode cX3_digit 3 = .ok (.isub, 1) := by decide +kernel
theorem dX3_digit_4 : decode cX3_digit 4 = .ok (.ireturn, 1) := by decide +kernel
theorem dX3_isDigit_0 : decode cX3_isDigit 0 = .ok (.iload_n 0, 1) := by decide +kernel
theorem dX3_isDigit_1 : decode cX3_isDigit 1 = .ok (.bipush 48, 2) := by decide +kernel
theorem dX3_isDigit_3 : decode cX3_isDigit 3 = .ok (.iload_n 1, 1) := by decide +kernel
theorem dX3_isDigit_4 : decode cX3_isDigit 4 = .ok (.iadd, 1) := by decide +kernel
theorem dX3_isDigit_5 : decode cX3_isDigit 5 = .ok (.if_icmp .lt 15, 3) := by decide +kernel
theorem dX3_isDigit_8 : decode cX3_isDigit 8 = .ok (.iload_n 0, 1) := by decide +kernel
theorem dX3_isDigit_9 : decode cX3_isDigit 9 = .ok (.bipush 48, 2) := by decide +kernel
theorem dX3_isDigit_11 : decode cX3_isDigit 11 = .ok (.iload_n 2, 1) := by decide +kernel
theorem dX3_isDigit_12 : decode cX3_isDigit 12 = .ok (.iadd, 1) := by decide +kernel
theorem dX3_isDigit_13 : decode cX3_isDigit 13 = .ok (.if_icmp .gt 7, 3) := by decide +kernel
theorem dX3_isDigit_16 : decode cX3_isDigit 16 = .ok (.iconst 1, 1) := by decide +kernel
theorem dX3_isDigit_17 : decode cX3_isDigit 17 = .ok (.goto 4, 3) := by decide +kernel
theorem dX3_isDigit_20 : decode cX3_isDigit 20 = .ok (.iconst 0, 1) := by decide +kernel
theorem dX3_isDigit_21 : decode cX3_isDigit 21 = .ok (.ireturn, 1) := by decide +kernel
theorem dX4_init_0 : decode cX4_init 0 = .ok (.aload_n 0, 1) := by decide +kernel
theorem dX4_init_1 : decode cX4_init 1 = .ok (.invokespecial 3, 3) := by decide +kernel
theorem dX4_init_4 : decode cX4_init 4 = .ok (.aload_n 0, 1) := by decide +kernel
theorem dX4_init_5 : decode cX4_init 5 = .ok (.iconst 0, 1) := by decide +kernel
theorem dX4_init_6 : decode cX4_init 6 = .ok (.putfield 9, 3) := by decide +kernel
theorem dX4_init_9 : decode cX4_init 9 = .ok (.aload_n 0, 1) := by decide +kernel
theorem dX4_init_10 : decode cX4_init 10 = .ok (.iconst 0, 1) := by decide +kernel
theorem dX4_init_11 : decode cX4_init 11 = .ok (.putfield 15, 3) := by decide +kernel
theorem dX4_init_14 : decode cX4_init 14 = .ok (.aload_n 0, 1) := by decide +kernel
theorem dX4_init_15 : decode cX4_init 15 = .ok (.iconst 0, 1) := by decide +kernel
theorem dX4_init_16 : decode cX4_init 16 = .ok (.putfield 18, 3) := by decide +kernel
theorem dX4_init_19 : decode cX4_init 19 = .ok (.aload_n 0, 1) := by decide +kernel
theorem dX4_init_20 : decode cX4_init 20 = .ok (.iconst 0, 1) := by decide +kernel
theorem dX4_init_21 : decode cX4_init 21 = .ok (.putfield 21, 3) := by decide +kernel
theorem dX4_init_24 : decode cX4_init 24 = .ok (.aload_n 0, 1) := by decide +kernel
theorem dX4_init_25 : decode cX4_init 25 = .ok (.iconst 0, 1) := by decide +kernel
theorem dX4_init_26 : decode cX4_init 26 = .ok (.putfield 24, 3) := by decide +kernel
theorem dX4_init_29 : decode cX4_init 29 = .ok (.return_, 1) := by decide +kernel
theorem dX4_board_0 : decode cX4_board 0 = .ok (.aload_n 0, 1) := by decide +kernel
theorem dX4_board_1 : decode cX4_board 1 = .ok (.aload_n 1, 1) := by decide +kernel
theorem dX4_board_2 : decode cX4_board 2 = .ok (.iload_n 2, 1) := by decide +kernel
theorem dX4_board_3 : decode cX4_board 3 = .ok (.iconst 1, 1) := by decide +kernel
theorem dX4_board_4 : decode cX4_board 4 = .ok (.iadd, 1) := by decide +kernel
theorem dX4_board_5 : decode cX4_board 5 = .ok (.invokevirtual 27, 3) := by decide +kernel
theorem dX4_board_8 : decode cX4_board 8 = .ok (.invokestatic 33, 3) := by decide +kernel
theorem dX4_board_11 : decode cX4_board 11 = .ok (.putfield 9, 3) := by decide +kernel
theorem dX4_board_14 : decode cX4_board 14 = .ok (.aload_n 0, 1) := by decide +kernel
theorem dX4_board_15 : decode cX4_board 15 = .ok (.aload_n 1, 1) := by decide +kernel
theorem dX4_board_16 : decode cX4_board 16 = .ok (.iload_n 2, 1) := by decide +kernel
theorem dX4_board_17 : decode cX4_board 17 = .ok (.iconst 2, 1) := by decide +kernel
theorem dX4_board_18 : decode cX4_board 18 = .ok (.iadd, 1) := by decide +kernel
theorem dX4_board_19 : decode cX4_board 19 = .ok (.invokevirtual 27, 3) := by decide +kernel
theorem dX4_board_22 : decode cX4_board 22 = .ok (.invokestatic 38, 3) := by decide +kernel
theorem dX4_board_25 : decode cX4_board 25 = .ok (.putfield 15, 3) := by decide +kernel
theorem dX4_board_28 : decode cX4_board 28 = .ok (.aload_n 0, 1) := by decide +kernel
theorem dX4_board_29 : decode cX4_board 29 = .ok (.aload_n 1, 1) := by decide +kernel
theorem dX4_board_30 : decode cX4_board 30 = .ok (.iload_n 2, 1) := by decide +kernel
theorem dX4_board_31 : decode cX4_board 31 = .ok (.iconst 3, 1) := by decide +kernel
theorem dX4_board_32 : decode cX4_board 32 = .ok (.iadd, 1) := by decide +kernel
theorem dX4_board_33 : decode cX4_board 33 = .ok (.invokevirtual 27, 3) := by decide +kernel
theorem dX4_board_36 : decode cX4_board 36 = .ok (.invokestatic 38, 3) := by decide +kernel
theorem dX4_board_39 : decode cX4_board 39 = .ok (.putfield 18, 3) := by decide +kernel
theorem dX4_board_42 : decode cX4_board 42 = .ok (.aload_n 0, 1) := by decide +kernel
theorem dX4_board_43 : decode cX4_board 43 = .ok (.aload_n 1, 1) := by decide +kernel
theorem dX4_board_44 : decode cX4_board 44 = .ok (.iload_n 2, 1) := by decide +kernel
theorem dX4_board_45 : decode cX4_board 45 = .ok (.iconst 4, 1) := by decide +kernel
theorem dX4_board_46 : decode cX4_board 46 = .ok (.iadd, 1) := by decide +kernel
theorem dX4_board_47 : decode cX4_board 47 = .ok (.invokestatic 41, 3) := by decide +kernel
theorem dX4_board_50 : decode cX4_board 50 = .ok (.putfield 21, 3) := by decide +kernel
theorem dX4_board_53 : decode cX4_board 53 = .ok (.aload_n 0, 1) := by decide +kernel
theorem dX4_board_54 : decode cX4_board 54 = .ok (.aload_n 1, 1) := by decide +kernel
theorem dX4_board_55 : decode cX4_board 55 = .ok (.iload_n 2, 1) := by decide +kernel
theorem dX4_board_56 : decode cX4_board 56 = .ok (.bipush 6, 2) := by decide +kernel
theorem dX4_board_58 : decode cX4_board 58 = .ok (.iadd, 1) := by decide +kernel
theorem dX4_board_59 : decode cX4_board 59 = .ok (.invokestatic 41, 3) := by decide +kernel
theorem dX4_board_62 : decode cX4_board 62 = .ok (.putfield 24, 3) := by decide +kernel
theorem dX4_board_65 : decode cX4_board 65 = .ok (.return_, 1) := by decide +kernel
theorem dX4_twoDigits_0 : decode cX4_twoDigits 0 = .ok (.bipush 10, 2) := by decide +kernel
theorem dX4_twoDigits_2 : decode cX4_twoDigits 2 = .ok (.aload_n 0, 1) := by decide +kernel
theorem dX4_twoDigits_3 : decode cX4_twoDigits 3 = .ok (.iload_n 1, 1) := by decide +kernel
theorem dX4_twoDigits_4 : decode cX4_twoDigits 4 = .ok (.invokevirtual 27, 3) := by decide +kernel
theorem dX4_twoDigits_7 : decode cX4_twoDigits 7 = .ok (.invokestatic 38, 3) := by decide +kernel
theorem dX4_twoDigits_10 : decode cX4_twoDigits 10 = .ok (.imul, 1) := by decide +kernel
theorem dX4_twoDigits_11 : decode cX4_twoDigits 11 = .ok (.aload_n 0, 1) := by decide +kernel
theorem dX4_twoDigits_12 : decode cX4_twoDigits 12 = .ok (.iload_n 1, 1) := by decide +kernel
theorem dX4_twoDigits_13 : decode cX4_twoDigits 13 = .ok (.iconst 1, 1) := by decide +kernel
theorem dX4_twoDigits_14 : decode cX4_twoDigits 14 = .ok (.iadd, 1) := by decide +kernel
theorem dX4_twoDigits_15 : decode cX4_twoDigits 15 = .ok (.invokevirtual 27, 3) := by decide +kernel
theorem dX4_twoDigits_18 : decode cX4_twoDigits 18 = .ok (.invokestatic 38, 3) := by decide +kernel
theorem dX4_twoDigits_21 : decode cX4_twoDigits 21 = .ok (.iadd, 1) := by decide +kernel
theorem dX4_twoDigits_22 : decode cX4_twoDigits 22 = .ok (.ireturn, 1) := by decide +kernel
theorem dX4_own_0 : decode cX4_own 0 = .ok (.iconst 1, 1) := by decide +kernel
theorem dX4_own_1 : decode cX4_own 1 = .ok (.aload_n 0, 1) := by decide +kernel
theorem dX4_own_2 : decode cX4_own 2 = .ok (.getfield 18, 3) := by decide +kernel
theorem dX4_own_5 : decode cX4_own 5 = .ok (.ishl, 1) := by decide +kernel
theorem dX4_own_6 : decode cX4_own 6 = .ok (.iconst 1, 1) := by decide +kernel
theorem dX4_own_7 : decode cX4_own 7 = .ok (.aload_n 0, 1) := by decide +kernel
theorem dX4_own_8 : decode cX4_own 8 = .ok (.getfield 15, 3) := by decide +kernel
theorem dX4_own_11 : decode cX4_own 11 = .ok (.ishl, 1) := by decide +kernel
theorem dX4_own_12 : decode cX4_own 12 = .ok (.isub, 1) := by decide +kernel
theorem dX4_own_13 : decode cX4_own 13 = .ok (.ireturn, 1) := by decide +kernel
theorem dX4_owns_0 : decode cX4_owns 0 = .ok (.iload_n 1, 1) := by decide +kernel
theorem dX4_owns_1 : decode cX4_owns 1 = .ok (.aload_n 0, 1) := by decide +kernel
theorem dX4_owns_2 : decode cX4_owns 2 = .ok (.invokevirtual 45, 3) := by decide +kernel
theorem dX4_owns_5 : decode cX4_owns 5 = .ok (.iconst (-1), 1) := by decide +kernel
theorem dX4_owns_6 : decode cX4_owns 6 = .ok (.ixor, 1) := by decide +kernel
theorem dX4_owns_7 : decode cX4_owns 7 = .ok (.iand, 1) := by decide +kernel
theorem dX4_owns_8 : decode cX4_owns 8 = .ok (.ifCond .ne 7, 3) := by decide +kernel
theorem dX4_owns_11 : decode cX4_owns 11 = .ok (.iconst 1, 1) := by decide +kernel
theorem dX4_owns_12 : decode cX4_owns 12 = .ok (.goto 4, 3) := by decide +kernel
theorem dX4_owns_15 : decode cX4_owns 15 = .ok (.iconst 0, 1) := by decide +kernel
theorem dX4_owns_16 : decode cX4_owns 16 = .ok (.ireturn, 1) := by decide +kernel
theorem dX4_yearsAbove_0 : decode cX4_yearsAbove 0 = .ok (.aload_n 0, 1) := by decide +kernel
theorem dX4_yearsAbove_1 : decode cX4_yearsAbove 1 = .ok (.getfield 9, 3) := by decide +kernel
theorem dX4_yearsAbove_4 : decode cX4_yearsAbove 4 = .ok (.lookupswitch 34 #[(0, 28), (1, 30)], 28) := by decide +kernel
theorem dX4_yearsAbove_32 : decode cX4_yearsAbove 32 = .ok (.iload_n 1, 1) := by decide +kernel
theorem dX4_yearsAbove_33 : decode cX4_yearsAbove 33 = .ok (.ireturn, 1) := by decide +kernel
theorem dX4_yearsAbove_34 : decode cX4_yearsAbove 34 = .ok (.iload_n 1, 1) := by decide +kernel
theorem dX4_yearsAbove_35 : decode cX4_yearsAbove 35 = .ok (.iconst 1, 1) := by decide +kernel
theorem dX4_yearsAbove_36 : decode cX4_yearsAbove 36 = .ok (.iadd, 1) := by decide +kernel
theorem dX4_yearsAbove_37 : decode cX4_yearsAbove 37 = .ok (.ireturn, 1) := by decide +kernel
theorem dX4_yearsAbove_38 : decode cX4_yearsAbove 38 = .ok (.iload_n 1, 1) := by decide +kernel
theorem dX4_yearsAbove_39 : decode cX4_yearsAbove 39 = .ok (.iconst 1, 1) := by decide +kernel
theorem dX4_yearsAbove_40 : decode cX4_yearsAbove 40 = .ok (.iadd, 1) := by decide +kernel
theorem dX4_yearsAbove_41 : decode cX4_yearsAbove 41 = .ok (.iconst 2, 1) := by decide +kernel
theorem dX4_yearsAbove_42 : decode cX4_yearsAbove 42 = .ok (.idiv, 1) := by decide +kernel
theorem dX4_yearsAbove_43 : decode cX4_yearsAbove 43 = .ok (.ireturn, 1) := by decide +kernel
theorem dX5_init_0 : decode cX5_init 0 = .ok (.aload_n 0, 1) := by decide +kernel
theorem dX5_init_1 : decode cX5_init 1 = .ok (.invokespecial 3, 3) := by decide +kernel
theorem dX5_init_4 : decode cX5_init 4 = .ok (.aload_n 0, 1) := by decide +kernel
theorem dX5_init_5 : decode cX5_init 5 = .ok (.bipush 60, 2) := by decide +kernel
theorem dX5_init_7 : decode cX5_init 7 = .ok (.newarray .int, 2) := by decide +kernel
theorem dX5_init_9 : decode cX5_init 9 = .ok (.putfield 9, 3) := by decide +kernel
theorem dX5_init_12 : decode cX5_init 12 = .ok (.aload_n 0, 1) := by decide +kernel
theorem dX5_init_13 : decode cX5_init 13 = .ok (.iconst (-1), 1) := by decide +kernel
theorem dX5_init_14 : decode cX5_init 14 = .ok (.putfield 15, 3) := by decide +kernel
theorem dX5_init_17 : decode cX5_init 17 = .ok (.aload_n 0, 1) := by decide +kernel
theorem dX5_init_18 : decode cX5_init 18 = .ok (.iconst 0, 1) := by decide +kernel
theorem dX5_init_19 : decode cX5_init 19 = .ok (.putfield 19, 3) := by decide +kernel
theorem dX5_init_22 : decode cX5_init 22 = .ok (.return_, 1) := by decide +kernel
theorem dX5_hasRow_0 : decode cX5_hasRow 0 = .ok (.aload_n 0, 1) := by decide +kernel
theorem dX5_hasRow_1 : decode cX5_hasRow 1 = .ok (.getfield 15, 3) := by decide +kernel
theorem dX5_hasRow_4 : decode cX5_hasRow 4 = .ok (.iconst (-1), 1) := by decide +kernel
theorem dX5_hasRow_5 : decode cX5_hasRow 5 = .ok (.if_icmp .eq 7, 3) := by decide +kernel
theorem dX5_hasRow_8 : decode cX5_hasRow 8 = .ok (.iconst 1, 1) := by decide +kernel
theorem dX5_hasRow_9 : decode cX5_hasRow 9 = .ok (.goto 4, 3) := by decide +kernel
theorem dX5_hasRow_12 : decode cX5_hasRow 12 = .ok (.iconst 0, 1) := by decide +kernel
theorem dX5_hasRow_13 : decode cX5_hasRow 13 = .ok (.ireturn, 1) := by decide +kernel
theorem dX5_renew_0 : decode cX5_renew 0 = .ok (.aload_n 0, 1) := by decide +kernel
theorem dX5_renew_1 : decode cX5_renew 1 = .ok (.iload_n 1, 1) := by decide +kernel
theorem dX5_renew_2 : decode cX5_renew 2 = .ok (.putfield 15, 3) := by decide +kernel
theorem dX5_renew_5 : decode cX5_renew 5 = .ok (.aload_n 0, 1) := by decide +kernel
theorem dX5_renew_6 : decode cX5_renew 6 = .ok (.iload_n 2, 1) := by decide +kernel
theorem dX5_renew_7 : decode cX5_renew 7 = .ok (.putfield 19, 3) := by decide +kernel
theorem dX5_renew_10 : decode cX5_renew 10 = .ok (.iconst 0, 1) := by decide +kernel
theorem dX5_renew_11 : decode cX5_renew 11 = .ok (.istore_n 3, 1) := by decide +kernel
theorem dX5_renew_12 : decode cX5_renew 12 = .ok (.iload_n 3, 1) := by decide +kernel
theorem dX5_renew_13 : decode cX5_renew 13 = .ok (.bipush 60, 2) := by decide +kernel
theorem dX5_renew_15 : decode cX5_renew 15 = .ok (.if_icmp .ge 16, 3) := by decide +kernel
theorem dX5_renew_18 : decode cX5_renew 18 = .ok (.aload_n 0, 1) := by decide +kernel
theorem dX5_renew_19 : decode cX5_renew 19 = .ok (.getfield 9, 3) := by decide +kernel
theorem dX5_renew_22 : decode cX5_renew 22 = .ok (.iload_n 3, 1) := by decide +kernel
theorem dX5_renew_23 : decode cX5_renew 23 = .ok (.iconst 0, 1) := by decide +kernel
theorem dX5_renew_24 : decode cX5_renew 24 = .ok (.iastore, 1) := by decide +kernel
theorem dX5_renew_25 : decode cX5_renew 25 = .ok (.iinc 3 1, 3) := by decide +kernel
theorem dX5_renew_28 : decode cX5_renew 28 = .ok (.goto (-16), 3) := by decide +kernel
theorem dX5_renew_31 : decode cX5_renew 31 = .ok (.return_, 1) := by decide +kernel
theorem dX5_drop_0 : decode cX5_drop 0 = .ok (.aload_n 0, 1) := by decide +kernel
theorem dX5_drop_1 : decode cX5_drop 1 = .ok (.iconst (-1), 1) := by decide +kernel
theorem dX5_drop_2 : decode cX5_drop 2 = .ok (.putfield 15, 3) := by decide +kernel
theorem dX5_drop_5 : decode cX5_drop 5 = .ok (.aload_n 0, 1) := by decide +kernel
theorem dX5_drop_6 : decode cX5_drop 6 = .ok (.iconst 0, 1) := by decide +kernel
theorem dX5_drop_7 : decode cX5_drop 7 = .ok (.putfield 19, 3) := by decide +kernel
theorem dX5_drop_10 : decode cX5_drop 10 = .ok (.return_, 1) := by decide +kernel
theorem dX5_hasCell_0 : decode cX5_hasCell 0 = .ok (.iload_n 1, 1) := by decide +kernel
theorem dX5_hasCell_1 : decode cX5_hasCell 1 = .ok (.ifCond .lt 15, 3) := by decide +kernel
theorem dX5_hasCell_4 : decode cX5_hasCell 4 = .ok (.iload_n 1, 1) := by decide +kernel
theorem dX5_hasCell_5 : decode cX5_hasCell 5 = .ok (.aload_n 0, 1) := by decide +kernel
theorem dX5_hasCell_6 : decode cX5_hasCell 6 = .ok (.getfield 19, 3) := by decide +kernel
theorem dX5_hasCell_9 : decode cX5_hasCell 9 = .ok (.if_icmp .ge 7, 3) := by decide +kernel
theorem dX5_hasCell_12 : decode cX5_hasCell 12 = .ok (.iconst 1, 1) := by decide +kernel
theorem dX5_hasCell_13 : decode cX5_hasCell 13 = .ok (.goto 4, 3) := by decide +kernel
theorem dX5_hasCell_16 : decode cX5_hasCell 16 = .ok (.iconst 0, 1) := by decide +kernel
theorem dX5_hasCell_17 : decode cX5_hasCell 17 = .ok (.ireturn, 1) := by decide +kernel
theorem dX5_hasCells_0 : decode cX5_hasCells 0 = .ok (.iload_n 1, 1) := by decide +kernel
theorem dX5_hasCells_1 : decode cX5_hasCells 1 = .ok (.ifCond .lt 29, 3) := by decide +kernel
theorem dX5_hasCells_4 : decode cX5_hasCells 4 = .ok (.iload_n 1, 1) := by decide +kernel
theorem dX5_hasCells_5 : decode cX5_hasCells 5 = .ok (.aload_n 0, 1) := by decide +kernel
theorem dX5_hasCells_6 : decode cX5_hasCells 6 = .ok (.getfield 19, 3) := by decide +kernel
theorem dX5_hasCells_9 : decode cX5_hasCells 9 = .ok (.if_icmp .gt 21, 3) := by decide +kernel
theorem dX5_hasCells_12 : decode cX5_hasCells 12 = .ok (.iload_n 2, 1) := by decide +kernel
theorem dX5_hasCells_13 : decode cX5_hasCells 13 = .ok (.ifCond .lt 17, 3) := by decide +kernel
theorem dX5_hasCells_16 : decode cX5_hasCells 16 = .ok (.iload_n 2, 1) := by decide +kernel
theorem dX5_hasCells_17 : decode cX5_hasCells 17 = .ok (.aload_n 0, 1) := by decide +kernel
theorem dX5_hasCells_18 : decode cX5_hasCells 18 = .ok (.getfield 19, 3) := by decide +kernel
theorem dX5_hasCells_21 : decode cX5_hasCells 21 = .ok (.iload_n 1, 1) := by decide +kernel
theorem dX5_hasCells_22 : decode cX5_hasCells 22 = .ok (.isub, 1) := by decide +kernel
theorem dX5_hasCells_23 : decode cX5_hasCells 23 = .ok (.if_icmp .gt 7, 3) := by decide +kernel
theorem dX5_hasCells_26 : decode cX5_hasCells 26 = .ok (.iconst 1, 1) := by decide +kernel
theorem dX5_hasCells_27 : decode cX5_hasCells 27 = .ok (.goto 4, 3) := by decide +kernel
theorem dX5_hasCells_30 : decode cX5_hasCells 30 = .ok (.iconst 0, 1) := by decide +kernel
theorem dX5_hasCells_31 : decode cX5_hasCells 31 = .ok (.ireturn, 1) := by decide +kernel
theorem dX5_at_0 : decode cX5_at 0 = .ok (.aload_n 0, 1) := by decide +kernel
theorem dX5_at_1 : decode cX5_at 1 = .ok (.iload_n 1, 1) := by decide +kernel
theorem dX5_at_2 : decode cX5_at 2 = .ok (.invokevirtual 22, 3) := by decide +kernel
theorem dX5_at_5 : decode cX5_at 5 = .ok (.ifCond .eq 12, 3) := by decide +kernel
theorem dX5_at_8 : decode cX5_at 8 = .ok (.aload_n 0, 1) := by decide +kernel
theorem dX5_at_9 : decode cX5_at 9 = .ok (.getfield 9, 3) := by decide +kernel
theorem dX5_at_12 : decode cX5_at 12 = .ok (.iload_n 1, 1) := by decide +kernel
theorem dX5_at_13 : decode cX5_at 13 = .ok (.iaload, 1) := by decide +kernel
theorem dX5_at_14 : decode cX5_at 14 = .ok (.goto 4, 3) := by decide +kernel
theorem dX5_at_17 : decode cX5_at 17 = .ok (.iconst 0, 1) := by decide +kernel
theorem dX5_at_18 : decode cX5_at 18 = .ok (.ireturn, 1) := by decide +kernel
theorem dX5_write_0 : decode cX5_write 0 = .ok (.aload_n 0, 1) := by decide +kernel
theorem dX5_write_1 : decode cX5_write 1 = .ok (.iload_n 1, 1) := by decide +kernel
theorem dX5_write_2 : decode cX5_write 2 = .ok (.invokevirtual 22, 3) := by decide +kernel
theorem dX5_write_5 : decode cX5_write 5 = .ok (.ifCond .eq 14, 3) := by decide +kernel
theorem dX5_write_8 : decode cX5_write 8 = .ok (.aload_n 0, 1) := by decide +kernel
theorem dX5_write_9 : decode cX5_write 9 = .ok (.getfield 9, 3) := by decide +kernel
theorem dX5_write_12 : decode cX5_write 12 = .ok (.iload_n 1, 1) := by decide +kernel
theorem dX5_write_13 : decode cX5_write 13 = .ok (.aload_n 0, 1) := by decide +kernel
theorem dX5_write_14 : decode cX5_write 14 = .ok (.iload_n 2, 1) := by decide +kernel
theorem dX5_write_15 : decode cX5_write 15 = .ok (.invokevirtual 26, 3) := by decide +kernel
theorem dX5_write_18 : decode cX5_write 18 = .ok (.iastore, 1) := by decide +kernel
theorem dX5_write_19 : decode cX5_write 19 = .ok (.return_, 1) := by decide +kernel
theorem dX5_cutToLane_0 : decode cX5_cutToLane 0 = .ok (.aload_n 0, 1) := by decide +kernel
theorem dX5_cutToLane_1 : decode cX5_cutToLane 1 = .ok (.getfield 15, 3) := by decide +kernel
theorem dX5_cutToLane_4 : decode cX5_cutToLane 4 = .ok (.lookupswitch 34 #[(0, 28), (1, 31)], 28) := by decide +kernel
theorem dX5_cutToLane_32 : decode cX5_cutToLane 32 = .ok (.iload_n 1, 1) := by decide +kernel
theorem dX5_cutToLane_33 : decode cX5_cutToLane 33 = .ok (.i2b, 1) := by decide +kernel
theorem dX5_cutToLane_34 : decode cX5_cutToLane 34 = .ok (.ireturn, 1) := by decide +kernel
theorem dX5_cutToLane_35 : decode cX5_cutToLane 35 = .ok (.iload_n 1, 1) := by decide +kernel
theorem dX5_cutToLane_36 : decode cX5_cutToLane 36 = .ok (.i2s, 1) := by decide +kernel
theorem dX5_cutToLane_37 : decode cX5_cutToLane 37 = .ok (.ireturn, 1) := by decide +kernel
theorem dX5_cutToLane_38 : decode cX5_cutToLane 38 = .ok (.iload_n 1, 1) := by decide +kernel
theorem dX5_cutToLane_39 : decode cX5_cutToLane 39 = .ok (.ireturn, 1) := by decide +kernel
theorem dX5_faultOfRow_0 : decode cX5_faultOfRow 0 = .ok (.aload_n 0, 1) := by decide +kernel
theorem dX5_faultOfRow_1 : decode cX5_faultOfRow 1 = .ok (.invokevirtual 30, 3) := by decide +kernel
theorem dX5_faultOfRow_4 : decode cX5_faultOfRow 4 = .ok (.ifCond .ne 5, 3) := by decide +kernel
theorem dX5_faultOfRow_7 : decode cX5_faultOfRow 7 = .ok (.iconst 1, 1) := by decide +kernel
theorem dX5_faultOfRow_8 : decode cX5_faultOfRow 8 = .ok (.ireturn, 1) := by decide +kernel
theorem dX5_faultOfRow_9 : decode cX5_faultOfRow 9 = .ok (.aload_n 0, 1) := by decide +kernel
theorem dX5_faultOfRow_10 : decode cX5_faultOfRow 10 = .ok (.getfield 15, 3) := by decide +kernel
theorem dX5_faultOfRow_13 : decode cX5_faultOfRow 13 = .ok (.iload_n 1, 1) := by decide +kernel
theorem dX5_faultOfRow_14 : decode cX5_faultOfRow 14 = .ok (.if_icmp .ne 7, 3) := by decide +kernel
theorem dX5_faultOfRow_17 : decode cX5_faultOfRow 17 = .ok (.iconst 0, 1) := by decide +kernel
theorem dX5_faultOfRow_18 : decode cX5_faultOfRow 18 = .ok (.goto 4, 3) := by decide +kernel
theorem dX5_faultOfRow_21 : decode cX5_faultOfRow 21 = .ok (.iconst 2, 1) := by decide +kernel
theorem dX5_faultOfRow_22 : decode cX5_faultOfRow 22 = .ok (.ireturn, 1) := by decide +kernel
theorem dX5_faultOfCells_0 : decode cX5_faultOfCells 0 = .ok (.aload_n 0, 1) := by decide +kernel
theorem dX5_faultOfCells_1 : decode cX5_faultOfCells 1 = .ok (.iload_n 1, 1) := by decide +kernel
theorem dX5_faultOfCells_2 : decode cX5_faultOfCells 2 = .ok (.invokevirtual 34, 3) := by decide +kernel
theorem dX5_faultOfCells_5 : decode cX5_faultOfCells 5 = .ok (.istore 4, 2) := by decide +kernel
theorem dX5_faultOfCells_7 : decode cX5_faultOfCells 7 = .ok (.iload 4, 2) := by decide +kernel
theorem dX5_faultOfCells_9 : decode cX5_faultOfCells 9 = .ok (.ifCond .eq 6, 3) := by decide +kernel
theorem dX5_faultOfCells_12 : decode cX5_faultOfCells 12 = .ok (.iload 4, 2) := by decide +kernel
theorem dX5_faultOfCells_14 : decode cX5_faultOfCells 14 = .ok (.ireturn, 1) := by decide +kernel
theorem dX5_faultOfCells_15 : decode cX5_faultOfCells 15 = .ok (.iload_n 3, 1) := by decide +kernel
theorem dX5_faultOfCells_16 : decode cX5_faultOfCells 16 = .ok (.ifCond .ge 5, 3) := by decide +kernel
theorem dX5_faultOfCells_19 : decode cX5_faultOfCells 19 = .ok (.iconst 4, 1) := by decide +kernel
theorem dX5_faultOfCells_20 : decode cX5_faultOfCells 20 = .ok (.ireturn, 1) := by decide +kernel
theorem dX5_faultOfCells_21 : decode cX5_faultOfCells 21 = .ok (.aload_n 0, 1) := by decide +kernel
theorem dX5_faultOfCells_22 : decode cX5_faultOfCells 22 = .ok (.iload_n 2, 1) := by decide +kernel
theorem dX5_faultOfCells_23 : decode cX5_faultOfCells 23 = .ok (.iload_n 3, 1) := by decide +kernel
theorem dX5_faultOfCells_24 : decode cX5_faultOfCells 24 = .ok (.invokevirtual 37, 3) := by decide +kernel
theorem dX5_faultOfCells_27 : decode cX5_faultOfCells 27 = .ok (.ifCond .eq 7, 3) := by decide +kernel
theorem dX5_faultOfCells_30 : decode cX5_faultOfCells 30 = .ok (.iconst 0, 1) := by decide +kernel
theorem dX5_faultOfCells_31 : decode cX5_faultOfCells 31 = .ok (.goto 4, 3) := by decide +kernel
theorem dX5_faultOfCells_34 : decode cX5_faultOfCells 34 = .ok (.iconst 3, 1) := by decide +kernel
theorem dX5_faultOfCells_35 : decode cX5_faultOfCells 35 = .ok (.ireturn, 1) := by decide +kernel
theorem dJ6_bitCount_0f7a4_0 : decode cJ6_bitCount_0f7a4 0 = .ok (.iload_n 0, 1) := by decide +kernel
theorem dJ6_bitCount_0f7a4_1 : decode cJ6_bitCount_0f7a4 1 = .ok (.iload_n 0, 1) := by decide +kernel
theorem dJ6_bitCount_0f7a4_2 : decode cJ6_bitCount_0f7a4 2 = .ok (.iconst 1, 1) := by decide +kernel
theorem dJ6_bitCount_0f7a4_3 : decode cJ6_bitCount_0f7a4 3 = .ok (.iushr, 1) := by decide +kernel
theorem dJ6_bitCount_0f7a4_4 : decode cJ6_bitCount_0f7a4 4 = .ok (.ldc_w 265, 3) := by decide +kernel
theorem dJ6_bitCount_0f7a4_7 : decode cJ6_bitCount_0f7a4 7 = .ok (.iand, 1) := by decide +kernel
theorem dJ6_bitCount_0f7a4_8 : decode cJ6_bitCount_0f7a4 8 = .ok (.isub, 1) := by decide +kernel
theorem dJ6_bitCount_0f7a4_9 : decode cJ6_bitCount_0f7a4 9 = .ok (.istore_n 0, 1) := by decide +kernel
theorem dJ6_bitCount_0f7a4_10 : decode cJ6_bitCount_0f7a4 10 = .ok (.iload_n 0, 1) := by decide +kernel
theorem dJ6_bitCount_0f7a4_11 : decode cJ6_bitCount_0f7a4 11 = .ok (.ldc_w 266, 3) := by decide +kernel
theorem dJ6_bitCount_0f7a4_14 : decode cJ6_bitCount_0f7a4 14 = .ok (.iand, 1) := by decide +kernel
theorem dJ6_bitCount_0f7a4_15 : decode cJ6_bitCount_0f7a4 15 = .ok (.iload_n 0, 1) := by decide +kernel
theorem dJ6_bitCount_0f7a4_16 : decode cJ6_bitCount_0f7a4 16 = .ok (.iconst 2, 1) := by decide +kernel
theorem dJ6_bitCount_0f7a4_17 : decode cJ6_bitCount_0f7a4 17 = .ok (.iushr, 1) := by decide +kernel
theorem dJ6_bitCount_0f7a4_18 : decode cJ6_bitCount_0f7a4 18 = .ok (.ldc_w 266, 3) := by decide +kernel
theorem dJ6_bitCount_0f7a4_21 : decode cJ6_bitCount_0f7a4 21 = .ok (.iand, 1) := by decide +kernel
theorem dJ6_bitCount_0f7a4_22 : decode cJ6_bitCount_0f7a4 22 = .ok (.iadd, 1) := by decide +kernel
theorem dJ6_bitCount_0f7a4_23 : decode cJ6_bitCount_0f7a4 23 = .ok (.istore_n 0, 1) := by decide +kernel
theorem dJ6_bitCount_0f7a4_24 : decode cJ6_bitCount_0f7a4 24 = .ok (.iload_n 0, 1) := by decide +kernel
theorem dJ6_bitCount_0f7a4_25 : decode cJ6_bitCount_0f7a4 25 = .ok (.iload_n 0, 1) := by decide +kernel
theorem dJ6_bitCount_0f7a4_26 : decode cJ6_bitCount_0f7a4 26 = .ok (.iconst 4, 1) := by decide +kernel
theorem dJ6_bitCount_0f7a4_27 : decode cJ6_bitCount_0f7a4 27 = .ok (.iushr, 1) := by decide +kernel
theorem dJ6_bitCount_0f7a4_28 : decode cJ6_bitCount_0f7a4 28 = .ok (.iadd, 1) := by decide +kernel
theorem dJ6_bitCount_0f7a4_29 : decode cJ6_bitCount_0f7a4 29 = .ok (.ldc_w 267, 3) := by decide +kernel
theorem dJ6_bitCount_0f7a4_32 : decode cJ6_bitCount_0f7a4 32 = .ok (.iand, 1) := by decide +kernel
theorem dJ6_bitCount_0f7a4_33 : decode cJ6_bitCount_0f7a4 33 = .ok (.istore_n 0, 1) := by decide +kernel
theorem dJ6_bitCount_0f7a4_34 : decode cJ6_bitCount_0f7a4 34 = .ok (.iload_n 0, 1) := by decide +kernel
theorem dJ6_bitCount_0f7a4_35 : decode cJ6_bitCount_0f7a4 35 = .ok (.iload_n 0, 1) := by decide +kernel
theorem dJ6_bitCount_0f7a4_36 : decode cJ6_bitCount_0f7a4 36 = .ok (.bipush 8, 2) := by decide +kernel
theorem dJ6_bitCount_0f7a4_38 : decode cJ6_bitCount_0f7a4 38 = .ok (.iushr, 1) := by decide +kernel
theorem dJ6_bitCount_0f7a4_39 : decode cJ6_bitCount_0f7a4 39 = .ok (.iadd, 1) := by decide +kernel
theorem dJ6_bitCount_0f7a4_40 : decode cJ6_bitCount_0f7a4 40 = .ok (.istore_n 0, 1) := by decide +kernel
theorem dJ6_bitCount_0f7a4_41 : decode cJ6_bitCount_0f7a4 41 = .ok (.iload_n 0, 1) := by decide +kernel
theorem dJ6_bitCount_0f7a4_42 : decode cJ6_bitCount_0f7a4 42 = .ok (.iload_n 0, 1) := by decide +kernel
theorem dJ6_bitCount_0f7a4_43 : decode cJ6_bitCount_0f7a4 43 = .ok (.bipush 16, 2) := by decide +kernel
theorem dJ6_bitCount_0f7a4_45 : decode cJ6_bitCount_0f7a4 45 = .ok (.iushr, 1) := by decide +kernel
theorem dJ6_bitCount_0f7a4_46 : decode cJ6_bitCount_0f7a4 46 = .ok (.iadd, 1) := by decide +kernel
theorem dJ6_bitCount_0f7a4_47 : decode cJ6_bitCount_0f7a4 47 = .ok (.istore_n 0, 1) := by decide +kernel
theorem dJ6_bitCount_0f7a4_48 : decode cJ6_bitCount_0f7a4 48 = .ok (.iload_n 0, 1) := by decide +kernel
theorem dJ6_bitCount_0f7a4_49 : decode cJ6_bitCount_0f7a4 49 = .ok (.bipush 63, 2) := by decide +kernel
theorem dJ6_bitCount_0f7a4_51 : decode cJ6_bitCount_0f7a4 51 = .ok (.iand, 1) := by decide +kernel
theorem dJ6_bitCount_0f7a4_52 : decode cJ6_bitCount_0f7a4 52 = .ok (.ireturn, 1) := by decide +kernel
theorem dJ9_min_7cf53_0 : decode cJ9_min_7cf53 0 = .ok (.iload_n 0, 1) := by decide +kernel
theorem dJ9_min_7cf53_1 : decode cJ9_min_7cf53 1 = .ok (.iload_n 1, 1) := by decide +kernel
theorem dJ9_min_7cf53_2 : decode cJ9_min_7cf53 2 = .ok (.if_icmp .gt 7, 3) := by decide +kernel
theorem dJ9_min_7cf53_5 : decode cJ9_min_7cf53 5 = .ok (.iload_n 0, 1) := by decide +kernel
theorem dJ9_min_7cf53_6 : decode cJ9_min_7cf53 6 = .ok (.goto 4, 3) := by decide +kernel
theorem dJ9_min_7cf53_9 : decode cJ9_min_7cf53 9 = .ok (.iload_n 1, 1) := by decide +kernel
theorem dJ9_min_7cf53_10 : decode cJ9_min_7cf53 10 = .ok (.ireturn, 1) := by decide +kernel
end
section
theorem dX6_init_0 : decode cX6_init 0 = .ok (.aload_n 0, 1) := by decide +kernel
theorem dX6_init_1 : decode cX6_init 1 = .ok (.invokespecial 3, 3) := by decide +kernel
theorem dX6_init_4 : decode cX6_init 4 = .ok (.aload_n 0, 1) := by decide +kernel
theorem dX6_init_5 : decode cX6_init 5 = .ok (.new 9, 3) := by decide +kernel
theorem dX6_init_8 : decode cX6_init 8 = .ok (.dup, 1) := by decide +kernel
theorem dX6_init_9 : decode cX6_init 9 = .ok (.invokespecial 11, 3) := by decide +kernel
theorem dX6_init_12 : decode cX6_init 12 = .ok (.putfield 12, 3) := by decide +kernel
theorem dX6_init_15 : decode cX6_init 15 = .ok (.aload_n 0, 1) := by decide +kernel
theorem dX6_init_16 : decode cX6_init 16 = .ok (.new 18, 3) := by decide +kernel
theorem dX6_init_19 : decode cX6_init 19 = .ok (.dup, 1) := by decide +kernel
theorem dX6_init_20 : decode cX6_init 20 = .ok (.invokespecial 20, 3) := by decide +kernel
theorem dX6_init_23 : decode cX6_init 23 = .ok (.putfield 21, 3) := by decide +kernel
theorem dX6_init_26 : decode cX6_init 26 = .ok (.aload_n 0, 1) := by decide +kernel
theorem dX6_init_27 : decode cX6_init 27 = .ok (.iconst 4, 1) := by decide +kernel
theorem dX6_init_28 : decode cX6_init 28 = .ok (.anewarray 25, 3) := by decide +kernel
theorem dX6_init_31 : decode cX6_init 31 = .ok (.putfield 27, 3) := by decide +kernel
theorem dX6_init_34 : decode cX6_init 34 = .ok (.aload_n 0, 1) := by decide +kernel
theorem dX6_init_35 : decode cX6_init 35 = .ok (.iconst 4, 1) := by decide +kernel
theorem dX6_init_36 : decode cX6_init 36 = .ok (.newarray .int, 2) := by decide +kernel
theorem dX6_init_38 : decode cX6_init 38 = .ok (.putfield 31, 3) := by decide +kernel
theorem dX6_init_41 : decode cX6_init 41 = .ok (.aload_n 0, 1) := by decide +kernel
theorem dX6_init_42 : decode cX6_init 42 = .ok (.iconst 0, 1) := by decide +kernel
theorem dX6_init_43 : decode cX6_init 43 = .ok (.putfield 35, 3) := by decide +kernel
theorem dX6_init_46 : decode cX6_init 46 = .ok (.aload_n 0, 1) := by decide +kernel
theorem dX6_init_47 : decode cX6_init 47 = .ok (.iconst 0, 1) := by decide +kernel
theorem dX6_init_48 : decode cX6_init 48 = .ok (.putfield 39, 3) := by decide +kernel
theorem dX6_init_51 : decode cX6_init 51 = .ok (.iconst 0, 1) := by decide +kernel
theorem dX6_init_52 : decode cX6_init 52 = .ok (.istore_n 1, 1) := by decide +kernel
theorem dX6_init_53 : decode cX6_init 53 = .ok (.iload_n 1, 1) := by decide +kernel
theorem dX6_init_54 : decode cX6_init 54 = .ok (.iconst 4, 1) := by decide +kernel
theorem dX6_init_55 : decode cX6_init 55 = .ok (.if_icmp .ge 22, 3) := by decide +kernel
theorem dX6_init_58 : decode cX6_init 58 = .ok (.aload_n 0, 1) := by decide +kernel
theorem dX6_init_59 : decode cX6_init 59 = .ok (.getfield 27, 3) := by decide +kernel
theorem dX6_init_62 : decode cX6_init 62 = .ok (.iload_n 1, 1) := by decide +kernel
theorem dX6_init_63 : decode cX6_init 63 = .ok (.new 25, 3) := by decide +kernel
theorem dX6_init_66 : decode cX6_init 66 = .ok (.dup, 1) := by decide +kernel
theorem dX6_init_67 : decode cX6_init 67 = .ok (.invokespecial 42, 3) := by decide +kernel
theorem dX6_init_70 : decode cX6_init 70 = .ok (.aastore, 1) := by decide +kernel
theorem dX6_init_71 : decode cX6_init 71 = .ok (.iinc 1 1, 3) := by decide +kernel
theorem dX6_init_74 : decode cX6_init 74 = .ok (.goto (-21), 3) := by decide +kernel
theorem dX6_init_77 : decode cX6_init 77 = .ok (.return_, 1) := by decide +kernel
theorem dX6_ride_0 : decode cX6_ride 0 = .ok (.aload_n 0, 1) := by decide +kernel
theorem dX6_ride_1 : decode cX6_ride 1 = .ok (.iconst 0, 1) := by decide +kernel
theorem dX6_ride_2 : decode cX6_ride 2 = .ok (.putfield 39, 3) := by decide +kernel
theorem dX6_ride_5 : decode cX6_ride 5 = .ok (.iload_n 1, 1) := by decide +kernel
theorem dX6_ride_6 : decode cX6_ride 6 = .ok (.invokestatic 43, 3) := by decide +kernel
theorem dX6_ride_9 : decode cX6_ride 9 = .ok (.ifCond .ne 5, 3) := by decide +kernel
theorem dX6_ride_12 : decode cX6_ride 12 = .ok (.iconst (-1), 1) := by decide +kernel
theorem dX6_ride_13 : decode cX6_ride 13 = .ok (.ireturn, 1) := by decide +kernel
theorem dX6_ride_14 : decode cX6_ride 14 = .ok (.iload_n 2, 1) := by decide +kernel
theorem dX6_ride_15 : decode cX6_ride 15 = .ok (.invokestatic 47, 3) := by decide +kernel
theorem dX6_ride_18 : decode cX6_ride 18 = .ok (.ifCond .ne 6, 3) := by decide +kernel
theorem dX6_ride_21 : decode cX6_ride 21 = .ok (.bipush (-2), 2) := by decide +kernel
theorem dX6_ride_23 : decode cX6_ride 23 = .ok (.ireturn, 1) := by decide +kernel
theorem dX6_ride_24 : decode cX6_ride 24 = .ok (.aload_n 0, 1) := by decide +kernel
theorem dX6_ride_25 : decode cX6_ride 25 = .ok (.getfield 27, 3) := by decide +kernel
theorem dX6_ride_28 : decode cX6_ride 28 = .ok (.iload_n 1, 1) := by decide +kernel
theorem dX6_ride_29 : decode cX6_ride 29 = .ok (.aaload, 1) := by decide +kernel
theorem dX6_ride_30 : decode cX6_ride 30 = .ok (.astore 5, 2) := by decide +kernel
theorem dX6_ride_32 : decode cX6_ride 32 = .ok (.aload 5, 2) := by decide +kernel
theorem dX6_ride_34 : decode cX6_ride 34 = .ok (.iload_n 2, 1) := by decide +kernel
theorem dX6_ride_35 : decode cX6_ride 35 = .ok (.iload_n 3, 1) := by decide +kernel
theorem dX6_ride_36 : decode cX6_ride 36 = .ok (.iload 4, 2) := by decide +kernel
theorem dX6_ride_38 : decode cX6_ride 38 = .ok (.invokevirtual 50, 3) := by decide +kernel
theorem dX6_ride_41 : decode cX6_ride 41 = .ok (.istore 6, 2) := by decide +kernel
theorem dX6_ride_43 : decode cX6_ride 43 = .ok (.iload 6, 2) := by decide +kernel
theorem dX6_ride_45 : decode cX6_ride 45 = .ok (.ifCond .eq 10, 3) := by decide +kernel
theorem dX6_ride_48 : decode cX6_ride 48 = .ok (.aload_n 0, 1) := by decide +kernel
theorem dX6_ride_49 : decode cX6_ride 49 = .ok (.iload 6, 2) := by decide +kernel
theorem dX6_ride_51 : decode cX6_ride 51 = .ok (.invokevirtual 54, 3) := by decide +kernel
theorem dX6_ride_54 : decode cX6_ride 54 = .ok (.ireturn, 1) := by decide +kernel
theorem dX6_ride_55 : decode cX6_ride 55 = .ok (.aload 5, 2) := by decide +kernel
theorem dX6_ride_57 : decode cX6_ride 57 = .ok (.iload_n 3, 1) := by decide +kernel
theorem dX6_ride_58 : decode cX6_ride 58 = .ok (.iload 4, 2) := by decide +kernel
theorem dX6_ride_60 : decode cX6_ride 60 = .ok (.invokestatic 58, 3) := by decide +kernel
theorem dX6_ride_63 : decode cX6_ride 63 = .ok (.istore 7, 2) := by decide +kernel
theorem dX6_ride_65 : decode cX6_ride 65 = .ok (.iload 7, 2) := by decide +kernel
theorem dX6_ride_67 : decode cX6_ride 67 = .ok (.bipush (-9), 2) := by decide +kernel
theorem dX6_ride_69 : decode cX6_ride 69 = .ok (.if_icmp .eq 9, 3) := by decide +kernel
theorem dX6_ride_72 : decode cX6_ride 72 = .ok (.bipush (-100), 2) := by decide +kernel
theorem dX6_ride_74 : decode cX6_ride 74 = .ok (.iload 7, 2) := by decide +kernel
theorem dX6_ride_76 : decode cX6_ride 76 = .ok (.isub, 1) := by decide +kernel
theorem dX6_ride_77 : decode cX6_ride 77 = .ok (.ireturn, 1) := by decide +kernel
theorem dX6_ride_78 : decode cX6_ride 78 = .ok (.aload_n 0, 1) := by decide +kernel
theorem dX6_ride_79 : decode cX6_ride 79 = .ok (.getfield 12, 3) := by decide +kernel
theorem dX6_ride_82 : decode cX6_ride 82 = .ok (.aload 5, 2) := by decide +kernel
theorem dX6_ride_84 : decode cX6_ride 84 = .ok (.iload_n 3, 1) := by decide +kernel
theorem dX6_ride_85 : decode cX6_ride 85 = .ok (.iload 4, 2) := by decide +kernel
theorem dX6_ride_87 : decode cX6_ride 87 = .ok (.invokevirtual 64, 3) := by decide +kernel
theorem dX6_ride_90 : decode cX6_ride 90 = .ok (.aload_n 0, 1) := by decide +kernel
theorem dX6_ride_91 : decode cX6_ride 91 = .ok (.getfield 21, 3) := by decide +kernel
theorem dX6_ride_94 : decode cX6_ride 94 = .ok (.iconst 0, 1) := by decide +kernel
theorem dX6_ride_95 : decode cX6_ride 95 = .ok (.putfield 68, 3) := by decide +kernel
theorem dX6_ride_98 : decode cX6_ride 98 = .ok (.aload_n 0, 1) := by decide +kernel
theorem dX6_ride_99 : decode cX6_ride 99 = .ok (.getfield 12, 3) := by decide +kernel
theorem dX6_ride_102 : decode cX6_ride 102 = .ok (.getfield 71, 3) := by decide +kernel
theorem dX6_ride_105 : decode cX6_ride 105 = .ok (.ireturn, 1) := by decide +kernel
theorem dX6_ofRider_0 : decode cX6_ofRider 0 = .ok (.aload_n 0, 1) := by decide +kernel
theorem dX6_ofRider_1 : decode cX6_ofRider 1 = .ok (.getfield 12, 3) := by decide +kernel
theorem dX6_ofRider_4 : decode cX6_ofRider 4 = .ok (.iload_n 1, 1) := by decide +kernel
theorem dX6_ofRider_5 : decode cX6_ofRider 5 = .ok (.invokevirtual 72, 3) := by decide +kernel
theorem dX6_ofRider_8 : decode cX6_ofRider 8 = .ok (.ifCond .ne 5, 3) := by decide +kernel
theorem dX6_ofRider_11 : decode cX6_ofRider 11 = .ok (.iconst (-1), 1) := by decide +kernel
theorem dX6_ofRider_12 : decode cX6_ofRider 12 = .ok (.ireturn, 1) := by decide +kernel
theorem dX6_ofRider_13 : decode cX6_ofRider 13 = .ok (.aload_n 0, 1) := by decide +kernel
theorem dX6_ofRider_14 : decode cX6_ofRider 14 = .ok (.getfield 12, 3) := by decide +kernel
theorem dX6_ofRider_17 : decode cX6_ofRider 17 = .ok (.getfield 75, 3) := by decide +kernel
theorem dX6_ofRider_20 : decode cX6_ofRider 20 = .ok (.iload_n 1, 1) := by decide +kernel
theorem dX6_ofRider_21 : decode cX6_ofRider 21 = .ok (.aaload, 1) := by decide +kernel
theorem dX6_ofRider_22 : decode cX6_ofRider 22 = .ok (.astore_n 3, 1) := by decide +kernel
theorem dX6_ofRider_23 : decode cX6_ofRider 23 = .ok (.iload_n 2, 1) := by decide +kernel
theorem dX6_ofRider_24 : decode cX6_ofRider 24 = .ok (.tableswitch 70 0 5 #[40, 45, 50, 55, 60, 65], 40) := by decide +kernel
theorem dX6_ofRider_64 : decode cX6_ofRider 64 = .ok (.aload_n 3, 1) := by decide +kernel
theorem dX6_ofRider_65 : decode cX6_ofRider 65 = .ok (.getfield 79, 3) := by decide +kernel
theorem dX6_ofRider_68 : decode cX6_ofRider 68 = .ok (.ireturn, 1) := by decide +kernel
theorem dX6_ofRider_69 : decode cX6_ofRider 69 = .ok (.aload_n 3, 1) := by decide +kernel
theorem dX6_ofRider_70 : decode cX6_ofRider 70 = .ok (.getfield 84, 3) := by decide +kernel
theorem dX6_ofRider_73 : decode cX6_ofRider 73 = .ok (.ireturn, 1) := by decide +kernel
theorem dX6_ofRider_74 : decode cX6_ofRider 74 = .ok (.aload_n 3, 1) := by decide +kernel
theorem dX6_ofRider_75 : decode cX6_ofRider 75 = .ok (.getfield 87, 3) := by decide +kernel
theorem dX6_ofRider_78 : decode cX6_ofRider 78 = .ok (.ireturn, 1) := by decide +kernel
theorem dX6_ofRider_79 : decode cX6_ofRider 79 = .ok (.aload_n 3, 1) := by decide +kernel
theorem dX6_ofRider_80 : decode cX6_ofRider 80 = .ok (.getfield 90, 3) := by decide +kernel
theorem dX6_ofRider_83 : decode cX6_ofRider 83 = .ok (.ireturn, 1) := by decide +kernel
theorem dX6_ofRider_84 : decode cX6_ofRider 84 = .ok (.aload_n 3, 1) := by decide +kernel
theorem dX6_ofRider_85 : decode cX6_ofRider 85 = .ok (.getfield 93, 3) := by decide +kernel
theorem dX6_ofRider_88 : decode cX6_ofRider 88 = .ok (.ireturn, 1) := by decide +kernel
theorem dX6_ofRider_89 : decode cX6_ofRider 89 = .ok (.aload_n 3, 1) := by decide +kernel
theorem dX6_ofRider_90 : decode cX6_ofRider 90 = .ok (.invokevirtual 96, 3) := by decide +kernel
theorem dX6_ofRider_93 : decode cX6_ofRider 93 = .ok (.ireturn, 1) := by decide +kernel
theorem dX6_ofRider_94 : decode cX6_ofRider 94 = .ok (.bipush (-2), 2) := by decide +kernel
theorem dX6_ofRider_96 : decode cX6_ofRider 96 = .ok (.ireturn, 1) := by decide +kernel
theorem dX6_slope_0 : decode cX6_slope 0 = .ok (.aload_n 0, 1) := by decide +kernel
theorem dX6_slope_1 : decode cX6_slope 1 = .ok (.getfield 12, 3) := by decide +kernel
theorem dX6_slope_4 : decode cX6_slope 4 = .ok (.iload_n 1, 1) := by decide +kernel
theorem dX6_slope_5 : decode cX6_slope 5 = .ok (.invokevirtual 100, 3) := by decide +kernel
theorem dX6_slope_8 : decode cX6_slope 8 = .ok (.ifCond .eq 15, 3) := by decide +kernel
theorem dX6_slope_11 : decode cX6_slope 11 = .ok (.aload_n 0, 1) := by decide +kernel
theorem dX6_slope_12 : decode cX6_slope 12 = .ok (.getfield 12, 3) := by decide +kernel
theorem dX6_slope_15 : decode cX6_slope 15 = .ok (.getfield 103, 3) := by decide +kernel
theorem dX6_slope_18 : decode cX6_slope 18 = .ok (.iload_n 1, 1) := by decide +kernel
theorem dX6_slope_19 : decode cX6_slope 19 = .ok (.iaload, 1) := by decide +kernel
theorem dX6_slope_20 : decode cX6_slope 20 = .ok (.goto 4, 3) := by decide +kernel
theorem dX6_slope_23 : decode cX6_slope 23 = .ok (.iconst (-1), 1) := by decide +kernel
theorem dX6_slope_24 : decode cX6_slope 24 = .ok (.ireturn, 1) := by decide +kernel
theorem dX6_tilt_0 : decode cX6_tilt 0 = .ok (.aload_n 0, 1) := by decide +kernel
theorem dX6_tilt_1 : decode cX6_tilt 1 = .ok (.getfield 12, 3) := by decide +kernel
theorem dX6_tilt_4 : decode cX6_tilt 4 = .ok (.iload_n 1, 1) := by decide +kernel
theorem dX6_tilt_5 : decode cX6_tilt 5 = .ok (.invokevirtual 100, 3) := by decide +kernel
theorem dX6_tilt_8 : decode cX6_tilt 8 = .ok (.ifCond .ne 5, 3) := by decide +kernel
theorem dX6_tilt_11 : decode cX6_tilt 11 = .ok (.iconst (-1), 1) := by decide +kernel
theorem dX6_tilt_12 : decode cX6_tilt 12 = .ok (.ireturn, 1) := by decide +kernel
theorem dX6_tilt_13 : decode cX6_tilt 13 = .ok (.iload_n 2, 1) := by decide +kernel
theorem dX6_tilt_14 : decode cX6_tilt 14 = .ok (.iconst 3, 1) := by decide +kernel
theorem dX6_tilt_15 : decode cX6_tilt 15 = .ok (.invokestatic 106, 3) := by decide +kernel
theorem dX6_tilt_18 : decode cX6_tilt 18 = .ok (.ifCond .ne 6, 3) := by decide +kernel
theorem dX6_tilt_21 : decode cX6_tilt 21 = .ok (.bipush (-2), 2) := by decide +kernel
theorem dX6_tilt_23 : decode cX6_tilt 23 = .ok (.ireturn, 1) := by decide +kernel
theorem dX6_tilt_24 : decode cX6_tilt 24 = .ok (.aload_n 0, 1) := by decide +kernel
theorem dX6_tilt_25 : decode cX6_tilt 25 = .ok (.getfield 12, 3) := by decide +kernel
theorem dX6_tilt_28 : decode cX6_tilt 28 = .ok (.getfield 103, 3) := by decide +kernel
theorem dX6_tilt_31 : decode cX6_tilt 31 = .ok (.iload_n 1, 1) := by decide +kernel
theorem dX6_tilt_32 : decode cX6_tilt 32 = .ok (.iaload, 1) := by decide +kernel
theorem dX6_tilt_33 : decode cX6_tilt 33 = .ok (.istore_n 3, 1) := by decide +kernel
theorem dX6_tilt_34 : decode cX6_tilt 34 = .ok (.aload_n 0, 1) := by decide +kernel
theorem dX6_tilt_35 : decode cX6_tilt 35 = .ok (.getfield 12, 3) := by decide +kernel
theorem dX6_tilt_38 : decode cX6_tilt 38 = .ok (.getfield 103, 3) := by decide +kernel
theorem dX6_tilt_41 : decode cX6_tilt 41 = .ok (.iload_n 1, 1) := by decide +kernel
theorem dX6_tilt_42 : decode cX6_tilt 42 = .ok (.iload_n 2, 1) := by decide +kernel
theorem dX6_tilt_43 : decode cX6_tilt 43 = .ok (.iastore, 1) := by decide +kernel
theorem dX6_tilt_44 : decode cX6_tilt 44 = .ok (.iload_n 3, 1) := by decide +kernel
theorem dX6_tilt_45 : decode cX6_tilt 45 = .ok (.ireturn, 1) := by decide +kernel
theorem dX6_seat_0 : decode cX6_seat 0 = .ok (.iload_n 1, 1) := by decide +kernel
theorem dX6_seat_1 : decode cX6_seat 1 = .ok (.iconst 3, 1) := by decide +kernel
theorem dX6_seat_2 : decode cX6_seat 2 = .ok (.invokestatic 106, 3) := by decide +kernel
theorem dX6_seat_5 : decode cX6_seat 5 = .ok (.ifCond .ne 6, 3) := by decide +kernel
theorem dX6_seat_8 : decode cX6_seat 8 = .ok (.bipush (-2), 2) := by decide +kernel
theorem dX6_seat_10 : decode cX6_seat 10 = .ok (.ireturn, 1) := by decide +kernel
theorem dX6_seat_11 : decode cX6_seat 11 = .ok (.aload_n 0, 1) := by decide +kernel
theorem dX6_seat_12 : decode cX6_seat 12 = .ok (.getfield 12, 3) := by decide +kernel
theorem dX6_seat_15 : decode cX6_seat 15 = .ok (.invokevirtual 110, 3) := by decide +kernel
theorem dX6_seat_18 : decode cX6_seat 18 = .ok (.ifCond .ne 6, 3) := by decide +kernel
theorem dX6_seat_21 : decode cX6_seat 21 = .ok (.bipush (-3), 2) := by decide +kernel
theorem dX6_seat_23 : decode cX6_seat 23 = .ok (.ireturn, 1) := by decide +kernel
theorem dX6_seat_24 : decode cX6_seat 24 = .ok (.aload_n 0, 1) := by decide +kernel
theorem dX6_seat_25 : decode cX6_seat 25 = .ok (.getfield 12, 3) := by decide +kernel
theorem dX6_seat_28 : decode cX6_seat 28 = .ok (.getfield 114, 3) := by decide +kernel
theorem dX6_seat_31 : decode cX6_seat 31 = .ok (.istore_n 2, 1) := by decide +kernel
theorem dX6_seat_32 : decode cX6_seat 32 = .ok (.aload_n 0, 1) := by decide +kernel
theorem dX6_seat_33 : decode cX6_seat 33 = .ok (.getfield 12, 3) := by decide +kernel
theorem dX6_seat_36 : decode cX6_seat 36 = .ok (.iload_n 1, 1) := by decide +kernel
theorem dX6_seat_37 : decode cX6_seat 37 = .ok (.putfield 114, 3) := by decide +kernel
theorem dX6_seat_40 : decode cX6_seat 40 = .ok (.iload_n 2, 1) := by decide +kernel
theorem dX6_seat_41 : decode cX6_seat 41 = .ok (.ireturn, 1) := by decide +kernel
theorem dX6_wish_0 : decode cX6_wish 0 = .ok (.aload_n 0, 1) := by decide +kernel
theorem dX6_wish_1 : decode cX6_wish 1 = .ok (.getfield 12, 3) := by decide +kernel
theorem dX6_wish_4 : decode cX6_wish 4 = .ok (.iload_n 1, 1) := by decide +kernel
theorem dX6_wish_5 : decode cX6_wish 5 = .ok (.invokevirtual 72, 3) := by decide +kernel
theorem dX6_wish_8 : decode cX6_wish 8 = .ok (.ifCond .ne 5, 3) := by decide +kernel
theorem dX6_wish_11 : decode cX6_wish 11 = .ok (.iconst (-1), 1) := by decide +kernel
theorem dX6_wish_12 : decode cX6_wish 12 = .ok (.ireturn, 1) := by decide +kernel
theorem dX6_wish_13 : decode cX6_wish 13 = .ok (.iload_n 2, 1) := by decide +kernel
theorem dX6_wish_14 : decode cX6_wish 14 = .ok (.bipush 99, 2) := by decide +kernel
theorem dX6_wish_16 : decode cX6_wish 16 = .ok (.invokestatic 106, 3) := by decide +kernel
theorem dX6_wish_19 : decode cX6_wish 19 = .ok (.ifCond .ne 6, 3) := by decide +kernel
theorem dX6_wish_22 : decode cX6_wish 22 = .ok (.bipush (-2), 2) := by decide +kernel
theorem dX6_wish_24 : decode cX6_wish 24 = .ok (.ireturn, 1) := by decide +kernel
theorem dX6_wish_25 : decode cX6_wish 25 = .ok (.aload_n 0, 1) := by decide +kernel
theorem dX6_wish_26 : decode cX6_wish 26 = .ok (.getfield 12, 3) := by decide +kernel
theorem dX6_wish_29 : decode cX6_wish 29 = .ok (.getfield 75, 3) := by decide +kernel
theorem dX6_wish_32 : decode cX6_wish 32 = .ok (.iload_n 1, 1) := by decide +kernel
theorem dX6_wish_33 : decode cX6_wish 33 = .ok (.aaload, 1) := by decide +kernel
theorem dX6_wish_34 : decode cX6_wish 34 = .ok (.astore_n 3, 1) := by decide +kernel
theorem dX6_wish_35 : decode cX6_wish 35 = .ok (.aload_n 3, 1) := by decide +kernel
theorem dX6_wish_36 : decode cX6_wish 36 = .ok (.getfield 93, 3) := by decide +kernel
theorem dX6_wish_39 : decode cX6_wish 39 = .ok (.istore 4, 2) := by decide +kernel
theorem dX6_wish_41 : decode cX6_wish 41 = .ok (.aload_n 3, 1) := by decide +kernel
theorem dX6_wish_42 : decode cX6_wish 42 = .ok (.iload_n 2, 1) := by decide +kernel
theorem dX6_wish_43 : decode cX6_wish 43 = .ok (.putfield 93, 3) := by decide +kernel
theorem dX6_wish_46 : decode cX6_wish 46 = .ok (.iload 4, 2) := by decide +kernel
theorem dX6_wish_48 : decode cX6_wish 48 = .ok (.ireturn, 1) := by decide +kernel
theorem dX6_gain_0 : decode cX6_gain 0 = .ok (.aload_n 0, 1) := by decide +kernel
theorem dX6_gain_1 : decode cX6_gain 1 = .ok (.getfield 12, 3) := by decide +kernel
theorem dX6_gain_4 : decode cX6_gain 4 = .ok (.iload_n 1, 1) := by decide +kernel
theorem dX6_gain_5 : decode cX6_gain 5 = .ok (.invokevirtual 72, 3) := by decide +kernel
theorem dX6_gain_8 : decode cX6_gain 8 = .ok (.ifCond .eq 14, 3) := by decide +kernel
theorem dX6_gain_11 : decode cX6_gain 11 = .ok (.aload_n 0, 1) := by decide +kernel
theorem dX6_gain_12 : decode cX6_gain 12 = .ok (.getfield 12, 3) := by decide +kernel
theorem dX6_gain_15 : decode cX6_gain 15 = .ok (.iload_n 2, 1) := by decide +kernel
theorem dX6_gain_16 : decode cX6_gain 16 = .ok (.invokevirtual 100, 3) := by decide +kernel
theorem dX6_gain_19 : decode cX6_gain 19 = .ok (.ifCond .ne 5, 3) := by decide +kernel
theorem dX6_gain_22 : decode cX6_gain 22 = .ok (.iconst (-1), 1) := by decide +kernel
theorem dX6_gain_23 : decode cX6_gain 23 = .ok (.ireturn, 1) := by decide +kernel
theorem dX6_gain_24 : decode cX6_gain 24 = .ok (.aload_n 0, 1) := by decide +kernel
theorem dX6_gain_25 : decode cX6_gain 25 = .ok (.getfield 12, 3) := by decide +kernel
theorem dX6_gain_28 : decode cX6_gain 28 = .ok (.getfield 75, 3) := by decide +kernel
theorem dX6_gain_31 : decode cX6_gain 31 = .ok (.iload_n 1, 1) := by decide +kernel
theorem dX6_gain_32 : decode cX6_gain 32 = .ok (.aaload, 1) := by decide +kernel
theorem dX6_gain_33 : decode cX6_gain 33 = .ok (.aload_n 0, 1) := by decide +kernel
theorem dX6_gain_34 : decode cX6_gain 34 = .ok (.getfield 12, 3) := by decide +kernel
theorem dX6_gain_37 : decode cX6_gain 37 = .ok (.getfield 103, 3) := by decide +kernel
theorem dX6_gain_40 : decode cX6_gain 40 = .ok (.iload_n 2, 1) := by decide +kernel
theorem dX6_gain_41 : decode cX6_gain 41 = .ok (.iaload, 1) := by decide +kernel
theorem dX6_gain_42 : decode cX6_gain 42 = .ok (.invokevirtual 117, 3) := by decide +kernel
theorem dX6_gain_45 : decode cX6_gain 45 = .ok (.ireturn, 1) := by decide +kernel
theorem dX6_age_0 : decode cX6_age 0 = .ok (.aload_n 0, 1) := by decide +kernel
theorem dX6_age_1 : decode cX6_age 1 = .ok (.getfield 12, 3) := by decide +kernel
theorem dX6_age_4 : decode cX6_age 4 = .ok (.iload_n 1, 1) := by decide +kernel
theorem dX6_age_5 : decode cX6_age 5 = .ok (.invokevirtual 72, 3) := by decide +kernel
theorem dX6_age_8 : decode cX6_age 8 = .ok (.ifCond .ne 5, 3) := by decide +kernel
theorem dX6_age_11 : decode cX6_age 11 = .ok (.iconst (-1), 1) := by decide +kernel
theorem dX6_age_12 : decode cX6_age 12 = .ok (.ireturn, 1) := by decide +kernel
theorem dX6_age_13 : decode cX6_age 13 = .ok (.aload_n 0, 1) := by decide +kernel
theorem dX6_age_14 : decode cX6_age 14 = .ok (.getfield 12, 3) := by decide +kernel
theorem dX6_age_17 : decode cX6_age 17 = .ok (.getfield 75, 3) := by decide +kernel
theorem dX6_age_20 : decode cX6_age 20 = .ok (.iload_n 1, 1) := by decide +kernel
theorem dX6_age_21 : decode cX6_age 21 = .ok (.aaload, 1) := by decide +kernel
theorem dX6_age_22 : decode cX6_age 22 = .ok (.astore_n 3, 1) := by decide +kernel
theorem dX6_age_23 : decode cX6_age 23 = .ok (.aload_n 3, 1) := by decide +kernel
theorem dX6_age_24 : decode cX6_age 24 = .ok (.iload_n 2, 1) := by decide +kernel
theorem dX6_age_25 : decode cX6_age 25 = .ok (.invokevirtual 120, 3) := by decide +kernel
theorem dX6_age_28 : decode cX6_age 28 = .ok (.ifCond .eq 15, 3) := by decide +kernel
theorem dX6_age_31 : decode cX6_age 31 = .ok (.aload_n 0, 1) := by decide +kernel
theorem dX6_age_32 : decode cX6_age 32 = .ok (.getfield 12, 3) := by decide +kernel
theorem dX6_age_35 : decode cX6_age 35 = .ok (.aload_n 3, 1) := by decide +kernel
theorem dX6_age_36 : decode cX6_age 36 = .ok (.iload_n 2, 1) := by decide +kernel
theorem dX6_age_37 : decode cX6_age 37 = .ok (.invokevirtual 123, 3) := by decide +kernel
theorem dX6_age_40 : decode cX6_age 40 = .ok (.goto 5, 3) := by decide +kernel
theorem dX6_age_43 : decode cX6_age 43 = .ok (.bipush (-2), 2) := by decide +kernel
theorem dX6_age_45 : decode cX6_age 45 = .ok (.ireturn, 1) := by decide +kernel
theorem dX6_sit_0 : decode cX6_sit 0 = .ok (.aload_n 0, 1) := by decide +kernel
theorem dX6_sit_1 : decode cX6_sit 1 = .ok (.iconst 0, 1) := by decide +kernel
theorem dX6_sit_2 : decode cX6_sit 2 = .ok (.putfield 39, 3) := by decide +kernel
theorem dX6_sit_5 : decode cX6_sit 5 = .ok (.iload_n 1, 1) := by decide +kernel
theorem dX6_sit_6 : decode cX6_sit 6 = .ok (.invokestatic 43, 3) := by decide +kernel
theorem dX6_sit_9 : decode cX6_sit 9 = .ok (.ifCond .ne 5, 3) := by decide +kernel
theorem dX6_sit_12 : decode cX6_sit 12 = .ok (.iconst (-1), 1) := by decide +kernel
theorem dX6_sit_13 : decode cX6_sit 13 = .ok (.ireturn, 1) := by decide +kernel
theorem dX6_sit_14 : decode cX6_sit 14 = .ok (.iload_n 2, 1) := by decide +kernel
theorem dX6_sit_15 : decode cX6_sit 15 = .ok (.invokestatic 47, 3) := by decide +kernel
theorem dX6_sit_18 : decode cX6_sit 18 = .ok (.ifCond .eq 11, 3) := by decide +kernel
theorem dX6_sit_21 : decode cX6_sit 21 = .ok (.iload 5, 2) := by decide +kernel
theorem dX6_sit_23 : decode cX6_sit 23 = .ok (.invokestatic 127, 3) := by decide +kernel
theorem dX6_sit_26 : decode cX6_sit 26 = .ok (.ifCond .ne 6, 3) := by decide +kernel
theorem dX6_sit_29 : decode cX6_sit 29 = .ok (.bipush (-2), 2) := by decide +kernel
theorem dX6_sit_31 : decode cX6_sit 31 = .ok (.ireturn, 1) := by decide +kernel
theorem dX6_sit_32 : decode cX6_sit 32 = .ok (.aload_n 0, 1) := by decide +kernel
theorem dX6_sit_33 : decode cX6_sit 33 = .ok (.getfield 12, 3) := by decide +kernel
theorem dX6_sit_36 : decode cX6_sit 36 = .ok (.invokevirtual 110, 3) := by decide +kernel
theorem dX6_sit_39 : decode cX6_sit 39 = .ok (.ifCond .ne 6, 3) := by decide +kernel
theorem dX6_sit_42 : decode cX6_sit 42 = .ok (.bipush (-3), 2) := by decide +kernel
theorem dX6_sit_44 : decode cX6_sit 44 = .ok (.ireturn, 1) := by decide +kernel
theorem dX6_sit_45 : decode cX6_sit 45 = .ok (.aload_n 0, 1) := by decide +kernel
theorem dX6_sit_46 : decode cX6_sit 46 = .ok (.getfield 27, 3) := by decide +kernel
theorem dX6_sit_49 : decode cX6_sit 49 = .ok (.iload_n 1, 1) := by decide +kernel
theorem dX6_sit_50 : decode cX6_sit 50 = .ok (.aaload, 1) := by decide +kernel
theorem dX6_sit_51 : decode cX6_sit 51 = .ok (.astore 6, 2) := by decide +kernel
theorem dX6_sit_53 : decode cX6_sit 53 = .ok (.aload 6, 2) := by decide +kernel
theorem dX6_sit_55 : decode cX6_sit 55 = .ok (.iload_n 2, 1) := by decide +kernel
theorem dX6_sit_56 : decode cX6_sit 56 = .ok (.iload_n 3, 1) := by decide +kernel
theorem dX6_sit_57 : decode cX6_sit 57 = .ok (.iload 4, 2) := by decide +kernel
theorem dX6_sit_59 : decode cX6_sit 59 = .ok (.invokevirtual 50, 3) := by decide +kernel
theorem dX6_sit_62 : decode cX6_sit 62 = .ok (.istore 7, 2) := by decide +kernel
theorem dX6_sit_64 : decode cX6_sit 64 = .ok (.iload 7, 2) := by decide +kernel
theorem dX6_sit_66 : decode cX6_sit 66 = .ok (.ifCond .eq 10, 3) := by decide +kernel
theorem dX6_sit_69 : decode cX6_sit 69 = .ok (.aload_n 0, 1) := by decide +kernel
theorem dX6_sit_70 : decode cX6_sit 70 = .ok (.iload 7, 2) := by decide +kernel
theorem dX6_sit_72 : decode cX6_sit 72 = .ok (.invokevirtual 54, 3) := by decide +kernel
theorem dX6_sit_75 : decode cX6_sit 75 = .ok (.ireturn, 1) := by decide +kernel
theorem dX6_sit_76 : decode cX6_sit 76 = .ok (.iload 4, 2) := by decide +kernel
theorem dX6_sit_78 : decode cX6_sit 78 = .ok (.aload_n 0, 1) := by decide +kernel
theorem dX6_sit_79 : decode cX6_sit 79 = .ok (.getfield 12, 3) := by decide +kernel
theorem dX6_sit_82 : decode cX6_sit 82 = .ok (.getfield 71, 3) := by decide +kernel
theorem dX6_sit_85 : decode cX6_sit 85 = .ok (.if_icmp .ne 13, 3) := by decide +kernel
theorem dX6_sit_88 : decode cX6_sit 88 = .ok (.aload_n 0, 1) := by decide +kernel
theorem dX6_sit_89 : decode cX6_sit 89 = .ok (.aload 6, 2) := by decide +kernel
theorem dX6_sit_91 : decode cX6_sit 91 = .ok (.iload_n 3, 1) := by decide +kernel
theorem dX6_sit_92 : decode cX6_sit 92 = .ok (.invokevirtual 130, 3) := by decide +kernel
theorem dX6_sit_95 : decode cX6_sit 95 = .ok (.ifCond .ne 6, 3) := by decide +kernel
theorem dX6_sit_98 : decode cX6_sit 98 = .ok (.bipush (-2), 2) := by decide +kernel
theorem dX6_sit_100 : decode cX6_sit 100 = .ok (.ireturn, 1) := by decide +kernel
theorem dX6_sit_101 : decode cX6_sit 101 = .ok (.aload_n 0, 1) := by decide +kernel
theorem dX6_sit_102 : decode cX6_sit 102 = .ok (.iload 5, 2) := by decide +kernel
theorem dX6_sit_104 : decode cX6_sit 104 = .ok (.invokevirtual 134, 3) := by decide +kernel
theorem dX6_sit_107 : decode cX6_sit 107 = .ok (.ireturn, 1) := by decide +kernel
theorem dX6_isSittingQuestion_0 : decode cX6_isSittingQuestion 0 = .ok (.iload_n 0, 1) := by decide +kernel
theorem dX6_isSittingQuestion_1 : decode cX6_isSittingQuestion 1 = .ok (.ifCond .lt 8, 3) := by decide +kernel
theorem dX6_isSittingQuestion_4 : decode cX6_isSittingQuestion 4 = .ok (.iload_n 0, 1) := by decide +kernel
theorem dX6_isSittingQuestion_5 : decode cX6_isSittingQuestion 5 = .ok (.iconst 3, 1) := by decide +kernel
theorem dX6_isSittingQuestion_6 : decode cX6_isSittingQuestion 6 = .ok (.if_icmp .le 27, 3) := by decide +kernel
theorem dX6_isSittingQuestion_9 : decode cX6_isSittingQuestion 9 = .ok (.iload_n 0, 1) := by decide +kernel
theorem dX6_isSittingQuestion_10 : decode cX6_isSittingQuestion 10 = .ok (.bipush 10, 2) := by decide +kernel
theorem dX6_isSittingQuestion_12 : decode cX6_isSittingQuestion 12 = .ok (.if_icmp .lt 9, 3) := by decide +kernel
theorem dX6_isSittingQuestion_15 : decode cX6_isSittingQuestion 15 = .ok (.iload_n 0, 1) := by decide +kernel
theorem dX6_isSittingQuestion_16 : decode cX6_isSittingQuestion 16 = .ok (.bipush 15, 2) := by decide +kernel
theorem dX6_isSittingQuestion_18 : decode cX6_isSittingQuestion 18 = .ok (.if_icmp .lt 15, 3) := by decide +kernel
theorem dX6_isSittingQuestion_21 : decode cX6_isSittingQuestion 21 = .ok (.iload_n 0, 1) := by decide +kernel
theorem dX6_isSittingQuestion_22 : decode cX6_isSittingQuestion 22 = .ok (.bipush 20, 2) := by decide +kernel
theorem dX6_isSittingQuestion_24 : decode cX6_isSittingQuestion 24 = .ok (.if_icmp .lt 13, 3) := by decide +kernel
theorem dX6_isSittingQuestion_27 : decode cX6_isSittingQuestion 27 = .ok (.iload_n 0, 1) := by decide +kernel
theorem dX6_isSittingQuestion_28 : decode cX6_isSittingQuestion 28 = .ok (.bipush 24, 2) := by decide +kernel
theorem dX6_isSittingQuestion_30 : decode cX6_isSittingQuestion 30 = .ok (.if_icmp .ge 7, 3) := by decide +kernel
theorem dX6_isSittingQuestion_33 : decode cX6_isSittingQuestion 33 = .ok (.iconst 1, 1) := by decide +kernel
theorem dX6_isSittingQuestion_34 : decode cX6_isSittingQuestion 34 = .ok (.goto 4, 3) := by decide +kernel
theorem dX6_isSittingQuestion_37 : decode cX6_isSittingQuestion 37 = .ok (.iconst 0, 1) := by decide +kernel
theorem dX6_isSittingQuestion_38 : decode cX6_isSittingQuestion 38 = .ok (.ireturn, 1) := by decide +kernel
theorem dX6_takeSitting_0 : decode cX6_takeSitting 0 = .ok (.iconst 0, 1) := by decide +kernel
theorem dX6_takeSitting_1 : decode cX6_takeSitting 1 = .ok (.istore_n 3, 1) := by decide +kernel
theorem dX6_takeSitting_2 : decode cX6_takeSitting 2 = .ok (.iload_n 3, 1) := by decide +kernel
theorem dX6_takeSitting_3 : decode cX6_takeSitting 3 = .ok (.aload_n 0, 1) := by decide +kernel
theorem dX6_takeSitting_4 : decode cX6_takeSitting 4 = .ok (.getfield 12, 3) := by decide +kernel
theorem dX6_takeSitting_7 : decode cX6_takeSitting 7 = .ok (.getfield 71, 3) := by decide +kernel
theorem dX6_takeSitting_10 : decode cX6_takeSitting 10 = .ok (.if_icmp .ge 45, 3) := by decide +kernel
theorem dX6_takeSitting_13 : decode cX6_takeSitting 13 = .ok (.aload_n 1, 1) := by decide +kernel
theorem dX6_takeSitting_14 : decode cX6_takeSitting 14 = .ok (.iload_n 2, 1) := by decide +kernel
theorem dX6_takeSitting_15 : decode cX6_takeSitting 15 = .ok (.iload_n 3, 1) := by decide +kernel
theorem dX6_takeSitting_16 : decode cX6_takeSitting 16 = .ok (.iadd, 1) := by decide +kernel
theorem dX6_takeSitting_17 : decode cX6_takeSitting 17 = .ok (.invokevirtual 137, 3) := by decide +kernel
theorem dX6_takeSitting_20 : decode cX6_takeSitting 20 = .ok (.istore 4, 2) := by decide +kernel
theorem dX6_takeSitting_22 : decode cX6_takeSitting 22 = .ok (.aload_n 0, 1) := by decide +kernel
theorem dX6_takeSitting_23 : decode cX6_takeSitting 23 = .ok (.getfield 12, 3) := by decide +kernel
theorem dX6_takeSitting_26 : decode cX6_takeSitting 26 = .ok (.getfield 75, 3) := by decide +kernel
theorem dX6_takeSitting_29 : decode cX6_takeSitting 29 = .ok (.iload_n 3, 1) := by decide +kernel
theorem dX6_takeSitting_30 : decode cX6_takeSitting 30 = .ok (.aaload, 1) := by decide +kernel
theorem dX6_takeSitting_31 : decode cX6_takeSitting 31 = .ok (.iload 4, 2) := by decide +kernel
theorem dX6_takeSitting_33 : decode cX6_takeSitting 33 = .ok (.invokevirtual 120, 3) := by decide +kernel
theorem dX6_takeSitting_36 : decode cX6_takeSitting 36 = .ok (.ifCond .ne 5, 3) := by decide +kernel
theorem dX6_takeSitting_39 : decode cX6_takeSitting 39 = .ok (.iconst 0, 1) := by decide +kernel
theorem dX6_takeSitting_40 : decode cX6_takeSitting 40 = .ok (.ireturn, 1) := by decide +kernel
theorem dX6_takeSitting_41 : decode cX6_takeSitting 41 = .ok (.aload_n 0, 1) := by decide +kernel
theorem dX6_takeSitting_42 : decode cX6_takeSitting 42 = .ok (.getfield 31, 3) := by decide +kernel
theorem dX6_takeSitting_45 : decode cX6_takeSitting 45 = .ok (.iload_n 3, 1) := by decide +kernel
theorem dX6_takeSitting_46 : decode cX6_takeSitting 46 = .ok (.iload 4, 2) := by decide +kernel
theorem dX6_takeSitting_48 : decode cX6_takeSitting 48 = .ok (.iastore, 1) := by decide +kernel
theorem dX6_takeSitting_49 : decode cX6_takeSitting 49 = .ok (.iinc 3 1, 3) := by decide +kernel
theorem dX6_takeSitting_52 : decode cX6_takeSitting 52 = .ok (.goto (-50), 3) := by decide +kernel
theorem dX6_takeSitting_55 : decode cX6_takeSitting 55 = .ok (.iconst 1, 1) := by decide +kernel
theorem dX6_takeSitting_56 : decode cX6_takeSitting 56 = .ok (.ireturn, 1) := by decide +kernel
theorem dX6_ofSitting_0 : decode cX6_ofSitting 0 = .ok (.iconst 0, 1) := by decide +kernel
theorem dX6_ofSitting_1 : decode cX6_ofSitting 1 = .ok (.istore_n 2, 1) := by decide +kernel
theorem dX6_ofSitting_2 : decode cX6_ofSitting 2 = .ok (.iconst 0, 1) := by decide +kernel
theorem dX6_ofSitting_3 : decode cX6_ofSitting 3 = .ok (.istore_n 3, 1) := by decide +kernel
theorem dX6_ofSitting_4 : decode cX6_ofSitting 4 = .ok (.iload_n 3, 1) := by decide +kernel
theorem dX6_ofSitting_5 : decode cX6_ofSitting 5 = .ok (.aload_n 0, 1) := by decide +kernel
theorem dX6_ofSitting_6 : decode cX6_ofSitting 6 = .ok (.getfield 12, 3) := by decide +kernel
theorem dX6_ofSitting_9 : decode cX6_ofSitting 9 = .ok (.getfield 71, 3) := by decide +kernel
theorem dX6_ofSitting_12 : decode cX6_ofSitting 12 = .ok (.if_icmp .ge 21, 3) := by decide +kernel
theorem dX6_ofSitting_15 : decode cX6_ofSitting 15 = .ok (.iload_n 2, 1) := by decide +kernel
theorem dX6_ofSitting_16 : decode cX6_ofSitting 16 = .ok (.aload_n 0, 1) := by decide +kernel
theorem dX6_ofSitting_17 : decode cX6_ofSitting 17 = .ok (.getfield 31, 3) := by decide +kernel
theorem dX6_ofSitting_20 : decode cX6_ofSitting 20 = .ok (.iload_n 3, 1) := by decide +kernel
theorem dX6_ofSitting_21 : decode cX6_ofSitting 21 = .ok (.iaload, 1) := by decide +kernel
theorem dX6_ofSitting_22 : decode cX6_ofSitting 22 = .ok (.invokestatic 140, 3) := by decide +kernel
theorem dX6_ofSitting_25 : decode cX6_ofSitting 25 = .ok (.iadd, 1) := by decide +kernel
theorem dX6_ofSitting_26 : decode cX6_ofSitting 26 = .ok (.istore_n 2, 1) := by decide +kernel
theorem dX6_ofSitting_27 : decode cX6_ofSitting 27 = .ok (.iinc 3 1, 3) := by decide +kernel
theorem dX6_ofSitting_30 : decode cX6_ofSitting 30 = .ok (.goto (-26), 3) := by decide +kernel
theorem dX6_ofSitting_33 : decode cX6_ofSitting 33 = .ok (.aload_n 0, 1) := by decide +kernel
theorem dX6_ofSitting_34 : decode cX6_ofSitting 34 = .ok (.getfield 12, 3) := by decide +kernel
theorem dX6_ofSitting_37 : decode cX6_ofSitting 37 = .ok (.iload_n 2, 1) := by decide +kernel
theorem dX6_ofSitting_38 : decode cX6_ofSitting 38 = .ok (.invokevirtual 145, 3) := by decide +kernel
theorem dX6_ofSitting_41 : decode cX6_ofSitting 41 = .ok (.istore_n 3, 1) := by decide +kernel
theorem dX6_ofSitting_42 : decode cX6_ofSitting 42 = .ok (.iload_n 1, 1) := by decide +kernel
theorem dX6_ofSitting_43 : decode cX6_ofSitting 43 = .ok (.iconst 1, 1) := by decide +kernel
theorem dX6_ofSitting_44 : decode cX6_ofSitting 44 = .ok (.if_icmp .ne 5, 3) := by decide +kernel
theorem dX6_ofSitting_47 : decode cX6_ofSitting 47 = .ok (.iload_n 3, 1) := by decide +kernel
theorem dX6_ofSitting_48 : decode cX6_ofSitting 48 = .ok (.ireturn, 1) := by decide +kernel
theorem dX6_ofSitting_49 : decode cX6_ofSitting 49 = .ok (.iload_n 3, 1) := by decide +kernel
theorem dX6_ofSitting_50 : decode cX6_ofSitting 50 = .ok (.bipush (-9), 2) := by decide +kernel
theorem dX6_ofSitting_52 : decode cX6_ofSitting 52 = .ok (.if_icmp .eq 8, 3) := by decide +kernel
theorem dX6_ofSitting_55 : decode cX6_ofSitting 55 = .ok (.bipush (-100), 2) := by decide +kernel
theorem dX6_ofSitting_57 : decode cX6_ofSitting 57 = .ok (.iload_n 3, 1) := by decide +kernel
theorem dX6_ofSitting_58 : decode cX6_ofSitting 58 = .ok (.isub, 1) := by decide +kernel
theorem dX6_ofSitting_59 : decode cX6_ofSitting 59 = .ok (.ireturn, 1) := by decide +kernel
theorem dX6_ofSitting_60 : decode cX6_ofSitting 60 = .ok (.iload_n 1, 1) := by decide +kernel
theorem dX6_ofSitting_61 : decode cX6_ofSitting 61 = .ok (.bipush 20, 2) := by decide +kernel
theorem dX6_ofSitting_63 : decode cX6_ofSitting 63 = .ok (.if_icmp .lt 51, 3) := by decide +kernel
theorem dX6_ofSitting_66 : decode cX6_ofSitting 66 = .ok (.iload_n 1, 1) := by decide +kernel
theorem dX6_ofSitting_67 : decode cX6_ofSitting 67 = .ok (.bipush 20, 2) := by decide +kernel
theorem dX6_ofSitting_69 : decode cX6_ofSitting 69 = .ok (.isub, 1) := by decide +kernel
theorem dX6_ofSitting_70 : decode cX6_ofSitting 70 = .ok (.istore 4, 2) := by decide +kernel
theorem dX6_ofSitting_72 : decode cX6_ofSitting 72 = .ok (.aload_n 0, 1) := by decide +kernel
theorem dX6_ofSitting_73 : decode cX6_ofSitting 73 = .ok (.getfield 12, 3) := by decide +kernel
theorem dX6_ofSitting_76 : decode cX6_ofSitting 76 = .ok (.iload 4, 2) := by decide +kernel
theorem dX6_ofSitting_78 : decode cX6_ofSitting 78 = .ok (.invokevirtual 72, 3) := by decide +kernel
theorem dX6_ofSitting_81 : decode cX6_ofSitting 81 = .ok (.ifCond .eq 30, 3) := by decide +kernel
theorem dX6_ofSitting_84 : decode cX6_ofSitting 84 = .ok (.aload_n 0, 1) := by decide +kernel
theorem dX6_ofSitting_85 : decode cX6_ofSitting 85 = .ok (.getfield 12, 3) := by decide +kernel
theorem dX6_ofSitting_88 : decode cX6_ofSitting 88 = .ok (.aload_n 0, 1) := by decide +kernel
theorem dX6_ofSitting_89 : decode cX6_ofSitting 89 = .ok (.getfield 12, 3) := by decide +kernel
theorem dX6_ofSitting_92 : decode cX6_ofSitting 92 = .ok (.getfield 75, 3) := by decide +kernel
theorem dX6_ofSitting_95 : decode cX6_ofSitting 95 = .ok (.iload 4, 2) := by decide +kernel
theorem dX6_ofSitting_97 : decode cX6_ofSitting 97 = .ok (.aaload, 1) := by decide +kernel
theorem dX6_ofSitting_98 : decode cX6_ofSitting 98 = .ok (.aload_n 0, 1) := by decide +kernel
theorem dX6_ofSitting_99 : decode cX6_ofSitting 99 = .ok (.getfield 31, 3) := by decide +kernel
theorem dX6_ofSitting_102 : decode cX6_ofSitting 102 = .ok (.iload 4, 2) := by decide +kernel
theorem dX6_ofSitting_104 : decode cX6_ofSitting 104 = .ok (.iaload, 1) := by decide +kernel
theorem dX6_ofSitting_105 : decode cX6_ofSitting 105 = .ok (.invokevirtual 123, 3) := by decide +kernel
theorem dX6_ofSitting_108 : decode cX6_ofSitting 108 = .ok (.goto 5, 3) := by decide +kernel
theorem dX6_ofSitting_111 : decode cX6_ofSitting 111 = .ok (.bipush (-9), 2) := by decide +kernel
theorem dX6_ofSitting_113 : decode cX6_ofSitting 113 = .ok (.ireturn, 1) := by decide +kernel
theorem dX6_ofSitting_114 : decode cX6_ofSitting 114 = .ok (.iload_n 1, 1) := by decide +kernel
theorem dX6_ofSitting_115 : decode cX6_ofSitting 115 = .ok (.bipush 10, 2) := by decide +kernel
theorem dX6_ofSitting_117 : decode cX6_ofSitting 117 = .ok (.if_icmp .lt 33, 3) := by decide +kernel
theorem dX6_ofSitting_120 : decode cX6_ofSitting 120 = .ok (.iload_n 1, 1) := by decide +kernel
theorem dX6_ofSitting_121 : decode cX6_ofSitting 121 = .ok (.bipush 10, 2) := by decide +kernel
theorem dX6_ofSitting_123 : decode cX6_ofSitting 123 = .ok (.isub, 1) := by decide +kernel
theorem dX6_ofSitting_124 : decode cX6_ofSitting 124 = .ok (.istore 4, 2) := by decide +kernel
theorem dX6_ofSitting_126 : decode cX6_ofSitting 126 = .ok (.aload_n 0, 1) := by decide +kernel
theorem dX6_ofSitting_127 : decode cX6_ofSitting 127 = .ok (.getfield 12, 3) := by decide +kernel
theorem dX6_ofSitting_130 : decode cX6_ofSitting 130 = .ok (.iload 4, 2) := by decide +kernel
theorem dX6_ofSitting_132 : decode cX6_ofSitting 132 = .ok (.invokevirtual 100, 3) := by decide +kernel
theorem dX6_ofSitting_135 : decode cX6_ofSitting 135 = .ok (.ifCond .eq 12, 3) := by decide +kernel
theorem dX6_ofSitting_138 : decode cX6_ofSitting 138 = .ok (.iload_n 2, 1) := by decide +kernel
theorem dX6_ofSitting_139 : decode cX6_ofSitting 139 = .ok (.iload 4, 2) := by decide +kernel
theorem dX6_ofSitting_141 : decode cX6_ofSitting 141 = .ok (.invokestatic 148, 3) := by decide +kernel
theorem dX6_ofSitting_144 : decode cX6_ofSitting 144 = .ok (.goto 5, 3) := by decide +kernel
theorem dX6_ofSitting_147 : decode cX6_ofSitting 147 = .ok (.bipush (-9), 2) := by decide +kernel
theorem dX6_ofSitting_149 : decode cX6_ofSitting 149 = .ok (.ireturn, 1) := by decide +kernel
theorem dX6_ofSitting_150 : decode cX6_ofSitting 150 = .ok (.iload_n 1, 1) := by decide +kernel
theorem dX6_ofSitting_151 : decode cX6_ofSitting 151 = .ok (.iconst 3, 1) := by decide +kernel
theorem dX6_ofSitting_152 : decode cX6_ofSitting 152 = .ok (.if_icmp .ne 8, 3) := by decide +kernel
theorem dX6_ofSitting_155 : decode cX6_ofSitting 155 = .ok (.aload_n 0, 1) := by decide +kernel
theorem dX6_ofSitting_156 : decode cX6_ofSitting 156 = .ok (.invokevirtual 151, 3) := by decide +kernel
theorem dX6_ofSitting_159 : decode cX6_ofSitting 159 = .ok (.ireturn, 1) := by decide +kernel
theorem dX6_ofSitting_160 : decode cX6_ofSitting 160 = .ok (.iload_n 1, 1) := by decide +kernel
theorem dX6_ofSitting_161 : decode cX6_ofSitting 161 = .ok (.ifCond .ne 13, 3) := by decide +kernel
theorem dX6_ofSitting_164 : decode cX6_ofSitting 164 = .ok (.aload_n 0, 1) := by decide +kernel
theorem dX6_ofSitting_165 : decode cX6_ofSitting 165 = .ok (.invokevirtual 154, 3) := by decide +kernel
theorem dX6_ofSitting_168 : decode cX6_ofSitting 168 = .ok (.invokestatic 157, 3) := by decide +kernel
theorem dX6_ofSitting_171 : decode cX6_ofSitting 171 = .ok (.goto 7, 3) := by decide +kernel
theorem dX6_ofSitting_174 : decode cX6_ofSitting 174 = .ok (.aload_n 0, 1) := by decide +kernel
theorem dX6_ofSitting_175 : decode cX6_ofSitting 175 = .ok (.invokevirtual 154, 3) := by decide +kernel
theorem dX6_ofSitting_178 : decode cX6_ofSitting 178 = .ok (.ireturn, 1) := by decide +kernel
theorem dX6_rightOnes_0 : decode cX6_rightOnes 0 = .ok (.iconst 0, 1) := by decide +kernel
theorem dX6_rightOnes_1 : decode cX6_rightOnes 1 = .ok (.istore_n 1, 1) := by decide +kernel
theorem dX6_rightOnes_2 : decode cX6_rightOnes 2 = .ok (.iconst 0, 1) := by decide +kernel
theorem dX6_rightOnes_3 : decode cX6_rightOnes 3 = .ok (.istore_n 2, 1) := by decide +kernel
theorem dX6_rightOnes_4 : decode cX6_rightOnes 4 = .ok (.iload_n 2, 1) := by decide +kernel
theorem dX6_rightOnes_5 : decode cX6_rightOnes 5 = .ok (.aload_n 0, 1) := by decide +kernel
theorem dX6_rightOnes_6 : decode cX6_rightOnes 6 = .ok (.getfield 12, 3) := by decide +kernel
theorem dX6_rightOnes_9 : decode cX6_rightOnes 9 = .ok (.getfield 71, 3) := by decide +kernel
theorem dX6_rightOnes_12 : decode cX6_rightOnes 12 = .ok (.if_icmp .ge 40, 3) := by decide +kernel
theorem dX6_rightOnes_15 : decode cX6_rightOnes 15 = .ok (.aload_n 0, 1) := by decide +kernel
theorem dX6_rightOnes_16 : decode cX6_rightOnes 16 = .ok (.getfield 12, 3) := by decide +kernel
theorem dX6_rightOnes_19 : decode cX6_rightOnes 19 = .ok (.aload_n 0, 1) := by decide +kernel
theorem dX6_rightOnes_20 : decode cX6_rightOnes 20 = .ok (.getfield 12, 3) := by decide +kernel
theorem dX6_rightOnes_23 : decode cX6_rightOnes 23 = .ok (.getfield 75, 3) := by decide +kernel
theorem dX6_rightOnes_26 : decode cX6_rightOnes 26 = .ok (.iload_n 2, 1) := by decide +kernel
theorem dX6_rightOnes_27 : decode cX6_rightOnes 27 = .ok (.aaload, 1) := by decide +kernel
theorem dX6_rightOnes_28 : decode cX6_rightOnes 28 = .ok (.aload_n 0, 1) := by decide +kernel
theorem dX6_rightOnes_29 : decode cX6_rightOnes 29 = .ok (.getfield 31, 3) := by decide +kernel
theorem dX6_rightOnes_32 : decode cX6_rightOnes 32 = .ok (.iload_n 2, 1) := by decide +kernel
theorem dX6_rightOnes_33 : decode cX6_rightOnes 33 = .ok (.iaload, 1) := by decide +kernel
theorem dX6_rightOnes_34 : decode cX6_rightOnes 34 = .ok (.invokevirtual 162, 3) := by decide +kernel
theorem dX6_rightOnes_37 : decode cX6_rightOnes 37 = .ok (.ifCond .eq 9, 3) := by decide +kernel
theorem dX6_rightOnes_40 : decode cX6_rightOnes 40 = .ok (.iload_n 1, 1) := by decide +kernel
theorem dX6_rightOnes_41 : decode cX6_rightOnes 41 = .ok (.iconst 1, 1) := by decide +kernel
theorem dX6_rightOnes_42 : decode cX6_rightOnes 42 = .ok (.iload_n 2, 1) := by decide +kernel
theorem dX6_rightOnes_43 : decode cX6_rightOnes 43 = .ok (.ishl, 1) := by decide +kernel
theorem dX6_rightOnes_44 : decode cX6_rightOnes 44 = .ok (.ior, 1) := by decide +kernel
theorem dX6_rightOnes_45 : decode cX6_rightOnes 45 = .ok (.istore_n 1, 1) := by decide +kernel
theorem dX6_rightOnes_46 : decode cX6_rightOnes 46 = .ok (.iinc 2 1, 3) := by decide +kernel
theorem dX6_rightOnes_49 : decode cX6_rightOnes 49 = .ok (.goto (-45), 3) := by decide +kernel
theorem dX6_rightOnes_52 : decode cX6_rightOnes 52 = .ok (.iload_n 1, 1) := by decide +kernel
theorem dX6_rightOnes_53 : decode cX6_rightOnes 53 = .ok (.ireturn, 1) := by decide +kernel
theorem dX6_eldest_0 : decode cX6_eldest 0 = .ok (.iconst 0, 1) := by decide +kernel
theorem dX6_eldest_1 : decode cX6_eldest 1 = .ok (.istore_n 1, 1) := by decide +kernel
theorem dX6_eldest_2 : decode cX6_eldest 2 = .ok (.bipush (-9), 2) := by decide +kernel
theorem dX6_eldest_4 : decode cX6_eldest 4 = .ok (.istore_n 2, 1) := by decide +kernel
theorem dX6_eldest_5 : decode cX6_eldest 5 = .ok (.iconst 0, 1) := by decide +kernel
theorem dX6_eldest_6 : decode cX6_eldest 6 = .ok (.istore_n 3, 1) := by decide +kernel
theorem dX6_eldest_7 : decode cX6_eldest 7 = .ok (.iload_n 3, 1) := by decide +kernel
theorem dX6_eldest_8 : decode cX6_eldest 8 = .ok (.aload_n 0, 1) := by decide +kernel
theorem dX6_eldest_9 : decode cX6_eldest 9 = .ok (.getfield 12, 3) := by decide +kernel
theorem dX6_eldest_12 : decode cX6_eldest 12 = .ok (.getfield 71, 3) := by decide +kernel
theorem dX6_eldest_15 : decode cX6_eldest 15 = .ok (.if_icmp .ge 44, 3) := by decide +kernel
theorem dX6_eldest_18 : decode cX6_eldest 18 = .ok (.aload_n 0, 1) := by decide +kernel
theorem dX6_eldest_19 : decode cX6_eldest 19 = .ok (.getfield 12, 3) := by decide +kernel
theorem dX6_eldest_22 : decode cX6_eldest 22 = .ok (.aload_n 0, 1) := by decide +kernel
theorem dX6_eldest_23 : decode cX6_eldest 23 = .ok (.getfield 12, 3) := by decide +kernel
theorem dX6_eldest_26 : decode cX6_eldest 26 = .ok (.getfield 75, 3) := by decide +kernel
theorem dX6_eldest_29 : decode cX6_eldest 29 = .ok (.iload_n 3, 1) := by decide +kernel
theorem dX6_eldest_30 : decode cX6_eldest 30 = .ok (.aaload, 1) := by decide +kernel
theorem dX6_eldest_31 : decode cX6_eldest 31 = .ok (.aload_n 0, 1) := by decide +kernel
theorem dX6_eldest_32 : decode cX6_eldest 32 = .ok (.getfield 31, 3) := by decide +kernel
theorem dX6_eldest_35 : decode cX6_eldest 35 = .ok (.iload_n 3, 1) := by decide +kernel
theorem dX6_eldest_36 : decode cX6_eldest 36 = .ok (.iaload, 1) := by decide +kernel
theorem dX6_eldest_37 : decode cX6_eldest 37 = .ok (.invokevirtual 123, 3) := by decide +kernel
theorem dX6_eldest_40 : decode cX6_eldest 40 = .ok (.istore 4, 2) := by decide +kernel
theorem dX6_eldest_42 : decode cX6_eldest 42 = .ok (.iload 4, 2) := by decide +kernel
theorem dX6_eldest_44 : decode cX6_eldest 44 = .ok (.iload_n 2, 1) := by decide +kernel
theorem dX6_eldest_45 : decode cX6_eldest 45 = .ok (.if_icmp .le 8, 3) := by decide +kernel
theorem dX6_eldest_48 : decode cX6_eldest 48 = .ok (.iload_n 3, 1) := by decide +kernel
theorem dX6_eldest_49 : decode cX6_eldest 49 = .ok (.istore_n 1, 1) := by decide +kernel
theorem dX6_eldest_50 : decode cX6_eldest 50 = .ok (.iload 4, 2) := by decide +kernel
theorem dX6_eldest_52 : decode cX6_eldest 52 = .ok (.istore_n 2, 1) := by decide +kernel
theorem dX6_eldest_53 : decode cX6_eldest 53 = .ok (.iinc 3 1, 3) := by decide +kernel
theorem dX6_eldest_56 : decode cX6_eldest 56 = .ok (.goto (-49), 3) := by decide +kernel
theorem dX6_eldest_59 : decode cX6_eldest 59 = .ok (.iload_n 1, 1) := by decide +kernel
theorem dX6_eldest_60 : decode cX6_eldest 60 = .ok (.ireturn, 1) := by decide +kernel
theorem dX6_way_0 : decode cX6_way 0 = .ok (.aload_n 0, 1) := by decide +kernel
theorem dX6_way_1 : decode cX6_way 1 = .ok (.getfield 12, 3) := by decide +kernel
theorem dX6_way_4 : decode cX6_way 4 = .ok (.iload_n 1, 1) := by decide +kernel
theorem dX6_way_5 : decode cX6_way 5 = .ok (.invokevirtual 72, 3) := by decide +kernel
theorem dX6_way_8 : decode cX6_way 8 = .ok (.ifCond .ne 5, 3) := by decide +kernel
theorem dX6_way_11 : decode cX6_way 11 = .ok (.iconst (-1), 1) := by decide +kernel
theorem dX6_way_12 : decode cX6_way 12 = .ok (.ireturn, 1) := by decide +kernel
theorem dX6_way_13 : decode cX6_way 13 = .ok (.iload_n 2, 1) := by decide +kernel
theorem dX6_way_14 : decode cX6_way 14 = .ok (.sipush 199, 3) := by decide +kernel
theorem dX6_way_17 : decode cX6_way 17 = .ok (.invokestatic 106, 3) := by decide +kernel
theorem dX6_way_20 : decode cX6_way 20 = .ok (.ifCond .ne 6, 3) := by decide +kernel
theorem dX6_way_23 : decode cX6_way 23 = .ok (.bipush (-2), 2) := by decide +kernel
theorem dX6_way_25 : decode cX6_way 25 = .ok (.ireturn, 1) := by decide +kernel
theorem dX6_way_26 : decode cX6_way 26 = .ok (.aload_n 0, 1) := by decide +kernel
theorem dX6_way_27 : decode cX6_way 27 = .ok (.getfield 12, 3) := by decide +kernel
theorem dX6_way_30 : decode cX6_way 30 = .ok (.getfield 75, 3) := by decide +kernel
theorem dX6_way_33 : decode cX6_way 33 = .ok (.iload_n 1, 1) := by decide +kernel
theorem dX6_way_34 : decode cX6_way 34 = .ok (.aaload, 1) := by decide +kernel
theorem dX6_way_35 : decode cX6_way 35 = .ok (.astore_n 3, 1) := by decide +kernel
theorem dX6_way_36 : decode cX6_way 36 = .ok (.bipush (-9), 2) := by decide +kernel
theorem dX6_way_38 : decode cX6_way 38 = .ok (.istore 4, 2) := by decide +kernel
theorem dX6_way_40 : decode cX6_way 40 = .ok (.iconst 0, 1) := by decide +kernel
theorem dX6_way_41 : decode cX6_way 41 = .ok (.istore 5, 2) := by decide +kernel
theorem dX6_way_43 : decode cX6_way 43 = .ok (.iload 5, 2) := by decide +kernel
theorem dX6_way_45 : decode cX6_way 45 = .ok (.aload_n 3, 1) := by decide +kernel
theorem dX6_way_46 : decode cX6_way 46 = .ok (.invokevirtual 96, 3) := by decide +kernel
theorem dX6_way_49 : decode cX6_way 49 = .ok (.if_icmp .gt 60, 3) := by decide +kernel
theorem dX6_way_52 : decode cX6_way 52 = .ok (.aload_n 0, 1) := by decide +kernel
theorem dX6_way_53 : decode cX6_way 53 = .ok (.getfield 12, 3) := by decide +kernel
theorem dX6_way_56 : decode cX6_way 56 = .ok (.aload_n 3, 1) := by decide +kernel
theorem dX6_way_57 : decode cX6_way 57 = .ok (.iload 5, 2) := by decide +kernel
theorem dX6_way_59 : decode cX6_way 59 = .ok (.invokevirtual 166, 3) := by decide +kernel
theorem dX6_way_62 : decode cX6_way 62 = .ok (.ifCond .eq 41, 3) := by decide +kernel
theorem dX6_way_65 : decode cX6_way 65 = .ok (.aload_n 0, 1) := by decide +kernel
theorem dX6_way_66 : decode cX6_way 66 = .ok (.getfield 12, 3) := by decide +kernel
theorem dX6_way_69 : decode cX6_way 69 = .ok (.aload_n 3, 1) := by decide +kernel
theorem dX6_way_70 : decode cX6_way 70 = .ok (.iload 5, 2) := by decide +kernel
theorem dX6_way_72 : decode cX6_way 72 = .ok (.invokevirtual 123, 3) := by decide +kernel
theorem dX6_way_75 : decode cX6_way 75 = .ok (.iload_n 2, 1) := by decide +kernel
theorem dX6_way_76 : decode cX6_way 76 = .ok (.if_icmp .ne 27, 3) := by decide +kernel
theorem dX6_way_79 : decode cX6_way 79 = .ok (.iload 4, 2) := by decide +kernel
theorem dX6_way_81 : decode cX6_way 81 = .ok (.bipush (-9), 2) := by decide +kernel
theorem dX6_way_83 : decode cX6_way 83 = .ok (.if_icmp .eq 16, 3) := by decide +kernel
theorem dX6_way_86 : decode cX6_way 86 = .ok (.iload 5, 2) := by decide +kernel
theorem dX6_way_88 : decode cX6_way 88 = .ok (.invokestatic 157, 3) := by decide +kernel
theorem dX6_way_91 : decode cX6_way 91 = .ok (.iload 4, 2) := by decide +kernel
theorem dX6_way_93 : decode cX6_way 93 = .ok (.invokestatic 157, 3) := by decide +kernel
theorem dX6_way_96 : decode cX6_way 96 = .ok (.if_icmp .ge 7, 3) := by decide +kernel
theorem dX6_way_99 : decode cX6_way 99 = .ok (.iload 5, 2) := by decide +kernel
theorem dX6_way_101 : decode cX6_way 101 = .ok (.istore 4, 2) := by decide +kernel
theorem dX6_way_103 : decode cX6_way 103 = .ok (.iinc 5 1, 3) := by decide +kernel
theorem dX6_way_106 : decode cX6_way 106 = .ok (.goto (-63), 3) := by decide +kernel
theorem dX6_way_109 : decode cX6_way 109 = .ok (.iload 4, 2) := by decide +kernel
theorem dX6_way_111 : decode cX6_way 111 = .ok (.ireturn, 1) := by decide +kernel
theorem dX6_spread_0 : decode cX6_spread 0 = .ok (.aload_n 0, 1) := by decide +kernel
theorem dX6_spread_1 : decode cX6_spread 1 = .ok (.getfield 12, 3) := by decide +kernel
theorem dX6_spread_4 : decode cX6_spread 4 = .ok (.iload_n 1, 1) := by decide +kernel
theorem dX6_spread_5 : decode cX6_spread 5 = .ok (.invokevirtual 72, 3) := by decide +kernel
theorem dX6_spread_8 : decode cX6_spread 8 = .ok (.ifCond .ne 5, 3) := by decide +kernel
theorem dX6_spread_11 : decode cX6_spread 11 = .ok (.iconst (-1), 1) := by decide +kernel
theorem dX6_spread_12 : decode cX6_spread 12 = .ok (.ireturn, 1) := by decide +kernel
theorem dX6_spread_13 : decode cX6_spread 13 = .ok (.aload_n 0, 1) := by decide +kernel
theorem dX6_spread_14 : decode cX6_spread 14 = .ok (.getfield 12, 3) := by decide +kernel
theorem dX6_spread_17 : decode cX6_spread 17 = .ok (.getfield 75, 3) := by decide +kernel
theorem dX6_spread_20 : decode cX6_spread 20 = .ok (.iload_n 1, 1) := by decide +kernel
theorem dX6_spread_21 : decode cX6_spread 21 = .ok (.aaload, 1) := by decide +kernel
theorem dX6_spread_22 : decode cX6_spread 22 = .ok (.astore_n 2, 1) := by decide +kernel
theorem dX6_spread_23 : decode cX6_spread 23 = .ok (.iconst 0, 1) := by decide +kernel
theorem dX6_spread_24 : decode cX6_spread 24 = .ok (.istore_n 3, 1) := by decide +kernel
theorem dX6_spread_25 : decode cX6_spread 25 = .ok (.iconst 0, 1) := by decide +kernel
theorem dX6_spread_26 : decode cX6_spread 26 = .ok (.istore 4, 2) := by decide +kernel
theorem dX6_spread_28 : decode cX6_spread 28 = .ok (.iload 4, 2) := by decide +kernel
theorem dX6_spread_30 : decode cX6_spread 30 = .ok (.aload_n 2, 1) := by decide +kernel
theorem dX6_spread_31 : decode cX6_spread 31 = .ok (.invokevirtual 96, 3) := by decide +kernel
theorem dX6_spread_34 : decode cX6_spread 34 = .ok (.if_icmp .gt 42, 3) := by decide +kernel
theorem dX6_spread_37 : decode cX6_spread 37 = .ok (.aload_n 0, 1) := by decide +kernel
theorem dX6_spread_38 : decode cX6_spread 38 = .ok (.getfield 12, 3) := by decide +kernel
theorem dX6_spread_41 : decode cX6_spread 41 = .ok (.aload_n 2, 1) := by decide +kernel
theorem dX6_spread_42 : decode cX6_spread 42 = .ok (.iload 4, 2) := by decide +kernel
theorem dX6_spread_44 : decode cX6_spread 44 = .ok (.invokevirtual 166, 3) := by decide +kernel
theorem dX6_spread_47 : decode cX6_spread 47 = .ok (.ifCond .eq 23, 3) := by decide +kernel
theorem dX6_spread_50 : decode cX6_spread 50 = .ok (.iload_n 3, 1) := by decide +kernel
theorem dX6_spread_51 : decode cX6_spread 51 = .ok (.iconst 1, 1) := by decide +kernel
theorem dX6_spread_52 : decode cX6_spread 52 = .ok (.aload_n 0, 1) := by decide +kernel
theorem dX6_spread_53 : decode cX6_spread 53 = .ok (.getfield 12, 3) := by decide +kernel
theorem dX6_spread_56 : decode cX6_spread 56 = .ok (.aload_n 2, 1) := by decide +kernel
theorem dX6_spread_57 : decode cX6_spread 57 = .ok (.iload 4, 2) := by decide +kernel
theorem dX6_spread_59 : decode cX6_spread 59 = .ok (.invokevirtual 123, 3) := by decide +kernel
theorem dX6_spread_62 : decode cX6_spread 62 = .ok (.aload_n 2, 1) := by decide +kernel
theorem dX6_spread_63 : decode cX6_spread 63 = .ok (.getfield 90, 3) := by decide +kernel
theorem dX6_spread_66 : decode cX6_spread 66 = .ok (.isub, 1) := by decide +kernel
theorem dX6_spread_67 : decode cX6_spread 67 = .ok (.ishl, 1) := by decide +kernel
theorem dX6_spread_68 : decode cX6_spread 68 = .ok (.ior, 1) := by decide +kernel
theorem dX6_spread_69 : decode cX6_spread 69 = .ok (.istore_n 3, 1) := by decide +kernel
theorem dX6_spread_70 : decode cX6_spread 70 = .ok (.iinc 4 1, 3) := by decide +kernel
theorem dX6_spread_73 : decode cX6_spread 73 = .ok (.goto (-45), 3) := by decide +kernel
theorem dX6_spread_76 : decode cX6_spread 76 = .ok (.iload_n 3, 1) := by decide +kernel
theorem dX6_spread_77 : decode cX6_spread 77 = .ok (.invokestatic 157, 3) := by decide +kernel
theorem dX6_spread_80 : decode cX6_spread 80 = .ok (.ireturn, 1) := by decide +kernel
theorem dX6_agree_0 : decode cX6_agree 0 = .ok (.aload_n 0, 1) := by decide +kernel
theorem dX6_agree_1 : decode cX6_agree 1 = .ok (.getfield 12, 3) := by decide +kernel
theorem dX6_agree_4 : decode cX6_agree 4 = .ok (.iload_n 1, 1) := by decide +kernel
theorem dX6_agree_5 : decode cX6_agree 5 = .ok (.invokevirtual 72, 3) := by decide +kernel
theorem dX6_agree_8 : decode cX6_agree 8 = .ok (.ifCond .eq 19, 3) := by decide +kernel
theorem dX6_agree_11 : decode cX6_agree 11 = .ok (.aload_n 0, 1) := by decide +kernel
theorem dX6_agree_12 : decode cX6_agree 12 = .ok (.getfield 12, 3) := by decide +kernel
theorem dX6_agree_15 : decode cX6_agree 15 = .ok (.iload_n 2, 1) := by decide +kernel
theorem dX6_agree_16 : decode cX6_agree 16 = .ok (.invokevirtual 72, 3) := by decide +kernel
theorem dX6_agree_19 : decode cX6_agree 19 = .ok (.ifCond .eq 8, 3) := by decide +kernel
theorem dX6_agree_22 : decode cX6_agree 22 = .ok (.iload_n 1, 1) := by decide +kernel
theorem dX6_agree_23 : decode cX6_agree 23 = .ok (.iload_n 2, 1) := by decide +kernel
theorem dX6_agree_24 : decode cX6_agree 24 = .ok (.if_icmp .ne 5, 3) := by decide +kernel
theorem dX6_agree_27 : decode cX6_agree 27 = .ok (.iconst (-1), 1) := by decide +kernel
theorem dX6_agree_28 : decode cX6_agree 28 = .ok (.ireturn, 1) := by decide +kernel
theorem dX6_agree_29 : decode cX6_agree 29 = .ok (.iload_n 3, 1) := by decide +kernel
theorem dX6_agree_30 : decode cX6_agree 30 = .ok (.iconst 2, 1) := by decide +kernel
theorem dX6_agree_31 : decode cX6_agree 31 = .ok (.invokestatic 106, 3) := by decide +kernel
theorem dX6_agree_34 : decode cX6_agree 34 = .ok (.ifCond .ne 6, 3) := by decide +kernel
theorem dX6_agree_37 : decode cX6_agree 37 = .ok (.bipush (-2), 2) := by decide +kernel
theorem dX6_agree_39 : decode cX6_agree 39 = .ok (.ireturn, 1) := by decide +kernel
theorem dX6_agree_40 : decode cX6_agree 40 = .ok (.aload_n 0, 1) := by decide +kernel
theorem dX6_agree_41 : decode cX6_agree 41 = .ok (.getfield 12, 3) := by decide +kernel
theorem dX6_agree_44 : decode cX6_agree 44 = .ok (.aload_n 0, 1) := by decide +kernel
theorem dX6_agree_45 : decode cX6_agree 45 = .ok (.getfield 12, 3) := by decide +kernel
theorem dX6_agree_48 : decode cX6_agree 48 = .ok (.getfield 75, 3) := by decide +kernel
theorem dX6_agree_51 : decode cX6_agree 51 = .ok (.iload_n 1, 1) := by decide +kernel
theorem dX6_agree_52 : decode cX6_agree 52 = .ok (.aaload, 1) := by decide +kernel
theorem dX6_agree_53 : decode cX6_agree 53 = .ok (.aload_n 0, 1) := by decide +kernel
theorem dX6_agree_54 : decode cX6_agree 54 = .ok (.getfield 12, 3) := by decide +kernel
theorem dX6_agree_57 : decode cX6_agree 57 = .ok (.getfield 75, 3) := by decide +kernel
theorem dX6_agree_60 : decode cX6_agree 60 = .ok (.iload_n 2, 1) := by decide +kernel
theorem dX6_agree_61 : decode cX6_agree 61 = .ok (.aaload, 1) := by decide +kernel
theorem dX6_agree_62 : decode cX6_agree 62 = .ok (.invokevirtual 169, 3) := by decide +kernel
theorem dX6_agree_65 : decode cX6_agree 65 = .ok (.istore 4, 2) := by decide +kernel
theorem dX6_agree_67 : decode cX6_agree 67 = .ok (.iload 4, 2) := by decide +kernel
theorem dX6_agree_69 : decode cX6_agree 69 = .ok (.bipush (-9), 2) := by decide +kernel
theorem dX6_agree_71 : decode cX6_agree 71 = .ok (.if_icmp .ne 6, 3) := by decide +kernel
theorem dX6_agree_74 : decode cX6_agree 74 = .ok (.bipush (-9), 2) := by decide +kernel
theorem dX6_agree_76 : decode cX6_agree 76 = .ok (.ireturn, 1) := by decide +kernel
theorem dX6_agree_77 : decode cX6_agree 77 = .ok (.iload 4, 2) := by decide +kernel
theorem dX6_agree_79 : decode cX6_agree 79 = .ok (.invokestatic 173, 3) := by decide +kernel
theorem dX6_agree_82 : decode cX6_agree 82 = .ok (.istore 5, 2) := by decide +kernel
theorem dX6_agree_84 : decode cX6_agree 84 = .ok (.iload 4, 2) := by decide +kernel
theorem dX6_agree_86 : decode cX6_agree 86 = .ok (.invokestatic 176, 3) := by decide +kernel
theorem dX6_agree_89 : decode cX6_agree 89 = .ok (.istore 6, 2) := by decide +kernel
theorem dX6_agree_91 : decode cX6_agree 91 = .ok (.iload_n 3, 1) := by decide +kernel
theorem dX6_agree_92 : decode cX6_agree 92 = .ok (.ifCond .ne 15, 3) := by decide +kernel
theorem dX6_agree_95 : decode cX6_agree 95 = .ok (.iload 5, 2) := by decide +kernel
theorem dX6_agree_97 : decode cX6_agree 97 = .ok (.invokestatic 157, 3) := by decide +kernel
theorem dX6_agree_100 : decode cX6_agree 100 = .ok (.iload 6, 2) := by decide +kernel
theorem dX6_agree_102 : decode cX6_agree 102 = .ok (.invokestatic 157, 3) := by decide +kernel
theorem dX6_agree_105 : decode cX6_agree 105 = .ok (.iadd, 1) := by decide +kernel
theorem dX6_agree_106 : decode cX6_agree 106 = .ok (.ireturn, 1) := by decide +kernel
theorem dX6_agree_107 : decode cX6_agree 107 = .ok (.iload_n 3, 1) := by decide +kernel
theorem dX6_agree_108 : decode cX6_agree 108 = .ok (.iconst 1, 1) := by decide +kernel
theorem dX6_agree_109 : decode cX6_agree 109 = .ok (.if_icmp .ne 8, 3) := by decide +kernel
theorem dX6_agree_112 : decode cX6_agree 112 = .ok (.iload 5, 2) := by decide +kernel
theorem dX6_agree_114 : decode cX6_agree 114 = .ok (.goto 5, 3) := by decide +kernel
theorem dX6_agree_117 : decode cX6_agree 117 = .ok (.iload 6, 2) := by decide +kernel
theorem dX6_agree_119 : decode cX6_agree 119 = .ok (.ireturn, 1) := by decide +kernel
theorem dX6_most_0 : decode cX6_most 0 = .ok (.aload_n 0, 1) := by decide +kernel
theorem dX6_most_1 : decode cX6_most 1 = .ok (.getfield 12, 3) := by decide +kernel
theorem dX6_most_4 : decode cX6_most 4 = .ok (.invokevirtual 110, 3) := by decide +kernel
theorem dX6_most_7 : decode cX6_most 7 = .ok (.ifCond .eq 13, 3) := by decide +kernel
theorem dX6_most_10 : decode cX6_most 10 = .ok (.aload_n 0, 1) := by decide +kernel
theorem dX6_most_11 : decode cX6_most 11 = .ok (.getfield 12, 3) := by decide +kernel
theorem dX6_most_14 : decode cX6_most 14 = .ok (.invokevirtual 179, 3) := by decide +kernel
theorem dX6_most_17 : decode cX6_most 17 = .ok (.goto 5, 3) := by decide +kernel
theorem dX6_most_20 : decode cX6_most 20 = .ok (.bipush (-3), 2) := by decide +kernel
theorem dX6_most_22 : decode cX6_most 22 = .ok (.ireturn, 1) := by decide +kernel
theorem dX6_reading_0 : decode cX6_reading 0 = .ok (.aload_n 0, 1) := by decide +kernel
theorem dX6_reading_1 : decode cX6_reading 1 = .ok (.getfield 12, 3) := by decide +kernel
theorem dX6_reading_4 : decode cX6_reading 4 = .ok (.iload_n 1, 1) := by decide +kernel
theorem dX6_reading_5 : decode cX6_reading 5 = .ok (.invokevirtual 72, 3) := by decide +kernel
theorem dX6_reading_8 : decode cX6_reading 8 = .ok (.ifCond .ne 5, 3) := by decide +kernel
theorem dX6_reading_11 : decode cX6_reading 11 = .ok (.iconst (-1), 1) := by decide +kernel
theorem dX6_reading_12 : decode cX6_reading 12 = .ok (.ireturn, 1) := by decide +kernel
theorem dX6_reading_13 : decode cX6_reading 13 = .ok (.aload_n 0, 1) := by decide +kernel
theorem dX6_reading_14 : decode cX6_reading 14 = .ok (.getfield 12, 3) := by decide +kernel
theorem dX6_reading_17 : decode cX6_reading 17 = .ok (.getfield 75, 3) := by decide +kernel
theorem dX6_reading_20 : decode cX6_reading 20 = .ok (.iload_n 1, 1) := by decide +kernel
theorem dX6_reading_21 : decode cX6_reading 21 = .ok (.aaload, 1) := by decide +kernel
theorem dX6_reading_22 : decode cX6_reading 22 = .ok (.iload_n 2, 1) := by decide +kernel
theorem dX6_reading_23 : decode cX6_reading 23 = .ok (.invokevirtual 120, 3) := by decide +kernel
theorem dX6_reading_26 : decode cX6_reading 26 = .ok (.ifCond .eq 13, 3) := by decide +kernel
theorem dX6_reading_29 : decode cX6_reading 29 = .ok (.iload_n 3, 1) := by decide +kernel
theorem dX6_reading_30 : decode cX6_reading 30 = .ok (.sipush 199, 3) := by decide +kernel
theorem dX6_reading_33 : decode cX6_reading 33 = .ok (.invokestatic 106, 3) := by decide +kernel
theorem dX6_reading_36 : decode cX6_reading 36 = .ok (.ifCond .ne 6, 3) := by decide +kernel
theorem dX6_reading_39 : decode cX6_reading 39 = .ok (.bipush (-2), 2) := by decide +kernel
theorem dX6_reading_41 : decode cX6_reading 41 = .ok (.ireturn, 1) := by decide +kernel
theorem dX6_reading_42 : decode cX6_reading 42 = .ok (.aload_n 0, 1) := by decide +kernel
theorem dX6_reading_43 : decode cX6_reading 43 = .ok (.getfield 21, 3) := by decide +kernel
theorem dX6_reading_46 : decode cX6_reading 46 = .ok (.getfield 68, 3) := by decide +kernel
theorem dX6_reading_49 : decode cX6_reading 49 = .ok (.bipush 8, 2) := by decide +kernel
theorem dX6_reading_51 : decode cX6_reading 51 = .ok (.if_icmp .lt 6, 3) := by decide +kernel
theorem dX6_reading_54 : decode cX6_reading 54 = .ok (.bipush (-4), 2) := by decide +kernel
theorem dX6_reading_56 : decode cX6_reading 56 = .ok (.ireturn, 1) := by decide +kernel
theorem dX6_reading_57 : decode cX6_reading 57 = .ok (.aload_n 0, 1) := by decide +kernel
theorem dX6_reading_58 : decode cX6_reading 58 = .ok (.getfield 21, 3) := by decide +kernel
theorem dX6_reading_61 : decode cX6_reading 61 = .ok (.iload_n 1, 1) := by decide +kernel
theorem dX6_reading_62 : decode cX6_reading 62 = .ok (.iload_n 2, 1) := by decide +kernel
theorem dX6_reading_63 : decode cX6_reading 63 = .ok (.iload_n 3, 1) := by decide +kernel
theorem dX6_reading_64 : decode cX6_reading 64 = .ok (.invokevirtual 182, 3) := by decide +kernel
theorem dX6_reading_67 : decode cX6_reading 67 = .ok (.aload_n 0, 1) := by decide +kernel
theorem dX6_reading_68 : decode cX6_reading 68 = .ok (.getfield 21, 3) := by decide +kernel
theorem dX6_reading_71 : decode cX6_reading 71 = .ok (.getfield 68, 3) := by decide +kernel
theorem dX6_reading_74 : decode cX6_reading 74 = .ok (.iconst 1, 1) := by decide +kernel
theorem dX6_reading_75 : decode cX6_reading 75 = .ok (.isub, 1) := by decide +kernel
theorem dX6_reading_76 : decode cX6_reading 76 = .ok (.ireturn, 1) := by decide +kernel
theorem dX6_back_0 : decode cX6_back 0 = .ok (.iload_n 1, 1) := by decide +kernel
theorem dX6_back_1 : decode cX6_back 1 = .ok (.aload_n 0, 1) := by decide +kernel
theorem dX6_back_2 : decode cX6_back 2 = .ok (.getfield 21, 3) := by decide +kernel
theorem dX6_back_5 : decode cX6_back 5 = .ok (.getfield 68, 3) := by decide +kernel
theorem dX6_back_8 : decode cX6_back 8 = .ok (.invokestatic 106, 3) := by decide +kernel
theorem dX6_back_11 : decode cX6_back 11 = .ok (.ifCond .ne 6, 3) := by decide +kernel
theorem dX6_back_14 : decode cX6_back 14 = .ok (.bipush (-2), 2) := by decide +kernel
theorem dX6_back_16 : decode cX6_back 16 = .ok (.ireturn, 1) := by decide +kernel
theorem dX6_back_17 : decode cX6_back 17 = .ok (.aload_n 0, 1) := by decide +kernel
theorem dX6_back_18 : decode cX6_back 18 = .ok (.getfield 21, 3) := by decide +kernel
theorem dX6_back_21 : decode cX6_back 21 = .ok (.dup, 1) := by decide +kernel
theorem dX6_back_22 : decode cX6_back 22 = .ok (.getfield 68, 3) := by decide +kernel
theorem dX6_back_25 : decode cX6_back 25 = .ok (.iload_n 1, 1) := by decide +kernel
theorem dX6_back_26 : decode cX6_back 26 = .ok (.isub, 1) := by decide +kernel
theorem dX6_back_27 : decode cX6_back 27 = .ok (.putfield 68, 3) := by decide +kernel
theorem dX6_back_30 : decode cX6_back 30 = .ok (.aload_n 0, 1) := by decide +kernel
theorem dX6_back_31 : decode cX6_back 31 = .ok (.getfield 21, 3) := by decide +kernel
theorem dX6_back_34 : decode cX6_back 34 = .ok (.getfield 68, 3) := by decide +kernel
theorem dX6_back_37 : decode cX6_back 37 = .ok (.ireturn, 1) := by decide +kernel
theorem dX6_slopes_0 : decode cX6_slopes 0 = .ok (.aload_n 0, 1) := by decide +kernel
theorem dX6_slopes_1 : decode cX6_slopes 1 = .ok (.getfield 12, 3) := by decide +kernel
theorem dX6_slopes_4 : decode cX6_slopes 4 = .ok (.iload_n 1, 1) := by decide +kernel
theorem dX6_slopes_5 : decode cX6_slopes 5 = .ok (.invokevirtual 100, 3) := by decide +kernel
theorem dX6_slopes_8 : decode cX6_slopes 8 = .ok (.ifCond .ne 5, 3) := by decide +kernel
theorem dX6_slopes_11 : decode cX6_slopes 11 = .ok (.iconst (-1), 1) := by decide +kernel
theorem dX6_slopes_12 : decode cX6_slopes 12 = .ok (.ireturn, 1) := by decide +kernel
theorem dX6_slopes_13 : decode cX6_slopes 13 = .ok (.aload_n 0, 1) := by decide +kernel
theorem dX6_slopes_14 : decode cX6_slopes 14 = .ok (.getfield 12, 3) := by decide +kernel
theorem dX6_slopes_17 : decode cX6_slopes 17 = .ok (.getfield 103, 3) := by decide +kernel
theorem dX6_slopes_20 : decode cX6_slopes 20 = .ok (.iload_n 1, 1) := by decide +kernel
theorem dX6_slopes_21 : decode cX6_slopes 21 = .ok (.iaload, 1) := by decide +kernel
theorem dX6_slopes_22 : decode cX6_slopes 22 = .ok (.istore_n 2, 1) := by decide +kernel
theorem dX6_slopes_23 : decode cX6_slopes 23 = .ok (.iconst 0, 1) := by decide +kernel
theorem dX6_slopes_24 : decode cX6_slopes 24 = .ok (.istore_n 3, 1) := by decide +kernel
theorem dX6_slopes_25 : decode cX6_slopes 25 = .ok (.iconst 0, 1) := by decide +kernel
theorem dX6_slopes_26 : decode cX6_slopes 26 = .ok (.istore 4, 2) := by decide +kernel
theorem dX6_slopes_28 : decode cX6_slopes 28 = .ok (.iload 4, 2) := by decide +kernel
theorem dX6_slopes_30 : decode cX6_slopes 30 = .ok (.iconst 3, 1) := by decide +kernel
theorem dX6_slopes_31 : decode cX6_slopes 31 = .ok (.if_icmp .gt 41, 3) := by decide +kernel
theorem dX6_slopes_34 : decode cX6_slopes 34 = .ok (.aload_n 0, 1) := by decide +kernel
theorem dX6_slopes_35 : decode cX6_slopes 35 = .ok (.getfield 12, 3) := by decide +kernel
theorem dX6_slopes_38 : decode cX6_slopes 38 = .ok (.getfield 103, 3) := by decide +kernel
theorem dX6_slopes_41 : decode cX6_slopes 41 = .ok (.iload_n 1, 1) := by decide +kernel
theorem dX6_slopes_42 : decode cX6_slopes 42 = .ok (.iload 4, 2) := by decide +kernel
theorem dX6_slopes_44 : decode cX6_slopes 44 = .ok (.iastore, 1) := by decide +kernel
theorem dX6_slopes_45 : decode cX6_slopes 45 = .ok (.aload_n 0, 1) := by decide +kernel
theorem dX6_slopes_46 : decode cX6_slopes 46 = .ok (.getfield 21, 3) := by decide +kernel
theorem dX6_slopes_49 : decode cX6_slopes 49 = .ok (.aload_n 0, 1) := by decide +kernel
theorem dX6_slopes_50 : decode cX6_slopes 50 = .ok (.getfield 12, 3) := by decide +kernel
theorem dX6_slopes_53 : decode cX6_slopes 53 = .ok (.invokevirtual 186, 3) := by decide +kernel
theorem dX6_slopes_56 : decode cX6_slopes 56 = .ok (.ifCond .eq 10, 3) := by decide +kernel
theorem dX6_slopes_59 : decode cX6_slopes 59 = .ok (.iload_n 3, 1) := by decide +kernel
theorem dX6_slopes_60 : decode cX6_slopes 60 = .ok (.iconst 1, 1) := by decide +kernel
theorem dX6_slopes_61 : decode cX6_slopes 61 = .ok (.iload 4, 2) := by decide +kernel
theorem dX6_slopes_63 : decode cX6_slopes 63 = .ok (.ishl, 1) := by decide +kernel
theorem dX6_slopes_64 : decode cX6_slopes 64 = .ok (.ior, 1) := by decide +kernel
theorem dX6_slopes_65 : decode cX6_slopes 65 = .ok (.istore_n 3, 1) := by decide +kernel
theorem dX6_slopes_66 : decode cX6_slopes 66 = .ok (.iinc 4 1, 3) := by decide +kernel
theorem dX6_slopes_69 : decode cX6_slopes 69 = .ok (.goto (-41), 3) := by decide +kernel
theorem dX6_slopes_72 : decode cX6_slopes 72 = .ok (.aload_n 0, 1) := by decide +kernel
theorem dX6_slopes_73 : decode cX6_slopes 73 = .ok (.getfield 12, 3) := by decide +kernel
theorem dX6_slopes_76 : decode cX6_slopes 76 = .ok (.getfield 103, 3) := by decide +kernel
theorem dX6_slopes_79 : decode cX6_slopes 79 = .ok (.iload_n 1, 1) := by decide +kernel
theorem dX6_slopes_80 : decode cX6_slopes 80 = .ok (.iload_n 2, 1) := by decide +kernel
theorem dX6_slopes_81 : decode cX6_slopes 81 = .ok (.iastore, 1) := by decide +kernel
theorem dX6_slopes_82 : decode cX6_slopes 82 = .ok (.iload_n 3, 1) := by decide +kernel
theorem dX6_slopes_83 : decode cX6_slopes 83 = .ok (.ireturn, 1) := by decide +kernel
theorem dX6_kinds_0 : decode cX6_kinds 0 = .ok (.aload_n 0, 1) := by decide +kernel
theorem dX6_kinds_1 : decode cX6_kinds 1 = .ok (.getfield 12, 3) := by decide +kernel
theorem dX6_kinds_4 : decode cX6_kinds 4 = .ok (.iload_n 1, 1) := by decide +kernel
theorem dX6_kinds_5 : decode cX6_kinds 5 = .ok (.invokevirtual 72, 3) := by decide +kernel
theorem dX6_kinds_8 : decode cX6_kinds 8 = .ok (.ifCond .ne 5, 3) := by decide +kernel
theorem dX6_kinds_11 : decode cX6_kinds 11 = .ok (.iconst (-1), 1) := by decide +kernel
theorem dX6_kinds_12 : decode cX6_kinds 12 = .ok (.ireturn, 1) := by decide +kernel
theorem dX6_kinds_13 : decode cX6_kinds 13 = .ok (.aload_n 0, 1) := by decide +kernel
theorem dX6_kinds_14 : decode cX6_kinds 14 = .ok (.getfield 12, 3) := by decide +kernel
theorem dX6_kinds_17 : decode cX6_kinds 17 = .ok (.getfield 75, 3) := by decide +kernel
theorem dX6_kinds_20 : decode cX6_kinds 20 = .ok (.iload_n 1, 1) := by decide +kernel
theorem dX6_kinds_21 : decode cX6_kinds 21 = .ok (.aaload, 1) := by decide +kernel
theorem dX6_kinds_22 : decode cX6_kinds 22 = .ok (.astore_n 2, 1) := by decide +kernel
theorem dX6_kinds_23 : decode cX6_kinds 23 = .ok (.aload_n 2, 1) := by decide +kernel
theorem dX6_kinds_24 : decode cX6_kinds 24 = .ok (.getfield 79, 3) := by decide +kernel
theorem dX6_kinds_27 : decode cX6_kinds 27 = .ok (.istore_n 3, 1) := by decide +kernel
theorem dX6_kinds_28 : decode cX6_kinds 28 = .ok (.iconst 0, 1) := by decide +kernel
theorem dX6_kinds_29 : decode cX6_kinds 29 = .ok (.istore 4, 2) := by decide +kernel
theorem dX6_kinds_31 : decode cX6_kinds 31 = .ok (.iconst 0, 1) := by decide +kernel
theorem dX6_kinds_32 : decode cX6_kinds 32 = .ok (.istore 5, 2) := by decide +kernel
theorem dX6_kinds_34 : decode cX6_kinds 34 = .ok (.iload 5, 2) := by decide +kernel
theorem dX6_kinds_36 : decode cX6_kinds 36 = .ok (.iconst 2, 1) := by decide +kernel
theorem dX6_kinds_37 : decode cX6_kinds 37 = .ok (.if_icmp .gt 38, 3) := by decide +kernel
theorem dX6_kinds_40 : decode cX6_kinds 40 = .ok (.aload_n 2, 1) := by decide +kernel
theorem dX6_kinds_41 : decode cX6_kinds 41 = .ok (.iload 5, 2) := by decide +kernel
theorem dX6_kinds_43 : decode cX6_kinds 43 = .ok (.putfield 79, 3) := by decide +kernel
theorem dX6_kinds_46 : decode cX6_kinds 46 = .ok (.aload_n 0, 1) := by decide +kernel
theorem dX6_kinds_47 : decode cX6_kinds 47 = .ok (.getfield 21, 3) := by decide +kernel
theorem dX6_kinds_50 : decode cX6_kinds 50 = .ok (.aload_n 0, 1) := by decide +kernel
theorem dX6_kinds_51 : decode cX6_kinds 51 = .ok (.getfield 12, 3) := by decide +kernel
theorem dX6_kinds_54 : decode cX6_kinds 54 = .ok (.invokevirtual 186, 3) := by decide +kernel
theorem dX6_kinds_57 : decode cX6_kinds 57 = .ok (.ifCond .eq 12, 3) := by decide +kernel
theorem dX6_kinds_60 : decode cX6_kinds 60 = .ok (.iload 4, 2) := by decide +kernel
theorem dX6_kinds_62 : decode cX6_kinds 62 = .ok (.iconst 1, 1) := by decide +kernel
theorem dX6_kinds_63 : decode cX6_kinds 63 = .ok (.iload 5, 2) := by decide +kernel
theorem dX6_kinds_65 : decode cX6_kinds 65 = .ok (.ishl, 1) := by decide +kernel
theorem dX6_kinds_66 : decode cX6_kinds 66 = .ok (.ior, 1) := by decide +kernel
theorem dX6_kinds_67 : decode cX6_kinds 67 = .ok (.istore 4, 2) := by decide +kernel
theorem dX6_kinds_69 : decode cX6_kinds 69 = .ok (.iinc 5 1, 3) := by decide +kernel
theorem dX6_kinds_72 : decode cX6_kinds 72 = .ok (.goto (-38), 3) := by decide +kernel
theorem dX6_kinds_75 : decode cX6_kinds 75 = .ok (.aload_n 2, 1) := by decide +kernel
theorem dX6_kinds_76 : decode cX6_kinds 76 = .ok (.iload_n 3, 1) := by decide +kernel
theorem dX6_kinds_77 : decode cX6_kinds 77 = .ok (.putfield 79, 3) := by decide +kernel
theorem dX6_kinds_80 : decode cX6_kinds 80 = .ok (.iload 4, 2) := by decide +kernel
theorem dX6_kinds_82 : decode cX6_kinds 82 = .ok (.ireturn, 1) := by decide +kernel
theorem dX6_began_0 : decode cX6_began 0 = .ok (.aload_n 0, 1) := by decide +kernel
theorem dX6_began_1 : decode cX6_began 1 = .ok (.getfield 12, 3) := by decide +kernel
theorem dX6_began_4 : decode cX6_began 4 = .ok (.iload_n 1, 1) := by decide +kernel
theorem dX6_began_5 : decode cX6_began 5 = .ok (.invokevirtual 72, 3) := by decide +kernel
theorem dX6_began_8 : decode cX6_began 8 = .ok (.ifCond .ne 5, 3) := by decide +kernel
theorem dX6_began_11 : decode cX6_began 11 = .ok (.iconst (-1), 1) := by decide +kernel
theorem dX6_began_12 : decode cX6_began 12 = .ok (.ireturn, 1) := by decide +kernel
theorem dX6_began_13 : decode cX6_began 13 = .ok (.iload_n 2, 1) := by decide +kernel
theorem dX6_began_14 : decode cX6_began 14 = .ok (.iconst 1, 1) := by decide +kernel
theorem dX6_began_15 : decode cX6_began 15 = .ok (.invokestatic 106, 3) := by decide +kernel
theorem dX6_began_18 : decode cX6_began 18 = .ok (.ifCond .ne 6, 3) := by decide +kernel
theorem dX6_began_21 : decode cX6_began 21 = .ok (.bipush (-2), 2) := by decide +kernel
theorem dX6_began_23 : decode cX6_began 23 = .ok (.ireturn, 1) := by decide +kernel
theorem dX6_began_24 : decode cX6_began 24 = .ok (.aload_n 0, 1) := by decide +kernel
theorem dX6_began_25 : decode cX6_began 25 = .ok (.getfield 12, 3) := by decide +kernel
theorem dX6_began_28 : decode cX6_began 28 = .ok (.getfield 75, 3) := by decide +kernel
theorem dX6_began_31 : decode cX6_began 31 = .ok (.iload_n 1, 1) := by decide +kernel
theorem dX6_began_32 : decode cX6_began 32 = .ok (.aaload, 1) := by decide +kernel
theorem dX6_began_33 : decode cX6_began 33 = .ok (.astore_n 3, 1) := by decide +kernel
theorem dX6_began_34 : decode cX6_began 34 = .ok (.aload_n 3, 1) := by decide +kernel
theorem dX6_began_35 : decode cX6_began 35 = .ok (.getfield 90, 3) := by decide +kernel
theorem dX6_began_38 : decode cX6_began 38 = .ok (.istore 4, 2) := by decide +kernel
theorem dX6_began_40 : decode cX6_began 40 = .ok (.iconst 0, 1) := by decide +kernel
theorem dX6_began_41 : decode cX6_began 41 = .ok (.istore 5, 2) := by decide +kernel
theorem dX6_began_43 : decode cX6_began 43 = .ok (.bipush (-9), 2) := by decide +kernel
theorem dX6_began_45 : decode cX6_began 45 = .ok (.istore 6, 2) := by decide +kernel
theorem dX6_began_47 : decode cX6_began 47 = .ok (.bipush 79, 2) := by decide +kernel
theorem dX6_began_49 : decode cX6_began 49 = .ok (.istore 7, 2) := by decide +kernel
theorem dX6_began_51 : decode cX6_began 51 = .ok (.iload 7, 2) := by decide +kernel
theorem dX6_began_53 : decode cX6_began 53 = .ok (.ifCond .lt 36, 3) := by decide +kernel
theorem dX6_began_56 : decode cX6_began 56 = .ok (.aload_n 3, 1) := by decide +kernel
theorem dX6_began_57 : decode cX6_began 57 = .ok (.iload 7, 2) := by decide +kernel
theorem dX6_began_59 : decode cX6_began 59 = .ok (.putfield 90, 3) := by decide +kernel
theorem dX6_began_62 : decode cX6_began 62 = .ok (.aload_n 0, 1) := by decide +kernel
theorem dX6_began_63 : decode cX6_began 63 = .ok (.getfield 21, 3) := by decide +kernel
theorem dX6_began_66 : decode cX6_began 66 = .ok (.aload_n 0, 1) := by decide +kernel
theorem dX6_began_67 : decode cX6_began 67 = .ok (.getfield 12, 3) := by decide +kernel
theorem dX6_began_70 : decode cX6_began 70 = .ok (.invokevirtual 186, 3) := by decide +kernel
theorem dX6_began_73 : decode cX6_began 73 = .ok (.ifCond .eq 10, 3) := by decide +kernel
theorem dX6_began_76 : decode cX6_began 76 = .ok (.iinc 5 1, 3) := by decide +kernel
theorem dX6_began_79 : decode cX6_began 79 = .ok (.iload 7, 2) := by decide +kernel
theorem dX6_began_81 : decode cX6_began 81 = .ok (.istore 6, 2) := by decide +kernel
theorem dX6_began_83 : decode cX6_began 83 = .ok (.iinc 7 (-1), 3) := by decide +kernel
theorem dX6_began_86 : decode cX6_began 86 = .ok (.goto (-35), 3) := by decide +kernel
theorem dX6_began_89 : decode cX6_began 89 = .ok (.aload_n 3, 1) := by decide +kernel
theorem dX6_began_90 : decode cX6_began 90 = .ok (.iload 4, 2) := by decide +kernel
theorem dX6_began_92 : decode cX6_began 92 = .ok (.putfield 90, 3) := by decide +kernel
theorem dX6_began_95 : decode cX6_began 95 = .ok (.iload_n 2, 1) := by decide +kernel
theorem dX6_began_96 : decode cX6_began 96 = .ok (.ifCond .ne 8, 3) := by decide +kernel
theorem dX6_began_99 : decode cX6_began 99 = .ok (.iload 5, 2) := by decide +kernel
theorem dX6_began_101 : decode cX6_began 101 = .ok (.goto 5, 3) := by decide +kernel
theorem dX6_began_104 : decode cX6_began 104 = .ok (.iload 6, 2) := by decide +kernel
theorem dX6_began_106 : decode cX6_began 106 = .ok (.ireturn, 1) := by decide +kernel
theorem dX6_odds_0 : decode cX6_odds 0 = .ok (.aload_n 0, 1) := by decide +kernel
theorem dX6_odds_1 : decode cX6_odds 1 = .ok (.getfield 12, 3) := by decide +kernel
theorem dX6_odds_4 : decode cX6_odds 4 = .ok (.iload_n 1, 1) := by decide +kernel
theorem dX6_odds_5 : decode cX6_odds 5 = .ok (.invokevirtual 72, 3) := by decide +kernel
theorem dX6_odds_8 : decode cX6_odds 8 = .ok (.ifCond .eq 21, 3) := by decide +kernel
theorem dX6_odds_11 : decode cX6_odds 11 = .ok (.iload_n 2, 1) := by decide +kernel
theorem dX6_odds_12 : decode cX6_odds 12 = .ok (.sipush 199, 3) := by decide +kernel
theorem dX6_odds_15 : decode cX6_odds 15 = .ok (.invokestatic 106, 3) := by decide +kernel
theorem dX6_odds_18 : decode cX6_odds 18 = .ok (.ifCond .eq 11, 3) := by decide +kernel
theorem dX6_odds_21 : decode cX6_odds 21 = .ok (.iload_n 3, 1) := by decide +kernel
theorem dX6_odds_22 : decode cX6_odds 22 = .ok (.iconst 1, 1) := by decide +kernel
theorem dX6_odds_23 : decode cX6_odds 23 = .ok (.invokestatic 106, 3) := by decide +kernel
theorem dX6_odds_26 : decode cX6_odds 26 = .ok (.ifCond .ne 7, 3) := by decide +kernel
theorem dX6_odds_29 : decode cX6_odds 29 = .ok (.ldc2_w 190, 3) := by decide +kernel
theorem dX6_odds_32 : decode cX6_odds 32 = .ok (.lreturn, 1) := by decide +kernel
theorem dX6_odds_33 : decode cX6_odds 33 = .ok (.aload_n 0, 1) := by decide +kernel
theorem dX6_odds_34 : decode cX6_odds 34 = .ok (.getfield 12, 3) := by decide +kernel
theorem dX6_odds_37 : decode cX6_odds 37 = .ok (.getfield 75, 3) := by decide +kernel
theorem dX6_odds_40 : decode cX6_odds 40 = .ok (.iload_n 1, 1) := by decide +kernel
theorem dX6_odds_41 : decode cX6_odds 41 = .ok (.aaload, 1) := by decide +kernel
theorem dX6_odds_42 : decode cX6_odds 42 = .ok (.astore 4, 2) := by decide +kernel
theorem dX6_odds_44 : decode cX6_odds 44 = .ok (.iconst 0, 1) := by decide +kernel
theorem dX6_odds_45 : decode cX6_odds 45 = .ok (.istore 5, 2) := by decide +kernel
theorem dX6_odds_47 : decode cX6_odds 47 = .ok (.iconst 0, 1) := by decide +kernel
theorem dX6_odds_48 : decode cX6_odds 48 = .ok (.istore 6, 2) := by decide +kernel
theorem dX6_odds_50 : decode cX6_odds 50 = .ok (.iconst 0, 1) := by decide +kernel
theorem dX6_odds_51 : decode cX6_odds 51 = .ok (.istore 7, 2) := by decide +kernel
theorem dX6_odds_53 : decode cX6_odds 53 = .ok (.iload 7, 2) := by decide +kernel
theorem dX6_odds_55 : decode cX6_odds 55 = .ok (.aload 4, 2) := by decide +kernel
theorem dX6_odds_57 : decode cX6_odds 57 = .ok (.invokevirtual 96, 3) := by decide +kernel
theorem dX6_odds_60 : decode cX6_odds 60 = .ok (.if_icmp .gt 47, 3) := by decide +kernel
theorem dX6_odds_63 : decode cX6_odds 63 = .ok (.aload 4, 2) := by decide +kernel
theorem dX6_odds_65 : decode cX6_odds 65 = .ok (.iload 7, 2) := by decide +kernel
theorem dX6_odds_67 : decode cX6_odds 67 = .ok (.invokevirtual 120, 3) := by decide +kernel
theorem dX6_odds_70 : decode cX6_odds 70 = .ok (.ifCond .eq 31, 3) := by decide +kernel
theorem dX6_odds_73 : decode cX6_odds 73 = .ok (.iinc 6 1, 3) := by decide +kernel
theorem dX6_odds_76 : decode cX6_odds 76 = .ok (.iload 5, 2) := by decide +kernel
theorem dX6_odds_78 : decode cX6_odds 78 = .ok (.aload_n 0, 1) := by decide +kernel
theorem dX6_odds_79 : decode cX6_odds 79 = .ok (.getfield 12, 3) := by decide +kernel
theorem dX6_odds_82 : decode cX6_odds 82 = .ok (.aload 4, 2) := by decide +kernel
theorem dX6_odds_84 : decode cX6_odds 84 = .ok (.iload 7, 2) := by decide +kernel
theorem dX6_odds_86 : decode cX6_odds 86 = .ok (.invokevirtual 123, 3) := by decide +kernel
theorem dX6_odds_89 : decode cX6_odds 89 = .ok (.iload_n 2, 1) := by decide +kernel
theorem dX6_odds_90 : decode cX6_odds 90 = .ok (.if_icmp .lt 7, 3) := by decide +kernel
theorem dX6_odds_93 : decode cX6_odds 93 = .ok (.iconst 1, 1) := by decide +kernel
theorem dX6_odds_94 : decode cX6_odds 94 = .ok (.goto 4, 3) := by decide +kernel
theorem dX6_odds_97 : decode cX6_odds 97 = .ok (.iconst 0, 1) := by decide +kernel
theorem dX6_odds_98 : decode cX6_odds 98 = .ok (.iadd, 1) := by decide +kernel
theorem dX6_odds_99 : decode cX6_odds 99 = .ok (.istore 5, 2) := by decide +kernel
theorem dX6_odds_101 : decode cX6_odds 101 = .ok (.iinc 7 1, 3) := by decide +kernel
theorem dX6_odds_104 : decode cX6_odds 104 = .ok (.goto (-51), 3) := by decide +kernel
theorem dX6_odds_107 : decode cX6_odds 107 = .ok (.iconst 0, 1) := by decide +kernel
theorem dX6_odds_108 : decode cX6_odds 108 = .ok (.istore 7, 2) := by decide +kernel
theorem dX6_odds_110 : decode cX6_odds 110 = .ok (.iload 7, 2) := by decide +kernel
theorem dX6_odds_112 : decode cX6_odds 112 = .ok (.iconst 5, 1) := by decide +kernel
theorem dX6_odds_113 : decode cX6_odds 113 = .ok (.if_icmp .ge 34, 3) := by decide +kernel
theorem dX6_odds_116 : decode cX6_odds 116 = .ok (.iload 6, 2) := by decide +kernel
theorem dX6_odds_118 : decode cX6_odds 118 = .ok (.iconst 1, 1) := by decide +kernel
theorem dX6_odds_119 : decode cX6_odds 119 = .ok (.if_icmp .le 28, 3) := by decide +kernel
theorem dX6_odds_122 : decode cX6_odds 122 = .ok (.iload 5, 2) := by decide +kernel
theorem dX6_odds_124 : decode cX6_odds 124 = .ok (.iconst 2, 1) := by decide +kernel
theorem dX6_odds_125 : decode cX6_odds 125 = .ok (.irem, 1) := by decide +kernel
theorem dX6_odds_126 : decode cX6_odds 126 = .ok (.ifCond .ne 21, 3) := by decide +kernel
theorem dX6_odds_129 : decode cX6_odds 129 = .ok (.iload 6, 2) := by decide +kernel
theorem dX6_odds_131 : decode cX6_odds 131 = .ok (.iconst 2, 1) := by decide +kernel
theorem dX6_odds_132 : decode cX6_odds 132 = .ok (.idiv, 1) := by decide +kernel
theorem dX6_odds_133 : decode cX6_odds 133 = .ok (.istore 6, 2) := by decide +kernel
theorem dX6_odds_135 : decode cX6_odds 135 = .ok (.iload 5, 2) := by decide +kernel
theorem dX6_odds_137 : decode cX6_odds 137 = .ok (.iconst 2, 1) := by decide +kernel
theorem dX6_odds_138 : decode cX6_odds 138 = .ok (.idiv, 1) := by decide +kernel
theorem dX6_odds_139 : decode cX6_odds 139 = .ok (.istore 5, 2) := by decide +kernel
theorem dX6_odds_141 : decode cX6_odds 141 = .ok (.iinc 7 1, 3) := by decide +kernel
theorem dX6_odds_144 : decode cX6_odds 144 = .ok (.goto (-34), 3) := by decide +kernel
theorem dX6_odds_147 : decode cX6_odds 147 = .ok (.iload_n 3, 1) := by decide +kernel
theorem dX6_odds_148 : decode cX6_odds 148 = .ok (.ifCond .ne 9, 3) := by decide +kernel
theorem dX6_odds_151 : decode cX6_odds 151 = .ok (.iload 5, 2) := by decide +kernel
theorem dX6_odds_153 : decode cX6_odds 153 = .ok (.i2l, 1) := by decide +kernel
theorem dX6_odds_154 : decode cX6_odds 154 = .ok (.goto 6, 3) := by decide +kernel
theorem dX6_odds_157 : decode cX6_odds 157 = .ok (.iload 6, 2) := by decide +kernel
theorem dX6_odds_159 : decode cX6_odds 159 = .ok (.i2l, 1) := by decide +kernel
theorem dX6_odds_160 : decode cX6_odds 160 = .ok (.lreturn, 1) := by decide +kernel
theorem dX6_sheet_0 : decode cX6_sheet 0 = .ok (.aload_n 0, 1) := by decide +kernel
theorem dX6_sheet_1 : decode cX6_sheet 1 = .ok (.iconst 0, 1) := by decide +kernel
theorem dX6_sheet_2 : decode cX6_sheet 2 = .ok (.putfield 39, 3) := by decide +kernel
theorem dX6_sheet_5 : decode cX6_sheet 5 = .ok (.iload_n 1, 1) := by decide +kernel
theorem dX6_sheet_6 : decode cX6_sheet 6 = .ok (.invokestatic 43, 3) := by decide +kernel
theorem dX6_sheet_9 : decode cX6_sheet 9 = .ok (.ifCond .ne 5, 3) := by decide +kernel
theorem dX6_sheet_12 : decode cX6_sheet 12 = .ok (.iconst (-1), 1) := by decide +kernel
theorem dX6_sheet_13 : decode cX6_sheet 13 = .ok (.ireturn, 1) := by decide +kernel
theorem dX6_sheet_14 : decode cX6_sheet 14 = .ok (.iload_n 2, 1) := by decide +kernel
theorem dX6_sheet_15 : decode cX6_sheet 15 = .ok (.invokestatic 47, 3) := by decide +kernel
theorem dX6_sheet_18 : decode cX6_sheet 18 = .ok (.ifCond .eq 9, 3) := by decide +kernel
theorem dX6_sheet_21 : decode cX6_sheet 21 = .ok (.iload_n 3, 1) := by decide +kernel
theorem dX6_sheet_22 : decode cX6_sheet 22 = .ok (.bipush 60, 2) := by decide +kernel
theorem dX6_sheet_24 : decode cX6_sheet 24 = .ok (.if_icmp .le 6, 3) := by decide +kernel
theorem dX6_sheet_27 : decode cX6_sheet 27 = .ok (.bipush (-2), 2) := by decide +kernel
theorem dX6_sheet_29 : decode cX6_sheet 29 = .ok (.ireturn, 1) := by decide +kernel
theorem dX6_sheet_30 : decode cX6_sheet 30 = .ok (.iload_n 3, 1) := by decide +kernel
theorem dX6_sheet_31 : decode cX6_sheet 31 = .ok (.ifCond .ge 9, 3) := by decide +kernel
theorem dX6_sheet_34 : decode cX6_sheet 34 = .ok (.aload_n 0, 1) := by decide +kernel
theorem dX6_sheet_35 : decode cX6_sheet 35 = .ok (.iconst 4, 1) := by decide +kernel
theorem dX6_sheet_36 : decode cX6_sheet 36 = .ok (.invokevirtual 54, 3) := by decide +kernel
theorem dX6_sheet_39 : decode cX6_sheet 39 = .ok (.ireturn, 1) := by decide +kernel
theorem dX6_sheet_40 : decode cX6_sheet 40 = .ok (.aload_n 0, 1) := by decide +kernel
theorem dX6_sheet_41 : decode cX6_sheet 41 = .ok (.getfield 27, 3) := by decide +kernel
theorem dX6_sheet_44 : decode cX6_sheet 44 = .ok (.iload_n 1, 1) := by decide +kernel
theorem dX6_sheet_45 : decode cX6_sheet 45 = .ok (.aaload, 1) := by decide +kernel
theorem dX6_sheet_46 : decode cX6_sheet 46 = .ok (.iload_n 2, 1) := by decide +kernel
theorem dX6_sheet_47 : decode cX6_sheet 47 = .ok (.iload_n 3, 1) := by decide +kernel
theorem dX6_sheet_48 : decode cX6_sheet 48 = .ok (.invokevirtual 192, 3) := by decide +kernel
theorem dX6_sheet_51 : decode cX6_sheet 51 = .ok (.iconst 1, 1) := by decide +kernel
theorem dX6_sheet_52 : decode cX6_sheet 52 = .ok (.ireturn, 1) := by decide +kernel
theorem dX6_lose_0 : decode cX6_lose 0 = .ok (.iload_n 1, 1) := by decide +kernel
theorem dX6_lose_1 : decode cX6_lose 1 = .ok (.invokestatic 43, 3) := by decide +kernel
theorem dX6_lose_4 : decode cX6_lose 4 = .ok (.ifCond .ne 5, 3) := by decide +kernel
theorem dX6_lose_7 : decode cX6_lose 7 = .ok (.iconst (-1), 1) := by decide +kernel
theorem dX6_lose_8 : decode cX6_lose 8 = .ok (.ireturn, 1) := by decide +kernel
theorem dX6_lose_9 : decode cX6_lose 9 = .ok (.aload_n 0, 1) := by decide +kernel
theorem dX6_lose_10 : decode cX6_lose 10 = .ok (.getfield 27, 3) := by decide +kernel
theorem dX6_lose_13 : decode cX6_lose 13 = .ok (.iload_n 1, 1) := by decide +kernel
theorem dX6_lose_14 : decode cX6_lose 14 = .ok (.aaload, 1) := by decide +kernel
theorem dX6_lose_15 : decode cX6_lose 15 = .ok (.invokevirtual 196, 3) := by decide +kernel
theorem dX6_lose_18 : decode cX6_lose 18 = .ok (.ifCond .ne 5, 3) := by decide +kernel
theorem dX6_lose_21 : decode cX6_lose 21 = .ok (.iconst 0, 1) := by decide +kernel
theorem dX6_lose_22 : decode cX6_lose 22 = .ok (.ireturn, 1) := by decide +kernel
theorem dX6_lose_23 : decode cX6_lose 23 = .ok (.aload_n 0, 1) := by decide +kernel
theorem dX6_lose_24 : decode cX6_lose 24 = .ok (.getfield 27, 3) := by decide +kernel
theorem dX6_lose_27 : decode cX6_lose 27 = .ok (.iload_n 1, 1) := by decide +kernel
theorem dX6_lose_28 : decode cX6_lose 28 = .ok (.aaload, 1) := by decide +kernel
theorem dX6_lose_29 : decode cX6_lose 29 = .ok (.invokevirtual 199, 3) := by decide +kernel
theorem dX6_lose_32 : decode cX6_lose 32 = .ok (.iconst 1, 1) := by decide +kernel
theorem dX6_lose_33 : decode cX6_lose 33 = .ok (.ireturn, 1) := by decide +kernel
theorem dX6_put_0 : decode cX6_put 0 = .ok (.aload_n 0, 1) := by decide +kernel
theorem dX6_put_1 : decode cX6_put 1 = .ok (.iconst 0, 1) := by decide +kernel
theorem dX6_put_2 : decode cX6_put 2 = .ok (.putfield 39, 3) := by decide +kernel
theorem dX6_put_5 : decode cX6_put 5 = .ok (.iload_n 1, 1) := by decide +kernel
theorem dX6_put_6 : decode cX6_put 6 = .ok (.invokestatic 43, 3) := by decide +kernel
theorem dX6_put_9 : decode cX6_put 9 = .ok (.ifCond .ne 5, 3) := by decide +kernel
theorem dX6_put_12 : decode cX6_put 12 = .ok (.iconst (-1), 1) := by decide +kernel
theorem dX6_put_13 : decode cX6_put 13 = .ok (.ireturn, 1) := by decide +kernel
theorem dX6_put_14 : decode cX6_put 14 = .ok (.aload_n 0, 1) := by decide +kernel
theorem dX6_put_15 : decode cX6_put 15 = .ok (.getfield 27, 3) := by decide +kernel
theorem dX6_put_18 : decode cX6_put 18 = .ok (.iload_n 1, 1) := by decide +kernel
theorem dX6_put_19 : decode cX6_put 19 = .ok (.aaload, 1) := by decide +kernel
theorem dX6_put_20 : decode cX6_put 20 = .ok (.astore 4, 2) := by decide +kernel
theorem dX6_put_22 : decode cX6_put 22 = .ok (.aload 4, 2) := by decide +kernel
theorem dX6_put_24 : decode cX6_put 24 = .ok (.invokevirtual 196, 3) := by decide +kernel
theorem dX6_put_27 : decode cX6_put 27 = .ok (.ifCond .ne 9, 3) := by decide +kernel
theorem dX6_put_30 : decode cX6_put 30 = .ok (.aload_n 0, 1) := by decide +kernel
theorem dX6_put_31 : decode cX6_put 31 = .ok (.iconst 1, 1) := by decide +kernel
theorem dX6_put_32 : decode cX6_put 32 = .ok (.invokevirtual 54, 3) := by decide +kernel
theorem dX6_put_35 : decode cX6_put 35 = .ok (.ireturn, 1) := by decide +kernel
theorem dX6_put_36 : decode cX6_put 36 = .ok (.aload 4, 2) := by decide +kernel
theorem dX6_put_38 : decode cX6_put 38 = .ok (.iload_n 2, 1) := by decide +kernel
theorem dX6_put_39 : decode cX6_put 39 = .ok (.invokevirtual 202, 3) := by decide +kernel
theorem dX6_put_42 : decode cX6_put 42 = .ok (.ifCond .ne 9, 3) := by decide +kernel
theorem dX6_put_45 : decode cX6_put 45 = .ok (.aload_n 0, 1) := by decide +kernel
theorem dX6_put_46 : decode cX6_put 46 = .ok (.iconst 3, 1) := by decide +kernel
theorem dX6_put_47 : decode cX6_put 47 = .ok (.invokevirtual 54, 3) := by decide +kernel
theorem dX6_put_50 : decode cX6_put 50 = .ok (.ireturn, 1) := by decide +kernel
theorem dX6_put_51 : decode cX6_put 51 = .ok (.aload 4, 2) := by decide +kernel
theorem dX6_put_53 : decode cX6_put 53 = .ok (.iload_n 2, 1) := by decide +kernel
theorem dX6_put_54 : decode cX6_put 54 = .ok (.iload_n 3, 1) := by decide +kernel
theorem dX6_put_55 : decode cX6_put 55 = .ok (.invokevirtual 205, 3) := by decide +kernel
theorem dX6_put_58 : decode cX6_put 58 = .ok (.iconst 1, 1) := by decide +kernel
theorem dX6_put_59 : decode cX6_put 59 = .ok (.ireturn, 1) := by decide +kernel
theorem dX6_cell_0 : decode cX6_cell 0 = .ok (.aload_n 0, 1) := by decide +kernel
theorem dX6_cell_1 : decode cX6_cell 1 = .ok (.iconst 0, 1) := by decide +kernel
theorem dX6_cell_2 : decode cX6_cell 2 = .ok (.putfield 39, 3) := by decide +kernel
theorem dX6_cell_5 : decode cX6_cell 5 = .ok (.iload_n 1, 1) := by decide +kernel
theorem dX6_cell_6 : decode cX6_cell 6 = .ok (.invokestatic 43, 3) := by decide +kernel
theorem dX6_cell_9 : decode cX6_cell 9 = .ok (.ifCond .eq 10, 3) := by decide +kernel
theorem dX6_cell_12 : decode cX6_cell 12 = .ok (.iload_n 3, 1) := by decide +kernel
theorem dX6_cell_13 : decode cX6_cell 13 = .ok (.invokestatic 47, 3) := by decide +kernel
theorem dX6_cell_16 : decode cX6_cell 16 = .ok (.ifCond .ne 7, 3) := by decide +kernel
theorem dX6_cell_19 : decode cX6_cell 19 = .ok (.ldc2_w 190, 3) := by decide +kernel
theorem dX6_cell_22 : decode cX6_cell 22 = .ok (.lreturn, 1) := by decide +kernel
theorem dX6_cell_23 : decode cX6_cell 23 = .ok (.aload_n 0, 1) := by decide +kernel
theorem dX6_cell_24 : decode cX6_cell 24 = .ok (.getfield 27, 3) := by decide +kernel
theorem dX6_cell_27 : decode cX6_cell 27 = .ok (.iload_n 1, 1) := by decide +kernel
theorem dX6_cell_28 : decode cX6_cell 28 = .ok (.aaload, 1) := by decide +kernel
theorem dX6_cell_29 : decode cX6_cell 29 = .ok (.astore 4, 2) := by decide +kernel
theorem dX6_cell_31 : decode cX6_cell 31 = .ok (.aload_n 0, 1) := by decide +kernel
theorem dX6_cell_32 : decode cX6_cell 32 = .ok (.aload 4, 2) := by decide +kernel
theorem dX6_cell_34 : decode cX6_cell 34 = .ok (.iload_n 3, 1) := by decide +kernel
theorem dX6_cell_35 : decode cX6_cell 35 = .ok (.invokevirtual 208, 3) := by decide +kernel
theorem dX6_cell_38 : decode cX6_cell 38 = .ok (.putfield 39, 3) := by decide +kernel
theorem dX6_cell_41 : decode cX6_cell 41 = .ok (.aload_n 0, 1) := by decide +kernel
theorem dX6_cell_42 : decode cX6_cell 42 = .ok (.getfield 39, 3) := by decide +kernel
theorem dX6_cell_45 : decode cX6_cell 45 = .ok (.ifCond .ne 17, 3) := by decide +kernel
theorem dX6_cell_48 : decode cX6_cell 48 = .ok (.aload 4, 2) := by decide +kernel
theorem dX6_cell_50 : decode cX6_cell 50 = .ok (.iload_n 2, 1) := by decide +kernel
theorem dX6_cell_51 : decode cX6_cell 51 = .ok (.invokevirtual 202, 3) := by decide +kernel
theorem dX6_cell_54 : decode cX6_cell 54 = .ok (.ifCond .ne 8, 3) := by decide +kernel
theorem dX6_cell_57 : decode cX6_cell 57 = .ok (.aload_n 0, 1) := by decide +kernel
theorem dX6_cell_58 : decode cX6_cell 58 = .ok (.iconst 3, 1) := by decide +kernel
theorem dX6_cell_59 : decode cX6_cell 59 = .ok (.putfield 39, 3) := by decide +kernel
theorem dX6_cell_62 : decode cX6_cell 62 = .ok (.aload_n 0, 1) := by decide +kernel
theorem dX6_cell_63 : decode cX6_cell 63 = .ok (.getfield 39, 3) := by decide +kernel
theorem dX6_cell_66 : decode cX6_cell 66 = .ok (.ifCond .ne 13, 3) := by decide +kernel
theorem dX6_cell_69 : decode cX6_cell 69 = .ok (.aload 4, 2) := by decide +kernel
theorem dX6_cell_71 : decode cX6_cell 71 = .ok (.iload_n 2, 1) := by decide +kernel
theorem dX6_cell_72 : decode cX6_cell 72 = .ok (.invokevirtual 137, 3) := by decide +kernel
theorem dX6_cell_75 : decode cX6_cell 75 = .ok (.i2l, 1) := by decide +kernel
theorem dX6_cell_76 : decode cX6_cell 76 = .ok (.goto 6, 3) := by decide +kernel
theorem dX6_cell_79 : decode cX6_cell 79 = .ok (.ldc2_w 190, 3) := by decide +kernel
theorem dX6_cell_82 : decode cX6_cell 82 = .ok (.lreturn, 1) := by decide +kernel
theorem dX6_copy_0 : decode cX6_copy 0 = .ok (.aload_n 0, 1) := by decide +kernel
theorem dX6_copy_1 : decode cX6_copy 1 = .ok (.iconst 0, 1) := by decide +kernel
theorem dX6_copy_2 : decode cX6_copy 2 = .ok (.putfield 39, 3) := by decide +kernel
theorem dX6_copy_5 : decode cX6_copy 5 = .ok (.iload_n 1, 1) := by decide +kernel
theorem dX6_copy_6 : decode cX6_copy 6 = .ok (.invokestatic 43, 3) := by decide +kernel
theorem dX6_copy_9 : decode cX6_copy 9 = .ok (.ifCond .eq 10, 3) := by decide +kernel
theorem dX6_copy_12 : decode cX6_copy 12 = .ok (.iload_n 3, 1) := by decide +kernel
theorem dX6_copy_13 : decode cX6_copy 13 = .ok (.invokestatic 43, 3) := by decide +kernel
theorem dX6_copy_16 : decode cX6_copy 16 = .ok (.ifCond .ne 5, 3) := by decide +kernel
theorem dX6_copy_19 : decode cX6_copy 19 = .ok (.iconst (-1), 1) := by decide +kernel
theorem dX6_copy_20 : decode cX6_copy 20 = .ok (.ireturn, 1) := by decide +kernel
theorem dX6_copy_21 : decode cX6_copy 21 = .ok (.aload_n 0, 1) := by decide +kernel
theorem dX6_copy_22 : decode cX6_copy 22 = .ok (.getfield 27, 3) := by decide +kernel
theorem dX6_copy_25 : decode cX6_copy 25 = .ok (.iload_n 1, 1) := by decide +kernel
theorem dX6_copy_26 : decode cX6_copy 26 = .ok (.aaload, 1) := by decide +kernel
theorem dX6_copy_27 : decode cX6_copy 27 = .ok (.astore 6, 2) := by decide +kernel
theorem dX6_copy_29 : decode cX6_copy 29 = .ok (.aload_n 0, 1) := by decide +kernel
theorem dX6_copy_30 : decode cX6_copy 30 = .ok (.getfield 27, 3) := by decide +kernel
theorem dX6_copy_33 : decode cX6_copy 33 = .ok (.iload_n 3, 1) := by decide +kernel
theorem dX6_copy_34 : decode cX6_copy 34 = .ok (.aaload, 1) := by decide +kernel
theorem dX6_copy_35 : decode cX6_copy 35 = .ok (.astore 7, 2) := by decide +kernel
theorem dX6_copy_37 : decode cX6_copy 37 = .ok (.aload 6, 2) := by decide +kernel
theorem dX6_copy_39 : decode cX6_copy 39 = .ok (.invokevirtual 196, 3) := by decide +kernel
theorem dX6_copy_42 : decode cX6_copy 42 = .ok (.ifCond .eq 11, 3) := by decide +kernel
theorem dX6_copy_45 : decode cX6_copy 45 = .ok (.aload 7, 2) := by decide +kernel
theorem dX6_copy_47 : decode cX6_copy 47 = .ok (.invokevirtual 196, 3) := by decide +kernel
theorem dX6_copy_50 : decode cX6_copy 50 = .ok (.ifCond .ne 9, 3) := by decide +kernel
theorem dX6_copy_53 : decode cX6_copy 53 = .ok (.aload_n 0, 1) := by decide +kernel
theorem dX6_copy_54 : decode cX6_copy 54 = .ok (.iconst 1, 1) := by decide +kernel
theorem dX6_copy_55 : decode cX6_copy 55 = .ok (.invokevirtual 54, 3) := by decide +kernel
theorem dX6_copy_58 : decode cX6_copy 58 = .ok (.ireturn, 1) := by decide +kernel
theorem dX6_copy_59 : decode cX6_copy 59 = .ok (.aload 6, 2) := by decide +kernel
theorem dX6_copy_61 : decode cX6_copy 61 = .ok (.getfield 211, 3) := by decide +kernel
theorem dX6_copy_64 : decode cX6_copy 64 = .ok (.aload 7, 2) := by decide +kernel
theorem dX6_copy_66 : decode cX6_copy 66 = .ok (.getfield 211, 3) := by decide +kernel
theorem dX6_copy_69 : decode cX6_copy 69 = .ok (.if_icmp .eq 9, 3) := by decide +kernel
theorem dX6_copy_72 : decode cX6_copy 72 = .ok (.aload_n 0, 1) := by decide +kernel
theorem dX6_copy_73 : decode cX6_copy 73 = .ok (.iconst 2, 1) := by decide +kernel
theorem dX6_copy_74 : decode cX6_copy 74 = .ok (.invokevirtual 54, 3) := by decide +kernel
theorem dX6_copy_77 : decode cX6_copy 77 = .ok (.ireturn, 1) := by decide +kernel
theorem dX6_copy_78 : decode cX6_copy 78 = .ok (.aload 6, 2) := by decide +kernel
theorem dX6_copy_80 : decode cX6_copy 80 = .ok (.iload_n 2, 1) := by decide +kernel
theorem dX6_copy_81 : decode cX6_copy 81 = .ok (.iload 5, 2) := by decide +kernel
theorem dX6_copy_83 : decode cX6_copy 83 = .ok (.invokevirtual 214, 3) := by decide +kernel
theorem dX6_copy_86 : decode cX6_copy 86 = .ok (.ifCond .eq 15, 3) := by decide +kernel
theorem dX6_copy_89 : decode cX6_copy 89 = .ok (.aload 7, 2) := by decide +kernel
theorem dX6_copy_91 : decode cX6_copy 91 = .ok (.iload 4, 2) := by decide +kernel
theorem dX6_copy_93 : decode cX6_copy 93 = .ok (.iload 5, 2) := by decide +kernel
theorem dX6_copy_95 : decode cX6_copy 95 = .ok (.invokevirtual 214, 3) := by decide +kernel
theorem dX6_copy_98 : decode cX6_copy 98 = .ok (.ifCond .ne 9, 3) := by decide +kernel
theorem dX6_copy_101 : decode cX6_copy 101 = .ok (.aload_n 0, 1) := by decide +kernel
theorem dX6_copy_102 : decode cX6_copy 102 = .ok (.iconst 3, 1) := by decide +kernel
theorem dX6_copy_103 : decode cX6_copy 103 = .ok (.invokevirtual 54, 3) := by decide +kernel
theorem dX6_copy_106 : decode cX6_copy 106 = .ok (.ireturn, 1) := by decide +kernel
theorem dX6_copy_107 : decode cX6_copy 107 = .ok (.aload 6, 2) := by decide +kernel
theorem dX6_copy_109 : decode cX6_copy 109 = .ok (.getfield 217, 3) := by decide +kernel
theorem dX6_copy_112 : decode cX6_copy 112 = .ok (.iload_n 2, 1) := by decide +kernel
theorem dX6_copy_113 : decode cX6_copy 113 = .ok (.aload 7, 2) := by decide +kernel
theorem dX6_copy_115 : decode cX6_copy 115 = .ok (.getfield 217, 3) := by decide +kernel
theorem dX6_copy_118 : decode cX6_copy 118 = .ok (.iload 4, 2) := by decide +kernel
theorem dX6_copy_120 : decode cX6_copy 120 = .ok (.iload 5, 2) := by decide +kernel
theorem dX6_copy_122 : decode cX6_copy 122 = .ok (.invokestatic 220, 3) := by decide +kernel
theorem dX6_copy_125 : decode cX6_copy 125 = .ok (.iload 5, 2) := by decide +kernel
theorem dX6_copy_127 : decode cX6_copy 127 = .ok (.ireturn, 1) := by decide +kernel
theorem dX6_tell_0 : decode cX6_tell 0 = .ok (.aload_n 0, 1) := by decide +kernel
theorem dX6_tell_1 : decode cX6_tell 1 = .ok (.getfield 12, 3) := by decide +kernel
theorem dX6_tell_4 : decode cX6_tell 4 = .ok (.iload_n 1, 1) := by decide +kernel
theorem dX6_tell_5 : decode cX6_tell 5 = .ok (.invokevirtual 72, 3) := by decide +kernel
theorem dX6_tell_8 : decode cX6_tell 8 = .ok (.ifCond .ne 5, 3) := by decide +kernel
theorem dX6_tell_11 : decode cX6_tell 11 = .ok (.iconst (-1), 1) := by decide +kernel
theorem dX6_tell_12 : decode cX6_tell 12 = .ok (.ireturn, 1) := by decide +kernel
theorem dX6_tell_13 : decode cX6_tell 13 = .ok (.aload_n 0, 1) := by decide +kernel
theorem dX6_tell_14 : decode cX6_tell 14 = .ok (.getfield 12, 3) := by decide +kernel
theorem dX6_tell_17 : decode cX6_tell 17 = .ok (.getfield 75, 3) := by decide +kernel
theorem dX6_tell_20 : decode cX6_tell 20 = .ok (.iload_n 1, 1) := by decide +kernel
theorem dX6_tell_21 : decode cX6_tell 21 = .ok (.aaload, 1) := by decide +kernel
theorem dX6_tell_22 : decode cX6_tell 22 = .ok (.astore_n 2, 1) := by decide +kernel
theorem dX6_tell_23 : decode cX6_tell 23 = .ok (.aload_n 2, 1) := by decide +kernel
theorem dX6_tell_24 : decode cX6_tell 24 = .ok (.getfield 79, 3) := by decide +kernel
theorem dX6_tell_27 : decode cX6_tell 27 = .ok (.lookupswitch 37 #[(0, 25), (1, 31)], 25) := by decide +kernel
theorem dX6_tell_52 : decode cX6_tell 52 = .ok (.aload_n 0, 1) := by decide +kernel
theorem dX6_tell_53 : decode cX6_tell 53 = .ok (.aload_n 2, 1) := by decide +kernel
theorem dX6_tell_54 : decode cX6_tell 54 = .ok (.invokevirtual 226, 3) := by decide +kernel
theorem dX6_tell_57 : decode cX6_tell 57 = .ok (.ireturn, 1) := by decide +kernel
theorem dX6_tell_58 : decode cX6_tell 58 = .ok (.aload_n 0, 1) := by decide +kernel
theorem dX6_tell_59 : decode cX6_tell 59 = .ok (.aload_n 2, 1) := by decide +kernel
theorem dX6_tell_60 : decode cX6_tell 60 = .ok (.invokevirtual 230, 3) := by decide +kernel
theorem dX6_tell_63 : decode cX6_tell 63 = .ok (.ireturn, 1) := by decide +kernel
theorem dX6_tell_64 : decode cX6_tell 64 = .ok (.aload_n 0, 1) := by decide +kernel
theorem dX6_tell_65 : decode cX6_tell 65 = .ok (.aload_n 2, 1) := by decide +kernel
theorem dX6_tell_66 : decode cX6_tell 66 = .ok (.invokevirtual 233, 3) := by decide +kernel
theorem dX6_tell_69 : decode cX6_tell 69 = .ok (.ireturn, 1) := by decide +kernel
theorem dX6_ring_0 : decode cX6_ring 0 = .ok (.aload_n 0, 1) := by decide +kernel
theorem dX6_ring_1 : decode cX6_ring 1 = .ok (.getfield 12, 3) := by decide +kernel
theorem dX6_ring_4 : decode cX6_ring 4 = .ok (.iload_n 1, 1) := by decide +kernel
theorem dX6_ring_5 : decode cX6_ring 5 = .ok (.invokevirtual 72, 3) := by decide +kernel
theorem dX6_ring_8 : decode cX6_ring 8 = .ok (.ifCond .ne 5, 3) := by decide +kernel
theorem dX6_ring_11 : decode cX6_ring 11 = .ok (.iconst (-1), 1) := by decide +kernel
theorem dX6_ring_12 : decode cX6_ring 12 = .ok (.ireturn, 1) := by decide +kernel
theorem dX6_ring_13 : decode cX6_ring 13 = .ok (.aload_n 0, 1) := by decide +kernel
theorem dX6_ring_14 : decode cX6_ring 14 = .ok (.getfield 12, 3) := by decide +kernel
theorem dX6_ring_17 : decode cX6_ring 17 = .ok (.getfield 75, 3) := by decide +kernel
theorem dX6_ring_20 : decode cX6_ring 20 = .ok (.iload_n 1, 1) := by decide +kernel
theorem dX6_ring_21 : decode cX6_ring 21 = .ok (.aaload, 1) := by decide +kernel
theorem dX6_ring_22 : decode cX6_ring 22 = .ok (.getfield 79, 3) := by decide +kernel
theorem dX6_ring_25 : decode cX6_ring 25 = .ok (.iconst 2, 1) := by decide +kernel
theorem dX6_ring_26 : decode cX6_ring 26 = .ok (.if_icmp .ne 11, 3) := by decide +kernel
theorem dX6_ring_29 : decode cX6_ring 29 = .ok (.aload_n 0, 1) := by decide +kernel
theorem dX6_ring_30 : decode cX6_ring 30 = .ok (.iconst 5, 1) := by decide +kernel
theorem dX6_ring_31 : decode cX6_ring 31 = .ok (.invokevirtual 236, 3) := by decide +kernel
theorem dX6_ring_34 : decode cX6_ring 34 = .ok (.bipush 60, 2) := by decide +kernel
theorem dX6_ring_36 : decode cX6_ring 36 = .ok (.ireturn, 1) := by decide +kernel
theorem dX6_ring_37 : decode cX6_ring 37 = .ok (.aload_n 0, 1) := by decide +kernel
theorem dX6_ring_38 : decode cX6_ring 38 = .ok (.iconst 4, 1) := by decide +kernel
theorem dX6_ring_39 : decode cX6_ring 39 = .ok (.invokevirtual 236, 3) := by decide +kernel
theorem dX6_ring_42 : decode cX6_ring 42 = .ok (.iload_n 1, 1) := by decide +kernel
theorem dX6_ring_43 : decode cX6_ring 43 = .ok (.ireturn, 1) := by decide +kernel
theorem dX6_as_0 : decode cX6_as 0 = .ok (.aload_n 0, 1) := by decide +kernel
theorem dX6_as_1 : decode cX6_as 1 = .ok (.iconst 0, 1) := by decide +kernel
theorem dX6_as_2 : decode cX6_as 2 = .ok (.putfield 39, 3) := by decide +kernel
theorem dX6_as_5 : decode cX6_as 5 = .ok (.aload_n 0, 1) := by decide +kernel
theorem dX6_as_6 : decode cX6_as 6 = .ok (.getfield 12, 3) := by decide +kernel
theorem dX6_as_9 : decode cX6_as 9 = .ok (.iload_n 1, 1) := by decide +kernel
theorem dX6_as_10 : decode cX6_as 10 = .ok (.invokevirtual 72, 3) := by decide +kernel
theorem dX6_as_13 : decode cX6_as 13 = .ok (.ifCond .ne 5, 3) := by decide +kernel
theorem dX6_as_16 : decode cX6_as 16 = .ok (.iconst (-1), 1) := by decide +kernel
theorem dX6_as_17 : decode cX6_as 17 = .ok (.ireturn, 1) := by decide +kernel
theorem dX6_as_18 : decode cX6_as 18 = .ok (.iload_n 2, 1) := by decide +kernel
theorem dX6_as_19 : decode cX6_as 19 = .ok (.iconst 2, 1) := by decide +kernel
theorem dX6_as_20 : decode cX6_as 20 = .ok (.invokestatic 106, 3) := by decide +kernel
theorem dX6_as_23 : decode cX6_as 23 = .ok (.ifCond .ne 6, 3) := by decide +kernel
theorem dX6_as_26 : decode cX6_as 26 = .ok (.bipush (-2), 2) := by decide +kernel
theorem dX6_as_28 : decode cX6_as 28 = .ok (.ireturn, 1) := by decide +kernel
theorem dX6_as_29 : decode cX6_as 29 = .ok (.aload_n 0, 1) := by decide +kernel
theorem dX6_as_30 : decode cX6_as 30 = .ok (.getfield 12, 3) := by decide +kernel
theorem dX6_as_33 : decode cX6_as 33 = .ok (.getfield 75, 3) := by decide +kernel
theorem dX6_as_36 : decode cX6_as 36 = .ok (.iload_n 1, 1) := by decide +kernel
theorem dX6_as_37 : decode cX6_as 37 = .ok (.aaload, 1) := by decide +kernel
theorem dX6_as_38 : decode cX6_as 38 = .ok (.getfield 79, 3) := by decide +kernel
theorem dX6_as_41 : decode cX6_as 41 = .ok (.iload_n 2, 1) := by decide +kernel
theorem dX6_as_42 : decode cX6_as 42 = .ok (.if_icmp .lt 7, 3) := by decide +kernel
theorem dX6_as_45 : decode cX6_as 45 = .ok (.iconst 1, 1) := by decide +kernel
theorem dX6_as_46 : decode cX6_as 46 = .ok (.goto 8, 3) := by decide +kernel
theorem dX6_as_49 : decode cX6_as 49 = .ok (.aload_n 0, 1) := by decide +kernel
theorem dX6_as_50 : decode cX6_as 50 = .ok (.iconst 2, 1) := by decide +kernel
theorem dX6_as_51 : decode cX6_as 51 = .ok (.invokevirtual 54, 3) := by decide +kernel
theorem dX6_as_54 : decode cX6_as 54 = .ok (.ireturn, 1) := by decide +kernel
theorem dX6_trace_0 : decode cX6_trace 0 = .ok (.aload_n 0, 1) := by decide +kernel
theorem dX6_trace_1 : decode cX6_trace 1 = .ok (.getfield 35, 3) := by decide +kernel
theorem dX6_trace_4 : decode cX6_trace 4 = .ok (.ireturn, 1) := by decide +kernel
theorem dX6_fault_0 : decode cX6_fault 0 = .ok (.aload_n 0, 1) := by decide +kernel
theorem dX6_fault_1 : decode cX6_fault 1 = .ok (.getfield 39, 3) := by decide +kernel
theorem dX6_fault_4 : decode cX6_fault 4 = .ok (.ireturn, 1) := by decide +kernel
theorem dX6_many_0 : decode cX6_many 0 = .ok (.iload_n 1, 1) := by decide +kernel
theorem dX6_many_1 : decode cX6_many 1 = .ok (.tableswitch 63 0 3 #[31, 39, 47, 55], 31) := by decide +kernel
theorem dX6_many_32 : decode cX6_many 32 = .ok (.aload_n 0, 1) := by decide +kernel
theorem dX6_many_33 : decode cX6_many 33 = .ok (.getfield 12, 3) := by decide +kernel
theorem dX6_many_36 : decode cX6_many 36 = .ok (.getfield 71, 3) := by decide +kernel
theorem dX6_many_39 : decode cX6_many 39 = .ok (.ireturn, 1) := by decide +kernel
theorem dX6_many_40 : decode cX6_many 40 = .ok (.aload_n 0, 1) := by decide +kernel
theorem dX6_many_41 : decode cX6_many 41 = .ok (.getfield 12, 3) := by decide +kernel
theorem dX6_many_44 : decode cX6_many 44 = .ok (.getfield 240, 3) := by decide +kernel
theorem dX6_many_47 : decode cX6_many 47 = .ok (.ireturn, 1) := by decide +kernel
theorem dX6_many_48 : decode cX6_many 48 = .ok (.aload_n 0, 1) := by decide +kernel
theorem dX6_many_49 : decode cX6_many 49 = .ok (.getfield 12, 3) := by decide +kernel
theorem dX6_many_52 : decode cX6_many 52 = .ok (.getfield 114, 3) := by decide +kernel
theorem dX6_many_55 : decode cX6_many 55 = .ok (.ireturn, 1) := by decide +kernel
theorem dX6_many_56 : decode cX6_many 56 = .ok (.aload_n 0, 1) := by decide +kernel
theorem dX6_many_57 : decode cX6_many 57 = .ok (.getfield 21, 3) := by decide +kernel
theorem dX6_many_60 : decode cX6_many 60 = .ok (.getfield 68, 3) := by decide +kernel
theorem dX6_many_63 : decode cX6_many 63 = .ok (.ireturn, 1) := by decide +kernel
theorem dX6_many_64 : decode cX6_many 64 = .ok (.bipush (-2), 2) := by decide +kernel
theorem dX6_many_66 : decode cX6_many 66 = .ok (.ireturn, 1) := by decide +kernel
theorem dX6_toldAsRider_0 : decode cX6_toldAsRider 0 = .ok (.aload_n 0, 1) := by decide +kernel
theorem dX6_toldAsRider_1 : decode cX6_toldAsRider 1 = .ok (.iconst 1, 1) := by decide +kernel
theorem dX6_toldAsRider_2 : decode cX6_toldAsRider 2 = .ok (.invokevirtual 236, 3) := by decide +kernel
theorem dX6_toldAsRider_5 : decode cX6_toldAsRider 5 = .ok (.aload_n 1, 1) := by decide +kernel
theorem dX6_toldAsRider_6 : decode cX6_toldAsRider 6 = .ok (.getfield 90, 3) := by decide +kernel
theorem dX6_toldAsRider_9 : decode cX6_toldAsRider 9 = .ok (.ireturn, 1) := by decide +kernel
theorem dX6_toldAsLad_0 : decode cX6_toldAsLad 0 = .ok (.aload_n 0, 1) := by decide +kernel
theorem dX6_toldAsLad_1 : decode cX6_toldAsLad 1 = .ok (.iconst 2, 1) := by decide +kernel
theorem dX6_toldAsLad_2 : decode cX6_toldAsLad 2 = .ok (.invokevirtual 236, 3) := by decide +kernel
theorem dX6_toldAsLad_5 : decode cX6_toldAsLad 5 = .ok (.aload_n 0, 1) := by decide +kernel
theorem dX6_toldAsLad_6 : decode cX6_toldAsLad 6 = .ok (.aload_n 1, 1) := by decide +kernel
theorem dX6_toldAsLad_7 : decode cX6_toldAsLad 7 = .ok (.invokevirtual 226, 3) := by decide +kernel
theorem dX6_toldAsLad_10 : decode cX6_toldAsLad 10 = .ok (.bipush 100, 2) := by decide +kernel
theorem dX6_toldAsLad_12 : decode cX6_toldAsLad 12 = .ok (.iadd, 1) := by decide +kernel
theorem dX6_toldAsLad_13 : decode cX6_toldAsLad 13 = .ok (.ireturn, 1) := by decide +kernel
theorem dX6_toldAsElder_0 : decode cX6_toldAsElder 0 = .ok (.aload_n 0, 1) := by decide +kernel
theorem dX6_toldAsElder_1 : decode cX6_toldAsElder 1 = .ok (.iconst 3, 1) := by decide +kernel
theorem dX6_toldAsElder_2 : decode cX6_toldAsElder 2 = .ok (.invokevirtual 236, 3) := by decide +kernel
theorem dX6_toldAsElder_5 : decode cX6_toldAsElder 5 = .ok (.aload_n 0, 1) := by decide +kernel
theorem dX6_toldAsElder_6 : decode cX6_toldAsElder 6 = .ok (.aload_n 1, 1) := by decide +kernel
theorem dX6_toldAsElder_7 : decode cX6_toldAsElder 7 = .ok (.invokevirtual 230, 3) := by decide +kernel
theorem dX6_toldAsElder_10 : decode cX6_toldAsElder 10 = .ok (.aload_n 0, 1) := by decide +kernel
theorem dX6_toldAsElder_11 : decode cX6_toldAsElder 11 = .ok (.aload_n 1, 1) := by decide +kernel
theorem dX6_toldAsElder_12 : decode cX6_toldAsElder 12 = .ok (.invokevirtual 226, 3) := by decide +kernel
theorem dX6_toldAsElder_15 : decode cX6_toldAsElder 15 = .ok (.iadd, 1) := by decide +kernel
theorem dX6_toldAsElder_16 : decode cX6_toldAsElder 16 = .ok (.ireturn, 1) := by decide +kernel
theorem dX6_beginBody_0 : decode cX6_beginBody 0 = .ok (.aload_n 0, 1) := by decide +kernel
theorem dX6_beginBody_1 : decode cX6_beginBody 1 = .ok (.bipush 31, 2) := by decide +kernel
theorem dX6_beginBody_3 : decode cX6_beginBody 3 = .ok (.aload_n 0, 1) := by decide +kernel
theorem dX6_beginBody_4 : decode cX6_beginBody 4 = .ok (.getfield 35, 3) := by decide +kernel
theorem dX6_beginBody_7 : decode cX6_beginBody 7 = .ok (.imul, 1) := by decide +kernel
theorem dX6_beginBody_8 : decode cX6_beginBody 8 = .ok (.iload_n 1, 1) := by decide +kernel
theorem dX6_beginBody_9 : decode cX6_beginBody 9 = .ok (.iadd, 1) := by decide +kernel
theorem dX6_beginBody_10 : decode cX6_beginBody 10 = .ok (.putfield 35, 3) := by decide +kernel
theorem dX6_beginBody_13 : decode cX6_beginBody 13 = .ok (.return_, 1) := by decide +kernel
theorem dX6_failed_0 : decode cX6_failed 0 = .ok (.aload_n 0, 1) := by decide +kernel
theorem dX6_failed_1 : decode cX6_failed 1 = .ok (.iload_n 1, 1) := by decide +kernel
theorem dX6_failed_2 : decode cX6_failed 2 = .ok (.putfield 39, 3) := by decide +kernel
theorem dX6_failed_5 : decode cX6_failed 5 = .ok (.bipush (-10), 2) := by decide +kernel
theorem dX6_failed_7 : decode cX6_failed 7 = .ok (.iload_n 1, 1) := by decide +kernel
theorem dX6_failed_8 : decode cX6_failed 8 = .ok (.isub, 1) := by decide +kernel
theorem dX6_failed_9 : decode cX6_failed 9 = .ok (.ireturn, 1) := by decide +kernel
theorem dX6_isSheet_0 : decode cX6_isSheet 0 = .ok (.iload_n 0, 1) := by decide +kernel
theorem dX6_isSheet_1 : decode cX6_isSheet 1 = .ok (.iconst 3, 1) := by decide +kernel
theorem dX6_isSheet_2 : decode cX6_isSheet 2 = .ok (.invokestatic 106, 3) := by decide +kernel
theorem dX6_isSheet_5 : decode cX6_isSheet 5 = .ok (.ireturn, 1) := by decide +kernel
theorem dX6_isLane_0 : decode cX6_isLane 0 = .ok (.iload_n 0, 1) := by decide +kernel
theorem dX6_isLane_1 : decode cX6_isLane 1 = .ok (.iconst 2, 1) := by decide +kernel
theorem dX6_isLane_2 : decode cX6_isLane 2 = .ok (.invokestatic 106, 3) := by decide +kernel
theorem dX6_isLane_5 : decode cX6_isLane 5 = .ok (.ireturn, 1) := by decide +kernel
theorem dX6_within_0 : decode cX6_within 0 = .ok (.iload_n 0, 1) := by decide +kernel
theorem dX6_within_1 : decode cX6_within 1 = .ok (.ifCond .lt 12, 3) := by decide +kernel
theorem dX6_within_4 : decode cX6_within 4 = .ok (.iload_n 0, 1) := by decide +kernel
theorem dX6_within_5 : decode cX6_within 5 = .ok (.iload_n 1, 1) := by decide +kernel
theorem dX6_within_6 : decode cX6_within 6 = .ok (.if_icmp .gt 7, 3) := by decide +kernel
theorem dX6_within_9 : decode cX6_within 9 = .ok (.iconst 1, 1) := by decide +kernel
theorem dX6_within_10 : decode cX6_within 10 = .ok (.goto 4, 3) := by decide +kernel
theorem dX6_within_13 : decode cX6_within 13 = .ok (.iconst 0, 1) := by decide +kernel
theorem dX6_within_14 : decode cX6_within 14 = .ok (.ireturn, 1) := by decide +kernel
end
section
theorem dX7_init_0 : decode cX7_init 0 = .ok (.aload_n 0, 1) := by decide +kernel
theorem dX7_init_1 : decode cX7_init 1 = .ok (.invokespecial 1, 3) := by decide +kernel
theorem dX7_init_4 : decode cX7_init 4 = .ok (.aload_n 0, 1) := by decide +kernel
theorem dX7_init_5 : decode cX7_init 5 = .ok (.iconst 5, 1) := by decide +kernel
theorem dX7_init_6 : decode cX7_init 6 = .ok (.newarray .int, 2) := by decide +kernel
theorem dX7_init_8 : decode cX7_init 8 = .ok (.putfield 7, 3) := by decide +kernel
theorem dX7_init_11 : decode cX7_init 11 = .ok (.aload_n 0, 1) := by decide +kernel
theorem dX7_init_12 : decode cX7_init 12 = .ok (.iconst 4, 1) := by decide +kernel
theorem dX7_init_13 : decode cX7_init 13 = .ok (.newarray .int, 2) := by decide +kernel
theorem dX7_init_15 : decode cX7_init 15 = .ok (.putfield 13, 3) := by decide +kernel
theorem dX7_init_18 : decode cX7_init 18 = .ok (.aload_n 0, 1) := by decide +kernel
theorem dX7_init_19 : decode cX7_init 19 = .ok (.iconst 4, 1) := by decide +kernel
theorem dX7_init_20 : decode cX7_init 20 = .ok (.newarray .int, 2) := by decide +kernel
theorem dX7_init_22 : decode cX7_init 22 = .ok (.putfield 16, 3) := by decide +kernel
theorem dX7_init_25 : decode cX7_init 25 = .ok (.aload_n 0, 1) := by decide +kernel
theorem dX7_init_26 : decode cX7_init 26 = .ok (.iconst 4, 1) := by decide +kernel
theorem dX7_init_27 : decode cX7_init 27 = .ok (.newarray .int, 2) := by decide +kernel
theorem dX7_init_29 : decode cX7_init 29 = .ok (.putfield 19, 3) := by decide +kernel
theorem dX7_init_32 : decode cX7_init 32 = .ok (.aload_n 0, 1) := by decide +kernel
theorem dX7_init_33 : decode cX7_init 33 = .ok (.iconst 4, 1) := by decide +kernel
theorem dX7_init_34 : decode cX7_init 34 = .ok (.newarray .int, 2) := by decide +kernel
theorem dX7_init_36 : decode cX7_init 36 = .ok (.putfield 22, 3) := by decide +kernel
theorem dX7_init_39 : decode cX7_init 39 = .ok (.aload_n 0, 1) := by decide +kernel
theorem dX7_init_40 : decode cX7_init 40 = .ok (.iconst 4, 1) := by decide +kernel
theorem dX7_init_41 : decode cX7_init 41 = .ok (.newarray .int, 2) := by decide +kernel
theorem dX7_init_43 : decode cX7_init 43 = .ok (.putfield 25, 3) := by decide +kernel
theorem dX7_init_46 : decode cX7_init 46 = .ok (.aload_n 0, 1) := by decide +kernel
theorem dX7_init_47 : decode cX7_init 47 = .ok (.iconst 5, 1) := by decide +kernel
theorem dX7_init_48 : decode cX7_init 48 = .ok (.newarray .int, 2) := by decide +kernel
theorem dX7_init_50 : decode cX7_init 50 = .ok (.putfield 28, 3) := by decide +kernel
theorem dX7_init_53 : decode cX7_init 53 = .ok (.aload_n 0, 1) := by decide +kernel
theorem dX7_init_54 : decode cX7_init 54 = .ok (.iconst 4, 1) := by decide +kernel
theorem dX7_init_55 : decode cX7_init 55 = .ok (.newarray .int, 2) := by decide +kernel
theorem dX7_init_57 : decode cX7_init 57 = .ok (.putfield 31, 3) := by decide +kernel
theorem dX7_init_60 : decode cX7_init 60 = .ok (.aload_n 0, 1) := by decide +kernel
theorem dX7_init_61 : decode cX7_init 61 = .ok (.iconst 4, 1) := by decide +kernel
theorem dX7_init_62 : decode cX7_init 62 = .ok (.newarray .int, 2) := by decide +kernel
theorem dX7_init_64 : decode cX7_init 64 = .ok (.putfield 34, 3) := by decide +kernel
theorem dX7_init_67 : decode cX7_init 67 = .ok (.aload_n 0, 1) := by decide +kernel
theorem dX7_init_68 : decode cX7_init 68 = .ok (.iconst 4, 1) := by decide +kernel
theorem dX7_init_69 : decode cX7_init 69 = .ok (.newarray .int, 2) := by decide +kernel
theorem dX7_init_71 : decode cX7_init 71 = .ok (.putfield 37, 3) := by decide +kernel
theorem dX7_init_74 : decode cX7_init 74 = .ok (.aload_n 0, 1) := by decide +kernel
theorem dX7_init_75 : decode cX7_init 75 = .ok (.iconst 4, 1) := by decide +kernel
theorem dX7_init_76 : decode cX7_init 76 = .ok (.newarray .int, 2) := by decide +kernel
theorem dX7_init_78 : decode cX7_init 78 = .ok (.putfield 40, 3) := by decide +kernel
theorem dX7_init_81 : decode cX7_init 81 = .ok (.aload_n 0, 1) := by decide +kernel
theorem dX7_init_82 : decode cX7_init 82 = .ok (.iconst 4, 1) := by decide +kernel
theorem dX7_init_83 : decode cX7_init 83 = .ok (.newarray .int, 2) := by decide +kernel
theorem dX7_init_85 : decode cX7_init 85 = .ok (.putfield 43, 3) := by decide +kernel
theorem dX7_init_88 : decode cX7_init 88 = .ok (.aload_n 0, 1) := by decide +kernel
theorem dX7_init_89 : decode cX7_init 89 = .ok (.sipush 1024, 3) := by decide +kernel
theorem dX7_init_92 : decode cX7_init 92 = .ok (.newarray .boolean, 2) := by decide +kernel
theorem dX7_init_94 : decode cX7_init 94 = .ok (.putfield 46, 3) := by decide +kernel
theorem dX7_init_97 : decode cX7_init 97 = .ok (.aload_n 0, 1) := by decide +kernel
theorem dX7_init_98 : decode cX7_init 98 = .ok (.sipush 1024, 3) := by decide +kernel
theorem dX7_init_101 : decode cX7_init 101 = .ok (.newarray .boolean, 2) := by decide +kernel
theorem dX7_init_103 : decode cX7_init 103 = .ok (.putfield 50, 3) := by decide +kernel
theorem dX7_init_106 : decode cX7_init 106 = .ok (.aload_n 0, 1) := by decide +kernel
theorem dX7_init_107 : decode cX7_init 107 = .ok (.bipush 8, 2) := by decide +kernel
theorem dX7_init_109 : decode cX7_init 109 = .ok (.newarray .int, 2) := by decide +kernel
theorem dX7_init_111 : decode cX7_init 111 = .ok (.putfield 53, 3) := by decide +kernel
theorem dX7_init_114 : decode cX7_init 114 = .ok (.aload_n 0, 1) := by decide +kernel
theorem dX7_init_115 : decode cX7_init 115 = .ok (.bipush 8, 2) := by decide +kernel
theorem dX7_init_117 : decode cX7_init 117 = .ok (.newarray .int, 2) := by decide +kernel
theorem dX7_init_119 : decode cX7_init 119 = .ok (.putfield 56, 3) := by decide +kernel
theorem dX7_init_122 : decode cX7_init 122 = .ok (.aload_n 0, 1) := by decide +kernel
theorem dX7_init_123 : decode cX7_init 123 = .ok (.bipush 8, 2) := by decide +kernel
theorem dX7_init_125 : decode cX7_init 125 = .ok (.newarray .int, 2) := by decide +kernel
theorem dX7_init_127 : decode cX7_init 127 = .ok (.putfield 59, 3) := by decide +kernel
theorem dX7_init_130 : decode cX7_init 130 = .ok (.aload_n 0, 1) := by decide +kernel
theorem dX7_init_131 : decode cX7_init 131 = .ok (.iconst 4, 1) := by decide +kernel
theorem dX7_init_132 : decode cX7_init 132 = .ok (.newarray .int, 2) := by decide +kernel
theorem dX7_init_134 : decode cX7_init 134 = .ok (.putfield 62, 3) := by decide +kernel
theorem dX7_init_137 : decode cX7_init 137 = .ok (.aload_n 0, 1) := by decide +kernel
theorem dX7_init_138 : decode cX7_init 138 = .ok (.iconst 4, 1) := by decide +kernel
theorem dX7_init_139 : decode cX7_init 139 = .ok (.newarray .int, 2) := by decide +kernel
theorem dX7_init_141 : decode cX7_init 141 = .ok (.putfield 65, 3) := by decide +kernel
theorem dX7_init_144 : decode cX7_init 144 = .ok (.aload_n 0, 1) := by decide +kernel
theorem dX7_init_145 : decode cX7_init 145 = .ok (.sipush 240, 3) := by decide +kernel
theorem dX7_init_148 : decode cX7_init 148 = .ok (.newarray .int, 2) := by decide +kernel
theorem dX7_init_150 : decode cX7_init 150 = .ok (.putfield 68, 3) := by decide +kernel
theorem dX7_init_153 : decode cX7_init 153 = .ok (.aload_n 0, 1) := by decide +kernel
theorem dX7_init_154 : decode cX7_init 154 = .ok (.bipush 60, 2) := by decide +kernel
theorem dX7_init_156 : decode cX7_init 156 = .ok (.newarray .int, 2) := by decide +kernel
theorem dX7_init_158 : decode cX7_init 158 = .ok (.putfield 71, 3) := by decide +kernel
theorem dX7_init_161 : decode cX7_init 161 = .ok (.iconst 0, 1) := by decide +kernel
theorem dX7_init_162 : decode cX7_init 162 = .ok (.istore_n 1, 1) := by decide +kernel
theorem dX7_init_163 : decode cX7_init 163 = .ok (.iload_n 1, 1) := by decide +kernel
theorem dX7_init_164 : decode cX7_init 164 = .ok (.iconst 4, 1) := by decide +kernel
theorem dX7_init_165 : decode cX7_init 165 = .ok (.if_icmp .ge 16, 3) := by decide +kernel
theorem dX7_init_168 : decode cX7_init 168 = .ok (.aload_n 0, 1) := by decide +kernel
theorem dX7_init_169 : decode cX7_init 169 = .ok (.getfield 62, 3) := by decide +kernel
theorem dX7_init_172 : decode cX7_init 172 = .ok (.iload_n 1, 1) := by decide +kernel
theorem dX7_init_173 : decode cX7_init 173 = .ok (.iconst (-1), 1) := by decide +kernel
theorem dX7_init_174 : decode cX7_init 174 = .ok (.iastore, 1) := by decide +kernel
theorem dX7_init_175 : decode cX7_init 175 = .ok (.iinc 1 1, 3) := by decide +kernel
theorem dX7_init_178 : decode cX7_init 178 = .ok (.goto (-15), 3) := by decide +kernel
theorem dX7_init_181 : decode cX7_init 181 = .ok (.return_, 1) := by decide +kernel
theorem dX7_in_0 : decode cX7_in 0 = .ok (.lload_n 0, 1) := by decide +kernel
theorem dX7_in_1 : decode cX7_in 1 = .ok (.lload_n 2, 1) := by decide +kernel
theorem dX7_in_2 : decode cX7_in 2 = .ok (.lcmp, 1) := by decide +kernel
theorem dX7_in_3 : decode cX7_in 3 = .ok (.ifCond .lt 14, 3) := by decide +kernel
theorem dX7_in_6 : decode cX7_in 6 = .ok (.lload_n 0, 1) := by decide +kernel
theorem dX7_in_7 : decode cX7_in 7 = .ok (.lload 4, 2) := by decide +kernel
theorem dX7_in_9 : decode cX7_in 9 = .ok (.lcmp, 1) := by decide +kernel
theorem dX7_in_10 : decode cX7_in 10 = .ok (.ifCond .gt 7, 3) := by decide +kernel
theorem dX7_in_13 : decode cX7_in 13 = .ok (.iconst 1, 1) := by decide +kernel
theorem dX7_in_14 : decode cX7_in 14 = .ok (.goto 4, 3) := by decide +kernel
theorem dX7_in_17 : decode cX7_in 17 = .ok (.iconst 0, 1) := by decide +kernel
theorem dX7_in_18 : decode cX7_in 18 = .ok (.ireturn, 1) := by decide +kernel
theorem dX7_lost_0 : decode cX7_lost 0 = .ok (.ldc2_w 74, 3) := by decide +kernel
theorem dX7_lost_3 : decode cX7_lost 3 = .ok (.lreturn, 1) := by decide +kernel
theorem dX7_isIn_0 : decode cX7_isIn 0 = .ok (.iload_n 0, 1) := by decide +kernel
theorem dX7_isIn_1 : decode cX7_isIn 1 = .ok (.iload_n 1, 1) := by decide +kernel
theorem dX7_isIn_2 : decode cX7_isIn 2 = .ok (.ishr, 1) := by decide +kernel
theorem dX7_isIn_3 : decode cX7_isIn 3 = .ok (.iconst 1, 1) := by decide +kernel
theorem dX7_isIn_4 : decode cX7_isIn 4 = .ok (.iand, 1) := by decide +kernel
theorem dX7_isIn_5 : decode cX7_isIn 5 = .ok (.iconst 1, 1) := by decide +kernel
theorem dX7_isIn_6 : decode cX7_isIn 6 = .ok (.if_icmp .ne 7, 3) := by decide +kernel
theorem dX7_isIn_9 : decode cX7_isIn 9 = .ok (.iconst 1, 1) := by decide +kernel
theorem dX7_isIn_10 : decode cX7_isIn 10 = .ok (.goto 4, 3) := by decide +kernel
theorem dX7_isIn_13 : decode cX7_isIn 13 = .ok (.iconst 0, 1) := by decide +kernel
theorem dX7_isIn_14 : decode cX7_isIn 14 = .ok (.ireturn, 1) := by decide +kernel
theorem dX7_bits_0 : decode cX7_bits 0 = .ok (.iconst 0, 1) := by decide +kernel
theorem dX7_bits_1 : decode cX7_bits 1 = .ok (.istore_n 1, 1) := by decide +kernel
theorem dX7_bits_2 : decode cX7_bits 2 = .ok (.iload_n 0, 1) := by decide +kernel
theorem dX7_bits_3 : decode cX7_bits 3 = .ok (.istore_n 2, 1) := by decide +kernel
theorem dX7_bits_4 : decode cX7_bits 4 = .ok (.iload_n 2, 1) := by decide +kernel
theorem dX7_bits_5 : decode cX7_bits 5 = .ok (.ifCond .le 16, 3) := by decide +kernel
theorem dX7_bits_8 : decode cX7_bits 8 = .ok (.iload_n 1, 1) := by decide +kernel
theorem dX7_bits_9 : decode cX7_bits 9 = .ok (.iload_n 2, 1) := by decide +kernel
theorem dX7_bits_10 : decode cX7_bits 10 = .ok (.iconst 1, 1) := by decide +kernel
theorem dX7_bits_11 : decode cX7_bits 11 = .ok (.iand, 1) := by decide +kernel
theorem dX7_bits_12 : decode cX7_bits 12 = .ok (.iadd, 1) := by decide +kernel
theorem dX7_bits_13 : decode cX7_bits 13 = .ok (.istore_n 1, 1) := by decide +kernel
theorem dX7_bits_14 : decode cX7_bits 14 = .ok (.iload_n 2, 1) := by decide +kernel
theorem dX7_bits_15 : decode cX7_bits 15 = .ok (.iconst 1, 1) := by decide +kernel
theorem dX7_bits_16 : decode cX7_bits 16 = .ok (.ishr, 1) := by decide +kernel
theorem dX7_bits_17 : decode cX7_bits 17 = .ok (.istore_n 2, 1) := by decide +kernel
theorem dX7_bits_18 : decode cX7_bits 18 = .ok (.goto (-14), 3) := by decide +kernel
theorem dX7_bits_21 : decode cX7_bits 21 = .ok (.iload_n 1, 1) := by decide +kernel
theorem dX7_bits_22 : decode cX7_bits 22 = .ok (.ireturn, 1) := by decide +kernel
theorem dX7_share_0 : decode cX7_share 0 = .ok (.lload_n 0, 1) := by decide +kernel
theorem dX7_share_1 : decode cX7_share 1 = .ok (.lstore 5, 2) := by decide +kernel
theorem dX7_share_3 : decode cX7_share 3 = .ok (.lload_n 2, 1) := by decide +kernel
theorem dX7_share_4 : decode cX7_share 4 = .ok (.lstore 7, 2) := by decide +kernel
theorem dX7_share_6 : decode cX7_share 6 = .ok (.lload 7, 2) := by decide +kernel
theorem dX7_share_8 : decode cX7_share 8 = .ok (.lconst 0, 1) := by decide +kernel
theorem dX7_share_9 : decode cX7_share 9 = .ok (.lcmp, 1) := by decide +kernel
theorem dX7_share_10 : decode cX7_share 10 = .ok (.ifCond .eq 21, 3) := by decide +kernel
theorem dX7_share_13 : decode cX7_share 13 = .ok (.lload 5, 2) := by decide +kernel
theorem dX7_share_15 : decode cX7_share 15 = .ok (.lload 7, 2) := by decide +kernel
theorem dX7_share_17 : decode cX7_share 17 = .ok (.lrem, 1) := by decide +kernel
theorem dX7_share_18 : decode cX7_share 18 = .ok (.lstore 9, 2) := by decide +kernel
theorem dX7_share_20 : decode cX7_share 20 = .ok (.lload 7, 2) := by decide +kernel
theorem dX7_share_22 : decode cX7_share 22 = .ok (.lstore 5, 2) := by decide +kernel
theorem dX7_share_24 : decode cX7_share 24 = .ok (.lload 9, 2) := by decide +kernel
theorem dX7_share_26 : decode cX7_share 26 = .ok (.lstore 7, 2) := by decide +kernel
theorem dX7_share_28 : decode cX7_share 28 = .ok (.goto (-22), 3) := by decide +kernel
theorem dX7_share_31 : decode cX7_share 31 = .ok (.iload 4, 2) := by decide +kernel
theorem dX7_share_33 : decode cX7_share 33 = .ok (.ifCond .ne 7, 3) := by decide +kernel
theorem dX7_share_36 : decode cX7_share 36 = .ok (.lload_n 0, 1) := by decide +kernel
theorem dX7_share_37 : decode cX7_share 37 = .ok (.goto 4, 3) := by decide +kernel
theorem dX7_share_40 : decode cX7_share 40 = .ok (.lload_n 2, 1) := by decide +kernel
theorem dX7_share_41 : decode cX7_share 41 = .ok (.lload 5, 2) := by decide +kernel
theorem dX7_share_43 : decode cX7_share 43 = .ok (.ldiv, 1) := by decide +kernel
theorem dX7_share_44 : decode cX7_share 44 = .ok (.lreturn, 1) := by decide +kernel
theorem dX7_refused_0 : decode cX7_refused 0 = .ok (.aload_n 0, 1) := by decide +kernel
theorem dX7_refused_1 : decode cX7_refused 1 = .ok (.iconst 0, 1) := by decide +kernel
theorem dX7_refused_2 : decode cX7_refused 2 = .ok (.putfield 76, 3) := by decide +kernel
theorem dX7_refused_5 : decode cX7_refused 5 = .ok (.iload_n 1, 1) := by decide +kernel
theorem dX7_refused_6 : decode cX7_refused 6 = .ok (.ireturn, 1) := by decide +kernel
theorem dX7_failed_0 : decode cX7_failed 0 = .ok (.aload_n 0, 1) := by decide +kernel
theorem dX7_failed_1 : decode cX7_failed 1 = .ok (.iload_n 1, 1) := by decide +kernel
theorem dX7_failed_2 : decode cX7_failed 2 = .ok (.putfield 76, 3) := by decide +kernel
theorem dX7_failed_5 : decode cX7_failed 5 = .ok (.bipush (-10), 2) := by decide +kernel
theorem dX7_failed_7 : decode cX7_failed 7 = .ok (.iload_n 1, 1) := by decide +kernel
theorem dX7_failed_8 : decode cX7_failed 8 = .ok (.isub, 1) := by decide +kernel
theorem dX7_failed_9 : decode cX7_failed 9 = .ok (.ireturn, 1) := by decide +kernel
theorem dX7_failedLong_0 : decode cX7_failedLong 0 = .ok (.aload_n 0, 1) := by decide +kernel
theorem dX7_failedLong_1 : decode cX7_failedLong 1 = .ok (.iload_n 1, 1) := by decide +kernel
theorem dX7_failedLong_2 : decode cX7_failedLong 2 = .ok (.putfield 76, 3) := by decide +kernel
theorem dX7_failedLong_5 : decode cX7_failedLong 5 = .ok (.invokestatic 80, 3) := by decide +kernel
theorem dX7_failedLong_8 : decode cX7_failedLong 8 = .ok (.lreturn, 1) := by decide +kernel
theorem dX7_noSection_0 : decode cX7_noSection 0 = .ok (.iload_n 1, 1) := by decide +kernel
theorem dX7_noSection_1 : decode cX7_noSection 1 = .ok (.i2l, 1) := by decide +kernel
theorem dX7_noSection_2 : decode cX7_noSection 2 = .ok (.lconst 0, 1) := by decide +kernel
theorem dX7_noSection_3 : decode cX7_noSection 3 = .ok (.aload_n 0, 1) := by decide +kernel
theorem dX7_noSection_4 : decode cX7_noSection 4 = .ok (.getfield 84, 3) := by decide +kernel
theorem dX7_noSection_7 : decode cX7_noSection 7 = .ok (.i2l, 1) := by decide +kernel
theorem dX7_noSection_8 : decode cX7_noSection 8 = .ok (.lconst 1, 1) := by decide +kernel
theorem dX7_noSection_9 : decode cX7_noSection 9 = .ok (.lsub, 1) := by decide +kernel
theorem dX7_noSection_10 : decode cX7_noSection 10 = .ok (.invokestatic 87, 3) := by decide +kernel
theorem dX7_noSection_13 : decode cX7_noSection 13 = .ok (.ifCond .ne 7, 3) := by decide +kernel
theorem dX7_noSection_16 : decode cX7_noSection 16 = .ok (.iconst 1, 1) := by decide +kernel
theorem dX7_noSection_17 : decode cX7_noSection 17 = .ok (.goto 4, 3) := by decide +kernel
theorem dX7_noSection_20 : decode cX7_noSection 20 = .ok (.iconst 0, 1) := by decide +kernel
theorem dX7_noSection_21 : decode cX7_noSection 21 = .ok (.ireturn, 1) := by decide +kernel
theorem dX7_noRider_0 : decode cX7_noRider 0 = .ok (.iload_n 1, 1) := by decide +kernel
theorem dX7_noRider_1 : decode cX7_noRider 1 = .ok (.i2l, 1) := by decide +kernel
theorem dX7_noRider_2 : decode cX7_noRider 2 = .ok (.lconst 0, 1) := by decide +kernel
theorem dX7_noRider_3 : decode cX7_noRider 3 = .ok (.aload_n 0, 1) := by decide +kernel
theorem dX7_noRider_4 : decode cX7_noRider 4 = .ok (.getfield 91, 3) := by decide +kernel
theorem dX7_noRider_7 : decode cX7_noRider 7 = .ok (.i2l, 1) := by decide +kernel
theorem dX7_noRider_8 : decode cX7_noRider 8 = .ok (.lconst 1, 1) := by decide +kernel
theorem dX7_noRider_9 : decode cX7_noRider 9 = .ok (.lsub, 1) := by decide +kernel
theorem dX7_noRider_10 : decode cX7_noRider 10 = .ok (.invokestatic 87, 3) := by decide +kernel
theorem dX7_noRider_13 : decode cX7_noRider 13 = .ok (.ifCond .ne 7, 3) := by decide +kernel
theorem dX7_noRider_16 : decode cX7_noRider 16 = .ok (.iconst 1, 1) := by decide +kernel
theorem dX7_noRider_17 : decode cX7_noRider 17 = .ok (.goto 4, 3) := by decide +kernel
theorem dX7_noRider_20 : decode cX7_noRider 20 = .ok (.iconst 0, 1) := by decide +kernel
theorem dX7_noRider_21 : decode cX7_noRider 21 = .ok (.ireturn, 1) := by decide +kernel
theorem dX7_allOf_0 : decode cX7_allOf 0 = .ok (.iconst 1, 1) := by decide +kernel
theorem dX7_allOf_1 : decode cX7_allOf 1 = .ok (.aload_n 0, 1) := by decide +kernel
theorem dX7_allOf_2 : decode cX7_allOf 2 = .ok (.getfield 19, 3) := by decide +kernel
theorem dX7_allOf_5 : decode cX7_allOf 5 = .ok (.iload_n 1, 1) := by decide +kernel
theorem dX7_allOf_6 : decode cX7_allOf 6 = .ok (.iaload, 1) := by decide +kernel
theorem dX7_allOf_7 : decode cX7_allOf 7 = .ok (.ishl, 1) := by decide +kernel
theorem dX7_allOf_8 : decode cX7_allOf 8 = .ok (.iconst 1, 1) := by decide +kernel
theorem dX7_allOf_9 : decode cX7_allOf 9 = .ok (.aload_n 0, 1) := by decide +kernel
theorem dX7_allOf_10 : decode cX7_allOf 10 = .ok (.getfield 16, 3) := by decide +kernel
theorem dX7_allOf_13 : decode cX7_allOf 13 = .ok (.iload_n 1, 1) := by decide +kernel
theorem dX7_allOf_14 : decode cX7_allOf 14 = .ok (.iaload, 1) := by decide +kernel
theorem dX7_allOf_15 : decode cX7_allOf 15 = .ok (.ishl, 1) := by decide +kernel
theorem dX7_allOf_16 : decode cX7_allOf 16 = .ok (.isub, 1) := by decide +kernel
theorem dX7_allOf_17 : decode cX7_allOf 17 = .ok (.ireturn, 1) := by decide +kernel
theorem dX7_noSetOf_0 : decode cX7_noSetOf 0 = .ok (.iload_n 2, 1) := by decide +kernel
theorem dX7_noSetOf_1 : decode cX7_noSetOf 1 = .ok (.ifCond .lt 15, 3) := by decide +kernel
theorem dX7_noSetOf_4 : decode cX7_noSetOf 4 = .ok (.iload_n 2, 1) := by decide +kernel
theorem dX7_noSetOf_5 : decode cX7_noSetOf 5 = .ok (.aload_n 0, 1) := by decide +kernel
theorem dX7_noSetOf_6 : decode cX7_noSetOf 6 = .ok (.iload_n 1, 1) := by decide +kernel
theorem dX7_noSetOf_7 : decode cX7_noSetOf 7 = .ok (.invokevirtual 94, 3) := by decide +kernel
theorem dX7_noSetOf_10 : decode cX7_noSetOf 10 = .ok (.iconst (-1), 1) := by decide +kernel
theorem dX7_noSetOf_11 : decode cX7_noSetOf 11 = .ok (.ixor, 1) := by decide +kernel
theorem dX7_noSetOf_12 : decode cX7_noSetOf 12 = .ok (.iand, 1) := by decide +kernel
theorem dX7_noSetOf_13 : decode cX7_noSetOf 13 = .ok (.ifCond .eq 7, 3) := by decide +kernel
theorem dX7_noSetOf_16 : decode cX7_noSetOf 16 = .ok (.iconst 1, 1) := by decide +kernel
theorem dX7_noSetOf_17 : decode cX7_noSetOf 17 = .ok (.goto 4, 3) := by decide +kernel
theorem dX7_noSetOf_20 : decode cX7_noSetOf 20 = .ok (.iconst 0, 1) := by decide +kernel
theorem dX7_noSetOf_21 : decode cX7_noSetOf 21 = .ok (.ireturn, 1) := by decide +kernel
theorem dX7_codeAt_0 : decode cX7_codeAt 0 = .ok (.aload_n 0, 1) := by decide +kernel
theorem dX7_codeAt_1 : decode cX7_codeAt 1 = .ok (.getfield 98, 3) := by decide +kernel
theorem dX7_codeAt_4 : decode cX7_codeAt 4 = .ok (.iload_n 2, 1) := by decide +kernel
theorem dX7_codeAt_5 : decode cX7_codeAt 5 = .ok (.if_icmp .ge 17, 3) := by decide +kernel
theorem dX7_codeAt_8 : decode cX7_codeAt 8 = .ok (.aload_n 0, 1) := by decide +kernel
theorem dX7_codeAt_9 : decode cX7_codeAt 9 = .ok (.getfield 68, 3) := by decide +kernel
theorem dX7_codeAt_12 : decode cX7_codeAt 12 = .ok (.iload_n 1, 1) := by decide +kernel
theorem dX7_codeAt_13 : decode cX7_codeAt 13 = .ok (.aload_n 0, 1) := by decide +kernel
theorem dX7_codeAt_14 : decode cX7_codeAt 14 = .ok (.getfield 98, 3) := by decide +kernel
theorem dX7_codeAt_17 : decode cX7_codeAt 17 = .ok (.iadd, 1) := by decide +kernel
theorem dX7_codeAt_18 : decode cX7_codeAt 18 = .ok (.iaload, 1) := by decide +kernel
theorem dX7_codeAt_19 : decode cX7_codeAt 19 = .ok (.goto 5, 3) := by decide +kernel
theorem dX7_codeAt_22 : decode cX7_codeAt 22 = .ok (.bipush (-9), 2) := by decide +kernel
theorem dX7_codeAt_24 : decode cX7_codeAt 24 = .ok (.ireturn, 1) := by decide +kernel
theorem dX7_figure_0 : decode cX7_figure 0 = .ok (.aload_n 0, 1) := by decide +kernel
theorem dX7_figure_1 : decode cX7_figure 1 = .ok (.iload_n 1, 1) := by decide +kernel
theorem dX7_figure_2 : decode cX7_figure 2 = .ok (.iload_n 2, 1) := by decide +kernel
theorem dX7_figure_3 : decode cX7_figure 3 = .ok (.invokevirtual 101, 3) := by decide +kernel
theorem dX7_figure_6 : decode cX7_figure 6 = .ok (.bipush 48, 2) := by decide +kernel
theorem dX7_figure_8 : decode cX7_figure 8 = .ok (.isub, 1) := by decide +kernel
theorem dX7_figure_9 : decode cX7_figure 9 = .ok (.istore 5, 2) := by decide +kernel
theorem dX7_figure_11 : decode cX7_figure 11 = .ok (.iload 5, 2) := by decide +kernel
theorem dX7_figure_13 : decode cX7_figure 13 = .ok (.i2l, 1) := by decide +kernel
theorem dX7_figure_14 : decode cX7_figure 14 = .ok (.iload_n 3, 1) := by decide +kernel
theorem dX7_figure_15 : decode cX7_figure 15 = .ok (.i2l, 1) := by decide +kernel
theorem dX7_figure_16 : decode cX7_figure 16 = .ok (.iload 4, 2) := by decide +kernel
theorem dX7_figure_18 : decode cX7_figure 18 = .ok (.i2l, 1) := by decide +kernel
theorem dX7_figure_19 : decode cX7_figure 19 = .ok (.invokestatic 87, 3) := by decide +kernel
theorem dX7_figure_22 : decode cX7_figure 22 = .ok (.istore 6, 2) := by decide +kernel
theorem dX7_figure_24 : decode cX7_figure 24 = .ok (.aload_n 0, 1) := by decide +kernel
theorem dX7_figure_25 : decode cX7_figure 25 = .ok (.dup, 1) := by decide +kernel
theorem dX7_figure_26 : decode cX7_figure 26 = .ok (.getfield 98, 3) := by decide +kernel
theorem dX7_figure_29 : decode cX7_figure 29 = .ok (.iload 6, 2) := by decide +kernel
theorem dX7_figure_31 : decode cX7_figure 31 = .ok (.ifCond .eq 7, 3) := by decide +kernel
theorem dX7_figure_34 : decode cX7_figure 34 = .ok (.iconst 1, 1) := by decide +kernel
theorem dX7_figure_35 : decode cX7_figure 35 = .ok (.goto 4, 3) := by decide +kernel
theorem dX7_figure_38 : decode cX7_figure 38 = .ok (.iconst 0, 1) := by decide +kernel
theorem dX7_figure_39 : decode cX7_figure 39 = .ok (.iadd, 1) := by decide +kernel
theorem dX7_figure_40 : decode cX7_figure 40 = .ok (.putfield 98, 3) := by decide +kernel
theorem dX7_figure_43 : decode cX7_figure 43 = .ok (.iload 6, 2) := by decide +kernel
theorem dX7_figure_45 : decode cX7_figure 45 = .ok (.ifCond .eq 8, 3) := by decide +kernel
theorem dX7_figure_48 : decode cX7_figure 48 = .ok (.iload 5, 2) := by decide +kernel
theorem dX7_figure_50 : decode cX7_figure 50 = .ok (.goto 5, 3) := by decide +kernel
theorem dX7_figure_53 : decode cX7_figure 53 = .ok (.bipush (-9), 2) := by decide +kernel
theorem dX7_figure_55 : decode cX7_figure 55 = .ok (.ireturn, 1) := by decide +kernel
theorem dX7_twoFigures_0 : decode cX7_twoFigures 0 = .ok (.aload_n 0, 1) := by decide +kernel
theorem dX7_twoFigures_1 : decode cX7_twoFigures 1 = .ok (.iload_n 1, 1) := by decide +kernel
theorem dX7_twoFigures_2 : decode cX7_twoFigures 2 = .ok (.iload_n 2, 1) := by decide +kernel
theorem dX7_twoFigures_3 : decode cX7_twoFigures 3 = .ok (.iconst 0, 1) := by decide +kernel
theorem dX7_twoFigures_4 : decode cX7_twoFigures 4 = .ok (.iload_n 3, 1) := by decide +kernel
theorem dX7_twoFigures_5 : decode cX7_twoFigures 5 = .ok (.invokevirtual 105, 3) := by decide +kernel
theorem dX7_twoFigures_8 : decode cX7_twoFigures 8 = .ok (.istore 4, 2) := by decide +kernel
theorem dX7_twoFigures_10 : decode cX7_twoFigures 10 = .ok (.iload 4, 2) := by decide +kernel
theorem dX7_twoFigures_12 : decode cX7_twoFigures 12 = .ok (.ifCond .ge 8, 3) := by decide +kernel
theorem dX7_twoFigures_15 : decode cX7_twoFigures 15 = .ok (.bipush (-9), 2) := by decide +kernel
theorem dX7_twoFigures_17 : decode cX7_twoFigures 17 = .ok (.goto 12, 3) := by decide +kernel
theorem dX7_twoFigures_20 : decode cX7_twoFigures 20 = .ok (.aload_n 0, 1) := by decide +kernel
theorem dX7_twoFigures_21 : decode cX7_twoFigures 21 = .ok (.iload_n 1, 1) := by decide +kernel
theorem dX7_twoFigures_22 : decode cX7_twoFigures 22 = .ok (.iload_n 2, 1) := by decide +kernel
theorem dX7_twoFigures_23 : decode cX7_twoFigures 23 = .ok (.iconst 0, 1) := by decide +kernel
theorem dX7_twoFigures_24 : decode cX7_twoFigures 24 = .ok (.bipush 9, 2) := by decide +kernel
theorem dX7_twoFigures_26 : decode cX7_twoFigures 26 = .ok (.invokevirtual 105, 3) := by decide +kernel
theorem dX7_twoFigures_29 : decode cX7_twoFigures 29 = .ok (.istore 5, 2) := by decide +kernel
theorem dX7_twoFigures_31 : decode cX7_twoFigures 31 = .ok (.iload 5, 2) := by decide +kernel
theorem dX7_twoFigures_33 : decode cX7_twoFigures 33 = .ok (.ifCond .ge 8, 3) := by decide +kernel
theorem dX7_twoFigures_36 : decode cX7_twoFigures 36 = .ok (.bipush (-9), 2) := by decide +kernel
theorem dX7_twoFigures_38 : decode cX7_twoFigures 38 = .ok (.goto 11, 3) := by decide +kernel
theorem dX7_twoFigures_41 : decode cX7_twoFigures 41 = .ok (.bipush 10, 2) := by decide +kernel
theorem dX7_twoFigures_43 : decode cX7_twoFigures 43 = .ok (.iload 4, 2) := by decide +kernel
theorem dX7_twoFigures_45 : decode cX7_twoFigures 45 = .ok (.imul, 1) := by decide +kernel
theorem dX7_twoFigures_46 : decode cX7_twoFigures 46 = .ok (.iload 5, 2) := by decide +kernel
theorem dX7_twoFigures_48 : decode cX7_twoFigures 48 = .ok (.iadd, 1) := by decide +kernel
theorem dX7_twoFigures_49 : decode cX7_twoFigures 49 = .ok (.ireturn, 1) := by decide +kernel
theorem dX7_readsSections_0 : decode cX7_readsSections 0 = .ok (.iconst 1, 1) := by decide +kernel
theorem dX7_readsSections_1 : decode cX7_readsSections 1 = .ok (.istore_n 3, 1) := by decide +kernel
theorem dX7_readsSections_2 : decode cX7_readsSections 2 = .ok (.aload_n 0, 1) := by decide +kernel
theorem dX7_readsSections_3 : decode cX7_readsSections 3 = .ok (.getfield 109, 3) := by decide +kernel
theorem dX7_readsSections_6 : decode cX7_readsSections 6 = .ok (.iconst 5, 1) := by decide +kernel
theorem dX7_readsSections_7 : decode cX7_readsSections 7 = .ok (.if_icmp .ge 56, 3) := by decide +kernel
theorem dX7_readsSections_10 : decode cX7_readsSections 10 = .ok (.iload_n 3, 1) := by decide +kernel
theorem dX7_readsSections_11 : decode cX7_readsSections 11 = .ok (.ifCond .eq 52, 3) := by decide +kernel
theorem dX7_readsSections_14 : decode cX7_readsSections 14 = .ok (.aload_n 0, 1) := by decide +kernel
theorem dX7_readsSections_15 : decode cX7_readsSections 15 = .ok (.iload_n 1, 1) := by decide +kernel
theorem dX7_readsSections_16 : decode cX7_readsSections 16 = .ok (.iload_n 2, 1) := by decide +kernel
theorem dX7_readsSections_17 : decode cX7_readsSections 17 = .ok (.iconst 0, 1) := by decide +kernel
theorem dX7_readsSections_18 : decode cX7_readsSections 18 = .ok (.iconst 3, 1) := by decide +kernel
theorem dX7_readsSections_19 : decode cX7_readsSections 19 = .ok (.invokevirtual 105, 3) := by decide +kernel
theorem dX7_readsSections_22 : decode cX7_readsSections 22 = .ok (.istore 4, 2) := by decide +kernel
theorem dX7_readsSections_24 : decode cX7_readsSections 24 = .ok (.iload 4, 2) := by decide +kernel
theorem dX7_readsSections_26 : decode cX7_readsSections 26 = .ok (.ifCond .lt 7, 3) := by decide +kernel
theorem dX7_readsSections_29 : decode cX7_readsSections 29 = .ok (.iconst 1, 1) := by decide +kernel
theorem dX7_readsSections_30 : decode cX7_readsSections 30 = .ok (.goto 4, 3) := by decide +kernel
theorem dX7_readsSections_33 : decode cX7_readsSections 33 = .ok (.iconst 0, 1) := by decide +kernel
theorem dX7_readsSections_34 : decode cX7_readsSections 34 = .ok (.istore_n 3, 1) := by decide +kernel
theorem dX7_readsSections_35 : decode cX7_readsSections 35 = .ok (.iload_n 3, 1) := by decide +kernel
theorem dX7_readsSections_36 : decode cX7_readsSections 36 = .ok (.ifCond .eq 24, 3) := by decide +kernel
theorem dX7_readsSections_39 : decode cX7_readsSections 39 = .ok (.aload_n 0, 1) := by decide +kernel
theorem dX7_readsSections_40 : decode cX7_readsSections 40 = .ok (.getfield 28, 3) := by decide +kernel
theorem dX7_readsSections_43 : decode cX7_readsSections 43 = .ok (.aload_n 0, 1) := by decide +kernel
theorem dX7_readsSections_44 : decode cX7_readsSections 44 = .ok (.getfield 109, 3) := by decide +kernel
theorem dX7_readsSections_47 : decode cX7_readsSections 47 = .ok (.iload 4, 2) := by decide +kernel
theorem dX7_readsSections_49 : decode cX7_readsSections 49 = .ok (.iastore, 1) := by decide +kernel
theorem dX7_readsSections_50 : decode cX7_readsSections 50 = .ok (.aload_n 0, 1) := by decide +kernel
theorem dX7_readsSections_51 : decode cX7_readsSections 51 = .ok (.dup, 1) := by decide +kernel
theorem dX7_readsSections_52 : decode cX7_readsSections 52 = .ok (.getfield 109, 3) := by decide +kernel
theorem dX7_readsSections_55 : decode cX7_readsSections 55 = .ok (.iconst 1, 1) := by decide +kernel
theorem dX7_readsSections_56 : decode cX7_readsSections 56 = .ok (.iadd, 1) := by decide +kernel
theorem dX7_readsSections_57 : decode cX7_readsSections 57 = .ok (.putfield 109, 3) := by decide +kernel
theorem dX7_readsSections_60 : decode cX7_readsSections 60 = .ok (.goto (-58), 3) := by decide +kernel
theorem dX7_readsSections_63 : decode cX7_readsSections 63 = .ok (.aload_n 0, 1) := by decide +kernel
theorem dX7_readsSections_64 : decode cX7_readsSections 64 = .ok (.getfield 109, 3) := by decide +kernel
theorem dX7_readsSections_67 : decode cX7_readsSections 67 = .ok (.ifCond .le 7, 3) := by decide +kernel
theorem dX7_readsSections_70 : decode cX7_readsSections 70 = .ok (.iconst 1, 1) := by decide +kernel
theorem dX7_readsSections_71 : decode cX7_readsSections 71 = .ok (.goto 4, 3) := by decide +kernel
theorem dX7_readsSections_74 : decode cX7_readsSections 74 = .ok (.iconst 0, 1) := by decide +kernel
theorem dX7_readsSections_75 : decode cX7_readsSections 75 = .ok (.ireturn, 1) := by decide +kernel
theorem dX7_readsRider_0 : decode cX7_readsRider 0 = .ok (.aload_n 0, 1) := by decide +kernel
theorem dX7_readsRider_1 : decode cX7_readsRider 1 = .ok (.getfield 112, 3) := by decide +kernel
theorem dX7_readsRider_4 : decode cX7_readsRider 4 = .ok (.iconst 4, 1) := by decide +kernel
theorem dX7_readsRider_5 : decode cX7_readsRider 5 = .ok (.if_icmp .eq 14, 3) := by decide +kernel
theorem dX7_readsRider_8 : decode cX7_readsRider 8 = .ok (.aload_n 0, 1) := by decide +kernel
theorem dX7_readsRider_9 : decode cX7_readsRider 9 = .ok (.iload_n 1, 1) := by decide +kernel
theorem dX7_readsRider_10 : decode cX7_readsRider 10 = .ok (.iload_n 2, 1) := by decide +kernel
theorem dX7_readsRider_11 : decode cX7_readsRider 11 = .ok (.invokevirtual 101, 3) := by decide +kernel
theorem dX7_readsRider_14 : decode cX7_readsRider 14 = .ok (.bipush 59, 2) := by decide +kernel
theorem dX7_readsRider_16 : decode cX7_readsRider 16 = .ok (.if_icmp .eq 5, 3) := by decide +kernel
theorem dX7_readsRider_19 : decode cX7_readsRider 19 = .ok (.iconst 0, 1) := by decide +kernel
theorem dX7_readsRider_20 : decode cX7_readsRider 20 = .ok (.ireturn, 1) := by decide +kernel
theorem dX7_readsRider_21 : decode cX7_readsRider 21 = .ok (.aload_n 0, 1) := by decide +kernel
theorem dX7_readsRider_22 : decode cX7_readsRider 22 = .ok (.dup, 1) := by decide +kernel
theorem dX7_readsRider_23 : decode cX7_readsRider 23 = .ok (.getfield 98, 3) := by decide +kernel
theorem dX7_readsRider_26 : decode cX7_readsRider 26 = .ok (.iconst 1, 1) := by decide +kernel
theorem dX7_readsRider_27 : decode cX7_readsRider 27 = .ok (.iadd, 1) := by decide +kernel
theorem dX7_readsRider_28 : decode cX7_readsRider 28 = .ok (.putfield 98, 3) := by decide +kernel
theorem dX7_readsRider_31 : decode cX7_readsRider 31 = .ok (.aload_n 0, 1) := by decide +kernel
theorem dX7_readsRider_32 : decode cX7_readsRider 32 = .ok (.iload_n 1, 1) := by decide +kernel
theorem dX7_readsRider_33 : decode cX7_readsRider 33 = .ok (.iload_n 2, 1) := by decide +kernel
theorem dX7_readsRider_34 : decode cX7_readsRider 34 = .ok (.invokevirtual 101, 3) := by decide +kernel
theorem dX7_readsRider_37 : decode cX7_readsRider 37 = .ok (.istore_n 3, 1) := by decide +kernel
theorem dX7_readsRider_38 : decode cX7_readsRider 38 = .ok (.iload_n 3, 1) := by decide +kernel
theorem dX7_readsRider_39 : decode cX7_readsRider 39 = .ok (.bipush 114, 2) := by decide +kernel
theorem dX7_readsRider_41 : decode cX7_readsRider 41 = .ok (.if_icmp .eq 17, 3) := by decide +kernel
theorem dX7_readsRider_44 : decode cX7_readsRider 44 = .ok (.iload_n 3, 1) := by decide +kernel
theorem dX7_readsRider_45 : decode cX7_readsRider 45 = .ok (.bipush 108, 2) := by decide +kernel
theorem dX7_readsRider_47 : decode cX7_readsRider 47 = .ok (.if_icmp .eq 11, 3) := by decide +kernel
theorem dX7_readsRider_50 : decode cX7_readsRider 50 = .ok (.iload_n 3, 1) := by decide +kernel
theorem dX7_readsRider_51 : decode cX7_readsRider 51 = .ok (.bipush 101, 2) := by decide +kernel
theorem dX7_readsRider_53 : decode cX7_readsRider 53 = .ok (.if_icmp .eq 5, 3) := by decide +kernel
theorem dX7_readsRider_56 : decode cX7_readsRider 56 = .ok (.iconst 0, 1) := by decide +kernel
theorem dX7_readsRider_57 : decode cX7_readsRider 57 = .ok (.ireturn, 1) := by decide +kernel
theorem dX7_readsRider_58 : decode cX7_readsRider 58 = .ok (.aload_n 0, 1) := by decide +kernel
theorem dX7_readsRider_59 : decode cX7_readsRider 59 = .ok (.dup, 1) := by decide +kernel
theorem dX7_readsRider_60 : decode cX7_readsRider 60 = .ok (.getfield 98, 3) := by decide +kernel
theorem dX7_readsRider_63 : decode cX7_readsRider 63 = .ok (.iconst 1, 1) := by decide +kernel
theorem dX7_readsRider_64 : decode cX7_readsRider 64 = .ok (.iadd, 1) := by decide +kernel
theorem dX7_readsRider_65 : decode cX7_readsRider 65 = .ok (.putfield 98, 3) := by decide +kernel
theorem dX7_readsRider_68 : decode cX7_readsRider 68 = .ok (.aload_n 0, 1) := by decide +kernel
theorem dX7_readsRider_69 : decode cX7_readsRider 69 = .ok (.iload_n 1, 1) := by decide +kernel
theorem dX7_readsRider_70 : decode cX7_readsRider 70 = .ok (.iload_n 2, 1) := by decide +kernel
theorem dX7_readsRider_71 : decode cX7_readsRider 71 = .ok (.iconst 0, 1) := by decide +kernel
theorem dX7_readsRider_72 : decode cX7_readsRider 72 = .ok (.aload_n 0, 1) := by decide +kernel
theorem dX7_readsRider_73 : decode cX7_readsRider 73 = .ok (.getfield 109, 3) := by decide +kernel
theorem dX7_readsRider_76 : decode cX7_readsRider 76 = .ok (.iconst 1, 1) := by decide +kernel
theorem dX7_readsRider_77 : decode cX7_readsRider 77 = .ok (.isub, 1) := by decide +kernel
theorem dX7_readsRider_78 : decode cX7_readsRider 78 = .ok (.invokevirtual 105, 3) := by decide +kernel
theorem dX7_readsRider_81 : decode cX7_readsRider 81 = .ok (.istore 4, 2) := by decide +kernel
theorem dX7_readsRider_83 : decode cX7_readsRider 83 = .ok (.iload 4, 2) := by decide +kernel
theorem dX7_readsRider_85 : decode cX7_readsRider 85 = .ok (.ifCond .ge 8, 3) := by decide +kernel
theorem dX7_readsRider_88 : decode cX7_readsRider 88 = .ok (.bipush (-9), 2) := by decide +kernel
theorem dX7_readsRider_90 : decode cX7_readsRider 90 = .ok (.goto 17, 3) := by decide +kernel
theorem dX7_readsRider_93 : decode cX7_readsRider 93 = .ok (.aload_n 0, 1) := by decide +kernel
theorem dX7_readsRider_94 : decode cX7_readsRider 94 = .ok (.iload_n 1, 1) := by decide +kernel
theorem dX7_readsRider_95 : decode cX7_readsRider 95 = .ok (.iload_n 2, 1) := by decide +kernel
theorem dX7_readsRider_96 : decode cX7_readsRider 96 = .ok (.iload 4, 2) := by decide +kernel
theorem dX7_readsRider_98 : decode cX7_readsRider 98 = .ok (.iconst 1, 1) := by decide +kernel
theorem dX7_readsRider_99 : decode cX7_readsRider 99 = .ok (.iadd, 1) := by decide +kernel
theorem dX7_readsRider_100 : decode cX7_readsRider 100 = .ok (.aload_n 0, 1) := by decide +kernel
theorem dX7_readsRider_101 : decode cX7_readsRider 101 = .ok (.getfield 109, 3) := by decide +kernel
theorem dX7_readsRider_104 : decode cX7_readsRider 104 = .ok (.invokevirtual 105, 3) := by decide +kernel
theorem dX7_readsRider_107 : decode cX7_readsRider 107 = .ok (.istore 5, 2) := by decide +kernel
theorem dX7_readsRider_109 : decode cX7_readsRider 109 = .ok (.iload 5, 2) := by decide +kernel
theorem dX7_readsRider_111 : decode cX7_readsRider 111 = .ok (.ifCond .ge 8, 3) := by decide +kernel
theorem dX7_readsRider_114 : decode cX7_readsRider 114 = .ok (.bipush (-9), 2) := by decide +kernel
theorem dX7_readsRider_116 : decode cX7_readsRider 116 = .ok (.goto 11, 3) := by decide +kernel
theorem dX7_readsRider_119 : decode cX7_readsRider 119 = .ok (.aload_n 0, 1) := by decide +kernel
theorem dX7_readsRider_120 : decode cX7_readsRider 120 = .ok (.iload_n 1, 1) := by decide +kernel
theorem dX7_readsRider_121 : decode cX7_readsRider 121 = .ok (.iload_n 2, 1) := by decide +kernel
theorem dX7_readsRider_122 : decode cX7_readsRider 122 = .ok (.bipush 7, 2) := by decide +kernel
theorem dX7_readsRider_124 : decode cX7_readsRider 124 = .ok (.invokevirtual 115, 3) := by decide +kernel
theorem dX7_readsRider_127 : decode cX7_readsRider 127 = .ok (.istore 6, 2) := by decide +kernel
theorem dX7_readsRider_129 : decode cX7_readsRider 129 = .ok (.iload 6, 2) := by decide +kernel
theorem dX7_readsRider_131 : decode cX7_readsRider 131 = .ok (.ifCond .ge 8, 3) := by decide +kernel
theorem dX7_readsRider_134 : decode cX7_readsRider 134 = .ok (.bipush (-9), 2) := by decide +kernel
theorem dX7_readsRider_136 : decode cX7_readsRider 136 = .ok (.goto 11, 3) := by decide +kernel
theorem dX7_readsRider_139 : decode cX7_readsRider 139 = .ok (.aload_n 0, 1) := by decide +kernel
theorem dX7_readsRider_140 : decode cX7_readsRider 140 = .ok (.iload_n 1, 1) := by decide +kernel
theorem dX7_readsRider_141 : decode cX7_readsRider 141 = .ok (.iload_n 2, 1) := by decide +kernel
theorem dX7_readsRider_142 : decode cX7_readsRider 142 = .ok (.bipush 9, 2) := by decide +kernel
theorem dX7_readsRider_144 : decode cX7_readsRider 144 = .ok (.invokevirtual 115, 3) := by decide +kernel
theorem dX7_readsRider_147 : decode cX7_readsRider 147 = .ok (.istore 7, 2) := by decide +kernel
theorem dX7_readsRider_149 : decode cX7_readsRider 149 = .ok (.iload 7, 2) := by decide +kernel
theorem dX7_readsRider_151 : decode cX7_readsRider 151 = .ok (.ifCond .ge 5, 3) := by decide +kernel
theorem dX7_readsRider_154 : decode cX7_readsRider 154 = .ok (.iconst 0, 1) := by decide +kernel
theorem dX7_readsRider_155 : decode cX7_readsRider 155 = .ok (.ireturn, 1) := by decide +kernel
theorem dX7_readsRider_156 : decode cX7_readsRider 156 = .ok (.aload_n 0, 1) := by decide +kernel
theorem dX7_readsRider_157 : decode cX7_readsRider 157 = .ok (.getfield 31, 3) := by decide +kernel
theorem dX7_readsRider_160 : decode cX7_readsRider 160 = .ok (.aload_n 0, 1) := by decide +kernel
theorem dX7_readsRider_161 : decode cX7_readsRider 161 = .ok (.getfield 112, 3) := by decide +kernel
theorem dX7_readsRider_164 : decode cX7_readsRider 164 = .ok (.iload_n 3, 1) := by decide +kernel
theorem dX7_readsRider_165 : decode cX7_readsRider 165 = .ok (.bipush 114, 2) := by decide +kernel
theorem dX7_readsRider_167 : decode cX7_readsRider 167 = .ok (.if_icmp .ne 7, 3) := by decide +kernel
theorem dX7_readsRider_170 : decode cX7_readsRider 170 = .ok (.iconst 0, 1) := by decide +kernel
theorem dX7_readsRider_171 : decode cX7_readsRider 171 = .ok (.goto 14, 3) := by decide +kernel
theorem dX7_readsRider_174 : decode cX7_readsRider 174 = .ok (.iload_n 3, 1) := by decide +kernel
theorem dX7_readsRider_175 : decode cX7_readsRider 175 = .ok (.bipush 108, 2) := by decide +kernel
theorem dX7_readsRider_177 : decode cX7_readsRider 177 = .ok (.if_icmp .ne 7, 3) := by decide +kernel
theorem dX7_readsRider_180 : decode cX7_readsRider 180 = .ok (.iconst 1, 1) := by decide +kernel
theorem dX7_readsRider_181 : decode cX7_readsRider 181 = .ok (.goto 4, 3) := by decide +kernel
theorem dX7_readsRider_184 : decode cX7_readsRider 184 = .ok (.iconst 2, 1) := by decide +kernel
theorem dX7_readsRider_185 : decode cX7_readsRider 185 = .ok (.iastore, 1) := by decide +kernel
theorem dX7_readsRider_186 : decode cX7_readsRider 186 = .ok (.aload_n 0, 1) := by decide +kernel
theorem dX7_readsRider_187 : decode cX7_readsRider 187 = .ok (.getfield 34, 3) := by decide +kernel
theorem dX7_readsRider_190 : decode cX7_readsRider 190 = .ok (.aload_n 0, 1) := by decide +kernel
theorem dX7_readsRider_191 : decode cX7_readsRider 191 = .ok (.getfield 112, 3) := by decide +kernel
theorem dX7_readsRider_194 : decode cX7_readsRider 194 = .ok (.iload 4, 2) := by decide +kernel
theorem dX7_readsRider_196 : decode cX7_readsRider 196 = .ok (.iastore, 1) := by decide +kernel
theorem dX7_readsRider_197 : decode cX7_readsRider 197 = .ok (.aload_n 0, 1) := by decide +kernel
theorem dX7_readsRider_198 : decode cX7_readsRider 198 = .ok (.getfield 37, 3) := by decide +kernel
theorem dX7_readsRider_201 : decode cX7_readsRider 201 = .ok (.aload_n 0, 1) := by decide +kernel
theorem dX7_readsRider_202 : decode cX7_readsRider 202 = .ok (.getfield 112, 3) := by decide +kernel
theorem dX7_readsRider_205 : decode cX7_readsRider 205 = .ok (.iload 5, 2) := by decide +kernel
theorem dX7_readsRider_207 : decode cX7_readsRider 207 = .ok (.iastore, 1) := by decide +kernel
theorem dX7_readsRider_208 : decode cX7_readsRider 208 = .ok (.aload_n 0, 1) := by decide +kernel
theorem dX7_readsRider_209 : decode cX7_readsRider 209 = .ok (.getfield 40, 3) := by decide +kernel
theorem dX7_readsRider_212 : decode cX7_readsRider 212 = .ok (.aload_n 0, 1) := by decide +kernel
theorem dX7_readsRider_213 : decode cX7_readsRider 213 = .ok (.getfield 112, 3) := by decide +kernel
theorem dX7_readsRider_216 : decode cX7_readsRider 216 = .ok (.iload 6, 2) := by decide +kernel
theorem dX7_readsRider_218 : decode cX7_readsRider 218 = .ok (.iastore, 1) := by decide +kernel
theorem dX7_readsRider_219 : decode cX7_readsRider 219 = .ok (.aload_n 0, 1) := by decide +kernel
theorem dX7_readsRider_220 : decode cX7_readsRider 220 = .ok (.getfield 43, 3) := by decide +kernel
theorem dX7_readsRider_223 : decode cX7_readsRider 223 = .ok (.aload_n 0, 1) := by decide +kernel
theorem dX7_readsRider_224 : decode cX7_readsRider 224 = .ok (.getfield 112, 3) := by decide +kernel
theorem dX7_readsRider_227 : decode cX7_readsRider 227 = .ok (.iload 7, 2) := by decide +kernel
theorem dX7_readsRider_229 : decode cX7_readsRider 229 = .ok (.iastore, 1) := by decide +kernel
theorem dX7_readsRider_230 : decode cX7_readsRider 230 = .ok (.aload_n 0, 1) := by decide +kernel
theorem dX7_readsRider_231 : decode cX7_readsRider 231 = .ok (.dup, 1) := by decide +kernel
theorem dX7_readsRider_232 : decode cX7_readsRider 232 = .ok (.getfield 112, 3) := by decide +kernel
theorem dX7_readsRider_235 : decode cX7_readsRider 235 = .ok (.iconst 1, 1) := by decide +kernel
theorem dX7_readsRider_236 : decode cX7_readsRider 236 = .ok (.iadd, 1) := by decide +kernel
theorem dX7_readsRider_237 : decode cX7_readsRider 237 = .ok (.putfield 112, 3) := by decide +kernel
theorem dX7_readsRider_240 : decode cX7_readsRider 240 = .ok (.iconst 1, 1) := by decide +kernel
theorem dX7_readsRider_241 : decode cX7_readsRider 241 = .ok (.ireturn, 1) := by decide +kernel
theorem dX7_readsRide_0 : decode cX7_readsRide 0 = .ok (.aload_n 0, 1) := by decide +kernel
theorem dX7_readsRide_1 : decode cX7_readsRide 1 = .ok (.iconst 0, 1) := by decide +kernel
theorem dX7_readsRide_2 : decode cX7_readsRide 2 = .ok (.putfield 98, 3) := by decide +kernel
theorem dX7_readsRide_5 : decode cX7_readsRide 5 = .ok (.aload_n 0, 1) := by decide +kernel
theorem dX7_readsRide_6 : decode cX7_readsRide 6 = .ok (.iconst 0, 1) := by decide +kernel
theorem dX7_readsRide_7 : decode cX7_readsRide 7 = .ok (.putfield 109, 3) := by decide +kernel
theorem dX7_readsRide_10 : decode cX7_readsRide 10 = .ok (.aload_n 0, 1) := by decide +kernel
theorem dX7_readsRide_11 : decode cX7_readsRide 11 = .ok (.iconst 0, 1) := by decide +kernel
theorem dX7_readsRide_12 : decode cX7_readsRide 12 = .ok (.putfield 112, 3) := by decide +kernel
theorem dX7_readsRide_15 : decode cX7_readsRide 15 = .ok (.aload_n 0, 1) := by decide +kernel
theorem dX7_readsRide_16 : decode cX7_readsRide 16 = .ok (.iload_n 1, 1) := by decide +kernel
theorem dX7_readsRide_17 : decode cX7_readsRide 17 = .ok (.iload_n 2, 1) := by decide +kernel
theorem dX7_readsRide_18 : decode cX7_readsRide 18 = .ok (.invokevirtual 101, 3) := by decide +kernel
theorem dX7_readsRide_21 : decode cX7_readsRide 21 = .ok (.bipush 117, 2) := by decide +kernel
theorem dX7_readsRide_23 : decode cX7_readsRide 23 = .ok (.if_icmp .ne 7, 3) := by decide +kernel
theorem dX7_readsRide_26 : decode cX7_readsRide 26 = .ok (.iconst 1, 1) := by decide +kernel
theorem dX7_readsRide_27 : decode cX7_readsRide 27 = .ok (.goto 4, 3) := by decide +kernel
theorem dX7_readsRide_30 : decode cX7_readsRide 30 = .ok (.iconst 0, 1) := by decide +kernel
theorem dX7_readsRide_31 : decode cX7_readsRide 31 = .ok (.istore_n 3, 1) := by decide +kernel
theorem dX7_readsRide_32 : decode cX7_readsRide 32 = .ok (.aload_n 0, 1) := by decide +kernel
theorem dX7_readsRide_33 : decode cX7_readsRide 33 = .ok (.dup, 1) := by decide +kernel
theorem dX7_readsRide_34 : decode cX7_readsRide 34 = .ok (.getfield 98, 3) := by decide +kernel
theorem dX7_readsRide_37 : decode cX7_readsRide 37 = .ok (.iload_n 3, 1) := by decide +kernel
theorem dX7_readsRide_38 : decode cX7_readsRide 38 = .ok (.ifCond .eq 7, 3) := by decide +kernel
theorem dX7_readsRide_41 : decode cX7_readsRide 41 = .ok (.iconst 1, 1) := by decide +kernel
theorem dX7_readsRide_42 : decode cX7_readsRide 42 = .ok (.goto 4, 3) := by decide +kernel
theorem dX7_readsRide_45 : decode cX7_readsRide 45 = .ok (.iconst 0, 1) := by decide +kernel
theorem dX7_readsRide_46 : decode cX7_readsRide 46 = .ok (.iadd, 1) := by decide +kernel
theorem dX7_readsRide_47 : decode cX7_readsRide 47 = .ok (.putfield 98, 3) := by decide +kernel
theorem dX7_readsRide_50 : decode cX7_readsRide 50 = .ok (.aload_n 0, 1) := by decide +kernel
theorem dX7_readsRide_51 : decode cX7_readsRide 51 = .ok (.iload_n 3, 1) := by decide +kernel
theorem dX7_readsRide_52 : decode cX7_readsRide 52 = .ok (.ifCond .eq 14, 3) := by decide +kernel
theorem dX7_readsRide_55 : decode cX7_readsRide 55 = .ok (.aload_n 0, 1) := by decide +kernel
theorem dX7_readsRide_56 : decode cX7_readsRide 56 = .ok (.iload_n 1, 1) := by decide +kernel
theorem dX7_readsRide_57 : decode cX7_readsRide 57 = .ok (.iload_n 2, 1) := by decide +kernel
theorem dX7_readsRide_58 : decode cX7_readsRide 58 = .ok (.iconst 0, 1) := by decide +kernel
theorem dX7_readsRide_59 : decode cX7_readsRide 59 = .ok (.iconst 3, 1) := by decide +kernel
theorem dX7_readsRide_60 : decode cX7_readsRide 60 = .ok (.invokevirtual 105, 3) := by decide +kernel
theorem dX7_readsRide_63 : decode cX7_readsRide 63 = .ok (.goto 5, 3) := by decide +kernel
theorem dX7_readsRide_66 : decode cX7_readsRide 66 = .ok (.bipush (-9), 2) := by decide +kernel
theorem dX7_readsRide_68 : decode cX7_readsRide 68 = .ok (.putfield 119, 3) := by decide +kernel
theorem dX7_readsRide_71 : decode cX7_readsRide 71 = .ok (.aload_n 0, 1) := by decide +kernel
theorem dX7_readsRide_72 : decode cX7_readsRide 72 = .ok (.getfield 119, 3) := by decide +kernel
theorem dX7_readsRide_75 : decode cX7_readsRide 75 = .ok (.ifCond .lt 18, 3) := by decide +kernel
theorem dX7_readsRide_78 : decode cX7_readsRide 78 = .ok (.aload_n 0, 1) := by decide +kernel
theorem dX7_readsRide_79 : decode cX7_readsRide 79 = .ok (.iload_n 1, 1) := by decide +kernel
theorem dX7_readsRide_80 : decode cX7_readsRide 80 = .ok (.iload_n 2, 1) := by decide +kernel
theorem dX7_readsRide_81 : decode cX7_readsRide 81 = .ok (.invokevirtual 101, 3) := by decide +kernel
theorem dX7_readsRide_84 : decode cX7_readsRide 84 = .ok (.bipush 44, 2) := by decide +kernel
theorem dX7_readsRide_86 : decode cX7_readsRide 86 = .ok (.if_icmp .ne 7, 3) := by decide +kernel
theorem dX7_readsRide_89 : decode cX7_readsRide 89 = .ok (.iconst 1, 1) := by decide +kernel
theorem dX7_readsRide_90 : decode cX7_readsRide 90 = .ok (.goto 4, 3) := by decide +kernel
theorem dX7_readsRide_93 : decode cX7_readsRide 93 = .ok (.iconst 0, 1) := by decide +kernel
theorem dX7_readsRide_94 : decode cX7_readsRide 94 = .ok (.istore_n 3, 1) := by decide +kernel
theorem dX7_readsRide_95 : decode cX7_readsRide 95 = .ok (.aload_n 0, 1) := by decide +kernel
theorem dX7_readsRide_96 : decode cX7_readsRide 96 = .ok (.dup, 1) := by decide +kernel
theorem dX7_readsRide_97 : decode cX7_readsRide 97 = .ok (.getfield 98, 3) := by decide +kernel
theorem dX7_readsRide_100 : decode cX7_readsRide 100 = .ok (.iload_n 3, 1) := by decide +kernel
theorem dX7_readsRide_101 : decode cX7_readsRide 101 = .ok (.ifCond .eq 7, 3) := by decide +kernel
theorem dX7_readsRide_104 : decode cX7_readsRide 104 = .ok (.iconst 1, 1) := by decide +kernel
theorem dX7_readsRide_105 : decode cX7_readsRide 105 = .ok (.goto 4, 3) := by decide +kernel
theorem dX7_readsRide_108 : decode cX7_readsRide 108 = .ok (.iconst 0, 1) := by decide +kernel
theorem dX7_readsRide_109 : decode cX7_readsRide 109 = .ok (.iadd, 1) := by decide +kernel
theorem dX7_readsRide_110 : decode cX7_readsRide 110 = .ok (.putfield 98, 3) := by decide +kernel
theorem dX7_readsRide_113 : decode cX7_readsRide 113 = .ok (.iload_n 3, 1) := by decide +kernel
theorem dX7_readsRide_114 : decode cX7_readsRide 114 = .ok (.ifCond .eq 16, 3) := by decide +kernel
theorem dX7_readsRide_117 : decode cX7_readsRide 117 = .ok (.aload_n 0, 1) := by decide +kernel
theorem dX7_readsRide_118 : decode cX7_readsRide 118 = .ok (.iload_n 1, 1) := by decide +kernel
theorem dX7_readsRide_119 : decode cX7_readsRide 119 = .ok (.iload_n 2, 1) := by decide +kernel
theorem dX7_readsRide_120 : decode cX7_readsRide 120 = .ok (.invokevirtual 122, 3) := by decide +kernel
theorem dX7_readsRide_123 : decode cX7_readsRide 123 = .ok (.ifCond .eq 7, 3) := by decide +kernel
theorem dX7_readsRide_126 : decode cX7_readsRide 126 = .ok (.iconst 1, 1) := by decide +kernel
theorem dX7_readsRide_127 : decode cX7_readsRide 127 = .ok (.goto 4, 3) := by decide +kernel
theorem dX7_readsRide_130 : decode cX7_readsRide 130 = .ok (.iconst 0, 1) := by decide +kernel
theorem dX7_readsRide_131 : decode cX7_readsRide 131 = .ok (.istore_n 3, 1) := by decide +kernel
theorem dX7_readsRide_132 : decode cX7_readsRide 132 = .ok (.iload_n 3, 1) := by decide +kernel
theorem dX7_readsRide_133 : decode cX7_readsRide 133 = .ok (.ifCond .eq 28, 3) := by decide +kernel
theorem dX7_readsRide_136 : decode cX7_readsRide 136 = .ok (.aload_n 0, 1) := by decide +kernel
theorem dX7_readsRide_137 : decode cX7_readsRide 137 = .ok (.getfield 112, 3) := by decide +kernel
theorem dX7_readsRide_140 : decode cX7_readsRide 140 = .ok (.ifCond .eq 11, 3) := by decide +kernel
theorem dX7_readsRide_143 : decode cX7_readsRide 143 = .ok (.aload_n 0, 1) := by decide +kernel
theorem dX7_readsRide_144 : decode cX7_readsRide 144 = .ok (.getfield 98, 3) := by decide +kernel
theorem dX7_readsRide_147 : decode cX7_readsRide 147 = .ok (.iload_n 2, 1) := by decide +kernel
theorem dX7_readsRide_148 : decode cX7_readsRide 148 = .ok (.if_icmp .ge 13, 3) := by decide +kernel
theorem dX7_readsRide_151 : decode cX7_readsRide 151 = .ok (.aload_n 0, 1) := by decide +kernel
theorem dX7_readsRide_152 : decode cX7_readsRide 152 = .ok (.iload_n 1, 1) := by decide +kernel
theorem dX7_readsRide_153 : decode cX7_readsRide 153 = .ok (.iload_n 2, 1) := by decide +kernel
theorem dX7_readsRide_154 : decode cX7_readsRide 154 = .ok (.invokevirtual 126, 3) := by decide +kernel
theorem dX7_readsRide_157 : decode cX7_readsRide 157 = .ok (.istore_n 3, 1) := by decide +kernel
theorem dX7_readsRide_158 : decode cX7_readsRide 158 = .ok (.goto (-26), 3) := by decide +kernel
theorem dX7_readsRide_161 : decode cX7_readsRide 161 = .ok (.iload_n 3, 1) := by decide +kernel
theorem dX7_readsRide_162 : decode cX7_readsRide 162 = .ok (.ireturn, 1) := by decide +kernel
theorem dX7_cellsBarred_0 : decode cX7_cellsBarred 0 = .ok (.aload_n 0, 1) := by decide +kernel
theorem dX7_cellsBarred_1 : decode cX7_cellsBarred 1 = .ok (.getfield 62, 3) := by decide +kernel
theorem dX7_cellsBarred_4 : decode cX7_cellsBarred 4 = .ok (.iload_n 1, 1) := by decide +kernel
theorem dX7_cellsBarred_5 : decode cX7_cellsBarred 5 = .ok (.iaload, 1) := by decide +kernel
theorem dX7_cellsBarred_6 : decode cX7_cellsBarred 6 = .ok (.ifCond .lt 19, 3) := by decide +kernel
theorem dX7_cellsBarred_9 : decode cX7_cellsBarred 9 = .ok (.aload_n 0, 1) := by decide +kernel
theorem dX7_cellsBarred_10 : decode cX7_cellsBarred 10 = .ok (.getfield 65, 3) := by decide +kernel
theorem dX7_cellsBarred_13 : decode cX7_cellsBarred 13 = .ok (.iload_n 1, 1) := by decide +kernel
theorem dX7_cellsBarred_14 : decode cX7_cellsBarred 14 = .ok (.iaload, 1) := by decide +kernel
theorem dX7_cellsBarred_15 : decode cX7_cellsBarred 15 = .ok (.iload_n 2, 1) := by decide +kernel
theorem dX7_cellsBarred_16 : decode cX7_cellsBarred 16 = .ok (.if_icmp .eq 9, 3) := by decide +kernel
theorem dX7_cellsBarred_19 : decode cX7_cellsBarred 19 = .ok (.aload_n 0, 1) := by decide +kernel
theorem dX7_cellsBarred_20 : decode cX7_cellsBarred 20 = .ok (.iconst 2, 1) := by decide +kernel
theorem dX7_cellsBarred_21 : decode cX7_cellsBarred 21 = .ok (.invokevirtual 129, 3) := by decide +kernel
theorem dX7_cellsBarred_24 : decode cX7_cellsBarred 24 = .ok (.ireturn, 1) := by decide +kernel
theorem dX7_cellsBarred_25 : decode cX7_cellsBarred 25 = .ok (.aload_n 0, 1) := by decide +kernel
theorem dX7_cellsBarred_26 : decode cX7_cellsBarred 26 = .ok (.getfield 62, 3) := by decide +kernel
theorem dX7_cellsBarred_29 : decode cX7_cellsBarred 29 = .ok (.iload_n 1, 1) := by decide +kernel
theorem dX7_cellsBarred_30 : decode cX7_cellsBarred 30 = .ok (.iaload, 1) := by decide +kernel
theorem dX7_cellsBarred_31 : decode cX7_cellsBarred 31 = .ok (.ifCond .ge 9, 3) := by decide +kernel
theorem dX7_cellsBarred_34 : decode cX7_cellsBarred 34 = .ok (.aload_n 0, 1) := by decide +kernel
theorem dX7_cellsBarred_35 : decode cX7_cellsBarred 35 = .ok (.iconst 1, 1) := by decide +kernel
theorem dX7_cellsBarred_36 : decode cX7_cellsBarred 36 = .ok (.invokevirtual 129, 3) := by decide +kernel
theorem dX7_cellsBarred_39 : decode cX7_cellsBarred 39 = .ok (.ireturn, 1) := by decide +kernel
theorem dX7_cellsBarred_40 : decode cX7_cellsBarred 40 = .ok (.lload 4, 2) := by decide +kernel
theorem dX7_cellsBarred_42 : decode cX7_cellsBarred 42 = .ok (.lconst 0, 1) := by decide +kernel
theorem dX7_cellsBarred_43 : decode cX7_cellsBarred 43 = .ok (.lcmp, 1) := by decide +kernel
theorem dX7_cellsBarred_44 : decode cX7_cellsBarred 44 = .ok (.ifCond .ge 9, 3) := by decide +kernel
theorem dX7_cellsBarred_47 : decode cX7_cellsBarred 47 = .ok (.aload_n 0, 1) := by decide +kernel
theorem dX7_cellsBarred_48 : decode cX7_cellsBarred 48 = .ok (.iconst 4, 1) := by decide +kernel
theorem dX7_cellsBarred_49 : decode cX7_cellsBarred 49 = .ok (.invokevirtual 129, 3) := by decide +kernel
theorem dX7_cellsBarred_52 : decode cX7_cellsBarred 52 = .ok (.ireturn, 1) := by decide +kernel
theorem dX7_cellsBarred_53 : decode cX7_cellsBarred 53 = .ok (.iload_n 3, 1) := by decide +kernel
theorem dX7_cellsBarred_54 : decode cX7_cellsBarred 54 = .ok (.lload 4, 2) := by decide +kernel
theorem dX7_cellsBarred_56 : decode cX7_cellsBarred 56 = .ok (.aload_n 0, 1) := by decide +kernel
theorem dX7_cellsBarred_57 : decode cX7_cellsBarred 57 = .ok (.getfield 62, 3) := by decide +kernel
theorem dX7_cellsBarred_60 : decode cX7_cellsBarred 60 = .ok (.iload_n 1, 1) := by decide +kernel
theorem dX7_cellsBarred_61 : decode cX7_cellsBarred 61 = .ok (.iaload, 1) := by decide +kernel
theorem dX7_cellsBarred_62 : decode cX7_cellsBarred 62 = .ok (.invokestatic 132, 3) := by decide +kernel
theorem dX7_cellsBarred_65 : decode cX7_cellsBarred 65 = .ok (.ifCond .eq 11, 3) := by decide +kernel
theorem dX7_cellsBarred_68 : decode cX7_cellsBarred 68 = .ok (.aload_n 0, 1) := by decide +kernel
theorem dX7_cellsBarred_69 : decode cX7_cellsBarred 69 = .ok (.iconst 3, 1) := by decide +kernel
theorem dX7_cellsBarred_70 : decode cX7_cellsBarred 70 = .ok (.invokevirtual 129, 3) := by decide +kernel
theorem dX7_cellsBarred_73 : decode cX7_cellsBarred 73 = .ok (.goto 4, 3) := by decide +kernel
theorem dX7_cellsBarred_76 : decode cX7_cellsBarred 76 = .ok (.iconst 0, 1) := by decide +kernel
theorem dX7_cellsBarred_77 : decode cX7_cellsBarred 77 = .ok (.ireturn, 1) := by decide +kernel
theorem dX7_ride_0 : decode cX7_ride 0 = .ok (.iload_n 1, 1) := by decide +kernel
theorem dX7_ride_1 : decode cX7_ride 1 = .ok (.invokestatic 136, 3) := by decide +kernel
theorem dX7_ride_4 : decode cX7_ride 4 = .ok (.ifCond .eq 9, 3) := by decide +kernel
theorem dX7_ride_7 : decode cX7_ride 7 = .ok (.aload_n 0, 1) := by decide +kernel
theorem dX7_ride_8 : decode cX7_ride 8 = .ok (.iconst (-1), 1) := by decide +kernel
theorem dX7_ride_9 : decode cX7_ride 9 = .ok (.invokevirtual 140, 3) := by decide +kernel
theorem dX7_ride_12 : decode cX7_ride 12 = .ok (.ireturn, 1) := by decide +kernel
theorem dX7_ride_13 : decode cX7_ride 13 = .ok (.iload_n 2, 1) := by decide +kernel
theorem dX7_ride_14 : decode cX7_ride 14 = .ok (.i2l, 1) := by decide +kernel
theorem dX7_ride_15 : decode cX7_ride 15 = .ok (.lconst 0, 1) := by decide +kernel
theorem dX7_ride_16 : decode cX7_ride 16 = .ok (.ldc2_w 143, 3) := by decide +kernel
theorem dX7_ride_19 : decode cX7_ride 19 = .ok (.invokestatic 87, 3) := by decide +kernel
theorem dX7_ride_22 : decode cX7_ride 22 = .ok (.ifCond .ne 10, 3) := by decide +kernel
theorem dX7_ride_25 : decode cX7_ride 25 = .ok (.aload_n 0, 1) := by decide +kernel
theorem dX7_ride_26 : decode cX7_ride 26 = .ok (.bipush (-2), 2) := by decide +kernel
theorem dX7_ride_28 : decode cX7_ride 28 = .ok (.invokevirtual 140, 3) := by decide +kernel
theorem dX7_ride_31 : decode cX7_ride 31 = .ok (.ireturn, 1) := by decide +kernel
theorem dX7_ride_32 : decode cX7_ride 32 = .ok (.aload_n 0, 1) := by decide +kernel
theorem dX7_ride_33 : decode cX7_ride 33 = .ok (.iload_n 1, 1) := by decide +kernel
theorem dX7_ride_34 : decode cX7_ride 34 = .ok (.iload_n 2, 1) := by decide +kernel
theorem dX7_ride_35 : decode cX7_ride 35 = .ok (.iload_n 3, 1) := by decide +kernel
theorem dX7_ride_36 : decode cX7_ride 36 = .ok (.iload 4, 2) := by decide +kernel
theorem dX7_ride_38 : decode cX7_ride 38 = .ok (.i2l, 1) := by decide +kernel
theorem dX7_ride_39 : decode cX7_ride 39 = .ok (.invokevirtual 145, 3) := by decide +kernel
theorem dX7_ride_42 : decode cX7_ride 42 = .ok (.istore 5, 2) := by decide +kernel
theorem dX7_ride_44 : decode cX7_ride 44 = .ok (.iload 5, 2) := by decide +kernel
theorem dX7_ride_46 : decode cX7_ride 46 = .ok (.ifCond .ge 6, 3) := by decide +kernel
theorem dX7_ride_49 : decode cX7_ride 49 = .ok (.iload 5, 2) := by decide +kernel
theorem dX7_ride_51 : decode cX7_ride 51 = .ok (.ireturn, 1) := by decide +kernel
theorem dX7_ride_52 : decode cX7_ride 52 = .ok (.aload_n 0, 1) := by decide +kernel
theorem dX7_ride_53 : decode cX7_ride 53 = .ok (.bipush 60, 2) := by decide +kernel
theorem dX7_ride_55 : decode cX7_ride 55 = .ok (.iload_n 1, 1) := by decide +kernel
theorem dX7_ride_56 : decode cX7_ride 56 = .ok (.imul, 1) := by decide +kernel
theorem dX7_ride_57 : decode cX7_ride 57 = .ok (.iload_n 3, 1) := by decide +kernel
theorem dX7_ride_58 : decode cX7_ride 58 = .ok (.iadd, 1) := by decide +kernel
theorem dX7_ride_59 : decode cX7_ride 59 = .ok (.iload 4, 2) := by decide +kernel
theorem dX7_ride_61 : decode cX7_ride 61 = .ok (.invokevirtual 149, 3) := by decide +kernel
theorem dX7_ride_64 : decode cX7_ride 64 = .ok (.ifCond .ne 15, 3) := by decide +kernel
theorem dX7_ride_67 : decode cX7_ride 67 = .ok (.aload_n 0, 1) := by decide +kernel
theorem dX7_ride_68 : decode cX7_ride 68 = .ok (.bipush (-100), 2) := by decide +kernel
theorem dX7_ride_70 : decode cX7_ride 70 = .ok (.aload_n 0, 1) := by decide +kernel
theorem dX7_ride_71 : decode cX7_ride 71 = .ok (.getfield 98, 3) := by decide +kernel
theorem dX7_ride_74 : decode cX7_ride 74 = .ok (.isub, 1) := by decide +kernel
theorem dX7_ride_75 : decode cX7_ride 75 = .ok (.invokevirtual 140, 3) := by decide +kernel
theorem dX7_ride_78 : decode cX7_ride 78 = .ok (.ireturn, 1) := by decide +kernel
theorem dX7_ride_79 : decode cX7_ride 79 = .ok (.aload_n 0, 1) := by decide +kernel
theorem dX7_ride_80 : decode cX7_ride 80 = .ok (.aload_n 0, 1) := by decide +kernel
theorem dX7_ride_81 : decode cX7_ride 81 = .ok (.getfield 119, 3) := by decide +kernel
theorem dX7_ride_84 : decode cX7_ride 84 = .ok (.putfield 152, 3) := by decide +kernel
theorem dX7_ride_87 : decode cX7_ride 87 = .ok (.aload_n 0, 1) := by decide +kernel
theorem dX7_ride_88 : decode cX7_ride 88 = .ok (.aload_n 0, 1) := by decide +kernel
theorem dX7_ride_89 : decode cX7_ride 89 = .ok (.getfield 109, 3) := by decide +kernel
theorem dX7_ride_92 : decode cX7_ride 92 = .ok (.putfield 84, 3) := by decide +kernel
theorem dX7_ride_95 : decode cX7_ride 95 = .ok (.aload_n 0, 1) := by decide +kernel
theorem dX7_ride_96 : decode cX7_ride 96 = .ok (.aload_n 0, 1) := by decide +kernel
theorem dX7_ride_97 : decode cX7_ride 97 = .ok (.getfield 112, 3) := by decide +kernel
theorem dX7_ride_100 : decode cX7_ride 100 = .ok (.putfield 91, 3) := by decide +kernel
theorem dX7_ride_103 : decode cX7_ride 103 = .ok (.iconst 0, 1) := by decide +kernel
theorem dX7_ride_104 : decode cX7_ride 104 = .ok (.istore 6, 2) := by decide +kernel
theorem dX7_ride_106 : decode cX7_ride 106 = .ok (.iload 6, 2) := by decide +kernel
theorem dX7_ride_108 : decode cX7_ride 108 = .ok (.aload_n 0, 1) := by decide +kernel
theorem dX7_ride_109 : decode cX7_ride 109 = .ok (.getfield 84, 3) := by decide +kernel
theorem dX7_ride_112 : decode cX7_ride 112 = .ok (.if_icmp .ge 23, 3) := by decide +kernel
theorem dX7_ride_115 : decode cX7_ride 115 = .ok (.aload_n 0, 1) := by decide +kernel
theorem dX7_ride_116 : decode cX7_ride 116 = .ok (.getfield 7, 3) := by decide +kernel
theorem dX7_ride_119 : decode cX7_ride 119 = .ok (.iload 6, 2) := by decide +kernel
theorem dX7_ride_121 : decode cX7_ride 121 = .ok (.aload_n 0, 1) := by decide +kernel
theorem dX7_ride_122 : decode cX7_ride 122 = .ok (.getfield 28, 3) := by decide +kernel
theorem dX7_ride_125 : decode cX7_ride 125 = .ok (.iload 6, 2) := by decide +kernel
theorem dX7_ride_127 : decode cX7_ride 127 = .ok (.iaload, 1) := by decide +kernel
theorem dX7_ride_128 : decode cX7_ride 128 = .ok (.iastore, 1) := by decide +kernel
theorem dX7_ride_129 : decode cX7_ride 129 = .ok (.iinc 6 1, 3) := by decide +kernel
theorem dX7_ride_132 : decode cX7_ride 132 = .ok (.goto (-26), 3) := by decide +kernel
theorem dX7_ride_135 : decode cX7_ride 135 = .ok (.iconst 0, 1) := by decide +kernel
theorem dX7_ride_136 : decode cX7_ride 136 = .ok (.istore 6, 2) := by decide +kernel
theorem dX7_ride_138 : decode cX7_ride 138 = .ok (.iload 6, 2) := by decide +kernel
theorem dX7_ride_140 : decode cX7_ride 140 = .ok (.aload_n 0, 1) := by decide +kernel
theorem dX7_ride_141 : decode cX7_ride 141 = .ok (.getfield 91, 3) := by decide +kernel
theorem dX7_ride_144 : decode cX7_ride 144 = .ok (.if_icmp .ge 79, 3) := by decide +kernel
theorem dX7_ride_147 : decode cX7_ride 147 = .ok (.aload_n 0, 1) := by decide +kernel
theorem dX7_ride_148 : decode cX7_ride 148 = .ok (.getfield 13, 3) := by decide +kernel
theorem dX7_ride_151 : decode cX7_ride 151 = .ok (.iload 6, 2) := by decide +kernel
theorem dX7_ride_153 : decode cX7_ride 153 = .ok (.aload_n 0, 1) := by decide +kernel
theorem dX7_ride_154 : decode cX7_ride 154 = .ok (.getfield 31, 3) := by decide +kernel
theorem dX7_ride_157 : decode cX7_ride 157 = .ok (.iload 6, 2) := by decide +kernel
theorem dX7_ride_159 : decode cX7_ride 159 = .ok (.iaload, 1) := by decide +kernel
theorem dX7_ride_160 : decode cX7_ride 160 = .ok (.iastore, 1) := by decide +kernel
theorem dX7_ride_161 : decode cX7_ride 161 = .ok (.aload_n 0, 1) := by decide +kernel
theorem dX7_ride_162 : decode cX7_ride 162 = .ok (.getfield 16, 3) := by decide +kernel
theorem dX7_ride_165 : decode cX7_ride 165 = .ok (.iload 6, 2) := by decide +kernel
theorem dX7_ride_167 : decode cX7_ride 167 = .ok (.aload_n 0, 1) := by decide +kernel
theorem dX7_ride_168 : decode cX7_ride 168 = .ok (.getfield 34, 3) := by decide +kernel
theorem dX7_ride_171 : decode cX7_ride 171 = .ok (.iload 6, 2) := by decide +kernel
theorem dX7_ride_173 : decode cX7_ride 173 = .ok (.iaload, 1) := by decide +kernel
theorem dX7_ride_174 : decode cX7_ride 174 = .ok (.iastore, 1) := by decide +kernel
theorem dX7_ride_175 : decode cX7_ride 175 = .ok (.aload_n 0, 1) := by decide +kernel
theorem dX7_ride_176 : decode cX7_ride 176 = .ok (.getfield 19, 3) := by decide +kernel
theorem dX7_ride_179 : decode cX7_ride 179 = .ok (.iload 6, 2) := by decide +kernel
theorem dX7_ride_181 : decode cX7_ride 181 = .ok (.aload_n 0, 1) := by decide +kernel
theorem dX7_ride_182 : decode cX7_ride 182 = .ok (.getfield 37, 3) := by decide +kernel
theorem dX7_ride_185 : decode cX7_ride 185 = .ok (.iload 6, 2) := by decide +kernel
theorem dX7_ride_187 : decode cX7_ride 187 = .ok (.iaload, 1) := by decide +kernel
theorem dX7_ride_188 : decode cX7_ride 188 = .ok (.iastore, 1) := by decide +kernel
theorem dX7_ride_189 : decode cX7_ride 189 = .ok (.aload_n 0, 1) := by decide +kernel
theorem dX7_ride_190 : decode cX7_ride 190 = .ok (.getfield 22, 3) := by decide +kernel
theorem dX7_ride_193 : decode cX7_ride 193 = .ok (.iload 6, 2) := by decide +kernel
theorem dX7_ride_195 : decode cX7_ride 195 = .ok (.aload_n 0, 1) := by decide +kernel
theorem dX7_ride_196 : decode cX7_ride 196 = .ok (.getfield 40, 3) := by decide +kernel
theorem dX7_ride_199 : decode cX7_ride 199 = .ok (.iload 6, 2) := by decide +kernel
theorem dX7_ride_201 : decode cX7_ride 201 = .ok (.iaload, 1) := by decide +kernel
theorem dX7_ride_202 : decode cX7_ride 202 = .ok (.iastore, 1) := by decide +kernel
theorem dX7_ride_203 : decode cX7_ride 203 = .ok (.aload_n 0, 1) := by decide +kernel
theorem dX7_ride_204 : decode cX7_ride 204 = .ok (.getfield 25, 3) := by decide +kernel
theorem dX7_ride_207 : decode cX7_ride 207 = .ok (.iload 6, 2) := by decide +kernel
theorem dX7_ride_209 : decode cX7_ride 209 = .ok (.aload_n 0, 1) := by decide +kernel
theorem dX7_ride_210 : decode cX7_ride 210 = .ok (.getfield 43, 3) := by decide +kernel
theorem dX7_ride_213 : decode cX7_ride 213 = .ok (.iload 6, 2) := by decide +kernel
theorem dX7_ride_215 : decode cX7_ride 215 = .ok (.iaload, 1) := by decide +kernel
theorem dX7_ride_216 : decode cX7_ride 216 = .ok (.iastore, 1) := by decide +kernel
theorem dX7_ride_217 : decode cX7_ride 217 = .ok (.iinc 6 1, 3) := by decide +kernel
theorem dX7_ride_220 : decode cX7_ride 220 = .ok (.goto (-82), 3) := by decide +kernel
theorem dX7_ride_223 : decode cX7_ride 223 = .ok (.aload_n 0, 1) := by decide +kernel
theorem dX7_ride_224 : decode cX7_ride 224 = .ok (.iconst 0, 1) := by decide +kernel
theorem dX7_ride_225 : decode cX7_ride 225 = .ok (.putfield 155, 3) := by decide +kernel
theorem dX7_ride_228 : decode cX7_ride 228 = .ok (.aload_n 0, 1) := by decide +kernel
theorem dX7_ride_229 : decode cX7_ride 229 = .ok (.aload_n 0, 1) := by decide +kernel
theorem dX7_ride_230 : decode cX7_ride 230 = .ok (.getfield 91, 3) := by decide +kernel
theorem dX7_ride_233 : decode cX7_ride 233 = .ok (.invokevirtual 140, 3) := by decide +kernel
theorem dX7_ride_236 : decode cX7_ride 236 = .ok (.ireturn, 1) := by decide +kernel
theorem dX7_ofRider_0 : decode cX7_ofRider 0 = .ok (.aload_n 0, 1) := by decide +kernel
theorem dX7_ofRider_1 : decode cX7_ofRider 1 = .ok (.iload_n 1, 1) := by decide +kernel
theorem dX7_ofRider_2 : decode cX7_ofRider 2 = .ok (.invokevirtual 158, 3) := by decide +kernel
theorem dX7_ofRider_5 : decode cX7_ofRider 5 = .ok (.ifCond .eq 5, 3) := by decide +kernel
theorem dX7_ofRider_8 : decode cX7_ofRider 8 = .ok (.iconst (-1), 1) := by decide +kernel
theorem dX7_ofRider_9 : decode cX7_ofRider 9 = .ok (.ireturn, 1) := by decide +kernel
theorem dX7_ofRider_10 : decode cX7_ofRider 10 = .ok (.iload_n 2, 1) := by decide +kernel
theorem dX7_ofRider_11 : decode cX7_ofRider 11 = .ok (.tableswitch 78 0 5 #[37, 44, 51, 58, 65, 72], 37) := by decide +kernel
theorem dX7_ofRider_48 : decode cX7_ofRider 48 = .ok (.aload_n 0, 1) := by decide +kernel
theorem dX7_ofRider_49 : decode cX7_ofRider 49 = .ok (.getfield 13, 3) := by decide +kernel
theorem dX7_ofRider_52 : decode cX7_ofRider 52 = .ok (.iload_n 1, 1) := by decide +kernel
theorem dX7_ofRider_53 : decode cX7_ofRider 53 = .ok (.iaload, 1) := by decide +kernel
theorem dX7_ofRider_54 : decode cX7_ofRider 54 = .ok (.ireturn, 1) := by decide +kernel
theorem dX7_ofRider_55 : decode cX7_ofRider 55 = .ok (.aload_n 0, 1) := by decide +kernel
theorem dX7_ofRider_56 : decode cX7_ofRider 56 = .ok (.getfield 16, 3) := by decide +kernel
theorem dX7_ofRider_59 : decode cX7_ofRider 59 = .ok (.iload_n 1, 1) := by decide +kernel
theorem dX7_ofRider_60 : decode cX7_ofRider 60 = .ok (.iaload, 1) := by decide +kernel
theorem dX7_ofRider_61 : decode cX7_ofRider 61 = .ok (.ireturn, 1) := by decide +kernel
theorem dX7_ofRider_62 : decode cX7_ofRider 62 = .ok (.aload_n 0, 1) := by decide +kernel
theorem dX7_ofRider_63 : decode cX7_ofRider 63 = .ok (.getfield 19, 3) := by decide +kernel
theorem dX7_ofRider_66 : decode cX7_ofRider 66 = .ok (.iload_n 1, 1) := by decide +kernel
theorem dX7_ofRider_67 : decode cX7_ofRider 67 = .ok (.iaload, 1) := by decide +kernel
theorem dX7_ofRider_68 : decode cX7_ofRider 68 = .ok (.ireturn, 1) := by decide +kernel
theorem dX7_ofRider_69 : decode cX7_ofRider 69 = .ok (.aload_n 0, 1) := by decide +kernel
theorem dX7_ofRider_70 : decode cX7_ofRider 70 = .ok (.getfield 22, 3) := by decide +kernel
theorem dX7_ofRider_73 : decode cX7_ofRider 73 = .ok (.iload_n 1, 1) := by decide +kernel
theorem dX7_ofRider_74 : decode cX7_ofRider 74 = .ok (.iaload, 1) := by decide +kernel
theorem dX7_ofRider_75 : decode cX7_ofRider 75 = .ok (.ireturn, 1) := by decide +kernel
theorem dX7_ofRider_76 : decode cX7_ofRider 76 = .ok (.aload_n 0, 1) := by decide +kernel
theorem dX7_ofRider_77 : decode cX7_ofRider 77 = .ok (.getfield 25, 3) := by decide +kernel
theorem dX7_ofRider_80 : decode cX7_ofRider 80 = .ok (.iload_n 1, 1) := by decide +kernel
theorem dX7_ofRider_81 : decode cX7_ofRider 81 = .ok (.iaload, 1) := by decide +kernel
theorem dX7_ofRider_82 : decode cX7_ofRider 82 = .ok (.ireturn, 1) := by decide +kernel
theorem dX7_ofRider_83 : decode cX7_ofRider 83 = .ok (.aload_n 0, 1) := by decide +kernel
theorem dX7_ofRider_84 : decode cX7_ofRider 84 = .ok (.iload_n 1, 1) := by decide +kernel
theorem dX7_ofRider_85 : decode cX7_ofRider 85 = .ok (.invokevirtual 94, 3) := by decide +kernel
theorem dX7_ofRider_88 : decode cX7_ofRider 88 = .ok (.ireturn, 1) := by decide +kernel
theorem dX7_ofRider_89 : decode cX7_ofRider 89 = .ok (.bipush (-2), 2) := by decide +kernel
theorem dX7_ofRider_91 : decode cX7_ofRider 91 = .ok (.ireturn, 1) := by decide +kernel
theorem dX7_slope_0 : decode cX7_slope 0 = .ok (.aload_n 0, 1) := by decide +kernel
theorem dX7_slope_1 : decode cX7_slope 1 = .ok (.iload_n 1, 1) := by decide +kernel
theorem dX7_slope_2 : decode cX7_slope 2 = .ok (.invokevirtual 161, 3) := by decide +kernel
theorem dX7_slope_5 : decode cX7_slope 5 = .ok (.ifCond .eq 7, 3) := by decide +kernel
theorem dX7_slope_8 : decode cX7_slope 8 = .ok (.iconst (-1), 1) := by decide +kernel
theorem dX7_slope_9 : decode cX7_slope 9 = .ok (.goto 9, 3) := by decide +kernel
theorem dX7_slope_12 : decode cX7_slope 12 = .ok (.aload_n 0, 1) := by decide +kernel
theorem dX7_slope_13 : decode cX7_slope 13 = .ok (.getfield 7, 3) := by decide +kernel
theorem dX7_slope_16 : decode cX7_slope 16 = .ok (.iload_n 1, 1) := by decide +kernel
theorem dX7_slope_17 : decode cX7_slope 17 = .ok (.iaload, 1) := by decide +kernel
theorem dX7_slope_18 : decode cX7_slope 18 = .ok (.ireturn, 1) := by decide +kernel
theorem dX7_tilt_0 : decode cX7_tilt 0 = .ok (.aload_n 0, 1) := by decide +kernel
theorem dX7_tilt_1 : decode cX7_tilt 1 = .ok (.iload_n 1, 1) := by decide +kernel
theorem dX7_tilt_2 : decode cX7_tilt 2 = .ok (.invokevirtual 161, 3) := by decide +kernel
theorem dX7_tilt_5 : decode cX7_tilt 5 = .ok (.ifCond .eq 5, 3) := by decide +kernel
theorem dX7_tilt_8 : decode cX7_tilt 8 = .ok (.iconst (-1), 1) := by decide +kernel
theorem dX7_tilt_9 : decode cX7_tilt 9 = .ok (.ireturn, 1) := by decide +kernel
theorem dX7_tilt_10 : decode cX7_tilt 10 = .ok (.iload_n 2, 1) := by decide +kernel
theorem dX7_tilt_11 : decode cX7_tilt 11 = .ok (.i2l, 1) := by decide +kernel
theorem dX7_tilt_12 : decode cX7_tilt 12 = .ok (.lconst 0, 1) := by decide +kernel
theorem dX7_tilt_13 : decode cX7_tilt 13 = .ok (.ldc2_w 164, 3) := by decide +kernel
theorem dX7_tilt_16 : decode cX7_tilt 16 = .ok (.invokestatic 87, 3) := by decide +kernel
theorem dX7_tilt_19 : decode cX7_tilt 19 = .ok (.ifCond .ne 6, 3) := by decide +kernel
theorem dX7_tilt_22 : decode cX7_tilt 22 = .ok (.bipush (-2), 2) := by decide +kernel
theorem dX7_tilt_24 : decode cX7_tilt 24 = .ok (.ireturn, 1) := by decide +kernel
theorem dX7_tilt_25 : decode cX7_tilt 25 = .ok (.aload_n 0, 1) := by decide +kernel
theorem dX7_tilt_26 : decode cX7_tilt 26 = .ok (.getfield 7, 3) := by decide +kernel
theorem dX7_tilt_29 : decode cX7_tilt 29 = .ok (.iload_n 1, 1) := by decide +kernel
theorem dX7_tilt_30 : decode cX7_tilt 30 = .ok (.iaload, 1) := by decide +kernel
theorem dX7_tilt_31 : decode cX7_tilt 31 = .ok (.istore_n 3, 1) := by decide +kernel
theorem dX7_tilt_32 : decode cX7_tilt 32 = .ok (.aload_n 0, 1) := by decide +kernel
theorem dX7_tilt_33 : decode cX7_tilt 33 = .ok (.getfield 7, 3) := by decide +kernel
theorem dX7_tilt_36 : decode cX7_tilt 36 = .ok (.iload_n 1, 1) := by decide +kernel
theorem dX7_tilt_37 : decode cX7_tilt 37 = .ok (.iload_n 2, 1) := by decide +kernel
theorem dX7_tilt_38 : decode cX7_tilt 38 = .ok (.iastore, 1) := by decide +kernel
theorem dX7_tilt_39 : decode cX7_tilt 39 = .ok (.iload_n 3, 1) := by decide +kernel
theorem dX7_tilt_40 : decode cX7_tilt 40 = .ok (.ireturn, 1) := by decide +kernel
theorem dX7_seat_0 : decode cX7_seat 0 = .ok (.iload_n 1, 1) := by decide +kernel
theorem dX7_seat_1 : decode cX7_seat 1 = .ok (.i2l, 1) := by decide +kernel
theorem dX7_seat_2 : decode cX7_seat 2 = .ok (.lconst 0, 1) := by decide +kernel
theorem dX7_seat_3 : decode cX7_seat 3 = .ok (.ldc2_w 164, 3) := by decide +kernel
theorem dX7_seat_6 : decode cX7_seat 6 = .ok (.invokestatic 87, 3) := by decide +kernel
theorem dX7_seat_9 : decode cX7_seat 9 = .ok (.ifCond .ne 6, 3) := by decide +kernel
theorem dX7_seat_12 : decode cX7_seat 12 = .ok (.bipush (-2), 2) := by decide +kernel
theorem dX7_seat_14 : decode cX7_seat 14 = .ok (.ireturn, 1) := by decide +kernel
theorem dX7_seat_15 : decode cX7_seat 15 = .ok (.aload_n 0, 1) := by decide +kernel
theorem dX7_seat_16 : decode cX7_seat 16 = .ok (.getfield 91, 3) := by decide +kernel
theorem dX7_seat_19 : decode cX7_seat 19 = .ok (.ifCond .ne 6, 3) := by decide +kernel
theorem dX7_seat_22 : decode cX7_seat 22 = .ok (.bipush (-3), 2) := by decide +kernel
theorem dX7_seat_24 : decode cX7_seat 24 = .ok (.ireturn, 1) := by decide +kernel
theorem dX7_seat_25 : decode cX7_seat 25 = .ok (.aload_n 0, 1) := by decide +kernel
theorem dX7_seat_26 : decode cX7_seat 26 = .ok (.getfield 152, 3) := by decide +kernel
theorem dX7_seat_29 : decode cX7_seat 29 = .ok (.istore_n 2, 1) := by decide +kernel
theorem dX7_seat_30 : decode cX7_seat 30 = .ok (.aload_n 0, 1) := by decide +kernel
theorem dX7_seat_31 : decode cX7_seat 31 = .ok (.iload_n 1, 1) := by decide +kernel
theorem dX7_seat_32 : decode cX7_seat 32 = .ok (.putfield 152, 3) := by decide +kernel
theorem dX7_seat_35 : decode cX7_seat 35 = .ok (.iload_n 2, 1) := by decide +kernel
theorem dX7_seat_36 : decode cX7_seat 36 = .ok (.ireturn, 1) := by decide +kernel
theorem dX7_wish_0 : decode cX7_wish 0 = .ok (.aload_n 0, 1) := by decide +kernel
theorem dX7_wish_1 : decode cX7_wish 1 = .ok (.iload_n 1, 1) := by decide +kernel
theorem dX7_wish_2 : decode cX7_wish 2 = .ok (.invokevirtual 158, 3) := by decide +kernel
theorem dX7_wish_5 : decode cX7_wish 5 = .ok (.ifCond .eq 5, 3) := by decide +kernel
theorem dX7_wish_8 : decode cX7_wish 8 = .ok (.iconst (-1), 1) := by decide +kernel
theorem dX7_wish_9 : decode cX7_wish 9 = .ok (.ireturn, 1) := by decide +kernel
theorem dX7_wish_10 : decode cX7_wish 10 = .ok (.iload_n 2, 1) := by decide +kernel
theorem dX7_wish_11 : decode cX7_wish 11 = .ok (.i2l, 1) := by decide +kernel
theorem dX7_wish_12 : decode cX7_wish 12 = .ok (.lconst 0, 1) := by decide +kernel
theorem dX7_wish_13 : decode cX7_wish 13 = .ok (.ldc2_w 166, 3) := by decide +kernel
theorem dX7_wish_16 : decode cX7_wish 16 = .ok (.invokestatic 87, 3) := by decide +kernel
theorem dX7_wish_19 : decode cX7_wish 19 = .ok (.ifCond .ne 6, 3) := by decide +kernel
theorem dX7_wish_22 : decode cX7_wish 22 = .ok (.bipush (-2), 2) := by decide +kernel
theorem dX7_wish_24 : decode cX7_wish 24 = .ok (.ireturn, 1) := by decide +kernel
theorem dX7_wish_25 : decode cX7_wish 25 = .ok (.aload_n 0, 1) := by decide +kernel
theorem dX7_wish_26 : decode cX7_wish 26 = .ok (.getfield 25, 3) := by decide +kernel
theorem dX7_wish_29 : decode cX7_wish 29 = .ok (.iload_n 1, 1) := by decide +kernel
theorem dX7_wish_30 : decode cX7_wish 30 = .ok (.iaload, 1) := by decide +kernel
theorem dX7_wish_31 : decode cX7_wish 31 = .ok (.istore_n 3, 1) := by decide +kernel
theorem dX7_wish_32 : decode cX7_wish 32 = .ok (.aload_n 0, 1) := by decide +kernel
theorem dX7_wish_33 : decode cX7_wish 33 = .ok (.getfield 25, 3) := by decide +kernel
theorem dX7_wish_36 : decode cX7_wish 36 = .ok (.iload_n 1, 1) := by decide +kernel
theorem dX7_wish_37 : decode cX7_wish 37 = .ok (.iload_n 2, 1) := by decide +kernel
theorem dX7_wish_38 : decode cX7_wish 38 = .ok (.iastore, 1) := by decide +kernel
theorem dX7_wish_39 : decode cX7_wish 39 = .ok (.iload_n 3, 1) := by decide +kernel
theorem dX7_wish_40 : decode cX7_wish 40 = .ok (.ireturn, 1) := by decide +kernel
theorem dX7_gainOf_0 : decode cX7_gainOf 0 = .ok (.aload_n 0, 1) := by decide +kernel
theorem dX7_gainOf_1 : decode cX7_gainOf 1 = .ok (.getfield 7, 3) := by decide +kernel
theorem dX7_gainOf_4 : decode cX7_gainOf 4 = .ok (.iload_n 2, 1) := by decide +kernel
theorem dX7_gainOf_5 : decode cX7_gainOf 5 = .ok (.iaload, 1) := by decide +kernel
theorem dX7_gainOf_6 : decode cX7_gainOf 6 = .ok (.iconst 1, 1) := by decide +kernel
theorem dX7_gainOf_7 : decode cX7_gainOf 7 = .ok (.iadd, 1) := by decide +kernel
theorem dX7_gainOf_8 : decode cX7_gainOf 8 = .ok (.istore_n 3, 1) := by decide +kernel
theorem dX7_gainOf_9 : decode cX7_gainOf 9 = .ok (.aload_n 0, 1) := by decide +kernel
theorem dX7_gainOf_10 : decode cX7_gainOf 10 = .ok (.getfield 13, 3) := by decide +kernel
theorem dX7_gainOf_13 : decode cX7_gainOf 13 = .ok (.iload_n 1, 1) := by decide +kernel
theorem dX7_gainOf_14 : decode cX7_gainOf 14 = .ok (.iaload, 1) := by decide +kernel
theorem dX7_gainOf_15 : decode cX7_gainOf 15 = .ok (.ifCond .ne 12, 3) := by decide +kernel
theorem dX7_gainOf_18 : decode cX7_gainOf 18 = .ok (.aload_n 0, 1) := by decide +kernel
theorem dX7_gainOf_19 : decode cX7_gainOf 19 = .ok (.getfield 7, 3) := by decide +kernel
theorem dX7_gainOf_22 : decode cX7_gainOf 22 = .ok (.iload_n 2, 1) := by decide +kernel
theorem dX7_gainOf_23 : decode cX7_gainOf 23 = .ok (.iaload, 1) := by decide +kernel
theorem dX7_gainOf_24 : decode cX7_gainOf 24 = .ok (.goto 20, 3) := by decide +kernel
theorem dX7_gainOf_27 : decode cX7_gainOf 27 = .ok (.aload_n 0, 1) := by decide +kernel
theorem dX7_gainOf_28 : decode cX7_gainOf 28 = .ok (.getfield 13, 3) := by decide +kernel
theorem dX7_gainOf_31 : decode cX7_gainOf 31 = .ok (.iload_n 1, 1) := by decide +kernel
theorem dX7_gainOf_32 : decode cX7_gainOf 32 = .ok (.iaload, 1) := by decide +kernel
theorem dX7_gainOf_33 : decode cX7_gainOf 33 = .ok (.iconst 1, 1) := by decide +kernel
theorem dX7_gainOf_34 : decode cX7_gainOf 34 = .ok (.if_icmp .ne 7, 3) := by decide +kernel
theorem dX7_gainOf_37 : decode cX7_gainOf 37 = .ok (.iload_n 3, 1) := by decide +kernel
theorem dX7_gainOf_38 : decode cX7_gainOf 38 = .ok (.goto 6, 3) := by decide +kernel
theorem dX7_gainOf_41 : decode cX7_gainOf 41 = .ok (.iload_n 3, 1) := by decide +kernel
theorem dX7_gainOf_42 : decode cX7_gainOf 42 = .ok (.iconst 2, 1) := by decide +kernel
theorem dX7_gainOf_43 : decode cX7_gainOf 43 = .ok (.idiv, 1) := by decide +kernel
theorem dX7_gainOf_44 : decode cX7_gainOf 44 = .ok (.ireturn, 1) := by decide +kernel
theorem dX7_gain_0 : decode cX7_gain 0 = .ok (.aload_n 0, 1) := by decide +kernel
theorem dX7_gain_1 : decode cX7_gain 1 = .ok (.iload_n 1, 1) := by decide +kernel
theorem dX7_gain_2 : decode cX7_gain 2 = .ok (.invokevirtual 158, 3) := by decide +kernel
theorem dX7_gain_5 : decode cX7_gain 5 = .ok (.ifCond .ne 11, 3) := by decide +kernel
theorem dX7_gain_8 : decode cX7_gain 8 = .ok (.aload_n 0, 1) := by decide +kernel
theorem dX7_gain_9 : decode cX7_gain 9 = .ok (.iload_n 2, 1) := by decide +kernel
theorem dX7_gain_10 : decode cX7_gain 10 = .ok (.invokevirtual 161, 3) := by decide +kernel
theorem dX7_gain_13 : decode cX7_gain 13 = .ok (.ifCond .eq 7, 3) := by decide +kernel
theorem dX7_gain_16 : decode cX7_gain 16 = .ok (.iconst (-1), 1) := by decide +kernel
theorem dX7_gain_17 : decode cX7_gain 17 = .ok (.goto 9, 3) := by decide +kernel
theorem dX7_gain_20 : decode cX7_gain 20 = .ok (.aload_n 0, 1) := by decide +kernel
theorem dX7_gain_21 : decode cX7_gain 21 = .ok (.iload_n 1, 1) := by decide +kernel
theorem dX7_gain_22 : decode cX7_gain 22 = .ok (.iload_n 2, 1) := by decide +kernel
theorem dX7_gain_23 : decode cX7_gain 23 = .ok (.invokevirtual 168, 3) := by decide +kernel
theorem dX7_gain_26 : decode cX7_gain 26 = .ok (.ireturn, 1) := by decide +kernel
theorem dX7_ageBy_0 : decode cX7_ageBy 0 = .ok (.aload_n 0, 1) := by decide +kernel
theorem dX7_ageBy_1 : decode cX7_ageBy 1 = .ok (.getfield 22, 3) := by decide +kernel
theorem dX7_ageBy_4 : decode cX7_ageBy 4 = .ok (.iload_n 1, 1) := by decide +kernel
theorem dX7_ageBy_5 : decode cX7_ageBy 5 = .ok (.iaload, 1) := by decide +kernel
theorem dX7_ageBy_6 : decode cX7_ageBy 6 = .ok (.istore_n 3, 1) := by decide +kernel
theorem dX7_ageBy_7 : decode cX7_ageBy 7 = .ok (.iconst 0, 1) := by decide +kernel
theorem dX7_ageBy_8 : decode cX7_ageBy 8 = .ok (.istore 4, 2) := by decide +kernel
theorem dX7_ageBy_10 : decode cX7_ageBy 10 = .ok (.iload 4, 2) := by decide +kernel
theorem dX7_ageBy_12 : decode cX7_ageBy 12 = .ok (.aload_n 0, 1) := by decide +kernel
theorem dX7_ageBy_13 : decode cX7_ageBy 13 = .ok (.getfield 84, 3) := by decide +kernel
theorem dX7_ageBy_16 : decode cX7_ageBy 16 = .ok (.if_icmp .ge 32, 3) := by decide +kernel
theorem dX7_ageBy_19 : decode cX7_ageBy 19 = .ok (.iload_n 3, 1) := by decide +kernel
theorem dX7_ageBy_20 : decode cX7_ageBy 20 = .ok (.iload_n 2, 1) := by decide +kernel
theorem dX7_ageBy_21 : decode cX7_ageBy 21 = .ok (.iload 4, 2) := by decide +kernel
theorem dX7_ageBy_23 : decode cX7_ageBy 23 = .ok (.invokestatic 171, 3) := by decide +kernel
theorem dX7_ageBy_26 : decode cX7_ageBy 26 = .ok (.ifCond .eq 13, 3) := by decide +kernel
theorem dX7_ageBy_29 : decode cX7_ageBy 29 = .ok (.aload_n 0, 1) := by decide +kernel
theorem dX7_ageBy_30 : decode cX7_ageBy 30 = .ok (.iload_n 1, 1) := by decide +kernel
theorem dX7_ageBy_31 : decode cX7_ageBy 31 = .ok (.iload 4, 2) := by decide +kernel
theorem dX7_ageBy_33 : decode cX7_ageBy 33 = .ok (.invokevirtual 168, 3) := by decide +kernel
theorem dX7_ageBy_36 : decode cX7_ageBy 36 = .ok (.goto 4, 3) := by decide +kernel
theorem dX7_ageBy_39 : decode cX7_ageBy 39 = .ok (.iconst 0, 1) := by decide +kernel
theorem dX7_ageBy_40 : decode cX7_ageBy 40 = .ok (.iadd, 1) := by decide +kernel
theorem dX7_ageBy_41 : decode cX7_ageBy 41 = .ok (.istore_n 3, 1) := by decide +kernel
theorem dX7_ageBy_42 : decode cX7_ageBy 42 = .ok (.iinc 4 1, 3) := by decide +kernel
theorem dX7_ageBy_45 : decode cX7_ageBy 45 = .ok (.goto (-35), 3) := by decide +kernel
theorem dX7_ageBy_48 : decode cX7_ageBy 48 = .ok (.iload_n 3, 1) := by decide +kernel
theorem dX7_ageBy_49 : decode cX7_ageBy 49 = .ok (.ireturn, 1) := by decide +kernel
theorem dX7_age_0 : decode cX7_age 0 = .ok (.aload_n 0, 1) := by decide +kernel
theorem dX7_age_1 : decode cX7_age 1 = .ok (.iload_n 1, 1) := by decide +kernel
theorem dX7_age_2 : decode cX7_age 2 = .ok (.invokevirtual 158, 3) := by decide +kernel
theorem dX7_age_5 : decode cX7_age 5 = .ok (.ifCond .eq 5, 3) := by decide +kernel
theorem dX7_age_8 : decode cX7_age 8 = .ok (.iconst (-1), 1) := by decide +kernel
theorem dX7_age_9 : decode cX7_age 9 = .ok (.ireturn, 1) := by decide +kernel
theorem dX7_age_10 : decode cX7_age 10 = .ok (.aload_n 0, 1) := by decide +kernel
theorem dX7_age_11 : decode cX7_age 11 = .ok (.iload_n 1, 1) := by decide +kernel
theorem dX7_age_12 : decode cX7_age 12 = .ok (.iload_n 2, 1) := by decide +kernel
theorem dX7_age_13 : decode cX7_age 13 = .ok (.invokevirtual 174, 3) := by decide +kernel
theorem dX7_age_16 : decode cX7_age 16 = .ok (.ifCond .eq 8, 3) := by decide +kernel
theorem dX7_age_19 : decode cX7_age 19 = .ok (.bipush (-2), 2) := by decide +kernel
theorem dX7_age_21 : decode cX7_age 21 = .ok (.goto 9, 3) := by decide +kernel
theorem dX7_age_24 : decode cX7_age 24 = .ok (.aload_n 0, 1) := by decide +kernel
theorem dX7_age_25 : decode cX7_age 25 = .ok (.iload_n 1, 1) := by decide +kernel
theorem dX7_age_26 : decode cX7_age 26 = .ok (.iload_n 2, 1) := by decide +kernel
theorem dX7_age_27 : decode cX7_age 27 = .ok (.invokevirtual 177, 3) := by decide +kernel
theorem dX7_age_30 : decode cX7_age 30 = .ok (.ireturn, 1) := by decide +kernel
theorem dX7_aboveOn_0 : decode cX7_aboveOn 0 = .ok (.iconst 0, 1) := by decide +kernel
theorem dX7_aboveOn_1 : decode cX7_aboveOn 1 = .ok (.istore_n 3, 1) := by decide +kernel
theorem dX7_aboveOn_2 : decode cX7_aboveOn 2 = .ok (.iconst 0, 1) := by decide +kernel
theorem dX7_aboveOn_3 : decode cX7_aboveOn 3 = .ok (.istore 4, 2) := by decide +kernel
theorem dX7_aboveOn_5 : decode cX7_aboveOn 5 = .ok (.iload 4, 2) := by decide +kernel
theorem dX7_aboveOn_7 : decode cX7_aboveOn 7 = .ok (.aload_n 0, 1) := by decide +kernel
theorem dX7_aboveOn_8 : decode cX7_aboveOn 8 = .ok (.getfield 91, 3) := by decide +kernel
theorem dX7_aboveOn_11 : decode cX7_aboveOn 11 = .ok (.if_icmp .ge 25, 3) := by decide +kernel
theorem dX7_aboveOn_14 : decode cX7_aboveOn 14 = .ok (.iload_n 3, 1) := by decide +kernel
theorem dX7_aboveOn_15 : decode cX7_aboveOn 15 = .ok (.aload_n 0, 1) := by decide +kernel
theorem dX7_aboveOn_16 : decode cX7_aboveOn 16 = .ok (.getfield 68, 3) := by decide +kernel
theorem dX7_aboveOn_19 : decode cX7_aboveOn 19 = .ok (.iload_n 2, 1) := by decide +kernel
theorem dX7_aboveOn_20 : decode cX7_aboveOn 20 = .ok (.iload 4, 2) := by decide +kernel
theorem dX7_aboveOn_22 : decode cX7_aboveOn 22 = .ok (.iadd, 1) := by decide +kernel
theorem dX7_aboveOn_23 : decode cX7_aboveOn 23 = .ok (.iaload, 1) := by decide +kernel
theorem dX7_aboveOn_24 : decode cX7_aboveOn 24 = .ok (.iload_n 1, 1) := by decide +kernel
theorem dX7_aboveOn_25 : decode cX7_aboveOn 25 = .ok (.ishr, 1) := by decide +kernel
theorem dX7_aboveOn_26 : decode cX7_aboveOn 26 = .ok (.iconst 1, 1) := by decide +kernel
theorem dX7_aboveOn_27 : decode cX7_aboveOn 27 = .ok (.iand, 1) := by decide +kernel
theorem dX7_aboveOn_28 : decode cX7_aboveOn 28 = .ok (.iadd, 1) := by decide +kernel
theorem dX7_aboveOn_29 : decode cX7_aboveOn 29 = .ok (.istore_n 3, 1) := by decide +kernel
theorem dX7_aboveOn_30 : decode cX7_aboveOn 30 = .ok (.iinc 4 1, 3) := by decide +kernel
theorem dX7_aboveOn_33 : decode cX7_aboveOn 33 = .ok (.goto (-28), 3) := by decide +kernel
theorem dX7_aboveOn_36 : decode cX7_aboveOn 36 = .ok (.iload_n 3, 1) := by decide +kernel
theorem dX7_aboveOn_37 : decode cX7_aboveOn 37 = .ok (.ireturn, 1) := by decide +kernel
theorem dX7_wrongIn_0 : decode cX7_wrongIn 0 = .ok (.bipush (-9), 2) := by decide +kernel
theorem dX7_wrongIn_2 : decode cX7_wrongIn 2 = .ok (.istore_n 2, 1) := by decide +kernel
theorem dX7_wrongIn_3 : decode cX7_wrongIn 3 = .ok (.aload_n 0, 1) := by decide +kernel
theorem dX7_wrongIn_4 : decode cX7_wrongIn 4 = .ok (.getfield 84, 3) := by decide +kernel
theorem dX7_wrongIn_7 : decode cX7_wrongIn 7 = .ok (.iconst 1, 1) := by decide +kernel
theorem dX7_wrongIn_8 : decode cX7_wrongIn 8 = .ok (.isub, 1) := by decide +kernel
theorem dX7_wrongIn_9 : decode cX7_wrongIn 9 = .ok (.istore_n 3, 1) := by decide +kernel
theorem dX7_wrongIn_10 : decode cX7_wrongIn 10 = .ok (.iload_n 3, 1) := by decide +kernel
theorem dX7_wrongIn_11 : decode cX7_wrongIn 11 = .ok (.ifCond .lt 28, 3) := by decide +kernel
theorem dX7_wrongIn_14 : decode cX7_wrongIn 14 = .ok (.aload_n 0, 1) := by decide +kernel
theorem dX7_wrongIn_15 : decode cX7_wrongIn 15 = .ok (.iload_n 3, 1) := by decide +kernel
theorem dX7_wrongIn_16 : decode cX7_wrongIn 16 = .ok (.iload_n 1, 1) := by decide +kernel
theorem dX7_wrongIn_17 : decode cX7_wrongIn 17 = .ok (.invokevirtual 180, 3) := by decide +kernel
theorem dX7_wrongIn_20 : decode cX7_wrongIn 20 = .ok (.aload_n 0, 1) := by decide +kernel
theorem dX7_wrongIn_21 : decode cX7_wrongIn 21 = .ok (.getfield 152, 3) := by decide +kernel
theorem dX7_wrongIn_24 : decode cX7_wrongIn 24 = .ok (.if_icmp .le 7, 3) := by decide +kernel
theorem dX7_wrongIn_27 : decode cX7_wrongIn 27 = .ok (.iload_n 3, 1) := by decide +kernel
theorem dX7_wrongIn_28 : decode cX7_wrongIn 28 = .ok (.goto 4, 3) := by decide +kernel
theorem dX7_wrongIn_31 : decode cX7_wrongIn 31 = .ok (.iload_n 2, 1) := by decide +kernel
theorem dX7_wrongIn_32 : decode cX7_wrongIn 32 = .ok (.istore_n 2, 1) := by decide +kernel
theorem dX7_wrongIn_33 : decode cX7_wrongIn 33 = .ok (.iinc 3 (-1), 3) := by decide +kernel
theorem dX7_wrongIn_36 : decode cX7_wrongIn 36 = .ok (.goto (-26), 3) := by decide +kernel
theorem dX7_wrongIn_39 : decode cX7_wrongIn 39 = .ok (.iload_n 2, 1) := by decide +kernel
theorem dX7_wrongIn_40 : decode cX7_wrongIn 40 = .ok (.ireturn, 1) := by decide +kernel
theorem dX7_sitBy_0 : decode cX7_sitBy 0 = .ok (.aload_n 0, 1) := by decide +kernel
theorem dX7_sitBy_1 : decode cX7_sitBy 1 = .ok (.iload_n 1, 1) := by decide +kernel
theorem dX7_sitBy_2 : decode cX7_sitBy 2 = .ok (.invokevirtual 183, 3) := by decide +kernel
theorem dX7_sitBy_5 : decode cX7_sitBy 5 = .ok (.istore_n 3, 1) := by decide +kernel
theorem dX7_sitBy_6 : decode cX7_sitBy 6 = .ok (.iload_n 2, 1) := by decide +kernel
theorem dX7_sitBy_7 : decode cX7_sitBy 7 = .ok (.iconst 1, 1) := by decide +kernel
theorem dX7_sitBy_8 : decode cX7_sitBy 8 = .ok (.if_icmp .ne 5, 3) := by decide +kernel
theorem dX7_sitBy_11 : decode cX7_sitBy 11 = .ok (.iload_n 3, 1) := by decide +kernel
theorem dX7_sitBy_12 : decode cX7_sitBy 12 = .ok (.ireturn, 1) := by decide +kernel
theorem dX7_sitBy_13 : decode cX7_sitBy 13 = .ok (.iload_n 3, 1) := by decide +kernel
theorem dX7_sitBy_14 : decode cX7_sitBy 14 = .ok (.ifCond .lt 8, 3) := by decide +kernel
theorem dX7_sitBy_17 : decode cX7_sitBy 17 = .ok (.bipush (-100), 2) := by decide +kernel
theorem dX7_sitBy_19 : decode cX7_sitBy 19 = .ok (.iload_n 3, 1) := by decide +kernel
theorem dX7_sitBy_20 : decode cX7_sitBy 20 = .ok (.isub, 1) := by decide +kernel
theorem dX7_sitBy_21 : decode cX7_sitBy 21 = .ok (.ireturn, 1) := by decide +kernel
theorem dX7_sitBy_22 : decode cX7_sitBy 22 = .ok (.iload_n 2, 1) := by decide +kernel
theorem dX7_sitBy_23 : decode cX7_sitBy 23 = .ok (.bipush 20, 2) := by decide +kernel
theorem dX7_sitBy_25 : decode cX7_sitBy 25 = .ok (.if_icmp .lt 39, 3) := by decide +kernel
theorem dX7_sitBy_28 : decode cX7_sitBy 28 = .ok (.aload_n 0, 1) := by decide +kernel
theorem dX7_sitBy_29 : decode cX7_sitBy 29 = .ok (.iload_n 2, 1) := by decide +kernel
theorem dX7_sitBy_30 : decode cX7_sitBy 30 = .ok (.bipush 20, 2) := by decide +kernel
theorem dX7_sitBy_32 : decode cX7_sitBy 32 = .ok (.isub, 1) := by decide +kernel
theorem dX7_sitBy_33 : decode cX7_sitBy 33 = .ok (.invokevirtual 158, 3) := by decide +kernel
theorem dX7_sitBy_36 : decode cX7_sitBy 36 = .ok (.ifCond .eq 8, 3) := by decide +kernel
theorem dX7_sitBy_39 : decode cX7_sitBy 39 = .ok (.bipush (-9), 2) := by decide +kernel
theorem dX7_sitBy_41 : decode cX7_sitBy 41 = .ok (.goto 22, 3) := by decide +kernel
theorem dX7_sitBy_44 : decode cX7_sitBy 44 = .ok (.aload_n 0, 1) := by decide +kernel
theorem dX7_sitBy_45 : decode cX7_sitBy 45 = .ok (.iload_n 2, 1) := by decide +kernel
theorem dX7_sitBy_46 : decode cX7_sitBy 46 = .ok (.bipush 20, 2) := by decide +kernel
theorem dX7_sitBy_48 : decode cX7_sitBy 48 = .ok (.isub, 1) := by decide +kernel
theorem dX7_sitBy_49 : decode cX7_sitBy 49 = .ok (.aload_n 0, 1) := by decide +kernel
theorem dX7_sitBy_50 : decode cX7_sitBy 50 = .ok (.getfield 68, 3) := by decide +kernel
theorem dX7_sitBy_53 : decode cX7_sitBy 53 = .ok (.iload_n 1, 1) := by decide +kernel
theorem dX7_sitBy_54 : decode cX7_sitBy 54 = .ok (.iload_n 2, 1) := by decide +kernel
theorem dX7_sitBy_55 : decode cX7_sitBy 55 = .ok (.iadd, 1) := by decide +kernel
theorem dX7_sitBy_56 : decode cX7_sitBy 56 = .ok (.bipush 20, 2) := by decide +kernel
theorem dX7_sitBy_58 : decode cX7_sitBy 58 = .ok (.isub, 1) := by decide +kernel
theorem dX7_sitBy_59 : decode cX7_sitBy 59 = .ok (.iaload, 1) := by decide +kernel
theorem dX7_sitBy_60 : decode cX7_sitBy 60 = .ok (.invokevirtual 177, 3) := by decide +kernel
theorem dX7_sitBy_63 : decode cX7_sitBy 63 = .ok (.ireturn, 1) := by decide +kernel
theorem dX7_sitBy_64 : decode cX7_sitBy 64 = .ok (.iload_n 2, 1) := by decide +kernel
theorem dX7_sitBy_65 : decode cX7_sitBy 65 = .ok (.bipush 10, 2) := by decide +kernel
theorem dX7_sitBy_67 : decode cX7_sitBy 67 = .ok (.if_icmp .lt 29, 3) := by decide +kernel
theorem dX7_sitBy_70 : decode cX7_sitBy 70 = .ok (.aload_n 0, 1) := by decide +kernel
theorem dX7_sitBy_71 : decode cX7_sitBy 71 = .ok (.iload_n 2, 1) := by decide +kernel
theorem dX7_sitBy_72 : decode cX7_sitBy 72 = .ok (.bipush 10, 2) := by decide +kernel
theorem dX7_sitBy_74 : decode cX7_sitBy 74 = .ok (.isub, 1) := by decide +kernel
theorem dX7_sitBy_75 : decode cX7_sitBy 75 = .ok (.invokevirtual 161, 3) := by decide +kernel
theorem dX7_sitBy_78 : decode cX7_sitBy 78 = .ok (.ifCond .eq 8, 3) := by decide +kernel
theorem dX7_sitBy_81 : decode cX7_sitBy 81 = .ok (.bipush (-9), 2) := by decide +kernel
theorem dX7_sitBy_83 : decode cX7_sitBy 83 = .ok (.goto 12, 3) := by decide +kernel
theorem dX7_sitBy_86 : decode cX7_sitBy 86 = .ok (.aload_n 0, 1) := by decide +kernel
theorem dX7_sitBy_87 : decode cX7_sitBy 87 = .ok (.iload_n 2, 1) := by decide +kernel
theorem dX7_sitBy_88 : decode cX7_sitBy 88 = .ok (.bipush 10, 2) := by decide +kernel
theorem dX7_sitBy_90 : decode cX7_sitBy 90 = .ok (.isub, 1) := by decide +kernel
theorem dX7_sitBy_91 : decode cX7_sitBy 91 = .ok (.iload_n 1, 1) := by decide +kernel
theorem dX7_sitBy_92 : decode cX7_sitBy 92 = .ok (.invokevirtual 180, 3) := by decide +kernel
theorem dX7_sitBy_95 : decode cX7_sitBy 95 = .ok (.ireturn, 1) := by decide +kernel
theorem dX7_sitBy_96 : decode cX7_sitBy 96 = .ok (.iconst 0, 1) := by decide +kernel
theorem dX7_sitBy_97 : decode cX7_sitBy 97 = .ok (.istore 4, 2) := by decide +kernel
theorem dX7_sitBy_99 : decode cX7_sitBy 99 = .ok (.iconst 0, 1) := by decide +kernel
theorem dX7_sitBy_100 : decode cX7_sitBy 100 = .ok (.istore 5, 2) := by decide +kernel
theorem dX7_sitBy_102 : decode cX7_sitBy 102 = .ok (.iconst 0, 1) := by decide +kernel
theorem dX7_sitBy_103 : decode cX7_sitBy 103 = .ok (.istore 6, 2) := by decide +kernel
theorem dX7_sitBy_105 : decode cX7_sitBy 105 = .ok (.iload 6, 2) := by decide +kernel
theorem dX7_sitBy_107 : decode cX7_sitBy 107 = .ok (.aload_n 0, 1) := by decide +kernel
theorem dX7_sitBy_108 : decode cX7_sitBy 108 = .ok (.getfield 91, 3) := by decide +kernel
theorem dX7_sitBy_111 : decode cX7_sitBy 111 = .ok (.if_icmp .ge 80, 3) := by decide +kernel
theorem dX7_sitBy_114 : decode cX7_sitBy 114 = .ok (.aload_n 0, 1) := by decide +kernel
theorem dX7_sitBy_115 : decode cX7_sitBy 115 = .ok (.iload 6, 2) := by decide +kernel
theorem dX7_sitBy_117 : decode cX7_sitBy 117 = .ok (.aload_n 0, 1) := by decide +kernel
theorem dX7_sitBy_118 : decode cX7_sitBy 118 = .ok (.getfield 68, 3) := by decide +kernel
theorem dX7_sitBy_121 : decode cX7_sitBy 121 = .ok (.iload_n 1, 1) := by decide +kernel
theorem dX7_sitBy_122 : decode cX7_sitBy 122 = .ok (.iload 6, 2) := by decide +kernel
theorem dX7_sitBy_124 : decode cX7_sitBy 124 = .ok (.iadd, 1) := by decide +kernel
theorem dX7_sitBy_125 : decode cX7_sitBy 125 = .ok (.iaload, 1) := by decide +kernel
theorem dX7_sitBy_126 : decode cX7_sitBy 126 = .ok (.invokevirtual 177, 3) := by decide +kernel
theorem dX7_sitBy_129 : decode cX7_sitBy 129 = .ok (.istore 7, 2) := by decide +kernel
theorem dX7_sitBy_131 : decode cX7_sitBy 131 = .ok (.iload 4, 2) := by decide +kernel
theorem dX7_sitBy_133 : decode cX7_sitBy 133 = .ok (.iload 7, 2) := by decide +kernel
theorem dX7_sitBy_135 : decode cX7_sitBy 135 = .ok (.aload_n 0, 1) := by decide +kernel
theorem dX7_sitBy_136 : decode cX7_sitBy 136 = .ok (.getfield 25, 3) := by decide +kernel
theorem dX7_sitBy_139 : decode cX7_sitBy 139 = .ok (.iload 6, 2) := by decide +kernel
theorem dX7_sitBy_141 : decode cX7_sitBy 141 = .ok (.iaload, 1) := by decide +kernel
theorem dX7_sitBy_142 : decode cX7_sitBy 142 = .ok (.if_icmp .ne 10, 3) := by decide +kernel
theorem dX7_sitBy_145 : decode cX7_sitBy 145 = .ok (.iconst 1, 1) := by decide +kernel
theorem dX7_sitBy_146 : decode cX7_sitBy 146 = .ok (.iload 6, 2) := by decide +kernel
theorem dX7_sitBy_148 : decode cX7_sitBy 148 = .ok (.ishl, 1) := by decide +kernel
theorem dX7_sitBy_149 : decode cX7_sitBy 149 = .ok (.goto 4, 3) := by decide +kernel
theorem dX7_sitBy_152 : decode cX7_sitBy 152 = .ok (.iconst 0, 1) := by decide +kernel
theorem dX7_sitBy_153 : decode cX7_sitBy 153 = .ok (.ior, 1) := by decide +kernel
theorem dX7_sitBy_154 : decode cX7_sitBy 154 = .ok (.istore 4, 2) := by decide +kernel
theorem dX7_sitBy_156 : decode cX7_sitBy 156 = .ok (.iload 7, 2) := by decide +kernel
theorem dX7_sitBy_158 : decode cX7_sitBy 158 = .ok (.aload_n 0, 1) := by decide +kernel
theorem dX7_sitBy_159 : decode cX7_sitBy 159 = .ok (.iload 5, 2) := by decide +kernel
theorem dX7_sitBy_161 : decode cX7_sitBy 161 = .ok (.aload_n 0, 1) := by decide +kernel
theorem dX7_sitBy_162 : decode cX7_sitBy 162 = .ok (.getfield 68, 3) := by decide +kernel
theorem dX7_sitBy_165 : decode cX7_sitBy 165 = .ok (.iload_n 1, 1) := by decide +kernel
theorem dX7_sitBy_166 : decode cX7_sitBy 166 = .ok (.iload 5, 2) := by decide +kernel
theorem dX7_sitBy_168 : decode cX7_sitBy 168 = .ok (.iadd, 1) := by decide +kernel
theorem dX7_sitBy_169 : decode cX7_sitBy 169 = .ok (.iaload, 1) := by decide +kernel
theorem dX7_sitBy_170 : decode cX7_sitBy 170 = .ok (.invokevirtual 177, 3) := by decide +kernel
theorem dX7_sitBy_173 : decode cX7_sitBy 173 = .ok (.if_icmp .le 8, 3) := by decide +kernel
theorem dX7_sitBy_176 : decode cX7_sitBy 176 = .ok (.iload 6, 2) := by decide +kernel
theorem dX7_sitBy_178 : decode cX7_sitBy 178 = .ok (.goto 5, 3) := by decide +kernel
theorem dX7_sitBy_181 : decode cX7_sitBy 181 = .ok (.iload 5, 2) := by decide +kernel
theorem dX7_sitBy_183 : decode cX7_sitBy 183 = .ok (.istore 5, 2) := by decide +kernel
theorem dX7_sitBy_185 : decode cX7_sitBy 185 = .ok (.iinc 6 1, 3) := by decide +kernel
theorem dX7_sitBy_188 : decode cX7_sitBy 188 = .ok (.goto (-83), 3) := by decide +kernel
theorem dX7_sitBy_191 : decode cX7_sitBy 191 = .ok (.iload_n 2, 1) := by decide +kernel
theorem dX7_sitBy_192 : decode cX7_sitBy 192 = .ok (.ifCond .ne 11, 3) := by decide +kernel
theorem dX7_sitBy_195 : decode cX7_sitBy 195 = .ok (.iload 4, 2) := by decide +kernel
theorem dX7_sitBy_197 : decode cX7_sitBy 197 = .ok (.invokestatic 186, 3) := by decide +kernel
theorem dX7_sitBy_200 : decode cX7_sitBy 200 = .ok (.goto 15, 3) := by decide +kernel
theorem dX7_sitBy_203 : decode cX7_sitBy 203 = .ok (.iload_n 2, 1) := by decide +kernel
theorem dX7_sitBy_204 : decode cX7_sitBy 204 = .ok (.iconst 2, 1) := by decide +kernel
theorem dX7_sitBy_205 : decode cX7_sitBy 205 = .ok (.if_icmp .ne 8, 3) := by decide +kernel
theorem dX7_sitBy_208 : decode cX7_sitBy 208 = .ok (.iload 4, 2) := by decide +kernel
theorem dX7_sitBy_210 : decode cX7_sitBy 210 = .ok (.goto 5, 3) := by decide +kernel
theorem dX7_sitBy_213 : decode cX7_sitBy 213 = .ok (.iload 5, 2) := by decide +kernel
theorem dX7_sitBy_215 : decode cX7_sitBy 215 = .ok (.ireturn, 1) := by decide +kernel
theorem dX7_sit_0 : decode cX7_sit 0 = .ok (.iload_n 1, 1) := by decide +kernel
theorem dX7_sit_1 : decode cX7_sit 1 = .ok (.invokestatic 136, 3) := by decide +kernel
theorem dX7_sit_4 : decode cX7_sit 4 = .ok (.ifCond .eq 9, 3) := by decide +kernel
theorem dX7_sit_7 : decode cX7_sit 7 = .ok (.aload_n 0, 1) := by decide +kernel
theorem dX7_sit_8 : decode cX7_sit 8 = .ok (.iconst (-1), 1) := by decide +kernel
theorem dX7_sit_9 : decode cX7_sit 9 = .ok (.invokevirtual 140, 3) := by decide +kernel
theorem dX7_sit_12 : decode cX7_sit 12 = .ok (.ireturn, 1) := by decide +kernel
theorem dX7_sit_13 : decode cX7_sit 13 = .ok (.iload 5, 2) := by decide +kernel
theorem dX7_sit_15 : decode cX7_sit 15 = .ok (.i2l, 1) := by decide +kernel
theorem dX7_sit_16 : decode cX7_sit 16 = .ok (.lconst 0, 1) := by decide +kernel
theorem dX7_sit_17 : decode cX7_sit 17 = .ok (.ldc2_w 164, 3) := by decide +kernel
theorem dX7_sit_20 : decode cX7_sit 20 = .ok (.invokestatic 87, 3) := by decide +kernel
theorem dX7_sit_23 : decode cX7_sit 23 = .ok (.ifCond .ne 33, 3) := by decide +kernel
theorem dX7_sit_26 : decode cX7_sit 26 = .ok (.iload 5, 2) := by decide +kernel
theorem dX7_sit_28 : decode cX7_sit 28 = .ok (.i2l, 1) := by decide +kernel
theorem dX7_sit_29 : decode cX7_sit 29 = .ok (.ldc2_w 189, 3) := by decide +kernel
theorem dX7_sit_32 : decode cX7_sit 32 = .ok (.ldc2_w 191, 3) := by decide +kernel
theorem dX7_sit_35 : decode cX7_sit 35 = .ok (.invokestatic 87, 3) := by decide +kernel
theorem dX7_sit_38 : decode cX7_sit 38 = .ok (.ifCond .ne 18, 3) := by decide +kernel
theorem dX7_sit_41 : decode cX7_sit 41 = .ok (.iload 5, 2) := by decide +kernel
theorem dX7_sit_43 : decode cX7_sit 43 = .ok (.i2l, 1) := by decide +kernel
theorem dX7_sit_44 : decode cX7_sit 44 = .ok (.ldc2_w 193, 3) := by decide +kernel
theorem dX7_sit_47 : decode cX7_sit 47 = .ok (.ldc2_w 195, 3) := by decide +kernel
theorem dX7_sit_50 : decode cX7_sit 50 = .ok (.invokestatic 87, 3) := by decide +kernel
theorem dX7_sit_53 : decode cX7_sit 53 = .ok (.ifCond .eq 7, 3) := by decide +kernel
theorem dX7_sit_56 : decode cX7_sit 56 = .ok (.iconst 1, 1) := by decide +kernel
theorem dX7_sit_57 : decode cX7_sit 57 = .ok (.goto 4, 3) := by decide +kernel
theorem dX7_sit_60 : decode cX7_sit 60 = .ok (.iconst 0, 1) := by decide +kernel
theorem dX7_sit_61 : decode cX7_sit 61 = .ok (.istore 6, 2) := by decide +kernel
theorem dX7_sit_63 : decode cX7_sit 63 = .ok (.iload_n 2, 1) := by decide +kernel
theorem dX7_sit_64 : decode cX7_sit 64 = .ok (.i2l, 1) := by decide +kernel
theorem dX7_sit_65 : decode cX7_sit 65 = .ok (.lconst 0, 1) := by decide +kernel
theorem dX7_sit_66 : decode cX7_sit 66 = .ok (.ldc2_w 143, 3) := by decide +kernel
theorem dX7_sit_69 : decode cX7_sit 69 = .ok (.invokestatic 87, 3) := by decide +kernel
theorem dX7_sit_72 : decode cX7_sit 72 = .ok (.ifCond .eq 8, 3) := by decide +kernel
theorem dX7_sit_75 : decode cX7_sit 75 = .ok (.iload 6, 2) := by decide +kernel
theorem dX7_sit_77 : decode cX7_sit 77 = .ok (.ifCond .ne 10, 3) := by decide +kernel
theorem dX7_sit_80 : decode cX7_sit 80 = .ok (.aload_n 0, 1) := by decide +kernel
theorem dX7_sit_81 : decode cX7_sit 81 = .ok (.bipush (-2), 2) := by decide +kernel
theorem dX7_sit_83 : decode cX7_sit 83 = .ok (.invokevirtual 140, 3) := by decide +kernel
theorem dX7_sit_86 : decode cX7_sit 86 = .ok (.ireturn, 1) := by decide +kernel
theorem dX7_sit_87 : decode cX7_sit 87 = .ok (.aload_n 0, 1) := by decide +kernel
theorem dX7_sit_88 : decode cX7_sit 88 = .ok (.getfield 91, 3) := by decide +kernel
theorem dX7_sit_91 : decode cX7_sit 91 = .ok (.ifCond .ne 10, 3) := by decide +kernel
theorem dX7_sit_94 : decode cX7_sit 94 = .ok (.aload_n 0, 1) := by decide +kernel
theorem dX7_sit_95 : decode cX7_sit 95 = .ok (.bipush (-3), 2) := by decide +kernel
theorem dX7_sit_97 : decode cX7_sit 97 = .ok (.invokevirtual 140, 3) := by decide +kernel
theorem dX7_sit_100 : decode cX7_sit 100 = .ok (.ireturn, 1) := by decide +kernel
theorem dX7_sit_101 : decode cX7_sit 101 = .ok (.aload_n 0, 1) := by decide +kernel
theorem dX7_sit_102 : decode cX7_sit 102 = .ok (.iload_n 1, 1) := by decide +kernel
theorem dX7_sit_103 : decode cX7_sit 103 = .ok (.iload_n 2, 1) := by decide +kernel
theorem dX7_sit_104 : decode cX7_sit 104 = .ok (.iload_n 3, 1) := by decide +kernel
theorem dX7_sit_105 : decode cX7_sit 105 = .ok (.iload 4, 2) := by decide +kernel
theorem dX7_sit_107 : decode cX7_sit 107 = .ok (.i2l, 1) := by decide +kernel
theorem dX7_sit_108 : decode cX7_sit 108 = .ok (.invokevirtual 145, 3) := by decide +kernel
theorem dX7_sit_111 : decode cX7_sit 111 = .ok (.istore 7, 2) := by decide +kernel
theorem dX7_sit_113 : decode cX7_sit 113 = .ok (.iload 7, 2) := by decide +kernel
theorem dX7_sit_115 : decode cX7_sit 115 = .ok (.ifCond .ge 6, 3) := by decide +kernel
theorem dX7_sit_118 : decode cX7_sit 118 = .ok (.iload 7, 2) := by decide +kernel
theorem dX7_sit_120 : decode cX7_sit 120 = .ok (.ireturn, 1) := by decide +kernel
theorem dX7_sit_121 : decode cX7_sit 121 = .ok (.iload 4, 2) := by decide +kernel
theorem dX7_sit_123 : decode cX7_sit 123 = .ok (.aload_n 0, 1) := by decide +kernel
theorem dX7_sit_124 : decode cX7_sit 124 = .ok (.getfield 91, 3) := by decide +kernel
theorem dX7_sit_127 : decode cX7_sit 127 = .ok (.if_icmp .eq 10, 3) := by decide +kernel
theorem dX7_sit_130 : decode cX7_sit 130 = .ok (.aload_n 0, 1) := by decide +kernel
theorem dX7_sit_131 : decode cX7_sit 131 = .ok (.bipush (-2), 2) := by decide +kernel
theorem dX7_sit_133 : decode cX7_sit 133 = .ok (.invokevirtual 140, 3) := by decide +kernel
theorem dX7_sit_136 : decode cX7_sit 136 = .ok (.ireturn, 1) := by decide +kernel
theorem dX7_sit_137 : decode cX7_sit 137 = .ok (.iconst 0, 1) := by decide +kernel
theorem dX7_sit_138 : decode cX7_sit 138 = .ok (.istore 8, 2) := by decide +kernel
theorem dX7_sit_140 : decode cX7_sit 140 = .ok (.iload 8, 2) := by decide +kernel
theorem dX7_sit_142 : decode cX7_sit 142 = .ok (.iload 4, 2) := by decide +kernel
theorem dX7_sit_144 : decode cX7_sit 144 = .ok (.if_icmp .ge 39, 3) := by decide +kernel
theorem dX7_sit_147 : decode cX7_sit 147 = .ok (.aload_n 0, 1) := by decide +kernel
theorem dX7_sit_148 : decode cX7_sit 148 = .ok (.iload 8, 2) := by decide +kernel
theorem dX7_sit_150 : decode cX7_sit 150 = .ok (.aload_n 0, 1) := by decide +kernel
theorem dX7_sit_151 : decode cX7_sit 151 = .ok (.getfield 68, 3) := by decide +kernel
theorem dX7_sit_154 : decode cX7_sit 154 = .ok (.bipush 60, 2) := by decide +kernel
theorem dX7_sit_156 : decode cX7_sit 156 = .ok (.iload_n 1, 1) := by decide +kernel
theorem dX7_sit_157 : decode cX7_sit 157 = .ok (.imul, 1) := by decide +kernel
theorem dX7_sit_158 : decode cX7_sit 158 = .ok (.iload_n 3, 1) := by decide +kernel
theorem dX7_sit_159 : decode cX7_sit 159 = .ok (.iadd, 1) := by decide +kernel
theorem dX7_sit_160 : decode cX7_sit 160 = .ok (.iload 8, 2) := by decide +kernel
theorem dX7_sit_162 : decode cX7_sit 162 = .ok (.iadd, 1) := by decide +kernel
theorem dX7_sit_163 : decode cX7_sit 163 = .ok (.iaload, 1) := by decide +kernel
theorem dX7_sit_164 : decode cX7_sit 164 = .ok (.invokevirtual 174, 3) := by decide +kernel
theorem dX7_sit_167 : decode cX7_sit 167 = .ok (.ifCond .eq 10, 3) := by decide +kernel
theorem dX7_sit_170 : decode cX7_sit 170 = .ok (.aload_n 0, 1) := by decide +kernel
theorem dX7_sit_171 : decode cX7_sit 171 = .ok (.bipush (-2), 2) := by decide +kernel
theorem dX7_sit_173 : decode cX7_sit 173 = .ok (.invokevirtual 140, 3) := by decide +kernel
theorem dX7_sit_176 : decode cX7_sit 176 = .ok (.ireturn, 1) := by decide +kernel
theorem dX7_sit_177 : decode cX7_sit 177 = .ok (.iinc 8 1, 3) := by decide +kernel
theorem dX7_sit_180 : decode cX7_sit 180 = .ok (.goto (-40), 3) := by decide +kernel
theorem dX7_sit_183 : decode cX7_sit 183 = .ok (.aload_n 0, 1) := by decide +kernel
end
section
theorem dX7_sit_184 : decode cX7_sit 184 = .ok (.aload_n 0, 1) := by decide +kernel
theorem dX7_sit_185 : decode cX7_sit 185 = .ok (.bipush 60, 2) := by decide +kernel
theorem dX7_sit_187 : decode cX7_sit 187 = .ok (.iload_n 1, 1) := by decide +kernel
theorem dX7_sit_188 : decode cX7_sit 188 = .ok (.imul, 1) := by decide +kernel
theorem dX7_sit_189 : decode cX7_sit 189 = .ok (.iload_n 3, 1) := by decide +kernel
theorem dX7_sit_190 : decode cX7_sit 190 = .ok (.iadd, 1) := by decide +kernel
theorem dX7_sit_191 : decode cX7_sit 191 = .ok (.iload 5, 2) := by decide +kernel
theorem dX7_sit_193 : decode cX7_sit 193 = .ok (.invokevirtual 197, 3) := by decide +kernel
theorem dX7_sit_196 : decode cX7_sit 196 = .ok (.invokevirtual 140, 3) := by decide +kernel
theorem dX7_sit_199 : decode cX7_sit 199 = .ok (.ireturn, 1) := by decide +kernel
theorem dX7_maySit_0 : decode cX7_maySit 0 = .ok (.aload_n 0, 1) := by decide +kernel
theorem dX7_maySit_1 : decode cX7_maySit 1 = .ok (.iload_n 1, 1) := by decide +kernel
theorem dX7_maySit_2 : decode cX7_maySit 2 = .ok (.iload_n 2, 1) := by decide +kernel
theorem dX7_maySit_3 : decode cX7_maySit 3 = .ok (.invokevirtual 174, 3) := by decide +kernel
theorem dX7_maySit_6 : decode cX7_maySit 6 = .ok (.ifCond .ne 18, 3) := by decide +kernel
theorem dX7_maySit_9 : decode cX7_maySit 9 = .ok (.aload_n 0, 1) := by decide +kernel
theorem dX7_maySit_10 : decode cX7_maySit 10 = .ok (.getfield 152, 3) := by decide +kernel
theorem dX7_maySit_13 : decode cX7_maySit 13 = .ok (.ifCond .gt 7, 3) := by decide +kernel
theorem dX7_maySit_16 : decode cX7_maySit 16 = .ok (.iload_n 2, 1) := by decide +kernel
theorem dX7_maySit_17 : decode cX7_maySit 17 = .ok (.ifCond .ne 7, 3) := by decide +kernel
theorem dX7_maySit_20 : decode cX7_maySit 20 = .ok (.iconst 1, 1) := by decide +kernel
theorem dX7_maySit_21 : decode cX7_maySit 21 = .ok (.goto 4, 3) := by decide +kernel
theorem dX7_maySit_24 : decode cX7_maySit 24 = .ok (.iconst 0, 1) := by decide +kernel
theorem dX7_maySit_25 : decode cX7_maySit 25 = .ok (.ireturn, 1) := by decide +kernel
theorem dX7_way_0 : decode cX7_way 0 = .ok (.aload_n 0, 1) := by decide +kernel
theorem dX7_way_1 : decode cX7_way 1 = .ok (.iload_n 1, 1) := by decide +kernel
theorem dX7_way_2 : decode cX7_way 2 = .ok (.invokevirtual 158, 3) := by decide +kernel
theorem dX7_way_5 : decode cX7_way 5 = .ok (.ifCond .eq 5, 3) := by decide +kernel
theorem dX7_way_8 : decode cX7_way 8 = .ok (.iconst (-1), 1) := by decide +kernel
theorem dX7_way_9 : decode cX7_way 9 = .ok (.ireturn, 1) := by decide +kernel
theorem dX7_way_10 : decode cX7_way 10 = .ok (.iload_n 2, 1) := by decide +kernel
theorem dX7_way_11 : decode cX7_way 11 = .ok (.i2l, 1) := by decide +kernel
theorem dX7_way_12 : decode cX7_way 12 = .ok (.lconst 0, 1) := by decide +kernel
theorem dX7_way_13 : decode cX7_way 13 = .ok (.ldc2_w 200, 3) := by decide +kernel
theorem dX7_way_16 : decode cX7_way 16 = .ok (.invokestatic 87, 3) := by decide +kernel
theorem dX7_way_19 : decode cX7_way 19 = .ok (.ifCond .ne 6, 3) := by decide +kernel
theorem dX7_way_22 : decode cX7_way 22 = .ok (.bipush (-2), 2) := by decide +kernel
theorem dX7_way_24 : decode cX7_way 24 = .ok (.ireturn, 1) := by decide +kernel
theorem dX7_way_25 : decode cX7_way 25 = .ok (.bipush (-9), 2) := by decide +kernel
theorem dX7_way_27 : decode cX7_way 27 = .ok (.istore_n 3, 1) := by decide +kernel
theorem dX7_way_28 : decode cX7_way 28 = .ok (.iconst 0, 1) := by decide +kernel
theorem dX7_way_29 : decode cX7_way 29 = .ok (.istore 4, 2) := by decide +kernel
theorem dX7_way_31 : decode cX7_way 31 = .ok (.iload 4, 2) := by decide +kernel
theorem dX7_way_33 : decode cX7_way 33 = .ok (.bipush 32, 2) := by decide +kernel
theorem dX7_way_35 : decode cX7_way 35 = .ok (.if_icmp .ge 65, 3) := by decide +kernel
theorem dX7_way_38 : decode cX7_way 38 = .ok (.aload_n 0, 1) := by decide +kernel
theorem dX7_way_39 : decode cX7_way 39 = .ok (.iload_n 1, 1) := by decide +kernel
theorem dX7_way_40 : decode cX7_way 40 = .ok (.iload 4, 2) := by decide +kernel
theorem dX7_way_42 : decode cX7_way 42 = .ok (.invokevirtual 202, 3) := by decide +kernel
theorem dX7_way_45 : decode cX7_way 45 = .ok (.ifCond .eq 18, 3) := by decide +kernel
theorem dX7_way_48 : decode cX7_way 48 = .ok (.aload_n 0, 1) := by decide +kernel
theorem dX7_way_49 : decode cX7_way 49 = .ok (.iload_n 1, 1) := by decide +kernel
theorem dX7_way_50 : decode cX7_way 50 = .ok (.iload 4, 2) := by decide +kernel
theorem dX7_way_52 : decode cX7_way 52 = .ok (.invokevirtual 177, 3) := by decide +kernel
theorem dX7_way_55 : decode cX7_way 55 = .ok (.iload_n 2, 1) := by decide +kernel
theorem dX7_way_56 : decode cX7_way 56 = .ok (.if_icmp .ne 7, 3) := by decide +kernel
theorem dX7_way_59 : decode cX7_way 59 = .ok (.iconst 1, 1) := by decide +kernel
theorem dX7_way_60 : decode cX7_way 60 = .ok (.goto 4, 3) := by decide +kernel
theorem dX7_way_63 : decode cX7_way 63 = .ok (.iconst 0, 1) := by decide +kernel
theorem dX7_way_64 : decode cX7_way 64 = .ok (.istore 5, 2) := by decide +kernel
theorem dX7_way_66 : decode cX7_way 66 = .ok (.iload 5, 2) := by decide +kernel
theorem dX7_way_68 : decode cX7_way 68 = .ok (.ifCond .eq 24, 3) := by decide +kernel
theorem dX7_way_71 : decode cX7_way 71 = .ok (.iload_n 3, 1) := by decide +kernel
theorem dX7_way_72 : decode cX7_way 72 = .ok (.ifCond .lt 15, 3) := by decide +kernel
theorem dX7_way_75 : decode cX7_way 75 = .ok (.iload 4, 2) := by decide +kernel
theorem dX7_way_77 : decode cX7_way 77 = .ok (.invokestatic 186, 3) := by decide +kernel
theorem dX7_way_80 : decode cX7_way 80 = .ok (.iload_n 3, 1) := by decide +kernel
theorem dX7_way_81 : decode cX7_way 81 = .ok (.invokestatic 186, 3) := by decide +kernel
theorem dX7_way_84 : decode cX7_way 84 = .ok (.if_icmp .ge 8, 3) := by decide +kernel
theorem dX7_way_87 : decode cX7_way 87 = .ok (.iload 4, 2) := by decide +kernel
theorem dX7_way_89 : decode cX7_way 89 = .ok (.goto 4, 3) := by decide +kernel
theorem dX7_way_92 : decode cX7_way 92 = .ok (.iload_n 3, 1) := by decide +kernel
theorem dX7_way_93 : decode cX7_way 93 = .ok (.istore_n 3, 1) := by decide +kernel
theorem dX7_way_94 : decode cX7_way 94 = .ok (.iinc 4 1, 3) := by decide +kernel
theorem dX7_way_97 : decode cX7_way 97 = .ok (.goto (-66), 3) := by decide +kernel
theorem dX7_way_100 : decode cX7_way 100 = .ok (.iload_n 3, 1) := by decide +kernel
theorem dX7_way_101 : decode cX7_way 101 = .ok (.ireturn, 1) := by decide +kernel
theorem dX7_spread_0 : decode cX7_spread 0 = .ok (.aload_n 0, 1) := by decide +kernel
theorem dX7_spread_1 : decode cX7_spread 1 = .ok (.iload_n 1, 1) := by decide +kernel
theorem dX7_spread_2 : decode cX7_spread 2 = .ok (.invokevirtual 158, 3) := by decide +kernel
theorem dX7_spread_5 : decode cX7_spread 5 = .ok (.ifCond .eq 5, 3) := by decide +kernel
theorem dX7_spread_8 : decode cX7_spread 8 = .ok (.iconst (-1), 1) := by decide +kernel
theorem dX7_spread_9 : decode cX7_spread 9 = .ok (.ireturn, 1) := by decide +kernel
theorem dX7_spread_10 : decode cX7_spread 10 = .ok (.iconst 0, 1) := by decide +kernel
theorem dX7_spread_11 : decode cX7_spread 11 = .ok (.istore_n 2, 1) := by decide +kernel
theorem dX7_spread_12 : decode cX7_spread 12 = .ok (.aload_n 0, 1) := by decide +kernel
theorem dX7_spread_13 : decode cX7_spread 13 = .ok (.getfield 22, 3) := by decide +kernel
theorem dX7_spread_16 : decode cX7_spread 16 = .ok (.iload_n 1, 1) := by decide +kernel
theorem dX7_spread_17 : decode cX7_spread 17 = .ok (.iaload, 1) := by decide +kernel
theorem dX7_spread_18 : decode cX7_spread 18 = .ok (.istore_n 3, 1) := by decide +kernel
theorem dX7_spread_19 : decode cX7_spread 19 = .ok (.iload_n 3, 1) := by decide +kernel
theorem dX7_spread_20 : decode cX7_spread 20 = .ok (.aload_n 0, 1) := by decide +kernel
theorem dX7_spread_21 : decode cX7_spread 21 = .ok (.getfield 22, 3) := by decide +kernel
theorem dX7_spread_24 : decode cX7_spread 24 = .ok (.iload_n 1, 1) := by decide +kernel
theorem dX7_spread_25 : decode cX7_spread 25 = .ok (.iaload, 1) := by decide +kernel
theorem dX7_spread_26 : decode cX7_spread 26 = .ok (.bipush 20, 2) := by decide +kernel
theorem dX7_spread_28 : decode cX7_spread 28 = .ok (.iadd, 1) := by decide +kernel
theorem dX7_spread_29 : decode cX7_spread 29 = .ok (.if_icmp .gt 26, 3) := by decide +kernel
theorem dX7_spread_32 : decode cX7_spread 32 = .ok (.iload_n 2, 1) := by decide +kernel
theorem dX7_spread_33 : decode cX7_spread 33 = .ok (.aload_n 0, 1) := by decide +kernel
theorem dX7_spread_34 : decode cX7_spread 34 = .ok (.iload_n 1, 1) := by decide +kernel
theorem dX7_spread_35 : decode cX7_spread 35 = .ok (.iload_n 3, 1) := by decide +kernel
theorem dX7_spread_36 : decode cX7_spread 36 = .ok (.invokevirtual 205, 3) := by decide +kernel
theorem dX7_spread_39 : decode cX7_spread 39 = .ok (.ifCond .lt 7, 3) := by decide +kernel
theorem dX7_spread_42 : decode cX7_spread 42 = .ok (.iconst 1, 1) := by decide +kernel
theorem dX7_spread_43 : decode cX7_spread 43 = .ok (.goto 4, 3) := by decide +kernel
theorem dX7_spread_46 : decode cX7_spread 46 = .ok (.iconst 0, 1) := by decide +kernel
theorem dX7_spread_47 : decode cX7_spread 47 = .ok (.iadd, 1) := by decide +kernel
theorem dX7_spread_48 : decode cX7_spread 48 = .ok (.istore_n 2, 1) := by decide +kernel
theorem dX7_spread_49 : decode cX7_spread 49 = .ok (.iinc 3 1, 3) := by decide +kernel
theorem dX7_spread_52 : decode cX7_spread 52 = .ok (.goto (-33), 3) := by decide +kernel
theorem dX7_spread_55 : decode cX7_spread 55 = .ok (.iload_n 2, 1) := by decide +kernel
theorem dX7_spread_56 : decode cX7_spread 56 = .ok (.ireturn, 1) := by decide +kernel
theorem dX7_haveSeats_0 : decode cX7_haveSeats 0 = .ok (.iload_n 1, 1) := by decide +kernel
theorem dX7_haveSeats_1 : decode cX7_haveSeats 1 = .ok (.iload_n 2, 1) := by decide +kernel
theorem dX7_haveSeats_2 : decode cX7_haveSeats 2 = .ok (.iand, 1) := by decide +kernel
theorem dX7_haveSeats_3 : decode cX7_haveSeats 3 = .ok (.ifCond .eq 11, 3) := by decide +kernel
theorem dX7_haveSeats_6 : decode cX7_haveSeats 6 = .ok (.aload_n 0, 1) := by decide +kernel
theorem dX7_haveSeats_7 : decode cX7_haveSeats 7 = .ok (.getfield 152, 3) := by decide +kernel
theorem dX7_haveSeats_10 : decode cX7_haveSeats 10 = .ok (.iconst 1, 1) := by decide +kernel
theorem dX7_haveSeats_11 : decode cX7_haveSeats 11 = .ok (.if_icmp .le 7, 3) := by decide +kernel
theorem dX7_haveSeats_14 : decode cX7_haveSeats 14 = .ok (.iconst 1, 1) := by decide +kernel
theorem dX7_haveSeats_15 : decode cX7_haveSeats 15 = .ok (.goto 4, 3) := by decide +kernel
theorem dX7_haveSeats_18 : decode cX7_haveSeats 18 = .ok (.iconst 0, 1) := by decide +kernel
theorem dX7_haveSeats_19 : decode cX7_haveSeats 19 = .ok (.ireturn, 1) := by decide +kernel
theorem dX7_agree_0 : decode cX7_agree 0 = .ok (.aload_n 0, 1) := by decide +kernel
theorem dX7_agree_1 : decode cX7_agree 1 = .ok (.iload_n 1, 1) := by decide +kernel
theorem dX7_agree_2 : decode cX7_agree 2 = .ok (.invokevirtual 158, 3) := by decide +kernel
theorem dX7_agree_5 : decode cX7_agree 5 = .ok (.ifCond .ne 16, 3) := by decide +kernel
theorem dX7_agree_8 : decode cX7_agree 8 = .ok (.aload_n 0, 1) := by decide +kernel
theorem dX7_agree_9 : decode cX7_agree 9 = .ok (.iload_n 2, 1) := by decide +kernel
theorem dX7_agree_10 : decode cX7_agree 10 = .ok (.invokevirtual 158, 3) := by decide +kernel
theorem dX7_agree_13 : decode cX7_agree 13 = .ok (.ifCond .ne 8, 3) := by decide +kernel
theorem dX7_agree_16 : decode cX7_agree 16 = .ok (.iload_n 1, 1) := by decide +kernel
theorem dX7_agree_17 : decode cX7_agree 17 = .ok (.iload_n 2, 1) := by decide +kernel
theorem dX7_agree_18 : decode cX7_agree 18 = .ok (.if_icmp .ne 5, 3) := by decide +kernel
theorem dX7_agree_21 : decode cX7_agree 21 = .ok (.iconst (-1), 1) := by decide +kernel
theorem dX7_agree_22 : decode cX7_agree 22 = .ok (.ireturn, 1) := by decide +kernel
theorem dX7_agree_23 : decode cX7_agree 23 = .ok (.iload_n 3, 1) := by decide +kernel
theorem dX7_agree_24 : decode cX7_agree 24 = .ok (.i2l, 1) := by decide +kernel
theorem dX7_agree_25 : decode cX7_agree 25 = .ok (.lconst 0, 1) := by decide +kernel
theorem dX7_agree_26 : decode cX7_agree 26 = .ok (.ldc2_w 143, 3) := by decide +kernel
theorem dX7_agree_29 : decode cX7_agree 29 = .ok (.invokestatic 87, 3) := by decide +kernel
theorem dX7_agree_32 : decode cX7_agree 32 = .ok (.ifCond .ne 6, 3) := by decide +kernel
theorem dX7_agree_35 : decode cX7_agree 35 = .ok (.bipush (-2), 2) := by decide +kernel
theorem dX7_agree_37 : decode cX7_agree 37 = .ok (.ireturn, 1) := by decide +kernel
theorem dX7_agree_38 : decode cX7_agree 38 = .ok (.bipush (-9), 2) := by decide +kernel
theorem dX7_agree_40 : decode cX7_agree 40 = .ok (.istore 4, 2) := by decide +kernel
theorem dX7_agree_42 : decode cX7_agree 42 = .ok (.bipush (-9), 2) := by decide +kernel
theorem dX7_agree_44 : decode cX7_agree 44 = .ok (.istore 5, 2) := by decide +kernel
theorem dX7_agree_46 : decode cX7_agree 46 = .ok (.bipush (-9), 2) := by decide +kernel
theorem dX7_agree_48 : decode cX7_agree 48 = .ok (.istore 6, 2) := by decide +kernel
theorem dX7_agree_50 : decode cX7_agree 50 = .ok (.iconst 0, 1) := by decide +kernel
theorem dX7_agree_51 : decode cX7_agree 51 = .ok (.istore 7, 2) := by decide +kernel
theorem dX7_agree_53 : decode cX7_agree 53 = .ok (.iload 7, 2) := by decide +kernel
theorem dX7_agree_55 : decode cX7_agree 55 = .ok (.sipush 1024, 3) := by decide +kernel
theorem dX7_agree_58 : decode cX7_agree 58 = .ok (.if_icmp .ge 120, 3) := by decide +kernel
theorem dX7_agree_61 : decode cX7_agree 61 = .ok (.iload 7, 2) := by decide +kernel
theorem dX7_agree_63 : decode cX7_agree 63 = .ok (.bipush 32, 2) := by decide +kernel
theorem dX7_agree_65 : decode cX7_agree 65 = .ok (.idiv, 1) := by decide +kernel
theorem dX7_agree_66 : decode cX7_agree 66 = .ok (.istore 8, 2) := by decide +kernel
theorem dX7_agree_68 : decode cX7_agree 68 = .ok (.iload 7, 2) := by decide +kernel
theorem dX7_agree_70 : decode cX7_agree 70 = .ok (.bipush 32, 2) := by decide +kernel
theorem dX7_agree_72 : decode cX7_agree 72 = .ok (.irem, 1) := by decide +kernel
theorem dX7_agree_73 : decode cX7_agree 73 = .ok (.istore 9, 2) := by decide +kernel
theorem dX7_agree_75 : decode cX7_agree 75 = .ok (.iload 8, 2) := by decide +kernel
theorem dX7_agree_77 : decode cX7_agree 77 = .ok (.invokestatic 186, 3) := by decide +kernel
theorem dX7_agree_80 : decode cX7_agree 80 = .ok (.iload 9, 2) := by decide +kernel
theorem dX7_agree_82 : decode cX7_agree 82 = .ok (.invokestatic 186, 3) := by decide +kernel
theorem dX7_agree_85 : decode cX7_agree 85 = .ok (.iadd, 1) := by decide +kernel
theorem dX7_agree_86 : decode cX7_agree 86 = .ok (.istore 10, 2) := by decide +kernel
theorem dX7_agree_88 : decode cX7_agree 88 = .ok (.aload_n 0, 1) := by decide +kernel
theorem dX7_agree_89 : decode cX7_agree 89 = .ok (.iload_n 1, 1) := by decide +kernel
theorem dX7_agree_90 : decode cX7_agree 90 = .ok (.iload 8, 2) := by decide +kernel
theorem dX7_agree_92 : decode cX7_agree 92 = .ok (.invokevirtual 202, 3) := by decide +kernel
theorem dX7_agree_95 : decode cX7_agree 95 = .ok (.ifCond .eq 45, 3) := by decide +kernel
theorem dX7_agree_98 : decode cX7_agree 98 = .ok (.aload_n 0, 1) := by decide +kernel
theorem dX7_agree_99 : decode cX7_agree 99 = .ok (.iload_n 2, 1) := by decide +kernel
theorem dX7_agree_100 : decode cX7_agree 100 = .ok (.iload 9, 2) := by decide +kernel
theorem dX7_agree_102 : decode cX7_agree 102 = .ok (.invokevirtual 202, 3) := by decide +kernel
theorem dX7_agree_105 : decode cX7_agree 105 = .ok (.ifCond .eq 35, 3) := by decide +kernel
theorem dX7_agree_108 : decode cX7_agree 108 = .ok (.aload_n 0, 1) := by decide +kernel
theorem dX7_agree_109 : decode cX7_agree 109 = .ok (.iload 8, 2) := by decide +kernel
theorem dX7_agree_111 : decode cX7_agree 111 = .ok (.iload 9, 2) := by decide +kernel
theorem dX7_agree_113 : decode cX7_agree 113 = .ok (.invokevirtual 208, 3) := by decide +kernel
theorem dX7_agree_116 : decode cX7_agree 116 = .ok (.ifCond .eq 24, 3) := by decide +kernel
theorem dX7_agree_119 : decode cX7_agree 119 = .ok (.aload_n 0, 1) := by decide +kernel
theorem dX7_agree_120 : decode cX7_agree 120 = .ok (.iload_n 1, 1) := by decide +kernel
theorem dX7_agree_121 : decode cX7_agree 121 = .ok (.iload 8, 2) := by decide +kernel
theorem dX7_agree_123 : decode cX7_agree 123 = .ok (.invokevirtual 177, 3) := by decide +kernel
theorem dX7_agree_126 : decode cX7_agree 126 = .ok (.aload_n 0, 1) := by decide +kernel
theorem dX7_agree_127 : decode cX7_agree 127 = .ok (.iload_n 2, 1) := by decide +kernel
theorem dX7_agree_128 : decode cX7_agree 128 = .ok (.iload 9, 2) := by decide +kernel
theorem dX7_agree_130 : decode cX7_agree 130 = .ok (.invokevirtual 177, 3) := by decide +kernel
theorem dX7_agree_133 : decode cX7_agree 133 = .ok (.if_icmp .ne 7, 3) := by decide +kernel
theorem dX7_agree_136 : decode cX7_agree 136 = .ok (.iconst 1, 1) := by decide +kernel
theorem dX7_agree_137 : decode cX7_agree 137 = .ok (.goto 4, 3) := by decide +kernel
theorem dX7_agree_140 : decode cX7_agree 140 = .ok (.iconst 0, 1) := by decide +kernel
theorem dX7_agree_141 : decode cX7_agree 141 = .ok (.istore 11, 2) := by decide +kernel
theorem dX7_agree_143 : decode cX7_agree 143 = .ok (.iload 11, 2) := by decide +kernel
theorem dX7_agree_145 : decode cX7_agree 145 = .ok (.ifCond .eq 27, 3) := by decide +kernel
theorem dX7_agree_148 : decode cX7_agree 148 = .ok (.iload 4, 2) := by decide +kernel
theorem dX7_agree_150 : decode cX7_agree 150 = .ok (.ifCond .lt 10, 3) := by decide +kernel
theorem dX7_agree_153 : decode cX7_agree 153 = .ok (.iload 10, 2) := by decide +kernel
theorem dX7_agree_155 : decode cX7_agree 155 = .ok (.iload 4, 2) := by decide +kernel
theorem dX7_agree_157 : decode cX7_agree 157 = .ok (.if_icmp .ge 15, 3) := by decide +kernel
theorem dX7_agree_160 : decode cX7_agree 160 = .ok (.iload 10, 2) := by decide +kernel
theorem dX7_agree_162 : decode cX7_agree 162 = .ok (.istore 4, 2) := by decide +kernel
theorem dX7_agree_164 : decode cX7_agree 164 = .ok (.iload 8, 2) := by decide +kernel
theorem dX7_agree_166 : decode cX7_agree 166 = .ok (.istore 5, 2) := by decide +kernel
theorem dX7_agree_168 : decode cX7_agree 168 = .ok (.iload 9, 2) := by decide +kernel
theorem dX7_agree_170 : decode cX7_agree 170 = .ok (.istore 6, 2) := by decide +kernel
theorem dX7_agree_172 : decode cX7_agree 172 = .ok (.iinc 7 1, 3) := by decide +kernel
theorem dX7_agree_175 : decode cX7_agree 175 = .ok (.goto (-122), 3) := by decide +kernel
theorem dX7_agree_178 : decode cX7_agree 178 = .ok (.iload_n 3, 1) := by decide +kernel
theorem dX7_agree_179 : decode cX7_agree 179 = .ok (.ifCond .ne 8, 3) := by decide +kernel
theorem dX7_agree_182 : decode cX7_agree 182 = .ok (.iload 4, 2) := by decide +kernel
theorem dX7_agree_184 : decode cX7_agree 184 = .ok (.goto 15, 3) := by decide +kernel
theorem dX7_agree_187 : decode cX7_agree 187 = .ok (.iload_n 3, 1) := by decide +kernel
theorem dX7_agree_188 : decode cX7_agree 188 = .ok (.iconst 1, 1) := by decide +kernel
theorem dX7_agree_189 : decode cX7_agree 189 = .ok (.if_icmp .ne 8, 3) := by decide +kernel
theorem dX7_agree_192 : decode cX7_agree 192 = .ok (.iload 5, 2) := by decide +kernel
theorem dX7_agree_194 : decode cX7_agree 194 = .ok (.goto 5, 3) := by decide +kernel
theorem dX7_agree_197 : decode cX7_agree 197 = .ok (.iload 6, 2) := by decide +kernel
theorem dX7_agree_199 : decode cX7_agree 199 = .ok (.ireturn, 1) := by decide +kernel
theorem dX7_withOne_0 : decode cX7_withOne 0 = .ok (.iload_n 1, 1) := by decide +kernel
theorem dX7_withOne_1 : decode cX7_withOne 1 = .ok (.istore_n 3, 1) := by decide +kernel
theorem dX7_withOne_2 : decode cX7_withOne 2 = .ok (.iconst 1, 1) := by decide +kernel
theorem dX7_withOne_3 : decode cX7_withOne 3 = .ok (.istore 4, 2) := by decide +kernel
theorem dX7_withOne_5 : decode cX7_withOne 5 = .ok (.iconst 0, 1) := by decide +kernel
theorem dX7_withOne_6 : decode cX7_withOne 6 = .ok (.istore 5, 2) := by decide +kernel
theorem dX7_withOne_8 : decode cX7_withOne 8 = .ok (.iload 5, 2) := by decide +kernel
theorem dX7_withOne_10 : decode cX7_withOne 10 = .ok (.aload_n 0, 1) := by decide +kernel
theorem dX7_withOne_11 : decode cX7_withOne 11 = .ok (.getfield 84, 3) := by decide +kernel
theorem dX7_withOne_14 : decode cX7_withOne 14 = .ok (.if_icmp .ge 71, 3) := by decide +kernel
theorem dX7_withOne_17 : decode cX7_withOne 17 = .ok (.iload_n 1, 1) := by decide +kernel
theorem dX7_withOne_18 : decode cX7_withOne 18 = .ok (.iconst 2, 1) := by decide +kernel
theorem dX7_withOne_19 : decode cX7_withOne 19 = .ok (.iload 5, 2) := by decide +kernel
theorem dX7_withOne_21 : decode cX7_withOne 21 = .ok (.imul, 1) := by decide +kernel
theorem dX7_withOne_22 : decode cX7_withOne 22 = .ok (.ishr, 1) := by decide +kernel
theorem dX7_withOne_23 : decode cX7_withOne 23 = .ok (.iconst 3, 1) := by decide +kernel
theorem dX7_withOne_24 : decode cX7_withOne 24 = .ok (.iand, 1) := by decide +kernel
theorem dX7_withOne_25 : decode cX7_withOne 25 = .ok (.istore 6, 2) := by decide +kernel
theorem dX7_withOne_27 : decode cX7_withOne 27 = .ok (.iload 4, 2) := by decide +kernel
theorem dX7_withOne_29 : decode cX7_withOne 29 = .ok (.ifCond .eq 25, 3) := by decide +kernel
theorem dX7_withOne_32 : decode cX7_withOne 32 = .ok (.iload_n 2, 1) := by decide +kernel
theorem dX7_withOne_33 : decode cX7_withOne 33 = .ok (.iload 5, 2) := by decide +kernel
theorem dX7_withOne_35 : decode cX7_withOne 35 = .ok (.invokestatic 171, 3) := by decide +kernel
theorem dX7_withOne_38 : decode cX7_withOne 38 = .ok (.ifCond .eq 12, 3) := by decide +kernel
theorem dX7_withOne_41 : decode cX7_withOne 41 = .ok (.iload 6, 2) := by decide +kernel
theorem dX7_withOne_43 : decode cX7_withOne 43 = .ok (.aload_n 0, 1) := by decide +kernel
theorem dX7_withOne_44 : decode cX7_withOne 44 = .ok (.getfield 152, 3) := by decide +kernel
theorem dX7_withOne_47 : decode cX7_withOne 47 = .ok (.if_icmp .ge 7, 3) := by decide +kernel
theorem dX7_withOne_50 : decode cX7_withOne 50 = .ok (.iconst 1, 1) := by decide +kernel
theorem dX7_withOne_51 : decode cX7_withOne 51 = .ok (.goto 4, 3) := by decide +kernel
theorem dX7_withOne_54 : decode cX7_withOne 54 = .ok (.iconst 0, 1) := by decide +kernel
theorem dX7_withOne_55 : decode cX7_withOne 55 = .ok (.istore 4, 2) := by decide +kernel
theorem dX7_withOne_57 : decode cX7_withOne 57 = .ok (.iload_n 3, 1) := by decide +kernel
theorem dX7_withOne_58 : decode cX7_withOne 58 = .ok (.iload_n 2, 1) := by decide +kernel
theorem dX7_withOne_59 : decode cX7_withOne 59 = .ok (.iload 5, 2) := by decide +kernel
theorem dX7_withOne_61 : decode cX7_withOne 61 = .ok (.invokestatic 171, 3) := by decide +kernel
theorem dX7_withOne_64 : decode cX7_withOne 64 = .ok (.ifCond .eq 12, 3) := by decide +kernel
theorem dX7_withOne_67 : decode cX7_withOne 67 = .ok (.iconst 1, 1) := by decide +kernel
theorem dX7_withOne_68 : decode cX7_withOne 68 = .ok (.iconst 2, 1) := by decide +kernel
theorem dX7_withOne_69 : decode cX7_withOne 69 = .ok (.iload 5, 2) := by decide +kernel
theorem dX7_withOne_71 : decode cX7_withOne 71 = .ok (.imul, 1) := by decide +kernel
theorem dX7_withOne_72 : decode cX7_withOne 72 = .ok (.ishl, 1) := by decide +kernel
theorem dX7_withOne_73 : decode cX7_withOne 73 = .ok (.goto 4, 3) := by decide +kernel
theorem dX7_withOne_76 : decode cX7_withOne 76 = .ok (.iconst 0, 1) := by decide +kernel
theorem dX7_withOne_77 : decode cX7_withOne 77 = .ok (.iadd, 1) := by decide +kernel
theorem dX7_withOne_78 : decode cX7_withOne 78 = .ok (.istore_n 3, 1) := by decide +kernel
theorem dX7_withOne_79 : decode cX7_withOne 79 = .ok (.iinc 5 1, 3) := by decide +kernel
theorem dX7_withOne_82 : decode cX7_withOne 82 = .ok (.goto (-74), 3) := by decide +kernel
theorem dX7_withOne_85 : decode cX7_withOne 85 = .ok (.iload 4, 2) := by decide +kernel
theorem dX7_withOne_87 : decode cX7_withOne 87 = .ok (.ifCond .eq 7, 3) := by decide +kernel
theorem dX7_withOne_90 : decode cX7_withOne 90 = .ok (.iload_n 3, 1) := by decide +kernel
theorem dX7_withOne_91 : decode cX7_withOne 91 = .ok (.goto 5, 3) := by decide +kernel
theorem dX7_withOne_94 : decode cX7_withOne 94 = .ok (.bipush (-9), 2) := by decide +kernel
theorem dX7_withOne_96 : decode cX7_withOne 96 = .ok (.ireturn, 1) := by decide +kernel
theorem dX7_goOn_0 : decode cX7_goOn 0 = .ok (.iconst 0, 1) := by decide +kernel
theorem dX7_goOn_1 : decode cX7_goOn 1 = .ok (.istore_n 2, 1) := by decide +kernel
theorem dX7_goOn_2 : decode cX7_goOn 2 = .ok (.iload_n 2, 1) := by decide +kernel
theorem dX7_goOn_3 : decode cX7_goOn 3 = .ok (.sipush 1024, 3) := by decide +kernel
theorem dX7_goOn_6 : decode cX7_goOn 6 = .ok (.if_icmp .ge 16, 3) := by decide +kernel
theorem dX7_goOn_9 : decode cX7_goOn 9 = .ok (.aload_n 0, 1) := by decide +kernel
theorem dX7_goOn_10 : decode cX7_goOn 10 = .ok (.getfield 50, 3) := by decide +kernel
theorem dX7_goOn_13 : decode cX7_goOn 13 = .ok (.iload_n 2, 1) := by decide +kernel
theorem dX7_goOn_14 : decode cX7_goOn 14 = .ok (.iconst 0, 1) := by decide +kernel
theorem dX7_goOn_15 : decode cX7_goOn 15 = .ok (.bastore, 1) := by decide +kernel
theorem dX7_goOn_16 : decode cX7_goOn 16 = .ok (.iinc 2 1, 3) := by decide +kernel
theorem dX7_goOn_19 : decode cX7_goOn 19 = .ok (.goto (-17), 3) := by decide +kernel
theorem dX7_goOn_22 : decode cX7_goOn 22 = .ok (.iconst 0, 1) := by decide +kernel
theorem dX7_goOn_23 : decode cX7_goOn 23 = .ok (.istore_n 2, 1) := by decide +kernel
theorem dX7_goOn_24 : decode cX7_goOn 24 = .ok (.iload_n 2, 1) := by decide +kernel
theorem dX7_goOn_25 : decode cX7_goOn 25 = .ok (.bipush 32, 2) := by decide +kernel
theorem dX7_goOn_27 : decode cX7_goOn 27 = .ok (.if_icmp .ge 38, 3) := by decide +kernel
theorem dX7_goOn_30 : decode cX7_goOn 30 = .ok (.aload_n 0, 1) := by decide +kernel
theorem dX7_goOn_31 : decode cX7_goOn 31 = .ok (.iload_n 1, 1) := by decide +kernel
theorem dX7_goOn_32 : decode cX7_goOn 32 = .ok (.iload_n 2, 1) := by decide +kernel
theorem dX7_goOn_33 : decode cX7_goOn 33 = .ok (.invokevirtual 174, 3) := by decide +kernel
theorem dX7_goOn_36 : decode cX7_goOn 36 = .ok (.ifCond .ne 23, 3) := by decide +kernel
theorem dX7_goOn_39 : decode cX7_goOn 39 = .ok (.aload_n 0, 1) := by decide +kernel
theorem dX7_goOn_40 : decode cX7_goOn 40 = .ok (.iload_n 1, 1) := by decide +kernel
theorem dX7_goOn_41 : decode cX7_goOn 41 = .ok (.iload_n 2, 1) := by decide +kernel
theorem dX7_goOn_42 : decode cX7_goOn 42 = .ok (.invokevirtual 177, 3) := by decide +kernel
theorem dX7_goOn_45 : decode cX7_goOn 45 = .ok (.aload_n 0, 1) := by decide +kernel
theorem dX7_goOn_46 : decode cX7_goOn 46 = .ok (.getfield 25, 3) := by decide +kernel
theorem dX7_goOn_49 : decode cX7_goOn 49 = .ok (.iload_n 1, 1) := by decide +kernel
theorem dX7_goOn_50 : decode cX7_goOn 50 = .ok (.iaload, 1) := by decide +kernel
theorem dX7_goOn_51 : decode cX7_goOn 51 = .ok (.if_icmp .ne 8, 3) := by decide +kernel
theorem dX7_goOn_54 : decode cX7_goOn 54 = .ok (.aload_n 0, 1) := by decide +kernel
theorem dX7_goOn_55 : decode cX7_goOn 55 = .ok (.iload_n 2, 1) := by decide +kernel
theorem dX7_goOn_56 : decode cX7_goOn 56 = .ok (.invokevirtual 211, 3) := by decide +kernel
theorem dX7_goOn_59 : decode cX7_goOn 59 = .ok (.iinc 2 1, 3) := by decide +kernel
theorem dX7_goOn_62 : decode cX7_goOn 62 = .ok (.goto (-38), 3) := by decide +kernel
theorem dX7_goOn_65 : decode cX7_goOn 65 = .ok (.iconst 0, 1) := by decide +kernel
theorem dX7_goOn_66 : decode cX7_goOn 66 = .ok (.istore_n 2, 1) := by decide +kernel
theorem dX7_goOn_67 : decode cX7_goOn 67 = .ok (.iload_n 2, 1) := by decide +kernel
theorem dX7_goOn_68 : decode cX7_goOn 68 = .ok (.sipush 1024, 3) := by decide +kernel
theorem dX7_goOn_71 : decode cX7_goOn 71 = .ok (.if_icmp .ge 21, 3) := by decide +kernel
theorem dX7_goOn_74 : decode cX7_goOn 74 = .ok (.aload_n 0, 1) := by decide +kernel
theorem dX7_goOn_75 : decode cX7_goOn 75 = .ok (.getfield 46, 3) := by decide +kernel
theorem dX7_goOn_78 : decode cX7_goOn 78 = .ok (.iload_n 2, 1) := by decide +kernel
theorem dX7_goOn_79 : decode cX7_goOn 79 = .ok (.aload_n 0, 1) := by decide +kernel
theorem dX7_goOn_80 : decode cX7_goOn 80 = .ok (.getfield 50, 3) := by decide +kernel
theorem dX7_goOn_83 : decode cX7_goOn 83 = .ok (.iload_n 2, 1) := by decide +kernel
theorem dX7_goOn_84 : decode cX7_goOn 84 = .ok (.baload, 1) := by decide +kernel
theorem dX7_goOn_85 : decode cX7_goOn 85 = .ok (.bastore, 1) := by decide +kernel
theorem dX7_goOn_86 : decode cX7_goOn 86 = .ok (.iinc 2 1, 3) := by decide +kernel
theorem dX7_goOn_89 : decode cX7_goOn 89 = .ok (.goto (-22), 3) := by decide +kernel
theorem dX7_goOn_92 : decode cX7_goOn 92 = .ok (.return_, 1) := by decide +kernel
theorem dX7_addTo_0 : decode cX7_addTo 0 = .ok (.iconst 0, 1) := by decide +kernel
theorem dX7_addTo_1 : decode cX7_addTo 1 = .ok (.istore_n 2, 1) := by decide +kernel
theorem dX7_addTo_2 : decode cX7_addTo 2 = .ok (.iload_n 2, 1) := by decide +kernel
theorem dX7_addTo_3 : decode cX7_addTo 3 = .ok (.sipush 1024, 3) := by decide +kernel
theorem dX7_addTo_6 : decode cX7_addTo 6 = .ok (.if_icmp .ge 41, 3) := by decide +kernel
theorem dX7_addTo_9 : decode cX7_addTo 9 = .ok (.aload_n 0, 1) := by decide +kernel
theorem dX7_addTo_10 : decode cX7_addTo 10 = .ok (.getfield 46, 3) := by decide +kernel
theorem dX7_addTo_13 : decode cX7_addTo 13 = .ok (.iload_n 2, 1) := by decide +kernel
theorem dX7_addTo_14 : decode cX7_addTo 14 = .ok (.baload, 1) := by decide +kernel
theorem dX7_addTo_15 : decode cX7_addTo 15 = .ok (.ifCond .eq 12, 3) := by decide +kernel
theorem dX7_addTo_18 : decode cX7_addTo 18 = .ok (.aload_n 0, 1) := by decide +kernel
theorem dX7_addTo_19 : decode cX7_addTo 19 = .ok (.iload_n 2, 1) := by decide +kernel
theorem dX7_addTo_20 : decode cX7_addTo 20 = .ok (.iload_n 1, 1) := by decide +kernel
theorem dX7_addTo_21 : decode cX7_addTo 21 = .ok (.invokevirtual 215, 3) := by decide +kernel
theorem dX7_addTo_24 : decode cX7_addTo 24 = .ok (.goto 5, 3) := by decide +kernel
theorem dX7_addTo_27 : decode cX7_addTo 27 = .ok (.bipush (-9), 2) := by decide +kernel
theorem dX7_addTo_29 : decode cX7_addTo 29 = .ok (.istore_n 3, 1) := by decide +kernel
theorem dX7_addTo_30 : decode cX7_addTo 30 = .ok (.iload_n 3, 1) := by decide +kernel
theorem dX7_addTo_31 : decode cX7_addTo 31 = .ok (.ifCond .lt 10, 3) := by decide +kernel
theorem dX7_addTo_34 : decode cX7_addTo 34 = .ok (.aload_n 0, 1) := by decide +kernel
theorem dX7_addTo_35 : decode cX7_addTo 35 = .ok (.getfield 50, 3) := by decide +kernel
theorem dX7_addTo_38 : decode cX7_addTo 38 = .ok (.iload_n 3, 1) := by decide +kernel
theorem dX7_addTo_39 : decode cX7_addTo 39 = .ok (.iconst 1, 1) := by decide +kernel
theorem dX7_addTo_40 : decode cX7_addTo 40 = .ok (.bastore, 1) := by decide +kernel
theorem dX7_addTo_41 : decode cX7_addTo 41 = .ok (.iinc 2 1, 3) := by decide +kernel
theorem dX7_addTo_44 : decode cX7_addTo 44 = .ok (.goto (-42), 3) := by decide +kernel
theorem dX7_addTo_47 : decode cX7_addTo 47 = .ok (.return_, 1) := by decide +kernel
theorem dX7_canAllBeRight_0 : decode cX7_canAllBeRight 0 = .ok (.iconst 0, 1) := by decide +kernel
theorem dX7_canAllBeRight_1 : decode cX7_canAllBeRight 1 = .ok (.istore_n 2, 1) := by decide +kernel
theorem dX7_canAllBeRight_2 : decode cX7_canAllBeRight 2 = .ok (.iload_n 2, 1) := by decide +kernel
theorem dX7_canAllBeRight_3 : decode cX7_canAllBeRight 3 = .ok (.sipush 1024, 3) := by decide +kernel
theorem dX7_canAllBeRight_6 : decode cX7_canAllBeRight 6 = .ok (.if_icmp .ge 24, 3) := by decide +kernel
theorem dX7_canAllBeRight_9 : decode cX7_canAllBeRight 9 = .ok (.aload_n 0, 1) := by decide +kernel
theorem dX7_canAllBeRight_10 : decode cX7_canAllBeRight 10 = .ok (.getfield 46, 3) := by decide +kernel
theorem dX7_canAllBeRight_13 : decode cX7_canAllBeRight 13 = .ok (.iload_n 2, 1) := by decide +kernel
theorem dX7_canAllBeRight_14 : decode cX7_canAllBeRight 14 = .ok (.iload_n 2, 1) := by decide +kernel
theorem dX7_canAllBeRight_15 : decode cX7_canAllBeRight 15 = .ok (.ifCond .ne 7, 3) := by decide +kernel
theorem dX7_canAllBeRight_18 : decode cX7_canAllBeRight 18 = .ok (.iconst 1, 1) := by decide +kernel
theorem dX7_canAllBeRight_19 : decode cX7_canAllBeRight 19 = .ok (.goto 4, 3) := by decide +kernel
theorem dX7_canAllBeRight_22 : decode cX7_canAllBeRight 22 = .ok (.iconst 0, 1) := by decide +kernel
theorem dX7_canAllBeRight_23 : decode cX7_canAllBeRight 23 = .ok (.bastore, 1) := by decide +kernel
theorem dX7_canAllBeRight_24 : decode cX7_canAllBeRight 24 = .ok (.iinc 2 1, 3) := by decide +kernel
theorem dX7_canAllBeRight_27 : decode cX7_canAllBeRight 27 = .ok (.goto (-25), 3) := by decide +kernel
theorem dX7_canAllBeRight_30 : decode cX7_canAllBeRight 30 = .ok (.iconst 0, 1) := by decide +kernel
theorem dX7_canAllBeRight_31 : decode cX7_canAllBeRight 31 = .ok (.istore_n 2, 1) := by decide +kernel
theorem dX7_canAllBeRight_32 : decode cX7_canAllBeRight 32 = .ok (.iload_n 2, 1) := by decide +kernel
theorem dX7_canAllBeRight_33 : decode cX7_canAllBeRight 33 = .ok (.aload_n 0, 1) := by decide +kernel
theorem dX7_canAllBeRight_34 : decode cX7_canAllBeRight 34 = .ok (.getfield 91, 3) := by decide +kernel
theorem dX7_canAllBeRight_37 : decode cX7_canAllBeRight 37 = .ok (.if_icmp .ge 22, 3) := by decide +kernel
theorem dX7_canAllBeRight_40 : decode cX7_canAllBeRight 40 = .ok (.iload_n 1, 1) := by decide +kernel
theorem dX7_canAllBeRight_41 : decode cX7_canAllBeRight 41 = .ok (.iload_n 2, 1) := by decide +kernel
theorem dX7_canAllBeRight_42 : decode cX7_canAllBeRight 42 = .ok (.invokestatic 171, 3) := by decide +kernel
theorem dX7_canAllBeRight_45 : decode cX7_canAllBeRight 45 = .ok (.ifCond .eq 8, 3) := by decide +kernel
theorem dX7_canAllBeRight_48 : decode cX7_canAllBeRight 48 = .ok (.aload_n 0, 1) := by decide +kernel
theorem dX7_canAllBeRight_49 : decode cX7_canAllBeRight 49 = .ok (.iload_n 2, 1) := by decide +kernel
theorem dX7_canAllBeRight_50 : decode cX7_canAllBeRight 50 = .ok (.invokevirtual 218, 3) := by decide +kernel
theorem dX7_canAllBeRight_53 : decode cX7_canAllBeRight 53 = .ok (.iinc 2 1, 3) := by decide +kernel
theorem dX7_canAllBeRight_56 : decode cX7_canAllBeRight 56 = .ok (.goto (-24), 3) := by decide +kernel
theorem dX7_canAllBeRight_59 : decode cX7_canAllBeRight 59 = .ok (.iconst 0, 1) := by decide +kernel
theorem dX7_canAllBeRight_60 : decode cX7_canAllBeRight 60 = .ok (.istore_n 2, 1) := by decide +kernel
theorem dX7_canAllBeRight_61 : decode cX7_canAllBeRight 61 = .ok (.iconst 0, 1) := by decide +kernel
theorem dX7_canAllBeRight_62 : decode cX7_canAllBeRight 62 = .ok (.istore_n 3, 1) := by decide +kernel
theorem dX7_canAllBeRight_63 : decode cX7_canAllBeRight 63 = .ok (.iload_n 3, 1) := by decide +kernel
theorem dX7_canAllBeRight_64 : decode cX7_canAllBeRight 64 = .ok (.sipush 1024, 3) := by decide +kernel
theorem dX7_canAllBeRight_67 : decode cX7_canAllBeRight 67 = .ok (.if_icmp .ge 28, 3) := by decide +kernel
theorem dX7_canAllBeRight_70 : decode cX7_canAllBeRight 70 = .ok (.iload_n 2, 1) := by decide +kernel
theorem dX7_canAllBeRight_71 : decode cX7_canAllBeRight 71 = .ok (.ifCond .ne 12, 3) := by decide +kernel
theorem dX7_canAllBeRight_74 : decode cX7_canAllBeRight 74 = .ok (.aload_n 0, 1) := by decide +kernel
theorem dX7_canAllBeRight_75 : decode cX7_canAllBeRight 75 = .ok (.getfield 46, 3) := by decide +kernel
theorem dX7_canAllBeRight_78 : decode cX7_canAllBeRight 78 = .ok (.iload_n 3, 1) := by decide +kernel
theorem dX7_canAllBeRight_79 : decode cX7_canAllBeRight 79 = .ok (.baload, 1) := by decide +kernel
theorem dX7_canAllBeRight_80 : decode cX7_canAllBeRight 80 = .ok (.ifCond .eq 7, 3) := by decide +kernel
theorem dX7_canAllBeRight_83 : decode cX7_canAllBeRight 83 = .ok (.iconst 1, 1) := by decide +kernel
theorem dX7_canAllBeRight_84 : decode cX7_canAllBeRight 84 = .ok (.goto 4, 3) := by decide +kernel
theorem dX7_canAllBeRight_87 : decode cX7_canAllBeRight 87 = .ok (.iconst 0, 1) := by decide +kernel
theorem dX7_canAllBeRight_88 : decode cX7_canAllBeRight 88 = .ok (.istore_n 2, 1) := by decide +kernel
theorem dX7_canAllBeRight_89 : decode cX7_canAllBeRight 89 = .ok (.iinc 3 1, 3) := by decide +kernel
theorem dX7_canAllBeRight_92 : decode cX7_canAllBeRight 92 = .ok (.goto (-29), 3) := by decide +kernel
theorem dX7_canAllBeRight_95 : decode cX7_canAllBeRight 95 = .ok (.iload_n 2, 1) := by decide +kernel
theorem dX7_canAllBeRight_96 : decode cX7_canAllBeRight 96 = .ok (.ireturn, 1) := by decide +kernel
theorem dX7_most_0 : decode cX7_most 0 = .ok (.aload_n 0, 1) := by decide +kernel
theorem dX7_most_1 : decode cX7_most 1 = .ok (.getfield 91, 3) := by decide +kernel
theorem dX7_most_4 : decode cX7_most 4 = .ok (.ifCond .ne 6, 3) := by decide +kernel
theorem dX7_most_7 : decode cX7_most 7 = .ok (.bipush (-3), 2) := by decide +kernel
theorem dX7_most_9 : decode cX7_most 9 = .ok (.ireturn, 1) := by decide +kernel
theorem dX7_most_10 : decode cX7_most 10 = .ok (.iconst 0, 1) := by decide +kernel
theorem dX7_most_11 : decode cX7_most 11 = .ok (.istore_n 1, 1) := by decide +kernel
theorem dX7_most_12 : decode cX7_most 12 = .ok (.iconst 1, 1) := by decide +kernel
theorem dX7_most_13 : decode cX7_most 13 = .ok (.istore_n 2, 1) := by decide +kernel
theorem dX7_most_14 : decode cX7_most 14 = .ok (.iload_n 2, 1) := by decide +kernel
theorem dX7_most_15 : decode cX7_most 15 = .ok (.iconst 1, 1) := by decide +kernel
theorem dX7_most_16 : decode cX7_most 16 = .ok (.aload_n 0, 1) := by decide +kernel
theorem dX7_most_17 : decode cX7_most 17 = .ok (.getfield 91, 3) := by decide +kernel
theorem dX7_most_20 : decode cX7_most 20 = .ok (.ishl, 1) := by decide +kernel
theorem dX7_most_21 : decode cX7_most 21 = .ok (.if_icmp .ge 34, 3) := by decide +kernel
theorem dX7_most_24 : decode cX7_most 24 = .ok (.iload_n 2, 1) := by decide +kernel
theorem dX7_most_25 : decode cX7_most 25 = .ok (.invokestatic 186, 3) := by decide +kernel
theorem dX7_most_28 : decode cX7_most 28 = .ok (.iload_n 1, 1) := by decide +kernel
theorem dX7_most_29 : decode cX7_most 29 = .ok (.invokestatic 186, 3) := by decide +kernel
theorem dX7_most_32 : decode cX7_most 32 = .ok (.if_icmp .le 15, 3) := by decide +kernel
theorem dX7_most_35 : decode cX7_most 35 = .ok (.aload_n 0, 1) := by decide +kernel
theorem dX7_most_36 : decode cX7_most 36 = .ok (.iload_n 2, 1) := by decide +kernel
theorem dX7_most_37 : decode cX7_most 37 = .ok (.invokevirtual 221, 3) := by decide +kernel
theorem dX7_most_40 : decode cX7_most 40 = .ok (.ifCond .eq 7, 3) := by decide +kernel
theorem dX7_most_43 : decode cX7_most 43 = .ok (.iload_n 2, 1) := by decide +kernel
theorem dX7_most_44 : decode cX7_most 44 = .ok (.goto 4, 3) := by decide +kernel
theorem dX7_most_47 : decode cX7_most 47 = .ok (.iload_n 1, 1) := by decide +kernel
theorem dX7_most_48 : decode cX7_most 48 = .ok (.istore_n 1, 1) := by decide +kernel
theorem dX7_most_49 : decode cX7_most 49 = .ok (.iinc 2 1, 3) := by decide +kernel
theorem dX7_most_52 : decode cX7_most 52 = .ok (.goto (-38), 3) := by decide +kernel
theorem dX7_most_55 : decode cX7_most 55 = .ok (.iload_n 1, 1) := by decide +kernel
theorem dX7_most_56 : decode cX7_most 56 = .ok (.ireturn, 1) := by decide +kernel
theorem dX7_reading_0 : decode cX7_reading 0 = .ok (.aload_n 0, 1) := by decide +kernel
theorem dX7_reading_1 : decode cX7_reading 1 = .ok (.iload_n 1, 1) := by decide +kernel
theorem dX7_reading_2 : decode cX7_reading 2 = .ok (.invokevirtual 158, 3) := by decide +kernel
theorem dX7_reading_5 : decode cX7_reading 5 = .ok (.ifCond .eq 5, 3) := by decide +kernel
theorem dX7_reading_8 : decode cX7_reading 8 = .ok (.iconst (-1), 1) := by decide +kernel
theorem dX7_reading_9 : decode cX7_reading 9 = .ok (.ireturn, 1) := by decide +kernel
theorem dX7_reading_10 : decode cX7_reading 10 = .ok (.aload_n 0, 1) := by decide +kernel
theorem dX7_reading_11 : decode cX7_reading 11 = .ok (.iload_n 1, 1) := by decide +kernel
theorem dX7_reading_12 : decode cX7_reading 12 = .ok (.iload_n 2, 1) := by decide +kernel
theorem dX7_reading_13 : decode cX7_reading 13 = .ok (.invokevirtual 174, 3) := by decide +kernel
theorem dX7_reading_16 : decode cX7_reading 16 = .ok (.ifCond .ne 15, 3) := by decide +kernel
theorem dX7_reading_19 : decode cX7_reading 19 = .ok (.iload_n 3, 1) := by decide +kernel
theorem dX7_reading_20 : decode cX7_reading 20 = .ok (.i2l, 1) := by decide +kernel
theorem dX7_reading_21 : decode cX7_reading 21 = .ok (.lconst 0, 1) := by decide +kernel
theorem dX7_reading_22 : decode cX7_reading 22 = .ok (.ldc2_w 200, 3) := by decide +kernel
theorem dX7_reading_25 : decode cX7_reading 25 = .ok (.invokestatic 87, 3) := by decide +kernel
theorem dX7_reading_28 : decode cX7_reading 28 = .ok (.ifCond .ne 6, 3) := by decide +kernel
theorem dX7_reading_31 : decode cX7_reading 31 = .ok (.bipush (-2), 2) := by decide +kernel
theorem dX7_reading_33 : decode cX7_reading 33 = .ok (.ireturn, 1) := by decide +kernel
theorem dX7_reading_34 : decode cX7_reading 34 = .ok (.aload_n 0, 1) := by decide +kernel
theorem dX7_reading_35 : decode cX7_reading 35 = .ok (.getfield 155, 3) := by decide +kernel
theorem dX7_reading_38 : decode cX7_reading 38 = .ok (.bipush 8, 2) := by decide +kernel
theorem dX7_reading_40 : decode cX7_reading 40 = .ok (.if_icmp .ne 6, 3) := by decide +kernel
theorem dX7_reading_43 : decode cX7_reading 43 = .ok (.bipush (-4), 2) := by decide +kernel
theorem dX7_reading_45 : decode cX7_reading 45 = .ok (.ireturn, 1) := by decide +kernel
theorem dX7_reading_46 : decode cX7_reading 46 = .ok (.aload_n 0, 1) := by decide +kernel
theorem dX7_reading_47 : decode cX7_reading 47 = .ok (.getfield 53, 3) := by decide +kernel
theorem dX7_reading_50 : decode cX7_reading 50 = .ok (.aload_n 0, 1) := by decide +kernel
theorem dX7_reading_51 : decode cX7_reading 51 = .ok (.getfield 155, 3) := by decide +kernel
theorem dX7_reading_54 : decode cX7_reading 54 = .ok (.iload_n 1, 1) := by decide +kernel
theorem dX7_reading_55 : decode cX7_reading 55 = .ok (.iastore, 1) := by decide +kernel
theorem dX7_reading_56 : decode cX7_reading 56 = .ok (.aload_n 0, 1) := by decide +kernel
theorem dX7_reading_57 : decode cX7_reading 57 = .ok (.getfield 56, 3) := by decide +kernel
theorem dX7_reading_60 : decode cX7_reading 60 = .ok (.aload_n 0, 1) := by decide +kernel
theorem dX7_reading_61 : decode cX7_reading 61 = .ok (.getfield 155, 3) := by decide +kernel
theorem dX7_reading_64 : decode cX7_reading 64 = .ok (.iload_n 2, 1) := by decide +kernel
theorem dX7_reading_65 : decode cX7_reading 65 = .ok (.iastore, 1) := by decide +kernel
theorem dX7_reading_66 : decode cX7_reading 66 = .ok (.aload_n 0, 1) := by decide +kernel
theorem dX7_reading_67 : decode cX7_reading 67 = .ok (.getfield 59, 3) := by decide +kernel
theorem dX7_reading_70 : decode cX7_reading 70 = .ok (.aload_n 0, 1) := by decide +kernel
theorem dX7_reading_71 : decode cX7_reading 71 = .ok (.getfield 155, 3) := by decide +kernel
theorem dX7_reading_74 : decode cX7_reading 74 = .ok (.iload_n 3, 1) := by decide +kernel
theorem dX7_reading_75 : decode cX7_reading 75 = .ok (.iastore, 1) := by decide +kernel
theorem dX7_reading_76 : decode cX7_reading 76 = .ok (.aload_n 0, 1) := by decide +kernel
theorem dX7_reading_77 : decode cX7_reading 77 = .ok (.dup, 1) := by decide +kernel
theorem dX7_reading_78 : decode cX7_reading 78 = .ok (.getfield 155, 3) := by decide +kernel
theorem dX7_reading_81 : decode cX7_reading 81 = .ok (.iconst 1, 1) := by decide +kernel
theorem dX7_reading_82 : decode cX7_reading 82 = .ok (.iadd, 1) := by decide +kernel
theorem dX7_reading_83 : decode cX7_reading 83 = .ok (.putfield 155, 3) := by decide +kernel
theorem dX7_reading_86 : decode cX7_reading 86 = .ok (.aload_n 0, 1) := by decide +kernel
theorem dX7_reading_87 : decode cX7_reading 87 = .ok (.getfield 155, 3) := by decide +kernel
theorem dX7_reading_90 : decode cX7_reading 90 = .ok (.iconst 1, 1) := by decide +kernel
theorem dX7_reading_91 : decode cX7_reading 91 = .ok (.isub, 1) := by decide +kernel
theorem dX7_reading_92 : decode cX7_reading 92 = .ok (.ireturn, 1) := by decide +kernel
theorem dX7_back_0 : decode cX7_back 0 = .ok (.iload_n 1, 1) := by decide +kernel
theorem dX7_back_1 : decode cX7_back 1 = .ok (.i2l, 1) := by decide +kernel
theorem dX7_back_2 : decode cX7_back 2 = .ok (.lconst 0, 1) := by decide +kernel
theorem dX7_back_3 : decode cX7_back 3 = .ok (.aload_n 0, 1) := by decide +kernel
theorem dX7_back_4 : decode cX7_back 4 = .ok (.getfield 155, 3) := by decide +kernel
theorem dX7_back_7 : decode cX7_back 7 = .ok (.i2l, 1) := by decide +kernel
theorem dX7_back_8 : decode cX7_back 8 = .ok (.invokestatic 87, 3) := by decide +kernel
theorem dX7_back_11 : decode cX7_back 11 = .ok (.ifCond .ne 6, 3) := by decide +kernel
theorem dX7_back_14 : decode cX7_back 14 = .ok (.bipush (-2), 2) := by decide +kernel
theorem dX7_back_16 : decode cX7_back 16 = .ok (.ireturn, 1) := by decide +kernel
theorem dX7_back_17 : decode cX7_back 17 = .ok (.aload_n 0, 1) := by decide +kernel
theorem dX7_back_18 : decode cX7_back 18 = .ok (.dup, 1) := by decide +kernel
theorem dX7_back_19 : decode cX7_back 19 = .ok (.getfield 155, 3) := by decide +kernel
theorem dX7_back_22 : decode cX7_back 22 = .ok (.iload_n 1, 1) := by decide +kernel
theorem dX7_back_23 : decode cX7_back 23 = .ok (.isub, 1) := by decide +kernel
theorem dX7_back_24 : decode cX7_back 24 = .ok (.putfield 155, 3) := by decide +kernel
theorem dX7_back_27 : decode cX7_back 27 = .ok (.aload_n 0, 1) := by decide +kernel
theorem dX7_back_28 : decode cX7_back 28 = .ok (.getfield 155, 3) := by decide +kernel
theorem dX7_back_31 : decode cX7_back 31 = .ok (.ireturn, 1) := by decide +kernel
theorem dX7_areSo_0 : decode cX7_areSo 0 = .ok (.iconst 1, 1) := by decide +kernel
theorem dX7_areSo_1 : decode cX7_areSo 1 = .ok (.istore_n 1, 1) := by decide +kernel
theorem dX7_areSo_2 : decode cX7_areSo 2 = .ok (.iconst 0, 1) := by decide +kernel
theorem dX7_areSo_3 : decode cX7_areSo 3 = .ok (.istore_n 2, 1) := by decide +kernel
theorem dX7_areSo_4 : decode cX7_areSo 4 = .ok (.iload_n 2, 1) := by decide +kernel
theorem dX7_areSo_5 : decode cX7_areSo 5 = .ok (.aload_n 0, 1) := by decide +kernel
theorem dX7_areSo_6 : decode cX7_areSo 6 = .ok (.getfield 155, 3) := by decide +kernel
theorem dX7_areSo_9 : decode cX7_areSo 9 = .ok (.if_icmp .ge 44, 3) := by decide +kernel
theorem dX7_areSo_12 : decode cX7_areSo 12 = .ok (.iload_n 1, 1) := by decide +kernel
theorem dX7_areSo_13 : decode cX7_areSo 13 = .ok (.ifCond .eq 32, 3) := by decide +kernel
theorem dX7_areSo_16 : decode cX7_areSo 16 = .ok (.aload_n 0, 1) := by decide +kernel
theorem dX7_areSo_17 : decode cX7_areSo 17 = .ok (.aload_n 0, 1) := by decide +kernel
theorem dX7_areSo_18 : decode cX7_areSo 18 = .ok (.getfield 53, 3) := by decide +kernel
theorem dX7_areSo_21 : decode cX7_areSo 21 = .ok (.iload_n 2, 1) := by decide +kernel
theorem dX7_areSo_22 : decode cX7_areSo 22 = .ok (.iaload, 1) := by decide +kernel
theorem dX7_areSo_23 : decode cX7_areSo 23 = .ok (.aload_n 0, 1) := by decide +kernel
theorem dX7_areSo_24 : decode cX7_areSo 24 = .ok (.getfield 56, 3) := by decide +kernel
theorem dX7_areSo_27 : decode cX7_areSo 27 = .ok (.iload_n 2, 1) := by decide +kernel
theorem dX7_areSo_28 : decode cX7_areSo 28 = .ok (.iaload, 1) := by decide +kernel
theorem dX7_areSo_29 : decode cX7_areSo 29 = .ok (.invokevirtual 177, 3) := by decide +kernel
theorem dX7_areSo_32 : decode cX7_areSo 32 = .ok (.aload_n 0, 1) := by decide +kernel
theorem dX7_areSo_33 : decode cX7_areSo 33 = .ok (.getfield 59, 3) := by decide +kernel
theorem dX7_areSo_36 : decode cX7_areSo 36 = .ok (.iload_n 2, 1) := by decide +kernel
theorem dX7_areSo_37 : decode cX7_areSo 37 = .ok (.iaload, 1) := by decide +kernel
theorem dX7_areSo_38 : decode cX7_areSo 38 = .ok (.if_icmp .ne 7, 3) := by decide +kernel
theorem dX7_areSo_41 : decode cX7_areSo 41 = .ok (.iconst 1, 1) := by decide +kernel
theorem dX7_areSo_42 : decode cX7_areSo 42 = .ok (.goto 4, 3) := by decide +kernel
theorem dX7_areSo_45 : decode cX7_areSo 45 = .ok (.iconst 0, 1) := by decide +kernel
theorem dX7_areSo_46 : decode cX7_areSo 46 = .ok (.istore_n 1, 1) := by decide +kernel
theorem dX7_areSo_47 : decode cX7_areSo 47 = .ok (.iinc 2 1, 3) := by decide +kernel
theorem dX7_areSo_50 : decode cX7_areSo 50 = .ok (.goto (-46), 3) := by decide +kernel
theorem dX7_areSo_53 : decode cX7_areSo 53 = .ok (.iload_n 1, 1) := by decide +kernel
theorem dX7_areSo_54 : decode cX7_areSo 54 = .ok (.ireturn, 1) := by decide +kernel
theorem dX7_slopes_0 : decode cX7_slopes 0 = .ok (.aload_n 0, 1) := by decide +kernel
theorem dX7_slopes_1 : decode cX7_slopes 1 = .ok (.iload_n 1, 1) := by decide +kernel
theorem dX7_slopes_2 : decode cX7_slopes 2 = .ok (.invokevirtual 161, 3) := by decide +kernel
theorem dX7_slopes_5 : decode cX7_slopes 5 = .ok (.ifCond .eq 5, 3) := by decide +kernel
theorem dX7_slopes_8 : decode cX7_slopes 8 = .ok (.iconst (-1), 1) := by decide +kernel
theorem dX7_slopes_9 : decode cX7_slopes 9 = .ok (.ireturn, 1) := by decide +kernel
theorem dX7_slopes_10 : decode cX7_slopes 10 = .ok (.aload_n 0, 1) := by decide +kernel
theorem dX7_slopes_11 : decode cX7_slopes 11 = .ok (.getfield 7, 3) := by decide +kernel
theorem dX7_slopes_14 : decode cX7_slopes 14 = .ok (.iload_n 1, 1) := by decide +kernel
theorem dX7_slopes_15 : decode cX7_slopes 15 = .ok (.iaload, 1) := by decide +kernel
theorem dX7_slopes_16 : decode cX7_slopes 16 = .ok (.istore_n 2, 1) := by decide +kernel
theorem dX7_slopes_17 : decode cX7_slopes 17 = .ok (.iconst 0, 1) := by decide +kernel
theorem dX7_slopes_18 : decode cX7_slopes 18 = .ok (.istore_n 3, 1) := by decide +kernel
theorem dX7_slopes_19 : decode cX7_slopes 19 = .ok (.iconst 0, 1) := by decide +kernel
theorem dX7_slopes_20 : decode cX7_slopes 20 = .ok (.istore 4, 2) := by decide +kernel
theorem dX7_slopes_22 : decode cX7_slopes 22 = .ok (.iload 4, 2) := by decide +kernel
theorem dX7_slopes_24 : decode cX7_slopes 24 = .ok (.iconst 4, 1) := by decide +kernel
theorem dX7_slopes_25 : decode cX7_slopes 25 = .ok (.if_icmp .ge 35, 3) := by decide +kernel
theorem dX7_slopes_28 : decode cX7_slopes 28 = .ok (.aload_n 0, 1) := by decide +kernel
theorem dX7_slopes_29 : decode cX7_slopes 29 = .ok (.getfield 7, 3) := by decide +kernel
theorem dX7_slopes_32 : decode cX7_slopes 32 = .ok (.iload_n 1, 1) := by decide +kernel
theorem dX7_slopes_33 : decode cX7_slopes 33 = .ok (.iload 4, 2) := by decide +kernel
theorem dX7_slopes_35 : decode cX7_slopes 35 = .ok (.iastore, 1) := by decide +kernel
theorem dX7_slopes_36 : decode cX7_slopes 36 = .ok (.iload_n 3, 1) := by decide +kernel
theorem dX7_slopes_37 : decode cX7_slopes 37 = .ok (.aload_n 0, 1) := by decide +kernel
theorem dX7_slopes_38 : decode cX7_slopes 38 = .ok (.invokevirtual 224, 3) := by decide +kernel
theorem dX7_slopes_41 : decode cX7_slopes 41 = .ok (.ifCond .eq 10, 3) := by decide +kernel
theorem dX7_slopes_44 : decode cX7_slopes 44 = .ok (.iconst 1, 1) := by decide +kernel
theorem dX7_slopes_45 : decode cX7_slopes 45 = .ok (.iload 4, 2) := by decide +kernel
theorem dX7_slopes_47 : decode cX7_slopes 47 = .ok (.ishl, 1) := by decide +kernel
theorem dX7_slopes_48 : decode cX7_slopes 48 = .ok (.goto 4, 3) := by decide +kernel
theorem dX7_slopes_51 : decode cX7_slopes 51 = .ok (.iconst 0, 1) := by decide +kernel
theorem dX7_slopes_52 : decode cX7_slopes 52 = .ok (.ior, 1) := by decide +kernel
theorem dX7_slopes_53 : decode cX7_slopes 53 = .ok (.istore_n 3, 1) := by decide +kernel
theorem dX7_slopes_54 : decode cX7_slopes 54 = .ok (.iinc 4 1, 3) := by decide +kernel
theorem dX7_slopes_57 : decode cX7_slopes 57 = .ok (.goto (-35), 3) := by decide +kernel
theorem dX7_slopes_60 : decode cX7_slopes 60 = .ok (.aload_n 0, 1) := by decide +kernel
theorem dX7_slopes_61 : decode cX7_slopes 61 = .ok (.getfield 7, 3) := by decide +kernel
theorem dX7_slopes_64 : decode cX7_slopes 64 = .ok (.iload_n 1, 1) := by decide +kernel
theorem dX7_slopes_65 : decode cX7_slopes 65 = .ok (.iload_n 2, 1) := by decide +kernel
theorem dX7_slopes_66 : decode cX7_slopes 66 = .ok (.iastore, 1) := by decide +kernel
theorem dX7_slopes_67 : decode cX7_slopes 67 = .ok (.iload_n 3, 1) := by decide +kernel
theorem dX7_slopes_68 : decode cX7_slopes 68 = .ok (.ireturn, 1) := by decide +kernel
theorem dX7_kinds_0 : decode cX7_kinds 0 = .ok (.aload_n 0, 1) := by decide +kernel
theorem dX7_kinds_1 : decode cX7_kinds 1 = .ok (.iload_n 1, 1) := by decide +kernel
theorem dX7_kinds_2 : decode cX7_kinds 2 = .ok (.invokevirtual 158, 3) := by decide +kernel
theorem dX7_kinds_5 : decode cX7_kinds 5 = .ok (.ifCond .eq 5, 3) := by decide +kernel
theorem dX7_kinds_8 : decode cX7_kinds 8 = .ok (.iconst (-1), 1) := by decide +kernel
theorem dX7_kinds_9 : decode cX7_kinds 9 = .ok (.ireturn, 1) := by decide +kernel
theorem dX7_kinds_10 : decode cX7_kinds 10 = .ok (.aload_n 0, 1) := by decide +kernel
theorem dX7_kinds_11 : decode cX7_kinds 11 = .ok (.getfield 13, 3) := by decide +kernel
theorem dX7_kinds_14 : decode cX7_kinds 14 = .ok (.iload_n 1, 1) := by decide +kernel
theorem dX7_kinds_15 : decode cX7_kinds 15 = .ok (.iaload, 1) := by decide +kernel
theorem dX7_kinds_16 : decode cX7_kinds 16 = .ok (.istore_n 2, 1) := by decide +kernel
theorem dX7_kinds_17 : decode cX7_kinds 17 = .ok (.iconst 0, 1) := by decide +kernel
theorem dX7_kinds_18 : decode cX7_kinds 18 = .ok (.istore_n 3, 1) := by decide +kernel
theorem dX7_kinds_19 : decode cX7_kinds 19 = .ok (.iconst 0, 1) := by decide +kernel
theorem dX7_kinds_20 : decode cX7_kinds 20 = .ok (.istore 4, 2) := by decide +kernel
theorem dX7_kinds_22 : decode cX7_kinds 22 = .ok (.iload 4, 2) := by decide +kernel
theorem dX7_kinds_24 : decode cX7_kinds 24 = .ok (.iconst 3, 1) := by decide +kernel
theorem dX7_kinds_25 : decode cX7_kinds 25 = .ok (.if_icmp .ge 35, 3) := by decide +kernel
theorem dX7_kinds_28 : decode cX7_kinds 28 = .ok (.aload_n 0, 1) := by decide +kernel
theorem dX7_kinds_29 : decode cX7_kinds 29 = .ok (.getfield 13, 3) := by decide +kernel
theorem dX7_kinds_32 : decode cX7_kinds 32 = .ok (.iload_n 1, 1) := by decide +kernel
theorem dX7_kinds_33 : decode cX7_kinds 33 = .ok (.iload 4, 2) := by decide +kernel
theorem dX7_kinds_35 : decode cX7_kinds 35 = .ok (.iastore, 1) := by decide +kernel
theorem dX7_kinds_36 : decode cX7_kinds 36 = .ok (.iload_n 3, 1) := by decide +kernel
theorem dX7_kinds_37 : decode cX7_kinds 37 = .ok (.aload_n 0, 1) := by decide +kernel
theorem dX7_kinds_38 : decode cX7_kinds 38 = .ok (.invokevirtual 224, 3) := by decide +kernel
theorem dX7_kinds_41 : decode cX7_kinds 41 = .ok (.ifCond .eq 10, 3) := by decide +kernel
theorem dX7_kinds_44 : decode cX7_kinds 44 = .ok (.iconst 1, 1) := by decide +kernel
theorem dX7_kinds_45 : decode cX7_kinds 45 = .ok (.iload 4, 2) := by decide +kernel
theorem dX7_kinds_47 : decode cX7_kinds 47 = .ok (.ishl, 1) := by decide +kernel
theorem dX7_kinds_48 : decode cX7_kinds 48 = .ok (.goto 4, 3) := by decide +kernel
theorem dX7_kinds_51 : decode cX7_kinds 51 = .ok (.iconst 0, 1) := by decide +kernel
theorem dX7_kinds_52 : decode cX7_kinds 52 = .ok (.ior, 1) := by decide +kernel
theorem dX7_kinds_53 : decode cX7_kinds 53 = .ok (.istore_n 3, 1) := by decide +kernel
theorem dX7_kinds_54 : decode cX7_kinds 54 = .ok (.iinc 4 1, 3) := by decide +kernel
theorem dX7_kinds_57 : decode cX7_kinds 57 = .ok (.goto (-35), 3) := by decide +kernel
theorem dX7_kinds_60 : decode cX7_kinds 60 = .ok (.aload_n 0, 1) := by decide +kernel
theorem dX7_kinds_61 : decode cX7_kinds 61 = .ok (.getfield 13, 3) := by decide +kernel
theorem dX7_kinds_64 : decode cX7_kinds 64 = .ok (.iload_n 1, 1) := by decide +kernel
theorem dX7_kinds_65 : decode cX7_kinds 65 = .ok (.iload_n 2, 1) := by decide +kernel
theorem dX7_kinds_66 : decode cX7_kinds 66 = .ok (.iastore, 1) := by decide +kernel
theorem dX7_kinds_67 : decode cX7_kinds 67 = .ok (.iload_n 3, 1) := by decide +kernel
theorem dX7_kinds_68 : decode cX7_kinds 68 = .ok (.ireturn, 1) := by decide +kernel
theorem dX7_began_0 : decode cX7_began 0 = .ok (.aload_n 0, 1) := by decide +kernel
theorem dX7_began_1 : decode cX7_began 1 = .ok (.iload_n 1, 1) := by decide +kernel
theorem dX7_began_2 : decode cX7_began 2 = .ok (.invokevirtual 158, 3) := by decide +kernel
theorem dX7_began_5 : decode cX7_began 5 = .ok (.ifCond .eq 5, 3) := by decide +kernel
theorem dX7_began_8 : decode cX7_began 8 = .ok (.iconst (-1), 1) := by decide +kernel
theorem dX7_began_9 : decode cX7_began 9 = .ok (.ireturn, 1) := by decide +kernel
theorem dX7_began_10 : decode cX7_began 10 = .ok (.iload_n 2, 1) := by decide +kernel
theorem dX7_began_11 : decode cX7_began 11 = .ok (.i2l, 1) := by decide +kernel
theorem dX7_began_12 : decode cX7_began 12 = .ok (.lconst 0, 1) := by decide +kernel
theorem dX7_began_13 : decode cX7_began 13 = .ok (.lconst 1, 1) := by decide +kernel
theorem dX7_began_14 : decode cX7_began 14 = .ok (.invokestatic 87, 3) := by decide +kernel
theorem dX7_began_17 : decode cX7_began 17 = .ok (.ifCond .ne 6, 3) := by decide +kernel
theorem dX7_began_20 : decode cX7_began 20 = .ok (.bipush (-2), 2) := by decide +kernel
theorem dX7_began_22 : decode cX7_began 22 = .ok (.ireturn, 1) := by decide +kernel
theorem dX7_began_23 : decode cX7_began 23 = .ok (.aload_n 0, 1) := by decide +kernel
theorem dX7_began_24 : decode cX7_began 24 = .ok (.getfield 22, 3) := by decide +kernel
theorem dX7_began_27 : decode cX7_began 27 = .ok (.iload_n 1, 1) := by decide +kernel
theorem dX7_began_28 : decode cX7_began 28 = .ok (.iaload, 1) := by decide +kernel
theorem dX7_began_29 : decode cX7_began 29 = .ok (.istore_n 3, 1) := by decide +kernel
theorem dX7_began_30 : decode cX7_began 30 = .ok (.iconst 0, 1) := by decide +kernel
theorem dX7_began_31 : decode cX7_began 31 = .ok (.istore 4, 2) := by decide +kernel
theorem dX7_began_33 : decode cX7_began 33 = .ok (.bipush (-9), 2) := by decide +kernel
theorem dX7_began_35 : decode cX7_began 35 = .ok (.istore 5, 2) := by decide +kernel
theorem dX7_began_37 : decode cX7_began 37 = .ok (.bipush 79, 2) := by decide +kernel
theorem dX7_began_39 : decode cX7_began 39 = .ok (.istore 6, 2) := by decide +kernel
theorem dX7_began_41 : decode cX7_began 41 = .ok (.iload 6, 2) := by decide +kernel
theorem dX7_began_43 : decode cX7_began 43 = .ok (.ifCond .lt 52, 3) := by decide +kernel
theorem dX7_began_46 : decode cX7_began 46 = .ok (.aload_n 0, 1) := by decide +kernel
theorem dX7_began_47 : decode cX7_began 47 = .ok (.getfield 22, 3) := by decide +kernel
theorem dX7_began_50 : decode cX7_began 50 = .ok (.iload_n 1, 1) := by decide +kernel
theorem dX7_began_51 : decode cX7_began 51 = .ok (.iload 6, 2) := by decide +kernel
theorem dX7_began_53 : decode cX7_began 53 = .ok (.iastore, 1) := by decide +kernel
theorem dX7_began_54 : decode cX7_began 54 = .ok (.aload_n 0, 1) := by decide +kernel
theorem dX7_began_55 : decode cX7_began 55 = .ok (.invokevirtual 224, 3) := by decide +kernel
theorem dX7_began_58 : decode cX7_began 58 = .ok (.istore 7, 2) := by decide +kernel
theorem dX7_began_60 : decode cX7_began 60 = .ok (.iload 4, 2) := by decide +kernel
theorem dX7_began_62 : decode cX7_began 62 = .ok (.iload 7, 2) := by decide +kernel
theorem dX7_began_64 : decode cX7_began 64 = .ok (.ifCond .eq 7, 3) := by decide +kernel
theorem dX7_began_67 : decode cX7_began 67 = .ok (.iconst 1, 1) := by decide +kernel
theorem dX7_began_68 : decode cX7_began 68 = .ok (.goto 4, 3) := by decide +kernel
theorem dX7_began_71 : decode cX7_began 71 = .ok (.iconst 0, 1) := by decide +kernel
theorem dX7_began_72 : decode cX7_began 72 = .ok (.iadd, 1) := by decide +kernel
theorem dX7_began_73 : decode cX7_began 73 = .ok (.istore 4, 2) := by decide +kernel
theorem dX7_began_75 : decode cX7_began 75 = .ok (.iload 7, 2) := by decide +kernel
theorem dX7_began_77 : decode cX7_began 77 = .ok (.ifCond .eq 8, 3) := by decide +kernel
theorem dX7_began_80 : decode cX7_began 80 = .ok (.iload 6, 2) := by decide +kernel
theorem dX7_began_82 : decode cX7_began 82 = .ok (.goto 5, 3) := by decide +kernel
theorem dX7_began_85 : decode cX7_began 85 = .ok (.iload 5, 2) := by decide +kernel
theorem dX7_began_87 : decode cX7_began 87 = .ok (.istore 5, 2) := by decide +kernel
theorem dX7_began_89 : decode cX7_began 89 = .ok (.iinc 6 (-1), 3) := by decide +kernel
theorem dX7_began_92 : decode cX7_began 92 = .ok (.goto (-51), 3) := by decide +kernel
theorem dX7_began_95 : decode cX7_began 95 = .ok (.aload_n 0, 1) := by decide +kernel
theorem dX7_began_96 : decode cX7_began 96 = .ok (.getfield 22, 3) := by decide +kernel
theorem dX7_began_99 : decode cX7_began 99 = .ok (.iload_n 1, 1) := by decide +kernel
theorem dX7_began_100 : decode cX7_began 100 = .ok (.iload_n 3, 1) := by decide +kernel
theorem dX7_began_101 : decode cX7_began 101 = .ok (.iastore, 1) := by decide +kernel
theorem dX7_began_102 : decode cX7_began 102 = .ok (.iload_n 2, 1) := by decide +kernel
theorem dX7_began_103 : decode cX7_began 103 = .ok (.ifCond .ne 8, 3) := by decide +kernel
theorem dX7_began_106 : decode cX7_began 106 = .ok (.iload 4, 2) := by decide +kernel
theorem dX7_began_108 : decode cX7_began 108 = .ok (.goto 5, 3) := by decide +kernel
theorem dX7_began_111 : decode cX7_began 111 = .ok (.iload 5, 2) := by decide +kernel
theorem dX7_began_113 : decode cX7_began 113 = .ok (.ireturn, 1) := by decide +kernel
theorem dX7_odds_0 : decode cX7_odds 0 = .ok (.aload_n 0, 1) := by decide +kernel
theorem dX7_odds_1 : decode cX7_odds 1 = .ok (.iload_n 1, 1) := by decide +kernel
theorem dX7_odds_2 : decode cX7_odds 2 = .ok (.invokevirtual 158, 3) := by decide +kernel
theorem dX7_odds_5 : decode cX7_odds 5 = .ok (.ifCond .ne 25, 3) := by decide +kernel
theorem dX7_odds_8 : decode cX7_odds 8 = .ok (.iload_n 2, 1) := by decide +kernel
theorem dX7_odds_9 : decode cX7_odds 9 = .ok (.i2l, 1) := by decide +kernel
theorem dX7_odds_10 : decode cX7_odds 10 = .ok (.lconst 0, 1) := by decide +kernel
theorem dX7_odds_11 : decode cX7_odds 11 = .ok (.ldc2_w 200, 3) := by decide +kernel
theorem dX7_odds_14 : decode cX7_odds 14 = .ok (.invokestatic 87, 3) := by decide +kernel
theorem dX7_odds_17 : decode cX7_odds 17 = .ok (.ifCond .eq 13, 3) := by decide +kernel
theorem dX7_odds_20 : decode cX7_odds 20 = .ok (.iload_n 3, 1) := by decide +kernel
theorem dX7_odds_21 : decode cX7_odds 21 = .ok (.i2l, 1) := by decide +kernel
theorem dX7_odds_22 : decode cX7_odds 22 = .ok (.lconst 0, 1) := by decide +kernel
theorem dX7_odds_23 : decode cX7_odds 23 = .ok (.lconst 1, 1) := by decide +kernel
theorem dX7_odds_24 : decode cX7_odds 24 = .ok (.invokestatic 87, 3) := by decide +kernel
theorem dX7_odds_27 : decode cX7_odds 27 = .ok (.ifCond .ne 7, 3) := by decide +kernel
theorem dX7_odds_30 : decode cX7_odds 30 = .ok (.invokestatic 80, 3) := by decide +kernel
theorem dX7_odds_33 : decode cX7_odds 33 = .ok (.lreturn, 1) := by decide +kernel
theorem dX7_odds_34 : decode cX7_odds 34 = .ok (.lconst 0, 1) := by decide +kernel
theorem dX7_odds_35 : decode cX7_odds 35 = .ok (.lstore 4, 2) := by decide +kernel
theorem dX7_odds_37 : decode cX7_odds 37 = .ok (.lconst 0, 1) := by decide +kernel
theorem dX7_odds_38 : decode cX7_odds 38 = .ok (.lstore 6, 2) := by decide +kernel
theorem dX7_odds_40 : decode cX7_odds 40 = .ok (.iconst 0, 1) := by decide +kernel
theorem dX7_odds_41 : decode cX7_odds 41 = .ok (.istore 8, 2) := by decide +kernel
theorem dX7_odds_43 : decode cX7_odds 43 = .ok (.iload 8, 2) := by decide +kernel
theorem dX7_odds_45 : decode cX7_odds 45 = .ok (.bipush 32, 2) := by decide +kernel
theorem dX7_odds_47 : decode cX7_odds 47 = .ok (.if_icmp .ge 67, 3) := by decide +kernel
theorem dX7_odds_50 : decode cX7_odds 50 = .ok (.aload_n 0, 1) := by decide +kernel
theorem dX7_odds_51 : decode cX7_odds 51 = .ok (.iload_n 1, 1) := by decide +kernel
theorem dX7_odds_52 : decode cX7_odds 52 = .ok (.iload 8, 2) := by decide +kernel
theorem dX7_odds_54 : decode cX7_odds 54 = .ok (.invokevirtual 174, 3) := by decide +kernel
theorem dX7_odds_57 : decode cX7_odds 57 = .ok (.ifCond .ne 7, 3) := by decide +kernel
theorem dX7_odds_60 : decode cX7_odds 60 = .ok (.iconst 1, 1) := by decide +kernel
theorem dX7_odds_61 : decode cX7_odds 61 = .ok (.goto 4, 3) := by decide +kernel
theorem dX7_odds_64 : decode cX7_odds 64 = .ok (.iconst 0, 1) := by decide +kernel
theorem dX7_odds_65 : decode cX7_odds 65 = .ok (.istore 9, 2) := by decide +kernel
theorem dX7_odds_67 : decode cX7_odds 67 = .ok (.lload 6, 2) := by decide +kernel
theorem dX7_odds_69 : decode cX7_odds 69 = .ok (.iload 9, 2) := by decide +kernel
theorem dX7_odds_71 : decode cX7_odds 71 = .ok (.ifCond .eq 7, 3) := by decide +kernel
theorem dX7_odds_74 : decode cX7_odds 74 = .ok (.lconst 1, 1) := by decide +kernel
theorem dX7_odds_75 : decode cX7_odds 75 = .ok (.goto 4, 3) := by decide +kernel
theorem dX7_odds_78 : decode cX7_odds 78 = .ok (.lconst 0, 1) := by decide +kernel
theorem dX7_odds_79 : decode cX7_odds 79 = .ok (.ladd, 1) := by decide +kernel
theorem dX7_odds_80 : decode cX7_odds 80 = .ok (.lstore 6, 2) := by decide +kernel
theorem dX7_odds_82 : decode cX7_odds 82 = .ok (.lload 4, 2) := by decide +kernel
theorem dX7_odds_84 : decode cX7_odds 84 = .ok (.iload 9, 2) := by decide +kernel
theorem dX7_odds_86 : decode cX7_odds 86 = .ok (.ifCond .eq 18, 3) := by decide +kernel
theorem dX7_odds_89 : decode cX7_odds 89 = .ok (.aload_n 0, 1) := by decide +kernel
theorem dX7_odds_90 : decode cX7_odds 90 = .ok (.iload_n 1, 1) := by decide +kernel
theorem dX7_odds_91 : decode cX7_odds 91 = .ok (.iload 8, 2) := by decide +kernel
theorem dX7_odds_93 : decode cX7_odds 93 = .ok (.invokevirtual 177, 3) := by decide +kernel
theorem dX7_odds_96 : decode cX7_odds 96 = .ok (.iload_n 2, 1) := by decide +kernel
theorem dX7_odds_97 : decode cX7_odds 97 = .ok (.if_icmp .lt 7, 3) := by decide +kernel
theorem dX7_odds_100 : decode cX7_odds 100 = .ok (.lconst 1, 1) := by decide +kernel
theorem dX7_odds_101 : decode cX7_odds 101 = .ok (.goto 4, 3) := by decide +kernel
theorem dX7_odds_104 : decode cX7_odds 104 = .ok (.lconst 0, 1) := by decide +kernel
theorem dX7_odds_105 : decode cX7_odds 105 = .ok (.ladd, 1) := by decide +kernel
theorem dX7_odds_106 : decode cX7_odds 106 = .ok (.lstore 4, 2) := by decide +kernel
theorem dX7_odds_108 : decode cX7_odds 108 = .ok (.iinc 8 1, 3) := by decide +kernel
theorem dX7_odds_111 : decode cX7_odds 111 = .ok (.goto (-68), 3) := by decide +kernel
theorem dX7_odds_114 : decode cX7_odds 114 = .ok (.lload 4, 2) := by decide +kernel
theorem dX7_odds_116 : decode cX7_odds 116 = .ok (.lload 6, 2) := by decide +kernel
theorem dX7_odds_118 : decode cX7_odds 118 = .ok (.iload_n 3, 1) := by decide +kernel
theorem dX7_odds_119 : decode cX7_odds 119 = .ok (.invokestatic 228, 3) := by decide +kernel
theorem dX7_odds_122 : decode cX7_odds 122 = .ok (.lreturn, 1) := by decide +kernel
theorem dX7_noSheet_0 : decode cX7_noSheet 0 = .ok (.iload_n 0, 1) := by decide +kernel
theorem dX7_noSheet_1 : decode cX7_noSheet 1 = .ok (.i2l, 1) := by decide +kernel
theorem dX7_noSheet_2 : decode cX7_noSheet 2 = .ok (.lconst 0, 1) := by decide +kernel
theorem dX7_noSheet_3 : decode cX7_noSheet 3 = .ok (.ldc2_w 164, 3) := by decide +kernel
theorem dX7_noSheet_6 : decode cX7_noSheet 6 = .ok (.invokestatic 87, 3) := by decide +kernel
theorem dX7_noSheet_9 : decode cX7_noSheet 9 = .ok (.ifCond .ne 7, 3) := by decide +kernel
theorem dX7_noSheet_12 : decode cX7_noSheet 12 = .ok (.iconst 1, 1) := by decide +kernel
theorem dX7_noSheet_13 : decode cX7_noSheet 13 = .ok (.goto 4, 3) := by decide +kernel
theorem dX7_noSheet_16 : decode cX7_noSheet 16 = .ok (.iconst 0, 1) := by decide +kernel
theorem dX7_noSheet_17 : decode cX7_noSheet 17 = .ok (.ireturn, 1) := by decide +kernel
theorem dX7_sheet_0 : decode cX7_sheet 0 = .ok (.iload_n 1, 1) := by decide +kernel
theorem dX7_sheet_1 : decode cX7_sheet 1 = .ok (.invokestatic 136, 3) := by decide +kernel
theorem dX7_sheet_4 : decode cX7_sheet 4 = .ok (.ifCond .eq 9, 3) := by decide +kernel
theorem dX7_sheet_7 : decode cX7_sheet 7 = .ok (.aload_n 0, 1) := by decide +kernel
theorem dX7_sheet_8 : decode cX7_sheet 8 = .ok (.iconst (-1), 1) := by decide +kernel
theorem dX7_sheet_9 : decode cX7_sheet 9 = .ok (.invokevirtual 140, 3) := by decide +kernel
theorem dX7_sheet_12 : decode cX7_sheet 12 = .ok (.ireturn, 1) := by decide +kernel
theorem dX7_sheet_13 : decode cX7_sheet 13 = .ok (.iload_n 2, 1) := by decide +kernel
theorem dX7_sheet_14 : decode cX7_sheet 14 = .ok (.i2l, 1) := by decide +kernel
theorem dX7_sheet_15 : decode cX7_sheet 15 = .ok (.lconst 0, 1) := by decide +kernel
theorem dX7_sheet_16 : decode cX7_sheet 16 = .ok (.ldc2_w 143, 3) := by decide +kernel
theorem dX7_sheet_19 : decode cX7_sheet 19 = .ok (.invokestatic 87, 3) := by decide +kernel
theorem dX7_sheet_22 : decode cX7_sheet 22 = .ok (.ifCond .eq 9, 3) := by decide +kernel
theorem dX7_sheet_25 : decode cX7_sheet 25 = .ok (.iload_n 3, 1) := by decide +kernel
theorem dX7_sheet_26 : decode cX7_sheet 26 = .ok (.bipush 60, 2) := by decide +kernel
theorem dX7_sheet_28 : decode cX7_sheet 28 = .ok (.if_icmp .le 10, 3) := by decide +kernel
theorem dX7_sheet_31 : decode cX7_sheet 31 = .ok (.aload_n 0, 1) := by decide +kernel
theorem dX7_sheet_32 : decode cX7_sheet 32 = .ok (.bipush (-2), 2) := by decide +kernel
theorem dX7_sheet_34 : decode cX7_sheet 34 = .ok (.invokevirtual 140, 3) := by decide +kernel
theorem dX7_sheet_37 : decode cX7_sheet 37 = .ok (.ireturn, 1) := by decide +kernel
theorem dX7_sheet_38 : decode cX7_sheet 38 = .ok (.iload_n 3, 1) := by decide +kernel
theorem dX7_sheet_39 : decode cX7_sheet 39 = .ok (.ifCond .ge 9, 3) := by decide +kernel
theorem dX7_sheet_42 : decode cX7_sheet 42 = .ok (.aload_n 0, 1) := by decide +kernel
theorem dX7_sheet_43 : decode cX7_sheet 43 = .ok (.iconst 4, 1) := by decide +kernel
theorem dX7_sheet_44 : decode cX7_sheet 44 = .ok (.invokevirtual 129, 3) := by decide +kernel
theorem dX7_sheet_47 : decode cX7_sheet 47 = .ok (.ireturn, 1) := by decide +kernel
theorem dX7_sheet_48 : decode cX7_sheet 48 = .ok (.aload_n 0, 1) := by decide +kernel
theorem dX7_sheet_49 : decode cX7_sheet 49 = .ok (.getfield 62, 3) := by decide +kernel
theorem dX7_sheet_52 : decode cX7_sheet 52 = .ok (.iload_n 1, 1) := by decide +kernel
theorem dX7_sheet_53 : decode cX7_sheet 53 = .ok (.iload_n 3, 1) := by decide +kernel
theorem dX7_sheet_54 : decode cX7_sheet 54 = .ok (.iastore, 1) := by decide +kernel
theorem dX7_sheet_55 : decode cX7_sheet 55 = .ok (.aload_n 0, 1) := by decide +kernel
theorem dX7_sheet_56 : decode cX7_sheet 56 = .ok (.getfield 65, 3) := by decide +kernel
theorem dX7_sheet_59 : decode cX7_sheet 59 = .ok (.iload_n 1, 1) := by decide +kernel
theorem dX7_sheet_60 : decode cX7_sheet 60 = .ok (.iload_n 2, 1) := by decide +kernel
theorem dX7_sheet_61 : decode cX7_sheet 61 = .ok (.iastore, 1) := by decide +kernel
theorem dX7_sheet_62 : decode cX7_sheet 62 = .ok (.iconst 0, 1) := by decide +kernel
theorem dX7_sheet_63 : decode cX7_sheet 63 = .ok (.istore 4, 2) := by decide +kernel
theorem dX7_sheet_65 : decode cX7_sheet 65 = .ok (.iload 4, 2) := by decide +kernel
theorem dX7_sheet_67 : decode cX7_sheet 67 = .ok (.iload_n 3, 1) := by decide +kernel
theorem dX7_sheet_68 : decode cX7_sheet 68 = .ok (.if_icmp .ge 22, 3) := by decide +kernel
theorem dX7_sheet_71 : decode cX7_sheet 71 = .ok (.aload_n 0, 1) := by decide +kernel
theorem dX7_sheet_72 : decode cX7_sheet 72 = .ok (.getfield 68, 3) := by decide +kernel
theorem dX7_sheet_75 : decode cX7_sheet 75 = .ok (.bipush 60, 2) := by decide +kernel
theorem dX7_sheet_77 : decode cX7_sheet 77 = .ok (.iload_n 1, 1) := by decide +kernel
theorem dX7_sheet_78 : decode cX7_sheet 78 = .ok (.imul, 1) := by decide +kernel
theorem dX7_sheet_79 : decode cX7_sheet 79 = .ok (.iload 4, 2) := by decide +kernel
theorem dX7_sheet_81 : decode cX7_sheet 81 = .ok (.iadd, 1) := by decide +kernel
theorem dX7_sheet_82 : decode cX7_sheet 82 = .ok (.iconst 0, 1) := by decide +kernel
theorem dX7_sheet_83 : decode cX7_sheet 83 = .ok (.iastore, 1) := by decide +kernel
theorem dX7_sheet_84 : decode cX7_sheet 84 = .ok (.iinc 4 1, 3) := by decide +kernel
theorem dX7_sheet_87 : decode cX7_sheet 87 = .ok (.goto (-22), 3) := by decide +kernel
theorem dX7_sheet_90 : decode cX7_sheet 90 = .ok (.aload_n 0, 1) := by decide +kernel
theorem dX7_sheet_91 : decode cX7_sheet 91 = .ok (.iconst 1, 1) := by decide +kernel
theorem dX7_sheet_92 : decode cX7_sheet 92 = .ok (.invokevirtual 140, 3) := by decide +kernel
theorem dX7_sheet_95 : decode cX7_sheet 95 = .ok (.ireturn, 1) := by decide +kernel
theorem dX7_lose_0 : decode cX7_lose 0 = .ok (.iload_n 1, 1) := by decide +kernel
theorem dX7_lose_1 : decode cX7_lose 1 = .ok (.invokestatic 136, 3) := by decide +kernel
theorem dX7_lose_4 : decode cX7_lose 4 = .ok (.ifCond .eq 5, 3) := by decide +kernel
theorem dX7_lose_7 : decode cX7_lose 7 = .ok (.iconst (-1), 1) := by decide +kernel
theorem dX7_lose_8 : decode cX7_lose 8 = .ok (.ireturn, 1) := by decide +kernel
theorem dX7_lose_9 : decode cX7_lose 9 = .ok (.aload_n 0, 1) := by decide +kernel
theorem dX7_lose_10 : decode cX7_lose 10 = .ok (.getfield 62, 3) := by decide +kernel
theorem dX7_lose_13 : decode cX7_lose 13 = .ok (.iload_n 1, 1) := by decide +kernel
theorem dX7_lose_14 : decode cX7_lose 14 = .ok (.iaload, 1) := by decide +kernel
theorem dX7_lose_15 : decode cX7_lose 15 = .ok (.ifCond .ge 7, 3) := by decide +kernel
theorem dX7_lose_18 : decode cX7_lose 18 = .ok (.iconst 0, 1) := by decide +kernel
theorem dX7_lose_19 : decode cX7_lose 19 = .ok (.goto 4, 3) := by decide +kernel
theorem dX7_lose_22 : decode cX7_lose 22 = .ok (.iconst 1, 1) := by decide +kernel
theorem dX7_lose_23 : decode cX7_lose 23 = .ok (.istore_n 2, 1) := by decide +kernel
theorem dX7_lose_24 : decode cX7_lose 24 = .ok (.aload_n 0, 1) := by decide +kernel
theorem dX7_lose_25 : decode cX7_lose 25 = .ok (.getfield 62, 3) := by decide +kernel
theorem dX7_lose_28 : decode cX7_lose 28 = .ok (.iload_n 1, 1) := by decide +kernel
theorem dX7_lose_29 : decode cX7_lose 29 = .ok (.iconst (-1), 1) := by decide +kernel
theorem dX7_lose_30 : decode cX7_lose 30 = .ok (.iastore, 1) := by decide +kernel
theorem dX7_lose_31 : decode cX7_lose 31 = .ok (.iload_n 2, 1) := by decide +kernel
theorem dX7_lose_32 : decode cX7_lose 32 = .ok (.ireturn, 1) := by decide +kernel
theorem dX7_noCell_0 : decode cX7_noCell 0 = .ok (.aload_n 0, 1) := by decide +kernel
theorem dX7_noCell_1 : decode cX7_noCell 1 = .ok (.getfield 62, 3) := by decide +kernel
theorem dX7_noCell_4 : decode cX7_noCell 4 = .ok (.iload_n 1, 1) := by decide +kernel
theorem dX7_noCell_5 : decode cX7_noCell 5 = .ok (.iaload, 1) := by decide +kernel
theorem dX7_noCell_6 : decode cX7_noCell 6 = .ok (.ifCond .ge 7, 3) := by decide +kernel
theorem dX7_noCell_9 : decode cX7_noCell 9 = .ok (.iconst 1, 1) := by decide +kernel
theorem dX7_noCell_10 : decode cX7_noCell 10 = .ok (.goto 26, 3) := by decide +kernel
theorem dX7_noCell_13 : decode cX7_noCell 13 = .ok (.iload_n 2, 1) := by decide +kernel
theorem dX7_noCell_14 : decode cX7_noCell 14 = .ok (.i2l, 1) := by decide +kernel
theorem dX7_noCell_15 : decode cX7_noCell 15 = .ok (.lconst 0, 1) := by decide +kernel
theorem dX7_noCell_16 : decode cX7_noCell 16 = .ok (.aload_n 0, 1) := by decide +kernel
theorem dX7_noCell_17 : decode cX7_noCell 17 = .ok (.getfield 62, 3) := by decide +kernel
theorem dX7_noCell_20 : decode cX7_noCell 20 = .ok (.iload_n 1, 1) := by decide +kernel
theorem dX7_noCell_21 : decode cX7_noCell 21 = .ok (.iaload, 1) := by decide +kernel
theorem dX7_noCell_22 : decode cX7_noCell 22 = .ok (.i2l, 1) := by decide +kernel
theorem dX7_noCell_23 : decode cX7_noCell 23 = .ok (.lconst 1, 1) := by decide +kernel
theorem dX7_noCell_24 : decode cX7_noCell 24 = .ok (.lsub, 1) := by decide +kernel
theorem dX7_noCell_25 : decode cX7_noCell 25 = .ok (.invokestatic 87, 3) := by decide +kernel
theorem dX7_noCell_28 : decode cX7_noCell 28 = .ok (.ifCond .eq 7, 3) := by decide +kernel
theorem dX7_noCell_31 : decode cX7_noCell 31 = .ok (.iconst 0, 1) := by decide +kernel
theorem dX7_noCell_32 : decode cX7_noCell 32 = .ok (.goto 4, 3) := by decide +kernel
theorem dX7_noCell_35 : decode cX7_noCell 35 = .ok (.iconst 3, 1) := by decide +kernel
theorem dX7_noCell_36 : decode cX7_noCell 36 = .ok (.ireturn, 1) := by decide +kernel
theorem dX7_put_0 : decode cX7_put 0 = .ok (.iload_n 1, 1) := by decide +kernel
theorem dX7_put_1 : decode cX7_put 1 = .ok (.invokestatic 136, 3) := by decide +kernel
theorem dX7_put_4 : decode cX7_put 4 = .ok (.ifCond .eq 9, 3) := by decide +kernel
theorem dX7_put_7 : decode cX7_put 7 = .ok (.aload_n 0, 1) := by decide +kernel
theorem dX7_put_8 : decode cX7_put 8 = .ok (.iconst (-1), 1) := by decide +kernel
theorem dX7_put_9 : decode cX7_put 9 = .ok (.invokevirtual 140, 3) := by decide +kernel
theorem dX7_put_12 : decode cX7_put 12 = .ok (.ireturn, 1) := by decide +kernel
theorem dX7_put_13 : decode cX7_put 13 = .ok (.aload_n 0, 1) := by decide +kernel
theorem dX7_put_14 : decode cX7_put 14 = .ok (.iload_n 1, 1) := by decide +kernel
theorem dX7_put_15 : decode cX7_put 15 = .ok (.iload_n 2, 1) := by decide +kernel
theorem dX7_put_16 : decode cX7_put 16 = .ok (.invokevirtual 232, 3) := by decide +kernel
theorem dX7_put_19 : decode cX7_put 19 = .ok (.ifCond .le 14, 3) := by decide +kernel
theorem dX7_put_22 : decode cX7_put 22 = .ok (.aload_n 0, 1) := by decide +kernel
theorem dX7_put_23 : decode cX7_put 23 = .ok (.aload_n 0, 1) := by decide +kernel
theorem dX7_put_24 : decode cX7_put 24 = .ok (.iload_n 1, 1) := by decide +kernel
theorem dX7_put_25 : decode cX7_put 25 = .ok (.iload_n 2, 1) := by decide +kernel
theorem dX7_put_26 : decode cX7_put 26 = .ok (.invokevirtual 232, 3) := by decide +kernel
theorem dX7_put_29 : decode cX7_put 29 = .ok (.invokevirtual 129, 3) := by decide +kernel
theorem dX7_put_32 : decode cX7_put 32 = .ok (.ireturn, 1) := by decide +kernel
theorem dX7_put_33 : decode cX7_put 33 = .ok (.aload_n 0, 1) := by decide +kernel
theorem dX7_put_34 : decode cX7_put 34 = .ok (.getfield 68, 3) := by decide +kernel
theorem dX7_put_37 : decode cX7_put 37 = .ok (.bipush 60, 2) := by decide +kernel
theorem dX7_put_39 : decode cX7_put 39 = .ok (.iload_n 1, 1) := by decide +kernel
theorem dX7_put_40 : decode cX7_put 40 = .ok (.imul, 1) := by decide +kernel
theorem dX7_put_41 : decode cX7_put 41 = .ok (.iload_n 2, 1) := by decide +kernel
theorem dX7_put_42 : decode cX7_put 42 = .ok (.iadd, 1) := by decide +kernel
theorem dX7_put_43 : decode cX7_put 43 = .ok (.aload_n 0, 1) := by decide +kernel
theorem dX7_put_44 : decode cX7_put 44 = .ok (.getfield 65, 3) := by decide +kernel
theorem dX7_put_47 : decode cX7_put 47 = .ok (.iload_n 1, 1) := by decide +kernel
theorem dX7_put_48 : decode cX7_put 48 = .ok (.iaload, 1) := by decide +kernel
theorem dX7_put_49 : decode cX7_put 49 = .ok (.ifCond .ne 8, 3) := by decide +kernel
theorem dX7_put_52 : decode cX7_put 52 = .ok (.iload_n 3, 1) := by decide +kernel
theorem dX7_put_53 : decode cX7_put 53 = .ok (.i2b, 1) := by decide +kernel
theorem dX7_put_54 : decode cX7_put 54 = .ok (.goto 19, 3) := by decide +kernel
theorem dX7_put_57 : decode cX7_put 57 = .ok (.aload_n 0, 1) := by decide +kernel
theorem dX7_put_58 : decode cX7_put 58 = .ok (.getfield 65, 3) := by decide +kernel
theorem dX7_put_61 : decode cX7_put 61 = .ok (.iload_n 1, 1) := by decide +kernel
theorem dX7_put_62 : decode cX7_put 62 = .ok (.iaload, 1) := by decide +kernel
theorem dX7_put_63 : decode cX7_put 63 = .ok (.iconst 1, 1) := by decide +kernel
theorem dX7_put_64 : decode cX7_put 64 = .ok (.if_icmp .ne 8, 3) := by decide +kernel
theorem dX7_put_67 : decode cX7_put 67 = .ok (.iload_n 3, 1) := by decide +kernel
theorem dX7_put_68 : decode cX7_put 68 = .ok (.i2s, 1) := by decide +kernel
theorem dX7_put_69 : decode cX7_put 69 = .ok (.goto 4, 3) := by decide +kernel
theorem dX7_put_72 : decode cX7_put 72 = .ok (.iload_n 3, 1) := by decide +kernel
theorem dX7_put_73 : decode cX7_put 73 = .ok (.iastore, 1) := by decide +kernel
theorem dX7_put_74 : decode cX7_put 74 = .ok (.aload_n 0, 1) := by decide +kernel
theorem dX7_put_75 : decode cX7_put 75 = .ok (.iconst 1, 1) := by decide +kernel
theorem dX7_put_76 : decode cX7_put 76 = .ok (.invokevirtual 140, 3) := by decide +kernel
theorem dX7_put_79 : decode cX7_put 79 = .ok (.ireturn, 1) := by decide +kernel
theorem dX7_cell_0 : decode cX7_cell 0 = .ok (.aload_n 0, 1) := by decide +kernel
theorem dX7_cell_1 : decode cX7_cell 1 = .ok (.iconst 0, 1) := by decide +kernel
theorem dX7_cell_2 : decode cX7_cell 2 = .ok (.putfield 76, 3) := by decide +kernel
theorem dX7_cell_5 : decode cX7_cell 5 = .ok (.iload_n 1, 1) := by decide +kernel
theorem dX7_cell_6 : decode cX7_cell 6 = .ok (.invokestatic 136, 3) := by decide +kernel
theorem dX7_cell_9 : decode cX7_cell 9 = .ok (.ifCond .ne 15, 3) := by decide +kernel
theorem dX7_cell_12 : decode cX7_cell 12 = .ok (.iload_n 3, 1) := by decide +kernel
theorem dX7_cell_13 : decode cX7_cell 13 = .ok (.i2l, 1) := by decide +kernel
theorem dX7_cell_14 : decode cX7_cell 14 = .ok (.lconst 0, 1) := by decide +kernel
theorem dX7_cell_15 : decode cX7_cell 15 = .ok (.ldc2_w 143, 3) := by decide +kernel
theorem dX7_cell_18 : decode cX7_cell 18 = .ok (.invokestatic 87, 3) := by decide +kernel
theorem dX7_cell_21 : decode cX7_cell 21 = .ok (.ifCond .ne 7, 3) := by decide +kernel
theorem dX7_cell_24 : decode cX7_cell 24 = .ok (.invokestatic 80, 3) := by decide +kernel
theorem dX7_cell_27 : decode cX7_cell 27 = .ok (.lreturn, 1) := by decide +kernel
theorem dX7_cell_28 : decode cX7_cell 28 = .ok (.aload_n 0, 1) := by decide +kernel
theorem dX7_cell_29 : decode cX7_cell 29 = .ok (.getfield 62, 3) := by decide +kernel
theorem dX7_cell_32 : decode cX7_cell 32 = .ok (.iload_n 1, 1) := by decide +kernel
theorem dX7_cell_33 : decode cX7_cell 33 = .ok (.iaload, 1) := by decide +kernel
theorem dX7_cell_34 : decode cX7_cell 34 = .ok (.ifCond .lt 19, 3) := by decide +kernel
theorem dX7_cell_37 : decode cX7_cell 37 = .ok (.aload_n 0, 1) := by decide +kernel
theorem dX7_cell_38 : decode cX7_cell 38 = .ok (.getfield 65, 3) := by decide +kernel
theorem dX7_cell_41 : decode cX7_cell 41 = .ok (.iload_n 1, 1) := by decide +kernel
theorem dX7_cell_42 : decode cX7_cell 42 = .ok (.iaload, 1) := by decide +kernel
theorem dX7_cell_43 : decode cX7_cell 43 = .ok (.iload_n 3, 1) := by decide +kernel
theorem dX7_cell_44 : decode cX7_cell 44 = .ok (.if_icmp .eq 9, 3) := by decide +kernel
theorem dX7_cell_47 : decode cX7_cell 47 = .ok (.aload_n 0, 1) := by decide +kernel
theorem dX7_cell_48 : decode cX7_cell 48 = .ok (.iconst 2, 1) := by decide +kernel
theorem dX7_cell_49 : decode cX7_cell 49 = .ok (.invokevirtual 235, 3) := by decide +kernel
theorem dX7_cell_52 : decode cX7_cell 52 = .ok (.lreturn, 1) := by decide +kernel
theorem dX7_cell_53 : decode cX7_cell 53 = .ok (.aload_n 0, 1) := by decide +kernel
theorem dX7_cell_54 : decode cX7_cell 54 = .ok (.iload_n 1, 1) := by decide +kernel
theorem dX7_cell_55 : decode cX7_cell 55 = .ok (.iload_n 2, 1) := by decide +kernel
theorem dX7_cell_56 : decode cX7_cell 56 = .ok (.invokevirtual 232, 3) := by decide +kernel
theorem dX7_cell_59 : decode cX7_cell 59 = .ok (.ifCond .le 16, 3) := by decide +kernel
theorem dX7_cell_62 : decode cX7_cell 62 = .ok (.aload_n 0, 1) := by decide +kernel
theorem dX7_cell_63 : decode cX7_cell 63 = .ok (.aload_n 0, 1) := by decide +kernel
theorem dX7_cell_64 : decode cX7_cell 64 = .ok (.iload_n 1, 1) := by decide +kernel
theorem dX7_cell_65 : decode cX7_cell 65 = .ok (.iload_n 2, 1) := by decide +kernel
theorem dX7_cell_66 : decode cX7_cell 66 = .ok (.invokevirtual 232, 3) := by decide +kernel
theorem dX7_cell_69 : decode cX7_cell 69 = .ok (.invokevirtual 235, 3) := by decide +kernel
theorem dX7_cell_72 : decode cX7_cell 72 = .ok (.goto 15, 3) := by decide +kernel
theorem dX7_cell_75 : decode cX7_cell 75 = .ok (.aload_n 0, 1) := by decide +kernel
theorem dX7_cell_76 : decode cX7_cell 76 = .ok (.getfield 68, 3) := by decide +kernel
theorem dX7_cell_79 : decode cX7_cell 79 = .ok (.bipush 60, 2) := by decide +kernel
theorem dX7_cell_81 : decode cX7_cell 81 = .ok (.iload_n 1, 1) := by decide +kernel
theorem dX7_cell_82 : decode cX7_cell 82 = .ok (.imul, 1) := by decide +kernel
theorem dX7_cell_83 : decode cX7_cell 83 = .ok (.iload_n 2, 1) := by decide +kernel
theorem dX7_cell_84 : decode cX7_cell 84 = .ok (.iadd, 1) := by decide +kernel
theorem dX7_cell_85 : decode cX7_cell 85 = .ok (.iaload, 1) := by decide +kernel
theorem dX7_cell_86 : decode cX7_cell 86 = .ok (.i2l, 1) := by decide +kernel
theorem dX7_cell_87 : decode cX7_cell 87 = .ok (.lreturn, 1) := by decide +kernel
theorem dX7_isBeyond_0 : decode cX7_isBeyond 0 = .ok (.iload_n 0, 1) := by decide +kernel
theorem dX7_isBeyond_1 : decode cX7_isBeyond 1 = .ok (.ifCond .lt 19, 3) := by decide +kernel
theorem dX7_isBeyond_4 : decode cX7_isBeyond 4 = .ok (.lload_n 1, 1) := by decide +kernel
theorem dX7_isBeyond_5 : decode cX7_isBeyond 5 = .ok (.lconst 0, 1) := by decide +kernel
theorem dX7_isBeyond_6 : decode cX7_isBeyond 6 = .ok (.lcmp, 1) := by decide +kernel
theorem dX7_isBeyond_7 : decode cX7_isBeyond 7 = .ok (.ifCond .lt 13, 3) := by decide +kernel
theorem dX7_isBeyond_10 : decode cX7_isBeyond 10 = .ok (.iload_n 0, 1) := by decide +kernel
theorem dX7_isBeyond_11 : decode cX7_isBeyond 11 = .ok (.i2l, 1) := by decide +kernel
theorem dX7_isBeyond_12 : decode cX7_isBeyond 12 = .ok (.lload_n 1, 1) := by decide +kernel
theorem dX7_isBeyond_13 : decode cX7_isBeyond 13 = .ok (.ladd, 1) := by decide +kernel
theorem dX7_isBeyond_14 : decode cX7_isBeyond 14 = .ok (.iload_n 3, 1) := by decide +kernel
theorem dX7_isBeyond_15 : decode cX7_isBeyond 15 = .ok (.i2l, 1) := by decide +kernel
theorem dX7_isBeyond_16 : decode cX7_isBeyond 16 = .ok (.lcmp, 1) := by decide +kernel
theorem dX7_isBeyond_17 : decode cX7_isBeyond 17 = .ok (.ifCond .le 7, 3) := by decide +kernel
theorem dX7_isBeyond_20 : decode cX7_isBeyond 20 = .ok (.iconst 1, 1) := by decide +kernel
theorem dX7_isBeyond_21 : decode cX7_isBeyond 21 = .ok (.goto 4, 3) := by decide +kernel
theorem dX7_isBeyond_24 : decode cX7_isBeyond 24 = .ok (.iconst 0, 1) := by decide +kernel
theorem dX7_isBeyond_25 : decode cX7_isBeyond 25 = .ok (.ireturn, 1) := by decide +kernel
theorem dX7_copy_0 : decode cX7_copy 0 = .ok (.iload_n 1, 1) := by decide +kernel
theorem dX7_copy_1 : decode cX7_copy 1 = .ok (.invokestatic 136, 3) := by decide +kernel
theorem dX7_copy_4 : decode cX7_copy 4 = .ok (.ifCond .ne 10, 3) := by decide +kernel
theorem dX7_copy_7 : decode cX7_copy 7 = .ok (.iload_n 3, 1) := by decide +kernel
theorem dX7_copy_8 : decode cX7_copy 8 = .ok (.invokestatic 136, 3) := by decide +kernel
theorem dX7_copy_11 : decode cX7_copy 11 = .ok (.ifCond .eq 9, 3) := by decide +kernel
theorem dX7_copy_14 : decode cX7_copy 14 = .ok (.aload_n 0, 1) := by decide +kernel
theorem dX7_copy_15 : decode cX7_copy 15 = .ok (.iconst (-1), 1) := by decide +kernel
theorem dX7_copy_16 : decode cX7_copy 16 = .ok (.invokevirtual 140, 3) := by decide +kernel
theorem dX7_copy_19 : decode cX7_copy 19 = .ok (.ireturn, 1) := by decide +kernel
theorem dX7_copy_20 : decode cX7_copy 20 = .ok (.aload_n 0, 1) := by decide +kernel
theorem dX7_copy_21 : decode cX7_copy 21 = .ok (.getfield 62, 3) := by decide +kernel
theorem dX7_copy_24 : decode cX7_copy 24 = .ok (.iload_n 1, 1) := by decide +kernel
theorem dX7_copy_25 : decode cX7_copy 25 = .ok (.iaload, 1) := by decide +kernel
theorem dX7_copy_26 : decode cX7_copy 26 = .ok (.ifCond .lt 12, 3) := by decide +kernel
theorem dX7_copy_29 : decode cX7_copy 29 = .ok (.aload_n 0, 1) := by decide +kernel
theorem dX7_copy_30 : decode cX7_copy 30 = .ok (.getfield 62, 3) := by decide +kernel
theorem dX7_copy_33 : decode cX7_copy 33 = .ok (.iload_n 3, 1) := by decide +kernel
theorem dX7_copy_34 : decode cX7_copy 34 = .ok (.iaload, 1) := by decide +kernel
theorem dX7_copy_35 : decode cX7_copy 35 = .ok (.ifCond .ge 9, 3) := by decide +kernel
theorem dX7_copy_38 : decode cX7_copy 38 = .ok (.aload_n 0, 1) := by decide +kernel
theorem dX7_copy_39 : decode cX7_copy 39 = .ok (.iconst 1, 1) := by decide +kernel
theorem dX7_copy_40 : decode cX7_copy 40 = .ok (.invokevirtual 129, 3) := by decide +kernel
theorem dX7_copy_43 : decode cX7_copy 43 = .ok (.ireturn, 1) := by decide +kernel
theorem dX7_copy_44 : decode cX7_copy 44 = .ok (.aload_n 0, 1) := by decide +kernel
theorem dX7_copy_45 : decode cX7_copy 45 = .ok (.getfield 65, 3) := by decide +kernel
theorem dX7_copy_48 : decode cX7_copy 48 = .ok (.iload_n 1, 1) := by decide +kernel
theorem dX7_copy_49 : decode cX7_copy 49 = .ok (.iaload, 1) := by decide +kernel
theorem dX7_copy_50 : decode cX7_copy 50 = .ok (.aload_n 0, 1) := by decide +kernel
theorem dX7_copy_51 : decode cX7_copy 51 = .ok (.getfield 65, 3) := by decide +kernel
theorem dX7_copy_54 : decode cX7_copy 54 = .ok (.iload_n 3, 1) := by decide +kernel
theorem dX7_copy_55 : decode cX7_copy 55 = .ok (.iaload, 1) := by decide +kernel
theorem dX7_copy_56 : decode cX7_copy 56 = .ok (.if_icmp .eq 9, 3) := by decide +kernel
theorem dX7_copy_59 : decode cX7_copy 59 = .ok (.aload_n 0, 1) := by decide +kernel
theorem dX7_copy_60 : decode cX7_copy 60 = .ok (.iconst 2, 1) := by decide +kernel
theorem dX7_copy_61 : decode cX7_copy 61 = .ok (.invokevirtual 129, 3) := by decide +kernel
theorem dX7_copy_64 : decode cX7_copy 64 = .ok (.ireturn, 1) := by decide +kernel
theorem dX7_copy_65 : decode cX7_copy 65 = .ok (.iload_n 2, 1) := by decide +kernel
theorem dX7_copy_66 : decode cX7_copy 66 = .ok (.iload 5, 2) := by decide +kernel
theorem dX7_copy_68 : decode cX7_copy 68 = .ok (.i2l, 1) := by decide +kernel
theorem dX7_copy_69 : decode cX7_copy 69 = .ok (.aload_n 0, 1) := by decide +kernel
theorem dX7_copy_70 : decode cX7_copy 70 = .ok (.getfield 62, 3) := by decide +kernel
theorem dX7_copy_73 : decode cX7_copy 73 = .ok (.iload_n 1, 1) := by decide +kernel
theorem dX7_copy_74 : decode cX7_copy 74 = .ok (.iaload, 1) := by decide +kernel
theorem dX7_copy_75 : decode cX7_copy 75 = .ok (.invokestatic 132, 3) := by decide +kernel
theorem dX7_copy_78 : decode cX7_copy 78 = .ok (.ifCond .ne 20, 3) := by decide +kernel
theorem dX7_copy_81 : decode cX7_copy 81 = .ok (.iload 4, 2) := by decide +kernel
theorem dX7_copy_83 : decode cX7_copy 83 = .ok (.iload 5, 2) := by decide +kernel
theorem dX7_copy_85 : decode cX7_copy 85 = .ok (.i2l, 1) := by decide +kernel
theorem dX7_copy_86 : decode cX7_copy 86 = .ok (.aload_n 0, 1) := by decide +kernel
theorem dX7_copy_87 : decode cX7_copy 87 = .ok (.getfield 62, 3) := by decide +kernel
theorem dX7_copy_90 : decode cX7_copy 90 = .ok (.iload_n 3, 1) := by decide +kernel
theorem dX7_copy_91 : decode cX7_copy 91 = .ok (.iaload, 1) := by decide +kernel
theorem dX7_copy_92 : decode cX7_copy 92 = .ok (.invokestatic 132, 3) := by decide +kernel
theorem dX7_copy_95 : decode cX7_copy 95 = .ok (.ifCond .eq 9, 3) := by decide +kernel
theorem dX7_copy_98 : decode cX7_copy 98 = .ok (.aload_n 0, 1) := by decide +kernel
theorem dX7_copy_99 : decode cX7_copy 99 = .ok (.iconst 3, 1) := by decide +kernel
theorem dX7_copy_100 : decode cX7_copy 100 = .ok (.invokevirtual 129, 3) := by decide +kernel
theorem dX7_copy_103 : decode cX7_copy 103 = .ok (.ireturn, 1) := by decide +kernel
theorem dX7_copy_104 : decode cX7_copy 104 = .ok (.iconst 0, 1) := by decide +kernel
theorem dX7_copy_105 : decode cX7_copy 105 = .ok (.istore 6, 2) := by decide +kernel
theorem dX7_copy_107 : decode cX7_copy 107 = .ok (.iload 6, 2) := by decide +kernel
theorem dX7_copy_109 : decode cX7_copy 109 = .ok (.iload 5, 2) := by decide +kernel
theorem dX7_copy_111 : decode cX7_copy 111 = .ok (.if_icmp .ge 30, 3) := by decide +kernel
theorem dX7_copy_114 : decode cX7_copy 114 = .ok (.aload_n 0, 1) := by decide +kernel
theorem dX7_copy_115 : decode cX7_copy 115 = .ok (.getfield 71, 3) := by decide +kernel
theorem dX7_copy_118 : decode cX7_copy 118 = .ok (.iload 6, 2) := by decide +kernel
theorem dX7_copy_120 : decode cX7_copy 120 = .ok (.aload_n 0, 1) := by decide +kernel
theorem dX7_copy_121 : decode cX7_copy 121 = .ok (.getfield 68, 3) := by decide +kernel
theorem dX7_copy_124 : decode cX7_copy 124 = .ok (.bipush 60, 2) := by decide +kernel
theorem dX7_copy_126 : decode cX7_copy 126 = .ok (.iload_n 1, 1) := by decide +kernel
theorem dX7_copy_127 : decode cX7_copy 127 = .ok (.imul, 1) := by decide +kernel
theorem dX7_copy_128 : decode cX7_copy 128 = .ok (.iload_n 2, 1) := by decide +kernel
theorem dX7_copy_129 : decode cX7_copy 129 = .ok (.iadd, 1) := by decide +kernel
theorem dX7_copy_130 : decode cX7_copy 130 = .ok (.iload 6, 2) := by decide +kernel
theorem dX7_copy_132 : decode cX7_copy 132 = .ok (.iadd, 1) := by decide +kernel
theorem dX7_copy_133 : decode cX7_copy 133 = .ok (.iaload, 1) := by decide +kernel
theorem dX7_copy_134 : decode cX7_copy 134 = .ok (.iastore, 1) := by decide +kernel
theorem dX7_copy_135 : decode cX7_copy 135 = .ok (.iinc 6 1, 3) := by decide +kernel
theorem dX7_copy_138 : decode cX7_copy 138 = .ok (.goto (-31), 3) := by decide +kernel
theorem dX7_copy_141 : decode cX7_copy 141 = .ok (.iconst 0, 1) := by decide +kernel
theorem dX7_copy_142 : decode cX7_copy 142 = .ok (.istore 6, 2) := by decide +kernel
theorem dX7_copy_144 : decode cX7_copy 144 = .ok (.iload 6, 2) := by decide +kernel
theorem dX7_copy_146 : decode cX7_copy 146 = .ok (.iload 5, 2) := by decide +kernel
theorem dX7_copy_148 : decode cX7_copy 148 = .ok (.if_icmp .ge 31, 3) := by decide +kernel
theorem dX7_copy_151 : decode cX7_copy 151 = .ok (.aload_n 0, 1) := by decide +kernel
theorem dX7_copy_152 : decode cX7_copy 152 = .ok (.getfield 68, 3) := by decide +kernel
theorem dX7_copy_155 : decode cX7_copy 155 = .ok (.bipush 60, 2) := by decide +kernel
theorem dX7_copy_157 : decode cX7_copy 157 = .ok (.iload_n 3, 1) := by decide +kernel
theorem dX7_copy_158 : decode cX7_copy 158 = .ok (.imul, 1) := by decide +kernel
theorem dX7_copy_159 : decode cX7_copy 159 = .ok (.iload 4, 2) := by decide +kernel
theorem dX7_copy_161 : decode cX7_copy 161 = .ok (.iadd, 1) := by decide +kernel
theorem dX7_copy_162 : decode cX7_copy 162 = .ok (.iload 6, 2) := by decide +kernel
theorem dX7_copy_164 : decode cX7_copy 164 = .ok (.iadd, 1) := by decide +kernel
theorem dX7_copy_165 : decode cX7_copy 165 = .ok (.aload_n 0, 1) := by decide +kernel
theorem dX7_copy_166 : decode cX7_copy 166 = .ok (.getfield 71, 3) := by decide +kernel
theorem dX7_copy_169 : decode cX7_copy 169 = .ok (.iload 6, 2) := by decide +kernel
theorem dX7_copy_171 : decode cX7_copy 171 = .ok (.iaload, 1) := by decide +kernel
theorem dX7_copy_172 : decode cX7_copy 172 = .ok (.iastore, 1) := by decide +kernel
theorem dX7_copy_173 : decode cX7_copy 173 = .ok (.iinc 6 1, 3) := by decide +kernel
theorem dX7_copy_176 : decode cX7_copy 176 = .ok (.goto (-32), 3) := by decide +kernel
theorem dX7_copy_179 : decode cX7_copy 179 = .ok (.aload_n 0, 1) := by decide +kernel
theorem dX7_copy_180 : decode cX7_copy 180 = .ok (.iload 5, 2) := by decide +kernel
theorem dX7_copy_182 : decode cX7_copy 182 = .ok (.invokevirtual 140, 3) := by decide +kernel
theorem dX7_copy_185 : decode cX7_copy 185 = .ok (.ireturn, 1) := by decide +kernel
theorem dX7_traced_0 : decode cX7_traced 0 = .ok (.aload_n 0, 1) := by decide +kernel
theorem dX7_traced_1 : decode cX7_traced 1 = .ok (.bipush 31, 2) := by decide +kernel
theorem dX7_traced_3 : decode cX7_traced 3 = .ok (.aload_n 0, 1) := by decide +kernel
theorem dX7_traced_4 : decode cX7_traced 4 = .ok (.getfield 239, 3) := by decide +kernel
theorem dX7_traced_7 : decode cX7_traced 7 = .ok (.imul, 1) := by decide +kernel
theorem dX7_traced_8 : decode cX7_traced 8 = .ok (.iload_n 1, 1) := by decide +kernel
theorem dX7_traced_9 : decode cX7_traced 9 = .ok (.iadd, 1) := by decide +kernel
theorem dX7_traced_10 : decode cX7_traced 10 = .ok (.putfield 239, 3) := by decide +kernel
theorem dX7_traced_13 : decode cX7_traced 13 = .ok (.return_, 1) := by decide +kernel
theorem dX7_tell_0 : decode cX7_tell 0 = .ok (.aload_n 0, 1) := by decide +kernel
theorem dX7_tell_1 : decode cX7_tell 1 = .ok (.iload_n 1, 1) := by decide +kernel
theorem dX7_tell_2 : decode cX7_tell 2 = .ok (.invokevirtual 158, 3) := by decide +kernel
theorem dX7_tell_5 : decode cX7_tell 5 = .ok (.ifCond .eq 5, 3) := by decide +kernel
theorem dX7_tell_8 : decode cX7_tell 8 = .ok (.iconst (-1), 1) := by decide +kernel
theorem dX7_tell_9 : decode cX7_tell 9 = .ok (.ireturn, 1) := by decide +kernel
theorem dX7_tell_10 : decode cX7_tell 10 = .ok (.aload_n 0, 1) := by decide +kernel
theorem dX7_tell_11 : decode cX7_tell 11 = .ok (.getfield 13, 3) := by decide +kernel
theorem dX7_tell_14 : decode cX7_tell 14 = .ok (.iload_n 1, 1) := by decide +kernel
theorem dX7_tell_15 : decode cX7_tell 15 = .ok (.iaload, 1) := by decide +kernel
theorem dX7_tell_16 : decode cX7_tell 16 = .ok (.istore_n 2, 1) := by decide +kernel
theorem dX7_tell_17 : decode cX7_tell 17 = .ok (.iload_n 2, 1) := by decide +kernel
theorem dX7_tell_18 : decode cX7_tell 18 = .ok (.iconst 2, 1) := by decide +kernel
theorem dX7_tell_19 : decode cX7_tell 19 = .ok (.if_icmp .ne 8, 3) := by decide +kernel
theorem dX7_tell_22 : decode cX7_tell 22 = .ok (.aload_n 0, 1) := by decide +kernel
theorem dX7_tell_23 : decode cX7_tell 23 = .ok (.iconst 3, 1) := by decide +kernel
theorem dX7_tell_24 : decode cX7_tell 24 = .ok (.invokevirtual 242, 3) := by decide +kernel
theorem dX7_tell_27 : decode cX7_tell 27 = .ok (.iload_n 2, 1) := by decide +kernel
theorem dX7_tell_28 : decode cX7_tell 28 = .ok (.ifCond .le 8, 3) := by decide +kernel
theorem dX7_tell_31 : decode cX7_tell 31 = .ok (.aload_n 0, 1) := by decide +kernel
theorem dX7_tell_32 : decode cX7_tell 32 = .ok (.iconst 2, 1) := by decide +kernel
theorem dX7_tell_33 : decode cX7_tell 33 = .ok (.invokevirtual 242, 3) := by decide +kernel
theorem dX7_tell_36 : decode cX7_tell 36 = .ok (.aload_n 0, 1) := by decide +kernel
theorem dX7_tell_37 : decode cX7_tell 37 = .ok (.iconst 1, 1) := by decide +kernel
theorem dX7_tell_38 : decode cX7_tell 38 = .ok (.invokevirtual 242, 3) := by decide +kernel
theorem dX7_tell_41 : decode cX7_tell 41 = .ok (.iload_n 2, 1) := by decide +kernel
theorem dX7_tell_42 : decode cX7_tell 42 = .ok (.iconst 2, 1) := by decide +kernel
theorem dX7_tell_43 : decode cX7_tell 43 = .ok (.if_icmp .ne 8, 3) := by decide +kernel
theorem dX7_tell_46 : decode cX7_tell 46 = .ok (.aload_n 0, 1) := by decide +kernel
theorem dX7_tell_47 : decode cX7_tell 47 = .ok (.iconst 1, 1) := by decide +kernel
theorem dX7_tell_48 : decode cX7_tell 48 = .ok (.invokevirtual 242, 3) := by decide +kernel
theorem dX7_tell_51 : decode cX7_tell 51 = .ok (.aload_n 0, 1) := by decide +kernel
theorem dX7_tell_52 : decode cX7_tell 52 = .ok (.getfield 22, 3) := by decide +kernel
theorem dX7_tell_55 : decode cX7_tell 55 = .ok (.iload_n 1, 1) := by decide +kernel
theorem dX7_tell_56 : decode cX7_tell 56 = .ok (.iaload, 1) := by decide +kernel
theorem dX7_tell_57 : decode cX7_tell 57 = .ok (.istore_n 3, 1) := by decide +kernel
theorem dX7_tell_58 : decode cX7_tell 58 = .ok (.iload_n 2, 1) := by decide +kernel
theorem dX7_tell_59 : decode cX7_tell 59 = .ok (.ifCond .ne 7, 3) := by decide +kernel
theorem dX7_tell_62 : decode cX7_tell 62 = .ok (.iload_n 3, 1) := by decide +kernel
theorem dX7_tell_63 : decode cX7_tell 63 = .ok (.goto 21, 3) := by decide +kernel
theorem dX7_tell_66 : decode cX7_tell 66 = .ok (.iload_n 2, 1) := by decide +kernel
theorem dX7_tell_67 : decode cX7_tell 67 = .ok (.iconst 1, 1) := by decide +kernel
theorem dX7_tell_68 : decode cX7_tell 68 = .ok (.if_icmp .ne 10, 3) := by decide +kernel
theorem dX7_tell_71 : decode cX7_tell 71 = .ok (.iload_n 3, 1) := by decide +kernel
theorem dX7_tell_72 : decode cX7_tell 72 = .ok (.bipush 100, 2) := by decide +kernel
theorem dX7_tell_74 : decode cX7_tell 74 = .ok (.iadd, 1) := by decide +kernel
theorem dX7_tell_75 : decode cX7_tell 75 = .ok (.goto 9, 3) := by decide +kernel
theorem dX7_tell_78 : decode cX7_tell 78 = .ok (.iconst 2, 1) := by decide +kernel
theorem dX7_tell_79 : decode cX7_tell 79 = .ok (.iload_n 3, 1) := by decide +kernel
theorem dX7_tell_80 : decode cX7_tell 80 = .ok (.imul, 1) := by decide +kernel
theorem dX7_tell_81 : decode cX7_tell 81 = .ok (.bipush 100, 2) := by decide +kernel
theorem dX7_tell_83 : decode cX7_tell 83 = .ok (.iadd, 1) := by decide +kernel
theorem dX7_tell_84 : decode cX7_tell 84 = .ok (.ireturn, 1) := by decide +kernel
theorem dX7_ring_0 : decode cX7_ring 0 = .ok (.aload_n 0, 1) := by decide +kernel
theorem dX7_ring_1 : decode cX7_ring 1 = .ok (.iload_n 1, 1) := by decide +kernel
theorem dX7_ring_2 : decode cX7_ring 2 = .ok (.invokevirtual 158, 3) := by decide +kernel
theorem dX7_ring_5 : decode cX7_ring 5 = .ok (.ifCond .eq 5, 3) := by decide +kernel
theorem dX7_ring_8 : decode cX7_ring 8 = .ok (.iconst (-1), 1) := by decide +kernel
theorem dX7_ring_9 : decode cX7_ring 9 = .ok (.ireturn, 1) := by decide +kernel
theorem dX7_ring_10 : decode cX7_ring 10 = .ok (.aload_n 0, 1) := by decide +kernel
theorem dX7_ring_11 : decode cX7_ring 11 = .ok (.aload_n 0, 1) := by decide +kernel
theorem dX7_ring_12 : decode cX7_ring 12 = .ok (.getfield 13, 3) := by decide +kernel
theorem dX7_ring_15 : decode cX7_ring 15 = .ok (.iload_n 1, 1) := by decide +kernel
theorem dX7_ring_16 : decode cX7_ring 16 = .ok (.iaload, 1) := by decide +kernel
theorem dX7_ring_17 : decode cX7_ring 17 = .ok (.iconst 2, 1) := by decide +kernel
theorem dX7_ring_18 : decode cX7_ring 18 = .ok (.if_icmp .ne 7, 3) := by decide +kernel
theorem dX7_ring_21 : decode cX7_ring 21 = .ok (.iconst 5, 1) := by decide +kernel
theorem dX7_ring_22 : decode cX7_ring 22 = .ok (.goto 4, 3) := by decide +kernel
theorem dX7_ring_25 : decode cX7_ring 25 = .ok (.iconst 4, 1) := by decide +kernel
theorem dX7_ring_26 : decode cX7_ring 26 = .ok (.invokevirtual 242, 3) := by decide +kernel
theorem dX7_ring_29 : decode cX7_ring 29 = .ok (.aload_n 0, 1) := by decide +kernel
theorem dX7_ring_30 : decode cX7_ring 30 = .ok (.getfield 13, 3) := by decide +kernel
theorem dX7_ring_33 : decode cX7_ring 33 = .ok (.iload_n 1, 1) := by decide +kernel
theorem dX7_ring_34 : decode cX7_ring 34 = .ok (.iaload, 1) := by decide +kernel
theorem dX7_ring_35 : decode cX7_ring 35 = .ok (.iconst 2, 1) := by decide +kernel
theorem dX7_ring_36 : decode cX7_ring 36 = .ok (.if_icmp .ne 8, 3) := by decide +kernel
theorem dX7_ring_39 : decode cX7_ring 39 = .ok (.bipush 60, 2) := by decide +kernel
theorem dX7_ring_41 : decode cX7_ring 41 = .ok (.goto 4, 3) := by decide +kernel
theorem dX7_ring_44 : decode cX7_ring 44 = .ok (.iload_n 1, 1) := by decide +kernel
theorem dX7_ring_45 : decode cX7_ring 45 = .ok (.ireturn, 1) := by decide +kernel
theorem dX7_as_0 : decode cX7_as 0 = .ok (.aload_n 0, 1) := by decide +kernel
theorem dX7_as_1 : decode cX7_as 1 = .ok (.iload_n 1, 1) := by decide +kernel
theorem dX7_as_2 : decode cX7_as 2 = .ok (.invokevirtual 158, 3) := by decide +kernel
theorem dX7_as_5 : decode cX7_as 5 = .ok (.ifCond .eq 9, 3) := by decide +kernel
theorem dX7_as_8 : decode cX7_as 8 = .ok (.aload_n 0, 1) := by decide +kernel
theorem dX7_as_9 : decode cX7_as 9 = .ok (.iconst (-1), 1) := by decide +kernel
theorem dX7_as_10 : decode cX7_as 10 = .ok (.invokevirtual 140, 3) := by decide +kernel
theorem dX7_as_13 : decode cX7_as 13 = .ok (.ireturn, 1) := by decide +kernel
theorem dX7_as_14 : decode cX7_as 14 = .ok (.iload_n 2, 1) := by decide +kernel
theorem dX7_as_15 : decode cX7_as 15 = .ok (.i2l, 1) := by decide +kernel
theorem dX7_as_16 : decode cX7_as 16 = .ok (.lconst 0, 1) := by decide +kernel
theorem dX7_as_17 : decode cX7_as 17 = .ok (.ldc2_w 143, 3) := by decide +kernel
theorem dX7_as_20 : decode cX7_as 20 = .ok (.invokestatic 87, 3) := by decide +kernel
theorem dX7_as_23 : decode cX7_as 23 = .ok (.ifCond .ne 10, 3) := by decide +kernel
theorem dX7_as_26 : decode cX7_as 26 = .ok (.aload_n 0, 1) := by decide +kernel
theorem dX7_as_27 : decode cX7_as 27 = .ok (.bipush (-2), 2) := by decide +kernel
theorem dX7_as_29 : decode cX7_as 29 = .ok (.invokevirtual 140, 3) := by decide +kernel
theorem dX7_as_32 : decode cX7_as 32 = .ok (.ireturn, 1) := by decide +kernel
theorem dX7_as_33 : decode cX7_as 33 = .ok (.aload_n 0, 1) := by decide +kernel
theorem dX7_as_34 : decode cX7_as 34 = .ok (.getfield 13, 3) := by decide +kernel
theorem dX7_as_37 : decode cX7_as 37 = .ok (.iload_n 1, 1) := by decide +kernel
theorem dX7_as_38 : decode cX7_as 38 = .ok (.iaload, 1) := by decide +kernel
theorem dX7_as_39 : decode cX7_as 39 = .ok (.iload_n 2, 1) := by decide +kernel
theorem dX7_as_40 : decode cX7_as 40 = .ok (.if_icmp .lt 11, 3) := by decide +kernel
theorem dX7_as_43 : decode cX7_as 43 = .ok (.aload_n 0, 1) := by decide +kernel
theorem dX7_as_44 : decode cX7_as 44 = .ok (.iconst 1, 1) := by decide +kernel
theorem dX7_as_45 : decode cX7_as 45 = .ok (.invokevirtual 140, 3) := by decide +kernel
theorem dX7_as_48 : decode cX7_as 48 = .ok (.goto 8, 3) := by decide +kernel
theorem dX7_as_51 : decode cX7_as 51 = .ok (.aload_n 0, 1) := by decide +kernel
theorem dX7_as_52 : decode cX7_as 52 = .ok (.iconst 2, 1) := by decide +kernel
theorem dX7_as_53 : decode cX7_as 53 = .ok (.invokevirtual 129, 3) := by decide +kernel
theorem dX7_as_56 : decode cX7_as 56 = .ok (.ireturn, 1) := by decide +kernel
theorem dX7_trace_0 : decode cX7_trace 0 = .ok (.aload_n 0, 1) := by decide +kernel
theorem dX7_trace_1 : decode cX7_trace 1 = .ok (.getfield 239, 3) := by decide +kernel
theorem dX7_trace_4 : decode cX7_trace 4 = .ok (.ireturn, 1) := by decide +kernel
theorem dX7_fault_0 : decode cX7_fault 0 = .ok (.aload_n 0, 1) := by decide +kernel
theorem dX7_fault_1 : decode cX7_fault 1 = .ok (.getfield 76, 3) := by decide +kernel
theorem dX7_fault_4 : decode cX7_fault 4 = .ok (.ireturn, 1) := by decide +kernel
theorem dX7_many_0 : decode cX7_many 0 = .ok (.iload_n 1, 1) := by decide +kernel
theorem dX7_many_1 : decode cX7_many 1 = .ok (.tableswitch 51 0 3 #[31, 36, 41, 46], 31) := by decide +kernel
theorem dX7_many_32 : decode cX7_many 32 = .ok (.aload_n 0, 1) := by decide +kernel
theorem dX7_many_33 : decode cX7_many 33 = .ok (.getfield 91, 3) := by decide +kernel
theorem dX7_many_36 : decode cX7_many 36 = .ok (.ireturn, 1) := by decide +kernel
theorem dX7_many_37 : decode cX7_many 37 = .ok (.aload_n 0, 1) := by decide +kernel
theorem dX7_many_38 : decode cX7_many 38 = .ok (.getfield 84, 3) := by decide +kernel
theorem dX7_many_41 : decode cX7_many 41 = .ok (.ireturn, 1) := by decide +kernel
theorem dX7_many_42 : decode cX7_many 42 = .ok (.aload_n 0, 1) := by decide +kernel
theorem dX7_many_43 : decode cX7_many 43 = .ok (.getfield 152, 3) := by decide +kernel
theorem dX7_many_46 : decode cX7_many 46 = .ok (.ireturn, 1) := by decide +kernel
theorem dX7_many_47 : decode cX7_many 47 = .ok (.aload_n 0, 1) := by decide +kernel
theorem dX7_many_48 : decode cX7_many 48 = .ok (.getfield 155, 3) := by decide +kernel
theorem dX7_many_51 : decode cX7_many 51 = .ok (.ireturn, 1) := by decide +kernel
theorem dX7_many_52 : decode cX7_many 52 = .ok (.bipush (-2), 2) := by decide +kernel
theorem dX7_many_54 : decode cX7_many 54 = .ok (.ireturn, 1) := by decide +kernel
end
section
theorem dL_law_0 : decode cL_law 0 = .ok (.new 7, 3) := by decide +kernel
theorem dL_law_3 : decode cL_law 3 = .ok (.dup, 1) := by decide +kernel
theorem dL_law_4 : decode cL_law 4 = .ok (.invokespecial 9, 3) := by decide +kernel
theorem dL_law_7 : decode cL_law 7 = .ok (.astore_n 1, 1) := by decide +kernel
theorem dL_law_8 : decode cL_law 8 = .ok (.new 10, 3) := by decide +kernel
theorem dL_law_11 : decode cL_law 11 = .ok (.dup, 1) := by decide +kernel
theorem dL_law_12 : decode cL_law 12 = .ok (.invokespecial 12, 3) := by decide +kernel
theorem dL_law_15 : decode cL_law 15 = .ok (.astore_n 2, 1) := by decide +kernel
theorem dL_law_16 : decode cL_law 16 = .ok (.iconst 0, 1) := by decide +kernel
theorem dL_law_17 : decode cL_law 17 = .ok (.istore_n 3, 1) := by decide +kernel
theorem dL_law_18 : decode cL_law 18 = .ok (.iload_n 3, 1) := by decide +kernel
theorem dL_law_19 : decode cL_law 19 = .ok (.aload_n 0, 1) := by decide +kernel
theorem dL_law_20 : decode cL_law 20 = .ok (.arraylength, 1) := by decide +kernel
theorem dL_law_21 : decode cL_law 21 = .ok (.bipush 6, 2) := by decide +kernel
theorem dL_law_23 : decode cL_law 23 = .ok (.isub, 1) := by decide +kernel
theorem dL_law_24 : decode cL_law 24 = .ok (.if_icmp .gt 1122, 3) := by decide +kernel
theorem dL_law_27 : decode cL_law 27 = .ok (.aload_n 0, 1) := by decide +kernel
theorem dL_law_28 : decode cL_law 28 = .ok (.iload_n 3, 1) := by decide +kernel
theorem dL_law_29 : decode cL_law 29 = .ok (.iaload, 1) := by decide +kernel
theorem dL_law_30 : decode cL_law 30 = .ok (.bipush 31, 2) := by decide +kernel
theorem dL_law_32 : decode cL_law 32 = .ok (.iand, 1) := by decide +kernel
theorem dL_law_33 : decode cL_law 33 = .ok (.tableswitch 1107 0 29 #[135, 188, 221, 244, 277, 300, 333, 366, 399, 462, 495, 518, 561, 574, 617, 640, 663, 686, 719, 763, 806, 829, 872, 916, 979, 1002, 1025, 1058, 1071, 1084], 135) := by decide +kernel
theorem dL_law_168 : decode cL_law 168 = .ok (.aload_n 1, 1) := by decide +kernel
theorem dL_law_169 : decode cL_law 169 = .ok (.aload_n 0, 1) := by decide +kernel
theorem dL_law_170 : decode cL_law 170 = .ok (.iload_n 3, 1) := by decide +kernel
theorem dL_law_171 : decode cL_law 171 = .ok (.iconst 1, 1) := by decide +kernel
theorem dL_law_172 : decode cL_law 172 = .ok (.iadd, 1) := by decide +kernel
theorem dL_law_173 : decode cL_law 173 = .ok (.iaload, 1) := by decide +kernel
theorem dL_law_174 : decode cL_law 174 = .ok (.aload_n 0, 1) := by decide +kernel
theorem dL_law_175 : decode cL_law 175 = .ok (.iload_n 3, 1) := by decide +kernel
theorem dL_law_176 : decode cL_law 176 = .ok (.iconst 2, 1) := by decide +kernel
theorem dL_law_177 : decode cL_law 177 = .ok (.iadd, 1) := by decide +kernel
theorem dL_law_178 : decode cL_law 178 = .ok (.iaload, 1) := by decide +kernel
theorem dL_law_179 : decode cL_law 179 = .ok (.aload_n 0, 1) := by decide +kernel
theorem dL_law_180 : decode cL_law 180 = .ok (.iload_n 3, 1) := by decide +kernel
theorem dL_law_181 : decode cL_law 181 = .ok (.iconst 3, 1) := by decide +kernel
theorem dL_law_182 : decode cL_law 182 = .ok (.iadd, 1) := by decide +kernel
theorem dL_law_183 : decode cL_law 183 = .ok (.iaload, 1) := by decide +kernel
theorem dL_law_184 : decode cL_law 184 = .ok (.aload_n 0, 1) := by decide +kernel
theorem dL_law_185 : decode cL_law 185 = .ok (.iload_n 3, 1) := by decide +kernel
theorem dL_law_186 : decode cL_law 186 = .ok (.iconst 4, 1) := by decide +kernel
theorem dL_law_187 : decode cL_law 187 = .ok (.iadd, 1) := by decide +kernel
theorem dL_law_188 : decode cL_law 188 = .ok (.iaload, 1) := by decide +kernel
theorem dL_law_189 : decode cL_law 189 = .ok (.invokevirtual 13, 3) := by decide +kernel
theorem dL_law_192 : decode cL_law 192 = .ok (.aload_n 2, 1) := by decide +kernel
theorem dL_law_193 : decode cL_law 193 = .ok (.aload_n 0, 1) := by decide +kernel
theorem dL_law_194 : decode cL_law 194 = .ok (.iload_n 3, 1) := by decide +kernel
theorem dL_law_195 : decode cL_law 195 = .ok (.iconst 1, 1) := by decide +kernel
theorem dL_law_196 : decode cL_law 196 = .ok (.iadd, 1) := by decide +kernel
theorem dL_law_197 : decode cL_law 197 = .ok (.iaload, 1) := by decide +kernel
theorem dL_law_198 : decode cL_law 198 = .ok (.aload_n 0, 1) := by decide +kernel
theorem dL_law_199 : decode cL_law 199 = .ok (.iload_n 3, 1) := by decide +kernel
theorem dL_law_200 : decode cL_law 200 = .ok (.iconst 2, 1) := by decide +kernel
theorem dL_law_201 : decode cL_law 201 = .ok (.iadd, 1) := by decide +kernel
theorem dL_law_202 : decode cL_law 202 = .ok (.iaload, 1) := by decide +kernel
theorem dL_law_203 : decode cL_law 203 = .ok (.aload_n 0, 1) := by decide +kernel
theorem dL_law_204 : decode cL_law 204 = .ok (.iload_n 3, 1) := by decide +kernel
theorem dL_law_205 : decode cL_law 205 = .ok (.iconst 3, 1) := by decide +kernel
theorem dL_law_206 : decode cL_law 206 = .ok (.iadd, 1) := by decide +kernel
theorem dL_law_207 : decode cL_law 207 = .ok (.iaload, 1) := by decide +kernel
theorem dL_law_208 : decode cL_law 208 = .ok (.aload_n 0, 1) := by decide +kernel
theorem dL_law_209 : decode cL_law 209 = .ok (.iload_n 3, 1) := by decide +kernel
theorem dL_law_210 : decode cL_law 210 = .ok (.iconst 4, 1) := by decide +kernel
theorem dL_law_211 : decode cL_law 211 = .ok (.iadd, 1) := by decide +kernel
theorem dL_law_212 : decode cL_law 212 = .ok (.iaload, 1) := by decide +kernel
theorem dL_law_213 : decode cL_law 213 = .ok (.invokevirtual 17, 3) := by decide +kernel
theorem dL_law_216 : decode cL_law 216 = .ok (.if_icmp .eq 924, 3) := by decide +kernel
theorem dL_law_219 : decode cL_law 219 = .ok (.iconst 0, 1) := by decide +kernel
theorem dL_law_220 : decode cL_law 220 = .ok (.ireturn, 1) := by decide +kernel
theorem dL_law_221 : decode cL_law 221 = .ok (.aload_n 1, 1) := by decide +kernel
theorem dL_law_222 : decode cL_law 222 = .ok (.aload_n 0, 1) := by decide +kernel
theorem dL_law_223 : decode cL_law 223 = .ok (.iload_n 3, 1) := by decide +kernel
theorem dL_law_224 : decode cL_law 224 = .ok (.iconst 1, 1) := by decide +kernel
theorem dL_law_225 : decode cL_law 225 = .ok (.iadd, 1) := by decide +kernel
theorem dL_law_226 : decode cL_law 226 = .ok (.iaload, 1) := by decide +kernel
theorem dL_law_227 : decode cL_law 227 = .ok (.aload_n 0, 1) := by decide +kernel
theorem dL_law_228 : decode cL_law 228 = .ok (.iload_n 3, 1) := by decide +kernel
theorem dL_law_229 : decode cL_law 229 = .ok (.iconst 2, 1) := by decide +kernel
theorem dL_law_230 : decode cL_law 230 = .ok (.iadd, 1) := by decide +kernel
theorem dL_law_231 : decode cL_law 231 = .ok (.iaload, 1) := by decide +kernel
theorem dL_law_232 : decode cL_law 232 = .ok (.invokevirtual 18, 3) := by decide +kernel
theorem dL_law_235 : decode cL_law 235 = .ok (.aload_n 2, 1) := by decide +kernel
theorem dL_law_236 : decode cL_law 236 = .ok (.aload_n 0, 1) := by decide +kernel
theorem dL_law_237 : decode cL_law 237 = .ok (.iload_n 3, 1) := by decide +kernel
theorem dL_law_238 : decode cL_law 238 = .ok (.iconst 1, 1) := by decide +kernel
theorem dL_law_239 : decode cL_law 239 = .ok (.iadd, 1) := by decide +kernel
theorem dL_law_240 : decode cL_law 240 = .ok (.iaload, 1) := by decide +kernel
theorem dL_law_241 : decode cL_law 241 = .ok (.aload_n 0, 1) := by decide +kernel
theorem dL_law_242 : decode cL_law 242 = .ok (.iload_n 3, 1) := by decide +kernel
theorem dL_law_243 : decode cL_law 243 = .ok (.iconst 2, 1) := by decide +kernel
theorem dL_law_244 : decode cL_law 244 = .ok (.iadd, 1) := by decide +kernel
theorem dL_law_245 : decode cL_law 245 = .ok (.iaload, 1) := by decide +kernel
theorem dL_law_246 : decode cL_law 246 = .ok (.invokevirtual 22, 3) := by decide +kernel
theorem dL_law_249 : decode cL_law 249 = .ok (.if_icmp .eq 891, 3) := by decide +kernel
theorem dL_law_252 : decode cL_law 252 = .ok (.iconst 0, 1) := by decide +kernel
theorem dL_law_253 : decode cL_law 253 = .ok (.ireturn, 1) := by decide +kernel
theorem dL_law_254 : decode cL_law 254 = .ok (.aload_n 1, 1) := by decide +kernel
theorem dL_law_255 : decode cL_law 255 = .ok (.aload_n 0, 1) := by decide +kernel
theorem dL_law_256 : decode cL_law 256 = .ok (.iload_n 3, 1) := by decide +kernel
theorem dL_law_257 : decode cL_law 257 = .ok (.iconst 1, 1) := by decide +kernel
theorem dL_law_258 : decode cL_law 258 = .ok (.iadd, 1) := by decide +kernel
theorem dL_law_259 : decode cL_law 259 = .ok (.iaload, 1) := by decide +kernel
theorem dL_law_260 : decode cL_law 260 = .ok (.invokevirtual 23, 3) := by decide +kernel
theorem dL_law_263 : decode cL_law 263 = .ok (.aload_n 2, 1) := by decide +kernel
theorem dL_law_264 : decode cL_law 264 = .ok (.aload_n 0, 1) := by decide +kernel
theorem dL_law_265 : decode cL_law 265 = .ok (.iload_n 3, 1) := by decide +kernel
theorem dL_law_266 : decode cL_law 266 = .ok (.iconst 1, 1) := by decide +kernel
theorem dL_law_267 : decode cL_law 267 = .ok (.iadd, 1) := by decide +kernel
theorem dL_law_268 : decode cL_law 268 = .ok (.iaload, 1) := by decide +kernel
theorem dL_law_269 : decode cL_law 269 = .ok (.invokevirtual 27, 3) := by decide +kernel
theorem dL_law_272 : decode cL_law 272 = .ok (.if_icmp .eq 868, 3) := by decide +kernel
theorem dL_law_275 : decode cL_law 275 = .ok (.iconst 0, 1) := by decide +kernel
theorem dL_law_276 : decode cL_law 276 = .ok (.ireturn, 1) := by decide +kernel
theorem dL_law_277 : decode cL_law 277 = .ok (.aload_n 1, 1) := by decide +kernel
theorem dL_law_278 : decode cL_law 278 = .ok (.aload_n 0, 1) := by decide +kernel
theorem dL_law_279 : decode cL_law 279 = .ok (.iload_n 3, 1) := by decide +kernel
theorem dL_law_280 : decode cL_law 280 = .ok (.iconst 1, 1) := by decide +kernel
theorem dL_law_281 : decode cL_law 281 = .ok (.iadd, 1) := by decide +kernel
theorem dL_law_282 : decode cL_law 282 = .ok (.iaload, 1) := by decide +kernel
theorem dL_law_283 : decode cL_law 283 = .ok (.aload_n 0, 1) := by decide +kernel
theorem dL_law_284 : decode cL_law 284 = .ok (.iload_n 3, 1) := by decide +kernel
theorem dL_law_285 : decode cL_law 285 = .ok (.iconst 2, 1) := by decide +kernel
theorem dL_law_286 : decode cL_law 286 = .ok (.iadd, 1) := by decide +kernel
theorem dL_law_287 : decode cL_law 287 = .ok (.iaload, 1) := by decide +kernel
theorem dL_law_288 : decode cL_law 288 = .ok (.invokevirtual 28, 3) := by decide +kernel
theorem dL_law_291 : decode cL_law 291 = .ok (.aload_n 2, 1) := by decide +kernel
theorem dL_law_292 : decode cL_law 292 = .ok (.aload_n 0, 1) := by decide +kernel
theorem dL_law_293 : decode cL_law 293 = .ok (.iload_n 3, 1) := by decide +kernel
theorem dL_law_294 : decode cL_law 294 = .ok (.iconst 1, 1) := by decide +kernel
theorem dL_law_295 : decode cL_law 295 = .ok (.iadd, 1) := by decide +kernel
theorem dL_law_296 : decode cL_law 296 = .ok (.iaload, 1) := by decide +kernel
theorem dL_law_297 : decode cL_law 297 = .ok (.aload_n 0, 1) := by decide +kernel
theorem dL_law_298 : decode cL_law 298 = .ok (.iload_n 3, 1) := by decide +kernel
theorem dL_law_299 : decode cL_law 299 = .ok (.iconst 2, 1) := by decide +kernel
theorem dL_law_300 : decode cL_law 300 = .ok (.iadd, 1) := by decide +kernel
theorem dL_law_301 : decode cL_law 301 = .ok (.iaload, 1) := by decide +kernel
theorem dL_law_302 : decode cL_law 302 = .ok (.invokevirtual 31, 3) := by decide +kernel
theorem dL_law_305 : decode cL_law 305 = .ok (.if_icmp .eq 835, 3) := by decide +kernel
theorem dL_law_308 : decode cL_law 308 = .ok (.iconst 0, 1) := by decide +kernel
theorem dL_law_309 : decode cL_law 309 = .ok (.ireturn, 1) := by decide +kernel
theorem dL_law_310 : decode cL_law 310 = .ok (.aload_n 1, 1) := by decide +kernel
theorem dL_law_311 : decode cL_law 311 = .ok (.aload_n 0, 1) := by decide +kernel
theorem dL_law_312 : decode cL_law 312 = .ok (.iload_n 3, 1) := by decide +kernel
theorem dL_law_313 : decode cL_law 313 = .ok (.iconst 1, 1) := by decide +kernel
theorem dL_law_314 : decode cL_law 314 = .ok (.iadd, 1) := by decide +kernel
theorem dL_law_315 : decode cL_law 315 = .ok (.iaload, 1) := by decide +kernel
theorem dL_law_316 : decode cL_law 316 = .ok (.invokevirtual 32, 3) := by decide +kernel
theorem dL_law_319 : decode cL_law 319 = .ok (.aload_n 2, 1) := by decide +kernel
theorem dL_law_320 : decode cL_law 320 = .ok (.aload_n 0, 1) := by decide +kernel
theorem dL_law_321 : decode cL_law 321 = .ok (.iload_n 3, 1) := by decide +kernel
theorem dL_law_322 : decode cL_law 322 = .ok (.iconst 1, 1) := by decide +kernel
theorem dL_law_323 : decode cL_law 323 = .ok (.iadd, 1) := by decide +kernel
theorem dL_law_324 : decode cL_law 324 = .ok (.iaload, 1) := by decide +kernel
theorem dL_law_325 : decode cL_law 325 = .ok (.invokevirtual 35, 3) := by decide +kernel
theorem dL_law_328 : decode cL_law 328 = .ok (.if_icmp .eq 812, 3) := by decide +kernel
theorem dL_law_331 : decode cL_law 331 = .ok (.iconst 0, 1) := by decide +kernel
theorem dL_law_332 : decode cL_law 332 = .ok (.ireturn, 1) := by decide +kernel
theorem dL_law_333 : decode cL_law 333 = .ok (.aload_n 1, 1) := by decide +kernel
theorem dL_law_334 : decode cL_law 334 = .ok (.aload_n 0, 1) := by decide +kernel
theorem dL_law_335 : decode cL_law 335 = .ok (.iload_n 3, 1) := by decide +kernel
theorem dL_law_336 : decode cL_law 336 = .ok (.iconst 1, 1) := by decide +kernel
theorem dL_law_337 : decode cL_law 337 = .ok (.iadd, 1) := by decide +kernel
theorem dL_law_338 : decode cL_law 338 = .ok (.iaload, 1) := by decide +kernel
theorem dL_law_339 : decode cL_law 339 = .ok (.aload_n 0, 1) := by decide +kernel
theorem dL_law_340 : decode cL_law 340 = .ok (.iload_n 3, 1) := by decide +kernel
theorem dL_law_341 : decode cL_law 341 = .ok (.iconst 2, 1) := by decide +kernel
theorem dL_law_342 : decode cL_law 342 = .ok (.iadd, 1) := by decide +kernel
theorem dL_law_343 : decode cL_law 343 = .ok (.iaload, 1) := by decide +kernel
theorem dL_law_344 : decode cL_law 344 = .ok (.invokevirtual 36, 3) := by decide +kernel
theorem dL_law_347 : decode cL_law 347 = .ok (.aload_n 2, 1) := by decide +kernel
theorem dL_law_348 : decode cL_law 348 = .ok (.aload_n 0, 1) := by decide +kernel
theorem dL_law_349 : decode cL_law 349 = .ok (.iload_n 3, 1) := by decide +kernel
theorem dL_law_350 : decode cL_law 350 = .ok (.iconst 1, 1) := by decide +kernel
theorem dL_law_351 : decode cL_law 351 = .ok (.iadd, 1) := by decide +kernel
theorem dL_law_352 : decode cL_law 352 = .ok (.iaload, 1) := by decide +kernel
theorem dL_law_353 : decode cL_law 353 = .ok (.aload_n 0, 1) := by decide +kernel
theorem dL_law_354 : decode cL_law 354 = .ok (.iload_n 3, 1) := by decide +kernel
theorem dL_law_355 : decode cL_law 355 = .ok (.iconst 2, 1) := by decide +kernel
theorem dL_law_356 : decode cL_law 356 = .ok (.iadd, 1) := by decide +kernel
theorem dL_law_357 : decode cL_law 357 = .ok (.iaload, 1) := by decide +kernel
theorem dL_law_358 : decode cL_law 358 = .ok (.invokevirtual 39, 3) := by decide +kernel
theorem dL_law_361 : decode cL_law 361 = .ok (.if_icmp .eq 779, 3) := by decide +kernel
theorem dL_law_364 : decode cL_law 364 = .ok (.iconst 0, 1) := by decide +kernel
theorem dL_law_365 : decode cL_law 365 = .ok (.ireturn, 1) := by decide +kernel
theorem dL_law_366 : decode cL_law 366 = .ok (.aload_n 1, 1) := by decide +kernel
theorem dL_law_367 : decode cL_law 367 = .ok (.aload_n 0, 1) := by decide +kernel
theorem dL_law_368 : decode cL_law 368 = .ok (.iload_n 3, 1) := by decide +kernel
theorem dL_law_369 : decode cL_law 369 = .ok (.iconst 1, 1) := by decide +kernel
theorem dL_law_370 : decode cL_law 370 = .ok (.iadd, 1) := by decide +kernel
theorem dL_law_371 : decode cL_law 371 = .ok (.iaload, 1) := by decide +kernel
theorem dL_law_372 : decode cL_law 372 = .ok (.aload_n 0, 1) := by decide +kernel
theorem dL_law_373 : decode cL_law 373 = .ok (.iload_n 3, 1) := by decide +kernel
theorem dL_law_374 : decode cL_law 374 = .ok (.iconst 2, 1) := by decide +kernel
theorem dL_law_375 : decode cL_law 375 = .ok (.iadd, 1) := by decide +kernel
theorem dL_law_376 : decode cL_law 376 = .ok (.iaload, 1) := by decide +kernel
theorem dL_law_377 : decode cL_law 377 = .ok (.invokevirtual 40, 3) := by decide +kernel
theorem dL_law_380 : decode cL_law 380 = .ok (.aload_n 2, 1) := by decide +kernel
theorem dL_law_381 : decode cL_law 381 = .ok (.aload_n 0, 1) := by decide +kernel
theorem dL_law_382 : decode cL_law 382 = .ok (.iload_n 3, 1) := by decide +kernel
theorem dL_law_383 : decode cL_law 383 = .ok (.iconst 1, 1) := by decide +kernel
theorem dL_law_384 : decode cL_law 384 = .ok (.iadd, 1) := by decide +kernel
theorem dL_law_385 : decode cL_law 385 = .ok (.iaload, 1) := by decide +kernel
theorem dL_law_386 : decode cL_law 386 = .ok (.aload_n 0, 1) := by decide +kernel
theorem dL_law_387 : decode cL_law 387 = .ok (.iload_n 3, 1) := by decide +kernel
theorem dL_law_388 : decode cL_law 388 = .ok (.iconst 2, 1) := by decide +kernel
theorem dL_law_389 : decode cL_law 389 = .ok (.iadd, 1) := by decide +kernel
theorem dL_law_390 : decode cL_law 390 = .ok (.iaload, 1) := by decide +kernel
theorem dL_law_391 : decode cL_law 391 = .ok (.invokevirtual 43, 3) := by decide +kernel
theorem dL_law_394 : decode cL_law 394 = .ok (.if_icmp .eq 746, 3) := by decide +kernel
theorem dL_law_397 : decode cL_law 397 = .ok (.iconst 0, 1) := by decide +kernel
theorem dL_law_398 : decode cL_law 398 = .ok (.ireturn, 1) := by decide +kernel
theorem dL_law_399 : decode cL_law 399 = .ok (.aload_n 1, 1) := by decide +kernel
theorem dL_law_400 : decode cL_law 400 = .ok (.aload_n 0, 1) := by decide +kernel
theorem dL_law_401 : decode cL_law 401 = .ok (.iload_n 3, 1) := by decide +kernel
theorem dL_law_402 : decode cL_law 402 = .ok (.iconst 1, 1) := by decide +kernel
theorem dL_law_403 : decode cL_law 403 = .ok (.iadd, 1) := by decide +kernel
theorem dL_law_404 : decode cL_law 404 = .ok (.iaload, 1) := by decide +kernel
theorem dL_law_405 : decode cL_law 405 = .ok (.aload_n 0, 1) := by decide +kernel
theorem dL_law_406 : decode cL_law 406 = .ok (.iload_n 3, 1) := by decide +kernel
theorem dL_law_407 : decode cL_law 407 = .ok (.iconst 2, 1) := by decide +kernel
theorem dL_law_408 : decode cL_law 408 = .ok (.iadd, 1) := by decide +kernel
theorem dL_law_409 : decode cL_law 409 = .ok (.iaload, 1) := by decide +kernel
theorem dL_law_410 : decode cL_law 410 = .ok (.invokevirtual 44, 3) := by decide +kernel
theorem dL_law_413 : decode cL_law 413 = .ok (.aload_n 2, 1) := by decide +kernel
theorem dL_law_414 : decode cL_law 414 = .ok (.aload_n 0, 1) := by decide +kernel
theorem dL_law_415 : decode cL_law 415 = .ok (.iload_n 3, 1) := by decide +kernel
theorem dL_law_416 : decode cL_law 416 = .ok (.iconst 1, 1) := by decide +kernel
theorem dL_law_417 : decode cL_law 417 = .ok (.iadd, 1) := by decide +kernel
theorem dL_law_418 : decode cL_law 418 = .ok (.iaload, 1) := by decide +kernel
theorem dL_law_419 : decode cL_law 419 = .ok (.aload_n 0, 1) := by decide +kernel
theorem dL_law_420 : decode cL_law 420 = .ok (.iload_n 3, 1) := by decide +kernel
theorem dL_law_421 : decode cL_law 421 = .ok (.iconst 2, 1) := by decide +kernel
theorem dL_law_422 : decode cL_law 422 = .ok (.iadd, 1) := by decide +kernel
theorem dL_law_423 : decode cL_law 423 = .ok (.iaload, 1) := by decide +kernel
theorem dL_law_424 : decode cL_law 424 = .ok (.invokevirtual 47, 3) := by decide +kernel
theorem dL_law_427 : decode cL_law 427 = .ok (.if_icmp .eq 713, 3) := by decide +kernel
theorem dL_law_430 : decode cL_law 430 = .ok (.iconst 0, 1) := by decide +kernel
theorem dL_law_431 : decode cL_law 431 = .ok (.ireturn, 1) := by decide +kernel
theorem dL_law_432 : decode cL_law 432 = .ok (.aload_n 1, 1) := by decide +kernel
theorem dL_law_433 : decode cL_law 433 = .ok (.aload_n 0, 1) := by decide +kernel
theorem dL_law_434 : decode cL_law 434 = .ok (.iload_n 3, 1) := by decide +kernel
theorem dL_law_435 : decode cL_law 435 = .ok (.iconst 1, 1) := by decide +kernel
theorem dL_law_436 : decode cL_law 436 = .ok (.iadd, 1) := by decide +kernel
theorem dL_law_437 : decode cL_law 437 = .ok (.iaload, 1) := by decide +kernel
theorem dL_law_438 : decode cL_law 438 = .ok (.aload_n 0, 1) := by decide +kernel
theorem dL_law_439 : decode cL_law 439 = .ok (.iload_n 3, 1) := by decide +kernel
theorem dL_law_440 : decode cL_law 440 = .ok (.iconst 2, 1) := by decide +kernel
theorem dL_law_441 : decode cL_law 441 = .ok (.iadd, 1) := by decide +kernel
theorem dL_law_442 : decode cL_law 442 = .ok (.iaload, 1) := by decide +kernel
theorem dL_law_443 : decode cL_law 443 = .ok (.aload_n 0, 1) := by decide +kernel
theorem dL_law_444 : decode cL_law 444 = .ok (.iload_n 3, 1) := by decide +kernel
theorem dL_law_445 : decode cL_law 445 = .ok (.iconst 3, 1) := by decide +kernel
theorem dL_law_446 : decode cL_law 446 = .ok (.iadd, 1) := by decide +kernel
theorem dL_law_447 : decode cL_law 447 = .ok (.iaload, 1) := by decide +kernel
theorem dL_law_448 : decode cL_law 448 = .ok (.aload_n 0, 1) := by decide +kernel
theorem dL_law_449 : decode cL_law 449 = .ok (.iload_n 3, 1) := by decide +kernel
theorem dL_law_450 : decode cL_law 450 = .ok (.iconst 4, 1) := by decide +kernel
theorem dL_law_451 : decode cL_law 451 = .ok (.iadd, 1) := by decide +kernel
theorem dL_law_452 : decode cL_law 452 = .ok (.iaload, 1) := by decide +kernel
theorem dL_law_453 : decode cL_law 453 = .ok (.aload_n 0, 1) := by decide +kernel
theorem dL_law_454 : decode cL_law 454 = .ok (.iload_n 3, 1) := by decide +kernel
theorem dL_law_455 : decode cL_law 455 = .ok (.iconst 5, 1) := by decide +kernel
theorem dL_law_456 : decode cL_law 456 = .ok (.iadd, 1) := by decide +kernel
theorem dL_law_457 : decode cL_law 457 = .ok (.iaload, 1) := by decide +kernel
theorem dL_law_458 : decode cL_law 458 = .ok (.invokevirtual 48, 3) := by decide +kernel
theorem dL_law_461 : decode cL_law 461 = .ok (.aload_n 2, 1) := by decide +kernel
theorem dL_law_462 : decode cL_law 462 = .ok (.aload_n 0, 1) := by decide +kernel
theorem dL_law_463 : decode cL_law 463 = .ok (.iload_n 3, 1) := by decide +kernel
theorem dL_law_464 : decode cL_law 464 = .ok (.iconst 1, 1) := by decide +kernel
theorem dL_law_465 : decode cL_law 465 = .ok (.iadd, 1) := by decide +kernel
theorem dL_law_466 : decode cL_law 466 = .ok (.iaload, 1) := by decide +kernel
theorem dL_law_467 : decode cL_law 467 = .ok (.aload_n 0, 1) := by decide +kernel
theorem dL_law_468 : decode cL_law 468 = .ok (.iload_n 3, 1) := by decide +kernel
theorem dL_law_469 : decode cL_law 469 = .ok (.iconst 2, 1) := by decide +kernel
theorem dL_law_470 : decode cL_law 470 = .ok (.iadd, 1) := by decide +kernel
theorem dL_law_471 : decode cL_law 471 = .ok (.iaload, 1) := by decide +kernel
theorem dL_law_472 : decode cL_law 472 = .ok (.aload_n 0, 1) := by decide +kernel
theorem dL_law_473 : decode cL_law 473 = .ok (.iload_n 3, 1) := by decide +kernel
theorem dL_law_474 : decode cL_law 474 = .ok (.iconst 3, 1) := by decide +kernel
theorem dL_law_475 : decode cL_law 475 = .ok (.iadd, 1) := by decide +kernel
theorem dL_law_476 : decode cL_law 476 = .ok (.iaload, 1) := by decide +kernel
theorem dL_law_477 : decode cL_law 477 = .ok (.aload_n 0, 1) := by decide +kernel
theorem dL_law_478 : decode cL_law 478 = .ok (.iload_n 3, 1) := by decide +kernel
theorem dL_law_479 : decode cL_law 479 = .ok (.iconst 4, 1) := by decide +kernel
theorem dL_law_480 : decode cL_law 480 = .ok (.iadd, 1) := by decide +kernel
theorem dL_law_481 : decode cL_law 481 = .ok (.iaload, 1) := by decide +kernel
theorem dL_law_482 : decode cL_law 482 = .ok (.aload_n 0, 1) := by decide +kernel
theorem dL_law_483 : decode cL_law 483 = .ok (.iload_n 3, 1) := by decide +kernel
theorem dL_law_484 : decode cL_law 484 = .ok (.iconst 5, 1) := by decide +kernel
theorem dL_law_485 : decode cL_law 485 = .ok (.iadd, 1) := by decide +kernel
theorem dL_law_486 : decode cL_law 486 = .ok (.iaload, 1) := by decide +kernel
theorem dL_law_487 : decode cL_law 487 = .ok (.invokevirtual 52, 3) := by decide +kernel
theorem dL_law_490 : decode cL_law 490 = .ok (.if_icmp .eq 650, 3) := by decide +kernel
theorem dL_law_493 : decode cL_law 493 = .ok (.iconst 0, 1) := by decide +kernel
theorem dL_law_494 : decode cL_law 494 = .ok (.ireturn, 1) := by decide +kernel
theorem dL_law_495 : decode cL_law 495 = .ok (.aload_n 1, 1) := by decide +kernel
theorem dL_law_496 : decode cL_law 496 = .ok (.aload_n 0, 1) := by decide +kernel
theorem dL_law_497 : decode cL_law 497 = .ok (.iload_n 3, 1) := by decide +kernel
theorem dL_law_498 : decode cL_law 498 = .ok (.iconst 1, 1) := by decide +kernel
theorem dL_law_499 : decode cL_law 499 = .ok (.iadd, 1) := by decide +kernel
theorem dL_law_500 : decode cL_law 500 = .ok (.iaload, 1) := by decide +kernel
theorem dL_law_501 : decode cL_law 501 = .ok (.aload_n 0, 1) := by decide +kernel
theorem dL_law_502 : decode cL_law 502 = .ok (.iload_n 3, 1) := by decide +kernel
theorem dL_law_503 : decode cL_law 503 = .ok (.iconst 2, 1) := by decide +kernel
theorem dL_law_504 : decode cL_law 504 = .ok (.iadd, 1) := by decide +kernel
theorem dL_law_505 : decode cL_law 505 = .ok (.iaload, 1) := by decide +kernel
theorem dL_law_506 : decode cL_law 506 = .ok (.invokevirtual 53, 3) := by decide +kernel
theorem dL_law_509 : decode cL_law 509 = .ok (.aload_n 2, 1) := by decide +kernel
theorem dL_law_510 : decode cL_law 510 = .ok (.aload_n 0, 1) := by decide +kernel
theorem dL_law_511 : decode cL_law 511 = .ok (.iload_n 3, 1) := by decide +kernel
theorem dL_law_512 : decode cL_law 512 = .ok (.iconst 1, 1) := by decide +kernel
theorem dL_law_513 : decode cL_law 513 = .ok (.iadd, 1) := by decide +kernel
theorem dL_law_514 : decode cL_law 514 = .ok (.iaload, 1) := by decide +kernel
theorem dL_law_515 : decode cL_law 515 = .ok (.aload_n 0, 1) := by decide +kernel
theorem dL_law_516 : decode cL_law 516 = .ok (.iload_n 3, 1) := by decide +kernel
theorem dL_law_517 : decode cL_law 517 = .ok (.iconst 2, 1) := by decide +kernel
theorem dL_law_518 : decode cL_law 518 = .ok (.iadd, 1) := by decide +kernel
theorem dL_law_519 : decode cL_law 519 = .ok (.iaload, 1) := by decide +kernel
theorem dL_law_520 : decode cL_law 520 = .ok (.invokevirtual 56, 3) := by decide +kernel
theorem dL_law_523 : decode cL_law 523 = .ok (.if_icmp .eq 617, 3) := by decide +kernel
theorem dL_law_526 : decode cL_law 526 = .ok (.iconst 0, 1) := by decide +kernel
theorem dL_law_527 : decode cL_law 527 = .ok (.ireturn, 1) := by decide +kernel
theorem dL_law_528 : decode cL_law 528 = .ok (.aload_n 1, 1) := by decide +kernel
theorem dL_law_529 : decode cL_law 529 = .ok (.aload_n 0, 1) := by decide +kernel
theorem dL_law_530 : decode cL_law 530 = .ok (.iload_n 3, 1) := by decide +kernel
theorem dL_law_531 : decode cL_law 531 = .ok (.iconst 1, 1) := by decide +kernel
theorem dL_law_532 : decode cL_law 532 = .ok (.iadd, 1) := by decide +kernel
theorem dL_law_533 : decode cL_law 533 = .ok (.iaload, 1) := by decide +kernel
theorem dL_law_534 : decode cL_law 534 = .ok (.invokevirtual 57, 3) := by decide +kernel
theorem dL_law_537 : decode cL_law 537 = .ok (.aload_n 2, 1) := by decide +kernel
theorem dL_law_538 : decode cL_law 538 = .ok (.aload_n 0, 1) := by decide +kernel
theorem dL_law_539 : decode cL_law 539 = .ok (.iload_n 3, 1) := by decide +kernel
theorem dL_law_540 : decode cL_law 540 = .ok (.iconst 1, 1) := by decide +kernel
theorem dL_law_541 : decode cL_law 541 = .ok (.iadd, 1) := by decide +kernel
theorem dL_law_542 : decode cL_law 542 = .ok (.iaload, 1) := by decide +kernel
theorem dL_law_543 : decode cL_law 543 = .ok (.invokevirtual 60, 3) := by decide +kernel
theorem dL_law_546 : decode cL_law 546 = .ok (.if_icmp .eq 594, 3) := by decide +kernel
theorem dL_law_549 : decode cL_law 549 = .ok (.iconst 0, 1) := by decide +kernel
theorem dL_law_550 : decode cL_law 550 = .ok (.ireturn, 1) := by decide +kernel
theorem dL_law_551 : decode cL_law 551 = .ok (.aload_n 1, 1) := by decide +kernel
theorem dL_law_552 : decode cL_law 552 = .ok (.aload_n 0, 1) := by decide +kernel
theorem dL_law_553 : decode cL_law 553 = .ok (.iload_n 3, 1) := by decide +kernel
theorem dL_law_554 : decode cL_law 554 = .ok (.iconst 1, 1) := by decide +kernel
theorem dL_law_555 : decode cL_law 555 = .ok (.iadd, 1) := by decide +kernel
theorem dL_law_556 : decode cL_law 556 = .ok (.iaload, 1) := by decide +kernel
theorem dL_law_557 : decode cL_law 557 = .ok (.aload_n 0, 1) := by decide +kernel
theorem dL_law_558 : decode cL_law 558 = .ok (.iload_n 3, 1) := by decide +kernel
theorem dL_law_559 : decode cL_law 559 = .ok (.iconst 2, 1) := by decide +kernel
theorem dL_law_560 : decode cL_law 560 = .ok (.iadd, 1) := by decide +kernel
theorem dL_law_561 : decode cL_law 561 = .ok (.iaload, 1) := by decide +kernel
theorem dL_law_562 : decode cL_law 562 = .ok (.aload_n 0, 1) := by decide +kernel
theorem dL_law_563 : decode cL_law 563 = .ok (.iload_n 3, 1) := by decide +kernel
theorem dL_law_564 : decode cL_law 564 = .ok (.iconst 3, 1) := by decide +kernel
theorem dL_law_565 : decode cL_law 565 = .ok (.iadd, 1) := by decide +kernel
theorem dL_law_566 : decode cL_law 566 = .ok (.iaload, 1) := by decide +kernel
theorem dL_law_567 : decode cL_law 567 = .ok (.invokevirtual 61, 3) := by decide +kernel
theorem dL_law_570 : decode cL_law 570 = .ok (.aload_n 2, 1) := by decide +kernel
theorem dL_law_571 : decode cL_law 571 = .ok (.aload_n 0, 1) := by decide +kernel
theorem dL_law_572 : decode cL_law 572 = .ok (.iload_n 3, 1) := by decide +kernel
theorem dL_law_573 : decode cL_law 573 = .ok (.iconst 1, 1) := by decide +kernel
theorem dL_law_574 : decode cL_law 574 = .ok (.iadd, 1) := by decide +kernel
theorem dL_law_575 : decode cL_law 575 = .ok (.iaload, 1) := by decide +kernel
theorem dL_law_576 : decode cL_law 576 = .ok (.aload_n 0, 1) := by decide +kernel
theorem dL_law_577 : decode cL_law 577 = .ok (.iload_n 3, 1) := by decide +kernel
theorem dL_law_578 : decode cL_law 578 = .ok (.iconst 2, 1) := by decide +kernel
theorem dL_law_579 : decode cL_law 579 = .ok (.iadd, 1) := by decide +kernel
theorem dL_law_580 : decode cL_law 580 = .ok (.iaload, 1) := by decide +kernel
theorem dL_law_581 : decode cL_law 581 = .ok (.aload_n 0, 1) := by decide +kernel
theorem dL_law_582 : decode cL_law 582 = .ok (.iload_n 3, 1) := by decide +kernel
theorem dL_law_583 : decode cL_law 583 = .ok (.iconst 3, 1) := by decide +kernel
theorem dL_law_584 : decode cL_law 584 = .ok (.iadd, 1) := by decide +kernel
theorem dL_law_585 : decode cL_law 585 = .ok (.iaload, 1) := by decide +kernel
theorem dL_law_586 : decode cL_law 586 = .ok (.invokevirtual 65, 3) := by decide +kernel
theorem dL_law_589 : decode cL_law 589 = .ok (.if_icmp .eq 551, 3) := by decide +kernel
theorem dL_law_592 : decode cL_law 592 = .ok (.iconst 0, 1) := by decide +kernel
theorem dL_law_593 : decode cL_law 593 = .ok (.ireturn, 1) := by decide +kernel
theorem dL_law_594 : decode cL_law 594 = .ok (.aload_n 1, 1) := by decide +kernel
theorem dL_law_595 : decode cL_law 595 = .ok (.invokevirtual 66, 3) := by decide +kernel
theorem dL_law_598 : decode cL_law 598 = .ok (.aload_n 2, 1) := by decide +kernel
theorem dL_law_599 : decode cL_law 599 = .ok (.invokevirtual 70, 3) := by decide +kernel
theorem dL_law_602 : decode cL_law 602 = .ok (.if_icmp .eq 538, 3) := by decide +kernel
theorem dL_law_605 : decode cL_law 605 = .ok (.iconst 0, 1) := by decide +kernel
theorem dL_law_606 : decode cL_law 606 = .ok (.ireturn, 1) := by decide +kernel
theorem dL_law_607 : decode cL_law 607 = .ok (.aload_n 1, 1) := by decide +kernel
theorem dL_law_608 : decode cL_law 608 = .ok (.aload_n 0, 1) := by decide +kernel
theorem dL_law_609 : decode cL_law 609 = .ok (.iload_n 3, 1) := by decide +kernel
theorem dL_law_610 : decode cL_law 610 = .ok (.iconst 1, 1) := by decide +kernel
theorem dL_law_611 : decode cL_law 611 = .ok (.iadd, 1) := by decide +kernel
theorem dL_law_612 : decode cL_law 612 = .ok (.iaload, 1) := by decide +kernel
theorem dL_law_613 : decode cL_law 613 = .ok (.aload_n 0, 1) := by decide +kernel
theorem dL_law_614 : decode cL_law 614 = .ok (.iload_n 3, 1) := by decide +kernel
theorem dL_law_615 : decode cL_law 615 = .ok (.iconst 2, 1) := by decide +kernel
theorem dL_law_616 : decode cL_law 616 = .ok (.iadd, 1) := by decide +kernel
theorem dL_law_617 : decode cL_law 617 = .ok (.iaload, 1) := by decide +kernel
theorem dL_law_618 : decode cL_law 618 = .ok (.aload_n 0, 1) := by decide +kernel
theorem dL_law_619 : decode cL_law 619 = .ok (.iload_n 3, 1) := by decide +kernel
theorem dL_law_620 : decode cL_law 620 = .ok (.iconst 3, 1) := by decide +kernel
theorem dL_law_621 : decode cL_law 621 = .ok (.iadd, 1) := by decide +kernel
theorem dL_law_622 : decode cL_law 622 = .ok (.iaload, 1) := by decide +kernel
theorem dL_law_623 : decode cL_law 623 = .ok (.invokevirtual 71, 3) := by decide +kernel
theorem dL_law_626 : decode cL_law 626 = .ok (.aload_n 2, 1) := by decide +kernel
theorem dL_law_627 : decode cL_law 627 = .ok (.aload_n 0, 1) := by decide +kernel
theorem dL_law_628 : decode cL_law 628 = .ok (.iload_n 3, 1) := by decide +kernel
theorem dL_law_629 : decode cL_law 629 = .ok (.iconst 1, 1) := by decide +kernel
theorem dL_law_630 : decode cL_law 630 = .ok (.iadd, 1) := by decide +kernel
theorem dL_law_631 : decode cL_law 631 = .ok (.iaload, 1) := by decide +kernel
theorem dL_law_632 : decode cL_law 632 = .ok (.aload_n 0, 1) := by decide +kernel
theorem dL_law_633 : decode cL_law 633 = .ok (.iload_n 3, 1) := by decide +kernel
theorem dL_law_634 : decode cL_law 634 = .ok (.iconst 2, 1) := by decide +kernel
theorem dL_law_635 : decode cL_law 635 = .ok (.iadd, 1) := by decide +kernel
theorem dL_law_636 : decode cL_law 636 = .ok (.iaload, 1) := by decide +kernel
theorem dL_law_637 : decode cL_law 637 = .ok (.aload_n 0, 1) := by decide +kernel
theorem dL_law_638 : decode cL_law 638 = .ok (.iload_n 3, 1) := by decide +kernel
theorem dL_law_639 : decode cL_law 639 = .ok (.iconst 3, 1) := by decide +kernel
theorem dL_law_640 : decode cL_law 640 = .ok (.iadd, 1) := by decide +kernel
theorem dL_law_641 : decode cL_law 641 = .ok (.iaload, 1) := by decide +kernel
theorem dL_law_642 : decode cL_law 642 = .ok (.invokevirtual 74, 3) := by decide +kernel
theorem dL_law_645 : decode cL_law 645 = .ok (.if_icmp .eq 495, 3) := by decide +kernel
theorem dL_law_648 : decode cL_law 648 = .ok (.iconst 0, 1) := by decide +kernel
theorem dL_law_649 : decode cL_law 649 = .ok (.ireturn, 1) := by decide +kernel
theorem dL_law_650 : decode cL_law 650 = .ok (.aload_n 1, 1) := by decide +kernel
theorem dL_law_651 : decode cL_law 651 = .ok (.aload_n 0, 1) := by decide +kernel
theorem dL_law_652 : decode cL_law 652 = .ok (.iload_n 3, 1) := by decide +kernel
theorem dL_law_653 : decode cL_law 653 = .ok (.iconst 1, 1) := by decide +kernel
theorem dL_law_654 : decode cL_law 654 = .ok (.iadd, 1) := by decide +kernel
theorem dL_law_655 : decode cL_law 655 = .ok (.iaload, 1) := by decide +kernel
theorem dL_law_656 : decode cL_law 656 = .ok (.invokevirtual 75, 3) := by decide +kernel
theorem dL_law_659 : decode cL_law 659 = .ok (.aload_n 2, 1) := by decide +kernel
theorem dL_law_660 : decode cL_law 660 = .ok (.aload_n 0, 1) := by decide +kernel
theorem dL_law_661 : decode cL_law 661 = .ok (.iload_n 3, 1) := by decide +kernel
theorem dL_law_662 : decode cL_law 662 = .ok (.iconst 1, 1) := by decide +kernel
theorem dL_law_663 : decode cL_law 663 = .ok (.iadd, 1) := by decide +kernel
theorem dL_law_664 : decode cL_law 664 = .ok (.iaload, 1) := by decide +kernel
theorem dL_law_665 : decode cL_law 665 = .ok (.invokevirtual 78, 3) := by decide +kernel
theorem dL_law_668 : decode cL_law 668 = .ok (.if_icmp .eq 472, 3) := by decide +kernel
theorem dL_law_671 : decode cL_law 671 = .ok (.iconst 0, 1) := by decide +kernel
theorem dL_law_672 : decode cL_law 672 = .ok (.ireturn, 1) := by decide +kernel
theorem dL_law_673 : decode cL_law 673 = .ok (.aload_n 1, 1) := by decide +kernel
theorem dL_law_674 : decode cL_law 674 = .ok (.aload_n 0, 1) := by decide +kernel
theorem dL_law_675 : decode cL_law 675 = .ok (.iload_n 3, 1) := by decide +kernel
theorem dL_law_676 : decode cL_law 676 = .ok (.iconst 1, 1) := by decide +kernel
theorem dL_law_677 : decode cL_law 677 = .ok (.iadd, 1) := by decide +kernel
theorem dL_law_678 : decode cL_law 678 = .ok (.iaload, 1) := by decide +kernel
theorem dL_law_679 : decode cL_law 679 = .ok (.invokevirtual 79, 3) := by decide +kernel
theorem dL_law_682 : decode cL_law 682 = .ok (.aload_n 2, 1) := by decide +kernel
theorem dL_law_683 : decode cL_law 683 = .ok (.aload_n 0, 1) := by decide +kernel
theorem dL_law_684 : decode cL_law 684 = .ok (.iload_n 3, 1) := by decide +kernel
theorem dL_law_685 : decode cL_law 685 = .ok (.iconst 1, 1) := by decide +kernel
theorem dL_law_686 : decode cL_law 686 = .ok (.iadd, 1) := by decide +kernel
theorem dL_law_687 : decode cL_law 687 = .ok (.iaload, 1) := by decide +kernel
theorem dL_law_688 : decode cL_law 688 = .ok (.invokevirtual 82, 3) := by decide +kernel
theorem dL_law_691 : decode cL_law 691 = .ok (.if_icmp .eq 449, 3) := by decide +kernel
theorem dL_law_694 : decode cL_law 694 = .ok (.iconst 0, 1) := by decide +kernel
theorem dL_law_695 : decode cL_law 695 = .ok (.ireturn, 1) := by decide +kernel
theorem dL_law_696 : decode cL_law 696 = .ok (.aload_n 1, 1) := by decide +kernel
theorem dL_law_697 : decode cL_law 697 = .ok (.aload_n 0, 1) := by decide +kernel
theorem dL_law_698 : decode cL_law 698 = .ok (.iload_n 3, 1) := by decide +kernel
theorem dL_law_699 : decode cL_law 699 = .ok (.iconst 1, 1) := by decide +kernel
theorem dL_law_700 : decode cL_law 700 = .ok (.iadd, 1) := by decide +kernel
theorem dL_law_701 : decode cL_law 701 = .ok (.iaload, 1) := by decide +kernel
theorem dL_law_702 : decode cL_law 702 = .ok (.invokevirtual 83, 3) := by decide +kernel
theorem dL_law_705 : decode cL_law 705 = .ok (.aload_n 2, 1) := by decide +kernel
theorem dL_law_706 : decode cL_law 706 = .ok (.aload_n 0, 1) := by decide +kernel
theorem dL_law_707 : decode cL_law 707 = .ok (.iload_n 3, 1) := by decide +kernel
theorem dL_law_708 : decode cL_law 708 = .ok (.iconst 1, 1) := by decide +kernel
theorem dL_law_709 : decode cL_law 709 = .ok (.iadd, 1) := by decide +kernel
theorem dL_law_710 : decode cL_law 710 = .ok (.iaload, 1) := by decide +kernel
theorem dL_law_711 : decode cL_law 711 = .ok (.invokevirtual 86, 3) := by decide +kernel
theorem dL_law_714 : decode cL_law 714 = .ok (.if_icmp .eq 426, 3) := by decide +kernel
theorem dL_law_717 : decode cL_law 717 = .ok (.iconst 0, 1) := by decide +kernel
theorem dL_law_718 : decode cL_law 718 = .ok (.ireturn, 1) := by decide +kernel
theorem dL_law_719 : decode cL_law 719 = .ok (.aload_n 1, 1) := by decide +kernel
theorem dL_law_720 : decode cL_law 720 = .ok (.aload_n 0, 1) := by decide +kernel
theorem dL_law_721 : decode cL_law 721 = .ok (.iload_n 3, 1) := by decide +kernel
theorem dL_law_722 : decode cL_law 722 = .ok (.iconst 1, 1) := by decide +kernel
theorem dL_law_723 : decode cL_law 723 = .ok (.iadd, 1) := by decide +kernel
theorem dL_law_724 : decode cL_law 724 = .ok (.iaload, 1) := by decide +kernel
theorem dL_law_725 : decode cL_law 725 = .ok (.aload_n 0, 1) := by decide +kernel
theorem dL_law_726 : decode cL_law 726 = .ok (.iload_n 3, 1) := by decide +kernel
theorem dL_law_727 : decode cL_law 727 = .ok (.iconst 2, 1) := by decide +kernel
theorem dL_law_728 : decode cL_law 728 = .ok (.iadd, 1) := by decide +kernel
theorem dL_law_729 : decode cL_law 729 = .ok (.iaload, 1) := by decide +kernel
theorem dL_law_730 : decode cL_law 730 = .ok (.invokevirtual 87, 3) := by decide +kernel
theorem dL_law_733 : decode cL_law 733 = .ok (.aload_n 2, 1) := by decide +kernel
theorem dL_law_734 : decode cL_law 734 = .ok (.aload_n 0, 1) := by decide +kernel
theorem dL_law_735 : decode cL_law 735 = .ok (.iload_n 3, 1) := by decide +kernel
theorem dL_law_736 : decode cL_law 736 = .ok (.iconst 1, 1) := by decide +kernel
theorem dL_law_737 : decode cL_law 737 = .ok (.iadd, 1) := by decide +kernel
theorem dL_law_738 : decode cL_law 738 = .ok (.iaload, 1) := by decide +kernel
theorem dL_law_739 : decode cL_law 739 = .ok (.aload_n 0, 1) := by decide +kernel
theorem dL_law_740 : decode cL_law 740 = .ok (.iload_n 3, 1) := by decide +kernel
theorem dL_law_741 : decode cL_law 741 = .ok (.iconst 2, 1) := by decide +kernel
theorem dL_law_742 : decode cL_law 742 = .ok (.iadd, 1) := by decide +kernel
theorem dL_law_743 : decode cL_law 743 = .ok (.iaload, 1) := by decide +kernel
theorem dL_law_744 : decode cL_law 744 = .ok (.invokevirtual 90, 3) := by decide +kernel
theorem dL_law_747 : decode cL_law 747 = .ok (.if_icmp .eq 393, 3) := by decide +kernel
theorem dL_law_750 : decode cL_law 750 = .ok (.iconst 0, 1) := by decide +kernel
theorem dL_law_751 : decode cL_law 751 = .ok (.ireturn, 1) := by decide +kernel
theorem dL_law_752 : decode cL_law 752 = .ok (.aload_n 1, 1) := by decide +kernel
theorem dL_law_753 : decode cL_law 753 = .ok (.aload_n 0, 1) := by decide +kernel
theorem dL_law_754 : decode cL_law 754 = .ok (.iload_n 3, 1) := by decide +kernel
theorem dL_law_755 : decode cL_law 755 = .ok (.iconst 1, 1) := by decide +kernel
theorem dL_law_756 : decode cL_law 756 = .ok (.iadd, 1) := by decide +kernel
theorem dL_law_757 : decode cL_law 757 = .ok (.iaload, 1) := by decide +kernel
theorem dL_law_758 : decode cL_law 758 = .ok (.aload_n 0, 1) := by decide +kernel
theorem dL_law_759 : decode cL_law 759 = .ok (.iload_n 3, 1) := by decide +kernel
theorem dL_law_760 : decode cL_law 760 = .ok (.iconst 2, 1) := by decide +kernel
theorem dL_law_761 : decode cL_law 761 = .ok (.iadd, 1) := by decide +kernel
theorem dL_law_762 : decode cL_law 762 = .ok (.iaload, 1) := by decide +kernel
theorem dL_law_763 : decode cL_law 763 = .ok (.aload_n 0, 1) := by decide +kernel
theorem dL_law_764 : decode cL_law 764 = .ok (.iload_n 3, 1) := by decide +kernel
theorem dL_law_765 : decode cL_law 765 = .ok (.iconst 3, 1) := by decide +kernel
theorem dL_law_766 : decode cL_law 766 = .ok (.iadd, 1) := by decide +kernel
theorem dL_law_767 : decode cL_law 767 = .ok (.iaload, 1) := by decide +kernel
theorem dL_law_768 : decode cL_law 768 = .ok (.invokevirtual 91, 3) := by decide +kernel
theorem dL_law_771 : decode cL_law 771 = .ok (.aload_n 2, 1) := by decide +kernel
theorem dL_law_772 : decode cL_law 772 = .ok (.aload_n 0, 1) := by decide +kernel
theorem dL_law_773 : decode cL_law 773 = .ok (.iload_n 3, 1) := by decide +kernel
theorem dL_law_774 : decode cL_law 774 = .ok (.iconst 1, 1) := by decide +kernel
theorem dL_law_775 : decode cL_law 775 = .ok (.iadd, 1) := by decide +kernel
theorem dL_law_776 : decode cL_law 776 = .ok (.iaload, 1) := by decide +kernel
theorem dL_law_777 : decode cL_law 777 = .ok (.aload_n 0, 1) := by decide +kernel
theorem dL_law_778 : decode cL_law 778 = .ok (.iload_n 3, 1) := by decide +kernel
theorem dL_law_779 : decode cL_law 779 = .ok (.iconst 2, 1) := by decide +kernel
theorem dL_law_780 : decode cL_law 780 = .ok (.iadd, 1) := by decide +kernel
theorem dL_law_781 : decode cL_law 781 = .ok (.iaload, 1) := by decide +kernel
theorem dL_law_782 : decode cL_law 782 = .ok (.aload_n 0, 1) := by decide +kernel
theorem dL_law_783 : decode cL_law 783 = .ok (.iload_n 3, 1) := by decide +kernel
theorem dL_law_784 : decode cL_law 784 = .ok (.iconst 3, 1) := by decide +kernel
theorem dL_law_785 : decode cL_law 785 = .ok (.iadd, 1) := by decide +kernel
theorem dL_law_786 : decode cL_law 786 = .ok (.iaload, 1) := by decide +kernel
theorem dL_law_787 : decode cL_law 787 = .ok (.invokevirtual 95, 3) := by decide +kernel
theorem dL_law_790 : decode cL_law 790 = .ok (.lcmp, 1) := by decide +kernel
theorem dL_law_791 : decode cL_law 791 = .ok (.ifCond .eq 349, 3) := by decide +kernel
theorem dL_law_794 : decode cL_law 794 = .ok (.iconst 0, 1) := by decide +kernel
theorem dL_law_795 : decode cL_law 795 = .ok (.ireturn, 1) := by decide +kernel
theorem dL_law_796 : decode cL_law 796 = .ok (.aload_n 1, 1) := by decide +kernel
theorem dL_law_797 : decode cL_law 797 = .ok (.aload_n 0, 1) := by decide +kernel
theorem dL_law_798 : decode cL_law 798 = .ok (.iload_n 3, 1) := by decide +kernel
theorem dL_law_799 : decode cL_law 799 = .ok (.iconst 1, 1) := by decide +kernel
theorem dL_law_800 : decode cL_law 800 = .ok (.iadd, 1) := by decide +kernel
theorem dL_law_801 : decode cL_law 801 = .ok (.iaload, 1) := by decide +kernel
theorem dL_law_802 : decode cL_law 802 = .ok (.aload_n 0, 1) := by decide +kernel
theorem dL_law_803 : decode cL_law 803 = .ok (.iload_n 3, 1) := by decide +kernel
theorem dL_law_804 : decode cL_law 804 = .ok (.iconst 2, 1) := by decide +kernel
theorem dL_law_805 : decode cL_law 805 = .ok (.iadd, 1) := by decide +kernel
theorem dL_law_806 : decode cL_law 806 = .ok (.iaload, 1) := by decide +kernel
theorem dL_law_807 : decode cL_law 807 = .ok (.aload_n 0, 1) := by decide +kernel
theorem dL_law_808 : decode cL_law 808 = .ok (.iload_n 3, 1) := by decide +kernel
theorem dL_law_809 : decode cL_law 809 = .ok (.iconst 3, 1) := by decide +kernel
theorem dL_law_810 : decode cL_law 810 = .ok (.iadd, 1) := by decide +kernel
theorem dL_law_811 : decode cL_law 811 = .ok (.iaload, 1) := by decide +kernel
theorem dL_law_812 : decode cL_law 812 = .ok (.invokevirtual 96, 3) := by decide +kernel
theorem dL_law_815 : decode cL_law 815 = .ok (.aload_n 2, 1) := by decide +kernel
theorem dL_law_816 : decode cL_law 816 = .ok (.aload_n 0, 1) := by decide +kernel
theorem dL_law_817 : decode cL_law 817 = .ok (.iload_n 3, 1) := by decide +kernel
theorem dL_law_818 : decode cL_law 818 = .ok (.iconst 1, 1) := by decide +kernel
theorem dL_law_819 : decode cL_law 819 = .ok (.iadd, 1) := by decide +kernel
theorem dL_law_820 : decode cL_law 820 = .ok (.iaload, 1) := by decide +kernel
theorem dL_law_821 : decode cL_law 821 = .ok (.aload_n 0, 1) := by decide +kernel
theorem dL_law_822 : decode cL_law 822 = .ok (.iload_n 3, 1) := by decide +kernel
theorem dL_law_823 : decode cL_law 823 = .ok (.iconst 2, 1) := by decide +kernel
theorem dL_law_824 : decode cL_law 824 = .ok (.iadd, 1) := by decide +kernel
theorem dL_law_825 : decode cL_law 825 = .ok (.iaload, 1) := by decide +kernel
theorem dL_law_826 : decode cL_law 826 = .ok (.aload_n 0, 1) := by decide +kernel
theorem dL_law_827 : decode cL_law 827 = .ok (.iload_n 3, 1) := by decide +kernel
theorem dL_law_828 : decode cL_law 828 = .ok (.iconst 3, 1) := by decide +kernel
theorem dL_law_829 : decode cL_law 829 = .ok (.iadd, 1) := by decide +kernel
theorem dL_law_830 : decode cL_law 830 = .ok (.iaload, 1) := by decide +kernel
theorem dL_law_831 : decode cL_law 831 = .ok (.invokevirtual 99, 3) := by decide +kernel
theorem dL_law_834 : decode cL_law 834 = .ok (.if_icmp .eq 306, 3) := by decide +kernel
theorem dL_law_837 : decode cL_law 837 = .ok (.iconst 0, 1) := by decide +kernel
theorem dL_law_838 : decode cL_law 838 = .ok (.ireturn, 1) := by decide +kernel
theorem dL_law_839 : decode cL_law 839 = .ok (.aload_n 1, 1) := by decide +kernel
theorem dL_law_840 : decode cL_law 840 = .ok (.aload_n 0, 1) := by decide +kernel
theorem dL_law_841 : decode cL_law 841 = .ok (.iload_n 3, 1) := by decide +kernel
theorem dL_law_842 : decode cL_law 842 = .ok (.iconst 1, 1) := by decide +kernel
theorem dL_law_843 : decode cL_law 843 = .ok (.iadd, 1) := by decide +kernel
theorem dL_law_844 : decode cL_law 844 = .ok (.iaload, 1) := by decide +kernel
theorem dL_law_845 : decode cL_law 845 = .ok (.invokevirtual 100, 3) := by decide +kernel
theorem dL_law_848 : decode cL_law 848 = .ok (.aload_n 2, 1) := by decide +kernel
theorem dL_law_849 : decode cL_law 849 = .ok (.aload_n 0, 1) := by decide +kernel
theorem dL_law_850 : decode cL_law 850 = .ok (.iload_n 3, 1) := by decide +kernel
theorem dL_law_851 : decode cL_law 851 = .ok (.iconst 1, 1) := by decide +kernel
theorem dL_law_852 : decode cL_law 852 = .ok (.iadd, 1) := by decide +kernel
theorem dL_law_853 : decode cL_law 853 = .ok (.iaload, 1) := by decide +kernel
theorem dL_law_854 : decode cL_law 854 = .ok (.invokevirtual 103, 3) := by decide +kernel
theorem dL_law_857 : decode cL_law 857 = .ok (.if_icmp .eq 283, 3) := by decide +kernel
theorem dL_law_860 : decode cL_law 860 = .ok (.iconst 0, 1) := by decide +kernel
theorem dL_law_861 : decode cL_law 861 = .ok (.ireturn, 1) := by decide +kernel
theorem dL_law_862 : decode cL_law 862 = .ok (.aload_n 1, 1) := by decide +kernel
theorem dL_law_863 : decode cL_law 863 = .ok (.aload_n 0, 1) := by decide +kernel
theorem dL_law_864 : decode cL_law 864 = .ok (.iload_n 3, 1) := by decide +kernel
theorem dL_law_865 : decode cL_law 865 = .ok (.iconst 1, 1) := by decide +kernel
theorem dL_law_866 : decode cL_law 866 = .ok (.iadd, 1) := by decide +kernel
theorem dL_law_867 : decode cL_law 867 = .ok (.iaload, 1) := by decide +kernel
theorem dL_law_868 : decode cL_law 868 = .ok (.aload_n 0, 1) := by decide +kernel
theorem dL_law_869 : decode cL_law 869 = .ok (.iload_n 3, 1) := by decide +kernel
theorem dL_law_870 : decode cL_law 870 = .ok (.iconst 2, 1) := by decide +kernel
theorem dL_law_871 : decode cL_law 871 = .ok (.iadd, 1) := by decide +kernel
theorem dL_law_872 : decode cL_law 872 = .ok (.iaload, 1) := by decide +kernel
theorem dL_law_873 : decode cL_law 873 = .ok (.aload_n 0, 1) := by decide +kernel
theorem dL_law_874 : decode cL_law 874 = .ok (.iload_n 3, 1) := by decide +kernel
theorem dL_law_875 : decode cL_law 875 = .ok (.iconst 3, 1) := by decide +kernel
theorem dL_law_876 : decode cL_law 876 = .ok (.iadd, 1) := by decide +kernel
theorem dL_law_877 : decode cL_law 877 = .ok (.iaload, 1) := by decide +kernel
theorem dL_law_878 : decode cL_law 878 = .ok (.invokevirtual 104, 3) := by decide +kernel
theorem dL_law_881 : decode cL_law 881 = .ok (.aload_n 2, 1) := by decide +kernel
theorem dL_law_882 : decode cL_law 882 = .ok (.aload_n 0, 1) := by decide +kernel
theorem dL_law_883 : decode cL_law 883 = .ok (.iload_n 3, 1) := by decide +kernel
theorem dL_law_884 : decode cL_law 884 = .ok (.iconst 1, 1) := by decide +kernel
theorem dL_law_885 : decode cL_law 885 = .ok (.iadd, 1) := by decide +kernel
theorem dL_law_886 : decode cL_law 886 = .ok (.iaload, 1) := by decide +kernel
theorem dL_law_887 : decode cL_law 887 = .ok (.aload_n 0, 1) := by decide +kernel
theorem dL_law_888 : decode cL_law 888 = .ok (.iload_n 3, 1) := by decide +kernel
theorem dL_law_889 : decode cL_law 889 = .ok (.iconst 2, 1) := by decide +kernel
theorem dL_law_890 : decode cL_law 890 = .ok (.iadd, 1) := by decide +kernel
theorem dL_law_891 : decode cL_law 891 = .ok (.iaload, 1) := by decide +kernel
theorem dL_law_892 : decode cL_law 892 = .ok (.aload_n 0, 1) := by decide +kernel
theorem dL_law_893 : decode cL_law 893 = .ok (.iload_n 3, 1) := by decide +kernel
theorem dL_law_894 : decode cL_law 894 = .ok (.iconst 3, 1) := by decide +kernel
theorem dL_law_895 : decode cL_law 895 = .ok (.iadd, 1) := by decide +kernel
theorem dL_law_896 : decode cL_law 896 = .ok (.iaload, 1) := by decide +kernel
theorem dL_law_897 : decode cL_law 897 = .ok (.invokevirtual 107, 3) := by decide +kernel
theorem dL_law_900 : decode cL_law 900 = .ok (.if_icmp .eq 240, 3) := by decide +kernel
theorem dL_law_903 : decode cL_law 903 = .ok (.iconst 0, 1) := by decide +kernel
theorem dL_law_904 : decode cL_law 904 = .ok (.ireturn, 1) := by decide +kernel
theorem dL_law_905 : decode cL_law 905 = .ok (.aload_n 1, 1) := by decide +kernel
theorem dL_law_906 : decode cL_law 906 = .ok (.aload_n 0, 1) := by decide +kernel
theorem dL_law_907 : decode cL_law 907 = .ok (.iload_n 3, 1) := by decide +kernel
theorem dL_law_908 : decode cL_law 908 = .ok (.iconst 1, 1) := by decide +kernel
theorem dL_law_909 : decode cL_law 909 = .ok (.iadd, 1) := by decide +kernel
theorem dL_law_910 : decode cL_law 910 = .ok (.iaload, 1) := by decide +kernel
theorem dL_law_911 : decode cL_law 911 = .ok (.aload_n 0, 1) := by decide +kernel
theorem dL_law_912 : decode cL_law 912 = .ok (.iload_n 3, 1) := by decide +kernel
theorem dL_law_913 : decode cL_law 913 = .ok (.iconst 2, 1) := by decide +kernel
theorem dL_law_914 : decode cL_law 914 = .ok (.iadd, 1) := by decide +kernel
theorem dL_law_915 : decode cL_law 915 = .ok (.iaload, 1) := by decide +kernel
theorem dL_law_916 : decode cL_law 916 = .ok (.aload_n 0, 1) := by decide +kernel
theorem dL_law_917 : decode cL_law 917 = .ok (.iload_n 3, 1) := by decide +kernel
theorem dL_law_918 : decode cL_law 918 = .ok (.iconst 3, 1) := by decide +kernel
theorem dL_law_919 : decode cL_law 919 = .ok (.iadd, 1) := by decide +kernel
theorem dL_law_920 : decode cL_law 920 = .ok (.iaload, 1) := by decide +kernel
theorem dL_law_921 : decode cL_law 921 = .ok (.invokevirtual 108, 3) := by decide +kernel
theorem dL_law_924 : decode cL_law 924 = .ok (.aload_n 2, 1) := by decide +kernel
theorem dL_law_925 : decode cL_law 925 = .ok (.aload_n 0, 1) := by decide +kernel
theorem dL_law_926 : decode cL_law 926 = .ok (.iload_n 3, 1) := by decide +kernel
theorem dL_law_927 : decode cL_law 927 = .ok (.iconst 1, 1) := by decide +kernel
theorem dL_law_928 : decode cL_law 928 = .ok (.iadd, 1) := by decide +kernel
theorem dL_law_929 : decode cL_law 929 = .ok (.iaload, 1) := by decide +kernel
theorem dL_law_930 : decode cL_law 930 = .ok (.aload_n 0, 1) := by decide +kernel
theorem dL_law_931 : decode cL_law 931 = .ok (.iload_n 3, 1) := by decide +kernel
theorem dL_law_932 : decode cL_law 932 = .ok (.iconst 2, 1) := by decide +kernel
theorem dL_law_933 : decode cL_law 933 = .ok (.iadd, 1) := by decide +kernel
theorem dL_law_934 : decode cL_law 934 = .ok (.iaload, 1) := by decide +kernel
theorem dL_law_935 : decode cL_law 935 = .ok (.aload_n 0, 1) := by decide +kernel
theorem dL_law_936 : decode cL_law 936 = .ok (.iload_n 3, 1) := by decide +kernel
theorem dL_law_937 : decode cL_law 937 = .ok (.iconst 3, 1) := by decide +kernel
theorem dL_law_938 : decode cL_law 938 = .ok (.iadd, 1) := by decide +kernel
theorem dL_law_939 : decode cL_law 939 = .ok (.iaload, 1) := by decide +kernel
theorem dL_law_940 : decode cL_law 940 = .ok (.invokevirtual 111, 3) := by decide +kernel
theorem dL_law_943 : decode cL_law 943 = .ok (.lcmp, 1) := by decide +kernel
theorem dL_law_944 : decode cL_law 944 = .ok (.ifCond .eq 196, 3) := by decide +kernel
theorem dL_law_947 : decode cL_law 947 = .ok (.iconst 0, 1) := by decide +kernel
theorem dL_law_948 : decode cL_law 948 = .ok (.ireturn, 1) := by decide +kernel
theorem dL_law_949 : decode cL_law 949 = .ok (.aload_n 1, 1) := by decide +kernel
theorem dL_law_950 : decode cL_law 950 = .ok (.aload_n 0, 1) := by decide +kernel
theorem dL_law_951 : decode cL_law 951 = .ok (.iload_n 3, 1) := by decide +kernel
theorem dL_law_952 : decode cL_law 952 = .ok (.iconst 1, 1) := by decide +kernel
theorem dL_law_953 : decode cL_law 953 = .ok (.iadd, 1) := by decide +kernel
theorem dL_law_954 : decode cL_law 954 = .ok (.iaload, 1) := by decide +kernel
theorem dL_law_955 : decode cL_law 955 = .ok (.aload_n 0, 1) := by decide +kernel
theorem dL_law_956 : decode cL_law 956 = .ok (.iload_n 3, 1) := by decide +kernel
theorem dL_law_957 : decode cL_law 957 = .ok (.iconst 2, 1) := by decide +kernel
theorem dL_law_958 : decode cL_law 958 = .ok (.iadd, 1) := by decide +kernel
theorem dL_law_959 : decode cL_law 959 = .ok (.iaload, 1) := by decide +kernel
theorem dL_law_960 : decode cL_law 960 = .ok (.aload_n 0, 1) := by decide +kernel
theorem dL_law_961 : decode cL_law 961 = .ok (.iload_n 3, 1) := by decide +kernel
theorem dL_law_962 : decode cL_law 962 = .ok (.iconst 3, 1) := by decide +kernel
theorem dL_law_963 : decode cL_law 963 = .ok (.iadd, 1) := by decide +kernel
theorem dL_law_964 : decode cL_law 964 = .ok (.iaload, 1) := by decide +kernel
theorem dL_law_965 : decode cL_law 965 = .ok (.aload_n 0, 1) := by decide +kernel
theorem dL_law_966 : decode cL_law 966 = .ok (.iload_n 3, 1) := by decide +kernel
theorem dL_law_967 : decode cL_law 967 = .ok (.iconst 4, 1) := by decide +kernel
theorem dL_law_968 : decode cL_law 968 = .ok (.iadd, 1) := by decide +kernel
theorem dL_law_969 : decode cL_law 969 = .ok (.iaload, 1) := by decide +kernel
theorem dL_law_970 : decode cL_law 970 = .ok (.aload_n 0, 1) := by decide +kernel
theorem dL_law_971 : decode cL_law 971 = .ok (.iload_n 3, 1) := by decide +kernel
theorem dL_law_972 : decode cL_law 972 = .ok (.iconst 5, 1) := by decide +kernel
theorem dL_law_973 : decode cL_law 973 = .ok (.iadd, 1) := by decide +kernel
theorem dL_law_974 : decode cL_law 974 = .ok (.iaload, 1) := by decide +kernel
theorem dL_law_975 : decode cL_law 975 = .ok (.invokevirtual 112, 3) := by decide +kernel
theorem dL_law_978 : decode cL_law 978 = .ok (.aload_n 2, 1) := by decide +kernel
theorem dL_law_979 : decode cL_law 979 = .ok (.aload_n 0, 1) := by decide +kernel
theorem dL_law_980 : decode cL_law 980 = .ok (.iload_n 3, 1) := by decide +kernel
theorem dL_law_981 : decode cL_law 981 = .ok (.iconst 1, 1) := by decide +kernel
theorem dL_law_982 : decode cL_law 982 = .ok (.iadd, 1) := by decide +kernel
theorem dL_law_983 : decode cL_law 983 = .ok (.iaload, 1) := by decide +kernel
theorem dL_law_984 : decode cL_law 984 = .ok (.aload_n 0, 1) := by decide +kernel
theorem dL_law_985 : decode cL_law 985 = .ok (.iload_n 3, 1) := by decide +kernel
theorem dL_law_986 : decode cL_law 986 = .ok (.iconst 2, 1) := by decide +kernel
theorem dL_law_987 : decode cL_law 987 = .ok (.iadd, 1) := by decide +kernel
theorem dL_law_988 : decode cL_law 988 = .ok (.iaload, 1) := by decide +kernel
theorem dL_law_989 : decode cL_law 989 = .ok (.aload_n 0, 1) := by decide +kernel
theorem dL_law_990 : decode cL_law 990 = .ok (.iload_n 3, 1) := by decide +kernel
theorem dL_law_991 : decode cL_law 991 = .ok (.iconst 3, 1) := by decide +kernel
theorem dL_law_992 : decode cL_law 992 = .ok (.iadd, 1) := by decide +kernel
theorem dL_law_993 : decode cL_law 993 = .ok (.iaload, 1) := by decide +kernel
theorem dL_law_994 : decode cL_law 994 = .ok (.aload_n 0, 1) := by decide +kernel
theorem dL_law_995 : decode cL_law 995 = .ok (.iload_n 3, 1) := by decide +kernel
theorem dL_law_996 : decode cL_law 996 = .ok (.iconst 4, 1) := by decide +kernel
theorem dL_law_997 : decode cL_law 997 = .ok (.iadd, 1) := by decide +kernel
theorem dL_law_998 : decode cL_law 998 = .ok (.iaload, 1) := by decide +kernel
theorem dL_law_999 : decode cL_law 999 = .ok (.aload_n 0, 1) := by decide +kernel
theorem dL_law_1000 : decode cL_law 1000 = .ok (.iload_n 3, 1) := by decide +kernel
theorem dL_law_1001 : decode cL_law 1001 = .ok (.iconst 5, 1) := by decide +kernel
theorem dL_law_1002 : decode cL_law 1002 = .ok (.iadd, 1) := by decide +kernel
theorem dL_law_1003 : decode cL_law 1003 = .ok (.iaload, 1) := by decide +kernel
theorem dL_law_1004 : decode cL_law 1004 = .ok (.invokevirtual 115, 3) := by decide +kernel
theorem dL_law_1007 : decode cL_law 1007 = .ok (.if_icmp .eq 133, 3) := by decide +kernel
theorem dL_law_1010 : decode cL_law 1010 = .ok (.iconst 0, 1) := by decide +kernel
theorem dL_law_1011 : decode cL_law 1011 = .ok (.ireturn, 1) := by decide +kernel
theorem dL_law_1012 : decode cL_law 1012 = .ok (.aload_n 1, 1) := by decide +kernel
theorem dL_law_1013 : decode cL_law 1013 = .ok (.aload_n 0, 1) := by decide +kernel
theorem dL_law_1014 : decode cL_law 1014 = .ok (.iload_n 3, 1) := by decide +kernel
theorem dL_law_1015 : decode cL_law 1015 = .ok (.iconst 1, 1) := by decide +kernel
theorem dL_law_1016 : decode cL_law 1016 = .ok (.iadd, 1) := by decide +kernel
theorem dL_law_1017 : decode cL_law 1017 = .ok (.iaload, 1) := by decide +kernel
theorem dL_law_1018 : decode cL_law 1018 = .ok (.invokevirtual 116, 3) := by decide +kernel
theorem dL_law_1021 : decode cL_law 1021 = .ok (.aload_n 2, 1) := by decide +kernel
theorem dL_law_1022 : decode cL_law 1022 = .ok (.aload_n 0, 1) := by decide +kernel
theorem dL_law_1023 : decode cL_law 1023 = .ok (.iload_n 3, 1) := by decide +kernel
theorem dL_law_1024 : decode cL_law 1024 = .ok (.iconst 1, 1) := by decide +kernel
theorem dL_law_1025 : decode cL_law 1025 = .ok (.iadd, 1) := by decide +kernel
theorem dL_law_1026 : decode cL_law 1026 = .ok (.iaload, 1) := by decide +kernel
theorem dL_law_1027 : decode cL_law 1027 = .ok (.invokevirtual 119, 3) := by decide +kernel
theorem dL_law_1030 : decode cL_law 1030 = .ok (.if_icmp .eq 110, 3) := by decide +kernel
theorem dL_law_1033 : decode cL_law 1033 = .ok (.iconst 0, 1) := by decide +kernel
theorem dL_law_1034 : decode cL_law 1034 = .ok (.ireturn, 1) := by decide +kernel
theorem dL_law_1035 : decode cL_law 1035 = .ok (.aload_n 1, 1) := by decide +kernel
theorem dL_law_1036 : decode cL_law 1036 = .ok (.aload_n 0, 1) := by decide +kernel
theorem dL_law_1037 : decode cL_law 1037 = .ok (.iload_n 3, 1) := by decide +kernel
theorem dL_law_1038 : decode cL_law 1038 = .ok (.iconst 1, 1) := by decide +kernel
theorem dL_law_1039 : decode cL_law 1039 = .ok (.iadd, 1) := by decide +kernel
theorem dL_law_1040 : decode cL_law 1040 = .ok (.iaload, 1) := by decide +kernel
theorem dL_law_1041 : decode cL_law 1041 = .ok (.invokevirtual 120, 3) := by decide +kernel
theorem dL_law_1044 : decode cL_law 1044 = .ok (.aload_n 2, 1) := by decide +kernel
theorem dL_law_1045 : decode cL_law 1045 = .ok (.aload_n 0, 1) := by decide +kernel
theorem dL_law_1046 : decode cL_law 1046 = .ok (.iload_n 3, 1) := by decide +kernel
theorem dL_law_1047 : decode cL_law 1047 = .ok (.iconst 1, 1) := by decide +kernel
theorem dL_law_1048 : decode cL_law 1048 = .ok (.iadd, 1) := by decide +kernel
theorem dL_law_1049 : decode cL_law 1049 = .ok (.iaload, 1) := by decide +kernel
theorem dL_law_1050 : decode cL_law 1050 = .ok (.invokevirtual 123, 3) := by decide +kernel
theorem dL_law_1053 : decode cL_law 1053 = .ok (.if_icmp .eq 87, 3) := by decide +kernel
theorem dL_law_1056 : decode cL_law 1056 = .ok (.iconst 0, 1) := by decide +kernel
theorem dL_law_1057 : decode cL_law 1057 = .ok (.ireturn, 1) := by decide +kernel
theorem dL_law_1058 : decode cL_law 1058 = .ok (.aload_n 1, 1) := by decide +kernel
theorem dL_law_1059 : decode cL_law 1059 = .ok (.aload_n 0, 1) := by decide +kernel
theorem dL_law_1060 : decode cL_law 1060 = .ok (.iload_n 3, 1) := by decide +kernel
theorem dL_law_1061 : decode cL_law 1061 = .ok (.iconst 1, 1) := by decide +kernel
theorem dL_law_1062 : decode cL_law 1062 = .ok (.iadd, 1) := by decide +kernel
theorem dL_law_1063 : decode cL_law 1063 = .ok (.iaload, 1) := by decide +kernel
theorem dL_law_1064 : decode cL_law 1064 = .ok (.aload_n 0, 1) := by decide +kernel
theorem dL_law_1065 : decode cL_law 1065 = .ok (.iload_n 3, 1) := by decide +kernel
theorem dL_law_1066 : decode cL_law 1066 = .ok (.iconst 2, 1) := by decide +kernel
theorem dL_law_1067 : decode cL_law 1067 = .ok (.iadd, 1) := by decide +kernel
theorem dL_law_1068 : decode cL_law 1068 = .ok (.iaload, 1) := by decide +kernel
theorem dL_law_1069 : decode cL_law 1069 = .ok (.invokevirtual 124, 3) := by decide +kernel
theorem dL_law_1072 : decode cL_law 1072 = .ok (.aload_n 2, 1) := by decide +kernel
theorem dL_law_1073 : decode cL_law 1073 = .ok (.aload_n 0, 1) := by decide +kernel
theorem dL_law_1074 : decode cL_law 1074 = .ok (.iload_n 3, 1) := by decide +kernel
theorem dL_law_1075 : decode cL_law 1075 = .ok (.iconst 1, 1) := by decide +kernel
theorem dL_law_1076 : decode cL_law 1076 = .ok (.iadd, 1) := by decide +kernel
theorem dL_law_1077 : decode cL_law 1077 = .ok (.iaload, 1) := by decide +kernel
theorem dL_law_1078 : decode cL_law 1078 = .ok (.aload_n 0, 1) := by decide +kernel
theorem dL_law_1079 : decode cL_law 1079 = .ok (.iload_n 3, 1) := by decide +kernel
theorem dL_law_1080 : decode cL_law 1080 = .ok (.iconst 2, 1) := by decide +kernel
theorem dL_law_1081 : decode cL_law 1081 = .ok (.iadd, 1) := by decide +kernel
theorem dL_law_1082 : decode cL_law 1082 = .ok (.iaload, 1) := by decide +kernel
theorem dL_law_1083 : decode cL_law 1083 = .ok (.invokevirtual 127, 3) := by decide +kernel
theorem dL_law_1086 : decode cL_law 1086 = .ok (.if_icmp .eq 54, 3) := by decide +kernel
theorem dL_law_1089 : decode cL_law 1089 = .ok (.iconst 0, 1) := by decide +kernel
theorem dL_law_1090 : decode cL_law 1090 = .ok (.ireturn, 1) := by decide +kernel
theorem dL_law_1091 : decode cL_law 1091 = .ok (.aload_n 1, 1) := by decide +kernel
theorem dL_law_1092 : decode cL_law 1092 = .ok (.invokevirtual 128, 3) := by decide +kernel
theorem dL_law_1095 : decode cL_law 1095 = .ok (.aload_n 2, 1) := by decide +kernel
theorem dL_law_1096 : decode cL_law 1096 = .ok (.invokevirtual 131, 3) := by decide +kernel
theorem dL_law_1099 : decode cL_law 1099 = .ok (.if_icmp .eq 41, 3) := by decide +kernel
theorem dL_law_1102 : decode cL_law 1102 = .ok (.iconst 0, 1) := by decide +kernel
theorem dL_law_1103 : decode cL_law 1103 = .ok (.ireturn, 1) := by decide +kernel
theorem dL_law_1104 : decode cL_law 1104 = .ok (.aload_n 1, 1) := by decide +kernel
theorem dL_law_1105 : decode cL_law 1105 = .ok (.invokevirtual 132, 3) := by decide +kernel
theorem dL_law_1108 : decode cL_law 1108 = .ok (.aload_n 2, 1) := by decide +kernel
theorem dL_law_1109 : decode cL_law 1109 = .ok (.invokevirtual 135, 3) := by decide +kernel
theorem dL_law_1112 : decode cL_law 1112 = .ok (.if_icmp .eq 28, 3) := by decide +kernel
theorem dL_law_1115 : decode cL_law 1115 = .ok (.iconst 0, 1) := by decide +kernel
theorem dL_law_1116 : decode cL_law 1116 = .ok (.ireturn, 1) := by decide +kernel
theorem dL_law_1117 : decode cL_law 1117 = .ok (.aload_n 1, 1) := by decide +kernel
theorem dL_law_1118 : decode cL_law 1118 = .ok (.aload_n 0, 1) := by decide +kernel
theorem dL_law_1119 : decode cL_law 1119 = .ok (.iload_n 3, 1) := by decide +kernel
theorem dL_law_1120 : decode cL_law 1120 = .ok (.iconst 1, 1) := by decide +kernel
theorem dL_law_1121 : decode cL_law 1121 = .ok (.iadd, 1) := by decide +kernel
theorem dL_law_1122 : decode cL_law 1122 = .ok (.iaload, 1) := by decide +kernel
theorem dL_law_1123 : decode cL_law 1123 = .ok (.invokevirtual 136, 3) := by decide +kernel
theorem dL_law_1126 : decode cL_law 1126 = .ok (.aload_n 2, 1) := by decide +kernel
theorem dL_law_1127 : decode cL_law 1127 = .ok (.aload_n 0, 1) := by decide +kernel
theorem dL_law_1128 : decode cL_law 1128 = .ok (.iload_n 3, 1) := by decide +kernel
theorem dL_law_1129 : decode cL_law 1129 = .ok (.iconst 1, 1) := by decide +kernel
theorem dL_law_1130 : decode cL_law 1130 = .ok (.iadd, 1) := by decide +kernel
theorem dL_law_1131 : decode cL_law 1131 = .ok (.iaload, 1) := by decide +kernel
theorem dL_law_1132 : decode cL_law 1132 = .ok (.invokevirtual 139, 3) := by decide +kernel
theorem dL_law_1135 : decode cL_law 1135 = .ok (.if_icmp .eq 5, 3) := by decide +kernel
theorem dL_law_1138 : decode cL_law 1138 = .ok (.iconst 0, 1) := by decide +kernel
theorem dL_law_1139 : decode cL_law 1139 = .ok (.ireturn, 1) := by decide +kernel
theorem dL_law_1140 : decode cL_law 1140 = .ok (.iinc 3 6, 3) := by decide +kernel
theorem dL_law_1143 : decode cL_law 1143 = .ok (.goto (-1125), 3) := by decide +kernel
theorem dL_law_1146 : decode cL_law 1146 = .ok (.iconst 1, 1) := by decide +kernel
theorem dL_law_1147 : decode cL_law 1147 = .ok (.ireturn, 1) := by decide +kernel
end
section
/-! states, worlds, rows: one theory for the class and for the model -/
abbrev St : Type := Nat → Nat → Int32
def up2 (σ : St) (c j : Nat) (v : Int32) : St := va_up σ c (upd (σ c) j v)
def cp2 (σ : St) (a sp b dp n : Nat) : St := va_up σ b (va_cpy (σ a) (σ b) sp dp n)
theorem up2_ne {σ : St} {c j : Nat} {v : Int32} : ∀ k, k ≠ c → up2 σ c j v k = σ k := fun k h => by simp [up2, va_up, h]
theorem cp2_ne {σ : St} {a sp b dp n : Nat} : ∀ k, k ≠ b → cp2 σ a sp b dp n k = σ k := fun k h => by simp [cp2, va_up, h]
theorem up2_row {σ : St} {c j : Nat} {v : Int32} : up2 σ c j v c = upd (σ c) j v := by simp [up2, va_up]
theorem cp2_row {σ : St} {a sp b dp n : Nat} : cp2 σ a sp b dp n b = va_cpy (σ a) (σ b) sp dp n := by simp [cp2, va_up]
abbrev Gh : Type := (Nat → ClassId) × (Nat → Nat → Nat) × ClassId × ClassId × ClassId × ClassId
abbrev gD (g : Gh) : va_G := (g.1, g.2.1)
abbrev gT (g : Gh) : List (ClassId × FieldType) := [(g.2.2.1, .int), (g.2.2.2.1, .boolean), (g.2.2.2.2.1, .object "YearDeck$Rider"), (g.2.2.2.2.2, .object "YearDeck$Sheet")]
def wv (e : Nat → va_E) (q : Nat → Nat) (N : Nat) : va_W := (List.range N).map fun k => (q k, e k)
theorem wv_get {e : Nat → va_E} {q : Nat → Nat} {N c : Nat} (h : c < N) : (wv e q N)[c]? = some (q c, e c) := by
  simp [wv, h]
theorem wv_inv {e : Nat → va_E} {q : Nat → Nat} {N c : Nat} {x : Nat × va_E} (h : (wv e q N)[c]? = some x) : c < N ∧ x = (q c, e c) := by
  rcases Nat.lt_or_ge c N with hc | hc
  · rw [wv_get hc] at h
    exact ⟨hc, (Option.some.inj h).symm⟩
  · rw [List.getElem?_eq_none (by simp [wv, hc])] at h
    cases h
theorem wv_set {e : Nat → va_E} {q : Nat → Nat} {N c : Nat} {x : va_E} : (wv e q N).set c (q c, x) = wv (va_up e c x) q N := by
  apply List.ext_getElem?
  intro i
  rw [List.getElem?_set]
  by_cases hi : c = i
  · subst hi
    rw [if_pos rfl]
    rcases Nat.lt_or_ge c N with hc | hc
    · rw [if_pos (by simp [wv, hc]), wv_get hc]
      simp [va_up]
    · rw [if_neg (by simp [wv]; omega), List.getElem?_eq_none (by simp [wv, hc])]
  · rw [if_neg hi]
    rcases Nat.lt_or_ge i N with hc | hc
    · rw [wv_get hc, wv_get hc]
      simp [va_up, Ne.symm hi]
    · rw [List.getElem?_eq_none (by simp [wv, hc]), List.getElem?_eq_none (by simp [wv, hc])]
def Loc1 (E : St → Nat → va_E) : Prop := ∀ (σ σ' : St) (k : Nat), σ k = σ' k → E σ k = E σ' k
theorem wv_up {E : St → Nat → va_E} (hE : Loc1 E) {q : Nat → Nat} {N cn : Nat} {σ σ' : St} (h : ∀ j, j ≠ cn → σ' j = σ j) {x : va_E} (hx : E σ' cn = x) : (wv (E σ) q N).set cn (q cn, x) = wv (E σ') q N := by
  rw [wv_set]
  have : va_up (E σ) cn x = E σ' := by
    funext j
    by_cases hj : j = cn
    · subst hj; simp [va_up, hx]
    · simp only [va_up, if_neg hj]
      exact hE _ _ _ (h j hj).symm
  rw [this]
def AQ (q : Nat → Nat) (N n : Nat) : Nat → Prop := fun a => (∃ k, k < N ∧ a = q k) ∨ n ≤ a
theorem AQ_D {A : Nat → Prop} {e : Nat → va_E} {q : Nat → Nat} {N : Nat} (n : Nat) (h : va_D A (wv e q N)) : va_D (AQ q N n) (wv e q N) :=
  ⟨h.1, fun k x hk => Or.inl ⟨k, (wv_inv hk).1, by rw [(wv_inv hk).2]⟩⟩
theorem AQ_D2 {A : Nat → Prop} {e e2 : Nat → va_E} {q : Nat → Nat} {N : Nat} (n : Nat) (h : va_D A (wv e q N)) : va_D (AQ q N n) (wv e2 q N) :=
  ⟨fun i j x y hi hj hxy => by
    obtain ⟨a1, a2⟩ := wv_inv hi
    obtain ⟨b1, b2⟩ := wv_inv hj
    exact h.1 i j _ _ (wv_get a1) (wv_get b1) (by rw [a2, b2] at hxy; exact hxy), fun k x hk => Or.inl ⟨k, (wv_inv hk).1, by rw [(wv_inv hk).2]⟩⟩
/-- the world holds: tables, cells, apart, nothing else written -/
def IV (g : Gh) (E : St → Nat → va_E) (q : Nat → Nat) (N : Nat) (s : State) (σ : St) (H : Heap) (locs : List Loc) : Prop :=
  va_K (gD g) vwCl (gT g) s ∧ va_P (gD g) vwCl (wv (E σ) q N) H ∧ va_D (AQ q N s.heap.size) (wv (E σ) q N) ∧ va_S (AQ q N s.heap.size) s.heap H locs
/-- the tables' words that go along into calls -/
def lw_g : List Cond := lw_tbl.filter goodWord
theorem lw_mem {w : Cond} (i : Nat) (h : lw_tbl[i]? = some w) (hg : goodWord w = true) : w ∈ lw_g := List.mem_filter.mpr ⟨List.mem_of_getElem? h, hg⟩
/-- a method's fixed surroundings -/
def MX (p : Program) (s : State) (m : MethodId) (args : Array Value) (meth : Method) (c : Code) (cc : ByteArray) (nL : Nat) (rt : Option FieldType) (own : String) : Prop :=
  p.tables.exec = Jvm.exec ∧ c.code = cc ∧ meth.sig.returnType = rt ∧ c.maxLocals = nL ∧ s.vm.findClass own = some m.cls ∧ (∀ w ∈ lw_g, w.before args s = true) ∧ meth.locks = false
def inb (i : Int32) (n : Nat) : Bool := decide (0 ≤ i) && decide (i.toNatClampNeg < n)
theorem inb_in {i : Int32} {n : Nat} (h : inb i n = true) : vp_in i n := by
  simp only [inb, Bool.and_eq_true, decide_eq_true_eq] at h
  rintro (h1 | h1)
  · have h0 := h.1
    rw [Int32.le_iff_toInt_le] at h0
    rw [Int32.lt_iff_toInt_lt] at h1
    omega
  · omega
theorem inb_lt {i : Int32} {n : Nat} (h : inb i n = true) : i.toNatClampNeg < n := by
  simp only [inb, Bool.and_eq_true, decide_eq_true_eq] at h
  exact h.2
def gd {α : Type} (b : Bool) (x : Option α) : Option α := match b with
  | true => x
  | false => none
theorem gd_s {α : Type} {b : Bool} {x : Option α} {r : α} (h : gd b x = some r) : b = true ∧ x = some r := by
  cases b
  · cases h
  · exact ⟨rfl, h⟩
theorem gd_t {α : Type} {b : Bool} {x : Option α} (h : b = true) : gd b x = x := by subst h; rfl
theorem ite_p {α : Type} {c : Prop} [Decidable c] {x y : Option α} {r : α} (hc : c) (h : (if c then x else y) = some r) : x = some r := by rwa [if_pos hc] at h
theorem ite_n {α : Type} {c : Prop} [Decidable c] {x y : Option α} {r : α} (hc : ¬ c) (h : (if c then x else y) = some r) : y = some r := by rwa [if_neg hc] at h
theorem bd_s {α β : Type} {x : Option α} {f : α → Option β} {r : β} (h : x.bind f = some r) : ∃ y, x = some y ∧ f y = some r := by
  cases x with
  | none => cases h
  | some y => exact ⟨y, rfl, h⟩
def isB (x : Int32) : Bool := decide (x = 0) || decide (x = 1)
theorem isB_n {x : Int32} (h : isB x = true) : narrow .boolean (.int x) = .int x := by
  simp only [isB, Bool.or_eq_true, decide_eq_true_eq] at h
  rcases h with rfl | rfl <;> rfl
def nz (x : Int32) : Bool := decide (¬ x = 0)
theorem nz_n {x : Int32} (h : nz x = true) : ¬ x = 0 := by simpa [nz] using h
def nzl (x : Int64) : Bool := decide (¬ x = 0)
theorem nzl_n {x : Int64} (h : nzl x = true) : ¬ x = 0 := by simpa [nzl] using h
def BQ (g : Gh) (E : St → Nat → va_E) (q : Nat → Nat) (N : Nat) (σ : St) (sz : Nat) : Unit → State → Prop := fun _ t =>
  va_P (gD g) vwCl (wv (E σ) q N) t.heap ∧ va_K (gD g) vwCl (gT g) t ∧ va_D (AQ q N sz) (wv (E σ) q N)
def QI (g : Gh) (E : St → Nat → va_E) (q : Nat → Nat) (N : Nat) (r : Int32) (σ : St) (sz : Nat) : Array Value → State → Outcome → State → Prop := va_Qi (fun x (_ : Unit) => x = r) (BQ g E q N σ sz) (AQ q N sz)
def QL (g : Gh) (E : St → Nat → va_E) (q : Nat → Nat) (N : Nat) (r : Int64) (σ : St) (sz : Nat) : Array Value → State → Outcome → State → Prop := va_Ql (fun x (_ : Unit) => x = r) (BQ g E q N σ sz) (AQ q N sz)
def QV (g : Gh) (E : St → Nat → va_E) (q : Nat → Nat) (N : Nat) (σ : St) (sz : Nat) : Array Value → State → Outcome → State → Prop := va_Qv (fun (_ : Unit) => True) (BQ g E q N σ sz) (AQ q N sz)
def PQ (g : Gh) (E : St → Nat → va_E) (q : Nat → Nat) (N : Nat) (σ : St) (sz : Nat) (av : List Value) : Array Value → State → Prop :=
  va_Pc av (fun U => U.heap.size = sz ∧ va_P (gD g) vwCl (wv (E σ) q N) U.heap ∧ va_K (gD g) vwCl (gT g) U ∧ va_D (AQ q N sz) (wv (E σ) q N))
def wU (y : MethodName) (cc : ByteArray) (nL : Nat) (rt : Option FieldType) : List Cond := .code y cc nL rt :: lw_g
def rmD (d : Nat) : Room := { frames := d, cells := 0, slots := 0, locals := 40 * d }
theorem lw_good : ∀ w ∈ lw_g, (w.onTables && w.keeps) = true ∨ ∃ ty, w = .arrayClass ty := fun _ hw => good_of_word (List.mem_filter.mp hw).2
theorem wU_good {y : MethodName} {cc : ByteArray} {nL : Nat} {rt : Option FieldType} (h : Cond.code y cc nL rt ∈ lw_g) : GoodIn lw_g (wU y cc nL rt) := by
  intro w hw
  rcases List.mem_cons.mp hw with rfl | hw
  · exact ⟨h, lw_good _ h⟩
  · exact ⟨hw, lw_good _ hw⟩
section R1
variable {p : Program} {l : Launch} {e : Env} {R : Room} {s : State} {m : MethodId} {args : Array Value} {below : List Frame} {meth : Method} {c : Code} {H : Heap} {locs : List Loc} {cells slots : Nat} {Q : State → Prop}
variable {cc : ByteArray} {pc nL : Nat} {rt : Option FieldType} {own : String} {ls : Array Slot} {rest : List Value}
variable {g : Gh} {E : St → Nat → va_E} {q : Nat → Nat} {N : Nat} {σ : St}
theorem r_get (X : MX p s m args meth c cc nL rt own) (I : IV g E q N s σ H locs) {C : String} {T : u_T} {Nf ci index cn k : Nat} {fs : List Value} {v : Value} (hin : ∀ w ∈ u_ws C T Nf, w ∈ lw_g) (hcl : vwCl[ci]? = some (C, T, Nf)) (hc : cn < N) (he : E σ cn = .inr (ci, fs)) (hk : k < Nf) (hv : fs[k]? = some v)
    (hl : Cond.fieldLink own index (T k).1 (T k).2.1 (T k).2.2.1 ∈ lw_g) (hdg : decode cc pc = .ok (.getfield index, 3))
    (kk : W p l e R s m args below meth c H locs cells slots Q (F0 m (pc + 3) ls (v :: rest))) : W p l e R s m args below meth c H locs cells slots Q (F0 m pc ls (.ref (q cn) :: rest)) := by
  obtain ⟨hx, hb, -, -, hown, hts, -⟩ := X
  exact va_get hx hb hts hin hown I.1 I.2.1 cn (by rw [wv_get hc, he]) hcl k hk (hts _ hl) (fun _ h => h) hv hdg kk
theorem r_put (hE : Loc1 E) (X : MX p s m args meth c cc nL rt own) (I : IV g E q N s σ H locs) {C : String} {T : u_T} {Nf ci index cn k : Nat} {fs : List Value} {x : Int32} (hin : ∀ w ∈ u_ws C T Nf, w ∈ lw_g) (hcl : vwCl[ci]? = some (C, T, Nf)) (ty0 : Nat → FieldType) (hty : ∀ k, k < Nf → parseFieldDescriptor (T k).2.2.1 = some (ty0 k)) (hnm : ∀ a, a < Nf → ∀ b, b < Nf → a ≠ b → (T a).2.1 ≠ (T b).2.1) (hfin : (T k).2.2.2 = false) (hint : ty0 k = .int)
    (hc : cn < N) (he : E σ cn = .inr (ci, fs)) (hk : k < Nf) (hlen : k < fs.length) (he2 : E (up2 σ cn k x) cn = .inr (ci, fs.set k (.int x)))
    (hl : Cond.fieldLink own index (T k).1 (T k).2.1 (T k).2.2.1 ∈ lw_g) (hdg : decode cc pc = .ok (.putfield index, 3))
    (kk : ∀ (H1 : Heap) (locs1 : List Loc), IV g E q N s (up2 σ cn k x) H1 locs1 → W p l e R s m args below meth c H1 locs1 cells slots Q (F0 m (pc + 3) ls rest)) : W p l e R s m args below meth c H locs cells slots Q (F0 m pc ls (.int x :: .ref (q cn) :: rest)) := by
  obtain ⟨hx, hb, -, -, hown, hts, -⟩ := X
  obtain ⟨hK, hP, hD, hS⟩ := I
  refine va_put (ty := .int) (v := .int x) hx hb hts hin ty0 hty hnm hown hK hP hD hS cn (by rw [wv_get hc, he]) hcl k hk (hts _ hl) (fun _ h => h) hfin (by rw [hty k hk, hint]) rfl rfl hlen hdg (fun H1 locs1 h1 h2 h3 => kk H1 locs1 ⟨hK, ?_, ?_, h3⟩)
  · rw [wv_up hE (up2_ne) he2] at h1; exact h1
  · rw [wv_up hE (up2_ne) he2] at h2; exact h2
theorem r_iald (X : MX p s m args meth c cc nL rt own) (I : IV g E q N s σ H locs) {cn n : Nat} {i : Int32} (hc : cn < N) (he : E σ cn = .inl (g.2.2.1, n, .inl (σ cn))) (hi : inb i n = true) (hdg : decode cc pc = .ok (.iaload, 1))
    (kk : W p l e R s m args below meth c H locs cells slots Q (F0 m (pc + 1) ls (.int (σ cn i.toNatClampNeg) :: rest))) : W p l e R s m args below meth c H locs cells slots Q (F0 m pc ls (.int i :: .ref (q cn) :: rest)) := by
  obtain ⟨hx, hb, -, -, hown, hts, -⟩ := X
  exact va_iald hx hb I.1 I.2.1 cn 0 (by rw [wv_get hc, he]) rfl (inb_in hi) hdg kk
theorem r_zald (X : MX p s m args meth c cc nL rt own) (I : IV g E q N s σ H locs) {cn n : Nat} {i : Int32} (hc : cn < N) (he : E σ cn = .inl (g.2.2.2.1, n, .inl (σ cn))) (hi : inb i n = true) (hdg : decode cc pc = .ok (.baload, 1))
    (kk : W p l e R s m args below meth c H locs cells slots Q (F0 m (pc + 1) ls (.int (σ cn i.toNatClampNeg) :: rest))) : W p l e R s m args below meth c H locs cells slots Q (F0 m pc ls (.int i :: .ref (q cn) :: rest)) := by
  obtain ⟨hx, hb, -, -, hown, hts, -⟩ := X
  exact va_zald hx hb I.1 I.2.1 cn 1 (by rw [wv_get hc, he]) rfl (inb_in hi) hdg kk
theorem r_aald (X : MX p s m args meth c cc nL rt own) (I : IV g E q N s σ H locs) {cn n b t0 : Nat} {cA : ClassId} {C : String} {i : Int32} (hc : cn < N) (ht : (gT g)[t0]? = some (cA, .object C)) (he : E σ cn = .inl (cA, n, .inr (.inr (.inr (.inr fun j => some (q (b + j))))))) (hi : inb i n = true) (hdg : decode cc pc = .ok (.aaload, 1))
    (kk : W p l e R s m args below meth c H locs cells slots Q (F0 m (pc + 1) ls (.ref (q (b + i.toNatClampNeg)) :: rest))) : W p l e R s m args below meth c H locs cells slots Q (F0 m pc ls (.int i :: .ref (q cn) :: rest)) := by
  obtain ⟨hx, hb, -, -, hown, hts, -⟩ := X
  exact va_aldq (f := fun j => some (q (b + j))) hx hb I.1 I.2.1 cn t0 (by rw [wv_get hc, he]) ht (inb_in hi) hdg kk
theorem r_iast (hE : Loc1 E) (X : MX p s m args meth c cc nL rt own) (I : IV g E q N s σ H locs) {cn n : Nat} {i x : Int32} (hc : cn < N) (he : ∀ τ, E τ cn = .inl (g.2.2.1, n, .inl (τ cn))) (hi : inb i n = true) (hdg : decode cc pc = .ok (.iastore, 1))
    (kk : ∀ (H1 : Heap) (locs1 : List Loc), IV g E q N s (up2 σ cn i.toNatClampNeg x) H1 locs1 → W p l e R s m args below meth c H1 locs1 cells slots Q (F0 m (pc + 1) ls rest)) : W p l e R s m args below meth c H locs cells slots Q (F0 m pc ls (.int x :: .int i :: .ref (q cn) :: rest)) := by
  obtain ⟨hx, hb, -, -, hown, hts, -⟩ := X
  obtain ⟨hK, hP, hD, hS⟩ := I
  have he2 : E (up2 σ cn i.toNatClampNeg x) cn = .inl (g.2.2.1, n, .inl (upd (σ cn) i.toNatClampNeg x)) := by rw [he, up2_row]
  refine va_iast hx hb hK hP hD hS cn 0 (by rw [wv_get hc, he]) rfl (inb_in hi) hdg (fun H1 locs1 h1 h2 h3 => kk H1 locs1 ⟨hK, ?_, ?_, h3⟩)
  · rw [wv_up hE (up2_ne) he2] at h1; exact h1
  · rw [wv_up hE (up2_ne) he2] at h2; exact h2
theorem r_zast (hE : Loc1 E) (X : MX p s m args meth c cc nL rt own) (I : IV g E q N s σ H locs) {cn n : Nat} {i x : Int32} (hc : cn < N) (he : ∀ τ, E τ cn = .inl (g.2.2.2.1, n, .inl (τ cn))) (hi : inb i n = true) (hdg : decode cc pc = .ok (.bastore, 1))
    (kk : ∀ (H1 : Heap) (locs1 : List Loc), IV g E q N s (up2 σ cn i.toNatClampNeg (vp_nar .boolean x)) H1 locs1 → W p l e R s m args below meth c H1 locs1 cells slots Q (F0 m (pc + 1) ls rest)) : W p l e R s m args below meth c H locs cells slots Q (F0 m pc ls (.int x :: .int i :: .ref (q cn) :: rest)) := by
  obtain ⟨hx, hb, -, -, hown, hts, -⟩ := X
  obtain ⟨hK, hP, hD, hS⟩ := I
  have he2 : E (up2 σ cn i.toNatClampNeg (vp_nar .boolean x)) cn = .inl (g.2.2.2.1, n, .inl (upd (σ cn) i.toNatClampNeg (vp_nar .boolean x))) := by rw [he, up2_row]
  refine va_zast hx hb hK hP hD hS cn 1 (by rw [wv_get hc, he]) rfl (inb_in hi) hdg (fun H1 locs1 h1 h2 h3 => kk H1 locs1 ⟨hK, ?_, ?_, h3⟩)
  · rw [wv_up hE (up2_ne) he2] at h1; exact h1
  · rw [wv_up hE (up2_ne) he2] at h2; exact h2
theorem r_iret (X : MX p s m args meth c cc nL (some .int) own) (I : IV g E q N s σ H locs) {x r : Int32} (h : some x = some r) (hdg : decode cc pc = .ok (.ireturn, 1)) : W p l e R s m args below meth c H locs 0 0 (MQ below (QI g E q N r σ s.heap.size) args s 0 0 (AQ q N s.heap.size)) (F0 m pc ls [.int x]) := by
  obtain ⟨hx, hb, hr, -, hown, hts, hlocks⟩ := X
  obtain ⟨hK, hP, hD, hS⟩ := I
  exact W.iret hx hb hr (fun t ht hW => ⟨⟨x, (), rfl, Option.some.inj h, by rw [ht]; exact hP, va_K.moved hW.alike hK, hD⟩, hS.F ht⟩) hS.2.2 hdg hlocks
theorem r_iret2 (X : MX p s m args meth c cc nL (some .int) own) {σ2 : St} (I : IV g E q N s σ2 H locs) {x : Int32} {r : Int32 × St} (h : some (x, σ2) = some r) (hdg : decode cc pc = .ok (.ireturn, 1)) : W p l e R s m args below meth c H locs 0 0 (MQ below (QI g E q N r.1 r.2 s.heap.size) args s 0 0 (AQ q N s.heap.size)) (F0 m pc ls [.int x]) := by
  cases h
  exact r_iret X I rfl hdg
theorem r_zret (X : MX p s m args meth c cc nL (some .boolean) own) (I : IV g E q N s σ H locs) {x r : Int32} (h : some x = some r) (hn : isB x = true) (hdg : decode cc pc = .ok (.ireturn, 1)) : W p l e R s m args below meth c H locs 0 0 (MQ below (QI g E q N r σ s.heap.size) args s 0 0 (AQ q N s.heap.size)) (F0 m pc ls [.int x]) := by
  obtain ⟨hx, hb, hr, -, hown, hts, hlocks⟩ := X
  obtain ⟨hK, hP, hD, hS⟩ := I
  exact W.zret hx hb hr (isB_n hn) (fun t ht hW => ⟨⟨x, (), rfl, Option.some.inj h, by rw [ht]; exact hP, va_K.moved hW.alike hK, hD⟩, hS.F ht⟩) hS.2.2 hdg hlocks
theorem r_zret2 (X : MX p s m args meth c cc nL (some .boolean) own) {σ2 : St} (I : IV g E q N s σ2 H locs) {x : Int32} {r : Int32 × St} (h : some (x, σ2) = some r) (hn : isB x = true) (hdg : decode cc pc = .ok (.ireturn, 1)) : W p l e R s m args below meth c H locs 0 0 (MQ below (QI g E q N r.1 r.2 s.heap.size) args s 0 0 (AQ q N s.heap.size)) (F0 m pc ls [.int x]) := by
  cases h
  exact r_zret X I rfl hn hdg
theorem r_lret (X : MX p s m args meth c cc nL (some .long) own) (I : IV g E q N s σ H locs) {x r : Int64} (h : some x = some r) (hdg : decode cc pc = .ok (.lreturn, 1)) : W p l e R s m args below meth c H locs 0 0 (MQ below (QL g E q N r σ s.heap.size) args s 0 0 (AQ q N s.heap.size)) (F0 m pc ls [.long x]) := by
  obtain ⟨hx, hb, hr, -, hown, hts, hlocks⟩ := X
  obtain ⟨hK, hP, hD, hS⟩ := I
  exact W.lret hx hb hr (fun t ht hW => ⟨⟨x, (), rfl, Option.some.inj h, by rw [ht]; exact hP, va_K.moved hW.alike hK, hD⟩, hS.F ht⟩) hS.2.2 hdg hlocks
theorem r_lret2 (X : MX p s m args meth c cc nL (some .long) own) {σ2 : St} (I : IV g E q N s σ2 H locs) {x : Int64} {r : Int64 × St} (h : some (x, σ2) = some r) (hdg : decode cc pc = .ok (.lreturn, 1)) : W p l e R s m args below meth c H locs 0 0 (MQ below (QL g E q N r.1 r.2 s.heap.size) args s 0 0 (AQ q N s.heap.size)) (F0 m pc ls [.long x]) := by
  cases h
  exact r_lret X I rfl hdg
theorem r_vret (X : MX p s m args meth c cc nL none own) {σ2 : St} (I : IV g E q N s σ2 H locs) {r : St} (h : some σ2 = some r) (hdg : decode cc pc = .ok (.return_, 1)) : W p l e R s m args below meth c H locs 0 0 (MQ below (QV g E q N r s.heap.size) args s 0 0 (AQ q N s.heap.size)) (F0 m pc ls []) := by
  cases h
  obtain ⟨hx, hb, hr, -, hown, hts, hlocks⟩ := X
  obtain ⟨hK, hP, hD, hS⟩ := I
  exact W.vret hx hb hr (fun t ht hW => ⟨⟨(), rfl, trivial, by rw [ht]; exact hP, va_K.moved hW.alike hK, hD⟩, hS.F ht⟩) hS.2.2 hdg hlocks
theorem r_calli {st0 : List Value} {a : Array Value} {r : Int32} {σ2 : St} (hr : va_Run p l e R s m args below meth c H locs cells slots 0 0 (F0 m pc ls st0) rest (QI g E q N r σ2 H.size a) (AQ q N H.size)) (I : IV g E q N s σ H locs)
    (kk : ∀ (H1 : Heap) (locs1 : List Loc), IV g E q N s σ2 H1 locs1 → W p l e R s m args below meth c H1 locs1 cells slots Q (F0 m (pc + 3) ls (.int r :: rest))) : W p l e R s m args below meth c H locs cells slots Q (F0 m pc ls st0) := by
  obtain ⟨hK, hP, hD, hS⟩ := I
  have hA : ∀ z, AQ q N H.size z → AQ q N s.heap.size z := fun z hz => hz.elim Or.inl fun h => Or.inr (Nat.le_trans hS.1 h)
  refine va_calli hr hS (fun z _ h => hA z h) hA (fun r1 u t H1 locs1 ht hvm hw hB hz hk hS1 => ?_)
  obtain ⟨h1, h2, h3⟩ := hB
  rw [ht] at h1
  rw [show r1 = r from hw]
  exact kk H1 locs1 ⟨va_K.moved hvm.symm h2, h1, AQ_D _ h3, hS1⟩
theorem r_calll {st0 : List Value} {a : Array Value} {r : Int64} {σ2 : St} (hr : va_Run p l e R s m args below meth c H locs cells slots 0 0 (F0 m pc ls st0) rest (QL g E q N r σ2 H.size a) (AQ q N H.size)) (I : IV g E q N s σ H locs)
    (kk : ∀ (H1 : Heap) (locs1 : List Loc), IV g E q N s σ2 H1 locs1 → W p l e R s m args below meth c H1 locs1 cells slots Q (F0 m (pc + 3) ls (.long r :: rest))) : W p l e R s m args below meth c H locs cells slots Q (F0 m pc ls st0) := by
  obtain ⟨hK, hP, hD, hS⟩ := I
  have hA : ∀ z, AQ q N H.size z → AQ q N s.heap.size z := fun z hz => hz.elim Or.inl fun h => Or.inr (Nat.le_trans hS.1 h)
  refine va_calll hr hS (fun z _ h => hA z h) hA (fun r1 u t H1 locs1 ht hvm hw hB hz hk hS1 => ?_)
  obtain ⟨h1, h2, h3⟩ := hB
  rw [ht] at h1
  rw [show r1 = r from hw]
  exact kk H1 locs1 ⟨va_K.moved hvm.symm h2, h1, AQ_D _ h3, hS1⟩
theorem r_callv {st0 : List Value} {a : Array Value} {σ2 : St} (hr : va_Run p l e R s m args below meth c H locs cells slots 0 0 (F0 m pc ls st0) rest (QV g E q N σ2 H.size a) (AQ q N H.size)) (I : IV g E q N s σ H locs)
    (kk : ∀ (H1 : Heap) (locs1 : List Loc), IV g E q N s σ2 H1 locs1 → W p l e R s m args below meth c H1 locs1 cells slots Q (F0 m (pc + 3) ls rest)) : W p l e R s m args below meth c H locs cells slots Q (F0 m pc ls st0) := by
  obtain ⟨hK, hP, hD, hS⟩ := I
  have hA : ∀ z, AQ q N H.size z → AQ q N s.heap.size z := fun z hz => hz.elim Or.inl fun h => Or.inr (Nat.le_trans hS.1 h)
  refine va_callv hr hS (fun z _ h => hA z h) hA (fun u t H1 locs1 ht hvm hw hB hz hk hS1 => ?_)
  obtain ⟨h1, h2, h3⟩ := hB
  rw [ht] at h1
  exact kk H1 locs1 ⟨va_K.moved hvm.symm h2, h1, AQ_D _ h3, hS1⟩
theorem PQ_blind {sz : Nat} {av : List Value} : FrameBlind (PQ g E q N σ sz av) := fun a U gf mk h => by
  obtain ⟨q0, q1, qP, qK, qD⟩ := h
  exact ⟨q0, q1, qP, va_K.moved (u := U) (U := U.calling gf mk a) (Vm.Alike.refl U.vm) qK, qD⟩
theorem PQ_at (I : IV g E q N s σ H locs) {av : List Value} : ∀ U : State, U.heap = H → s.WarmedH U.vm → PQ g E q N σ H.size av av.toArray U := fun U hU hW => by
  obtain ⟨hK, hP, hD, hS⟩ := I
  exact ⟨rfl, by rw [hU], by rw [hU]; exact hP, va_K.moved hW.alike hK, AQ_D _ hD⟩
/-- a callee, as the tables have it -/
def KV (C : String) (y : MethodName) (b : ByteArray) (mL : Nat) (rt : Option FieldType) (n : Nat) : Prop :=
  Cond.code y b mL rt ∈ lw_g ∧ Cond.instanceMethod y ∈ lw_g ∧ Cond.selects C y y ∈ lw_g ∧ Cond.initialized y.cls ∈ lw_g ∧ y.cls ≠ "java/lang/invoke/MethodHandle" ∧ y.cls ≠ "java/lang/invoke/VarHandle" ∧ (parseMethodDescriptor y.desc).map (fun d => d.parameters.length) = some n
def KS (y : MethodName) (b : ByteArray) (mL : Nat) (rt : Option FieldType) (n : Nat) : Prop :=
  Cond.code y b mL rt ∈ lw_g ∧ Cond.static y ∈ lw_g ∧ Cond.initialized y.cls ∈ lw_g ∧ y.cls ≠ "java/lang/invoke/MethodHandle" ∧ y.cls ≠ "java/lang/invoke/VarHandle" ∧ (parseMethodDescriptor y.desc).map (fun d => d.parameters.length) = some n
theorem r_runV {rt2 : Option FieldType} (X : MX p s m args meth c cc nL rt own) (I : IV g E q N s σ H locs) {y : MethodName} {b : ByteArray} {mL n index cn ci Nf d : Nat} {C : String} {T : u_T} {As st0 : List Value} {fs : List Value} {Qc : Array Value → State → Outcome → State → Prop}
    (hM : Met l y (wU y b mL rt2) (rmD d) (PQ g E q N σ H.size (.ref (q cn) :: As)) Qc 0 0 (AQ q N H.size)) (ky : KV C y b mL rt2 n) (hl : Cond.methodLink own index y ∈ lw_g) (hcl : vwCl[ci]? = some (C, T, Nf)) (hc : cn < N) (he : E σ cn = .inr (ci, fs)) (hR : d + 1 ≤ R.frames ∧ 8 + (mL + 11) + 40 * d ≤ R.locals) (hz : cells ≤ R.cells ∧ slots ≤ R.slots)
    (hn : As.length = n) (hst : st0 = As.reverse ++ .ref (q cn) :: rest) (hls : ls.size = nL) (hw : (rest.map fun v => v.category).sum ≤ 8) (hdg : decode cc pc = .ok (.invokevirtual index, 3)) : va_Run p l e R s m args below meth c H locs cells slots 0 0 (F0 m pc ls st0) rest (Qc (Value.ref (q cn) :: As).toArray) (AQ q N H.size) := by
  obtain ⟨hx, hb, hr, hml, hown, hts, hlocks⟩ := X
  obtain ⟨k1, k2, k3, k4, k5, k6, k7⟩ := ky
  exact va_runV (C := C) (n := n) (bytes := b) (maxL := mL) (ret := rt2) (rest := rest) (As := As) ⟨hx, hb, hml, hown, hts⟩ hM ⟨callB_of n hts (wU_good k1) rfl rfl rfl (hts _ k4) (hts _ hl) ⟨k5, k6, k7⟩ hR, hts _ k2, hts _ k3⟩ ⟨PQ_blind, va_recv I.1 I.2.1 hcl (by rw [wv_get hc, he]), PQ_at I⟩ rfl hn hls hst (lv_room hw) hdg hz
theorem r_runS {rt2 : Option FieldType} (X : MX p s m args meth c cc nL rt own) (I : IV g E q N s σ H locs) {y : MethodName} {b : ByteArray} {mL n index d : Nat} {As st0 : List Value} {Qc : Array Value → State → Outcome → State → Prop}
    (hM : Met l y (wU y b mL rt2) (rmD d) (PQ g E q N σ H.size As) Qc 0 0 (AQ q N H.size)) (ky : KS y b mL rt2 n) (hl : Cond.methodLink own index y ∈ lw_g) (hR : d + 1 ≤ R.frames ∧ 8 + (mL + 11) + 40 * d ≤ R.locals) (hz : cells ≤ R.cells ∧ slots ≤ R.slots)
    (hn : As.length = n) (hst : st0 = As.reverse ++ rest) (hls : ls.size = nL) (hw : (rest.map fun v => v.category).sum ≤ 8) (hdg : decode cc pc = .ok (.invokestatic index, 3)) : va_Run p l e R s m args below meth c H locs cells slots 0 0 (F0 m pc ls st0) rest (Qc As.toArray) (AQ q N H.size) := by
  obtain ⟨hx, hb, hr, hml, hown, hts, hlocks⟩ := X
  obtain ⟨k1, k2, k4, k5, k6, k7⟩ := ky
  exact va_runS (n := n) (bytes := b) (maxL := mL) (ret := rt2) (rest := rest) (As := As) ⟨hx, hb, hml, hown, hts⟩ hM ⟨callB_of n hts (wU_good k1) rfl rfl rfl (hts _ k4) (hts _ hl) ⟨k5, k6, k7⟩ hR, hts _ k2⟩ ⟨PQ_blind, PQ_at I⟩ rfl hn hls hst (lv_room hw) hdg hz
end R1
/-- a contract out of the walk of its body -/
theorem met_of {l : Launch} {y : MethodName} {cc : ByteArray} {nL d : Nat} {rt : Option FieldType} {g : Gh} {E : St → Nat → va_E} {q : Nat → Nat} {N : Nat} {σ : St} {sz : Nat} {av : List Value} {Qc : Nat → Array Value → State → Outcome → State → Prop} (hy : plainName y.cls = true) (hav : (lg_sl av).length ≤ nL)
    (body : ∀ (p : Program) (e : Env) (s : State) (m : MethodId) (below : List Frame) (meth : Method) (c : Code) (ls : Array Slot), MX p s m av.toArray meth c cc nL rt y.cls → IV g E q N s σ s.heap [] → lv_has ls nL (lv_args 0 av) → W p l e (rmD d) s m av.toArray below meth c s.heap [] 0 0 (MQ below (Qc s.heap.size) av.toArray s 0 0 (AQ q N s.heap.size)) (F0 m 0 ls [])) :
    Met l y (wU y cc nL rt) (rmD d) (PQ g E q N σ sz av) (Qc sz) 0 0 (AQ q N sz) := by
  refine Met.ofW (cc := cc) (maxL := nL) (ret := rt) hy rfl ?_
  intro p e s m args below meth c s₁ B hml hv
  obtain ⟨rfl, hsz, hP, hK, hD⟩ := hv
  subst hsz
  have hts := atoms_spec (ws := wU y cc nL rt) B.pre
  have hl := lv_entry av (n := nL) hav
  rw [lg_entry_eq]
  exact body p e s m below meth c _ ⟨B.exec, B.bytes, B.returns, hml, findClass_of_methodNamed B.named, fun w h => hts w (List.mem_cons_of_mem _ h), B.notSynchronized⟩ ⟨hK, hP, hD, va_S.rf⟩ hl
end
section
theorem lw_sub (ws : List Cond) (ps : List Nat) (h : ws = ps.filterMap (fun i => lw_tbl[i]?)) (hg : ws.all goodWord = true) : ∀ w ∈ ws, w ∈ lw_g := by
  intro w hw
  have h1 := List.all_eq_true.mp hg w hw
  rw [h] at hw
  obtain ⟨i, -, hi⟩ := List.mem_filterMap.mp hw
  exact List.mem_filter.mpr ⟨List.mem_of_getElem? hi, h1⟩
theorem fl_X6_12 : Cond.fieldLink RX6 12 "YearDeck" "trip" "LYearDeck$Ride;" ∈ lw_g := lw_mem 162 (by decide +kernel) rfl
theorem fl_X6_21 : Cond.fieldLink RX6 21 "YearDeck" "read" "LYearDeck$Readings;" ∈ lw_g := lw_mem 163 (by decide +kernel) rfl
theorem fl_X6_27 : Cond.fieldLink RX6 27 "YearDeck" "sheets" "[LYearDeck$Sheet;" ∈ lw_g := lw_mem 164 (by decide +kernel) rfl
theorem fl_X6_31 : Cond.fieldLink RX6 31 "YearDeck" "sitting" "[I" ∈ lw_g := lw_mem 165 (by decide +kernel) rfl
theorem fl_X6_35 : Cond.fieldLink RX6 35 "YearDeck" "traced" "I" ∈ lw_g := lw_mem 166 (by decide +kernel) rfl
theorem fl_X6_39 : Cond.fieldLink RX6 39 "YearDeck" "lastFault" "I" ∈ lw_g := lw_mem 167 (by decide +kernel) rfl
theorem fl_X6_68 : Cond.fieldLink RX6 68 "YearDeck$Readings" "count" "I" ∈ lw_g := lw_mem 133 (by decide +kernel) rfl
theorem fl_X6_71 : Cond.fieldLink RX6 71 "YearDeck$Ride" "count" "I" ∈ lw_g := lw_mem 109 (by decide +kernel) rfl
theorem fl_X6_75 : Cond.fieldLink RX6 75 "YearDeck$Ride" "riders" "[LYearDeck$Rider;" ∈ lw_g := lw_mem 102 (by decide +kernel) rfl
theorem fl_X6_79 : Cond.fieldLink RX6 79 "YearDeck$Rider" "kind" "I" ∈ lw_g := lw_mem 75 (by decide +kernel) rfl
theorem fl_X6_84 : Cond.fieldLink RX6 84 "YearDeck$Rider" "on" "I" ∈ lw_g := lw_mem 77 (by decide +kernel) rfl
theorem fl_X6_87 : Cond.fieldLink RX6 87 "YearDeck$Rider" "off" "I" ∈ lw_g := lw_mem 79 (by decide +kernel) rfl
theorem fl_X6_90 : Cond.fieldLink RX6 90 "YearDeck$Rider" "years" "I" ∈ lw_g := lw_mem 81 (by decide +kernel) rfl
theorem fl_X6_93 : Cond.fieldLink RX6 93 "YearDeck$Rider" "want" "I" ∈ lw_g := lw_mem 84 (by decide +kernel) rfl
theorem fl_X6_103 : Cond.fieldLink RX6 103 "YearDeck$Ride" "steep" "[I" ∈ lw_g := lw_mem 99 (by decide +kernel) rfl
theorem fl_X6_114 : Cond.fieldLink RX6 114 "YearDeck$Ride" "seats" "I" ∈ lw_g := lw_mem 105 (by decide +kernel) rfl
theorem fl_X6_211 : Cond.fieldLink RX6 211 "YearDeck$Sheet" "lane" "I" ∈ lw_g := lw_mem 153 (by decide +kernel) rfl
theorem fl_X6_217 : Cond.fieldLink RX6 217 "YearDeck$Sheet" "cells" "[I" ∈ lw_g := lw_mem 151 (by decide +kernel) rfl
theorem fl_X6_240 : Cond.fieldLink RX6 240 "YearDeck$Ride" "sections" "I" ∈ lw_g := lw_mem 107 (by decide +kernel) rfl
theorem fl_X1_9 : Cond.fieldLink RX1 9 "YearDeck$Readings" "who" "[I" ∈ lw_g := lw_mem 129 (by decide +kernel) rfl
theorem fl_X1_15 : Cond.fieldLink RX1 15 "YearDeck$Readings" "sets" "[I" ∈ lw_g := lw_mem 130 (by decide +kernel) rfl
theorem fl_X1_18 : Cond.fieldLink RX1 18 "YearDeck$Readings" "years" "[I" ∈ lw_g := lw_mem 131 (by decide +kernel) rfl
theorem fl_X1_21 : Cond.fieldLink RX1 21 "YearDeck$Readings" "count" "I" ∈ lw_g := lw_mem 132 (by decide +kernel) rfl
theorem fl_X1_25 : Cond.fieldLink RX1 25 "YearDeck$Ride" "riders" "[LYearDeck$Rider;" ∈ lw_g := lw_mem 101 (by decide +kernel) rfl
theorem fl_X2_9 : Cond.fieldLink RX2 9 "YearDeck$Ride" "steep" "[I" ∈ lw_g := lw_mem 98 (by decide +kernel) rfl
theorem fl_X2_17 : Cond.fieldLink RX2 17 "YearDeck$Ride" "riders" "[LYearDeck$Rider;" ∈ lw_g := lw_mem 100 (by decide +kernel) rfl
theorem fl_X2_21 : Cond.fieldLink RX2 21 "YearDeck$Ride" "rightSets" "[I" ∈ lw_g := lw_mem 103 (by decide +kernel) rfl
theorem fl_X2_24 : Cond.fieldLink RX2 24 "YearDeck$Ride" "seats" "I" ∈ lw_g := lw_mem 104 (by decide +kernel) rfl
theorem fl_X2_28 : Cond.fieldLink RX2 28 "YearDeck$Ride" "sections" "I" ∈ lw_g := lw_mem 106 (by decide +kernel) rfl
theorem fl_X2_31 : Cond.fieldLink RX2 31 "YearDeck$Ride" "count" "I" ∈ lw_g := lw_mem 108 (by decide +kernel) rfl
theorem fl_X2_60 : Cond.fieldLink RX2 60 "YearDeck$Rider" "years" "I" ∈ lw_g := lw_mem 82 (by decide +kernel) rfl
theorem fl_X2_70 : Cond.fieldLink RX2 70 "YearDeck$Rider" "want" "I" ∈ lw_g := lw_mem 85 (by decide +kernel) rfl
theorem fl_X4_9 : Cond.fieldLink RX4 9 "YearDeck$Rider" "kind" "I" ∈ lw_g := lw_mem 74 (by decide +kernel) rfl
theorem fl_X4_15 : Cond.fieldLink RX4 15 "YearDeck$Rider" "on" "I" ∈ lw_g := lw_mem 76 (by decide +kernel) rfl
theorem fl_X4_18 : Cond.fieldLink RX4 18 "YearDeck$Rider" "off" "I" ∈ lw_g := lw_mem 78 (by decide +kernel) rfl
theorem fl_X4_21 : Cond.fieldLink RX4 21 "YearDeck$Rider" "years" "I" ∈ lw_g := lw_mem 80 (by decide +kernel) rfl
theorem fl_X4_24 : Cond.fieldLink RX4 24 "YearDeck$Rider" "want" "I" ∈ lw_g := lw_mem 83 (by decide +kernel) rfl
theorem fl_X5_9 : Cond.fieldLink RX5 9 "YearDeck$Sheet" "cells" "[I" ∈ lw_g := lw_mem 150 (by decide +kernel) rfl
theorem fl_X5_15 : Cond.fieldLink RX5 15 "YearDeck$Sheet" "lane" "I" ∈ lw_g := lw_mem 152 (by decide +kernel) rfl
theorem fl_X5_19 : Cond.fieldLink RX5 19 "YearDeck$Sheet" "length" "I" ∈ lw_g := lw_mem 154 (by decide +kernel) rfl
theorem fl_X7_7 : Cond.fieldLink RX7 7 "YearDeckModel" "slopeOf" "[I" ∈ lw_g := lw_mem 545 (by decide +kernel) rfl
theorem fl_X7_13 : Cond.fieldLink RX7 13 "YearDeckModel" "kindOf" "[I" ∈ lw_g := lw_mem 547 (by decide +kernel) rfl
theorem fl_X7_16 : Cond.fieldLink RX7 16 "YearDeckModel" "onOf" "[I" ∈ lw_g := lw_mem 548 (by decide +kernel) rfl
theorem fl_X7_19 : Cond.fieldLink RX7 19 "YearDeckModel" "offOf" "[I" ∈ lw_g := lw_mem 549 (by decide +kernel) rfl
theorem fl_X7_22 : Cond.fieldLink RX7 22 "YearDeckModel" "ageOf" "[I" ∈ lw_g := lw_mem 550 (by decide +kernel) rfl
theorem fl_X7_25 : Cond.fieldLink RX7 25 "YearDeckModel" "wantOf" "[I" ∈ lw_g := lw_mem 551 (by decide +kernel) rfl
theorem fl_X7_28 : Cond.fieldLink RX7 28 "YearDeckModel" "readSlope" "[I" ∈ lw_g := lw_mem 556 (by decide +kernel) rfl
theorem fl_X7_31 : Cond.fieldLink RX7 31 "YearDeckModel" "readKind" "[I" ∈ lw_g := lw_mem 557 (by decide +kernel) rfl
theorem fl_X7_34 : Cond.fieldLink RX7 34 "YearDeckModel" "readOn" "[I" ∈ lw_g := lw_mem 558 (by decide +kernel) rfl
theorem fl_X7_37 : Cond.fieldLink RX7 37 "YearDeckModel" "readOff" "[I" ∈ lw_g := lw_mem 559 (by decide +kernel) rfl
theorem fl_X7_40 : Cond.fieldLink RX7 40 "YearDeckModel" "readAge" "[I" ∈ lw_g := lw_mem 560 (by decide +kernel) rfl
theorem fl_X7_43 : Cond.fieldLink RX7 43 "YearDeckModel" "readWant" "[I" ∈ lw_g := lw_mem 561 (by decide +kernel) rfl
theorem fl_X7_46 : Cond.fieldLink RX7 46 "YearDeckModel" "canBe" "[Z" ∈ lw_g := lw_mem 562 (by decide +kernel) rfl
theorem fl_X7_50 : Cond.fieldLink RX7 50 "YearDeckModel" "canThen" "[Z" ∈ lw_g := lw_mem 563 (by decide +kernel) rfl
theorem fl_X7_53 : Cond.fieldLink RX7 53 "YearDeckModel" "readingOf" "[I" ∈ lw_g := lw_mem 565 (by decide +kernel) rfl
theorem fl_X7_56 : Cond.fieldLink RX7 56 "YearDeckModel" "readingBy" "[I" ∈ lw_g := lw_mem 566 (by decide +kernel) rfl
theorem fl_X7_59 : Cond.fieldLink RX7 59 "YearDeckModel" "readingWas" "[I" ∈ lw_g := lw_mem 567 (by decide +kernel) rfl
theorem fl_X7_62 : Cond.fieldLink RX7 62 "YearDeckModel" "sheetSize" "[I" ∈ lw_g := lw_mem 568 (by decide +kernel) rfl
theorem fl_X7_65 : Cond.fieldLink RX7 65 "YearDeckModel" "sheetLane" "[I" ∈ lw_g := lw_mem 569 (by decide +kernel) rfl
theorem fl_X7_68 : Cond.fieldLink RX7 68 "YearDeckModel" "sheet" "[I" ∈ lw_g := lw_mem 570 (by decide +kernel) rfl
theorem fl_X7_71 : Cond.fieldLink RX7 71 "YearDeckModel" "hands" "[I" ∈ lw_g := lw_mem 571 (by decide +kernel) rfl
theorem fl_X7_76 : Cond.fieldLink RX7 76 "YearDeckModel" "fault" "I" ∈ lw_g := lw_mem 542 (by decide +kernel) rfl
theorem fl_X7_84 : Cond.fieldLink RX7 84 "YearDeckModel" "sections" "I" ∈ lw_g := lw_mem 544 (by decide +kernel) rfl
theorem fl_X7_91 : Cond.fieldLink RX7 91 "YearDeckModel" "riders" "I" ∈ lw_g := lw_mem 546 (by decide +kernel) rfl
theorem fl_X7_98 : Cond.fieldLink RX7 98 "YearDeckModel" "readAt" "I" ∈ lw_g := lw_mem 552 (by decide +kernel) rfl
theorem fl_X7_109 : Cond.fieldLink RX7 109 "YearDeckModel" "readSections" "I" ∈ lw_g := lw_mem 554 (by decide +kernel) rfl
theorem fl_X7_112 : Cond.fieldLink RX7 112 "YearDeckModel" "readRiders" "I" ∈ lw_g := lw_mem 555 (by decide +kernel) rfl
theorem fl_X7_119 : Cond.fieldLink RX7 119 "YearDeckModel" "readSeats" "I" ∈ lw_g := lw_mem 553 (by decide +kernel) rfl
theorem fl_X7_152 : Cond.fieldLink RX7 152 "YearDeckModel" "seats" "I" ∈ lw_g := lw_mem 543 (by decide +kernel) rfl
theorem fl_X7_155 : Cond.fieldLink RX7 155 "YearDeckModel" "readings" "I" ∈ lw_g := lw_mem 564 (by decide +kernel) rfl
theorem fl_X7_239 : Cond.fieldLink RX7 239 "YearDeckModel" "traceNow" "I" ∈ lw_g := lw_mem 572 (by decide +kernel) rfl
theorem ml_X6_11 : Cond.methodLink RX6 11 yX2_init ∈ lw_g := lw_mem 63 (by decide +kernel) rfl
theorem ml_X6_43 : Cond.methodLink RX6 43 yX6_isSheet ∈ lw_g := lw_mem 185 (by decide +kernel) rfl
theorem ml_X6_47 : Cond.methodLink RX6 47 yX6_isLane ∈ lw_g := lw_mem 191 (by decide +kernel) rfl
theorem ml_X6_50 : Cond.methodLink RX6 50 yX5_faultOfCells ∈ lw_g := lw_mem 194 (by decide +kernel) rfl
theorem ml_X6_54 : Cond.methodLink RX6 54 yX6_failed ∈ lw_g := lw_mem 210 (by decide +kernel) rfl
theorem ml_X6_58 : Cond.methodLink RX6 58 yX3_firstFault ∈ lw_g := lw_mem 214 (by decide +kernel) rfl
theorem ml_X6_64 : Cond.methodLink RX6 64 yX2_board ∈ lw_g := lw_mem 243 (by decide +kernel) rfl
theorem ml_X6_72 : Cond.methodLink RX6 72 yX2_hasRider ∈ lw_g := lw_mem 267 (by decide +kernel) rfl
theorem ml_X6_96 : Cond.methodLink RX6 96 yX4_own ∈ lw_g := lw_mem 271 (by decide +kernel) rfl
theorem ml_X6_100 : Cond.methodLink RX6 100 yX2_hasSection ∈ lw_g := lw_mem 279 (by decide +kernel) rfl
theorem ml_X6_106 : Cond.methodLink RX6 106 yX6_within ∈ lw_g := lw_mem 188 (by decide +kernel) rfl
theorem ml_X6_110 : Cond.methodLink RX6 110 yX2_isTold ∈ lw_g := lw_mem 291 (by decide +kernel) rfl
theorem ml_X6_117 : Cond.methodLink RX6 117 yX4_yearsAbove ∈ lw_g := lw_mem 303 (by decide +kernel) rfl
theorem ml_X6_120 : Cond.methodLink RX6 120 yX4_owns ∈ lw_g := lw_mem 311 (by decide +kernel) rfl
theorem ml_X6_123 : Cond.methodLink RX6 123 yX2_yearsOff ∈ lw_g := lw_mem 316 (by decide +kernel) rfl
theorem ml_X6_127 : Cond.methodLink RX6 127 yX6_isSittingQuestion ∈ lw_g := lw_mem 325 (by decide +kernel) rfl
theorem ml_X6_130 : Cond.methodLink RX6 130 yX6_takeSitting ∈ lw_g := lw_mem 328 (by decide +kernel) rfl
theorem ml_X6_134 : Cond.methodLink RX6 134 yX6_ofSitting ∈ lw_g := lw_mem 333 (by decide +kernel) rfl
theorem ml_X6_137 : Cond.methodLink RX6 137 yX5_at ∈ lw_g := lw_mem 332 (by decide +kernel) rfl
theorem ml_X6_140 : Cond.methodLink RX6 140 yX0_of ∈ lw_g := lw_mem 337 (by decide +kernel) rfl
theorem ml_X6_145 : Cond.methodLink RX6 145 yX2_firstOver ∈ lw_g := lw_mem 340 (by decide +kernel) rfl
theorem ml_X6_148 : Cond.methodLink RX6 148 yX0_on ∈ lw_g := lw_mem 347 (by decide +kernel) rfl
theorem ml_X6_151 : Cond.methodLink RX6 151 yX6_eldest ∈ lw_g := lw_mem 348 (by decide +kernel) rfl
theorem ml_X6_154 : Cond.methodLink RX6 154 yX6_rightOnes ∈ lw_g := lw_mem 352 (by decide +kernel) rfl
theorem ml_X6_157 : Cond.methodLink RX6 157 yJ6_bitCount_0f7a4 ∈ lw_g := lw_mem 361 (by decide +kernel) rfl
theorem ml_X6_162 : Cond.methodLink RX6 162 yX2_isRight ∈ lw_g := lw_mem 356 (by decide +kernel) rfl
theorem ml_X6_166 : Cond.methodLink RX6 166 yX2_canSitAlone ∈ lw_g := lw_mem 371 (by decide +kernel) rfl
theorem ml_X6_169 : Cond.methodLink RX6 169 yX2_agreeing ∈ lw_g := lw_mem 384 (by decide +kernel) rfl
theorem ml_X6_173 : Cond.methodLink RX6 173 yX2_firstOf ∈ lw_g := lw_mem 396 (by decide +kernel) rfl
theorem ml_X6_176 : Cond.methodLink RX6 176 yX2_otherOf ∈ lw_g := lw_mem 399 (by decide +kernel) rfl
theorem ml_X6_179 : Cond.methodLink RX6 179 yX2_mostRight ∈ lw_g := lw_mem 406 (by decide +kernel) rfl
theorem ml_X6_182 : Cond.methodLink RX6 182 yX1_append ∈ lw_g := lw_mem 423 (by decide +kernel) rfl
theorem ml_X6_186 : Cond.methodLink RX6 186 yX1_allHold ∈ lw_g := lw_mem 435 (by decide +kernel) rfl
theorem ml_X6_192 : Cond.methodLink RX6 192 yX5_renew ∈ lw_g := lw_mem 457 (by decide +kernel) rfl
theorem ml_X6_196 : Cond.methodLink RX6 196 yX5_hasRow ∈ lw_g := lw_mem 465 (by decide +kernel) rfl
theorem ml_X6_199 : Cond.methodLink RX6 199 yX5_drop ∈ lw_g := lw_mem 466 (by decide +kernel) rfl
theorem ml_X6_202 : Cond.methodLink RX6 202 yX5_hasCell ∈ lw_g := lw_mem 474 (by decide +kernel) rfl
theorem ml_X6_205 : Cond.methodLink RX6 205 yX5_write ∈ lw_g := lw_mem 475 (by decide +kernel) rfl
theorem ml_X6_208 : Cond.methodLink RX6 208 yX5_faultOfRow ∈ lw_g := lw_mem 487 (by decide +kernel) rfl
theorem ml_X6_214 : Cond.methodLink RX6 214 yX5_hasCells ∈ lw_g := lw_mem 492 (by decide +kernel) rfl
theorem ml_X6_226 : Cond.methodLink RX6 226 yX6_toldAsRider ∈ lw_g := lw_mem 500 (by decide +kernel) rfl
theorem ml_X6_230 : Cond.methodLink RX6 230 yX6_toldAsLad ∈ lw_g := lw_mem 508 (by decide +kernel) rfl
theorem ml_X6_233 : Cond.methodLink RX6 233 yX6_toldAsElder ∈ lw_g := lw_mem 512 (by decide +kernel) rfl
theorem ml_X6_236 : Cond.methodLink RX6 236 yX6_beginBody ∈ lw_g := lw_mem 504 (by decide +kernel) rfl
theorem ml_X1_31 : Cond.methodLink RX1 31 yX2_yearsOff ∈ lw_g := lw_mem 439 (by decide +kernel) rfl
theorem ml_X2_35 : Cond.methodLink RX2 35 yX5_at ∈ lw_g := lw_mem 247 (by decide +kernel) rfl
theorem ml_X2_41 : Cond.methodLink RX2 41 yX3_digit ∈ lw_g := lw_mem 248 (by decide +kernel) rfl
theorem ml_X2_46 : Cond.methodLink RX2 46 yX3_sectionsTold ∈ lw_g := lw_mem 249 (by decide +kernel) rfl
theorem ml_X2_50 : Cond.methodLink RX2 50 yJ9_min_7cf53 ∈ lw_g := lw_mem 250 (by decide +kernel) rfl
theorem ml_X2_56 : Cond.methodLink RX2 56 yX4_board ∈ lw_g := lw_mem 253 (by decide +kernel) rfl
theorem ml_X2_63 : Cond.methodLink RX2 63 yX4_yearsAbove ∈ lw_g := lw_mem 320 (by decide +kernel) rfl
theorem ml_X2_66 : Cond.methodLink RX2 66 yX2_yearsOff ∈ lw_g := lw_mem 360 (by decide +kernel) rfl
theorem ml_X2_73 : Cond.methodLink RX2 73 yX4_owns ∈ lw_g := lw_mem 375 (by decide +kernel) rfl
theorem ml_X2_77 : Cond.methodLink RX2 77 yX0_on ∈ lw_g := lw_mem 344 (by decide +kernel) rfl
theorem ml_X2_82 : Cond.methodLink RX2 82 yX4_own ∈ lw_g := lw_mem 388 (by decide +kernel) rfl
theorem ml_X2_86 : Cond.methodLink RX2 86 yJ6_bitCount_0f7a4 ∈ lw_g := lw_mem 389 (by decide +kernel) rfl
theorem ml_X2_91 : Cond.methodLink RX2 91 yX2_bothAgree ∈ lw_g := lw_mem 390 (by decide +kernel) rfl
theorem ml_X2_95 : Cond.methodLink RX2 95 yX0_of ∈ lw_g := lw_mem 394 (by decide +kernel) rfl
theorem ml_X2_98 : Cond.methodLink RX2 98 yX2_firstOver ∈ lw_g := lw_mem 395 (by decide +kernel) rfl
theorem ml_X2_101 : Cond.methodLink RX2 101 yX2_setsToBeRight ∈ lw_g := lw_mem 410 (by decide +kernel) rfl
theorem ml_X2_105 : Cond.methodLink RX2 105 yX2_canAllBeRight ∈ lw_g := lw_mem 415 (by decide +kernel) rfl
theorem ml_X2_109 : Cond.methodLink RX2 109 yX2_isRight ∈ lw_g := lw_mem 414 (by decide +kernel) rfl
theorem ml_X3_9 : Cond.methodLink RX3 9 yX3_sectionsTold ∈ lw_g := lw_mem 217 (by decide +kernel) rfl
theorem ml_X3_15 : Cond.methodLink RX3 15 yX3_goesOn ∈ lw_g := lw_mem 231 (by decide +kernel) rfl
theorem ml_X3_19 : Cond.methodLink RX3 19 yX5_at ∈ lw_g := lw_mem 220 (by decide +kernel) rfl
theorem ml_X3_25 : Cond.methodLink RX3 25 yX3_isDigit ∈ lw_g := lw_mem 228 (by decide +kernel) rfl
theorem ml_X3_29 : Cond.methodLink RX3 29 yX3_riderGoesOn ∈ lw_g := lw_mem 234 (by decide +kernel) rfl
theorem ml_X3_32 : Cond.methodLink RX3 32 yX3_kindOf ∈ lw_g := lw_mem 237 (by decide +kernel) rfl
theorem ml_X3_35 : Cond.methodLink RX3 35 yX3_digit ∈ lw_g := lw_mem 240 (by decide +kernel) rfl
theorem ml_X4_27 : Cond.methodLink RX4 27 yX5_at ∈ lw_g := lw_mem 257 (by decide +kernel) rfl
theorem ml_X4_33 : Cond.methodLink RX4 33 yX3_kindOf ∈ lw_g := lw_mem 258 (by decide +kernel) rfl
theorem ml_X4_38 : Cond.methodLink RX4 38 yX3_digit ∈ lw_g := lw_mem 259 (by decide +kernel) rfl
theorem ml_X4_41 : Cond.methodLink RX4 41 yX4_twoDigits ∈ lw_g := lw_mem 260 (by decide +kernel) rfl
theorem ml_X4_45 : Cond.methodLink RX4 45 yX4_own ∈ lw_g := lw_mem 315 (by decide +kernel) rfl
theorem ml_X5_22 : Cond.methodLink RX5 22 yX5_hasCell ∈ lw_g := lw_mem 224 (by decide +kernel) rfl
theorem ml_X5_26 : Cond.methodLink RX5 26 yX5_cutToLane ∈ lw_g := lw_mem 479 (by decide +kernel) rfl
theorem ml_X5_30 : Cond.methodLink RX5 30 yX5_hasRow ∈ lw_g := lw_mem 202 (by decide +kernel) rfl
theorem ml_X5_34 : Cond.methodLink RX5 34 yX5_faultOfRow ∈ lw_g := lw_mem 198 (by decide +kernel) rfl
theorem ml_X5_37 : Cond.methodLink RX5 37 yX5_hasCells ∈ lw_g := lw_mem 206 (by decide +kernel) rfl
theorem ml_L_9 : Cond.methodLink RL 9 yX6_init ∈ lw_g := lw_mem 55 (by decide +kernel) rfl
theorem ml_L_12 : Cond.methodLink RL 12 yX7_init ∈ lw_g := lw_mem 538 (by decide +kernel) rfl
theorem ml_L_13 : Cond.methodLink RL 13 yX6_ride ∈ lw_g := lw_mem 181 (by decide +kernel) rfl
theorem ml_L_17 : Cond.methodLink RL 17 yX7_ride ∈ lw_g := lw_mem 637 (by decide +kernel) rfl
theorem ml_L_18 : Cond.methodLink RL 18 yX6_ofRider ∈ lw_g := lw_mem 263 (by decide +kernel) rfl
theorem ml_L_22 : Cond.methodLink RL 22 yX7_ofRider ∈ lw_g := lw_mem 688 (by decide +kernel) rfl
theorem ml_L_23 : Cond.methodLink RL 23 yX6_slope ∈ lw_g := lw_mem 275 (by decide +kernel) rfl
theorem ml_L_27 : Cond.methodLink RL 27 yX7_slope ∈ lw_g := lw_mem 700 (by decide +kernel) rfl
theorem ml_L_28 : Cond.methodLink RL 28 yX6_tilt ∈ lw_g := lw_mem 283 (by decide +kernel) rfl
theorem ml_L_31 : Cond.methodLink RL 31 yX7_tilt ∈ lw_g := lw_mem 708 (by decide +kernel) rfl
theorem ml_L_32 : Cond.methodLink RL 32 yX6_seat ∈ lw_g := lw_mem 287 (by decide +kernel) rfl
theorem ml_L_35 : Cond.methodLink RL 35 yX7_seat ∈ lw_g := lw_mem 712 (by decide +kernel) rfl
theorem ml_L_36 : Cond.methodLink RL 36 yX6_wish ∈ lw_g := lw_mem 295 (by decide +kernel) rfl
theorem ml_L_39 : Cond.methodLink RL 39 yX7_wish ∈ lw_g := lw_mem 716 (by decide +kernel) rfl
theorem ml_L_40 : Cond.methodLink RL 40 yX6_gain ∈ lw_g := lw_mem 299 (by decide +kernel) rfl
theorem ml_L_43 : Cond.methodLink RL 43 yX7_gain ∈ lw_g := lw_mem 721 (by decide +kernel) rfl
theorem ml_L_44 : Cond.methodLink RL 44 yX6_age ∈ lw_g := lw_mem 307 (by decide +kernel) rfl
theorem ml_L_47 : Cond.methodLink RL 47 yX7_age ∈ lw_g := lw_mem 729 (by decide +kernel) rfl
theorem ml_L_48 : Cond.methodLink RL 48 yX6_sit ∈ lw_g := lw_mem 321 (by decide +kernel) rfl
theorem ml_L_52 : Cond.methodLink RL 52 yX7_sit ∈ lw_g := lw_mem 744 (by decide +kernel) rfl
theorem ml_L_53 : Cond.methodLink RL 53 yX6_way ∈ lw_g := lw_mem 367 (by decide +kernel) rfl
theorem ml_L_56 : Cond.methodLink RL 56 yX7_way ∈ lw_g := lw_mem 767 (by decide +kernel) rfl
theorem ml_L_57 : Cond.methodLink RL 57 yX6_spread ∈ lw_g := lw_mem 376 (by decide +kernel) rfl
theorem ml_L_60 : Cond.methodLink RL 60 yX7_spread ∈ lw_g := lw_mem 776 (by decide +kernel) rfl
theorem ml_L_61 : Cond.methodLink RL 61 yX6_agree ∈ lw_g := lw_mem 380 (by decide +kernel) rfl
theorem ml_L_65 : Cond.methodLink RL 65 yX7_agree ∈ lw_g := lw_mem 781 (by decide +kernel) rfl
theorem ml_L_66 : Cond.methodLink RL 66 yX6_most ∈ lw_g := lw_mem 402 (by decide +kernel) rfl
theorem ml_L_70 : Cond.methodLink RL 70 yX7_most ∈ lw_g := lw_mem 789 (by decide +kernel) rfl
theorem ml_L_71 : Cond.methodLink RL 71 yX6_reading ∈ lw_g := lw_mem 419 (by decide +kernel) rfl
theorem ml_L_74 : Cond.methodLink RL 74 yX7_reading ∈ lw_g := lw_mem 809 (by decide +kernel) rfl
theorem ml_L_75 : Cond.methodLink RL 75 yX6_back ∈ lw_g := lw_mem 427 (by decide +kernel) rfl
theorem ml_L_78 : Cond.methodLink RL 78 yX7_back ∈ lw_g := lw_mem 813 (by decide +kernel) rfl
theorem ml_L_79 : Cond.methodLink RL 79 yX6_slopes ∈ lw_g := lw_mem 431 (by decide +kernel) rfl
theorem ml_L_82 : Cond.methodLink RL 82 yX7_slopes ∈ lw_g := lw_mem 817 (by decide +kernel) rfl
theorem ml_L_83 : Cond.methodLink RL 83 yX6_kinds ∈ lw_g := lw_mem 440 (by decide +kernel) rfl
theorem ml_L_86 : Cond.methodLink RL 86 yX7_kinds ∈ lw_g := lw_mem 825 (by decide +kernel) rfl
theorem ml_L_87 : Cond.methodLink RL 87 yX6_began ∈ lw_g := lw_mem 444 (by decide +kernel) rfl
theorem ml_L_90 : Cond.methodLink RL 90 yX7_began ∈ lw_g := lw_mem 829 (by decide +kernel) rfl
theorem ml_L_91 : Cond.methodLink RL 91 yX6_odds ∈ lw_g := lw_mem 448 (by decide +kernel) rfl
theorem ml_L_95 : Cond.methodLink RL 95 yX7_odds ∈ lw_g := lw_mem 833 (by decide +kernel) rfl
theorem ml_L_96 : Cond.methodLink RL 96 yX6_sheet ∈ lw_g := lw_mem 453 (by decide +kernel) rfl
theorem ml_L_99 : Cond.methodLink RL 99 yX7_sheet ∈ lw_g := lw_mem 844 (by decide +kernel) rfl
theorem ml_L_100 : Cond.methodLink RL 100 yX6_lose ∈ lw_g := lw_mem 461 (by decide +kernel) rfl
theorem ml_L_103 : Cond.methodLink RL 103 yX7_lose ∈ lw_g := lw_mem 848 (by decide +kernel) rfl
theorem ml_L_104 : Cond.methodLink RL 104 yX6_put ∈ lw_g := lw_mem 470 (by decide +kernel) rfl
theorem ml_L_107 : Cond.methodLink RL 107 yX7_put ∈ lw_g := lw_mem 852 (by decide +kernel) rfl
theorem ml_L_108 : Cond.methodLink RL 108 yX6_cell ∈ lw_g := lw_mem 483 (by decide +kernel) rfl
theorem ml_L_111 : Cond.methodLink RL 111 yX7_cell ∈ lw_g := lw_mem 860 (by decide +kernel) rfl
theorem ml_L_112 : Cond.methodLink RL 112 yX6_copy ∈ lw_g := lw_mem 488 (by decide +kernel) rfl
theorem ml_L_115 : Cond.methodLink RL 115 yX7_copy ∈ lw_g := lw_mem 868 (by decide +kernel) rfl
theorem ml_L_116 : Cond.methodLink RL 116 yX6_tell ∈ lw_g := lw_mem 496 (by decide +kernel) rfl
theorem ml_L_119 : Cond.methodLink RL 119 yX7_tell ∈ lw_g := lw_mem 872 (by decide +kernel) rfl
theorem ml_L_120 : Cond.methodLink RL 120 yX6_ring ∈ lw_g := lw_mem 516 (by decide +kernel) rfl
theorem ml_L_123 : Cond.methodLink RL 123 yX7_ring ∈ lw_g := lw_mem 880 (by decide +kernel) rfl
theorem ml_L_124 : Cond.methodLink RL 124 yX6_as ∈ lw_g := lw_mem 520 (by decide +kernel) rfl
theorem ml_L_127 : Cond.methodLink RL 127 yX7_as ∈ lw_g := lw_mem 884 (by decide +kernel) rfl
theorem ml_L_128 : Cond.methodLink RL 128 yX6_trace ∈ lw_g := lw_mem 524 (by decide +kernel) rfl
theorem ml_L_131 : Cond.methodLink RL 131 yX7_trace ∈ lw_g := lw_mem 888 (by decide +kernel) rfl
theorem ml_L_132 : Cond.methodLink RL 132 yX6_fault ∈ lw_g := lw_mem 528 (by decide +kernel) rfl
theorem ml_L_135 : Cond.methodLink RL 135 yX7_fault ∈ lw_g := lw_mem 892 (by decide +kernel) rfl
theorem ml_L_136 : Cond.methodLink RL 136 yX6_many ∈ lw_g := lw_mem 532 (by decide +kernel) rfl
theorem ml_L_139 : Cond.methodLink RL 139 yX7_many ∈ lw_g := lw_mem 896 (by decide +kernel) rfl
theorem ml_X7_80 : Cond.methodLink RX7 80 yX7_lost ∈ lw_g := lw_mem 837 (by decide +kernel) rfl
theorem ml_X7_87 : Cond.methodLink RX7 87 yX7_in ∈ lw_g := lw_mem 645 (by decide +kernel) rfl
theorem ml_X7_94 : Cond.methodLink RX7 94 yX7_allOf ∈ lw_g := lw_mem 696 (by decide +kernel) rfl
theorem ml_X7_101 : Cond.methodLink RX7 101 yX7_codeAt ∈ lw_g := lw_mem 668 (by decide +kernel) rfl
theorem ml_X7_105 : Cond.methodLink RX7 105 yX7_figure ∈ lw_g := lw_mem 672 (by decide +kernel) rfl
theorem ml_X7_115 : Cond.methodLink RX7 115 yX7_twoFigures ∈ lw_g := lw_mem 684 (by decide +kernel) rfl
theorem ml_X7_122 : Cond.methodLink RX7 122 yX7_readsSections ∈ lw_g := lw_mem 676 (by decide +kernel) rfl
theorem ml_X7_126 : Cond.methodLink RX7 126 yX7_readsRider ∈ lw_g := lw_mem 680 (by decide +kernel) rfl
theorem ml_X7_129 : Cond.methodLink RX7 129 yX7_failed ∈ lw_g := lw_mem 657 (by decide +kernel) rfl
theorem ml_X7_132 : Cond.methodLink RX7 132 yX7_isBeyond ∈ lw_g := lw_mem 661 (by decide +kernel) rfl
theorem ml_X7_136 : Cond.methodLink RX7 136 yX7_noSheet ∈ lw_g := lw_mem 641 (by decide +kernel) rfl
theorem ml_X7_140 : Cond.methodLink RX7 140 yX7_refused ∈ lw_g := lw_mem 648 (by decide +kernel) rfl
theorem ml_X7_145 : Cond.methodLink RX7 145 yX7_cellsBarred ∈ lw_g := lw_mem 653 (by decide +kernel) rfl
theorem ml_X7_149 : Cond.methodLink RX7 149 yX7_readsRide ∈ lw_g := lw_mem 664 (by decide +kernel) rfl
theorem ml_X7_158 : Cond.methodLink RX7 158 yX7_noRider ∈ lw_g := lw_mem 692 (by decide +kernel) rfl
theorem ml_X7_161 : Cond.methodLink RX7 161 yX7_noSection ∈ lw_g := lw_mem 704 (by decide +kernel) rfl
theorem ml_X7_168 : Cond.methodLink RX7 168 yX7_gainOf ∈ lw_g := lw_mem 725 (by decide +kernel) rfl
theorem ml_X7_171 : Cond.methodLink RX7 171 yX7_isIn ∈ lw_g := lw_mem 741 (by decide +kernel) rfl
theorem ml_X7_174 : Cond.methodLink RX7 174 yX7_noSetOf ∈ lw_g := lw_mem 733 (by decide +kernel) rfl
theorem ml_X7_177 : Cond.methodLink RX7 177 yX7_ageBy ∈ lw_g := lw_mem 737 (by decide +kernel) rfl
theorem ml_X7_180 : Cond.methodLink RX7 180 yX7_aboveOn ∈ lw_g := lw_mem 760 (by decide +kernel) rfl
theorem ml_X7_183 : Cond.methodLink RX7 183 yX7_wrongIn ∈ lw_g := lw_mem 756 (by decide +kernel) rfl
theorem ml_X7_186 : Cond.methodLink RX7 186 yX7_bits ∈ lw_g := lw_mem 764 (by decide +kernel) rfl
theorem ml_X7_197 : Cond.methodLink RX7 197 yX7_sitBy ∈ lw_g := lw_mem 752 (by decide +kernel) rfl
theorem ml_X7_202 : Cond.methodLink RX7 202 yX7_maySit ∈ lw_g := lw_mem 772 (by decide +kernel) rfl
theorem ml_X7_205 : Cond.methodLink RX7 205 yX7_way ∈ lw_g := lw_mem 780 (by decide +kernel) rfl
theorem ml_X7_208 : Cond.methodLink RX7 208 yX7_haveSeats ∈ lw_g := lw_mem 785 (by decide +kernel) rfl
theorem ml_X7_211 : Cond.methodLink RX7 211 yX7_addTo ∈ lw_g := lw_mem 801 (by decide +kernel) rfl
theorem ml_X7_215 : Cond.methodLink RX7 215 yX7_withOne ∈ lw_g := lw_mem 805 (by decide +kernel) rfl
theorem ml_X7_218 : Cond.methodLink RX7 218 yX7_goOn ∈ lw_g := lw_mem 797 (by decide +kernel) rfl
theorem ml_X7_221 : Cond.methodLink RX7 221 yX7_canAllBeRight ∈ lw_g := lw_mem 793 (by decide +kernel) rfl
theorem ml_X7_224 : Cond.methodLink RX7 224 yX7_areSo ∈ lw_g := lw_mem 821 (by decide +kernel) rfl
theorem ml_X7_228 : Cond.methodLink RX7 228 yX7_share ∈ lw_g := lw_mem 841 (by decide +kernel) rfl
theorem ml_X7_232 : Cond.methodLink RX7 232 yX7_noCell ∈ lw_g := lw_mem 856 (by decide +kernel) rfl
theorem ml_X7_235 : Cond.methodLink RX7 235 yX7_failedLong ∈ lw_g := lw_mem 864 (by decide +kernel) rfl
theorem ml_X7_242 : Cond.methodLink RX7 242 yX7_traced ∈ lw_g := lw_mem 876 (by decide +kernel) rfl
theorem cs_J6_265 : Cond.constant RJ6 265 (1431655765) ∈ lw_g := lw_mem 364 (by decide +kernel) rfl
theorem cs_J6_266 : Cond.constant RJ6 266 (858993459) ∈ lw_g := lw_mem 365 (by decide +kernel) rfl
theorem cs_J6_267 : Cond.constant RJ6 267 (252645135) ∈ lw_g := lw_mem 366 (by decide +kernel) rfl
theorem cl_X6_190 : Cond.constantLong RX6 190 (-9223372036854775808) ∈ lw_g := lw_mem 452 (by decide +kernel) rfl
theorem cl_X7_74 : Cond.constantLong RX7 74 (-9223372036854775808) ∈ lw_g := lw_mem 840 (by decide +kernel) rfl
theorem cl_X7_143 : Cond.constantLong RX7 143 (2) ∈ lw_g := lw_mem 652 (by decide +kernel) rfl
theorem cl_X7_164 : Cond.constantLong RX7 164 (3) ∈ lw_g := lw_mem 644 (by decide +kernel) rfl
theorem cl_X7_166 : Cond.constantLong RX7 166 (99) ∈ lw_g := lw_mem 720 (by decide +kernel) rfl
theorem cl_X7_189 : Cond.constantLong RX7 189 (10) ∈ lw_g := lw_mem 748 (by decide +kernel) rfl
theorem cl_X7_191 : Cond.constantLong RX7 191 (14) ∈ lw_g := lw_mem 749 (by decide +kernel) rfl
theorem cl_X7_193 : Cond.constantLong RX7 193 (20) ∈ lw_g := lw_mem 750 (by decide +kernel) rfl
theorem cl_X7_195 : Cond.constantLong RX7 195 (23) ∈ lw_g := lw_mem 751 (by decide +kernel) rfl
theorem cl_X7_200 : Cond.constantLong RX7 200 (199) ∈ lw_g := lw_mem 771 (by decide +kernel) rfl
theorem ks_X0_of : KS yX0_of cX0_of 3 (some .int) 1 := ⟨lw_mem 339 (by decide +kernel) rfl, lw_mem 338 (by decide +kernel) rfl, lw_mem 50 (by decide +kernel) rfl, by decide, by decide, by decide +kernel⟩
theorem ks_X0_on : KS yX0_on cX0_on 2 (some .int) 2 := ⟨lw_mem 346 (by decide +kernel) rfl, lw_mem 345 (by decide +kernel) rfl, lw_mem 50 (by decide +kernel) rfl, by decide, by decide, by decide +kernel⟩
theorem kv_X1_append : KV RX1 yX1_append cX1_append 4 none 3 := ⟨lw_mem 426 (by decide +kernel) rfl, lw_mem 424 (by decide +kernel) rfl, lw_mem 425 (by decide +kernel) rfl, lw_mem 45 (by decide +kernel) rfl, by decide, by decide, by decide +kernel⟩
theorem kv_X1_allHold : KV RX1 yX1_allHold cX1_allHold 3 (some .boolean) 1 := ⟨lw_mem 438 (by decide +kernel) rfl, lw_mem 436 (by decide +kernel) rfl, lw_mem 437 (by decide +kernel) rfl, lw_mem 45 (by decide +kernel) rfl, by decide, by decide, by decide +kernel⟩
theorem kv_X2_isTold : KV RX2 yX2_isTold cX2_isTold 1 (some .boolean) 0 := ⟨lw_mem 294 (by decide +kernel) rfl, lw_mem 292 (by decide +kernel) rfl, lw_mem 293 (by decide +kernel) rfl, lw_mem 43 (by decide +kernel) rfl, by decide, by decide, by decide +kernel⟩
theorem kv_X2_hasRider : KV RX2 yX2_hasRider cX2_hasRider 2 (some .boolean) 1 := ⟨lw_mem 270 (by decide +kernel) rfl, lw_mem 268 (by decide +kernel) rfl, lw_mem 269 (by decide +kernel) rfl, lw_mem 43 (by decide +kernel) rfl, by decide, by decide, by decide +kernel⟩
theorem kv_X2_hasSection : KV RX2 yX2_hasSection cX2_hasSection 2 (some .boolean) 1 := ⟨lw_mem 282 (by decide +kernel) rfl, lw_mem 280 (by decide +kernel) rfl, lw_mem 281 (by decide +kernel) rfl, lw_mem 43 (by decide +kernel) rfl, by decide, by decide, by decide +kernel⟩
theorem kv_X2_board : KV RX2 yX2_board cX2_board 6 none 3 := ⟨lw_mem 246 (by decide +kernel) rfl, lw_mem 244 (by decide +kernel) rfl, lw_mem 245 (by decide +kernel) rfl, lw_mem 43 (by decide +kernel) rfl, by decide, by decide, by decide +kernel⟩
theorem kv_X2_yearsOff : KV RX2 yX2_yearsOff cX2_yearsOff 5 (some .int) 2 := ⟨lw_mem 319 (by decide +kernel) rfl, lw_mem 317 (by decide +kernel) rfl, lw_mem 318 (by decide +kernel) rfl, lw_mem 43 (by decide +kernel) rfl, by decide, by decide, by decide +kernel⟩
theorem kv_X2_isRight : KV RX2 yX2_isRight cX2_isRight 3 (some .boolean) 2 := ⟨lw_mem 359 (by decide +kernel) rfl, lw_mem 357 (by decide +kernel) rfl, lw_mem 358 (by decide +kernel) rfl, lw_mem 43 (by decide +kernel) rfl, by decide, by decide, by decide +kernel⟩
theorem kv_X2_canSitAlone : KV RX2 yX2_canSitAlone cX2_canSitAlone 3 (some .boolean) 2 := ⟨lw_mem 374 (by decide +kernel) rfl, lw_mem 372 (by decide +kernel) rfl, lw_mem 373 (by decide +kernel) rfl, lw_mem 43 (by decide +kernel) rfl, by decide, by decide, by decide +kernel⟩
theorem kv_X2_firstOver : KV RX2 yX2_firstOver cX2_firstOver 3 (some .int) 1 := ⟨lw_mem 343 (by decide +kernel) rfl, lw_mem 341 (by decide +kernel) rfl, lw_mem 342 (by decide +kernel) rfl, lw_mem 43 (by decide +kernel) rfl, by decide, by decide, by decide +kernel⟩
theorem kv_X2_agreeing : KV RX2 yX2_agreeing cX2_agreeing 8 (some .int) 2 := ⟨lw_mem 387 (by decide +kernel) rfl, lw_mem 385 (by decide +kernel) rfl, lw_mem 386 (by decide +kernel) rfl, lw_mem 43 (by decide +kernel) rfl, by decide, by decide, by decide +kernel⟩
theorem kv_X2_bothAgree : KV RX2 yX2_bothAgree cX2_bothAgree 5 (some .boolean) 4 := ⟨lw_mem 393 (by decide +kernel) rfl, lw_mem 392 (by decide +kernel) rfl, lw_mem 5 (by decide +kernel) rfl, lw_mem 43 (by decide +kernel) rfl, by decide, by decide, by decide +kernel⟩
theorem ks_X2_firstOf : KS yX2_firstOf cX2_firstOf 1 (some .int) 1 := ⟨lw_mem 398 (by decide +kernel) rfl, lw_mem 397 (by decide +kernel) rfl, lw_mem 43 (by decide +kernel) rfl, by decide, by decide, by decide +kernel⟩
theorem ks_X2_otherOf : KS yX2_otherOf cX2_otherOf 1 (some .int) 1 := ⟨lw_mem 401 (by decide +kernel) rfl, lw_mem 400 (by decide +kernel) rfl, lw_mem 43 (by decide +kernel) rfl, by decide, by decide, by decide +kernel⟩
theorem kv_X2_mostRight : KV RX2 yX2_mostRight cX2_mostRight 3 (some .int) 0 := ⟨lw_mem 409 (by decide +kernel) rfl, lw_mem 407 (by decide +kernel) rfl, lw_mem 408 (by decide +kernel) rfl, lw_mem 43 (by decide +kernel) rfl, by decide, by decide, by decide +kernel⟩
theorem kv_X2_setsToBeRight : KV RX2 yX2_setsToBeRight cX2_setsToBeRight 4 (some .int) 1 := ⟨lw_mem 413 (by decide +kernel) rfl, lw_mem 412 (by decide +kernel) rfl, lw_mem 6 (by decide +kernel) rfl, lw_mem 43 (by decide +kernel) rfl, by decide, by decide, by decide +kernel⟩
theorem kv_X2_canAllBeRight : KV RX2 yX2_canAllBeRight cX2_canAllBeRight 6 (some .boolean) 3 := ⟨lw_mem 418 (by decide +kernel) rfl, lw_mem 417 (by decide +kernel) rfl, lw_mem 7 (by decide +kernel) rfl, lw_mem 43 (by decide +kernel) rfl, by decide, by decide, by decide +kernel⟩
theorem ks_X3_firstFault : KS yX3_firstFault cX3_firstFault 6 (some .int) 3 := ⟨lw_mem 216 (by decide +kernel) rfl, lw_mem 215 (by decide +kernel) rfl, lw_mem 48 (by decide +kernel) rfl, by decide, by decide, by decide +kernel⟩
theorem ks_X3_sectionsTold : KS yX3_sectionsTold cX3_sectionsTold 4 (some .int) 3 := ⟨lw_mem 219 (by decide +kernel) rfl, lw_mem 218 (by decide +kernel) rfl, lw_mem 48 (by decide +kernel) rfl, by decide, by decide, by decide +kernel⟩
theorem ks_X3_goesOn : KS yX3_goesOn cX3_goesOn 6 (some .boolean) 4 := ⟨lw_mem 233 (by decide +kernel) rfl, lw_mem 232 (by decide +kernel) rfl, lw_mem 48 (by decide +kernel) rfl, by decide, by decide, by decide +kernel⟩
theorem ks_X3_riderGoesOn : KS yX3_riderGoesOn cX3_riderGoesOn 5 (some .boolean) 4 := ⟨lw_mem 236 (by decide +kernel) rfl, lw_mem 235 (by decide +kernel) rfl, lw_mem 48 (by decide +kernel) rfl, by decide, by decide, by decide +kernel⟩
theorem ks_X3_kindOf : KS yX3_kindOf cX3_kindOf 1 (some .int) 1 := ⟨lw_mem 239 (by decide +kernel) rfl, lw_mem 238 (by decide +kernel) rfl, lw_mem 48 (by decide +kernel) rfl, by decide, by decide, by decide +kernel⟩
theorem ks_X3_digit : KS yX3_digit cX3_digit 1 (some .int) 1 := ⟨lw_mem 242 (by decide +kernel) rfl, lw_mem 241 (by decide +kernel) rfl, lw_mem 48 (by decide +kernel) rfl, by decide, by decide, by decide +kernel⟩
theorem ks_X3_isDigit : KS yX3_isDigit cX3_isDigit 3 (some .boolean) 3 := ⟨lw_mem 230 (by decide +kernel) rfl, lw_mem 229 (by decide +kernel) rfl, lw_mem 48 (by decide +kernel) rfl, by decide, by decide, by decide +kernel⟩
theorem kv_X4_board : KV RX4 yX4_board cX4_board 3 none 2 := ⟨lw_mem 256 (by decide +kernel) rfl, lw_mem 254 (by decide +kernel) rfl, lw_mem 255 (by decide +kernel) rfl, lw_mem 44 (by decide +kernel) rfl, by decide, by decide, by decide +kernel⟩
theorem ks_X4_twoDigits : KS yX4_twoDigits cX4_twoDigits 2 (some .int) 2 := ⟨lw_mem 262 (by decide +kernel) rfl, lw_mem 261 (by decide +kernel) rfl, lw_mem 44 (by decide +kernel) rfl, by decide, by decide, by decide +kernel⟩
theorem kv_X4_own : KV RX4 yX4_own cX4_own 1 (some .int) 0 := ⟨lw_mem 274 (by decide +kernel) rfl, lw_mem 272 (by decide +kernel) rfl, lw_mem 273 (by decide +kernel) rfl, lw_mem 44 (by decide +kernel) rfl, by decide, by decide, by decide +kernel⟩
theorem kv_X4_owns : KV RX4 yX4_owns cX4_owns 2 (some .boolean) 1 := ⟨lw_mem 314 (by decide +kernel) rfl, lw_mem 312 (by decide +kernel) rfl, lw_mem 313 (by decide +kernel) rfl, lw_mem 44 (by decide +kernel) rfl, by decide, by decide, by decide +kernel⟩
theorem kv_X4_yearsAbove : KV RX4 yX4_yearsAbove cX4_yearsAbove 2 (some .int) 1 := ⟨lw_mem 306 (by decide +kernel) rfl, lw_mem 304 (by decide +kernel) rfl, lw_mem 305 (by decide +kernel) rfl, lw_mem 44 (by decide +kernel) rfl, by decide, by decide, by decide +kernel⟩
theorem kv_X5_hasRow : KV RX5 yX5_hasRow cX5_hasRow 1 (some .boolean) 0 := ⟨lw_mem 205 (by decide +kernel) rfl, lw_mem 203 (by decide +kernel) rfl, lw_mem 204 (by decide +kernel) rfl, lw_mem 46 (by decide +kernel) rfl, by decide, by decide, by decide +kernel⟩
theorem kv_X5_renew : KV RX5 yX5_renew cX5_renew 4 none 2 := ⟨lw_mem 460 (by decide +kernel) rfl, lw_mem 458 (by decide +kernel) rfl, lw_mem 459 (by decide +kernel) rfl, lw_mem 46 (by decide +kernel) rfl, by decide, by decide, by decide +kernel⟩
theorem kv_X5_drop : KV RX5 yX5_drop cX5_drop 1 none 0 := ⟨lw_mem 469 (by decide +kernel) rfl, lw_mem 467 (by decide +kernel) rfl, lw_mem 468 (by decide +kernel) rfl, lw_mem 46 (by decide +kernel) rfl, by decide, by decide, by decide +kernel⟩
theorem kv_X5_hasCell : KV RX5 yX5_hasCell cX5_hasCell 2 (some .boolean) 1 := ⟨lw_mem 227 (by decide +kernel) rfl, lw_mem 225 (by decide +kernel) rfl, lw_mem 226 (by decide +kernel) rfl, lw_mem 46 (by decide +kernel) rfl, by decide, by decide, by decide +kernel⟩
theorem kv_X5_hasCells : KV RX5 yX5_hasCells cX5_hasCells 3 (some .boolean) 2 := ⟨lw_mem 209 (by decide +kernel) rfl, lw_mem 207 (by decide +kernel) rfl, lw_mem 208 (by decide +kernel) rfl, lw_mem 46 (by decide +kernel) rfl, by decide, by decide, by decide +kernel⟩
theorem kv_X5_at : KV RX5 yX5_at cX5_at 2 (some .int) 1 := ⟨lw_mem 223 (by decide +kernel) rfl, lw_mem 221 (by decide +kernel) rfl, lw_mem 222 (by decide +kernel) rfl, lw_mem 46 (by decide +kernel) rfl, by decide, by decide, by decide +kernel⟩
theorem kv_X5_write : KV RX5 yX5_write cX5_write 3 none 2 := ⟨lw_mem 478 (by decide +kernel) rfl, lw_mem 476 (by decide +kernel) rfl, lw_mem 477 (by decide +kernel) rfl, lw_mem 46 (by decide +kernel) rfl, by decide, by decide, by decide +kernel⟩
theorem kv_X5_cutToLane : KV RX5 yX5_cutToLane cX5_cutToLane 2 (some .int) 1 := ⟨lw_mem 482 (by decide +kernel) rfl, lw_mem 481 (by decide +kernel) rfl, lw_mem 8 (by decide +kernel) rfl, lw_mem 46 (by decide +kernel) rfl, by decide, by decide, by decide +kernel⟩
theorem kv_X5_faultOfRow : KV RX5 yX5_faultOfRow cX5_faultOfRow 2 (some .int) 1 := ⟨lw_mem 201 (by decide +kernel) rfl, lw_mem 199 (by decide +kernel) rfl, lw_mem 200 (by decide +kernel) rfl, lw_mem 46 (by decide +kernel) rfl, by decide, by decide, by decide +kernel⟩
theorem kv_X5_faultOfCells : KV RX5 yX5_faultOfCells cX5_faultOfCells 5 (some .int) 3 := ⟨lw_mem 197 (by decide +kernel) rfl, lw_mem 195 (by decide +kernel) rfl, lw_mem 196 (by decide +kernel) rfl, lw_mem 46 (by decide +kernel) rfl, by decide, by decide, by decide +kernel⟩
theorem kv_X6_ride : KV RX6 yX6_ride cX6_ride 8 (some .int) 4 := ⟨lw_mem 184 (by decide +kernel) rfl, lw_mem 182 (by decide +kernel) rfl, lw_mem 183 (by decide +kernel) rfl, lw_mem 42 (by decide +kernel) rfl, by decide, by decide, by decide +kernel⟩
theorem kv_X6_ofRider : KV RX6 yX6_ofRider cX6_ofRider 4 (some .int) 2 := ⟨lw_mem 266 (by decide +kernel) rfl, lw_mem 264 (by decide +kernel) rfl, lw_mem 265 (by decide +kernel) rfl, lw_mem 42 (by decide +kernel) rfl, by decide, by decide, by decide +kernel⟩
theorem kv_X6_slope : KV RX6 yX6_slope cX6_slope 2 (some .int) 1 := ⟨lw_mem 278 (by decide +kernel) rfl, lw_mem 276 (by decide +kernel) rfl, lw_mem 277 (by decide +kernel) rfl, lw_mem 42 (by decide +kernel) rfl, by decide, by decide, by decide +kernel⟩
theorem kv_X6_tilt : KV RX6 yX6_tilt cX6_tilt 4 (some .int) 2 := ⟨lw_mem 286 (by decide +kernel) rfl, lw_mem 284 (by decide +kernel) rfl, lw_mem 285 (by decide +kernel) rfl, lw_mem 42 (by decide +kernel) rfl, by decide, by decide, by decide +kernel⟩
theorem kv_X6_seat : KV RX6 yX6_seat cX6_seat 3 (some .int) 1 := ⟨lw_mem 290 (by decide +kernel) rfl, lw_mem 288 (by decide +kernel) rfl, lw_mem 289 (by decide +kernel) rfl, lw_mem 42 (by decide +kernel) rfl, by decide, by decide, by decide +kernel⟩
theorem kv_X6_wish : KV RX6 yX6_wish cX6_wish 5 (some .int) 2 := ⟨lw_mem 298 (by decide +kernel) rfl, lw_mem 296 (by decide +kernel) rfl, lw_mem 297 (by decide +kernel) rfl, lw_mem 42 (by decide +kernel) rfl, by decide, by decide, by decide +kernel⟩
theorem kv_X6_gain : KV RX6 yX6_gain cX6_gain 3 (some .int) 2 := ⟨lw_mem 302 (by decide +kernel) rfl, lw_mem 300 (by decide +kernel) rfl, lw_mem 301 (by decide +kernel) rfl, lw_mem 42 (by decide +kernel) rfl, by decide, by decide, by decide +kernel⟩
theorem kv_X6_age : KV RX6 yX6_age cX6_age 4 (some .int) 2 := ⟨lw_mem 310 (by decide +kernel) rfl, lw_mem 308 (by decide +kernel) rfl, lw_mem 309 (by decide +kernel) rfl, lw_mem 42 (by decide +kernel) rfl, by decide, by decide, by decide +kernel⟩
theorem kv_X6_sit : KV RX6 yX6_sit cX6_sit 8 (some .int) 5 := ⟨lw_mem 324 (by decide +kernel) rfl, lw_mem 322 (by decide +kernel) rfl, lw_mem 323 (by decide +kernel) rfl, lw_mem 42 (by decide +kernel) rfl, by decide, by decide, by decide +kernel⟩
theorem ks_X6_isSittingQuestion : KS yX6_isSittingQuestion cX6_isSittingQuestion 1 (some .boolean) 1 := ⟨lw_mem 327 (by decide +kernel) rfl, lw_mem 326 (by decide +kernel) rfl, lw_mem 42 (by decide +kernel) rfl, by decide, by decide, by decide +kernel⟩
theorem kv_X6_takeSitting : KV RX6 yX6_takeSitting cX6_takeSitting 5 (some .boolean) 2 := ⟨lw_mem 331 (by decide +kernel) rfl, lw_mem 330 (by decide +kernel) rfl, lw_mem 1 (by decide +kernel) rfl, lw_mem 42 (by decide +kernel) rfl, by decide, by decide, by decide +kernel⟩
theorem kv_X6_ofSitting : KV RX6 yX6_ofSitting cX6_ofSitting 5 (some .int) 1 := ⟨lw_mem 336 (by decide +kernel) rfl, lw_mem 335 (by decide +kernel) rfl, lw_mem 2 (by decide +kernel) rfl, lw_mem 42 (by decide +kernel) rfl, by decide, by decide, by decide +kernel⟩
theorem kv_X6_rightOnes : KV RX6 yX6_rightOnes cX6_rightOnes 3 (some .int) 0 := ⟨lw_mem 355 (by decide +kernel) rfl, lw_mem 354 (by decide +kernel) rfl, lw_mem 4 (by decide +kernel) rfl, lw_mem 42 (by decide +kernel) rfl, by decide, by decide, by decide +kernel⟩
theorem kv_X6_eldest : KV RX6 yX6_eldest cX6_eldest 5 (some .int) 0 := ⟨lw_mem 351 (by decide +kernel) rfl, lw_mem 350 (by decide +kernel) rfl, lw_mem 3 (by decide +kernel) rfl, lw_mem 42 (by decide +kernel) rfl, by decide, by decide, by decide +kernel⟩
theorem kv_X6_way : KV RX6 yX6_way cX6_way 6 (some .int) 2 := ⟨lw_mem 370 (by decide +kernel) rfl, lw_mem 368 (by decide +kernel) rfl, lw_mem 369 (by decide +kernel) rfl, lw_mem 42 (by decide +kernel) rfl, by decide, by decide, by decide +kernel⟩
theorem kv_X6_spread : KV RX6 yX6_spread cX6_spread 5 (some .int) 1 := ⟨lw_mem 379 (by decide +kernel) rfl, lw_mem 377 (by decide +kernel) rfl, lw_mem 378 (by decide +kernel) rfl, lw_mem 42 (by decide +kernel) rfl, by decide, by decide, by decide +kernel⟩
theorem kv_X6_agree : KV RX6 yX6_agree cX6_agree 7 (some .int) 3 := ⟨lw_mem 383 (by decide +kernel) rfl, lw_mem 381 (by decide +kernel) rfl, lw_mem 382 (by decide +kernel) rfl, lw_mem 42 (by decide +kernel) rfl, by decide, by decide, by decide +kernel⟩
theorem kv_X6_most : KV RX6 yX6_most cX6_most 1 (some .int) 0 := ⟨lw_mem 405 (by decide +kernel) rfl, lw_mem 403 (by decide +kernel) rfl, lw_mem 404 (by decide +kernel) rfl, lw_mem 42 (by decide +kernel) rfl, by decide, by decide, by decide +kernel⟩
theorem kv_X6_reading : KV RX6 yX6_reading cX6_reading 4 (some .int) 3 := ⟨lw_mem 422 (by decide +kernel) rfl, lw_mem 420 (by decide +kernel) rfl, lw_mem 421 (by decide +kernel) rfl, lw_mem 42 (by decide +kernel) rfl, by decide, by decide, by decide +kernel⟩
theorem kv_X6_back : KV RX6 yX6_back cX6_back 2 (some .int) 1 := ⟨lw_mem 430 (by decide +kernel) rfl, lw_mem 428 (by decide +kernel) rfl, lw_mem 429 (by decide +kernel) rfl, lw_mem 42 (by decide +kernel) rfl, by decide, by decide, by decide +kernel⟩
theorem kv_X6_slopes : KV RX6 yX6_slopes cX6_slopes 5 (some .int) 1 := ⟨lw_mem 434 (by decide +kernel) rfl, lw_mem 432 (by decide +kernel) rfl, lw_mem 433 (by decide +kernel) rfl, lw_mem 42 (by decide +kernel) rfl, by decide, by decide, by decide +kernel⟩
theorem kv_X6_kinds : KV RX6 yX6_kinds cX6_kinds 6 (some .int) 1 := ⟨lw_mem 443 (by decide +kernel) rfl, lw_mem 441 (by decide +kernel) rfl, lw_mem 442 (by decide +kernel) rfl, lw_mem 42 (by decide +kernel) rfl, by decide, by decide, by decide +kernel⟩
theorem kv_X6_began : KV RX6 yX6_began cX6_began 8 (some .int) 2 := ⟨lw_mem 447 (by decide +kernel) rfl, lw_mem 445 (by decide +kernel) rfl, lw_mem 446 (by decide +kernel) rfl, lw_mem 42 (by decide +kernel) rfl, by decide, by decide, by decide +kernel⟩
theorem kv_X6_odds : KV RX6 yX6_odds cX6_odds 8 (some .long) 3 := ⟨lw_mem 451 (by decide +kernel) rfl, lw_mem 449 (by decide +kernel) rfl, lw_mem 450 (by decide +kernel) rfl, lw_mem 42 (by decide +kernel) rfl, by decide, by decide, by decide +kernel⟩
theorem kv_X6_sheet : KV RX6 yX6_sheet cX6_sheet 4 (some .int) 3 := ⟨lw_mem 456 (by decide +kernel) rfl, lw_mem 454 (by decide +kernel) rfl, lw_mem 455 (by decide +kernel) rfl, lw_mem 42 (by decide +kernel) rfl, by decide, by decide, by decide +kernel⟩
theorem kv_X6_lose : KV RX6 yX6_lose cX6_lose 2 (some .int) 1 := ⟨lw_mem 464 (by decide +kernel) rfl, lw_mem 462 (by decide +kernel) rfl, lw_mem 463 (by decide +kernel) rfl, lw_mem 42 (by decide +kernel) rfl, by decide, by decide, by decide +kernel⟩
theorem kv_X6_put : KV RX6 yX6_put cX6_put 5 (some .int) 3 := ⟨lw_mem 473 (by decide +kernel) rfl, lw_mem 471 (by decide +kernel) rfl, lw_mem 472 (by decide +kernel) rfl, lw_mem 42 (by decide +kernel) rfl, by decide, by decide, by decide +kernel⟩
theorem kv_X6_cell : KV RX6 yX6_cell cX6_cell 5 (some .long) 3 := ⟨lw_mem 486 (by decide +kernel) rfl, lw_mem 484 (by decide +kernel) rfl, lw_mem 485 (by decide +kernel) rfl, lw_mem 42 (by decide +kernel) rfl, by decide, by decide, by decide +kernel⟩
theorem kv_X6_copy : KV RX6 yX6_copy cX6_copy 8 (some .int) 5 := ⟨lw_mem 491 (by decide +kernel) rfl, lw_mem 489 (by decide +kernel) rfl, lw_mem 490 (by decide +kernel) rfl, lw_mem 42 (by decide +kernel) rfl, by decide, by decide, by decide +kernel⟩
theorem kv_X6_tell : KV RX6 yX6_tell cX6_tell 3 (some .int) 1 := ⟨lw_mem 499 (by decide +kernel) rfl, lw_mem 497 (by decide +kernel) rfl, lw_mem 498 (by decide +kernel) rfl, lw_mem 42 (by decide +kernel) rfl, by decide, by decide, by decide +kernel⟩
theorem kv_X6_ring : KV RX6 yX6_ring cX6_ring 2 (some .int) 1 := ⟨lw_mem 519 (by decide +kernel) rfl, lw_mem 517 (by decide +kernel) rfl, lw_mem 518 (by decide +kernel) rfl, lw_mem 42 (by decide +kernel) rfl, by decide, by decide, by decide +kernel⟩
theorem kv_X6_as : KV RX6 yX6_as cX6_as 3 (some .int) 2 := ⟨lw_mem 523 (by decide +kernel) rfl, lw_mem 521 (by decide +kernel) rfl, lw_mem 522 (by decide +kernel) rfl, lw_mem 42 (by decide +kernel) rfl, by decide, by decide, by decide +kernel⟩
theorem kv_X6_trace : KV RX6 yX6_trace cX6_trace 1 (some .int) 0 := ⟨lw_mem 527 (by decide +kernel) rfl, lw_mem 525 (by decide +kernel) rfl, lw_mem 526 (by decide +kernel) rfl, lw_mem 42 (by decide +kernel) rfl, by decide, by decide, by decide +kernel⟩
theorem kv_X6_fault : KV RX6 yX6_fault cX6_fault 1 (some .int) 0 := ⟨lw_mem 531 (by decide +kernel) rfl, lw_mem 529 (by decide +kernel) rfl, lw_mem 530 (by decide +kernel) rfl, lw_mem 42 (by decide +kernel) rfl, by decide, by decide, by decide +kernel⟩
theorem kv_X6_many : KV RX6 yX6_many cX6_many 2 (some .int) 1 := ⟨lw_mem 535 (by decide +kernel) rfl, lw_mem 533 (by decide +kernel) rfl, lw_mem 534 (by decide +kernel) rfl, lw_mem 42 (by decide +kernel) rfl, by decide, by decide, by decide +kernel⟩
theorem kv_X6_toldAsRider : KV RX6 yX6_toldAsRider cX6_toldAsRider 2 (some .int) 1 := ⟨lw_mem 503 (by decide +kernel) rfl, lw_mem 502 (by decide +kernel) rfl, lw_mem 9 (by decide +kernel) rfl, lw_mem 42 (by decide +kernel) rfl, by decide, by decide, by decide +kernel⟩
theorem kv_X6_toldAsLad : KV RX6 yX6_toldAsLad cX6_toldAsLad 2 (some .int) 1 := ⟨lw_mem 511 (by decide +kernel) rfl, lw_mem 510 (by decide +kernel) rfl, lw_mem 11 (by decide +kernel) rfl, lw_mem 42 (by decide +kernel) rfl, by decide, by decide, by decide +kernel⟩
theorem kv_X6_toldAsElder : KV RX6 yX6_toldAsElder cX6_toldAsElder 2 (some .int) 1 := ⟨lw_mem 515 (by decide +kernel) rfl, lw_mem 514 (by decide +kernel) rfl, lw_mem 12 (by decide +kernel) rfl, lw_mem 42 (by decide +kernel) rfl, by decide, by decide, by decide +kernel⟩
theorem kv_X6_beginBody : KV RX6 yX6_beginBody cX6_beginBody 2 none 1 := ⟨lw_mem 507 (by decide +kernel) rfl, lw_mem 506 (by decide +kernel) rfl, lw_mem 10 (by decide +kernel) rfl, lw_mem 42 (by decide +kernel) rfl, by decide, by decide, by decide +kernel⟩
theorem kv_X6_failed : KV RX6 yX6_failed cX6_failed 2 (some .int) 1 := ⟨lw_mem 213 (by decide +kernel) rfl, lw_mem 212 (by decide +kernel) rfl, lw_mem 0 (by decide +kernel) rfl, lw_mem 42 (by decide +kernel) rfl, by decide, by decide, by decide +kernel⟩
theorem ks_X6_isSheet : KS yX6_isSheet cX6_isSheet 1 (some .boolean) 1 := ⟨lw_mem 187 (by decide +kernel) rfl, lw_mem 186 (by decide +kernel) rfl, lw_mem 42 (by decide +kernel) rfl, by decide, by decide, by decide +kernel⟩
theorem ks_X6_isLane : KS yX6_isLane cX6_isLane 1 (some .boolean) 1 := ⟨lw_mem 193 (by decide +kernel) rfl, lw_mem 192 (by decide +kernel) rfl, lw_mem 42 (by decide +kernel) rfl, by decide, by decide, by decide +kernel⟩
theorem ks_X6_within : KS yX6_within cX6_within 2 (some .boolean) 2 := ⟨lw_mem 190 (by decide +kernel) rfl, lw_mem 189 (by decide +kernel) rfl, lw_mem 42 (by decide +kernel) rfl, by decide, by decide, by decide +kernel⟩
theorem ks_X7_in : KS yX7_in cX7_in 6 (some .boolean) 3 := ⟨lw_mem 647 (by decide +kernel) rfl, lw_mem 646 (by decide +kernel) rfl, lw_mem 47 (by decide +kernel) rfl, by decide, by decide, by decide +kernel⟩
theorem ks_X7_lost : KS yX7_lost cX7_lost 0 (some .long) 0 := ⟨lw_mem 839 (by decide +kernel) rfl, lw_mem 838 (by decide +kernel) rfl, lw_mem 47 (by decide +kernel) rfl, by decide, by decide, by decide +kernel⟩
theorem ks_X7_isIn : KS yX7_isIn cX7_isIn 2 (some .boolean) 2 := ⟨lw_mem 743 (by decide +kernel) rfl, lw_mem 742 (by decide +kernel) rfl, lw_mem 47 (by decide +kernel) rfl, by decide, by decide, by decide +kernel⟩
theorem ks_X7_bits : KS yX7_bits cX7_bits 3 (some .int) 1 := ⟨lw_mem 766 (by decide +kernel) rfl, lw_mem 765 (by decide +kernel) rfl, lw_mem 47 (by decide +kernel) rfl, by decide, by decide, by decide +kernel⟩
theorem ks_X7_share : KS yX7_share cX7_share 11 (some .long) 3 := ⟨lw_mem 843 (by decide +kernel) rfl, lw_mem 842 (by decide +kernel) rfl, lw_mem 47 (by decide +kernel) rfl, by decide, by decide, by decide +kernel⟩
theorem kv_X7_refused : KV RX7 yX7_refused cX7_refused 2 (some .int) 1 := ⟨lw_mem 651 (by decide +kernel) rfl, lw_mem 650 (by decide +kernel) rfl, lw_mem 13 (by decide +kernel) rfl, lw_mem 47 (by decide +kernel) rfl, by decide, by decide, by decide +kernel⟩
theorem kv_X7_failed : KV RX7 yX7_failed cX7_failed 2 (some .int) 1 := ⟨lw_mem 660 (by decide +kernel) rfl, lw_mem 659 (by decide +kernel) rfl, lw_mem 15 (by decide +kernel) rfl, lw_mem 47 (by decide +kernel) rfl, by decide, by decide, by decide +kernel⟩
theorem kv_X7_failedLong : KV RX7 yX7_failedLong cX7_failedLong 2 (some .long) 1 := ⟨lw_mem 867 (by decide +kernel) rfl, lw_mem 866 (by decide +kernel) rfl, lw_mem 39 (by decide +kernel) rfl, lw_mem 47 (by decide +kernel) rfl, by decide, by decide, by decide +kernel⟩
theorem kv_X7_noSection : KV RX7 yX7_noSection cX7_noSection 2 (some .boolean) 1 := ⟨lw_mem 707 (by decide +kernel) rfl, lw_mem 706 (by decide +kernel) rfl, lw_mem 24 (by decide +kernel) rfl, lw_mem 47 (by decide +kernel) rfl, by decide, by decide, by decide +kernel⟩
theorem kv_X7_noRider : KV RX7 yX7_noRider cX7_noRider 2 (some .boolean) 1 := ⟨lw_mem 695 (by decide +kernel) rfl, lw_mem 694 (by decide +kernel) rfl, lw_mem 22 (by decide +kernel) rfl, lw_mem 47 (by decide +kernel) rfl, by decide, by decide, by decide +kernel⟩
theorem kv_X7_allOf : KV RX7 yX7_allOf cX7_allOf 2 (some .int) 1 := ⟨lw_mem 699 (by decide +kernel) rfl, lw_mem 698 (by decide +kernel) rfl, lw_mem 23 (by decide +kernel) rfl, lw_mem 47 (by decide +kernel) rfl, by decide, by decide, by decide +kernel⟩
theorem kv_X7_noSetOf : KV RX7 yX7_noSetOf cX7_noSetOf 3 (some .boolean) 2 := ⟨lw_mem 736 (by decide +kernel) rfl, lw_mem 735 (by decide +kernel) rfl, lw_mem 26 (by decide +kernel) rfl, lw_mem 47 (by decide +kernel) rfl, by decide, by decide, by decide +kernel⟩
theorem kv_X7_codeAt : KV RX7 yX7_codeAt cX7_codeAt 3 (some .int) 2 := ⟨lw_mem 671 (by decide +kernel) rfl, lw_mem 670 (by decide +kernel) rfl, lw_mem 17 (by decide +kernel) rfl, lw_mem 47 (by decide +kernel) rfl, by decide, by decide, by decide +kernel⟩
theorem kv_X7_figure : KV RX7 yX7_figure cX7_figure 7 (some .int) 4 := ⟨lw_mem 675 (by decide +kernel) rfl, lw_mem 674 (by decide +kernel) rfl, lw_mem 18 (by decide +kernel) rfl, lw_mem 47 (by decide +kernel) rfl, by decide, by decide, by decide +kernel⟩
theorem kv_X7_twoFigures : KV RX7 yX7_twoFigures cX7_twoFigures 6 (some .int) 3 := ⟨lw_mem 687 (by decide +kernel) rfl, lw_mem 686 (by decide +kernel) rfl, lw_mem 21 (by decide +kernel) rfl, lw_mem 47 (by decide +kernel) rfl, by decide, by decide, by decide +kernel⟩
theorem kv_X7_readsSections : KV RX7 yX7_readsSections cX7_readsSections 5 (some .boolean) 2 := ⟨lw_mem 679 (by decide +kernel) rfl, lw_mem 678 (by decide +kernel) rfl, lw_mem 19 (by decide +kernel) rfl, lw_mem 47 (by decide +kernel) rfl, by decide, by decide, by decide +kernel⟩
theorem kv_X7_readsRider : KV RX7 yX7_readsRider cX7_readsRider 8 (some .boolean) 2 := ⟨lw_mem 683 (by decide +kernel) rfl, lw_mem 682 (by decide +kernel) rfl, lw_mem 20 (by decide +kernel) rfl, lw_mem 47 (by decide +kernel) rfl, by decide, by decide, by decide +kernel⟩
theorem kv_X7_readsRide : KV RX7 yX7_readsRide cX7_readsRide 4 (some .boolean) 2 := ⟨lw_mem 667 (by decide +kernel) rfl, lw_mem 666 (by decide +kernel) rfl, lw_mem 16 (by decide +kernel) rfl, lw_mem 47 (by decide +kernel) rfl, by decide, by decide, by decide +kernel⟩
theorem kv_X7_cellsBarred : KV RX7 yX7_cellsBarred cX7_cellsBarred 6 (some .int) 4 := ⟨lw_mem 656 (by decide +kernel) rfl, lw_mem 655 (by decide +kernel) rfl, lw_mem 14 (by decide +kernel) rfl, lw_mem 47 (by decide +kernel) rfl, by decide, by decide, by decide +kernel⟩
theorem kv_X7_ride : KV RX7 yX7_ride cX7_ride 7 (some .int) 4 := ⟨lw_mem 640 (by decide +kernel) rfl, lw_mem 638 (by decide +kernel) rfl, lw_mem 639 (by decide +kernel) rfl, lw_mem 47 (by decide +kernel) rfl, by decide, by decide, by decide +kernel⟩
theorem kv_X7_ofRider : KV RX7 yX7_ofRider cX7_ofRider 3 (some .int) 2 := ⟨lw_mem 691 (by decide +kernel) rfl, lw_mem 689 (by decide +kernel) rfl, lw_mem 690 (by decide +kernel) rfl, lw_mem 47 (by decide +kernel) rfl, by decide, by decide, by decide +kernel⟩
theorem kv_X7_slope : KV RX7 yX7_slope cX7_slope 2 (some .int) 1 := ⟨lw_mem 703 (by decide +kernel) rfl, lw_mem 701 (by decide +kernel) rfl, lw_mem 702 (by decide +kernel) rfl, lw_mem 47 (by decide +kernel) rfl, by decide, by decide, by decide +kernel⟩
theorem kv_X7_tilt : KV RX7 yX7_tilt cX7_tilt 4 (some .int) 2 := ⟨lw_mem 711 (by decide +kernel) rfl, lw_mem 709 (by decide +kernel) rfl, lw_mem 710 (by decide +kernel) rfl, lw_mem 47 (by decide +kernel) rfl, by decide, by decide, by decide +kernel⟩
theorem kv_X7_seat : KV RX7 yX7_seat cX7_seat 3 (some .int) 1 := ⟨lw_mem 715 (by decide +kernel) rfl, lw_mem 713 (by decide +kernel) rfl, lw_mem 714 (by decide +kernel) rfl, lw_mem 47 (by decide +kernel) rfl, by decide, by decide, by decide +kernel⟩
theorem kv_X7_wish : KV RX7 yX7_wish cX7_wish 4 (some .int) 2 := ⟨lw_mem 719 (by decide +kernel) rfl, lw_mem 717 (by decide +kernel) rfl, lw_mem 718 (by decide +kernel) rfl, lw_mem 47 (by decide +kernel) rfl, by decide, by decide, by decide +kernel⟩
theorem kv_X7_gainOf : KV RX7 yX7_gainOf cX7_gainOf 4 (some .int) 2 := ⟨lw_mem 728 (by decide +kernel) rfl, lw_mem 727 (by decide +kernel) rfl, lw_mem 25 (by decide +kernel) rfl, lw_mem 47 (by decide +kernel) rfl, by decide, by decide, by decide +kernel⟩
theorem kv_X7_gain : KV RX7 yX7_gain cX7_gain 3 (some .int) 2 := ⟨lw_mem 724 (by decide +kernel) rfl, lw_mem 722 (by decide +kernel) rfl, lw_mem 723 (by decide +kernel) rfl, lw_mem 47 (by decide +kernel) rfl, by decide, by decide, by decide +kernel⟩
theorem kv_X7_ageBy : KV RX7 yX7_ageBy cX7_ageBy 5 (some .int) 2 := ⟨lw_mem 740 (by decide +kernel) rfl, lw_mem 739 (by decide +kernel) rfl, lw_mem 27 (by decide +kernel) rfl, lw_mem 47 (by decide +kernel) rfl, by decide, by decide, by decide +kernel⟩
theorem kv_X7_age : KV RX7 yX7_age cX7_age 3 (some .int) 2 := ⟨lw_mem 732 (by decide +kernel) rfl, lw_mem 730 (by decide +kernel) rfl, lw_mem 731 (by decide +kernel) rfl, lw_mem 47 (by decide +kernel) rfl, by decide, by decide, by decide +kernel⟩
theorem kv_X7_aboveOn : KV RX7 yX7_aboveOn cX7_aboveOn 5 (some .int) 2 := ⟨lw_mem 763 (by decide +kernel) rfl, lw_mem 762 (by decide +kernel) rfl, lw_mem 30 (by decide +kernel) rfl, lw_mem 47 (by decide +kernel) rfl, by decide, by decide, by decide +kernel⟩
theorem kv_X7_wrongIn : KV RX7 yX7_wrongIn cX7_wrongIn 4 (some .int) 1 := ⟨lw_mem 759 (by decide +kernel) rfl, lw_mem 758 (by decide +kernel) rfl, lw_mem 29 (by decide +kernel) rfl, lw_mem 47 (by decide +kernel) rfl, by decide, by decide, by decide +kernel⟩
theorem kv_X7_sitBy : KV RX7 yX7_sitBy cX7_sitBy 8 (some .int) 2 := ⟨lw_mem 755 (by decide +kernel) rfl, lw_mem 754 (by decide +kernel) rfl, lw_mem 28 (by decide +kernel) rfl, lw_mem 47 (by decide +kernel) rfl, by decide, by decide, by decide +kernel⟩
theorem kv_X7_sit : KV RX7 yX7_sit cX7_sit 9 (some .int) 5 := ⟨lw_mem 747 (by decide +kernel) rfl, lw_mem 745 (by decide +kernel) rfl, lw_mem 746 (by decide +kernel) rfl, lw_mem 47 (by decide +kernel) rfl, by decide, by decide, by decide +kernel⟩
theorem kv_X7_maySit : KV RX7 yX7_maySit cX7_maySit 3 (some .boolean) 2 := ⟨lw_mem 775 (by decide +kernel) rfl, lw_mem 774 (by decide +kernel) rfl, lw_mem 31 (by decide +kernel) rfl, lw_mem 47 (by decide +kernel) rfl, by decide, by decide, by decide +kernel⟩
theorem kv_X7_way : KV RX7 yX7_way cX7_way 6 (some .int) 2 := ⟨lw_mem 770 (by decide +kernel) rfl, lw_mem 768 (by decide +kernel) rfl, lw_mem 769 (by decide +kernel) rfl, lw_mem 47 (by decide +kernel) rfl, by decide, by decide, by decide +kernel⟩
theorem kv_X7_spread : KV RX7 yX7_spread cX7_spread 4 (some .int) 1 := ⟨lw_mem 779 (by decide +kernel) rfl, lw_mem 777 (by decide +kernel) rfl, lw_mem 778 (by decide +kernel) rfl, lw_mem 47 (by decide +kernel) rfl, by decide, by decide, by decide +kernel⟩
theorem kv_X7_haveSeats : KV RX7 yX7_haveSeats cX7_haveSeats 3 (some .boolean) 2 := ⟨lw_mem 788 (by decide +kernel) rfl, lw_mem 787 (by decide +kernel) rfl, lw_mem 32 (by decide +kernel) rfl, lw_mem 47 (by decide +kernel) rfl, by decide, by decide, by decide +kernel⟩
theorem kv_X7_agree : KV RX7 yX7_agree cX7_agree 12 (some .int) 3 := ⟨lw_mem 784 (by decide +kernel) rfl, lw_mem 782 (by decide +kernel) rfl, lw_mem 783 (by decide +kernel) rfl, lw_mem 47 (by decide +kernel) rfl, by decide, by decide, by decide +kernel⟩
theorem kv_X7_withOne : KV RX7 yX7_withOne cX7_withOne 7 (some .int) 2 := ⟨lw_mem 808 (by decide +kernel) rfl, lw_mem 807 (by decide +kernel) rfl, lw_mem 36 (by decide +kernel) rfl, lw_mem 47 (by decide +kernel) rfl, by decide, by decide, by decide +kernel⟩
theorem kv_X7_goOn : KV RX7 yX7_goOn cX7_goOn 3 none 1 := ⟨lw_mem 800 (by decide +kernel) rfl, lw_mem 799 (by decide +kernel) rfl, lw_mem 34 (by decide +kernel) rfl, lw_mem 47 (by decide +kernel) rfl, by decide, by decide, by decide +kernel⟩
theorem kv_X7_addTo : KV RX7 yX7_addTo cX7_addTo 4 none 1 := ⟨lw_mem 804 (by decide +kernel) rfl, lw_mem 803 (by decide +kernel) rfl, lw_mem 35 (by decide +kernel) rfl, lw_mem 47 (by decide +kernel) rfl, by decide, by decide, by decide +kernel⟩
theorem kv_X7_canAllBeRight : KV RX7 yX7_canAllBeRight cX7_canAllBeRight 4 (some .boolean) 1 := ⟨lw_mem 796 (by decide +kernel) rfl, lw_mem 795 (by decide +kernel) rfl, lw_mem 33 (by decide +kernel) rfl, lw_mem 47 (by decide +kernel) rfl, by decide, by decide, by decide +kernel⟩
theorem kv_X7_most : KV RX7 yX7_most cX7_most 3 (some .int) 0 := ⟨lw_mem 792 (by decide +kernel) rfl, lw_mem 790 (by decide +kernel) rfl, lw_mem 791 (by decide +kernel) rfl, lw_mem 47 (by decide +kernel) rfl, by decide, by decide, by decide +kernel⟩
theorem kv_X7_reading : KV RX7 yX7_reading cX7_reading 4 (some .int) 3 := ⟨lw_mem 812 (by decide +kernel) rfl, lw_mem 810 (by decide +kernel) rfl, lw_mem 811 (by decide +kernel) rfl, lw_mem 47 (by decide +kernel) rfl, by decide, by decide, by decide +kernel⟩
theorem kv_X7_back : KV RX7 yX7_back cX7_back 2 (some .int) 1 := ⟨lw_mem 816 (by decide +kernel) rfl, lw_mem 814 (by decide +kernel) rfl, lw_mem 815 (by decide +kernel) rfl, lw_mem 47 (by decide +kernel) rfl, by decide, by decide, by decide +kernel⟩
theorem kv_X7_areSo : KV RX7 yX7_areSo cX7_areSo 3 (some .boolean) 0 := ⟨lw_mem 824 (by decide +kernel) rfl, lw_mem 823 (by decide +kernel) rfl, lw_mem 37 (by decide +kernel) rfl, lw_mem 47 (by decide +kernel) rfl, by decide, by decide, by decide +kernel⟩
theorem kv_X7_slopes : KV RX7 yX7_slopes cX7_slopes 5 (some .int) 1 := ⟨lw_mem 820 (by decide +kernel) rfl, lw_mem 818 (by decide +kernel) rfl, lw_mem 819 (by decide +kernel) rfl, lw_mem 47 (by decide +kernel) rfl, by decide, by decide, by decide +kernel⟩
theorem kv_X7_kinds : KV RX7 yX7_kinds cX7_kinds 5 (some .int) 1 := ⟨lw_mem 828 (by decide +kernel) rfl, lw_mem 826 (by decide +kernel) rfl, lw_mem 827 (by decide +kernel) rfl, lw_mem 47 (by decide +kernel) rfl, by decide, by decide, by decide +kernel⟩
theorem kv_X7_began : KV RX7 yX7_began cX7_began 8 (some .int) 2 := ⟨lw_mem 832 (by decide +kernel) rfl, lw_mem 830 (by decide +kernel) rfl, lw_mem 831 (by decide +kernel) rfl, lw_mem 47 (by decide +kernel) rfl, by decide, by decide, by decide +kernel⟩
theorem kv_X7_odds : KV RX7 yX7_odds cX7_odds 10 (some .long) 3 := ⟨lw_mem 836 (by decide +kernel) rfl, lw_mem 834 (by decide +kernel) rfl, lw_mem 835 (by decide +kernel) rfl, lw_mem 47 (by decide +kernel) rfl, by decide, by decide, by decide +kernel⟩
theorem ks_X7_noSheet : KS yX7_noSheet cX7_noSheet 1 (some .boolean) 1 := ⟨lw_mem 643 (by decide +kernel) rfl, lw_mem 642 (by decide +kernel) rfl, lw_mem 47 (by decide +kernel) rfl, by decide, by decide, by decide +kernel⟩
theorem kv_X7_sheet : KV RX7 yX7_sheet cX7_sheet 5 (some .int) 3 := ⟨lw_mem 847 (by decide +kernel) rfl, lw_mem 845 (by decide +kernel) rfl, lw_mem 846 (by decide +kernel) rfl, lw_mem 47 (by decide +kernel) rfl, by decide, by decide, by decide +kernel⟩
theorem kv_X7_lose : KV RX7 yX7_lose cX7_lose 3 (some .int) 1 := ⟨lw_mem 851 (by decide +kernel) rfl, lw_mem 849 (by decide +kernel) rfl, lw_mem 850 (by decide +kernel) rfl, lw_mem 47 (by decide +kernel) rfl, by decide, by decide, by decide +kernel⟩
theorem kv_X7_noCell : KV RX7 yX7_noCell cX7_noCell 3 (some .int) 2 := ⟨lw_mem 859 (by decide +kernel) rfl, lw_mem 858 (by decide +kernel) rfl, lw_mem 38 (by decide +kernel) rfl, lw_mem 47 (by decide +kernel) rfl, by decide, by decide, by decide +kernel⟩
theorem kv_X7_put : KV RX7 yX7_put cX7_put 4 (some .int) 3 := ⟨lw_mem 855 (by decide +kernel) rfl, lw_mem 853 (by decide +kernel) rfl, lw_mem 854 (by decide +kernel) rfl, lw_mem 47 (by decide +kernel) rfl, by decide, by decide, by decide +kernel⟩
theorem kv_X7_cell : KV RX7 yX7_cell cX7_cell 4 (some .long) 3 := ⟨lw_mem 863 (by decide +kernel) rfl, lw_mem 861 (by decide +kernel) rfl, lw_mem 862 (by decide +kernel) rfl, lw_mem 47 (by decide +kernel) rfl, by decide, by decide, by decide +kernel⟩
theorem ks_X7_isBeyond : KS yX7_isBeyond cX7_isBeyond 4 (some .boolean) 3 := ⟨lw_mem 663 (by decide +kernel) rfl, lw_mem 662 (by decide +kernel) rfl, lw_mem 47 (by decide +kernel) rfl, by decide, by decide, by decide +kernel⟩
theorem kv_X7_copy : KV RX7 yX7_copy cX7_copy 7 (some .int) 5 := ⟨lw_mem 871 (by decide +kernel) rfl, lw_mem 869 (by decide +kernel) rfl, lw_mem 870 (by decide +kernel) rfl, lw_mem 47 (by decide +kernel) rfl, by decide, by decide, by decide +kernel⟩
theorem kv_X7_traced : KV RX7 yX7_traced cX7_traced 2 none 1 := ⟨lw_mem 879 (by decide +kernel) rfl, lw_mem 878 (by decide +kernel) rfl, lw_mem 40 (by decide +kernel) rfl, lw_mem 47 (by decide +kernel) rfl, by decide, by decide, by decide +kernel⟩
theorem kv_X7_tell : KV RX7 yX7_tell cX7_tell 4 (some .int) 1 := ⟨lw_mem 875 (by decide +kernel) rfl, lw_mem 873 (by decide +kernel) rfl, lw_mem 874 (by decide +kernel) rfl, lw_mem 47 (by decide +kernel) rfl, by decide, by decide, by decide +kernel⟩
theorem kv_X7_ring : KV RX7 yX7_ring cX7_ring 2 (some .int) 1 := ⟨lw_mem 883 (by decide +kernel) rfl, lw_mem 881 (by decide +kernel) rfl, lw_mem 882 (by decide +kernel) rfl, lw_mem 47 (by decide +kernel) rfl, by decide, by decide, by decide +kernel⟩
theorem kv_X7_as : KV RX7 yX7_as cX7_as 3 (some .int) 2 := ⟨lw_mem 887 (by decide +kernel) rfl, lw_mem 885 (by decide +kernel) rfl, lw_mem 886 (by decide +kernel) rfl, lw_mem 47 (by decide +kernel) rfl, by decide, by decide, by decide +kernel⟩
theorem kv_X7_trace : KV RX7 yX7_trace cX7_trace 1 (some .int) 0 := ⟨lw_mem 891 (by decide +kernel) rfl, lw_mem 889 (by decide +kernel) rfl, lw_mem 890 (by decide +kernel) rfl, lw_mem 47 (by decide +kernel) rfl, by decide, by decide, by decide +kernel⟩
theorem kv_X7_fault : KV RX7 yX7_fault cX7_fault 1 (some .int) 0 := ⟨lw_mem 895 (by decide +kernel) rfl, lw_mem 893 (by decide +kernel) rfl, lw_mem 894 (by decide +kernel) rfl, lw_mem 47 (by decide +kernel) rfl, by decide, by decide, by decide +kernel⟩
theorem kv_X7_many : KV RX7 yX7_many cX7_many 2 (some .int) 1 := ⟨lw_mem 899 (by decide +kernel) rfl, lw_mem 897 (by decide +kernel) rfl, lw_mem 898 (by decide +kernel) rfl, lw_mem 47 (by decide +kernel) rfl, by decide, by decide, by decide +kernel⟩
theorem ks_J6_bitCount_0f7a4 : KS yJ6_bitCount_0f7a4 cJ6_bitCount_0f7a4 1 (some .int) 1 := ⟨lw_mem 363 (by decide +kernel) rfl, lw_mem 362 (by decide +kernel) rfl, lw_mem 51 (by decide +kernel) rfl, by decide, by decide, by decide +kernel⟩
theorem ks_J9_min_7cf53 : KS yJ9_min_7cf53 cJ9_min_7cf53 2 (some .int) 2 := ⟨lw_mem 252 (by decide +kernel) rfl, lw_mem 251 (by decide +kernel) rfl, lw_mem 49 (by decide +kernel) rfl, by decide, by decide, by decide +kernel⟩
set_option maxRecDepth 20000 in
theorem in_X1 : ∀ w ∈ u_ws RX1 TX1 4, w ∈ lw_g := lw_sub _ [134, 136, 138, 140] (by decide +kernel) (by decide +kernel)
set_option maxRecDepth 20000 in
theorem in_X2 : ∀ w ∈ u_ws RX2 TX2 6, w ∈ lw_g := lw_sub _ [110, 112, 114, 116, 118, 120] (by decide +kernel) (by decide +kernel)
set_option maxRecDepth 20000 in
theorem in_X4 : ∀ w ∈ u_ws RX4 TX4 5, w ∈ lw_g := lw_sub _ [86, 88, 90, 92, 94] (by decide +kernel) (by decide +kernel)
set_option maxRecDepth 20000 in
theorem in_X5 : ∀ w ∈ u_ws RX5 TX5 3, w ∈ lw_g := lw_sub _ [155, 157, 159] (by decide +kernel) (by decide +kernel)
set_option maxRecDepth 20000 in
theorem in_X6 : ∀ w ∈ u_ws RX6 TX6 6, w ∈ lw_g := lw_sub _ [168, 170, 172, 174, 176, 178] (by decide +kernel) (by decide +kernel)
set_option maxRecDepth 20000 in
theorem in_X7 : ∀ w ∈ u_ws RX7 TX7 31, w ∈ lw_g := lw_sub _ [573, 575, 577, 579, 581, 583, 585, 587, 589, 591, 593, 595, 597, 599, 601, 603, 605, 607, 609, 611, 613, 615, 617, 619, 621, 623, 625, 627, 629, 631, 633] (by decide +kernel) (by decide +kernel)
end
section
/-! the two worlds -/
def lenC (k : Nat) : Nat := if k = 2 then 5 else if k = 4 then 4 else if k = 22 then 4 else if k < 13 then 8 else 60
def eC (g : Gh) (q : Nat → Nat) (σ : St) (k : Nat) : va_E :=
  if k = 0 then .inr (4, [.ref (q 1), .ref (q 9), .ref (q 13), .ref (q 22), .int (σ k 4), .int (σ k 5)])
  else if k = 1 then .inr (1, [.ref (q 2), .ref (q 3), .ref (q 4), .int (σ k 3), .int (σ k 4), .int (σ k 5)])
  else if k = 3 then .inl (g.2.2.2.2.1, 4, .inr (.inr (.inr (.inr fun j => some (q (5 + j))))))
  else if k = 9 then .inr (0, [.ref (q 10), .ref (q 11), .ref (q 12), .int (σ k 3)])
  else if k = 13 then .inl (g.2.2.2.2.2, 4, .inr (.inr (.inr (.inr fun j => some (q (14 + j))))))
  else if 5 ≤ k ∧ k < 9 then .inr (2, [.int (σ k 0), .int (σ k 1), .int (σ k 2), .int (σ k 3), .int (σ k 4)])
  else if 14 ≤ k ∧ k < 18 then .inr (3, [.ref (q (k + 4)), .int (σ k 1), .int (σ k 2)])
  else .inl (g.2.2.1, lenC k, .inl (σ k))
def lenM (k : Nat) : Nat := if k = 1 then 5 else if k = 2 then 4 else if k = 3 then 4 else if k = 4 then 4 else if k = 5 then 4 else if k = 6 then 4 else if k = 7 then 5 else if k = 8 then 4 else if k = 9 then 4 else if k = 10 then 4 else if k = 11 then 4 else if k = 12 then 4 else if k = 13 then 1024 else if k = 14 then 1024 else if k = 15 then 8 else if k = 16 then 8 else if k = 17 then 8 else if k = 18 then 4 else if k = 19 then 4 else if k = 20 then 240 else if k = 21 then 60 else 0
def eM (g : Gh) (q : Nat → Nat) (σ : St) (k : Nat) : va_E :=
  if k = 0 then .inr (5, [.int (σ k 0), .int (σ k 1), .int (σ k 2), .ref (q 1), .int (σ k 4), .ref (q 2), .ref (q 3), .ref (q 4), .ref (q 5), .ref (q 6), .int (σ k 10), .int (σ k 11), .int (σ k 12), .int (σ k 13), .ref (q 7), .ref (q 8), .ref (q 9), .ref (q 10), .ref (q 11), .ref (q 12), .ref (q 13), .ref (q 14), .int (σ k 22), .ref (q 15), .ref (q 16), .ref (q 17), .ref (q 18), .ref (q 19), .ref (q 20), .ref (q 21), .int (σ k 30)])
  else if k = 13 ∨ k = 14 then .inl (g.2.2.2.1, 1024, .inl (σ k))
  else .inl (g.2.2.1, lenM k, .inl (σ k))
theorem eC_loc (g : Gh) (q : Nat → Nat) : Loc1 (eC g q) := fun σ σ' k h => by simp only [eC, h]
theorem eM_loc (g : Gh) (q : Nat → Nat) : Loc1 (eM g q) := fun σ σ' k h => by simp only [eM, h]
abbrev IC (g : Gh) (q : Nat → Nat) (s : State) (σ : St) (H : Heap) (locs : List Loc) : Prop := IV g (eC g q) q 23 s σ H locs
abbrev IM (g : Gh) (q : Nat → Nat) (s : State) (σ : St) (H : Heap) (locs : List Loc) : Prop := IV g (eM g q) q 22 s σ H locs
def kRi (c : Nat) : Prop := 5 ≤ c ∧ c < 9
def kSh (c : Nat) : Prop := 14 ≤ c ∧ c < 18
theorem kRi_lt {c : Nat} (h : kRi c) : c < 23 := by have := h.2; omega
theorem kSh_lt {c : Nat} (h : kSh c) : c < 23 := by have := h.2; omega
theorem kSh_lt4 {c : Nat} (h : kSh c) : c + 4 < 23 := by have := h.2; omega
theorem kRi_of {i : Int32} (h : inb i 4 = true) : kRi (5 + i.toNatClampNeg) := by have := inb_lt h; constructor <;> omega
theorem kSh_of {i : Int32} (h : inb i 4 = true) : kSh (14 + i.toNatClampNeg) := by have := inb_lt h; constructor <;> omega
theorem eC_YearDeck (g : Gh) (q : Nat → Nat) (σ : St) : eC g q σ 0 = .inr (4, [.ref (q 1), .ref (q 9), .ref (q 13), .ref (q 22), .int (σ 0 4), .int (σ 0 5)]) := rfl
theorem eC_Ride (g : Gh) (q : Nat → Nat) (σ : St) : eC g q σ 1 = .inr (1, [.ref (q 2), .ref (q 3), .ref (q 4), .int (σ 1 3), .int (σ 1 4), .int (σ 1 5)]) := rfl
theorem eC_Readings (g : Gh) (q : Nat → Nat) (σ : St) : eC g q σ 9 = .inr (0, [.ref (q 10), .ref (q 11), .ref (q 12), .int (σ 9 3)]) := rfl
theorem eM_Model (g : Gh) (q : Nat → Nat) (σ : St) : eM g q σ 0 = .inr (5, [.int (σ 0 0), .int (σ 0 1), .int (σ 0 2), .ref (q 1), .int (σ 0 4), .ref (q 2), .ref (q 3), .ref (q 4), .ref (q 5), .ref (q 6), .int (σ 0 10), .int (σ 0 11), .int (σ 0 12), .int (σ 0 13), .ref (q 7), .ref (q 8), .ref (q 9), .ref (q 10), .ref (q 11), .ref (q 12), .ref (q 13), .ref (q 14), .int (σ 0 22), .ref (q 15), .ref (q 16), .ref (q 17), .ref (q 18), .ref (q 19), .ref (q 20), .ref (q 21), .int (σ 0 30)]) := rfl
theorem eC_Rider (g : Gh) (q : Nat → Nat) (σ : St) {c : Nat} (h : kRi c) : eC g q σ c = .inr (2, [.int (σ c 0), .int (σ c 1), .int (σ c 2), .int (σ c 3), .int (σ c 4)]) := by
  obtain ⟨h1, h2⟩ := h
  simp only [eC]
  rw [if_neg (by omega), if_neg (by omega), if_neg (by omega), if_neg (by omega), if_neg (by omega), if_pos ⟨h1, h2⟩]
theorem eC_Sheet (g : Gh) (q : Nat → Nat) (σ : St) {c : Nat} (h : kSh c) : eC g q σ c = .inr (3, [.ref (q (c + 4)), .int (σ c 1), .int (σ c 2)]) := by
  obtain ⟨h1, h2⟩ := h
  simp only [eC]
  rw [if_neg (by omega), if_neg (by omega), if_neg (by omega), if_neg (by omega), if_neg (by omega), if_neg (by omega), if_pos ⟨h1, h2⟩]
theorem eC_cells (g : Gh) (q : Nat → Nat) {c : Nat} (h : kSh c) : ∀ σ, eC g q σ (c + 4) = .inl (g.2.2.1, 60, .inl (σ (c + 4))) := by
  intro σ
  obtain ⟨h1, h2⟩ := h
  simp only [eC, lenC]
  rw [if_neg (by omega), if_neg (by omega), if_neg (by omega), if_neg (by omega), if_neg (by omega), if_neg (by omega), if_neg (by omega), if_neg (by omega), if_neg (by omega), if_neg (by omega), if_neg (by omega)]
theorem eCa_2 (g : Gh) (q : Nat → Nat) : ∀ σ, eC g q σ 2 = .inl (g.2.2.1, 5, .inl (σ 2)) := fun _ => rfl
theorem eCa_4 (g : Gh) (q : Nat → Nat) : ∀ σ, eC g q σ 4 = .inl (g.2.2.1, 4, .inl (σ 4)) := fun _ => rfl
theorem eCa_10 (g : Gh) (q : Nat → Nat) : ∀ σ, eC g q σ 10 = .inl (g.2.2.1, 8, .inl (σ 10)) := fun _ => rfl
theorem eCa_11 (g : Gh) (q : Nat → Nat) : ∀ σ, eC g q σ 11 = .inl (g.2.2.1, 8, .inl (σ 11)) := fun _ => rfl
theorem eCa_12 (g : Gh) (q : Nat → Nat) : ∀ σ, eC g q σ 12 = .inl (g.2.2.1, 8, .inl (σ 12)) := fun _ => rfl
theorem eCa_22 (g : Gh) (q : Nat → Nat) : ∀ σ, eC g q σ 22 = .inl (g.2.2.1, 4, .inl (σ 22)) := fun _ => rfl
theorem eCr_3 (g : Gh) (q : Nat → Nat) (σ : St) : eC g q σ 3 = .inl (g.2.2.2.2.1, 4, .inr (.inr (.inr (.inr fun j => some (q (5 + j)))))) := rfl
theorem eCr_13 (g : Gh) (q : Nat → Nat) (σ : St) : eC g q σ 13 = .inl (g.2.2.2.2.2, 4, .inr (.inr (.inr (.inr fun j => some (q (14 + j)))))) := rfl
theorem eMa_1 (g : Gh) (q : Nat → Nat) : ∀ σ, eM g q σ 1 = .inl (g.2.2.1, 5, .inl (σ 1)) := fun _ => rfl
theorem eMa_2 (g : Gh) (q : Nat → Nat) : ∀ σ, eM g q σ 2 = .inl (g.2.2.1, 4, .inl (σ 2)) := fun _ => rfl
theorem eMa_3 (g : Gh) (q : Nat → Nat) : ∀ σ, eM g q σ 3 = .inl (g.2.2.1, 4, .inl (σ 3)) := fun _ => rfl
theorem eMa_4 (g : Gh) (q : Nat → Nat) : ∀ σ, eM g q σ 4 = .inl (g.2.2.1, 4, .inl (σ 4)) := fun _ => rfl
theorem eMa_5 (g : Gh) (q : Nat → Nat) : ∀ σ, eM g q σ 5 = .inl (g.2.2.1, 4, .inl (σ 5)) := fun _ => rfl
theorem eMa_6 (g : Gh) (q : Nat → Nat) : ∀ σ, eM g q σ 6 = .inl (g.2.2.1, 4, .inl (σ 6)) := fun _ => rfl
theorem eMa_7 (g : Gh) (q : Nat → Nat) : ∀ σ, eM g q σ 7 = .inl (g.2.2.1, 5, .inl (σ 7)) := fun _ => rfl
theorem eMa_8 (g : Gh) (q : Nat → Nat) : ∀ σ, eM g q σ 8 = .inl (g.2.2.1, 4, .inl (σ 8)) := fun _ => rfl
theorem eMa_9 (g : Gh) (q : Nat → Nat) : ∀ σ, eM g q σ 9 = .inl (g.2.2.1, 4, .inl (σ 9)) := fun _ => rfl
theorem eMa_10 (g : Gh) (q : Nat → Nat) : ∀ σ, eM g q σ 10 = .inl (g.2.2.1, 4, .inl (σ 10)) := fun _ => rfl
theorem eMa_11 (g : Gh) (q : Nat → Nat) : ∀ σ, eM g q σ 11 = .inl (g.2.2.1, 4, .inl (σ 11)) := fun _ => rfl
theorem eMa_12 (g : Gh) (q : Nat → Nat) : ∀ σ, eM g q σ 12 = .inl (g.2.2.1, 4, .inl (σ 12)) := fun _ => rfl
theorem eMa_13 (g : Gh) (q : Nat → Nat) : ∀ σ, eM g q σ 13 = .inl (g.2.2.2.1, 1024, .inl (σ 13)) := fun _ => rfl
theorem eMa_14 (g : Gh) (q : Nat → Nat) : ∀ σ, eM g q σ 14 = .inl (g.2.2.2.1, 1024, .inl (σ 14)) := fun _ => rfl
theorem eMa_15 (g : Gh) (q : Nat → Nat) : ∀ σ, eM g q σ 15 = .inl (g.2.2.1, 8, .inl (σ 15)) := fun _ => rfl
theorem eMa_16 (g : Gh) (q : Nat → Nat) : ∀ σ, eM g q σ 16 = .inl (g.2.2.1, 8, .inl (σ 16)) := fun _ => rfl
theorem eMa_17 (g : Gh) (q : Nat → Nat) : ∀ σ, eM g q σ 17 = .inl (g.2.2.1, 8, .inl (σ 17)) := fun _ => rfl
theorem eMa_18 (g : Gh) (q : Nat → Nat) : ∀ σ, eM g q σ 18 = .inl (g.2.2.1, 4, .inl (σ 18)) := fun _ => rfl
theorem eMa_19 (g : Gh) (q : Nat → Nat) : ∀ σ, eM g q σ 19 = .inl (g.2.2.1, 4, .inl (σ 19)) := fun _ => rfl
theorem eMa_20 (g : Gh) (q : Nat → Nat) : ∀ σ, eM g q σ 20 = .inl (g.2.2.1, 240, .inl (σ 20)) := fun _ => rfl
theorem eMa_21 (g : Gh) (q : Nat → Nat) : ∀ σ, eM g q σ 21 = .inl (g.2.2.1, 60, .inl (σ 21)) := fun _ => rfl
section R2
variable {p : Program} {l : Launch} {e : Env} {R : Room} {s : State} {m : MethodId} {args : Array Value} {below : List Frame} {meth : Method} {c : Code} {H : Heap} {locs : List Loc} {cells slots : Nat} {Q : State → Prop}
variable {cc : ByteArray} {pc nL : Nat} {rt : Option FieldType} {own : String} {ls : Array Slot} {rest : List Value}
variable {g : Gh} {q : Nat → Nat} {σ : St}
theorem g_YearDeck_trip (X : MX p s m args meth c cc nL rt own) (I : IC g q s σ H locs) {index : Nat} (hl : Cond.fieldLink own index "YearDeck" "trip" "LYearDeck$Ride;" ∈ lw_g) (hdg : decode cc pc = .ok (.getfield index, 3)) (kk : W p l e R s m args below meth c H locs cells slots Q (F0 m (pc + 3) ls (.ref (q 1) :: rest))) : W p l e R s m args below meth c H locs cells slots Q (F0 m pc ls (.ref (q 0) :: rest)) :=
  r_get (C := RX6) (T := TX6) (Nf := 6) (ci := 4) (k := 0) X I in_X6 rfl (by decide) (eC_YearDeck g q σ) (by decide) rfl hl hdg kk
theorem g_YearDeck_read (X : MX p s m args meth c cc nL rt own) (I : IC g q s σ H locs) {index : Nat} (hl : Cond.fieldLink own index "YearDeck" "read" "LYearDeck$Readings;" ∈ lw_g) (hdg : decode cc pc = .ok (.getfield index, 3)) (kk : W p l e R s m args below meth c H locs cells slots Q (F0 m (pc + 3) ls (.ref (q 9) :: rest))) : W p l e R s m args below meth c H locs cells slots Q (F0 m pc ls (.ref (q 0) :: rest)) :=
  r_get (C := RX6) (T := TX6) (Nf := 6) (ci := 4) (k := 1) X I in_X6 rfl (by decide) (eC_YearDeck g q σ) (by decide) rfl hl hdg kk
theorem g_YearDeck_sheets (X : MX p s m args meth c cc nL rt own) (I : IC g q s σ H locs) {index : Nat} (hl : Cond.fieldLink own index "YearDeck" "sheets" "[LYearDeck$Sheet;" ∈ lw_g) (hdg : decode cc pc = .ok (.getfield index, 3)) (kk : W p l e R s m args below meth c H locs cells slots Q (F0 m (pc + 3) ls (.ref (q 13) :: rest))) : W p l e R s m args below meth c H locs cells slots Q (F0 m pc ls (.ref (q 0) :: rest)) :=
  r_get (C := RX6) (T := TX6) (Nf := 6) (ci := 4) (k := 2) X I in_X6 rfl (by decide) (eC_YearDeck g q σ) (by decide) rfl hl hdg kk
theorem g_YearDeck_sitting (X : MX p s m args meth c cc nL rt own) (I : IC g q s σ H locs) {index : Nat} (hl : Cond.fieldLink own index "YearDeck" "sitting" "[I" ∈ lw_g) (hdg : decode cc pc = .ok (.getfield index, 3)) (kk : W p l e R s m args below meth c H locs cells slots Q (F0 m (pc + 3) ls (.ref (q 22) :: rest))) : W p l e R s m args below meth c H locs cells slots Q (F0 m pc ls (.ref (q 0) :: rest)) :=
  r_get (C := RX6) (T := TX6) (Nf := 6) (ci := 4) (k := 3) X I in_X6 rfl (by decide) (eC_YearDeck g q σ) (by decide) rfl hl hdg kk
theorem g_YearDeck_traced (X : MX p s m args meth c cc nL rt own) (I : IC g q s σ H locs) {index : Nat} (hl : Cond.fieldLink own index "YearDeck" "traced" "I" ∈ lw_g) (hdg : decode cc pc = .ok (.getfield index, 3)) (kk : W p l e R s m args below meth c H locs cells slots Q (F0 m (pc + 3) ls (.int (σ 0 4) :: rest))) : W p l e R s m args below meth c H locs cells slots Q (F0 m pc ls (.ref (q 0) :: rest)) :=
  r_get (C := RX6) (T := TX6) (Nf := 6) (ci := 4) (k := 4) X I in_X6 rfl (by decide) (eC_YearDeck g q σ) (by decide) rfl hl hdg kk
theorem p_YearDeck_traced (X : MX p s m args meth c cc nL rt own) (I : IC g q s σ H locs) {index : Nat} {x : Int32} (hl : Cond.fieldLink own index "YearDeck" "traced" "I" ∈ lw_g) (hdg : decode cc pc = .ok (.putfield index, 3)) (kk : ∀ (H1 : Heap) (locs1 : List Loc), IC g q s (up2 σ 0 4 x) H1 locs1 → W p l e R s m args below meth c H1 locs1 cells slots Q (F0 m (pc + 3) ls (rest))) : W p l e R s m args below meth c H locs cells slots Q (F0 m pc ls (.int x :: .ref (q 0) :: rest)) :=
  r_put (C := RX6) (T := TX6) (Nf := 6) (ci := 4) (k := 4) (eC_loc g q) X I in_X6 rfl tyX6 tyX6_ok nmX6 rfl rfl (by decide) (eC_YearDeck g q σ) (by decide) (by simp) (by rw [eC_YearDeck g q _]; simp [up2, va_up, upd]) hl hdg kk
theorem g_YearDeck_lastFault (X : MX p s m args meth c cc nL rt own) (I : IC g q s σ H locs) {index : Nat} (hl : Cond.fieldLink own index "YearDeck" "lastFault" "I" ∈ lw_g) (hdg : decode cc pc = .ok (.getfield index, 3)) (kk : W p l e R s m args below meth c H locs cells slots Q (F0 m (pc + 3) ls (.int (σ 0 5) :: rest))) : W p l e R s m args below meth c H locs cells slots Q (F0 m pc ls (.ref (q 0) :: rest)) :=
  r_get (C := RX6) (T := TX6) (Nf := 6) (ci := 4) (k := 5) X I in_X6 rfl (by decide) (eC_YearDeck g q σ) (by decide) rfl hl hdg kk
theorem p_YearDeck_lastFault (X : MX p s m args meth c cc nL rt own) (I : IC g q s σ H locs) {index : Nat} {x : Int32} (hl : Cond.fieldLink own index "YearDeck" "lastFault" "I" ∈ lw_g) (hdg : decode cc pc = .ok (.putfield index, 3)) (kk : ∀ (H1 : Heap) (locs1 : List Loc), IC g q s (up2 σ 0 5 x) H1 locs1 → W p l e R s m args below meth c H1 locs1 cells slots Q (F0 m (pc + 3) ls (rest))) : W p l e R s m args below meth c H locs cells slots Q (F0 m pc ls (.int x :: .ref (q 0) :: rest)) :=
  r_put (C := RX6) (T := TX6) (Nf := 6) (ci := 4) (k := 5) (eC_loc g q) X I in_X6 rfl tyX6 tyX6_ok nmX6 rfl rfl (by decide) (eC_YearDeck g q σ) (by decide) (by simp) (by rw [eC_YearDeck g q _]; simp [up2, va_up, upd]) hl hdg kk
theorem g_Readings_who (X : MX p s m args meth c cc nL rt own) (I : IC g q s σ H locs) {index : Nat} (hl : Cond.fieldLink own index "YearDeck$Readings" "who" "[I" ∈ lw_g) (hdg : decode cc pc = .ok (.getfield index, 3)) (kk : W p l e R s m args below meth c H locs cells slots Q (F0 m (pc + 3) ls (.ref (q 10) :: rest))) : W p l e R s m args below meth c H locs cells slots Q (F0 m pc ls (.ref (q 9) :: rest)) :=
  r_get (C := RX1) (T := TX1) (Nf := 4) (ci := 0) (k := 0) X I in_X1 rfl (by decide) (eC_Readings g q σ) (by decide) rfl hl hdg kk
theorem g_Readings_sets (X : MX p s m args meth c cc nL rt own) (I : IC g q s σ H locs) {index : Nat} (hl : Cond.fieldLink own index "YearDeck$Readings" "sets" "[I" ∈ lw_g) (hdg : decode cc pc = .ok (.getfield index, 3)) (kk : W p l e R s m args below meth c H locs cells slots Q (F0 m (pc + 3) ls (.ref (q 11) :: rest))) : W p l e R s m args below meth c H locs cells slots Q (F0 m pc ls (.ref (q 9) :: rest)) :=
  r_get (C := RX1) (T := TX1) (Nf := 4) (ci := 0) (k := 1) X I in_X1 rfl (by decide) (eC_Readings g q σ) (by decide) rfl hl hdg kk
theorem g_Readings_years (X : MX p s m args meth c cc nL rt own) (I : IC g q s σ H locs) {index : Nat} (hl : Cond.fieldLink own index "YearDeck$Readings" "years" "[I" ∈ lw_g) (hdg : decode cc pc = .ok (.getfield index, 3)) (kk : W p l e R s m args below meth c H locs cells slots Q (F0 m (pc + 3) ls (.ref (q 12) :: rest))) : W p l e R s m args below meth c H locs cells slots Q (F0 m pc ls (.ref (q 9) :: rest)) :=
  r_get (C := RX1) (T := TX1) (Nf := 4) (ci := 0) (k := 2) X I in_X1 rfl (by decide) (eC_Readings g q σ) (by decide) rfl hl hdg kk
theorem g_Readings_count (X : MX p s m args meth c cc nL rt own) (I : IC g q s σ H locs) {index : Nat} (hl : Cond.fieldLink own index "YearDeck$Readings" "count" "I" ∈ lw_g) (hdg : decode cc pc = .ok (.getfield index, 3)) (kk : W p l e R s m args below meth c H locs cells slots Q (F0 m (pc + 3) ls (.int (σ 9 3) :: rest))) : W p l e R s m args below meth c H locs cells slots Q (F0 m pc ls (.ref (q 9) :: rest)) :=
  r_get (C := RX1) (T := TX1) (Nf := 4) (ci := 0) (k := 3) X I in_X1 rfl (by decide) (eC_Readings g q σ) (by decide) rfl hl hdg kk
theorem p_Readings_count (X : MX p s m args meth c cc nL rt own) (I : IC g q s σ H locs) {index : Nat} {x : Int32} (hl : Cond.fieldLink own index "YearDeck$Readings" "count" "I" ∈ lw_g) (hdg : decode cc pc = .ok (.putfield index, 3)) (kk : ∀ (H1 : Heap) (locs1 : List Loc), IC g q s (up2 σ 9 3 x) H1 locs1 → W p l e R s m args below meth c H1 locs1 cells slots Q (F0 m (pc + 3) ls (rest))) : W p l e R s m args below meth c H locs cells slots Q (F0 m pc ls (.int x :: .ref (q 9) :: rest)) :=
  r_put (C := RX1) (T := TX1) (Nf := 4) (ci := 0) (k := 3) (eC_loc g q) X I in_X1 rfl tyX1 tyX1_ok nmX1 rfl rfl (by decide) (eC_Readings g q σ) (by decide) (by simp) (by rw [eC_Readings g q _]; simp [up2, va_up, upd]) hl hdg kk
theorem g_Ride_steep (X : MX p s m args meth c cc nL rt own) (I : IC g q s σ H locs) {index : Nat} (hl : Cond.fieldLink own index "YearDeck$Ride" "steep" "[I" ∈ lw_g) (hdg : decode cc pc = .ok (.getfield index, 3)) (kk : W p l e R s m args below meth c H locs cells slots Q (F0 m (pc + 3) ls (.ref (q 2) :: rest))) : W p l e R s m args below meth c H locs cells slots Q (F0 m pc ls (.ref (q 1) :: rest)) :=
  r_get (C := RX2) (T := TX2) (Nf := 6) (ci := 1) (k := 0) X I in_X2 rfl (by decide) (eC_Ride g q σ) (by decide) rfl hl hdg kk
theorem g_Ride_riders (X : MX p s m args meth c cc nL rt own) (I : IC g q s σ H locs) {index : Nat} (hl : Cond.fieldLink own index "YearDeck$Ride" "riders" "[LYearDeck$Rider;" ∈ lw_g) (hdg : decode cc pc = .ok (.getfield index, 3)) (kk : W p l e R s m args below meth c H locs cells slots Q (F0 m (pc + 3) ls (.ref (q 3) :: rest))) : W p l e R s m args below meth c H locs cells slots Q (F0 m pc ls (.ref (q 1) :: rest)) :=
  r_get (C := RX2) (T := TX2) (Nf := 6) (ci := 1) (k := 1) X I in_X2 rfl (by decide) (eC_Ride g q σ) (by decide) rfl hl hdg kk
theorem g_Ride_rightSets (X : MX p s m args meth c cc nL rt own) (I : IC g q s σ H locs) {index : Nat} (hl : Cond.fieldLink own index "YearDeck$Ride" "rightSets" "[I" ∈ lw_g) (hdg : decode cc pc = .ok (.getfield index, 3)) (kk : W p l e R s m args below meth c H locs cells slots Q (F0 m (pc + 3) ls (.ref (q 4) :: rest))) : W p l e R s m args below meth c H locs cells slots Q (F0 m pc ls (.ref (q 1) :: rest)) :=
  r_get (C := RX2) (T := TX2) (Nf := 6) (ci := 1) (k := 2) X I in_X2 rfl (by decide) (eC_Ride g q σ) (by decide) rfl hl hdg kk
theorem g_Ride_seats (X : MX p s m args meth c cc nL rt own) (I : IC g q s σ H locs) {index : Nat} (hl : Cond.fieldLink own index "YearDeck$Ride" "seats" "I" ∈ lw_g) (hdg : decode cc pc = .ok (.getfield index, 3)) (kk : W p l e R s m args below meth c H locs cells slots Q (F0 m (pc + 3) ls (.int (σ 1 3) :: rest))) : W p l e R s m args below meth c H locs cells slots Q (F0 m pc ls (.ref (q 1) :: rest)) :=
  r_get (C := RX2) (T := TX2) (Nf := 6) (ci := 1) (k := 3) X I in_X2 rfl (by decide) (eC_Ride g q σ) (by decide) rfl hl hdg kk
theorem p_Ride_seats (X : MX p s m args meth c cc nL rt own) (I : IC g q s σ H locs) {index : Nat} {x : Int32} (hl : Cond.fieldLink own index "YearDeck$Ride" "seats" "I" ∈ lw_g) (hdg : decode cc pc = .ok (.putfield index, 3)) (kk : ∀ (H1 : Heap) (locs1 : List Loc), IC g q s (up2 σ 1 3 x) H1 locs1 → W p l e R s m args below meth c H1 locs1 cells slots Q (F0 m (pc + 3) ls (rest))) : W p l e R s m args below meth c H locs cells slots Q (F0 m pc ls (.int x :: .ref (q 1) :: rest)) :=
  r_put (C := RX2) (T := TX2) (Nf := 6) (ci := 1) (k := 3) (eC_loc g q) X I in_X2 rfl tyX2 tyX2_ok nmX2 rfl rfl (by decide) (eC_Ride g q σ) (by decide) (by simp) (by rw [eC_Ride g q _]; simp [up2, va_up, upd]) hl hdg kk
theorem g_Ride_sections (X : MX p s m args meth c cc nL rt own) (I : IC g q s σ H locs) {index : Nat} (hl : Cond.fieldLink own index "YearDeck$Ride" "sections" "I" ∈ lw_g) (hdg : decode cc pc = .ok (.getfield index, 3)) (kk : W p l e R s m args below meth c H locs cells slots Q (F0 m (pc + 3) ls (.int (σ 1 4) :: rest))) : W p l e R s m args below meth c H locs cells slots Q (F0 m pc ls (.ref (q 1) :: rest)) :=
  r_get (C := RX2) (T := TX2) (Nf := 6) (ci := 1) (k := 4) X I in_X2 rfl (by decide) (eC_Ride g q σ) (by decide) rfl hl hdg kk
theorem p_Ride_sections (X : MX p s m args meth c cc nL rt own) (I : IC g q s σ H locs) {index : Nat} {x : Int32} (hl : Cond.fieldLink own index "YearDeck$Ride" "sections" "I" ∈ lw_g) (hdg : decode cc pc = .ok (.putfield index, 3)) (kk : ∀ (H1 : Heap) (locs1 : List Loc), IC g q s (up2 σ 1 4 x) H1 locs1 → W p l e R s m args below meth c H1 locs1 cells slots Q (F0 m (pc + 3) ls (rest))) : W p l e R s m args below meth c H locs cells slots Q (F0 m pc ls (.int x :: .ref (q 1) :: rest)) :=
  r_put (C := RX2) (T := TX2) (Nf := 6) (ci := 1) (k := 4) (eC_loc g q) X I in_X2 rfl tyX2 tyX2_ok nmX2 rfl rfl (by decide) (eC_Ride g q σ) (by decide) (by simp) (by rw [eC_Ride g q _]; simp [up2, va_up, upd]) hl hdg kk
theorem g_Ride_count (X : MX p s m args meth c cc nL rt own) (I : IC g q s σ H locs) {index : Nat} (hl : Cond.fieldLink own index "YearDeck$Ride" "count" "I" ∈ lw_g) (hdg : decode cc pc = .ok (.getfield index, 3)) (kk : W p l e R s m args below meth c H locs cells slots Q (F0 m (pc + 3) ls (.int (σ 1 5) :: rest))) : W p l e R s m args below meth c H locs cells slots Q (F0 m pc ls (.ref (q 1) :: rest)) :=
  r_get (C := RX2) (T := TX2) (Nf := 6) (ci := 1) (k := 5) X I in_X2 rfl (by decide) (eC_Ride g q σ) (by decide) rfl hl hdg kk
theorem p_Ride_count (X : MX p s m args meth c cc nL rt own) (I : IC g q s σ H locs) {index : Nat} {x : Int32} (hl : Cond.fieldLink own index "YearDeck$Ride" "count" "I" ∈ lw_g) (hdg : decode cc pc = .ok (.putfield index, 3)) (kk : ∀ (H1 : Heap) (locs1 : List Loc), IC g q s (up2 σ 1 5 x) H1 locs1 → W p l e R s m args below meth c H1 locs1 cells slots Q (F0 m (pc + 3) ls (rest))) : W p l e R s m args below meth c H locs cells slots Q (F0 m pc ls (.int x :: .ref (q 1) :: rest)) :=
  r_put (C := RX2) (T := TX2) (Nf := 6) (ci := 1) (k := 5) (eC_loc g q) X I in_X2 rfl tyX2 tyX2_ok nmX2 rfl rfl (by decide) (eC_Ride g q σ) (by decide) (by simp) (by rw [eC_Ride g q _]; simp [up2, va_up, upd]) hl hdg kk
theorem g_Rider_kind (X : MX p s m args meth c cc nL rt own) (I : IC g q s σ H locs) {cn index : Nat} (hc : kRi cn) (hl : Cond.fieldLink own index "YearDeck$Rider" "kind" "I" ∈ lw_g) (hdg : decode cc pc = .ok (.getfield index, 3)) (kk : W p l e R s m args below meth c H locs cells slots Q (F0 m (pc + 3) ls (.int (σ cn 0) :: rest))) : W p l e R s m args below meth c H locs cells slots Q (F0 m pc ls (.ref (q cn) :: rest)) :=
  r_get (C := RX4) (T := TX4) (Nf := 5) (ci := 2) (k := 0) X I in_X4 rfl (kRi_lt hc) (eC_Rider g q σ hc) (by decide) rfl hl hdg kk
theorem p_Rider_kind (X : MX p s m args meth c cc nL rt own) (I : IC g q s σ H locs) {cn index : Nat} {x : Int32} (hc : kRi cn) (hl : Cond.fieldLink own index "YearDeck$Rider" "kind" "I" ∈ lw_g) (hdg : decode cc pc = .ok (.putfield index, 3)) (kk : ∀ (H1 : Heap) (locs1 : List Loc), IC g q s (up2 σ cn 0 x) H1 locs1 → W p l e R s m args below meth c H1 locs1 cells slots Q (F0 m (pc + 3) ls (rest))) : W p l e R s m args below meth c H locs cells slots Q (F0 m pc ls (.int x :: .ref (q cn) :: rest)) :=
  r_put (C := RX4) (T := TX4) (Nf := 5) (ci := 2) (k := 0) (eC_loc g q) X I in_X4 rfl tyX4 tyX4_ok nmX4 rfl rfl (kRi_lt hc) (eC_Rider g q σ hc) (by decide) (by simp) (by rw [eC_Rider g q _ hc]; simp [up2, va_up, upd]) hl hdg kk
theorem g_Rider_on (X : MX p s m args meth c cc nL rt own) (I : IC g q s σ H locs) {cn index : Nat} (hc : kRi cn) (hl : Cond.fieldLink own index "YearDeck$Rider" "on" "I" ∈ lw_g) (hdg : decode cc pc = .ok (.getfield index, 3)) (kk : W p l e R s m args below meth c H locs cells slots Q (F0 m (pc + 3) ls (.int (σ cn 1) :: rest))) : W p l e R s m args below meth c H locs cells slots Q (F0 m pc ls (.ref (q cn) :: rest)) :=
  r_get (C := RX4) (T := TX4) (Nf := 5) (ci := 2) (k := 1) X I in_X4 rfl (kRi_lt hc) (eC_Rider g q σ hc) (by decide) rfl hl hdg kk
theorem p_Rider_on (X : MX p s m args meth c cc nL rt own) (I : IC g q s σ H locs) {cn index : Nat} {x : Int32} (hc : kRi cn) (hl : Cond.fieldLink own index "YearDeck$Rider" "on" "I" ∈ lw_g) (hdg : decode cc pc = .ok (.putfield index, 3)) (kk : ∀ (H1 : Heap) (locs1 : List Loc), IC g q s (up2 σ cn 1 x) H1 locs1 → W p l e R s m args below meth c H1 locs1 cells slots Q (F0 m (pc + 3) ls (rest))) : W p l e R s m args below meth c H locs cells slots Q (F0 m pc ls (.int x :: .ref (q cn) :: rest)) :=
  r_put (C := RX4) (T := TX4) (Nf := 5) (ci := 2) (k := 1) (eC_loc g q) X I in_X4 rfl tyX4 tyX4_ok nmX4 rfl rfl (kRi_lt hc) (eC_Rider g q σ hc) (by decide) (by simp) (by rw [eC_Rider g q _ hc]; simp [up2, va_up, upd]) hl hdg kk
theorem g_Rider_off (X : MX p s m args meth c cc nL rt own) (I : IC g q s σ H locs) {cn index : Nat} (hc : kRi cn) (hl : Cond.fieldLink own index "YearDeck$Rider" "off" "I" ∈ lw_g) (hdg : decode cc pc = .ok (.getfield index, 3)) (kk : W p l e R s m args below meth c H locs cells slots Q (F0 m (pc + 3) ls (.int (σ cn 2) :: rest))) : W p l e R s m args below meth c H locs cells slots Q (F0 m pc ls (.ref (q cn) :: rest)) :=
  r_get (C := RX4) (T := TX4) (Nf := 5) (ci := 2) (k := 2) X I in_X4 rfl (kRi_lt hc) (eC_Rider g q σ hc) (by decide) rfl hl hdg kk
theorem p_Rider_off (X : MX p s m args meth c cc nL rt own) (I : IC g q s σ H locs) {cn index : Nat} {x : Int32} (hc : kRi cn) (hl : Cond.fieldLink own index "YearDeck$Rider" "off" "I" ∈ lw_g) (hdg : decode cc pc = .ok (.putfield index, 3)) (kk : ∀ (H1 : Heap) (locs1 : List Loc), IC g q s (up2 σ cn 2 x) H1 locs1 → W p l e R s m args below meth c H1 locs1 cells slots Q (F0 m (pc + 3) ls (rest))) : W p l e R s m args below meth c H locs cells slots Q (F0 m pc ls (.int x :: .ref (q cn) :: rest)) :=
  r_put (C := RX4) (T := TX4) (Nf := 5) (ci := 2) (k := 2) (eC_loc g q) X I in_X4 rfl tyX4 tyX4_ok nmX4 rfl rfl (kRi_lt hc) (eC_Rider g q σ hc) (by decide) (by simp) (by rw [eC_Rider g q _ hc]; simp [up2, va_up, upd]) hl hdg kk
theorem g_Rider_years (X : MX p s m args meth c cc nL rt own) (I : IC g q s σ H locs) {cn index : Nat} (hc : kRi cn) (hl : Cond.fieldLink own index "YearDeck$Rider" "years" "I" ∈ lw_g) (hdg : decode cc pc = .ok (.getfield index, 3)) (kk : W p l e R s m args below meth c H locs cells slots Q (F0 m (pc + 3) ls (.int (σ cn 3) :: rest))) : W p l e R s m args below meth c H locs cells slots Q (F0 m pc ls (.ref (q cn) :: rest)) :=
  r_get (C := RX4) (T := TX4) (Nf := 5) (ci := 2) (k := 3) X I in_X4 rfl (kRi_lt hc) (eC_Rider g q σ hc) (by decide) rfl hl hdg kk
theorem p_Rider_years (X : MX p s m args meth c cc nL rt own) (I : IC g q s σ H locs) {cn index : Nat} {x : Int32} (hc : kRi cn) (hl : Cond.fieldLink own index "YearDeck$Rider" "years" "I" ∈ lw_g) (hdg : decode cc pc = .ok (.putfield index, 3)) (kk : ∀ (H1 : Heap) (locs1 : List Loc), IC g q s (up2 σ cn 3 x) H1 locs1 → W p l e R s m args below meth c H1 locs1 cells slots Q (F0 m (pc + 3) ls (rest))) : W p l e R s m args below meth c H locs cells slots Q (F0 m pc ls (.int x :: .ref (q cn) :: rest)) :=
  r_put (C := RX4) (T := TX4) (Nf := 5) (ci := 2) (k := 3) (eC_loc g q) X I in_X4 rfl tyX4 tyX4_ok nmX4 rfl rfl (kRi_lt hc) (eC_Rider g q σ hc) (by decide) (by simp) (by rw [eC_Rider g q _ hc]; simp [up2, va_up, upd]) hl hdg kk
theorem g_Rider_want (X : MX p s m args meth c cc nL rt own) (I : IC g q s σ H locs) {cn index : Nat} (hc : kRi cn) (hl : Cond.fieldLink own index "YearDeck$Rider" "want" "I" ∈ lw_g) (hdg : decode cc pc = .ok (.getfield index, 3)) (kk : W p l e R s m args below meth c H locs cells slots Q (F0 m (pc + 3) ls (.int (σ cn 4) :: rest))) : W p l e R s m args below meth c H locs cells slots Q (F0 m pc ls (.ref (q cn) :: rest)) :=
  r_get (C := RX4) (T := TX4) (Nf := 5) (ci := 2) (k := 4) X I in_X4 rfl (kRi_lt hc) (eC_Rider g q σ hc) (by decide) rfl hl hdg kk
theorem p_Rider_want (X : MX p s m args meth c cc nL rt own) (I : IC g q s σ H locs) {cn index : Nat} {x : Int32} (hc : kRi cn) (hl : Cond.fieldLink own index "YearDeck$Rider" "want" "I" ∈ lw_g) (hdg : decode cc pc = .ok (.putfield index, 3)) (kk : ∀ (H1 : Heap) (locs1 : List Loc), IC g q s (up2 σ cn 4 x) H1 locs1 → W p l e R s m args below meth c H1 locs1 cells slots Q (F0 m (pc + 3) ls (rest))) : W p l e R s m args below meth c H locs cells slots Q (F0 m pc ls (.int x :: .ref (q cn) :: rest)) :=
  r_put (C := RX4) (T := TX4) (Nf := 5) (ci := 2) (k := 4) (eC_loc g q) X I in_X4 rfl tyX4 tyX4_ok nmX4 rfl rfl (kRi_lt hc) (eC_Rider g q σ hc) (by decide) (by simp) (by rw [eC_Rider g q _ hc]; simp [up2, va_up, upd]) hl hdg kk
theorem g_Sheet_cells (X : MX p s m args meth c cc nL rt own) (I : IC g q s σ H locs) {cn index : Nat} (hc : kSh cn) (hl : Cond.fieldLink own index "YearDeck$Sheet" "cells" "[I" ∈ lw_g) (hdg : decode cc pc = .ok (.getfield index, 3)) (kk : W p l e R s m args below meth c H locs cells slots Q (F0 m (pc + 3) ls (.ref (q (cn + 4)) :: rest))) : W p l e R s m args below meth c H locs cells slots Q (F0 m pc ls (.ref (q cn) :: rest)) :=
  r_get (C := RX5) (T := TX5) (Nf := 3) (ci := 3) (k := 0) X I in_X5 rfl (kSh_lt hc) (eC_Sheet g q σ hc) (by decide) rfl hl hdg kk
theorem g_Sheet_lane (X : MX p s m args meth c cc nL rt own) (I : IC g q s σ H locs) {cn index : Nat} (hc : kSh cn) (hl : Cond.fieldLink own index "YearDeck$Sheet" "lane" "I" ∈ lw_g) (hdg : decode cc pc = .ok (.getfield index, 3)) (kk : W p l e R s m args below meth c H locs cells slots Q (F0 m (pc + 3) ls (.int (σ cn 1) :: rest))) : W p l e R s m args below meth c H locs cells slots Q (F0 m pc ls (.ref (q cn) :: rest)) :=
  r_get (C := RX5) (T := TX5) (Nf := 3) (ci := 3) (k := 1) X I in_X5 rfl (kSh_lt hc) (eC_Sheet g q σ hc) (by decide) rfl hl hdg kk
theorem p_Sheet_lane (X : MX p s m args meth c cc nL rt own) (I : IC g q s σ H locs) {cn index : Nat} {x : Int32} (hc : kSh cn) (hl : Cond.fieldLink own index "YearDeck$Sheet" "lane" "I" ∈ lw_g) (hdg : decode cc pc = .ok (.putfield index, 3)) (kk : ∀ (H1 : Heap) (locs1 : List Loc), IC g q s (up2 σ cn 1 x) H1 locs1 → W p l e R s m args below meth c H1 locs1 cells slots Q (F0 m (pc + 3) ls (rest))) : W p l e R s m args below meth c H locs cells slots Q (F0 m pc ls (.int x :: .ref (q cn) :: rest)) :=
  r_put (C := RX5) (T := TX5) (Nf := 3) (ci := 3) (k := 1) (eC_loc g q) X I in_X5 rfl tyX5 tyX5_ok nmX5 rfl rfl (kSh_lt hc) (eC_Sheet g q σ hc) (by decide) (by simp) (by rw [eC_Sheet g q _ hc]; simp [up2, va_up, upd]) hl hdg kk
theorem g_Sheet_length (X : MX p s m args meth c cc nL rt own) (I : IC g q s σ H locs) {cn index : Nat} (hc : kSh cn) (hl : Cond.fieldLink own index "YearDeck$Sheet" "length" "I" ∈ lw_g) (hdg : decode cc pc = .ok (.getfield index, 3)) (kk : W p l e R s m args below meth c H locs cells slots Q (F0 m (pc + 3) ls (.int (σ cn 2) :: rest))) : W p l e R s m args below meth c H locs cells slots Q (F0 m pc ls (.ref (q cn) :: rest)) :=
  r_get (C := RX5) (T := TX5) (Nf := 3) (ci := 3) (k := 2) X I in_X5 rfl (kSh_lt hc) (eC_Sheet g q σ hc) (by decide) rfl hl hdg kk
theorem p_Sheet_length (X : MX p s m args meth c cc nL rt own) (I : IC g q s σ H locs) {cn index : Nat} {x : Int32} (hc : kSh cn) (hl : Cond.fieldLink own index "YearDeck$Sheet" "length" "I" ∈ lw_g) (hdg : decode cc pc = .ok (.putfield index, 3)) (kk : ∀ (H1 : Heap) (locs1 : List Loc), IC g q s (up2 σ cn 2 x) H1 locs1 → W p l e R s m args below meth c H1 locs1 cells slots Q (F0 m (pc + 3) ls (rest))) : W p l e R s m args below meth c H locs cells slots Q (F0 m pc ls (.int x :: .ref (q cn) :: rest)) :=
  r_put (C := RX5) (T := TX5) (Nf := 3) (ci := 3) (k := 2) (eC_loc g q) X I in_X5 rfl tyX5 tyX5_ok nmX5 rfl rfl (kSh_lt hc) (eC_Sheet g q σ hc) (by decide) (by simp) (by rw [eC_Sheet g q _ hc]; simp [up2, va_up, upd]) hl hdg kk
theorem g_Model_fault (X : MX p s m args meth c cc nL rt own) (I : IM g q s σ H locs) {index : Nat} (hl : Cond.fieldLink own index "YearDeckModel" "fault" "I" ∈ lw_g) (hdg : decode cc pc = .ok (.getfield index, 3)) (kk : W p l e R s m args below meth c H locs cells slots Q (F0 m (pc + 3) ls (.int (σ 0 0) :: rest))) : W p l e R s m args below meth c H locs cells slots Q (F0 m pc ls (.ref (q 0) :: rest)) :=
  r_get (C := RX7) (T := TX7) (Nf := 31) (ci := 5) (k := 0) X I in_X7 rfl (by decide) (eM_Model g q σ) (by decide) rfl hl hdg kk
theorem p_Model_fault (X : MX p s m args meth c cc nL rt own) (I : IM g q s σ H locs) {index : Nat} {x : Int32} (hl : Cond.fieldLink own index "YearDeckModel" "fault" "I" ∈ lw_g) (hdg : decode cc pc = .ok (.putfield index, 3)) (kk : ∀ (H1 : Heap) (locs1 : List Loc), IM g q s (up2 σ 0 0 x) H1 locs1 → W p l e R s m args below meth c H1 locs1 cells slots Q (F0 m (pc + 3) ls (rest))) : W p l e R s m args below meth c H locs cells slots Q (F0 m pc ls (.int x :: .ref (q 0) :: rest)) :=
  r_put (C := RX7) (T := TX7) (Nf := 31) (ci := 5) (k := 0) (eM_loc g q) X I in_X7 rfl tyX7 tyX7_ok nmX7 rfl rfl (by decide) (eM_Model g q σ) (by decide) (by simp) (by rw [eM_Model g q _]; simp [up2, va_up, upd]) hl hdg kk
theorem g_Model_seats (X : MX p s m args meth c cc nL rt own) (I : IM g q s σ H locs) {index : Nat} (hl : Cond.fieldLink own index "YearDeckModel" "seats" "I" ∈ lw_g) (hdg : decode cc pc = .ok (.getfield index, 3)) (kk : W p l e R s m args below meth c H locs cells slots Q (F0 m (pc + 3) ls (.int (σ 0 1) :: rest))) : W p l e R s m args below meth c H locs cells slots Q (F0 m pc ls (.ref (q 0) :: rest)) :=
  r_get (C := RX7) (T := TX7) (Nf := 31) (ci := 5) (k := 1) X I in_X7 rfl (by decide) (eM_Model g q σ) (by decide) rfl hl hdg kk
theorem p_Model_seats (X : MX p s m args meth c cc nL rt own) (I : IM g q s σ H locs) {index : Nat} {x : Int32} (hl : Cond.fieldLink own index "YearDeckModel" "seats" "I" ∈ lw_g) (hdg : decode cc pc = .ok (.putfield index, 3)) (kk : ∀ (H1 : Heap) (locs1 : List Loc), IM g q s (up2 σ 0 1 x) H1 locs1 → W p l e R s m args below meth c H1 locs1 cells slots Q (F0 m (pc + 3) ls (rest))) : W p l e R s m args below meth c H locs cells slots Q (F0 m pc ls (.int x :: .ref (q 0) :: rest)) :=
  r_put (C := RX7) (T := TX7) (Nf := 31) (ci := 5) (k := 1) (eM_loc g q) X I in_X7 rfl tyX7 tyX7_ok nmX7 rfl rfl (by decide) (eM_Model g q σ) (by decide) (by simp) (by rw [eM_Model g q _]; simp [up2, va_up, upd]) hl hdg kk
theorem g_Model_sections (X : MX p s m args meth c cc nL rt own) (I : IM g q s σ H locs) {index : Nat} (hl : Cond.fieldLink own index "YearDeckModel" "sections" "I" ∈ lw_g) (hdg : decode cc pc = .ok (.getfield index, 3)) (kk : W p l e R s m args below meth c H locs cells slots Q (F0 m (pc + 3) ls (.int (σ 0 2) :: rest))) : W p l e R s m args below meth c H locs cells slots Q (F0 m pc ls (.ref (q 0) :: rest)) :=
  r_get (C := RX7) (T := TX7) (Nf := 31) (ci := 5) (k := 2) X I in_X7 rfl (by decide) (eM_Model g q σ) (by decide) rfl hl hdg kk
theorem p_Model_sections (X : MX p s m args meth c cc nL rt own) (I : IM g q s σ H locs) {index : Nat} {x : Int32} (hl : Cond.fieldLink own index "YearDeckModel" "sections" "I" ∈ lw_g) (hdg : decode cc pc = .ok (.putfield index, 3)) (kk : ∀ (H1 : Heap) (locs1 : List Loc), IM g q s (up2 σ 0 2 x) H1 locs1 → W p l e R s m args below meth c H1 locs1 cells slots Q (F0 m (pc + 3) ls (rest))) : W p l e R s m args below meth c H locs cells slots Q (F0 m pc ls (.int x :: .ref (q 0) :: rest)) :=
  r_put (C := RX7) (T := TX7) (Nf := 31) (ci := 5) (k := 2) (eM_loc g q) X I in_X7 rfl tyX7 tyX7_ok nmX7 rfl rfl (by decide) (eM_Model g q σ) (by decide) (by simp) (by rw [eM_Model g q _]; simp [up2, va_up, upd]) hl hdg kk
theorem g_Model_slopeOf (X : MX p s m args meth c cc nL rt own) (I : IM g q s σ H locs) {index : Nat} (hl : Cond.fieldLink own index "YearDeckModel" "slopeOf" "[I" ∈ lw_g) (hdg : decode cc pc = .ok (.getfield index, 3)) (kk : W p l e R s m args below meth c H locs cells slots Q (F0 m (pc + 3) ls (.ref (q 1) :: rest))) : W p l e R s m args below meth c H locs cells slots Q (F0 m pc ls (.ref (q 0) :: rest)) :=
  r_get (C := RX7) (T := TX7) (Nf := 31) (ci := 5) (k := 3) X I in_X7 rfl (by decide) (eM_Model g q σ) (by decide) rfl hl hdg kk
theorem g_Model_riders (X : MX p s m args meth c cc nL rt own) (I : IM g q s σ H locs) {index : Nat} (hl : Cond.fieldLink own index "YearDeckModel" "riders" "I" ∈ lw_g) (hdg : decode cc pc = .ok (.getfield index, 3)) (kk : W p l e R s m args below meth c H locs cells slots Q (F0 m (pc + 3) ls (.int (σ 0 4) :: rest))) : W p l e R s m args below meth c H locs cells slots Q (F0 m pc ls (.ref (q 0) :: rest)) :=
  r_get (C := RX7) (T := TX7) (Nf := 31) (ci := 5) (k := 4) X I in_X7 rfl (by decide) (eM_Model g q σ) (by decide) rfl hl hdg kk
theorem p_Model_riders (X : MX p s m args meth c cc nL rt own) (I : IM g q s σ H locs) {index : Nat} {x : Int32} (hl : Cond.fieldLink own index "YearDeckModel" "riders" "I" ∈ lw_g) (hdg : decode cc pc = .ok (.putfield index, 3)) (kk : ∀ (H1 : Heap) (locs1 : List Loc), IM g q s (up2 σ 0 4 x) H1 locs1 → W p l e R s m args below meth c H1 locs1 cells slots Q (F0 m (pc + 3) ls (rest))) : W p l e R s m args below meth c H locs cells slots Q (F0 m pc ls (.int x :: .ref (q 0) :: rest)) :=
  r_put (C := RX7) (T := TX7) (Nf := 31) (ci := 5) (k := 4) (eM_loc g q) X I in_X7 rfl tyX7 tyX7_ok nmX7 rfl rfl (by decide) (eM_Model g q σ) (by decide) (by simp) (by rw [eM_Model g q _]; simp [up2, va_up, upd]) hl hdg kk
theorem g_Model_kindOf (X : MX p s m args meth c cc nL rt own) (I : IM g q s σ H locs) {index : Nat} (hl : Cond.fieldLink own index "YearDeckModel" "kindOf" "[I" ∈ lw_g) (hdg : decode cc pc = .ok (.getfield index, 3)) (kk : W p l e R s m args below meth c H locs cells slots Q (F0 m (pc + 3) ls (.ref (q 2) :: rest))) : W p l e R s m args below meth c H locs cells slots Q (F0 m pc ls (.ref (q 0) :: rest)) :=
  r_get (C := RX7) (T := TX7) (Nf := 31) (ci := 5) (k := 5) X I in_X7 rfl (by decide) (eM_Model g q σ) (by decide) rfl hl hdg kk
theorem g_Model_onOf (X : MX p s m args meth c cc nL rt own) (I : IM g q s σ H locs) {index : Nat} (hl : Cond.fieldLink own index "YearDeckModel" "onOf" "[I" ∈ lw_g) (hdg : decode cc pc = .ok (.getfield index, 3)) (kk : W p l e R s m args below meth c H locs cells slots Q (F0 m (pc + 3) ls (.ref (q 3) :: rest))) : W p l e R s m args below meth c H locs cells slots Q (F0 m pc ls (.ref (q 0) :: rest)) :=
  r_get (C := RX7) (T := TX7) (Nf := 31) (ci := 5) (k := 6) X I in_X7 rfl (by decide) (eM_Model g q σ) (by decide) rfl hl hdg kk
theorem g_Model_offOf (X : MX p s m args meth c cc nL rt own) (I : IM g q s σ H locs) {index : Nat} (hl : Cond.fieldLink own index "YearDeckModel" "offOf" "[I" ∈ lw_g) (hdg : decode cc pc = .ok (.getfield index, 3)) (kk : W p l e R s m args below meth c H locs cells slots Q (F0 m (pc + 3) ls (.ref (q 4) :: rest))) : W p l e R s m args below meth c H locs cells slots Q (F0 m pc ls (.ref (q 0) :: rest)) :=
  r_get (C := RX7) (T := TX7) (Nf := 31) (ci := 5) (k := 7) X I in_X7 rfl (by decide) (eM_Model g q σ) (by decide) rfl hl hdg kk
theorem g_Model_ageOf (X : MX p s m args meth c cc nL rt own) (I : IM g q s σ H locs) {index : Nat} (hl : Cond.fieldLink own index "YearDeckModel" "ageOf" "[I" ∈ lw_g) (hdg : decode cc pc = .ok (.getfield index, 3)) (kk : W p l e R s m args below meth c H locs cells slots Q (F0 m (pc + 3) ls (.ref (q 5) :: rest))) : W p l e R s m args below meth c H locs cells slots Q (F0 m pc ls (.ref (q 0) :: rest)) :=
  r_get (C := RX7) (T := TX7) (Nf := 31) (ci := 5) (k := 8) X I in_X7 rfl (by decide) (eM_Model g q σ) (by decide) rfl hl hdg kk
theorem g_Model_wantOf (X : MX p s m args meth c cc nL rt own) (I : IM g q s σ H locs) {index : Nat} (hl : Cond.fieldLink own index "YearDeckModel" "wantOf" "[I" ∈ lw_g) (hdg : decode cc pc = .ok (.getfield index, 3)) (kk : W p l e R s m args below meth c H locs cells slots Q (F0 m (pc + 3) ls (.ref (q 6) :: rest))) : W p l e R s m args below meth c H locs cells slots Q (F0 m pc ls (.ref (q 0) :: rest)) :=
  r_get (C := RX7) (T := TX7) (Nf := 31) (ci := 5) (k := 9) X I in_X7 rfl (by decide) (eM_Model g q σ) (by decide) rfl hl hdg kk
theorem g_Model_readAt (X : MX p s m args meth c cc nL rt own) (I : IM g q s σ H locs) {index : Nat} (hl : Cond.fieldLink own index "YearDeckModel" "readAt" "I" ∈ lw_g) (hdg : decode cc pc = .ok (.getfield index, 3)) (kk : W p l e R s m args below meth c H locs cells slots Q (F0 m (pc + 3) ls (.int (σ 0 10) :: rest))) : W p l e R s m args below meth c H locs cells slots Q (F0 m pc ls (.ref (q 0) :: rest)) :=
  r_get (C := RX7) (T := TX7) (Nf := 31) (ci := 5) (k := 10) X I in_X7 rfl (by decide) (eM_Model g q σ) (by decide) rfl hl hdg kk
theorem p_Model_readAt (X : MX p s m args meth c cc nL rt own) (I : IM g q s σ H locs) {index : Nat} {x : Int32} (hl : Cond.fieldLink own index "YearDeckModel" "readAt" "I" ∈ lw_g) (hdg : decode cc pc = .ok (.putfield index, 3)) (kk : ∀ (H1 : Heap) (locs1 : List Loc), IM g q s (up2 σ 0 10 x) H1 locs1 → W p l e R s m args below meth c H1 locs1 cells slots Q (F0 m (pc + 3) ls (rest))) : W p l e R s m args below meth c H locs cells slots Q (F0 m pc ls (.int x :: .ref (q 0) :: rest)) :=
  r_put (C := RX7) (T := TX7) (Nf := 31) (ci := 5) (k := 10) (eM_loc g q) X I in_X7 rfl tyX7 tyX7_ok nmX7 rfl rfl (by decide) (eM_Model g q σ) (by decide) (by simp) (by rw [eM_Model g q _]; simp [up2, va_up, upd]) hl hdg kk
theorem g_Model_readSeats (X : MX p s m args meth c cc nL rt own) (I : IM g q s σ H locs) {index : Nat} (hl : Cond.fieldLink own index "YearDeckModel" "readSeats" "I" ∈ lw_g) (hdg : decode cc pc = .ok (.getfield index, 3)) (kk : W p l e R s m args below meth c H locs cells slots Q (F0 m (pc + 3) ls (.int (σ 0 11) :: rest))) : W p l e R s m args below meth c H locs cells slots Q (F0 m pc ls (.ref (q 0) :: rest)) :=
  r_get (C := RX7) (T := TX7) (Nf := 31) (ci := 5) (k := 11) X I in_X7 rfl (by decide) (eM_Model g q σ) (by decide) rfl hl hdg kk
theorem p_Model_readSeats (X : MX p s m args meth c cc nL rt own) (I : IM g q s σ H locs) {index : Nat} {x : Int32} (hl : Cond.fieldLink own index "YearDeckModel" "readSeats" "I" ∈ lw_g) (hdg : decode cc pc = .ok (.putfield index, 3)) (kk : ∀ (H1 : Heap) (locs1 : List Loc), IM g q s (up2 σ 0 11 x) H1 locs1 → W p l e R s m args below meth c H1 locs1 cells slots Q (F0 m (pc + 3) ls (rest))) : W p l e R s m args below meth c H locs cells slots Q (F0 m pc ls (.int x :: .ref (q 0) :: rest)) :=
  r_put (C := RX7) (T := TX7) (Nf := 31) (ci := 5) (k := 11) (eM_loc g q) X I in_X7 rfl tyX7 tyX7_ok nmX7 rfl rfl (by decide) (eM_Model g q σ) (by decide) (by simp) (by rw [eM_Model g q _]; simp [up2, va_up, upd]) hl hdg kk
theorem g_Model_readSections (X : MX p s m args meth c cc nL rt own) (I : IM g q s σ H locs) {index : Nat} (hl : Cond.fieldLink own index "YearDeckModel" "readSections" "I" ∈ lw_g) (hdg : decode cc pc = .ok (.getfield index, 3)) (kk : W p l e R s m args below meth c H locs cells slots Q (F0 m (pc + 3) ls (.int (σ 0 12) :: rest))) : W p l e R s m args below meth c H locs cells slots Q (F0 m pc ls (.ref (q 0) :: rest)) :=
  r_get (C := RX7) (T := TX7) (Nf := 31) (ci := 5) (k := 12) X I in_X7 rfl (by decide) (eM_Model g q σ) (by decide) rfl hl hdg kk
theorem p_Model_readSections (X : MX p s m args meth c cc nL rt own) (I : IM g q s σ H locs) {index : Nat} {x : Int32} (hl : Cond.fieldLink own index "YearDeckModel" "readSections" "I" ∈ lw_g) (hdg : decode cc pc = .ok (.putfield index, 3)) (kk : ∀ (H1 : Heap) (locs1 : List Loc), IM g q s (up2 σ 0 12 x) H1 locs1 → W p l e R s m args below meth c H1 locs1 cells slots Q (F0 m (pc + 3) ls (rest))) : W p l e R s m args below meth c H locs cells slots Q (F0 m pc ls (.int x :: .ref (q 0) :: rest)) :=
  r_put (C := RX7) (T := TX7) (Nf := 31) (ci := 5) (k := 12) (eM_loc g q) X I in_X7 rfl tyX7 tyX7_ok nmX7 rfl rfl (by decide) (eM_Model g q σ) (by decide) (by simp) (by rw [eM_Model g q _]; simp [up2, va_up, upd]) hl hdg kk
theorem g_Model_readRiders (X : MX p s m args meth c cc nL rt own) (I : IM g q s σ H locs) {index : Nat} (hl : Cond.fieldLink own index "YearDeckModel" "readRiders" "I" ∈ lw_g) (hdg : decode cc pc = .ok (.getfield index, 3)) (kk : W p l e R s m args below meth c H locs cells slots Q (F0 m (pc + 3) ls (.int (σ 0 13) :: rest))) : W p l e R s m args below meth c H locs cells slots Q (F0 m pc ls (.ref (q 0) :: rest)) :=
  r_get (C := RX7) (T := TX7) (Nf := 31) (ci := 5) (k := 13) X I in_X7 rfl (by decide) (eM_Model g q σ) (by decide) rfl hl hdg kk
theorem p_Model_readRiders (X : MX p s m args meth c cc nL rt own) (I : IM g q s σ H locs) {index : Nat} {x : Int32} (hl : Cond.fieldLink own index "YearDeckModel" "readRiders" "I" ∈ lw_g) (hdg : decode cc pc = .ok (.putfield index, 3)) (kk : ∀ (H1 : Heap) (locs1 : List Loc), IM g q s (up2 σ 0 13 x) H1 locs1 → W p l e R s m args below meth c H1 locs1 cells slots Q (F0 m (pc + 3) ls (rest))) : W p l e R s m args below meth c H locs cells slots Q (F0 m pc ls (.int x :: .ref (q 0) :: rest)) :=
  r_put (C := RX7) (T := TX7) (Nf := 31) (ci := 5) (k := 13) (eM_loc g q) X I in_X7 rfl tyX7 tyX7_ok nmX7 rfl rfl (by decide) (eM_Model g q σ) (by decide) (by simp) (by rw [eM_Model g q _]; simp [up2, va_up, upd]) hl hdg kk
theorem g_Model_readSlope (X : MX p s m args meth c cc nL rt own) (I : IM g q s σ H locs) {index : Nat} (hl : Cond.fieldLink own index "YearDeckModel" "readSlope" "[I" ∈ lw_g) (hdg : decode cc pc = .ok (.getfield index, 3)) (kk : W p l e R s m args below meth c H locs cells slots Q (F0 m (pc + 3) ls (.ref (q 7) :: rest))) : W p l e R s m args below meth c H locs cells slots Q (F0 m pc ls (.ref (q 0) :: rest)) :=
  r_get (C := RX7) (T := TX7) (Nf := 31) (ci := 5) (k := 14) X I in_X7 rfl (by decide) (eM_Model g q σ) (by decide) rfl hl hdg kk
theorem g_Model_readKind (X : MX p s m args meth c cc nL rt own) (I : IM g q s σ H locs) {index : Nat} (hl : Cond.fieldLink own index "YearDeckModel" "readKind" "[I" ∈ lw_g) (hdg : decode cc pc = .ok (.getfield index, 3)) (kk : W p l e R s m args below meth c H locs cells slots Q (F0 m (pc + 3) ls (.ref (q 8) :: rest))) : W p l e R s m args below meth c H locs cells slots Q (F0 m pc ls (.ref (q 0) :: rest)) :=
  r_get (C := RX7) (T := TX7) (Nf := 31) (ci := 5) (k := 15) X I in_X7 rfl (by decide) (eM_Model g q σ) (by decide) rfl hl hdg kk
theorem g_Model_readOn (X : MX p s m args meth c cc nL rt own) (I : IM g q s σ H locs) {index : Nat} (hl : Cond.fieldLink own index "YearDeckModel" "readOn" "[I" ∈ lw_g) (hdg : decode cc pc = .ok (.getfield index, 3)) (kk : W p l e R s m args below meth c H locs cells slots Q (F0 m (pc + 3) ls (.ref (q 9) :: rest))) : W p l e R s m args below meth c H locs cells slots Q (F0 m pc ls (.ref (q 0) :: rest)) :=
  r_get (C := RX7) (T := TX7) (Nf := 31) (ci := 5) (k := 16) X I in_X7 rfl (by decide) (eM_Model g q σ) (by decide) rfl hl hdg kk
theorem g_Model_readOff (X : MX p s m args meth c cc nL rt own) (I : IM g q s σ H locs) {index : Nat} (hl : Cond.fieldLink own index "YearDeckModel" "readOff" "[I" ∈ lw_g) (hdg : decode cc pc = .ok (.getfield index, 3)) (kk : W p l e R s m args below meth c H locs cells slots Q (F0 m (pc + 3) ls (.ref (q 10) :: rest))) : W p l e R s m args below meth c H locs cells slots Q (F0 m pc ls (.ref (q 0) :: rest)) :=
  r_get (C := RX7) (T := TX7) (Nf := 31) (ci := 5) (k := 17) X I in_X7 rfl (by decide) (eM_Model g q σ) (by decide) rfl hl hdg kk
theorem g_Model_readAge (X : MX p s m args meth c cc nL rt own) (I : IM g q s σ H locs) {index : Nat} (hl : Cond.fieldLink own index "YearDeckModel" "readAge" "[I" ∈ lw_g) (hdg : decode cc pc = .ok (.getfield index, 3)) (kk : W p l e R s m args below meth c H locs cells slots Q (F0 m (pc + 3) ls (.ref (q 11) :: rest))) : W p l e R s m args below meth c H locs cells slots Q (F0 m pc ls (.ref (q 0) :: rest)) :=
  r_get (C := RX7) (T := TX7) (Nf := 31) (ci := 5) (k := 18) X I in_X7 rfl (by decide) (eM_Model g q σ) (by decide) rfl hl hdg kk
theorem g_Model_readWant (X : MX p s m args meth c cc nL rt own) (I : IM g q s σ H locs) {index : Nat} (hl : Cond.fieldLink own index "YearDeckModel" "readWant" "[I" ∈ lw_g) (hdg : decode cc pc = .ok (.getfield index, 3)) (kk : W p l e R s m args below meth c H locs cells slots Q (F0 m (pc + 3) ls (.ref (q 12) :: rest))) : W p l e R s m args below meth c H locs cells slots Q (F0 m pc ls (.ref (q 0) :: rest)) :=
  r_get (C := RX7) (T := TX7) (Nf := 31) (ci := 5) (k := 19) X I in_X7 rfl (by decide) (eM_Model g q σ) (by decide) rfl hl hdg kk
theorem g_Model_canBe (X : MX p s m args meth c cc nL rt own) (I : IM g q s σ H locs) {index : Nat} (hl : Cond.fieldLink own index "YearDeckModel" "canBe" "[Z" ∈ lw_g) (hdg : decode cc pc = .ok (.getfield index, 3)) (kk : W p l e R s m args below meth c H locs cells slots Q (F0 m (pc + 3) ls (.ref (q 13) :: rest))) : W p l e R s m args below meth c H locs cells slots Q (F0 m pc ls (.ref (q 0) :: rest)) :=
  r_get (C := RX7) (T := TX7) (Nf := 31) (ci := 5) (k := 20) X I in_X7 rfl (by decide) (eM_Model g q σ) (by decide) rfl hl hdg kk
theorem g_Model_canThen (X : MX p s m args meth c cc nL rt own) (I : IM g q s σ H locs) {index : Nat} (hl : Cond.fieldLink own index "YearDeckModel" "canThen" "[Z" ∈ lw_g) (hdg : decode cc pc = .ok (.getfield index, 3)) (kk : W p l e R s m args below meth c H locs cells slots Q (F0 m (pc + 3) ls (.ref (q 14) :: rest))) : W p l e R s m args below meth c H locs cells slots Q (F0 m pc ls (.ref (q 0) :: rest)) :=
  r_get (C := RX7) (T := TX7) (Nf := 31) (ci := 5) (k := 21) X I in_X7 rfl (by decide) (eM_Model g q σ) (by decide) rfl hl hdg kk
theorem g_Model_readings (X : MX p s m args meth c cc nL rt own) (I : IM g q s σ H locs) {index : Nat} (hl : Cond.fieldLink own index "YearDeckModel" "readings" "I" ∈ lw_g) (hdg : decode cc pc = .ok (.getfield index, 3)) (kk : W p l e R s m args below meth c H locs cells slots Q (F0 m (pc + 3) ls (.int (σ 0 22) :: rest))) : W p l e R s m args below meth c H locs cells slots Q (F0 m pc ls (.ref (q 0) :: rest)) :=
  r_get (C := RX7) (T := TX7) (Nf := 31) (ci := 5) (k := 22) X I in_X7 rfl (by decide) (eM_Model g q σ) (by decide) rfl hl hdg kk
theorem p_Model_readings (X : MX p s m args meth c cc nL rt own) (I : IM g q s σ H locs) {index : Nat} {x : Int32} (hl : Cond.fieldLink own index "YearDeckModel" "readings" "I" ∈ lw_g) (hdg : decode cc pc = .ok (.putfield index, 3)) (kk : ∀ (H1 : Heap) (locs1 : List Loc), IM g q s (up2 σ 0 22 x) H1 locs1 → W p l e R s m args below meth c H1 locs1 cells slots Q (F0 m (pc + 3) ls (rest))) : W p l e R s m args below meth c H locs cells slots Q (F0 m pc ls (.int x :: .ref (q 0) :: rest)) :=
  r_put (C := RX7) (T := TX7) (Nf := 31) (ci := 5) (k := 22) (eM_loc g q) X I in_X7 rfl tyX7 tyX7_ok nmX7 rfl rfl (by decide) (eM_Model g q σ) (by decide) (by simp) (by rw [eM_Model g q _]; simp [up2, va_up, upd]) hl hdg kk
theorem g_Model_readingOf (X : MX p s m args meth c cc nL rt own) (I : IM g q s σ H locs) {index : Nat} (hl : Cond.fieldLink own index "YearDeckModel" "readingOf" "[I" ∈ lw_g) (hdg : decode cc pc = .ok (.getfield index, 3)) (kk : W p l e R s m args below meth c H locs cells slots Q (F0 m (pc + 3) ls (.ref (q 15) :: rest))) : W p l e R s m args below meth c H locs cells slots Q (F0 m pc ls (.ref (q 0) :: rest)) :=
  r_get (C := RX7) (T := TX7) (Nf := 31) (ci := 5) (k := 23) X I in_X7 rfl (by decide) (eM_Model g q σ) (by decide) rfl hl hdg kk
theorem g_Model_readingBy (X : MX p s m args meth c cc nL rt own) (I : IM g q s σ H locs) {index : Nat} (hl : Cond.fieldLink own index "YearDeckModel" "readingBy" "[I" ∈ lw_g) (hdg : decode cc pc = .ok (.getfield index, 3)) (kk : W p l e R s m args below meth c H locs cells slots Q (F0 m (pc + 3) ls (.ref (q 16) :: rest))) : W p l e R s m args below meth c H locs cells slots Q (F0 m pc ls (.ref (q 0) :: rest)) :=
  r_get (C := RX7) (T := TX7) (Nf := 31) (ci := 5) (k := 24) X I in_X7 rfl (by decide) (eM_Model g q σ) (by decide) rfl hl hdg kk
theorem g_Model_readingWas (X : MX p s m args meth c cc nL rt own) (I : IM g q s σ H locs) {index : Nat} (hl : Cond.fieldLink own index "YearDeckModel" "readingWas" "[I" ∈ lw_g) (hdg : decode cc pc = .ok (.getfield index, 3)) (kk : W p l e R s m args below meth c H locs cells slots Q (F0 m (pc + 3) ls (.ref (q 17) :: rest))) : W p l e R s m args below meth c H locs cells slots Q (F0 m pc ls (.ref (q 0) :: rest)) :=
  r_get (C := RX7) (T := TX7) (Nf := 31) (ci := 5) (k := 25) X I in_X7 rfl (by decide) (eM_Model g q σ) (by decide) rfl hl hdg kk
theorem g_Model_sheetSize (X : MX p s m args meth c cc nL rt own) (I : IM g q s σ H locs) {index : Nat} (hl : Cond.fieldLink own index "YearDeckModel" "sheetSize" "[I" ∈ lw_g) (hdg : decode cc pc = .ok (.getfield index, 3)) (kk : W p l e R s m args below meth c H locs cells slots Q (F0 m (pc + 3) ls (.ref (q 18) :: rest))) : W p l e R s m args below meth c H locs cells slots Q (F0 m pc ls (.ref (q 0) :: rest)) :=
  r_get (C := RX7) (T := TX7) (Nf := 31) (ci := 5) (k := 26) X I in_X7 rfl (by decide) (eM_Model g q σ) (by decide) rfl hl hdg kk
theorem g_Model_sheetLane (X : MX p s m args meth c cc nL rt own) (I : IM g q s σ H locs) {index : Nat} (hl : Cond.fieldLink own index "YearDeckModel" "sheetLane" "[I" ∈ lw_g) (hdg : decode cc pc = .ok (.getfield index, 3)) (kk : W p l e R s m args below meth c H locs cells slots Q (F0 m (pc + 3) ls (.ref (q 19) :: rest))) : W p l e R s m args below meth c H locs cells slots Q (F0 m pc ls (.ref (q 0) :: rest)) :=
  r_get (C := RX7) (T := TX7) (Nf := 31) (ci := 5) (k := 27) X I in_X7 rfl (by decide) (eM_Model g q σ) (by decide) rfl hl hdg kk
theorem g_Model_sheet (X : MX p s m args meth c cc nL rt own) (I : IM g q s σ H locs) {index : Nat} (hl : Cond.fieldLink own index "YearDeckModel" "sheet" "[I" ∈ lw_g) (hdg : decode cc pc = .ok (.getfield index, 3)) (kk : W p l e R s m args below meth c H locs cells slots Q (F0 m (pc + 3) ls (.ref (q 20) :: rest))) : W p l e R s m args below meth c H locs cells slots Q (F0 m pc ls (.ref (q 0) :: rest)) :=
  r_get (C := RX7) (T := TX7) (Nf := 31) (ci := 5) (k := 28) X I in_X7 rfl (by decide) (eM_Model g q σ) (by decide) rfl hl hdg kk
theorem g_Model_hands (X : MX p s m args meth c cc nL rt own) (I : IM g q s σ H locs) {index : Nat} (hl : Cond.fieldLink own index "YearDeckModel" "hands" "[I" ∈ lw_g) (hdg : decode cc pc = .ok (.getfield index, 3)) (kk : W p l e R s m args below meth c H locs cells slots Q (F0 m (pc + 3) ls (.ref (q 21) :: rest))) : W p l e R s m args below meth c H locs cells slots Q (F0 m pc ls (.ref (q 0) :: rest)) :=
  r_get (C := RX7) (T := TX7) (Nf := 31) (ci := 5) (k := 29) X I in_X7 rfl (by decide) (eM_Model g q σ) (by decide) rfl hl hdg kk
theorem g_Model_traceNow (X : MX p s m args meth c cc nL rt own) (I : IM g q s σ H locs) {index : Nat} (hl : Cond.fieldLink own index "YearDeckModel" "traceNow" "I" ∈ lw_g) (hdg : decode cc pc = .ok (.getfield index, 3)) (kk : W p l e R s m args below meth c H locs cells slots Q (F0 m (pc + 3) ls (.int (σ 0 30) :: rest))) : W p l e R s m args below meth c H locs cells slots Q (F0 m pc ls (.ref (q 0) :: rest)) :=
  r_get (C := RX7) (T := TX7) (Nf := 31) (ci := 5) (k := 30) X I in_X7 rfl (by decide) (eM_Model g q σ) (by decide) rfl hl hdg kk
theorem p_Model_traceNow (X : MX p s m args meth c cc nL rt own) (I : IM g q s σ H locs) {index : Nat} {x : Int32} (hl : Cond.fieldLink own index "YearDeckModel" "traceNow" "I" ∈ lw_g) (hdg : decode cc pc = .ok (.putfield index, 3)) (kk : ∀ (H1 : Heap) (locs1 : List Loc), IM g q s (up2 σ 0 30 x) H1 locs1 → W p l e R s m args below meth c H1 locs1 cells slots Q (F0 m (pc + 3) ls (rest))) : W p l e R s m args below meth c H locs cells slots Q (F0 m pc ls (.int x :: .ref (q 0) :: rest)) :=
  r_put (C := RX7) (T := TX7) (Nf := 31) (ci := 5) (k := 30) (eM_loc g q) X I in_X7 rfl tyX7 tyX7_ok nmX7 rfl rfl (by decide) (eM_Model g q σ) (by decide) (by simp) (by rw [eM_Model g q _]; simp [up2, va_up, upd]) hl hdg kk
end R2
end
section
def FU : Nat := 2000
theorem ne_toInt {x k : Int32} {a : Int} (h : ¬ x = k) (hk : k.toInt = a) : x.toInt ≠ a := fun h2 => h (Int32.toInt_inj.mp (h2.trans hk.symm))
def cpok (sp dp n : Int32) (L : Nat) : Bool := decide (0 ≤ sp) && decide (0 ≤ dp) && decide (0 ≤ n) && decide (sp.toNatClampNeg + n.toNatClampNeg ≤ L) && decide (dp.toNatClampNeg + n.toNatClampNeg ≤ L)
theorem le_nlt {x : Int32} (h : 0 ≤ x) : ¬ x < 0 := by
  rw [Int32.le_iff_toInt_le] at h
  rw [Int32.lt_iff_toInt_lt]
  omega
theorem mc_l : Cond.methodLink RX6 220 arraycopyName ∈ lw_g := lw_mem 493 (by decide +kernel) rfl
theorem mc_n : Cond.native arraycopyName ∈ lw_g := lw_mem 495 (by decide +kernel) rfl
theorem mc_s : Cond.static arraycopyName ∈ lw_g := lw_mem 494 (by decide +kernel) rfl
theorem mc_i : Cond.initialized "java/lang/System" ∈ lw_g := lw_mem 52 (by decide +kernel) rfl
theorem r_copy {p : Program} {l : Launch} {e : Env} {R : Room} {s : State} {m : MethodId} {args : Array Value} {below : List Frame} {meth : Method} {c : Code} {H : Heap} {locs : List Loc} {cells slots : Nat} {Q : State → Prop} {cc : ByteArray} {pc nL : Nat} {rt : Option FieldType} {ls : Array Slot} {rest : List Value} {g : Gh} {q : Nat → Nat} {σ : St} (X : MX p s m args meth c cc nL rt RX6) (I : IC g q s σ H locs) {a b : Nat} {sp dp n : Int32} (hca : a < 23) (hcb : b < 23) (hea : ∀ τ, eC g q τ a = .inl (g.2.2.1, 60, .inl (τ a))) (heb : ∀ τ, eC g q τ b = .inl (g.2.2.1, 60, .inl (τ b)))
    (hg : cpok sp dp n 60 = true) (hfr : 1 ≤ R.frames) (hlo : (rest.map fun v => v.category).sum + (nativeFrameWords "java/lang/System" "arraycopy" 5 + 11) ≤ R.locals) (hls : ls.size = nL) (hdg : decode cc pc = .ok (.invokestatic 220, 3))
    (kk : ∀ (H1 : Heap) (locs1 : List Loc), IC g q s (cp2 σ a sp.toNatClampNeg b dp.toNatClampNeg n.toNatClampNeg) H1 locs1 → W p l e R s m args below meth c H1 locs1 cells slots Q (F0 m (pc + 3) ls rest)) : W p l e R s m args below meth c H locs cells slots Q (F0 m pc ls (.int n :: .int dp :: .ref (q b) :: .int sp :: .ref (q a) :: rest)) := by
  obtain ⟨hx, hb, -, hml, hown, hts, -⟩ := X
  obtain ⟨hK, hP, hD, hS⟩ := I
  simp only [cpok, Bool.and_eq_true, decide_eq_true_eq] at hg
  obtain ⟨⟨⟨⟨h1, h2⟩, h3⟩, h4⟩, h5⟩ := hg
  have he2 : eC g q (cp2 σ a sp.toNatClampNeg b dp.toNatClampNeg n.toNatClampNeg) b = .inl (g.2.2.1, 60, .inl (va_cpy (σ a) (σ b) sp.toNatClampNeg dp.toNatClampNeg n.toNatClampNeg)) := by rw [heb, cp2_row]
  refine va_copyi hx hb (hml.trans hls.symm) hown (hts _ mc_l) (hts _ mc_n) (hts _ mc_s) (hts _ mc_i) hK hP hD hS a b 0 0 (by rw [wv_get hca, hea]) (by rw [wv_get hcb, heb]) rfl rfl rfl (le_nlt h1) (le_nlt h2) (le_nlt h3) h4 h5 (fun _ _ => rfl) hfr hlo hdg (fun H1 locs1 k1 k2 k3 => kk H1 locs1 ⟨hK, ?_, ?_, k3⟩)
  · rw [wv_up (eC_loc g q) cp2_ne he2] at k1; exact k1
  · rw [wv_up (eC_loc g q) cp2_ne he2] at k2; exact k2
theorem mm_l : Cond.methodLink RX2 50 Lib.Math.min.name ∈ lw_g := lw_mem 250 (by decide +kernel) rfl
theorem mm_s : Cond.static Lib.Math.min.name ∈ lw_g := lw_mem 251 (by decide +kernel) rfl
theorem mm_i : Cond.initialized "java/lang/Math" ∈ lw_g := lw_mem 49 (by decide +kernel) rfl
theorem mm_c : Cond.code Lib.Math.min.name Lib.Math.min.code 2 (some .int) ∈ lw_g := lw_mem 252 (by decide +kernel) rfl
theorem r_min {p : Program} {l : Launch} {e : Env} {R : Room} {s : State} {m : MethodId} {args : Array Value} {below : List Frame} {meth : Method} {c : Code} {H : Heap} {locs : List Loc} {cells slots : Nat} {Q : State → Prop} {cc : ByteArray} {pc nL : Nat} {rt : Option FieldType} {ls : Array Slot} {rest : List Value} (X : MX p s m args meth c cc nL rt RX2) {x y : Int32} (hfr : 1 ≤ R.frames) (hlo : (rest.map fun v => v.category).sum + 13 ≤ R.locals) (hz : cells ≤ R.cells ∧ slots ≤ R.slots) (hls : ls.size = nL) (hdg : decode cc pc = .ok (.invokestatic 50, 3))
    (kk : W p l e R s m args below meth c H locs cells slots Q (F0 m (pc + 3) ls (.int (if y < x then y else x) :: rest))) : W p l e R s m args below meth c H locs cells slots Q (F0 m pc ls (.int y :: .int x :: rest)) := by
  obtain ⟨hx, hb, -, hml, hown, hts, -⟩ := X
  exact va_mmin hx hb (hml.trans hls.symm) hown (hts _ mm_l) (hts _ mm_s) (hts _ mm_i) (hts _ mm_c) hfr hlo hz.1 hz.2 hdg kk
theorem roomR {d : Nat} : d + 2 + 1 ≤ (rmD (d + 3)).frames ∧ 8 + (6 + 11) + 40 * (d + 2) ≤ (rmD (d + 3)).locals := by
  constructor <;> simp only [rmD] <;> omega
theorem rm_le {d k mL : Nat} (hk : k ≤ 2) (hm : mL ≤ 20) : k + 1 ≤ (rmD (d + 3)).frames ∧ 8 + (mL + 11) + 40 * k ≤ (rmD (d + 3)).locals := by
  constructor <;> simp only [rmD] <;> omega
end
section
/-! YearDeck$Load.of(I)I -/
def D_X0_of_4b (σ : St) (rc4 : Int32 → Int32 → Option Int32) (v0 : Int32) (v1 : Int32) (v2 : Int32) : Option Int32 := if (5 : Int32) ≤ v2 then some v1 else rc4 (v1 ||| (((v0 >>> (v2 &&& 31)) &&& (1 : Int32)) <<< (((4 : Int32) * v2) &&& 31))) (v2 + (1 : Int32))
set_option maxRecDepth 100000 in
set_option maxHeartbeats 4000000 in
theorem w_X0_of_4b {p : Program} {l : Launch} {e : Env} {s : State} {m : MethodId} {args : Array Value} {below : List Frame} {meth : Method} {c : Code} (g : Gh) (q : Nat → Nat) (X : MX p s m args meth c cX0_of 3 (some .int) RX0) {rr : Int32} (σ : St)  (v0 : Int32) (v1 : Int32) (v2 : Int32) (rc4 : Int32 → Int32 → Option Int32) (hrc4 : ∀ (v1' : Int32) (v2' : Int32), rc4 v1' v2' = some rr → ∀ (H : Heap) (locs : List Loc) (ls : Array Slot), IC g q s σ H locs → lv_has ls 3 [(0, .int v0), (1, .int v1'), (2, .int v2')] → W p l e (rmD 0) s m args below meth c H locs 0 0 (MQ below (QI g (eC g q) q 23 rr σ s.heap.size) args s 0 0 (AQ q 23 s.heap.size)) (F0 m 4 ls [])) (hD : D_X0_of_4b σ rc4 v0 v1 v2 = some rr) (H : Heap) (locs : List Loc) (ls : Array Slot) (I : IC g q s σ H locs) (hl : lv_has ls 3 [(0, .int v0), (1, .int v1), (2, .int v2)]) : W p l e (rmD 0) s m args below meth c H locs 0 0 (MQ below (QI g (eC g q) q 23 rr σ s.heap.size) args s 0 0 (AQ q 23 s.heap.size)) (F0 m 4 ls []) := by
  have hx := X.1
  have hb := X.2.1
  unfold D_X0_of_4b at hD
  refine lv_iload_n hx hb dX0_of_4 rfl (lv_at hl 2 rfl) ?_
  refine lv_iconst (v := 5) hx hb dX0_of_5 (by decide) ?_
  refine lv_icmp_ge (tgt := 27) hx hb dX0_of_6 (by decide) (fun hc7 => ?_) (fun hc7 => ?_)
  · have hD := ite_p hc7 hD
    refine lv_iload_n hx hb dX0_of_27 rfl (lv_at hl 1 rfl) ?_
    exact r_iret X I hD dX0_of_28
  · have hD := ite_n hc7 hD
    refine lv_iload_n hx hb dX0_of_9 rfl (lv_at hl 1 rfl) ?_
    refine lv_iload_n hx hb dX0_of_10 rfl (lv_at hl 0 rfl) ?_
    refine lv_iload_n hx hb dX0_of_11 rfl (lv_at hl 2 rfl) ?_
    refine lv_ishr hx hb dX0_of_12 ?_
    refine lv_iconst (v := 1) hx hb dX0_of_13 (by decide) ?_
    refine lv_iand hx hb dX0_of_14 ?_
    refine lv_iconst (v := 4) hx hb dX0_of_15 (by decide) ?_
    refine lv_iload_n hx hb dX0_of_16 rfl (lv_at hl 2 rfl) ?_
    refine lv_imul hx hb dX0_of_17 ?_
    refine lv_ishl hx hb dX0_of_18 ?_
    refine lv_ior hx hb dX0_of_19 ?_
    refine lv_istore_n (lv' := [(1, .int (v1 ||| (((v0 >>> (v2 &&& 31)) &&& (1 : Int32)) <<< (((4 : Int32) * v2) &&& 31)))), (0, .int v0), (2, .int v2)]) hx hb dX0_of_20 rfl hl (by decide) rfl (fun ls hl => ?_)
    refine lv_iinc (v := v2 + (1 : Int32)) (lv' := [(2, .int (v2 + (1 : Int32))), (1, .int (v1 ||| (((v0 >>> (v2 &&& 31)) &&& (1 : Int32)) <<< (((4 : Int32) * v2) &&& 31)))), (0, .int v0)]) hx hb dX0_of_21 hl (k := 2) rfl rfl (by decide) rfl (fun ls hl => ?_)
    refine lv_goto (tgt := 4) hx hb dX0_of_24 (by decide) ?_
    exact hrc4 (v1 ||| (((v0 >>> (v2 &&& 31)) &&& (1 : Int32)) <<< (((4 : Int32) * v2) &&& 31))) (v2 + (1 : Int32)) hD _ _ _ I (lv_sub hl [2, 1, 0] rfl)
def D_X0_of_4 (σ : St) (v0 : Int32) : Nat → Int32 → Int32 → Option Int32
  | 0 => fun _ _ => none
  | n + 1 => fun v1 v2 => D_X0_of_4b σ (D_X0_of_4 σ v0 n) v0 v1 v2
set_option maxRecDepth 100000 in
set_option maxHeartbeats 4000000 in
theorem w_X0_of_4 {p : Program} {l : Launch} {e : Env} {s : State} {m : MethodId} {args : Array Value} {below : List Frame} {meth : Method} {c : Code} (g : Gh) (q : Nat → Nat) (X : MX p s m args meth c cX0_of 3 (some .int) RX0) {rr : Int32} (σ : St)  (v0 : Int32) : ∀ (n : Nat) (v1 : Int32) (v2 : Int32), D_X0_of_4 σ v0 n v1 v2 = some rr → ∀ (H : Heap) (locs : List Loc) (ls : Array Slot), IC g q s σ H locs → lv_has ls 3 [(0, .int v0), (1, .int v1), (2, .int v2)] → W p l e (rmD 0) s m args below meth c H locs 0 0 (MQ below (QI g (eC g q) q 23 rr σ s.heap.size) args s 0 0 (AQ q 23 s.heap.size)) (F0 m 4 ls []) := by
  intro n
  induction n with
  | zero =>
    intro v1 v2 hD H locs ls I hl
    cases hD
  | succ n ih =>
    intro v1 v2 hD H locs ls I hl
    exact w_X0_of_4b g q X σ v0 v1 v2 _ ih hD H locs ls I hl
def D_X0_of (σ : St) (p0 : Int32) : Option Int32 := D_X0_of_4 σ p0 FU (0 : Int32) (0 : Int32)
set_option maxRecDepth 100000 in
set_option maxHeartbeats 4000000 in
theorem c_X0_of (l : Launch) (g : Gh) (q : Nat → Nat) (sz : Nat) (σ : St) (p0 : Int32) {rr : Int32} (hD : D_X0_of σ p0 = some rr) : Met l yX0_of (wU yX0_of cX0_of 3 (some .int)) (rmD 0) (PQ g (eC g q) q 23 σ sz [.int p0]) (QI g (eC g q) q 23 rr σ sz) 0 0 (AQ q 23 sz) := by
  refine met_of (Qc := QI g (eC g q) q 23 rr σ) (by decide) (Nat.le_of_ble_eq_true rfl) ?_
  intro p e s m below meth c ls X I hl
  have hx := X.1
  have hb := X.2.1
  have hl : lv_has ls 3 [(0, .int p0)] := hl
  unfold D_X0_of at hD
  refine lv_iconst (v := 0) hx hb dX0_of_0 (by decide) ?_
  refine lv_istore_n (lv' := [(1, .int (0 : Int32)), (0, .int p0)]) hx hb dX0_of_1 rfl hl (by decide) rfl (fun ls hl => ?_)
  refine lv_iconst (v := 0) hx hb dX0_of_2 (by decide) ?_
  refine lv_istore_n (lv' := [(2, .int (0 : Int32)), (1, .int (0 : Int32)), (0, .int p0)]) hx hb dX0_of_3 rfl hl (by decide) rfl (fun ls hl => ?_)
  exact w_X0_of_4 g q X σ p0 FU (0 : Int32) (0 : Int32) hD _ _ _ I (lv_sub hl [2, 1, 0] rfl)

/-! YearDeck$Load.on(II)I -/
def D_X0_on (σ : St) (p0 : Int32) (p1 : Int32) : Option Int32 := some ((p0 >>> (((4 : Int32) * p1) &&& 31)) &&& (15 : Int32))
set_option maxRecDepth 100000 in
set_option maxHeartbeats 4000000 in
theorem c_X0_on (l : Launch) (g : Gh) (q : Nat → Nat) (sz : Nat) (σ : St) (p0 : Int32) (p1 : Int32) {rr : Int32} (hD : D_X0_on σ p0 p1 = some rr) : Met l yX0_on (wU yX0_on cX0_on 2 (some .int)) (rmD 0) (PQ g (eC g q) q 23 σ sz [.int p0, .int p1]) (QI g (eC g q) q 23 rr σ sz) 0 0 (AQ q 23 sz) := by
  refine met_of (Qc := QI g (eC g q) q 23 rr σ) (by decide) (Nat.le_of_ble_eq_true rfl) ?_
  intro p e s m below meth c ls X I hl
  have hx := X.1
  have hb := X.2.1
  have hl : lv_has ls 2 [(0, .int p0), (1, .int p1)] := hl
  unfold D_X0_on at hD
  refine lv_iload_n hx hb dX0_on_0 rfl (lv_at hl 0 rfl) ?_
  refine lv_iconst (v := 4) hx hb dX0_on_1 (by decide) ?_
  refine lv_iload_n hx hb dX0_on_2 rfl (lv_at hl 1 rfl) ?_
  refine lv_imul hx hb dX0_on_3 ?_
  refine lv_ishr hx hb dX0_on_4 ?_
  refine lv_bipush (v := 15) hx hb dX0_on_5 (by decide) ?_
  refine lv_iand hx hb dX0_on_7 ?_
  exact r_iret X I hD dX0_on_8

/-! YearDeck$Sheet.hasCell(I)Z -/
def D_X5_hasCell (σ : St) (p0 : Nat) (p1 : Int32) : Option Int32 := if p1 < 0 then some (0 : Int32) else if (σ p0 2) ≤ p1 then some (0 : Int32) else some (1 : Int32)
set_option maxRecDepth 100000 in
set_option maxHeartbeats 4000000 in
theorem c_X5_hasCell (l : Launch) (g : Gh) (q : Nat → Nat) (sz : Nat) (σ : St) (p0 : Nat) (p1 : Int32) (kp0 : kSh p0) {rr : Int32} (hD : D_X5_hasCell σ p0 p1 = some rr) : Met l yX5_hasCell (wU yX5_hasCell cX5_hasCell 2 (some .boolean)) (rmD 0) (PQ g (eC g q) q 23 σ sz [.ref (q p0), .int p1]) (QI g (eC g q) q 23 rr σ sz) 0 0 (AQ q 23 sz) := by
  refine met_of (Qc := QI g (eC g q) q 23 rr σ) (by decide) (Nat.le_of_ble_eq_true rfl) ?_
  intro p e s m below meth c ls X I hl
  have hx := X.1
  have hb := X.2.1
  have hl : lv_has ls 2 [(0, .ref (q p0)), (1, .int p1)] := hl
  unfold D_X5_hasCell at hD
  refine lv_iload_n hx hb dX5_hasCell_0 rfl (lv_at hl 1 rfl) ?_
  refine lv_if_lt (tgt := 16) hx hb dX5_hasCell_1 (by decide) (fun hc2 => ?_) (fun hc2 => ?_)
  · have hD := ite_p hc2 hD
    refine lv_iconst (v := 0) hx hb dX5_hasCell_16 (by decide) ?_
    exact r_zret X I hD rfl dX5_hasCell_17
  · have hD := ite_n hc2 hD
    refine lv_iload_n hx hb dX5_hasCell_4 rfl (lv_at hl 1 rfl) ?_
    refine lv_aload_n hx hb dX5_hasCell_5 rfl (lv_at hl 0 rfl) ?_
    refine g_Sheet_length X I kp0 fl_X5_19 dX5_hasCell_6 ?_
    refine lv_icmp_ge (tgt := 16) hx hb dX5_hasCell_9 (by decide) (fun hc8 => ?_) (fun hc8 => ?_)
    · have hD := ite_p hc8 hD
      refine lv_iconst (v := 0) hx hb dX5_hasCell_16 (by decide) ?_
      exact r_zret X I hD rfl dX5_hasCell_17
    · have hD := ite_n hc8 hD
      refine lv_iconst (v := 1) hx hb dX5_hasCell_12 (by decide) ?_
      refine lv_goto (tgt := 17) hx hb dX5_hasCell_13 (by decide) ?_
      exact r_zret X I hD rfl dX5_hasCell_17

/-! YearDeck$Sheet.at(I)I -/
def D_X5_at (σ : St) (p0 : Nat) (p1 : Int32) : Option Int32 := (D_X5_hasCell σ p0 p1).bind fun y3 => if y3 = 0 then some (0 : Int32) else gd (inb p1 60) (some (σ (p0 + 4) p1.toNatClampNeg))
set_option maxRecDepth 100000 in
set_option maxHeartbeats 4000000 in
theorem c_X5_at (l : Launch) (g : Gh) (q : Nat → Nat) (sz : Nat) (σ : St) (p0 : Nat) (p1 : Int32) (kp0 : kSh p0) {rr : Int32} (hD : D_X5_at σ p0 p1 = some rr) : Met l yX5_at (wU yX5_at cX5_at 2 (some .int)) (rmD 1) (PQ g (eC g q) q 23 σ sz [.ref (q p0), .int p1]) (QI g (eC g q) q 23 rr σ sz) 0 0 (AQ q 23 sz) := by
  refine met_of (Qc := QI g (eC g q) q 23 rr σ) (by decide) (Nat.le_of_ble_eq_true rfl) ?_
  intro p e s m below meth c ls X I hl
  have hx := X.1
  have hb := X.2.1
  have hl : lv_has ls 2 [(0, .ref (q p0)), (1, .int p1)] := hl
  unfold D_X5_at at hD
  refine lv_aload_n hx hb dX5_at_0 rfl (lv_at hl 0 rfl) ?_
  refine lv_iload_n hx hb dX5_at_1 rfl (lv_at hl 1 rfl) ?_
  obtain ⟨y3, hy3, hD⟩ := bd_s hD
  refine r_calli (r_runV (As := [.int p1]) (rest := []) X I (c_X5_hasCell l g q _ σ p0 p1 kp0 hy3) kv_X5_hasCell ml_X5_22 rfl (kSh_lt kp0) (eC_Sheet g q _ kp0) ⟨Nat.le_of_ble_eq_true rfl, Nat.le_of_ble_eq_true rfl⟩ ⟨Nat.zero_le _, Nat.zero_le _⟩ rfl rfl hl.1 (Nat.le_of_ble_eq_true rfl) dX5_at_2) I (fun H locs I => ?_)
  refine lv_if_eq (tgt := 17) hx hb dX5_at_5 (by decide) (fun hc4 => ?_) (fun hc4 => ?_)
  · have hD := ite_p hc4 hD
    refine lv_iconst (v := 0) hx hb dX5_at_17 (by decide) ?_
    exact r_iret X I hD dX5_at_18
  · have hD := ite_n hc4 hD
    refine lv_aload_n hx hb dX5_at_8 rfl (lv_at hl 0 rfl) ?_
    refine g_Sheet_cells X I kp0 fl_X5_9 dX5_at_9 ?_
    refine lv_iload_n hx hb dX5_at_12 rfl (lv_at hl 1 rfl) ?_
    obtain ⟨hg10, hD⟩ := gd_s hD
    refine r_iald X I (kSh_lt4 kp0) ((eC_cells g q kp0) _) hg10 dX5_at_13 ?_
    refine lv_goto (tgt := 18) hx hb dX5_at_14 (by decide) ?_
    exact r_iret X I hD dX5_at_18

/-! java/lang/Integer.bitCount(I)I -/
def D_J6_bitCount_0f7a4 (σ : St) (p0 : Int32) : Option Int32 := some ((((((((p0 - (((p0.toUInt32 >>> ((1 : Int32).toUInt32 &&& Int32.toUInt32 31)).toInt32) &&& (1431655765 : Int32))) &&& (858993459 : Int32)) + ((((p0 - (((p0.toUInt32 >>> ((1 : Int32).toUInt32 &&& Int32.toUInt32 31)).toInt32) &&& (1431655765 : Int32))).toUInt32 >>> ((2 : Int32).toUInt32 &&& Int32.toUInt32 31)).toInt32) &&& (858993459 : Int32))) + (((((p0 - (((p0.toUInt32 >>> ((1 : Int32).toUInt32 &&& Int32.toUInt32 31)).toInt32) &&& (1431655765 : Int32))) &&& (858993459 : Int32)) + ((((p0 - (((p0.toUInt32 >>> ((1 : Int32).toUInt32 &&& Int32.toUInt32 31)).toInt32) &&& (1431655765 : Int32))).toUInt32 >>> ((2 : Int32).toUInt32 &&& Int32.toUInt32 31)).toInt32) &&& (858993459 : Int32))).toUInt32 >>> ((4 : Int32).toUInt32 &&& Int32.toUInt32 31)).toInt32)) &&& (252645135 : Int32)) + (((((((p0 - (((p0.toUInt32 >>> ((1 : Int32).toUInt32 &&& Int32.toUInt32 31)).toInt32) &&& (1431655765 : Int32))) &&& (858993459 : Int32)) + ((((p0 - (((p0.toUInt32 >>> ((1 : Int32).toUInt32 &&& Int32.toUInt32 31)).toInt32) &&& (1431655765 : Int32))).toUInt32 >>> ((2 : Int32).toUInt32 &&& Int32.toUInt32 31)).toInt32) &&& (858993459 : Int32))) + (((((p0 - (((p0.toUInt32 >>> ((1 : Int32).toUInt32 &&& Int32.toUInt32 31)).toInt32) &&& (1431655765 : Int32))) &&& (858993459 : Int32)) + ((((p0 - (((p0.toUInt32 >>> ((1 : Int32).toUInt32 &&& Int32.toUInt32 31)).toInt32) &&& (1431655765 : Int32))).toUInt32 >>> ((2 : Int32).toUInt32 &&& Int32.toUInt32 31)).toInt32) &&& (858993459 : Int32))).toUInt32 >>> ((4 : Int32).toUInt32 &&& Int32.toUInt32 31)).toInt32)) &&& (252645135 : Int32)).toUInt32 >>> ((8 : Int32).toUInt32 &&& Int32.toUInt32 31)).toInt32)) + ((((((((p0 - (((p0.toUInt32 >>> ((1 : Int32).toUInt32 &&& Int32.toUInt32 31)).toInt32) &&& (1431655765 : Int32))) &&& (858993459 : Int32)) + ((((p0 - (((p0.toUInt32 >>> ((1 : Int32).toUInt32 &&& Int32.toUInt32 31)).toInt32) &&& (1431655765 : Int32))).toUInt32 >>> ((2 : Int32).toUInt32 &&& Int32.toUInt32 31)).toInt32) &&& (858993459 : Int32))) + (((((p0 - (((p0.toUInt32 >>> ((1 : Int32).toUInt32 &&& Int32.toUInt32 31)).toInt32) &&& (1431655765 : Int32))) &&& (858993459 : Int32)) + ((((p0 - (((p0.toUInt32 >>> ((1 : Int32).toUInt32 &&& Int32.toUInt32 31)).toInt32) &&& (1431655765 : Int32))).toUInt32 >>> ((2 : Int32).toUInt32 &&& Int32.toUInt32 31)).toInt32) &&& (858993459 : Int32))).toUInt32 >>> ((4 : Int32).toUInt32 &&& Int32.toUInt32 31)).toInt32)) &&& (252645135 : Int32)) + (((((((p0 - (((p0.toUInt32 >>> ((1 : Int32).toUInt32 &&& Int32.toUInt32 31)).toInt32) &&& (1431655765 : Int32))) &&& (858993459 : Int32)) + ((((p0 - (((p0.toUInt32 >>> ((1 : Int32).toUInt32 &&& Int32.toUInt32 31)).toInt32) &&& (1431655765 : Int32))).toUInt32 >>> ((2 : Int32).toUInt32 &&& Int32.toUInt32 31)).toInt32) &&& (858993459 : Int32))) + (((((p0 - (((p0.toUInt32 >>> ((1 : Int32).toUInt32 &&& Int32.toUInt32 31)).toInt32) &&& (1431655765 : Int32))) &&& (858993459 : Int32)) + ((((p0 - (((p0.toUInt32 >>> ((1 : Int32).toUInt32 &&& Int32.toUInt32 31)).toInt32) &&& (1431655765 : Int32))).toUInt32 >>> ((2 : Int32).toUInt32 &&& Int32.toUInt32 31)).toInt32) &&& (858993459 : Int32))).toUInt32 >>> ((4 : Int32).toUInt32 &&& Int32.toUInt32 31)).toInt32)) &&& (252645135 : Int32)).toUInt32 >>> ((8 : Int32).toUInt32 &&& Int32.toUInt32 31)).toInt32)).toUInt32 >>> ((16 : Int32).toUInt32 &&& Int32.toUInt32 31)).toInt32)) &&& (63 : Int32))
set_option maxRecDepth 100000 in
set_option maxHeartbeats 4000000 in
theorem c_J6_bitCount_0f7a4 (l : Launch) (g : Gh) (q : Nat → Nat) (sz : Nat) (σ : St) (p0 : Int32) {rr : Int32} (hD : D_J6_bitCount_0f7a4 σ p0 = some rr) : Met l yJ6_bitCount_0f7a4 (wU yJ6_bitCount_0f7a4 cJ6_bitCount_0f7a4 1 (some .int)) (rmD 0) (PQ g (eC g q) q 23 σ sz [.int p0]) (QI g (eC g q) q 23 rr σ sz) 0 0 (AQ q 23 sz) := by
  refine met_of (Qc := QI g (eC g q) q 23 rr σ) (by decide) (Nat.le_of_ble_eq_true rfl) ?_
  intro p e s m below meth c ls X I hl
  have hx := X.1
  have hb := X.2.1
  have hl : lv_has ls 1 [(0, .int p0)] := hl
  unfold D_J6_bitCount_0f7a4 at hD
  refine lv_iload_n hx hb dJ6_bitCount_0f7a4_0 rfl (lv_at hl 0 rfl) ?_
  refine lv_iload_n hx hb dJ6_bitCount_0f7a4_1 rfl (lv_at hl 0 rfl) ?_
  refine lv_iconst (v := 1) hx hb dJ6_bitCount_0f7a4_2 (by decide) ?_
  refine lv_iushr hx hb dJ6_bitCount_0f7a4_3 rfl ?_
  refine lv_ldcw (v := 1431655765) hx hb X.2.2.2.2.1 (X.2.2.2.2.2.1 _ cs_J6_265) dJ6_bitCount_0f7a4_4 ?_
  refine lv_iand hx hb dJ6_bitCount_0f7a4_7 ?_
  refine lv_isub hx hb dJ6_bitCount_0f7a4_8 ?_
  refine lv_istore_n (lv' := [(0, .int (p0 - (((p0.toUInt32 >>> ((1 : Int32).toUInt32 &&& Int32.toUInt32 31)).toInt32) &&& (1431655765 : Int32))))]) hx hb dJ6_bitCount_0f7a4_9 rfl hl (by decide) rfl (fun ls hl => ?_)
  refine lv_iload_n hx hb dJ6_bitCount_0f7a4_10 rfl (lv_at hl 0 rfl) ?_
  refine lv_ldcw (v := 858993459) hx hb X.2.2.2.2.1 (X.2.2.2.2.2.1 _ cs_J6_266) dJ6_bitCount_0f7a4_11 ?_
  refine lv_iand hx hb dJ6_bitCount_0f7a4_14 ?_
  refine lv_iload_n hx hb dJ6_bitCount_0f7a4_15 rfl (lv_at hl 0 rfl) ?_
  refine lv_iconst (v := 2) hx hb dJ6_bitCount_0f7a4_16 (by decide) ?_
  refine lv_iushr hx hb dJ6_bitCount_0f7a4_17 rfl ?_
  refine lv_ldcw (v := 858993459) hx hb X.2.2.2.2.1 (X.2.2.2.2.2.1 _ cs_J6_266) dJ6_bitCount_0f7a4_18 ?_
  refine lv_iand hx hb dJ6_bitCount_0f7a4_21 ?_
  refine lv_iadd hx hb dJ6_bitCount_0f7a4_22 ?_
  refine lv_istore_n (lv' := [(0, .int (((p0 - (((p0.toUInt32 >>> ((1 : Int32).toUInt32 &&& Int32.toUInt32 31)).toInt32) &&& (1431655765 : Int32))) &&& (858993459 : Int32)) + ((((p0 - (((p0.toUInt32 >>> ((1 : Int32).toUInt32 &&& Int32.toUInt32 31)).toInt32) &&& (1431655765 : Int32))).toUInt32 >>> ((2 : Int32).toUInt32 &&& Int32.toUInt32 31)).toInt32) &&& (858993459 : Int32))))]) hx hb dJ6_bitCount_0f7a4_23 rfl hl (by decide) rfl (fun ls hl => ?_)
  refine lv_iload_n hx hb dJ6_bitCount_0f7a4_24 rfl (lv_at hl 0 rfl) ?_
  refine lv_iload_n hx hb dJ6_bitCount_0f7a4_25 rfl (lv_at hl 0 rfl) ?_
  refine lv_iconst (v := 4) hx hb dJ6_bitCount_0f7a4_26 (by decide) ?_
  refine lv_iushr hx hb dJ6_bitCount_0f7a4_27 rfl ?_
  refine lv_iadd hx hb dJ6_bitCount_0f7a4_28 ?_
  refine lv_ldcw (v := 252645135) hx hb X.2.2.2.2.1 (X.2.2.2.2.2.1 _ cs_J6_267) dJ6_bitCount_0f7a4_29 ?_
  refine lv_iand hx hb dJ6_bitCount_0f7a4_32 ?_
  refine lv_istore_n (lv' := [(0, .int (((((p0 - (((p0.toUInt32 >>> ((1 : Int32).toUInt32 &&& Int32.toUInt32 31)).toInt32) &&& (1431655765 : Int32))) &&& (858993459 : Int32)) + ((((p0 - (((p0.toUInt32 >>> ((1 : Int32).toUInt32 &&& Int32.toUInt32 31)).toInt32) &&& (1431655765 : Int32))).toUInt32 >>> ((2 : Int32).toUInt32 &&& Int32.toUInt32 31)).toInt32) &&& (858993459 : Int32))) + (((((p0 - (((p0.toUInt32 >>> ((1 : Int32).toUInt32 &&& Int32.toUInt32 31)).toInt32) &&& (1431655765 : Int32))) &&& (858993459 : Int32)) + ((((p0 - (((p0.toUInt32 >>> ((1 : Int32).toUInt32 &&& Int32.toUInt32 31)).toInt32) &&& (1431655765 : Int32))).toUInt32 >>> ((2 : Int32).toUInt32 &&& Int32.toUInt32 31)).toInt32) &&& (858993459 : Int32))).toUInt32 >>> ((4 : Int32).toUInt32 &&& Int32.toUInt32 31)).toInt32)) &&& (252645135 : Int32)))]) hx hb dJ6_bitCount_0f7a4_33 rfl hl (by decide) rfl (fun ls hl => ?_)
  refine lv_iload_n hx hb dJ6_bitCount_0f7a4_34 rfl (lv_at hl 0 rfl) ?_
  refine lv_iload_n hx hb dJ6_bitCount_0f7a4_35 rfl (lv_at hl 0 rfl) ?_
  refine lv_bipush (v := 8) hx hb dJ6_bitCount_0f7a4_36 (by decide) ?_
  refine lv_iushr hx hb dJ6_bitCount_0f7a4_38 rfl ?_
  refine lv_iadd hx hb dJ6_bitCount_0f7a4_39 ?_
  refine lv_istore_n (lv' := [(0, .int ((((((p0 - (((p0.toUInt32 >>> ((1 : Int32).toUInt32 &&& Int32.toUInt32 31)).toInt32) &&& (1431655765 : Int32))) &&& (858993459 : Int32)) + ((((p0 - (((p0.toUInt32 >>> ((1 : Int32).toUInt32 &&& Int32.toUInt32 31)).toInt32) &&& (1431655765 : Int32))).toUInt32 >>> ((2 : Int32).toUInt32 &&& Int32.toUInt32 31)).toInt32) &&& (858993459 : Int32))) + (((((p0 - (((p0.toUInt32 >>> ((1 : Int32).toUInt32 &&& Int32.toUInt32 31)).toInt32) &&& (1431655765 : Int32))) &&& (858993459 : Int32)) + ((((p0 - (((p0.toUInt32 >>> ((1 : Int32).toUInt32 &&& Int32.toUInt32 31)).toInt32) &&& (1431655765 : Int32))).toUInt32 >>> ((2 : Int32).toUInt32 &&& Int32.toUInt32 31)).toInt32) &&& (858993459 : Int32))).toUInt32 >>> ((4 : Int32).toUInt32 &&& Int32.toUInt32 31)).toInt32)) &&& (252645135 : Int32)) + (((((((p0 - (((p0.toUInt32 >>> ((1 : Int32).toUInt32 &&& Int32.toUInt32 31)).toInt32) &&& (1431655765 : Int32))) &&& (858993459 : Int32)) + ((((p0 - (((p0.toUInt32 >>> ((1 : Int32).toUInt32 &&& Int32.toUInt32 31)).toInt32) &&& (1431655765 : Int32))).toUInt32 >>> ((2 : Int32).toUInt32 &&& Int32.toUInt32 31)).toInt32) &&& (858993459 : Int32))) + (((((p0 - (((p0.toUInt32 >>> ((1 : Int32).toUInt32 &&& Int32.toUInt32 31)).toInt32) &&& (1431655765 : Int32))) &&& (858993459 : Int32)) + ((((p0 - (((p0.toUInt32 >>> ((1 : Int32).toUInt32 &&& Int32.toUInt32 31)).toInt32) &&& (1431655765 : Int32))).toUInt32 >>> ((2 : Int32).toUInt32 &&& Int32.toUInt32 31)).toInt32) &&& (858993459 : Int32))).toUInt32 >>> ((4 : Int32).toUInt32 &&& Int32.toUInt32 31)).toInt32)) &&& (252645135 : Int32)).toUInt32 >>> ((8 : Int32).toUInt32 &&& Int32.toUInt32 31)).toInt32)))]) hx hb dJ6_bitCount_0f7a4_40 rfl hl (by decide) rfl (fun ls hl => ?_)
  refine lv_iload_n hx hb dJ6_bitCount_0f7a4_41 rfl (lv_at hl 0 rfl) ?_
  refine lv_iload_n hx hb dJ6_bitCount_0f7a4_42 rfl (lv_at hl 0 rfl) ?_
  refine lv_bipush (v := 16) hx hb dJ6_bitCount_0f7a4_43 (by decide) ?_
  refine lv_iushr hx hb dJ6_bitCount_0f7a4_45 rfl ?_
  refine lv_iadd hx hb dJ6_bitCount_0f7a4_46 ?_
  refine lv_istore_n (lv' := [(0, .int (((((((p0 - (((p0.toUInt32 >>> ((1 : Int32).toUInt32 &&& Int32.toUInt32 31)).toInt32) &&& (1431655765 : Int32))) &&& (858993459 : Int32)) + ((((p0 - (((p0.toUInt32 >>> ((1 : Int32).toUInt32 &&& Int32.toUInt32 31)).toInt32) &&& (1431655765 : Int32))).toUInt32 >>> ((2 : Int32).toUInt32 &&& Int32.toUInt32 31)).toInt32) &&& (858993459 : Int32))) + (((((p0 - (((p0.toUInt32 >>> ((1 : Int32).toUInt32 &&& Int32.toUInt32 31)).toInt32) &&& (1431655765 : Int32))) &&& (858993459 : Int32)) + ((((p0 - (((p0.toUInt32 >>> ((1 : Int32).toUInt32 &&& Int32.toUInt32 31)).toInt32) &&& (1431655765 : Int32))).toUInt32 >>> ((2 : Int32).toUInt32 &&& Int32.toUInt32 31)).toInt32) &&& (858993459 : Int32))).toUInt32 >>> ((4 : Int32).toUInt32 &&& Int32.toUInt32 31)).toInt32)) &&& (252645135 : Int32)) + (((((((p0 - (((p0.toUInt32 >>> ((1 : Int32).toUInt32 &&& Int32.toUInt32 31)).toInt32) &&& (1431655765 : Int32))) &&& (858993459 : Int32)) + ((((p0 - (((p0.toUInt32 >>> ((1 : Int32).toUInt32 &&& Int32.toUInt32 31)).toInt32) &&& (1431655765 : Int32))).toUInt32 >>> ((2 : Int32).toUInt32 &&& Int32.toUInt32 31)).toInt32) &&& (858993459 : Int32))) + (((((p0 - (((p0.toUInt32 >>> ((1 : Int32).toUInt32 &&& Int32.toUInt32 31)).toInt32) &&& (1431655765 : Int32))) &&& (858993459 : Int32)) + ((((p0 - (((p0.toUInt32 >>> ((1 : Int32).toUInt32 &&& Int32.toUInt32 31)).toInt32) &&& (1431655765 : Int32))).toUInt32 >>> ((2 : Int32).toUInt32 &&& Int32.toUInt32 31)).toInt32) &&& (858993459 : Int32))).toUInt32 >>> ((4 : Int32).toUInt32 &&& Int32.toUInt32 31)).toInt32)) &&& (252645135 : Int32)).toUInt32 >>> ((8 : Int32).toUInt32 &&& Int32.toUInt32 31)).toInt32)) + ((((((((p0 - (((p0.toUInt32 >>> ((1 : Int32).toUInt32 &&& Int32.toUInt32 31)).toInt32) &&& (1431655765 : Int32))) &&& (858993459 : Int32)) + ((((p0 - (((p0.toUInt32 >>> ((1 : Int32).toUInt32 &&& Int32.toUInt32 31)).toInt32) &&& (1431655765 : Int32))).toUInt32 >>> ((2 : Int32).toUInt32 &&& Int32.toUInt32 31)).toInt32) &&& (858993459 : Int32))) + (((((p0 - (((p0.toUInt32 >>> ((1 : Int32).toUInt32 &&& Int32.toUInt32 31)).toInt32) &&& (1431655765 : Int32))) &&& (858993459 : Int32)) + ((((p0 - (((p0.toUInt32 >>> ((1 : Int32).toUInt32 &&& Int32.toUInt32 31)).toInt32) &&& (1431655765 : Int32))).toUInt32 >>> ((2 : Int32).toUInt32 &&& Int32.toUInt32 31)).toInt32) &&& (858993459 : Int32))).toUInt32 >>> ((4 : Int32).toUInt32 &&& Int32.toUInt32 31)).toInt32)) &&& (252645135 : Int32)) + (((((((p0 - (((p0.toUInt32 >>> ((1 : Int32).toUInt32 &&& Int32.toUInt32 31)).toInt32) &&& (1431655765 : Int32))) &&& (858993459 : Int32)) + ((((p0 - (((p0.toUInt32 >>> ((1 : Int32).toUInt32 &&& Int32.toUInt32 31)).toInt32) &&& (1431655765 : Int32))).toUInt32 >>> ((2 : Int32).toUInt32 &&& Int32.toUInt32 31)).toInt32) &&& (858993459 : Int32))) + (((((p0 - (((p0.toUInt32 >>> ((1 : Int32).toUInt32 &&& Int32.toUInt32 31)).toInt32) &&& (1431655765 : Int32))) &&& (858993459 : Int32)) + ((((p0 - (((p0.toUInt32 >>> ((1 : Int32).toUInt32 &&& Int32.toUInt32 31)).toInt32) &&& (1431655765 : Int32))).toUInt32 >>> ((2 : Int32).toUInt32 &&& Int32.toUInt32 31)).toInt32) &&& (858993459 : Int32))).toUInt32 >>> ((4 : Int32).toUInt32 &&& Int32.toUInt32 31)).toInt32)) &&& (252645135 : Int32)).toUInt32 >>> ((8 : Int32).toUInt32 &&& Int32.toUInt32 31)).toInt32)).toUInt32 >>> ((16 : Int32).toUInt32 &&& Int32.toUInt32 31)).toInt32)))]) hx hb dJ6_bitCount_0f7a4_47 rfl hl (by decide) rfl (fun ls hl => ?_)
  refine lv_iload_n hx hb dJ6_bitCount_0f7a4_48 rfl (lv_at hl 0 rfl) ?_
  refine lv_bipush (v := 63) hx hb dJ6_bitCount_0f7a4_49 (by decide) ?_
  refine lv_iand hx hb dJ6_bitCount_0f7a4_51 ?_
  exact r_iret X I hD dJ6_bitCount_0f7a4_52

/-! YearDeck$Sheet.hasRow()Z -/
def D_X5_hasRow (σ : St) (p0 : Nat) : Option Int32 := if (σ p0 1) = (-1 : Int32) then some (0 : Int32) else some (1 : Int32)
set_option maxRecDepth 100000 in
set_option maxHeartbeats 4000000 in
theorem c_X5_hasRow (l : Launch) (g : Gh) (q : Nat → Nat) (sz : Nat) (σ : St) (p0 : Nat) (kp0 : kSh p0) {rr : Int32} (hD : D_X5_hasRow σ p0 = some rr) : Met l yX5_hasRow (wU yX5_hasRow cX5_hasRow 1 (some .boolean)) (rmD 0) (PQ g (eC g q) q 23 σ sz [.ref (q p0)]) (QI g (eC g q) q 23 rr σ sz) 0 0 (AQ q 23 sz) := by
  refine met_of (Qc := QI g (eC g q) q 23 rr σ) (by decide) (Nat.le_of_ble_eq_true rfl) ?_
  intro p e s m below meth c ls X I hl
  have hx := X.1
  have hb := X.2.1
  have hl : lv_has ls 1 [(0, .ref (q p0))] := hl
  unfold D_X5_hasRow at hD
  refine lv_aload_n hx hb dX5_hasRow_0 rfl (lv_at hl 0 rfl) ?_
  refine g_Sheet_lane X I kp0 fl_X5_15 dX5_hasRow_1 ?_
  refine lv_iconst (v := -1) hx hb dX5_hasRow_4 (by decide) ?_
  refine lv_icmp_eq (tgt := 12) hx hb dX5_hasRow_5 (by decide) (fun hc4 => ?_) (fun hc4 => ?_)
  · have hD := ite_p hc4 hD
    refine lv_iconst (v := 0) hx hb dX5_hasRow_12 (by decide) ?_
    exact r_zret X I hD rfl dX5_hasRow_13
  · have hD := ite_n hc4 hD
    refine lv_iconst (v := 1) hx hb dX5_hasRow_8 (by decide) ?_
    refine lv_goto (tgt := 13) hx hb dX5_hasRow_9 (by decide) ?_
    exact r_zret X I hD rfl dX5_hasRow_13

/-! YearDeck$Sheet.renew(II)V -/
def D_X5_renew_12b (σ : St) (rc12 : St → Int32 → Option St) (v0 : Nat) (v3 : Int32) : Option St := if (60 : Int32) ≤ v3 then some σ else gd (inb v3 60) (rc12 (up2 σ (v0 + 4) v3.toNatClampNeg (0 : Int32)) (v3 + (1 : Int32)))
set_option maxRecDepth 100000 in
set_option maxHeartbeats 4000000 in
theorem w_X5_renew_12b {p : Program} {l : Launch} {e : Env} {s : State} {m : MethodId} {args : Array Value} {below : List Frame} {meth : Method} {c : Code} (g : Gh) (q : Nat → Nat) (X : MX p s m args meth c cX5_renew 4 none RX5) {rr : St} (σ : St)  (v0 : Nat) (v3 : Int32) (kv0 : kSh v0) (rc12 : St → Int32 → Option St) (hrc12 : ∀ (σ' : St) (v3' : Int32), rc12 σ' v3' = some rr → ∀ (H : Heap) (locs : List Loc) (ls : Array Slot), IC g q s σ' H locs → lv_has ls 4 [(0, .ref (q v0)), (3, .int v3')] → W p l e (rmD 0) s m args below meth c H locs 0 0 (MQ below (QV g (eC g q) q 23 rr s.heap.size) args s 0 0 (AQ q 23 s.heap.size)) (F0 m 12 ls [])) (hD : D_X5_renew_12b σ rc12 v0 v3 = some rr) (H : Heap) (locs : List Loc) (ls : Array Slot) (I : IC g q s σ H locs) (hl : lv_has ls 4 [(0, .ref (q v0)), (3, .int v3)]) : W p l e (rmD 0) s m args below meth c H locs 0 0 (MQ below (QV g (eC g q) q 23 rr s.heap.size) args s 0 0 (AQ q 23 s.heap.size)) (F0 m 12 ls []) := by
  have hx := X.1
  have hb := X.2.1
  unfold D_X5_renew_12b at hD
  refine lv_iload_n hx hb dX5_renew_12 rfl (lv_at hl 1 rfl) ?_
  refine lv_bipush (v := 60) hx hb dX5_renew_13 (by decide) ?_
  refine lv_icmp_ge (tgt := 31) hx hb dX5_renew_15 (by decide) (fun hc11 => ?_) (fun hc11 => ?_)
  · have hD := ite_p hc11 hD
    exact r_vret X I hD dX5_renew_31
  · have hD := ite_n hc11 hD
    refine lv_aload_n hx hb dX5_renew_18 rfl (lv_at hl 0 rfl) ?_
    refine g_Sheet_cells X I kv0 fl_X5_9 dX5_renew_19 ?_
    refine lv_iload_n hx hb dX5_renew_22 rfl (lv_at hl 1 rfl) ?_
    refine lv_iconst (v := 0) hx hb dX5_renew_23 (by decide) ?_
    obtain ⟨hg17, hD⟩ := gd_s hD
    refine r_iast (eC_loc g q) X I (kSh_lt4 kv0) (eC_cells g q kv0) hg17 dX5_renew_24 (fun H locs I => ?_)
    refine lv_iinc (v := v3 + (1 : Int32)) (lv' := [(3, .int (v3 + (1 : Int32))), (0, .ref (q v0))]) hx hb dX5_renew_25 hl (k := 1) rfl rfl (by decide) rfl (fun ls hl => ?_)
    refine lv_goto (tgt := 12) hx hb dX5_renew_28 (by decide) ?_
    exact hrc12 (up2 σ (v0 + 4) v3.toNatClampNeg (0 : Int32)) (v3 + (1 : Int32)) hD _ _ _ I (lv_sub hl [1, 0] rfl)
def D_X5_renew_12  (v0 : Nat) : Nat → St → Int32 → Option St
  | 0 => fun _ _ => none
  | n + 1 => fun σ v3 => D_X5_renew_12b σ (D_X5_renew_12 v0 n) v0 v3
set_option maxRecDepth 100000 in
set_option maxHeartbeats 4000000 in
theorem w_X5_renew_12 {p : Program} {l : Launch} {e : Env} {s : State} {m : MethodId} {args : Array Value} {below : List Frame} {meth : Method} {c : Code} (g : Gh) (q : Nat → Nat) (X : MX p s m args meth c cX5_renew 4 none RX5) {rr : St}  (v0 : Nat) (kv0 : kSh v0) : ∀ (n : Nat) (σ : St) (v3 : Int32), D_X5_renew_12 v0 n σ v3 = some rr → ∀ (H : Heap) (locs : List Loc) (ls : Array Slot), IC g q s σ H locs → lv_has ls 4 [(0, .ref (q v0)), (3, .int v3)] → W p l e (rmD 0) s m args below meth c H locs 0 0 (MQ below (QV g (eC g q) q 23 rr s.heap.size) args s 0 0 (AQ q 23 s.heap.size)) (F0 m 12 ls []) := by
  intro n
  induction n with
  | zero =>
    intro σ v3 hD H locs ls I hl
    cases hD
  | succ n ih =>
    intro σ v3 hD H locs ls I hl
    exact w_X5_renew_12b g q X σ v0 v3 kv0 _ ih hD H locs ls I hl
def D_X5_renew (σ : St) (p0 : Nat) (p1 : Int32) (p2 : Int32) : Option St := D_X5_renew_12 p0 FU (up2 (up2 σ p0 1 p1) p0 2 p2) (0 : Int32)
set_option maxRecDepth 100000 in
set_option maxHeartbeats 4000000 in
theorem c_X5_renew (l : Launch) (g : Gh) (q : Nat → Nat) (sz : Nat) (σ : St) (p0 : Nat) (p1 : Int32) (p2 : Int32) (kp0 : kSh p0) {rr : St} (hD : D_X5_renew σ p0 p1 p2 = some rr) : Met l yX5_renew (wU yX5_renew cX5_renew 4 none) (rmD 0) (PQ g (eC g q) q 23 σ sz [.ref (q p0), .int p1, .int p2]) (QV g (eC g q) q 23 rr sz) 0 0 (AQ q 23 sz) := by
  refine met_of (Qc := QV g (eC g q) q 23 rr) (by decide) (Nat.le_of_ble_eq_true rfl) ?_
  intro p e s m below meth c ls X I hl
  have hx := X.1
  have hb := X.2.1
  have hl : lv_has ls 4 [(0, .ref (q p0)), (1, .int p1), (2, .int p2)] := hl
  unfold D_X5_renew at hD
  refine lv_aload_n hx hb dX5_renew_0 rfl (lv_at hl 0 rfl) ?_
  refine lv_iload_n hx hb dX5_renew_1 rfl (lv_at hl 1 rfl) ?_
  refine p_Sheet_lane X I kp0 fl_X5_15 dX5_renew_2 (fun H locs I => ?_)
  refine lv_aload_n hx hb dX5_renew_5 rfl (lv_at hl 0 rfl) ?_
  refine lv_iload_n hx hb dX5_renew_6 rfl (lv_at hl 2 rfl) ?_
  refine p_Sheet_length X I kp0 fl_X5_19 dX5_renew_7 (fun H locs I => ?_)
  refine lv_iconst (v := 0) hx hb dX5_renew_10 (by decide) ?_
  refine lv_istore_n (lv' := [(3, .int (0 : Int32)), (0, .ref (q p0)), (1, .int p1), (2, .int p2)]) hx hb dX5_renew_11 rfl hl (by decide) rfl (fun ls hl => ?_)
  exact w_X5_renew_12 g q X p0 kp0 FU (up2 (up2 σ p0 1 p1) p0 2 p2) (0 : Int32) hD _ _ _ I (lv_sub hl [1, 0] rfl)

/-! YearDeck$Sheet.drop()V -/
def D_X5_drop (σ : St) (p0 : Nat) : Option St := some (up2 (up2 σ p0 1 (-1 : Int32)) p0 2 (0 : Int32))
set_option maxRecDepth 100000 in
set_option maxHeartbeats 4000000 in
theorem c_X5_drop (l : Launch) (g : Gh) (q : Nat → Nat) (sz : Nat) (σ : St) (p0 : Nat) (kp0 : kSh p0) {rr : St} (hD : D_X5_drop σ p0 = some rr) : Met l yX5_drop (wU yX5_drop cX5_drop 1 none) (rmD 0) (PQ g (eC g q) q 23 σ sz [.ref (q p0)]) (QV g (eC g q) q 23 rr sz) 0 0 (AQ q 23 sz) := by
  refine met_of (Qc := QV g (eC g q) q 23 rr) (by decide) (Nat.le_of_ble_eq_true rfl) ?_
  intro p e s m below meth c ls X I hl
  have hx := X.1
  have hb := X.2.1
  have hl : lv_has ls 1 [(0, .ref (q p0))] := hl
  unfold D_X5_drop at hD
  refine lv_aload_n hx hb dX5_drop_0 rfl (lv_at hl 0 rfl) ?_
  refine lv_iconst (v := -1) hx hb dX5_drop_1 (by decide) ?_
  refine p_Sheet_lane X I kp0 fl_X5_15 dX5_drop_2 (fun H locs I => ?_)
  refine lv_aload_n hx hb dX5_drop_5 rfl (lv_at hl 0 rfl) ?_
  refine lv_iconst (v := 0) hx hb dX5_drop_6 (by decide) ?_
  refine p_Sheet_length X I kp0 fl_X5_19 dX5_drop_7 (fun H locs I => ?_)
  exact r_vret X I hD dX5_drop_10

/-! YearDeck$Sheet.hasCells(II)Z -/
def D_X5_hasCells (σ : St) (p0 : Nat) (p1 : Int32) (p2 : Int32) : Option Int32 := if p1 < 0 then some (0 : Int32) else if (σ p0 2) < p1 then some (0 : Int32) else if p2 < 0 then some (0 : Int32) else if ((σ p0 2) - p1) < p2 then some (0 : Int32) else some (1 : Int32)
set_option maxRecDepth 100000 in
set_option maxHeartbeats 4000000 in
theorem c_X5_hasCells (l : Launch) (g : Gh) (q : Nat → Nat) (sz : Nat) (σ : St) (p0 : Nat) (p1 : Int32) (p2 : Int32) (kp0 : kSh p0) {rr : Int32} (hD : D_X5_hasCells σ p0 p1 p2 = some rr) : Met l yX5_hasCells (wU yX5_hasCells cX5_hasCells 3 (some .boolean)) (rmD 0) (PQ g (eC g q) q 23 σ sz [.ref (q p0), .int p1, .int p2]) (QI g (eC g q) q 23 rr σ sz) 0 0 (AQ q 23 sz) := by
  refine met_of (Qc := QI g (eC g q) q 23 rr σ) (by decide) (Nat.le_of_ble_eq_true rfl) ?_
  intro p e s m below meth c ls X I hl
  have hx := X.1
  have hb := X.2.1
  have hl : lv_has ls 3 [(0, .ref (q p0)), (1, .int p1), (2, .int p2)] := hl
  unfold D_X5_hasCells at hD
  refine lv_iload_n hx hb dX5_hasCells_0 rfl (lv_at hl 1 rfl) ?_
  refine lv_if_lt (tgt := 30) hx hb dX5_hasCells_1 (by decide) (fun hc2 => ?_) (fun hc2 => ?_)
  · have hD := ite_p hc2 hD
    refine lv_iconst (v := 0) hx hb dX5_hasCells_30 (by decide) ?_
    exact r_zret X I hD rfl dX5_hasCells_31
  · have hD := ite_n hc2 hD
    refine lv_iload_n hx hb dX5_hasCells_4 rfl (lv_at hl 1 rfl) ?_
    refine lv_aload_n hx hb dX5_hasCells_5 rfl (lv_at hl 0 rfl) ?_
    refine g_Sheet_length X I kp0 fl_X5_19 dX5_hasCells_6 ?_
    refine lv_icmp_gt (tgt := 30) hx hb dX5_hasCells_9 (by decide) (fun hc8 => ?_) (fun hc8 => ?_)
    · have hD := ite_p hc8 hD
      refine lv_iconst (v := 0) hx hb dX5_hasCells_30 (by decide) ?_
      exact r_zret X I hD rfl dX5_hasCells_31
    · have hD := ite_n hc8 hD
      refine lv_iload_n hx hb dX5_hasCells_12 rfl (lv_at hl 2 rfl) ?_
      refine lv_if_lt (tgt := 30) hx hb dX5_hasCells_13 (by decide) (fun hc12 => ?_) (fun hc12 => ?_)
      · have hD := ite_p hc12 hD
        refine lv_iconst (v := 0) hx hb dX5_hasCells_30 (by decide) ?_
        exact r_zret X I hD rfl dX5_hasCells_31
      · have hD := ite_n hc12 hD
        refine lv_iload_n hx hb dX5_hasCells_16 rfl (lv_at hl 2 rfl) ?_
        refine lv_aload_n hx hb dX5_hasCells_17 rfl (lv_at hl 0 rfl) ?_
        refine g_Sheet_length X I kp0 fl_X5_19 dX5_hasCells_18 ?_
        refine lv_iload_n hx hb dX5_hasCells_21 rfl (lv_at hl 1 rfl) ?_
        refine lv_isub hx hb dX5_hasCells_22 ?_
        refine lv_icmp_gt (tgt := 30) hx hb dX5_hasCells_23 (by decide) (fun hc20 => ?_) (fun hc20 => ?_)
        · have hD := ite_p hc20 hD
          refine lv_iconst (v := 0) hx hb dX5_hasCells_30 (by decide) ?_
          exact r_zret X I hD rfl dX5_hasCells_31
        · have hD := ite_n hc20 hD
          refine lv_iconst (v := 1) hx hb dX5_hasCells_26 (by decide) ?_
          refine lv_goto (tgt := 31) hx hb dX5_hasCells_27 (by decide) ?_
          exact r_zret X I hD rfl dX5_hasCells_31

/-! YearDeck$Sheet.cutToLane(I)I -/
def D_X5_cutToLane (σ : St) (p0 : Nat) (p1 : Int32) : Option Int32 := if (σ p0 1) = (0 : Int32) then some p1.toInt8.toInt32 else if (σ p0 1) = (1 : Int32) then some p1.toInt16.toInt32 else some p1
set_option maxRecDepth 100000 in
set_option maxHeartbeats 4000000 in
theorem c_X5_cutToLane (l : Launch) (g : Gh) (q : Nat → Nat) (sz : Nat) (σ : St) (p0 : Nat) (p1 : Int32) (kp0 : kSh p0) {rr : Int32} (hD : D_X5_cutToLane σ p0 p1 = some rr) : Met l yX5_cutToLane (wU yX5_cutToLane cX5_cutToLane 2 (some .int)) (rmD 0) (PQ g (eC g q) q 23 σ sz [.ref (q p0), .int p1]) (QI g (eC g q) q 23 rr σ sz) 0 0 (AQ q 23 sz) := by
  refine met_of (Qc := QI g (eC g q) q 23 rr σ) (by decide) (Nat.le_of_ble_eq_true rfl) ?_
  intro p e s m below meth c ls X I hl
  have hx := X.1
  have hb := X.2.1
  have hl : lv_has ls 2 [(0, .ref (q p0)), (1, .int p1)] := hl
  unfold D_X5_cutToLane at hD
  refine lv_aload_n hx hb dX5_cutToLane_0 rfl (lv_at hl 0 rfl) ?_
  refine g_Sheet_lane X I kp0 fl_X5_15 dX5_cutToLane_1 ?_
  by_cases hc4 : (σ p0 1) = (0 : Int32)
  · have hD := ite_p hc4 hD
    refine lv_lookup (off := 28) (tgt := 32) hx hb dX5_cutToLane_4 (by decide) (by rw [hc4]; rfl) (by decide) ?_
    refine lv_iload_n hx hb dX5_cutToLane_32 rfl (lv_at hl 1 rfl) ?_
    refine lv_i2b hx hb dX5_cutToLane_33 rfl ?_
    exact r_iret X I hD dX5_cutToLane_34
  · have hD := ite_n hc4 hD
    by_cases hc8 : (σ p0 1) = (1 : Int32)
    · have hD := ite_p hc8 hD
      refine lv_lookup (off := 31) (tgt := 35) hx hb dX5_cutToLane_4 (by decide) (by rw [hc8]; rfl) (by decide) ?_
      refine lv_iload_n hx hb dX5_cutToLane_35 rfl (lv_at hl 1 rfl) ?_
      refine lv_i2s hx hb dX5_cutToLane_36 rfl ?_
      exact r_iret X I hD dX5_cutToLane_37
    · have hD := ite_n hc8 hD
      refine lv_lookup (off := 34) (tgt := 38) hx hb dX5_cutToLane_4 (by decide) (by refine (lv_osw hc4 (by decide)).trans ?_; refine (lv_osw hc8 (by decide)).trans ?_; rfl) (by decide) ?_
      refine lv_iload_n hx hb dX5_cutToLane_38 rfl (lv_at hl 1 rfl) ?_
      exact r_iret X I hD dX5_cutToLane_39

/-! YearDeck$Sheet.write(II)V -/
def D_X5_write (σ : St) (p0 : Nat) (p1 : Int32) (p2 : Int32) : Option St := (D_X5_hasCell σ p0 p1).bind fun y3 => if y3 = 0 then some σ else (D_X5_cutToLane σ p0 p2).bind fun y11 => gd (inb p1 60) (some (up2 σ (p0 + 4) p1.toNatClampNeg y11))
set_option maxRecDepth 100000 in
set_option maxHeartbeats 4000000 in
theorem c_X5_write (l : Launch) (g : Gh) (q : Nat → Nat) (sz : Nat) (σ : St) (p0 : Nat) (p1 : Int32) (p2 : Int32) (kp0 : kSh p0) {rr : St} (hD : D_X5_write σ p0 p1 p2 = some rr) : Met l yX5_write (wU yX5_write cX5_write 3 none) (rmD 1) (PQ g (eC g q) q 23 σ sz [.ref (q p0), .int p1, .int p2]) (QV g (eC g q) q 23 rr sz) 0 0 (AQ q 23 sz) := by
  refine met_of (Qc := QV g (eC g q) q 23 rr) (by decide) (Nat.le_of_ble_eq_true rfl) ?_
  intro p e s m below meth c ls X I hl
  have hx := X.1
  have hb := X.2.1
  have hl : lv_has ls 3 [(0, .ref (q p0)), (1, .int p1), (2, .int p2)] := hl
  unfold D_X5_write at hD
  refine lv_aload_n hx hb dX5_write_0 rfl (lv_at hl 0 rfl) ?_
  refine lv_iload_n hx hb dX5_write_1 rfl (lv_at hl 1 rfl) ?_
  obtain ⟨y3, hy3, hD⟩ := bd_s hD
  refine r_calli (r_runV (As := [.int p1]) (rest := []) X I (c_X5_hasCell l g q _ σ p0 p1 kp0 hy3) kv_X5_hasCell ml_X5_22 rfl (kSh_lt kp0) (eC_Sheet g q _ kp0) ⟨Nat.le_of_ble_eq_true rfl, Nat.le_of_ble_eq_true rfl⟩ ⟨Nat.zero_le _, Nat.zero_le _⟩ rfl rfl hl.1 (Nat.le_of_ble_eq_true rfl) dX5_write_2) I (fun H locs I => ?_)
  refine lv_if_eq (tgt := 19) hx hb dX5_write_5 (by decide) (fun hc4 => ?_) (fun hc4 => ?_)
  · have hD := ite_p hc4 hD
    exact r_vret X I hD dX5_write_19
  · have hD := ite_n hc4 hD
    refine lv_aload_n hx hb dX5_write_8 rfl (lv_at hl 0 rfl) ?_
    refine g_Sheet_cells X I kp0 fl_X5_9 dX5_write_9 ?_
    refine lv_iload_n hx hb dX5_write_12 rfl (lv_at hl 1 rfl) ?_
    refine lv_aload_n hx hb dX5_write_13 rfl (lv_at hl 0 rfl) ?_
    refine lv_iload_n hx hb dX5_write_14 rfl (lv_at hl 2 rfl) ?_
    obtain ⟨y11, hy11, hD⟩ := bd_s hD
    refine r_calli (r_runV (As := [.int p2]) (rest := [.int p1, .ref (q (p0 + 4))]) X I (c_X5_cutToLane l g q _ σ p0 p2 kp0 hy11) kv_X5_cutToLane ml_X5_26 rfl (kSh_lt kp0) (eC_Sheet g q _ kp0) ⟨Nat.le_of_ble_eq_true rfl, Nat.le_of_ble_eq_true rfl⟩ ⟨Nat.zero_le _, Nat.zero_le _⟩ rfl rfl hl.1 (Nat.le_of_ble_eq_true rfl) dX5_write_15) I (fun H locs I => ?_)
    obtain ⟨hg12, hD⟩ := gd_s hD
    refine r_iast (eC_loc g q) X I (kSh_lt4 kp0) (eC_cells g q kp0) hg12 dX5_write_18 (fun H locs I => ?_)
    exact r_vret X I hD dX5_write_19

/-! YearDeck$Sheet.faultOfRow(I)I -/
def D_X5_faultOfRow (σ : St) (p0 : Nat) (p1 : Int32) : Option Int32 := (D_X5_hasRow σ p0).bind fun y2 => if y2 = 0 then some (1 : Int32) else if (σ p0 1) = p1 then some (0 : Int32) else some (2 : Int32)
set_option maxRecDepth 100000 in
set_option maxHeartbeats 4000000 in
theorem c_X5_faultOfRow (l : Launch) (g : Gh) (q : Nat → Nat) (sz : Nat) (σ : St) (p0 : Nat) (p1 : Int32) (kp0 : kSh p0) {rr : Int32} (hD : D_X5_faultOfRow σ p0 p1 = some rr) : Met l yX5_faultOfRow (wU yX5_faultOfRow cX5_faultOfRow 2 (some .int)) (rmD 1) (PQ g (eC g q) q 23 σ sz [.ref (q p0), .int p1]) (QI g (eC g q) q 23 rr σ sz) 0 0 (AQ q 23 sz) := by
  refine met_of (Qc := QI g (eC g q) q 23 rr σ) (by decide) (Nat.le_of_ble_eq_true rfl) ?_
  intro p e s m below meth c ls X I hl
  have hx := X.1
  have hb := X.2.1
  have hl : lv_has ls 2 [(0, .ref (q p0)), (1, .int p1)] := hl
  unfold D_X5_faultOfRow at hD
  refine lv_aload_n hx hb dX5_faultOfRow_0 rfl (lv_at hl 0 rfl) ?_
  obtain ⟨y2, hy2, hD⟩ := bd_s hD
  refine r_calli (r_runV (As := []) (rest := []) X I (c_X5_hasRow l g q _ σ p0 kp0 hy2) kv_X5_hasRow ml_X5_30 rfl (kSh_lt kp0) (eC_Sheet g q _ kp0) ⟨Nat.le_of_ble_eq_true rfl, Nat.le_of_ble_eq_true rfl⟩ ⟨Nat.zero_le _, Nat.zero_le _⟩ rfl rfl hl.1 (Nat.le_of_ble_eq_true rfl) dX5_faultOfRow_1) I (fun H locs I => ?_)
  refine lv_if_ne (tgt := 9) hx hb dX5_faultOfRow_4 (by decide) (fun hc3 => ?_) (fun hc3 => ?_)
  · have hD := ite_n hc3 hD
    refine lv_aload_n hx hb dX5_faultOfRow_9 rfl (lv_at hl 0 rfl) ?_
    refine g_Sheet_lane X I kp0 fl_X5_15 dX5_faultOfRow_10 ?_
    refine lv_iload_n hx hb dX5_faultOfRow_13 rfl (lv_at hl 1 rfl) ?_
    refine lv_icmp_ne (tgt := 21) hx hb dX5_faultOfRow_14 (by decide) (fun hc7 => ?_) (fun hc7 => ?_)
    · have hD := ite_n hc7 hD
      refine lv_iconst (v := 2) hx hb dX5_faultOfRow_21 (by decide) ?_
      exact r_iret X I hD dX5_faultOfRow_22
    · have hD := ite_p hc7 hD
      refine lv_iconst (v := 0) hx hb dX5_faultOfRow_17 (by decide) ?_
      refine lv_goto (tgt := 22) hx hb dX5_faultOfRow_18 (by decide) ?_
      exact r_iret X I hD dX5_faultOfRow_22
  · have hD := ite_p hc3 hD
    refine lv_iconst (v := 1) hx hb dX5_faultOfRow_7 (by decide) ?_
    exact r_iret X I hD dX5_faultOfRow_8

/-! YearDeck$Sheet.faultOfCells(III)I -/
def D_X5_faultOfCells (σ : St) (p0 : Nat) (p1 : Int32) (p2 : Int32) (p3 : Int32) : Option Int32 := (D_X5_faultOfRow σ p0 p1).bind fun y3 => if y3 = 0 then if 0 ≤ p3 then (D_X5_hasCells σ p0 p2 p3).bind fun y12 => if y12 = 0 then some (3 : Int32) else some (0 : Int32) else some (4 : Int32) else some y3
set_option maxRecDepth 100000 in
set_option maxHeartbeats 4000000 in
theorem c_X5_faultOfCells (l : Launch) (g : Gh) (q : Nat → Nat) (sz : Nat) (σ : St) (p0 : Nat) (p1 : Int32) (p2 : Int32) (p3 : Int32) (kp0 : kSh p0) {rr : Int32} (hD : D_X5_faultOfCells σ p0 p1 p2 p3 = some rr) : Met l yX5_faultOfCells (wU yX5_faultOfCells cX5_faultOfCells 5 (some .int)) (rmD 2) (PQ g (eC g q) q 23 σ sz [.ref (q p0), .int p1, .int p2, .int p3]) (QI g (eC g q) q 23 rr σ sz) 0 0 (AQ q 23 sz) := by
  refine met_of (Qc := QI g (eC g q) q 23 rr σ) (by decide) (Nat.le_of_ble_eq_true rfl) ?_
  intro p e s m below meth c ls X I hl
  have hx := X.1
  have hb := X.2.1
  have hl : lv_has ls 5 [(0, .ref (q p0)), (1, .int p1), (2, .int p2), (3, .int p3)] := hl
  unfold D_X5_faultOfCells at hD
  refine lv_aload_n hx hb dX5_faultOfCells_0 rfl (lv_at hl 0 rfl) ?_
  refine lv_iload_n hx hb dX5_faultOfCells_1 rfl (lv_at hl 1 rfl) ?_
  obtain ⟨y3, hy3, hD⟩ := bd_s hD
  refine r_calli (r_runV (As := [.int p1]) (rest := []) X I (c_X5_faultOfRow l g q _ σ p0 p1 kp0 hy3) kv_X5_faultOfRow ml_X5_34 rfl (kSh_lt kp0) (eC_Sheet g q _ kp0) ⟨Nat.le_of_ble_eq_true rfl, Nat.le_of_ble_eq_true rfl⟩ ⟨Nat.zero_le _, Nat.zero_le _⟩ rfl rfl hl.1 (Nat.le_of_ble_eq_true rfl) dX5_faultOfCells_2) I (fun H locs I => ?_)
  refine lv_istore (lv' := [(4, .int y3), (0, .ref (q p0)), (1, .int p1), (2, .int p2), (3, .int p3)]) hx hb dX5_faultOfCells_5 hl (by decide) rfl (fun ls hl => ?_)
  refine lv_iload hx hb dX5_faultOfCells_7 (lv_at hl 0 rfl) ?_
  refine lv_if_eq (tgt := 15) hx hb dX5_faultOfCells_9 (by decide) (fun hc6 => ?_) (fun hc6 => ?_)
  · have hD := ite_p hc6 hD
    refine lv_iload_n hx hb dX5_faultOfCells_15 rfl (lv_at hl 4 rfl) ?_
    refine lv_if_ge (tgt := 21) hx hb dX5_faultOfCells_16 (by decide) (fun hc8 => ?_) (fun hc8 => ?_)
    · have hD := ite_p hc8 hD
      refine lv_aload_n hx hb dX5_faultOfCells_21 rfl (lv_at hl 1 rfl) ?_
      refine lv_iload_n hx hb dX5_faultOfCells_22 rfl (lv_at hl 3 rfl) ?_
      refine lv_iload_n hx hb dX5_faultOfCells_23 rfl (lv_at hl 4 rfl) ?_
      obtain ⟨y12, hy12, hD⟩ := bd_s hD
      refine r_calli (r_runV (As := [.int p2, .int p3]) (rest := []) X I (c_X5_hasCells l g q _ σ p0 p2 p3 kp0 hy12) kv_X5_hasCells ml_X5_37 rfl (kSh_lt kp0) (eC_Sheet g q _ kp0) ⟨Nat.le_of_ble_eq_true rfl, Nat.le_of_ble_eq_true rfl⟩ ⟨Nat.zero_le _, Nat.zero_le _⟩ rfl rfl hl.1 (Nat.le_of_ble_eq_true rfl) dX5_faultOfCells_24) I (fun H locs I => ?_)
      refine lv_if_eq (tgt := 34) hx hb dX5_faultOfCells_27 (by decide) (fun hc13 => ?_) (fun hc13 => ?_)
      · have hD := ite_p hc13 hD
        refine lv_iconst (v := 3) hx hb dX5_faultOfCells_34 (by decide) ?_
        exact r_iret X I hD dX5_faultOfCells_35
      · have hD := ite_n hc13 hD
        refine lv_iconst (v := 0) hx hb dX5_faultOfCells_30 (by decide) ?_
        refine lv_goto (tgt := 35) hx hb dX5_faultOfCells_31 (by decide) ?_
        exact r_iret X I hD dX5_faultOfCells_35
    · have hD := ite_n hc8 hD
      refine lv_iconst (v := 4) hx hb dX5_faultOfCells_19 (by decide) ?_
      exact r_iret X I hD dX5_faultOfCells_20
  · have hD := ite_n hc6 hD
    refine lv_iload hx hb dX5_faultOfCells_12 (lv_at hl 0 rfl) ?_
    exact r_iret X I hD dX5_faultOfCells_14
end
section
/-! YearDeck$Rider.yearsAbove(I)I -/
def D_X4_yearsAbove (σ : St) (p0 : Nat) (p1 : Int32) : Option Int32 := if (σ p0 0) = (0 : Int32) then some p1 else if (σ p0 0) = (1 : Int32) then some (p1 + (1 : Int32)) else some ((p1 + (1 : Int32)) / (2 : Int32))
set_option maxRecDepth 100000 in
set_option maxHeartbeats 4000000 in
theorem c_X4_yearsAbove (l : Launch) (g : Gh) (q : Nat → Nat) (sz : Nat) (σ : St) (p0 : Nat) (p1 : Int32) (kp0 : kRi p0) {rr : Int32} (hD : D_X4_yearsAbove σ p0 p1 = some rr) : Met l yX4_yearsAbove (wU yX4_yearsAbove cX4_yearsAbove 2 (some .int)) (rmD 0) (PQ g (eC g q) q 23 σ sz [.ref (q p0), .int p1]) (QI g (eC g q) q 23 rr σ sz) 0 0 (AQ q 23 sz) := by
  refine met_of (Qc := QI g (eC g q) q 23 rr σ) (by decide) (Nat.le_of_ble_eq_true rfl) ?_
  intro p e s m below meth c ls X I hl
  have hx := X.1
  have hb := X.2.1
  have hl : lv_has ls 2 [(0, .ref (q p0)), (1, .int p1)] := hl
  unfold D_X4_yearsAbove at hD
  refine lv_aload_n hx hb dX4_yearsAbove_0 rfl (lv_at hl 0 rfl) ?_
  refine g_Rider_kind X I kp0 fl_X4_9 dX4_yearsAbove_1 ?_
  by_cases hc4 : (σ p0 0) = (0 : Int32)
  · have hD := ite_p hc4 hD
    refine lv_lookup (off := 28) (tgt := 32) hx hb dX4_yearsAbove_4 (by decide) (by rw [hc4]; rfl) (by decide) ?_
    refine lv_iload_n hx hb dX4_yearsAbove_32 rfl (lv_at hl 1 rfl) ?_
    exact r_iret X I hD dX4_yearsAbove_33
  · have hD := ite_n hc4 hD
    by_cases hc7 : (σ p0 0) = (1 : Int32)
    · have hD := ite_p hc7 hD
      refine lv_lookup (off := 30) (tgt := 34) hx hb dX4_yearsAbove_4 (by decide) (by rw [hc7]; rfl) (by decide) ?_
      refine lv_iload_n hx hb dX4_yearsAbove_34 rfl (lv_at hl 1 rfl) ?_
      refine lv_iconst (v := 1) hx hb dX4_yearsAbove_35 (by decide) ?_
      refine lv_iadd hx hb dX4_yearsAbove_36 ?_
      exact r_iret X I hD dX4_yearsAbove_37
    · have hD := ite_n hc7 hD
      refine lv_lookup (off := 34) (tgt := 38) hx hb dX4_yearsAbove_4 (by decide) (by refine (lv_osw hc4 (by decide)).trans ?_; refine (lv_osw hc7 (by decide)).trans ?_; rfl) (by decide) ?_
      refine lv_iload_n hx hb dX4_yearsAbove_38 rfl (lv_at hl 1 rfl) ?_
      refine lv_iconst (v := 1) hx hb dX4_yearsAbove_39 (by decide) ?_
      refine lv_iadd hx hb dX4_yearsAbove_40 ?_
      refine lv_iconst (v := 2) hx hb dX4_yearsAbove_41 (by decide) ?_
      refine lv_idiv hx hb dX4_yearsAbove_42 (by decide) ?_
      exact r_iret X I hD dX4_yearsAbove_43

/-! YearDeck$RideText.digit(I)I -/
def D_X3_digit (σ : St) (p0 : Int32) : Option Int32 := some (p0 - (48 : Int32))
set_option maxRecDepth 100000 in
set_option maxHeartbeats 4000000 in
theorem c_X3_digit (l : Launch) (g : Gh) (q : Nat → Nat) (sz : Nat) (σ : St) (p0 : Int32) {rr : Int32} (hD : D_X3_digit σ p0 = some rr) : Met l yX3_digit (wU yX3_digit cX3_digit 1 (some .int)) (rmD 0) (PQ g (eC g q) q 23 σ sz [.int p0]) (QI g (eC g q) q 23 rr σ sz) 0 0 (AQ q 23 sz) := by
  refine met_of (Qc := QI g (eC g q) q 23 rr σ) (by decide) (Nat.le_of_ble_eq_true rfl) ?_
  intro p e s m below meth c ls X I hl
  have hx := X.1
  have hb := X.2.1
  have hl : lv_has ls 1 [(0, .int p0)] := hl
  unfold D_X3_digit at hD
  refine lv_iload_n hx hb dX3_digit_0 rfl (lv_at hl 0 rfl) ?_
  refine lv_bipush (v := 48) hx hb dX3_digit_1 (by decide) ?_
  refine lv_isub hx hb dX3_digit_3 ?_
  exact r_iret X I hD dX3_digit_4

/-! YearDeck$RideText.isDigit(III)Z -/
def D_X3_isDigit (σ : St) (p0 : Int32) (p1 : Int32) (p2 : Int32) : Option Int32 := if p0 < ((48 : Int32) + p1) then some (0 : Int32) else if ((48 : Int32) + p2) < p0 then some (0 : Int32) else some (1 : Int32)
set_option maxRecDepth 100000 in
set_option maxHeartbeats 4000000 in
theorem c_X3_isDigit (l : Launch) (g : Gh) (q : Nat → Nat) (sz : Nat) (σ : St) (p0 : Int32) (p1 : Int32) (p2 : Int32) {rr : Int32} (hD : D_X3_isDigit σ p0 p1 p2 = some rr) : Met l yX3_isDigit (wU yX3_isDigit cX3_isDigit 3 (some .boolean)) (rmD 0) (PQ g (eC g q) q 23 σ sz [.int p0, .int p1, .int p2]) (QI g (eC g q) q 23 rr σ sz) 0 0 (AQ q 23 sz) := by
  refine met_of (Qc := QI g (eC g q) q 23 rr σ) (by decide) (Nat.le_of_ble_eq_true rfl) ?_
  intro p e s m below meth c ls X I hl
  have hx := X.1
  have hb := X.2.1
  have hl : lv_has ls 3 [(0, .int p0), (1, .int p1), (2, .int p2)] := hl
  unfold D_X3_isDigit at hD
  refine lv_iload_n hx hb dX3_isDigit_0 rfl (lv_at hl 0 rfl) ?_
  refine lv_bipush (v := 48) hx hb dX3_isDigit_1 (by decide) ?_
  refine lv_iload_n hx hb dX3_isDigit_3 rfl (lv_at hl 1 rfl) ?_
  refine lv_iadd hx hb dX3_isDigit_4 ?_
  refine lv_icmp_lt (tgt := 20) hx hb dX3_isDigit_5 (by decide) (fun hc5 => ?_) (fun hc5 => ?_)
  · have hD := ite_p hc5 hD
    refine lv_iconst (v := 0) hx hb dX3_isDigit_20 (by decide) ?_
    exact r_zret X I hD rfl dX3_isDigit_21
  · have hD := ite_n hc5 hD
    refine lv_iload_n hx hb dX3_isDigit_8 rfl (lv_at hl 0 rfl) ?_
    refine lv_bipush (v := 48) hx hb dX3_isDigit_9 (by decide) ?_
    refine lv_iload_n hx hb dX3_isDigit_11 rfl (lv_at hl 2 rfl) ?_
    refine lv_iadd hx hb dX3_isDigit_12 ?_
    refine lv_icmp_gt (tgt := 20) hx hb dX3_isDigit_13 (by decide) (fun hc12 => ?_) (fun hc12 => ?_)
    · have hD := ite_p hc12 hD
      refine lv_iconst (v := 0) hx hb dX3_isDigit_20 (by decide) ?_
      exact r_zret X I hD rfl dX3_isDigit_21
    · have hD := ite_n hc12 hD
      refine lv_iconst (v := 1) hx hb dX3_isDigit_16 (by decide) ?_
      refine lv_goto (tgt := 21) hx hb dX3_isDigit_17 (by decide) ?_
      exact r_zret X I hD rfl dX3_isDigit_21

/-! YearDeck$RideText.sectionsTold(LYearDeck$Sheet;II)I -/
def D_X3_sectionsTold_2b (σ : St) (rc2 : Int32 → Option Int32) (v0 : Nat) (v1 : Int32) (v2 : Int32) (v3 : Int32) : Option Int32 := if (5 : Int32) ≤ v3 then some v3 else if v2 ≤ ((3 : Int32) + v3) then some v3 else (D_X5_at σ v0 ((v1 + (3 : Int32)) + v3)).bind fun y21 => (D_X3_isDigit σ y21 (0 : Int32) (3 : Int32)).bind fun y24 => if y24 = 0 then some v3 else rc2 (v3 + (1 : Int32))
set_option maxRecDepth 100000 in
set_option maxHeartbeats 4000000 in
theorem w_X3_sectionsTold_2b {p : Program} {l : Launch} {e : Env} {s : State} {m : MethodId} {args : Array Value} {below : List Frame} {meth : Method} {c : Code} (g : Gh) (q : Nat → Nat) (X : MX p s m args meth c cX3_sectionsTold 4 (some .int) RX3) {rr : Int32} (σ : St)  (v0 : Nat) (v1 : Int32) (v2 : Int32) (v3 : Int32) (kv0 : kSh v0) (rc2 : Int32 → Option Int32) (hrc2 : ∀ (v3' : Int32), rc2 v3' = some rr → ∀ (H : Heap) (locs : List Loc) (ls : Array Slot), IC g q s σ H locs → lv_has ls 4 [(0, .ref (q v0)), (1, .int v1), (2, .int v2), (3, .int v3')] → W p l e (rmD 2) s m args below meth c H locs 0 0 (MQ below (QI g (eC g q) q 23 rr σ s.heap.size) args s 0 0 (AQ q 23 s.heap.size)) (F0 m 2 ls [])) (hD : D_X3_sectionsTold_2b σ rc2 v0 v1 v2 v3 = some rr) (H : Heap) (locs : List Loc) (ls : Array Slot) (I : IC g q s σ H locs) (hl : lv_has ls 4 [(0, .ref (q v0)), (1, .int v1), (2, .int v2), (3, .int v3)]) : W p l e (rmD 2) s m args below meth c H locs 0 0 (MQ below (QI g (eC g q) q 23 rr σ s.heap.size) args s 0 0 (AQ q 23 s.heap.size)) (F0 m 2 ls []) := by
  have hx := X.1
  have hb := X.2.1
  unfold D_X3_sectionsTold_2b at hD
  refine lv_iload_n hx hb dX3_sectionsTold_2 rfl (lv_at hl 3 rfl) ?_
  refine lv_iconst (v := 5) hx hb dX3_sectionsTold_3 (by decide) ?_
  refine lv_icmp_ge (tgt := 37) hx hb dX3_sectionsTold_4 (by decide) (fun hc5 => ?_) (fun hc5 => ?_)
  · have hD := ite_p hc5 hD
    refine lv_iload_n hx hb dX3_sectionsTold_37 rfl (lv_at hl 3 rfl) ?_
    exact r_iret X I hD dX3_sectionsTold_38
  · have hD := ite_n hc5 hD
    refine lv_iconst (v := 3) hx hb dX3_sectionsTold_7 (by decide) ?_
    refine lv_iload_n hx hb dX3_sectionsTold_8 rfl (lv_at hl 3 rfl) ?_
    refine lv_iadd hx hb dX3_sectionsTold_9 ?_
    refine lv_iload_n hx hb dX3_sectionsTold_10 rfl (lv_at hl 2 rfl) ?_
    refine lv_icmp_ge (tgt := 37) hx hb dX3_sectionsTold_11 (by decide) (fun hc12 => ?_) (fun hc12 => ?_)
    · have hD := ite_p hc12 hD
      refine lv_iload_n hx hb dX3_sectionsTold_37 rfl (lv_at hl 3 rfl) ?_
      exact r_iret X I hD dX3_sectionsTold_38
    · have hD := ite_n hc12 hD
      refine lv_aload_n hx hb dX3_sectionsTold_14 rfl (lv_at hl 0 rfl) ?_
      refine lv_iload_n hx hb dX3_sectionsTold_15 rfl (lv_at hl 1 rfl) ?_
      refine lv_iconst (v := 3) hx hb dX3_sectionsTold_16 (by decide) ?_
      refine lv_iadd hx hb dX3_sectionsTold_17 ?_
      refine lv_iload_n hx hb dX3_sectionsTold_18 rfl (lv_at hl 3 rfl) ?_
      refine lv_iadd hx hb dX3_sectionsTold_19 ?_
      obtain ⟨y21, hy21, hD⟩ := bd_s hD
      refine r_calli (r_runV (As := [.int ((v1 + (3 : Int32)) + v3)]) (rest := []) X I (c_X5_at l g q _ σ v0 ((v1 + (3 : Int32)) + v3) kv0 hy21) kv_X5_at ml_X3_19 rfl (kSh_lt kv0) (eC_Sheet g q _ kv0) ⟨Nat.le_of_ble_eq_true rfl, Nat.le_of_ble_eq_true rfl⟩ ⟨Nat.zero_le _, Nat.zero_le _⟩ rfl rfl hl.1 (Nat.le_of_ble_eq_true rfl) dX3_sectionsTold_20) I (fun H locs I => ?_)
      refine lv_iconst (v := 0) hx hb dX3_sectionsTold_23 (by decide) ?_
      refine lv_iconst (v := 3) hx hb dX3_sectionsTold_24 (by decide) ?_
      obtain ⟨y24, hy24, hD⟩ := bd_s hD
      refine r_calli (r_runS (As := [.int y21, .int (0 : Int32), .int (3 : Int32)]) (rest := []) X I (c_X3_isDigit l g q _ σ y21 (0 : Int32) (3 : Int32) hy24) ks_X3_isDigit ml_X3_25 ⟨Nat.le_of_ble_eq_true rfl, Nat.le_of_ble_eq_true rfl⟩ ⟨Nat.zero_le _, Nat.zero_le _⟩ rfl rfl hl.1 (Nat.le_of_ble_eq_true rfl) dX3_sectionsTold_25) I (fun H locs I => ?_)
      refine lv_if_eq (tgt := 37) hx hb dX3_sectionsTold_28 (by decide) (fun hc25 => ?_) (fun hc25 => ?_)
      · have hD := ite_p hc25 hD
        refine lv_iload_n hx hb dX3_sectionsTold_37 rfl (lv_at hl 3 rfl) ?_
        exact r_iret X I hD dX3_sectionsTold_38
      · have hD := ite_n hc25 hD
        refine lv_iinc (v := v3 + (1 : Int32)) (lv' := [(3, .int (v3 + (1 : Int32))), (0, .ref (q v0)), (1, .int v1), (2, .int v2)]) hx hb dX3_sectionsTold_31 hl (k := 3) rfl rfl (by decide) rfl (fun ls hl => ?_)
        refine lv_goto (tgt := 2) hx hb dX3_sectionsTold_34 (by decide) ?_
        exact hrc2 (v3 + (1 : Int32)) hD _ _ _ I (lv_sub hl [1, 2, 3, 0] rfl)
def D_X3_sectionsTold_2 (σ : St) (v0 : Nat) (v1 : Int32) (v2 : Int32) : Nat → Int32 → Option Int32
  | 0 => fun _ => none
  | n + 1 => fun v3 => D_X3_sectionsTold_2b σ (D_X3_sectionsTold_2 σ v0 v1 v2 n) v0 v1 v2 v3
set_option maxRecDepth 100000 in
set_option maxHeartbeats 4000000 in
theorem w_X3_sectionsTold_2 {p : Program} {l : Launch} {e : Env} {s : State} {m : MethodId} {args : Array Value} {below : List Frame} {meth : Method} {c : Code} (g : Gh) (q : Nat → Nat) (X : MX p s m args meth c cX3_sectionsTold 4 (some .int) RX3) {rr : Int32} (σ : St)  (v0 : Nat) (v1 : Int32) (v2 : Int32) (kv0 : kSh v0) : ∀ (n : Nat) (v3 : Int32), D_X3_sectionsTold_2 σ v0 v1 v2 n v3 = some rr → ∀ (H : Heap) (locs : List Loc) (ls : Array Slot), IC g q s σ H locs → lv_has ls 4 [(0, .ref (q v0)), (1, .int v1), (2, .int v2), (3, .int v3)] → W p l e (rmD 2) s m args below meth c H locs 0 0 (MQ below (QI g (eC g q) q 23 rr σ s.heap.size) args s 0 0 (AQ q 23 s.heap.size)) (F0 m 2 ls []) := by
  intro n
  induction n with
  | zero =>
    intro v3 hD H locs ls I hl
    cases hD
  | succ n ih =>
    intro v3 hD H locs ls I hl
    exact w_X3_sectionsTold_2b g q X σ v0 v1 v2 v3 kv0 _ ih hD H locs ls I hl
def D_X3_sectionsTold (σ : St) (p0 : Nat) (p1 : Int32) (p2 : Int32) : Option Int32 := D_X3_sectionsTold_2 σ p0 p1 p2 FU (0 : Int32)
set_option maxRecDepth 100000 in
set_option maxHeartbeats 4000000 in
theorem c_X3_sectionsTold (l : Launch) (g : Gh) (q : Nat → Nat) (sz : Nat) (σ : St) (p0 : Nat) (p1 : Int32) (p2 : Int32) (kp0 : kSh p0) {rr : Int32} (hD : D_X3_sectionsTold σ p0 p1 p2 = some rr) : Met l yX3_sectionsTold (wU yX3_sectionsTold cX3_sectionsTold 4 (some .int)) (rmD 2) (PQ g (eC g q) q 23 σ sz [.ref (q p0), .int p1, .int p2]) (QI g (eC g q) q 23 rr σ sz) 0 0 (AQ q 23 sz) := by
  refine met_of (Qc := QI g (eC g q) q 23 rr σ) (by decide) (Nat.le_of_ble_eq_true rfl) ?_
  intro p e s m below meth c ls X I hl
  have hx := X.1
  have hb := X.2.1
  have hl : lv_has ls 4 [(0, .ref (q p0)), (1, .int p1), (2, .int p2)] := hl
  unfold D_X3_sectionsTold at hD
  refine lv_iconst (v := 0) hx hb dX3_sectionsTold_0 (by decide) ?_
  refine lv_istore_n (lv' := [(3, .int (0 : Int32)), (0, .ref (q p0)), (1, .int p1), (2, .int p2)]) hx hb dX3_sectionsTold_1 rfl hl (by decide) rfl (fun ls hl => ?_)
  exact w_X3_sectionsTold_2 g q X σ p0 p1 p2 kp0 FU (0 : Int32) hD _ _ _ I (lv_sub hl [1, 2, 3, 0] rfl)

/-! YearDeck$RideText.kindOf(I)I -/
def D_X3_kindOf (σ : St) (p0 : Int32) : Option Int32 := if p0 = (101 : Int32) then some (2 : Int32) else if p0 = (108 : Int32) then some (1 : Int32) else if p0 = (114 : Int32) then some (0 : Int32) else some (-9 : Int32)
set_option maxRecDepth 100000 in
set_option maxHeartbeats 4000000 in
theorem c_X3_kindOf (l : Launch) (g : Gh) (q : Nat → Nat) (sz : Nat) (σ : St) (p0 : Int32) {rr : Int32} (hD : D_X3_kindOf σ p0 = some rr) : Met l yX3_kindOf (wU yX3_kindOf cX3_kindOf 1 (some .int)) (rmD 0) (PQ g (eC g q) q 23 σ sz [.int p0]) (QI g (eC g q) q 23 rr σ sz) 0 0 (AQ q 23 sz) := by
  refine met_of (Qc := QI g (eC g q) q 23 rr σ) (by decide) (Nat.le_of_ble_eq_true rfl) ?_
  intro p e s m below meth c ls X I hl
  have hx := X.1
  have hb := X.2.1
  have hl : lv_has ls 1 [(0, .int p0)] := hl
  unfold D_X3_kindOf at hD
  refine lv_iload_n hx hb dX3_kindOf_0 rfl (lv_at hl 0 rfl) ?_
  by_cases hc3 : p0 = (101 : Int32)
  · have hD := ite_p hc3 hD
    refine lv_lookup (off := 39) (tgt := 40) hx hb dX3_kindOf_1 (by decide) (by rw [hc3]; rfl) (by decide) ?_
    refine lv_iconst (v := 2) hx hb dX3_kindOf_40 (by decide) ?_
    exact r_iret X I hD dX3_kindOf_41
  · have hD := ite_n hc3 hD
    by_cases hc6 : p0 = (108 : Int32)
    · have hD := ite_p hc6 hD
      refine lv_lookup (off := 37) (tgt := 38) hx hb dX3_kindOf_1 (by decide) (by rw [hc6]; rfl) (by decide) ?_
      refine lv_iconst (v := 1) hx hb dX3_kindOf_38 (by decide) ?_
      exact r_iret X I hD dX3_kindOf_39
    · have hD := ite_n hc6 hD
      by_cases hc9 : p0 = (114 : Int32)
      · have hD := ite_p hc9 hD
        refine lv_lookup (off := 35) (tgt := 36) hx hb dX3_kindOf_1 (by decide) (by rw [hc9]; rfl) (by decide) ?_
        refine lv_iconst (v := 0) hx hb dX3_kindOf_36 (by decide) ?_
        exact r_iret X I hD dX3_kindOf_37
      · have hD := ite_n hc9 hD
        refine lv_lookup (off := 41) (tgt := 42) hx hb dX3_kindOf_1 (by decide) (by refine (lv_osw hc3 (by decide)).trans ?_; refine (lv_osw hc6 (by decide)).trans ?_; refine (lv_osw hc9 (by decide)).trans ?_; rfl) (by decide) ?_
        refine lv_bipush (v := -9) hx hb dX3_kindOf_42 (by decide) ?_
        exact r_iret X I hD dX3_kindOf_44

/-! YearDeck$Rider.twoDigits(LYearDeck$Sheet;I)I -/
def D_X4_twoDigits (σ : St) (p0 : Nat) (p1 : Int32) : Option Int32 := (D_X5_at σ p0 p1).bind fun y4 => (D_X3_digit σ y4).bind fun y5 => (D_X5_at σ p0 (p1 + (1 : Int32))).bind fun y11 => (D_X3_digit σ y11).bind fun y12 => some (((10 : Int32) * y5) + y12)
set_option maxRecDepth 100000 in
set_option maxHeartbeats 4000000 in
theorem c_X4_twoDigits (l : Launch) (g : Gh) (q : Nat → Nat) (sz : Nat) (σ : St) (p0 : Nat) (p1 : Int32) (kp0 : kSh p0) {rr : Int32} (hD : D_X4_twoDigits σ p0 p1 = some rr) : Met l yX4_twoDigits (wU yX4_twoDigits cX4_twoDigits 2 (some .int)) (rmD 2) (PQ g (eC g q) q 23 σ sz [.ref (q p0), .int p1]) (QI g (eC g q) q 23 rr σ sz) 0 0 (AQ q 23 sz) := by
  refine met_of (Qc := QI g (eC g q) q 23 rr σ) (by decide) (Nat.le_of_ble_eq_true rfl) ?_
  intro p e s m below meth c ls X I hl
  have hx := X.1
  have hb := X.2.1
  have hl : lv_has ls 2 [(0, .ref (q p0)), (1, .int p1)] := hl
  unfold D_X4_twoDigits at hD
  refine lv_bipush (v := 10) hx hb dX4_twoDigits_0 (by decide) ?_
  refine lv_aload_n hx hb dX4_twoDigits_2 rfl (lv_at hl 0 rfl) ?_
  refine lv_iload_n hx hb dX4_twoDigits_3 rfl (lv_at hl 1 rfl) ?_
  obtain ⟨y4, hy4, hD⟩ := bd_s hD
  refine r_calli (r_runV (As := [.int p1]) (rest := [.int (10 : Int32)]) X I (c_X5_at l g q _ σ p0 p1 kp0 hy4) kv_X5_at ml_X4_27 rfl (kSh_lt kp0) (eC_Sheet g q _ kp0) ⟨Nat.le_of_ble_eq_true rfl, Nat.le_of_ble_eq_true rfl⟩ ⟨Nat.zero_le _, Nat.zero_le _⟩ rfl rfl hl.1 (Nat.le_of_ble_eq_true rfl) dX4_twoDigits_4) I (fun H locs I => ?_)
  obtain ⟨y5, hy5, hD⟩ := bd_s hD
  refine r_calli (r_runS (As := [.int y4]) (rest := [.int (10 : Int32)]) X I (c_X3_digit l g q _ σ y4 hy5) ks_X3_digit ml_X4_38 ⟨Nat.le_of_ble_eq_true rfl, Nat.le_of_ble_eq_true rfl⟩ ⟨Nat.zero_le _, Nat.zero_le _⟩ rfl rfl hl.1 (Nat.le_of_ble_eq_true rfl) dX4_twoDigits_7) I (fun H locs I => ?_)
  refine lv_imul hx hb dX4_twoDigits_10 ?_
  refine lv_aload_n hx hb dX4_twoDigits_11 rfl (lv_at hl 0 rfl) ?_
  refine lv_iload_n hx hb dX4_twoDigits_12 rfl (lv_at hl 1 rfl) ?_
  refine lv_iconst (v := 1) hx hb dX4_twoDigits_13 (by decide) ?_
  refine lv_iadd hx hb dX4_twoDigits_14 ?_
  obtain ⟨y11, hy11, hD⟩ := bd_s hD
  refine r_calli (r_runV (As := [.int (p1 + (1 : Int32))]) (rest := [.int ((10 : Int32) * y5)]) X I (c_X5_at l g q _ σ p0 (p1 + (1 : Int32)) kp0 hy11) kv_X5_at ml_X4_27 rfl (kSh_lt kp0) (eC_Sheet g q _ kp0) ⟨Nat.le_of_ble_eq_true rfl, Nat.le_of_ble_eq_true rfl⟩ ⟨Nat.zero_le _, Nat.zero_le _⟩ rfl rfl hl.1 (Nat.le_of_ble_eq_true rfl) dX4_twoDigits_15) I (fun H locs I => ?_)
  obtain ⟨y12, hy12, hD⟩ := bd_s hD
  refine r_calli (r_runS (As := [.int y11]) (rest := [.int ((10 : Int32) * y5)]) X I (c_X3_digit l g q _ σ y11 hy12) ks_X3_digit ml_X4_38 ⟨Nat.le_of_ble_eq_true rfl, Nat.le_of_ble_eq_true rfl⟩ ⟨Nat.zero_le _, Nat.zero_le _⟩ rfl rfl hl.1 (Nat.le_of_ble_eq_true rfl) dX4_twoDigits_18) I (fun H locs I => ?_)
  refine lv_iadd hx hb dX4_twoDigits_21 ?_
  exact r_iret X I hD dX4_twoDigits_22

/-! YearDeck$Rider.board(LYearDeck$Sheet;I)V -/
def D_X4_board (σ : St) (p0 : Nat) (p1 : Nat) (p2 : Int32) : Option St := (D_X5_at σ p1 (p2 + (1 : Int32))).bind fun y6 => (D_X3_kindOf σ y6).bind fun y7 => (D_X5_at (up2 σ p0 0 y7) p1 (p2 + (2 : Int32))).bind fun y14 => (D_X3_digit (up2 σ p0 0 y7) y14).bind fun y15 => (D_X5_at (up2 (up2 σ p0 0 y7) p0 1 y15) p1 (p2 + (3 : Int32))).bind fun y22 => (D_X3_digit (up2 (up2 σ p0 0 y7) p0 1 y15) y22).bind fun y23 => (D_X4_twoDigits (up2 (up2 (up2 σ p0 0 y7) p0 1 y15) p0 2 y23) p1 (p2 + (4 : Int32))).bind fun y30 => (D_X4_twoDigits (up2 (up2 (up2 (up2 σ p0 0 y7) p0 1 y15) p0 2 y23) p0 3 y30) p1 (p2 + (6 : Int32))).bind fun y37 => some (up2 (up2 (up2 (up2 (up2 σ p0 0 y7) p0 1 y15) p0 2 y23) p0 3 y30) p0 4 y37)
set_option maxRecDepth 100000 in
set_option maxHeartbeats 4000000 in
theorem c_X4_board (l : Launch) (g : Gh) (q : Nat → Nat) (sz : Nat) (σ : St) (p0 : Nat) (p1 : Nat) (p2 : Int32) (kp0 : kRi p0) (kp1 : kSh p1) {rr : St} (hD : D_X4_board σ p0 p1 p2 = some rr) : Met l yX4_board (wU yX4_board cX4_board 3 none) (rmD 3) (PQ g (eC g q) q 23 σ sz [.ref (q p0), .ref (q p1), .int p2]) (QV g (eC g q) q 23 rr sz) 0 0 (AQ q 23 sz) := by
  refine met_of (Qc := QV g (eC g q) q 23 rr) (by decide) (Nat.le_of_ble_eq_true rfl) ?_
  intro p e s m below meth c ls X I hl
  have hx := X.1
  have hb := X.2.1
  have hl : lv_has ls 3 [(0, .ref (q p0)), (1, .ref (q p1)), (2, .int p2)] := hl
  unfold D_X4_board at hD
  refine lv_aload_n hx hb dX4_board_0 rfl (lv_at hl 0 rfl) ?_
  refine lv_aload_n hx hb dX4_board_1 rfl (lv_at hl 1 rfl) ?_
  refine lv_iload_n hx hb dX4_board_2 rfl (lv_at hl 2 rfl) ?_
  refine lv_iconst (v := 1) hx hb dX4_board_3 (by decide) ?_
  refine lv_iadd hx hb dX4_board_4 ?_
  obtain ⟨y6, hy6, hD⟩ := bd_s hD
  refine r_calli (r_runV (As := [.int (p2 + (1 : Int32))]) (rest := [.ref (q p0)]) X I (c_X5_at l g q _ σ p1 (p2 + (1 : Int32)) kp1 hy6) kv_X5_at ml_X4_27 rfl (kSh_lt kp1) (eC_Sheet g q _ kp1) ⟨Nat.le_of_ble_eq_true rfl, Nat.le_of_ble_eq_true rfl⟩ ⟨Nat.zero_le _, Nat.zero_le _⟩ rfl rfl hl.1 (Nat.le_of_ble_eq_true rfl) dX4_board_5) I (fun H locs I => ?_)
  obtain ⟨y7, hy7, hD⟩ := bd_s hD
  refine r_calli (r_runS (As := [.int y6]) (rest := [.ref (q p0)]) X I (c_X3_kindOf l g q _ σ y6 hy7) ks_X3_kindOf ml_X4_33 ⟨Nat.le_of_ble_eq_true rfl, Nat.le_of_ble_eq_true rfl⟩ ⟨Nat.zero_le _, Nat.zero_le _⟩ rfl rfl hl.1 (Nat.le_of_ble_eq_true rfl) dX4_board_8) I (fun H locs I => ?_)
  refine p_Rider_kind X I kp0 fl_X4_9 dX4_board_11 (fun H locs I => ?_)
  refine lv_aload_n hx hb dX4_board_14 rfl (lv_at hl 0 rfl) ?_
  refine lv_aload_n hx hb dX4_board_15 rfl (lv_at hl 1 rfl) ?_
  refine lv_iload_n hx hb dX4_board_16 rfl (lv_at hl 2 rfl) ?_
  refine lv_iconst (v := 2) hx hb dX4_board_17 (by decide) ?_
  refine lv_iadd hx hb dX4_board_18 ?_
  obtain ⟨y14, hy14, hD⟩ := bd_s hD
  refine r_calli (r_runV (As := [.int (p2 + (2 : Int32))]) (rest := [.ref (q p0)]) X I (c_X5_at l g q _ (up2 σ p0 0 y7) p1 (p2 + (2 : Int32)) kp1 hy14) kv_X5_at ml_X4_27 rfl (kSh_lt kp1) (eC_Sheet g q _ kp1) ⟨Nat.le_of_ble_eq_true rfl, Nat.le_of_ble_eq_true rfl⟩ ⟨Nat.zero_le _, Nat.zero_le _⟩ rfl rfl hl.1 (Nat.le_of_ble_eq_true rfl) dX4_board_19) I (fun H locs I => ?_)
  obtain ⟨y15, hy15, hD⟩ := bd_s hD
  refine r_calli (r_runS (As := [.int y14]) (rest := [.ref (q p0)]) X I (c_X3_digit l g q _ (up2 σ p0 0 y7) y14 hy15) ks_X3_digit ml_X4_38 ⟨Nat.le_of_ble_eq_true rfl, Nat.le_of_ble_eq_true rfl⟩ ⟨Nat.zero_le _, Nat.zero_le _⟩ rfl rfl hl.1 (Nat.le_of_ble_eq_true rfl) dX4_board_22) I (fun H locs I => ?_)
  refine p_Rider_on X I kp0 fl_X4_15 dX4_board_25 (fun H locs I => ?_)
  refine lv_aload_n hx hb dX4_board_28 rfl (lv_at hl 0 rfl) ?_
  refine lv_aload_n hx hb dX4_board_29 rfl (lv_at hl 1 rfl) ?_
  refine lv_iload_n hx hb dX4_board_30 rfl (lv_at hl 2 rfl) ?_
  refine lv_iconst (v := 3) hx hb dX4_board_31 (by decide) ?_
  refine lv_iadd hx hb dX4_board_32 ?_
  obtain ⟨y22, hy22, hD⟩ := bd_s hD
  refine r_calli (r_runV (As := [.int (p2 + (3 : Int32))]) (rest := [.ref (q p0)]) X I (c_X5_at l g q _ (up2 (up2 σ p0 0 y7) p0 1 y15) p1 (p2 + (3 : Int32)) kp1 hy22) kv_X5_at ml_X4_27 rfl (kSh_lt kp1) (eC_Sheet g q _ kp1) ⟨Nat.le_of_ble_eq_true rfl, Nat.le_of_ble_eq_true rfl⟩ ⟨Nat.zero_le _, Nat.zero_le _⟩ rfl rfl hl.1 (Nat.le_of_ble_eq_true rfl) dX4_board_33) I (fun H locs I => ?_)
  obtain ⟨y23, hy23, hD⟩ := bd_s hD
  refine r_calli (r_runS (As := [.int y22]) (rest := [.ref (q p0)]) X I (c_X3_digit l g q _ (up2 (up2 σ p0 0 y7) p0 1 y15) y22 hy23) ks_X3_digit ml_X4_38 ⟨Nat.le_of_ble_eq_true rfl, Nat.le_of_ble_eq_true rfl⟩ ⟨Nat.zero_le _, Nat.zero_le _⟩ rfl rfl hl.1 (Nat.le_of_ble_eq_true rfl) dX4_board_36) I (fun H locs I => ?_)
  refine p_Rider_off X I kp0 fl_X4_18 dX4_board_39 (fun H locs I => ?_)
  refine lv_aload_n hx hb dX4_board_42 rfl (lv_at hl 0 rfl) ?_
  refine lv_aload_n hx hb dX4_board_43 rfl (lv_at hl 1 rfl) ?_
  refine lv_iload_n hx hb dX4_board_44 rfl (lv_at hl 2 rfl) ?_
  refine lv_iconst (v := 4) hx hb dX4_board_45 (by decide) ?_
  refine lv_iadd hx hb dX4_board_46 ?_
  obtain ⟨y30, hy30, hD⟩ := bd_s hD
  refine r_calli (r_runS (As := [.ref (q p1), .int (p2 + (4 : Int32))]) (rest := [.ref (q p0)]) X I (c_X4_twoDigits l g q _ (up2 (up2 (up2 σ p0 0 y7) p0 1 y15) p0 2 y23) p1 (p2 + (4 : Int32)) kp1 hy30) ks_X4_twoDigits ml_X4_41 ⟨Nat.le_of_ble_eq_true rfl, Nat.le_of_ble_eq_true rfl⟩ ⟨Nat.zero_le _, Nat.zero_le _⟩ rfl rfl hl.1 (Nat.le_of_ble_eq_true rfl) dX4_board_47) I (fun H locs I => ?_)
  refine p_Rider_years X I kp0 fl_X4_21 dX4_board_50 (fun H locs I => ?_)
  refine lv_aload_n hx hb dX4_board_53 rfl (lv_at hl 0 rfl) ?_
  refine lv_aload_n hx hb dX4_board_54 rfl (lv_at hl 1 rfl) ?_
  refine lv_iload_n hx hb dX4_board_55 rfl (lv_at hl 2 rfl) ?_
  refine lv_bipush (v := 6) hx hb dX4_board_56 (by decide) ?_
  refine lv_iadd hx hb dX4_board_58 ?_
  obtain ⟨y37, hy37, hD⟩ := bd_s hD
  refine r_calli (r_runS (As := [.ref (q p1), .int (p2 + (6 : Int32))]) (rest := [.ref (q p0)]) X I (c_X4_twoDigits l g q _ (up2 (up2 (up2 (up2 σ p0 0 y7) p0 1 y15) p0 2 y23) p0 3 y30) p1 (p2 + (6 : Int32)) kp1 hy37) ks_X4_twoDigits ml_X4_41 ⟨Nat.le_of_ble_eq_true rfl, Nat.le_of_ble_eq_true rfl⟩ ⟨Nat.zero_le _, Nat.zero_le _⟩ rfl rfl hl.1 (Nat.le_of_ble_eq_true rfl) dX4_board_59) I (fun H locs I => ?_)
  refine p_Rider_want X I kp0 fl_X4_24 dX4_board_62 (fun H locs I => ?_)
  exact r_vret X I hD dX4_board_65

/-! YearDeck$Rider.own()I -/
def D_X4_own (σ : St) (p0 : Nat) : Option Int32 := some (((1 : Int32) <<< ((σ p0 2) &&& 31)) - ((1 : Int32) <<< ((σ p0 1) &&& 31)))
set_option maxRecDepth 100000 in
set_option maxHeartbeats 4000000 in
theorem c_X4_own (l : Launch) (g : Gh) (q : Nat → Nat) (sz : Nat) (σ : St) (p0 : Nat) (kp0 : kRi p0) {rr : Int32} (hD : D_X4_own σ p0 = some rr) : Met l yX4_own (wU yX4_own cX4_own 1 (some .int)) (rmD 0) (PQ g (eC g q) q 23 σ sz [.ref (q p0)]) (QI g (eC g q) q 23 rr σ sz) 0 0 (AQ q 23 sz) := by
  refine met_of (Qc := QI g (eC g q) q 23 rr σ) (by decide) (Nat.le_of_ble_eq_true rfl) ?_
  intro p e s m below meth c ls X I hl
  have hx := X.1
  have hb := X.2.1
  have hl : lv_has ls 1 [(0, .ref (q p0))] := hl
  unfold D_X4_own at hD
  refine lv_iconst (v := 1) hx hb dX4_own_0 (by decide) ?_
  refine lv_aload_n hx hb dX4_own_1 rfl (lv_at hl 0 rfl) ?_
  refine g_Rider_off X I kp0 fl_X4_18 dX4_own_2 ?_
  refine lv_ishl hx hb dX4_own_5 ?_
  refine lv_iconst (v := 1) hx hb dX4_own_6 (by decide) ?_
  refine lv_aload_n hx hb dX4_own_7 rfl (lv_at hl 0 rfl) ?_
  refine g_Rider_on X I kp0 fl_X4_15 dX4_own_8 ?_
  refine lv_ishl hx hb dX4_own_11 ?_
  refine lv_isub hx hb dX4_own_12 ?_
  exact r_iret X I hD dX4_own_13

/-! YearDeck$Rider.owns(I)Z -/
def D_X4_owns (σ : St) (p0 : Nat) (p1 : Int32) : Option Int32 := (D_X4_own σ p0).bind fun y3 => if (p1 &&& (y3 ^^^ (-1 : Int32))) = 0 then some (1 : Int32) else some (0 : Int32)
set_option maxRecDepth 100000 in
set_option maxHeartbeats 4000000 in
theorem c_X4_owns (l : Launch) (g : Gh) (q : Nat → Nat) (sz : Nat) (σ : St) (p0 : Nat) (p1 : Int32) (kp0 : kRi p0) {rr : Int32} (hD : D_X4_owns σ p0 p1 = some rr) : Met l yX4_owns (wU yX4_owns cX4_owns 2 (some .boolean)) (rmD 1) (PQ g (eC g q) q 23 σ sz [.ref (q p0), .int p1]) (QI g (eC g q) q 23 rr σ sz) 0 0 (AQ q 23 sz) := by
  refine met_of (Qc := QI g (eC g q) q 23 rr σ) (by decide) (Nat.le_of_ble_eq_true rfl) ?_
  intro p e s m below meth c ls X I hl
  have hx := X.1
  have hb := X.2.1
  have hl : lv_has ls 2 [(0, .ref (q p0)), (1, .int p1)] := hl
  unfold D_X4_owns at hD
  refine lv_iload_n hx hb dX4_owns_0 rfl (lv_at hl 1 rfl) ?_
  refine lv_aload_n hx hb dX4_owns_1 rfl (lv_at hl 0 rfl) ?_
  obtain ⟨y3, hy3, hD⟩ := bd_s hD
  refine r_calli (r_runV (As := []) (rest := [.int p1]) X I (c_X4_own l g q _ σ p0 kp0 hy3) kv_X4_own ml_X4_45 rfl (kRi_lt kp0) (eC_Rider g q _ kp0) ⟨Nat.le_of_ble_eq_true rfl, Nat.le_of_ble_eq_true rfl⟩ ⟨Nat.zero_le _, Nat.zero_le _⟩ rfl rfl hl.1 (Nat.le_of_ble_eq_true rfl) dX4_owns_2) I (fun H locs I => ?_)
  refine lv_iconst (v := -1) hx hb dX4_owns_5 (by decide) ?_
  refine lv_ixor hx hb dX4_owns_6 ?_
  refine lv_iand hx hb dX4_owns_7 ?_
  refine lv_if_ne (tgt := 15) hx hb dX4_owns_8 (by decide) (fun hc7 => ?_) (fun hc7 => ?_)
  · have hD := ite_n hc7 hD
    refine lv_iconst (v := 0) hx hb dX4_owns_15 (by decide) ?_
    exact r_zret X I hD rfl dX4_owns_16
  · have hD := ite_p hc7 hD
    refine lv_iconst (v := 1) hx hb dX4_owns_11 (by decide) ?_
    refine lv_goto (tgt := 16) hx hb dX4_owns_12 (by decide) ?_
    exact r_zret X I hD rfl dX4_owns_16

/-! YearDeck$RideText.riderGoesOn(LYearDeck$Sheet;III)Z -/
def D_X3_riderGoesOn (σ : St) (p0 : Nat) (p1 : Int32) (p2 : Int32) (p3 : Int32) : Option Int32 := (D_X5_at σ p0 p1).bind fun y3 => if p2 = (0 : Int32) then if y3 = (59 : Int32) then some (1 : Int32) else some (0 : Int32) else if p2 = (1 : Int32) then (D_X3_kindOf σ y3).bind fun y18 => if y18 = (-9 : Int32) then some (0 : Int32) else some (1 : Int32) else if p2 = (2 : Int32) then (D_X3_isDigit σ y3 (0 : Int32) (p3 - (1 : Int32))).bind fun y32 => gd (isB y32) (some y32) else if p2 = (3 : Int32) then (D_X5_at σ p0 (p1 - (1 : Int32))).bind fun y40 => (D_X3_digit σ y40).bind fun y41 => (D_X3_isDigit σ y3 (y41 + (1 : Int32)) p3).bind fun y45 => gd (isB y45) (some y45) else if p2 = (4 : Int32) then (D_X3_isDigit σ y3 (0 : Int32) (7 : Int32)).bind fun y51 => gd (isB y51) (some y51) else (D_X3_isDigit σ y3 (0 : Int32) (9 : Int32)).bind fun y56 => gd (isB y56) (some y56)
set_option maxRecDepth 100000 in
set_option maxHeartbeats 4000000 in
theorem c_X3_riderGoesOn (l : Launch) (g : Gh) (q : Nat → Nat) (sz : Nat) (σ : St) (p0 : Nat) (p1 : Int32) (p2 : Int32) (p3 : Int32) (kp0 : kSh p0) {rr : Int32} (hD : D_X3_riderGoesOn σ p0 p1 p2 p3 = some rr) : Met l yX3_riderGoesOn (wU yX3_riderGoesOn cX3_riderGoesOn 5 (some .boolean)) (rmD 2) (PQ g (eC g q) q 23 σ sz [.ref (q p0), .int p1, .int p2, .int p3]) (QI g (eC g q) q 23 rr σ sz) 0 0 (AQ q 23 sz) := by
  refine met_of (Qc := QI g (eC g q) q 23 rr σ) (by decide) (Nat.le_of_ble_eq_true rfl) ?_
  intro p e s m below meth c ls X I hl
  have hx := X.1
  have hb := X.2.1
  have hl : lv_has ls 5 [(0, .ref (q p0)), (1, .int p1), (2, .int p2), (3, .int p3)] := hl
  unfold D_X3_riderGoesOn at hD
  refine lv_aload_n hx hb dX3_riderGoesOn_0 rfl (lv_at hl 0 rfl) ?_
  refine lv_iload_n hx hb dX3_riderGoesOn_1 rfl (lv_at hl 1 rfl) ?_
  obtain ⟨y3, hy3, hD⟩ := bd_s hD
  refine r_calli (r_runV (As := [.int p1]) (rest := []) X I (c_X5_at l g q _ σ p0 p1 kp0 hy3) kv_X5_at ml_X3_19 rfl (kSh_lt kp0) (eC_Sheet g q _ kp0) ⟨Nat.le_of_ble_eq_true rfl, Nat.le_of_ble_eq_true rfl⟩ ⟨Nat.zero_le _, Nat.zero_le _⟩ rfl rfl hl.1 (Nat.le_of_ble_eq_true rfl) dX3_riderGoesOn_2) I (fun H locs I => ?_)
  refine lv_istore (lv' := [(4, .int y3), (0, .ref (q p0)), (1, .int p1), (2, .int p2), (3, .int p3)]) hx hb dX3_riderGoesOn_5 hl (by decide) rfl (fun ls hl => ?_)
  refine lv_iload_n hx hb dX3_riderGoesOn_7 rfl (lv_at hl 3 rfl) ?_
  by_cases hc7 : p2 = (0 : Int32)
  · have hD := ite_p hc7 hD
    refine lv_tableIn (off := 36) (tgt := 44) hx hb dX3_riderGoesOn_8 (by rw [hc7]; decide) (by rw [hc7]; decide) (by rw [hc7]; rfl) (by decide) ?_
    refine lv_iload hx hb dX3_riderGoesOn_44 (lv_at hl 0 rfl) ?_
    refine lv_bipush (v := 59) hx hb dX3_riderGoesOn_46 (by decide) ?_
    refine lv_icmp_ne (tgt := 55) hx hb dX3_riderGoesOn_48 (by decide) (fun hc10 => ?_) (fun hc10 => ?_)
    · have hD := ite_n hc10 hD
      refine lv_iconst (v := 0) hx hb dX3_riderGoesOn_55 (by decide) ?_
      exact r_zret X I hD rfl dX3_riderGoesOn_56
    · have hD := ite_p hc10 hD
      refine lv_iconst (v := 1) hx hb dX3_riderGoesOn_51 (by decide) ?_
      refine lv_goto (tgt := 56) hx hb dX3_riderGoesOn_52 (by decide) ?_
      exact r_zret X I hD rfl dX3_riderGoesOn_56
  · have hD := ite_n hc7 hD
    by_cases hc16 : p2 = (1 : Int32)
    · have hD := ite_p hc16 hD
      refine lv_tableIn (off := 49) (tgt := 57) hx hb dX3_riderGoesOn_8 (by rw [hc16]; decide) (by rw [hc16]; decide) (by rw [hc16]; rfl) (by decide) ?_
      refine lv_iload hx hb dX3_riderGoesOn_57 (lv_at hl 0 rfl) ?_
      obtain ⟨y18, hy18, hD⟩ := bd_s hD
      refine r_calli (r_runS (As := [.int y3]) (rest := []) X I (c_X3_kindOf l g q _ σ y3 hy18) ks_X3_kindOf ml_X3_32 ⟨Nat.le_of_ble_eq_true rfl, Nat.le_of_ble_eq_true rfl⟩ ⟨Nat.zero_le _, Nat.zero_le _⟩ rfl rfl hl.1 (Nat.le_of_ble_eq_true rfl) dX3_riderGoesOn_59) I (fun H locs I => ?_)
      refine lv_bipush (v := -9) hx hb dX3_riderGoesOn_62 (by decide) ?_
      refine lv_icmp_eq (tgt := 71) hx hb dX3_riderGoesOn_64 (by decide) (fun hc20 => ?_) (fun hc20 => ?_)
      · have hD := ite_p hc20 hD
        refine lv_iconst (v := 0) hx hb dX3_riderGoesOn_71 (by decide) ?_
        exact r_zret X I hD rfl dX3_riderGoesOn_72
      · have hD := ite_n hc20 hD
        refine lv_iconst (v := 1) hx hb dX3_riderGoesOn_67 (by decide) ?_
        refine lv_goto (tgt := 72) hx hb dX3_riderGoesOn_68 (by decide) ?_
        exact r_zret X I hD rfl dX3_riderGoesOn_72
    · have hD := ite_n hc16 hD
      by_cases hc26 : p2 = (2 : Int32)
      · have hD := ite_p hc26 hD
        refine lv_tableIn (off := 65) (tgt := 73) hx hb dX3_riderGoesOn_8 (by rw [hc26]; decide) (by rw [hc26]; decide) (by rw [hc26]; rfl) (by decide) ?_
        refine lv_iload hx hb dX3_riderGoesOn_73 (lv_at hl 0 rfl) ?_
        refine lv_iconst (v := 0) hx hb dX3_riderGoesOn_75 (by decide) ?_
        refine lv_iload_n hx hb dX3_riderGoesOn_76 rfl (lv_at hl 4 rfl) ?_
        refine lv_iconst (v := 1) hx hb dX3_riderGoesOn_77 (by decide) ?_
        refine lv_isub hx hb dX3_riderGoesOn_78 ?_
        obtain ⟨y32, hy32, hD⟩ := bd_s hD
        refine r_calli (r_runS (As := [.int y3, .int (0 : Int32), .int (p3 - (1 : Int32))]) (rest := []) X I (c_X3_isDigit l g q _ σ y3 (0 : Int32) (p3 - (1 : Int32)) hy32) ks_X3_isDigit ml_X3_25 ⟨Nat.le_of_ble_eq_true rfl, Nat.le_of_ble_eq_true rfl⟩ ⟨Nat.zero_le _, Nat.zero_le _⟩ rfl rfl hl.1 (Nat.le_of_ble_eq_true rfl) dX3_riderGoesOn_79) I (fun H locs I => ?_)
        obtain ⟨hg33, hD⟩ := gd_s hD
        exact r_zret X I hD hg33 dX3_riderGoesOn_82
      · have hD := ite_n hc26 hD
        by_cases hc34 : p2 = (3 : Int32)
        · have hD := ite_p hc34 hD
          refine lv_tableIn (off := 75) (tgt := 83) hx hb dX3_riderGoesOn_8 (by rw [hc34]; decide) (by rw [hc34]; decide) (by rw [hc34]; rfl) (by decide) ?_
          refine lv_iload hx hb dX3_riderGoesOn_83 (lv_at hl 0 rfl) ?_
          refine lv_aload_n hx hb dX3_riderGoesOn_85 rfl (lv_at hl 1 rfl) ?_
          refine lv_iload_n hx hb dX3_riderGoesOn_86 rfl (lv_at hl 2 rfl) ?_
          refine lv_iconst (v := 1) hx hb dX3_riderGoesOn_87 (by decide) ?_
          refine lv_isub hx hb dX3_riderGoesOn_88 ?_
          obtain ⟨y40, hy40, hD⟩ := bd_s hD
          refine r_calli (r_runV (As := [.int (p1 - (1 : Int32))]) (rest := [.int y3]) X I (c_X5_at l g q _ σ p0 (p1 - (1 : Int32)) kp0 hy40) kv_X5_at ml_X3_19 rfl (kSh_lt kp0) (eC_Sheet g q _ kp0) ⟨Nat.le_of_ble_eq_true rfl, Nat.le_of_ble_eq_true rfl⟩ ⟨Nat.zero_le _, Nat.zero_le _⟩ rfl rfl hl.1 (Nat.le_of_ble_eq_true rfl) dX3_riderGoesOn_89) I (fun H locs I => ?_)
          obtain ⟨y41, hy41, hD⟩ := bd_s hD
          refine r_calli (r_runS (As := [.int y40]) (rest := [.int y3]) X I (c_X3_digit l g q _ σ y40 hy41) ks_X3_digit ml_X3_35 ⟨Nat.le_of_ble_eq_true rfl, Nat.le_of_ble_eq_true rfl⟩ ⟨Nat.zero_le _, Nat.zero_le _⟩ rfl rfl hl.1 (Nat.le_of_ble_eq_true rfl) dX3_riderGoesOn_92) I (fun H locs I => ?_)
          refine lv_iconst (v := 1) hx hb dX3_riderGoesOn_95 (by decide) ?_
          refine lv_iadd hx hb dX3_riderGoesOn_96 ?_
          refine lv_iload_n hx hb dX3_riderGoesOn_97 rfl (lv_at hl 4 rfl) ?_
          obtain ⟨y45, hy45, hD⟩ := bd_s hD
          refine r_calli (r_runS (As := [.int y3, .int (y41 + (1 : Int32)), .int p3]) (rest := []) X I (c_X3_isDigit l g q _ σ y3 (y41 + (1 : Int32)) p3 hy45) ks_X3_isDigit ml_X3_25 ⟨Nat.le_of_ble_eq_true rfl, Nat.le_of_ble_eq_true rfl⟩ ⟨Nat.zero_le _, Nat.zero_le _⟩ rfl rfl hl.1 (Nat.le_of_ble_eq_true rfl) dX3_riderGoesOn_98) I (fun H locs I => ?_)
          obtain ⟨hg46, hD⟩ := gd_s hD
          exact r_zret X I hD hg46 dX3_riderGoesOn_101
        · have hD := ite_n hc34 hD
          by_cases hc47 : p2 = (4 : Int32)
          · have hD := ite_p hc47 hD
            refine lv_tableIn (off := 94) (tgt := 102) hx hb dX3_riderGoesOn_8 (by rw [hc47]; decide) (by rw [hc47]; decide) (by rw [hc47]; rfl) (by decide) ?_
            refine lv_iload hx hb dX3_riderGoesOn_102 (lv_at hl 0 rfl) ?_
            refine lv_iconst (v := 0) hx hb dX3_riderGoesOn_104 (by decide) ?_
            refine lv_bipush (v := 7) hx hb dX3_riderGoesOn_105 (by decide) ?_
            obtain ⟨y51, hy51, hD⟩ := bd_s hD
            refine r_calli (r_runS (As := [.int y3, .int (0 : Int32), .int (7 : Int32)]) (rest := []) X I (c_X3_isDigit l g q _ σ y3 (0 : Int32) (7 : Int32) hy51) ks_X3_isDigit ml_X3_25 ⟨Nat.le_of_ble_eq_true rfl, Nat.le_of_ble_eq_true rfl⟩ ⟨Nat.zero_le _, Nat.zero_le _⟩ rfl rfl hl.1 (Nat.le_of_ble_eq_true rfl) dX3_riderGoesOn_107) I (fun H locs I => ?_)
            obtain ⟨hg52, hD⟩ := gd_s hD
            exact r_zret X I hD hg52 dX3_riderGoesOn_110
          · have hD := ite_n hc47 hD
            have ho7 := ne_toInt hc7 (a := 0) (by decide)
            have ho16 := ne_toInt hc16 (a := 1) (by decide)
            have ho26 := ne_toInt hc26 (a := 2) (by decide)
            have ho34 := ne_toInt hc34 (a := 3) (by decide)
            have ho47 := ne_toInt hc47 (a := 4) (by decide)
            refine lv_tableOut (tgt := 111) hx hb dX3_riderGoesOn_8 (by omega) (by decide) ?_
            refine lv_iload hx hb dX3_riderGoesOn_111 (lv_at hl 0 rfl) ?_
            refine lv_iconst (v := 0) hx hb dX3_riderGoesOn_113 (by decide) ?_
            refine lv_bipush (v := 9) hx hb dX3_riderGoesOn_114 (by decide) ?_
            obtain ⟨y56, hy56, hD⟩ := bd_s hD
            refine r_calli (r_runS (As := [.int y3, .int (0 : Int32), .int (9 : Int32)]) (rest := []) X I (c_X3_isDigit l g q _ σ y3 (0 : Int32) (9 : Int32) hy56) ks_X3_isDigit ml_X3_25 ⟨Nat.le_of_ble_eq_true rfl, Nat.le_of_ble_eq_true rfl⟩ ⟨Nat.zero_le _, Nat.zero_le _⟩ rfl rfl hl.1 (Nat.le_of_ble_eq_true rfl) dX3_riderGoesOn_116) I (fun H locs I => ?_)
            obtain ⟨hg57, hD⟩ := gd_s hD
            exact r_zret X I hD hg57 dX3_riderGoesOn_119

/-! YearDeck$RideText.goesOn(LYearDeck$Sheet;III)Z -/
def D_X3_goesOn (σ : St) (p0 : Nat) (p1 : Int32) (p2 : Int32) (p3 : Int32) : Option Int32 := (D_X5_at σ p0 (p1 + p2)).bind fun y5 => if p2 = (0 : Int32) then if y5 = (117 : Int32) then some (1 : Int32) else some (0 : Int32) else if p2 = (1 : Int32) then (D_X3_isDigit σ y5 (0 : Int32) (3 : Int32)).bind fun y22 => gd (isB y22) (some y22) else if p2 = (2 : Int32) then if y5 = (44 : Int32) then some (1 : Int32) else some (0 : Int32) else if ((3 : Int32) + p3) ≤ p2 then if p3 = 0 then some (0 : Int32) else if ((p2 - (3 : Int32)) - p3) < (32 : Int32) then (D_X3_riderGoesOn σ p0 (p1 + p2) (((p2 - (3 : Int32)) - p3) - ((p2 - (3 : Int32)) - p3) / (8 : Int32) * (8 : Int32)) p3).bind fun y59 => gd (isB y59) (some y59) else some (0 : Int32) else some (1 : Int32)
set_option maxRecDepth 100000 in
set_option maxHeartbeats 4000000 in
theorem c_X3_goesOn (l : Launch) (g : Gh) (q : Nat → Nat) (sz : Nat) (σ : St) (p0 : Nat) (p1 : Int32) (p2 : Int32) (p3 : Int32) (kp0 : kSh p0) {rr : Int32} (hD : D_X3_goesOn σ p0 p1 p2 p3 = some rr) : Met l yX3_goesOn (wU yX3_goesOn cX3_goesOn 6 (some .boolean)) (rmD 3) (PQ g (eC g q) q 23 σ sz [.ref (q p0), .int p1, .int p2, .int p3]) (QI g (eC g q) q 23 rr σ sz) 0 0 (AQ q 23 sz) := by
  refine met_of (Qc := QI g (eC g q) q 23 rr σ) (by decide) (Nat.le_of_ble_eq_true rfl) ?_
  intro p e s m below meth c ls X I hl
  have hx := X.1
  have hb := X.2.1
  have hl : lv_has ls 6 [(0, .ref (q p0)), (1, .int p1), (2, .int p2), (3, .int p3)] := hl
  unfold D_X3_goesOn at hD
  refine lv_aload_n hx hb dX3_goesOn_0 rfl (lv_at hl 0 rfl) ?_
  refine lv_iload_n hx hb dX3_goesOn_1 rfl (lv_at hl 1 rfl) ?_
  refine lv_iload_n hx hb dX3_goesOn_2 rfl (lv_at hl 2 rfl) ?_
  refine lv_iadd hx hb dX3_goesOn_3 ?_
  obtain ⟨y5, hy5, hD⟩ := bd_s hD
  refine r_calli (r_runV (As := [.int (p1 + p2)]) (rest := []) X I (c_X5_at l g q _ σ p0 (p1 + p2) kp0 hy5) kv_X5_at ml_X3_19 rfl (kSh_lt kp0) (eC_Sheet g q _ kp0) ⟨Nat.le_of_ble_eq_true rfl, Nat.le_of_ble_eq_true rfl⟩ ⟨Nat.zero_le _, Nat.zero_le _⟩ rfl rfl hl.1 (Nat.le_of_ble_eq_true rfl) dX3_goesOn_4) I (fun H locs I => ?_)
  refine lv_istore (lv' := [(4, .int y5), (0, .ref (q p0)), (1, .int p1), (2, .int p2), (3, .int p3)]) hx hb dX3_goesOn_7 hl (by decide) rfl (fun ls hl => ?_)
  refine lv_iload_n hx hb dX3_goesOn_9 rfl (lv_at hl 3 rfl) ?_
  by_cases hc9 : p2 = (0 : Int32)
  · have hD := ite_p hc9 hD
    refine lv_tableIn (off := 26) (tgt := 36) hx hb dX3_goesOn_10 (by rw [hc9]; decide) (by rw [hc9]; decide) (by rw [hc9]; rfl) (by decide) ?_
    refine lv_iload hx hb dX3_goesOn_36 (lv_at hl 0 rfl) ?_
    refine lv_bipush (v := 117) hx hb dX3_goesOn_38 (by decide) ?_
    refine lv_icmp_ne (tgt := 47) hx hb dX3_goesOn_40 (by decide) (fun hc12 => ?_) (fun hc12 => ?_)
    · have hD := ite_n hc12 hD
      refine lv_iconst (v := 0) hx hb dX3_goesOn_47 (by decide) ?_
      exact r_zret X I hD rfl dX3_goesOn_48
    · have hD := ite_p hc12 hD
      refine lv_iconst (v := 1) hx hb dX3_goesOn_43 (by decide) ?_
      refine lv_goto (tgt := 48) hx hb dX3_goesOn_44 (by decide) ?_
      exact r_zret X I hD rfl dX3_goesOn_48
  · have hD := ite_n hc9 hD
    by_cases hc18 : p2 = (1 : Int32)
    · have hD := ite_p hc18 hD
      refine lv_tableIn (off := 39) (tgt := 49) hx hb dX3_goesOn_10 (by rw [hc18]; decide) (by rw [hc18]; decide) (by rw [hc18]; rfl) (by decide) ?_
      refine lv_iload hx hb dX3_goesOn_49 (lv_at hl 0 rfl) ?_
      refine lv_iconst (v := 0) hx hb dX3_goesOn_51 (by decide) ?_
      refine lv_iconst (v := 3) hx hb dX3_goesOn_52 (by decide) ?_
      obtain ⟨y22, hy22, hD⟩ := bd_s hD
      refine r_calli (r_runS (As := [.int y5, .int (0 : Int32), .int (3 : Int32)]) (rest := []) X I (c_X3_isDigit l g q _ σ y5 (0 : Int32) (3 : Int32) hy22) ks_X3_isDigit ml_X3_25 ⟨Nat.le_of_ble_eq_true rfl, Nat.le_of_ble_eq_true rfl⟩ ⟨Nat.zero_le _, Nat.zero_le _⟩ rfl rfl hl.1 (Nat.le_of_ble_eq_true rfl) dX3_goesOn_53) I (fun H locs I => ?_)
      obtain ⟨hg23, hD⟩ := gd_s hD
      exact r_zret X I hD hg23 dX3_goesOn_56
    · have hD := ite_n hc18 hD
      by_cases hc24 : p2 = (2 : Int32)
      · have hD := ite_p hc24 hD
        refine lv_tableIn (off := 47) (tgt := 57) hx hb dX3_goesOn_10 (by rw [hc24]; decide) (by rw [hc24]; decide) (by rw [hc24]; rfl) (by decide) ?_
        refine lv_iload hx hb dX3_goesOn_57 (lv_at hl 0 rfl) ?_
        refine lv_bipush (v := 44) hx hb dX3_goesOn_59 (by decide) ?_
        refine lv_icmp_ne (tgt := 68) hx hb dX3_goesOn_61 (by decide) (fun hc27 => ?_) (fun hc27 => ?_)
        · have hD := ite_n hc27 hD
          refine lv_iconst (v := 0) hx hb dX3_goesOn_68 (by decide) ?_
          exact r_zret X I hD rfl dX3_goesOn_69
        · have hD := ite_p hc27 hD
          refine lv_iconst (v := 1) hx hb dX3_goesOn_64 (by decide) ?_
          refine lv_goto (tgt := 69) hx hb dX3_goesOn_65 (by decide) ?_
          exact r_zret X I hD rfl dX3_goesOn_69
      · have hD := ite_n hc24 hD
        have ho9 := ne_toInt hc9 (a := 0) (by decide)
        have ho18 := ne_toInt hc18 (a := 1) (by decide)
        have ho24 := ne_toInt hc24 (a := 2) (by decide)
        refine lv_tableOut (tgt := 70) hx hb dX3_goesOn_10 (by omega) (by decide) ?_
        refine lv_iload_n hx hb dX3_goesOn_70 rfl (lv_at hl 3 rfl) ?_
        refine lv_iconst (v := 3) hx hb dX3_goesOn_71 (by decide) ?_
        refine lv_iload_n hx hb dX3_goesOn_72 rfl (lv_at hl 4 rfl) ?_
        refine lv_iadd hx hb dX3_goesOn_73 ?_
        refine lv_icmp_ge (tgt := 79) hx hb dX3_goesOn_74 (by decide) (fun hc37 => ?_) (fun hc37 => ?_)
        · have hD := ite_p hc37 hD
          refine lv_iload_n hx hb dX3_goesOn_79 rfl (lv_at hl 3 rfl) ?_
          refine lv_iconst (v := 3) hx hb dX3_goesOn_80 (by decide) ?_
          refine lv_isub hx hb dX3_goesOn_81 ?_
          refine lv_iload_n hx hb dX3_goesOn_82 rfl (lv_at hl 4 rfl) ?_
          refine lv_isub hx hb dX3_goesOn_83 ?_
          refine lv_istore (lv' := [(5, .int ((p2 - (3 : Int32)) - p3)), (4, .int y5), (0, .ref (q p0)), (1, .int p1), (2, .int p2), (3, .int p3)]) hx hb dX3_goesOn_84 hl (by decide) rfl (fun ls hl => ?_)
          refine lv_iload_n hx hb dX3_goesOn_86 rfl (lv_at hl 5 rfl) ?_
          refine lv_if_eq (tgt := 97) hx hb dX3_goesOn_87 (by decide) (fun hc45 => ?_) (fun hc45 => ?_)
          · have hD := ite_p hc45 hD
            refine lv_iconst (v := 0) hx hb dX3_goesOn_97 (by decide) ?_
            exact r_zret X I hD rfl dX3_goesOn_98
          · have hD := ite_n hc45 hD
            refine lv_iload hx hb dX3_goesOn_90 (lv_at hl 0 rfl) ?_
            refine lv_bipush (v := 32) hx hb dX3_goesOn_92 (by decide) ?_
            refine lv_icmp_lt (tgt := 99) hx hb dX3_goesOn_94 (by decide) (fun hc50 => ?_) (fun hc50 => ?_)
            · have hD := ite_p hc50 hD
              refine lv_aload_n hx hb dX3_goesOn_99 rfl (lv_at hl 2 rfl) ?_
              refine lv_iload_n hx hb dX3_goesOn_100 rfl (lv_at hl 3 rfl) ?_
              refine lv_iload_n hx hb dX3_goesOn_101 rfl (lv_at hl 4 rfl) ?_
              refine lv_iadd hx hb dX3_goesOn_102 ?_
              refine lv_iload hx hb dX3_goesOn_103 (lv_at hl 0 rfl) ?_
              refine lv_bipush (v := 8) hx hb dX3_goesOn_105 (by decide) ?_
              refine lv_irem hx hb dX3_goesOn_107 (by decide) ?_
              refine lv_iload_n hx hb dX3_goesOn_108 rfl (lv_at hl 5 rfl) ?_
              obtain ⟨y59, hy59, hD⟩ := bd_s hD
              refine r_calli (r_runS (As := [.ref (q p0), .int (p1 + p2), .int (((p2 - (3 : Int32)) - p3) - ((p2 - (3 : Int32)) - p3) / (8 : Int32) * (8 : Int32)), .int p3]) (rest := []) X I (c_X3_riderGoesOn l g q _ σ p0 (p1 + p2) (((p2 - (3 : Int32)) - p3) - ((p2 - (3 : Int32)) - p3) / (8 : Int32) * (8 : Int32)) p3 kp0 hy59) ks_X3_riderGoesOn ml_X3_29 ⟨Nat.le_of_ble_eq_true rfl, Nat.le_of_ble_eq_true rfl⟩ ⟨Nat.zero_le _, Nat.zero_le _⟩ rfl rfl hl.1 (Nat.le_of_ble_eq_true rfl) dX3_goesOn_109) I (fun H locs I => ?_)
              obtain ⟨hg60, hD⟩ := gd_s hD
              exact r_zret X I hD hg60 dX3_goesOn_112
            · have hD := ite_n hc50 hD
              refine lv_iconst (v := 0) hx hb dX3_goesOn_97 (by decide) ?_
              exact r_zret X I hD rfl dX3_goesOn_98
        · have hD := ite_n hc37 hD
          refine lv_iconst (v := 1) hx hb dX3_goesOn_77 (by decide) ?_
          exact r_zret X I hD rfl dX3_goesOn_78

/-! YearDeck$RideText.firstFault(LYearDeck$Sheet;II)I -/
def D_X3_firstFault_65 (σ : St) (v2 : Int32) (t0 : Int32) : Option Int32 := if t0 = 0 then some v2 else some (-9 : Int32)
set_option maxRecDepth 100000 in
set_option maxHeartbeats 4000000 in
theorem w_X3_firstFault_65 {p : Program} {l : Launch} {e : Env} {s : State} {m : MethodId} {args : Array Value} {below : List Frame} {meth : Method} {c : Code} (g : Gh) (q : Nat → Nat) (X : MX p s m args meth c cX3_firstFault 6 (some .int) RX3) {rr : Int32} (σ : St)  (v2 : Int32) (t0 : Int32) (hD : D_X3_firstFault_65 σ v2 t0 = some rr) (H : Heap) (locs : List Loc) (ls : Array Slot) (I : IC g q s σ H locs) (hl : lv_has ls 6 [(2, .int v2)]) : W p l e (rmD 4) s m args below meth c H locs 0 0 (MQ below (QI g (eC g q) q 23 rr σ s.heap.size) args s 0 0 (AQ q 23 s.heap.size)) (F0 m 65 ls [.int t0]) := by
  have hx := X.1
  have hb := X.2.1
  unfold D_X3_firstFault_65 at hD
  refine lv_istore (lv' := [(5, .int t0), (2, .int v2)]) hx hb dX3_firstFault_65 hl (by decide) rfl (fun ls hl => ?_)
  refine lv_iload hx hb dX3_firstFault_67 (lv_at hl 0 rfl) ?_
  refine lv_if_eq (tgt := 77) hx hb dX3_firstFault_69 (by decide) (fun hc40 => ?_) (fun hc40 => ?_)
  · have hD := ite_p hc40 hD
    refine lv_iload_n hx hb dX3_firstFault_77 rfl (lv_at hl 1 rfl) ?_
    exact r_iret X I hD dX3_firstFault_78
  · have hD := ite_n hc40 hD
    refine lv_bipush (v := -9) hx hb dX3_firstFault_72 (by decide) ?_
    refine lv_goto (tgt := 78) hx hb dX3_firstFault_74 (by decide) ?_
    exact r_iret X I hD dX3_firstFault_78
def D_X3_firstFault_64 (σ : St) (v2 : Int32) : Option Int32 := D_X3_firstFault_65 σ v2 (0 : Int32)
set_option maxRecDepth 100000 in
set_option maxHeartbeats 4000000 in
theorem w_X3_firstFault_64 {p : Program} {l : Launch} {e : Env} {s : State} {m : MethodId} {args : Array Value} {below : List Frame} {meth : Method} {c : Code} (g : Gh) (q : Nat → Nat) (X : MX p s m args meth c cX3_firstFault 6 (some .int) RX3) {rr : Int32} (σ : St)  (v2 : Int32) (hD : D_X3_firstFault_64 σ v2 = some rr) (H : Heap) (locs : List Loc) (ls : Array Slot) (I : IC g q s σ H locs) (hl : lv_has ls 6 [(2, .int v2)]) : W p l e (rmD 4) s m args below meth c H locs 0 0 (MQ below (QI g (eC g q) q 23 rr σ s.heap.size) args s 0 0 (AQ q 23 s.heap.size)) (F0 m 64 ls []) := by
  have hx := X.1
  have hb := X.2.1
  unfold D_X3_firstFault_64 at hD
  refine lv_iconst (v := 0) hx hb dX3_firstFault_64 (by decide) ?_
  exact w_X3_firstFault_65 g q X σ v2 (0 : Int32) hD _ _ _ I (lv_sub hl [0] rfl)
def D_X3_firstFault_36 (σ : St) (v2 : Int32) (v3 : Int32) : Option Int32 := if v3 ≤ 0 then D_X3_firstFault_64 σ v2 else if ((v2 - (3 : Int32)) - v3) ≤ 0 then D_X3_firstFault_64 σ v2 else if (((v2 - (3 : Int32)) - v3) - ((v2 - (3 : Int32)) - v3) / (8 : Int32) * (8 : Int32)) = 0 then D_X3_firstFault_65 σ v2 (1 : Int32) else D_X3_firstFault_64 σ v2
set_option maxRecDepth 100000 in
set_option maxHeartbeats 4000000 in
theorem w_X3_firstFault_36 {p : Program} {l : Launch} {e : Env} {s : State} {m : MethodId} {args : Array Value} {below : List Frame} {meth : Method} {c : Code} (g : Gh) (q : Nat → Nat) (X : MX p s m args meth c cX3_firstFault 6 (some .int) RX3) {rr : Int32} (σ : St)  (v2 : Int32) (v3 : Int32) (hD : D_X3_firstFault_36 σ v2 v3 = some rr) (H : Heap) (locs : List Loc) (ls : Array Slot) (I : IC g q s σ H locs) (hl : lv_has ls 6 [(2, .int v2), (3, .int v3)]) : W p l e (rmD 4) s m args below meth c H locs 0 0 (MQ below (QI g (eC g q) q 23 rr σ s.heap.size) args s 0 0 (AQ q 23 s.heap.size)) (F0 m 36 ls []) := by
  have hx := X.1
  have hb := X.2.1
  unfold D_X3_firstFault_36 at hD
  refine lv_iload_n hx hb dX3_firstFault_36 rfl (lv_at hl 0 rfl) ?_
  refine lv_iconst (v := 3) hx hb dX3_firstFault_37 (by decide) ?_
  refine lv_isub hx hb dX3_firstFault_38 ?_
  refine lv_iload_n hx hb dX3_firstFault_39 rfl (lv_at hl 1 rfl) ?_
  refine lv_isub hx hb dX3_firstFault_40 ?_
  refine lv_istore (lv' := [(4, .int ((v2 - (3 : Int32)) - v3)), (2, .int v2), (3, .int v3)]) hx hb dX3_firstFault_41 hl (by decide) rfl (fun ls hl => ?_)
  refine lv_iload_n hx hb dX3_firstFault_43 rfl (lv_at hl 2 rfl) ?_
  refine lv_if_le (tgt := 64) hx hb dX3_firstFault_44 (by decide) (fun hc28 => ?_) (fun hc28 => ?_)
  · have hD := ite_p hc28 hD
    exact w_X3_firstFault_64 g q X σ v2 hD _ _ _ I (lv_sub hl [1] rfl)
  · have hD := ite_n hc28 hD
    refine lv_iload hx hb dX3_firstFault_47 (lv_at hl 0 rfl) ?_
    refine lv_if_le (tgt := 64) hx hb dX3_firstFault_49 (by decide) (fun hc30 => ?_) (fun hc30 => ?_)
    · have hD := ite_p hc30 hD
      exact w_X3_firstFault_64 g q X σ v2 hD _ _ _ I (lv_sub hl [1] rfl)
    · have hD := ite_n hc30 hD
      refine lv_iload hx hb dX3_firstFault_52 (lv_at hl 0 rfl) ?_
      refine lv_bipush (v := 8) hx hb dX3_firstFault_54 (by decide) ?_
      refine lv_irem hx hb dX3_firstFault_56 (by decide) ?_
      refine lv_if_ne (tgt := 64) hx hb dX3_firstFault_57 (by decide) (fun hc34 => ?_) (fun hc34 => ?_)
      · have hD := ite_n hc34 hD
        exact w_X3_firstFault_64 g q X σ v2 hD _ _ _ I (lv_sub hl [1] rfl)
      · have hD := ite_p hc34 hD
        refine lv_iconst (v := 1) hx hb dX3_firstFault_60 (by decide) ?_
        refine lv_goto (tgt := 65) hx hb dX3_firstFault_61 (by decide) ?_
        exact w_X3_firstFault_65 g q X σ v2 (1 : Int32) hD _ _ _ I (lv_sub hl [1] rfl)
def D_X3_firstFault_10b (σ : St) (rc10 : Int32 → Option Int32) (v0 : Nat) (v1 : Int32) (v2 : Int32) (v3 : Int32) (v4 : Int32) : Option Int32 := if v2 ≤ v4 then D_X3_firstFault_36 σ v2 v3 else (D_X3_goesOn σ v0 v1 v4 v3).bind fun y15 => if y15 = 0 then some v4 else rc10 (v4 + (1 : Int32))
set_option maxRecDepth 100000 in
set_option maxHeartbeats 4000000 in
theorem w_X3_firstFault_10b {p : Program} {l : Launch} {e : Env} {s : State} {m : MethodId} {args : Array Value} {below : List Frame} {meth : Method} {c : Code} (g : Gh) (q : Nat → Nat) (X : MX p s m args meth c cX3_firstFault 6 (some .int) RX3) {rr : Int32} (σ : St)  (v0 : Nat) (v1 : Int32) (v2 : Int32) (v3 : Int32) (v4 : Int32) (kv0 : kSh v0) (rc10 : Int32 → Option Int32) (hrc10 : ∀ (v4' : Int32), rc10 v4' = some rr → ∀ (H : Heap) (locs : List Loc) (ls : Array Slot), IC g q s σ H locs → lv_has ls 6 [(0, .ref (q v0)), (1, .int v1), (2, .int v2), (3, .int v3), (4, .int v4')] → W p l e (rmD 4) s m args below meth c H locs 0 0 (MQ below (QI g (eC g q) q 23 rr σ s.heap.size) args s 0 0 (AQ q 23 s.heap.size)) (F0 m 10 ls [])) (hD : D_X3_firstFault_10b σ rc10 v0 v1 v2 v3 v4 = some rr) (H : Heap) (locs : List Loc) (ls : Array Slot) (I : IC g q s σ H locs) (hl : lv_has ls 6 [(0, .ref (q v0)), (1, .int v1), (2, .int v2), (3, .int v3), (4, .int v4)]) : W p l e (rmD 4) s m args below meth c H locs 0 0 (MQ below (QI g (eC g q) q 23 rr σ s.heap.size) args s 0 0 (AQ q 23 s.heap.size)) (F0 m 10 ls []) := by
  have hx := X.1
  have hb := X.2.1
  unfold D_X3_firstFault_10b at hD
  refine lv_iload hx hb dX3_firstFault_10 (lv_at hl 4 rfl) ?_
  refine lv_iload_n hx hb dX3_firstFault_12 rfl (lv_at hl 2 rfl) ?_
  refine lv_icmp_ge (tgt := 36) hx hb dX3_firstFault_13 (by decide) (fun hc10 => ?_) (fun hc10 => ?_)
  · have hD := ite_p hc10 hD
    exact w_X3_firstFault_36 g q X σ v2 v3 hD _ _ _ I (lv_sub hl [2, 3] rfl)
  · have hD := ite_n hc10 hD
    refine lv_aload_n hx hb dX3_firstFault_16 rfl (lv_at hl 0 rfl) ?_
    refine lv_iload_n hx hb dX3_firstFault_17 rfl (lv_at hl 1 rfl) ?_
    refine lv_iload hx hb dX3_firstFault_18 (lv_at hl 4 rfl) ?_
    refine lv_iload_n hx hb dX3_firstFault_20 rfl (lv_at hl 3 rfl) ?_
    obtain ⟨y15, hy15, hD⟩ := bd_s hD
    refine r_calli (r_runS (As := [.ref (q v0), .int v1, .int v4, .int v3]) (rest := []) X I (c_X3_goesOn l g q _ σ v0 v1 v4 v3 kv0 hy15) ks_X3_goesOn ml_X3_15 ⟨Nat.le_of_ble_eq_true rfl, Nat.le_of_ble_eq_true rfl⟩ ⟨Nat.zero_le _, Nat.zero_le _⟩ rfl rfl hl.1 (Nat.le_of_ble_eq_true rfl) dX3_firstFault_21) I (fun H locs I => ?_)
    refine lv_if_ne (tgt := 30) hx hb dX3_firstFault_24 (by decide) (fun hc16 => ?_) (fun hc16 => ?_)
    · have hD := ite_n hc16 hD
      refine lv_iinc (v := v4 + (1 : Int32)) (lv' := [(4, .int (v4 + (1 : Int32))), (0, .ref (q v0)), (1, .int v1), (2, .int v2), (3, .int v3)]) hx hb dX3_firstFault_30 hl (k := 4) rfl rfl (by decide) rfl (fun ls hl => ?_)
      refine lv_goto (tgt := 10) hx hb dX3_firstFault_33 (by decide) ?_
      exact hrc10 (v4 + (1 : Int32)) hD _ _ _ I (lv_sub hl [1, 2, 3, 4, 0] rfl)
    · have hD := ite_p hc16 hD
      refine lv_iload hx hb dX3_firstFault_27 (lv_at hl 4 rfl) ?_
      exact r_iret X I hD dX3_firstFault_29
def D_X3_firstFault_10 (σ : St) (v0 : Nat) (v1 : Int32) (v2 : Int32) (v3 : Int32) : Nat → Int32 → Option Int32
  | 0 => fun _ => none
  | n + 1 => fun v4 => D_X3_firstFault_10b σ (D_X3_firstFault_10 σ v0 v1 v2 v3 n) v0 v1 v2 v3 v4
set_option maxRecDepth 100000 in
set_option maxHeartbeats 4000000 in
theorem w_X3_firstFault_10 {p : Program} {l : Launch} {e : Env} {s : State} {m : MethodId} {args : Array Value} {below : List Frame} {meth : Method} {c : Code} (g : Gh) (q : Nat → Nat) (X : MX p s m args meth c cX3_firstFault 6 (some .int) RX3) {rr : Int32} (σ : St)  (v0 : Nat) (v1 : Int32) (v2 : Int32) (v3 : Int32) (kv0 : kSh v0) : ∀ (n : Nat) (v4 : Int32), D_X3_firstFault_10 σ v0 v1 v2 v3 n v4 = some rr → ∀ (H : Heap) (locs : List Loc) (ls : Array Slot), IC g q s σ H locs → lv_has ls 6 [(0, .ref (q v0)), (1, .int v1), (2, .int v2), (3, .int v3), (4, .int v4)] → W p l e (rmD 4) s m args below meth c H locs 0 0 (MQ below (QI g (eC g q) q 23 rr σ s.heap.size) args s 0 0 (AQ q 23 s.heap.size)) (F0 m 10 ls []) := by
  intro n
  induction n with
  | zero =>
    intro v4 hD H locs ls I hl
    cases hD
  | succ n ih =>
    intro v4 hD H locs ls I hl
    exact w_X3_firstFault_10b g q X σ v0 v1 v2 v3 v4 kv0 _ ih hD H locs ls I hl
def D_X3_firstFault (σ : St) (p0 : Nat) (p1 : Int32) (p2 : Int32) : Option Int32 := (D_X3_sectionsTold σ p0 p1 p2).bind fun y4 => D_X3_firstFault_10 σ p0 p1 p2 y4 FU (0 : Int32)
set_option maxRecDepth 100000 in
set_option maxHeartbeats 4000000 in
theorem c_X3_firstFault (l : Launch) (g : Gh) (q : Nat → Nat) (sz : Nat) (σ : St) (p0 : Nat) (p1 : Int32) (p2 : Int32) (kp0 : kSh p0) {rr : Int32} (hD : D_X3_firstFault σ p0 p1 p2 = some rr) : Met l yX3_firstFault (wU yX3_firstFault cX3_firstFault 6 (some .int)) (rmD 4) (PQ g (eC g q) q 23 σ sz [.ref (q p0), .int p1, .int p2]) (QI g (eC g q) q 23 rr σ sz) 0 0 (AQ q 23 sz) := by
  refine met_of (Qc := QI g (eC g q) q 23 rr σ) (by decide) (Nat.le_of_ble_eq_true rfl) ?_
  intro p e s m below meth c ls X I hl
  have hx := X.1
  have hb := X.2.1
  have hl : lv_has ls 6 [(0, .ref (q p0)), (1, .int p1), (2, .int p2)] := hl
  unfold D_X3_firstFault at hD
  refine lv_aload_n hx hb dX3_firstFault_0 rfl (lv_at hl 0 rfl) ?_
  refine lv_iload_n hx hb dX3_firstFault_1 rfl (lv_at hl 1 rfl) ?_
  refine lv_iload_n hx hb dX3_firstFault_2 rfl (lv_at hl 2 rfl) ?_
  obtain ⟨y4, hy4, hD⟩ := bd_s hD
  refine r_calli (r_runS (As := [.ref (q p0), .int p1, .int p2]) (rest := []) X I (c_X3_sectionsTold l g q _ σ p0 p1 p2 kp0 hy4) ks_X3_sectionsTold ml_X3_9 ⟨Nat.le_of_ble_eq_true rfl, Nat.le_of_ble_eq_true rfl⟩ ⟨Nat.zero_le _, Nat.zero_le _⟩ rfl rfl hl.1 (Nat.le_of_ble_eq_true rfl) dX3_firstFault_3) I (fun H locs I => ?_)
  refine lv_istore_n (lv' := [(3, .int y4), (0, .ref (q p0)), (1, .int p1), (2, .int p2)]) hx hb dX3_firstFault_6 rfl hl (by decide) rfl (fun ls hl => ?_)
  refine lv_iconst (v := 0) hx hb dX3_firstFault_7 (by decide) ?_
  refine lv_istore (lv' := [(4, .int (0 : Int32)), (3, .int y4), (0, .ref (q p0)), (1, .int p1), (2, .int p2)]) hx hb dX3_firstFault_8 hl (by decide) rfl (fun ls hl => ?_)
  exact w_X3_firstFault_10 g q X σ p0 p1 p2 y4 kp0 FU (0 : Int32) hD _ _ _ I (lv_sub hl [2, 3, 4, 1, 0] rfl)
end
section
/-! YearDeck$Readings.append(III)V -/
def D_X1_append (σ : St) (p1 : Int32) (p2 : Int32) (p3 : Int32) : Option St := if (8 : Int32) ≤ (σ 9 3) then some σ else gd (inb (σ 9 3) 8) (gd (inb ((up2 σ 10 (σ 9 3).toNatClampNeg p1) 9 3) 8) (gd (inb ((up2 (up2 σ 10 (σ 9 3).toNatClampNeg p1) 11 ((up2 σ 10 (σ 9 3).toNatClampNeg p1) 9 3).toNatClampNeg p2) 9 3) 8) (some (up2 (up2 (up2 (up2 σ 10 (σ 9 3).toNatClampNeg p1) 11 ((up2 σ 10 (σ 9 3).toNatClampNeg p1) 9 3).toNatClampNeg p2) 12 ((up2 (up2 σ 10 (σ 9 3).toNatClampNeg p1) 11 ((up2 σ 10 (σ 9 3).toNatClampNeg p1) 9 3).toNatClampNeg p2) 9 3).toNatClampNeg p3) 9 3 (((up2 (up2 (up2 σ 10 (σ 9 3).toNatClampNeg p1) 11 ((up2 σ 10 (σ 9 3).toNatClampNeg p1) 9 3).toNatClampNeg p2) 12 ((up2 (up2 σ 10 (σ 9 3).toNatClampNeg p1) 11 ((up2 σ 10 (σ 9 3).toNatClampNeg p1) 9 3).toNatClampNeg p2) 9 3).toNatClampNeg p3) 9 3) + (1 : Int32))))))
set_option maxRecDepth 100000 in
set_option maxHeartbeats 4000000 in
theorem c_X1_append (l : Launch) (g : Gh) (q : Nat → Nat) (sz : Nat) (σ : St) (p1 : Int32) (p2 : Int32) (p3 : Int32) {rr : St} (hD : D_X1_append σ p1 p2 p3 = some rr) : Met l yX1_append (wU yX1_append cX1_append 4 none) (rmD 0) (PQ g (eC g q) q 23 σ sz [.ref (q 9), .int p1, .int p2, .int p3]) (QV g (eC g q) q 23 rr sz) 0 0 (AQ q 23 sz) := by
  refine met_of (Qc := QV g (eC g q) q 23 rr) (by decide) (Nat.le_of_ble_eq_true rfl) ?_
  intro p e s m below meth c ls X I hl
  have hx := X.1
  have hb := X.2.1
  have hl : lv_has ls 4 [(0, .ref (q 9)), (1, .int p1), (2, .int p2), (3, .int p3)] := hl
  unfold D_X1_append at hD
  refine lv_aload_n hx hb dX1_append_0 rfl (lv_at hl 0 rfl) ?_
  refine g_Readings_count X I fl_X1_21 dX1_append_1 ?_
  refine lv_bipush (v := 8) hx hb dX1_append_4 (by decide) ?_
  refine lv_icmp_ge (tgt := 49) hx hb dX1_append_6 (by decide) (fun hc4 => ?_) (fun hc4 => ?_)
  · have hD := ite_p hc4 hD
    exact r_vret X I hD dX1_append_49
  · have hD := ite_n hc4 hD
    refine lv_aload_n hx hb dX1_append_9 rfl (lv_at hl 0 rfl) ?_
    refine g_Readings_who X I fl_X1_9 dX1_append_10 ?_
    refine lv_aload_n hx hb dX1_append_13 rfl (lv_at hl 0 rfl) ?_
    refine g_Readings_count X I fl_X1_21 dX1_append_14 ?_
    refine lv_iload_n hx hb dX1_append_17 rfl (lv_at hl 1 rfl) ?_
    obtain ⟨hg11, hD⟩ := gd_s hD
    refine r_iast (eC_loc g q) X I (by decide) (eCa_10 g q) hg11 dX1_append_18 (fun H locs I => ?_)
    refine lv_aload_n hx hb dX1_append_19 rfl (lv_at hl 0 rfl) ?_
    refine g_Readings_sets X I fl_X1_15 dX1_append_20 ?_
    refine lv_aload_n hx hb dX1_append_23 rfl (lv_at hl 0 rfl) ?_
    refine g_Readings_count X I fl_X1_21 dX1_append_24 ?_
    refine lv_iload_n hx hb dX1_append_27 rfl (lv_at hl 2 rfl) ?_
    obtain ⟨hg17, hD⟩ := gd_s hD
    refine r_iast (eC_loc g q) X I (by decide) (eCa_11 g q) hg17 dX1_append_28 (fun H locs I => ?_)
    refine lv_aload_n hx hb dX1_append_29 rfl (lv_at hl 0 rfl) ?_
    refine g_Readings_years X I fl_X1_18 dX1_append_30 ?_
    refine lv_aload_n hx hb dX1_append_33 rfl (lv_at hl 0 rfl) ?_
    refine g_Readings_count X I fl_X1_21 dX1_append_34 ?_
    refine lv_iload_n hx hb dX1_append_37 rfl (lv_at hl 3 rfl) ?_
    obtain ⟨hg23, hD⟩ := gd_s hD
    refine r_iast (eC_loc g q) X I (by decide) (eCa_12 g q) hg23 dX1_append_38 (fun H locs I => ?_)
    refine lv_aload_n hx hb dX1_append_39 rfl (lv_at hl 0 rfl) ?_
    refine lv_dup hx hb dX1_append_40 rfl ?_
    refine g_Readings_count X I fl_X1_21 dX1_append_41 ?_
    refine lv_iconst (v := 1) hx hb dX1_append_44 (by decide) ?_
    refine lv_iadd hx hb dX1_append_45 ?_
    refine p_Readings_count X I fl_X1_21 dX1_append_46 (fun H locs I => ?_)
    exact r_vret X I hD dX1_append_49

/-! YearDeck$Ride.yearsOff(LYearDeck$Rider;I)I -/
def D_X2_yearsOff_41 (σ : St) (rc8 : Int32 → Int32 → Option Int32) (v1 : Nat) (v2 : Int32) (v3 : Int32) (v4 : Int32) : Option Int32 := rc8 v3 (v4 + (1 : Int32))
set_option maxRecDepth 100000 in
set_option maxHeartbeats 4000000 in
theorem w_X2_yearsOff_41 {p : Program} {l : Launch} {e : Env} {s : State} {m : MethodId} {args : Array Value} {below : List Frame} {meth : Method} {c : Code} (g : Gh) (q : Nat → Nat) (X : MX p s m args meth c cX2_yearsOff 5 (some .int) RX2) {rr : Int32} (σ : St)  (v1 : Nat) (v2 : Int32) (v3 : Int32) (v4 : Int32) (kv1 : kRi v1) (rc8 : Int32 → Int32 → Option Int32) (hrc8 : ∀ (v3' : Int32) (v4' : Int32), rc8 v3' v4' = some rr → ∀ (H : Heap) (locs : List Loc) (ls : Array Slot), IC g q s σ H locs → lv_has ls 5 [(0, .ref (q 1)), (1, .ref (q v1)), (2, .int v2), (3, .int v3'), (4, .int v4')] → W p l e (rmD 1) s m args below meth c H locs 0 0 (MQ below (QI g (eC g q) q 23 rr σ s.heap.size) args s 0 0 (AQ q 23 s.heap.size)) (F0 m 8 ls [])) (hD : D_X2_yearsOff_41 σ rc8 v1 v2 v3 v4 = some rr) (H : Heap) (locs : List Loc) (ls : Array Slot) (I : IC g q s σ H locs) (hl : lv_has ls 5 [(0, .ref (q 1)), (1, .ref (q v1)), (2, .int v2), (3, .int v3), (4, .int v4)]) : W p l e (rmD 1) s m args below meth c H locs 0 0 (MQ below (QI g (eC g q) q 23 rr σ s.heap.size) args s 0 0 (AQ q 23 s.heap.size)) (F0 m 41 ls []) := by
  have hx := X.1
  have hb := X.2.1
  unfold D_X2_yearsOff_41 at hD
  refine lv_iinc (v := v4 + (1 : Int32)) (lv' := [(4, .int (v4 + (1 : Int32))), (0, .ref (q 1)), (1, .ref (q v1)), (2, .int v2), (3, .int v3)]) hx hb dX2_yearsOff_41 hl (k := 4) rfl rfl (by decide) rfl (fun ls hl => ?_)
  refine lv_goto (tgt := 8) hx hb dX2_yearsOff_44 (by decide) ?_
  exact hrc8 v3 (v4 + (1 : Int32)) hD _ _ _ I (lv_sub hl [1, 2, 3, 4, 0] rfl)
def D_X2_yearsOff_8b (σ : St) (rc8 : Int32 → Int32 → Option Int32) (v1 : Nat) (v2 : Int32) (v3 : Int32) (v4 : Int32) : Option Int32 := if (σ 1 4) ≤ v4 then some v3 else if ((v2 >>> (v4 &&& 31)) &&& (1 : Int32)) = (1 : Int32) then gd (inb v4 5) ((D_X4_yearsAbove σ v1 (σ 2 v4.toNatClampNeg)).bind fun y25 => D_X2_yearsOff_41 σ rc8 v1 v2 (v3 + y25) v4) else D_X2_yearsOff_41 σ rc8 v1 v2 v3 v4
set_option maxRecDepth 100000 in
set_option maxHeartbeats 4000000 in
theorem w_X2_yearsOff_8b {p : Program} {l : Launch} {e : Env} {s : State} {m : MethodId} {args : Array Value} {below : List Frame} {meth : Method} {c : Code} (g : Gh) (q : Nat → Nat) (X : MX p s m args meth c cX2_yearsOff 5 (some .int) RX2) {rr : Int32} (σ : St)  (v1 : Nat) (v2 : Int32) (v3 : Int32) (v4 : Int32) (kv1 : kRi v1) (rc8 : Int32 → Int32 → Option Int32) (hrc8 : ∀ (v3' : Int32) (v4' : Int32), rc8 v3' v4' = some rr → ∀ (H : Heap) (locs : List Loc) (ls : Array Slot), IC g q s σ H locs → lv_has ls 5 [(0, .ref (q 1)), (1, .ref (q v1)), (2, .int v2), (3, .int v3'), (4, .int v4')] → W p l e (rmD 1) s m args below meth c H locs 0 0 (MQ below (QI g (eC g q) q 23 rr σ s.heap.size) args s 0 0 (AQ q 23 s.heap.size)) (F0 m 8 ls [])) (hD : D_X2_yearsOff_8b σ rc8 v1 v2 v3 v4 = some rr) (H : Heap) (locs : List Loc) (ls : Array Slot) (I : IC g q s σ H locs) (hl : lv_has ls 5 [(0, .ref (q 1)), (1, .ref (q v1)), (2, .int v2), (3, .int v3), (4, .int v4)]) : W p l e (rmD 1) s m args below meth c H locs 0 0 (MQ below (QI g (eC g q) q 23 rr σ s.heap.size) args s 0 0 (AQ q 23 s.heap.size)) (F0 m 8 ls []) := by
  have hx := X.1
  have hb := X.2.1
  unfold D_X2_yearsOff_8b at hD
  refine lv_iload hx hb dX2_yearsOff_8 (lv_at hl 4 rfl) ?_
  refine lv_aload_n hx hb dX2_yearsOff_10 rfl (lv_at hl 0 rfl) ?_
  refine g_Ride_sections X I fl_X2_28 dX2_yearsOff_11 ?_
  refine lv_icmp_ge (tgt := 47) hx hb dX2_yearsOff_14 (by decide) (fun hc9 => ?_) (fun hc9 => ?_)
  · have hD := ite_p hc9 hD
    refine lv_iload_n hx hb dX2_yearsOff_47 rfl (lv_at hl 3 rfl) ?_
    exact r_iret X I hD dX2_yearsOff_48
  · have hD := ite_n hc9 hD
    refine lv_iload_n hx hb dX2_yearsOff_17 rfl (lv_at hl 2 rfl) ?_
    refine lv_iload hx hb dX2_yearsOff_18 (lv_at hl 4 rfl) ?_
    refine lv_ishr hx hb dX2_yearsOff_20 ?_
    refine lv_iconst (v := 1) hx hb dX2_yearsOff_21 (by decide) ?_
    refine lv_iand hx hb dX2_yearsOff_22 ?_
    refine lv_iconst (v := 1) hx hb dX2_yearsOff_23 (by decide) ?_
    refine lv_icmp_ne (tgt := 41) hx hb dX2_yearsOff_24 (by decide) (fun hc18 => ?_) (fun hc18 => ?_)
    · have hD := ite_n hc18 hD
      exact w_X2_yearsOff_41 g q X σ v1 v2 v3 v4 kv1 rc8 hrc8 hD _ _ _ I (lv_sub hl [0, 1, 2, 3, 4] rfl)
    · have hD := ite_p hc18 hD
      refine lv_iload_n hx hb dX2_yearsOff_27 rfl (lv_at hl 3 rfl) ?_
      refine lv_aload_n hx hb dX2_yearsOff_28 rfl (lv_at hl 1 rfl) ?_
      refine lv_aload_n hx hb dX2_yearsOff_29 rfl (lv_at hl 0 rfl) ?_
      refine g_Ride_steep X I fl_X2_9 dX2_yearsOff_30 ?_
      refine lv_iload hx hb dX2_yearsOff_33 (lv_at hl 4 rfl) ?_
      obtain ⟨hg24, hD⟩ := gd_s hD
      refine r_iald X I (by decide) ((eCa_2 g q) _) hg24 dX2_yearsOff_35 ?_
      obtain ⟨y25, hy25, hD⟩ := bd_s hD
      refine r_calli (r_runV (As := [.int (σ 2 v4.toNatClampNeg)]) (rest := [.int v3]) X I (c_X4_yearsAbove l g q _ σ v1 (σ 2 v4.toNatClampNeg) kv1 hy25) kv_X4_yearsAbove ml_X2_63 rfl (kRi_lt kv1) (eC_Rider g q _ kv1) ⟨Nat.le_of_ble_eq_true rfl, Nat.le_of_ble_eq_true rfl⟩ ⟨Nat.zero_le _, Nat.zero_le _⟩ rfl rfl hl.1 (Nat.le_of_ble_eq_true rfl) dX2_yearsOff_36) I (fun H locs I => ?_)
      refine lv_iadd hx hb dX2_yearsOff_39 ?_
      refine lv_istore_n (lv' := [(3, .int (v3 + y25)), (0, .ref (q 1)), (1, .ref (q v1)), (2, .int v2), (4, .int v4)]) hx hb dX2_yearsOff_40 rfl hl (by decide) rfl (fun ls hl => ?_)
      exact w_X2_yearsOff_41 g q X σ v1 v2 (v3 + y25) v4 kv1 rc8 hrc8 hD _ _ _ I (lv_sub hl [1, 2, 3, 0, 4] rfl)
def D_X2_yearsOff_8 (σ : St) (v1 : Nat) (v2 : Int32) : Nat → Int32 → Int32 → Option Int32
  | 0 => fun _ _ => none
  | n + 1 => fun v3 v4 => D_X2_yearsOff_8b σ (D_X2_yearsOff_8 σ v1 v2 n) v1 v2 v3 v4
set_option maxRecDepth 100000 in
set_option maxHeartbeats 4000000 in
theorem w_X2_yearsOff_8 {p : Program} {l : Launch} {e : Env} {s : State} {m : MethodId} {args : Array Value} {below : List Frame} {meth : Method} {c : Code} (g : Gh) (q : Nat → Nat) (X : MX p s m args meth c cX2_yearsOff 5 (some .int) RX2) {rr : Int32} (σ : St)  (v1 : Nat) (v2 : Int32) (kv1 : kRi v1) : ∀ (n : Nat) (v3 : Int32) (v4 : Int32), D_X2_yearsOff_8 σ v1 v2 n v3 v4 = some rr → ∀ (H : Heap) (locs : List Loc) (ls : Array Slot), IC g q s σ H locs → lv_has ls 5 [(0, .ref (q 1)), (1, .ref (q v1)), (2, .int v2), (3, .int v3), (4, .int v4)] → W p l e (rmD 1) s m args below meth c H locs 0 0 (MQ below (QI g (eC g q) q 23 rr σ s.heap.size) args s 0 0 (AQ q 23 s.heap.size)) (F0 m 8 ls []) := by
  intro n
  induction n with
  | zero =>
    intro v3 v4 hD H locs ls I hl
    cases hD
  | succ n ih =>
    intro v3 v4 hD H locs ls I hl
    exact w_X2_yearsOff_8b g q X σ v1 v2 v3 v4 kv1 _ ih hD H locs ls I hl
def D_X2_yearsOff (σ : St) (p1 : Nat) (p2 : Int32) : Option Int32 := D_X2_yearsOff_8 σ p1 p2 FU (σ p1 3) (0 : Int32)
set_option maxRecDepth 100000 in
set_option maxHeartbeats 4000000 in
theorem c_X2_yearsOff (l : Launch) (g : Gh) (q : Nat → Nat) (sz : Nat) (σ : St) (p1 : Nat) (p2 : Int32) (kp1 : kRi p1) {rr : Int32} (hD : D_X2_yearsOff σ p1 p2 = some rr) : Met l yX2_yearsOff (wU yX2_yearsOff cX2_yearsOff 5 (some .int)) (rmD 1) (PQ g (eC g q) q 23 σ sz [.ref (q 1), .ref (q p1), .int p2]) (QI g (eC g q) q 23 rr σ sz) 0 0 (AQ q 23 sz) := by
  refine met_of (Qc := QI g (eC g q) q 23 rr σ) (by decide) (Nat.le_of_ble_eq_true rfl) ?_
  intro p e s m below meth c ls X I hl
  have hx := X.1
  have hb := X.2.1
  have hl : lv_has ls 5 [(0, .ref (q 1)), (1, .ref (q p1)), (2, .int p2)] := hl
  unfold D_X2_yearsOff at hD
  refine lv_aload_n hx hb dX2_yearsOff_0 rfl (lv_at hl 1 rfl) ?_
  refine g_Rider_years X I kp1 fl_X2_60 dX2_yearsOff_1 ?_
  refine lv_istore_n (lv' := [(3, .int (σ p1 3)), (0, .ref (q 1)), (1, .ref (q p1)), (2, .int p2)]) hx hb dX2_yearsOff_4 rfl hl (by decide) rfl (fun ls hl => ?_)
  refine lv_iconst (v := 0) hx hb dX2_yearsOff_5 (by decide) ?_
  refine lv_istore (lv' := [(4, .int (0 : Int32)), (3, .int (σ p1 3)), (0, .ref (q 1)), (1, .ref (q p1)), (2, .int p2)]) hx hb dX2_yearsOff_6 hl (by decide) rfl (fun ls hl => ?_)
  exact w_X2_yearsOff_8 g q X σ p1 p2 kp1 FU (σ p1 3) (0 : Int32) hD _ _ _ I (lv_sub hl [2, 3, 4, 1, 0] rfl)

/-! YearDeck$Readings.allHold(LYearDeck$Ride;)Z -/
def D_X1_allHold_2b (σ : St) (rc2 : Int32 → Option Int32) (v2 : Int32) : Option Int32 := if (σ 9 3) ≤ v2 then some (1 : Int32) else gd (inb v2 8) (gd (inb (σ 10 v2.toNatClampNeg) 4) (gd (inb v2 8) ((D_X2_yearsOff σ (5 + (σ 10 v2.toNatClampNeg).toNatClampNeg) (σ 11 v2.toNatClampNeg)).bind fun y21 => gd (inb v2 8) (if y21 = (σ 12 v2.toNatClampNeg) then rc2 (v2 + (1 : Int32)) else some (0 : Int32)))))
set_option maxRecDepth 100000 in
set_option maxHeartbeats 4000000 in
theorem w_X1_allHold_2b {p : Program} {l : Launch} {e : Env} {s : State} {m : MethodId} {args : Array Value} {below : List Frame} {meth : Method} {c : Code} (g : Gh) (q : Nat → Nat) (X : MX p s m args meth c cX1_allHold 3 (some .boolean) RX1) {rr : Int32} (σ : St)  (v2 : Int32) (rc2 : Int32 → Option Int32) (hrc2 : ∀ (v2' : Int32), rc2 v2' = some rr → ∀ (H : Heap) (locs : List Loc) (ls : Array Slot), IC g q s σ H locs → lv_has ls 3 [(0, .ref (q 9)), (1, .ref (q 1)), (2, .int v2')] → W p l e (rmD 2) s m args below meth c H locs 0 0 (MQ below (QI g (eC g q) q 23 rr σ s.heap.size) args s 0 0 (AQ q 23 s.heap.size)) (F0 m 2 ls [])) (hD : D_X1_allHold_2b σ rc2 v2 = some rr) (H : Heap) (locs : List Loc) (ls : Array Slot) (I : IC g q s σ H locs) (hl : lv_has ls 3 [(0, .ref (q 9)), (1, .ref (q 1)), (2, .int v2)]) : W p l e (rmD 2) s m args below meth c H locs 0 0 (MQ below (QI g (eC g q) q 23 rr σ s.heap.size) args s 0 0 (AQ q 23 s.heap.size)) (F0 m 2 ls []) := by
  have hx := X.1
  have hb := X.2.1
  unfold D_X1_allHold_2b at hD
  refine lv_iload_n hx hb dX1_allHold_2 rfl (lv_at hl 2 rfl) ?_
  refine lv_aload_n hx hb dX1_allHold_3 rfl (lv_at hl 0 rfl) ?_
  refine g_Readings_count X I fl_X1_21 dX1_allHold_4 ?_
  refine lv_icmp_ge (tgt := 48) hx hb dX1_allHold_7 (by decide) (fun hc6 => ?_) (fun hc6 => ?_)
  · have hD := ite_p hc6 hD
    refine lv_iconst (v := 1) hx hb dX1_allHold_48 (by decide) ?_
    exact r_zret X I hD rfl dX1_allHold_49
  · have hD := ite_n hc6 hD
    refine lv_aload_n hx hb dX1_allHold_10 rfl (lv_at hl 1 rfl) ?_
    refine lv_aload_n hx hb dX1_allHold_11 rfl (lv_at hl 1 rfl) ?_
    refine g_Ride_riders X I fl_X1_25 dX1_allHold_12 ?_
    refine lv_aload_n hx hb dX1_allHold_15 rfl (lv_at hl 0 rfl) ?_
    refine g_Readings_who X I fl_X1_9 dX1_allHold_16 ?_
    refine lv_iload_n hx hb dX1_allHold_19 rfl (lv_at hl 2 rfl) ?_
    obtain ⟨hg15, hD⟩ := gd_s hD
    refine r_iald X I (by decide) ((eCa_10 g q) _) hg15 dX1_allHold_20 ?_
    obtain ⟨hg16, hD⟩ := gd_s hD
    refine r_aald (t0 := 2) X I (by decide) rfl (eCr_3 g q _) hg16 dX1_allHold_21 ?_
    refine lv_aload_n hx hb dX1_allHold_22 rfl (lv_at hl 0 rfl) ?_
    refine g_Readings_sets X I fl_X1_15 dX1_allHold_23 ?_
    refine lv_iload_n hx hb dX1_allHold_26 rfl (lv_at hl 2 rfl) ?_
    obtain ⟨hg20, hD⟩ := gd_s hD
    refine r_iald X I (by decide) ((eCa_11 g q) _) hg20 dX1_allHold_27 ?_
    obtain ⟨y21, hy21, hD⟩ := bd_s hD
    refine r_calli (r_runV (As := [.ref (q (5 + (σ 10 v2.toNatClampNeg).toNatClampNeg)), .int (σ 11 v2.toNatClampNeg)]) (rest := []) X I (c_X2_yearsOff l g q _ σ (5 + (σ 10 v2.toNatClampNeg).toNatClampNeg) (σ 11 v2.toNatClampNeg) (kRi_of hg16) hy21) kv_X2_yearsOff ml_X1_31 rfl (by decide) (eC_Ride g q _) ⟨Nat.le_of_ble_eq_true rfl, Nat.le_of_ble_eq_true rfl⟩ ⟨Nat.zero_le _, Nat.zero_le _⟩ rfl rfl hl.1 (Nat.le_of_ble_eq_true rfl) dX1_allHold_28) I (fun H locs I => ?_)
    refine lv_aload_n hx hb dX1_allHold_31 rfl (lv_at hl 0 rfl) ?_
    refine g_Readings_years X I fl_X1_18 dX1_allHold_32 ?_
    refine lv_iload_n hx hb dX1_allHold_35 rfl (lv_at hl 2 rfl) ?_
    obtain ⟨hg25, hD⟩ := gd_s hD
    refine r_iald X I (by decide) ((eCa_12 g q) _) hg25 dX1_allHold_36 ?_
    refine lv_icmp_eq (tgt := 42) hx hb dX1_allHold_37 (by decide) (fun hc26 => ?_) (fun hc26 => ?_)
    · have hD := ite_p hc26 hD
      refine lv_iinc (v := v2 + (1 : Int32)) (lv' := [(2, .int (v2 + (1 : Int32))), (0, .ref (q 9)), (1, .ref (q 1))]) hx hb dX1_allHold_42 hl (k := 2) rfl rfl (by decide) rfl (fun ls hl => ?_)
      refine lv_goto (tgt := 2) hx hb dX1_allHold_45 (by decide) ?_
      exact hrc2 (v2 + (1 : Int32)) hD _ _ _ I (lv_sub hl [1, 2, 0] rfl)
    · have hD := ite_n hc26 hD
      refine lv_iconst (v := 0) hx hb dX1_allHold_40 (by decide) ?_
      exact r_zret X I hD rfl dX1_allHold_41
def D_X1_allHold_2 (σ : St) : Nat → Int32 → Option Int32
  | 0 => fun _ => none
  | n + 1 => fun v2 => D_X1_allHold_2b σ (D_X1_allHold_2 σ n) v2
set_option maxRecDepth 100000 in
set_option maxHeartbeats 4000000 in
theorem w_X1_allHold_2 {p : Program} {l : Launch} {e : Env} {s : State} {m : MethodId} {args : Array Value} {below : List Frame} {meth : Method} {c : Code} (g : Gh) (q : Nat → Nat) (X : MX p s m args meth c cX1_allHold 3 (some .boolean) RX1) {rr : Int32} (σ : St)  : ∀ (n : Nat) (v2 : Int32), D_X1_allHold_2 σ n v2 = some rr → ∀ (H : Heap) (locs : List Loc) (ls : Array Slot), IC g q s σ H locs → lv_has ls 3 [(0, .ref (q 9)), (1, .ref (q 1)), (2, .int v2)] → W p l e (rmD 2) s m args below meth c H locs 0 0 (MQ below (QI g (eC g q) q 23 rr σ s.heap.size) args s 0 0 (AQ q 23 s.heap.size)) (F0 m 2 ls []) := by
  intro n
  induction n with
  | zero =>
    intro v2 hD H locs ls I hl
    cases hD
  | succ n ih =>
    intro v2 hD H locs ls I hl
    exact w_X1_allHold_2b g q X σ v2 _ ih hD H locs ls I hl
def D_X1_allHold (σ : St) : Option Int32 := D_X1_allHold_2 σ FU (0 : Int32)
set_option maxRecDepth 100000 in
set_option maxHeartbeats 4000000 in
theorem c_X1_allHold (l : Launch) (g : Gh) (q : Nat → Nat) (sz : Nat) (σ : St) {rr : Int32} (hD : D_X1_allHold σ = some rr) : Met l yX1_allHold (wU yX1_allHold cX1_allHold 3 (some .boolean)) (rmD 2) (PQ g (eC g q) q 23 σ sz [.ref (q 9), .ref (q 1)]) (QI g (eC g q) q 23 rr σ sz) 0 0 (AQ q 23 sz) := by
  refine met_of (Qc := QI g (eC g q) q 23 rr σ) (by decide) (Nat.le_of_ble_eq_true rfl) ?_
  intro p e s m below meth c ls X I hl
  have hx := X.1
  have hb := X.2.1
  have hl : lv_has ls 3 [(0, .ref (q 9)), (1, .ref (q 1))] := hl
  unfold D_X1_allHold at hD
  refine lv_iconst (v := 0) hx hb dX1_allHold_0 (by decide) ?_
  refine lv_istore_n (lv' := [(2, .int (0 : Int32)), (0, .ref (q 9)), (1, .ref (q 1))]) hx hb dX1_allHold_1 rfl hl (by decide) rfl (fun ls hl => ?_)
  exact w_X1_allHold_2 g q X σ FU (0 : Int32) hD _ _ _ I (lv_sub hl [1, 2, 0] rfl)

/-! YearDeck$Ride.isTold()Z -/
def D_X2_isTold (σ : St) : Option Int32 := if (σ 1 5) ≤ 0 then some (0 : Int32) else some (1 : Int32)
set_option maxRecDepth 100000 in
set_option maxHeartbeats 4000000 in
theorem c_X2_isTold (l : Launch) (g : Gh) (q : Nat → Nat) (sz : Nat) (σ : St) {rr : Int32} (hD : D_X2_isTold σ = some rr) : Met l yX2_isTold (wU yX2_isTold cX2_isTold 1 (some .boolean)) (rmD 0) (PQ g (eC g q) q 23 σ sz [.ref (q 1)]) (QI g (eC g q) q 23 rr σ sz) 0 0 (AQ q 23 sz) := by
  refine met_of (Qc := QI g (eC g q) q 23 rr σ) (by decide) (Nat.le_of_ble_eq_true rfl) ?_
  intro p e s m below meth c ls X I hl
  have hx := X.1
  have hb := X.2.1
  have hl : lv_has ls 1 [(0, .ref (q 1))] := hl
  unfold D_X2_isTold at hD
  refine lv_aload_n hx hb dX2_isTold_0 rfl (lv_at hl 0 rfl) ?_
  refine g_Ride_count X I fl_X2_31 dX2_isTold_1 ?_
  refine lv_if_le (tgt := 11) hx hb dX2_isTold_4 (by decide) (fun hc3 => ?_) (fun hc3 => ?_)
  · have hD := ite_p hc3 hD
    refine lv_iconst (v := 0) hx hb dX2_isTold_11 (by decide) ?_
    exact r_zret X I hD rfl dX2_isTold_12
  · have hD := ite_n hc3 hD
    refine lv_iconst (v := 1) hx hb dX2_isTold_7 (by decide) ?_
    refine lv_goto (tgt := 12) hx hb dX2_isTold_8 (by decide) ?_
    exact r_zret X I hD rfl dX2_isTold_12

/-! YearDeck$Ride.hasRider(I)Z -/
def D_X2_hasRider (σ : St) (p1 : Int32) : Option Int32 := if p1 < 0 then some (0 : Int32) else if (σ 1 5) ≤ p1 then some (0 : Int32) else some (1 : Int32)
set_option maxRecDepth 100000 in
set_option maxHeartbeats 4000000 in
theorem c_X2_hasRider (l : Launch) (g : Gh) (q : Nat → Nat) (sz : Nat) (σ : St) (p1 : Int32) {rr : Int32} (hD : D_X2_hasRider σ p1 = some rr) : Met l yX2_hasRider (wU yX2_hasRider cX2_hasRider 2 (some .boolean)) (rmD 0) (PQ g (eC g q) q 23 σ sz [.ref (q 1), .int p1]) (QI g (eC g q) q 23 rr σ sz) 0 0 (AQ q 23 sz) := by
  refine met_of (Qc := QI g (eC g q) q 23 rr σ) (by decide) (Nat.le_of_ble_eq_true rfl) ?_
  intro p e s m below meth c ls X I hl
  have hx := X.1
  have hb := X.2.1
  have hl : lv_has ls 2 [(0, .ref (q 1)), (1, .int p1)] := hl
  unfold D_X2_hasRider at hD
  refine lv_iload_n hx hb dX2_hasRider_0 rfl (lv_at hl 1 rfl) ?_
  refine lv_if_lt (tgt := 16) hx hb dX2_hasRider_1 (by decide) (fun hc2 => ?_) (fun hc2 => ?_)
  · have hD := ite_p hc2 hD
    refine lv_iconst (v := 0) hx hb dX2_hasRider_16 (by decide) ?_
    exact r_zret X I hD rfl dX2_hasRider_17
  · have hD := ite_n hc2 hD
    refine lv_iload_n hx hb dX2_hasRider_4 rfl (lv_at hl 1 rfl) ?_
    refine lv_aload_n hx hb dX2_hasRider_5 rfl (lv_at hl 0 rfl) ?_
    refine g_Ride_count X I fl_X2_31 dX2_hasRider_6 ?_
    refine lv_icmp_ge (tgt := 16) hx hb dX2_hasRider_9 (by decide) (fun hc8 => ?_) (fun hc8 => ?_)
    · have hD := ite_p hc8 hD
      refine lv_iconst (v := 0) hx hb dX2_hasRider_16 (by decide) ?_
      exact r_zret X I hD rfl dX2_hasRider_17
    · have hD := ite_n hc8 hD
      refine lv_iconst (v := 1) hx hb dX2_hasRider_12 (by decide) ?_
      refine lv_goto (tgt := 17) hx hb dX2_hasRider_13 (by decide) ?_
      exact r_zret X I hD rfl dX2_hasRider_17

/-! YearDeck$Ride.hasSection(I)Z -/
def D_X2_hasSection (σ : St) (p1 : Int32) : Option Int32 := if p1 < 0 then some (0 : Int32) else if (σ 1 4) ≤ p1 then some (0 : Int32) else some (1 : Int32)
set_option maxRecDepth 100000 in
set_option maxHeartbeats 4000000 in
theorem c_X2_hasSection (l : Launch) (g : Gh) (q : Nat → Nat) (sz : Nat) (σ : St) (p1 : Int32) {rr : Int32} (hD : D_X2_hasSection σ p1 = some rr) : Met l yX2_hasSection (wU yX2_hasSection cX2_hasSection 2 (some .boolean)) (rmD 0) (PQ g (eC g q) q 23 σ sz [.ref (q 1), .int p1]) (QI g (eC g q) q 23 rr σ sz) 0 0 (AQ q 23 sz) := by
  refine met_of (Qc := QI g (eC g q) q 23 rr σ) (by decide) (Nat.le_of_ble_eq_true rfl) ?_
  intro p e s m below meth c ls X I hl
  have hx := X.1
  have hb := X.2.1
  have hl : lv_has ls 2 [(0, .ref (q 1)), (1, .int p1)] := hl
  unfold D_X2_hasSection at hD
  refine lv_iload_n hx hb dX2_hasSection_0 rfl (lv_at hl 1 rfl) ?_
  refine lv_if_lt (tgt := 16) hx hb dX2_hasSection_1 (by decide) (fun hc2 => ?_) (fun hc2 => ?_)
  · have hD := ite_p hc2 hD
    refine lv_iconst (v := 0) hx hb dX2_hasSection_16 (by decide) ?_
    exact r_zret X I hD rfl dX2_hasSection_17
  · have hD := ite_n hc2 hD
    refine lv_iload_n hx hb dX2_hasSection_4 rfl (lv_at hl 1 rfl) ?_
    refine lv_aload_n hx hb dX2_hasSection_5 rfl (lv_at hl 0 rfl) ?_
    refine g_Ride_sections X I fl_X2_28 dX2_hasSection_6 ?_
    refine lv_icmp_ge (tgt := 16) hx hb dX2_hasSection_9 (by decide) (fun hc8 => ?_) (fun hc8 => ?_)
    · have hD := ite_p hc8 hD
      refine lv_iconst (v := 0) hx hb dX2_hasSection_16 (by decide) ?_
      exact r_zret X I hD rfl dX2_hasSection_17
    · have hD := ite_n hc8 hD
      refine lv_iconst (v := 1) hx hb dX2_hasSection_12 (by decide) ?_
      refine lv_goto (tgt := 17) hx hb dX2_hasSection_13 (by decide) ?_
      exact r_zret X I hD rfl dX2_hasSection_17

/-! YearDeck$Ride.board(LYearDeck$Sheet;II)V -/
def D_X2_board_88b (σ : St) (rc88 : St → Int32 → Option St) (v1 : Nat) (v2 : Int32) (v4 : Int32) (v5 : Int32) : Option St := if (σ 1 5) ≤ v5 then some σ else gd (inb v5 4) ((D_X4_board σ (5 + v5.toNatClampNeg) v1 ((v2 + v4) + ((8 : Int32) * v5))).bind fun y68 => rc88 y68 (v5 + (1 : Int32)))
set_option maxRecDepth 100000 in
set_option maxHeartbeats 4000000 in
theorem w_X2_board_88b {p : Program} {l : Launch} {e : Env} {s : State} {m : MethodId} {args : Array Value} {below : List Frame} {meth : Method} {c : Code} (g : Gh) (q : Nat → Nat) (X : MX p s m args meth c cX2_board 6 none RX2) {rr : St} (σ : St)  (v1 : Nat) (v2 : Int32) (v4 : Int32) (v5 : Int32) (kv1 : kSh v1) (rc88 : St → Int32 → Option St) (hrc88 : ∀ (σ' : St) (v5' : Int32), rc88 σ' v5' = some rr → ∀ (H : Heap) (locs : List Loc) (ls : Array Slot), IC g q s σ' H locs → lv_has ls 6 [(0, .ref (q 1)), (1, .ref (q v1)), (2, .int v2), (4, .int v4), (5, .int v5')] → W p l e (rmD 4) s m args below meth c H locs 0 0 (MQ below (QV g (eC g q) q 23 rr s.heap.size) args s 0 0 (AQ q 23 s.heap.size)) (F0 m 88 ls [])) (hD : D_X2_board_88b σ rc88 v1 v2 v4 v5 = some rr) (H : Heap) (locs : List Loc) (ls : Array Slot) (I : IC g q s σ H locs) (hl : lv_has ls 6 [(0, .ref (q 1)), (1, .ref (q v1)), (2, .int v2), (4, .int v4), (5, .int v5)]) : W p l e (rmD 4) s m args below meth c H locs 0 0 (MQ below (QV g (eC g q) q 23 rr s.heap.size) args s 0 0 (AQ q 23 s.heap.size)) (F0 m 88 ls []) := by
  have hx := X.1
  have hb := X.2.1
  unfold D_X2_board_88b at hD
  refine lv_iload hx hb dX2_board_88 (lv_at hl 4 rfl) ?_
  refine lv_aload_n hx hb dX2_board_90 rfl (lv_at hl 0 rfl) ?_
  refine g_Ride_count X I fl_X2_31 dX2_board_91 ?_
  refine lv_icmp_ge (tgt := 124) hx hb dX2_board_94 (by decide) (fun hc54 => ?_) (fun hc54 => ?_)
  · have hD := ite_p hc54 hD
    exact r_vret X I hD dX2_board_124
  · have hD := ite_n hc54 hD
    refine lv_aload_n hx hb dX2_board_97 rfl (lv_at hl 0 rfl) ?_
    refine g_Ride_riders X I fl_X2_17 dX2_board_98 ?_
    refine lv_iload hx hb dX2_board_101 (lv_at hl 4 rfl) ?_
    obtain ⟨hg59, hD⟩ := gd_s hD
    refine r_aald (t0 := 2) X I (by decide) rfl (eCr_3 g q _) hg59 dX2_board_103 ?_
    refine lv_aload_n hx hb dX2_board_104 rfl (lv_at hl 1 rfl) ?_
    refine lv_iload_n hx hb dX2_board_105 rfl (lv_at hl 2 rfl) ?_
    refine lv_iload hx hb dX2_board_106 (lv_at hl 3 rfl) ?_
    refine lv_iadd hx hb dX2_board_108 ?_
    refine lv_bipush (v := 8) hx hb dX2_board_109 (by decide) ?_
    refine lv_iload hx hb dX2_board_111 (lv_at hl 4 rfl) ?_
    refine lv_imul hx hb dX2_board_113 ?_
    refine lv_iadd hx hb dX2_board_114 ?_
    obtain ⟨y68, hy68, hD⟩ := bd_s hD
    refine r_callv (r_runV (As := [.ref (q v1), .int ((v2 + v4) + ((8 : Int32) * v5))]) (rest := []) X I (c_X4_board l g q _ σ (5 + v5.toNatClampNeg) v1 ((v2 + v4) + ((8 : Int32) * v5)) (kRi_of hg59) kv1 hy68) kv_X4_board ml_X2_56 rfl (kRi_lt (kRi_of hg59)) (eC_Rider g q _ (kRi_of hg59)) ⟨Nat.le_of_ble_eq_true rfl, Nat.le_of_ble_eq_true rfl⟩ ⟨Nat.zero_le _, Nat.zero_le _⟩ rfl rfl hl.1 (Nat.le_of_ble_eq_true rfl) dX2_board_115) I (fun H locs I => ?_)
    refine lv_iinc (v := v5 + (1 : Int32)) (lv' := [(5, .int (v5 + (1 : Int32))), (0, .ref (q 1)), (1, .ref (q v1)), (2, .int v2), (4, .int v4)]) hx hb dX2_board_118 hl (k := 4) rfl rfl (by decide) rfl (fun ls hl => ?_)
    refine lv_goto (tgt := 88) hx hb dX2_board_121 (by decide) ?_
    exact hrc88 y68 (v5 + (1 : Int32)) hD _ _ _ I (lv_sub hl [1, 2, 3, 4, 0] rfl)
def D_X2_board_88  (v1 : Nat) (v2 : Int32) (v4 : Int32) : Nat → St → Int32 → Option St
  | 0 => fun _ _ => none
  | n + 1 => fun σ v5 => D_X2_board_88b σ (D_X2_board_88 v1 v2 v4 n) v1 v2 v4 v5
set_option maxRecDepth 100000 in
set_option maxHeartbeats 4000000 in
theorem w_X2_board_88 {p : Program} {l : Launch} {e : Env} {s : State} {m : MethodId} {args : Array Value} {below : List Frame} {meth : Method} {c : Code} (g : Gh) (q : Nat → Nat) (X : MX p s m args meth c cX2_board 6 none RX2) {rr : St}  (v1 : Nat) (v2 : Int32) (v4 : Int32) (kv1 : kSh v1) : ∀ (n : Nat) (σ : St) (v5 : Int32), D_X2_board_88 v1 v2 v4 n σ v5 = some rr → ∀ (H : Heap) (locs : List Loc) (ls : Array Slot), IC g q s σ H locs → lv_has ls 6 [(0, .ref (q 1)), (1, .ref (q v1)), (2, .int v2), (4, .int v4), (5, .int v5)] → W p l e (rmD 4) s m args below meth c H locs 0 0 (MQ below (QV g (eC g q) q 23 rr s.heap.size) args s 0 0 (AQ q 23 s.heap.size)) (F0 m 88 ls []) := by
  intro n
  induction n with
  | zero =>
    intro σ v5 hD H locs ls I hl
    cases hD
  | succ n ih =>
    intro σ v5 hD H locs ls I hl
    exact w_X2_board_88b g q X σ v1 v2 v4 v5 kv1 _ ih hD H locs ls I hl
def D_X2_board_62 (σ : St) (v1 : Nat) (v2 : Int32) (v3 : Int32) : Option St := D_X2_board_88 v1 v2 ((3 : Int32) + (σ 1 4)) FU (up2 σ 1 5 (if ((v3 - ((3 : Int32) + (σ 1 4))) / (8 : Int32)) < (4 : Int32) then ((v3 - ((3 : Int32) + (σ 1 4))) / (8 : Int32)) else (4 : Int32))) (0 : Int32)
set_option maxRecDepth 100000 in
set_option maxHeartbeats 4000000 in
theorem w_X2_board_62 {p : Program} {l : Launch} {e : Env} {s : State} {m : MethodId} {args : Array Value} {below : List Frame} {meth : Method} {c : Code} (g : Gh) (q : Nat → Nat) (X : MX p s m args meth c cX2_board 6 none RX2) {rr : St} (σ : St)  (v1 : Nat) (v2 : Int32) (v3 : Int32) (kv1 : kSh v1) (hD : D_X2_board_62 σ v1 v2 v3 = some rr) (H : Heap) (locs : List Loc) (ls : Array Slot) (I : IC g q s σ H locs) (hl : lv_has ls 6 [(0, .ref (q 1)), (1, .ref (q v1)), (2, .int v2), (3, .int v3)]) : W p l e (rmD 4) s m args below meth c H locs 0 0 (MQ below (QV g (eC g q) q 23 rr s.heap.size) args s 0 0 (AQ q 23 s.heap.size)) (F0 m 62 ls []) := by
  have hx := X.1
  have hb := X.2.1
  unfold D_X2_board_62 at hD
  refine lv_iconst (v := 3) hx hb dX2_board_62 (by decide) ?_
  refine lv_aload_n hx hb dX2_board_63 rfl (lv_at hl 0 rfl) ?_
  refine g_Ride_sections X I fl_X2_28 dX2_board_64 ?_
  refine lv_iadd hx hb dX2_board_67 ?_
  refine lv_istore (lv' := [(4, .int ((3 : Int32) + (σ 1 4))), (0, .ref (q 1)), (1, .ref (q v1)), (2, .int v2), (3, .int v3)]) hx hb dX2_board_68 hl (by decide) rfl (fun ls hl => ?_)
  refine lv_aload_n hx hb dX2_board_70 rfl (lv_at hl 1 rfl) ?_
  refine lv_iconst (v := 4) hx hb dX2_board_71 (by decide) ?_
  refine lv_iload_n hx hb dX2_board_72 rfl (lv_at hl 4 rfl) ?_
  refine lv_iload hx hb dX2_board_73 (lv_at hl 0 rfl) ?_
  refine lv_isub hx hb dX2_board_75 ?_
  refine lv_bipush (v := 8) hx hb dX2_board_76 (by decide) ?_
  refine lv_idiv hx hb dX2_board_78 (by decide) ?_
  refine r_min X (Nat.le_of_ble_eq_true rfl) (Nat.le_of_ble_eq_true rfl) ⟨Nat.zero_le _, Nat.zero_le _⟩ hl.1 dX2_board_79 ?_
  refine p_Ride_count X I fl_X2_31 dX2_board_82 (fun H locs I => ?_)
  refine lv_iconst (v := 0) hx hb dX2_board_85 (by decide) ?_
  refine lv_istore (lv' := [(5, .int (0 : Int32)), (4, .int ((3 : Int32) + (σ 1 4))), (0, .ref (q 1)), (1, .ref (q v1)), (2, .int v2), (3, .int v3)]) hx hb dX2_board_86 hl (by decide) rfl (fun ls hl => ?_)
  exact w_X2_board_88 g q X v1 v2 ((3 : Int32) + (σ 1 4)) kv1 FU (up2 σ 1 5 (if ((v3 - ((3 : Int32) + (σ 1 4))) / (8 : Int32)) < (4 : Int32) then ((v3 - ((3 : Int32) + (σ 1 4))) / (8 : Int32)) else (4 : Int32))) (0 : Int32) hD _ _ _ I (lv_sub hl [2, 3, 4, 1, 0] rfl)
def D_X2_board_27b (σ : St) (rc27 : St → Int32 → Option St) (v1 : Nat) (v2 : Int32) (v3 : Int32) (v4 : Int32) : Option St := if (σ 1 4) ≤ v4 then D_X2_board_62 σ v1 v2 v3 else (D_X5_at σ v1 ((v2 + (3 : Int32)) + v4)).bind fun y30 => (D_X3_digit σ y30).bind fun y31 => gd (inb v4 5) (rc27 (up2 σ 2 v4.toNatClampNeg y31) (v4 + (1 : Int32)))
set_option maxRecDepth 100000 in
set_option maxHeartbeats 4000000 in
theorem w_X2_board_27b {p : Program} {l : Launch} {e : Env} {s : State} {m : MethodId} {args : Array Value} {below : List Frame} {meth : Method} {c : Code} (g : Gh) (q : Nat → Nat) (X : MX p s m args meth c cX2_board 6 none RX2) {rr : St} (σ : St)  (v1 : Nat) (v2 : Int32) (v3 : Int32) (v4 : Int32) (kv1 : kSh v1) (rc27 : St → Int32 → Option St) (hrc27 : ∀ (σ' : St) (v4' : Int32), rc27 σ' v4' = some rr → ∀ (H : Heap) (locs : List Loc) (ls : Array Slot), IC g q s σ' H locs → lv_has ls 6 [(0, .ref (q 1)), (1, .ref (q v1)), (2, .int v2), (3, .int v3), (4, .int v4')] → W p l e (rmD 4) s m args below meth c H locs 0 0 (MQ below (QV g (eC g q) q 23 rr s.heap.size) args s 0 0 (AQ q 23 s.heap.size)) (F0 m 27 ls [])) (hD : D_X2_board_27b σ rc27 v1 v2 v3 v4 = some rr) (H : Heap) (locs : List Loc) (ls : Array Slot) (I : IC g q s σ H locs) (hl : lv_has ls 6 [(0, .ref (q 1)), (1, .ref (q v1)), (2, .int v2), (3, .int v3), (4, .int v4)]) : W p l e (rmD 4) s m args below meth c H locs 0 0 (MQ below (QV g (eC g q) q 23 rr s.heap.size) args s 0 0 (AQ q 23 s.heap.size)) (F0 m 27 ls []) := by
  have hx := X.1
  have hb := X.2.1
  unfold D_X2_board_27b at hD
  refine lv_iload hx hb dX2_board_27 (lv_at hl 4 rfl) ?_
  refine lv_aload_n hx hb dX2_board_29 rfl (lv_at hl 0 rfl) ?_
  refine g_Ride_sections X I fl_X2_28 dX2_board_30 ?_
  refine lv_icmp_ge (tgt := 62) hx hb dX2_board_33 (by decide) (fun hc20 => ?_) (fun hc20 => ?_)
  · have hD := ite_p hc20 hD
    exact w_X2_board_62 g q X σ v1 v2 v3 kv1 hD _ _ _ I (lv_sub hl [0, 1, 2, 3] rfl)
  · have hD := ite_n hc20 hD
    refine lv_aload_n hx hb dX2_board_36 rfl (lv_at hl 0 rfl) ?_
    refine g_Ride_steep X I fl_X2_9 dX2_board_37 ?_
    refine lv_iload hx hb dX2_board_40 (lv_at hl 4 rfl) ?_
    refine lv_aload_n hx hb dX2_board_42 rfl (lv_at hl 1 rfl) ?_
    refine lv_iload_n hx hb dX2_board_43 rfl (lv_at hl 2 rfl) ?_
    refine lv_iconst (v := 3) hx hb dX2_board_44 (by decide) ?_
    refine lv_iadd hx hb dX2_board_45 ?_
    refine lv_iload hx hb dX2_board_46 (lv_at hl 4 rfl) ?_
    refine lv_iadd hx hb dX2_board_48 ?_
    obtain ⟨y30, hy30, hD⟩ := bd_s hD
    refine r_calli (r_runV (As := [.int ((v2 + (3 : Int32)) + v4)]) (rest := [.int v4, .ref (q 2)]) X I (c_X5_at l g q _ σ v1 ((v2 + (3 : Int32)) + v4) kv1 hy30) kv_X5_at ml_X2_35 rfl (kSh_lt kv1) (eC_Sheet g q _ kv1) ⟨Nat.le_of_ble_eq_true rfl, Nat.le_of_ble_eq_true rfl⟩ ⟨Nat.zero_le _, Nat.zero_le _⟩ rfl rfl hl.1 (Nat.le_of_ble_eq_true rfl) dX2_board_49) I (fun H locs I => ?_)
    obtain ⟨y31, hy31, hD⟩ := bd_s hD
    refine r_calli (r_runS (As := [.int y30]) (rest := [.int v4, .ref (q 2)]) X I (c_X3_digit l g q _ σ y30 hy31) ks_X3_digit ml_X2_41 ⟨Nat.le_of_ble_eq_true rfl, Nat.le_of_ble_eq_true rfl⟩ ⟨Nat.zero_le _, Nat.zero_le _⟩ rfl rfl hl.1 (Nat.le_of_ble_eq_true rfl) dX2_board_52) I (fun H locs I => ?_)
    obtain ⟨hg32, hD⟩ := gd_s hD
    refine r_iast (eC_loc g q) X I (by decide) (eCa_2 g q) hg32 dX2_board_55 (fun H locs I => ?_)
    refine lv_iinc (v := v4 + (1 : Int32)) (lv' := [(4, .int (v4 + (1 : Int32))), (0, .ref (q 1)), (1, .ref (q v1)), (2, .int v2), (3, .int v3)]) hx hb dX2_board_56 hl (k := 4) rfl rfl (by decide) rfl (fun ls hl => ?_)
    refine lv_goto (tgt := 27) hx hb dX2_board_59 (by decide) ?_
    exact hrc27 (up2 σ 2 v4.toNatClampNeg y31) (v4 + (1 : Int32)) hD _ _ _ I (lv_sub hl [1, 2, 3, 4, 0] rfl)
def D_X2_board_27  (v1 : Nat) (v2 : Int32) (v3 : Int32) : Nat → St → Int32 → Option St
  | 0 => fun _ _ => none
  | n + 1 => fun σ v4 => D_X2_board_27b σ (D_X2_board_27 v1 v2 v3 n) v1 v2 v3 v4
set_option maxRecDepth 100000 in
set_option maxHeartbeats 4000000 in
theorem w_X2_board_27 {p : Program} {l : Launch} {e : Env} {s : State} {m : MethodId} {args : Array Value} {below : List Frame} {meth : Method} {c : Code} (g : Gh) (q : Nat → Nat) (X : MX p s m args meth c cX2_board 6 none RX2) {rr : St}  (v1 : Nat) (v2 : Int32) (v3 : Int32) (kv1 : kSh v1) : ∀ (n : Nat) (σ : St) (v4 : Int32), D_X2_board_27 v1 v2 v3 n σ v4 = some rr → ∀ (H : Heap) (locs : List Loc) (ls : Array Slot), IC g q s σ H locs → lv_has ls 6 [(0, .ref (q 1)), (1, .ref (q v1)), (2, .int v2), (3, .int v3), (4, .int v4)] → W p l e (rmD 4) s m args below meth c H locs 0 0 (MQ below (QV g (eC g q) q 23 rr s.heap.size) args s 0 0 (AQ q 23 s.heap.size)) (F0 m 27 ls []) := by
  intro n
  induction n with
  | zero =>
    intro σ v4 hD H locs ls I hl
    cases hD
  | succ n ih =>
    intro σ v4 hD H locs ls I hl
    exact w_X2_board_27b g q X σ v1 v2 v3 v4 kv1 _ ih hD H locs ls I hl
def D_X2_board (σ : St) (p1 : Nat) (p2 : Int32) (p3 : Int32) : Option St := (D_X5_at σ p1 (p2 + (1 : Int32))).bind fun y6 => (D_X3_digit σ y6).bind fun y7 => (D_X3_sectionsTold (up2 σ 1 3 y7) p1 p2 p3).bind fun y13 => D_X2_board_27 p1 p2 p3 FU (up2 (up2 σ 1 3 y7) 1 4 y13) (0 : Int32)
set_option maxRecDepth 100000 in
set_option maxHeartbeats 4000000 in
theorem c_X2_board (l : Launch) (g : Gh) (q : Nat → Nat) (sz : Nat) (σ : St) (p1 : Nat) (p2 : Int32) (p3 : Int32) (kp1 : kSh p1) {rr : St} (hD : D_X2_board σ p1 p2 p3 = some rr) : Met l yX2_board (wU yX2_board cX2_board 6 none) (rmD 4) (PQ g (eC g q) q 23 σ sz [.ref (q 1), .ref (q p1), .int p2, .int p3]) (QV g (eC g q) q 23 rr sz) 0 0 (AQ q 23 sz) := by
  refine met_of (Qc := QV g (eC g q) q 23 rr) (by decide) (Nat.le_of_ble_eq_true rfl) ?_
  intro p e s m below meth c ls X I hl
  have hx := X.1
  have hb := X.2.1
  have hl : lv_has ls 6 [(0, .ref (q 1)), (1, .ref (q p1)), (2, .int p2), (3, .int p3)] := hl
  unfold D_X2_board at hD
  refine lv_aload_n hx hb dX2_board_0 rfl (lv_at hl 0 rfl) ?_
  refine lv_aload_n hx hb dX2_board_1 rfl (lv_at hl 1 rfl) ?_
  refine lv_iload_n hx hb dX2_board_2 rfl (lv_at hl 2 rfl) ?_
  refine lv_iconst (v := 1) hx hb dX2_board_3 (by decide) ?_
  refine lv_iadd hx hb dX2_board_4 ?_
  obtain ⟨y6, hy6, hD⟩ := bd_s hD
  refine r_calli (r_runV (As := [.int (p2 + (1 : Int32))]) (rest := [.ref (q 1)]) X I (c_X5_at l g q _ σ p1 (p2 + (1 : Int32)) kp1 hy6) kv_X5_at ml_X2_35 rfl (kSh_lt kp1) (eC_Sheet g q _ kp1) ⟨Nat.le_of_ble_eq_true rfl, Nat.le_of_ble_eq_true rfl⟩ ⟨Nat.zero_le _, Nat.zero_le _⟩ rfl rfl hl.1 (Nat.le_of_ble_eq_true rfl) dX2_board_5) I (fun H locs I => ?_)
  obtain ⟨y7, hy7, hD⟩ := bd_s hD
  refine r_calli (r_runS (As := [.int y6]) (rest := [.ref (q 1)]) X I (c_X3_digit l g q _ σ y6 hy7) ks_X3_digit ml_X2_41 ⟨Nat.le_of_ble_eq_true rfl, Nat.le_of_ble_eq_true rfl⟩ ⟨Nat.zero_le _, Nat.zero_le _⟩ rfl rfl hl.1 (Nat.le_of_ble_eq_true rfl) dX2_board_8) I (fun H locs I => ?_)
  refine p_Ride_seats X I fl_X2_24 dX2_board_11 (fun H locs I => ?_)
  refine lv_aload_n hx hb dX2_board_14 rfl (lv_at hl 0 rfl) ?_
  refine lv_aload_n hx hb dX2_board_15 rfl (lv_at hl 1 rfl) ?_
  refine lv_iload_n hx hb dX2_board_16 rfl (lv_at hl 2 rfl) ?_
  refine lv_iload_n hx hb dX2_board_17 rfl (lv_at hl 3 rfl) ?_
  obtain ⟨y13, hy13, hD⟩ := bd_s hD
  refine r_calli (r_runS (As := [.ref (q p1), .int p2, .int p3]) (rest := [.ref (q 1)]) X I (c_X3_sectionsTold l g q _ (up2 σ 1 3 y7) p1 p2 p3 kp1 hy13) ks_X3_sectionsTold ml_X2_46 ⟨Nat.le_of_ble_eq_true rfl, Nat.le_of_ble_eq_true rfl⟩ ⟨Nat.zero_le _, Nat.zero_le _⟩ rfl rfl hl.1 (Nat.le_of_ble_eq_true rfl) dX2_board_18) I (fun H locs I => ?_)
  refine p_Ride_sections X I fl_X2_28 dX2_board_21 (fun H locs I => ?_)
  refine lv_iconst (v := 0) hx hb dX2_board_24 (by decide) ?_
  refine lv_istore (lv' := [(4, .int (0 : Int32)), (0, .ref (q 1)), (1, .ref (q p1)), (2, .int p2), (3, .int p3)]) hx hb dX2_board_25 hl (by decide) rfl (fun ls hl => ?_)
  exact w_X2_board_27 g q X p1 p2 p3 kp1 FU (up2 (up2 σ 1 3 y7) 1 4 y13) (0 : Int32) hD _ _ _ I (lv_sub hl [1, 2, 3, 4, 0] rfl)

/-! YearDeck$Ride.isRight(LYearDeck$Rider;I)Z -/
def D_X2_isRight (σ : St) (p1 : Nat) (p2 : Int32) : Option Int32 := (D_X2_yearsOff σ p1 p2).bind fun y4 => if y4 = (σ p1 4) then some (1 : Int32) else some (0 : Int32)
set_option maxRecDepth 100000 in
set_option maxHeartbeats 4000000 in
theorem c_X2_isRight (l : Launch) (g : Gh) (q : Nat → Nat) (sz : Nat) (σ : St) (p1 : Nat) (p2 : Int32) (kp1 : kRi p1) {rr : Int32} (hD : D_X2_isRight σ p1 p2 = some rr) : Met l yX2_isRight (wU yX2_isRight cX2_isRight 3 (some .boolean)) (rmD 2) (PQ g (eC g q) q 23 σ sz [.ref (q 1), .ref (q p1), .int p2]) (QI g (eC g q) q 23 rr σ sz) 0 0 (AQ q 23 sz) := by
  refine met_of (Qc := QI g (eC g q) q 23 rr σ) (by decide) (Nat.le_of_ble_eq_true rfl) ?_
  intro p e s m below meth c ls X I hl
  have hx := X.1
  have hb := X.2.1
  have hl : lv_has ls 3 [(0, .ref (q 1)), (1, .ref (q p1)), (2, .int p2)] := hl
  unfold D_X2_isRight at hD
  refine lv_aload_n hx hb dX2_isRight_0 rfl (lv_at hl 0 rfl) ?_
  refine lv_aload_n hx hb dX2_isRight_1 rfl (lv_at hl 1 rfl) ?_
  refine lv_iload_n hx hb dX2_isRight_2 rfl (lv_at hl 2 rfl) ?_
  obtain ⟨y4, hy4, hD⟩ := bd_s hD
  refine r_calli (r_runV (As := [.ref (q p1), .int p2]) (rest := []) X I (c_X2_yearsOff l g q _ σ p1 p2 kp1 hy4) kv_X2_yearsOff ml_X2_66 rfl (by decide) (eC_Ride g q _) ⟨Nat.le_of_ble_eq_true rfl, Nat.le_of_ble_eq_true rfl⟩ ⟨Nat.zero_le _, Nat.zero_le _⟩ rfl rfl hl.1 (Nat.le_of_ble_eq_true rfl) dX2_isRight_3) I (fun H locs I => ?_)
  refine lv_aload_n hx hb dX2_isRight_6 rfl (lv_at hl 1 rfl) ?_
  refine g_Rider_want X I kp1 fl_X2_70 dX2_isRight_7 ?_
  refine lv_icmp_ne (tgt := 17) hx hb dX2_isRight_10 (by decide) (fun hc7 => ?_) (fun hc7 => ?_)
  · have hD := ite_n hc7 hD
    refine lv_iconst (v := 0) hx hb dX2_isRight_17 (by decide) ?_
    exact r_zret X I hD rfl dX2_isRight_18
  · have hD := ite_p hc7 hD
    refine lv_iconst (v := 1) hx hb dX2_isRight_13 (by decide) ?_
    refine lv_goto (tgt := 18) hx hb dX2_isRight_14 (by decide) ?_
    exact r_zret X I hD rfl dX2_isRight_18

/-! YearDeck$Ride.canSitAlone(LYearDeck$Rider;I)Z -/
def D_X2_canSitAlone (σ : St) (p1 : Nat) (p2 : Int32) : Option Int32 := (D_X4_owns σ p1 p2).bind fun y3 => if y3 = 0 then some (0 : Int32) else if p2 = 0 then some (1 : Int32) else if (σ 1 3) ≤ 0 then some (0 : Int32) else some (1 : Int32)
set_option maxRecDepth 100000 in
set_option maxHeartbeats 4000000 in
theorem c_X2_canSitAlone (l : Launch) (g : Gh) (q : Nat → Nat) (sz : Nat) (σ : St) (p1 : Nat) (p2 : Int32) (kp1 : kRi p1) {rr : Int32} (hD : D_X2_canSitAlone σ p1 p2 = some rr) : Met l yX2_canSitAlone (wU yX2_canSitAlone cX2_canSitAlone 3 (some .boolean)) (rmD 2) (PQ g (eC g q) q 23 σ sz [.ref (q 1), .ref (q p1), .int p2]) (QI g (eC g q) q 23 rr σ sz) 0 0 (AQ q 23 sz) := by
  refine met_of (Qc := QI g (eC g q) q 23 rr σ) (by decide) (Nat.le_of_ble_eq_true rfl) ?_
  intro p e s m below meth c ls X I hl
  have hx := X.1
  have hb := X.2.1
  have hl : lv_has ls 3 [(0, .ref (q 1)), (1, .ref (q p1)), (2, .int p2)] := hl
  unfold D_X2_canSitAlone at hD
  refine lv_aload_n hx hb dX2_canSitAlone_0 rfl (lv_at hl 1 rfl) ?_
  refine lv_iload_n hx hb dX2_canSitAlone_1 rfl (lv_at hl 2 rfl) ?_
  obtain ⟨y3, hy3, hD⟩ := bd_s hD
  refine r_calli (r_runV (As := [.int p2]) (rest := []) X I (c_X4_owns l g q _ σ p1 p2 kp1 hy3) kv_X4_owns ml_X2_73 rfl (kRi_lt kp1) (eC_Rider g q _ kp1) ⟨Nat.le_of_ble_eq_true rfl, Nat.le_of_ble_eq_true rfl⟩ ⟨Nat.zero_le _, Nat.zero_le _⟩ rfl rfl hl.1 (Nat.le_of_ble_eq_true rfl) dX2_canSitAlone_2) I (fun H locs I => ?_)
  refine lv_if_eq (tgt := 23) hx hb dX2_canSitAlone_5 (by decide) (fun hc4 => ?_) (fun hc4 => ?_)
  · have hD := ite_p hc4 hD
    refine lv_iconst (v := 0) hx hb dX2_canSitAlone_23 (by decide) ?_
    exact r_zret X I hD rfl dX2_canSitAlone_24
  · have hD := ite_n hc4 hD
    refine lv_iload_n hx hb dX2_canSitAlone_8 rfl (lv_at hl 2 rfl) ?_
    refine lv_if_eq (tgt := 19) hx hb dX2_canSitAlone_9 (by decide) (fun hc8 => ?_) (fun hc8 => ?_)
    · have hD := ite_p hc8 hD
      refine lv_iconst (v := 1) hx hb dX2_canSitAlone_19 (by decide) ?_
      refine lv_goto (tgt := 24) hx hb dX2_canSitAlone_20 (by decide) ?_
      exact r_zret X I hD rfl dX2_canSitAlone_24
    · have hD := ite_n hc8 hD
      refine lv_aload_n hx hb dX2_canSitAlone_12 rfl (lv_at hl 0 rfl) ?_
      refine g_Ride_seats X I fl_X2_24 dX2_canSitAlone_13 ?_
      refine lv_if_le (tgt := 23) hx hb dX2_canSitAlone_16 (by decide) (fun hc14 => ?_) (fun hc14 => ?_)
      · have hD := ite_p hc14 hD
        refine lv_iconst (v := 0) hx hb dX2_canSitAlone_23 (by decide) ?_
        exact r_zret X I hD rfl dX2_canSitAlone_24
      · have hD := ite_n hc14 hD
        refine lv_iconst (v := 1) hx hb dX2_canSitAlone_19 (by decide) ?_
        refine lv_goto (tgt := 24) hx hb dX2_canSitAlone_20 (by decide) ?_
        exact r_zret X I hD rfl dX2_canSitAlone_24

/-! YearDeck$Ride.firstOver(I)I -/
def D_X2_firstOver_2b (σ : St) (rc2 : Int32 → Option Int32) (v1 : Int32) (v2 : Int32) : Option Int32 := if (σ 1 4) ≤ v2 then some (-9 : Int32) else (D_X0_on σ v1 v2).bind fun y11 => if y11 ≤ (σ 1 3) then rc2 (v2 + (1 : Int32)) else some v2
set_option maxRecDepth 100000 in
set_option maxHeartbeats 4000000 in
theorem w_X2_firstOver_2b {p : Program} {l : Launch} {e : Env} {s : State} {m : MethodId} {args : Array Value} {below : List Frame} {meth : Method} {c : Code} (g : Gh) (q : Nat → Nat) (X : MX p s m args meth c cX2_firstOver 3 (some .int) RX2) {rr : Int32} (σ : St)  (v1 : Int32) (v2 : Int32) (rc2 : Int32 → Option Int32) (hrc2 : ∀ (v2' : Int32), rc2 v2' = some rr → ∀ (H : Heap) (locs : List Loc) (ls : Array Slot), IC g q s σ H locs → lv_has ls 3 [(0, .ref (q 1)), (1, .int v1), (2, .int v2')] → W p l e (rmD 1) s m args below meth c H locs 0 0 (MQ below (QI g (eC g q) q 23 rr σ s.heap.size) args s 0 0 (AQ q 23 s.heap.size)) (F0 m 2 ls [])) (hD : D_X2_firstOver_2b σ rc2 v1 v2 = some rr) (H : Heap) (locs : List Loc) (ls : Array Slot) (I : IC g q s σ H locs) (hl : lv_has ls 3 [(0, .ref (q 1)), (1, .int v1), (2, .int v2)]) : W p l e (rmD 1) s m args below meth c H locs 0 0 (MQ below (QI g (eC g q) q 23 rr σ s.heap.size) args s 0 0 (AQ q 23 s.heap.size)) (F0 m 2 ls []) := by
  have hx := X.1
  have hb := X.2.1
  unfold D_X2_firstOver_2b at hD
  refine lv_iload_n hx hb dX2_firstOver_2 rfl (lv_at hl 2 rfl) ?_
  refine lv_aload_n hx hb dX2_firstOver_3 rfl (lv_at hl 0 rfl) ?_
  refine g_Ride_sections X I fl_X2_28 dX2_firstOver_4 ?_
  refine lv_icmp_ge (tgt := 30) hx hb dX2_firstOver_7 (by decide) (fun hc6 => ?_) (fun hc6 => ?_)
  · have hD := ite_p hc6 hD
    refine lv_bipush (v := -9) hx hb dX2_firstOver_30 (by decide) ?_
    exact r_iret X I hD dX2_firstOver_32
  · have hD := ite_n hc6 hD
    refine lv_iload_n hx hb dX2_firstOver_10 rfl (lv_at hl 1 rfl) ?_
    refine lv_iload_n hx hb dX2_firstOver_11 rfl (lv_at hl 2 rfl) ?_
    obtain ⟨y11, hy11, hD⟩ := bd_s hD
    refine r_calli (r_runS (As := [.int v1, .int v2]) (rest := []) X I (c_X0_on l g q _ σ v1 v2 hy11) ks_X0_on ml_X2_77 ⟨Nat.le_of_ble_eq_true rfl, Nat.le_of_ble_eq_true rfl⟩ ⟨Nat.zero_le _, Nat.zero_le _⟩ rfl rfl hl.1 (Nat.le_of_ble_eq_true rfl) dX2_firstOver_12) I (fun H locs I => ?_)
    refine lv_aload_n hx hb dX2_firstOver_15 rfl (lv_at hl 0 rfl) ?_
    refine g_Ride_seats X I fl_X2_24 dX2_firstOver_16 ?_
    refine lv_icmp_le (tgt := 24) hx hb dX2_firstOver_19 (by decide) (fun hc14 => ?_) (fun hc14 => ?_)
    · have hD := ite_p hc14 hD
      refine lv_iinc (v := v2 + (1 : Int32)) (lv' := [(2, .int (v2 + (1 : Int32))), (0, .ref (q 1)), (1, .int v1)]) hx hb dX2_firstOver_24 hl (k := 2) rfl rfl (by decide) rfl (fun ls hl => ?_)
      refine lv_goto (tgt := 2) hx hb dX2_firstOver_27 (by decide) ?_
      exact hrc2 (v2 + (1 : Int32)) hD _ _ _ I (lv_sub hl [1, 2, 0] rfl)
    · have hD := ite_n hc14 hD
      refine lv_iload_n hx hb dX2_firstOver_22 rfl (lv_at hl 2 rfl) ?_
      exact r_iret X I hD dX2_firstOver_23
def D_X2_firstOver_2 (σ : St) (v1 : Int32) : Nat → Int32 → Option Int32
  | 0 => fun _ => none
  | n + 1 => fun v2 => D_X2_firstOver_2b σ (D_X2_firstOver_2 σ v1 n) v1 v2
set_option maxRecDepth 100000 in
set_option maxHeartbeats 4000000 in
theorem w_X2_firstOver_2 {p : Program} {l : Launch} {e : Env} {s : State} {m : MethodId} {args : Array Value} {below : List Frame} {meth : Method} {c : Code} (g : Gh) (q : Nat → Nat) (X : MX p s m args meth c cX2_firstOver 3 (some .int) RX2) {rr : Int32} (σ : St)  (v1 : Int32) : ∀ (n : Nat) (v2 : Int32), D_X2_firstOver_2 σ v1 n v2 = some rr → ∀ (H : Heap) (locs : List Loc) (ls : Array Slot), IC g q s σ H locs → lv_has ls 3 [(0, .ref (q 1)), (1, .int v1), (2, .int v2)] → W p l e (rmD 1) s m args below meth c H locs 0 0 (MQ below (QI g (eC g q) q 23 rr σ s.heap.size) args s 0 0 (AQ q 23 s.heap.size)) (F0 m 2 ls []) := by
  intro n
  induction n with
  | zero =>
    intro v2 hD H locs ls I hl
    cases hD
  | succ n ih =>
    intro v2 hD H locs ls I hl
    exact w_X2_firstOver_2b g q X σ v1 v2 _ ih hD H locs ls I hl
def D_X2_firstOver (σ : St) (p1 : Int32) : Option Int32 := D_X2_firstOver_2 σ p1 FU (0 : Int32)
set_option maxRecDepth 100000 in
set_option maxHeartbeats 4000000 in
theorem c_X2_firstOver (l : Launch) (g : Gh) (q : Nat → Nat) (sz : Nat) (σ : St) (p1 : Int32) {rr : Int32} (hD : D_X2_firstOver σ p1 = some rr) : Met l yX2_firstOver (wU yX2_firstOver cX2_firstOver 3 (some .int)) (rmD 1) (PQ g (eC g q) q 23 σ sz [.ref (q 1), .int p1]) (QI g (eC g q) q 23 rr σ sz) 0 0 (AQ q 23 sz) := by
  refine met_of (Qc := QI g (eC g q) q 23 rr σ) (by decide) (Nat.le_of_ble_eq_true rfl) ?_
  intro p e s m below meth c ls X I hl
  have hx := X.1
  have hb := X.2.1
  have hl : lv_has ls 3 [(0, .ref (q 1)), (1, .int p1)] := hl
  unfold D_X2_firstOver at hD
  refine lv_iconst (v := 0) hx hb dX2_firstOver_0 (by decide) ?_
  refine lv_istore_n (lv' := [(2, .int (0 : Int32)), (0, .ref (q 1)), (1, .int p1)]) hx hb dX2_firstOver_1 rfl hl (by decide) rfl (fun ls hl => ?_)
  exact w_X2_firstOver_2 g q X σ p1 FU (0 : Int32) hD _ _ _ I (lv_sub hl [1, 2, 0] rfl)

/-! YearDeck$Ride.bothAgree(LYearDeck$Rider;ILYearDeck$Rider;I)Z -/
def D_X2_bothAgree (σ : St) (p1 : Nat) (p2 : Int32) (p3 : Nat) (p4 : Int32) : Option Int32 := (D_X2_yearsOff σ p1 p2).bind fun y4 => (D_X2_yearsOff σ p3 p4).bind fun y8 => if y4 = y8 then (D_X0_of σ p2).bind fun y14 => (D_X0_of σ p4).bind fun y16 => (D_X2_firstOver σ (y14 + y16)).bind fun y18 => if y18 = (-9 : Int32) then some (1 : Int32) else some (0 : Int32) else some (0 : Int32)
set_option maxRecDepth 100000 in
set_option maxHeartbeats 4000000 in
theorem c_X2_bothAgree (l : Launch) (g : Gh) (q : Nat → Nat) (sz : Nat) (σ : St) (p1 : Nat) (p2 : Int32) (p3 : Nat) (p4 : Int32) (kp1 : kRi p1) (kp3 : kRi p3) {rr : Int32} (hD : D_X2_bothAgree σ p1 p2 p3 p4 = some rr) : Met l yX2_bothAgree (wU yX2_bothAgree cX2_bothAgree 5 (some .boolean)) (rmD 2) (PQ g (eC g q) q 23 σ sz [.ref (q 1), .ref (q p1), .int p2, .ref (q p3), .int p4]) (QI g (eC g q) q 23 rr σ sz) 0 0 (AQ q 23 sz) := by
  refine met_of (Qc := QI g (eC g q) q 23 rr σ) (by decide) (Nat.le_of_ble_eq_true rfl) ?_
  intro p e s m below meth c ls X I hl
  have hx := X.1
  have hb := X.2.1
  have hl : lv_has ls 5 [(0, .ref (q 1)), (1, .ref (q p1)), (2, .int p2), (3, .ref (q p3)), (4, .int p4)] := hl
  unfold D_X2_bothAgree at hD
  refine lv_aload_n hx hb dX2_bothAgree_0 rfl (lv_at hl 0 rfl) ?_
  refine lv_aload_n hx hb dX2_bothAgree_1 rfl (lv_at hl 1 rfl) ?_
  refine lv_iload_n hx hb dX2_bothAgree_2 rfl (lv_at hl 2 rfl) ?_
  obtain ⟨y4, hy4, hD⟩ := bd_s hD
  refine r_calli (r_runV (As := [.ref (q p1), .int p2]) (rest := []) X I (c_X2_yearsOff l g q _ σ p1 p2 kp1 hy4) kv_X2_yearsOff ml_X2_66 rfl (by decide) (eC_Ride g q _) ⟨Nat.le_of_ble_eq_true rfl, Nat.le_of_ble_eq_true rfl⟩ ⟨Nat.zero_le _, Nat.zero_le _⟩ rfl rfl hl.1 (Nat.le_of_ble_eq_true rfl) dX2_bothAgree_3) I (fun H locs I => ?_)
  refine lv_aload_n hx hb dX2_bothAgree_6 rfl (lv_at hl 0 rfl) ?_
  refine lv_aload_n hx hb dX2_bothAgree_7 rfl (lv_at hl 3 rfl) ?_
  refine lv_iload hx hb dX2_bothAgree_8 (lv_at hl 4 rfl) ?_
  obtain ⟨y8, hy8, hD⟩ := bd_s hD
  refine r_calli (r_runV (As := [.ref (q p3), .int p4]) (rest := [.int y4]) X I (c_X2_yearsOff l g q _ σ p3 p4 kp3 hy8) kv_X2_yearsOff ml_X2_66 rfl (by decide) (eC_Ride g q _) ⟨Nat.le_of_ble_eq_true rfl, Nat.le_of_ble_eq_true rfl⟩ ⟨Nat.zero_le _, Nat.zero_le _⟩ rfl rfl hl.1 (Nat.le_of_ble_eq_true rfl) dX2_bothAgree_10) I (fun H locs I => ?_)
  refine lv_icmp_ne (tgt := 39) hx hb dX2_bothAgree_13 (by decide) (fun hc9 => ?_) (fun hc9 => ?_)
  · have hD := ite_n hc9 hD
    refine lv_iconst (v := 0) hx hb dX2_bothAgree_39 (by decide) ?_
    exact r_zret X I hD rfl dX2_bothAgree_40
  · have hD := ite_p hc9 hD
    refine lv_aload_n hx hb dX2_bothAgree_16 rfl (lv_at hl 0 rfl) ?_
    refine lv_iload_n hx hb dX2_bothAgree_17 rfl (lv_at hl 2 rfl) ?_
    obtain ⟨y14, hy14, hD⟩ := bd_s hD
    refine r_calli (r_runS (As := [.int p2]) (rest := [.ref (q 1)]) X I (c_X0_of l g q _ σ p2 hy14) ks_X0_of ml_X2_95 ⟨Nat.le_of_ble_eq_true rfl, Nat.le_of_ble_eq_true rfl⟩ ⟨Nat.zero_le _, Nat.zero_le _⟩ rfl rfl hl.1 (Nat.le_of_ble_eq_true rfl) dX2_bothAgree_18) I (fun H locs I => ?_)
    refine lv_iload hx hb dX2_bothAgree_21 (lv_at hl 4 rfl) ?_
    obtain ⟨y16, hy16, hD⟩ := bd_s hD
    refine r_calli (r_runS (As := [.int p4]) (rest := [.int y14, .ref (q 1)]) X I (c_X0_of l g q _ σ p4 hy16) ks_X0_of ml_X2_95 ⟨Nat.le_of_ble_eq_true rfl, Nat.le_of_ble_eq_true rfl⟩ ⟨Nat.zero_le _, Nat.zero_le _⟩ rfl rfl hl.1 (Nat.le_of_ble_eq_true rfl) dX2_bothAgree_23) I (fun H locs I => ?_)
    refine lv_iadd hx hb dX2_bothAgree_26 ?_
    obtain ⟨y18, hy18, hD⟩ := bd_s hD
    refine r_calli (r_runV (As := [.int (y14 + y16)]) (rest := []) X I (c_X2_firstOver l g q _ σ (y14 + y16) hy18) kv_X2_firstOver ml_X2_98 rfl (by decide) (eC_Ride g q _) ⟨Nat.le_of_ble_eq_true rfl, Nat.le_of_ble_eq_true rfl⟩ ⟨Nat.zero_le _, Nat.zero_le _⟩ rfl rfl hl.1 (Nat.le_of_ble_eq_true rfl) dX2_bothAgree_27) I (fun H locs I => ?_)
    refine lv_bipush (v := -9) hx hb dX2_bothAgree_30 (by decide) ?_
    refine lv_icmp_ne (tgt := 39) hx hb dX2_bothAgree_32 (by decide) (fun hc20 => ?_) (fun hc20 => ?_)
    · have hD := ite_n hc20 hD
      refine lv_iconst (v := 0) hx hb dX2_bothAgree_39 (by decide) ?_
      exact r_zret X I hD rfl dX2_bothAgree_40
    · have hD := ite_p hc20 hD
      refine lv_iconst (v := 1) hx hb dX2_bothAgree_35 (by decide) ?_
      refine lv_goto (tgt := 40) hx hb dX2_bothAgree_36 (by decide) ?_
      exact r_zret X I hD rfl dX2_bothAgree_40

/-! YearDeck$Ride.agreeing(LYearDeck$Rider;LYearDeck$Rider;)I -/
def D_X2_agreeing_100 (σ : St) (rc10 : Int32 → Int32 → Int32 → Option Int32) (v1 : Nat) (v2 : Nat) (v3 : Int32) (v4 : Int32) (v5 : Int32) : Option Int32 := rc10 v3 v4 (v5 + (1 : Int32))
set_option maxRecDepth 100000 in
set_option maxHeartbeats 4000000 in
theorem w_X2_agreeing_100 {p : Program} {l : Launch} {e : Env} {s : State} {m : MethodId} {args : Array Value} {below : List Frame} {meth : Method} {c : Code} (g : Gh) (q : Nat → Nat) (X : MX p s m args meth c cX2_agreeing 8 (some .int) RX2) {rr : Int32} (σ : St)  (v1 : Nat) (v2 : Nat) (v3 : Int32) (v4 : Int32) (v5 : Int32) (kv1 : kRi v1) (kv2 : kRi v2) (rc10 : Int32 → Int32 → Int32 → Option Int32) (hrc10 : ∀ (v3' : Int32) (v4' : Int32) (v5' : Int32), rc10 v3' v4' v5' = some rr → ∀ (H : Heap) (locs : List Loc) (ls : Array Slot), IC g q s σ H locs → lv_has ls 8 [(0, .ref (q 1)), (1, .ref (q v1)), (2, .ref (q v2)), (3, .int v3'), (4, .int v4'), (5, .int v5')] → W p l e (rmD 3) s m args below meth c H locs 0 0 (MQ below (QI g (eC g q) q 23 rr σ s.heap.size) args s 0 0 (AQ q 23 s.heap.size)) (F0 m 10 ls [])) (hD : D_X2_agreeing_100 σ rc10 v1 v2 v3 v4 v5 = some rr) (H : Heap) (locs : List Loc) (ls : Array Slot) (I : IC g q s σ H locs) (hl : lv_has ls 8 [(0, .ref (q 1)), (1, .ref (q v1)), (2, .ref (q v2)), (3, .int v3), (4, .int v4), (5, .int v5)]) : W p l e (rmD 3) s m args below meth c H locs 0 0 (MQ below (QI g (eC g q) q 23 rr σ s.heap.size) args s 0 0 (AQ q 23 s.heap.size)) (F0 m 100 ls []) := by
  have hx := X.1
  have hb := X.2.1
  unfold D_X2_agreeing_100 at hD
  refine lv_iinc (v := v5 + (1 : Int32)) (lv' := [(5, .int (v5 + (1 : Int32))), (0, .ref (q 1)), (1, .ref (q v1)), (2, .ref (q v2)), (3, .int v3), (4, .int v4)]) hx hb dX2_agreeing_100 hl (k := 5) rfl rfl (by decide) rfl (fun ls hl => ?_)
  refine lv_goto (tgt := 10) hx hb dX2_agreeing_103 (by decide) ?_
  exact hrc10 v3 v4 (v5 + (1 : Int32)) hD _ _ _ I (lv_sub hl [1, 2, 3, 4, 5, 0] rfl)
def D_X2_agreeing_94 (σ : St) (rc10 : Int32 → Int32 → Int32 → Option Int32) (rc22 : Int32 → Int32 → Int32 → Option Int32) (v1 : Nat) (v2 : Nat) (v3 : Int32) (v4 : Int32) (v5 : Int32) (v6 : Int32) : Option Int32 := rc22 v3 v4 (v6 + (1 : Int32))
set_option maxRecDepth 100000 in
set_option maxHeartbeats 4000000 in
theorem w_X2_agreeing_94 {p : Program} {l : Launch} {e : Env} {s : State} {m : MethodId} {args : Array Value} {below : List Frame} {meth : Method} {c : Code} (g : Gh) (q : Nat → Nat) (X : MX p s m args meth c cX2_agreeing 8 (some .int) RX2) {rr : Int32} (σ : St)  (v1 : Nat) (v2 : Nat) (v3 : Int32) (v4 : Int32) (v5 : Int32) (v6 : Int32) (kv1 : kRi v1) (kv2 : kRi v2) (rc10 : Int32 → Int32 → Int32 → Option Int32) (rc22 : Int32 → Int32 → Int32 → Option Int32) (hrc10 : ∀ (v3' : Int32) (v4' : Int32) (v5' : Int32), rc10 v3' v4' v5' = some rr → ∀ (H : Heap) (locs : List Loc) (ls : Array Slot), IC g q s σ H locs → lv_has ls 8 [(0, .ref (q 1)), (1, .ref (q v1)), (2, .ref (q v2)), (3, .int v3'), (4, .int v4'), (5, .int v5')] → W p l e (rmD 3) s m args below meth c H locs 0 0 (MQ below (QI g (eC g q) q 23 rr σ s.heap.size) args s 0 0 (AQ q 23 s.heap.size)) (F0 m 10 ls [])) (hrc22 : ∀ (v3' : Int32) (v4' : Int32) (v6' : Int32), rc22 v3' v4' v6' = some rr → ∀ (H : Heap) (locs : List Loc) (ls : Array Slot), IC g q s σ H locs → lv_has ls 8 [(0, .ref (q 1)), (1, .ref (q v1)), (2, .ref (q v2)), (3, .int v3'), (4, .int v4'), (5, .int v5), (6, .int v6')] → W p l e (rmD 3) s m args below meth c H locs 0 0 (MQ below (QI g (eC g q) q 23 rr σ s.heap.size) args s 0 0 (AQ q 23 s.heap.size)) (F0 m 22 ls [])) (hD : D_X2_agreeing_94 σ rc10 rc22 v1 v2 v3 v4 v5 v6 = some rr) (H : Heap) (locs : List Loc) (ls : Array Slot) (I : IC g q s σ H locs) (hl : lv_has ls 8 [(0, .ref (q 1)), (1, .ref (q v1)), (2, .ref (q v2)), (3, .int v3), (4, .int v4), (5, .int v5), (6, .int v6)]) : W p l e (rmD 3) s m args below meth c H locs 0 0 (MQ below (QI g (eC g q) q 23 rr σ s.heap.size) args s 0 0 (AQ q 23 s.heap.size)) (F0 m 94 ls []) := by
  have hx := X.1
  have hb := X.2.1
  unfold D_X2_agreeing_94 at hD
  refine lv_iinc (v := v6 + (1 : Int32)) (lv' := [(6, .int (v6 + (1 : Int32))), (0, .ref (q 1)), (1, .ref (q v1)), (2, .ref (q v2)), (3, .int v3), (4, .int v4), (5, .int v5)]) hx hb dX2_agreeing_94 hl (k := 6) rfl rfl (by decide) rfl (fun ls hl => ?_)
  refine lv_goto (tgt := 22) hx hb dX2_agreeing_97 (by decide) ?_
  exact hrc22 v3 v4 (v6 + (1 : Int32)) hD _ _ _ I (lv_sub hl [1, 2, 3, 4, 5, 6, 0] rfl)
def D_X2_agreeing_22b (σ : St) (rc10 : Int32 → Int32 → Int32 → Option Int32) (rc22 : Int32 → Int32 → Int32 → Option Int32) (v1 : Nat) (v2 : Nat) (v3 : Int32) (v4 : Int32) (v5 : Int32) (v6 : Int32) : Option Int32 := (D_X4_own σ v2).bind fun y17 => if y17 < v6 then D_X2_agreeing_100 σ rc10 v1 v2 v3 v4 v5 else (D_J6_bitCount_0f7a4 σ v5).bind fun y20 => (D_J6_bitCount_0f7a4 σ v6).bind fun y22 => if v4 ≤ (y20 + y22) then D_X2_agreeing_94 σ rc10 rc22 v1 v2 v3 v4 v5 v6 else (D_X4_owns σ v1 v5).bind fun y30 => if y30 = 0 then D_X2_agreeing_94 σ rc10 rc22 v1 v2 v3 v4 v5 v6 else (D_X4_owns σ v2 v6).bind fun y34 => if y34 = 0 then D_X2_agreeing_94 σ rc10 rc22 v1 v2 v3 v4 v5 v6 else (D_X2_bothAgree σ v1 v5 v2 v6).bind fun y41 => if y41 = 0 then D_X2_agreeing_94 σ rc10 rc22 v1 v2 v3 v4 v5 v6 else D_X2_agreeing_94 σ rc10 rc22 v1 v2 ((v5 <<< ((5 : Int32) &&& 31)) ||| v6) (y20 + y22) v5 v6
set_option maxRecDepth 100000 in
set_option maxHeartbeats 4000000 in
theorem w_X2_agreeing_22b {p : Program} {l : Launch} {e : Env} {s : State} {m : MethodId} {args : Array Value} {below : List Frame} {meth : Method} {c : Code} (g : Gh) (q : Nat → Nat) (X : MX p s m args meth c cX2_agreeing 8 (some .int) RX2) {rr : Int32} (σ : St)  (v1 : Nat) (v2 : Nat) (v3 : Int32) (v4 : Int32) (v5 : Int32) (v6 : Int32) (kv1 : kRi v1) (kv2 : kRi v2) (rc10 : Int32 → Int32 → Int32 → Option Int32) (rc22 : Int32 → Int32 → Int32 → Option Int32) (hrc10 : ∀ (v3' : Int32) (v4' : Int32) (v5' : Int32), rc10 v3' v4' v5' = some rr → ∀ (H : Heap) (locs : List Loc) (ls : Array Slot), IC g q s σ H locs → lv_has ls 8 [(0, .ref (q 1)), (1, .ref (q v1)), (2, .ref (q v2)), (3, .int v3'), (4, .int v4'), (5, .int v5')] → W p l e (rmD 3) s m args below meth c H locs 0 0 (MQ below (QI g (eC g q) q 23 rr σ s.heap.size) args s 0 0 (AQ q 23 s.heap.size)) (F0 m 10 ls [])) (hrc22 : ∀ (v3' : Int32) (v4' : Int32) (v6' : Int32), rc22 v3' v4' v6' = some rr → ∀ (H : Heap) (locs : List Loc) (ls : Array Slot), IC g q s σ H locs → lv_has ls 8 [(0, .ref (q 1)), (1, .ref (q v1)), (2, .ref (q v2)), (3, .int v3'), (4, .int v4'), (5, .int v5), (6, .int v6')] → W p l e (rmD 3) s m args below meth c H locs 0 0 (MQ below (QI g (eC g q) q 23 rr σ s.heap.size) args s 0 0 (AQ q 23 s.heap.size)) (F0 m 22 ls [])) (hD : D_X2_agreeing_22b σ rc10 rc22 v1 v2 v3 v4 v5 v6 = some rr) (H : Heap) (locs : List Loc) (ls : Array Slot) (I : IC g q s σ H locs) (hl : lv_has ls 8 [(0, .ref (q 1)), (1, .ref (q v1)), (2, .ref (q v2)), (3, .int v3), (4, .int v4), (5, .int v5), (6, .int v6)]) : W p l e (rmD 3) s m args below meth c H locs 0 0 (MQ below (QI g (eC g q) q 23 rr σ s.heap.size) args s 0 0 (AQ q 23 s.heap.size)) (F0 m 22 ls []) := by
  have hx := X.1
  have hb := X.2.1
  unfold D_X2_agreeing_22b at hD
  refine lv_iload hx hb dX2_agreeing_22 (lv_at hl 6 rfl) ?_
  refine lv_aload_n hx hb dX2_agreeing_24 rfl (lv_at hl 2 rfl) ?_
  obtain ⟨y17, hy17, hD⟩ := bd_s hD
  refine r_calli (r_runV (As := []) (rest := [.int v6]) X I (c_X4_own l g q _ σ v2 kv2 hy17) kv_X4_own ml_X2_82 rfl (kRi_lt kv2) (eC_Rider g q _ kv2) ⟨Nat.le_of_ble_eq_true rfl, Nat.le_of_ble_eq_true rfl⟩ ⟨Nat.zero_le _, Nat.zero_le _⟩ rfl rfl hl.1 (Nat.le_of_ble_eq_true rfl) dX2_agreeing_25) I (fun H locs I => ?_)
  refine lv_icmp_gt (tgt := 100) hx hb dX2_agreeing_28 (by decide) (fun hc18 => ?_) (fun hc18 => ?_)
  · have hD := ite_p hc18 hD
    exact w_X2_agreeing_100 g q X σ v1 v2 v3 v4 v5 kv1 kv2 rc10 hrc10 hD _ _ _ I (lv_sub hl [0, 1, 2, 3, 4, 5] rfl)
  · have hD := ite_n hc18 hD
    refine lv_iload hx hb dX2_agreeing_31 (lv_at hl 5 rfl) ?_
    obtain ⟨y20, hy20, hD⟩ := bd_s hD
    refine r_calli (r_runS (As := [.int v5]) (rest := []) X I (c_J6_bitCount_0f7a4 l g q _ σ v5 hy20) ks_J6_bitCount_0f7a4 ml_X2_86 ⟨Nat.le_of_ble_eq_true rfl, Nat.le_of_ble_eq_true rfl⟩ ⟨Nat.zero_le _, Nat.zero_le _⟩ rfl rfl hl.1 (Nat.le_of_ble_eq_true rfl) dX2_agreeing_33) I (fun H locs I => ?_)
    refine lv_iload hx hb dX2_agreeing_36 (lv_at hl 6 rfl) ?_
    obtain ⟨y22, hy22, hD⟩ := bd_s hD
    refine r_calli (r_runS (As := [.int v6]) (rest := [.int y20]) X I (c_J6_bitCount_0f7a4 l g q _ σ v6 hy22) ks_J6_bitCount_0f7a4 ml_X2_86 ⟨Nat.le_of_ble_eq_true rfl, Nat.le_of_ble_eq_true rfl⟩ ⟨Nat.zero_le _, Nat.zero_le _⟩ rfl rfl hl.1 (Nat.le_of_ble_eq_true rfl) dX2_agreeing_38) I (fun H locs I => ?_)
    refine lv_iadd hx hb dX2_agreeing_41 ?_
    refine lv_istore (lv' := [(7, .int (y20 + y22)), (0, .ref (q 1)), (1, .ref (q v1)), (2, .ref (q v2)), (3, .int v3), (4, .int v4), (5, .int v5), (6, .int v6)]) hx hb dX2_agreeing_42 hl (by decide) rfl (fun ls hl => ?_)
    refine lv_iload hx hb dX2_agreeing_44 (lv_at hl 0 rfl) ?_
    refine lv_iload hx hb dX2_agreeing_46 (lv_at hl 5 rfl) ?_
    refine lv_icmp_ge (tgt := 94) hx hb dX2_agreeing_48 (by decide) (fun hc27 => ?_) (fun hc27 => ?_)
    · have hD := ite_p hc27 hD
      exact w_X2_agreeing_94 g q X σ v1 v2 v3 v4 v5 v6 kv1 kv2 rc10 rc22 hrc10 hrc22 hD _ _ _ I (lv_sub hl [1, 2, 3, 4, 5, 6, 7] rfl)
    · have hD := ite_n hc27 hD
      refine lv_aload_n hx hb dX2_agreeing_51 rfl (lv_at hl 2 rfl) ?_
      refine lv_iload hx hb dX2_agreeing_52 (lv_at hl 6 rfl) ?_
      obtain ⟨y30, hy30, hD⟩ := bd_s hD
      refine r_calli (r_runV (As := [.int v5]) (rest := []) X I (c_X4_owns l g q _ σ v1 v5 kv1 hy30) kv_X4_owns ml_X2_73 rfl (kRi_lt kv1) (eC_Rider g q _ kv1) ⟨Nat.le_of_ble_eq_true rfl, Nat.le_of_ble_eq_true rfl⟩ ⟨Nat.zero_le _, Nat.zero_le _⟩ rfl rfl hl.1 (Nat.le_of_ble_eq_true rfl) dX2_agreeing_54) I (fun H locs I => ?_)
      refine lv_if_eq (tgt := 94) hx hb dX2_agreeing_57 (by decide) (fun hc31 => ?_) (fun hc31 => ?_)
      · have hD := ite_p hc31 hD
        exact w_X2_agreeing_94 g q X σ v1 v2 v3 v4 v5 v6 kv1 kv2 rc10 rc22 hrc10 hrc22 hD _ _ _ I (lv_sub hl [1, 2, 3, 4, 5, 6, 7] rfl)
      · have hD := ite_n hc31 hD
        refine lv_aload_n hx hb dX2_agreeing_60 rfl (lv_at hl 3 rfl) ?_
        refine lv_iload hx hb dX2_agreeing_61 (lv_at hl 7 rfl) ?_
        obtain ⟨y34, hy34, hD⟩ := bd_s hD
        refine r_calli (r_runV (As := [.int v6]) (rest := []) X I (c_X4_owns l g q _ σ v2 v6 kv2 hy34) kv_X4_owns ml_X2_73 rfl (kRi_lt kv2) (eC_Rider g q _ kv2) ⟨Nat.le_of_ble_eq_true rfl, Nat.le_of_ble_eq_true rfl⟩ ⟨Nat.zero_le _, Nat.zero_le _⟩ rfl rfl hl.1 (Nat.le_of_ble_eq_true rfl) dX2_agreeing_63) I (fun H locs I => ?_)
        refine lv_if_eq (tgt := 94) hx hb dX2_agreeing_66 (by decide) (fun hc35 => ?_) (fun hc35 => ?_)
        · have hD := ite_p hc35 hD
          exact w_X2_agreeing_94 g q X σ v1 v2 v3 v4 v5 v6 kv1 kv2 rc10 rc22 hrc10 hrc22 hD _ _ _ I (lv_sub hl [1, 2, 3, 4, 5, 6, 7] rfl)
        · have hD := ite_n hc35 hD
          refine lv_aload_n hx hb dX2_agreeing_69 rfl (lv_at hl 1 rfl) ?_
          refine lv_aload_n hx hb dX2_agreeing_70 rfl (lv_at hl 2 rfl) ?_
          refine lv_iload hx hb dX2_agreeing_71 (lv_at hl 6 rfl) ?_
          refine lv_aload_n hx hb dX2_agreeing_73 rfl (lv_at hl 3 rfl) ?_
          refine lv_iload hx hb dX2_agreeing_74 (lv_at hl 7 rfl) ?_
          obtain ⟨y41, hy41, hD⟩ := bd_s hD
          refine r_calli (r_runV (As := [.ref (q v1), .int v5, .ref (q v2), .int v6]) (rest := []) X I (c_X2_bothAgree l g q _ σ v1 v5 v2 v6 kv1 kv2 hy41) kv_X2_bothAgree ml_X2_91 rfl (by decide) (eC_Ride g q _) ⟨Nat.le_of_ble_eq_true rfl, Nat.le_of_ble_eq_true rfl⟩ ⟨Nat.zero_le _, Nat.zero_le _⟩ rfl rfl hl.1 (Nat.le_of_ble_eq_true rfl) dX2_agreeing_76) I (fun H locs I => ?_)
          refine lv_if_eq (tgt := 94) hx hb dX2_agreeing_79 (by decide) (fun hc42 => ?_) (fun hc42 => ?_)
          · have hD := ite_p hc42 hD
            exact w_X2_agreeing_94 g q X σ v1 v2 v3 v4 v5 v6 kv1 kv2 rc10 rc22 hrc10 hrc22 hD _ _ _ I (lv_sub hl [1, 2, 3, 4, 5, 6, 7] rfl)
          · have hD := ite_n hc42 hD
            refine lv_iload hx hb dX2_agreeing_82 (lv_at hl 0 rfl) ?_
            refine lv_istore (lv' := [(4, .int (y20 + y22)), (7, .int (y20 + y22)), (0, .ref (q 1)), (1, .ref (q v1)), (2, .ref (q v2)), (3, .int v3), (5, .int v5), (6, .int v6)]) hx hb dX2_agreeing_84 hl (by decide) rfl (fun ls hl => ?_)
            refine lv_iload hx hb dX2_agreeing_86 (lv_at hl 6 rfl) ?_
            refine lv_iconst (v := 5) hx hb dX2_agreeing_88 (by decide) ?_
            refine lv_ishl hx hb dX2_agreeing_89 ?_
            refine lv_iload hx hb dX2_agreeing_90 (lv_at hl 7 rfl) ?_
            refine lv_ior hx hb dX2_agreeing_92 ?_
            refine lv_istore_n (lv' := [(3, .int ((v5 <<< ((5 : Int32) &&& 31)) ||| v6)), (4, .int (y20 + y22)), (7, .int (y20 + y22)), (0, .ref (q 1)), (1, .ref (q v1)), (2, .ref (q v2)), (5, .int v5), (6, .int v6)]) hx hb dX2_agreeing_93 rfl hl (by decide) rfl (fun ls hl => ?_)
            exact w_X2_agreeing_94 g q X σ v1 v2 ((v5 <<< ((5 : Int32) &&& 31)) ||| v6) (y20 + y22) v5 v6 kv1 kv2 rc10 rc22 hrc10 hrc22 hD _ _ _ I (lv_sub hl [3, 4, 5, 0, 1, 6, 7] rfl)
def D_X2_agreeing_22 (σ : St) (v1 : Nat) (v2 : Nat) (v5 : Int32) (rc10 : Int32 → Int32 → Int32 → Option Int32) : Nat → Int32 → Int32 → Int32 → Option Int32
  | 0 => fun _ _ _ => none
  | n + 1 => fun v3 v4 v6 => D_X2_agreeing_22b σ rc10 (D_X2_agreeing_22 σ v1 v2 v5 rc10 n) v1 v2 v3 v4 v5 v6
set_option maxRecDepth 100000 in
set_option maxHeartbeats 4000000 in
theorem w_X2_agreeing_22 {p : Program} {l : Launch} {e : Env} {s : State} {m : MethodId} {args : Array Value} {below : List Frame} {meth : Method} {c : Code} (g : Gh) (q : Nat → Nat) (X : MX p s m args meth c cX2_agreeing 8 (some .int) RX2) {rr : Int32} (σ : St)  (v1 : Nat) (v2 : Nat) (v5 : Int32) (kv1 : kRi v1) (kv2 : kRi v2) (rc10 : Int32 → Int32 → Int32 → Option Int32) (hrc10 : ∀ (v3' : Int32) (v4' : Int32) (v5' : Int32), rc10 v3' v4' v5' = some rr → ∀ (H : Heap) (locs : List Loc) (ls : Array Slot), IC g q s σ H locs → lv_has ls 8 [(0, .ref (q 1)), (1, .ref (q v1)), (2, .ref (q v2)), (3, .int v3'), (4, .int v4'), (5, .int v5')] → W p l e (rmD 3) s m args below meth c H locs 0 0 (MQ below (QI g (eC g q) q 23 rr σ s.heap.size) args s 0 0 (AQ q 23 s.heap.size)) (F0 m 10 ls [])) : ∀ (n : Nat) (v3 : Int32) (v4 : Int32) (v6 : Int32), D_X2_agreeing_22 σ v1 v2 v5 rc10 n v3 v4 v6 = some rr → ∀ (H : Heap) (locs : List Loc) (ls : Array Slot), IC g q s σ H locs → lv_has ls 8 [(0, .ref (q 1)), (1, .ref (q v1)), (2, .ref (q v2)), (3, .int v3), (4, .int v4), (5, .int v5), (6, .int v6)] → W p l e (rmD 3) s m args below meth c H locs 0 0 (MQ below (QI g (eC g q) q 23 rr σ s.heap.size) args s 0 0 (AQ q 23 s.heap.size)) (F0 m 22 ls []) := by
  intro n
  induction n with
  | zero =>
    intro v3 v4 v6 hD H locs ls I hl
    cases hD
  | succ n ih =>
    intro v3 v4 v6 hD H locs ls I hl
    exact w_X2_agreeing_22b g q X σ v1 v2 v3 v4 v5 v6 kv1 kv2 rc10 _ hrc10 ih hD H locs ls I hl
def D_X2_agreeing_10b (σ : St) (rc10 : Int32 → Int32 → Int32 → Option Int32) (v1 : Nat) (v2 : Nat) (v3 : Int32) (v4 : Int32) (v5 : Int32) : Option Int32 := (D_X4_own σ v1).bind fun y9 => if y9 < v5 then some v3 else D_X2_agreeing_22 σ v1 v2 v5 rc10 FU v3 v4 (0 : Int32)
set_option maxRecDepth 100000 in
set_option maxHeartbeats 4000000 in
theorem w_X2_agreeing_10b {p : Program} {l : Launch} {e : Env} {s : State} {m : MethodId} {args : Array Value} {below : List Frame} {meth : Method} {c : Code} (g : Gh) (q : Nat → Nat) (X : MX p s m args meth c cX2_agreeing 8 (some .int) RX2) {rr : Int32} (σ : St)  (v1 : Nat) (v2 : Nat) (v3 : Int32) (v4 : Int32) (v5 : Int32) (kv1 : kRi v1) (kv2 : kRi v2) (rc10 : Int32 → Int32 → Int32 → Option Int32) (hrc10 : ∀ (v3' : Int32) (v4' : Int32) (v5' : Int32), rc10 v3' v4' v5' = some rr → ∀ (H : Heap) (locs : List Loc) (ls : Array Slot), IC g q s σ H locs → lv_has ls 8 [(0, .ref (q 1)), (1, .ref (q v1)), (2, .ref (q v2)), (3, .int v3'), (4, .int v4'), (5, .int v5')] → W p l e (rmD 3) s m args below meth c H locs 0 0 (MQ below (QI g (eC g q) q 23 rr σ s.heap.size) args s 0 0 (AQ q 23 s.heap.size)) (F0 m 10 ls [])) (hD : D_X2_agreeing_10b σ rc10 v1 v2 v3 v4 v5 = some rr) (H : Heap) (locs : List Loc) (ls : Array Slot) (I : IC g q s σ H locs) (hl : lv_has ls 8 [(0, .ref (q 1)), (1, .ref (q v1)), (2, .ref (q v2)), (3, .int v3), (4, .int v4), (5, .int v5)]) : W p l e (rmD 3) s m args below meth c H locs 0 0 (MQ below (QI g (eC g q) q 23 rr σ s.heap.size) args s 0 0 (AQ q 23 s.heap.size)) (F0 m 10 ls []) := by
  have hx := X.1
  have hb := X.2.1
  unfold D_X2_agreeing_10b at hD
  refine lv_iload hx hb dX2_agreeing_10 (lv_at hl 5 rfl) ?_
  refine lv_aload_n hx hb dX2_agreeing_12 rfl (lv_at hl 1 rfl) ?_
  obtain ⟨y9, hy9, hD⟩ := bd_s hD
  refine r_calli (r_runV (As := []) (rest := [.int v5]) X I (c_X4_own l g q _ σ v1 kv1 hy9) kv_X4_own ml_X2_82 rfl (kRi_lt kv1) (eC_Rider g q _ kv1) ⟨Nat.le_of_ble_eq_true rfl, Nat.le_of_ble_eq_true rfl⟩ ⟨Nat.zero_le _, Nat.zero_le _⟩ rfl rfl hl.1 (Nat.le_of_ble_eq_true rfl) dX2_agreeing_13) I (fun H locs I => ?_)
  refine lv_icmp_gt (tgt := 106) hx hb dX2_agreeing_16 (by decide) (fun hc10 => ?_) (fun hc10 => ?_)
  · have hD := ite_p hc10 hD
    refine lv_iload_n hx hb dX2_agreeing_106 rfl (lv_at hl 3 rfl) ?_
    exact r_iret X I hD dX2_agreeing_107
  · have hD := ite_n hc10 hD
    refine lv_iconst (v := 0) hx hb dX2_agreeing_19 (by decide) ?_
    refine lv_istore (lv' := [(6, .int (0 : Int32)), (0, .ref (q 1)), (1, .ref (q v1)), (2, .ref (q v2)), (3, .int v3), (4, .int v4), (5, .int v5)]) hx hb dX2_agreeing_20 hl (by decide) rfl (fun ls hl => ?_)
    exact w_X2_agreeing_22 g q X σ v1 v2 v5 kv1 kv2 rc10 hrc10 FU v3 v4 (0 : Int32) hD _ _ _ I (lv_sub hl [1, 2, 3, 4, 5, 6, 0] rfl)
def D_X2_agreeing_10 (σ : St) (v1 : Nat) (v2 : Nat) : Nat → Int32 → Int32 → Int32 → Option Int32
  | 0 => fun _ _ _ => none
  | n + 1 => fun v3 v4 v5 => D_X2_agreeing_10b σ (D_X2_agreeing_10 σ v1 v2 n) v1 v2 v3 v4 v5
set_option maxRecDepth 100000 in
set_option maxHeartbeats 4000000 in
theorem w_X2_agreeing_10 {p : Program} {l : Launch} {e : Env} {s : State} {m : MethodId} {args : Array Value} {below : List Frame} {meth : Method} {c : Code} (g : Gh) (q : Nat → Nat) (X : MX p s m args meth c cX2_agreeing 8 (some .int) RX2) {rr : Int32} (σ : St)  (v1 : Nat) (v2 : Nat) (kv1 : kRi v1) (kv2 : kRi v2) : ∀ (n : Nat) (v3 : Int32) (v4 : Int32) (v5 : Int32), D_X2_agreeing_10 σ v1 v2 n v3 v4 v5 = some rr → ∀ (H : Heap) (locs : List Loc) (ls : Array Slot), IC g q s σ H locs → lv_has ls 8 [(0, .ref (q 1)), (1, .ref (q v1)), (2, .ref (q v2)), (3, .int v3), (4, .int v4), (5, .int v5)] → W p l e (rmD 3) s m args below meth c H locs 0 0 (MQ below (QI g (eC g q) q 23 rr σ s.heap.size) args s 0 0 (AQ q 23 s.heap.size)) (F0 m 10 ls []) := by
  intro n
  induction n with
  | zero =>
    intro v3 v4 v5 hD H locs ls I hl
    cases hD
  | succ n ih =>
    intro v3 v4 v5 hD H locs ls I hl
    exact w_X2_agreeing_10b g q X σ v1 v2 v3 v4 v5 kv1 kv2 _ ih hD H locs ls I hl
def D_X2_agreeing (σ : St) (p1 : Nat) (p2 : Nat) : Option Int32 := D_X2_agreeing_10 σ p1 p2 FU (-9 : Int32) (11 : Int32) (0 : Int32)
set_option maxRecDepth 100000 in
set_option maxHeartbeats 4000000 in
theorem c_X2_agreeing (l : Launch) (g : Gh) (q : Nat → Nat) (sz : Nat) (σ : St) (p1 : Nat) (p2 : Nat) (kp1 : kRi p1) (kp2 : kRi p2) {rr : Int32} (hD : D_X2_agreeing σ p1 p2 = some rr) : Met l yX2_agreeing (wU yX2_agreeing cX2_agreeing 8 (some .int)) (rmD 3) (PQ g (eC g q) q 23 σ sz [.ref (q 1), .ref (q p1), .ref (q p2)]) (QI g (eC g q) q 23 rr σ sz) 0 0 (AQ q 23 sz) := by
  refine met_of (Qc := QI g (eC g q) q 23 rr σ) (by decide) (Nat.le_of_ble_eq_true rfl) ?_
  intro p e s m below meth c ls X I hl
  have hx := X.1
  have hb := X.2.1
  have hl : lv_has ls 8 [(0, .ref (q 1)), (1, .ref (q p1)), (2, .ref (q p2))] := hl
  unfold D_X2_agreeing at hD
  refine lv_bipush (v := -9) hx hb dX2_agreeing_0 (by decide) ?_
  refine lv_istore_n (lv' := [(3, .int (-9 : Int32)), (0, .ref (q 1)), (1, .ref (q p1)), (2, .ref (q p2))]) hx hb dX2_agreeing_2 rfl hl (by decide) rfl (fun ls hl => ?_)
  refine lv_bipush (v := 11) hx hb dX2_agreeing_3 (by decide) ?_
  refine lv_istore (lv' := [(4, .int (11 : Int32)), (3, .int (-9 : Int32)), (0, .ref (q 1)), (1, .ref (q p1)), (2, .ref (q p2))]) hx hb dX2_agreeing_5 hl (by decide) rfl (fun ls hl => ?_)
  refine lv_iconst (v := 0) hx hb dX2_agreeing_7 (by decide) ?_
  refine lv_istore (lv' := [(5, .int (0 : Int32)), (4, .int (11 : Int32)), (3, .int (-9 : Int32)), (0, .ref (q 1)), (1, .ref (q p1)), (2, .ref (q p2))]) hx hb dX2_agreeing_8 hl (by decide) rfl (fun ls hl => ?_)
  exact w_X2_agreeing_10 g q X σ p1 p2 kp1 kp2 FU (-9 : Int32) (11 : Int32) (0 : Int32) hD _ _ _ I (lv_sub hl [3, 4, 5, 2, 1, 0] rfl)

/-! YearDeck$Ride.firstOf(I)I -/
def D_X2_firstOf (σ : St) (p0 : Int32) : Option Int32 := some (p0 >>> ((5 : Int32) &&& 31))
set_option maxRecDepth 100000 in
set_option maxHeartbeats 4000000 in
theorem c_X2_firstOf (l : Launch) (g : Gh) (q : Nat → Nat) (sz : Nat) (σ : St) (p0 : Int32) {rr : Int32} (hD : D_X2_firstOf σ p0 = some rr) : Met l yX2_firstOf (wU yX2_firstOf cX2_firstOf 1 (some .int)) (rmD 0) (PQ g (eC g q) q 23 σ sz [.int p0]) (QI g (eC g q) q 23 rr σ sz) 0 0 (AQ q 23 sz) := by
  refine met_of (Qc := QI g (eC g q) q 23 rr σ) (by decide) (Nat.le_of_ble_eq_true rfl) ?_
  intro p e s m below meth c ls X I hl
  have hx := X.1
  have hb := X.2.1
  have hl : lv_has ls 1 [(0, .int p0)] := hl
  unfold D_X2_firstOf at hD
  refine lv_iload_n hx hb dX2_firstOf_0 rfl (lv_at hl 0 rfl) ?_
  refine lv_iconst (v := 5) hx hb dX2_firstOf_1 (by decide) ?_
  refine lv_ishr hx hb dX2_firstOf_2 ?_
  exact r_iret X I hD dX2_firstOf_3

/-! YearDeck$Ride.otherOf(I)I -/
def D_X2_otherOf (σ : St) (p0 : Int32) : Option Int32 := some (p0 &&& (31 : Int32))
set_option maxRecDepth 100000 in
set_option maxHeartbeats 4000000 in
theorem c_X2_otherOf (l : Launch) (g : Gh) (q : Nat → Nat) (sz : Nat) (σ : St) (p0 : Int32) {rr : Int32} (hD : D_X2_otherOf σ p0 = some rr) : Met l yX2_otherOf (wU yX2_otherOf cX2_otherOf 1 (some .int)) (rmD 0) (PQ g (eC g q) q 23 σ sz [.int p0]) (QI g (eC g q) q 23 rr σ sz) 0 0 (AQ q 23 sz) := by
  refine met_of (Qc := QI g (eC g q) q 23 rr σ) (by decide) (Nat.le_of_ble_eq_true rfl) ?_
  intro p e s m below meth c ls X I hl
  have hx := X.1
  have hb := X.2.1
  have hl : lv_has ls 1 [(0, .int p0)] := hl
  unfold D_X2_otherOf at hD
  refine lv_iload_n hx hb dX2_otherOf_0 rfl (lv_at hl 0 rfl) ?_
  refine lv_bipush (v := 31) hx hb dX2_otherOf_1 (by decide) ?_
  refine lv_iand hx hb dX2_otherOf_3 ?_
  exact r_iret X I hD dX2_otherOf_4

/-! YearDeck$Ride.setsToBeRight(LYearDeck$Rider;)I -/
def D_X2_setsToBeRight_35 (σ : St) (rc4 : Int32 → Int32 → Option Int32) (v1 : Nat) (v2 : Int32) (v3 : Int32) : Option Int32 := rc4 v2 (v3 + (1 : Int32))
set_option maxRecDepth 100000 in
set_option maxHeartbeats 4000000 in
theorem w_X2_setsToBeRight_35 {p : Program} {l : Launch} {e : Env} {s : State} {m : MethodId} {args : Array Value} {below : List Frame} {meth : Method} {c : Code} (g : Gh) (q : Nat → Nat) (X : MX p s m args meth c cX2_setsToBeRight 4 (some .int) RX2) {rr : Int32} (σ : St)  (v1 : Nat) (v2 : Int32) (v3 : Int32) (kv1 : kRi v1) (rc4 : Int32 → Int32 → Option Int32) (hrc4 : ∀ (v2' : Int32) (v3' : Int32), rc4 v2' v3' = some rr → ∀ (H : Heap) (locs : List Loc) (ls : Array Slot), IC g q s σ H locs → lv_has ls 4 [(0, .ref (q 1)), (1, .ref (q v1)), (2, .int v2'), (3, .int v3')] → W p l e (rmD 3) s m args below meth c H locs 0 0 (MQ below (QI g (eC g q) q 23 rr σ s.heap.size) args s 0 0 (AQ q 23 s.heap.size)) (F0 m 4 ls [])) (hD : D_X2_setsToBeRight_35 σ rc4 v1 v2 v3 = some rr) (H : Heap) (locs : List Loc) (ls : Array Slot) (I : IC g q s σ H locs) (hl : lv_has ls 4 [(0, .ref (q 1)), (1, .ref (q v1)), (2, .int v2), (3, .int v3)]) : W p l e (rmD 3) s m args below meth c H locs 0 0 (MQ below (QI g (eC g q) q 23 rr σ s.heap.size) args s 0 0 (AQ q 23 s.heap.size)) (F0 m 35 ls []) := by
  have hx := X.1
  have hb := X.2.1
  unfold D_X2_setsToBeRight_35 at hD
  refine lv_iinc (v := v3 + (1 : Int32)) (lv' := [(3, .int (v3 + (1 : Int32))), (0, .ref (q 1)), (1, .ref (q v1)), (2, .int v2)]) hx hb dX2_setsToBeRight_35 hl (k := 3) rfl rfl (by decide) rfl (fun ls hl => ?_)
  refine lv_goto (tgt := 4) hx hb dX2_setsToBeRight_38 (by decide) ?_
  exact hrc4 v2 (v3 + (1 : Int32)) hD _ _ _ I (lv_sub hl [1, 2, 3, 0] rfl)
def D_X2_setsToBeRight_4b (σ : St) (rc4 : Int32 → Int32 → Option Int32) (v1 : Nat) (v2 : Int32) (v3 : Int32) : Option Int32 := (D_X4_own σ v1).bind fun y7 => if y7 < v3 then some v2 else (D_X4_owns σ v1 v3).bind fun y13 => if y13 = 0 then D_X2_setsToBeRight_35 σ rc4 v1 v2 v3 else (D_X2_isRight σ v1 v3).bind fun y18 => if y18 = 0 then D_X2_setsToBeRight_35 σ rc4 v1 v2 v3 else D_X2_setsToBeRight_35 σ rc4 v1 (v2 ||| ((1 : Int32) <<< (v3 &&& 31))) v3
set_option maxRecDepth 100000 in
set_option maxHeartbeats 4000000 in
theorem w_X2_setsToBeRight_4b {p : Program} {l : Launch} {e : Env} {s : State} {m : MethodId} {args : Array Value} {below : List Frame} {meth : Method} {c : Code} (g : Gh) (q : Nat → Nat) (X : MX p s m args meth c cX2_setsToBeRight 4 (some .int) RX2) {rr : Int32} (σ : St)  (v1 : Nat) (v2 : Int32) (v3 : Int32) (kv1 : kRi v1) (rc4 : Int32 → Int32 → Option Int32) (hrc4 : ∀ (v2' : Int32) (v3' : Int32), rc4 v2' v3' = some rr → ∀ (H : Heap) (locs : List Loc) (ls : Array Slot), IC g q s σ H locs → lv_has ls 4 [(0, .ref (q 1)), (1, .ref (q v1)), (2, .int v2'), (3, .int v3')] → W p l e (rmD 3) s m args below meth c H locs 0 0 (MQ below (QI g (eC g q) q 23 rr σ s.heap.size) args s 0 0 (AQ q 23 s.heap.size)) (F0 m 4 ls [])) (hD : D_X2_setsToBeRight_4b σ rc4 v1 v2 v3 = some rr) (H : Heap) (locs : List Loc) (ls : Array Slot) (I : IC g q s σ H locs) (hl : lv_has ls 4 [(0, .ref (q 1)), (1, .ref (q v1)), (2, .int v2), (3, .int v3)]) : W p l e (rmD 3) s m args below meth c H locs 0 0 (MQ below (QI g (eC g q) q 23 rr σ s.heap.size) args s 0 0 (AQ q 23 s.heap.size)) (F0 m 4 ls []) := by
  have hx := X.1
  have hb := X.2.1
  unfold D_X2_setsToBeRight_4b at hD
  refine lv_iload_n hx hb dX2_setsToBeRight_4 rfl (lv_at hl 3 rfl) ?_
  refine lv_aload_n hx hb dX2_setsToBeRight_5 rfl (lv_at hl 1 rfl) ?_
  obtain ⟨y7, hy7, hD⟩ := bd_s hD
  refine r_calli (r_runV (As := []) (rest := [.int v3]) X I (c_X4_own l g q _ σ v1 kv1 hy7) kv_X4_own ml_X2_82 rfl (kRi_lt kv1) (eC_Rider g q _ kv1) ⟨Nat.le_of_ble_eq_true rfl, Nat.le_of_ble_eq_true rfl⟩ ⟨Nat.zero_le _, Nat.zero_le _⟩ rfl rfl hl.1 (Nat.le_of_ble_eq_true rfl) dX2_setsToBeRight_6) I (fun H locs I => ?_)
  refine lv_icmp_gt (tgt := 41) hx hb dX2_setsToBeRight_9 (by decide) (fun hc8 => ?_) (fun hc8 => ?_)
  · have hD := ite_p hc8 hD
    refine lv_iload_n hx hb dX2_setsToBeRight_41 rfl (lv_at hl 2 rfl) ?_
    exact r_iret X I hD dX2_setsToBeRight_42
  · have hD := ite_n hc8 hD
    refine lv_aload_n hx hb dX2_setsToBeRight_12 rfl (lv_at hl 1 rfl) ?_
    refine lv_iload_n hx hb dX2_setsToBeRight_13 rfl (lv_at hl 3 rfl) ?_
    obtain ⟨y13, hy13, hD⟩ := bd_s hD
    refine r_calli (r_runV (As := [.int v3]) (rest := []) X I (c_X4_owns l g q _ σ v1 v3 kv1 hy13) kv_X4_owns ml_X2_73 rfl (kRi_lt kv1) (eC_Rider g q _ kv1) ⟨Nat.le_of_ble_eq_true rfl, Nat.le_of_ble_eq_true rfl⟩ ⟨Nat.zero_le _, Nat.zero_le _⟩ rfl rfl hl.1 (Nat.le_of_ble_eq_true rfl) dX2_setsToBeRight_14) I (fun H locs I => ?_)
    refine lv_if_eq (tgt := 35) hx hb dX2_setsToBeRight_17 (by decide) (fun hc14 => ?_) (fun hc14 => ?_)
    · have hD := ite_p hc14 hD
      exact w_X2_setsToBeRight_35 g q X σ v1 v2 v3 kv1 rc4 hrc4 hD _ _ _ I (lv_sub hl [0, 1, 2, 3] rfl)
    · have hD := ite_n hc14 hD
      refine lv_aload_n hx hb dX2_setsToBeRight_20 rfl (lv_at hl 0 rfl) ?_
      refine lv_aload_n hx hb dX2_setsToBeRight_21 rfl (lv_at hl 1 rfl) ?_
      refine lv_iload_n hx hb dX2_setsToBeRight_22 rfl (lv_at hl 3 rfl) ?_
      obtain ⟨y18, hy18, hD⟩ := bd_s hD
      refine r_calli (r_runV (As := [.ref (q v1), .int v3]) (rest := []) X I (c_X2_isRight l g q _ σ v1 v3 kv1 hy18) kv_X2_isRight ml_X2_109 rfl (by decide) (eC_Ride g q _) ⟨Nat.le_of_ble_eq_true rfl, Nat.le_of_ble_eq_true rfl⟩ ⟨Nat.zero_le _, Nat.zero_le _⟩ rfl rfl hl.1 (Nat.le_of_ble_eq_true rfl) dX2_setsToBeRight_23) I (fun H locs I => ?_)
      refine lv_if_eq (tgt := 35) hx hb dX2_setsToBeRight_26 (by decide) (fun hc19 => ?_) (fun hc19 => ?_)
      · have hD := ite_p hc19 hD
        exact w_X2_setsToBeRight_35 g q X σ v1 v2 v3 kv1 rc4 hrc4 hD _ _ _ I (lv_sub hl [0, 1, 2, 3] rfl)
      · have hD := ite_n hc19 hD
        refine lv_iload_n hx hb dX2_setsToBeRight_29 rfl (lv_at hl 2 rfl) ?_
        refine lv_iconst (v := 1) hx hb dX2_setsToBeRight_30 (by decide) ?_
        refine lv_iload_n hx hb dX2_setsToBeRight_31 rfl (lv_at hl 3 rfl) ?_
        refine lv_ishl hx hb dX2_setsToBeRight_32 ?_
        refine lv_ior hx hb dX2_setsToBeRight_33 ?_
        refine lv_istore_n (lv' := [(2, .int (v2 ||| ((1 : Int32) <<< (v3 &&& 31)))), (0, .ref (q 1)), (1, .ref (q v1)), (3, .int v3)]) hx hb dX2_setsToBeRight_34 rfl hl (by decide) rfl (fun ls hl => ?_)
        exact w_X2_setsToBeRight_35 g q X σ v1 (v2 ||| ((1 : Int32) <<< (v3 &&& 31))) v3 kv1 rc4 hrc4 hD _ _ _ I (lv_sub hl [1, 2, 0, 3] rfl)
def D_X2_setsToBeRight_4 (σ : St) (v1 : Nat) : Nat → Int32 → Int32 → Option Int32
  | 0 => fun _ _ => none
  | n + 1 => fun v2 v3 => D_X2_setsToBeRight_4b σ (D_X2_setsToBeRight_4 σ v1 n) v1 v2 v3
set_option maxRecDepth 100000 in
set_option maxHeartbeats 4000000 in
theorem w_X2_setsToBeRight_4 {p : Program} {l : Launch} {e : Env} {s : State} {m : MethodId} {args : Array Value} {below : List Frame} {meth : Method} {c : Code} (g : Gh) (q : Nat → Nat) (X : MX p s m args meth c cX2_setsToBeRight 4 (some .int) RX2) {rr : Int32} (σ : St)  (v1 : Nat) (kv1 : kRi v1) : ∀ (n : Nat) (v2 : Int32) (v3 : Int32), D_X2_setsToBeRight_4 σ v1 n v2 v3 = some rr → ∀ (H : Heap) (locs : List Loc) (ls : Array Slot), IC g q s σ H locs → lv_has ls 4 [(0, .ref (q 1)), (1, .ref (q v1)), (2, .int v2), (3, .int v3)] → W p l e (rmD 3) s m args below meth c H locs 0 0 (MQ below (QI g (eC g q) q 23 rr σ s.heap.size) args s 0 0 (AQ q 23 s.heap.size)) (F0 m 4 ls []) := by
  intro n
  induction n with
  | zero =>
    intro v2 v3 hD H locs ls I hl
    cases hD
  | succ n ih =>
    intro v2 v3 hD H locs ls I hl
    exact w_X2_setsToBeRight_4b g q X σ v1 v2 v3 kv1 _ ih hD H locs ls I hl
def D_X2_setsToBeRight (σ : St) (p1 : Nat) : Option Int32 := D_X2_setsToBeRight_4 σ p1 FU (0 : Int32) (0 : Int32)
set_option maxRecDepth 100000 in
set_option maxHeartbeats 4000000 in
theorem c_X2_setsToBeRight (l : Launch) (g : Gh) (q : Nat → Nat) (sz : Nat) (σ : St) (p1 : Nat) (kp1 : kRi p1) {rr : Int32} (hD : D_X2_setsToBeRight σ p1 = some rr) : Met l yX2_setsToBeRight (wU yX2_setsToBeRight cX2_setsToBeRight 4 (some .int)) (rmD 3) (PQ g (eC g q) q 23 σ sz [.ref (q 1), .ref (q p1)]) (QI g (eC g q) q 23 rr σ sz) 0 0 (AQ q 23 sz) := by
  refine met_of (Qc := QI g (eC g q) q 23 rr σ) (by decide) (Nat.le_of_ble_eq_true rfl) ?_
  intro p e s m below meth c ls X I hl
  have hx := X.1
  have hb := X.2.1
  have hl : lv_has ls 4 [(0, .ref (q 1)), (1, .ref (q p1))] := hl
  unfold D_X2_setsToBeRight at hD
  refine lv_iconst (v := 0) hx hb dX2_setsToBeRight_0 (by decide) ?_
  refine lv_istore_n (lv' := [(2, .int (0 : Int32)), (0, .ref (q 1)), (1, .ref (q p1))]) hx hb dX2_setsToBeRight_1 rfl hl (by decide) rfl (fun ls hl => ?_)
  refine lv_iconst (v := 0) hx hb dX2_setsToBeRight_2 (by decide) ?_
  refine lv_istore_n (lv' := [(3, .int (0 : Int32)), (2, .int (0 : Int32)), (0, .ref (q 1)), (1, .ref (q p1))]) hx hb dX2_setsToBeRight_3 rfl hl (by decide) rfl (fun ls hl => ?_)
  exact w_X2_setsToBeRight_4 g q X σ p1 kp1 FU (0 : Int32) (0 : Int32) hD _ _ _ I (lv_sub hl [2, 3, 1, 0] rfl)

/-! YearDeck$Ride.canAllBeRight(III)Z -/
def D_X2_canAllBeRight_95 (rf : Int32 → Int32 → Int32 → Option Int32) (σ : St) (rc31 : Int32 → Option Int32) (v1 : Int32) (v2 : Int32) (v3 : Int32) (v4 : Int32) : Option Int32 := rc31 (v4 + (1 : Int32))
set_option maxRecDepth 100000 in
set_option maxHeartbeats 4000000 in
theorem w_X2_canAllBeRight_95 {p : Program} {l : Launch} {e : Env} {s : State} {m : MethodId} {args : Array Value} {below : List Frame} {meth : Method} {c : Code} (g : Gh) (q : Nat → Nat) (X : MX p s m args meth c cX2_canAllBeRight 6 (some .boolean) RX2) {rr : Int32} (σ : St) {d : Nat} (rf : Int32 → Int32 → Int32 → Option Int32) (hrf : ∀ (sz : Nat) (a1 a2 a3 : Int32) {r1 : Int32}, rf a1 a2 a3 = some r1 → Met l yX2_canAllBeRight (wU yX2_canAllBeRight cX2_canAllBeRight 6 (some .boolean)) (rmD (d + 2)) (PQ g (eC g q) q 23 σ sz [.ref (q 1), .int a1, .int a2, .int a3]) (QI g (eC g q) q 23 r1 σ sz) 0 0 (AQ q 23 sz))  (v1 : Int32) (v2 : Int32) (v3 : Int32) (v4 : Int32) (rc31 : Int32 → Option Int32) (hrc31 : ∀ (v4' : Int32), rc31 v4' = some rr → ∀ (H : Heap) (locs : List Loc) (ls : Array Slot), IC g q s σ H locs → lv_has ls 6 [(0, .ref (q 1)), (1, .int v1), (2, .int v2), (3, .int v3), (4, .int v4')] → W p l e (rmD (d + 3)) s m args below meth c H locs 0 0 (MQ below (QI g (eC g q) q 23 rr σ s.heap.size) args s 0 0 (AQ q 23 s.heap.size)) (F0 m 31 ls [])) (hD : D_X2_canAllBeRight_95 rf σ rc31 v1 v2 v3 v4 = some rr) (H : Heap) (locs : List Loc) (ls : Array Slot) (I : IC g q s σ H locs) (hl : lv_has ls 6 [(0, .ref (q 1)), (1, .int v1), (2, .int v2), (3, .int v3), (4, .int v4)]) : W p l e (rmD (d + 3)) s m args below meth c H locs 0 0 (MQ below (QI g (eC g q) q 23 rr σ s.heap.size) args s 0 0 (AQ q 23 s.heap.size)) (F0 m 95 ls []) := by
  have hx := X.1
  have hb := X.2.1
  unfold D_X2_canAllBeRight_95 at hD
  refine lv_iinc (v := v4 + (1 : Int32)) (lv' := [(4, .int (v4 + (1 : Int32))), (0, .ref (q 1)), (1, .int v1), (2, .int v2), (3, .int v3)]) hx hb dX2_canAllBeRight_95 hl (k := 4) rfl rfl (by decide) rfl (fun ls hl => ?_)
  refine lv_goto (tgt := 31) hx hb dX2_canAllBeRight_98 (by decide) ?_
  exact hrc31 (v4 + (1 : Int32)) hD _ _ _ I (lv_sub hl [1, 2, 3, 4, 0] rfl)
def D_X2_canAllBeRight_31b (rf : Int32 → Int32 → Int32 → Option Int32) (σ : St) (rc31 : Int32 → Option Int32) (v1 : Int32) (v2 : Int32) (v3 : Int32) (v4 : Int32) : Option Int32 := gd (inb v2 4) ((D_X4_own σ (5 + v2.toNatClampNeg)).bind fun y28 => if y28 < v4 then some (0 : Int32) else gd (inb v2 4) (if (((σ 4 v2.toNatClampNeg) >>> (v4 &&& 31)) &&& (1 : Int32)) = (1 : Int32) then (D_X0_of σ v4).bind fun y44 => (D_X2_firstOver σ (v3 + y44)).bind fun y49 => if y49 = (-9 : Int32) then (rf v1 (v2 + (1 : Int32)) (v3 + y44)).bind fun y58 => if y58 = 0 then D_X2_canAllBeRight_95 rf σ rc31 v1 v2 v3 v4 else some (1 : Int32) else D_X2_canAllBeRight_95 rf σ rc31 v1 v2 v3 v4 else D_X2_canAllBeRight_95 rf σ rc31 v1 v2 v3 v4))
set_option maxRecDepth 100000 in
set_option maxHeartbeats 4000000 in
theorem w_X2_canAllBeRight_31b {p : Program} {l : Launch} {e : Env} {s : State} {m : MethodId} {args : Array Value} {below : List Frame} {meth : Method} {c : Code} (g : Gh) (q : Nat → Nat) (X : MX p s m args meth c cX2_canAllBeRight 6 (some .boolean) RX2) {rr : Int32} (σ : St) {d : Nat} (rf : Int32 → Int32 → Int32 → Option Int32) (hrf : ∀ (sz : Nat) (a1 a2 a3 : Int32) {r1 : Int32}, rf a1 a2 a3 = some r1 → Met l yX2_canAllBeRight (wU yX2_canAllBeRight cX2_canAllBeRight 6 (some .boolean)) (rmD (d + 2)) (PQ g (eC g q) q 23 σ sz [.ref (q 1), .int a1, .int a2, .int a3]) (QI g (eC g q) q 23 r1 σ sz) 0 0 (AQ q 23 sz))  (v1 : Int32) (v2 : Int32) (v3 : Int32) (v4 : Int32) (rc31 : Int32 → Option Int32) (hrc31 : ∀ (v4' : Int32), rc31 v4' = some rr → ∀ (H : Heap) (locs : List Loc) (ls : Array Slot), IC g q s σ H locs → lv_has ls 6 [(0, .ref (q 1)), (1, .int v1), (2, .int v2), (3, .int v3), (4, .int v4')] → W p l e (rmD (d + 3)) s m args below meth c H locs 0 0 (MQ below (QI g (eC g q) q 23 rr σ s.heap.size) args s 0 0 (AQ q 23 s.heap.size)) (F0 m 31 ls [])) (hD : D_X2_canAllBeRight_31b rf σ rc31 v1 v2 v3 v4 = some rr) (H : Heap) (locs : List Loc) (ls : Array Slot) (I : IC g q s σ H locs) (hl : lv_has ls 6 [(0, .ref (q 1)), (1, .int v1), (2, .int v2), (3, .int v3), (4, .int v4)]) : W p l e (rmD (d + 3)) s m args below meth c H locs 0 0 (MQ below (QI g (eC g q) q 23 rr σ s.heap.size) args s 0 0 (AQ q 23 s.heap.size)) (F0 m 31 ls []) := by
  have hx := X.1
  have hb := X.2.1
  unfold D_X2_canAllBeRight_31b at hD
  refine lv_iload hx hb dX2_canAllBeRight_31 (lv_at hl 4 rfl) ?_
  refine lv_aload_n hx hb dX2_canAllBeRight_33 rfl (lv_at hl 0 rfl) ?_
  refine g_Ride_riders X I fl_X2_17 dX2_canAllBeRight_34 ?_
  refine lv_iload_n hx hb dX2_canAllBeRight_37 rfl (lv_at hl 2 rfl) ?_
  obtain ⟨hg27, hD⟩ := gd_s hD
  refine r_aald (t0 := 2) X I (by decide) rfl (eCr_3 g q _) hg27 dX2_canAllBeRight_38 ?_
  obtain ⟨y28, hy28, hD⟩ := bd_s hD
  refine r_calli (r_runV (As := []) (rest := [.int v4]) X I (c_X4_own l g q _ σ (5 + v2.toNatClampNeg) (kRi_of hg27) hy28) kv_X4_own ml_X2_82 rfl (kRi_lt (kRi_of hg27)) (eC_Rider g q _ (kRi_of hg27)) (rm_le (by decide) (by decide)) ⟨Nat.zero_le _, Nat.zero_le _⟩ rfl rfl hl.1 (Nat.le_of_ble_eq_true rfl) dX2_canAllBeRight_39) I (fun H locs I => ?_)
  refine lv_icmp_gt (tgt := 101) hx hb dX2_canAllBeRight_42 (by decide) (fun hc29 => ?_) (fun hc29 => ?_)
  · have hD := ite_p hc29 hD
    refine lv_iconst (v := 0) hx hb dX2_canAllBeRight_101 (by decide) ?_
    exact r_zret X I hD rfl dX2_canAllBeRight_102
  · have hD := ite_n hc29 hD
    refine lv_aload_n hx hb dX2_canAllBeRight_45 rfl (lv_at hl 0 rfl) ?_
    refine g_Ride_rightSets X I fl_X2_21 dX2_canAllBeRight_46 ?_
    refine lv_iload_n hx hb dX2_canAllBeRight_49 rfl (lv_at hl 2 rfl) ?_
    obtain ⟨hg35, hD⟩ := gd_s hD
    refine r_iald X I (by decide) ((eCa_4 g q) _) hg35 dX2_canAllBeRight_50 ?_
    refine lv_iload hx hb dX2_canAllBeRight_51 (lv_at hl 4 rfl) ?_
    refine lv_ishr hx hb dX2_canAllBeRight_53 ?_
    refine lv_iconst (v := 1) hx hb dX2_canAllBeRight_54 (by decide) ?_
    refine lv_iand hx hb dX2_canAllBeRight_55 ?_
    refine lv_iconst (v := 1) hx hb dX2_canAllBeRight_56 (by decide) ?_
    refine lv_icmp_ne (tgt := 95) hx hb dX2_canAllBeRight_57 (by decide) (fun hc41 => ?_) (fun hc41 => ?_)
    · have hD := ite_n hc41 hD
      exact w_X2_canAllBeRight_95 g q X σ rf hrf v1 v2 v3 v4 rc31 hrc31 hD _ _ _ I (lv_sub hl [0, 1, 2, 3, 4] rfl)
    · have hD := ite_p hc41 hD
      refine lv_iload_n hx hb dX2_canAllBeRight_60 rfl (lv_at hl 3 rfl) ?_
      refine lv_iload hx hb dX2_canAllBeRight_61 (lv_at hl 4 rfl) ?_
      obtain ⟨y44, hy44, hD⟩ := bd_s hD
      refine r_calli (r_runS (As := [.int v4]) (rest := [.int v3]) X I (c_X0_of l g q _ σ v4 hy44) ks_X0_of ml_X2_95 (rm_le (by decide) (by decide)) ⟨Nat.zero_le _, Nat.zero_le _⟩ rfl rfl hl.1 (Nat.le_of_ble_eq_true rfl) dX2_canAllBeRight_63) I (fun H locs I => ?_)
      refine lv_iadd hx hb dX2_canAllBeRight_66 ?_
      refine lv_istore (lv' := [(5, .int (v3 + y44)), (0, .ref (q 1)), (1, .int v1), (2, .int v2), (3, .int v3), (4, .int v4)]) hx hb dX2_canAllBeRight_67 hl (by decide) rfl (fun ls hl => ?_)
      refine lv_aload_n hx hb dX2_canAllBeRight_69 rfl (lv_at hl 1 rfl) ?_
      refine lv_iload hx hb dX2_canAllBeRight_70 (lv_at hl 0 rfl) ?_
      obtain ⟨y49, hy49, hD⟩ := bd_s hD
      refine r_calli (r_runV (As := [.int (v3 + y44)]) (rest := []) X I (c_X2_firstOver l g q _ σ (v3 + y44) hy49) kv_X2_firstOver ml_X2_98 rfl (by decide) (eC_Ride g q _) (rm_le (by decide) (by decide)) ⟨Nat.zero_le _, Nat.zero_le _⟩ rfl rfl hl.1 (Nat.le_of_ble_eq_true rfl) dX2_canAllBeRight_72) I (fun H locs I => ?_)
      refine lv_bipush (v := -9) hx hb dX2_canAllBeRight_75 (by decide) ?_
      refine lv_icmp_ne (tgt := 95) hx hb dX2_canAllBeRight_77 (by decide) (fun hc51 => ?_) (fun hc51 => ?_)
      · have hD := ite_n hc51 hD
        exact w_X2_canAllBeRight_95 g q X σ rf hrf v1 v2 v3 v4 rc31 hrc31 hD _ _ _ I (lv_sub hl [1, 2, 3, 4, 5] rfl)
      · have hD := ite_p hc51 hD
        refine lv_aload_n hx hb dX2_canAllBeRight_80 rfl (lv_at hl 1 rfl) ?_
        refine lv_iload_n hx hb dX2_canAllBeRight_81 rfl (lv_at hl 2 rfl) ?_
        refine lv_iload_n hx hb dX2_canAllBeRight_82 rfl (lv_at hl 3 rfl) ?_
        refine lv_iconst (v := 1) hx hb dX2_canAllBeRight_83 (by decide) ?_
        refine lv_iadd hx hb dX2_canAllBeRight_84 ?_
        refine lv_iload hx hb dX2_canAllBeRight_85 (lv_at hl 0 rfl) ?_
        obtain ⟨y58, hy58, hD⟩ := bd_s hD
        refine r_calli (r_runV (As := [.int v1, .int (v2 + (1 : Int32)), .int (v3 + y44)]) (rest := []) X I (hrf _ v1 (v2 + (1 : Int32)) (v3 + y44) hy58) kv_X2_canAllBeRight ml_X2_105 rfl (by decide) (eC_Ride g q _) roomR ⟨Nat.zero_le _, Nat.zero_le _⟩ rfl rfl hl.1 (Nat.le_of_ble_eq_true rfl) dX2_canAllBeRight_87) I (fun H locs I => ?_)
        refine lv_if_eq (tgt := 95) hx hb dX2_canAllBeRight_90 (by decide) (fun hc59 => ?_) (fun hc59 => ?_)
        · have hD := ite_p hc59 hD
          exact w_X2_canAllBeRight_95 g q X σ rf hrf v1 v2 v3 v4 rc31 hrc31 hD _ _ _ I (lv_sub hl [1, 2, 3, 4, 5] rfl)
        · have hD := ite_n hc59 hD
          refine lv_iconst (v := 1) hx hb dX2_canAllBeRight_93 (by decide) ?_
          exact r_zret X I hD rfl dX2_canAllBeRight_94
def D_X2_canAllBeRight_31 (rf : Int32 → Int32 → Int32 → Option Int32) (σ : St) (v1 : Int32) (v2 : Int32) (v3 : Int32) : Nat → Int32 → Option Int32
  | 0 => fun _ => none
  | n + 1 => fun v4 => D_X2_canAllBeRight_31b rf σ (D_X2_canAllBeRight_31 rf σ v1 v2 v3 n) v1 v2 v3 v4
set_option maxRecDepth 100000 in
set_option maxHeartbeats 4000000 in
theorem w_X2_canAllBeRight_31 {p : Program} {l : Launch} {e : Env} {s : State} {m : MethodId} {args : Array Value} {below : List Frame} {meth : Method} {c : Code} (g : Gh) (q : Nat → Nat) (X : MX p s m args meth c cX2_canAllBeRight 6 (some .boolean) RX2) {rr : Int32} (σ : St) {d : Nat} (rf : Int32 → Int32 → Int32 → Option Int32) (hrf : ∀ (sz : Nat) (a1 a2 a3 : Int32) {r1 : Int32}, rf a1 a2 a3 = some r1 → Met l yX2_canAllBeRight (wU yX2_canAllBeRight cX2_canAllBeRight 6 (some .boolean)) (rmD (d + 2)) (PQ g (eC g q) q 23 σ sz [.ref (q 1), .int a1, .int a2, .int a3]) (QI g (eC g q) q 23 r1 σ sz) 0 0 (AQ q 23 sz))  (v1 : Int32) (v2 : Int32) (v3 : Int32) : ∀ (n : Nat) (v4 : Int32), D_X2_canAllBeRight_31 rf σ v1 v2 v3 n v4 = some rr → ∀ (H : Heap) (locs : List Loc) (ls : Array Slot), IC g q s σ H locs → lv_has ls 6 [(0, .ref (q 1)), (1, .int v1), (2, .int v2), (3, .int v3), (4, .int v4)] → W p l e (rmD (d + 3)) s m args below meth c H locs 0 0 (MQ below (QI g (eC g q) q 23 rr σ s.heap.size) args s 0 0 (AQ q 23 s.heap.size)) (F0 m 31 ls []) := by
  intro n
  induction n with
  | zero =>
    intro v4 hD H locs ls I hl
    cases hD
  | succ n ih =>
    intro v4 hD H locs ls I hl
    exact w_X2_canAllBeRight_31b g q X σ rf hrf v1 v2 v3 v4 _ ih hD H locs ls I hl
def D_X2_canAllBeRight_e (rf : Int32 → Int32 → Int32 → Option Int32) (σ : St) (p1 : Int32) (p2 : Int32) (p3 : Int32) : Option Int32 := if p2 < (σ 1 5) then if ((p1 >>> (p2 &&& 31)) &&& (1 : Int32)) = 0 then (rf p1 (p2 + (1 : Int32)) p3).bind fun y19 => gd (isB y19) (some y19) else D_X2_canAllBeRight_31 rf σ p1 p2 p3 FU (0 : Int32) else some (1 : Int32)
set_option maxRecDepth 100000 in
set_option maxHeartbeats 4000000 in
theorem c_X2_canAllBeRight_e (l : Launch) (g : Gh) (q : Nat → Nat) (sz : Nat) (σ : St) {d : Nat} (rf : Int32 → Int32 → Int32 → Option Int32) (hrf : ∀ (sz : Nat) (a1 a2 a3 : Int32) {r1 : Int32}, rf a1 a2 a3 = some r1 → Met l yX2_canAllBeRight (wU yX2_canAllBeRight cX2_canAllBeRight 6 (some .boolean)) (rmD (d + 2)) (PQ g (eC g q) q 23 σ sz [.ref (q 1), .int a1, .int a2, .int a3]) (QI g (eC g q) q 23 r1 σ sz) 0 0 (AQ q 23 sz))  (p1 : Int32) (p2 : Int32) (p3 : Int32) {rr : Int32} (hD : D_X2_canAllBeRight_e rf σ p1 p2 p3 = some rr) : Met l yX2_canAllBeRight (wU yX2_canAllBeRight cX2_canAllBeRight 6 (some .boolean)) (rmD (d + 3)) (PQ g (eC g q) q 23 σ sz [.ref (q 1), .int p1, .int p2, .int p3]) (QI g (eC g q) q 23 rr σ sz) 0 0 (AQ q 23 sz) := by
  refine met_of (Qc := QI g (eC g q) q 23 rr σ) (by decide) (Nat.le_of_ble_eq_true rfl) ?_
  intro p e s m below meth c ls X I hl
  have hx := X.1
  have hb := X.2.1
  have hl : lv_has ls 6 [(0, .ref (q 1)), (1, .int p1), (2, .int p2), (3, .int p3)] := hl
  unfold D_X2_canAllBeRight_e at hD
  refine lv_iload_n hx hb dX2_canAllBeRight_0 rfl (lv_at hl 2 rfl) ?_
  refine lv_aload_n hx hb dX2_canAllBeRight_1 rfl (lv_at hl 0 rfl) ?_
  refine g_Ride_count X I fl_X2_31 dX2_canAllBeRight_2 ?_
  refine lv_icmp_lt (tgt := 10) hx hb dX2_canAllBeRight_5 (by decide) (fun hc4 => ?_) (fun hc4 => ?_)
  · have hD := ite_p hc4 hD
    refine lv_iload_n hx hb dX2_canAllBeRight_10 rfl (lv_at hl 1 rfl) ?_
    refine lv_iload_n hx hb dX2_canAllBeRight_11 rfl (lv_at hl 2 rfl) ?_
    refine lv_ishr hx hb dX2_canAllBeRight_12 ?_
    refine lv_iconst (v := 1) hx hb dX2_canAllBeRight_13 (by decide) ?_
    refine lv_iand hx hb dX2_canAllBeRight_14 ?_
    refine lv_if_ne (tgt := 28) hx hb dX2_canAllBeRight_15 (by decide) (fun hc10 => ?_) (fun hc10 => ?_)
    · have hD := ite_n hc10 hD
      refine lv_iconst (v := 0) hx hb dX2_canAllBeRight_28 (by decide) ?_
      refine lv_istore (lv' := [(4, .int (0 : Int32)), (0, .ref (q 1)), (1, .int p1), (2, .int p2), (3, .int p3)]) hx hb dX2_canAllBeRight_29 hl (by decide) rfl (fun ls hl => ?_)
      exact w_X2_canAllBeRight_31 g q X σ rf hrf p1 p2 p3 FU (0 : Int32) hD _ _ _ I (lv_sub hl [1, 2, 3, 4, 0] rfl)
    · have hD := ite_p hc10 hD
      refine lv_aload_n hx hb dX2_canAllBeRight_18 rfl (lv_at hl 0 rfl) ?_
      refine lv_iload_n hx hb dX2_canAllBeRight_19 rfl (lv_at hl 1 rfl) ?_
      refine lv_iload_n hx hb dX2_canAllBeRight_20 rfl (lv_at hl 2 rfl) ?_
      refine lv_iconst (v := 1) hx hb dX2_canAllBeRight_21 (by decide) ?_
      refine lv_iadd hx hb dX2_canAllBeRight_22 ?_
      refine lv_iload_n hx hb dX2_canAllBeRight_23 rfl (lv_at hl 3 rfl) ?_
      obtain ⟨y19, hy19, hD⟩ := bd_s hD
      refine r_calli (r_runV (As := [.int p1, .int (p2 + (1 : Int32)), .int p3]) (rest := []) X I (hrf _ p1 (p2 + (1 : Int32)) p3 hy19) kv_X2_canAllBeRight ml_X2_105 rfl (by decide) (eC_Ride g q _) roomR ⟨Nat.zero_le _, Nat.zero_le _⟩ rfl rfl hl.1 (Nat.le_of_ble_eq_true rfl) dX2_canAllBeRight_24) I (fun H locs I => ?_)
      obtain ⟨hg20, hD⟩ := gd_s hD
      exact r_zret X I hD hg20 dX2_canAllBeRight_27
  · have hD := ite_n hc4 hD
    refine lv_iconst (v := 1) hx hb dX2_canAllBeRight_8 (by decide) ?_
    exact r_zret X I hD rfl dX2_canAllBeRight_9
def D_X2_canAllBeRight : Nat → St → Int32 → Int32 → Int32 → Option Int32
  | 0 => fun _ _ _ _ => none
  | n + 1 => fun σ a b c => D_X2_canAllBeRight_e (D_X2_canAllBeRight n σ) σ a b c
theorem c_X2_canAllBeRight (l : Launch) (g : Gh) (q : Nat → Nat) (sz : Nat) : ∀ (n : Nat) (σ : St) (p1 p2 p3 : Int32) {rr : Int32}, D_X2_canAllBeRight n σ p1 p2 p3 = some rr → Met l yX2_canAllBeRight (wU yX2_canAllBeRight cX2_canAllBeRight 6 (some .boolean)) (rmD (n + 2)) (PQ g (eC g q) q 23 σ sz [.ref (q 1), .int p1, .int p2, .int p3]) (QI g (eC g q) q 23 rr σ sz) 0 0 (AQ q 23 sz) := by
  intro n
  induction n generalizing sz with
  | zero =>
    intro σ p1 p2 p3 rr hD
    cases hD
  | succ n ih =>
    intro σ p1 p2 p3 rr hD
    exact c_X2_canAllBeRight_e l g q sz σ (d := n) (D_X2_canAllBeRight n σ) (fun sz a1 a2 a3 r1 h => ih sz σ a1 a2 a3 h) p1 p2 p3 hD

/-! YearDeck$Ride.mostRight()I -/
def D_X2_mostRight_69 (σ : St) (rc36 : Int32 → Int32 → Option (Int32 × St)) (v1 : Int32) (v2 : Int32) : Option (Int32 × St) := rc36 v1 (v2 + (1 : Int32))
set_option maxRecDepth 100000 in
set_option maxHeartbeats 4000000 in
theorem w_X2_mostRight_69 {p : Program} {l : Launch} {e : Env} {s : State} {m : MethodId} {args : Array Value} {below : List Frame} {meth : Method} {c : Code} (g : Gh) (q : Nat → Nat) (X : MX p s m args meth c cX2_mostRight 3 (some .int) RX2) {rr : (Int32 × St)} (σ : St)  (v1 : Int32) (v2 : Int32) (rc36 : Int32 → Int32 → Option (Int32 × St)) (hrc36 : ∀ (v1' : Int32) (v2' : Int32), rc36 v1' v2' = some rr → ∀ (H : Heap) (locs : List Loc) (ls : Array Slot), IC g q s σ H locs → lv_has ls 3 [(0, .ref (q 1)), (1, .int v1'), (2, .int v2')] → W p l e (rmD 9) s m args below meth c H locs 0 0 (MQ below (QI g (eC g q) q 23 rr.1 rr.2 s.heap.size) args s 0 0 (AQ q 23 s.heap.size)) (F0 m 36 ls [])) (hD : D_X2_mostRight_69 σ rc36 v1 v2 = some rr) (H : Heap) (locs : List Loc) (ls : Array Slot) (I : IC g q s σ H locs) (hl : lv_has ls 3 [(0, .ref (q 1)), (1, .int v1), (2, .int v2)]) : W p l e (rmD 9) s m args below meth c H locs 0 0 (MQ below (QI g (eC g q) q 23 rr.1 rr.2 s.heap.size) args s 0 0 (AQ q 23 s.heap.size)) (F0 m 69 ls []) := by
  have hx := X.1
  have hb := X.2.1
  unfold D_X2_mostRight_69 at hD
  refine lv_iinc (v := v2 + (1 : Int32)) (lv' := [(2, .int (v2 + (1 : Int32))), (0, .ref (q 1)), (1, .int v1)]) hx hb dX2_mostRight_69 hl (k := 2) rfl rfl (by decide) rfl (fun ls hl => ?_)
  refine lv_goto (tgt := 36) hx hb dX2_mostRight_72 (by decide) ?_
  exact hrc36 v1 (v2 + (1 : Int32)) hD _ _ _ I (lv_sub hl [1, 2, 0] rfl)
def D_X2_mostRight_36b (σ : St) (rc36 : Int32 → Int32 → Option (Int32 × St)) (v1 : Int32) (v2 : Int32) : Option (Int32 × St) := if ((1 : Int32) <<< ((σ 1 5) &&& 31)) ≤ v2 then some (v1, σ) else (D_J6_bitCount_0f7a4 σ v2).bind fun y32 => (D_J6_bitCount_0f7a4 σ v1).bind fun y34 => if y32 ≤ y34 then D_X2_mostRight_69 σ rc36 v1 v2 else (D_X2_canAllBeRight 6 σ v2 (0 : Int32) (0 : Int32)).bind fun y40 => if y40 = 0 then D_X2_mostRight_69 σ rc36 v1 v2 else D_X2_mostRight_69 σ rc36 v2 v2
set_option maxRecDepth 100000 in
set_option maxHeartbeats 4000000 in
theorem w_X2_mostRight_36b {p : Program} {l : Launch} {e : Env} {s : State} {m : MethodId} {args : Array Value} {below : List Frame} {meth : Method} {c : Code} (g : Gh) (q : Nat → Nat) (X : MX p s m args meth c cX2_mostRight 3 (some .int) RX2) {rr : (Int32 × St)} (σ : St)  (v1 : Int32) (v2 : Int32) (rc36 : Int32 → Int32 → Option (Int32 × St)) (hrc36 : ∀ (v1' : Int32) (v2' : Int32), rc36 v1' v2' = some rr → ∀ (H : Heap) (locs : List Loc) (ls : Array Slot), IC g q s σ H locs → lv_has ls 3 [(0, .ref (q 1)), (1, .int v1'), (2, .int v2')] → W p l e (rmD 9) s m args below meth c H locs 0 0 (MQ below (QI g (eC g q) q 23 rr.1 rr.2 s.heap.size) args s 0 0 (AQ q 23 s.heap.size)) (F0 m 36 ls [])) (hD : D_X2_mostRight_36b σ rc36 v1 v2 = some rr) (H : Heap) (locs : List Loc) (ls : Array Slot) (I : IC g q s σ H locs) (hl : lv_has ls 3 [(0, .ref (q 1)), (1, .int v1), (2, .int v2)]) : W p l e (rmD 9) s m args below meth c H locs 0 0 (MQ below (QI g (eC g q) q 23 rr.1 rr.2 s.heap.size) args s 0 0 (AQ q 23 s.heap.size)) (F0 m 36 ls []) := by
  have hx := X.1
  have hb := X.2.1
  unfold D_X2_mostRight_36b at hD
  refine lv_iload_n hx hb dX2_mostRight_36 rfl (lv_at hl 2 rfl) ?_
  refine lv_iconst (v := 1) hx hb dX2_mostRight_37 (by decide) ?_
  refine lv_aload_n hx hb dX2_mostRight_38 rfl (lv_at hl 0 rfl) ?_
  refine g_Ride_count X I fl_X2_31 dX2_mostRight_39 ?_
  refine lv_ishl hx hb dX2_mostRight_42 ?_
  refine lv_icmp_ge (tgt := 75) hx hb dX2_mostRight_43 (by decide) (fun hc28 => ?_) (fun hc28 => ?_)
  · have hD := ite_p hc28 hD
    refine lv_iload_n hx hb dX2_mostRight_75 rfl (lv_at hl 1 rfl) ?_
    exact r_iret2 X I hD dX2_mostRight_76
  · have hD := ite_n hc28 hD
    refine lv_iload_n hx hb dX2_mostRight_46 rfl (lv_at hl 2 rfl) ?_
    obtain ⟨y32, hy32, hD⟩ := bd_s hD
    refine r_calli (r_runS (As := [.int v2]) (rest := []) X I (c_J6_bitCount_0f7a4 l g q _ σ v2 hy32) ks_J6_bitCount_0f7a4 ml_X2_86 ⟨Nat.le_of_ble_eq_true rfl, Nat.le_of_ble_eq_true rfl⟩ ⟨Nat.zero_le _, Nat.zero_le _⟩ rfl rfl hl.1 (Nat.le_of_ble_eq_true rfl) dX2_mostRight_47) I (fun H locs I => ?_)
    refine lv_iload_n hx hb dX2_mostRight_50 rfl (lv_at hl 1 rfl) ?_
    obtain ⟨y34, hy34, hD⟩ := bd_s hD
    refine r_calli (r_runS (As := [.int v1]) (rest := [.int y32]) X I (c_J6_bitCount_0f7a4 l g q _ σ v1 hy34) ks_J6_bitCount_0f7a4 ml_X2_86 ⟨Nat.le_of_ble_eq_true rfl, Nat.le_of_ble_eq_true rfl⟩ ⟨Nat.zero_le _, Nat.zero_le _⟩ rfl rfl hl.1 (Nat.le_of_ble_eq_true rfl) dX2_mostRight_51) I (fun H locs I => ?_)
    refine lv_icmp_le (tgt := 69) hx hb dX2_mostRight_54 (by decide) (fun hc35 => ?_) (fun hc35 => ?_)
    · have hD := ite_p hc35 hD
      exact w_X2_mostRight_69 g q X σ v1 v2 rc36 hrc36 hD _ _ _ I (lv_sub hl [0, 1, 2] rfl)
    · have hD := ite_n hc35 hD
      refine lv_aload_n hx hb dX2_mostRight_57 rfl (lv_at hl 0 rfl) ?_
      refine lv_iload_n hx hb dX2_mostRight_58 rfl (lv_at hl 2 rfl) ?_
      refine lv_iconst (v := 0) hx hb dX2_mostRight_59 (by decide) ?_
      refine lv_iconst (v := 0) hx hb dX2_mostRight_60 (by decide) ?_
      obtain ⟨y40, hy40, hD⟩ := bd_s hD
      refine r_calli (r_runV (As := [.int v2, .int (0 : Int32), .int (0 : Int32)]) (rest := []) X I (c_X2_canAllBeRight l g q _ 6 σ v2 (0 : Int32) (0 : Int32) hy40) kv_X2_canAllBeRight ml_X2_105 rfl (by decide) (eC_Ride g q _) ⟨Nat.le_of_ble_eq_true rfl, Nat.le_of_ble_eq_true rfl⟩ ⟨Nat.zero_le _, Nat.zero_le _⟩ rfl rfl hl.1 (Nat.le_of_ble_eq_true rfl) dX2_mostRight_61) I (fun H locs I => ?_)
      refine lv_if_eq (tgt := 69) hx hb dX2_mostRight_64 (by decide) (fun hc41 => ?_) (fun hc41 => ?_)
      · have hD := ite_p hc41 hD
        exact w_X2_mostRight_69 g q X σ v1 v2 rc36 hrc36 hD _ _ _ I (lv_sub hl [0, 1, 2] rfl)
      · have hD := ite_n hc41 hD
        refine lv_iload_n hx hb dX2_mostRight_67 rfl (lv_at hl 2 rfl) ?_
        refine lv_istore_n (lv' := [(1, .int v2), (0, .ref (q 1)), (2, .int v2)]) hx hb dX2_mostRight_68 rfl hl (by decide) rfl (fun ls hl => ?_)
        exact w_X2_mostRight_69 g q X σ v2 v2 rc36 hrc36 hD _ _ _ I (lv_sub hl [1, 0, 2] rfl)
def D_X2_mostRight_36 (σ : St) : Nat → Int32 → Int32 → Option (Int32 × St)
  | 0 => fun _ _ => none
  | n + 1 => fun v1 v2 => D_X2_mostRight_36b σ (D_X2_mostRight_36 σ n) v1 v2
set_option maxRecDepth 100000 in
set_option maxHeartbeats 4000000 in
theorem w_X2_mostRight_36 {p : Program} {l : Launch} {e : Env} {s : State} {m : MethodId} {args : Array Value} {below : List Frame} {meth : Method} {c : Code} (g : Gh) (q : Nat → Nat) (X : MX p s m args meth c cX2_mostRight 3 (some .int) RX2) {rr : (Int32 × St)} (σ : St)  : ∀ (n : Nat) (v1 : Int32) (v2 : Int32), D_X2_mostRight_36 σ n v1 v2 = some rr → ∀ (H : Heap) (locs : List Loc) (ls : Array Slot), IC g q s σ H locs → lv_has ls 3 [(0, .ref (q 1)), (1, .int v1), (2, .int v2)] → W p l e (rmD 9) s m args below meth c H locs 0 0 (MQ below (QI g (eC g q) q 23 rr.1 rr.2 s.heap.size) args s 0 0 (AQ q 23 s.heap.size)) (F0 m 36 ls []) := by
  intro n
  induction n with
  | zero =>
    intro v1 v2 hD H locs ls I hl
    cases hD
  | succ n ih =>
    intro v1 v2 hD H locs ls I hl
    exact w_X2_mostRight_36b g q X σ v1 v2 _ ih hD H locs ls I hl
def D_X2_mostRight_32 (σ : St) : Option (Int32 × St) := D_X2_mostRight_36 σ FU (0 : Int32) (1 : Int32)
set_option maxRecDepth 100000 in
set_option maxHeartbeats 4000000 in
theorem w_X2_mostRight_32 {p : Program} {l : Launch} {e : Env} {s : State} {m : MethodId} {args : Array Value} {below : List Frame} {meth : Method} {c : Code} (g : Gh) (q : Nat → Nat) (X : MX p s m args meth c cX2_mostRight 3 (some .int) RX2) {rr : (Int32 × St)} (σ : St)  (hD : D_X2_mostRight_32 σ = some rr) (H : Heap) (locs : List Loc) (ls : Array Slot) (I : IC g q s σ H locs) (hl : lv_has ls 3 [(0, .ref (q 1))]) : W p l e (rmD 9) s m args below meth c H locs 0 0 (MQ below (QI g (eC g q) q 23 rr.1 rr.2 s.heap.size) args s 0 0 (AQ q 23 s.heap.size)) (F0 m 32 ls []) := by
  have hx := X.1
  have hb := X.2.1
  unfold D_X2_mostRight_32 at hD
  refine lv_iconst (v := 0) hx hb dX2_mostRight_32 (by decide) ?_
  refine lv_istore_n (lv' := [(1, .int (0 : Int32)), (0, .ref (q 1))]) hx hb dX2_mostRight_33 rfl hl (by decide) rfl (fun ls hl => ?_)
  refine lv_iconst (v := 1) hx hb dX2_mostRight_34 (by decide) ?_
  refine lv_istore_n (lv' := [(2, .int (1 : Int32)), (1, .int (0 : Int32)), (0, .ref (q 1))]) hx hb dX2_mostRight_35 rfl hl (by decide) rfl (fun ls hl => ?_)
  exact w_X2_mostRight_36 g q X σ FU (0 : Int32) (1 : Int32) hD _ _ _ I (lv_sub hl [2, 1, 0] rfl)
def D_X2_mostRight_2b (σ : St) (rc2 : St → Int32 → Option (Int32 × St)) (v1 : Int32) : Option (Int32 × St) := if (σ 1 5) ≤ v1 then D_X2_mostRight_32 σ else gd (inb v1 4) ((D_X2_setsToBeRight σ (5 + v1.toNatClampNeg)).bind fun y15 => gd (inb v1 4) (rc2 (up2 σ 4 v1.toNatClampNeg y15) (v1 + (1 : Int32))))
set_option maxRecDepth 100000 in
set_option maxHeartbeats 4000000 in
theorem w_X2_mostRight_2b {p : Program} {l : Launch} {e : Env} {s : State} {m : MethodId} {args : Array Value} {below : List Frame} {meth : Method} {c : Code} (g : Gh) (q : Nat → Nat) (X : MX p s m args meth c cX2_mostRight 3 (some .int) RX2) {rr : (Int32 × St)} (σ : St)  (v1 : Int32) (rc2 : St → Int32 → Option (Int32 × St)) (hrc2 : ∀ (σ' : St) (v1' : Int32), rc2 σ' v1' = some rr → ∀ (H : Heap) (locs : List Loc) (ls : Array Slot), IC g q s σ' H locs → lv_has ls 3 [(0, .ref (q 1)), (1, .int v1')] → W p l e (rmD 9) s m args below meth c H locs 0 0 (MQ below (QI g (eC g q) q 23 rr.1 rr.2 s.heap.size) args s 0 0 (AQ q 23 s.heap.size)) (F0 m 2 ls [])) (hD : D_X2_mostRight_2b σ rc2 v1 = some rr) (H : Heap) (locs : List Loc) (ls : Array Slot) (I : IC g q s σ H locs) (hl : lv_has ls 3 [(0, .ref (q 1)), (1, .int v1)]) : W p l e (rmD 9) s m args below meth c H locs 0 0 (MQ below (QI g (eC g q) q 23 rr.1 rr.2 s.heap.size) args s 0 0 (AQ q 23 s.heap.size)) (F0 m 2 ls []) := by
  have hx := X.1
  have hb := X.2.1
  unfold D_X2_mostRight_2b at hD
  refine lv_iload_n hx hb dX2_mostRight_2 rfl (lv_at hl 1 rfl) ?_
  refine lv_aload_n hx hb dX2_mostRight_3 rfl (lv_at hl 0 rfl) ?_
  refine g_Ride_count X I fl_X2_31 dX2_mostRight_4 ?_
  refine lv_icmp_ge (tgt := 32) hx hb dX2_mostRight_7 (by decide) (fun hc6 => ?_) (fun hc6 => ?_)
  · have hD := ite_p hc6 hD
    exact w_X2_mostRight_32 g q X σ hD _ _ _ I (lv_sub hl [0] rfl)
  · have hD := ite_n hc6 hD
    refine lv_aload_n hx hb dX2_mostRight_10 rfl (lv_at hl 0 rfl) ?_
    refine g_Ride_rightSets X I fl_X2_21 dX2_mostRight_11 ?_
    refine lv_iload_n hx hb dX2_mostRight_14 rfl (lv_at hl 1 rfl) ?_
    refine lv_aload_n hx hb dX2_mostRight_15 rfl (lv_at hl 0 rfl) ?_
    refine lv_aload_n hx hb dX2_mostRight_16 rfl (lv_at hl 0 rfl) ?_
    refine g_Ride_riders X I fl_X2_17 dX2_mostRight_17 ?_
    refine lv_iload_n hx hb dX2_mostRight_20 rfl (lv_at hl 1 rfl) ?_
    obtain ⟨hg14, hD⟩ := gd_s hD
    refine r_aald (t0 := 2) X I (by decide) rfl (eCr_3 g q _) hg14 dX2_mostRight_21 ?_
    obtain ⟨y15, hy15, hD⟩ := bd_s hD
    refine r_calli (r_runV (As := [.ref (q (5 + v1.toNatClampNeg))]) (rest := [.int v1, .ref (q 4)]) X I (c_X2_setsToBeRight l g q _ σ (5 + v1.toNatClampNeg) (kRi_of hg14) hy15) kv_X2_setsToBeRight ml_X2_101 rfl (by decide) (eC_Ride g q _) ⟨Nat.le_of_ble_eq_true rfl, Nat.le_of_ble_eq_true rfl⟩ ⟨Nat.zero_le _, Nat.zero_le _⟩ rfl rfl hl.1 (Nat.le_of_ble_eq_true rfl) dX2_mostRight_22) I (fun H locs I => ?_)
    obtain ⟨hg16, hD⟩ := gd_s hD
    refine r_iast (eC_loc g q) X I (by decide) (eCa_4 g q) hg16 dX2_mostRight_25 (fun H locs I => ?_)
    refine lv_iinc (v := v1 + (1 : Int32)) (lv' := [(1, .int (v1 + (1 : Int32))), (0, .ref (q 1))]) hx hb dX2_mostRight_26 hl (k := 1) rfl rfl (by decide) rfl (fun ls hl => ?_)
    refine lv_goto (tgt := 2) hx hb dX2_mostRight_29 (by decide) ?_
    exact hrc2 (up2 σ 4 v1.toNatClampNeg y15) (v1 + (1 : Int32)) hD _ _ _ I (lv_sub hl [1, 0] rfl)
def D_X2_mostRight_2  : Nat → St → Int32 → Option (Int32 × St)
  | 0 => fun _ _ => none
  | n + 1 => fun σ v1 => D_X2_mostRight_2b σ (D_X2_mostRight_2 n) v1
set_option maxRecDepth 100000 in
set_option maxHeartbeats 4000000 in
theorem w_X2_mostRight_2 {p : Program} {l : Launch} {e : Env} {s : State} {m : MethodId} {args : Array Value} {below : List Frame} {meth : Method} {c : Code} (g : Gh) (q : Nat → Nat) (X : MX p s m args meth c cX2_mostRight 3 (some .int) RX2) {rr : (Int32 × St)}  : ∀ (n : Nat) (σ : St) (v1 : Int32), D_X2_mostRight_2 n σ v1 = some rr → ∀ (H : Heap) (locs : List Loc) (ls : Array Slot), IC g q s σ H locs → lv_has ls 3 [(0, .ref (q 1)), (1, .int v1)] → W p l e (rmD 9) s m args below meth c H locs 0 0 (MQ below (QI g (eC g q) q 23 rr.1 rr.2 s.heap.size) args s 0 0 (AQ q 23 s.heap.size)) (F0 m 2 ls []) := by
  intro n
  induction n with
  | zero =>
    intro σ v1 hD H locs ls I hl
    cases hD
  | succ n ih =>
    intro σ v1 hD H locs ls I hl
    exact w_X2_mostRight_2b g q X σ v1 _ ih hD H locs ls I hl
def D_X2_mostRight (σ : St) : Option (Int32 × St) := D_X2_mostRight_2 FU σ (0 : Int32)
set_option maxRecDepth 100000 in
set_option maxHeartbeats 4000000 in
theorem c_X2_mostRight (l : Launch) (g : Gh) (q : Nat → Nat) (sz : Nat) (σ : St) {rr : (Int32 × St)} (hD : D_X2_mostRight σ = some rr) : Met l yX2_mostRight (wU yX2_mostRight cX2_mostRight 3 (some .int)) (rmD 9) (PQ g (eC g q) q 23 σ sz [.ref (q 1)]) (QI g (eC g q) q 23 rr.1 rr.2 sz) 0 0 (AQ q 23 sz) := by
  refine met_of (Qc := QI g (eC g q) q 23 rr.1 rr.2) (by decide) (Nat.le_of_ble_eq_true rfl) ?_
  intro p e s m below meth c ls X I hl
  have hx := X.1
  have hb := X.2.1
  have hl : lv_has ls 3 [(0, .ref (q 1))] := hl
  unfold D_X2_mostRight at hD
  refine lv_iconst (v := 0) hx hb dX2_mostRight_0 (by decide) ?_
  refine lv_istore_n (lv' := [(1, .int (0 : Int32)), (0, .ref (q 1))]) hx hb dX2_mostRight_1 rfl hl (by decide) rfl (fun ls hl => ?_)
  exact w_X2_mostRight_2 g q X FU σ (0 : Int32) hD _ _ _ I (lv_sub hl [1, 0] rfl)
end
