section
-- ===== PART A: goes FIRST, ahead of the names: the tables' words, and 'selects' of the private methods out of them =====
/-- a private method of a class that the tables say can be made, by its rows of tables_1 -/
def lw_okq (q : MethodName × Nat) : Prop := (q.1.cls ≠ "java/lang/invoke/MethodHandle" ∧ q.1.cls ≠ "java/lang/invoke/VarHandle") ∧ Cond.instantiable q.1.cls q.2 ∈ tables_1 ∧ Cond.privateMethod q.1 ∈ tables_1 ∧ Cond.instanceMethod q.1 ∈ tables_1
theorem lw_p0 : lw_okq (⟨"CoastTiles$History", "discardOldest", "()V"⟩, 2) := ⟨⟨by decide +kernel, by decide +kernel⟩, List.mem_of_getElem? (i := 77) (by decide +kernel), List.mem_of_getElem? (i := 183) (by decide +kernel), List.mem_of_getElem? (i := 184) (by decide +kernel)⟩
theorem lw_p1 : lw_okq (⟨"CoastTiles", "reshapedByOutside", "()I"⟩, 8) := ⟨⟨by decide +kernel, by decide +kernel⟩, List.mem_of_getElem? (i := 13) (by decide +kernel), List.mem_of_getElem? (i := 202) (by decide +kernel), List.mem_of_getElem? (i := 203) (by decide +kernel)⟩
theorem lw_p2 : lw_okq (⟨"CoastTiles", "isReshapedBy", "(III)Z"⟩, 8) := ⟨⟨by decide +kernel, by decide +kernel⟩, List.mem_of_getElem? (i := 13) (by decide +kernel), List.mem_of_getElem? (i := 227) (by decide +kernel), List.mem_of_getElem? (i := 228) (by decide +kernel)⟩
theorem lw_p3 : lw_okq (⟨"CoastTiles", "reshapedByTile", "(II)I"⟩, 8) := ⟨⟨by decide +kernel, by decide +kernel⟩, List.mem_of_getElem? (i := 13) (by decide +kernel), List.mem_of_getElem? (i := 254) (by decide +kernel), List.mem_of_getElem? (i := 255) (by decide +kernel)⟩
theorem lw_p4 : lw_okq (⟨"CoastTiles$Spread", "reach", "(LCoastTiles$State;III)V"⟩, 4) := ⟨⟨by decide +kernel, by decide +kernel⟩, List.mem_of_getElem? (i := 94) (by decide +kernel), List.mem_of_getElem? (i := 277) (by decide +kernel), List.mem_of_getElem? (i := 278) (by decide +kernel)⟩
theorem lw_p5 : lw_okq (⟨"CoastTiles$Spread", "reachNeighbours", "(LCoastTiles$State;II)V"⟩, 4) := ⟨⟨by decide +kernel, by decide +kernel⟩, List.mem_of_getElem? (i := 94) (by decide +kernel), List.mem_of_getElem? (i := 290) (by decide +kernel), List.mem_of_getElem? (i := 291) (by decide +kernel)⟩
theorem lw_p6 : lw_okq (⟨"CoastTiles", "turnOnceFromSpare", "()V"⟩, 8) := ⟨⟨by decide +kernel, by decide +kernel⟩, List.mem_of_getElem? (i := 13) (by decide +kernel), List.mem_of_getElem? (i := 320) (by decide +kernel), List.mem_of_getElem? (i := 321) (by decide +kernel)⟩
theorem lw_p7 : lw_okq (⟨"CoastTiles", "rightShapeAt", "(II)I"⟩, 8) := ⟨⟨by decide +kernel, by decide +kernel⟩, List.mem_of_getElem? (i := 13) (by decide +kernel), List.mem_of_getElem? (i := 357) (by decide +kernel), List.mem_of_getElem? (i := 358) (by decide +kernel)⟩
theorem lw_p8 : lw_okq (⟨"CoastTiles", "rightMaskAt", "(II)I"⟩, 8) := ⟨⟨by decide +kernel, by decide +kernel⟩, List.mem_of_getElem? (i := 13) (by decide +kernel), List.mem_of_getElem? (i := 361) (by decide +kernel), List.mem_of_getElem? (i := 362) (by decide +kernel)⟩
theorem lw_p9 : lw_okq (⟨"CoastTiles", "shapeAt", "(II)I"⟩, 8) := ⟨⟨by decide +kernel, by decide +kernel⟩, List.mem_of_getElem? (i := 13) (by decide +kernel), List.mem_of_getElem? (i := 366) (by decide +kernel), List.mem_of_getElem? (i := 367) (by decide +kernel)⟩
theorem lw_p10 : lw_okq (⟨"CoastTiles", "faultsAt", "(II)I"⟩, 8) := ⟨⟨by decide +kernel, by decide +kernel⟩, List.mem_of_getElem? (i := 13) (by decide +kernel), List.mem_of_getElem? (i := 370) (by decide +kernel), List.mem_of_getElem? (i := 371) (by decide +kernel)⟩
theorem lw_p11 : lw_okq (⟨"CoastTiles$TextMap", "accepts", "(I)Z"⟩, 7) := ⟨⟨by decide +kernel, by decide +kernel⟩, List.mem_of_getElem? (i := 115) (by decide +kernel), List.mem_of_getElem? (i := 499) (by decide +kernel), List.mem_of_getElem? (i := 500) (by decide +kernel)⟩
theorem lw_p12 : lw_okq (⟨"CoastTiles$TextMap", "acceptsRowEnd", "()Z"⟩, 7) := ⟨⟨by decide +kernel, by decide +kernel⟩, List.mem_of_getElem? (i := 115) (by decide +kernel), List.mem_of_getElem? (i := 503) (by decide +kernel), List.mem_of_getElem? (i := 504) (by decide +kernel)⟩
theorem lw_p13 : lw_okq (⟨"CoastTiles$TextMap", "rowCanEnd", "()Z"⟩, 7) := ⟨⟨by decide +kernel, by decide +kernel⟩, List.mem_of_getElem? (i := 115) (by decide +kernel), List.mem_of_getElem? (i := 507) (by decide +kernel), List.mem_of_getElem? (i := 508) (by decide +kernel)⟩
theorem lw_p14 : lw_okq (⟨"CoastTiles$TextMap", "acceptsRun", "(Z)Z"⟩, 7) := ⟨⟨by decide +kernel, by decide +kernel⟩, List.mem_of_getElem? (i := 115) (by decide +kernel), List.mem_of_getElem? (i := 511) (by decide +kernel), List.mem_of_getElem? (i := 512) (by decide +kernel)⟩
theorem lw_p15 : lw_okq (⟨"CoastTiles$TextMap", "columnsLeft", "()I"⟩, 7) := ⟨⟨by decide +kernel, by decide +kernel⟩, List.mem_of_getElem? (i := 115) (by decide +kernel), List.mem_of_getElem? (i := 515) (by decide +kernel), List.mem_of_getElem? (i := 516) (by decide +kernel)⟩
def lw_privs_1 : List (MethodName × Nat) := [(⟨"CoastTiles$History", "discardOldest", "()V"⟩, 2), (⟨"CoastTiles", "reshapedByOutside", "()I"⟩, 8), (⟨"CoastTiles", "isReshapedBy", "(III)Z"⟩, 8), (⟨"CoastTiles", "reshapedByTile", "(II)I"⟩, 8), (⟨"CoastTiles$Spread", "reach", "(LCoastTiles$State;III)V"⟩, 4), (⟨"CoastTiles$Spread", "reachNeighbours", "(LCoastTiles$State;II)V"⟩, 4), (⟨"CoastTiles", "turnOnceFromSpare", "()V"⟩, 8), (⟨"CoastTiles", "rightShapeAt", "(II)I"⟩, 8), (⟨"CoastTiles", "rightMaskAt", "(II)I"⟩, 8), (⟨"CoastTiles", "shapeAt", "(II)I"⟩, 8), (⟨"CoastTiles", "faultsAt", "(II)I"⟩, 8), (⟨"CoastTiles$TextMap", "accepts", "(I)Z"⟩, 7), (⟨"CoastTiles$TextMap", "acceptsRowEnd", "()Z"⟩, 7), (⟨"CoastTiles$TextMap", "rowCanEnd", "()Z"⟩, 7), (⟨"CoastTiles$TextMap", "acceptsRun", "(Z)Z"⟩, 7), (⟨"CoastTiles$TextMap", "columnsLeft", "()I"⟩, 7)]
theorem lw_r1 : ∀ q ∈ lw_privs_1, lw_okq q := List.forall_mem_cons.mpr ⟨lw_p0, List.forall_mem_cons.mpr ⟨lw_p1, List.forall_mem_cons.mpr ⟨lw_p2, List.forall_mem_cons.mpr ⟨lw_p3, List.forall_mem_cons.mpr ⟨lw_p4, List.forall_mem_cons.mpr ⟨lw_p5, List.forall_mem_cons.mpr ⟨lw_p6, List.forall_mem_cons.mpr ⟨lw_p7, List.forall_mem_cons.mpr ⟨lw_p8, List.forall_mem_cons.mpr ⟨lw_p9, List.forall_mem_cons.mpr ⟨lw_p10, List.forall_mem_cons.mpr ⟨lw_p11, List.forall_mem_cons.mpr ⟨lw_p12, List.forall_mem_cons.mpr ⟨lw_p13, List.forall_mem_cons.mpr ⟨lw_p14, List.forall_mem_cons.mpr ⟨lw_p15, fun _ h => absurd h List.not_mem_nil⟩⟩⟩⟩⟩⟩⟩⟩⟩⟩⟩⟩⟩⟩⟩⟩
theorem lw_p16 : lw_okq (⟨"CoastTiles$TextMap", "acceptsDigit", "(I)Z"⟩, 7) := ⟨⟨by decide +kernel, by decide +kernel⟩, List.mem_of_getElem? (i := 115) (by decide +kernel), List.mem_of_getElem? (i := 520) (by decide +kernel), List.mem_of_getElem? (i := 521) (by decide +kernel)⟩
theorem lw_p17 : lw_okq (⟨"CoastTilesModel", "water", "()V"⟩, 22) := ⟨⟨by decide +kernel, by decide +kernel⟩, List.mem_of_getElem? (i := 544) (by decide +kernel), List.mem_of_getElem? (i := 556) (by decide +kernel), List.mem_of_getElem? (i := 557) (by decide +kernel)⟩
theorem lw_p18 : lw_okq (⟨"CoastTilesModel", "tiles", "()I"⟩, 22) := ⟨⟨by decide +kernel, by decide +kernel⟩, List.mem_of_getElem? (i := 544) (by decide +kernel), List.mem_of_getElem? (i := 640) (by decide +kernel), List.mem_of_getElem? (i := 641) (by decide +kernel)⟩
theorem lw_p19 : lw_okq (⟨"CoastTilesModel", "record", "()V"⟩, 22) := ⟨⟨by decide +kernel, by decide +kernel⟩, List.mem_of_getElem? (i := 544) (by decide +kernel), List.mem_of_getElem? (i := 648) (by decide +kernel), List.mem_of_getElem? (i := 649) (by decide +kernel)⟩
theorem lw_p20 : lw_okq (⟨"CoastTilesModel", "lookShapes", "()V"⟩, 22) := ⟨⟨by decide +kernel, by decide +kernel⟩, List.mem_of_getElem? (i := 544) (by decide +kernel), List.mem_of_getElem? (i := 663) (by decide +kernel), List.mem_of_getElem? (i := 664) (by decide +kernel)⟩
theorem lw_p21 : lw_okq (⟨"CoastTilesModel", "shapeAt", "(I)I"⟩, 22) := ⟨⟨by decide +kernel, by decide +kernel⟩, List.mem_of_getElem? (i := 544) (by decide +kernel), List.mem_of_getElem? (i := 667) (by decide +kernel), List.mem_of_getElem? (i := 668) (by decide +kernel)⟩
theorem lw_p22 : lw_okq (⟨"CoastTilesModel", "isLandAt", "(I)Z"⟩, 22) := ⟨⟨by decide +kernel, by decide +kernel⟩, List.mem_of_getElem? (i := 544) (by decide +kernel), List.mem_of_getElem? (i := 671) (by decide +kernel), List.mem_of_getElem? (i := 672) (by decide +kernel)⟩
theorem lw_p23 : lw_okq (⟨"CoastTilesModel", "right", "(I)I"⟩, 22) := ⟨⟨by decide +kernel, by decide +kernel⟩, List.mem_of_getElem? (i := 544) (by decide +kernel), List.mem_of_getElem? (i := 675) (by decide +kernel), List.mem_of_getElem? (i := 676) (by decide +kernel)⟩
theorem lw_p24 : lw_okq (⟨"CoastTilesModel", "around", "(II)I"⟩, 22) := ⟨⟨by decide +kernel, by decide +kernel⟩, List.mem_of_getElem? (i := 544) (by decide +kernel), List.mem_of_getElem? (i := 679) (by decide +kernel), List.mem_of_getElem? (i := 680) (by decide +kernel)⟩
theorem lw_p25 : lw_okq (⟨"CoastTilesModel", "isLandBeside", "(III)Z"⟩, 22) := ⟨⟨by decide +kernel, by decide +kernel⟩, List.mem_of_getElem? (i := 544) (by decide +kernel), List.mem_of_getElem? (i := 683) (by decide +kernel), List.mem_of_getElem? (i := 684) (by decide +kernel)⟩
theorem lw_p26 : lw_okq (⟨"CoastTilesModel", "isTile", "(II)Z"⟩, 22) := ⟨⟨by decide +kernel, by decide +kernel⟩, List.mem_of_getElem? (i := 544) (by decide +kernel), List.mem_of_getElem? (i := 693) (by decide +kernel), List.mem_of_getElem? (i := 694) (by decide +kernel)⟩
theorem lw_p27 : lw_okq (⟨"CoastTilesModel", "at", "(II)I"⟩, 22) := ⟨⟨by decide +kernel, by decide +kernel⟩, List.mem_of_getElem? (i := 544) (by decide +kernel), List.mem_of_getElem? (i := 697) (by decide +kernel), List.mem_of_getElem? (i := 698) (by decide +kernel)⟩
theorem lw_p28 : lw_okq (⟨"CoastTilesModel", "reshaped", "()I"⟩, 22) := ⟨⟨by decide +kernel, by decide +kernel⟩, List.mem_of_getElem? (i := 544) (by decide +kernel), List.mem_of_getElem? (i := 701) (by decide +kernel), List.mem_of_getElem? (i := 702) (by decide +kernel)⟩
theorem lw_p29 : lw_okq (⟨"CoastTilesModel", "becomes", "(IZ)Z"⟩, 22) := ⟨⟨by decide +kernel, by decide +kernel⟩, List.mem_of_getElem? (i := 544) (by decide +kernel), List.mem_of_getElem? (i := 709) (by decide +kernel), List.mem_of_getElem? (i := 710) (by decide +kernel)⟩
theorem lw_p30 : lw_okq (⟨"CoastTilesModel", "findRegion", "(IZ)V"⟩, 22) := ⟨⟨by decide +kernel, by decide +kernel⟩, List.mem_of_getElem? (i := 544) (by decide +kernel), List.mem_of_getElem? (i := 717) (by decide +kernel), List.mem_of_getElem? (i := 718) (by decide +kernel)⟩
theorem lw_p31 : lw_okq (⟨"CoastTilesModel", "turnOnce", "()V"⟩, 22) := ⟨⟨by decide +kernel, by decide +kernel⟩, List.mem_of_getElem? (i := 544) (by decide +kernel), List.mem_of_getElem? (i := 736) (by decide +kernel), List.mem_of_getElem? (i := 737) (by decide +kernel)⟩
def lw_privs_2 : List (MethodName × Nat) := [(⟨"CoastTiles$TextMap", "acceptsDigit", "(I)Z"⟩, 7), (⟨"CoastTilesModel", "water", "()V"⟩, 22), (⟨"CoastTilesModel", "tiles", "()I"⟩, 22), (⟨"CoastTilesModel", "record", "()V"⟩, 22), (⟨"CoastTilesModel", "lookShapes", "()V"⟩, 22), (⟨"CoastTilesModel", "shapeAt", "(I)I"⟩, 22), (⟨"CoastTilesModel", "isLandAt", "(I)Z"⟩, 22), (⟨"CoastTilesModel", "right", "(I)I"⟩, 22), (⟨"CoastTilesModel", "around", "(II)I"⟩, 22), (⟨"CoastTilesModel", "isLandBeside", "(III)Z"⟩, 22), (⟨"CoastTilesModel", "isTile", "(II)Z"⟩, 22), (⟨"CoastTilesModel", "at", "(II)I"⟩, 22), (⟨"CoastTilesModel", "reshaped", "()I"⟩, 22), (⟨"CoastTilesModel", "becomes", "(IZ)Z"⟩, 22), (⟨"CoastTilesModel", "findRegion", "(IZ)V"⟩, 22), (⟨"CoastTilesModel", "turnOnce", "()V"⟩, 22)]
theorem lw_r2 : ∀ q ∈ lw_privs_2, lw_okq q := List.forall_mem_cons.mpr ⟨lw_p16, List.forall_mem_cons.mpr ⟨lw_p17, List.forall_mem_cons.mpr ⟨lw_p18, List.forall_mem_cons.mpr ⟨lw_p19, List.forall_mem_cons.mpr ⟨lw_p20, List.forall_mem_cons.mpr ⟨lw_p21, List.forall_mem_cons.mpr ⟨lw_p22, List.forall_mem_cons.mpr ⟨lw_p23, List.forall_mem_cons.mpr ⟨lw_p24, List.forall_mem_cons.mpr ⟨lw_p25, List.forall_mem_cons.mpr ⟨lw_p26, List.forall_mem_cons.mpr ⟨lw_p27, List.forall_mem_cons.mpr ⟨lw_p28, List.forall_mem_cons.mpr ⟨lw_p29, List.forall_mem_cons.mpr ⟨lw_p30, List.forall_mem_cons.mpr ⟨lw_p31, fun _ h => absurd h List.not_mem_nil⟩⟩⟩⟩⟩⟩⟩⟩⟩⟩⟩⟩⟩⟩⟩⟩
theorem lw_p32 : lw_okq (⟨"CoastTilesModel", "turnedBy", "(II)I"⟩, 22) := ⟨⟨by decide +kernel, by decide +kernel⟩, List.mem_of_getElem? (i := 544) (by decide +kernel), List.mem_of_getElem? (i := 740) (by decide +kernel), List.mem_of_getElem? (i := 741) (by decide +kernel)⟩
theorem lw_p33 : lw_okq (⟨"CoastTilesModel", "faultsAt", "(I)I"⟩, 22) := ⟨⟨by decide +kernel, by decide +kernel⟩, List.mem_of_getElem? (i := 544) (by decide +kernel), List.mem_of_getElem? (i := 756) (by decide +kernel), List.mem_of_getElem? (i := 757) (by decide +kernel)⟩
theorem lw_p34 : lw_okq (⟨"CoastTilesModel", "told", "(I)I"⟩, 22) := ⟨⟨by decide +kernel, by decide +kernel⟩, List.mem_of_getElem? (i := 544) (by decide +kernel), List.mem_of_getElem? (i := 779) (by decide +kernel), List.mem_of_getElem? (i := 780) (by decide +kernel)⟩
theorem lw_p35 : lw_okq (⟨"CoastTilesModel", "counted", "(I)I"⟩, 22) := ⟨⟨by decide +kernel, by decide +kernel⟩, List.mem_of_getElem? (i := 544) (by decide +kernel), List.mem_of_getElem? (i := 803) (by decide +kernel), List.mem_of_getElem? (i := 804) (by decide +kernel)⟩
theorem lw_p36 : lw_okq (⟨"CoastTilesModel", "coastAt", "(I)I"⟩, 22) := ⟨⟨by decide +kernel, by decide +kernel⟩, List.mem_of_getElem? (i := 544) (by decide +kernel), List.mem_of_getElem? (i := 825) (by decide +kernel), List.mem_of_getElem? (i := 826) (by decide +kernel)⟩
theorem lw_p37 : lw_okq (⟨"CoastTilesModel", "seeNone", "()V"⟩, 22) := ⟨⟨by decide +kernel, by decide +kernel⟩, List.mem_of_getElem? (i := 544) (by decide +kernel), List.mem_of_getElem? (i := 833) (by decide +kernel), List.mem_of_getElem? (i := 834) (by decide +kernel)⟩
theorem lw_p38 : lw_okq (⟨"CoastTilesModel", "seeFound", "()V"⟩, 22) := ⟨⟨by decide +kernel, by decide +kernel⟩, List.mem_of_getElem? (i := 544) (by decide +kernel), List.mem_of_getElem? (i := 837) (by decide +kernel), List.mem_of_getElem? (i := 838) (by decide +kernel)⟩
theorem lw_p39 : lw_okq (⟨"CoastTilesModel", "isInside", "()Z"⟩, 22) := ⟨⟨by decide +kernel, by decide +kernel⟩, List.mem_of_getElem? (i := 544) (by decide +kernel), List.mem_of_getElem? (i := 845) (by decide +kernel), List.mem_of_getElem? (i := 846) (by decide +kernel)⟩
theorem lw_p40 : lw_okq (⟨"CoastTilesModel", "readOne", "(I)Z"⟩, 22) := ⟨⟨by decide +kernel, by decide +kernel⟩, List.mem_of_getElem? (i := 544) (by decide +kernel), List.mem_of_getElem? (i := 882) (by decide +kernel), List.mem_of_getElem? (i := 883) (by decide +kernel)⟩
theorem lw_p41 : lw_okq (⟨"CoastTilesModel", "room", "()I"⟩, 22) := ⟨⟨by decide +kernel, by decide +kernel⟩, List.mem_of_getElem? (i := 544) (by decide +kernel), List.mem_of_getElem? (i := 886) (by decide +kernel), List.mem_of_getElem? (i := 887) (by decide +kernel)⟩
theorem lw_p42 : lw_okq (⟨"CoastTilesModel", "isRowWhole", "()Z"⟩, 22) := ⟨⟨by decide +kernel, by decide +kernel⟩, List.mem_of_getElem? (i := 544) (by decide +kernel), List.mem_of_getElem? (i := 890) (by decide +kernel), List.mem_of_getElem? (i := 891) (by decide +kernel)⟩
theorem lw_p43 : lw_okq (⟨"CoastTilesModel", "endRow", "()V"⟩, 22) := ⟨⟨by decide +kernel, by decide +kernel⟩, List.mem_of_getElem? (i := 544) (by decide +kernel), List.mem_of_getElem? (i := 894) (by decide +kernel), List.mem_of_getElem? (i := 895) (by decide +kernel)⟩
def lw_privs_3 : List (MethodName × Nat) := [(⟨"CoastTilesModel", "turnedBy", "(II)I"⟩, 22), (⟨"CoastTilesModel", "faultsAt", "(I)I"⟩, 22), (⟨"CoastTilesModel", "told", "(I)I"⟩, 22), (⟨"CoastTilesModel", "counted", "(I)I"⟩, 22), (⟨"CoastTilesModel", "coastAt", "(I)I"⟩, 22), (⟨"CoastTilesModel", "seeNone", "()V"⟩, 22), (⟨"CoastTilesModel", "seeFound", "()V"⟩, 22), (⟨"CoastTilesModel", "isInside", "()Z"⟩, 22), (⟨"CoastTilesModel", "readOne", "(I)Z"⟩, 22), (⟨"CoastTilesModel", "room", "()I"⟩, 22), (⟨"CoastTilesModel", "isRowWhole", "()Z"⟩, 22), (⟨"CoastTilesModel", "endRow", "()V"⟩, 22)]
theorem lw_r3 : ∀ q ∈ lw_privs_3, lw_okq q := List.forall_mem_cons.mpr ⟨lw_p32, List.forall_mem_cons.mpr ⟨lw_p33, List.forall_mem_cons.mpr ⟨lw_p34, List.forall_mem_cons.mpr ⟨lw_p35, List.forall_mem_cons.mpr ⟨lw_p36, List.forall_mem_cons.mpr ⟨lw_p37, List.forall_mem_cons.mpr ⟨lw_p38, List.forall_mem_cons.mpr ⟨lw_p39, List.forall_mem_cons.mpr ⟨lw_p40, List.forall_mem_cons.mpr ⟨lw_p41, List.forall_mem_cons.mpr ⟨lw_p42, List.forall_mem_cons.mpr ⟨lw_p43, fun _ h => absurd h List.not_mem_nil⟩⟩⟩⟩⟩⟩⟩⟩⟩⟩⟩⟩
def lw_privs : List (MethodName × Nat) := lw_privs_1 ++ (lw_privs_2 ++ (lw_privs_3))
def lw_tbl : List Cond := k2_sels lw_privs ++ tables_1
theorem lw_privs_ok : ∀ q ∈ lw_privs, lw_okq q := by
  show ∀ q ∈ lw_privs_1 ++ (lw_privs_2 ++ (lw_privs_3)), lw_okq q
  exact List.forall_mem_append.mpr ⟨lw_r1, List.forall_mem_append.mpr ⟨lw_r2, lw_r3⟩⟩
/-- the streams that the claim lets the run draw from -/
abbrev lw_cs : List Choice := [Jvm.Choice.named "NaN.bits"]
theorem lw_bits : nanBits ∈ lw_cs := by first | decide | exact List.mem_cons_self | simp [lw_cs, nanBits]

/-- the good words of the tables: every method's words -/
def TB : List Cond := lw_tbl.filter goodWord
end
section
def RX0 : String := "CoastTiles$History"
def TX0 : u_T := fun k => match k with
  | 0 => ("CoastTiles$History", "states", "[LCoastTiles$State;", true)
  | _ => ("CoastTiles$History", "kept", "I", false)
def tyX0 : Nat → FieldType := fun k => match k with
  | 0 => .array (.object "CoastTiles$State")
  | _ => .int
abbrev wsX00 : List Cond := u_ws RX0 TX0 2
theorem nmX0 : ∀ a, a < 2 → ∀ b, b < 2 → a ≠ b → (TX0 a).2.1 ≠ (TX0 b).2.1 := by decide +kernel
theorem tyX0_ok : ∀ k, k < 2 → parseFieldDescriptor (TX0 k).2.2.1 = some (tyX0 k) := by decide +kernel
abbrev cX0_init : ByteArray := prog_2_method_1_code
def yX0_init : MethodName := ⟨RX0, "<init>", "()V"⟩
abbrev cX0_record : ByteArray := prog_2_method_2_code
def yX0_record : MethodName := ⟨RX0, "record", "(LCoastTiles$State;)V"⟩
abbrev cX0_takeLatest : ByteArray := prog_2_method_3_code
def yX0_takeLatest : MethodName := ⟨RX0, "takeLatest", "(LCoastTiles$State;)Z"⟩
abbrev cX0_discardOldest : ByteArray := prog_2_method_4_code
def yX0_discardOldest : MethodName := ⟨RX0, "discardOldest", "()V"⟩
def RX1 : String := "CoastTiles$ShapeTable"
def TX1 : u_T := fun k => match k with
  | 0 => ("CoastTiles$ShapeTable", "masks", "[I", true)
  | _ => ("CoastTiles$ShapeTable", "shapesByMask", "[I", true)
def tyX1 : Nat → FieldType := fun k => match k with
  | 0 => .array .int
  | _ => .array .int
abbrev wsX10 : List Cond := u_ws RX1 TX1 2
theorem nmX1 : ∀ a, a < 2 → ∀ b, b < 2 → a ≠ b → (TX1 a).2.1 ≠ (TX1 b).2.1 := by decide +kernel
theorem tyX1_ok : ∀ k, k < 2 → parseFieldDescriptor (TX1 k).2.2.1 = some (tyX1 k) := by decide +kernel
abbrev cX1_init : ByteArray := prog_3_method_1_code
def yX1_init : MethodName := ⟨RX1, "<init>", "()V"⟩
abbrev cX1_maskFor : ByteArray := prog_3_method_2_code
def yX1_maskFor : MethodName := ⟨RX1, "maskFor", "(I)I"⟩
abbrev cX1_shapeFor : ByteArray := prog_3_method_3_code
def yX1_shapeFor : MethodName := ⟨RX1, "shapeFor", "(I)I"⟩
abbrev cX1_turnedShape : ByteArray := prog_3_method_4_code
def yX1_turnedShape : MethodName := ⟨RX1, "turnedShape", "(II)I"⟩
abbrev cX1_mirroredShape : ByteArray := prog_3_method_5_code
def yX1_mirroredShape : MethodName := ⟨RX1, "mirroredShape", "(I)I"⟩
def RX2 : String := "CoastTiles$Spread"
def TX2 : u_T := fun k => match k with
  | 0 => ("CoastTiles$Spread", "queue", "[I", true)
  | 1 => ("CoastTiles$Spread", "steps", "[I", true)
  | 2 => ("CoastTiles$Spread", "reachedTiles", "I", false)
  | _ => ("CoastTiles$Spread", "reachedEdge", "Z", false)
def tyX2 : Nat → FieldType := fun k => match k with
  | 0 => .array .int
  | 1 => .array .int
  | 2 => .int
  | _ => .boolean
abbrev wsX20 : List Cond := u_ws RX2 TX2 4
theorem nmX2 : ∀ a, a < 4 → ∀ b, b < 4 → a ≠ b → (TX2 a).2.1 ≠ (TX2 b).2.1 := by decide +kernel
theorem tyX2_ok : ∀ k, k < 4 → parseFieldDescriptor (TX2 k).2.2.1 = some (tyX2 k) := by decide +kernel
abbrev cX2_init : ByteArray := prog_4_method_1_code
def yX2_init : MethodName := ⟨RX2, "<init>", "()V"⟩
abbrev cX2_forget : ByteArray := prog_4_method_2_code
def yX2_forget : MethodName := ⟨RX2, "forget", "()V"⟩
abbrev cX2_hasReached : ByteArray := prog_4_method_3_code
def yX2_hasReached : MethodName := ⟨RX2, "hasReached", "(II)Z"⟩
abbrev cX2_stepsTo : ByteArray := prog_4_method_4_code
def yX2_stepsTo : MethodName := ⟨RX2, "stepsTo", "(II)I"⟩
abbrev cX2_overRegion : ByteArray := prog_4_method_5_code
def yX2_overRegion : MethodName := ⟨RX2, "overRegion", "(LCoastTiles$State;III)V"⟩
abbrev cX2_reachNeighbours : ByteArray := prog_4_method_6_code
def yX2_reachNeighbours : MethodName := ⟨RX2, "reachNeighbours", "(LCoastTiles$State;II)V"⟩
abbrev cX2_reach : ByteArray := prog_4_method_7_code
def yX2_reach : MethodName := ⟨RX2, "reach", "(LCoastTiles$State;III)V"⟩
def RX3 : String := "CoastTiles$State"
def TX3 : u_T := fun k => match k with
  | 0 => ("CoastTiles$State", "height", "I", false)
  | 1 => ("CoastTiles$State", "width", "I", false)
  | 2 => ("CoastTiles$State", "outsideIsLand", "Z", false)
  | 3 => ("CoastTiles$State", "landTile", "[Z", true)
  | _ => ("CoastTiles$State", "pinnedShape", "[I", true)
def tyX3 : Nat → FieldType := fun k => match k with
  | 0 => .int
  | 1 => .int
  | 2 => .boolean
  | 3 => .array .boolean
  | _ => .array .int
abbrev wsX30 : List Cond := u_ws RX3 TX3 5
theorem nmX3 : ∀ a, a < 5 → ∀ b, b < 5 → a ≠ b → (TX3 a).2.1 ≠ (TX3 b).2.1 := by decide +kernel
theorem tyX3_ok : ∀ k, k < 5 → parseFieldDescriptor (TX3 k).2.2.1 = some (tyX3 k) := by decide +kernel
abbrev cX3_init : ByteArray := prog_5_method_1_code
def yX3_init : MethodName := ⟨RX3, "<init>", "()V"⟩
abbrev cX3_has : ByteArray := prog_5_method_2_code
def yX3_has : MethodName := ⟨RX3, "has", "(II)Z"⟩
abbrev cX3_isLandAt : ByteArray := prog_5_method_3_code
def yX3_isLandAt : MethodName := ⟨RX3, "isLandAt", "(II)Z"⟩
abbrev cX3_pinAt : ByteArray := prog_5_method_4_code
def yX3_pinAt : MethodName := ⟨RX3, "pinAt", "(II)I"⟩
abbrev cX3_isPinnedAt : ByteArray := prog_5_method_5_code
def yX3_isPinnedAt : MethodName := ⟨RX3, "isPinnedAt", "(II)Z"⟩
abbrev cX3_putKind : ByteArray := prog_5_method_6_code
def yX3_putKind : MethodName := ⟨RX3, "putKind", "(IIZ)Z"⟩
abbrev cX3_putPin : ByteArray := prog_5_method_7_code
def yX3_putPin : MethodName := ⟨RX3, "putPin", "(III)V"⟩
abbrev cX3_becomeWater : ByteArray := prog_5_method_8_code
def yX3_becomeWater : MethodName := ⟨RX3, "becomeWater", "(II)V"⟩
abbrev cX3_copyFrom : ByteArray := prog_5_method_9_code
def yX3_copyFrom : MethodName := ⟨RX3, "copyFrom", "(LCoastTiles$State;)V"⟩
abbrev cX3_surroundingsOf : ByteArray := prog_5_method_10_code
def yX3_surroundingsOf : MethodName := ⟨RX3, "surroundingsOf", "(II)I"⟩
abbrev cX3_outsideBitsOf : ByteArray := prog_5_method_11_code
def yX3_outsideBitsOf : MethodName := ⟨RX3, "outsideBitsOf", "(II)I"⟩
abbrev cX3_landTiles : ByteArray := prog_5_method_12_code
def yX3_landTiles : MethodName := ⟨RX3, "landTiles", "()I"⟩
def RX4 : String := "CoastTiles$TextMap"
def TX4 : u_T := fun k => match k with
  | 0 => ("CoastTiles$TextMap", "codes", "[I", true)
  | 1 => ("CoastTiles$TextMap", "length", "I", false)
  | 2 => ("CoastTiles$TextMap", "draft", "LCoastTiles$State;", true)
  | 3 => ("CoastTiles$TextMap", "row", "I", false)
  | 4 => ("CoastTiles$TextMap", "column", "I", false)
  | 5 => ("CoastTiles$TextMap", "columnsOfFirstRow", "I", false)
  | _ => ("CoastTiles$TextMap", "number", "I", false)
def tyX4 : Nat → FieldType := fun k => match k with
  | 0 => .array .int
  | 1 => .int
  | 2 => .object "CoastTiles$State"
  | 3 => .int
  | 4 => .int
  | 5 => .int
  | _ => .int
abbrev wsX40 : List Cond := u_ws RX4 TX4 7
theorem nmX4 : ∀ a, a < 7 → ∀ b, b < 7 → a ≠ b → (TX4 a).2.1 ≠ (TX4 b).2.1 := by decide +kernel
theorem tyX4_ok : ∀ k, k < 7 → parseFieldDescriptor (TX4 k).2.2.1 = some (tyX4 k) := by decide +kernel
abbrev cX4_init : ByteArray := prog_6_method_1_code
def yX4_init : MethodName := ⟨RX4, "<init>", "()V"⟩
abbrev cX4_add : ByteArray := prog_6_method_2_code
def yX4_add : MethodName := ⟨RX4, "add", "(I)Z"⟩
abbrev cX4_parse : ByteArray := prog_6_method_3_code
def yX4_parse : MethodName := ⟨RX4, "parse", "()I"⟩
abbrev cX4_accepts : ByteArray := prog_6_method_4_code
def yX4_accepts : MethodName := ⟨RX4, "accepts", "(I)Z"⟩
abbrev cX4_acceptsRowEnd : ByteArray := prog_6_method_5_code
def yX4_acceptsRowEnd : MethodName := ⟨RX4, "acceptsRowEnd", "()Z"⟩
abbrev cX4_acceptsRun : ByteArray := prog_6_method_6_code
def yX4_acceptsRun : MethodName := ⟨RX4, "acceptsRun", "(Z)Z"⟩
abbrev cX4_acceptsDigit : ByteArray := prog_6_method_7_code
def yX4_acceptsDigit : MethodName := ⟨RX4, "acceptsDigit", "(I)Z"⟩
abbrev cX4_rowCanEnd : ByteArray := prog_6_method_8_code
def yX4_rowCanEnd : MethodName := ⟨RX4, "rowCanEnd", "()Z"⟩
abbrev cX4_columnsLeft : ByteArray := prog_6_method_9_code
def yX4_columnsLeft : MethodName := ⟨RX4, "columnsLeft", "()I"⟩
def RX5 : String := "CoastTiles"
def TX5 : u_T := fun k => match k with
  | 0 => ("CoastTiles", "table", "LCoastTiles$ShapeTable;", true)
  | 1 => ("CoastTiles", "map", "LCoastTiles$State;", true)
  | 2 => ("CoastTiles", "spare", "LCoastTiles$State;", true)
  | 3 => ("CoastTiles", "saved", "LCoastTiles$State;", true)
  | 4 => ("CoastTiles", "hasSaved", "Z", false)
  | 5 => ("CoastTiles", "history", "LCoastTiles$History;", true)
  | 6 => ("CoastTiles", "spread", "LCoastTiles$Spread;", true)
  | _ => ("CoastTiles", "text", "LCoastTiles$TextMap;", true)
def tyX5 : Nat → FieldType := fun k => match k with
  | 0 => .object "CoastTiles$ShapeTable"
  | 1 => .object "CoastTiles$State"
  | 2 => .object "CoastTiles$State"
  | 3 => .object "CoastTiles$State"
  | 4 => .boolean
  | 5 => .object "CoastTiles$History"
  | 6 => .object "CoastTiles$Spread"
  | _ => .object "CoastTiles$TextMap"
abbrev wsX50 : List Cond := u_ws RX5 TX5 8
theorem nmX5 : ∀ a, a < 8 → ∀ b, b < 8 → a ≠ b → (TX5 a).2.1 ≠ (TX5 b).2.1 := by decide +kernel
theorem tyX5_ok : ∀ k, k < 8 → parseFieldDescriptor (TX5 k).2.2.1 = some (tyX5 k) := by decide +kernel
abbrev cX5_init : ByteArray := prog_1_method_1_code
def yX5_init : MethodName := ⟨RX5, "<init>", "()V"⟩
abbrev cX5_begin : ByteArray := prog_1_method_2_code
def yX5_begin : MethodName := ⟨RX5, "begin", "(II)I"⟩
abbrev cX5_setOutside : ByteArray := prog_1_method_3_code
def yX5_setOutside : MethodName := ⟨RX5, "setOutside", "(Z)I"⟩
abbrev cX5_set : ByteArray := prog_1_method_4_code
def yX5_set : MethodName := ⟨RX5, "set", "(IIZ)I"⟩
abbrev cX5_fill : ByteArray := prog_1_method_5_code
def yX5_fill : MethodName := ⟨RX5, "fill", "(IIZ)I"⟩
abbrev cX5_brush : ByteArray := prog_1_method_6_code
def yX5_brush : MethodName := ⟨RX5, "brush", "(IIIZ)I"⟩
abbrev cX5_smooth : ByteArray := prog_1_method_7_code
def yX5_smooth : MethodName := ⟨RX5, "smooth", "(I)I"⟩
abbrev cX5_turn : ByteArray := prog_1_method_8_code
def yX5_turn : MethodName := ⟨RX5, "turn", "(I)I"⟩
abbrev cX5_rows : ByteArray := prog_1_method_9_code
def yX5_rows : MethodName := ⟨RX5, "rows", "()I"⟩
abbrev cX5_columns : ByteArray := prog_1_method_10_code
def yX5_columns : MethodName := ⟨RX5, "columns", "()I"⟩
abbrev cX5_tile : ByteArray := prog_1_method_11_code
def yX5_tile : MethodName := ⟨RX5, "tile", "(III)I"⟩
abbrev cX5_pin : ByteArray := prog_1_method_12_code
def yX5_pin : MethodName := ⟨RX5, "pin", "(III)I"⟩
abbrev cX5_unpin : ByteArray := prog_1_method_13_code
def yX5_unpin : MethodName := ⟨RX5, "unpin", "(II)I"⟩
abbrev cX5_faults : ByteArray := prog_1_method_14_code
def yX5_faults : MethodName := ⟨RX5, "faults", "()I"⟩
abbrev cX5_firstFault : ByteArray := prog_1_method_15_code
def yX5_firstFault : MethodName := ⟨RX5, "firstFault", "()I"⟩
abbrev cX5_maskOf : ByteArray := prog_1_method_16_code
def yX5_maskOf : MethodName := ⟨RX5, "maskOf", "(I)I"⟩
abbrev cX5_shapeOf : ByteArray := prog_1_method_17_code
def yX5_shapeOf : MethodName := ⟨RX5, "shapeOf", "(I)I"⟩
abbrev cX5_turned : ByteArray := prog_1_method_18_code
def yX5_turned : MethodName := ⟨RX5, "turned", "(II)I"⟩
abbrev cX5_mirrored : ByteArray := prog_1_method_19_code
def yX5_mirrored : MethodName := ⟨RX5, "mirrored", "(I)I"⟩
abbrev cX5_count : ByteArray := prog_1_method_20_code
def yX5_count : MethodName := ⟨RX5, "count", "(I)I"⟩
abbrev cX5_shapes : ByteArray := prog_1_method_21_code
def yX5_shapes : MethodName := ⟨RX5, "shapes", "()I"⟩
abbrev cX5_land : ByteArray := prog_1_method_22_code
def yX5_land : MethodName := ⟨RX5, "land", "()I"⟩
abbrev cX5_landShare : ByteArray := prog_1_method_23_code
def yX5_landShare : MethodName := ⟨RX5, "landShare", "()I"⟩
abbrev cX5_coast : ByteArray := prog_1_method_24_code
def yX5_coast : MethodName := ⟨RX5, "coast", "()I"⟩
abbrev cX5_islands : ByteArray := prog_1_method_25_code
def yX5_islands : MethodName := ⟨RX5, "islands", "()I"⟩
abbrev cX5_lakes : ByteArray := prog_1_method_26_code
def yX5_lakes : MethodName := ⟨RX5, "lakes", "()I"⟩
abbrev cX5_region : ByteArray := prog_1_method_27_code
def yX5_region : MethodName := ⟨RX5, "region", "(IIZ)I"⟩
abbrev cX5_largestIsland : ByteArray := prog_1_method_28_code
def yX5_largestIsland : MethodName := ⟨RX5, "largestIsland", "()I"⟩
abbrev cX5_way : ByteArray := prog_1_method_29_code
def yX5_way : MethodName := ⟨RX5, "way", "(IIII)I"⟩
abbrev cX5_coastIfChanged : ByteArray := prog_1_method_30_code
def yX5_coastIfChanged : MethodName := ⟨RX5, "coastIfChanged", "(II)I"⟩
abbrev cX5_needs : ByteArray := prog_1_method_31_code
def yX5_needs : MethodName := ⟨RX5, "needs", "(III)I"⟩
abbrev cX5_append : ByteArray := prog_1_method_32_code
def yX5_append : MethodName := ⟨RX5, "append", "(I)I"⟩
abbrev cX5_clearText : ByteArray := prog_1_method_33_code
def yX5_clearText : MethodName := ⟨RX5, "clearText", "()I"⟩
abbrev cX5_errorPosition : ByteArray := prog_1_method_34_code
def yX5_errorPosition : MethodName := ⟨RX5, "errorPosition", "()I"⟩
abbrev cX5_read : ByteArray := prog_1_method_35_code
def yX5_read : MethodName := ⟨RX5, "read", "()I"⟩
abbrev cX5_undo : ByteArray := prog_1_method_36_code
def yX5_undo : MethodName := ⟨RX5, "undo", "()I"⟩
abbrev cX5_save : ByteArray := prog_1_method_37_code
def yX5_save : MethodName := ⟨RX5, "save", "()I"⟩
abbrev cX5_restore : ByteArray := prog_1_method_38_code
def yX5_restore : MethodName := ⟨RX5, "restore", "()I"⟩
abbrev cX5_isLineCount : ByteArray := prog_1_method_39_code
def yX5_isLineCount : MethodName := ⟨RX5, "isLineCount", "(I)Z"⟩
abbrev cX5_isLineOf : ByteArray := prog_1_method_40_code
def yX5_isLineOf : MethodName := ⟨RX5, "isLineOf", "(II)Z"⟩
abbrev cX5_isShape : ByteArray := prog_1_method_41_code
def yX5_isShape : MethodName := ⟨RX5, "isShape", "(I)Z"⟩
abbrev cX5_position : ByteArray := prog_1_method_42_code
def yX5_position : MethodName := ⟨RX5, "position", "(II)I"⟩
abbrev cX5_rowStep : ByteArray := prog_1_method_43_code
def yX5_rowStep : MethodName := ⟨RX5, "rowStep", "(I)I"⟩
abbrev cX5_columnStep : ByteArray := prog_1_method_44_code
def yX5_columnStep : MethodName := ⟨RX5, "columnStep", "(I)I"⟩
abbrev cX5_rotated : ByteArray := prog_1_method_45_code
def yX5_rotated : MethodName := ⟨RX5, "rotated", "(II)I"⟩
abbrev cX5_bitsThatCount : ByteArray := prog_1_method_46_code
def yX5_bitsThatCount : MethodName := ⟨RX5, "bitsThatCount", "(I)I"⟩
abbrev cX5_regularPart : ByteArray := prog_1_method_47_code
def yX5_regularPart : MethodName := ⟨RX5, "regularPart", "(I)I"⟩
abbrev cX5_bitsOfShare : ByteArray := prog_1_method_48_code
def yX5_bitsOfShare : MethodName := ⟨RX5, "bitsOfShare", "(F)I"⟩
abbrev cX5_rightMaskAt : ByteArray := prog_1_method_49_code
def yX5_rightMaskAt : MethodName := ⟨RX5, "rightMaskAt", "(II)I"⟩
abbrev cX5_rightShapeAt : ByteArray := prog_1_method_50_code
def yX5_rightShapeAt : MethodName := ⟨RX5, "rightShapeAt", "(II)I"⟩
abbrev cX5_shapeAt : ByteArray := prog_1_method_51_code
def yX5_shapeAt : MethodName := ⟨RX5, "shapeAt", "(II)I"⟩
abbrev cX5_faultsAt : ByteArray := prog_1_method_52_code
def yX5_faultsAt : MethodName := ⟨RX5, "faultsAt", "(II)I"⟩
abbrev cX5_isReshapedBy : ByteArray := prog_1_method_53_code
def yX5_isReshapedBy : MethodName := ⟨RX5, "isReshapedBy", "(III)Z"⟩
abbrev cX5_reshapedByOutside : ByteArray := prog_1_method_54_code
def yX5_reshapedByOutside : MethodName := ⟨RX5, "reshapedByOutside", "()I"⟩
abbrev cX5_reshapedByTile : ByteArray := prog_1_method_55_code
def yX5_reshapedByTile : MethodName := ⟨RX5, "reshapedByTile", "(II)I"⟩
abbrev cX5_turnOnceFromSpare : ByteArray := prog_1_method_56_code
def yX5_turnOnceFromSpare : MethodName := ⟨RX5, "turnOnceFromSpare", "()V"⟩
def RX6 : String := "CoastTilesModel"
def TX6 : u_T := fun k => match k with
  | 0 => ("CoastTilesModel", "z", "[I", true)
  | 1 => ("CoastTilesModel", "past", "[I", true)
  | 2 => ("CoastTilesModel", "pastMany", "I", false)
  | 3 => ("CoastTilesModel", "kept", "[I", true)
  | 4 => ("CoastTilesModel", "isKept", "Z", false)
  | 5 => ("CoastTilesModel", "buffer", "[C", true)
  | 6 => ("CoastTilesModel", "typed", "I", false)
  | 7 => ("CoastTilesModel", "masks", "[I", true)
  | 8 => ("CoastTilesModel", "shapes", "[I", true)
  | 9 => ("CoastTilesModel", "before", "[I", true)
  | 10 => ("CoastTilesModel", "found", "[I", true)
  | 11 => ("CoastTilesModel", "steps", "[I", true)
  | 12 => ("CoastTilesModel", "foundMany", "I", false)
  | 13 => ("CoastTilesModel", "sums", "[I", true)
  | 14 => ("CoastTilesModel", "newTiles", "[I", true)
  | 15 => ("CoastTilesModel", "newPins", "[I", true)
  | 16 => ("CoastTilesModel", "isSeen", "[Z", true)
  | 17 => ("CoastTilesModel", "read", "[I", true)
  | 18 => ("CoastTilesModel", "readRows", "I", false)
  | 19 => ("CoastTilesModel", "readColumns", "I", false)
  | 20 => ("CoastTilesModel", "inRow", "I", false)
  | _ => ("CoastTilesModel", "number", "I", false)
def tyX6 : Nat → FieldType := fun k => match k with
  | 0 => .array .int
  | 1 => .array .int
  | 2 => .int
  | 3 => .array .int
  | 4 => .boolean
  | 5 => .array .char
  | 6 => .int
  | 7 => .array .int
  | 8 => .array .int
  | 9 => .array .int
  | 10 => .array .int
  | 11 => .array .int
  | 12 => .int
  | 13 => .array .int
  | 14 => .array .int
  | 15 => .array .int
  | 16 => .array .boolean
  | 17 => .array .int
  | 18 => .int
  | 19 => .int
  | 20 => .int
  | _ => .int
abbrev wsX60 : List Cond := u_ws RX6 TX6 22
theorem nmX6 : ∀ a, a < 22 → ∀ b, b < 22 → a ≠ b → (TX6 a).2.1 ≠ (TX6 b).2.1 := by decide +kernel
theorem tyX6_ok : ∀ k, k < 22 → parseFieldDescriptor (TX6 k).2.2.1 = some (tyX6 k) := by decide +kernel
abbrev cX6_init : ByteArray := prog_8_method_1_code
def yX6_init : MethodName := ⟨RX6, "<init>", "()V"⟩
abbrev cX6_in : ByteArray := prog_8_method_2_code
def yX6_in : MethodName := ⟨RX6, "in", "(III)Z"⟩
abbrev cX6_water : ByteArray := prog_8_method_3_code
def yX6_water : MethodName := ⟨RX6, "water", "()V"⟩
abbrev cX6_tiles : ByteArray := prog_8_method_4_code
def yX6_tiles : MethodName := ⟨RX6, "tiles", "()I"⟩
abbrev cX6_isTile : ByteArray := prog_8_method_5_code
def yX6_isTile : MethodName := ⟨RX6, "isTile", "(II)Z"⟩
abbrev cX6_at : ByteArray := prog_8_method_6_code
def yX6_at : MethodName := ⟨RX6, "at", "(II)I"⟩
abbrev cX6_isLandAt : ByteArray := prog_8_method_7_code
def yX6_isLandAt : MethodName := ⟨RX6, "isLandAt", "(I)Z"⟩
abbrev cX6_record : ByteArray := prog_8_method_8_code
def yX6_record : MethodName := ⟨RX6, "record", "()V"⟩
abbrev cX6_undo : ByteArray := prog_8_method_9_code
def yX6_undo : MethodName := ⟨RX6, "undo", "()I"⟩
abbrev cX6_save : ByteArray := prog_8_method_10_code
def yX6_save : MethodName := ⟨RX6, "save", "()I"⟩
abbrev cX6_restore : ByteArray := prog_8_method_11_code
def yX6_restore : MethodName := ⟨RX6, "restore", "()I"⟩
abbrev cX6_rowBy : ByteArray := prog_8_method_12_code
def yX6_rowBy : MethodName := ⟨RX6, "rowBy", "(I)I"⟩
abbrev cX6_columnBy : ByteArray := prog_8_method_13_code
def yX6_columnBy : MethodName := ⟨RX6, "columnBy", "(I)I"⟩
abbrev cX6_bit : ByteArray := prog_8_method_14_code
def yX6_bit : MethodName := ⟨RX6, "bit", "(II)I"⟩
abbrev cX6_reduced : ByteArray := prog_8_method_15_code
def yX6_reduced : MethodName := ⟨RX6, "reduced", "(I)I"⟩
abbrev cX6_isLandBeside : ByteArray := prog_8_method_16_code
def yX6_isLandBeside : MethodName := ⟨RX6, "isLandBeside", "(III)Z"⟩
abbrev cX6_around : ByteArray := prog_8_method_17_code
def yX6_around : MethodName := ⟨RX6, "around", "(II)I"⟩
abbrev cX6_right : ByteArray := prog_8_method_18_code
def yX6_right : MethodName := ⟨RX6, "right", "(I)I"⟩
abbrev cX6_shapeAt : ByteArray := prog_8_method_19_code
def yX6_shapeAt : MethodName := ⟨RX6, "shapeAt", "(I)I"⟩
abbrev cX6_bits : ByteArray := prog_8_method_20_code
def yX6_bits : MethodName := ⟨RX6, "bits", "(I)I"⟩
abbrev cX6_faultsAt : ByteArray := prog_8_method_21_code
def yX6_faultsAt : MethodName := ⟨RX6, "faultsAt", "(I)I"⟩
abbrev cX6_begin : ByteArray := prog_8_method_22_code
def yX6_begin : MethodName := ⟨RX6, "begin", "(II)I"⟩
abbrev cX6_lookShapes : ByteArray := prog_8_method_23_code
def yX6_lookShapes : MethodName := ⟨RX6, "lookShapes", "()V"⟩
abbrev cX6_reshaped : ByteArray := prog_8_method_24_code
def yX6_reshaped : MethodName := ⟨RX6, "reshaped", "()I"⟩
abbrev cX6_setOutside : ByteArray := prog_8_method_25_code
def yX6_setOutside : MethodName := ⟨RX6, "setOutside", "(Z)I"⟩
abbrev cX6_becomes : ByteArray := prog_8_method_26_code
def yX6_becomes : MethodName := ⟨RX6, "becomes", "(IZ)Z"⟩
abbrev cX6_set : ByteArray := prog_8_method_27_code
def yX6_set : MethodName := ⟨RX6, "set", "(IIZ)I"⟩
abbrev cX6_findRegion : ByteArray := prog_8_method_28_code
def yX6_findRegion : MethodName := ⟨RX6, "findRegion", "(IZ)V"⟩
abbrev cX6_fill : ByteArray := prog_8_method_29_code
def yX6_fill : MethodName := ⟨RX6, "fill", "(IIZ)I"⟩
abbrev cX6_brush : ByteArray := prog_8_method_30_code
def yX6_brush : MethodName := ⟨RX6, "brush", "(IIIZ)I"⟩
abbrev cX6_smooth : ByteArray := prog_8_method_31_code
def yX6_smooth : MethodName := ⟨RX6, "smooth", "(I)I"⟩
abbrev cX6_turnedBy : ByteArray := prog_8_method_32_code
def yX6_turnedBy : MethodName := ⟨RX6, "turnedBy", "(II)I"⟩
abbrev cX6_turnOnce : ByteArray := prog_8_method_33_code
def yX6_turnOnce : MethodName := ⟨RX6, "turnOnce", "()V"⟩
abbrev cX6_turn : ByteArray := prog_8_method_34_code
def yX6_turn : MethodName := ⟨RX6, "turn", "(I)I"⟩
abbrev cX6_rows : ByteArray := prog_8_method_35_code
def yX6_rows : MethodName := ⟨RX6, "rows", "()I"⟩
abbrev cX6_columns : ByteArray := prog_8_method_36_code
def yX6_columns : MethodName := ⟨RX6, "columns", "()I"⟩
abbrev cX6_tile : ByteArray := prog_8_method_37_code
def yX6_tile : MethodName := ⟨RX6, "tile", "(III)I"⟩
abbrev cX6_isShape : ByteArray := prog_8_method_38_code
def yX6_isShape : MethodName := ⟨RX6, "isShape", "(I)Z"⟩
abbrev cX6_pin : ByteArray := prog_8_method_39_code
def yX6_pin : MethodName := ⟨RX6, "pin", "(III)I"⟩
abbrev cX6_unpin : ByteArray := prog_8_method_40_code
def yX6_unpin : MethodName := ⟨RX6, "unpin", "(II)I"⟩
abbrev cX6_faults : ByteArray := prog_8_method_41_code
def yX6_faults : MethodName := ⟨RX6, "faults", "()I"⟩
abbrev cX6_told : ByteArray := prog_8_method_42_code
def yX6_told : MethodName := ⟨RX6, "told", "(I)I"⟩
abbrev cX6_firstFault : ByteArray := prog_8_method_43_code
def yX6_firstFault : MethodName := ⟨RX6, "firstFault", "()I"⟩
abbrev cX6_maskOf : ByteArray := prog_8_method_44_code
def yX6_maskOf : MethodName := ⟨RX6, "maskOf", "(I)I"⟩
abbrev cX6_shapeOf : ByteArray := prog_8_method_45_code
def yX6_shapeOf : MethodName := ⟨RX6, "shapeOf", "(I)I"⟩
abbrev cX6_turned : ByteArray := prog_8_method_46_code
def yX6_turned : MethodName := ⟨RX6, "turned", "(II)I"⟩
abbrev cX6_mirrored : ByteArray := prog_8_method_47_code
def yX6_mirrored : MethodName := ⟨RX6, "mirrored", "(I)I"⟩
abbrev cX6_counted : ByteArray := prog_8_method_48_code
def yX6_counted : MethodName := ⟨RX6, "counted", "(I)I"⟩
abbrev cX6_count : ByteArray := prog_8_method_49_code
def yX6_count : MethodName := ⟨RX6, "count", "(I)I"⟩
abbrev cX6_shapes : ByteArray := prog_8_method_50_code
def yX6_shapes : MethodName := ⟨RX6, "shapes", "()I"⟩
abbrev cX6_land : ByteArray := prog_8_method_51_code
def yX6_land : MethodName := ⟨RX6, "land", "()I"⟩
abbrev cX6_bitsOfFloat : ByteArray := prog_8_method_52_code
def yX6_bitsOfFloat : MethodName := ⟨RX6, "bitsOfFloat", "(F)I"⟩
abbrev cX6_landShare : ByteArray := prog_8_method_53_code
def yX6_landShare : MethodName := ⟨RX6, "landShare", "()I"⟩
abbrev cX6_coastAt : ByteArray := prog_8_method_54_code
def yX6_coastAt : MethodName := ⟨RX6, "coastAt", "(I)I"⟩
abbrev cX6_coast : ByteArray := prog_8_method_55_code
def yX6_coast : MethodName := ⟨RX6, "coast", "()I"⟩
abbrev cX6_seeNone : ByteArray := prog_8_method_56_code
def yX6_seeNone : MethodName := ⟨RX6, "seeNone", "()V"⟩
abbrev cX6_seeFound : ByteArray := prog_8_method_57_code
def yX6_seeFound : MethodName := ⟨RX6, "seeFound", "()V"⟩
abbrev cX6_islands : ByteArray := prog_8_method_58_code
def yX6_islands : MethodName := ⟨RX6, "islands", "()I"⟩
abbrev cX6_isInside : ByteArray := prog_8_method_59_code
def yX6_isInside : MethodName := ⟨RX6, "isInside", "()Z"⟩
abbrev cX6_lakes : ByteArray := prog_8_method_60_code
def yX6_lakes : MethodName := ⟨RX6, "lakes", "()I"⟩
abbrev cX6_region : ByteArray := prog_8_method_61_code
def yX6_region : MethodName := ⟨RX6, "region", "(IIZ)I"⟩
abbrev cX6_largestIsland : ByteArray := prog_8_method_62_code
def yX6_largestIsland : MethodName := ⟨RX6, "largestIsland", "()I"⟩
abbrev cX6_way : ByteArray := prog_8_method_63_code
def yX6_way : MethodName := ⟨RX6, "way", "(IIII)I"⟩
abbrev cX6_coastIfChanged : ByteArray := prog_8_method_64_code
def yX6_coastIfChanged : MethodName := ⟨RX6, "coastIfChanged", "(II)I"⟩
abbrev cX6_needs : ByteArray := prog_8_method_65_code
def yX6_needs : MethodName := ⟨RX6, "needs", "(III)I"⟩
abbrev cX6_append : ByteArray := prog_8_method_66_code
def yX6_append : MethodName := ⟨RX6, "append", "(I)I"⟩
abbrev cX6_clearText : ByteArray := prog_8_method_67_code
def yX6_clearText : MethodName := ⟨RX6, "clearText", "()I"⟩
abbrev cX6_room : ByteArray := prog_8_method_68_code
def yX6_room : MethodName := ⟨RX6, "room", "()I"⟩
abbrev cX6_readOne : ByteArray := prog_8_method_69_code
def yX6_readOne : MethodName := ⟨RX6, "readOne", "(I)Z"⟩
abbrev cX6_isRowWhole : ByteArray := prog_8_method_70_code
def yX6_isRowWhole : MethodName := ⟨RX6, "isRowWhole", "()Z"⟩
abbrev cX6_endRow : ByteArray := prog_8_method_71_code
def yX6_endRow : MethodName := ⟨RX6, "endRow", "()V"⟩
abbrev cX6_errorPosition : ByteArray := prog_8_method_72_code
def yX6_errorPosition : MethodName := ⟨RX6, "errorPosition", "()I"⟩
abbrev cX6_read : ByteArray := prog_8_method_73_code
def yX6_read : MethodName := ⟨RX6, "read", "()I"⟩
def RJ6 : String := "java/lang/Integer"
def TJ6 : u_T := fun k => match k with
  | _ => ("", "", "", false)
def tyJ6 : Nat → FieldType := fun k => match k with
  | _ => .int
abbrev wsJ60 : List Cond := u_ws RJ6 TJ6 0
theorem nmJ6 : ∀ a, a < 0 → ∀ b, b < 0 → a ≠ b → (TJ6 a).2.1 ≠ (TJ6 b).2.1 := by decide +kernel
theorem tyJ6_ok : ∀ k, k < 0 → parseFieldDescriptor (TJ6 k).2.2.1 = some (tyJ6 k) := by decide +kernel
abbrev cJ6_bitCount_0f7a4 : ByteArray := prog_9_method_49_code
def yJ6_bitCount_0f7a4 : MethodName := ⟨RJ6, "bitCount", "(I)I"⟩
def RJ13 : String := "java/lang/Long"
def TJ13 : u_T := fun k => match k with
  | _ => ("", "", "", false)
def tyJ13 : Nat → FieldType := fun k => match k with
  | _ => .int
abbrev wsJ130 : List Cond := u_ws RJ13 TJ13 0
theorem nmJ13 : ∀ a, a < 0 → ∀ b, b < 0 → a ≠ b → (TJ13 a).2.1 ≠ (TJ13 b).2.1 := by decide +kernel
theorem tyJ13_ok : ∀ k, k < 0 → parseFieldDescriptor (TJ13 k).2.2.1 = some (tyJ13 k) := by decide +kernel
abbrev cJ13_bitCount_95d88 : ByteArray := prog_10_method_50_code
def yJ13_bitCount_95d88 : MethodName := ⟨RJ13, "bitCount", "(J)I"⟩
def RJ9 : String := "java/lang/Math"
def TJ9 : u_T := fun k => match k with
  | _ => ("", "", "", false)
def tyJ9 : Nat → FieldType := fun k => match k with
  | _ => .int
abbrev wsJ90 : List Cond := u_ws RJ9 TJ9 0
theorem nmJ9 : ∀ a, a < 0 → ∀ b, b < 0 → a ≠ b → (TJ9 a).2.1 ≠ (TJ9 b).2.1 := by decide +kernel
theorem tyJ9_ok : ∀ k, k < 0 → parseFieldDescriptor (TJ9 k).2.2.1 = some (tyJ9 k) := by decide +kernel
abbrev cJ9_max_7cf53 : ByteArray := prog_11_method_65_code
def yJ9_max_7cf53 : MethodName := ⟨RJ9, "max", "(II)I"⟩
abbrev cJ9_min_7cf53 : ByteArray := prog_11_method_69_code
def yJ9_min_7cf53 : MethodName := ⟨RJ9, "min", "(II)I"⟩
def RJ7 : String := "java/util/Arrays"
def TJ7 : u_T := fun k => match k with
  | _ => ("", "", "", false)
def tyJ7 : Nat → FieldType := fun k => match k with
  | _ => .int
abbrev wsJ70 : List Cond := u_ws RJ7 TJ7 0
theorem nmJ7 : ∀ a, a < 0 → ∀ b, b < 0 → a ≠ b → (TJ7 a).2.1 ≠ (TJ7 b).2.1 := by decide +kernel
theorem tyJ7_ok : ∀ k, k < 0 → parseFieldDescriptor (TJ7 k).2.2.1 = some (tyJ7 k) := by decide +kernel
abbrev cJ7_fill_53178 : ByteArray := prog_12_method_103_code
def yJ7_fill_53178 : MethodName := ⟨RJ7, "fill", "([II)V"⟩
def RL : String := "CoastTilesLaw"
abbrev cL_law : ByteArray := code
def yL_law : MethodName := ⟨RL, "law", "([I)Z"⟩
abbrev vwCl : List vw_C := [(RX0, TX0, 2), (RX1, TX1, 2), (RX2, TX2, 4), (RX3, TX3, 5), (RX4, TX4, 7), (RX5, TX5, 8), (RX6, TX6, 22)]
set_option maxRecDepth 20000 in
theorem inX0 : ∀ w ∈ wsX00, w ∈ TB := by decide +kernel
set_option maxRecDepth 20000 in
theorem inX1 : ∀ w ∈ wsX10, w ∈ TB := by decide +kernel
set_option maxRecDepth 20000 in
theorem inX2 : ∀ w ∈ wsX20, w ∈ TB := by decide +kernel
set_option maxRecDepth 20000 in
theorem inX3 : ∀ w ∈ wsX30, w ∈ TB := by decide +kernel
set_option maxRecDepth 20000 in
theorem inX4 : ∀ w ∈ wsX40, w ∈ TB := by decide +kernel
set_option maxRecDepth 20000 in
theorem inX5 : ∀ w ∈ wsX50, w ∈ TB := by decide +kernel
set_option maxRecDepth 20000 in
theorem inX6 : ∀ w ∈ wsX60, w ∈ TB := by decide +kernel
end
section
theorem dX0_init_0 : decode cX0_init 0 = .ok (.aload_n 0, 1) := by decide +kernel
theorem dX0_init_1 : decode cX0_init 1 = .ok (.invokespecial 3, 3) := by decide +kernel
theorem dX0_init_4 : decode cX0_init 4 = .ok (.aload_n 0, 1) := by decide +kernel
theorem dX0_init_5 : decode cX0_init 5 = .ok (.iconst 5, 1) := by decide +kernel
theorem dX0_init_6 : decode cX0_init 6 = .ok (.anewarray 9, 3) := by decide +kernel
theorem dX0_init_9 : decode cX0_init 9 = .ok (.putfield 11, 3) := by decide +kernel
theorem dX0_init_12 : decode cX0_init 12 = .ok (.aload_n 0, 1) := by decide +kernel
theorem dX0_init_13 : decode cX0_init 13 = .ok (.iconst 0, 1) := by decide +kernel
theorem dX0_init_14 : decode cX0_init 14 = .ok (.putfield 17, 3) := by decide +kernel
theorem dX0_init_17 : decode cX0_init 17 = .ok (.iconst 0, 1) := by decide +kernel
theorem dX0_init_18 : decode cX0_init 18 = .ok (.istore_n 1, 1) := by decide +kernel
theorem dX0_init_19 : decode cX0_init 19 = .ok (.iload_n 1, 1) := by decide +kernel
theorem dX0_init_20 : decode cX0_init 20 = .ok (.iconst 5, 1) := by decide +kernel
theorem dX0_init_21 : decode cX0_init 21 = .ok (.if_icmp .ge 22, 3) := by decide +kernel
theorem dX0_init_24 : decode cX0_init 24 = .ok (.aload_n 0, 1) := by decide +kernel
theorem dX0_init_25 : decode cX0_init 25 = .ok (.getfield 11, 3) := by decide +kernel
theorem dX0_init_28 : decode cX0_init 28 = .ok (.iload_n 1, 1) := by decide +kernel
theorem dX0_init_29 : decode cX0_init 29 = .ok (.new 9, 3) := by decide +kernel
theorem dX0_init_32 : decode cX0_init 32 = .ok (.dup, 1) := by decide +kernel
theorem dX0_init_33 : decode cX0_init 33 = .ok (.invokespecial 21, 3) := by decide +kernel
theorem dX0_init_36 : decode cX0_init 36 = .ok (.aastore, 1) := by decide +kernel
theorem dX0_init_37 : decode cX0_init 37 = .ok (.iinc 1 1, 3) := by decide +kernel
theorem dX0_init_40 : decode cX0_init 40 = .ok (.goto (-21), 3) := by decide +kernel
theorem dX0_init_43 : decode cX0_init 43 = .ok (.return_, 1) := by decide +kernel
theorem dX0_record_0 : decode cX0_record 0 = .ok (.aload_n 0, 1) := by decide +kernel
theorem dX0_record_1 : decode cX0_record 1 = .ok (.getfield 17, 3) := by decide +kernel
theorem dX0_record_4 : decode cX0_record 4 = .ok (.iconst 5, 1) := by decide +kernel
theorem dX0_record_5 : decode cX0_record 5 = .ok (.if_icmp .lt 7, 3) := by decide +kernel
theorem dX0_record_8 : decode cX0_record 8 = .ok (.aload_n 0, 1) := by decide +kernel
theorem dX0_record_9 : decode cX0_record 9 = .ok (.invokevirtual 22, 3) := by decide +kernel
theorem dX0_record_12 : decode cX0_record 12 = .ok (.aload_n 0, 1) := by decide +kernel
theorem dX0_record_13 : decode cX0_record 13 = .ok (.getfield 17, 3) := by decide +kernel
theorem dX0_record_16 : decode cX0_record 16 = .ok (.ifCond .lt 46, 3) := by decide +kernel
theorem dX0_record_19 : decode cX0_record 19 = .ok (.aload_n 0, 1) := by decide +kernel
theorem dX0_record_20 : decode cX0_record 20 = .ok (.getfield 17, 3) := by decide +kernel
theorem dX0_record_23 : decode cX0_record 23 = .ok (.iconst 5, 1) := by decide +kernel
theorem dX0_record_24 : decode cX0_record 24 = .ok (.if_icmp .ge 38, 3) := by decide +kernel
theorem dX0_record_27 : decode cX0_record 27 = .ok (.aload_n 0, 1) := by decide +kernel
theorem dX0_record_28 : decode cX0_record 28 = .ok (.getfield 11, 3) := by decide +kernel
theorem dX0_record_31 : decode cX0_record 31 = .ok (.aload_n 0, 1) := by decide +kernel
theorem dX0_record_32 : decode cX0_record 32 = .ok (.getfield 17, 3) := by decide +kernel
theorem dX0_record_35 : decode cX0_record 35 = .ok (.aaload, 1) := by decide +kernel
theorem dX0_record_36 : decode cX0_record 36 = .ok (.ifnull 26, 3) := by decide +kernel
theorem dX0_record_39 : decode cX0_record 39 = .ok (.aload_n 0, 1) := by decide +kernel
theorem dX0_record_40 : decode cX0_record 40 = .ok (.getfield 11, 3) := by decide +kernel
theorem dX0_record_43 : decode cX0_record 43 = .ok (.aload_n 0, 1) := by decide +kernel
theorem dX0_record_44 : decode cX0_record 44 = .ok (.getfield 17, 3) := by decide +kernel
theorem dX0_record_47 : decode cX0_record 47 = .ok (.aaload, 1) := by decide +kernel
theorem dX0_record_48 : decode cX0_record 48 = .ok (.aload_n 1, 1) := by decide +kernel
theorem dX0_record_49 : decode cX0_record 49 = .ok (.invokevirtual 25, 3) := by decide +kernel
theorem dX0_record_52 : decode cX0_record 52 = .ok (.aload_n 0, 1) := by decide +kernel
theorem dX0_record_53 : decode cX0_record 53 = .ok (.dup, 1) := by decide +kernel
theorem dX0_record_54 : decode cX0_record 54 = .ok (.getfield 17, 3) := by decide +kernel
theorem dX0_record_57 : decode cX0_record 57 = .ok (.iconst 1, 1) := by decide +kernel
theorem dX0_record_58 : decode cX0_record 58 = .ok (.iadd, 1) := by decide +kernel
theorem dX0_record_59 : decode cX0_record 59 = .ok (.putfield 17, 3) := by decide +kernel
theorem dX0_record_62 : decode cX0_record 62 = .ok (.return_, 1) := by decide +kernel
theorem dX0_takeLatest_0 : decode cX0_takeLatest 0 = .ok (.aload_n 0, 1) := by decide +kernel
theorem dX0_takeLatest_1 : decode cX0_takeLatest 1 = .ok (.getfield 17, 3) := by decide +kernel
theorem dX0_takeLatest_4 : decode cX0_takeLatest 4 = .ok (.iconst 1, 1) := by decide +kernel
theorem dX0_takeLatest_5 : decode cX0_takeLatest 5 = .ok (.if_icmp .lt 25, 3) := by decide +kernel
theorem dX0_takeLatest_8 : decode cX0_takeLatest 8 = .ok (.aload_n 0, 1) := by decide +kernel
theorem dX0_takeLatest_9 : decode cX0_takeLatest 9 = .ok (.getfield 17, 3) := by decide +kernel
theorem dX0_takeLatest_12 : decode cX0_takeLatest 12 = .ok (.iconst 5, 1) := by decide +kernel
theorem dX0_takeLatest_13 : decode cX0_takeLatest 13 = .ok (.if_icmp .gt 17, 3) := by decide +kernel
theorem dX0_takeLatest_16 : decode cX0_takeLatest 16 = .ok (.aload_n 0, 1) := by decide +kernel
theorem dX0_takeLatest_17 : decode cX0_takeLatest 17 = .ok (.getfield 11, 3) := by decide +kernel
theorem dX0_takeLatest_20 : decode cX0_takeLatest 20 = .ok (.aload_n 0, 1) := by decide +kernel
theorem dX0_takeLatest_21 : decode cX0_takeLatest 21 = .ok (.getfield 17, 3) := by decide +kernel
theorem dX0_takeLatest_24 : decode cX0_takeLatest 24 = .ok (.iconst 1, 1) := by decide +kernel
theorem dX0_takeLatest_25 : decode cX0_takeLatest 25 = .ok (.isub, 1) := by decide +kernel
theorem dX0_takeLatest_26 : decode cX0_takeLatest 26 = .ok (.aaload, 1) := by decide +kernel
theorem dX0_takeLatest_27 : decode cX0_takeLatest 27 = .ok (.ifnonnull 5, 3) := by decide +kernel
theorem dX0_takeLatest_30 : decode cX0_takeLatest 30 = .ok (.iconst 0, 1) := by decide +kernel
theorem dX0_takeLatest_31 : decode cX0_takeLatest 31 = .ok (.ireturn, 1) := by decide +kernel
theorem dX0_takeLatest_32 : decode cX0_takeLatest 32 = .ok (.aload_n 0, 1) := by decide +kernel
theorem dX0_takeLatest_33 : decode cX0_takeLatest 33 = .ok (.dup, 1) := by decide +kernel
theorem dX0_takeLatest_34 : decode cX0_takeLatest 34 = .ok (.getfield 17, 3) := by decide +kernel
theorem dX0_takeLatest_37 : decode cX0_takeLatest 37 = .ok (.iconst 1, 1) := by decide +kernel
theorem dX0_takeLatest_38 : decode cX0_takeLatest 38 = .ok (.isub, 1) := by decide +kernel
theorem dX0_takeLatest_39 : decode cX0_takeLatest 39 = .ok (.putfield 17, 3) := by decide +kernel
theorem dX0_takeLatest_42 : decode cX0_takeLatest 42 = .ok (.aload_n 1, 1) := by decide +kernel
theorem dX0_takeLatest_43 : decode cX0_takeLatest 43 = .ok (.aload_n 0, 1) := by decide +kernel
theorem dX0_takeLatest_44 : decode cX0_takeLatest 44 = .ok (.getfield 11, 3) := by decide +kernel
theorem dX0_takeLatest_47 : decode cX0_takeLatest 47 = .ok (.aload_n 0, 1) := by decide +kernel
theorem dX0_takeLatest_48 : decode cX0_takeLatest 48 = .ok (.getfield 17, 3) := by decide +kernel
theorem dX0_takeLatest_51 : decode cX0_takeLatest 51 = .ok (.aaload, 1) := by decide +kernel
theorem dX0_takeLatest_52 : decode cX0_takeLatest 52 = .ok (.invokevirtual 25, 3) := by decide +kernel
theorem dX0_takeLatest_55 : decode cX0_takeLatest 55 = .ok (.iconst 1, 1) := by decide +kernel
theorem dX0_takeLatest_56 : decode cX0_takeLatest 56 = .ok (.ireturn, 1) := by decide +kernel
theorem dX0_discardOldest_0 : decode cX0_discardOldest 0 = .ok (.aload_n 0, 1) := by decide +kernel
theorem dX0_discardOldest_1 : decode cX0_discardOldest 1 = .ok (.getfield 11, 3) := by decide +kernel
theorem dX0_discardOldest_4 : decode cX0_discardOldest 4 = .ok (.iconst 0, 1) := by decide +kernel
theorem dX0_discardOldest_5 : decode cX0_discardOldest 5 = .ok (.aaload, 1) := by decide +kernel
theorem dX0_discardOldest_6 : decode cX0_discardOldest 6 = .ok (.astore_n 1, 1) := by decide +kernel
theorem dX0_discardOldest_7 : decode cX0_discardOldest 7 = .ok (.iconst 1, 1) := by decide +kernel
theorem dX0_discardOldest_8 : decode cX0_discardOldest 8 = .ok (.istore_n 2, 1) := by decide +kernel
theorem dX0_discardOldest_9 : decode cX0_discardOldest 9 = .ok (.iload_n 2, 1) := by decide +kernel
theorem dX0_discardOldest_10 : decode cX0_discardOldest 10 = .ok (.iconst 5, 1) := by decide +kernel
theorem dX0_discardOldest_11 : decode cX0_discardOldest 11 = .ok (.if_icmp .ge 23, 3) := by decide +kernel
theorem dX0_discardOldest_14 : decode cX0_discardOldest 14 = .ok (.aload_n 0, 1) := by decide +kernel
theorem dX0_discardOldest_15 : decode cX0_discardOldest 15 = .ok (.getfield 11, 3) := by decide +kernel
theorem dX0_discardOldest_18 : decode cX0_discardOldest 18 = .ok (.iload_n 2, 1) := by decide +kernel
theorem dX0_discardOldest_19 : decode cX0_discardOldest 19 = .ok (.iconst 1, 1) := by decide +kernel
theorem dX0_discardOldest_20 : decode cX0_discardOldest 20 = .ok (.isub, 1) := by decide +kernel
theorem dX0_discardOldest_21 : decode cX0_discardOldest 21 = .ok (.aload_n 0, 1) := by decide +kernel
theorem dX0_discardOldest_22 : decode cX0_discardOldest 22 = .ok (.getfield 11, 3) := by decide +kernel
theorem dX0_discardOldest_25 : decode cX0_discardOldest 25 = .ok (.iload_n 2, 1) := by decide +kernel
theorem dX0_discardOldest_26 : decode cX0_discardOldest 26 = .ok (.aaload, 1) := by decide +kernel
theorem dX0_discardOldest_27 : decode cX0_discardOldest 27 = .ok (.aastore, 1) := by decide +kernel
theorem dX0_discardOldest_28 : decode cX0_discardOldest 28 = .ok (.iinc 2 1, 3) := by decide +kernel
theorem dX0_discardOldest_31 : decode cX0_discardOldest 31 = .ok (.goto (-22), 3) := by decide +kernel
theorem dX0_discardOldest_34 : decode cX0_discardOldest 34 = .ok (.aload_n 0, 1) := by decide +kernel
theorem dX0_discardOldest_35 : decode cX0_discardOldest 35 = .ok (.getfield 11, 3) := by decide +kernel
theorem dX0_discardOldest_38 : decode cX0_discardOldest 38 = .ok (.iconst 4, 1) := by decide +kernel
theorem dX0_discardOldest_39 : decode cX0_discardOldest 39 = .ok (.aload_n 1, 1) := by decide +kernel
theorem dX0_discardOldest_40 : decode cX0_discardOldest 40 = .ok (.aastore, 1) := by decide +kernel
theorem dX0_discardOldest_41 : decode cX0_discardOldest 41 = .ok (.aload_n 0, 1) := by decide +kernel
theorem dX0_discardOldest_42 : decode cX0_discardOldest 42 = .ok (.iconst 4, 1) := by decide +kernel
theorem dX0_discardOldest_43 : decode cX0_discardOldest 43 = .ok (.putfield 17, 3) := by decide +kernel
theorem dX0_discardOldest_46 : decode cX0_discardOldest 46 = .ok (.return_, 1) := by decide +kernel
theorem dX1_init_0 : decode cX1_init 0 = .ok (.aload_n 0, 1) := by decide +kernel
theorem dX1_init_1 : decode cX1_init 1 = .ok (.invokespecial 3, 3) := by decide +kernel
theorem dX1_init_4 : decode cX1_init 4 = .ok (.aload_n 0, 1) := by decide +kernel
theorem dX1_init_5 : decode cX1_init 5 = .ok (.bipush 47, 2) := by decide +kernel
theorem dX1_init_7 : decode cX1_init 7 = .ok (.newarray .int, 2) := by decide +kernel
theorem dX1_init_9 : decode cX1_init 9 = .ok (.putfield 9, 3) := by decide +kernel
theorem dX1_init_12 : decode cX1_init 12 = .ok (.aload_n 0, 1) := by decide +kernel
theorem dX1_init_13 : decode cX1_init 13 = .ok (.sipush 256, 3) := by decide +kernel
theorem dX1_init_16 : decode cX1_init 16 = .ok (.newarray .int, 2) := by decide +kernel
theorem dX1_init_18 : decode cX1_init 18 = .ok (.putfield 15, 3) := by decide +kernel
theorem dX1_init_21 : decode cX1_init 21 = .ok (.iconst 0, 1) := by decide +kernel
theorem dX1_init_22 : decode cX1_init 22 = .ok (.istore_n 1, 1) := by decide +kernel
theorem dX1_init_23 : decode cX1_init 23 = .ok (.iconst 0, 1) := by decide +kernel
theorem dX1_init_24 : decode cX1_init 24 = .ok (.istore_n 2, 1) := by decide +kernel
theorem dX1_init_25 : decode cX1_init 25 = .ok (.iload_n 2, 1) := by decide +kernel
theorem dX1_init_26 : decode cX1_init 26 = .ok (.sipush 256, 3) := by decide +kernel
theorem dX1_init_29 : decode cX1_init 29 = .ok (.if_icmp .ge 51, 3) := by decide +kernel
theorem dX1_init_32 : decode cX1_init 32 = .ok (.iload_n 2, 1) := by decide +kernel
theorem dX1_init_33 : decode cX1_init 33 = .ok (.invokestatic 18, 3) := by decide +kernel
theorem dX1_init_36 : decode cX1_init 36 = .ok (.iload_n 2, 1) := by decide +kernel
theorem dX1_init_37 : decode cX1_init 37 = .ok (.if_icmp .ne 29, 3) := by decide +kernel
theorem dX1_init_40 : decode cX1_init 40 = .ok (.iload_n 1, 1) := by decide +kernel
theorem dX1_init_41 : decode cX1_init 41 = .ok (.bipush 47, 2) := by decide +kernel
theorem dX1_init_43 : decode cX1_init 43 = .ok (.if_icmp .ge 23, 3) := by decide +kernel
theorem dX1_init_46 : decode cX1_init 46 = .ok (.aload_n 0, 1) := by decide +kernel
theorem dX1_init_47 : decode cX1_init 47 = .ok (.getfield 9, 3) := by decide +kernel
theorem dX1_init_50 : decode cX1_init 50 = .ok (.iload_n 1, 1) := by decide +kernel
theorem dX1_init_51 : decode cX1_init 51 = .ok (.iload_n 2, 1) := by decide +kernel
theorem dX1_init_52 : decode cX1_init 52 = .ok (.iastore, 1) := by decide +kernel
theorem dX1_init_53 : decode cX1_init 53 = .ok (.aload_n 0, 1) := by decide +kernel
theorem dX1_init_54 : decode cX1_init 54 = .ok (.getfield 15, 3) := by decide +kernel
theorem dX1_init_57 : decode cX1_init 57 = .ok (.iload_n 2, 1) := by decide +kernel
theorem dX1_init_58 : decode cX1_init 58 = .ok (.iload_n 1, 1) := by decide +kernel
theorem dX1_init_59 : decode cX1_init 59 = .ok (.iastore, 1) := by decide +kernel
theorem dX1_init_60 : decode cX1_init 60 = .ok (.iinc 1 1, 3) := by decide +kernel
theorem dX1_init_63 : decode cX1_init 63 = .ok (.goto 11, 3) := by decide +kernel
theorem dX1_init_66 : decode cX1_init 66 = .ok (.aload_n 0, 1) := by decide +kernel
theorem dX1_init_67 : decode cX1_init 67 = .ok (.getfield 15, 3) := by decide +kernel
theorem dX1_init_70 : decode cX1_init 70 = .ok (.iload_n 2, 1) := by decide +kernel
theorem dX1_init_71 : decode cX1_init 71 = .ok (.bipush (-6), 2) := by decide +kernel
theorem dX1_init_73 : decode cX1_init 73 = .ok (.iastore, 1) := by decide +kernel
theorem dX1_init_74 : decode cX1_init 74 = .ok (.iinc 2 1, 3) := by decide +kernel
theorem dX1_init_77 : decode cX1_init 77 = .ok (.goto (-52), 3) := by decide +kernel
theorem dX1_init_80 : decode cX1_init 80 = .ok (.return_, 1) := by decide +kernel
theorem dX1_maskFor_0 : decode cX1_maskFor 0 = .ok (.iload_n 1, 1) := by decide +kernel
theorem dX1_maskFor_1 : decode cX1_maskFor 1 = .ok (.invokestatic 22, 3) := by decide +kernel
theorem dX1_maskFor_4 : decode cX1_maskFor 4 = .ok (.ifCond .eq 12, 3) := by decide +kernel
theorem dX1_maskFor_7 : decode cX1_maskFor 7 = .ok (.aload_n 0, 1) := by decide +kernel
theorem dX1_maskFor_8 : decode cX1_maskFor 8 = .ok (.getfield 9, 3) := by decide +kernel
theorem dX1_maskFor_11 : decode cX1_maskFor 11 = .ok (.iload_n 1, 1) := by decide +kernel
theorem dX1_maskFor_12 : decode cX1_maskFor 12 = .ok (.iaload, 1) := by decide +kernel
theorem dX1_maskFor_13 : decode cX1_maskFor 13 = .ok (.goto 4, 3) := by decide +kernel
theorem dX1_maskFor_16 : decode cX1_maskFor 16 = .ok (.iconst 0, 1) := by decide +kernel
theorem dX1_maskFor_17 : decode cX1_maskFor 17 = .ok (.ireturn, 1) := by decide +kernel
theorem dX1_shapeFor_0 : decode cX1_shapeFor 0 = .ok (.iload_n 1, 1) := by decide +kernel
theorem dX1_shapeFor_1 : decode cX1_shapeFor 1 = .ok (.ifCond .lt 19, 3) := by decide +kernel
theorem dX1_shapeFor_4 : decode cX1_shapeFor 4 = .ok (.iload_n 1, 1) := by decide +kernel
theorem dX1_shapeFor_5 : decode cX1_shapeFor 5 = .ok (.sipush 256, 3) := by decide +kernel
theorem dX1_shapeFor_8 : decode cX1_shapeFor 8 = .ok (.if_icmp .ge 12, 3) := by decide +kernel
theorem dX1_shapeFor_11 : decode cX1_shapeFor 11 = .ok (.aload_n 0, 1) := by decide +kernel
theorem dX1_shapeFor_12 : decode cX1_shapeFor 12 = .ok (.getfield 15, 3) := by decide +kernel
theorem dX1_shapeFor_15 : decode cX1_shapeFor 15 = .ok (.iload_n 1, 1) := by decide +kernel
theorem dX1_shapeFor_16 : decode cX1_shapeFor 16 = .ok (.iaload, 1) := by decide +kernel
theorem dX1_shapeFor_17 : decode cX1_shapeFor 17 = .ok (.goto 5, 3) := by decide +kernel
theorem dX1_shapeFor_20 : decode cX1_shapeFor 20 = .ok (.bipush (-6), 2) := by decide +kernel
theorem dX1_shapeFor_22 : decode cX1_shapeFor 22 = .ok (.ireturn, 1) := by decide +kernel
theorem dX1_turnedShape_0 : decode cX1_turnedShape 0 = .ok (.aload_n 0, 1) := by decide +kernel
theorem dX1_turnedShape_1 : decode cX1_turnedShape 1 = .ok (.aload_n 0, 1) := by decide +kernel
theorem dX1_turnedShape_2 : decode cX1_turnedShape 2 = .ok (.iload_n 1, 1) := by decide +kernel
theorem dX1_turnedShape_3 : decode cX1_turnedShape 3 = .ok (.invokevirtual 26, 3) := by decide +kernel
theorem dX1_turnedShape_6 : decode cX1_turnedShape 6 = .ok (.iconst 2, 1) := by decide +kernel
theorem dX1_turnedShape_7 : decode cX1_turnedShape 7 = .ok (.iload_n 2, 1) := by decide +kernel
theorem dX1_turnedShape_8 : decode cX1_turnedShape 8 = .ok (.imul, 1) := by decide +kernel
theorem dX1_turnedShape_9 : decode cX1_turnedShape 9 = .ok (.invokestatic 29, 3) := by decide +kernel
theorem dX1_turnedShape_12 : decode cX1_turnedShape 12 = .ok (.invokevirtual 33, 3) := by decide +kernel
theorem dX1_turnedShape_15 : decode cX1_turnedShape 15 = .ok (.ireturn, 1) := by decide +kernel
theorem dX1_mirroredShape_0 : decode cX1_mirroredShape 0 = .ok (.aload_n 0, 1) := by decide +kernel
theorem dX1_mirroredShape_1 : decode cX1_mirroredShape 1 = .ok (.iload_n 1, 1) := by decide +kernel
theorem dX1_mirroredShape_2 : decode cX1_mirroredShape 2 = .ok (.invokevirtual 26, 3) := by decide +kernel
theorem dX1_mirroredShape_5 : decode cX1_mirroredShape 5 = .ok (.istore_n 2, 1) := by decide +kernel
theorem dX1_mirroredShape_6 : decode cX1_mirroredShape 6 = .ok (.iconst 0, 1) := by decide +kernel
theorem dX1_mirroredShape_7 : decode cX1_mirroredShape 7 = .ok (.istore_n 3, 1) := by decide +kernel
theorem dX1_mirroredShape_8 : decode cX1_mirroredShape 8 = .ok (.iconst 0, 1) := by decide +kernel
theorem dX1_mirroredShape_9 : decode cX1_mirroredShape 9 = .ok (.istore 4, 2) := by decide +kernel
theorem dX1_mirroredShape_11 : decode cX1_mirroredShape 11 = .ok (.iload 4, 2) := by decide +kernel
theorem dX1_mirroredShape_13 : decode cX1_mirroredShape 13 = .ok (.bipush 8, 2) := by decide +kernel
theorem dX1_mirroredShape_15 : decode cX1_mirroredShape 15 = .ok (.if_icmp .ge 31, 3) := by decide +kernel
theorem dX1_mirroredShape_18 : decode cX1_mirroredShape 18 = .ok (.iload_n 2, 1) := by decide +kernel
theorem dX1_mirroredShape_19 : decode cX1_mirroredShape 19 = .ok (.iload 4, 2) := by decide +kernel
theorem dX1_mirroredShape_21 : decode cX1_mirroredShape 21 = .ok (.ishr, 1) := by decide +kernel
theorem dX1_mirroredShape_22 : decode cX1_mirroredShape 22 = .ok (.iconst 1, 1) := by decide +kernel
theorem dX1_mirroredShape_23 : decode cX1_mirroredShape 23 = .ok (.iand, 1) := by decide +kernel
theorem dX1_mirroredShape_24 : decode cX1_mirroredShape 24 = .ok (.ifCond .eq 16, 3) := by decide +kernel
theorem dX1_mirroredShape_27 : decode cX1_mirroredShape 27 = .ok (.iload_n 3, 1) := by decide +kernel
theorem dX1_mirroredShape_28 : decode cX1_mirroredShape 28 = .ok (.iconst 1, 1) := by decide +kernel
theorem dX1_mirroredShape_29 : decode cX1_mirroredShape 29 = .ok (.bipush 8, 2) := by decide +kernel
theorem dX1_mirroredShape_31 : decode cX1_mirroredShape 31 = .ok (.iload 4, 2) := by decide +kernel
theorem dX1_mirroredShape_33 : decode cX1_mirroredShape 33 = .ok (.isub, 1) := by decide +kernel
theorem dX1_mirroredShape_34 : decode cX1_mirroredShape 34 = .ok (.bipush 7, 2) := by decide +kernel
theorem dX1_mirroredShape_36 : decode cX1_mirroredShape 36 = .ok (.iand, 1) := by decide +kernel
theorem dX1_mirroredShape_37 : decode cX1_mirroredShape 37 = .ok (.ishl, 1) := by decide +kernel
theorem dX1_mirroredShape_38 : decode cX1_mirroredShape 38 = .ok (.ior, 1) := by decide +kernel
theorem dX1_mirroredShape_39 : decode cX1_mirroredShape 39 = .ok (.istore_n 3, 1) := by decide +kernel
theorem dX1_mirroredShape_40 : decode cX1_mirroredShape 40 = .ok (.iinc 4 1, 3) := by decide +kernel
theorem dX1_mirroredShape_43 : decode cX1_mirroredShape 43 = .ok (.goto (-32), 3) := by decide +kernel
theorem dX1_mirroredShape_46 : decode cX1_mirroredShape 46 = .ok (.aload_n 0, 1) := by decide +kernel
theorem dX1_mirroredShape_47 : decode cX1_mirroredShape 47 = .ok (.iload_n 3, 1) := by decide +kernel
theorem dX1_mirroredShape_48 : decode cX1_mirroredShape 48 = .ok (.invokevirtual 33, 3) := by decide +kernel
theorem dX1_mirroredShape_51 : decode cX1_mirroredShape 51 = .ok (.ireturn, 1) := by decide +kernel
theorem dX2_init_0 : decode cX2_init 0 = .ok (.aload_n 0, 1) := by decide +kernel
theorem dX2_init_1 : decode cX2_init 1 = .ok (.invokespecial 3, 3) := by decide +kernel
theorem dX2_init_4 : decode cX2_init 4 = .ok (.aload_n 0, 1) := by decide +kernel
theorem dX2_init_5 : decode cX2_init 5 = .ok (.sipush 144, 3) := by decide +kernel
theorem dX2_init_8 : decode cX2_init 8 = .ok (.newarray .int, 2) := by decide +kernel
theorem dX2_init_10 : decode cX2_init 10 = .ok (.putfield 9, 3) := by decide +kernel
theorem dX2_init_13 : decode cX2_init 13 = .ok (.aload_n 0, 1) := by decide +kernel
theorem dX2_init_14 : decode cX2_init 14 = .ok (.sipush 144, 3) := by decide +kernel
theorem dX2_init_17 : decode cX2_init 17 = .ok (.newarray .int, 2) := by decide +kernel
theorem dX2_init_19 : decode cX2_init 19 = .ok (.putfield 15, 3) := by decide +kernel
theorem dX2_init_22 : decode cX2_init 22 = .ok (.aload_n 0, 1) := by decide +kernel
theorem dX2_init_23 : decode cX2_init 23 = .ok (.iconst 0, 1) := by decide +kernel
theorem dX2_init_24 : decode cX2_init 24 = .ok (.putfield 18, 3) := by decide +kernel
theorem dX2_init_27 : decode cX2_init 27 = .ok (.aload_n 0, 1) := by decide +kernel
theorem dX2_init_28 : decode cX2_init 28 = .ok (.iconst 0, 1) := by decide +kernel
theorem dX2_init_29 : decode cX2_init 29 = .ok (.putfield 22, 3) := by decide +kernel
theorem dX2_init_32 : decode cX2_init 32 = .ok (.return_, 1) := by decide +kernel
theorem dX2_forget_0 : decode cX2_forget 0 = .ok (.aload_n 0, 1) := by decide +kernel
theorem dX2_forget_1 : decode cX2_forget 1 = .ok (.getfield 15, 3) := by decide +kernel
theorem dX2_forget_4 : decode cX2_forget 4 = .ok (.iconst (-1), 1) := by decide +kernel
theorem dX2_forget_5 : decode cX2_forget 5 = .ok (.invokestatic 26, 3) := by decide +kernel
theorem dX2_forget_8 : decode cX2_forget 8 = .ok (.return_, 1) := by decide +kernel
theorem dX2_hasReached_0 : decode cX2_hasReached 0 = .ok (.aload_n 0, 1) := by decide +kernel
theorem dX2_hasReached_1 : decode cX2_hasReached 1 = .ok (.iload_n 1, 1) := by decide +kernel
theorem dX2_hasReached_2 : decode cX2_hasReached 2 = .ok (.iload_n 2, 1) := by decide +kernel
theorem dX2_hasReached_3 : decode cX2_hasReached 3 = .ok (.invokevirtual 32, 3) := by decide +kernel
theorem dX2_hasReached_6 : decode cX2_hasReached 6 = .ok (.iconst (-1), 1) := by decide +kernel
theorem dX2_hasReached_7 : decode cX2_hasReached 7 = .ok (.if_icmp .eq 7, 3) := by decide +kernel
theorem dX2_hasReached_10 : decode cX2_hasReached 10 = .ok (.iconst 1, 1) := by decide +kernel
theorem dX2_hasReached_11 : decode cX2_hasReached 11 = .ok (.goto 4, 3) := by decide +kernel
theorem dX2_hasReached_14 : decode cX2_hasReached 14 = .ok (.iconst 0, 1) := by decide +kernel
theorem dX2_hasReached_15 : decode cX2_hasReached 15 = .ok (.ireturn, 1) := by decide +kernel
theorem dX2_stepsTo_0 : decode cX2_stepsTo 0 = .ok (.iload_n 1, 1) := by decide +kernel
theorem dX2_stepsTo_1 : decode cX2_stepsTo 1 = .ok (.bipush 12, 2) := by decide +kernel
theorem dX2_stepsTo_3 : decode cX2_stepsTo 3 = .ok (.imul, 1) := by decide +kernel
theorem dX2_stepsTo_4 : decode cX2_stepsTo 4 = .ok (.iload_n 2, 1) := by decide +kernel
theorem dX2_stepsTo_5 : decode cX2_stepsTo 5 = .ok (.iadd, 1) := by decide +kernel
theorem dX2_stepsTo_6 : decode cX2_stepsTo 6 = .ok (.istore_n 3, 1) := by decide +kernel
theorem dX2_stepsTo_7 : decode cX2_stepsTo 7 = .ok (.iload_n 3, 1) := by decide +kernel
theorem dX2_stepsTo_8 : decode cX2_stepsTo 8 = .ok (.ifCond .lt 19, 3) := by decide +kernel
theorem dX2_stepsTo_11 : decode cX2_stepsTo 11 = .ok (.iload_n 3, 1) := by decide +kernel
theorem dX2_stepsTo_12 : decode cX2_stepsTo 12 = .ok (.sipush 144, 3) := by decide +kernel
theorem dX2_stepsTo_15 : decode cX2_stepsTo 15 = .ok (.if_icmp .ge 12, 3) := by decide +kernel
theorem dX2_stepsTo_18 : decode cX2_stepsTo 18 = .ok (.aload_n 0, 1) := by decide +kernel
theorem dX2_stepsTo_19 : decode cX2_stepsTo 19 = .ok (.getfield 15, 3) := by decide +kernel
theorem dX2_stepsTo_22 : decode cX2_stepsTo 22 = .ok (.iload_n 3, 1) := by decide +kernel
theorem dX2_stepsTo_23 : decode cX2_stepsTo 23 = .ok (.iaload, 1) := by decide +kernel
theorem dX2_stepsTo_24 : decode cX2_stepsTo 24 = .ok (.goto 4, 3) := by decide +kernel
theorem dX2_stepsTo_27 : decode cX2_stepsTo 27 = .ok (.iconst (-1), 1) := by decide +kernel
theorem dX2_stepsTo_28 : decode cX2_stepsTo 28 = .ok (.ireturn, 1) := by decide +kernel
theorem dX2_overRegion_0 : decode cX2_overRegion 0 = .ok (.aload_n 0, 1) := by decide +kernel
theorem dX2_overRegion_1 : decode cX2_overRegion 1 = .ok (.iconst 0, 1) := by decide +kernel
theorem dX2_overRegion_2 : decode cX2_overRegion 2 = .ok (.putfield 18, 3) := by decide +kernel
theorem dX2_overRegion_5 : decode cX2_overRegion 5 = .ok (.aload_n 0, 1) := by decide +kernel
theorem dX2_overRegion_6 : decode cX2_overRegion 6 = .ok (.iconst 0, 1) := by decide +kernel
theorem dX2_overRegion_7 : decode cX2_overRegion 7 = .ok (.putfield 22, 3) := by decide +kernel
theorem dX2_overRegion_10 : decode cX2_overRegion 10 = .ok (.aload_n 0, 1) := by decide +kernel
theorem dX2_overRegion_11 : decode cX2_overRegion 11 = .ok (.aload_n 1, 1) := by decide +kernel
theorem dX2_overRegion_12 : decode cX2_overRegion 12 = .ok (.iload_n 2, 1) := by decide +kernel
theorem dX2_overRegion_13 : decode cX2_overRegion 13 = .ok (.iload_n 3, 1) := by decide +kernel
theorem dX2_overRegion_14 : decode cX2_overRegion 14 = .ok (.iconst 0, 1) := by decide +kernel
theorem dX2_overRegion_15 : decode cX2_overRegion 15 = .ok (.invokevirtual 36, 3) := by decide +kernel
theorem dX2_overRegion_18 : decode cX2_overRegion 18 = .ok (.iconst 0, 1) := by decide +kernel
theorem dX2_overRegion_19 : decode cX2_overRegion 19 = .ok (.istore 5, 2) := by decide +kernel
theorem dX2_overRegion_21 : decode cX2_overRegion 21 = .ok (.iload 5, 2) := by decide +kernel
theorem dX2_overRegion_23 : decode cX2_overRegion 23 = .ok (.aload_n 0, 1) := by decide +kernel
theorem dX2_overRegion_24 : decode cX2_overRegion 24 = .ok (.getfield 18, 3) := by decide +kernel
theorem dX2_overRegion_27 : decode cX2_overRegion 27 = .ok (.if_icmp .ge 31, 3) := by decide +kernel
theorem dX2_overRegion_30 : decode cX2_overRegion 30 = .ok (.iload 5, 2) := by decide +kernel
theorem dX2_overRegion_32 : decode cX2_overRegion 32 = .ok (.sipush 144, 3) := by decide +kernel
theorem dX2_overRegion_35 : decode cX2_overRegion 35 = .ok (.if_icmp .ge 23, 3) := by decide +kernel
theorem dX2_overRegion_38 : decode cX2_overRegion 38 = .ok (.aload_n 0, 1) := by decide +kernel
theorem dX2_overRegion_39 : decode cX2_overRegion 39 = .ok (.aload_n 1, 1) := by decide +kernel
theorem dX2_overRegion_40 : decode cX2_overRegion 40 = .ok (.aload_n 0, 1) := by decide +kernel
theorem dX2_overRegion_41 : decode cX2_overRegion 41 = .ok (.getfield 9, 3) := by decide +kernel
theorem dX2_overRegion_44 : decode cX2_overRegion 44 = .ok (.iload 5, 2) := by decide +kernel
theorem dX2_overRegion_46 : decode cX2_overRegion 46 = .ok (.iaload, 1) := by decide +kernel
theorem dX2_overRegion_47 : decode cX2_overRegion 47 = .ok (.iload 4, 2) := by decide +kernel
theorem dX2_overRegion_49 : decode cX2_overRegion 49 = .ok (.invokevirtual 40, 3) := by decide +kernel
theorem dX2_overRegion_52 : decode cX2_overRegion 52 = .ok (.iinc 5 1, 3) := by decide +kernel
theorem dX2_overRegion_55 : decode cX2_overRegion 55 = .ok (.goto (-34), 3) := by decide +kernel
theorem dX2_overRegion_58 : decode cX2_overRegion 58 = .ok (.return_, 1) := by decide +kernel
theorem dX2_reachNeighbours_0 : decode cX2_reachNeighbours 0 = .ok (.iload_n 2, 1) := by decide +kernel
theorem dX2_reachNeighbours_1 : decode cX2_reachNeighbours 1 = .ok (.bipush 12, 2) := by decide +kernel
theorem dX2_reachNeighbours_3 : decode cX2_reachNeighbours 3 = .ok (.idiv, 1) := by decide +kernel
theorem dX2_reachNeighbours_4 : decode cX2_reachNeighbours 4 = .ok (.istore 4, 2) := by decide +kernel
theorem dX2_reachNeighbours_6 : decode cX2_reachNeighbours 6 = .ok (.iload_n 2, 1) := by decide +kernel
theorem dX2_reachNeighbours_7 : decode cX2_reachNeighbours 7 = .ok (.bipush 12, 2) := by decide +kernel
theorem dX2_reachNeighbours_9 : decode cX2_reachNeighbours 9 = .ok (.irem, 1) := by decide +kernel
theorem dX2_reachNeighbours_10 : decode cX2_reachNeighbours 10 = .ok (.istore 5, 2) := by decide +kernel
theorem dX2_reachNeighbours_12 : decode cX2_reachNeighbours 12 = .ok (.aload_n 1, 1) := by decide +kernel
theorem dX2_reachNeighbours_13 : decode cX2_reachNeighbours 13 = .ok (.iload 4, 2) := by decide +kernel
theorem dX2_reachNeighbours_15 : decode cX2_reachNeighbours 15 = .ok (.iload 5, 2) := by decide +kernel
theorem dX2_reachNeighbours_17 : decode cX2_reachNeighbours 17 = .ok (.invokevirtual 44, 3) := by decide +kernel
theorem dX2_reachNeighbours_20 : decode cX2_reachNeighbours 20 = .ok (.istore 6, 2) := by decide +kernel
theorem dX2_reachNeighbours_22 : decode cX2_reachNeighbours 22 = .ok (.aload_n 0, 1) := by decide +kernel
theorem dX2_reachNeighbours_23 : decode cX2_reachNeighbours 23 = .ok (.iload 4, 2) := by decide +kernel
theorem dX2_reachNeighbours_25 : decode cX2_reachNeighbours 25 = .ok (.iload 5, 2) := by decide +kernel
theorem dX2_reachNeighbours_27 : decode cX2_reachNeighbours 27 = .ok (.invokevirtual 32, 3) := by decide +kernel
theorem dX2_reachNeighbours_30 : decode cX2_reachNeighbours 30 = .ok (.iconst 1, 1) := by decide +kernel
theorem dX2_reachNeighbours_31 : decode cX2_reachNeighbours 31 = .ok (.iadd, 1) := by decide +kernel
theorem dX2_reachNeighbours_32 : decode cX2_reachNeighbours 32 = .ok (.istore 7, 2) := by decide +kernel
theorem dX2_reachNeighbours_34 : decode cX2_reachNeighbours 34 = .ok (.iconst 0, 1) := by decide +kernel
theorem dX2_reachNeighbours_35 : decode cX2_reachNeighbours 35 = .ok (.istore 8, 2) := by decide +kernel
theorem dX2_reachNeighbours_37 : decode cX2_reachNeighbours 37 = .ok (.iload 8, 2) := by decide +kernel
theorem dX2_reachNeighbours_39 : decode cX2_reachNeighbours 39 = .ok (.bipush 8, 2) := by decide +kernel
theorem dX2_reachNeighbours_41 : decode cX2_reachNeighbours 41 = .ok (.if_icmp .ge 60, 3) := by decide +kernel
theorem dX2_reachNeighbours_44 : decode cX2_reachNeighbours 44 = .ok (.iload 4, 2) := by decide +kernel
theorem dX2_reachNeighbours_46 : decode cX2_reachNeighbours 46 = .ok (.iload 8, 2) := by decide +kernel
theorem dX2_reachNeighbours_48 : decode cX2_reachNeighbours 48 = .ok (.invokestatic 50, 3) := by decide +kernel
theorem dX2_reachNeighbours_51 : decode cX2_reachNeighbours 51 = .ok (.iadd, 1) := by decide +kernel
theorem dX2_reachNeighbours_52 : decode cX2_reachNeighbours 52 = .ok (.istore 9, 2) := by decide +kernel
theorem dX2_reachNeighbours_54 : decode cX2_reachNeighbours 54 = .ok (.iload 5, 2) := by decide +kernel
theorem dX2_reachNeighbours_56 : decode cX2_reachNeighbours 56 = .ok (.iload 8, 2) := by decide +kernel
theorem dX2_reachNeighbours_58 : decode cX2_reachNeighbours 58 = .ok (.invokestatic 54, 3) := by decide +kernel
theorem dX2_reachNeighbours_61 : decode cX2_reachNeighbours 61 = .ok (.iadd, 1) := by decide +kernel
theorem dX2_reachNeighbours_62 : decode cX2_reachNeighbours 62 = .ok (.istore 10, 2) := by decide +kernel
theorem dX2_reachNeighbours_64 : decode cX2_reachNeighbours 64 = .ok (.aload_n 1, 1) := by decide +kernel
theorem dX2_reachNeighbours_65 : decode cX2_reachNeighbours 65 = .ok (.iload 9, 2) := by decide +kernel
theorem dX2_reachNeighbours_67 : decode cX2_reachNeighbours 67 = .ok (.iload 10, 2) := by decide +kernel
theorem dX2_reachNeighbours_69 : decode cX2_reachNeighbours 69 = .ok (.invokevirtual 44, 3) := by decide +kernel
theorem dX2_reachNeighbours_72 : decode cX2_reachNeighbours 72 = .ok (.iload 6, 2) := by decide +kernel
theorem dX2_reachNeighbours_74 : decode cX2_reachNeighbours 74 = .ok (.if_icmp .ne 14, 3) := by decide +kernel
theorem dX2_reachNeighbours_77 : decode cX2_reachNeighbours 77 = .ok (.aload_n 0, 1) := by decide +kernel
theorem dX2_reachNeighbours_78 : decode cX2_reachNeighbours 78 = .ok (.aload_n 1, 1) := by decide +kernel
theorem dX2_reachNeighbours_79 : decode cX2_reachNeighbours 79 = .ok (.iload 9, 2) := by decide +kernel
theorem dX2_reachNeighbours_81 : decode cX2_reachNeighbours 81 = .ok (.iload 10, 2) := by decide +kernel
theorem dX2_reachNeighbours_83 : decode cX2_reachNeighbours 83 = .ok (.iload 7, 2) := by decide +kernel
theorem dX2_reachNeighbours_85 : decode cX2_reachNeighbours 85 = .ok (.invokevirtual 36, 3) := by decide +kernel
theorem dX2_reachNeighbours_88 : decode cX2_reachNeighbours 88 = .ok (.iload 8, 2) := by decide +kernel
theorem dX2_reachNeighbours_90 : decode cX2_reachNeighbours 90 = .ok (.iload_n 3, 1) := by decide +kernel
theorem dX2_reachNeighbours_91 : decode cX2_reachNeighbours 91 = .ok (.iconst 1, 1) := by decide +kernel
theorem dX2_reachNeighbours_92 : decode cX2_reachNeighbours 92 = .ok (.invokestatic 57, 3) := by decide +kernel
theorem dX2_reachNeighbours_95 : decode cX2_reachNeighbours 95 = .ok (.iadd, 1) := by decide +kernel
theorem dX2_reachNeighbours_96 : decode cX2_reachNeighbours 96 = .ok (.istore 8, 2) := by decide +kernel
theorem dX2_reachNeighbours_98 : decode cX2_reachNeighbours 98 = .ok (.goto (-61), 3) := by decide +kernel
theorem dX2_reachNeighbours_101 : decode cX2_reachNeighbours 101 = .ok (.return_, 1) := by decide +kernel
theorem dX2_reach_0 : decode cX2_reach 0 = .ok (.aload_n 1, 1) := by decide +kernel
theorem dX2_reach_1 : decode cX2_reach 1 = .ok (.iload_n 2, 1) := by decide +kernel
theorem dX2_reach_2 : decode cX2_reach 2 = .ok (.iload_n 3, 1) := by decide +kernel
theorem dX2_reach_3 : decode cX2_reach 3 = .ok (.invokevirtual 62, 3) := by decide +kernel
theorem dX2_reach_6 : decode cX2_reach 6 = .ok (.ifCond .eq 12, 3) := by decide +kernel
theorem dX2_reach_9 : decode cX2_reach 9 = .ok (.aload_n 0, 1) := by decide +kernel
theorem dX2_reach_10 : decode cX2_reach 10 = .ok (.iload_n 2, 1) := by decide +kernel
theorem dX2_reach_11 : decode cX2_reach 11 = .ok (.iload_n 3, 1) := by decide +kernel
theorem dX2_reach_12 : decode cX2_reach 12 = .ok (.invokevirtual 65, 3) := by decide +kernel
theorem dX2_reach_15 : decode cX2_reach 15 = .ok (.ifCond .eq 4, 3) := by decide +kernel
theorem dX2_reach_18 : decode cX2_reach 18 = .ok (.return_, 1) := by decide +kernel
theorem dX2_reach_19 : decode cX2_reach 19 = .ok (.aload_n 0, 1) := by decide +kernel
theorem dX2_reach_20 : decode cX2_reach 20 = .ok (.getfield 18, 3) := by decide +kernel
theorem dX2_reach_23 : decode cX2_reach 23 = .ok (.ifCond .lt 13, 3) := by decide +kernel
theorem dX2_reach_26 : decode cX2_reach 26 = .ok (.aload_n 0, 1) := by decide +kernel
theorem dX2_reach_27 : decode cX2_reach 27 = .ok (.getfield 18, 3) := by decide +kernel
theorem dX2_reach_30 : decode cX2_reach 30 = .ok (.sipush 144, 3) := by decide +kernel
theorem dX2_reach_33 : decode cX2_reach 33 = .ok (.if_icmp .lt 4, 3) := by decide +kernel
theorem dX2_reach_36 : decode cX2_reach 36 = .ok (.return_, 1) := by decide +kernel
theorem dX2_reach_37 : decode cX2_reach 37 = .ok (.iload_n 2, 1) := by decide +kernel
theorem dX2_reach_38 : decode cX2_reach 38 = .ok (.bipush 12, 2) := by decide +kernel
theorem dX2_reach_40 : decode cX2_reach 40 = .ok (.imul, 1) := by decide +kernel
theorem dX2_reach_41 : decode cX2_reach 41 = .ok (.iload_n 3, 1) := by decide +kernel
theorem dX2_reach_42 : decode cX2_reach 42 = .ok (.iadd, 1) := by decide +kernel
theorem dX2_reach_43 : decode cX2_reach 43 = .ok (.istore 5, 2) := by decide +kernel
theorem dX2_reach_45 : decode cX2_reach 45 = .ok (.aload_n 0, 1) := by decide +kernel
theorem dX2_reach_46 : decode cX2_reach 46 = .ok (.getfield 15, 3) := by decide +kernel
theorem dX2_reach_49 : decode cX2_reach 49 = .ok (.iload 5, 2) := by decide +kernel
theorem dX2_reach_51 : decode cX2_reach 51 = .ok (.iload 4, 2) := by decide +kernel
theorem dX2_reach_53 : decode cX2_reach 53 = .ok (.iastore, 1) := by decide +kernel
theorem dX2_reach_54 : decode cX2_reach 54 = .ok (.aload_n 0, 1) := by decide +kernel
theorem dX2_reach_55 : decode cX2_reach 55 = .ok (.getfield 9, 3) := by decide +kernel
theorem dX2_reach_58 : decode cX2_reach 58 = .ok (.aload_n 0, 1) := by decide +kernel
theorem dX2_reach_59 : decode cX2_reach 59 = .ok (.getfield 18, 3) := by decide +kernel
theorem dX2_reach_62 : decode cX2_reach 62 = .ok (.iload 5, 2) := by decide +kernel
theorem dX2_reach_64 : decode cX2_reach 64 = .ok (.iastore, 1) := by decide +kernel
theorem dX2_reach_65 : decode cX2_reach 65 = .ok (.aload_n 0, 1) := by decide +kernel
theorem dX2_reach_66 : decode cX2_reach 66 = .ok (.dup, 1) := by decide +kernel
theorem dX2_reach_67 : decode cX2_reach 67 = .ok (.getfield 18, 3) := by decide +kernel
theorem dX2_reach_70 : decode cX2_reach 70 = .ok (.iconst 1, 1) := by decide +kernel
theorem dX2_reach_71 : decode cX2_reach 71 = .ok (.iadd, 1) := by decide +kernel
theorem dX2_reach_72 : decode cX2_reach 72 = .ok (.putfield 18, 3) := by decide +kernel
theorem dX2_reach_75 : decode cX2_reach 75 = .ok (.iload_n 2, 1) := by decide +kernel
theorem dX2_reach_76 : decode cX2_reach 76 = .ok (.ifCond .eq 27, 3) := by decide +kernel
theorem dX2_reach_79 : decode cX2_reach 79 = .ok (.iload_n 2, 1) := by decide +kernel
theorem dX2_reach_80 : decode cX2_reach 80 = .ok (.aload_n 1, 1) := by decide +kernel
theorem dX2_reach_81 : decode cX2_reach 81 = .ok (.getfield 68, 3) := by decide +kernel
theorem dX2_reach_84 : decode cX2_reach 84 = .ok (.iconst 1, 1) := by decide +kernel
theorem dX2_reach_85 : decode cX2_reach 85 = .ok (.isub, 1) := by decide +kernel
theorem dX2_reach_86 : decode cX2_reach 86 = .ok (.if_icmp .eq 17, 3) := by decide +kernel
theorem dX2_reach_89 : decode cX2_reach 89 = .ok (.iload_n 3, 1) := by decide +kernel
theorem dX2_reach_90 : decode cX2_reach 90 = .ok (.ifCond .eq 13, 3) := by decide +kernel
theorem dX2_reach_93 : decode cX2_reach 93 = .ok (.iload_n 3, 1) := by decide +kernel
theorem dX2_reach_94 : decode cX2_reach 94 = .ok (.aload_n 1, 1) := by decide +kernel
theorem dX2_reach_95 : decode cX2_reach 95 = .ok (.getfield 71, 3) := by decide +kernel
theorem dX2_reach_98 : decode cX2_reach 98 = .ok (.iconst 1, 1) := by decide +kernel
theorem dX2_reach_99 : decode cX2_reach 99 = .ok (.isub, 1) := by decide +kernel
theorem dX2_reach_100 : decode cX2_reach 100 = .ok (.if_icmp .ne 8, 3) := by decide +kernel
theorem dX2_reach_103 : decode cX2_reach 103 = .ok (.aload_n 0, 1) := by decide +kernel
theorem dX2_reach_104 : decode cX2_reach 104 = .ok (.iconst 1, 1) := by decide +kernel
theorem dX2_reach_105 : decode cX2_reach 105 = .ok (.putfield 22, 3) := by decide +kernel
theorem dX2_reach_108 : decode cX2_reach 108 = .ok (.return_, 1) := by decide +kernel
theorem dX3_init_0 : decode cX3_init 0 = .ok (.aload_n 0, 1) := by decide +kernel
theorem dX3_init_1 : decode cX3_init 1 = .ok (.invokespecial 3, 3) := by decide +kernel
theorem dX3_init_4 : decode cX3_init 4 = .ok (.aload_n 0, 1) := by decide +kernel
theorem dX3_init_5 : decode cX3_init 5 = .ok (.bipush 8, 2) := by decide +kernel
theorem dX3_init_7 : decode cX3_init 7 = .ok (.putfield 9, 3) := by decide +kernel
theorem dX3_init_10 : decode cX3_init 10 = .ok (.aload_n 0, 1) := by decide +kernel
theorem dX3_init_11 : decode cX3_init 11 = .ok (.bipush 8, 2) := by decide +kernel
theorem dX3_init_13 : decode cX3_init 13 = .ok (.putfield 15, 3) := by decide +kernel
theorem dX3_init_16 : decode cX3_init 16 = .ok (.aload_n 0, 1) := by decide +kernel
theorem dX3_init_17 : decode cX3_init 17 = .ok (.iconst 0, 1) := by decide +kernel
theorem dX3_init_18 : decode cX3_init 18 = .ok (.putfield 18, 3) := by decide +kernel
theorem dX3_init_21 : decode cX3_init 21 = .ok (.aload_n 0, 1) := by decide +kernel
theorem dX3_init_22 : decode cX3_init 22 = .ok (.sipush 144, 3) := by decide +kernel
theorem dX3_init_25 : decode cX3_init 25 = .ok (.newarray .boolean, 2) := by decide +kernel
theorem dX3_init_27 : decode cX3_init 27 = .ok (.putfield 22, 3) := by decide +kernel
theorem dX3_init_30 : decode cX3_init 30 = .ok (.aload_n 0, 1) := by decide +kernel
theorem dX3_init_31 : decode cX3_init 31 = .ok (.sipush 144, 3) := by decide +kernel
theorem dX3_init_34 : decode cX3_init 34 = .ok (.newarray .int, 2) := by decide +kernel
theorem dX3_init_36 : decode cX3_init 36 = .ok (.putfield 26, 3) := by decide +kernel
theorem dX3_init_39 : decode cX3_init 39 = .ok (.aload_n 0, 1) := by decide +kernel
theorem dX3_init_40 : decode cX3_init 40 = .ok (.getfield 26, 3) := by decide +kernel
theorem dX3_init_43 : decode cX3_init 43 = .ok (.iconst (-1), 1) := by decide +kernel
theorem dX3_init_44 : decode cX3_init 44 = .ok (.invokestatic 30, 3) := by decide +kernel
theorem dX3_init_47 : decode cX3_init 47 = .ok (.return_, 1) := by decide +kernel
theorem dX3_has_0 : decode cX3_has 0 = .ok (.iload_n 1, 1) := by decide +kernel
theorem dX3_has_1 : decode cX3_has 1 = .ok (.aload_n 0, 1) := by decide +kernel
theorem dX3_has_2 : decode cX3_has 2 = .ok (.getfield 9, 3) := by decide +kernel
theorem dX3_has_5 : decode cX3_has 5 = .ok (.invokestatic 36, 3) := by decide +kernel
theorem dX3_has_8 : decode cX3_has 8 = .ok (.ifCond .eq 18, 3) := by decide +kernel
theorem dX3_has_11 : decode cX3_has 11 = .ok (.iload_n 2, 1) := by decide +kernel
theorem dX3_has_12 : decode cX3_has 12 = .ok (.aload_n 0, 1) := by decide +kernel
theorem dX3_has_13 : decode cX3_has 13 = .ok (.getfield 15, 3) := by decide +kernel
theorem dX3_has_16 : decode cX3_has 16 = .ok (.invokestatic 36, 3) := by decide +kernel
theorem dX3_has_19 : decode cX3_has 19 = .ok (.ifCond .eq 7, 3) := by decide +kernel
theorem dX3_has_22 : decode cX3_has 22 = .ok (.iconst 1, 1) := by decide +kernel
theorem dX3_has_23 : decode cX3_has 23 = .ok (.goto 4, 3) := by decide +kernel
theorem dX3_has_26 : decode cX3_has 26 = .ok (.iconst 0, 1) := by decide +kernel
theorem dX3_has_27 : decode cX3_has 27 = .ok (.ireturn, 1) := by decide +kernel
theorem dX3_isLandAt_0 : decode cX3_isLandAt 0 = .ok (.aload_n 0, 1) := by decide +kernel
theorem dX3_isLandAt_1 : decode cX3_isLandAt 1 = .ok (.iload_n 1, 1) := by decide +kernel
theorem dX3_isLandAt_2 : decode cX3_isLandAt 2 = .ok (.iload_n 2, 1) := by decide +kernel
theorem dX3_isLandAt_3 : decode cX3_isLandAt 3 = .ok (.invokevirtual 40, 3) := by decide +kernel
theorem dX3_isLandAt_6 : decode cX3_isLandAt 6 = .ok (.ifCond .eq 17, 3) := by decide +kernel
theorem dX3_isLandAt_9 : decode cX3_isLandAt 9 = .ok (.aload_n 0, 1) := by decide +kernel
theorem dX3_isLandAt_10 : decode cX3_isLandAt 10 = .ok (.getfield 22, 3) := by decide +kernel
theorem dX3_isLandAt_13 : decode cX3_isLandAt 13 = .ok (.iload_n 1, 1) := by decide +kernel
theorem dX3_isLandAt_14 : decode cX3_isLandAt 14 = .ok (.bipush 12, 2) := by decide +kernel
theorem dX3_isLandAt_16 : decode cX3_isLandAt 16 = .ok (.imul, 1) := by decide +kernel
theorem dX3_isLandAt_17 : decode cX3_isLandAt 17 = .ok (.iload_n 2, 1) := by decide +kernel
theorem dX3_isLandAt_18 : decode cX3_isLandAt 18 = .ok (.iadd, 1) := by decide +kernel
theorem dX3_isLandAt_19 : decode cX3_isLandAt 19 = .ok (.baload, 1) := by decide +kernel
theorem dX3_isLandAt_20 : decode cX3_isLandAt 20 = .ok (.goto 7, 3) := by decide +kernel
theorem dX3_isLandAt_23 : decode cX3_isLandAt 23 = .ok (.aload_n 0, 1) := by decide +kernel
theorem dX3_isLandAt_24 : decode cX3_isLandAt 24 = .ok (.getfield 18, 3) := by decide +kernel
theorem dX3_isLandAt_27 : decode cX3_isLandAt 27 = .ok (.ireturn, 1) := by decide +kernel
theorem dX3_pinAt_0 : decode cX3_pinAt 0 = .ok (.aload_n 0, 1) := by decide +kernel
theorem dX3_pinAt_1 : decode cX3_pinAt 1 = .ok (.iload_n 1, 1) := by decide +kernel
theorem dX3_pinAt_2 : decode cX3_pinAt 2 = .ok (.iload_n 2, 1) := by decide +kernel
theorem dX3_pinAt_3 : decode cX3_pinAt 3 = .ok (.invokevirtual 40, 3) := by decide +kernel
theorem dX3_pinAt_6 : decode cX3_pinAt 6 = .ok (.ifCond .eq 17, 3) := by decide +kernel
theorem dX3_pinAt_9 : decode cX3_pinAt 9 = .ok (.aload_n 0, 1) := by decide +kernel
theorem dX3_pinAt_10 : decode cX3_pinAt 10 = .ok (.getfield 26, 3) := by decide +kernel
theorem dX3_pinAt_13 : decode cX3_pinAt 13 = .ok (.iload_n 1, 1) := by decide +kernel
theorem dX3_pinAt_14 : decode cX3_pinAt 14 = .ok (.bipush 12, 2) := by decide +kernel
theorem dX3_pinAt_16 : decode cX3_pinAt 16 = .ok (.imul, 1) := by decide +kernel
theorem dX3_pinAt_17 : decode cX3_pinAt 17 = .ok (.iload_n 2, 1) := by decide +kernel
theorem dX3_pinAt_18 : decode cX3_pinAt 18 = .ok (.iadd, 1) := by decide +kernel
theorem dX3_pinAt_19 : decode cX3_pinAt 19 = .ok (.iaload, 1) := by decide +kernel
theorem dX3_pinAt_20 : decode cX3_pinAt 20 = .ok (.goto 4, 3) := by decide +kernel
theorem dX3_pinAt_23 : decode cX3_pinAt 23 = .ok (.iconst (-1), 1) := by decide +kernel
theorem dX3_pinAt_24 : decode cX3_pinAt 24 = .ok (.ireturn, 1) := by decide +kernel
theorem dX3_isPinnedAt_0 : decode cX3_isPinnedAt 0 = .ok (.aload_n 0, 1) := by decide +kernel
theorem dX3_isPinnedAt_1 : decode cX3_isPinnedAt 1 = .ok (.iload_n 1, 1) := by decide +kernel
theorem dX3_isPinnedAt_2 : decode cX3_isPinnedAt 2 = .ok (.iload_n 2, 1) := by decide +kernel
theorem dX3_isPinnedAt_3 : decode cX3_isPinnedAt 3 = .ok (.invokevirtual 43, 3) := by decide +kernel
theorem dX3_isPinnedAt_6 : decode cX3_isPinnedAt 6 = .ok (.iconst (-1), 1) := by decide +kernel
theorem dX3_isPinnedAt_7 : decode cX3_isPinnedAt 7 = .ok (.if_icmp .eq 7, 3) := by decide +kernel
theorem dX3_isPinnedAt_10 : decode cX3_isPinnedAt 10 = .ok (.iconst 1, 1) := by decide +kernel
theorem dX3_isPinnedAt_11 : decode cX3_isPinnedAt 11 = .ok (.goto 4, 3) := by decide +kernel
theorem dX3_isPinnedAt_14 : decode cX3_isPinnedAt 14 = .ok (.iconst 0, 1) := by decide +kernel
theorem dX3_isPinnedAt_15 : decode cX3_isPinnedAt 15 = .ok (.ireturn, 1) := by decide +kernel
theorem dX3_putKind_0 : decode cX3_putKind 0 = .ok (.aload_n 0, 1) := by decide +kernel
theorem dX3_putKind_1 : decode cX3_putKind 1 = .ok (.iload_n 1, 1) := by decide +kernel
theorem dX3_putKind_2 : decode cX3_putKind 2 = .ok (.iload_n 2, 1) := by decide +kernel
theorem dX3_putKind_3 : decode cX3_putKind 3 = .ok (.invokevirtual 40, 3) := by decide +kernel
theorem dX3_putKind_6 : decode cX3_putKind 6 = .ok (.ifCond .eq 13, 3) := by decide +kernel
theorem dX3_putKind_9 : decode cX3_putKind 9 = .ok (.aload_n 0, 1) := by decide +kernel
theorem dX3_putKind_10 : decode cX3_putKind 10 = .ok (.iload_n 1, 1) := by decide +kernel
theorem dX3_putKind_11 : decode cX3_putKind 11 = .ok (.iload_n 2, 1) := by decide +kernel
theorem dX3_putKind_12 : decode cX3_putKind 12 = .ok (.invokevirtual 47, 3) := by decide +kernel
theorem dX3_putKind_15 : decode cX3_putKind 15 = .ok (.iload_n 3, 1) := by decide +kernel
theorem dX3_putKind_16 : decode cX3_putKind 16 = .ok (.if_icmp .ne 5, 3) := by decide +kernel
theorem dX3_putKind_19 : decode cX3_putKind 19 = .ok (.iconst 0, 1) := by decide +kernel
theorem dX3_putKind_20 : decode cX3_putKind 20 = .ok (.ireturn, 1) := by decide +kernel
theorem dX3_putKind_21 : decode cX3_putKind 21 = .ok (.aload_n 0, 1) := by decide +kernel
theorem dX3_putKind_22 : decode cX3_putKind 22 = .ok (.getfield 22, 3) := by decide +kernel
theorem dX3_putKind_25 : decode cX3_putKind 25 = .ok (.iload_n 1, 1) := by decide +kernel
theorem dX3_putKind_26 : decode cX3_putKind 26 = .ok (.bipush 12, 2) := by decide +kernel
theorem dX3_putKind_28 : decode cX3_putKind 28 = .ok (.imul, 1) := by decide +kernel
theorem dX3_putKind_29 : decode cX3_putKind 29 = .ok (.iload_n 2, 1) := by decide +kernel
theorem dX3_putKind_30 : decode cX3_putKind 30 = .ok (.iadd, 1) := by decide +kernel
theorem dX3_putKind_31 : decode cX3_putKind 31 = .ok (.iload_n 3, 1) := by decide +kernel
theorem dX3_putKind_32 : decode cX3_putKind 32 = .ok (.bastore, 1) := by decide +kernel
theorem dX3_putKind_33 : decode cX3_putKind 33 = .ok (.aload_n 0, 1) := by decide +kernel
theorem dX3_putKind_34 : decode cX3_putKind 34 = .ok (.getfield 26, 3) := by decide +kernel
theorem dX3_putKind_37 : decode cX3_putKind 37 = .ok (.iload_n 1, 1) := by decide +kernel
theorem dX3_putKind_38 : decode cX3_putKind 38 = .ok (.bipush 12, 2) := by decide +kernel
theorem dX3_putKind_40 : decode cX3_putKind 40 = .ok (.imul, 1) := by decide +kernel
theorem dX3_putKind_41 : decode cX3_putKind 41 = .ok (.iload_n 2, 1) := by decide +kernel
theorem dX3_putKind_42 : decode cX3_putKind 42 = .ok (.iadd, 1) := by decide +kernel
theorem dX3_putKind_43 : decode cX3_putKind 43 = .ok (.iconst (-1), 1) := by decide +kernel
theorem dX3_putKind_44 : decode cX3_putKind 44 = .ok (.iastore, 1) := by decide +kernel
theorem dX3_putKind_45 : decode cX3_putKind 45 = .ok (.iconst 1, 1) := by decide +kernel
theorem dX3_putKind_46 : decode cX3_putKind 46 = .ok (.ireturn, 1) := by decide +kernel
theorem dX3_putPin_0 : decode cX3_putPin 0 = .ok (.aload_n 0, 1) := by decide +kernel
theorem dX3_putPin_1 : decode cX3_putPin 1 = .ok (.iload_n 1, 1) := by decide +kernel
theorem dX3_putPin_2 : decode cX3_putPin 2 = .ok (.iload_n 2, 1) := by decide +kernel
theorem dX3_putPin_3 : decode cX3_putPin 3 = .ok (.invokevirtual 40, 3) := by decide +kernel
theorem dX3_putPin_6 : decode cX3_putPin 6 = .ok (.ifCond .eq 15, 3) := by decide +kernel
theorem dX3_putPin_9 : decode cX3_putPin 9 = .ok (.aload_n 0, 1) := by decide +kernel
theorem dX3_putPin_10 : decode cX3_putPin 10 = .ok (.getfield 26, 3) := by decide +kernel
theorem dX3_putPin_13 : decode cX3_putPin 13 = .ok (.iload_n 1, 1) := by decide +kernel
theorem dX3_putPin_14 : decode cX3_putPin 14 = .ok (.bipush 12, 2) := by decide +kernel
theorem dX3_putPin_16 : decode cX3_putPin 16 = .ok (.imul, 1) := by decide +kernel
theorem dX3_putPin_17 : decode cX3_putPin 17 = .ok (.iload_n 2, 1) := by decide +kernel
theorem dX3_putPin_18 : decode cX3_putPin 18 = .ok (.iadd, 1) := by decide +kernel
theorem dX3_putPin_19 : decode cX3_putPin 19 = .ok (.iload_n 3, 1) := by decide +kernel
theorem dX3_putPin_20 : decode cX3_putPin 20 = .ok (.iastore, 1) := by decide +kernel
theorem dX3_putPin_21 : decode cX3_putPin 21 = .ok (.return_, 1) := by decide +kernel
theorem dX3_becomeWater_0 : decode cX3_becomeWater 0 = .ok (.aload_n 0, 1) := by decide +kernel
theorem dX3_becomeWater_1 : decode cX3_becomeWater 1 = .ok (.iload_n 1, 1) := by decide +kernel
theorem dX3_becomeWater_2 : decode cX3_becomeWater 2 = .ok (.bipush 12, 2) := by decide +kernel
theorem dX3_becomeWater_4 : decode cX3_becomeWater 4 = .ok (.invokestatic 50, 3) := by decide +kernel
theorem dX3_becomeWater_7 : decode cX3_becomeWater 7 = .ok (.putfield 9, 3) := by decide +kernel
theorem dX3_becomeWater_10 : decode cX3_becomeWater 10 = .ok (.aload_n 0, 1) := by decide +kernel
theorem dX3_becomeWater_11 : decode cX3_becomeWater 11 = .ok (.iload_n 2, 1) := by decide +kernel
theorem dX3_becomeWater_12 : decode cX3_becomeWater 12 = .ok (.bipush 12, 2) := by decide +kernel
theorem dX3_becomeWater_14 : decode cX3_becomeWater 14 = .ok (.invokestatic 50, 3) := by decide +kernel
theorem dX3_becomeWater_17 : decode cX3_becomeWater 17 = .ok (.putfield 15, 3) := by decide +kernel
theorem dX3_becomeWater_20 : decode cX3_becomeWater 20 = .ok (.iconst 0, 1) := by decide +kernel
theorem dX3_becomeWater_21 : decode cX3_becomeWater 21 = .ok (.istore_n 3, 1) := by decide +kernel
theorem dX3_becomeWater_22 : decode cX3_becomeWater 22 = .ok (.iload_n 3, 1) := by decide +kernel
theorem dX3_becomeWater_23 : decode cX3_becomeWater 23 = .ok (.sipush 144, 3) := by decide +kernel
theorem dX3_becomeWater_26 : decode cX3_becomeWater 26 = .ok (.if_icmp .ge 23, 3) := by decide +kernel
theorem dX3_becomeWater_29 : decode cX3_becomeWater 29 = .ok (.aload_n 0, 1) := by decide +kernel
theorem dX3_becomeWater_30 : decode cX3_becomeWater 30 = .ok (.getfield 22, 3) := by decide +kernel
theorem dX3_becomeWater_33 : decode cX3_becomeWater 33 = .ok (.iload_n 3, 1) := by decide +kernel
theorem dX3_becomeWater_34 : decode cX3_becomeWater 34 = .ok (.iconst 0, 1) := by decide +kernel
theorem dX3_becomeWater_35 : decode cX3_becomeWater 35 = .ok (.bastore, 1) := by decide +kernel
theorem dX3_becomeWater_36 : decode cX3_becomeWater 36 = .ok (.aload_n 0, 1) := by decide +kernel
theorem dX3_becomeWater_37 : decode cX3_becomeWater 37 = .ok (.getfield 26, 3) := by decide +kernel
theorem dX3_becomeWater_40 : decode cX3_becomeWater 40 = .ok (.iload_n 3, 1) := by decide +kernel
theorem dX3_becomeWater_41 : decode cX3_becomeWater 41 = .ok (.iconst (-1), 1) := by decide +kernel
theorem dX3_becomeWater_42 : decode cX3_becomeWater 42 = .ok (.iastore, 1) := by decide +kernel
theorem dX3_becomeWater_43 : decode cX3_becomeWater 43 = .ok (.iinc 3 1, 3) := by decide +kernel
theorem dX3_becomeWater_46 : decode cX3_becomeWater 46 = .ok (.goto (-24), 3) := by decide +kernel
theorem dX3_becomeWater_49 : decode cX3_becomeWater 49 = .ok (.return_, 1) := by decide +kernel
theorem dX3_copyFrom_0 : decode cX3_copyFrom 0 = .ok (.aload_n 0, 1) := by decide +kernel
theorem dX3_copyFrom_1 : decode cX3_copyFrom 1 = .ok (.aload_n 1, 1) := by decide +kernel
theorem dX3_copyFrom_2 : decode cX3_copyFrom 2 = .ok (.getfield 9, 3) := by decide +kernel
theorem dX3_copyFrom_5 : decode cX3_copyFrom 5 = .ok (.putfield 9, 3) := by decide +kernel
theorem dX3_copyFrom_8 : decode cX3_copyFrom 8 = .ok (.aload_n 0, 1) := by decide +kernel
theorem dX3_copyFrom_9 : decode cX3_copyFrom 9 = .ok (.aload_n 1, 1) := by decide +kernel
theorem dX3_copyFrom_10 : decode cX3_copyFrom 10 = .ok (.getfield 15, 3) := by decide +kernel
theorem dX3_copyFrom_13 : decode cX3_copyFrom 13 = .ok (.putfield 15, 3) := by decide +kernel
theorem dX3_copyFrom_16 : decode cX3_copyFrom 16 = .ok (.aload_n 0, 1) := by decide +kernel
theorem dX3_copyFrom_17 : decode cX3_copyFrom 17 = .ok (.aload_n 1, 1) := by decide +kernel
theorem dX3_copyFrom_18 : decode cX3_copyFrom 18 = .ok (.getfield 18, 3) := by decide +kernel
theorem dX3_copyFrom_21 : decode cX3_copyFrom 21 = .ok (.putfield 18, 3) := by decide +kernel
theorem dX3_copyFrom_24 : decode cX3_copyFrom 24 = .ok (.iconst 0, 1) := by decide +kernel
theorem dX3_copyFrom_25 : decode cX3_copyFrom 25 = .ok (.istore_n 2, 1) := by decide +kernel
theorem dX3_copyFrom_26 : decode cX3_copyFrom 26 = .ok (.iload_n 2, 1) := by decide +kernel
theorem dX3_copyFrom_27 : decode cX3_copyFrom 27 = .ok (.sipush 144, 3) := by decide +kernel
theorem dX3_copyFrom_30 : decode cX3_copyFrom 30 = .ok (.if_icmp .ge 33, 3) := by decide +kernel
theorem dX3_copyFrom_33 : decode cX3_copyFrom 33 = .ok (.aload_n 0, 1) := by decide +kernel
theorem dX3_copyFrom_34 : decode cX3_copyFrom 34 = .ok (.getfield 22, 3) := by decide +kernel
theorem dX3_copyFrom_37 : decode cX3_copyFrom 37 = .ok (.iload_n 2, 1) := by decide +kernel
theorem dX3_copyFrom_38 : decode cX3_copyFrom 38 = .ok (.aload_n 1, 1) := by decide +kernel
theorem dX3_copyFrom_39 : decode cX3_copyFrom 39 = .ok (.getfield 22, 3) := by decide +kernel
theorem dX3_copyFrom_42 : decode cX3_copyFrom 42 = .ok (.iload_n 2, 1) := by decide +kernel
theorem dX3_copyFrom_43 : decode cX3_copyFrom 43 = .ok (.baload, 1) := by decide +kernel
theorem dX3_copyFrom_44 : decode cX3_copyFrom 44 = .ok (.bastore, 1) := by decide +kernel
theorem dX3_copyFrom_45 : decode cX3_copyFrom 45 = .ok (.aload_n 0, 1) := by decide +kernel
theorem dX3_copyFrom_46 : decode cX3_copyFrom 46 = .ok (.getfield 26, 3) := by decide +kernel
theorem dX3_copyFrom_49 : decode cX3_copyFrom 49 = .ok (.iload_n 2, 1) := by decide +kernel
theorem dX3_copyFrom_50 : decode cX3_copyFrom 50 = .ok (.aload_n 1, 1) := by decide +kernel
theorem dX3_copyFrom_51 : decode cX3_copyFrom 51 = .ok (.getfield 26, 3) := by decide +kernel
theorem dX3_copyFrom_54 : decode cX3_copyFrom 54 = .ok (.iload_n 2, 1) := by decide +kernel
theorem dX3_copyFrom_55 : decode cX3_copyFrom 55 = .ok (.iaload, 1) := by decide +kernel
theorem dX3_copyFrom_56 : decode cX3_copyFrom 56 = .ok (.iastore, 1) := by decide +kernel
theorem dX3_copyFrom_57 : decode cX3_copyFrom 57 = .ok (.iinc 2 1, 3) := by decide +kernel
theorem dX3_copyFrom_60 : decode cX3_copyFrom 60 = .ok (.goto (-34), 3) := by decide +kernel
theorem dX3_copyFrom_63 : decode cX3_copyFrom 63 = .ok (.return_, 1) := by decide +kernel
theorem dX3_surroundingsOf_0 : decode cX3_surroundingsOf 0 = .ok (.iconst 0, 1) := by decide +kernel
theorem dX3_surroundingsOf_1 : decode cX3_surroundingsOf 1 = .ok (.istore_n 3, 1) := by decide +kernel
theorem dX3_surroundingsOf_2 : decode cX3_surroundingsOf 2 = .ok (.iconst 0, 1) := by decide +kernel
theorem dX3_surroundingsOf_3 : decode cX3_surroundingsOf 3 = .ok (.istore 4, 2) := by decide +kernel
theorem dX3_surroundingsOf_5 : decode cX3_surroundingsOf 5 = .ok (.iload 4, 2) := by decide +kernel
theorem dX3_surroundingsOf_7 : decode cX3_surroundingsOf 7 = .ok (.bipush 8, 2) := by decide +kernel
theorem dX3_surroundingsOf_9 : decode cX3_surroundingsOf 9 = .ok (.if_icmp .ge 37, 3) := by decide +kernel
theorem dX3_surroundingsOf_12 : decode cX3_surroundingsOf 12 = .ok (.aload_n 0, 1) := by decide +kernel
theorem dX3_surroundingsOf_13 : decode cX3_surroundingsOf 13 = .ok (.iload_n 1, 1) := by decide +kernel
theorem dX3_surroundingsOf_14 : decode cX3_surroundingsOf 14 = .ok (.iload 4, 2) := by decide +kernel
theorem dX3_surroundingsOf_16 : decode cX3_surroundingsOf 16 = .ok (.invokestatic 55, 3) := by decide +kernel
theorem dX3_surroundingsOf_19 : decode cX3_surroundingsOf 19 = .ok (.iadd, 1) := by decide +kernel
theorem dX3_surroundingsOf_20 : decode cX3_surroundingsOf 20 = .ok (.iload_n 2, 1) := by decide +kernel
theorem dX3_surroundingsOf_21 : decode cX3_surroundingsOf 21 = .ok (.iload 4, 2) := by decide +kernel
theorem dX3_surroundingsOf_23 : decode cX3_surroundingsOf 23 = .ok (.invokestatic 59, 3) := by decide +kernel
theorem dX3_surroundingsOf_26 : decode cX3_surroundingsOf 26 = .ok (.iadd, 1) := by decide +kernel
theorem dX3_surroundingsOf_27 : decode cX3_surroundingsOf 27 = .ok (.invokevirtual 47, 3) := by decide +kernel
theorem dX3_surroundingsOf_30 : decode cX3_surroundingsOf 30 = .ok (.ifCond .eq 10, 3) := by decide +kernel
theorem dX3_surroundingsOf_33 : decode cX3_surroundingsOf 33 = .ok (.iload_n 3, 1) := by decide +kernel
theorem dX3_surroundingsOf_34 : decode cX3_surroundingsOf 34 = .ok (.iconst 1, 1) := by decide +kernel
theorem dX3_surroundingsOf_35 : decode cX3_surroundingsOf 35 = .ok (.iload 4, 2) := by decide +kernel
theorem dX3_surroundingsOf_37 : decode cX3_surroundingsOf 37 = .ok (.ishl, 1) := by decide +kernel
theorem dX3_surroundingsOf_38 : decode cX3_surroundingsOf 38 = .ok (.ior, 1) := by decide +kernel
theorem dX3_surroundingsOf_39 : decode cX3_surroundingsOf 39 = .ok (.istore_n 3, 1) := by decide +kernel
theorem dX3_surroundingsOf_40 : decode cX3_surroundingsOf 40 = .ok (.iinc 4 1, 3) := by decide +kernel
theorem dX3_surroundingsOf_43 : decode cX3_surroundingsOf 43 = .ok (.goto (-38), 3) := by decide +kernel
theorem dX3_surroundingsOf_46 : decode cX3_surroundingsOf 46 = .ok (.iload_n 3, 1) := by decide +kernel
theorem dX3_surroundingsOf_47 : decode cX3_surroundingsOf 47 = .ok (.ireturn, 1) := by decide +kernel
theorem dX3_outsideBitsOf_0 : decode cX3_outsideBitsOf 0 = .ok (.iconst 0, 1) := by decide +kernel
theorem dX3_outsideBitsOf_1 : decode cX3_outsideBitsOf 1 = .ok (.istore_n 3, 1) := by decide +kernel
theorem dX3_outsideBitsOf_2 : decode cX3_outsideBitsOf 2 = .ok (.iconst 0, 1) := by decide +kernel
theorem dX3_outsideBitsOf_3 : decode cX3_outsideBitsOf 3 = .ok (.istore 4, 2) := by decide +kernel
theorem dX3_outsideBitsOf_5 : decode cX3_outsideBitsOf 5 = .ok (.iload 4, 2) := by decide +kernel
theorem dX3_outsideBitsOf_7 : decode cX3_outsideBitsOf 7 = .ok (.bipush 8, 2) := by decide +kernel
theorem dX3_outsideBitsOf_9 : decode cX3_outsideBitsOf 9 = .ok (.if_icmp .ge 37, 3) := by decide +kernel
theorem dX3_outsideBitsOf_12 : decode cX3_outsideBitsOf 12 = .ok (.aload_n 0, 1) := by decide +kernel
theorem dX3_outsideBitsOf_13 : decode cX3_outsideBitsOf 13 = .ok (.iload_n 1, 1) := by decide +kernel
theorem dX3_outsideBitsOf_14 : decode cX3_outsideBitsOf 14 = .ok (.iload 4, 2) := by decide +kernel
theorem dX3_outsideBitsOf_16 : decode cX3_outsideBitsOf 16 = .ok (.invokestatic 55, 3) := by decide +kernel
theorem dX3_outsideBitsOf_19 : decode cX3_outsideBitsOf 19 = .ok (.iadd, 1) := by decide +kernel
theorem dX3_outsideBitsOf_20 : decode cX3_outsideBitsOf 20 = .ok (.iload_n 2, 1) := by decide +kernel
theorem dX3_outsideBitsOf_21 : decode cX3_outsideBitsOf 21 = .ok (.iload 4, 2) := by decide +kernel
theorem dX3_outsideBitsOf_23 : decode cX3_outsideBitsOf 23 = .ok (.invokestatic 59, 3) := by decide +kernel
theorem dX3_outsideBitsOf_26 : decode cX3_outsideBitsOf 26 = .ok (.iadd, 1) := by decide +kernel
theorem dX3_outsideBitsOf_27 : decode cX3_outsideBitsOf 27 = .ok (.invokevirtual 40, 3) := by decide +kernel
theorem dX3_outsideBitsOf_30 : decode cX3_outsideBitsOf 30 = .ok (.ifCond .ne 10, 3) := by decide +kernel
theorem dX3_outsideBitsOf_33 : decode cX3_outsideBitsOf 33 = .ok (.iload_n 3, 1) := by decide +kernel
theorem dX3_outsideBitsOf_34 : decode cX3_outsideBitsOf 34 = .ok (.iconst 1, 1) := by decide +kernel
theorem dX3_outsideBitsOf_35 : decode cX3_outsideBitsOf 35 = .ok (.iload 4, 2) := by decide +kernel
theorem dX3_outsideBitsOf_37 : decode cX3_outsideBitsOf 37 = .ok (.ishl, 1) := by decide +kernel
theorem dX3_outsideBitsOf_38 : decode cX3_outsideBitsOf 38 = .ok (.ior, 1) := by decide +kernel
theorem dX3_outsideBitsOf_39 : decode cX3_outsideBitsOf 39 = .ok (.istore_n 3, 1) := by decide +kernel
theorem dX3_outsideBitsOf_40 : decode cX3_outsideBitsOf 40 = .ok (.iinc 4 1, 3) := by decide +kernel
theorem dX3_outsideBitsOf_43 : decode cX3_outsideBitsOf 43 = .ok (.goto (-38), 3) := by decide +kernel
theorem dX3_outsideBitsOf_46 : decode cX3_outsideBitsOf 46 = .ok (.iload_n 3, 1) := by decide +kernel
theorem dX3_outsideBitsOf_47 : decode cX3_outsideBitsOf 47 = .ok (.ireturn, 1) := by decide +kernel
theorem dX3_landTiles_0 : decode cX3_landTiles 0 = .ok (.iconst 0, 1) := by decide +kernel
theorem dX3_landTiles_1 : decode cX3_landTiles 1 = .ok (.istore_n 1, 1) := by decide +kernel
theorem dX3_landTiles_2 : decode cX3_landTiles 2 = .ok (.iconst 0, 1) := by decide +kernel
theorem dX3_landTiles_3 : decode cX3_landTiles 3 = .ok (.istore_n 2, 1) := by decide +kernel
theorem dX3_landTiles_4 : decode cX3_landTiles 4 = .ok (.iload_n 2, 1) := by decide +kernel
theorem dX3_landTiles_5 : decode cX3_landTiles 5 = .ok (.aload_n 0, 1) := by decide +kernel
theorem dX3_landTiles_6 : decode cX3_landTiles 6 = .ok (.getfield 9, 3) := by decide +kernel
theorem dX3_landTiles_9 : decode cX3_landTiles 9 = .ok (.if_icmp .ge 37, 3) := by decide +kernel
theorem dX3_landTiles_12 : decode cX3_landTiles 12 = .ok (.iconst 0, 1) := by decide +kernel
theorem dX3_landTiles_13 : decode cX3_landTiles 13 = .ok (.istore_n 3, 1) := by decide +kernel
theorem dX3_landTiles_14 : decode cX3_landTiles 14 = .ok (.iload_n 3, 1) := by decide +kernel
theorem dX3_landTiles_15 : decode cX3_landTiles 15 = .ok (.aload_n 0, 1) := by decide +kernel
theorem dX3_landTiles_16 : decode cX3_landTiles 16 = .ok (.getfield 15, 3) := by decide +kernel
theorem dX3_landTiles_19 : decode cX3_landTiles 19 = .ok (.if_icmp .ge 21, 3) := by decide +kernel
theorem dX3_landTiles_22 : decode cX3_landTiles 22 = .ok (.aload_n 0, 1) := by decide +kernel
theorem dX3_landTiles_23 : decode cX3_landTiles 23 = .ok (.iload_n 2, 1) := by decide +kernel
theorem dX3_landTiles_24 : decode cX3_landTiles 24 = .ok (.iload_n 3, 1) := by decide +kernel
theorem dX3_landTiles_25 : decode cX3_landTiles 25 = .ok (.invokevirtual 47, 3) := by decide +kernel
theorem dX3_landTiles_28 : decode cX3_landTiles 28 = .ok (.ifCond .eq 6, 3) := by decide +kernel
theorem dX3_landTiles_31 : decode cX3_landTiles 31 = .ok (.iinc 1 1, 3) := by decide +kernel
theorem dX3_landTiles_34 : decode cX3_landTiles 34 = .ok (.iinc 3 1, 3) := by decide +kernel
theorem dX3_landTiles_37 : decode cX3_landTiles 37 = .ok (.goto (-23), 3) := by decide +kernel
theorem dX3_landTiles_40 : decode cX3_landTiles 40 = .ok (.iinc 2 1, 3) := by decide +kernel
theorem dX3_landTiles_43 : decode cX3_landTiles 43 = .ok (.goto (-39), 3) := by decide +kernel
theorem dX3_landTiles_46 : decode cX3_landTiles 46 = .ok (.iload_n 1, 1) := by decide +kernel
theorem dX3_landTiles_47 : decode cX3_landTiles 47 = .ok (.ireturn, 1) := by decide +kernel
theorem dX4_init_0 : decode cX4_init 0 = .ok (.aload_n 0, 1) := by decide +kernel
theorem dX4_init_1 : decode cX4_init 1 = .ok (.invokespecial 3, 3) := by decide +kernel
theorem dX4_init_4 : decode cX4_init 4 = .ok (.aload_n 0, 1) := by decide +kernel
theorem dX4_init_5 : decode cX4_init 5 = .ok (.bipush 80, 2) := by decide +kernel
theorem dX4_init_7 : decode cX4_init 7 = .ok (.newarray .int, 2) := by decide +kernel
theorem dX4_init_9 : decode cX4_init 9 = .ok (.putfield 9, 3) := by decide +kernel
theorem dX4_init_12 : decode cX4_init 12 = .ok (.aload_n 0, 1) := by decide +kernel
theorem dX4_init_13 : decode cX4_init 13 = .ok (.iconst 0, 1) := by decide +kernel
theorem dX4_init_14 : decode cX4_init 14 = .ok (.putfield 15, 3) := by decide +kernel
theorem dX4_init_17 : decode cX4_init 17 = .ok (.aload_n 0, 1) := by decide +kernel
theorem dX4_init_18 : decode cX4_init 18 = .ok (.new 19, 3) := by decide +kernel
theorem dX4_init_21 : decode cX4_init 21 = .ok (.dup, 1) := by decide +kernel
theorem dX4_init_22 : decode cX4_init 22 = .ok (.invokespecial 21, 3) := by decide +kernel
theorem dX4_init_25 : decode cX4_init 25 = .ok (.putfield 22, 3) := by decide +kernel
theorem dX4_init_28 : decode cX4_init 28 = .ok (.aload_n 0, 1) := by decide +kernel
theorem dX4_init_29 : decode cX4_init 29 = .ok (.iconst 0, 1) := by decide +kernel
theorem dX4_init_30 : decode cX4_init 30 = .ok (.putfield 26, 3) := by decide +kernel
theorem dX4_init_33 : decode cX4_init 33 = .ok (.aload_n 0, 1) := by decide +kernel
theorem dX4_init_34 : decode cX4_init 34 = .ok (.iconst 0, 1) := by decide +kernel
theorem dX4_init_35 : decode cX4_init 35 = .ok (.putfield 29, 3) := by decide +kernel
theorem dX4_init_38 : decode cX4_init 38 = .ok (.aload_n 0, 1) := by decide +kernel
theorem dX4_init_39 : decode cX4_init 39 = .ok (.iconst 0, 1) := by decide +kernel
theorem dX4_init_40 : decode cX4_init 40 = .ok (.putfield 32, 3) := by decide +kernel
theorem dX4_init_43 : decode cX4_init 43 = .ok (.aload_n 0, 1) := by decide +kernel
theorem dX4_init_44 : decode cX4_init 44 = .ok (.iconst 0, 1) := by decide +kernel
theorem dX4_init_45 : decode cX4_init 45 = .ok (.putfield 35, 3) := by decide +kernel
theorem dX4_init_48 : decode cX4_init 48 = .ok (.return_, 1) := by decide +kernel
theorem dX4_add_0 : decode cX4_add 0 = .ok (.aload_n 0, 1) := by decide +kernel
theorem dX4_add_1 : decode cX4_add 1 = .ok (.getfield 15, 3) := by decide +kernel
theorem dX4_add_4 : decode cX4_add 4 = .ok (.ifCond .lt 12, 3) := by decide +kernel
theorem dX4_add_7 : decode cX4_add 7 = .ok (.aload_n 0, 1) := by decide +kernel
theorem dX4_add_8 : decode cX4_add 8 = .ok (.getfield 15, 3) := by decide +kernel
theorem dX4_add_11 : decode cX4_add 11 = .ok (.bipush 80, 2) := by decide +kernel
theorem dX4_add_13 : decode cX4_add 13 = .ok (.if_icmp .lt 5, 3) := by decide +kernel
theorem dX4_add_16 : decode cX4_add 16 = .ok (.iconst 0, 1) := by decide +kernel
theorem dX4_add_17 : decode cX4_add 17 = .ok (.ireturn, 1) := by decide +kernel
theorem dX4_add_18 : decode cX4_add 18 = .ok (.aload_n 0, 1) := by decide +kernel
theorem dX4_add_19 : decode cX4_add 19 = .ok (.getfield 9, 3) := by decide +kernel
theorem dX4_add_22 : decode cX4_add 22 = .ok (.aload_n 0, 1) := by decide +kernel
theorem dX4_add_23 : decode cX4_add 23 = .ok (.getfield 15, 3) := by decide +kernel
theorem dX4_add_26 : decode cX4_add 26 = .ok (.iload_n 1, 1) := by decide +kernel
theorem dX4_add_27 : decode cX4_add 27 = .ok (.iastore, 1) := by decide +kernel
theorem dX4_add_28 : decode cX4_add 28 = .ok (.aload_n 0, 1) := by decide +kernel
theorem dX4_add_29 : decode cX4_add 29 = .ok (.dup, 1) := by decide +kernel
theorem dX4_add_30 : decode cX4_add 30 = .ok (.getfield 15, 3) := by decide +kernel
theorem dX4_add_33 : decode cX4_add 33 = .ok (.iconst 1, 1) := by decide +kernel
theorem dX4_add_34 : decode cX4_add 34 = .ok (.iadd, 1) := by decide +kernel
theorem dX4_add_35 : decode cX4_add 35 = .ok (.putfield 15, 3) := by decide +kernel
theorem dX4_add_38 : decode cX4_add 38 = .ok (.iconst 1, 1) := by decide +kernel
theorem dX4_add_39 : decode cX4_add 39 = .ok (.ireturn, 1) := by decide +kernel
theorem dX4_parse_0 : decode cX4_parse 0 = .ok (.aload_n 0, 1) := by decide +kernel
theorem dX4_parse_1 : decode cX4_parse 1 = .ok (.getfield 22, 3) := by decide +kernel
theorem dX4_parse_4 : decode cX4_parse 4 = .ok (.bipush 12, 2) := by decide +kernel
theorem dX4_parse_6 : decode cX4_parse 6 = .ok (.bipush 12, 2) := by decide +kernel
theorem dX4_parse_8 : decode cX4_parse 8 = .ok (.invokevirtual 38, 3) := by decide +kernel
theorem dX4_parse_11 : decode cX4_parse 11 = .ok (.aload_n 0, 1) := by decide +kernel
theorem dX4_parse_12 : decode cX4_parse 12 = .ok (.iconst 0, 1) := by decide +kernel
theorem dX4_parse_13 : decode cX4_parse 13 = .ok (.putfield 26, 3) := by decide +kernel
theorem dX4_parse_16 : decode cX4_parse 16 = .ok (.aload_n 0, 1) := by decide +kernel
theorem dX4_parse_17 : decode cX4_parse 17 = .ok (.iconst 0, 1) := by decide +kernel
theorem dX4_parse_18 : decode cX4_parse 18 = .ok (.putfield 29, 3) := by decide +kernel
theorem dX4_parse_21 : decode cX4_parse 21 = .ok (.aload_n 0, 1) := by decide +kernel
theorem dX4_parse_22 : decode cX4_parse 22 = .ok (.iconst 0, 1) := by decide +kernel
theorem dX4_parse_23 : decode cX4_parse 23 = .ok (.putfield 32, 3) := by decide +kernel
theorem dX4_parse_26 : decode cX4_parse 26 = .ok (.aload_n 0, 1) := by decide +kernel
theorem dX4_parse_27 : decode cX4_parse 27 = .ok (.iconst 0, 1) := by decide +kernel
theorem dX4_parse_28 : decode cX4_parse 28 = .ok (.putfield 35, 3) := by decide +kernel
theorem dX4_parse_31 : decode cX4_parse 31 = .ok (.iconst 0, 1) := by decide +kernel
theorem dX4_parse_32 : decode cX4_parse 32 = .ok (.istore_n 1, 1) := by decide +kernel
theorem dX4_parse_33 : decode cX4_parse 33 = .ok (.iload_n 1, 1) := by decide +kernel
theorem dX4_parse_34 : decode cX4_parse 34 = .ok (.aload_n 0, 1) := by decide +kernel
theorem dX4_parse_35 : decode cX4_parse 35 = .ok (.getfield 15, 3) := by decide +kernel
theorem dX4_parse_38 : decode cX4_parse 38 = .ok (.if_icmp .ge 30, 3) := by decide +kernel
theorem dX4_parse_41 : decode cX4_parse 41 = .ok (.iload_n 1, 1) := by decide +kernel
theorem dX4_parse_42 : decode cX4_parse 42 = .ok (.bipush 80, 2) := by decide +kernel
theorem dX4_parse_44 : decode cX4_parse 44 = .ok (.if_icmp .ge 24, 3) := by decide +kernel
theorem dX4_parse_47 : decode cX4_parse 47 = .ok (.aload_n 0, 1) := by decide +kernel
theorem dX4_parse_48 : decode cX4_parse 48 = .ok (.aload_n 0, 1) := by decide +kernel
theorem dX4_parse_49 : decode cX4_parse 49 = .ok (.getfield 9, 3) := by decide +kernel
theorem dX4_parse_52 : decode cX4_parse 52 = .ok (.iload_n 1, 1) := by decide +kernel
theorem dX4_parse_53 : decode cX4_parse 53 = .ok (.iaload, 1) := by decide +kernel
theorem dX4_parse_54 : decode cX4_parse 54 = .ok (.invokevirtual 42, 3) := by decide +kernel
theorem dX4_parse_57 : decode cX4_parse 57 = .ok (.ifCond .ne 5, 3) := by decide +kernel
theorem dX4_parse_60 : decode cX4_parse 60 = .ok (.iload_n 1, 1) := by decide +kernel
theorem dX4_parse_61 : decode cX4_parse 61 = .ok (.ireturn, 1) := by decide +kernel
theorem dX4_parse_62 : decode cX4_parse 62 = .ok (.iinc 1 1, 3) := by decide +kernel
theorem dX4_parse_65 : decode cX4_parse 65 = .ok (.goto (-32), 3) := by decide +kernel
theorem dX4_parse_68 : decode cX4_parse 68 = .ok (.aload_n 0, 1) := by decide +kernel
theorem dX4_parse_69 : decode cX4_parse 69 = .ok (.getfield 35, 3) := by decide +kernel
theorem dX4_parse_72 : decode cX4_parse 72 = .ok (.ifCond .ne 10, 3) := by decide +kernel
theorem dX4_parse_75 : decode cX4_parse 75 = .ok (.aload_n 0, 1) := by decide +kernel
theorem dX4_parse_76 : decode cX4_parse 76 = .ok (.invokevirtual 46, 3) := by decide +kernel
theorem dX4_parse_79 : decode cX4_parse 79 = .ok (.ifCond .ne 8, 3) := by decide +kernel
theorem dX4_parse_82 : decode cX4_parse 82 = .ok (.aload_n 0, 1) := by decide +kernel
theorem dX4_parse_83 : decode cX4_parse 83 = .ok (.getfield 15, 3) := by decide +kernel
theorem dX4_parse_86 : decode cX4_parse 86 = .ok (.ireturn, 1) := by decide +kernel
theorem dX4_parse_87 : decode cX4_parse 87 = .ok (.aload_n 0, 1) := by decide +kernel
theorem dX4_parse_88 : decode cX4_parse 88 = .ok (.getfield 22, 3) := by decide +kernel
theorem dX4_parse_91 : decode cX4_parse 91 = .ok (.aload_n 0, 1) := by decide +kernel
theorem dX4_parse_92 : decode cX4_parse 92 = .ok (.getfield 26, 3) := by decide +kernel
theorem dX4_parse_95 : decode cX4_parse 95 = .ok (.iconst 1, 1) := by decide +kernel
theorem dX4_parse_96 : decode cX4_parse 96 = .ok (.iadd, 1) := by decide +kernel
theorem dX4_parse_97 : decode cX4_parse 97 = .ok (.putfield 50, 3) := by decide +kernel
theorem dX4_parse_100 : decode cX4_parse 100 = .ok (.aload_n 0, 1) := by decide +kernel
theorem dX4_parse_101 : decode cX4_parse 101 = .ok (.getfield 22, 3) := by decide +kernel
theorem dX4_parse_104 : decode cX4_parse 104 = .ok (.aload_n 0, 1) := by decide +kernel
theorem dX4_parse_105 : decode cX4_parse 105 = .ok (.getfield 29, 3) := by decide +kernel
theorem dX4_parse_108 : decode cX4_parse 108 = .ok (.putfield 53, 3) := by decide +kernel
theorem dX4_parse_111 : decode cX4_parse 111 = .ok (.bipush (-6), 2) := by decide +kernel
theorem dX4_parse_113 : decode cX4_parse 113 = .ok (.ireturn, 1) := by decide +kernel
theorem dX4_accepts_0 : decode cX4_accepts 0 = .ok (.iload_n 1, 1) := by decide +kernel
theorem dX4_accepts_1 : decode cX4_accepts 1 = .ok (.bipush 47, 2) := by decide +kernel
theorem dX4_accepts_3 : decode cX4_accepts 3 = .ok (.if_icmp .ne 8, 3) := by decide +kernel
theorem dX4_accepts_6 : decode cX4_accepts 6 = .ok (.aload_n 0, 1) := by decide +kernel
theorem dX4_accepts_7 : decode cX4_accepts 7 = .ok (.invokevirtual 56, 3) := by decide +kernel
theorem dX4_accepts_10 : decode cX4_accepts 10 = .ok (.ireturn, 1) := by decide +kernel
theorem dX4_accepts_11 : decode cX4_accepts 11 = .ok (.iload_n 1, 1) := by decide +kernel
theorem dX4_accepts_12 : decode cX4_accepts 12 = .ok (.bipush 46, 2) := by decide +kernel
theorem dX4_accepts_14 : decode cX4_accepts 14 = .ok (.if_icmp .eq 9, 3) := by decide +kernel
theorem dX4_accepts_17 : decode cX4_accepts 17 = .ok (.iload_n 1, 1) := by decide +kernel
theorem dX4_accepts_18 : decode cX4_accepts 18 = .ok (.bipush 35, 2) := by decide +kernel
theorem dX4_accepts_20 : decode cX4_accepts 20 = .ok (.if_icmp .ne 19, 3) := by decide +kernel
theorem dX4_accepts_23 : decode cX4_accepts 23 = .ok (.aload_n 0, 1) := by decide +kernel
theorem dX4_accepts_24 : decode cX4_accepts 24 = .ok (.iload_n 1, 1) := by decide +kernel
theorem dX4_accepts_25 : decode cX4_accepts 25 = .ok (.bipush 35, 2) := by decide +kernel
theorem dX4_accepts_27 : decode cX4_accepts 27 = .ok (.if_icmp .ne 7, 3) := by decide +kernel
theorem dX4_accepts_30 : decode cX4_accepts 30 = .ok (.iconst 1, 1) := by decide +kernel
theorem dX4_accepts_31 : decode cX4_accepts 31 = .ok (.goto 4, 3) := by decide +kernel
theorem dX4_accepts_34 : decode cX4_accepts 34 = .ok (.iconst 0, 1) := by decide +kernel
theorem dX4_accepts_35 : decode cX4_accepts 35 = .ok (.invokevirtual 59, 3) := by decide +kernel
theorem dX4_accepts_38 : decode cX4_accepts 38 = .ok (.ireturn, 1) := by decide +kernel
theorem dX4_accepts_39 : decode cX4_accepts 39 = .ok (.iload_n 1, 1) := by decide +kernel
theorem dX4_accepts_40 : decode cX4_accepts 40 = .ok (.bipush 48, 2) := by decide +kernel
theorem dX4_accepts_42 : decode cX4_accepts 42 = .ok (.if_icmp .lt 24, 3) := by decide +kernel
theorem dX4_accepts_45 : decode cX4_accepts 45 = .ok (.iload_n 1, 1) := by decide +kernel
theorem dX4_accepts_46 : decode cX4_accepts 46 = .ok (.bipush 57, 2) := by decide +kernel
theorem dX4_accepts_48 : decode cX4_accepts 48 = .ok (.if_icmp .gt 18, 3) := by decide +kernel
theorem dX4_accepts_51 : decode cX4_accepts 51 = .ok (.aload_n 0, 1) := by decide +kernel
theorem dX4_accepts_52 : decode cX4_accepts 52 = .ok (.iload_n 1, 1) := by decide +kernel
theorem dX4_accepts_53 : decode cX4_accepts 53 = .ok (.bipush 48, 2) := by decide +kernel
theorem dX4_accepts_55 : decode cX4_accepts 55 = .ok (.isub, 1) := by decide +kernel
theorem dX4_accepts_56 : decode cX4_accepts 56 = .ok (.invokevirtual 63, 3) := by decide +kernel
theorem dX4_accepts_59 : decode cX4_accepts 59 = .ok (.ifCond .eq 7, 3) := by decide +kernel
theorem dX4_accepts_62 : decode cX4_accepts 62 = .ok (.iconst 1, 1) := by decide +kernel
theorem dX4_accepts_63 : decode cX4_accepts 63 = .ok (.goto 4, 3) := by decide +kernel
theorem dX4_accepts_66 : decode cX4_accepts 66 = .ok (.iconst 0, 1) := by decide +kernel
theorem dX4_accepts_67 : decode cX4_accepts 67 = .ok (.ireturn, 1) := by decide +kernel
theorem dX4_acceptsRowEnd_0 : decode cX4_acceptsRowEnd 0 = .ok (.aload_n 0, 1) := by decide +kernel
theorem dX4_acceptsRowEnd_1 : decode cX4_acceptsRowEnd 1 = .ok (.getfield 35, 3) := by decide +kernel
theorem dX4_acceptsRowEnd_4 : decode cX4_acceptsRowEnd 4 = .ok (.ifCond .ne 19, 3) := by decide +kernel
theorem dX4_acceptsRowEnd_7 : decode cX4_acceptsRowEnd 7 = .ok (.aload_n 0, 1) := by decide +kernel
theorem dX4_acceptsRowEnd_8 : decode cX4_acceptsRowEnd 8 = .ok (.invokevirtual 46, 3) := by decide +kernel
theorem dX4_acceptsRowEnd_11 : decode cX4_acceptsRowEnd 11 = .ok (.ifCond .eq 12, 3) := by decide +kernel
theorem dX4_acceptsRowEnd_14 : decode cX4_acceptsRowEnd 14 = .ok (.aload_n 0, 1) := by decide +kernel
theorem dX4_acceptsRowEnd_15 : decode cX4_acceptsRowEnd 15 = .ok (.getfield 26, 3) := by decide +kernel
theorem dX4_acceptsRowEnd_18 : decode cX4_acceptsRowEnd 18 = .ok (.bipush 11, 2) := by decide +kernel
theorem dX4_acceptsRowEnd_20 : decode cX4_acceptsRowEnd 20 = .ok (.if_icmp .lt 5, 3) := by decide +kernel
theorem dX4_acceptsRowEnd_23 : decode cX4_acceptsRowEnd 23 = .ok (.iconst 0, 1) := by decide +kernel
theorem dX4_acceptsRowEnd_24 : decode cX4_acceptsRowEnd 24 = .ok (.ireturn, 1) := by decide +kernel
theorem dX4_acceptsRowEnd_25 : decode cX4_acceptsRowEnd 25 = .ok (.aload_n 0, 1) := by decide +kernel
theorem dX4_acceptsRowEnd_26 : decode cX4_acceptsRowEnd 26 = .ok (.aload_n 0, 1) := by decide +kernel
theorem dX4_acceptsRowEnd_27 : decode cX4_acceptsRowEnd 27 = .ok (.getfield 29, 3) := by decide +kernel
theorem dX4_acceptsRowEnd_30 : decode cX4_acceptsRowEnd 30 = .ok (.putfield 32, 3) := by decide +kernel
theorem dX4_acceptsRowEnd_33 : decode cX4_acceptsRowEnd 33 = .ok (.aload_n 0, 1) := by decide +kernel
theorem dX4_acceptsRowEnd_34 : decode cX4_acceptsRowEnd 34 = .ok (.dup, 1) := by decide +kernel
theorem dX4_acceptsRowEnd_35 : decode cX4_acceptsRowEnd 35 = .ok (.getfield 26, 3) := by decide +kernel
theorem dX4_acceptsRowEnd_38 : decode cX4_acceptsRowEnd 38 = .ok (.iconst 1, 1) := by decide +kernel
theorem dX4_acceptsRowEnd_39 : decode cX4_acceptsRowEnd 39 = .ok (.iadd, 1) := by decide +kernel
theorem dX4_acceptsRowEnd_40 : decode cX4_acceptsRowEnd 40 = .ok (.putfield 26, 3) := by decide +kernel
theorem dX4_acceptsRowEnd_43 : decode cX4_acceptsRowEnd 43 = .ok (.aload_n 0, 1) := by decide +kernel
theorem dX4_acceptsRowEnd_44 : decode cX4_acceptsRowEnd 44 = .ok (.iconst 0, 1) := by decide +kernel
theorem dX4_acceptsRowEnd_45 : decode cX4_acceptsRowEnd 45 = .ok (.putfield 29, 3) := by decide +kernel
theorem dX4_acceptsRowEnd_48 : decode cX4_acceptsRowEnd 48 = .ok (.iconst 1, 1) := by decide +kernel
theorem dX4_acceptsRowEnd_49 : decode cX4_acceptsRowEnd 49 = .ok (.ireturn, 1) := by decide +kernel
theorem dX4_acceptsRun_0 : decode cX4_acceptsRun 0 = .ok (.aload_n 0, 1) := by decide +kernel
theorem dX4_acceptsRun_1 : decode cX4_acceptsRun 1 = .ok (.getfield 35, 3) := by decide +kernel
theorem dX4_acceptsRun_4 : decode cX4_acceptsRun 4 = .ok (.ifCond .ne 7, 3) := by decide +kernel
theorem dX4_acceptsRun_7 : decode cX4_acceptsRun 7 = .ok (.iconst 1, 1) := by decide +kernel
theorem dX4_acceptsRun_8 : decode cX4_acceptsRun 8 = .ok (.goto 7, 3) := by decide +kernel
theorem dX4_acceptsRun_11 : decode cX4_acceptsRun 11 = .ok (.aload_n 0, 1) := by decide +kernel
theorem dX4_acceptsRun_12 : decode cX4_acceptsRun 12 = .ok (.getfield 35, 3) := by decide +kernel
theorem dX4_acceptsRun_15 : decode cX4_acceptsRun 15 = .ok (.istore_n 2, 1) := by decide +kernel
theorem dX4_acceptsRun_16 : decode cX4_acceptsRun 16 = .ok (.aload_n 0, 1) := by decide +kernel
theorem dX4_acceptsRun_17 : decode cX4_acceptsRun 17 = .ok (.getfield 35, 3) := by decide +kernel
theorem dX4_acceptsRun_20 : decode cX4_acceptsRun 20 = .ok (.iconst 1, 1) := by decide +kernel
theorem dX4_acceptsRun_21 : decode cX4_acceptsRun 21 = .ok (.if_icmp .eq 11, 3) := by decide +kernel
theorem dX4_acceptsRun_24 : decode cX4_acceptsRun 24 = .ok (.iload_n 2, 1) := by decide +kernel
theorem dX4_acceptsRun_25 : decode cX4_acceptsRun 25 = .ok (.aload_n 0, 1) := by decide +kernel
theorem dX4_acceptsRun_26 : decode cX4_acceptsRun 26 = .ok (.invokevirtual 66, 3) := by decide +kernel
theorem dX4_acceptsRun_29 : decode cX4_acceptsRun 29 = .ok (.if_icmp .le 5, 3) := by decide +kernel
theorem dX4_acceptsRun_32 : decode cX4_acceptsRun 32 = .ok (.iconst 0, 1) := by decide +kernel
theorem dX4_acceptsRun_33 : decode cX4_acceptsRun 33 = .ok (.ireturn, 1) := by decide +kernel
theorem dX4_acceptsRun_34 : decode cX4_acceptsRun 34 = .ok (.iconst 0, 1) := by decide +kernel
theorem dX4_acceptsRun_35 : decode cX4_acceptsRun 35 = .ok (.istore_n 3, 1) := by decide +kernel
theorem dX4_acceptsRun_36 : decode cX4_acceptsRun 36 = .ok (.iload_n 3, 1) := by decide +kernel
theorem dX4_acceptsRun_37 : decode cX4_acceptsRun 37 = .ok (.iload_n 2, 1) := by decide +kernel
theorem dX4_acceptsRun_38 : decode cX4_acceptsRun 38 = .ok (.if_icmp .ge 34, 3) := by decide +kernel
theorem dX4_acceptsRun_41 : decode cX4_acceptsRun 41 = .ok (.iload_n 3, 1) := by decide +kernel
theorem dX4_acceptsRun_42 : decode cX4_acceptsRun 42 = .ok (.bipush 12, 2) := by decide +kernel
theorem dX4_acceptsRun_44 : decode cX4_acceptsRun 44 = .ok (.if_icmp .ge 28, 3) := by decide +kernel
theorem dX4_acceptsRun_47 : decode cX4_acceptsRun 47 = .ok (.aload_n 0, 1) := by decide +kernel
theorem dX4_acceptsRun_48 : decode cX4_acceptsRun 48 = .ok (.getfield 22, 3) := by decide +kernel
theorem dX4_acceptsRun_51 : decode cX4_acceptsRun 51 = .ok (.aload_n 0, 1) := by decide +kernel
theorem dX4_acceptsRun_52 : decode cX4_acceptsRun 52 = .ok (.getfield 26, 3) := by decide +kernel
theorem dX4_acceptsRun_55 : decode cX4_acceptsRun 55 = .ok (.aload_n 0, 1) := by decide +kernel
theorem dX4_acceptsRun_56 : decode cX4_acceptsRun 56 = .ok (.getfield 29, 3) := by decide +kernel
theorem dX4_acceptsRun_59 : decode cX4_acceptsRun 59 = .ok (.iload_n 3, 1) := by decide +kernel
theorem dX4_acceptsRun_60 : decode cX4_acceptsRun 60 = .ok (.iadd, 1) := by decide +kernel
theorem dX4_acceptsRun_61 : decode cX4_acceptsRun 61 = .ok (.iload_n 1, 1) := by decide +kernel
theorem dX4_acceptsRun_62 : decode cX4_acceptsRun 62 = .ok (.invokevirtual 70, 3) := by decide +kernel
theorem dX4_acceptsRun_65 : decode cX4_acceptsRun 65 = .ok (.pop, 1) := by decide +kernel
theorem dX4_acceptsRun_66 : decode cX4_acceptsRun 66 = .ok (.iinc 3 1, 3) := by decide +kernel
theorem dX4_acceptsRun_69 : decode cX4_acceptsRun 69 = .ok (.goto (-33), 3) := by decide +kernel
theorem dX4_acceptsRun_72 : decode cX4_acceptsRun 72 = .ok (.aload_n 0, 1) := by decide +kernel
theorem dX4_acceptsRun_73 : decode cX4_acceptsRun 73 = .ok (.dup, 1) := by decide +kernel
theorem dX4_acceptsRun_74 : decode cX4_acceptsRun 74 = .ok (.getfield 29, 3) := by decide +kernel
theorem dX4_acceptsRun_77 : decode cX4_acceptsRun 77 = .ok (.iload_n 2, 1) := by decide +kernel
theorem dX4_acceptsRun_78 : decode cX4_acceptsRun 78 = .ok (.iadd, 1) := by decide +kernel
theorem dX4_acceptsRun_79 : decode cX4_acceptsRun 79 = .ok (.putfield 29, 3) := by decide +kernel
theorem dX4_acceptsRun_82 : decode cX4_acceptsRun 82 = .ok (.aload_n 0, 1) := by decide +kernel
theorem dX4_acceptsRun_83 : decode cX4_acceptsRun 83 = .ok (.iconst 0, 1) := by decide +kernel
theorem dX4_acceptsRun_84 : decode cX4_acceptsRun 84 = .ok (.putfield 35, 3) := by decide +kernel
theorem dX4_acceptsRun_87 : decode cX4_acceptsRun 87 = .ok (.iconst 1, 1) := by decide +kernel
theorem dX4_acceptsRun_88 : decode cX4_acceptsRun 88 = .ok (.ireturn, 1) := by decide +kernel
theorem dX4_acceptsDigit_0 : decode cX4_acceptsDigit 0 = .ok (.aload_n 0, 1) := by decide +kernel
theorem dX4_acceptsDigit_1 : decode cX4_acceptsDigit 1 = .ok (.getfield 35, 3) := by decide +kernel
theorem dX4_acceptsDigit_4 : decode cX4_acceptsDigit 4 = .ok (.iconst 1, 1) := by decide +kernel
theorem dX4_acceptsDigit_5 : decode cX4_acceptsDigit 5 = .ok (.if_icmp .gt 14, 3) := by decide +kernel
theorem dX4_acceptsDigit_8 : decode cX4_acceptsDigit 8 = .ok (.aload_n 0, 1) := by decide +kernel
theorem dX4_acceptsDigit_9 : decode cX4_acceptsDigit 9 = .ok (.getfield 35, 3) := by decide +kernel
theorem dX4_acceptsDigit_12 : decode cX4_acceptsDigit 12 = .ok (.ifCond .ne 9, 3) := by decide +kernel
theorem dX4_acceptsDigit_15 : decode cX4_acceptsDigit 15 = .ok (.iload_n 1, 1) := by decide +kernel
theorem dX4_acceptsDigit_16 : decode cX4_acceptsDigit 16 = .ok (.ifCond .ne 5, 3) := by decide +kernel
theorem dX4_acceptsDigit_19 : decode cX4_acceptsDigit 19 = .ok (.iconst 0, 1) := by decide +kernel
theorem dX4_acceptsDigit_20 : decode cX4_acceptsDigit 20 = .ok (.ireturn, 1) := by decide +kernel
theorem dX4_acceptsDigit_21 : decode cX4_acceptsDigit 21 = .ok (.bipush 10, 2) := by decide +kernel
theorem dX4_acceptsDigit_23 : decode cX4_acceptsDigit 23 = .ok (.aload_n 0, 1) := by decide +kernel
theorem dX4_acceptsDigit_24 : decode cX4_acceptsDigit 24 = .ok (.getfield 35, 3) := by decide +kernel
theorem dX4_acceptsDigit_27 : decode cX4_acceptsDigit 27 = .ok (.imul, 1) := by decide +kernel
theorem dX4_acceptsDigit_28 : decode cX4_acceptsDigit 28 = .ok (.iload_n 1, 1) := by decide +kernel
theorem dX4_acceptsDigit_29 : decode cX4_acceptsDigit 29 = .ok (.iadd, 1) := by decide +kernel
theorem dX4_acceptsDigit_30 : decode cX4_acceptsDigit 30 = .ok (.istore_n 2, 1) := by decide +kernel
theorem dX4_acceptsDigit_31 : decode cX4_acceptsDigit 31 = .ok (.iload_n 2, 1) := by decide +kernel
theorem dX4_acceptsDigit_32 : decode cX4_acceptsDigit 32 = .ok (.iconst 1, 1) := by decide +kernel
theorem dX4_acceptsDigit_33 : decode cX4_acceptsDigit 33 = .ok (.if_icmp .ne 8, 3) := by decide +kernel
theorem dX4_acceptsDigit_36 : decode cX4_acceptsDigit 36 = .ok (.bipush 10, 2) := by decide +kernel
theorem dX4_acceptsDigit_38 : decode cX4_acceptsDigit 38 = .ok (.goto 4, 3) := by decide +kernel
theorem dX4_acceptsDigit_41 : decode cX4_acceptsDigit 41 = .ok (.iload_n 2, 1) := by decide +kernel
theorem dX4_acceptsDigit_42 : decode cX4_acceptsDigit 42 = .ok (.istore_n 3, 1) := by decide +kernel
theorem dX4_acceptsDigit_43 : decode cX4_acceptsDigit 43 = .ok (.iload_n 3, 1) := by decide +kernel
theorem dX4_acceptsDigit_44 : decode cX4_acceptsDigit 44 = .ok (.aload_n 0, 1) := by decide +kernel
theorem dX4_acceptsDigit_45 : decode cX4_acceptsDigit 45 = .ok (.invokevirtual 66, 3) := by decide +kernel
theorem dX4_acceptsDigit_48 : decode cX4_acceptsDigit 48 = .ok (.if_icmp .le 5, 3) := by decide +kernel
theorem dX4_acceptsDigit_51 : decode cX4_acceptsDigit 51 = .ok (.iconst 0, 1) := by decide +kernel
theorem dX4_acceptsDigit_52 : decode cX4_acceptsDigit 52 = .ok (.ireturn, 1) := by decide +kernel
theorem dX4_acceptsDigit_53 : decode cX4_acceptsDigit 53 = .ok (.aload_n 0, 1) := by decide +kernel
theorem dX4_acceptsDigit_54 : decode cX4_acceptsDigit 54 = .ok (.iload_n 2, 1) := by decide +kernel
theorem dX4_acceptsDigit_55 : decode cX4_acceptsDigit 55 = .ok (.putfield 35, 3) := by decide +kernel
theorem dX4_acceptsDigit_58 : decode cX4_acceptsDigit 58 = .ok (.iconst 1, 1) := by decide +kernel
theorem dX4_acceptsDigit_59 : decode cX4_acceptsDigit 59 = .ok (.ireturn, 1) := by decide +kernel
theorem dX4_rowCanEnd_0 : decode cX4_rowCanEnd 0 = .ok (.aload_n 0, 1) := by decide +kernel
theorem dX4_rowCanEnd_1 : decode cX4_rowCanEnd 1 = .ok (.getfield 29, 3) := by decide +kernel
theorem dX4_rowCanEnd_4 : decode cX4_rowCanEnd 4 = .ok (.ifCond .le 25, 3) := by decide +kernel
theorem dX4_rowCanEnd_7 : decode cX4_rowCanEnd 7 = .ok (.aload_n 0, 1) := by decide +kernel
theorem dX4_rowCanEnd_8 : decode cX4_rowCanEnd 8 = .ok (.getfield 26, 3) := by decide +kernel
theorem dX4_rowCanEnd_11 : decode cX4_rowCanEnd 11 = .ok (.ifCond .eq 14, 3) := by decide +kernel
theorem dX4_rowCanEnd_14 : decode cX4_rowCanEnd 14 = .ok (.aload_n 0, 1) := by decide +kernel
theorem dX4_rowCanEnd_15 : decode cX4_rowCanEnd 15 = .ok (.getfield 29, 3) := by decide +kernel
theorem dX4_rowCanEnd_18 : decode cX4_rowCanEnd 18 = .ok (.aload_n 0, 1) := by decide +kernel
theorem dX4_rowCanEnd_19 : decode cX4_rowCanEnd 19 = .ok (.getfield 32, 3) := by decide +kernel
theorem dX4_rowCanEnd_22 : decode cX4_rowCanEnd 22 = .ok (.if_icmp .ne 7, 3) := by decide +kernel
theorem dX4_rowCanEnd_25 : decode cX4_rowCanEnd 25 = .ok (.iconst 1, 1) := by decide +kernel
theorem dX4_rowCanEnd_26 : decode cX4_rowCanEnd 26 = .ok (.goto 4, 3) := by decide +kernel
theorem dX4_rowCanEnd_29 : decode cX4_rowCanEnd 29 = .ok (.iconst 0, 1) := by decide +kernel
theorem dX4_rowCanEnd_30 : decode cX4_rowCanEnd 30 = .ok (.ireturn, 1) := by decide +kernel
theorem dX4_columnsLeft_0 : decode cX4_columnsLeft 0 = .ok (.aload_n 0, 1) := by decide +kernel
theorem dX4_columnsLeft_1 : decode cX4_columnsLeft 1 = .ok (.getfield 26, 3) := by decide +kernel
theorem dX4_columnsLeft_4 : decode cX4_columnsLeft 4 = .ok (.ifCond .ne 8, 3) := by decide +kernel
theorem dX4_columnsLeft_7 : decode cX4_columnsLeft 7 = .ok (.bipush 12, 2) := by decide +kernel
theorem dX4_columnsLeft_9 : decode cX4_columnsLeft 9 = .ok (.goto 7, 3) := by decide +kernel
theorem dX4_columnsLeft_12 : decode cX4_columnsLeft 12 = .ok (.aload_n 0, 1) := by decide +kernel
theorem dX4_columnsLeft_13 : decode cX4_columnsLeft 13 = .ok (.getfield 32, 3) := by decide +kernel
theorem dX4_columnsLeft_16 : decode cX4_columnsLeft 16 = .ok (.aload_n 0, 1) := by decide +kernel
theorem dX4_columnsLeft_17 : decode cX4_columnsLeft 17 = .ok (.getfield 29, 3) := by decide +kernel
theorem dX4_columnsLeft_20 : decode cX4_columnsLeft 20 = .ok (.isub, 1) := by decide +kernel
theorem dX4_columnsLeft_21 : decode cX4_columnsLeft 21 = .ok (.ireturn, 1) := by decide +kernel
theorem dX5_init_0 : decode cX5_init 0 = .ok (.aload_n 0, 1) := by decide +kernel
theorem dX5_init_1 : decode cX5_init 1 = .ok (.invokespecial 3, 3) := by decide +kernel
theorem dX5_init_4 : decode cX5_init 4 = .ok (.aload_n 0, 1) := by decide +kernel
theorem dX5_init_5 : decode cX5_init 5 = .ok (.new 9, 3) := by decide +kernel
theorem dX5_init_8 : decode cX5_init 8 = .ok (.dup, 1) := by decide +kernel
theorem dX5_init_9 : decode cX5_init 9 = .ok (.invokespecial 11, 3) := by decide +kernel
theorem dX5_init_12 : decode cX5_init 12 = .ok (.putfield 12, 3) := by decide +kernel
theorem dX5_init_15 : decode cX5_init 15 = .ok (.aload_n 0, 1) := by decide +kernel
theorem dX5_init_16 : decode cX5_init 16 = .ok (.new 16, 3) := by decide +kernel
theorem dX5_init_19 : decode cX5_init 19 = .ok (.dup, 1) := by decide +kernel
theorem dX5_init_20 : decode cX5_init 20 = .ok (.invokespecial 18, 3) := by decide +kernel
theorem dX5_init_23 : decode cX5_init 23 = .ok (.putfield 19, 3) := by decide +kernel
theorem dX5_init_26 : decode cX5_init 26 = .ok (.aload_n 0, 1) := by decide +kernel
theorem dX5_init_27 : decode cX5_init 27 = .ok (.new 16, 3) := by decide +kernel
theorem dX5_init_30 : decode cX5_init 30 = .ok (.dup, 1) := by decide +kernel
theorem dX5_init_31 : decode cX5_init 31 = .ok (.invokespecial 18, 3) := by decide +kernel
theorem dX5_init_34 : decode cX5_init 34 = .ok (.putfield 23, 3) := by decide +kernel
theorem dX5_init_37 : decode cX5_init 37 = .ok (.aload_n 0, 1) := by decide +kernel
theorem dX5_init_38 : decode cX5_init 38 = .ok (.new 16, 3) := by decide +kernel
theorem dX5_init_41 : decode cX5_init 41 = .ok (.dup, 1) := by decide +kernel
theorem dX5_init_42 : decode cX5_init 42 = .ok (.invokespecial 18, 3) := by decide +kernel
theorem dX5_init_45 : decode cX5_init 45 = .ok (.putfield 26, 3) := by decide +kernel
theorem dX5_init_48 : decode cX5_init 48 = .ok (.aload_n 0, 1) := by decide +kernel
theorem dX5_init_49 : decode cX5_init 49 = .ok (.iconst 0, 1) := by decide +kernel
theorem dX5_init_50 : decode cX5_init 50 = .ok (.putfield 29, 3) := by decide +kernel
theorem dX5_init_53 : decode cX5_init 53 = .ok (.aload_n 0, 1) := by decide +kernel
theorem dX5_init_54 : decode cX5_init 54 = .ok (.new 33, 3) := by decide +kernel
theorem dX5_init_57 : decode cX5_init 57 = .ok (.dup, 1) := by decide +kernel
theorem dX5_init_58 : decode cX5_init 58 = .ok (.invokespecial 35, 3) := by decide +kernel
theorem dX5_init_61 : decode cX5_init 61 = .ok (.putfield 36, 3) := by decide +kernel
theorem dX5_init_64 : decode cX5_init 64 = .ok (.aload_n 0, 1) := by decide +kernel
theorem dX5_init_65 : decode cX5_init 65 = .ok (.new 40, 3) := by decide +kernel
theorem dX5_init_68 : decode cX5_init 68 = .ok (.dup, 1) := by decide +kernel
theorem dX5_init_69 : decode cX5_init 69 = .ok (.invokespecial 42, 3) := by decide +kernel
theorem dX5_init_72 : decode cX5_init 72 = .ok (.putfield 43, 3) := by decide +kernel
theorem dX5_init_75 : decode cX5_init 75 = .ok (.aload_n 0, 1) := by decide +kernel
theorem dX5_init_76 : decode cX5_init 76 = .ok (.new 47, 3) := by decide +kernel
theorem dX5_init_79 : decode cX5_init 79 = .ok (.dup, 1) := by decide +kernel
theorem dX5_init_80 : decode cX5_init 80 = .ok (.invokespecial 49, 3) := by decide +kernel
theorem dX5_init_83 : decode cX5_init 83 = .ok (.putfield 50, 3) := by decide +kernel
theorem dX5_init_86 : decode cX5_init 86 = .ok (.return_, 1) := by decide +kernel
theorem dX5_begin_0 : decode cX5_begin 0 = .ok (.iload_n 1, 1) := by decide +kernel
theorem dX5_begin_1 : decode cX5_begin 1 = .ok (.invokestatic 54, 3) := by decide +kernel
theorem dX5_begin_4 : decode cX5_begin 4 = .ok (.ifCond .eq 10, 3) := by decide +kernel
theorem dX5_begin_7 : decode cX5_begin 7 = .ok (.iload_n 2, 1) := by decide +kernel
theorem dX5_begin_8 : decode cX5_begin 8 = .ok (.invokestatic 54, 3) := by decide +kernel
theorem dX5_begin_11 : decode cX5_begin 11 = .ok (.ifCond .ne 6, 3) := by decide +kernel
theorem dX5_begin_14 : decode cX5_begin 14 = .ok (.bipush (-2), 2) := by decide +kernel
theorem dX5_begin_16 : decode cX5_begin 16 = .ok (.ireturn, 1) := by decide +kernel
theorem dX5_begin_17 : decode cX5_begin 17 = .ok (.aload_n 0, 1) := by decide +kernel
theorem dX5_begin_18 : decode cX5_begin 18 = .ok (.getfield 36, 3) := by decide +kernel
theorem dX5_begin_21 : decode cX5_begin 21 = .ok (.aload_n 0, 1) := by decide +kernel
theorem dX5_begin_22 : decode cX5_begin 22 = .ok (.getfield 19, 3) := by decide +kernel
theorem dX5_begin_25 : decode cX5_begin 25 = .ok (.invokevirtual 58, 3) := by decide +kernel
theorem dX5_begin_28 : decode cX5_begin 28 = .ok (.aload_n 0, 1) := by decide +kernel
theorem dX5_begin_29 : decode cX5_begin 29 = .ok (.getfield 19, 3) := by decide +kernel
theorem dX5_begin_32 : decode cX5_begin 32 = .ok (.iload_n 1, 1) := by decide +kernel
theorem dX5_begin_33 : decode cX5_begin 33 = .ok (.iload_n 2, 1) := by decide +kernel
theorem dX5_begin_34 : decode cX5_begin 34 = .ok (.invokevirtual 62, 3) := by decide +kernel
theorem dX5_begin_37 : decode cX5_begin 37 = .ok (.iload_n 1, 1) := by decide +kernel
theorem dX5_begin_38 : decode cX5_begin 38 = .ok (.iload_n 2, 1) := by decide +kernel
theorem dX5_begin_39 : decode cX5_begin 39 = .ok (.imul, 1) := by decide +kernel
theorem dX5_begin_40 : decode cX5_begin 40 = .ok (.ireturn, 1) := by decide +kernel
theorem dX5_setOutside_0 : decode cX5_setOutside 0 = .ok (.aload_n 0, 1) := by decide +kernel
theorem dX5_setOutside_1 : decode cX5_setOutside 1 = .ok (.getfield 36, 3) := by decide +kernel
theorem dX5_setOutside_4 : decode cX5_setOutside 4 = .ok (.aload_n 0, 1) := by decide +kernel
theorem dX5_setOutside_5 : decode cX5_setOutside 5 = .ok (.getfield 19, 3) := by decide +kernel
theorem dX5_setOutside_8 : decode cX5_setOutside 8 = .ok (.invokevirtual 58, 3) := by decide +kernel
theorem dX5_setOutside_11 : decode cX5_setOutside 11 = .ok (.iload_n 1, 1) := by decide +kernel
theorem dX5_setOutside_12 : decode cX5_setOutside 12 = .ok (.aload_n 0, 1) := by decide +kernel
theorem dX5_setOutside_13 : decode cX5_setOutside 13 = .ok (.getfield 19, 3) := by decide +kernel
theorem dX5_setOutside_16 : decode cX5_setOutside 16 = .ok (.getfield 66, 3) := by decide +kernel
theorem dX5_setOutside_19 : decode cX5_setOutside 19 = .ok (.if_icmp .ne 7, 3) := by decide +kernel
theorem dX5_setOutside_22 : decode cX5_setOutside 22 = .ok (.iconst 0, 1) := by decide +kernel
theorem dX5_setOutside_23 : decode cX5_setOutside 23 = .ok (.goto 7, 3) := by decide +kernel
theorem dX5_setOutside_26 : decode cX5_setOutside 26 = .ok (.aload_n 0, 1) := by decide +kernel
theorem dX5_setOutside_27 : decode cX5_setOutside 27 = .ok (.invokevirtual 69, 3) := by decide +kernel
theorem dX5_setOutside_30 : decode cX5_setOutside 30 = .ok (.istore_n 2, 1) := by decide +kernel
theorem dX5_setOutside_31 : decode cX5_setOutside 31 = .ok (.aload_n 0, 1) := by decide +kernel
theorem dX5_setOutside_32 : decode cX5_setOutside 32 = .ok (.getfield 19, 3) := by decide +kernel
theorem dX5_setOutside_35 : decode cX5_setOutside 35 = .ok (.iload_n 1, 1) := by decide +kernel
theorem dX5_setOutside_36 : decode cX5_setOutside 36 = .ok (.putfield 66, 3) := by decide +kernel
theorem dX5_setOutside_39 : decode cX5_setOutside 39 = .ok (.iload_n 2, 1) := by decide +kernel
theorem dX5_setOutside_40 : decode cX5_setOutside 40 = .ok (.ireturn, 1) := by decide +kernel
theorem dX5_set_0 : decode cX5_set 0 = .ok (.aload_n 0, 1) := by decide +kernel
theorem dX5_set_1 : decode cX5_set 1 = .ok (.getfield 19, 3) := by decide +kernel
theorem dX5_set_4 : decode cX5_set 4 = .ok (.iload_n 1, 1) := by decide +kernel
theorem dX5_set_5 : decode cX5_set 5 = .ok (.iload_n 2, 1) := by decide +kernel
theorem dX5_set_6 : decode cX5_set 6 = .ok (.invokevirtual 73, 3) := by decide +kernel
theorem dX5_set_9 : decode cX5_set 9 = .ok (.ifCond .ne 5, 3) := by decide +kernel
theorem dX5_set_12 : decode cX5_set 12 = .ok (.iconst (-1), 1) := by decide +kernel
theorem dX5_set_13 : decode cX5_set 13 = .ok (.ireturn, 1) := by decide +kernel
theorem dX5_set_14 : decode cX5_set 14 = .ok (.aload_n 0, 1) := by decide +kernel
theorem dX5_set_15 : decode cX5_set 15 = .ok (.getfield 36, 3) := by decide +kernel
theorem dX5_set_18 : decode cX5_set 18 = .ok (.aload_n 0, 1) := by decide +kernel
theorem dX5_set_19 : decode cX5_set 19 = .ok (.getfield 19, 3) := by decide +kernel
theorem dX5_set_22 : decode cX5_set 22 = .ok (.invokevirtual 58, 3) := by decide +kernel
theorem dX5_set_25 : decode cX5_set 25 = .ok (.iload_n 3, 1) := by decide +kernel
theorem dX5_set_26 : decode cX5_set 26 = .ok (.aload_n 0, 1) := by decide +kernel
theorem dX5_set_27 : decode cX5_set 27 = .ok (.getfield 19, 3) := by decide +kernel
theorem dX5_set_30 : decode cX5_set 30 = .ok (.iload_n 1, 1) := by decide +kernel
theorem dX5_set_31 : decode cX5_set 31 = .ok (.iload_n 2, 1) := by decide +kernel
theorem dX5_set_32 : decode cX5_set 32 = .ok (.invokevirtual 77, 3) := by decide +kernel
theorem dX5_set_35 : decode cX5_set 35 = .ok (.if_icmp .ne 7, 3) := by decide +kernel
theorem dX5_set_38 : decode cX5_set 38 = .ok (.iconst 0, 1) := by decide +kernel
theorem dX5_set_39 : decode cX5_set 39 = .ok (.goto 9, 3) := by decide +kernel
theorem dX5_set_42 : decode cX5_set 42 = .ok (.aload_n 0, 1) := by decide +kernel
theorem dX5_set_43 : decode cX5_set 43 = .ok (.iload_n 1, 1) := by decide +kernel
theorem dX5_set_44 : decode cX5_set 44 = .ok (.iload_n 2, 1) := by decide +kernel
theorem dX5_set_45 : decode cX5_set 45 = .ok (.invokevirtual 80, 3) := by decide +kernel
theorem dX5_set_48 : decode cX5_set 48 = .ok (.istore 4, 2) := by decide +kernel
theorem dX5_set_50 : decode cX5_set 50 = .ok (.aload_n 0, 1) := by decide +kernel
theorem dX5_set_51 : decode cX5_set 51 = .ok (.getfield 19, 3) := by decide +kernel
theorem dX5_set_54 : decode cX5_set 54 = .ok (.iload_n 1, 1) := by decide +kernel
theorem dX5_set_55 : decode cX5_set 55 = .ok (.iload_n 2, 1) := by decide +kernel
theorem dX5_set_56 : decode cX5_set 56 = .ok (.iload_n 3, 1) := by decide +kernel
theorem dX5_set_57 : decode cX5_set 57 = .ok (.invokevirtual 84, 3) := by decide +kernel
theorem dX5_set_60 : decode cX5_set 60 = .ok (.pop, 1) := by decide +kernel
theorem dX5_set_61 : decode cX5_set 61 = .ok (.iload 4, 2) := by decide +kernel
theorem dX5_set_63 : decode cX5_set 63 = .ok (.ireturn, 1) := by decide +kernel
theorem dX5_fill_0 : decode cX5_fill 0 = .ok (.aload_n 0, 1) := by decide +kernel
theorem dX5_fill_1 : decode cX5_fill 1 = .ok (.getfield 19, 3) := by decide +kernel
theorem dX5_fill_4 : decode cX5_fill 4 = .ok (.iload_n 1, 1) := by decide +kernel
theorem dX5_fill_5 : decode cX5_fill 5 = .ok (.iload_n 2, 1) := by decide +kernel
theorem dX5_fill_6 : decode cX5_fill 6 = .ok (.invokevirtual 73, 3) := by decide +kernel
theorem dX5_fill_9 : decode cX5_fill 9 = .ok (.ifCond .ne 5, 3) := by decide +kernel
theorem dX5_fill_12 : decode cX5_fill 12 = .ok (.iconst (-1), 1) := by decide +kernel
theorem dX5_fill_13 : decode cX5_fill 13 = .ok (.ireturn, 1) := by decide +kernel
theorem dX5_fill_14 : decode cX5_fill 14 = .ok (.aload_n 0, 1) := by decide +kernel
theorem dX5_fill_15 : decode cX5_fill 15 = .ok (.getfield 36, 3) := by decide +kernel
theorem dX5_fill_18 : decode cX5_fill 18 = .ok (.aload_n 0, 1) := by decide +kernel
theorem dX5_fill_19 : decode cX5_fill 19 = .ok (.getfield 19, 3) := by decide +kernel
theorem dX5_fill_22 : decode cX5_fill 22 = .ok (.invokevirtual 58, 3) := by decide +kernel
theorem dX5_fill_25 : decode cX5_fill 25 = .ok (.aload_n 0, 1) := by decide +kernel
theorem dX5_fill_26 : decode cX5_fill 26 = .ok (.getfield 19, 3) := by decide +kernel
theorem dX5_fill_29 : decode cX5_fill 29 = .ok (.iload_n 1, 1) := by decide +kernel
theorem dX5_fill_30 : decode cX5_fill 30 = .ok (.iload_n 2, 1) := by decide +kernel
theorem dX5_fill_31 : decode cX5_fill 31 = .ok (.invokevirtual 77, 3) := by decide +kernel
theorem dX5_fill_34 : decode cX5_fill 34 = .ok (.iload_n 3, 1) := by decide +kernel
theorem dX5_fill_35 : decode cX5_fill 35 = .ok (.if_icmp .ne 5, 3) := by decide +kernel
theorem dX5_fill_38 : decode cX5_fill 38 = .ok (.iconst 0, 1) := by decide +kernel
theorem dX5_fill_39 : decode cX5_fill 39 = .ok (.ireturn, 1) := by decide +kernel
theorem dX5_fill_40 : decode cX5_fill 40 = .ok (.aload_n 0, 1) := by decide +kernel
theorem dX5_fill_41 : decode cX5_fill 41 = .ok (.getfield 43, 3) := by decide +kernel
theorem dX5_fill_44 : decode cX5_fill 44 = .ok (.invokevirtual 88, 3) := by decide +kernel
theorem dX5_fill_47 : decode cX5_fill 47 = .ok (.aload_n 0, 1) := by decide +kernel
theorem dX5_fill_48 : decode cX5_fill 48 = .ok (.getfield 43, 3) := by decide +kernel
theorem dX5_fill_51 : decode cX5_fill 51 = .ok (.aload_n 0, 1) := by decide +kernel
theorem dX5_fill_52 : decode cX5_fill 52 = .ok (.getfield 19, 3) := by decide +kernel
theorem dX5_fill_55 : decode cX5_fill 55 = .ok (.iload_n 1, 1) := by decide +kernel
theorem dX5_fill_56 : decode cX5_fill 56 = .ok (.iload_n 2, 1) := by decide +kernel
theorem dX5_fill_57 : decode cX5_fill 57 = .ok (.iconst 2, 1) := by decide +kernel
theorem dX5_fill_58 : decode cX5_fill 58 = .ok (.invokevirtual 91, 3) := by decide +kernel
theorem dX5_fill_61 : decode cX5_fill 61 = .ok (.iconst 0, 1) := by decide +kernel
theorem dX5_fill_62 : decode cX5_fill 62 = .ok (.istore 4, 2) := by decide +kernel
theorem dX5_fill_64 : decode cX5_fill 64 = .ok (.iload 4, 2) := by decide +kernel
theorem dX5_fill_66 : decode cX5_fill 66 = .ok (.aload_n 0, 1) := by decide +kernel
theorem dX5_fill_67 : decode cX5_fill 67 = .ok (.getfield 19, 3) := by decide +kernel
theorem dX5_fill_70 : decode cX5_fill 70 = .ok (.getfield 95, 3) := by decide +kernel
theorem dX5_fill_73 : decode cX5_fill 73 = .ok (.if_icmp .ge 57, 3) := by decide +kernel
theorem dX5_fill_76 : decode cX5_fill 76 = .ok (.iconst 0, 1) := by decide +kernel
theorem dX5_fill_77 : decode cX5_fill 77 = .ok (.istore 5, 2) := by decide +kernel
theorem dX5_fill_79 : decode cX5_fill 79 = .ok (.iload 5, 2) := by decide +kernel
theorem dX5_fill_81 : decode cX5_fill 81 = .ok (.aload_n 0, 1) := by decide +kernel
theorem dX5_fill_82 : decode cX5_fill 82 = .ok (.getfield 19, 3) := by decide +kernel
theorem dX5_fill_85 : decode cX5_fill 85 = .ok (.getfield 99, 3) := by decide +kernel
theorem dX5_fill_88 : decode cX5_fill 88 = .ok (.if_icmp .ge 36, 3) := by decide +kernel
theorem dX5_fill_91 : decode cX5_fill 91 = .ok (.aload_n 0, 1) := by decide +kernel
theorem dX5_fill_92 : decode cX5_fill 92 = .ok (.getfield 43, 3) := by decide +kernel
theorem dX5_fill_95 : decode cX5_fill 95 = .ok (.iload 4, 2) := by decide +kernel
theorem dX5_fill_97 : decode cX5_fill 97 = .ok (.iload 5, 2) := by decide +kernel
theorem dX5_fill_99 : decode cX5_fill 99 = .ok (.invokevirtual 102, 3) := by decide +kernel
theorem dX5_fill_102 : decode cX5_fill 102 = .ok (.ifCond .eq 16, 3) := by decide +kernel
theorem dX5_fill_105 : decode cX5_fill 105 = .ok (.aload_n 0, 1) := by decide +kernel
theorem dX5_fill_106 : decode cX5_fill 106 = .ok (.getfield 19, 3) := by decide +kernel
theorem dX5_fill_109 : decode cX5_fill 109 = .ok (.iload 4, 2) := by decide +kernel
theorem dX5_fill_111 : decode cX5_fill 111 = .ok (.iload 5, 2) := by decide +kernel
theorem dX5_fill_113 : decode cX5_fill 113 = .ok (.iload_n 3, 1) := by decide +kernel
theorem dX5_fill_114 : decode cX5_fill 114 = .ok (.invokevirtual 84, 3) := by decide +kernel
theorem dX5_fill_117 : decode cX5_fill 117 = .ok (.pop, 1) := by decide +kernel
theorem dX5_fill_118 : decode cX5_fill 118 = .ok (.iinc 5 1, 3) := by decide +kernel
theorem dX5_fill_121 : decode cX5_fill 121 = .ok (.goto (-42), 3) := by decide +kernel
theorem dX5_fill_124 : decode cX5_fill 124 = .ok (.iinc 4 1, 3) := by decide +kernel
theorem dX5_fill_127 : decode cX5_fill 127 = .ok (.goto (-63), 3) := by decide +kernel
theorem dX5_fill_130 : decode cX5_fill 130 = .ok (.aload_n 0, 1) := by decide +kernel
theorem dX5_fill_131 : decode cX5_fill 131 = .ok (.getfield 43, 3) := by decide +kernel
theorem dX5_fill_134 : decode cX5_fill 134 = .ok (.getfield 105, 3) := by decide +kernel
theorem dX5_fill_137 : decode cX5_fill 137 = .ok (.ireturn, 1) := by decide +kernel
theorem dX5_brush_0 : decode cX5_brush 0 = .ok (.aload_n 0, 1) := by decide +kernel
theorem dX5_brush_1 : decode cX5_brush 1 = .ok (.getfield 19, 3) := by decide +kernel
theorem dX5_brush_4 : decode cX5_brush 4 = .ok (.iload_n 1, 1) := by decide +kernel
theorem dX5_brush_5 : decode cX5_brush 5 = .ok (.iload_n 2, 1) := by decide +kernel
theorem dX5_brush_6 : decode cX5_brush 6 = .ok (.invokevirtual 73, 3) := by decide +kernel
theorem dX5_brush_9 : decode cX5_brush 9 = .ok (.ifCond .ne 5, 3) := by decide +kernel
theorem dX5_brush_12 : decode cX5_brush 12 = .ok (.iconst (-1), 1) := by decide +kernel
theorem dX5_brush_13 : decode cX5_brush 13 = .ok (.ireturn, 1) := by decide +kernel
theorem dX5_brush_14 : decode cX5_brush 14 = .ok (.iload_n 3, 1) := by decide +kernel
theorem dX5_brush_15 : decode cX5_brush 15 = .ok (.ifCond .lt 8, 3) := by decide +kernel
theorem dX5_brush_18 : decode cX5_brush 18 = .ok (.iload_n 3, 1) := by decide +kernel
theorem dX5_brush_19 : decode cX5_brush 19 = .ok (.iconst 5, 1) := by decide +kernel
theorem dX5_brush_20 : decode cX5_brush 20 = .ok (.if_icmp .le 6, 3) := by decide +kernel
theorem dX5_brush_23 : decode cX5_brush 23 = .ok (.bipush (-2), 2) := by decide +kernel
theorem dX5_brush_25 : decode cX5_brush 25 = .ok (.ireturn, 1) := by decide +kernel
theorem dX5_brush_26 : decode cX5_brush 26 = .ok (.aload_n 0, 1) := by decide +kernel
theorem dX5_brush_27 : decode cX5_brush 27 = .ok (.getfield 36, 3) := by decide +kernel
theorem dX5_brush_30 : decode cX5_brush 30 = .ok (.aload_n 0, 1) := by decide +kernel
theorem dX5_brush_31 : decode cX5_brush 31 = .ok (.getfield 19, 3) := by decide +kernel
theorem dX5_brush_34 : decode cX5_brush 34 = .ok (.invokevirtual 58, 3) := by decide +kernel
theorem dX5_brush_37 : decode cX5_brush 37 = .ok (.iconst 0, 1) := by decide +kernel
theorem dX5_brush_38 : decode cX5_brush 38 = .ok (.istore 5, 2) := by decide +kernel
theorem dX5_brush_40 : decode cX5_brush 40 = .ok (.iload_n 3, 1) := by decide +kernel
theorem dX5_brush_41 : decode cX5_brush 41 = .ok (.ineg, 1) := by decide +kernel
theorem dX5_brush_42 : decode cX5_brush 42 = .ok (.istore 6, 2) := by decide +kernel
theorem dX5_brush_44 : decode cX5_brush 44 = .ok (.iload 6, 2) := by decide +kernel
theorem dX5_brush_46 : decode cX5_brush 46 = .ok (.iload_n 3, 1) := by decide +kernel
theorem dX5_brush_47 : decode cX5_brush 47 = .ok (.if_icmp .gt 65, 3) := by decide +kernel
theorem dX5_brush_50 : decode cX5_brush 50 = .ok (.iload_n 3, 1) := by decide +kernel
theorem dX5_brush_51 : decode cX5_brush 51 = .ok (.ineg, 1) := by decide +kernel
theorem dX5_brush_52 : decode cX5_brush 52 = .ok (.istore 7, 2) := by decide +kernel
theorem dX5_brush_54 : decode cX5_brush 54 = .ok (.iload 7, 2) := by decide +kernel
theorem dX5_brush_56 : decode cX5_brush 56 = .ok (.iload_n 3, 1) := by decide +kernel
theorem dX5_brush_57 : decode cX5_brush 57 = .ok (.if_icmp .gt 49, 3) := by decide +kernel
theorem dX5_brush_60 : decode cX5_brush 60 = .ok (.iload 6, 2) := by decide +kernel
theorem dX5_brush_62 : decode cX5_brush 62 = .ok (.iload 6, 2) := by decide +kernel
theorem dX5_brush_64 : decode cX5_brush 64 = .ok (.imul, 1) := by decide +kernel
theorem dX5_brush_65 : decode cX5_brush 65 = .ok (.iload 7, 2) := by decide +kernel
theorem dX5_brush_67 : decode cX5_brush 67 = .ok (.iload 7, 2) := by decide +kernel
theorem dX5_brush_69 : decode cX5_brush 69 = .ok (.imul, 1) := by decide +kernel
theorem dX5_brush_70 : decode cX5_brush 70 = .ok (.iadd, 1) := by decide +kernel
theorem dX5_brush_71 : decode cX5_brush 71 = .ok (.iload_n 3, 1) := by decide +kernel
theorem dX5_brush_72 : decode cX5_brush 72 = .ok (.iload_n 3, 1) := by decide +kernel
theorem dX5_brush_73 : decode cX5_brush 73 = .ok (.imul, 1) := by decide +kernel
theorem dX5_brush_74 : decode cX5_brush 74 = .ok (.if_icmp .gt 26, 3) := by decide +kernel
theorem dX5_brush_77 : decode cX5_brush 77 = .ok (.aload_n 0, 1) := by decide +kernel
theorem dX5_brush_78 : decode cX5_brush 78 = .ok (.getfield 19, 3) := by decide +kernel
theorem dX5_brush_81 : decode cX5_brush 81 = .ok (.iload_n 1, 1) := by decide +kernel
theorem dX5_brush_82 : decode cX5_brush 82 = .ok (.iload 6, 2) := by decide +kernel
theorem dX5_brush_84 : decode cX5_brush 84 = .ok (.iadd, 1) := by decide +kernel
theorem dX5_brush_85 : decode cX5_brush 85 = .ok (.iload_n 2, 1) := by decide +kernel
theorem dX5_brush_86 : decode cX5_brush 86 = .ok (.iload 7, 2) := by decide +kernel
theorem dX5_brush_88 : decode cX5_brush 88 = .ok (.iadd, 1) := by decide +kernel
theorem dX5_brush_89 : decode cX5_brush 89 = .ok (.iload 4, 2) := by decide +kernel
theorem dX5_brush_91 : decode cX5_brush 91 = .ok (.invokevirtual 84, 3) := by decide +kernel
theorem dX5_brush_94 : decode cX5_brush 94 = .ok (.ifCond .eq 6, 3) := by decide +kernel
theorem dX5_brush_97 : decode cX5_brush 97 = .ok (.iinc 5 1, 3) := by decide +kernel
theorem dX5_brush_100 : decode cX5_brush 100 = .ok (.iinc 7 1, 3) := by decide +kernel
theorem dX5_brush_103 : decode cX5_brush 103 = .ok (.goto (-49), 3) := by decide +kernel
theorem dX5_brush_106 : decode cX5_brush 106 = .ok (.iinc 6 1, 3) := by decide +kernel
theorem dX5_brush_109 : decode cX5_brush 109 = .ok (.goto (-65), 3) := by decide +kernel
theorem dX5_brush_112 : decode cX5_brush 112 = .ok (.iload 5, 2) := by decide +kernel
theorem dX5_brush_114 : decode cX5_brush 114 = .ok (.ireturn, 1) := by decide +kernel
theorem dX5_smooth_0 : decode cX5_smooth 0 = .ok (.iload_n 1, 1) := by decide +kernel
theorem dX5_smooth_1 : decode cX5_smooth 1 = .ok (.iconst 1, 1) := by decide +kernel
theorem dX5_smooth_2 : decode cX5_smooth 2 = .ok (.if_icmp .lt 9, 3) := by decide +kernel
theorem dX5_smooth_5 : decode cX5_smooth 5 = .ok (.iload_n 1, 1) := by decide +kernel
theorem dX5_smooth_6 : decode cX5_smooth 6 = .ok (.bipush 9, 2) := by decide +kernel
theorem dX5_smooth_8 : decode cX5_smooth 8 = .ok (.if_icmp .le 6, 3) := by decide +kernel
theorem dX5_smooth_11 : decode cX5_smooth 11 = .ok (.bipush (-2), 2) := by decide +kernel
theorem dX5_smooth_13 : decode cX5_smooth 13 = .ok (.ireturn, 1) := by decide +kernel
theorem dX5_smooth_14 : decode cX5_smooth 14 = .ok (.aload_n 0, 1) := by decide +kernel
theorem dX5_smooth_15 : decode cX5_smooth 15 = .ok (.getfield 36, 3) := by decide +kernel
theorem dX5_smooth_18 : decode cX5_smooth 18 = .ok (.aload_n 0, 1) := by decide +kernel
theorem dX5_smooth_19 : decode cX5_smooth 19 = .ok (.getfield 19, 3) := by decide +kernel
theorem dX5_smooth_22 : decode cX5_smooth 22 = .ok (.invokevirtual 58, 3) := by decide +kernel
theorem dX5_smooth_25 : decode cX5_smooth 25 = .ok (.aload_n 0, 1) := by decide +kernel
theorem dX5_smooth_26 : decode cX5_smooth 26 = .ok (.getfield 23, 3) := by decide +kernel
theorem dX5_smooth_29 : decode cX5_smooth 29 = .ok (.aload_n 0, 1) := by decide +kernel
theorem dX5_smooth_30 : decode cX5_smooth 30 = .ok (.getfield 19, 3) := by decide +kernel
theorem dX5_smooth_33 : decode cX5_smooth 33 = .ok (.invokevirtual 108, 3) := by decide +kernel
theorem dX5_smooth_36 : decode cX5_smooth 36 = .ok (.iconst 0, 1) := by decide +kernel
theorem dX5_smooth_37 : decode cX5_smooth 37 = .ok (.istore_n 2, 1) := by decide +kernel
theorem dX5_smooth_38 : decode cX5_smooth 38 = .ok (.iconst 0, 1) := by decide +kernel
theorem dX5_smooth_39 : decode cX5_smooth 39 = .ok (.istore_n 3, 1) := by decide +kernel
theorem dX5_smooth_40 : decode cX5_smooth 40 = .ok (.iload_n 3, 1) := by decide +kernel
theorem dX5_smooth_41 : decode cX5_smooth 41 = .ok (.aload_n 0, 1) := by decide +kernel
theorem dX5_smooth_42 : decode cX5_smooth 42 = .ok (.getfield 19, 3) := by decide +kernel
theorem dX5_smooth_45 : decode cX5_smooth 45 = .ok (.getfield 95, 3) := by decide +kernel
theorem dX5_smooth_48 : decode cX5_smooth 48 = .ok (.if_icmp .ge 91, 3) := by decide +kernel
theorem dX5_smooth_51 : decode cX5_smooth 51 = .ok (.iconst 0, 1) := by decide +kernel
theorem dX5_smooth_52 : decode cX5_smooth 52 = .ok (.istore 4, 2) := by decide +kernel
theorem dX5_smooth_54 : decode cX5_smooth 54 = .ok (.iload 4, 2) := by decide +kernel
theorem dX5_smooth_56 : decode cX5_smooth 56 = .ok (.aload_n 0, 1) := by decide +kernel
theorem dX5_smooth_57 : decode cX5_smooth 57 = .ok (.getfield 19, 3) := by decide +kernel
theorem dX5_smooth_60 : decode cX5_smooth 60 = .ok (.getfield 99, 3) := by decide +kernel
theorem dX5_smooth_63 : decode cX5_smooth 63 = .ok (.if_icmp .ge 70, 3) := by decide +kernel
theorem dX5_smooth_66 : decode cX5_smooth 66 = .ok (.aload_n 0, 1) := by decide +kernel
theorem dX5_smooth_67 : decode cX5_smooth 67 = .ok (.getfield 23, 3) := by decide +kernel
theorem dX5_smooth_70 : decode cX5_smooth 70 = .ok (.iload_n 3, 1) := by decide +kernel
theorem dX5_smooth_71 : decode cX5_smooth 71 = .ok (.iload 4, 2) := by decide +kernel
theorem dX5_smooth_73 : decode cX5_smooth 73 = .ok (.invokevirtual 111, 3) := by decide +kernel
theorem dX5_smooth_76 : decode cX5_smooth 76 = .ok (.invokestatic 114, 3) := by decide +kernel
theorem dX5_smooth_79 : decode cX5_smooth 79 = .ok (.aload_n 0, 1) := by decide +kernel
theorem dX5_smooth_80 : decode cX5_smooth 80 = .ok (.getfield 23, 3) := by decide +kernel
theorem dX5_smooth_83 : decode cX5_smooth 83 = .ok (.iload_n 3, 1) := by decide +kernel
theorem dX5_smooth_84 : decode cX5_smooth 84 = .ok (.iload 4, 2) := by decide +kernel
theorem dX5_smooth_86 : decode cX5_smooth 86 = .ok (.invokevirtual 77, 3) := by decide +kernel
theorem dX5_smooth_89 : decode cX5_smooth 89 = .ok (.ifCond .eq 7, 3) := by decide +kernel
theorem dX5_smooth_92 : decode cX5_smooth 92 = .ok (.iconst 1, 1) := by decide +kernel
theorem dX5_smooth_93 : decode cX5_smooth 93 = .ok (.goto 4, 3) := by decide +kernel
theorem dX5_smooth_96 : decode cX5_smooth 96 = .ok (.iconst 0, 1) := by decide +kernel
theorem dX5_smooth_97 : decode cX5_smooth 97 = .ok (.iadd, 1) := by decide +kernel
theorem dX5_smooth_98 : decode cX5_smooth 98 = .ok (.istore 5, 2) := by decide +kernel
theorem dX5_smooth_100 : decode cX5_smooth 100 = .ok (.aload_n 0, 1) := by decide +kernel
theorem dX5_smooth_101 : decode cX5_smooth 101 = .ok (.getfield 19, 3) := by decide +kernel
theorem dX5_smooth_104 : decode cX5_smooth 104 = .ok (.iload_n 3, 1) := by decide +kernel
theorem dX5_smooth_105 : decode cX5_smooth 105 = .ok (.iload 4, 2) := by decide +kernel
theorem dX5_smooth_107 : decode cX5_smooth 107 = .ok (.iload 5, 2) := by decide +kernel
theorem dX5_smooth_109 : decode cX5_smooth 109 = .ok (.iload_n 1, 1) := by decide +kernel
theorem dX5_smooth_110 : decode cX5_smooth 110 = .ok (.if_icmp .lt 7, 3) := by decide +kernel
theorem dX5_smooth_113 : decode cX5_smooth 113 = .ok (.iconst 1, 1) := by decide +kernel
theorem dX5_smooth_114 : decode cX5_smooth 114 = .ok (.goto 4, 3) := by decide +kernel
theorem dX5_smooth_117 : decode cX5_smooth 117 = .ok (.iconst 0, 1) := by decide +kernel
theorem dX5_smooth_118 : decode cX5_smooth 118 = .ok (.invokevirtual 84, 3) := by decide +kernel
theorem dX5_smooth_121 : decode cX5_smooth 121 = .ok (.ifCond .eq 6, 3) := by decide +kernel
theorem dX5_smooth_124 : decode cX5_smooth 124 = .ok (.iinc 2 1, 3) := by decide +kernel
theorem dX5_smooth_127 : decode cX5_smooth 127 = .ok (.iinc 4 1, 3) := by decide +kernel
theorem dX5_smooth_130 : decode cX5_smooth 130 = .ok (.goto (-76), 3) := by decide +kernel
theorem dX5_smooth_133 : decode cX5_smooth 133 = .ok (.iinc 3 1, 3) := by decide +kernel
theorem dX5_smooth_136 : decode cX5_smooth 136 = .ok (.goto (-96), 3) := by decide +kernel
theorem dX5_smooth_139 : decode cX5_smooth 139 = .ok (.iload_n 2, 1) := by decide +kernel
theorem dX5_smooth_140 : decode cX5_smooth 140 = .ok (.ireturn, 1) := by decide +kernel
theorem dX5_turn_0 : decode cX5_turn 0 = .ok (.iload_n 1, 1) := by decide +kernel
theorem dX5_turn_1 : decode cX5_turn 1 = .ok (.iconst 1, 1) := by decide +kernel
theorem dX5_turn_2 : decode cX5_turn 2 = .ok (.if_icmp .lt 8, 3) := by decide +kernel
theorem dX5_turn_5 : decode cX5_turn 5 = .ok (.iload_n 1, 1) := by decide +kernel
theorem dX5_turn_6 : decode cX5_turn 6 = .ok (.iconst 3, 1) := by decide +kernel
theorem dX5_turn_7 : decode cX5_turn 7 = .ok (.if_icmp .le 6, 3) := by decide +kernel
theorem dX5_turn_10 : decode cX5_turn 10 = .ok (.bipush (-2), 2) := by decide +kernel
theorem dX5_turn_12 : decode cX5_turn 12 = .ok (.ireturn, 1) := by decide +kernel
theorem dX5_turn_13 : decode cX5_turn 13 = .ok (.aload_n 0, 1) := by decide +kernel
theorem dX5_turn_14 : decode cX5_turn 14 = .ok (.getfield 36, 3) := by decide +kernel
theorem dX5_turn_17 : decode cX5_turn 17 = .ok (.aload_n 0, 1) := by decide +kernel
theorem dX5_turn_18 : decode cX5_turn 18 = .ok (.getfield 19, 3) := by decide +kernel
theorem dX5_turn_21 : decode cX5_turn 21 = .ok (.invokevirtual 58, 3) := by decide +kernel
theorem dX5_turn_24 : decode cX5_turn 24 = .ok (.iconst 0, 1) := by decide +kernel
theorem dX5_turn_25 : decode cX5_turn 25 = .ok (.istore_n 2, 1) := by decide +kernel
theorem dX5_turn_26 : decode cX5_turn 26 = .ok (.iload_n 2, 1) := by decide +kernel
theorem dX5_turn_27 : decode cX5_turn 27 = .ok (.iload_n 1, 1) := by decide +kernel
theorem dX5_turn_28 : decode cX5_turn 28 = .ok (.if_icmp .ge 24, 3) := by decide +kernel
theorem dX5_turn_31 : decode cX5_turn 31 = .ok (.aload_n 0, 1) := by decide +kernel
theorem dX5_turn_32 : decode cX5_turn 32 = .ok (.getfield 23, 3) := by decide +kernel
theorem dX5_turn_35 : decode cX5_turn 35 = .ok (.aload_n 0, 1) := by decide +kernel
theorem dX5_turn_36 : decode cX5_turn 36 = .ok (.getfield 19, 3) := by decide +kernel
theorem dX5_turn_39 : decode cX5_turn 39 = .ok (.invokevirtual 108, 3) := by decide +kernel
theorem dX5_turn_42 : decode cX5_turn 42 = .ok (.aload_n 0, 1) := by decide +kernel
theorem dX5_turn_43 : decode cX5_turn 43 = .ok (.invokevirtual 120, 3) := by decide +kernel
theorem dX5_turn_46 : decode cX5_turn 46 = .ok (.iinc 2 1, 3) := by decide +kernel
theorem dX5_turn_49 : decode cX5_turn 49 = .ok (.goto (-23), 3) := by decide +kernel
theorem dX5_turn_52 : decode cX5_turn 52 = .ok (.aload_n 0, 1) := by decide +kernel
theorem dX5_turn_53 : decode cX5_turn 53 = .ok (.getfield 19, 3) := by decide +kernel
theorem dX5_turn_56 : decode cX5_turn 56 = .ok (.getfield 95, 3) := by decide +kernel
theorem dX5_turn_59 : decode cX5_turn 59 = .ok (.ireturn, 1) := by decide +kernel
theorem dX5_rows_0 : decode cX5_rows 0 = .ok (.aload_n 0, 1) := by decide +kernel
theorem dX5_rows_1 : decode cX5_rows 1 = .ok (.getfield 19, 3) := by decide +kernel
theorem dX5_rows_4 : decode cX5_rows 4 = .ok (.getfield 95, 3) := by decide +kernel
theorem dX5_rows_7 : decode cX5_rows 7 = .ok (.ireturn, 1) := by decide +kernel
theorem dX5_columns_0 : decode cX5_columns 0 = .ok (.aload_n 0, 1) := by decide +kernel
theorem dX5_columns_1 : decode cX5_columns 1 = .ok (.getfield 19, 3) := by decide +kernel
theorem dX5_columns_4 : decode cX5_columns 4 = .ok (.getfield 99, 3) := by decide +kernel
theorem dX5_columns_7 : decode cX5_columns 7 = .ok (.ireturn, 1) := by decide +kernel
theorem dX5_tile_0 : decode cX5_tile 0 = .ok (.aload_n 0, 1) := by decide +kernel
theorem dX5_tile_1 : decode cX5_tile 1 = .ok (.getfield 19, 3) := by decide +kernel
theorem dX5_tile_4 : decode cX5_tile 4 = .ok (.iload_n 1, 1) := by decide +kernel
theorem dX5_tile_5 : decode cX5_tile 5 = .ok (.iload_n 2, 1) := by decide +kernel
theorem dX5_tile_6 : decode cX5_tile 6 = .ok (.invokevirtual 73, 3) := by decide +kernel
theorem dX5_tile_9 : decode cX5_tile 9 = .ok (.ifCond .ne 5, 3) := by decide +kernel
theorem dX5_tile_12 : decode cX5_tile 12 = .ok (.iconst (-1), 1) := by decide +kernel
theorem dX5_tile_13 : decode cX5_tile 13 = .ok (.ireturn, 1) := by decide +kernel
theorem dX5_tile_14 : decode cX5_tile 14 = .ok (.iload_n 3, 1) := by decide +kernel
theorem dX5_tile_15 : decode cX5_tile 15 = .ok (.tableswitch 104 0 5 #[37, 55, 65, 72, 79, 97], 37) := by decide +kernel
theorem dX5_tile_52 : decode cX5_tile 52 = .ok (.aload_n 0, 1) := by decide +kernel
theorem dX5_tile_53 : decode cX5_tile 53 = .ok (.getfield 19, 3) := by decide +kernel
theorem dX5_tile_56 : decode cX5_tile 56 = .ok (.iload_n 1, 1) := by decide +kernel
theorem dX5_tile_57 : decode cX5_tile 57 = .ok (.iload_n 2, 1) := by decide +kernel
theorem dX5_tile_58 : decode cX5_tile 58 = .ok (.invokevirtual 77, 3) := by decide +kernel
theorem dX5_tile_61 : decode cX5_tile 61 = .ok (.ifCond .eq 7, 3) := by decide +kernel
theorem dX5_tile_64 : decode cX5_tile 64 = .ok (.iconst 1, 1) := by decide +kernel
theorem dX5_tile_65 : decode cX5_tile 65 = .ok (.goto 4, 3) := by decide +kernel
theorem dX5_tile_68 : decode cX5_tile 68 = .ok (.iconst 0, 1) := by decide +kernel
theorem dX5_tile_69 : decode cX5_tile 69 = .ok (.ireturn, 1) := by decide +kernel
theorem dX5_tile_70 : decode cX5_tile 70 = .ok (.aload_n 0, 1) := by decide +kernel
theorem dX5_tile_71 : decode cX5_tile 71 = .ok (.getfield 19, 3) := by decide +kernel
theorem dX5_tile_74 : decode cX5_tile 74 = .ok (.iload_n 1, 1) := by decide +kernel
theorem dX5_tile_75 : decode cX5_tile 75 = .ok (.iload_n 2, 1) := by decide +kernel
theorem dX5_tile_76 : decode cX5_tile 76 = .ok (.invokevirtual 111, 3) := by decide +kernel
theorem dX5_tile_79 : decode cX5_tile 79 = .ok (.ireturn, 1) := by decide +kernel
theorem dX5_tile_80 : decode cX5_tile 80 = .ok (.aload_n 0, 1) := by decide +kernel
theorem dX5_tile_81 : decode cX5_tile 81 = .ok (.iload_n 1, 1) := by decide +kernel
theorem dX5_tile_82 : decode cX5_tile 82 = .ok (.iload_n 2, 1) := by decide +kernel
theorem dX5_tile_83 : decode cX5_tile 83 = .ok (.invokevirtual 123, 3) := by decide +kernel
theorem dX5_tile_86 : decode cX5_tile 86 = .ok (.ireturn, 1) := by decide +kernel
theorem dX5_tile_87 : decode cX5_tile 87 = .ok (.aload_n 0, 1) := by decide +kernel
theorem dX5_tile_88 : decode cX5_tile 88 = .ok (.iload_n 1, 1) := by decide +kernel
theorem dX5_tile_89 : decode cX5_tile 89 = .ok (.iload_n 2, 1) := by decide +kernel
theorem dX5_tile_90 : decode cX5_tile 90 = .ok (.invokevirtual 126, 3) := by decide +kernel
theorem dX5_tile_93 : decode cX5_tile 93 = .ok (.ireturn, 1) := by decide +kernel
theorem dX5_tile_94 : decode cX5_tile 94 = .ok (.aload_n 0, 1) := by decide +kernel
theorem dX5_tile_95 : decode cX5_tile 95 = .ok (.getfield 19, 3) := by decide +kernel
theorem dX5_tile_98 : decode cX5_tile 98 = .ok (.iload_n 1, 1) := by decide +kernel
theorem dX5_tile_99 : decode cX5_tile 99 = .ok (.iload_n 2, 1) := by decide +kernel
theorem dX5_tile_100 : decode cX5_tile 100 = .ok (.invokevirtual 129, 3) := by decide +kernel
theorem dX5_tile_103 : decode cX5_tile 103 = .ok (.ifCond .eq 7, 3) := by decide +kernel
theorem dX5_tile_106 : decode cX5_tile 106 = .ok (.iconst 1, 1) := by decide +kernel
theorem dX5_tile_107 : decode cX5_tile 107 = .ok (.goto 4, 3) := by decide +kernel
theorem dX5_tile_110 : decode cX5_tile 110 = .ok (.iconst 0, 1) := by decide +kernel
theorem dX5_tile_111 : decode cX5_tile 111 = .ok (.ireturn, 1) := by decide +kernel
theorem dX5_tile_112 : decode cX5_tile 112 = .ok (.aload_n 0, 1) := by decide +kernel
theorem dX5_tile_113 : decode cX5_tile 113 = .ok (.iload_n 1, 1) := by decide +kernel
theorem dX5_tile_114 : decode cX5_tile 114 = .ok (.iload_n 2, 1) := by decide +kernel
theorem dX5_tile_115 : decode cX5_tile 115 = .ok (.invokevirtual 132, 3) := by decide +kernel
theorem dX5_tile_118 : decode cX5_tile 118 = .ok (.ireturn, 1) := by decide +kernel
theorem dX5_tile_119 : decode cX5_tile 119 = .ok (.bipush (-2), 2) := by decide +kernel
theorem dX5_tile_121 : decode cX5_tile 121 = .ok (.ireturn, 1) := by decide +kernel
theorem dX5_pin_0 : decode cX5_pin 0 = .ok (.aload_n 0, 1) := by decide +kernel
theorem dX5_pin_1 : decode cX5_pin 1 = .ok (.getfield 19, 3) := by decide +kernel
theorem dX5_pin_4 : decode cX5_pin 4 = .ok (.iload_n 1, 1) := by decide +kernel
theorem dX5_pin_5 : decode cX5_pin 5 = .ok (.iload_n 2, 1) := by decide +kernel
theorem dX5_pin_6 : decode cX5_pin 6 = .ok (.invokevirtual 73, 3) := by decide +kernel
theorem dX5_pin_9 : decode cX5_pin 9 = .ok (.ifCond .eq 10, 3) := by decide +kernel
theorem dX5_pin_12 : decode cX5_pin 12 = .ok (.iload_n 3, 1) := by decide +kernel
theorem dX5_pin_13 : decode cX5_pin 13 = .ok (.invokestatic 135, 3) := by decide +kernel
theorem dX5_pin_16 : decode cX5_pin 16 = .ok (.ifCond .ne 5, 3) := by decide +kernel
theorem dX5_pin_19 : decode cX5_pin 19 = .ok (.iconst (-1), 1) := by decide +kernel
theorem dX5_pin_20 : decode cX5_pin 20 = .ok (.ireturn, 1) := by decide +kernel
theorem dX5_pin_21 : decode cX5_pin 21 = .ok (.aload_n 0, 1) := by decide +kernel
theorem dX5_pin_22 : decode cX5_pin 22 = .ok (.getfield 19, 3) := by decide +kernel
theorem dX5_pin_25 : decode cX5_pin 25 = .ok (.iload_n 1, 1) := by decide +kernel
theorem dX5_pin_26 : decode cX5_pin 26 = .ok (.iload_n 2, 1) := by decide +kernel
theorem dX5_pin_27 : decode cX5_pin 27 = .ok (.invokevirtual 77, 3) := by decide +kernel
theorem dX5_pin_30 : decode cX5_pin 30 = .ok (.ifCond .ne 6, 3) := by decide +kernel
theorem dX5_pin_33 : decode cX5_pin 33 = .ok (.bipush (-3), 2) := by decide +kernel
theorem dX5_pin_35 : decode cX5_pin 35 = .ok (.ireturn, 1) := by decide +kernel
theorem dX5_pin_36 : decode cX5_pin 36 = .ok (.aload_n 0, 1) := by decide +kernel
theorem dX5_pin_37 : decode cX5_pin 37 = .ok (.getfield 36, 3) := by decide +kernel
theorem dX5_pin_40 : decode cX5_pin 40 = .ok (.aload_n 0, 1) := by decide +kernel
theorem dX5_pin_41 : decode cX5_pin 41 = .ok (.getfield 19, 3) := by decide +kernel
theorem dX5_pin_44 : decode cX5_pin 44 = .ok (.invokevirtual 58, 3) := by decide +kernel
theorem dX5_pin_47 : decode cX5_pin 47 = .ok (.aload_n 0, 1) := by decide +kernel
theorem dX5_pin_48 : decode cX5_pin 48 = .ok (.getfield 19, 3) := by decide +kernel
theorem dX5_pin_51 : decode cX5_pin 51 = .ok (.iload_n 1, 1) := by decide +kernel
theorem dX5_pin_52 : decode cX5_pin 52 = .ok (.iload_n 2, 1) := by decide +kernel
theorem dX5_pin_53 : decode cX5_pin 53 = .ok (.iload_n 3, 1) := by decide +kernel
theorem dX5_pin_54 : decode cX5_pin 54 = .ok (.invokevirtual 138, 3) := by decide +kernel
theorem dX5_pin_57 : decode cX5_pin 57 = .ok (.aload_n 0, 1) := by decide +kernel
theorem dX5_pin_58 : decode cX5_pin 58 = .ok (.iload_n 1, 1) := by decide +kernel
theorem dX5_pin_59 : decode cX5_pin 59 = .ok (.iload_n 2, 1) := by decide +kernel
theorem dX5_pin_60 : decode cX5_pin 60 = .ok (.invokevirtual 132, 3) := by decide +kernel
theorem dX5_pin_63 : decode cX5_pin 63 = .ok (.ireturn, 1) := by decide +kernel
theorem dX5_unpin_0 : decode cX5_unpin 0 = .ok (.aload_n 0, 1) := by decide +kernel
theorem dX5_unpin_1 : decode cX5_unpin 1 = .ok (.getfield 19, 3) := by decide +kernel
theorem dX5_unpin_4 : decode cX5_unpin 4 = .ok (.iload_n 1, 1) := by decide +kernel
theorem dX5_unpin_5 : decode cX5_unpin 5 = .ok (.iload_n 2, 1) := by decide +kernel
theorem dX5_unpin_6 : decode cX5_unpin 6 = .ok (.invokevirtual 73, 3) := by decide +kernel
theorem dX5_unpin_9 : decode cX5_unpin 9 = .ok (.ifCond .ne 5, 3) := by decide +kernel
theorem dX5_unpin_12 : decode cX5_unpin 12 = .ok (.iconst (-1), 1) := by decide +kernel
theorem dX5_unpin_13 : decode cX5_unpin 13 = .ok (.ireturn, 1) := by decide +kernel
theorem dX5_unpin_14 : decode cX5_unpin 14 = .ok (.aload_n 0, 1) := by decide +kernel
theorem dX5_unpin_15 : decode cX5_unpin 15 = .ok (.getfield 19, 3) := by decide +kernel
theorem dX5_unpin_18 : decode cX5_unpin 18 = .ok (.iload_n 1, 1) := by decide +kernel
theorem dX5_unpin_19 : decode cX5_unpin 19 = .ok (.iload_n 2, 1) := by decide +kernel
theorem dX5_unpin_20 : decode cX5_unpin 20 = .ok (.invokevirtual 129, 3) := by decide +kernel
theorem dX5_unpin_23 : decode cX5_unpin 23 = .ok (.ifCond .ne 6, 3) := by decide +kernel
theorem dX5_unpin_26 : decode cX5_unpin 26 = .ok (.bipush (-3), 2) := by decide +kernel
theorem dX5_unpin_28 : decode cX5_unpin 28 = .ok (.ireturn, 1) := by decide +kernel
theorem dX5_unpin_29 : decode cX5_unpin 29 = .ok (.aload_n 0, 1) := by decide +kernel
theorem dX5_unpin_30 : decode cX5_unpin 30 = .ok (.getfield 36, 3) := by decide +kernel
theorem dX5_unpin_33 : decode cX5_unpin 33 = .ok (.aload_n 0, 1) := by decide +kernel
theorem dX5_unpin_34 : decode cX5_unpin 34 = .ok (.getfield 19, 3) := by decide +kernel
theorem dX5_unpin_37 : decode cX5_unpin 37 = .ok (.invokevirtual 58, 3) := by decide +kernel
theorem dX5_unpin_40 : decode cX5_unpin 40 = .ok (.aload_n 0, 1) := by decide +kernel
theorem dX5_unpin_41 : decode cX5_unpin 41 = .ok (.getfield 19, 3) := by decide +kernel
theorem dX5_unpin_44 : decode cX5_unpin 44 = .ok (.iload_n 1, 1) := by decide +kernel
theorem dX5_unpin_45 : decode cX5_unpin 45 = .ok (.iload_n 2, 1) := by decide +kernel
theorem dX5_unpin_46 : decode cX5_unpin 46 = .ok (.invokevirtual 142, 3) := by decide +kernel
theorem dX5_unpin_49 : decode cX5_unpin 49 = .ok (.istore_n 3, 1) := by decide +kernel
theorem dX5_unpin_50 : decode cX5_unpin 50 = .ok (.aload_n 0, 1) := by decide +kernel
theorem dX5_unpin_51 : decode cX5_unpin 51 = .ok (.getfield 19, 3) := by decide +kernel
theorem dX5_unpin_54 : decode cX5_unpin 54 = .ok (.iload_n 1, 1) := by decide +kernel
theorem dX5_unpin_55 : decode cX5_unpin 55 = .ok (.iload_n 2, 1) := by decide +kernel
theorem dX5_unpin_56 : decode cX5_unpin 56 = .ok (.iconst (-1), 1) := by decide +kernel
theorem dX5_unpin_57 : decode cX5_unpin 57 = .ok (.invokevirtual 138, 3) := by decide +kernel
theorem dX5_unpin_60 : decode cX5_unpin 60 = .ok (.iload_n 3, 1) := by decide +kernel
theorem dX5_unpin_61 : decode cX5_unpin 61 = .ok (.ireturn, 1) := by decide +kernel
theorem dX5_faults_0 : decode cX5_faults 0 = .ok (.iconst 0, 1) := by decide +kernel
theorem dX5_faults_1 : decode cX5_faults 1 = .ok (.istore_n 1, 1) := by decide +kernel
theorem dX5_faults_2 : decode cX5_faults 2 = .ok (.iconst 0, 1) := by decide +kernel
theorem dX5_faults_3 : decode cX5_faults 3 = .ok (.istore_n 2, 1) := by decide +kernel
theorem dX5_faults_4 : decode cX5_faults 4 = .ok (.iload_n 2, 1) := by decide +kernel
theorem dX5_faults_5 : decode cX5_faults 5 = .ok (.aload_n 0, 1) := by decide +kernel
theorem dX5_faults_6 : decode cX5_faults 6 = .ok (.getfield 19, 3) := by decide +kernel
theorem dX5_faults_9 : decode cX5_faults 9 = .ok (.getfield 95, 3) := by decide +kernel
theorem dX5_faults_12 : decode cX5_faults 12 = .ok (.if_icmp .ge 37, 3) := by decide +kernel
theorem dX5_faults_15 : decode cX5_faults 15 = .ok (.iconst 0, 1) := by decide +kernel
theorem dX5_faults_16 : decode cX5_faults 16 = .ok (.istore_n 3, 1) := by decide +kernel
theorem dX5_faults_17 : decode cX5_faults 17 = .ok (.iload_n 3, 1) := by decide +kernel
theorem dX5_faults_18 : decode cX5_faults 18 = .ok (.aload_n 0, 1) := by decide +kernel
theorem dX5_faults_19 : decode cX5_faults 19 = .ok (.getfield 19, 3) := by decide +kernel
theorem dX5_faults_22 : decode cX5_faults 22 = .ok (.getfield 99, 3) := by decide +kernel
theorem dX5_faults_25 : decode cX5_faults 25 = .ok (.if_icmp .ge 18, 3) := by decide +kernel
theorem dX5_faults_28 : decode cX5_faults 28 = .ok (.iload_n 1, 1) := by decide +kernel
theorem dX5_faults_29 : decode cX5_faults 29 = .ok (.aload_n 0, 1) := by decide +kernel
theorem dX5_faults_30 : decode cX5_faults 30 = .ok (.iload_n 2, 1) := by decide +kernel
theorem dX5_faults_31 : decode cX5_faults 31 = .ok (.iload_n 3, 1) := by decide +kernel
theorem dX5_faults_32 : decode cX5_faults 32 = .ok (.invokevirtual 132, 3) := by decide +kernel
theorem dX5_faults_35 : decode cX5_faults 35 = .ok (.iadd, 1) := by decide +kernel
theorem dX5_faults_36 : decode cX5_faults 36 = .ok (.istore_n 1, 1) := by decide +kernel
theorem dX5_faults_37 : decode cX5_faults 37 = .ok (.iinc 3 1, 3) := by decide +kernel
theorem dX5_faults_40 : decode cX5_faults 40 = .ok (.goto (-23), 3) := by decide +kernel
theorem dX5_faults_43 : decode cX5_faults 43 = .ok (.iinc 2 1, 3) := by decide +kernel
theorem dX5_faults_46 : decode cX5_faults 46 = .ok (.goto (-42), 3) := by decide +kernel
theorem dX5_faults_49 : decode cX5_faults 49 = .ok (.iload_n 1, 1) := by decide +kernel
theorem dX5_faults_50 : decode cX5_faults 50 = .ok (.ireturn, 1) := by decide +kernel
theorem dX5_firstFault_0 : decode cX5_firstFault 0 = .ok (.iconst 0, 1) := by decide +kernel
theorem dX5_firstFault_1 : decode cX5_firstFault 1 = .ok (.istore_n 1, 1) := by decide +kernel
theorem dX5_firstFault_2 : decode cX5_firstFault 2 = .ok (.iload_n 1, 1) := by decide +kernel
theorem dX5_firstFault_3 : decode cX5_firstFault 3 = .ok (.aload_n 0, 1) := by decide +kernel
theorem dX5_firstFault_4 : decode cX5_firstFault 4 = .ok (.getfield 19, 3) := by decide +kernel
theorem dX5_firstFault_7 : decode cX5_firstFault 7 = .ok (.getfield 95, 3) := by decide +kernel
theorem dX5_firstFault_10 : decode cX5_firstFault 10 = .ok (.if_icmp .ge 43, 3) := by decide +kernel
theorem dX5_firstFault_13 : decode cX5_firstFault 13 = .ok (.iconst 0, 1) := by decide +kernel
theorem dX5_firstFault_14 : decode cX5_firstFault 14 = .ok (.istore_n 2, 1) := by decide +kernel
theorem dX5_firstFault_15 : decode cX5_firstFault 15 = .ok (.iload_n 2, 1) := by decide +kernel
theorem dX5_firstFault_16 : decode cX5_firstFault 16 = .ok (.aload_n 0, 1) := by decide +kernel
theorem dX5_firstFault_17 : decode cX5_firstFault 17 = .ok (.getfield 19, 3) := by decide +kernel
theorem dX5_firstFault_20 : decode cX5_firstFault 20 = .ok (.getfield 99, 3) := by decide +kernel
theorem dX5_firstFault_23 : decode cX5_firstFault 23 = .ok (.if_icmp .ge 24, 3) := by decide +kernel
theorem dX5_firstFault_26 : decode cX5_firstFault 26 = .ok (.aload_n 0, 1) := by decide +kernel
theorem dX5_firstFault_27 : decode cX5_firstFault 27 = .ok (.iload_n 1, 1) := by decide +kernel
theorem dX5_firstFault_28 : decode cX5_firstFault 28 = .ok (.iload_n 2, 1) := by decide +kernel
theorem dX5_firstFault_29 : decode cX5_firstFault 29 = .ok (.invokevirtual 132, 3) := by decide +kernel
theorem dX5_firstFault_32 : decode cX5_firstFault 32 = .ok (.ifCond .le 9, 3) := by decide +kernel
theorem dX5_firstFault_35 : decode cX5_firstFault 35 = .ok (.iload_n 1, 1) := by decide +kernel
theorem dX5_firstFault_36 : decode cX5_firstFault 36 = .ok (.iload_n 2, 1) := by decide +kernel
theorem dX5_firstFault_37 : decode cX5_firstFault 37 = .ok (.invokestatic 145, 3) := by decide +kernel
theorem dX5_firstFault_40 : decode cX5_firstFault 40 = .ok (.ireturn, 1) := by decide +kernel
theorem dX5_firstFault_41 : decode cX5_firstFault 41 = .ok (.iinc 2 1, 3) := by decide +kernel
theorem dX5_firstFault_44 : decode cX5_firstFault 44 = .ok (.goto (-29), 3) := by decide +kernel
theorem dX5_firstFault_47 : decode cX5_firstFault 47 = .ok (.iinc 1 1, 3) := by decide +kernel
theorem dX5_firstFault_50 : decode cX5_firstFault 50 = .ok (.goto (-48), 3) := by decide +kernel
theorem dX5_firstFault_53 : decode cX5_firstFault 53 = .ok (.bipush (-6), 2) := by decide +kernel
theorem dX5_firstFault_55 : decode cX5_firstFault 55 = .ok (.ireturn, 1) := by decide +kernel
theorem dX5_maskOf_0 : decode cX5_maskOf 0 = .ok (.iload_n 1, 1) := by decide +kernel
theorem dX5_maskOf_1 : decode cX5_maskOf 1 = .ok (.invokestatic 135, 3) := by decide +kernel
theorem dX5_maskOf_4 : decode cX5_maskOf 4 = .ok (.ifCond .eq 14, 3) := by decide +kernel
theorem dX5_maskOf_7 : decode cX5_maskOf 7 = .ok (.aload_n 0, 1) := by decide +kernel
theorem dX5_maskOf_8 : decode cX5_maskOf 8 = .ok (.getfield 12, 3) := by decide +kernel
theorem dX5_maskOf_11 : decode cX5_maskOf 11 = .ok (.iload_n 1, 1) := by decide +kernel
theorem dX5_maskOf_12 : decode cX5_maskOf 12 = .ok (.invokevirtual 148, 3) := by decide +kernel
theorem dX5_maskOf_15 : decode cX5_maskOf 15 = .ok (.goto 4, 3) := by decide +kernel
theorem dX5_maskOf_18 : decode cX5_maskOf 18 = .ok (.iconst (-1), 1) := by decide +kernel
theorem dX5_maskOf_19 : decode cX5_maskOf 19 = .ok (.ireturn, 1) := by decide +kernel
theorem dX5_shapeOf_0 : decode cX5_shapeOf 0 = .ok (.iload_n 1, 1) := by decide +kernel
theorem dX5_shapeOf_1 : decode cX5_shapeOf 1 = .ok (.ifCond .lt 10, 3) := by decide +kernel
theorem dX5_shapeOf_4 : decode cX5_shapeOf 4 = .ok (.iload_n 1, 1) := by decide +kernel
theorem dX5_shapeOf_5 : decode cX5_shapeOf 5 = .ok (.sipush 256, 3) := by decide +kernel
theorem dX5_shapeOf_8 : decode cX5_shapeOf 8 = .ok (.if_icmp .lt 6, 3) := by decide +kernel
theorem dX5_shapeOf_11 : decode cX5_shapeOf 11 = .ok (.bipush (-2), 2) := by decide +kernel
theorem dX5_shapeOf_13 : decode cX5_shapeOf 13 = .ok (.ireturn, 1) := by decide +kernel
theorem dX5_shapeOf_14 : decode cX5_shapeOf 14 = .ok (.aload_n 0, 1) := by decide +kernel
theorem dX5_shapeOf_15 : decode cX5_shapeOf 15 = .ok (.getfield 12, 3) := by decide +kernel
theorem dX5_shapeOf_18 : decode cX5_shapeOf 18 = .ok (.iload_n 1, 1) := by decide +kernel
theorem dX5_shapeOf_19 : decode cX5_shapeOf 19 = .ok (.invokevirtual 151, 3) := by decide +kernel
theorem dX5_shapeOf_22 : decode cX5_shapeOf 22 = .ok (.ireturn, 1) := by decide +kernel
theorem dX5_turned_0 : decode cX5_turned 0 = .ok (.iload_n 1, 1) := by decide +kernel
theorem dX5_turned_1 : decode cX5_turned 1 = .ok (.invokestatic 135, 3) := by decide +kernel
theorem dX5_turned_4 : decode cX5_turned 4 = .ok (.ifCond .ne 5, 3) := by decide +kernel
theorem dX5_turned_7 : decode cX5_turned 7 = .ok (.iconst (-1), 1) := by decide +kernel
theorem dX5_turned_8 : decode cX5_turned 8 = .ok (.ireturn, 1) := by decide +kernel
theorem dX5_turned_9 : decode cX5_turned 9 = .ok (.iload_n 2, 1) := by decide +kernel
theorem dX5_turned_10 : decode cX5_turned 10 = .ok (.ifCond .lt 8, 3) := by decide +kernel
theorem dX5_turned_13 : decode cX5_turned 13 = .ok (.iload_n 2, 1) := by decide +kernel
theorem dX5_turned_14 : decode cX5_turned 14 = .ok (.iconst 3, 1) := by decide +kernel
theorem dX5_turned_15 : decode cX5_turned 15 = .ok (.if_icmp .le 6, 3) := by decide +kernel
theorem dX5_turned_18 : decode cX5_turned 18 = .ok (.bipush (-2), 2) := by decide +kernel
theorem dX5_turned_20 : decode cX5_turned 20 = .ok (.ireturn, 1) := by decide +kernel
theorem dX5_turned_21 : decode cX5_turned 21 = .ok (.aload_n 0, 1) := by decide +kernel
theorem dX5_turned_22 : decode cX5_turned 22 = .ok (.getfield 12, 3) := by decide +kernel
theorem dX5_turned_25 : decode cX5_turned 25 = .ok (.iload_n 1, 1) := by decide +kernel
theorem dX5_turned_26 : decode cX5_turned 26 = .ok (.iload_n 2, 1) := by decide +kernel
theorem dX5_turned_27 : decode cX5_turned 27 = .ok (.invokevirtual 154, 3) := by decide +kernel
theorem dX5_turned_30 : decode cX5_turned 30 = .ok (.ireturn, 1) := by decide +kernel
theorem dX5_mirrored_0 : decode cX5_mirrored 0 = .ok (.iload_n 1, 1) := by decide +kernel
theorem dX5_mirrored_1 : decode cX5_mirrored 1 = .ok (.invokestatic 135, 3) := by decide +kernel
theorem dX5_mirrored_4 : decode cX5_mirrored 4 = .ok (.ifCond .eq 14, 3) := by decide +kernel
theorem dX5_mirrored_7 : decode cX5_mirrored 7 = .ok (.aload_n 0, 1) := by decide +kernel
theorem dX5_mirrored_8 : decode cX5_mirrored 8 = .ok (.getfield 12, 3) := by decide +kernel
theorem dX5_mirrored_11 : decode cX5_mirrored 11 = .ok (.iload_n 1, 1) := by decide +kernel
theorem dX5_mirrored_12 : decode cX5_mirrored 12 = .ok (.invokevirtual 157, 3) := by decide +kernel
theorem dX5_mirrored_15 : decode cX5_mirrored 15 = .ok (.goto 4, 3) := by decide +kernel
theorem dX5_mirrored_18 : decode cX5_mirrored 18 = .ok (.iconst (-1), 1) := by decide +kernel
theorem dX5_mirrored_19 : decode cX5_mirrored 19 = .ok (.ireturn, 1) := by decide +kernel
theorem dX5_count_0 : decode cX5_count 0 = .ok (.iload_n 1, 1) := by decide +kernel
theorem dX5_count_1 : decode cX5_count 1 = .ok (.invokestatic 135, 3) := by decide +kernel
theorem dX5_count_4 : decode cX5_count 4 = .ok (.ifCond .ne 5, 3) := by decide +kernel
theorem dX5_count_7 : decode cX5_count 7 = .ok (.iconst (-1), 1) := by decide +kernel
theorem dX5_count_8 : decode cX5_count 8 = .ok (.ireturn, 1) := by decide +kernel
theorem dX5_count_9 : decode cX5_count 9 = .ok (.iconst 0, 1) := by decide +kernel
theorem dX5_count_10 : decode cX5_count 10 = .ok (.istore_n 2, 1) := by decide +kernel
theorem dX5_count_11 : decode cX5_count 11 = .ok (.iconst 0, 1) := by decide +kernel
theorem dX5_count_12 : decode cX5_count 12 = .ok (.istore_n 3, 1) := by decide +kernel
theorem dX5_count_13 : decode cX5_count 13 = .ok (.iload_n 3, 1) := by decide +kernel
theorem dX5_count_14 : decode cX5_count 14 = .ok (.aload_n 0, 1) := by decide +kernel
theorem dX5_count_15 : decode cX5_count 15 = .ok (.getfield 19, 3) := by decide +kernel
theorem dX5_count_18 : decode cX5_count 18 = .ok (.getfield 95, 3) := by decide +kernel
theorem dX5_count_21 : decode cX5_count 21 = .ok (.if_icmp .ge 44, 3) := by decide +kernel
theorem dX5_count_24 : decode cX5_count 24 = .ok (.iconst 0, 1) := by decide +kernel
theorem dX5_count_25 : decode cX5_count 25 = .ok (.istore 4, 2) := by decide +kernel
theorem dX5_count_27 : decode cX5_count 27 = .ok (.iload 4, 2) := by decide +kernel
theorem dX5_count_29 : decode cX5_count 29 = .ok (.aload_n 0, 1) := by decide +kernel
theorem dX5_count_30 : decode cX5_count 30 = .ok (.getfield 19, 3) := by decide +kernel
theorem dX5_count_33 : decode cX5_count 33 = .ok (.getfield 99, 3) := by decide +kernel
theorem dX5_count_36 : decode cX5_count 36 = .ok (.if_icmp .ge 23, 3) := by decide +kernel
theorem dX5_count_39 : decode cX5_count 39 = .ok (.aload_n 0, 1) := by decide +kernel
theorem dX5_count_40 : decode cX5_count 40 = .ok (.iload_n 3, 1) := by decide +kernel
theorem dX5_count_41 : decode cX5_count 41 = .ok (.iload 4, 2) := by decide +kernel
theorem dX5_count_43 : decode cX5_count 43 = .ok (.invokevirtual 126, 3) := by decide +kernel
theorem dX5_count_46 : decode cX5_count 46 = .ok (.iload_n 1, 1) := by decide +kernel
theorem dX5_count_47 : decode cX5_count 47 = .ok (.if_icmp .ne 6, 3) := by decide +kernel
theorem dX5_count_50 : decode cX5_count 50 = .ok (.iinc 2 1, 3) := by decide +kernel
theorem dX5_count_53 : decode cX5_count 53 = .ok (.iinc 4 1, 3) := by decide +kernel
theorem dX5_count_56 : decode cX5_count 56 = .ok (.goto (-29), 3) := by decide +kernel
theorem dX5_count_59 : decode cX5_count 59 = .ok (.iinc 3 1, 3) := by decide +kernel
theorem dX5_count_62 : decode cX5_count 62 = .ok (.goto (-49), 3) := by decide +kernel
theorem dX5_count_65 : decode cX5_count 65 = .ok (.iload_n 2, 1) := by decide +kernel
theorem dX5_count_66 : decode cX5_count 66 = .ok (.ireturn, 1) := by decide +kernel
theorem dX5_shapes_0 : decode cX5_shapes 0 = .ok (.lconst 0, 1) := by decide +kernel
theorem dX5_shapes_1 : decode cX5_shapes 1 = .ok (.lstore_n 1, 1) := by decide +kernel
theorem dX5_shapes_2 : decode cX5_shapes 2 = .ok (.iconst 0, 1) := by decide +kernel
theorem dX5_shapes_3 : decode cX5_shapes 3 = .ok (.istore_n 3, 1) := by decide +kernel
theorem dX5_shapes_4 : decode cX5_shapes 4 = .ok (.iload_n 3, 1) := by decide +kernel
theorem dX5_shapes_5 : decode cX5_shapes 5 = .ok (.aload_n 0, 1) := by decide +kernel
theorem dX5_shapes_6 : decode cX5_shapes 6 = .ok (.getfield 19, 3) := by decide +kernel
theorem dX5_shapes_9 : decode cX5_shapes 9 = .ok (.getfield 95, 3) := by decide +kernel
theorem dX5_shapes_12 : decode cX5_shapes 12 = .ok (.if_icmp .ge 55, 3) := by decide +kernel
theorem dX5_shapes_15 : decode cX5_shapes 15 = .ok (.iconst 0, 1) := by decide +kernel
theorem dX5_shapes_16 : decode cX5_shapes 16 = .ok (.istore 4, 2) := by decide +kernel
theorem dX5_shapes_18 : decode cX5_shapes 18 = .ok (.iload 4, 2) := by decide +kernel
theorem dX5_shapes_20 : decode cX5_shapes 20 = .ok (.aload_n 0, 1) := by decide +kernel
theorem dX5_shapes_21 : decode cX5_shapes 21 = .ok (.getfield 19, 3) := by decide +kernel
theorem dX5_shapes_24 : decode cX5_shapes 24 = .ok (.getfield 99, 3) := by decide +kernel
theorem dX5_shapes_27 : decode cX5_shapes 27 = .ok (.if_icmp .ge 34, 3) := by decide +kernel
theorem dX5_shapes_30 : decode cX5_shapes 30 = .ok (.aload_n 0, 1) := by decide +kernel
theorem dX5_shapes_31 : decode cX5_shapes 31 = .ok (.getfield 19, 3) := by decide +kernel
theorem dX5_shapes_34 : decode cX5_shapes 34 = .ok (.iload_n 3, 1) := by decide +kernel
theorem dX5_shapes_35 : decode cX5_shapes 35 = .ok (.iload 4, 2) := by decide +kernel
theorem dX5_shapes_37 : decode cX5_shapes 37 = .ok (.invokevirtual 77, 3) := by decide +kernel
theorem dX5_shapes_40 : decode cX5_shapes 40 = .ok (.ifCond .eq 15, 3) := by decide +kernel
theorem dX5_shapes_43 : decode cX5_shapes 43 = .ok (.lload_n 1, 1) := by decide +kernel
theorem dX5_shapes_44 : decode cX5_shapes 44 = .ok (.lconst 1, 1) := by decide +kernel
theorem dX5_shapes_45 : decode cX5_shapes 45 = .ok (.aload_n 0, 1) := by decide +kernel
theorem dX5_shapes_46 : decode cX5_shapes 46 = .ok (.iload_n 3, 1) := by decide +kernel
theorem dX5_shapes_47 : decode cX5_shapes 47 = .ok (.iload 4, 2) := by decide +kernel
theorem dX5_shapes_49 : decode cX5_shapes 49 = .ok (.invokevirtual 126, 3) := by decide +kernel
theorem dX5_shapes_52 : decode cX5_shapes 52 = .ok (.lshl, 1) := by decide +kernel
theorem dX5_shapes_53 : decode cX5_shapes 53 = .ok (.lor, 1) := by decide +kernel
theorem dX5_shapes_54 : decode cX5_shapes 54 = .ok (.lstore_n 1, 1) := by decide +kernel
theorem dX5_shapes_55 : decode cX5_shapes 55 = .ok (.iinc 4 1, 3) := by decide +kernel
theorem dX5_shapes_58 : decode cX5_shapes 58 = .ok (.goto (-40), 3) := by decide +kernel
theorem dX5_shapes_61 : decode cX5_shapes 61 = .ok (.iinc 3 1, 3) := by decide +kernel
theorem dX5_shapes_64 : decode cX5_shapes 64 = .ok (.goto (-60), 3) := by decide +kernel
theorem dX5_shapes_67 : decode cX5_shapes 67 = .ok (.lload_n 1, 1) := by decide +kernel
theorem dX5_shapes_68 : decode cX5_shapes 68 = .ok (.invokestatic 160, 3) := by decide +kernel
theorem dX5_shapes_71 : decode cX5_shapes 71 = .ok (.ireturn, 1) := by decide +kernel
theorem dX5_land_0 : decode cX5_land 0 = .ok (.aload_n 0, 1) := by decide +kernel
theorem dX5_land_1 : decode cX5_land 1 = .ok (.getfield 19, 3) := by decide +kernel
theorem dX5_land_4 : decode cX5_land 4 = .ok (.invokevirtual 165, 3) := by decide +kernel
theorem dX5_land_7 : decode cX5_land 7 = .ok (.ireturn, 1) := by decide +kernel
theorem dX5_landShare_0 : decode cX5_landShare 0 = .ok (.aload_n 0, 1) := by decide +kernel
theorem dX5_landShare_1 : decode cX5_landShare 1 = .ok (.getfield 19, 3) := by decide +kernel
theorem dX5_landShare_4 : decode cX5_landShare 4 = .ok (.getfield 95, 3) := by decide +kernel
theorem dX5_landShare_7 : decode cX5_landShare 7 = .ok (.aload_n 0, 1) := by decide +kernel
theorem dX5_landShare_8 : decode cX5_landShare 8 = .ok (.getfield 19, 3) := by decide +kernel
theorem dX5_landShare_11 : decode cX5_landShare 11 = .ok (.getfield 99, 3) := by decide +kernel
theorem dX5_landShare_14 : decode cX5_landShare 14 = .ok (.imul, 1) := by decide +kernel
theorem dX5_landShare_15 : decode cX5_landShare 15 = .ok (.istore_n 1, 1) := by decide +kernel
theorem dX5_landShare_16 : decode cX5_landShare 16 = .ok (.iload_n 1, 1) := by decide +kernel
theorem dX5_landShare_17 : decode cX5_landShare 17 = .ok (.ifCond .gt 7, 3) := by decide +kernel
theorem dX5_landShare_20 : decode cX5_landShare 20 = .ok (.iconst 0, 1) := by decide +kernel
theorem dX5_landShare_21 : decode cX5_landShare 21 = .ok (.goto 17, 3) := by decide +kernel
theorem dX5_landShare_24 : decode cX5_landShare 24 = .ok (.aload_n 0, 1) := by decide +kernel
theorem dX5_landShare_25 : decode cX5_landShare 25 = .ok (.getfield 19, 3) := by decide +kernel
theorem dX5_landShare_28 : decode cX5_landShare 28 = .ok (.invokevirtual 165, 3) := by decide +kernel
theorem dX5_landShare_31 : decode cX5_landShare 31 = .ok (.i2f, 1) := by decide +kernel
theorem dX5_landShare_32 : decode cX5_landShare 32 = .ok (.iload_n 1, 1) := by decide +kernel
theorem dX5_landShare_33 : decode cX5_landShare 33 = .ok (.i2f, 1) := by decide +kernel
theorem dX5_landShare_34 : decode cX5_landShare 34 = .ok (.fdiv, 1) := by decide +kernel
theorem dX5_landShare_35 : decode cX5_landShare 35 = .ok (.invokestatic 168, 3) := by decide +kernel
theorem dX5_landShare_38 : decode cX5_landShare 38 = .ok (.ireturn, 1) := by decide +kernel
theorem dX5_coast_0 : decode cX5_coast 0 = .ok (.iconst 0, 1) := by decide +kernel
theorem dX5_coast_1 : decode cX5_coast 1 = .ok (.istore_n 1, 1) := by decide +kernel
theorem dX5_coast_2 : decode cX5_coast 2 = .ok (.iconst 0, 1) := by decide +kernel
theorem dX5_coast_3 : decode cX5_coast 3 = .ok (.istore_n 2, 1) := by decide +kernel
theorem dX5_coast_4 : decode cX5_coast 4 = .ok (.iload_n 2, 1) := by decide +kernel
theorem dX5_coast_5 : decode cX5_coast 5 = .ok (.aload_n 0, 1) := by decide +kernel
theorem dX5_coast_6 : decode cX5_coast 6 = .ok (.getfield 19, 3) := by decide +kernel
theorem dX5_coast_9 : decode cX5_coast 9 = .ok (.getfield 95, 3) := by decide +kernel
theorem dX5_coast_12 : decode cX5_coast 12 = .ok (.if_icmp .ge 60, 3) := by decide +kernel
theorem dX5_coast_15 : decode cX5_coast 15 = .ok (.iconst 0, 1) := by decide +kernel
theorem dX5_coast_16 : decode cX5_coast 16 = .ok (.istore_n 3, 1) := by decide +kernel
theorem dX5_coast_17 : decode cX5_coast 17 = .ok (.iload_n 3, 1) := by decide +kernel
theorem dX5_coast_18 : decode cX5_coast 18 = .ok (.aload_n 0, 1) := by decide +kernel
theorem dX5_coast_19 : decode cX5_coast 19 = .ok (.getfield 19, 3) := by decide +kernel
theorem dX5_coast_22 : decode cX5_coast 22 = .ok (.getfield 99, 3) := by decide +kernel
theorem dX5_coast_25 : decode cX5_coast 25 = .ok (.if_icmp .ge 41, 3) := by decide +kernel
theorem dX5_coast_28 : decode cX5_coast 28 = .ok (.aload_n 0, 1) := by decide +kernel
theorem dX5_coast_29 : decode cX5_coast 29 = .ok (.getfield 19, 3) := by decide +kernel
theorem dX5_coast_32 : decode cX5_coast 32 = .ok (.iload_n 2, 1) := by decide +kernel
theorem dX5_coast_33 : decode cX5_coast 33 = .ok (.iload_n 3, 1) := by decide +kernel
theorem dX5_coast_34 : decode cX5_coast 34 = .ok (.invokevirtual 77, 3) := by decide +kernel
theorem dX5_coast_37 : decode cX5_coast 37 = .ok (.ifCond .eq 23, 3) := by decide +kernel
theorem dX5_coast_40 : decode cX5_coast 40 = .ok (.iload_n 1, 1) := by decide +kernel
theorem dX5_coast_41 : decode cX5_coast 41 = .ok (.aload_n 0, 1) := by decide +kernel
theorem dX5_coast_42 : decode cX5_coast 42 = .ok (.getfield 19, 3) := by decide +kernel
theorem dX5_coast_45 : decode cX5_coast 45 = .ok (.iload_n 2, 1) := by decide +kernel
theorem dX5_coast_46 : decode cX5_coast 46 = .ok (.iload_n 3, 1) := by decide +kernel
theorem dX5_coast_47 : decode cX5_coast 47 = .ok (.invokevirtual 111, 3) := by decide +kernel
theorem dX5_coast_50 : decode cX5_coast 50 = .ok (.iconst (-1), 1) := by decide +kernel
theorem dX5_coast_51 : decode cX5_coast 51 = .ok (.ixor, 1) := by decide +kernel
theorem dX5_coast_52 : decode cX5_coast 52 = .ok (.bipush 85, 2) := by decide +kernel
theorem dX5_coast_54 : decode cX5_coast 54 = .ok (.iand, 1) := by decide +kernel
theorem dX5_coast_55 : decode cX5_coast 55 = .ok (.invokestatic 114, 3) := by decide +kernel
theorem dX5_coast_58 : decode cX5_coast 58 = .ok (.iadd, 1) := by decide +kernel
theorem dX5_coast_59 : decode cX5_coast 59 = .ok (.istore_n 1, 1) := by decide +kernel
theorem dX5_coast_60 : decode cX5_coast 60 = .ok (.iinc 3 1, 3) := by decide +kernel
theorem dX5_coast_63 : decode cX5_coast 63 = .ok (.goto (-46), 3) := by decide +kernel
theorem dX5_coast_66 : decode cX5_coast 66 = .ok (.iinc 2 1, 3) := by decide +kernel
theorem dX5_coast_69 : decode cX5_coast 69 = .ok (.goto (-65), 3) := by decide +kernel
theorem dX5_coast_72 : decode cX5_coast 72 = .ok (.iload_n 1, 1) := by decide +kernel
theorem dX5_coast_73 : decode cX5_coast 73 = .ok (.ireturn, 1) := by decide +kernel
theorem dX5_islands_0 : decode cX5_islands 0 = .ok (.aload_n 0, 1) := by decide +kernel
theorem dX5_islands_1 : decode cX5_islands 1 = .ok (.getfield 43, 3) := by decide +kernel
theorem dX5_islands_4 : decode cX5_islands 4 = .ok (.invokevirtual 88, 3) := by decide +kernel
theorem dX5_islands_7 : decode cX5_islands 7 = .ok (.iconst 0, 1) := by decide +kernel
theorem dX5_islands_8 : decode cX5_islands 8 = .ok (.istore_n 1, 1) := by decide +kernel
theorem dX5_islands_9 : decode cX5_islands 9 = .ok (.iconst 0, 1) := by decide +kernel
theorem dX5_islands_10 : decode cX5_islands 10 = .ok (.istore_n 2, 1) := by decide +kernel
theorem dX5_islands_11 : decode cX5_islands 11 = .ok (.iload_n 2, 1) := by decide +kernel
theorem dX5_islands_12 : decode cX5_islands 12 = .ok (.aload_n 0, 1) := by decide +kernel
theorem dX5_islands_13 : decode cX5_islands 13 = .ok (.getfield 19, 3) := by decide +kernel
theorem dX5_islands_16 : decode cX5_islands 16 = .ok (.getfield 95, 3) := by decide +kernel
theorem dX5_islands_19 : decode cX5_islands 19 = .ok (.if_icmp .ge 69, 3) := by decide +kernel
theorem dX5_islands_22 : decode cX5_islands 22 = .ok (.iconst 0, 1) := by decide +kernel
theorem dX5_islands_23 : decode cX5_islands 23 = .ok (.istore_n 3, 1) := by decide +kernel
theorem dX5_islands_24 : decode cX5_islands 24 = .ok (.iload_n 3, 1) := by decide +kernel
theorem dX5_islands_25 : decode cX5_islands 25 = .ok (.aload_n 0, 1) := by decide +kernel
theorem dX5_islands_26 : decode cX5_islands 26 = .ok (.getfield 19, 3) := by decide +kernel
theorem dX5_islands_29 : decode cX5_islands 29 = .ok (.getfield 99, 3) := by decide +kernel
theorem dX5_islands_32 : decode cX5_islands 32 = .ok (.if_icmp .ge 50, 3) := by decide +kernel
theorem dX5_islands_35 : decode cX5_islands 35 = .ok (.aload_n 0, 1) := by decide +kernel
theorem dX5_islands_36 : decode cX5_islands 36 = .ok (.getfield 19, 3) := by decide +kernel
theorem dX5_islands_39 : decode cX5_islands 39 = .ok (.iload_n 2, 1) := by decide +kernel
theorem dX5_islands_40 : decode cX5_islands 40 = .ok (.iload_n 3, 1) := by decide +kernel
theorem dX5_islands_41 : decode cX5_islands 41 = .ok (.invokevirtual 77, 3) := by decide +kernel
theorem dX5_islands_44 : decode cX5_islands 44 = .ok (.ifCond .eq 32, 3) := by decide +kernel
theorem dX5_islands_47 : decode cX5_islands 47 = .ok (.aload_n 0, 1) := by decide +kernel
theorem dX5_islands_48 : decode cX5_islands 48 = .ok (.getfield 43, 3) := by decide +kernel
theorem dX5_islands_51 : decode cX5_islands 51 = .ok (.iload_n 2, 1) := by decide +kernel
theorem dX5_islands_52 : decode cX5_islands 52 = .ok (.iload_n 3, 1) := by decide +kernel
theorem dX5_islands_53 : decode cX5_islands 53 = .ok (.invokevirtual 102, 3) := by decide +kernel
theorem dX5_islands_56 : decode cX5_islands 56 = .ok (.ifCond .ne 20, 3) := by decide +kernel
theorem dX5_islands_59 : decode cX5_islands 59 = .ok (.aload_n 0, 1) := by decide +kernel
theorem dX5_islands_60 : decode cX5_islands 60 = .ok (.getfield 43, 3) := by decide +kernel
theorem dX5_islands_63 : decode cX5_islands 63 = .ok (.aload_n 0, 1) := by decide +kernel
theorem dX5_islands_64 : decode cX5_islands 64 = .ok (.getfield 19, 3) := by decide +kernel
theorem dX5_islands_67 : decode cX5_islands 67 = .ok (.iload_n 2, 1) := by decide +kernel
theorem dX5_islands_68 : decode cX5_islands 68 = .ok (.iload_n 3, 1) := by decide +kernel
theorem dX5_islands_69 : decode cX5_islands 69 = .ok (.iconst 1, 1) := by decide +kernel
theorem dX5_islands_70 : decode cX5_islands 70 = .ok (.invokevirtual 91, 3) := by decide +kernel
theorem dX5_islands_73 : decode cX5_islands 73 = .ok (.iinc 1 1, 3) := by decide +kernel
theorem dX5_islands_76 : decode cX5_islands 76 = .ok (.iinc 3 1, 3) := by decide +kernel
theorem dX5_islands_79 : decode cX5_islands 79 = .ok (.goto (-55), 3) := by decide +kernel
theorem dX5_islands_82 : decode cX5_islands 82 = .ok (.iinc 2 1, 3) := by decide +kernel
theorem dX5_islands_85 : decode cX5_islands 85 = .ok (.goto (-74), 3) := by decide +kernel
theorem dX5_islands_88 : decode cX5_islands 88 = .ok (.iload_n 1, 1) := by decide +kernel
theorem dX5_islands_89 : decode cX5_islands 89 = .ok (.ireturn, 1) := by decide +kernel
theorem dX5_lakes_0 : decode cX5_lakes 0 = .ok (.aload_n 0, 1) := by decide +kernel
theorem dX5_lakes_1 : decode cX5_lakes 1 = .ok (.getfield 43, 3) := by decide +kernel
theorem dX5_lakes_4 : decode cX5_lakes 4 = .ok (.invokevirtual 88, 3) := by decide +kernel
theorem dX5_lakes_7 : decode cX5_lakes 7 = .ok (.iconst 0, 1) := by decide +kernel
theorem dX5_lakes_8 : decode cX5_lakes 8 = .ok (.istore_n 1, 1) := by decide +kernel
theorem dX5_lakes_9 : decode cX5_lakes 9 = .ok (.iconst 0, 1) := by decide +kernel
theorem dX5_lakes_10 : decode cX5_lakes 10 = .ok (.istore_n 2, 1) := by decide +kernel
theorem dX5_lakes_11 : decode cX5_lakes 11 = .ok (.iload_n 2, 1) := by decide +kernel
theorem dX5_lakes_12 : decode cX5_lakes 12 = .ok (.aload_n 0, 1) := by decide +kernel
theorem dX5_lakes_13 : decode cX5_lakes 13 = .ok (.getfield 19, 3) := by decide +kernel
theorem dX5_lakes_16 : decode cX5_lakes 16 = .ok (.getfield 95, 3) := by decide +kernel
theorem dX5_lakes_19 : decode cX5_lakes 19 = .ok (.if_icmp .ge 84, 3) := by decide +kernel
theorem dX5_lakes_22 : decode cX5_lakes 22 = .ok (.iconst 0, 1) := by decide +kernel
theorem dX5_lakes_23 : decode cX5_lakes 23 = .ok (.istore_n 3, 1) := by decide +kernel
theorem dX5_lakes_24 : decode cX5_lakes 24 = .ok (.iload_n 3, 1) := by decide +kernel
theorem dX5_lakes_25 : decode cX5_lakes 25 = .ok (.aload_n 0, 1) := by decide +kernel
theorem dX5_lakes_26 : decode cX5_lakes 26 = .ok (.getfield 19, 3) := by decide +kernel
theorem dX5_lakes_29 : decode cX5_lakes 29 = .ok (.getfield 99, 3) := by decide +kernel
theorem dX5_lakes_32 : decode cX5_lakes 32 = .ok (.if_icmp .ge 65, 3) := by decide +kernel
theorem dX5_lakes_35 : decode cX5_lakes 35 = .ok (.aload_n 0, 1) := by decide +kernel
theorem dX5_lakes_36 : decode cX5_lakes 36 = .ok (.getfield 19, 3) := by decide +kernel
theorem dX5_lakes_39 : decode cX5_lakes 39 = .ok (.iload_n 2, 1) := by decide +kernel
theorem dX5_lakes_40 : decode cX5_lakes 40 = .ok (.iload_n 3, 1) := by decide +kernel
theorem dX5_lakes_41 : decode cX5_lakes 41 = .ok (.invokevirtual 77, 3) := by decide +kernel
theorem dX5_lakes_44 : decode cX5_lakes 44 = .ok (.ifCond .ne 47, 3) := by decide +kernel
theorem dX5_lakes_47 : decode cX5_lakes 47 = .ok (.aload_n 0, 1) := by decide +kernel
theorem dX5_lakes_48 : decode cX5_lakes 48 = .ok (.getfield 43, 3) := by decide +kernel
theorem dX5_lakes_51 : decode cX5_lakes 51 = .ok (.iload_n 2, 1) := by decide +kernel
theorem dX5_lakes_52 : decode cX5_lakes 52 = .ok (.iload_n 3, 1) := by decide +kernel
theorem dX5_lakes_53 : decode cX5_lakes 53 = .ok (.invokevirtual 102, 3) := by decide +kernel
theorem dX5_lakes_56 : decode cX5_lakes 56 = .ok (.ifCond .ne 35, 3) := by decide +kernel
theorem dX5_lakes_59 : decode cX5_lakes 59 = .ok (.aload_n 0, 1) := by decide +kernel
theorem dX5_lakes_60 : decode cX5_lakes 60 = .ok (.getfield 43, 3) := by decide +kernel
theorem dX5_lakes_63 : decode cX5_lakes 63 = .ok (.aload_n 0, 1) := by decide +kernel
theorem dX5_lakes_64 : decode cX5_lakes 64 = .ok (.getfield 19, 3) := by decide +kernel
theorem dX5_lakes_67 : decode cX5_lakes 67 = .ok (.iload_n 2, 1) := by decide +kernel
theorem dX5_lakes_68 : decode cX5_lakes 68 = .ok (.iload_n 3, 1) := by decide +kernel
theorem dX5_lakes_69 : decode cX5_lakes 69 = .ok (.iconst 2, 1) := by decide +kernel
theorem dX5_lakes_70 : decode cX5_lakes 70 = .ok (.invokevirtual 91, 3) := by decide +kernel
theorem dX5_lakes_73 : decode cX5_lakes 73 = .ok (.iload_n 1, 1) := by decide +kernel
theorem dX5_lakes_74 : decode cX5_lakes 74 = .ok (.aload_n 0, 1) := by decide +kernel
theorem dX5_lakes_75 : decode cX5_lakes 75 = .ok (.getfield 43, 3) := by decide +kernel
theorem dX5_lakes_78 : decode cX5_lakes 78 = .ok (.getfield 172, 3) := by decide +kernel
theorem dX5_lakes_81 : decode cX5_lakes 81 = .ok (.ifCond .eq 7, 3) := by decide +kernel
theorem dX5_lakes_84 : decode cX5_lakes 84 = .ok (.iconst 0, 1) := by decide +kernel
theorem dX5_lakes_85 : decode cX5_lakes 85 = .ok (.goto 4, 3) := by decide +kernel
theorem dX5_lakes_88 : decode cX5_lakes 88 = .ok (.iconst 1, 1) := by decide +kernel
theorem dX5_lakes_89 : decode cX5_lakes 89 = .ok (.iadd, 1) := by decide +kernel
theorem dX5_lakes_90 : decode cX5_lakes 90 = .ok (.istore_n 1, 1) := by decide +kernel
theorem dX5_lakes_91 : decode cX5_lakes 91 = .ok (.iinc 3 1, 3) := by decide +kernel
theorem dX5_lakes_94 : decode cX5_lakes 94 = .ok (.goto (-70), 3) := by decide +kernel
theorem dX5_lakes_97 : decode cX5_lakes 97 = .ok (.iinc 2 1, 3) := by decide +kernel
theorem dX5_lakes_100 : decode cX5_lakes 100 = .ok (.goto (-89), 3) := by decide +kernel
theorem dX5_lakes_103 : decode cX5_lakes 103 = .ok (.iload_n 1, 1) := by decide +kernel
theorem dX5_lakes_104 : decode cX5_lakes 104 = .ok (.ireturn, 1) := by decide +kernel
theorem dX5_region_0 : decode cX5_region 0 = .ok (.aload_n 0, 1) := by decide +kernel
theorem dX5_region_1 : decode cX5_region 1 = .ok (.getfield 19, 3) := by decide +kernel
theorem dX5_region_4 : decode cX5_region 4 = .ok (.iload_n 1, 1) := by decide +kernel
theorem dX5_region_5 : decode cX5_region 5 = .ok (.iload_n 2, 1) := by decide +kernel
theorem dX5_region_6 : decode cX5_region 6 = .ok (.invokevirtual 73, 3) := by decide +kernel
theorem dX5_region_9 : decode cX5_region 9 = .ok (.ifCond .ne 5, 3) := by decide +kernel
theorem dX5_region_12 : decode cX5_region 12 = .ok (.iconst (-1), 1) := by decide +kernel
theorem dX5_region_13 : decode cX5_region 13 = .ok (.ireturn, 1) := by decide +kernel
theorem dX5_region_14 : decode cX5_region 14 = .ok (.aload_n 0, 1) := by decide +kernel
theorem dX5_region_15 : decode cX5_region 15 = .ok (.getfield 43, 3) := by decide +kernel
theorem dX5_region_18 : decode cX5_region 18 = .ok (.invokevirtual 88, 3) := by decide +kernel
theorem dX5_region_21 : decode cX5_region 21 = .ok (.aload_n 0, 1) := by decide +kernel
theorem dX5_region_22 : decode cX5_region 22 = .ok (.getfield 43, 3) := by decide +kernel
theorem dX5_region_25 : decode cX5_region 25 = .ok (.aload_n 0, 1) := by decide +kernel
theorem dX5_region_26 : decode cX5_region 26 = .ok (.getfield 19, 3) := by decide +kernel
theorem dX5_region_29 : decode cX5_region 29 = .ok (.iload_n 1, 1) := by decide +kernel
theorem dX5_region_30 : decode cX5_region 30 = .ok (.iload_n 2, 1) := by decide +kernel
theorem dX5_region_31 : decode cX5_region 31 = .ok (.iload_n 3, 1) := by decide +kernel
theorem dX5_region_32 : decode cX5_region 32 = .ok (.ifCond .eq 7, 3) := by decide +kernel
theorem dX5_region_35 : decode cX5_region 35 = .ok (.iconst 1, 1) := by decide +kernel
theorem dX5_region_36 : decode cX5_region 36 = .ok (.goto 4, 3) := by decide +kernel
theorem dX5_region_39 : decode cX5_region 39 = .ok (.iconst 2, 1) := by decide +kernel
theorem dX5_region_40 : decode cX5_region 40 = .ok (.invokevirtual 91, 3) := by decide +kernel
theorem dX5_region_43 : decode cX5_region 43 = .ok (.aload_n 0, 1) := by decide +kernel
theorem dX5_region_44 : decode cX5_region 44 = .ok (.getfield 43, 3) := by decide +kernel
theorem dX5_region_47 : decode cX5_region 47 = .ok (.getfield 105, 3) := by decide +kernel
theorem dX5_region_50 : decode cX5_region 50 = .ok (.ireturn, 1) := by decide +kernel
theorem dX5_largestIsland_0 : decode cX5_largestIsland 0 = .ok (.aload_n 0, 1) := by decide +kernel
theorem dX5_largestIsland_1 : decode cX5_largestIsland 1 = .ok (.getfield 43, 3) := by decide +kernel
theorem dX5_largestIsland_4 : decode cX5_largestIsland 4 = .ok (.invokevirtual 88, 3) := by decide +kernel
theorem dX5_largestIsland_7 : decode cX5_largestIsland 7 = .ok (.iconst 0, 1) := by decide +kernel
theorem dX5_largestIsland_8 : decode cX5_largestIsland 8 = .ok (.istore_n 1, 1) := by decide +kernel
theorem dX5_largestIsland_9 : decode cX5_largestIsland 9 = .ok (.bipush (-6), 2) := by decide +kernel
theorem dX5_largestIsland_11 : decode cX5_largestIsland 11 = .ok (.istore_n 2, 1) := by decide +kernel
theorem dX5_largestIsland_12 : decode cX5_largestIsland 12 = .ok (.iconst 0, 1) := by decide +kernel
theorem dX5_largestIsland_13 : decode cX5_largestIsland 13 = .ok (.istore_n 3, 1) := by decide +kernel
theorem dX5_largestIsland_14 : decode cX5_largestIsland 14 = .ok (.iload_n 3, 1) := by decide +kernel
theorem dX5_largestIsland_15 : decode cX5_largestIsland 15 = .ok (.aload_n 0, 1) := by decide +kernel
theorem dX5_largestIsland_16 : decode cX5_largestIsland 16 = .ok (.getfield 19, 3) := by decide +kernel
theorem dX5_largestIsland_19 : decode cX5_largestIsland 19 = .ok (.getfield 95, 3) := by decide +kernel
theorem dX5_largestIsland_22 : decode cX5_largestIsland 22 = .ok (.if_icmp .ge 97, 3) := by decide +kernel
theorem dX5_largestIsland_25 : decode cX5_largestIsland 25 = .ok (.iconst 0, 1) := by decide +kernel
theorem dX5_largestIsland_26 : decode cX5_largestIsland 26 = .ok (.istore 4, 2) := by decide +kernel
theorem dX5_largestIsland_28 : decode cX5_largestIsland 28 = .ok (.iload 4, 2) := by decide +kernel
theorem dX5_largestIsland_30 : decode cX5_largestIsland 30 = .ok (.aload_n 0, 1) := by decide +kernel
theorem dX5_largestIsland_31 : decode cX5_largestIsland 31 = .ok (.getfield 19, 3) := by decide +kernel
theorem dX5_largestIsland_34 : decode cX5_largestIsland 34 = .ok (.getfield 99, 3) := by decide +kernel
theorem dX5_largestIsland_37 : decode cX5_largestIsland 37 = .ok (.if_icmp .ge 76, 3) := by decide +kernel
theorem dX5_largestIsland_40 : decode cX5_largestIsland 40 = .ok (.aload_n 0, 1) := by decide +kernel
theorem dX5_largestIsland_41 : decode cX5_largestIsland 41 = .ok (.getfield 19, 3) := by decide +kernel
theorem dX5_largestIsland_44 : decode cX5_largestIsland 44 = .ok (.iload_n 3, 1) := by decide +kernel
theorem dX5_largestIsland_45 : decode cX5_largestIsland 45 = .ok (.iload 4, 2) := by decide +kernel
theorem dX5_largestIsland_47 : decode cX5_largestIsland 47 = .ok (.invokevirtual 77, 3) := by decide +kernel
theorem dX5_largestIsland_50 : decode cX5_largestIsland 50 = .ok (.ifCond .eq 57, 3) := by decide +kernel
theorem dX5_largestIsland_53 : decode cX5_largestIsland 53 = .ok (.aload_n 0, 1) := by decide +kernel
theorem dX5_largestIsland_54 : decode cX5_largestIsland 54 = .ok (.getfield 43, 3) := by decide +kernel
theorem dX5_largestIsland_57 : decode cX5_largestIsland 57 = .ok (.iload_n 3, 1) := by decide +kernel
theorem dX5_largestIsland_58 : decode cX5_largestIsland 58 = .ok (.iload 4, 2) := by decide +kernel
theorem dX5_largestIsland_60 : decode cX5_largestIsland 60 = .ok (.invokevirtual 102, 3) := by decide +kernel
theorem dX5_largestIsland_63 : decode cX5_largestIsland 63 = .ok (.ifCond .ne 44, 3) := by decide +kernel
theorem dX5_largestIsland_66 : decode cX5_largestIsland 66 = .ok (.aload_n 0, 1) := by decide +kernel
theorem dX5_largestIsland_67 : decode cX5_largestIsland 67 = .ok (.getfield 43, 3) := by decide +kernel
theorem dX5_largestIsland_70 : decode cX5_largestIsland 70 = .ok (.aload_n 0, 1) := by decide +kernel
theorem dX5_largestIsland_71 : decode cX5_largestIsland 71 = .ok (.getfield 19, 3) := by decide +kernel
theorem dX5_largestIsland_74 : decode cX5_largestIsland 74 = .ok (.iload_n 3, 1) := by decide +kernel
theorem dX5_largestIsland_75 : decode cX5_largestIsland 75 = .ok (.iload 4, 2) := by decide +kernel
theorem dX5_largestIsland_77 : decode cX5_largestIsland 77 = .ok (.iconst 1, 1) := by decide +kernel
theorem dX5_largestIsland_78 : decode cX5_largestIsland 78 = .ok (.invokevirtual 91, 3) := by decide +kernel
theorem dX5_largestIsland_81 : decode cX5_largestIsland 81 = .ok (.aload_n 0, 1) := by decide +kernel
theorem dX5_largestIsland_82 : decode cX5_largestIsland 82 = .ok (.getfield 43, 3) := by decide +kernel
theorem dX5_largestIsland_85 : decode cX5_largestIsland 85 = .ok (.getfield 105, 3) := by decide +kernel
theorem dX5_largestIsland_88 : decode cX5_largestIsland 88 = .ok (.iload_n 1, 1) := by decide +kernel
theorem dX5_largestIsland_89 : decode cX5_largestIsland 89 = .ok (.if_icmp .le 18, 3) := by decide +kernel
theorem dX5_largestIsland_92 : decode cX5_largestIsland 92 = .ok (.aload_n 0, 1) := by decide +kernel
theorem dX5_largestIsland_93 : decode cX5_largestIsland 93 = .ok (.getfield 43, 3) := by decide +kernel
theorem dX5_largestIsland_96 : decode cX5_largestIsland 96 = .ok (.getfield 105, 3) := by decide +kernel
theorem dX5_largestIsland_99 : decode cX5_largestIsland 99 = .ok (.istore_n 1, 1) := by decide +kernel
theorem dX5_largestIsland_100 : decode cX5_largestIsland 100 = .ok (.iload_n 3, 1) := by decide +kernel
theorem dX5_largestIsland_101 : decode cX5_largestIsland 101 = .ok (.iload 4, 2) := by decide +kernel
theorem dX5_largestIsland_103 : decode cX5_largestIsland 103 = .ok (.invokestatic 145, 3) := by decide +kernel
theorem dX5_largestIsland_106 : decode cX5_largestIsland 106 = .ok (.istore_n 2, 1) := by decide +kernel
theorem dX5_largestIsland_107 : decode cX5_largestIsland 107 = .ok (.iinc 4 1, 3) := by decide +kernel
theorem dX5_largestIsland_110 : decode cX5_largestIsland 110 = .ok (.goto (-82), 3) := by decide +kernel
theorem dX5_largestIsland_113 : decode cX5_largestIsland 113 = .ok (.iinc 3 1, 3) := by decide +kernel
theorem dX5_largestIsland_116 : decode cX5_largestIsland 116 = .ok (.goto (-102), 3) := by decide +kernel
theorem dX5_largestIsland_119 : decode cX5_largestIsland 119 = .ok (.iload_n 2, 1) := by decide +kernel
theorem dX5_largestIsland_120 : decode cX5_largestIsland 120 = .ok (.ireturn, 1) := by decide +kernel
theorem dX5_way_0 : decode cX5_way 0 = .ok (.aload_n 0, 1) := by decide +kernel
theorem dX5_way_1 : decode cX5_way 1 = .ok (.getfield 19, 3) := by decide +kernel
theorem dX5_way_4 : decode cX5_way 4 = .ok (.iload_n 1, 1) := by decide +kernel
theorem dX5_way_5 : decode cX5_way 5 = .ok (.iload_n 2, 1) := by decide +kernel
theorem dX5_way_6 : decode cX5_way 6 = .ok (.invokevirtual 73, 3) := by decide +kernel
theorem dX5_way_9 : decode cX5_way 9 = .ok (.ifCond .eq 16, 3) := by decide +kernel
theorem dX5_way_12 : decode cX5_way 12 = .ok (.aload_n 0, 1) := by decide +kernel
theorem dX5_way_13 : decode cX5_way 13 = .ok (.getfield 19, 3) := by decide +kernel
theorem dX5_way_16 : decode cX5_way 16 = .ok (.iload_n 3, 1) := by decide +kernel
theorem dX5_way_17 : decode cX5_way 17 = .ok (.iload 4, 2) := by decide +kernel
theorem dX5_way_19 : decode cX5_way 19 = .ok (.invokevirtual 73, 3) := by decide +kernel
theorem dX5_way_22 : decode cX5_way 22 = .ok (.ifCond .ne 5, 3) := by decide +kernel
theorem dX5_way_25 : decode cX5_way 25 = .ok (.iconst (-1), 1) := by decide +kernel
theorem dX5_way_26 : decode cX5_way 26 = .ok (.ireturn, 1) := by decide +kernel
theorem dX5_way_27 : decode cX5_way 27 = .ok (.aload_n 0, 1) := by decide +kernel
theorem dX5_way_28 : decode cX5_way 28 = .ok (.getfield 43, 3) := by decide +kernel
theorem dX5_way_31 : decode cX5_way 31 = .ok (.invokevirtual 88, 3) := by decide +kernel
theorem dX5_way_34 : decode cX5_way 34 = .ok (.aload_n 0, 1) := by decide +kernel
theorem dX5_way_35 : decode cX5_way 35 = .ok (.getfield 43, 3) := by decide +kernel
theorem dX5_way_38 : decode cX5_way 38 = .ok (.aload_n 0, 1) := by decide +kernel
theorem dX5_way_39 : decode cX5_way 39 = .ok (.getfield 19, 3) := by decide +kernel
theorem dX5_way_42 : decode cX5_way 42 = .ok (.iload_n 1, 1) := by decide +kernel
theorem dX5_way_43 : decode cX5_way 43 = .ok (.iload_n 2, 1) := by decide +kernel
theorem dX5_way_44 : decode cX5_way 44 = .ok (.iconst 2, 1) := by decide +kernel
theorem dX5_way_45 : decode cX5_way 45 = .ok (.invokevirtual 91, 3) := by decide +kernel
theorem dX5_way_48 : decode cX5_way 48 = .ok (.aload_n 0, 1) := by decide +kernel
theorem dX5_way_49 : decode cX5_way 49 = .ok (.getfield 43, 3) := by decide +kernel
theorem dX5_way_52 : decode cX5_way 52 = .ok (.iload_n 3, 1) := by decide +kernel
theorem dX5_way_53 : decode cX5_way 53 = .ok (.iload 4, 2) := by decide +kernel
theorem dX5_way_55 : decode cX5_way 55 = .ok (.invokevirtual 102, 3) := by decide +kernel
theorem dX5_way_58 : decode cX5_way 58 = .ok (.ifCond .eq 16, 3) := by decide +kernel
theorem dX5_way_61 : decode cX5_way 61 = .ok (.aload_n 0, 1) := by decide +kernel
theorem dX5_way_62 : decode cX5_way 62 = .ok (.getfield 43, 3) := by decide +kernel
theorem dX5_way_65 : decode cX5_way 65 = .ok (.iload_n 3, 1) := by decide +kernel
theorem dX5_way_66 : decode cX5_way 66 = .ok (.iload 4, 2) := by decide +kernel
theorem dX5_way_68 : decode cX5_way 68 = .ok (.invokevirtual 175, 3) := by decide +kernel
theorem dX5_way_71 : decode cX5_way 71 = .ok (.goto 5, 3) := by decide +kernel
theorem dX5_way_74 : decode cX5_way 74 = .ok (.bipush (-6), 2) := by decide +kernel
theorem dX5_way_76 : decode cX5_way 76 = .ok (.ireturn, 1) := by decide +kernel
theorem dX5_coastIfChanged_0 : decode cX5_coastIfChanged 0 = .ok (.aload_n 0, 1) := by decide +kernel
theorem dX5_coastIfChanged_1 : decode cX5_coastIfChanged 1 = .ok (.getfield 19, 3) := by decide +kernel
theorem dX5_coastIfChanged_4 : decode cX5_coastIfChanged 4 = .ok (.iload_n 1, 1) := by decide +kernel
theorem dX5_coastIfChanged_5 : decode cX5_coastIfChanged 5 = .ok (.iload_n 2, 1) := by decide +kernel
theorem dX5_coastIfChanged_6 : decode cX5_coastIfChanged 6 = .ok (.invokevirtual 73, 3) := by decide +kernel
theorem dX5_coastIfChanged_9 : decode cX5_coastIfChanged 9 = .ok (.ifCond .ne 5, 3) := by decide +kernel
theorem dX5_coastIfChanged_12 : decode cX5_coastIfChanged 12 = .ok (.iconst (-1), 1) := by decide +kernel
theorem dX5_coastIfChanged_13 : decode cX5_coastIfChanged 13 = .ok (.ireturn, 1) := by decide +kernel
theorem dX5_coastIfChanged_14 : decode cX5_coastIfChanged 14 = .ok (.iconst 0, 1) := by decide +kernel
theorem dX5_coastIfChanged_15 : decode cX5_coastIfChanged 15 = .ok (.istore_n 3, 1) := by decide +kernel
theorem dX5_coastIfChanged_16 : decode cX5_coastIfChanged 16 = .ok (.iconst 0, 1) := by decide +kernel
theorem dX5_coastIfChanged_17 : decode cX5_coastIfChanged 17 = .ok (.istore 4, 2) := by decide +kernel
theorem dX5_coastIfChanged_19 : decode cX5_coastIfChanged 19 = .ok (.iload 4, 2) := by decide +kernel
theorem dX5_coastIfChanged_21 : decode cX5_coastIfChanged 21 = .ok (.bipush 8, 2) := by decide +kernel
theorem dX5_coastIfChanged_23 : decode cX5_coastIfChanged 23 = .ok (.if_icmp .ge 64, 3) := by decide +kernel
theorem dX5_coastIfChanged_26 : decode cX5_coastIfChanged 26 = .ok (.iload_n 1, 1) := by decide +kernel
theorem dX5_coastIfChanged_27 : decode cX5_coastIfChanged 27 = .ok (.iload 4, 2) := by decide +kernel
theorem dX5_coastIfChanged_29 : decode cX5_coastIfChanged 29 = .ok (.invokestatic 178, 3) := by decide +kernel
theorem dX5_coastIfChanged_32 : decode cX5_coastIfChanged 32 = .ok (.iadd, 1) := by decide +kernel
theorem dX5_coastIfChanged_33 : decode cX5_coastIfChanged 33 = .ok (.istore 5, 2) := by decide +kernel
theorem dX5_coastIfChanged_35 : decode cX5_coastIfChanged 35 = .ok (.iload_n 2, 1) := by decide +kernel
theorem dX5_coastIfChanged_36 : decode cX5_coastIfChanged 36 = .ok (.iload 4, 2) := by decide +kernel
theorem dX5_coastIfChanged_38 : decode cX5_coastIfChanged 38 = .ok (.invokestatic 181, 3) := by decide +kernel
theorem dX5_coastIfChanged_41 : decode cX5_coastIfChanged 41 = .ok (.iadd, 1) := by decide +kernel
theorem dX5_coastIfChanged_42 : decode cX5_coastIfChanged 42 = .ok (.istore 6, 2) := by decide +kernel
theorem dX5_coastIfChanged_44 : decode cX5_coastIfChanged 44 = .ok (.aload_n 0, 1) := by decide +kernel
theorem dX5_coastIfChanged_45 : decode cX5_coastIfChanged 45 = .ok (.getfield 19, 3) := by decide +kernel
theorem dX5_coastIfChanged_48 : decode cX5_coastIfChanged 48 = .ok (.iload 5, 2) := by decide +kernel
theorem dX5_coastIfChanged_50 : decode cX5_coastIfChanged 50 = .ok (.iload 6, 2) := by decide +kernel
theorem dX5_coastIfChanged_52 : decode cX5_coastIfChanged 52 = .ok (.invokevirtual 77, 3) := by decide +kernel
theorem dX5_coastIfChanged_55 : decode cX5_coastIfChanged 55 = .ok (.ifCond .ne 9, 3) := by decide +kernel
theorem dX5_coastIfChanged_58 : decode cX5_coastIfChanged 58 = .ok (.iinc 3 1, 3) := by decide +kernel
theorem dX5_coastIfChanged_61 : decode cX5_coastIfChanged 61 = .ok (.goto 20, 3) := by decide +kernel
theorem dX5_coastIfChanged_64 : decode cX5_coastIfChanged 64 = .ok (.aload_n 0, 1) := by decide +kernel
theorem dX5_coastIfChanged_65 : decode cX5_coastIfChanged 65 = .ok (.getfield 19, 3) := by decide +kernel
theorem dX5_coastIfChanged_68 : decode cX5_coastIfChanged 68 = .ok (.iload 5, 2) := by decide +kernel
theorem dX5_coastIfChanged_70 : decode cX5_coastIfChanged 70 = .ok (.iload 6, 2) := by decide +kernel
theorem dX5_coastIfChanged_72 : decode cX5_coastIfChanged 72 = .ok (.invokevirtual 73, 3) := by decide +kernel
theorem dX5_coastIfChanged_75 : decode cX5_coastIfChanged 75 = .ok (.ifCond .eq 6, 3) := by decide +kernel
theorem dX5_coastIfChanged_78 : decode cX5_coastIfChanged 78 = .ok (.iinc 3 (-1), 3) := by decide +kernel
theorem dX5_coastIfChanged_81 : decode cX5_coastIfChanged 81 = .ok (.iinc 4 2, 3) := by decide +kernel
theorem dX5_coastIfChanged_84 : decode cX5_coastIfChanged 84 = .ok (.goto (-65), 3) := by decide +kernel
theorem dX5_coastIfChanged_87 : decode cX5_coastIfChanged 87 = .ok (.bipush 100, 2) := by decide +kernel
theorem dX5_coastIfChanged_89 : decode cX5_coastIfChanged 89 = .ok (.aload_n 0, 1) := by decide +kernel
theorem dX5_coastIfChanged_90 : decode cX5_coastIfChanged 90 = .ok (.getfield 19, 3) := by decide +kernel
theorem dX5_coastIfChanged_93 : decode cX5_coastIfChanged 93 = .ok (.iload_n 1, 1) := by decide +kernel
theorem dX5_coastIfChanged_94 : decode cX5_coastIfChanged 94 = .ok (.iload_n 2, 1) := by decide +kernel
theorem dX5_coastIfChanged_95 : decode cX5_coastIfChanged 95 = .ok (.invokevirtual 77, 3) := by decide +kernel
theorem dX5_coastIfChanged_98 : decode cX5_coastIfChanged 98 = .ok (.ifCond .eq 8, 3) := by decide +kernel
theorem dX5_coastIfChanged_101 : decode cX5_coastIfChanged 101 = .ok (.iload_n 3, 1) := by decide +kernel
theorem dX5_coastIfChanged_102 : decode cX5_coastIfChanged 102 = .ok (.ineg, 1) := by decide +kernel
theorem dX5_coastIfChanged_103 : decode cX5_coastIfChanged 103 = .ok (.goto 4, 3) := by decide +kernel
theorem dX5_coastIfChanged_106 : decode cX5_coastIfChanged 106 = .ok (.iload_n 3, 1) := by decide +kernel
theorem dX5_coastIfChanged_107 : decode cX5_coastIfChanged 107 = .ok (.iadd, 1) := by decide +kernel
theorem dX5_coastIfChanged_108 : decode cX5_coastIfChanged 108 = .ok (.ireturn, 1) := by decide +kernel
theorem dX5_needs_0 : decode cX5_needs 0 = .ok (.aload_n 0, 1) := by decide +kernel
theorem dX5_needs_1 : decode cX5_needs 1 = .ok (.getfield 19, 3) := by decide +kernel
theorem dX5_needs_4 : decode cX5_needs 4 = .ok (.iload_n 1, 1) := by decide +kernel
theorem dX5_needs_5 : decode cX5_needs 5 = .ok (.iload_n 2, 1) := by decide +kernel
theorem dX5_needs_6 : decode cX5_needs 6 = .ok (.invokevirtual 73, 3) := by decide +kernel
theorem dX5_needs_9 : decode cX5_needs 9 = .ok (.ifCond .eq 10, 3) := by decide +kernel
theorem dX5_needs_12 : decode cX5_needs 12 = .ok (.iload_n 3, 1) := by decide +kernel
theorem dX5_needs_13 : decode cX5_needs 13 = .ok (.invokestatic 135, 3) := by decide +kernel
theorem dX5_needs_16 : decode cX5_needs 16 = .ok (.ifCond .ne 5, 3) := by decide +kernel
theorem dX5_needs_19 : decode cX5_needs 19 = .ok (.iconst (-1), 1) := by decide +kernel
theorem dX5_needs_20 : decode cX5_needs 20 = .ok (.ireturn, 1) := by decide +kernel
theorem dX5_needs_21 : decode cX5_needs 21 = .ok (.aload_n 0, 1) := by decide +kernel
theorem dX5_needs_22 : decode cX5_needs 22 = .ok (.getfield 12, 3) := by decide +kernel
theorem dX5_needs_25 : decode cX5_needs 25 = .ok (.iload_n 3, 1) := by decide +kernel
theorem dX5_needs_26 : decode cX5_needs 26 = .ok (.invokevirtual 148, 3) := by decide +kernel
theorem dX5_needs_29 : decode cX5_needs 29 = .ok (.istore 4, 2) := by decide +kernel
theorem dX5_needs_31 : decode cX5_needs 31 = .ok (.iload 4, 2) := by decide +kernel
theorem dX5_needs_33 : decode cX5_needs 33 = .ok (.aload_n 0, 1) := by decide +kernel
theorem dX5_needs_34 : decode cX5_needs 34 = .ok (.getfield 19, 3) := by decide +kernel
theorem dX5_needs_37 : decode cX5_needs 37 = .ok (.iload_n 1, 1) := by decide +kernel
theorem dX5_needs_38 : decode cX5_needs 38 = .ok (.iload_n 2, 1) := by decide +kernel
theorem dX5_needs_39 : decode cX5_needs 39 = .ok (.invokevirtual 111, 3) := by decide +kernel
theorem dX5_needs_42 : decode cX5_needs 42 = .ok (.ixor, 1) := by decide +kernel
theorem dX5_needs_43 : decode cX5_needs 43 = .ok (.iload 4, 2) := by decide +kernel
theorem dX5_needs_45 : decode cX5_needs 45 = .ok (.invokestatic 184, 3) := by decide +kernel
theorem dX5_needs_48 : decode cX5_needs 48 = .ok (.iand, 1) := by decide +kernel
theorem dX5_needs_49 : decode cX5_needs 49 = .ok (.istore 5, 2) := by decide +kernel
theorem dX5_needs_51 : decode cX5_needs 51 = .ok (.iload 5, 2) := by decide +kernel
theorem dX5_needs_53 : decode cX5_needs 53 = .ok (.aload_n 0, 1) := by decide +kernel
theorem dX5_needs_54 : decode cX5_needs 54 = .ok (.getfield 19, 3) := by decide +kernel
theorem dX5_needs_57 : decode cX5_needs 57 = .ok (.iload_n 1, 1) := by decide +kernel
theorem dX5_needs_58 : decode cX5_needs 58 = .ok (.iload_n 2, 1) := by decide +kernel
theorem dX5_needs_59 : decode cX5_needs 59 = .ok (.invokevirtual 187, 3) := by decide +kernel
theorem dX5_needs_62 : decode cX5_needs 62 = .ok (.iand, 1) := by decide +kernel
theorem dX5_needs_63 : decode cX5_needs 63 = .ok (.ifCond .eq 6, 3) := by decide +kernel
theorem dX5_needs_66 : decode cX5_needs 66 = .ok (.bipush (-6), 2) := by decide +kernel
theorem dX5_needs_68 : decode cX5_needs 68 = .ok (.ireturn, 1) := by decide +kernel
theorem dX5_needs_69 : decode cX5_needs 69 = .ok (.iload 5, 2) := by decide +kernel
theorem dX5_needs_71 : decode cX5_needs 71 = .ok (.invokestatic 114, 3) := by decide +kernel
theorem dX5_needs_74 : decode cX5_needs 74 = .ok (.ireturn, 1) := by decide +kernel
theorem dX5_append_0 : decode cX5_append 0 = .ok (.iload_n 1, 1) := by decide +kernel
theorem dX5_append_1 : decode cX5_append 1 = .ok (.bipush 33, 2) := by decide +kernel
theorem dX5_append_3 : decode cX5_append 3 = .ok (.if_icmp .lt 9, 3) := by decide +kernel
theorem dX5_append_6 : decode cX5_append 6 = .ok (.iload_n 1, 1) := by decide +kernel
theorem dX5_append_7 : decode cX5_append 7 = .ok (.bipush 126, 2) := by decide +kernel
theorem dX5_append_9 : decode cX5_append 9 = .ok (.if_icmp .le 6, 3) := by decide +kernel
theorem dX5_append_12 : decode cX5_append 12 = .ok (.bipush (-2), 2) := by decide +kernel
theorem dX5_append_14 : decode cX5_append 14 = .ok (.ireturn, 1) := by decide +kernel
theorem dX5_append_15 : decode cX5_append 15 = .ok (.aload_n 0, 1) := by decide +kernel
theorem dX5_append_16 : decode cX5_append 16 = .ok (.getfield 50, 3) := by decide +kernel
theorem dX5_append_19 : decode cX5_append 19 = .ok (.iload_n 1, 1) := by decide +kernel
theorem dX5_append_20 : decode cX5_append 20 = .ok (.invokevirtual 190, 3) := by decide +kernel
theorem dX5_append_23 : decode cX5_append 23 = .ok (.ifCond .eq 13, 3) := by decide +kernel
theorem dX5_append_26 : decode cX5_append 26 = .ok (.aload_n 0, 1) := by decide +kernel
theorem dX5_append_27 : decode cX5_append 27 = .ok (.getfield 50, 3) := by decide +kernel
theorem dX5_append_30 : decode cX5_append 30 = .ok (.getfield 193, 3) := by decide +kernel
theorem dX5_append_33 : decode cX5_append 33 = .ok (.goto 5, 3) := by decide +kernel
theorem dX5_append_36 : decode cX5_append 36 = .ok (.bipush (-4), 2) := by decide +kernel
theorem dX5_append_38 : decode cX5_append 38 = .ok (.ireturn, 1) := by decide +kernel
theorem dX5_clearText_0 : decode cX5_clearText 0 = .ok (.aload_n 0, 1) := by decide +kernel
theorem dX5_clearText_1 : decode cX5_clearText 1 = .ok (.getfield 50, 3) := by decide +kernel
theorem dX5_clearText_4 : decode cX5_clearText 4 = .ok (.getfield 193, 3) := by decide +kernel
theorem dX5_clearText_7 : decode cX5_clearText 7 = .ok (.istore_n 1, 1) := by decide +kernel
theorem dX5_clearText_8 : decode cX5_clearText 8 = .ok (.aload_n 0, 1) := by decide +kernel
theorem dX5_clearText_9 : decode cX5_clearText 9 = .ok (.getfield 50, 3) := by decide +kernel
theorem dX5_clearText_12 : decode cX5_clearText 12 = .ok (.iconst 0, 1) := by decide +kernel
theorem dX5_clearText_13 : decode cX5_clearText 13 = .ok (.putfield 193, 3) := by decide +kernel
theorem dX5_clearText_16 : decode cX5_clearText 16 = .ok (.iload_n 1, 1) := by decide +kernel
theorem dX5_clearText_17 : decode cX5_clearText 17 = .ok (.ireturn, 1) := by decide +kernel
theorem dX5_errorPosition_0 : decode cX5_errorPosition 0 = .ok (.aload_n 0, 1) := by decide +kernel
theorem dX5_errorPosition_1 : decode cX5_errorPosition 1 = .ok (.getfield 50, 3) := by decide +kernel
theorem dX5_errorPosition_4 : decode cX5_errorPosition 4 = .ok (.invokevirtual 196, 3) := by decide +kernel
theorem dX5_errorPosition_7 : decode cX5_errorPosition 7 = .ok (.ireturn, 1) := by decide +kernel
theorem dX5_read_0 : decode cX5_read 0 = .ok (.aload_n 0, 1) := by decide +kernel
theorem dX5_read_1 : decode cX5_read 1 = .ok (.getfield 50, 3) := by decide +kernel
theorem dX5_read_4 : decode cX5_read 4 = .ok (.invokevirtual 196, 3) := by decide +kernel
theorem dX5_read_7 : decode cX5_read 7 = .ok (.bipush (-6), 2) := by decide +kernel
theorem dX5_read_9 : decode cX5_read 9 = .ok (.if_icmp .eq 6, 3) := by decide +kernel
theorem dX5_read_12 : decode cX5_read 12 = .ok (.bipush (-5), 2) := by decide +kernel
theorem dX5_read_14 : decode cX5_read 14 = .ok (.ireturn, 1) := by decide +kernel
theorem dX5_read_15 : decode cX5_read 15 = .ok (.aload_n 0, 1) := by decide +kernel
theorem dX5_read_16 : decode cX5_read 16 = .ok (.getfield 36, 3) := by decide +kernel
theorem dX5_read_19 : decode cX5_read 19 = .ok (.aload_n 0, 1) := by decide +kernel
theorem dX5_read_20 : decode cX5_read 20 = .ok (.getfield 19, 3) := by decide +kernel
theorem dX5_read_23 : decode cX5_read 23 = .ok (.invokevirtual 58, 3) := by decide +kernel
theorem dX5_read_26 : decode cX5_read 26 = .ok (.aload_n 0, 1) := by decide +kernel
theorem dX5_read_27 : decode cX5_read 27 = .ok (.getfield 19, 3) := by decide +kernel
theorem dX5_read_30 : decode cX5_read 30 = .ok (.getfield 66, 3) := by decide +kernel
theorem dX5_read_33 : decode cX5_read 33 = .ok (.istore_n 1, 1) := by decide +kernel
theorem dX5_read_34 : decode cX5_read 34 = .ok (.aload_n 0, 1) := by decide +kernel
theorem dX5_read_35 : decode cX5_read 35 = .ok (.getfield 19, 3) := by decide +kernel
theorem dX5_read_38 : decode cX5_read 38 = .ok (.aload_n 0, 1) := by decide +kernel
theorem dX5_read_39 : decode cX5_read 39 = .ok (.getfield 50, 3) := by decide +kernel
theorem dX5_read_42 : decode cX5_read 42 = .ok (.getfield 199, 3) := by decide +kernel
theorem dX5_read_45 : decode cX5_read 45 = .ok (.invokevirtual 108, 3) := by decide +kernel
theorem dX5_read_48 : decode cX5_read 48 = .ok (.aload_n 0, 1) := by decide +kernel
theorem dX5_read_49 : decode cX5_read 49 = .ok (.getfield 19, 3) := by decide +kernel
theorem dX5_read_52 : decode cX5_read 52 = .ok (.iload_n 1, 1) := by decide +kernel
theorem dX5_read_53 : decode cX5_read 53 = .ok (.putfield 66, 3) := by decide +kernel
theorem dX5_read_56 : decode cX5_read 56 = .ok (.aload_n 0, 1) := by decide +kernel
theorem dX5_read_57 : decode cX5_read 57 = .ok (.getfield 50, 3) := by decide +kernel
theorem dX5_read_60 : decode cX5_read 60 = .ok (.iconst 0, 1) := by decide +kernel
theorem dX5_read_61 : decode cX5_read 61 = .ok (.putfield 193, 3) := by decide +kernel
theorem dX5_read_64 : decode cX5_read 64 = .ok (.aload_n 0, 1) := by decide +kernel
theorem dX5_read_65 : decode cX5_read 65 = .ok (.getfield 19, 3) := by decide +kernel
theorem dX5_read_68 : decode cX5_read 68 = .ok (.invokevirtual 165, 3) := by decide +kernel
theorem dX5_read_71 : decode cX5_read 71 = .ok (.ireturn, 1) := by decide +kernel
theorem dX5_undo_0 : decode cX5_undo 0 = .ok (.aload_n 0, 1) := by decide +kernel
theorem dX5_undo_1 : decode cX5_undo 1 = .ok (.getfield 36, 3) := by decide +kernel
theorem dX5_undo_4 : decode cX5_undo 4 = .ok (.aload_n 0, 1) := by decide +kernel
theorem dX5_undo_5 : decode cX5_undo 5 = .ok (.getfield 19, 3) := by decide +kernel
theorem dX5_undo_8 : decode cX5_undo 8 = .ok (.invokevirtual 202, 3) := by decide +kernel
theorem dX5_undo_11 : decode cX5_undo 11 = .ok (.ifCond .eq 13, 3) := by decide +kernel
theorem dX5_undo_14 : decode cX5_undo 14 = .ok (.aload_n 0, 1) := by decide +kernel
theorem dX5_undo_15 : decode cX5_undo 15 = .ok (.getfield 36, 3) := by decide +kernel
theorem dX5_undo_18 : decode cX5_undo 18 = .ok (.getfield 206, 3) := by decide +kernel
theorem dX5_undo_21 : decode cX5_undo 21 = .ok (.goto 5, 3) := by decide +kernel
theorem dX5_undo_24 : decode cX5_undo 24 = .ok (.bipush (-3), 2) := by decide +kernel
theorem dX5_undo_26 : decode cX5_undo 26 = .ok (.ireturn, 1) := by decide +kernel
theorem dX5_save_0 : decode cX5_save 0 = .ok (.aload_n 0, 1) := by decide +kernel
theorem dX5_save_1 : decode cX5_save 1 = .ok (.getfield 26, 3) := by decide +kernel
theorem dX5_save_4 : decode cX5_save 4 = .ok (.aload_n 0, 1) := by decide +kernel
theorem dX5_save_5 : decode cX5_save 5 = .ok (.getfield 19, 3) := by decide +kernel
theorem dX5_save_8 : decode cX5_save 8 = .ok (.invokevirtual 108, 3) := by decide +kernel
theorem dX5_save_11 : decode cX5_save 11 = .ok (.aload_n 0, 1) := by decide +kernel
theorem dX5_save_12 : decode cX5_save 12 = .ok (.iconst 1, 1) := by decide +kernel
theorem dX5_save_13 : decode cX5_save 13 = .ok (.putfield 29, 3) := by decide +kernel
theorem dX5_save_16 : decode cX5_save 16 = .ok (.aload_n 0, 1) := by decide +kernel
theorem dX5_save_17 : decode cX5_save 17 = .ok (.getfield 19, 3) := by decide +kernel
theorem dX5_save_20 : decode cX5_save 20 = .ok (.invokevirtual 165, 3) := by decide +kernel
theorem dX5_save_23 : decode cX5_save 23 = .ok (.ireturn, 1) := by decide +kernel
theorem dX5_restore_0 : decode cX5_restore 0 = .ok (.aload_n 0, 1) := by decide +kernel
theorem dX5_restore_1 : decode cX5_restore 1 = .ok (.getfield 29, 3) := by decide +kernel
theorem dX5_restore_4 : decode cX5_restore 4 = .ok (.ifCond .ne 6, 3) := by decide +kernel
theorem dX5_restore_7 : decode cX5_restore 7 = .ok (.bipush (-3), 2) := by decide +kernel
theorem dX5_restore_9 : decode cX5_restore 9 = .ok (.ireturn, 1) := by decide +kernel
theorem dX5_restore_10 : decode cX5_restore 10 = .ok (.aload_n 0, 1) := by decide +kernel
theorem dX5_restore_11 : decode cX5_restore 11 = .ok (.getfield 36, 3) := by decide +kernel
theorem dX5_restore_14 : decode cX5_restore 14 = .ok (.aload_n 0, 1) := by decide +kernel
theorem dX5_restore_15 : decode cX5_restore 15 = .ok (.getfield 19, 3) := by decide +kernel
theorem dX5_restore_18 : decode cX5_restore 18 = .ok (.invokevirtual 58, 3) := by decide +kernel
theorem dX5_restore_21 : decode cX5_restore 21 = .ok (.aload_n 0, 1) := by decide +kernel
theorem dX5_restore_22 : decode cX5_restore 22 = .ok (.getfield 19, 3) := by decide +kernel
theorem dX5_restore_25 : decode cX5_restore 25 = .ok (.aload_n 0, 1) := by decide +kernel
theorem dX5_restore_26 : decode cX5_restore 26 = .ok (.getfield 26, 3) := by decide +kernel
theorem dX5_restore_29 : decode cX5_restore 29 = .ok (.invokevirtual 108, 3) := by decide +kernel
theorem dX5_restore_32 : decode cX5_restore 32 = .ok (.aload_n 0, 1) := by decide +kernel
theorem dX5_restore_33 : decode cX5_restore 33 = .ok (.getfield 19, 3) := by decide +kernel
theorem dX5_restore_36 : decode cX5_restore 36 = .ok (.invokevirtual 165, 3) := by decide +kernel
theorem dX5_restore_39 : decode cX5_restore 39 = .ok (.ireturn, 1) := by decide +kernel
theorem dX5_isLineCount_0 : decode cX5_isLineCount 0 = .ok (.iload_n 0, 1) := by decide +kernel
theorem dX5_isLineCount_1 : decode cX5_isLineCount 1 = .ok (.iconst 1, 1) := by decide +kernel
theorem dX5_isLineCount_2 : decode cX5_isLineCount 2 = .ok (.if_icmp .lt 13, 3) := by decide +kernel
theorem dX5_isLineCount_5 : decode cX5_isLineCount 5 = .ok (.iload_n 0, 1) := by decide +kernel
theorem dX5_isLineCount_6 : decode cX5_isLineCount 6 = .ok (.bipush 12, 2) := by decide +kernel
theorem dX5_isLineCount_8 : decode cX5_isLineCount 8 = .ok (.if_icmp .gt 7, 3) := by decide +kernel
theorem dX5_isLineCount_11 : decode cX5_isLineCount 11 = .ok (.iconst 1, 1) := by decide +kernel
theorem dX5_isLineCount_12 : decode cX5_isLineCount 12 = .ok (.goto 4, 3) := by decide +kernel
theorem dX5_isLineCount_15 : decode cX5_isLineCount 15 = .ok (.iconst 0, 1) := by decide +kernel
theorem dX5_isLineCount_16 : decode cX5_isLineCount 16 = .ok (.ireturn, 1) := by decide +kernel
theorem dX5_isLineOf_0 : decode cX5_isLineOf 0 = .ok (.iload_n 0, 1) := by decide +kernel
theorem dX5_isLineOf_1 : decode cX5_isLineOf 1 = .ok (.ifCond .lt 18, 3) := by decide +kernel
theorem dX5_isLineOf_4 : decode cX5_isLineOf 4 = .ok (.iload_n 0, 1) := by decide +kernel
theorem dX5_isLineOf_5 : decode cX5_isLineOf 5 = .ok (.iload_n 1, 1) := by decide +kernel
theorem dX5_isLineOf_6 : decode cX5_isLineOf 6 = .ok (.if_icmp .ge 13, 3) := by decide +kernel
theorem dX5_isLineOf_9 : decode cX5_isLineOf 9 = .ok (.iload_n 0, 1) := by decide +kernel
theorem dX5_isLineOf_10 : decode cX5_isLineOf 10 = .ok (.bipush 12, 2) := by decide +kernel
theorem dX5_isLineOf_12 : decode cX5_isLineOf 12 = .ok (.if_icmp .ge 7, 3) := by decide +kernel
theorem dX5_isLineOf_15 : decode cX5_isLineOf 15 = .ok (.iconst 1, 1) := by decide +kernel
theorem dX5_isLineOf_16 : decode cX5_isLineOf 16 = .ok (.goto 4, 3) := by decide +kernel
theorem dX5_isLineOf_19 : decode cX5_isLineOf 19 = .ok (.iconst 0, 1) := by decide +kernel
theorem dX5_isLineOf_20 : decode cX5_isLineOf 20 = .ok (.ireturn, 1) := by decide +kernel
theorem dX5_isShape_0 : decode cX5_isShape 0 = .ok (.iload_n 0, 1) := by decide +kernel
theorem dX5_isShape_1 : decode cX5_isShape 1 = .ok (.ifCond .lt 13, 3) := by decide +kernel
theorem dX5_isShape_4 : decode cX5_isShape 4 = .ok (.iload_n 0, 1) := by decide +kernel
theorem dX5_isShape_5 : decode cX5_isShape 5 = .ok (.bipush 47, 2) := by decide +kernel
theorem dX5_isShape_7 : decode cX5_isShape 7 = .ok (.if_icmp .ge 7, 3) := by decide +kernel
theorem dX5_isShape_10 : decode cX5_isShape 10 = .ok (.iconst 1, 1) := by decide +kernel
theorem dX5_isShape_11 : decode cX5_isShape 11 = .ok (.goto 4, 3) := by decide +kernel
theorem dX5_isShape_14 : decode cX5_isShape 14 = .ok (.iconst 0, 1) := by decide +kernel
theorem dX5_isShape_15 : decode cX5_isShape 15 = .ok (.ireturn, 1) := by decide +kernel
theorem dX5_position_0 : decode cX5_position 0 = .ok (.bipush 100, 2) := by decide +kernel
theorem dX5_position_2 : decode cX5_position 2 = .ok (.iload_n 0, 1) := by decide +kernel
theorem dX5_position_3 : decode cX5_position 3 = .ok (.imul, 1) := by decide +kernel
theorem dX5_position_4 : decode cX5_position 4 = .ok (.iload_n 1, 1) := by decide +kernel
theorem dX5_position_5 : decode cX5_position 5 = .ok (.iadd, 1) := by decide +kernel
theorem dX5_position_6 : decode cX5_position 6 = .ok (.ireturn, 1) := by decide +kernel
theorem dX5_rowStep_0 : decode cX5_rowStep 0 = .ok (.getstatic 209, 3) := by decide +kernel
theorem dX5_rowStep_3 : decode cX5_rowStep 3 = .ok (.iload_n 0, 1) := by decide +kernel
theorem dX5_rowStep_4 : decode cX5_rowStep 4 = .ok (.bipush 7, 2) := by decide +kernel
theorem dX5_rowStep_6 : decode cX5_rowStep 6 = .ok (.iand, 1) := by decide +kernel
theorem dX5_rowStep_7 : decode cX5_rowStep 7 = .ok (.iaload, 1) := by decide +kernel
theorem dX5_rowStep_8 : decode cX5_rowStep 8 = .ok (.ireturn, 1) := by decide +kernel
theorem dX5_columnStep_0 : decode cX5_columnStep 0 = .ok (.getstatic 213, 3) := by decide +kernel
theorem dX5_columnStep_3 : decode cX5_columnStep 3 = .ok (.iload_n 0, 1) := by decide +kernel
theorem dX5_columnStep_4 : decode cX5_columnStep 4 = .ok (.bipush 7, 2) := by decide +kernel
theorem dX5_columnStep_6 : decode cX5_columnStep 6 = .ok (.iand, 1) := by decide +kernel
theorem dX5_columnStep_7 : decode cX5_columnStep 7 = .ok (.iaload, 1) := by decide +kernel
theorem dX5_columnStep_8 : decode cX5_columnStep 8 = .ok (.ireturn, 1) := by decide +kernel
theorem dX5_rotated_0 : decode cX5_rotated 0 = .ok (.iload_n 0, 1) := by decide +kernel
theorem dX5_rotated_1 : decode cX5_rotated 1 = .ok (.iload_n 1, 1) := by decide +kernel
theorem dX5_rotated_2 : decode cX5_rotated 2 = .ok (.ishl, 1) := by decide +kernel
theorem dX5_rotated_3 : decode cX5_rotated 3 = .ok (.iload_n 0, 1) := by decide +kernel
theorem dX5_rotated_4 : decode cX5_rotated 4 = .ok (.bipush 8, 2) := by decide +kernel
theorem dX5_rotated_6 : decode cX5_rotated 6 = .ok (.iload_n 1, 1) := by decide +kernel
theorem dX5_rotated_7 : decode cX5_rotated 7 = .ok (.isub, 1) := by decide +kernel
theorem dX5_rotated_8 : decode cX5_rotated 8 = .ok (.ishr, 1) := by decide +kernel
theorem dX5_rotated_9 : decode cX5_rotated 9 = .ok (.ior, 1) := by decide +kernel
theorem dX5_rotated_10 : decode cX5_rotated 10 = .ok (.sipush 255, 3) := by decide +kernel
theorem dX5_rotated_13 : decode cX5_rotated 13 = .ok (.iand, 1) := by decide +kernel
theorem dX5_rotated_14 : decode cX5_rotated 14 = .ok (.ireturn, 1) := by decide +kernel
theorem dX5_bitsThatCount_0 : decode cX5_bitsThatCount 0 = .ok (.iload_n 0, 1) := by decide +kernel
theorem dX5_bitsThatCount_1 : decode cX5_bitsThatCount 1 = .ok (.bipush 85, 2) := by decide +kernel
theorem dX5_bitsThatCount_3 : decode cX5_bitsThatCount 3 = .ok (.iand, 1) := by decide +kernel
theorem dX5_bitsThatCount_4 : decode cX5_bitsThatCount 4 = .ok (.istore_n 1, 1) := by decide +kernel
theorem dX5_bitsThatCount_5 : decode cX5_bitsThatCount 5 = .ok (.bipush 85, 2) := by decide +kernel
theorem dX5_bitsThatCount_7 : decode cX5_bitsThatCount 7 = .ok (.iload_n 1, 1) := by decide +kernel
theorem dX5_bitsThatCount_8 : decode cX5_bitsThatCount 8 = .ok (.iconst 1, 1) := by decide +kernel
theorem dX5_bitsThatCount_9 : decode cX5_bitsThatCount 9 = .ok (.invokestatic 216, 3) := by decide +kernel
theorem dX5_bitsThatCount_12 : decode cX5_bitsThatCount 12 = .ok (.iload_n 1, 1) := by decide +kernel
theorem dX5_bitsThatCount_13 : decode cX5_bitsThatCount 13 = .ok (.bipush 7, 2) := by decide +kernel
theorem dX5_bitsThatCount_15 : decode cX5_bitsThatCount 15 = .ok (.invokestatic 216, 3) := by decide +kernel
theorem dX5_bitsThatCount_18 : decode cX5_bitsThatCount 18 = .ok (.iand, 1) := by decide +kernel
theorem dX5_bitsThatCount_19 : decode cX5_bitsThatCount 19 = .ok (.ior, 1) := by decide +kernel
theorem dX5_bitsThatCount_20 : decode cX5_bitsThatCount 20 = .ok (.ireturn, 1) := by decide +kernel
theorem dX5_regularPart_0 : decode cX5_regularPart 0 = .ok (.iload_n 0, 1) := by decide +kernel
theorem dX5_regularPart_1 : decode cX5_regularPart 1 = .ok (.iload_n 0, 1) := by decide +kernel
theorem dX5_regularPart_2 : decode cX5_regularPart 2 = .ok (.invokestatic 184, 3) := by decide +kernel
theorem dX5_regularPart_5 : decode cX5_regularPart 5 = .ok (.iand, 1) := by decide +kernel
theorem dX5_regularPart_6 : decode cX5_regularPart 6 = .ok (.ireturn, 1) := by decide +kernel
theorem dX5_bitsOfShare_0 : decode cX5_bitsOfShare 0 = .ok (.fload_n 0, 1) := by decide +kernel
theorem dX5_bitsOfShare_1 : decode cX5_bitsOfShare 1 = .ok (.fconst 0, 1) := by decide +kernel
theorem dX5_bitsOfShare_2 : decode cX5_bitsOfShare 2 = .ok (.fcmp .g, 1) := by decide +kernel
theorem dX5_bitsOfShare_3 : decode cX5_bitsOfShare 3 = .ok (.ifCond .gt 5, 3) := by decide +kernel
theorem dX5_bitsOfShare_6 : decode cX5_bitsOfShare 6 = .ok (.iconst 0, 1) := by decide +kernel
theorem dX5_bitsOfShare_7 : decode cX5_bitsOfShare 7 = .ok (.ireturn, 1) := by decide +kernel
theorem dX5_bitsOfShare_8 : decode cX5_bitsOfShare 8 = .ok (.fload_n 0, 1) := by decide +kernel
theorem dX5_bitsOfShare_9 : decode cX5_bitsOfShare 9 = .ok (.fstore_n 1, 1) := by decide +kernel
theorem dX5_bitsOfShare_10 : decode cX5_bitsOfShare 10 = .ok (.bipush 127, 2) := by decide +kernel
theorem dX5_bitsOfShare_12 : decode cX5_bitsOfShare 12 = .ok (.istore_n 2, 1) := by decide +kernel
theorem dX5_bitsOfShare_13 : decode cX5_bitsOfShare 13 = .ok (.iconst 0, 1) := by decide +kernel
theorem dX5_bitsOfShare_14 : decode cX5_bitsOfShare 14 = .ok (.istore_n 3, 1) := by decide +kernel
theorem dX5_bitsOfShare_15 : decode cX5_bitsOfShare 15 = .ok (.iload_n 3, 1) := by decide +kernel
theorem dX5_bitsOfShare_16 : decode cX5_bitsOfShare 16 = .ok (.bipush 126, 2) := by decide +kernel
theorem dX5_bitsOfShare_18 : decode cX5_bitsOfShare 18 = .ok (.if_icmp .ge 22, 3) := by decide +kernel
theorem dX5_bitsOfShare_21 : decode cX5_bitsOfShare 21 = .ok (.fload_n 1, 1) := by decide +kernel
theorem dX5_bitsOfShare_22 : decode cX5_bitsOfShare 22 = .ok (.fconst 1, 1) := by decide +kernel
theorem dX5_bitsOfShare_23 : decode cX5_bitsOfShare 23 = .ok (.fcmp .g, 1) := by decide +kernel
theorem dX5_bitsOfShare_24 : decode cX5_bitsOfShare 24 = .ok (.ifCond .ge 16, 3) := by decide +kernel
theorem dX5_bitsOfShare_27 : decode cX5_bitsOfShare 27 = .ok (.fload_n 1, 1) := by decide +kernel
theorem dX5_bitsOfShare_28 : decode cX5_bitsOfShare 28 = .ok (.fconst 2, 1) := by decide +kernel
theorem dX5_bitsOfShare_29 : decode cX5_bitsOfShare 29 = .ok (.fmul, 1) := by decide +kernel
theorem dX5_bitsOfShare_30 : decode cX5_bitsOfShare 30 = .ok (.fstore_n 1, 1) := by decide +kernel
theorem dX5_bitsOfShare_31 : decode cX5_bitsOfShare 31 = .ok (.iinc 2 (-1), 3) := by decide +kernel
theorem dX5_bitsOfShare_34 : decode cX5_bitsOfShare 34 = .ok (.iinc 3 1, 3) := by decide +kernel
theorem dX5_bitsOfShare_37 : decode cX5_bitsOfShare 37 = .ok (.goto (-22), 3) := by decide +kernel
theorem dX5_bitsOfShare_40 : decode cX5_bitsOfShare 40 = .ok (.fload_n 1, 1) := by decide +kernel
theorem dX5_bitsOfShare_41 : decode cX5_bitsOfShare 41 = .ok (.fconst 1, 1) := by decide +kernel
theorem dX5_bitsOfShare_42 : decode cX5_bitsOfShare 42 = .ok (.fsub, 1) := by decide +kernel
theorem dX5_bitsOfShare_43 : decode cX5_bitsOfShare 43 = .ok (.ldc 219, 2) := by decide +kernel
theorem dX5_bitsOfShare_45 : decode cX5_bitsOfShare 45 = .ok (.fmul, 1) := by decide +kernel
theorem dX5_bitsOfShare_46 : decode cX5_bitsOfShare 46 = .ok (.f2i, 1) := by decide +kernel
theorem dX5_bitsOfShare_47 : decode cX5_bitsOfShare 47 = .ok (.istore_n 3, 1) := by decide +kernel
theorem dX5_bitsOfShare_48 : decode cX5_bitsOfShare 48 = .ok (.iload_n 2, 1) := by decide +kernel
theorem dX5_bitsOfShare_49 : decode cX5_bitsOfShare 49 = .ok (.bipush 23, 2) := by decide +kernel
theorem dX5_bitsOfShare_51 : decode cX5_bitsOfShare 51 = .ok (.ishl, 1) := by decide +kernel
theorem dX5_bitsOfShare_52 : decode cX5_bitsOfShare 52 = .ok (.iload_n 3, 1) := by decide +kernel
theorem dX5_bitsOfShare_53 : decode cX5_bitsOfShare 53 = .ok (.ior, 1) := by decide +kernel
theorem dX5_bitsOfShare_54 : decode cX5_bitsOfShare 54 = .ok (.ireturn, 1) := by decide +kernel
theorem dX5_rightMaskAt_0 : decode cX5_rightMaskAt 0 = .ok (.aload_n 0, 1) := by decide +kernel
theorem dX5_rightMaskAt_1 : decode cX5_rightMaskAt 1 = .ok (.getfield 19, 3) := by decide +kernel
theorem dX5_rightMaskAt_4 : decode cX5_rightMaskAt 4 = .ok (.iload_n 1, 1) := by decide +kernel
theorem dX5_rightMaskAt_5 : decode cX5_rightMaskAt 5 = .ok (.iload_n 2, 1) := by decide +kernel
theorem dX5_rightMaskAt_6 : decode cX5_rightMaskAt 6 = .ok (.invokevirtual 111, 3) := by decide +kernel
theorem dX5_rightMaskAt_9 : decode cX5_rightMaskAt 9 = .ok (.invokestatic 220, 3) := by decide +kernel
theorem dX5_rightMaskAt_12 : decode cX5_rightMaskAt 12 = .ok (.ireturn, 1) := by decide +kernel
theorem dX5_rightShapeAt_0 : decode cX5_rightShapeAt 0 = .ok (.aload_n 0, 1) := by decide +kernel
theorem dX5_rightShapeAt_1 : decode cX5_rightShapeAt 1 = .ok (.getfield 12, 3) := by decide +kernel
theorem dX5_rightShapeAt_4 : decode cX5_rightShapeAt 4 = .ok (.aload_n 0, 1) := by decide +kernel
theorem dX5_rightShapeAt_5 : decode cX5_rightShapeAt 5 = .ok (.iload_n 1, 1) := by decide +kernel
theorem dX5_rightShapeAt_6 : decode cX5_rightShapeAt 6 = .ok (.iload_n 2, 1) := by decide +kernel
theorem dX5_rightShapeAt_7 : decode cX5_rightShapeAt 7 = .ok (.invokevirtual 223, 3) := by decide +kernel
theorem dX5_rightShapeAt_10 : decode cX5_rightShapeAt 10 = .ok (.invokevirtual 151, 3) := by decide +kernel
theorem dX5_rightShapeAt_13 : decode cX5_rightShapeAt 13 = .ok (.ireturn, 1) := by decide +kernel
theorem dX5_shapeAt_0 : decode cX5_shapeAt 0 = .ok (.aload_n 0, 1) := by decide +kernel
theorem dX5_shapeAt_1 : decode cX5_shapeAt 1 = .ok (.getfield 19, 3) := by decide +kernel
theorem dX5_shapeAt_4 : decode cX5_shapeAt 4 = .ok (.iload_n 1, 1) := by decide +kernel
theorem dX5_shapeAt_5 : decode cX5_shapeAt 5 = .ok (.iload_n 2, 1) := by decide +kernel
theorem dX5_shapeAt_6 : decode cX5_shapeAt 6 = .ok (.invokevirtual 77, 3) := by decide +kernel
theorem dX5_shapeAt_9 : decode cX5_shapeAt 9 = .ok (.ifCond .ne 6, 3) := by decide +kernel
theorem dX5_shapeAt_12 : decode cX5_shapeAt 12 = .ok (.bipush (-6), 2) := by decide +kernel
theorem dX5_shapeAt_14 : decode cX5_shapeAt 14 = .ok (.ireturn, 1) := by decide +kernel
theorem dX5_shapeAt_15 : decode cX5_shapeAt 15 = .ok (.aload_n 0, 1) := by decide +kernel
theorem dX5_shapeAt_16 : decode cX5_shapeAt 16 = .ok (.getfield 19, 3) := by decide +kernel
theorem dX5_shapeAt_19 : decode cX5_shapeAt 19 = .ok (.iload_n 1, 1) := by decide +kernel
theorem dX5_shapeAt_20 : decode cX5_shapeAt 20 = .ok (.iload_n 2, 1) := by decide +kernel
theorem dX5_shapeAt_21 : decode cX5_shapeAt 21 = .ok (.invokevirtual 129, 3) := by decide +kernel
theorem dX5_shapeAt_24 : decode cX5_shapeAt 24 = .ok (.ifCond .eq 15, 3) := by decide +kernel
theorem dX5_shapeAt_27 : decode cX5_shapeAt 27 = .ok (.aload_n 0, 1) := by decide +kernel
theorem dX5_shapeAt_28 : decode cX5_shapeAt 28 = .ok (.getfield 19, 3) := by decide +kernel
theorem dX5_shapeAt_31 : decode cX5_shapeAt 31 = .ok (.iload_n 1, 1) := by decide +kernel
theorem dX5_shapeAt_32 : decode cX5_shapeAt 32 = .ok (.iload_n 2, 1) := by decide +kernel
theorem dX5_shapeAt_33 : decode cX5_shapeAt 33 = .ok (.invokevirtual 142, 3) := by decide +kernel
theorem dX5_shapeAt_36 : decode cX5_shapeAt 36 = .ok (.goto 9, 3) := by decide +kernel
theorem dX5_shapeAt_39 : decode cX5_shapeAt 39 = .ok (.aload_n 0, 1) := by decide +kernel
theorem dX5_shapeAt_40 : decode cX5_shapeAt 40 = .ok (.iload_n 1, 1) := by decide +kernel
theorem dX5_shapeAt_41 : decode cX5_shapeAt 41 = .ok (.iload_n 2, 1) := by decide +kernel
theorem dX5_shapeAt_42 : decode cX5_shapeAt 42 = .ok (.invokevirtual 123, 3) := by decide +kernel
theorem dX5_shapeAt_45 : decode cX5_shapeAt 45 = .ok (.ireturn, 1) := by decide +kernel
theorem dX5_faultsAt_0 : decode cX5_faultsAt 0 = .ok (.aload_n 0, 1) := by decide +kernel
theorem dX5_faultsAt_1 : decode cX5_faultsAt 1 = .ok (.getfield 19, 3) := by decide +kernel
theorem dX5_faultsAt_4 : decode cX5_faultsAt 4 = .ok (.iload_n 1, 1) := by decide +kernel
theorem dX5_faultsAt_5 : decode cX5_faultsAt 5 = .ok (.iload_n 2, 1) := by decide +kernel
theorem dX5_faultsAt_6 : decode cX5_faultsAt 6 = .ok (.invokevirtual 129, 3) := by decide +kernel
theorem dX5_faultsAt_9 : decode cX5_faultsAt 9 = .ok (.ifCond .ne 5, 3) := by decide +kernel
theorem dX5_faultsAt_12 : decode cX5_faultsAt 12 = .ok (.iconst 0, 1) := by decide +kernel
theorem dX5_faultsAt_13 : decode cX5_faultsAt 13 = .ok (.ireturn, 1) := by decide +kernel
theorem dX5_faultsAt_14 : decode cX5_faultsAt 14 = .ok (.aload_n 0, 1) := by decide +kernel
theorem dX5_faultsAt_15 : decode cX5_faultsAt 15 = .ok (.getfield 12, 3) := by decide +kernel
theorem dX5_faultsAt_18 : decode cX5_faultsAt 18 = .ok (.aload_n 0, 1) := by decide +kernel
theorem dX5_faultsAt_19 : decode cX5_faultsAt 19 = .ok (.getfield 19, 3) := by decide +kernel
theorem dX5_faultsAt_22 : decode cX5_faultsAt 22 = .ok (.iload_n 1, 1) := by decide +kernel
theorem dX5_faultsAt_23 : decode cX5_faultsAt 23 = .ok (.iload_n 2, 1) := by decide +kernel
theorem dX5_faultsAt_24 : decode cX5_faultsAt 24 = .ok (.invokevirtual 142, 3) := by decide +kernel
theorem dX5_faultsAt_27 : decode cX5_faultsAt 27 = .ok (.invokevirtual 148, 3) := by decide +kernel
theorem dX5_faultsAt_30 : decode cX5_faultsAt 30 = .ok (.aload_n 0, 1) := by decide +kernel
theorem dX5_faultsAt_31 : decode cX5_faultsAt 31 = .ok (.iload_n 1, 1) := by decide +kernel
theorem dX5_faultsAt_32 : decode cX5_faultsAt 32 = .ok (.iload_n 2, 1) := by decide +kernel
theorem dX5_faultsAt_33 : decode cX5_faultsAt 33 = .ok (.invokevirtual 223, 3) := by decide +kernel
theorem dX5_faultsAt_36 : decode cX5_faultsAt 36 = .ok (.ixor, 1) := by decide +kernel
theorem dX5_faultsAt_37 : decode cX5_faultsAt 37 = .ok (.invokestatic 114, 3) := by decide +kernel
theorem dX5_faultsAt_40 : decode cX5_faultsAt 40 = .ok (.ireturn, 1) := by decide +kernel
theorem dX5_isReshapedBy_0 : decode cX5_isReshapedBy 0 = .ok (.aload_n 0, 1) := by decide +kernel
theorem dX5_isReshapedBy_1 : decode cX5_isReshapedBy 1 = .ok (.getfield 19, 3) := by decide +kernel
theorem dX5_isReshapedBy_4 : decode cX5_isReshapedBy 4 = .ok (.iload_n 1, 1) := by decide +kernel
theorem dX5_isReshapedBy_5 : decode cX5_isReshapedBy 5 = .ok (.iload_n 2, 1) := by decide +kernel
theorem dX5_isReshapedBy_6 : decode cX5_isReshapedBy 6 = .ok (.invokevirtual 77, 3) := by decide +kernel
theorem dX5_isReshapedBy_9 : decode cX5_isReshapedBy 9 = .ok (.ifCond .eq 15, 3) := by decide +kernel
theorem dX5_isReshapedBy_12 : decode cX5_isReshapedBy 12 = .ok (.aload_n 0, 1) := by decide +kernel
theorem dX5_isReshapedBy_13 : decode cX5_isReshapedBy 13 = .ok (.getfield 19, 3) := by decide +kernel
theorem dX5_isReshapedBy_16 : decode cX5_isReshapedBy 16 = .ok (.iload_n 1, 1) := by decide +kernel
theorem dX5_isReshapedBy_17 : decode cX5_isReshapedBy 17 = .ok (.iload_n 2, 1) := by decide +kernel
theorem dX5_isReshapedBy_18 : decode cX5_isReshapedBy 18 = .ok (.invokevirtual 129, 3) := by decide +kernel
theorem dX5_isReshapedBy_21 : decode cX5_isReshapedBy 21 = .ok (.ifCond .eq 5, 3) := by decide +kernel
theorem dX5_isReshapedBy_24 : decode cX5_isReshapedBy 24 = .ok (.iconst 0, 1) := by decide +kernel
theorem dX5_isReshapedBy_25 : decode cX5_isReshapedBy 25 = .ok (.ireturn, 1) := by decide +kernel
theorem dX5_isReshapedBy_26 : decode cX5_isReshapedBy 26 = .ok (.aload_n 0, 1) := by decide +kernel
theorem dX5_isReshapedBy_27 : decode cX5_isReshapedBy 27 = .ok (.getfield 19, 3) := by decide +kernel
theorem dX5_isReshapedBy_30 : decode cX5_isReshapedBy 30 = .ok (.iload_n 1, 1) := by decide +kernel
theorem dX5_isReshapedBy_31 : decode cX5_isReshapedBy 31 = .ok (.iload_n 2, 1) := by decide +kernel
theorem dX5_isReshapedBy_32 : decode cX5_isReshapedBy 32 = .ok (.invokevirtual 111, 3) := by decide +kernel
theorem dX5_isReshapedBy_35 : decode cX5_isReshapedBy 35 = .ok (.istore 4, 2) := by decide +kernel
theorem dX5_isReshapedBy_37 : decode cX5_isReshapedBy 37 = .ok (.iload 4, 2) := by decide +kernel
theorem dX5_isReshapedBy_39 : decode cX5_isReshapedBy 39 = .ok (.invokestatic 220, 3) := by decide +kernel
theorem dX5_isReshapedBy_42 : decode cX5_isReshapedBy 42 = .ok (.iload 4, 2) := by decide +kernel
theorem dX5_isReshapedBy_44 : decode cX5_isReshapedBy 44 = .ok (.iload_n 3, 1) := by decide +kernel
theorem dX5_isReshapedBy_45 : decode cX5_isReshapedBy 45 = .ok (.ixor, 1) := by decide +kernel
theorem dX5_isReshapedBy_46 : decode cX5_isReshapedBy 46 = .ok (.invokestatic 220, 3) := by decide +kernel
theorem dX5_isReshapedBy_49 : decode cX5_isReshapedBy 49 = .ok (.if_icmp .eq 7, 3) := by decide +kernel
theorem dX5_isReshapedBy_52 : decode cX5_isReshapedBy 52 = .ok (.iconst 1, 1) := by decide +kernel
theorem dX5_isReshapedBy_53 : decode cX5_isReshapedBy 53 = .ok (.goto 4, 3) := by decide +kernel
theorem dX5_isReshapedBy_56 : decode cX5_isReshapedBy 56 = .ok (.iconst 0, 1) := by decide +kernel
theorem dX5_isReshapedBy_57 : decode cX5_isReshapedBy 57 = .ok (.ireturn, 1) := by decide +kernel
theorem dX5_reshapedByOutside_0 : decode cX5_reshapedByOutside 0 = .ok (.iconst 0, 1) := by decide +kernel
theorem dX5_reshapedByOutside_1 : decode cX5_reshapedByOutside 1 = .ok (.istore_n 1, 1) := by decide +kernel
theorem dX5_reshapedByOutside_2 : decode cX5_reshapedByOutside 2 = .ok (.iconst 0, 1) := by decide +kernel
theorem dX5_reshapedByOutside_3 : decode cX5_reshapedByOutside 3 = .ok (.istore_n 2, 1) := by decide +kernel
theorem dX5_reshapedByOutside_4 : decode cX5_reshapedByOutside 4 = .ok (.iload_n 2, 1) := by decide +kernel
theorem dX5_reshapedByOutside_5 : decode cX5_reshapedByOutside 5 = .ok (.aload_n 0, 1) := by decide +kernel
theorem dX5_reshapedByOutside_6 : decode cX5_reshapedByOutside 6 = .ok (.getfield 19, 3) := by decide +kernel
theorem dX5_reshapedByOutside_9 : decode cX5_reshapedByOutside 9 = .ok (.getfield 95, 3) := by decide +kernel
theorem dX5_reshapedByOutside_12 : decode cX5_reshapedByOutside 12 = .ok (.if_icmp .ge 49, 3) := by decide +kernel
theorem dX5_reshapedByOutside_15 : decode cX5_reshapedByOutside 15 = .ok (.iconst 0, 1) := by decide +kernel
theorem dX5_reshapedByOutside_16 : decode cX5_reshapedByOutside 16 = .ok (.istore_n 3, 1) := by decide +kernel
theorem dX5_reshapedByOutside_17 : decode cX5_reshapedByOutside 17 = .ok (.iload_n 3, 1) := by decide +kernel
theorem dX5_reshapedByOutside_18 : decode cX5_reshapedByOutside 18 = .ok (.aload_n 0, 1) := by decide +kernel
theorem dX5_reshapedByOutside_19 : decode cX5_reshapedByOutside 19 = .ok (.getfield 19, 3) := by decide +kernel
theorem dX5_reshapedByOutside_22 : decode cX5_reshapedByOutside 22 = .ok (.getfield 99, 3) := by decide +kernel
theorem dX5_reshapedByOutside_25 : decode cX5_reshapedByOutside 25 = .ok (.if_icmp .ge 30, 3) := by decide +kernel
theorem dX5_reshapedByOutside_28 : decode cX5_reshapedByOutside 28 = .ok (.aload_n 0, 1) := by decide +kernel
theorem dX5_reshapedByOutside_29 : decode cX5_reshapedByOutside 29 = .ok (.iload_n 2, 1) := by decide +kernel
theorem dX5_reshapedByOutside_30 : decode cX5_reshapedByOutside 30 = .ok (.iload_n 3, 1) := by decide +kernel
theorem dX5_reshapedByOutside_31 : decode cX5_reshapedByOutside 31 = .ok (.aload_n 0, 1) := by decide +kernel
theorem dX5_reshapedByOutside_32 : decode cX5_reshapedByOutside 32 = .ok (.getfield 19, 3) := by decide +kernel
theorem dX5_reshapedByOutside_35 : decode cX5_reshapedByOutside 35 = .ok (.iload_n 2, 1) := by decide +kernel
theorem dX5_reshapedByOutside_36 : decode cX5_reshapedByOutside 36 = .ok (.iload_n 3, 1) := by decide +kernel
theorem dX5_reshapedByOutside_37 : decode cX5_reshapedByOutside 37 = .ok (.invokevirtual 187, 3) := by decide +kernel
theorem dX5_reshapedByOutside_40 : decode cX5_reshapedByOutside 40 = .ok (.invokevirtual 226, 3) := by decide +kernel
theorem dX5_reshapedByOutside_43 : decode cX5_reshapedByOutside 43 = .ok (.ifCond .eq 6, 3) := by decide +kernel
theorem dX5_reshapedByOutside_46 : decode cX5_reshapedByOutside 46 = .ok (.iinc 1 1, 3) := by decide +kernel
theorem dX5_reshapedByOutside_49 : decode cX5_reshapedByOutside 49 = .ok (.iinc 3 1, 3) := by decide +kernel
theorem dX5_reshapedByOutside_52 : decode cX5_reshapedByOutside 52 = .ok (.goto (-35), 3) := by decide +kernel
theorem dX5_reshapedByOutside_55 : decode cX5_reshapedByOutside 55 = .ok (.iinc 2 1, 3) := by decide +kernel
theorem dX5_reshapedByOutside_58 : decode cX5_reshapedByOutside 58 = .ok (.goto (-54), 3) := by decide +kernel
theorem dX5_reshapedByOutside_61 : decode cX5_reshapedByOutside 61 = .ok (.iload_n 1, 1) := by decide +kernel
theorem dX5_reshapedByOutside_62 : decode cX5_reshapedByOutside 62 = .ok (.ireturn, 1) := by decide +kernel
theorem dX5_reshapedByTile_0 : decode cX5_reshapedByTile 0 = .ok (.iconst 0, 1) := by decide +kernel
theorem dX5_reshapedByTile_1 : decode cX5_reshapedByTile 1 = .ok (.istore_n 3, 1) := by decide +kernel
theorem dX5_reshapedByTile_2 : decode cX5_reshapedByTile 2 = .ok (.iconst 0, 1) := by decide +kernel
theorem dX5_reshapedByTile_3 : decode cX5_reshapedByTile 3 = .ok (.istore 4, 2) := by decide +kernel
theorem dX5_reshapedByTile_5 : decode cX5_reshapedByTile 5 = .ok (.iload 4, 2) := by decide +kernel
theorem dX5_reshapedByTile_7 : decode cX5_reshapedByTile 7 = .ok (.bipush 8, 2) := by decide +kernel
theorem dX5_reshapedByTile_9 : decode cX5_reshapedByTile 9 = .ok (.if_icmp .ge 67, 3) := by decide +kernel
theorem dX5_reshapedByTile_12 : decode cX5_reshapedByTile 12 = .ok (.iload_n 1, 1) := by decide +kernel
theorem dX5_reshapedByTile_13 : decode cX5_reshapedByTile 13 = .ok (.iload 4, 2) := by decide +kernel
theorem dX5_reshapedByTile_15 : decode cX5_reshapedByTile 15 = .ok (.invokestatic 178, 3) := by decide +kernel
theorem dX5_reshapedByTile_18 : decode cX5_reshapedByTile 18 = .ok (.iadd, 1) := by decide +kernel
theorem dX5_reshapedByTile_19 : decode cX5_reshapedByTile 19 = .ok (.istore 5, 2) := by decide +kernel
theorem dX5_reshapedByTile_21 : decode cX5_reshapedByTile 21 = .ok (.iload_n 2, 1) := by decide +kernel
theorem dX5_reshapedByTile_22 : decode cX5_reshapedByTile 22 = .ok (.iload 4, 2) := by decide +kernel
theorem dX5_reshapedByTile_24 : decode cX5_reshapedByTile 24 = .ok (.invokestatic 181, 3) := by decide +kernel
theorem dX5_reshapedByTile_27 : decode cX5_reshapedByTile 27 = .ok (.iadd, 1) := by decide +kernel
theorem dX5_reshapedByTile_28 : decode cX5_reshapedByTile 28 = .ok (.istore 6, 2) := by decide +kernel
theorem dX5_reshapedByTile_30 : decode cX5_reshapedByTile 30 = .ok (.iconst 1, 1) := by decide +kernel
theorem dX5_reshapedByTile_31 : decode cX5_reshapedByTile 31 = .ok (.iload 4, 2) := by decide +kernel
theorem dX5_reshapedByTile_33 : decode cX5_reshapedByTile 33 = .ok (.ishl, 1) := by decide +kernel
theorem dX5_reshapedByTile_34 : decode cX5_reshapedByTile 34 = .ok (.iconst 4, 1) := by decide +kernel
theorem dX5_reshapedByTile_35 : decode cX5_reshapedByTile 35 = .ok (.invokestatic 216, 3) := by decide +kernel
theorem dX5_reshapedByTile_38 : decode cX5_reshapedByTile 38 = .ok (.istore 7, 2) := by decide +kernel
theorem dX5_reshapedByTile_40 : decode cX5_reshapedByTile 40 = .ok (.aload_n 0, 1) := by decide +kernel
theorem dX5_reshapedByTile_41 : decode cX5_reshapedByTile 41 = .ok (.getfield 19, 3) := by decide +kernel
theorem dX5_reshapedByTile_44 : decode cX5_reshapedByTile 44 = .ok (.iload 5, 2) := by decide +kernel
theorem dX5_reshapedByTile_46 : decode cX5_reshapedByTile 46 = .ok (.iload 6, 2) := by decide +kernel
theorem dX5_reshapedByTile_48 : decode cX5_reshapedByTile 48 = .ok (.invokevirtual 73, 3) := by decide +kernel
theorem dX5_reshapedByTile_51 : decode cX5_reshapedByTile 51 = .ok (.ifCond .eq 19, 3) := by decide +kernel
theorem dX5_reshapedByTile_54 : decode cX5_reshapedByTile 54 = .ok (.aload_n 0, 1) := by decide +kernel
theorem dX5_reshapedByTile_55 : decode cX5_reshapedByTile 55 = .ok (.iload 5, 2) := by decide +kernel
theorem dX5_reshapedByTile_57 : decode cX5_reshapedByTile 57 = .ok (.iload 6, 2) := by decide +kernel
theorem dX5_reshapedByTile_59 : decode cX5_reshapedByTile 59 = .ok (.iload 7, 2) := by decide +kernel
theorem dX5_reshapedByTile_61 : decode cX5_reshapedByTile 61 = .ok (.invokevirtual 226, 3) := by decide +kernel
theorem dX5_reshapedByTile_64 : decode cX5_reshapedByTile 64 = .ok (.ifCond .eq 6, 3) := by decide +kernel
theorem dX5_reshapedByTile_67 : decode cX5_reshapedByTile 67 = .ok (.iinc 3 1, 3) := by decide +kernel
theorem dX5_reshapedByTile_70 : decode cX5_reshapedByTile 70 = .ok (.iinc 4 1, 3) := by decide +kernel
theorem dX5_reshapedByTile_73 : decode cX5_reshapedByTile 73 = .ok (.goto (-68), 3) := by decide +kernel
theorem dX5_reshapedByTile_76 : decode cX5_reshapedByTile 76 = .ok (.iload_n 3, 1) := by decide +kernel
theorem dX5_reshapedByTile_77 : decode cX5_reshapedByTile 77 = .ok (.ireturn, 1) := by decide +kernel
theorem dX5_turnOnceFromSpare_0 : decode cX5_turnOnceFromSpare 0 = .ok (.aload_n 0, 1) := by decide +kernel
theorem dX5_turnOnceFromSpare_1 : decode cX5_turnOnceFromSpare 1 = .ok (.getfield 19, 3) := by decide +kernel
theorem dX5_turnOnceFromSpare_4 : decode cX5_turnOnceFromSpare 4 = .ok (.aload_n 0, 1) := by decide +kernel
theorem dX5_turnOnceFromSpare_5 : decode cX5_turnOnceFromSpare 5 = .ok (.getfield 23, 3) := by decide +kernel
theorem dX5_turnOnceFromSpare_8 : decode cX5_turnOnceFromSpare 8 = .ok (.getfield 99, 3) := by decide +kernel
theorem dX5_turnOnceFromSpare_11 : decode cX5_turnOnceFromSpare 11 = .ok (.aload_n 0, 1) := by decide +kernel
theorem dX5_turnOnceFromSpare_12 : decode cX5_turnOnceFromSpare 12 = .ok (.getfield 23, 3) := by decide +kernel
theorem dX5_turnOnceFromSpare_15 : decode cX5_turnOnceFromSpare 15 = .ok (.getfield 95, 3) := by decide +kernel
theorem dX5_turnOnceFromSpare_18 : decode cX5_turnOnceFromSpare 18 = .ok (.invokevirtual 62, 3) := by decide +kernel
theorem dX5_turnOnceFromSpare_21 : decode cX5_turnOnceFromSpare 21 = .ok (.iconst 0, 1) := by decide +kernel
theorem dX5_turnOnceFromSpare_22 : decode cX5_turnOnceFromSpare 22 = .ok (.istore_n 1, 1) := by decide +kernel
theorem dX5_turnOnceFromSpare_23 : decode cX5_turnOnceFromSpare 23 = .ok (.iload_n 1, 1) := by decide +kernel
theorem dX5_turnOnceFromSpare_24 : decode cX5_turnOnceFromSpare 24 = .ok (.aload_n 0, 1) := by decide +kernel
theorem dX5_turnOnceFromSpare_25 : decode cX5_turnOnceFromSpare 25 = .ok (.getfield 23, 3) := by decide +kernel
theorem dX5_turnOnceFromSpare_28 : decode cX5_turnOnceFromSpare 28 = .ok (.getfield 95, 3) := by decide +kernel
theorem dX5_turnOnceFromSpare_31 : decode cX5_turnOnceFromSpare 31 = .ok (.if_icmp .ge 97, 3) := by decide +kernel
theorem dX5_turnOnceFromSpare_34 : decode cX5_turnOnceFromSpare 34 = .ok (.iconst 0, 1) := by decide +kernel
theorem dX5_turnOnceFromSpare_35 : decode cX5_turnOnceFromSpare 35 = .ok (.istore_n 2, 1) := by decide +kernel
theorem dX5_turnOnceFromSpare_36 : decode cX5_turnOnceFromSpare 36 = .ok (.iload_n 2, 1) := by decide +kernel
theorem dX5_turnOnceFromSpare_37 : decode cX5_turnOnceFromSpare 37 = .ok (.aload_n 0, 1) := by decide +kernel
theorem dX5_turnOnceFromSpare_38 : decode cX5_turnOnceFromSpare 38 = .ok (.getfield 23, 3) := by decide +kernel
theorem dX5_turnOnceFromSpare_41 : decode cX5_turnOnceFromSpare 41 = .ok (.getfield 99, 3) := by decide +kernel
theorem dX5_turnOnceFromSpare_44 : decode cX5_turnOnceFromSpare 44 = .ok (.if_icmp .ge 78, 3) := by decide +kernel
theorem dX5_turnOnceFromSpare_47 : decode cX5_turnOnceFromSpare 47 = .ok (.aload_n 0, 1) := by decide +kernel
theorem dX5_turnOnceFromSpare_48 : decode cX5_turnOnceFromSpare 48 = .ok (.getfield 23, 3) := by decide +kernel
theorem dX5_turnOnceFromSpare_51 : decode cX5_turnOnceFromSpare 51 = .ok (.getfield 95, 3) := by decide +kernel
theorem dX5_turnOnceFromSpare_54 : decode cX5_turnOnceFromSpare 54 = .ok (.iconst 1, 1) := by decide +kernel
theorem dX5_turnOnceFromSpare_55 : decode cX5_turnOnceFromSpare 55 = .ok (.isub, 1) := by decide +kernel
theorem dX5_turnOnceFromSpare_56 : decode cX5_turnOnceFromSpare 56 = .ok (.iload_n 1, 1) := by decide +kernel
theorem dX5_turnOnceFromSpare_57 : decode cX5_turnOnceFromSpare 57 = .ok (.isub, 1) := by decide +kernel
theorem dX5_turnOnceFromSpare_58 : decode cX5_turnOnceFromSpare 58 = .ok (.istore_n 3, 1) := by decide +kernel
theorem dX5_turnOnceFromSpare_59 : decode cX5_turnOnceFromSpare 59 = .ok (.aload_n 0, 1) := by decide +kernel
theorem dX5_turnOnceFromSpare_60 : decode cX5_turnOnceFromSpare 60 = .ok (.getfield 19, 3) := by decide +kernel
theorem dX5_turnOnceFromSpare_63 : decode cX5_turnOnceFromSpare 63 = .ok (.iload_n 2, 1) := by decide +kernel
theorem dX5_turnOnceFromSpare_64 : decode cX5_turnOnceFromSpare 64 = .ok (.iload_n 3, 1) := by decide +kernel
theorem dX5_turnOnceFromSpare_65 : decode cX5_turnOnceFromSpare 65 = .ok (.aload_n 0, 1) := by decide +kernel
theorem dX5_turnOnceFromSpare_66 : decode cX5_turnOnceFromSpare 66 = .ok (.getfield 23, 3) := by decide +kernel
theorem dX5_turnOnceFromSpare_69 : decode cX5_turnOnceFromSpare 69 = .ok (.iload_n 1, 1) := by decide +kernel
theorem dX5_turnOnceFromSpare_70 : decode cX5_turnOnceFromSpare 70 = .ok (.iload_n 2, 1) := by decide +kernel
theorem dX5_turnOnceFromSpare_71 : decode cX5_turnOnceFromSpare 71 = .ok (.invokevirtual 77, 3) := by decide +kernel
theorem dX5_turnOnceFromSpare_74 : decode cX5_turnOnceFromSpare 74 = .ok (.invokevirtual 84, 3) := by decide +kernel
theorem dX5_turnOnceFromSpare_77 : decode cX5_turnOnceFromSpare 77 = .ok (.pop, 1) := by decide +kernel
theorem dX5_turnOnceFromSpare_78 : decode cX5_turnOnceFromSpare 78 = .ok (.aload_n 0, 1) := by decide +kernel
theorem dX5_turnOnceFromSpare_79 : decode cX5_turnOnceFromSpare 79 = .ok (.getfield 23, 3) := by decide +kernel
theorem dX5_turnOnceFromSpare_82 : decode cX5_turnOnceFromSpare 82 = .ok (.iload_n 1, 1) := by decide +kernel
theorem dX5_turnOnceFromSpare_83 : decode cX5_turnOnceFromSpare 83 = .ok (.iload_n 2, 1) := by decide +kernel
theorem dX5_turnOnceFromSpare_84 : decode cX5_turnOnceFromSpare 84 = .ok (.invokevirtual 129, 3) := by decide +kernel
theorem dX5_turnOnceFromSpare_87 : decode cX5_turnOnceFromSpare 87 = .ok (.ifCond .eq 29, 3) := by decide +kernel
theorem dX5_turnOnceFromSpare_90 : decode cX5_turnOnceFromSpare 90 = .ok (.aload_n 0, 1) := by decide +kernel
theorem dX5_turnOnceFromSpare_91 : decode cX5_turnOnceFromSpare 91 = .ok (.getfield 19, 3) := by decide +kernel
theorem dX5_turnOnceFromSpare_94 : decode cX5_turnOnceFromSpare 94 = .ok (.iload_n 2, 1) := by decide +kernel
theorem dX5_turnOnceFromSpare_95 : decode cX5_turnOnceFromSpare 95 = .ok (.iload_n 3, 1) := by decide +kernel
theorem dX5_turnOnceFromSpare_96 : decode cX5_turnOnceFromSpare 96 = .ok (.aload_n 0, 1) := by decide +kernel
theorem dX5_turnOnceFromSpare_97 : decode cX5_turnOnceFromSpare 97 = .ok (.getfield 12, 3) := by decide +kernel
theorem dX5_turnOnceFromSpare_100 : decode cX5_turnOnceFromSpare 100 = .ok (.aload_n 0, 1) := by decide +kernel
theorem dX5_turnOnceFromSpare_101 : decode cX5_turnOnceFromSpare 101 = .ok (.getfield 23, 3) := by decide +kernel
theorem dX5_turnOnceFromSpare_104 : decode cX5_turnOnceFromSpare 104 = .ok (.iload_n 1, 1) := by decide +kernel
theorem dX5_turnOnceFromSpare_105 : decode cX5_turnOnceFromSpare 105 = .ok (.iload_n 2, 1) := by decide +kernel
theorem dX5_turnOnceFromSpare_106 : decode cX5_turnOnceFromSpare 106 = .ok (.invokevirtual 142, 3) := by decide +kernel
theorem dX5_turnOnceFromSpare_109 : decode cX5_turnOnceFromSpare 109 = .ok (.iconst 1, 1) := by decide +kernel
theorem dX5_turnOnceFromSpare_110 : decode cX5_turnOnceFromSpare 110 = .ok (.invokevirtual 154, 3) := by decide +kernel
theorem dX5_turnOnceFromSpare_113 : decode cX5_turnOnceFromSpare 113 = .ok (.invokevirtual 138, 3) := by decide +kernel
theorem dX5_turnOnceFromSpare_116 : decode cX5_turnOnceFromSpare 116 = .ok (.iinc 2 1, 3) := by decide +kernel
theorem dX5_turnOnceFromSpare_119 : decode cX5_turnOnceFromSpare 119 = .ok (.goto (-83), 3) := by decide +kernel
theorem dX5_turnOnceFromSpare_122 : decode cX5_turnOnceFromSpare 122 = .ok (.iinc 1 1, 3) := by decide +kernel
theorem dX5_turnOnceFromSpare_125 : decode cX5_turnOnceFromSpare 125 = .ok (.goto (-102), 3) := by decide +kernel
theorem dX5_turnOnceFromSpare_128 : decode cX5_turnOnceFromSpare 128 = .ok (.return_, 1) := by decide +kernel
theorem dJ6_bitCount_0f7a4_0 : decode cJ6_bitCount_0f7a4 0 = .ok (.iload_n 0, 1) := by decide +kernel
theorem dJ6_bitCount_0f7a4_1 : decode cJ6_bitCount_0f7a4 1 = .ok (.iload_n 0, 1) := by decide +kernel
theorem dJ6_bitCount_0f7a4_2 : decode cJ6_bitCount_0f7a4 2 = .ok (.iconst 1, 1) := by decide +kernel
theorem dJ6_bitCount_0f7a4_3 : decode cJ6_bitCount_0f7a4 3 = .ok (.iushr, 1) := by decide +kernel
theorem dJ6_bitCount_0f7a4_4 : decode cJ6_bitCount_0f7a4 4 = .ok (.ldc_w 265, 3) := by decide +kernel
theorem dJ6_bitCount_0f7a4_7 : decode cJ6_bitCount_0f7a4 7 = .ok (.iand, 1) := by decide +kernel
theorem dJ6_bitCount_0f7a4_8 : decode cJ6_bitCount_0f7a4 8 = .ok (.isub, 1) := by decide +kernel
theorem dJ6_bitCount_0f7a4_9 : decode cJ6_bitCount_0f7a4 9 = .ok (.istore_n 0, 1) := by decide +kernel
theorem dJ6_bitCount_0f7a4_10 : decode cJ6_bitCount_0f7a4 10 = .ok (.iload_n 0, 1) := by decide +kernel
theorem dJ6_bitCount_0f7a4_11 : decode cJ6_bitCount_0f7a4 11 = .ok (.ldc_w 266, 3) := by decide +kernel
theorem dJ6_bitCount_0f7a4_14 : decode cJ6_bitCount_0f7a4 14 = .ok (.iand, 1) := by decide +kernel
theorem dJ6_bitCount_0f7a4_15 : decode cJ6_bitCount_0f7a4 15 = .ok (.iload_n 0, 1) := by decide +kernel
theorem dJ6_bitCount_0f7a4_16 : decode cJ6_bitCount_0f7a4 16 = .ok (.iconst 2, 1) := by decide +kernel
theorem dJ6_bitCount_0f7a4_17 : decode cJ6_bitCount_0f7a4 17 = .ok (.iushr, 1) := by decide +kernel
theorem dJ6_bitCount_0f7a4_18 : decode cJ6_bitCount_0f7a4 18 = .ok (.ldc_w 266, 3) := by decide +kernel
theorem dJ6_bitCount_0f7a4_21 : decode cJ6_bitCount_0f7a4 21 = .ok (.iand, 1) := by decide +kernel
theorem dJ6_bitCount_0f7a4_22 : decode cJ6_bitCount_0f7a4 22 = .ok (.iadd, 1) := by decide +kernel
theorem dJ6_bitCount_0f7a4_23 : decode cJ6_bitCount_0f7a4 23 = .ok (.istore_n 0, 1) := by decide +kernel
theorem dJ6_bitCount_0f7a4_24 : decode cJ6_bitCount_0f7a4 24 = .ok (.iload_n 0, 1) := by decide +kernel
theorem dJ6_bitCount_0f7a4_25 : decode cJ6_bitCount_0f7a4 25 = .ok (.iload_n 0, 1) := by decide +kernel
theorem dJ6_bitCount_0f7a4_26 : decode cJ6_bitCount_0f7a4 26 = .ok (.iconst 4, 1) := by decide +kernel
theorem dJ6_bitCount_0f7a4_27 : decode cJ6_bitCount_0f7a4 27 = .ok (.iushr, 1) := by decide +kernel
theorem dJ6_bitCount_0f7a4_28 : decode cJ6_bitCount_0f7a4 28 = .ok (.iadd, 1) := by decide +kernel
theorem dJ6_bitCount_0f7a4_29 : decode cJ6_bitCount_0f7a4 29 = .ok (.ldc_w 267, 3) := by decide +kernel
theorem dJ6_bitCount_0f7a4_32 : decode cJ6_bitCount_0f7a4 32 = .ok (.iand, 1) := by decide +kernel
theorem dJ6_bitCount_0f7a4_33 : decode cJ6_bitCount_0f7a4 33 = .ok (.istore_n 0, 1) := by decide +kernel
theorem dJ6_bitCount_0f7a4_34 : decode cJ6_bitCount_0f7a4 34 = .ok (.iload_n 0, 1) := by decide +kernel
theorem dJ6_bitCount_0f7a4_35 : decode cJ6_bitCount_0f7a4 35 = .ok (.iload_n 0, 1) := by decide +kernel
theorem dJ6_bitCount_0f7a4_36 : decode cJ6_bitCount_0f7a4 36 = .ok (.bipush 8, 2) := by decide +kernel
theorem dJ6_bitCount_0f7a4_38 : decode cJ6_bitCount_0f7a4 38 = .ok (.iushr, 1) := by decide +kernel
theorem dJ6_bitCount_0f7a4_39 : decode cJ6_bitCount_0f7a4 39 = .ok (.iadd, 1) := by decide +kernel
theorem dJ6_bitCount_0f7a4_40 : decode cJ6_bitCount_0f7a4 40 = .ok (.istore_n 0, 1) := by decide +kernel
theorem dJ6_bitCount_0f7a4_41 : decode cJ6_bitCount_0f7a4 41 = .ok (.iload_n 0, 1) := by decide +kernel
theorem dJ6_bitCount_0f7a4_42 : decode cJ6_bitCount_0f7a4 42 = .ok (.iload_n 0, 1) := by decide +kernel
theorem dJ6_bitCount_0f7a4_43 : decode cJ6_bitCount_0f7a4 43 = .ok (.bipush 16, 2) := by decide +kernel
theorem dJ6_bitCount_0f7a4_45 : decode cJ6_bitCount_0f7a4 45 = .ok (.iushr, 1) := by decide +kernel
theorem dJ6_bitCount_0f7a4_46 : decode cJ6_bitCount_0f7a4 46 = .ok (.iadd, 1) := by decide +kernel
theorem dJ6_bitCount_0f7a4_47 : decode cJ6_bitCount_0f7a4 47 = .ok (.istore_n 0, 1) := by decide +kernel
theorem dJ6_bitCount_0f7a4_48 : decode cJ6_bitCount_0f7a4 48 = .ok (.iload_n 0, 1) := by decide +kernel
theorem dJ6_bitCount_0f7a4_49 : decode cJ6_bitCount_0f7a4 49 = .ok (.bipush 63, 2) := by decide +kernel
theorem dJ6_bitCount_0f7a4_51 : decode cJ6_bitCount_0f7a4 51 = .ok (.iand, 1) := by decide +kernel
theorem dJ6_bitCount_0f7a4_52 : decode cJ6_bitCount_0f7a4 52 = .ok (.ireturn, 1) := by decide +kernel
theorem dJ13_bitCount_95d88_0 : decode cJ13_bitCount_95d88 0 = .ok (.lload_n 0, 1) := by decide +kernel
theorem dJ13_bitCount_95d88_1 : decode cJ13_bitCount_95d88 1 = .ok (.lload_n 0, 1) := by decide +kernel
theorem dJ13_bitCount_95d88_2 : decode cJ13_bitCount_95d88 2 = .ok (.iconst 1, 1) := by decide +kernel
theorem dJ13_bitCount_95d88_3 : decode cJ13_bitCount_95d88 3 = .ok (.lushr, 1) := by decide +kernel
theorem dJ13_bitCount_95d88_4 : decode cJ13_bitCount_95d88 4 = .ok (.ldc2_w 314, 3) := by decide +kernel
theorem dJ13_bitCount_95d88_7 : decode cJ13_bitCount_95d88 7 = .ok (.land, 1) := by decide +kernel
theorem dJ13_bitCount_95d88_8 : decode cJ13_bitCount_95d88 8 = .ok (.lsub, 1) := by decide +kernel
theorem dJ13_bitCount_95d88_9 : decode cJ13_bitCount_95d88 9 = .ok (.lstore_n 0, 1) := by decide +kernel
theorem dJ13_bitCount_95d88_10 : decode cJ13_bitCount_95d88 10 = .ok (.lload_n 0, 1) := by decide +kernel
theorem dJ13_bitCount_95d88_11 : decode cJ13_bitCount_95d88 11 = .ok (.ldc2_w 316, 3) := by decide +kernel
theorem dJ13_bitCount_95d88_14 : decode cJ13_bitCount_95d88 14 = .ok (.land, 1) := by decide +kernel
theorem dJ13_bitCount_95d88_15 : decode cJ13_bitCount_95d88 15 = .ok (.lload_n 0, 1) := by decide +kernel
theorem dJ13_bitCount_95d88_16 : decode cJ13_bitCount_95d88 16 = .ok (.iconst 2, 1) := by decide +kernel
theorem dJ13_bitCount_95d88_17 : decode cJ13_bitCount_95d88 17 = .ok (.lushr, 1) := by decide +kernel
theorem dJ13_bitCount_95d88_18 : decode cJ13_bitCount_95d88 18 = .ok (.ldc2_w 316, 3) := by decide +kernel
theorem dJ13_bitCount_95d88_21 : decode cJ13_bitCount_95d88 21 = .ok (.land, 1) := by decide +kernel
theorem dJ13_bitCount_95d88_22 : decode cJ13_bitCount_95d88 22 = .ok (.ladd, 1) := by decide +kernel
theorem dJ13_bitCount_95d88_23 : decode cJ13_bitCount_95d88 23 = .ok (.lstore_n 0, 1) := by decide +kernel
theorem dJ13_bitCount_95d88_24 : decode cJ13_bitCount_95d88 24 = .ok (.lload_n 0, 1) := by decide +kernel
theorem dJ13_bitCount_95d88_25 : decode cJ13_bitCount_95d88 25 = .ok (.lload_n 0, 1) := by decide +kernel
theorem dJ13_bitCount_95d88_26 : decode cJ13_bitCount_95d88 26 = .ok (.iconst 4, 1) := by decide +kernel
theorem dJ13_bitCount_95d88_27 : decode cJ13_bitCount_95d88 27 = .ok (.lushr, 1) := by decide +kernel
theorem dJ13_bitCount_95d88_28 : decode cJ13_bitCount_95d88 28 = .ok (.ladd, 1) := by decide +kernel
theorem dJ13_bitCount_95d88_29 : decode cJ13_bitCount_95d88 29 = .ok (.ldc2_w 318, 3) := by decide +kernel
theorem dJ13_bitCount_95d88_32 : decode cJ13_bitCount_95d88 32 = .ok (.land, 1) := by decide +kernel
theorem dJ13_bitCount_95d88_33 : decode cJ13_bitCount_95d88 33 = .ok (.lstore_n 0, 1) := by decide +kernel
theorem dJ13_bitCount_95d88_34 : decode cJ13_bitCount_95d88 34 = .ok (.lload_n 0, 1) := by decide +kernel
theorem dJ13_bitCount_95d88_35 : decode cJ13_bitCount_95d88 35 = .ok (.lload_n 0, 1) := by decide +kernel
theorem dJ13_bitCount_95d88_36 : decode cJ13_bitCount_95d88 36 = .ok (.bipush 8, 2) := by decide +kernel
theorem dJ13_bitCount_95d88_38 : decode cJ13_bitCount_95d88 38 = .ok (.lushr, 1) := by decide +kernel
theorem dJ13_bitCount_95d88_39 : decode cJ13_bitCount_95d88 39 = .ok (.ladd, 1) := by decide +kernel
theorem dJ13_bitCount_95d88_40 : decode cJ13_bitCount_95d88 40 = .ok (.lstore_n 0, 1) := by decide +kernel
theorem dJ13_bitCount_95d88_41 : decode cJ13_bitCount_95d88 41 = .ok (.lload_n 0, 1) := by decide +kernel
theorem dJ13_bitCount_95d88_42 : decode cJ13_bitCount_95d88 42 = .ok (.lload_n 0, 1) := by decide +kernel
theorem dJ13_bitCount_95d88_43 : decode cJ13_bitCount_95d88 43 = .ok (.bipush 16, 2) := by decide +kernel
theorem dJ13_bitCount_95d88_45 : decode cJ13_bitCount_95d88 45 = .ok (.lushr, 1) := by decide +kernel
theorem dJ13_bitCount_95d88_46 : decode cJ13_bitCount_95d88 46 = .ok (.ladd, 1) := by decide +kernel
theorem dJ13_bitCount_95d88_47 : decode cJ13_bitCount_95d88 47 = .ok (.lstore_n 0, 1) := by decide +kernel
theorem dJ13_bitCount_95d88_48 : decode cJ13_bitCount_95d88 48 = .ok (.lload_n 0, 1) := by decide +kernel
theorem dJ13_bitCount_95d88_49 : decode cJ13_bitCount_95d88 49 = .ok (.lload_n 0, 1) := by decide +kernel
theorem dJ13_bitCount_95d88_50 : decode cJ13_bitCount_95d88 50 = .ok (.bipush 32, 2) := by decide +kernel
theorem dJ13_bitCount_95d88_52 : decode cJ13_bitCount_95d88 52 = .ok (.lushr, 1) := by decide +kernel
theorem dJ13_bitCount_95d88_53 : decode cJ13_bitCount_95d88 53 = .ok (.ladd, 1) := by decide +kernel
theorem dJ13_bitCount_95d88_54 : decode cJ13_bitCount_95d88 54 = .ok (.lstore_n 0, 1) := by decide +kernel
theorem dJ13_bitCount_95d88_55 : decode cJ13_bitCount_95d88 55 = .ok (.lload_n 0, 1) := by decide +kernel
theorem dJ13_bitCount_95d88_56 : decode cJ13_bitCount_95d88 56 = .ok (.l2i, 1) := by decide +kernel
theorem dJ13_bitCount_95d88_57 : decode cJ13_bitCount_95d88 57 = .ok (.bipush 127, 2) := by decide +kernel
theorem dJ13_bitCount_95d88_59 : decode cJ13_bitCount_95d88 59 = .ok (.iand, 1) := by decide +kernel
theorem dJ13_bitCount_95d88_60 : decode cJ13_bitCount_95d88 60 = .ok (.ireturn, 1) := by decide +kernel
theorem dJ9_max_7cf53_0 : decode cJ9_max_7cf53 0 = .ok (.iload_n 0, 1) := by decide +kernel
theorem dJ9_max_7cf53_1 : decode cJ9_max_7cf53 1 = .ok (.iload_n 1, 1) := by decide +kernel
theorem dJ9_max_7cf53_2 : decode cJ9_max_7cf53 2 = .ok (.if_icmp .lt 7, 3) := by decide +kernel
theorem dJ9_max_7cf53_5 : decode cJ9_max_7cf53 5 = .ok (.iload_n 0, 1) := by decide +kernel
theorem dJ9_max_7cf53_6 : decode cJ9_max_7cf53 6 = .ok (.goto 4, 3) := by decide +kernel
theorem dJ9_max_7cf53_9 : decode cJ9_max_7cf53 9 = .ok (.iload_n 1, 1) := by decide +kernel
theorem dJ9_max_7cf53_10 : decode cJ9_max_7cf53 10 = .ok (.ireturn, 1) := by decide +kernel
theorem dJ9_min_7cf53_0 : decode cJ9_min_7cf53 0 = .ok (.iload_n 0, 1) := by decide +kernel
theorem dJ9_min_7cf53_1 : decode cJ9_min_7cf53 1 = .ok (.iload_n 1, 1) := by decide +kernel
theorem dJ9_min_7cf53_2 : decode cJ9_min_7cf53 2 = .ok (.if_icmp .gt 7, 3) := by decide +kernel
theorem dJ9_min_7cf53_5 : decode cJ9_min_7cf53 5 = .ok (.iload_n 0, 1) := by decide +kernel
theorem dJ9_min_7cf53_6 : decode cJ9_min_7cf53 6 = .ok (.goto 4, 3) := by decide +kernel
theorem dJ9_min_7cf53_9 : decode cJ9_min_7cf53 9 = .ok (.iload_n 1, 1) := by decide +kernel
theorem dJ9_min_7cf53_10 : decode cJ9_min_7cf53 10 = .ok (.ireturn, 1) := by decide +kernel
theorem dJ7_fill_53178_0 : decode cJ7_fill_53178 0 = .ok (.iconst 0, 1) := by decide +kernel
theorem dJ7_fill_53178_1 : decode cJ7_fill_53178 1 = .ok (.istore_n 2, 1) := by decide +kernel
theorem dJ7_fill_53178_2 : decode cJ7_fill_53178 2 = .ok (.aload_n 0, 1) := by decide +kernel
theorem dJ7_fill_53178_3 : decode cJ7_fill_53178 3 = .ok (.arraylength, 1) := by decide +kernel
theorem dJ7_fill_53178_4 : decode cJ7_fill_53178 4 = .ok (.istore_n 3, 1) := by decide +kernel
theorem dJ7_fill_53178_5 : decode cJ7_fill_53178 5 = .ok (.iload_n 2, 1) := by decide +kernel
theorem dJ7_fill_53178_6 : decode cJ7_fill_53178 6 = .ok (.iload_n 3, 1) := by decide +kernel
theorem dJ7_fill_53178_7 : decode cJ7_fill_53178 7 = .ok (.if_icmp .ge 13, 3) := by decide +kernel
theorem dJ7_fill_53178_10 : decode cJ7_fill_53178 10 = .ok (.aload_n 0, 1) := by decide +kernel
theorem dJ7_fill_53178_11 : decode cJ7_fill_53178 11 = .ok (.iload_n 2, 1) := by decide +kernel
theorem dJ7_fill_53178_12 : decode cJ7_fill_53178 12 = .ok (.iload_n 1, 1) := by decide +kernel
theorem dJ7_fill_53178_13 : decode cJ7_fill_53178 13 = .ok (.iastore, 1) := by decide +kernel
theorem dJ7_fill_53178_14 : decode cJ7_fill_53178 14 = .ok (.iinc 2 1, 3) := by decide +kernel
theorem dJ7_fill_53178_17 : decode cJ7_fill_53178 17 = .ok (.goto (-12), 3) := by decide +kernel
theorem dJ7_fill_53178_20 : decode cJ7_fill_53178 20 = .ok (.return_, 1) := by decide +kernel
end
section
theorem dX6_init_0 : decode cX6_init 0 = .ok (.aload_n 0, 1) := by decide +kernel
theorem dX6_init_1 : decode cX6_init 1 = .ok (.invokespecial 1, 3) := by decide +kernel
theorem dX6_init_4 : decode cX6_init 4 = .ok (.aload_n 0, 1) := by decide +kernel
theorem dX6_init_5 : decode cX6_init 5 = .ok (.sipush 291, 3) := by decide +kernel
theorem dX6_init_8 : decode cX6_init 8 = .ok (.newarray .int, 2) := by decide +kernel
theorem dX6_init_10 : decode cX6_init 10 = .ok (.putfield 7, 3) := by decide +kernel
theorem dX6_init_13 : decode cX6_init 13 = .ok (.aload_n 0, 1) := by decide +kernel
theorem dX6_init_14 : decode cX6_init 14 = .ok (.sipush 1455, 3) := by decide +kernel
theorem dX6_init_17 : decode cX6_init 17 = .ok (.newarray .int, 2) := by decide +kernel
theorem dX6_init_19 : decode cX6_init 19 = .ok (.putfield 13, 3) := by decide +kernel
theorem dX6_init_22 : decode cX6_init 22 = .ok (.aload_n 0, 1) := by decide +kernel
theorem dX6_init_23 : decode cX6_init 23 = .ok (.sipush 291, 3) := by decide +kernel
theorem dX6_init_26 : decode cX6_init 26 = .ok (.newarray .int, 2) := by decide +kernel
theorem dX6_init_28 : decode cX6_init 28 = .ok (.putfield 16, 3) := by decide +kernel
theorem dX6_init_31 : decode cX6_init 31 = .ok (.aload_n 0, 1) := by decide +kernel
theorem dX6_init_32 : decode cX6_init 32 = .ok (.bipush 80, 2) := by decide +kernel
theorem dX6_init_34 : decode cX6_init 34 = .ok (.newarray .char, 2) := by decide +kernel
theorem dX6_init_36 : decode cX6_init 36 = .ok (.putfield 19, 3) := by decide +kernel
theorem dX6_init_39 : decode cX6_init 39 = .ok (.aload_n 0, 1) := by decide +kernel
theorem dX6_init_40 : decode cX6_init 40 = .ok (.bipush 47, 2) := by decide +kernel
theorem dX6_init_42 : decode cX6_init 42 = .ok (.newarray .int, 2) := by decide +kernel
theorem dX6_init_44 : decode cX6_init 44 = .ok (.putfield 23, 3) := by decide +kernel
theorem dX6_init_47 : decode cX6_init 47 = .ok (.aload_n 0, 1) := by decide +kernel
theorem dX6_init_48 : decode cX6_init 48 = .ok (.sipush 256, 3) := by decide +kernel
theorem dX6_init_51 : decode cX6_init 51 = .ok (.newarray .int, 2) := by decide +kernel
theorem dX6_init_53 : decode cX6_init 53 = .ok (.putfield 26, 3) := by decide +kernel
theorem dX6_init_56 : decode cX6_init 56 = .ok (.aload_n 0, 1) := by decide +kernel
theorem dX6_init_57 : decode cX6_init 57 = .ok (.sipush 144, 3) := by decide +kernel
theorem dX6_init_60 : decode cX6_init 60 = .ok (.newarray .int, 2) := by decide +kernel
theorem dX6_init_62 : decode cX6_init 62 = .ok (.putfield 29, 3) := by decide +kernel
theorem dX6_init_65 : decode cX6_init 65 = .ok (.aload_n 0, 1) := by decide +kernel
theorem dX6_init_66 : decode cX6_init 66 = .ok (.sipush 144, 3) := by decide +kernel
theorem dX6_init_69 : decode cX6_init 69 = .ok (.newarray .int, 2) := by decide +kernel
theorem dX6_init_71 : decode cX6_init 71 = .ok (.putfield 32, 3) := by decide +kernel
theorem dX6_init_74 : decode cX6_init 74 = .ok (.aload_n 0, 1) := by decide +kernel
theorem dX6_init_75 : decode cX6_init 75 = .ok (.sipush 144, 3) := by decide +kernel
theorem dX6_init_78 : decode cX6_init 78 = .ok (.newarray .int, 2) := by decide +kernel
theorem dX6_init_80 : decode cX6_init 80 = .ok (.putfield 35, 3) := by decide +kernel
theorem dX6_init_83 : decode cX6_init 83 = .ok (.aload_n 0, 1) := by decide +kernel
theorem dX6_init_84 : decode cX6_init 84 = .ok (.sipush 144, 3) := by decide +kernel
theorem dX6_init_87 : decode cX6_init 87 = .ok (.newarray .int, 2) := by decide +kernel
theorem dX6_init_89 : decode cX6_init 89 = .ok (.putfield 38, 3) := by decide +kernel
theorem dX6_init_92 : decode cX6_init 92 = .ok (.aload_n 0, 1) := by decide +kernel
theorem dX6_init_93 : decode cX6_init 93 = .ok (.sipush 144, 3) := by decide +kernel
theorem dX6_init_96 : decode cX6_init 96 = .ok (.newarray .int, 2) := by decide +kernel
theorem dX6_init_98 : decode cX6_init 98 = .ok (.putfield 41, 3) := by decide +kernel
theorem dX6_init_101 : decode cX6_init 101 = .ok (.aload_n 0, 1) := by decide +kernel
theorem dX6_init_102 : decode cX6_init 102 = .ok (.sipush 144, 3) := by decide +kernel
theorem dX6_init_105 : decode cX6_init 105 = .ok (.newarray .int, 2) := by decide +kernel
theorem dX6_init_107 : decode cX6_init 107 = .ok (.putfield 44, 3) := by decide +kernel
theorem dX6_init_110 : decode cX6_init 110 = .ok (.aload_n 0, 1) := by decide +kernel
theorem dX6_init_111 : decode cX6_init 111 = .ok (.sipush 144, 3) := by decide +kernel
theorem dX6_init_114 : decode cX6_init 114 = .ok (.newarray .boolean, 2) := by decide +kernel
theorem dX6_init_116 : decode cX6_init 116 = .ok (.putfield 47, 3) := by decide +kernel
theorem dX6_init_119 : decode cX6_init 119 = .ok (.aload_n 0, 1) := by decide +kernel
theorem dX6_init_120 : decode cX6_init 120 = .ok (.sipush 144, 3) := by decide +kernel
theorem dX6_init_123 : decode cX6_init 123 = .ok (.newarray .int, 2) := by decide +kernel
theorem dX6_init_125 : decode cX6_init 125 = .ok (.putfield 51, 3) := by decide +kernel
theorem dX6_init_128 : decode cX6_init 128 = .ok (.iconst 0, 1) := by decide +kernel
theorem dX6_init_129 : decode cX6_init 129 = .ok (.istore_n 1, 1) := by decide +kernel
theorem dX6_init_130 : decode cX6_init 130 = .ok (.iconst 0, 1) := by decide +kernel
theorem dX6_init_131 : decode cX6_init 131 = .ok (.istore_n 2, 1) := by decide +kernel
theorem dX6_init_132 : decode cX6_init 132 = .ok (.iload_n 2, 1) := by decide +kernel
theorem dX6_init_133 : decode cX6_init 133 = .ok (.sipush 256, 3) := by decide +kernel
theorem dX6_init_136 : decode cX6_init 136 = .ok (.if_icmp .ge 42, 3) := by decide +kernel
theorem dX6_init_139 : decode cX6_init 139 = .ok (.aload_n 0, 1) := by decide +kernel
theorem dX6_init_140 : decode cX6_init 140 = .ok (.getfield 26, 3) := by decide +kernel
theorem dX6_init_143 : decode cX6_init 143 = .ok (.iload_n 2, 1) := by decide +kernel
theorem dX6_init_144 : decode cX6_init 144 = .ok (.bipush (-6), 2) := by decide +kernel
theorem dX6_init_146 : decode cX6_init 146 = .ok (.iastore, 1) := by decide +kernel
theorem dX6_init_147 : decode cX6_init 147 = .ok (.iload_n 2, 1) := by decide +kernel
theorem dX6_init_148 : decode cX6_init 148 = .ok (.invokestatic 54, 3) := by decide +kernel
theorem dX6_init_151 : decode cX6_init 151 = .ok (.iload_n 2, 1) := by decide +kernel
theorem dX6_init_152 : decode cX6_init 152 = .ok (.if_icmp .ne 20, 3) := by decide +kernel
theorem dX6_init_155 : decode cX6_init 155 = .ok (.aload_n 0, 1) := by decide +kernel
theorem dX6_init_156 : decode cX6_init 156 = .ok (.getfield 23, 3) := by decide +kernel
theorem dX6_init_159 : decode cX6_init 159 = .ok (.iload_n 1, 1) := by decide +kernel
theorem dX6_init_160 : decode cX6_init 160 = .ok (.iload_n 2, 1) := by decide +kernel
theorem dX6_init_161 : decode cX6_init 161 = .ok (.iastore, 1) := by decide +kernel
theorem dX6_init_162 : decode cX6_init 162 = .ok (.aload_n 0, 1) := by decide +kernel
theorem dX6_init_163 : decode cX6_init 163 = .ok (.getfield 26, 3) := by decide +kernel
theorem dX6_init_166 : decode cX6_init 166 = .ok (.iload_n 2, 1) := by decide +kernel
theorem dX6_init_167 : decode cX6_init 167 = .ok (.iload_n 1, 1) := by decide +kernel
theorem dX6_init_168 : decode cX6_init 168 = .ok (.iastore, 1) := by decide +kernel
theorem dX6_init_169 : decode cX6_init 169 = .ok (.iinc 1 1, 3) := by decide +kernel
theorem dX6_init_172 : decode cX6_init 172 = .ok (.iinc 2 1, 3) := by decide +kernel
theorem dX6_init_175 : decode cX6_init 175 = .ok (.goto (-43), 3) := by decide +kernel
theorem dX6_init_178 : decode cX6_init 178 = .ok (.aload_n 0, 1) := by decide +kernel
theorem dX6_init_179 : decode cX6_init 179 = .ok (.getfield 7, 3) := by decide +kernel
theorem dX6_init_182 : decode cX6_init 182 = .ok (.iconst 0, 1) := by decide +kernel
theorem dX6_init_183 : decode cX6_init 183 = .ok (.bipush 8, 2) := by decide +kernel
theorem dX6_init_185 : decode cX6_init 185 = .ok (.iastore, 1) := by decide +kernel
theorem dX6_init_186 : decode cX6_init 186 = .ok (.aload_n 0, 1) := by decide +kernel
theorem dX6_init_187 : decode cX6_init 187 = .ok (.getfield 7, 3) := by decide +kernel
theorem dX6_init_190 : decode cX6_init 190 = .ok (.iconst 1, 1) := by decide +kernel
theorem dX6_init_191 : decode cX6_init 191 = .ok (.bipush 8, 2) := by decide +kernel
theorem dX6_init_193 : decode cX6_init 193 = .ok (.iastore, 1) := by decide +kernel
theorem dX6_init_194 : decode cX6_init 194 = .ok (.aload_n 0, 1) := by decide +kernel
theorem dX6_init_195 : decode cX6_init 195 = .ok (.invokevirtual 58, 3) := by decide +kernel
theorem dX6_init_198 : decode cX6_init 198 = .ok (.return_, 1) := by decide +kernel
theorem dX6_in_0 : decode cX6_in 0 = .ok (.iload_n 0, 1) := by decide +kernel
theorem dX6_in_1 : decode cX6_in 1 = .ok (.iload_n 1, 1) := by decide +kernel
theorem dX6_in_2 : decode cX6_in 2 = .ok (.if_icmp .lt 12, 3) := by decide +kernel
theorem dX6_in_5 : decode cX6_in 5 = .ok (.iload_n 0, 1) := by decide +kernel
theorem dX6_in_6 : decode cX6_in 6 = .ok (.iload_n 2, 1) := by decide +kernel
theorem dX6_in_7 : decode cX6_in 7 = .ok (.if_icmp .gt 7, 3) := by decide +kernel
theorem dX6_in_10 : decode cX6_in 10 = .ok (.iconst 1, 1) := by decide +kernel
theorem dX6_in_11 : decode cX6_in 11 = .ok (.goto 4, 3) := by decide +kernel
theorem dX6_in_14 : decode cX6_in 14 = .ok (.iconst 0, 1) := by decide +kernel
theorem dX6_in_15 : decode cX6_in 15 = .ok (.ireturn, 1) := by decide +kernel
theorem dX6_water_0 : decode cX6_water 0 = .ok (.iconst 0, 1) := by decide +kernel
theorem dX6_water_1 : decode cX6_water 1 = .ok (.istore_n 1, 1) := by decide +kernel
theorem dX6_water_2 : decode cX6_water 2 = .ok (.iload_n 1, 1) := by decide +kernel
theorem dX6_water_3 : decode cX6_water 3 = .ok (.sipush 144, 3) := by decide +kernel
theorem dX6_water_6 : decode cX6_water 6 = .ok (.if_icmp .ge 30, 3) := by decide +kernel
theorem dX6_water_9 : decode cX6_water 9 = .ok (.aload_n 0, 1) := by decide +kernel
theorem dX6_water_10 : decode cX6_water 10 = .ok (.getfield 7, 3) := by decide +kernel
theorem dX6_water_13 : decode cX6_water 13 = .ok (.iconst 3, 1) := by decide +kernel
theorem dX6_water_14 : decode cX6_water 14 = .ok (.iload_n 1, 1) := by decide +kernel
theorem dX6_water_15 : decode cX6_water 15 = .ok (.iadd, 1) := by decide +kernel
theorem dX6_water_16 : decode cX6_water 16 = .ok (.iconst 0, 1) := by decide +kernel
theorem dX6_water_17 : decode cX6_water 17 = .ok (.iastore, 1) := by decide +kernel
theorem dX6_water_18 : decode cX6_water 18 = .ok (.aload_n 0, 1) := by decide +kernel
theorem dX6_water_19 : decode cX6_water 19 = .ok (.getfield 7, 3) := by decide +kernel
theorem dX6_water_22 : decode cX6_water 22 = .ok (.sipush 147, 3) := by decide +kernel
theorem dX6_water_25 : decode cX6_water 25 = .ok (.iload_n 1, 1) := by decide +kernel
theorem dX6_water_26 : decode cX6_water 26 = .ok (.iadd, 1) := by decide +kernel
theorem dX6_water_27 : decode cX6_water 27 = .ok (.bipush (-6), 2) := by decide +kernel
theorem dX6_water_29 : decode cX6_water 29 = .ok (.iastore, 1) := by decide +kernel
theorem dX6_water_30 : decode cX6_water 30 = .ok (.iinc 1 1, 3) := by decide +kernel
theorem dX6_water_33 : decode cX6_water 33 = .ok (.goto (-31), 3) := by decide +kernel
theorem dX6_water_36 : decode cX6_water 36 = .ok (.return_, 1) := by decide +kernel
theorem dX6_tiles_0 : decode cX6_tiles 0 = .ok (.aload_n 0, 1) := by decide +kernel
theorem dX6_tiles_1 : decode cX6_tiles 1 = .ok (.getfield 7, 3) := by decide +kernel
theorem dX6_tiles_4 : decode cX6_tiles 4 = .ok (.iconst 0, 1) := by decide +kernel
theorem dX6_tiles_5 : decode cX6_tiles 5 = .ok (.iaload, 1) := by decide +kernel
theorem dX6_tiles_6 : decode cX6_tiles 6 = .ok (.aload_n 0, 1) := by decide +kernel
theorem dX6_tiles_7 : decode cX6_tiles 7 = .ok (.getfield 7, 3) := by decide +kernel
theorem dX6_tiles_10 : decode cX6_tiles 10 = .ok (.iconst 1, 1) := by decide +kernel
theorem dX6_tiles_11 : decode cX6_tiles 11 = .ok (.iaload, 1) := by decide +kernel
theorem dX6_tiles_12 : decode cX6_tiles 12 = .ok (.imul, 1) := by decide +kernel
theorem dX6_tiles_13 : decode cX6_tiles 13 = .ok (.ireturn, 1) := by decide +kernel
theorem dX6_isTile_0 : decode cX6_isTile 0 = .ok (.iload_n 1, 1) := by decide +kernel
theorem dX6_isTile_1 : decode cX6_isTile 1 = .ok (.iconst 0, 1) := by decide +kernel
theorem dX6_isTile_2 : decode cX6_isTile 2 = .ok (.aload_n 0, 1) := by decide +kernel
theorem dX6_isTile_3 : decode cX6_isTile 3 = .ok (.getfield 7, 3) := by decide +kernel
theorem dX6_isTile_6 : decode cX6_isTile 6 = .ok (.iconst 0, 1) := by decide +kernel
theorem dX6_isTile_7 : decode cX6_isTile 7 = .ok (.iaload, 1) := by decide +kernel
theorem dX6_isTile_8 : decode cX6_isTile 8 = .ok (.iconst 1, 1) := by decide +kernel
theorem dX6_isTile_9 : decode cX6_isTile 9 = .ok (.isub, 1) := by decide +kernel
theorem dX6_isTile_10 : decode cX6_isTile 10 = .ok (.invokestatic 61, 3) := by decide +kernel
theorem dX6_isTile_13 : decode cX6_isTile 13 = .ok (.ifCond .eq 23, 3) := by decide +kernel
theorem dX6_isTile_16 : decode cX6_isTile 16 = .ok (.iload_n 2, 1) := by decide +kernel
theorem dX6_isTile_17 : decode cX6_isTile 17 = .ok (.iconst 0, 1) := by decide +kernel
theorem dX6_isTile_18 : decode cX6_isTile 18 = .ok (.aload_n 0, 1) := by decide +kernel
theorem dX6_isTile_19 : decode cX6_isTile 19 = .ok (.getfield 7, 3) := by decide +kernel
theorem dX6_isTile_22 : decode cX6_isTile 22 = .ok (.iconst 1, 1) := by decide +kernel
theorem dX6_isTile_23 : decode cX6_isTile 23 = .ok (.iaload, 1) := by decide +kernel
theorem dX6_isTile_24 : decode cX6_isTile 24 = .ok (.iconst 1, 1) := by decide +kernel
theorem dX6_isTile_25 : decode cX6_isTile 25 = .ok (.isub, 1) := by decide +kernel
theorem dX6_isTile_26 : decode cX6_isTile 26 = .ok (.invokestatic 61, 3) := by decide +kernel
theorem dX6_isTile_29 : decode cX6_isTile 29 = .ok (.ifCond .eq 7, 3) := by decide +kernel
theorem dX6_isTile_32 : decode cX6_isTile 32 = .ok (.iconst 1, 1) := by decide +kernel
theorem dX6_isTile_33 : decode cX6_isTile 33 = .ok (.goto 4, 3) := by decide +kernel
theorem dX6_isTile_36 : decode cX6_isTile 36 = .ok (.iconst 0, 1) := by decide +kernel
theorem dX6_isTile_37 : decode cX6_isTile 37 = .ok (.ireturn, 1) := by decide +kernel
theorem dX6_at_0 : decode cX6_at 0 = .ok (.aload_n 0, 1) := by decide +kernel
theorem dX6_at_1 : decode cX6_at 1 = .ok (.getfield 7, 3) := by decide +kernel
theorem dX6_at_4 : decode cX6_at 4 = .ok (.iconst 1, 1) := by decide +kernel
theorem dX6_at_5 : decode cX6_at 5 = .ok (.iaload, 1) := by decide +kernel
theorem dX6_at_6 : decode cX6_at 6 = .ok (.iload_n 1, 1) := by decide +kernel
theorem dX6_at_7 : decode cX6_at 7 = .ok (.imul, 1) := by decide +kernel
theorem dX6_at_8 : decode cX6_at 8 = .ok (.iload_n 2, 1) := by decide +kernel
theorem dX6_at_9 : decode cX6_at 9 = .ok (.iadd, 1) := by decide +kernel
theorem dX6_at_10 : decode cX6_at 10 = .ok (.ireturn, 1) := by decide +kernel
theorem dX6_isLandAt_0 : decode cX6_isLandAt 0 = .ok (.aload_n 0, 1) := by decide +kernel
theorem dX6_isLandAt_1 : decode cX6_isLandAt 1 = .ok (.getfield 7, 3) := by decide +kernel
theorem dX6_isLandAt_4 : decode cX6_isLandAt 4 = .ok (.iconst 3, 1) := by decide +kernel
theorem dX6_isLandAt_5 : decode cX6_isLandAt 5 = .ok (.iload_n 1, 1) := by decide +kernel
theorem dX6_isLandAt_6 : decode cX6_isLandAt 6 = .ok (.iadd, 1) := by decide +kernel
theorem dX6_isLandAt_7 : decode cX6_isLandAt 7 = .ok (.iaload, 1) := by decide +kernel
theorem dX6_isLandAt_8 : decode cX6_isLandAt 8 = .ok (.iconst 1, 1) := by decide +kernel
theorem dX6_isLandAt_9 : decode cX6_isLandAt 9 = .ok (.if_icmp .ne 7, 3) := by decide +kernel
theorem dX6_isLandAt_12 : decode cX6_isLandAt 12 = .ok (.iconst 1, 1) := by decide +kernel
theorem dX6_isLandAt_13 : decode cX6_isLandAt 13 = .ok (.goto 4, 3) := by decide +kernel
theorem dX6_isLandAt_16 : decode cX6_isLandAt 16 = .ok (.iconst 0, 1) := by decide +kernel
theorem dX6_isLandAt_17 : decode cX6_isLandAt 17 = .ok (.ireturn, 1) := by decide +kernel
theorem dX6_record_0 : decode cX6_record 0 = .ok (.aload_n 0, 1) := by decide +kernel
theorem dX6_record_1 : decode cX6_record 1 = .ok (.getfield 65, 3) := by decide +kernel
theorem dX6_record_4 : decode cX6_record 4 = .ok (.iconst 5, 1) := by decide +kernel
theorem dX6_record_5 : decode cX6_record 5 = .ok (.if_icmp .ne 44, 3) := by decide +kernel
theorem dX6_record_8 : decode cX6_record 8 = .ok (.iconst 0, 1) := by decide +kernel
theorem dX6_record_9 : decode cX6_record 9 = .ok (.istore_n 1, 1) := by decide +kernel
theorem dX6_record_10 : decode cX6_record 10 = .ok (.iload_n 1, 1) := by decide +kernel
theorem dX6_record_11 : decode cX6_record 11 = .ok (.sipush 1164, 3) := by decide +kernel
theorem dX6_record_14 : decode cX6_record 14 = .ok (.if_icmp .ge 25, 3) := by decide +kernel
theorem dX6_record_17 : decode cX6_record 17 = .ok (.aload_n 0, 1) := by decide +kernel
theorem dX6_record_18 : decode cX6_record 18 = .ok (.getfield 13, 3) := by decide +kernel
theorem dX6_record_21 : decode cX6_record 21 = .ok (.iload_n 1, 1) := by decide +kernel
theorem dX6_record_22 : decode cX6_record 22 = .ok (.aload_n 0, 1) := by decide +kernel
theorem dX6_record_23 : decode cX6_record 23 = .ok (.getfield 13, 3) := by decide +kernel
theorem dX6_record_26 : decode cX6_record 26 = .ok (.iload_n 1, 1) := by decide +kernel
theorem dX6_record_27 : decode cX6_record 27 = .ok (.sipush 291, 3) := by decide +kernel
theorem dX6_record_30 : decode cX6_record 30 = .ok (.iadd, 1) := by decide +kernel
theorem dX6_record_31 : decode cX6_record 31 = .ok (.iaload, 1) := by decide +kernel
theorem dX6_record_32 : decode cX6_record 32 = .ok (.iastore, 1) := by decide +kernel
theorem dX6_record_33 : decode cX6_record 33 = .ok (.iinc 1 1, 3) := by decide +kernel
theorem dX6_record_36 : decode cX6_record 36 = .ok (.goto (-26), 3) := by decide +kernel
theorem dX6_record_39 : decode cX6_record 39 = .ok (.aload_n 0, 1) := by decide +kernel
theorem dX6_record_40 : decode cX6_record 40 = .ok (.dup, 1) := by decide +kernel
theorem dX6_record_41 : decode cX6_record 41 = .ok (.getfield 65, 3) := by decide +kernel
theorem dX6_record_44 : decode cX6_record 44 = .ok (.iconst 1, 1) := by decide +kernel
theorem dX6_record_45 : decode cX6_record 45 = .ok (.isub, 1) := by decide +kernel
theorem dX6_record_46 : decode cX6_record 46 = .ok (.putfield 65, 3) := by decide +kernel
theorem dX6_record_49 : decode cX6_record 49 = .ok (.iconst 0, 1) := by decide +kernel
theorem dX6_record_50 : decode cX6_record 50 = .ok (.istore_n 1, 1) := by decide +kernel
theorem dX6_record_51 : decode cX6_record 51 = .ok (.iload_n 1, 1) := by decide +kernel
theorem dX6_record_52 : decode cX6_record 52 = .ok (.sipush 291, 3) := by decide +kernel
theorem dX6_record_55 : decode cX6_record 55 = .ok (.if_icmp .ge 30, 3) := by decide +kernel
theorem dX6_record_58 : decode cX6_record 58 = .ok (.aload_n 0, 1) := by decide +kernel
theorem dX6_record_59 : decode cX6_record 59 = .ok (.getfield 13, 3) := by decide +kernel
theorem dX6_record_62 : decode cX6_record 62 = .ok (.aload_n 0, 1) := by decide +kernel
theorem dX6_record_63 : decode cX6_record 63 = .ok (.getfield 65, 3) := by decide +kernel
theorem dX6_record_66 : decode cX6_record 66 = .ok (.sipush 291, 3) := by decide +kernel
theorem dX6_record_69 : decode cX6_record 69 = .ok (.imul, 1) := by decide +kernel
theorem dX6_record_70 : decode cX6_record 70 = .ok (.iload_n 1, 1) := by decide +kernel
theorem dX6_record_71 : decode cX6_record 71 = .ok (.iadd, 1) := by decide +kernel
theorem dX6_record_72 : decode cX6_record 72 = .ok (.aload_n 0, 1) := by decide +kernel
theorem dX6_record_73 : decode cX6_record 73 = .ok (.getfield 7, 3) := by decide +kernel
theorem dX6_record_76 : decode cX6_record 76 = .ok (.iload_n 1, 1) := by decide +kernel
theorem dX6_record_77 : decode cX6_record 77 = .ok (.iaload, 1) := by decide +kernel
theorem dX6_record_78 : decode cX6_record 78 = .ok (.iastore, 1) := by decide +kernel
theorem dX6_record_79 : decode cX6_record 79 = .ok (.iinc 1 1, 3) := by decide +kernel
theorem dX6_record_82 : decode cX6_record 82 = .ok (.goto (-31), 3) := by decide +kernel
theorem dX6_record_85 : decode cX6_record 85 = .ok (.aload_n 0, 1) := by decide +kernel
theorem dX6_record_86 : decode cX6_record 86 = .ok (.dup, 1) := by decide +kernel
theorem dX6_record_87 : decode cX6_record 87 = .ok (.getfield 65, 3) := by decide +kernel
theorem dX6_record_90 : decode cX6_record 90 = .ok (.iconst 1, 1) := by decide +kernel
theorem dX6_record_91 : decode cX6_record 91 = .ok (.iadd, 1) := by decide +kernel
theorem dX6_record_92 : decode cX6_record 92 = .ok (.putfield 65, 3) := by decide +kernel
theorem dX6_record_95 : decode cX6_record 95 = .ok (.return_, 1) := by decide +kernel
theorem dX6_undo_0 : decode cX6_undo 0 = .ok (.aload_n 0, 1) := by decide +kernel
theorem dX6_undo_1 : decode cX6_undo 1 = .ok (.getfield 65, 3) := by decide +kernel
theorem dX6_undo_4 : decode cX6_undo 4 = .ok (.ifCond .ne 6, 3) := by decide +kernel
theorem dX6_undo_7 : decode cX6_undo 7 = .ok (.bipush (-3), 2) := by decide +kernel
theorem dX6_undo_9 : decode cX6_undo 9 = .ok (.ireturn, 1) := by decide +kernel
theorem dX6_undo_10 : decode cX6_undo 10 = .ok (.aload_n 0, 1) := by decide +kernel
theorem dX6_undo_11 : decode cX6_undo 11 = .ok (.dup, 1) := by decide +kernel
theorem dX6_undo_12 : decode cX6_undo 12 = .ok (.getfield 65, 3) := by decide +kernel
theorem dX6_undo_15 : decode cX6_undo 15 = .ok (.iconst 1, 1) := by decide +kernel
theorem dX6_undo_16 : decode cX6_undo 16 = .ok (.isub, 1) := by decide +kernel
theorem dX6_undo_17 : decode cX6_undo 17 = .ok (.putfield 65, 3) := by decide +kernel
theorem dX6_undo_20 : decode cX6_undo 20 = .ok (.iconst 0, 1) := by decide +kernel
theorem dX6_undo_21 : decode cX6_undo 21 = .ok (.istore_n 1, 1) := by decide +kernel
theorem dX6_undo_22 : decode cX6_undo 22 = .ok (.iload_n 1, 1) := by decide +kernel
theorem dX6_undo_23 : decode cX6_undo 23 = .ok (.sipush 291, 3) := by decide +kernel
theorem dX6_undo_26 : decode cX6_undo 26 = .ok (.if_icmp .ge 30, 3) := by decide +kernel
theorem dX6_undo_29 : decode cX6_undo 29 = .ok (.aload_n 0, 1) := by decide +kernel
theorem dX6_undo_30 : decode cX6_undo 30 = .ok (.getfield 7, 3) := by decide +kernel
theorem dX6_undo_33 : decode cX6_undo 33 = .ok (.iload_n 1, 1) := by decide +kernel
theorem dX6_undo_34 : decode cX6_undo 34 = .ok (.aload_n 0, 1) := by decide +kernel
theorem dX6_undo_35 : decode cX6_undo 35 = .ok (.getfield 13, 3) := by decide +kernel
theorem dX6_undo_38 : decode cX6_undo 38 = .ok (.aload_n 0, 1) := by decide +kernel
theorem dX6_undo_39 : decode cX6_undo 39 = .ok (.getfield 65, 3) := by decide +kernel
theorem dX6_undo_42 : decode cX6_undo 42 = .ok (.sipush 291, 3) := by decide +kernel
theorem dX6_undo_45 : decode cX6_undo 45 = .ok (.imul, 1) := by decide +kernel
theorem dX6_undo_46 : decode cX6_undo 46 = .ok (.iload_n 1, 1) := by decide +kernel
theorem dX6_undo_47 : decode cX6_undo 47 = .ok (.iadd, 1) := by decide +kernel
theorem dX6_undo_48 : decode cX6_undo 48 = .ok (.iaload, 1) := by decide +kernel
theorem dX6_undo_49 : decode cX6_undo 49 = .ok (.iastore, 1) := by decide +kernel
theorem dX6_undo_50 : decode cX6_undo 50 = .ok (.iinc 1 1, 3) := by decide +kernel
theorem dX6_undo_53 : decode cX6_undo 53 = .ok (.goto (-31), 3) := by decide +kernel
theorem dX6_undo_56 : decode cX6_undo 56 = .ok (.aload_n 0, 1) := by decide +kernel
theorem dX6_undo_57 : decode cX6_undo 57 = .ok (.getfield 65, 3) := by decide +kernel
theorem dX6_undo_60 : decode cX6_undo 60 = .ok (.ireturn, 1) := by decide +kernel
theorem dX6_save_0 : decode cX6_save 0 = .ok (.aload_n 0, 1) := by decide +kernel
theorem dX6_save_1 : decode cX6_save 1 = .ok (.iconst 1, 1) := by decide +kernel
theorem dX6_save_2 : decode cX6_save 2 = .ok (.putfield 69, 3) := by decide +kernel
theorem dX6_save_5 : decode cX6_save 5 = .ok (.iconst 0, 1) := by decide +kernel
theorem dX6_save_6 : decode cX6_save 6 = .ok (.istore_n 1, 1) := by decide +kernel
theorem dX6_save_7 : decode cX6_save 7 = .ok (.iload_n 1, 1) := by decide +kernel
theorem dX6_save_8 : decode cX6_save 8 = .ok (.sipush 291, 3) := by decide +kernel
theorem dX6_save_11 : decode cX6_save 11 = .ok (.if_icmp .ge 21, 3) := by decide +kernel
theorem dX6_save_14 : decode cX6_save 14 = .ok (.aload_n 0, 1) := by decide +kernel
theorem dX6_save_15 : decode cX6_save 15 = .ok (.getfield 16, 3) := by decide +kernel
theorem dX6_save_18 : decode cX6_save 18 = .ok (.iload_n 1, 1) := by decide +kernel
theorem dX6_save_19 : decode cX6_save 19 = .ok (.aload_n 0, 1) := by decide +kernel
theorem dX6_save_20 : decode cX6_save 20 = .ok (.getfield 7, 3) := by decide +kernel
theorem dX6_save_23 : decode cX6_save 23 = .ok (.iload_n 1, 1) := by decide +kernel
theorem dX6_save_24 : decode cX6_save 24 = .ok (.iaload, 1) := by decide +kernel
theorem dX6_save_25 : decode cX6_save 25 = .ok (.iastore, 1) := by decide +kernel
theorem dX6_save_26 : decode cX6_save 26 = .ok (.iinc 1 1, 3) := by decide +kernel
theorem dX6_save_29 : decode cX6_save 29 = .ok (.goto (-22), 3) := by decide +kernel
theorem dX6_save_32 : decode cX6_save 32 = .ok (.aload_n 0, 1) := by decide +kernel
theorem dX6_save_33 : decode cX6_save 33 = .ok (.invokevirtual 73, 3) := by decide +kernel
theorem dX6_save_36 : decode cX6_save 36 = .ok (.ireturn, 1) := by decide +kernel
theorem dX6_restore_0 : decode cX6_restore 0 = .ok (.aload_n 0, 1) := by decide +kernel
theorem dX6_restore_1 : decode cX6_restore 1 = .ok (.getfield 69, 3) := by decide +kernel
theorem dX6_restore_4 : decode cX6_restore 4 = .ok (.ifCond .ne 6, 3) := by decide +kernel
theorem dX6_restore_7 : decode cX6_restore 7 = .ok (.bipush (-3), 2) := by decide +kernel
theorem dX6_restore_9 : decode cX6_restore 9 = .ok (.ireturn, 1) := by decide +kernel
theorem dX6_restore_10 : decode cX6_restore 10 = .ok (.aload_n 0, 1) := by decide +kernel
theorem dX6_restore_11 : decode cX6_restore 11 = .ok (.invokevirtual 77, 3) := by decide +kernel
theorem dX6_restore_14 : decode cX6_restore 14 = .ok (.iconst 0, 1) := by decide +kernel
theorem dX6_restore_15 : decode cX6_restore 15 = .ok (.istore_n 1, 1) := by decide +kernel
theorem dX6_restore_16 : decode cX6_restore 16 = .ok (.iload_n 1, 1) := by decide +kernel
theorem dX6_restore_17 : decode cX6_restore 17 = .ok (.sipush 291, 3) := by decide +kernel
theorem dX6_restore_20 : decode cX6_restore 20 = .ok (.if_icmp .ge 21, 3) := by decide +kernel
theorem dX6_restore_23 : decode cX6_restore 23 = .ok (.aload_n 0, 1) := by decide +kernel
theorem dX6_restore_24 : decode cX6_restore 24 = .ok (.getfield 7, 3) := by decide +kernel
theorem dX6_restore_27 : decode cX6_restore 27 = .ok (.iload_n 1, 1) := by decide +kernel
theorem dX6_restore_28 : decode cX6_restore 28 = .ok (.aload_n 0, 1) := by decide +kernel
theorem dX6_restore_29 : decode cX6_restore 29 = .ok (.getfield 16, 3) := by decide +kernel
theorem dX6_restore_32 : decode cX6_restore 32 = .ok (.iload_n 1, 1) := by decide +kernel
theorem dX6_restore_33 : decode cX6_restore 33 = .ok (.iaload, 1) := by decide +kernel
theorem dX6_restore_34 : decode cX6_restore 34 = .ok (.iastore, 1) := by decide +kernel
theorem dX6_restore_35 : decode cX6_restore 35 = .ok (.iinc 1 1, 3) := by decide +kernel
theorem dX6_restore_38 : decode cX6_restore 38 = .ok (.goto (-22), 3) := by decide +kernel
theorem dX6_restore_41 : decode cX6_restore 41 = .ok (.aload_n 0, 1) := by decide +kernel
theorem dX6_restore_42 : decode cX6_restore 42 = .ok (.invokevirtual 73, 3) := by decide +kernel
theorem dX6_restore_45 : decode cX6_restore 45 = .ok (.ireturn, 1) := by decide +kernel
theorem dX6_rowBy_0 : decode cX6_rowBy 0 = .ok (.iload_n 0, 1) := by decide +kernel
theorem dX6_rowBy_1 : decode cX6_rowBy 1 = .ok (.bipush 7, 2) := by decide +kernel
theorem dX6_rowBy_3 : decode cX6_rowBy 3 = .ok (.if_icmp .eq 8, 3) := by decide +kernel
theorem dX6_rowBy_6 : decode cX6_rowBy 6 = .ok (.iload_n 0, 1) := by decide +kernel
theorem dX6_rowBy_7 : decode cX6_rowBy 7 = .ok (.iconst 2, 1) := by decide +kernel
theorem dX6_rowBy_8 : decode cX6_rowBy 8 = .ok (.if_icmp .ge 7, 3) := by decide +kernel
theorem dX6_rowBy_11 : decode cX6_rowBy 11 = .ok (.iconst (-1), 1) := by decide +kernel
theorem dX6_rowBy_12 : decode cX6_rowBy 12 = .ok (.goto 17, 3) := by decide +kernel
theorem dX6_rowBy_15 : decode cX6_rowBy 15 = .ok (.iload_n 0, 1) := by decide +kernel
theorem dX6_rowBy_16 : decode cX6_rowBy 16 = .ok (.iconst 3, 1) := by decide +kernel
theorem dX6_rowBy_17 : decode cX6_rowBy 17 = .ok (.iconst 5, 1) := by decide +kernel
theorem dX6_rowBy_18 : decode cX6_rowBy 18 = .ok (.invokestatic 61, 3) := by decide +kernel
theorem dX6_rowBy_21 : decode cX6_rowBy 21 = .ok (.ifCond .eq 7, 3) := by decide +kernel
theorem dX6_rowBy_24 : decode cX6_rowBy 24 = .ok (.iconst 1, 1) := by decide +kernel
theorem dX6_rowBy_25 : decode cX6_rowBy 25 = .ok (.goto 4, 3) := by decide +kernel
theorem dX6_rowBy_28 : decode cX6_rowBy 28 = .ok (.iconst 0, 1) := by decide +kernel
theorem dX6_rowBy_29 : decode cX6_rowBy 29 = .ok (.ireturn, 1) := by decide +kernel
theorem dX6_columnBy_0 : decode cX6_columnBy 0 = .ok (.iload_n 0, 1) := by decide +kernel
theorem dX6_columnBy_1 : decode cX6_columnBy 1 = .ok (.iconst 1, 1) := by decide +kernel
theorem dX6_columnBy_2 : decode cX6_columnBy 2 = .ok (.iconst 3, 1) := by decide +kernel
theorem dX6_columnBy_3 : decode cX6_columnBy 3 = .ok (.invokestatic 61, 3) := by decide +kernel
theorem dX6_columnBy_6 : decode cX6_columnBy 6 = .ok (.ifCond .eq 7, 3) := by decide +kernel
theorem dX6_columnBy_9 : decode cX6_columnBy 9 = .ok (.iconst 1, 1) := by decide +kernel
theorem dX6_columnBy_10 : decode cX6_columnBy 10 = .ok (.goto 18, 3) := by decide +kernel
theorem dX6_columnBy_13 : decode cX6_columnBy 13 = .ok (.iload_n 0, 1) := by decide +kernel
theorem dX6_columnBy_14 : decode cX6_columnBy 14 = .ok (.iconst 5, 1) := by decide +kernel
theorem dX6_columnBy_15 : decode cX6_columnBy 15 = .ok (.bipush 7, 2) := by decide +kernel
theorem dX6_columnBy_17 : decode cX6_columnBy 17 = .ok (.invokestatic 61, 3) := by decide +kernel
theorem dX6_columnBy_20 : decode cX6_columnBy 20 = .ok (.ifCond .eq 7, 3) := by decide +kernel
theorem dX6_columnBy_23 : decode cX6_columnBy 23 = .ok (.iconst (-1), 1) := by decide +kernel
theorem dX6_columnBy_24 : decode cX6_columnBy 24 = .ok (.goto 4, 3) := by decide +kernel
theorem dX6_columnBy_27 : decode cX6_columnBy 27 = .ok (.iconst 0, 1) := by decide +kernel
theorem dX6_columnBy_28 : decode cX6_columnBy 28 = .ok (.ireturn, 1) := by decide +kernel
theorem dX6_bit_0 : decode cX6_bit 0 = .ok (.iload_n 0, 1) := by decide +kernel
theorem dX6_bit_1 : decode cX6_bit 1 = .ok (.iload_n 1, 1) := by decide +kernel
theorem dX6_bit_2 : decode cX6_bit 2 = .ok (.bipush 7, 2) := by decide +kernel
theorem dX6_bit_4 : decode cX6_bit 4 = .ok (.iand, 1) := by decide +kernel
theorem dX6_bit_5 : decode cX6_bit 5 = .ok (.ishr, 1) := by decide +kernel
theorem dX6_bit_6 : decode cX6_bit 6 = .ok (.iconst 1, 1) := by decide +kernel
theorem dX6_bit_7 : decode cX6_bit 7 = .ok (.iand, 1) := by decide +kernel
theorem dX6_bit_8 : decode cX6_bit 8 = .ok (.ireturn, 1) := by decide +kernel
theorem dX6_reduced_0 : decode cX6_reduced 0 = .ok (.iload_n 0, 1) := by decide +kernel
theorem dX6_reduced_1 : decode cX6_reduced 1 = .ok (.istore_n 1, 1) := by decide +kernel
theorem dX6_reduced_2 : decode cX6_reduced 2 = .ok (.iconst 1, 1) := by decide +kernel
theorem dX6_reduced_3 : decode cX6_reduced 3 = .ok (.istore_n 2, 1) := by decide +kernel
theorem dX6_reduced_4 : decode cX6_reduced 4 = .ok (.iload_n 2, 1) := by decide +kernel
theorem dX6_reduced_5 : decode cX6_reduced 5 = .ok (.bipush 8, 2) := by decide +kernel
theorem dX6_reduced_7 : decode cX6_reduced 7 = .ok (.if_icmp .ge 40, 3) := by decide +kernel
theorem dX6_reduced_10 : decode cX6_reduced 10 = .ok (.iload_n 0, 1) := by decide +kernel
theorem dX6_reduced_11 : decode cX6_reduced 11 = .ok (.iload_n 2, 1) := by decide +kernel
theorem dX6_reduced_12 : decode cX6_reduced 12 = .ok (.iconst 1, 1) := by decide +kernel
theorem dX6_reduced_13 : decode cX6_reduced 13 = .ok (.isub, 1) := by decide +kernel
theorem dX6_reduced_14 : decode cX6_reduced 14 = .ok (.invokestatic 80, 3) := by decide +kernel
theorem dX6_reduced_17 : decode cX6_reduced 17 = .ok (.iload_n 0, 1) := by decide +kernel
theorem dX6_reduced_18 : decode cX6_reduced 18 = .ok (.iload_n 2, 1) := by decide +kernel
theorem dX6_reduced_19 : decode cX6_reduced 19 = .ok (.iconst 1, 1) := by decide +kernel
theorem dX6_reduced_20 : decode cX6_reduced 20 = .ok (.iadd, 1) := by decide +kernel
theorem dX6_reduced_21 : decode cX6_reduced 21 = .ok (.invokestatic 80, 3) := by decide +kernel
theorem dX6_reduced_24 : decode cX6_reduced 24 = .ok (.iadd, 1) := by decide +kernel
theorem dX6_reduced_25 : decode cX6_reduced 25 = .ok (.iconst 2, 1) := by decide +kernel
theorem dX6_reduced_26 : decode cX6_reduced 26 = .ok (.if_icmp .ne 7, 3) := by decide +kernel
theorem dX6_reduced_29 : decode cX6_reduced 29 = .ok (.iload_n 1, 1) := by decide +kernel
theorem dX6_reduced_30 : decode cX6_reduced 30 = .ok (.goto 10, 3) := by decide +kernel
theorem dX6_reduced_33 : decode cX6_reduced 33 = .ok (.iload_n 1, 1) := by decide +kernel
theorem dX6_reduced_34 : decode cX6_reduced 34 = .ok (.iconst 1, 1) := by decide +kernel
theorem dX6_reduced_35 : decode cX6_reduced 35 = .ok (.iload_n 2, 1) := by decide +kernel
theorem dX6_reduced_36 : decode cX6_reduced 36 = .ok (.ishl, 1) := by decide +kernel
theorem dX6_reduced_37 : decode cX6_reduced 37 = .ok (.iconst (-1), 1) := by decide +kernel
theorem dX6_reduced_38 : decode cX6_reduced 38 = .ok (.ixor, 1) := by decide +kernel
theorem dX6_reduced_39 : decode cX6_reduced 39 = .ok (.iand, 1) := by decide +kernel
theorem dX6_reduced_40 : decode cX6_reduced 40 = .ok (.istore_n 1, 1) := by decide +kernel
theorem dX6_reduced_41 : decode cX6_reduced 41 = .ok (.iinc 2 2, 3) := by decide +kernel
theorem dX6_reduced_44 : decode cX6_reduced 44 = .ok (.goto (-40), 3) := by decide +kernel
theorem dX6_reduced_47 : decode cX6_reduced 47 = .ok (.iload_n 1, 1) := by decide +kernel
theorem dX6_reduced_48 : decode cX6_reduced 48 = .ok (.ireturn, 1) := by decide +kernel
theorem dX6_isLandBeside_0 : decode cX6_isLandBeside 0 = .ok (.iload_n 1, 1) := by decide +kernel
theorem dX6_isLandBeside_1 : decode cX6_isLandBeside 1 = .ok (.iload_n 3, 1) := by decide +kernel
theorem dX6_isLandBeside_2 : decode cX6_isLandBeside 2 = .ok (.invokestatic 84, 3) := by decide +kernel
theorem dX6_isLandBeside_5 : decode cX6_isLandBeside 5 = .ok (.iadd, 1) := by decide +kernel
theorem dX6_isLandBeside_6 : decode cX6_isLandBeside 6 = .ok (.istore 4, 2) := by decide +kernel
theorem dX6_isLandBeside_8 : decode cX6_isLandBeside 8 = .ok (.iload_n 2, 1) := by decide +kernel
theorem dX6_isLandBeside_9 : decode cX6_isLandBeside 9 = .ok (.iload_n 3, 1) := by decide +kernel
theorem dX6_isLandBeside_10 : decode cX6_isLandBeside 10 = .ok (.invokestatic 87, 3) := by decide +kernel
theorem dX6_isLandBeside_13 : decode cX6_isLandBeside 13 = .ok (.iadd, 1) := by decide +kernel
theorem dX6_isLandBeside_14 : decode cX6_isLandBeside 14 = .ok (.istore 5, 2) := by decide +kernel
theorem dX6_isLandBeside_16 : decode cX6_isLandBeside 16 = .ok (.aload_n 0, 1) := by decide +kernel
theorem dX6_isLandBeside_17 : decode cX6_isLandBeside 17 = .ok (.iload 4, 2) := by decide +kernel
theorem dX6_isLandBeside_19 : decode cX6_isLandBeside 19 = .ok (.iload 5, 2) := by decide +kernel
theorem dX6_isLandBeside_21 : decode cX6_isLandBeside 21 = .ok (.invokevirtual 90, 3) := by decide +kernel
theorem dX6_isLandBeside_24 : decode cX6_isLandBeside 24 = .ok (.ifCond .eq 18, 3) := by decide +kernel
theorem dX6_isLandBeside_27 : decode cX6_isLandBeside 27 = .ok (.aload_n 0, 1) := by decide +kernel
theorem dX6_isLandBeside_28 : decode cX6_isLandBeside 28 = .ok (.aload_n 0, 1) := by decide +kernel
theorem dX6_isLandBeside_29 : decode cX6_isLandBeside 29 = .ok (.iload 4, 2) := by decide +kernel
theorem dX6_isLandBeside_31 : decode cX6_isLandBeside 31 = .ok (.iload 5, 2) := by decide +kernel
theorem dX6_isLandBeside_33 : decode cX6_isLandBeside 33 = .ok (.invokevirtual 94, 3) := by decide +kernel
theorem dX6_isLandBeside_36 : decode cX6_isLandBeside 36 = .ok (.invokevirtual 97, 3) := by decide +kernel
theorem dX6_isLandBeside_39 : decode cX6_isLandBeside 39 = .ok (.goto 18, 3) := by decide +kernel
theorem dX6_isLandBeside_42 : decode cX6_isLandBeside 42 = .ok (.aload_n 0, 1) := by decide +kernel
theorem dX6_isLandBeside_43 : decode cX6_isLandBeside 43 = .ok (.getfield 7, 3) := by decide +kernel
theorem dX6_isLandBeside_46 : decode cX6_isLandBeside 46 = .ok (.iconst 2, 1) := by decide +kernel
theorem dX6_isLandBeside_47 : decode cX6_isLandBeside 47 = .ok (.iaload, 1) := by decide +kernel
theorem dX6_isLandBeside_48 : decode cX6_isLandBeside 48 = .ok (.iconst 1, 1) := by decide +kernel
theorem dX6_isLandBeside_49 : decode cX6_isLandBeside 49 = .ok (.if_icmp .ne 7, 3) := by decide +kernel
theorem dX6_isLandBeside_52 : decode cX6_isLandBeside 52 = .ok (.iconst 1, 1) := by decide +kernel
theorem dX6_isLandBeside_53 : decode cX6_isLandBeside 53 = .ok (.goto 4, 3) := by decide +kernel
theorem dX6_isLandBeside_56 : decode cX6_isLandBeside 56 = .ok (.iconst 0, 1) := by decide +kernel
theorem dX6_isLandBeside_57 : decode cX6_isLandBeside 57 = .ok (.ireturn, 1) := by decide +kernel
theorem dX6_around_0 : decode cX6_around 0 = .ok (.iconst 0, 1) := by decide +kernel
theorem dX6_around_1 : decode cX6_around 1 = .ok (.istore_n 3, 1) := by decide +kernel
theorem dX6_around_2 : decode cX6_around 2 = .ok (.iconst 0, 1) := by decide +kernel
theorem dX6_around_3 : decode cX6_around 3 = .ok (.istore 4, 2) := by decide +kernel
theorem dX6_around_5 : decode cX6_around 5 = .ok (.iload 4, 2) := by decide +kernel
theorem dX6_around_7 : decode cX6_around 7 = .ok (.bipush 8, 2) := by decide +kernel
theorem dX6_around_9 : decode cX6_around 9 = .ok (.if_icmp .ge 31, 3) := by decide +kernel
theorem dX6_around_12 : decode cX6_around 12 = .ok (.iload_n 3, 1) := by decide +kernel
theorem dX6_around_13 : decode cX6_around 13 = .ok (.aload_n 0, 1) := by decide +kernel
theorem dX6_around_14 : decode cX6_around 14 = .ok (.iload_n 1, 1) := by decide +kernel
theorem dX6_around_15 : decode cX6_around 15 = .ok (.iload_n 2, 1) := by decide +kernel
theorem dX6_around_16 : decode cX6_around 16 = .ok (.iload 4, 2) := by decide +kernel
theorem dX6_around_18 : decode cX6_around 18 = .ok (.invokevirtual 101, 3) := by decide +kernel
theorem dX6_around_21 : decode cX6_around 21 = .ok (.ifCond .eq 10, 3) := by decide +kernel
theorem dX6_around_24 : decode cX6_around 24 = .ok (.iconst 1, 1) := by decide +kernel
theorem dX6_around_25 : decode cX6_around 25 = .ok (.iload 4, 2) := by decide +kernel
theorem dX6_around_27 : decode cX6_around 27 = .ok (.ishl, 1) := by decide +kernel
theorem dX6_around_28 : decode cX6_around 28 = .ok (.goto 4, 3) := by decide +kernel
theorem dX6_around_31 : decode cX6_around 31 = .ok (.iconst 0, 1) := by decide +kernel
theorem dX6_around_32 : decode cX6_around 32 = .ok (.ior, 1) := by decide +kernel
theorem dX6_around_33 : decode cX6_around 33 = .ok (.istore_n 3, 1) := by decide +kernel
theorem dX6_around_34 : decode cX6_around 34 = .ok (.iinc 4 1, 3) := by decide +kernel
theorem dX6_around_37 : decode cX6_around 37 = .ok (.goto (-32), 3) := by decide +kernel
theorem dX6_around_40 : decode cX6_around 40 = .ok (.iload_n 3, 1) := by decide +kernel
theorem dX6_around_41 : decode cX6_around 41 = .ok (.ireturn, 1) := by decide +kernel
theorem dX6_right_0 : decode cX6_right 0 = .ok (.aload_n 0, 1) := by decide +kernel
theorem dX6_right_1 : decode cX6_right 1 = .ok (.getfield 26, 3) := by decide +kernel
theorem dX6_right_4 : decode cX6_right 4 = .ok (.aload_n 0, 1) := by decide +kernel
theorem dX6_right_5 : decode cX6_right 5 = .ok (.iload_n 1, 1) := by decide +kernel
theorem dX6_right_6 : decode cX6_right 6 = .ok (.aload_n 0, 1) := by decide +kernel
theorem dX6_right_7 : decode cX6_right 7 = .ok (.getfield 7, 3) := by decide +kernel
theorem dX6_right_10 : decode cX6_right 10 = .ok (.iconst 1, 1) := by decide +kernel
theorem dX6_right_11 : decode cX6_right 11 = .ok (.iaload, 1) := by decide +kernel
theorem dX6_right_12 : decode cX6_right 12 = .ok (.idiv, 1) := by decide +kernel
theorem dX6_right_13 : decode cX6_right 13 = .ok (.iload_n 1, 1) := by decide +kernel
theorem dX6_right_14 : decode cX6_right 14 = .ok (.aload_n 0, 1) := by decide +kernel
theorem dX6_right_15 : decode cX6_right 15 = .ok (.getfield 7, 3) := by decide +kernel
theorem dX6_right_18 : decode cX6_right 18 = .ok (.iconst 1, 1) := by decide +kernel
theorem dX6_right_19 : decode cX6_right 19 = .ok (.iaload, 1) := by decide +kernel
theorem dX6_right_20 : decode cX6_right 20 = .ok (.irem, 1) := by decide +kernel
theorem dX6_right_21 : decode cX6_right 21 = .ok (.invokevirtual 104, 3) := by decide +kernel
theorem dX6_right_24 : decode cX6_right 24 = .ok (.invokestatic 54, 3) := by decide +kernel
theorem dX6_right_27 : decode cX6_right 27 = .ok (.iaload, 1) := by decide +kernel
theorem dX6_right_28 : decode cX6_right 28 = .ok (.ireturn, 1) := by decide +kernel
theorem dX6_shapeAt_0 : decode cX6_shapeAt 0 = .ok (.aload_n 0, 1) := by decide +kernel
theorem dX6_shapeAt_1 : decode cX6_shapeAt 1 = .ok (.iload_n 1, 1) := by decide +kernel
theorem dX6_shapeAt_2 : decode cX6_shapeAt 2 = .ok (.invokevirtual 97, 3) := by decide +kernel
theorem dX6_shapeAt_5 : decode cX6_shapeAt 5 = .ok (.ifCond .ne 8, 3) := by decide +kernel
theorem dX6_shapeAt_8 : decode cX6_shapeAt 8 = .ok (.bipush (-6), 2) := by decide +kernel
theorem dX6_shapeAt_10 : decode cX6_shapeAt 10 = .ok (.goto 36, 3) := by decide +kernel
theorem dX6_shapeAt_13 : decode cX6_shapeAt 13 = .ok (.aload_n 0, 1) := by decide +kernel
theorem dX6_shapeAt_14 : decode cX6_shapeAt 14 = .ok (.getfield 7, 3) := by decide +kernel
theorem dX6_shapeAt_17 : decode cX6_shapeAt 17 = .ok (.sipush 147, 3) := by decide +kernel
theorem dX6_shapeAt_20 : decode cX6_shapeAt 20 = .ok (.iload_n 1, 1) := by decide +kernel
theorem dX6_shapeAt_21 : decode cX6_shapeAt 21 = .ok (.iadd, 1) := by decide +kernel
theorem dX6_shapeAt_22 : decode cX6_shapeAt 22 = .ok (.iaload, 1) := by decide +kernel
theorem dX6_shapeAt_23 : decode cX6_shapeAt 23 = .ok (.bipush (-6), 2) := by decide +kernel
theorem dX6_shapeAt_25 : decode cX6_shapeAt 25 = .ok (.if_icmp .eq 16, 3) := by decide +kernel
theorem dX6_shapeAt_28 : decode cX6_shapeAt 28 = .ok (.aload_n 0, 1) := by decide +kernel
theorem dX6_shapeAt_29 : decode cX6_shapeAt 29 = .ok (.getfield 7, 3) := by decide +kernel
theorem dX6_shapeAt_32 : decode cX6_shapeAt 32 = .ok (.sipush 147, 3) := by decide +kernel
theorem dX6_shapeAt_35 : decode cX6_shapeAt 35 = .ok (.iload_n 1, 1) := by decide +kernel
theorem dX6_shapeAt_36 : decode cX6_shapeAt 36 = .ok (.iadd, 1) := by decide +kernel
theorem dX6_shapeAt_37 : decode cX6_shapeAt 37 = .ok (.iaload, 1) := by decide +kernel
theorem dX6_shapeAt_38 : decode cX6_shapeAt 38 = .ok (.goto 8, 3) := by decide +kernel
theorem dX6_shapeAt_41 : decode cX6_shapeAt 41 = .ok (.aload_n 0, 1) := by decide +kernel
theorem dX6_shapeAt_42 : decode cX6_shapeAt 42 = .ok (.iload_n 1, 1) := by decide +kernel
theorem dX6_shapeAt_43 : decode cX6_shapeAt 43 = .ok (.invokevirtual 107, 3) := by decide +kernel
theorem dX6_shapeAt_46 : decode cX6_shapeAt 46 = .ok (.ireturn, 1) := by decide +kernel
theorem dX6_bits_0 : decode cX6_bits 0 = .ok (.iconst 0, 1) := by decide +kernel
theorem dX6_bits_1 : decode cX6_bits 1 = .ok (.istore_n 1, 1) := by decide +kernel
theorem dX6_bits_2 : decode cX6_bits 2 = .ok (.iconst 0, 1) := by decide +kernel
theorem dX6_bits_3 : decode cX6_bits 3 = .ok (.istore_n 2, 1) := by decide +kernel
theorem dX6_bits_4 : decode cX6_bits 4 = .ok (.iload_n 2, 1) := by decide +kernel
theorem dX6_bits_5 : decode cX6_bits 5 = .ok (.bipush 8, 2) := by decide +kernel
theorem dX6_bits_7 : decode cX6_bits 7 = .ok (.if_icmp .ge 17, 3) := by decide +kernel
theorem dX6_bits_10 : decode cX6_bits 10 = .ok (.iload_n 1, 1) := by decide +kernel
theorem dX6_bits_11 : decode cX6_bits 11 = .ok (.iload_n 0, 1) := by decide +kernel
theorem dX6_bits_12 : decode cX6_bits 12 = .ok (.iload_n 2, 1) := by decide +kernel
theorem dX6_bits_13 : decode cX6_bits 13 = .ok (.ishr, 1) := by decide +kernel
theorem dX6_bits_14 : decode cX6_bits 14 = .ok (.iconst 1, 1) := by decide +kernel
theorem dX6_bits_15 : decode cX6_bits 15 = .ok (.iand, 1) := by decide +kernel
theorem dX6_bits_16 : decode cX6_bits 16 = .ok (.iadd, 1) := by decide +kernel
theorem dX6_bits_17 : decode cX6_bits 17 = .ok (.istore_n 1, 1) := by decide +kernel
theorem dX6_bits_18 : decode cX6_bits 18 = .ok (.iinc 2 1, 3) := by decide +kernel
theorem dX6_bits_21 : decode cX6_bits 21 = .ok (.goto (-17), 3) := by decide +kernel
theorem dX6_bits_24 : decode cX6_bits 24 = .ok (.iload_n 1, 1) := by decide +kernel
theorem dX6_bits_25 : decode cX6_bits 25 = .ok (.ireturn, 1) := by decide +kernel
theorem dX6_faultsAt_0 : decode cX6_faultsAt 0 = .ok (.aload_n 0, 1) := by decide +kernel
theorem dX6_faultsAt_1 : decode cX6_faultsAt 1 = .ok (.iload_n 1, 1) := by decide +kernel
theorem dX6_faultsAt_2 : decode cX6_faultsAt 2 = .ok (.invokevirtual 97, 3) := by decide +kernel
theorem dX6_faultsAt_5 : decode cX6_faultsAt 5 = .ok (.ifCond .eq 30, 3) := by decide +kernel
theorem dX6_faultsAt_8 : decode cX6_faultsAt 8 = .ok (.aload_n 0, 1) := by decide +kernel
theorem dX6_faultsAt_9 : decode cX6_faultsAt 9 = .ok (.getfield 23, 3) := by decide +kernel
theorem dX6_faultsAt_12 : decode cX6_faultsAt 12 = .ok (.aload_n 0, 1) := by decide +kernel
theorem dX6_faultsAt_13 : decode cX6_faultsAt 13 = .ok (.iload_n 1, 1) := by decide +kernel
theorem dX6_faultsAt_14 : decode cX6_faultsAt 14 = .ok (.invokevirtual 110, 3) := by decide +kernel
theorem dX6_faultsAt_17 : decode cX6_faultsAt 17 = .ok (.iaload, 1) := by decide +kernel
theorem dX6_faultsAt_18 : decode cX6_faultsAt 18 = .ok (.aload_n 0, 1) := by decide +kernel
theorem dX6_faultsAt_19 : decode cX6_faultsAt 19 = .ok (.getfield 23, 3) := by decide +kernel
theorem dX6_faultsAt_22 : decode cX6_faultsAt 22 = .ok (.aload_n 0, 1) := by decide +kernel
theorem dX6_faultsAt_23 : decode cX6_faultsAt 23 = .ok (.iload_n 1, 1) := by decide +kernel
theorem dX6_faultsAt_24 : decode cX6_faultsAt 24 = .ok (.invokevirtual 107, 3) := by decide +kernel
theorem dX6_faultsAt_27 : decode cX6_faultsAt 27 = .ok (.iaload, 1) := by decide +kernel
theorem dX6_faultsAt_28 : decode cX6_faultsAt 28 = .ok (.ixor, 1) := by decide +kernel
theorem dX6_faultsAt_29 : decode cX6_faultsAt 29 = .ok (.invokestatic 113, 3) := by decide +kernel
theorem dX6_faultsAt_32 : decode cX6_faultsAt 32 = .ok (.goto 4, 3) := by decide +kernel
theorem dX6_faultsAt_35 : decode cX6_faultsAt 35 = .ok (.iconst 0, 1) := by decide +kernel
theorem dX6_faultsAt_36 : decode cX6_faultsAt 36 = .ok (.ireturn, 1) := by decide +kernel
theorem dX6_begin_0 : decode cX6_begin 0 = .ok (.iload_n 1, 1) := by decide +kernel
theorem dX6_begin_1 : decode cX6_begin 1 = .ok (.iconst 1, 1) := by decide +kernel
theorem dX6_begin_2 : decode cX6_begin 2 = .ok (.bipush 12, 2) := by decide +kernel
theorem dX6_begin_4 : decode cX6_begin 4 = .ok (.invokestatic 61, 3) := by decide +kernel
theorem dX6_begin_7 : decode cX6_begin 7 = .ok (.ifCond .eq 13, 3) := by decide +kernel
theorem dX6_begin_10 : decode cX6_begin 10 = .ok (.iload_n 2, 1) := by decide +kernel
theorem dX6_begin_11 : decode cX6_begin 11 = .ok (.iconst 1, 1) := by decide +kernel
theorem dX6_begin_12 : decode cX6_begin 12 = .ok (.bipush 12, 2) := by decide +kernel
theorem dX6_begin_14 : decode cX6_begin 14 = .ok (.invokestatic 61, 3) := by decide +kernel
theorem dX6_begin_17 : decode cX6_begin 17 = .ok (.ifCond .ne 6, 3) := by decide +kernel
theorem dX6_begin_20 : decode cX6_begin 20 = .ok (.bipush (-2), 2) := by decide +kernel
theorem dX6_begin_22 : decode cX6_begin 22 = .ok (.ireturn, 1) := by decide +kernel
theorem dX6_begin_23 : decode cX6_begin 23 = .ok (.aload_n 0, 1) := by decide +kernel
theorem dX6_begin_24 : decode cX6_begin 24 = .ok (.invokevirtual 77, 3) := by decide +kernel
theorem dX6_begin_27 : decode cX6_begin 27 = .ok (.aload_n 0, 1) := by decide +kernel
theorem dX6_begin_28 : decode cX6_begin 28 = .ok (.getfield 7, 3) := by decide +kernel
theorem dX6_begin_31 : decode cX6_begin 31 = .ok (.iconst 0, 1) := by decide +kernel
theorem dX6_begin_32 : decode cX6_begin 32 = .ok (.iload_n 1, 1) := by decide +kernel
theorem dX6_begin_33 : decode cX6_begin 33 = .ok (.iastore, 1) := by decide +kernel
theorem dX6_begin_34 : decode cX6_begin 34 = .ok (.aload_n 0, 1) := by decide +kernel
theorem dX6_begin_35 : decode cX6_begin 35 = .ok (.getfield 7, 3) := by decide +kernel
theorem dX6_begin_38 : decode cX6_begin 38 = .ok (.iconst 1, 1) := by decide +kernel
theorem dX6_begin_39 : decode cX6_begin 39 = .ok (.iload_n 2, 1) := by decide +kernel
theorem dX6_begin_40 : decode cX6_begin 40 = .ok (.iastore, 1) := by decide +kernel
theorem dX6_begin_41 : decode cX6_begin 41 = .ok (.aload_n 0, 1) := by decide +kernel
theorem dX6_begin_42 : decode cX6_begin 42 = .ok (.invokevirtual 58, 3) := by decide +kernel
theorem dX6_begin_45 : decode cX6_begin 45 = .ok (.aload_n 0, 1) := by decide +kernel
theorem dX6_begin_46 : decode cX6_begin 46 = .ok (.invokevirtual 116, 3) := by decide +kernel
theorem dX6_begin_49 : decode cX6_begin 49 = .ok (.ireturn, 1) := by decide +kernel
theorem dX6_lookShapes_0 : decode cX6_lookShapes 0 = .ok (.iconst 0, 1) := by decide +kernel
theorem dX6_lookShapes_1 : decode cX6_lookShapes 1 = .ok (.istore_n 1, 1) := by decide +kernel
theorem dX6_lookShapes_2 : decode cX6_lookShapes 2 = .ok (.iload_n 1, 1) := by decide +kernel
theorem dX6_lookShapes_3 : decode cX6_lookShapes 3 = .ok (.aload_n 0, 1) := by decide +kernel
theorem dX6_lookShapes_4 : decode cX6_lookShapes 4 = .ok (.invokevirtual 116, 3) := by decide +kernel
theorem dX6_lookShapes_7 : decode cX6_lookShapes 7 = .ok (.if_icmp .ge 20, 3) := by decide +kernel
theorem dX6_lookShapes_10 : decode cX6_lookShapes 10 = .ok (.aload_n 0, 1) := by decide +kernel
theorem dX6_lookShapes_11 : decode cX6_lookShapes 11 = .ok (.getfield 29, 3) := by decide +kernel
theorem dX6_lookShapes_14 : decode cX6_lookShapes 14 = .ok (.iload_n 1, 1) := by decide +kernel
theorem dX6_lookShapes_15 : decode cX6_lookShapes 15 = .ok (.aload_n 0, 1) := by decide +kernel
theorem dX6_lookShapes_16 : decode cX6_lookShapes 16 = .ok (.iload_n 1, 1) := by decide +kernel
theorem dX6_lookShapes_17 : decode cX6_lookShapes 17 = .ok (.invokevirtual 110, 3) := by decide +kernel
theorem dX6_lookShapes_20 : decode cX6_lookShapes 20 = .ok (.iastore, 1) := by decide +kernel
theorem dX6_lookShapes_21 : decode cX6_lookShapes 21 = .ok (.iinc 1 1, 3) := by decide +kernel
theorem dX6_lookShapes_24 : decode cX6_lookShapes 24 = .ok (.goto (-22), 3) := by decide +kernel
theorem dX6_lookShapes_27 : decode cX6_lookShapes 27 = .ok (.return_, 1) := by decide +kernel
theorem dX6_reshaped_0 : decode cX6_reshaped 0 = .ok (.iconst 0, 1) := by decide +kernel
theorem dX6_reshaped_1 : decode cX6_reshaped 1 = .ok (.istore_n 1, 1) := by decide +kernel
theorem dX6_reshaped_2 : decode cX6_reshaped 2 = .ok (.iconst 0, 1) := by decide +kernel
theorem dX6_reshaped_3 : decode cX6_reshaped 3 = .ok (.istore_n 2, 1) := by decide +kernel
theorem dX6_reshaped_4 : decode cX6_reshaped 4 = .ok (.iload_n 2, 1) := by decide +kernel
theorem dX6_reshaped_5 : decode cX6_reshaped 5 = .ok (.aload_n 0, 1) := by decide +kernel
theorem dX6_reshaped_6 : decode cX6_reshaped 6 = .ok (.invokevirtual 116, 3) := by decide +kernel
theorem dX6_reshaped_9 : decode cX6_reshaped 9 = .ok (.if_icmp .ge 50, 3) := by decide +kernel
theorem dX6_reshaped_12 : decode cX6_reshaped 12 = .ok (.iload_n 1, 1) := by decide +kernel
theorem dX6_reshaped_13 : decode cX6_reshaped 13 = .ok (.aload_n 0, 1) := by decide +kernel
theorem dX6_reshaped_14 : decode cX6_reshaped 14 = .ok (.getfield 29, 3) := by decide +kernel
theorem dX6_reshaped_17 : decode cX6_reshaped 17 = .ok (.iload_n 2, 1) := by decide +kernel
theorem dX6_reshaped_18 : decode cX6_reshaped 18 = .ok (.iaload, 1) := by decide +kernel
theorem dX6_reshaped_19 : decode cX6_reshaped 19 = .ok (.bipush (-6), 2) := by decide +kernel
theorem dX6_reshaped_21 : decode cX6_reshaped 21 = .ok (.if_icmp .eq 29, 3) := by decide +kernel
theorem dX6_reshaped_24 : decode cX6_reshaped 24 = .ok (.aload_n 0, 1) := by decide +kernel
theorem dX6_reshaped_25 : decode cX6_reshaped 25 = .ok (.iload_n 2, 1) := by decide +kernel
theorem dX6_reshaped_26 : decode cX6_reshaped 26 = .ok (.invokevirtual 97, 3) := by decide +kernel
theorem dX6_reshaped_29 : decode cX6_reshaped 29 = .ok (.ifCond .eq 21, 3) := by decide +kernel
theorem dX6_reshaped_32 : decode cX6_reshaped 32 = .ok (.aload_n 0, 1) := by decide +kernel
theorem dX6_reshaped_33 : decode cX6_reshaped 33 = .ok (.iload_n 2, 1) := by decide +kernel
theorem dX6_reshaped_34 : decode cX6_reshaped 34 = .ok (.invokevirtual 110, 3) := by decide +kernel
theorem dX6_reshaped_37 : decode cX6_reshaped 37 = .ok (.aload_n 0, 1) := by decide +kernel
theorem dX6_reshaped_38 : decode cX6_reshaped 38 = .ok (.getfield 29, 3) := by decide +kernel
theorem dX6_reshaped_41 : decode cX6_reshaped 41 = .ok (.iload_n 2, 1) := by decide +kernel
theorem dX6_reshaped_42 : decode cX6_reshaped 42 = .ok (.iaload, 1) := by decide +kernel
theorem dX6_reshaped_43 : decode cX6_reshaped 43 = .ok (.if_icmp .eq 7, 3) := by decide +kernel
theorem dX6_reshaped_46 : decode cX6_reshaped 46 = .ok (.iconst 1, 1) := by decide +kernel
theorem dX6_reshaped_47 : decode cX6_reshaped 47 = .ok (.goto 4, 3) := by decide +kernel
theorem dX6_reshaped_50 : decode cX6_reshaped 50 = .ok (.iconst 0, 1) := by decide +kernel
theorem dX6_reshaped_51 : decode cX6_reshaped 51 = .ok (.iadd, 1) := by decide +kernel
theorem dX6_reshaped_52 : decode cX6_reshaped 52 = .ok (.istore_n 1, 1) := by decide +kernel
theorem dX6_reshaped_53 : decode cX6_reshaped 53 = .ok (.iinc 2 1, 3) := by decide +kernel
theorem dX6_reshaped_56 : decode cX6_reshaped 56 = .ok (.goto (-52), 3) := by decide +kernel
theorem dX6_reshaped_59 : decode cX6_reshaped 59 = .ok (.iload_n 1, 1) := by decide +kernel
theorem dX6_reshaped_60 : decode cX6_reshaped 60 = .ok (.ireturn, 1) := by decide +kernel
theorem dX6_setOutside_0 : decode cX6_setOutside 0 = .ok (.aload_n 0, 1) := by decide +kernel
theorem dX6_setOutside_1 : decode cX6_setOutside 1 = .ok (.invokevirtual 77, 3) := by decide +kernel
theorem dX6_setOutside_4 : decode cX6_setOutside 4 = .ok (.aload_n 0, 1) := by decide +kernel
theorem dX6_setOutside_5 : decode cX6_setOutside 5 = .ok (.invokevirtual 119, 3) := by decide +kernel
theorem dX6_setOutside_8 : decode cX6_setOutside 8 = .ok (.aload_n 0, 1) := by decide +kernel
theorem dX6_setOutside_9 : decode cX6_setOutside 9 = .ok (.getfield 7, 3) := by decide +kernel
theorem dX6_setOutside_12 : decode cX6_setOutside 12 = .ok (.iconst 2, 1) := by decide +kernel
theorem dX6_setOutside_13 : decode cX6_setOutside 13 = .ok (.iload_n 1, 1) := by decide +kernel
theorem dX6_setOutside_14 : decode cX6_setOutside 14 = .ok (.ifCond .eq 7, 3) := by decide +kernel
theorem dX6_setOutside_17 : decode cX6_setOutside 17 = .ok (.iconst 1, 1) := by decide +kernel
theorem dX6_setOutside_18 : decode cX6_setOutside 18 = .ok (.goto 4, 3) := by decide +kernel
theorem dX6_setOutside_21 : decode cX6_setOutside 21 = .ok (.iconst 0, 1) := by decide +kernel
theorem dX6_setOutside_22 : decode cX6_setOutside 22 = .ok (.iastore, 1) := by decide +kernel
theorem dX6_setOutside_23 : decode cX6_setOutside 23 = .ok (.aload_n 0, 1) := by decide +kernel
theorem dX6_setOutside_24 : decode cX6_setOutside 24 = .ok (.invokevirtual 122, 3) := by decide +kernel
theorem dX6_setOutside_27 : decode cX6_setOutside 27 = .ok (.ireturn, 1) := by decide +kernel
theorem dX6_becomes_0 : decode cX6_becomes 0 = .ok (.aload_n 0, 1) := by decide +kernel
theorem dX6_becomes_1 : decode cX6_becomes 1 = .ok (.iload_n 1, 1) := by decide +kernel
theorem dX6_becomes_2 : decode cX6_becomes 2 = .ok (.invokevirtual 97, 3) := by decide +kernel
theorem dX6_becomes_5 : decode cX6_becomes 5 = .ok (.iload_n 2, 1) := by decide +kernel
theorem dX6_becomes_6 : decode cX6_becomes 6 = .ok (.if_icmp .eq 7, 3) := by decide +kernel
theorem dX6_becomes_9 : decode cX6_becomes 9 = .ok (.iconst 1, 1) := by decide +kernel
theorem dX6_becomes_10 : decode cX6_becomes 10 = .ok (.goto 4, 3) := by decide +kernel
theorem dX6_becomes_13 : decode cX6_becomes 13 = .ok (.iconst 0, 1) := by decide +kernel
theorem dX6_becomes_14 : decode cX6_becomes 14 = .ok (.istore_n 3, 1) := by decide +kernel
theorem dX6_becomes_15 : decode cX6_becomes 15 = .ok (.aload_n 0, 1) := by decide +kernel
theorem dX6_becomes_16 : decode cX6_becomes 16 = .ok (.getfield 7, 3) := by decide +kernel
theorem dX6_becomes_19 : decode cX6_becomes 19 = .ok (.iconst 3, 1) := by decide +kernel
theorem dX6_becomes_20 : decode cX6_becomes 20 = .ok (.iload_n 1, 1) := by decide +kernel
theorem dX6_becomes_21 : decode cX6_becomes 21 = .ok (.iadd, 1) := by decide +kernel
theorem dX6_becomes_22 : decode cX6_becomes 22 = .ok (.iload_n 2, 1) := by decide +kernel
theorem dX6_becomes_23 : decode cX6_becomes 23 = .ok (.ifCond .eq 7, 3) := by decide +kernel
theorem dX6_becomes_26 : decode cX6_becomes 26 = .ok (.iconst 1, 1) := by decide +kernel
theorem dX6_becomes_27 : decode cX6_becomes 27 = .ok (.goto 4, 3) := by decide +kernel
theorem dX6_becomes_30 : decode cX6_becomes 30 = .ok (.iconst 0, 1) := by decide +kernel
theorem dX6_becomes_31 : decode cX6_becomes 31 = .ok (.iastore, 1) := by decide +kernel
theorem dX6_becomes_32 : decode cX6_becomes 32 = .ok (.aload_n 0, 1) := by decide +kernel
theorem dX6_becomes_33 : decode cX6_becomes 33 = .ok (.getfield 7, 3) := by decide +kernel
theorem dX6_becomes_36 : decode cX6_becomes 36 = .ok (.sipush 147, 3) := by decide +kernel
theorem dX6_becomes_39 : decode cX6_becomes 39 = .ok (.iload_n 1, 1) := by decide +kernel
theorem dX6_becomes_40 : decode cX6_becomes 40 = .ok (.iadd, 1) := by decide +kernel
theorem dX6_becomes_41 : decode cX6_becomes 41 = .ok (.iload_n 2, 1) := by decide +kernel
theorem dX6_becomes_42 : decode cX6_becomes 42 = .ok (.ifCond .eq 16, 3) := by decide +kernel
theorem dX6_becomes_45 : decode cX6_becomes 45 = .ok (.aload_n 0, 1) := by decide +kernel
theorem dX6_becomes_46 : decode cX6_becomes 46 = .ok (.getfield 7, 3) := by decide +kernel
theorem dX6_becomes_49 : decode cX6_becomes 49 = .ok (.sipush 147, 3) := by decide +kernel
theorem dX6_becomes_52 : decode cX6_becomes 52 = .ok (.iload_n 1, 1) := by decide +kernel
theorem dX6_becomes_53 : decode cX6_becomes 53 = .ok (.iadd, 1) := by decide +kernel
theorem dX6_becomes_54 : decode cX6_becomes 54 = .ok (.iaload, 1) := by decide +kernel
theorem dX6_becomes_55 : decode cX6_becomes 55 = .ok (.goto 5, 3) := by decide +kernel
theorem dX6_becomes_58 : decode cX6_becomes 58 = .ok (.bipush (-6), 2) := by decide +kernel
theorem dX6_becomes_60 : decode cX6_becomes 60 = .ok (.iastore, 1) := by decide +kernel
theorem dX6_becomes_61 : decode cX6_becomes 61 = .ok (.iload_n 3, 1) := by decide +kernel
theorem dX6_becomes_62 : decode cX6_becomes 62 = .ok (.ireturn, 1) := by decide +kernel
theorem dX6_set_0 : decode cX6_set 0 = .ok (.aload_n 0, 1) := by decide +kernel
theorem dX6_set_1 : decode cX6_set 1 = .ok (.iload_n 1, 1) := by decide +kernel
theorem dX6_set_2 : decode cX6_set 2 = .ok (.iload_n 2, 1) := by decide +kernel
theorem dX6_set_3 : decode cX6_set 3 = .ok (.invokevirtual 90, 3) := by decide +kernel
theorem dX6_set_6 : decode cX6_set 6 = .ok (.ifCond .ne 5, 3) := by decide +kernel
theorem dX6_set_9 : decode cX6_set 9 = .ok (.iconst (-1), 1) := by decide +kernel
theorem dX6_set_10 : decode cX6_set 10 = .ok (.ireturn, 1) := by decide +kernel
theorem dX6_set_11 : decode cX6_set 11 = .ok (.aload_n 0, 1) := by decide +kernel
theorem dX6_set_12 : decode cX6_set 12 = .ok (.invokevirtual 77, 3) := by decide +kernel
theorem dX6_set_15 : decode cX6_set 15 = .ok (.aload_n 0, 1) := by decide +kernel
theorem dX6_set_16 : decode cX6_set 16 = .ok (.invokevirtual 119, 3) := by decide +kernel
theorem dX6_set_19 : decode cX6_set 19 = .ok (.aload_n 0, 1) := by decide +kernel
theorem dX6_set_20 : decode cX6_set 20 = .ok (.aload_n 0, 1) := by decide +kernel
theorem dX6_set_21 : decode cX6_set 21 = .ok (.iload_n 1, 1) := by decide +kernel
theorem dX6_set_22 : decode cX6_set 22 = .ok (.iload_n 2, 1) := by decide +kernel
theorem dX6_set_23 : decode cX6_set 23 = .ok (.invokevirtual 94, 3) := by decide +kernel
theorem dX6_set_26 : decode cX6_set 26 = .ok (.iload_n 3, 1) := by decide +kernel
theorem dX6_set_27 : decode cX6_set 27 = .ok (.invokevirtual 125, 3) := by decide +kernel
theorem dX6_set_30 : decode cX6_set 30 = .ok (.pop, 1) := by decide +kernel
theorem dX6_set_31 : decode cX6_set 31 = .ok (.aload_n 0, 1) := by decide +kernel
theorem dX6_set_32 : decode cX6_set 32 = .ok (.invokevirtual 122, 3) := by decide +kernel
theorem dX6_set_35 : decode cX6_set 35 = .ok (.ireturn, 1) := by decide +kernel
theorem dX6_findRegion_0 : decode cX6_findRegion 0 = .ok (.iconst 0, 1) := by decide +kernel
theorem dX6_findRegion_1 : decode cX6_findRegion 1 = .ok (.istore_n 3, 1) := by decide +kernel
theorem dX6_findRegion_2 : decode cX6_findRegion 2 = .ok (.iload_n 3, 1) := by decide +kernel
theorem dX6_findRegion_3 : decode cX6_findRegion 3 = .ok (.sipush 144, 3) := by decide +kernel
theorem dX6_findRegion_6 : decode cX6_findRegion 6 = .ok (.if_icmp .ge 17, 3) := by decide +kernel
theorem dX6_findRegion_9 : decode cX6_findRegion 9 = .ok (.aload_n 0, 1) := by decide +kernel
theorem dX6_findRegion_10 : decode cX6_findRegion 10 = .ok (.getfield 35, 3) := by decide +kernel
theorem dX6_findRegion_13 : decode cX6_findRegion 13 = .ok (.iload_n 3, 1) := by decide +kernel
theorem dX6_findRegion_14 : decode cX6_findRegion 14 = .ok (.bipush (-6), 2) := by decide +kernel
theorem dX6_findRegion_16 : decode cX6_findRegion 16 = .ok (.iastore, 1) := by decide +kernel
theorem dX6_findRegion_17 : decode cX6_findRegion 17 = .ok (.iinc 3 1, 3) := by decide +kernel
theorem dX6_findRegion_20 : decode cX6_findRegion 20 = .ok (.goto (-18), 3) := by decide +kernel
theorem dX6_findRegion_23 : decode cX6_findRegion 23 = .ok (.aload_n 0, 1) := by decide +kernel
theorem dX6_findRegion_24 : decode cX6_findRegion 24 = .ok (.getfield 35, 3) := by decide +kernel
theorem dX6_findRegion_27 : decode cX6_findRegion 27 = .ok (.iload_n 1, 1) := by decide +kernel
theorem dX6_findRegion_28 : decode cX6_findRegion 28 = .ok (.iconst 0, 1) := by decide +kernel
theorem dX6_findRegion_29 : decode cX6_findRegion 29 = .ok (.iastore, 1) := by decide +kernel
theorem dX6_findRegion_30 : decode cX6_findRegion 30 = .ok (.aload_n 0, 1) := by decide +kernel
theorem dX6_findRegion_31 : decode cX6_findRegion 31 = .ok (.getfield 32, 3) := by decide +kernel
theorem dX6_findRegion_34 : decode cX6_findRegion 34 = .ok (.iconst 0, 1) := by decide +kernel
theorem dX6_findRegion_35 : decode cX6_findRegion 35 = .ok (.iload_n 1, 1) := by decide +kernel
theorem dX6_findRegion_36 : decode cX6_findRegion 36 = .ok (.iastore, 1) := by decide +kernel
theorem dX6_findRegion_37 : decode cX6_findRegion 37 = .ok (.aload_n 0, 1) := by decide +kernel
theorem dX6_findRegion_38 : decode cX6_findRegion 38 = .ok (.iconst 1, 1) := by decide +kernel
theorem dX6_findRegion_39 : decode cX6_findRegion 39 = .ok (.putfield 129, 3) := by decide +kernel
theorem dX6_findRegion_42 : decode cX6_findRegion 42 = .ok (.iconst 0, 1) := by decide +kernel
theorem dX6_findRegion_43 : decode cX6_findRegion 43 = .ok (.istore_n 3, 1) := by decide +kernel
theorem dX6_findRegion_44 : decode cX6_findRegion 44 = .ok (.iload_n 3, 1) := by decide +kernel
theorem dX6_findRegion_45 : decode cX6_findRegion 45 = .ok (.aload_n 0, 1) := by decide +kernel
theorem dX6_findRegion_46 : decode cX6_findRegion 46 = .ok (.getfield 129, 3) := by decide +kernel
theorem dX6_findRegion_49 : decode cX6_findRegion 49 = .ok (.if_icmp .ge 188, 3) := by decide +kernel
theorem dX6_findRegion_52 : decode cX6_findRegion 52 = .ok (.aload_n 0, 1) := by decide +kernel
theorem dX6_findRegion_53 : decode cX6_findRegion 53 = .ok (.getfield 32, 3) := by decide +kernel
theorem dX6_findRegion_56 : decode cX6_findRegion 56 = .ok (.iload_n 3, 1) := by decide +kernel
theorem dX6_findRegion_57 : decode cX6_findRegion 57 = .ok (.iaload, 1) := by decide +kernel
theorem dX6_findRegion_58 : decode cX6_findRegion 58 = .ok (.aload_n 0, 1) := by decide +kernel
theorem dX6_findRegion_59 : decode cX6_findRegion 59 = .ok (.getfield 7, 3) := by decide +kernel
theorem dX6_findRegion_62 : decode cX6_findRegion 62 = .ok (.iconst 1, 1) := by decide +kernel
theorem dX6_findRegion_63 : decode cX6_findRegion 63 = .ok (.iaload, 1) := by decide +kernel
theorem dX6_findRegion_64 : decode cX6_findRegion 64 = .ok (.idiv, 1) := by decide +kernel
theorem dX6_findRegion_65 : decode cX6_findRegion 65 = .ok (.istore 4, 2) := by decide +kernel
theorem dX6_findRegion_67 : decode cX6_findRegion 67 = .ok (.aload_n 0, 1) := by decide +kernel
theorem dX6_findRegion_68 : decode cX6_findRegion 68 = .ok (.getfield 32, 3) := by decide +kernel
theorem dX6_findRegion_71 : decode cX6_findRegion 71 = .ok (.iload_n 3, 1) := by decide +kernel
theorem dX6_findRegion_72 : decode cX6_findRegion 72 = .ok (.iaload, 1) := by decide +kernel
theorem dX6_findRegion_73 : decode cX6_findRegion 73 = .ok (.aload_n 0, 1) := by decide +kernel
theorem dX6_findRegion_74 : decode cX6_findRegion 74 = .ok (.getfield 7, 3) := by decide +kernel
theorem dX6_findRegion_77 : decode cX6_findRegion 77 = .ok (.iconst 1, 1) := by decide +kernel
theorem dX6_findRegion_78 : decode cX6_findRegion 78 = .ok (.iaload, 1) := by decide +kernel
theorem dX6_findRegion_79 : decode cX6_findRegion 79 = .ok (.irem, 1) := by decide +kernel
theorem dX6_findRegion_80 : decode cX6_findRegion 80 = .ok (.istore 5, 2) := by decide +kernel
theorem dX6_findRegion_82 : decode cX6_findRegion 82 = .ok (.iconst 0, 1) := by decide +kernel
theorem dX6_findRegion_83 : decode cX6_findRegion 83 = .ok (.istore 6, 2) := by decide +kernel
theorem dX6_findRegion_85 : decode cX6_findRegion 85 = .ok (.iload 6, 2) := by decide +kernel
theorem dX6_findRegion_87 : decode cX6_findRegion 87 = .ok (.bipush 8, 2) := by decide +kernel
theorem dX6_findRegion_89 : decode cX6_findRegion 89 = .ok (.if_icmp .ge 142, 3) := by decide +kernel
theorem dX6_findRegion_92 : decode cX6_findRegion 92 = .ok (.iload 4, 2) := by decide +kernel
theorem dX6_findRegion_94 : decode cX6_findRegion 94 = .ok (.iload 6, 2) := by decide +kernel
theorem dX6_findRegion_96 : decode cX6_findRegion 96 = .ok (.invokestatic 84, 3) := by decide +kernel
theorem dX6_findRegion_99 : decode cX6_findRegion 99 = .ok (.iadd, 1) := by decide +kernel
theorem dX6_findRegion_100 : decode cX6_findRegion 100 = .ok (.istore 7, 2) := by decide +kernel
theorem dX6_findRegion_102 : decode cX6_findRegion 102 = .ok (.iload 5, 2) := by decide +kernel
theorem dX6_findRegion_104 : decode cX6_findRegion 104 = .ok (.iload 6, 2) := by decide +kernel
theorem dX6_findRegion_106 : decode cX6_findRegion 106 = .ok (.invokestatic 87, 3) := by decide +kernel
theorem dX6_findRegion_109 : decode cX6_findRegion 109 = .ok (.iadd, 1) := by decide +kernel
theorem dX6_findRegion_110 : decode cX6_findRegion 110 = .ok (.istore 8, 2) := by decide +kernel
theorem dX6_findRegion_112 : decode cX6_findRegion 112 = .ok (.aload_n 0, 1) := by decide +kernel
theorem dX6_findRegion_113 : decode cX6_findRegion 113 = .ok (.iload 7, 2) := by decide +kernel
theorem dX6_findRegion_115 : decode cX6_findRegion 115 = .ok (.iload 8, 2) := by decide +kernel
theorem dX6_findRegion_117 : decode cX6_findRegion 117 = .ok (.invokevirtual 90, 3) := by decide +kernel
theorem dX6_findRegion_120 : decode cX6_findRegion 120 = .ok (.ifCond .eq 94, 3) := by decide +kernel
theorem dX6_findRegion_123 : decode cX6_findRegion 123 = .ok (.aload_n 0, 1) := by decide +kernel
theorem dX6_findRegion_124 : decode cX6_findRegion 124 = .ok (.getfield 35, 3) := by decide +kernel
theorem dX6_findRegion_127 : decode cX6_findRegion 127 = .ok (.aload_n 0, 1) := by decide +kernel
theorem dX6_findRegion_128 : decode cX6_findRegion 128 = .ok (.iload 7, 2) := by decide +kernel
theorem dX6_findRegion_130 : decode cX6_findRegion 130 = .ok (.iload 8, 2) := by decide +kernel
theorem dX6_findRegion_132 : decode cX6_findRegion 132 = .ok (.invokevirtual 94, 3) := by decide +kernel
theorem dX6_findRegion_135 : decode cX6_findRegion 135 = .ok (.iaload, 1) := by decide +kernel
theorem dX6_findRegion_136 : decode cX6_findRegion 136 = .ok (.bipush (-6), 2) := by decide +kernel
theorem dX6_findRegion_138 : decode cX6_findRegion 138 = .ok (.if_icmp .ne 76, 3) := by decide +kernel
theorem dX6_findRegion_141 : decode cX6_findRegion 141 = .ok (.aload_n 0, 1) := by decide +kernel
theorem dX6_findRegion_142 : decode cX6_findRegion 142 = .ok (.aload_n 0, 1) := by decide +kernel
theorem dX6_findRegion_143 : decode cX6_findRegion 143 = .ok (.iload 7, 2) := by decide +kernel
theorem dX6_findRegion_145 : decode cX6_findRegion 145 = .ok (.iload 8, 2) := by decide +kernel
theorem dX6_findRegion_147 : decode cX6_findRegion 147 = .ok (.invokevirtual 94, 3) := by decide +kernel
theorem dX6_findRegion_150 : decode cX6_findRegion 150 = .ok (.invokevirtual 97, 3) := by decide +kernel
theorem dX6_findRegion_153 : decode cX6_findRegion 153 = .ok (.aload_n 0, 1) := by decide +kernel
theorem dX6_findRegion_154 : decode cX6_findRegion 154 = .ok (.iload_n 1, 1) := by decide +kernel
theorem dX6_findRegion_155 : decode cX6_findRegion 155 = .ok (.invokevirtual 97, 3) := by decide +kernel
theorem dX6_findRegion_158 : decode cX6_findRegion 158 = .ok (.if_icmp .ne 56, 3) := by decide +kernel
theorem dX6_findRegion_161 : decode cX6_findRegion 161 = .ok (.aload_n 0, 1) := by decide +kernel
theorem dX6_findRegion_162 : decode cX6_findRegion 162 = .ok (.getfield 35, 3) := by decide +kernel
theorem dX6_findRegion_165 : decode cX6_findRegion 165 = .ok (.aload_n 0, 1) := by decide +kernel
theorem dX6_findRegion_166 : decode cX6_findRegion 166 = .ok (.iload 7, 2) := by decide +kernel
theorem dX6_findRegion_168 : decode cX6_findRegion 168 = .ok (.iload 8, 2) := by decide +kernel
theorem dX6_findRegion_170 : decode cX6_findRegion 170 = .ok (.invokevirtual 94, 3) := by decide +kernel
theorem dX6_findRegion_173 : decode cX6_findRegion 173 = .ok (.aload_n 0, 1) := by decide +kernel
theorem dX6_findRegion_174 : decode cX6_findRegion 174 = .ok (.getfield 35, 3) := by decide +kernel
theorem dX6_findRegion_177 : decode cX6_findRegion 177 = .ok (.aload_n 0, 1) := by decide +kernel
theorem dX6_findRegion_178 : decode cX6_findRegion 178 = .ok (.getfield 32, 3) := by decide +kernel
theorem dX6_findRegion_181 : decode cX6_findRegion 181 = .ok (.iload_n 3, 1) := by decide +kernel
theorem dX6_findRegion_182 : decode cX6_findRegion 182 = .ok (.iaload, 1) := by decide +kernel
theorem dX6_findRegion_183 : decode cX6_findRegion 183 = .ok (.iaload, 1) := by decide +kernel
theorem dX6_findRegion_184 : decode cX6_findRegion 184 = .ok (.iconst 1, 1) := by decide +kernel
theorem dX6_findRegion_185 : decode cX6_findRegion 185 = .ok (.iadd, 1) := by decide +kernel
theorem dX6_findRegion_186 : decode cX6_findRegion 186 = .ok (.iastore, 1) := by decide +kernel
theorem dX6_findRegion_187 : decode cX6_findRegion 187 = .ok (.aload_n 0, 1) := by decide +kernel
theorem dX6_findRegion_188 : decode cX6_findRegion 188 = .ok (.getfield 32, 3) := by decide +kernel
theorem dX6_findRegion_191 : decode cX6_findRegion 191 = .ok (.aload_n 0, 1) := by decide +kernel
theorem dX6_findRegion_192 : decode cX6_findRegion 192 = .ok (.getfield 129, 3) := by decide +kernel
theorem dX6_findRegion_195 : decode cX6_findRegion 195 = .ok (.aload_n 0, 1) := by decide +kernel
theorem dX6_findRegion_196 : decode cX6_findRegion 196 = .ok (.iload 7, 2) := by decide +kernel
theorem dX6_findRegion_198 : decode cX6_findRegion 198 = .ok (.iload 8, 2) := by decide +kernel
theorem dX6_findRegion_200 : decode cX6_findRegion 200 = .ok (.invokevirtual 94, 3) := by decide +kernel
theorem dX6_findRegion_203 : decode cX6_findRegion 203 = .ok (.iastore, 1) := by decide +kernel
theorem dX6_findRegion_204 : decode cX6_findRegion 204 = .ok (.aload_n 0, 1) := by decide +kernel
theorem dX6_findRegion_205 : decode cX6_findRegion 205 = .ok (.dup, 1) := by decide +kernel
theorem dX6_findRegion_206 : decode cX6_findRegion 206 = .ok (.getfield 129, 3) := by decide +kernel
theorem dX6_findRegion_209 : decode cX6_findRegion 209 = .ok (.iconst 1, 1) := by decide +kernel
theorem dX6_findRegion_210 : decode cX6_findRegion 210 = .ok (.iadd, 1) := by decide +kernel
theorem dX6_findRegion_211 : decode cX6_findRegion 211 = .ok (.putfield 129, 3) := by decide +kernel
theorem dX6_findRegion_214 : decode cX6_findRegion 214 = .ok (.iload 6, 2) := by decide +kernel
theorem dX6_findRegion_216 : decode cX6_findRegion 216 = .ok (.iload_n 2, 1) := by decide +kernel
theorem dX6_findRegion_217 : decode cX6_findRegion 217 = .ok (.ifCond .eq 7, 3) := by decide +kernel
theorem dX6_findRegion_220 : decode cX6_findRegion 220 = .ok (.iconst 1, 1) := by decide +kernel
theorem dX6_findRegion_221 : decode cX6_findRegion 221 = .ok (.goto 4, 3) := by decide +kernel
theorem dX6_findRegion_224 : decode cX6_findRegion 224 = .ok (.iconst 2, 1) := by decide +kernel
theorem dX6_findRegion_225 : decode cX6_findRegion 225 = .ok (.iadd, 1) := by decide +kernel
theorem dX6_findRegion_226 : decode cX6_findRegion 226 = .ok (.istore 6, 2) := by decide +kernel
theorem dX6_findRegion_228 : decode cX6_findRegion 228 = .ok (.goto (-143), 3) := by decide +kernel
theorem dX6_findRegion_231 : decode cX6_findRegion 231 = .ok (.iinc 3 1, 3) := by decide +kernel
theorem dX6_findRegion_234 : decode cX6_findRegion 234 = .ok (.goto (-190), 3) := by decide +kernel
theorem dX6_findRegion_237 : decode cX6_findRegion 237 = .ok (.return_, 1) := by decide +kernel
theorem dX6_fill_0 : decode cX6_fill 0 = .ok (.aload_n 0, 1) := by decide +kernel
theorem dX6_fill_1 : decode cX6_fill 1 = .ok (.iload_n 1, 1) := by decide +kernel
theorem dX6_fill_2 : decode cX6_fill 2 = .ok (.iload_n 2, 1) := by decide +kernel
theorem dX6_fill_3 : decode cX6_fill 3 = .ok (.invokevirtual 90, 3) := by decide +kernel
theorem dX6_fill_6 : decode cX6_fill 6 = .ok (.ifCond .ne 5, 3) := by decide +kernel
theorem dX6_fill_9 : decode cX6_fill 9 = .ok (.iconst (-1), 1) := by decide +kernel
theorem dX6_fill_10 : decode cX6_fill 10 = .ok (.ireturn, 1) := by decide +kernel
theorem dX6_fill_11 : decode cX6_fill 11 = .ok (.aload_n 0, 1) := by decide +kernel
theorem dX6_fill_12 : decode cX6_fill 12 = .ok (.invokevirtual 77, 3) := by decide +kernel
theorem dX6_fill_15 : decode cX6_fill 15 = .ok (.aload_n 0, 1) := by decide +kernel
theorem dX6_fill_16 : decode cX6_fill 16 = .ok (.aload_n 0, 1) := by decide +kernel
theorem dX6_fill_17 : decode cX6_fill 17 = .ok (.iload_n 1, 1) := by decide +kernel
theorem dX6_fill_18 : decode cX6_fill 18 = .ok (.iload_n 2, 1) := by decide +kernel
theorem dX6_fill_19 : decode cX6_fill 19 = .ok (.invokevirtual 94, 3) := by decide +kernel
theorem dX6_fill_22 : decode cX6_fill 22 = .ok (.iconst 0, 1) := by decide +kernel
theorem dX6_fill_23 : decode cX6_fill 23 = .ok (.invokevirtual 132, 3) := by decide +kernel
theorem dX6_fill_26 : decode cX6_fill 26 = .ok (.iconst 0, 1) := by decide +kernel
theorem dX6_fill_27 : decode cX6_fill 27 = .ok (.istore 4, 2) := by decide +kernel
theorem dX6_fill_29 : decode cX6_fill 29 = .ok (.iconst 0, 1) := by decide +kernel
theorem dX6_fill_30 : decode cX6_fill 30 = .ok (.istore 5, 2) := by decide +kernel
theorem dX6_fill_32 : decode cX6_fill 32 = .ok (.iload 5, 2) := by decide +kernel
theorem dX6_fill_34 : decode cX6_fill 34 = .ok (.aload_n 0, 1) := by decide +kernel
theorem dX6_fill_35 : decode cX6_fill 35 = .ok (.getfield 129, 3) := by decide +kernel
theorem dX6_fill_38 : decode cX6_fill 38 = .ok (.if_icmp .ge 34, 3) := by decide +kernel
theorem dX6_fill_41 : decode cX6_fill 41 = .ok (.iload 4, 2) := by decide +kernel
theorem dX6_fill_43 : decode cX6_fill 43 = .ok (.aload_n 0, 1) := by decide +kernel
theorem dX6_fill_44 : decode cX6_fill 44 = .ok (.aload_n 0, 1) := by decide +kernel
theorem dX6_fill_45 : decode cX6_fill 45 = .ok (.getfield 32, 3) := by decide +kernel
theorem dX6_fill_48 : decode cX6_fill 48 = .ok (.iload 5, 2) := by decide +kernel
theorem dX6_fill_50 : decode cX6_fill 50 = .ok (.iaload, 1) := by decide +kernel
theorem dX6_fill_51 : decode cX6_fill 51 = .ok (.iload_n 3, 1) := by decide +kernel
theorem dX6_fill_52 : decode cX6_fill 52 = .ok (.invokevirtual 125, 3) := by decide +kernel
theorem dX6_fill_55 : decode cX6_fill 55 = .ok (.ifCond .eq 7, 3) := by decide +kernel
theorem dX6_fill_58 : decode cX6_fill 58 = .ok (.iconst 1, 1) := by decide +kernel
theorem dX6_fill_59 : decode cX6_fill 59 = .ok (.goto 4, 3) := by decide +kernel
theorem dX6_fill_62 : decode cX6_fill 62 = .ok (.iconst 0, 1) := by decide +kernel
theorem dX6_fill_63 : decode cX6_fill 63 = .ok (.iadd, 1) := by decide +kernel
theorem dX6_fill_64 : decode cX6_fill 64 = .ok (.istore 4, 2) := by decide +kernel
theorem dX6_fill_66 : decode cX6_fill 66 = .ok (.iinc 5 1, 3) := by decide +kernel
theorem dX6_fill_69 : decode cX6_fill 69 = .ok (.goto (-37), 3) := by decide +kernel
theorem dX6_fill_72 : decode cX6_fill 72 = .ok (.iload 4, 2) := by decide +kernel
theorem dX6_fill_74 : decode cX6_fill 74 = .ok (.ireturn, 1) := by decide +kernel
theorem dX6_brush_0 : decode cX6_brush 0 = .ok (.aload_n 0, 1) := by decide +kernel
theorem dX6_brush_1 : decode cX6_brush 1 = .ok (.iload_n 1, 1) := by decide +kernel
theorem dX6_brush_2 : decode cX6_brush 2 = .ok (.iload_n 2, 1) := by decide +kernel
theorem dX6_brush_3 : decode cX6_brush 3 = .ok (.invokevirtual 90, 3) := by decide +kernel
theorem dX6_brush_6 : decode cX6_brush 6 = .ok (.ifCond .ne 5, 3) := by decide +kernel
theorem dX6_brush_9 : decode cX6_brush 9 = .ok (.iconst (-1), 1) := by decide +kernel
theorem dX6_brush_10 : decode cX6_brush 10 = .ok (.ireturn, 1) := by decide +kernel
theorem dX6_brush_11 : decode cX6_brush 11 = .ok (.iload_n 3, 1) := by decide +kernel
theorem dX6_brush_12 : decode cX6_brush 12 = .ok (.iconst 0, 1) := by decide +kernel
theorem dX6_brush_13 : decode cX6_brush 13 = .ok (.iconst 5, 1) := by decide +kernel
theorem dX6_brush_14 : decode cX6_brush 14 = .ok (.invokestatic 61, 3) := by decide +kernel
theorem dX6_brush_17 : decode cX6_brush 17 = .ok (.ifCond .ne 6, 3) := by decide +kernel
theorem dX6_brush_20 : decode cX6_brush 20 = .ok (.bipush (-2), 2) := by decide +kernel
theorem dX6_brush_22 : decode cX6_brush 22 = .ok (.ireturn, 1) := by decide +kernel
theorem dX6_brush_23 : decode cX6_brush 23 = .ok (.aload_n 0, 1) := by decide +kernel
theorem dX6_brush_24 : decode cX6_brush 24 = .ok (.invokevirtual 77, 3) := by decide +kernel
theorem dX6_brush_27 : decode cX6_brush 27 = .ok (.iconst 0, 1) := by decide +kernel
theorem dX6_brush_28 : decode cX6_brush 28 = .ok (.istore 5, 2) := by decide +kernel
theorem dX6_brush_30 : decode cX6_brush 30 = .ok (.iconst 0, 1) := by decide +kernel
theorem dX6_brush_31 : decode cX6_brush 31 = .ok (.istore 6, 2) := by decide +kernel
theorem dX6_brush_33 : decode cX6_brush 33 = .ok (.iload 6, 2) := by decide +kernel
theorem dX6_brush_35 : decode cX6_brush 35 = .ok (.aload_n 0, 1) := by decide +kernel
theorem dX6_brush_36 : decode cX6_brush 36 = .ok (.invokevirtual 116, 3) := by decide +kernel
theorem dX6_brush_39 : decode cX6_brush 39 = .ok (.if_icmp .ge 73, 3) := by decide +kernel
theorem dX6_brush_42 : decode cX6_brush 42 = .ok (.iload 6, 2) := by decide +kernel
theorem dX6_brush_44 : decode cX6_brush 44 = .ok (.aload_n 0, 1) := by decide +kernel
theorem dX6_brush_45 : decode cX6_brush 45 = .ok (.getfield 7, 3) := by decide +kernel
theorem dX6_brush_48 : decode cX6_brush 48 = .ok (.iconst 1, 1) := by decide +kernel
theorem dX6_brush_49 : decode cX6_brush 49 = .ok (.iaload, 1) := by decide +kernel
theorem dX6_brush_50 : decode cX6_brush 50 = .ok (.idiv, 1) := by decide +kernel
theorem dX6_brush_51 : decode cX6_brush 51 = .ok (.iload_n 1, 1) := by decide +kernel
theorem dX6_brush_52 : decode cX6_brush 52 = .ok (.isub, 1) := by decide +kernel
theorem dX6_brush_53 : decode cX6_brush 53 = .ok (.istore 7, 2) := by decide +kernel
theorem dX6_brush_55 : decode cX6_brush 55 = .ok (.iload 6, 2) := by decide +kernel
theorem dX6_brush_57 : decode cX6_brush 57 = .ok (.aload_n 0, 1) := by decide +kernel
theorem dX6_brush_58 : decode cX6_brush 58 = .ok (.getfield 7, 3) := by decide +kernel
theorem dX6_brush_61 : decode cX6_brush 61 = .ok (.iconst 1, 1) := by decide +kernel
theorem dX6_brush_62 : decode cX6_brush 62 = .ok (.iaload, 1) := by decide +kernel
theorem dX6_brush_63 : decode cX6_brush 63 = .ok (.irem, 1) := by decide +kernel
theorem dX6_brush_64 : decode cX6_brush 64 = .ok (.iload_n 2, 1) := by decide +kernel
theorem dX6_brush_65 : decode cX6_brush 65 = .ok (.isub, 1) := by decide +kernel
theorem dX6_brush_66 : decode cX6_brush 66 = .ok (.istore 8, 2) := by decide +kernel
theorem dX6_brush_68 : decode cX6_brush 68 = .ok (.iload 5, 2) := by decide +kernel
theorem dX6_brush_70 : decode cX6_brush 70 = .ok (.iload 7, 2) := by decide +kernel
theorem dX6_brush_72 : decode cX6_brush 72 = .ok (.iload 7, 2) := by decide +kernel
theorem dX6_brush_74 : decode cX6_brush 74 = .ok (.imul, 1) := by decide +kernel
theorem dX6_brush_75 : decode cX6_brush 75 = .ok (.iload 8, 2) := by decide +kernel
theorem dX6_brush_77 : decode cX6_brush 77 = .ok (.iload 8, 2) := by decide +kernel
theorem dX6_brush_79 : decode cX6_brush 79 = .ok (.imul, 1) := by decide +kernel
theorem dX6_brush_80 : decode cX6_brush 80 = .ok (.iadd, 1) := by decide +kernel
theorem dX6_brush_81 : decode cX6_brush 81 = .ok (.iload_n 3, 1) := by decide +kernel
theorem dX6_brush_82 : decode cX6_brush 82 = .ok (.iload_n 3, 1) := by decide +kernel
theorem dX6_brush_83 : decode cX6_brush 83 = .ok (.imul, 1) := by decide +kernel
theorem dX6_brush_84 : decode cX6_brush 84 = .ok (.if_icmp .gt 18, 3) := by decide +kernel
theorem dX6_brush_87 : decode cX6_brush 87 = .ok (.aload_n 0, 1) := by decide +kernel
theorem dX6_brush_88 : decode cX6_brush 88 = .ok (.iload 6, 2) := by decide +kernel
theorem dX6_brush_90 : decode cX6_brush 90 = .ok (.iload 4, 2) := by decide +kernel
theorem dX6_brush_92 : decode cX6_brush 92 = .ok (.invokevirtual 125, 3) := by decide +kernel
theorem dX6_brush_95 : decode cX6_brush 95 = .ok (.ifCond .eq 7, 3) := by decide +kernel
theorem dX6_brush_98 : decode cX6_brush 98 = .ok (.iconst 1, 1) := by decide +kernel
theorem dX6_brush_99 : decode cX6_brush 99 = .ok (.goto 4, 3) := by decide +kernel
theorem dX6_brush_102 : decode cX6_brush 102 = .ok (.iconst 0, 1) := by decide +kernel
theorem dX6_brush_103 : decode cX6_brush 103 = .ok (.iadd, 1) := by decide +kernel
theorem dX6_brush_104 : decode cX6_brush 104 = .ok (.istore 5, 2) := by decide +kernel
theorem dX6_brush_106 : decode cX6_brush 106 = .ok (.iinc 6 1, 3) := by decide +kernel
theorem dX6_brush_109 : decode cX6_brush 109 = .ok (.goto (-76), 3) := by decide +kernel
theorem dX6_brush_112 : decode cX6_brush 112 = .ok (.iload 5, 2) := by decide +kernel
theorem dX6_brush_114 : decode cX6_brush 114 = .ok (.ireturn, 1) := by decide +kernel
theorem dX6_smooth_0 : decode cX6_smooth 0 = .ok (.iload_n 1, 1) := by decide +kernel
theorem dX6_smooth_1 : decode cX6_smooth 1 = .ok (.iconst 1, 1) := by decide +kernel
theorem dX6_smooth_2 : decode cX6_smooth 2 = .ok (.bipush 9, 2) := by decide +kernel
theorem dX6_smooth_4 : decode cX6_smooth 4 = .ok (.invokestatic 61, 3) := by decide +kernel
theorem dX6_smooth_7 : decode cX6_smooth 7 = .ok (.ifCond .ne 6, 3) := by decide +kernel
theorem dX6_smooth_10 : decode cX6_smooth 10 = .ok (.bipush (-2), 2) := by decide +kernel
theorem dX6_smooth_12 : decode cX6_smooth 12 = .ok (.ireturn, 1) := by decide +kernel
theorem dX6_smooth_13 : decode cX6_smooth 13 = .ok (.aload_n 0, 1) := by decide +kernel
theorem dX6_smooth_14 : decode cX6_smooth 14 = .ok (.invokevirtual 77, 3) := by decide +kernel
theorem dX6_smooth_17 : decode cX6_smooth 17 = .ok (.iconst 0, 1) := by decide +kernel
theorem dX6_smooth_18 : decode cX6_smooth 18 = .ok (.istore_n 2, 1) := by decide +kernel
theorem dX6_smooth_19 : decode cX6_smooth 19 = .ok (.iload_n 2, 1) := by decide +kernel
theorem dX6_smooth_20 : decode cX6_smooth 20 = .ok (.aload_n 0, 1) := by decide +kernel
theorem dX6_smooth_21 : decode cX6_smooth 21 = .ok (.invokevirtual 116, 3) := by decide +kernel
theorem dX6_smooth_24 : decode cX6_smooth 24 = .ok (.if_icmp .ge 47, 3) := by decide +kernel
theorem dX6_smooth_27 : decode cX6_smooth 27 = .ok (.aload_n 0, 1) := by decide +kernel
theorem dX6_smooth_28 : decode cX6_smooth 28 = .ok (.getfield 38, 3) := by decide +kernel
theorem dX6_smooth_31 : decode cX6_smooth 31 = .ok (.iload_n 2, 1) := by decide +kernel
theorem dX6_smooth_32 : decode cX6_smooth 32 = .ok (.aload_n 0, 1) := by decide +kernel
theorem dX6_smooth_33 : decode cX6_smooth 33 = .ok (.iload_n 2, 1) := by decide +kernel
theorem dX6_smooth_34 : decode cX6_smooth 34 = .ok (.aload_n 0, 1) := by decide +kernel
theorem dX6_smooth_35 : decode cX6_smooth 35 = .ok (.getfield 7, 3) := by decide +kernel
theorem dX6_smooth_38 : decode cX6_smooth 38 = .ok (.iconst 1, 1) := by decide +kernel
theorem dX6_smooth_39 : decode cX6_smooth 39 = .ok (.iaload, 1) := by decide +kernel
theorem dX6_smooth_40 : decode cX6_smooth 40 = .ok (.idiv, 1) := by decide +kernel
theorem dX6_smooth_41 : decode cX6_smooth 41 = .ok (.iload_n 2, 1) := by decide +kernel
theorem dX6_smooth_42 : decode cX6_smooth 42 = .ok (.aload_n 0, 1) := by decide +kernel
theorem dX6_smooth_43 : decode cX6_smooth 43 = .ok (.getfield 7, 3) := by decide +kernel
theorem dX6_smooth_46 : decode cX6_smooth 46 = .ok (.iconst 1, 1) := by decide +kernel
theorem dX6_smooth_47 : decode cX6_smooth 47 = .ok (.iaload, 1) := by decide +kernel
theorem dX6_smooth_48 : decode cX6_smooth 48 = .ok (.irem, 1) := by decide +kernel
theorem dX6_smooth_49 : decode cX6_smooth 49 = .ok (.invokevirtual 104, 3) := by decide +kernel
theorem dX6_smooth_52 : decode cX6_smooth 52 = .ok (.invokestatic 113, 3) := by decide +kernel
theorem dX6_smooth_55 : decode cX6_smooth 55 = .ok (.aload_n 0, 1) := by decide +kernel
theorem dX6_smooth_56 : decode cX6_smooth 56 = .ok (.getfield 7, 3) := by decide +kernel
theorem dX6_smooth_59 : decode cX6_smooth 59 = .ok (.iconst 3, 1) := by decide +kernel
theorem dX6_smooth_60 : decode cX6_smooth 60 = .ok (.iload_n 2, 1) := by decide +kernel
theorem dX6_smooth_61 : decode cX6_smooth 61 = .ok (.iadd, 1) := by decide +kernel
theorem dX6_smooth_62 : decode cX6_smooth 62 = .ok (.iaload, 1) := by decide +kernel
theorem dX6_smooth_63 : decode cX6_smooth 63 = .ok (.iadd, 1) := by decide +kernel
theorem dX6_smooth_64 : decode cX6_smooth 64 = .ok (.iastore, 1) := by decide +kernel
theorem dX6_smooth_65 : decode cX6_smooth 65 = .ok (.iinc 2 1, 3) := by decide +kernel
theorem dX6_smooth_68 : decode cX6_smooth 68 = .ok (.goto (-49), 3) := by decide +kernel
theorem dX6_smooth_71 : decode cX6_smooth 71 = .ok (.iconst 0, 1) := by decide +kernel
theorem dX6_smooth_72 : decode cX6_smooth 72 = .ok (.istore_n 2, 1) := by decide +kernel
theorem dX6_smooth_73 : decode cX6_smooth 73 = .ok (.iconst 0, 1) := by decide +kernel
theorem dX6_smooth_74 : decode cX6_smooth 74 = .ok (.istore_n 3, 1) := by decide +kernel
theorem dX6_smooth_75 : decode cX6_smooth 75 = .ok (.iload_n 3, 1) := by decide +kernel
theorem dX6_smooth_76 : decode cX6_smooth 76 = .ok (.aload_n 0, 1) := by decide +kernel
theorem dX6_smooth_77 : decode cX6_smooth 77 = .ok (.invokevirtual 116, 3) := by decide +kernel
theorem dX6_smooth_80 : decode cX6_smooth 80 = .ok (.if_icmp .ge 40, 3) := by decide +kernel
theorem dX6_smooth_83 : decode cX6_smooth 83 = .ok (.iload_n 2, 1) := by decide +kernel
theorem dX6_smooth_84 : decode cX6_smooth 84 = .ok (.aload_n 0, 1) := by decide +kernel
theorem dX6_smooth_85 : decode cX6_smooth 85 = .ok (.iload_n 3, 1) := by decide +kernel
theorem dX6_smooth_86 : decode cX6_smooth 86 = .ok (.aload_n 0, 1) := by decide +kernel
theorem dX6_smooth_87 : decode cX6_smooth 87 = .ok (.getfield 38, 3) := by decide +kernel
theorem dX6_smooth_90 : decode cX6_smooth 90 = .ok (.iload_n 3, 1) := by decide +kernel
theorem dX6_smooth_91 : decode cX6_smooth 91 = .ok (.iaload, 1) := by decide +kernel
theorem dX6_smooth_92 : decode cX6_smooth 92 = .ok (.iload_n 1, 1) := by decide +kernel
theorem dX6_smooth_93 : decode cX6_smooth 93 = .ok (.if_icmp .lt 7, 3) := by decide +kernel
theorem dX6_smooth_96 : decode cX6_smooth 96 = .ok (.iconst 1, 1) := by decide +kernel
theorem dX6_smooth_97 : decode cX6_smooth 97 = .ok (.goto 4, 3) := by decide +kernel
theorem dX6_smooth_100 : decode cX6_smooth 100 = .ok (.iconst 0, 1) := by decide +kernel
theorem dX6_smooth_101 : decode cX6_smooth 101 = .ok (.invokevirtual 125, 3) := by decide +kernel
theorem dX6_smooth_104 : decode cX6_smooth 104 = .ok (.ifCond .eq 7, 3) := by decide +kernel
theorem dX6_smooth_107 : decode cX6_smooth 107 = .ok (.iconst 1, 1) := by decide +kernel
theorem dX6_smooth_108 : decode cX6_smooth 108 = .ok (.goto 4, 3) := by decide +kernel
theorem dX6_smooth_111 : decode cX6_smooth 111 = .ok (.iconst 0, 1) := by decide +kernel
theorem dX6_smooth_112 : decode cX6_smooth 112 = .ok (.iadd, 1) := by decide +kernel
theorem dX6_smooth_113 : decode cX6_smooth 113 = .ok (.istore_n 2, 1) := by decide +kernel
theorem dX6_smooth_114 : decode cX6_smooth 114 = .ok (.iinc 3 1, 3) := by decide +kernel
theorem dX6_smooth_117 : decode cX6_smooth 117 = .ok (.goto (-42), 3) := by decide +kernel
theorem dX6_smooth_120 : decode cX6_smooth 120 = .ok (.iload_n 2, 1) := by decide +kernel
theorem dX6_smooth_121 : decode cX6_smooth 121 = .ok (.ireturn, 1) := by decide +kernel
theorem dX6_turnedBy_0 : decode cX6_turnedBy 0 = .ok (.aload_n 0, 1) := by decide +kernel
theorem dX6_turnedBy_1 : decode cX6_turnedBy 1 = .ok (.getfield 23, 3) := by decide +kernel
theorem dX6_turnedBy_4 : decode cX6_turnedBy 4 = .ok (.iload_n 1, 1) := by decide +kernel
theorem dX6_turnedBy_5 : decode cX6_turnedBy 5 = .ok (.iaload, 1) := by decide +kernel
theorem dX6_turnedBy_6 : decode cX6_turnedBy 6 = .ok (.iconst 2, 1) := by decide +kernel
theorem dX6_turnedBy_7 : decode cX6_turnedBy 7 = .ok (.iload_n 2, 1) := by decide +kernel
theorem dX6_turnedBy_8 : decode cX6_turnedBy 8 = .ok (.imul, 1) := by decide +kernel
theorem dX6_turnedBy_9 : decode cX6_turnedBy 9 = .ok (.ishl, 1) := by decide +kernel
theorem dX6_turnedBy_10 : decode cX6_turnedBy 10 = .ok (.istore_n 3, 1) := by decide +kernel
theorem dX6_turnedBy_11 : decode cX6_turnedBy 11 = .ok (.aload_n 0, 1) := by decide +kernel
theorem dX6_turnedBy_12 : decode cX6_turnedBy 12 = .ok (.getfield 26, 3) := by decide +kernel
theorem dX6_turnedBy_15 : decode cX6_turnedBy 15 = .ok (.iload_n 3, 1) := by decide +kernel
theorem dX6_turnedBy_16 : decode cX6_turnedBy 16 = .ok (.sipush 255, 3) := by decide +kernel
theorem dX6_turnedBy_19 : decode cX6_turnedBy 19 = .ok (.iand, 1) := by decide +kernel
theorem dX6_turnedBy_20 : decode cX6_turnedBy 20 = .ok (.iload_n 3, 1) := by decide +kernel
theorem dX6_turnedBy_21 : decode cX6_turnedBy 21 = .ok (.bipush 8, 2) := by decide +kernel
theorem dX6_turnedBy_23 : decode cX6_turnedBy 23 = .ok (.ishr, 1) := by decide +kernel
theorem dX6_turnedBy_24 : decode cX6_turnedBy 24 = .ok (.ior, 1) := by decide +kernel
theorem dX6_turnedBy_25 : decode cX6_turnedBy 25 = .ok (.iaload, 1) := by decide +kernel
theorem dX6_turnedBy_26 : decode cX6_turnedBy 26 = .ok (.ireturn, 1) := by decide +kernel
theorem dX6_turnOnce_0 : decode cX6_turnOnce 0 = .ok (.aload_n 0, 1) := by decide +kernel
theorem dX6_turnOnce_1 : decode cX6_turnOnce 1 = .ok (.getfield 7, 3) := by decide +kernel
theorem dX6_turnOnce_4 : decode cX6_turnOnce 4 = .ok (.iconst 0, 1) := by decide +kernel
theorem dX6_turnOnce_5 : decode cX6_turnOnce 5 = .ok (.iaload, 1) := by decide +kernel
theorem dX6_turnOnce_6 : decode cX6_turnOnce 6 = .ok (.istore_n 1, 1) := by decide +kernel
theorem dX6_turnOnce_7 : decode cX6_turnOnce 7 = .ok (.aload_n 0, 1) := by decide +kernel
theorem dX6_turnOnce_8 : decode cX6_turnOnce 8 = .ok (.getfield 7, 3) := by decide +kernel
theorem dX6_turnOnce_11 : decode cX6_turnOnce 11 = .ok (.iconst 1, 1) := by decide +kernel
theorem dX6_turnOnce_12 : decode cX6_turnOnce 12 = .ok (.iaload, 1) := by decide +kernel
theorem dX6_turnOnce_13 : decode cX6_turnOnce 13 = .ok (.istore_n 2, 1) := by decide +kernel
theorem dX6_turnOnce_14 : decode cX6_turnOnce 14 = .ok (.iconst 0, 1) := by decide +kernel
theorem dX6_turnOnce_15 : decode cX6_turnOnce 15 = .ok (.istore_n 3, 1) := by decide +kernel
theorem dX6_turnOnce_16 : decode cX6_turnOnce 16 = .ok (.iload_n 3, 1) := by decide +kernel
theorem dX6_turnOnce_17 : decode cX6_turnOnce 17 = .ok (.iload_n 1, 1) := by decide +kernel
theorem dX6_turnOnce_18 : decode cX6_turnOnce 18 = .ok (.iload_n 2, 1) := by decide +kernel
theorem dX6_turnOnce_19 : decode cX6_turnOnce 19 = .ok (.imul, 1) := by decide +kernel
theorem dX6_turnOnce_20 : decode cX6_turnOnce 20 = .ok (.if_icmp .ge 81, 3) := by decide +kernel
theorem dX6_turnOnce_23 : decode cX6_turnOnce 23 = .ok (.iload_n 1, 1) := by decide +kernel
theorem dX6_turnOnce_24 : decode cX6_turnOnce 24 = .ok (.iload_n 3, 1) := by decide +kernel
theorem dX6_turnOnce_25 : decode cX6_turnOnce 25 = .ok (.iload_n 2, 1) := by decide +kernel
theorem dX6_turnOnce_26 : decode cX6_turnOnce 26 = .ok (.irem, 1) := by decide +kernel
theorem dX6_turnOnce_27 : decode cX6_turnOnce 27 = .ok (.imul, 1) := by decide +kernel
theorem dX6_turnOnce_28 : decode cX6_turnOnce 28 = .ok (.iload_n 1, 1) := by decide +kernel
theorem dX6_turnOnce_29 : decode cX6_turnOnce 29 = .ok (.iadd, 1) := by decide +kernel
theorem dX6_turnOnce_30 : decode cX6_turnOnce 30 = .ok (.iconst 1, 1) := by decide +kernel
theorem dX6_turnOnce_31 : decode cX6_turnOnce 31 = .ok (.isub, 1) := by decide +kernel
theorem dX6_turnOnce_32 : decode cX6_turnOnce 32 = .ok (.iload_n 3, 1) := by decide +kernel
theorem dX6_turnOnce_33 : decode cX6_turnOnce 33 = .ok (.iload_n 2, 1) := by decide +kernel
theorem dX6_turnOnce_34 : decode cX6_turnOnce 34 = .ok (.idiv, 1) := by decide +kernel
theorem dX6_turnOnce_35 : decode cX6_turnOnce 35 = .ok (.isub, 1) := by decide +kernel
theorem dX6_turnOnce_36 : decode cX6_turnOnce 36 = .ok (.istore 4, 2) := by decide +kernel
theorem dX6_turnOnce_38 : decode cX6_turnOnce 38 = .ok (.aload_n 0, 1) := by decide +kernel
theorem dX6_turnOnce_39 : decode cX6_turnOnce 39 = .ok (.getfield 41, 3) := by decide +kernel
theorem dX6_turnOnce_42 : decode cX6_turnOnce 42 = .ok (.iload 4, 2) := by decide +kernel
theorem dX6_turnOnce_44 : decode cX6_turnOnce 44 = .ok (.aload_n 0, 1) := by decide +kernel
theorem dX6_turnOnce_45 : decode cX6_turnOnce 45 = .ok (.getfield 7, 3) := by decide +kernel
theorem dX6_turnOnce_48 : decode cX6_turnOnce 48 = .ok (.iconst 3, 1) := by decide +kernel
theorem dX6_turnOnce_49 : decode cX6_turnOnce 49 = .ok (.iload_n 3, 1) := by decide +kernel
theorem dX6_turnOnce_50 : decode cX6_turnOnce 50 = .ok (.iadd, 1) := by decide +kernel
theorem dX6_turnOnce_51 : decode cX6_turnOnce 51 = .ok (.iaload, 1) := by decide +kernel
theorem dX6_turnOnce_52 : decode cX6_turnOnce 52 = .ok (.iastore, 1) := by decide +kernel
theorem dX6_turnOnce_53 : decode cX6_turnOnce 53 = .ok (.aload_n 0, 1) := by decide +kernel
theorem dX6_turnOnce_54 : decode cX6_turnOnce 54 = .ok (.getfield 44, 3) := by decide +kernel
theorem dX6_turnOnce_57 : decode cX6_turnOnce 57 = .ok (.iload 4, 2) := by decide +kernel
theorem dX6_turnOnce_59 : decode cX6_turnOnce 59 = .ok (.aload_n 0, 1) := by decide +kernel
theorem dX6_turnOnce_60 : decode cX6_turnOnce 60 = .ok (.getfield 7, 3) := by decide +kernel
theorem dX6_turnOnce_63 : decode cX6_turnOnce 63 = .ok (.sipush 147, 3) := by decide +kernel
theorem dX6_turnOnce_66 : decode cX6_turnOnce 66 = .ok (.iload_n 3, 1) := by decide +kernel
theorem dX6_turnOnce_67 : decode cX6_turnOnce 67 = .ok (.iadd, 1) := by decide +kernel
theorem dX6_turnOnce_68 : decode cX6_turnOnce 68 = .ok (.iaload, 1) := by decide +kernel
theorem dX6_turnOnce_69 : decode cX6_turnOnce 69 = .ok (.bipush (-6), 2) := by decide +kernel
theorem dX6_turnOnce_71 : decode cX6_turnOnce 71 = .ok (.if_icmp .ne 8, 3) := by decide +kernel
theorem dX6_turnOnce_74 : decode cX6_turnOnce 74 = .ok (.bipush (-6), 2) := by decide +kernel
theorem dX6_turnOnce_76 : decode cX6_turnOnce 76 = .ok (.goto 18, 3) := by decide +kernel
theorem dX6_turnOnce_79 : decode cX6_turnOnce 79 = .ok (.aload_n 0, 1) := by decide +kernel
theorem dX6_turnOnce_80 : decode cX6_turnOnce 80 = .ok (.aload_n 0, 1) := by decide +kernel
theorem dX6_turnOnce_81 : decode cX6_turnOnce 81 = .ok (.getfield 7, 3) := by decide +kernel
theorem dX6_turnOnce_84 : decode cX6_turnOnce 84 = .ok (.sipush 147, 3) := by decide +kernel
theorem dX6_turnOnce_87 : decode cX6_turnOnce 87 = .ok (.iload_n 3, 1) := by decide +kernel
theorem dX6_turnOnce_88 : decode cX6_turnOnce 88 = .ok (.iadd, 1) := by decide +kernel
theorem dX6_turnOnce_89 : decode cX6_turnOnce 89 = .ok (.iaload, 1) := by decide +kernel
theorem dX6_turnOnce_90 : decode cX6_turnOnce 90 = .ok (.iconst 1, 1) := by decide +kernel
theorem dX6_turnOnce_91 : decode cX6_turnOnce 91 = .ok (.invokevirtual 136, 3) := by decide +kernel
theorem dX6_turnOnce_94 : decode cX6_turnOnce 94 = .ok (.iastore, 1) := by decide +kernel
theorem dX6_turnOnce_95 : decode cX6_turnOnce 95 = .ok (.iinc 3 1, 3) := by decide +kernel
theorem dX6_turnOnce_98 : decode cX6_turnOnce 98 = .ok (.goto (-82), 3) := by decide +kernel
theorem dX6_turnOnce_101 : decode cX6_turnOnce 101 = .ok (.aload_n 0, 1) := by decide +kernel
theorem dX6_turnOnce_102 : decode cX6_turnOnce 102 = .ok (.getfield 7, 3) := by decide +kernel
theorem dX6_turnOnce_105 : decode cX6_turnOnce 105 = .ok (.iconst 0, 1) := by decide +kernel
theorem dX6_turnOnce_106 : decode cX6_turnOnce 106 = .ok (.iload_n 2, 1) := by decide +kernel
theorem dX6_turnOnce_107 : decode cX6_turnOnce 107 = .ok (.iastore, 1) := by decide +kernel
theorem dX6_turnOnce_108 : decode cX6_turnOnce 108 = .ok (.aload_n 0, 1) := by decide +kernel
theorem dX6_turnOnce_109 : decode cX6_turnOnce 109 = .ok (.getfield 7, 3) := by decide +kernel
theorem dX6_turnOnce_112 : decode cX6_turnOnce 112 = .ok (.iconst 1, 1) := by decide +kernel
theorem dX6_turnOnce_113 : decode cX6_turnOnce 113 = .ok (.iload_n 1, 1) := by decide +kernel
theorem dX6_turnOnce_114 : decode cX6_turnOnce 114 = .ok (.iastore, 1) := by decide +kernel
theorem dX6_turnOnce_115 : decode cX6_turnOnce 115 = .ok (.iconst 0, 1) := by decide +kernel
theorem dX6_turnOnce_116 : decode cX6_turnOnce 116 = .ok (.istore_n 3, 1) := by decide +kernel
theorem dX6_turnOnce_117 : decode cX6_turnOnce 117 = .ok (.iload_n 3, 1) := by decide +kernel
theorem dX6_turnOnce_118 : decode cX6_turnOnce 118 = .ok (.iload_n 1, 1) := by decide +kernel
theorem dX6_turnOnce_119 : decode cX6_turnOnce 119 = .ok (.iload_n 2, 1) := by decide +kernel
theorem dX6_turnOnce_120 : decode cX6_turnOnce 120 = .ok (.imul, 1) := by decide +kernel
theorem dX6_turnOnce_121 : decode cX6_turnOnce 121 = .ok (.if_icmp .ge 39, 3) := by decide +kernel
theorem dX6_turnOnce_124 : decode cX6_turnOnce 124 = .ok (.aload_n 0, 1) := by decide +kernel
theorem dX6_turnOnce_125 : decode cX6_turnOnce 125 = .ok (.getfield 7, 3) := by decide +kernel
theorem dX6_turnOnce_128 : decode cX6_turnOnce 128 = .ok (.iconst 3, 1) := by decide +kernel
theorem dX6_turnOnce_129 : decode cX6_turnOnce 129 = .ok (.iload_n 3, 1) := by decide +kernel
theorem dX6_turnOnce_130 : decode cX6_turnOnce 130 = .ok (.iadd, 1) := by decide +kernel
theorem dX6_turnOnce_131 : decode cX6_turnOnce 131 = .ok (.aload_n 0, 1) := by decide +kernel
theorem dX6_turnOnce_132 : decode cX6_turnOnce 132 = .ok (.getfield 41, 3) := by decide +kernel
theorem dX6_turnOnce_135 : decode cX6_turnOnce 135 = .ok (.iload_n 3, 1) := by decide +kernel
theorem dX6_turnOnce_136 : decode cX6_turnOnce 136 = .ok (.iaload, 1) := by decide +kernel
theorem dX6_turnOnce_137 : decode cX6_turnOnce 137 = .ok (.iastore, 1) := by decide +kernel
theorem dX6_turnOnce_138 : decode cX6_turnOnce 138 = .ok (.aload_n 0, 1) := by decide +kernel
theorem dX6_turnOnce_139 : decode cX6_turnOnce 139 = .ok (.getfield 7, 3) := by decide +kernel
theorem dX6_turnOnce_142 : decode cX6_turnOnce 142 = .ok (.sipush 147, 3) := by decide +kernel
theorem dX6_turnOnce_145 : decode cX6_turnOnce 145 = .ok (.iload_n 3, 1) := by decide +kernel
theorem dX6_turnOnce_146 : decode cX6_turnOnce 146 = .ok (.iadd, 1) := by decide +kernel
theorem dX6_turnOnce_147 : decode cX6_turnOnce 147 = .ok (.aload_n 0, 1) := by decide +kernel
theorem dX6_turnOnce_148 : decode cX6_turnOnce 148 = .ok (.getfield 44, 3) := by decide +kernel
theorem dX6_turnOnce_151 : decode cX6_turnOnce 151 = .ok (.iload_n 3, 1) := by decide +kernel
theorem dX6_turnOnce_152 : decode cX6_turnOnce 152 = .ok (.iaload, 1) := by decide +kernel
theorem dX6_turnOnce_153 : decode cX6_turnOnce 153 = .ok (.iastore, 1) := by decide +kernel
theorem dX6_turnOnce_154 : decode cX6_turnOnce 154 = .ok (.iinc 3 1, 3) := by decide +kernel
theorem dX6_turnOnce_157 : decode cX6_turnOnce 157 = .ok (.goto (-40), 3) := by decide +kernel
theorem dX6_turnOnce_160 : decode cX6_turnOnce 160 = .ok (.return_, 1) := by decide +kernel
theorem dX6_turn_0 : decode cX6_turn 0 = .ok (.iload_n 1, 1) := by decide +kernel
theorem dX6_turn_1 : decode cX6_turn 1 = .ok (.iconst 1, 1) := by decide +kernel
theorem dX6_turn_2 : decode cX6_turn 2 = .ok (.iconst 3, 1) := by decide +kernel
theorem dX6_turn_3 : decode cX6_turn 3 = .ok (.invokestatic 61, 3) := by decide +kernel
theorem dX6_turn_6 : decode cX6_turn 6 = .ok (.ifCond .ne 6, 3) := by decide +kernel
theorem dX6_turn_9 : decode cX6_turn 9 = .ok (.bipush (-2), 2) := by decide +kernel
theorem dX6_turn_11 : decode cX6_turn 11 = .ok (.ireturn, 1) := by decide +kernel
theorem dX6_turn_12 : decode cX6_turn 12 = .ok (.aload_n 0, 1) := by decide +kernel
theorem dX6_turn_13 : decode cX6_turn 13 = .ok (.invokevirtual 77, 3) := by decide +kernel
theorem dX6_turn_16 : decode cX6_turn 16 = .ok (.iconst 0, 1) := by decide +kernel
theorem dX6_turn_17 : decode cX6_turn 17 = .ok (.istore_n 2, 1) := by decide +kernel
theorem dX6_turn_18 : decode cX6_turn 18 = .ok (.iload_n 2, 1) := by decide +kernel
theorem dX6_turn_19 : decode cX6_turn 19 = .ok (.iload_n 1, 1) := by decide +kernel
theorem dX6_turn_20 : decode cX6_turn 20 = .ok (.if_icmp .ge 13, 3) := by decide +kernel
theorem dX6_turn_23 : decode cX6_turn 23 = .ok (.aload_n 0, 1) := by decide +kernel
theorem dX6_turn_24 : decode cX6_turn 24 = .ok (.invokevirtual 139, 3) := by decide +kernel
theorem dX6_turn_27 : decode cX6_turn 27 = .ok (.iinc 2 1, 3) := by decide +kernel
theorem dX6_turn_30 : decode cX6_turn 30 = .ok (.goto (-12), 3) := by decide +kernel
theorem dX6_turn_33 : decode cX6_turn 33 = .ok (.aload_n 0, 1) := by decide +kernel
theorem dX6_turn_34 : decode cX6_turn 34 = .ok (.getfield 7, 3) := by decide +kernel
theorem dX6_turn_37 : decode cX6_turn 37 = .ok (.iconst 0, 1) := by decide +kernel
theorem dX6_turn_38 : decode cX6_turn 38 = .ok (.iaload, 1) := by decide +kernel
theorem dX6_turn_39 : decode cX6_turn 39 = .ok (.ireturn, 1) := by decide +kernel
theorem dX6_rows_0 : decode cX6_rows 0 = .ok (.aload_n 0, 1) := by decide +kernel
theorem dX6_rows_1 : decode cX6_rows 1 = .ok (.getfield 7, 3) := by decide +kernel
theorem dX6_rows_4 : decode cX6_rows 4 = .ok (.iconst 0, 1) := by decide +kernel
theorem dX6_rows_5 : decode cX6_rows 5 = .ok (.iaload, 1) := by decide +kernel
theorem dX6_rows_6 : decode cX6_rows 6 = .ok (.ireturn, 1) := by decide +kernel
theorem dX6_columns_0 : decode cX6_columns 0 = .ok (.aload_n 0, 1) := by decide +kernel
theorem dX6_columns_1 : decode cX6_columns 1 = .ok (.getfield 7, 3) := by decide +kernel
theorem dX6_columns_4 : decode cX6_columns 4 = .ok (.iconst 1, 1) := by decide +kernel
theorem dX6_columns_5 : decode cX6_columns 5 = .ok (.iaload, 1) := by decide +kernel
theorem dX6_columns_6 : decode cX6_columns 6 = .ok (.ireturn, 1) := by decide +kernel
theorem dX6_tile_0 : decode cX6_tile 0 = .ok (.aload_n 0, 1) := by decide +kernel
theorem dX6_tile_1 : decode cX6_tile 1 = .ok (.iload_n 1, 1) := by decide +kernel
theorem dX6_tile_2 : decode cX6_tile 2 = .ok (.iload_n 2, 1) := by decide +kernel
theorem dX6_tile_3 : decode cX6_tile 3 = .ok (.invokevirtual 90, 3) := by decide +kernel
theorem dX6_tile_6 : decode cX6_tile 6 = .ok (.ifCond .ne 5, 3) := by decide +kernel
theorem dX6_tile_9 : decode cX6_tile 9 = .ok (.iconst (-1), 1) := by decide +kernel
theorem dX6_tile_10 : decode cX6_tile 10 = .ok (.ireturn, 1) := by decide +kernel
theorem dX6_tile_11 : decode cX6_tile 11 = .ok (.aload_n 0, 1) := by decide +kernel
theorem dX6_tile_12 : decode cX6_tile 12 = .ok (.iload_n 1, 1) := by decide +kernel
theorem dX6_tile_13 : decode cX6_tile 13 = .ok (.iload_n 2, 1) := by decide +kernel
theorem dX6_tile_14 : decode cX6_tile 14 = .ok (.invokevirtual 94, 3) := by decide +kernel
theorem dX6_tile_17 : decode cX6_tile 17 = .ok (.istore 4, 2) := by decide +kernel
theorem dX6_tile_19 : decode cX6_tile 19 = .ok (.iload_n 3, 1) := by decide +kernel
theorem dX6_tile_20 : decode cX6_tile 20 = .ok (.tableswitch 100 0 5 #[40, 50, 57, 64, 71, 93], 40) := by decide +kernel
theorem dX6_tile_60 : decode cX6_tile 60 = .ok (.aload_n 0, 1) := by decide +kernel
theorem dX6_tile_61 : decode cX6_tile 61 = .ok (.getfield 7, 3) := by decide +kernel
theorem dX6_tile_64 : decode cX6_tile 64 = .ok (.iconst 3, 1) := by decide +kernel
theorem dX6_tile_65 : decode cX6_tile 65 = .ok (.iload 4, 2) := by decide +kernel
theorem dX6_tile_67 : decode cX6_tile 67 = .ok (.iadd, 1) := by decide +kernel
theorem dX6_tile_68 : decode cX6_tile 68 = .ok (.iaload, 1) := by decide +kernel
theorem dX6_tile_69 : decode cX6_tile 69 = .ok (.ireturn, 1) := by decide +kernel
theorem dX6_tile_70 : decode cX6_tile 70 = .ok (.aload_n 0, 1) := by decide +kernel
theorem dX6_tile_71 : decode cX6_tile 71 = .ok (.iload_n 1, 1) := by decide +kernel
theorem dX6_tile_72 : decode cX6_tile 72 = .ok (.iload_n 2, 1) := by decide +kernel
theorem dX6_tile_73 : decode cX6_tile 73 = .ok (.invokevirtual 104, 3) := by decide +kernel
theorem dX6_tile_76 : decode cX6_tile 76 = .ok (.ireturn, 1) := by decide +kernel
theorem dX6_tile_77 : decode cX6_tile 77 = .ok (.aload_n 0, 1) := by decide +kernel
theorem dX6_tile_78 : decode cX6_tile 78 = .ok (.iload 4, 2) := by decide +kernel
theorem dX6_tile_80 : decode cX6_tile 80 = .ok (.invokevirtual 107, 3) := by decide +kernel
theorem dX6_tile_83 : decode cX6_tile 83 = .ok (.ireturn, 1) := by decide +kernel
theorem dX6_tile_84 : decode cX6_tile 84 = .ok (.aload_n 0, 1) := by decide +kernel
theorem dX6_tile_85 : decode cX6_tile 85 = .ok (.iload 4, 2) := by decide +kernel
theorem dX6_tile_87 : decode cX6_tile 87 = .ok (.invokevirtual 110, 3) := by decide +kernel
theorem dX6_tile_90 : decode cX6_tile 90 = .ok (.ireturn, 1) := by decide +kernel
theorem dX6_tile_91 : decode cX6_tile 91 = .ok (.aload_n 0, 1) := by decide +kernel
theorem dX6_tile_92 : decode cX6_tile 92 = .ok (.getfield 7, 3) := by decide +kernel
theorem dX6_tile_95 : decode cX6_tile 95 = .ok (.sipush 147, 3) := by decide +kernel
theorem dX6_tile_98 : decode cX6_tile 98 = .ok (.iload 4, 2) := by decide +kernel
theorem dX6_tile_100 : decode cX6_tile 100 = .ok (.iadd, 1) := by decide +kernel
theorem dX6_tile_101 : decode cX6_tile 101 = .ok (.iaload, 1) := by decide +kernel
theorem dX6_tile_102 : decode cX6_tile 102 = .ok (.bipush (-6), 2) := by decide +kernel
theorem dX6_tile_104 : decode cX6_tile 104 = .ok (.if_icmp .ne 7, 3) := by decide +kernel
theorem dX6_tile_107 : decode cX6_tile 107 = .ok (.iconst 0, 1) := by decide +kernel
theorem dX6_tile_108 : decode cX6_tile 108 = .ok (.goto 4, 3) := by decide +kernel
theorem dX6_tile_111 : decode cX6_tile 111 = .ok (.iconst 1, 1) := by decide +kernel
theorem dX6_tile_112 : decode cX6_tile 112 = .ok (.ireturn, 1) := by decide +kernel
theorem dX6_tile_113 : decode cX6_tile 113 = .ok (.aload_n 0, 1) := by decide +kernel
theorem dX6_tile_114 : decode cX6_tile 114 = .ok (.iload 4, 2) := by decide +kernel
theorem dX6_tile_116 : decode cX6_tile 116 = .ok (.invokevirtual 142, 3) := by decide +kernel
theorem dX6_tile_119 : decode cX6_tile 119 = .ok (.ireturn, 1) := by decide +kernel
theorem dX6_tile_120 : decode cX6_tile 120 = .ok (.bipush (-2), 2) := by decide +kernel
theorem dX6_tile_122 : decode cX6_tile 122 = .ok (.ireturn, 1) := by decide +kernel
theorem dX6_isShape_0 : decode cX6_isShape 0 = .ok (.iload_n 0, 1) := by decide +kernel
theorem dX6_isShape_1 : decode cX6_isShape 1 = .ok (.iconst 0, 1) := by decide +kernel
theorem dX6_isShape_2 : decode cX6_isShape 2 = .ok (.bipush 46, 2) := by decide +kernel
theorem dX6_isShape_4 : decode cX6_isShape 4 = .ok (.invokestatic 61, 3) := by decide +kernel
theorem dX6_isShape_7 : decode cX6_isShape 7 = .ok (.ireturn, 1) := by decide +kernel
theorem dX6_pin_0 : decode cX6_pin 0 = .ok (.aload_n 0, 1) := by decide +kernel
theorem dX6_pin_1 : decode cX6_pin 1 = .ok (.iload_n 1, 1) := by decide +kernel
theorem dX6_pin_2 : decode cX6_pin 2 = .ok (.iload_n 2, 1) := by decide +kernel
theorem dX6_pin_3 : decode cX6_pin 3 = .ok (.invokevirtual 90, 3) := by decide +kernel
theorem dX6_pin_6 : decode cX6_pin 6 = .ok (.ifCond .eq 10, 3) := by decide +kernel
theorem dX6_pin_9 : decode cX6_pin 9 = .ok (.iload_n 3, 1) := by decide +kernel
theorem dX6_pin_10 : decode cX6_pin 10 = .ok (.invokestatic 145, 3) := by decide +kernel
theorem dX6_pin_13 : decode cX6_pin 13 = .ok (.ifCond .ne 5, 3) := by decide +kernel
theorem dX6_pin_16 : decode cX6_pin 16 = .ok (.iconst (-1), 1) := by decide +kernel
theorem dX6_pin_17 : decode cX6_pin 17 = .ok (.ireturn, 1) := by decide +kernel
theorem dX6_pin_18 : decode cX6_pin 18 = .ok (.aload_n 0, 1) := by decide +kernel
theorem dX6_pin_19 : decode cX6_pin 19 = .ok (.iload_n 1, 1) := by decide +kernel
theorem dX6_pin_20 : decode cX6_pin 20 = .ok (.iload_n 2, 1) := by decide +kernel
theorem dX6_pin_21 : decode cX6_pin 21 = .ok (.invokevirtual 94, 3) := by decide +kernel
theorem dX6_pin_24 : decode cX6_pin 24 = .ok (.istore 4, 2) := by decide +kernel
theorem dX6_pin_26 : decode cX6_pin 26 = .ok (.aload_n 0, 1) := by decide +kernel
theorem dX6_pin_27 : decode cX6_pin 27 = .ok (.iload 4, 2) := by decide +kernel
theorem dX6_pin_29 : decode cX6_pin 29 = .ok (.invokevirtual 97, 3) := by decide +kernel
theorem dX6_pin_32 : decode cX6_pin 32 = .ok (.ifCond .ne 6, 3) := by decide +kernel
theorem dX6_pin_35 : decode cX6_pin 35 = .ok (.bipush (-3), 2) := by decide +kernel
theorem dX6_pin_37 : decode cX6_pin 37 = .ok (.ireturn, 1) := by decide +kernel
theorem dX6_pin_38 : decode cX6_pin 38 = .ok (.aload_n 0, 1) := by decide +kernel
theorem dX6_pin_39 : decode cX6_pin 39 = .ok (.invokevirtual 77, 3) := by decide +kernel
theorem dX6_pin_42 : decode cX6_pin 42 = .ok (.aload_n 0, 1) := by decide +kernel
theorem dX6_pin_43 : decode cX6_pin 43 = .ok (.getfield 7, 3) := by decide +kernel
theorem dX6_pin_46 : decode cX6_pin 46 = .ok (.sipush 147, 3) := by decide +kernel
theorem dX6_pin_49 : decode cX6_pin 49 = .ok (.iload 4, 2) := by decide +kernel
theorem dX6_pin_51 : decode cX6_pin 51 = .ok (.iadd, 1) := by decide +kernel
theorem dX6_pin_52 : decode cX6_pin 52 = .ok (.iload_n 3, 1) := by decide +kernel
theorem dX6_pin_53 : decode cX6_pin 53 = .ok (.iastore, 1) := by decide +kernel
theorem dX6_pin_54 : decode cX6_pin 54 = .ok (.aload_n 0, 1) := by decide +kernel
theorem dX6_pin_55 : decode cX6_pin 55 = .ok (.iload 4, 2) := by decide +kernel
theorem dX6_pin_57 : decode cX6_pin 57 = .ok (.invokevirtual 142, 3) := by decide +kernel
theorem dX6_pin_60 : decode cX6_pin 60 = .ok (.ireturn, 1) := by decide +kernel
theorem dX6_unpin_0 : decode cX6_unpin 0 = .ok (.aload_n 0, 1) := by decide +kernel
theorem dX6_unpin_1 : decode cX6_unpin 1 = .ok (.iload_n 1, 1) := by decide +kernel
theorem dX6_unpin_2 : decode cX6_unpin 2 = .ok (.iload_n 2, 1) := by decide +kernel
theorem dX6_unpin_3 : decode cX6_unpin 3 = .ok (.invokevirtual 90, 3) := by decide +kernel
theorem dX6_unpin_6 : decode cX6_unpin 6 = .ok (.ifCond .ne 5, 3) := by decide +kernel
theorem dX6_unpin_9 : decode cX6_unpin 9 = .ok (.iconst (-1), 1) := by decide +kernel
theorem dX6_unpin_10 : decode cX6_unpin 10 = .ok (.ireturn, 1) := by decide +kernel
theorem dX6_unpin_11 : decode cX6_unpin 11 = .ok (.aload_n 0, 1) := by decide +kernel
theorem dX6_unpin_12 : decode cX6_unpin 12 = .ok (.getfield 7, 3) := by decide +kernel
theorem dX6_unpin_15 : decode cX6_unpin 15 = .ok (.sipush 147, 3) := by decide +kernel
theorem dX6_unpin_18 : decode cX6_unpin 18 = .ok (.aload_n 0, 1) := by decide +kernel
theorem dX6_unpin_19 : decode cX6_unpin 19 = .ok (.iload_n 1, 1) := by decide +kernel
theorem dX6_unpin_20 : decode cX6_unpin 20 = .ok (.iload_n 2, 1) := by decide +kernel
theorem dX6_unpin_21 : decode cX6_unpin 21 = .ok (.invokevirtual 94, 3) := by decide +kernel
theorem dX6_unpin_24 : decode cX6_unpin 24 = .ok (.iadd, 1) := by decide +kernel
theorem dX6_unpin_25 : decode cX6_unpin 25 = .ok (.iaload, 1) := by decide +kernel
theorem dX6_unpin_26 : decode cX6_unpin 26 = .ok (.istore_n 3, 1) := by decide +kernel
theorem dX6_unpin_27 : decode cX6_unpin 27 = .ok (.iload_n 3, 1) := by decide +kernel
theorem dX6_unpin_28 : decode cX6_unpin 28 = .ok (.bipush (-6), 2) := by decide +kernel
theorem dX6_unpin_30 : decode cX6_unpin 30 = .ok (.if_icmp .ne 6, 3) := by decide +kernel
theorem dX6_unpin_33 : decode cX6_unpin 33 = .ok (.bipush (-3), 2) := by decide +kernel
theorem dX6_unpin_35 : decode cX6_unpin 35 = .ok (.ireturn, 1) := by decide +kernel
theorem dX6_unpin_36 : decode cX6_unpin 36 = .ok (.aload_n 0, 1) := by decide +kernel
theorem dX6_unpin_37 : decode cX6_unpin 37 = .ok (.invokevirtual 77, 3) := by decide +kernel
theorem dX6_unpin_40 : decode cX6_unpin 40 = .ok (.aload_n 0, 1) := by decide +kernel
theorem dX6_unpin_41 : decode cX6_unpin 41 = .ok (.getfield 7, 3) := by decide +kernel
theorem dX6_unpin_44 : decode cX6_unpin 44 = .ok (.sipush 147, 3) := by decide +kernel
theorem dX6_unpin_47 : decode cX6_unpin 47 = .ok (.aload_n 0, 1) := by decide +kernel
theorem dX6_unpin_48 : decode cX6_unpin 48 = .ok (.iload_n 1, 1) := by decide +kernel
theorem dX6_unpin_49 : decode cX6_unpin 49 = .ok (.iload_n 2, 1) := by decide +kernel
theorem dX6_unpin_50 : decode cX6_unpin 50 = .ok (.invokevirtual 94, 3) := by decide +kernel
theorem dX6_unpin_53 : decode cX6_unpin 53 = .ok (.iadd, 1) := by decide +kernel
theorem dX6_unpin_54 : decode cX6_unpin 54 = .ok (.bipush (-6), 2) := by decide +kernel
theorem dX6_unpin_56 : decode cX6_unpin 56 = .ok (.iastore, 1) := by decide +kernel
theorem dX6_unpin_57 : decode cX6_unpin 57 = .ok (.iload_n 3, 1) := by decide +kernel
theorem dX6_unpin_58 : decode cX6_unpin 58 = .ok (.ireturn, 1) := by decide +kernel
theorem dX6_faults_0 : decode cX6_faults 0 = .ok (.iconst 0, 1) := by decide +kernel
theorem dX6_faults_1 : decode cX6_faults 1 = .ok (.istore_n 1, 1) := by decide +kernel
theorem dX6_faults_2 : decode cX6_faults 2 = .ok (.iconst 0, 1) := by decide +kernel
theorem dX6_faults_3 : decode cX6_faults 3 = .ok (.istore_n 2, 1) := by decide +kernel
theorem dX6_faults_4 : decode cX6_faults 4 = .ok (.iload_n 2, 1) := by decide +kernel
theorem dX6_faults_5 : decode cX6_faults 5 = .ok (.aload_n 0, 1) := by decide +kernel
theorem dX6_faults_6 : decode cX6_faults 6 = .ok (.invokevirtual 116, 3) := by decide +kernel
theorem dX6_faults_9 : decode cX6_faults 9 = .ok (.if_icmp .ge 17, 3) := by decide +kernel
theorem dX6_faults_12 : decode cX6_faults 12 = .ok (.iload_n 1, 1) := by decide +kernel
theorem dX6_faults_13 : decode cX6_faults 13 = .ok (.aload_n 0, 1) := by decide +kernel
theorem dX6_faults_14 : decode cX6_faults 14 = .ok (.iload_n 2, 1) := by decide +kernel
theorem dX6_faults_15 : decode cX6_faults 15 = .ok (.invokevirtual 142, 3) := by decide +kernel
theorem dX6_faults_18 : decode cX6_faults 18 = .ok (.iadd, 1) := by decide +kernel
theorem dX6_faults_19 : decode cX6_faults 19 = .ok (.istore_n 1, 1) := by decide +kernel
theorem dX6_faults_20 : decode cX6_faults 20 = .ok (.iinc 2 1, 3) := by decide +kernel
theorem dX6_faults_23 : decode cX6_faults 23 = .ok (.goto (-19), 3) := by decide +kernel
theorem dX6_faults_26 : decode cX6_faults 26 = .ok (.iload_n 1, 1) := by decide +kernel
theorem dX6_faults_27 : decode cX6_faults 27 = .ok (.ireturn, 1) := by decide +kernel
theorem dX6_told_0 : decode cX6_told 0 = .ok (.bipush 100, 2) := by decide +kernel
theorem dX6_told_2 : decode cX6_told 2 = .ok (.iload_n 1, 1) := by decide +kernel
theorem dX6_told_3 : decode cX6_told 3 = .ok (.aload_n 0, 1) := by decide +kernel
theorem dX6_told_4 : decode cX6_told 4 = .ok (.getfield 7, 3) := by decide +kernel
theorem dX6_told_7 : decode cX6_told 7 = .ok (.iconst 1, 1) := by decide +kernel
theorem dX6_told_8 : decode cX6_told 8 = .ok (.iaload, 1) := by decide +kernel
theorem dX6_told_9 : decode cX6_told 9 = .ok (.idiv, 1) := by decide +kernel
theorem dX6_told_10 : decode cX6_told 10 = .ok (.imul, 1) := by decide +kernel
theorem dX6_told_11 : decode cX6_told 11 = .ok (.iload_n 1, 1) := by decide +kernel
theorem dX6_told_12 : decode cX6_told 12 = .ok (.aload_n 0, 1) := by decide +kernel
theorem dX6_told_13 : decode cX6_told 13 = .ok (.getfield 7, 3) := by decide +kernel
theorem dX6_told_16 : decode cX6_told 16 = .ok (.iconst 1, 1) := by decide +kernel
theorem dX6_told_17 : decode cX6_told 17 = .ok (.iaload, 1) := by decide +kernel
theorem dX6_told_18 : decode cX6_told 18 = .ok (.irem, 1) := by decide +kernel
theorem dX6_told_19 : decode cX6_told 19 = .ok (.iadd, 1) := by decide +kernel
theorem dX6_told_20 : decode cX6_told 20 = .ok (.ireturn, 1) := by decide +kernel
theorem dX6_firstFault_0 : decode cX6_firstFault 0 = .ok (.iconst 0, 1) := by decide +kernel
theorem dX6_firstFault_1 : decode cX6_firstFault 1 = .ok (.istore_n 1, 1) := by decide +kernel
theorem dX6_firstFault_2 : decode cX6_firstFault 2 = .ok (.iload_n 1, 1) := by decide +kernel
theorem dX6_firstFault_3 : decode cX6_firstFault 3 = .ok (.aload_n 0, 1) := by decide +kernel
theorem dX6_firstFault_4 : decode cX6_firstFault 4 = .ok (.invokevirtual 116, 3) := by decide +kernel
theorem dX6_firstFault_7 : decode cX6_firstFault 7 = .ok (.if_icmp .ge 23, 3) := by decide +kernel
theorem dX6_firstFault_10 : decode cX6_firstFault 10 = .ok (.aload_n 0, 1) := by decide +kernel
theorem dX6_firstFault_11 : decode cX6_firstFault 11 = .ok (.iload_n 1, 1) := by decide +kernel
theorem dX6_firstFault_12 : decode cX6_firstFault 12 = .ok (.invokevirtual 142, 3) := by decide +kernel
theorem dX6_firstFault_15 : decode cX6_firstFault 15 = .ok (.ifCond .le 9, 3) := by decide +kernel
theorem dX6_firstFault_18 : decode cX6_firstFault 18 = .ok (.aload_n 0, 1) := by decide +kernel
theorem dX6_firstFault_19 : decode cX6_firstFault 19 = .ok (.iload_n 1, 1) := by decide +kernel
theorem dX6_firstFault_20 : decode cX6_firstFault 20 = .ok (.invokevirtual 148, 3) := by decide +kernel
theorem dX6_firstFault_23 : decode cX6_firstFault 23 = .ok (.ireturn, 1) := by decide +kernel
theorem dX6_firstFault_24 : decode cX6_firstFault 24 = .ok (.iinc 1 1, 3) := by decide +kernel
theorem dX6_firstFault_27 : decode cX6_firstFault 27 = .ok (.goto (-25), 3) := by decide +kernel
theorem dX6_firstFault_30 : decode cX6_firstFault 30 = .ok (.bipush (-6), 2) := by decide +kernel
theorem dX6_firstFault_32 : decode cX6_firstFault 32 = .ok (.ireturn, 1) := by decide +kernel
theorem dX6_maskOf_0 : decode cX6_maskOf 0 = .ok (.iload_n 1, 1) := by decide +kernel
theorem dX6_maskOf_1 : decode cX6_maskOf 1 = .ok (.invokestatic 145, 3) := by decide +kernel
theorem dX6_maskOf_4 : decode cX6_maskOf 4 = .ok (.ifCond .eq 12, 3) := by decide +kernel
theorem dX6_maskOf_7 : decode cX6_maskOf 7 = .ok (.aload_n 0, 1) := by decide +kernel
theorem dX6_maskOf_8 : decode cX6_maskOf 8 = .ok (.getfield 23, 3) := by decide +kernel
theorem dX6_maskOf_11 : decode cX6_maskOf 11 = .ok (.iload_n 1, 1) := by decide +kernel
theorem dX6_maskOf_12 : decode cX6_maskOf 12 = .ok (.iaload, 1) := by decide +kernel
theorem dX6_maskOf_13 : decode cX6_maskOf 13 = .ok (.goto 4, 3) := by decide +kernel
theorem dX6_maskOf_16 : decode cX6_maskOf 16 = .ok (.iconst (-1), 1) := by decide +kernel
theorem dX6_maskOf_17 : decode cX6_maskOf 17 = .ok (.ireturn, 1) := by decide +kernel
theorem dX6_shapeOf_0 : decode cX6_shapeOf 0 = .ok (.iload_n 1, 1) := by decide +kernel
theorem dX6_shapeOf_1 : decode cX6_shapeOf 1 = .ok (.iconst 0, 1) := by decide +kernel
theorem dX6_shapeOf_2 : decode cX6_shapeOf 2 = .ok (.sipush 255, 3) := by decide +kernel
theorem dX6_shapeOf_5 : decode cX6_shapeOf 5 = .ok (.invokestatic 61, 3) := by decide +kernel
theorem dX6_shapeOf_8 : decode cX6_shapeOf 8 = .ok (.ifCond .eq 12, 3) := by decide +kernel
theorem dX6_shapeOf_11 : decode cX6_shapeOf 11 = .ok (.aload_n 0, 1) := by decide +kernel
theorem dX6_shapeOf_12 : decode cX6_shapeOf 12 = .ok (.getfield 26, 3) := by decide +kernel
theorem dX6_shapeOf_15 : decode cX6_shapeOf 15 = .ok (.iload_n 1, 1) := by decide +kernel
theorem dX6_shapeOf_16 : decode cX6_shapeOf 16 = .ok (.iaload, 1) := by decide +kernel
theorem dX6_shapeOf_17 : decode cX6_shapeOf 17 = .ok (.goto 5, 3) := by decide +kernel
theorem dX6_shapeOf_20 : decode cX6_shapeOf 20 = .ok (.bipush (-2), 2) := by decide +kernel
theorem dX6_shapeOf_22 : decode cX6_shapeOf 22 = .ok (.ireturn, 1) := by decide +kernel
theorem dX6_turned_0 : decode cX6_turned 0 = .ok (.iload_n 1, 1) := by decide +kernel
theorem dX6_turned_1 : decode cX6_turned 1 = .ok (.invokestatic 145, 3) := by decide +kernel
theorem dX6_turned_4 : decode cX6_turned 4 = .ok (.ifCond .ne 5, 3) := by decide +kernel
theorem dX6_turned_7 : decode cX6_turned 7 = .ok (.iconst (-1), 1) := by decide +kernel
theorem dX6_turned_8 : decode cX6_turned 8 = .ok (.ireturn, 1) := by decide +kernel
theorem dX6_turned_9 : decode cX6_turned 9 = .ok (.iload_n 2, 1) := by decide +kernel
theorem dX6_turned_10 : decode cX6_turned 10 = .ok (.iconst 0, 1) := by decide +kernel
theorem dX6_turned_11 : decode cX6_turned 11 = .ok (.iconst 3, 1) := by decide +kernel
theorem dX6_turned_12 : decode cX6_turned 12 = .ok (.invokestatic 61, 3) := by decide +kernel
theorem dX6_turned_15 : decode cX6_turned 15 = .ok (.ifCond .eq 12, 3) := by decide +kernel
theorem dX6_turned_18 : decode cX6_turned 18 = .ok (.aload_n 0, 1) := by decide +kernel
theorem dX6_turned_19 : decode cX6_turned 19 = .ok (.iload_n 1, 1) := by decide +kernel
theorem dX6_turned_20 : decode cX6_turned 20 = .ok (.iload_n 2, 1) := by decide +kernel
theorem dX6_turned_21 : decode cX6_turned 21 = .ok (.invokevirtual 136, 3) := by decide +kernel
theorem dX6_turned_24 : decode cX6_turned 24 = .ok (.goto 5, 3) := by decide +kernel
theorem dX6_turned_27 : decode cX6_turned 27 = .ok (.bipush (-2), 2) := by decide +kernel
theorem dX6_turned_29 : decode cX6_turned 29 = .ok (.ireturn, 1) := by decide +kernel
theorem dX6_mirrored_0 : decode cX6_mirrored 0 = .ok (.iload_n 1, 1) := by decide +kernel
theorem dX6_mirrored_1 : decode cX6_mirrored 1 = .ok (.invokestatic 145, 3) := by decide +kernel
theorem dX6_mirrored_4 : decode cX6_mirrored 4 = .ok (.ifCond .ne 5, 3) := by decide +kernel
theorem dX6_mirrored_7 : decode cX6_mirrored 7 = .ok (.iconst (-1), 1) := by decide +kernel
theorem dX6_mirrored_8 : decode cX6_mirrored 8 = .ok (.ireturn, 1) := by decide +kernel
theorem dX6_mirrored_9 : decode cX6_mirrored 9 = .ok (.iconst 0, 1) := by decide +kernel
theorem dX6_mirrored_10 : decode cX6_mirrored 10 = .ok (.istore_n 2, 1) := by decide +kernel
theorem dX6_mirrored_11 : decode cX6_mirrored 11 = .ok (.iconst 0, 1) := by decide +kernel
theorem dX6_mirrored_12 : decode cX6_mirrored 12 = .ok (.istore_n 3, 1) := by decide +kernel
theorem dX6_mirrored_13 : decode cX6_mirrored 13 = .ok (.iload_n 3, 1) := by decide +kernel
theorem dX6_mirrored_14 : decode cX6_mirrored 14 = .ok (.bipush 8, 2) := by decide +kernel
theorem dX6_mirrored_16 : decode cX6_mirrored 16 = .ok (.if_icmp .ge 27, 3) := by decide +kernel
theorem dX6_mirrored_19 : decode cX6_mirrored 19 = .ok (.iload_n 2, 1) := by decide +kernel
theorem dX6_mirrored_20 : decode cX6_mirrored 20 = .ok (.aload_n 0, 1) := by decide +kernel
theorem dX6_mirrored_21 : decode cX6_mirrored 21 = .ok (.getfield 23, 3) := by decide +kernel
theorem dX6_mirrored_24 : decode cX6_mirrored 24 = .ok (.iload_n 1, 1) := by decide +kernel
theorem dX6_mirrored_25 : decode cX6_mirrored 25 = .ok (.iaload, 1) := by decide +kernel
theorem dX6_mirrored_26 : decode cX6_mirrored 26 = .ok (.bipush 8, 2) := by decide +kernel
theorem dX6_mirrored_28 : decode cX6_mirrored 28 = .ok (.iload_n 3, 1) := by decide +kernel
theorem dX6_mirrored_29 : decode cX6_mirrored 29 = .ok (.isub, 1) := by decide +kernel
theorem dX6_mirrored_30 : decode cX6_mirrored 30 = .ok (.invokestatic 80, 3) := by decide +kernel
theorem dX6_mirrored_33 : decode cX6_mirrored 33 = .ok (.iload_n 3, 1) := by decide +kernel
theorem dX6_mirrored_34 : decode cX6_mirrored 34 = .ok (.ishl, 1) := by decide +kernel
theorem dX6_mirrored_35 : decode cX6_mirrored 35 = .ok (.ior, 1) := by decide +kernel
theorem dX6_mirrored_36 : decode cX6_mirrored 36 = .ok (.istore_n 2, 1) := by decide +kernel
theorem dX6_mirrored_37 : decode cX6_mirrored 37 = .ok (.iinc 3 1, 3) := by decide +kernel
theorem dX6_mirrored_40 : decode cX6_mirrored 40 = .ok (.goto (-27), 3) := by decide +kernel
theorem dX6_mirrored_43 : decode cX6_mirrored 43 = .ok (.aload_n 0, 1) := by decide +kernel
theorem dX6_mirrored_44 : decode cX6_mirrored 44 = .ok (.getfield 26, 3) := by decide +kernel
theorem dX6_mirrored_47 : decode cX6_mirrored 47 = .ok (.iload_n 2, 1) := by decide +kernel
theorem dX6_mirrored_48 : decode cX6_mirrored 48 = .ok (.iaload, 1) := by decide +kernel
theorem dX6_mirrored_49 : decode cX6_mirrored 49 = .ok (.ireturn, 1) := by decide +kernel
theorem dX6_counted_0 : decode cX6_counted 0 = .ok (.iconst 0, 1) := by decide +kernel
theorem dX6_counted_1 : decode cX6_counted 1 = .ok (.istore_n 2, 1) := by decide +kernel
theorem dX6_counted_2 : decode cX6_counted 2 = .ok (.iconst 0, 1) := by decide +kernel
theorem dX6_counted_3 : decode cX6_counted 3 = .ok (.istore_n 3, 1) := by decide +kernel
theorem dX6_counted_4 : decode cX6_counted 4 = .ok (.iload_n 3, 1) := by decide +kernel
theorem dX6_counted_5 : decode cX6_counted 5 = .ok (.aload_n 0, 1) := by decide +kernel
theorem dX6_counted_6 : decode cX6_counted 6 = .ok (.invokevirtual 116, 3) := by decide +kernel
theorem dX6_counted_9 : decode cX6_counted 9 = .ok (.if_icmp .ge 26, 3) := by decide +kernel
theorem dX6_counted_12 : decode cX6_counted 12 = .ok (.iload_n 2, 1) := by decide +kernel
theorem dX6_counted_13 : decode cX6_counted 13 = .ok (.aload_n 0, 1) := by decide +kernel
theorem dX6_counted_14 : decode cX6_counted 14 = .ok (.iload_n 3, 1) := by decide +kernel
theorem dX6_counted_15 : decode cX6_counted 15 = .ok (.invokevirtual 110, 3) := by decide +kernel
theorem dX6_counted_18 : decode cX6_counted 18 = .ok (.iload_n 1, 1) := by decide +kernel
theorem dX6_counted_19 : decode cX6_counted 19 = .ok (.if_icmp .ne 7, 3) := by decide +kernel
theorem dX6_counted_22 : decode cX6_counted 22 = .ok (.iconst 1, 1) := by decide +kernel
theorem dX6_counted_23 : decode cX6_counted 23 = .ok (.goto 4, 3) := by decide +kernel
theorem dX6_counted_26 : decode cX6_counted 26 = .ok (.iconst 0, 1) := by decide +kernel
theorem dX6_counted_27 : decode cX6_counted 27 = .ok (.iadd, 1) := by decide +kernel
theorem dX6_counted_28 : decode cX6_counted 28 = .ok (.istore_n 2, 1) := by decide +kernel
theorem dX6_counted_29 : decode cX6_counted 29 = .ok (.iinc 3 1, 3) := by decide +kernel
theorem dX6_counted_32 : decode cX6_counted 32 = .ok (.goto (-28), 3) := by decide +kernel
theorem dX6_counted_35 : decode cX6_counted 35 = .ok (.iload_n 2, 1) := by decide +kernel
theorem dX6_counted_36 : decode cX6_counted 36 = .ok (.ireturn, 1) := by decide +kernel
theorem dX6_count_0 : decode cX6_count 0 = .ok (.iload_n 1, 1) := by decide +kernel
theorem dX6_count_1 : decode cX6_count 1 = .ok (.invokestatic 145, 3) := by decide +kernel
theorem dX6_count_4 : decode cX6_count 4 = .ok (.ifCond .eq 11, 3) := by decide +kernel
theorem dX6_count_7 : decode cX6_count 7 = .ok (.aload_n 0, 1) := by decide +kernel
theorem dX6_count_8 : decode cX6_count 8 = .ok (.iload_n 1, 1) := by decide +kernel
theorem dX6_count_9 : decode cX6_count 9 = .ok (.invokevirtual 151, 3) := by decide +kernel
theorem dX6_count_12 : decode cX6_count 12 = .ok (.goto 4, 3) := by decide +kernel
theorem dX6_count_15 : decode cX6_count 15 = .ok (.iconst (-1), 1) := by decide +kernel
theorem dX6_count_16 : decode cX6_count 16 = .ok (.ireturn, 1) := by decide +kernel
theorem dX6_shapes_0 : decode cX6_shapes 0 = .ok (.iconst 0, 1) := by decide +kernel
theorem dX6_shapes_1 : decode cX6_shapes 1 = .ok (.istore_n 1, 1) := by decide +kernel
theorem dX6_shapes_2 : decode cX6_shapes 2 = .ok (.iconst 0, 1) := by decide +kernel
theorem dX6_shapes_3 : decode cX6_shapes 3 = .ok (.istore_n 2, 1) := by decide +kernel
theorem dX6_shapes_4 : decode cX6_shapes 4 = .ok (.iload_n 2, 1) := by decide +kernel
theorem dX6_shapes_5 : decode cX6_shapes 5 = .ok (.bipush 47, 2) := by decide +kernel
theorem dX6_shapes_7 : decode cX6_shapes 7 = .ok (.if_icmp .ge 25, 3) := by decide +kernel
theorem dX6_shapes_10 : decode cX6_shapes 10 = .ok (.iload_n 1, 1) := by decide +kernel
theorem dX6_shapes_11 : decode cX6_shapes 11 = .ok (.aload_n 0, 1) := by decide +kernel
theorem dX6_shapes_12 : decode cX6_shapes 12 = .ok (.iload_n 2, 1) := by decide +kernel
theorem dX6_shapes_13 : decode cX6_shapes 13 = .ok (.invokevirtual 151, 3) := by decide +kernel
theorem dX6_shapes_16 : decode cX6_shapes 16 = .ok (.ifCond .le 7, 3) := by decide +kernel
theorem dX6_shapes_19 : decode cX6_shapes 19 = .ok (.iconst 1, 1) := by decide +kernel
theorem dX6_shapes_20 : decode cX6_shapes 20 = .ok (.goto 4, 3) := by decide +kernel
theorem dX6_shapes_23 : decode cX6_shapes 23 = .ok (.iconst 0, 1) := by decide +kernel
theorem dX6_shapes_24 : decode cX6_shapes 24 = .ok (.iadd, 1) := by decide +kernel
theorem dX6_shapes_25 : decode cX6_shapes 25 = .ok (.istore_n 1, 1) := by decide +kernel
theorem dX6_shapes_26 : decode cX6_shapes 26 = .ok (.iinc 2 1, 3) := by decide +kernel
theorem dX6_shapes_29 : decode cX6_shapes 29 = .ok (.goto (-25), 3) := by decide +kernel
theorem dX6_shapes_32 : decode cX6_shapes 32 = .ok (.iload_n 1, 1) := by decide +kernel
theorem dX6_shapes_33 : decode cX6_shapes 33 = .ok (.ireturn, 1) := by decide +kernel
theorem dX6_land_0 : decode cX6_land 0 = .ok (.iconst 0, 1) := by decide +kernel
theorem dX6_land_1 : decode cX6_land 1 = .ok (.istore_n 1, 1) := by decide +kernel
theorem dX6_land_2 : decode cX6_land 2 = .ok (.iconst 0, 1) := by decide +kernel
theorem dX6_land_3 : decode cX6_land 3 = .ok (.istore_n 2, 1) := by decide +kernel
theorem dX6_land_4 : decode cX6_land 4 = .ok (.iload_n 2, 1) := by decide +kernel
theorem dX6_land_5 : decode cX6_land 5 = .ok (.aload_n 0, 1) := by decide +kernel
theorem dX6_land_6 : decode cX6_land 6 = .ok (.invokevirtual 116, 3) := by decide +kernel
theorem dX6_land_9 : decode cX6_land 9 = .ok (.if_icmp .ge 20, 3) := by decide +kernel
theorem dX6_land_12 : decode cX6_land 12 = .ok (.iload_n 1, 1) := by decide +kernel
theorem dX6_land_13 : decode cX6_land 13 = .ok (.aload_n 0, 1) := by decide +kernel
theorem dX6_land_14 : decode cX6_land 14 = .ok (.getfield 7, 3) := by decide +kernel
theorem dX6_land_17 : decode cX6_land 17 = .ok (.iconst 3, 1) := by decide +kernel
theorem dX6_land_18 : decode cX6_land 18 = .ok (.iload_n 2, 1) := by decide +kernel
theorem dX6_land_19 : decode cX6_land 19 = .ok (.iadd, 1) := by decide +kernel
theorem dX6_land_20 : decode cX6_land 20 = .ok (.iaload, 1) := by decide +kernel
theorem dX6_land_21 : decode cX6_land 21 = .ok (.iadd, 1) := by decide +kernel
theorem dX6_land_22 : decode cX6_land 22 = .ok (.istore_n 1, 1) := by decide +kernel
theorem dX6_land_23 : decode cX6_land 23 = .ok (.iinc 2 1, 3) := by decide +kernel
theorem dX6_land_26 : decode cX6_land 26 = .ok (.goto (-22), 3) := by decide +kernel
theorem dX6_land_29 : decode cX6_land 29 = .ok (.iload_n 1, 1) := by decide +kernel
theorem dX6_land_30 : decode cX6_land 30 = .ok (.ireturn, 1) := by decide +kernel
theorem dX6_bitsOfFloat_0 : decode cX6_bitsOfFloat 0 = .ok (.fload_n 0, 1) := by decide +kernel
theorem dX6_bitsOfFloat_1 : decode cX6_bitsOfFloat 1 = .ok (.fconst 0, 1) := by decide +kernel
theorem dX6_bitsOfFloat_2 : decode cX6_bitsOfFloat 2 = .ok (.fcmp .l, 1) := by decide +kernel
theorem dX6_bitsOfFloat_3 : decode cX6_bitsOfFloat 3 = .ok (.ifCond .ne 5, 3) := by decide +kernel
theorem dX6_bitsOfFloat_6 : decode cX6_bitsOfFloat 6 = .ok (.iconst 0, 1) := by decide +kernel
theorem dX6_bitsOfFloat_7 : decode cX6_bitsOfFloat 7 = .ok (.ireturn, 1) := by decide +kernel
theorem dX6_bitsOfFloat_8 : decode cX6_bitsOfFloat 8 = .ok (.fload_n 0, 1) := by decide +kernel
theorem dX6_bitsOfFloat_9 : decode cX6_bitsOfFloat 9 = .ok (.fstore_n 1, 1) := by decide +kernel
theorem dX6_bitsOfFloat_10 : decode cX6_bitsOfFloat 10 = .ok (.bipush 127, 2) := by decide +kernel
theorem dX6_bitsOfFloat_12 : decode cX6_bitsOfFloat 12 = .ok (.istore_n 2, 1) := by decide +kernel
theorem dX6_bitsOfFloat_13 : decode cX6_bitsOfFloat 13 = .ok (.fload_n 1, 1) := by decide +kernel
theorem dX6_bitsOfFloat_14 : decode cX6_bitsOfFloat 14 = .ok (.fconst 1, 1) := by decide +kernel
theorem dX6_bitsOfFloat_15 : decode cX6_bitsOfFloat 15 = .ok (.fcmp .g, 1) := by decide +kernel
theorem dX6_bitsOfFloat_16 : decode cX6_bitsOfFloat 16 = .ok (.ifCond .ge 13, 3) := by decide +kernel
theorem dX6_bitsOfFloat_19 : decode cX6_bitsOfFloat 19 = .ok (.fload_n 1, 1) := by decide +kernel
theorem dX6_bitsOfFloat_20 : decode cX6_bitsOfFloat 20 = .ok (.fconst 2, 1) := by decide +kernel
theorem dX6_bitsOfFloat_21 : decode cX6_bitsOfFloat 21 = .ok (.fmul, 1) := by decide +kernel
theorem dX6_bitsOfFloat_22 : decode cX6_bitsOfFloat 22 = .ok (.fstore_n 1, 1) := by decide +kernel
theorem dX6_bitsOfFloat_23 : decode cX6_bitsOfFloat 23 = .ok (.iinc 2 (-1), 3) := by decide +kernel
theorem dX6_bitsOfFloat_26 : decode cX6_bitsOfFloat 26 = .ok (.goto (-13), 3) := by decide +kernel
theorem dX6_bitsOfFloat_29 : decode cX6_bitsOfFloat 29 = .ok (.iload_n 2, 1) := by decide +kernel
theorem dX6_bitsOfFloat_30 : decode cX6_bitsOfFloat 30 = .ok (.bipush 23, 2) := by decide +kernel
theorem dX6_bitsOfFloat_32 : decode cX6_bitsOfFloat 32 = .ok (.ishl, 1) := by decide +kernel
theorem dX6_bitsOfFloat_33 : decode cX6_bitsOfFloat 33 = .ok (.fload_n 1, 1) := by decide +kernel
theorem dX6_bitsOfFloat_34 : decode cX6_bitsOfFloat 34 = .ok (.ldc 154, 2) := by decide +kernel
theorem dX6_bitsOfFloat_36 : decode cX6_bitsOfFloat 36 = .ok (.fmul, 1) := by decide +kernel
theorem dX6_bitsOfFloat_37 : decode cX6_bitsOfFloat 37 = .ok (.f2i, 1) := by decide +kernel
theorem dX6_bitsOfFloat_38 : decode cX6_bitsOfFloat 38 = .ok (.iadd, 1) := by decide +kernel
theorem dX6_bitsOfFloat_39 : decode cX6_bitsOfFloat 39 = .ok (.ldc 155, 2) := by decide +kernel
theorem dX6_bitsOfFloat_41 : decode cX6_bitsOfFloat 41 = .ok (.isub, 1) := by decide +kernel
theorem dX6_bitsOfFloat_42 : decode cX6_bitsOfFloat 42 = .ok (.ireturn, 1) := by decide +kernel
theorem dX6_landShare_0 : decode cX6_landShare 0 = .ok (.aload_n 0, 1) := by decide +kernel
theorem dX6_landShare_1 : decode cX6_landShare 1 = .ok (.invokevirtual 73, 3) := by decide +kernel
theorem dX6_landShare_4 : decode cX6_landShare 4 = .ok (.i2f, 1) := by decide +kernel
theorem dX6_landShare_5 : decode cX6_landShare 5 = .ok (.aload_n 0, 1) := by decide +kernel
theorem dX6_landShare_6 : decode cX6_landShare 6 = .ok (.invokevirtual 116, 3) := by decide +kernel
theorem dX6_landShare_9 : decode cX6_landShare 9 = .ok (.i2f, 1) := by decide +kernel
theorem dX6_landShare_10 : decode cX6_landShare 10 = .ok (.fdiv, 1) := by decide +kernel
theorem dX6_landShare_11 : decode cX6_landShare 11 = .ok (.invokestatic 156, 3) := by decide +kernel
theorem dX6_landShare_14 : decode cX6_landShare 14 = .ok (.ireturn, 1) := by decide +kernel
theorem dX6_coastAt_0 : decode cX6_coastAt 0 = .ok (.iconst 0, 1) := by decide +kernel
theorem dX6_coastAt_1 : decode cX6_coastAt 1 = .ok (.istore_n 2, 1) := by decide +kernel
theorem dX6_coastAt_2 : decode cX6_coastAt 2 = .ok (.iconst 0, 1) := by decide +kernel
theorem dX6_coastAt_3 : decode cX6_coastAt 3 = .ok (.istore_n 3, 1) := by decide +kernel
theorem dX6_coastAt_4 : decode cX6_coastAt 4 = .ok (.iload_n 3, 1) := by decide +kernel
theorem dX6_coastAt_5 : decode cX6_coastAt 5 = .ok (.bipush 8, 2) := by decide +kernel
theorem dX6_coastAt_7 : decode cX6_coastAt 7 = .ok (.if_icmp .ge 49, 3) := by decide +kernel
theorem dX6_coastAt_10 : decode cX6_coastAt 10 = .ok (.aload_n 0, 1) := by decide +kernel
theorem dX6_coastAt_11 : decode cX6_coastAt 11 = .ok (.iload_n 1, 1) := by decide +kernel
theorem dX6_coastAt_12 : decode cX6_coastAt 12 = .ok (.invokevirtual 97, 3) := by decide +kernel
theorem dX6_coastAt_15 : decode cX6_coastAt 15 = .ok (.ifCond .eq 41, 3) := by decide +kernel
theorem dX6_coastAt_18 : decode cX6_coastAt 18 = .ok (.iload_n 2, 1) := by decide +kernel
theorem dX6_coastAt_19 : decode cX6_coastAt 19 = .ok (.aload_n 0, 1) := by decide +kernel
theorem dX6_coastAt_20 : decode cX6_coastAt 20 = .ok (.iload_n 1, 1) := by decide +kernel
theorem dX6_coastAt_21 : decode cX6_coastAt 21 = .ok (.aload_n 0, 1) := by decide +kernel
theorem dX6_coastAt_22 : decode cX6_coastAt 22 = .ok (.getfield 7, 3) := by decide +kernel
theorem dX6_coastAt_25 : decode cX6_coastAt 25 = .ok (.iconst 1, 1) := by decide +kernel
theorem dX6_coastAt_26 : decode cX6_coastAt 26 = .ok (.iaload, 1) := by decide +kernel
theorem dX6_coastAt_27 : decode cX6_coastAt 27 = .ok (.idiv, 1) := by decide +kernel
theorem dX6_coastAt_28 : decode cX6_coastAt 28 = .ok (.iload_n 1, 1) := by decide +kernel
theorem dX6_coastAt_29 : decode cX6_coastAt 29 = .ok (.aload_n 0, 1) := by decide +kernel
theorem dX6_coastAt_30 : decode cX6_coastAt 30 = .ok (.getfield 7, 3) := by decide +kernel
theorem dX6_coastAt_33 : decode cX6_coastAt 33 = .ok (.iconst 1, 1) := by decide +kernel
theorem dX6_coastAt_34 : decode cX6_coastAt 34 = .ok (.iaload, 1) := by decide +kernel
theorem dX6_coastAt_35 : decode cX6_coastAt 35 = .ok (.irem, 1) := by decide +kernel
theorem dX6_coastAt_36 : decode cX6_coastAt 36 = .ok (.iload_n 3, 1) := by decide +kernel
theorem dX6_coastAt_37 : decode cX6_coastAt 37 = .ok (.invokevirtual 101, 3) := by decide +kernel
theorem dX6_coastAt_40 : decode cX6_coastAt 40 = .ok (.ifCond .eq 7, 3) := by decide +kernel
theorem dX6_coastAt_43 : decode cX6_coastAt 43 = .ok (.iconst 0, 1) := by decide +kernel
theorem dX6_coastAt_44 : decode cX6_coastAt 44 = .ok (.goto 4, 3) := by decide +kernel
theorem dX6_coastAt_47 : decode cX6_coastAt 47 = .ok (.iconst 1, 1) := by decide +kernel
theorem dX6_coastAt_48 : decode cX6_coastAt 48 = .ok (.iadd, 1) := by decide +kernel
theorem dX6_coastAt_49 : decode cX6_coastAt 49 = .ok (.istore_n 2, 1) := by decide +kernel
theorem dX6_coastAt_50 : decode cX6_coastAt 50 = .ok (.iinc 3 2, 3) := by decide +kernel
theorem dX6_coastAt_53 : decode cX6_coastAt 53 = .ok (.goto (-49), 3) := by decide +kernel
theorem dX6_coastAt_56 : decode cX6_coastAt 56 = .ok (.iload_n 2, 1) := by decide +kernel
theorem dX6_coastAt_57 : decode cX6_coastAt 57 = .ok (.ireturn, 1) := by decide +kernel
theorem dX6_coast_0 : decode cX6_coast 0 = .ok (.iconst 0, 1) := by decide +kernel
theorem dX6_coast_1 : decode cX6_coast 1 = .ok (.istore_n 1, 1) := by decide +kernel
theorem dX6_coast_2 : decode cX6_coast 2 = .ok (.iconst 0, 1) := by decide +kernel
theorem dX6_coast_3 : decode cX6_coast 3 = .ok (.istore_n 2, 1) := by decide +kernel
theorem dX6_coast_4 : decode cX6_coast 4 = .ok (.iload_n 2, 1) := by decide +kernel
theorem dX6_coast_5 : decode cX6_coast 5 = .ok (.aload_n 0, 1) := by decide +kernel
theorem dX6_coast_6 : decode cX6_coast 6 = .ok (.invokevirtual 116, 3) := by decide +kernel
theorem dX6_coast_9 : decode cX6_coast 9 = .ok (.if_icmp .ge 17, 3) := by decide +kernel
theorem dX6_coast_12 : decode cX6_coast 12 = .ok (.iload_n 1, 1) := by decide +kernel
theorem dX6_coast_13 : decode cX6_coast 13 = .ok (.aload_n 0, 1) := by decide +kernel
theorem dX6_coast_14 : decode cX6_coast 14 = .ok (.iload_n 2, 1) := by decide +kernel
theorem dX6_coast_15 : decode cX6_coast 15 = .ok (.invokevirtual 160, 3) := by decide +kernel
theorem dX6_coast_18 : decode cX6_coast 18 = .ok (.iadd, 1) := by decide +kernel
theorem dX6_coast_19 : decode cX6_coast 19 = .ok (.istore_n 1, 1) := by decide +kernel
theorem dX6_coast_20 : decode cX6_coast 20 = .ok (.iinc 2 1, 3) := by decide +kernel
theorem dX6_coast_23 : decode cX6_coast 23 = .ok (.goto (-19), 3) := by decide +kernel
theorem dX6_coast_26 : decode cX6_coast 26 = .ok (.iload_n 1, 1) := by decide +kernel
theorem dX6_coast_27 : decode cX6_coast 27 = .ok (.ireturn, 1) := by decide +kernel
theorem dX6_seeNone_0 : decode cX6_seeNone 0 = .ok (.iconst 0, 1) := by decide +kernel
theorem dX6_seeNone_1 : decode cX6_seeNone 1 = .ok (.istore_n 1, 1) := by decide +kernel
theorem dX6_seeNone_2 : decode cX6_seeNone 2 = .ok (.iload_n 1, 1) := by decide +kernel
theorem dX6_seeNone_3 : decode cX6_seeNone 3 = .ok (.sipush 144, 3) := by decide +kernel
theorem dX6_seeNone_6 : decode cX6_seeNone 6 = .ok (.if_icmp .ge 16, 3) := by decide +kernel
theorem dX6_seeNone_9 : decode cX6_seeNone 9 = .ok (.aload_n 0, 1) := by decide +kernel
theorem dX6_seeNone_10 : decode cX6_seeNone 10 = .ok (.getfield 47, 3) := by decide +kernel
theorem dX6_seeNone_13 : decode cX6_seeNone 13 = .ok (.iload_n 1, 1) := by decide +kernel
theorem dX6_seeNone_14 : decode cX6_seeNone 14 = .ok (.iconst 0, 1) := by decide +kernel
theorem dX6_seeNone_15 : decode cX6_seeNone 15 = .ok (.bastore, 1) := by decide +kernel
theorem dX6_seeNone_16 : decode cX6_seeNone 16 = .ok (.iinc 1 1, 3) := by decide +kernel
theorem dX6_seeNone_19 : decode cX6_seeNone 19 = .ok (.goto (-17), 3) := by decide +kernel
theorem dX6_seeNone_22 : decode cX6_seeNone 22 = .ok (.return_, 1) := by decide +kernel
theorem dX6_seeFound_0 : decode cX6_seeFound 0 = .ok (.iconst 0, 1) := by decide +kernel
theorem dX6_seeFound_1 : decode cX6_seeFound 1 = .ok (.istore_n 1, 1) := by decide +kernel
theorem dX6_seeFound_2 : decode cX6_seeFound 2 = .ok (.iload_n 1, 1) := by decide +kernel
theorem dX6_seeFound_3 : decode cX6_seeFound 3 = .ok (.aload_n 0, 1) := by decide +kernel
theorem dX6_seeFound_4 : decode cX6_seeFound 4 = .ok (.getfield 129, 3) := by decide +kernel
theorem dX6_seeFound_7 : decode cX6_seeFound 7 = .ok (.if_icmp .ge 21, 3) := by decide +kernel
theorem dX6_seeFound_10 : decode cX6_seeFound 10 = .ok (.aload_n 0, 1) := by decide +kernel
theorem dX6_seeFound_11 : decode cX6_seeFound 11 = .ok (.getfield 47, 3) := by decide +kernel
theorem dX6_seeFound_14 : decode cX6_seeFound 14 = .ok (.aload_n 0, 1) := by decide +kernel
theorem dX6_seeFound_15 : decode cX6_seeFound 15 = .ok (.getfield 32, 3) := by decide +kernel
theorem dX6_seeFound_18 : decode cX6_seeFound 18 = .ok (.iload_n 1, 1) := by decide +kernel
theorem dX6_seeFound_19 : decode cX6_seeFound 19 = .ok (.iaload, 1) := by decide +kernel
theorem dX6_seeFound_20 : decode cX6_seeFound 20 = .ok (.iconst 1, 1) := by decide +kernel
theorem dX6_seeFound_21 : decode cX6_seeFound 21 = .ok (.bastore, 1) := by decide +kernel
theorem dX6_seeFound_22 : decode cX6_seeFound 22 = .ok (.iinc 1 1, 3) := by decide +kernel
theorem dX6_seeFound_25 : decode cX6_seeFound 25 = .ok (.goto (-23), 3) := by decide +kernel
theorem dX6_seeFound_28 : decode cX6_seeFound 28 = .ok (.return_, 1) := by decide +kernel
theorem dX6_islands_0 : decode cX6_islands 0 = .ok (.aload_n 0, 1) := by decide +kernel
theorem dX6_islands_1 : decode cX6_islands 1 = .ok (.invokevirtual 163, 3) := by decide +kernel
theorem dX6_islands_4 : decode cX6_islands 4 = .ok (.iconst 0, 1) := by decide +kernel
theorem dX6_islands_5 : decode cX6_islands 5 = .ok (.istore_n 1, 1) := by decide +kernel
theorem dX6_islands_6 : decode cX6_islands 6 = .ok (.iconst 0, 1) := by decide +kernel
theorem dX6_islands_7 : decode cX6_islands 7 = .ok (.istore_n 2, 1) := by decide +kernel
theorem dX6_islands_8 : decode cX6_islands 8 = .ok (.iload_n 2, 1) := by decide +kernel
theorem dX6_islands_9 : decode cX6_islands 9 = .ok (.aload_n 0, 1) := by decide +kernel
theorem dX6_islands_10 : decode cX6_islands 10 = .ok (.invokevirtual 116, 3) := by decide +kernel
theorem dX6_islands_13 : decode cX6_islands 13 = .ok (.if_icmp .ge 39, 3) := by decide +kernel
theorem dX6_islands_16 : decode cX6_islands 16 = .ok (.aload_n 0, 1) := by decide +kernel
theorem dX6_islands_17 : decode cX6_islands 17 = .ok (.iload_n 2, 1) := by decide +kernel
theorem dX6_islands_18 : decode cX6_islands 18 = .ok (.invokevirtual 97, 3) := by decide +kernel
theorem dX6_islands_21 : decode cX6_islands 21 = .ok (.ifCond .eq 25, 3) := by decide +kernel
theorem dX6_islands_24 : decode cX6_islands 24 = .ok (.aload_n 0, 1) := by decide +kernel
theorem dX6_islands_25 : decode cX6_islands 25 = .ok (.getfield 47, 3) := by decide +kernel
theorem dX6_islands_28 : decode cX6_islands 28 = .ok (.iload_n 2, 1) := by decide +kernel
theorem dX6_islands_29 : decode cX6_islands 29 = .ok (.baload, 1) := by decide +kernel
theorem dX6_islands_30 : decode cX6_islands 30 = .ok (.ifCond .ne 16, 3) := by decide +kernel
theorem dX6_islands_33 : decode cX6_islands 33 = .ok (.aload_n 0, 1) := by decide +kernel
theorem dX6_islands_34 : decode cX6_islands 34 = .ok (.iload_n 2, 1) := by decide +kernel
theorem dX6_islands_35 : decode cX6_islands 35 = .ok (.iconst 1, 1) := by decide +kernel
theorem dX6_islands_36 : decode cX6_islands 36 = .ok (.invokevirtual 132, 3) := by decide +kernel
theorem dX6_islands_39 : decode cX6_islands 39 = .ok (.aload_n 0, 1) := by decide +kernel
theorem dX6_islands_40 : decode cX6_islands 40 = .ok (.invokevirtual 166, 3) := by decide +kernel
theorem dX6_islands_43 : decode cX6_islands 43 = .ok (.iinc 1 1, 3) := by decide +kernel
theorem dX6_islands_46 : decode cX6_islands 46 = .ok (.iinc 2 1, 3) := by decide +kernel
theorem dX6_islands_49 : decode cX6_islands 49 = .ok (.goto (-41), 3) := by decide +kernel
theorem dX6_islands_52 : decode cX6_islands 52 = .ok (.iload_n 1, 1) := by decide +kernel
theorem dX6_islands_53 : decode cX6_islands 53 = .ok (.ireturn, 1) := by decide +kernel
theorem dX6_isInside_0 : decode cX6_isInside 0 = .ok (.iconst 1, 1) := by decide +kernel
theorem dX6_isInside_1 : decode cX6_isInside 1 = .ok (.istore_n 1, 1) := by decide +kernel
theorem dX6_isInside_2 : decode cX6_isInside 2 = .ok (.iconst 0, 1) := by decide +kernel
theorem dX6_isInside_3 : decode cX6_isInside 3 = .ok (.istore_n 2, 1) := by decide +kernel
theorem dX6_isInside_4 : decode cX6_isInside 4 = .ok (.iload_n 2, 1) := by decide +kernel
theorem dX6_isInside_5 : decode cX6_isInside 5 = .ok (.aload_n 0, 1) := by decide +kernel
theorem dX6_isInside_6 : decode cX6_isInside 6 = .ok (.getfield 129, 3) := by decide +kernel
theorem dX6_isInside_9 : decode cX6_isInside 9 = .ok (.if_icmp .ge 75, 3) := by decide +kernel
theorem dX6_isInside_12 : decode cX6_isInside 12 = .ok (.iload_n 1, 1) := by decide +kernel
theorem dX6_isInside_13 : decode cX6_isInside 13 = .ok (.ifCond .eq 63, 3) := by decide +kernel
theorem dX6_isInside_16 : decode cX6_isInside 16 = .ok (.aload_n 0, 1) := by decide +kernel
theorem dX6_isInside_17 : decode cX6_isInside 17 = .ok (.getfield 32, 3) := by decide +kernel
theorem dX6_isInside_20 : decode cX6_isInside 20 = .ok (.iload_n 2, 1) := by decide +kernel
theorem dX6_isInside_21 : decode cX6_isInside 21 = .ok (.iaload, 1) := by decide +kernel
theorem dX6_isInside_22 : decode cX6_isInside 22 = .ok (.aload_n 0, 1) := by decide +kernel
theorem dX6_isInside_23 : decode cX6_isInside 23 = .ok (.getfield 7, 3) := by decide +kernel
theorem dX6_isInside_26 : decode cX6_isInside 26 = .ok (.iconst 1, 1) := by decide +kernel
theorem dX6_isInside_27 : decode cX6_isInside 27 = .ok (.iaload, 1) := by decide +kernel
theorem dX6_isInside_28 : decode cX6_isInside 28 = .ok (.idiv, 1) := by decide +kernel
theorem dX6_isInside_29 : decode cX6_isInside 29 = .ok (.iconst 1, 1) := by decide +kernel
theorem dX6_isInside_30 : decode cX6_isInside 30 = .ok (.aload_n 0, 1) := by decide +kernel
theorem dX6_isInside_31 : decode cX6_isInside 31 = .ok (.getfield 7, 3) := by decide +kernel
theorem dX6_isInside_34 : decode cX6_isInside 34 = .ok (.iconst 0, 1) := by decide +kernel
theorem dX6_isInside_35 : decode cX6_isInside 35 = .ok (.iaload, 1) := by decide +kernel
theorem dX6_isInside_36 : decode cX6_isInside 36 = .ok (.iconst 2, 1) := by decide +kernel
theorem dX6_isInside_37 : decode cX6_isInside 37 = .ok (.isub, 1) := by decide +kernel
theorem dX6_isInside_38 : decode cX6_isInside 38 = .ok (.invokestatic 61, 3) := by decide +kernel
theorem dX6_isInside_41 : decode cX6_isInside 41 = .ok (.ifCond .eq 35, 3) := by decide +kernel
theorem dX6_isInside_44 : decode cX6_isInside 44 = .ok (.aload_n 0, 1) := by decide +kernel
theorem dX6_isInside_45 : decode cX6_isInside 45 = .ok (.getfield 32, 3) := by decide +kernel
theorem dX6_isInside_48 : decode cX6_isInside 48 = .ok (.iload_n 2, 1) := by decide +kernel
theorem dX6_isInside_49 : decode cX6_isInside 49 = .ok (.iaload, 1) := by decide +kernel
theorem dX6_isInside_50 : decode cX6_isInside 50 = .ok (.aload_n 0, 1) := by decide +kernel
theorem dX6_isInside_51 : decode cX6_isInside 51 = .ok (.getfield 7, 3) := by decide +kernel
theorem dX6_isInside_54 : decode cX6_isInside 54 = .ok (.iconst 1, 1) := by decide +kernel
theorem dX6_isInside_55 : decode cX6_isInside 55 = .ok (.iaload, 1) := by decide +kernel
theorem dX6_isInside_56 : decode cX6_isInside 56 = .ok (.irem, 1) := by decide +kernel
theorem dX6_isInside_57 : decode cX6_isInside 57 = .ok (.iconst 1, 1) := by decide +kernel
theorem dX6_isInside_58 : decode cX6_isInside 58 = .ok (.aload_n 0, 1) := by decide +kernel
theorem dX6_isInside_59 : decode cX6_isInside 59 = .ok (.getfield 7, 3) := by decide +kernel
theorem dX6_isInside_62 : decode cX6_isInside 62 = .ok (.iconst 1, 1) := by decide +kernel
theorem dX6_isInside_63 : decode cX6_isInside 63 = .ok (.iaload, 1) := by decide +kernel
theorem dX6_isInside_64 : decode cX6_isInside 64 = .ok (.iconst 2, 1) := by decide +kernel
theorem dX6_isInside_65 : decode cX6_isInside 65 = .ok (.isub, 1) := by decide +kernel
theorem dX6_isInside_66 : decode cX6_isInside 66 = .ok (.invokestatic 61, 3) := by decide +kernel
theorem dX6_isInside_69 : decode cX6_isInside 69 = .ok (.ifCond .eq 7, 3) := by decide +kernel
theorem dX6_isInside_72 : decode cX6_isInside 72 = .ok (.iconst 1, 1) := by decide +kernel
theorem dX6_isInside_73 : decode cX6_isInside 73 = .ok (.goto 4, 3) := by decide +kernel
theorem dX6_isInside_76 : decode cX6_isInside 76 = .ok (.iconst 0, 1) := by decide +kernel
theorem dX6_isInside_77 : decode cX6_isInside 77 = .ok (.istore_n 1, 1) := by decide +kernel
theorem dX6_isInside_78 : decode cX6_isInside 78 = .ok (.iinc 2 1, 3) := by decide +kernel
theorem dX6_isInside_81 : decode cX6_isInside 81 = .ok (.goto (-77), 3) := by decide +kernel
theorem dX6_isInside_84 : decode cX6_isInside 84 = .ok (.iload_n 1, 1) := by decide +kernel
theorem dX6_isInside_85 : decode cX6_isInside 85 = .ok (.ireturn, 1) := by decide +kernel
theorem dX6_lakes_0 : decode cX6_lakes 0 = .ok (.aload_n 0, 1) := by decide +kernel
theorem dX6_lakes_1 : decode cX6_lakes 1 = .ok (.invokevirtual 163, 3) := by decide +kernel
theorem dX6_lakes_4 : decode cX6_lakes 4 = .ok (.iconst 0, 1) := by decide +kernel
theorem dX6_lakes_5 : decode cX6_lakes 5 = .ok (.istore_n 1, 1) := by decide +kernel
theorem dX6_lakes_6 : decode cX6_lakes 6 = .ok (.iconst 0, 1) := by decide +kernel
theorem dX6_lakes_7 : decode cX6_lakes 7 = .ok (.istore_n 2, 1) := by decide +kernel
theorem dX6_lakes_8 : decode cX6_lakes 8 = .ok (.iload_n 2, 1) := by decide +kernel
theorem dX6_lakes_9 : decode cX6_lakes 9 = .ok (.aload_n 0, 1) := by decide +kernel
theorem dX6_lakes_10 : decode cX6_lakes 10 = .ok (.invokevirtual 116, 3) := by decide +kernel
theorem dX6_lakes_13 : decode cX6_lakes 13 = .ok (.if_icmp .ge 51, 3) := by decide +kernel
theorem dX6_lakes_16 : decode cX6_lakes 16 = .ok (.aload_n 0, 1) := by decide +kernel
theorem dX6_lakes_17 : decode cX6_lakes 17 = .ok (.iload_n 2, 1) := by decide +kernel
theorem dX6_lakes_18 : decode cX6_lakes 18 = .ok (.invokevirtual 97, 3) := by decide +kernel
theorem dX6_lakes_21 : decode cX6_lakes 21 = .ok (.ifCond .ne 37, 3) := by decide +kernel
theorem dX6_lakes_24 : decode cX6_lakes 24 = .ok (.aload_n 0, 1) := by decide +kernel
theorem dX6_lakes_25 : decode cX6_lakes 25 = .ok (.getfield 47, 3) := by decide +kernel
theorem dX6_lakes_28 : decode cX6_lakes 28 = .ok (.iload_n 2, 1) := by decide +kernel
theorem dX6_lakes_29 : decode cX6_lakes 29 = .ok (.baload, 1) := by decide +kernel
theorem dX6_lakes_30 : decode cX6_lakes 30 = .ok (.ifCond .ne 28, 3) := by decide +kernel
theorem dX6_lakes_33 : decode cX6_lakes 33 = .ok (.aload_n 0, 1) := by decide +kernel
theorem dX6_lakes_34 : decode cX6_lakes 34 = .ok (.iload_n 2, 1) := by decide +kernel
theorem dX6_lakes_35 : decode cX6_lakes 35 = .ok (.iconst 0, 1) := by decide +kernel
theorem dX6_lakes_36 : decode cX6_lakes 36 = .ok (.invokevirtual 132, 3) := by decide +kernel
theorem dX6_lakes_39 : decode cX6_lakes 39 = .ok (.aload_n 0, 1) := by decide +kernel
theorem dX6_lakes_40 : decode cX6_lakes 40 = .ok (.invokevirtual 166, 3) := by decide +kernel
theorem dX6_lakes_43 : decode cX6_lakes 43 = .ok (.iload_n 1, 1) := by decide +kernel
theorem dX6_lakes_44 : decode cX6_lakes 44 = .ok (.aload_n 0, 1) := by decide +kernel
theorem dX6_lakes_45 : decode cX6_lakes 45 = .ok (.invokevirtual 169, 3) := by decide +kernel
theorem dX6_lakes_48 : decode cX6_lakes 48 = .ok (.ifCond .eq 7, 3) := by decide +kernel
theorem dX6_lakes_51 : decode cX6_lakes 51 = .ok (.iconst 1, 1) := by decide +kernel
theorem dX6_lakes_52 : decode cX6_lakes 52 = .ok (.goto 4, 3) := by decide +kernel
theorem dX6_lakes_55 : decode cX6_lakes 55 = .ok (.iconst 0, 1) := by decide +kernel
theorem dX6_lakes_56 : decode cX6_lakes 56 = .ok (.iadd, 1) := by decide +kernel
theorem dX6_lakes_57 : decode cX6_lakes 57 = .ok (.istore_n 1, 1) := by decide +kernel
theorem dX6_lakes_58 : decode cX6_lakes 58 = .ok (.iinc 2 1, 3) := by decide +kernel
theorem dX6_lakes_61 : decode cX6_lakes 61 = .ok (.goto (-53), 3) := by decide +kernel
theorem dX6_lakes_64 : decode cX6_lakes 64 = .ok (.iload_n 1, 1) := by decide +kernel
theorem dX6_lakes_65 : decode cX6_lakes 65 = .ok (.ireturn, 1) := by decide +kernel
theorem dX6_region_0 : decode cX6_region 0 = .ok (.aload_n 0, 1) := by decide +kernel
theorem dX6_region_1 : decode cX6_region 1 = .ok (.iload_n 1, 1) := by decide +kernel
theorem dX6_region_2 : decode cX6_region 2 = .ok (.iload_n 2, 1) := by decide +kernel
theorem dX6_region_3 : decode cX6_region 3 = .ok (.invokevirtual 90, 3) := by decide +kernel
theorem dX6_region_6 : decode cX6_region 6 = .ok (.ifCond .ne 5, 3) := by decide +kernel
theorem dX6_region_9 : decode cX6_region 9 = .ok (.iconst (-1), 1) := by decide +kernel
theorem dX6_region_10 : decode cX6_region 10 = .ok (.ireturn, 1) := by decide +kernel
theorem dX6_region_11 : decode cX6_region 11 = .ok (.aload_n 0, 1) := by decide +kernel
theorem dX6_region_12 : decode cX6_region 12 = .ok (.aload_n 0, 1) := by decide +kernel
theorem dX6_region_13 : decode cX6_region 13 = .ok (.iload_n 1, 1) := by decide +kernel
theorem dX6_region_14 : decode cX6_region 14 = .ok (.iload_n 2, 1) := by decide +kernel
theorem dX6_region_15 : decode cX6_region 15 = .ok (.invokevirtual 94, 3) := by decide +kernel
theorem dX6_region_18 : decode cX6_region 18 = .ok (.iload_n 3, 1) := by decide +kernel
theorem dX6_region_19 : decode cX6_region 19 = .ok (.invokevirtual 132, 3) := by decide +kernel
theorem dX6_region_22 : decode cX6_region 22 = .ok (.aload_n 0, 1) := by decide +kernel
theorem dX6_region_23 : decode cX6_region 23 = .ok (.getfield 129, 3) := by decide +kernel
theorem dX6_region_26 : decode cX6_region 26 = .ok (.ireturn, 1) := by decide +kernel
theorem dX6_largestIsland_0 : decode cX6_largestIsland 0 = .ok (.aload_n 0, 1) := by decide +kernel
theorem dX6_largestIsland_1 : decode cX6_largestIsland 1 = .ok (.invokevirtual 163, 3) := by decide +kernel
theorem dX6_largestIsland_4 : decode cX6_largestIsland 4 = .ok (.bipush (-6), 2) := by decide +kernel
theorem dX6_largestIsland_6 : decode cX6_largestIsland 6 = .ok (.istore_n 1, 1) := by decide +kernel
theorem dX6_largestIsland_7 : decode cX6_largestIsland 7 = .ok (.iconst 0, 1) := by decide +kernel
theorem dX6_largestIsland_8 : decode cX6_largestIsland 8 = .ok (.istore_n 2, 1) := by decide +kernel
theorem dX6_largestIsland_9 : decode cX6_largestIsland 9 = .ok (.iconst 0, 1) := by decide +kernel
theorem dX6_largestIsland_10 : decode cX6_largestIsland 10 = .ok (.istore_n 3, 1) := by decide +kernel
theorem dX6_largestIsland_11 : decode cX6_largestIsland 11 = .ok (.iload_n 3, 1) := by decide +kernel
theorem dX6_largestIsland_12 : decode cX6_largestIsland 12 = .ok (.aload_n 0, 1) := by decide +kernel
theorem dX6_largestIsland_13 : decode cX6_largestIsland 13 = .ok (.invokevirtual 116, 3) := by decide +kernel
theorem dX6_largestIsland_16 : decode cX6_largestIsland 16 = .ok (.if_icmp .ge 71, 3) := by decide +kernel
theorem dX6_largestIsland_19 : decode cX6_largestIsland 19 = .ok (.aload_n 0, 1) := by decide +kernel
theorem dX6_largestIsland_20 : decode cX6_largestIsland 20 = .ok (.iload_n 3, 1) := by decide +kernel
theorem dX6_largestIsland_21 : decode cX6_largestIsland 21 = .ok (.invokevirtual 97, 3) := by decide +kernel
theorem dX6_largestIsland_24 : decode cX6_largestIsland 24 = .ok (.ifCond .eq 57, 3) := by decide +kernel
theorem dX6_largestIsland_27 : decode cX6_largestIsland 27 = .ok (.aload_n 0, 1) := by decide +kernel
theorem dX6_largestIsland_28 : decode cX6_largestIsland 28 = .ok (.getfield 47, 3) := by decide +kernel
theorem dX6_largestIsland_31 : decode cX6_largestIsland 31 = .ok (.iload_n 3, 1) := by decide +kernel
theorem dX6_largestIsland_32 : decode cX6_largestIsland 32 = .ok (.baload, 1) := by decide +kernel
theorem dX6_largestIsland_33 : decode cX6_largestIsland 33 = .ok (.ifCond .ne 48, 3) := by decide +kernel
theorem dX6_largestIsland_36 : decode cX6_largestIsland 36 = .ok (.aload_n 0, 1) := by decide +kernel
theorem dX6_largestIsland_37 : decode cX6_largestIsland 37 = .ok (.iload_n 3, 1) := by decide +kernel
theorem dX6_largestIsland_38 : decode cX6_largestIsland 38 = .ok (.iconst 1, 1) := by decide +kernel
theorem dX6_largestIsland_39 : decode cX6_largestIsland 39 = .ok (.invokevirtual 132, 3) := by decide +kernel
theorem dX6_largestIsland_42 : decode cX6_largestIsland 42 = .ok (.aload_n 0, 1) := by decide +kernel
theorem dX6_largestIsland_43 : decode cX6_largestIsland 43 = .ok (.invokevirtual 166, 3) := by decide +kernel
theorem dX6_largestIsland_46 : decode cX6_largestIsland 46 = .ok (.aload_n 0, 1) := by decide +kernel
theorem dX6_largestIsland_47 : decode cX6_largestIsland 47 = .ok (.getfield 129, 3) := by decide +kernel
theorem dX6_largestIsland_50 : decode cX6_largestIsland 50 = .ok (.iload_n 2, 1) := by decide +kernel
theorem dX6_largestIsland_51 : decode cX6_largestIsland 51 = .ok (.if_icmp .le 11, 3) := by decide +kernel
theorem dX6_largestIsland_54 : decode cX6_largestIsland 54 = .ok (.aload_n 0, 1) := by decide +kernel
theorem dX6_largestIsland_55 : decode cX6_largestIsland 55 = .ok (.iload_n 3, 1) := by decide +kernel
theorem dX6_largestIsland_56 : decode cX6_largestIsland 56 = .ok (.invokevirtual 148, 3) := by decide +kernel
theorem dX6_largestIsland_59 : decode cX6_largestIsland 59 = .ok (.goto 4, 3) := by decide +kernel
theorem dX6_largestIsland_62 : decode cX6_largestIsland 62 = .ok (.iload_n 1, 1) := by decide +kernel
theorem dX6_largestIsland_63 : decode cX6_largestIsland 63 = .ok (.istore_n 1, 1) := by decide +kernel
theorem dX6_largestIsland_64 : decode cX6_largestIsland 64 = .ok (.aload_n 0, 1) := by decide +kernel
theorem dX6_largestIsland_65 : decode cX6_largestIsland 65 = .ok (.getfield 129, 3) := by decide +kernel
theorem dX6_largestIsland_68 : decode cX6_largestIsland 68 = .ok (.iload_n 2, 1) := by decide +kernel
theorem dX6_largestIsland_69 : decode cX6_largestIsland 69 = .ok (.if_icmp .le 10, 3) := by decide +kernel
theorem dX6_largestIsland_72 : decode cX6_largestIsland 72 = .ok (.aload_n 0, 1) := by decide +kernel
theorem dX6_largestIsland_73 : decode cX6_largestIsland 73 = .ok (.getfield 129, 3) := by decide +kernel
theorem dX6_largestIsland_76 : decode cX6_largestIsland 76 = .ok (.goto 4, 3) := by decide +kernel
theorem dX6_largestIsland_79 : decode cX6_largestIsland 79 = .ok (.iload_n 2, 1) := by decide +kernel
theorem dX6_largestIsland_80 : decode cX6_largestIsland 80 = .ok (.istore_n 2, 1) := by decide +kernel
theorem dX6_largestIsland_81 : decode cX6_largestIsland 81 = .ok (.iinc 3 1, 3) := by decide +kernel
theorem dX6_largestIsland_84 : decode cX6_largestIsland 84 = .ok (.goto (-73), 3) := by decide +kernel
theorem dX6_largestIsland_87 : decode cX6_largestIsland 87 = .ok (.iload_n 1, 1) := by decide +kernel
theorem dX6_largestIsland_88 : decode cX6_largestIsland 88 = .ok (.ireturn, 1) := by decide +kernel
theorem dX6_way_0 : decode cX6_way 0 = .ok (.aload_n 0, 1) := by decide +kernel
theorem dX6_way_1 : decode cX6_way 1 = .ok (.iload_n 1, 1) := by decide +kernel
theorem dX6_way_2 : decode cX6_way 2 = .ok (.iload_n 2, 1) := by decide +kernel
theorem dX6_way_3 : decode cX6_way 3 = .ok (.invokevirtual 90, 3) := by decide +kernel
theorem dX6_way_6 : decode cX6_way 6 = .ok (.ifCond .eq 13, 3) := by decide +kernel
theorem dX6_way_9 : decode cX6_way 9 = .ok (.aload_n 0, 1) := by decide +kernel
theorem dX6_way_10 : decode cX6_way 10 = .ok (.iload_n 3, 1) := by decide +kernel
theorem dX6_way_11 : decode cX6_way 11 = .ok (.iload 4, 2) := by decide +kernel
theorem dX6_way_13 : decode cX6_way 13 = .ok (.invokevirtual 90, 3) := by decide +kernel
theorem dX6_way_16 : decode cX6_way 16 = .ok (.ifCond .ne 5, 3) := by decide +kernel
theorem dX6_way_19 : decode cX6_way 19 = .ok (.iconst (-1), 1) := by decide +kernel
theorem dX6_way_20 : decode cX6_way 20 = .ok (.ireturn, 1) := by decide +kernel
theorem dX6_way_21 : decode cX6_way 21 = .ok (.aload_n 0, 1) := by decide +kernel
theorem dX6_way_22 : decode cX6_way 22 = .ok (.aload_n 0, 1) := by decide +kernel
theorem dX6_way_23 : decode cX6_way 23 = .ok (.iload_n 1, 1) := by decide +kernel
theorem dX6_way_24 : decode cX6_way 24 = .ok (.iload_n 2, 1) := by decide +kernel
theorem dX6_way_25 : decode cX6_way 25 = .ok (.invokevirtual 94, 3) := by decide +kernel
theorem dX6_way_28 : decode cX6_way 28 = .ok (.iconst 0, 1) := by decide +kernel
theorem dX6_way_29 : decode cX6_way 29 = .ok (.invokevirtual 132, 3) := by decide +kernel
theorem dX6_way_32 : decode cX6_way 32 = .ok (.aload_n 0, 1) := by decide +kernel
theorem dX6_way_33 : decode cX6_way 33 = .ok (.getfield 35, 3) := by decide +kernel
theorem dX6_way_36 : decode cX6_way 36 = .ok (.aload_n 0, 1) := by decide +kernel
theorem dX6_way_37 : decode cX6_way 37 = .ok (.iload_n 3, 1) := by decide +kernel
theorem dX6_way_38 : decode cX6_way 38 = .ok (.iload 4, 2) := by decide +kernel
theorem dX6_way_40 : decode cX6_way 40 = .ok (.invokevirtual 94, 3) := by decide +kernel
theorem dX6_way_43 : decode cX6_way 43 = .ok (.iaload, 1) := by decide +kernel
theorem dX6_way_44 : decode cX6_way 44 = .ok (.ireturn, 1) := by decide +kernel
theorem dX6_coastIfChanged_0 : decode cX6_coastIfChanged 0 = .ok (.aload_n 0, 1) := by decide +kernel
theorem dX6_coastIfChanged_1 : decode cX6_coastIfChanged 1 = .ok (.iload_n 1, 1) := by decide +kernel
theorem dX6_coastIfChanged_2 : decode cX6_coastIfChanged 2 = .ok (.iload_n 2, 1) := by decide +kernel
theorem dX6_coastIfChanged_3 : decode cX6_coastIfChanged 3 = .ok (.invokevirtual 90, 3) := by decide +kernel
theorem dX6_coastIfChanged_6 : decode cX6_coastIfChanged 6 = .ok (.ifCond .ne 5, 3) := by decide +kernel
theorem dX6_coastIfChanged_9 : decode cX6_coastIfChanged 9 = .ok (.iconst (-1), 1) := by decide +kernel
theorem dX6_coastIfChanged_10 : decode cX6_coastIfChanged 10 = .ok (.ireturn, 1) := by decide +kernel
theorem dX6_coastIfChanged_11 : decode cX6_coastIfChanged 11 = .ok (.aload_n 0, 1) := by decide +kernel
theorem dX6_coastIfChanged_12 : decode cX6_coastIfChanged 12 = .ok (.iload_n 1, 1) := by decide +kernel
theorem dX6_coastIfChanged_13 : decode cX6_coastIfChanged 13 = .ok (.iload_n 2, 1) := by decide +kernel
theorem dX6_coastIfChanged_14 : decode cX6_coastIfChanged 14 = .ok (.invokevirtual 94, 3) := by decide +kernel
theorem dX6_coastIfChanged_17 : decode cX6_coastIfChanged 17 = .ok (.istore_n 3, 1) := by decide +kernel
theorem dX6_coastIfChanged_18 : decode cX6_coastIfChanged 18 = .ok (.aload_n 0, 1) := by decide +kernel
theorem dX6_coastIfChanged_19 : decode cX6_coastIfChanged 19 = .ok (.invokevirtual 173, 3) := by decide +kernel
theorem dX6_coastIfChanged_22 : decode cX6_coastIfChanged 22 = .ok (.istore 4, 2) := by decide +kernel
theorem dX6_coastIfChanged_24 : decode cX6_coastIfChanged 24 = .ok (.aload_n 0, 1) := by decide +kernel
theorem dX6_coastIfChanged_25 : decode cX6_coastIfChanged 25 = .ok (.getfield 7, 3) := by decide +kernel
theorem dX6_coastIfChanged_28 : decode cX6_coastIfChanged 28 = .ok (.iconst 3, 1) := by decide +kernel
theorem dX6_coastIfChanged_29 : decode cX6_coastIfChanged 29 = .ok (.iload_n 3, 1) := by decide +kernel
theorem dX6_coastIfChanged_30 : decode cX6_coastIfChanged 30 = .ok (.iadd, 1) := by decide +kernel
theorem dX6_coastIfChanged_31 : decode cX6_coastIfChanged 31 = .ok (.iconst 1, 1) := by decide +kernel
theorem dX6_coastIfChanged_32 : decode cX6_coastIfChanged 32 = .ok (.aload_n 0, 1) := by decide +kernel
theorem dX6_coastIfChanged_33 : decode cX6_coastIfChanged 33 = .ok (.getfield 7, 3) := by decide +kernel
theorem dX6_coastIfChanged_36 : decode cX6_coastIfChanged 36 = .ok (.iconst 3, 1) := by decide +kernel
theorem dX6_coastIfChanged_37 : decode cX6_coastIfChanged 37 = .ok (.iload_n 3, 1) := by decide +kernel
theorem dX6_coastIfChanged_38 : decode cX6_coastIfChanged 38 = .ok (.iadd, 1) := by decide +kernel
theorem dX6_coastIfChanged_39 : decode cX6_coastIfChanged 39 = .ok (.iaload, 1) := by decide +kernel
theorem dX6_coastIfChanged_40 : decode cX6_coastIfChanged 40 = .ok (.isub, 1) := by decide +kernel
theorem dX6_coastIfChanged_41 : decode cX6_coastIfChanged 41 = .ok (.iastore, 1) := by decide +kernel
theorem dX6_coastIfChanged_42 : decode cX6_coastIfChanged 42 = .ok (.aload_n 0, 1) := by decide +kernel
theorem dX6_coastIfChanged_43 : decode cX6_coastIfChanged 43 = .ok (.invokevirtual 173, 3) := by decide +kernel
theorem dX6_coastIfChanged_46 : decode cX6_coastIfChanged 46 = .ok (.istore 5, 2) := by decide +kernel
theorem dX6_coastIfChanged_48 : decode cX6_coastIfChanged 48 = .ok (.aload_n 0, 1) := by decide +kernel
theorem dX6_coastIfChanged_49 : decode cX6_coastIfChanged 49 = .ok (.getfield 7, 3) := by decide +kernel
theorem dX6_coastIfChanged_52 : decode cX6_coastIfChanged 52 = .ok (.iconst 3, 1) := by decide +kernel
theorem dX6_coastIfChanged_53 : decode cX6_coastIfChanged 53 = .ok (.iload_n 3, 1) := by decide +kernel
theorem dX6_coastIfChanged_54 : decode cX6_coastIfChanged 54 = .ok (.iadd, 1) := by decide +kernel
theorem dX6_coastIfChanged_55 : decode cX6_coastIfChanged 55 = .ok (.iconst 1, 1) := by decide +kernel
theorem dX6_coastIfChanged_56 : decode cX6_coastIfChanged 56 = .ok (.aload_n 0, 1) := by decide +kernel
theorem dX6_coastIfChanged_57 : decode cX6_coastIfChanged 57 = .ok (.getfield 7, 3) := by decide +kernel
theorem dX6_coastIfChanged_60 : decode cX6_coastIfChanged 60 = .ok (.iconst 3, 1) := by decide +kernel
theorem dX6_coastIfChanged_61 : decode cX6_coastIfChanged 61 = .ok (.iload_n 3, 1) := by decide +kernel
theorem dX6_coastIfChanged_62 : decode cX6_coastIfChanged 62 = .ok (.iadd, 1) := by decide +kernel
theorem dX6_coastIfChanged_63 : decode cX6_coastIfChanged 63 = .ok (.iaload, 1) := by decide +kernel
theorem dX6_coastIfChanged_64 : decode cX6_coastIfChanged 64 = .ok (.isub, 1) := by decide +kernel
theorem dX6_coastIfChanged_65 : decode cX6_coastIfChanged 65 = .ok (.iastore, 1) := by decide +kernel
theorem dX6_coastIfChanged_66 : decode cX6_coastIfChanged 66 = .ok (.iload 5, 2) := by decide +kernel
theorem dX6_coastIfChanged_68 : decode cX6_coastIfChanged 68 = .ok (.iload 4, 2) := by decide +kernel
theorem dX6_coastIfChanged_70 : decode cX6_coastIfChanged 70 = .ok (.isub, 1) := by decide +kernel
theorem dX6_coastIfChanged_71 : decode cX6_coastIfChanged 71 = .ok (.bipush 100, 2) := by decide +kernel
theorem dX6_coastIfChanged_73 : decode cX6_coastIfChanged 73 = .ok (.iadd, 1) := by decide +kernel
theorem dX6_coastIfChanged_74 : decode cX6_coastIfChanged 74 = .ok (.ireturn, 1) := by decide +kernel
theorem dX6_needs_0 : decode cX6_needs 0 = .ok (.aload_n 0, 1) := by decide +kernel
theorem dX6_needs_1 : decode cX6_needs 1 = .ok (.iload_n 1, 1) := by decide +kernel
theorem dX6_needs_2 : decode cX6_needs 2 = .ok (.iload_n 2, 1) := by decide +kernel
theorem dX6_needs_3 : decode cX6_needs 3 = .ok (.invokevirtual 90, 3) := by decide +kernel
theorem dX6_needs_6 : decode cX6_needs 6 = .ok (.ifCond .eq 10, 3) := by decide +kernel
theorem dX6_needs_9 : decode cX6_needs 9 = .ok (.iload_n 3, 1) := by decide +kernel
theorem dX6_needs_10 : decode cX6_needs 10 = .ok (.invokestatic 145, 3) := by decide +kernel
theorem dX6_needs_13 : decode cX6_needs 13 = .ok (.ifCond .ne 5, 3) := by decide +kernel
theorem dX6_needs_16 : decode cX6_needs 16 = .ok (.iconst (-1), 1) := by decide +kernel
theorem dX6_needs_17 : decode cX6_needs 17 = .ok (.ireturn, 1) := by decide +kernel
theorem dX6_needs_18 : decode cX6_needs 18 = .ok (.aload_n 0, 1) := by decide +kernel
theorem dX6_needs_19 : decode cX6_needs 19 = .ok (.getfield 23, 3) := by decide +kernel
theorem dX6_needs_22 : decode cX6_needs 22 = .ok (.iload_n 3, 1) := by decide +kernel
theorem dX6_needs_23 : decode cX6_needs 23 = .ok (.iaload, 1) := by decide +kernel
theorem dX6_needs_24 : decode cX6_needs 24 = .ok (.istore 4, 2) := by decide +kernel
theorem dX6_needs_26 : decode cX6_needs 26 = .ok (.iconst 0, 1) := by decide +kernel
theorem dX6_needs_27 : decode cX6_needs 27 = .ok (.istore 5, 2) := by decide +kernel
theorem dX6_needs_29 : decode cX6_needs 29 = .ok (.iconst 0, 1) := by decide +kernel
theorem dX6_needs_30 : decode cX6_needs 30 = .ok (.istore 6, 2) := by decide +kernel
theorem dX6_needs_32 : decode cX6_needs 32 = .ok (.iload 6, 2) := by decide +kernel
theorem dX6_needs_34 : decode cX6_needs 34 = .ok (.bipush 8, 2) := by decide +kernel
theorem dX6_needs_36 : decode cX6_needs 36 = .ok (.if_icmp .ge 105, 3) := by decide +kernel
theorem dX6_needs_39 : decode cX6_needs 39 = .ok (.iload 6, 2) := by decide +kernel
theorem dX6_needs_41 : decode cX6_needs 41 = .ok (.iconst 2, 1) := by decide +kernel
theorem dX6_needs_42 : decode cX6_needs 42 = .ok (.irem, 1) := by decide +kernel
theorem dX6_needs_43 : decode cX6_needs 43 = .ok (.ifCond .eq 26, 3) := by decide +kernel
theorem dX6_needs_46 : decode cX6_needs 46 = .ok (.iload 4, 2) := by decide +kernel
theorem dX6_needs_48 : decode cX6_needs 48 = .ok (.iload 6, 2) := by decide +kernel
theorem dX6_needs_50 : decode cX6_needs 50 = .ok (.iconst 1, 1) := by decide +kernel
theorem dX6_needs_51 : decode cX6_needs 51 = .ok (.isub, 1) := by decide +kernel
theorem dX6_needs_52 : decode cX6_needs 52 = .ok (.invokestatic 80, 3) := by decide +kernel
theorem dX6_needs_55 : decode cX6_needs 55 = .ok (.iload 4, 2) := by decide +kernel
theorem dX6_needs_57 : decode cX6_needs 57 = .ok (.iload 6, 2) := by decide +kernel
theorem dX6_needs_59 : decode cX6_needs 59 = .ok (.iconst 1, 1) := by decide +kernel
theorem dX6_needs_60 : decode cX6_needs 60 = .ok (.iadd, 1) := by decide +kernel
theorem dX6_needs_61 : decode cX6_needs 61 = .ok (.invokestatic 80, 3) := by decide +kernel
theorem dX6_needs_64 : decode cX6_needs 64 = .ok (.iadd, 1) := by decide +kernel
theorem dX6_needs_65 : decode cX6_needs 65 = .ok (.iconst 2, 1) := by decide +kernel
theorem dX6_needs_66 : decode cX6_needs 66 = .ok (.if_icmp .ne 7, 3) := by decide +kernel
theorem dX6_needs_69 : decode cX6_needs 69 = .ok (.iconst 1, 1) := by decide +kernel
theorem dX6_needs_70 : decode cX6_needs 70 = .ok (.goto 4, 3) := by decide +kernel
theorem dX6_needs_73 : decode cX6_needs 73 = .ok (.iconst 0, 1) := by decide +kernel
theorem dX6_needs_74 : decode cX6_needs 74 = .ok (.istore 7, 2) := by decide +kernel
theorem dX6_needs_76 : decode cX6_needs 76 = .ok (.iload 7, 2) := by decide +kernel
theorem dX6_needs_78 : decode cX6_needs 78 = .ok (.ifCond .eq 57, 3) := by decide +kernel
theorem dX6_needs_81 : decode cX6_needs 81 = .ok (.aload_n 0, 1) := by decide +kernel
theorem dX6_needs_82 : decode cX6_needs 82 = .ok (.iload_n 1, 1) := by decide +kernel
theorem dX6_needs_83 : decode cX6_needs 83 = .ok (.iload_n 2, 1) := by decide +kernel
theorem dX6_needs_84 : decode cX6_needs 84 = .ok (.iload 6, 2) := by decide +kernel
theorem dX6_needs_86 : decode cX6_needs 86 = .ok (.invokevirtual 101, 3) := by decide +kernel
theorem dX6_needs_89 : decode cX6_needs 89 = .ok (.iload 4, 2) := by decide +kernel
theorem dX6_needs_91 : decode cX6_needs 91 = .ok (.iload 6, 2) := by decide +kernel
theorem dX6_needs_93 : decode cX6_needs 93 = .ok (.invokestatic 80, 3) := by decide +kernel
theorem dX6_needs_96 : decode cX6_needs 96 = .ok (.iconst 1, 1) := by decide +kernel
theorem dX6_needs_97 : decode cX6_needs 97 = .ok (.if_icmp .ne 7, 3) := by decide +kernel
theorem dX6_needs_100 : decode cX6_needs 100 = .ok (.iconst 1, 1) := by decide +kernel
theorem dX6_needs_101 : decode cX6_needs 101 = .ok (.goto 4, 3) := by decide +kernel
theorem dX6_needs_104 : decode cX6_needs 104 = .ok (.iconst 0, 1) := by decide +kernel
theorem dX6_needs_105 : decode cX6_needs 105 = .ok (.if_icmp .eq 30, 3) := by decide +kernel
theorem dX6_needs_108 : decode cX6_needs 108 = .ok (.aload_n 0, 1) := by decide +kernel
theorem dX6_needs_109 : decode cX6_needs 109 = .ok (.iload_n 1, 1) := by decide +kernel
theorem dX6_needs_110 : decode cX6_needs 110 = .ok (.iload 6, 2) := by decide +kernel
theorem dX6_needs_112 : decode cX6_needs 112 = .ok (.invokestatic 84, 3) := by decide +kernel
theorem dX6_needs_115 : decode cX6_needs 115 = .ok (.iadd, 1) := by decide +kernel
theorem dX6_needs_116 : decode cX6_needs 116 = .ok (.iload_n 2, 1) := by decide +kernel
theorem dX6_needs_117 : decode cX6_needs 117 = .ok (.iload 6, 2) := by decide +kernel
theorem dX6_needs_119 : decode cX6_needs 119 = .ok (.invokestatic 87, 3) := by decide +kernel
theorem dX6_needs_122 : decode cX6_needs 122 = .ok (.iadd, 1) := by decide +kernel
theorem dX6_needs_123 : decode cX6_needs 123 = .ok (.invokevirtual 90, 3) := by decide +kernel
theorem dX6_needs_126 : decode cX6_needs 126 = .ok (.ifCond .ne 6, 3) := by decide +kernel
theorem dX6_needs_129 : decode cX6_needs 129 = .ok (.bipush (-6), 2) := by decide +kernel
theorem dX6_needs_131 : decode cX6_needs 131 = .ok (.ireturn, 1) := by decide +kernel
theorem dX6_needs_132 : decode cX6_needs 132 = .ok (.iinc 5 1, 3) := by decide +kernel
theorem dX6_needs_135 : decode cX6_needs 135 = .ok (.iinc 6 1, 3) := by decide +kernel
theorem dX6_needs_138 : decode cX6_needs 138 = .ok (.goto (-106), 3) := by decide +kernel
theorem dX6_needs_141 : decode cX6_needs 141 = .ok (.iload 5, 2) := by decide +kernel
theorem dX6_needs_143 : decode cX6_needs 143 = .ok (.ireturn, 1) := by decide +kernel
theorem dX6_append_0 : decode cX6_append 0 = .ok (.iload_n 1, 1) := by decide +kernel
theorem dX6_append_1 : decode cX6_append 1 = .ok (.bipush 33, 2) := by decide +kernel
theorem dX6_append_3 : decode cX6_append 3 = .ok (.bipush 126, 2) := by decide +kernel
theorem dX6_append_5 : decode cX6_append 5 = .ok (.invokestatic 61, 3) := by decide +kernel
theorem dX6_append_8 : decode cX6_append 8 = .ok (.ifCond .ne 6, 3) := by decide +kernel
theorem dX6_append_11 : decode cX6_append 11 = .ok (.bipush (-2), 2) := by decide +kernel
theorem dX6_append_13 : decode cX6_append 13 = .ok (.ireturn, 1) := by decide +kernel
theorem dX6_append_14 : decode cX6_append 14 = .ok (.aload_n 0, 1) := by decide +kernel
theorem dX6_append_15 : decode cX6_append 15 = .ok (.getfield 176, 3) := by decide +kernel
theorem dX6_append_18 : decode cX6_append 18 = .ok (.bipush 80, 2) := by decide +kernel
theorem dX6_append_20 : decode cX6_append 20 = .ok (.if_icmp .ne 6, 3) := by decide +kernel
theorem dX6_append_23 : decode cX6_append 23 = .ok (.bipush (-4), 2) := by decide +kernel
theorem dX6_append_25 : decode cX6_append 25 = .ok (.ireturn, 1) := by decide +kernel
theorem dX6_append_26 : decode cX6_append 26 = .ok (.aload_n 0, 1) := by decide +kernel
theorem dX6_append_27 : decode cX6_append 27 = .ok (.getfield 19, 3) := by decide +kernel
theorem dX6_append_30 : decode cX6_append 30 = .ok (.aload_n 0, 1) := by decide +kernel
theorem dX6_append_31 : decode cX6_append 31 = .ok (.getfield 176, 3) := by decide +kernel
theorem dX6_append_34 : decode cX6_append 34 = .ok (.iload_n 1, 1) := by decide +kernel
theorem dX6_append_35 : decode cX6_append 35 = .ok (.i2c, 1) := by decide +kernel
theorem dX6_append_36 : decode cX6_append 36 = .ok (.castore, 1) := by decide +kernel
theorem dX6_append_37 : decode cX6_append 37 = .ok (.aload_n 0, 1) := by decide +kernel
theorem dX6_append_38 : decode cX6_append 38 = .ok (.dup, 1) := by decide +kernel
theorem dX6_append_39 : decode cX6_append 39 = .ok (.getfield 176, 3) := by decide +kernel
theorem dX6_append_42 : decode cX6_append 42 = .ok (.iconst 1, 1) := by decide +kernel
theorem dX6_append_43 : decode cX6_append 43 = .ok (.iadd, 1) := by decide +kernel
theorem dX6_append_44 : decode cX6_append 44 = .ok (.putfield 176, 3) := by decide +kernel
theorem dX6_append_47 : decode cX6_append 47 = .ok (.aload_n 0, 1) := by decide +kernel
theorem dX6_append_48 : decode cX6_append 48 = .ok (.getfield 176, 3) := by decide +kernel
theorem dX6_append_51 : decode cX6_append 51 = .ok (.ireturn, 1) := by decide +kernel
theorem dX6_clearText_0 : decode cX6_clearText 0 = .ok (.aload_n 0, 1) := by decide +kernel
theorem dX6_clearText_1 : decode cX6_clearText 1 = .ok (.getfield 176, 3) := by decide +kernel
theorem dX6_clearText_4 : decode cX6_clearText 4 = .ok (.istore_n 1, 1) := by decide +kernel
theorem dX6_clearText_5 : decode cX6_clearText 5 = .ok (.aload_n 0, 1) := by decide +kernel
theorem dX6_clearText_6 : decode cX6_clearText 6 = .ok (.iconst 0, 1) := by decide +kernel
theorem dX6_clearText_7 : decode cX6_clearText 7 = .ok (.putfield 176, 3) := by decide +kernel
theorem dX6_clearText_10 : decode cX6_clearText 10 = .ok (.iload_n 1, 1) := by decide +kernel
theorem dX6_clearText_11 : decode cX6_clearText 11 = .ok (.ireturn, 1) := by decide +kernel
theorem dX6_room_0 : decode cX6_room 0 = .ok (.aload_n 0, 1) := by decide +kernel
theorem dX6_room_1 : decode cX6_room 1 = .ok (.getfield 179, 3) := by decide +kernel
theorem dX6_room_4 : decode cX6_room 4 = .ok (.ifCond .ne 8, 3) := by decide +kernel
theorem dX6_room_7 : decode cX6_room 7 = .ok (.bipush 12, 2) := by decide +kernel
theorem dX6_room_9 : decode cX6_room 9 = .ok (.goto 7, 3) := by decide +kernel
theorem dX6_room_12 : decode cX6_room 12 = .ok (.aload_n 0, 1) := by decide +kernel
theorem dX6_room_13 : decode cX6_room 13 = .ok (.getfield 182, 3) := by decide +kernel
theorem dX6_room_16 : decode cX6_room 16 = .ok (.aload_n 0, 1) := by decide +kernel
theorem dX6_room_17 : decode cX6_room 17 = .ok (.getfield 185, 3) := by decide +kernel
theorem dX6_room_20 : decode cX6_room 20 = .ok (.isub, 1) := by decide +kernel
theorem dX6_room_21 : decode cX6_room 21 = .ok (.ireturn, 1) := by decide +kernel
theorem dX6_readOne_0 : decode cX6_readOne 0 = .ok (.iload_n 1, 1) := by decide +kernel
theorem dX6_readOne_1 : decode cX6_readOne 1 = .ok (.bipush 48, 2) := by decide +kernel
theorem dX6_readOne_3 : decode cX6_readOne 3 = .ok (.bipush 57, 2) := by decide +kernel
theorem dX6_readOne_5 : decode cX6_readOne 5 = .ok (.invokestatic 61, 3) := by decide +kernel
theorem dX6_readOne_8 : decode cX6_readOne 8 = .ok (.ifCond .eq 99, 3) := by decide +kernel
theorem dX6_readOne_11 : decode cX6_readOne 11 = .ok (.bipush 10, 2) := by decide +kernel
theorem dX6_readOne_13 : decode cX6_readOne 13 = .ok (.aload_n 0, 1) := by decide +kernel
theorem dX6_readOne_14 : decode cX6_readOne 14 = .ok (.getfield 188, 3) := by decide +kernel
theorem dX6_readOne_17 : decode cX6_readOne 17 = .ok (.imul, 1) := by decide +kernel
theorem dX6_readOne_18 : decode cX6_readOne 18 = .ok (.iload_n 1, 1) := by decide +kernel
theorem dX6_readOne_19 : decode cX6_readOne 19 = .ok (.iadd, 1) := by decide +kernel
theorem dX6_readOne_20 : decode cX6_readOne 20 = .ok (.bipush 48, 2) := by decide +kernel
theorem dX6_readOne_22 : decode cX6_readOne 22 = .ok (.isub, 1) := by decide +kernel
theorem dX6_readOne_23 : decode cX6_readOne 23 = .ok (.istore_n 2, 1) := by decide +kernel
theorem dX6_readOne_24 : decode cX6_readOne 24 = .ok (.aload_n 0, 1) := by decide +kernel
theorem dX6_readOne_25 : decode cX6_readOne 25 = .ok (.getfield 188, 3) := by decide +kernel
theorem dX6_readOne_28 : decode cX6_readOne 28 = .ok (.ifCond .ne 33, 3) := by decide +kernel
theorem dX6_readOne_31 : decode cX6_readOne 31 = .ok (.iload_n 2, 1) := by decide +kernel
theorem dX6_readOne_32 : decode cX6_readOne 32 = .ok (.ifCond .le 25, 3) := by decide +kernel
theorem dX6_readOne_35 : decode cX6_readOne 35 = .ok (.iload_n 2, 1) := by decide +kernel
theorem dX6_readOne_36 : decode cX6_readOne 36 = .ok (.iconst 1, 1) := by decide +kernel
theorem dX6_readOne_37 : decode cX6_readOne 37 = .ok (.if_icmp .ne 8, 3) := by decide +kernel
theorem dX6_readOne_40 : decode cX6_readOne 40 = .ok (.bipush 10, 2) := by decide +kernel
theorem dX6_readOne_42 : decode cX6_readOne 42 = .ok (.goto 4, 3) := by decide +kernel
theorem dX6_readOne_45 : decode cX6_readOne 45 = .ok (.iload_n 2, 1) := by decide +kernel
theorem dX6_readOne_46 : decode cX6_readOne 46 = .ok (.aload_n 0, 1) := by decide +kernel
theorem dX6_readOne_47 : decode cX6_readOne 47 = .ok (.invokevirtual 191, 3) := by decide +kernel
theorem dX6_readOne_50 : decode cX6_readOne 50 = .ok (.if_icmp .gt 7, 3) := by decide +kernel
theorem dX6_readOne_53 : decode cX6_readOne 53 = .ok (.iconst 1, 1) := by decide +kernel
theorem dX6_readOne_54 : decode cX6_readOne 54 = .ok (.goto 34, 3) := by decide +kernel
theorem dX6_readOne_57 : decode cX6_readOne 57 = .ok (.iconst 0, 1) := by decide +kernel
theorem dX6_readOne_58 : decode cX6_readOne 58 = .ok (.goto 30, 3) := by decide +kernel
theorem dX6_readOne_61 : decode cX6_readOne 61 = .ok (.aload_n 0, 1) := by decide +kernel
theorem dX6_readOne_62 : decode cX6_readOne 62 = .ok (.getfield 188, 3) := by decide +kernel
theorem dX6_readOne_65 : decode cX6_readOne 65 = .ok (.iconst 1, 1) := by decide +kernel
theorem dX6_readOne_66 : decode cX6_readOne 66 = .ok (.if_icmp .ne 21, 3) := by decide +kernel
theorem dX6_readOne_69 : decode cX6_readOne 69 = .ok (.iload_n 2, 1) := by decide +kernel
theorem dX6_readOne_70 : decode cX6_readOne 70 = .ok (.bipush 12, 2) := by decide +kernel
theorem dX6_readOne_72 : decode cX6_readOne 72 = .ok (.if_icmp .gt 15, 3) := by decide +kernel
theorem dX6_readOne_75 : decode cX6_readOne 75 = .ok (.iload_n 2, 1) := by decide +kernel
theorem dX6_readOne_76 : decode cX6_readOne 76 = .ok (.aload_n 0, 1) := by decide +kernel
theorem dX6_readOne_77 : decode cX6_readOne 77 = .ok (.invokevirtual 191, 3) := by decide +kernel
theorem dX6_readOne_80 : decode cX6_readOne 80 = .ok (.if_icmp .gt 7, 3) := by decide +kernel
theorem dX6_readOne_83 : decode cX6_readOne 83 = .ok (.iconst 1, 1) := by decide +kernel
theorem dX6_readOne_84 : decode cX6_readOne 84 = .ok (.goto 4, 3) := by decide +kernel
theorem dX6_readOne_87 : decode cX6_readOne 87 = .ok (.iconst 0, 1) := by decide +kernel
theorem dX6_readOne_88 : decode cX6_readOne 88 = .ok (.istore_n 3, 1) := by decide +kernel
theorem dX6_readOne_89 : decode cX6_readOne 89 = .ok (.aload_n 0, 1) := by decide +kernel
theorem dX6_readOne_90 : decode cX6_readOne 90 = .ok (.iload_n 3, 1) := by decide +kernel
theorem dX6_readOne_91 : decode cX6_readOne 91 = .ok (.ifCond .eq 7, 3) := by decide +kernel
theorem dX6_readOne_94 : decode cX6_readOne 94 = .ok (.iload_n 2, 1) := by decide +kernel
theorem dX6_readOne_95 : decode cX6_readOne 95 = .ok (.goto 7, 3) := by decide +kernel
theorem dX6_readOne_98 : decode cX6_readOne 98 = .ok (.aload_n 0, 1) := by decide +kernel
theorem dX6_readOne_99 : decode cX6_readOne 99 = .ok (.getfield 188, 3) := by decide +kernel
theorem dX6_readOne_102 : decode cX6_readOne 102 = .ok (.putfield 188, 3) := by decide +kernel
theorem dX6_readOne_105 : decode cX6_readOne 105 = .ok (.iload_n 3, 1) := by decide +kernel
theorem dX6_readOne_106 : decode cX6_readOne 106 = .ok (.ireturn, 1) := by decide +kernel
theorem dX6_readOne_107 : decode cX6_readOne 107 = .ok (.iload_n 1, 1) := by decide +kernel
theorem dX6_readOne_108 : decode cX6_readOne 108 = .ok (.bipush 46, 2) := by decide +kernel
theorem dX6_readOne_110 : decode cX6_readOne 110 = .ok (.if_icmp .eq 9, 3) := by decide +kernel
theorem dX6_readOne_113 : decode cX6_readOne 113 = .ok (.iload_n 1, 1) := by decide +kernel
theorem dX6_readOne_114 : decode cX6_readOne 114 = .ok (.bipush 35, 2) := by decide +kernel
theorem dX6_readOne_116 : decode cX6_readOne 116 = .ok (.if_icmp .ne 95, 3) := by decide +kernel
theorem dX6_readOne_119 : decode cX6_readOne 119 = .ok (.aload_n 0, 1) := by decide +kernel
theorem dX6_readOne_120 : decode cX6_readOne 120 = .ok (.getfield 188, 3) := by decide +kernel
theorem dX6_readOne_123 : decode cX6_readOne 123 = .ok (.ifCond .ne 7, 3) := by decide +kernel
theorem dX6_readOne_126 : decode cX6_readOne 126 = .ok (.iconst 1, 1) := by decide +kernel
theorem dX6_readOne_127 : decode cX6_readOne 127 = .ok (.goto 7, 3) := by decide +kernel
theorem dX6_readOne_130 : decode cX6_readOne 130 = .ok (.aload_n 0, 1) := by decide +kernel
theorem dX6_readOne_131 : decode cX6_readOne 131 = .ok (.getfield 188, 3) := by decide +kernel
theorem dX6_readOne_134 : decode cX6_readOne 134 = .ok (.istore_n 2, 1) := by decide +kernel
theorem dX6_readOne_135 : decode cX6_readOne 135 = .ok (.aload_n 0, 1) := by decide +kernel
theorem dX6_readOne_136 : decode cX6_readOne 136 = .ok (.getfield 188, 3) := by decide +kernel
theorem dX6_readOne_139 : decode cX6_readOne 139 = .ok (.iconst 1, 1) := by decide +kernel
theorem dX6_readOne_140 : decode cX6_readOne 140 = .ok (.if_icmp .eq 11, 3) := by decide +kernel
theorem dX6_readOne_143 : decode cX6_readOne 143 = .ok (.iload_n 2, 1) := by decide +kernel
theorem dX6_readOne_144 : decode cX6_readOne 144 = .ok (.aload_n 0, 1) := by decide +kernel
theorem dX6_readOne_145 : decode cX6_readOne 145 = .ok (.invokevirtual 191, 3) := by decide +kernel
theorem dX6_readOne_148 : decode cX6_readOne 148 = .ok (.if_icmp .le 5, 3) := by decide +kernel
theorem dX6_readOne_151 : decode cX6_readOne 151 = .ok (.iconst 0, 1) := by decide +kernel
theorem dX6_readOne_152 : decode cX6_readOne 152 = .ok (.ireturn, 1) := by decide +kernel
theorem dX6_readOne_153 : decode cX6_readOne 153 = .ok (.iconst 0, 1) := by decide +kernel
theorem dX6_readOne_154 : decode cX6_readOne 154 = .ok (.istore_n 3, 1) := by decide +kernel
theorem dX6_readOne_155 : decode cX6_readOne 155 = .ok (.iload_n 3, 1) := by decide +kernel
theorem dX6_readOne_156 : decode cX6_readOne 156 = .ok (.iload_n 2, 1) := by decide +kernel
theorem dX6_readOne_157 : decode cX6_readOne 157 = .ok (.if_icmp .ge 47, 3) := by decide +kernel
theorem dX6_readOne_160 : decode cX6_readOne 160 = .ok (.aload_n 0, 1) := by decide +kernel
theorem dX6_readOne_161 : decode cX6_readOne 161 = .ok (.getfield 51, 3) := by decide +kernel
theorem dX6_readOne_164 : decode cX6_readOne 164 = .ok (.bipush 12, 2) := by decide +kernel
theorem dX6_readOne_166 : decode cX6_readOne 166 = .ok (.aload_n 0, 1) := by decide +kernel
theorem dX6_readOne_167 : decode cX6_readOne 167 = .ok (.getfield 179, 3) := by decide +kernel
theorem dX6_readOne_170 : decode cX6_readOne 170 = .ok (.imul, 1) := by decide +kernel
theorem dX6_readOne_171 : decode cX6_readOne 171 = .ok (.aload_n 0, 1) := by decide +kernel
theorem dX6_readOne_172 : decode cX6_readOne 172 = .ok (.getfield 185, 3) := by decide +kernel
theorem dX6_readOne_175 : decode cX6_readOne 175 = .ok (.iadd, 1) := by decide +kernel
theorem dX6_readOne_176 : decode cX6_readOne 176 = .ok (.iload_n 1, 1) := by decide +kernel
theorem dX6_readOne_177 : decode cX6_readOne 177 = .ok (.bipush 35, 2) := by decide +kernel
theorem dX6_readOne_179 : decode cX6_readOne 179 = .ok (.if_icmp .ne 7, 3) := by decide +kernel
theorem dX6_readOne_182 : decode cX6_readOne 182 = .ok (.iconst 1, 1) := by decide +kernel
theorem dX6_readOne_183 : decode cX6_readOne 183 = .ok (.goto 4, 3) := by decide +kernel
theorem dX6_readOne_186 : decode cX6_readOne 186 = .ok (.iconst 0, 1) := by decide +kernel
theorem dX6_readOne_187 : decode cX6_readOne 187 = .ok (.iastore, 1) := by decide +kernel
theorem dX6_readOne_188 : decode cX6_readOne 188 = .ok (.aload_n 0, 1) := by decide +kernel
theorem dX6_readOne_189 : decode cX6_readOne 189 = .ok (.dup, 1) := by decide +kernel
theorem dX6_readOne_190 : decode cX6_readOne 190 = .ok (.getfield 185, 3) := by decide +kernel
theorem dX6_readOne_193 : decode cX6_readOne 193 = .ok (.iconst 1, 1) := by decide +kernel
theorem dX6_readOne_194 : decode cX6_readOne 194 = .ok (.iadd, 1) := by decide +kernel
theorem dX6_readOne_195 : decode cX6_readOne 195 = .ok (.putfield 185, 3) := by decide +kernel
theorem dX6_readOne_198 : decode cX6_readOne 198 = .ok (.iinc 3 1, 3) := by decide +kernel
theorem dX6_readOne_201 : decode cX6_readOne 201 = .ok (.goto (-46), 3) := by decide +kernel
theorem dX6_readOne_204 : decode cX6_readOne 204 = .ok (.aload_n 0, 1) := by decide +kernel
theorem dX6_readOne_205 : decode cX6_readOne 205 = .ok (.iconst 0, 1) := by decide +kernel
theorem dX6_readOne_206 : decode cX6_readOne 206 = .ok (.putfield 188, 3) := by decide +kernel
theorem dX6_readOne_209 : decode cX6_readOne 209 = .ok (.iconst 1, 1) := by decide +kernel
theorem dX6_readOne_210 : decode cX6_readOne 210 = .ok (.ireturn, 1) := by decide +kernel
theorem dX6_readOne_211 : decode cX6_readOne 211 = .ok (.iload_n 1, 1) := by decide +kernel
theorem dX6_readOne_212 : decode cX6_readOne 212 = .ok (.bipush 47, 2) := by decide +kernel
theorem dX6_readOne_214 : decode cX6_readOne 214 = .ok (.if_icmp .ne 23, 3) := by decide +kernel
theorem dX6_readOne_217 : decode cX6_readOne 217 = .ok (.aload_n 0, 1) := by decide +kernel
theorem dX6_readOne_218 : decode cX6_readOne 218 = .ok (.invokevirtual 194, 3) := by decide +kernel
theorem dX6_readOne_221 : decode cX6_readOne 221 = .ok (.ifCond .eq 16, 3) := by decide +kernel
theorem dX6_readOne_224 : decode cX6_readOne 224 = .ok (.aload_n 0, 1) := by decide +kernel
theorem dX6_readOne_225 : decode cX6_readOne 225 = .ok (.getfield 179, 3) := by decide +kernel
theorem dX6_readOne_228 : decode cX6_readOne 228 = .ok (.bipush 11, 2) := by decide +kernel
theorem dX6_readOne_230 : decode cX6_readOne 230 = .ok (.if_icmp .ge 7, 3) := by decide +kernel
theorem dX6_readOne_233 : decode cX6_readOne 233 = .ok (.iconst 1, 1) := by decide +kernel
theorem dX6_readOne_234 : decode cX6_readOne 234 = .ok (.goto 4, 3) := by decide +kernel
theorem dX6_readOne_237 : decode cX6_readOne 237 = .ok (.iconst 0, 1) := by decide +kernel
theorem dX6_readOne_238 : decode cX6_readOne 238 = .ok (.istore_n 2, 1) := by decide +kernel
theorem dX6_readOne_239 : decode cX6_readOne 239 = .ok (.iload_n 2, 1) := by decide +kernel
theorem dX6_readOne_240 : decode cX6_readOne 240 = .ok (.ifCond .eq 7, 3) := by decide +kernel
theorem dX6_readOne_243 : decode cX6_readOne 243 = .ok (.aload_n 0, 1) := by decide +kernel
theorem dX6_readOne_244 : decode cX6_readOne 244 = .ok (.invokevirtual 197, 3) := by decide +kernel
theorem dX6_readOne_247 : decode cX6_readOne 247 = .ok (.iload_n 2, 1) := by decide +kernel
theorem dX6_readOne_248 : decode cX6_readOne 248 = .ok (.ireturn, 1) := by decide +kernel
theorem dX6_isRowWhole_0 : decode cX6_isRowWhole 0 = .ok (.aload_n 0, 1) := by decide +kernel
theorem dX6_isRowWhole_1 : decode cX6_isRowWhole 1 = .ok (.getfield 188, 3) := by decide +kernel
theorem dX6_isRowWhole_4 : decode cX6_isRowWhole 4 = .ok (.ifCond .ne 32, 3) := by decide +kernel
theorem dX6_isRowWhole_7 : decode cX6_isRowWhole 7 = .ok (.aload_n 0, 1) := by decide +kernel
theorem dX6_isRowWhole_8 : decode cX6_isRowWhole 8 = .ok (.getfield 185, 3) := by decide +kernel
theorem dX6_isRowWhole_11 : decode cX6_isRowWhole 11 = .ok (.ifCond .le 25, 3) := by decide +kernel
theorem dX6_isRowWhole_14 : decode cX6_isRowWhole 14 = .ok (.aload_n 0, 1) := by decide +kernel
theorem dX6_isRowWhole_15 : decode cX6_isRowWhole 15 = .ok (.getfield 179, 3) := by decide +kernel
theorem dX6_isRowWhole_18 : decode cX6_isRowWhole 18 = .ok (.ifCond .eq 14, 3) := by decide +kernel
theorem dX6_isRowWhole_21 : decode cX6_isRowWhole 21 = .ok (.aload_n 0, 1) := by decide +kernel
theorem dX6_isRowWhole_22 : decode cX6_isRowWhole 22 = .ok (.getfield 185, 3) := by decide +kernel
theorem dX6_isRowWhole_25 : decode cX6_isRowWhole 25 = .ok (.aload_n 0, 1) := by decide +kernel
theorem dX6_isRowWhole_26 : decode cX6_isRowWhole 26 = .ok (.getfield 182, 3) := by decide +kernel
theorem dX6_isRowWhole_29 : decode cX6_isRowWhole 29 = .ok (.if_icmp .ne 7, 3) := by decide +kernel
theorem dX6_isRowWhole_32 : decode cX6_isRowWhole 32 = .ok (.iconst 1, 1) := by decide +kernel
theorem dX6_isRowWhole_33 : decode cX6_isRowWhole 33 = .ok (.goto 4, 3) := by decide +kernel
theorem dX6_isRowWhole_36 : decode cX6_isRowWhole 36 = .ok (.iconst 0, 1) := by decide +kernel
theorem dX6_isRowWhole_37 : decode cX6_isRowWhole 37 = .ok (.ireturn, 1) := by decide +kernel
theorem dX6_endRow_0 : decode cX6_endRow 0 = .ok (.aload_n 0, 1) := by decide +kernel
theorem dX6_endRow_1 : decode cX6_endRow 1 = .ok (.aload_n 0, 1) := by decide +kernel
theorem dX6_endRow_2 : decode cX6_endRow 2 = .ok (.getfield 185, 3) := by decide +kernel
theorem dX6_endRow_5 : decode cX6_endRow 5 = .ok (.putfield 182, 3) := by decide +kernel
theorem dX6_endRow_8 : decode cX6_endRow 8 = .ok (.aload_n 0, 1) := by decide +kernel
theorem dX6_endRow_9 : decode cX6_endRow 9 = .ok (.dup, 1) := by decide +kernel
theorem dX6_endRow_10 : decode cX6_endRow 10 = .ok (.getfield 179, 3) := by decide +kernel
theorem dX6_endRow_13 : decode cX6_endRow 13 = .ok (.iconst 1, 1) := by decide +kernel
theorem dX6_endRow_14 : decode cX6_endRow 14 = .ok (.iadd, 1) := by decide +kernel
theorem dX6_endRow_15 : decode cX6_endRow 15 = .ok (.putfield 179, 3) := by decide +kernel
theorem dX6_endRow_18 : decode cX6_endRow 18 = .ok (.aload_n 0, 1) := by decide +kernel
theorem dX6_endRow_19 : decode cX6_endRow 19 = .ok (.iconst 0, 1) := by decide +kernel
theorem dX6_endRow_20 : decode cX6_endRow 20 = .ok (.putfield 185, 3) := by decide +kernel
theorem dX6_endRow_23 : decode cX6_endRow 23 = .ok (.return_, 1) := by decide +kernel
theorem dX6_errorPosition_0 : decode cX6_errorPosition 0 = .ok (.aload_n 0, 1) := by decide +kernel
theorem dX6_errorPosition_1 : decode cX6_errorPosition 1 = .ok (.iconst 0, 1) := by decide +kernel
theorem dX6_errorPosition_2 : decode cX6_errorPosition 2 = .ok (.putfield 179, 3) := by decide +kernel
theorem dX6_errorPosition_5 : decode cX6_errorPosition 5 = .ok (.aload_n 0, 1) := by decide +kernel
theorem dX6_errorPosition_6 : decode cX6_errorPosition 6 = .ok (.iconst 0, 1) := by decide +kernel
theorem dX6_errorPosition_7 : decode cX6_errorPosition 7 = .ok (.putfield 182, 3) := by decide +kernel
theorem dX6_errorPosition_10 : decode cX6_errorPosition 10 = .ok (.aload_n 0, 1) := by decide +kernel
theorem dX6_errorPosition_11 : decode cX6_errorPosition 11 = .ok (.iconst 0, 1) := by decide +kernel
theorem dX6_errorPosition_12 : decode cX6_errorPosition 12 = .ok (.putfield 185, 3) := by decide +kernel
theorem dX6_errorPosition_15 : decode cX6_errorPosition 15 = .ok (.aload_n 0, 1) := by decide +kernel
theorem dX6_errorPosition_16 : decode cX6_errorPosition 16 = .ok (.iconst 0, 1) := by decide +kernel
theorem dX6_errorPosition_17 : decode cX6_errorPosition 17 = .ok (.putfield 188, 3) := by decide +kernel
theorem dX6_errorPosition_20 : decode cX6_errorPosition 20 = .ok (.iconst 0, 1) := by decide +kernel
theorem dX6_errorPosition_21 : decode cX6_errorPosition 21 = .ok (.istore_n 1, 1) := by decide +kernel
theorem dX6_errorPosition_22 : decode cX6_errorPosition 22 = .ok (.iload_n 1, 1) := by decide +kernel
theorem dX6_errorPosition_23 : decode cX6_errorPosition 23 = .ok (.aload_n 0, 1) := by decide +kernel
theorem dX6_errorPosition_24 : decode cX6_errorPosition 24 = .ok (.getfield 176, 3) := by decide +kernel
theorem dX6_errorPosition_27 : decode cX6_errorPosition 27 = .ok (.if_icmp .ge 24, 3) := by decide +kernel
theorem dX6_errorPosition_30 : decode cX6_errorPosition 30 = .ok (.aload_n 0, 1) := by decide +kernel
theorem dX6_errorPosition_31 : decode cX6_errorPosition 31 = .ok (.aload_n 0, 1) := by decide +kernel
theorem dX6_errorPosition_32 : decode cX6_errorPosition 32 = .ok (.getfield 19, 3) := by decide +kernel
theorem dX6_errorPosition_35 : decode cX6_errorPosition 35 = .ok (.iload_n 1, 1) := by decide +kernel
theorem dX6_errorPosition_36 : decode cX6_errorPosition 36 = .ok (.caload, 1) := by decide +kernel
theorem dX6_errorPosition_37 : decode cX6_errorPosition 37 = .ok (.invokevirtual 200, 3) := by decide +kernel
theorem dX6_errorPosition_40 : decode cX6_errorPosition 40 = .ok (.ifCond .ne 5, 3) := by decide +kernel
theorem dX6_errorPosition_43 : decode cX6_errorPosition 43 = .ok (.iload_n 1, 1) := by decide +kernel
theorem dX6_errorPosition_44 : decode cX6_errorPosition 44 = .ok (.ireturn, 1) := by decide +kernel
theorem dX6_errorPosition_45 : decode cX6_errorPosition 45 = .ok (.iinc 1 1, 3) := by decide +kernel
theorem dX6_errorPosition_48 : decode cX6_errorPosition 48 = .ok (.goto (-26), 3) := by decide +kernel
theorem dX6_errorPosition_51 : decode cX6_errorPosition 51 = .ok (.aload_n 0, 1) := by decide +kernel
theorem dX6_errorPosition_52 : decode cX6_errorPosition 52 = .ok (.invokevirtual 194, 3) := by decide +kernel
theorem dX6_errorPosition_55 : decode cX6_errorPosition 55 = .ok (.ifCond .eq 8, 3) := by decide +kernel
theorem dX6_errorPosition_58 : decode cX6_errorPosition 58 = .ok (.bipush (-6), 2) := by decide +kernel
theorem dX6_errorPosition_60 : decode cX6_errorPosition 60 = .ok (.goto 7, 3) := by decide +kernel
theorem dX6_errorPosition_63 : decode cX6_errorPosition 63 = .ok (.aload_n 0, 1) := by decide +kernel
theorem dX6_errorPosition_64 : decode cX6_errorPosition 64 = .ok (.getfield 176, 3) := by decide +kernel
theorem dX6_errorPosition_67 : decode cX6_errorPosition 67 = .ok (.ireturn, 1) := by decide +kernel
theorem dX6_read_0 : decode cX6_read 0 = .ok (.aload_n 0, 1) := by decide +kernel
theorem dX6_read_1 : decode cX6_read 1 = .ok (.invokevirtual 203, 3) := by decide +kernel
theorem dX6_read_4 : decode cX6_read 4 = .ok (.bipush (-6), 2) := by decide +kernel
theorem dX6_read_6 : decode cX6_read 6 = .ok (.if_icmp .eq 6, 3) := by decide +kernel
theorem dX6_read_9 : decode cX6_read 9 = .ok (.bipush (-5), 2) := by decide +kernel
theorem dX6_read_11 : decode cX6_read 11 = .ok (.ireturn, 1) := by decide +kernel
theorem dX6_read_12 : decode cX6_read 12 = .ok (.aload_n 0, 1) := by decide +kernel
theorem dX6_read_13 : decode cX6_read 13 = .ok (.invokevirtual 197, 3) := by decide +kernel
theorem dX6_read_16 : decode cX6_read 16 = .ok (.aload_n 0, 1) := by decide +kernel
theorem dX6_read_17 : decode cX6_read 17 = .ok (.invokevirtual 77, 3) := by decide +kernel
theorem dX6_read_20 : decode cX6_read 20 = .ok (.aload_n 0, 1) := by decide +kernel
theorem dX6_read_21 : decode cX6_read 21 = .ok (.getfield 7, 3) := by decide +kernel
theorem dX6_read_24 : decode cX6_read 24 = .ok (.iconst 0, 1) := by decide +kernel
theorem dX6_read_25 : decode cX6_read 25 = .ok (.aload_n 0, 1) := by decide +kernel
theorem dX6_read_26 : decode cX6_read 26 = .ok (.getfield 179, 3) := by decide +kernel
theorem dX6_read_29 : decode cX6_read 29 = .ok (.iastore, 1) := by decide +kernel
theorem dX6_read_30 : decode cX6_read 30 = .ok (.aload_n 0, 1) := by decide +kernel
theorem dX6_read_31 : decode cX6_read 31 = .ok (.getfield 7, 3) := by decide +kernel
theorem dX6_read_34 : decode cX6_read 34 = .ok (.iconst 1, 1) := by decide +kernel
theorem dX6_read_35 : decode cX6_read 35 = .ok (.aload_n 0, 1) := by decide +kernel
theorem dX6_read_36 : decode cX6_read 36 = .ok (.getfield 182, 3) := by decide +kernel
theorem dX6_read_39 : decode cX6_read 39 = .ok (.iastore, 1) := by decide +kernel
theorem dX6_read_40 : decode cX6_read 40 = .ok (.aload_n 0, 1) := by decide +kernel
theorem dX6_read_41 : decode cX6_read 41 = .ok (.invokevirtual 58, 3) := by decide +kernel
theorem dX6_read_44 : decode cX6_read 44 = .ok (.iconst 0, 1) := by decide +kernel
theorem dX6_read_45 : decode cX6_read 45 = .ok (.istore_n 1, 1) := by decide +kernel
theorem dX6_read_46 : decode cX6_read 46 = .ok (.iload_n 1, 1) := by decide +kernel
theorem dX6_read_47 : decode cX6_read 47 = .ok (.aload_n 0, 1) := by decide +kernel
theorem dX6_read_48 : decode cX6_read 48 = .ok (.invokevirtual 116, 3) := by decide +kernel
theorem dX6_read_51 : decode cX6_read 51 = .ok (.if_icmp .ge 38, 3) := by decide +kernel
theorem dX6_read_54 : decode cX6_read 54 = .ok (.aload_n 0, 1) := by decide +kernel
theorem dX6_read_55 : decode cX6_read 55 = .ok (.getfield 7, 3) := by decide +kernel
theorem dX6_read_58 : decode cX6_read 58 = .ok (.iconst 3, 1) := by decide +kernel
theorem dX6_read_59 : decode cX6_read 59 = .ok (.iload_n 1, 1) := by decide +kernel
theorem dX6_read_60 : decode cX6_read 60 = .ok (.iadd, 1) := by decide +kernel
theorem dX6_read_61 : decode cX6_read 61 = .ok (.aload_n 0, 1) := by decide +kernel
theorem dX6_read_62 : decode cX6_read 62 = .ok (.getfield 51, 3) := by decide +kernel
theorem dX6_read_65 : decode cX6_read 65 = .ok (.bipush 12, 2) := by decide +kernel
theorem dX6_read_67 : decode cX6_read 67 = .ok (.iload_n 1, 1) := by decide +kernel
theorem dX6_read_68 : decode cX6_read 68 = .ok (.aload_n 0, 1) := by decide +kernel
theorem dX6_read_69 : decode cX6_read 69 = .ok (.getfield 182, 3) := by decide +kernel
theorem dX6_read_72 : decode cX6_read 72 = .ok (.idiv, 1) := by decide +kernel
theorem dX6_read_73 : decode cX6_read 73 = .ok (.imul, 1) := by decide +kernel
theorem dX6_read_74 : decode cX6_read 74 = .ok (.iload_n 1, 1) := by decide +kernel
theorem dX6_read_75 : decode cX6_read 75 = .ok (.aload_n 0, 1) := by decide +kernel
theorem dX6_read_76 : decode cX6_read 76 = .ok (.getfield 182, 3) := by decide +kernel
theorem dX6_read_79 : decode cX6_read 79 = .ok (.irem, 1) := by decide +kernel
theorem dX6_read_80 : decode cX6_read 80 = .ok (.iadd, 1) := by decide +kernel
theorem dX6_read_81 : decode cX6_read 81 = .ok (.iaload, 1) := by decide +kernel
theorem dX6_read_82 : decode cX6_read 82 = .ok (.iastore, 1) := by decide +kernel
theorem dX6_read_83 : decode cX6_read 83 = .ok (.iinc 1 1, 3) := by decide +kernel
theorem dX6_read_86 : decode cX6_read 86 = .ok (.goto (-40), 3) := by decide +kernel
theorem dX6_read_89 : decode cX6_read 89 = .ok (.aload_n 0, 1) := by decide +kernel
theorem dX6_read_90 : decode cX6_read 90 = .ok (.iconst 0, 1) := by decide +kernel
theorem dX6_read_91 : decode cX6_read 91 = .ok (.putfield 176, 3) := by decide +kernel
theorem dX6_read_94 : decode cX6_read 94 = .ok (.aload_n 0, 1) := by decide +kernel
theorem dX6_read_95 : decode cX6_read 95 = .ok (.invokevirtual 73, 3) := by decide +kernel
theorem dX6_read_98 : decode cX6_read 98 = .ok (.ireturn, 1) := by decide +kernel
end
section
theorem dL_law_0 : decode cL_law 0 = .ok (.new 7, 3) := by decide +kernel
theorem dL_law_3 : decode cL_law 3 = .ok (.dup, 1) := by decide +kernel
theorem dL_law_4 : decode cL_law 4 = .ok (.invokespecial 9, 3) := by decide +kernel
theorem dL_law_7 : decode cL_law 7 = .ok (.astore_n 1, 1) := by decide +kernel
theorem dL_law_8 : decode cL_law 8 = .ok (.new 10, 3) := by decide +kernel
theorem dL_law_11 : decode cL_law 11 = .ok (.dup, 1) := by decide +kernel
theorem dL_law_12 : decode cL_law 12 = .ok (.invokespecial 12, 3) := by decide +kernel
theorem dL_law_15 : decode cL_law 15 = .ok (.astore_n 2, 1) := by decide +kernel
theorem dL_law_16 : decode cL_law 16 = .ok (.iconst 0, 1) := by decide +kernel
theorem dL_law_17 : decode cL_law 17 = .ok (.istore_n 3, 1) := by decide +kernel
theorem dL_law_18 : decode cL_law 18 = .ok (.iload_n 3, 1) := by decide +kernel
theorem dL_law_19 : decode cL_law 19 = .ok (.aload_n 0, 1) := by decide +kernel
theorem dL_law_20 : decode cL_law 20 = .ok (.arraylength, 1) := by decide +kernel
theorem dL_law_21 : decode cL_law 21 = .ok (.iconst 5, 1) := by decide +kernel
theorem dL_law_22 : decode cL_law 22 = .ok (.isub, 1) := by decide +kernel
theorem dL_law_23 : decode cL_law 23 = .ok (.if_icmp .gt 1160, 3) := by decide +kernel
theorem dL_law_26 : decode cL_law 26 = .ok (.aload_n 0, 1) := by decide +kernel
theorem dL_law_27 : decode cL_law 27 = .ok (.iload_n 3, 1) := by decide +kernel
theorem dL_law_28 : decode cL_law 28 = .ok (.iaload, 1) := by decide +kernel
theorem dL_law_29 : decode cL_law 29 = .ok (.bipush 63, 2) := by decide +kernel
theorem dL_law_31 : decode cL_law 31 = .ok (.iand, 1) := by decide +kernel
theorem dL_law_32 : decode cL_law 32 = .ok (.tableswitch 1145 0 36 #[164, 197, 236, 295, 354, 423, 446, 469, 482, 495, 538, 581, 614, 627, 640, 663, 686, 719, 742, 765, 778, 791, 804, 817, 830, 843, 902, 915, 968, 1001, 1044, 1067, 1080, 1093, 1106, 1119, 1132], 164) := by decide +kernel
theorem dL_law_196 : decode cL_law 196 = .ok (.aload_n 1, 1) := by decide +kernel
theorem dL_law_197 : decode cL_law 197 = .ok (.aload_n 0, 1) := by decide +kernel
theorem dL_law_198 : decode cL_law 198 = .ok (.iload_n 3, 1) := by decide +kernel
theorem dL_law_199 : decode cL_law 199 = .ok (.iconst 1, 1) := by decide +kernel
theorem dL_law_200 : decode cL_law 200 = .ok (.iadd, 1) := by decide +kernel
theorem dL_law_201 : decode cL_law 201 = .ok (.iaload, 1) := by decide +kernel
theorem dL_law_202 : decode cL_law 202 = .ok (.aload_n 0, 1) := by decide +kernel
theorem dL_law_203 : decode cL_law 203 = .ok (.iload_n 3, 1) := by decide +kernel
theorem dL_law_204 : decode cL_law 204 = .ok (.iconst 2, 1) := by decide +kernel
theorem dL_law_205 : decode cL_law 205 = .ok (.iadd, 1) := by decide +kernel
theorem dL_law_206 : decode cL_law 206 = .ok (.iaload, 1) := by decide +kernel
theorem dL_law_207 : decode cL_law 207 = .ok (.invokevirtual 13, 3) := by decide +kernel
theorem dL_law_210 : decode cL_law 210 = .ok (.aload_n 2, 1) := by decide +kernel
theorem dL_law_211 : decode cL_law 211 = .ok (.aload_n 0, 1) := by decide +kernel
theorem dL_law_212 : decode cL_law 212 = .ok (.iload_n 3, 1) := by decide +kernel
theorem dL_law_213 : decode cL_law 213 = .ok (.iconst 1, 1) := by decide +kernel
theorem dL_law_214 : decode cL_law 214 = .ok (.iadd, 1) := by decide +kernel
theorem dL_law_215 : decode cL_law 215 = .ok (.iaload, 1) := by decide +kernel
theorem dL_law_216 : decode cL_law 216 = .ok (.aload_n 0, 1) := by decide +kernel
theorem dL_law_217 : decode cL_law 217 = .ok (.iload_n 3, 1) := by decide +kernel
theorem dL_law_218 : decode cL_law 218 = .ok (.iconst 2, 1) := by decide +kernel
theorem dL_law_219 : decode cL_law 219 = .ok (.iadd, 1) := by decide +kernel
theorem dL_law_220 : decode cL_law 220 = .ok (.iaload, 1) := by decide +kernel
theorem dL_law_221 : decode cL_law 221 = .ok (.invokevirtual 17, 3) := by decide +kernel
theorem dL_law_224 : decode cL_law 224 = .ok (.if_icmp .eq 953, 3) := by decide +kernel
theorem dL_law_227 : decode cL_law 227 = .ok (.iconst 0, 1) := by decide +kernel
theorem dL_law_228 : decode cL_law 228 = .ok (.ireturn, 1) := by decide +kernel
theorem dL_law_229 : decode cL_law 229 = .ok (.aload_n 1, 1) := by decide +kernel
theorem dL_law_230 : decode cL_law 230 = .ok (.aload_n 0, 1) := by decide +kernel
theorem dL_law_231 : decode cL_law 231 = .ok (.iload_n 3, 1) := by decide +kernel
theorem dL_law_232 : decode cL_law 232 = .ok (.iconst 1, 1) := by decide +kernel
theorem dL_law_233 : decode cL_law 233 = .ok (.iadd, 1) := by decide +kernel
theorem dL_law_234 : decode cL_law 234 = .ok (.iaload, 1) := by decide +kernel
theorem dL_law_235 : decode cL_law 235 = .ok (.ifCond .eq 7, 3) := by decide +kernel
theorem dL_law_238 : decode cL_law 238 = .ok (.iconst 1, 1) := by decide +kernel
theorem dL_law_239 : decode cL_law 239 = .ok (.goto 4, 3) := by decide +kernel
theorem dL_law_242 : decode cL_law 242 = .ok (.iconst 0, 1) := by decide +kernel
theorem dL_law_243 : decode cL_law 243 = .ok (.invokevirtual 18, 3) := by decide +kernel
theorem dL_law_246 : decode cL_law 246 = .ok (.aload_n 2, 1) := by decide +kernel
theorem dL_law_247 : decode cL_law 247 = .ok (.aload_n 0, 1) := by decide +kernel
theorem dL_law_248 : decode cL_law 248 = .ok (.iload_n 3, 1) := by decide +kernel
theorem dL_law_249 : decode cL_law 249 = .ok (.iconst 1, 1) := by decide +kernel
theorem dL_law_250 : decode cL_law 250 = .ok (.iadd, 1) := by decide +kernel
theorem dL_law_251 : decode cL_law 251 = .ok (.iaload, 1) := by decide +kernel
theorem dL_law_252 : decode cL_law 252 = .ok (.ifCond .eq 7, 3) := by decide +kernel
theorem dL_law_255 : decode cL_law 255 = .ok (.iconst 1, 1) := by decide +kernel
theorem dL_law_256 : decode cL_law 256 = .ok (.goto 4, 3) := by decide +kernel
theorem dL_law_259 : decode cL_law 259 = .ok (.iconst 0, 1) := by decide +kernel
theorem dL_law_260 : decode cL_law 260 = .ok (.invokevirtual 22, 3) := by decide +kernel
theorem dL_law_263 : decode cL_law 263 = .ok (.if_icmp .eq 914, 3) := by decide +kernel
theorem dL_law_266 : decode cL_law 266 = .ok (.iconst 0, 1) := by decide +kernel
theorem dL_law_267 : decode cL_law 267 = .ok (.ireturn, 1) := by decide +kernel
theorem dL_law_268 : decode cL_law 268 = .ok (.aload_n 1, 1) := by decide +kernel
theorem dL_law_269 : decode cL_law 269 = .ok (.aload_n 0, 1) := by decide +kernel
theorem dL_law_270 : decode cL_law 270 = .ok (.iload_n 3, 1) := by decide +kernel
theorem dL_law_271 : decode cL_law 271 = .ok (.iconst 1, 1) := by decide +kernel
theorem dL_law_272 : decode cL_law 272 = .ok (.iadd, 1) := by decide +kernel
theorem dL_law_273 : decode cL_law 273 = .ok (.iaload, 1) := by decide +kernel
theorem dL_law_274 : decode cL_law 274 = .ok (.aload_n 0, 1) := by decide +kernel
theorem dL_law_275 : decode cL_law 275 = .ok (.iload_n 3, 1) := by decide +kernel
theorem dL_law_276 : decode cL_law 276 = .ok (.iconst 2, 1) := by decide +kernel
theorem dL_law_277 : decode cL_law 277 = .ok (.iadd, 1) := by decide +kernel
theorem dL_law_278 : decode cL_law 278 = .ok (.iaload, 1) := by decide +kernel
theorem dL_law_279 : decode cL_law 279 = .ok (.aload_n 0, 1) := by decide +kernel
theorem dL_law_280 : decode cL_law 280 = .ok (.iload_n 3, 1) := by decide +kernel
theorem dL_law_281 : decode cL_law 281 = .ok (.iconst 3, 1) := by decide +kernel
theorem dL_law_282 : decode cL_law 282 = .ok (.iadd, 1) := by decide +kernel
theorem dL_law_283 : decode cL_law 283 = .ok (.iaload, 1) := by decide +kernel
theorem dL_law_284 : decode cL_law 284 = .ok (.ifCond .eq 7, 3) := by decide +kernel
theorem dL_law_287 : decode cL_law 287 = .ok (.iconst 1, 1) := by decide +kernel
theorem dL_law_288 : decode cL_law 288 = .ok (.goto 4, 3) := by decide +kernel
theorem dL_law_291 : decode cL_law 291 = .ok (.iconst 0, 1) := by decide +kernel
theorem dL_law_292 : decode cL_law 292 = .ok (.invokevirtual 23, 3) := by decide +kernel
theorem dL_law_295 : decode cL_law 295 = .ok (.aload_n 2, 1) := by decide +kernel
theorem dL_law_296 : decode cL_law 296 = .ok (.aload_n 0, 1) := by decide +kernel
theorem dL_law_297 : decode cL_law 297 = .ok (.iload_n 3, 1) := by decide +kernel
theorem dL_law_298 : decode cL_law 298 = .ok (.iconst 1, 1) := by decide +kernel
theorem dL_law_299 : decode cL_law 299 = .ok (.iadd, 1) := by decide +kernel
theorem dL_law_300 : decode cL_law 300 = .ok (.iaload, 1) := by decide +kernel
theorem dL_law_301 : decode cL_law 301 = .ok (.aload_n 0, 1) := by decide +kernel
theorem dL_law_302 : decode cL_law 302 = .ok (.iload_n 3, 1) := by decide +kernel
theorem dL_law_303 : decode cL_law 303 = .ok (.iconst 2, 1) := by decide +kernel
theorem dL_law_304 : decode cL_law 304 = .ok (.iadd, 1) := by decide +kernel
theorem dL_law_305 : decode cL_law 305 = .ok (.iaload, 1) := by decide +kernel
theorem dL_law_306 : decode cL_law 306 = .ok (.aload_n 0, 1) := by decide +kernel
theorem dL_law_307 : decode cL_law 307 = .ok (.iload_n 3, 1) := by decide +kernel
theorem dL_law_308 : decode cL_law 308 = .ok (.iconst 3, 1) := by decide +kernel
theorem dL_law_309 : decode cL_law 309 = .ok (.iadd, 1) := by decide +kernel
theorem dL_law_310 : decode cL_law 310 = .ok (.iaload, 1) := by decide +kernel
theorem dL_law_311 : decode cL_law 311 = .ok (.ifCond .eq 7, 3) := by decide +kernel
theorem dL_law_314 : decode cL_law 314 = .ok (.iconst 1, 1) := by decide +kernel
theorem dL_law_315 : decode cL_law 315 = .ok (.goto 4, 3) := by decide +kernel
theorem dL_law_318 : decode cL_law 318 = .ok (.iconst 0, 1) := by decide +kernel
theorem dL_law_319 : decode cL_law 319 = .ok (.invokevirtual 27, 3) := by decide +kernel
theorem dL_law_322 : decode cL_law 322 = .ok (.if_icmp .eq 855, 3) := by decide +kernel
theorem dL_law_325 : decode cL_law 325 = .ok (.iconst 0, 1) := by decide +kernel
theorem dL_law_326 : decode cL_law 326 = .ok (.ireturn, 1) := by decide +kernel
theorem dL_law_327 : decode cL_law 327 = .ok (.aload_n 1, 1) := by decide +kernel
theorem dL_law_328 : decode cL_law 328 = .ok (.aload_n 0, 1) := by decide +kernel
theorem dL_law_329 : decode cL_law 329 = .ok (.iload_n 3, 1) := by decide +kernel
theorem dL_law_330 : decode cL_law 330 = .ok (.iconst 1, 1) := by decide +kernel
theorem dL_law_331 : decode cL_law 331 = .ok (.iadd, 1) := by decide +kernel
theorem dL_law_332 : decode cL_law 332 = .ok (.iaload, 1) := by decide +kernel
theorem dL_law_333 : decode cL_law 333 = .ok (.aload_n 0, 1) := by decide +kernel
theorem dL_law_334 : decode cL_law 334 = .ok (.iload_n 3, 1) := by decide +kernel
theorem dL_law_335 : decode cL_law 335 = .ok (.iconst 2, 1) := by decide +kernel
theorem dL_law_336 : decode cL_law 336 = .ok (.iadd, 1) := by decide +kernel
theorem dL_law_337 : decode cL_law 337 = .ok (.iaload, 1) := by decide +kernel
theorem dL_law_338 : decode cL_law 338 = .ok (.aload_n 0, 1) := by decide +kernel
theorem dL_law_339 : decode cL_law 339 = .ok (.iload_n 3, 1) := by decide +kernel
theorem dL_law_340 : decode cL_law 340 = .ok (.iconst 3, 1) := by decide +kernel
theorem dL_law_341 : decode cL_law 341 = .ok (.iadd, 1) := by decide +kernel
theorem dL_law_342 : decode cL_law 342 = .ok (.iaload, 1) := by decide +kernel
theorem dL_law_343 : decode cL_law 343 = .ok (.ifCond .eq 7, 3) := by decide +kernel
theorem dL_law_346 : decode cL_law 346 = .ok (.iconst 1, 1) := by decide +kernel
theorem dL_law_347 : decode cL_law 347 = .ok (.goto 4, 3) := by decide +kernel
theorem dL_law_350 : decode cL_law 350 = .ok (.iconst 0, 1) := by decide +kernel
theorem dL_law_351 : decode cL_law 351 = .ok (.invokevirtual 28, 3) := by decide +kernel
theorem dL_law_354 : decode cL_law 354 = .ok (.aload_n 2, 1) := by decide +kernel
theorem dL_law_355 : decode cL_law 355 = .ok (.aload_n 0, 1) := by decide +kernel
theorem dL_law_356 : decode cL_law 356 = .ok (.iload_n 3, 1) := by decide +kernel
theorem dL_law_357 : decode cL_law 357 = .ok (.iconst 1, 1) := by decide +kernel
theorem dL_law_358 : decode cL_law 358 = .ok (.iadd, 1) := by decide +kernel
theorem dL_law_359 : decode cL_law 359 = .ok (.iaload, 1) := by decide +kernel
theorem dL_law_360 : decode cL_law 360 = .ok (.aload_n 0, 1) := by decide +kernel
theorem dL_law_361 : decode cL_law 361 = .ok (.iload_n 3, 1) := by decide +kernel
theorem dL_law_362 : decode cL_law 362 = .ok (.iconst 2, 1) := by decide +kernel
theorem dL_law_363 : decode cL_law 363 = .ok (.iadd, 1) := by decide +kernel
theorem dL_law_364 : decode cL_law 364 = .ok (.iaload, 1) := by decide +kernel
theorem dL_law_365 : decode cL_law 365 = .ok (.aload_n 0, 1) := by decide +kernel
theorem dL_law_366 : decode cL_law 366 = .ok (.iload_n 3, 1) := by decide +kernel
theorem dL_law_367 : decode cL_law 367 = .ok (.iconst 3, 1) := by decide +kernel
theorem dL_law_368 : decode cL_law 368 = .ok (.iadd, 1) := by decide +kernel
theorem dL_law_369 : decode cL_law 369 = .ok (.iaload, 1) := by decide +kernel
theorem dL_law_370 : decode cL_law 370 = .ok (.ifCond .eq 7, 3) := by decide +kernel
theorem dL_law_373 : decode cL_law 373 = .ok (.iconst 1, 1) := by decide +kernel
theorem dL_law_374 : decode cL_law 374 = .ok (.goto 4, 3) := by decide +kernel
theorem dL_law_377 : decode cL_law 377 = .ok (.iconst 0, 1) := by decide +kernel
theorem dL_law_378 : decode cL_law 378 = .ok (.invokevirtual 31, 3) := by decide +kernel
theorem dL_law_381 : decode cL_law 381 = .ok (.if_icmp .eq 796, 3) := by decide +kernel
theorem dL_law_384 : decode cL_law 384 = .ok (.iconst 0, 1) := by decide +kernel
theorem dL_law_385 : decode cL_law 385 = .ok (.ireturn, 1) := by decide +kernel
theorem dL_law_386 : decode cL_law 386 = .ok (.aload_n 1, 1) := by decide +kernel
theorem dL_law_387 : decode cL_law 387 = .ok (.aload_n 0, 1) := by decide +kernel
theorem dL_law_388 : decode cL_law 388 = .ok (.iload_n 3, 1) := by decide +kernel
theorem dL_law_389 : decode cL_law 389 = .ok (.iconst 1, 1) := by decide +kernel
theorem dL_law_390 : decode cL_law 390 = .ok (.iadd, 1) := by decide +kernel
theorem dL_law_391 : decode cL_law 391 = .ok (.iaload, 1) := by decide +kernel
theorem dL_law_392 : decode cL_law 392 = .ok (.aload_n 0, 1) := by decide +kernel
theorem dL_law_393 : decode cL_law 393 = .ok (.iload_n 3, 1) := by decide +kernel
theorem dL_law_394 : decode cL_law 394 = .ok (.iconst 2, 1) := by decide +kernel
theorem dL_law_395 : decode cL_law 395 = .ok (.iadd, 1) := by decide +kernel
theorem dL_law_396 : decode cL_law 396 = .ok (.iaload, 1) := by decide +kernel
theorem dL_law_397 : decode cL_law 397 = .ok (.aload_n 0, 1) := by decide +kernel
theorem dL_law_398 : decode cL_law 398 = .ok (.iload_n 3, 1) := by decide +kernel
theorem dL_law_399 : decode cL_law 399 = .ok (.iconst 3, 1) := by decide +kernel
theorem dL_law_400 : decode cL_law 400 = .ok (.iadd, 1) := by decide +kernel
theorem dL_law_401 : decode cL_law 401 = .ok (.iaload, 1) := by decide +kernel
theorem dL_law_402 : decode cL_law 402 = .ok (.aload_n 0, 1) := by decide +kernel
theorem dL_law_403 : decode cL_law 403 = .ok (.iload_n 3, 1) := by decide +kernel
theorem dL_law_404 : decode cL_law 404 = .ok (.iconst 4, 1) := by decide +kernel
theorem dL_law_405 : decode cL_law 405 = .ok (.iadd, 1) := by decide +kernel
theorem dL_law_406 : decode cL_law 406 = .ok (.iaload, 1) := by decide +kernel
theorem dL_law_407 : decode cL_law 407 = .ok (.ifCond .eq 7, 3) := by decide +kernel
theorem dL_law_410 : decode cL_law 410 = .ok (.iconst 1, 1) := by decide +kernel
theorem dL_law_411 : decode cL_law 411 = .ok (.goto 4, 3) := by decide +kernel
theorem dL_law_414 : decode cL_law 414 = .ok (.iconst 0, 1) := by decide +kernel
theorem dL_law_415 : decode cL_law 415 = .ok (.invokevirtual 32, 3) := by decide +kernel
theorem dL_law_418 : decode cL_law 418 = .ok (.aload_n 2, 1) := by decide +kernel
theorem dL_law_419 : decode cL_law 419 = .ok (.aload_n 0, 1) := by decide +kernel
theorem dL_law_420 : decode cL_law 420 = .ok (.iload_n 3, 1) := by decide +kernel
theorem dL_law_421 : decode cL_law 421 = .ok (.iconst 1, 1) := by decide +kernel
theorem dL_law_422 : decode cL_law 422 = .ok (.iadd, 1) := by decide +kernel
theorem dL_law_423 : decode cL_law 423 = .ok (.iaload, 1) := by decide +kernel
theorem dL_law_424 : decode cL_law 424 = .ok (.aload_n 0, 1) := by decide +kernel
theorem dL_law_425 : decode cL_law 425 = .ok (.iload_n 3, 1) := by decide +kernel
theorem dL_law_426 : decode cL_law 426 = .ok (.iconst 2, 1) := by decide +kernel
theorem dL_law_427 : decode cL_law 427 = .ok (.iadd, 1) := by decide +kernel
theorem dL_law_428 : decode cL_law 428 = .ok (.iaload, 1) := by decide +kernel
theorem dL_law_429 : decode cL_law 429 = .ok (.aload_n 0, 1) := by decide +kernel
theorem dL_law_430 : decode cL_law 430 = .ok (.iload_n 3, 1) := by decide +kernel
theorem dL_law_431 : decode cL_law 431 = .ok (.iconst 3, 1) := by decide +kernel
theorem dL_law_432 : decode cL_law 432 = .ok (.iadd, 1) := by decide +kernel
theorem dL_law_433 : decode cL_law 433 = .ok (.iaload, 1) := by decide +kernel
theorem dL_law_434 : decode cL_law 434 = .ok (.aload_n 0, 1) := by decide +kernel
theorem dL_law_435 : decode cL_law 435 = .ok (.iload_n 3, 1) := by decide +kernel
theorem dL_law_436 : decode cL_law 436 = .ok (.iconst 4, 1) := by decide +kernel
theorem dL_law_437 : decode cL_law 437 = .ok (.iadd, 1) := by decide +kernel
theorem dL_law_438 : decode cL_law 438 = .ok (.iaload, 1) := by decide +kernel
theorem dL_law_439 : decode cL_law 439 = .ok (.ifCond .eq 7, 3) := by decide +kernel
theorem dL_law_442 : decode cL_law 442 = .ok (.iconst 1, 1) := by decide +kernel
theorem dL_law_443 : decode cL_law 443 = .ok (.goto 4, 3) := by decide +kernel
theorem dL_law_446 : decode cL_law 446 = .ok (.iconst 0, 1) := by decide +kernel
theorem dL_law_447 : decode cL_law 447 = .ok (.invokevirtual 36, 3) := by decide +kernel
theorem dL_law_450 : decode cL_law 450 = .ok (.if_icmp .eq 727, 3) := by decide +kernel
theorem dL_law_453 : decode cL_law 453 = .ok (.iconst 0, 1) := by decide +kernel
theorem dL_law_454 : decode cL_law 454 = .ok (.ireturn, 1) := by decide +kernel
theorem dL_law_455 : decode cL_law 455 = .ok (.aload_n 1, 1) := by decide +kernel
theorem dL_law_456 : decode cL_law 456 = .ok (.aload_n 0, 1) := by decide +kernel
theorem dL_law_457 : decode cL_law 457 = .ok (.iload_n 3, 1) := by decide +kernel
theorem dL_law_458 : decode cL_law 458 = .ok (.iconst 1, 1) := by decide +kernel
theorem dL_law_459 : decode cL_law 459 = .ok (.iadd, 1) := by decide +kernel
theorem dL_law_460 : decode cL_law 460 = .ok (.iaload, 1) := by decide +kernel
theorem dL_law_461 : decode cL_law 461 = .ok (.invokevirtual 37, 3) := by decide +kernel
theorem dL_law_464 : decode cL_law 464 = .ok (.aload_n 2, 1) := by decide +kernel
theorem dL_law_465 : decode cL_law 465 = .ok (.aload_n 0, 1) := by decide +kernel
theorem dL_law_466 : decode cL_law 466 = .ok (.iload_n 3, 1) := by decide +kernel
theorem dL_law_467 : decode cL_law 467 = .ok (.iconst 1, 1) := by decide +kernel
theorem dL_law_468 : decode cL_law 468 = .ok (.iadd, 1) := by decide +kernel
theorem dL_law_469 : decode cL_law 469 = .ok (.iaload, 1) := by decide +kernel
theorem dL_law_470 : decode cL_law 470 = .ok (.invokevirtual 41, 3) := by decide +kernel
theorem dL_law_473 : decode cL_law 473 = .ok (.if_icmp .eq 704, 3) := by decide +kernel
theorem dL_law_476 : decode cL_law 476 = .ok (.iconst 0, 1) := by decide +kernel
theorem dL_law_477 : decode cL_law 477 = .ok (.ireturn, 1) := by decide +kernel
theorem dL_law_478 : decode cL_law 478 = .ok (.aload_n 1, 1) := by decide +kernel
theorem dL_law_479 : decode cL_law 479 = .ok (.aload_n 0, 1) := by decide +kernel
theorem dL_law_480 : decode cL_law 480 = .ok (.iload_n 3, 1) := by decide +kernel
theorem dL_law_481 : decode cL_law 481 = .ok (.iconst 1, 1) := by decide +kernel
theorem dL_law_482 : decode cL_law 482 = .ok (.iadd, 1) := by decide +kernel
theorem dL_law_483 : decode cL_law 483 = .ok (.iaload, 1) := by decide +kernel
theorem dL_law_484 : decode cL_law 484 = .ok (.invokevirtual 42, 3) := by decide +kernel
theorem dL_law_487 : decode cL_law 487 = .ok (.aload_n 2, 1) := by decide +kernel
theorem dL_law_488 : decode cL_law 488 = .ok (.aload_n 0, 1) := by decide +kernel
theorem dL_law_489 : decode cL_law 489 = .ok (.iload_n 3, 1) := by decide +kernel
theorem dL_law_490 : decode cL_law 490 = .ok (.iconst 1, 1) := by decide +kernel
theorem dL_law_491 : decode cL_law 491 = .ok (.iadd, 1) := by decide +kernel
theorem dL_law_492 : decode cL_law 492 = .ok (.iaload, 1) := by decide +kernel
theorem dL_law_493 : decode cL_law 493 = .ok (.invokevirtual 45, 3) := by decide +kernel
theorem dL_law_496 : decode cL_law 496 = .ok (.if_icmp .eq 681, 3) := by decide +kernel
theorem dL_law_499 : decode cL_law 499 = .ok (.iconst 0, 1) := by decide +kernel
theorem dL_law_500 : decode cL_law 500 = .ok (.ireturn, 1) := by decide +kernel
theorem dL_law_501 : decode cL_law 501 = .ok (.aload_n 1, 1) := by decide +kernel
theorem dL_law_502 : decode cL_law 502 = .ok (.invokevirtual 46, 3) := by decide +kernel
theorem dL_law_505 : decode cL_law 505 = .ok (.aload_n 2, 1) := by decide +kernel
theorem dL_law_506 : decode cL_law 506 = .ok (.invokevirtual 50, 3) := by decide +kernel
theorem dL_law_509 : decode cL_law 509 = .ok (.if_icmp .eq 668, 3) := by decide +kernel
theorem dL_law_512 : decode cL_law 512 = .ok (.iconst 0, 1) := by decide +kernel
theorem dL_law_513 : decode cL_law 513 = .ok (.ireturn, 1) := by decide +kernel
theorem dL_law_514 : decode cL_law 514 = .ok (.aload_n 1, 1) := by decide +kernel
theorem dL_law_515 : decode cL_law 515 = .ok (.invokevirtual 51, 3) := by decide +kernel
theorem dL_law_518 : decode cL_law 518 = .ok (.aload_n 2, 1) := by decide +kernel
theorem dL_law_519 : decode cL_law 519 = .ok (.invokevirtual 54, 3) := by decide +kernel
theorem dL_law_522 : decode cL_law 522 = .ok (.if_icmp .eq 655, 3) := by decide +kernel
theorem dL_law_525 : decode cL_law 525 = .ok (.iconst 0, 1) := by decide +kernel
theorem dL_law_526 : decode cL_law 526 = .ok (.ireturn, 1) := by decide +kernel
theorem dL_law_527 : decode cL_law 527 = .ok (.aload_n 1, 1) := by decide +kernel
theorem dL_law_528 : decode cL_law 528 = .ok (.aload_n 0, 1) := by decide +kernel
theorem dL_law_529 : decode cL_law 529 = .ok (.iload_n 3, 1) := by decide +kernel
theorem dL_law_530 : decode cL_law 530 = .ok (.iconst 1, 1) := by decide +kernel
theorem dL_law_531 : decode cL_law 531 = .ok (.iadd, 1) := by decide +kernel
theorem dL_law_532 : decode cL_law 532 = .ok (.iaload, 1) := by decide +kernel
theorem dL_law_533 : decode cL_law 533 = .ok (.aload_n 0, 1) := by decide +kernel
theorem dL_law_534 : decode cL_law 534 = .ok (.iload_n 3, 1) := by decide +kernel
theorem dL_law_535 : decode cL_law 535 = .ok (.iconst 2, 1) := by decide +kernel
theorem dL_law_536 : decode cL_law 536 = .ok (.iadd, 1) := by decide +kernel
theorem dL_law_537 : decode cL_law 537 = .ok (.iaload, 1) := by decide +kernel
theorem dL_law_538 : decode cL_law 538 = .ok (.aload_n 0, 1) := by decide +kernel
theorem dL_law_539 : decode cL_law 539 = .ok (.iload_n 3, 1) := by decide +kernel
theorem dL_law_540 : decode cL_law 540 = .ok (.iconst 3, 1) := by decide +kernel
theorem dL_law_541 : decode cL_law 541 = .ok (.iadd, 1) := by decide +kernel
theorem dL_law_542 : decode cL_law 542 = .ok (.iaload, 1) := by decide +kernel
theorem dL_law_543 : decode cL_law 543 = .ok (.invokevirtual 55, 3) := by decide +kernel
theorem dL_law_546 : decode cL_law 546 = .ok (.aload_n 2, 1) := by decide +kernel
theorem dL_law_547 : decode cL_law 547 = .ok (.aload_n 0, 1) := by decide +kernel
theorem dL_law_548 : decode cL_law 548 = .ok (.iload_n 3, 1) := by decide +kernel
theorem dL_law_549 : decode cL_law 549 = .ok (.iconst 1, 1) := by decide +kernel
theorem dL_law_550 : decode cL_law 550 = .ok (.iadd, 1) := by decide +kernel
theorem dL_law_551 : decode cL_law 551 = .ok (.iaload, 1) := by decide +kernel
theorem dL_law_552 : decode cL_law 552 = .ok (.aload_n 0, 1) := by decide +kernel
theorem dL_law_553 : decode cL_law 553 = .ok (.iload_n 3, 1) := by decide +kernel
theorem dL_law_554 : decode cL_law 554 = .ok (.iconst 2, 1) := by decide +kernel
theorem dL_law_555 : decode cL_law 555 = .ok (.iadd, 1) := by decide +kernel
theorem dL_law_556 : decode cL_law 556 = .ok (.iaload, 1) := by decide +kernel
theorem dL_law_557 : decode cL_law 557 = .ok (.aload_n 0, 1) := by decide +kernel
theorem dL_law_558 : decode cL_law 558 = .ok (.iload_n 3, 1) := by decide +kernel
theorem dL_law_559 : decode cL_law 559 = .ok (.iconst 3, 1) := by decide +kernel
theorem dL_law_560 : decode cL_law 560 = .ok (.iadd, 1) := by decide +kernel
theorem dL_law_561 : decode cL_law 561 = .ok (.iaload, 1) := by decide +kernel
theorem dL_law_562 : decode cL_law 562 = .ok (.invokevirtual 59, 3) := by decide +kernel
theorem dL_law_565 : decode cL_law 565 = .ok (.if_icmp .eq 612, 3) := by decide +kernel
theorem dL_law_568 : decode cL_law 568 = .ok (.iconst 0, 1) := by decide +kernel
theorem dL_law_569 : decode cL_law 569 = .ok (.ireturn, 1) := by decide +kernel
theorem dL_law_570 : decode cL_law 570 = .ok (.aload_n 1, 1) := by decide +kernel
theorem dL_law_571 : decode cL_law 571 = .ok (.aload_n 0, 1) := by decide +kernel
theorem dL_law_572 : decode cL_law 572 = .ok (.iload_n 3, 1) := by decide +kernel
theorem dL_law_573 : decode cL_law 573 = .ok (.iconst 1, 1) := by decide +kernel
theorem dL_law_574 : decode cL_law 574 = .ok (.iadd, 1) := by decide +kernel
theorem dL_law_575 : decode cL_law 575 = .ok (.iaload, 1) := by decide +kernel
theorem dL_law_576 : decode cL_law 576 = .ok (.aload_n 0, 1) := by decide +kernel
theorem dL_law_577 : decode cL_law 577 = .ok (.iload_n 3, 1) := by decide +kernel
theorem dL_law_578 : decode cL_law 578 = .ok (.iconst 2, 1) := by decide +kernel
theorem dL_law_579 : decode cL_law 579 = .ok (.iadd, 1) := by decide +kernel
theorem dL_law_580 : decode cL_law 580 = .ok (.iaload, 1) := by decide +kernel
theorem dL_law_581 : decode cL_law 581 = .ok (.aload_n 0, 1) := by decide +kernel
theorem dL_law_582 : decode cL_law 582 = .ok (.iload_n 3, 1) := by decide +kernel
theorem dL_law_583 : decode cL_law 583 = .ok (.iconst 3, 1) := by decide +kernel
theorem dL_law_584 : decode cL_law 584 = .ok (.iadd, 1) := by decide +kernel
theorem dL_law_585 : decode cL_law 585 = .ok (.iaload, 1) := by decide +kernel
theorem dL_law_586 : decode cL_law 586 = .ok (.invokevirtual 60, 3) := by decide +kernel
theorem dL_law_589 : decode cL_law 589 = .ok (.aload_n 2, 1) := by decide +kernel
theorem dL_law_590 : decode cL_law 590 = .ok (.aload_n 0, 1) := by decide +kernel
theorem dL_law_591 : decode cL_law 591 = .ok (.iload_n 3, 1) := by decide +kernel
theorem dL_law_592 : decode cL_law 592 = .ok (.iconst 1, 1) := by decide +kernel
theorem dL_law_593 : decode cL_law 593 = .ok (.iadd, 1) := by decide +kernel
theorem dL_law_594 : decode cL_law 594 = .ok (.iaload, 1) := by decide +kernel
theorem dL_law_595 : decode cL_law 595 = .ok (.aload_n 0, 1) := by decide +kernel
theorem dL_law_596 : decode cL_law 596 = .ok (.iload_n 3, 1) := by decide +kernel
theorem dL_law_597 : decode cL_law 597 = .ok (.iconst 2, 1) := by decide +kernel
theorem dL_law_598 : decode cL_law 598 = .ok (.iadd, 1) := by decide +kernel
theorem dL_law_599 : decode cL_law 599 = .ok (.iaload, 1) := by decide +kernel
theorem dL_law_600 : decode cL_law 600 = .ok (.aload_n 0, 1) := by decide +kernel
theorem dL_law_601 : decode cL_law 601 = .ok (.iload_n 3, 1) := by decide +kernel
theorem dL_law_602 : decode cL_law 602 = .ok (.iconst 3, 1) := by decide +kernel
theorem dL_law_603 : decode cL_law 603 = .ok (.iadd, 1) := by decide +kernel
theorem dL_law_604 : decode cL_law 604 = .ok (.iaload, 1) := by decide +kernel
theorem dL_law_605 : decode cL_law 605 = .ok (.invokevirtual 63, 3) := by decide +kernel
theorem dL_law_608 : decode cL_law 608 = .ok (.if_icmp .eq 569, 3) := by decide +kernel
theorem dL_law_611 : decode cL_law 611 = .ok (.iconst 0, 1) := by decide +kernel
theorem dL_law_612 : decode cL_law 612 = .ok (.ireturn, 1) := by decide +kernel
theorem dL_law_613 : decode cL_law 613 = .ok (.aload_n 1, 1) := by decide +kernel
theorem dL_law_614 : decode cL_law 614 = .ok (.aload_n 0, 1) := by decide +kernel
theorem dL_law_615 : decode cL_law 615 = .ok (.iload_n 3, 1) := by decide +kernel
theorem dL_law_616 : decode cL_law 616 = .ok (.iconst 1, 1) := by decide +kernel
theorem dL_law_617 : decode cL_law 617 = .ok (.iadd, 1) := by decide +kernel
theorem dL_law_618 : decode cL_law 618 = .ok (.iaload, 1) := by decide +kernel
theorem dL_law_619 : decode cL_law 619 = .ok (.aload_n 0, 1) := by decide +kernel
theorem dL_law_620 : decode cL_law 620 = .ok (.iload_n 3, 1) := by decide +kernel
theorem dL_law_621 : decode cL_law 621 = .ok (.iconst 2, 1) := by decide +kernel
theorem dL_law_622 : decode cL_law 622 = .ok (.iadd, 1) := by decide +kernel
theorem dL_law_623 : decode cL_law 623 = .ok (.iaload, 1) := by decide +kernel
theorem dL_law_624 : decode cL_law 624 = .ok (.invokevirtual 64, 3) := by decide +kernel
theorem dL_law_627 : decode cL_law 627 = .ok (.aload_n 2, 1) := by decide +kernel
theorem dL_law_628 : decode cL_law 628 = .ok (.aload_n 0, 1) := by decide +kernel
theorem dL_law_629 : decode cL_law 629 = .ok (.iload_n 3, 1) := by decide +kernel
theorem dL_law_630 : decode cL_law 630 = .ok (.iconst 1, 1) := by decide +kernel
theorem dL_law_631 : decode cL_law 631 = .ok (.iadd, 1) := by decide +kernel
theorem dL_law_632 : decode cL_law 632 = .ok (.iaload, 1) := by decide +kernel
theorem dL_law_633 : decode cL_law 633 = .ok (.aload_n 0, 1) := by decide +kernel
theorem dL_law_634 : decode cL_law 634 = .ok (.iload_n 3, 1) := by decide +kernel
theorem dL_law_635 : decode cL_law 635 = .ok (.iconst 2, 1) := by decide +kernel
theorem dL_law_636 : decode cL_law 636 = .ok (.iadd, 1) := by decide +kernel
theorem dL_law_637 : decode cL_law 637 = .ok (.iaload, 1) := by decide +kernel
theorem dL_law_638 : decode cL_law 638 = .ok (.invokevirtual 67, 3) := by decide +kernel
theorem dL_law_641 : decode cL_law 641 = .ok (.if_icmp .eq 536, 3) := by decide +kernel
theorem dL_law_644 : decode cL_law 644 = .ok (.iconst 0, 1) := by decide +kernel
theorem dL_law_645 : decode cL_law 645 = .ok (.ireturn, 1) := by decide +kernel
theorem dL_law_646 : decode cL_law 646 = .ok (.aload_n 1, 1) := by decide +kernel
theorem dL_law_647 : decode cL_law 647 = .ok (.invokevirtual 68, 3) := by decide +kernel
theorem dL_law_650 : decode cL_law 650 = .ok (.aload_n 2, 1) := by decide +kernel
theorem dL_law_651 : decode cL_law 651 = .ok (.invokevirtual 71, 3) := by decide +kernel
theorem dL_law_654 : decode cL_law 654 = .ok (.if_icmp .eq 523, 3) := by decide +kernel
theorem dL_law_657 : decode cL_law 657 = .ok (.iconst 0, 1) := by decide +kernel
theorem dL_law_658 : decode cL_law 658 = .ok (.ireturn, 1) := by decide +kernel
theorem dL_law_659 : decode cL_law 659 = .ok (.aload_n 1, 1) := by decide +kernel
theorem dL_law_660 : decode cL_law 660 = .ok (.invokevirtual 72, 3) := by decide +kernel
theorem dL_law_663 : decode cL_law 663 = .ok (.aload_n 2, 1) := by decide +kernel
theorem dL_law_664 : decode cL_law 664 = .ok (.invokevirtual 75, 3) := by decide +kernel
theorem dL_law_667 : decode cL_law 667 = .ok (.if_icmp .eq 510, 3) := by decide +kernel
theorem dL_law_670 : decode cL_law 670 = .ok (.iconst 0, 1) := by decide +kernel
theorem dL_law_671 : decode cL_law 671 = .ok (.ireturn, 1) := by decide +kernel
theorem dL_law_672 : decode cL_law 672 = .ok (.aload_n 1, 1) := by decide +kernel
theorem dL_law_673 : decode cL_law 673 = .ok (.aload_n 0, 1) := by decide +kernel
theorem dL_law_674 : decode cL_law 674 = .ok (.iload_n 3, 1) := by decide +kernel
theorem dL_law_675 : decode cL_law 675 = .ok (.iconst 1, 1) := by decide +kernel
theorem dL_law_676 : decode cL_law 676 = .ok (.iadd, 1) := by decide +kernel
theorem dL_law_677 : decode cL_law 677 = .ok (.iaload, 1) := by decide +kernel
theorem dL_law_678 : decode cL_law 678 = .ok (.invokevirtual 76, 3) := by decide +kernel
theorem dL_law_681 : decode cL_law 681 = .ok (.aload_n 2, 1) := by decide +kernel
theorem dL_law_682 : decode cL_law 682 = .ok (.aload_n 0, 1) := by decide +kernel
theorem dL_law_683 : decode cL_law 683 = .ok (.iload_n 3, 1) := by decide +kernel
theorem dL_law_684 : decode cL_law 684 = .ok (.iconst 1, 1) := by decide +kernel
theorem dL_law_685 : decode cL_law 685 = .ok (.iadd, 1) := by decide +kernel
theorem dL_law_686 : decode cL_law 686 = .ok (.iaload, 1) := by decide +kernel
theorem dL_law_687 : decode cL_law 687 = .ok (.invokevirtual 79, 3) := by decide +kernel
theorem dL_law_690 : decode cL_law 690 = .ok (.if_icmp .eq 487, 3) := by decide +kernel
theorem dL_law_693 : decode cL_law 693 = .ok (.iconst 0, 1) := by decide +kernel
theorem dL_law_694 : decode cL_law 694 = .ok (.ireturn, 1) := by decide +kernel
theorem dL_law_695 : decode cL_law 695 = .ok (.aload_n 1, 1) := by decide +kernel
theorem dL_law_696 : decode cL_law 696 = .ok (.aload_n 0, 1) := by decide +kernel
theorem dL_law_697 : decode cL_law 697 = .ok (.iload_n 3, 1) := by decide +kernel
theorem dL_law_698 : decode cL_law 698 = .ok (.iconst 1, 1) := by decide +kernel
theorem dL_law_699 : decode cL_law 699 = .ok (.iadd, 1) := by decide +kernel
theorem dL_law_700 : decode cL_law 700 = .ok (.iaload, 1) := by decide +kernel
theorem dL_law_701 : decode cL_law 701 = .ok (.invokevirtual 80, 3) := by decide +kernel
theorem dL_law_704 : decode cL_law 704 = .ok (.aload_n 2, 1) := by decide +kernel
theorem dL_law_705 : decode cL_law 705 = .ok (.aload_n 0, 1) := by decide +kernel
theorem dL_law_706 : decode cL_law 706 = .ok (.iload_n 3, 1) := by decide +kernel
theorem dL_law_707 : decode cL_law 707 = .ok (.iconst 1, 1) := by decide +kernel
theorem dL_law_708 : decode cL_law 708 = .ok (.iadd, 1) := by decide +kernel
theorem dL_law_709 : decode cL_law 709 = .ok (.iaload, 1) := by decide +kernel
theorem dL_law_710 : decode cL_law 710 = .ok (.invokevirtual 83, 3) := by decide +kernel
theorem dL_law_713 : decode cL_law 713 = .ok (.if_icmp .eq 464, 3) := by decide +kernel
theorem dL_law_716 : decode cL_law 716 = .ok (.iconst 0, 1) := by decide +kernel
theorem dL_law_717 : decode cL_law 717 = .ok (.ireturn, 1) := by decide +kernel
theorem dL_law_718 : decode cL_law 718 = .ok (.aload_n 1, 1) := by decide +kernel
theorem dL_law_719 : decode cL_law 719 = .ok (.aload_n 0, 1) := by decide +kernel
theorem dL_law_720 : decode cL_law 720 = .ok (.iload_n 3, 1) := by decide +kernel
theorem dL_law_721 : decode cL_law 721 = .ok (.iconst 1, 1) := by decide +kernel
theorem dL_law_722 : decode cL_law 722 = .ok (.iadd, 1) := by decide +kernel
theorem dL_law_723 : decode cL_law 723 = .ok (.iaload, 1) := by decide +kernel
theorem dL_law_724 : decode cL_law 724 = .ok (.aload_n 0, 1) := by decide +kernel
theorem dL_law_725 : decode cL_law 725 = .ok (.iload_n 3, 1) := by decide +kernel
theorem dL_law_726 : decode cL_law 726 = .ok (.iconst 2, 1) := by decide +kernel
theorem dL_law_727 : decode cL_law 727 = .ok (.iadd, 1) := by decide +kernel
theorem dL_law_728 : decode cL_law 728 = .ok (.iaload, 1) := by decide +kernel
theorem dL_law_729 : decode cL_law 729 = .ok (.invokevirtual 84, 3) := by decide +kernel
theorem dL_law_732 : decode cL_law 732 = .ok (.aload_n 2, 1) := by decide +kernel
theorem dL_law_733 : decode cL_law 733 = .ok (.aload_n 0, 1) := by decide +kernel
theorem dL_law_734 : decode cL_law 734 = .ok (.iload_n 3, 1) := by decide +kernel
theorem dL_law_735 : decode cL_law 735 = .ok (.iconst 1, 1) := by decide +kernel
theorem dL_law_736 : decode cL_law 736 = .ok (.iadd, 1) := by decide +kernel
theorem dL_law_737 : decode cL_law 737 = .ok (.iaload, 1) := by decide +kernel
theorem dL_law_738 : decode cL_law 738 = .ok (.aload_n 0, 1) := by decide +kernel
theorem dL_law_739 : decode cL_law 739 = .ok (.iload_n 3, 1) := by decide +kernel
theorem dL_law_740 : decode cL_law 740 = .ok (.iconst 2, 1) := by decide +kernel
theorem dL_law_741 : decode cL_law 741 = .ok (.iadd, 1) := by decide +kernel
theorem dL_law_742 : decode cL_law 742 = .ok (.iaload, 1) := by decide +kernel
theorem dL_law_743 : decode cL_law 743 = .ok (.invokevirtual 87, 3) := by decide +kernel
theorem dL_law_746 : decode cL_law 746 = .ok (.if_icmp .eq 431, 3) := by decide +kernel
theorem dL_law_749 : decode cL_law 749 = .ok (.iconst 0, 1) := by decide +kernel
theorem dL_law_750 : decode cL_law 750 = .ok (.ireturn, 1) := by decide +kernel
theorem dL_law_751 : decode cL_law 751 = .ok (.aload_n 1, 1) := by decide +kernel
theorem dL_law_752 : decode cL_law 752 = .ok (.aload_n 0, 1) := by decide +kernel
theorem dL_law_753 : decode cL_law 753 = .ok (.iload_n 3, 1) := by decide +kernel
theorem dL_law_754 : decode cL_law 754 = .ok (.iconst 1, 1) := by decide +kernel
theorem dL_law_755 : decode cL_law 755 = .ok (.iadd, 1) := by decide +kernel
theorem dL_law_756 : decode cL_law 756 = .ok (.iaload, 1) := by decide +kernel
theorem dL_law_757 : decode cL_law 757 = .ok (.invokevirtual 88, 3) := by decide +kernel
theorem dL_law_760 : decode cL_law 760 = .ok (.aload_n 2, 1) := by decide +kernel
theorem dL_law_761 : decode cL_law 761 = .ok (.aload_n 0, 1) := by decide +kernel
theorem dL_law_762 : decode cL_law 762 = .ok (.iload_n 3, 1) := by decide +kernel
theorem dL_law_763 : decode cL_law 763 = .ok (.iconst 1, 1) := by decide +kernel
theorem dL_law_764 : decode cL_law 764 = .ok (.iadd, 1) := by decide +kernel
theorem dL_law_765 : decode cL_law 765 = .ok (.iaload, 1) := by decide +kernel
theorem dL_law_766 : decode cL_law 766 = .ok (.invokevirtual 91, 3) := by decide +kernel
theorem dL_law_769 : decode cL_law 769 = .ok (.if_icmp .eq 408, 3) := by decide +kernel
theorem dL_law_772 : decode cL_law 772 = .ok (.iconst 0, 1) := by decide +kernel
theorem dL_law_773 : decode cL_law 773 = .ok (.ireturn, 1) := by decide +kernel
theorem dL_law_774 : decode cL_law 774 = .ok (.aload_n 1, 1) := by decide +kernel
theorem dL_law_775 : decode cL_law 775 = .ok (.aload_n 0, 1) := by decide +kernel
theorem dL_law_776 : decode cL_law 776 = .ok (.iload_n 3, 1) := by decide +kernel
theorem dL_law_777 : decode cL_law 777 = .ok (.iconst 1, 1) := by decide +kernel
theorem dL_law_778 : decode cL_law 778 = .ok (.iadd, 1) := by decide +kernel
theorem dL_law_779 : decode cL_law 779 = .ok (.iaload, 1) := by decide +kernel
theorem dL_law_780 : decode cL_law 780 = .ok (.invokevirtual 92, 3) := by decide +kernel
theorem dL_law_783 : decode cL_law 783 = .ok (.aload_n 2, 1) := by decide +kernel
theorem dL_law_784 : decode cL_law 784 = .ok (.aload_n 0, 1) := by decide +kernel
theorem dL_law_785 : decode cL_law 785 = .ok (.iload_n 3, 1) := by decide +kernel
theorem dL_law_786 : decode cL_law 786 = .ok (.iconst 1, 1) := by decide +kernel
theorem dL_law_787 : decode cL_law 787 = .ok (.iadd, 1) := by decide +kernel
theorem dL_law_788 : decode cL_law 788 = .ok (.iaload, 1) := by decide +kernel
theorem dL_law_789 : decode cL_law 789 = .ok (.invokevirtual 95, 3) := by decide +kernel
theorem dL_law_792 : decode cL_law 792 = .ok (.if_icmp .eq 385, 3) := by decide +kernel
theorem dL_law_795 : decode cL_law 795 = .ok (.iconst 0, 1) := by decide +kernel
theorem dL_law_796 : decode cL_law 796 = .ok (.ireturn, 1) := by decide +kernel
theorem dL_law_797 : decode cL_law 797 = .ok (.aload_n 1, 1) := by decide +kernel
theorem dL_law_798 : decode cL_law 798 = .ok (.invokevirtual 96, 3) := by decide +kernel
theorem dL_law_801 : decode cL_law 801 = .ok (.aload_n 2, 1) := by decide +kernel
theorem dL_law_802 : decode cL_law 802 = .ok (.invokevirtual 99, 3) := by decide +kernel
theorem dL_law_805 : decode cL_law 805 = .ok (.if_icmp .eq 372, 3) := by decide +kernel
theorem dL_law_808 : decode cL_law 808 = .ok (.iconst 0, 1) := by decide +kernel
theorem dL_law_809 : decode cL_law 809 = .ok (.ireturn, 1) := by decide +kernel
theorem dL_law_810 : decode cL_law 810 = .ok (.aload_n 1, 1) := by decide +kernel
theorem dL_law_811 : decode cL_law 811 = .ok (.invokevirtual 100, 3) := by decide +kernel
theorem dL_law_814 : decode cL_law 814 = .ok (.aload_n 2, 1) := by decide +kernel
theorem dL_law_815 : decode cL_law 815 = .ok (.invokevirtual 103, 3) := by decide +kernel
theorem dL_law_818 : decode cL_law 818 = .ok (.if_icmp .eq 359, 3) := by decide +kernel
theorem dL_law_821 : decode cL_law 821 = .ok (.iconst 0, 1) := by decide +kernel
theorem dL_law_822 : decode cL_law 822 = .ok (.ireturn, 1) := by decide +kernel
theorem dL_law_823 : decode cL_law 823 = .ok (.aload_n 1, 1) := by decide +kernel
theorem dL_law_824 : decode cL_law 824 = .ok (.invokevirtual 104, 3) := by decide +kernel
theorem dL_law_827 : decode cL_law 827 = .ok (.aload_n 2, 1) := by decide +kernel
theorem dL_law_828 : decode cL_law 828 = .ok (.invokevirtual 107, 3) := by decide +kernel
theorem dL_law_831 : decode cL_law 831 = .ok (.if_icmp .eq 346, 3) := by decide +kernel
theorem dL_law_834 : decode cL_law 834 = .ok (.iconst 0, 1) := by decide +kernel
theorem dL_law_835 : decode cL_law 835 = .ok (.ireturn, 1) := by decide +kernel
theorem dL_law_836 : decode cL_law 836 = .ok (.aload_n 1, 1) := by decide +kernel
theorem dL_law_837 : decode cL_law 837 = .ok (.invokevirtual 108, 3) := by decide +kernel
theorem dL_law_840 : decode cL_law 840 = .ok (.aload_n 2, 1) := by decide +kernel
theorem dL_law_841 : decode cL_law 841 = .ok (.invokevirtual 111, 3) := by decide +kernel
theorem dL_law_844 : decode cL_law 844 = .ok (.if_icmp .eq 333, 3) := by decide +kernel
theorem dL_law_847 : decode cL_law 847 = .ok (.iconst 0, 1) := by decide +kernel
theorem dL_law_848 : decode cL_law 848 = .ok (.ireturn, 1) := by decide +kernel
theorem dL_law_849 : decode cL_law 849 = .ok (.aload_n 1, 1) := by decide +kernel
theorem dL_law_850 : decode cL_law 850 = .ok (.invokevirtual 112, 3) := by decide +kernel
theorem dL_law_853 : decode cL_law 853 = .ok (.aload_n 2, 1) := by decide +kernel
theorem dL_law_854 : decode cL_law 854 = .ok (.invokevirtual 115, 3) := by decide +kernel
theorem dL_law_857 : decode cL_law 857 = .ok (.if_icmp .eq 320, 3) := by decide +kernel
theorem dL_law_860 : decode cL_law 860 = .ok (.iconst 0, 1) := by decide +kernel
theorem dL_law_861 : decode cL_law 861 = .ok (.ireturn, 1) := by decide +kernel
theorem dL_law_862 : decode cL_law 862 = .ok (.aload_n 1, 1) := by decide +kernel
theorem dL_law_863 : decode cL_law 863 = .ok (.invokevirtual 116, 3) := by decide +kernel
theorem dL_law_866 : decode cL_law 866 = .ok (.aload_n 2, 1) := by decide +kernel
theorem dL_law_867 : decode cL_law 867 = .ok (.invokevirtual 119, 3) := by decide +kernel
theorem dL_law_870 : decode cL_law 870 = .ok (.if_icmp .eq 307, 3) := by decide +kernel
theorem dL_law_873 : decode cL_law 873 = .ok (.iconst 0, 1) := by decide +kernel
theorem dL_law_874 : decode cL_law 874 = .ok (.ireturn, 1) := by decide +kernel
theorem dL_law_875 : decode cL_law 875 = .ok (.aload_n 1, 1) := by decide +kernel
theorem dL_law_876 : decode cL_law 876 = .ok (.aload_n 0, 1) := by decide +kernel
theorem dL_law_877 : decode cL_law 877 = .ok (.iload_n 3, 1) := by decide +kernel
theorem dL_law_878 : decode cL_law 878 = .ok (.iconst 1, 1) := by decide +kernel
theorem dL_law_879 : decode cL_law 879 = .ok (.iadd, 1) := by decide +kernel
theorem dL_law_880 : decode cL_law 880 = .ok (.iaload, 1) := by decide +kernel
theorem dL_law_881 : decode cL_law 881 = .ok (.aload_n 0, 1) := by decide +kernel
theorem dL_law_882 : decode cL_law 882 = .ok (.iload_n 3, 1) := by decide +kernel
theorem dL_law_883 : decode cL_law 883 = .ok (.iconst 2, 1) := by decide +kernel
theorem dL_law_884 : decode cL_law 884 = .ok (.iadd, 1) := by decide +kernel
theorem dL_law_885 : decode cL_law 885 = .ok (.iaload, 1) := by decide +kernel
theorem dL_law_886 : decode cL_law 886 = .ok (.aload_n 0, 1) := by decide +kernel
theorem dL_law_887 : decode cL_law 887 = .ok (.iload_n 3, 1) := by decide +kernel
theorem dL_law_888 : decode cL_law 888 = .ok (.iconst 3, 1) := by decide +kernel
theorem dL_law_889 : decode cL_law 889 = .ok (.iadd, 1) := by decide +kernel
theorem dL_law_890 : decode cL_law 890 = .ok (.iaload, 1) := by decide +kernel
theorem dL_law_891 : decode cL_law 891 = .ok (.ifCond .eq 7, 3) := by decide +kernel
theorem dL_law_894 : decode cL_law 894 = .ok (.iconst 1, 1) := by decide +kernel
theorem dL_law_895 : decode cL_law 895 = .ok (.goto 4, 3) := by decide +kernel
theorem dL_law_898 : decode cL_law 898 = .ok (.iconst 0, 1) := by decide +kernel
theorem dL_law_899 : decode cL_law 899 = .ok (.invokevirtual 120, 3) := by decide +kernel
theorem dL_law_902 : decode cL_law 902 = .ok (.aload_n 2, 1) := by decide +kernel
theorem dL_law_903 : decode cL_law 903 = .ok (.aload_n 0, 1) := by decide +kernel
theorem dL_law_904 : decode cL_law 904 = .ok (.iload_n 3, 1) := by decide +kernel
theorem dL_law_905 : decode cL_law 905 = .ok (.iconst 1, 1) := by decide +kernel
theorem dL_law_906 : decode cL_law 906 = .ok (.iadd, 1) := by decide +kernel
theorem dL_law_907 : decode cL_law 907 = .ok (.iaload, 1) := by decide +kernel
theorem dL_law_908 : decode cL_law 908 = .ok (.aload_n 0, 1) := by decide +kernel
theorem dL_law_909 : decode cL_law 909 = .ok (.iload_n 3, 1) := by decide +kernel
theorem dL_law_910 : decode cL_law 910 = .ok (.iconst 2, 1) := by decide +kernel
theorem dL_law_911 : decode cL_law 911 = .ok (.iadd, 1) := by decide +kernel
theorem dL_law_912 : decode cL_law 912 = .ok (.iaload, 1) := by decide +kernel
theorem dL_law_913 : decode cL_law 913 = .ok (.aload_n 0, 1) := by decide +kernel
theorem dL_law_914 : decode cL_law 914 = .ok (.iload_n 3, 1) := by decide +kernel
theorem dL_law_915 : decode cL_law 915 = .ok (.iconst 3, 1) := by decide +kernel
theorem dL_law_916 : decode cL_law 916 = .ok (.iadd, 1) := by decide +kernel
theorem dL_law_917 : decode cL_law 917 = .ok (.iaload, 1) := by decide +kernel
theorem dL_law_918 : decode cL_law 918 = .ok (.ifCond .eq 7, 3) := by decide +kernel
theorem dL_law_921 : decode cL_law 921 = .ok (.iconst 1, 1) := by decide +kernel
theorem dL_law_922 : decode cL_law 922 = .ok (.goto 4, 3) := by decide +kernel
theorem dL_law_925 : decode cL_law 925 = .ok (.iconst 0, 1) := by decide +kernel
theorem dL_law_926 : decode cL_law 926 = .ok (.invokevirtual 123, 3) := by decide +kernel
theorem dL_law_929 : decode cL_law 929 = .ok (.if_icmp .eq 248, 3) := by decide +kernel
theorem dL_law_932 : decode cL_law 932 = .ok (.iconst 0, 1) := by decide +kernel
theorem dL_law_933 : decode cL_law 933 = .ok (.ireturn, 1) := by decide +kernel
theorem dL_law_934 : decode cL_law 934 = .ok (.aload_n 1, 1) := by decide +kernel
theorem dL_law_935 : decode cL_law 935 = .ok (.invokevirtual 124, 3) := by decide +kernel
theorem dL_law_938 : decode cL_law 938 = .ok (.aload_n 2, 1) := by decide +kernel
theorem dL_law_939 : decode cL_law 939 = .ok (.invokevirtual 127, 3) := by decide +kernel
theorem dL_law_942 : decode cL_law 942 = .ok (.if_icmp .eq 235, 3) := by decide +kernel
theorem dL_law_945 : decode cL_law 945 = .ok (.iconst 0, 1) := by decide +kernel
theorem dL_law_946 : decode cL_law 946 = .ok (.ireturn, 1) := by decide +kernel
theorem dL_law_947 : decode cL_law 947 = .ok (.aload_n 1, 1) := by decide +kernel
theorem dL_law_948 : decode cL_law 948 = .ok (.aload_n 0, 1) := by decide +kernel
theorem dL_law_949 : decode cL_law 949 = .ok (.iload_n 3, 1) := by decide +kernel
theorem dL_law_950 : decode cL_law 950 = .ok (.iconst 1, 1) := by decide +kernel
theorem dL_law_951 : decode cL_law 951 = .ok (.iadd, 1) := by decide +kernel
theorem dL_law_952 : decode cL_law 952 = .ok (.iaload, 1) := by decide +kernel
theorem dL_law_953 : decode cL_law 953 = .ok (.aload_n 0, 1) := by decide +kernel
theorem dL_law_954 : decode cL_law 954 = .ok (.iload_n 3, 1) := by decide +kernel
theorem dL_law_955 : decode cL_law 955 = .ok (.iconst 2, 1) := by decide +kernel
theorem dL_law_956 : decode cL_law 956 = .ok (.iadd, 1) := by decide +kernel
theorem dL_law_957 : decode cL_law 957 = .ok (.iaload, 1) := by decide +kernel
theorem dL_law_958 : decode cL_law 958 = .ok (.aload_n 0, 1) := by decide +kernel
theorem dL_law_959 : decode cL_law 959 = .ok (.iload_n 3, 1) := by decide +kernel
theorem dL_law_960 : decode cL_law 960 = .ok (.iconst 3, 1) := by decide +kernel
theorem dL_law_961 : decode cL_law 961 = .ok (.iadd, 1) := by decide +kernel
theorem dL_law_962 : decode cL_law 962 = .ok (.iaload, 1) := by decide +kernel
theorem dL_law_963 : decode cL_law 963 = .ok (.aload_n 0, 1) := by decide +kernel
theorem dL_law_964 : decode cL_law 964 = .ok (.iload_n 3, 1) := by decide +kernel
theorem dL_law_965 : decode cL_law 965 = .ok (.iconst 4, 1) := by decide +kernel
theorem dL_law_966 : decode cL_law 966 = .ok (.iadd, 1) := by decide +kernel
theorem dL_law_967 : decode cL_law 967 = .ok (.iaload, 1) := by decide +kernel
theorem dL_law_968 : decode cL_law 968 = .ok (.invokevirtual 128, 3) := by decide +kernel
theorem dL_law_971 : decode cL_law 971 = .ok (.aload_n 2, 1) := by decide +kernel
theorem dL_law_972 : decode cL_law 972 = .ok (.aload_n 0, 1) := by decide +kernel
theorem dL_law_973 : decode cL_law 973 = .ok (.iload_n 3, 1) := by decide +kernel
theorem dL_law_974 : decode cL_law 974 = .ok (.iconst 1, 1) := by decide +kernel
theorem dL_law_975 : decode cL_law 975 = .ok (.iadd, 1) := by decide +kernel
theorem dL_law_976 : decode cL_law 976 = .ok (.iaload, 1) := by decide +kernel
theorem dL_law_977 : decode cL_law 977 = .ok (.aload_n 0, 1) := by decide +kernel
theorem dL_law_978 : decode cL_law 978 = .ok (.iload_n 3, 1) := by decide +kernel
theorem dL_law_979 : decode cL_law 979 = .ok (.iconst 2, 1) := by decide +kernel
theorem dL_law_980 : decode cL_law 980 = .ok (.iadd, 1) := by decide +kernel
theorem dL_law_981 : decode cL_law 981 = .ok (.iaload, 1) := by decide +kernel
theorem dL_law_982 : decode cL_law 982 = .ok (.aload_n 0, 1) := by decide +kernel
theorem dL_law_983 : decode cL_law 983 = .ok (.iload_n 3, 1) := by decide +kernel
theorem dL_law_984 : decode cL_law 984 = .ok (.iconst 3, 1) := by decide +kernel
theorem dL_law_985 : decode cL_law 985 = .ok (.iadd, 1) := by decide +kernel
theorem dL_law_986 : decode cL_law 986 = .ok (.iaload, 1) := by decide +kernel
theorem dL_law_987 : decode cL_law 987 = .ok (.aload_n 0, 1) := by decide +kernel
theorem dL_law_988 : decode cL_law 988 = .ok (.iload_n 3, 1) := by decide +kernel
theorem dL_law_989 : decode cL_law 989 = .ok (.iconst 4, 1) := by decide +kernel
theorem dL_law_990 : decode cL_law 990 = .ok (.iadd, 1) := by decide +kernel
theorem dL_law_991 : decode cL_law 991 = .ok (.iaload, 1) := by decide +kernel
theorem dL_law_992 : decode cL_law 992 = .ok (.invokevirtual 132, 3) := by decide +kernel
theorem dL_law_995 : decode cL_law 995 = .ok (.if_icmp .eq 182, 3) := by decide +kernel
theorem dL_law_998 : decode cL_law 998 = .ok (.iconst 0, 1) := by decide +kernel
theorem dL_law_999 : decode cL_law 999 = .ok (.ireturn, 1) := by decide +kernel
theorem dL_law_1000 : decode cL_law 1000 = .ok (.aload_n 1, 1) := by decide +kernel
theorem dL_law_1001 : decode cL_law 1001 = .ok (.aload_n 0, 1) := by decide +kernel
theorem dL_law_1002 : decode cL_law 1002 = .ok (.iload_n 3, 1) := by decide +kernel
theorem dL_law_1003 : decode cL_law 1003 = .ok (.iconst 1, 1) := by decide +kernel
theorem dL_law_1004 : decode cL_law 1004 = .ok (.iadd, 1) := by decide +kernel
theorem dL_law_1005 : decode cL_law 1005 = .ok (.iaload, 1) := by decide +kernel
theorem dL_law_1006 : decode cL_law 1006 = .ok (.aload_n 0, 1) := by decide +kernel
theorem dL_law_1007 : decode cL_law 1007 = .ok (.iload_n 3, 1) := by decide +kernel
theorem dL_law_1008 : decode cL_law 1008 = .ok (.iconst 2, 1) := by decide +kernel
theorem dL_law_1009 : decode cL_law 1009 = .ok (.iadd, 1) := by decide +kernel
theorem dL_law_1010 : decode cL_law 1010 = .ok (.iaload, 1) := by decide +kernel
theorem dL_law_1011 : decode cL_law 1011 = .ok (.invokevirtual 133, 3) := by decide +kernel
theorem dL_law_1014 : decode cL_law 1014 = .ok (.aload_n 2, 1) := by decide +kernel
theorem dL_law_1015 : decode cL_law 1015 = .ok (.aload_n 0, 1) := by decide +kernel
theorem dL_law_1016 : decode cL_law 1016 = .ok (.iload_n 3, 1) := by decide +kernel
theorem dL_law_1017 : decode cL_law 1017 = .ok (.iconst 1, 1) := by decide +kernel
theorem dL_law_1018 : decode cL_law 1018 = .ok (.iadd, 1) := by decide +kernel
theorem dL_law_1019 : decode cL_law 1019 = .ok (.iaload, 1) := by decide +kernel
theorem dL_law_1020 : decode cL_law 1020 = .ok (.aload_n 0, 1) := by decide +kernel
theorem dL_law_1021 : decode cL_law 1021 = .ok (.iload_n 3, 1) := by decide +kernel
theorem dL_law_1022 : decode cL_law 1022 = .ok (.iconst 2, 1) := by decide +kernel
theorem dL_law_1023 : decode cL_law 1023 = .ok (.iadd, 1) := by decide +kernel
theorem dL_law_1024 : decode cL_law 1024 = .ok (.iaload, 1) := by decide +kernel
theorem dL_law_1025 : decode cL_law 1025 = .ok (.invokevirtual 136, 3) := by decide +kernel
theorem dL_law_1028 : decode cL_law 1028 = .ok (.if_icmp .eq 149, 3) := by decide +kernel
theorem dL_law_1031 : decode cL_law 1031 = .ok (.iconst 0, 1) := by decide +kernel
theorem dL_law_1032 : decode cL_law 1032 = .ok (.ireturn, 1) := by decide +kernel
theorem dL_law_1033 : decode cL_law 1033 = .ok (.aload_n 1, 1) := by decide +kernel
theorem dL_law_1034 : decode cL_law 1034 = .ok (.aload_n 0, 1) := by decide +kernel
theorem dL_law_1035 : decode cL_law 1035 = .ok (.iload_n 3, 1) := by decide +kernel
theorem dL_law_1036 : decode cL_law 1036 = .ok (.iconst 1, 1) := by decide +kernel
theorem dL_law_1037 : decode cL_law 1037 = .ok (.iadd, 1) := by decide +kernel
theorem dL_law_1038 : decode cL_law 1038 = .ok (.iaload, 1) := by decide +kernel
theorem dL_law_1039 : decode cL_law 1039 = .ok (.aload_n 0, 1) := by decide +kernel
theorem dL_law_1040 : decode cL_law 1040 = .ok (.iload_n 3, 1) := by decide +kernel
theorem dL_law_1041 : decode cL_law 1041 = .ok (.iconst 2, 1) := by decide +kernel
theorem dL_law_1042 : decode cL_law 1042 = .ok (.iadd, 1) := by decide +kernel
theorem dL_law_1043 : decode cL_law 1043 = .ok (.iaload, 1) := by decide +kernel
theorem dL_law_1044 : decode cL_law 1044 = .ok (.aload_n 0, 1) := by decide +kernel
theorem dL_law_1045 : decode cL_law 1045 = .ok (.iload_n 3, 1) := by decide +kernel
theorem dL_law_1046 : decode cL_law 1046 = .ok (.iconst 3, 1) := by decide +kernel
theorem dL_law_1047 : decode cL_law 1047 = .ok (.iadd, 1) := by decide +kernel
theorem dL_law_1048 : decode cL_law 1048 = .ok (.iaload, 1) := by decide +kernel
theorem dL_law_1049 : decode cL_law 1049 = .ok (.invokevirtual 137, 3) := by decide +kernel
theorem dL_law_1052 : decode cL_law 1052 = .ok (.aload_n 2, 1) := by decide +kernel
theorem dL_law_1053 : decode cL_law 1053 = .ok (.aload_n 0, 1) := by decide +kernel
theorem dL_law_1054 : decode cL_law 1054 = .ok (.iload_n 3, 1) := by decide +kernel
theorem dL_law_1055 : decode cL_law 1055 = .ok (.iconst 1, 1) := by decide +kernel
theorem dL_law_1056 : decode cL_law 1056 = .ok (.iadd, 1) := by decide +kernel
theorem dL_law_1057 : decode cL_law 1057 = .ok (.iaload, 1) := by decide +kernel
theorem dL_law_1058 : decode cL_law 1058 = .ok (.aload_n 0, 1) := by decide +kernel
theorem dL_law_1059 : decode cL_law 1059 = .ok (.iload_n 3, 1) := by decide +kernel
theorem dL_law_1060 : decode cL_law 1060 = .ok (.iconst 2, 1) := by decide +kernel
theorem dL_law_1061 : decode cL_law 1061 = .ok (.iadd, 1) := by decide +kernel
theorem dL_law_1062 : decode cL_law 1062 = .ok (.iaload, 1) := by decide +kernel
theorem dL_law_1063 : decode cL_law 1063 = .ok (.aload_n 0, 1) := by decide +kernel
theorem dL_law_1064 : decode cL_law 1064 = .ok (.iload_n 3, 1) := by decide +kernel
theorem dL_law_1065 : decode cL_law 1065 = .ok (.iconst 3, 1) := by decide +kernel
theorem dL_law_1066 : decode cL_law 1066 = .ok (.iadd, 1) := by decide +kernel
theorem dL_law_1067 : decode cL_law 1067 = .ok (.iaload, 1) := by decide +kernel
theorem dL_law_1068 : decode cL_law 1068 = .ok (.invokevirtual 140, 3) := by decide +kernel
theorem dL_law_1071 : decode cL_law 1071 = .ok (.if_icmp .eq 106, 3) := by decide +kernel
theorem dL_law_1074 : decode cL_law 1074 = .ok (.iconst 0, 1) := by decide +kernel
theorem dL_law_1075 : decode cL_law 1075 = .ok (.ireturn, 1) := by decide +kernel
theorem dL_law_1076 : decode cL_law 1076 = .ok (.aload_n 1, 1) := by decide +kernel
theorem dL_law_1077 : decode cL_law 1077 = .ok (.aload_n 0, 1) := by decide +kernel
theorem dL_law_1078 : decode cL_law 1078 = .ok (.iload_n 3, 1) := by decide +kernel
theorem dL_law_1079 : decode cL_law 1079 = .ok (.iconst 1, 1) := by decide +kernel
theorem dL_law_1080 : decode cL_law 1080 = .ok (.iadd, 1) := by decide +kernel
theorem dL_law_1081 : decode cL_law 1081 = .ok (.iaload, 1) := by decide +kernel
theorem dL_law_1082 : decode cL_law 1082 = .ok (.invokevirtual 141, 3) := by decide +kernel
theorem dL_law_1085 : decode cL_law 1085 = .ok (.aload_n 2, 1) := by decide +kernel
theorem dL_law_1086 : decode cL_law 1086 = .ok (.aload_n 0, 1) := by decide +kernel
theorem dL_law_1087 : decode cL_law 1087 = .ok (.iload_n 3, 1) := by decide +kernel
theorem dL_law_1088 : decode cL_law 1088 = .ok (.iconst 1, 1) := by decide +kernel
theorem dL_law_1089 : decode cL_law 1089 = .ok (.iadd, 1) := by decide +kernel
theorem dL_law_1090 : decode cL_law 1090 = .ok (.iaload, 1) := by decide +kernel
theorem dL_law_1091 : decode cL_law 1091 = .ok (.invokevirtual 144, 3) := by decide +kernel
theorem dL_law_1094 : decode cL_law 1094 = .ok (.if_icmp .eq 83, 3) := by decide +kernel
theorem dL_law_1097 : decode cL_law 1097 = .ok (.iconst 0, 1) := by decide +kernel
theorem dL_law_1098 : decode cL_law 1098 = .ok (.ireturn, 1) := by decide +kernel
theorem dL_law_1099 : decode cL_law 1099 = .ok (.aload_n 1, 1) := by decide +kernel
theorem dL_law_1100 : decode cL_law 1100 = .ok (.invokevirtual 145, 3) := by decide +kernel
theorem dL_law_1103 : decode cL_law 1103 = .ok (.aload_n 2, 1) := by decide +kernel
theorem dL_law_1104 : decode cL_law 1104 = .ok (.invokevirtual 148, 3) := by decide +kernel
theorem dL_law_1107 : decode cL_law 1107 = .ok (.if_icmp .eq 70, 3) := by decide +kernel
theorem dL_law_1110 : decode cL_law 1110 = .ok (.iconst 0, 1) := by decide +kernel
theorem dL_law_1111 : decode cL_law 1111 = .ok (.ireturn, 1) := by decide +kernel
theorem dL_law_1112 : decode cL_law 1112 = .ok (.aload_n 1, 1) := by decide +kernel
theorem dL_law_1113 : decode cL_law 1113 = .ok (.invokevirtual 149, 3) := by decide +kernel
theorem dL_law_1116 : decode cL_law 1116 = .ok (.aload_n 2, 1) := by decide +kernel
theorem dL_law_1117 : decode cL_law 1117 = .ok (.invokevirtual 152, 3) := by decide +kernel
theorem dL_law_1120 : decode cL_law 1120 = .ok (.if_icmp .eq 57, 3) := by decide +kernel
theorem dL_law_1123 : decode cL_law 1123 = .ok (.iconst 0, 1) := by decide +kernel
theorem dL_law_1124 : decode cL_law 1124 = .ok (.ireturn, 1) := by decide +kernel
theorem dL_law_1125 : decode cL_law 1125 = .ok (.aload_n 1, 1) := by decide +kernel
theorem dL_law_1126 : decode cL_law 1126 = .ok (.invokevirtual 153, 3) := by decide +kernel
theorem dL_law_1129 : decode cL_law 1129 = .ok (.aload_n 2, 1) := by decide +kernel
theorem dL_law_1130 : decode cL_law 1130 = .ok (.invokevirtual 156, 3) := by decide +kernel
theorem dL_law_1133 : decode cL_law 1133 = .ok (.if_icmp .eq 44, 3) := by decide +kernel
theorem dL_law_1136 : decode cL_law 1136 = .ok (.iconst 0, 1) := by decide +kernel
theorem dL_law_1137 : decode cL_law 1137 = .ok (.ireturn, 1) := by decide +kernel
theorem dL_law_1138 : decode cL_law 1138 = .ok (.aload_n 1, 1) := by decide +kernel
theorem dL_law_1139 : decode cL_law 1139 = .ok (.invokevirtual 157, 3) := by decide +kernel
theorem dL_law_1142 : decode cL_law 1142 = .ok (.aload_n 2, 1) := by decide +kernel
theorem dL_law_1143 : decode cL_law 1143 = .ok (.invokevirtual 160, 3) := by decide +kernel
theorem dL_law_1146 : decode cL_law 1146 = .ok (.if_icmp .eq 31, 3) := by decide +kernel
theorem dL_law_1149 : decode cL_law 1149 = .ok (.iconst 0, 1) := by decide +kernel
theorem dL_law_1150 : decode cL_law 1150 = .ok (.ireturn, 1) := by decide +kernel
theorem dL_law_1151 : decode cL_law 1151 = .ok (.aload_n 1, 1) := by decide +kernel
theorem dL_law_1152 : decode cL_law 1152 = .ok (.invokevirtual 161, 3) := by decide +kernel
theorem dL_law_1155 : decode cL_law 1155 = .ok (.aload_n 2, 1) := by decide +kernel
theorem dL_law_1156 : decode cL_law 1156 = .ok (.invokevirtual 164, 3) := by decide +kernel
theorem dL_law_1159 : decode cL_law 1159 = .ok (.if_icmp .eq 18, 3) := by decide +kernel
theorem dL_law_1162 : decode cL_law 1162 = .ok (.iconst 0, 1) := by decide +kernel
theorem dL_law_1163 : decode cL_law 1163 = .ok (.ireturn, 1) := by decide +kernel
theorem dL_law_1164 : decode cL_law 1164 = .ok (.aload_n 1, 1) := by decide +kernel
theorem dL_law_1165 : decode cL_law 1165 = .ok (.invokevirtual 165, 3) := by decide +kernel
theorem dL_law_1168 : decode cL_law 1168 = .ok (.aload_n 2, 1) := by decide +kernel
theorem dL_law_1169 : decode cL_law 1169 = .ok (.invokevirtual 168, 3) := by decide +kernel
theorem dL_law_1172 : decode cL_law 1172 = .ok (.if_icmp .eq 5, 3) := by decide +kernel
theorem dL_law_1175 : decode cL_law 1175 = .ok (.iconst 0, 1) := by decide +kernel
theorem dL_law_1176 : decode cL_law 1176 = .ok (.ireturn, 1) := by decide +kernel
theorem dL_law_1177 : decode cL_law 1177 = .ok (.iinc 3 5, 3) := by decide +kernel
theorem dL_law_1180 : decode cL_law 1180 = .ok (.goto (-1162), 3) := by decide +kernel
theorem dL_law_1183 : decode cL_law 1183 = .ok (.iconst 1, 1) := by decide +kernel
theorem dL_law_1184 : decode cL_law 1184 = .ok (.ireturn, 1) := by decide +kernel
end
section
/-! ===== a small machine over whole numbers: values are Ints (kept modulo 2^32), cells have fixed numbers ("ids"), addresses are hidden ===== -/
abbrev MV : Type := Int ⊕ (Nat ⊕ (UInt32 ⊕ Int64))
abbrev Mem : Type := Nat → Int → Int
abbrev zI (z : Int) : MV := Sum.inl z
abbrev zR (k : Nat) : MV := Sum.inr (Sum.inl k)
abbrev zF (f : UInt32) : MV := Sum.inr (Sum.inr (Sum.inl f))
abbrev zL (x : Int64) : MV := Sum.inr (Sum.inr (Sum.inr x))
def iI (z : Int) : Int32 := Int32.ofInt z
def zen (ad : Nat → Nat) : MV → Value := fun v => match v with
  | .inl z => .int (iI z)
  | .inr (.inl k) => .ref (ad k)
  | .inr (.inr (.inl f)) => .float f
  | .inr (.inr (.inr x)) => .long x
def zcat : MV → Nat := fun v => match v with
  | .inr (.inr (.inr _)) => 2
  | _ => 1
theorem zcat_eq (ad : Nat → Nat) (v : MV) : (zen ad v).category = zcat v := by
  rcases v with z | k | f | x <;> rfl
def zup (M : Mem) (k : Nat) (z v : Int) : Mem := fun k' z' => if k' = k ∧ z' = z then v else M k' z'
/-- the objects: the class's number in vwCl, its fields (none: a number, some k: always a reference to cell k) -/
def ztm (k : Nat) : Option (Nat × List (Option Nat)) :=
  if k < 9 then some (3, [none, none, none, some (k + 9), some (k + 18)]) else match k with
  | 27 => some (5, [some 28, some 0, some 1, some 2, none, some 31, some 33, some 36])
  | 28 => some (1, [some 29, some 30])
  | 31 => some (0, [some 32, none])
  | 33 => some (2, [some 34, some 35, none, none])
  | 36 => some (4, [some 37, none, some 8, none, none, none, none])
  | 38 => some (6, [some 39, some 40, none, some 41, none, some 42, none, some 43, some 44, some 45, some 46, some 47, none, some 48, some 49, some 50, some 51, some 52, none, none, none, none])
  | _ => none
/-- the arrays: what kind (0 int, 1 boolean, 2 char, 3 State), how long -/
def zar (k : Nat) : Nat × Nat :=
  if k < 18 then (1, 144) else if k < 27 then (0, 144) else match k with
  | 29 => (0, 47)
  | 30 => (0, 256)
  | 32 => (3, 5)
  | 37 => (0, 80)
  | 39 => (0, 291)
  | 40 => (0, 1455)
  | 41 => (0, 291)
  | 42 => (2, 80)
  | 43 => (0, 47)
  | 44 => (0, 256)
  | 51 => (1, 144)
  | _ => (0, 144)
def zfv (ad : Nat → Nat) (M : Mem) (k : Nat) : Nat → Option Nat → Value := fun j o => match o with
  | none => .int (iI (M k j))
  | some k' => .ref (ad k')
def zce (ad : Nat → Nat) (dA : Nat → ClassId) (M : Mem) (k : Nat) : va_E := match ztm k with
  | some q => .inr (q.1, q.2.mapIdx (zfv ad M k))
  | none => if (zar k).1 = 3 then .inl (dA 3, (zar k).2, .inr (.inr (.inr (.inr (fun j => some (ad (M k j).toNat))))))
    else .inl (dA (zar k).1, (zar k).2, .inl (fun j => iI (M k j)))
def zWo (ids : List Nat) (ad : Nat → Nat) (dA : Nat → ClassId) (M : Mem) : va_W := ids.map fun k => (ad k, zce ad dA M k)
def zty (dA : Nat → ClassId) : List (ClassId × FieldType) := [(dA 0, .int), (dA 1, .boolean), (dA 2, .char), (dA 3, .object "CoastTiles$State")]
def zrow (j : Int) : Int := if j = 0 then -1 else if j = 1 then -1 else if j = 2 then 0 else if j = 3 then 1 else if j = 4 then 1 else if j = 5 then 1 else if j = 6 then 0 else -1
def zcol (j : Int) : Int := if j = 0 then 0 else if j = 1 then 1 else if j = 2 then 1 else if j = 3 then 1 else if j = 4 then 0 else if j = 5 then -1 else if j = 6 then -1 else -1
def zSta (A : Nat → Prop) (U : State) (H : Heap) : Prop := ∃ t1 t2 : Nat, va_Z "CoastTiles" "ROW_STEPS" "[I" (.ref t1) A U H ∧ va_T .int t1 8 (fun j => .int (iI (zrow j))) A U H ∧ va_Z "CoastTiles" "COLUMN_STEPS" "[I" (.ref t2) A U H ∧ va_T .int t2 8 (fun j => .int (iI (zcol j))) A U H
/-- the words that link private members across the nest -/
def zisN : Cond → Bool
  | .fieldLinkNest .. => true
  | .methodLinkNest .. => true
  | _ => false
def zNW : List Cond := lw_tbl.filter zisN
theorem zN_warm {s U : State} (hW : s.WarmedH U.vm) {w : Cond} (hw : w ∈ zNW) (h : va_Nw w s) : va_Nw w U := by
  have h1 : zisN w = true := (List.mem_filter.mp hw).2
  cases w <;> first | exact va_Nw.warmF hW h | exact va_Nw.warmM hW h | exact absurd h1 (by simp [zisN])
theorem zN_same {s U : State} (hvm : s.vm = U.vm) {w : Cond} (hw : w ∈ zNW) (h : va_Nw w s) : va_Nw w U := by
  have h1 : zisN w = true := (List.mem_filter.mp hw).2
  cases w <;> first | exact va_Nw.same rfl hvm h | exact absurd h1 (by simp [zisN])
theorem zN_use {s : State} {args : Array Value} {w : Cond} (hw : w ∈ zNW) (h : va_Nw w s) : w.before args s = true := by
  have h1 : zisN w = true := (List.mem_filter.mp hw).2
  cases w <;> first | exact va_Nw.use rfl h | exact absurd h1 (by simp [zisN])
/-- what a method is: its code, its locals, its answer's type, its class, its depth, the cells that it needs, whether it needs the static tables -/
abbrev Kp : Type := ByteArray × Nat × Option FieldType × String × Nat × (Nat → Bool) × Bool
abbrev CX : Type := Program × Launch × Env × Room × State × MethodId × Array Value × List Frame × Method × Code × va_G × (Nat → ClassId) × List Nat × (Nat → Nat) × (Nat → Prop) × (Nat × Nat) × Nat × (State → Prop)
def zJW (X : CX) (pc : Nat) (lv : List (Nat × MV)) (st : List MV) (M : Mem) : Prop := match X with
  | (p, l, e, R, s, m, args, below, meth, c, D, dA, ids, ad, A, cs, nL, Q) => ∀ (H : Heap) (locs : List Loc) (ls : Array Slot), va_P D vwCl (zWo ids ad dA M) H → va_S A s.heap H locs → lv_has ls nL (lv.map fun q => (q.1, zen ad q.2)) →
    W p l e R s m args below meth c H locs cs.1 cs.2 Q (F0 m pc ls (st.map (zen ad)))
def zCx (K : Kp) (X : CX) : Prop := match X with
  | (p, l, e, R, s, m, args, below, meth, c, D, dA, ids, ad, A, cs, nL, Q) => p.tables.exec = Jvm.exec ∧ c.code = K.1 ∧ c.maxLocals = nL ∧ meth.sig.returnType = K.2.2.1 ∧ meth.locks = false ∧ s.vm.findClass K.2.2.2.1 = some m.cls ∧
    (∀ w ∈ TB, w.before args s = true) ∧ va_K D vwCl (zty dA) s ∧ (∀ q, s.heap.size ≤ q → A q) ∧ (∀ i ∈ ids, A (ad i)) ∧ (∀ i ∈ ids, ∀ j ∈ ids, ad i = ad j → i = j) ∧ ids.Nodup ∧
    (∀ k, K.2.2.2.2.2.1 k = true → k ∈ ids) ∧ (K.2.2.2.2.2.2 = true → zSta A s s.heap) ∧ K.2.2.2.2.1 ≤ R.frames ∧ 35 * K.2.2.2.2.1 ≤ R.locals ∧ cs.1 ≤ R.cells ∧ cs.2 ≤ R.slots ∧ (∀ w ∈ zNW, va_Nw w s) ∧ nL = K.2.1
def zA (ids : List Nat) (ad : Nat → Nat) (sz : Nat) : Nat → Prop := fun q => (∃ i ∈ ids, q = ad i) ∨ sz ≤ q
def zQ (D : va_G) (dA : Nat → ClassId) (ids : List Nat) (ad : Nat → Nat) (Q : Option Int → Mem → Prop) (A : Nat → Prop) : Array Value → State → Outcome → State → Prop := fun _ st oc t =>
  (∃ (r : Option Int) (M : Mem), oc = .returned (r.map fun z => Value.int (iI z)) ∧ Q r M ∧ va_P D vwCl (zWo ids ad dA M) t.heap) ∧ va_F A st t
/-- the walk's end is a method's end -/
def zEnd (Q : Option Int → Mem → Prop) (X : CX) : Prop := match X with
  | (p, l, e, R, s, m, args, below, meth, c, D, dA, ids, ad, A, cs, nL, Z) => cs = (0, 0) ∧ Z = MQ below (zQ D dA ids ad Q A) args s 0 0 A
abbrev zRm (d : Nat) : Room := { frames := d, cells := 0, slots := 0, locals := 35 * d }
/-- a method's contract: from the cells M, with these arguments, it returns, and Q holds of the answer and the cells -/
def zCt (y : MethodName) (K : Kp) (As : List MV) (M : Mem) (Q : Option Int → Mem → Prop) : Prop := ∀ (l : Launch) (D : va_G) (dA : Nat → ClassId) (ids : List Nat) (ad : Nat → Nat) (sz : Nat),
  (∀ k, K.2.2.2.2.2.1 k = true → k ∈ ids) → ids.Nodup → (∀ i ∈ ids, ∀ j ∈ ids, ad i = ad j → i = j) →
  Met l y (.code y K.1 K.2.1 K.2.2.1 :: TB) (zRm K.2.2.2.2.1) (va_Pc (As.map (zen ad)) (fun U => U.heap.size = sz ∧ va_P D vwCl (zWo ids ad dA M) U.heap ∧ va_K D vwCl (zty dA) U ∧ (K.2.2.2.2.2.2 = true → zSta (zA ids ad sz) U U.heap) ∧ ∀ w ∈ zNW, va_Nw w U))
    (zQ D dA ids ad Q (zA ids ad sz)) 0 0 (zA ids ad sz)
def zargs : Nat → List MV → List (Nat × MV)
  | _, [] => []
  | n, v :: t => (n, v) :: zargs (if zcat v = 2 then n + 2 else n + 1) t
theorem zargs_map (ad : Nat → Nat) : ∀ (As : List MV) (n : Nat), (zargs n As).map (fun q => (q.1, zen ad q.2)) = lv_args n (As.map (zen ad))
  | [], n => rfl
  | v :: t, n => by
    have h := zargs_map ad t (if zcat v = 2 then n + 2 else n + 1)
    simp only [zargs, List.map_cons, h, lv_args, zcat_eq]
theorem zTB_in {args a' : Array Value} {s U : State} (hW : s.WarmedH U.vm) {w : Cond} (hw : w ∈ TB) (h : w.before args s = true) : w.before a' U = true :=
  word_at hW (good_of_word (List.mem_filter.mp hw).2) h
theorem zTB_good (w : Cond) (hw : w ∈ TB) : (w.onTables && w.keeps) = true ∨ ∃ ty, w = .arrayClass ty := good_of_word (List.mem_filter.mp hw).2
theorem zSta.moved {A : Nat → Prop} {u U : State} {H : Heap} (hvm : u.vm.Alike U.vm) (h : zSta A u H) : zSta A U H := by
  obtain ⟨t1, t2, h1, h2, h3, h4⟩ := h
  exact ⟨t1, t2, h1.moved hvm, h2.moved hvm, h3.moved hvm, h4.moved hvm⟩
theorem zSta.kept {A : Nat → Prop} {U : State} {H H1 : Heap} (h : zSta A U H) (hq : ∀ a : Nat, a < H.size → ¬ A a → H1[a]? = H[a]?) : zSta A U H1 := by
  obtain ⟨t1, t2, h1, h2, h3, h4⟩ := h
  exact ⟨t1, t2, h1.kept hq, h2.kept hq, h3.kept hq, h4.kept hq⟩
theorem zSta.narrow {A B : Nat → Prop} {U : State} {H : Heap} (h : zSta A U H) (hAB : ∀ q, B q → A q) : zSta B U H := by
  obtain ⟨t1, t2, h1, h2, h3, h4⟩ := h
  exact ⟨t1, t2, h1.narrow hAB, h2.narrow hAB, h3.narrow hAB, h4.narrow hAB⟩
theorem zWo_len (ids : List Nat) (ad : Nat → Nat) (dA : Nat → ClassId) (M : Mem) : (zWo ids ad dA M).length = ids.length := by simp [zWo]
theorem zWo_get (ids : List Nat) (ad : Nat → Nat) (dA : Nat → ClassId) (M : Mem) (q : Nat) : (zWo ids ad dA M)[q]? = (ids[q]?).map fun k => (ad k, zce ad dA M k) := by simp [zWo]
theorem zWo_at {ids : List Nat} {k : Nat} (hk : k ∈ ids) (ad : Nat → Nat) (dA : Nat → ClassId) (M : Mem) : ∃ q : Nat, ids[q]? = some k ∧ (zWo ids ad dA M)[q]? = some (ad k, zce ad dA M k) := by
  obtain ⟨q, hq⟩ := List.getElem?_of_mem hk
  exact ⟨q, hq, by rw [zWo_get, hq]; rfl⟩
theorem zWo_set {ids : List Nat} (hn : ids.Nodup) {q k : Nat} (hq : ids[q]? = some k) {ad : Nat → Nat} {dA : Nat → ClassId} {M M' : Mem} (hM : ∀ i, i ≠ k → zce ad dA M' i = zce ad dA M i) : (zWo ids ad dA M).set q (ad k, zce ad dA M' k) = zWo ids ad dA M' := by
  apply List.ext_getElem?
  intro j
  rw [zWo_get, List.getElem?_set]
  have hlt : q < ids.length := (List.getElem?_eq_some_iff.mp hq).1
  by_cases hj : q = j
  · subst hj
    rw [if_pos rfl, if_pos (by rw [zWo_len]; exact hlt), hq]
    rfl
  · rw [if_neg hj, zWo_get]
    cases hi : ids[j]? with
    | none => rfl
    | some i =>
      have hne : i ≠ k := by
        intro e
        subst e
        exact hj ((List.getElem?_inj hlt hn).mp (hq.trans hi.symm))
      simp [hM i hne]
theorem zWo_D {ids : List Nat} {ad : Nat → Nat} {A : Nat → Prop} (hA : ∀ i ∈ ids, A (ad i)) (hinj : ∀ i ∈ ids, ∀ j ∈ ids, ad i = ad j → i = j) (hn : ids.Nodup) (dA : Nat → ClassId) (M : Mem) : va_D A (zWo ids ad dA M) := by
  refine ⟨fun i j p q hi hj hpq => ?_, fun k q hk => ?_⟩
  · rw [zWo_get] at hi hj
    obtain ⟨a, ha, rfl⟩ := Option.map_eq_some_iff.mp hi
    obtain ⟨b, hb, rfl⟩ := Option.map_eq_some_iff.mp hj
    have hab := hinj a (List.mem_of_getElem? ha) b (List.mem_of_getElem? hb) hpq
    subst hab
    exact (List.getElem?_inj (List.getElem?_eq_some_iff.mp ha).1 hn).mp (ha.trans hb.symm)
  · rw [zWo_get] at hk
    obtain ⟨a, ha, rfl⟩ := Option.map_eq_some_iff.mp hk
    exact hA a (List.mem_of_getElem? ha)
theorem iI_val (x : Int32) : iI x.toInt = x := by simp [iI]
theorem iI_toInt {z : Int} (h : -2147483648 ≤ z ∧ z < 2147483648) : (iI z).toInt = z := by
  unfold iI
  rw [Int32.toInt_ofInt]
  show z.bmod 4294967296 = z
  exact Int.bmod_eq_of_le (by omega) (by omega)
theorem iI_add (a b : Int) : iI a + iI b = iI (a + b) := by simp [iI, Int32.ofInt_add]
theorem iI_sub (a b : Int) : iI a - iI b = iI (a - b) := by simp [iI, Int32.ofInt_sub]
theorem iI_mul (a b : Int) : iI a * iI b = iI (a * b) := by simp [iI, Int32.ofInt_mul]
theorem iI_neg (a : Int) : -iI a = iI (-a) := by simp [iI, Int32.ofInt_neg]
theorem iI_nI (n : Nat) : iI (n : Int) = nI n := by
  unfold iI nI
  rw [Int32.ofInt_eq_ofNat]
theorem iI_lt {a b : Int} (h : -2147483648 ≤ a ∧ a < 2147483648 ∧ -2147483648 ≤ b ∧ b < 2147483648) : iI a < iI b ↔ a < b := by
  rw [Int32.lt_iff_toInt_lt, iI_toInt ⟨h.1, h.2.1⟩, iI_toInt h.2.2]
theorem iI_le {a b : Int} (h : -2147483648 ≤ a ∧ a < 2147483648 ∧ -2147483648 ≤ b ∧ b < 2147483648) : iI a ≤ iI b ↔ a ≤ b := by
  rw [Int32.le_iff_toInt_le, iI_toInt ⟨h.1, h.2.1⟩, iI_toInt h.2.2]
theorem iI_eq {a b : Int} (h : -2147483648 ≤ a ∧ a < 2147483648 ∧ -2147483648 ≤ b ∧ b < 2147483648) : iI a = iI b ↔ a = b := by
  rw [← Int32.toInt_inj, iI_toInt ⟨h.1, h.2.1⟩, iI_toInt h.2.2]
theorem iI_in {z : Int} {n : Nat} (h0 : 0 ≤ z) (h1 : z < n) (hn : n < 2147483648) : vp_in (iI z) n ∧ (((iI z).toNatClampNeg : Nat) : Int) = z := by
  obtain ⟨k, rfl⟩ := Int.eq_ofNat_of_zero_le h0
  have hk : k < n := by omega
  rw [iI_nI]
  exact ⟨vp_in_nI hk (by omega), by rw [nI_clamp (by omega)]⟩
def zan (a b : Int) : Int := (iI a &&& iI b).toInt
def zor (a b : Int) : Int := (iI a ||| iI b).toInt
def zxr (a b : Int) : Int := (iI a ^^^ iI b).toInt
def zsl (a b : Int) : Int := (iI a <<< (iI b &&& 31)).toInt
def zsr (a b : Int) : Int := (iI a >>> (iI b &&& 31)).toInt
def zus (a b : Int) : Int := ((iI a).toUInt32 >>> ((iI b).toUInt32 &&& Int32.toUInt32 31)).toInt32.toInt
def zch (a : Int) : Int := ((iI a).toUInt32 % 65536).toInt32.toInt
theorem zdiv {a b : Int} (ha : 0 ≤ a ∧ a < 2147483648) (hb : 0 < b ∧ b < 2147483648) : iI a / iI b = iI (a / b) ∧ iI a - iI a / iI b * iI b = iI (a % b) ∧ ¬ iI b = 0 := by
  obtain ⟨x, rfl⟩ := Int.eq_ofNat_of_zero_le ha.1
  obtain ⟨y, rfl⟩ := Int.eq_ofNat_of_zero_le (by omega : 0 ≤ b)
  have e1 : ((x : Int) / (y : Int)) = ((x / y : Nat) : Int) := rfl
  have e2 : ((x : Int) % (y : Int)) = ((x % y : Nat) : Int) := rfl
  rw [e1, e2, iI_nI, iI_nI, iI_nI, iI_nI]
  exact ⟨pk_div (by omega) (by omega) (by omega), pk_rem (by omega) (by omega) (by omega), nI_ne0 (by omega) (by omega)⟩
end
section
section ZR
variable {K : Kp} {X : CX} {pc : Nat} {lv lv' : List (Nat × MV)} {st : List MV} {M M' : Mem}
theorem zJW_eq {lv' : List (Nat × MV)} {st' : List MV} {M' : Mem} (h1 : lv = lv') (h2 : st = st') (h3 : M = M') (k : zJW X pc lv' st' M') : zJW X pc lv st M := by subst h1 h2 h3; exact k
theorem zJW_sub (ks : List Nat) (hl : ks.filterMap (fun k => lv[k]?) = lv') (k : zJW X pc lv' st M) : zJW X pc lv st M := by
  obtain ⟨p, l, e, R, s, m, args, below, meth, c, D, dA, ids, ad, A, cs, nL, Q⟩ := X
  intro H locs ls hP hS hv
  refine k H locs ls hP hS ⟨hv.1, hv.2.1, fun q hq => ?_⟩
  obtain ⟨q', hq', rfl⟩ := List.mem_map.mp hq
  rw [← hl] at hq'
  obtain ⟨i, -, hi⟩ := List.mem_filterMap.mp hq'
  exact hv.2.2 _ (List.mem_map.mpr ⟨q', List.mem_of_getElem? hi, rfl⟩)
theorem zlv_at {ad : Nat → Nat} {nL : Nat} {ls : Array Slot} (h : lv_has ls nL (lv.map fun q => (q.1, zen ad q.2))) {i : Nat} {v : MV} (n : Nat) (hn : lv[n]? = some (i, v)) : ls[i]? = some (.val (zen ad v)) :=
  h.2.2 (i, zen ad v) (List.mem_map.mpr ⟨(i, v), List.mem_of_getElem? hn, rfl⟩)
def zset (i : Nat) (v : MV) (lv : List (Nat × MV)) : List (Nat × MV) := (i, v) :: lv.filter (fun q => !(q.1 == i) && !(q.1 + 1 == i && zcat q.2 == 2))
def zset2 (i : Nat) (v : MV) (lv : List (Nat × MV)) : List (Nat × MV) := (i, v) :: lv.filter (fun q => !(q.1 == i) && (!(q.1 == i + 1) && !(q.1 + 1 == i && zcat q.2 == 2)))
theorem zset_map (ad : Nat → Nat) (i : Nat) (v : MV) (lv : List (Nat × MV)) : (i, zen ad v) :: (lv.map fun q => (q.1, zen ad q.2)).filter (fun q => !(q.1 == i) && !(q.1 + 1 == i && q.2.category == 2)) = (zset i v lv).map (fun q => (q.1, zen ad q.2)) := by
  rw [List.filter_map]
  simp only [zset, List.map_cons, Function.comp_def, zcat_eq]
theorem zset2_map (ad : Nat → Nat) (i : Nat) (v : MV) (lv : List (Nat × MV)) : (i, zen ad v) :: (lv.map fun q => (q.1, zen ad q.2)).filter (fun q => !(q.1 == i) && (!(q.1 == i + 1) && !(q.1 + 1 == i && q.2.category == 2))) = (zset2 i v lv).map (fun q => (q.1, zen ad q.2)) := by
  rw [List.filter_map]
  simp only [zset2, List.map_cons, Function.comp_def, zcat_eq]
-- constants
theorem z_iconst (hc : zCx K X) (n : Int) (dg : decode K.1 pc = .ok (.iconst n, 1)) (k : zJW X (pc + 1) lv (zI n :: st) M) : zJW X pc lv st M := by
  obtain ⟨p, l, e, R, s, m, args, below, meth, c, D, dA, ids, ad, A, cs, nL, Q⟩ := X
  obtain ⟨hx, hb, -⟩ := hc
  intro H locs ls hP hS hv
  exact lv_iconst hx hb dg rfl (k H locs ls hP hS hv)
theorem z_bipush (hc : zCx K X) (n : Int) (hn : (Int8.ofInt n).toInt32 = iI n) (dg : decode K.1 pc = .ok (.bipush n, 2)) (k : zJW X (pc + 2) lv (zI n :: st) M) : zJW X pc lv st M := by
  obtain ⟨p, l, e, R, s, m, args, below, meth, c, D, dA, ids, ad, A, cs, nL, Q⟩ := X
  obtain ⟨hx, hb, -⟩ := hc
  intro H locs ls hP hS hv
  exact lv_bipush hx hb dg hn (k H locs ls hP hS hv)
theorem z_sipush (hc : zCx K X) (n : Int) (hn : (Int16.ofInt n).toInt32 = iI n) (dg : decode K.1 pc = .ok (.sipush n, 3)) (k : zJW X (pc + 3) lv (zI n :: st) M) : zJW X pc lv st M := by
  obtain ⟨p, l, e, R, s, m, args, below, meth, c, D, dA, ids, ad, A, cs, nL, Q⟩ := X
  obtain ⟨hx, hb, -⟩ := hc
  intro H locs ls hP hS hv
  exact lv_sipush hx hb dg hn (k H locs ls hP hS hv)
theorem z_ldc (hc : zCx K X) (n : Int) {index : Nat} (hw : Cond.constant K.2.2.2.1 index (iI n) ∈ TB) (dg : decode K.1 pc = .ok (.ldc index, 2)) (k : zJW X (pc + 2) lv (zI n :: st) M) : zJW X pc lv st M := by
  obtain ⟨p, l, e, R, s, m, args, below, meth, c, D, dA, ids, ad, A, cs, nL, Q⟩ := X
  obtain ⟨hx, hb, -, -, -, hown, hts, -⟩ := hc
  intro H locs ls hP hS hv
  exact lv_ldc hx hb hown (hts _ hw) dg (k H locs ls hP hS hv)
theorem z_ldcw (hc : zCx K X) (n : Int) {index : Nat} (hw : Cond.constant K.2.2.2.1 index (iI n) ∈ TB) (dg : decode K.1 pc = .ok (.ldc_w index, 3)) (k : zJW X (pc + 3) lv (zI n :: st) M) : zJW X pc lv st M := by
  obtain ⟨p, l, e, R, s, m, args, below, meth, c, D, dA, ids, ad, A, cs, nL, Q⟩ := X
  obtain ⟨hx, hb, -, -, -, hown, hts, -⟩ := hc
  intro H locs ls hP hS hv
  exact lv_ldcw hx hb hown (hts _ hw) dg (k H locs ls hP hS hv)
theorem z_ldcf (hc : zCx K X) (n : UInt32) {index : Nat} (hw : Cond.constantFloat K.2.2.2.1 index n ∈ TB) (dg : decode K.1 pc = .ok (.ldc index, 2)) (k : zJW X (pc + 2) lv (zF n :: st) M) : zJW X pc lv st M := by
  obtain ⟨p, l, e, R, s, m, args, below, meth, c, D, dA, ids, ad, A, cs, nL, Q⟩ := X
  obtain ⟨hx, hb, -, -, -, hown, hts, -⟩ := hc
  intro H locs ls hP hS hv
  exact lv_ldcf hx hb hown (hts _ hw) dg (k H locs ls hP hS hv)
theorem z_ldc2 (hc : zCx K X) (n : Int64) {index : Nat} (hw : Cond.constantLong K.2.2.2.1 index n ∈ TB) (dg : decode K.1 pc = .ok (.ldc2_w index, 3)) (k : zJW X (pc + 3) lv (zL n :: st) M) : zJW X pc lv st M := by
  obtain ⟨p, l, e, R, s, m, args, below, meth, c, D, dA, ids, ad, A, cs, nL, Q⟩ := X
  obtain ⟨hx, hb, -, -, -, hown, hts, -⟩ := hc
  intro H locs ls hP hS hv
  exact lv_ldc2 hx hb hown (hts _ hw) dg (k H locs ls hP hS hv)
theorem z_lconst (hc : zCx K X) (n : Fin 2) (v : Int64) (hn : Int64.ofNat (n : Nat) = v) (dg : decode K.1 pc = .ok (.lconst n, 1)) (k : zJW X (pc + 1) lv (zL v :: st) M) : zJW X pc lv st M := by
  obtain ⟨p, l, e, R, s, m, args, below, meth, c, D, dA, ids, ad, A, cs, nL, Q⟩ := X
  obtain ⟨hx, hb, -⟩ := hc
  intro H locs ls hP hS hv
  exact lv_lconst hx hb dg hn (k H locs ls hP hS hv)
-- loads: of any kind, by the place n in the list of locals
theorem z_ild (hc : zCx K X) {q : Fin 4} {x : Int} (n : Nat) (hn : lv[n]? = some ((q : Nat), zI x)) (dg : decode K.1 pc = .ok (.iload_n q, 1)) (k : zJW X (pc + 1) lv (zI x :: st) M) : zJW X pc lv st M := by
  obtain ⟨p, l, e, R, s, m, args, below, meth, c, D, dA, ids, ad, A, cs, nL, Q⟩ := X
  obtain ⟨hx, hb, -⟩ := hc
  intro H locs ls hP hS hv
  exact lv_iload_n hx hb dg rfl (zlv_at hv n hn) (k H locs ls hP hS hv)
theorem z_ilw (hc : zCx K X) {q : Nat} {x : Int} (n : Nat) (hn : lv[n]? = some (q, zI x)) (dg : decode K.1 pc = .ok (.iload q, 2)) (k : zJW X (pc + 2) lv (zI x :: st) M) : zJW X pc lv st M := by
  obtain ⟨p, l, e, R, s, m, args, below, meth, c, D, dA, ids, ad, A, cs, nL, Q⟩ := X
  obtain ⟨hx, hb, -⟩ := hc
  intro H locs ls hP hS hv
  exact lv_iload hx hb dg (zlv_at hv n hn) (k H locs ls hP hS hv)
theorem z_ald (hc : zCx K X) {q : Fin 4} {x : Nat} (n : Nat) (hn : lv[n]? = some ((q : Nat), zR x)) (dg : decode K.1 pc = .ok (.aload_n q, 1)) (k : zJW X (pc + 1) lv (zR x :: st) M) : zJW X pc lv st M := by
  obtain ⟨p, l, e, R, s, m, args, below, meth, c, D, dA, ids, ad, A, cs, nL, Q⟩ := X
  obtain ⟨hx, hb, -⟩ := hc
  intro H locs ls hP hS hv
  exact lv_aload_n hx hb dg rfl (zlv_at hv n hn) (k H locs ls hP hS hv)
theorem z_fld (hc : zCx K X) {q : Fin 4} {x : UInt32} (n : Nat) (hn : lv[n]? = some ((q : Nat), zF x)) (dg : decode K.1 pc = .ok (.fload_n q, 1)) (k : zJW X (pc + 1) lv (zF x :: st) M) : zJW X pc lv st M := by
  obtain ⟨p, l, e, R, s, m, args, below, meth, c, D, dA, ids, ad, A, cs, nL, Q⟩ := X
  obtain ⟨hx, hb, -⟩ := hc
  intro H locs ls hP hS hv
  exact lv_fload_n hx hb dg rfl (zlv_at hv n hn) (k H locs ls hP hS hv)
theorem z_lld (hc : zCx K X) {q : Fin 4} {x : Int64} (n : Nat) (hn : lv[n]? = some ((q : Nat), zL x)) (dg : decode K.1 pc = .ok (.lload_n q, 1)) (k : zJW X (pc + 1) lv (zL x :: st) M) : zJW X pc lv st M := by
  obtain ⟨p, l, e, R, s, m, args, below, meth, c, D, dA, ids, ad, A, cs, nL, Q⟩ := X
  obtain ⟨hx, hb, -⟩ := hc
  intro H locs ls hP hS hv
  exact lv_lload_n hx hb dg rfl (zlv_at hv n hn) (k H locs ls hP hS hv)
-- stores
theorem z_ist (hc : zCx K X) {q : Fin 4} {x : Int} (hl : zset q (zI x) lv = lv') (hq : (q : Nat) < K.2.1) (dg : decode K.1 pc = .ok (.istore_n q, 1)) (k : zJW X (pc + 1) lv' st M) : zJW X pc lv (zI x :: st) M := by
  obtain ⟨p, l, e, R, s, m, args, below, meth, c, D, dA, ids, ad, A, cs, nL, Q⟩ := X
  obtain ⟨hx, hb, -, -, -, -, -, -, -, -, -, -, -, -, -, -, -, -, -, hnl⟩ := hc
  intro H locs ls hP hS hv
  exact lv_istore_n hx hb dg rfl hv (by omega) ((zset_map ad q (zI x) lv).trans (by rw [hl])) (fun ls' h' => k H locs ls' hP hS h')
theorem z_isw (hc : zCx K X) {q : Nat} {x : Int} (hl : zset q (zI x) lv = lv') (hq : q < K.2.1) (dg : decode K.1 pc = .ok (.istore q, 2)) (k : zJW X (pc + 2) lv' st M) : zJW X pc lv (zI x :: st) M := by
  obtain ⟨p, l, e, R, s, m, args, below, meth, c, D, dA, ids, ad, A, cs, nL, Q⟩ := X
  obtain ⟨hx, hb, -, -, -, -, -, -, -, -, -, -, -, -, -, -, -, -, -, hnl⟩ := hc
  intro H locs ls hP hS hv
  exact lv_istore hx hb dg hv (by omega) ((zset_map ad q (zI x) lv).trans (by rw [hl])) (fun ls' h' => k H locs ls' hP hS h')
theorem z_ast (hc : zCx K X) {q : Fin 4} {x : Nat} (hl : zset q (zR x) lv = lv') (hq : (q : Nat) < K.2.1) (dg : decode K.1 pc = .ok (.astore_n q, 1)) (k : zJW X (pc + 1) lv' st M) : zJW X pc lv (zR x :: st) M := by
  obtain ⟨p, l, e, R, s, m, args, below, meth, c, D, dA, ids, ad, A, cs, nL, Q⟩ := X
  obtain ⟨hx, hb, -, -, -, -, -, -, -, -, -, -, -, -, -, -, -, -, -, hnl⟩ := hc
  intro H locs ls hP hS hv
  exact lv_astore_n hx hb dg rfl hv (by omega) ((zset_map ad q (zR x) lv).trans (by rw [hl])) (fun ls' h' => k H locs ls' hP hS h')
theorem z_fst (hc : zCx K X) {q : Fin 4} {x : UInt32} (hl : zset q (zF x) lv = lv') (hq : (q : Nat) < K.2.1) (dg : decode K.1 pc = .ok (.fstore_n q, 1)) (k : zJW X (pc + 1) lv' st M) : zJW X pc lv (zF x :: st) M := by
  obtain ⟨p, l, e, R, s, m, args, below, meth, c, D, dA, ids, ad, A, cs, nL, Q⟩ := X
  obtain ⟨hx, hb, -, -, -, -, -, -, -, -, -, -, -, -, -, -, -, -, -, hnl⟩ := hc
  intro H locs ls hP hS hv
  exact lv_fstore_n hx hb dg rfl hv (by omega) ((zset_map ad q (zF x) lv).trans (by rw [hl])) (fun ls' h' => k H locs ls' hP hS h')
theorem z_lst (hc : zCx K X) {q : Fin 4} {x : Int64} (hl : zset2 q (zL x) lv = lv') (hq : (q : Nat) + 1 < K.2.1) (dg : decode K.1 pc = .ok (.lstore_n q, 1)) (k : zJW X (pc + 1) lv' st M) : zJW X pc lv (zL x :: st) M := by
  obtain ⟨p, l, e, R, s, m, args, below, meth, c, D, dA, ids, ad, A, cs, nL, Q⟩ := X
  obtain ⟨hx, hb, -, -, -, -, -, -, -, -, -, -, -, -, -, -, -, -, -, hnl⟩ := hc
  intro H locs ls hP hS hv
  exact lv_lstore_n hx hb dg rfl hv (by omega) ((zset2_map ad q (zL x) lv).trans (by rw [hl])) (fun ls' h' => k H locs ls' hP hS h')
theorem z_iinc (hc : zCx K X) {q : Nat} {n x : Int} (i : Nat) (hi : lv[i]? = some (q, zI x)) (hl : zset q (zI (x + n)) lv = lv') (hq : q < K.2.1) (dg : decode K.1 pc = .ok (.iinc q n, 3)) (k : zJW X (pc + 3) lv' st M) : zJW X pc lv st M := by
  obtain ⟨p, l, e, R, s, m, args, below, meth, c, D, dA, ids, ad, A, cs, nL, Q⟩ := X
  obtain ⟨hx, hb, -, -, -, -, -, -, -, -, -, -, -, -, -, -, -, -, -, hnl⟩ := hc
  intro H locs ls hP hS hv
  exact lv_iinc hx hb dg hv (k := i) (x := iI x) (v := iI (x + n)) (by rw [List.getElem?_map, hi]; rfl) (iI_add x n) (by omega) ((zset_map ad q (zI (x + n)) lv).trans (by rw [hl])) (fun ls' h' => k H locs ls' hP hS h')
-- arithmetic
theorem z_iadd (hc : zCx K X) {a b : Int} (dg : decode K.1 pc = .ok (.iadd, 1)) (k : zJW X (pc + 1) lv (zI (a + b) :: st) M) : zJW X pc lv (zI b :: zI a :: st) M := by
  obtain ⟨p, l, e, R, s, m, args, below, meth, c, D, dA, ids, ad, A, cs, nL, Q⟩ := X
  obtain ⟨hx, hb, -⟩ := hc
  intro H locs ls hP hS hv
  refine lv_iadd hx hb dg ?_
  rw [iI_add]
  exact k H locs ls hP hS hv
theorem z_isub (hc : zCx K X) {a b : Int} (dg : decode K.1 pc = .ok (.isub, 1)) (k : zJW X (pc + 1) lv (zI (a - b) :: st) M) : zJW X pc lv (zI b :: zI a :: st) M := by
  obtain ⟨p, l, e, R, s, m, args, below, meth, c, D, dA, ids, ad, A, cs, nL, Q⟩ := X
  obtain ⟨hx, hb, -⟩ := hc
  intro H locs ls hP hS hv
  refine lv_isub hx hb dg ?_
  rw [iI_sub]
  exact k H locs ls hP hS hv
theorem z_imul (hc : zCx K X) {a b : Int} (dg : decode K.1 pc = .ok (.imul, 1)) (k : zJW X (pc + 1) lv (zI (a * b) :: st) M) : zJW X pc lv (zI b :: zI a :: st) M := by
  obtain ⟨p, l, e, R, s, m, args, below, meth, c, D, dA, ids, ad, A, cs, nL, Q⟩ := X
  obtain ⟨hx, hb, -⟩ := hc
  intro H locs ls hP hS hv
  refine lv_imul hx hb dg ?_
  rw [iI_mul]
  exact k H locs ls hP hS hv
theorem z_ineg (hc : zCx K X) {a : Int} (dg : decode K.1 pc = .ok (.ineg, 1)) (k : zJW X (pc + 1) lv (zI (-a) :: st) M) : zJW X pc lv (zI a :: st) M := by
  obtain ⟨p, l, e, R, s, m, args, below, meth, c, D, dA, ids, ad, A, cs, nL, Q⟩ := X
  obtain ⟨hx, hb, -⟩ := hc
  intro H locs ls hP hS hv
  refine lv_ineg hx hb dg ?_
  rw [iI_neg]
  exact k H locs ls hP hS hv
theorem z_idiv (hc : zCx K X) {a b : Int} (h : 0 ≤ a ∧ a < 2147483648 ∧ 0 < b ∧ b < 2147483648) (dg : decode K.1 pc = .ok (.idiv, 1)) (k : zJW X (pc + 1) lv (zI (a / b) :: st) M) : zJW X pc lv (zI b :: zI a :: st) M := by
  obtain ⟨p, l, e, R, s, m, args, below, meth, c, D, dA, ids, ad, A, cs, nL, Q⟩ := X
  obtain ⟨hx, hb, -⟩ := hc
  obtain ⟨e1, e2, e3⟩ := zdiv ⟨h.1, h.2.1⟩ h.2.2
  intro H locs ls hP hS hv
  refine lv_idiv hx hb dg e3 ?_
  rw [e1]
  exact k H locs ls hP hS hv
theorem z_irem (hc : zCx K X) {a b : Int} (h : 0 ≤ a ∧ a < 2147483648 ∧ 0 < b ∧ b < 2147483648) (dg : decode K.1 pc = .ok (.irem, 1)) (k : zJW X (pc + 1) lv (zI (a % b) :: st) M) : zJW X pc lv (zI b :: zI a :: st) M := by
  obtain ⟨p, l, e, R, s, m, args, below, meth, c, D, dA, ids, ad, A, cs, nL, Q⟩ := X
  obtain ⟨hx, hb, -⟩ := hc
  obtain ⟨e1, e2, e3⟩ := zdiv ⟨h.1, h.2.1⟩ h.2.2
  intro H locs ls hP hS hv
  refine lv_irem hx hb dg e3 ?_
  rw [e2]
  exact k H locs ls hP hS hv
theorem z_iand (hc : zCx K X) {a b : Int} (dg : decode K.1 pc = .ok (.iand, 1)) (k : zJW X (pc + 1) lv (zI (zan a b) :: st) M) : zJW X pc lv (zI b :: zI a :: st) M := by
  obtain ⟨p, l, e, R, s, m, args, below, meth, c, D, dA, ids, ad, A, cs, nL, Q⟩ := X
  obtain ⟨hx, hb, -⟩ := hc
  intro H locs ls hP hS hv
  refine lv_iand hx hb dg ?_
  rw [← iI_val (iI a &&& iI b)]
  exact k H locs ls hP hS hv
theorem z_ior (hc : zCx K X) {a b : Int} (dg : decode K.1 pc = .ok (.ior, 1)) (k : zJW X (pc + 1) lv (zI (zor a b) :: st) M) : zJW X pc lv (zI b :: zI a :: st) M := by
  obtain ⟨p, l, e, R, s, m, args, below, meth, c, D, dA, ids, ad, A, cs, nL, Q⟩ := X
  obtain ⟨hx, hb, -⟩ := hc
  intro H locs ls hP hS hv
  refine lv_ior hx hb dg ?_
  rw [← iI_val (iI a ||| iI b)]
  exact k H locs ls hP hS hv
theorem z_ixor (hc : zCx K X) {a b : Int} (dg : decode K.1 pc = .ok (.ixor, 1)) (k : zJW X (pc + 1) lv (zI (zxr a b) :: st) M) : zJW X pc lv (zI b :: zI a :: st) M := by
  obtain ⟨p, l, e, R, s, m, args, below, meth, c, D, dA, ids, ad, A, cs, nL, Q⟩ := X
  obtain ⟨hx, hb, -⟩ := hc
  intro H locs ls hP hS hv
  refine lv_ixor hx hb dg ?_
  rw [← iI_val (iI a ^^^ iI b)]
  exact k H locs ls hP hS hv
theorem z_ishl (hc : zCx K X) {a b : Int} (dg : decode K.1 pc = .ok (.ishl, 1)) (k : zJW X (pc + 1) lv (zI (zsl a b) :: st) M) : zJW X pc lv (zI b :: zI a :: st) M := by
  obtain ⟨p, l, e, R, s, m, args, below, meth, c, D, dA, ids, ad, A, cs, nL, Q⟩ := X
  obtain ⟨hx, hb, -⟩ := hc
  intro H locs ls hP hS hv
  refine lv_ishl hx hb dg ?_
  rw [← iI_val (iI a <<< (iI b &&& 31))]
  exact k H locs ls hP hS hv
theorem z_ishr (hc : zCx K X) {a b : Int} (dg : decode K.1 pc = .ok (.ishr, 1)) (k : zJW X (pc + 1) lv (zI (zsr a b) :: st) M) : zJW X pc lv (zI b :: zI a :: st) M := by
  obtain ⟨p, l, e, R, s, m, args, below, meth, c, D, dA, ids, ad, A, cs, nL, Q⟩ := X
  obtain ⟨hx, hb, -⟩ := hc
  intro H locs ls hP hS hv
  refine lv_ishr hx hb dg ?_
  rw [← iI_val (iI a >>> (iI b &&& 31))]
  exact k H locs ls hP hS hv
theorem z_iushr (hc : zCx K X) {a b : Int} (dg : decode K.1 pc = .ok (.iushr, 1)) (k : zJW X (pc + 1) lv (zI (zus a b) :: st) M) : zJW X pc lv (zI b :: zI a :: st) M := by
  obtain ⟨p, l, e, R, s, m, args, below, meth, c, D, dA, ids, ad, A, cs, nL, Q⟩ := X
  obtain ⟨hx, hb, -⟩ := hc
  intro H locs ls hP hS hv
  exact lv_iushr hx hb (v := iI (zus a b)) dg (by unfold zus; rw [iI_val]) (k H locs ls hP hS hv)
theorem z_i2c (hc : zCx K X) {a : Int} (dg : decode K.1 pc = .ok (.i2c, 1)) (k : zJW X (pc + 1) lv (zI (zch a) :: st) M) : zJW X pc lv (zI a :: st) M := by
  obtain ⟨p, l, e, R, s, m, args, below, meth, c, D, dA, ids, ad, A, cs, nL, Q⟩ := X
  obtain ⟨hx, hb, -⟩ := hc
  intro H locs ls hP hS hv
  exact lv_i2c hx hb (v := iI (zch a)) dg (by unfold zch; rw [iI_val]) (k H locs ls hP hS hv)
-- the stack
theorem z_dup (hc : zCx K X) {v : MV} (hv1 : zcat v = 1) (dg : decode K.1 pc = .ok (.dup, 1)) (k : zJW X (pc + 1) lv (v :: v :: st) M) : zJW X pc lv (v :: st) M := by
  obtain ⟨p, l, e, R, s, m, args, below, meth, c, D, dA, ids, ad, A, cs, nL, Q⟩ := X
  obtain ⟨hx, hb, -⟩ := hc
  intro H locs ls hP hS hv
  exact lv_dup hx hb dg ((zcat_eq ad v).trans hv1) (k H locs ls hP hS hv)
theorem z_pop (hc : zCx K X) {v : MV} (hv1 : zcat v = 1) (dg : decode K.1 pc = .ok (.pop, 1)) (k : zJW X (pc + 1) lv st M) : zJW X pc lv (v :: st) M := by
  obtain ⟨p, l, e, R, s, m, args, below, meth, c, D, dA, ids, ad, A, cs, nL, Q⟩ := X
  obtain ⟨hx, hb, -⟩ := hc
  intro H locs ls hP hS hv
  exact lv_pop hx hb dg ((zcat_eq ad v).trans hv1) (k H locs ls hP hS hv)
theorem z_goto (hc : zCx K X) {off : Int} {tgt : Nat} (ht : (pc : Int) + off = (tgt : Int)) (dg : decode K.1 pc = .ok (.goto off, 3)) (k : zJW X tgt lv st M) : zJW X pc lv st M := by
  obtain ⟨p, l, e, R, s, m, args, below, meth, c, D, dA, ids, ad, A, cs, nL, Q⟩ := X
  obtain ⟨hx, hb, -⟩ := hc
  intro H locs ls hP hS hv
  exact lv_goto hx hb dg ht (k H locs ls hP hS hv)
end ZR
end
section
section ZS
variable {K : Kp} {X : CX} {pc : Nat} {lv lv' : List (Nat × MV)} {st : List MV} {M M' : Mem}
def zbz (b : Bool) : Int := if b then 1 else 0
theorem iI_0 : iI 0 = 0 := by decide
theorem zbz_eq0 (b : Bool) : iI (zbz b) = 0 ↔ b = false := by cases b <;> decide
theorem z_ieq (hc : zCx K X) {a : Int} {off : Int} {tgt : Nat} (hb : -2147483648 ≤ a ∧ a < 2147483648) (ht : (pc : Int) + off = (tgt : Int)) (dg : decode K.1 pc = .ok (.ifCond .eq off, 3)) (kt : a = 0 → zJW X tgt lv st M) (kf : a ≠ 0 → zJW X (pc + 3) lv st M) : zJW X pc lv (zI a :: st) M := by
  obtain ⟨p, l, e, R, s, m, args, below, meth, c, D, dA, ids, ad, A, cs, nL, Q⟩ := X
  obtain ⟨hx, hb', -⟩ := hc
  have hf := iI_eq (a := a) (b := 0) ⟨hb.1, hb.2, by decide, by decide⟩
  rw [iI_0] at hf
  intro H locs ls hP hS hv
  exact lv_if_eq hx hb' dg ht (fun h => kt (hf.mp h) H locs ls hP hS hv) (fun h => kf (fun h2 => h (hf.mpr h2)) H locs ls hP hS hv)
theorem z_ceq (hc : zCx K X) {a b : Int} {off : Int} {tgt : Nat} (hb : -2147483648 ≤ a ∧ a < 2147483648 ∧ -2147483648 ≤ b ∧ b < 2147483648) (ht : (pc : Int) + off = (tgt : Int)) (dg : decode K.1 pc = .ok (.if_icmp .eq off, 3)) (kt : a = b → zJW X tgt lv st M) (kf : a ≠ b → zJW X (pc + 3) lv st M) : zJW X pc lv (zI b :: zI a :: st) M := by
  obtain ⟨p, l, e, R, s, m, args, below, meth, c, D, dA, ids, ad, A, cs, nL, Q⟩ := X
  obtain ⟨hx, hb', -⟩ := hc
  have hf := iI_eq (a := a) (b := b) hb
  intro H locs ls hP hS hv
  exact lv_icmp_eq hx hb' dg ht (fun h => kt (hf.mp h) H locs ls hP hS hv) (fun h => kf (fun h2 => h (hf.mpr h2)) H locs ls hP hS hv)
theorem z_ine (hc : zCx K X) {a : Int} {off : Int} {tgt : Nat} (hb : -2147483648 ≤ a ∧ a < 2147483648) (ht : (pc : Int) + off = (tgt : Int)) (dg : decode K.1 pc = .ok (.ifCond .ne off, 3)) (kt : a ≠ 0 → zJW X tgt lv st M) (kf : a = 0 → zJW X (pc + 3) lv st M) : zJW X pc lv (zI a :: st) M := by
  obtain ⟨p, l, e, R, s, m, args, below, meth, c, D, dA, ids, ad, A, cs, nL, Q⟩ := X
  obtain ⟨hx, hb', -⟩ := hc
  have hf := iI_eq (a := a) (b := 0) ⟨hb.1, hb.2, by decide, by decide⟩
  rw [iI_0] at hf
  intro H locs ls hP hS hv
  exact lv_if_ne hx hb' dg ht (fun h => kt (fun h2 => h (hf.mpr h2)) H locs ls hP hS hv) (fun h => kf (hf.mp h) H locs ls hP hS hv)
theorem z_cne (hc : zCx K X) {a b : Int} {off : Int} {tgt : Nat} (hb : -2147483648 ≤ a ∧ a < 2147483648 ∧ -2147483648 ≤ b ∧ b < 2147483648) (ht : (pc : Int) + off = (tgt : Int)) (dg : decode K.1 pc = .ok (.if_icmp .ne off, 3)) (kt : a ≠ b → zJW X tgt lv st M) (kf : a = b → zJW X (pc + 3) lv st M) : zJW X pc lv (zI b :: zI a :: st) M := by
  obtain ⟨p, l, e, R, s, m, args, below, meth, c, D, dA, ids, ad, A, cs, nL, Q⟩ := X
  obtain ⟨hx, hb', -⟩ := hc
  have hf := iI_eq (a := a) (b := b) hb
  intro H locs ls hP hS hv
  exact lv_icmp_ne hx hb' dg ht (fun h => kt (fun h2 => h (hf.mpr h2)) H locs ls hP hS hv) (fun h => kf (hf.mp h) H locs ls hP hS hv)
theorem z_ilt (hc : zCx K X) {a : Int} {off : Int} {tgt : Nat} (hb : -2147483648 ≤ a ∧ a < 2147483648) (ht : (pc : Int) + off = (tgt : Int)) (dg : decode K.1 pc = .ok (.ifCond .lt off, 3)) (kt : a < 0 → zJW X tgt lv st M) (kf : 0 ≤ a → zJW X (pc + 3) lv st M) : zJW X pc lv (zI a :: st) M := by
  obtain ⟨p, l, e, R, s, m, args, below, meth, c, D, dA, ids, ad, A, cs, nL, Q⟩ := X
  obtain ⟨hx, hb', -⟩ := hc
  have hf := iI_lt (a := a) (b := 0) ⟨hb.1, hb.2, by decide, by decide⟩
  rw [iI_0] at hf
  intro H locs ls hP hS hv
  exact lv_if_lt hx hb' dg ht (fun h => kt (hf.mp h) H locs ls hP hS hv) (fun h => kf (Int.not_lt.mp (fun h2 => h (hf.mpr h2))) H locs ls hP hS hv)
theorem z_clt (hc : zCx K X) {a b : Int} {off : Int} {tgt : Nat} (hb : -2147483648 ≤ a ∧ a < 2147483648 ∧ -2147483648 ≤ b ∧ b < 2147483648) (ht : (pc : Int) + off = (tgt : Int)) (dg : decode K.1 pc = .ok (.if_icmp .lt off, 3)) (kt : a < b → zJW X tgt lv st M) (kf : b ≤ a → zJW X (pc + 3) lv st M) : zJW X pc lv (zI b :: zI a :: st) M := by
  obtain ⟨p, l, e, R, s, m, args, below, meth, c, D, dA, ids, ad, A, cs, nL, Q⟩ := X
  obtain ⟨hx, hb', -⟩ := hc
  have hf := iI_lt (a := a) (b := b) hb
  intro H locs ls hP hS hv
  exact lv_icmp_lt hx hb' dg ht (fun h => kt (hf.mp h) H locs ls hP hS hv) (fun h => kf (Int.not_lt.mp (fun h2 => h (hf.mpr h2))) H locs ls hP hS hv)
theorem z_ige (hc : zCx K X) {a : Int} {off : Int} {tgt : Nat} (hb : -2147483648 ≤ a ∧ a < 2147483648) (ht : (pc : Int) + off = (tgt : Int)) (dg : decode K.1 pc = .ok (.ifCond .ge off, 3)) (kt : 0 ≤ a → zJW X tgt lv st M) (kf : a < 0 → zJW X (pc + 3) lv st M) : zJW X pc lv (zI a :: st) M := by
  obtain ⟨p, l, e, R, s, m, args, below, meth, c, D, dA, ids, ad, A, cs, nL, Q⟩ := X
  obtain ⟨hx, hb', -⟩ := hc
  have hf := iI_le (a := 0) (b := a) ⟨by decide, by decide, hb.1, hb.2⟩
  rw [iI_0] at hf
  intro H locs ls hP hS hv
  exact lv_if_ge hx hb' dg ht (fun h => kt (hf.mp h) H locs ls hP hS hv) (fun h => kf (Int.not_le.mp (fun h2 => h (hf.mpr h2))) H locs ls hP hS hv)
theorem z_cge (hc : zCx K X) {a b : Int} {off : Int} {tgt : Nat} (hb : -2147483648 ≤ a ∧ a < 2147483648 ∧ -2147483648 ≤ b ∧ b < 2147483648) (ht : (pc : Int) + off = (tgt : Int)) (dg : decode K.1 pc = .ok (.if_icmp .ge off, 3)) (kt : b ≤ a → zJW X tgt lv st M) (kf : a < b → zJW X (pc + 3) lv st M) : zJW X pc lv (zI b :: zI a :: st) M := by
  obtain ⟨p, l, e, R, s, m, args, below, meth, c, D, dA, ids, ad, A, cs, nL, Q⟩ := X
  obtain ⟨hx, hb', -⟩ := hc
  have hf := iI_le (a := b) (b := a) ⟨hb.2.2.1, hb.2.2.2, hb.1, hb.2.1⟩
  intro H locs ls hP hS hv
  exact lv_icmp_ge hx hb' dg ht (fun h => kt (hf.mp h) H locs ls hP hS hv) (fun h => kf (Int.not_le.mp (fun h2 => h (hf.mpr h2))) H locs ls hP hS hv)
theorem z_igt (hc : zCx K X) {a : Int} {off : Int} {tgt : Nat} (hb : -2147483648 ≤ a ∧ a < 2147483648) (ht : (pc : Int) + off = (tgt : Int)) (dg : decode K.1 pc = .ok (.ifCond .gt off, 3)) (kt : 0 < a → zJW X tgt lv st M) (kf : a ≤ 0 → zJW X (pc + 3) lv st M) : zJW X pc lv (zI a :: st) M := by
  obtain ⟨p, l, e, R, s, m, args, below, meth, c, D, dA, ids, ad, A, cs, nL, Q⟩ := X
  obtain ⟨hx, hb', -⟩ := hc
  have hf := iI_lt (a := 0) (b := a) ⟨by decide, by decide, hb.1, hb.2⟩
  rw [iI_0] at hf
  intro H locs ls hP hS hv
  exact lv_if_gt hx hb' dg ht (fun h => kt (hf.mp h) H locs ls hP hS hv) (fun h => kf (Int.not_lt.mp (fun h2 => h (hf.mpr h2))) H locs ls hP hS hv)
theorem z_cgt (hc : zCx K X) {a b : Int} {off : Int} {tgt : Nat} (hb : -2147483648 ≤ a ∧ a < 2147483648 ∧ -2147483648 ≤ b ∧ b < 2147483648) (ht : (pc : Int) + off = (tgt : Int)) (dg : decode K.1 pc = .ok (.if_icmp .gt off, 3)) (kt : b < a → zJW X tgt lv st M) (kf : a ≤ b → zJW X (pc + 3) lv st M) : zJW X pc lv (zI b :: zI a :: st) M := by
  obtain ⟨p, l, e, R, s, m, args, below, meth, c, D, dA, ids, ad, A, cs, nL, Q⟩ := X
  obtain ⟨hx, hb', -⟩ := hc
  have hf := iI_lt (a := b) (b := a) ⟨hb.2.2.1, hb.2.2.2, hb.1, hb.2.1⟩
  intro H locs ls hP hS hv
  exact lv_icmp_gt hx hb' dg ht (fun h => kt (hf.mp h) H locs ls hP hS hv) (fun h => kf (Int.not_lt.mp (fun h2 => h (hf.mpr h2))) H locs ls hP hS hv)
theorem z_ile (hc : zCx K X) {a : Int} {off : Int} {tgt : Nat} (hb : -2147483648 ≤ a ∧ a < 2147483648) (ht : (pc : Int) + off = (tgt : Int)) (dg : decode K.1 pc = .ok (.ifCond .le off, 3)) (kt : a ≤ 0 → zJW X tgt lv st M) (kf : 0 < a → zJW X (pc + 3) lv st M) : zJW X pc lv (zI a :: st) M := by
  obtain ⟨p, l, e, R, s, m, args, below, meth, c, D, dA, ids, ad, A, cs, nL, Q⟩ := X
  obtain ⟨hx, hb', -⟩ := hc
  have hf := iI_le (a := a) (b := 0) ⟨hb.1, hb.2, by decide, by decide⟩
  rw [iI_0] at hf
  intro H locs ls hP hS hv
  exact lv_if_le hx hb' dg ht (fun h => kt (hf.mp h) H locs ls hP hS hv) (fun h => kf (Int.not_le.mp (fun h2 => h (hf.mpr h2))) H locs ls hP hS hv)
theorem z_cle (hc : zCx K X) {a b : Int} {off : Int} {tgt : Nat} (hb : -2147483648 ≤ a ∧ a < 2147483648 ∧ -2147483648 ≤ b ∧ b < 2147483648) (ht : (pc : Int) + off = (tgt : Int)) (dg : decode K.1 pc = .ok (.if_icmp .le off, 3)) (kt : a ≤ b → zJW X tgt lv st M) (kf : b < a → zJW X (pc + 3) lv st M) : zJW X pc lv (zI b :: zI a :: st) M := by
  obtain ⟨p, l, e, R, s, m, args, below, meth, c, D, dA, ids, ad, A, cs, nL, Q⟩ := X
  obtain ⟨hx, hb', -⟩ := hc
  have hf := iI_le (a := a) (b := b) hb
  intro H locs ls hP hS hv
  exact lv_icmp_le hx hb' dg ht (fun h => kt (hf.mp h) H locs ls hP hS hv) (fun h => kf (Int.not_le.mp (fun h2 => h (hf.mpr h2))) H locs ls hP hS hv)
theorem z_beq (hc : zCx K X) {b : Bool} {off : Int} {tgt : Nat} (ht : (pc : Int) + off = (tgt : Int)) (dg : decode K.1 pc = .ok (.ifCond .eq off, 3)) (kt : b = false → zJW X tgt lv st M) (kf : b = true → zJW X (pc + 3) lv st M) : zJW X pc lv (zI (zbz b) :: st) M := by
  refine z_ieq hc (by cases b <;> decide) ht dg (fun h => kt ?_) (fun h => kf ?_) <;> (cases b <;> first | rfl | (exfalso; revert h; decide))
theorem z_bne (hc : zCx K X) {b : Bool} {off : Int} {tgt : Nat} (ht : (pc : Int) + off = (tgt : Int)) (dg : decode K.1 pc = .ok (.ifCond .ne off, 3)) (kt : b = true → zJW X tgt lv st M) (kf : b = false → zJW X (pc + 3) lv st M) : zJW X pc lv (zI (zbz b) :: st) M := by
  refine z_ine hc (by cases b <;> decide) ht dg (fun h => kt ?_) (fun h => kf ?_) <;> (cases b <;> first | rfl | (exfalso; revert h; decide))
theorem z_inull (hc : zCx K X) {k : Nat} {off : Int} (dg : decode K.1 pc = .ok (.ifnull off, 3)) (kk : zJW X (pc + 3) lv st M) : zJW X pc lv (zR k :: st) M := by
  obtain ⟨p, l, e, R, s, m, args, below, meth, c, D, dA, ids, ad, A, cs, nL, Q⟩ := X
  obtain ⟨hx, hb, -⟩ := hc
  intro H locs ls hP hS hv
  exact lv_ifnull hx hb dg (kk H locs ls hP hS hv)
theorem z_inonnull (hc : zCx K X) {k : Nat} {off : Int} {tgt : Nat} (ht : (pc : Int) + off = (tgt : Int)) (dg : decode K.1 pc = .ok (.ifnonnull off, 3)) (kk : zJW X tgt lv st M) : zJW X pc lv (zR k :: st) M := by
  obtain ⟨p, l, e, R, s, m, args, below, meth, c, D, dA, ids, ad, A, cs, nL, Q⟩ := X
  obtain ⟨hx, hb, -⟩ := hc
  intro H locs ls hP hS hv
  exact lv_ifnonnull hx hb dg ht (kk H locs ls hP hS hv)
theorem z_swOut (hc : zCx K X) {a dflt lo hi : Int} {offs : Array Int} {len tgt : Nat} (hb : -2147483648 ≤ a ∧ a < 2147483648) (h : a < lo ∨ hi < a) (ht : (pc : Int) + dflt = (tgt : Int)) (dg : decode K.1 pc = .ok (.tableswitch dflt lo hi offs, len)) (kk : zJW X tgt lv st M) : zJW X pc lv (zI a :: st) M := by
  obtain ⟨p, l, e, R, s, m, args, below, meth, c, D, dA, ids, ad, A, cs, nL, Q⟩ := X
  obtain ⟨hx, hb', -⟩ := hc
  intro H locs ls hP hS hv
  exact lv_tableOut hx hb' dg (by rw [iI_toInt hb]; exact h) ht (kk H locs ls hP hS hv)
theorem z_swIn (hc : zCx K X) {a dflt lo hi off : Int} {offs : Array Int} {len tgt : Nat} (hb : -2147483648 ≤ a ∧ a < 2147483648) (h : lo ≤ a ∧ a ≤ hi) (ho : offs[(a - lo).toNat]? = some off) (ht : (pc : Int) + off = (tgt : Int)) (dg : decode K.1 pc = .ok (.tableswitch dflt lo hi offs, len)) (kk : zJW X tgt lv st M) : zJW X pc lv (zI a :: st) M := by
  obtain ⟨p, l, e, R, s, m, args, below, meth, c, D, dA, ids, ad, A, cs, nL, Q⟩ := X
  obtain ⟨hx, hb', -⟩ := hc
  intro H locs ls hP hS hv
  exact lv_tableIn hx hb' dg (by rw [iI_toInt hb]; omega) (by rw [iI_toInt hb]; omega) (by rw [iI_toInt hb]; exact ho) ht (kk H locs ls hP hS hv)
-- fields
def zgv (M : Mem) (k j : Nat) : Option Nat → MV := fun o => match o with
  | none => zI (M k j)
  | some k' => zR k'
theorem zgv_en (ad : Nat → Nat) (M : Mem) (k j : Nat) (o : Option Nat) : zen ad (zgv M k j o) = zfv ad M k j o := by cases o <;> rfl
theorem zup_ne {M : Mem} {k i : Nat} {z v : Int} (h : i ≠ k) : zup M k z v i = M i := by
  funext z'
  simp [zup, h]
theorem zup_at (M : Mem) (k : Nat) (z v : Int) : zup M k z v k z = v := by simp [zup]
theorem zup_off {M : Mem} {k : Nat} {z z' v : Int} (h : z' ≠ z) : zup M k z v k z' = M k z' := by simp [zup, h]
theorem zce_congr {ad : Nat → Nat} {dA : Nat → ClassId} {M M' : Mem} {i : Nat} (h : M i = M' i) : zce ad dA M i = zce ad dA M' i := by
  have hf : zfv ad M i = zfv ad M' i := by
    funext j o
    cases o <;> simp [zfv, h]
  simp only [zce, hf, h]
theorem zce_obj {ad : Nat → Nat} {dA : Nat → ClassId} {M : Mem} {k ci : Nat} {fs : List (Option Nat)} (ht : ztm k = some (ci, fs)) : zce ad dA M k = .inr (ci, fs.mapIdx (zfv ad M k)) := by simp only [zce, ht]
theorem zce_arr {ad : Nat → Nat} {dA : Nat → ClassId} {M : Mem} {k t n : Nat} (ht : ztm k = none) (hr : zar k = (t, n)) (h3 : t ≠ 3) : zce ad dA M k = .inl (dA t, n, .inl (fun j => iI (M k j))) := by simp only [zce, ht, hr, if_neg h3]
theorem zce_arrS {ad : Nat → Nat} {dA : Nat → ClassId} {M : Mem} {k n : Nat} (ht : ztm k = none) (hr : zar k = (3, n)) : zce ad dA M k = .inl (dA 3, n, .inr (.inr (.inr (.inr (fun j => some (ad (M k j).toNat)))))) := by simp only [zce, ht, hr, ↓reduceIte]
theorem zfs_put {ad : Nat → Nat} {M : Mem} {k j : Nat} {fs : List (Option Nat)} (hj : fs[j]? = some none) (v : Int) : (fs.mapIdx (zfv ad M k)).set j (.int (iI v)) = fs.mapIdx (zfv ad (zup M k j v) k) := by
  apply List.ext_getElem?
  intro i
  rw [List.getElem?_set, List.getElem?_mapIdx, List.getElem?_mapIdx]
  by_cases hi : j = i
  · subst hi
    obtain ⟨hlt, hfj⟩ := List.getElem?_eq_some_iff.mp hj
    simp [hlt, hfj, zfv, zup_at]
  · rw [if_neg hi]
    have hne : (i : Int) ≠ (j : Int) := fun h => hi (by omega)
    cases fs[i]? with
    | none => rfl
    | some o => cases o <;> simp [zfv, zup_off hne]
theorem z_get (hc : zCx K X) {k ci j idx : Nat} {fs : List (Option Nat)} {o : Option Nat} {C : String} {T : u_T} {N : Nat} (hf : K.2.2.2.2.2.1 k = true) (ht : ztm k = some (ci, fs)) (hj : fs[j]? = some o) (hci : vwCl[ci]? = some (C, T, N)) (hin : ∀ w ∈ u_ws C T N, w ∈ TB) (hjN : j < N) (hw : Cond.fieldLink K.2.2.2.1 idx (T j).1 (T j).2.1 (T j).2.2.1 ∈ TB) (dg : decode K.1 pc = .ok (.getfield idx, 3)) (kk : zJW X (pc + 3) lv (zgv M k j o :: st) M) : zJW X pc lv (zR k :: st) M := by
  obtain ⟨p, l, e, R, s, m, args, below, meth, c, D, dA, ids, ad, A, cs, nL, Q⟩ := X
  obtain ⟨hx, hb, -, -, -, hown, hts, hK, -, -, -, -, hfl, -⟩ := hc
  intro H locs ls hP hS hv
  obtain ⟨q, -, hq⟩ := zWo_at (hfl k hf) ad dA M
  rw [zce_obj ht] at hq
  refine va_get hx hb (ref := (T j).1) (C := C) (T := T) (N := N) hts hin hown hK hP q hq hci j hjN (hts _ hw) (fun _ h => h) (v := zfv ad M k j o) (by rw [List.getElem?_mapIdx, hj]; rfl) dg ?_
  rw [← zgv_en]
  exact kk H locs ls hP hS hv
theorem z_putG (hc : zCx K X) {k ci j idx : Nat} {fs : List (Option Nat)} {C : String} {T : u_T} {N : Nat} {v : Int} (ty0 : Nat → FieldType) (hty : ∀ k, k < N → parseFieldDescriptor (T k).2.2.1 = some (ty0 k)) (hnm : ∀ a, a < N → ∀ b, b < N → a ≠ b → (T a).2.1 ≠ (T b).2.1) (hf : K.2.2.2.2.2.1 k = true) (ht : ztm k = some (ci, fs)) (hj : fs[j]? = some none) (hci : vwCl[ci]? = some (C, T, N)) (hin : ∀ w ∈ u_ws C T N, w ∈ TB) (hjN : j < N) (hfin : (T j).2.2.2 = false) (hw : Cond.fieldLink K.2.2.2.1 idx (T j).1 (T j).2.1 (T j).2.2.1 ∈ TB)
    (hn : narrow (ty0 j) (.int (iI v)) = .int (iI v)) (hfit : fits (ty0 j) (.int (iI v)) = true) (dg : decode K.1 pc = .ok (.putfield idx, 3)) (kk : zJW X (pc + 3) lv st (zup M k j v)) : zJW X pc lv (zI v :: zR k :: st) M := by
  obtain ⟨p, l, e, R, s, m, args, below, meth, c, D, dA, ids, ad, A, cs, nL, Q⟩ := X
  obtain ⟨hx, hb, -, -, -, hown, hts, hK, -, hA, hinj, hnod, hfl, -⟩ := hc
  intro H locs ls hP hS hv
  obtain ⟨q, hq0, hq⟩ := zWo_at (hfl k hf) ad dA M
  rw [zce_obj ht] at hq
  refine va_put (v := .int (iI v)) hx hb (ref := (T j).1) (C := C) (T := T) (N := N) hts hin ty0 hty hnm hown hK hP (zWo_D hA hinj hnod dA M) hS q hq hci j hjN (hts _ hw) (fun _ h => h) hfin (hty j hjN) hn hfit (by rw [List.length_mapIdx]; exact (List.getElem?_eq_some_iff.mp hj).1) dg (fun H1 locs1 hP1 hD1 hS1 => ?_)
  rw [zfs_put hj, ← zce_obj (M := zup M k j v) ht, zWo_set hnod hq0 (fun i hi => zce_congr (zup_ne hi))] at hP1
  exact kk H1 locs1 ls hP1 hS1 hv
theorem z_getN (hc : zCx K X) {k ci j idx : Nat} {host : String} {fs : List (Option Nat)} {o : Option Nat} {C : String} {T : u_T} {N : Nat} (hf : K.2.2.2.2.2.1 k = true) (ht : ztm k = some (ci, fs)) (hj : fs[j]? = some o) (hci : vwCl[ci]? = some (C, T, N)) (hin : ∀ w ∈ u_ws C T N, w ∈ TB) (hjN : j < N) (hw : Cond.fieldLinkNest K.2.2.2.1 idx (T j).1 (T j).2.1 (T j).2.2.1 host ∈ zNW) (dg : decode K.1 pc = .ok (.getfield idx, 3)) (kk : zJW X (pc + 3) lv (zgv M k j o :: st) M) : zJW X pc lv (zR k :: st) M := by
  obtain ⟨p, l, e, R, s, m, args, below, meth, c, D, dA, ids, ad, A, cs, nL, Q⟩ := X
  obtain ⟨hx, hb, -, -, -, hown, hts, hK, -, -, -, -, hfl, -, -, -, -, -, hNW, -⟩ := hc
  intro H locs ls hP hS hv
  obtain ⟨q, -, hq⟩ := zWo_at (hfl k hf) ad dA M
  rw [zce_obj ht] at hq
  refine va_getN (host := host) hx hb (ref := (T j).1) (C := C) (T := T) (N := N) hts hin hown hK hP q hq hci j hjN (zN_use hw (hNW _ hw)) (fun _ h => h) (v := zfv ad M k j o) (by rw [List.getElem?_mapIdx, hj]; rfl) dg ?_
  rw [← zgv_en]
  exact kk H locs ls hP hS hv
theorem z_putGN (hc : zCx K X) {k ci j idx : Nat} {host : String} {fs : List (Option Nat)} {C : String} {T : u_T} {N : Nat} {v : Int} (ty0 : Nat → FieldType) (hty : ∀ k, k < N → parseFieldDescriptor (T k).2.2.1 = some (ty0 k)) (hnm : ∀ a, a < N → ∀ b, b < N → a ≠ b → (T a).2.1 ≠ (T b).2.1) (hf : K.2.2.2.2.2.1 k = true) (ht : ztm k = some (ci, fs)) (hj : fs[j]? = some none) (hci : vwCl[ci]? = some (C, T, N)) (hin : ∀ w ∈ u_ws C T N, w ∈ TB) (hjN : j < N) (hfin : (T j).2.2.2 = false) (hw : Cond.fieldLinkNest K.2.2.2.1 idx (T j).1 (T j).2.1 (T j).2.2.1 host ∈ zNW)
    (hn : narrow (ty0 j) (.int (iI v)) = .int (iI v)) (hfit : fits (ty0 j) (.int (iI v)) = true) (dg : decode K.1 pc = .ok (.putfield idx, 3)) (kk : zJW X (pc + 3) lv st (zup M k j v)) : zJW X pc lv (zI v :: zR k :: st) M := by
  obtain ⟨p, l, e, R, s, m, args, below, meth, c, D, dA, ids, ad, A, cs, nL, Q⟩ := X
  obtain ⟨hx, hb, -, -, -, hown, hts, hK, -, hA, hinj, hnod, hfl, -, -, -, -, -, hNW, -⟩ := hc
  intro H locs ls hP hS hv
  obtain ⟨q, hq0, hq⟩ := zWo_at (hfl k hf) ad dA M
  rw [zce_obj ht] at hq
  refine va_putN (host := host) (v := .int (iI v)) hx hb (ref := (T j).1) (C := C) (T := T) (N := N) hts hin ty0 hty hnm hown hK hP (zWo_D hA hinj hnod dA M) hS q hq hci j hjN (zN_use hw (hNW _ hw)) (fun _ h => h) hfin (hty j hjN) hn hfit (by rw [List.length_mapIdx]; exact (List.getElem?_eq_some_iff.mp hj).1) dg (fun H1 locs1 hP1 hD1 hS1 => ?_)
  rw [zfs_put hj, ← zce_obj (M := zup M k j v) ht, zWo_set hnod hq0 (fun i hi => zce_congr (zup_ne hi))] at hP1
  exact kk H1 locs1 ls hP1 hS1 hv
theorem iI_zbz_nar (b : Bool) : narrow .boolean (.int (iI (zbz b))) = .int (iI (zbz b)) := by cases b <;> rfl
theorem iI_zbz_fit (b : Bool) : fits .boolean (.int (iI (zbz b))) = true := by cases b <;> rfl
-- arrays
theorem zarr_up (M : Mem) (k : Nat) {z v : Int} {c : Nat} (hcl : (c : Int) = z) : upd (fun j : Nat => iI (M k j)) c (iI v) = fun j : Nat => iI (zup M k z v k j) := by
  funext j
  by_cases h : j = c
  · subst h
    rw [hcl, zup_at]
    simp [upd]
  · have hne : (j : Int) ≠ z := fun e => h (by omega)
    rw [zup_off hne]
    simp [upd, h]
theorem z_iald (hc : zCx K X) {k n : Nat} {z : Int} (hf : K.2.2.2.2.2.1 k = true) (ht : ztm k = none) (hr : zar k = (0, n)) (hn : n < 2147483648) (hz : 0 ≤ z ∧ z < n) (dg : decode K.1 pc = .ok (.iaload, 1)) (kk : zJW X (pc + 1) lv (zI (M k z) :: st) M) : zJW X pc lv (zI z :: zR k :: st) M := by
  obtain ⟨p, l, e, R, s, m, args, below, meth, c, D, dA, ids, ad, A, cs, nL, Q⟩ := X
  obtain ⟨hx, hb, -, -, -, hown, hts, hK, -, hA, hinj, hnod, hfl, -⟩ := hc
  intro H locs ls hP hS hv
  obtain ⟨q, hq0, hq⟩ := zWo_at (hfl k hf) ad dA M
  rw [zce_arr ht hr (by decide)] at hq
  obtain ⟨h1, h2⟩ := iI_in hz.1 hz.2 hn
  refine va_iald hx hb hK hP q 0 hq rfl h1 dg ?_
  rw [h2]
  exact kk H locs ls hP hS hv
theorem z_zald (hc : zCx K X) {k n : Nat} {z : Int} (hf : K.2.2.2.2.2.1 k = true) (ht : ztm k = none) (hr : zar k = (1, n)) (hn : n < 2147483648) (hz : 0 ≤ z ∧ z < n) (dg : decode K.1 pc = .ok (.baload, 1)) (kk : zJW X (pc + 1) lv (zI (M k z) :: st) M) : zJW X pc lv (zI z :: zR k :: st) M := by
  obtain ⟨p, l, e, R, s, m, args, below, meth, c, D, dA, ids, ad, A, cs, nL, Q⟩ := X
  obtain ⟨hx, hb, -, -, -, hown, hts, hK, -, hA, hinj, hnod, hfl, -⟩ := hc
  intro H locs ls hP hS hv
  obtain ⟨q, hq0, hq⟩ := zWo_at (hfl k hf) ad dA M
  rw [zce_arr ht hr (by decide)] at hq
  obtain ⟨h1, h2⟩ := iI_in hz.1 hz.2 hn
  refine va_zald hx hb hK hP q 1 hq rfl h1 dg ?_
  rw [h2]
  exact kk H locs ls hP hS hv
theorem z_cald (hc : zCx K X) {k n : Nat} {z : Int} (hf : K.2.2.2.2.2.1 k = true) (ht : ztm k = none) (hr : zar k = (2, n)) (hn : n < 2147483648) (hz : 0 ≤ z ∧ z < n) (dg : decode K.1 pc = .ok (.caload, 1)) (kk : zJW X (pc + 1) lv (zI (M k z) :: st) M) : zJW X pc lv (zI z :: zR k :: st) M := by
  obtain ⟨p, l, e, R, s, m, args, below, meth, c, D, dA, ids, ad, A, cs, nL, Q⟩ := X
  obtain ⟨hx, hb, -, -, -, hown, hts, hK, -, hA, hinj, hnod, hfl, -⟩ := hc
  intro H locs ls hP hS hv
  obtain ⟨q, hq0, hq⟩ := zWo_at (hfl k hf) ad dA M
  rw [zce_arr ht hr (by decide)] at hq
  obtain ⟨h1, h2⟩ := iI_in hz.1 hz.2 hn
  refine va_cald hx hb hK hP q 2 hq rfl h1 dg ?_
  rw [h2]
  exact kk H locs ls hP hS hv
theorem z_iast (hc : zCx K X) {k n : Nat} {z v : Int} (hf : K.2.2.2.2.2.1 k = true) (ht : ztm k = none) (hr : zar k = (0, n)) (hn : n < 2147483648) (hz : 0 ≤ z ∧ z < n) (dg : decode K.1 pc = .ok (.iastore, 1)) (kk : zJW X (pc + 1) lv st (zup M k z v)) : zJW X pc lv (zI v :: zI z :: zR k :: st) M := by
  obtain ⟨p, l, e, R, s, m, args, below, meth, c, D, dA, ids, ad, A, cs, nL, Q⟩ := X
  obtain ⟨hx, hb, -, -, -, hown, hts, hK, -, hA, hinj, hnod, hfl, -⟩ := hc
  intro H locs ls hP hS hv
  obtain ⟨q, hq0, hq⟩ := zWo_at (hfl k hf) ad dA M
  rw [zce_arr ht hr (by decide)] at hq
  obtain ⟨h1, h2⟩ := iI_in hz.1 hz.2 hn
  refine va_iast hx hb hK hP (zWo_D hA hinj hnod dA M) hS q 0 hq rfl h1 dg (fun H1 locs1 hP1 hD1 hS1 => ?_)
  rw [zarr_up M k h2, ← zce_arr (M := zup M k z v) ht hr (by decide), zWo_set hnod hq0 (fun i hi => zce_congr (zup_ne hi))] at hP1
  exact kk H1 locs1 ls hP1 hS1 hv
theorem z_zast (hc : zCx K X) {k n : Nat} {z v : Int} (hv0 : vp_nar .boolean (iI v) = iI v) (hf : K.2.2.2.2.2.1 k = true) (ht : ztm k = none) (hr : zar k = (1, n)) (hn : n < 2147483648) (hz : 0 ≤ z ∧ z < n) (dg : decode K.1 pc = .ok (.bastore, 1)) (kk : zJW X (pc + 1) lv st (zup M k z v)) : zJW X pc lv (zI v :: zI z :: zR k :: st) M := by
  obtain ⟨p, l, e, R, s, m, args, below, meth, c, D, dA, ids, ad, A, cs, nL, Q⟩ := X
  obtain ⟨hx, hb, -, -, -, hown, hts, hK, -, hA, hinj, hnod, hfl, -⟩ := hc
  intro H locs ls hP hS hv
  obtain ⟨q, hq0, hq⟩ := zWo_at (hfl k hf) ad dA M
  rw [zce_arr ht hr (by decide)] at hq
  obtain ⟨h1, h2⟩ := iI_in hz.1 hz.2 hn
  refine va_zast hx hb hK hP (zWo_D hA hinj hnod dA M) hS q 1 hq rfl h1 dg (fun H1 locs1 hP1 hD1 hS1 => ?_)
  rw [hv0] at hP1
  rw [zarr_up M k h2, ← zce_arr (M := zup M k z v) ht hr (by decide), zWo_set hnod hq0 (fun i hi => zce_congr (zup_ne hi))] at hP1
  exact kk H1 locs1 ls hP1 hS1 hv
theorem z_cast (hc : zCx K X) {k n : Nat} {z v : Int} (hv0 : vp_nar .char (iI v) = iI v) (hf : K.2.2.2.2.2.1 k = true) (ht : ztm k = none) (hr : zar k = (2, n)) (hn : n < 2147483648) (hz : 0 ≤ z ∧ z < n) (dg : decode K.1 pc = .ok (.castore, 1)) (kk : zJW X (pc + 1) lv st (zup M k z v)) : zJW X pc lv (zI v :: zI z :: zR k :: st) M := by
  obtain ⟨p, l, e, R, s, m, args, below, meth, c, D, dA, ids, ad, A, cs, nL, Q⟩ := X
  obtain ⟨hx, hb, -, -, -, hown, hts, hK, -, hA, hinj, hnod, hfl, -⟩ := hc
  intro H locs ls hP hS hv
  obtain ⟨q, hq0, hq⟩ := zWo_at (hfl k hf) ad dA M
  rw [zce_arr ht hr (by decide)] at hq
  obtain ⟨h1, h2⟩ := iI_in hz.1 hz.2 hn
  refine va_cast hx hb hK hP (zWo_D hA hinj hnod dA M) hS q 2 hq rfl h1 dg (fun H1 locs1 hP1 hD1 hS1 => ?_)
  rw [hv0] at hP1
  rw [zarr_up M k h2, ← zce_arr (M := zup M k z v) ht hr (by decide), zWo_set hnod hq0 (fun i hi => zce_congr (zup_ne hi))] at hP1
  exact kk H1 locs1 ls hP1 hS1 hv
theorem z_aald (hc : zCx K X) {k n : Nat} {z : Int} (hf : K.2.2.2.2.2.1 k = true) (ht : ztm k = none) (hr : zar k = (3, n)) (hn : n < 2147483648) (hz : 0 ≤ z ∧ z < n) (dg : decode K.1 pc = .ok (.aaload, 1)) (kk : zJW X (pc + 1) lv (zR (M k z).toNat :: st) M) : zJW X pc lv (zI z :: zR k :: st) M := by
  obtain ⟨p, l, e, R, s, m, args, below, meth, c, D, dA, ids, ad, A, cs, nL, Q⟩ := X
  obtain ⟨hx, hb, -, -, -, hown, hts, hK, -, hA, hinj, hnod, hfl, -⟩ := hc
  intro H locs ls hP hS hv
  obtain ⟨q, hq0, hq⟩ := zWo_at (hfl k hf) ad dA M
  rw [zce_arrS ht hr] at hq
  obtain ⟨h1, h2⟩ := iI_in hz.1 hz.2 hn
  refine va_aldq hx hb hK hP q 3 hq rfl h1 dg ?_
  rw [h2]
  exact kk H locs ls hP hS hv
theorem z_aast (hc : zCx K X) {k n k' : Nat} {z : Int} {fs : List (Option Nat)} (hf : K.2.2.2.2.2.1 k = true) (hf' : K.2.2.2.2.2.1 k' = true) (ht' : ztm k' = some (3, fs)) (ht : ztm k = none) (hr : zar k = (3, n)) (hn : n < 2147483648) (hz : 0 ≤ z ∧ z < n) (dg : decode K.1 pc = .ok (.aastore, 1)) (kk : zJW X (pc + 1) lv st (zup M k z k')) : zJW X pc lv (zR k' :: zI z :: zR k :: st) M := by
  obtain ⟨p, l, e, R, s, m, args, below, meth, c, D, dA, ids, ad, A, cs, nL, Q⟩ := X
  obtain ⟨hx, hb, -, -, -, hown, hts, hK, -, hA, hinj, hnod, hfl, -⟩ := hc
  intro H locs ls hP hS hv
  obtain ⟨q, hq0, hq⟩ := zWo_at (hfl k hf) ad dA M
  obtain ⟨q', -, hq'⟩ := zWo_at (hfl k' hf') ad dA M
  rw [zce_arrS ht hr] at hq
  rw [zce_obj ht'] at hq'
  obtain ⟨h1, h2⟩ := iI_in hz.1 hz.2 hn
  refine va_astq hx hb hK hP (zWo_D hA hinj hnod dA M) hS q 3 q' 3 (r := (RX3, TX3, 5)) hq rfl hq' rfl h1 dg (fun H1 locs1 hP1 hD1 hS1 => ?_)
  have hup : va_up (fun j : Nat => some (ad (M k j).toNat)) (iI z).toNatClampNeg (some (ad k')) = fun j : Nat => some (ad (zup M k z k' k j).toNat) := by
    funext j
    by_cases h : j = (iI z).toNatClampNeg
    · subst h
      rw [h2, zup_at]
      simp [va_up]
    · have hne : (j : Int) ≠ z := fun e => h (by omega)
      rw [zup_off hne]
      simp [va_up, h]
  rw [hup, ← zce_arrS (M := zup M k z k') ht hr, zWo_set hnod hq0 (fun i hi => zce_congr (zup_ne hi))] at hP1
  exact kk H1 locs1 ls hP1 hS1 hv
theorem z_alen (hc : zCx K X) {k t n : Nat} (hf : K.2.2.2.2.2.1 k = true) (ht : ztm k = none) (hr : zar k = (t, n)) (h3 : t < 3) (dg : decode K.1 pc = .ok (.arraylength, 1)) (kk : zJW X (pc + 1) lv (zI n :: st) M) : zJW X pc lv (zR k :: st) M := by
  obtain ⟨p, l, e, R, s, m, args, below, meth, c, D, dA, ids, ad, A, cs, nL, Q⟩ := X
  obtain ⟨hx, hb, -, -, -, hown, hts, hK, -, hA, hinj, hnod, hfl, -⟩ := hc
  intro H locs ls hP hS hv
  obtain ⟨q, hq0, hq⟩ := zWo_at (hfl k hf) ad dA M
  rw [zce_arr ht hr (by omega)] at hq
  have ht9 : ∃ ty, (zty dA)[t]? = some (dA t, ty) := by
    rcases (show t = 0 ∨ t = 1 ∨ t = 2 by omega) with rfl | rfl | rfl <;> exact ⟨_, rfl⟩
  obtain ⟨ty, ht9⟩ := ht9
  exact va_alen hx hb hK hP q t hq ht9 (v := iI n) (by rw [iI_nI]; rfl) dg (kk H locs ls hP hS hv)
-- answers
theorem z_zret (hc : zCx K X) {Qc : Option Int → Mem → Prop} (he : zEnd Qc X) {a : Int} {ty : FieldType} (hr : K.2.2.1 = some ty) (hn : narrow ty (.int (iI a)) = .int (iI a)) (dg : decode K.1 pc = .ok (.ireturn, 1)) (h : Qc (some a) M) : zJW X pc lv [zI a] M := by
  obtain ⟨p, l, e, R, s, m, args, below, meth, c, D, dA, ids, ad, A, cs, nL, Q⟩ := X
  obtain ⟨hx, hb, -, hret, hlk, hown, hts, hK, hA0, hA, hinj, hnod, hfl, -⟩ := hc
  obtain ⟨rfl, rfl⟩ := he
  intro H locs ls hP hS hv
  exact W.zret (v := iI a) hx hb (hret.trans hr) hn (fun t ht hW => ⟨⟨some a, M, rfl, h, by rw [ht]; exact hP⟩, hS.F ht⟩) hS.2.2 dg
theorem z_iret (hc : zCx K X) {Qc : Option Int → Mem → Prop} (he : zEnd Qc X) {a : Int} (hr : K.2.2.1 = some .int) (dg : decode K.1 pc = .ok (.ireturn, 1)) (h : Qc (some a) M) : zJW X pc lv [zI a] M := z_zret hc he hr rfl dg h
theorem z_bret (hc : zCx K X) {Qc : Option Int → Mem → Prop} (he : zEnd Qc X) {a : Bool} (hr : K.2.2.1 = some .boolean) (dg : decode K.1 pc = .ok (.ireturn, 1)) (h : Qc (some (zbz a)) M) : zJW X pc lv [zI (zbz a)] M := z_zret hc he hr (iI_zbz_nar a) dg h
theorem z_vret (hc : zCx K X) {Qc : Option Int → Mem → Prop} (he : zEnd Qc X) (hr : K.2.2.1 = none) (dg : decode K.1 pc = .ok (.return_, 1)) (h : Qc none M) : zJW X pc lv [] M := by
  obtain ⟨p, l, e, R, s, m, args, below, meth, c, D, dA, ids, ad, A, cs, nL, Q⟩ := X
  obtain ⟨hx, hb, -, hret, hlk, hown, hts, hK, hA0, hA, hinj, hnod, hfl, -⟩ := hc
  obtain ⟨rfl, rfl⟩ := he
  intro H locs ls hP hS hv
  exact W.vret hx hb (hret.trans hr) (fun t ht hW => ⟨⟨none, M, rfl, h, by rw [ht]; exact hP⟩, hS.F ht⟩) hS.2.2 dg
end ZS
end
section
section ZC
variable {K K' : Kp} {X : CX} {pc : Nat} {lv lv' : List (Nat × MV)} {st : List MV} {M M' : Mem}
theorem zsl_len (ad : Nat → Nat) : ∀ As : List MV, (lg_sl (As.map (zen ad))).length = (As.map zcat).sum
  | [] => rfl
  | v :: t => by
    have h := zsl_len ad t
    unfold lg_sl at h ⊢
    rw [List.map_cons, List.flatMap_cons, List.length_append, h, List.map_cons, List.sum_cons, zcat_eq]
    rcases v with z | k | f | x <;> rfl
theorem z_met {y : MethodName} {As : List MV} {Qc : Option Int → Mem → Prop} (hy : plainName y.cls = true) (ho : K.2.2.2.1 = y.cls) (hlen : (As.map zcat).sum ≤ K.2.1) (body : ∀ X, zCx K X → zEnd Qc X → zJW X 0 (zargs 0 As) [] M) : zCt y K As M Qc := by
  intro l D dA ids ad sz hfl hnod hinj
  refine Met.ofW (cc := K.1) (maxL := K.2.1) (ret := K.2.2.1) hy rfl ?_
  intro p e s m args below meth c s₁ B hml hv
  obtain ⟨hargs, hsz, hP, hK, hSt, hNW⟩ := hv
  have hts := atoms_spec (ws := .code y K.1 K.2.1 K.2.2.1 :: TB) B.pre
  have hown : s.vm.findClass y.cls = some m.cls := findClass_of_methodNamed B.named
  subst hsz
  have hz := body (p, l, e, zRm K.2.2.2.2.1, s, m, args, below, meth, c, D, dA, ids, ad, zA ids ad s.heap.size, (0, 0), K.2.1, MQ below (zQ D dA ids ad Qc (zA ids ad s.heap.size)) args s 0 0 (zA ids ad s.heap.size))
    ⟨B.exec, B.bytes, hml, B.returns, B.notSynchronized, by rw [ho]; exact hown, fun w hw => hts w (List.mem_cons_of_mem _ hw), hK, fun q h => Or.inr h, fun i hi => Or.inl ⟨i, hi, rfl⟩, hinj, hnod, hfl, hSt, Nat.le_refl _, Nat.le_refl _, Nat.zero_le _, Nat.zero_le _, hNW, rfl⟩ ⟨rfl, rfl⟩
  have hl := lv_entry (As.map (zen ad)) (n := K.2.1) (by rw [zsl_len]; exact hlen)
  rw [← zargs_map] at hl
  rw [hargs, lg_entry_eq]
  rw [hargs] at hz
  exact hz s.heap [] _ hP va_S.rf hl
def zans : Option Int → List MV := fun r => match r with
  | none => []
  | some z => [zI z]
theorem zans_en (ad : Nat → Nat) (r : Option Int) : (r.map fun z => Value.int (iI z)).toList = (zans r).map (zen ad) := by cases r <;> rfl
theorem z_goes {p : Program} {l : Launch} {e : Env} {R : Room} {s : State} {m : MethodId} {args : Array Value} {below : List Frame} {meth : Method} {c : Code} {H : Heap} {locs : List Loc} {cells slots : Nat} {Q : State → Prop} {ls : Array Slot} {rest st0 : List Value} {a : Array Value} {A0 A1 : Nat → Prop} {H0 : Heap} {free : Addr → Prop} {D : va_G} {dA : Nat → ClassId} {ids : List Nat} {ad : Nat → Nat} {Qc : Option Int → Mem → Prop}
    (hr : va_Run p l e R s m args below meth c H locs cells slots 0 0 (F0 m pc ls st0) rest (zQ D dA ids ad Qc A1 a) free) (hS : va_S A0 H0 H locs) (hA : ∀ q, q < H.size → A1 q → A0 q) (hf : ∀ q, free q → A0 q)
    (kk : ∀ (r : Option Int) (M' : Mem) (H1 : Heap) (locs1 : List Loc), Qc r M' → va_P D vwCl (zWo ids ad dA M') H1 → va_S A0 H0 H1 locs1 → W p l e R s m args below meth c H1 locs1 cells slots Q (F0 m (pc + 3) ls ((r.map fun z => Value.int (iI z)).toList ++ rest))) : W p l e R s m args below meth c H locs cells slots Q (F0 m pc ls st0) := by
  intro T hT X
  obtain ⟨v, st₀, t, T', L, h0, X', hL, e1, e2, ⟨⟨r, M', hv, hq, hp⟩, hz, hk⟩, st⟩ := hr T hT X
  have hv : v = r.map fun z => Value.int (iI z) := by injection hv
  subst hv
  rw [h0] at hz hk
  obtain ⟨t2, a1, b1⟩ := kk r M' T'.heap (locs ++ L) hq (by rw [e1]; exact hp)
    ⟨Nat.le_trans hS.1 (by rw [e1]; exact hz), fun q h1 h2 => by rw [e1, hk q (Nat.lt_of_lt_of_le h1 hS.1) (fun z => h2 (hA q (Nat.lt_of_lt_of_le h1 hS.1) z))]; exact hS.2.1 q h1 h2, fun q hq => by
      rcases List.mem_append.mp hq with h | h
      · exact hS.2.2 q h
      · exact hf _ (hL q h)⟩ T' rfl X'
  exact ⟨t2, st t2 a1, b1⟩
/-- what every caller wants of a callee's own row -/
def zOk (y : MethodName) (K : Kp) (n : Nat) : Prop := K.2.1 ≤ 16 ∧ Cond.initialized y.cls ∈ TB ∧ Cond.code y K.1 K.2.1 K.2.2.1 ∈ TB ∧ (y.cls ≠ "java/lang/invoke/MethodHandle" ∧ y.cls ≠ "java/lang/invoke/VarHandle") ∧ (parseMethodDescriptor y.desc).map (fun d => d.parameters.length) = some n
/-- a callee wants no more than its caller has -/
def zFits (K' K : Kp) : Prop := K'.2.2.2.2.1 + 1 ≤ K.2.2.2.2.1 ∧ (∀ i, K'.2.2.2.2.2.1 i = true → K.2.2.2.2.2.1 i = true) ∧ (K'.2.2.2.2.2.2 = true → K.2.2.2.2.2.2 = true)
theorem z_callB {y : MethodName} {n idx : Nat} {own : String} {R : Room} {s : State} {args : Array Value} (hk : zOk y K' n) (hts : ∀ w ∈ TB, w.before args s = true) (hw : Cond.methodLink own idx y ∈ TB) {d : Nat} (hd : K'.2.2.2.2.1 + 1 ≤ d) (hR1 : d ≤ R.frames) (hR2 : 35 * d ≤ R.locals) :
    CallB R s args own idx y K'.1 K'.2.1 K'.2.2.1 (.code y K'.1 K'.2.1 K'.2.2.1 :: TB) (zRm K'.2.2.2.2.1) 0 0 n := by
  obtain ⟨h1, h2, h3, h4, h5⟩ := hk
  refine ⟨rfl, rfl, Nat.le_trans hd hR1, ?_, ?_, List.mem_cons_self, hts _ h3, hts _ h2, h4, fun sig h => ?_, hts _ hw⟩
  · show 8 + (K'.2.1 + 11) + 35 * K'.2.2.2.2.1 ≤ R.locals
    omega
  · intro w hw a' U hW
    rcases List.mem_cons.mp hw with rfl | hw
    · exact zTB_in hW h3 (hts _ h3)
    · exact zTB_in hW hw (hts _ hw)
  · rw [h] at h5
    exact (Option.some.inj h5).symm
theorem z_callBN {y : MethodName} {n idx : Nat} {own host : String} {R : Room} {s : State} {args : Array Value} (hk : zOk y K' n) (hts : ∀ w ∈ TB, w.before args s = true) (hw : (Cond.methodLinkNest own idx y host).before args s = true) {d : Nat} (hd : K'.2.2.2.2.1 + 1 ≤ d) (hR1 : d ≤ R.frames) (hR2 : 35 * d ≤ R.locals) :
    va_CN R s args own idx y host K'.1 K'.2.1 K'.2.2.1 (.code y K'.1 K'.2.1 K'.2.2.1 :: TB) (zRm K'.2.2.2.2.1) 0 0 n := by
  obtain ⟨h1, h2, h3, h4, h5⟩ := hk
  refine ⟨⟨rfl, rfl, Nat.le_trans hd hR1, ?_, ?_, List.mem_cons_self⟩, hts _ h3, hts _ h2, h4, fun sig h => ?_, hw⟩
  · show 8 + (K'.2.1 + 11) + 35 * K'.2.2.2.2.1 ≤ R.locals
    omega
  · intro w hw a' U hW
    rcases List.mem_cons.mp hw with rfl | hw
    · exact zTB_in hW h3 (hts _ h3)
    · exact zTB_in hW hw (hts _ hw)
  · rw [h] at h5
    exact (Option.some.inj h5).symm
theorem z_pre {s : State} {H : Heap} {locs : List Loc} {D : va_G} {dA : Nat → ClassId} {ids : List Nat} {ad : Nat → Nat} {A : Nat → Prop} {As : List MV} (hP : va_P D vwCl (zWo ids ad dA M) H) (hS : va_S A s.heap H locs) (hK : va_K D vwCl (zty dA) s) (hSt : K'.2.2.2.2.2.2 = true → zSta A s s.heap) (hA0 : ∀ q, s.heap.size ≤ q → A q) (hA : ∀ i ∈ ids, A (ad i)) (hNW : ∀ w ∈ zNW, va_Nw w s) :
    FrameBlind (va_Pc (As.map (zen ad)) (fun U => U.heap.size = H.size ∧ va_P D vwCl (zWo ids ad dA M) U.heap ∧ va_K D vwCl (zty dA) U ∧ (K'.2.2.2.2.2.2 = true → zSta (zA ids ad H.size) U U.heap) ∧ ∀ w ∈ zNW, va_Nw w U)) ∧
    (∀ U : State, U.heap = H → s.WarmedH U.vm → va_Pc (As.map (zen ad)) (fun U => U.heap.size = H.size ∧ va_P D vwCl (zWo ids ad dA M) U.heap ∧ va_K D vwCl (zty dA) U ∧ (K'.2.2.2.2.2.2 = true → zSta (zA ids ad H.size) U U.heap) ∧ ∀ w ∈ zNW, va_Nw w U) (As.map (zen ad)).toArray U) := by
  refine ⟨fun a U g mk q => ?_, fun U hU hW => ⟨rfl, by rw [hU], by rw [hU]; exact hP, va_K.moved hW.alike hK, fun h => ?_, fun w hw => zN_warm hW hw (hNW w hw)⟩⟩
  · obtain ⟨q0, q1, qP, qK, qS, qN⟩ := q
    exact ⟨q0, q1, qP, va_K.moved (u := U) (U := U.calling g mk a) (Vm.Alike.refl U.vm) qK, fun h => zSta.moved (u := U) (U := U.calling g mk a) (Vm.Alike.refl U.vm) (qS h), fun w hw => zN_same (s := U) (U := U.calling g mk a) rfl hw (qN w hw)⟩
  · rw [hU]
    refine ((zSta.moved hW.alike (hSt h)).kept hS.2.1).narrow (fun q hq => ?_)
    rcases hq with ⟨i, hi, rfl⟩ | hq
    · exact hA i hi
    · exact hA0 q (Nat.le_trans hS.1 hq)
theorem zA_sub {ids : List Nat} {ad : Nat → Nat} {A : Nat → Prop} {sz sz' : Nat} (hA0 : ∀ q, sz ≤ q → A q) (hA : ∀ i ∈ ids, A (ad i)) (h : sz ≤ sz') : ∀ q, zA ids ad sz' q → A q := by
  intro q hq
  rcases hq with ⟨i, hi, rfl⟩ | hq
  · exact hA i hi
  · exact hA0 q (Nat.le_trans h hq)
theorem z_callV {y : MethodName} {k ci idx n : Nat} {fs : List (Option Nat)} {T : u_T} {N : Nat} {As rest : List MV} {Qc : Option Int → Mem → Prop} (hc : zCx K X) (hct : zCt y K' (zR k :: As) M Qc) (hk : zOk y K' n) (hfit : zFits K' K) (hf : K.2.2.2.2.2.1 k = true) (ht : ztm k = some (ci, fs)) (hci : vwCl[ci]? = some (y.cls, T, N)) (hw : Cond.methodLink K.2.2.2.1 idx y ∈ TB) (hins : Cond.instanceMethod y ∈ TB) (hsel : Cond.selects y.cls y y ∈ TB) (hn : As.length = n) (hroom : (rest.map zcat).sum ≤ 8) (hst : st = As.reverse ++ zR k :: rest) (dg : decode K.1 pc = .ok (.invokevirtual idx, 3)) (kk : ∀ (r : Option Int) (M' : Mem), Qc r M' → zJW X (pc + 3) lv (zans r ++ rest) M') : zJW X pc lv st M := by
  obtain ⟨p, l, e, R, s, m, args, below, meth, c, D, dA, ids, ad, A, cs, nL, Q⟩ := X
  obtain ⟨hx, hb, hml, hret, hlk, hown, hts, hK, hA0, hA, hinj, hnod, hfl, hSt, hR1, hR2, hcs1, hcs2, hNW, hnl⟩ := hc
  intro H locs ls hP hS hv
  obtain ⟨q, hq0, hq⟩ := zWo_at (hfl k hf) ad dA M
  rw [zce_obj ht] at hq
  have hM := hct l D dA ids ad H.size (fun i hi => hfl i (hfit.2.1 i hi)) hnod hinj
  have hpre := z_pre (K' := K') (As := zR k :: As) hP hS hK (fun h => hSt (hfit.2.2 h)) hA0 hA hNW
  have hcB := z_callB hk hts hw hfit.1 hR1 hR2
  subst hst
  have hrun := va_runV (e := e) (meth := meth) (below := below) (H := H) (locs := locs) (cells := cs.1) (slots := cs.2) (b := ad k) (As := As.map (zen ad)) (rest := rest.map (zen ad)) (g := F0 m pc ls ((As.reverse ++ zR k :: rest).map (zen ad))) ⟨hx, hb, hml, hown, hts⟩ hM ⟨hcB, hts _ hins, hts _ hsel⟩ ⟨hpre.1, va_recv hK hP hci hq, hpre.2⟩ rfl (by rw [List.length_map]; exact hn) hv.1 (by rw [List.map_append, List.map_reverse]; rfl)
    (lv_room (by rw [List.map_map]; rw [show ((fun v => v.category) ∘ zen ad) = zcat from funext (zcat_eq ad)]; exact hroom)) dg ⟨hcs1, hcs2⟩
  refine z_goes hrun hS (fun q _ hq => zA_sub hA0 hA hS.1 q hq) (fun q hq => zA_sub hA0 hA hS.1 q hq) (fun r M' H1 locs1 hQ hP1 hS1 => ?_)
  rw [zans_en ad, ← List.map_append]
  exact kk r M' hQ H1 locs1 ls hP1 hS1 hv
theorem z_callS {y : MethodName} {idx n : Nat} {As rest : List MV} {Qc : Option Int → Mem → Prop} (hc : zCx K X) (hct : zCt y K' As M Qc) (hk : zOk y K' n) (hfit : zFits K' K) (hw : Cond.methodLink K.2.2.2.1 idx y ∈ TB) (hsta : Cond.static y ∈ TB) (hn : As.length = n) (hroom : (rest.map zcat).sum ≤ 8) (hst : st = As.reverse ++ rest) (dg : decode K.1 pc = .ok (.invokestatic idx, 3)) (kk : ∀ (r : Option Int) (M' : Mem), Qc r M' → zJW X (pc + 3) lv (zans r ++ rest) M') : zJW X pc lv st M := by
  obtain ⟨p, l, e, R, s, m, args, below, meth, c, D, dA, ids, ad, A, cs, nL, Q⟩ := X
  obtain ⟨hx, hb, hml, hret, hlk, hown, hts, hK, hA0, hA, hinj, hnod, hfl, hSt, hR1, hR2, hcs1, hcs2, hNW, hnl⟩ := hc
  intro H locs ls hP hS hv
  have hM := hct l D dA ids ad H.size (fun i hi => hfl i (hfit.2.1 i hi)) hnod hinj
  have hpre := z_pre (K' := K') (As := As) hP hS hK (fun h => hSt (hfit.2.2 h)) hA0 hA hNW
  have hcB := z_callB hk hts hw hfit.1 hR1 hR2
  subst hst
  have hrun := va_runS (e := e) (meth := meth) (below := below) (H := H) (locs := locs) (cells := cs.1) (slots := cs.2) (As := As.map (zen ad)) (rest := rest.map (zen ad)) (g := F0 m pc ls ((As.reverse ++ rest).map (zen ad))) ⟨hx, hb, hml, hown, hts⟩ hM ⟨hcB, hts _ hsta⟩ hpre rfl (by rw [List.length_map]; exact hn) hv.1 (by rw [List.map_append, List.map_reverse])
    (lv_room (by rw [List.map_map]; rw [show ((fun v => v.category) ∘ zen ad) = zcat from funext (zcat_eq ad)]; exact hroom)) dg ⟨hcs1, hcs2⟩
  refine z_goes hrun hS (fun q _ hq => zA_sub hA0 hA hS.1 q hq) (fun q hq => zA_sub hA0 hA hS.1 q hq) (fun r M' H1 locs1 hQ hP1 hS1 => ?_)
  rw [zans_en ad, ← List.map_append]
  exact kk r M' hQ H1 locs1 ls hP1 hS1 hv
theorem z_callSN {y : MethodName} {idx n : Nat} {host : String} {As rest : List MV} {Qc : Option Int → Mem → Prop} (hc : zCx K X) (hct : zCt y K' As M Qc) (hk : zOk y K' n) (hfit : zFits K' K) (hw : Cond.methodLinkNest K.2.2.2.1 idx y host ∈ zNW) (hsta : Cond.static y ∈ TB) (hn : As.length = n) (hroom : (rest.map zcat).sum ≤ 8) (hst : st = As.reverse ++ rest) (dg : decode K.1 pc = .ok (.invokestatic idx, 3)) (kk : ∀ (r : Option Int) (M' : Mem), Qc r M' → zJW X (pc + 3) lv (zans r ++ rest) M') : zJW X pc lv st M := by
  obtain ⟨p, l, e, R, s, m, args, below, meth, c, D, dA, ids, ad, A, cs, nL, Q⟩ := X
  obtain ⟨hx, hb, hml, hret, hlk, hown, hts, hK, hA0, hA, hinj, hnod, hfl, hSt, hR1, hR2, hcs1, hcs2, hNW, hnl⟩ := hc
  intro H locs ls hP hS hv
  have hM := hct l D dA ids ad H.size (fun i hi => hfl i (hfit.2.1 i hi)) hnod hinj
  have hpre := z_pre (K' := K') (As := As) hP hS hK (fun h => hSt (hfit.2.2 h)) hA0 hA hNW
  have hcB := z_callBN (host := host) hk hts (zN_use hw (hNW _ hw)) hfit.1 hR1 hR2
  subst hst
  have hrun := va_runSN (e := e) (meth := meth) (below := below) (H := H) (locs := locs) (cells := cs.1) (slots := cs.2) (As := As.map (zen ad)) (rest := rest.map (zen ad)) (g := F0 m pc ls ((As.reverse ++ rest).map (zen ad))) ⟨hx, hb, hml, hown, hts⟩ hM ⟨hcB, hts _ hsta, trivial⟩ hpre rfl (by rw [List.length_map]; exact hn) hv.1 (by rw [List.map_append, List.map_reverse])
    (lv_room (by rw [List.map_map]; rw [show ((fun v => v.category) ∘ zen ad) = zcat from funext (zcat_eq ad)]; exact hroom)) dg ⟨hcs1, hcs2⟩
  refine z_goes hrun hS (fun q _ hq => zA_sub hA0 hA hS.1 q hq) (fun q hq => zA_sub hA0 hA hS.1 q hq) (fun r M' H1 locs1 hQ hP1 hS1 => ?_)
  rw [zans_en ad, ← List.map_append]
  exact kk r M' hQ H1 locs1 ls hP1 hS1 hv
end ZC
end
section
def zflX : Nat → Bool := fun i => decide (i < 38)
def zflR : Nat → Bool := fun i => decide (38 ≤ i) && decide (i < 53)
def zfl0 : Nat → Bool := fun _ => false
theorem ztm_st {k : Nat} (h : k < 9) : ztm k = some (3, [none, none, none, some (k + 9), some (k + 18)]) := if_pos h
theorem ztm_la {k : Nat} (h : k < 9) : ztm (k + 9) = none := by
  rcases (show k = 0 ∨ k = 1 ∨ k = 2 ∨ k = 3 ∨ k = 4 ∨ k = 5 ∨ k = 6 ∨ k = 7 ∨ k = 8 by omega) with rfl | rfl | rfl | rfl | rfl | rfl | rfl | rfl | rfl <;> rfl
theorem ztm_pi {k : Nat} (h : k < 9) : ztm (k + 18) = none := by
  rcases (show k = 0 ∨ k = 1 ∨ k = 2 ∨ k = 3 ∨ k = 4 ∨ k = 5 ∨ k = 6 ∨ k = 7 ∨ k = 8 by omega) with rfl | rfl | rfl | rfl | rfl | rfl | rfl | rfl | rfl <;> rfl
theorem zar_la {k : Nat} (h : k < 9) : zar (k + 9) = (1, 144) := if_pos (by omega)
theorem zar_pi {k : Nat} (h : k < 9) : zar (k + 18) = (0, 144) := (if_neg (by omega)).trans (if_pos (by omega))
theorem zfitX {K' K : Kp} (h : K'.2.2.2.2.1 + 1 ≤ K.2.2.2.2.1) (h1 : K'.2.2.2.2.2.1 = K.2.2.2.2.2.1) (h2 : K'.2.2.2.2.2.2 = K.2.2.2.2.2.2) : zFits K' K := ⟨h, fun i hi => by rw [← h1]; exact hi, fun hs => by rw [← h2]; exact hs⟩
theorem zfitA {K' K : Kp} (h : K'.2.2.2.2.1 + 1 ≤ K.2.2.2.2.1) (h1 : K'.2.2.2.2.2.1 = K.2.2.2.2.2.1) (h2 : K'.2.2.2.2.2.2 = false) : zFits K' K := ⟨h, fun i hi => by rw [← h1]; exact hi, fun hs => by rw [h2] at hs; cases hs⟩
theorem zfit0 {K' K : Kp} (h : K'.2.2.2.2.1 + 1 ≤ K.2.2.2.2.1) (h1 : K'.2.2.2.2.2.1 = zfl0) (h2 : K'.2.2.2.2.2.2 = false) : zFits K' K := ⟨h, fun i hi => (by rw [h1] at hi; cases hi), fun hs => by rw [h2] at hs; cases hs⟩
theorem zfitS {K' K : Kp} (h : K'.2.2.2.2.1 + 1 ≤ K.2.2.2.2.1) (h1 : K'.2.2.2.2.2.1 = zfl0) (h2 : K'.2.2.2.2.2.2 = K.2.2.2.2.2.2) : zFits K' K := ⟨h, fun i hi => (by rw [h1] at hi; cases hi), fun hs => by rw [← h2]; exact hs⟩
abbrev KX0_record : Kp := (cX0_record, 2, none, RX0, 1, zflX, true)
abbrev KX0_takeLatest : Kp := (cX0_takeLatest, 2, some .boolean, RX0, 1, zflX, true)
abbrev KX0_discardOldest : Kp := (cX0_discardOldest, 3, none, RX0, 0, zflX, true)
abbrev KX1_maskFor : Kp := (cX1_maskFor, 2, some .int, RX1, 1, zflX, true)
abbrev KX1_shapeFor : Kp := (cX1_shapeFor, 2, some .int, RX1, 0, zflX, true)
abbrev KX1_turnedShape : Kp := (cX1_turnedShape, 3, some .int, RX1, 2, zflX, true)
abbrev KX1_mirroredShape : Kp := (cX1_mirroredShape, 5, some .int, RX1, 2, zflX, true)
abbrev KX2_forget : Kp := (cX2_forget, 1, none, RX2, 1, zflX, true)
abbrev KX2_hasReached : Kp := (cX2_hasReached, 3, some .boolean, RX2, 1, zflX, true)
abbrev KX2_stepsTo : Kp := (cX2_stepsTo, 4, some .int, RX2, 0, zflX, true)
abbrev KX2_overRegion : Kp := (cX2_overRegion, 6, none, RX2, 4, zflX, true)
abbrev KX2_reachNeighbours : Kp := (cX2_reachNeighbours, 11, none, RX2, 3, zflX, true)
abbrev KX2_reach : Kp := (cX2_reach, 6, none, RX2, 2, zflX, true)
abbrev KX3_has : Kp := (cX3_has, 3, some .boolean, RX3, 1, zflX, true)
abbrev KX3_isLandAt : Kp := (cX3_isLandAt, 3, some .boolean, RX3, 2, zflX, true)
abbrev KX3_pinAt : Kp := (cX3_pinAt, 3, some .int, RX3, 2, zflX, true)
abbrev KX3_isPinnedAt : Kp := (cX3_isPinnedAt, 3, some .boolean, RX3, 3, zflX, true)
abbrev KX3_putKind : Kp := (cX3_putKind, 4, some .boolean, RX3, 3, zflX, true)
abbrev KX3_putPin : Kp := (cX3_putPin, 4, none, RX3, 2, zflX, true)
abbrev KX3_becomeWater : Kp := (cX3_becomeWater, 4, none, RX3, 1, zflX, true)
abbrev KX3_copyFrom : Kp := (cX3_copyFrom, 3, none, RX3, 0, zflX, true)
abbrev KX3_surroundingsOf : Kp := (cX3_surroundingsOf, 5, some .int, RX3, 3, zflX, true)
abbrev KX3_outsideBitsOf : Kp := (cX3_outsideBitsOf, 5, some .int, RX3, 2, zflX, true)
abbrev KX3_landTiles : Kp := (cX3_landTiles, 4, some .int, RX3, 3, zflX, true)
abbrev KX4_add : Kp := (cX4_add, 2, some .boolean, RX4, 0, zflX, true)
abbrev KX4_parse : Kp := (cX4_parse, 2, some .int, RX4, 6, zflX, true)
abbrev KX4_accepts : Kp := (cX4_accepts, 2, some .boolean, RX4, 5, zflX, true)
abbrev KX4_acceptsRowEnd : Kp := (cX4_acceptsRowEnd, 1, some .boolean, RX4, 1, zflX, true)
abbrev KX4_acceptsRun : Kp := (cX4_acceptsRun, 4, some .boolean, RX4, 4, zflX, true)
abbrev KX4_acceptsDigit : Kp := (cX4_acceptsDigit, 4, some .boolean, RX4, 1, zflX, true)
abbrev KX4_rowCanEnd : Kp := (cX4_rowCanEnd, 1, some .boolean, RX4, 0, zflX, true)
abbrev KX4_columnsLeft : Kp := (cX4_columnsLeft, 1, some .int, RX4, 0, zflX, true)
abbrev KX5_begin : Kp := (cX5_begin, 3, some .int, RX5, 2, zflX, true)
abbrev KX5_setOutside : Kp := (cX5_setOutside, 3, some .int, RX5, 6, zflX, true)
abbrev KX5_set : Kp := (cX5_set, 5, some .int, RX5, 6, zflX, true)
abbrev KX5_fill : Kp := (cX5_fill, 6, some .int, RX5, 5, zflX, true)
abbrev KX5_brush : Kp := (cX5_brush, 8, some .int, RX5, 4, zflX, true)
abbrev KX5_smooth : Kp := (cX5_smooth, 6, some .int, RX5, 4, zflX, true)
abbrev KX5_turn : Kp := (cX5_turn, 3, some .int, RX5, 5, zflX, true)
abbrev KX5_rows : Kp := (cX5_rows, 1, some .int, RX5, 0, zflX, true)
abbrev KX5_columns : Kp := (cX5_columns, 1, some .int, RX5, 0, zflX, true)
abbrev KX5_tile : Kp := (cX5_tile, 4, some .int, RX5, 7, zflX, true)
abbrev KX5_pin : Kp := (cX5_pin, 4, some .int, RX5, 6, zflX, true)
abbrev KX5_unpin : Kp := (cX5_unpin, 4, some .int, RX5, 4, zflX, true)
abbrev KX5_faults : Kp := (cX5_faults, 4, some .int, RX5, 6, zflX, true)
abbrev KX5_firstFault : Kp := (cX5_firstFault, 3, some .int, RX5, 6, zflX, true)
abbrev KX5_maskOf : Kp := (cX5_maskOf, 2, some .int, RX5, 2, zflX, true)
abbrev KX5_shapeOf : Kp := (cX5_shapeOf, 2, some .int, RX5, 1, zflX, true)
abbrev KX5_turned : Kp := (cX5_turned, 3, some .int, RX5, 3, zflX, true)
abbrev KX5_mirrored : Kp := (cX5_mirrored, 2, some .int, RX5, 3, zflX, true)
abbrev KX5_count : Kp := (cX5_count, 5, some .int, RX5, 7, zflX, true)
abbrev KX5_shapes : Kp := (cX5_shapes, 5, some .int, RX5, 7, zflX, true)
abbrev KX5_land : Kp := (cX5_land, 1, some .int, RX5, 4, zflX, true)
abbrev KX5_landShare : Kp := (cX5_landShare, 2, some .int, RX5, 4, zflX, true)
abbrev KX5_coast : Kp := (cX5_coast, 4, some .int, RX5, 4, zflX, true)
abbrev KX5_islands : Kp := (cX5_islands, 4, some .int, RX5, 5, zflX, true)
abbrev KX5_lakes : Kp := (cX5_lakes, 4, some .int, RX5, 5, zflX, true)
abbrev KX5_region : Kp := (cX5_region, 4, some .int, RX5, 5, zflX, true)
abbrev KX5_largestIsland : Kp := (cX5_largestIsland, 5, some .int, RX5, 5, zflX, true)
abbrev KX5_way : Kp := (cX5_way, 5, some .int, RX5, 5, zflX, true)
abbrev KX5_coastIfChanged : Kp := (cX5_coastIfChanged, 7, some .int, RX5, 3, zflX, true)
abbrev KX5_needs : Kp := (cX5_needs, 6, some .int, RX5, 4, zflX, true)
abbrev KX5_append : Kp := (cX5_append, 2, some .int, RX5, 1, zflX, true)
abbrev KX5_clearText : Kp := (cX5_clearText, 2, some .int, RX5, 0, zflX, true)
abbrev KX5_errorPosition : Kp := (cX5_errorPosition, 1, some .int, RX5, 7, zflX, true)
abbrev KX5_read : Kp := (cX5_read, 2, some .int, RX5, 7, zflX, true)
abbrev KX5_undo : Kp := (cX5_undo, 1, some .int, RX5, 2, zflX, true)
abbrev KX5_save : Kp := (cX5_save, 1, some .int, RX5, 4, zflX, true)
abbrev KX5_restore : Kp := (cX5_restore, 1, some .int, RX5, 4, zflX, true)
abbrev KX5_isLineCount : Kp := (cX5_isLineCount, 1, some .boolean, RX5, 0, zfl0, false)
abbrev KX5_isLineOf : Kp := (cX5_isLineOf, 2, some .boolean, RX5, 0, zfl0, false)
abbrev KX5_isShape : Kp := (cX5_isShape, 1, some .boolean, RX5, 0, zfl0, false)
abbrev KX5_position : Kp := (cX5_position, 2, some .int, RX5, 0, zfl0, false)
abbrev KX5_rowStep : Kp := (cX5_rowStep, 1, some .int, RX5, 0, zfl0, true)
abbrev KX5_columnStep : Kp := (cX5_columnStep, 1, some .int, RX5, 0, zfl0, true)
abbrev KX5_rotated : Kp := (cX5_rotated, 2, some .int, RX5, 0, zfl0, false)
abbrev KX5_bitsThatCount : Kp := (cX5_bitsThatCount, 2, some .int, RX5, 1, zfl0, false)
abbrev KX5_regularPart : Kp := (cX5_regularPart, 1, some .int, RX5, 2, zfl0, false)
abbrev KX5_bitsOfShare : Kp := (cX5_bitsOfShare, 4, some .int, RX5, 0, zfl0, false)
abbrev KX5_rightMaskAt : Kp := (cX5_rightMaskAt, 3, some .int, RX5, 4, zflX, true)
abbrev KX5_rightShapeAt : Kp := (cX5_rightShapeAt, 3, some .int, RX5, 5, zflX, true)
abbrev KX5_shapeAt : Kp := (cX5_shapeAt, 3, some .int, RX5, 6, zflX, true)
abbrev KX5_faultsAt : Kp := (cX5_faultsAt, 3, some .int, RX5, 5, zflX, true)
abbrev KX5_isReshapedBy : Kp := (cX5_isReshapedBy, 5, some .boolean, RX5, 4, zflX, true)
abbrev KX5_reshapedByOutside : Kp := (cX5_reshapedByOutside, 4, some .int, RX5, 5, zflX, true)
abbrev KX5_reshapedByTile : Kp := (cX5_reshapedByTile, 8, some .int, RX5, 5, zflX, true)
abbrev KX5_turnOnceFromSpare : Kp := (cX5_turnOnceFromSpare, 4, none, RX5, 4, zflX, true)
abbrev KX6_in : Kp := (cX6_in, 3, some .boolean, RX6, 0, zfl0, false)
abbrev KX6_water : Kp := (cX6_water, 2, none, RX6, 0, zflR, false)
abbrev KX6_tiles : Kp := (cX6_tiles, 1, some .int, RX6, 0, zflR, false)
abbrev KX6_isTile : Kp := (cX6_isTile, 3, some .boolean, RX6, 1, zflR, false)
abbrev KX6_at : Kp := (cX6_at, 3, some .int, RX6, 0, zflR, false)
abbrev KX6_isLandAt : Kp := (cX6_isLandAt, 2, some .boolean, RX6, 0, zflR, false)
abbrev KX6_record : Kp := (cX6_record, 2, none, RX6, 0, zflR, false)
abbrev KX6_undo : Kp := (cX6_undo, 2, some .int, RX6, 0, zflR, false)
abbrev KX6_save : Kp := (cX6_save, 2, some .int, RX6, 2, zflR, false)
abbrev KX6_restore : Kp := (cX6_restore, 2, some .int, RX6, 2, zflR, false)
abbrev KX6_rowBy : Kp := (cX6_rowBy, 1, some .int, RX6, 1, zfl0, false)
abbrev KX6_columnBy : Kp := (cX6_columnBy, 1, some .int, RX6, 1, zfl0, false)
abbrev KX6_bit : Kp := (cX6_bit, 2, some .int, RX6, 0, zfl0, false)
abbrev KX6_reduced : Kp := (cX6_reduced, 3, some .int, RX6, 1, zfl0, false)
abbrev KX6_isLandBeside : Kp := (cX6_isLandBeside, 6, some .boolean, RX6, 2, zflR, false)
abbrev KX6_around : Kp := (cX6_around, 5, some .int, RX6, 3, zflR, false)
abbrev KX6_right : Kp := (cX6_right, 2, some .int, RX6, 4, zflR, false)
abbrev KX6_shapeAt : Kp := (cX6_shapeAt, 2, some .int, RX6, 5, zflR, false)
abbrev KX6_bits : Kp := (cX6_bits, 3, some .int, RX6, 0, zfl0, false)
abbrev KX6_faultsAt : Kp := (cX6_faultsAt, 2, some .int, RX6, 6, zflR, false)
abbrev KX6_begin : Kp := (cX6_begin, 3, some .int, RX6, 1, zflR, false)
abbrev KX6_lookShapes : Kp := (cX6_lookShapes, 2, none, RX6, 6, zflR, false)
abbrev KX6_reshaped : Kp := (cX6_reshaped, 3, some .int, RX6, 6, zflR, false)
abbrev KX6_setOutside : Kp := (cX6_setOutside, 2, some .int, RX6, 7, zflR, false)
abbrev KX6_becomes : Kp := (cX6_becomes, 4, some .boolean, RX6, 1, zflR, false)
abbrev KX6_set : Kp := (cX6_set, 4, some .int, RX6, 7, zflR, false)
abbrev KX6_findRegion : Kp := (cX6_findRegion, 9, none, RX6, 2, zflR, false)
abbrev KX6_fill : Kp := (cX6_fill, 6, some .int, RX6, 3, zflR, false)
abbrev KX6_brush : Kp := (cX6_brush, 9, some .int, RX6, 2, zflR, false)
abbrev KX6_smooth : Kp := (cX6_smooth, 4, some .int, RX6, 4, zflR, false)
abbrev KX6_turnedBy : Kp := (cX6_turnedBy, 4, some .int, RX6, 0, zflR, false)
abbrev KX6_turnOnce : Kp := (cX6_turnOnce, 5, none, RX6, 1, zflR, false)
abbrev KX6_turn : Kp := (cX6_turn, 3, some .int, RX6, 2, zflR, false)
abbrev KX6_rows : Kp := (cX6_rows, 1, some .int, RX6, 0, zflR, false)
abbrev KX6_columns : Kp := (cX6_columns, 1, some .int, RX6, 0, zflR, false)
abbrev KX6_tile : Kp := (cX6_tile, 5, some .int, RX6, 7, zflR, false)
abbrev KX6_isShape : Kp := (cX6_isShape, 1, some .boolean, RX6, 1, zfl0, false)
abbrev KX6_pin : Kp := (cX6_pin, 5, some .int, RX6, 7, zflR, false)
abbrev KX6_unpin : Kp := (cX6_unpin, 4, some .int, RX6, 2, zflR, false)
abbrev KX6_faults : Kp := (cX6_faults, 3, some .int, RX6, 7, zflR, false)
abbrev KX6_told : Kp := (cX6_told, 2, some .int, RX6, 0, zflR, false)
abbrev KX6_firstFault : Kp := (cX6_firstFault, 2, some .int, RX6, 7, zflR, false)
abbrev KX6_maskOf : Kp := (cX6_maskOf, 2, some .int, RX6, 2, zflR, false)
abbrev KX6_shapeOf : Kp := (cX6_shapeOf, 2, some .int, RX6, 1, zflR, false)
abbrev KX6_turned : Kp := (cX6_turned, 3, some .int, RX6, 2, zflR, false)
abbrev KX6_mirrored : Kp := (cX6_mirrored, 4, some .int, RX6, 2, zflR, false)
abbrev KX6_counted : Kp := (cX6_counted, 4, some .int, RX6, 6, zflR, false)
abbrev KX6_count : Kp := (cX6_count, 2, some .int, RX6, 7, zflR, false)
abbrev KX6_shapes : Kp := (cX6_shapes, 3, some .int, RX6, 7, zflR, false)
abbrev KX6_land : Kp := (cX6_land, 3, some .int, RX6, 1, zflR, false)
abbrev KX6_bitsOfFloat : Kp := (cX6_bitsOfFloat, 3, some .int, RX6, 0, zfl0, false)
abbrev KX6_landShare : Kp := (cX6_landShare, 1, some .int, RX6, 2, zflR, false)
abbrev KX6_coastAt : Kp := (cX6_coastAt, 4, some .int, RX6, 3, zflR, false)
abbrev KX6_coast : Kp := (cX6_coast, 3, some .int, RX6, 4, zflR, false)
abbrev KX6_seeNone : Kp := (cX6_seeNone, 2, none, RX6, 0, zflR, false)
abbrev KX6_seeFound : Kp := (cX6_seeFound, 2, none, RX6, 0, zflR, false)
abbrev KX6_islands : Kp := (cX6_islands, 3, some .int, RX6, 3, zflR, false)
abbrev KX6_isInside : Kp := (cX6_isInside, 3, some .boolean, RX6, 1, zflR, false)
abbrev KX6_lakes : Kp := (cX6_lakes, 3, some .int, RX6, 3, zflR, false)
abbrev KX6_region : Kp := (cX6_region, 4, some .int, RX6, 3, zflR, false)
abbrev KX6_largestIsland : Kp := (cX6_largestIsland, 4, some .int, RX6, 3, zflR, false)
abbrev KX6_way : Kp := (cX6_way, 5, some .int, RX6, 3, zflR, false)
abbrev KX6_coastIfChanged : Kp := (cX6_coastIfChanged, 6, some .int, RX6, 5, zflR, false)
abbrev KX6_needs : Kp := (cX6_needs, 8, some .int, RX6, 3, zflR, false)
abbrev KX6_append : Kp := (cX6_append, 2, some .int, RX6, 1, zflR, false)
abbrev KX6_clearText : Kp := (cX6_clearText, 2, some .int, RX6, 0, zflR, false)
abbrev KX6_room : Kp := (cX6_room, 1, some .int, RX6, 0, zflR, false)
abbrev KX6_readOne : Kp := (cX6_readOne, 4, some .boolean, RX6, 1, zflR, false)
abbrev KX6_isRowWhole : Kp := (cX6_isRowWhole, 1, some .boolean, RX6, 0, zflR, false)
abbrev KX6_endRow : Kp := (cX6_endRow, 1, none, RX6, 0, zflR, false)
abbrev KX6_errorPosition : Kp := (cX6_errorPosition, 2, some .int, RX6, 2, zflR, false)
abbrev KX6_read : Kp := (cX6_read, 2, some .int, RX6, 3, zflR, false)
abbrev KJ6_bitCount_0f7a4 : Kp := (cJ6_bitCount_0f7a4, 1, some .int, RJ6, 0, zfl0, false)
abbrev KJ13_bitCount_95d88 : Kp := (cJ13_bitCount_95d88, 2, some .int, RJ13, 0, zfl0, false)
abbrev KJ9_max_7cf53 : Kp := (cJ9_max_7cf53, 2, some .int, RJ9, 0, zfl0, false)
abbrev KJ9_min_7cf53 : Kp := (cJ9_min_7cf53, 2, some .int, RJ9, 0, zfl0, false)
abbrev KJ7_fill_53178 : Kp := (cJ7_fill_53178, 4, none, RJ7, 0, zflX, false)
abbrev KL_law : Kp := (code, 4, ret, RL, 10, fun i => decide (i < 53), true)
theorem ok_X0_record : zOk yX0_record KX0_record 1 := ⟨by decide, List.mem_filter.mpr ⟨List.mem_of_getElem? (i := 49) (by decide +kernel), rfl⟩, List.mem_filter.mpr ⟨List.mem_of_getElem? (i := 225) (by decide +kernel), rfl⟩, by decide +kernel, by decide +kernel⟩
theorem im_X0_record : Cond.instanceMethod yX0_record ∈ TB := List.mem_filter.mpr ⟨List.mem_of_getElem? (i := 223) (by decide +kernel), rfl⟩
theorem se_X0_record : Cond.selects yX0_record.cls yX0_record yX0_record ∈ TB := List.mem_filter.mpr ⟨List.mem_of_getElem? (i := 224) (by decide +kernel), rfl⟩
theorem ok_X0_takeLatest : zOk yX0_takeLatest KX0_takeLatest 1 := ⟨by decide, List.mem_filter.mpr ⟨List.mem_of_getElem? (i := 49) (by decide +kernel), rfl⟩, List.mem_filter.mpr ⟨List.mem_of_getElem? (i := 578) (by decide +kernel), rfl⟩, by decide +kernel, by decide +kernel⟩
theorem im_X0_takeLatest : Cond.instanceMethod yX0_takeLatest ∈ TB := List.mem_filter.mpr ⟨List.mem_of_getElem? (i := 576) (by decide +kernel), rfl⟩
theorem se_X0_takeLatest : Cond.selects yX0_takeLatest.cls yX0_takeLatest yX0_takeLatest ∈ TB := List.mem_filter.mpr ⟨List.mem_of_getElem? (i := 577) (by decide +kernel), rfl⟩
theorem ok_X0_discardOldest : zOk yX0_discardOldest KX0_discardOldest 0 := ⟨by decide, List.mem_filter.mpr ⟨List.mem_of_getElem? (i := 49) (by decide +kernel), rfl⟩, List.mem_filter.mpr ⟨List.mem_of_getElem? (i := 229) (by decide +kernel), rfl⟩, by decide +kernel, by decide +kernel⟩
theorem im_X0_discardOldest : Cond.instanceMethod yX0_discardOldest ∈ TB := List.mem_filter.mpr ⟨List.mem_of_getElem? (i := 228) (by decide +kernel), rfl⟩
theorem se_X0_discardOldest : Cond.selects yX0_discardOldest.cls yX0_discardOldest yX0_discardOldest ∈ TB := List.mem_filter.mpr ⟨List.mem_of_getElem? (i := 0) (by decide +kernel), rfl⟩
theorem ok_X1_maskFor : zOk yX1_maskFor KX1_maskFor 1 := ⟨by decide, List.mem_filter.mpr ⟨List.mem_of_getElem? (i := 46) (by decide +kernel), rfl⟩, List.mem_filter.mpr ⟨List.mem_of_getElem? (i := 375) (by decide +kernel), rfl⟩, by decide +kernel, by decide +kernel⟩
theorem im_X1_maskFor : Cond.instanceMethod yX1_maskFor ∈ TB := List.mem_filter.mpr ⟨List.mem_of_getElem? (i := 373) (by decide +kernel), rfl⟩
theorem se_X1_maskFor : Cond.selects yX1_maskFor.cls yX1_maskFor yX1_maskFor ∈ TB := List.mem_filter.mpr ⟨List.mem_of_getElem? (i := 374) (by decide +kernel), rfl⟩
theorem ok_X1_shapeFor : zOk yX1_shapeFor KX1_shapeFor 1 := ⟨by decide, List.mem_filter.mpr ⟨List.mem_of_getElem? (i := 46) (by decide +kernel), rfl⟩, List.mem_filter.mpr ⟨List.mem_of_getElem? (i := 383) (by decide +kernel), rfl⟩, by decide +kernel, by decide +kernel⟩
theorem im_X1_shapeFor : Cond.instanceMethod yX1_shapeFor ∈ TB := List.mem_filter.mpr ⟨List.mem_of_getElem? (i := 381) (by decide +kernel), rfl⟩
theorem se_X1_shapeFor : Cond.selects yX1_shapeFor.cls yX1_shapeFor yX1_shapeFor ∈ TB := List.mem_filter.mpr ⟨List.mem_of_getElem? (i := 382) (by decide +kernel), rfl⟩
theorem ok_X1_turnedShape : zOk yX1_turnedShape KX1_turnedShape 2 := ⟨by decide, List.mem_filter.mpr ⟨List.mem_of_getElem? (i := 46) (by decide +kernel), rfl⟩, List.mem_filter.mpr ⟨List.mem_of_getElem? (i := 371) (by decide +kernel), rfl⟩, by decide +kernel, by decide +kernel⟩
theorem im_X1_turnedShape : Cond.instanceMethod yX1_turnedShape ∈ TB := List.mem_filter.mpr ⟨List.mem_of_getElem? (i := 369) (by decide +kernel), rfl⟩
theorem se_X1_turnedShape : Cond.selects yX1_turnedShape.cls yX1_turnedShape yX1_turnedShape ∈ TB := List.mem_filter.mpr ⟨List.mem_of_getElem? (i := 370) (by decide +kernel), rfl⟩
theorem ok_X1_mirroredShape : zOk yX1_mirroredShape KX1_mirroredShape 1 := ⟨by decide, List.mem_filter.mpr ⟨List.mem_of_getElem? (i := 46) (by decide +kernel), rfl⟩, List.mem_filter.mpr ⟨List.mem_of_getElem? (i := 457) (by decide +kernel), rfl⟩, by decide +kernel, by decide +kernel⟩
theorem im_X1_mirroredShape : Cond.instanceMethod yX1_mirroredShape ∈ TB := List.mem_filter.mpr ⟨List.mem_of_getElem? (i := 455) (by decide +kernel), rfl⟩
theorem se_X1_mirroredShape : Cond.selects yX1_mirroredShape.cls yX1_mirroredShape yX1_mirroredShape ∈ TB := List.mem_filter.mpr ⟨List.mem_of_getElem? (i := 456) (by decide +kernel), rfl⟩
theorem ok_X2_forget : zOk yX2_forget KX2_forget 0 := ⟨by decide, List.mem_filter.mpr ⟨List.mem_of_getElem? (i := 50) (by decide +kernel), rfl⟩, List.mem_filter.mpr ⟨List.mem_of_getElem? (i := 314) (by decide +kernel), rfl⟩, by decide +kernel, by decide +kernel⟩
theorem im_X2_forget : Cond.instanceMethod yX2_forget ∈ TB := List.mem_filter.mpr ⟨List.mem_of_getElem? (i := 312) (by decide +kernel), rfl⟩
theorem se_X2_forget : Cond.selects yX2_forget.cls yX2_forget yX2_forget ∈ TB := List.mem_filter.mpr ⟨List.mem_of_getElem? (i := 313) (by decide +kernel), rfl⟩
theorem ok_X2_hasReached : zOk yX2_hasReached KX2_hasReached 2 := ⟨by decide, List.mem_filter.mpr ⟨List.mem_of_getElem? (i := 50) (by decide +kernel), rfl⟩, List.mem_filter.mpr ⟨List.mem_of_getElem? (i := 328) (by decide +kernel), rfl⟩, by decide +kernel, by decide +kernel⟩
theorem im_X2_hasReached : Cond.instanceMethod yX2_hasReached ∈ TB := List.mem_filter.mpr ⟨List.mem_of_getElem? (i := 326) (by decide +kernel), rfl⟩
theorem se_X2_hasReached : Cond.selects yX2_hasReached.cls yX2_hasReached yX2_hasReached ∈ TB := List.mem_filter.mpr ⟨List.mem_of_getElem? (i := 327) (by decide +kernel), rfl⟩
theorem ok_X2_stepsTo : zOk yX2_stepsTo KX2_stepsTo 2 := ⟨by decide, List.mem_filter.mpr ⟨List.mem_of_getElem? (i := 50) (by decide +kernel), rfl⟩, List.mem_filter.mpr ⟨List.mem_of_getElem? (i := 332) (by decide +kernel), rfl⟩, by decide +kernel, by decide +kernel⟩
theorem im_X2_stepsTo : Cond.instanceMethod yX2_stepsTo ∈ TB := List.mem_filter.mpr ⟨List.mem_of_getElem? (i := 330) (by decide +kernel), rfl⟩
theorem se_X2_stepsTo : Cond.selects yX2_stepsTo.cls yX2_stepsTo yX2_stepsTo ∈ TB := List.mem_filter.mpr ⟨List.mem_of_getElem? (i := 331) (by decide +kernel), rfl⟩
theorem ok_X2_overRegion : zOk yX2_overRegion KX2_overRegion 4 := ⟨by decide, List.mem_filter.mpr ⟨List.mem_of_getElem? (i := 50) (by decide +kernel), rfl⟩, List.mem_filter.mpr ⟨List.mem_of_getElem? (i := 319) (by decide +kernel), rfl⟩, by decide +kernel, by decide +kernel⟩
theorem im_X2_overRegion : Cond.instanceMethod yX2_overRegion ∈ TB := List.mem_filter.mpr ⟨List.mem_of_getElem? (i := 317) (by decide +kernel), rfl⟩
theorem se_X2_overRegion : Cond.selects yX2_overRegion.cls yX2_overRegion yX2_overRegion ∈ TB := List.mem_filter.mpr ⟨List.mem_of_getElem? (i := 318) (by decide +kernel), rfl⟩
theorem ok_X2_reachNeighbours : zOk yX2_reachNeighbours KX2_reachNeighbours 3 := ⟨by decide, List.mem_filter.mpr ⟨List.mem_of_getElem? (i := 50) (by decide +kernel), rfl⟩, List.mem_filter.mpr ⟨List.mem_of_getElem? (i := 336) (by decide +kernel), rfl⟩, by decide +kernel, by decide +kernel⟩
theorem im_X2_reachNeighbours : Cond.instanceMethod yX2_reachNeighbours ∈ TB := List.mem_filter.mpr ⟨List.mem_of_getElem? (i := 335) (by decide +kernel), rfl⟩
theorem se_X2_reachNeighbours : Cond.selects yX2_reachNeighbours.cls yX2_reachNeighbours yX2_reachNeighbours ∈ TB := List.mem_filter.mpr ⟨List.mem_of_getElem? (i := 5) (by decide +kernel), rfl⟩
theorem ok_X2_reach : zOk yX2_reach KX2_reach 4 := ⟨by decide, List.mem_filter.mpr ⟨List.mem_of_getElem? (i := 50) (by decide +kernel), rfl⟩, List.mem_filter.mpr ⟨List.mem_of_getElem? (i := 323) (by decide +kernel), rfl⟩, by decide +kernel, by decide +kernel⟩
theorem im_X2_reach : Cond.instanceMethod yX2_reach ∈ TB := List.mem_filter.mpr ⟨List.mem_of_getElem? (i := 322) (by decide +kernel), rfl⟩
theorem se_X2_reach : Cond.selects yX2_reach.cls yX2_reach yX2_reach ∈ TB := List.mem_filter.mpr ⟨List.mem_of_getElem? (i := 4) (by decide +kernel), rfl⟩
theorem ok_X3_has : zOk yX3_has KX3_has 2 := ⟨by decide, List.mem_filter.mpr ⟨List.mem_of_getElem? (i := 47) (by decide +kernel), rfl⟩, List.mem_filter.mpr ⟨List.mem_of_getElem? (i := 266) (by decide +kernel), rfl⟩, by decide +kernel, by decide +kernel⟩
theorem im_X3_has : Cond.instanceMethod yX3_has ∈ TB := List.mem_filter.mpr ⟨List.mem_of_getElem? (i := 264) (by decide +kernel), rfl⟩
theorem se_X3_has : Cond.selects yX3_has.cls yX3_has yX3_has ∈ TB := List.mem_filter.mpr ⟨List.mem_of_getElem? (i := 265) (by decide +kernel), rfl⟩
theorem ok_X3_isLandAt : zOk yX3_isLandAt KX3_isLandAt 2 := ⟨by decide, List.mem_filter.mpr ⟨List.mem_of_getElem? (i := 47) (by decide +kernel), rfl⟩, List.mem_filter.mpr ⟨List.mem_of_getElem? (i := 277) (by decide +kernel), rfl⟩, by decide +kernel, by decide +kernel⟩
theorem im_X3_isLandAt : Cond.instanceMethod yX3_isLandAt ∈ TB := List.mem_filter.mpr ⟨List.mem_of_getElem? (i := 275) (by decide +kernel), rfl⟩
theorem se_X3_isLandAt : Cond.selects yX3_isLandAt.cls yX3_isLandAt yX3_isLandAt ∈ TB := List.mem_filter.mpr ⟨List.mem_of_getElem? (i := 276) (by decide +kernel), rfl⟩
theorem ok_X3_pinAt : zOk yX3_pinAt KX3_pinAt 2 := ⟨by decide, List.mem_filter.mpr ⟨List.mem_of_getElem? (i := 47) (by decide +kernel), rfl⟩, List.mem_filter.mpr ⟨List.mem_of_getElem? (i := 285) (by decide +kernel), rfl⟩, by decide +kernel, by decide +kernel⟩
theorem im_X3_pinAt : Cond.instanceMethod yX3_pinAt ∈ TB := List.mem_filter.mpr ⟨List.mem_of_getElem? (i := 283) (by decide +kernel), rfl⟩
theorem se_X3_pinAt : Cond.selects yX3_pinAt.cls yX3_pinAt yX3_pinAt ∈ TB := List.mem_filter.mpr ⟨List.mem_of_getElem? (i := 284) (by decide +kernel), rfl⟩
theorem ok_X3_isPinnedAt : zOk yX3_isPinnedAt KX3_isPinnedAt 2 := ⟨by decide, List.mem_filter.mpr ⟨List.mem_of_getElem? (i := 47) (by decide +kernel), rfl⟩, List.mem_filter.mpr ⟨List.mem_of_getElem? (i := 281) (by decide +kernel), rfl⟩, by decide +kernel, by decide +kernel⟩
theorem im_X3_isPinnedAt : Cond.instanceMethod yX3_isPinnedAt ∈ TB := List.mem_filter.mpr ⟨List.mem_of_getElem? (i := 279) (by decide +kernel), rfl⟩
theorem se_X3_isPinnedAt : Cond.selects yX3_isPinnedAt.cls yX3_isPinnedAt yX3_isPinnedAt ∈ TB := List.mem_filter.mpr ⟨List.mem_of_getElem? (i := 280) (by decide +kernel), rfl⟩
theorem ok_X3_putKind : zOk yX3_putKind KX3_putKind 3 := ⟨by decide, List.mem_filter.mpr ⟨List.mem_of_getElem? (i := 47) (by decide +kernel), rfl⟩, List.mem_filter.mpr ⟨List.mem_of_getElem? (i := 306) (by decide +kernel), rfl⟩, by decide +kernel, by decide +kernel⟩
theorem im_X3_putKind : Cond.instanceMethod yX3_putKind ∈ TB := List.mem_filter.mpr ⟨List.mem_of_getElem? (i := 304) (by decide +kernel), rfl⟩
theorem se_X3_putKind : Cond.selects yX3_putKind.cls yX3_putKind yX3_putKind ∈ TB := List.mem_filter.mpr ⟨List.mem_of_getElem? (i := 305) (by decide +kernel), rfl⟩
theorem ok_X3_putPin : zOk yX3_putPin KX3_putPin 3 := ⟨by decide, List.mem_filter.mpr ⟨List.mem_of_getElem? (i := 47) (by decide +kernel), rfl⟩, List.mem_filter.mpr ⟨List.mem_of_getElem? (i := 387) (by decide +kernel), rfl⟩, by decide +kernel, by decide +kernel⟩
theorem im_X3_putPin : Cond.instanceMethod yX3_putPin ∈ TB := List.mem_filter.mpr ⟨List.mem_of_getElem? (i := 385) (by decide +kernel), rfl⟩
theorem se_X3_putPin : Cond.selects yX3_putPin.cls yX3_putPin yX3_putPin ∈ TB := List.mem_filter.mpr ⟨List.mem_of_getElem? (i := 386) (by decide +kernel), rfl⟩
theorem ok_X3_becomeWater : zOk yX3_becomeWater KX3_becomeWater 2 := ⟨by decide, List.mem_filter.mpr ⟨List.mem_of_getElem? (i := 47) (by decide +kernel), rfl⟩, List.mem_filter.mpr ⟨List.mem_of_getElem? (i := 237) (by decide +kernel), rfl⟩, by decide +kernel, by decide +kernel⟩
theorem im_X3_becomeWater : Cond.instanceMethod yX3_becomeWater ∈ TB := List.mem_filter.mpr ⟨List.mem_of_getElem? (i := 235) (by decide +kernel), rfl⟩
theorem se_X3_becomeWater : Cond.selects yX3_becomeWater.cls yX3_becomeWater yX3_becomeWater ∈ TB := List.mem_filter.mpr ⟨List.mem_of_getElem? (i := 236) (by decide +kernel), rfl⟩
theorem ok_X3_copyFrom : zOk yX3_copyFrom KX3_copyFrom 1 := ⟨by decide, List.mem_filter.mpr ⟨List.mem_of_getElem? (i := 47) (by decide +kernel), rfl⟩, List.mem_filter.mpr ⟨List.mem_of_getElem? (i := 233) (by decide +kernel), rfl⟩, by decide +kernel, by decide +kernel⟩
theorem im_X3_copyFrom : Cond.instanceMethod yX3_copyFrom ∈ TB := List.mem_filter.mpr ⟨List.mem_of_getElem? (i := 231) (by decide +kernel), rfl⟩
theorem se_X3_copyFrom : Cond.selects yX3_copyFrom.cls yX3_copyFrom yX3_copyFrom ∈ TB := List.mem_filter.mpr ⟨List.mem_of_getElem? (i := 232) (by decide +kernel), rfl⟩
theorem ok_X3_surroundingsOf : zOk yX3_surroundingsOf KX3_surroundingsOf 2 := ⟨by decide, List.mem_filter.mpr ⟨List.mem_of_getElem? (i := 47) (by decide +kernel), rfl⟩, List.mem_filter.mpr ⟨List.mem_of_getElem? (i := 289) (by decide +kernel), rfl⟩, by decide +kernel, by decide +kernel⟩
theorem im_X3_surroundingsOf : Cond.instanceMethod yX3_surroundingsOf ∈ TB := List.mem_filter.mpr ⟨List.mem_of_getElem? (i := 287) (by decide +kernel), rfl⟩
theorem se_X3_surroundingsOf : Cond.selects yX3_surroundingsOf.cls yX3_surroundingsOf yX3_surroundingsOf ∈ TB := List.mem_filter.mpr ⟨List.mem_of_getElem? (i := 288) (by decide +kernel), rfl⟩
theorem ok_X3_outsideBitsOf : zOk yX3_outsideBitsOf KX3_outsideBitsOf 2 := ⟨by decide, List.mem_filter.mpr ⟨List.mem_of_getElem? (i := 47) (by decide +kernel), rfl⟩, List.mem_filter.mpr ⟨List.mem_of_getElem? (i := 252) (by decide +kernel), rfl⟩, by decide +kernel, by decide +kernel⟩
theorem im_X3_outsideBitsOf : Cond.instanceMethod yX3_outsideBitsOf ∈ TB := List.mem_filter.mpr ⟨List.mem_of_getElem? (i := 250) (by decide +kernel), rfl⟩
theorem se_X3_outsideBitsOf : Cond.selects yX3_outsideBitsOf.cls yX3_outsideBitsOf yX3_outsideBitsOf ∈ TB := List.mem_filter.mpr ⟨List.mem_of_getElem? (i := 251) (by decide +kernel), rfl⟩
theorem ok_X3_landTiles : zOk yX3_landTiles KX3_landTiles 0 := ⟨by decide, List.mem_filter.mpr ⟨List.mem_of_getElem? (i := 47) (by decide +kernel), rfl⟩, List.mem_filter.mpr ⟨List.mem_of_getElem? (i := 479) (by decide +kernel), rfl⟩, by decide +kernel, by decide +kernel⟩
theorem im_X3_landTiles : Cond.instanceMethod yX3_landTiles ∈ TB := List.mem_filter.mpr ⟨List.mem_of_getElem? (i := 477) (by decide +kernel), rfl⟩
theorem se_X3_landTiles : Cond.selects yX3_landTiles.cls yX3_landTiles yX3_landTiles ∈ TB := List.mem_filter.mpr ⟨List.mem_of_getElem? (i := 478) (by decide +kernel), rfl⟩
theorem ok_X4_add : zOk yX4_add KX4_add 1 := ⟨by decide, List.mem_filter.mpr ⟨List.mem_of_getElem? (i := 51) (by decide +kernel), rfl⟩, List.mem_filter.mpr ⟨List.mem_of_getElem? (i := 528) (by decide +kernel), rfl⟩, by decide +kernel, by decide +kernel⟩
theorem im_X4_add : Cond.instanceMethod yX4_add ∈ TB := List.mem_filter.mpr ⟨List.mem_of_getElem? (i := 526) (by decide +kernel), rfl⟩
theorem se_X4_add : Cond.selects yX4_add.cls yX4_add yX4_add ∈ TB := List.mem_filter.mpr ⟨List.mem_of_getElem? (i := 527) (by decide +kernel), rfl⟩
theorem ok_X4_parse : zOk yX4_parse KX4_parse 0 := ⟨by decide, List.mem_filter.mpr ⟨List.mem_of_getElem? (i := 51) (by decide +kernel), rfl⟩, List.mem_filter.mpr ⟨List.mem_of_getElem? (i := 540) (by decide +kernel), rfl⟩, by decide +kernel, by decide +kernel⟩
theorem im_X4_parse : Cond.instanceMethod yX4_parse ∈ TB := List.mem_filter.mpr ⟨List.mem_of_getElem? (i := 538) (by decide +kernel), rfl⟩
theorem se_X4_parse : Cond.selects yX4_parse.cls yX4_parse yX4_parse ∈ TB := List.mem_filter.mpr ⟨List.mem_of_getElem? (i := 539) (by decide +kernel), rfl⟩
theorem ok_X4_accepts : zOk yX4_accepts KX4_accepts 1 := ⟨by decide, List.mem_filter.mpr ⟨List.mem_of_getElem? (i := 51) (by decide +kernel), rfl⟩, List.mem_filter.mpr ⟨List.mem_of_getElem? (i := 545) (by decide +kernel), rfl⟩, by decide +kernel, by decide +kernel⟩
theorem im_X4_accepts : Cond.instanceMethod yX4_accepts ∈ TB := List.mem_filter.mpr ⟨List.mem_of_getElem? (i := 544) (by decide +kernel), rfl⟩
theorem se_X4_accepts : Cond.selects yX4_accepts.cls yX4_accepts yX4_accepts ∈ TB := List.mem_filter.mpr ⟨List.mem_of_getElem? (i := 11) (by decide +kernel), rfl⟩
theorem ok_X4_acceptsRowEnd : zOk yX4_acceptsRowEnd KX4_acceptsRowEnd 0 := ⟨by decide, List.mem_filter.mpr ⟨List.mem_of_getElem? (i := 51) (by decide +kernel), rfl⟩, List.mem_filter.mpr ⟨List.mem_of_getElem? (i := 549) (by decide +kernel), rfl⟩, by decide +kernel, by decide +kernel⟩
theorem im_X4_acceptsRowEnd : Cond.instanceMethod yX4_acceptsRowEnd ∈ TB := List.mem_filter.mpr ⟨List.mem_of_getElem? (i := 548) (by decide +kernel), rfl⟩
theorem se_X4_acceptsRowEnd : Cond.selects yX4_acceptsRowEnd.cls yX4_acceptsRowEnd yX4_acceptsRowEnd ∈ TB := List.mem_filter.mpr ⟨List.mem_of_getElem? (i := 12) (by decide +kernel), rfl⟩
theorem ok_X4_acceptsRun : zOk yX4_acceptsRun KX4_acceptsRun 1 := ⟨by decide, List.mem_filter.mpr ⟨List.mem_of_getElem? (i := 51) (by decide +kernel), rfl⟩, List.mem_filter.mpr ⟨List.mem_of_getElem? (i := 557) (by decide +kernel), rfl⟩, by decide +kernel, by decide +kernel⟩
theorem im_X4_acceptsRun : Cond.instanceMethod yX4_acceptsRun ∈ TB := List.mem_filter.mpr ⟨List.mem_of_getElem? (i := 556) (by decide +kernel), rfl⟩
theorem se_X4_acceptsRun : Cond.selects yX4_acceptsRun.cls yX4_acceptsRun yX4_acceptsRun ∈ TB := List.mem_filter.mpr ⟨List.mem_of_getElem? (i := 14) (by decide +kernel), rfl⟩
theorem ok_X4_acceptsDigit : zOk yX4_acceptsDigit KX4_acceptsDigit 1 := ⟨by decide, List.mem_filter.mpr ⟨List.mem_of_getElem? (i := 51) (by decide +kernel), rfl⟩, List.mem_filter.mpr ⟨List.mem_of_getElem? (i := 566) (by decide +kernel), rfl⟩, by decide +kernel, by decide +kernel⟩
theorem im_X4_acceptsDigit : Cond.instanceMethod yX4_acceptsDigit ∈ TB := List.mem_filter.mpr ⟨List.mem_of_getElem? (i := 565) (by decide +kernel), rfl⟩
theorem se_X4_acceptsDigit : Cond.selects yX4_acceptsDigit.cls yX4_acceptsDigit yX4_acceptsDigit ∈ TB := List.mem_filter.mpr ⟨List.mem_of_getElem? (i := 16) (by decide +kernel), rfl⟩
theorem ok_X4_rowCanEnd : zOk yX4_rowCanEnd KX4_rowCanEnd 0 := ⟨by decide, List.mem_filter.mpr ⟨List.mem_of_getElem? (i := 51) (by decide +kernel), rfl⟩, List.mem_filter.mpr ⟨List.mem_of_getElem? (i := 553) (by decide +kernel), rfl⟩, by decide +kernel, by decide +kernel⟩
theorem im_X4_rowCanEnd : Cond.instanceMethod yX4_rowCanEnd ∈ TB := List.mem_filter.mpr ⟨List.mem_of_getElem? (i := 552) (by decide +kernel), rfl⟩
theorem se_X4_rowCanEnd : Cond.selects yX4_rowCanEnd.cls yX4_rowCanEnd yX4_rowCanEnd ∈ TB := List.mem_filter.mpr ⟨List.mem_of_getElem? (i := 13) (by decide +kernel), rfl⟩
theorem ok_X4_columnsLeft : zOk yX4_columnsLeft KX4_columnsLeft 0 := ⟨by decide, List.mem_filter.mpr ⟨List.mem_of_getElem? (i := 51) (by decide +kernel), rfl⟩, List.mem_filter.mpr ⟨List.mem_of_getElem? (i := 561) (by decide +kernel), rfl⟩, by decide +kernel, by decide +kernel⟩
theorem im_X4_columnsLeft : Cond.instanceMethod yX4_columnsLeft ∈ TB := List.mem_filter.mpr ⟨List.mem_of_getElem? (i := 560) (by decide +kernel), rfl⟩
theorem se_X4_columnsLeft : Cond.selects yX4_columnsLeft.cls yX4_columnsLeft yX4_columnsLeft ∈ TB := List.mem_filter.mpr ⟨List.mem_of_getElem? (i := 15) (by decide +kernel), rfl⟩
theorem ok_X5_begin : zOk yX5_begin KX5_begin 2 := ⟨by decide, List.mem_filter.mpr ⟨List.mem_of_getElem? (i := 45) (by decide +kernel), rfl⟩, List.mem_filter.mpr ⟨List.mem_of_getElem? (i := 218) (by decide +kernel), rfl⟩, by decide +kernel, by decide +kernel⟩
theorem im_X5_begin : Cond.instanceMethod yX5_begin ∈ TB := List.mem_filter.mpr ⟨List.mem_of_getElem? (i := 216) (by decide +kernel), rfl⟩
theorem se_X5_begin : Cond.selects yX5_begin.cls yX5_begin yX5_begin ∈ TB := List.mem_filter.mpr ⟨List.mem_of_getElem? (i := 217) (by decide +kernel), rfl⟩
theorem ok_X5_setOutside : zOk yX5_setOutside KX5_setOutside 1 := ⟨by decide, List.mem_filter.mpr ⟨List.mem_of_getElem? (i := 45) (by decide +kernel), rfl⟩, List.mem_filter.mpr ⟨List.mem_of_getElem? (i := 244) (by decide +kernel), rfl⟩, by decide +kernel, by decide +kernel⟩
theorem im_X5_setOutside : Cond.instanceMethod yX5_setOutside ∈ TB := List.mem_filter.mpr ⟨List.mem_of_getElem? (i := 242) (by decide +kernel), rfl⟩
theorem se_X5_setOutside : Cond.selects yX5_setOutside.cls yX5_setOutside yX5_setOutside ∈ TB := List.mem_filter.mpr ⟨List.mem_of_getElem? (i := 243) (by decide +kernel), rfl⟩
theorem ok_X5_set : zOk yX5_set KX5_set 3 := ⟨by decide, List.mem_filter.mpr ⟨List.mem_of_getElem? (i := 45) (by decide +kernel), rfl⟩, List.mem_filter.mpr ⟨List.mem_of_getElem? (i := 295) (by decide +kernel), rfl⟩, by decide +kernel, by decide +kernel⟩
theorem im_X5_set : Cond.instanceMethod yX5_set ∈ TB := List.mem_filter.mpr ⟨List.mem_of_getElem? (i := 293) (by decide +kernel), rfl⟩
theorem se_X5_set : Cond.selects yX5_set.cls yX5_set yX5_set ∈ TB := List.mem_filter.mpr ⟨List.mem_of_getElem? (i := 294) (by decide +kernel), rfl⟩
theorem ok_X5_fill : zOk yX5_fill KX5_fill 3 := ⟨by decide, List.mem_filter.mpr ⟨List.mem_of_getElem? (i := 45) (by decide +kernel), rfl⟩, List.mem_filter.mpr ⟨List.mem_of_getElem? (i := 310) (by decide +kernel), rfl⟩, by decide +kernel, by decide +kernel⟩
theorem im_X5_fill : Cond.instanceMethod yX5_fill ∈ TB := List.mem_filter.mpr ⟨List.mem_of_getElem? (i := 308) (by decide +kernel), rfl⟩
theorem se_X5_fill : Cond.selects yX5_fill.cls yX5_fill yX5_fill ∈ TB := List.mem_filter.mpr ⟨List.mem_of_getElem? (i := 309) (by decide +kernel), rfl⟩
theorem ok_X5_brush : zOk yX5_brush KX5_brush 4 := ⟨by decide, List.mem_filter.mpr ⟨List.mem_of_getElem? (i := 45) (by decide +kernel), rfl⟩, List.mem_filter.mpr ⟨List.mem_of_getElem? (i := 347) (by decide +kernel), rfl⟩, by decide +kernel, by decide +kernel⟩
theorem im_X5_brush : Cond.instanceMethod yX5_brush ∈ TB := List.mem_filter.mpr ⟨List.mem_of_getElem? (i := 345) (by decide +kernel), rfl⟩
theorem se_X5_brush : Cond.selects yX5_brush.cls yX5_brush yX5_brush ∈ TB := List.mem_filter.mpr ⟨List.mem_of_getElem? (i := 346) (by decide +kernel), rfl⟩
theorem ok_X5_smooth : zOk yX5_smooth KX5_smooth 1 := ⟨by decide, List.mem_filter.mpr ⟨List.mem_of_getElem? (i := 45) (by decide +kernel), rfl⟩, List.mem_filter.mpr ⟨List.mem_of_getElem? (i := 351) (by decide +kernel), rfl⟩, by decide +kernel, by decide +kernel⟩
theorem im_X5_smooth : Cond.instanceMethod yX5_smooth ∈ TB := List.mem_filter.mpr ⟨List.mem_of_getElem? (i := 349) (by decide +kernel), rfl⟩
theorem se_X5_smooth : Cond.selects yX5_smooth.cls yX5_smooth yX5_smooth ∈ TB := List.mem_filter.mpr ⟨List.mem_of_getElem? (i := 350) (by decide +kernel), rfl⟩
theorem ok_X5_turn : zOk yX5_turn KX5_turn 1 := ⟨by decide, List.mem_filter.mpr ⟨List.mem_of_getElem? (i := 45) (by decide +kernel), rfl⟩, List.mem_filter.mpr ⟨List.mem_of_getElem? (i := 362) (by decide +kernel), rfl⟩, by decide +kernel, by decide +kernel⟩
theorem im_X5_turn : Cond.instanceMethod yX5_turn ∈ TB := List.mem_filter.mpr ⟨List.mem_of_getElem? (i := 360) (by decide +kernel), rfl⟩
theorem se_X5_turn : Cond.selects yX5_turn.cls yX5_turn yX5_turn ∈ TB := List.mem_filter.mpr ⟨List.mem_of_getElem? (i := 361) (by decide +kernel), rfl⟩
theorem ok_X5_rows : zOk yX5_rows KX5_rows 0 := ⟨by decide, List.mem_filter.mpr ⟨List.mem_of_getElem? (i := 45) (by decide +kernel), rfl⟩, List.mem_filter.mpr ⟨List.mem_of_getElem? (i := 391) (by decide +kernel), rfl⟩, by decide +kernel, by decide +kernel⟩
theorem im_X5_rows : Cond.instanceMethod yX5_rows ∈ TB := List.mem_filter.mpr ⟨List.mem_of_getElem? (i := 389) (by decide +kernel), rfl⟩
theorem se_X5_rows : Cond.selects yX5_rows.cls yX5_rows yX5_rows ∈ TB := List.mem_filter.mpr ⟨List.mem_of_getElem? (i := 390) (by decide +kernel), rfl⟩
theorem ok_X5_columns : zOk yX5_columns KX5_columns 0 := ⟨by decide, List.mem_filter.mpr ⟨List.mem_of_getElem? (i := 45) (by decide +kernel), rfl⟩, List.mem_filter.mpr ⟨List.mem_of_getElem? (i := 395) (by decide +kernel), rfl⟩, by decide +kernel, by decide +kernel⟩
theorem im_X5_columns : Cond.instanceMethod yX5_columns ∈ TB := List.mem_filter.mpr ⟨List.mem_of_getElem? (i := 393) (by decide +kernel), rfl⟩
theorem se_X5_columns : Cond.selects yX5_columns.cls yX5_columns yX5_columns ∈ TB := List.mem_filter.mpr ⟨List.mem_of_getElem? (i := 394) (by decide +kernel), rfl⟩
theorem ok_X5_tile : zOk yX5_tile KX5_tile 3 := ⟨by decide, List.mem_filter.mpr ⟨List.mem_of_getElem? (i := 45) (by decide +kernel), rfl⟩, List.mem_filter.mpr ⟨List.mem_of_getElem? (i := 399) (by decide +kernel), rfl⟩, by decide +kernel, by decide +kernel⟩
theorem im_X5_tile : Cond.instanceMethod yX5_tile ∈ TB := List.mem_filter.mpr ⟨List.mem_of_getElem? (i := 397) (by decide +kernel), rfl⟩
theorem se_X5_tile : Cond.selects yX5_tile.cls yX5_tile yX5_tile ∈ TB := List.mem_filter.mpr ⟨List.mem_of_getElem? (i := 398) (by decide +kernel), rfl⟩
theorem ok_X5_pin : zOk yX5_pin KX5_pin 3 := ⟨by decide, List.mem_filter.mpr ⟨List.mem_of_getElem? (i := 45) (by decide +kernel), rfl⟩, List.mem_filter.mpr ⟨List.mem_of_getElem? (i := 421) (by decide +kernel), rfl⟩, by decide +kernel, by decide +kernel⟩
theorem im_X5_pin : Cond.instanceMethod yX5_pin ∈ TB := List.mem_filter.mpr ⟨List.mem_of_getElem? (i := 419) (by decide +kernel), rfl⟩
theorem se_X5_pin : Cond.selects yX5_pin.cls yX5_pin yX5_pin ∈ TB := List.mem_filter.mpr ⟨List.mem_of_getElem? (i := 420) (by decide +kernel), rfl⟩
theorem ok_X5_unpin : zOk yX5_unpin KX5_unpin 2 := ⟨by decide, List.mem_filter.mpr ⟨List.mem_of_getElem? (i := 45) (by decide +kernel), rfl⟩, List.mem_filter.mpr ⟨List.mem_of_getElem? (i := 426) (by decide +kernel), rfl⟩, by decide +kernel, by decide +kernel⟩
theorem im_X5_unpin : Cond.instanceMethod yX5_unpin ∈ TB := List.mem_filter.mpr ⟨List.mem_of_getElem? (i := 424) (by decide +kernel), rfl⟩
theorem se_X5_unpin : Cond.selects yX5_unpin.cls yX5_unpin yX5_unpin ∈ TB := List.mem_filter.mpr ⟨List.mem_of_getElem? (i := 425) (by decide +kernel), rfl⟩
theorem ok_X5_faults : zOk yX5_faults KX5_faults 0 := ⟨by decide, List.mem_filter.mpr ⟨List.mem_of_getElem? (i := 45) (by decide +kernel), rfl⟩, List.mem_filter.mpr ⟨List.mem_of_getElem? (i := 430) (by decide +kernel), rfl⟩, by decide +kernel, by decide +kernel⟩
theorem im_X5_faults : Cond.instanceMethod yX5_faults ∈ TB := List.mem_filter.mpr ⟨List.mem_of_getElem? (i := 428) (by decide +kernel), rfl⟩
theorem se_X5_faults : Cond.selects yX5_faults.cls yX5_faults yX5_faults ∈ TB := List.mem_filter.mpr ⟨List.mem_of_getElem? (i := 429) (by decide +kernel), rfl⟩
theorem ok_X5_firstFault : zOk yX5_firstFault KX5_firstFault 0 := ⟨by decide, List.mem_filter.mpr ⟨List.mem_of_getElem? (i := 45) (by decide +kernel), rfl⟩, List.mem_filter.mpr ⟨List.mem_of_getElem? (i := 434) (by decide +kernel), rfl⟩, by decide +kernel, by decide +kernel⟩
theorem im_X5_firstFault : Cond.instanceMethod yX5_firstFault ∈ TB := List.mem_filter.mpr ⟨List.mem_of_getElem? (i := 432) (by decide +kernel), rfl⟩
theorem se_X5_firstFault : Cond.selects yX5_firstFault.cls yX5_firstFault yX5_firstFault ∈ TB := List.mem_filter.mpr ⟨List.mem_of_getElem? (i := 433) (by decide +kernel), rfl⟩
theorem ok_X5_maskOf : zOk yX5_maskOf KX5_maskOf 1 := ⟨by decide, List.mem_filter.mpr ⟨List.mem_of_getElem? (i := 45) (by decide +kernel), rfl⟩, List.mem_filter.mpr ⟨List.mem_of_getElem? (i := 441) (by decide +kernel), rfl⟩, by decide +kernel, by decide +kernel⟩
theorem im_X5_maskOf : Cond.instanceMethod yX5_maskOf ∈ TB := List.mem_filter.mpr ⟨List.mem_of_getElem? (i := 439) (by decide +kernel), rfl⟩
theorem se_X5_maskOf : Cond.selects yX5_maskOf.cls yX5_maskOf yX5_maskOf ∈ TB := List.mem_filter.mpr ⟨List.mem_of_getElem? (i := 440) (by decide +kernel), rfl⟩
theorem ok_X5_shapeOf : zOk yX5_shapeOf KX5_shapeOf 1 := ⟨by decide, List.mem_filter.mpr ⟨List.mem_of_getElem? (i := 45) (by decide +kernel), rfl⟩, List.mem_filter.mpr ⟨List.mem_of_getElem? (i := 445) (by decide +kernel), rfl⟩, by decide +kernel, by decide +kernel⟩
theorem im_X5_shapeOf : Cond.instanceMethod yX5_shapeOf ∈ TB := List.mem_filter.mpr ⟨List.mem_of_getElem? (i := 443) (by decide +kernel), rfl⟩
theorem se_X5_shapeOf : Cond.selects yX5_shapeOf.cls yX5_shapeOf yX5_shapeOf ∈ TB := List.mem_filter.mpr ⟨List.mem_of_getElem? (i := 444) (by decide +kernel), rfl⟩
theorem ok_X5_turned : zOk yX5_turned KX5_turned 2 := ⟨by decide, List.mem_filter.mpr ⟨List.mem_of_getElem? (i := 45) (by decide +kernel), rfl⟩, List.mem_filter.mpr ⟨List.mem_of_getElem? (i := 449) (by decide +kernel), rfl⟩, by decide +kernel, by decide +kernel⟩
theorem im_X5_turned : Cond.instanceMethod yX5_turned ∈ TB := List.mem_filter.mpr ⟨List.mem_of_getElem? (i := 447) (by decide +kernel), rfl⟩
theorem se_X5_turned : Cond.selects yX5_turned.cls yX5_turned yX5_turned ∈ TB := List.mem_filter.mpr ⟨List.mem_of_getElem? (i := 448) (by decide +kernel), rfl⟩
theorem ok_X5_mirrored : zOk yX5_mirrored KX5_mirrored 1 := ⟨by decide, List.mem_filter.mpr ⟨List.mem_of_getElem? (i := 45) (by decide +kernel), rfl⟩, List.mem_filter.mpr ⟨List.mem_of_getElem? (i := 453) (by decide +kernel), rfl⟩, by decide +kernel, by decide +kernel⟩
theorem im_X5_mirrored : Cond.instanceMethod yX5_mirrored ∈ TB := List.mem_filter.mpr ⟨List.mem_of_getElem? (i := 451) (by decide +kernel), rfl⟩
theorem se_X5_mirrored : Cond.selects yX5_mirrored.cls yX5_mirrored yX5_mirrored ∈ TB := List.mem_filter.mpr ⟨List.mem_of_getElem? (i := 452) (by decide +kernel), rfl⟩
theorem ok_X5_count : zOk yX5_count KX5_count 1 := ⟨by decide, List.mem_filter.mpr ⟨List.mem_of_getElem? (i := 45) (by decide +kernel), rfl⟩, List.mem_filter.mpr ⟨List.mem_of_getElem? (i := 461) (by decide +kernel), rfl⟩, by decide +kernel, by decide +kernel⟩
theorem im_X5_count : Cond.instanceMethod yX5_count ∈ TB := List.mem_filter.mpr ⟨List.mem_of_getElem? (i := 459) (by decide +kernel), rfl⟩
theorem se_X5_count : Cond.selects yX5_count.cls yX5_count yX5_count ∈ TB := List.mem_filter.mpr ⟨List.mem_of_getElem? (i := 460) (by decide +kernel), rfl⟩
theorem ok_X5_shapes : zOk yX5_shapes KX5_shapes 0 := ⟨by decide, List.mem_filter.mpr ⟨List.mem_of_getElem? (i := 45) (by decide +kernel), rfl⟩, List.mem_filter.mpr ⟨List.mem_of_getElem? (i := 465) (by decide +kernel), rfl⟩, by decide +kernel, by decide +kernel⟩
theorem im_X5_shapes : Cond.instanceMethod yX5_shapes ∈ TB := List.mem_filter.mpr ⟨List.mem_of_getElem? (i := 463) (by decide +kernel), rfl⟩
theorem se_X5_shapes : Cond.selects yX5_shapes.cls yX5_shapes yX5_shapes ∈ TB := List.mem_filter.mpr ⟨List.mem_of_getElem? (i := 464) (by decide +kernel), rfl⟩
theorem ok_X5_land : zOk yX5_land KX5_land 0 := ⟨by decide, List.mem_filter.mpr ⟨List.mem_of_getElem? (i := 45) (by decide +kernel), rfl⟩, List.mem_filter.mpr ⟨List.mem_of_getElem? (i := 475) (by decide +kernel), rfl⟩, by decide +kernel, by decide +kernel⟩
theorem im_X5_land : Cond.instanceMethod yX5_land ∈ TB := List.mem_filter.mpr ⟨List.mem_of_getElem? (i := 473) (by decide +kernel), rfl⟩
theorem se_X5_land : Cond.selects yX5_land.cls yX5_land yX5_land ∈ TB := List.mem_filter.mpr ⟨List.mem_of_getElem? (i := 474) (by decide +kernel), rfl⟩
theorem ok_X5_landShare : zOk yX5_landShare KX5_landShare 0 := ⟨by decide, List.mem_filter.mpr ⟨List.mem_of_getElem? (i := 45) (by decide +kernel), rfl⟩, List.mem_filter.mpr ⟨List.mem_of_getElem? (i := 483) (by decide +kernel), rfl⟩, by decide +kernel, by decide +kernel⟩
theorem im_X5_landShare : Cond.instanceMethod yX5_landShare ∈ TB := List.mem_filter.mpr ⟨List.mem_of_getElem? (i := 481) (by decide +kernel), rfl⟩
theorem se_X5_landShare : Cond.selects yX5_landShare.cls yX5_landShare yX5_landShare ∈ TB := List.mem_filter.mpr ⟨List.mem_of_getElem? (i := 482) (by decide +kernel), rfl⟩
theorem ok_X5_coast : zOk yX5_coast KX5_coast 0 := ⟨by decide, List.mem_filter.mpr ⟨List.mem_of_getElem? (i := 45) (by decide +kernel), rfl⟩, List.mem_filter.mpr ⟨List.mem_of_getElem? (i := 491) (by decide +kernel), rfl⟩, by decide +kernel, by decide +kernel⟩
theorem im_X5_coast : Cond.instanceMethod yX5_coast ∈ TB := List.mem_filter.mpr ⟨List.mem_of_getElem? (i := 489) (by decide +kernel), rfl⟩
theorem se_X5_coast : Cond.selects yX5_coast.cls yX5_coast yX5_coast ∈ TB := List.mem_filter.mpr ⟨List.mem_of_getElem? (i := 490) (by decide +kernel), rfl⟩
theorem ok_X5_islands : zOk yX5_islands KX5_islands 0 := ⟨by decide, List.mem_filter.mpr ⟨List.mem_of_getElem? (i := 45) (by decide +kernel), rfl⟩, List.mem_filter.mpr ⟨List.mem_of_getElem? (i := 495) (by decide +kernel), rfl⟩, by decide +kernel, by decide +kernel⟩
theorem im_X5_islands : Cond.instanceMethod yX5_islands ∈ TB := List.mem_filter.mpr ⟨List.mem_of_getElem? (i := 493) (by decide +kernel), rfl⟩
theorem se_X5_islands : Cond.selects yX5_islands.cls yX5_islands yX5_islands ∈ TB := List.mem_filter.mpr ⟨List.mem_of_getElem? (i := 494) (by decide +kernel), rfl⟩
theorem ok_X5_lakes : zOk yX5_lakes KX5_lakes 0 := ⟨by decide, List.mem_filter.mpr ⟨List.mem_of_getElem? (i := 45) (by decide +kernel), rfl⟩, List.mem_filter.mpr ⟨List.mem_of_getElem? (i := 499) (by decide +kernel), rfl⟩, by decide +kernel, by decide +kernel⟩
theorem im_X5_lakes : Cond.instanceMethod yX5_lakes ∈ TB := List.mem_filter.mpr ⟨List.mem_of_getElem? (i := 497) (by decide +kernel), rfl⟩
theorem se_X5_lakes : Cond.selects yX5_lakes.cls yX5_lakes yX5_lakes ∈ TB := List.mem_filter.mpr ⟨List.mem_of_getElem? (i := 498) (by decide +kernel), rfl⟩
theorem ok_X5_region : zOk yX5_region KX5_region 3 := ⟨by decide, List.mem_filter.mpr ⟨List.mem_of_getElem? (i := 45) (by decide +kernel), rfl⟩, List.mem_filter.mpr ⟨List.mem_of_getElem? (i := 503) (by decide +kernel), rfl⟩, by decide +kernel, by decide +kernel⟩
theorem im_X5_region : Cond.instanceMethod yX5_region ∈ TB := List.mem_filter.mpr ⟨List.mem_of_getElem? (i := 501) (by decide +kernel), rfl⟩
theorem se_X5_region : Cond.selects yX5_region.cls yX5_region yX5_region ∈ TB := List.mem_filter.mpr ⟨List.mem_of_getElem? (i := 502) (by decide +kernel), rfl⟩
theorem ok_X5_largestIsland : zOk yX5_largestIsland KX5_largestIsland 0 := ⟨by decide, List.mem_filter.mpr ⟨List.mem_of_getElem? (i := 45) (by decide +kernel), rfl⟩, List.mem_filter.mpr ⟨List.mem_of_getElem? (i := 507) (by decide +kernel), rfl⟩, by decide +kernel, by decide +kernel⟩
theorem im_X5_largestIsland : Cond.instanceMethod yX5_largestIsland ∈ TB := List.mem_filter.mpr ⟨List.mem_of_getElem? (i := 505) (by decide +kernel), rfl⟩
theorem se_X5_largestIsland : Cond.selects yX5_largestIsland.cls yX5_largestIsland yX5_largestIsland ∈ TB := List.mem_filter.mpr ⟨List.mem_of_getElem? (i := 506) (by decide +kernel), rfl⟩
theorem ok_X5_way : zOk yX5_way KX5_way 4 := ⟨by decide, List.mem_filter.mpr ⟨List.mem_of_getElem? (i := 45) (by decide +kernel), rfl⟩, List.mem_filter.mpr ⟨List.mem_of_getElem? (i := 511) (by decide +kernel), rfl⟩, by decide +kernel, by decide +kernel⟩
theorem im_X5_way : Cond.instanceMethod yX5_way ∈ TB := List.mem_filter.mpr ⟨List.mem_of_getElem? (i := 509) (by decide +kernel), rfl⟩
theorem se_X5_way : Cond.selects yX5_way.cls yX5_way yX5_way ∈ TB := List.mem_filter.mpr ⟨List.mem_of_getElem? (i := 510) (by decide +kernel), rfl⟩
theorem ok_X5_coastIfChanged : zOk yX5_coastIfChanged KX5_coastIfChanged 2 := ⟨by decide, List.mem_filter.mpr ⟨List.mem_of_getElem? (i := 45) (by decide +kernel), rfl⟩, List.mem_filter.mpr ⟨List.mem_of_getElem? (i := 516) (by decide +kernel), rfl⟩, by decide +kernel, by decide +kernel⟩
theorem im_X5_coastIfChanged : Cond.instanceMethod yX5_coastIfChanged ∈ TB := List.mem_filter.mpr ⟨List.mem_of_getElem? (i := 514) (by decide +kernel), rfl⟩
theorem se_X5_coastIfChanged : Cond.selects yX5_coastIfChanged.cls yX5_coastIfChanged yX5_coastIfChanged ∈ TB := List.mem_filter.mpr ⟨List.mem_of_getElem? (i := 515) (by decide +kernel), rfl⟩
theorem ok_X5_needs : zOk yX5_needs KX5_needs 3 := ⟨by decide, List.mem_filter.mpr ⟨List.mem_of_getElem? (i := 45) (by decide +kernel), rfl⟩, List.mem_filter.mpr ⟨List.mem_of_getElem? (i := 520) (by decide +kernel), rfl⟩, by decide +kernel, by decide +kernel⟩
theorem im_X5_needs : Cond.instanceMethod yX5_needs ∈ TB := List.mem_filter.mpr ⟨List.mem_of_getElem? (i := 518) (by decide +kernel), rfl⟩
theorem se_X5_needs : Cond.selects yX5_needs.cls yX5_needs yX5_needs ∈ TB := List.mem_filter.mpr ⟨List.mem_of_getElem? (i := 519) (by decide +kernel), rfl⟩
theorem ok_X5_append : zOk yX5_append KX5_append 1 := ⟨by decide, List.mem_filter.mpr ⟨List.mem_of_getElem? (i := 45) (by decide +kernel), rfl⟩, List.mem_filter.mpr ⟨List.mem_of_getElem? (i := 524) (by decide +kernel), rfl⟩, by decide +kernel, by decide +kernel⟩
theorem im_X5_append : Cond.instanceMethod yX5_append ∈ TB := List.mem_filter.mpr ⟨List.mem_of_getElem? (i := 522) (by decide +kernel), rfl⟩
theorem se_X5_append : Cond.selects yX5_append.cls yX5_append yX5_append ∈ TB := List.mem_filter.mpr ⟨List.mem_of_getElem? (i := 523) (by decide +kernel), rfl⟩
theorem ok_X5_clearText : zOk yX5_clearText KX5_clearText 0 := ⟨by decide, List.mem_filter.mpr ⟨List.mem_of_getElem? (i := 45) (by decide +kernel), rfl⟩, List.mem_filter.mpr ⟨List.mem_of_getElem? (i := 532) (by decide +kernel), rfl⟩, by decide +kernel, by decide +kernel⟩
theorem im_X5_clearText : Cond.instanceMethod yX5_clearText ∈ TB := List.mem_filter.mpr ⟨List.mem_of_getElem? (i := 530) (by decide +kernel), rfl⟩
theorem se_X5_clearText : Cond.selects yX5_clearText.cls yX5_clearText yX5_clearText ∈ TB := List.mem_filter.mpr ⟨List.mem_of_getElem? (i := 531) (by decide +kernel), rfl⟩
theorem ok_X5_errorPosition : zOk yX5_errorPosition KX5_errorPosition 0 := ⟨by decide, List.mem_filter.mpr ⟨List.mem_of_getElem? (i := 45) (by decide +kernel), rfl⟩, List.mem_filter.mpr ⟨List.mem_of_getElem? (i := 536) (by decide +kernel), rfl⟩, by decide +kernel, by decide +kernel⟩
theorem im_X5_errorPosition : Cond.instanceMethod yX5_errorPosition ∈ TB := List.mem_filter.mpr ⟨List.mem_of_getElem? (i := 534) (by decide +kernel), rfl⟩
theorem se_X5_errorPosition : Cond.selects yX5_errorPosition.cls yX5_errorPosition yX5_errorPosition ∈ TB := List.mem_filter.mpr ⟨List.mem_of_getElem? (i := 535) (by decide +kernel), rfl⟩
theorem ok_X5_read : zOk yX5_read KX5_read 0 := ⟨by decide, List.mem_filter.mpr ⟨List.mem_of_getElem? (i := 45) (by decide +kernel), rfl⟩, List.mem_filter.mpr ⟨List.mem_of_getElem? (i := 570) (by decide +kernel), rfl⟩, by decide +kernel, by decide +kernel⟩
theorem im_X5_read : Cond.instanceMethod yX5_read ∈ TB := List.mem_filter.mpr ⟨List.mem_of_getElem? (i := 568) (by decide +kernel), rfl⟩
theorem se_X5_read : Cond.selects yX5_read.cls yX5_read yX5_read ∈ TB := List.mem_filter.mpr ⟨List.mem_of_getElem? (i := 569) (by decide +kernel), rfl⟩
theorem ok_X5_undo : zOk yX5_undo KX5_undo 0 := ⟨by decide, List.mem_filter.mpr ⟨List.mem_of_getElem? (i := 45) (by decide +kernel), rfl⟩, List.mem_filter.mpr ⟨List.mem_of_getElem? (i := 574) (by decide +kernel), rfl⟩, by decide +kernel, by decide +kernel⟩
theorem im_X5_undo : Cond.instanceMethod yX5_undo ∈ TB := List.mem_filter.mpr ⟨List.mem_of_getElem? (i := 572) (by decide +kernel), rfl⟩
theorem se_X5_undo : Cond.selects yX5_undo.cls yX5_undo yX5_undo ∈ TB := List.mem_filter.mpr ⟨List.mem_of_getElem? (i := 573) (by decide +kernel), rfl⟩
theorem ok_X5_save : zOk yX5_save KX5_save 0 := ⟨by decide, List.mem_filter.mpr ⟨List.mem_of_getElem? (i := 45) (by decide +kernel), rfl⟩, List.mem_filter.mpr ⟨List.mem_of_getElem? (i := 582) (by decide +kernel), rfl⟩, by decide +kernel, by decide +kernel⟩
theorem im_X5_save : Cond.instanceMethod yX5_save ∈ TB := List.mem_filter.mpr ⟨List.mem_of_getElem? (i := 580) (by decide +kernel), rfl⟩
theorem se_X5_save : Cond.selects yX5_save.cls yX5_save yX5_save ∈ TB := List.mem_filter.mpr ⟨List.mem_of_getElem? (i := 581) (by decide +kernel), rfl⟩
theorem ok_X5_restore : zOk yX5_restore KX5_restore 0 := ⟨by decide, List.mem_filter.mpr ⟨List.mem_of_getElem? (i := 45) (by decide +kernel), rfl⟩, List.mem_filter.mpr ⟨List.mem_of_getElem? (i := 586) (by decide +kernel), rfl⟩, by decide +kernel, by decide +kernel⟩
theorem im_X5_restore : Cond.instanceMethod yX5_restore ∈ TB := List.mem_filter.mpr ⟨List.mem_of_getElem? (i := 584) (by decide +kernel), rfl⟩
theorem se_X5_restore : Cond.selects yX5_restore.cls yX5_restore yX5_restore ∈ TB := List.mem_filter.mpr ⟨List.mem_of_getElem? (i := 585) (by decide +kernel), rfl⟩
theorem ok_X5_isLineCount : zOk yX5_isLineCount KX5_isLineCount 1 := ⟨by decide, List.mem_filter.mpr ⟨List.mem_of_getElem? (i := 45) (by decide +kernel), rfl⟩, List.mem_filter.mpr ⟨List.mem_of_getElem? (i := 221) (by decide +kernel), rfl⟩, by decide +kernel, by decide +kernel⟩
theorem im_X5_isLineCount : Cond.static yX5_isLineCount ∈ TB := List.mem_filter.mpr ⟨List.mem_of_getElem? (i := 220) (by decide +kernel), rfl⟩
theorem ok_X5_isLineOf : zOk yX5_isLineOf KX5_isLineOf 2 := ⟨by decide, List.mem_filter.mpr ⟨List.mem_of_getElem? (i := 45) (by decide +kernel), rfl⟩, List.mem_filter.mpr ⟨List.mem_of_getElem? (i := 269) (by decide +kernel), rfl⟩, by decide +kernel, by decide +kernel⟩
theorem im_X5_isLineOf : Cond.static yX5_isLineOf ∈ TB := List.mem_filter.mpr ⟨List.mem_of_getElem? (i := 268) (by decide +kernel), rfl⟩
theorem ok_X5_isShape : zOk yX5_isShape KX5_isShape 1 := ⟨by decide, List.mem_filter.mpr ⟨List.mem_of_getElem? (i := 45) (by decide +kernel), rfl⟩, List.mem_filter.mpr ⟨List.mem_of_getElem? (i := 378) (by decide +kernel), rfl⟩, by decide +kernel, by decide +kernel⟩
theorem im_X5_isShape : Cond.static yX5_isShape ∈ TB := List.mem_filter.mpr ⟨List.mem_of_getElem? (i := 377) (by decide +kernel), rfl⟩
theorem ok_X5_position : zOk yX5_position KX5_position 2 := ⟨by decide, List.mem_filter.mpr ⟨List.mem_of_getElem? (i := 45) (by decide +kernel), rfl⟩, List.mem_filter.mpr ⟨List.mem_of_getElem? (i := 437) (by decide +kernel), rfl⟩, by decide +kernel, by decide +kernel⟩
theorem im_X5_position : Cond.static yX5_position ∈ TB := List.mem_filter.mpr ⟨List.mem_of_getElem? (i := 436) (by decide +kernel), rfl⟩
theorem ok_X5_rowStep : zOk yX5_rowStep KX5_rowStep 1 := ⟨by decide, List.mem_filter.mpr ⟨List.mem_of_getElem? (i := 45) (by decide +kernel), rfl⟩, List.mem_filter.mpr ⟨List.mem_of_getElem? (i := 255) (by decide +kernel), rfl⟩, by decide +kernel, by decide +kernel⟩
theorem im_X5_rowStep : Cond.static yX5_rowStep ∈ TB := List.mem_filter.mpr ⟨List.mem_of_getElem? (i := 254) (by decide +kernel), rfl⟩
theorem ok_X5_columnStep : zOk yX5_columnStep KX5_columnStep 1 := ⟨by decide, List.mem_filter.mpr ⟨List.mem_of_getElem? (i := 45) (by decide +kernel), rfl⟩, List.mem_filter.mpr ⟨List.mem_of_getElem? (i := 260) (by decide +kernel), rfl⟩, by decide +kernel, by decide +kernel⟩
theorem im_X5_columnStep : Cond.static yX5_columnStep ∈ TB := List.mem_filter.mpr ⟨List.mem_of_getElem? (i := 259) (by decide +kernel), rfl⟩
theorem ok_X5_rotated : zOk yX5_rotated KX5_rotated 2 := ⟨by decide, List.mem_filter.mpr ⟨List.mem_of_getElem? (i := 45) (by decide +kernel), rfl⟩, List.mem_filter.mpr ⟨List.mem_of_getElem? (i := 78) (by decide +kernel), rfl⟩, by decide +kernel, by decide +kernel⟩
theorem im_X5_rotated : Cond.static yX5_rotated ∈ TB := List.mem_filter.mpr ⟨List.mem_of_getElem? (i := 77) (by decide +kernel), rfl⟩
theorem ok_X5_bitsThatCount : zOk yX5_bitsThatCount KX5_bitsThatCount 1 := ⟨by decide, List.mem_filter.mpr ⟨List.mem_of_getElem? (i := 45) (by decide +kernel), rfl⟩, List.mem_filter.mpr ⟨List.mem_of_getElem? (i := 75) (by decide +kernel), rfl⟩, by decide +kernel, by decide +kernel⟩
theorem im_X5_bitsThatCount : Cond.static yX5_bitsThatCount ∈ TB := List.mem_filter.mpr ⟨List.mem_of_getElem? (i := 74) (by decide +kernel), rfl⟩
theorem ok_X5_regularPart : zOk yX5_regularPart KX5_regularPart 1 := ⟨by decide, List.mem_filter.mpr ⟨List.mem_of_getElem? (i := 45) (by decide +kernel), rfl⟩, List.mem_filter.mpr ⟨List.mem_of_getElem? (i := 72) (by decide +kernel), rfl⟩, by decide +kernel, by decide +kernel⟩
theorem im_X5_regularPart : Cond.static yX5_regularPart ∈ TB := List.mem_filter.mpr ⟨List.mem_of_getElem? (i := 71) (by decide +kernel), rfl⟩
theorem ok_X5_bitsOfShare : zOk yX5_bitsOfShare KX5_bitsOfShare 1 := ⟨by decide, List.mem_filter.mpr ⟨List.mem_of_getElem? (i := 45) (by decide +kernel), rfl⟩, List.mem_filter.mpr ⟨List.mem_of_getElem? (i := 486) (by decide +kernel), rfl⟩, by decide +kernel, by decide +kernel⟩
theorem im_X5_bitsOfShare : Cond.static yX5_bitsOfShare ∈ TB := List.mem_filter.mpr ⟨List.mem_of_getElem? (i := 485) (by decide +kernel), rfl⟩
theorem ok_X5_rightMaskAt : zOk yX5_rightMaskAt KX5_rightMaskAt 2 := ⟨by decide, List.mem_filter.mpr ⟨List.mem_of_getElem? (i := 45) (by decide +kernel), rfl⟩, List.mem_filter.mpr ⟨List.mem_of_getElem? (i := 407) (by decide +kernel), rfl⟩, by decide +kernel, by decide +kernel⟩
theorem im_X5_rightMaskAt : Cond.instanceMethod yX5_rightMaskAt ∈ TB := List.mem_filter.mpr ⟨List.mem_of_getElem? (i := 406) (by decide +kernel), rfl⟩
theorem se_X5_rightMaskAt : Cond.selects yX5_rightMaskAt.cls yX5_rightMaskAt yX5_rightMaskAt ∈ TB := List.mem_filter.mpr ⟨List.mem_of_getElem? (i := 8) (by decide +kernel), rfl⟩
theorem ok_X5_rightShapeAt : zOk yX5_rightShapeAt KX5_rightShapeAt 2 := ⟨by decide, List.mem_filter.mpr ⟨List.mem_of_getElem? (i := 45) (by decide +kernel), rfl⟩, List.mem_filter.mpr ⟨List.mem_of_getElem? (i := 403) (by decide +kernel), rfl⟩, by decide +kernel, by decide +kernel⟩
theorem im_X5_rightShapeAt : Cond.instanceMethod yX5_rightShapeAt ∈ TB := List.mem_filter.mpr ⟨List.mem_of_getElem? (i := 402) (by decide +kernel), rfl⟩
theorem se_X5_rightShapeAt : Cond.selects yX5_rightShapeAt.cls yX5_rightShapeAt yX5_rightShapeAt ∈ TB := List.mem_filter.mpr ⟨List.mem_of_getElem? (i := 7) (by decide +kernel), rfl⟩
theorem ok_X5_shapeAt : zOk yX5_shapeAt KX5_shapeAt 2 := ⟨by decide, List.mem_filter.mpr ⟨List.mem_of_getElem? (i := 45) (by decide +kernel), rfl⟩, List.mem_filter.mpr ⟨List.mem_of_getElem? (i := 412) (by decide +kernel), rfl⟩, by decide +kernel, by decide +kernel⟩
theorem im_X5_shapeAt : Cond.instanceMethod yX5_shapeAt ∈ TB := List.mem_filter.mpr ⟨List.mem_of_getElem? (i := 411) (by decide +kernel), rfl⟩
theorem se_X5_shapeAt : Cond.selects yX5_shapeAt.cls yX5_shapeAt yX5_shapeAt ∈ TB := List.mem_filter.mpr ⟨List.mem_of_getElem? (i := 9) (by decide +kernel), rfl⟩
theorem ok_X5_faultsAt : zOk yX5_faultsAt KX5_faultsAt 2 := ⟨by decide, List.mem_filter.mpr ⟨List.mem_of_getElem? (i := 45) (by decide +kernel), rfl⟩, List.mem_filter.mpr ⟨List.mem_of_getElem? (i := 416) (by decide +kernel), rfl⟩, by decide +kernel, by decide +kernel⟩
theorem im_X5_faultsAt : Cond.instanceMethod yX5_faultsAt ∈ TB := List.mem_filter.mpr ⟨List.mem_of_getElem? (i := 415) (by decide +kernel), rfl⟩
theorem se_X5_faultsAt : Cond.selects yX5_faultsAt.cls yX5_faultsAt yX5_faultsAt ∈ TB := List.mem_filter.mpr ⟨List.mem_of_getElem? (i := 10) (by decide +kernel), rfl⟩
theorem ok_X5_isReshapedBy : zOk yX5_isReshapedBy KX5_isReshapedBy 3 := ⟨by decide, List.mem_filter.mpr ⟨List.mem_of_getElem? (i := 45) (by decide +kernel), rfl⟩, List.mem_filter.mpr ⟨List.mem_of_getElem? (i := 273) (by decide +kernel), rfl⟩, by decide +kernel, by decide +kernel⟩
theorem im_X5_isReshapedBy : Cond.instanceMethod yX5_isReshapedBy ∈ TB := List.mem_filter.mpr ⟨List.mem_of_getElem? (i := 272) (by decide +kernel), rfl⟩
theorem se_X5_isReshapedBy : Cond.selects yX5_isReshapedBy.cls yX5_isReshapedBy yX5_isReshapedBy ∈ TB := List.mem_filter.mpr ⟨List.mem_of_getElem? (i := 2) (by decide +kernel), rfl⟩
theorem ok_X5_reshapedByOutside : zOk yX5_reshapedByOutside KX5_reshapedByOutside 0 := ⟨by decide, List.mem_filter.mpr ⟨List.mem_of_getElem? (i := 45) (by decide +kernel), rfl⟩, List.mem_filter.mpr ⟨List.mem_of_getElem? (i := 248) (by decide +kernel), rfl⟩, by decide +kernel, by decide +kernel⟩
theorem im_X5_reshapedByOutside : Cond.instanceMethod yX5_reshapedByOutside ∈ TB := List.mem_filter.mpr ⟨List.mem_of_getElem? (i := 247) (by decide +kernel), rfl⟩
theorem se_X5_reshapedByOutside : Cond.selects yX5_reshapedByOutside.cls yX5_reshapedByOutside yX5_reshapedByOutside ∈ TB := List.mem_filter.mpr ⟨List.mem_of_getElem? (i := 1) (by decide +kernel), rfl⟩
theorem ok_X5_reshapedByTile : zOk yX5_reshapedByTile KX5_reshapedByTile 2 := ⟨by decide, List.mem_filter.mpr ⟨List.mem_of_getElem? (i := 45) (by decide +kernel), rfl⟩, List.mem_filter.mpr ⟨List.mem_of_getElem? (i := 300) (by decide +kernel), rfl⟩, by decide +kernel, by decide +kernel⟩
theorem im_X5_reshapedByTile : Cond.instanceMethod yX5_reshapedByTile ∈ TB := List.mem_filter.mpr ⟨List.mem_of_getElem? (i := 299) (by decide +kernel), rfl⟩
theorem se_X5_reshapedByTile : Cond.selects yX5_reshapedByTile.cls yX5_reshapedByTile yX5_reshapedByTile ∈ TB := List.mem_filter.mpr ⟨List.mem_of_getElem? (i := 3) (by decide +kernel), rfl⟩
theorem ok_X5_turnOnceFromSpare : zOk yX5_turnOnceFromSpare KX5_turnOnceFromSpare 0 := ⟨by decide, List.mem_filter.mpr ⟨List.mem_of_getElem? (i := 45) (by decide +kernel), rfl⟩, List.mem_filter.mpr ⟨List.mem_of_getElem? (i := 366) (by decide +kernel), rfl⟩, by decide +kernel, by decide +kernel⟩
theorem im_X5_turnOnceFromSpare : Cond.instanceMethod yX5_turnOnceFromSpare ∈ TB := List.mem_filter.mpr ⟨List.mem_of_getElem? (i := 365) (by decide +kernel), rfl⟩
theorem se_X5_turnOnceFromSpare : Cond.selects yX5_turnOnceFromSpare.cls yX5_turnOnceFromSpare yX5_turnOnceFromSpare ∈ TB := List.mem_filter.mpr ⟨List.mem_of_getElem? (i := 6) (by decide +kernel), rfl⟩
theorem ok_X6_in : zOk yX6_in KX6_in 3 := ⟨by decide, List.mem_filter.mpr ⟨List.mem_of_getElem? (i := 52) (by decide +kernel), rfl⟩, List.mem_filter.mpr ⟨List.mem_of_getElem? (i := 701) (by decide +kernel), rfl⟩, by decide +kernel, by decide +kernel⟩
theorem im_X6_in : Cond.static yX6_in ∈ TB := List.mem_filter.mpr ⟨List.mem_of_getElem? (i := 700) (by decide +kernel), rfl⟩
theorem ok_X6_water : zOk yX6_water KX6_water 0 := ⟨by decide, List.mem_filter.mpr ⟨List.mem_of_getElem? (i := 52) (by decide +kernel), rfl⟩, List.mem_filter.mpr ⟨List.mem_of_getElem? (i := 602) (by decide +kernel), rfl⟩, by decide +kernel, by decide +kernel⟩
theorem im_X6_water : Cond.instanceMethod yX6_water ∈ TB := List.mem_filter.mpr ⟨List.mem_of_getElem? (i := 601) (by decide +kernel), rfl⟩
theorem se_X6_water : Cond.selects yX6_water.cls yX6_water yX6_water ∈ TB := List.mem_filter.mpr ⟨List.mem_of_getElem? (i := 17) (by decide +kernel), rfl⟩
theorem ok_X6_tiles : zOk yX6_tiles KX6_tiles 0 := ⟨by decide, List.mem_filter.mpr ⟨List.mem_of_getElem? (i := 52) (by decide +kernel), rfl⟩, List.mem_filter.mpr ⟨List.mem_of_getElem? (i := 686) (by decide +kernel), rfl⟩, by decide +kernel, by decide +kernel⟩
theorem im_X6_tiles : Cond.instanceMethod yX6_tiles ∈ TB := List.mem_filter.mpr ⟨List.mem_of_getElem? (i := 685) (by decide +kernel), rfl⟩
theorem se_X6_tiles : Cond.selects yX6_tiles.cls yX6_tiles yX6_tiles ∈ TB := List.mem_filter.mpr ⟨List.mem_of_getElem? (i := 18) (by decide +kernel), rfl⟩
theorem ok_X6_isTile : zOk yX6_isTile KX6_isTile 2 := ⟨by decide, List.mem_filter.mpr ⟨List.mem_of_getElem? (i := 52) (by decide +kernel), rfl⟩, List.mem_filter.mpr ⟨List.mem_of_getElem? (i := 739) (by decide +kernel), rfl⟩, by decide +kernel, by decide +kernel⟩
theorem im_X6_isTile : Cond.instanceMethod yX6_isTile ∈ TB := List.mem_filter.mpr ⟨List.mem_of_getElem? (i := 738) (by decide +kernel), rfl⟩
theorem se_X6_isTile : Cond.selects yX6_isTile.cls yX6_isTile yX6_isTile ∈ TB := List.mem_filter.mpr ⟨List.mem_of_getElem? (i := 26) (by decide +kernel), rfl⟩
theorem ok_X6_at : zOk yX6_at KX6_at 2 := ⟨by decide, List.mem_filter.mpr ⟨List.mem_of_getElem? (i := 52) (by decide +kernel), rfl⟩, List.mem_filter.mpr ⟨List.mem_of_getElem? (i := 743) (by decide +kernel), rfl⟩, by decide +kernel, by decide +kernel⟩
theorem im_X6_at : Cond.instanceMethod yX6_at ∈ TB := List.mem_filter.mpr ⟨List.mem_of_getElem? (i := 742) (by decide +kernel), rfl⟩
theorem se_X6_at : Cond.selects yX6_at.cls yX6_at yX6_at ∈ TB := List.mem_filter.mpr ⟨List.mem_of_getElem? (i := 27) (by decide +kernel), rfl⟩
theorem ok_X6_isLandAt : zOk yX6_isLandAt KX6_isLandAt 1 := ⟨by decide, List.mem_filter.mpr ⟨List.mem_of_getElem? (i := 52) (by decide +kernel), rfl⟩, List.mem_filter.mpr ⟨List.mem_of_getElem? (i := 717) (by decide +kernel), rfl⟩, by decide +kernel, by decide +kernel⟩
theorem im_X6_isLandAt : Cond.instanceMethod yX6_isLandAt ∈ TB := List.mem_filter.mpr ⟨List.mem_of_getElem? (i := 716) (by decide +kernel), rfl⟩
theorem se_X6_isLandAt : Cond.selects yX6_isLandAt.cls yX6_isLandAt yX6_isLandAt ∈ TB := List.mem_filter.mpr ⟨List.mem_of_getElem? (i := 22) (by decide +kernel), rfl⟩
theorem ok_X6_record : zOk yX6_record KX6_record 0 := ⟨by decide, List.mem_filter.mpr ⟨List.mem_of_getElem? (i := 52) (by decide +kernel), rfl⟩, List.mem_filter.mpr ⟨List.mem_of_getElem? (i := 694) (by decide +kernel), rfl⟩, by decide +kernel, by decide +kernel⟩
theorem im_X6_record : Cond.instanceMethod yX6_record ∈ TB := List.mem_filter.mpr ⟨List.mem_of_getElem? (i := 693) (by decide +kernel), rfl⟩
theorem se_X6_record : Cond.selects yX6_record.cls yX6_record yX6_record ∈ TB := List.mem_filter.mpr ⟨List.mem_of_getElem? (i := 19) (by decide +kernel), rfl⟩
theorem ok_X6_undo : zOk yX6_undo KX6_undo 0 := ⟨by decide, List.mem_filter.mpr ⟨List.mem_of_getElem? (i := 52) (by decide +kernel), rfl⟩, List.mem_filter.mpr ⟨List.mem_of_getElem? (i := 674) (by decide +kernel), rfl⟩, by decide +kernel, by decide +kernel⟩
theorem im_X6_undo : Cond.instanceMethod yX6_undo ∈ TB := List.mem_filter.mpr ⟨List.mem_of_getElem? (i := 672) (by decide +kernel), rfl⟩
theorem se_X6_undo : Cond.selects yX6_undo.cls yX6_undo yX6_undo ∈ TB := List.mem_filter.mpr ⟨List.mem_of_getElem? (i := 673) (by decide +kernel), rfl⟩
theorem ok_X6_save : zOk yX6_save KX6_save 0 := ⟨by decide, List.mem_filter.mpr ⟨List.mem_of_getElem? (i := 52) (by decide +kernel), rfl⟩, List.mem_filter.mpr ⟨List.mem_of_getElem? (i := 678) (by decide +kernel), rfl⟩, by decide +kernel, by decide +kernel⟩
theorem im_X6_save : Cond.instanceMethod yX6_save ∈ TB := List.mem_filter.mpr ⟨List.mem_of_getElem? (i := 676) (by decide +kernel), rfl⟩
theorem se_X6_save : Cond.selects yX6_save.cls yX6_save yX6_save ∈ TB := List.mem_filter.mpr ⟨List.mem_of_getElem? (i := 677) (by decide +kernel), rfl⟩
theorem ok_X6_restore : zOk yX6_restore KX6_restore 0 := ⟨by decide, List.mem_filter.mpr ⟨List.mem_of_getElem? (i := 52) (by decide +kernel), rfl⟩, List.mem_filter.mpr ⟨List.mem_of_getElem? (i := 690) (by decide +kernel), rfl⟩, by decide +kernel, by decide +kernel⟩
theorem im_X6_restore : Cond.instanceMethod yX6_restore ∈ TB := List.mem_filter.mpr ⟨List.mem_of_getElem? (i := 688) (by decide +kernel), rfl⟩
theorem se_X6_restore : Cond.selects yX6_restore.cls yX6_restore yX6_restore ∈ TB := List.mem_filter.mpr ⟨List.mem_of_getElem? (i := 689) (by decide +kernel), rfl⟩
theorem ok_X6_rowBy : zOk yX6_rowBy KX6_rowBy 1 := ⟨by decide, List.mem_filter.mpr ⟨List.mem_of_getElem? (i := 52) (by decide +kernel), rfl⟩, List.mem_filter.mpr ⟨List.mem_of_getElem? (i := 732) (by decide +kernel), rfl⟩, by decide +kernel, by decide +kernel⟩
theorem im_X6_rowBy : Cond.static yX6_rowBy ∈ TB := List.mem_filter.mpr ⟨List.mem_of_getElem? (i := 731) (by decide +kernel), rfl⟩
theorem ok_X6_columnBy : zOk yX6_columnBy KX6_columnBy 1 := ⟨by decide, List.mem_filter.mpr ⟨List.mem_of_getElem? (i := 52) (by decide +kernel), rfl⟩, List.mem_filter.mpr ⟨List.mem_of_getElem? (i := 735) (by decide +kernel), rfl⟩, by decide +kernel, by decide +kernel⟩
theorem im_X6_columnBy : Cond.static yX6_columnBy ∈ TB := List.mem_filter.mpr ⟨List.mem_of_getElem? (i := 734) (by decide +kernel), rfl⟩
theorem ok_X6_bit : zOk yX6_bit KX6_bit 2 := ⟨by decide, List.mem_filter.mpr ⟨List.mem_of_getElem? (i := 52) (by decide +kernel), rfl⟩, List.mem_filter.mpr ⟨List.mem_of_getElem? (i := 598) (by decide +kernel), rfl⟩, by decide +kernel, by decide +kernel⟩
theorem im_X6_bit : Cond.static yX6_bit ∈ TB := List.mem_filter.mpr ⟨List.mem_of_getElem? (i := 597) (by decide +kernel), rfl⟩
theorem ok_X6_reduced : zOk yX6_reduced KX6_reduced 1 := ⟨by decide, List.mem_filter.mpr ⟨List.mem_of_getElem? (i := 52) (by decide +kernel), rfl⟩, List.mem_filter.mpr ⟨List.mem_of_getElem? (i := 595) (by decide +kernel), rfl⟩, by decide +kernel, by decide +kernel⟩
theorem im_X6_reduced : Cond.static yX6_reduced ∈ TB := List.mem_filter.mpr ⟨List.mem_of_getElem? (i := 594) (by decide +kernel), rfl⟩
theorem ok_X6_isLandBeside : zOk yX6_isLandBeside KX6_isLandBeside 3 := ⟨by decide, List.mem_filter.mpr ⟨List.mem_of_getElem? (i := 52) (by decide +kernel), rfl⟩, List.mem_filter.mpr ⟨List.mem_of_getElem? (i := 729) (by decide +kernel), rfl⟩, by decide +kernel, by decide +kernel⟩
theorem im_X6_isLandBeside : Cond.instanceMethod yX6_isLandBeside ∈ TB := List.mem_filter.mpr ⟨List.mem_of_getElem? (i := 728) (by decide +kernel), rfl⟩
theorem se_X6_isLandBeside : Cond.selects yX6_isLandBeside.cls yX6_isLandBeside yX6_isLandBeside ∈ TB := List.mem_filter.mpr ⟨List.mem_of_getElem? (i := 25) (by decide +kernel), rfl⟩
theorem ok_X6_around : zOk yX6_around KX6_around 2 := ⟨by decide, List.mem_filter.mpr ⟨List.mem_of_getElem? (i := 52) (by decide +kernel), rfl⟩, List.mem_filter.mpr ⟨List.mem_of_getElem? (i := 725) (by decide +kernel), rfl⟩, by decide +kernel, by decide +kernel⟩
theorem im_X6_around : Cond.instanceMethod yX6_around ∈ TB := List.mem_filter.mpr ⟨List.mem_of_getElem? (i := 724) (by decide +kernel), rfl⟩
theorem se_X6_around : Cond.selects yX6_around.cls yX6_around yX6_around ∈ TB := List.mem_filter.mpr ⟨List.mem_of_getElem? (i := 24) (by decide +kernel), rfl⟩
theorem ok_X6_right : zOk yX6_right KX6_right 1 := ⟨by decide, List.mem_filter.mpr ⟨List.mem_of_getElem? (i := 52) (by decide +kernel), rfl⟩, List.mem_filter.mpr ⟨List.mem_of_getElem? (i := 721) (by decide +kernel), rfl⟩, by decide +kernel, by decide +kernel⟩
theorem im_X6_right : Cond.instanceMethod yX6_right ∈ TB := List.mem_filter.mpr ⟨List.mem_of_getElem? (i := 720) (by decide +kernel), rfl⟩
theorem se_X6_right : Cond.selects yX6_right.cls yX6_right yX6_right ∈ TB := List.mem_filter.mpr ⟨List.mem_of_getElem? (i := 23) (by decide +kernel), rfl⟩
theorem ok_X6_shapeAt : zOk yX6_shapeAt KX6_shapeAt 1 := ⟨by decide, List.mem_filter.mpr ⟨List.mem_of_getElem? (i := 52) (by decide +kernel), rfl⟩, List.mem_filter.mpr ⟨List.mem_of_getElem? (i := 713) (by decide +kernel), rfl⟩, by decide +kernel, by decide +kernel⟩
theorem im_X6_shapeAt : Cond.instanceMethod yX6_shapeAt ∈ TB := List.mem_filter.mpr ⟨List.mem_of_getElem? (i := 712) (by decide +kernel), rfl⟩
theorem se_X6_shapeAt : Cond.selects yX6_shapeAt.cls yX6_shapeAt yX6_shapeAt ∈ TB := List.mem_filter.mpr ⟨List.mem_of_getElem? (i := 21) (by decide +kernel), rfl⟩
theorem ok_X6_bits : zOk yX6_bits KX6_bits 1 := ⟨by decide, List.mem_filter.mpr ⟨List.mem_of_getElem? (i := 52) (by decide +kernel), rfl⟩, List.mem_filter.mpr ⟨List.mem_of_getElem? (i := 774) (by decide +kernel), rfl⟩, by decide +kernel, by decide +kernel⟩
theorem im_X6_bits : Cond.static yX6_bits ∈ TB := List.mem_filter.mpr ⟨List.mem_of_getElem? (i := 773) (by decide +kernel), rfl⟩
theorem ok_X6_faultsAt : zOk yX6_faultsAt KX6_faultsAt 1 := ⟨by decide, List.mem_filter.mpr ⟨List.mem_of_getElem? (i := 52) (by decide +kernel), rfl⟩, List.mem_filter.mpr ⟨List.mem_of_getElem? (i := 802) (by decide +kernel), rfl⟩, by decide +kernel, by decide +kernel⟩
theorem im_X6_faultsAt : Cond.instanceMethod yX6_faultsAt ∈ TB := List.mem_filter.mpr ⟨List.mem_of_getElem? (i := 801) (by decide +kernel), rfl⟩
theorem se_X6_faultsAt : Cond.selects yX6_faultsAt.cls yX6_faultsAt yX6_faultsAt ∈ TB := List.mem_filter.mpr ⟨List.mem_of_getElem? (i := 33) (by decide +kernel), rfl⟩
theorem ok_X6_begin : zOk yX6_begin KX6_begin 2 := ⟨by decide, List.mem_filter.mpr ⟨List.mem_of_getElem? (i := 52) (by decide +kernel), rfl⟩, List.mem_filter.mpr ⟨List.mem_of_getElem? (i := 698) (by decide +kernel), rfl⟩, by decide +kernel, by decide +kernel⟩
theorem im_X6_begin : Cond.instanceMethod yX6_begin ∈ TB := List.mem_filter.mpr ⟨List.mem_of_getElem? (i := 696) (by decide +kernel), rfl⟩
theorem se_X6_begin : Cond.selects yX6_begin.cls yX6_begin yX6_begin ∈ TB := List.mem_filter.mpr ⟨List.mem_of_getElem? (i := 697) (by decide +kernel), rfl⟩
theorem ok_X6_lookShapes : zOk yX6_lookShapes KX6_lookShapes 0 := ⟨by decide, List.mem_filter.mpr ⟨List.mem_of_getElem? (i := 52) (by decide +kernel), rfl⟩, List.mem_filter.mpr ⟨List.mem_of_getElem? (i := 709) (by decide +kernel), rfl⟩, by decide +kernel, by decide +kernel⟩
theorem im_X6_lookShapes : Cond.instanceMethod yX6_lookShapes ∈ TB := List.mem_filter.mpr ⟨List.mem_of_getElem? (i := 708) (by decide +kernel), rfl⟩
theorem se_X6_lookShapes : Cond.selects yX6_lookShapes.cls yX6_lookShapes yX6_lookShapes ∈ TB := List.mem_filter.mpr ⟨List.mem_of_getElem? (i := 20) (by decide +kernel), rfl⟩
theorem ok_X6_reshaped : zOk yX6_reshaped KX6_reshaped 0 := ⟨by decide, List.mem_filter.mpr ⟨List.mem_of_getElem? (i := 52) (by decide +kernel), rfl⟩, List.mem_filter.mpr ⟨List.mem_of_getElem? (i := 747) (by decide +kernel), rfl⟩, by decide +kernel, by decide +kernel⟩
theorem im_X6_reshaped : Cond.instanceMethod yX6_reshaped ∈ TB := List.mem_filter.mpr ⟨List.mem_of_getElem? (i := 746) (by decide +kernel), rfl⟩
theorem se_X6_reshaped : Cond.selects yX6_reshaped.cls yX6_reshaped yX6_reshaped ∈ TB := List.mem_filter.mpr ⟨List.mem_of_getElem? (i := 28) (by decide +kernel), rfl⟩
theorem ok_X6_setOutside : zOk yX6_setOutside KX6_setOutside 1 := ⟨by decide, List.mem_filter.mpr ⟨List.mem_of_getElem? (i := 52) (by decide +kernel), rfl⟩, List.mem_filter.mpr ⟨List.mem_of_getElem? (i := 705) (by decide +kernel), rfl⟩, by decide +kernel, by decide +kernel⟩
theorem im_X6_setOutside : Cond.instanceMethod yX6_setOutside ∈ TB := List.mem_filter.mpr ⟨List.mem_of_getElem? (i := 703) (by decide +kernel), rfl⟩
theorem se_X6_setOutside : Cond.selects yX6_setOutside.cls yX6_setOutside yX6_setOutside ∈ TB := List.mem_filter.mpr ⟨List.mem_of_getElem? (i := 704) (by decide +kernel), rfl⟩
theorem ok_X6_becomes : zOk yX6_becomes KX6_becomes 2 := ⟨by decide, List.mem_filter.mpr ⟨List.mem_of_getElem? (i := 52) (by decide +kernel), rfl⟩, List.mem_filter.mpr ⟨List.mem_of_getElem? (i := 755) (by decide +kernel), rfl⟩, by decide +kernel, by decide +kernel⟩
theorem im_X6_becomes : Cond.instanceMethod yX6_becomes ∈ TB := List.mem_filter.mpr ⟨List.mem_of_getElem? (i := 754) (by decide +kernel), rfl⟩
theorem se_X6_becomes : Cond.selects yX6_becomes.cls yX6_becomes yX6_becomes ∈ TB := List.mem_filter.mpr ⟨List.mem_of_getElem? (i := 29) (by decide +kernel), rfl⟩
theorem ok_X6_set : zOk yX6_set KX6_set 3 := ⟨by decide, List.mem_filter.mpr ⟨List.mem_of_getElem? (i := 52) (by decide +kernel), rfl⟩, List.mem_filter.mpr ⟨List.mem_of_getElem? (i := 751) (by decide +kernel), rfl⟩, by decide +kernel, by decide +kernel⟩
theorem im_X6_set : Cond.instanceMethod yX6_set ∈ TB := List.mem_filter.mpr ⟨List.mem_of_getElem? (i := 749) (by decide +kernel), rfl⟩
theorem se_X6_set : Cond.selects yX6_set.cls yX6_set yX6_set ∈ TB := List.mem_filter.mpr ⟨List.mem_of_getElem? (i := 750) (by decide +kernel), rfl⟩
theorem ok_X6_findRegion : zOk yX6_findRegion KX6_findRegion 2 := ⟨by decide, List.mem_filter.mpr ⟨List.mem_of_getElem? (i := 52) (by decide +kernel), rfl⟩, List.mem_filter.mpr ⟨List.mem_of_getElem? (i := 763) (by decide +kernel), rfl⟩, by decide +kernel, by decide +kernel⟩
theorem im_X6_findRegion : Cond.instanceMethod yX6_findRegion ∈ TB := List.mem_filter.mpr ⟨List.mem_of_getElem? (i := 762) (by decide +kernel), rfl⟩
theorem se_X6_findRegion : Cond.selects yX6_findRegion.cls yX6_findRegion yX6_findRegion ∈ TB := List.mem_filter.mpr ⟨List.mem_of_getElem? (i := 30) (by decide +kernel), rfl⟩
theorem ok_X6_fill : zOk yX6_fill KX6_fill 3 := ⟨by decide, List.mem_filter.mpr ⟨List.mem_of_getElem? (i := 52) (by decide +kernel), rfl⟩, List.mem_filter.mpr ⟨List.mem_of_getElem? (i := 759) (by decide +kernel), rfl⟩, by decide +kernel, by decide +kernel⟩
theorem im_X6_fill : Cond.instanceMethod yX6_fill ∈ TB := List.mem_filter.mpr ⟨List.mem_of_getElem? (i := 757) (by decide +kernel), rfl⟩
theorem se_X6_fill : Cond.selects yX6_fill.cls yX6_fill yX6_fill ∈ TB := List.mem_filter.mpr ⟨List.mem_of_getElem? (i := 758) (by decide +kernel), rfl⟩
theorem ok_X6_brush : zOk yX6_brush KX6_brush 4 := ⟨by decide, List.mem_filter.mpr ⟨List.mem_of_getElem? (i := 52) (by decide +kernel), rfl⟩, List.mem_filter.mpr ⟨List.mem_of_getElem? (i := 767) (by decide +kernel), rfl⟩, by decide +kernel, by decide +kernel⟩
theorem im_X6_brush : Cond.instanceMethod yX6_brush ∈ TB := List.mem_filter.mpr ⟨List.mem_of_getElem? (i := 765) (by decide +kernel), rfl⟩
theorem se_X6_brush : Cond.selects yX6_brush.cls yX6_brush yX6_brush ∈ TB := List.mem_filter.mpr ⟨List.mem_of_getElem? (i := 766) (by decide +kernel), rfl⟩
theorem ok_X6_smooth : zOk yX6_smooth KX6_smooth 1 := ⟨by decide, List.mem_filter.mpr ⟨List.mem_of_getElem? (i := 52) (by decide +kernel), rfl⟩, List.mem_filter.mpr ⟨List.mem_of_getElem? (i := 771) (by decide +kernel), rfl⟩, by decide +kernel, by decide +kernel⟩
theorem im_X6_smooth : Cond.instanceMethod yX6_smooth ∈ TB := List.mem_filter.mpr ⟨List.mem_of_getElem? (i := 769) (by decide +kernel), rfl⟩
theorem se_X6_smooth : Cond.selects yX6_smooth.cls yX6_smooth yX6_smooth ∈ TB := List.mem_filter.mpr ⟨List.mem_of_getElem? (i := 770) (by decide +kernel), rfl⟩
theorem ok_X6_turnedBy : zOk yX6_turnedBy KX6_turnedBy 2 := ⟨by decide, List.mem_filter.mpr ⟨List.mem_of_getElem? (i := 52) (by decide +kernel), rfl⟩, List.mem_filter.mpr ⟨List.mem_of_getElem? (i := 786) (by decide +kernel), rfl⟩, by decide +kernel, by decide +kernel⟩
theorem im_X6_turnedBy : Cond.instanceMethod yX6_turnedBy ∈ TB := List.mem_filter.mpr ⟨List.mem_of_getElem? (i := 785) (by decide +kernel), rfl⟩
theorem se_X6_turnedBy : Cond.selects yX6_turnedBy.cls yX6_turnedBy yX6_turnedBy ∈ TB := List.mem_filter.mpr ⟨List.mem_of_getElem? (i := 32) (by decide +kernel), rfl⟩
theorem ok_X6_turnOnce : zOk yX6_turnOnce KX6_turnOnce 0 := ⟨by decide, List.mem_filter.mpr ⟨List.mem_of_getElem? (i := 52) (by decide +kernel), rfl⟩, List.mem_filter.mpr ⟨List.mem_of_getElem? (i := 782) (by decide +kernel), rfl⟩, by decide +kernel, by decide +kernel⟩
theorem im_X6_turnOnce : Cond.instanceMethod yX6_turnOnce ∈ TB := List.mem_filter.mpr ⟨List.mem_of_getElem? (i := 781) (by decide +kernel), rfl⟩
theorem se_X6_turnOnce : Cond.selects yX6_turnOnce.cls yX6_turnOnce yX6_turnOnce ∈ TB := List.mem_filter.mpr ⟨List.mem_of_getElem? (i := 31) (by decide +kernel), rfl⟩
theorem ok_X6_turn : zOk yX6_turn KX6_turn 1 := ⟨by decide, List.mem_filter.mpr ⟨List.mem_of_getElem? (i := 52) (by decide +kernel), rfl⟩, List.mem_filter.mpr ⟨List.mem_of_getElem? (i := 778) (by decide +kernel), rfl⟩, by decide +kernel, by decide +kernel⟩
theorem im_X6_turn : Cond.instanceMethod yX6_turn ∈ TB := List.mem_filter.mpr ⟨List.mem_of_getElem? (i := 776) (by decide +kernel), rfl⟩
theorem se_X6_turn : Cond.selects yX6_turn.cls yX6_turn yX6_turn ∈ TB := List.mem_filter.mpr ⟨List.mem_of_getElem? (i := 777) (by decide +kernel), rfl⟩
theorem ok_X6_rows : zOk yX6_rows KX6_rows 0 := ⟨by decide, List.mem_filter.mpr ⟨List.mem_of_getElem? (i := 52) (by decide +kernel), rfl⟩, List.mem_filter.mpr ⟨List.mem_of_getElem? (i := 790) (by decide +kernel), rfl⟩, by decide +kernel, by decide +kernel⟩
theorem im_X6_rows : Cond.instanceMethod yX6_rows ∈ TB := List.mem_filter.mpr ⟨List.mem_of_getElem? (i := 788) (by decide +kernel), rfl⟩
theorem se_X6_rows : Cond.selects yX6_rows.cls yX6_rows yX6_rows ∈ TB := List.mem_filter.mpr ⟨List.mem_of_getElem? (i := 789) (by decide +kernel), rfl⟩
theorem ok_X6_columns : zOk yX6_columns KX6_columns 0 := ⟨by decide, List.mem_filter.mpr ⟨List.mem_of_getElem? (i := 52) (by decide +kernel), rfl⟩, List.mem_filter.mpr ⟨List.mem_of_getElem? (i := 794) (by decide +kernel), rfl⟩, by decide +kernel, by decide +kernel⟩
theorem im_X6_columns : Cond.instanceMethod yX6_columns ∈ TB := List.mem_filter.mpr ⟨List.mem_of_getElem? (i := 792) (by decide +kernel), rfl⟩
theorem se_X6_columns : Cond.selects yX6_columns.cls yX6_columns yX6_columns ∈ TB := List.mem_filter.mpr ⟨List.mem_of_getElem? (i := 793) (by decide +kernel), rfl⟩
theorem ok_X6_tile : zOk yX6_tile KX6_tile 3 := ⟨by decide, List.mem_filter.mpr ⟨List.mem_of_getElem? (i := 52) (by decide +kernel), rfl⟩, List.mem_filter.mpr ⟨List.mem_of_getElem? (i := 798) (by decide +kernel), rfl⟩, by decide +kernel, by decide +kernel⟩
theorem im_X6_tile : Cond.instanceMethod yX6_tile ∈ TB := List.mem_filter.mpr ⟨List.mem_of_getElem? (i := 796) (by decide +kernel), rfl⟩
theorem se_X6_tile : Cond.selects yX6_tile.cls yX6_tile yX6_tile ∈ TB := List.mem_filter.mpr ⟨List.mem_of_getElem? (i := 797) (by decide +kernel), rfl⟩
theorem ok_X6_isShape : zOk yX6_isShape KX6_isShape 1 := ⟨by decide, List.mem_filter.mpr ⟨List.mem_of_getElem? (i := 52) (by decide +kernel), rfl⟩, List.mem_filter.mpr ⟨List.mem_of_getElem? (i := 809) (by decide +kernel), rfl⟩, by decide +kernel, by decide +kernel⟩
theorem im_X6_isShape : Cond.static yX6_isShape ∈ TB := List.mem_filter.mpr ⟨List.mem_of_getElem? (i := 808) (by decide +kernel), rfl⟩
theorem ok_X6_pin : zOk yX6_pin KX6_pin 3 := ⟨by decide, List.mem_filter.mpr ⟨List.mem_of_getElem? (i := 52) (by decide +kernel), rfl⟩, List.mem_filter.mpr ⟨List.mem_of_getElem? (i := 806) (by decide +kernel), rfl⟩, by decide +kernel, by decide +kernel⟩
theorem im_X6_pin : Cond.instanceMethod yX6_pin ∈ TB := List.mem_filter.mpr ⟨List.mem_of_getElem? (i := 804) (by decide +kernel), rfl⟩
theorem se_X6_pin : Cond.selects yX6_pin.cls yX6_pin yX6_pin ∈ TB := List.mem_filter.mpr ⟨List.mem_of_getElem? (i := 805) (by decide +kernel), rfl⟩
theorem ok_X6_unpin : zOk yX6_unpin KX6_unpin 2 := ⟨by decide, List.mem_filter.mpr ⟨List.mem_of_getElem? (i := 52) (by decide +kernel), rfl⟩, List.mem_filter.mpr ⟨List.mem_of_getElem? (i := 813) (by decide +kernel), rfl⟩, by decide +kernel, by decide +kernel⟩
theorem im_X6_unpin : Cond.instanceMethod yX6_unpin ∈ TB := List.mem_filter.mpr ⟨List.mem_of_getElem? (i := 811) (by decide +kernel), rfl⟩
theorem se_X6_unpin : Cond.selects yX6_unpin.cls yX6_unpin yX6_unpin ∈ TB := List.mem_filter.mpr ⟨List.mem_of_getElem? (i := 812) (by decide +kernel), rfl⟩
theorem ok_X6_faults : zOk yX6_faults KX6_faults 0 := ⟨by decide, List.mem_filter.mpr ⟨List.mem_of_getElem? (i := 52) (by decide +kernel), rfl⟩, List.mem_filter.mpr ⟨List.mem_of_getElem? (i := 817) (by decide +kernel), rfl⟩, by decide +kernel, by decide +kernel⟩
theorem im_X6_faults : Cond.instanceMethod yX6_faults ∈ TB := List.mem_filter.mpr ⟨List.mem_of_getElem? (i := 815) (by decide +kernel), rfl⟩
theorem se_X6_faults : Cond.selects yX6_faults.cls yX6_faults yX6_faults ∈ TB := List.mem_filter.mpr ⟨List.mem_of_getElem? (i := 816) (by decide +kernel), rfl⟩
theorem ok_X6_told : zOk yX6_told KX6_told 1 := ⟨by decide, List.mem_filter.mpr ⟨List.mem_of_getElem? (i := 52) (by decide +kernel), rfl⟩, List.mem_filter.mpr ⟨List.mem_of_getElem? (i := 825) (by decide +kernel), rfl⟩, by decide +kernel, by decide +kernel⟩
theorem im_X6_told : Cond.instanceMethod yX6_told ∈ TB := List.mem_filter.mpr ⟨List.mem_of_getElem? (i := 824) (by decide +kernel), rfl⟩
theorem se_X6_told : Cond.selects yX6_told.cls yX6_told yX6_told ∈ TB := List.mem_filter.mpr ⟨List.mem_of_getElem? (i := 34) (by decide +kernel), rfl⟩
theorem ok_X6_firstFault : zOk yX6_firstFault KX6_firstFault 0 := ⟨by decide, List.mem_filter.mpr ⟨List.mem_of_getElem? (i := 52) (by decide +kernel), rfl⟩, List.mem_filter.mpr ⟨List.mem_of_getElem? (i := 821) (by decide +kernel), rfl⟩, by decide +kernel, by decide +kernel⟩
theorem im_X6_firstFault : Cond.instanceMethod yX6_firstFault ∈ TB := List.mem_filter.mpr ⟨List.mem_of_getElem? (i := 819) (by decide +kernel), rfl⟩
theorem se_X6_firstFault : Cond.selects yX6_firstFault.cls yX6_firstFault yX6_firstFault ∈ TB := List.mem_filter.mpr ⟨List.mem_of_getElem? (i := 820) (by decide +kernel), rfl⟩
theorem ok_X6_maskOf : zOk yX6_maskOf KX6_maskOf 1 := ⟨by decide, List.mem_filter.mpr ⟨List.mem_of_getElem? (i := 52) (by decide +kernel), rfl⟩, List.mem_filter.mpr ⟨List.mem_of_getElem? (i := 829) (by decide +kernel), rfl⟩, by decide +kernel, by decide +kernel⟩
theorem im_X6_maskOf : Cond.instanceMethod yX6_maskOf ∈ TB := List.mem_filter.mpr ⟨List.mem_of_getElem? (i := 827) (by decide +kernel), rfl⟩
theorem se_X6_maskOf : Cond.selects yX6_maskOf.cls yX6_maskOf yX6_maskOf ∈ TB := List.mem_filter.mpr ⟨List.mem_of_getElem? (i := 828) (by decide +kernel), rfl⟩
theorem ok_X6_shapeOf : zOk yX6_shapeOf KX6_shapeOf 1 := ⟨by decide, List.mem_filter.mpr ⟨List.mem_of_getElem? (i := 52) (by decide +kernel), rfl⟩, List.mem_filter.mpr ⟨List.mem_of_getElem? (i := 833) (by decide +kernel), rfl⟩, by decide +kernel, by decide +kernel⟩
theorem im_X6_shapeOf : Cond.instanceMethod yX6_shapeOf ∈ TB := List.mem_filter.mpr ⟨List.mem_of_getElem? (i := 831) (by decide +kernel), rfl⟩
theorem se_X6_shapeOf : Cond.selects yX6_shapeOf.cls yX6_shapeOf yX6_shapeOf ∈ TB := List.mem_filter.mpr ⟨List.mem_of_getElem? (i := 832) (by decide +kernel), rfl⟩
theorem ok_X6_turned : zOk yX6_turned KX6_turned 2 := ⟨by decide, List.mem_filter.mpr ⟨List.mem_of_getElem? (i := 52) (by decide +kernel), rfl⟩, List.mem_filter.mpr ⟨List.mem_of_getElem? (i := 837) (by decide +kernel), rfl⟩, by decide +kernel, by decide +kernel⟩
theorem im_X6_turned : Cond.instanceMethod yX6_turned ∈ TB := List.mem_filter.mpr ⟨List.mem_of_getElem? (i := 835) (by decide +kernel), rfl⟩
theorem se_X6_turned : Cond.selects yX6_turned.cls yX6_turned yX6_turned ∈ TB := List.mem_filter.mpr ⟨List.mem_of_getElem? (i := 836) (by decide +kernel), rfl⟩
theorem ok_X6_mirrored : zOk yX6_mirrored KX6_mirrored 1 := ⟨by decide, List.mem_filter.mpr ⟨List.mem_of_getElem? (i := 52) (by decide +kernel), rfl⟩, List.mem_filter.mpr ⟨List.mem_of_getElem? (i := 841) (by decide +kernel), rfl⟩, by decide +kernel, by decide +kernel⟩
theorem im_X6_mirrored : Cond.instanceMethod yX6_mirrored ∈ TB := List.mem_filter.mpr ⟨List.mem_of_getElem? (i := 839) (by decide +kernel), rfl⟩
theorem se_X6_mirrored : Cond.selects yX6_mirrored.cls yX6_mirrored yX6_mirrored ∈ TB := List.mem_filter.mpr ⟨List.mem_of_getElem? (i := 840) (by decide +kernel), rfl⟩
theorem ok_X6_counted : zOk yX6_counted KX6_counted 1 := ⟨by decide, List.mem_filter.mpr ⟨List.mem_of_getElem? (i := 52) (by decide +kernel), rfl⟩, List.mem_filter.mpr ⟨List.mem_of_getElem? (i := 849) (by decide +kernel), rfl⟩, by decide +kernel, by decide +kernel⟩
theorem im_X6_counted : Cond.instanceMethod yX6_counted ∈ TB := List.mem_filter.mpr ⟨List.mem_of_getElem? (i := 848) (by decide +kernel), rfl⟩
theorem se_X6_counted : Cond.selects yX6_counted.cls yX6_counted yX6_counted ∈ TB := List.mem_filter.mpr ⟨List.mem_of_getElem? (i := 35) (by decide +kernel), rfl⟩
theorem ok_X6_count : zOk yX6_count KX6_count 1 := ⟨by decide, List.mem_filter.mpr ⟨List.mem_of_getElem? (i := 52) (by decide +kernel), rfl⟩, List.mem_filter.mpr ⟨List.mem_of_getElem? (i := 845) (by decide +kernel), rfl⟩, by decide +kernel, by decide +kernel⟩
theorem im_X6_count : Cond.instanceMethod yX6_count ∈ TB := List.mem_filter.mpr ⟨List.mem_of_getElem? (i := 843) (by decide +kernel), rfl⟩
theorem se_X6_count : Cond.selects yX6_count.cls yX6_count yX6_count ∈ TB := List.mem_filter.mpr ⟨List.mem_of_getElem? (i := 844) (by decide +kernel), rfl⟩
theorem ok_X6_shapes : zOk yX6_shapes KX6_shapes 0 := ⟨by decide, List.mem_filter.mpr ⟨List.mem_of_getElem? (i := 52) (by decide +kernel), rfl⟩, List.mem_filter.mpr ⟨List.mem_of_getElem? (i := 853) (by decide +kernel), rfl⟩, by decide +kernel, by decide +kernel⟩
theorem im_X6_shapes : Cond.instanceMethod yX6_shapes ∈ TB := List.mem_filter.mpr ⟨List.mem_of_getElem? (i := 851) (by decide +kernel), rfl⟩
theorem se_X6_shapes : Cond.selects yX6_shapes.cls yX6_shapes yX6_shapes ∈ TB := List.mem_filter.mpr ⟨List.mem_of_getElem? (i := 852) (by decide +kernel), rfl⟩
theorem ok_X6_land : zOk yX6_land KX6_land 0 := ⟨by decide, List.mem_filter.mpr ⟨List.mem_of_getElem? (i := 52) (by decide +kernel), rfl⟩, List.mem_filter.mpr ⟨List.mem_of_getElem? (i := 682) (by decide +kernel), rfl⟩, by decide +kernel, by decide +kernel⟩
theorem im_X6_land : Cond.instanceMethod yX6_land ∈ TB := List.mem_filter.mpr ⟨List.mem_of_getElem? (i := 680) (by decide +kernel), rfl⟩
theorem se_X6_land : Cond.selects yX6_land.cls yX6_land yX6_land ∈ TB := List.mem_filter.mpr ⟨List.mem_of_getElem? (i := 681) (by decide +kernel), rfl⟩
theorem ok_X6_bitsOfFloat : zOk yX6_bitsOfFloat KX6_bitsOfFloat 1 := ⟨by decide, List.mem_filter.mpr ⟨List.mem_of_getElem? (i := 52) (by decide +kernel), rfl⟩, List.mem_filter.mpr ⟨List.mem_of_getElem? (i := 861) (by decide +kernel), rfl⟩, by decide +kernel, by decide +kernel⟩
theorem im_X6_bitsOfFloat : Cond.static yX6_bitsOfFloat ∈ TB := List.mem_filter.mpr ⟨List.mem_of_getElem? (i := 860) (by decide +kernel), rfl⟩
theorem ok_X6_landShare : zOk yX6_landShare KX6_landShare 0 := ⟨by decide, List.mem_filter.mpr ⟨List.mem_of_getElem? (i := 52) (by decide +kernel), rfl⟩, List.mem_filter.mpr ⟨List.mem_of_getElem? (i := 858) (by decide +kernel), rfl⟩, by decide +kernel, by decide +kernel⟩
theorem im_X6_landShare : Cond.instanceMethod yX6_landShare ∈ TB := List.mem_filter.mpr ⟨List.mem_of_getElem? (i := 856) (by decide +kernel), rfl⟩
theorem se_X6_landShare : Cond.selects yX6_landShare.cls yX6_landShare yX6_landShare ∈ TB := List.mem_filter.mpr ⟨List.mem_of_getElem? (i := 857) (by decide +kernel), rfl⟩
theorem ok_X6_coastAt : zOk yX6_coastAt KX6_coastAt 1 := ⟨by decide, List.mem_filter.mpr ⟨List.mem_of_getElem? (i := 52) (by decide +kernel), rfl⟩, List.mem_filter.mpr ⟨List.mem_of_getElem? (i := 871) (by decide +kernel), rfl⟩, by decide +kernel, by decide +kernel⟩
theorem im_X6_coastAt : Cond.instanceMethod yX6_coastAt ∈ TB := List.mem_filter.mpr ⟨List.mem_of_getElem? (i := 870) (by decide +kernel), rfl⟩
theorem se_X6_coastAt : Cond.selects yX6_coastAt.cls yX6_coastAt yX6_coastAt ∈ TB := List.mem_filter.mpr ⟨List.mem_of_getElem? (i := 36) (by decide +kernel), rfl⟩
theorem ok_X6_coast : zOk yX6_coast KX6_coast 0 := ⟨by decide, List.mem_filter.mpr ⟨List.mem_of_getElem? (i := 52) (by decide +kernel), rfl⟩, List.mem_filter.mpr ⟨List.mem_of_getElem? (i := 867) (by decide +kernel), rfl⟩, by decide +kernel, by decide +kernel⟩
theorem im_X6_coast : Cond.instanceMethod yX6_coast ∈ TB := List.mem_filter.mpr ⟨List.mem_of_getElem? (i := 865) (by decide +kernel), rfl⟩
theorem se_X6_coast : Cond.selects yX6_coast.cls yX6_coast yX6_coast ∈ TB := List.mem_filter.mpr ⟨List.mem_of_getElem? (i := 866) (by decide +kernel), rfl⟩
theorem ok_X6_seeNone : zOk yX6_seeNone KX6_seeNone 0 := ⟨by decide, List.mem_filter.mpr ⟨List.mem_of_getElem? (i := 52) (by decide +kernel), rfl⟩, List.mem_filter.mpr ⟨List.mem_of_getElem? (i := 879) (by decide +kernel), rfl⟩, by decide +kernel, by decide +kernel⟩
theorem im_X6_seeNone : Cond.instanceMethod yX6_seeNone ∈ TB := List.mem_filter.mpr ⟨List.mem_of_getElem? (i := 878) (by decide +kernel), rfl⟩
theorem se_X6_seeNone : Cond.selects yX6_seeNone.cls yX6_seeNone yX6_seeNone ∈ TB := List.mem_filter.mpr ⟨List.mem_of_getElem? (i := 37) (by decide +kernel), rfl⟩
theorem ok_X6_seeFound : zOk yX6_seeFound KX6_seeFound 0 := ⟨by decide, List.mem_filter.mpr ⟨List.mem_of_getElem? (i := 52) (by decide +kernel), rfl⟩, List.mem_filter.mpr ⟨List.mem_of_getElem? (i := 883) (by decide +kernel), rfl⟩, by decide +kernel, by decide +kernel⟩
theorem im_X6_seeFound : Cond.instanceMethod yX6_seeFound ∈ TB := List.mem_filter.mpr ⟨List.mem_of_getElem? (i := 882) (by decide +kernel), rfl⟩
theorem se_X6_seeFound : Cond.selects yX6_seeFound.cls yX6_seeFound yX6_seeFound ∈ TB := List.mem_filter.mpr ⟨List.mem_of_getElem? (i := 38) (by decide +kernel), rfl⟩
theorem ok_X6_islands : zOk yX6_islands KX6_islands 0 := ⟨by decide, List.mem_filter.mpr ⟨List.mem_of_getElem? (i := 52) (by decide +kernel), rfl⟩, List.mem_filter.mpr ⟨List.mem_of_getElem? (i := 875) (by decide +kernel), rfl⟩, by decide +kernel, by decide +kernel⟩
theorem im_X6_islands : Cond.instanceMethod yX6_islands ∈ TB := List.mem_filter.mpr ⟨List.mem_of_getElem? (i := 873) (by decide +kernel), rfl⟩
theorem se_X6_islands : Cond.selects yX6_islands.cls yX6_islands yX6_islands ∈ TB := List.mem_filter.mpr ⟨List.mem_of_getElem? (i := 874) (by decide +kernel), rfl⟩
theorem ok_X6_isInside : zOk yX6_isInside KX6_isInside 0 := ⟨by decide, List.mem_filter.mpr ⟨List.mem_of_getElem? (i := 52) (by decide +kernel), rfl⟩, List.mem_filter.mpr ⟨List.mem_of_getElem? (i := 891) (by decide +kernel), rfl⟩, by decide +kernel, by decide +kernel⟩
theorem im_X6_isInside : Cond.instanceMethod yX6_isInside ∈ TB := List.mem_filter.mpr ⟨List.mem_of_getElem? (i := 890) (by decide +kernel), rfl⟩
theorem se_X6_isInside : Cond.selects yX6_isInside.cls yX6_isInside yX6_isInside ∈ TB := List.mem_filter.mpr ⟨List.mem_of_getElem? (i := 39) (by decide +kernel), rfl⟩
theorem ok_X6_lakes : zOk yX6_lakes KX6_lakes 0 := ⟨by decide, List.mem_filter.mpr ⟨List.mem_of_getElem? (i := 52) (by decide +kernel), rfl⟩, List.mem_filter.mpr ⟨List.mem_of_getElem? (i := 887) (by decide +kernel), rfl⟩, by decide +kernel, by decide +kernel⟩
theorem im_X6_lakes : Cond.instanceMethod yX6_lakes ∈ TB := List.mem_filter.mpr ⟨List.mem_of_getElem? (i := 885) (by decide +kernel), rfl⟩
theorem se_X6_lakes : Cond.selects yX6_lakes.cls yX6_lakes yX6_lakes ∈ TB := List.mem_filter.mpr ⟨List.mem_of_getElem? (i := 886) (by decide +kernel), rfl⟩
theorem ok_X6_region : zOk yX6_region KX6_region 3 := ⟨by decide, List.mem_filter.mpr ⟨List.mem_of_getElem? (i := 52) (by decide +kernel), rfl⟩, List.mem_filter.mpr ⟨List.mem_of_getElem? (i := 895) (by decide +kernel), rfl⟩, by decide +kernel, by decide +kernel⟩
theorem im_X6_region : Cond.instanceMethod yX6_region ∈ TB := List.mem_filter.mpr ⟨List.mem_of_getElem? (i := 893) (by decide +kernel), rfl⟩
theorem se_X6_region : Cond.selects yX6_region.cls yX6_region yX6_region ∈ TB := List.mem_filter.mpr ⟨List.mem_of_getElem? (i := 894) (by decide +kernel), rfl⟩
theorem ok_X6_largestIsland : zOk yX6_largestIsland KX6_largestIsland 0 := ⟨by decide, List.mem_filter.mpr ⟨List.mem_of_getElem? (i := 52) (by decide +kernel), rfl⟩, List.mem_filter.mpr ⟨List.mem_of_getElem? (i := 899) (by decide +kernel), rfl⟩, by decide +kernel, by decide +kernel⟩
theorem im_X6_largestIsland : Cond.instanceMethod yX6_largestIsland ∈ TB := List.mem_filter.mpr ⟨List.mem_of_getElem? (i := 897) (by decide +kernel), rfl⟩
theorem se_X6_largestIsland : Cond.selects yX6_largestIsland.cls yX6_largestIsland yX6_largestIsland ∈ TB := List.mem_filter.mpr ⟨List.mem_of_getElem? (i := 898) (by decide +kernel), rfl⟩
theorem ok_X6_way : zOk yX6_way KX6_way 4 := ⟨by decide, List.mem_filter.mpr ⟨List.mem_of_getElem? (i := 52) (by decide +kernel), rfl⟩, List.mem_filter.mpr ⟨List.mem_of_getElem? (i := 903) (by decide +kernel), rfl⟩, by decide +kernel, by decide +kernel⟩
theorem im_X6_way : Cond.instanceMethod yX6_way ∈ TB := List.mem_filter.mpr ⟨List.mem_of_getElem? (i := 901) (by decide +kernel), rfl⟩
theorem se_X6_way : Cond.selects yX6_way.cls yX6_way yX6_way ∈ TB := List.mem_filter.mpr ⟨List.mem_of_getElem? (i := 902) (by decide +kernel), rfl⟩
theorem ok_X6_coastIfChanged : zOk yX6_coastIfChanged KX6_coastIfChanged 2 := ⟨by decide, List.mem_filter.mpr ⟨List.mem_of_getElem? (i := 52) (by decide +kernel), rfl⟩, List.mem_filter.mpr ⟨List.mem_of_getElem? (i := 907) (by decide +kernel), rfl⟩, by decide +kernel, by decide +kernel⟩
theorem im_X6_coastIfChanged : Cond.instanceMethod yX6_coastIfChanged ∈ TB := List.mem_filter.mpr ⟨List.mem_of_getElem? (i := 905) (by decide +kernel), rfl⟩
theorem se_X6_coastIfChanged : Cond.selects yX6_coastIfChanged.cls yX6_coastIfChanged yX6_coastIfChanged ∈ TB := List.mem_filter.mpr ⟨List.mem_of_getElem? (i := 906) (by decide +kernel), rfl⟩
theorem ok_X6_needs : zOk yX6_needs KX6_needs 3 := ⟨by decide, List.mem_filter.mpr ⟨List.mem_of_getElem? (i := 52) (by decide +kernel), rfl⟩, List.mem_filter.mpr ⟨List.mem_of_getElem? (i := 912) (by decide +kernel), rfl⟩, by decide +kernel, by decide +kernel⟩
theorem im_X6_needs : Cond.instanceMethod yX6_needs ∈ TB := List.mem_filter.mpr ⟨List.mem_of_getElem? (i := 910) (by decide +kernel), rfl⟩
theorem se_X6_needs : Cond.selects yX6_needs.cls yX6_needs yX6_needs ∈ TB := List.mem_filter.mpr ⟨List.mem_of_getElem? (i := 911) (by decide +kernel), rfl⟩
theorem ok_X6_append : zOk yX6_append KX6_append 1 := ⟨by decide, List.mem_filter.mpr ⟨List.mem_of_getElem? (i := 52) (by decide +kernel), rfl⟩, List.mem_filter.mpr ⟨List.mem_of_getElem? (i := 916) (by decide +kernel), rfl⟩, by decide +kernel, by decide +kernel⟩
theorem im_X6_append : Cond.instanceMethod yX6_append ∈ TB := List.mem_filter.mpr ⟨List.mem_of_getElem? (i := 914) (by decide +kernel), rfl⟩
theorem se_X6_append : Cond.selects yX6_append.cls yX6_append yX6_append ∈ TB := List.mem_filter.mpr ⟨List.mem_of_getElem? (i := 915) (by decide +kernel), rfl⟩
theorem ok_X6_clearText : zOk yX6_clearText KX6_clearText 0 := ⟨by decide, List.mem_filter.mpr ⟨List.mem_of_getElem? (i := 52) (by decide +kernel), rfl⟩, List.mem_filter.mpr ⟨List.mem_of_getElem? (i := 920) (by decide +kernel), rfl⟩, by decide +kernel, by decide +kernel⟩
theorem im_X6_clearText : Cond.instanceMethod yX6_clearText ∈ TB := List.mem_filter.mpr ⟨List.mem_of_getElem? (i := 918) (by decide +kernel), rfl⟩
theorem se_X6_clearText : Cond.selects yX6_clearText.cls yX6_clearText yX6_clearText ∈ TB := List.mem_filter.mpr ⟨List.mem_of_getElem? (i := 919) (by decide +kernel), rfl⟩
theorem ok_X6_room : zOk yX6_room KX6_room 0 := ⟨by decide, List.mem_filter.mpr ⟨List.mem_of_getElem? (i := 52) (by decide +kernel), rfl⟩, List.mem_filter.mpr ⟨List.mem_of_getElem? (i := 932) (by decide +kernel), rfl⟩, by decide +kernel, by decide +kernel⟩
theorem im_X6_room : Cond.instanceMethod yX6_room ∈ TB := List.mem_filter.mpr ⟨List.mem_of_getElem? (i := 931) (by decide +kernel), rfl⟩
theorem se_X6_room : Cond.selects yX6_room.cls yX6_room yX6_room ∈ TB := List.mem_filter.mpr ⟨List.mem_of_getElem? (i := 41) (by decide +kernel), rfl⟩
theorem ok_X6_readOne : zOk yX6_readOne KX6_readOne 1 := ⟨by decide, List.mem_filter.mpr ⟨List.mem_of_getElem? (i := 52) (by decide +kernel), rfl⟩, List.mem_filter.mpr ⟨List.mem_of_getElem? (i := 928) (by decide +kernel), rfl⟩, by decide +kernel, by decide +kernel⟩
theorem im_X6_readOne : Cond.instanceMethod yX6_readOne ∈ TB := List.mem_filter.mpr ⟨List.mem_of_getElem? (i := 927) (by decide +kernel), rfl⟩
theorem se_X6_readOne : Cond.selects yX6_readOne.cls yX6_readOne yX6_readOne ∈ TB := List.mem_filter.mpr ⟨List.mem_of_getElem? (i := 40) (by decide +kernel), rfl⟩
theorem ok_X6_isRowWhole : zOk yX6_isRowWhole KX6_isRowWhole 0 := ⟨by decide, List.mem_filter.mpr ⟨List.mem_of_getElem? (i := 52) (by decide +kernel), rfl⟩, List.mem_filter.mpr ⟨List.mem_of_getElem? (i := 936) (by decide +kernel), rfl⟩, by decide +kernel, by decide +kernel⟩
theorem im_X6_isRowWhole : Cond.instanceMethod yX6_isRowWhole ∈ TB := List.mem_filter.mpr ⟨List.mem_of_getElem? (i := 935) (by decide +kernel), rfl⟩
theorem se_X6_isRowWhole : Cond.selects yX6_isRowWhole.cls yX6_isRowWhole yX6_isRowWhole ∈ TB := List.mem_filter.mpr ⟨List.mem_of_getElem? (i := 42) (by decide +kernel), rfl⟩
theorem ok_X6_endRow : zOk yX6_endRow KX6_endRow 0 := ⟨by decide, List.mem_filter.mpr ⟨List.mem_of_getElem? (i := 52) (by decide +kernel), rfl⟩, List.mem_filter.mpr ⟨List.mem_of_getElem? (i := 940) (by decide +kernel), rfl⟩, by decide +kernel, by decide +kernel⟩
theorem im_X6_endRow : Cond.instanceMethod yX6_endRow ∈ TB := List.mem_filter.mpr ⟨List.mem_of_getElem? (i := 939) (by decide +kernel), rfl⟩
theorem se_X6_endRow : Cond.selects yX6_endRow.cls yX6_endRow yX6_endRow ∈ TB := List.mem_filter.mpr ⟨List.mem_of_getElem? (i := 43) (by decide +kernel), rfl⟩
theorem ok_X6_errorPosition : zOk yX6_errorPosition KX6_errorPosition 0 := ⟨by decide, List.mem_filter.mpr ⟨List.mem_of_getElem? (i := 52) (by decide +kernel), rfl⟩, List.mem_filter.mpr ⟨List.mem_of_getElem? (i := 924) (by decide +kernel), rfl⟩, by decide +kernel, by decide +kernel⟩
theorem im_X6_errorPosition : Cond.instanceMethod yX6_errorPosition ∈ TB := List.mem_filter.mpr ⟨List.mem_of_getElem? (i := 922) (by decide +kernel), rfl⟩
theorem se_X6_errorPosition : Cond.selects yX6_errorPosition.cls yX6_errorPosition yX6_errorPosition ∈ TB := List.mem_filter.mpr ⟨List.mem_of_getElem? (i := 923) (by decide +kernel), rfl⟩
theorem ok_X6_read : zOk yX6_read KX6_read 0 := ⟨by decide, List.mem_filter.mpr ⟨List.mem_of_getElem? (i := 52) (by decide +kernel), rfl⟩, List.mem_filter.mpr ⟨List.mem_of_getElem? (i := 944) (by decide +kernel), rfl⟩, by decide +kernel, by decide +kernel⟩
theorem im_X6_read : Cond.instanceMethod yX6_read ∈ TB := List.mem_filter.mpr ⟨List.mem_of_getElem? (i := 942) (by decide +kernel), rfl⟩
theorem se_X6_read : Cond.selects yX6_read.cls yX6_read yX6_read ∈ TB := List.mem_filter.mpr ⟨List.mem_of_getElem? (i := 943) (by decide +kernel), rfl⟩
theorem ok_J6_bitCount_0f7a4 : zOk yJ6_bitCount_0f7a4 KJ6_bitCount_0f7a4 1 := ⟨by decide, List.mem_filter.mpr ⟨List.mem_of_getElem? (i := 54) (by decide +kernel), rfl⟩, List.mem_filter.mpr ⟨List.mem_of_getElem? (i := 355) (by decide +kernel), rfl⟩, by decide +kernel, by decide +kernel⟩
theorem im_J6_bitCount_0f7a4 : Cond.static yJ6_bitCount_0f7a4 ∈ TB := List.mem_filter.mpr ⟨List.mem_of_getElem? (i := 354) (by decide +kernel), rfl⟩
theorem ok_J13_bitCount_95d88 : zOk yJ13_bitCount_95d88 KJ13_bitCount_95d88 1 := ⟨by decide, List.mem_filter.mpr ⟨List.mem_of_getElem? (i := 55) (by decide +kernel), rfl⟩, List.mem_filter.mpr ⟨List.mem_of_getElem? (i := 468) (by decide +kernel), rfl⟩, by decide +kernel, by decide +kernel⟩
theorem im_J13_bitCount_95d88 : Cond.static yJ13_bitCount_95d88 ∈ TB := List.mem_filter.mpr ⟨List.mem_of_getElem? (i := 467) (by decide +kernel), rfl⟩
theorem ok_J9_max_7cf53 : zOk yJ9_max_7cf53 KJ9_max_7cf53 2 := ⟨by decide, List.mem_filter.mpr ⟨List.mem_of_getElem? (i := 53) (by decide +kernel), rfl⟩, List.mem_filter.mpr ⟨List.mem_of_getElem? (i := 342) (by decide +kernel), rfl⟩, by decide +kernel, by decide +kernel⟩
theorem im_J9_max_7cf53 : Cond.static yJ9_max_7cf53 ∈ TB := List.mem_filter.mpr ⟨List.mem_of_getElem? (i := 341) (by decide +kernel), rfl⟩
theorem ok_J9_min_7cf53 : zOk yJ9_min_7cf53 KJ9_min_7cf53 2 := ⟨by decide, List.mem_filter.mpr ⟨List.mem_of_getElem? (i := 53) (by decide +kernel), rfl⟩, List.mem_filter.mpr ⟨List.mem_of_getElem? (i := 240) (by decide +kernel), rfl⟩, by decide +kernel, by decide +kernel⟩
theorem im_J9_min_7cf53 : Cond.static yJ9_min_7cf53 ∈ TB := List.mem_filter.mpr ⟨List.mem_of_getElem? (i := 239) (by decide +kernel), rfl⟩
theorem ok_J7_fill_53178 : zOk yJ7_fill_53178 KJ7_fill_53178 2 := ⟨by decide, List.mem_filter.mpr ⟨List.mem_of_getElem? (i := 48) (by decide +kernel), rfl⟩, List.mem_filter.mpr ⟨List.mem_of_getElem? (i := 95) (by decide +kernel), rfl⟩, by decide +kernel, by decide +kernel⟩
theorem im_J7_fill_53178 : Cond.static yJ7_fill_53178 ∈ TB := List.mem_filter.mpr ⟨List.mem_of_getElem? (i := 94) (by decide +kernel), rfl⟩
theorem mf_X0_17 : Cond.fieldLink RX0 17 "CoastTiles$History" "kept" "I" ∈ TB := List.mem_filter.mpr ⟨List.mem_of_getElem? (i := 130) (by decide +kernel), rfl⟩
theorem fg_X0_17 {K : Kp} {X : CX} {pc : Nat} {lv : List (Nat × MV)} {st : List MV} {M : Mem} (hc : zCx K X) (ho : K.2.2.2.1 = RX0) (hf : K.2.2.2.2.2.1 31 = true) (dg : decode K.1 pc = .ok (.getfield 17, 3)) (kk : zJW X (pc + 3) lv (zI (M 31 1) :: st) M) : zJW X pc lv (zR 31 :: st) M :=
  z_get (j := 1) (C := RX0) (T := TX0) (N := 2) hc hf rfl rfl rfl inX0 (by decide) (by rw [ho]; exact mf_X0_17) dg kk
theorem mm_X0_22 : Cond.methodLink RX0 22 yX0_discardOldest ∈ TB := List.mem_filter.mpr ⟨List.mem_of_getElem? (i := 226) (by decide +kernel), rfl⟩
theorem kg_X0_22 {K : Kp} {X : CX} {pc : Nat} {lv : List (Nat × MV)} {st : List MV} {M : Mem} {Qc : Option Int → Mem → Prop} (hc : zCx K X) (ho : K.2.2.2.1 = RX0) (hfit : zFits KX0_discardOldest K) (hf : K.2.2.2.2.2.1 31 = true) (hr : (st.map zcat).sum ≤ 8) (hct : zCt yX0_discardOldest KX0_discardOldest [zR 31] M Qc) (dg : decode K.1 pc = .ok (.invokevirtual 22, 3)) (kk : ∀ (r : Option Int) (M' : Mem), Qc r M' → zJW X (pc + 3) lv (zans r ++ st) M') : zJW X pc lv (zR 31 :: st) M :=
  z_callV (As := []) hc hct ok_X0_discardOldest hfit hf rfl rfl (by rw [ho]; exact mm_X0_22) im_X0_discardOldest se_X0_discardOldest rfl hr rfl dg kk
theorem kc_X0_22 {K : Kp} {X : CX} {pc : Nat} {lv : List (Nat × MV)} {st : List MV} {M : Mem} {M1 : Mem} (hc : zCx K X) (ho : K.2.2.2.1 = RX0) (hfit : zFits KX0_discardOldest K) (hf : K.2.2.2.2.2.1 31 = true) (hr : (st.map zcat).sum ≤ 8) (hct : zCt yX0_discardOldest KX0_discardOldest [zR 31] M (fun v M' => v = none ∧ M' = M1)) (dg : decode K.1 pc = .ok (.invokevirtual 22, 3)) (kk : zJW X (pc + 3) lv st M1) : zJW X pc lv (zR 31 :: st) M :=
  kg_X0_22 hc ho hfit hf hr hct dg (fun r M' h => by obtain ⟨rfl, rfl⟩ := h; exact kk)
theorem mf_X0_11 : Cond.fieldLink RX0 11 "CoastTiles$History" "states" "[LCoastTiles$State;" ∈ TB := List.mem_filter.mpr ⟨List.mem_of_getElem? (i := 129) (by decide +kernel), rfl⟩
theorem fg_X0_11 {K : Kp} {X : CX} {pc : Nat} {lv : List (Nat × MV)} {st : List MV} {M : Mem} (hc : zCx K X) (ho : K.2.2.2.1 = RX0) (hf : K.2.2.2.2.2.1 31 = true) (dg : decode K.1 pc = .ok (.getfield 11, 3)) (kk : zJW X (pc + 3) lv (zR 32 :: st) M) : zJW X pc lv (zR 31 :: st) M :=
  z_get (j := 0) (C := RX0) (T := TX0) (N := 2) hc hf rfl rfl rfl inX0 (by decide) (by rw [ho]; exact mf_X0_11) dg kk
theorem mm_X0_25 : Cond.methodLink RX0 25 yX3_copyFrom ∈ TB := List.mem_filter.mpr ⟨List.mem_of_getElem? (i := 230) (by decide +kernel), rfl⟩
theorem kg_X0_25 {K : Kp} {X : CX} {pc : Nat} {lv : List (Nat × MV)} {st : List MV} {M : Mem} {k : Nat} {a0 : Nat} {Qc : Option Int → Mem → Prop} (hc : zCx K X) (ho : K.2.2.2.1 = RX0) (hfit : zFits KX3_copyFrom K) (hf : K.2.2.2.2.2.1 k = true) (hk : k < 9) (hr : (st.map zcat).sum ≤ 8) (hct : zCt yX3_copyFrom KX3_copyFrom [zR k, zR a0] M Qc) (dg : decode K.1 pc = .ok (.invokevirtual 25, 3)) (kk : ∀ (r : Option Int) (M' : Mem), Qc r M' → zJW X (pc + 3) lv (zans r ++ st) M') : zJW X pc lv (zR a0 :: zR k :: st) M :=
  z_callV (As := [zR a0]) hc hct ok_X3_copyFrom hfit hf (ztm_st hk) rfl (by rw [ho]; exact mm_X0_25) im_X3_copyFrom se_X3_copyFrom rfl hr rfl dg kk
theorem kc_X0_25 {K : Kp} {X : CX} {pc : Nat} {lv : List (Nat × MV)} {st : List MV} {M : Mem} {k : Nat} {a0 : Nat} {M1 : Mem} (hc : zCx K X) (ho : K.2.2.2.1 = RX0) (hfit : zFits KX3_copyFrom K) (hf : K.2.2.2.2.2.1 k = true) (hk : k < 9) (hr : (st.map zcat).sum ≤ 8) (hct : zCt yX3_copyFrom KX3_copyFrom [zR k, zR a0] M (fun v M' => v = none ∧ M' = M1)) (dg : decode K.1 pc = .ok (.invokevirtual 25, 3)) (kk : zJW X (pc + 3) lv st M1) : zJW X pc lv (zR a0 :: zR k :: st) M :=
  kg_X0_25 hc ho hfit hf hk hr hct dg (fun r M' h => by obtain ⟨rfl, rfl⟩ := h; exact kk)
theorem fp_X0_17 {K : Kp} {X : CX} {pc : Nat} {lv : List (Nat × MV)} {st : List MV} {M : Mem} {v : Int} (hc : zCx K X) (ho : K.2.2.2.1 = RX0) (hf : K.2.2.2.2.2.1 31 = true) (dg : decode K.1 pc = .ok (.putfield 17, 3)) (kk : zJW X (pc + 3) lv st (zup M 31 1 v)) : zJW X pc lv (zI v :: zR 31 :: st) M :=
  z_putG (j := 1) (C := RX0) (T := TX0) (N := 2) hc tyX0 tyX0_ok nmX0 hf rfl rfl rfl inX0 (by decide) rfl (by rw [ho]; exact mf_X0_17) rfl rfl dg kk
theorem mm_X1_22 : Cond.methodLinkNest RX1 22 yX5_isShape "CoastTiles" ∈ zNW := List.mem_filter.mpr ⟨List.mem_of_getElem? (i := 376) (by decide +kernel), rfl⟩
theorem kg_X1_22 {K : Kp} {X : CX} {pc : Nat} {lv : List (Nat × MV)} {st : List MV} {M : Mem} {a0 : Int} {Qc : Option Int → Mem → Prop} (hc : zCx K X) (ho : K.2.2.2.1 = RX1) (hfit : zFits KX5_isShape K) (hr : (st.map zcat).sum ≤ 8) (hct : zCt yX5_isShape KX5_isShape [zI a0] M Qc) (dg : decode K.1 pc = .ok (.invokestatic 22, 3)) (kk : ∀ (r : Option Int) (M' : Mem), Qc r M' → zJW X (pc + 3) lv (zans r ++ st) M') : zJW X pc lv (zI a0 :: st) M :=
  z_callSN (As := [zI a0]) hc hct ok_X5_isShape hfit (by rw [ho]; exact mm_X1_22) im_X5_isShape rfl hr rfl dg kk
theorem kc_X1_22 {K : Kp} {X : CX} {pc : Nat} {lv : List (Nat × MV)} {st : List MV} {M : Mem} {a0 : Int} {z : Int} {M1 : Mem} (hc : zCx K X) (ho : K.2.2.2.1 = RX1) (hfit : zFits KX5_isShape K) (hr : (st.map zcat).sum ≤ 8) (hct : zCt yX5_isShape KX5_isShape [zI a0] M (fun v M' => v = some z ∧ M' = M1)) (dg : decode K.1 pc = .ok (.invokestatic 22, 3)) (kk : zJW X (pc + 3) lv (zI z :: st) M1) : zJW X pc lv (zI a0 :: st) M :=
  kg_X1_22 hc ho hfit hr hct dg (fun r M' h => by obtain ⟨rfl, rfl⟩ := h; exact kk)
theorem mf_X1_9 : Cond.fieldLink RX1 9 "CoastTiles$ShapeTable" "masks" "[I" ∈ TB := List.mem_filter.mpr ⟨List.mem_of_getElem? (i := 79) (by decide +kernel), rfl⟩
theorem fg_X1_9 {K : Kp} {X : CX} {pc : Nat} {lv : List (Nat × MV)} {st : List MV} {M : Mem} (hc : zCx K X) (ho : K.2.2.2.1 = RX1) (hf : K.2.2.2.2.2.1 28 = true) (dg : decode K.1 pc = .ok (.getfield 9, 3)) (kk : zJW X (pc + 3) lv (zR 29 :: st) M) : zJW X pc lv (zR 28 :: st) M :=
  z_get (j := 0) (C := RX1) (T := TX1) (N := 2) hc hf rfl rfl rfl inX1 (by decide) (by rw [ho]; exact mf_X1_9) dg kk
theorem mf_X1_15 : Cond.fieldLink RX1 15 "CoastTiles$ShapeTable" "shapesByMask" "[I" ∈ TB := List.mem_filter.mpr ⟨List.mem_of_getElem? (i := 80) (by decide +kernel), rfl⟩
theorem fg_X1_15 {K : Kp} {X : CX} {pc : Nat} {lv : List (Nat × MV)} {st : List MV} {M : Mem} (hc : zCx K X) (ho : K.2.2.2.1 = RX1) (hf : K.2.2.2.2.2.1 28 = true) (dg : decode K.1 pc = .ok (.getfield 15, 3)) (kk : zJW X (pc + 3) lv (zR 30 :: st) M) : zJW X pc lv (zR 28 :: st) M :=
  z_get (j := 1) (C := RX1) (T := TX1) (N := 2) hc hf rfl rfl rfl inX1 (by decide) (by rw [ho]; exact mf_X1_15) dg kk
theorem mm_X1_26 : Cond.methodLink RX1 26 yX1_maskFor ∈ TB := List.mem_filter.mpr ⟨List.mem_of_getElem? (i := 372) (by decide +kernel), rfl⟩
theorem kg_X1_26 {K : Kp} {X : CX} {pc : Nat} {lv : List (Nat × MV)} {st : List MV} {M : Mem} {a0 : Int} {Qc : Option Int → Mem → Prop} (hc : zCx K X) (ho : K.2.2.2.1 = RX1) (hfit : zFits KX1_maskFor K) (hf : K.2.2.2.2.2.1 28 = true) (hr : (st.map zcat).sum ≤ 8) (hct : zCt yX1_maskFor KX1_maskFor [zR 28, zI a0] M Qc) (dg : decode K.1 pc = .ok (.invokevirtual 26, 3)) (kk : ∀ (r : Option Int) (M' : Mem), Qc r M' → zJW X (pc + 3) lv (zans r ++ st) M') : zJW X pc lv (zI a0 :: zR 28 :: st) M :=
  z_callV (As := [zI a0]) hc hct ok_X1_maskFor hfit hf rfl rfl (by rw [ho]; exact mm_X1_26) im_X1_maskFor se_X1_maskFor rfl hr rfl dg kk
theorem kc_X1_26 {K : Kp} {X : CX} {pc : Nat} {lv : List (Nat × MV)} {st : List MV} {M : Mem} {a0 : Int} {z : Int} {M1 : Mem} (hc : zCx K X) (ho : K.2.2.2.1 = RX1) (hfit : zFits KX1_maskFor K) (hf : K.2.2.2.2.2.1 28 = true) (hr : (st.map zcat).sum ≤ 8) (hct : zCt yX1_maskFor KX1_maskFor [zR 28, zI a0] M (fun v M' => v = some z ∧ M' = M1)) (dg : decode K.1 pc = .ok (.invokevirtual 26, 3)) (kk : zJW X (pc + 3) lv (zI z :: st) M1) : zJW X pc lv (zI a0 :: zR 28 :: st) M :=
  kg_X1_26 hc ho hfit hf hr hct dg (fun r M' h => by obtain ⟨rfl, rfl⟩ := h; exact kk)
theorem mm_X1_29 : Cond.methodLinkNest RX1 29 yX5_rotated "CoastTiles" ∈ zNW := List.mem_filter.mpr ⟨List.mem_of_getElem? (i := 379) (by decide +kernel), rfl⟩
theorem kg_X1_29 {K : Kp} {X : CX} {pc : Nat} {lv : List (Nat × MV)} {st : List MV} {M : Mem} {a0 : Int} {a1 : Int} {Qc : Option Int → Mem → Prop} (hc : zCx K X) (ho : K.2.2.2.1 = RX1) (hfit : zFits KX5_rotated K) (hr : (st.map zcat).sum ≤ 8) (hct : zCt yX5_rotated KX5_rotated [zI a0, zI a1] M Qc) (dg : decode K.1 pc = .ok (.invokestatic 29, 3)) (kk : ∀ (r : Option Int) (M' : Mem), Qc r M' → zJW X (pc + 3) lv (zans r ++ st) M') : zJW X pc lv (zI a1 :: zI a0 :: st) M :=
  z_callSN (As := [zI a0, zI a1]) hc hct ok_X5_rotated hfit (by rw [ho]; exact mm_X1_29) im_X5_rotated rfl hr rfl dg kk
theorem kc_X1_29 {K : Kp} {X : CX} {pc : Nat} {lv : List (Nat × MV)} {st : List MV} {M : Mem} {a0 : Int} {a1 : Int} {z : Int} {M1 : Mem} (hc : zCx K X) (ho : K.2.2.2.1 = RX1) (hfit : zFits KX5_rotated K) (hr : (st.map zcat).sum ≤ 8) (hct : zCt yX5_rotated KX5_rotated [zI a0, zI a1] M (fun v M' => v = some z ∧ M' = M1)) (dg : decode K.1 pc = .ok (.invokestatic 29, 3)) (kk : zJW X (pc + 3) lv (zI z :: st) M1) : zJW X pc lv (zI a1 :: zI a0 :: st) M :=
  kg_X1_29 hc ho hfit hr hct dg (fun r M' h => by obtain ⟨rfl, rfl⟩ := h; exact kk)
theorem mm_X1_33 : Cond.methodLink RX1 33 yX1_shapeFor ∈ TB := List.mem_filter.mpr ⟨List.mem_of_getElem? (i := 380) (by decide +kernel), rfl⟩
theorem kg_X1_33 {K : Kp} {X : CX} {pc : Nat} {lv : List (Nat × MV)} {st : List MV} {M : Mem} {a0 : Int} {Qc : Option Int → Mem → Prop} (hc : zCx K X) (ho : K.2.2.2.1 = RX1) (hfit : zFits KX1_shapeFor K) (hf : K.2.2.2.2.2.1 28 = true) (hr : (st.map zcat).sum ≤ 8) (hct : zCt yX1_shapeFor KX1_shapeFor [zR 28, zI a0] M Qc) (dg : decode K.1 pc = .ok (.invokevirtual 33, 3)) (kk : ∀ (r : Option Int) (M' : Mem), Qc r M' → zJW X (pc + 3) lv (zans r ++ st) M') : zJW X pc lv (zI a0 :: zR 28 :: st) M :=
  z_callV (As := [zI a0]) hc hct ok_X1_shapeFor hfit hf rfl rfl (by rw [ho]; exact mm_X1_33) im_X1_shapeFor se_X1_shapeFor rfl hr rfl dg kk
theorem kc_X1_33 {K : Kp} {X : CX} {pc : Nat} {lv : List (Nat × MV)} {st : List MV} {M : Mem} {a0 : Int} {z : Int} {M1 : Mem} (hc : zCx K X) (ho : K.2.2.2.1 = RX1) (hfit : zFits KX1_shapeFor K) (hf : K.2.2.2.2.2.1 28 = true) (hr : (st.map zcat).sum ≤ 8) (hct : zCt yX1_shapeFor KX1_shapeFor [zR 28, zI a0] M (fun v M' => v = some z ∧ M' = M1)) (dg : decode K.1 pc = .ok (.invokevirtual 33, 3)) (kk : zJW X (pc + 3) lv (zI z :: st) M1) : zJW X pc lv (zI a0 :: zR 28 :: st) M :=
  kg_X1_33 hc ho hfit hf hr hct dg (fun r M' h => by obtain ⟨rfl, rfl⟩ := h; exact kk)
theorem mf_X2_15 : Cond.fieldLink RX2 15 "CoastTiles$Spread" "steps" "[I" ∈ TB := List.mem_filter.mpr ⟨List.mem_of_getElem? (i := 144) (by decide +kernel), rfl⟩
theorem fg_X2_15 {K : Kp} {X : CX} {pc : Nat} {lv : List (Nat × MV)} {st : List MV} {M : Mem} (hc : zCx K X) (ho : K.2.2.2.1 = RX2) (hf : K.2.2.2.2.2.1 33 = true) (dg : decode K.1 pc = .ok (.getfield 15, 3)) (kk : zJW X (pc + 3) lv (zR 35 :: st) M) : zJW X pc lv (zR 33 :: st) M :=
  z_get (j := 1) (C := RX2) (T := TX2) (N := 4) hc hf rfl rfl rfl inX2 (by decide) (by rw [ho]; exact mf_X2_15) dg kk
theorem mm_X2_26 : Cond.methodLink RX2 26 yJ7_fill_53178 ∈ TB := List.mem_filter.mpr ⟨List.mem_of_getElem? (i := 315) (by decide +kernel), rfl⟩
theorem kg_X2_26 {K : Kp} {X : CX} {pc : Nat} {lv : List (Nat × MV)} {st : List MV} {M : Mem} {a0 : Nat} {a1 : Int} {Qc : Option Int → Mem → Prop} (hc : zCx K X) (ho : K.2.2.2.1 = RX2) (hfit : zFits KJ7_fill_53178 K) (hr : (st.map zcat).sum ≤ 8) (hct : zCt yJ7_fill_53178 KJ7_fill_53178 [zR a0, zI a1] M Qc) (dg : decode K.1 pc = .ok (.invokestatic 26, 3)) (kk : ∀ (r : Option Int) (M' : Mem), Qc r M' → zJW X (pc + 3) lv (zans r ++ st) M') : zJW X pc lv (zI a1 :: zR a0 :: st) M :=
  z_callS (As := [zR a0, zI a1]) hc hct ok_J7_fill_53178 hfit (by rw [ho]; exact mm_X2_26) im_J7_fill_53178 rfl hr rfl dg kk
theorem kc_X2_26 {K : Kp} {X : CX} {pc : Nat} {lv : List (Nat × MV)} {st : List MV} {M : Mem} {a0 : Nat} {a1 : Int} {M1 : Mem} (hc : zCx K X) (ho : K.2.2.2.1 = RX2) (hfit : zFits KJ7_fill_53178 K) (hr : (st.map zcat).sum ≤ 8) (hct : zCt yJ7_fill_53178 KJ7_fill_53178 [zR a0, zI a1] M (fun v M' => v = none ∧ M' = M1)) (dg : decode K.1 pc = .ok (.invokestatic 26, 3)) (kk : zJW X (pc + 3) lv st M1) : zJW X pc lv (zI a1 :: zR a0 :: st) M :=
  kg_X2_26 hc ho hfit hr hct dg (fun r M' h => by obtain ⟨rfl, rfl⟩ := h; exact kk)
theorem mm_X2_32 : Cond.methodLink RX2 32 yX2_stepsTo ∈ TB := List.mem_filter.mpr ⟨List.mem_of_getElem? (i := 329) (by decide +kernel), rfl⟩
theorem kg_X2_32 {K : Kp} {X : CX} {pc : Nat} {lv : List (Nat × MV)} {st : List MV} {M : Mem} {a0 : Int} {a1 : Int} {Qc : Option Int → Mem → Prop} (hc : zCx K X) (ho : K.2.2.2.1 = RX2) (hfit : zFits KX2_stepsTo K) (hf : K.2.2.2.2.2.1 33 = true) (hr : (st.map zcat).sum ≤ 8) (hct : zCt yX2_stepsTo KX2_stepsTo [zR 33, zI a0, zI a1] M Qc) (dg : decode K.1 pc = .ok (.invokevirtual 32, 3)) (kk : ∀ (r : Option Int) (M' : Mem), Qc r M' → zJW X (pc + 3) lv (zans r ++ st) M') : zJW X pc lv (zI a1 :: zI a0 :: zR 33 :: st) M :=
  z_callV (As := [zI a0, zI a1]) hc hct ok_X2_stepsTo hfit hf rfl rfl (by rw [ho]; exact mm_X2_32) im_X2_stepsTo se_X2_stepsTo rfl hr rfl dg kk
theorem kc_X2_32 {K : Kp} {X : CX} {pc : Nat} {lv : List (Nat × MV)} {st : List MV} {M : Mem} {a0 : Int} {a1 : Int} {z : Int} {M1 : Mem} (hc : zCx K X) (ho : K.2.2.2.1 = RX2) (hfit : zFits KX2_stepsTo K) (hf : K.2.2.2.2.2.1 33 = true) (hr : (st.map zcat).sum ≤ 8) (hct : zCt yX2_stepsTo KX2_stepsTo [zR 33, zI a0, zI a1] M (fun v M' => v = some z ∧ M' = M1)) (dg : decode K.1 pc = .ok (.invokevirtual 32, 3)) (kk : zJW X (pc + 3) lv (zI z :: st) M1) : zJW X pc lv (zI a1 :: zI a0 :: zR 33 :: st) M :=
  kg_X2_32 hc ho hfit hf hr hct dg (fun r M' h => by obtain ⟨rfl, rfl⟩ := h; exact kk)
theorem mf_X2_18 : Cond.fieldLink RX2 18 "CoastTiles$Spread" "reachedTiles" "I" ∈ TB := List.mem_filter.mpr ⟨List.mem_of_getElem? (i := 145) (by decide +kernel), rfl⟩
theorem fp_X2_18 {K : Kp} {X : CX} {pc : Nat} {lv : List (Nat × MV)} {st : List MV} {M : Mem} {v : Int} (hc : zCx K X) (ho : K.2.2.2.1 = RX2) (hf : K.2.2.2.2.2.1 33 = true) (dg : decode K.1 pc = .ok (.putfield 18, 3)) (kk : zJW X (pc + 3) lv st (zup M 33 2 v)) : zJW X pc lv (zI v :: zR 33 :: st) M :=
  z_putG (j := 2) (C := RX2) (T := TX2) (N := 4) hc tyX2 tyX2_ok nmX2 hf rfl rfl rfl inX2 (by decide) rfl (by rw [ho]; exact mf_X2_18) rfl rfl dg kk
theorem mf_X2_22 : Cond.fieldLink RX2 22 "CoastTiles$Spread" "reachedEdge" "Z" ∈ TB := List.mem_filter.mpr ⟨List.mem_of_getElem? (i := 147) (by decide +kernel), rfl⟩
theorem fp_X2_22 {K : Kp} {X : CX} {pc : Nat} {lv : List (Nat × MV)} {st : List MV} {M : Mem} {b : Bool} (hc : zCx K X) (ho : K.2.2.2.1 = RX2) (hf : K.2.2.2.2.2.1 33 = true) (dg : decode K.1 pc = .ok (.putfield 22, 3)) (kk : zJW X (pc + 3) lv st (zup M 33 3 (zbz b))) : zJW X pc lv (zI (zbz b) :: zR 33 :: st) M :=
  z_putG (j := 3) (C := RX2) (T := TX2) (N := 4) hc tyX2 tyX2_ok nmX2 hf rfl rfl rfl inX2 (by decide) rfl (by rw [ho]; exact mf_X2_22) (iI_zbz_nar b) (iI_zbz_fit b) dg kk
theorem mm_X2_36 : Cond.methodLink RX2 36 yX2_reach ∈ TB := List.mem_filter.mpr ⟨List.mem_of_getElem? (i := 320) (by decide +kernel), rfl⟩
theorem kg_X2_36 {K : Kp} {X : CX} {pc : Nat} {lv : List (Nat × MV)} {st : List MV} {M : Mem} {a0 : Nat} {a1 : Int} {a2 : Int} {a3 : Int} {Qc : Option Int → Mem → Prop} (hc : zCx K X) (ho : K.2.2.2.1 = RX2) (hfit : zFits KX2_reach K) (hf : K.2.2.2.2.2.1 33 = true) (hr : (st.map zcat).sum ≤ 8) (hct : zCt yX2_reach KX2_reach [zR 33, zR a0, zI a1, zI a2, zI a3] M Qc) (dg : decode K.1 pc = .ok (.invokevirtual 36, 3)) (kk : ∀ (r : Option Int) (M' : Mem), Qc r M' → zJW X (pc + 3) lv (zans r ++ st) M') : zJW X pc lv (zI a3 :: zI a2 :: zI a1 :: zR a0 :: zR 33 :: st) M :=
  z_callV (As := [zR a0, zI a1, zI a2, zI a3]) hc hct ok_X2_reach hfit hf rfl rfl (by rw [ho]; exact mm_X2_36) im_X2_reach se_X2_reach rfl hr rfl dg kk
theorem kc_X2_36 {K : Kp} {X : CX} {pc : Nat} {lv : List (Nat × MV)} {st : List MV} {M : Mem} {a0 : Nat} {a1 : Int} {a2 : Int} {a3 : Int} {M1 : Mem} (hc : zCx K X) (ho : K.2.2.2.1 = RX2) (hfit : zFits KX2_reach K) (hf : K.2.2.2.2.2.1 33 = true) (hr : (st.map zcat).sum ≤ 8) (hct : zCt yX2_reach KX2_reach [zR 33, zR a0, zI a1, zI a2, zI a3] M (fun v M' => v = none ∧ M' = M1)) (dg : decode K.1 pc = .ok (.invokevirtual 36, 3)) (kk : zJW X (pc + 3) lv st M1) : zJW X pc lv (zI a3 :: zI a2 :: zI a1 :: zR a0 :: zR 33 :: st) M :=
  kg_X2_36 hc ho hfit hf hr hct dg (fun r M' h => by obtain ⟨rfl, rfl⟩ := h; exact kk)
theorem fg_X2_18 {K : Kp} {X : CX} {pc : Nat} {lv : List (Nat × MV)} {st : List MV} {M : Mem} (hc : zCx K X) (ho : K.2.2.2.1 = RX2) (hf : K.2.2.2.2.2.1 33 = true) (dg : decode K.1 pc = .ok (.getfield 18, 3)) (kk : zJW X (pc + 3) lv (zI (M 33 2) :: st) M) : zJW X pc lv (zR 33 :: st) M :=
  z_get (j := 2) (C := RX2) (T := TX2) (N := 4) hc hf rfl rfl rfl inX2 (by decide) (by rw [ho]; exact mf_X2_18) dg kk
theorem mf_X2_9 : Cond.fieldLink RX2 9 "CoastTiles$Spread" "queue" "[I" ∈ TB := List.mem_filter.mpr ⟨List.mem_of_getElem? (i := 143) (by decide +kernel), rfl⟩
theorem fg_X2_9 {K : Kp} {X : CX} {pc : Nat} {lv : List (Nat × MV)} {st : List MV} {M : Mem} (hc : zCx K X) (ho : K.2.2.2.1 = RX2) (hf : K.2.2.2.2.2.1 33 = true) (dg : decode K.1 pc = .ok (.getfield 9, 3)) (kk : zJW X (pc + 3) lv (zR 34 :: st) M) : zJW X pc lv (zR 33 :: st) M :=
  z_get (j := 0) (C := RX2) (T := TX2) (N := 4) hc hf rfl rfl rfl inX2 (by decide) (by rw [ho]; exact mf_X2_9) dg kk
theorem mm_X2_40 : Cond.methodLink RX2 40 yX2_reachNeighbours ∈ TB := List.mem_filter.mpr ⟨List.mem_of_getElem? (i := 333) (by decide +kernel), rfl⟩
theorem kg_X2_40 {K : Kp} {X : CX} {pc : Nat} {lv : List (Nat × MV)} {st : List MV} {M : Mem} {a0 : Nat} {a1 : Int} {a2 : Int} {Qc : Option Int → Mem → Prop} (hc : zCx K X) (ho : K.2.2.2.1 = RX2) (hfit : zFits KX2_reachNeighbours K) (hf : K.2.2.2.2.2.1 33 = true) (hr : (st.map zcat).sum ≤ 8) (hct : zCt yX2_reachNeighbours KX2_reachNeighbours [zR 33, zR a0, zI a1, zI a2] M Qc) (dg : decode K.1 pc = .ok (.invokevirtual 40, 3)) (kk : ∀ (r : Option Int) (M' : Mem), Qc r M' → zJW X (pc + 3) lv (zans r ++ st) M') : zJW X pc lv (zI a2 :: zI a1 :: zR a0 :: zR 33 :: st) M :=
  z_callV (As := [zR a0, zI a1, zI a2]) hc hct ok_X2_reachNeighbours hfit hf rfl rfl (by rw [ho]; exact mm_X2_40) im_X2_reachNeighbours se_X2_reachNeighbours rfl hr rfl dg kk
theorem kc_X2_40 {K : Kp} {X : CX} {pc : Nat} {lv : List (Nat × MV)} {st : List MV} {M : Mem} {a0 : Nat} {a1 : Int} {a2 : Int} {M1 : Mem} (hc : zCx K X) (ho : K.2.2.2.1 = RX2) (hfit : zFits KX2_reachNeighbours K) (hf : K.2.2.2.2.2.1 33 = true) (hr : (st.map zcat).sum ≤ 8) (hct : zCt yX2_reachNeighbours KX2_reachNeighbours [zR 33, zR a0, zI a1, zI a2] M (fun v M' => v = none ∧ M' = M1)) (dg : decode K.1 pc = .ok (.invokevirtual 40, 3)) (kk : zJW X (pc + 3) lv st M1) : zJW X pc lv (zI a2 :: zI a1 :: zR a0 :: zR 33 :: st) M :=
  kg_X2_40 hc ho hfit hf hr hct dg (fun r M' h => by obtain ⟨rfl, rfl⟩ := h; exact kk)
theorem mm_X2_44 : Cond.methodLink RX2 44 yX3_isLandAt ∈ TB := List.mem_filter.mpr ⟨List.mem_of_getElem? (i := 337) (by decide +kernel), rfl⟩
theorem kg_X2_44 {K : Kp} {X : CX} {pc : Nat} {lv : List (Nat × MV)} {st : List MV} {M : Mem} {k : Nat} {a0 : Int} {a1 : Int} {Qc : Option Int → Mem → Prop} (hc : zCx K X) (ho : K.2.2.2.1 = RX2) (hfit : zFits KX3_isLandAt K) (hf : K.2.2.2.2.2.1 k = true) (hk : k < 9) (hr : (st.map zcat).sum ≤ 8) (hct : zCt yX3_isLandAt KX3_isLandAt [zR k, zI a0, zI a1] M Qc) (dg : decode K.1 pc = .ok (.invokevirtual 44, 3)) (kk : ∀ (r : Option Int) (M' : Mem), Qc r M' → zJW X (pc + 3) lv (zans r ++ st) M') : zJW X pc lv (zI a1 :: zI a0 :: zR k :: st) M :=
  z_callV (As := [zI a0, zI a1]) hc hct ok_X3_isLandAt hfit hf (ztm_st hk) rfl (by rw [ho]; exact mm_X2_44) im_X3_isLandAt se_X3_isLandAt rfl hr rfl dg kk
theorem kc_X2_44 {K : Kp} {X : CX} {pc : Nat} {lv : List (Nat × MV)} {st : List MV} {M : Mem} {k : Nat} {a0 : Int} {a1 : Int} {z : Int} {M1 : Mem} (hc : zCx K X) (ho : K.2.2.2.1 = RX2) (hfit : zFits KX3_isLandAt K) (hf : K.2.2.2.2.2.1 k = true) (hk : k < 9) (hr : (st.map zcat).sum ≤ 8) (hct : zCt yX3_isLandAt KX3_isLandAt [zR k, zI a0, zI a1] M (fun v M' => v = some z ∧ M' = M1)) (dg : decode K.1 pc = .ok (.invokevirtual 44, 3)) (kk : zJW X (pc + 3) lv (zI z :: st) M1) : zJW X pc lv (zI a1 :: zI a0 :: zR k :: st) M :=
  kg_X2_44 hc ho hfit hf hk hr hct dg (fun r M' h => by obtain ⟨rfl, rfl⟩ := h; exact kk)
theorem mm_X2_50 : Cond.methodLinkNest RX2 50 yX5_rowStep "CoastTiles" ∈ zNW := List.mem_filter.mpr ⟨List.mem_of_getElem? (i := 338) (by decide +kernel), rfl⟩
theorem kg_X2_50 {K : Kp} {X : CX} {pc : Nat} {lv : List (Nat × MV)} {st : List MV} {M : Mem} {a0 : Int} {Qc : Option Int → Mem → Prop} (hc : zCx K X) (ho : K.2.2.2.1 = RX2) (hfit : zFits KX5_rowStep K) (hr : (st.map zcat).sum ≤ 8) (hct : zCt yX5_rowStep KX5_rowStep [zI a0] M Qc) (dg : decode K.1 pc = .ok (.invokestatic 50, 3)) (kk : ∀ (r : Option Int) (M' : Mem), Qc r M' → zJW X (pc + 3) lv (zans r ++ st) M') : zJW X pc lv (zI a0 :: st) M :=
  z_callSN (As := [zI a0]) hc hct ok_X5_rowStep hfit (by rw [ho]; exact mm_X2_50) im_X5_rowStep rfl hr rfl dg kk
theorem kc_X2_50 {K : Kp} {X : CX} {pc : Nat} {lv : List (Nat × MV)} {st : List MV} {M : Mem} {a0 : Int} {z : Int} {M1 : Mem} (hc : zCx K X) (ho : K.2.2.2.1 = RX2) (hfit : zFits KX5_rowStep K) (hr : (st.map zcat).sum ≤ 8) (hct : zCt yX5_rowStep KX5_rowStep [zI a0] M (fun v M' => v = some z ∧ M' = M1)) (dg : decode K.1 pc = .ok (.invokestatic 50, 3)) (kk : zJW X (pc + 3) lv (zI z :: st) M1) : zJW X pc lv (zI a0 :: st) M :=
  kg_X2_50 hc ho hfit hr hct dg (fun r M' h => by obtain ⟨rfl, rfl⟩ := h; exact kk)
theorem mm_X2_54 : Cond.methodLinkNest RX2 54 yX5_columnStep "CoastTiles" ∈ zNW := List.mem_filter.mpr ⟨List.mem_of_getElem? (i := 339) (by decide +kernel), rfl⟩
theorem kg_X2_54 {K : Kp} {X : CX} {pc : Nat} {lv : List (Nat × MV)} {st : List MV} {M : Mem} {a0 : Int} {Qc : Option Int → Mem → Prop} (hc : zCx K X) (ho : K.2.2.2.1 = RX2) (hfit : zFits KX5_columnStep K) (hr : (st.map zcat).sum ≤ 8) (hct : zCt yX5_columnStep KX5_columnStep [zI a0] M Qc) (dg : decode K.1 pc = .ok (.invokestatic 54, 3)) (kk : ∀ (r : Option Int) (M' : Mem), Qc r M' → zJW X (pc + 3) lv (zans r ++ st) M') : zJW X pc lv (zI a0 :: st) M :=
  z_callSN (As := [zI a0]) hc hct ok_X5_columnStep hfit (by rw [ho]; exact mm_X2_54) im_X5_columnStep rfl hr rfl dg kk
theorem kc_X2_54 {K : Kp} {X : CX} {pc : Nat} {lv : List (Nat × MV)} {st : List MV} {M : Mem} {a0 : Int} {z : Int} {M1 : Mem} (hc : zCx K X) (ho : K.2.2.2.1 = RX2) (hfit : zFits KX5_columnStep K) (hr : (st.map zcat).sum ≤ 8) (hct : zCt yX5_columnStep KX5_columnStep [zI a0] M (fun v M' => v = some z ∧ M' = M1)) (dg : decode K.1 pc = .ok (.invokestatic 54, 3)) (kk : zJW X (pc + 3) lv (zI z :: st) M1) : zJW X pc lv (zI a0 :: st) M :=
  kg_X2_54 hc ho hfit hr hct dg (fun r M' h => by obtain ⟨rfl, rfl⟩ := h; exact kk)
theorem mm_X2_57 : Cond.methodLink RX2 57 yJ9_max_7cf53 ∈ TB := List.mem_filter.mpr ⟨List.mem_of_getElem? (i := 340) (by decide +kernel), rfl⟩
theorem kg_X2_57 {K : Kp} {X : CX} {pc : Nat} {lv : List (Nat × MV)} {st : List MV} {M : Mem} {a0 : Int} {a1 : Int} {Qc : Option Int → Mem → Prop} (hc : zCx K X) (ho : K.2.2.2.1 = RX2) (hfit : zFits KJ9_max_7cf53 K) (hr : (st.map zcat).sum ≤ 8) (hct : zCt yJ9_max_7cf53 KJ9_max_7cf53 [zI a0, zI a1] M Qc) (dg : decode K.1 pc = .ok (.invokestatic 57, 3)) (kk : ∀ (r : Option Int) (M' : Mem), Qc r M' → zJW X (pc + 3) lv (zans r ++ st) M') : zJW X pc lv (zI a1 :: zI a0 :: st) M :=
  z_callS (As := [zI a0, zI a1]) hc hct ok_J9_max_7cf53 hfit (by rw [ho]; exact mm_X2_57) im_J9_max_7cf53 rfl hr rfl dg kk
theorem kc_X2_57 {K : Kp} {X : CX} {pc : Nat} {lv : List (Nat × MV)} {st : List MV} {M : Mem} {a0 : Int} {a1 : Int} {z : Int} {M1 : Mem} (hc : zCx K X) (ho : K.2.2.2.1 = RX2) (hfit : zFits KJ9_max_7cf53 K) (hr : (st.map zcat).sum ≤ 8) (hct : zCt yJ9_max_7cf53 KJ9_max_7cf53 [zI a0, zI a1] M (fun v M' => v = some z ∧ M' = M1)) (dg : decode K.1 pc = .ok (.invokestatic 57, 3)) (kk : zJW X (pc + 3) lv (zI z :: st) M1) : zJW X pc lv (zI a1 :: zI a0 :: st) M :=
  kg_X2_57 hc ho hfit hr hct dg (fun r M' h => by obtain ⟨rfl, rfl⟩ := h; exact kk)
theorem mm_X2_62 : Cond.methodLink RX2 62 yX3_has ∈ TB := List.mem_filter.mpr ⟨List.mem_of_getElem? (i := 324) (by decide +kernel), rfl⟩
theorem kg_X2_62 {K : Kp} {X : CX} {pc : Nat} {lv : List (Nat × MV)} {st : List MV} {M : Mem} {k : Nat} {a0 : Int} {a1 : Int} {Qc : Option Int → Mem → Prop} (hc : zCx K X) (ho : K.2.2.2.1 = RX2) (hfit : zFits KX3_has K) (hf : K.2.2.2.2.2.1 k = true) (hk : k < 9) (hr : (st.map zcat).sum ≤ 8) (hct : zCt yX3_has KX3_has [zR k, zI a0, zI a1] M Qc) (dg : decode K.1 pc = .ok (.invokevirtual 62, 3)) (kk : ∀ (r : Option Int) (M' : Mem), Qc r M' → zJW X (pc + 3) lv (zans r ++ st) M') : zJW X pc lv (zI a1 :: zI a0 :: zR k :: st) M :=
  z_callV (As := [zI a0, zI a1]) hc hct ok_X3_has hfit hf (ztm_st hk) rfl (by rw [ho]; exact mm_X2_62) im_X3_has se_X3_has rfl hr rfl dg kk
theorem kc_X2_62 {K : Kp} {X : CX} {pc : Nat} {lv : List (Nat × MV)} {st : List MV} {M : Mem} {k : Nat} {a0 : Int} {a1 : Int} {z : Int} {M1 : Mem} (hc : zCx K X) (ho : K.2.2.2.1 = RX2) (hfit : zFits KX3_has K) (hf : K.2.2.2.2.2.1 k = true) (hk : k < 9) (hr : (st.map zcat).sum ≤ 8) (hct : zCt yX3_has KX3_has [zR k, zI a0, zI a1] M (fun v M' => v = some z ∧ M' = M1)) (dg : decode K.1 pc = .ok (.invokevirtual 62, 3)) (kk : zJW X (pc + 3) lv (zI z :: st) M1) : zJW X pc lv (zI a1 :: zI a0 :: zR k :: st) M :=
  kg_X2_62 hc ho hfit hf hk hr hct dg (fun r M' h => by obtain ⟨rfl, rfl⟩ := h; exact kk)
theorem mm_X2_65 : Cond.methodLink RX2 65 yX2_hasReached ∈ TB := List.mem_filter.mpr ⟨List.mem_of_getElem? (i := 325) (by decide +kernel), rfl⟩
theorem kg_X2_65 {K : Kp} {X : CX} {pc : Nat} {lv : List (Nat × MV)} {st : List MV} {M : Mem} {a0 : Int} {a1 : Int} {Qc : Option Int → Mem → Prop} (hc : zCx K X) (ho : K.2.2.2.1 = RX2) (hfit : zFits KX2_hasReached K) (hf : K.2.2.2.2.2.1 33 = true) (hr : (st.map zcat).sum ≤ 8) (hct : zCt yX2_hasReached KX2_hasReached [zR 33, zI a0, zI a1] M Qc) (dg : decode K.1 pc = .ok (.invokevirtual 65, 3)) (kk : ∀ (r : Option Int) (M' : Mem), Qc r M' → zJW X (pc + 3) lv (zans r ++ st) M') : zJW X pc lv (zI a1 :: zI a0 :: zR 33 :: st) M :=
  z_callV (As := [zI a0, zI a1]) hc hct ok_X2_hasReached hfit hf rfl rfl (by rw [ho]; exact mm_X2_65) im_X2_hasReached se_X2_hasReached rfl hr rfl dg kk
theorem kc_X2_65 {K : Kp} {X : CX} {pc : Nat} {lv : List (Nat × MV)} {st : List MV} {M : Mem} {a0 : Int} {a1 : Int} {z : Int} {M1 : Mem} (hc : zCx K X) (ho : K.2.2.2.1 = RX2) (hfit : zFits KX2_hasReached K) (hf : K.2.2.2.2.2.1 33 = true) (hr : (st.map zcat).sum ≤ 8) (hct : zCt yX2_hasReached KX2_hasReached [zR 33, zI a0, zI a1] M (fun v M' => v = some z ∧ M' = M1)) (dg : decode K.1 pc = .ok (.invokevirtual 65, 3)) (kk : zJW X (pc + 3) lv (zI z :: st) M1) : zJW X pc lv (zI a1 :: zI a0 :: zR 33 :: st) M :=
  kg_X2_65 hc ho hfit hf hr hct dg (fun r M' h => by obtain ⟨rfl, rfl⟩ := h; exact kk)
theorem mf_X2_68 : Cond.fieldLinkNest RX2 68 "CoastTiles$State" "height" "I" "CoastTiles" ∈ zNW := List.mem_filter.mpr ⟨List.mem_of_getElem? (i := 99) (by decide +kernel), rfl⟩
theorem fg_X2_68 {K : Kp} {X : CX} {pc : Nat} {lv : List (Nat × MV)} {st : List MV} {M : Mem} {k : Nat} (hc : zCx K X) (ho : K.2.2.2.1 = RX2) (hf : K.2.2.2.2.2.1 k = true) (hk : k < 9) (dg : decode K.1 pc = .ok (.getfield 68, 3)) (kk : zJW X (pc + 3) lv (zI (M k 0) :: st) M) : zJW X pc lv (zR k :: st) M :=
  z_getN (j := 0) (C := RX3) (T := TX3) (N := 5) hc hf (ztm_st hk) rfl rfl inX3 (by decide) (by rw [ho]; exact mf_X2_68) dg kk
theorem mf_X2_71 : Cond.fieldLinkNest RX2 71 "CoastTiles$State" "width" "I" "CoastTiles" ∈ zNW := List.mem_filter.mpr ⟨List.mem_of_getElem? (i := 103) (by decide +kernel), rfl⟩
theorem fg_X2_71 {K : Kp} {X : CX} {pc : Nat} {lv : List (Nat × MV)} {st : List MV} {M : Mem} {k : Nat} (hc : zCx K X) (ho : K.2.2.2.1 = RX2) (hf : K.2.2.2.2.2.1 k = true) (hk : k < 9) (dg : decode K.1 pc = .ok (.getfield 71, 3)) (kk : zJW X (pc + 3) lv (zI (M k 1) :: st) M) : zJW X pc lv (zR k :: st) M :=
  z_getN (j := 1) (C := RX3) (T := TX3) (N := 5) hc hf (ztm_st hk) rfl rfl inX3 (by decide) (by rw [ho]; exact mf_X2_71) dg kk
theorem mf_X3_9 : Cond.fieldLink RX3 9 "CoastTiles$State" "height" "I" ∈ TB := List.mem_filter.mpr ⟨List.mem_of_getElem? (i := 96) (by decide +kernel), rfl⟩
theorem fg_X3_9 {K : Kp} {X : CX} {pc : Nat} {lv : List (Nat × MV)} {st : List MV} {M : Mem} {k : Nat} (hc : zCx K X) (ho : K.2.2.2.1 = RX3) (hf : K.2.2.2.2.2.1 k = true) (hk : k < 9) (dg : decode K.1 pc = .ok (.getfield 9, 3)) (kk : zJW X (pc + 3) lv (zI (M k 0) :: st) M) : zJW X pc lv (zR k :: st) M :=
  z_get (j := 0) (C := RX3) (T := TX3) (N := 5) hc hf (ztm_st hk) rfl rfl inX3 (by decide) (by rw [ho]; exact mf_X3_9) dg kk
theorem mm_X3_36 : Cond.methodLinkNest RX3 36 yX5_isLineOf "CoastTiles" ∈ zNW := List.mem_filter.mpr ⟨List.mem_of_getElem? (i := 267) (by decide +kernel), rfl⟩
theorem kg_X3_36 {K : Kp} {X : CX} {pc : Nat} {lv : List (Nat × MV)} {st : List MV} {M : Mem} {a0 : Int} {a1 : Int} {Qc : Option Int → Mem → Prop} (hc : zCx K X) (ho : K.2.2.2.1 = RX3) (hfit : zFits KX5_isLineOf K) (hr : (st.map zcat).sum ≤ 8) (hct : zCt yX5_isLineOf KX5_isLineOf [zI a0, zI a1] M Qc) (dg : decode K.1 pc = .ok (.invokestatic 36, 3)) (kk : ∀ (r : Option Int) (M' : Mem), Qc r M' → zJW X (pc + 3) lv (zans r ++ st) M') : zJW X pc lv (zI a1 :: zI a0 :: st) M :=
  z_callSN (As := [zI a0, zI a1]) hc hct ok_X5_isLineOf hfit (by rw [ho]; exact mm_X3_36) im_X5_isLineOf rfl hr rfl dg kk
theorem kc_X3_36 {K : Kp} {X : CX} {pc : Nat} {lv : List (Nat × MV)} {st : List MV} {M : Mem} {a0 : Int} {a1 : Int} {z : Int} {M1 : Mem} (hc : zCx K X) (ho : K.2.2.2.1 = RX3) (hfit : zFits KX5_isLineOf K) (hr : (st.map zcat).sum ≤ 8) (hct : zCt yX5_isLineOf KX5_isLineOf [zI a0, zI a1] M (fun v M' => v = some z ∧ M' = M1)) (dg : decode K.1 pc = .ok (.invokestatic 36, 3)) (kk : zJW X (pc + 3) lv (zI z :: st) M1) : zJW X pc lv (zI a1 :: zI a0 :: st) M :=
  kg_X3_36 hc ho hfit hr hct dg (fun r M' h => by obtain ⟨rfl, rfl⟩ := h; exact kk)
theorem mf_X3_15 : Cond.fieldLink RX3 15 "CoastTiles$State" "width" "I" ∈ TB := List.mem_filter.mpr ⟨List.mem_of_getElem? (i := 100) (by decide +kernel), rfl⟩
theorem fg_X3_15 {K : Kp} {X : CX} {pc : Nat} {lv : List (Nat × MV)} {st : List MV} {M : Mem} {k : Nat} (hc : zCx K X) (ho : K.2.2.2.1 = RX3) (hf : K.2.2.2.2.2.1 k = true) (hk : k < 9) (dg : decode K.1 pc = .ok (.getfield 15, 3)) (kk : zJW X (pc + 3) lv (zI (M k 1) :: st) M) : zJW X pc lv (zR k :: st) M :=
  z_get (j := 1) (C := RX3) (T := TX3) (N := 5) hc hf (ztm_st hk) rfl rfl inX3 (by decide) (by rw [ho]; exact mf_X3_15) dg kk
theorem mm_X3_40 : Cond.methodLink RX3 40 yX3_has ∈ TB := List.mem_filter.mpr ⟨List.mem_of_getElem? (i := 263) (by decide +kernel), rfl⟩
theorem kg_X3_40 {K : Kp} {X : CX} {pc : Nat} {lv : List (Nat × MV)} {st : List MV} {M : Mem} {k : Nat} {a0 : Int} {a1 : Int} {Qc : Option Int → Mem → Prop} (hc : zCx K X) (ho : K.2.2.2.1 = RX3) (hfit : zFits KX3_has K) (hf : K.2.2.2.2.2.1 k = true) (hk : k < 9) (hr : (st.map zcat).sum ≤ 8) (hct : zCt yX3_has KX3_has [zR k, zI a0, zI a1] M Qc) (dg : decode K.1 pc = .ok (.invokevirtual 40, 3)) (kk : ∀ (r : Option Int) (M' : Mem), Qc r M' → zJW X (pc + 3) lv (zans r ++ st) M') : zJW X pc lv (zI a1 :: zI a0 :: zR k :: st) M :=
  z_callV (As := [zI a0, zI a1]) hc hct ok_X3_has hfit hf (ztm_st hk) rfl (by rw [ho]; exact mm_X3_40) im_X3_has se_X3_has rfl hr rfl dg kk
theorem kc_X3_40 {K : Kp} {X : CX} {pc : Nat} {lv : List (Nat × MV)} {st : List MV} {M : Mem} {k : Nat} {a0 : Int} {a1 : Int} {z : Int} {M1 : Mem} (hc : zCx K X) (ho : K.2.2.2.1 = RX3) (hfit : zFits KX3_has K) (hf : K.2.2.2.2.2.1 k = true) (hk : k < 9) (hr : (st.map zcat).sum ≤ 8) (hct : zCt yX3_has KX3_has [zR k, zI a0, zI a1] M (fun v M' => v = some z ∧ M' = M1)) (dg : decode K.1 pc = .ok (.invokevirtual 40, 3)) (kk : zJW X (pc + 3) lv (zI z :: st) M1) : zJW X pc lv (zI a1 :: zI a0 :: zR k :: st) M :=
  kg_X3_40 hc ho hfit hf hk hr hct dg (fun r M' h => by obtain ⟨rfl, rfl⟩ := h; exact kk)
theorem mf_X3_22 : Cond.fieldLink RX3 22 "CoastTiles$State" "landTile" "[Z" ∈ TB := List.mem_filter.mpr ⟨List.mem_of_getElem? (i := 106) (by decide +kernel), rfl⟩
theorem fg_X3_22 {K : Kp} {X : CX} {pc : Nat} {lv : List (Nat × MV)} {st : List MV} {M : Mem} {k : Nat} (hc : zCx K X) (ho : K.2.2.2.1 = RX3) (hf : K.2.2.2.2.2.1 k = true) (hk : k < 9) (dg : decode K.1 pc = .ok (.getfield 22, 3)) (kk : zJW X (pc + 3) lv (zR (k + 9) :: st) M) : zJW X pc lv (zR k :: st) M :=
  z_get (j := 3) (C := RX3) (T := TX3) (N := 5) hc hf (ztm_st hk) rfl rfl inX3 (by decide) (by rw [ho]; exact mf_X3_22) dg kk
theorem mf_X3_18 : Cond.fieldLink RX3 18 "CoastTiles$State" "outsideIsLand" "Z" ∈ TB := List.mem_filter.mpr ⟨List.mem_of_getElem? (i := 104) (by decide +kernel), rfl⟩
theorem fg_X3_18 {K : Kp} {X : CX} {pc : Nat} {lv : List (Nat × MV)} {st : List MV} {M : Mem} {k : Nat} (hc : zCx K X) (ho : K.2.2.2.1 = RX3) (hf : K.2.2.2.2.2.1 k = true) (hk : k < 9) (dg : decode K.1 pc = .ok (.getfield 18, 3)) (kk : zJW X (pc + 3) lv (zI (M k 2) :: st) M) : zJW X pc lv (zR k :: st) M :=
  z_get (j := 2) (C := RX3) (T := TX3) (N := 5) hc hf (ztm_st hk) rfl rfl inX3 (by decide) (by rw [ho]; exact mf_X3_18) dg kk
theorem mf_X3_26 : Cond.fieldLink RX3 26 "CoastTiles$State" "pinnedShape" "[I" ∈ TB := List.mem_filter.mpr ⟨List.mem_of_getElem? (i := 107) (by decide +kernel), rfl⟩
theorem fg_X3_26 {K : Kp} {X : CX} {pc : Nat} {lv : List (Nat × MV)} {st : List MV} {M : Mem} {k : Nat} (hc : zCx K X) (ho : K.2.2.2.1 = RX3) (hf : K.2.2.2.2.2.1 k = true) (hk : k < 9) (dg : decode K.1 pc = .ok (.getfield 26, 3)) (kk : zJW X (pc + 3) lv (zR (k + 18) :: st) M) : zJW X pc lv (zR k :: st) M :=
  z_get (j := 4) (C := RX3) (T := TX3) (N := 5) hc hf (ztm_st hk) rfl rfl inX3 (by decide) (by rw [ho]; exact mf_X3_26) dg kk
theorem mm_X3_43 : Cond.methodLink RX3 43 yX3_pinAt ∈ TB := List.mem_filter.mpr ⟨List.mem_of_getElem? (i := 282) (by decide +kernel), rfl⟩
theorem kg_X3_43 {K : Kp} {X : CX} {pc : Nat} {lv : List (Nat × MV)} {st : List MV} {M : Mem} {k : Nat} {a0 : Int} {a1 : Int} {Qc : Option Int → Mem → Prop} (hc : zCx K X) (ho : K.2.2.2.1 = RX3) (hfit : zFits KX3_pinAt K) (hf : K.2.2.2.2.2.1 k = true) (hk : k < 9) (hr : (st.map zcat).sum ≤ 8) (hct : zCt yX3_pinAt KX3_pinAt [zR k, zI a0, zI a1] M Qc) (dg : decode K.1 pc = .ok (.invokevirtual 43, 3)) (kk : ∀ (r : Option Int) (M' : Mem), Qc r M' → zJW X (pc + 3) lv (zans r ++ st) M') : zJW X pc lv (zI a1 :: zI a0 :: zR k :: st) M :=
  z_callV (As := [zI a0, zI a1]) hc hct ok_X3_pinAt hfit hf (ztm_st hk) rfl (by rw [ho]; exact mm_X3_43) im_X3_pinAt se_X3_pinAt rfl hr rfl dg kk
theorem kc_X3_43 {K : Kp} {X : CX} {pc : Nat} {lv : List (Nat × MV)} {st : List MV} {M : Mem} {k : Nat} {a0 : Int} {a1 : Int} {z : Int} {M1 : Mem} (hc : zCx K X) (ho : K.2.2.2.1 = RX3) (hfit : zFits KX3_pinAt K) (hf : K.2.2.2.2.2.1 k = true) (hk : k < 9) (hr : (st.map zcat).sum ≤ 8) (hct : zCt yX3_pinAt KX3_pinAt [zR k, zI a0, zI a1] M (fun v M' => v = some z ∧ M' = M1)) (dg : decode K.1 pc = .ok (.invokevirtual 43, 3)) (kk : zJW X (pc + 3) lv (zI z :: st) M1) : zJW X pc lv (zI a1 :: zI a0 :: zR k :: st) M :=
  kg_X3_43 hc ho hfit hf hk hr hct dg (fun r M' h => by obtain ⟨rfl, rfl⟩ := h; exact kk)
theorem mm_X3_47 : Cond.methodLink RX3 47 yX3_isLandAt ∈ TB := List.mem_filter.mpr ⟨List.mem_of_getElem? (i := 290) (by decide +kernel), rfl⟩
theorem kg_X3_47 {K : Kp} {X : CX} {pc : Nat} {lv : List (Nat × MV)} {st : List MV} {M : Mem} {k : Nat} {a0 : Int} {a1 : Int} {Qc : Option Int → Mem → Prop} (hc : zCx K X) (ho : K.2.2.2.1 = RX3) (hfit : zFits KX3_isLandAt K) (hf : K.2.2.2.2.2.1 k = true) (hk : k < 9) (hr : (st.map zcat).sum ≤ 8) (hct : zCt yX3_isLandAt KX3_isLandAt [zR k, zI a0, zI a1] M Qc) (dg : decode K.1 pc = .ok (.invokevirtual 47, 3)) (kk : ∀ (r : Option Int) (M' : Mem), Qc r M' → zJW X (pc + 3) lv (zans r ++ st) M') : zJW X pc lv (zI a1 :: zI a0 :: zR k :: st) M :=
  z_callV (As := [zI a0, zI a1]) hc hct ok_X3_isLandAt hfit hf (ztm_st hk) rfl (by rw [ho]; exact mm_X3_47) im_X3_isLandAt se_X3_isLandAt rfl hr rfl dg kk
theorem kc_X3_47 {K : Kp} {X : CX} {pc : Nat} {lv : List (Nat × MV)} {st : List MV} {M : Mem} {k : Nat} {a0 : Int} {a1 : Int} {z : Int} {M1 : Mem} (hc : zCx K X) (ho : K.2.2.2.1 = RX3) (hfit : zFits KX3_isLandAt K) (hf : K.2.2.2.2.2.1 k = true) (hk : k < 9) (hr : (st.map zcat).sum ≤ 8) (hct : zCt yX3_isLandAt KX3_isLandAt [zR k, zI a0, zI a1] M (fun v M' => v = some z ∧ M' = M1)) (dg : decode K.1 pc = .ok (.invokevirtual 47, 3)) (kk : zJW X (pc + 3) lv (zI z :: st) M1) : zJW X pc lv (zI a1 :: zI a0 :: zR k :: st) M :=
  kg_X3_47 hc ho hfit hf hk hr hct dg (fun r M' h => by obtain ⟨rfl, rfl⟩ := h; exact kk)
theorem mm_X3_50 : Cond.methodLink RX3 50 yJ9_min_7cf53 ∈ TB := List.mem_filter.mpr ⟨List.mem_of_getElem? (i := 238) (by decide +kernel), rfl⟩
theorem kg_X3_50 {K : Kp} {X : CX} {pc : Nat} {lv : List (Nat × MV)} {st : List MV} {M : Mem} {a0 : Int} {a1 : Int} {Qc : Option Int → Mem → Prop} (hc : zCx K X) (ho : K.2.2.2.1 = RX3) (hfit : zFits KJ9_min_7cf53 K) (hr : (st.map zcat).sum ≤ 8) (hct : zCt yJ9_min_7cf53 KJ9_min_7cf53 [zI a0, zI a1] M Qc) (dg : decode K.1 pc = .ok (.invokestatic 50, 3)) (kk : ∀ (r : Option Int) (M' : Mem), Qc r M' → zJW X (pc + 3) lv (zans r ++ st) M') : zJW X pc lv (zI a1 :: zI a0 :: st) M :=
  z_callS (As := [zI a0, zI a1]) hc hct ok_J9_min_7cf53 hfit (by rw [ho]; exact mm_X3_50) im_J9_min_7cf53 rfl hr rfl dg kk
theorem kc_X3_50 {K : Kp} {X : CX} {pc : Nat} {lv : List (Nat × MV)} {st : List MV} {M : Mem} {a0 : Int} {a1 : Int} {z : Int} {M1 : Mem} (hc : zCx K X) (ho : K.2.2.2.1 = RX3) (hfit : zFits KJ9_min_7cf53 K) (hr : (st.map zcat).sum ≤ 8) (hct : zCt yJ9_min_7cf53 KJ9_min_7cf53 [zI a0, zI a1] M (fun v M' => v = some z ∧ M' = M1)) (dg : decode K.1 pc = .ok (.invokestatic 50, 3)) (kk : zJW X (pc + 3) lv (zI z :: st) M1) : zJW X pc lv (zI a1 :: zI a0 :: st) M :=
  kg_X3_50 hc ho hfit hr hct dg (fun r M' h => by obtain ⟨rfl, rfl⟩ := h; exact kk)
theorem fp_X3_9 {K : Kp} {X : CX} {pc : Nat} {lv : List (Nat × MV)} {st : List MV} {M : Mem} {k : Nat} {v : Int} (hc : zCx K X) (ho : K.2.2.2.1 = RX3) (hf : K.2.2.2.2.2.1 k = true) (hk : k < 9) (dg : decode K.1 pc = .ok (.putfield 9, 3)) (kk : zJW X (pc + 3) lv st (zup M k 0 v)) : zJW X pc lv (zI v :: zR k :: st) M :=
  z_putG (j := 0) (C := RX3) (T := TX3) (N := 5) hc tyX3 tyX3_ok nmX3 hf (ztm_st hk) rfl rfl inX3 (by decide) rfl (by rw [ho]; exact mf_X3_9) rfl rfl dg kk
theorem fp_X3_15 {K : Kp} {X : CX} {pc : Nat} {lv : List (Nat × MV)} {st : List MV} {M : Mem} {k : Nat} {v : Int} (hc : zCx K X) (ho : K.2.2.2.1 = RX3) (hf : K.2.2.2.2.2.1 k = true) (hk : k < 9) (dg : decode K.1 pc = .ok (.putfield 15, 3)) (kk : zJW X (pc + 3) lv st (zup M k 1 v)) : zJW X pc lv (zI v :: zR k :: st) M :=
  z_putG (j := 1) (C := RX3) (T := TX3) (N := 5) hc tyX3 tyX3_ok nmX3 hf (ztm_st hk) rfl rfl inX3 (by decide) rfl (by rw [ho]; exact mf_X3_15) rfl rfl dg kk
theorem fp_X3_18 {K : Kp} {X : CX} {pc : Nat} {lv : List (Nat × MV)} {st : List MV} {M : Mem} {k : Nat} {b : Bool} (hc : zCx K X) (ho : K.2.2.2.1 = RX3) (hf : K.2.2.2.2.2.1 k = true) (hk : k < 9) (dg : decode K.1 pc = .ok (.putfield 18, 3)) (kk : zJW X (pc + 3) lv st (zup M k 2 (zbz b))) : zJW X pc lv (zI (zbz b) :: zR k :: st) M :=
  z_putG (j := 2) (C := RX3) (T := TX3) (N := 5) hc tyX3 tyX3_ok nmX3 hf (ztm_st hk) rfl rfl inX3 (by decide) rfl (by rw [ho]; exact mf_X3_18) (iI_zbz_nar b) (iI_zbz_fit b) dg kk
theorem mm_X3_55 : Cond.methodLinkNest RX3 55 yX5_rowStep "CoastTiles" ∈ zNW := List.mem_filter.mpr ⟨List.mem_of_getElem? (i := 253) (by decide +kernel), rfl⟩
theorem kg_X3_55 {K : Kp} {X : CX} {pc : Nat} {lv : List (Nat × MV)} {st : List MV} {M : Mem} {a0 : Int} {Qc : Option Int → Mem → Prop} (hc : zCx K X) (ho : K.2.2.2.1 = RX3) (hfit : zFits KX5_rowStep K) (hr : (st.map zcat).sum ≤ 8) (hct : zCt yX5_rowStep KX5_rowStep [zI a0] M Qc) (dg : decode K.1 pc = .ok (.invokestatic 55, 3)) (kk : ∀ (r : Option Int) (M' : Mem), Qc r M' → zJW X (pc + 3) lv (zans r ++ st) M') : zJW X pc lv (zI a0 :: st) M :=
  z_callSN (As := [zI a0]) hc hct ok_X5_rowStep hfit (by rw [ho]; exact mm_X3_55) im_X5_rowStep rfl hr rfl dg kk
theorem kc_X3_55 {K : Kp} {X : CX} {pc : Nat} {lv : List (Nat × MV)} {st : List MV} {M : Mem} {a0 : Int} {z : Int} {M1 : Mem} (hc : zCx K X) (ho : K.2.2.2.1 = RX3) (hfit : zFits KX5_rowStep K) (hr : (st.map zcat).sum ≤ 8) (hct : zCt yX5_rowStep KX5_rowStep [zI a0] M (fun v M' => v = some z ∧ M' = M1)) (dg : decode K.1 pc = .ok (.invokestatic 55, 3)) (kk : zJW X (pc + 3) lv (zI z :: st) M1) : zJW X pc lv (zI a0 :: st) M :=
  kg_X3_55 hc ho hfit hr hct dg (fun r M' h => by obtain ⟨rfl, rfl⟩ := h; exact kk)
theorem mm_X3_59 : Cond.methodLinkNest RX3 59 yX5_columnStep "CoastTiles" ∈ zNW := List.mem_filter.mpr ⟨List.mem_of_getElem? (i := 258) (by decide +kernel), rfl⟩
theorem kg_X3_59 {K : Kp} {X : CX} {pc : Nat} {lv : List (Nat × MV)} {st : List MV} {M : Mem} {a0 : Int} {Qc : Option Int → Mem → Prop} (hc : zCx K X) (ho : K.2.2.2.1 = RX3) (hfit : zFits KX5_columnStep K) (hr : (st.map zcat).sum ≤ 8) (hct : zCt yX5_columnStep KX5_columnStep [zI a0] M Qc) (dg : decode K.1 pc = .ok (.invokestatic 59, 3)) (kk : ∀ (r : Option Int) (M' : Mem), Qc r M' → zJW X (pc + 3) lv (zans r ++ st) M') : zJW X pc lv (zI a0 :: st) M :=
  z_callSN (As := [zI a0]) hc hct ok_X5_columnStep hfit (by rw [ho]; exact mm_X3_59) im_X5_columnStep rfl hr rfl dg kk
theorem kc_X3_59 {K : Kp} {X : CX} {pc : Nat} {lv : List (Nat × MV)} {st : List MV} {M : Mem} {a0 : Int} {z : Int} {M1 : Mem} (hc : zCx K X) (ho : K.2.2.2.1 = RX3) (hfit : zFits KX5_columnStep K) (hr : (st.map zcat).sum ≤ 8) (hct : zCt yX5_columnStep KX5_columnStep [zI a0] M (fun v M' => v = some z ∧ M' = M1)) (dg : decode K.1 pc = .ok (.invokestatic 59, 3)) (kk : zJW X (pc + 3) lv (zI z :: st) M1) : zJW X pc lv (zI a0 :: st) M :=
  kg_X3_59 hc ho hfit hr hct dg (fun r M' h => by obtain ⟨rfl, rfl⟩ := h; exact kk)
theorem mf_X4_15 : Cond.fieldLink RX4 15 "CoastTiles$TextMap" "length" "I" ∈ TB := List.mem_filter.mpr ⟨List.mem_of_getElem? (i := 167) (by decide +kernel), rfl⟩
theorem fg_X4_15 {K : Kp} {X : CX} {pc : Nat} {lv : List (Nat × MV)} {st : List MV} {M : Mem} (hc : zCx K X) (ho : K.2.2.2.1 = RX4) (hf : K.2.2.2.2.2.1 36 = true) (dg : decode K.1 pc = .ok (.getfield 15, 3)) (kk : zJW X (pc + 3) lv (zI (M 36 1) :: st) M) : zJW X pc lv (zR 36 :: st) M :=
  z_get (j := 1) (C := RX4) (T := TX4) (N := 7) hc hf rfl rfl rfl inX4 (by decide) (by rw [ho]; exact mf_X4_15) dg kk
theorem mf_X4_9 : Cond.fieldLink RX4 9 "CoastTiles$TextMap" "codes" "[I" ∈ TB := List.mem_filter.mpr ⟨List.mem_of_getElem? (i := 166) (by decide +kernel), rfl⟩
theorem fg_X4_9 {K : Kp} {X : CX} {pc : Nat} {lv : List (Nat × MV)} {st : List MV} {M : Mem} (hc : zCx K X) (ho : K.2.2.2.1 = RX4) (hf : K.2.2.2.2.2.1 36 = true) (dg : decode K.1 pc = .ok (.getfield 9, 3)) (kk : zJW X (pc + 3) lv (zR 37 :: st) M) : zJW X pc lv (zR 36 :: st) M :=
  z_get (j := 0) (C := RX4) (T := TX4) (N := 7) hc hf rfl rfl rfl inX4 (by decide) (by rw [ho]; exact mf_X4_9) dg kk
theorem fp_X4_15 {K : Kp} {X : CX} {pc : Nat} {lv : List (Nat × MV)} {st : List MV} {M : Mem} {v : Int} (hc : zCx K X) (ho : K.2.2.2.1 = RX4) (hf : K.2.2.2.2.2.1 36 = true) (dg : decode K.1 pc = .ok (.putfield 15, 3)) (kk : zJW X (pc + 3) lv st (zup M 36 1 v)) : zJW X pc lv (zI v :: zR 36 :: st) M :=
  z_putG (j := 1) (C := RX4) (T := TX4) (N := 7) hc tyX4 tyX4_ok nmX4 hf rfl rfl rfl inX4 (by decide) rfl (by rw [ho]; exact mf_X4_15) rfl rfl dg kk
theorem mf_X4_22 : Cond.fieldLink RX4 22 "CoastTiles$TextMap" "draft" "LCoastTiles$State;" ∈ TB := List.mem_filter.mpr ⟨List.mem_of_getElem? (i := 169) (by decide +kernel), rfl⟩
theorem fg_X4_22 {K : Kp} {X : CX} {pc : Nat} {lv : List (Nat × MV)} {st : List MV} {M : Mem} (hc : zCx K X) (ho : K.2.2.2.1 = RX4) (hf : K.2.2.2.2.2.1 36 = true) (dg : decode K.1 pc = .ok (.getfield 22, 3)) (kk : zJW X (pc + 3) lv (zR 8 :: st) M) : zJW X pc lv (zR 36 :: st) M :=
  z_get (j := 2) (C := RX4) (T := TX4) (N := 7) hc hf rfl rfl rfl inX4 (by decide) (by rw [ho]; exact mf_X4_22) dg kk
theorem mm_X4_38 : Cond.methodLink RX4 38 yX3_becomeWater ∈ TB := List.mem_filter.mpr ⟨List.mem_of_getElem? (i := 541) (by decide +kernel), rfl⟩
theorem kg_X4_38 {K : Kp} {X : CX} {pc : Nat} {lv : List (Nat × MV)} {st : List MV} {M : Mem} {k : Nat} {a0 : Int} {a1 : Int} {Qc : Option Int → Mem → Prop} (hc : zCx K X) (ho : K.2.2.2.1 = RX4) (hfit : zFits KX3_becomeWater K) (hf : K.2.2.2.2.2.1 k = true) (hk : k < 9) (hr : (st.map zcat).sum ≤ 8) (hct : zCt yX3_becomeWater KX3_becomeWater [zR k, zI a0, zI a1] M Qc) (dg : decode K.1 pc = .ok (.invokevirtual 38, 3)) (kk : ∀ (r : Option Int) (M' : Mem), Qc r M' → zJW X (pc + 3) lv (zans r ++ st) M') : zJW X pc lv (zI a1 :: zI a0 :: zR k :: st) M :=
  z_callV (As := [zI a0, zI a1]) hc hct ok_X3_becomeWater hfit hf (ztm_st hk) rfl (by rw [ho]; exact mm_X4_38) im_X3_becomeWater se_X3_becomeWater rfl hr rfl dg kk
theorem kc_X4_38 {K : Kp} {X : CX} {pc : Nat} {lv : List (Nat × MV)} {st : List MV} {M : Mem} {k : Nat} {a0 : Int} {a1 : Int} {M1 : Mem} (hc : zCx K X) (ho : K.2.2.2.1 = RX4) (hfit : zFits KX3_becomeWater K) (hf : K.2.2.2.2.2.1 k = true) (hk : k < 9) (hr : (st.map zcat).sum ≤ 8) (hct : zCt yX3_becomeWater KX3_becomeWater [zR k, zI a0, zI a1] M (fun v M' => v = none ∧ M' = M1)) (dg : decode K.1 pc = .ok (.invokevirtual 38, 3)) (kk : zJW X (pc + 3) lv st M1) : zJW X pc lv (zI a1 :: zI a0 :: zR k :: st) M :=
  kg_X4_38 hc ho hfit hf hk hr hct dg (fun r M' h => by obtain ⟨rfl, rfl⟩ := h; exact kk)
theorem mf_X4_26 : Cond.fieldLink RX4 26 "CoastTiles$TextMap" "row" "I" ∈ TB := List.mem_filter.mpr ⟨List.mem_of_getElem? (i := 171) (by decide +kernel), rfl⟩
theorem fp_X4_26 {K : Kp} {X : CX} {pc : Nat} {lv : List (Nat × MV)} {st : List MV} {M : Mem} {v : Int} (hc : zCx K X) (ho : K.2.2.2.1 = RX4) (hf : K.2.2.2.2.2.1 36 = true) (dg : decode K.1 pc = .ok (.putfield 26, 3)) (kk : zJW X (pc + 3) lv st (zup M 36 3 v)) : zJW X pc lv (zI v :: zR 36 :: st) M :=
  z_putG (j := 3) (C := RX4) (T := TX4) (N := 7) hc tyX4 tyX4_ok nmX4 hf rfl rfl rfl inX4 (by decide) rfl (by rw [ho]; exact mf_X4_26) rfl rfl dg kk
theorem mf_X4_29 : Cond.fieldLink RX4 29 "CoastTiles$TextMap" "column" "I" ∈ TB := List.mem_filter.mpr ⟨List.mem_of_getElem? (i := 172) (by decide +kernel), rfl⟩
theorem fp_X4_29 {K : Kp} {X : CX} {pc : Nat} {lv : List (Nat × MV)} {st : List MV} {M : Mem} {v : Int} (hc : zCx K X) (ho : K.2.2.2.1 = RX4) (hf : K.2.2.2.2.2.1 36 = true) (dg : decode K.1 pc = .ok (.putfield 29, 3)) (kk : zJW X (pc + 3) lv st (zup M 36 4 v)) : zJW X pc lv (zI v :: zR 36 :: st) M :=
  z_putG (j := 4) (C := RX4) (T := TX4) (N := 7) hc tyX4 tyX4_ok nmX4 hf rfl rfl rfl inX4 (by decide) rfl (by rw [ho]; exact mf_X4_29) rfl rfl dg kk
theorem mf_X4_32 : Cond.fieldLink RX4 32 "CoastTiles$TextMap" "columnsOfFirstRow" "I" ∈ TB := List.mem_filter.mpr ⟨List.mem_of_getElem? (i := 173) (by decide +kernel), rfl⟩
theorem fp_X4_32 {K : Kp} {X : CX} {pc : Nat} {lv : List (Nat × MV)} {st : List MV} {M : Mem} {v : Int} (hc : zCx K X) (ho : K.2.2.2.1 = RX4) (hf : K.2.2.2.2.2.1 36 = true) (dg : decode K.1 pc = .ok (.putfield 32, 3)) (kk : zJW X (pc + 3) lv st (zup M 36 5 v)) : zJW X pc lv (zI v :: zR 36 :: st) M :=
  z_putG (j := 5) (C := RX4) (T := TX4) (N := 7) hc tyX4 tyX4_ok nmX4 hf rfl rfl rfl inX4 (by decide) rfl (by rw [ho]; exact mf_X4_32) rfl rfl dg kk
theorem mf_X4_35 : Cond.fieldLink RX4 35 "CoastTiles$TextMap" "number" "I" ∈ TB := List.mem_filter.mpr ⟨List.mem_of_getElem? (i := 174) (by decide +kernel), rfl⟩
theorem fp_X4_35 {K : Kp} {X : CX} {pc : Nat} {lv : List (Nat × MV)} {st : List MV} {M : Mem} {v : Int} (hc : zCx K X) (ho : K.2.2.2.1 = RX4) (hf : K.2.2.2.2.2.1 36 = true) (dg : decode K.1 pc = .ok (.putfield 35, 3)) (kk : zJW X (pc + 3) lv st (zup M 36 6 v)) : zJW X pc lv (zI v :: zR 36 :: st) M :=
  z_putG (j := 6) (C := RX4) (T := TX4) (N := 7) hc tyX4 tyX4_ok nmX4 hf rfl rfl rfl inX4 (by decide) rfl (by rw [ho]; exact mf_X4_35) rfl rfl dg kk
theorem mm_X4_42 : Cond.methodLink RX4 42 yX4_accepts ∈ TB := List.mem_filter.mpr ⟨List.mem_of_getElem? (i := 542) (by decide +kernel), rfl⟩
theorem kg_X4_42 {K : Kp} {X : CX} {pc : Nat} {lv : List (Nat × MV)} {st : List MV} {M : Mem} {a0 : Int} {Qc : Option Int → Mem → Prop} (hc : zCx K X) (ho : K.2.2.2.1 = RX4) (hfit : zFits KX4_accepts K) (hf : K.2.2.2.2.2.1 36 = true) (hr : (st.map zcat).sum ≤ 8) (hct : zCt yX4_accepts KX4_accepts [zR 36, zI a0] M Qc) (dg : decode K.1 pc = .ok (.invokevirtual 42, 3)) (kk : ∀ (r : Option Int) (M' : Mem), Qc r M' → zJW X (pc + 3) lv (zans r ++ st) M') : zJW X pc lv (zI a0 :: zR 36 :: st) M :=
  z_callV (As := [zI a0]) hc hct ok_X4_accepts hfit hf rfl rfl (by rw [ho]; exact mm_X4_42) im_X4_accepts se_X4_accepts rfl hr rfl dg kk
theorem kc_X4_42 {K : Kp} {X : CX} {pc : Nat} {lv : List (Nat × MV)} {st : List MV} {M : Mem} {a0 : Int} {z : Int} {M1 : Mem} (hc : zCx K X) (ho : K.2.2.2.1 = RX4) (hfit : zFits KX4_accepts K) (hf : K.2.2.2.2.2.1 36 = true) (hr : (st.map zcat).sum ≤ 8) (hct : zCt yX4_accepts KX4_accepts [zR 36, zI a0] M (fun v M' => v = some z ∧ M' = M1)) (dg : decode K.1 pc = .ok (.invokevirtual 42, 3)) (kk : zJW X (pc + 3) lv (zI z :: st) M1) : zJW X pc lv (zI a0 :: zR 36 :: st) M :=
  kg_X4_42 hc ho hfit hf hr hct dg (fun r M' h => by obtain ⟨rfl, rfl⟩ := h; exact kk)
theorem fg_X4_35 {K : Kp} {X : CX} {pc : Nat} {lv : List (Nat × MV)} {st : List MV} {M : Mem} (hc : zCx K X) (ho : K.2.2.2.1 = RX4) (hf : K.2.2.2.2.2.1 36 = true) (dg : decode K.1 pc = .ok (.getfield 35, 3)) (kk : zJW X (pc + 3) lv (zI (M 36 6) :: st) M) : zJW X pc lv (zR 36 :: st) M :=
  z_get (j := 6) (C := RX4) (T := TX4) (N := 7) hc hf rfl rfl rfl inX4 (by decide) (by rw [ho]; exact mf_X4_35) dg kk
theorem mm_X4_46 : Cond.methodLink RX4 46 yX4_rowCanEnd ∈ TB := List.mem_filter.mpr ⟨List.mem_of_getElem? (i := 550) (by decide +kernel), rfl⟩
theorem kg_X4_46 {K : Kp} {X : CX} {pc : Nat} {lv : List (Nat × MV)} {st : List MV} {M : Mem} {Qc : Option Int → Mem → Prop} (hc : zCx K X) (ho : K.2.2.2.1 = RX4) (hfit : zFits KX4_rowCanEnd K) (hf : K.2.2.2.2.2.1 36 = true) (hr : (st.map zcat).sum ≤ 8) (hct : zCt yX4_rowCanEnd KX4_rowCanEnd [zR 36] M Qc) (dg : decode K.1 pc = .ok (.invokevirtual 46, 3)) (kk : ∀ (r : Option Int) (M' : Mem), Qc r M' → zJW X (pc + 3) lv (zans r ++ st) M') : zJW X pc lv (zR 36 :: st) M :=
  z_callV (As := []) hc hct ok_X4_rowCanEnd hfit hf rfl rfl (by rw [ho]; exact mm_X4_46) im_X4_rowCanEnd se_X4_rowCanEnd rfl hr rfl dg kk
theorem kc_X4_46 {K : Kp} {X : CX} {pc : Nat} {lv : List (Nat × MV)} {st : List MV} {M : Mem} {z : Int} {M1 : Mem} (hc : zCx K X) (ho : K.2.2.2.1 = RX4) (hfit : zFits KX4_rowCanEnd K) (hf : K.2.2.2.2.2.1 36 = true) (hr : (st.map zcat).sum ≤ 8) (hct : zCt yX4_rowCanEnd KX4_rowCanEnd [zR 36] M (fun v M' => v = some z ∧ M' = M1)) (dg : decode K.1 pc = .ok (.invokevirtual 46, 3)) (kk : zJW X (pc + 3) lv (zI z :: st) M1) : zJW X pc lv (zR 36 :: st) M :=
  kg_X4_46 hc ho hfit hf hr hct dg (fun r M' h => by obtain ⟨rfl, rfl⟩ := h; exact kk)
theorem fg_X4_26 {K : Kp} {X : CX} {pc : Nat} {lv : List (Nat × MV)} {st : List MV} {M : Mem} (hc : zCx K X) (ho : K.2.2.2.1 = RX4) (hf : K.2.2.2.2.2.1 36 = true) (dg : decode K.1 pc = .ok (.getfield 26, 3)) (kk : zJW X (pc + 3) lv (zI (M 36 3) :: st) M) : zJW X pc lv (zR 36 :: st) M :=
  z_get (j := 3) (C := RX4) (T := TX4) (N := 7) hc hf rfl rfl rfl inX4 (by decide) (by rw [ho]; exact mf_X4_26) dg kk
theorem mf_X4_50 : Cond.fieldLinkNest RX4 50 "CoastTiles$State" "height" "I" "CoastTiles" ∈ zNW := List.mem_filter.mpr ⟨List.mem_of_getElem? (i := 97) (by decide +kernel), rfl⟩
theorem fp_X4_50 {K : Kp} {X : CX} {pc : Nat} {lv : List (Nat × MV)} {st : List MV} {M : Mem} {k : Nat} {v : Int} (hc : zCx K X) (ho : K.2.2.2.1 = RX4) (hf : K.2.2.2.2.2.1 k = true) (hk : k < 9) (dg : decode K.1 pc = .ok (.putfield 50, 3)) (kk : zJW X (pc + 3) lv st (zup M k 0 v)) : zJW X pc lv (zI v :: zR k :: st) M :=
  z_putGN (j := 0) (C := RX3) (T := TX3) (N := 5) hc tyX3 tyX3_ok nmX3 hf (ztm_st hk) rfl rfl inX3 (by decide) rfl (by rw [ho]; exact mf_X4_50) rfl rfl dg kk
theorem fg_X4_29 {K : Kp} {X : CX} {pc : Nat} {lv : List (Nat × MV)} {st : List MV} {M : Mem} (hc : zCx K X) (ho : K.2.2.2.1 = RX4) (hf : K.2.2.2.2.2.1 36 = true) (dg : decode K.1 pc = .ok (.getfield 29, 3)) (kk : zJW X (pc + 3) lv (zI (M 36 4) :: st) M) : zJW X pc lv (zR 36 :: st) M :=
  z_get (j := 4) (C := RX4) (T := TX4) (N := 7) hc hf rfl rfl rfl inX4 (by decide) (by rw [ho]; exact mf_X4_29) dg kk
theorem mf_X4_53 : Cond.fieldLinkNest RX4 53 "CoastTiles$State" "width" "I" "CoastTiles" ∈ zNW := List.mem_filter.mpr ⟨List.mem_of_getElem? (i := 101) (by decide +kernel), rfl⟩
theorem fp_X4_53 {K : Kp} {X : CX} {pc : Nat} {lv : List (Nat × MV)} {st : List MV} {M : Mem} {k : Nat} {v : Int} (hc : zCx K X) (ho : K.2.2.2.1 = RX4) (hf : K.2.2.2.2.2.1 k = true) (hk : k < 9) (dg : decode K.1 pc = .ok (.putfield 53, 3)) (kk : zJW X (pc + 3) lv st (zup M k 1 v)) : zJW X pc lv (zI v :: zR k :: st) M :=
  z_putGN (j := 1) (C := RX3) (T := TX3) (N := 5) hc tyX3 tyX3_ok nmX3 hf (ztm_st hk) rfl rfl inX3 (by decide) rfl (by rw [ho]; exact mf_X4_53) rfl rfl dg kk
theorem mm_X4_56 : Cond.methodLink RX4 56 yX4_acceptsRowEnd ∈ TB := List.mem_filter.mpr ⟨List.mem_of_getElem? (i := 546) (by decide +kernel), rfl⟩
theorem kg_X4_56 {K : Kp} {X : CX} {pc : Nat} {lv : List (Nat × MV)} {st : List MV} {M : Mem} {Qc : Option Int → Mem → Prop} (hc : zCx K X) (ho : K.2.2.2.1 = RX4) (hfit : zFits KX4_acceptsRowEnd K) (hf : K.2.2.2.2.2.1 36 = true) (hr : (st.map zcat).sum ≤ 8) (hct : zCt yX4_acceptsRowEnd KX4_acceptsRowEnd [zR 36] M Qc) (dg : decode K.1 pc = .ok (.invokevirtual 56, 3)) (kk : ∀ (r : Option Int) (M' : Mem), Qc r M' → zJW X (pc + 3) lv (zans r ++ st) M') : zJW X pc lv (zR 36 :: st) M :=
  z_callV (As := []) hc hct ok_X4_acceptsRowEnd hfit hf rfl rfl (by rw [ho]; exact mm_X4_56) im_X4_acceptsRowEnd se_X4_acceptsRowEnd rfl hr rfl dg kk
theorem kc_X4_56 {K : Kp} {X : CX} {pc : Nat} {lv : List (Nat × MV)} {st : List MV} {M : Mem} {z : Int} {M1 : Mem} (hc : zCx K X) (ho : K.2.2.2.1 = RX4) (hfit : zFits KX4_acceptsRowEnd K) (hf : K.2.2.2.2.2.1 36 = true) (hr : (st.map zcat).sum ≤ 8) (hct : zCt yX4_acceptsRowEnd KX4_acceptsRowEnd [zR 36] M (fun v M' => v = some z ∧ M' = M1)) (dg : decode K.1 pc = .ok (.invokevirtual 56, 3)) (kk : zJW X (pc + 3) lv (zI z :: st) M1) : zJW X pc lv (zR 36 :: st) M :=
  kg_X4_56 hc ho hfit hf hr hct dg (fun r M' h => by obtain ⟨rfl, rfl⟩ := h; exact kk)
theorem mm_X4_59 : Cond.methodLink RX4 59 yX4_acceptsRun ∈ TB := List.mem_filter.mpr ⟨List.mem_of_getElem? (i := 554) (by decide +kernel), rfl⟩
theorem kg_X4_59 {K : Kp} {X : CX} {pc : Nat} {lv : List (Nat × MV)} {st : List MV} {M : Mem} {a0 : Int} {Qc : Option Int → Mem → Prop} (hc : zCx K X) (ho : K.2.2.2.1 = RX4) (hfit : zFits KX4_acceptsRun K) (hf : K.2.2.2.2.2.1 36 = true) (hr : (st.map zcat).sum ≤ 8) (hct : zCt yX4_acceptsRun KX4_acceptsRun [zR 36, zI a0] M Qc) (dg : decode K.1 pc = .ok (.invokevirtual 59, 3)) (kk : ∀ (r : Option Int) (M' : Mem), Qc r M' → zJW X (pc + 3) lv (zans r ++ st) M') : zJW X pc lv (zI a0 :: zR 36 :: st) M :=
  z_callV (As := [zI a0]) hc hct ok_X4_acceptsRun hfit hf rfl rfl (by rw [ho]; exact mm_X4_59) im_X4_acceptsRun se_X4_acceptsRun rfl hr rfl dg kk
theorem kc_X4_59 {K : Kp} {X : CX} {pc : Nat} {lv : List (Nat × MV)} {st : List MV} {M : Mem} {a0 : Int} {z : Int} {M1 : Mem} (hc : zCx K X) (ho : K.2.2.2.1 = RX4) (hfit : zFits KX4_acceptsRun K) (hf : K.2.2.2.2.2.1 36 = true) (hr : (st.map zcat).sum ≤ 8) (hct : zCt yX4_acceptsRun KX4_acceptsRun [zR 36, zI a0] M (fun v M' => v = some z ∧ M' = M1)) (dg : decode K.1 pc = .ok (.invokevirtual 59, 3)) (kk : zJW X (pc + 3) lv (zI z :: st) M1) : zJW X pc lv (zI a0 :: zR 36 :: st) M :=
  kg_X4_59 hc ho hfit hf hr hct dg (fun r M' h => by obtain ⟨rfl, rfl⟩ := h; exact kk)
theorem mm_X4_63 : Cond.methodLink RX4 63 yX4_acceptsDigit ∈ TB := List.mem_filter.mpr ⟨List.mem_of_getElem? (i := 563) (by decide +kernel), rfl⟩
theorem kg_X4_63 {K : Kp} {X : CX} {pc : Nat} {lv : List (Nat × MV)} {st : List MV} {M : Mem} {a0 : Int} {Qc : Option Int → Mem → Prop} (hc : zCx K X) (ho : K.2.2.2.1 = RX4) (hfit : zFits KX4_acceptsDigit K) (hf : K.2.2.2.2.2.1 36 = true) (hr : (st.map zcat).sum ≤ 8) (hct : zCt yX4_acceptsDigit KX4_acceptsDigit [zR 36, zI a0] M Qc) (dg : decode K.1 pc = .ok (.invokevirtual 63, 3)) (kk : ∀ (r : Option Int) (M' : Mem), Qc r M' → zJW X (pc + 3) lv (zans r ++ st) M') : zJW X pc lv (zI a0 :: zR 36 :: st) M :=
  z_callV (As := [zI a0]) hc hct ok_X4_acceptsDigit hfit hf rfl rfl (by rw [ho]; exact mm_X4_63) im_X4_acceptsDigit se_X4_acceptsDigit rfl hr rfl dg kk
theorem kc_X4_63 {K : Kp} {X : CX} {pc : Nat} {lv : List (Nat × MV)} {st : List MV} {M : Mem} {a0 : Int} {z : Int} {M1 : Mem} (hc : zCx K X) (ho : K.2.2.2.1 = RX4) (hfit : zFits KX4_acceptsDigit K) (hf : K.2.2.2.2.2.1 36 = true) (hr : (st.map zcat).sum ≤ 8) (hct : zCt yX4_acceptsDigit KX4_acceptsDigit [zR 36, zI a0] M (fun v M' => v = some z ∧ M' = M1)) (dg : decode K.1 pc = .ok (.invokevirtual 63, 3)) (kk : zJW X (pc + 3) lv (zI z :: st) M1) : zJW X pc lv (zI a0 :: zR 36 :: st) M :=
  kg_X4_63 hc ho hfit hf hr hct dg (fun r M' h => by obtain ⟨rfl, rfl⟩ := h; exact kk)
theorem mm_X4_66 : Cond.methodLink RX4 66 yX4_columnsLeft ∈ TB := List.mem_filter.mpr ⟨List.mem_of_getElem? (i := 558) (by decide +kernel), rfl⟩
theorem kg_X4_66 {K : Kp} {X : CX} {pc : Nat} {lv : List (Nat × MV)} {st : List MV} {M : Mem} {Qc : Option Int → Mem → Prop} (hc : zCx K X) (ho : K.2.2.2.1 = RX4) (hfit : zFits KX4_columnsLeft K) (hf : K.2.2.2.2.2.1 36 = true) (hr : (st.map zcat).sum ≤ 8) (hct : zCt yX4_columnsLeft KX4_columnsLeft [zR 36] M Qc) (dg : decode K.1 pc = .ok (.invokevirtual 66, 3)) (kk : ∀ (r : Option Int) (M' : Mem), Qc r M' → zJW X (pc + 3) lv (zans r ++ st) M') : zJW X pc lv (zR 36 :: st) M :=
  z_callV (As := []) hc hct ok_X4_columnsLeft hfit hf rfl rfl (by rw [ho]; exact mm_X4_66) im_X4_columnsLeft se_X4_columnsLeft rfl hr rfl dg kk
theorem kc_X4_66 {K : Kp} {X : CX} {pc : Nat} {lv : List (Nat × MV)} {st : List MV} {M : Mem} {z : Int} {M1 : Mem} (hc : zCx K X) (ho : K.2.2.2.1 = RX4) (hfit : zFits KX4_columnsLeft K) (hf : K.2.2.2.2.2.1 36 = true) (hr : (st.map zcat).sum ≤ 8) (hct : zCt yX4_columnsLeft KX4_columnsLeft [zR 36] M (fun v M' => v = some z ∧ M' = M1)) (dg : decode K.1 pc = .ok (.invokevirtual 66, 3)) (kk : zJW X (pc + 3) lv (zI z :: st) M1) : zJW X pc lv (zR 36 :: st) M :=
  kg_X4_66 hc ho hfit hf hr hct dg (fun r M' h => by obtain ⟨rfl, rfl⟩ := h; exact kk)
theorem mm_X4_70 : Cond.methodLink RX4 70 yX3_putKind ∈ TB := List.mem_filter.mpr ⟨List.mem_of_getElem? (i := 562) (by decide +kernel), rfl⟩
theorem kg_X4_70 {K : Kp} {X : CX} {pc : Nat} {lv : List (Nat × MV)} {st : List MV} {M : Mem} {k : Nat} {a0 : Int} {a1 : Int} {a2 : Int} {Qc : Option Int → Mem → Prop} (hc : zCx K X) (ho : K.2.2.2.1 = RX4) (hfit : zFits KX3_putKind K) (hf : K.2.2.2.2.2.1 k = true) (hk : k < 9) (hr : (st.map zcat).sum ≤ 8) (hct : zCt yX3_putKind KX3_putKind [zR k, zI a0, zI a1, zI a2] M Qc) (dg : decode K.1 pc = .ok (.invokevirtual 70, 3)) (kk : ∀ (r : Option Int) (M' : Mem), Qc r M' → zJW X (pc + 3) lv (zans r ++ st) M') : zJW X pc lv (zI a2 :: zI a1 :: zI a0 :: zR k :: st) M :=
  z_callV (As := [zI a0, zI a1, zI a2]) hc hct ok_X3_putKind hfit hf (ztm_st hk) rfl (by rw [ho]; exact mm_X4_70) im_X3_putKind se_X3_putKind rfl hr rfl dg kk
theorem kc_X4_70 {K : Kp} {X : CX} {pc : Nat} {lv : List (Nat × MV)} {st : List MV} {M : Mem} {k : Nat} {a0 : Int} {a1 : Int} {a2 : Int} {z : Int} {M1 : Mem} (hc : zCx K X) (ho : K.2.2.2.1 = RX4) (hfit : zFits KX3_putKind K) (hf : K.2.2.2.2.2.1 k = true) (hk : k < 9) (hr : (st.map zcat).sum ≤ 8) (hct : zCt yX3_putKind KX3_putKind [zR k, zI a0, zI a1, zI a2] M (fun v M' => v = some z ∧ M' = M1)) (dg : decode K.1 pc = .ok (.invokevirtual 70, 3)) (kk : zJW X (pc + 3) lv (zI z :: st) M1) : zJW X pc lv (zI a2 :: zI a1 :: zI a0 :: zR k :: st) M :=
  kg_X4_70 hc ho hfit hf hk hr hct dg (fun r M' h => by obtain ⟨rfl, rfl⟩ := h; exact kk)
theorem fg_X4_32 {K : Kp} {X : CX} {pc : Nat} {lv : List (Nat × MV)} {st : List MV} {M : Mem} (hc : zCx K X) (ho : K.2.2.2.1 = RX4) (hf : K.2.2.2.2.2.1 36 = true) (dg : decode K.1 pc = .ok (.getfield 32, 3)) (kk : zJW X (pc + 3) lv (zI (M 36 5) :: st) M) : zJW X pc lv (zR 36 :: st) M :=
  z_get (j := 5) (C := RX4) (T := TX4) (N := 7) hc hf rfl rfl rfl inX4 (by decide) (by rw [ho]; exact mf_X4_32) dg kk
theorem mm_X5_54 : Cond.methodLink RX5 54 yX5_isLineCount ∈ TB := List.mem_filter.mpr ⟨List.mem_of_getElem? (i := 219) (by decide +kernel), rfl⟩
theorem kg_X5_54 {K : Kp} {X : CX} {pc : Nat} {lv : List (Nat × MV)} {st : List MV} {M : Mem} {a0 : Int} {Qc : Option Int → Mem → Prop} (hc : zCx K X) (ho : K.2.2.2.1 = RX5) (hfit : zFits KX5_isLineCount K) (hr : (st.map zcat).sum ≤ 8) (hct : zCt yX5_isLineCount KX5_isLineCount [zI a0] M Qc) (dg : decode K.1 pc = .ok (.invokestatic 54, 3)) (kk : ∀ (r : Option Int) (M' : Mem), Qc r M' → zJW X (pc + 3) lv (zans r ++ st) M') : zJW X pc lv (zI a0 :: st) M :=
  z_callS (As := [zI a0]) hc hct ok_X5_isLineCount hfit (by rw [ho]; exact mm_X5_54) im_X5_isLineCount rfl hr rfl dg kk
theorem kc_X5_54 {K : Kp} {X : CX} {pc : Nat} {lv : List (Nat × MV)} {st : List MV} {M : Mem} {a0 : Int} {z : Int} {M1 : Mem} (hc : zCx K X) (ho : K.2.2.2.1 = RX5) (hfit : zFits KX5_isLineCount K) (hr : (st.map zcat).sum ≤ 8) (hct : zCt yX5_isLineCount KX5_isLineCount [zI a0] M (fun v M' => v = some z ∧ M' = M1)) (dg : decode K.1 pc = .ok (.invokestatic 54, 3)) (kk : zJW X (pc + 3) lv (zI z :: st) M1) : zJW X pc lv (zI a0 :: st) M :=
  kg_X5_54 hc ho hfit hr hct dg (fun r M' h => by obtain ⟨rfl, rfl⟩ := h; exact kk)
theorem mf_X5_36 : Cond.fieldLink RX5 36 "CoastTiles" "history" "LCoastTiles$History;" ∈ TB := List.mem_filter.mpr ⟨List.mem_of_getElem? (i := 195) (by decide +kernel), rfl⟩
theorem fg_X5_36 {K : Kp} {X : CX} {pc : Nat} {lv : List (Nat × MV)} {st : List MV} {M : Mem} (hc : zCx K X) (ho : K.2.2.2.1 = RX5) (hf : K.2.2.2.2.2.1 27 = true) (dg : decode K.1 pc = .ok (.getfield 36, 3)) (kk : zJW X (pc + 3) lv (zR 31 :: st) M) : zJW X pc lv (zR 27 :: st) M :=
  z_get (j := 5) (C := RX5) (T := TX5) (N := 8) hc hf rfl rfl rfl inX5 (by decide) (by rw [ho]; exact mf_X5_36) dg kk
theorem mf_X5_19 : Cond.fieldLink RX5 19 "CoastTiles" "map" "LCoastTiles$State;" ∈ TB := List.mem_filter.mpr ⟨List.mem_of_getElem? (i := 191) (by decide +kernel), rfl⟩
theorem fg_X5_19 {K : Kp} {X : CX} {pc : Nat} {lv : List (Nat × MV)} {st : List MV} {M : Mem} (hc : zCx K X) (ho : K.2.2.2.1 = RX5) (hf : K.2.2.2.2.2.1 27 = true) (dg : decode K.1 pc = .ok (.getfield 19, 3)) (kk : zJW X (pc + 3) lv (zR 0 :: st) M) : zJW X pc lv (zR 27 :: st) M :=
  z_get (j := 1) (C := RX5) (T := TX5) (N := 8) hc hf rfl rfl rfl inX5 (by decide) (by rw [ho]; exact mf_X5_19) dg kk
theorem mm_X5_58 : Cond.methodLink RX5 58 yX0_record ∈ TB := List.mem_filter.mpr ⟨List.mem_of_getElem? (i := 222) (by decide +kernel), rfl⟩
theorem kg_X5_58 {K : Kp} {X : CX} {pc : Nat} {lv : List (Nat × MV)} {st : List MV} {M : Mem} {a0 : Nat} {Qc : Option Int → Mem → Prop} (hc : zCx K X) (ho : K.2.2.2.1 = RX5) (hfit : zFits KX0_record K) (hf : K.2.2.2.2.2.1 31 = true) (hr : (st.map zcat).sum ≤ 8) (hct : zCt yX0_record KX0_record [zR 31, zR a0] M Qc) (dg : decode K.1 pc = .ok (.invokevirtual 58, 3)) (kk : ∀ (r : Option Int) (M' : Mem), Qc r M' → zJW X (pc + 3) lv (zans r ++ st) M') : zJW X pc lv (zR a0 :: zR 31 :: st) M :=
  z_callV (As := [zR a0]) hc hct ok_X0_record hfit hf rfl rfl (by rw [ho]; exact mm_X5_58) im_X0_record se_X0_record rfl hr rfl dg kk
theorem kc_X5_58 {K : Kp} {X : CX} {pc : Nat} {lv : List (Nat × MV)} {st : List MV} {M : Mem} {a0 : Nat} {M1 : Mem} (hc : zCx K X) (ho : K.2.2.2.1 = RX5) (hfit : zFits KX0_record K) (hf : K.2.2.2.2.2.1 31 = true) (hr : (st.map zcat).sum ≤ 8) (hct : zCt yX0_record KX0_record [zR 31, zR a0] M (fun v M' => v = none ∧ M' = M1)) (dg : decode K.1 pc = .ok (.invokevirtual 58, 3)) (kk : zJW X (pc + 3) lv st M1) : zJW X pc lv (zR a0 :: zR 31 :: st) M :=
  kg_X5_58 hc ho hfit hf hr hct dg (fun r M' h => by obtain ⟨rfl, rfl⟩ := h; exact kk)
theorem mm_X5_62 : Cond.methodLink RX5 62 yX3_becomeWater ∈ TB := List.mem_filter.mpr ⟨List.mem_of_getElem? (i := 234) (by decide +kernel), rfl⟩
theorem kg_X5_62 {K : Kp} {X : CX} {pc : Nat} {lv : List (Nat × MV)} {st : List MV} {M : Mem} {k : Nat} {a0 : Int} {a1 : Int} {Qc : Option Int → Mem → Prop} (hc : zCx K X) (ho : K.2.2.2.1 = RX5) (hfit : zFits KX3_becomeWater K) (hf : K.2.2.2.2.2.1 k = true) (hk : k < 9) (hr : (st.map zcat).sum ≤ 8) (hct : zCt yX3_becomeWater KX3_becomeWater [zR k, zI a0, zI a1] M Qc) (dg : decode K.1 pc = .ok (.invokevirtual 62, 3)) (kk : ∀ (r : Option Int) (M' : Mem), Qc r M' → zJW X (pc + 3) lv (zans r ++ st) M') : zJW X pc lv (zI a1 :: zI a0 :: zR k :: st) M :=
  z_callV (As := [zI a0, zI a1]) hc hct ok_X3_becomeWater hfit hf (ztm_st hk) rfl (by rw [ho]; exact mm_X5_62) im_X3_becomeWater se_X3_becomeWater rfl hr rfl dg kk
theorem kc_X5_62 {K : Kp} {X : CX} {pc : Nat} {lv : List (Nat × MV)} {st : List MV} {M : Mem} {k : Nat} {a0 : Int} {a1 : Int} {M1 : Mem} (hc : zCx K X) (ho : K.2.2.2.1 = RX5) (hfit : zFits KX3_becomeWater K) (hf : K.2.2.2.2.2.1 k = true) (hk : k < 9) (hr : (st.map zcat).sum ≤ 8) (hct : zCt yX3_becomeWater KX3_becomeWater [zR k, zI a0, zI a1] M (fun v M' => v = none ∧ M' = M1)) (dg : decode K.1 pc = .ok (.invokevirtual 62, 3)) (kk : zJW X (pc + 3) lv st M1) : zJW X pc lv (zI a1 :: zI a0 :: zR k :: st) M :=
  kg_X5_62 hc ho hfit hf hk hr hct dg (fun r M' h => by obtain ⟨rfl, rfl⟩ := h; exact kk)
theorem mf_X5_66 : Cond.fieldLinkNest RX5 66 "CoastTiles$State" "outsideIsLand" "Z" "CoastTiles" ∈ zNW := List.mem_filter.mpr ⟨List.mem_of_getElem? (i := 105) (by decide +kernel), rfl⟩
theorem fg_X5_66 {K : Kp} {X : CX} {pc : Nat} {lv : List (Nat × MV)} {st : List MV} {M : Mem} {k : Nat} (hc : zCx K X) (ho : K.2.2.2.1 = RX5) (hf : K.2.2.2.2.2.1 k = true) (hk : k < 9) (dg : decode K.1 pc = .ok (.getfield 66, 3)) (kk : zJW X (pc + 3) lv (zI (M k 2) :: st) M) : zJW X pc lv (zR k :: st) M :=
  z_getN (j := 2) (C := RX3) (T := TX3) (N := 5) hc hf (ztm_st hk) rfl rfl inX3 (by decide) (by rw [ho]; exact mf_X5_66) dg kk
theorem mm_X5_69 : Cond.methodLink RX5 69 yX5_reshapedByOutside ∈ TB := List.mem_filter.mpr ⟨List.mem_of_getElem? (i := 245) (by decide +kernel), rfl⟩
theorem kg_X5_69 {K : Kp} {X : CX} {pc : Nat} {lv : List (Nat × MV)} {st : List MV} {M : Mem} {Qc : Option Int → Mem → Prop} (hc : zCx K X) (ho : K.2.2.2.1 = RX5) (hfit : zFits KX5_reshapedByOutside K) (hf : K.2.2.2.2.2.1 27 = true) (hr : (st.map zcat).sum ≤ 8) (hct : zCt yX5_reshapedByOutside KX5_reshapedByOutside [zR 27] M Qc) (dg : decode K.1 pc = .ok (.invokevirtual 69, 3)) (kk : ∀ (r : Option Int) (M' : Mem), Qc r M' → zJW X (pc + 3) lv (zans r ++ st) M') : zJW X pc lv (zR 27 :: st) M :=
  z_callV (As := []) hc hct ok_X5_reshapedByOutside hfit hf rfl rfl (by rw [ho]; exact mm_X5_69) im_X5_reshapedByOutside se_X5_reshapedByOutside rfl hr rfl dg kk
theorem kc_X5_69 {K : Kp} {X : CX} {pc : Nat} {lv : List (Nat × MV)} {st : List MV} {M : Mem} {z : Int} {M1 : Mem} (hc : zCx K X) (ho : K.2.2.2.1 = RX5) (hfit : zFits KX5_reshapedByOutside K) (hf : K.2.2.2.2.2.1 27 = true) (hr : (st.map zcat).sum ≤ 8) (hct : zCt yX5_reshapedByOutside KX5_reshapedByOutside [zR 27] M (fun v M' => v = some z ∧ M' = M1)) (dg : decode K.1 pc = .ok (.invokevirtual 69, 3)) (kk : zJW X (pc + 3) lv (zI z :: st) M1) : zJW X pc lv (zR 27 :: st) M :=
  kg_X5_69 hc ho hfit hf hr hct dg (fun r M' h => by obtain ⟨rfl, rfl⟩ := h; exact kk)
theorem fp_X5_66 {K : Kp} {X : CX} {pc : Nat} {lv : List (Nat × MV)} {st : List MV} {M : Mem} {k : Nat} {b : Bool} (hc : zCx K X) (ho : K.2.2.2.1 = RX5) (hf : K.2.2.2.2.2.1 k = true) (hk : k < 9) (dg : decode K.1 pc = .ok (.putfield 66, 3)) (kk : zJW X (pc + 3) lv st (zup M k 2 (zbz b))) : zJW X pc lv (zI (zbz b) :: zR k :: st) M :=
  z_putGN (j := 2) (C := RX3) (T := TX3) (N := 5) hc tyX3 tyX3_ok nmX3 hf (ztm_st hk) rfl rfl inX3 (by decide) rfl (by rw [ho]; exact mf_X5_66) (iI_zbz_nar b) (iI_zbz_fit b) dg kk
theorem mm_X5_73 : Cond.methodLink RX5 73 yX3_has ∈ TB := List.mem_filter.mpr ⟨List.mem_of_getElem? (i := 296) (by decide +kernel), rfl⟩
theorem kg_X5_73 {K : Kp} {X : CX} {pc : Nat} {lv : List (Nat × MV)} {st : List MV} {M : Mem} {k : Nat} {a0 : Int} {a1 : Int} {Qc : Option Int → Mem → Prop} (hc : zCx K X) (ho : K.2.2.2.1 = RX5) (hfit : zFits KX3_has K) (hf : K.2.2.2.2.2.1 k = true) (hk : k < 9) (hr : (st.map zcat).sum ≤ 8) (hct : zCt yX3_has KX3_has [zR k, zI a0, zI a1] M Qc) (dg : decode K.1 pc = .ok (.invokevirtual 73, 3)) (kk : ∀ (r : Option Int) (M' : Mem), Qc r M' → zJW X (pc + 3) lv (zans r ++ st) M') : zJW X pc lv (zI a1 :: zI a0 :: zR k :: st) M :=
  z_callV (As := [zI a0, zI a1]) hc hct ok_X3_has hfit hf (ztm_st hk) rfl (by rw [ho]; exact mm_X5_73) im_X3_has se_X3_has rfl hr rfl dg kk
theorem kc_X5_73 {K : Kp} {X : CX} {pc : Nat} {lv : List (Nat × MV)} {st : List MV} {M : Mem} {k : Nat} {a0 : Int} {a1 : Int} {z : Int} {M1 : Mem} (hc : zCx K X) (ho : K.2.2.2.1 = RX5) (hfit : zFits KX3_has K) (hf : K.2.2.2.2.2.1 k = true) (hk : k < 9) (hr : (st.map zcat).sum ≤ 8) (hct : zCt yX3_has KX3_has [zR k, zI a0, zI a1] M (fun v M' => v = some z ∧ M' = M1)) (dg : decode K.1 pc = .ok (.invokevirtual 73, 3)) (kk : zJW X (pc + 3) lv (zI z :: st) M1) : zJW X pc lv (zI a1 :: zI a0 :: zR k :: st) M :=
  kg_X5_73 hc ho hfit hf hk hr hct dg (fun r M' h => by obtain ⟨rfl, rfl⟩ := h; exact kk)
theorem mm_X5_77 : Cond.methodLink RX5 77 yX3_isLandAt ∈ TB := List.mem_filter.mpr ⟨List.mem_of_getElem? (i := 274) (by decide +kernel), rfl⟩
theorem kg_X5_77 {K : Kp} {X : CX} {pc : Nat} {lv : List (Nat × MV)} {st : List MV} {M : Mem} {k : Nat} {a0 : Int} {a1 : Int} {Qc : Option Int → Mem → Prop} (hc : zCx K X) (ho : K.2.2.2.1 = RX5) (hfit : zFits KX3_isLandAt K) (hf : K.2.2.2.2.2.1 k = true) (hk : k < 9) (hr : (st.map zcat).sum ≤ 8) (hct : zCt yX3_isLandAt KX3_isLandAt [zR k, zI a0, zI a1] M Qc) (dg : decode K.1 pc = .ok (.invokevirtual 77, 3)) (kk : ∀ (r : Option Int) (M' : Mem), Qc r M' → zJW X (pc + 3) lv (zans r ++ st) M') : zJW X pc lv (zI a1 :: zI a0 :: zR k :: st) M :=
  z_callV (As := [zI a0, zI a1]) hc hct ok_X3_isLandAt hfit hf (ztm_st hk) rfl (by rw [ho]; exact mm_X5_77) im_X3_isLandAt se_X3_isLandAt rfl hr rfl dg kk
theorem kc_X5_77 {K : Kp} {X : CX} {pc : Nat} {lv : List (Nat × MV)} {st : List MV} {M : Mem} {k : Nat} {a0 : Int} {a1 : Int} {z : Int} {M1 : Mem} (hc : zCx K X) (ho : K.2.2.2.1 = RX5) (hfit : zFits KX3_isLandAt K) (hf : K.2.2.2.2.2.1 k = true) (hk : k < 9) (hr : (st.map zcat).sum ≤ 8) (hct : zCt yX3_isLandAt KX3_isLandAt [zR k, zI a0, zI a1] M (fun v M' => v = some z ∧ M' = M1)) (dg : decode K.1 pc = .ok (.invokevirtual 77, 3)) (kk : zJW X (pc + 3) lv (zI z :: st) M1) : zJW X pc lv (zI a1 :: zI a0 :: zR k :: st) M :=
  kg_X5_77 hc ho hfit hf hk hr hct dg (fun r M' h => by obtain ⟨rfl, rfl⟩ := h; exact kk)
theorem mm_X5_80 : Cond.methodLink RX5 80 yX5_reshapedByTile ∈ TB := List.mem_filter.mpr ⟨List.mem_of_getElem? (i := 297) (by decide +kernel), rfl⟩
theorem kg_X5_80 {K : Kp} {X : CX} {pc : Nat} {lv : List (Nat × MV)} {st : List MV} {M : Mem} {a0 : Int} {a1 : Int} {Qc : Option Int → Mem → Prop} (hc : zCx K X) (ho : K.2.2.2.1 = RX5) (hfit : zFits KX5_reshapedByTile K) (hf : K.2.2.2.2.2.1 27 = true) (hr : (st.map zcat).sum ≤ 8) (hct : zCt yX5_reshapedByTile KX5_reshapedByTile [zR 27, zI a0, zI a1] M Qc) (dg : decode K.1 pc = .ok (.invokevirtual 80, 3)) (kk : ∀ (r : Option Int) (M' : Mem), Qc r M' → zJW X (pc + 3) lv (zans r ++ st) M') : zJW X pc lv (zI a1 :: zI a0 :: zR 27 :: st) M :=
  z_callV (As := [zI a0, zI a1]) hc hct ok_X5_reshapedByTile hfit hf rfl rfl (by rw [ho]; exact mm_X5_80) im_X5_reshapedByTile se_X5_reshapedByTile rfl hr rfl dg kk
theorem kc_X5_80 {K : Kp} {X : CX} {pc : Nat} {lv : List (Nat × MV)} {st : List MV} {M : Mem} {a0 : Int} {a1 : Int} {z : Int} {M1 : Mem} (hc : zCx K X) (ho : K.2.2.2.1 = RX5) (hfit : zFits KX5_reshapedByTile K) (hf : K.2.2.2.2.2.1 27 = true) (hr : (st.map zcat).sum ≤ 8) (hct : zCt yX5_reshapedByTile KX5_reshapedByTile [zR 27, zI a0, zI a1] M (fun v M' => v = some z ∧ M' = M1)) (dg : decode K.1 pc = .ok (.invokevirtual 80, 3)) (kk : zJW X (pc + 3) lv (zI z :: st) M1) : zJW X pc lv (zI a1 :: zI a0 :: zR 27 :: st) M :=
  kg_X5_80 hc ho hfit hf hr hct dg (fun r M' h => by obtain ⟨rfl, rfl⟩ := h; exact kk)
theorem mm_X5_84 : Cond.methodLink RX5 84 yX3_putKind ∈ TB := List.mem_filter.mpr ⟨List.mem_of_getElem? (i := 303) (by decide +kernel), rfl⟩
theorem kg_X5_84 {K : Kp} {X : CX} {pc : Nat} {lv : List (Nat × MV)} {st : List MV} {M : Mem} {k : Nat} {a0 : Int} {a1 : Int} {a2 : Int} {Qc : Option Int → Mem → Prop} (hc : zCx K X) (ho : K.2.2.2.1 = RX5) (hfit : zFits KX3_putKind K) (hf : K.2.2.2.2.2.1 k = true) (hk : k < 9) (hr : (st.map zcat).sum ≤ 8) (hct : zCt yX3_putKind KX3_putKind [zR k, zI a0, zI a1, zI a2] M Qc) (dg : decode K.1 pc = .ok (.invokevirtual 84, 3)) (kk : ∀ (r : Option Int) (M' : Mem), Qc r M' → zJW X (pc + 3) lv (zans r ++ st) M') : zJW X pc lv (zI a2 :: zI a1 :: zI a0 :: zR k :: st) M :=
  z_callV (As := [zI a0, zI a1, zI a2]) hc hct ok_X3_putKind hfit hf (ztm_st hk) rfl (by rw [ho]; exact mm_X5_84) im_X3_putKind se_X3_putKind rfl hr rfl dg kk
theorem kc_X5_84 {K : Kp} {X : CX} {pc : Nat} {lv : List (Nat × MV)} {st : List MV} {M : Mem} {k : Nat} {a0 : Int} {a1 : Int} {a2 : Int} {z : Int} {M1 : Mem} (hc : zCx K X) (ho : K.2.2.2.1 = RX5) (hfit : zFits KX3_putKind K) (hf : K.2.2.2.2.2.1 k = true) (hk : k < 9) (hr : (st.map zcat).sum ≤ 8) (hct : zCt yX3_putKind KX3_putKind [zR k, zI a0, zI a1, zI a2] M (fun v M' => v = some z ∧ M' = M1)) (dg : decode K.1 pc = .ok (.invokevirtual 84, 3)) (kk : zJW X (pc + 3) lv (zI z :: st) M1) : zJW X pc lv (zI a2 :: zI a1 :: zI a0 :: zR k :: st) M :=
  kg_X5_84 hc ho hfit hf hk hr hct dg (fun r M' h => by obtain ⟨rfl, rfl⟩ := h; exact kk)
theorem mf_X5_43 : Cond.fieldLink RX5 43 "CoastTiles" "spread" "LCoastTiles$Spread;" ∈ TB := List.mem_filter.mpr ⟨List.mem_of_getElem? (i := 196) (by decide +kernel), rfl⟩
theorem fg_X5_43 {K : Kp} {X : CX} {pc : Nat} {lv : List (Nat × MV)} {st : List MV} {M : Mem} (hc : zCx K X) (ho : K.2.2.2.1 = RX5) (hf : K.2.2.2.2.2.1 27 = true) (dg : decode K.1 pc = .ok (.getfield 43, 3)) (kk : zJW X (pc + 3) lv (zR 33 :: st) M) : zJW X pc lv (zR 27 :: st) M :=
  z_get (j := 6) (C := RX5) (T := TX5) (N := 8) hc hf rfl rfl rfl inX5 (by decide) (by rw [ho]; exact mf_X5_43) dg kk
theorem mm_X5_88 : Cond.methodLink RX5 88 yX2_forget ∈ TB := List.mem_filter.mpr ⟨List.mem_of_getElem? (i := 311) (by decide +kernel), rfl⟩
theorem kg_X5_88 {K : Kp} {X : CX} {pc : Nat} {lv : List (Nat × MV)} {st : List MV} {M : Mem} {Qc : Option Int → Mem → Prop} (hc : zCx K X) (ho : K.2.2.2.1 = RX5) (hfit : zFits KX2_forget K) (hf : K.2.2.2.2.2.1 33 = true) (hr : (st.map zcat).sum ≤ 8) (hct : zCt yX2_forget KX2_forget [zR 33] M Qc) (dg : decode K.1 pc = .ok (.invokevirtual 88, 3)) (kk : ∀ (r : Option Int) (M' : Mem), Qc r M' → zJW X (pc + 3) lv (zans r ++ st) M') : zJW X pc lv (zR 33 :: st) M :=
  z_callV (As := []) hc hct ok_X2_forget hfit hf rfl rfl (by rw [ho]; exact mm_X5_88) im_X2_forget se_X2_forget rfl hr rfl dg kk
theorem kc_X5_88 {K : Kp} {X : CX} {pc : Nat} {lv : List (Nat × MV)} {st : List MV} {M : Mem} {M1 : Mem} (hc : zCx K X) (ho : K.2.2.2.1 = RX5) (hfit : zFits KX2_forget K) (hf : K.2.2.2.2.2.1 33 = true) (hr : (st.map zcat).sum ≤ 8) (hct : zCt yX2_forget KX2_forget [zR 33] M (fun v M' => v = none ∧ M' = M1)) (dg : decode K.1 pc = .ok (.invokevirtual 88, 3)) (kk : zJW X (pc + 3) lv st M1) : zJW X pc lv (zR 33 :: st) M :=
  kg_X5_88 hc ho hfit hf hr hct dg (fun r M' h => by obtain ⟨rfl, rfl⟩ := h; exact kk)
theorem mm_X5_91 : Cond.methodLink RX5 91 yX2_overRegion ∈ TB := List.mem_filter.mpr ⟨List.mem_of_getElem? (i := 316) (by decide +kernel), rfl⟩
theorem kg_X5_91 {K : Kp} {X : CX} {pc : Nat} {lv : List (Nat × MV)} {st : List MV} {M : Mem} {a0 : Nat} {a1 : Int} {a2 : Int} {a3 : Int} {Qc : Option Int → Mem → Prop} (hc : zCx K X) (ho : K.2.2.2.1 = RX5) (hfit : zFits KX2_overRegion K) (hf : K.2.2.2.2.2.1 33 = true) (hr : (st.map zcat).sum ≤ 8) (hct : zCt yX2_overRegion KX2_overRegion [zR 33, zR a0, zI a1, zI a2, zI a3] M Qc) (dg : decode K.1 pc = .ok (.invokevirtual 91, 3)) (kk : ∀ (r : Option Int) (M' : Mem), Qc r M' → zJW X (pc + 3) lv (zans r ++ st) M') : zJW X pc lv (zI a3 :: zI a2 :: zI a1 :: zR a0 :: zR 33 :: st) M :=
  z_callV (As := [zR a0, zI a1, zI a2, zI a3]) hc hct ok_X2_overRegion hfit hf rfl rfl (by rw [ho]; exact mm_X5_91) im_X2_overRegion se_X2_overRegion rfl hr rfl dg kk
theorem kc_X5_91 {K : Kp} {X : CX} {pc : Nat} {lv : List (Nat × MV)} {st : List MV} {M : Mem} {a0 : Nat} {a1 : Int} {a2 : Int} {a3 : Int} {M1 : Mem} (hc : zCx K X) (ho : K.2.2.2.1 = RX5) (hfit : zFits KX2_overRegion K) (hf : K.2.2.2.2.2.1 33 = true) (hr : (st.map zcat).sum ≤ 8) (hct : zCt yX2_overRegion KX2_overRegion [zR 33, zR a0, zI a1, zI a2, zI a3] M (fun v M' => v = none ∧ M' = M1)) (dg : decode K.1 pc = .ok (.invokevirtual 91, 3)) (kk : zJW X (pc + 3) lv st M1) : zJW X pc lv (zI a3 :: zI a2 :: zI a1 :: zR a0 :: zR 33 :: st) M :=
  kg_X5_91 hc ho hfit hf hr hct dg (fun r M' h => by obtain ⟨rfl, rfl⟩ := h; exact kk)
theorem mf_X5_95 : Cond.fieldLinkNest RX5 95 "CoastTiles$State" "height" "I" "CoastTiles" ∈ zNW := List.mem_filter.mpr ⟨List.mem_of_getElem? (i := 98) (by decide +kernel), rfl⟩
theorem fg_X5_95 {K : Kp} {X : CX} {pc : Nat} {lv : List (Nat × MV)} {st : List MV} {M : Mem} {k : Nat} (hc : zCx K X) (ho : K.2.2.2.1 = RX5) (hf : K.2.2.2.2.2.1 k = true) (hk : k < 9) (dg : decode K.1 pc = .ok (.getfield 95, 3)) (kk : zJW X (pc + 3) lv (zI (M k 0) :: st) M) : zJW X pc lv (zR k :: st) M :=
  z_getN (j := 0) (C := RX3) (T := TX3) (N := 5) hc hf (ztm_st hk) rfl rfl inX3 (by decide) (by rw [ho]; exact mf_X5_95) dg kk
theorem mf_X5_99 : Cond.fieldLinkNest RX5 99 "CoastTiles$State" "width" "I" "CoastTiles" ∈ zNW := List.mem_filter.mpr ⟨List.mem_of_getElem? (i := 102) (by decide +kernel), rfl⟩
theorem fg_X5_99 {K : Kp} {X : CX} {pc : Nat} {lv : List (Nat × MV)} {st : List MV} {M : Mem} {k : Nat} (hc : zCx K X) (ho : K.2.2.2.1 = RX5) (hf : K.2.2.2.2.2.1 k = true) (hk : k < 9) (dg : decode K.1 pc = .ok (.getfield 99, 3)) (kk : zJW X (pc + 3) lv (zI (M k 1) :: st) M) : zJW X pc lv (zR k :: st) M :=
  z_getN (j := 1) (C := RX3) (T := TX3) (N := 5) hc hf (ztm_st hk) rfl rfl inX3 (by decide) (by rw [ho]; exact mf_X5_99) dg kk
theorem mm_X5_102 : Cond.methodLink RX5 102 yX2_hasReached ∈ TB := List.mem_filter.mpr ⟨List.mem_of_getElem? (i := 343) (by decide +kernel), rfl⟩
theorem kg_X5_102 {K : Kp} {X : CX} {pc : Nat} {lv : List (Nat × MV)} {st : List MV} {M : Mem} {a0 : Int} {a1 : Int} {Qc : Option Int → Mem → Prop} (hc : zCx K X) (ho : K.2.2.2.1 = RX5) (hfit : zFits KX2_hasReached K) (hf : K.2.2.2.2.2.1 33 = true) (hr : (st.map zcat).sum ≤ 8) (hct : zCt yX2_hasReached KX2_hasReached [zR 33, zI a0, zI a1] M Qc) (dg : decode K.1 pc = .ok (.invokevirtual 102, 3)) (kk : ∀ (r : Option Int) (M' : Mem), Qc r M' → zJW X (pc + 3) lv (zans r ++ st) M') : zJW X pc lv (zI a1 :: zI a0 :: zR 33 :: st) M :=
  z_callV (As := [zI a0, zI a1]) hc hct ok_X2_hasReached hfit hf rfl rfl (by rw [ho]; exact mm_X5_102) im_X2_hasReached se_X2_hasReached rfl hr rfl dg kk
theorem kc_X5_102 {K : Kp} {X : CX} {pc : Nat} {lv : List (Nat × MV)} {st : List MV} {M : Mem} {a0 : Int} {a1 : Int} {z : Int} {M1 : Mem} (hc : zCx K X) (ho : K.2.2.2.1 = RX5) (hfit : zFits KX2_hasReached K) (hf : K.2.2.2.2.2.1 33 = true) (hr : (st.map zcat).sum ≤ 8) (hct : zCt yX2_hasReached KX2_hasReached [zR 33, zI a0, zI a1] M (fun v M' => v = some z ∧ M' = M1)) (dg : decode K.1 pc = .ok (.invokevirtual 102, 3)) (kk : zJW X (pc + 3) lv (zI z :: st) M1) : zJW X pc lv (zI a1 :: zI a0 :: zR 33 :: st) M :=
  kg_X5_102 hc ho hfit hf hr hct dg (fun r M' h => by obtain ⟨rfl, rfl⟩ := h; exact kk)
theorem mf_X5_105 : Cond.fieldLinkNest RX5 105 "CoastTiles$Spread" "reachedTiles" "I" "CoastTiles" ∈ zNW := List.mem_filter.mpr ⟨List.mem_of_getElem? (i := 146) (by decide +kernel), rfl⟩
theorem fg_X5_105 {K : Kp} {X : CX} {pc : Nat} {lv : List (Nat × MV)} {st : List MV} {M : Mem} (hc : zCx K X) (ho : K.2.2.2.1 = RX5) (hf : K.2.2.2.2.2.1 33 = true) (dg : decode K.1 pc = .ok (.getfield 105, 3)) (kk : zJW X (pc + 3) lv (zI (M 33 2) :: st) M) : zJW X pc lv (zR 33 :: st) M :=
  z_getN (j := 2) (C := RX2) (T := TX2) (N := 4) hc hf rfl rfl rfl inX2 (by decide) (by rw [ho]; exact mf_X5_105) dg kk
theorem mf_X5_23 : Cond.fieldLink RX5 23 "CoastTiles" "spare" "LCoastTiles$State;" ∈ TB := List.mem_filter.mpr ⟨List.mem_of_getElem? (i := 192) (by decide +kernel), rfl⟩
theorem fg_X5_23 {K : Kp} {X : CX} {pc : Nat} {lv : List (Nat × MV)} {st : List MV} {M : Mem} (hc : zCx K X) (ho : K.2.2.2.1 = RX5) (hf : K.2.2.2.2.2.1 27 = true) (dg : decode K.1 pc = .ok (.getfield 23, 3)) (kk : zJW X (pc + 3) lv (zR 1 :: st) M) : zJW X pc lv (zR 27 :: st) M :=
  z_get (j := 2) (C := RX5) (T := TX5) (N := 8) hc hf rfl rfl rfl inX5 (by decide) (by rw [ho]; exact mf_X5_23) dg kk
theorem mm_X5_108 : Cond.methodLink RX5 108 yX3_copyFrom ∈ TB := List.mem_filter.mpr ⟨List.mem_of_getElem? (i := 352) (by decide +kernel), rfl⟩
theorem kg_X5_108 {K : Kp} {X : CX} {pc : Nat} {lv : List (Nat × MV)} {st : List MV} {M : Mem} {k : Nat} {a0 : Nat} {Qc : Option Int → Mem → Prop} (hc : zCx K X) (ho : K.2.2.2.1 = RX5) (hfit : zFits KX3_copyFrom K) (hf : K.2.2.2.2.2.1 k = true) (hk : k < 9) (hr : (st.map zcat).sum ≤ 8) (hct : zCt yX3_copyFrom KX3_copyFrom [zR k, zR a0] M Qc) (dg : decode K.1 pc = .ok (.invokevirtual 108, 3)) (kk : ∀ (r : Option Int) (M' : Mem), Qc r M' → zJW X (pc + 3) lv (zans r ++ st) M') : zJW X pc lv (zR a0 :: zR k :: st) M :=
  z_callV (As := [zR a0]) hc hct ok_X3_copyFrom hfit hf (ztm_st hk) rfl (by rw [ho]; exact mm_X5_108) im_X3_copyFrom se_X3_copyFrom rfl hr rfl dg kk
theorem kc_X5_108 {K : Kp} {X : CX} {pc : Nat} {lv : List (Nat × MV)} {st : List MV} {M : Mem} {k : Nat} {a0 : Nat} {M1 : Mem} (hc : zCx K X) (ho : K.2.2.2.1 = RX5) (hfit : zFits KX3_copyFrom K) (hf : K.2.2.2.2.2.1 k = true) (hk : k < 9) (hr : (st.map zcat).sum ≤ 8) (hct : zCt yX3_copyFrom KX3_copyFrom [zR k, zR a0] M (fun v M' => v = none ∧ M' = M1)) (dg : decode K.1 pc = .ok (.invokevirtual 108, 3)) (kk : zJW X (pc + 3) lv st M1) : zJW X pc lv (zR a0 :: zR k :: st) M :=
  kg_X5_108 hc ho hfit hf hk hr hct dg (fun r M' h => by obtain ⟨rfl, rfl⟩ := h; exact kk)
theorem mm_X5_111 : Cond.methodLink RX5 111 yX3_surroundingsOf ∈ TB := List.mem_filter.mpr ⟨List.mem_of_getElem? (i := 286) (by decide +kernel), rfl⟩
theorem kg_X5_111 {K : Kp} {X : CX} {pc : Nat} {lv : List (Nat × MV)} {st : List MV} {M : Mem} {k : Nat} {a0 : Int} {a1 : Int} {Qc : Option Int → Mem → Prop} (hc : zCx K X) (ho : K.2.2.2.1 = RX5) (hfit : zFits KX3_surroundingsOf K) (hf : K.2.2.2.2.2.1 k = true) (hk : k < 9) (hr : (st.map zcat).sum ≤ 8) (hct : zCt yX3_surroundingsOf KX3_surroundingsOf [zR k, zI a0, zI a1] M Qc) (dg : decode K.1 pc = .ok (.invokevirtual 111, 3)) (kk : ∀ (r : Option Int) (M' : Mem), Qc r M' → zJW X (pc + 3) lv (zans r ++ st) M') : zJW X pc lv (zI a1 :: zI a0 :: zR k :: st) M :=
  z_callV (As := [zI a0, zI a1]) hc hct ok_X3_surroundingsOf hfit hf (ztm_st hk) rfl (by rw [ho]; exact mm_X5_111) im_X3_surroundingsOf se_X3_surroundingsOf rfl hr rfl dg kk
theorem kc_X5_111 {K : Kp} {X : CX} {pc : Nat} {lv : List (Nat × MV)} {st : List MV} {M : Mem} {k : Nat} {a0 : Int} {a1 : Int} {z : Int} {M1 : Mem} (hc : zCx K X) (ho : K.2.2.2.1 = RX5) (hfit : zFits KX3_surroundingsOf K) (hf : K.2.2.2.2.2.1 k = true) (hk : k < 9) (hr : (st.map zcat).sum ≤ 8) (hct : zCt yX3_surroundingsOf KX3_surroundingsOf [zR k, zI a0, zI a1] M (fun v M' => v = some z ∧ M' = M1)) (dg : decode K.1 pc = .ok (.invokevirtual 111, 3)) (kk : zJW X (pc + 3) lv (zI z :: st) M1) : zJW X pc lv (zI a1 :: zI a0 :: zR k :: st) M :=
  kg_X5_111 hc ho hfit hf hk hr hct dg (fun r M' h => by obtain ⟨rfl, rfl⟩ := h; exact kk)
theorem mm_X5_114 : Cond.methodLink RX5 114 yJ6_bitCount_0f7a4 ∈ TB := List.mem_filter.mpr ⟨List.mem_of_getElem? (i := 353) (by decide +kernel), rfl⟩
theorem kg_X5_114 {K : Kp} {X : CX} {pc : Nat} {lv : List (Nat × MV)} {st : List MV} {M : Mem} {a0 : Int} {Qc : Option Int → Mem → Prop} (hc : zCx K X) (ho : K.2.2.2.1 = RX5) (hfit : zFits KJ6_bitCount_0f7a4 K) (hr : (st.map zcat).sum ≤ 8) (hct : zCt yJ6_bitCount_0f7a4 KJ6_bitCount_0f7a4 [zI a0] M Qc) (dg : decode K.1 pc = .ok (.invokestatic 114, 3)) (kk : ∀ (r : Option Int) (M' : Mem), Qc r M' → zJW X (pc + 3) lv (zans r ++ st) M') : zJW X pc lv (zI a0 :: st) M :=
  z_callS (As := [zI a0]) hc hct ok_J6_bitCount_0f7a4 hfit (by rw [ho]; exact mm_X5_114) im_J6_bitCount_0f7a4 rfl hr rfl dg kk
theorem kc_X5_114 {K : Kp} {X : CX} {pc : Nat} {lv : List (Nat × MV)} {st : List MV} {M : Mem} {a0 : Int} {z : Int} {M1 : Mem} (hc : zCx K X) (ho : K.2.2.2.1 = RX5) (hfit : zFits KJ6_bitCount_0f7a4 K) (hr : (st.map zcat).sum ≤ 8) (hct : zCt yJ6_bitCount_0f7a4 KJ6_bitCount_0f7a4 [zI a0] M (fun v M' => v = some z ∧ M' = M1)) (dg : decode K.1 pc = .ok (.invokestatic 114, 3)) (kk : zJW X (pc + 3) lv (zI z :: st) M1) : zJW X pc lv (zI a0 :: st) M :=
  kg_X5_114 hc ho hfit hr hct dg (fun r M' h => by obtain ⟨rfl, rfl⟩ := h; exact kk)
theorem mm_X5_120 : Cond.methodLink RX5 120 yX5_turnOnceFromSpare ∈ TB := List.mem_filter.mpr ⟨List.mem_of_getElem? (i := 363) (by decide +kernel), rfl⟩
theorem kg_X5_120 {K : Kp} {X : CX} {pc : Nat} {lv : List (Nat × MV)} {st : List MV} {M : Mem} {Qc : Option Int → Mem → Prop} (hc : zCx K X) (ho : K.2.2.2.1 = RX5) (hfit : zFits KX5_turnOnceFromSpare K) (hf : K.2.2.2.2.2.1 27 = true) (hr : (st.map zcat).sum ≤ 8) (hct : zCt yX5_turnOnceFromSpare KX5_turnOnceFromSpare [zR 27] M Qc) (dg : decode K.1 pc = .ok (.invokevirtual 120, 3)) (kk : ∀ (r : Option Int) (M' : Mem), Qc r M' → zJW X (pc + 3) lv (zans r ++ st) M') : zJW X pc lv (zR 27 :: st) M :=
  z_callV (As := []) hc hct ok_X5_turnOnceFromSpare hfit hf rfl rfl (by rw [ho]; exact mm_X5_120) im_X5_turnOnceFromSpare se_X5_turnOnceFromSpare rfl hr rfl dg kk
theorem kc_X5_120 {K : Kp} {X : CX} {pc : Nat} {lv : List (Nat × MV)} {st : List MV} {M : Mem} {M1 : Mem} (hc : zCx K X) (ho : K.2.2.2.1 = RX5) (hfit : zFits KX5_turnOnceFromSpare K) (hf : K.2.2.2.2.2.1 27 = true) (hr : (st.map zcat).sum ≤ 8) (hct : zCt yX5_turnOnceFromSpare KX5_turnOnceFromSpare [zR 27] M (fun v M' => v = none ∧ M' = M1)) (dg : decode K.1 pc = .ok (.invokevirtual 120, 3)) (kk : zJW X (pc + 3) lv st M1) : zJW X pc lv (zR 27 :: st) M :=
  kg_X5_120 hc ho hfit hf hr hct dg (fun r M' h => by obtain ⟨rfl, rfl⟩ := h; exact kk)
theorem mm_X5_123 : Cond.methodLink RX5 123 yX5_rightShapeAt ∈ TB := List.mem_filter.mpr ⟨List.mem_of_getElem? (i := 400) (by decide +kernel), rfl⟩
theorem kg_X5_123 {K : Kp} {X : CX} {pc : Nat} {lv : List (Nat × MV)} {st : List MV} {M : Mem} {a0 : Int} {a1 : Int} {Qc : Option Int → Mem → Prop} (hc : zCx K X) (ho : K.2.2.2.1 = RX5) (hfit : zFits KX5_rightShapeAt K) (hf : K.2.2.2.2.2.1 27 = true) (hr : (st.map zcat).sum ≤ 8) (hct : zCt yX5_rightShapeAt KX5_rightShapeAt [zR 27, zI a0, zI a1] M Qc) (dg : decode K.1 pc = .ok (.invokevirtual 123, 3)) (kk : ∀ (r : Option Int) (M' : Mem), Qc r M' → zJW X (pc + 3) lv (zans r ++ st) M') : zJW X pc lv (zI a1 :: zI a0 :: zR 27 :: st) M :=
  z_callV (As := [zI a0, zI a1]) hc hct ok_X5_rightShapeAt hfit hf rfl rfl (by rw [ho]; exact mm_X5_123) im_X5_rightShapeAt se_X5_rightShapeAt rfl hr rfl dg kk
theorem kc_X5_123 {K : Kp} {X : CX} {pc : Nat} {lv : List (Nat × MV)} {st : List MV} {M : Mem} {a0 : Int} {a1 : Int} {z : Int} {M1 : Mem} (hc : zCx K X) (ho : K.2.2.2.1 = RX5) (hfit : zFits KX5_rightShapeAt K) (hf : K.2.2.2.2.2.1 27 = true) (hr : (st.map zcat).sum ≤ 8) (hct : zCt yX5_rightShapeAt KX5_rightShapeAt [zR 27, zI a0, zI a1] M (fun v M' => v = some z ∧ M' = M1)) (dg : decode K.1 pc = .ok (.invokevirtual 123, 3)) (kk : zJW X (pc + 3) lv (zI z :: st) M1) : zJW X pc lv (zI a1 :: zI a0 :: zR 27 :: st) M :=
  kg_X5_123 hc ho hfit hf hr hct dg (fun r M' h => by obtain ⟨rfl, rfl⟩ := h; exact kk)
theorem mm_X5_126 : Cond.methodLink RX5 126 yX5_shapeAt ∈ TB := List.mem_filter.mpr ⟨List.mem_of_getElem? (i := 409) (by decide +kernel), rfl⟩
theorem kg_X5_126 {K : Kp} {X : CX} {pc : Nat} {lv : List (Nat × MV)} {st : List MV} {M : Mem} {a0 : Int} {a1 : Int} {Qc : Option Int → Mem → Prop} (hc : zCx K X) (ho : K.2.2.2.1 = RX5) (hfit : zFits KX5_shapeAt K) (hf : K.2.2.2.2.2.1 27 = true) (hr : (st.map zcat).sum ≤ 8) (hct : zCt yX5_shapeAt KX5_shapeAt [zR 27, zI a0, zI a1] M Qc) (dg : decode K.1 pc = .ok (.invokevirtual 126, 3)) (kk : ∀ (r : Option Int) (M' : Mem), Qc r M' → zJW X (pc + 3) lv (zans r ++ st) M') : zJW X pc lv (zI a1 :: zI a0 :: zR 27 :: st) M :=
  z_callV (As := [zI a0, zI a1]) hc hct ok_X5_shapeAt hfit hf rfl rfl (by rw [ho]; exact mm_X5_126) im_X5_shapeAt se_X5_shapeAt rfl hr rfl dg kk
theorem kc_X5_126 {K : Kp} {X : CX} {pc : Nat} {lv : List (Nat × MV)} {st : List MV} {M : Mem} {a0 : Int} {a1 : Int} {z : Int} {M1 : Mem} (hc : zCx K X) (ho : K.2.2.2.1 = RX5) (hfit : zFits KX5_shapeAt K) (hf : K.2.2.2.2.2.1 27 = true) (hr : (st.map zcat).sum ≤ 8) (hct : zCt yX5_shapeAt KX5_shapeAt [zR 27, zI a0, zI a1] M (fun v M' => v = some z ∧ M' = M1)) (dg : decode K.1 pc = .ok (.invokevirtual 126, 3)) (kk : zJW X (pc + 3) lv (zI z :: st) M1) : zJW X pc lv (zI a1 :: zI a0 :: zR 27 :: st) M :=
  kg_X5_126 hc ho hfit hf hr hct dg (fun r M' h => by obtain ⟨rfl, rfl⟩ := h; exact kk)
theorem mm_X5_129 : Cond.methodLink RX5 129 yX3_isPinnedAt ∈ TB := List.mem_filter.mpr ⟨List.mem_of_getElem? (i := 278) (by decide +kernel), rfl⟩
theorem kg_X5_129 {K : Kp} {X : CX} {pc : Nat} {lv : List (Nat × MV)} {st : List MV} {M : Mem} {k : Nat} {a0 : Int} {a1 : Int} {Qc : Option Int → Mem → Prop} (hc : zCx K X) (ho : K.2.2.2.1 = RX5) (hfit : zFits KX3_isPinnedAt K) (hf : K.2.2.2.2.2.1 k = true) (hk : k < 9) (hr : (st.map zcat).sum ≤ 8) (hct : zCt yX3_isPinnedAt KX3_isPinnedAt [zR k, zI a0, zI a1] M Qc) (dg : decode K.1 pc = .ok (.invokevirtual 129, 3)) (kk : ∀ (r : Option Int) (M' : Mem), Qc r M' → zJW X (pc + 3) lv (zans r ++ st) M') : zJW X pc lv (zI a1 :: zI a0 :: zR k :: st) M :=
  z_callV (As := [zI a0, zI a1]) hc hct ok_X3_isPinnedAt hfit hf (ztm_st hk) rfl (by rw [ho]; exact mm_X5_129) im_X3_isPinnedAt se_X3_isPinnedAt rfl hr rfl dg kk
theorem kc_X5_129 {K : Kp} {X : CX} {pc : Nat} {lv : List (Nat × MV)} {st : List MV} {M : Mem} {k : Nat} {a0 : Int} {a1 : Int} {z : Int} {M1 : Mem} (hc : zCx K X) (ho : K.2.2.2.1 = RX5) (hfit : zFits KX3_isPinnedAt K) (hf : K.2.2.2.2.2.1 k = true) (hk : k < 9) (hr : (st.map zcat).sum ≤ 8) (hct : zCt yX3_isPinnedAt KX3_isPinnedAt [zR k, zI a0, zI a1] M (fun v M' => v = some z ∧ M' = M1)) (dg : decode K.1 pc = .ok (.invokevirtual 129, 3)) (kk : zJW X (pc + 3) lv (zI z :: st) M1) : zJW X pc lv (zI a1 :: zI a0 :: zR k :: st) M :=
  kg_X5_129 hc ho hfit hf hk hr hct dg (fun r M' h => by obtain ⟨rfl, rfl⟩ := h; exact kk)
theorem mm_X5_132 : Cond.methodLink RX5 132 yX5_faultsAt ∈ TB := List.mem_filter.mpr ⟨List.mem_of_getElem? (i := 413) (by decide +kernel), rfl⟩
theorem kg_X5_132 {K : Kp} {X : CX} {pc : Nat} {lv : List (Nat × MV)} {st : List MV} {M : Mem} {a0 : Int} {a1 : Int} {Qc : Option Int → Mem → Prop} (hc : zCx K X) (ho : K.2.2.2.1 = RX5) (hfit : zFits KX5_faultsAt K) (hf : K.2.2.2.2.2.1 27 = true) (hr : (st.map zcat).sum ≤ 8) (hct : zCt yX5_faultsAt KX5_faultsAt [zR 27, zI a0, zI a1] M Qc) (dg : decode K.1 pc = .ok (.invokevirtual 132, 3)) (kk : ∀ (r : Option Int) (M' : Mem), Qc r M' → zJW X (pc + 3) lv (zans r ++ st) M') : zJW X pc lv (zI a1 :: zI a0 :: zR 27 :: st) M :=
  z_callV (As := [zI a0, zI a1]) hc hct ok_X5_faultsAt hfit hf rfl rfl (by rw [ho]; exact mm_X5_132) im_X5_faultsAt se_X5_faultsAt rfl hr rfl dg kk
theorem kc_X5_132 {K : Kp} {X : CX} {pc : Nat} {lv : List (Nat × MV)} {st : List MV} {M : Mem} {a0 : Int} {a1 : Int} {z : Int} {M1 : Mem} (hc : zCx K X) (ho : K.2.2.2.1 = RX5) (hfit : zFits KX5_faultsAt K) (hf : K.2.2.2.2.2.1 27 = true) (hr : (st.map zcat).sum ≤ 8) (hct : zCt yX5_faultsAt KX5_faultsAt [zR 27, zI a0, zI a1] M (fun v M' => v = some z ∧ M' = M1)) (dg : decode K.1 pc = .ok (.invokevirtual 132, 3)) (kk : zJW X (pc + 3) lv (zI z :: st) M1) : zJW X pc lv (zI a1 :: zI a0 :: zR 27 :: st) M :=
  kg_X5_132 hc ho hfit hf hr hct dg (fun r M' h => by obtain ⟨rfl, rfl⟩ := h; exact kk)
theorem mm_X5_135 : Cond.methodLink RX5 135 yX5_isShape ∈ TB := List.mem_filter.mpr ⟨List.mem_of_getElem? (i := 422) (by decide +kernel), rfl⟩
theorem kg_X5_135 {K : Kp} {X : CX} {pc : Nat} {lv : List (Nat × MV)} {st : List MV} {M : Mem} {a0 : Int} {Qc : Option Int → Mem → Prop} (hc : zCx K X) (ho : K.2.2.2.1 = RX5) (hfit : zFits KX5_isShape K) (hr : (st.map zcat).sum ≤ 8) (hct : zCt yX5_isShape KX5_isShape [zI a0] M Qc) (dg : decode K.1 pc = .ok (.invokestatic 135, 3)) (kk : ∀ (r : Option Int) (M' : Mem), Qc r M' → zJW X (pc + 3) lv (zans r ++ st) M') : zJW X pc lv (zI a0 :: st) M :=
  z_callS (As := [zI a0]) hc hct ok_X5_isShape hfit (by rw [ho]; exact mm_X5_135) im_X5_isShape rfl hr rfl dg kk
theorem kc_X5_135 {K : Kp} {X : CX} {pc : Nat} {lv : List (Nat × MV)} {st : List MV} {M : Mem} {a0 : Int} {z : Int} {M1 : Mem} (hc : zCx K X) (ho : K.2.2.2.1 = RX5) (hfit : zFits KX5_isShape K) (hr : (st.map zcat).sum ≤ 8) (hct : zCt yX5_isShape KX5_isShape [zI a0] M (fun v M' => v = some z ∧ M' = M1)) (dg : decode K.1 pc = .ok (.invokestatic 135, 3)) (kk : zJW X (pc + 3) lv (zI z :: st) M1) : zJW X pc lv (zI a0 :: st) M :=
  kg_X5_135 hc ho hfit hr hct dg (fun r M' h => by obtain ⟨rfl, rfl⟩ := h; exact kk)
theorem mm_X5_138 : Cond.methodLink RX5 138 yX3_putPin ∈ TB := List.mem_filter.mpr ⟨List.mem_of_getElem? (i := 384) (by decide +kernel), rfl⟩
theorem kg_X5_138 {K : Kp} {X : CX} {pc : Nat} {lv : List (Nat × MV)} {st : List MV} {M : Mem} {k : Nat} {a0 : Int} {a1 : Int} {a2 : Int} {Qc : Option Int → Mem → Prop} (hc : zCx K X) (ho : K.2.2.2.1 = RX5) (hfit : zFits KX3_putPin K) (hf : K.2.2.2.2.2.1 k = true) (hk : k < 9) (hr : (st.map zcat).sum ≤ 8) (hct : zCt yX3_putPin KX3_putPin [zR k, zI a0, zI a1, zI a2] M Qc) (dg : decode K.1 pc = .ok (.invokevirtual 138, 3)) (kk : ∀ (r : Option Int) (M' : Mem), Qc r M' → zJW X (pc + 3) lv (zans r ++ st) M') : zJW X pc lv (zI a2 :: zI a1 :: zI a0 :: zR k :: st) M :=
  z_callV (As := [zI a0, zI a1, zI a2]) hc hct ok_X3_putPin hfit hf (ztm_st hk) rfl (by rw [ho]; exact mm_X5_138) im_X3_putPin se_X3_putPin rfl hr rfl dg kk
theorem kc_X5_138 {K : Kp} {X : CX} {pc : Nat} {lv : List (Nat × MV)} {st : List MV} {M : Mem} {k : Nat} {a0 : Int} {a1 : Int} {a2 : Int} {M1 : Mem} (hc : zCx K X) (ho : K.2.2.2.1 = RX5) (hfit : zFits KX3_putPin K) (hf : K.2.2.2.2.2.1 k = true) (hk : k < 9) (hr : (st.map zcat).sum ≤ 8) (hct : zCt yX3_putPin KX3_putPin [zR k, zI a0, zI a1, zI a2] M (fun v M' => v = none ∧ M' = M1)) (dg : decode K.1 pc = .ok (.invokevirtual 138, 3)) (kk : zJW X (pc + 3) lv st M1) : zJW X pc lv (zI a2 :: zI a1 :: zI a0 :: zR k :: st) M :=
  kg_X5_138 hc ho hfit hf hk hr hct dg (fun r M' h => by obtain ⟨rfl, rfl⟩ := h; exact kk)
theorem mm_X5_142 : Cond.methodLink RX5 142 yX3_pinAt ∈ TB := List.mem_filter.mpr ⟨List.mem_of_getElem? (i := 367) (by decide +kernel), rfl⟩
theorem kg_X5_142 {K : Kp} {X : CX} {pc : Nat} {lv : List (Nat × MV)} {st : List MV} {M : Mem} {k : Nat} {a0 : Int} {a1 : Int} {Qc : Option Int → Mem → Prop} (hc : zCx K X) (ho : K.2.2.2.1 = RX5) (hfit : zFits KX3_pinAt K) (hf : K.2.2.2.2.2.1 k = true) (hk : k < 9) (hr : (st.map zcat).sum ≤ 8) (hct : zCt yX3_pinAt KX3_pinAt [zR k, zI a0, zI a1] M Qc) (dg : decode K.1 pc = .ok (.invokevirtual 142, 3)) (kk : ∀ (r : Option Int) (M' : Mem), Qc r M' → zJW X (pc + 3) lv (zans r ++ st) M') : zJW X pc lv (zI a1 :: zI a0 :: zR k :: st) M :=
  z_callV (As := [zI a0, zI a1]) hc hct ok_X3_pinAt hfit hf (ztm_st hk) rfl (by rw [ho]; exact mm_X5_142) im_X3_pinAt se_X3_pinAt rfl hr rfl dg kk
theorem kc_X5_142 {K : Kp} {X : CX} {pc : Nat} {lv : List (Nat × MV)} {st : List MV} {M : Mem} {k : Nat} {a0 : Int} {a1 : Int} {z : Int} {M1 : Mem} (hc : zCx K X) (ho : K.2.2.2.1 = RX5) (hfit : zFits KX3_pinAt K) (hf : K.2.2.2.2.2.1 k = true) (hk : k < 9) (hr : (st.map zcat).sum ≤ 8) (hct : zCt yX3_pinAt KX3_pinAt [zR k, zI a0, zI a1] M (fun v M' => v = some z ∧ M' = M1)) (dg : decode K.1 pc = .ok (.invokevirtual 142, 3)) (kk : zJW X (pc + 3) lv (zI z :: st) M1) : zJW X pc lv (zI a1 :: zI a0 :: zR k :: st) M :=
  kg_X5_142 hc ho hfit hf hk hr hct dg (fun r M' h => by obtain ⟨rfl, rfl⟩ := h; exact kk)
theorem mm_X5_145 : Cond.methodLink RX5 145 yX5_position ∈ TB := List.mem_filter.mpr ⟨List.mem_of_getElem? (i := 435) (by decide +kernel), rfl⟩
theorem kg_X5_145 {K : Kp} {X : CX} {pc : Nat} {lv : List (Nat × MV)} {st : List MV} {M : Mem} {a0 : Int} {a1 : Int} {Qc : Option Int → Mem → Prop} (hc : zCx K X) (ho : K.2.2.2.1 = RX5) (hfit : zFits KX5_position K) (hr : (st.map zcat).sum ≤ 8) (hct : zCt yX5_position KX5_position [zI a0, zI a1] M Qc) (dg : decode K.1 pc = .ok (.invokestatic 145, 3)) (kk : ∀ (r : Option Int) (M' : Mem), Qc r M' → zJW X (pc + 3) lv (zans r ++ st) M') : zJW X pc lv (zI a1 :: zI a0 :: st) M :=
  z_callS (As := [zI a0, zI a1]) hc hct ok_X5_position hfit (by rw [ho]; exact mm_X5_145) im_X5_position rfl hr rfl dg kk
theorem kc_X5_145 {K : Kp} {X : CX} {pc : Nat} {lv : List (Nat × MV)} {st : List MV} {M : Mem} {a0 : Int} {a1 : Int} {z : Int} {M1 : Mem} (hc : zCx K X) (ho : K.2.2.2.1 = RX5) (hfit : zFits KX5_position K) (hr : (st.map zcat).sum ≤ 8) (hct : zCt yX5_position KX5_position [zI a0, zI a1] M (fun v M' => v = some z ∧ M' = M1)) (dg : decode K.1 pc = .ok (.invokestatic 145, 3)) (kk : zJW X (pc + 3) lv (zI z :: st) M1) : zJW X pc lv (zI a1 :: zI a0 :: st) M :=
  kg_X5_145 hc ho hfit hr hct dg (fun r M' h => by obtain ⟨rfl, rfl⟩ := h; exact kk)
theorem mf_X5_12 : Cond.fieldLink RX5 12 "CoastTiles" "table" "LCoastTiles$ShapeTable;" ∈ TB := List.mem_filter.mpr ⟨List.mem_of_getElem? (i := 190) (by decide +kernel), rfl⟩
theorem fg_X5_12 {K : Kp} {X : CX} {pc : Nat} {lv : List (Nat × MV)} {st : List MV} {M : Mem} (hc : zCx K X) (ho : K.2.2.2.1 = RX5) (hf : K.2.2.2.2.2.1 27 = true) (dg : decode K.1 pc = .ok (.getfield 12, 3)) (kk : zJW X (pc + 3) lv (zR 28 :: st) M) : zJW X pc lv (zR 27 :: st) M :=
  z_get (j := 0) (C := RX5) (T := TX5) (N := 8) hc hf rfl rfl rfl inX5 (by decide) (by rw [ho]; exact mf_X5_12) dg kk
theorem mm_X5_148 : Cond.methodLink RX5 148 yX1_maskFor ∈ TB := List.mem_filter.mpr ⟨List.mem_of_getElem? (i := 417) (by decide +kernel), rfl⟩
theorem kg_X5_148 {K : Kp} {X : CX} {pc : Nat} {lv : List (Nat × MV)} {st : List MV} {M : Mem} {a0 : Int} {Qc : Option Int → Mem → Prop} (hc : zCx K X) (ho : K.2.2.2.1 = RX5) (hfit : zFits KX1_maskFor K) (hf : K.2.2.2.2.2.1 28 = true) (hr : (st.map zcat).sum ≤ 8) (hct : zCt yX1_maskFor KX1_maskFor [zR 28, zI a0] M Qc) (dg : decode K.1 pc = .ok (.invokevirtual 148, 3)) (kk : ∀ (r : Option Int) (M' : Mem), Qc r M' → zJW X (pc + 3) lv (zans r ++ st) M') : zJW X pc lv (zI a0 :: zR 28 :: st) M :=
  z_callV (As := [zI a0]) hc hct ok_X1_maskFor hfit hf rfl rfl (by rw [ho]; exact mm_X5_148) im_X1_maskFor se_X1_maskFor rfl hr rfl dg kk
theorem kc_X5_148 {K : Kp} {X : CX} {pc : Nat} {lv : List (Nat × MV)} {st : List MV} {M : Mem} {a0 : Int} {z : Int} {M1 : Mem} (hc : zCx K X) (ho : K.2.2.2.1 = RX5) (hfit : zFits KX1_maskFor K) (hf : K.2.2.2.2.2.1 28 = true) (hr : (st.map zcat).sum ≤ 8) (hct : zCt yX1_maskFor KX1_maskFor [zR 28, zI a0] M (fun v M' => v = some z ∧ M' = M1)) (dg : decode K.1 pc = .ok (.invokevirtual 148, 3)) (kk : zJW X (pc + 3) lv (zI z :: st) M1) : zJW X pc lv (zI a0 :: zR 28 :: st) M :=
  kg_X5_148 hc ho hfit hf hr hct dg (fun r M' h => by obtain ⟨rfl, rfl⟩ := h; exact kk)
theorem mm_X5_151 : Cond.methodLink RX5 151 yX1_shapeFor ∈ TB := List.mem_filter.mpr ⟨List.mem_of_getElem? (i := 408) (by decide +kernel), rfl⟩
theorem kg_X5_151 {K : Kp} {X : CX} {pc : Nat} {lv : List (Nat × MV)} {st : List MV} {M : Mem} {a0 : Int} {Qc : Option Int → Mem → Prop} (hc : zCx K X) (ho : K.2.2.2.1 = RX5) (hfit : zFits KX1_shapeFor K) (hf : K.2.2.2.2.2.1 28 = true) (hr : (st.map zcat).sum ≤ 8) (hct : zCt yX1_shapeFor KX1_shapeFor [zR 28, zI a0] M Qc) (dg : decode K.1 pc = .ok (.invokevirtual 151, 3)) (kk : ∀ (r : Option Int) (M' : Mem), Qc r M' → zJW X (pc + 3) lv (zans r ++ st) M') : zJW X pc lv (zI a0 :: zR 28 :: st) M :=
  z_callV (As := [zI a0]) hc hct ok_X1_shapeFor hfit hf rfl rfl (by rw [ho]; exact mm_X5_151) im_X1_shapeFor se_X1_shapeFor rfl hr rfl dg kk
theorem kc_X5_151 {K : Kp} {X : CX} {pc : Nat} {lv : List (Nat × MV)} {st : List MV} {M : Mem} {a0 : Int} {z : Int} {M1 : Mem} (hc : zCx K X) (ho : K.2.2.2.1 = RX5) (hfit : zFits KX1_shapeFor K) (hf : K.2.2.2.2.2.1 28 = true) (hr : (st.map zcat).sum ≤ 8) (hct : zCt yX1_shapeFor KX1_shapeFor [zR 28, zI a0] M (fun v M' => v = some z ∧ M' = M1)) (dg : decode K.1 pc = .ok (.invokevirtual 151, 3)) (kk : zJW X (pc + 3) lv (zI z :: st) M1) : zJW X pc lv (zI a0 :: zR 28 :: st) M :=
  kg_X5_151 hc ho hfit hf hr hct dg (fun r M' h => by obtain ⟨rfl, rfl⟩ := h; exact kk)
theorem mm_X5_154 : Cond.methodLink RX5 154 yX1_turnedShape ∈ TB := List.mem_filter.mpr ⟨List.mem_of_getElem? (i := 368) (by decide +kernel), rfl⟩
theorem kg_X5_154 {K : Kp} {X : CX} {pc : Nat} {lv : List (Nat × MV)} {st : List MV} {M : Mem} {a0 : Int} {a1 : Int} {Qc : Option Int → Mem → Prop} (hc : zCx K X) (ho : K.2.2.2.1 = RX5) (hfit : zFits KX1_turnedShape K) (hf : K.2.2.2.2.2.1 28 = true) (hr : (st.map zcat).sum ≤ 8) (hct : zCt yX1_turnedShape KX1_turnedShape [zR 28, zI a0, zI a1] M Qc) (dg : decode K.1 pc = .ok (.invokevirtual 154, 3)) (kk : ∀ (r : Option Int) (M' : Mem), Qc r M' → zJW X (pc + 3) lv (zans r ++ st) M') : zJW X pc lv (zI a1 :: zI a0 :: zR 28 :: st) M :=
  z_callV (As := [zI a0, zI a1]) hc hct ok_X1_turnedShape hfit hf rfl rfl (by rw [ho]; exact mm_X5_154) im_X1_turnedShape se_X1_turnedShape rfl hr rfl dg kk
theorem kc_X5_154 {K : Kp} {X : CX} {pc : Nat} {lv : List (Nat × MV)} {st : List MV} {M : Mem} {a0 : Int} {a1 : Int} {z : Int} {M1 : Mem} (hc : zCx K X) (ho : K.2.2.2.1 = RX5) (hfit : zFits KX1_turnedShape K) (hf : K.2.2.2.2.2.1 28 = true) (hr : (st.map zcat).sum ≤ 8) (hct : zCt yX1_turnedShape KX1_turnedShape [zR 28, zI a0, zI a1] M (fun v M' => v = some z ∧ M' = M1)) (dg : decode K.1 pc = .ok (.invokevirtual 154, 3)) (kk : zJW X (pc + 3) lv (zI z :: st) M1) : zJW X pc lv (zI a1 :: zI a0 :: zR 28 :: st) M :=
  kg_X5_154 hc ho hfit hf hr hct dg (fun r M' h => by obtain ⟨rfl, rfl⟩ := h; exact kk)
theorem mm_X5_157 : Cond.methodLink RX5 157 yX1_mirroredShape ∈ TB := List.mem_filter.mpr ⟨List.mem_of_getElem? (i := 454) (by decide +kernel), rfl⟩
theorem kg_X5_157 {K : Kp} {X : CX} {pc : Nat} {lv : List (Nat × MV)} {st : List MV} {M : Mem} {a0 : Int} {Qc : Option Int → Mem → Prop} (hc : zCx K X) (ho : K.2.2.2.1 = RX5) (hfit : zFits KX1_mirroredShape K) (hf : K.2.2.2.2.2.1 28 = true) (hr : (st.map zcat).sum ≤ 8) (hct : zCt yX1_mirroredShape KX1_mirroredShape [zR 28, zI a0] M Qc) (dg : decode K.1 pc = .ok (.invokevirtual 157, 3)) (kk : ∀ (r : Option Int) (M' : Mem), Qc r M' → zJW X (pc + 3) lv (zans r ++ st) M') : zJW X pc lv (zI a0 :: zR 28 :: st) M :=
  z_callV (As := [zI a0]) hc hct ok_X1_mirroredShape hfit hf rfl rfl (by rw [ho]; exact mm_X5_157) im_X1_mirroredShape se_X1_mirroredShape rfl hr rfl dg kk
theorem kc_X5_157 {K : Kp} {X : CX} {pc : Nat} {lv : List (Nat × MV)} {st : List MV} {M : Mem} {a0 : Int} {z : Int} {M1 : Mem} (hc : zCx K X) (ho : K.2.2.2.1 = RX5) (hfit : zFits KX1_mirroredShape K) (hf : K.2.2.2.2.2.1 28 = true) (hr : (st.map zcat).sum ≤ 8) (hct : zCt yX1_mirroredShape KX1_mirroredShape [zR 28, zI a0] M (fun v M' => v = some z ∧ M' = M1)) (dg : decode K.1 pc = .ok (.invokevirtual 157, 3)) (kk : zJW X (pc + 3) lv (zI z :: st) M1) : zJW X pc lv (zI a0 :: zR 28 :: st) M :=
  kg_X5_157 hc ho hfit hf hr hct dg (fun r M' h => by obtain ⟨rfl, rfl⟩ := h; exact kk)
theorem mm_X5_160 : Cond.methodLink RX5 160 yJ13_bitCount_95d88 ∈ TB := List.mem_filter.mpr ⟨List.mem_of_getElem? (i := 466) (by decide +kernel), rfl⟩
theorem kg_X5_160 {K : Kp} {X : CX} {pc : Nat} {lv : List (Nat × MV)} {st : List MV} {M : Mem} {a0 : Int64} {Qc : Option Int → Mem → Prop} (hc : zCx K X) (ho : K.2.2.2.1 = RX5) (hfit : zFits KJ13_bitCount_95d88 K) (hr : (st.map zcat).sum ≤ 8) (hct : zCt yJ13_bitCount_95d88 KJ13_bitCount_95d88 [zL a0] M Qc) (dg : decode K.1 pc = .ok (.invokestatic 160, 3)) (kk : ∀ (r : Option Int) (M' : Mem), Qc r M' → zJW X (pc + 3) lv (zans r ++ st) M') : zJW X pc lv (zL a0 :: st) M :=
  z_callS (As := [zL a0]) hc hct ok_J13_bitCount_95d88 hfit (by rw [ho]; exact mm_X5_160) im_J13_bitCount_95d88 rfl hr rfl dg kk
theorem kc_X5_160 {K : Kp} {X : CX} {pc : Nat} {lv : List (Nat × MV)} {st : List MV} {M : Mem} {a0 : Int64} {z : Int} {M1 : Mem} (hc : zCx K X) (ho : K.2.2.2.1 = RX5) (hfit : zFits KJ13_bitCount_95d88 K) (hr : (st.map zcat).sum ≤ 8) (hct : zCt yJ13_bitCount_95d88 KJ13_bitCount_95d88 [zL a0] M (fun v M' => v = some z ∧ M' = M1)) (dg : decode K.1 pc = .ok (.invokestatic 160, 3)) (kk : zJW X (pc + 3) lv (zI z :: st) M1) : zJW X pc lv (zL a0 :: st) M :=
  kg_X5_160 hc ho hfit hr hct dg (fun r M' h => by obtain ⟨rfl, rfl⟩ := h; exact kk)
theorem mm_X5_165 : Cond.methodLink RX5 165 yX3_landTiles ∈ TB := List.mem_filter.mpr ⟨List.mem_of_getElem? (i := 476) (by decide +kernel), rfl⟩
theorem kg_X5_165 {K : Kp} {X : CX} {pc : Nat} {lv : List (Nat × MV)} {st : List MV} {M : Mem} {k : Nat} {Qc : Option Int → Mem → Prop} (hc : zCx K X) (ho : K.2.2.2.1 = RX5) (hfit : zFits KX3_landTiles K) (hf : K.2.2.2.2.2.1 k = true) (hk : k < 9) (hr : (st.map zcat).sum ≤ 8) (hct : zCt yX3_landTiles KX3_landTiles [zR k] M Qc) (dg : decode K.1 pc = .ok (.invokevirtual 165, 3)) (kk : ∀ (r : Option Int) (M' : Mem), Qc r M' → zJW X (pc + 3) lv (zans r ++ st) M') : zJW X pc lv (zR k :: st) M :=
  z_callV (As := []) hc hct ok_X3_landTiles hfit hf (ztm_st hk) rfl (by rw [ho]; exact mm_X5_165) im_X3_landTiles se_X3_landTiles rfl hr rfl dg kk
theorem kc_X5_165 {K : Kp} {X : CX} {pc : Nat} {lv : List (Nat × MV)} {st : List MV} {M : Mem} {k : Nat} {z : Int} {M1 : Mem} (hc : zCx K X) (ho : K.2.2.2.1 = RX5) (hfit : zFits KX3_landTiles K) (hf : K.2.2.2.2.2.1 k = true) (hk : k < 9) (hr : (st.map zcat).sum ≤ 8) (hct : zCt yX3_landTiles KX3_landTiles [zR k] M (fun v M' => v = some z ∧ M' = M1)) (dg : decode K.1 pc = .ok (.invokevirtual 165, 3)) (kk : zJW X (pc + 3) lv (zI z :: st) M1) : zJW X pc lv (zR k :: st) M :=
  kg_X5_165 hc ho hfit hf hk hr hct dg (fun r M' h => by obtain ⟨rfl, rfl⟩ := h; exact kk)
theorem mm_X5_168 : Cond.methodLink RX5 168 yX5_bitsOfShare ∈ TB := List.mem_filter.mpr ⟨List.mem_of_getElem? (i := 484) (by decide +kernel), rfl⟩
theorem kg_X5_168 {K : Kp} {X : CX} {pc : Nat} {lv : List (Nat × MV)} {st : List MV} {M : Mem} {a0 : UInt32} {Qc : Option Int → Mem → Prop} (hc : zCx K X) (ho : K.2.2.2.1 = RX5) (hfit : zFits KX5_bitsOfShare K) (hr : (st.map zcat).sum ≤ 8) (hct : zCt yX5_bitsOfShare KX5_bitsOfShare [zF a0] M Qc) (dg : decode K.1 pc = .ok (.invokestatic 168, 3)) (kk : ∀ (r : Option Int) (M' : Mem), Qc r M' → zJW X (pc + 3) lv (zans r ++ st) M') : zJW X pc lv (zF a0 :: st) M :=
  z_callS (As := [zF a0]) hc hct ok_X5_bitsOfShare hfit (by rw [ho]; exact mm_X5_168) im_X5_bitsOfShare rfl hr rfl dg kk
theorem kc_X5_168 {K : Kp} {X : CX} {pc : Nat} {lv : List (Nat × MV)} {st : List MV} {M : Mem} {a0 : UInt32} {z : Int} {M1 : Mem} (hc : zCx K X) (ho : K.2.2.2.1 = RX5) (hfit : zFits KX5_bitsOfShare K) (hr : (st.map zcat).sum ≤ 8) (hct : zCt yX5_bitsOfShare KX5_bitsOfShare [zF a0] M (fun v M' => v = some z ∧ M' = M1)) (dg : decode K.1 pc = .ok (.invokestatic 168, 3)) (kk : zJW X (pc + 3) lv (zI z :: st) M1) : zJW X pc lv (zF a0 :: st) M :=
  kg_X5_168 hc ho hfit hr hct dg (fun r M' h => by obtain ⟨rfl, rfl⟩ := h; exact kk)
theorem mf_X5_172 : Cond.fieldLinkNest RX5 172 "CoastTiles$Spread" "reachedEdge" "Z" "CoastTiles" ∈ zNW := List.mem_filter.mpr ⟨List.mem_of_getElem? (i := 148) (by decide +kernel), rfl⟩
theorem fg_X5_172 {K : Kp} {X : CX} {pc : Nat} {lv : List (Nat × MV)} {st : List MV} {M : Mem} (hc : zCx K X) (ho : K.2.2.2.1 = RX5) (hf : K.2.2.2.2.2.1 33 = true) (dg : decode K.1 pc = .ok (.getfield 172, 3)) (kk : zJW X (pc + 3) lv (zI (M 33 3) :: st) M) : zJW X pc lv (zR 33 :: st) M :=
  z_getN (j := 3) (C := RX2) (T := TX2) (N := 4) hc hf rfl rfl rfl inX2 (by decide) (by rw [ho]; exact mf_X5_172) dg kk
theorem mm_X5_175 : Cond.methodLink RX5 175 yX2_stepsTo ∈ TB := List.mem_filter.mpr ⟨List.mem_of_getElem? (i := 512) (by decide +kernel), rfl⟩
theorem kg_X5_175 {K : Kp} {X : CX} {pc : Nat} {lv : List (Nat × MV)} {st : List MV} {M : Mem} {a0 : Int} {a1 : Int} {Qc : Option Int → Mem → Prop} (hc : zCx K X) (ho : K.2.2.2.1 = RX5) (hfit : zFits KX2_stepsTo K) (hf : K.2.2.2.2.2.1 33 = true) (hr : (st.map zcat).sum ≤ 8) (hct : zCt yX2_stepsTo KX2_stepsTo [zR 33, zI a0, zI a1] M Qc) (dg : decode K.1 pc = .ok (.invokevirtual 175, 3)) (kk : ∀ (r : Option Int) (M' : Mem), Qc r M' → zJW X (pc + 3) lv (zans r ++ st) M') : zJW X pc lv (zI a1 :: zI a0 :: zR 33 :: st) M :=
  z_callV (As := [zI a0, zI a1]) hc hct ok_X2_stepsTo hfit hf rfl rfl (by rw [ho]; exact mm_X5_175) im_X2_stepsTo se_X2_stepsTo rfl hr rfl dg kk
theorem kc_X5_175 {K : Kp} {X : CX} {pc : Nat} {lv : List (Nat × MV)} {st : List MV} {M : Mem} {a0 : Int} {a1 : Int} {z : Int} {M1 : Mem} (hc : zCx K X) (ho : K.2.2.2.1 = RX5) (hfit : zFits KX2_stepsTo K) (hf : K.2.2.2.2.2.1 33 = true) (hr : (st.map zcat).sum ≤ 8) (hct : zCt yX2_stepsTo KX2_stepsTo [zR 33, zI a0, zI a1] M (fun v M' => v = some z ∧ M' = M1)) (dg : decode K.1 pc = .ok (.invokevirtual 175, 3)) (kk : zJW X (pc + 3) lv (zI z :: st) M1) : zJW X pc lv (zI a1 :: zI a0 :: zR 33 :: st) M :=
  kg_X5_175 hc ho hfit hf hr hct dg (fun r M' h => by obtain ⟨rfl, rfl⟩ := h; exact kk)
theorem mm_X5_178 : Cond.methodLink RX5 178 yX5_rowStep ∈ TB := List.mem_filter.mpr ⟨List.mem_of_getElem? (i := 301) (by decide +kernel), rfl⟩
theorem kg_X5_178 {K : Kp} {X : CX} {pc : Nat} {lv : List (Nat × MV)} {st : List MV} {M : Mem} {a0 : Int} {Qc : Option Int → Mem → Prop} (hc : zCx K X) (ho : K.2.2.2.1 = RX5) (hfit : zFits KX5_rowStep K) (hr : (st.map zcat).sum ≤ 8) (hct : zCt yX5_rowStep KX5_rowStep [zI a0] M Qc) (dg : decode K.1 pc = .ok (.invokestatic 178, 3)) (kk : ∀ (r : Option Int) (M' : Mem), Qc r M' → zJW X (pc + 3) lv (zans r ++ st) M') : zJW X pc lv (zI a0 :: st) M :=
  z_callS (As := [zI a0]) hc hct ok_X5_rowStep hfit (by rw [ho]; exact mm_X5_178) im_X5_rowStep rfl hr rfl dg kk
theorem kc_X5_178 {K : Kp} {X : CX} {pc : Nat} {lv : List (Nat × MV)} {st : List MV} {M : Mem} {a0 : Int} {z : Int} {M1 : Mem} (hc : zCx K X) (ho : K.2.2.2.1 = RX5) (hfit : zFits KX5_rowStep K) (hr : (st.map zcat).sum ≤ 8) (hct : zCt yX5_rowStep KX5_rowStep [zI a0] M (fun v M' => v = some z ∧ M' = M1)) (dg : decode K.1 pc = .ok (.invokestatic 178, 3)) (kk : zJW X (pc + 3) lv (zI z :: st) M1) : zJW X pc lv (zI a0 :: st) M :=
  kg_X5_178 hc ho hfit hr hct dg (fun r M' h => by obtain ⟨rfl, rfl⟩ := h; exact kk)
theorem mm_X5_181 : Cond.methodLink RX5 181 yX5_columnStep ∈ TB := List.mem_filter.mpr ⟨List.mem_of_getElem? (i := 302) (by decide +kernel), rfl⟩
theorem kg_X5_181 {K : Kp} {X : CX} {pc : Nat} {lv : List (Nat × MV)} {st : List MV} {M : Mem} {a0 : Int} {Qc : Option Int → Mem → Prop} (hc : zCx K X) (ho : K.2.2.2.1 = RX5) (hfit : zFits KX5_columnStep K) (hr : (st.map zcat).sum ≤ 8) (hct : zCt yX5_columnStep KX5_columnStep [zI a0] M Qc) (dg : decode K.1 pc = .ok (.invokestatic 181, 3)) (kk : ∀ (r : Option Int) (M' : Mem), Qc r M' → zJW X (pc + 3) lv (zans r ++ st) M') : zJW X pc lv (zI a0 :: st) M :=
  z_callS (As := [zI a0]) hc hct ok_X5_columnStep hfit (by rw [ho]; exact mm_X5_181) im_X5_columnStep rfl hr rfl dg kk
theorem kc_X5_181 {K : Kp} {X : CX} {pc : Nat} {lv : List (Nat × MV)} {st : List MV} {M : Mem} {a0 : Int} {z : Int} {M1 : Mem} (hc : zCx K X) (ho : K.2.2.2.1 = RX5) (hfit : zFits KX5_columnStep K) (hr : (st.map zcat).sum ≤ 8) (hct : zCt yX5_columnStep KX5_columnStep [zI a0] M (fun v M' => v = some z ∧ M' = M1)) (dg : decode K.1 pc = .ok (.invokestatic 181, 3)) (kk : zJW X (pc + 3) lv (zI z :: st) M1) : zJW X pc lv (zI a0 :: st) M :=
  kg_X5_181 hc ho hfit hr hct dg (fun r M' h => by obtain ⟨rfl, rfl⟩ := h; exact kk)
theorem mm_X5_184 : Cond.methodLink RX5 184 yX5_bitsThatCount ∈ TB := List.mem_filter.mpr ⟨List.mem_of_getElem? (i := 73) (by decide +kernel), rfl⟩
theorem kg_X5_184 {K : Kp} {X : CX} {pc : Nat} {lv : List (Nat × MV)} {st : List MV} {M : Mem} {a0 : Int} {Qc : Option Int → Mem → Prop} (hc : zCx K X) (ho : K.2.2.2.1 = RX5) (hfit : zFits KX5_bitsThatCount K) (hr : (st.map zcat).sum ≤ 8) (hct : zCt yX5_bitsThatCount KX5_bitsThatCount [zI a0] M Qc) (dg : decode K.1 pc = .ok (.invokestatic 184, 3)) (kk : ∀ (r : Option Int) (M' : Mem), Qc r M' → zJW X (pc + 3) lv (zans r ++ st) M') : zJW X pc lv (zI a0 :: st) M :=
  z_callS (As := [zI a0]) hc hct ok_X5_bitsThatCount hfit (by rw [ho]; exact mm_X5_184) im_X5_bitsThatCount rfl hr rfl dg kk
theorem kc_X5_184 {K : Kp} {X : CX} {pc : Nat} {lv : List (Nat × MV)} {st : List MV} {M : Mem} {a0 : Int} {z : Int} {M1 : Mem} (hc : zCx K X) (ho : K.2.2.2.1 = RX5) (hfit : zFits KX5_bitsThatCount K) (hr : (st.map zcat).sum ≤ 8) (hct : zCt yX5_bitsThatCount KX5_bitsThatCount [zI a0] M (fun v M' => v = some z ∧ M' = M1)) (dg : decode K.1 pc = .ok (.invokestatic 184, 3)) (kk : zJW X (pc + 3) lv (zI z :: st) M1) : zJW X pc lv (zI a0 :: st) M :=
  kg_X5_184 hc ho hfit hr hct dg (fun r M' h => by obtain ⟨rfl, rfl⟩ := h; exact kk)
theorem mm_X5_187 : Cond.methodLink RX5 187 yX3_outsideBitsOf ∈ TB := List.mem_filter.mpr ⟨List.mem_of_getElem? (i := 249) (by decide +kernel), rfl⟩
theorem kg_X5_187 {K : Kp} {X : CX} {pc : Nat} {lv : List (Nat × MV)} {st : List MV} {M : Mem} {k : Nat} {a0 : Int} {a1 : Int} {Qc : Option Int → Mem → Prop} (hc : zCx K X) (ho : K.2.2.2.1 = RX5) (hfit : zFits KX3_outsideBitsOf K) (hf : K.2.2.2.2.2.1 k = true) (hk : k < 9) (hr : (st.map zcat).sum ≤ 8) (hct : zCt yX3_outsideBitsOf KX3_outsideBitsOf [zR k, zI a0, zI a1] M Qc) (dg : decode K.1 pc = .ok (.invokevirtual 187, 3)) (kk : ∀ (r : Option Int) (M' : Mem), Qc r M' → zJW X (pc + 3) lv (zans r ++ st) M') : zJW X pc lv (zI a1 :: zI a0 :: zR k :: st) M :=
  z_callV (As := [zI a0, zI a1]) hc hct ok_X3_outsideBitsOf hfit hf (ztm_st hk) rfl (by rw [ho]; exact mm_X5_187) im_X3_outsideBitsOf se_X3_outsideBitsOf rfl hr rfl dg kk
theorem kc_X5_187 {K : Kp} {X : CX} {pc : Nat} {lv : List (Nat × MV)} {st : List MV} {M : Mem} {k : Nat} {a0 : Int} {a1 : Int} {z : Int} {M1 : Mem} (hc : zCx K X) (ho : K.2.2.2.1 = RX5) (hfit : zFits KX3_outsideBitsOf K) (hf : K.2.2.2.2.2.1 k = true) (hk : k < 9) (hr : (st.map zcat).sum ≤ 8) (hct : zCt yX3_outsideBitsOf KX3_outsideBitsOf [zR k, zI a0, zI a1] M (fun v M' => v = some z ∧ M' = M1)) (dg : decode K.1 pc = .ok (.invokevirtual 187, 3)) (kk : zJW X (pc + 3) lv (zI z :: st) M1) : zJW X pc lv (zI a1 :: zI a0 :: zR k :: st) M :=
  kg_X5_187 hc ho hfit hf hk hr hct dg (fun r M' h => by obtain ⟨rfl, rfl⟩ := h; exact kk)
theorem mf_X5_50 : Cond.fieldLink RX5 50 "CoastTiles" "text" "LCoastTiles$TextMap;" ∈ TB := List.mem_filter.mpr ⟨List.mem_of_getElem? (i := 197) (by decide +kernel), rfl⟩
theorem fg_X5_50 {K : Kp} {X : CX} {pc : Nat} {lv : List (Nat × MV)} {st : List MV} {M : Mem} (hc : zCx K X) (ho : K.2.2.2.1 = RX5) (hf : K.2.2.2.2.2.1 27 = true) (dg : decode K.1 pc = .ok (.getfield 50, 3)) (kk : zJW X (pc + 3) lv (zR 36 :: st) M) : zJW X pc lv (zR 27 :: st) M :=
  z_get (j := 7) (C := RX5) (T := TX5) (N := 8) hc hf rfl rfl rfl inX5 (by decide) (by rw [ho]; exact mf_X5_50) dg kk
theorem mm_X5_190 : Cond.methodLink RX5 190 yX4_add ∈ TB := List.mem_filter.mpr ⟨List.mem_of_getElem? (i := 525) (by decide +kernel), rfl⟩
theorem kg_X5_190 {K : Kp} {X : CX} {pc : Nat} {lv : List (Nat × MV)} {st : List MV} {M : Mem} {a0 : Int} {Qc : Option Int → Mem → Prop} (hc : zCx K X) (ho : K.2.2.2.1 = RX5) (hfit : zFits KX4_add K) (hf : K.2.2.2.2.2.1 36 = true) (hr : (st.map zcat).sum ≤ 8) (hct : zCt yX4_add KX4_add [zR 36, zI a0] M Qc) (dg : decode K.1 pc = .ok (.invokevirtual 190, 3)) (kk : ∀ (r : Option Int) (M' : Mem), Qc r M' → zJW X (pc + 3) lv (zans r ++ st) M') : zJW X pc lv (zI a0 :: zR 36 :: st) M :=
  z_callV (As := [zI a0]) hc hct ok_X4_add hfit hf rfl rfl (by rw [ho]; exact mm_X5_190) im_X4_add se_X4_add rfl hr rfl dg kk
theorem kc_X5_190 {K : Kp} {X : CX} {pc : Nat} {lv : List (Nat × MV)} {st : List MV} {M : Mem} {a0 : Int} {z : Int} {M1 : Mem} (hc : zCx K X) (ho : K.2.2.2.1 = RX5) (hfit : zFits KX4_add K) (hf : K.2.2.2.2.2.1 36 = true) (hr : (st.map zcat).sum ≤ 8) (hct : zCt yX4_add KX4_add [zR 36, zI a0] M (fun v M' => v = some z ∧ M' = M1)) (dg : decode K.1 pc = .ok (.invokevirtual 190, 3)) (kk : zJW X (pc + 3) lv (zI z :: st) M1) : zJW X pc lv (zI a0 :: zR 36 :: st) M :=
  kg_X5_190 hc ho hfit hf hr hct dg (fun r M' h => by obtain ⟨rfl, rfl⟩ := h; exact kk)
theorem mf_X5_193 : Cond.fieldLinkNest RX5 193 "CoastTiles$TextMap" "length" "I" "CoastTiles" ∈ zNW := List.mem_filter.mpr ⟨List.mem_of_getElem? (i := 168) (by decide +kernel), rfl⟩
theorem fg_X5_193 {K : Kp} {X : CX} {pc : Nat} {lv : List (Nat × MV)} {st : List MV} {M : Mem} (hc : zCx K X) (ho : K.2.2.2.1 = RX5) (hf : K.2.2.2.2.2.1 36 = true) (dg : decode K.1 pc = .ok (.getfield 193, 3)) (kk : zJW X (pc + 3) lv (zI (M 36 1) :: st) M) : zJW X pc lv (zR 36 :: st) M :=
  z_getN (j := 1) (C := RX4) (T := TX4) (N := 7) hc hf rfl rfl rfl inX4 (by decide) (by rw [ho]; exact mf_X5_193) dg kk
theorem fp_X5_193 {K : Kp} {X : CX} {pc : Nat} {lv : List (Nat × MV)} {st : List MV} {M : Mem} {v : Int} (hc : zCx K X) (ho : K.2.2.2.1 = RX5) (hf : K.2.2.2.2.2.1 36 = true) (dg : decode K.1 pc = .ok (.putfield 193, 3)) (kk : zJW X (pc + 3) lv st (zup M 36 1 v)) : zJW X pc lv (zI v :: zR 36 :: st) M :=
  z_putGN (j := 1) (C := RX4) (T := TX4) (N := 7) hc tyX4 tyX4_ok nmX4 hf rfl rfl rfl inX4 (by decide) rfl (by rw [ho]; exact mf_X5_193) rfl rfl dg kk
theorem mm_X5_196 : Cond.methodLink RX5 196 yX4_parse ∈ TB := List.mem_filter.mpr ⟨List.mem_of_getElem? (i := 537) (by decide +kernel), rfl⟩
theorem kg_X5_196 {K : Kp} {X : CX} {pc : Nat} {lv : List (Nat × MV)} {st : List MV} {M : Mem} {Qc : Option Int → Mem → Prop} (hc : zCx K X) (ho : K.2.2.2.1 = RX5) (hfit : zFits KX4_parse K) (hf : K.2.2.2.2.2.1 36 = true) (hr : (st.map zcat).sum ≤ 8) (hct : zCt yX4_parse KX4_parse [zR 36] M Qc) (dg : decode K.1 pc = .ok (.invokevirtual 196, 3)) (kk : ∀ (r : Option Int) (M' : Mem), Qc r M' → zJW X (pc + 3) lv (zans r ++ st) M') : zJW X pc lv (zR 36 :: st) M :=
  z_callV (As := []) hc hct ok_X4_parse hfit hf rfl rfl (by rw [ho]; exact mm_X5_196) im_X4_parse se_X4_parse rfl hr rfl dg kk
theorem kc_X5_196 {K : Kp} {X : CX} {pc : Nat} {lv : List (Nat × MV)} {st : List MV} {M : Mem} {z : Int} {M1 : Mem} (hc : zCx K X) (ho : K.2.2.2.1 = RX5) (hfit : zFits KX4_parse K) (hf : K.2.2.2.2.2.1 36 = true) (hr : (st.map zcat).sum ≤ 8) (hct : zCt yX4_parse KX4_parse [zR 36] M (fun v M' => v = some z ∧ M' = M1)) (dg : decode K.1 pc = .ok (.invokevirtual 196, 3)) (kk : zJW X (pc + 3) lv (zI z :: st) M1) : zJW X pc lv (zR 36 :: st) M :=
  kg_X5_196 hc ho hfit hf hr hct dg (fun r M' h => by obtain ⟨rfl, rfl⟩ := h; exact kk)
theorem mf_X5_199 : Cond.fieldLinkNest RX5 199 "CoastTiles$TextMap" "draft" "LCoastTiles$State;" "CoastTiles" ∈ zNW := List.mem_filter.mpr ⟨List.mem_of_getElem? (i := 170) (by decide +kernel), rfl⟩
theorem fg_X5_199 {K : Kp} {X : CX} {pc : Nat} {lv : List (Nat × MV)} {st : List MV} {M : Mem} (hc : zCx K X) (ho : K.2.2.2.1 = RX5) (hf : K.2.2.2.2.2.1 36 = true) (dg : decode K.1 pc = .ok (.getfield 199, 3)) (kk : zJW X (pc + 3) lv (zR 8 :: st) M) : zJW X pc lv (zR 36 :: st) M :=
  z_getN (j := 2) (C := RX4) (T := TX4) (N := 7) hc hf rfl rfl rfl inX4 (by decide) (by rw [ho]; exact mf_X5_199) dg kk
theorem mm_X5_202 : Cond.methodLink RX5 202 yX0_takeLatest ∈ TB := List.mem_filter.mpr ⟨List.mem_of_getElem? (i := 575) (by decide +kernel), rfl⟩
theorem kg_X5_202 {K : Kp} {X : CX} {pc : Nat} {lv : List (Nat × MV)} {st : List MV} {M : Mem} {a0 : Nat} {Qc : Option Int → Mem → Prop} (hc : zCx K X) (ho : K.2.2.2.1 = RX5) (hfit : zFits KX0_takeLatest K) (hf : K.2.2.2.2.2.1 31 = true) (hr : (st.map zcat).sum ≤ 8) (hct : zCt yX0_takeLatest KX0_takeLatest [zR 31, zR a0] M Qc) (dg : decode K.1 pc = .ok (.invokevirtual 202, 3)) (kk : ∀ (r : Option Int) (M' : Mem), Qc r M' → zJW X (pc + 3) lv (zans r ++ st) M') : zJW X pc lv (zR a0 :: zR 31 :: st) M :=
  z_callV (As := [zR a0]) hc hct ok_X0_takeLatest hfit hf rfl rfl (by rw [ho]; exact mm_X5_202) im_X0_takeLatest se_X0_takeLatest rfl hr rfl dg kk
theorem kc_X5_202 {K : Kp} {X : CX} {pc : Nat} {lv : List (Nat × MV)} {st : List MV} {M : Mem} {a0 : Nat} {z : Int} {M1 : Mem} (hc : zCx K X) (ho : K.2.2.2.1 = RX5) (hfit : zFits KX0_takeLatest K) (hf : K.2.2.2.2.2.1 31 = true) (hr : (st.map zcat).sum ≤ 8) (hct : zCt yX0_takeLatest KX0_takeLatest [zR 31, zR a0] M (fun v M' => v = some z ∧ M' = M1)) (dg : decode K.1 pc = .ok (.invokevirtual 202, 3)) (kk : zJW X (pc + 3) lv (zI z :: st) M1) : zJW X pc lv (zR a0 :: zR 31 :: st) M :=
  kg_X5_202 hc ho hfit hf hr hct dg (fun r M' h => by obtain ⟨rfl, rfl⟩ := h; exact kk)
theorem mf_X5_206 : Cond.fieldLinkNest RX5 206 "CoastTiles$History" "kept" "I" "CoastTiles" ∈ zNW := List.mem_filter.mpr ⟨List.mem_of_getElem? (i := 131) (by decide +kernel), rfl⟩
theorem fg_X5_206 {K : Kp} {X : CX} {pc : Nat} {lv : List (Nat × MV)} {st : List MV} {M : Mem} (hc : zCx K X) (ho : K.2.2.2.1 = RX5) (hf : K.2.2.2.2.2.1 31 = true) (dg : decode K.1 pc = .ok (.getfield 206, 3)) (kk : zJW X (pc + 3) lv (zI (M 31 1) :: st) M) : zJW X pc lv (zR 31 :: st) M :=
  z_getN (j := 1) (C := RX0) (T := TX0) (N := 2) hc hf rfl rfl rfl inX0 (by decide) (by rw [ho]; exact mf_X5_206) dg kk
theorem mf_X5_26 : Cond.fieldLink RX5 26 "CoastTiles" "saved" "LCoastTiles$State;" ∈ TB := List.mem_filter.mpr ⟨List.mem_of_getElem? (i := 193) (by decide +kernel), rfl⟩
theorem fg_X5_26 {K : Kp} {X : CX} {pc : Nat} {lv : List (Nat × MV)} {st : List MV} {M : Mem} (hc : zCx K X) (ho : K.2.2.2.1 = RX5) (hf : K.2.2.2.2.2.1 27 = true) (dg : decode K.1 pc = .ok (.getfield 26, 3)) (kk : zJW X (pc + 3) lv (zR 2 :: st) M) : zJW X pc lv (zR 27 :: st) M :=
  z_get (j := 3) (C := RX5) (T := TX5) (N := 8) hc hf rfl rfl rfl inX5 (by decide) (by rw [ho]; exact mf_X5_26) dg kk
theorem mf_X5_29 : Cond.fieldLink RX5 29 "CoastTiles" "hasSaved" "Z" ∈ TB := List.mem_filter.mpr ⟨List.mem_of_getElem? (i := 194) (by decide +kernel), rfl⟩
theorem fp_X5_29 {K : Kp} {X : CX} {pc : Nat} {lv : List (Nat × MV)} {st : List MV} {M : Mem} {b : Bool} (hc : zCx K X) (ho : K.2.2.2.1 = RX5) (hf : K.2.2.2.2.2.1 27 = true) (dg : decode K.1 pc = .ok (.putfield 29, 3)) (kk : zJW X (pc + 3) lv st (zup M 27 4 (zbz b))) : zJW X pc lv (zI (zbz b) :: zR 27 :: st) M :=
  z_putG (j := 4) (C := RX5) (T := TX5) (N := 8) hc tyX5 tyX5_ok nmX5 hf rfl rfl rfl inX5 (by decide) rfl (by rw [ho]; exact mf_X5_29) (iI_zbz_nar b) (iI_zbz_fit b) dg kk
theorem fg_X5_29 {K : Kp} {X : CX} {pc : Nat} {lv : List (Nat × MV)} {st : List MV} {M : Mem} (hc : zCx K X) (ho : K.2.2.2.1 = RX5) (hf : K.2.2.2.2.2.1 27 = true) (dg : decode K.1 pc = .ok (.getfield 29, 3)) (kk : zJW X (pc + 3) lv (zI (M 27 4) :: st) M) : zJW X pc lv (zR 27 :: st) M :=
  z_get (j := 4) (C := RX5) (T := TX5) (N := 8) hc hf rfl rfl rfl inX5 (by decide) (by rw [ho]; exact mf_X5_29) dg kk
theorem mm_X5_216 : Cond.methodLink RX5 216 yX5_rotated ∈ TB := List.mem_filter.mpr ⟨List.mem_of_getElem? (i := 76) (by decide +kernel), rfl⟩
theorem kg_X5_216 {K : Kp} {X : CX} {pc : Nat} {lv : List (Nat × MV)} {st : List MV} {M : Mem} {a0 : Int} {a1 : Int} {Qc : Option Int → Mem → Prop} (hc : zCx K X) (ho : K.2.2.2.1 = RX5) (hfit : zFits KX5_rotated K) (hr : (st.map zcat).sum ≤ 8) (hct : zCt yX5_rotated KX5_rotated [zI a0, zI a1] M Qc) (dg : decode K.1 pc = .ok (.invokestatic 216, 3)) (kk : ∀ (r : Option Int) (M' : Mem), Qc r M' → zJW X (pc + 3) lv (zans r ++ st) M') : zJW X pc lv (zI a1 :: zI a0 :: st) M :=
  z_callS (As := [zI a0, zI a1]) hc hct ok_X5_rotated hfit (by rw [ho]; exact mm_X5_216) im_X5_rotated rfl hr rfl dg kk
theorem kc_X5_216 {K : Kp} {X : CX} {pc : Nat} {lv : List (Nat × MV)} {st : List MV} {M : Mem} {a0 : Int} {a1 : Int} {z : Int} {M1 : Mem} (hc : zCx K X) (ho : K.2.2.2.1 = RX5) (hfit : zFits KX5_rotated K) (hr : (st.map zcat).sum ≤ 8) (hct : zCt yX5_rotated KX5_rotated [zI a0, zI a1] M (fun v M' => v = some z ∧ M' = M1)) (dg : decode K.1 pc = .ok (.invokestatic 216, 3)) (kk : zJW X (pc + 3) lv (zI z :: st) M1) : zJW X pc lv (zI a1 :: zI a0 :: st) M :=
  kg_X5_216 hc ho hfit hr hct dg (fun r M' h => by obtain ⟨rfl, rfl⟩ := h; exact kk)
theorem mm_X5_220 : Cond.methodLink RX5 220 yX5_regularPart ∈ TB := List.mem_filter.mpr ⟨List.mem_of_getElem? (i := 291) (by decide +kernel), rfl⟩
theorem kg_X5_220 {K : Kp} {X : CX} {pc : Nat} {lv : List (Nat × MV)} {st : List MV} {M : Mem} {a0 : Int} {Qc : Option Int → Mem → Prop} (hc : zCx K X) (ho : K.2.2.2.1 = RX5) (hfit : zFits KX5_regularPart K) (hr : (st.map zcat).sum ≤ 8) (hct : zCt yX5_regularPart KX5_regularPart [zI a0] M Qc) (dg : decode K.1 pc = .ok (.invokestatic 220, 3)) (kk : ∀ (r : Option Int) (M' : Mem), Qc r M' → zJW X (pc + 3) lv (zans r ++ st) M') : zJW X pc lv (zI a0 :: st) M :=
  z_callS (As := [zI a0]) hc hct ok_X5_regularPart hfit (by rw [ho]; exact mm_X5_220) im_X5_regularPart rfl hr rfl dg kk
theorem kc_X5_220 {K : Kp} {X : CX} {pc : Nat} {lv : List (Nat × MV)} {st : List MV} {M : Mem} {a0 : Int} {z : Int} {M1 : Mem} (hc : zCx K X) (ho : K.2.2.2.1 = RX5) (hfit : zFits KX5_regularPart K) (hr : (st.map zcat).sum ≤ 8) (hct : zCt yX5_regularPart KX5_regularPart [zI a0] M (fun v M' => v = some z ∧ M' = M1)) (dg : decode K.1 pc = .ok (.invokestatic 220, 3)) (kk : zJW X (pc + 3) lv (zI z :: st) M1) : zJW X pc lv (zI a0 :: st) M :=
  kg_X5_220 hc ho hfit hr hct dg (fun r M' h => by obtain ⟨rfl, rfl⟩ := h; exact kk)
theorem mm_X5_223 : Cond.methodLink RX5 223 yX5_rightMaskAt ∈ TB := List.mem_filter.mpr ⟨List.mem_of_getElem? (i := 404) (by decide +kernel), rfl⟩
theorem kg_X5_223 {K : Kp} {X : CX} {pc : Nat} {lv : List (Nat × MV)} {st : List MV} {M : Mem} {a0 : Int} {a1 : Int} {Qc : Option Int → Mem → Prop} (hc : zCx K X) (ho : K.2.2.2.1 = RX5) (hfit : zFits KX5_rightMaskAt K) (hf : K.2.2.2.2.2.1 27 = true) (hr : (st.map zcat).sum ≤ 8) (hct : zCt yX5_rightMaskAt KX5_rightMaskAt [zR 27, zI a0, zI a1] M Qc) (dg : decode K.1 pc = .ok (.invokevirtual 223, 3)) (kk : ∀ (r : Option Int) (M' : Mem), Qc r M' → zJW X (pc + 3) lv (zans r ++ st) M') : zJW X pc lv (zI a1 :: zI a0 :: zR 27 :: st) M :=
  z_callV (As := [zI a0, zI a1]) hc hct ok_X5_rightMaskAt hfit hf rfl rfl (by rw [ho]; exact mm_X5_223) im_X5_rightMaskAt se_X5_rightMaskAt rfl hr rfl dg kk
theorem kc_X5_223 {K : Kp} {X : CX} {pc : Nat} {lv : List (Nat × MV)} {st : List MV} {M : Mem} {a0 : Int} {a1 : Int} {z : Int} {M1 : Mem} (hc : zCx K X) (ho : K.2.2.2.1 = RX5) (hfit : zFits KX5_rightMaskAt K) (hf : K.2.2.2.2.2.1 27 = true) (hr : (st.map zcat).sum ≤ 8) (hct : zCt yX5_rightMaskAt KX5_rightMaskAt [zR 27, zI a0, zI a1] M (fun v M' => v = some z ∧ M' = M1)) (dg : decode K.1 pc = .ok (.invokevirtual 223, 3)) (kk : zJW X (pc + 3) lv (zI z :: st) M1) : zJW X pc lv (zI a1 :: zI a0 :: zR 27 :: st) M :=
  kg_X5_223 hc ho hfit hf hr hct dg (fun r M' h => by obtain ⟨rfl, rfl⟩ := h; exact kk)
theorem mm_X5_226 : Cond.methodLink RX5 226 yX5_isReshapedBy ∈ TB := List.mem_filter.mpr ⟨List.mem_of_getElem? (i := 270) (by decide +kernel), rfl⟩
theorem kg_X5_226 {K : Kp} {X : CX} {pc : Nat} {lv : List (Nat × MV)} {st : List MV} {M : Mem} {a0 : Int} {a1 : Int} {a2 : Int} {Qc : Option Int → Mem → Prop} (hc : zCx K X) (ho : K.2.2.2.1 = RX5) (hfit : zFits KX5_isReshapedBy K) (hf : K.2.2.2.2.2.1 27 = true) (hr : (st.map zcat).sum ≤ 8) (hct : zCt yX5_isReshapedBy KX5_isReshapedBy [zR 27, zI a0, zI a1, zI a2] M Qc) (dg : decode K.1 pc = .ok (.invokevirtual 226, 3)) (kk : ∀ (r : Option Int) (M' : Mem), Qc r M' → zJW X (pc + 3) lv (zans r ++ st) M') : zJW X pc lv (zI a2 :: zI a1 :: zI a0 :: zR 27 :: st) M :=
  z_callV (As := [zI a0, zI a1, zI a2]) hc hct ok_X5_isReshapedBy hfit hf rfl rfl (by rw [ho]; exact mm_X5_226) im_X5_isReshapedBy se_X5_isReshapedBy rfl hr rfl dg kk
theorem kc_X5_226 {K : Kp} {X : CX} {pc : Nat} {lv : List (Nat × MV)} {st : List MV} {M : Mem} {a0 : Int} {a1 : Int} {a2 : Int} {z : Int} {M1 : Mem} (hc : zCx K X) (ho : K.2.2.2.1 = RX5) (hfit : zFits KX5_isReshapedBy K) (hf : K.2.2.2.2.2.1 27 = true) (hr : (st.map zcat).sum ≤ 8) (hct : zCt yX5_isReshapedBy KX5_isReshapedBy [zR 27, zI a0, zI a1, zI a2] M (fun v M' => v = some z ∧ M' = M1)) (dg : decode K.1 pc = .ok (.invokevirtual 226, 3)) (kk : zJW X (pc + 3) lv (zI z :: st) M1) : zJW X pc lv (zI a2 :: zI a1 :: zI a0 :: zR 27 :: st) M :=
  kg_X5_226 hc ho hfit hf hr hct dg (fun r M' h => by obtain ⟨rfl, rfl⟩ := h; exact kk)
theorem mf_X6_7 : Cond.fieldLink RX6 7 "CoastTilesModel" "z" "[I" ∈ TB := List.mem_filter.mpr ⟨List.mem_of_getElem? (i := 603) (by decide +kernel), rfl⟩
theorem fg_X6_7 {K : Kp} {X : CX} {pc : Nat} {lv : List (Nat × MV)} {st : List MV} {M : Mem} (hc : zCx K X) (ho : K.2.2.2.1 = RX6) (hf : K.2.2.2.2.2.1 38 = true) (dg : decode K.1 pc = .ok (.getfield 7, 3)) (kk : zJW X (pc + 3) lv (zR 39 :: st) M) : zJW X pc lv (zR 38 :: st) M :=
  z_get (j := 0) (C := RX6) (T := TX6) (N := 22) hc hf rfl rfl rfl inX6 (by decide) (by rw [ho]; exact mf_X6_7) dg kk
theorem mm_X6_61 : Cond.methodLink RX6 61 yX6_in ∈ TB := List.mem_filter.mpr ⟨List.mem_of_getElem? (i := 699) (by decide +kernel), rfl⟩
theorem kg_X6_61 {K : Kp} {X : CX} {pc : Nat} {lv : List (Nat × MV)} {st : List MV} {M : Mem} {a0 : Int} {a1 : Int} {a2 : Int} {Qc : Option Int → Mem → Prop} (hc : zCx K X) (ho : K.2.2.2.1 = RX6) (hfit : zFits KX6_in K) (hr : (st.map zcat).sum ≤ 8) (hct : zCt yX6_in KX6_in [zI a0, zI a1, zI a2] M Qc) (dg : decode K.1 pc = .ok (.invokestatic 61, 3)) (kk : ∀ (r : Option Int) (M' : Mem), Qc r M' → zJW X (pc + 3) lv (zans r ++ st) M') : zJW X pc lv (zI a2 :: zI a1 :: zI a0 :: st) M :=
  z_callS (As := [zI a0, zI a1, zI a2]) hc hct ok_X6_in hfit (by rw [ho]; exact mm_X6_61) im_X6_in rfl hr rfl dg kk
theorem kc_X6_61 {K : Kp} {X : CX} {pc : Nat} {lv : List (Nat × MV)} {st : List MV} {M : Mem} {a0 : Int} {a1 : Int} {a2 : Int} {z : Int} {M1 : Mem} (hc : zCx K X) (ho : K.2.2.2.1 = RX6) (hfit : zFits KX6_in K) (hr : (st.map zcat).sum ≤ 8) (hct : zCt yX6_in KX6_in [zI a0, zI a1, zI a2] M (fun v M' => v = some z ∧ M' = M1)) (dg : decode K.1 pc = .ok (.invokestatic 61, 3)) (kk : zJW X (pc + 3) lv (zI z :: st) M1) : zJW X pc lv (zI a2 :: zI a1 :: zI a0 :: st) M :=
  kg_X6_61 hc ho hfit hr hct dg (fun r M' h => by obtain ⟨rfl, rfl⟩ := h; exact kk)
theorem mf_X6_65 : Cond.fieldLink RX6 65 "CoastTilesModel" "pastMany" "I" ∈ TB := List.mem_filter.mpr ⟨List.mem_of_getElem? (i := 605) (by decide +kernel), rfl⟩
theorem fg_X6_65 {K : Kp} {X : CX} {pc : Nat} {lv : List (Nat × MV)} {st : List MV} {M : Mem} (hc : zCx K X) (ho : K.2.2.2.1 = RX6) (hf : K.2.2.2.2.2.1 38 = true) (dg : decode K.1 pc = .ok (.getfield 65, 3)) (kk : zJW X (pc + 3) lv (zI (M 38 2) :: st) M) : zJW X pc lv (zR 38 :: st) M :=
  z_get (j := 2) (C := RX6) (T := TX6) (N := 22) hc hf rfl rfl rfl inX6 (by decide) (by rw [ho]; exact mf_X6_65) dg kk
theorem mf_X6_13 : Cond.fieldLink RX6 13 "CoastTilesModel" "past" "[I" ∈ TB := List.mem_filter.mpr ⟨List.mem_of_getElem? (i := 604) (by decide +kernel), rfl⟩
theorem fg_X6_13 {K : Kp} {X : CX} {pc : Nat} {lv : List (Nat × MV)} {st : List MV} {M : Mem} (hc : zCx K X) (ho : K.2.2.2.1 = RX6) (hf : K.2.2.2.2.2.1 38 = true) (dg : decode K.1 pc = .ok (.getfield 13, 3)) (kk : zJW X (pc + 3) lv (zR 40 :: st) M) : zJW X pc lv (zR 38 :: st) M :=
  z_get (j := 1) (C := RX6) (T := TX6) (N := 22) hc hf rfl rfl rfl inX6 (by decide) (by rw [ho]; exact mf_X6_13) dg kk
theorem fp_X6_65 {K : Kp} {X : CX} {pc : Nat} {lv : List (Nat × MV)} {st : List MV} {M : Mem} {v : Int} (hc : zCx K X) (ho : K.2.2.2.1 = RX6) (hf : K.2.2.2.2.2.1 38 = true) (dg : decode K.1 pc = .ok (.putfield 65, 3)) (kk : zJW X (pc + 3) lv st (zup M 38 2 v)) : zJW X pc lv (zI v :: zR 38 :: st) M :=
  z_putG (j := 2) (C := RX6) (T := TX6) (N := 22) hc tyX6 tyX6_ok nmX6 hf rfl rfl rfl inX6 (by decide) rfl (by rw [ho]; exact mf_X6_65) rfl rfl dg kk
theorem mf_X6_69 : Cond.fieldLink RX6 69 "CoastTilesModel" "isKept" "Z" ∈ TB := List.mem_filter.mpr ⟨List.mem_of_getElem? (i := 607) (by decide +kernel), rfl⟩
theorem fp_X6_69 {K : Kp} {X : CX} {pc : Nat} {lv : List (Nat × MV)} {st : List MV} {M : Mem} {b : Bool} (hc : zCx K X) (ho : K.2.2.2.1 = RX6) (hf : K.2.2.2.2.2.1 38 = true) (dg : decode K.1 pc = .ok (.putfield 69, 3)) (kk : zJW X (pc + 3) lv st (zup M 38 4 (zbz b))) : zJW X pc lv (zI (zbz b) :: zR 38 :: st) M :=
  z_putG (j := 4) (C := RX6) (T := TX6) (N := 22) hc tyX6 tyX6_ok nmX6 hf rfl rfl rfl inX6 (by decide) rfl (by rw [ho]; exact mf_X6_69) (iI_zbz_nar b) (iI_zbz_fit b) dg kk
theorem mf_X6_16 : Cond.fieldLink RX6 16 "CoastTilesModel" "kept" "[I" ∈ TB := List.mem_filter.mpr ⟨List.mem_of_getElem? (i := 606) (by decide +kernel), rfl⟩
theorem fg_X6_16 {K : Kp} {X : CX} {pc : Nat} {lv : List (Nat × MV)} {st : List MV} {M : Mem} (hc : zCx K X) (ho : K.2.2.2.1 = RX6) (hf : K.2.2.2.2.2.1 38 = true) (dg : decode K.1 pc = .ok (.getfield 16, 3)) (kk : zJW X (pc + 3) lv (zR 41 :: st) M) : zJW X pc lv (zR 38 :: st) M :=
  z_get (j := 3) (C := RX6) (T := TX6) (N := 22) hc hf rfl rfl rfl inX6 (by decide) (by rw [ho]; exact mf_X6_16) dg kk
theorem mm_X6_73 : Cond.methodLink RX6 73 yX6_land ∈ TB := List.mem_filter.mpr ⟨List.mem_of_getElem? (i := 679) (by decide +kernel), rfl⟩
theorem kg_X6_73 {K : Kp} {X : CX} {pc : Nat} {lv : List (Nat × MV)} {st : List MV} {M : Mem} {Qc : Option Int → Mem → Prop} (hc : zCx K X) (ho : K.2.2.2.1 = RX6) (hfit : zFits KX6_land K) (hf : K.2.2.2.2.2.1 38 = true) (hr : (st.map zcat).sum ≤ 8) (hct : zCt yX6_land KX6_land [zR 38] M Qc) (dg : decode K.1 pc = .ok (.invokevirtual 73, 3)) (kk : ∀ (r : Option Int) (M' : Mem), Qc r M' → zJW X (pc + 3) lv (zans r ++ st) M') : zJW X pc lv (zR 38 :: st) M :=
  z_callV (As := []) hc hct ok_X6_land hfit hf rfl rfl (by rw [ho]; exact mm_X6_73) im_X6_land se_X6_land rfl hr rfl dg kk
theorem kc_X6_73 {K : Kp} {X : CX} {pc : Nat} {lv : List (Nat × MV)} {st : List MV} {M : Mem} {z : Int} {M1 : Mem} (hc : zCx K X) (ho : K.2.2.2.1 = RX6) (hfit : zFits KX6_land K) (hf : K.2.2.2.2.2.1 38 = true) (hr : (st.map zcat).sum ≤ 8) (hct : zCt yX6_land KX6_land [zR 38] M (fun v M' => v = some z ∧ M' = M1)) (dg : decode K.1 pc = .ok (.invokevirtual 73, 3)) (kk : zJW X (pc + 3) lv (zI z :: st) M1) : zJW X pc lv (zR 38 :: st) M :=
  kg_X6_73 hc ho hfit hf hr hct dg (fun r M' h => by obtain ⟨rfl, rfl⟩ := h; exact kk)
theorem fg_X6_69 {K : Kp} {X : CX} {pc : Nat} {lv : List (Nat × MV)} {st : List MV} {M : Mem} (hc : zCx K X) (ho : K.2.2.2.1 = RX6) (hf : K.2.2.2.2.2.1 38 = true) (dg : decode K.1 pc = .ok (.getfield 69, 3)) (kk : zJW X (pc + 3) lv (zI (M 38 4) :: st) M) : zJW X pc lv (zR 38 :: st) M :=
  z_get (j := 4) (C := RX6) (T := TX6) (N := 22) hc hf rfl rfl rfl inX6 (by decide) (by rw [ho]; exact mf_X6_69) dg kk
theorem mm_X6_77 : Cond.methodLink RX6 77 yX6_record ∈ TB := List.mem_filter.mpr ⟨List.mem_of_getElem? (i := 691) (by decide +kernel), rfl⟩
theorem kg_X6_77 {K : Kp} {X : CX} {pc : Nat} {lv : List (Nat × MV)} {st : List MV} {M : Mem} {Qc : Option Int → Mem → Prop} (hc : zCx K X) (ho : K.2.2.2.1 = RX6) (hfit : zFits KX6_record K) (hf : K.2.2.2.2.2.1 38 = true) (hr : (st.map zcat).sum ≤ 8) (hct : zCt yX6_record KX6_record [zR 38] M Qc) (dg : decode K.1 pc = .ok (.invokevirtual 77, 3)) (kk : ∀ (r : Option Int) (M' : Mem), Qc r M' → zJW X (pc + 3) lv (zans r ++ st) M') : zJW X pc lv (zR 38 :: st) M :=
  z_callV (As := []) hc hct ok_X6_record hfit hf rfl rfl (by rw [ho]; exact mm_X6_77) im_X6_record se_X6_record rfl hr rfl dg kk
theorem kc_X6_77 {K : Kp} {X : CX} {pc : Nat} {lv : List (Nat × MV)} {st : List MV} {M : Mem} {M1 : Mem} (hc : zCx K X) (ho : K.2.2.2.1 = RX6) (hfit : zFits KX6_record K) (hf : K.2.2.2.2.2.1 38 = true) (hr : (st.map zcat).sum ≤ 8) (hct : zCt yX6_record KX6_record [zR 38] M (fun v M' => v = none ∧ M' = M1)) (dg : decode K.1 pc = .ok (.invokevirtual 77, 3)) (kk : zJW X (pc + 3) lv st M1) : zJW X pc lv (zR 38 :: st) M :=
  kg_X6_77 hc ho hfit hf hr hct dg (fun r M' h => by obtain ⟨rfl, rfl⟩ := h; exact kk)
theorem mm_X6_80 : Cond.methodLink RX6 80 yX6_bit ∈ TB := List.mem_filter.mpr ⟨List.mem_of_getElem? (i := 596) (by decide +kernel), rfl⟩
theorem kg_X6_80 {K : Kp} {X : CX} {pc : Nat} {lv : List (Nat × MV)} {st : List MV} {M : Mem} {a0 : Int} {a1 : Int} {Qc : Option Int → Mem → Prop} (hc : zCx K X) (ho : K.2.2.2.1 = RX6) (hfit : zFits KX6_bit K) (hr : (st.map zcat).sum ≤ 8) (hct : zCt yX6_bit KX6_bit [zI a0, zI a1] M Qc) (dg : decode K.1 pc = .ok (.invokestatic 80, 3)) (kk : ∀ (r : Option Int) (M' : Mem), Qc r M' → zJW X (pc + 3) lv (zans r ++ st) M') : zJW X pc lv (zI a1 :: zI a0 :: st) M :=
  z_callS (As := [zI a0, zI a1]) hc hct ok_X6_bit hfit (by rw [ho]; exact mm_X6_80) im_X6_bit rfl hr rfl dg kk
theorem kc_X6_80 {K : Kp} {X : CX} {pc : Nat} {lv : List (Nat × MV)} {st : List MV} {M : Mem} {a0 : Int} {a1 : Int} {z : Int} {M1 : Mem} (hc : zCx K X) (ho : K.2.2.2.1 = RX6) (hfit : zFits KX6_bit K) (hr : (st.map zcat).sum ≤ 8) (hct : zCt yX6_bit KX6_bit [zI a0, zI a1] M (fun v M' => v = some z ∧ M' = M1)) (dg : decode K.1 pc = .ok (.invokestatic 80, 3)) (kk : zJW X (pc + 3) lv (zI z :: st) M1) : zJW X pc lv (zI a1 :: zI a0 :: st) M :=
  kg_X6_80 hc ho hfit hr hct dg (fun r M' h => by obtain ⟨rfl, rfl⟩ := h; exact kk)
theorem mm_X6_84 : Cond.methodLink RX6 84 yX6_rowBy ∈ TB := List.mem_filter.mpr ⟨List.mem_of_getElem? (i := 730) (by decide +kernel), rfl⟩
theorem kg_X6_84 {K : Kp} {X : CX} {pc : Nat} {lv : List (Nat × MV)} {st : List MV} {M : Mem} {a0 : Int} {Qc : Option Int → Mem → Prop} (hc : zCx K X) (ho : K.2.2.2.1 = RX6) (hfit : zFits KX6_rowBy K) (hr : (st.map zcat).sum ≤ 8) (hct : zCt yX6_rowBy KX6_rowBy [zI a0] M Qc) (dg : decode K.1 pc = .ok (.invokestatic 84, 3)) (kk : ∀ (r : Option Int) (M' : Mem), Qc r M' → zJW X (pc + 3) lv (zans r ++ st) M') : zJW X pc lv (zI a0 :: st) M :=
  z_callS (As := [zI a0]) hc hct ok_X6_rowBy hfit (by rw [ho]; exact mm_X6_84) im_X6_rowBy rfl hr rfl dg kk
theorem kc_X6_84 {K : Kp} {X : CX} {pc : Nat} {lv : List (Nat × MV)} {st : List MV} {M : Mem} {a0 : Int} {z : Int} {M1 : Mem} (hc : zCx K X) (ho : K.2.2.2.1 = RX6) (hfit : zFits KX6_rowBy K) (hr : (st.map zcat).sum ≤ 8) (hct : zCt yX6_rowBy KX6_rowBy [zI a0] M (fun v M' => v = some z ∧ M' = M1)) (dg : decode K.1 pc = .ok (.invokestatic 84, 3)) (kk : zJW X (pc + 3) lv (zI z :: st) M1) : zJW X pc lv (zI a0 :: st) M :=
  kg_X6_84 hc ho hfit hr hct dg (fun r M' h => by obtain ⟨rfl, rfl⟩ := h; exact kk)
theorem mm_X6_87 : Cond.methodLink RX6 87 yX6_columnBy ∈ TB := List.mem_filter.mpr ⟨List.mem_of_getElem? (i := 733) (by decide +kernel), rfl⟩
theorem kg_X6_87 {K : Kp} {X : CX} {pc : Nat} {lv : List (Nat × MV)} {st : List MV} {M : Mem} {a0 : Int} {Qc : Option Int → Mem → Prop} (hc : zCx K X) (ho : K.2.2.2.1 = RX6) (hfit : zFits KX6_columnBy K) (hr : (st.map zcat).sum ≤ 8) (hct : zCt yX6_columnBy KX6_columnBy [zI a0] M Qc) (dg : decode K.1 pc = .ok (.invokestatic 87, 3)) (kk : ∀ (r : Option Int) (M' : Mem), Qc r M' → zJW X (pc + 3) lv (zans r ++ st) M') : zJW X pc lv (zI a0 :: st) M :=
  z_callS (As := [zI a0]) hc hct ok_X6_columnBy hfit (by rw [ho]; exact mm_X6_87) im_X6_columnBy rfl hr rfl dg kk
theorem kc_X6_87 {K : Kp} {X : CX} {pc : Nat} {lv : List (Nat × MV)} {st : List MV} {M : Mem} {a0 : Int} {z : Int} {M1 : Mem} (hc : zCx K X) (ho : K.2.2.2.1 = RX6) (hfit : zFits KX6_columnBy K) (hr : (st.map zcat).sum ≤ 8) (hct : zCt yX6_columnBy KX6_columnBy [zI a0] M (fun v M' => v = some z ∧ M' = M1)) (dg : decode K.1 pc = .ok (.invokestatic 87, 3)) (kk : zJW X (pc + 3) lv (zI z :: st) M1) : zJW X pc lv (zI a0 :: st) M :=
  kg_X6_87 hc ho hfit hr hct dg (fun r M' h => by obtain ⟨rfl, rfl⟩ := h; exact kk)
theorem mm_X6_90 : Cond.methodLink RX6 90 yX6_isTile ∈ TB := List.mem_filter.mpr ⟨List.mem_of_getElem? (i := 736) (by decide +kernel), rfl⟩
theorem kg_X6_90 {K : Kp} {X : CX} {pc : Nat} {lv : List (Nat × MV)} {st : List MV} {M : Mem} {a0 : Int} {a1 : Int} {Qc : Option Int → Mem → Prop} (hc : zCx K X) (ho : K.2.2.2.1 = RX6) (hfit : zFits KX6_isTile K) (hf : K.2.2.2.2.2.1 38 = true) (hr : (st.map zcat).sum ≤ 8) (hct : zCt yX6_isTile KX6_isTile [zR 38, zI a0, zI a1] M Qc) (dg : decode K.1 pc = .ok (.invokevirtual 90, 3)) (kk : ∀ (r : Option Int) (M' : Mem), Qc r M' → zJW X (pc + 3) lv (zans r ++ st) M') : zJW X pc lv (zI a1 :: zI a0 :: zR 38 :: st) M :=
  z_callV (As := [zI a0, zI a1]) hc hct ok_X6_isTile hfit hf rfl rfl (by rw [ho]; exact mm_X6_90) im_X6_isTile se_X6_isTile rfl hr rfl dg kk
theorem kc_X6_90 {K : Kp} {X : CX} {pc : Nat} {lv : List (Nat × MV)} {st : List MV} {M : Mem} {a0 : Int} {a1 : Int} {z : Int} {M1 : Mem} (hc : zCx K X) (ho : K.2.2.2.1 = RX6) (hfit : zFits KX6_isTile K) (hf : K.2.2.2.2.2.1 38 = true) (hr : (st.map zcat).sum ≤ 8) (hct : zCt yX6_isTile KX6_isTile [zR 38, zI a0, zI a1] M (fun v M' => v = some z ∧ M' = M1)) (dg : decode K.1 pc = .ok (.invokevirtual 90, 3)) (kk : zJW X (pc + 3) lv (zI z :: st) M1) : zJW X pc lv (zI a1 :: zI a0 :: zR 38 :: st) M :=
  kg_X6_90 hc ho hfit hf hr hct dg (fun r M' h => by obtain ⟨rfl, rfl⟩ := h; exact kk)
theorem mm_X6_94 : Cond.methodLink RX6 94 yX6_at ∈ TB := List.mem_filter.mpr ⟨List.mem_of_getElem? (i := 740) (by decide +kernel), rfl⟩
theorem kg_X6_94 {K : Kp} {X : CX} {pc : Nat} {lv : List (Nat × MV)} {st : List MV} {M : Mem} {a0 : Int} {a1 : Int} {Qc : Option Int → Mem → Prop} (hc : zCx K X) (ho : K.2.2.2.1 = RX6) (hfit : zFits KX6_at K) (hf : K.2.2.2.2.2.1 38 = true) (hr : (st.map zcat).sum ≤ 8) (hct : zCt yX6_at KX6_at [zR 38, zI a0, zI a1] M Qc) (dg : decode K.1 pc = .ok (.invokevirtual 94, 3)) (kk : ∀ (r : Option Int) (M' : Mem), Qc r M' → zJW X (pc + 3) lv (zans r ++ st) M') : zJW X pc lv (zI a1 :: zI a0 :: zR 38 :: st) M :=
  z_callV (As := [zI a0, zI a1]) hc hct ok_X6_at hfit hf rfl rfl (by rw [ho]; exact mm_X6_94) im_X6_at se_X6_at rfl hr rfl dg kk
theorem kc_X6_94 {K : Kp} {X : CX} {pc : Nat} {lv : List (Nat × MV)} {st : List MV} {M : Mem} {a0 : Int} {a1 : Int} {z : Int} {M1 : Mem} (hc : zCx K X) (ho : K.2.2.2.1 = RX6) (hfit : zFits KX6_at K) (hf : K.2.2.2.2.2.1 38 = true) (hr : (st.map zcat).sum ≤ 8) (hct : zCt yX6_at KX6_at [zR 38, zI a0, zI a1] M (fun v M' => v = some z ∧ M' = M1)) (dg : decode K.1 pc = .ok (.invokevirtual 94, 3)) (kk : zJW X (pc + 3) lv (zI z :: st) M1) : zJW X pc lv (zI a1 :: zI a0 :: zR 38 :: st) M :=
  kg_X6_94 hc ho hfit hf hr hct dg (fun r M' h => by obtain ⟨rfl, rfl⟩ := h; exact kk)
theorem mm_X6_97 : Cond.methodLink RX6 97 yX6_isLandAt ∈ TB := List.mem_filter.mpr ⟨List.mem_of_getElem? (i := 714) (by decide +kernel), rfl⟩
theorem kg_X6_97 {K : Kp} {X : CX} {pc : Nat} {lv : List (Nat × MV)} {st : List MV} {M : Mem} {a0 : Int} {Qc : Option Int → Mem → Prop} (hc : zCx K X) (ho : K.2.2.2.1 = RX6) (hfit : zFits KX6_isLandAt K) (hf : K.2.2.2.2.2.1 38 = true) (hr : (st.map zcat).sum ≤ 8) (hct : zCt yX6_isLandAt KX6_isLandAt [zR 38, zI a0] M Qc) (dg : decode K.1 pc = .ok (.invokevirtual 97, 3)) (kk : ∀ (r : Option Int) (M' : Mem), Qc r M' → zJW X (pc + 3) lv (zans r ++ st) M') : zJW X pc lv (zI a0 :: zR 38 :: st) M :=
  z_callV (As := [zI a0]) hc hct ok_X6_isLandAt hfit hf rfl rfl (by rw [ho]; exact mm_X6_97) im_X6_isLandAt se_X6_isLandAt rfl hr rfl dg kk
theorem kc_X6_97 {K : Kp} {X : CX} {pc : Nat} {lv : List (Nat × MV)} {st : List MV} {M : Mem} {a0 : Int} {z : Int} {M1 : Mem} (hc : zCx K X) (ho : K.2.2.2.1 = RX6) (hfit : zFits KX6_isLandAt K) (hf : K.2.2.2.2.2.1 38 = true) (hr : (st.map zcat).sum ≤ 8) (hct : zCt yX6_isLandAt KX6_isLandAt [zR 38, zI a0] M (fun v M' => v = some z ∧ M' = M1)) (dg : decode K.1 pc = .ok (.invokevirtual 97, 3)) (kk : zJW X (pc + 3) lv (zI z :: st) M1) : zJW X pc lv (zI a0 :: zR 38 :: st) M :=
  kg_X6_97 hc ho hfit hf hr hct dg (fun r M' h => by obtain ⟨rfl, rfl⟩ := h; exact kk)
theorem mm_X6_101 : Cond.methodLink RX6 101 yX6_isLandBeside ∈ TB := List.mem_filter.mpr ⟨List.mem_of_getElem? (i := 726) (by decide +kernel), rfl⟩
theorem kg_X6_101 {K : Kp} {X : CX} {pc : Nat} {lv : List (Nat × MV)} {st : List MV} {M : Mem} {a0 : Int} {a1 : Int} {a2 : Int} {Qc : Option Int → Mem → Prop} (hc : zCx K X) (ho : K.2.2.2.1 = RX6) (hfit : zFits KX6_isLandBeside K) (hf : K.2.2.2.2.2.1 38 = true) (hr : (st.map zcat).sum ≤ 8) (hct : zCt yX6_isLandBeside KX6_isLandBeside [zR 38, zI a0, zI a1, zI a2] M Qc) (dg : decode K.1 pc = .ok (.invokevirtual 101, 3)) (kk : ∀ (r : Option Int) (M' : Mem), Qc r M' → zJW X (pc + 3) lv (zans r ++ st) M') : zJW X pc lv (zI a2 :: zI a1 :: zI a0 :: zR 38 :: st) M :=
  z_callV (As := [zI a0, zI a1, zI a2]) hc hct ok_X6_isLandBeside hfit hf rfl rfl (by rw [ho]; exact mm_X6_101) im_X6_isLandBeside se_X6_isLandBeside rfl hr rfl dg kk
theorem kc_X6_101 {K : Kp} {X : CX} {pc : Nat} {lv : List (Nat × MV)} {st : List MV} {M : Mem} {a0 : Int} {a1 : Int} {a2 : Int} {z : Int} {M1 : Mem} (hc : zCx K X) (ho : K.2.2.2.1 = RX6) (hfit : zFits KX6_isLandBeside K) (hf : K.2.2.2.2.2.1 38 = true) (hr : (st.map zcat).sum ≤ 8) (hct : zCt yX6_isLandBeside KX6_isLandBeside [zR 38, zI a0, zI a1, zI a2] M (fun v M' => v = some z ∧ M' = M1)) (dg : decode K.1 pc = .ok (.invokevirtual 101, 3)) (kk : zJW X (pc + 3) lv (zI z :: st) M1) : zJW X pc lv (zI a2 :: zI a1 :: zI a0 :: zR 38 :: st) M :=
  kg_X6_101 hc ho hfit hf hr hct dg (fun r M' h => by obtain ⟨rfl, rfl⟩ := h; exact kk)
theorem mf_X6_26 : Cond.fieldLink RX6 26 "CoastTilesModel" "shapes" "[I" ∈ TB := List.mem_filter.mpr ⟨List.mem_of_getElem? (i := 611) (by decide +kernel), rfl⟩
theorem fg_X6_26 {K : Kp} {X : CX} {pc : Nat} {lv : List (Nat × MV)} {st : List MV} {M : Mem} (hc : zCx K X) (ho : K.2.2.2.1 = RX6) (hf : K.2.2.2.2.2.1 38 = true) (dg : decode K.1 pc = .ok (.getfield 26, 3)) (kk : zJW X (pc + 3) lv (zR 44 :: st) M) : zJW X pc lv (zR 38 :: st) M :=
  z_get (j := 8) (C := RX6) (T := TX6) (N := 22) hc hf rfl rfl rfl inX6 (by decide) (by rw [ho]; exact mf_X6_26) dg kk
theorem mm_X6_104 : Cond.methodLink RX6 104 yX6_around ∈ TB := List.mem_filter.mpr ⟨List.mem_of_getElem? (i := 722) (by decide +kernel), rfl⟩
theorem kg_X6_104 {K : Kp} {X : CX} {pc : Nat} {lv : List (Nat × MV)} {st : List MV} {M : Mem} {a0 : Int} {a1 : Int} {Qc : Option Int → Mem → Prop} (hc : zCx K X) (ho : K.2.2.2.1 = RX6) (hfit : zFits KX6_around K) (hf : K.2.2.2.2.2.1 38 = true) (hr : (st.map zcat).sum ≤ 8) (hct : zCt yX6_around KX6_around [zR 38, zI a0, zI a1] M Qc) (dg : decode K.1 pc = .ok (.invokevirtual 104, 3)) (kk : ∀ (r : Option Int) (M' : Mem), Qc r M' → zJW X (pc + 3) lv (zans r ++ st) M') : zJW X pc lv (zI a1 :: zI a0 :: zR 38 :: st) M :=
  z_callV (As := [zI a0, zI a1]) hc hct ok_X6_around hfit hf rfl rfl (by rw [ho]; exact mm_X6_104) im_X6_around se_X6_around rfl hr rfl dg kk
theorem kc_X6_104 {K : Kp} {X : CX} {pc : Nat} {lv : List (Nat × MV)} {st : List MV} {M : Mem} {a0 : Int} {a1 : Int} {z : Int} {M1 : Mem} (hc : zCx K X) (ho : K.2.2.2.1 = RX6) (hfit : zFits KX6_around K) (hf : K.2.2.2.2.2.1 38 = true) (hr : (st.map zcat).sum ≤ 8) (hct : zCt yX6_around KX6_around [zR 38, zI a0, zI a1] M (fun v M' => v = some z ∧ M' = M1)) (dg : decode K.1 pc = .ok (.invokevirtual 104, 3)) (kk : zJW X (pc + 3) lv (zI z :: st) M1) : zJW X pc lv (zI a1 :: zI a0 :: zR 38 :: st) M :=
  kg_X6_104 hc ho hfit hf hr hct dg (fun r M' h => by obtain ⟨rfl, rfl⟩ := h; exact kk)
theorem mm_X6_54 : Cond.methodLink RX6 54 yX6_reduced ∈ TB := List.mem_filter.mpr ⟨List.mem_of_getElem? (i := 593) (by decide +kernel), rfl⟩
theorem kg_X6_54 {K : Kp} {X : CX} {pc : Nat} {lv : List (Nat × MV)} {st : List MV} {M : Mem} {a0 : Int} {Qc : Option Int → Mem → Prop} (hc : zCx K X) (ho : K.2.2.2.1 = RX6) (hfit : zFits KX6_reduced K) (hr : (st.map zcat).sum ≤ 8) (hct : zCt yX6_reduced KX6_reduced [zI a0] M Qc) (dg : decode K.1 pc = .ok (.invokestatic 54, 3)) (kk : ∀ (r : Option Int) (M' : Mem), Qc r M' → zJW X (pc + 3) lv (zans r ++ st) M') : zJW X pc lv (zI a0 :: st) M :=
  z_callS (As := [zI a0]) hc hct ok_X6_reduced hfit (by rw [ho]; exact mm_X6_54) im_X6_reduced rfl hr rfl dg kk
theorem kc_X6_54 {K : Kp} {X : CX} {pc : Nat} {lv : List (Nat × MV)} {st : List MV} {M : Mem} {a0 : Int} {z : Int} {M1 : Mem} (hc : zCx K X) (ho : K.2.2.2.1 = RX6) (hfit : zFits KX6_reduced K) (hr : (st.map zcat).sum ≤ 8) (hct : zCt yX6_reduced KX6_reduced [zI a0] M (fun v M' => v = some z ∧ M' = M1)) (dg : decode K.1 pc = .ok (.invokestatic 54, 3)) (kk : zJW X (pc + 3) lv (zI z :: st) M1) : zJW X pc lv (zI a0 :: st) M :=
  kg_X6_54 hc ho hfit hr hct dg (fun r M' h => by obtain ⟨rfl, rfl⟩ := h; exact kk)
theorem mm_X6_107 : Cond.methodLink RX6 107 yX6_right ∈ TB := List.mem_filter.mpr ⟨List.mem_of_getElem? (i := 718) (by decide +kernel), rfl⟩
theorem kg_X6_107 {K : Kp} {X : CX} {pc : Nat} {lv : List (Nat × MV)} {st : List MV} {M : Mem} {a0 : Int} {Qc : Option Int → Mem → Prop} (hc : zCx K X) (ho : K.2.2.2.1 = RX6) (hfit : zFits KX6_right K) (hf : K.2.2.2.2.2.1 38 = true) (hr : (st.map zcat).sum ≤ 8) (hct : zCt yX6_right KX6_right [zR 38, zI a0] M Qc) (dg : decode K.1 pc = .ok (.invokevirtual 107, 3)) (kk : ∀ (r : Option Int) (M' : Mem), Qc r M' → zJW X (pc + 3) lv (zans r ++ st) M') : zJW X pc lv (zI a0 :: zR 38 :: st) M :=
  z_callV (As := [zI a0]) hc hct ok_X6_right hfit hf rfl rfl (by rw [ho]; exact mm_X6_107) im_X6_right se_X6_right rfl hr rfl dg kk
theorem kc_X6_107 {K : Kp} {X : CX} {pc : Nat} {lv : List (Nat × MV)} {st : List MV} {M : Mem} {a0 : Int} {z : Int} {M1 : Mem} (hc : zCx K X) (ho : K.2.2.2.1 = RX6) (hfit : zFits KX6_right K) (hf : K.2.2.2.2.2.1 38 = true) (hr : (st.map zcat).sum ≤ 8) (hct : zCt yX6_right KX6_right [zR 38, zI a0] M (fun v M' => v = some z ∧ M' = M1)) (dg : decode K.1 pc = .ok (.invokevirtual 107, 3)) (kk : zJW X (pc + 3) lv (zI z :: st) M1) : zJW X pc lv (zI a0 :: zR 38 :: st) M :=
  kg_X6_107 hc ho hfit hf hr hct dg (fun r M' h => by obtain ⟨rfl, rfl⟩ := h; exact kk)
theorem mf_X6_23 : Cond.fieldLink RX6 23 "CoastTilesModel" "masks" "[I" ∈ TB := List.mem_filter.mpr ⟨List.mem_of_getElem? (i := 610) (by decide +kernel), rfl⟩
theorem fg_X6_23 {K : Kp} {X : CX} {pc : Nat} {lv : List (Nat × MV)} {st : List MV} {M : Mem} (hc : zCx K X) (ho : K.2.2.2.1 = RX6) (hf : K.2.2.2.2.2.1 38 = true) (dg : decode K.1 pc = .ok (.getfield 23, 3)) (kk : zJW X (pc + 3) lv (zR 43 :: st) M) : zJW X pc lv (zR 38 :: st) M :=
  z_get (j := 7) (C := RX6) (T := TX6) (N := 22) hc hf rfl rfl rfl inX6 (by decide) (by rw [ho]; exact mf_X6_23) dg kk
theorem mm_X6_110 : Cond.methodLink RX6 110 yX6_shapeAt ∈ TB := List.mem_filter.mpr ⟨List.mem_of_getElem? (i := 710) (by decide +kernel), rfl⟩
theorem kg_X6_110 {K : Kp} {X : CX} {pc : Nat} {lv : List (Nat × MV)} {st : List MV} {M : Mem} {a0 : Int} {Qc : Option Int → Mem → Prop} (hc : zCx K X) (ho : K.2.2.2.1 = RX6) (hfit : zFits KX6_shapeAt K) (hf : K.2.2.2.2.2.1 38 = true) (hr : (st.map zcat).sum ≤ 8) (hct : zCt yX6_shapeAt KX6_shapeAt [zR 38, zI a0] M Qc) (dg : decode K.1 pc = .ok (.invokevirtual 110, 3)) (kk : ∀ (r : Option Int) (M' : Mem), Qc r M' → zJW X (pc + 3) lv (zans r ++ st) M') : zJW X pc lv (zI a0 :: zR 38 :: st) M :=
  z_callV (As := [zI a0]) hc hct ok_X6_shapeAt hfit hf rfl rfl (by rw [ho]; exact mm_X6_110) im_X6_shapeAt se_X6_shapeAt rfl hr rfl dg kk
theorem kc_X6_110 {K : Kp} {X : CX} {pc : Nat} {lv : List (Nat × MV)} {st : List MV} {M : Mem} {a0 : Int} {z : Int} {M1 : Mem} (hc : zCx K X) (ho : K.2.2.2.1 = RX6) (hfit : zFits KX6_shapeAt K) (hf : K.2.2.2.2.2.1 38 = true) (hr : (st.map zcat).sum ≤ 8) (hct : zCt yX6_shapeAt KX6_shapeAt [zR 38, zI a0] M (fun v M' => v = some z ∧ M' = M1)) (dg : decode K.1 pc = .ok (.invokevirtual 110, 3)) (kk : zJW X (pc + 3) lv (zI z :: st) M1) : zJW X pc lv (zI a0 :: zR 38 :: st) M :=
  kg_X6_110 hc ho hfit hf hr hct dg (fun r M' h => by obtain ⟨rfl, rfl⟩ := h; exact kk)
theorem mm_X6_113 : Cond.methodLink RX6 113 yX6_bits ∈ TB := List.mem_filter.mpr ⟨List.mem_of_getElem? (i := 772) (by decide +kernel), rfl⟩
theorem kg_X6_113 {K : Kp} {X : CX} {pc : Nat} {lv : List (Nat × MV)} {st : List MV} {M : Mem} {a0 : Int} {Qc : Option Int → Mem → Prop} (hc : zCx K X) (ho : K.2.2.2.1 = RX6) (hfit : zFits KX6_bits K) (hr : (st.map zcat).sum ≤ 8) (hct : zCt yX6_bits KX6_bits [zI a0] M Qc) (dg : decode K.1 pc = .ok (.invokestatic 113, 3)) (kk : ∀ (r : Option Int) (M' : Mem), Qc r M' → zJW X (pc + 3) lv (zans r ++ st) M') : zJW X pc lv (zI a0 :: st) M :=
  z_callS (As := [zI a0]) hc hct ok_X6_bits hfit (by rw [ho]; exact mm_X6_113) im_X6_bits rfl hr rfl dg kk
theorem kc_X6_113 {K : Kp} {X : CX} {pc : Nat} {lv : List (Nat × MV)} {st : List MV} {M : Mem} {a0 : Int} {z : Int} {M1 : Mem} (hc : zCx K X) (ho : K.2.2.2.1 = RX6) (hfit : zFits KX6_bits K) (hr : (st.map zcat).sum ≤ 8) (hct : zCt yX6_bits KX6_bits [zI a0] M (fun v M' => v = some z ∧ M' = M1)) (dg : decode K.1 pc = .ok (.invokestatic 113, 3)) (kk : zJW X (pc + 3) lv (zI z :: st) M1) : zJW X pc lv (zI a0 :: st) M :=
  kg_X6_113 hc ho hfit hr hct dg (fun r M' h => by obtain ⟨rfl, rfl⟩ := h; exact kk)
theorem mm_X6_58 : Cond.methodLink RX6 58 yX6_water ∈ TB := List.mem_filter.mpr ⟨List.mem_of_getElem? (i := 599) (by decide +kernel), rfl⟩
theorem kg_X6_58 {K : Kp} {X : CX} {pc : Nat} {lv : List (Nat × MV)} {st : List MV} {M : Mem} {Qc : Option Int → Mem → Prop} (hc : zCx K X) (ho : K.2.2.2.1 = RX6) (hfit : zFits KX6_water K) (hf : K.2.2.2.2.2.1 38 = true) (hr : (st.map zcat).sum ≤ 8) (hct : zCt yX6_water KX6_water [zR 38] M Qc) (dg : decode K.1 pc = .ok (.invokevirtual 58, 3)) (kk : ∀ (r : Option Int) (M' : Mem), Qc r M' → zJW X (pc + 3) lv (zans r ++ st) M') : zJW X pc lv (zR 38 :: st) M :=
  z_callV (As := []) hc hct ok_X6_water hfit hf rfl rfl (by rw [ho]; exact mm_X6_58) im_X6_water se_X6_water rfl hr rfl dg kk
theorem kc_X6_58 {K : Kp} {X : CX} {pc : Nat} {lv : List (Nat × MV)} {st : List MV} {M : Mem} {M1 : Mem} (hc : zCx K X) (ho : K.2.2.2.1 = RX6) (hfit : zFits KX6_water K) (hf : K.2.2.2.2.2.1 38 = true) (hr : (st.map zcat).sum ≤ 8) (hct : zCt yX6_water KX6_water [zR 38] M (fun v M' => v = none ∧ M' = M1)) (dg : decode K.1 pc = .ok (.invokevirtual 58, 3)) (kk : zJW X (pc + 3) lv st M1) : zJW X pc lv (zR 38 :: st) M :=
  kg_X6_58 hc ho hfit hf hr hct dg (fun r M' h => by obtain ⟨rfl, rfl⟩ := h; exact kk)
theorem mm_X6_116 : Cond.methodLink RX6 116 yX6_tiles ∈ TB := List.mem_filter.mpr ⟨List.mem_of_getElem? (i := 683) (by decide +kernel), rfl⟩
theorem kg_X6_116 {K : Kp} {X : CX} {pc : Nat} {lv : List (Nat × MV)} {st : List MV} {M : Mem} {Qc : Option Int → Mem → Prop} (hc : zCx K X) (ho : K.2.2.2.1 = RX6) (hfit : zFits KX6_tiles K) (hf : K.2.2.2.2.2.1 38 = true) (hr : (st.map zcat).sum ≤ 8) (hct : zCt yX6_tiles KX6_tiles [zR 38] M Qc) (dg : decode K.1 pc = .ok (.invokevirtual 116, 3)) (kk : ∀ (r : Option Int) (M' : Mem), Qc r M' → zJW X (pc + 3) lv (zans r ++ st) M') : zJW X pc lv (zR 38 :: st) M :=
  z_callV (As := []) hc hct ok_X6_tiles hfit hf rfl rfl (by rw [ho]; exact mm_X6_116) im_X6_tiles se_X6_tiles rfl hr rfl dg kk
theorem kc_X6_116 {K : Kp} {X : CX} {pc : Nat} {lv : List (Nat × MV)} {st : List MV} {M : Mem} {z : Int} {M1 : Mem} (hc : zCx K X) (ho : K.2.2.2.1 = RX6) (hfit : zFits KX6_tiles K) (hf : K.2.2.2.2.2.1 38 = true) (hr : (st.map zcat).sum ≤ 8) (hct : zCt yX6_tiles KX6_tiles [zR 38] M (fun v M' => v = some z ∧ M' = M1)) (dg : decode K.1 pc = .ok (.invokevirtual 116, 3)) (kk : zJW X (pc + 3) lv (zI z :: st) M1) : zJW X pc lv (zR 38 :: st) M :=
  kg_X6_116 hc ho hfit hf hr hct dg (fun r M' h => by obtain ⟨rfl, rfl⟩ := h; exact kk)
theorem mf_X6_29 : Cond.fieldLink RX6 29 "CoastTilesModel" "before" "[I" ∈ TB := List.mem_filter.mpr ⟨List.mem_of_getElem? (i := 612) (by decide +kernel), rfl⟩
theorem fg_X6_29 {K : Kp} {X : CX} {pc : Nat} {lv : List (Nat × MV)} {st : List MV} {M : Mem} (hc : zCx K X) (ho : K.2.2.2.1 = RX6) (hf : K.2.2.2.2.2.1 38 = true) (dg : decode K.1 pc = .ok (.getfield 29, 3)) (kk : zJW X (pc + 3) lv (zR 45 :: st) M) : zJW X pc lv (zR 38 :: st) M :=
  z_get (j := 9) (C := RX6) (T := TX6) (N := 22) hc hf rfl rfl rfl inX6 (by decide) (by rw [ho]; exact mf_X6_29) dg kk
theorem mm_X6_119 : Cond.methodLink RX6 119 yX6_lookShapes ∈ TB := List.mem_filter.mpr ⟨List.mem_of_getElem? (i := 706) (by decide +kernel), rfl⟩
theorem kg_X6_119 {K : Kp} {X : CX} {pc : Nat} {lv : List (Nat × MV)} {st : List MV} {M : Mem} {Qc : Option Int → Mem → Prop} (hc : zCx K X) (ho : K.2.2.2.1 = RX6) (hfit : zFits KX6_lookShapes K) (hf : K.2.2.2.2.2.1 38 = true) (hr : (st.map zcat).sum ≤ 8) (hct : zCt yX6_lookShapes KX6_lookShapes [zR 38] M Qc) (dg : decode K.1 pc = .ok (.invokevirtual 119, 3)) (kk : ∀ (r : Option Int) (M' : Mem), Qc r M' → zJW X (pc + 3) lv (zans r ++ st) M') : zJW X pc lv (zR 38 :: st) M :=
  z_callV (As := []) hc hct ok_X6_lookShapes hfit hf rfl rfl (by rw [ho]; exact mm_X6_119) im_X6_lookShapes se_X6_lookShapes rfl hr rfl dg kk
theorem kc_X6_119 {K : Kp} {X : CX} {pc : Nat} {lv : List (Nat × MV)} {st : List MV} {M : Mem} {M1 : Mem} (hc : zCx K X) (ho : K.2.2.2.1 = RX6) (hfit : zFits KX6_lookShapes K) (hf : K.2.2.2.2.2.1 38 = true) (hr : (st.map zcat).sum ≤ 8) (hct : zCt yX6_lookShapes KX6_lookShapes [zR 38] M (fun v M' => v = none ∧ M' = M1)) (dg : decode K.1 pc = .ok (.invokevirtual 119, 3)) (kk : zJW X (pc + 3) lv st M1) : zJW X pc lv (zR 38 :: st) M :=
  kg_X6_119 hc ho hfit hf hr hct dg (fun r M' h => by obtain ⟨rfl, rfl⟩ := h; exact kk)
theorem mm_X6_122 : Cond.methodLink RX6 122 yX6_reshaped ∈ TB := List.mem_filter.mpr ⟨List.mem_of_getElem? (i := 744) (by decide +kernel), rfl⟩
theorem kg_X6_122 {K : Kp} {X : CX} {pc : Nat} {lv : List (Nat × MV)} {st : List MV} {M : Mem} {Qc : Option Int → Mem → Prop} (hc : zCx K X) (ho : K.2.2.2.1 = RX6) (hfit : zFits KX6_reshaped K) (hf : K.2.2.2.2.2.1 38 = true) (hr : (st.map zcat).sum ≤ 8) (hct : zCt yX6_reshaped KX6_reshaped [zR 38] M Qc) (dg : decode K.1 pc = .ok (.invokevirtual 122, 3)) (kk : ∀ (r : Option Int) (M' : Mem), Qc r M' → zJW X (pc + 3) lv (zans r ++ st) M') : zJW X pc lv (zR 38 :: st) M :=
  z_callV (As := []) hc hct ok_X6_reshaped hfit hf rfl rfl (by rw [ho]; exact mm_X6_122) im_X6_reshaped se_X6_reshaped rfl hr rfl dg kk
theorem kc_X6_122 {K : Kp} {X : CX} {pc : Nat} {lv : List (Nat × MV)} {st : List MV} {M : Mem} {z : Int} {M1 : Mem} (hc : zCx K X) (ho : K.2.2.2.1 = RX6) (hfit : zFits KX6_reshaped K) (hf : K.2.2.2.2.2.1 38 = true) (hr : (st.map zcat).sum ≤ 8) (hct : zCt yX6_reshaped KX6_reshaped [zR 38] M (fun v M' => v = some z ∧ M' = M1)) (dg : decode K.1 pc = .ok (.invokevirtual 122, 3)) (kk : zJW X (pc + 3) lv (zI z :: st) M1) : zJW X pc lv (zR 38 :: st) M :=
  kg_X6_122 hc ho hfit hf hr hct dg (fun r M' h => by obtain ⟨rfl, rfl⟩ := h; exact kk)
theorem mm_X6_125 : Cond.methodLink RX6 125 yX6_becomes ∈ TB := List.mem_filter.mpr ⟨List.mem_of_getElem? (i := 752) (by decide +kernel), rfl⟩
theorem kg_X6_125 {K : Kp} {X : CX} {pc : Nat} {lv : List (Nat × MV)} {st : List MV} {M : Mem} {a0 : Int} {a1 : Int} {Qc : Option Int → Mem → Prop} (hc : zCx K X) (ho : K.2.2.2.1 = RX6) (hfit : zFits KX6_becomes K) (hf : K.2.2.2.2.2.1 38 = true) (hr : (st.map zcat).sum ≤ 8) (hct : zCt yX6_becomes KX6_becomes [zR 38, zI a0, zI a1] M Qc) (dg : decode K.1 pc = .ok (.invokevirtual 125, 3)) (kk : ∀ (r : Option Int) (M' : Mem), Qc r M' → zJW X (pc + 3) lv (zans r ++ st) M') : zJW X pc lv (zI a1 :: zI a0 :: zR 38 :: st) M :=
  z_callV (As := [zI a0, zI a1]) hc hct ok_X6_becomes hfit hf rfl rfl (by rw [ho]; exact mm_X6_125) im_X6_becomes se_X6_becomes rfl hr rfl dg kk
theorem kc_X6_125 {K : Kp} {X : CX} {pc : Nat} {lv : List (Nat × MV)} {st : List MV} {M : Mem} {a0 : Int} {a1 : Int} {z : Int} {M1 : Mem} (hc : zCx K X) (ho : K.2.2.2.1 = RX6) (hfit : zFits KX6_becomes K) (hf : K.2.2.2.2.2.1 38 = true) (hr : (st.map zcat).sum ≤ 8) (hct : zCt yX6_becomes KX6_becomes [zR 38, zI a0, zI a1] M (fun v M' => v = some z ∧ M' = M1)) (dg : decode K.1 pc = .ok (.invokevirtual 125, 3)) (kk : zJW X (pc + 3) lv (zI z :: st) M1) : zJW X pc lv (zI a1 :: zI a0 :: zR 38 :: st) M :=
  kg_X6_125 hc ho hfit hf hr hct dg (fun r M' h => by obtain ⟨rfl, rfl⟩ := h; exact kk)
theorem mf_X6_35 : Cond.fieldLink RX6 35 "CoastTilesModel" "steps" "[I" ∈ TB := List.mem_filter.mpr ⟨List.mem_of_getElem? (i := 614) (by decide +kernel), rfl⟩
theorem fg_X6_35 {K : Kp} {X : CX} {pc : Nat} {lv : List (Nat × MV)} {st : List MV} {M : Mem} (hc : zCx K X) (ho : K.2.2.2.1 = RX6) (hf : K.2.2.2.2.2.1 38 = true) (dg : decode K.1 pc = .ok (.getfield 35, 3)) (kk : zJW X (pc + 3) lv (zR 47 :: st) M) : zJW X pc lv (zR 38 :: st) M :=
  z_get (j := 11) (C := RX6) (T := TX6) (N := 22) hc hf rfl rfl rfl inX6 (by decide) (by rw [ho]; exact mf_X6_35) dg kk
theorem mf_X6_32 : Cond.fieldLink RX6 32 "CoastTilesModel" "found" "[I" ∈ TB := List.mem_filter.mpr ⟨List.mem_of_getElem? (i := 613) (by decide +kernel), rfl⟩
theorem fg_X6_32 {K : Kp} {X : CX} {pc : Nat} {lv : List (Nat × MV)} {st : List MV} {M : Mem} (hc : zCx K X) (ho : K.2.2.2.1 = RX6) (hf : K.2.2.2.2.2.1 38 = true) (dg : decode K.1 pc = .ok (.getfield 32, 3)) (kk : zJW X (pc + 3) lv (zR 46 :: st) M) : zJW X pc lv (zR 38 :: st) M :=
  z_get (j := 10) (C := RX6) (T := TX6) (N := 22) hc hf rfl rfl rfl inX6 (by decide) (by rw [ho]; exact mf_X6_32) dg kk
theorem mf_X6_129 : Cond.fieldLink RX6 129 "CoastTilesModel" "foundMany" "I" ∈ TB := List.mem_filter.mpr ⟨List.mem_of_getElem? (i := 615) (by decide +kernel), rfl⟩
theorem fp_X6_129 {K : Kp} {X : CX} {pc : Nat} {lv : List (Nat × MV)} {st : List MV} {M : Mem} {v : Int} (hc : zCx K X) (ho : K.2.2.2.1 = RX6) (hf : K.2.2.2.2.2.1 38 = true) (dg : decode K.1 pc = .ok (.putfield 129, 3)) (kk : zJW X (pc + 3) lv st (zup M 38 12 v)) : zJW X pc lv (zI v :: zR 38 :: st) M :=
  z_putG (j := 12) (C := RX6) (T := TX6) (N := 22) hc tyX6 tyX6_ok nmX6 hf rfl rfl rfl inX6 (by decide) rfl (by rw [ho]; exact mf_X6_129) rfl rfl dg kk
theorem fg_X6_129 {K : Kp} {X : CX} {pc : Nat} {lv : List (Nat × MV)} {st : List MV} {M : Mem} (hc : zCx K X) (ho : K.2.2.2.1 = RX6) (hf : K.2.2.2.2.2.1 38 = true) (dg : decode K.1 pc = .ok (.getfield 129, 3)) (kk : zJW X (pc + 3) lv (zI (M 38 12) :: st) M) : zJW X pc lv (zR 38 :: st) M :=
  z_get (j := 12) (C := RX6) (T := TX6) (N := 22) hc hf rfl rfl rfl inX6 (by decide) (by rw [ho]; exact mf_X6_129) dg kk
theorem mm_X6_132 : Cond.methodLink RX6 132 yX6_findRegion ∈ TB := List.mem_filter.mpr ⟨List.mem_of_getElem? (i := 760) (by decide +kernel), rfl⟩
theorem kg_X6_132 {K : Kp} {X : CX} {pc : Nat} {lv : List (Nat × MV)} {st : List MV} {M : Mem} {a0 : Int} {a1 : Int} {Qc : Option Int → Mem → Prop} (hc : zCx K X) (ho : K.2.2.2.1 = RX6) (hfit : zFits KX6_findRegion K) (hf : K.2.2.2.2.2.1 38 = true) (hr : (st.map zcat).sum ≤ 8) (hct : zCt yX6_findRegion KX6_findRegion [zR 38, zI a0, zI a1] M Qc) (dg : decode K.1 pc = .ok (.invokevirtual 132, 3)) (kk : ∀ (r : Option Int) (M' : Mem), Qc r M' → zJW X (pc + 3) lv (zans r ++ st) M') : zJW X pc lv (zI a1 :: zI a0 :: zR 38 :: st) M :=
  z_callV (As := [zI a0, zI a1]) hc hct ok_X6_findRegion hfit hf rfl rfl (by rw [ho]; exact mm_X6_132) im_X6_findRegion se_X6_findRegion rfl hr rfl dg kk
theorem kc_X6_132 {K : Kp} {X : CX} {pc : Nat} {lv : List (Nat × MV)} {st : List MV} {M : Mem} {a0 : Int} {a1 : Int} {M1 : Mem} (hc : zCx K X) (ho : K.2.2.2.1 = RX6) (hfit : zFits KX6_findRegion K) (hf : K.2.2.2.2.2.1 38 = true) (hr : (st.map zcat).sum ≤ 8) (hct : zCt yX6_findRegion KX6_findRegion [zR 38, zI a0, zI a1] M (fun v M' => v = none ∧ M' = M1)) (dg : decode K.1 pc = .ok (.invokevirtual 132, 3)) (kk : zJW X (pc + 3) lv st M1) : zJW X pc lv (zI a1 :: zI a0 :: zR 38 :: st) M :=
  kg_X6_132 hc ho hfit hf hr hct dg (fun r M' h => by obtain ⟨rfl, rfl⟩ := h; exact kk)
theorem mf_X6_38 : Cond.fieldLink RX6 38 "CoastTilesModel" "sums" "[I" ∈ TB := List.mem_filter.mpr ⟨List.mem_of_getElem? (i := 616) (by decide +kernel), rfl⟩
theorem fg_X6_38 {K : Kp} {X : CX} {pc : Nat} {lv : List (Nat × MV)} {st : List MV} {M : Mem} (hc : zCx K X) (ho : K.2.2.2.1 = RX6) (hf : K.2.2.2.2.2.1 38 = true) (dg : decode K.1 pc = .ok (.getfield 38, 3)) (kk : zJW X (pc + 3) lv (zR 48 :: st) M) : zJW X pc lv (zR 38 :: st) M :=
  z_get (j := 13) (C := RX6) (T := TX6) (N := 22) hc hf rfl rfl rfl inX6 (by decide) (by rw [ho]; exact mf_X6_38) dg kk
theorem mf_X6_41 : Cond.fieldLink RX6 41 "CoastTilesModel" "newTiles" "[I" ∈ TB := List.mem_filter.mpr ⟨List.mem_of_getElem? (i := 617) (by decide +kernel), rfl⟩
theorem fg_X6_41 {K : Kp} {X : CX} {pc : Nat} {lv : List (Nat × MV)} {st : List MV} {M : Mem} (hc : zCx K X) (ho : K.2.2.2.1 = RX6) (hf : K.2.2.2.2.2.1 38 = true) (dg : decode K.1 pc = .ok (.getfield 41, 3)) (kk : zJW X (pc + 3) lv (zR 49 :: st) M) : zJW X pc lv (zR 38 :: st) M :=
  z_get (j := 14) (C := RX6) (T := TX6) (N := 22) hc hf rfl rfl rfl inX6 (by decide) (by rw [ho]; exact mf_X6_41) dg kk
theorem mf_X6_44 : Cond.fieldLink RX6 44 "CoastTilesModel" "newPins" "[I" ∈ TB := List.mem_filter.mpr ⟨List.mem_of_getElem? (i := 618) (by decide +kernel), rfl⟩
theorem fg_X6_44 {K : Kp} {X : CX} {pc : Nat} {lv : List (Nat × MV)} {st : List MV} {M : Mem} (hc : zCx K X) (ho : K.2.2.2.1 = RX6) (hf : K.2.2.2.2.2.1 38 = true) (dg : decode K.1 pc = .ok (.getfield 44, 3)) (kk : zJW X (pc + 3) lv (zR 50 :: st) M) : zJW X pc lv (zR 38 :: st) M :=
  z_get (j := 15) (C := RX6) (T := TX6) (N := 22) hc hf rfl rfl rfl inX6 (by decide) (by rw [ho]; exact mf_X6_44) dg kk
theorem mm_X6_136 : Cond.methodLink RX6 136 yX6_turnedBy ∈ TB := List.mem_filter.mpr ⟨List.mem_of_getElem? (i := 783) (by decide +kernel), rfl⟩
theorem kg_X6_136 {K : Kp} {X : CX} {pc : Nat} {lv : List (Nat × MV)} {st : List MV} {M : Mem} {a0 : Int} {a1 : Int} {Qc : Option Int → Mem → Prop} (hc : zCx K X) (ho : K.2.2.2.1 = RX6) (hfit : zFits KX6_turnedBy K) (hf : K.2.2.2.2.2.1 38 = true) (hr : (st.map zcat).sum ≤ 8) (hct : zCt yX6_turnedBy KX6_turnedBy [zR 38, zI a0, zI a1] M Qc) (dg : decode K.1 pc = .ok (.invokevirtual 136, 3)) (kk : ∀ (r : Option Int) (M' : Mem), Qc r M' → zJW X (pc + 3) lv (zans r ++ st) M') : zJW X pc lv (zI a1 :: zI a0 :: zR 38 :: st) M :=
  z_callV (As := [zI a0, zI a1]) hc hct ok_X6_turnedBy hfit hf rfl rfl (by rw [ho]; exact mm_X6_136) im_X6_turnedBy se_X6_turnedBy rfl hr rfl dg kk
theorem kc_X6_136 {K : Kp} {X : CX} {pc : Nat} {lv : List (Nat × MV)} {st : List MV} {M : Mem} {a0 : Int} {a1 : Int} {z : Int} {M1 : Mem} (hc : zCx K X) (ho : K.2.2.2.1 = RX6) (hfit : zFits KX6_turnedBy K) (hf : K.2.2.2.2.2.1 38 = true) (hr : (st.map zcat).sum ≤ 8) (hct : zCt yX6_turnedBy KX6_turnedBy [zR 38, zI a0, zI a1] M (fun v M' => v = some z ∧ M' = M1)) (dg : decode K.1 pc = .ok (.invokevirtual 136, 3)) (kk : zJW X (pc + 3) lv (zI z :: st) M1) : zJW X pc lv (zI a1 :: zI a0 :: zR 38 :: st) M :=
  kg_X6_136 hc ho hfit hf hr hct dg (fun r M' h => by obtain ⟨rfl, rfl⟩ := h; exact kk)
theorem mm_X6_139 : Cond.methodLink RX6 139 yX6_turnOnce ∈ TB := List.mem_filter.mpr ⟨List.mem_of_getElem? (i := 779) (by decide +kernel), rfl⟩
theorem kg_X6_139 {K : Kp} {X : CX} {pc : Nat} {lv : List (Nat × MV)} {st : List MV} {M : Mem} {Qc : Option Int → Mem → Prop} (hc : zCx K X) (ho : K.2.2.2.1 = RX6) (hfit : zFits KX6_turnOnce K) (hf : K.2.2.2.2.2.1 38 = true) (hr : (st.map zcat).sum ≤ 8) (hct : zCt yX6_turnOnce KX6_turnOnce [zR 38] M Qc) (dg : decode K.1 pc = .ok (.invokevirtual 139, 3)) (kk : ∀ (r : Option Int) (M' : Mem), Qc r M' → zJW X (pc + 3) lv (zans r ++ st) M') : zJW X pc lv (zR 38 :: st) M :=
  z_callV (As := []) hc hct ok_X6_turnOnce hfit hf rfl rfl (by rw [ho]; exact mm_X6_139) im_X6_turnOnce se_X6_turnOnce rfl hr rfl dg kk
theorem kc_X6_139 {K : Kp} {X : CX} {pc : Nat} {lv : List (Nat × MV)} {st : List MV} {M : Mem} {M1 : Mem} (hc : zCx K X) (ho : K.2.2.2.1 = RX6) (hfit : zFits KX6_turnOnce K) (hf : K.2.2.2.2.2.1 38 = true) (hr : (st.map zcat).sum ≤ 8) (hct : zCt yX6_turnOnce KX6_turnOnce [zR 38] M (fun v M' => v = none ∧ M' = M1)) (dg : decode K.1 pc = .ok (.invokevirtual 139, 3)) (kk : zJW X (pc + 3) lv st M1) : zJW X pc lv (zR 38 :: st) M :=
  kg_X6_139 hc ho hfit hf hr hct dg (fun r M' h => by obtain ⟨rfl, rfl⟩ := h; exact kk)
theorem mm_X6_142 : Cond.methodLink RX6 142 yX6_faultsAt ∈ TB := List.mem_filter.mpr ⟨List.mem_of_getElem? (i := 799) (by decide +kernel), rfl⟩
theorem kg_X6_142 {K : Kp} {X : CX} {pc : Nat} {lv : List (Nat × MV)} {st : List MV} {M : Mem} {a0 : Int} {Qc : Option Int → Mem → Prop} (hc : zCx K X) (ho : K.2.2.2.1 = RX6) (hfit : zFits KX6_faultsAt K) (hf : K.2.2.2.2.2.1 38 = true) (hr : (st.map zcat).sum ≤ 8) (hct : zCt yX6_faultsAt KX6_faultsAt [zR 38, zI a0] M Qc) (dg : decode K.1 pc = .ok (.invokevirtual 142, 3)) (kk : ∀ (r : Option Int) (M' : Mem), Qc r M' → zJW X (pc + 3) lv (zans r ++ st) M') : zJW X pc lv (zI a0 :: zR 38 :: st) M :=
  z_callV (As := [zI a0]) hc hct ok_X6_faultsAt hfit hf rfl rfl (by rw [ho]; exact mm_X6_142) im_X6_faultsAt se_X6_faultsAt rfl hr rfl dg kk
theorem kc_X6_142 {K : Kp} {X : CX} {pc : Nat} {lv : List (Nat × MV)} {st : List MV} {M : Mem} {a0 : Int} {z : Int} {M1 : Mem} (hc : zCx K X) (ho : K.2.2.2.1 = RX6) (hfit : zFits KX6_faultsAt K) (hf : K.2.2.2.2.2.1 38 = true) (hr : (st.map zcat).sum ≤ 8) (hct : zCt yX6_faultsAt KX6_faultsAt [zR 38, zI a0] M (fun v M' => v = some z ∧ M' = M1)) (dg : decode K.1 pc = .ok (.invokevirtual 142, 3)) (kk : zJW X (pc + 3) lv (zI z :: st) M1) : zJW X pc lv (zI a0 :: zR 38 :: st) M :=
  kg_X6_142 hc ho hfit hf hr hct dg (fun r M' h => by obtain ⟨rfl, rfl⟩ := h; exact kk)
theorem mm_X6_145 : Cond.methodLink RX6 145 yX6_isShape ∈ TB := List.mem_filter.mpr ⟨List.mem_of_getElem? (i := 807) (by decide +kernel), rfl⟩
theorem kg_X6_145 {K : Kp} {X : CX} {pc : Nat} {lv : List (Nat × MV)} {st : List MV} {M : Mem} {a0 : Int} {Qc : Option Int → Mem → Prop} (hc : zCx K X) (ho : K.2.2.2.1 = RX6) (hfit : zFits KX6_isShape K) (hr : (st.map zcat).sum ≤ 8) (hct : zCt yX6_isShape KX6_isShape [zI a0] M Qc) (dg : decode K.1 pc = .ok (.invokestatic 145, 3)) (kk : ∀ (r : Option Int) (M' : Mem), Qc r M' → zJW X (pc + 3) lv (zans r ++ st) M') : zJW X pc lv (zI a0 :: st) M :=
  z_callS (As := [zI a0]) hc hct ok_X6_isShape hfit (by rw [ho]; exact mm_X6_145) im_X6_isShape rfl hr rfl dg kk
theorem kc_X6_145 {K : Kp} {X : CX} {pc : Nat} {lv : List (Nat × MV)} {st : List MV} {M : Mem} {a0 : Int} {z : Int} {M1 : Mem} (hc : zCx K X) (ho : K.2.2.2.1 = RX6) (hfit : zFits KX6_isShape K) (hr : (st.map zcat).sum ≤ 8) (hct : zCt yX6_isShape KX6_isShape [zI a0] M (fun v M' => v = some z ∧ M' = M1)) (dg : decode K.1 pc = .ok (.invokestatic 145, 3)) (kk : zJW X (pc + 3) lv (zI z :: st) M1) : zJW X pc lv (zI a0 :: st) M :=
  kg_X6_145 hc ho hfit hr hct dg (fun r M' h => by obtain ⟨rfl, rfl⟩ := h; exact kk)
theorem mm_X6_148 : Cond.methodLink RX6 148 yX6_told ∈ TB := List.mem_filter.mpr ⟨List.mem_of_getElem? (i := 822) (by decide +kernel), rfl⟩
theorem kg_X6_148 {K : Kp} {X : CX} {pc : Nat} {lv : List (Nat × MV)} {st : List MV} {M : Mem} {a0 : Int} {Qc : Option Int → Mem → Prop} (hc : zCx K X) (ho : K.2.2.2.1 = RX6) (hfit : zFits KX6_told K) (hf : K.2.2.2.2.2.1 38 = true) (hr : (st.map zcat).sum ≤ 8) (hct : zCt yX6_told KX6_told [zR 38, zI a0] M Qc) (dg : decode K.1 pc = .ok (.invokevirtual 148, 3)) (kk : ∀ (r : Option Int) (M' : Mem), Qc r M' → zJW X (pc + 3) lv (zans r ++ st) M') : zJW X pc lv (zI a0 :: zR 38 :: st) M :=
  z_callV (As := [zI a0]) hc hct ok_X6_told hfit hf rfl rfl (by rw [ho]; exact mm_X6_148) im_X6_told se_X6_told rfl hr rfl dg kk
theorem kc_X6_148 {K : Kp} {X : CX} {pc : Nat} {lv : List (Nat × MV)} {st : List MV} {M : Mem} {a0 : Int} {z : Int} {M1 : Mem} (hc : zCx K X) (ho : K.2.2.2.1 = RX6) (hfit : zFits KX6_told K) (hf : K.2.2.2.2.2.1 38 = true) (hr : (st.map zcat).sum ≤ 8) (hct : zCt yX6_told KX6_told [zR 38, zI a0] M (fun v M' => v = some z ∧ M' = M1)) (dg : decode K.1 pc = .ok (.invokevirtual 148, 3)) (kk : zJW X (pc + 3) lv (zI z :: st) M1) : zJW X pc lv (zI a0 :: zR 38 :: st) M :=
  kg_X6_148 hc ho hfit hf hr hct dg (fun r M' h => by obtain ⟨rfl, rfl⟩ := h; exact kk)
theorem mm_X6_151 : Cond.methodLink RX6 151 yX6_counted ∈ TB := List.mem_filter.mpr ⟨List.mem_of_getElem? (i := 846) (by decide +kernel), rfl⟩
theorem kg_X6_151 {K : Kp} {X : CX} {pc : Nat} {lv : List (Nat × MV)} {st : List MV} {M : Mem} {a0 : Int} {Qc : Option Int → Mem → Prop} (hc : zCx K X) (ho : K.2.2.2.1 = RX6) (hfit : zFits KX6_counted K) (hf : K.2.2.2.2.2.1 38 = true) (hr : (st.map zcat).sum ≤ 8) (hct : zCt yX6_counted KX6_counted [zR 38, zI a0] M Qc) (dg : decode K.1 pc = .ok (.invokevirtual 151, 3)) (kk : ∀ (r : Option Int) (M' : Mem), Qc r M' → zJW X (pc + 3) lv (zans r ++ st) M') : zJW X pc lv (zI a0 :: zR 38 :: st) M :=
  z_callV (As := [zI a0]) hc hct ok_X6_counted hfit hf rfl rfl (by rw [ho]; exact mm_X6_151) im_X6_counted se_X6_counted rfl hr rfl dg kk
theorem kc_X6_151 {K : Kp} {X : CX} {pc : Nat} {lv : List (Nat × MV)} {st : List MV} {M : Mem} {a0 : Int} {z : Int} {M1 : Mem} (hc : zCx K X) (ho : K.2.2.2.1 = RX6) (hfit : zFits KX6_counted K) (hf : K.2.2.2.2.2.1 38 = true) (hr : (st.map zcat).sum ≤ 8) (hct : zCt yX6_counted KX6_counted [zR 38, zI a0] M (fun v M' => v = some z ∧ M' = M1)) (dg : decode K.1 pc = .ok (.invokevirtual 151, 3)) (kk : zJW X (pc + 3) lv (zI z :: st) M1) : zJW X pc lv (zI a0 :: zR 38 :: st) M :=
  kg_X6_151 hc ho hfit hf hr hct dg (fun r M' h => by obtain ⟨rfl, rfl⟩ := h; exact kk)
theorem mm_X6_156 : Cond.methodLink RX6 156 yX6_bitsOfFloat ∈ TB := List.mem_filter.mpr ⟨List.mem_of_getElem? (i := 859) (by decide +kernel), rfl⟩
theorem kg_X6_156 {K : Kp} {X : CX} {pc : Nat} {lv : List (Nat × MV)} {st : List MV} {M : Mem} {a0 : UInt32} {Qc : Option Int → Mem → Prop} (hc : zCx K X) (ho : K.2.2.2.1 = RX6) (hfit : zFits KX6_bitsOfFloat K) (hr : (st.map zcat).sum ≤ 8) (hct : zCt yX6_bitsOfFloat KX6_bitsOfFloat [zF a0] M Qc) (dg : decode K.1 pc = .ok (.invokestatic 156, 3)) (kk : ∀ (r : Option Int) (M' : Mem), Qc r M' → zJW X (pc + 3) lv (zans r ++ st) M') : zJW X pc lv (zF a0 :: st) M :=
  z_callS (As := [zF a0]) hc hct ok_X6_bitsOfFloat hfit (by rw [ho]; exact mm_X6_156) im_X6_bitsOfFloat rfl hr rfl dg kk
theorem kc_X6_156 {K : Kp} {X : CX} {pc : Nat} {lv : List (Nat × MV)} {st : List MV} {M : Mem} {a0 : UInt32} {z : Int} {M1 : Mem} (hc : zCx K X) (ho : K.2.2.2.1 = RX6) (hfit : zFits KX6_bitsOfFloat K) (hr : (st.map zcat).sum ≤ 8) (hct : zCt yX6_bitsOfFloat KX6_bitsOfFloat [zF a0] M (fun v M' => v = some z ∧ M' = M1)) (dg : decode K.1 pc = .ok (.invokestatic 156, 3)) (kk : zJW X (pc + 3) lv (zI z :: st) M1) : zJW X pc lv (zF a0 :: st) M :=
  kg_X6_156 hc ho hfit hr hct dg (fun r M' h => by obtain ⟨rfl, rfl⟩ := h; exact kk)
theorem mm_X6_160 : Cond.methodLink RX6 160 yX6_coastAt ∈ TB := List.mem_filter.mpr ⟨List.mem_of_getElem? (i := 868) (by decide +kernel), rfl⟩
theorem kg_X6_160 {K : Kp} {X : CX} {pc : Nat} {lv : List (Nat × MV)} {st : List MV} {M : Mem} {a0 : Int} {Qc : Option Int → Mem → Prop} (hc : zCx K X) (ho : K.2.2.2.1 = RX6) (hfit : zFits KX6_coastAt K) (hf : K.2.2.2.2.2.1 38 = true) (hr : (st.map zcat).sum ≤ 8) (hct : zCt yX6_coastAt KX6_coastAt [zR 38, zI a0] M Qc) (dg : decode K.1 pc = .ok (.invokevirtual 160, 3)) (kk : ∀ (r : Option Int) (M' : Mem), Qc r M' → zJW X (pc + 3) lv (zans r ++ st) M') : zJW X pc lv (zI a0 :: zR 38 :: st) M :=
  z_callV (As := [zI a0]) hc hct ok_X6_coastAt hfit hf rfl rfl (by rw [ho]; exact mm_X6_160) im_X6_coastAt se_X6_coastAt rfl hr rfl dg kk
theorem kc_X6_160 {K : Kp} {X : CX} {pc : Nat} {lv : List (Nat × MV)} {st : List MV} {M : Mem} {a0 : Int} {z : Int} {M1 : Mem} (hc : zCx K X) (ho : K.2.2.2.1 = RX6) (hfit : zFits KX6_coastAt K) (hf : K.2.2.2.2.2.1 38 = true) (hr : (st.map zcat).sum ≤ 8) (hct : zCt yX6_coastAt KX6_coastAt [zR 38, zI a0] M (fun v M' => v = some z ∧ M' = M1)) (dg : decode K.1 pc = .ok (.invokevirtual 160, 3)) (kk : zJW X (pc + 3) lv (zI z :: st) M1) : zJW X pc lv (zI a0 :: zR 38 :: st) M :=
  kg_X6_160 hc ho hfit hf hr hct dg (fun r M' h => by obtain ⟨rfl, rfl⟩ := h; exact kk)
theorem mf_X6_47 : Cond.fieldLink RX6 47 "CoastTilesModel" "isSeen" "[Z" ∈ TB := List.mem_filter.mpr ⟨List.mem_of_getElem? (i := 619) (by decide +kernel), rfl⟩
theorem fg_X6_47 {K : Kp} {X : CX} {pc : Nat} {lv : List (Nat × MV)} {st : List MV} {M : Mem} (hc : zCx K X) (ho : K.2.2.2.1 = RX6) (hf : K.2.2.2.2.2.1 38 = true) (dg : decode K.1 pc = .ok (.getfield 47, 3)) (kk : zJW X (pc + 3) lv (zR 51 :: st) M) : zJW X pc lv (zR 38 :: st) M :=
  z_get (j := 16) (C := RX6) (T := TX6) (N := 22) hc hf rfl rfl rfl inX6 (by decide) (by rw [ho]; exact mf_X6_47) dg kk
theorem mm_X6_163 : Cond.methodLink RX6 163 yX6_seeNone ∈ TB := List.mem_filter.mpr ⟨List.mem_of_getElem? (i := 876) (by decide +kernel), rfl⟩
theorem kg_X6_163 {K : Kp} {X : CX} {pc : Nat} {lv : List (Nat × MV)} {st : List MV} {M : Mem} {Qc : Option Int → Mem → Prop} (hc : zCx K X) (ho : K.2.2.2.1 = RX6) (hfit : zFits KX6_seeNone K) (hf : K.2.2.2.2.2.1 38 = true) (hr : (st.map zcat).sum ≤ 8) (hct : zCt yX6_seeNone KX6_seeNone [zR 38] M Qc) (dg : decode K.1 pc = .ok (.invokevirtual 163, 3)) (kk : ∀ (r : Option Int) (M' : Mem), Qc r M' → zJW X (pc + 3) lv (zans r ++ st) M') : zJW X pc lv (zR 38 :: st) M :=
  z_callV (As := []) hc hct ok_X6_seeNone hfit hf rfl rfl (by rw [ho]; exact mm_X6_163) im_X6_seeNone se_X6_seeNone rfl hr rfl dg kk
theorem kc_X6_163 {K : Kp} {X : CX} {pc : Nat} {lv : List (Nat × MV)} {st : List MV} {M : Mem} {M1 : Mem} (hc : zCx K X) (ho : K.2.2.2.1 = RX6) (hfit : zFits KX6_seeNone K) (hf : K.2.2.2.2.2.1 38 = true) (hr : (st.map zcat).sum ≤ 8) (hct : zCt yX6_seeNone KX6_seeNone [zR 38] M (fun v M' => v = none ∧ M' = M1)) (dg : decode K.1 pc = .ok (.invokevirtual 163, 3)) (kk : zJW X (pc + 3) lv st M1) : zJW X pc lv (zR 38 :: st) M :=
  kg_X6_163 hc ho hfit hf hr hct dg (fun r M' h => by obtain ⟨rfl, rfl⟩ := h; exact kk)
theorem mm_X6_166 : Cond.methodLink RX6 166 yX6_seeFound ∈ TB := List.mem_filter.mpr ⟨List.mem_of_getElem? (i := 880) (by decide +kernel), rfl⟩
theorem kg_X6_166 {K : Kp} {X : CX} {pc : Nat} {lv : List (Nat × MV)} {st : List MV} {M : Mem} {Qc : Option Int → Mem → Prop} (hc : zCx K X) (ho : K.2.2.2.1 = RX6) (hfit : zFits KX6_seeFound K) (hf : K.2.2.2.2.2.1 38 = true) (hr : (st.map zcat).sum ≤ 8) (hct : zCt yX6_seeFound KX6_seeFound [zR 38] M Qc) (dg : decode K.1 pc = .ok (.invokevirtual 166, 3)) (kk : ∀ (r : Option Int) (M' : Mem), Qc r M' → zJW X (pc + 3) lv (zans r ++ st) M') : zJW X pc lv (zR 38 :: st) M :=
  z_callV (As := []) hc hct ok_X6_seeFound hfit hf rfl rfl (by rw [ho]; exact mm_X6_166) im_X6_seeFound se_X6_seeFound rfl hr rfl dg kk
theorem kc_X6_166 {K : Kp} {X : CX} {pc : Nat} {lv : List (Nat × MV)} {st : List MV} {M : Mem} {M1 : Mem} (hc : zCx K X) (ho : K.2.2.2.1 = RX6) (hfit : zFits KX6_seeFound K) (hf : K.2.2.2.2.2.1 38 = true) (hr : (st.map zcat).sum ≤ 8) (hct : zCt yX6_seeFound KX6_seeFound [zR 38] M (fun v M' => v = none ∧ M' = M1)) (dg : decode K.1 pc = .ok (.invokevirtual 166, 3)) (kk : zJW X (pc + 3) lv st M1) : zJW X pc lv (zR 38 :: st) M :=
  kg_X6_166 hc ho hfit hf hr hct dg (fun r M' h => by obtain ⟨rfl, rfl⟩ := h; exact kk)
theorem mm_X6_169 : Cond.methodLink RX6 169 yX6_isInside ∈ TB := List.mem_filter.mpr ⟨List.mem_of_getElem? (i := 888) (by decide +kernel), rfl⟩
theorem kg_X6_169 {K : Kp} {X : CX} {pc : Nat} {lv : List (Nat × MV)} {st : List MV} {M : Mem} {Qc : Option Int → Mem → Prop} (hc : zCx K X) (ho : K.2.2.2.1 = RX6) (hfit : zFits KX6_isInside K) (hf : K.2.2.2.2.2.1 38 = true) (hr : (st.map zcat).sum ≤ 8) (hct : zCt yX6_isInside KX6_isInside [zR 38] M Qc) (dg : decode K.1 pc = .ok (.invokevirtual 169, 3)) (kk : ∀ (r : Option Int) (M' : Mem), Qc r M' → zJW X (pc + 3) lv (zans r ++ st) M') : zJW X pc lv (zR 38 :: st) M :=
  z_callV (As := []) hc hct ok_X6_isInside hfit hf rfl rfl (by rw [ho]; exact mm_X6_169) im_X6_isInside se_X6_isInside rfl hr rfl dg kk
theorem kc_X6_169 {K : Kp} {X : CX} {pc : Nat} {lv : List (Nat × MV)} {st : List MV} {M : Mem} {z : Int} {M1 : Mem} (hc : zCx K X) (ho : K.2.2.2.1 = RX6) (hfit : zFits KX6_isInside K) (hf : K.2.2.2.2.2.1 38 = true) (hr : (st.map zcat).sum ≤ 8) (hct : zCt yX6_isInside KX6_isInside [zR 38] M (fun v M' => v = some z ∧ M' = M1)) (dg : decode K.1 pc = .ok (.invokevirtual 169, 3)) (kk : zJW X (pc + 3) lv (zI z :: st) M1) : zJW X pc lv (zR 38 :: st) M :=
  kg_X6_169 hc ho hfit hf hr hct dg (fun r M' h => by obtain ⟨rfl, rfl⟩ := h; exact kk)
theorem mm_X6_173 : Cond.methodLink RX6 173 yX6_coast ∈ TB := List.mem_filter.mpr ⟨List.mem_of_getElem? (i := 908) (by decide +kernel), rfl⟩
theorem kg_X6_173 {K : Kp} {X : CX} {pc : Nat} {lv : List (Nat × MV)} {st : List MV} {M : Mem} {Qc : Option Int → Mem → Prop} (hc : zCx K X) (ho : K.2.2.2.1 = RX6) (hfit : zFits KX6_coast K) (hf : K.2.2.2.2.2.1 38 = true) (hr : (st.map zcat).sum ≤ 8) (hct : zCt yX6_coast KX6_coast [zR 38] M Qc) (dg : decode K.1 pc = .ok (.invokevirtual 173, 3)) (kk : ∀ (r : Option Int) (M' : Mem), Qc r M' → zJW X (pc + 3) lv (zans r ++ st) M') : zJW X pc lv (zR 38 :: st) M :=
  z_callV (As := []) hc hct ok_X6_coast hfit hf rfl rfl (by rw [ho]; exact mm_X6_173) im_X6_coast se_X6_coast rfl hr rfl dg kk
theorem kc_X6_173 {K : Kp} {X : CX} {pc : Nat} {lv : List (Nat × MV)} {st : List MV} {M : Mem} {z : Int} {M1 : Mem} (hc : zCx K X) (ho : K.2.2.2.1 = RX6) (hfit : zFits KX6_coast K) (hf : K.2.2.2.2.2.1 38 = true) (hr : (st.map zcat).sum ≤ 8) (hct : zCt yX6_coast KX6_coast [zR 38] M (fun v M' => v = some z ∧ M' = M1)) (dg : decode K.1 pc = .ok (.invokevirtual 173, 3)) (kk : zJW X (pc + 3) lv (zI z :: st) M1) : zJW X pc lv (zR 38 :: st) M :=
  kg_X6_173 hc ho hfit hf hr hct dg (fun r M' h => by obtain ⟨rfl, rfl⟩ := h; exact kk)
theorem mf_X6_176 : Cond.fieldLink RX6 176 "CoastTilesModel" "typed" "I" ∈ TB := List.mem_filter.mpr ⟨List.mem_of_getElem? (i := 609) (by decide +kernel), rfl⟩
theorem fg_X6_176 {K : Kp} {X : CX} {pc : Nat} {lv : List (Nat × MV)} {st : List MV} {M : Mem} (hc : zCx K X) (ho : K.2.2.2.1 = RX6) (hf : K.2.2.2.2.2.1 38 = true) (dg : decode K.1 pc = .ok (.getfield 176, 3)) (kk : zJW X (pc + 3) lv (zI (M 38 6) :: st) M) : zJW X pc lv (zR 38 :: st) M :=
  z_get (j := 6) (C := RX6) (T := TX6) (N := 22) hc hf rfl rfl rfl inX6 (by decide) (by rw [ho]; exact mf_X6_176) dg kk
theorem mf_X6_19 : Cond.fieldLink RX6 19 "CoastTilesModel" "buffer" "[C" ∈ TB := List.mem_filter.mpr ⟨List.mem_of_getElem? (i := 608) (by decide +kernel), rfl⟩
theorem fg_X6_19 {K : Kp} {X : CX} {pc : Nat} {lv : List (Nat × MV)} {st : List MV} {M : Mem} (hc : zCx K X) (ho : K.2.2.2.1 = RX6) (hf : K.2.2.2.2.2.1 38 = true) (dg : decode K.1 pc = .ok (.getfield 19, 3)) (kk : zJW X (pc + 3) lv (zR 42 :: st) M) : zJW X pc lv (zR 38 :: st) M :=
  z_get (j := 5) (C := RX6) (T := TX6) (N := 22) hc hf rfl rfl rfl inX6 (by decide) (by rw [ho]; exact mf_X6_19) dg kk
theorem fp_X6_176 {K : Kp} {X : CX} {pc : Nat} {lv : List (Nat × MV)} {st : List MV} {M : Mem} {v : Int} (hc : zCx K X) (ho : K.2.2.2.1 = RX6) (hf : K.2.2.2.2.2.1 38 = true) (dg : decode K.1 pc = .ok (.putfield 176, 3)) (kk : zJW X (pc + 3) lv st (zup M 38 6 v)) : zJW X pc lv (zI v :: zR 38 :: st) M :=
  z_putG (j := 6) (C := RX6) (T := TX6) (N := 22) hc tyX6 tyX6_ok nmX6 hf rfl rfl rfl inX6 (by decide) rfl (by rw [ho]; exact mf_X6_176) rfl rfl dg kk
theorem mf_X6_179 : Cond.fieldLink RX6 179 "CoastTilesModel" "readRows" "I" ∈ TB := List.mem_filter.mpr ⟨List.mem_of_getElem? (i := 621) (by decide +kernel), rfl⟩
theorem fg_X6_179 {K : Kp} {X : CX} {pc : Nat} {lv : List (Nat × MV)} {st : List MV} {M : Mem} (hc : zCx K X) (ho : K.2.2.2.1 = RX6) (hf : K.2.2.2.2.2.1 38 = true) (dg : decode K.1 pc = .ok (.getfield 179, 3)) (kk : zJW X (pc + 3) lv (zI (M 38 18) :: st) M) : zJW X pc lv (zR 38 :: st) M :=
  z_get (j := 18) (C := RX6) (T := TX6) (N := 22) hc hf rfl rfl rfl inX6 (by decide) (by rw [ho]; exact mf_X6_179) dg kk
theorem mf_X6_182 : Cond.fieldLink RX6 182 "CoastTilesModel" "readColumns" "I" ∈ TB := List.mem_filter.mpr ⟨List.mem_of_getElem? (i := 622) (by decide +kernel), rfl⟩
theorem fg_X6_182 {K : Kp} {X : CX} {pc : Nat} {lv : List (Nat × MV)} {st : List MV} {M : Mem} (hc : zCx K X) (ho : K.2.2.2.1 = RX6) (hf : K.2.2.2.2.2.1 38 = true) (dg : decode K.1 pc = .ok (.getfield 182, 3)) (kk : zJW X (pc + 3) lv (zI (M 38 19) :: st) M) : zJW X pc lv (zR 38 :: st) M :=
  z_get (j := 19) (C := RX6) (T := TX6) (N := 22) hc hf rfl rfl rfl inX6 (by decide) (by rw [ho]; exact mf_X6_182) dg kk
theorem mf_X6_185 : Cond.fieldLink RX6 185 "CoastTilesModel" "inRow" "I" ∈ TB := List.mem_filter.mpr ⟨List.mem_of_getElem? (i := 623) (by decide +kernel), rfl⟩
theorem fg_X6_185 {K : Kp} {X : CX} {pc : Nat} {lv : List (Nat × MV)} {st : List MV} {M : Mem} (hc : zCx K X) (ho : K.2.2.2.1 = RX6) (hf : K.2.2.2.2.2.1 38 = true) (dg : decode K.1 pc = .ok (.getfield 185, 3)) (kk : zJW X (pc + 3) lv (zI (M 38 20) :: st) M) : zJW X pc lv (zR 38 :: st) M :=
  z_get (j := 20) (C := RX6) (T := TX6) (N := 22) hc hf rfl rfl rfl inX6 (by decide) (by rw [ho]; exact mf_X6_185) dg kk
theorem mf_X6_188 : Cond.fieldLink RX6 188 "CoastTilesModel" "number" "I" ∈ TB := List.mem_filter.mpr ⟨List.mem_of_getElem? (i := 624) (by decide +kernel), rfl⟩
theorem fg_X6_188 {K : Kp} {X : CX} {pc : Nat} {lv : List (Nat × MV)} {st : List MV} {M : Mem} (hc : zCx K X) (ho : K.2.2.2.1 = RX6) (hf : K.2.2.2.2.2.1 38 = true) (dg : decode K.1 pc = .ok (.getfield 188, 3)) (kk : zJW X (pc + 3) lv (zI (M 38 21) :: st) M) : zJW X pc lv (zR 38 :: st) M :=
  z_get (j := 21) (C := RX6) (T := TX6) (N := 22) hc hf rfl rfl rfl inX6 (by decide) (by rw [ho]; exact mf_X6_188) dg kk
theorem mm_X6_191 : Cond.methodLink RX6 191 yX6_room ∈ TB := List.mem_filter.mpr ⟨List.mem_of_getElem? (i := 929) (by decide +kernel), rfl⟩
theorem kg_X6_191 {K : Kp} {X : CX} {pc : Nat} {lv : List (Nat × MV)} {st : List MV} {M : Mem} {Qc : Option Int → Mem → Prop} (hc : zCx K X) (ho : K.2.2.2.1 = RX6) (hfit : zFits KX6_room K) (hf : K.2.2.2.2.2.1 38 = true) (hr : (st.map zcat).sum ≤ 8) (hct : zCt yX6_room KX6_room [zR 38] M Qc) (dg : decode K.1 pc = .ok (.invokevirtual 191, 3)) (kk : ∀ (r : Option Int) (M' : Mem), Qc r M' → zJW X (pc + 3) lv (zans r ++ st) M') : zJW X pc lv (zR 38 :: st) M :=
  z_callV (As := []) hc hct ok_X6_room hfit hf rfl rfl (by rw [ho]; exact mm_X6_191) im_X6_room se_X6_room rfl hr rfl dg kk
theorem kc_X6_191 {K : Kp} {X : CX} {pc : Nat} {lv : List (Nat × MV)} {st : List MV} {M : Mem} {z : Int} {M1 : Mem} (hc : zCx K X) (ho : K.2.2.2.1 = RX6) (hfit : zFits KX6_room K) (hf : K.2.2.2.2.2.1 38 = true) (hr : (st.map zcat).sum ≤ 8) (hct : zCt yX6_room KX6_room [zR 38] M (fun v M' => v = some z ∧ M' = M1)) (dg : decode K.1 pc = .ok (.invokevirtual 191, 3)) (kk : zJW X (pc + 3) lv (zI z :: st) M1) : zJW X pc lv (zR 38 :: st) M :=
  kg_X6_191 hc ho hfit hf hr hct dg (fun r M' h => by obtain ⟨rfl, rfl⟩ := h; exact kk)
theorem fp_X6_188 {K : Kp} {X : CX} {pc : Nat} {lv : List (Nat × MV)} {st : List MV} {M : Mem} {v : Int} (hc : zCx K X) (ho : K.2.2.2.1 = RX6) (hf : K.2.2.2.2.2.1 38 = true) (dg : decode K.1 pc = .ok (.putfield 188, 3)) (kk : zJW X (pc + 3) lv st (zup M 38 21 v)) : zJW X pc lv (zI v :: zR 38 :: st) M :=
  z_putG (j := 21) (C := RX6) (T := TX6) (N := 22) hc tyX6 tyX6_ok nmX6 hf rfl rfl rfl inX6 (by decide) rfl (by rw [ho]; exact mf_X6_188) rfl rfl dg kk
theorem mf_X6_51 : Cond.fieldLink RX6 51 "CoastTilesModel" "read" "[I" ∈ TB := List.mem_filter.mpr ⟨List.mem_of_getElem? (i := 620) (by decide +kernel), rfl⟩
theorem fg_X6_51 {K : Kp} {X : CX} {pc : Nat} {lv : List (Nat × MV)} {st : List MV} {M : Mem} (hc : zCx K X) (ho : K.2.2.2.1 = RX6) (hf : K.2.2.2.2.2.1 38 = true) (dg : decode K.1 pc = .ok (.getfield 51, 3)) (kk : zJW X (pc + 3) lv (zR 52 :: st) M) : zJW X pc lv (zR 38 :: st) M :=
  z_get (j := 17) (C := RX6) (T := TX6) (N := 22) hc hf rfl rfl rfl inX6 (by decide) (by rw [ho]; exact mf_X6_51) dg kk
theorem fp_X6_185 {K : Kp} {X : CX} {pc : Nat} {lv : List (Nat × MV)} {st : List MV} {M : Mem} {v : Int} (hc : zCx K X) (ho : K.2.2.2.1 = RX6) (hf : K.2.2.2.2.2.1 38 = true) (dg : decode K.1 pc = .ok (.putfield 185, 3)) (kk : zJW X (pc + 3) lv st (zup M 38 20 v)) : zJW X pc lv (zI v :: zR 38 :: st) M :=
  z_putG (j := 20) (C := RX6) (T := TX6) (N := 22) hc tyX6 tyX6_ok nmX6 hf rfl rfl rfl inX6 (by decide) rfl (by rw [ho]; exact mf_X6_185) rfl rfl dg kk
theorem mm_X6_194 : Cond.methodLink RX6 194 yX6_isRowWhole ∈ TB := List.mem_filter.mpr ⟨List.mem_of_getElem? (i := 933) (by decide +kernel), rfl⟩
theorem kg_X6_194 {K : Kp} {X : CX} {pc : Nat} {lv : List (Nat × MV)} {st : List MV} {M : Mem} {Qc : Option Int → Mem → Prop} (hc : zCx K X) (ho : K.2.2.2.1 = RX6) (hfit : zFits KX6_isRowWhole K) (hf : K.2.2.2.2.2.1 38 = true) (hr : (st.map zcat).sum ≤ 8) (hct : zCt yX6_isRowWhole KX6_isRowWhole [zR 38] M Qc) (dg : decode K.1 pc = .ok (.invokevirtual 194, 3)) (kk : ∀ (r : Option Int) (M' : Mem), Qc r M' → zJW X (pc + 3) lv (zans r ++ st) M') : zJW X pc lv (zR 38 :: st) M :=
  z_callV (As := []) hc hct ok_X6_isRowWhole hfit hf rfl rfl (by rw [ho]; exact mm_X6_194) im_X6_isRowWhole se_X6_isRowWhole rfl hr rfl dg kk
theorem kc_X6_194 {K : Kp} {X : CX} {pc : Nat} {lv : List (Nat × MV)} {st : List MV} {M : Mem} {z : Int} {M1 : Mem} (hc : zCx K X) (ho : K.2.2.2.1 = RX6) (hfit : zFits KX6_isRowWhole K) (hf : K.2.2.2.2.2.1 38 = true) (hr : (st.map zcat).sum ≤ 8) (hct : zCt yX6_isRowWhole KX6_isRowWhole [zR 38] M (fun v M' => v = some z ∧ M' = M1)) (dg : decode K.1 pc = .ok (.invokevirtual 194, 3)) (kk : zJW X (pc + 3) lv (zI z :: st) M1) : zJW X pc lv (zR 38 :: st) M :=
  kg_X6_194 hc ho hfit hf hr hct dg (fun r M' h => by obtain ⟨rfl, rfl⟩ := h; exact kk)
theorem mm_X6_197 : Cond.methodLink RX6 197 yX6_endRow ∈ TB := List.mem_filter.mpr ⟨List.mem_of_getElem? (i := 937) (by decide +kernel), rfl⟩
theorem kg_X6_197 {K : Kp} {X : CX} {pc : Nat} {lv : List (Nat × MV)} {st : List MV} {M : Mem} {Qc : Option Int → Mem → Prop} (hc : zCx K X) (ho : K.2.2.2.1 = RX6) (hfit : zFits KX6_endRow K) (hf : K.2.2.2.2.2.1 38 = true) (hr : (st.map zcat).sum ≤ 8) (hct : zCt yX6_endRow KX6_endRow [zR 38] M Qc) (dg : decode K.1 pc = .ok (.invokevirtual 197, 3)) (kk : ∀ (r : Option Int) (M' : Mem), Qc r M' → zJW X (pc + 3) lv (zans r ++ st) M') : zJW X pc lv (zR 38 :: st) M :=
  z_callV (As := []) hc hct ok_X6_endRow hfit hf rfl rfl (by rw [ho]; exact mm_X6_197) im_X6_endRow se_X6_endRow rfl hr rfl dg kk
theorem kc_X6_197 {K : Kp} {X : CX} {pc : Nat} {lv : List (Nat × MV)} {st : List MV} {M : Mem} {M1 : Mem} (hc : zCx K X) (ho : K.2.2.2.1 = RX6) (hfit : zFits KX6_endRow K) (hf : K.2.2.2.2.2.1 38 = true) (hr : (st.map zcat).sum ≤ 8) (hct : zCt yX6_endRow KX6_endRow [zR 38] M (fun v M' => v = none ∧ M' = M1)) (dg : decode K.1 pc = .ok (.invokevirtual 197, 3)) (kk : zJW X (pc + 3) lv st M1) : zJW X pc lv (zR 38 :: st) M :=
  kg_X6_197 hc ho hfit hf hr hct dg (fun r M' h => by obtain ⟨rfl, rfl⟩ := h; exact kk)
theorem fp_X6_182 {K : Kp} {X : CX} {pc : Nat} {lv : List (Nat × MV)} {st : List MV} {M : Mem} {v : Int} (hc : zCx K X) (ho : K.2.2.2.1 = RX6) (hf : K.2.2.2.2.2.1 38 = true) (dg : decode K.1 pc = .ok (.putfield 182, 3)) (kk : zJW X (pc + 3) lv st (zup M 38 19 v)) : zJW X pc lv (zI v :: zR 38 :: st) M :=
  z_putG (j := 19) (C := RX6) (T := TX6) (N := 22) hc tyX6 tyX6_ok nmX6 hf rfl rfl rfl inX6 (by decide) rfl (by rw [ho]; exact mf_X6_182) rfl rfl dg kk
theorem fp_X6_179 {K : Kp} {X : CX} {pc : Nat} {lv : List (Nat × MV)} {st : List MV} {M : Mem} {v : Int} (hc : zCx K X) (ho : K.2.2.2.1 = RX6) (hf : K.2.2.2.2.2.1 38 = true) (dg : decode K.1 pc = .ok (.putfield 179, 3)) (kk : zJW X (pc + 3) lv st (zup M 38 18 v)) : zJW X pc lv (zI v :: zR 38 :: st) M :=
  z_putG (j := 18) (C := RX6) (T := TX6) (N := 22) hc tyX6 tyX6_ok nmX6 hf rfl rfl rfl inX6 (by decide) rfl (by rw [ho]; exact mf_X6_179) rfl rfl dg kk
theorem mm_X6_200 : Cond.methodLink RX6 200 yX6_readOne ∈ TB := List.mem_filter.mpr ⟨List.mem_of_getElem? (i := 925) (by decide +kernel), rfl⟩
theorem kg_X6_200 {K : Kp} {X : CX} {pc : Nat} {lv : List (Nat × MV)} {st : List MV} {M : Mem} {a0 : Int} {Qc : Option Int → Mem → Prop} (hc : zCx K X) (ho : K.2.2.2.1 = RX6) (hfit : zFits KX6_readOne K) (hf : K.2.2.2.2.2.1 38 = true) (hr : (st.map zcat).sum ≤ 8) (hct : zCt yX6_readOne KX6_readOne [zR 38, zI a0] M Qc) (dg : decode K.1 pc = .ok (.invokevirtual 200, 3)) (kk : ∀ (r : Option Int) (M' : Mem), Qc r M' → zJW X (pc + 3) lv (zans r ++ st) M') : zJW X pc lv (zI a0 :: zR 38 :: st) M :=
  z_callV (As := [zI a0]) hc hct ok_X6_readOne hfit hf rfl rfl (by rw [ho]; exact mm_X6_200) im_X6_readOne se_X6_readOne rfl hr rfl dg kk
theorem kc_X6_200 {K : Kp} {X : CX} {pc : Nat} {lv : List (Nat × MV)} {st : List MV} {M : Mem} {a0 : Int} {z : Int} {M1 : Mem} (hc : zCx K X) (ho : K.2.2.2.1 = RX6) (hfit : zFits KX6_readOne K) (hf : K.2.2.2.2.2.1 38 = true) (hr : (st.map zcat).sum ≤ 8) (hct : zCt yX6_readOne KX6_readOne [zR 38, zI a0] M (fun v M' => v = some z ∧ M' = M1)) (dg : decode K.1 pc = .ok (.invokevirtual 200, 3)) (kk : zJW X (pc + 3) lv (zI z :: st) M1) : zJW X pc lv (zI a0 :: zR 38 :: st) M :=
  kg_X6_200 hc ho hfit hf hr hct dg (fun r M' h => by obtain ⟨rfl, rfl⟩ := h; exact kk)
theorem mm_X6_203 : Cond.methodLink RX6 203 yX6_errorPosition ∈ TB := List.mem_filter.mpr ⟨List.mem_of_getElem? (i := 945) (by decide +kernel), rfl⟩
theorem kg_X6_203 {K : Kp} {X : CX} {pc : Nat} {lv : List (Nat × MV)} {st : List MV} {M : Mem} {Qc : Option Int → Mem → Prop} (hc : zCx K X) (ho : K.2.2.2.1 = RX6) (hfit : zFits KX6_errorPosition K) (hf : K.2.2.2.2.2.1 38 = true) (hr : (st.map zcat).sum ≤ 8) (hct : zCt yX6_errorPosition KX6_errorPosition [zR 38] M Qc) (dg : decode K.1 pc = .ok (.invokevirtual 203, 3)) (kk : ∀ (r : Option Int) (M' : Mem), Qc r M' → zJW X (pc + 3) lv (zans r ++ st) M') : zJW X pc lv (zR 38 :: st) M :=
  z_callV (As := []) hc hct ok_X6_errorPosition hfit hf rfl rfl (by rw [ho]; exact mm_X6_203) im_X6_errorPosition se_X6_errorPosition rfl hr rfl dg kk
theorem kc_X6_203 {K : Kp} {X : CX} {pc : Nat} {lv : List (Nat × MV)} {st : List MV} {M : Mem} {z : Int} {M1 : Mem} (hc : zCx K X) (ho : K.2.2.2.1 = RX6) (hfit : zFits KX6_errorPosition K) (hf : K.2.2.2.2.2.1 38 = true) (hr : (st.map zcat).sum ≤ 8) (hct : zCt yX6_errorPosition KX6_errorPosition [zR 38] M (fun v M' => v = some z ∧ M' = M1)) (dg : decode K.1 pc = .ok (.invokevirtual 203, 3)) (kk : zJW X (pc + 3) lv (zI z :: st) M1) : zJW X pc lv (zR 38 :: st) M :=
  kg_X6_203 hc ho hfit hf hr hct dg (fun r M' h => by obtain ⟨rfl, rfl⟩ := h; exact kk)
end
section
/-! ===== repetition, loops ===== -/
def zrep {α : Type} (f : Nat → α → α) : Nat → α → α
  | 0, a => a
  | n + 1, a => f n (zrep f n a)
theorem zrep_succ {α : Type} (f : Nat → α → α) (n : Nat) (a : α) : zrep f (n + 1) a = f n (zrep f n a) := rfl
theorem zrep_congr {α : Type} {f g : Nat → α → α} : ∀ {n : Nat} (a : α), (∀ i, i < n → ∀ x, f i x = g i x) → zrep f n a = zrep g n a
  | 0, _, _ => rfl
  | n + 1, a, h => by
    rw [zrep_succ, zrep_succ, zrep_congr a (fun i hi x => h i (Nat.lt_succ_of_lt hi) x), h n (Nat.lt_succ_self n)]
theorem zrep_add {α : Type} (f : Nat → α → α) (m : Nat) (a : α) : ∀ n, zrep f (m + n) a = zrep (fun i x => f (m + i) x) n (zrep f m a)
  | 0 => rfl
  | n + 1 => by
    show f (m + n) (zrep f (m + n) a) = _
    rw [zrep_add f m a n]
    rfl
/-- rows of w, one behind the other, are one row -/
theorem zrep_flat {α : Type} (f : Nat → Nat → α → α) (w : Nat) (hw : 0 < w) (a : α) : ∀ h, zrep (fun r x => zrep (fun c y => f r c y) w x) h a = zrep (fun k x => f (k / w) (k % w) x) (h * w) a
  | 0 => by rw [Nat.zero_mul]; rfl
  | h + 1 => by
    rw [zrep_succ, zrep_flat f w hw a h, Nat.succ_mul, zrep_add]
    apply zrep_congr
    intro i hi x
    have e1 : (h * w + i) / w = h := by
      rw [Nat.mul_comm, Nat.mul_add_div hw, Nat.div_eq_of_lt hi, Nat.add_zero]
    have e2 : (h * w + i) % w = i := by
      rw [Nat.mul_comm, Nat.mul_add_mod, Nat.mod_eq_of_lt hi]
    rw [e1, e2]
section ZF
variable {X : CX} {pc : Nat} {lv : List (Nat × MV)} {M : Mem}
theorem z_for (N : Nat) (lvf : Nat → List (Nat × MV)) (Mf : Nat → Mem) (h0 : lv = lvf 0) (hM : M = Mf 0) (hx : zJW X pc (lvf N) [] (Mf N)) (hs : ∀ i, i < N → zJW X pc (lvf (i + 1)) [] (Mf (i + 1)) → zJW X pc (lvf i) [] (Mf i)) : zJW X pc lv [] M := by
  have key : ∀ n, n ≤ N → zJW X pc (lvf (N - n)) [] (Mf (N - n)) := by
    intro n
    induction n with
    | zero => intro _; exact hx
    | succ n ih =>
      intro h
      have e : N - n = N - (n + 1) + 1 := by omega
      have h1 := ih (by omega)
      rw [e] at h1
      exact hs _ (by omega) h1
  rw [h0, hM]
  have := key N (Nat.le_refl N)
  rw [Nat.sub_self] at this
  exact this
theorem z_forI (N : Nat) (lvf : Nat → List (Nat × MV)) (Mf : Nat → Mem) (I : Nat → Prop) (h0 : lv = lvf 0) (hM : M = Mf 0) (hI : I 0) (hx : I N → zJW X pc (lvf N) [] (Mf N)) (hs : ∀ i, i < N → I i → (I (i + 1) → zJW X pc (lvf (i + 1)) [] (Mf (i + 1))) → zJW X pc (lvf i) [] (Mf i)) : zJW X pc lv [] M := by
  have key : ∀ n, n ≤ N → I (N - n) → zJW X pc (lvf (N - n)) [] (Mf (N - n)) := by
    intro n
    induction n with
    | zero => intro _ h; exact hx h
    | succ n ih =>
      intro h hi
      refine hs _ (by omega) hi (fun hi' => ?_)
      have e : N - (n + 1) + 1 = N - n := by omega
      rw [e] at hi' ⊢
      exact ih (by omega) hi'
  rw [h0, hM]
  have := key N (Nat.le_refl N)
  rw [Nat.sub_self] at this
  exact this hI
theorem zbz_nar (b : Bool) : vp_nar .boolean (iI (zbz b)) = iI (zbz b) := by cases b <;> rfl
theorem zbz_t : zbz true = 1 := rfl
theorem zbz_f : zbz false = 0 := rfl
theorem zbz_bd (b : Bool) : 0 ≤ zbz b ∧ zbz b ≤ 1 := by cases b <;> decide
end ZF
theorem z_mmax {K : Kp} {X : CX} {pc : Nat} {lv : List (Nat × MV)} {st : List MV} {M : Mem} (hc : zCx K X) {idx : Nat} {a b : Int} (hw : Cond.methodLink K.2.2.2.1 idx Lib.Math.max.name ∈ TB) (hst : Cond.static Lib.Math.max.name ∈ TB) (hin : Cond.initialized "java/lang/Math" ∈ TB) (hco : Cond.code Lib.Math.max.name Lib.Math.max.code 2 (some .int) ∈ TB) (hd : 1 ≤ K.2.2.2.2.1) (hbd : -2147483648 ≤ a ∧ a < 2147483648 ∧ -2147483648 ≤ b ∧ b < 2147483648) (hr : (st.map zcat).sum ≤ 8) (dg : decode K.1 pc = .ok (.invokestatic idx, 3)) (kk : zJW X (pc + 3) lv (zI (max a b) :: st) M) : zJW X pc lv (zI b :: zI a :: st) M := by
  obtain ⟨p, l, e, R, s, m, args, below, meth, c, D, dA, ids, ad, A, cs, nL, Q⟩ := X
  obtain ⟨hx, hb, hml, hret, hlk, hown, hts, hK, hA0, hA, hinj, hnod, hfl, hSt, hR1, hR2, hcs1, hcs2, hNW, hnl⟩ := hc
  intro H locs ls hP hS hv
  have hcat : ((st.map (zen ad)).map fun v => v.category).sum ≤ 8 := by
    rw [List.map_map, show ((fun v => v.category) ∘ zen ad) = zcat from funext (zcat_eq ad)]
    exact hr
  refine va_mmax hx hb (by rw [hml, hv.1]) hown (hts _ hw) (hts _ hst) (hts _ hin) (hts _ hco) (Nat.le_trans hd hR1) (by omega) hcs1 hcs2 dg ?_
  have hf := iI_lt hbd
  have hg := iI_le hbd
  have e : zen ad (zI (max a b)) = zen ad (zI (if a < b then b else a)) := by
    congr 2
    omega
  have k2 := kk H locs ls hP hS hv
  rw [List.map_cons, e] at k2
  by_cases h : a < b
  · rw [if_pos (hf.mpr h)]
    rw [if_pos h] at k2
    exact k2
  · rw [if_neg (fun q => h (hf.mp q))]
    rw [if_neg h] at k2
    exact k2
theorem z_mmin {K : Kp} {X : CX} {pc : Nat} {lv : List (Nat × MV)} {st : List MV} {M : Mem} (hc : zCx K X) {idx : Nat} {a b : Int} (hw : Cond.methodLink K.2.2.2.1 idx Lib.Math.min.name ∈ TB) (hst : Cond.static Lib.Math.min.name ∈ TB) (hin : Cond.initialized "java/lang/Math" ∈ TB) (hco : Cond.code Lib.Math.min.name Lib.Math.min.code 2 (some .int) ∈ TB) (hd : 1 ≤ K.2.2.2.2.1) (hbd : -2147483648 ≤ a ∧ a < 2147483648 ∧ -2147483648 ≤ b ∧ b < 2147483648) (hr : (st.map zcat).sum ≤ 8) (dg : decode K.1 pc = .ok (.invokestatic idx, 3)) (kk : zJW X (pc + 3) lv (zI (min a b) :: st) M) : zJW X pc lv (zI b :: zI a :: st) M := by
  obtain ⟨p, l, e, R, s, m, args, below, meth, c, D, dA, ids, ad, A, cs, nL, Q⟩ := X
  obtain ⟨hx, hb, hml, hret, hlk, hown, hts, hK, hA0, hA, hinj, hnod, hfl, hSt, hR1, hR2, hcs1, hcs2, hNW, hnl⟩ := hc
  intro H locs ls hP hS hv
  have hcat : ((st.map (zen ad)).map fun v => v.category).sum ≤ 8 := by
    rw [List.map_map, show ((fun v => v.category) ∘ zen ad) = zcat from funext (zcat_eq ad)]
    exact hr
  refine va_mmin hx hb (by rw [hml, hv.1]) hown (hts _ hw) (hts _ hst) (hts _ hin) (hts _ hco) (Nat.le_trans hd hR1) (by omega) hcs1 hcs2 dg ?_
  have hf := iI_lt hbd
  have hg := iI_lt (a := b) (b := a) ⟨hbd.2.2.1, hbd.2.2.2, hbd.1, hbd.2.1⟩
  have e : zen ad (zI (min a b)) = zen ad (zI (if b < a then b else a)) := by
    congr 2
    omega
  have k2 := kk H locs ls hP hS hv
  rw [List.map_cons, e] at k2
  by_cases h : b < a
  · rw [if_pos (hg.mpr h)]
    rw [if_pos h] at k2
    exact k2
  · rw [if_neg (fun q => h (hg.mp q))]
    rw [if_neg h] at k2
    exact k2
end
section
set_option maxRecDepth 100000 in
set_option maxHeartbeats 4000000 in
theorem ct_X5_isLineCount (M : Mem) (x : Int) (hb_x : -2147483648 ≤ x ∧ x < 2147483648) : zCt yX5_isLineCount KX5_isLineCount [zI x] M (fun v M' => v = some (zbz (decide (1 ≤ x ∧ x ≤ 12))) ∧ M' = M) := by
  refine z_met (by decide) rfl (Nat.le_of_ble_eq_true rfl) (fun X hc he => ?_)
  show zJW X 0 [(0, zI x)] [] M
  refine z_ild (pc := 0) hc 0 rfl dX5_isLineCount_0 ?_
  refine z_iconst (pc := 1) hc 1 dX5_isLineCount_1 ?_
  refine z_clt (pc := 2) (tgt := 15) hc (by omega) (by decide) dX5_isLineCount_2 (fun h2 => ?_) (fun h2 => ?_)
  · show zJW X 15 [(0, zI x)] [] M
    refine z_iconst (pc := 15) hc 0 dX5_isLineCount_15 ?_
    exact z_bret (pc := 16) (a := false) hc he rfl dX5_isLineCount_16 (by refine ⟨?_, rfl⟩; simp [zbz]; omega)
  · show zJW X 5 [(0, zI x)] [] M
    refine z_ild (pc := 5) hc 0 rfl dX5_isLineCount_5 ?_
    refine z_bipush (pc := 6) hc 12 (by decide) dX5_isLineCount_6 ?_
    refine z_cgt (pc := 8) (tgt := 15) hc (by omega) (by decide) dX5_isLineCount_8 (fun h8 => ?_) (fun h8 => ?_)
    · show zJW X 15 [(0, zI x)] [] M
      refine z_iconst (pc := 15) hc 0 dX5_isLineCount_15 ?_
      exact z_bret (pc := 16) (a := false) hc he rfl dX5_isLineCount_16 (by refine ⟨?_, rfl⟩; simp [zbz]; omega)
    · show zJW X 11 [(0, zI x)] [] M
      refine z_iconst (pc := 11) hc 1 dX5_isLineCount_11 ?_
      refine z_goto (pc := 12) (tgt := 16) hc (by decide) dX5_isLineCount_12 ?_
      exact z_bret (pc := 16) (a := true) hc he rfl dX5_isLineCount_16 (by refine ⟨?_, rfl⟩; simp [zbz]; omega)

set_option maxRecDepth 100000 in
set_option maxHeartbeats 4000000 in
theorem ct_X5_isLineOf (M : Mem) (x : Int) (n : Int) (hb_x : -2147483648 ≤ x ∧ x < 2147483648) (hb_n : -2147483648 ≤ n ∧ n < 2147483648) : zCt yX5_isLineOf KX5_isLineOf [zI x, zI n] M (fun v M' => v = some (zbz (decide (0 ≤ x ∧ x < n ∧ x < 12))) ∧ M' = M) := by
  refine z_met (by decide) rfl (Nat.le_of_ble_eq_true rfl) (fun X hc he => ?_)
  show zJW X 0 [(0, zI x), (1, zI n)] [] M
  refine z_ild (pc := 0) hc 0 rfl dX5_isLineOf_0 ?_
  refine z_ilt (pc := 1) (tgt := 19) hc (by omega) (by decide) dX5_isLineOf_1 (fun h1 => ?_) (fun h1 => ?_)
  · show zJW X 19 [(0, zI x), (1, zI n)] [] M
    refine z_iconst (pc := 19) hc 0 dX5_isLineOf_19 ?_
    exact z_bret (pc := 20) (a := false) hc he rfl dX5_isLineOf_20 (by refine ⟨?_, rfl⟩; simp [zbz]; omega)
  · show zJW X 4 [(0, zI x), (1, zI n)] [] M
    refine z_ild (pc := 4) hc 0 rfl dX5_isLineOf_4 ?_
    refine z_ild (pc := 5) hc 1 rfl dX5_isLineOf_5 ?_
    refine z_cge (pc := 6) (tgt := 19) hc (by omega) (by decide) dX5_isLineOf_6 (fun h6 => ?_) (fun h6 => ?_)
    · show zJW X 19 [(0, zI x), (1, zI n)] [] M
      refine z_iconst (pc := 19) hc 0 dX5_isLineOf_19 ?_
      exact z_bret (pc := 20) (a := false) hc he rfl dX5_isLineOf_20 (by refine ⟨?_, rfl⟩; simp [zbz]; omega)
    · show zJW X 9 [(0, zI x), (1, zI n)] [] M
      refine z_ild (pc := 9) hc 0 rfl dX5_isLineOf_9 ?_
      refine z_bipush (pc := 10) hc 12 (by decide) dX5_isLineOf_10 ?_
      refine z_cge (pc := 12) (tgt := 19) hc (by omega) (by decide) dX5_isLineOf_12 (fun h12 => ?_) (fun h12 => ?_)
      · show zJW X 19 [(0, zI x), (1, zI n)] [] M
        refine z_iconst (pc := 19) hc 0 dX5_isLineOf_19 ?_
        exact z_bret (pc := 20) (a := false) hc he rfl dX5_isLineOf_20 (by refine ⟨?_, rfl⟩; simp [zbz]; omega)
      · show zJW X 15 [(0, zI x), (1, zI n)] [] M
        refine z_iconst (pc := 15) hc 1 dX5_isLineOf_15 ?_
        refine z_goto (pc := 16) (tgt := 20) hc (by decide) dX5_isLineOf_16 ?_
        exact z_bret (pc := 20) (a := true) hc he rfl dX5_isLineOf_20 (by refine ⟨?_, rfl⟩; simp [zbz]; omega)

set_option maxRecDepth 100000 in
set_option maxHeartbeats 4000000 in
theorem ct_X5_isShape (M : Mem) (x : Int) (hb_x : -2147483648 ≤ x ∧ x < 2147483648) : zCt yX5_isShape KX5_isShape [zI x] M (fun v M' => v = some (zbz (decide (0 ≤ x ∧ x < 47))) ∧ M' = M) := by
  refine z_met (by decide) rfl (Nat.le_of_ble_eq_true rfl) (fun X hc he => ?_)
  show zJW X 0 [(0, zI x)] [] M
  refine z_ild (pc := 0) hc 0 rfl dX5_isShape_0 ?_
  refine z_ilt (pc := 1) (tgt := 14) hc (by omega) (by decide) dX5_isShape_1 (fun h1 => ?_) (fun h1 => ?_)
  · show zJW X 14 [(0, zI x)] [] M
    refine z_iconst (pc := 14) hc 0 dX5_isShape_14 ?_
    exact z_bret (pc := 15) (a := false) hc he rfl dX5_isShape_15 (by refine ⟨?_, rfl⟩; simp [zbz]; omega)
  · show zJW X 4 [(0, zI x)] [] M
    refine z_ild (pc := 4) hc 0 rfl dX5_isShape_4 ?_
    refine z_bipush (pc := 5) hc 47 (by decide) dX5_isShape_5 ?_
    refine z_cge (pc := 7) (tgt := 14) hc (by omega) (by decide) dX5_isShape_7 (fun h7 => ?_) (fun h7 => ?_)
    · show zJW X 14 [(0, zI x)] [] M
      refine z_iconst (pc := 14) hc 0 dX5_isShape_14 ?_
      exact z_bret (pc := 15) (a := false) hc he rfl dX5_isShape_15 (by refine ⟨?_, rfl⟩; simp [zbz]; omega)
    · show zJW X 10 [(0, zI x)] [] M
      refine z_iconst (pc := 10) hc 1 dX5_isShape_10 ?_
      refine z_goto (pc := 11) (tgt := 15) hc (by decide) dX5_isShape_11 ?_
      exact z_bret (pc := 15) (a := true) hc he rfl dX5_isShape_15 (by refine ⟨?_, rfl⟩; simp [zbz]; omega)

set_option maxRecDepth 100000 in
set_option maxHeartbeats 4000000 in
theorem ct_X6_in (M : Mem) (x : Int) (a : Int) (b : Int) (hb_x : -2147483648 ≤ x ∧ x < 2147483648) (hb_a : -2147483648 ≤ a ∧ a < 2147483648) (hb_b : -2147483648 ≤ b ∧ b < 2147483648) : zCt yX6_in KX6_in [zI x, zI a, zI b] M (fun v M' => v = some (zbz (decide (a ≤ x ∧ x ≤ b))) ∧ M' = M) := by
  refine z_met (by decide) rfl (Nat.le_of_ble_eq_true rfl) (fun X hc he => ?_)
  show zJW X 0 [(0, zI x), (1, zI a), (2, zI b)] [] M
  refine z_ild (pc := 0) hc 0 rfl dX6_in_0 ?_
  refine z_ild (pc := 1) hc 1 rfl dX6_in_1 ?_
  refine z_clt (pc := 2) (tgt := 14) hc (by omega) (by decide) dX6_in_2 (fun h2 => ?_) (fun h2 => ?_)
  · show zJW X 14 [(0, zI x), (1, zI a), (2, zI b)] [] M
    refine z_iconst (pc := 14) hc 0 dX6_in_14 ?_
    exact z_bret (pc := 15) (a := false) hc he rfl dX6_in_15 (by refine ⟨?_, rfl⟩; simp [zbz]; omega)
  · show zJW X 5 [(0, zI x), (1, zI a), (2, zI b)] [] M
    refine z_ild (pc := 5) hc 0 rfl dX6_in_5 ?_
    refine z_ild (pc := 6) hc 2 rfl dX6_in_6 ?_
    refine z_cgt (pc := 7) (tgt := 14) hc (by omega) (by decide) dX6_in_7 (fun h7 => ?_) (fun h7 => ?_)
    · show zJW X 14 [(0, zI x), (1, zI a), (2, zI b)] [] M
      refine z_iconst (pc := 14) hc 0 dX6_in_14 ?_
      exact z_bret (pc := 15) (a := false) hc he rfl dX6_in_15 (by refine ⟨?_, rfl⟩; simp [zbz]; omega)
    · show zJW X 10 [(0, zI x), (1, zI a), (2, zI b)] [] M
      refine z_iconst (pc := 10) hc 1 dX6_in_10 ?_
      refine z_goto (pc := 11) (tgt := 15) hc (by decide) dX6_in_11 ?_
      exact z_bret (pc := 15) (a := true) hc he rfl dX6_in_15 (by refine ⟨?_, rfl⟩; simp [zbz]; omega)
end
section
/-! ===== what a map is, apart from any machine: rows, columns, whether land is outside, land by place, pins by place (-1: none) ===== -/
abbrev TS : Type := Int × Int × Bool × (Int → Int → Bool) × (Int → Int → Int)
def tH (t : TS) : Int := t.1
def tW (t : TS) : Int := t.2.1
def tO (t : TS) : Bool := t.2.2.1
def inT (t : TS) (r c : Int) : Bool := decide (0 ≤ r ∧ r < tH t ∧ 0 ≤ c ∧ c < tW t)
def laT (t : TS) (r c : Int) : Bool := if inT t r c then t.2.2.2.1 r c else tO t
def piT (t : TS) (r c : Int) : Int := if inT t r c then t.2.2.2.2 r c else -1
/-- State k of the class's memory -/
def tsX (M : Mem) (k : Nat) : TS := (M k 0, M k 1, decide (M k 2 = 1), fun r c => decide (0 ≤ r ∧ r < M k 0 ∧ 0 ≤ c ∧ c < M k 1) && decide (M (k + 9) (r * 12 + c) = 1), fun r c => if 0 ≤ r ∧ r < M k 0 ∧ 0 ≤ c ∧ c < M k 1 then M (k + 18) (r * 12 + c) else -1)
/-- 291 numbers of the reference -/
def tsZ (f : Int → Int) : TS := (f 0, f 1, decide (f 2 = 1), fun r c => decide (0 ≤ r ∧ r < f 0 ∧ 0 ≤ c ∧ c < f 1) && decide (f (3 + (f 1 * r + c)) = 1), fun r c => if 0 ≤ r ∧ r < f 0 ∧ 0 ≤ c ∧ c < f 1 then (if f (147 + (f 1 * r + c)) = -6 then -1 else f (147 + (f 1 * r + c))) else -1)
/-- what may lie in a State's cells -/
def zSk (M : Mem) (k : Nat) : Prop := 1 ≤ M k 0 ∧ M k 0 ≤ 12 ∧ 1 ≤ M k 1 ∧ M k 1 ≤ 12 ∧ (M k 2 = 0 ∨ M k 2 = 1) ∧ (∀ i : Int, 0 ≤ i → i < 144 → M (k + 9) i = 0 ∨ M (k + 9) i = 1) ∧ (∀ i : Int, 0 ≤ i → i < 144 → -1 ≤ M (k + 18) i ∧ M (k + 18) i < 47)
theorem inT_X {M : Mem} {k : Nat} {r c : Int} : inT (tsX M k) r c = decide (0 ≤ r ∧ r < M k 0 ∧ 0 ≤ c ∧ c < M k 1) := rfl
theorem laT_X {M : Mem} {k : Nat} {r c : Int} : laT (tsX M k) r c = if 0 ≤ r ∧ r < M k 0 ∧ 0 ≤ c ∧ c < M k 1 then decide (M (k + 9) (r * 12 + c) = 1) else decide (M k 2 = 1) := by
  by_cases h : 0 ≤ r ∧ r < M k 0 ∧ 0 ≤ c ∧ c < M k 1
  · have hi : inT (tsX M k) r c = true := by rw [inT_X]; exact decide_eq_true h
    unfold laT
    rw [hi, if_pos rfl, if_pos h]
    show (decide (0 ≤ r ∧ r < M k 0 ∧ 0 ≤ c ∧ c < M k 1) && decide (M (k + 9) (r * 12 + c) = 1)) = _
    rw [decide_eq_true h, Bool.true_and]
  · have hi : inT (tsX M k) r c = false := by rw [inT_X]; exact decide_eq_false h
    unfold laT
    rw [hi, if_neg h]
    rfl
theorem piT_X {M : Mem} {k : Nat} {r c : Int} : piT (tsX M k) r c = if 0 ≤ r ∧ r < M k 0 ∧ 0 ≤ c ∧ c < M k 1 then M (k + 18) (r * 12 + c) else -1 := by
  by_cases h : 0 ≤ r ∧ r < M k 0 ∧ 0 ≤ c ∧ c < M k 1
  · have hi : inT (tsX M k) r c = true := by rw [inT_X]; exact decide_eq_true h
    unfold piT
    rw [hi, if_pos rfl]
    rfl
  · have hi : inT (tsX M k) r c = false := by rw [inT_X]; exact decide_eq_false h
    unfold piT
    rw [hi, if_neg h]
    rfl
theorem piT_bd {M : Mem} {k : Nat} (h : zSk M k) (r c : Int) : -1 ≤ piT (tsX M k) r c ∧ piT (tsX M k) r c < 47 := by
  obtain ⟨h1, h2, h3, h4, h5, h6, h7⟩ := h
  rw [piT_X]
  split
  · exact h7 _ (by omega) (by omega)
  · omega
theorem zbz_ne {a b : Bool} : zbz a ≠ zbz b ↔ a ≠ b := by cases a <;> cases b <;> decide
theorem zbz_eq {a b : Bool} : zbz a = zbz b ↔ a = b := by cases a <;> cases b <;> decide
def putK (M : Mem) (k : Nat) (r c : Int) (b : Bool) : Mem := if inT (tsX M k) r c = true ∧ laT (tsX M k) r c ≠ b then zup (zup M (k + 9) (r * 12 + c) (zbz b)) (k + 18) (r * 12 + c) (-1) else M
def putP (M : Mem) (k : Nat) (r c s : Int) : Mem := if inT (tsX M k) r c then zup M (k + 18) (r * 12 + c) s else M
def watM (M : Mem) (k : Nat) (h w : Int) (n : Int) : Mem := fun k' z => if k' = k ∧ z = 0 then h else if k' = k ∧ z = 1 then w else if k' = k + 9 ∧ 0 ≤ z ∧ z < n then 0 else if k' = k + 18 ∧ 0 ≤ z ∧ z < n then -1 else M k' z
def copM (M : Mem) (k j : Nat) (n : Int) : Mem := fun k' z => if k' = k ∧ 0 ≤ z ∧ z < 3 then M j z else if k' = k + 9 ∧ 0 ≤ z ∧ z < n then M (j + 9) z else if k' = k + 18 ∧ 0 ≤ z ∧ z < n then M (j + 18) z else M k' z
theorem zbz_of {x : Int} (h : x = 0 ∨ x = 1) : x = zbz (decide (x = 1)) := by rcases h with rfl | rfl <;> rfl
theorem zrow_bd (d : Int) : -1 ≤ zrow d ∧ zrow d ≤ 1 := by unfold zrow; omega
theorem zcol_bd (d : Int) : -1 ≤ zcol d ∧ zcol d ≤ 1 := by unfold zcol; omega
/-- masks out of eight answers -/
def zmk (f : Nat → Bool) : Nat → Int
  | 0 => 0
  | d + 1 => zmk f d + (if f d then 2 ^ d else 0)
theorem zmk_bd (f : Nat → Bool) : ∀ n, 0 ≤ zmk f n ∧ zmk f n < 2 ^ n
  | 0 => ⟨Int.le_refl _, by show (0 : Int) < 2 ^ 0; decide⟩
  | n + 1 => by
    have h := zmk_bd f n
    have e : (2 : Int) ^ (n + 1) = 2 ^ n * 2 := Int.pow_succ 2 n
    show 0 ≤ zmk f n + (if f n then 2 ^ n else 0) ∧ zmk f n + (if f n then 2 ^ n else 0) < 2 ^ (n + 1)
    rw [e]
    split <;> omega
theorem zmk_congr {f g : Nat → Bool} : ∀ {n : Nat}, (∀ d, d < n → f d = g d) → zmk f n = zmk g n
  | 0, _ => rfl
  | n + 1, h => by
    show zmk f n + (if f n then 2 ^ n else 0) = zmk g n + (if g n then 2 ^ n else 0)
    rw [zmk_congr (fun d hd => h d (Nat.lt_succ_of_lt hd)), h n (Nat.lt_succ_self n)]
def afT (t : TS) (r c : Int) : Nat → Bool := fun d => laT t (r + zrow d) (c + zcol d)
def ofT (t : TS) (r c : Int) : Nat → Bool := fun d => !inT t (r + zrow d) (c + zcol d)
def arT (t : TS) (r c : Int) : Int := zmk (afT t r c) 8
def obT (t : TS) (r c : Int) : Int := zmk (ofT t r c) 8
theorem zor_step : ∀ d : Nat, d < 8 → ∀ m : Nat, m < 2 ^ d → zor (m : Int) (zsl 1 d) = (m : Int) + 2 ^ d := by decide +kernel
theorem zmk_or {f : Nat → Bool} {d : Nat} (hd : d < 8) (h : f d = true) : zor (zmk f d) (zsl 1 d) = zmk f (d + 1) := by
  obtain ⟨h1, h2⟩ := zmk_bd f d
  obtain ⟨m, hm⟩ := Int.eq_ofNat_of_zero_le h1
  have h3 : m < 2 ^ d := by
    have e : ((2 ^ d : Nat) : Int) = (2 : Int) ^ d := by simp
    omega
  show _ = zmk f d + (if f d then 2 ^ d else 0)
  rw [if_pos h, hm]
  exact zor_step d hd m h3
theorem zmk_no {f : Nat → Bool} {d : Nat} (h : f d = false) : zmk f d = zmk f (d + 1) := by
  show _ = zmk f d + (if f d then 2 ^ d else 0)
  rw [h]
  simp
-- shapes
def rtZ (m e : Int) : Int := zan (zor (zsl m e) (zsr m (8 - e))) 255
def btZ (m : Int) : Int := zor 85 (zan (rtZ (zan m 85) 1) (rtZ (zan m 85) 7))
def rdZ (m : Int) : Int := zan m (btZ m)
def zregs : List Int := ((List.range 256).map fun m : Nat => (m : Int)).filter fun m => decide (rdZ m = m)
def mkZ (s : Int) : Int := zregs.getD s.toNat 0
def shZ (m : Int) : Int := if m ∈ zregs then (zregs.idxOf m : Int) else -6
def bcZ (x : Int) : Int := zrep (fun d n => n + zan (zsr x d) 1) 8 0
def tuZ (s q : Int) : Int := shZ (rtZ (mkZ s) (2 * q))
/-- the shape of a tile by its eight neighbours, its shape, its faults -/
def rmT (t : TS) (r c : Int) : Int := rdZ (arT t r c)
def rsT (t : TS) (r c : Int) : Int := shZ (rmT t r c)
def saT (t : TS) (r c : Int) : Int := if laT t r c then (if piT t r c ≠ -1 then piT t r c else rsT t r c) else -6
def faT (t : TS) (r c : Int) : Int := if piT t r c ≠ -1 then bcZ (zxr (mkZ (piT t r c)) (rmT t r c)) else 0
theorem arT_bd (t : TS) (r c : Int) : 0 ≤ arT t r c ∧ arT t r c < 256 := zmk_bd _ 8
theorem obT_bd (t : TS) (r c : Int) : 0 ≤ obT t r c ∧ obT t r c < 256 := zmk_bd _ 8
theorem z256 {P : Int → Prop} (h : ∀ n : Nat, n < 256 → P (n : Int)) {m : Int} (hm : 0 ≤ m ∧ m < 256) : P m := by
  obtain ⟨n, rfl⟩ := Int.eq_ofNat_of_zero_le hm.1
  exact h n (by omega)
theorem zregs_eq : zregs.length = 47 := by decide +kernel
theorem rdZ_bd0 : ∀ n : Nat, n < 256 → 0 ≤ rdZ (n : Int) ∧ rdZ (n : Int) < 256 ∧ 0 ≤ btZ (n : Int) ∧ btZ (n : Int) < 256 ∧ rdZ (rdZ n) = rdZ n ∧ 0 ≤ shZ (rdZ n) ∧ shZ (rdZ n) < 47 ∧ mkZ (shZ (rdZ n)) = rdZ n ∧ -6 ≤ shZ n ∧ shZ n < 47 ∧ 0 ≤ bcZ n ∧ bcZ n ≤ 8 := by decide +kernel
theorem rdZ_bd {m : Int} (hm : 0 ≤ m ∧ m < 256) : 0 ≤ rdZ m ∧ rdZ m < 256 ∧ 0 ≤ btZ m ∧ btZ m < 256 ∧ rdZ (rdZ m) = rdZ m ∧ 0 ≤ shZ (rdZ m) ∧ shZ (rdZ m) < 47 ∧ mkZ (shZ (rdZ m)) = rdZ m ∧ -6 ≤ shZ m ∧ shZ m < 47 ∧ 0 ≤ bcZ m ∧ bcZ m ≤ 8 :=
  z256 (P := fun n => 0 ≤ rdZ n ∧ rdZ n < 256 ∧ 0 ≤ btZ n ∧ btZ n < 256 ∧ rdZ (rdZ n) = rdZ n ∧ 0 ≤ shZ (rdZ n) ∧ shZ (rdZ n) < 47 ∧ mkZ (shZ (rdZ n)) = rdZ n ∧ -6 ≤ shZ n ∧ shZ n < 47 ∧ 0 ≤ bcZ n ∧ bcZ n ≤ 8) rdZ_bd0 hm
theorem mkZ_bd0 : ∀ n : Nat, n < 47 → 0 ≤ mkZ (n : Int) ∧ mkZ (n : Int) < 256 ∧ rdZ (mkZ n) = mkZ n ∧ shZ (mkZ n) = n := by decide +kernel
theorem mkZ_bd {s : Int} (hs : 0 ≤ s ∧ s < 47) : 0 ≤ mkZ s ∧ mkZ s < 256 ∧ rdZ (mkZ s) = mkZ s ∧ shZ (mkZ s) = s := by
  obtain ⟨n, rfl⟩ := Int.eq_ofNat_of_zero_le hs.1
  exact mkZ_bd0 n (by omega)
/-- row by row -/
def z2 {α : Type} (t : TS) (f : Int → Int → α → α) (a : α) : α := zrep (fun r x => zrep (fun c y => f r c y) (tW t).toNat x) (tH t).toNat a
theorem z2_flat {α : Type} (t : TS) (f : Int → Int → α → α) (a : α) (hh : 0 ≤ tH t) (hw : 1 ≤ tW t) : zrep (fun (k : Nat) x => f ((k : Int) / tW t) ((k : Int) % tW t) x) (tH t * tW t).toNat a = z2 t f a := by
  obtain ⟨h, eh⟩ := Int.eq_ofNat_of_zero_le hh
  obtain ⟨w, ew⟩ := Int.eq_ofNat_of_zero_le (by omega : 0 ≤ tW t)
  unfold z2
  rw [eh, ew]
  have e1 : ((h : Int) * (w : Int)).toNat = h * w := by
    rw [← Int.natCast_mul, Int.toNat_natCast]
  rw [e1, Int.toNat_natCast, Int.toNat_natCast]
  exact (zrep_flat (fun r c x => f (r : Int) (c : Int) x) w (by omega) a h).symm
def lnT (t : TS) : Int := z2 t (fun r c n => n + zbz (laT t r c)) 0
theorem watM_0 {M : Mem} {k : Nat} {h w : Int} : zup (zup M k 0 h) k 1 w = watM M k h w 0 := by
  funext k' z'
  simp only [watM, zup]
  grind (splits := 30)
theorem watM_s {M : Mem} {k : Nat} {h w : Int} (n : Nat) : zup (zup (watM M k h w n) (k + 9) n 0) (k + 18) n (-1) = watM M k h w ((n + 1 : Nat) : Int) := by
  funext k' z'
  simp only [watM, zup]
  grind (splits := 30)
theorem copM_0 {M : Mem} {k j : Nat} : zup (zup (zup M k 0 (M j 0)) k 1 (M j 1)) k 2 (M j 2) = copM M k j 0 := by
  funext k' z'
  simp only [copM, zup]
  grind (splits := 30)
theorem copM_s {M : Mem} {k j : Nat} (n : Nat) : zup (zup (copM M k j n) (k + 9) n (M (j + 9) n)) (k + 18) n (M (j + 18) n) = copM M k j ((n + 1 : Nat) : Int) := by
  funext k' z'
  simp only [copM, zup]
  grind (splits := 30)
theorem copM_off {M : Mem} {k j : Nat} {n z : Int} {i : Nat} (h1 : i ≠ k) (h2 : i ≠ k + 9) (h3 : i ≠ k + 18) : copM M k j n i z = M i z := by simp [copM, h1, h2, h3]
end
section
set_option maxRecDepth 100000 in
set_option maxHeartbeats 4000000 in
theorem ct_X3_has (M : Mem) (k : Nat) (hk : k < 9) (hS : zSk M k) (r c : Int) (hb_r : -2147483648 ≤ r ∧ r < 2147483648) (hb_c : -2147483648 ≤ c ∧ c < 2147483648)  : zCt yX3_has KX3_has [zR k, zI r, zI c] M (fun v M' => v = some (zbz (inT (tsX M k) r c)) ∧ M' = M) := by
  obtain ⟨hs1, hs2, hs3, hs4, hs5, hs6⟩ := id hS
  refine z_met (by decide) rfl (Nat.le_of_ble_eq_true rfl) (fun X hc he => ?_)
  show zJW X 0 [(0, zR k), (1, zI r), (2, zI c)] [] M
  refine z_ild (pc := 0) hc 1 rfl dX3_has_0 ?_
  refine z_ald (pc := 1) hc 0 rfl dX3_has_1 ?_
  refine fg_X3_9 (pc := 2) hc rfl (decide_eq_true (by omega)) (by omega) dX3_has_2 ?_
  refine kc_X3_36 (pc := 5) hc rfl (zfit0 (by decide) rfl rfl) (Nat.le_of_ble_eq_true rfl) (ct_X5_isLineOf M r (M k 0) (by omega) (by omega)) dX3_has_5 ?_
  refine z_beq (pc := 8) (tgt := 26) hc (by decide) dX3_has_8 (fun h8 => ?_) (fun h8 => ?_)
  · show zJW X 26 [(0, zR k), (1, zI r), (2, zI c)] [] M
    refine z_iconst (pc := 26) hc 0 dX3_has_26 ?_
    exact z_bret (pc := 27) (a := false) hc he rfl dX3_has_27 (by refine ⟨?_, rfl⟩; rw [inT_X]; congr 2; try simp only [decide_eq_true_eq, decide_eq_false_iff_not] at h8; (first | exact (decide_eq_true (by omega)).symm | exact (decide_eq_false (by omega)).symm))
  · show zJW X 11 [(0, zR k), (1, zI r), (2, zI c)] [] M
    refine z_ild (pc := 11) hc 2 rfl dX3_has_11 ?_
    refine z_ald (pc := 12) hc 0 rfl dX3_has_12 ?_
    refine fg_X3_15 (pc := 13) hc rfl (decide_eq_true (by omega)) (by omega) dX3_has_13 ?_
    refine kc_X3_36 (pc := 16) hc rfl (zfit0 (by decide) rfl rfl) (Nat.le_of_ble_eq_true rfl) (ct_X5_isLineOf M c (M k 1) (by omega) (by omega)) dX3_has_16 ?_
    refine z_beq (pc := 19) (tgt := 26) hc (by decide) dX3_has_19 (fun h19 => ?_) (fun h19 => ?_)
    · show zJW X 26 [(0, zR k), (1, zI r), (2, zI c)] [] M
      refine z_iconst (pc := 26) hc 0 dX3_has_26 ?_
      exact z_bret (pc := 27) (a := false) hc he rfl dX3_has_27 (by refine ⟨?_, rfl⟩; rw [inT_X]; congr 2; try simp only [decide_eq_true_eq, decide_eq_false_iff_not] at h8 h19; (first | exact (decide_eq_true (by omega)).symm | exact (decide_eq_false (by omega)).symm))
    · show zJW X 22 [(0, zR k), (1, zI r), (2, zI c)] [] M
      refine z_iconst (pc := 22) hc 1 dX3_has_22 ?_
      refine z_goto (pc := 23) (tgt := 27) hc (by decide) dX3_has_23 ?_
      exact z_bret (pc := 27) (a := true) hc he rfl dX3_has_27 (by refine ⟨?_, rfl⟩; rw [inT_X]; congr 2; try simp only [decide_eq_true_eq, decide_eq_false_iff_not] at h8 h19; (first | exact (decide_eq_true (by omega)).symm | exact (decide_eq_false (by omega)).symm))

set_option maxRecDepth 100000 in
set_option maxHeartbeats 4000000 in
theorem ct_X3_isLandAt (M : Mem) (k : Nat) (hk : k < 9) (hS : zSk M k) (r c : Int) (hb_r : -2147483648 ≤ r ∧ r < 2147483648) (hb_c : -2147483648 ≤ c ∧ c < 2147483648)  : zCt yX3_isLandAt KX3_isLandAt [zR k, zI r, zI c] M (fun v M' => v = some (zbz (laT (tsX M k) r c)) ∧ M' = M) := by
  obtain ⟨hs1, hs2, hs3, hs4, hs5, hs6, hs7⟩ := id hS
  refine z_met (by decide) rfl (Nat.le_of_ble_eq_true rfl) (fun X hc he => ?_)
  show zJW X 0 [(0, zR k), (1, zI r), (2, zI c)] [] M
  refine z_ald (pc := 0) hc 0 rfl dX3_isLandAt_0 ?_
  refine z_ild (pc := 1) hc 1 rfl dX3_isLandAt_1 ?_
  refine z_ild (pc := 2) hc 2 rfl dX3_isLandAt_2 ?_
  refine kc_X3_40 (pc := 3) hc rfl (zfitX (by decide) rfl rfl) (decide_eq_true (by omega)) (by omega) (Nat.le_of_ble_eq_true rfl) (ct_X3_has M k (by omega) (by first | assumption ) r c (by omega) (by omega)) dX3_isLandAt_3 ?_
  refine z_beq (pc := 6) (tgt := 23) hc (by decide) dX3_isLandAt_6 (fun h6 => ?_) (fun h6 => ?_)
  · show zJW X 23 [(0, zR k), (1, zI r), (2, zI c)] [] M
    rw [inT_X] at h6
    have h6 := of_decide_eq_false h6
    refine z_ald (pc := 23) hc 0 rfl dX3_isLandAt_23 ?_
    refine fg_X3_18 (pc := 24) hc rfl (decide_eq_true (by omega)) (by omega) dX3_isLandAt_24 ?_
    refine zJW_eq (st' := [zI (zbz (decide ((M k 2) = 1)))]) rfl (congrArg (fun q => [zI q]) (zbz_of (by first | exact hs5 | exact hs6 _ (by omega) (by omega)))) rfl ?_
    exact z_bret (pc := 27) (a := (decide ((M k 2) = 1))) hc he rfl dX3_isLandAt_27 (by refine ⟨?_, rfl⟩; rw [laT_X]; congr 2; (first | rw [if_pos h6] | rw [if_neg h6]))
  · show zJW X 9 [(0, zR k), (1, zI r), (2, zI c)] [] M
    rw [inT_X] at h6
    have h6 := of_decide_eq_true h6
    refine z_ald (pc := 9) hc 0 rfl dX3_isLandAt_9 ?_
    refine fg_X3_22 (pc := 10) hc rfl (decide_eq_true (by omega)) (by omega) dX3_isLandAt_10 ?_
    refine z_ild (pc := 13) hc 1 rfl dX3_isLandAt_13 ?_
    refine z_bipush (pc := 14) hc 12 (by decide) dX3_isLandAt_14 ?_
    refine z_imul (pc := 16) hc dX3_isLandAt_16 ?_
    refine z_ild (pc := 17) hc 2 rfl dX3_isLandAt_17 ?_
    refine z_iadd (pc := 18) hc dX3_isLandAt_18 ?_
    refine z_zald (pc := 19) hc (decide_eq_true (by omega)) (ztm_la (by omega)) (zar_la (by omega)) (by decide) (by omega) dX3_isLandAt_19 ?_
    refine z_goto (pc := 20) (tgt := 27) hc (by decide) dX3_isLandAt_20 ?_
    refine zJW_eq (st' := [zI (zbz (decide ((M (k + 9) ((r * 12) + c)) = 1)))]) rfl (congrArg (fun q => [zI q]) (zbz_of (by first | exact hs5 | exact hs6 _ (by omega) (by omega)))) rfl ?_
    exact z_bret (pc := 27) (a := (decide ((M (k + 9) ((r * 12) + c)) = 1))) hc he rfl dX3_isLandAt_27 (by refine ⟨?_, rfl⟩; rw [laT_X]; congr 2; (first | rw [if_pos h6] | rw [if_neg h6]))

set_option maxRecDepth 100000 in
set_option maxHeartbeats 4000000 in
theorem ct_X3_pinAt (M : Mem) (k : Nat) (hk : k < 9) (hS : zSk M k) (r c : Int) (hb_r : -2147483648 ≤ r ∧ r < 2147483648) (hb_c : -2147483648 ≤ c ∧ c < 2147483648)  : zCt yX3_pinAt KX3_pinAt [zR k, zI r, zI c] M (fun v M' => v = some (piT (tsX M k) r c) ∧ M' = M) := by
  obtain ⟨hs1, hs2, hs3, hs4, hs5, hs6, hs7⟩ := id hS
  refine z_met (by decide) rfl (Nat.le_of_ble_eq_true rfl) (fun X hc he => ?_)
  show zJW X 0 [(0, zR k), (1, zI r), (2, zI c)] [] M
  refine z_ald (pc := 0) hc 0 rfl dX3_pinAt_0 ?_
  refine z_ild (pc := 1) hc 1 rfl dX3_pinAt_1 ?_
  refine z_ild (pc := 2) hc 2 rfl dX3_pinAt_2 ?_
  refine kc_X3_40 (pc := 3) hc rfl (zfitX (by decide) rfl rfl) (decide_eq_true (by omega)) (by omega) (Nat.le_of_ble_eq_true rfl) (ct_X3_has M k (by omega) (by first | assumption ) r c (by omega) (by omega)) dX3_pinAt_3 ?_
  refine z_beq (pc := 6) (tgt := 23) hc (by decide) dX3_pinAt_6 (fun h6 => ?_) (fun h6 => ?_)
  · show zJW X 23 [(0, zR k), (1, zI r), (2, zI c)] [] M
    rw [inT_X] at h6
    have h6 := of_decide_eq_false h6
    refine z_iconst (pc := 23) hc (-1) dX3_pinAt_23 ?_
    exact z_iret (pc := 24) hc he rfl dX3_pinAt_24 (by refine ⟨?_, rfl⟩; rw [piT_X]; (first | rw [if_pos h6] | rw [if_neg h6]))
  · show zJW X 9 [(0, zR k), (1, zI r), (2, zI c)] [] M
    rw [inT_X] at h6
    have h6 := of_decide_eq_true h6
    refine z_ald (pc := 9) hc 0 rfl dX3_pinAt_9 ?_
    refine fg_X3_26 (pc := 10) hc rfl (decide_eq_true (by omega)) (by omega) dX3_pinAt_10 ?_
    refine z_ild (pc := 13) hc 1 rfl dX3_pinAt_13 ?_
    refine z_bipush (pc := 14) hc 12 (by decide) dX3_pinAt_14 ?_
    refine z_imul (pc := 16) hc dX3_pinAt_16 ?_
    refine z_ild (pc := 17) hc 2 rfl dX3_pinAt_17 ?_
    refine z_iadd (pc := 18) hc dX3_pinAt_18 ?_
    refine z_iald (pc := 19) hc (decide_eq_true (by omega)) (ztm_pi (by omega)) (zar_pi (by omega)) (by decide) (by omega) dX3_pinAt_19 ?_
    refine z_goto (pc := 20) (tgt := 24) hc (by decide) dX3_pinAt_20 ?_
    exact z_iret (pc := 24) hc he rfl dX3_pinAt_24 (by refine ⟨?_, rfl⟩; rw [piT_X]; (first | rw [if_pos h6] | rw [if_neg h6]))

set_option maxRecDepth 100000 in
set_option maxHeartbeats 4000000 in
theorem ct_X3_isPinnedAt (M : Mem) (k : Nat) (hk : k < 9) (hS : zSk M k) (r c : Int) (hb_r : -2147483648 ≤ r ∧ r < 2147483648) (hb_c : -2147483648 ≤ c ∧ c < 2147483648)  : zCt yX3_isPinnedAt KX3_isPinnedAt [zR k, zI r, zI c] M (fun v M' => v = some (zbz (decide (piT (tsX M k) r c ≠ -1))) ∧ M' = M) := by
  obtain ⟨hs1, hs2, hs3, hs4, hs5, hs6, hs7⟩ := id hS
  refine z_met (by decide) rfl (Nat.le_of_ble_eq_true rfl) (fun X hc he => ?_)
  show zJW X 0 [(0, zR k), (1, zI r), (2, zI c)] [] M
  refine z_ald (pc := 0) hc 0 rfl dX3_isPinnedAt_0 ?_
  refine z_ild (pc := 1) hc 1 rfl dX3_isPinnedAt_1 ?_
  refine z_ild (pc := 2) hc 2 rfl dX3_isPinnedAt_2 ?_
  refine kc_X3_43 (pc := 3) hc rfl (zfitX (by decide) rfl rfl) (decide_eq_true (by omega)) (by omega) (Nat.le_of_ble_eq_true rfl) (ct_X3_pinAt M k (by omega) (by first | assumption ) r c (by omega) (by omega)) dX3_isPinnedAt_3 ?_
  refine z_iconst (pc := 6) hc (-1) dX3_isPinnedAt_6 ?_
  refine z_ceq (pc := 7) (tgt := 14) hc (by have := piT_bd hS r c; omega) (by decide) dX3_isPinnedAt_7 (fun h7 => ?_) (fun h7 => ?_)
  · show zJW X 14 [(0, zR k), (1, zI r), (2, zI c)] [] M
    refine z_iconst (pc := 14) hc 0 dX3_isPinnedAt_14 ?_
    exact z_bret (pc := 15) (a := false) hc he rfl dX3_isPinnedAt_15 (by refine ⟨?_, rfl⟩; congr 2; (first | exact (decide_eq_true (by omega)).symm | exact (decide_eq_false (by omega)).symm))
  · show zJW X 10 [(0, zR k), (1, zI r), (2, zI c)] [] M
    refine z_iconst (pc := 10) hc 1 dX3_isPinnedAt_10 ?_
    refine z_goto (pc := 11) (tgt := 15) hc (by decide) dX3_isPinnedAt_11 ?_
    exact z_bret (pc := 15) (a := true) hc he rfl dX3_isPinnedAt_15 (by refine ⟨?_, rfl⟩; congr 2; (first | exact (decide_eq_true (by omega)).symm | exact (decide_eq_false (by omega)).symm))

set_option maxRecDepth 100000 in
set_option maxHeartbeats 4000000 in
theorem ct_X3_putKind (M : Mem) (k : Nat) (hk : k < 9) (hS : zSk M k) (r c : Int) (hb_r : -2147483648 ≤ r ∧ r < 2147483648) (hb_c : -2147483648 ≤ c ∧ c < 2147483648) (b : Bool) : zCt yX3_putKind KX3_putKind [zR k, zI r, zI c, zI (zbz b)] M (fun v M' => v = some (zbz (inT (tsX M k) r c && (laT (tsX M k) r c != b))) ∧ M' = putK M k r c b) := by
  obtain ⟨hs1, hs2, hs3, hs4, hs5, hs6, hs7⟩ := id hS
  refine z_met (by decide) rfl (Nat.le_of_ble_eq_true rfl) (fun X hc he => ?_)
  show zJW X 0 [(0, zR k), (1, zI r), (2, zI c), (3, zI (zbz b))] [] M
  refine z_ald (pc := 0) hc 0 rfl dX3_putKind_0 ?_
  refine z_ild (pc := 1) hc 1 rfl dX3_putKind_1 ?_
  refine z_ild (pc := 2) hc 2 rfl dX3_putKind_2 ?_
  refine kc_X3_40 (pc := 3) hc rfl (zfitX (by decide) rfl rfl) (decide_eq_true (by omega)) (by omega) (Nat.le_of_ble_eq_true rfl) (ct_X3_has M k (by omega) (by first | assumption ) r c (by omega) (by omega)) dX3_putKind_3 ?_
  refine z_beq (pc := 6) (tgt := 19) hc (by decide) dX3_putKind_6 (fun h6 => ?_) (fun h6 => ?_)
  · show zJW X 19 [(0, zR k), (1, zI r), (2, zI c), (3, zI (zbz b))] [] M
    refine z_iconst (pc := 19) hc 0 dX3_putKind_19 ?_
    exact z_bret (pc := 20) (a := false) hc he rfl dX3_putKind_20 (by first | (refine ⟨by rw [h6]; rfl, ?_⟩; rw [putK, if_neg (by rw [h6]; exact fun h => absurd h.1 (by decide))]) | (have h16 := zbz_eq.mp h16; refine ⟨by rw [h16]; simp, ?_⟩; rw [putK, if_neg (fun h => h.2 h16)]))
  · show zJW X 9 [(0, zR k), (1, zI r), (2, zI c), (3, zI (zbz b))] [] M
    refine z_ald (pc := 9) hc 0 rfl dX3_putKind_9 ?_
    refine z_ild (pc := 10) hc 1 rfl dX3_putKind_10 ?_
    refine z_ild (pc := 11) hc 2 rfl dX3_putKind_11 ?_
    refine kc_X3_47 (pc := 12) hc rfl (zfitX (by decide) rfl rfl) (decide_eq_true (by omega)) (by omega) (Nat.le_of_ble_eq_true rfl) (ct_X3_isLandAt M k (by omega) (by first | assumption ) r c (by omega) (by omega)) dX3_putKind_12 ?_
    refine z_ild (pc := 15) hc 3 rfl dX3_putKind_15 ?_
    refine z_cne (pc := 16) (tgt := 21) hc (by have := zbz_bd (laT (tsX M k) r c); have := zbz_bd b; omega) (by decide) dX3_putKind_16 (fun h16 => ?_) (fun h16 => ?_)
    · show zJW X 21 [(0, zR k), (1, zI r), (2, zI c), (3, zI (zbz b))] [] M
      have h6' := h6
      rw [inT_X] at h6'
      have h6' := of_decide_eq_true h6'
      have h16 := zbz_ne.mp h16
      refine z_ald (pc := 21) hc 0 rfl dX3_putKind_21 ?_
      refine fg_X3_22 (pc := 22) hc rfl (decide_eq_true (by omega)) (by omega) dX3_putKind_22 ?_
      refine z_ild (pc := 25) hc 1 rfl dX3_putKind_25 ?_
      refine z_bipush (pc := 26) hc 12 (by decide) dX3_putKind_26 ?_
      refine z_imul (pc := 28) hc dX3_putKind_28 ?_
      refine z_ild (pc := 29) hc 2 rfl dX3_putKind_29 ?_
      refine z_iadd (pc := 30) hc dX3_putKind_30 ?_
      refine z_ild (pc := 31) hc 3 rfl dX3_putKind_31 ?_
      refine z_zast (pc := 32) (v := zbz b) hc (zbz_nar b) (decide_eq_true (by omega)) (ztm_la (by omega)) (zar_la (by omega)) (by decide) (by omega) dX3_putKind_32 ?_
      refine z_ald (pc := 33) hc 0 rfl dX3_putKind_33 ?_
      refine fg_X3_26 (pc := 34) hc rfl (decide_eq_true (by omega)) (by omega) dX3_putKind_34 ?_
      refine z_ild (pc := 37) hc 1 rfl dX3_putKind_37 ?_
      refine z_bipush (pc := 38) hc 12 (by decide) dX3_putKind_38 ?_
      refine z_imul (pc := 40) hc dX3_putKind_40 ?_
      refine z_ild (pc := 41) hc 2 rfl dX3_putKind_41 ?_
      refine z_iadd (pc := 42) hc dX3_putKind_42 ?_
      refine z_iconst (pc := 43) hc (-1) dX3_putKind_43 ?_
      refine z_iast (pc := 44) hc (decide_eq_true (by omega)) (ztm_pi (by omega)) (zar_pi (by omega)) (by decide) (by omega) dX3_putKind_44 ?_
      refine z_iconst (pc := 45) hc 1 dX3_putKind_45 ?_
      exact z_bret (pc := 46) (a := true) hc he rfl dX3_putKind_46 (by refine ⟨by rw [h6, show (laT (tsX M k) r c != b) = true from bne_iff_ne.mpr h16]; rfl, ?_⟩; rw [putK, if_pos ⟨h6, h16⟩])
    · show zJW X 19 [(0, zR k), (1, zI r), (2, zI c), (3, zI (zbz b))] [] M
      refine z_iconst (pc := 19) hc 0 dX3_putKind_19 ?_
      exact z_bret (pc := 20) (a := false) hc he rfl dX3_putKind_20 (by first | (refine ⟨by rw [h6]; rfl, ?_⟩; rw [putK, if_neg (by rw [h6]; exact fun h => absurd h.1 (by decide))]) | (have h16 := zbz_eq.mp h16; refine ⟨by rw [h16]; simp, ?_⟩; rw [putK, if_neg (fun h => h.2 h16)]))

set_option maxRecDepth 100000 in
set_option maxHeartbeats 4000000 in
theorem ct_X3_putPin (M : Mem) (k : Nat) (hk : k < 9) (hS : zSk M k) (r c : Int) (hb_r : -2147483648 ≤ r ∧ r < 2147483648) (hb_c : -2147483648 ≤ c ∧ c < 2147483648) (x : Int) : zCt yX3_putPin KX3_putPin [zR k, zI r, zI c, zI x] M (fun v M' => v = none ∧ M' = putP M k r c x) := by
  obtain ⟨hs1, hs2, hs3, hs4, hs5, hs6, hs7⟩ := id hS
  refine z_met (by decide) rfl (Nat.le_of_ble_eq_true rfl) (fun X hc he => ?_)
  show zJW X 0 [(0, zR k), (1, zI r), (2, zI c), (3, zI x)] [] M
  refine z_ald (pc := 0) hc 0 rfl dX3_putPin_0 ?_
  refine z_ild (pc := 1) hc 1 rfl dX3_putPin_1 ?_
  refine z_ild (pc := 2) hc 2 rfl dX3_putPin_2 ?_
  refine kc_X3_40 (pc := 3) hc rfl (zfitX (by decide) rfl rfl) (decide_eq_true (by omega)) (by omega) (Nat.le_of_ble_eq_true rfl) (ct_X3_has M k (by omega) (by first | assumption ) r c (by omega) (by omega)) dX3_putPin_3 ?_
  refine z_beq (pc := 6) (tgt := 21) hc (by decide) dX3_putPin_6 (fun h6 => ?_) (fun h6 => ?_)
  · show zJW X 21 [(0, zR k), (1, zI r), (2, zI c), (3, zI x)] [] M
    exact z_vret (pc := 21) hc he rfl dX3_putPin_21 (by refine ⟨rfl, ?_⟩; rw [putP]; (first | rw [if_pos h6] | rw [if_neg (by rw [h6]; decide)]))
  · show zJW X 9 [(0, zR k), (1, zI r), (2, zI c), (3, zI x)] [] M
    have h6' := h6
    rw [inT_X] at h6'
    have h6' := of_decide_eq_true h6'
    refine z_ald (pc := 9) hc 0 rfl dX3_putPin_9 ?_
    refine fg_X3_26 (pc := 10) hc rfl (decide_eq_true (by omega)) (by omega) dX3_putPin_10 ?_
    refine z_ild (pc := 13) hc 1 rfl dX3_putPin_13 ?_
    refine z_bipush (pc := 14) hc 12 (by decide) dX3_putPin_14 ?_
    refine z_imul (pc := 16) hc dX3_putPin_16 ?_
    refine z_ild (pc := 17) hc 2 rfl dX3_putPin_17 ?_
    refine z_iadd (pc := 18) hc dX3_putPin_18 ?_
    refine z_ild (pc := 19) hc 3 rfl dX3_putPin_19 ?_
    refine z_iast (pc := 20) hc (decide_eq_true (by omega)) (ztm_pi (by omega)) (zar_pi (by omega)) (by decide) (by omega) dX3_putPin_20 ?_
    exact z_vret (pc := 21) hc he rfl dX3_putPin_21 (by refine ⟨rfl, ?_⟩; rw [putP]; (first | rw [if_pos h6] | rw [if_neg (by rw [h6]; decide)]))

set_option maxHeartbeats 4000000 in
theorem ct_X5_rowStep (M : Mem) (d : Int) (hd : 0 ≤ d ∧ d < 8) : zCt yX5_rowStep KX5_rowStep [zI d] M (fun v M' => v = some (zrow d) ∧ M' = M) := by
  refine z_met (by decide) rfl (Nat.le_of_ble_eq_true rfl) (fun X hc he => ?_)
  obtain ⟨p, l, e, R, s, m, args, below, meth, c, D, dA, ids, ad, A, cs, nL, Q⟩ := X
  obtain ⟨hx, hb, hml, hret, hlk, hown, hts, hK, hA0, hA, hinj, hnod, hfl, hSt, -⟩ := hc
  obtain ⟨rfl, rfl⟩ := he
  intro H locs ls hP hS hv
  obtain ⟨t1, t2, hZ1, hT1, hZ2, hT2⟩ := hSt rfl
  refine va_gets (C := "CoastTiles") (n := "ROW_STEPS") (d := "[I") (ref := "CoastTiles") hx hb hZ1 hS hown (hts _ (List.mem_filter.mpr ⟨List.mem_of_getElem? (i := 256) (by decide +kernel), rfl⟩)) (fun _ h => h) dX5_rowStep_0 ?_
  refine lv_iload_n hx hb dX5_rowStep_3 rfl (zlv_at (v := zI d) hv 0 rfl) ?_
  refine lv_bipush hx hb (v := 7) dX5_rowStep_4 rfl ?_
  refine lv_iand hx hb dX5_rowStep_6 ?_
  have e7 : iI d &&& 7 = iI d := by
    obtain ⟨n, rfl⟩ := Int.eq_ofNat_of_zero_le hd.1
    exact (show ∀ n : Nat, n < 8 → iI (n : Int) &&& 7 = iI (n : Int) by decide) n (by omega)
  rw [e7]
  obtain ⟨h1, h2⟩ := iI_in (n := 8) hd.1 hd.2 (by decide)
  refine va_ti hx hb hT1 hS h1 (v := .int (iI (zrow d))) (by show Value.int (iI (zrow _)) = _; rw [h2]) dX5_rowStep_7 ?_
  exact W.iret (v := iI (zrow d)) hx hb hret (fun t ht hW => ⟨⟨some (zrow d), M, rfl, ⟨rfl, rfl⟩, by rw [ht]; exact hP⟩, hS.F ht⟩) hS.2.2 dX5_rowStep_8

set_option maxHeartbeats 4000000 in
theorem ct_X5_columnStep (M : Mem) (d : Int) (hd : 0 ≤ d ∧ d < 8) : zCt yX5_columnStep KX5_columnStep [zI d] M (fun v M' => v = some (zcol d) ∧ M' = M) := by
  refine z_met (by decide) rfl (Nat.le_of_ble_eq_true rfl) (fun X hc he => ?_)
  obtain ⟨p, l, e, R, s, m, args, below, meth, c, D, dA, ids, ad, A, cs, nL, Q⟩ := X
  obtain ⟨hx, hb, hml, hret, hlk, hown, hts, hK, hA0, hA, hinj, hnod, hfl, hSt, -⟩ := hc
  obtain ⟨rfl, rfl⟩ := he
  intro H locs ls hP hS hv
  obtain ⟨t1, t2, hZ1, hT1, hZ2, hT2⟩ := hSt rfl
  refine va_gets (C := "CoastTiles") (n := "COLUMN_STEPS") (d := "[I") (ref := "CoastTiles") hx hb hZ2 hS hown (hts _ (List.mem_filter.mpr ⟨List.mem_of_getElem? (i := 261) (by decide +kernel), rfl⟩)) (fun _ h => h) dX5_columnStep_0 ?_
  refine lv_iload_n hx hb dX5_columnStep_3 rfl (zlv_at (v := zI d) hv 0 rfl) ?_
  refine lv_bipush hx hb (v := 7) dX5_columnStep_4 rfl ?_
  refine lv_iand hx hb dX5_columnStep_6 ?_
  have e7 : iI d &&& 7 = iI d := by
    obtain ⟨n, rfl⟩ := Int.eq_ofNat_of_zero_le hd.1
    exact (show ∀ n : Nat, n < 8 → iI (n : Int) &&& 7 = iI (n : Int) by decide) n (by omega)
  rw [e7]
  obtain ⟨h1, h2⟩ := iI_in (n := 8) hd.1 hd.2 (by decide)
  refine va_ti hx hb hT2 hS h1 (v := .int (iI (zcol d))) (by show Value.int (iI (zcol _)) = _; rw [h2]) dX5_columnStep_7 ?_
  exact W.iret (v := iI (zcol d)) hx hb hret (fun t ht hW => ⟨⟨some (zcol d), M, rfl, ⟨rfl, rfl⟩, by rw [ht]; exact hP⟩, hS.F ht⟩) hS.2.2 dX5_columnStep_8

set_option maxRecDepth 100000 in
set_option maxHeartbeats 4000000 in
theorem ct_X3_becomeWater (M : Mem) (k : Nat) (hk : k < 9) (h w : Int) (hh : 1 ≤ h ∧ h ≤ 12) (hw : 1 ≤ w ∧ w ≤ 12) : zCt yX3_becomeWater KX3_becomeWater [zR k, zI h, zI w] M (fun v M' => v = none ∧ M' = watM M k h w 144) := by
  refine z_met (by decide) rfl (Nat.le_of_ble_eq_true rfl) (fun X hc he => ?_)
  show zJW X 0 [(0, zR k), (1, zI h), (2, zI w)] [] M
  refine z_ald (pc := 0) hc 0 rfl dX3_becomeWater_0 ?_
  refine z_ild (pc := 1) hc 1 rfl dX3_becomeWater_1 ?_
  refine z_bipush (pc := 2) hc 12 (by decide) dX3_becomeWater_2 ?_
  refine z_mmin (pc := 4) hc (List.mem_filter.mpr ⟨List.mem_of_getElem? (i := 238) (by decide +kernel), rfl⟩) (List.mem_filter.mpr ⟨List.mem_of_getElem? (i := 239) (by decide +kernel), rfl⟩) (List.mem_filter.mpr ⟨List.mem_of_getElem? (i := 53) (by decide +kernel), rfl⟩) (List.mem_filter.mpr ⟨List.mem_of_getElem? (i := 240) (by decide +kernel), rfl⟩) (by decide) (by omega) (Nat.le_of_ble_eq_true rfl) dX3_becomeWater_4 ?_
  rw [show min h 12 = h by omega]
  refine fp_X3_9 (pc := 7) hc rfl (decide_eq_true (by omega)) (by omega) dX3_becomeWater_7 ?_
  refine z_ald (pc := 10) hc 0 rfl dX3_becomeWater_10 ?_
  refine z_ild (pc := 11) hc 2 rfl dX3_becomeWater_11 ?_
  refine z_bipush (pc := 12) hc 12 (by decide) dX3_becomeWater_12 ?_
  refine z_mmin (pc := 14) hc (List.mem_filter.mpr ⟨List.mem_of_getElem? (i := 238) (by decide +kernel), rfl⟩) (List.mem_filter.mpr ⟨List.mem_of_getElem? (i := 239) (by decide +kernel), rfl⟩) (List.mem_filter.mpr ⟨List.mem_of_getElem? (i := 53) (by decide +kernel), rfl⟩) (List.mem_filter.mpr ⟨List.mem_of_getElem? (i := 240) (by decide +kernel), rfl⟩) (by decide) (by omega) (Nat.le_of_ble_eq_true rfl) dX3_becomeWater_14 ?_
  rw [show min w 12 = w by omega]
  refine fp_X3_15 (pc := 17) hc rfl (decide_eq_true (by omega)) (by omega) dX3_becomeWater_17 ?_
  refine z_iconst (pc := 20) hc 0 dX3_becomeWater_20 ?_
  refine z_ist (pc := 21) (lv' := [(3, zI 0), (0, zR k), (1, zI h), (2, zI w)]) hc rfl (by decide) dX3_becomeWater_21 ?_
  refine z_for 144 (fun i22 => [(3, zI ((i22 : Nat) : Int)), (0, zR k), (1, zI h), (2, zI w)]) (fun i22 => (watM M k h w ((i22 : Nat) : Int))) (by rfl) (by exact watM_0) ?_ (fun i22 hi22 ih22 => ?_)
  · show zJW X 22 [(3, zI ((144 : Nat) : Int)), (0, zR k), (1, zI h), (2, zI w)] [] (watM M k h w ((144 : Nat) : Int))
    refine z_ild (pc := 22) hc 0 rfl dX3_becomeWater_22 ?_
    refine z_sipush (pc := 23) hc 144 (by decide) dX3_becomeWater_23 ?_
    refine z_cge (pc := 26) (tgt := 49) hc (by omega) (by decide) dX3_becomeWater_26 (fun h26 => ?_) (fun h26 => ?_)
    · show zJW X 49 [(3, zI ((144 : Nat) : Int)), (0, zR k), (1, zI h), (2, zI w)] [] (watM M k h w ((144 : Nat) : Int))
      exact z_vret (pc := 49) hc he rfl dX3_becomeWater_49 (⟨rfl, rfl⟩)
    · exfalso; omega
  · show zJW X 22 [(3, zI ((i22 : Nat) : Int)), (0, zR k), (1, zI h), (2, zI w)] [] (watM M k h w ((i22 : Nat) : Int))
    refine z_ild (pc := 22) hc 0 rfl dX3_becomeWater_22 ?_
    refine z_sipush (pc := 23) hc 144 (by decide) dX3_becomeWater_23 ?_
    refine z_cge (pc := 26) (tgt := 49) hc (by omega) (by decide) dX3_becomeWater_26 (fun h26 => ?_) (fun h26 => ?_)
    · exfalso; omega
    · show zJW X 29 [(3, zI ((i22 : Nat) : Int)), (0, zR k), (1, zI h), (2, zI w)] [] (watM M k h w ((i22 : Nat) : Int))
      refine z_ald (pc := 29) hc 1 rfl dX3_becomeWater_29 ?_
      refine fg_X3_22 (pc := 30) hc rfl (decide_eq_true (by omega)) (by omega) dX3_becomeWater_30 ?_
      refine z_ild (pc := 33) hc 0 rfl dX3_becomeWater_33 ?_
      refine z_iconst (pc := 34) hc 0 dX3_becomeWater_34 ?_
      refine z_zast (pc := 35) (v := zbz false) hc (zbz_nar false) (decide_eq_true (by omega)) (ztm_la (by omega)) (zar_la (by omega)) (by decide) (by omega) dX3_becomeWater_35 ?_
      refine z_ald (pc := 36) hc 1 rfl dX3_becomeWater_36 ?_
      refine fg_X3_26 (pc := 37) hc rfl (decide_eq_true (by omega)) (by omega) dX3_becomeWater_37 ?_
      refine z_ild (pc := 40) hc 0 rfl dX3_becomeWater_40 ?_
      refine z_iconst (pc := 41) hc (-1) dX3_becomeWater_41 ?_
      refine z_iast (pc := 42) hc (decide_eq_true (by omega)) (ztm_pi (by omega)) (zar_pi (by omega)) (by decide) (by omega) dX3_becomeWater_42 ?_
      refine z_iinc (pc := 43) (lv' := [(3, zI (((i22 : Nat) : Int) + 1)), (0, zR k), (1, zI h), (2, zI w)]) hc 0 rfl rfl (by decide) dX3_becomeWater_43 ?_
      refine z_goto (pc := 46) (tgt := 22) hc (by decide) dX3_becomeWater_46 ?_
      exact zJW_eq (by rfl) rfl (by exact watM_s i22) ih22

set_option maxRecDepth 100000 in
set_option maxHeartbeats 4000000 in
theorem ct_X3_copyFrom (M : Mem) (k j : Nat) (hk : k < 9) (hj : j < 9) (hkj : k ≠ j) (hS : zSk M j) : zCt yX3_copyFrom KX3_copyFrom [zR k, zR j] M (fun v M' => v = none ∧ M' = copM M k j 144) := by
  obtain ⟨hs1, hs2, hs3, hs4, hs5, hs6, hs7⟩ := id hS
  have hjk : j ≠ k := fun h => hkj h.symm
  refine z_met (by decide) rfl (Nat.le_of_ble_eq_true rfl) (fun X hc he => ?_)
  show zJW X 0 [(0, zR k), (1, zR j)] [] M
  refine z_ald (pc := 0) hc 0 rfl dX3_copyFrom_0 ?_
  refine z_ald (pc := 1) hc 1 rfl dX3_copyFrom_1 ?_
  refine fg_X3_9 (pc := 2) hc rfl (decide_eq_true (by omega)) (by omega) dX3_copyFrom_2 ?_
  refine fp_X3_9 (pc := 5) hc rfl (decide_eq_true (by omega)) (by omega) dX3_copyFrom_5 ?_
  refine z_ald (pc := 8) hc 0 rfl dX3_copyFrom_8 ?_
  refine z_ald (pc := 9) hc 1 rfl dX3_copyFrom_9 ?_
  refine fg_X3_15 (pc := 10) hc rfl (decide_eq_true (by omega)) (by omega) dX3_copyFrom_10 ?_
  rw [show (zup M k 0 (M j 0)) j = M j from zup_ne hjk]
  refine fp_X3_15 (pc := 13) hc rfl (decide_eq_true (by omega)) (by omega) dX3_copyFrom_13 ?_
  refine z_ald (pc := 16) hc 0 rfl dX3_copyFrom_16 ?_
  refine z_ald (pc := 17) hc 1 rfl dX3_copyFrom_17 ?_
  refine fg_X3_18 (pc := 18) hc rfl (decide_eq_true (by omega)) (by omega) dX3_copyFrom_18 ?_
  rw [show zup (zup M k 0 (M j 0)) k 1 (M j 1) j = M j from (zup_ne hjk).trans (zup_ne hjk), zbz_of hs5]
  refine fp_X3_18 (pc := 21) (b := (decide (M j 2 = 1))) hc rfl (decide_eq_true (by omega)) (by omega) dX3_copyFrom_21 ?_
  rw [← zbz_of hs5]
  refine z_iconst (pc := 24) hc 0 dX3_copyFrom_24 ?_
  refine z_ist (pc := 25) (lv' := [(2, zI 0), (0, zR k), (1, zR j)]) hc rfl (by decide) dX3_copyFrom_25 ?_
  refine z_for 144 (fun i26 => [(2, zI ((i26 : Nat) : Int)), (0, zR k), (1, zR j)]) (fun i26 => (copM M k j ((i26 : Nat) : Int))) (by rfl) (by exact copM_0) ?_ (fun i26 hi26 ih26 => ?_)
  · show zJW X 26 [(2, zI ((144 : Nat) : Int)), (0, zR k), (1, zR j)] [] (copM M k j ((144 : Nat) : Int))
    refine z_ild (pc := 26) hc 0 rfl dX3_copyFrom_26 ?_
    refine z_sipush (pc := 27) hc 144 (by decide) dX3_copyFrom_27 ?_
    refine z_cge (pc := 30) (tgt := 63) hc (by omega) (by decide) dX3_copyFrom_30 (fun h30 => ?_) (fun h30 => ?_)
    · show zJW X 63 [(2, zI ((144 : Nat) : Int)), (0, zR k), (1, zR j)] [] (copM M k j ((144 : Nat) : Int))
      exact z_vret (pc := 63) hc he rfl dX3_copyFrom_63 (⟨rfl, rfl⟩)
    · exfalso; omega
  · show zJW X 26 [(2, zI ((i26 : Nat) : Int)), (0, zR k), (1, zR j)] [] (copM M k j ((i26 : Nat) : Int))
    refine z_ild (pc := 26) hc 0 rfl dX3_copyFrom_26 ?_
    refine z_sipush (pc := 27) hc 144 (by decide) dX3_copyFrom_27 ?_
    refine z_cge (pc := 30) (tgt := 63) hc (by omega) (by decide) dX3_copyFrom_30 (fun h30 => ?_) (fun h30 => ?_)
    · exfalso; omega
    · show zJW X 33 [(2, zI ((i26 : Nat) : Int)), (0, zR k), (1, zR j)] [] (copM M k j ((i26 : Nat) : Int))
      refine z_ald (pc := 33) hc 1 rfl dX3_copyFrom_33 ?_
      refine fg_X3_22 (pc := 34) hc rfl (decide_eq_true (by omega)) (by omega) dX3_copyFrom_34 ?_
      refine z_ild (pc := 37) hc 0 rfl dX3_copyFrom_37 ?_
      refine z_ald (pc := 38) hc 2 rfl dX3_copyFrom_38 ?_
      refine fg_X3_22 (pc := 39) hc rfl (decide_eq_true (by omega)) (by omega) dX3_copyFrom_39 ?_
      refine z_ild (pc := 42) hc 0 rfl dX3_copyFrom_42 ?_
      refine z_zald (pc := 43) hc (decide_eq_true (by omega)) (ztm_la (by omega)) (zar_la (by omega)) (by decide) (by omega) dX3_copyFrom_43 ?_
      rw [copM_off (by omega) (by omega) (by omega), zbz_of (hs6 ((i26 : Nat) : Int) (by omega) (by omega))]
      refine z_zast (pc := 44) (v := zbz (decide (M (j + 9) ((i26 : Nat) : Int) = 1))) hc (zbz_nar (decide (M (j + 9) ((i26 : Nat) : Int) = 1))) (decide_eq_true (by omega)) (ztm_la (by omega)) (zar_la (by omega)) (by decide) (by omega) dX3_copyFrom_44 ?_
      rw [← zbz_of (hs6 ((i26 : Nat) : Int) (by omega) (by omega))]
      refine z_ald (pc := 45) hc 1 rfl dX3_copyFrom_45 ?_
      refine fg_X3_26 (pc := 46) hc rfl (decide_eq_true (by omega)) (by omega) dX3_copyFrom_46 ?_
      refine z_ild (pc := 49) hc 0 rfl dX3_copyFrom_49 ?_
      refine z_ald (pc := 50) hc 2 rfl dX3_copyFrom_50 ?_
      refine fg_X3_26 (pc := 51) hc rfl (decide_eq_true (by omega)) (by omega) dX3_copyFrom_51 ?_
      refine z_ild (pc := 54) hc 0 rfl dX3_copyFrom_54 ?_
      refine z_iald (pc := 55) hc (decide_eq_true (by omega)) (ztm_pi (by omega)) (zar_pi (by omega)) (by decide) (by omega) dX3_copyFrom_55 ?_
      rw [show (zup (copM M k j ((i26 : Nat) : Int)) (k + 9) ((i26 : Nat) : Int) (M (j + 9) ((i26 : Nat) : Int))) (j + 18) = M (j + 18) from (zup_ne (by omega)).trans (funext fun z => copM_off (by omega) (by omega) (by omega))]
      refine z_iast (pc := 56) hc (decide_eq_true (by omega)) (ztm_pi (by omega)) (zar_pi (by omega)) (by decide) (by omega) dX3_copyFrom_56 ?_
      refine z_iinc (pc := 57) (lv' := [(2, zI (((i26 : Nat) : Int) + 1)), (0, zR k), (1, zR j)]) hc 0 rfl rfl (by decide) dX3_copyFrom_57 ?_
      refine z_goto (pc := 60) (tgt := 26) hc (by decide) dX3_copyFrom_60 ?_
      exact zJW_eq (by rfl) rfl (by exact copM_s i26) ih26

set_option maxRecDepth 100000 in
set_option maxHeartbeats 4000000 in
theorem ct_X3_surroundingsOf (M : Mem) (k : Nat) (hk : k < 9) (hS : zSk M k) (r c : Int) (hb_r : -100000 ≤ r ∧ r < 100000) (hb_c : -100000 ≤ c ∧ c < 100000)  : zCt yX3_surroundingsOf KX3_surroundingsOf [zR k, zI r, zI c] M (fun v M' => v = some (arT (tsX M k) r c) ∧ M' = M) := by
  obtain ⟨hs1, hs2, hs3, hs4, hs5, hs6, hs7⟩ := id hS
  refine z_met (by decide) rfl (Nat.le_of_ble_eq_true rfl) (fun X hc he => ?_)
  show zJW X 0 [(0, zR k), (1, zI r), (2, zI c)] [] M
  refine z_iconst (pc := 0) hc 0 dX3_surroundingsOf_0 ?_
  refine z_ist (pc := 1) (lv' := [(3, zI 0), (0, zR k), (1, zI r), (2, zI c)]) hc rfl (by decide) dX3_surroundingsOf_1 ?_
  refine z_iconst (pc := 2) hc 0 dX3_surroundingsOf_2 ?_
  refine z_isw (pc := 3) (lv' := [(4, zI 0), (3, zI 0), (0, zR k), (1, zI r), (2, zI c)]) hc rfl (by decide) dX3_surroundingsOf_3 ?_
  refine z_for 8 (fun i5 => [(4, zI ((i5 : Nat) : Int)), (3, zI (zmk (afT (tsX M k) r c) i5)), (0, zR k), (1, zI r), (2, zI c)]) (fun i5 => M) (by rfl) (by rfl) ?_ (fun i5 hi5 ih5 => ?_)
  · show zJW X 5 [(4, zI ((8 : Nat) : Int)), (3, zI (zmk (afT (tsX M k) r c) 8)), (0, zR k), (1, zI r), (2, zI c)] [] M
    refine z_ilw (pc := 5) hc 0 rfl dX3_surroundingsOf_5 ?_
    refine z_bipush (pc := 7) hc 8 (by decide) dX3_surroundingsOf_7 ?_
    refine z_cge (pc := 9) (tgt := 46) hc (by omega) (by decide) dX3_surroundingsOf_9 (fun h9 => ?_) (fun h9 => ?_)
    · show zJW X 46 [(4, zI ((8 : Nat) : Int)), (3, zI (zmk (afT (tsX M k) r c) 8)), (0, zR k), (1, zI r), (2, zI c)] [] M
      refine z_ild (pc := 46) hc 1 rfl dX3_surroundingsOf_46 ?_
      exact z_iret (pc := 47) hc he rfl dX3_surroundingsOf_47 (⟨rfl, rfl⟩)
    · exfalso; omega
  · show zJW X 5 [(4, zI ((i5 : Nat) : Int)), (3, zI (zmk (afT (tsX M k) r c) i5)), (0, zR k), (1, zI r), (2, zI c)] [] M
    have zr := zrow_bd i5
    have zc := zcol_bd i5
    refine z_ilw (pc := 5) hc 0 rfl dX3_surroundingsOf_5 ?_
    refine z_bipush (pc := 7) hc 8 (by decide) dX3_surroundingsOf_7 ?_
    refine z_cge (pc := 9) (tgt := 46) hc (by omega) (by decide) dX3_surroundingsOf_9 (fun h9 => ?_) (fun h9 => ?_)
    · exfalso; omega
    · show zJW X 12 [(4, zI ((i5 : Nat) : Int)), (3, zI (zmk (afT (tsX M k) r c) i5)), (0, zR k), (1, zI r), (2, zI c)] [] M
      refine z_ald (pc := 12) hc 2 rfl dX3_surroundingsOf_12 ?_
      refine z_ild (pc := 13) hc 3 rfl dX3_surroundingsOf_13 ?_
      refine z_ilw (pc := 14) hc 0 rfl dX3_surroundingsOf_14 ?_
      refine kc_X3_55 (pc := 16) hc rfl (zfitS (by decide) rfl rfl) (Nat.le_of_ble_eq_true rfl) (ct_X5_rowStep M ((i5 : Nat) : Int) (by omega)) dX3_surroundingsOf_16 ?_
      refine z_iadd (pc := 19) hc dX3_surroundingsOf_19 ?_
      refine z_ild (pc := 20) hc 4 rfl dX3_surroundingsOf_20 ?_
      refine z_ilw (pc := 21) hc 0 rfl dX3_surroundingsOf_21 ?_
      refine kc_X3_59 (pc := 23) hc rfl (zfitS (by decide) rfl rfl) (Nat.le_of_ble_eq_true rfl) (ct_X5_columnStep M ((i5 : Nat) : Int) (by omega)) dX3_surroundingsOf_23 ?_
      refine z_iadd (pc := 26) hc dX3_surroundingsOf_26 ?_
      refine kc_X3_47 (pc := 27) hc rfl (zfitX (by decide) rfl rfl) (decide_eq_true (by omega)) (by omega) (Nat.le_of_ble_eq_true rfl) (ct_X3_isLandAt M k (by omega) (by first | assumption ) (r + (zrow ((i5 : Nat) : Int))) (c + (zcol ((i5 : Nat) : Int))) (by omega) (by omega)) dX3_surroundingsOf_27 ?_
      refine z_beq (pc := 30) (tgt := 40) hc (by decide) dX3_surroundingsOf_30 (fun h30 => ?_) (fun h30 => ?_)
      · show zJW X 40 [(4, zI ((i5 : Nat) : Int)), (3, zI (zmk (afT (tsX M k) r c) i5)), (0, zR k), (1, zI r), (2, zI c)] [] M
        refine z_iinc (pc := 40) (lv' := [(4, zI (((i5 : Nat) : Int) + 1)), (3, zI (zmk (afT (tsX M k) r c) i5)), (0, zR k), (1, zI r), (2, zI c)]) hc 0 rfl rfl (by decide) dX3_surroundingsOf_40 ?_
        refine z_goto (pc := 43) (tgt := 5) hc (by decide) dX3_surroundingsOf_43 ?_
        exact zJW_eq (by first | (rw [zmk_or (f := afT (tsX M k) r c) hi5 (by simp [afT, h30])]; rfl) | (rw [zmk_no (f := afT (tsX M k) r c) (d := i5) (by simp [afT, h30])]; rfl)) rfl (by rfl) ih5
      · show zJW X 33 [(4, zI ((i5 : Nat) : Int)), (3, zI (zmk (afT (tsX M k) r c) i5)), (0, zR k), (1, zI r), (2, zI c)] [] M
        refine z_ild (pc := 33) hc 1 rfl dX3_surroundingsOf_33 ?_
        refine z_iconst (pc := 34) hc 1 dX3_surroundingsOf_34 ?_
        refine z_ilw (pc := 35) hc 0 rfl dX3_surroundingsOf_35 ?_
        refine z_ishl (pc := 37) hc dX3_surroundingsOf_37 ?_
        refine z_ior (pc := 38) hc dX3_surroundingsOf_38 ?_
        refine z_ist (pc := 39) (lv' := [(3, zI (zor (zmk (afT (tsX M k) r c) i5) (zsl 1 ((i5 : Nat) : Int)))), (4, zI ((i5 : Nat) : Int)), (0, zR k), (1, zI r), (2, zI c)]) hc rfl (by decide) dX3_surroundingsOf_39 ?_
        refine z_iinc (pc := 40) (lv' := [(4, zI (((i5 : Nat) : Int) + 1)), (3, zI (zor (zmk (afT (tsX M k) r c) i5) (zsl 1 ((i5 : Nat) : Int)))), (0, zR k), (1, zI r), (2, zI c)]) hc 1 rfl rfl (by decide) dX3_surroundingsOf_40 ?_
        refine z_goto (pc := 43) (tgt := 5) hc (by decide) dX3_surroundingsOf_43 ?_
        exact zJW_eq (by first | (rw [zmk_or (f := afT (tsX M k) r c) hi5 (by simp [afT, h30])]; rfl) | (rw [zmk_no (f := afT (tsX M k) r c) (d := i5) (by simp [afT, h30])]; rfl)) rfl (by rfl) ih5

set_option maxRecDepth 100000 in
set_option maxHeartbeats 4000000 in
theorem ct_X3_outsideBitsOf (M : Mem) (k : Nat) (hk : k < 9) (hS : zSk M k) (r c : Int) (hb_r : -100000 ≤ r ∧ r < 100000) (hb_c : -100000 ≤ c ∧ c < 100000)  : zCt yX3_outsideBitsOf KX3_outsideBitsOf [zR k, zI r, zI c] M (fun v M' => v = some (obT (tsX M k) r c) ∧ M' = M) := by
  obtain ⟨hs1, hs2, hs3, hs4, hs5, hs6, hs7⟩ := id hS
  refine z_met (by decide) rfl (Nat.le_of_ble_eq_true rfl) (fun X hc he => ?_)
  show zJW X 0 [(0, zR k), (1, zI r), (2, zI c)] [] M
  refine z_iconst (pc := 0) hc 0 dX3_outsideBitsOf_0 ?_
  refine z_ist (pc := 1) (lv' := [(3, zI 0), (0, zR k), (1, zI r), (2, zI c)]) hc rfl (by decide) dX3_outsideBitsOf_1 ?_
  refine z_iconst (pc := 2) hc 0 dX3_outsideBitsOf_2 ?_
  refine z_isw (pc := 3) (lv' := [(4, zI 0), (3, zI 0), (0, zR k), (1, zI r), (2, zI c)]) hc rfl (by decide) dX3_outsideBitsOf_3 ?_
  refine z_for 8 (fun i5 => [(4, zI ((i5 : Nat) : Int)), (3, zI (zmk (ofT (tsX M k) r c) i5)), (0, zR k), (1, zI r), (2, zI c)]) (fun i5 => M) (by rfl) (by rfl) ?_ (fun i5 hi5 ih5 => ?_)
  · show zJW X 5 [(4, zI ((8 : Nat) : Int)), (3, zI (zmk (ofT (tsX M k) r c) 8)), (0, zR k), (1, zI r), (2, zI c)] [] M
    refine z_ilw (pc := 5) hc 0 rfl dX3_outsideBitsOf_5 ?_
    refine z_bipush (pc := 7) hc 8 (by decide) dX3_outsideBitsOf_7 ?_
    refine z_cge (pc := 9) (tgt := 46) hc (by omega) (by decide) dX3_outsideBitsOf_9 (fun h9 => ?_) (fun h9 => ?_)
    · show zJW X 46 [(4, zI ((8 : Nat) : Int)), (3, zI (zmk (ofT (tsX M k) r c) 8)), (0, zR k), (1, zI r), (2, zI c)] [] M
      refine z_ild (pc := 46) hc 1 rfl dX3_outsideBitsOf_46 ?_
      exact z_iret (pc := 47) hc he rfl dX3_outsideBitsOf_47 (⟨rfl, rfl⟩)
    · exfalso; omega
  · show zJW X 5 [(4, zI ((i5 : Nat) : Int)), (3, zI (zmk (ofT (tsX M k) r c) i5)), (0, zR k), (1, zI r), (2, zI c)] [] M
    have zr := zrow_bd i5
    have zc := zcol_bd i5
    refine z_ilw (pc := 5) hc 0 rfl dX3_outsideBitsOf_5 ?_
    refine z_bipush (pc := 7) hc 8 (by decide) dX3_outsideBitsOf_7 ?_
    refine z_cge (pc := 9) (tgt := 46) hc (by omega) (by decide) dX3_outsideBitsOf_9 (fun h9 => ?_) (fun h9 => ?_)
    · exfalso; omega
    · show zJW X 12 [(4, zI ((i5 : Nat) : Int)), (3, zI (zmk (ofT (tsX M k) r c) i5)), (0, zR k), (1, zI r), (2, zI c)] [] M
      refine z_ald (pc := 12) hc 2 rfl dX3_outsideBitsOf_12 ?_
      refine z_ild (pc := 13) hc 3 rfl dX3_outsideBitsOf_13 ?_
      refine z_ilw (pc := 14) hc 0 rfl dX3_outsideBitsOf_14 ?_
      refine kc_X3_55 (pc := 16) hc rfl (zfitS (by decide) rfl rfl) (Nat.le_of_ble_eq_true rfl) (ct_X5_rowStep M ((i5 : Nat) : Int) (by omega)) dX3_outsideBitsOf_16 ?_
      refine z_iadd (pc := 19) hc dX3_outsideBitsOf_19 ?_
      refine z_ild (pc := 20) hc 4 rfl dX3_outsideBitsOf_20 ?_
      refine z_ilw (pc := 21) hc 0 rfl dX3_outsideBitsOf_21 ?_
      refine kc_X3_59 (pc := 23) hc rfl (zfitS (by decide) rfl rfl) (Nat.le_of_ble_eq_true rfl) (ct_X5_columnStep M ((i5 : Nat) : Int) (by omega)) dX3_outsideBitsOf_23 ?_
      refine z_iadd (pc := 26) hc dX3_outsideBitsOf_26 ?_
      refine kc_X3_40 (pc := 27) hc rfl (zfitX (by decide) rfl rfl) (decide_eq_true (by omega)) (by omega) (Nat.le_of_ble_eq_true rfl) (ct_X3_has M k (by omega) (by first | assumption ) (r + (zrow ((i5 : Nat) : Int))) (c + (zcol ((i5 : Nat) : Int))) (by omega) (by omega)) dX3_outsideBitsOf_27 ?_
      refine z_bne (pc := 30) (tgt := 40) hc (by decide) dX3_outsideBitsOf_30 (fun h30 => ?_) (fun h30 => ?_)
      · show zJW X 40 [(4, zI ((i5 : Nat) : Int)), (3, zI (zmk (ofT (tsX M k) r c) i5)), (0, zR k), (1, zI r), (2, zI c)] [] M
        refine z_iinc (pc := 40) (lv' := [(4, zI (((i5 : Nat) : Int) + 1)), (3, zI (zmk (ofT (tsX M k) r c) i5)), (0, zR k), (1, zI r), (2, zI c)]) hc 0 rfl rfl (by decide) dX3_outsideBitsOf_40 ?_
        refine z_goto (pc := 43) (tgt := 5) hc (by decide) dX3_outsideBitsOf_43 ?_
        exact zJW_eq (by first | (rw [zmk_or (f := ofT (tsX M k) r c) hi5 (by simp [ofT, h30])]; rfl) | (rw [zmk_no (f := ofT (tsX M k) r c) (d := i5) (by simp [ofT, h30])]; rfl)) rfl (by rfl) ih5
      · show zJW X 33 [(4, zI ((i5 : Nat) : Int)), (3, zI (zmk (ofT (tsX M k) r c) i5)), (0, zR k), (1, zI r), (2, zI c)] [] M
        refine z_ild (pc := 33) hc 1 rfl dX3_outsideBitsOf_33 ?_
        refine z_iconst (pc := 34) hc 1 dX3_outsideBitsOf_34 ?_
        refine z_ilw (pc := 35) hc 0 rfl dX3_outsideBitsOf_35 ?_
        refine z_ishl (pc := 37) hc dX3_outsideBitsOf_37 ?_
        refine z_ior (pc := 38) hc dX3_outsideBitsOf_38 ?_
        refine z_ist (pc := 39) (lv' := [(3, zI (zor (zmk (ofT (tsX M k) r c) i5) (zsl 1 ((i5 : Nat) : Int)))), (4, zI ((i5 : Nat) : Int)), (0, zR k), (1, zI r), (2, zI c)]) hc rfl (by decide) dX3_outsideBitsOf_39 ?_
        refine z_iinc (pc := 40) (lv' := [(4, zI (((i5 : Nat) : Int) + 1)), (3, zI (zor (zmk (ofT (tsX M k) r c) i5) (zsl 1 ((i5 : Nat) : Int)))), (0, zR k), (1, zI r), (2, zI c)]) hc 1 rfl rfl (by decide) dX3_outsideBitsOf_40 ?_
        refine z_goto (pc := 43) (tgt := 5) hc (by decide) dX3_outsideBitsOf_43 ?_
        exact zJW_eq (by first | (rw [zmk_or (f := ofT (tsX M k) r c) hi5 (by simp [ofT, h30])]; rfl) | (rw [zmk_no (f := ofT (tsX M k) r c) (d := i5) (by simp [ofT, h30])]; rfl)) rfl (by rfl) ih5

set_option maxRecDepth 100000 in
set_option maxHeartbeats 4000000 in
theorem ct_X3_landTiles (M : Mem) (k : Nat) (hk : k < 9) (hS : zSk M k)  : zCt yX3_landTiles KX3_landTiles [zR k] M (fun v M' => v = some (lnT (tsX M k)) ∧ M' = M) := by
  obtain ⟨hs1, hs2, hs3, hs4, hs5, hs6, hs7⟩ := id hS
  refine z_met (by decide) rfl (Nat.le_of_ble_eq_true rfl) (fun X hc he => ?_)
  show zJW X 0 [(0, zR k)] [] M
  refine z_iconst (pc := 0) hc 0 dX3_landTiles_0 ?_
  refine z_ist (pc := 1) (lv' := [(1, zI 0), (0, zR k)]) hc rfl (by decide) dX3_landTiles_1 ?_
  refine z_iconst (pc := 2) hc 0 dX3_landTiles_2 ?_
  refine z_ist (pc := 3) (lv' := [(2, zI 0), (1, zI 0), (0, zR k)]) hc rfl (by decide) dX3_landTiles_3 ?_
  refine z_for ((M k 0).toNat) (fun i4 => [(2, zI ((i4 : Nat) : Int)), (1, zI (zrep (fun (r : Nat) (x : Int) => zrep (fun (c : Nat) (y : Int) => y + zbz (laT (tsX M k) r c)) (tW (tsX M k)).toNat x) i4 0)), (0, zR k)]) (fun i4 => M) (by rfl) (by rfl) ?_ (fun i4 hi4 ih4 => ?_)
  · show zJW X 4 [(2, zI ((((M k 0).toNat) : Nat) : Int)), (1, zI (zrep (fun (r : Nat) (x : Int) => zrep (fun (c : Nat) (y : Int) => y + zbz (laT (tsX M k) r c)) (tW (tsX M k)).toNat x) ((M k 0).toNat) 0)), (0, zR k)] [] M
    refine z_ild (pc := 4) hc 0 rfl dX3_landTiles_4 ?_
    refine z_ald (pc := 5) hc 2 rfl dX3_landTiles_5 ?_
    refine fg_X3_9 (pc := 6) hc rfl (decide_eq_true (by omega)) (by omega) dX3_landTiles_6 ?_
    refine z_cge (pc := 9) (tgt := 46) hc (by omega) (by decide) dX3_landTiles_9 (fun h9 => ?_) (fun h9 => ?_)
    · show zJW X 46 [(2, zI ((((M k 0).toNat) : Nat) : Int)), (1, zI (zrep (fun (r : Nat) (x : Int) => zrep (fun (c : Nat) (y : Int) => y + zbz (laT (tsX M k) r c)) (tW (tsX M k)).toNat x) ((M k 0).toNat) 0)), (0, zR k)] [] M
      refine z_ild (pc := 46) hc 1 rfl dX3_landTiles_46 ?_
      exact z_iret (pc := 47) hc he rfl dX3_landTiles_47 (⟨rfl, rfl⟩)
    · exfalso; omega
  · show zJW X 4 [(2, zI ((i4 : Nat) : Int)), (1, zI (zrep (fun (r : Nat) (x : Int) => zrep (fun (c : Nat) (y : Int) => y + zbz (laT (tsX M k) r c)) (tW (tsX M k)).toNat x) i4 0)), (0, zR k)] [] M
    refine z_ild (pc := 4) hc 0 rfl dX3_landTiles_4 ?_
    refine z_ald (pc := 5) hc 2 rfl dX3_landTiles_5 ?_
    refine fg_X3_9 (pc := 6) hc rfl (decide_eq_true (by omega)) (by omega) dX3_landTiles_6 ?_
    refine z_cge (pc := 9) (tgt := 46) hc (by omega) (by decide) dX3_landTiles_9 (fun h9 => ?_) (fun h9 => ?_)
    · exfalso; omega
    · show zJW X 12 [(2, zI ((i4 : Nat) : Int)), (1, zI (zrep (fun (r : Nat) (x : Int) => zrep (fun (c : Nat) (y : Int) => y + zbz (laT (tsX M k) r c)) (tW (tsX M k)).toNat x) i4 0)), (0, zR k)] [] M
      refine z_iconst (pc := 12) hc 0 dX3_landTiles_12 ?_
      refine z_ist (pc := 13) (lv' := [(3, zI 0), (2, zI ((i4 : Nat) : Int)), (1, zI (zrep (fun (r : Nat) (x : Int) => zrep (fun (c : Nat) (y : Int) => y + zbz (laT (tsX M k) r c)) (tW (tsX M k)).toNat x) i4 0)), (0, zR k)]) hc rfl (by decide) dX3_landTiles_13 ?_
      refine z_for ((M k 1).toNat) (fun i14 => [(3, zI ((i14 : Nat) : Int)), (2, zI ((i4 : Nat) : Int)), (1, zI (zrep (fun (c : Nat) (y : Int) => y + zbz (laT (tsX M k) i4 c)) i14 (zrep (fun (r : Nat) (x : Int) => zrep (fun (c : Nat) (y : Int) => y + zbz (laT (tsX M k) r c)) (tW (tsX M k)).toNat x) i4 0))), (0, zR k)]) (fun i14 => M) (by rfl) (by rfl) ?_ (fun i14 hi14 ih14 => ?_)
      · show zJW X 14 [(3, zI ((((M k 1).toNat) : Nat) : Int)), (2, zI ((i4 : Nat) : Int)), (1, zI (zrep (fun (c : Nat) (y : Int) => y + zbz (laT (tsX M k) i4 c)) ((M k 1).toNat) (zrep (fun (r : Nat) (x : Int) => zrep (fun (c : Nat) (y : Int) => y + zbz (laT (tsX M k) r c)) (tW (tsX M k)).toNat x) i4 0))), (0, zR k)] [] M
        refine z_ild (pc := 14) hc 0 rfl dX3_landTiles_14 ?_
        refine z_ald (pc := 15) hc 3 rfl dX3_landTiles_15 ?_
        refine fg_X3_15 (pc := 16) hc rfl (decide_eq_true (by omega)) (by omega) dX3_landTiles_16 ?_
        refine z_cge (pc := 19) (tgt := 40) hc (by omega) (by decide) dX3_landTiles_19 (fun h19 => ?_) (fun h19 => ?_)
        · show zJW X 40 [(3, zI ((((M k 1).toNat) : Nat) : Int)), (2, zI ((i4 : Nat) : Int)), (1, zI (zrep (fun (c : Nat) (y : Int) => y + zbz (laT (tsX M k) i4 c)) ((M k 1).toNat) (zrep (fun (r : Nat) (x : Int) => zrep (fun (c : Nat) (y : Int) => y + zbz (laT (tsX M k) r c)) (tW (tsX M k)).toNat x) i4 0))), (0, zR k)] [] M
          refine z_iinc (pc := 40) (lv' := [(2, zI (((i4 : Nat) : Int) + 1)), (3, zI ((((M k 1).toNat) : Nat) : Int)), (1, zI (zrep (fun (c : Nat) (y : Int) => y + zbz (laT (tsX M k) i4 c)) ((M k 1).toNat) (zrep (fun (r : Nat) (x : Int) => zrep (fun (c : Nat) (y : Int) => y + zbz (laT (tsX M k) r c)) (tW (tsX M k)).toNat x) i4 0))), (0, zR k)]) hc 1 rfl rfl (by decide) dX3_landTiles_40 ?_
          refine z_goto (pc := 43) (tgt := 4) hc (by decide) dX3_landTiles_43 ?_
          refine zJW_sub (lv' := [(2, zI (((i4 : Nat) : Int) + 1)), (1, zI (zrep (fun (c : Nat) (y : Int) => y + zbz (laT (tsX M k) i4 c)) ((M k 1).toNat) (zrep (fun (r : Nat) (x : Int) => zrep (fun (c : Nat) (y : Int) => y + zbz (laT (tsX M k) r c)) (tW (tsX M k)).toNat x) i4 0))), (0, zR k)]) [0, 2, 3] rfl ?_
          exact zJW_eq (by rfl) rfl (by rfl) ih4
        · exfalso; omega
      · show zJW X 14 [(3, zI ((i14 : Nat) : Int)), (2, zI ((i4 : Nat) : Int)), (1, zI (zrep (fun (c : Nat) (y : Int) => y + zbz (laT (tsX M k) i4 c)) i14 (zrep (fun (r : Nat) (x : Int) => zrep (fun (c : Nat) (y : Int) => y + zbz (laT (tsX M k) r c)) (tW (tsX M k)).toNat x) i4 0))), (0, zR k)] [] M
        refine z_ild (pc := 14) hc 0 rfl dX3_landTiles_14 ?_
        refine z_ald (pc := 15) hc 3 rfl dX3_landTiles_15 ?_
        refine fg_X3_15 (pc := 16) hc rfl (decide_eq_true (by omega)) (by omega) dX3_landTiles_16 ?_
        refine z_cge (pc := 19) (tgt := 40) hc (by omega) (by decide) dX3_landTiles_19 (fun h19 => ?_) (fun h19 => ?_)
        · exfalso; omega
        · show zJW X 22 [(3, zI ((i14 : Nat) : Int)), (2, zI ((i4 : Nat) : Int)), (1, zI (zrep (fun (c : Nat) (y : Int) => y + zbz (laT (tsX M k) i4 c)) i14 (zrep (fun (r : Nat) (x : Int) => zrep (fun (c : Nat) (y : Int) => y + zbz (laT (tsX M k) r c)) (tW (tsX M k)).toNat x) i4 0))), (0, zR k)] [] M
          refine z_ald (pc := 22) hc 3 rfl dX3_landTiles_22 ?_
          refine z_ild (pc := 23) hc 1 rfl dX3_landTiles_23 ?_
          refine z_ild (pc := 24) hc 0 rfl dX3_landTiles_24 ?_
          refine kc_X3_47 (pc := 25) hc rfl (zfitX (by decide) rfl rfl) (decide_eq_true (by omega)) (by omega) (Nat.le_of_ble_eq_true rfl) (ct_X3_isLandAt M k (by omega) (by first | assumption ) ((i4 : Nat) : Int) ((i14 : Nat) : Int) (by omega) (by omega)) dX3_landTiles_25 ?_
          refine z_beq (pc := 28) (tgt := 34) hc (by decide) dX3_landTiles_28 (fun h28 => ?_) (fun h28 => ?_)
          · show zJW X 34 [(3, zI ((i14 : Nat) : Int)), (2, zI ((i4 : Nat) : Int)), (1, zI (zrep (fun (c : Nat) (y : Int) => y + zbz (laT (tsX M k) i4 c)) i14 (zrep (fun (r : Nat) (x : Int) => zrep (fun (c : Nat) (y : Int) => y + zbz (laT (tsX M k) r c)) (tW (tsX M k)).toNat x) i4 0))), (0, zR k)] [] M
            refine z_iinc (pc := 34) (lv' := [(3, zI (((i14 : Nat) : Int) + 1)), (2, zI ((i4 : Nat) : Int)), (1, zI (zrep (fun (c : Nat) (y : Int) => y + zbz (laT (tsX M k) i4 c)) i14 (zrep (fun (r : Nat) (x : Int) => zrep (fun (c : Nat) (y : Int) => y + zbz (laT (tsX M k) r c)) (tW (tsX M k)).toNat x) i4 0))), (0, zR k)]) hc 0 rfl rfl (by decide) dX3_landTiles_34 ?_
            refine z_goto (pc := 37) (tgt := 14) hc (by decide) dX3_landTiles_37 ?_
            exact zJW_eq (by simp only [zrep_succ, h28, zbz_t, zbz_f, Int.add_zero, Int.natCast_add, Int.natCast_one]) rfl (by rfl) ih14
          · show zJW X 31 [(3, zI ((i14 : Nat) : Int)), (2, zI ((i4 : Nat) : Int)), (1, zI (zrep (fun (c : Nat) (y : Int) => y + zbz (laT (tsX M k) i4 c)) i14 (zrep (fun (r : Nat) (x : Int) => zrep (fun (c : Nat) (y : Int) => y + zbz (laT (tsX M k) r c)) (tW (tsX M k)).toNat x) i4 0))), (0, zR k)] [] M
            refine z_iinc (pc := 31) (lv' := [(1, zI (zrep (fun (c : Nat) (y : Int) => y + zbz (laT (tsX M k) i4 c)) i14 (zrep (fun (r : Nat) (x : Int) => zrep (fun (c : Nat) (y : Int) => y + zbz (laT (tsX M k) r c)) (tW (tsX M k)).toNat x) i4 0) + 1)), (3, zI ((i14 : Nat) : Int)), (2, zI ((i4 : Nat) : Int)), (0, zR k)]) hc 2 rfl rfl (by decide) dX3_landTiles_31 ?_
            refine z_iinc (pc := 34) (lv' := [(3, zI (((i14 : Nat) : Int) + 1)), (1, zI (zrep (fun (c : Nat) (y : Int) => y + zbz (laT (tsX M k) i4 c)) i14 (zrep (fun (r : Nat) (x : Int) => zrep (fun (c : Nat) (y : Int) => y + zbz (laT (tsX M k) r c)) (tW (tsX M k)).toNat x) i4 0) + 1)), (2, zI ((i4 : Nat) : Int)), (0, zR k)]) hc 1 rfl rfl (by decide) dX3_landTiles_34 ?_
            refine z_goto (pc := 37) (tgt := 14) hc (by decide) dX3_landTiles_37 ?_
            refine zJW_sub (lv' := [(3, zI (((i14 : Nat) : Int) + 1)), (2, zI ((i4 : Nat) : Int)), (1, zI (zrep (fun (c : Nat) (y : Int) => y + zbz (laT (tsX M k) i4 c)) i14 (zrep (fun (r : Nat) (x : Int) => zrep (fun (c : Nat) (y : Int) => y + zbz (laT (tsX M k) r c)) (tW (tsX M k)).toNat x) i4 0) + 1)), (0, zR k)]) [0, 2, 1, 3] rfl ?_
            exact zJW_eq (by simp only [zrep_succ, h28, zbz_t, zbz_f, Int.add_zero, Int.natCast_add, Int.natCast_one]) rfl (by rfl) ih14
end
