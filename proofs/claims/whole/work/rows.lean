section
-- ===== PART A: goes FIRST, ahead of the names: the tables' words, and 'selects' of the private methods out of them =====
/-- a private method of a class that the tables say can be made, by its rows of tables_1 -/
def lw_okq (q : MethodName × Nat) : Prop := (q.1.cls ≠ "java/lang/invoke/MethodHandle" ∧ q.1.cls ≠ "java/lang/invoke/VarHandle") ∧ Cond.instantiable q.1.cls q.2 ∈ tables_1 ∧ Cond.privateMethod q.1 ∈ tables_1 ∧ Cond.instanceMethod q.1 ∈ tables_1
theorem lw_p0 : lw_okq (⟨"PaleFence$Row", "at", "(I)I"⟩, 2) := ⟨⟨by decide +kernel, by decide +kernel⟩, List.mem_of_getElem? (i := 31) (by decide +kernel), List.mem_of_getElem? (i := 148) (by decide +kernel), List.mem_of_getElem? (i := 149) (by decide +kernel)⟩
theorem lw_p1 : lw_okq (⟨"PaleFence$Rules", "priceOf", "(I)I"⟩, 4) := ⟨⟨by decide +kernel, by decide +kernel⟩, List.mem_of_getElem? (i := 48) (by decide +kernel), List.mem_of_getElem? (i := 156) (by decide +kernel), List.mem_of_getElem? (i := 157) (by decide +kernel)⟩
theorem lw_p2 : lw_okq (⟨"PaleFence$Rules", "setPrice", "(II)V"⟩, 4) := ⟨⟨by decide +kernel, by decide +kernel⟩, List.mem_of_getElem? (i := 48) (by decide +kernel), List.mem_of_getElem? (i := 160) (by decide +kernel), List.mem_of_getElem? (i := 161) (by decide +kernel)⟩
theorem lw_p3 : lw_okq (⟨"PaleFence$Rules", "hasColour", "(I)Z"⟩, 4) := ⟨⟨by decide +kernel, by decide +kernel⟩, List.mem_of_getElem? (i := 48) (by decide +kernel), List.mem_of_getElem? (i := 172) (by decide +kernel), List.mem_of_getElem? (i := 173) (by decide +kernel)⟩
theorem lw_p4 : lw_okq (⟨"PaleFence", "openBehind", "(I)I"⟩, 8) := ⟨⟨by decide +kernel, by decide +kernel⟩, List.mem_of_getElem? (i := 17) (by decide +kernel), List.mem_of_getElem? (i := 176) (by decide +kernel), List.mem_of_getElem? (i := 177) (by decide +kernel)⟩
theorem lw_p5 : lw_okq (⟨"PaleFence$Row", "takeFrom", "(LPaleFence$Row;I)V"⟩, 2) := ⟨⟨by decide +kernel, by decide +kernel⟩, List.mem_of_getElem? (i := 31) (by decide +kernel), List.mem_of_getElem? (i := 180) (by decide +kernel), List.mem_of_getElem? (i := 181) (by decide +kernel)⟩
theorem lw_p6 : lw_okq (⟨"PaleFence$Rules", "faultOf", "(LPaleFence$Row;)I"⟩, 4) := ⟨⟨by decide +kernel, by decide +kernel⟩, List.mem_of_getElem? (i := 48) (by decide +kernel), List.mem_of_getElem? (i := 193) (by decide +kernel), List.mem_of_getElem? (i := 194) (by decide +kernel)⟩
theorem lw_p7 : lw_okq (⟨"PaleFence$Rules", "stretchAtEnd", "(LPaleFence$Row;II)I"⟩, 4) := ⟨⟨by decide +kernel, by decide +kernel⟩, List.mem_of_getElem? (i := 48) (by decide +kernel), List.mem_of_getElem? (i := 197) (by decide +kernel), List.mem_of_getElem? (i := 198) (by decide +kernel)⟩
theorem lw_p8 : lw_okq (⟨"PaleFence$Row", "repeats", "(III)Z"⟩, 2) := ⟨⟨by decide +kernel, by decide +kernel⟩, List.mem_of_getElem? (i := 31) (by decide +kernel), List.mem_of_getElem? (i := 209) (by decide +kernel), List.mem_of_getElem? (i := 210) (by decide +kernel)⟩
theorem lw_p9 : lw_okq (⟨"PaleFence$Rules", "standsWith", "(LPaleFence$Row;I)Z"⟩, 4) := ⟨⟨by decide +kernel, by decide +kernel⟩, List.mem_of_getElem? (i := 48) (by decide +kernel), List.mem_of_getElem? (i := 214) (by decide +kernel), List.mem_of_getElem? (i := 215) (by decide +kernel)⟩
theorem lw_p10 : lw_okq (⟨"PaleFence$Row", "add", "(I)V"⟩, 2) := ⟨⟨by decide +kernel, by decide +kernel⟩, List.mem_of_getElem? (i := 31) (by decide +kernel), List.mem_of_getElem? (i := 218) (by decide +kernel), List.mem_of_getElem? (i := 219) (by decide +kernel)⟩
theorem lw_p11 : lw_okq (⟨"PaleFence$Row", "cut", "(I)V"⟩, 2) := ⟨⟨by decide +kernel, by decide +kernel⟩, List.mem_of_getElem? (i := 31) (by decide +kernel), List.mem_of_getElem? (i := 222) (by decide +kernel), List.mem_of_getElem? (i := 223) (by decide +kernel)⟩
theorem lw_p12 : lw_okq (⟨"PaleFence$Row", "has", "(I)Z"⟩, 2) := ⟨⟨by decide +kernel, by decide +kernel⟩, List.mem_of_getElem? (i := 31) (by decide +kernel), List.mem_of_getElem? (i := 235) (by decide +kernel), List.mem_of_getElem? (i := 236) (by decide +kernel)⟩
theorem lw_p13 : lw_okq (⟨"PaleFence$Tape", "add", "(I)V"⟩, 2) := ⟨⟨by decide +kernel, by decide +kernel⟩, List.mem_of_getElem? (i := 83) (by decide +kernel), List.mem_of_getElem? (i := 246) (by decide +kernel), List.mem_of_getElem? (i := 247) (by decide +kernel)⟩
theorem lw_p14 : lw_okq (⟨"PaleFence", "readText", "()I"⟩, 8) := ⟨⟨by decide +kernel, by decide +kernel⟩, List.mem_of_getElem? (i := 17) (by decide +kernel), List.mem_of_getElem? (i := 254) (by decide +kernel), List.mem_of_getElem? (i := 255) (by decide +kernel)⟩
theorem lw_p15 : lw_okq (⟨"PaleFence$Tape", "at", "(I)I"⟩, 2) := ⟨⟨by decide +kernel, by decide +kernel⟩, List.mem_of_getElem? (i := 83) (by decide +kernel), List.mem_of_getElem? (i := 258) (by decide +kernel), List.mem_of_getElem? (i := 259) (by decide +kernel)⟩
def lw_privs_1 : List (MethodName × Nat) := [(⟨"PaleFence$Row", "at", "(I)I"⟩, 2), (⟨"PaleFence$Rules", "priceOf", "(I)I"⟩, 4), (⟨"PaleFence$Rules", "setPrice", "(II)V"⟩, 4), (⟨"PaleFence$Rules", "hasColour", "(I)Z"⟩, 4), (⟨"PaleFence", "openBehind", "(I)I"⟩, 8), (⟨"PaleFence$Row", "takeFrom", "(LPaleFence$Row;I)V"⟩, 2), (⟨"PaleFence$Rules", "faultOf", "(LPaleFence$Row;)I"⟩, 4), (⟨"PaleFence$Rules", "stretchAtEnd", "(LPaleFence$Row;II)I"⟩, 4), (⟨"PaleFence$Row", "repeats", "(III)Z"⟩, 2), (⟨"PaleFence$Rules", "standsWith", "(LPaleFence$Row;I)Z"⟩, 4), (⟨"PaleFence$Row", "add", "(I)V"⟩, 2), (⟨"PaleFence$Row", "cut", "(I)V"⟩, 2), (⟨"PaleFence$Row", "has", "(I)Z"⟩, 2), (⟨"PaleFence$Tape", "add", "(I)V"⟩, 2), (⟨"PaleFence", "readText", "()I"⟩, 8), (⟨"PaleFence$Tape", "at", "(I)I"⟩, 2)]
theorem lw_r1 : ∀ q ∈ lw_privs_1, lw_okq q := List.forall_mem_cons.mpr ⟨lw_p0, List.forall_mem_cons.mpr ⟨lw_p1, List.forall_mem_cons.mpr ⟨lw_p2, List.forall_mem_cons.mpr ⟨lw_p3, List.forall_mem_cons.mpr ⟨lw_p4, List.forall_mem_cons.mpr ⟨lw_p5, List.forall_mem_cons.mpr ⟨lw_p6, List.forall_mem_cons.mpr ⟨lw_p7, List.forall_mem_cons.mpr ⟨lw_p8, List.forall_mem_cons.mpr ⟨lw_p9, List.forall_mem_cons.mpr ⟨lw_p10, List.forall_mem_cons.mpr ⟨lw_p11, List.forall_mem_cons.mpr ⟨lw_p12, List.forall_mem_cons.mpr ⟨lw_p13, List.forall_mem_cons.mpr ⟨lw_p14, List.forall_mem_cons.mpr ⟨lw_p15, fun _ h => absurd h List.not_mem_nil⟩⟩⟩⟩⟩⟩⟩⟩⟩⟩⟩⟩⟩⟩⟩⟩
theorem lw_p16 : lw_okq (⟨"PaleFence", "goBehind", "(II)I"⟩, 8) := ⟨⟨by decide +kernel, by decide +kernel⟩, List.mem_of_getElem? (i := 17) (by decide +kernel), List.mem_of_getElem? (i := 373) (by decide +kernel), List.mem_of_getElem? (i := 374) (by decide +kernel)⟩
theorem lw_p17 : lw_okq (⟨"PaleFence$Rules", "isRing", "(LPaleFence$Row;)Z"⟩, 4) := ⟨⟨by decide +kernel, by decide +kernel⟩, List.mem_of_getElem? (i := 48) (by decide +kernel), List.mem_of_getElem? (i := 396) (by decide +kernel), List.mem_of_getElem? (i := 397) (by decide +kernel)⟩
theorem lw_p18 : lw_okq (⟨"PaleFence$Rules", "leastPrice", "()I"⟩, 4) := ⟨⟨by decide +kernel, by decide +kernel⟩, List.mem_of_getElem? (i := 48) (by decide +kernel), List.mem_of_getElem? (i := 420) (by decide +kernel), List.mem_of_getElem? (i := 421) (by decide +kernel)⟩
theorem lw_p19 : lw_okq (⟨"PaleFence$Row", "takeOut", "(I)V"⟩, 2) := ⟨⟨by decide +kernel, by decide +kernel⟩, List.mem_of_getElem? (i := 31) (by decide +kernel), List.mem_of_getElem? (i := 440) (by decide +kernel), List.mem_of_getElem? (i := 441) (by decide +kernel)⟩
theorem lw_p20 : lw_okq (⟨"PaleFence$Row", "put", "(II)V"⟩, 2) := ⟨⟨by decide +kernel, by decide +kernel⟩, List.mem_of_getElem? (i := 31) (by decide +kernel), List.mem_of_getElem? (i := 445) (by decide +kernel), List.mem_of_getElem? (i := 446) (by decide +kernel)⟩
theorem lw_p21 : lw_okq (⟨"PaleFence$State", "takeFrom", "(LPaleFence$State;)V"⟩, 3) := ⟨⟨by decide +kernel, by decide +kernel⟩, List.mem_of_getElem? (i := 25) (by decide +kernel), List.mem_of_getElem? (i := 476) (by decide +kernel), List.mem_of_getElem? (i := 477) (by decide +kernel)⟩
theorem lw_p22 : lw_okq (⟨"PaleFence$Rules", "takeFrom", "(LPaleFence$Rules;)V"⟩, 4) := ⟨⟨by decide +kernel, by decide +kernel⟩, List.mem_of_getElem? (i := 48) (by decide +kernel), List.mem_of_getElem? (i := 481) (by decide +kernel), List.mem_of_getElem? (i := 482) (by decide +kernel)⟩
theorem lw_p23 : lw_okq (⟨"PaleFence", "pageAt", "(I)LPaleFence$Sheet;"⟩, 8) := ⟨⟨by decide +kernel, by decide +kernel⟩, List.mem_of_getElem? (i := 17) (by decide +kernel), List.mem_of_getElem? (i := 494) (by decide +kernel), List.mem_of_getElem? (i := 495) (by decide +kernel)⟩
theorem lw_p24 : lw_okq (⟨"PaleFence$Sheet", "reaches", "(II)Z"⟩, 3) := ⟨⟨by decide +kernel, by decide +kernel⟩, List.mem_of_getElem? (i := 100) (by decide +kernel), List.mem_of_getElem? (i := 504) (by decide +kernel), List.mem_of_getElem? (i := 505) (by decide +kernel)⟩
theorem lw_p25 : lw_okq (⟨"PaleFence", "readLost", "(LPaleFence$Sheet;II)Z"⟩, 8) := ⟨⟨by decide +kernel, by decide +kernel⟩, List.mem_of_getElem? (i := 17) (by decide +kernel), List.mem_of_getElem? (i := 508) (by decide +kernel), List.mem_of_getElem? (i := 509) (by decide +kernel)⟩
theorem lw_p26 : lw_okq (⟨"PaleFence$Sheet", "at", "(I)I"⟩, 3) := ⟨⟨by decide +kernel, by decide +kernel⟩, List.mem_of_getElem? (i := 100) (by decide +kernel), List.mem_of_getElem? (i := 512) (by decide +kernel), List.mem_of_getElem? (i := 513) (by decide +kernel)⟩
theorem lw_p27 : lw_okq (⟨"PaleFence$Rules", "holds", "(LPaleFence$Row;II)Z"⟩, 4) := ⟨⟨by decide +kernel, by decide +kernel⟩, List.mem_of_getElem? (i := 48) (by decide +kernel), List.mem_of_getElem? (i := 516) (by decide +kernel), List.mem_of_getElem? (i := 517) (by decide +kernel)⟩
theorem lw_p28 : lw_okq (⟨"PaleFence$Sheet", "put", "(II)V"⟩, 3) := ⟨⟨by decide +kernel, by decide +kernel⟩, List.mem_of_getElem? (i := 100) (by decide +kernel), List.mem_of_getElem? (i := 531) (by decide +kernel), List.mem_of_getElem? (i := 532) (by decide +kernel)⟩
theorem lw_p29 : lw_okq (⟨"PaleFence$Sheet", "renew", "(II)V"⟩, 3) := ⟨⟨by decide +kernel, by decide +kernel⟩, List.mem_of_getElem? (i := 100) (by decide +kernel), List.mem_of_getElem? (i := 539) (by decide +kernel), List.mem_of_getElem? (i := 540) (by decide +kernel)⟩
theorem lw_p30 : lw_okq (⟨"PaleFenceModel", "changed", "(II)I"⟩, 15) := ⟨⟨by decide +kernel, by decide +kernel⟩, List.mem_of_getElem? (i := 556) (by decide +kernel), List.mem_of_getElem? (i := 618) (by decide +kernel), List.mem_of_getElem? (i := 619) (by decide +kernel)⟩
theorem lw_p31 : lw_okq (⟨"PaleFenceModel", "isColour", "(I)Z"⟩, 15) := ⟨⟨by decide +kernel, by decide +kernel⟩, List.mem_of_getElem? (i := 556) (by decide +kernel), List.mem_of_getElem? (i := 637) (by decide +kernel), List.mem_of_getElem? (i := 638) (by decide +kernel)⟩
def lw_privs_2 : List (MethodName × Nat) := [(⟨"PaleFence", "goBehind", "(II)I"⟩, 8), (⟨"PaleFence$Rules", "isRing", "(LPaleFence$Row;)Z"⟩, 4), (⟨"PaleFence$Rules", "leastPrice", "()I"⟩, 4), (⟨"PaleFence$Row", "takeOut", "(I)V"⟩, 2), (⟨"PaleFence$Row", "put", "(II)V"⟩, 2), (⟨"PaleFence$State", "takeFrom", "(LPaleFence$State;)V"⟩, 3), (⟨"PaleFence$Rules", "takeFrom", "(LPaleFence$Rules;)V"⟩, 4), (⟨"PaleFence", "pageAt", "(I)LPaleFence$Sheet;"⟩, 8), (⟨"PaleFence$Sheet", "reaches", "(II)Z"⟩, 3), (⟨"PaleFence", "readLost", "(LPaleFence$Sheet;II)Z"⟩, 8), (⟨"PaleFence$Sheet", "at", "(I)I"⟩, 3), (⟨"PaleFence$Rules", "holds", "(LPaleFence$Row;II)Z"⟩, 4), (⟨"PaleFence$Sheet", "put", "(II)V"⟩, 3), (⟨"PaleFence$Sheet", "renew", "(II)V"⟩, 3), (⟨"PaleFenceModel", "changed", "(II)I"⟩, 15), (⟨"PaleFenceModel", "isColour", "(I)Z"⟩, 15)]
theorem lw_r2 : ∀ q ∈ lw_privs_2, lw_okq q := List.forall_mem_cons.mpr ⟨lw_p16, List.forall_mem_cons.mpr ⟨lw_p17, List.forall_mem_cons.mpr ⟨lw_p18, List.forall_mem_cons.mpr ⟨lw_p19, List.forall_mem_cons.mpr ⟨lw_p20, List.forall_mem_cons.mpr ⟨lw_p21, List.forall_mem_cons.mpr ⟨lw_p22, List.forall_mem_cons.mpr ⟨lw_p23, List.forall_mem_cons.mpr ⟨lw_p24, List.forall_mem_cons.mpr ⟨lw_p25, List.forall_mem_cons.mpr ⟨lw_p26, List.forall_mem_cons.mpr ⟨lw_p27, List.forall_mem_cons.mpr ⟨lw_p28, List.forall_mem_cons.mpr ⟨lw_p29, List.forall_mem_cons.mpr ⟨lw_p30, List.forall_mem_cons.mpr ⟨lw_p31, fun _ h => absurd h List.not_mem_nil⟩⟩⟩⟩⟩⟩⟩⟩⟩⟩⟩⟩⟩⟩⟩⟩
theorem lw_p32 : lw_okq (⟨"PaleFenceModel", "lay", "()I"⟩, 15) := ⟨⟨by decide +kernel, by decide +kernel⟩, List.mem_of_getElem? (i := 556) (by decide +kernel), List.mem_of_getElem? (i := 641) (by decide +kernel), List.mem_of_getElem? (i := 642) (by decide +kernel)⟩
theorem lw_p33 : lw_okq (⟨"PaleFenceModel", "faults", "(I)I"⟩, 15) := ⟨⟨by decide +kernel, by decide +kernel⟩, List.mem_of_getElem? (i := 556) (by decide +kernel), List.mem_of_getElem? (i := 645) (by decide +kernel), List.mem_of_getElem? (i := 646) (by decide +kernel)⟩
theorem lw_p34 : lw_okq (⟨"PaleFenceModel", "ends", "(I)I"⟩, 15) := ⟨⟨by decide +kernel, by decide +kernel⟩, List.mem_of_getElem? (i := 556) (by decide +kernel), List.mem_of_getElem? (i := 649) (by decide +kernel), List.mem_of_getElem? (i := 650) (by decide +kernel)⟩
theorem lw_p35 : lw_okq (⟨"PaleFenceModel", "isLike", "(II)Z"⟩, 15) := ⟨⟨by decide +kernel, by decide +kernel⟩, List.mem_of_getElem? (i := 556) (by decide +kernel), List.mem_of_getElem? (i := 653) (by decide +kernel), List.mem_of_getElem? (i := 654) (by decide +kernel)⟩
theorem lw_p36 : lw_okq (⟨"PaleFenceModel", "isPale", "(I)Z"⟩, 15) := ⟨⟨by decide +kernel, by decide +kernel⟩, List.mem_of_getElem? (i := 556) (by decide +kernel), List.mem_of_getElem? (i := 666) (by decide +kernel), List.mem_of_getElem? (i := 667) (by decide +kernel)⟩
theorem lw_p37 : lw_okq (⟨"PaleFenceModel", "mayCome", "(I)I"⟩, 15) := ⟨⟨by decide +kernel, by decide +kernel⟩, List.mem_of_getElem? (i := 556) (by decide +kernel), List.mem_of_getElem? (i := 698) (by decide +kernel), List.mem_of_getElem? (i := 699) (by decide +kernel)⟩
theorem lw_p38 : lw_okq (⟨"PaleFenceModel", "reaches", "(II)I"⟩, 15) := ⟨⟨by decide +kernel, by decide +kernel⟩, List.mem_of_getElem? (i := 556) (by decide +kernel), List.mem_of_getElem? (i := 714) (by decide +kernel), List.mem_of_getElem? (i := 715) (by decide +kernel)⟩
theorem lw_p39 : lw_okq (⟨"PaleFenceModel", "goesOn", "(IZ)Z"⟩, 15) := ⟨⟨by decide +kernel, by decide +kernel⟩, List.mem_of_getElem? (i := 556) (by decide +kernel), List.mem_of_getElem? (i := 731) (by decide +kernel), List.mem_of_getElem? (i := 732) (by decide +kernel)⟩
theorem lw_p40 : lw_okq (⟨"PaleFenceModel", "isRing", "(I)Z"⟩, 15) := ⟨⟨by decide +kernel, by decide +kernel⟩, List.mem_of_getElem? (i := 556) (by decide +kernel), List.mem_of_getElem? (i := 739) (by decide +kernel), List.mem_of_getElem? (i := 740) (by decide +kernel)⟩
theorem lw_p41 : lw_okq (⟨"PaleFenceModel", "comes", "(II)V"⟩, 15) := ⟨⟨by decide +kernel, by decide +kernel⟩, List.mem_of_getElem? (i := 556) (by decide +kernel), List.mem_of_getElem? (i := 756) (by decide +kernel), List.mem_of_getElem? (i := 757) (by decide +kernel)⟩
theorem lw_p42 : lw_okq (⟨"PaleFenceModel", "found", "(IIII)I"⟩, 15) := ⟨⟨by decide +kernel, by decide +kernel⟩, List.mem_of_getElem? (i := 556) (by decide +kernel), List.mem_of_getElem? (i := 800) (by decide +kernel), List.mem_of_getElem? (i := 801) (by decide +kernel)⟩
theorem lw_p43 : lw_okq (⟨"PaleFenceModel", "isRising", "(II)Z"⟩, 15) := ⟨⟨by decide +kernel, by decide +kernel⟩, List.mem_of_getElem? (i := 556) (by decide +kernel), List.mem_of_getElem? (i := 804) (by decide +kernel), List.mem_of_getElem? (i := 805) (by decide +kernel)⟩
def lw_privs_3 : List (MethodName × Nat) := [(⟨"PaleFenceModel", "lay", "()I"⟩, 15), (⟨"PaleFenceModel", "faults", "(I)I"⟩, 15), (⟨"PaleFenceModel", "ends", "(I)I"⟩, 15), (⟨"PaleFenceModel", "isLike", "(II)Z"⟩, 15), (⟨"PaleFenceModel", "isPale", "(I)Z"⟩, 15), (⟨"PaleFenceModel", "mayCome", "(I)I"⟩, 15), (⟨"PaleFenceModel", "reaches", "(II)I"⟩, 15), (⟨"PaleFenceModel", "goesOn", "(IZ)Z"⟩, 15), (⟨"PaleFenceModel", "isRing", "(I)Z"⟩, 15), (⟨"PaleFenceModel", "comes", "(II)V"⟩, 15), (⟨"PaleFenceModel", "found", "(IIII)I"⟩, 15), (⟨"PaleFenceModel", "isRising", "(II)Z"⟩, 15)]
theorem lw_r3 : ∀ q ∈ lw_privs_3, lw_okq q := List.forall_mem_cons.mpr ⟨lw_p32, List.forall_mem_cons.mpr ⟨lw_p33, List.forall_mem_cons.mpr ⟨lw_p34, List.forall_mem_cons.mpr ⟨lw_p35, List.forall_mem_cons.mpr ⟨lw_p36, List.forall_mem_cons.mpr ⟨lw_p37, List.forall_mem_cons.mpr ⟨lw_p38, List.forall_mem_cons.mpr ⟨lw_p39, List.forall_mem_cons.mpr ⟨lw_p40, List.forall_mem_cons.mpr ⟨lw_p41, List.forall_mem_cons.mpr ⟨lw_p42, List.forall_mem_cons.mpr ⟨lw_p43, fun _ h => absurd h List.not_mem_nil⟩⟩⟩⟩⟩⟩⟩⟩⟩⟩⟩⟩
def lw_privs : List (MethodName × Nat) := lw_privs_1 ++ (lw_privs_2 ++ (lw_privs_3))
def lw_tbl : List Cond := k2_sels lw_privs ++ tables_1
theorem lw_privs_ok : ∀ q ∈ lw_privs, lw_okq q := by
  show ∀ q ∈ lw_privs_1 ++ (lw_privs_2 ++ (lw_privs_3)), lw_okq q
  exact List.forall_mem_append.mpr ⟨lw_r1, List.forall_mem_append.mpr ⟨lw_r2, lw_r3⟩⟩
/-! ===== BEGIN words of one list among another's, by their places ===== -/
theorem goodIn_r {big : List Cond} (ws : List Cond) (ps : List Nat) (hp : ws = ps.filterMap (fun i => big[i]?)) (h : ws.all goodWord = true) : GoodIn big ws := by
  intro w hw
  have h1 := List.all_eq_true.mp h w hw
  rw [hp] at hw
  obtain ⟨i, -, hi⟩ := List.mem_filterMap.mp hw
  have hm : w ∈ big := by first | exact List.mem_of_getElem? hi | exact List.getElem?_mem hi
  exact ⟨hm, good_of_word h1⟩
theorem goodIn_app {big a b : List Cond} (ha : GoodIn big a) (hb : GoodIn big b) : GoodIn big (a ++ b) := fun w h => (List.mem_append.mp h).elim (ha w) (hb w)
theorem goodIn_ca {big a b : List Cond} {c : Cond} (ha : GoodIn big (c :: a)) (hb : GoodIn big b) : GoodIn big (c :: (a ++ b)) := fun w h => (List.mem_cons.mp h).elim (fun e => ha w (List.mem_cons.mpr (Or.inl e))) (fun h => (List.mem_append.mp h).elim (fun h => ha w (List.mem_cons.mpr (Or.inr h))) (hb w))
theorem goodIn_sub {big ws : List Cond} (hm : ∀ w ∈ ws, w ∈ big) (h : ws.all goodWord = true) : GoodIn big ws := fun w hw => ⟨hm w hw, good_of_word (List.all_eq_true.mp h w hw)⟩
/-! ===== END ===== -/

/-! ===== BEGIN printed: names, fields, word lists, decode rows ===== -/
def RX0 : String := "PaleFence$Row"
def TX0 : u_T := fun k => match k with
  | 0 => ("PaleFence$Row", "pales", "[I", true)
  | _ => ("PaleFence$Row", "size", "I", false)
def tyX0 : Nat → FieldType := fun k => match k with
  | 0 => .array .int
  | _ => .int
abbrev wsX00 : List Cond := u_ws RX0 TX0 2
theorem nmX0 : ∀ a, a < 2 → ∀ b, b < 2 → a ≠ b → (TX0 a).2.1 ≠ (TX0 b).2.1 := by decide +kernel
theorem tyX0_ok : ∀ k, k < 2 → parseFieldDescriptor (TX0 k).2.2.1 = some (tyX0 k) := by decide +kernel
abbrev cX0_init : ByteArray := prog_2_method_1_code
def yX0_init : MethodName := ⟨RX0, "<init>", "()V"⟩
abbrev cX0_has : ByteArray := prog_2_method_2_code
def yX0_has : MethodName := ⟨RX0, "has", "(I)Z"⟩
abbrev cX0_at : ByteArray := prog_2_method_3_code
def yX0_at : MethodName := ⟨RX0, "at", "(I)I"⟩
abbrev cX0_put : ByteArray := prog_2_method_4_code
def yX0_put : MethodName := ⟨RX0, "put", "(II)V"⟩
abbrev cX0_add : ByteArray := prog_2_method_5_code
def yX0_add : MethodName := ⟨RX0, "add", "(I)V"⟩
abbrev cX0_cut : ByteArray := prog_2_method_6_code
def yX0_cut : MethodName := ⟨RX0, "cut", "(I)V"⟩
abbrev cX0_takeOut : ByteArray := prog_2_method_7_code
def yX0_takeOut : MethodName := ⟨RX0, "takeOut", "(I)V"⟩
abbrev cX0_takeFrom : ByteArray := prog_2_method_8_code
def yX0_takeFrom : MethodName := ⟨RX0, "takeFrom", "(LPaleFence$Row;I)V"⟩
abbrev cX0_repeats : ByteArray := prog_2_method_9_code
def yX0_repeats : MethodName := ⟨RX0, "repeats", "(III)Z"⟩
def RX1 : String := "PaleFence$Rules"
def TX1 : u_T := fun k => match k with
  | 0 => ("PaleFence$Rules", "colours", "I", false)
  | 1 => ("PaleFence$Rules", "law", "I", false)
  | 2 => ("PaleFence$Rules", "least", "I", false)
  | _ => ("PaleFence$Rules", "prices", "[I", true)
def tyX1 : Nat → FieldType := fun k => match k with
  | 0 => .int
  | 1 => .int
  | 2 => .int
  | _ => .array .int
abbrev wsX10 : List Cond := u_ws RX1 TX1 4
theorem nmX1 : ∀ a, a < 4 → ∀ b, b < 4 → a ≠ b → (TX1 a).2.1 ≠ (TX1 b).2.1 := by decide +kernel
theorem tyX1_ok : ∀ k, k < 4 → parseFieldDescriptor (TX1 k).2.2.1 = some (tyX1 k) := by decide +kernel
abbrev cX1_init : ByteArray := prog_3_method_1_code
def yX1_init : MethodName := ⟨RX1, "<init>", "()V"⟩
abbrev cX1_hasColour : ByteArray := prog_3_method_2_code
def yX1_hasColour : MethodName := ⟨RX1, "hasColour", "(I)Z"⟩
abbrev cX1_priceOf : ByteArray := prog_3_method_3_code
def yX1_priceOf : MethodName := ⟨RX1, "priceOf", "(I)I"⟩
abbrev cX1_setPrice : ByteArray := prog_3_method_4_code
def yX1_setPrice : MethodName := ⟨RX1, "setPrice", "(II)V"⟩
abbrev cX1_leastPrice : ByteArray := prog_3_method_5_code
def yX1_leastPrice : MethodName := ⟨RX1, "leastPrice", "()I"⟩
abbrev cX1_takeFrom : ByteArray := prog_3_method_6_code
def yX1_takeFrom : MethodName := ⟨RX1, "takeFrom", "(LPaleFence$Rules;)V"⟩
abbrev cX1_faultOf : ByteArray := prog_3_method_7_code
def yX1_faultOf : MethodName := ⟨RX1, "faultOf", "(LPaleFence$Row;)I"⟩
abbrev cX1_holds : ByteArray := prog_3_method_8_code
def yX1_holds : MethodName := ⟨RX1, "holds", "(LPaleFence$Row;II)Z"⟩
abbrev cX1_standsWith : ByteArray := prog_3_method_9_code
def yX1_standsWith : MethodName := ⟨RX1, "standsWith", "(LPaleFence$Row;I)Z"⟩
abbrev cX1_isRing : ByteArray := prog_3_method_10_code
def yX1_isRing : MethodName := ⟨RX1, "isRing", "(LPaleFence$Row;)Z"⟩
abbrev cX1_stretchAtEnd : ByteArray := prog_3_method_11_code
def yX1_stretchAtEnd : MethodName := ⟨RX1, "stretchAtEnd", "(LPaleFence$Row;II)I"⟩
abbrev cX1_mixedAtEnd : ByteArray := prog_3_method_12_code
def yX1_mixedAtEnd : MethodName := ⟨RX1, "mixedAtEnd", "(LPaleFence$Row;II)I"⟩
abbrev cX1_tally : ByteArray := prog_3_method_13_code
def yX1_tally : MethodName := ⟨RX1, "tally", "(I)J"⟩
def RX2 : String := "PaleFence$Sheet"
def TX2 : u_T := fun k => match k with
  | 0 => ("PaleFence$Sheet", "items", "[I", true)
  | 1 => ("PaleFence$Sheet", "lane", "I", false)
  | _ => ("PaleFence$Sheet", "length", "I", false)
def tyX2 : Nat → FieldType := fun k => match k with
  | 0 => .array .int
  | 1 => .int
  | _ => .int
abbrev wsX20 : List Cond := u_ws RX2 TX2 3
theorem nmX2 : ∀ a, a < 3 → ∀ b, b < 3 → a ≠ b → (TX2 a).2.1 ≠ (TX2 b).2.1 := by decide +kernel
theorem tyX2_ok : ∀ k, k < 3 → parseFieldDescriptor (TX2 k).2.2.1 = some (tyX2 k) := by decide +kernel
abbrev cX2_init : ByteArray := prog_4_method_1_code
def yX2_init : MethodName := ⟨RX2, "<init>", "()V"⟩
abbrev cX2_reaches : ByteArray := prog_4_method_2_code
def yX2_reaches : MethodName := ⟨RX2, "reaches", "(II)Z"⟩
abbrev cX2_at : ByteArray := prog_4_method_3_code
def yX2_at : MethodName := ⟨RX2, "at", "(I)I"⟩
abbrev cX2_put : ByteArray := prog_4_method_4_code
def yX2_put : MethodName := ⟨RX2, "put", "(II)V"⟩
abbrev cX2_renew : ByteArray := prog_4_method_5_code
def yX2_renew : MethodName := ⟨RX2, "renew", "(II)V"⟩
def RX3 : String := "PaleFence$State"
def TX3 : u_T := fun k => match k with
  | 0 => ("PaleFence$State", "row", "LPaleFence$Row;", true)
  | 1 => ("PaleFence$State", "rules", "LPaleFence$Rules;", true)
  | _ => ("PaleFence$State", "draw", "I", false)
def tyX3 : Nat → FieldType := fun k => match k with
  | 0 => .object "PaleFence$Row"
  | 1 => .object "PaleFence$Rules"
  | _ => .int
abbrev wsX30 : List Cond := u_ws RX3 TX3 3
theorem nmX3 : ∀ a, a < 3 → ∀ b, b < 3 → a ≠ b → (TX3 a).2.1 ≠ (TX3 b).2.1 := by decide +kernel
theorem tyX3_ok : ∀ k, k < 3 → parseFieldDescriptor (TX3 k).2.2.1 = some (tyX3 k) := by decide +kernel
abbrev cX3_init : ByteArray := prog_5_method_1_code
def yX3_init : MethodName := ⟨RX3, "<init>", "()V"⟩
abbrev cX3_takeFrom : ByteArray := prog_5_method_2_code
def yX3_takeFrom : MethodName := ⟨RX3, "takeFrom", "(LPaleFence$State;)V"⟩
def RX4 : String := "PaleFence$Tape"
def TX4 : u_T := fun k => match k with
  | 0 => ("PaleFence$Tape", "bytes", "[I", true)
  | _ => ("PaleFence$Tape", "size", "I", false)
def tyX4 : Nat → FieldType := fun k => match k with
  | 0 => .array .int
  | _ => .int
abbrev wsX40 : List Cond := u_ws RX4 TX4 2
theorem nmX4 : ∀ a, a < 2 → ∀ b, b < 2 → a ≠ b → (TX4 a).2.1 ≠ (TX4 b).2.1 := by decide +kernel
theorem tyX4_ok : ∀ k, k < 2 → parseFieldDescriptor (TX4 k).2.2.1 = some (tyX4 k) := by decide +kernel
abbrev cX4_init : ByteArray := prog_6_method_1_code
def yX4_init : MethodName := ⟨RX4, "<init>", "()V"⟩
abbrev cX4_at : ByteArray := prog_6_method_2_code
def yX4_at : MethodName := ⟨RX4, "at", "(I)I"⟩
abbrev cX4_add : ByteArray := prog_6_method_3_code
def yX4_add : MethodName := ⟨RX4, "add", "(I)V"⟩
def RX5 : String := "PaleFence"
def TX5 : u_T := fun k => match k with
  | 0 => ("PaleFence", "now", "LPaleFence$State;", true)
  | 1 => ("PaleFence", "kept", "LPaleFence$State;", true)
  | 2 => ("PaleFence", "hasImage", "Z", false)
  | 3 => ("PaleFence", "tape", "LPaleFence$Tape;", true)
  | 4 => ("PaleFence", "sheets", "[LPaleFence$Sheet;", true)
  | 5 => ("PaleFence", "work", "LPaleFence$Row;", true)
  | 6 => ("PaleFence", "found", "LPaleFence$Row;", true)
  | _ => ("PaleFence", "lost", "[I", true)
def tyX5 : Nat → FieldType := fun k => match k with
  | 0 => .object "PaleFence$State"
  | 1 => .object "PaleFence$State"
  | 2 => .boolean
  | 3 => .object "PaleFence$Tape"
  | 4 => .array (.object "PaleFence$Sheet")
  | 5 => .object "PaleFence$Row"
  | 6 => .object "PaleFence$Row"
  | _ => .array .int
abbrev wsX50 : List Cond := u_ws RX5 TX5 8
theorem nmX5 : ∀ a, a < 8 → ∀ b, b < 8 → a ≠ b → (TX5 a).2.1 ≠ (TX5 b).2.1 := by decide +kernel
theorem tyX5_ok : ∀ k, k < 8 → parseFieldDescriptor (TX5 k).2.2.1 = some (tyX5 k) := by decide +kernel
abbrev cX5_init : ByteArray := prog_1_method_1_code
def yX5_init : MethodName := ⟨RX5, "<init>", "()V"⟩
abbrev cX5_colours : ByteArray := prog_1_method_2_code
def yX5_colours : MethodName := ⟨RX5, "colours", "(I)I"⟩
abbrev cX5_price : ByteArray := prog_1_method_3_code
def yX5_price : MethodName := ⟨RX5, "price", "(II)I"⟩
abbrev cX5_rule : ByteArray := prog_1_method_4_code
def yX5_rule : MethodName := ⟨RX5, "rule", "(II)I"⟩
abbrev cX5_paint : ByteArray := prog_1_method_5_code
def yX5_paint : MethodName := ⟨RX5, "paint", "(I)I"⟩
abbrev cX5_scrape : ByteArray := prog_1_method_6_code
def yX5_scrape : MethodName := ⟨RX5, "scrape", "(I)I"⟩
abbrev cX5_pale : ByteArray := prog_1_method_7_code
def yX5_pale : MethodName := ⟨RX5, "pale", "(I)I"⟩
abbrev cX5_type : ByteArray := prog_1_method_8_code
def yX5_type : MethodName := ⟨RX5, "type", "(JI)I"⟩
abbrev cX5_byteOf : ByteArray := prog_1_method_9_code
def yX5_byteOf : MethodName := ⟨RX5, "byteOf", "(JI)I"⟩
abbrev cX5_fence : ByteArray := prog_1_method_10_code
def yX5_fence : MethodName := ⟨RX5, "fence", "()I"⟩
abbrev cX5_readText : ByteArray := prog_1_method_11_code
def yX5_readText : MethodName := ⟨RX5, "readText", "()I"⟩
abbrev cX5_count : ByteArray := prog_1_method_12_code
def yX5_count : MethodName := ⟨RX5, "count", "(I)I"⟩
abbrev cX5_fault : ByteArray := prog_1_method_13_code
def yX5_fault : MethodName := ⟨RX5, "fault", "(I)I"⟩
abbrev cX5_may : ByteArray := prog_1_method_14_code
def yX5_may : MethodName := ⟨RX5, "may", "()I"⟩
abbrev cX5_openBehind : ByteArray := prog_1_method_15_code
def yX5_openBehind : MethodName := ⟨RX5, "openBehind", "(I)I"⟩
abbrev cX5_kind : ByteArray := prog_1_method_16_code
def yX5_kind : MethodName := ⟨RX5, "kind", "(I)I"⟩
abbrev cX5_far : ByteArray := prog_1_method_17_code
def yX5_far : MethodName := ⟨RX5, "far", "(I)I"⟩
abbrev cX5_go : ByteArray := prog_1_method_18_code
def yX5_go : MethodName := ⟨RX5, "go", "(II)I"⟩
abbrev cX5_goBehind : ByteArray := prog_1_method_19_code
def yX5_goBehind : MethodName := ⟨RX5, "goBehind", "(II)I"⟩
abbrev cX5_goOn : ByteArray := prog_1_method_20_code
def yX5_goOn : MethodName := ⟨RX5, "goOn", "(LPaleFence$Rules;LPaleFence$Row;ILPaleFence$Row;)Z"⟩
abbrev cX5_less : ByteArray := prog_1_method_21_code
def yX5_less : MethodName := ⟨RX5, "less", "(I)I"⟩
abbrev cX5_many : ByteArray := prog_1_method_22_code
def yX5_many : MethodName := ⟨RX5, "many", "(I)I"⟩
abbrev cX5_rings : ByteArray := prog_1_method_23_code
def yX5_rings : MethodName := ⟨RX5, "rings", "(I)I"⟩
abbrev cX5_rowsBehind : ByteArray := prog_1_method_24_code
def yX5_rowsBehind : MethodName := ⟨RX5, "rowsBehind", "(LPaleFence$Rules;LPaleFence$Row;IIZ)I"⟩
abbrev cX5_ring : ByteArray := prog_1_method_25_code
def yX5_ring : MethodName := ⟨RX5, "ring", "(II)I"⟩
abbrev cX5_findRing : ByteArray := prog_1_method_26_code
def yX5_findRing : MethodName := ⟨RX5, "findRing", "(LPaleFence$Rules;LPaleFence$Row;IILPaleFence$Row;)Z"⟩
abbrev cX5_cheap : ByteArray := prog_1_method_27_code
def yX5_cheap : MethodName := ⟨RX5, "cheap", "(II)I"⟩
abbrev cX5_cheapest : ByteArray := prog_1_method_28_code
def yX5_cheapest : MethodName := ⟨RX5, "cheapest", "(LPaleFence$Rules;LPaleFence$Row;IIILPaleFence$Row;)I"⟩
abbrev cX5_wins : ByteArray := prog_1_method_29_code
def yX5_wins : MethodName := ⟨RX5, "wins", "(I)I"⟩
abbrev cX5_canWin : ByteArray := prog_1_method_30_code
def yX5_canWin : MethodName := ⟨RX5, "canWin", "(LPaleFence$Rules;LPaleFence$Row;I)Z"⟩
abbrev cX5_isLost : ByteArray := prog_1_method_31_code
def yX5_isLost : MethodName := ⟨RX5, "isLost", "(LPaleFence$Rules;LPaleFence$Row;I)Z"⟩
abbrev cX5_tear : ByteArray := prog_1_method_32_code
def yX5_tear : MethodName := ⟨RX5, "tear", "(I)I"⟩
abbrev cX5_mends : ByteArray := prog_1_method_33_code
def yX5_mends : MethodName := ⟨RX5, "mends", "(I)I"⟩
abbrev cX5_replace : ByteArray := prog_1_method_34_code
def yX5_replace : MethodName := ⟨RX5, "replace", "(II)I"⟩
abbrev cX5_lots : ByteArray := prog_1_method_35_code
def yX5_lots : MethodName := ⟨RX5, "lots", "(I)I"⟩
abbrev cX5_drawn : ByteArray := prog_1_method_36_code
def yX5_drawn : MethodName := ⟨RX5, "drawn", "(II)I"⟩
abbrev cX5_seed : ByteArray := prog_1_method_37_code
def yX5_seed : MethodName := ⟨RX5, "seed", "(I)I"⟩
abbrev cX5_image : ByteArray := prog_1_method_38_code
def yX5_image : MethodName := ⟨RX5, "image", "()I"⟩
abbrev cX5_restore : ByteArray := prog_1_method_39_code
def yX5_restore : MethodName := ⟨RX5, "restore", "()I"⟩
abbrev cX5_storm : ByteArray := prog_1_method_40_code
def yX5_storm : MethodName := ⟨RX5, "storm", "(IIIII)I"⟩
abbrev cX5_readLost : ByteArray := prog_1_method_41_code
def yX5_readLost : MethodName := ⟨RX5, "readLost", "(LPaleFence$Sheet;II)Z"⟩
abbrev cX5_waysToMend : ByteArray := prog_1_method_42_code
def yX5_waysToMend : MethodName := ⟨RX5, "waysToMend", "(LPaleFence$Rules;LPaleFence$Row;[IIILPaleFence$Row;)I"⟩
abbrev cX5_build : ByteArray := prog_1_method_43_code
def yX5_build : MethodName := ⟨RX5, "build", "(IIII)I"⟩
abbrev cX5_film : ByteArray := prog_1_method_44_code
def yX5_film : MethodName := ⟨RX5, "film", "(III)I"⟩
abbrev cX5_sheet : ByteArray := prog_1_method_45_code
def yX5_sheet : MethodName := ⟨RX5, "sheet", "(III)I"⟩
abbrev cX5_drop : ByteArray := prog_1_method_46_code
def yX5_drop : MethodName := ⟨RX5, "drop", "(I)I"⟩
abbrev cX5_item : ByteArray := prog_1_method_47_code
def yX5_item : MethodName := ⟨RX5, "item", "(IIII)I"⟩
abbrev cX5_copy : ByteArray := prog_1_method_48_code
def yX5_copy : MethodName := ⟨RX5, "copy", "(IIIII)I"⟩
abbrev cX5_refusalOf : ByteArray := prog_1_method_49_code
def yX5_refusalOf : MethodName := ⟨RX5, "refusalOf", "(LPaleFence$Sheet;III)I"⟩
abbrev cX5_pageAt : ByteArray := prog_1_method_50_code
def yX5_pageAt : MethodName := ⟨RX5, "pageAt", "(I)LPaleFence$Sheet;"⟩
abbrev cX5_isLane : ByteArray := prog_1_method_51_code
def yX5_isLane : MethodName := ⟨RX5, "isLane", "(I)Z"⟩
def RX6 : String := "PaleFenceModel"
def TX6 : u_T := fun k => match k with
  | 0 => ("PaleFenceModel", "now", "[I", true)
  | 1 => ("PaleFenceModel", "then", "[I", true)
  | 2 => ("PaleFenceModel", "isKept", "Z", false)
  | 3 => ("PaleFenceModel", "tape", "[I", true)
  | 4 => ("PaleFenceModel", "taped", "I", false)
  | 5 => ("PaleFenceModel", "sizes", "[I", true)
  | 6 => ("PaleFenceModel", "lanes", "[I", true)
  | 7 => ("PaleFenceModel", "items", "[I", true)
  | 8 => ("PaleFenceModel", "row", "[I", true)
  | 9 => ("PaleFenceModel", "more", "[I", true)
  | 10 => ("PaleFenceModel", "best", "[I", true)
  | 11 => ("PaleFenceModel", "round", "[I", true)
  | 12 => ("PaleFenceModel", "goes", "[Z", true)
  | 13 => ("PaleFenceModel", "sticks", "[Z", true)
  | _ => ("PaleFenceModel", "opens", "[Z", true)
def tyX6 : Nat → FieldType := fun k => match k with
  | 0 => .array .int
  | 1 => .array .int
  | 2 => .boolean
  | 3 => .array .int
  | 4 => .int
  | 5 => .array .int
  | 6 => .array .int
  | 7 => .array .int
  | 8 => .array .int
  | 9 => .array .int
  | 10 => .array .int
  | 11 => .array .int
  | 12 => .array .boolean
  | 13 => .array .boolean
  | _ => .array .boolean
abbrev wsX60 : List Cond := u_ws RX6 TX6 15
theorem nmX6 : ∀ a, a < 15 → ∀ b, b < 15 → a ≠ b → (TX6 a).2.1 ≠ (TX6 b).2.1 := by decide +kernel
theorem tyX6_ok : ∀ k, k < 15 → parseFieldDescriptor (TX6 k).2.2.1 = some (tyX6 k) := by decide +kernel
abbrev cX6_init : ByteArray := prog_8_method_1_code
def yX6_init : MethodName := ⟨RX6, "<init>", "()V"⟩
abbrev cX6_in : ByteArray := prog_8_method_3_code
def yX6_in : MethodName := ⟨RX6, "in", "(JJJ)Z"⟩
abbrev cX6_changed : ByteArray := prog_8_method_4_code
def yX6_changed : MethodName := ⟨RX6, "changed", "(II)I"⟩
abbrev cX6_isLike : ByteArray := prog_8_method_5_code
def yX6_isLike : MethodName := ⟨RX6, "isLike", "(II)Z"⟩
abbrev cX6_ends : ByteArray := prog_8_method_6_code
def yX6_ends : MethodName := ⟨RX6, "ends", "(I)I"⟩
abbrev cX6_faults : ByteArray := prog_8_method_7_code
def yX6_faults : MethodName := ⟨RX6, "faults", "(I)I"⟩
abbrev cX6_lay : ByteArray := prog_8_method_8_code
def yX6_lay : MethodName := ⟨RX6, "lay", "()I"⟩
abbrev cX6_mayCome : ByteArray := prog_8_method_9_code
def yX6_mayCome : MethodName := ⟨RX6, "mayCome", "(I)I"⟩
abbrev cX6_bits : ByteArray := prog_8_method_10_code
def yX6_bits : MethodName := ⟨RX6, "bits", "(I)I"⟩
abbrev cX6_isPale : ByteArray := prog_8_method_11_code
def yX6_isPale : MethodName := ⟨RX6, "isPale", "(I)Z"⟩
abbrev cX6_isColour : ByteArray := prog_8_method_12_code
def yX6_isColour : MethodName := ⟨RX6, "isColour", "(I)Z"⟩
abbrev cX6_colours : ByteArray := prog_8_method_13_code
def yX6_colours : MethodName := ⟨RX6, "colours", "(I)I"⟩
abbrev cX6_price : ByteArray := prog_8_method_14_code
def yX6_price : MethodName := ⟨RX6, "price", "(II)I"⟩
abbrev cX6_rule : ByteArray := prog_8_method_15_code
def yX6_rule : MethodName := ⟨RX6, "rule", "(II)I"⟩
abbrev cX6_paint : ByteArray := prog_8_method_16_code
def yX6_paint : MethodName := ⟨RX6, "paint", "(I)I"⟩
abbrev cX6_scrape : ByteArray := prog_8_method_17_code
def yX6_scrape : MethodName := ⟨RX6, "scrape", "(I)I"⟩
abbrev cX6_pale : ByteArray := prog_8_method_18_code
def yX6_pale : MethodName := ⟨RX6, "pale", "(I)I"⟩
abbrev cX6_type : ByteArray := prog_8_method_19_code
def yX6_type : MethodName := ⟨RX6, "type", "(JI)I"⟩
abbrev cX6_colourOf : ByteArray := prog_8_method_20_code
def yX6_colourOf : MethodName := ⟨RX6, "colourOf", "(I)I"⟩
abbrev cX6_fence : ByteArray := prog_8_method_21_code
def yX6_fence : MethodName := ⟨RX6, "fence", "()I"⟩
abbrev cX6_count : ByteArray := prog_8_method_22_code
def yX6_count : MethodName := ⟨RX6, "count", "(I)I"⟩
abbrev cX6_fault : ByteArray := prog_8_method_23_code
def yX6_fault : MethodName := ⟨RX6, "fault", "(I)I"⟩
abbrev cX6_may : ByteArray := prog_8_method_24_code
def yX6_may : MethodName := ⟨RX6, "may", "()I"⟩
abbrev cX6_kind : ByteArray := prog_8_method_25_code
def yX6_kind : MethodName := ⟨RX6, "kind", "(I)I"⟩
abbrev cX6_reaches : ByteArray := prog_8_method_26_code
def yX6_reaches : MethodName := ⟨RX6, "reaches", "(II)I"⟩
abbrev cX6_far : ByteArray := prog_8_method_27_code
def yX6_far : MethodName := ⟨RX6, "far", "(I)I"⟩
abbrev cX6_go : ByteArray := prog_8_method_28_code
def yX6_go : MethodName := ⟨RX6, "go", "(II)I"⟩
abbrev cX6_less : ByteArray := prog_8_method_29_code
def yX6_less : MethodName := ⟨RX6, "less", "(I)I"⟩
abbrev cX6_goesOn : ByteArray := prog_8_method_30_code
def yX6_goesOn : MethodName := ⟨RX6, "goesOn", "(IZ)Z"⟩
abbrev cX6_many : ByteArray := prog_8_method_31_code
def yX6_many : MethodName := ⟨RX6, "many", "(I)I"⟩
abbrev cX6_isRing : ByteArray := prog_8_method_32_code
def yX6_isRing : MethodName := ⟨RX6, "isRing", "(I)Z"⟩
abbrev cX6_rings : ByteArray := prog_8_method_33_code
def yX6_rings : MethodName := ⟨RX6, "rings", "(I)I"⟩
abbrev cX6_ring : ByteArray := prog_8_method_34_code
def yX6_ring : MethodName := ⟨RX6, "ring", "(II)I"⟩
abbrev cX6_cheap : ByteArray := prog_8_method_35_code
def yX6_cheap : MethodName := ⟨RX6, "cheap", "(II)I"⟩
abbrev cX6_comes : ByteArray := prog_8_method_36_code
def yX6_comes : MethodName := ⟨RX6, "comes", "(II)V"⟩
abbrev cX6_wins : ByteArray := prog_8_method_37_code
def yX6_wins : MethodName := ⟨RX6, "wins", "(I)I"⟩
abbrev cX6_tear : ByteArray := prog_8_method_38_code
def yX6_tear : MethodName := ⟨RX6, "tear", "(I)I"⟩
abbrev cX6_mends : ByteArray := prog_8_method_39_code
def yX6_mends : MethodName := ⟨RX6, "mends", "(I)I"⟩
abbrev cX6_replace : ByteArray := prog_8_method_40_code
def yX6_replace : MethodName := ⟨RX6, "replace", "(II)I"⟩
abbrev cX6_lots : ByteArray := prog_8_method_41_code
def yX6_lots : MethodName := ⟨RX6, "lots", "(I)I"⟩
abbrev cX6_seed : ByteArray := prog_8_method_42_code
def yX6_seed : MethodName := ⟨RX6, "seed", "(I)I"⟩
abbrev cX6_image : ByteArray := prog_8_method_43_code
def yX6_image : MethodName := ⟨RX6, "image", "()I"⟩
abbrev cX6_restore : ByteArray := prog_8_method_44_code
def yX6_restore : MethodName := ⟨RX6, "restore", "()I"⟩
abbrev cX6_isSheet : ByteArray := prog_8_method_45_code
def yX6_isSheet : MethodName := ⟨RX6, "isSheet", "(II)Z"⟩
abbrev cX6_found : ByteArray := prog_8_method_46_code
def yX6_found : MethodName := ⟨RX6, "found", "(IIII)I"⟩
abbrev cX6_isRising : ByteArray := prog_8_method_47_code
def yX6_isRising : MethodName := ⟨RX6, "isRising", "(II)Z"⟩
abbrev cX6_storm : ByteArray := prog_8_method_48_code
def yX6_storm : MethodName := ⟨RX6, "storm", "(IIIII)I"⟩
abbrev cX6_build : ByteArray := prog_8_method_49_code
def yX6_build : MethodName := ⟨RX6, "build", "(IIII)I"⟩
abbrev cX6_film : ByteArray := prog_8_method_50_code
def yX6_film : MethodName := ⟨RX6, "film", "(III)I"⟩
abbrev cX6_sheet : ByteArray := prog_8_method_51_code
def yX6_sheet : MethodName := ⟨RX6, "sheet", "(III)I"⟩
abbrev cX6_drop : ByteArray := prog_8_method_52_code
def yX6_drop : MethodName := ⟨RX6, "drop", "(I)I"⟩
abbrev cX6_item : ByteArray := prog_8_method_53_code
def yX6_item : MethodName := ⟨RX6, "item", "(IIII)I"⟩
abbrev cX6_copy : ByteArray := prog_8_method_54_code
def yX6_copy : MethodName := ⟨RX6, "copy", "(IIIII)I"⟩
def RJ11 : String := "java/lang/Character"
def TJ11 : u_T := fun k => match k with
  | _ => ("", "", "", false)
def tyJ11 : Nat → FieldType := fun k => match k with
  | _ => .int
abbrev wsJ110 : List Cond := u_ws RJ11 TJ11 0
theorem nmJ11 : ∀ a, a < 0 → ∀ b, b < 0 → a ≠ b → (TJ11 a).2.1 ≠ (TJ11 b).2.1 := by decide +kernel
theorem tyJ11_ok : ∀ k, k < 0 → parseFieldDescriptor (TJ11 k).2.2.1 = some (tyJ11 k) := by decide +kernel
abbrev cJ11_isValidCodePoint_9a6ad : ByteArray := prog_9_method_11_code
def yJ11_isValidCodePoint_9a6ad : MethodName := ⟨RJ11, "isValidCodePoint", "(I)Z"⟩
abbrev cJ11_highSurrogate_5068e : ByteArray := prog_9_method_28_code
def yJ11_highSurrogate_5068e : MethodName := ⟨RJ11, "highSurrogate", "(I)C"⟩
abbrev cJ11_lowSurrogate_5068e : ByteArray := prog_9_method_29_code
def yJ11_lowSurrogate_5068e : MethodName := ⟨RJ11, "lowSurrogate", "(I)C"⟩
def RJ6 : String := "java/lang/Integer"
def TJ6 : u_T := fun k => match k with
  | _ => ("", "", "", false)
def tyJ6 : Nat → FieldType := fun k => match k with
  | _ => .int
abbrev wsJ60 : List Cond := u_ws RJ6 TJ6 0
theorem nmJ6 : ∀ a, a < 0 → ∀ b, b < 0 → a ≠ b → (TJ6 a).2.1 ≠ (TJ6 b).2.1 := by decide +kernel
theorem tyJ6_ok : ∀ k, k < 0 → parseFieldDescriptor (TJ6 k).2.2.1 = some (tyJ6 k) := by decide +kernel
abbrev cJ6_bitCount_0f7a4 : ByteArray := prog_10_method_49_code
def yJ6_bitCount_0f7a4 : MethodName := ⟨RJ6, "bitCount", "(I)I"⟩
def RJ9 : String := "java/lang/Math"
def TJ9 : u_T := fun k => match k with
  | _ => ("", "", "", false)
def tyJ9 : Nat → FieldType := fun k => match k with
  | _ => .int
abbrev wsJ90 : List Cond := u_ws RJ9 TJ9 0
theorem nmJ9 : ∀ a, a < 0 → ∀ b, b < 0 → a ≠ b → (TJ9 a).2.1 ≠ (TJ9 b).2.1 := by decide +kernel
theorem tyJ9_ok : ∀ k, k < 0 → parseFieldDescriptor (TJ9 k).2.2.1 = some (tyJ9 k) := by decide +kernel
abbrev cJ9_max_7cf53 : ByteArray := prog_11_method_65_code
def yJ9_max_7cf53 : MethodName := ⟨RJ9, "max", "(II)I"⟩
abbrev cJ9_min_7cf53 : ByteArray := prog_11_method_69_code
def yJ9_min_7cf53 : MethodName := ⟨RJ9, "min", "(II)I"⟩
def RJ0 : String := "java/lang/String"
def TJ0 : u_T := fun k => match k with
  | _ => ("", "", "", false)
def tyJ0 : Nat → FieldType := fun k => match k with
  | _ => .int
abbrev wsJ00 : List Cond := u_ws RJ0 TJ0 0
theorem nmJ0 : ∀ a, a < 0 → ∀ b, b < 0 → a ≠ b → (TJ0 a).2.1 ≠ (TJ0 b).2.1 := by decide +kernel
theorem tyJ0_ok : ∀ k, k < 0 → parseFieldDescriptor (TJ0 k).2.2.1 = some (tyJ0 k) := by decide +kernel
abbrev cJ0_length_8abf5 : ByteArray := prog_12_method_54_code
def yJ0_length_8abf5 : MethodName := ⟨RJ0, "length", "()I"⟩
abbrev cJ0_indexOf_0f7a4 : ByteArray := prog_12_method_79_code
def yJ0_indexOf_0f7a4 : MethodName := ⟨RJ0, "indexOf", "(I)I"⟩
abbrev cJ0_indexOf_7cf53 : ByteArray := prog_12_method_80_code
def yJ0_indexOf_7cf53 : MethodName := ⟨RJ0, "indexOf", "(II)I"⟩
abbrev cJ0_coder_7d493 : ByteArray := prog_12_method_152_code
def yJ0_coder_7d493 : MethodName := ⟨RJ0, "coder", "()B"⟩
abbrev cJ0_isLatin1_aae02 : ByteArray := prog_12_method_154_code
def yJ0_isLatin1_aae02 : MethodName := ⟨RJ0, "isLatin1", "()Z"⟩
abbrev cJ0_checkBoundsBeginEnd_23922 : ByteArray := prog_12_method_158_code
def yJ0_checkBoundsBeginEnd_23922 : MethodName := ⟨RJ0, "checkBoundsBeginEnd", "(III)V"⟩
def RJ1 : String := "java/lang/StringLatin1"
def TJ1 : u_T := fun k => match k with
  | _ => ("", "", "", false)
def tyJ1 : Nat → FieldType := fun k => match k with
  | _ => .int
abbrev wsJ10 : List Cond := u_ws RJ1 TJ1 0
theorem nmJ1 : ∀ a, a < 0 → ∀ b, b < 0 → a ≠ b → (TJ1 a).2.1 ≠ (TJ1 b).2.1 := by decide +kernel
theorem tyJ1_ok : ∀ k, k < 0 → parseFieldDescriptor (TJ1 k).2.2.1 = some (tyJ1 k) := by decide +kernel
abbrev cJ1_canEncode_9a6ad : ByteArray := prog_13_method_4_code
def yJ1_canEncode_9a6ad : MethodName := ⟨RJ1, "canEncode", "(I)Z"⟩
abbrev cJ1_indexOf_4cfef : ByteArray := prog_13_method_22_code
def yJ1_indexOf_4cfef : MethodName := ⟨RJ1, "indexOf", "([BIII)I"⟩
abbrev cJ1_indexOfChar_4cfef : ByteArray := prog_13_method_23_code
def yJ1_indexOfChar_4cfef : MethodName := ⟨RJ1, "indexOfChar", "([BIII)I"⟩
def RJ2 : String := "java/lang/StringUTF16"
def TJ2 : u_T := fun k => match k with
  | _ => ("", "", "", false)
def tyJ2 : Nat → FieldType := fun k => match k with
  | _ => .int
abbrev wsJ20 : List Cond := u_ws RJ2 TJ2 0
theorem nmJ2 : ∀ a, a < 0 → ∀ b, b < 0 → a ≠ b → (TJ2 a).2.1 ≠ (TJ2 b).2.1 := by decide +kernel
theorem tyJ2_ok : ∀ k, k < 0 → parseFieldDescriptor (TJ2 k).2.2.1 = some (tyJ2 k) := by decide +kernel
abbrev cJ2_getChar_3b067 : ByteArray := prog_14_method_5_code
def yJ2_getChar_3b067 : MethodName := ⟨RJ2, "getChar", "([BI)C"⟩
abbrev cJ2_length_9d52b : ByteArray := prog_14_method_6_code
def yJ2_length_9d52b : MethodName := ⟨RJ2, "length", "([B)I"⟩
abbrev cJ2_indexOf_4cfef : ByteArray := prog_14_method_40_code
def yJ2_indexOf_4cfef : MethodName := ⟨RJ2, "indexOf", "([BIII)I"⟩
abbrev cJ2_indexOfChar_4cfef : ByteArray := prog_14_method_47_code
def yJ2_indexOfChar_4cfef : MethodName := ⟨RJ2, "indexOfChar", "([BIII)I"⟩
abbrev cJ2_indexOfCharUnsafe_4cfef : ByteArray := prog_14_method_48_code
def yJ2_indexOfCharUnsafe_4cfef : MethodName := ⟨RJ2, "indexOfCharUnsafe", "([BIII)I"⟩
abbrev cJ2_indexOfSupplementary_4cfef : ByteArray := prog_14_method_49_code
def yJ2_indexOfSupplementary_4cfef : MethodName := ⟨RJ2, "indexOfSupplementary", "([BIII)I"⟩
abbrev cJ2_checkBoundsBeginEnd_d044e : ByteArray := prog_14_method_93_code
def yJ2_checkBoundsBeginEnd_d044e : MethodName := ⟨RJ2, "checkBoundsBeginEnd", "(II[B)V"⟩
def RJ10 : String := "java/lang/System"
def TJ10 : u_T := fun k => match k with
  | _ => ("", "", "", false)
def tyJ10 : Nat → FieldType := fun k => match k with
  | _ => .int
abbrev wsJ100 : List Cond := u_ws RJ10 TJ10 0
theorem nmJ10 : ∀ a, a < 0 → ∀ b, b < 0 → a ≠ b → (TJ10 a).2.1 ≠ (TJ10 b).2.1 := by decide +kernel
theorem tyJ10_ok : ∀ k, k < 0 → parseFieldDescriptor (TJ10 k).2.2.1 = some (tyJ10 k) := by decide +kernel
def RJ3 : String := "jdk/internal/util/Preconditions"
def TJ3 : u_T := fun k => match k with
  | _ => ("", "", "", false)
def tyJ3 : Nat → FieldType := fun k => match k with
  | _ => .int
abbrev wsJ30 : List Cond := u_ws RJ3 TJ3 0
theorem nmJ3 : ∀ a, a < 0 → ∀ b, b < 0 → a ≠ b → (TJ3 a).2.1 ≠ (TJ3 b).2.1 := by decide +kernel
theorem tyJ3_ok : ∀ k, k < 0 → parseFieldDescriptor (TJ3 k).2.2.1 = some (tyJ3 k) := by decide +kernel
abbrev cJ3_checkFromToIndex_8c36e : ByteArray := prog_16_method_12_code
def yJ3_checkFromToIndex_8c36e : MethodName := ⟨RJ3, "checkFromToIndex", "(IIILjava/util/function/BiFunction;)I"⟩
def RL : String := "PaleFenceLaw"
abbrev cL_law : ByteArray := code
def yL_law : MethodName := ⟨RL, "law", "([I)Z"⟩
theorem dX0_init_0 : decode cX0_init 0 = .ok (.aload_n 0, 1) := by decide +kernel
theorem dX0_init_1 : decode cX0_init 1 = .ok (.invokespecial 3, 3) := by decide +kernel
theorem dX0_init_4 : decode cX0_init 4 = .ok (.aload_n 0, 1) := by decide +kernel
theorem dX0_init_5 : decode cX0_init 5 = .ok (.bipush 72, 2) := by decide +kernel
theorem dX0_init_7 : decode cX0_init 7 = .ok (.newarray .int, 2) := by decide +kernel
theorem dX0_init_9 : decode cX0_init 9 = .ok (.putfield 9, 3) := by decide +kernel
theorem dX0_init_12 : decode cX0_init 12 = .ok (.return_, 1) := by decide +kernel
theorem dX1_init_0 : decode cX1_init 0 = .ok (.aload_n 0, 1) := by decide +kernel
theorem dX1_init_1 : decode cX1_init 1 = .ok (.invokespecial 3, 3) := by decide +kernel
theorem dX1_init_4 : decode cX1_init 4 = .ok (.aload_n 0, 1) := by decide +kernel
theorem dX1_init_5 : decode cX1_init 5 = .ok (.iconst 3, 1) := by decide +kernel
theorem dX1_init_6 : decode cX1_init 6 = .ok (.putfield 9, 3) := by decide +kernel
theorem dX1_init_9 : decode cX1_init 9 = .ok (.aload_n 0, 1) := by decide +kernel
theorem dX1_init_10 : decode cX1_init 10 = .ok (.iconst 0, 1) := by decide +kernel
theorem dX1_init_11 : decode cX1_init 11 = .ok (.putfield 15, 3) := by decide +kernel
theorem dX1_init_14 : decode cX1_init 14 = .ok (.aload_n 0, 1) := by decide +kernel
theorem dX1_init_15 : decode cX1_init 15 = .ok (.iconst 2, 1) := by decide +kernel
theorem dX1_init_16 : decode cX1_init 16 = .ok (.putfield 18, 3) := by decide +kernel
theorem dX1_init_19 : decode cX1_init 19 = .ok (.aload_n 0, 1) := by decide +kernel
theorem dX1_init_20 : decode cX1_init 20 = .ok (.iconst 4, 1) := by decide +kernel
theorem dX1_init_21 : decode cX1_init 21 = .ok (.newarray .int, 2) := by decide +kernel
theorem dX1_init_23 : decode cX1_init 23 = .ok (.dup, 1) := by decide +kernel
theorem dX1_init_24 : decode cX1_init 24 = .ok (.iconst 0, 1) := by decide +kernel
theorem dX1_init_25 : decode cX1_init 25 = .ok (.iconst 1, 1) := by decide +kernel
theorem dX1_init_26 : decode cX1_init 26 = .ok (.iastore, 1) := by decide +kernel
theorem dX1_init_27 : decode cX1_init 27 = .ok (.dup, 1) := by decide +kernel
theorem dX1_init_28 : decode cX1_init 28 = .ok (.iconst 1, 1) := by decide +kernel
theorem dX1_init_29 : decode cX1_init 29 = .ok (.iconst 1, 1) := by decide +kernel
theorem dX1_init_30 : decode cX1_init 30 = .ok (.iastore, 1) := by decide +kernel
theorem dX1_init_31 : decode cX1_init 31 = .ok (.dup, 1) := by decide +kernel
theorem dX1_init_32 : decode cX1_init 32 = .ok (.iconst 2, 1) := by decide +kernel
theorem dX1_init_33 : decode cX1_init 33 = .ok (.iconst 1, 1) := by decide +kernel
theorem dX1_init_34 : decode cX1_init 34 = .ok (.iastore, 1) := by decide +kernel
theorem dX1_init_35 : decode cX1_init 35 = .ok (.dup, 1) := by decide +kernel
theorem dX1_init_36 : decode cX1_init 36 = .ok (.iconst 3, 1) := by decide +kernel
theorem dX1_init_37 : decode cX1_init 37 = .ok (.iconst 1, 1) := by decide +kernel
theorem dX1_init_38 : decode cX1_init 38 = .ok (.iastore, 1) := by decide +kernel
theorem dX1_init_39 : decode cX1_init 39 = .ok (.putfield 21, 3) := by decide +kernel
theorem dX1_init_42 : decode cX1_init 42 = .ok (.return_, 1) := by decide +kernel
theorem dX2_init_0 : decode cX2_init 0 = .ok (.aload_n 0, 1) := by decide +kernel
theorem dX2_init_1 : decode cX2_init 1 = .ok (.invokespecial 3, 3) := by decide +kernel
theorem dX2_init_4 : decode cX2_init 4 = .ok (.aload_n 0, 1) := by decide +kernel
theorem dX2_init_5 : decode cX2_init 5 = .ok (.bipush 48, 2) := by decide +kernel
theorem dX2_init_7 : decode cX2_init 7 = .ok (.newarray .int, 2) := by decide +kernel
theorem dX2_init_9 : decode cX2_init 9 = .ok (.putfield 9, 3) := by decide +kernel
theorem dX2_init_12 : decode cX2_init 12 = .ok (.aload_n 0, 1) := by decide +kernel
theorem dX2_init_13 : decode cX2_init 13 = .ok (.iconst (-1), 1) := by decide +kernel
theorem dX2_init_14 : decode cX2_init 14 = .ok (.putfield 15, 3) := by decide +kernel
theorem dX2_init_17 : decode cX2_init 17 = .ok (.return_, 1) := by decide +kernel
theorem dX3_init_0 : decode cX3_init 0 = .ok (.aload_n 0, 1) := by decide +kernel
theorem dX3_init_1 : decode cX3_init 1 = .ok (.invokespecial 1, 3) := by decide +kernel
theorem dX3_init_4 : decode cX3_init 4 = .ok (.aload_n 0, 1) := by decide +kernel
theorem dX3_init_5 : decode cX3_init 5 = .ok (.new 7, 3) := by decide +kernel
theorem dX3_init_8 : decode cX3_init 8 = .ok (.dup, 1) := by decide +kernel
theorem dX3_init_9 : decode cX3_init 9 = .ok (.invokespecial 9, 3) := by decide +kernel
theorem dX3_init_12 : decode cX3_init 12 = .ok (.putfield 10, 3) := by decide +kernel
theorem dX3_init_15 : decode cX3_init 15 = .ok (.aload_n 0, 1) := by decide +kernel
theorem dX3_init_16 : decode cX3_init 16 = .ok (.new 16, 3) := by decide +kernel
theorem dX3_init_19 : decode cX3_init 19 = .ok (.dup, 1) := by decide +kernel
theorem dX3_init_20 : decode cX3_init 20 = .ok (.invokespecial 18, 3) := by decide +kernel
theorem dX3_init_23 : decode cX3_init 23 = .ok (.putfield 19, 3) := by decide +kernel
theorem dX3_init_26 : decode cX3_init 26 = .ok (.aload_n 0, 1) := by decide +kernel
theorem dX3_init_27 : decode cX3_init 27 = .ok (.iconst 1, 1) := by decide +kernel
theorem dX3_init_28 : decode cX3_init 28 = .ok (.putfield 23, 3) := by decide +kernel
theorem dX3_init_31 : decode cX3_init 31 = .ok (.return_, 1) := by decide +kernel
theorem dX4_init_0 : decode cX4_init 0 = .ok (.aload_n 0, 1) := by decide +kernel
theorem dX4_init_1 : decode cX4_init 1 = .ok (.invokespecial 3, 3) := by decide +kernel
theorem dX4_init_4 : decode cX4_init 4 = .ok (.aload_n 0, 1) := by decide +kernel
theorem dX4_init_5 : decode cX4_init 5 = .ok (.bipush 100, 2) := by decide +kernel
theorem dX4_init_7 : decode cX4_init 7 = .ok (.newarray .int, 2) := by decide +kernel
theorem dX4_init_9 : decode cX4_init 9 = .ok (.putfield 9, 3) := by decide +kernel
theorem dX4_init_12 : decode cX4_init 12 = .ok (.return_, 1) := by decide +kernel
theorem dX5_init_0 : decode cX5_init 0 = .ok (.aload_n 0, 1) := by decide +kernel
theorem dX5_init_1 : decode cX5_init 1 = .ok (.invokespecial 1, 3) := by decide +kernel
theorem dX5_init_4 : decode cX5_init 4 = .ok (.aload_n 0, 1) := by decide +kernel
theorem dX5_init_5 : decode cX5_init 5 = .ok (.new 7, 3) := by decide +kernel
theorem dX5_init_8 : decode cX5_init 8 = .ok (.dup, 1) := by decide +kernel
theorem dX5_init_9 : decode cX5_init 9 = .ok (.invokespecial 9, 3) := by decide +kernel
theorem dX5_init_12 : decode cX5_init 12 = .ok (.putfield 10, 3) := by decide +kernel
theorem dX5_init_15 : decode cX5_init 15 = .ok (.aload_n 0, 1) := by decide +kernel
theorem dX5_init_16 : decode cX5_init 16 = .ok (.new 7, 3) := by decide +kernel
theorem dX5_init_19 : decode cX5_init 19 = .ok (.dup, 1) := by decide +kernel
theorem dX5_init_20 : decode cX5_init 20 = .ok (.invokespecial 9, 3) := by decide +kernel
theorem dX5_init_23 : decode cX5_init 23 = .ok (.putfield 16, 3) := by decide +kernel
theorem dX5_init_26 : decode cX5_init 26 = .ok (.aload_n 0, 1) := by decide +kernel
theorem dX5_init_27 : decode cX5_init 27 = .ok (.new 19, 3) := by decide +kernel
theorem dX5_init_30 : decode cX5_init 30 = .ok (.dup, 1) := by decide +kernel
theorem dX5_init_31 : decode cX5_init 31 = .ok (.invokespecial 21, 3) := by decide +kernel
theorem dX5_init_34 : decode cX5_init 34 = .ok (.putfield 22, 3) := by decide +kernel
theorem dX5_init_37 : decode cX5_init 37 = .ok (.aload_n 0, 1) := by decide +kernel
theorem dX5_init_38 : decode cX5_init 38 = .ok (.iconst 4, 1) := by decide +kernel
theorem dX5_init_39 : decode cX5_init 39 = .ok (.anewarray 26, 3) := by decide +kernel
theorem dX5_init_42 : decode cX5_init 42 = .ok (.putfield 28, 3) := by decide +kernel
theorem dX5_init_45 : decode cX5_init 45 = .ok (.aload_n 0, 1) := by decide +kernel
theorem dX5_init_46 : decode cX5_init 46 = .ok (.new 32, 3) := by decide +kernel
theorem dX5_init_49 : decode cX5_init 49 = .ok (.dup, 1) := by decide +kernel
theorem dX5_init_50 : decode cX5_init 50 = .ok (.invokespecial 34, 3) := by decide +kernel
theorem dX5_init_53 : decode cX5_init 53 = .ok (.putfield 35, 3) := by decide +kernel
theorem dX5_init_56 : decode cX5_init 56 = .ok (.aload_n 0, 1) := by decide +kernel
theorem dX5_init_57 : decode cX5_init 57 = .ok (.new 32, 3) := by decide +kernel
theorem dX5_init_60 : decode cX5_init 60 = .ok (.dup, 1) := by decide +kernel
theorem dX5_init_61 : decode cX5_init 61 = .ok (.invokespecial 34, 3) := by decide +kernel
theorem dX5_init_64 : decode cX5_init 64 = .ok (.putfield 39, 3) := by decide +kernel
theorem dX5_init_67 : decode cX5_init 67 = .ok (.aload_n 0, 1) := by decide +kernel
theorem dX5_init_68 : decode cX5_init 68 = .ok (.iconst 4, 1) := by decide +kernel
theorem dX5_init_69 : decode cX5_init 69 = .ok (.newarray .int, 2) := by decide +kernel
theorem dX5_init_71 : decode cX5_init 71 = .ok (.putfield 42, 3) := by decide +kernel
theorem dX5_init_74 : decode cX5_init 74 = .ok (.iconst 0, 1) := by decide +kernel
theorem dX5_init_75 : decode cX5_init 75 = .ok (.istore_n 1, 1) := by decide +kernel
theorem dX5_init_76 : decode cX5_init 76 = .ok (.iload_n 1, 1) := by decide +kernel
theorem dX5_init_77 : decode cX5_init 77 = .ok (.iconst 4, 1) := by decide +kernel
theorem dX5_init_78 : decode cX5_init 78 = .ok (.if_icmp .ge 22, 3) := by decide +kernel
theorem dX5_init_81 : decode cX5_init 81 = .ok (.aload_n 0, 1) := by decide +kernel
theorem dX5_init_82 : decode cX5_init 82 = .ok (.getfield 28, 3) := by decide +kernel
theorem dX5_init_85 : decode cX5_init 85 = .ok (.iload_n 1, 1) := by decide +kernel
theorem dX5_init_86 : decode cX5_init 86 = .ok (.new 26, 3) := by decide +kernel
theorem dX5_init_89 : decode cX5_init 89 = .ok (.dup, 1) := by decide +kernel
theorem dX5_init_90 : decode cX5_init 90 = .ok (.invokespecial 46, 3) := by decide +kernel
theorem dX5_init_93 : decode cX5_init 93 = .ok (.aastore, 1) := by decide +kernel
theorem dX5_init_94 : decode cX5_init 94 = .ok (.iinc 1 1, 3) := by decide +kernel
theorem dX5_init_97 : decode cX5_init 97 = .ok (.goto (-21), 3) := by decide +kernel
theorem dX5_init_100 : decode cX5_init 100 = .ok (.return_, 1) := by decide +kernel
theorem dX6_init_0 : decode cX6_init 0 = .ok (.aload_n 0, 1) := by decide +kernel
theorem dX6_init_1 : decode cX6_init 1 = .ok (.invokespecial 1, 3) := by decide +kernel
theorem dX6_init_4 : decode cX6_init 4 = .ok (.aload_n 0, 1) := by decide +kernel
theorem dX6_init_5 : decode cX6_init 5 = .ok (.bipush 57, 2) := by decide +kernel
theorem dX6_init_7 : decode cX6_init 7 = .ok (.newarray .int, 2) := by decide +kernel
theorem dX6_init_9 : decode cX6_init 9 = .ok (.putfield 7, 3) := by decide +kernel
theorem dX6_init_12 : decode cX6_init 12 = .ok (.aload_n 0, 1) := by decide +kernel
theorem dX6_init_13 : decode cX6_init 13 = .ok (.bipush 57, 2) := by decide +kernel
theorem dX6_init_15 : decode cX6_init 15 = .ok (.newarray .int, 2) := by decide +kernel
theorem dX6_init_17 : decode cX6_init 17 = .ok (.putfield 13, 3) := by decide +kernel
theorem dX6_init_20 : decode cX6_init 20 = .ok (.aload_n 0, 1) := by decide +kernel
theorem dX6_init_21 : decode cX6_init 21 = .ok (.bipush 100, 2) := by decide +kernel
theorem dX6_init_23 : decode cX6_init 23 = .ok (.newarray .int, 2) := by decide +kernel
theorem dX6_init_25 : decode cX6_init 25 = .ok (.putfield 16, 3) := by decide +kernel
theorem dX6_init_28 : decode cX6_init 28 = .ok (.aload_n 0, 1) := by decide +kernel
theorem dX6_init_29 : decode cX6_init 29 = .ok (.iconst 4, 1) := by decide +kernel
theorem dX6_init_30 : decode cX6_init 30 = .ok (.newarray .int, 2) := by decide +kernel
theorem dX6_init_32 : decode cX6_init 32 = .ok (.putfield 19, 3) := by decide +kernel
theorem dX6_init_35 : decode cX6_init 35 = .ok (.aload_n 0, 1) := by decide +kernel
theorem dX6_init_36 : decode cX6_init 36 = .ok (.iconst 4, 1) := by decide +kernel
theorem dX6_init_37 : decode cX6_init 37 = .ok (.newarray .int, 2) := by decide +kernel
theorem dX6_init_39 : decode cX6_init 39 = .ok (.putfield 22, 3) := by decide +kernel
theorem dX6_init_42 : decode cX6_init 42 = .ok (.aload_n 0, 1) := by decide +kernel
theorem dX6_init_43 : decode cX6_init 43 = .ok (.sipush 192, 3) := by decide +kernel
theorem dX6_init_46 : decode cX6_init 46 = .ok (.newarray .int, 2) := by decide +kernel
theorem dX6_init_48 : decode cX6_init 48 = .ok (.putfield 25, 3) := by decide +kernel
theorem dX6_init_51 : decode cX6_init 51 = .ok (.aload_n 0, 1) := by decide +kernel
theorem dX6_init_52 : decode cX6_init 52 = .ok (.bipush 80, 2) := by decide +kernel
theorem dX6_init_54 : decode cX6_init 54 = .ok (.newarray .int, 2) := by decide +kernel
theorem dX6_init_56 : decode cX6_init 56 = .ok (.putfield 28, 3) := by decide +kernel
theorem dX6_init_59 : decode cX6_init 59 = .ok (.aload_n 0, 1) := by decide +kernel
theorem dX6_init_60 : decode cX6_init 60 = .ok (.iconst 4, 1) := by decide +kernel
theorem dX6_init_61 : decode cX6_init 61 = .ok (.newarray .int, 2) := by decide +kernel
theorem dX6_init_63 : decode cX6_init 63 = .ok (.putfield 31, 3) := by decide +kernel
theorem dX6_init_66 : decode cX6_init 66 = .ok (.aload_n 0, 1) := by decide +kernel
theorem dX6_init_67 : decode cX6_init 67 = .ok (.bipush 24, 2) := by decide +kernel
theorem dX6_init_69 : decode cX6_init 69 = .ok (.newarray .int, 2) := by decide +kernel
theorem dX6_init_71 : decode cX6_init 71 = .ok (.putfield 34, 3) := by decide +kernel
theorem dX6_init_74 : decode cX6_init 74 = .ok (.aload_n 0, 1) := by decide +kernel
theorem dX6_init_75 : decode cX6_init 75 = .ok (.bipush 8, 2) := by decide +kernel
theorem dX6_init_77 : decode cX6_init 77 = .ok (.newarray .int, 2) := by decide +kernel
theorem dX6_init_79 : decode cX6_init 79 = .ok (.putfield 37, 3) := by decide +kernel
theorem dX6_init_82 : decode cX6_init 82 = .ok (.aload_n 0, 1) := by decide +kernel
theorem dX6_init_83 : decode cX6_init 83 = .ok (.bipush 9, 2) := by decide +kernel
theorem dX6_init_85 : decode cX6_init 85 = .ok (.newarray .boolean, 2) := by decide +kernel
theorem dX6_init_87 : decode cX6_init 87 = .ok (.putfield 40, 3) := by decide +kernel
theorem dX6_init_90 : decode cX6_init 90 = .ok (.aload_n 0, 1) := by decide +kernel
theorem dX6_init_91 : decode cX6_init 91 = .ok (.bipush 9, 2) := by decide +kernel
theorem dX6_init_93 : decode cX6_init 93 = .ok (.newarray .boolean, 2) := by decide +kernel
theorem dX6_init_95 : decode cX6_init 95 = .ok (.putfield 44, 3) := by decide +kernel
theorem dX6_init_98 : decode cX6_init 98 = .ok (.aload_n 0, 1) := by decide +kernel
theorem dX6_init_99 : decode cX6_init 99 = .ok (.bipush 9, 2) := by decide +kernel
theorem dX6_init_101 : decode cX6_init 101 = .ok (.newarray .boolean, 2) := by decide +kernel
theorem dX6_init_103 : decode cX6_init 103 = .ok (.putfield 47, 3) := by decide +kernel
theorem dX6_init_106 : decode cX6_init 106 = .ok (.aload_n 0, 1) := by decide +kernel
theorem dX6_init_107 : decode cX6_init 107 = .ok (.getfield 7, 3) := by decide +kernel
theorem dX6_init_110 : decode cX6_init 110 = .ok (.iconst 0, 1) := by decide +kernel
theorem dX6_init_111 : decode cX6_init 111 = .ok (.iconst 3, 1) := by decide +kernel
theorem dX6_init_112 : decode cX6_init 112 = .ok (.iastore, 1) := by decide +kernel
theorem dX6_init_113 : decode cX6_init 113 = .ok (.aload_n 0, 1) := by decide +kernel
theorem dX6_init_114 : decode cX6_init 114 = .ok (.getfield 7, 3) := by decide +kernel
theorem dX6_init_117 : decode cX6_init 117 = .ok (.iconst 2, 1) := by decide +kernel
theorem dX6_init_118 : decode cX6_init 118 = .ok (.iconst 2, 1) := by decide +kernel
theorem dX6_init_119 : decode cX6_init 119 = .ok (.iastore, 1) := by decide +kernel
theorem dX6_init_120 : decode cX6_init 120 = .ok (.aload_n 0, 1) := by decide +kernel
theorem dX6_init_121 : decode cX6_init 121 = .ok (.getfield 7, 3) := by decide +kernel
theorem dX6_init_124 : decode cX6_init 124 = .ok (.iconst 3, 1) := by decide +kernel
theorem dX6_init_125 : decode cX6_init 125 = .ok (.iconst 1, 1) := by decide +kernel
theorem dX6_init_126 : decode cX6_init 126 = .ok (.iastore, 1) := by decide +kernel
theorem dX6_init_127 : decode cX6_init 127 = .ok (.iconst 0, 1) := by decide +kernel
theorem dX6_init_128 : decode cX6_init 128 = .ok (.istore_n 1, 1) := by decide +kernel
theorem dX6_init_129 : decode cX6_init 129 = .ok (.iload_n 1, 1) := by decide +kernel
theorem dX6_init_130 : decode cX6_init 130 = .ok (.iconst 4, 1) := by decide +kernel
theorem dX6_init_131 : decode cX6_init 131 = .ok (.if_icmp .ge 25, 3) := by decide +kernel
theorem dX6_init_134 : decode cX6_init 134 = .ok (.aload_n 0, 1) := by decide +kernel
theorem dX6_init_135 : decode cX6_init 135 = .ok (.getfield 7, 3) := by decide +kernel
theorem dX6_init_138 : decode cX6_init 138 = .ok (.iconst 5, 1) := by decide +kernel
theorem dX6_init_139 : decode cX6_init 139 = .ok (.iload_n 1, 1) := by decide +kernel
theorem dX6_init_140 : decode cX6_init 140 = .ok (.iadd, 1) := by decide +kernel
theorem dX6_init_141 : decode cX6_init 141 = .ok (.iconst 1, 1) := by decide +kernel
theorem dX6_init_142 : decode cX6_init 142 = .ok (.iastore, 1) := by decide +kernel
theorem dX6_init_143 : decode cX6_init 143 = .ok (.aload_n 0, 1) := by decide +kernel
theorem dX6_init_144 : decode cX6_init 144 = .ok (.getfield 19, 3) := by decide +kernel
theorem dX6_init_147 : decode cX6_init 147 = .ok (.iload_n 1, 1) := by decide +kernel
theorem dX6_init_148 : decode cX6_init 148 = .ok (.iconst (-1), 1) := by decide +kernel
theorem dX6_init_149 : decode cX6_init 149 = .ok (.iastore, 1) := by decide +kernel
theorem dX6_init_150 : decode cX6_init 150 = .ok (.iinc 1 1, 3) := by decide +kernel
theorem dX6_init_153 : decode cX6_init 153 = .ok (.goto (-24), 3) := by decide +kernel
theorem dX6_init_156 : decode cX6_init 156 = .ok (.return_, 1) := by decide +kernel
theorem dL_law_0 : decode cL_law 0 = .ok (.new 7, 3) := by decide +kernel
theorem dL_law_3 : decode cL_law 3 = .ok (.dup, 1) := by decide +kernel
theorem dL_law_4 : decode cL_law 4 = .ok (.invokespecial 9, 3) := by decide +kernel
theorem dL_law_7 : decode cL_law 7 = .ok (.astore_n 1, 1) := by decide +kernel
theorem dL_law_8 : decode cL_law 8 = .ok (.new 10, 3) := by decide +kernel
theorem dL_law_11 : decode cL_law 11 = .ok (.dup, 1) := by decide +kernel
theorem dL_law_12 : decode cL_law 12 = .ok (.invokespecial 12, 3) := by decide +kernel
theorem dL_law_15 : decode cL_law 15 = .ok (.astore_n 2, 1) := by decide +kernel
theorem dL_law_16 : decode cL_law 16 = .ok (.iconst 0, 1) := by decide +kernel
theorem dL_law_17 : decode cL_law 17 = .ok (.istore_n 3, 1) := by decide +kernel
theorem dL_law_18 : decode cL_law 18 = .ok (.iload_n 3, 1) := by decide +kernel
theorem dL_law_19 : decode cL_law 19 = .ok (.aload_n 0, 1) := by decide +kernel
theorem dL_law_20 : decode cL_law 20 = .ok (.arraylength, 1) := by decide +kernel
theorem dL_law_21 : decode cL_law 21 = .ok (.bipush 6, 2) := by decide +kernel
theorem dL_law_23 : decode cL_law 23 = .ok (.isub, 1) := by decide +kernel
abbrev vwCl : List vw_C := [(RX0, TX0, 2), (RX1, TX1, 4), (RX2, TX2, 3), (RX3, TX3, 3), (RX4, TX4, 2), (RX5, TX5, 8), (RX6, TX6, 15)]
end
section
/-! tables of the small machine: methods, calls, fields, constants, code (made by wip/gen/gen.py out of the printed names) -/
abbrev zE : Type := Nat × Nat × Nat × Nat × Int
def zR : Nat → String := fun k => match k with
  | 0 => RX0
  | 1 => RX1
  | 2 => RX2
  | 3 => RX3
  | 4 => RX4
  | 5 => RX5
  | 6 => RX6
  | 7 => RJ0
  | 8 => RJ1
  | 9 => RJ6
  | 10 => RJ9
  | 11 => RL
  | _ => RL
def zT : Nat → u_T := fun k => match k with
  | 0 => TX0
  | 1 => TX1
  | 2 => TX2
  | 3 => TX3
  | 4 => TX4
  | 5 => TX5
  | 6 => TX6
  | _ => TX0
def zNf : Nat → Nat := fun k => match k with
  | 0 => 2
  | 1 => 4
  | 2 => 3
  | 3 => 3
  | 4 => 2
  | 5 => 8
  | 6 => 15
  | _ => 0
def zty : Nat → (Nat → FieldType) := fun k => match k with
  | 0 => tyX0
  | 1 => tyX1
  | 2 => tyX2
  | 3 => tyX3
  | 4 => tyX4
  | 5 => tyX5
  | 6 => tyX6
  | _ => tyX0
def zown : Nat → Nat := fun k => match k with
  | 0 => 0
  | 1 => 0
  | 2 => 0
  | 3 => 0
  | 4 => 0
  | 5 => 0
  | 6 => 0
  | 7 => 0
  | 8 => 1
  | 9 => 1
  | 10 => 1
  | 11 => 1
  | 12 => 1
  | 13 => 1
  | 14 => 1
  | 15 => 1
  | 16 => 1
  | 17 => 1
  | 18 => 1
  | 19 => 1
  | 20 => 2
  | 21 => 2
  | 22 => 2
  | 23 => 2
  | 24 => 3
  | 25 => 4
  | 26 => 4
  | 27 => 5
  | 28 => 5
  | 29 => 5
  | 30 => 5
  | 31 => 5
  | 32 => 5
  | 33 => 5
  | 34 => 5
  | 35 => 5
  | 36 => 5
  | 37 => 5
  | 38 => 5
  | 39 => 5
  | 40 => 5
  | 41 => 5
  | 42 => 5
  | 43 => 5
  | 44 => 5
  | 45 => 5
  | 46 => 5
  | 47 => 5
  | 48 => 5
  | 49 => 5
  | 50 => 5
  | 51 => 5
  | 52 => 5
  | 53 => 5
  | 54 => 5
  | 55 => 5
  | 56 => 5
  | 57 => 5
  | 58 => 5
  | 59 => 5
  | 60 => 5
  | 61 => 5
  | 62 => 5
  | 63 => 5
  | 64 => 5
  | 65 => 5
  | 66 => 5
  | 67 => 5
  | 68 => 5
  | 69 => 5
  | 70 => 5
  | 71 => 5
  | 72 => 5
  | 73 => 5
  | 74 => 5
  | 75 => 5
  | 76 => 5
  | 77 => 6
  | 78 => 6
  | 79 => 6
  | 80 => 6
  | 81 => 6
  | 82 => 6
  | 83 => 6
  | 84 => 6
  | 85 => 6
  | 86 => 6
  | 87 => 6
  | 88 => 6
  | 89 => 6
  | 90 => 6
  | 91 => 6
  | 92 => 6
  | 93 => 6
  | 94 => 6
  | 95 => 6
  | 96 => 6
  | 97 => 6
  | 98 => 6
  | 99 => 6
  | 100 => 6
  | 101 => 6
  | 102 => 6
  | 103 => 6
  | 104 => 6
  | 105 => 6
  | 106 => 6
  | 107 => 6
  | 108 => 6
  | 109 => 6
  | 110 => 6
  | 111 => 6
  | 112 => 6
  | 113 => 6
  | 114 => 6
  | 115 => 6
  | 116 => 6
  | 117 => 6
  | 118 => 6
  | 119 => 6
  | 120 => 6
  | 121 => 6
  | 122 => 6
  | 123 => 6
  | 124 => 6
  | 125 => 6
  | 126 => 6
  | 127 => 6
  | 128 => 6
  | 129 => 7
  | 130 => 7
  | 131 => 7
  | 132 => 7
  | 133 => 7
  | 134 => 8
  | 135 => 8
  | 136 => 8
  | 137 => 9
  | 138 => 10
  | 139 => 10
  | 140 => 11
  | _ => 12
def zy : Nat → MethodName := fun k => match k with
  | 0 => yX0_has
  | 1 => yX0_at
  | 2 => yX0_put
  | 3 => yX0_add
  | 4 => yX0_cut
  | 5 => yX0_takeOut
  | 6 => yX0_takeFrom
  | 7 => yX0_repeats
  | 8 => yX1_hasColour
  | 9 => yX1_priceOf
  | 10 => yX1_setPrice
  | 11 => yX1_leastPrice
  | 12 => yX1_takeFrom
  | 13 => yX1_faultOf
  | 14 => yX1_holds
  | 15 => yX1_standsWith
  | 16 => yX1_isRing
  | 17 => yX1_stretchAtEnd
  | 18 => yX1_mixedAtEnd
  | 19 => yX1_tally
  | 20 => yX2_reaches
  | 21 => yX2_at
  | 22 => yX2_put
  | 23 => yX2_renew
  | 24 => yX3_takeFrom
  | 25 => yX4_at
  | 26 => yX4_add
  | 27 => yX5_colours
  | 28 => yX5_price
  | 29 => yX5_rule
  | 30 => yX5_paint
  | 31 => yX5_scrape
  | 32 => yX5_pale
  | 33 => yX5_type
  | 34 => yX5_byteOf
  | 35 => yX5_fence
  | 36 => yX5_readText
  | 37 => yX5_count
  | 38 => yX5_fault
  | 39 => yX5_may
  | 40 => yX5_openBehind
  | 41 => yX5_kind
  | 42 => yX5_far
  | 43 => yX5_go
  | 44 => yX5_goBehind
  | 45 => yX5_goOn
  | 46 => yX5_less
  | 47 => yX5_many
  | 48 => yX5_rings
  | 49 => yX5_rowsBehind
  | 50 => yX5_ring
  | 51 => yX5_findRing
  | 52 => yX5_cheap
  | 53 => yX5_cheapest
  | 54 => yX5_wins
  | 55 => yX5_canWin
  | 56 => yX5_isLost
  | 57 => yX5_tear
  | 58 => yX5_mends
  | 59 => yX5_replace
  | 60 => yX5_lots
  | 61 => yX5_drawn
  | 62 => yX5_seed
  | 63 => yX5_image
  | 64 => yX5_restore
  | 65 => yX5_storm
  | 66 => yX5_readLost
  | 67 => yX5_waysToMend
  | 68 => yX5_build
  | 69 => yX5_film
  | 70 => yX5_sheet
  | 71 => yX5_drop
  | 72 => yX5_item
  | 73 => yX5_copy
  | 74 => yX5_refusalOf
  | 75 => yX5_pageAt
  | 76 => yX5_isLane
  | 77 => yX6_in
  | 78 => yX6_changed
  | 79 => yX6_isLike
  | 80 => yX6_ends
  | 81 => yX6_faults
  | 82 => yX6_lay
  | 83 => yX6_mayCome
  | 84 => yX6_bits
  | 85 => yX6_isPale
  | 86 => yX6_isColour
  | 87 => yX6_colours
  | 88 => yX6_price
  | 89 => yX6_rule
  | 90 => yX6_paint
  | 91 => yX6_scrape
  | 92 => yX6_pale
  | 93 => yX6_type
  | 94 => yX6_colourOf
  | 95 => yX6_fence
  | 96 => yX6_count
  | 97 => yX6_fault
  | 98 => yX6_may
  | 99 => yX6_kind
  | 100 => yX6_reaches
  | 101 => yX6_far
  | 102 => yX6_go
  | 103 => yX6_less
  | 104 => yX6_goesOn
  | 105 => yX6_many
  | 106 => yX6_isRing
  | 107 => yX6_rings
  | 108 => yX6_ring
  | 109 => yX6_cheap
  | 110 => yX6_comes
  | 111 => yX6_wins
  | 112 => yX6_tear
  | 113 => yX6_mends
  | 114 => yX6_replace
  | 115 => yX6_lots
  | 116 => yX6_seed
  | 117 => yX6_image
  | 118 => yX6_restore
  | 119 => yX6_isSheet
  | 120 => yX6_found
  | 121 => yX6_isRising
  | 122 => yX6_storm
  | 123 => yX6_build
  | 124 => yX6_film
  | 125 => yX6_sheet
  | 126 => yX6_drop
  | 127 => yX6_item
  | 128 => yX6_copy
  | 129 => yJ0_length_8abf5
  | 130 => yJ0_indexOf_0f7a4
  | 131 => yJ0_indexOf_7cf53
  | 132 => yJ0_coder_7d493
  | 133 => yJ0_isLatin1_aae02
  | 134 => yJ1_canEncode_9a6ad
  | 135 => yJ1_indexOf_4cfef
  | 136 => yJ1_indexOfChar_4cfef
  | 137 => yJ6_bitCount_0f7a4
  | 138 => yJ9_max_7cf53
  | 139 => yJ9_min_7cf53
  | 140 => yL_law
  | _ => yL_law
def zb : Nat → ByteArray := fun k => match k with
  | 0 => cX0_has
  | 1 => cX0_at
  | 2 => cX0_put
  | 3 => cX0_add
  | 4 => cX0_cut
  | 5 => cX0_takeOut
  | 6 => cX0_takeFrom
  | 7 => cX0_repeats
  | 8 => cX1_hasColour
  | 9 => cX1_priceOf
  | 10 => cX1_setPrice
  | 11 => cX1_leastPrice
  | 12 => cX1_takeFrom
  | 13 => cX1_faultOf
  | 14 => cX1_holds
  | 15 => cX1_standsWith
  | 16 => cX1_isRing
  | 17 => cX1_stretchAtEnd
  | 18 => cX1_mixedAtEnd
  | 19 => cX1_tally
  | 20 => cX2_reaches
  | 21 => cX2_at
  | 22 => cX2_put
  | 23 => cX2_renew
  | 24 => cX3_takeFrom
  | 25 => cX4_at
  | 26 => cX4_add
  | 27 => cX5_colours
  | 28 => cX5_price
  | 29 => cX5_rule
  | 30 => cX5_paint
  | 31 => cX5_scrape
  | 32 => cX5_pale
  | 33 => cX5_type
  | 34 => cX5_byteOf
  | 35 => cX5_fence
  | 36 => cX5_readText
  | 37 => cX5_count
  | 38 => cX5_fault
  | 39 => cX5_may
  | 40 => cX5_openBehind
  | 41 => cX5_kind
  | 42 => cX5_far
  | 43 => cX5_go
  | 44 => cX5_goBehind
  | 45 => cX5_goOn
  | 46 => cX5_less
  | 47 => cX5_many
  | 48 => cX5_rings
  | 49 => cX5_rowsBehind
  | 50 => cX5_ring
  | 51 => cX5_findRing
  | 52 => cX5_cheap
  | 53 => cX5_cheapest
  | 54 => cX5_wins
  | 55 => cX5_canWin
  | 56 => cX5_isLost
  | 57 => cX5_tear
  | 58 => cX5_mends
  | 59 => cX5_replace
  | 60 => cX5_lots
  | 61 => cX5_drawn
  | 62 => cX5_seed
  | 63 => cX5_image
  | 64 => cX5_restore
  | 65 => cX5_storm
  | 66 => cX5_readLost
  | 67 => cX5_waysToMend
  | 68 => cX5_build
  | 69 => cX5_film
  | 70 => cX5_sheet
  | 71 => cX5_drop
  | 72 => cX5_item
  | 73 => cX5_copy
  | 74 => cX5_refusalOf
  | 75 => cX5_pageAt
  | 76 => cX5_isLane
  | 77 => cX6_in
  | 78 => cX6_changed
  | 79 => cX6_isLike
  | 80 => cX6_ends
  | 81 => cX6_faults
  | 82 => cX6_lay
  | 83 => cX6_mayCome
  | 84 => cX6_bits
  | 85 => cX6_isPale
  | 86 => cX6_isColour
  | 87 => cX6_colours
  | 88 => cX6_price
  | 89 => cX6_rule
  | 90 => cX6_paint
  | 91 => cX6_scrape
  | 92 => cX6_pale
  | 93 => cX6_type
  | 94 => cX6_colourOf
  | 95 => cX6_fence
  | 96 => cX6_count
  | 97 => cX6_fault
  | 98 => cX6_may
  | 99 => cX6_kind
  | 100 => cX6_reaches
  | 101 => cX6_far
  | 102 => cX6_go
  | 103 => cX6_less
  | 104 => cX6_goesOn
  | 105 => cX6_many
  | 106 => cX6_isRing
  | 107 => cX6_rings
  | 108 => cX6_ring
  | 109 => cX6_cheap
  | 110 => cX6_comes
  | 111 => cX6_wins
  | 112 => cX6_tear
  | 113 => cX6_mends
  | 114 => cX6_replace
  | 115 => cX6_lots
  | 116 => cX6_seed
  | 117 => cX6_image
  | 118 => cX6_restore
  | 119 => cX6_isSheet
  | 120 => cX6_found
  | 121 => cX6_isRising
  | 122 => cX6_storm
  | 123 => cX6_build
  | 124 => cX6_film
  | 125 => cX6_sheet
  | 126 => cX6_drop
  | 127 => cX6_item
  | 128 => cX6_copy
  | 129 => cJ0_length_8abf5
  | 130 => cJ0_indexOf_0f7a4
  | 131 => cJ0_indexOf_7cf53
  | 132 => cJ0_coder_7d493
  | 133 => cJ0_isLatin1_aae02
  | 134 => cJ1_canEncode_9a6ad
  | 135 => cJ1_indexOf_4cfef
  | 136 => cJ1_indexOfChar_4cfef
  | 137 => cJ6_bitCount_0f7a4
  | 138 => cJ9_max_7cf53
  | 139 => cJ9_min_7cf53
  | 140 => cL_law
  | _ => cL_law
def zl : Nat → Nat := fun k => match k with
  | 0 => 2
  | 1 => 2
  | 2 => 3
  | 3 => 2
  | 4 => 2
  | 5 => 3
  | 6 => 3
  | 7 => 6
  | 8 => 2
  | 9 => 2
  | 10 => 3
  | 11 => 3
  | 12 => 2
  | 13 => 3
  | 14 => 5
  | 15 => 3
  | 16 => 5
  | 17 => 7
  | 18 => 8
  | 19 => 1
  | 20 => 3
  | 21 => 2
  | 22 => 3
  | 23 => 4
  | 24 => 2
  | 25 => 2
  | 26 => 2
  | 27 => 3
  | 28 => 4
  | 29 => 4
  | 30 => 2
  | 31 => 2
  | 32 => 2
  | 33 => 6
  | 34 => 3
  | 35 => 2
  | 36 => 4
  | 37 => 5
  | 38 => 3
  | 39 => 1
  | 40 => 4
  | 41 => 3
  | 42 => 2
  | 43 => 3
  | 44 => 3
  | 45 => 6
  | 46 => 4
  | 47 => 2
  | 48 => 2
  | 49 => 9
  | 50 => 3
  | 51 => 8
  | 52 => 5
  | 53 => 8
  | 54 => 2
  | 55 => 5
  | 56 => 5
  | 57 => 2
  | 58 => 4
  | 59 => 4
  | 60 => 4
  | 61 => 5
  | 62 => 3
  | 63 => 1
  | 64 => 1
  | 65 => 9
  | 66 => 7
  | 67 => 9
  | 68 => 9
  | 69 => 7
  | 70 => 5
  | 71 => 4
  | 72 => 7
  | 73 => 8
  | 74 => 4
  | 75 => 2
  | 76 => 1
  | 77 => 6
  | 78 => 4
  | 79 => 5
  | 80 => 4
  | 81 => 3
  | 82 => 2
  | 83 => 4
  | 84 => 3
  | 85 => 2
  | 86 => 2
  | 87 => 3
  | 88 => 3
  | 89 => 3
  | 90 => 3
  | 91 => 2
  | 92 => 2
  | 93 => 6
  | 94 => 1
  | 95 => 4
  | 96 => 5
  | 97 => 3
  | 98 => 2
  | 99 => 5
  | 100 => 6
  | 101 => 2
  | 102 => 3
  | 103 => 3
  | 104 => 4
  | 105 => 4
  | 106 => 5
  | 107 => 4
  | 108 => 4
  | 109 => 7
  | 110 => 3
  | 111 => 5
  | 112 => 3
  | 113 => 5
  | 114 => 3
  | 115 => 6
  | 116 => 2
  | 117 => 2
  | 118 => 2
  | 119 => 2
  | 120 => 5
  | 121 => 5
  | 122 => 15
  | 123 => 7
  | 124 => 6
  | 125 => 5
  | 126 => 3
  | 127 => 6
  | 128 => 8
  | 129 => 1
  | 130 => 2
  | 131 => 3
  | 132 => 1
  | 133 => 1
  | 134 => 1
  | 135 => 4
  | 136 => 6
  | 137 => 1
  | 138 => 2
  | 139 => 2
  | 140 => 4
  | _ => 0
def zret : Nat → (Option FieldType) := fun k => match k with
  | 0 => (some .boolean)
  | 1 => (some .int)
  | 2 => none
  | 3 => none
  | 4 => none
  | 5 => none
  | 6 => none
  | 7 => (some .boolean)
  | 8 => (some .boolean)
  | 9 => (some .int)
  | 10 => none
  | 11 => (some .int)
  | 12 => none
  | 13 => (some .int)
  | 14 => (some .boolean)
  | 15 => (some .boolean)
  | 16 => (some .boolean)
  | 17 => (some .int)
  | 18 => (some .int)
  | 19 => (some .long)
  | 20 => (some .boolean)
  | 21 => (some .int)
  | 22 => none
  | 23 => none
  | 24 => none
  | 25 => (some .int)
  | 26 => none
  | 27 => (some .int)
  | 28 => (some .int)
  | 29 => (some .int)
  | 30 => (some .int)
  | 31 => (some .int)
  | 32 => (some .int)
  | 33 => (some .int)
  | 34 => (some .int)
  | 35 => (some .int)
  | 36 => (some .int)
  | 37 => (some .int)
  | 38 => (some .int)
  | 39 => (some .int)
  | 40 => (some .int)
  | 41 => (some .int)
  | 42 => (some .int)
  | 43 => (some .int)
  | 44 => (some .int)
  | 45 => (some .boolean)
  | 46 => (some .int)
  | 47 => (some .int)
  | 48 => (some .int)
  | 49 => (some .int)
  | 50 => (some .int)
  | 51 => (some .boolean)
  | 52 => (some .int)
  | 53 => (some .int)
  | 54 => (some .int)
  | 55 => (some .boolean)
  | 56 => (some .boolean)
  | 57 => (some .int)
  | 58 => (some .int)
  | 59 => (some .int)
  | 60 => (some .int)
  | 61 => (some .int)
  | 62 => (some .int)
  | 63 => (some .int)
  | 64 => (some .int)
  | 65 => (some .int)
  | 66 => (some .boolean)
  | 67 => (some .int)
  | 68 => (some .int)
  | 69 => (some .int)
  | 70 => (some .int)
  | 71 => (some .int)
  | 72 => (some .int)
  | 73 => (some .int)
  | 74 => (some .int)
  | 75 => (some (.object "PaleFence$Sheet"))
  | 76 => (some .boolean)
  | 77 => (some .boolean)
  | 78 => (some .int)
  | 79 => (some .boolean)
  | 80 => (some .int)
  | 81 => (some .int)
  | 82 => (some .int)
  | 83 => (some .int)
  | 84 => (some .int)
  | 85 => (some .boolean)
  | 86 => (some .boolean)
  | 87 => (some .int)
  | 88 => (some .int)
  | 89 => (some .int)
  | 90 => (some .int)
  | 91 => (some .int)
  | 92 => (some .int)
  | 93 => (some .int)
  | 94 => (some .int)
  | 95 => (some .int)
  | 96 => (some .int)
  | 97 => (some .int)
  | 98 => (some .int)
  | 99 => (some .int)
  | 100 => (some .int)
  | 101 => (some .int)
  | 102 => (some .int)
  | 103 => (some .int)
  | 104 => (some .boolean)
  | 105 => (some .int)
  | 106 => (some .boolean)
  | 107 => (some .int)
  | 108 => (some .int)
  | 109 => (some .int)
  | 110 => none
  | 111 => (some .int)
  | 112 => (some .int)
  | 113 => (some .int)
  | 114 => (some .int)
  | 115 => (some .int)
  | 116 => (some .int)
  | 117 => (some .int)
  | 118 => (some .int)
  | 119 => (some .boolean)
  | 120 => (some .int)
  | 121 => (some .boolean)
  | 122 => (some .int)
  | 123 => (some .int)
  | 124 => (some .int)
  | 125 => (some .int)
  | 126 => (some .int)
  | 127 => (some .int)
  | 128 => (some .int)
  | 129 => (some .int)
  | 130 => (some .int)
  | 131 => (some .int)
  | 132 => (some .byte)
  | 133 => (some .boolean)
  | 134 => (some .boolean)
  | 135 => (some .int)
  | 136 => (some .int)
  | 137 => (some .int)
  | 138 => (some .int)
  | 139 => (some .int)
  | 140 => (some .boolean)
  | _ => none
def zkd : Nat → Nat := fun k => match k with
  | 0 => 0
  | 1 => 0
  | 2 => 0
  | 3 => 0
  | 4 => 0
  | 5 => 0
  | 6 => 0
  | 7 => 0
  | 8 => 0
  | 9 => 0
  | 10 => 0
  | 11 => 0
  | 12 => 0
  | 13 => 0
  | 14 => 0
  | 15 => 0
  | 16 => 0
  | 17 => 0
  | 18 => 1
  | 19 => 1
  | 20 => 0
  | 21 => 0
  | 22 => 0
  | 23 => 0
  | 24 => 0
  | 25 => 0
  | 26 => 0
  | 27 => 0
  | 28 => 0
  | 29 => 0
  | 30 => 0
  | 31 => 0
  | 32 => 0
  | 33 => 0
  | 34 => 1
  | 35 => 0
  | 36 => 0
  | 37 => 0
  | 38 => 0
  | 39 => 0
  | 40 => 0
  | 41 => 0
  | 42 => 0
  | 43 => 0
  | 44 => 0
  | 45 => 1
  | 46 => 0
  | 47 => 0
  | 48 => 0
  | 49 => 1
  | 50 => 0
  | 51 => 1
  | 52 => 0
  | 53 => 1
  | 54 => 0
  | 55 => 1
  | 56 => 1
  | 57 => 0
  | 58 => 0
  | 59 => 0
  | 60 => 0
  | 61 => 1
  | 62 => 0
  | 63 => 0
  | 64 => 0
  | 65 => 0
  | 66 => 0
  | 67 => 1
  | 68 => 0
  | 69 => 0
  | 70 => 0
  | 71 => 0
  | 72 => 0
  | 73 => 0
  | 74 => 1
  | 75 => 0
  | 76 => 1
  | 77 => 1
  | 78 => 0
  | 79 => 0
  | 80 => 0
  | 81 => 0
  | 82 => 0
  | 83 => 0
  | 84 => 1
  | 85 => 0
  | 86 => 0
  | 87 => 0
  | 88 => 0
  | 89 => 0
  | 90 => 0
  | 91 => 0
  | 92 => 0
  | 93 => 0
  | 94 => 1
  | 95 => 0
  | 96 => 0
  | 97 => 0
  | 98 => 0
  | 99 => 0
  | 100 => 0
  | 101 => 0
  | 102 => 0
  | 103 => 0
  | 104 => 0
  | 105 => 0
  | 106 => 0
  | 107 => 0
  | 108 => 0
  | 109 => 0
  | 110 => 0
  | 111 => 0
  | 112 => 0
  | 113 => 0
  | 114 => 0
  | 115 => 0
  | 116 => 0
  | 117 => 0
  | 118 => 0
  | 119 => 1
  | 120 => 0
  | 121 => 0
  | 122 => 0
  | 123 => 0
  | 124 => 0
  | 125 => 0
  | 126 => 0
  | 127 => 0
  | 128 => 0
  | 129 => 0
  | 130 => 0
  | 131 => 0
  | 132 => 0
  | 133 => 0
  | 134 => 1
  | 135 => 1
  | 136 => 1
  | 137 => 1
  | 138 => 1
  | 139 => 1
  | 140 => 1
  | _ => 0
def zar : Nat → Nat := fun k => match k with
  | 0 => 1
  | 1 => 1
  | 2 => 2
  | 3 => 1
  | 4 => 1
  | 5 => 1
  | 6 => 2
  | 7 => 3
  | 8 => 1
  | 9 => 1
  | 10 => 2
  | 11 => 0
  | 12 => 1
  | 13 => 1
  | 14 => 3
  | 15 => 2
  | 16 => 1
  | 17 => 3
  | 18 => 3
  | 19 => 1
  | 20 => 2
  | 21 => 1
  | 22 => 2
  | 23 => 2
  | 24 => 1
  | 25 => 1
  | 26 => 1
  | 27 => 1
  | 28 => 2
  | 29 => 2
  | 30 => 1
  | 31 => 1
  | 32 => 1
  | 33 => 2
  | 34 => 2
  | 35 => 0
  | 36 => 0
  | 37 => 1
  | 38 => 1
  | 39 => 0
  | 40 => 1
  | 41 => 1
  | 42 => 1
  | 43 => 2
  | 44 => 2
  | 45 => 4
  | 46 => 1
  | 47 => 1
  | 48 => 1
  | 49 => 5
  | 50 => 2
  | 51 => 5
  | 52 => 2
  | 53 => 6
  | 54 => 1
  | 55 => 3
  | 56 => 3
  | 57 => 1
  | 58 => 1
  | 59 => 2
  | 60 => 1
  | 61 => 2
  | 62 => 1
  | 63 => 0
  | 64 => 0
  | 65 => 5
  | 66 => 3
  | 67 => 6
  | 68 => 4
  | 69 => 3
  | 70 => 3
  | 71 => 1
  | 72 => 4
  | 73 => 5
  | 74 => 4
  | 75 => 1
  | 76 => 1
  | 77 => 3
  | 78 => 2
  | 79 => 2
  | 80 => 1
  | 81 => 1
  | 82 => 0
  | 83 => 1
  | 84 => 1
  | 85 => 1
  | 86 => 1
  | 87 => 1
  | 88 => 2
  | 89 => 2
  | 90 => 1
  | 91 => 1
  | 92 => 1
  | 93 => 2
  | 94 => 1
  | 95 => 0
  | 96 => 1
  | 97 => 1
  | 98 => 0
  | 99 => 1
  | 100 => 2
  | 101 => 1
  | 102 => 2
  | 103 => 1
  | 104 => 2
  | 105 => 1
  | 106 => 1
  | 107 => 1
  | 108 => 2
  | 109 => 2
  | 110 => 2
  | 111 => 1
  | 112 => 1
  | 113 => 1
  | 114 => 2
  | 115 => 1
  | 116 => 1
  | 117 => 0
  | 118 => 0
  | 119 => 2
  | 120 => 4
  | 121 => 2
  | 122 => 5
  | 123 => 4
  | 124 => 3
  | 125 => 3
  | 126 => 1
  | 127 => 4
  | 128 => 5
  | 129 => 0
  | 130 => 1
  | 131 => 2
  | 132 => 0
  | 133 => 0
  | 134 => 1
  | 135 => 4
  | 136 => 4
  | 137 => 1
  | 138 => 2
  | 139 => 2
  | 140 => 1
  | _ => 0
def zN : Nat → Nat := fun k => match k with
  | 0 => 18
  | 1 => 24
  | 2 => 21
  | 3 => 40
  | 4 => 15
  | 5 => 50
  | 6 => 34
  | 7 => 48
  | 8 => 18
  | 9 => 24
  | 10 => 21
  | 11 => 31
  | 12 => 39
  | 13 => 30
  | 14 => 32
  | 15 => 24
  | 16 => 77
  | 17 => 86
  | 18 => 88
  | 19 => 7
  | 20 => 32
  | 21 => 24
  | 22 => 59
  | 23 => 35
  | 24 => 38
  | 25 => 25
  | 26 => 40
  | 27 => 76
  | 28 => 47
  | 29 => 79
  | 30 => 80
  | 31 => 52
  | 32 => 30
  | 33 => 106
  | 34 => 12
  | 35 => 40
  | 36 => 97
  | 37 => 100
  | 38 => 64
  | 39 => 15
  | 40 => 92
  | 41 => 77
  | 42 => 30
  | 43 => 61
  | 44 => 77
  | 45 => 89
  | 46 => 72
  | 47 => 38
  | 48 => 39
  | 49 => 116
  | 50 => 75
  | 51 => 102
  | 52 => 96
  | 53 => 94
  | 54 => 103
  | 55 => 64
  | 56 => 64
  | 57 => 53
  | 58 => 98
  | 59 => 56
  | 60 => 130
  | 61 => 53
  | 62 => 24
  | 63 => 18
  | 64 => 23
  | 65 => 193
  | 66 => 77
  | 67 => 131
  | 68 => 126
  | 69 => 95
  | 70 => 43
  | 71 => 35
  | 72 => 40
  | 73 => 110
  | 74 => 51
  | 75 => 24
  | 76 => 15
  | 77 => 19
  | 78 => 16
  | 79 => 173
  | 80 => 79
  | 81 => 25
  | 82 => 40
  | 83 => 49
  | 84 => 22
  | 85 => 16
  | 86 => 16
  | 87 => 57
  | 88 => 37
  | 89 => 44
  | 90 => 67
  | 91 => 44
  | 92 => 22
  | 93 => 140
  | 94 => 43
  | 95 => 121
  | 96 => 106
  | 97 => 44
  | 98 => 23
  | 99 => 70
  | 100 => 155
  | 101 => 26
  | 102 => 43
  | 103 => 69
  | 104 => 92
  | 105 => 62
  | 106 => 118
  | 107 => 55
  | 108 => 72
  | 109 => 158
  | 110 => 31
  | 111 => 229
  | 112 => 77
  | 113 => 66
  | 114 => 30
  | 115 => 161
  | 116 => 15
  | 117 => 33
  | 118 => 38
  | 119 => 30
  | 120 => 57
  | 121 => 73
  | 122 => 253
  | 123 => 143
  | 124 => 84
  | 125 => 68
  | 126 => 42
  | 127 => 64
  | 128 => 176
  | 129 => 11
  | 130 => 7
  | 131 => 37
  | 132 => 15
  | 133 => 19
  | 134 => 17
  | 135 => 37
  | 136 => 33
  | 137 => 53
  | 138 => 11
  | 139 => 11
  | 140 => 1214
  | _ => 0
def zc_X0_has : Nat → zE := fun pc => match pc with
  | 0 => (1, 1, 1, 0, 0)
  | 1 => (16, 4, 2, 16, 0)
  | 4 => (1, 5, 1, 0, 0)
  | 5 => (2, 6, 0, 0, 0)
  | 6 => (20, 9, 0, 1, 0)
  | 9 => (17, 12, 3, 16, 0)
  | 12 => (0, 13, 0, 0, 1)
  | 13 => (19, 16, 0, 17, 0)
  | 16 => (0, 17, 0, 0, 0)
  | 17 => (35, 18, 0, 0, 0)
  | _ => (99, 0, 0, 0, 0)
def zc_X0_at : Nat → zE := fun pc => match pc with
  | 0 => (1, 1, 1, 0, 0)
  | 1 => (16, 4, 2, 22, 0)
  | 4 => (1, 5, 1, 0, 0)
  | 5 => (2, 6, 0, 0, 0)
  | 6 => (20, 9, 0, 0, 0)
  | 9 => (27, 10, 0, 0, 0)
  | 10 => (17, 13, 3, 22, 0)
  | 13 => (2, 14, 0, 0, 0)
  | 14 => (20, 17, 0, 0, 0)
  | 17 => (1, 18, 1, 0, 0)
  | 18 => (23, 19, 0, 0, 0)
  | 19 => (19, 22, 0, 23, 0)
  | 22 => (0, 23, 0, 0, 0)
  | 23 => (34, 24, 0, 0, 0)
  | _ => (99, 0, 0, 0, 0)
def zc_X0_put : Nat → zE := fun pc => match pc with
  | 0 => (1, 1, 1, 0, 0)
  | 1 => (16, 4, 2, 20, 0)
  | 4 => (1, 5, 1, 0, 0)
  | 5 => (2, 6, 0, 0, 0)
  | 6 => (20, 9, 0, 0, 0)
  | 9 => (27, 10, 0, 0, 0)
  | 10 => (17, 13, 3, 20, 0)
  | 13 => (2, 14, 0, 0, 0)
  | 14 => (20, 17, 0, 0, 0)
  | 17 => (1, 18, 1, 0, 0)
  | 18 => (1, 19, 2, 0, 0)
  | 19 => (24, 20, 0, 0, 0)
  | 20 => (37, 21, 0, 0, 0)
  | _ => (99, 0, 0, 0, 0)
def zc_X0_add : Nat → zE := fun pc => match pc with
  | 0 => (2, 1, 0, 0, 0)
  | 1 => (20, 4, 0, 1, 0)
  | 4 => (16, 7, 2, 39, 0)
  | 7 => (2, 8, 0, 0, 0)
  | 8 => (20, 11, 0, 1, 0)
  | 11 => (2, 12, 0, 0, 0)
  | 12 => (20, 15, 0, 0, 0)
  | 15 => (27, 16, 0, 0, 0)
  | 16 => (17, 19, 3, 39, 0)
  | 19 => (2, 20, 0, 0, 0)
  | 20 => (20, 23, 0, 0, 0)
  | 23 => (2, 24, 0, 0, 0)
  | 24 => (20, 27, 0, 1, 0)
  | 27 => (1, 28, 1, 0, 0)
  | 28 => (24, 29, 0, 0, 0)
  | 29 => (2, 30, 0, 0, 0)
  | 30 => (30, 31, 0, 0, 0)
  | 31 => (20, 34, 0, 1, 0)
  | 34 => (0, 35, 0, 0, 1)
  | 35 => (8, 36, 0, 0, 0)
  | 36 => (21, 39, 0, 1, 0)
  | 39 => (37, 40, 0, 0, 0)
  | _ => (99, 0, 0, 0, 0)
def zc_X0_cut : Nat → zE := fun pc => match pc with
  | 0 => (2, 1, 0, 0, 0)
  | 1 => (0, 2, 0, 0, 0)
  | 2 => (2, 3, 0, 0, 0)
  | 3 => (20, 6, 0, 1, 0)
  | 6 => (1, 7, 1, 0, 0)
  | 7 => (8, 8, 1, 0, 0)
  | 8 => (28, 11, 138, 2, 0)
  | 11 => (21, 14, 0, 1, 0)
  | 14 => (37, 15, 0, 0, 0)
  | _ => (99, 0, 0, 0, 0)
def zc_X0_takeOut : Nat → zE := fun pc => match pc with
  | 0 => (2, 1, 0, 0, 0)
  | 1 => (1, 2, 1, 0, 0)
  | 2 => (28, 5, 0, 2, 0)
  | 5 => (16, 8, 1, 9, 0)
  | 8 => (37, 9, 0, 0, 0)
  | 9 => (1, 10, 1, 0, 0)
  | 10 => (4, 11, 2, 0, 0)
  | 11 => (1, 12, 2, 0, 0)
  | 12 => (0, 13, 0, 0, 1)
  | 13 => (8, 14, 0, 0, 0)
  | 14 => (2, 15, 0, 0, 0)
  | 15 => (20, 18, 0, 1, 0)
  | 18 => (17, 21, 3, 39, 0)
  | 21 => (2, 22, 0, 0, 0)
  | 22 => (1, 23, 2, 0, 0)
  | 23 => (2, 24, 0, 0, 0)
  | 24 => (1, 25, 2, 0, 0)
  | 25 => (0, 26, 0, 0, 1)
  | 26 => (8, 27, 0, 0, 0)
  | 27 => (28, 30, 1, 2, 0)
  | 30 => (28, 33, 2, 3, 0)
  | 33 => (7, 36, 2, 0, 1)
  | 36 => (19, 39, 0, 11, 0)
  | 39 => (2, 40, 0, 0, 0)
  | 40 => (30, 41, 0, 0, 0)
  | 41 => (20, 44, 0, 1, 0)
  | 44 => (0, 45, 0, 0, 1)
  | 45 => (8, 46, 1, 0, 0)
  | 46 => (21, 49, 0, 1, 0)
  | 49 => (37, 50, 0, 0, 0)
  | _ => (99, 0, 0, 0, 0)
def zc_X0_takeFrom : Nat → zE := fun pc => match pc with
  | 0 => (2, 1, 0, 0, 0)
  | 1 => (0, 2, 0, 0, 0)
  | 2 => (1, 3, 2, 0, 0)
  | 3 => (2, 4, 1, 0, 0)
  | 4 => (20, 7, 0, 1, 0)
  | 7 => (28, 10, 139, 2, 0)
  | 10 => (28, 13, 138, 2, 0)
  | 13 => (21, 16, 0, 1, 0)
  | 16 => (2, 17, 1, 0, 0)
  | 17 => (20, 20, 0, 0, 0)
  | 20 => (0, 21, 0, 0, 0)
  | 21 => (2, 22, 0, 0, 0)
  | 22 => (20, 25, 0, 0, 0)
  | 25 => (0, 26, 0, 0, 0)
  | 26 => (2, 27, 0, 0, 0)
  | 27 => (20, 30, 0, 1, 0)
  | 30 => (29, 33, 0, 0, 0)
  | 33 => (37, 34, 0, 0, 0)
  | _ => (99, 0, 0, 0, 0)
def zc_X0_repeats : Nat → zE := fun pc => match pc with
  | 0 => (1, 1, 3, 0, 0)
  | 1 => (1, 2, 2, 0, 0)
  | 2 => (0, 3, 0, 0, 1)
  | 3 => (8, 4, 1, 0, 0)
  | 4 => (1, 5, 1, 0, 0)
  | 5 => (8, 6, 2, 0, 0)
  | 6 => (8, 7, 1, 0, 0)
  | 7 => (4, 9, 4, 0, 0)
  | 9 => (1, 10, 3, 0, 0)
  | 10 => (0, 11, 0, 0, 1)
  | 11 => (8, 12, 1, 0, 0)
  | 12 => (4, 14, 5, 0, 0)
  | 14 => (1, 16, 5, 0, 0)
  | 16 => (1, 18, 4, 0, 0)
  | 18 => (17, 21, 2, 46, 0)
  | 21 => (2, 22, 0, 0, 0)
  | 22 => (1, 24, 5, 0, 0)
  | 24 => (28, 27, 1, 2, 0)
  | 27 => (2, 28, 0, 0, 0)
  | 28 => (1, 30, 5, 0, 0)
  | 30 => (1, 31, 1, 0, 0)
  | 31 => (8, 32, 1, 0, 0)
  | 32 => (28, 35, 1, 2, 0)
  | 35 => (17, 38, 0, 40, 0)
  | 38 => (0, 39, 0, 0, 0)
  | 39 => (35, 40, 0, 0, 0)
  | 40 => (7, 43, 5, 0, (-1))
  | 43 => (19, 46, 0, 14, 0)
  | 46 => (0, 47, 0, 0, 1)
  | 47 => (35, 48, 0, 0, 0)
  | _ => (99, 0, 0, 0, 0)
def zc_X1_hasColour : Nat → zE := fun pc => match pc with
  | 0 => (1, 1, 1, 0, 0)
  | 1 => (16, 4, 2, 16, 0)
  | 4 => (1, 5, 1, 0, 0)
  | 5 => (2, 6, 0, 0, 0)
  | 6 => (20, 9, 1, 0, 0)
  | 9 => (17, 12, 3, 16, 0)
  | 12 => (0, 13, 0, 0, 1)
  | 13 => (19, 16, 0, 17, 0)
  | 16 => (0, 17, 0, 0, 0)
  | 17 => (35, 18, 0, 0, 0)
  | _ => (99, 0, 0, 0, 0)
def zc_X1_priceOf : Nat → zE := fun pc => match pc with
  | 0 => (1, 1, 1, 0, 0)
  | 1 => (16, 4, 2, 22, 0)
  | 4 => (1, 5, 1, 0, 0)
  | 5 => (2, 6, 0, 0, 0)
  | 6 => (20, 9, 1, 3, 0)
  | 9 => (27, 10, 0, 0, 0)
  | 10 => (17, 13, 3, 22, 0)
  | 13 => (2, 14, 0, 0, 0)
  | 14 => (20, 17, 1, 3, 0)
  | 17 => (1, 18, 1, 0, 0)
  | 18 => (23, 19, 0, 0, 0)
  | 19 => (19, 22, 0, 23, 0)
  | 22 => (0, 23, 0, 0, 0)
  | 23 => (34, 24, 0, 0, 0)
  | _ => (99, 0, 0, 0, 0)
def zc_X1_setPrice : Nat → zE := fun pc => match pc with
  | 0 => (1, 1, 1, 0, 0)
  | 1 => (16, 4, 2, 20, 0)
  | 4 => (1, 5, 1, 0, 0)
  | 5 => (2, 6, 0, 0, 0)
  | 6 => (20, 9, 1, 3, 0)
  | 9 => (27, 10, 0, 0, 0)
  | 10 => (17, 13, 3, 20, 0)
  | 13 => (2, 14, 0, 0, 0)
  | 14 => (20, 17, 1, 3, 0)
  | 17 => (1, 18, 1, 0, 0)
  | 18 => (1, 19, 2, 0, 0)
  | 19 => (24, 20, 0, 0, 0)
  | 20 => (37, 21, 0, 0, 0)
  | _ => (99, 0, 0, 0, 0)
def zc_X1_leastPrice : Nat → zE := fun pc => match pc with
  | 0 => (0, 2, 0, 0, 99)
  | 2 => (4, 3, 1, 0, 0)
  | 3 => (0, 4, 0, 0, 0)
  | 4 => (4, 5, 2, 0, 0)
  | 5 => (1, 6, 2, 0, 0)
  | 6 => (2, 7, 0, 0, 0)
  | 7 => (20, 10, 1, 0, 0)
  | 10 => (17, 13, 3, 29, 0)
  | 13 => (1, 14, 1, 0, 0)
  | 14 => (2, 15, 0, 0, 0)
  | 15 => (1, 16, 2, 0, 0)
  | 16 => (28, 19, 9, 2, 0)
  | 19 => (28, 22, 139, 2, 0)
  | 22 => (4, 23, 1, 0, 0)
  | 23 => (7, 26, 2, 0, 1)
  | 26 => (19, 29, 0, 5, 0)
  | 29 => (1, 30, 1, 0, 0)
  | 30 => (34, 31, 0, 0, 0)
  | _ => (99, 0, 0, 0, 0)
def zc_X1_takeFrom : Nat → zE := fun pc => match pc with
  | 0 => (2, 1, 0, 0, 0)
  | 1 => (2, 2, 1, 0, 0)
  | 2 => (20, 5, 1, 0, 0)
  | 5 => (21, 8, 1, 0, 0)
  | 8 => (2, 9, 0, 0, 0)
  | 9 => (2, 10, 1, 0, 0)
  | 10 => (20, 13, 1, 1, 0)
  | 13 => (21, 16, 1, 1, 0)
  | 16 => (2, 17, 0, 0, 0)
  | 17 => (2, 18, 1, 0, 0)
  | 18 => (20, 21, 1, 2, 0)
  | 21 => (21, 24, 1, 2, 0)
  | 24 => (2, 25, 1, 0, 0)
  | 25 => (20, 28, 1, 3, 0)
  | 28 => (0, 29, 0, 0, 0)
  | 29 => (2, 30, 0, 0, 0)
  | 30 => (20, 33, 1, 3, 0)
  | 33 => (0, 34, 0, 0, 0)
  | 34 => (0, 35, 0, 0, 4)
  | 35 => (29, 38, 0, 0, 0)
  | 38 => (37, 39, 0, 0, 0)
  | _ => (99, 0, 0, 0, 0)
def zc_X1_faultOf : Nat → zE := fun pc => match pc with
  | 0 => (0, 1, 0, 0, 1)
  | 1 => (4, 2, 2, 0, 0)
  | 2 => (1, 3, 2, 0, 0)
  | 3 => (2, 4, 1, 0, 0)
  | 4 => (20, 7, 0, 1, 1)
  | 7 => (17, 10, 4, 28, 0)
  | 10 => (2, 11, 0, 0, 0)
  | 11 => (2, 12, 1, 0, 0)
  | 12 => (0, 13, 0, 0, 0)
  | 13 => (1, 14, 2, 0, 0)
  | 14 => (28, 17, 17, 4, 0)
  | 17 => (16, 20, 0, 22, 0)
  | 20 => (1, 21, 2, 0, 0)
  | 21 => (34, 22, 0, 0, 0)
  | 22 => (7, 25, 2, 0, 1)
  | 25 => (19, 28, 0, 2, 0)
  | 28 => (0, 29, 0, 0, 0)
  | 29 => (34, 30, 0, 0, 0)
  | _ => (99, 0, 0, 0, 0)
def zc_X1_holds : Nat → zE := fun pc => match pc with
  | 0 => (1, 1, 2, 0, 0)
  | 1 => (0, 2, 0, 0, 1)
  | 2 => (8, 3, 0, 0, 0)
  | 3 => (4, 5, 4, 0, 0)
  | 5 => (1, 7, 4, 0, 0)
  | 7 => (1, 8, 3, 0, 0)
  | 8 => (17, 11, 4, 30, 0)
  | 11 => (2, 12, 0, 0, 0)
  | 12 => (2, 13, 1, 0, 0)
  | 13 => (0, 14, 0, 0, 0)
  | 14 => (1, 16, 4, 0, 0)
  | 16 => (28, 19, 17, 4, 0)
  | 19 => (16, 22, 0, 24, 0)
  | 22 => (0, 23, 0, 0, 0)
  | 23 => (35, 24, 0, 0, 0)
  | 24 => (7, 27, 4, 0, 1)
  | 27 => (19, 30, 0, 5, 0)
  | 30 => (0, 31, 0, 0, 1)
  | 31 => (35, 32, 0, 0, 0)
  | _ => (99, 0, 0, 0, 0)
def zc_X1_standsWith : Nat → zE := fun pc => match pc with
  | 0 => (2, 1, 1, 0, 0)
  | 1 => (1, 2, 2, 0, 0)
  | 2 => (28, 5, 3, 2, 1)
  | 5 => (2, 6, 0, 0, 0)
  | 6 => (2, 7, 1, 0, 0)
  | 7 => (0, 8, 0, 0, 0)
  | 8 => (2, 9, 1, 0, 0)
  | 9 => (20, 12, 0, 1, 1)
  | 12 => (28, 15, 17, 4, 0)
  | 15 => (16, 18, 1, 22, 0)
  | 18 => (0, 19, 0, 0, 1)
  | 19 => (19, 22, 0, 23, 0)
  | 22 => (0, 23, 0, 0, 0)
  | 23 => (35, 24, 0, 0, 0)
  | _ => (99, 0, 0, 0, 0)
def zc_X1_isRing : Nat → zE := fun pc => match pc with
  | 0 => (2, 1, 1, 0, 0)
  | 1 => (20, 4, 0, 1, 1)
  | 4 => (4, 5, 2, 0, 0)
  | 5 => (0, 6, 0, 0, 0)
  | 6 => (4, 7, 3, 0, 0)
  | 7 => (1, 8, 3, 0, 0)
  | 8 => (1, 9, 2, 0, 0)
  | 9 => (17, 12, 3, 27, 0)
  | 12 => (2, 13, 1, 0, 0)
  | 13 => (2, 14, 1, 0, 0)
  | 14 => (1, 15, 3, 0, 0)
  | 15 => (28, 18, 1, 2, 1)
  | 18 => (28, 21, 3, 2, 1)
  | 21 => (7, 24, 3, 0, 1)
  | 24 => (19, 27, 0, 7, 0)
  | 27 => (0, 28, 0, 0, 1)
  | 28 => (4, 29, 3, 0, 0)
  | 29 => (1, 30, 2, 0, 0)
  | 30 => (4, 32, 4, 0, 0)
  | 32 => (1, 34, 4, 0, 0)
  | 34 => (0, 35, 0, 0, 2)
  | 35 => (1, 36, 2, 0, 0)
  | 36 => (8, 37, 2, 0, 0)
  | 37 => (17, 40, 3, 70, 0)
  | 40 => (1, 41, 3, 0, 0)
  | 41 => (16, 44, 0, 70, 0)
  | 44 => (2, 45, 0, 0, 0)
  | 45 => (2, 46, 1, 0, 0)
  | 46 => (1, 48, 4, 0, 0)
  | 48 => (1, 49, 2, 0, 0)
  | 49 => (8, 50, 1, 0, 0)
  | 50 => (1, 52, 4, 0, 0)
  | 52 => (28, 55, 17, 4, 0)
  | 55 => (16, 58, 1, 62, 0)
  | 58 => (0, 59, 0, 0, 1)
  | 59 => (19, 62, 0, 63, 0)
  | 62 => (0, 63, 0, 0, 0)
  | 63 => (4, 64, 3, 0, 0)
  | 64 => (7, 67, 4, 0, 1)
  | 67 => (19, 70, 0, 32, 0)
  | 70 => (2, 71, 1, 0, 0)
  | 71 => (1, 72, 2, 0, 0)
  | 72 => (28, 75, 4, 2, 1)
  | 75 => (1, 76, 3, 0, 0)
  | 76 => (35, 77, 0, 0, 0)
  | _ => (99, 0, 0, 0, 0)
def zc_X1_stretchAtEnd : Nat → zE := fun pc => match pc with
  | 0 => (2, 1, 0, 0, 0)
  | 1 => (20, 4, 1, 1, 0)
  | 4 => (0, 5, 0, 0, 2)
  | 5 => (17, 8, 1, 15, 0)
  | 8 => (2, 9, 1, 0, 0)
  | 9 => (1, 10, 2, 0, 0)
  | 10 => (1, 11, 3, 0, 0)
  | 11 => (28, 14, 18, 3, 0)
  | 14 => (34, 15, 0, 0, 0)
  | 15 => (2, 16, 0, 0, 0)
  | 16 => (20, 19, 1, 1, 0)
  | 19 => (0, 20, 0, 0, 1)
  | 20 => (17, 23, 1, 27, 0)
  | 23 => (0, 24, 0, 0, 3)
  | 24 => (19, 27, 0, 28, 0)
  | 27 => (0, 28, 0, 0, 2)
  | 28 => (4, 30, 4, 0, 0)
  | 30 => (2, 31, 0, 0, 0)
  | 31 => (20, 34, 1, 1, 0)
  | 34 => (0, 35, 0, 0, 3)
  | 35 => (17, 38, 1, 45, 0)
  | 38 => (2, 39, 0, 0, 0)
  | 39 => (20, 42, 1, 2, 0)
  | 42 => (19, 45, 0, 46, 0)
  | 45 => (0, 46, 0, 0, 1)
  | 46 => (4, 48, 5, 0, 0)
  | 48 => (1, 50, 5, 0, 0)
  | 50 => (4, 52, 6, 0, 0)
  | 52 => (1, 54, 6, 0, 0)
  | 54 => (1, 56, 4, 0, 0)
  | 56 => (8, 57, 2, 0, 0)
  | 57 => (1, 58, 3, 0, 0)
  | 58 => (1, 59, 2, 0, 0)
  | 59 => (8, 60, 1, 0, 0)
  | 60 => (17, 63, 4, 84, 0)
  | 63 => (2, 64, 1, 0, 0)
  | 64 => (1, 66, 6, 0, 0)
  | 66 => (1, 68, 4, 0, 0)
  | 68 => (1, 69, 3, 0, 0)
  | 69 => (28, 72, 7, 4, 1)
  | 72 => (16, 75, 0, 78, 0)
  | 75 => (1, 77, 6, 0, 0)
  | 77 => (34, 78, 0, 0, 0)
  | 78 => (7, 81, 6, 0, 1)
  | 81 => (19, 84, 0, 52, 0)
  | 84 => (0, 85, 0, 0, 0)
  | 85 => (34, 86, 0, 0, 0)
  | _ => (99, 0, 0, 0, 0)
def zc_X1_mixedAtEnd : Nat → zE := fun pc => match pc with
  | 0 => (15, 1, 0, 0, 0)
  | 1 => (6, 2, 3, 0, 0)
  | 2 => (15, 3, 0, 0, 0)
  | 3 => (6, 5, 5, 0, 0)
  | 5 => (0, 6, 0, 0, 1)
  | 6 => (4, 8, 7, 0, 0)
  | 8 => (1, 10, 7, 0, 0)
  | 10 => (0, 11, 0, 0, 2)
  | 11 => (8, 12, 2, 0, 0)
  | 12 => (1, 13, 2, 0, 0)
  | 13 => (1, 14, 1, 0, 0)
  | 14 => (8, 15, 1, 0, 0)
  | 15 => (17, 18, 4, 86, 0)
  | 18 => (3, 19, 3, 0, 0)
  | 19 => (2, 20, 0, 0, 0)
  | 20 => (1, 21, 2, 0, 0)
  | 21 => (1, 23, 7, 0, 0)
  | 23 => (8, 24, 1, 0, 0)
  | 24 => (28, 27, 1, 2, 1)
  | 27 => (28, 30, 19, 1, 0)
  | 30 => (11, 31, 0, 0, 0)
  | 31 => (6, 32, 3, 0, 0)
  | 32 => (3, 34, 5, 0, 0)
  | 34 => (2, 35, 0, 0, 0)
  | 35 => (1, 36, 2, 0, 0)
  | 36 => (0, 37, 0, 0, 2)
  | 37 => (1, 39, 7, 0, 0)
  | 39 => (8, 40, 2, 0, 0)
  | 40 => (8, 41, 1, 0, 0)
  | 41 => (0, 42, 0, 0, 1)
  | 42 => (8, 43, 0, 0, 0)
  | 43 => (28, 46, 1, 2, 1)
  | 46 => (28, 49, 19, 1, 0)
  | 49 => (2, 50, 0, 0, 0)
  | 50 => (1, 51, 2, 0, 0)
  | 51 => (0, 52, 0, 0, 2)
  | 52 => (1, 54, 7, 0, 0)
  | 54 => (8, 55, 2, 0, 0)
  | 55 => (8, 56, 1, 0, 0)
  | 56 => (28, 59, 1, 2, 1)
  | 59 => (28, 62, 19, 1, 0)
  | 62 => (11, 63, 0, 0, 0)
  | 63 => (11, 64, 0, 0, 0)
  | 64 => (6, 66, 5, 0, 0)
  | 66 => (3, 68, 5, 0, 0)
  | 68 => (15, 71, 71, 0, 2)
  | 71 => (3, 72, 3, 0, 0)
  | 72 => (11, 73, 1, 0, 0)
  | 73 => (14, 74, 0, 0, 0)
  | 74 => (16, 77, 1, 80, 0)
  | 77 => (1, 79, 7, 0, 0)
  | 79 => (34, 80, 0, 0, 0)
  | 80 => (7, 83, 7, 0, 1)
  | 83 => (19, 86, 0, 8, 0)
  | 86 => (0, 87, 0, 0, 0)
  | 87 => (34, 88, 0, 0, 0)
  | _ => (99, 0, 0, 0, 0)
def zc_X1_tally : Nat → zE := fun pc => match pc with
  | 0 => (15, 1, 0, 0, 1)
  | 1 => (0, 3, 0, 0, 16)
  | 3 => (1, 4, 0, 0, 0)
  | 4 => (8, 5, 2, 0, 0)
  | 5 => (12, 6, 0, 0, 0)
  | 6 => (39, 7, 0, 0, 0)
  | _ => (99, 0, 0, 0, 0)
def zc_X2_reaches : Nat → zE := fun pc => match pc with
  | 0 => (1, 1, 1, 0, 0)
  | 1 => (16, 4, 2, 30, 0)
  | 4 => (1, 5, 2, 0, 0)
  | 5 => (16, 8, 2, 30, 0)
  | 8 => (1, 9, 2, 0, 0)
  | 9 => (2, 10, 0, 0, 0)
  | 10 => (20, 13, 2, 2, 0)
  | 13 => (17, 16, 4, 30, 0)
  | 16 => (1, 17, 1, 0, 0)
  | 17 => (2, 18, 0, 0, 0)
  | 18 => (20, 21, 2, 2, 0)
  | 21 => (1, 22, 2, 0, 0)
  | 22 => (8, 23, 1, 0, 0)
  | 23 => (17, 26, 4, 30, 0)
  | 26 => (0, 27, 0, 0, 1)
  | 27 => (19, 30, 0, 31, 0)
  | 30 => (0, 31, 0, 0, 0)
  | 31 => (35, 32, 0, 0, 0)
  | _ => (99, 0, 0, 0, 0)
def zc_X2_at : Nat → zE := fun pc => match pc with
  | 0 => (1, 1, 1, 0, 0)
  | 1 => (16, 4, 2, 22, 0)
  | 4 => (1, 5, 1, 0, 0)
  | 5 => (2, 6, 0, 0, 0)
  | 6 => (20, 9, 2, 0, 0)
  | 9 => (27, 10, 0, 0, 0)
  | 10 => (17, 13, 3, 22, 0)
  | 13 => (2, 14, 0, 0, 0)
  | 14 => (20, 17, 2, 0, 0)
  | 17 => (1, 18, 1, 0, 0)
  | 18 => (23, 19, 0, 0, 0)
  | 19 => (19, 22, 0, 23, 0)
  | 22 => (0, 23, 0, 0, 0)
  | 23 => (34, 24, 0, 0, 0)
  | _ => (99, 0, 0, 0, 0)
def zc_X2_put : Nat → zE := fun pc => match pc with
  | 0 => (1, 1, 1, 0, 0)
  | 1 => (16, 4, 2, 13, 0)
  | 4 => (1, 5, 1, 0, 0)
  | 5 => (2, 6, 0, 0, 0)
  | 6 => (20, 9, 2, 0, 0)
  | 9 => (27, 10, 0, 0, 0)
  | 10 => (17, 13, 2, 14, 0)
  | 13 => (37, 14, 0, 0, 0)
  | 14 => (2, 15, 0, 0, 0)
  | 15 => (20, 18, 2, 1, 0)
  | 18 => (16, 21, 1, 32, 0)
  | 21 => (2, 22, 0, 0, 0)
  | 22 => (20, 25, 2, 0, 0)
  | 25 => (1, 26, 1, 0, 0)
  | 26 => (1, 27, 2, 0, 0)
  | 27 => (13, 28, 2, 0, 0)
  | 28 => (24, 29, 0, 0, 0)
  | 29 => (19, 32, 0, 58, 0)
  | 32 => (2, 33, 0, 0, 0)
  | 33 => (20, 36, 2, 1, 0)
  | 36 => (0, 37, 0, 0, 1)
  | 37 => (17, 40, 1, 51, 0)
  | 40 => (2, 41, 0, 0, 0)
  | 41 => (20, 44, 2, 0, 0)
  | 44 => (1, 45, 1, 0, 0)
  | 45 => (1, 46, 2, 0, 0)
  | 46 => (13, 47, 3, 0, 0)
  | 47 => (24, 48, 0, 0, 0)
  | 48 => (19, 51, 0, 58, 0)
  | 51 => (2, 52, 0, 0, 0)
  | 52 => (20, 55, 2, 0, 0)
  | 55 => (1, 56, 1, 0, 0)
  | 56 => (1, 57, 2, 0, 0)
  | 57 => (24, 58, 0, 0, 0)
  | 58 => (37, 59, 0, 0, 0)
  | _ => (99, 0, 0, 0, 0)
def zc_X2_renew : Nat → zE := fun pc => match pc with
  | 0 => (2, 1, 0, 0, 0)
  | 1 => (1, 2, 1, 0, 0)
  | 2 => (21, 5, 2, 1, 0)
  | 5 => (2, 6, 0, 0, 0)
  | 6 => (1, 7, 2, 0, 0)
  | 7 => (21, 10, 2, 2, 0)
  | 10 => (0, 11, 0, 0, 0)
  | 11 => (4, 12, 3, 0, 0)
  | 12 => (1, 13, 3, 0, 0)
  | 13 => (2, 14, 0, 0, 0)
  | 14 => (20, 17, 2, 0, 0)
  | 17 => (27, 18, 0, 0, 0)
  | 18 => (17, 21, 3, 34, 0)
  | 21 => (2, 22, 0, 0, 0)
  | 22 => (20, 25, 2, 0, 0)
  | 25 => (1, 26, 3, 0, 0)
  | 26 => (0, 27, 0, 0, 0)
  | 27 => (24, 28, 0, 0, 0)
  | 28 => (7, 31, 3, 0, 1)
  | 31 => (19, 34, 0, 12, 0)
  | 34 => (37, 35, 0, 0, 0)
  | _ => (99, 0, 0, 0, 0)
def zc_X3_takeFrom : Nat → zE := fun pc => match pc with
  | 0 => (2, 1, 0, 0, 0)
  | 1 => (20, 4, 3, 0, 0)
  | 4 => (2, 5, 1, 0, 0)
  | 5 => (20, 8, 3, 0, 0)
  | 8 => (2, 9, 1, 0, 0)
  | 9 => (20, 12, 3, 0, 0)
  | 12 => (20, 15, 0, 1, 1)
  | 15 => (28, 18, 6, 3, 1)
  | 18 => (2, 19, 0, 0, 0)
  | 19 => (20, 22, 3, 1, 0)
  | 22 => (2, 23, 1, 0, 0)
  | 23 => (20, 26, 3, 1, 0)
  | 26 => (28, 29, 12, 2, 1)
  | 29 => (2, 30, 0, 0, 0)
  | 30 => (2, 31, 1, 0, 0)
  | 31 => (20, 34, 3, 2, 0)
  | 34 => (21, 37, 3, 2, 0)
  | 37 => (37, 38, 0, 0, 0)
  | _ => (99, 0, 0, 0, 0)
def zc_X4_at : Nat → zE := fun pc => match pc with
  | 0 => (1, 1, 1, 0, 0)
  | 1 => (16, 4, 2, 22, 0)
  | 4 => (1, 5, 1, 0, 0)
  | 5 => (2, 6, 0, 0, 0)
  | 6 => (20, 9, 4, 0, 0)
  | 9 => (27, 10, 0, 0, 0)
  | 10 => (17, 13, 3, 22, 0)
  | 13 => (2, 14, 0, 0, 0)
  | 14 => (20, 17, 4, 0, 0)
  | 17 => (1, 18, 1, 0, 0)
  | 18 => (23, 19, 0, 0, 0)
  | 19 => (19, 22, 0, 24, 0)
  | 22 => (0, 24, 0, 0, 32)
  | 24 => (34, 25, 0, 0, 0)
  | _ => (99, 0, 0, 0, 0)
def zc_X4_add : Nat → zE := fun pc => match pc with
  | 0 => (2, 1, 0, 0, 0)
  | 1 => (20, 4, 4, 1, 0)
  | 4 => (16, 7, 2, 39, 0)
  | 7 => (2, 8, 0, 0, 0)
  | 8 => (20, 11, 4, 1, 0)
  | 11 => (2, 12, 0, 0, 0)
  | 12 => (20, 15, 4, 0, 0)
  | 15 => (27, 16, 0, 0, 0)
  | 16 => (17, 19, 3, 39, 0)
  | 19 => (2, 20, 0, 0, 0)
  | 20 => (20, 23, 4, 0, 0)
  | 23 => (2, 24, 0, 0, 0)
  | 24 => (20, 27, 4, 1, 0)
  | 27 => (1, 28, 1, 0, 0)
  | 28 => (24, 29, 0, 0, 0)
  | 29 => (2, 30, 0, 0, 0)
  | 30 => (30, 31, 0, 0, 0)
  | 31 => (20, 34, 4, 1, 0)
  | 34 => (0, 35, 0, 0, 1)
  | 35 => (8, 36, 0, 0, 0)
  | 36 => (21, 39, 4, 1, 0)
  | 39 => (37, 40, 0, 0, 0)
  | _ => (99, 0, 0, 0, 0)
def zc_X5_colours : Nat → zE := fun pc => match pc with
  | 0 => (1, 1, 1, 0, 0)
  | 1 => (0, 2, 0, 0, 2)
  | 2 => (17, 5, 2, 10, 0)
  | 5 => (1, 6, 1, 0, 0)
  | 6 => (0, 7, 0, 0, 4)
  | 7 => (17, 10, 5, 12, 0)
  | 10 => (0, 11, 0, 0, (-1))
  | 11 => (34, 12, 0, 0, 0)
  | 12 => (0, 13, 0, 0, 0)
  | 13 => (4, 14, 2, 0, 0)
  | 14 => (1, 15, 2, 0, 0)
  | 15 => (2, 16, 0, 0, 0)
  | 16 => (20, 19, 5, 0, 0)
  | 19 => (20, 22, 3, 0, 1)
  | 22 => (20, 25, 0, 1, 1)
  | 25 => (17, 28, 3, 52, 0)
  | 28 => (2, 29, 0, 0, 0)
  | 29 => (20, 32, 5, 0, 0)
  | 32 => (20, 35, 3, 0, 1)
  | 35 => (1, 36, 2, 0, 0)
  | 36 => (28, 39, 1, 2, 1)
  | 39 => (1, 40, 1, 0, 0)
  | 40 => (17, 43, 2, 46, 0)
  | 43 => (0, 45, 0, 0, (-2))
  | 45 => (34, 46, 0, 0, 0)
  | 46 => (7, 49, 2, 0, 1)
  | 49 => (19, 52, 0, 14, 0)
  | 52 => (2, 53, 0, 0, 0)
  | 53 => (20, 56, 5, 0, 0)
  | 56 => (20, 59, 3, 1, 1)
  | 59 => (20, 62, 1, 0, 1)
  | 62 => (4, 63, 2, 0, 0)
  | 63 => (2, 64, 0, 0, 0)
  | 64 => (20, 67, 5, 0, 0)
  | 67 => (20, 70, 3, 1, 1)
  | 70 => (1, 71, 1, 0, 0)
  | 71 => (21, 74, 1, 0, 1)
  | 74 => (1, 75, 2, 0, 0)
  | 75 => (34, 76, 0, 0, 0)
  | _ => (99, 0, 0, 0, 0)
def zc_X5_price : Nat → zE := fun pc => match pc with
  | 0 => (1, 1, 1, 0, 0)
  | 1 => (16, 4, 2, 19, 0)
  | 4 => (1, 5, 1, 0, 0)
  | 5 => (0, 6, 0, 0, 4)
  | 6 => (17, 9, 3, 19, 0)
  | 9 => (1, 10, 2, 0, 0)
  | 10 => (16, 13, 2, 19, 0)
  | 13 => (1, 14, 2, 0, 0)
  | 14 => (0, 16, 0, 0, 99)
  | 16 => (17, 19, 5, 21, 0)
  | 19 => (0, 20, 0, 0, (-1))
  | 20 => (34, 21, 0, 0, 0)
  | 21 => (2, 22, 0, 0, 0)
  | 22 => (20, 25, 5, 0, 0)
  | 25 => (20, 28, 3, 1, 1)
  | 28 => (1, 29, 1, 0, 0)
  | 29 => (28, 32, 9, 2, 1)
  | 32 => (4, 33, 3, 0, 0)
  | 33 => (2, 34, 0, 0, 0)
  | 34 => (20, 37, 5, 0, 0)
  | 37 => (20, 40, 3, 1, 1)
  | 40 => (1, 41, 1, 0, 0)
  | 41 => (1, 42, 2, 0, 0)
  | 42 => (28, 45, 10, 3, 1)
  | 45 => (1, 46, 3, 0, 0)
  | 46 => (34, 47, 0, 0, 0)
  | _ => (99, 0, 0, 0, 0)
def zc_X5_rule : Nat → zE := fun pc => match pc with
  | 0 => (1, 1, 1, 0, 0)
  | 1 => (16, 4, 1, 37, 0)
  | 4 => (1, 5, 2, 0, 0)
  | 5 => (16, 8, 2, 37, 0)
  | 8 => (1, 9, 2, 0, 0)
  | 9 => (0, 10, 0, 0, 3)
  | 10 => (17, 13, 4, 37, 0)
  | 13 => (2, 14, 0, 0, 0)
  | 14 => (20, 17, 5, 0, 0)
  | 17 => (20, 20, 3, 1, 1)
  | 20 => (20, 23, 1, 1, 1)
  | 23 => (4, 24, 3, 0, 0)
  | 24 => (2, 25, 0, 0, 0)
  | 25 => (20, 28, 5, 0, 0)
  | 28 => (20, 31, 3, 1, 1)
  | 31 => (1, 32, 2, 0, 0)
  | 32 => (21, 35, 1, 1, 1)
  | 35 => (1, 36, 3, 0, 0)
  | 36 => (34, 37, 0, 0, 0)
  | 37 => (1, 38, 1, 0, 0)
  | 38 => (0, 39, 0, 0, 1)
  | 39 => (17, 42, 1, 77, 0)
  | 42 => (1, 43, 2, 0, 0)
  | 43 => (0, 44, 0, 0, 1)
  | 44 => (17, 47, 2, 77, 0)
  | 47 => (1, 48, 2, 0, 0)
  | 48 => (0, 50, 0, 0, 9)
  | 50 => (17, 53, 4, 77, 0)
  | 53 => (2, 54, 0, 0, 0)
  | 54 => (20, 57, 5, 0, 0)
  | 57 => (20, 60, 3, 1, 1)
  | 60 => (20, 63, 1, 2, 1)
  | 63 => (4, 64, 3, 0, 0)
  | 64 => (2, 65, 0, 0, 0)
  | 65 => (20, 68, 5, 0, 0)
  | 68 => (20, 71, 3, 1, 1)
  | 71 => (1, 72, 2, 0, 0)
  | 72 => (21, 75, 1, 2, 1)
  | 75 => (1, 76, 3, 0, 0)
  | 76 => (34, 77, 0, 0, 0)
  | 77 => (0, 78, 0, 0, (-1))
  | 78 => (34, 79, 0, 0, 0)
  | _ => (99, 0, 0, 0, 0)
def zc_X5_paint : Nat → zE := fun pc => match pc with
  | 0 => (2, 1, 0, 0, 0)
  | 1 => (20, 4, 5, 0, 0)
  | 4 => (20, 7, 3, 1, 1)
  | 7 => (1, 8, 1, 0, 0)
  | 8 => (28, 11, 8, 2, 1)
  | 11 => (16, 14, 1, 16, 0)
  | 14 => (0, 15, 0, 0, (-1))
  | 15 => (34, 16, 0, 0, 0)
  | 16 => (2, 17, 0, 0, 0)
  | 17 => (2, 18, 0, 0, 0)
  | 18 => (20, 21, 5, 0, 0)
  | 21 => (20, 24, 3, 0, 1)
  | 24 => (20, 27, 0, 1, 1)
  | 27 => (28, 30, 40, 2, 0)
  | 30 => (1, 31, 1, 0, 0)
  | 31 => (8, 32, 6, 0, 0)
  | 32 => (0, 33, 0, 0, 1)
  | 33 => (8, 34, 3, 0, 0)
  | 34 => (16, 37, 1, 40, 0)
  | 37 => (0, 39, 0, 0, (-2))
  | 39 => (34, 40, 0, 0, 0)
  | 40 => (2, 41, 0, 0, 0)
  | 41 => (20, 44, 5, 0, 0)
  | 44 => (20, 47, 3, 0, 1)
  | 47 => (20, 50, 0, 1, 1)
  | 50 => (0, 52, 0, 0, 48)
  | 52 => (17, 55, 2, 58, 0)
  | 55 => (0, 57, 0, 0, (-3))
  | 57 => (34, 58, 0, 0, 0)
  | 58 => (2, 59, 0, 0, 0)
  | 59 => (20, 62, 5, 0, 0)
  | 62 => (20, 65, 3, 0, 1)
  | 65 => (1, 66, 1, 0, 0)
  | 66 => (28, 69, 3, 2, 1)
  | 69 => (2, 70, 0, 0, 0)
  | 70 => (20, 73, 5, 0, 0)
  | 73 => (20, 76, 3, 0, 1)
  | 76 => (20, 79, 0, 1, 1)
  | 79 => (34, 80, 0, 0, 0)
  | _ => (99, 0, 0, 0, 0)
def zc_X5_scrape : Nat → zE := fun pc => match pc with
  | 0 => (1, 1, 1, 0, 0)
  | 1 => (0, 2, 0, 0, 1)
  | 2 => (17, 5, 2, 11, 0)
  | 5 => (1, 6, 1, 0, 0)
  | 6 => (0, 8, 0, 0, 48)
  | 8 => (17, 11, 5, 13, 0)
  | 11 => (0, 12, 0, 0, (-1))
  | 12 => (34, 13, 0, 0, 0)
  | 13 => (1, 14, 1, 0, 0)
  | 14 => (2, 15, 0, 0, 0)
  | 15 => (20, 18, 5, 0, 0)
  | 18 => (20, 21, 3, 0, 1)
  | 21 => (20, 24, 0, 1, 1)
  | 24 => (17, 27, 5, 30, 0)
  | 27 => (0, 29, 0, 0, (-2))
  | 29 => (34, 30, 0, 0, 0)
  | 30 => (2, 31, 0, 0, 0)
  | 31 => (20, 34, 5, 0, 0)
  | 34 => (20, 37, 3, 0, 1)
  | 37 => (1, 38, 1, 0, 0)
  | 38 => (28, 41, 4, 2, 1)
  | 41 => (2, 42, 0, 0, 0)
  | 42 => (20, 45, 5, 0, 0)
  | 45 => (20, 48, 3, 0, 1)
  | 48 => (20, 51, 0, 1, 1)
  | 51 => (34, 52, 0, 0, 0)
  | _ => (99, 0, 0, 0, 0)
def zc_X5_pale : Nat → zE := fun pc => match pc with
  | 0 => (2, 1, 0, 0, 0)
  | 1 => (20, 4, 5, 0, 0)
  | 4 => (20, 7, 3, 0, 1)
  | 7 => (1, 8, 1, 0, 0)
  | 8 => (28, 11, 0, 2, 1)
  | 11 => (16, 14, 0, 28, 0)
  | 14 => (2, 15, 0, 0, 0)
  | 15 => (20, 18, 5, 0, 0)
  | 18 => (20, 21, 3, 0, 1)
  | 21 => (1, 22, 1, 0, 0)
  | 22 => (28, 25, 1, 2, 1)
  | 25 => (19, 28, 0, 29, 0)
  | 28 => (0, 29, 0, 0, (-1))
  | 29 => (34, 30, 0, 0, 0)
  | _ => (99, 0, 0, 0, 0)
def zc_X5_type : Nat → zE := fun pc => match pc with
  | 0 => (1, 1, 3, 0, 0)
  | 1 => (0, 2, 0, 0, 1)
  | 2 => (17, 5, 2, 11, 0)
  | 5 => (1, 6, 3, 0, 0)
  | 6 => (0, 8, 0, 0, 8)
  | 8 => (17, 11, 5, 13, 0)
  | 11 => (0, 12, 0, 0, (-1))
  | 12 => (34, 13, 0, 0, 0)
  | 13 => (0, 14, 0, 0, 0)
  | 14 => (4, 16, 4, 0, 0)
  | 16 => (1, 18, 4, 0, 0)
  | 18 => (1, 19, 3, 0, 0)
  | 19 => (17, 22, 3, 52, 0)
  | 22 => (3, 23, 1, 0, 0)
  | 23 => (1, 25, 4, 0, 0)
  | 25 => (28, 28, 34, 2, 0)
  | 28 => (4, 30, 5, 0, 0)
  | 30 => (1, 32, 5, 0, 0)
  | 32 => (0, 34, 0, 0, 32)
  | 34 => (17, 37, 2, 44, 0)
  | 37 => (1, 39, 5, 0, 0)
  | 39 => (0, 41, 0, 0, 126)
  | 41 => (17, 44, 5, 46, 0)
  | 44 => (0, 45, 0, 0, (-1))
  | 45 => (34, 46, 0, 0, 0)
  | 46 => (7, 49, 4, 0, 1)
  | 49 => (19, 52, 0, 16, 0)
  | 52 => (2, 53, 0, 0, 0)
  | 53 => (20, 56, 5, 3, 0)
  | 56 => (20, 59, 4, 1, 1)
  | 59 => (0, 61, 0, 0, 100)
  | 61 => (1, 62, 3, 0, 0)
  | 62 => (8, 63, 1, 0, 0)
  | 63 => (17, 66, 5, 69, 0)
  | 66 => (0, 68, 0, 0, (-3))
  | 68 => (34, 69, 0, 0, 0)
  | 69 => (1, 70, 3, 0, 0)
  | 70 => (0, 71, 0, 0, 1)
  | 71 => (8, 72, 1, 0, 0)
  | 72 => (4, 74, 4, 0, 0)
  | 74 => (1, 76, 4, 0, 0)
  | 76 => (16, 79, 2, 98, 0)
  | 79 => (2, 80, 0, 0, 0)
  | 80 => (20, 83, 5, 3, 0)
  | 83 => (3, 84, 1, 0, 0)
  | 84 => (1, 86, 4, 0, 0)
  | 86 => (28, 89, 34, 2, 0)
  | 89 => (28, 92, 26, 2, 1)
  | 92 => (7, 95, 4, 0, (-1))
  | 95 => (19, 98, 0, 74, 0)
  | 98 => (2, 99, 0, 0, 0)
  | 99 => (20, 102, 5, 3, 0)
  | 102 => (20, 105, 4, 1, 1)
  | 105 => (34, 106, 0, 0, 0)
  | _ => (99, 0, 0, 0, 0)
def zc_X5_byteOf : Nat → zE := fun pc => match pc with
  | 0 => (3, 1, 0, 0, 0)
  | 1 => (0, 3, 0, 0, 8)
  | 3 => (1, 4, 2, 0, 0)
  | 4 => (8, 5, 2, 0, 0)
  | 5 => (12, 6, 1, 0, 0)
  | 6 => (13, 7, 1, 0, 0)
  | 7 => (0, 10, 0, 0, 255)
  | 10 => (8, 11, 3, 0, 0)
  | 11 => (34, 12, 0, 0, 0)
  | _ => (99, 0, 0, 0, 0)
def zc_X5_fence : Nat → zE := fun pc => match pc with
  | 0 => (2, 1, 0, 0, 0)
  | 1 => (28, 4, 36, 1, 0)
  | 4 => (4, 5, 1, 0, 0)
  | 5 => (2, 6, 0, 0, 0)
  | 6 => (20, 9, 5, 3, 0)
  | 9 => (0, 10, 0, 0, 0)
  | 10 => (21, 13, 4, 1, 1)
  | 13 => (1, 14, 1, 0, 0)
  | 14 => (16, 17, 2, 38, 0)
  | 17 => (2, 18, 0, 0, 0)
  | 18 => (20, 21, 5, 0, 0)
  | 21 => (20, 24, 3, 0, 1)
  | 24 => (2, 25, 0, 0, 0)
  | 25 => (20, 28, 5, 5, 0)
  | 28 => (2, 29, 0, 0, 0)
  | 29 => (20, 32, 5, 5, 0)
  | 32 => (20, 35, 0, 1, 1)
  | 35 => (28, 38, 6, 3, 1)
  | 38 => (1, 39, 1, 0, 0)
  | 39 => (34, 40, 0, 0, 0)
  | _ => (99, 0, 0, 0, 0)
def zc_X5_readText : Nat → zE := fun pc => match pc with
  | 0 => (2, 1, 0, 0, 0)
  | 1 => (20, 4, 5, 5, 0)
  | 4 => (0, 5, 0, 0, 0)
  | 5 => (21, 8, 0, 1, 1)
  | 8 => (0, 9, 0, 0, 0)
  | 9 => (4, 10, 1, 0, 0)
  | 10 => (1, 11, 1, 0, 0)
  | 11 => (2, 12, 0, 0, 0)
  | 12 => (20, 15, 5, 3, 0)
  | 15 => (20, 18, 4, 1, 1)
  | 18 => (17, 21, 3, 89, 0)
  | 21 => (2, 22, 0, 0, 0)
  | 22 => (20, 25, 5, 3, 0)
  | 25 => (1, 26, 1, 0, 0)
  | 26 => (28, 29, 25, 2, 1)
  | 29 => (4, 30, 2, 0, 0)
  | 30 => (1, 31, 2, 0, 0)
  | 31 => (0, 33, 0, 0, 32)
  | 33 => (17, 36, 0, 83, 0)
  | 36 => (38, 38, 0, 0, 0)
  | 38 => (1, 39, 2, 0, 0)
  | 39 => (13, 40, 4, 0, 0)
  | 40 => (28, 43, 130, 2, 0)
  | 43 => (4, 44, 3, 0, 0)
  | 44 => (2, 45, 0, 0, 0)
  | 45 => (20, 48, 5, 0, 0)
  | 48 => (20, 51, 3, 1, 1)
  | 51 => (1, 52, 3, 0, 0)
  | 52 => (28, 55, 8, 2, 1)
  | 55 => (16, 58, 0, 70, 0)
  | 58 => (2, 59, 0, 0, 0)
  | 59 => (20, 62, 5, 5, 0)
  | 62 => (20, 65, 0, 1, 1)
  | 65 => (0, 67, 0, 0, 48)
  | 67 => (17, 70, 2, 75, 0)
  | 70 => (0, 72, 0, 0, (-20))
  | 72 => (1, 73, 1, 0, 0)
  | 73 => (8, 74, 1, 0, 0)
  | 74 => (34, 75, 0, 0, 0)
  | 75 => (2, 76, 0, 0, 0)
  | 76 => (20, 79, 5, 5, 0)
  | 79 => (1, 80, 3, 0, 0)
  | 80 => (28, 83, 3, 2, 1)
  | 83 => (7, 86, 1, 0, 1)
  | 86 => (19, 89, 0, 10, 0)
  | 89 => (2, 90, 0, 0, 0)
  | 90 => (20, 93, 5, 5, 0)
  | 93 => (20, 96, 0, 1, 1)
  | 96 => (34, 97, 0, 0, 0)
  | _ => (99, 0, 0, 0, 0)
def zc_X5_count : Nat → zE := fun pc => match pc with
  | 0 => (1, 1, 1, 0, 0)
  | 1 => (16, 4, 2, 10, 0)
  | 4 => (1, 5, 1, 0, 0)
  | 5 => (0, 7, 0, 0, 6)
  | 7 => (17, 10, 2, 12, 0)
  | 10 => (0, 11, 0, 0, (-1))
  | 11 => (34, 12, 0, 0, 0)
  | 12 => (1, 13, 1, 0, 0)
  | 13 => (16, 16, 1, 27, 0)
  | 16 => (2, 17, 0, 0, 0)
  | 17 => (20, 20, 5, 0, 0)
  | 20 => (20, 23, 3, 0, 1)
  | 23 => (20, 26, 0, 1, 1)
  | 26 => (34, 27, 0, 0, 0)
  | 27 => (0, 28, 0, 0, 0)
  | 28 => (4, 29, 2, 0, 0)
  | 29 => (0, 30, 0, 0, 0)
  | 30 => (4, 31, 3, 0, 0)
  | 31 => (1, 32, 3, 0, 0)
  | 32 => (2, 33, 0, 0, 0)
  | 33 => (20, 36, 5, 0, 0)
  | 36 => (20, 39, 3, 0, 1)
  | 39 => (20, 42, 0, 1, 1)
  | 42 => (17, 45, 3, 98, 0)
  | 45 => (2, 46, 0, 0, 0)
  | 46 => (20, 49, 5, 0, 0)
  | 49 => (20, 52, 3, 0, 1)
  | 52 => (1, 53, 3, 0, 0)
  | 53 => (28, 56, 1, 2, 1)
  | 56 => (4, 58, 4, 0, 0)
  | 58 => (1, 59, 1, 0, 0)
  | 59 => (0, 60, 0, 0, 1)
  | 60 => (17, 63, 1, 81, 0)
  | 63 => (1, 64, 2, 0, 0)
  | 64 => (2, 65, 0, 0, 0)
  | 65 => (20, 68, 5, 0, 0)
  | 68 => (20, 71, 3, 1, 1)
  | 71 => (1, 73, 4, 0, 0)
  | 73 => (28, 76, 9, 2, 1)
  | 76 => (8, 77, 0, 0, 0)
  | 77 => (4, 78, 2, 0, 0)
  | 78 => (19, 81, 0, 92, 0)
  | 81 => (1, 83, 4, 0, 0)
  | 83 => (1, 84, 1, 0, 0)
  | 84 => (0, 85, 0, 0, 2)
  | 85 => (8, 86, 1, 0, 0)
  | 86 => (17, 89, 1, 92, 0)
  | 89 => (7, 92, 2, 0, 1)
  | 92 => (7, 95, 3, 0, 1)
  | 95 => (19, 98, 0, 31, 0)
  | 98 => (1, 99, 2, 0, 0)
  | 99 => (34, 100, 0, 0, 0)
  | _ => (99, 0, 0, 0, 0)
def zc_X5_fault : Nat → zE := fun pc => match pc with
  | 0 => (1, 1, 1, 0, 0)
  | 1 => (16, 4, 0, 11, 0)
  | 4 => (1, 5, 1, 0, 0)
  | 5 => (0, 6, 0, 0, 1)
  | 6 => (17, 9, 0, 11, 0)
  | 9 => (0, 10, 0, 0, (-1))
  | 10 => (34, 11, 0, 0, 0)
  | 11 => (2, 12, 0, 0, 0)
  | 12 => (20, 15, 5, 0, 0)
  | 15 => (20, 18, 3, 1, 1)
  | 18 => (2, 19, 0, 0, 0)
  | 19 => (20, 22, 5, 0, 0)
  | 22 => (20, 25, 3, 0, 1)
  | 25 => (28, 28, 13, 2, 1)
  | 28 => (4, 29, 2, 0, 0)
  | 29 => (1, 30, 2, 0, 0)
  | 30 => (16, 33, 1, 36, 0)
  | 33 => (0, 35, 0, 0, (-4))
  | 35 => (34, 36, 0, 0, 0)
  | 36 => (1, 37, 1, 0, 0)
  | 37 => (16, 40, 1, 44, 0)
  | 40 => (1, 41, 2, 0, 0)
  | 41 => (19, 44, 0, 63, 0)
  | 44 => (2, 45, 0, 0, 0)
  | 45 => (20, 48, 5, 0, 0)
  | 48 => (20, 51, 3, 1, 1)
  | 51 => (2, 52, 0, 0, 0)
  | 52 => (20, 55, 5, 0, 0)
  | 55 => (20, 58, 3, 0, 1)
  | 58 => (0, 59, 0, 0, 0)
  | 59 => (1, 60, 2, 0, 0)
  | 60 => (28, 63, 17, 4, 1)
  | 63 => (34, 64, 0, 0, 0)
  | _ => (99, 0, 0, 0, 0)
def zc_X5_may : Nat → zE := fun pc => match pc with
  | 0 => (2, 1, 0, 0, 0)
  | 1 => (2, 2, 0, 0, 0)
  | 2 => (20, 5, 5, 0, 0)
  | 5 => (20, 8, 3, 0, 1)
  | 8 => (20, 11, 0, 1, 1)
  | 11 => (28, 14, 40, 2, 0)
  | 14 => (34, 15, 0, 0, 0)
  | _ => (99, 0, 0, 0, 0)
def zc_X5_openBehind : Nat → zE := fun pc => match pc with
  | 0 => (2, 1, 0, 0, 0)
  | 1 => (20, 4, 5, 5, 0)
  | 4 => (2, 5, 0, 0, 0)
  | 5 => (20, 8, 5, 0, 0)
  | 8 => (20, 11, 3, 0, 1)
  | 11 => (1, 12, 1, 0, 0)
  | 12 => (28, 15, 6, 3, 1)
  | 15 => (2, 16, 0, 0, 0)
  | 16 => (20, 19, 5, 0, 0)
  | 19 => (20, 22, 3, 1, 1)
  | 22 => (2, 23, 0, 0, 0)
  | 23 => (20, 26, 5, 5, 0)
  | 26 => (28, 29, 13, 2, 1)
  | 29 => (16, 32, 0, 34, 0)
  | 32 => (0, 33, 0, 0, 0)
  | 33 => (34, 34, 0, 0, 0)
  | 34 => (0, 35, 0, 0, 0)
  | 35 => (4, 36, 2, 0, 0)
  | 36 => (0, 37, 0, 0, 0)
  | 37 => (4, 38, 3, 0, 0)
  | 38 => (1, 39, 3, 0, 0)
  | 39 => (2, 40, 0, 0, 0)
  | 40 => (20, 43, 5, 0, 0)
  | 43 => (20, 46, 3, 1, 1)
  | 46 => (20, 49, 1, 0, 1)
  | 49 => (17, 52, 3, 90, 0)
  | 52 => (2, 53, 0, 0, 0)
  | 53 => (20, 56, 5, 0, 0)
  | 56 => (20, 59, 3, 1, 1)
  | 59 => (2, 60, 0, 0, 0)
  | 60 => (20, 63, 5, 5, 0)
  | 63 => (1, 64, 3, 0, 0)
  | 64 => (28, 67, 15, 3, 1)
  | 67 => (16, 70, 0, 76, 0)
  | 70 => (1, 71, 2, 0, 0)
  | 71 => (0, 72, 0, 0, 1)
  | 72 => (1, 73, 3, 0, 0)
  | 73 => (8, 74, 5, 0, 0)
  | 74 => (8, 75, 4, 0, 0)
  | 75 => (4, 76, 2, 0, 0)
  | 76 => (2, 77, 0, 0, 0)
  | 77 => (20, 80, 5, 5, 0)
  | 80 => (0, 81, 0, 0, 1)
  | 81 => (28, 84, 4, 2, 1)
  | 84 => (7, 87, 3, 0, 1)
  | 87 => (19, 90, 0, 38, 0)
  | 90 => (1, 91, 2, 0, 0)
  | 91 => (34, 92, 0, 0, 0)
  | _ => (99, 0, 0, 0, 0)
def zc_X5_kind : Nat → zE := fun pc => match pc with
  | 0 => (2, 1, 0, 0, 0)
  | 1 => (20, 4, 5, 0, 0)
  | 4 => (20, 7, 3, 0, 1)
  | 7 => (1, 8, 1, 0, 0)
  | 8 => (28, 11, 0, 2, 1)
  | 11 => (16, 14, 1, 16, 0)
  | 14 => (0, 15, 0, 0, (-1))
  | 15 => (34, 16, 0, 0, 0)
  | 16 => (2, 17, 0, 0, 0)
  | 17 => (20, 20, 5, 0, 0)
  | 20 => (20, 23, 3, 1, 1)
  | 23 => (2, 24, 0, 0, 0)
  | 24 => (20, 27, 5, 0, 0)
  | 27 => (20, 30, 3, 0, 1)
  | 30 => (28, 33, 13, 2, 1)
  | 33 => (4, 34, 2, 0, 0)
  | 34 => (1, 35, 2, 0, 0)
  | 35 => (16, 38, 0, 47, 0)
  | 38 => (1, 39, 2, 0, 0)
  | 39 => (1, 40, 1, 0, 0)
  | 40 => (0, 41, 0, 0, 1)
  | 41 => (8, 42, 0, 0, 0)
  | 42 => (17, 45, 4, 47, 0)
  | 45 => (0, 46, 0, 0, 2)
  | 46 => (34, 47, 0, 0, 0)
  | 47 => (2, 48, 0, 0, 0)
  | 48 => (1, 49, 1, 0, 0)
  | 49 => (0, 50, 0, 0, 1)
  | 50 => (8, 51, 0, 0, 0)
  | 51 => (28, 54, 40, 2, 0)
  | 54 => (16, 57, 1, 59, 0)
  | 57 => (0, 58, 0, 0, 3)
  | 58 => (34, 59, 0, 0, 0)
  | 59 => (2, 60, 0, 0, 0)
  | 60 => (1, 61, 1, 0, 0)
  | 61 => (28, 64, 40, 2, 0)
  | 64 => (28, 67, 137, 1, 0)
  | 67 => (0, 68, 0, 0, 1)
  | 68 => (17, 71, 5, 75, 0)
  | 71 => (0, 72, 0, 0, 0)
  | 72 => (19, 75, 0, 76, 0)
  | 75 => (0, 76, 0, 0, 1)
  | 76 => (34, 77, 0, 0, 0)
  | _ => (99, 0, 0, 0, 0)
def zc_X5_far : Nat → zE := fun pc => match pc with
  | 0 => (1, 1, 1, 0, 0)
  | 1 => (16, 4, 2, 10, 0)
  | 4 => (1, 5, 1, 0, 0)
  | 5 => (0, 7, 0, 0, 16)
  | 7 => (17, 10, 5, 14, 0)
  | 10 => (0, 11, 0, 0, (-1))
  | 11 => (19, 14, 0, 29, 0)
  | 14 => (2, 15, 0, 0, 0)
  | 15 => (2, 16, 0, 0, 0)
  | 16 => (20, 19, 5, 0, 0)
  | 19 => (20, 22, 3, 0, 1)
  | 22 => (20, 25, 0, 1, 1)
  | 25 => (1, 26, 1, 0, 0)
  | 26 => (28, 29, 44, 3, 0)
  | 29 => (34, 30, 0, 0, 0)
  | _ => (99, 0, 0, 0, 0)
def zc_X5_go : Nat → zE := fun pc => match pc with
  | 0 => (1, 1, 1, 0, 0)
  | 1 => (0, 2, 0, 0, 1)
  | 2 => (17, 5, 2, 15, 0)
  | 5 => (1, 6, 1, 0, 0)
  | 6 => (0, 8, 0, 0, 16)
  | 8 => (17, 11, 4, 15, 0)
  | 11 => (1, 12, 2, 0, 0)
  | 12 => (16, 15, 3, 17, 0)
  | 15 => (0, 16, 0, 0, (-1))
  | 16 => (34, 17, 0, 0, 0)
  | 17 => (1, 18, 2, 0, 0)
  | 18 => (2, 19, 0, 0, 0)
  | 19 => (2, 20, 0, 0, 0)
  | 20 => (20, 23, 5, 0, 0)
  | 23 => (20, 26, 3, 0, 1)
  | 26 => (20, 29, 0, 1, 1)
  | 29 => (1, 30, 1, 0, 0)
  | 30 => (28, 33, 44, 3, 0)
  | 33 => (17, 36, 3, 58, 0)
  | 36 => (2, 37, 0, 0, 0)
  | 37 => (20, 40, 5, 6, 0)
  | 40 => (2, 41, 0, 0, 0)
  | 41 => (20, 44, 5, 0, 0)
  | 44 => (20, 47, 3, 0, 1)
  | 47 => (20, 50, 0, 1, 1)
  | 50 => (1, 51, 2, 0, 0)
  | 51 => (8, 52, 0, 0, 0)
  | 52 => (28, 55, 1, 2, 1)
  | 55 => (19, 58, 0, 60, 0)
  | 58 => (0, 60, 0, 0, (-4))
  | 60 => (34, 61, 0, 0, 0)
  | _ => (99, 0, 0, 0, 0)
def zc_X5_goBehind : Nat → zE := fun pc => match pc with
  | 0 => (2, 1, 0, 0, 0)
  | 1 => (20, 4, 5, 5, 0)
  | 4 => (2, 5, 0, 0, 0)
  | 5 => (20, 8, 5, 0, 0)
  | 8 => (20, 11, 3, 0, 1)
  | 11 => (1, 12, 1, 0, 0)
  | 12 => (28, 15, 6, 3, 1)
  | 15 => (2, 16, 0, 0, 0)
  | 16 => (20, 19, 5, 6, 0)
  | 19 => (2, 20, 0, 0, 0)
  | 20 => (20, 23, 5, 0, 0)
  | 23 => (20, 26, 3, 0, 1)
  | 26 => (1, 27, 1, 0, 0)
  | 27 => (28, 30, 6, 3, 1)
  | 30 => (2, 31, 0, 0, 0)
  | 31 => (20, 34, 5, 0, 0)
  | 34 => (20, 37, 3, 1, 1)
  | 37 => (2, 38, 0, 0, 0)
  | 38 => (20, 41, 5, 5, 0)
  | 41 => (28, 44, 13, 2, 1)
  | 44 => (16, 47, 1, 67, 0)
  | 47 => (2, 48, 0, 0, 0)
  | 48 => (20, 51, 5, 0, 0)
  | 51 => (20, 54, 3, 1, 1)
  | 54 => (2, 55, 0, 0, 0)
  | 55 => (20, 58, 5, 5, 0)
  | 58 => (1, 59, 2, 0, 0)
  | 59 => (2, 60, 0, 0, 0)
  | 60 => (20, 63, 5, 6, 0)
  | 63 => (28, 66, 45, 4, 0)
  | 66 => (32, 67, 0, 0, 0)
  | 67 => (2, 68, 0, 0, 0)
  | 68 => (20, 71, 5, 6, 0)
  | 71 => (20, 74, 0, 1, 1)
  | 74 => (1, 75, 1, 0, 0)
  | 75 => (8, 76, 1, 0, 0)
  | 76 => (34, 77, 0, 0, 0)
  | _ => (99, 0, 0, 0, 0)
def zc_X5_goOn : Nat → zE := fun pc => match pc with
  | 0 => (2, 1, 1, 0, 0)
  | 1 => (20, 4, 0, 1, 1)
  | 4 => (2, 5, 3, 0, 0)
  | 5 => (20, 8, 0, 1, 1)
  | 8 => (17, 11, 5, 20, 0)
  | 11 => (2, 12, 3, 0, 0)
  | 12 => (2, 13, 1, 0, 0)
  | 13 => (2, 14, 1, 0, 0)
  | 14 => (20, 17, 0, 1, 1)
  | 17 => (28, 20, 6, 3, 1)
  | 20 => (1, 21, 2, 0, 0)
  | 21 => (16, 24, 4, 26, 0)
  | 24 => (0, 25, 0, 0, 1)
  | 25 => (35, 26, 0, 0, 0)
  | 26 => (0, 27, 0, 0, 0)
  | 27 => (4, 29, 4, 0, 0)
  | 29 => (0, 30, 0, 0, 0)
  | 30 => (4, 32, 5, 0, 0)
  | 32 => (1, 34, 5, 0, 0)
  | 34 => (2, 35, 0, 0, 0)
  | 35 => (20, 38, 1, 0, 1)
  | 38 => (17, 41, 3, 86, 0)
  | 41 => (1, 43, 4, 0, 0)
  | 43 => (16, 46, 1, 86, 0)
  | 46 => (2, 47, 0, 0, 0)
  | 47 => (2, 48, 1, 0, 0)
  | 48 => (1, 50, 5, 0, 0)
  | 50 => (28, 53, 15, 3, 1)
  | 53 => (16, 56, 0, 72, 0)
  | 56 => (2, 57, 0, 0, 0)
  | 57 => (2, 58, 1, 0, 0)
  | 58 => (1, 59, 2, 0, 0)
  | 59 => (0, 60, 0, 0, 1)
  | 60 => (8, 61, 1, 0, 0)
  | 61 => (2, 62, 3, 0, 0)
  | 62 => (28, 65, 45, 4, 0)
  | 65 => (16, 68, 0, 72, 0)
  | 68 => (0, 69, 0, 0, 1)
  | 69 => (19, 72, 0, 73, 0)
  | 72 => (0, 73, 0, 0, 0)
  | 73 => (4, 75, 4, 0, 0)
  | 75 => (2, 76, 1, 0, 0)
  | 76 => (0, 77, 0, 0, 1)
  | 77 => (28, 80, 4, 2, 1)
  | 80 => (7, 83, 5, 0, 1)
  | 83 => (19, 86, 0, 32, 0)
  | 86 => (1, 88, 4, 0, 0)
  | 88 => (35, 89, 0, 0, 0)
  | _ => (99, 0, 0, 0, 0)
def zc_X5_less : Nat → zE := fun pc => match pc with
  | 0 => (1, 1, 1, 0, 0)
  | 1 => (0, 2, 0, 0, 1)
  | 2 => (17, 5, 2, 11, 0)
  | 5 => (1, 6, 1, 0, 0)
  | 6 => (0, 8, 0, 0, 12)
  | 8 => (17, 11, 5, 13, 0)
  | 11 => (0, 12, 0, 0, (-1))
  | 12 => (34, 13, 0, 0, 0)
  | 13 => (0, 15, 0, 0, 12)
  | 15 => (2, 16, 0, 0, 0)
  | 16 => (20, 19, 5, 0, 0)
  | 19 => (20, 22, 3, 0, 1)
  | 22 => (20, 25, 0, 1, 1)
  | 25 => (28, 28, 139, 2, 0)
  | 28 => (4, 29, 2, 0, 0)
  | 29 => (0, 30, 0, 0, 0)
  | 30 => (4, 31, 3, 0, 0)
  | 31 => (1, 32, 3, 0, 0)
  | 32 => (1, 33, 2, 0, 0)
  | 33 => (17, 36, 4, 69, 0)
  | 36 => (2, 37, 0, 0, 0)
  | 37 => (2, 38, 0, 0, 0)
  | 38 => (20, 41, 5, 0, 0)
  | 41 => (20, 44, 3, 0, 1)
  | 44 => (20, 47, 0, 1, 1)
  | 47 => (1, 48, 3, 0, 0)
  | 48 => (8, 49, 1, 0, 0)
  | 49 => (1, 50, 3, 0, 0)
  | 50 => (1, 51, 1, 0, 0)
  | 51 => (8, 52, 0, 0, 0)
  | 52 => (28, 55, 44, 3, 0)
  | 55 => (1, 56, 3, 0, 0)
  | 56 => (1, 57, 1, 0, 0)
  | 57 => (8, 58, 0, 0, 0)
  | 58 => (17, 61, 1, 63, 0)
  | 61 => (1, 62, 3, 0, 0)
  | 62 => (34, 63, 0, 0, 0)
  | 63 => (7, 66, 3, 0, 1)
  | 66 => (19, 69, 0, 31, 0)
  | 69 => (0, 71, 0, 0, (-4))
  | 71 => (34, 72, 0, 0, 0)
  | _ => (99, 0, 0, 0, 0)
def zc_X5_many : Nat → zE := fun pc => match pc with
  | 0 => (1, 1, 1, 0, 0)
  | 1 => (16, 4, 2, 10, 0)
  | 4 => (1, 5, 1, 0, 0)
  | 5 => (0, 7, 0, 0, 9)
  | 7 => (17, 10, 5, 12, 0)
  | 10 => (0, 11, 0, 0, (-1))
  | 11 => (34, 12, 0, 0, 0)
  | 12 => (2, 13, 0, 0, 0)
  | 13 => (20, 16, 5, 5, 0)
  | 16 => (0, 17, 0, 0, 0)
  | 17 => (21, 20, 0, 1, 1)
  | 20 => (2, 21, 0, 0, 0)
  | 21 => (20, 24, 5, 0, 0)
  | 24 => (20, 27, 3, 1, 1)
  | 27 => (2, 28, 0, 0, 0)
  | 28 => (20, 31, 5, 5, 0)
  | 31 => (1, 32, 1, 0, 0)
  | 32 => (0, 33, 0, 0, 0)
  | 33 => (0, 34, 0, 0, 0)
  | 34 => (28, 37, 49, 5, 0)
  | 37 => (34, 38, 0, 0, 0)
  | _ => (99, 0, 0, 0, 0)
def zc_X5_rings : Nat → zE := fun pc => match pc with
  | 0 => (1, 1, 1, 0, 0)
  | 1 => (0, 2, 0, 0, 1)
  | 2 => (17, 5, 2, 11, 0)
  | 5 => (1, 6, 1, 0, 0)
  | 6 => (0, 8, 0, 0, 8)
  | 8 => (17, 11, 5, 13, 0)
  | 11 => (0, 12, 0, 0, (-1))
  | 12 => (34, 13, 0, 0, 0)
  | 13 => (2, 14, 0, 0, 0)
  | 14 => (20, 17, 5, 5, 0)
  | 17 => (0, 18, 0, 0, 0)
  | 18 => (21, 21, 0, 1, 1)
  | 21 => (2, 22, 0, 0, 0)
  | 22 => (20, 25, 5, 0, 0)
  | 25 => (20, 28, 3, 1, 1)
  | 28 => (2, 29, 0, 0, 0)
  | 29 => (20, 32, 5, 5, 0)
  | 32 => (1, 33, 1, 0, 0)
  | 33 => (0, 34, 0, 0, 0)
  | 34 => (0, 35, 0, 0, 1)
  | 35 => (28, 38, 49, 5, 0)
  | 38 => (34, 39, 0, 0, 0)
  | _ => (99, 0, 0, 0, 0)
def zc_X5_rowsBehind : Nat → zE := fun pc => match pc with
  | 0 => (1, 1, 2, 0, 0)
  | 1 => (16, 4, 4, 23, 0)
  | 4 => (1, 6, 4, 0, 0)
  | 6 => (16, 9, 0, 17, 0)
  | 9 => (2, 10, 0, 0, 0)
  | 10 => (2, 11, 1, 0, 0)
  | 11 => (28, 14, 16, 2, 1)
  | 14 => (16, 17, 0, 21, 0)
  | 17 => (0, 18, 0, 0, 1)
  | 18 => (19, 21, 0, 22, 0)
  | 21 => (0, 22, 0, 0, 0)
  | 22 => (34, 23, 0, 0, 0)
  | 23 => (0, 24, 0, 0, 0)
  | 24 => (4, 26, 5, 0, 0)
  | 26 => (1, 27, 3, 0, 0)
  | 27 => (0, 28, 0, 0, 1)
  | 28 => (8, 29, 0, 0, 0)
  | 29 => (2, 30, 0, 0, 0)
  | 30 => (20, 33, 1, 0, 1)
  | 33 => (28, 36, 139, 2, 0)
  | 36 => (4, 38, 6, 0, 0)
  | 38 => (0, 39, 0, 0, 0)
  | 39 => (4, 41, 7, 0, 0)
  | 41 => (1, 43, 7, 0, 0)
  | 43 => (1, 45, 6, 0, 0)
  | 45 => (17, 48, 3, 113, 0)
  | 48 => (2, 49, 0, 0, 0)
  | 49 => (2, 50, 1, 0, 0)
  | 50 => (1, 52, 7, 0, 0)
  | 52 => (28, 55, 15, 3, 1)
  | 55 => (16, 58, 0, 102, 0)
  | 58 => (1, 60, 7, 0, 0)
  | 60 => (1, 61, 3, 0, 0)
  | 61 => (17, 64, 3, 68, 0)
  | 64 => (0, 65, 0, 0, 1)
  | 65 => (19, 68, 0, 74, 0)
  | 68 => (2, 69, 0, 0, 0)
  | 69 => (20, 72, 1, 0, 1)
  | 72 => (1, 73, 3, 0, 0)
  | 73 => (8, 74, 1, 0, 0)
  | 74 => (4, 76, 8, 0, 0)
  | 76 => (1, 78, 5, 0, 0)
  | 78 => (1, 80, 8, 0, 0)
  | 80 => (2, 81, 0, 0, 0)
  | 81 => (2, 82, 1, 0, 0)
  | 82 => (1, 83, 2, 0, 0)
  | 83 => (0, 84, 0, 0, 1)
  | 84 => (8, 85, 1, 0, 0)
  | 85 => (1, 86, 3, 0, 0)
  | 86 => (1, 88, 7, 0, 0)
  | 88 => (0, 89, 0, 0, 1)
  | 89 => (8, 90, 0, 0, 0)
  | 90 => (28, 93, 138, 2, 0)
  | 93 => (1, 95, 4, 0, 0)
  | 95 => (28, 98, 49, 5, 0)
  | 98 => (8, 99, 2, 0, 0)
  | 99 => (8, 100, 0, 0, 0)
  | 100 => (4, 102, 5, 0, 0)
  | 102 => (2, 103, 1, 0, 0)
  | 103 => (0, 104, 0, 0, 1)
  | 104 => (28, 107, 4, 2, 1)
  | 107 => (7, 110, 7, 0, 1)
  | 110 => (19, 113, 0, 41, 0)
  | 113 => (1, 115, 5, 0, 0)
  | 115 => (34, 116, 0, 0, 0)
  | _ => (99, 0, 0, 0, 0)
def zc_X5_ring : Nat → zE := fun pc => match pc with
  | 0 => (1, 1, 1, 0, 0)
  | 1 => (0, 2, 0, 0, 1)
  | 2 => (17, 5, 2, 20, 0)
  | 5 => (1, 6, 1, 0, 0)
  | 6 => (0, 8, 0, 0, 8)
  | 8 => (17, 11, 4, 20, 0)
  | 11 => (1, 12, 2, 0, 0)
  | 12 => (16, 15, 2, 20, 0)
  | 15 => (1, 16, 2, 0, 0)
  | 16 => (1, 17, 1, 0, 0)
  | 17 => (17, 20, 2, 22, 0)
  | 20 => (0, 21, 0, 0, (-1))
  | 21 => (34, 22, 0, 0, 0)
  | 22 => (2, 23, 0, 0, 0)
  | 23 => (20, 26, 5, 5, 0)
  | 26 => (0, 27, 0, 0, 0)
  | 27 => (21, 30, 0, 1, 1)
  | 30 => (2, 31, 0, 0, 0)
  | 31 => (20, 34, 5, 6, 0)
  | 34 => (0, 35, 0, 0, 0)
  | 35 => (21, 38, 0, 1, 1)
  | 38 => (2, 39, 0, 0, 0)
  | 39 => (20, 42, 5, 0, 0)
  | 42 => (20, 45, 3, 1, 1)
  | 45 => (2, 46, 0, 0, 0)
  | 46 => (20, 49, 5, 5, 0)
  | 49 => (1, 50, 1, 0, 0)
  | 50 => (0, 51, 0, 0, 0)
  | 51 => (2, 52, 0, 0, 0)
  | 52 => (20, 55, 5, 6, 0)
  | 55 => (28, 58, 51, 5, 0)
  | 58 => (16, 61, 0, 72, 0)
  | 61 => (2, 62, 0, 0, 0)
  | 62 => (20, 65, 5, 6, 0)
  | 65 => (1, 66, 2, 0, 0)
  | 66 => (28, 69, 1, 2, 1)
  | 69 => (19, 72, 0, 74, 0)
  | 72 => (0, 74, 0, 0, (-4))
  | 74 => (34, 75, 0, 0, 0)
  | _ => (99, 0, 0, 0, 0)
def zc_X5_findRing : Nat → zE := fun pc => match pc with
  | 0 => (1, 1, 2, 0, 0)
  | 1 => (16, 4, 4, 20, 0)
  | 4 => (2, 6, 4, 0, 0)
  | 6 => (2, 7, 1, 0, 0)
  | 7 => (2, 8, 1, 0, 0)
  | 8 => (20, 11, 0, 1, 1)
  | 11 => (28, 14, 6, 3, 1)
  | 14 => (2, 15, 0, 0, 0)
  | 15 => (2, 16, 1, 0, 0)
  | 16 => (28, 19, 16, 2, 1)
  | 19 => (35, 20, 0, 0, 0)
  | 20 => (0, 21, 0, 0, 0)
  | 21 => (4, 23, 5, 0, 0)
  | 23 => (1, 24, 3, 0, 0)
  | 24 => (0, 25, 0, 0, 1)
  | 25 => (8, 26, 0, 0, 0)
  | 26 => (2, 27, 0, 0, 0)
  | 27 => (20, 30, 1, 0, 1)
  | 30 => (28, 33, 139, 2, 0)
  | 33 => (4, 35, 6, 0, 0)
  | 35 => (0, 36, 0, 0, 0)
  | 36 => (4, 38, 7, 0, 0)
  | 38 => (1, 40, 7, 0, 0)
  | 40 => (1, 42, 6, 0, 0)
  | 42 => (17, 45, 3, 99, 0)
  | 45 => (1, 47, 5, 0, 0)
  | 47 => (16, 50, 1, 99, 0)
  | 50 => (2, 51, 0, 0, 0)
  | 51 => (2, 52, 1, 0, 0)
  | 52 => (1, 54, 7, 0, 0)
  | 54 => (28, 57, 15, 3, 1)
  | 57 => (16, 60, 0, 85, 0)
  | 60 => (2, 61, 0, 0, 0)
  | 61 => (2, 62, 1, 0, 0)
  | 62 => (1, 63, 2, 0, 0)
  | 63 => (0, 64, 0, 0, 1)
  | 64 => (8, 65, 1, 0, 0)
  | 65 => (1, 66, 3, 0, 0)
  | 66 => (1, 68, 7, 0, 0)
  | 68 => (0, 69, 0, 0, 1)
  | 69 => (8, 70, 0, 0, 0)
  | 70 => (28, 73, 138, 2, 0)
  | 73 => (2, 75, 4, 0, 0)
  | 75 => (28, 78, 51, 5, 0)
  | 78 => (16, 81, 0, 85, 0)
  | 81 => (0, 82, 0, 0, 1)
  | 82 => (19, 85, 0, 86, 0)
  | 85 => (0, 86, 0, 0, 0)
  | 86 => (4, 88, 5, 0, 0)
  | 88 => (2, 89, 1, 0, 0)
  | 89 => (0, 90, 0, 0, 1)
  | 90 => (28, 93, 4, 2, 1)
  | 93 => (7, 96, 7, 0, 1)
  | 96 => (19, 99, 0, 38, 0)
  | 99 => (1, 101, 5, 0, 0)
  | 101 => (35, 102, 0, 0, 0)
  | _ => (99, 0, 0, 0, 0)
def zc_X5_cheap : Nat → zE := fun pc => match pc with
  | 0 => (1, 1, 1, 0, 0)
  | 1 => (0, 2, 0, 0, 1)
  | 2 => (17, 5, 2, 21, 0)
  | 5 => (1, 6, 1, 0, 0)
  | 6 => (0, 8, 0, 0, 8)
  | 8 => (17, 11, 4, 21, 0)
  | 11 => (1, 12, 2, 0, 0)
  | 12 => (0, 13, 0, 0, (-1))
  | 13 => (17, 16, 2, 21, 0)
  | 16 => (1, 17, 2, 0, 0)
  | 17 => (1, 18, 1, 0, 0)
  | 18 => (17, 21, 2, 23, 0)
  | 21 => (0, 22, 0, 0, (-1))
  | 22 => (34, 23, 0, 0, 0)
  | 23 => (2, 24, 0, 0, 0)
  | 24 => (20, 27, 5, 5, 0)
  | 27 => (0, 28, 0, 0, 0)
  | 28 => (21, 31, 0, 1, 1)
  | 31 => (2, 32, 0, 0, 0)
  | 32 => (20, 35, 5, 6, 0)
  | 35 => (0, 36, 0, 0, 0)
  | 36 => (21, 39, 0, 1, 1)
  | 39 => (0, 41, 0, 0, 99)
  | 41 => (1, 42, 1, 0, 0)
  | 42 => (8, 43, 2, 0, 0)
  | 43 => (0, 44, 0, 0, 1)
  | 44 => (8, 45, 0, 0, 0)
  | 45 => (4, 46, 3, 0, 0)
  | 46 => (2, 47, 0, 0, 0)
  | 47 => (20, 50, 5, 0, 0)
  | 50 => (20, 53, 3, 1, 1)
  | 53 => (2, 54, 0, 0, 0)
  | 54 => (20, 57, 5, 5, 0)
  | 57 => (1, 58, 1, 0, 0)
  | 58 => (0, 59, 0, 0, 0)
  | 59 => (1, 60, 3, 0, 0)
  | 60 => (2, 61, 0, 0, 0)
  | 61 => (20, 64, 5, 6, 0)
  | 64 => (28, 67, 53, 6, 0)
  | 67 => (4, 69, 4, 0, 0)
  | 69 => (1, 71, 4, 0, 0)
  | 71 => (1, 72, 3, 0, 0)
  | 72 => (17, 75, 1, 78, 0)
  | 75 => (0, 77, 0, 0, (-4))
  | 77 => (34, 78, 0, 0, 0)
  | 78 => (1, 79, 2, 0, 0)
  | 79 => (16, 82, 3, 87, 0)
  | 82 => (1, 84, 4, 0, 0)
  | 84 => (19, 87, 0, 95, 0)
  | 87 => (2, 88, 0, 0, 0)
  | 88 => (20, 91, 5, 6, 0)
  | 91 => (1, 92, 2, 0, 0)
  | 92 => (28, 95, 1, 2, 1)
  | 95 => (34, 96, 0, 0, 0)
  | _ => (99, 0, 0, 0, 0)
def zc_X5_cheapest : Nat → zE := fun pc => match pc with
  | 0 => (1, 1, 3, 0, 0)
  | 1 => (1, 2, 2, 0, 0)
  | 2 => (2, 3, 0, 0, 0)
  | 3 => (28, 6, 11, 1, 1)
  | 6 => (8, 7, 2, 0, 0)
  | 7 => (8, 8, 0, 0, 0)
  | 8 => (1, 10, 4, 0, 0)
  | 10 => (17, 13, 2, 16, 0)
  | 13 => (1, 15, 4, 0, 0)
  | 15 => (34, 16, 0, 0, 0)
  | 16 => (1, 17, 2, 0, 0)
  | 17 => (16, 20, 4, 32, 0)
  | 20 => (2, 22, 5, 0, 0)
  | 22 => (2, 23, 1, 0, 0)
  | 23 => (2, 24, 1, 0, 0)
  | 24 => (20, 27, 0, 1, 1)
  | 27 => (28, 30, 6, 3, 1)
  | 30 => (1, 31, 3, 0, 0)
  | 31 => (34, 32, 0, 0, 0)
  | 32 => (1, 34, 4, 0, 0)
  | 34 => (4, 36, 6, 0, 0)
  | 36 => (0, 37, 0, 0, 0)
  | 37 => (4, 39, 7, 0, 0)
  | 39 => (1, 41, 7, 0, 0)
  | 41 => (2, 42, 0, 0, 0)
  | 42 => (20, 45, 1, 0, 1)
  | 45 => (17, 48, 3, 91, 0)
  | 48 => (2, 49, 0, 0, 0)
  | 49 => (2, 50, 1, 0, 0)
  | 50 => (1, 52, 7, 0, 0)
  | 52 => (28, 55, 15, 3, 1)
  | 55 => (16, 58, 0, 80, 0)
  | 58 => (2, 59, 0, 0, 0)
  | 59 => (2, 60, 1, 0, 0)
  | 60 => (1, 61, 2, 0, 0)
  | 61 => (0, 62, 0, 0, 1)
  | 62 => (8, 63, 1, 0, 0)
  | 63 => (1, 64, 3, 0, 0)
  | 64 => (2, 65, 0, 0, 0)
  | 65 => (1, 67, 7, 0, 0)
  | 67 => (28, 70, 9, 2, 1)
  | 70 => (8, 71, 0, 0, 0)
  | 71 => (1, 73, 6, 0, 0)
  | 73 => (2, 75, 5, 0, 0)
  | 75 => (28, 78, 53, 6, 0)
  | 78 => (4, 80, 6, 0, 0)
  | 80 => (2, 81, 1, 0, 0)
  | 81 => (0, 82, 0, 0, 1)
  | 82 => (28, 85, 4, 2, 1)
  | 85 => (7, 88, 7, 0, 1)
  | 88 => (19, 91, 0, 39, 0)
  | 91 => (1, 93, 6, 0, 0)
  | 93 => (34, 94, 0, 0, 0)
  | _ => (99, 0, 0, 0, 0)
def zc_X5_wins : Nat → zE := fun pc => match pc with
  | 0 => (1, 1, 1, 0, 0)
  | 1 => (16, 4, 2, 10, 0)
  | 4 => (1, 5, 1, 0, 0)
  | 5 => (0, 7, 0, 0, 8)
  | 7 => (17, 10, 5, 12, 0)
  | 10 => (0, 11, 0, 0, (-1))
  | 11 => (34, 12, 0, 0, 0)
  | 12 => (2, 13, 0, 0, 0)
  | 13 => (20, 16, 5, 0, 0)
  | 16 => (20, 19, 3, 1, 1)
  | 19 => (2, 20, 0, 0, 0)
  | 20 => (20, 23, 5, 0, 0)
  | 23 => (20, 26, 3, 0, 1)
  | 26 => (28, 29, 13, 2, 1)
  | 29 => (16, 32, 0, 35, 0)
  | 32 => (0, 34, 0, 0, (-2))
  | 34 => (34, 35, 0, 0, 0)
  | 35 => (2, 36, 0, 0, 0)
  | 36 => (20, 39, 5, 5, 0)
  | 39 => (2, 40, 0, 0, 0)
  | 40 => (20, 43, 5, 0, 0)
  | 43 => (20, 46, 3, 0, 1)
  | 46 => (2, 47, 0, 0, 0)
  | 47 => (20, 50, 5, 0, 0)
  | 50 => (20, 53, 3, 0, 1)
  | 53 => (20, 56, 0, 1, 1)
  | 56 => (28, 59, 6, 3, 1)
  | 59 => (2, 60, 0, 0, 0)
  | 60 => (20, 63, 5, 0, 0)
  | 63 => (20, 66, 3, 1, 1)
  | 66 => (2, 67, 0, 0, 0)
  | 67 => (20, 70, 5, 5, 0)
  | 70 => (1, 71, 1, 0, 0)
  | 71 => (28, 74, 55, 3, 0)
  | 74 => (16, 77, 0, 79, 0)
  | 77 => (0, 78, 0, 0, 1)
  | 78 => (34, 79, 0, 0, 0)
  | 79 => (2, 80, 0, 0, 0)
  | 80 => (20, 83, 5, 0, 0)
  | 83 => (20, 86, 3, 1, 1)
  | 86 => (2, 87, 0, 0, 0)
  | 87 => (20, 90, 5, 5, 0)
  | 90 => (1, 91, 1, 0, 0)
  | 91 => (28, 94, 56, 3, 0)
  | 94 => (16, 97, 0, 101, 0)
  | 97 => (0, 98, 0, 0, 0)
  | 98 => (19, 101, 0, 102, 0)
  | 101 => (0, 102, 0, 0, 2)
  | 102 => (34, 103, 0, 0, 0)
  | _ => (99, 0, 0, 0, 0)
def zc_X5_canWin : Nat → zE := fun pc => match pc with
  | 0 => (1, 1, 2, 0, 0)
  | 1 => (16, 4, 4, 6, 0)
  | 4 => (0, 5, 0, 0, 0)
  | 5 => (35, 6, 0, 0, 0)
  | 6 => (0, 7, 0, 0, 0)
  | 7 => (4, 8, 3, 0, 0)
  | 8 => (0, 9, 0, 0, 0)
  | 9 => (4, 11, 4, 0, 0)
  | 11 => (1, 13, 4, 0, 0)
  | 13 => (2, 14, 0, 0, 0)
  | 14 => (20, 17, 1, 0, 1)
  | 17 => (17, 20, 3, 62, 0)
  | 20 => (1, 21, 3, 0, 0)
  | 21 => (16, 24, 1, 62, 0)
  | 24 => (2, 25, 0, 0, 0)
  | 25 => (2, 26, 1, 0, 0)
  | 26 => (1, 28, 4, 0, 0)
  | 28 => (28, 31, 15, 3, 1)
  | 31 => (16, 34, 0, 49, 0)
  | 34 => (2, 35, 0, 0, 0)
  | 35 => (2, 36, 1, 0, 0)
  | 36 => (1, 37, 2, 0, 0)
  | 37 => (0, 38, 0, 0, 1)
  | 38 => (8, 39, 1, 0, 0)
  | 39 => (28, 42, 56, 3, 0)
  | 42 => (16, 45, 0, 49, 0)
  | 45 => (0, 46, 0, 0, 1)
  | 46 => (19, 49, 0, 50, 0)
  | 49 => (0, 50, 0, 0, 0)
  | 50 => (4, 51, 3, 0, 0)
  | 51 => (2, 52, 1, 0, 0)
  | 52 => (0, 53, 0, 0, 1)
  | 53 => (28, 56, 4, 2, 1)
  | 56 => (7, 59, 4, 0, 1)
  | 59 => (19, 62, 0, 11, 0)
  | 62 => (1, 63, 3, 0, 0)
  | 63 => (35, 64, 0, 0, 0)
  | _ => (99, 0, 0, 0, 0)
def zc_X5_isLost : Nat → zE := fun pc => match pc with
  | 0 => (1, 1, 2, 0, 0)
  | 1 => (16, 4, 3, 6, 0)
  | 4 => (0, 5, 0, 0, 0)
  | 5 => (35, 6, 0, 0, 0)
  | 6 => (0, 7, 0, 0, 1)
  | 7 => (4, 8, 3, 0, 0)
  | 8 => (0, 9, 0, 0, 0)
  | 9 => (4, 11, 4, 0, 0)
  | 11 => (1, 13, 4, 0, 0)
  | 13 => (2, 14, 0, 0, 0)
  | 14 => (20, 17, 1, 0, 1)
  | 17 => (17, 20, 3, 62, 0)
  | 20 => (1, 21, 3, 0, 0)
  | 21 => (16, 24, 0, 62, 0)
  | 24 => (2, 25, 0, 0, 0)
  | 25 => (2, 26, 1, 0, 0)
  | 26 => (1, 28, 4, 0, 0)
  | 28 => (28, 31, 15, 3, 1)
  | 31 => (16, 34, 0, 45, 0)
  | 34 => (2, 35, 0, 0, 0)
  | 35 => (2, 36, 1, 0, 0)
  | 36 => (1, 37, 2, 0, 0)
  | 37 => (0, 38, 0, 0, 1)
  | 38 => (8, 39, 1, 0, 0)
  | 39 => (28, 42, 55, 3, 0)
  | 42 => (16, 45, 0, 49, 0)
  | 45 => (0, 46, 0, 0, 1)
  | 46 => (19, 49, 0, 50, 0)
  | 49 => (0, 50, 0, 0, 0)
  | 50 => (4, 51, 3, 0, 0)
  | 51 => (2, 52, 1, 0, 0)
  | 52 => (0, 53, 0, 0, 1)
  | 53 => (28, 56, 4, 2, 1)
  | 56 => (7, 59, 4, 0, 1)
  | 59 => (19, 62, 0, 11, 0)
  | 62 => (1, 63, 3, 0, 0)
  | 63 => (35, 64, 0, 0, 0)
  | _ => (99, 0, 0, 0, 0)
def zc_X5_tear : Nat → zE := fun pc => match pc with
  | 0 => (2, 1, 0, 0, 0)
  | 1 => (20, 4, 5, 0, 0)
  | 4 => (20, 7, 3, 0, 1)
  | 7 => (1, 8, 1, 0, 0)
  | 8 => (28, 11, 0, 2, 1)
  | 11 => (16, 14, 1, 16, 0)
  | 14 => (0, 15, 0, 0, (-1))
  | 15 => (34, 16, 0, 0, 0)
  | 16 => (2, 17, 0, 0, 0)
  | 17 => (20, 20, 5, 0, 0)
  | 20 => (20, 23, 3, 0, 1)
  | 23 => (1, 24, 1, 0, 0)
  | 24 => (28, 27, 5, 2, 1)
  | 27 => (2, 28, 0, 0, 0)
  | 28 => (20, 31, 5, 0, 0)
  | 31 => (20, 34, 3, 1, 1)
  | 34 => (2, 35, 0, 0, 0)
  | 35 => (20, 38, 5, 0, 0)
  | 38 => (20, 41, 3, 0, 1)
  | 41 => (28, 44, 13, 2, 1)
  | 44 => (16, 47, 1, 51, 0)
  | 47 => (0, 48, 0, 0, 1)
  | 48 => (19, 51, 0, 52, 0)
  | 51 => (0, 52, 0, 0, 0)
  | 52 => (34, 53, 0, 0, 0)
  | _ => (99, 0, 0, 0, 0)
def zc_X5_mends : Nat → zE := fun pc => match pc with
  | 0 => (2, 1, 0, 0, 0)
  | 1 => (20, 4, 5, 0, 0)
  | 4 => (20, 7, 3, 0, 1)
  | 7 => (1, 8, 1, 0, 0)
  | 8 => (28, 11, 0, 2, 1)
  | 11 => (16, 14, 1, 16, 0)
  | 14 => (0, 15, 0, 0, (-1))
  | 15 => (34, 16, 0, 0, 0)
  | 16 => (2, 17, 0, 0, 0)
  | 17 => (20, 20, 5, 5, 0)
  | 20 => (2, 21, 0, 0, 0)
  | 21 => (20, 24, 5, 0, 0)
  | 24 => (20, 27, 3, 0, 1)
  | 27 => (2, 28, 0, 0, 0)
  | 28 => (20, 31, 5, 0, 0)
  | 31 => (20, 34, 3, 0, 1)
  | 34 => (20, 37, 0, 1, 1)
  | 37 => (28, 40, 6, 3, 1)
  | 40 => (0, 41, 0, 0, 0)
  | 41 => (4, 42, 2, 0, 0)
  | 42 => (0, 43, 0, 0, 0)
  | 43 => (4, 44, 3, 0, 0)
  | 44 => (1, 45, 3, 0, 0)
  | 45 => (2, 46, 0, 0, 0)
  | 46 => (20, 49, 5, 0, 0)
  | 49 => (20, 52, 3, 1, 1)
  | 52 => (20, 55, 1, 0, 1)
  | 55 => (17, 58, 3, 96, 0)
  | 58 => (2, 59, 0, 0, 0)
  | 59 => (20, 62, 5, 5, 0)
  | 62 => (1, 63, 1, 0, 0)
  | 63 => (1, 64, 3, 0, 0)
  | 64 => (28, 67, 2, 3, 1)
  | 67 => (2, 68, 0, 0, 0)
  | 68 => (20, 71, 5, 0, 0)
  | 71 => (20, 74, 3, 1, 1)
  | 74 => (2, 75, 0, 0, 0)
  | 75 => (20, 78, 5, 5, 0)
  | 78 => (28, 81, 13, 2, 1)
  | 81 => (16, 84, 1, 90, 0)
  | 84 => (1, 85, 2, 0, 0)
  | 85 => (0, 86, 0, 0, 1)
  | 86 => (1, 87, 3, 0, 0)
  | 87 => (8, 88, 5, 0, 0)
  | 88 => (8, 89, 4, 0, 0)
  | 89 => (4, 90, 2, 0, 0)
  | 90 => (7, 93, 3, 0, 1)
  | 93 => (19, 96, 0, 44, 0)
  | 96 => (1, 97, 2, 0, 0)
  | 97 => (34, 98, 0, 0, 0)
  | _ => (99, 0, 0, 0, 0)
def zc_X5_replace : Nat → zE := fun pc => match pc with
  | 0 => (2, 1, 0, 0, 0)
  | 1 => (20, 4, 5, 0, 0)
  | 4 => (20, 7, 3, 0, 1)
  | 7 => (1, 8, 1, 0, 0)
  | 8 => (28, 11, 0, 2, 1)
  | 11 => (16, 14, 0, 28, 0)
  | 14 => (2, 15, 0, 0, 0)
  | 15 => (20, 18, 5, 0, 0)
  | 18 => (20, 21, 3, 1, 1)
  | 21 => (1, 22, 2, 0, 0)
  | 22 => (28, 25, 8, 2, 1)
  | 25 => (16, 28, 1, 30, 0)
  | 28 => (0, 29, 0, 0, (-1))
  | 29 => (34, 30, 0, 0, 0)
  | 30 => (2, 31, 0, 0, 0)
  | 31 => (20, 34, 5, 0, 0)
  | 34 => (20, 37, 3, 0, 1)
  | 37 => (1, 38, 1, 0, 0)
  | 38 => (28, 41, 1, 2, 1)
  | 41 => (4, 42, 3, 0, 0)
  | 42 => (2, 43, 0, 0, 0)
  | 43 => (20, 46, 5, 0, 0)
  | 46 => (20, 49, 3, 0, 1)
  | 49 => (1, 50, 1, 0, 0)
  | 50 => (1, 51, 2, 0, 0)
  | 51 => (28, 54, 2, 3, 1)
  | 54 => (1, 55, 3, 0, 0)
  | 55 => (34, 56, 0, 0, 0)
  | _ => (99, 0, 0, 0, 0)
def zc_X5_lots : Nat → zE := fun pc => match pc with
  | 0 => (1, 1, 1, 0, 0)
  | 1 => (0, 2, 0, 0, 1)
  | 2 => (17, 5, 2, 11, 0)
  | 5 => (1, 6, 1, 0, 0)
  | 6 => (0, 8, 0, 0, 48)
  | 8 => (17, 11, 5, 13, 0)
  | 11 => (0, 12, 0, 0, (-1))
  | 12 => (34, 13, 0, 0, 0)
  | 13 => (2, 14, 0, 0, 0)
  | 14 => (20, 17, 5, 0, 0)
  | 17 => (20, 20, 3, 0, 1)
  | 20 => (20, 23, 0, 1, 1)
  | 23 => (0, 25, 0, 0, 48)
  | 25 => (1, 26, 1, 0, 0)
  | 26 => (8, 27, 1, 0, 0)
  | 27 => (17, 30, 5, 33, 0)
  | 30 => (0, 32, 0, 0, (-3))
  | 32 => (34, 33, 0, 0, 0)
  | 33 => (0, 34, 0, 0, 0)
  | 34 => (4, 35, 2, 0, 0)
  | 35 => (2, 36, 0, 0, 0)
  | 36 => (2, 37, 0, 0, 0)
  | 37 => (20, 40, 5, 0, 0)
  | 40 => (20, 43, 3, 0, 1)
  | 43 => (20, 46, 0, 1, 1)
  | 46 => (28, 49, 40, 2, 0)
  | 49 => (4, 50, 3, 0, 0)
  | 50 => (1, 51, 2, 0, 0)
  | 51 => (1, 52, 1, 0, 0)
  | 52 => (17, 55, 3, 128, 0)
  | 55 => (1, 56, 3, 0, 0)
  | 56 => (16, 59, 0, 128, 0)
  | 59 => (2, 60, 0, 0, 0)
  | 60 => (20, 63, 5, 0, 0)
  | 63 => (2, 64, 0, 0, 0)
  | 64 => (20, 67, 5, 0, 0)
  | 67 => (20, 70, 3, 2, 1)
  | 70 => (0, 72, 187, 0, 1103515245)
  | 72 => (8, 73, 2, 0, 0)
  | 73 => (0, 76, 0, 0, 12345)
  | 76 => (8, 77, 0, 0, 0)
  | 77 => (0, 79, 188, 0, 2147483647)
  | 79 => (8, 80, 3, 0, 0)
  | 80 => (21, 83, 3, 2, 1)
  | 83 => (2, 84, 0, 0, 0)
  | 84 => (20, 87, 5, 0, 0)
  | 87 => (20, 90, 3, 0, 1)
  | 90 => (1, 91, 3, 0, 0)
  | 91 => (2, 92, 0, 0, 0)
  | 92 => (20, 95, 5, 0, 0)
  | 95 => (20, 98, 3, 2, 1)
  | 98 => (0, 100, 189, 0, 65536)
  | 100 => (9, 101, 0, 0, 0)
  | 101 => (28, 104, 61, 2, 0)
  | 104 => (28, 107, 3, 2, 1)
  | 107 => (7, 110, 2, 0, 1)
  | 110 => (2, 111, 0, 0, 0)
  | 111 => (2, 112, 0, 0, 0)
  | 112 => (20, 115, 5, 0, 0)
  | 115 => (20, 118, 3, 0, 1)
  | 118 => (20, 121, 0, 1, 1)
  | 121 => (28, 124, 40, 2, 0)
  | 124 => (4, 125, 3, 0, 0)
  | 125 => (19, 128, 0, 50, 0)
  | 128 => (1, 129, 2, 0, 0)
  | 129 => (34, 130, 0, 0, 0)
  | _ => (99, 0, 0, 0, 0)
def zc_X5_drawn : Nat → zE := fun pc => match pc with
  | 0 => (1, 1, 0, 0, 0)
  | 1 => (28, 4, 137, 1, 0)
  | 4 => (4, 5, 2, 0, 0)
  | 5 => (1, 6, 2, 0, 0)
  | 6 => (16, 9, 1, 13, 0)
  | 9 => (0, 10, 0, 0, 0)
  | 10 => (19, 13, 0, 16, 0)
  | 13 => (1, 14, 1, 0, 0)
  | 14 => (1, 15, 2, 0, 0)
  | 15 => (10, 16, 0, 0, 0)
  | 16 => (4, 17, 3, 0, 0)
  | 17 => (0, 18, 0, 0, 0)
  | 18 => (4, 20, 4, 0, 0)
  | 20 => (1, 22, 4, 0, 0)
  | 22 => (0, 23, 0, 0, 4)
  | 23 => (17, 26, 3, 51, 0)
  | 26 => (1, 27, 0, 0, 0)
  | 27 => (1, 29, 4, 0, 0)
  | 29 => (8, 30, 6, 0, 0)
  | 30 => (0, 31, 0, 0, 1)
  | 31 => (8, 32, 3, 0, 0)
  | 32 => (16, 35, 0, 45, 0)
  | 35 => (1, 36, 3, 0, 0)
  | 36 => (16, 39, 1, 42, 0)
  | 39 => (1, 41, 4, 0, 0)
  | 41 => (34, 42, 0, 0, 0)
  | 42 => (7, 45, 3, 0, (-1))
  | 45 => (7, 48, 4, 0, 1)
  | 48 => (19, 51, 0, 20, 0)
  | 51 => (0, 52, 0, 0, 0)
  | 52 => (34, 53, 0, 0, 0)
  | _ => (99, 0, 0, 0, 0)
def zc_X5_seed : Nat → zE := fun pc => match pc with
  | 0 => (1, 1, 1, 0, 0)
  | 1 => (16, 4, 3, 6, 0)
  | 4 => (0, 5, 0, 0, (-1))
  | 5 => (34, 6, 0, 0, 0)
  | 6 => (2, 7, 0, 0, 0)
  | 7 => (20, 10, 5, 0, 0)
  | 10 => (20, 13, 3, 2, 1)
  | 13 => (4, 14, 2, 0, 0)
  | 14 => (2, 15, 0, 0, 0)
  | 15 => (20, 18, 5, 0, 0)
  | 18 => (1, 19, 1, 0, 0)
  | 19 => (21, 22, 3, 2, 1)
  | 22 => (1, 23, 2, 0, 0)
  | 23 => (34, 24, 0, 0, 0)
  | _ => (99, 0, 0, 0, 0)
def zc_X5_image : Nat → zE := fun pc => match pc with
  | 0 => (2, 1, 0, 0, 0)
  | 1 => (20, 4, 5, 1, 0)
  | 4 => (2, 5, 0, 0, 0)
  | 5 => (20, 8, 5, 0, 0)
  | 8 => (28, 11, 24, 2, 1)
  | 11 => (2, 12, 0, 0, 0)
  | 12 => (0, 13, 0, 0, 1)
  | 13 => (22, 16, 5, 2, 0)
  | 16 => (0, 17, 0, 0, 1)
  | 17 => (34, 18, 0, 0, 0)
  | _ => (99, 0, 0, 0, 0)
def zc_X5_restore : Nat → zE := fun pc => match pc with
  | 0 => (2, 1, 0, 0, 0)
  | 1 => (20, 4, 5, 2, 0)
  | 4 => (16, 7, 1, 10, 0)
  | 7 => (0, 9, 0, 0, (-4))
  | 9 => (34, 10, 0, 0, 0)
  | 10 => (2, 11, 0, 0, 0)
  | 11 => (20, 14, 5, 0, 0)
  | 14 => (2, 15, 0, 0, 0)
  | 15 => (20, 18, 5, 1, 0)
  | 18 => (28, 21, 24, 2, 1)
  | 21 => (0, 22, 0, 0, 1)
  | 22 => (34, 23, 0, 0, 0)
  | _ => (99, 0, 0, 0, 0)
def zc_X5_storm : Nat → zE := fun pc => match pc with
  | 0 => (1, 2, 4, 0, 0)
  | 2 => (0, 3, 0, 0, 1)
  | 3 => (17, 6, 2, 25, 0)
  | 6 => (1, 8, 4, 0, 0)
  | 8 => (0, 9, 0, 0, 4)
  | 9 => (17, 12, 4, 25, 0)
  | 12 => (1, 14, 5, 0, 0)
  | 14 => (0, 15, 0, 0, (-1))
  | 15 => (17, 18, 2, 25, 0)
  | 18 => (1, 20, 5, 0, 0)
  | 20 => (1, 22, 4, 0, 0)
  | 22 => (17, 25, 2, 27, 0)
  | 25 => (0, 26, 0, 0, (-1))
  | 26 => (34, 27, 0, 0, 0)
  | 27 => (2, 28, 0, 0, 0)
  | 28 => (1, 29, 1, 0, 0)
  | 29 => (28, 32, 75, 2, 0)
  | 32 => (5, 34, 6, 0, 0)
  | 34 => (2, 36, 6, 0, 0)
  | 36 => (1, 37, 2, 0, 0)
  | 37 => (1, 38, 3, 0, 0)
  | 38 => (1, 40, 4, 0, 0)
  | 40 => (28, 43, 74, 4, 0)
  | 43 => (4, 45, 7, 0, 0)
  | 45 => (2, 47, 6, 0, 0)
  | 47 => (18, 50, 0, 55, 0)
  | 50 => (1, 52, 7, 0, 0)
  | 52 => (16, 55, 0, 58, 0)
  | 55 => (1, 57, 7, 0, 0)
  | 57 => (34, 58, 0, 0, 0)
  | 58 => (2, 59, 0, 0, 0)
  | 59 => (2, 61, 6, 0, 0)
  | 61 => (1, 62, 3, 0, 0)
  | 62 => (1, 64, 4, 0, 0)
  | 64 => (28, 67, 66, 4, 0)
  | 67 => (16, 70, 1, 73, 0)
  | 70 => (0, 72, 0, 0, (-2))
  | 72 => (34, 73, 0, 0, 0)
  | 73 => (2, 74, 0, 0, 0)
  | 74 => (20, 77, 5, 5, 0)
  | 77 => (2, 78, 0, 0, 0)
  | 78 => (20, 81, 5, 0, 0)
  | 81 => (20, 84, 3, 0, 1)
  | 84 => (2, 85, 0, 0, 0)
  | 85 => (20, 88, 5, 0, 0)
  | 88 => (20, 91, 3, 0, 1)
  | 91 => (20, 94, 0, 1, 1)
  | 94 => (28, 97, 6, 3, 1)
  | 97 => (2, 98, 0, 0, 0)
  | 98 => (20, 101, 5, 6, 0)
  | 101 => (0, 102, 0, 0, 0)
  | 102 => (21, 105, 0, 1, 1)
  | 105 => (2, 106, 0, 0, 0)
  | 106 => (20, 109, 5, 0, 0)
  | 109 => (20, 112, 3, 1, 1)
  | 112 => (2, 113, 0, 0, 0)
  | 113 => (20, 116, 5, 5, 0)
  | 116 => (0, 117, 0, 0, 0)
  | 117 => (2, 118, 0, 0, 0)
  | 118 => (20, 121, 5, 7, 0)
  | 121 => (0, 122, 0, 0, 0)
  | 122 => (23, 123, 0, 0, 0)
  | 123 => (28, 126, 14, 4, 1)
  | 126 => (16, 129, 0, 157, 0)
  | 129 => (2, 130, 0, 0, 0)
  | 130 => (20, 133, 5, 0, 0)
  | 133 => (20, 136, 3, 1, 1)
  | 136 => (2, 137, 0, 0, 0)
  | 137 => (20, 140, 5, 5, 0)
  | 140 => (2, 141, 0, 0, 0)
  | 141 => (20, 144, 5, 7, 0)
  | 144 => (1, 146, 4, 0, 0)
  | 146 => (0, 147, 0, 0, 0)
  | 147 => (2, 148, 0, 0, 0)
  | 148 => (20, 151, 5, 6, 0)
  | 151 => (28, 154, 67, 6, 0)
  | 154 => (19, 157, 0, 158, 0)
  | 157 => (0, 158, 0, 0, 0)
  | 158 => (4, 160, 8, 0, 0)
  | 160 => (1, 162, 5, 0, 0)
  | 162 => (16, 165, 3, 168, 0)
  | 165 => (1, 167, 8, 0, 0)
  | 167 => (34, 168, 0, 0, 0)
  | 168 => (1, 170, 8, 0, 0)
  | 170 => (16, 173, 1, 178, 0)
  | 173 => (0, 175, 0, 0, (-4))
  | 175 => (19, 178, 0, 192, 0)
  | 178 => (2, 179, 0, 0, 0)
  | 179 => (20, 182, 5, 6, 0)
  | 182 => (2, 183, 0, 0, 0)
  | 183 => (20, 186, 5, 7, 0)
  | 186 => (1, 188, 5, 0, 0)
  | 188 => (23, 189, 0, 0, 0)
  | 189 => (28, 192, 1, 2, 1)
  | 192 => (34, 193, 0, 0, 0)
  | _ => (99, 0, 0, 0, 0)
def zc_X5_readLost : Nat → zE := fun pc => match pc with
  | 0 => (0, 1, 0, 0, (-1))
  | 1 => (4, 3, 4, 0, 0)
  | 3 => (0, 4, 0, 0, 0)
  | 4 => (4, 6, 5, 0, 0)
  | 6 => (1, 8, 5, 0, 0)
  | 8 => (1, 9, 3, 0, 0)
  | 9 => (17, 12, 3, 75, 0)
  | 12 => (1, 14, 5, 0, 0)
  | 14 => (2, 15, 0, 0, 0)
  | 15 => (20, 18, 5, 7, 0)
  | 18 => (27, 19, 0, 0, 0)
  | 19 => (17, 22, 3, 75, 0)
  | 22 => (2, 23, 1, 0, 0)
  | 23 => (1, 24, 2, 0, 0)
  | 24 => (1, 26, 5, 0, 0)
  | 26 => (8, 27, 0, 0, 0)
  | 27 => (28, 30, 21, 2, 1)
  | 30 => (4, 32, 6, 0, 0)
  | 32 => (1, 34, 6, 0, 0)
  | 34 => (1, 36, 4, 0, 0)
  | 36 => (17, 39, 5, 54, 0)
  | 39 => (2, 40, 0, 0, 0)
  | 40 => (20, 43, 5, 0, 0)
  | 43 => (20, 46, 3, 0, 1)
  | 46 => (1, 48, 6, 0, 0)
  | 48 => (28, 51, 0, 2, 1)
  | 51 => (16, 54, 1, 56, 0)
  | 54 => (0, 55, 0, 0, 0)
  | 55 => (35, 56, 0, 0, 0)
  | 56 => (2, 57, 0, 0, 0)
  | 57 => (20, 60, 5, 7, 0)
  | 60 => (1, 62, 5, 0, 0)
  | 62 => (1, 64, 6, 0, 0)
  | 64 => (24, 65, 0, 0, 0)
  | 65 => (1, 67, 6, 0, 0)
  | 67 => (4, 69, 4, 0, 0)
  | 69 => (7, 72, 5, 0, 1)
  | 72 => (19, 75, 0, 6, 0)
  | 75 => (0, 76, 0, 0, 1)
  | 76 => (35, 77, 0, 0, 0)
  | _ => (99, 0, 0, 0, 0)
def zc_X5_waysToMend : Nat → zE := fun pc => match pc with
  | 0 => (1, 2, 4, 0, 0)
  | 2 => (1, 3, 3, 0, 0)
  | 3 => (17, 6, 3, 13, 0)
  | 6 => (1, 8, 4, 0, 0)
  | 8 => (2, 9, 2, 0, 0)
  | 9 => (27, 10, 0, 0, 0)
  | 10 => (17, 13, 2, 33, 0)
  | 13 => (2, 15, 5, 0, 0)
  | 15 => (20, 18, 0, 1, 1)
  | 18 => (16, 21, 1, 31, 0)
  | 21 => (2, 23, 5, 0, 0)
  | 23 => (2, 24, 1, 0, 0)
  | 24 => (2, 25, 1, 0, 0)
  | 25 => (20, 28, 0, 1, 1)
  | 28 => (28, 31, 6, 3, 1)
  | 31 => (0, 32, 0, 0, 1)
  | 32 => (34, 33, 0, 0, 0)
  | 33 => (1, 35, 4, 0, 0)
  | 35 => (0, 36, 0, 0, 1)
  | 36 => (8, 37, 0, 0, 0)
  | 37 => (1, 38, 3, 0, 0)
  | 38 => (17, 41, 3, 59, 0)
  | 41 => (1, 43, 4, 0, 0)
  | 43 => (0, 44, 0, 0, 1)
  | 44 => (8, 45, 0, 0, 0)
  | 45 => (2, 46, 2, 0, 0)
  | 46 => (27, 47, 0, 0, 0)
  | 47 => (17, 50, 3, 59, 0)
  | 50 => (2, 51, 2, 0, 0)
  | 51 => (1, 53, 4, 0, 0)
  | 53 => (0, 54, 0, 0, 1)
  | 54 => (8, 55, 0, 0, 0)
  | 55 => (23, 56, 0, 0, 0)
  | 56 => (19, 59, 0, 63, 0)
  | 59 => (2, 60, 1, 0, 0)
  | 60 => (20, 63, 0, 1, 1)
  | 63 => (4, 65, 6, 0, 0)
  | 65 => (0, 66, 0, 0, 0)
  | 66 => (4, 68, 7, 0, 0)
  | 68 => (0, 69, 0, 0, 0)
  | 69 => (4, 71, 8, 0, 0)
  | 71 => (1, 73, 8, 0, 0)
  | 73 => (2, 74, 0, 0, 0)
  | 74 => (20, 77, 1, 0, 1)
  | 77 => (17, 80, 3, 128, 0)
  | 80 => (2, 81, 1, 0, 0)
  | 81 => (2, 82, 2, 0, 0)
  | 82 => (1, 84, 4, 0, 0)
  | 84 => (23, 85, 0, 0, 0)
  | 85 => (1, 87, 8, 0, 0)
  | 87 => (28, 90, 2, 3, 1)
  | 90 => (2, 91, 0, 0, 0)
  | 91 => (2, 92, 1, 0, 0)
  | 92 => (2, 93, 2, 0, 0)
  | 93 => (1, 95, 4, 0, 0)
  | 95 => (23, 96, 0, 0, 0)
  | 96 => (1, 98, 6, 0, 0)
  | 98 => (28, 101, 14, 4, 1)
  | 101 => (16, 104, 0, 122, 0)
  | 104 => (1, 106, 7, 0, 0)
  | 106 => (2, 107, 0, 0, 0)
  | 107 => (2, 108, 1, 0, 0)
  | 108 => (2, 109, 2, 0, 0)
  | 109 => (1, 110, 3, 0, 0)
  | 110 => (1, 112, 4, 0, 0)
  | 112 => (0, 113, 0, 0, 1)
  | 113 => (8, 114, 0, 0, 0)
  | 114 => (2, 116, 5, 0, 0)
  | 116 => (28, 119, 67, 6, 0)
  | 119 => (8, 120, 0, 0, 0)
  | 120 => (4, 122, 7, 0, 0)
  | 122 => (7, 125, 8, 0, 1)
  | 125 => (19, 128, 0, 71, 0)
  | 128 => (1, 130, 7, 0, 0)
  | 130 => (34, 131, 0, 0, 0)
  | _ => (99, 0, 0, 0, 0)
def zc_X5_build : Nat → zE := fun pc => match pc with
  | 0 => (1, 2, 4, 0, 0)
  | 2 => (16, 5, 2, 12, 0)
  | 5 => (1, 7, 4, 0, 0)
  | 7 => (0, 9, 0, 0, 48)
  | 9 => (17, 12, 5, 14, 0)
  | 12 => (0, 13, 0, 0, (-1))
  | 13 => (34, 14, 0, 0, 0)
  | 14 => (2, 15, 0, 0, 0)
  | 15 => (1, 16, 1, 0, 0)
  | 16 => (28, 19, 75, 2, 0)
  | 19 => (5, 21, 5, 0, 0)
  | 21 => (2, 23, 5, 0, 0)
  | 23 => (1, 24, 2, 0, 0)
  | 24 => (1, 25, 3, 0, 0)
  | 25 => (1, 27, 4, 0, 0)
  | 27 => (28, 30, 74, 4, 0)
  | 30 => (4, 32, 6, 0, 0)
  | 32 => (2, 34, 5, 0, 0)
  | 34 => (18, 37, 0, 42, 0)
  | 37 => (1, 39, 6, 0, 0)
  | 39 => (16, 42, 0, 45, 0)
  | 42 => (1, 44, 6, 0, 0)
  | 44 => (34, 45, 0, 0, 0)
  | 45 => (2, 46, 0, 0, 0)
  | 46 => (20, 49, 5, 5, 0)
  | 49 => (0, 50, 0, 0, 0)
  | 50 => (21, 53, 0, 1, 1)
  | 53 => (0, 54, 0, 0, 0)
  | 54 => (4, 56, 7, 0, 0)
  | 56 => (1, 58, 7, 0, 0)
  | 58 => (1, 60, 4, 0, 0)
  | 60 => (17, 63, 3, 107, 0)
  | 63 => (2, 65, 5, 0, 0)
  | 65 => (1, 66, 3, 0, 0)
  | 66 => (1, 68, 7, 0, 0)
  | 68 => (8, 69, 0, 0, 0)
  | 69 => (28, 72, 21, 2, 1)
  | 72 => (4, 74, 8, 0, 0)
  | 74 => (2, 75, 0, 0, 0)
  | 75 => (20, 78, 5, 0, 0)
  | 78 => (20, 81, 3, 1, 1)
  | 81 => (1, 83, 8, 0, 0)
  | 83 => (28, 86, 8, 2, 1)
  | 86 => (16, 89, 1, 92, 0)
  | 89 => (0, 91, 0, 0, (-2))
  | 91 => (34, 92, 0, 0, 0)
  | 92 => (2, 93, 0, 0, 0)
  | 93 => (20, 96, 5, 5, 0)
  | 96 => (1, 98, 8, 0, 0)
  | 98 => (28, 101, 3, 2, 1)
  | 101 => (7, 104, 7, 0, 1)
  | 104 => (19, 107, 0, 56, 0)
  | 107 => (2, 108, 0, 0, 0)
  | 108 => (20, 111, 5, 0, 0)
  | 111 => (20, 114, 3, 0, 1)
  | 114 => (2, 115, 0, 0, 0)
  | 115 => (20, 118, 5, 5, 0)
  | 118 => (1, 120, 4, 0, 0)
  | 120 => (28, 123, 6, 3, 1)
  | 123 => (1, 125, 4, 0, 0)
  | 125 => (34, 126, 0, 0, 0)
  | _ => (99, 0, 0, 0, 0)
def zc_X5_film : Nat → zE := fun pc => match pc with
  | 0 => (2, 1, 0, 0, 0)
  | 1 => (1, 2, 1, 0, 0)
  | 2 => (28, 5, 75, 2, 0)
  | 5 => (5, 7, 4, 0, 0)
  | 7 => (2, 9, 4, 0, 0)
  | 9 => (1, 10, 2, 0, 0)
  | 10 => (1, 11, 3, 0, 0)
  | 11 => (2, 12, 0, 0, 0)
  | 12 => (20, 15, 5, 0, 0)
  | 15 => (20, 18, 3, 0, 1)
  | 18 => (20, 21, 0, 1, 1)
  | 21 => (28, 24, 74, 4, 0)
  | 24 => (4, 26, 5, 0, 0)
  | 26 => (2, 28, 4, 0, 0)
  | 28 => (18, 31, 0, 36, 0)
  | 31 => (1, 33, 5, 0, 0)
  | 33 => (16, 36, 0, 39, 0)
  | 36 => (1, 38, 5, 0, 0)
  | 38 => (34, 39, 0, 0, 0)
  | 39 => (0, 40, 0, 0, 0)
  | 40 => (4, 42, 6, 0, 0)
  | 42 => (1, 44, 6, 0, 0)
  | 44 => (2, 45, 0, 0, 0)
  | 45 => (20, 48, 5, 0, 0)
  | 48 => (20, 51, 3, 0, 1)
  | 51 => (20, 54, 0, 1, 1)
  | 54 => (17, 57, 3, 84, 0)
  | 57 => (2, 59, 4, 0, 0)
  | 59 => (1, 60, 3, 0, 0)
  | 60 => (1, 62, 6, 0, 0)
  | 62 => (8, 63, 0, 0, 0)
  | 63 => (2, 64, 0, 0, 0)
  | 64 => (20, 67, 5, 0, 0)
  | 67 => (20, 70, 3, 0, 1)
  | 70 => (1, 72, 6, 0, 0)
  | 72 => (28, 75, 1, 2, 1)
  | 75 => (28, 78, 22, 3, 1)
  | 78 => (7, 81, 6, 0, 1)
  | 81 => (19, 84, 0, 42, 0)
  | 84 => (2, 85, 0, 0, 0)
  | 85 => (20, 88, 5, 0, 0)
  | 88 => (20, 91, 3, 0, 1)
  | 91 => (20, 94, 0, 1, 1)
  | 94 => (34, 95, 0, 0, 0)
  | _ => (99, 0, 0, 0, 0)
def zc_X5_sheet : Nat → zE := fun pc => match pc with
  | 0 => (2, 1, 0, 0, 0)
  | 1 => (1, 2, 1, 0, 0)
  | 2 => (28, 5, 75, 2, 0)
  | 5 => (5, 7, 4, 0, 0)
  | 7 => (2, 9, 4, 0, 0)
  | 9 => (18, 12, 0, 25, 0)
  | 12 => (1, 13, 2, 0, 0)
  | 13 => (28, 16, 76, 1, 0)
  | 16 => (16, 19, 0, 25, 0)
  | 19 => (1, 20, 3, 0, 0)
  | 20 => (0, 22, 0, 0, 48)
  | 22 => (17, 25, 5, 27, 0)
  | 25 => (0, 26, 0, 0, (-1))
  | 26 => (34, 27, 0, 0, 0)
  | 27 => (1, 28, 3, 0, 0)
  | 28 => (16, 31, 3, 34, 0)
  | 31 => (0, 33, 0, 0, (-14))
  | 33 => (34, 34, 0, 0, 0)
  | 34 => (2, 36, 4, 0, 0)
  | 36 => (1, 37, 2, 0, 0)
  | 37 => (1, 38, 3, 0, 0)
  | 38 => (28, 41, 23, 3, 1)
  | 41 => (1, 42, 3, 0, 0)
  | 42 => (34, 43, 0, 0, 0)
  | _ => (99, 0, 0, 0, 0)
def zc_X5_drop : Nat → zE := fun pc => match pc with
  | 0 => (2, 1, 0, 0, 0)
  | 1 => (1, 2, 1, 0, 0)
  | 2 => (28, 5, 75, 2, 0)
  | 5 => (5, 6, 2, 0, 0)
  | 6 => (2, 7, 2, 0, 0)
  | 7 => (18, 10, 1, 12, 0)
  | 10 => (0, 11, 0, 0, (-1))
  | 11 => (34, 12, 0, 0, 0)
  | 12 => (2, 13, 2, 0, 0)
  | 13 => (20, 16, 2, 2, 1)
  | 16 => (0, 17, 0, 0, (-1))
  | 17 => (17, 20, 1, 23, 0)
  | 20 => (0, 22, 0, 0, (-11))
  | 22 => (34, 23, 0, 0, 0)
  | 23 => (2, 24, 2, 0, 0)
  | 24 => (20, 27, 2, 2, 1)
  | 27 => (4, 28, 3, 0, 0)
  | 28 => (2, 29, 2, 0, 0)
  | 29 => (0, 30, 0, 0, (-1))
  | 30 => (21, 33, 2, 2, 1)
  | 33 => (1, 34, 3, 0, 0)
  | 34 => (34, 35, 0, 0, 0)
  | _ => (99, 0, 0, 0, 0)
def zc_X5_item : Nat → zE := fun pc => match pc with
  | 0 => (2, 1, 0, 0, 0)
  | 1 => (1, 2, 1, 0, 0)
  | 2 => (28, 5, 75, 2, 0)
  | 5 => (5, 7, 5, 0, 0)
  | 7 => (2, 9, 5, 0, 0)
  | 9 => (1, 10, 2, 0, 0)
  | 10 => (1, 11, 3, 0, 0)
  | 11 => (0, 12, 0, 0, 1)
  | 12 => (28, 15, 74, 4, 0)
  | 15 => (4, 17, 6, 0, 0)
  | 17 => (2, 19, 5, 0, 0)
  | 19 => (18, 22, 0, 27, 0)
  | 22 => (1, 24, 6, 0, 0)
  | 24 => (16, 27, 0, 30, 0)
  | 27 => (1, 29, 6, 0, 0)
  | 29 => (34, 30, 0, 0, 0)
  | 30 => (2, 32, 5, 0, 0)
  | 32 => (1, 33, 3, 0, 0)
  | 33 => (1, 35, 4, 0, 0)
  | 35 => (28, 38, 22, 3, 1)
  | 38 => (0, 39, 0, 0, 1)
  | 39 => (34, 40, 0, 0, 0)
  | _ => (99, 0, 0, 0, 0)
def zc_X5_copy : Nat → zE := fun pc => match pc with
  | 0 => (2, 1, 0, 0, 0)
  | 1 => (1, 2, 1, 0, 0)
  | 2 => (28, 5, 75, 2, 0)
  | 5 => (5, 7, 6, 0, 0)
  | 7 => (2, 8, 0, 0, 0)
  | 8 => (1, 9, 3, 0, 0)
  | 9 => (28, 12, 75, 2, 0)
  | 12 => (5, 14, 7, 0, 0)
  | 14 => (2, 16, 6, 0, 0)
  | 16 => (18, 19, 0, 24, 0)
  | 19 => (2, 21, 7, 0, 0)
  | 21 => (18, 24, 1, 26, 0)
  | 24 => (0, 25, 0, 0, (-1))
  | 25 => (34, 26, 0, 0, 0)
  | 26 => (2, 28, 6, 0, 0)
  | 28 => (20, 31, 2, 2, 1)
  | 31 => (0, 32, 0, 0, (-1))
  | 32 => (17, 35, 0, 44, 0)
  | 35 => (2, 37, 7, 0, 0)
  | 37 => (20, 40, 2, 2, 1)
  | 40 => (0, 41, 0, 0, (-1))
  | 41 => (17, 44, 1, 47, 0)
  | 44 => (0, 46, 0, 0, (-11))
  | 46 => (34, 47, 0, 0, 0)
  | 47 => (2, 49, 6, 0, 0)
  | 49 => (20, 52, 2, 1, 1)
  | 52 => (2, 54, 7, 0, 0)
  | 54 => (20, 57, 2, 1, 1)
  | 57 => (17, 60, 0, 63, 0)
  | 60 => (0, 62, 0, 0, (-12))
  | 62 => (34, 63, 0, 0, 0)
  | 63 => (2, 65, 6, 0, 0)
  | 65 => (1, 66, 2, 0, 0)
  | 66 => (1, 68, 5, 0, 0)
  | 68 => (28, 71, 20, 3, 1)
  | 71 => (16, 74, 0, 86, 0)
  | 74 => (2, 76, 7, 0, 0)
  | 76 => (1, 78, 4, 0, 0)
  | 78 => (1, 80, 5, 0, 0)
  | 80 => (28, 83, 20, 3, 1)
  | 83 => (16, 86, 1, 89, 0)
  | 86 => (0, 88, 0, 0, (-13))
  | 88 => (34, 89, 0, 0, 0)
  | 89 => (2, 91, 6, 0, 0)
  | 91 => (20, 94, 2, 0, 1)
  | 94 => (1, 95, 2, 0, 0)
  | 95 => (2, 97, 7, 0, 0)
  | 97 => (20, 100, 2, 0, 1)
  | 100 => (1, 102, 4, 0, 0)
  | 102 => (1, 104, 5, 0, 0)
  | 104 => (29, 107, 0, 0, 0)
  | 107 => (1, 109, 5, 0, 0)
  | 109 => (34, 110, 0, 0, 0)
  | _ => (99, 0, 0, 0, 0)
def zc_X5_refusalOf : Nat → zE := fun pc => match pc with
  | 0 => (2, 1, 0, 0, 0)
  | 1 => (18, 4, 0, 11, 0)
  | 4 => (1, 5, 1, 0, 0)
  | 5 => (28, 8, 76, 1, 0)
  | 8 => (16, 11, 1, 13, 0)
  | 11 => (0, 12, 0, 0, (-1))
  | 12 => (34, 13, 0, 0, 0)
  | 13 => (2, 14, 0, 0, 0)
  | 14 => (20, 17, 2, 2, 1)
  | 17 => (0, 18, 0, 0, (-1))
  | 18 => (17, 21, 1, 24, 0)
  | 21 => (0, 23, 0, 0, (-11))
  | 23 => (34, 24, 0, 0, 0)
  | 24 => (2, 25, 0, 0, 0)
  | 25 => (20, 28, 2, 1, 1)
  | 28 => (1, 29, 1, 0, 0)
  | 29 => (17, 32, 0, 35, 0)
  | 32 => (0, 34, 0, 0, (-12))
  | 34 => (34, 35, 0, 0, 0)
  | 35 => (2, 36, 0, 0, 0)
  | 36 => (1, 37, 2, 0, 0)
  | 37 => (1, 38, 3, 0, 0)
  | 38 => (28, 41, 20, 3, 1)
  | 41 => (16, 44, 0, 48, 0)
  | 44 => (0, 45, 0, 0, 0)
  | 45 => (19, 48, 0, 50, 0)
  | 48 => (0, 50, 0, 0, (-13))
  | 50 => (34, 51, 0, 0, 0)
  | _ => (99, 0, 0, 0, 0)
def zc_X5_pageAt : Nat → zE := fun pc => match pc with
  | 0 => (1, 1, 1, 0, 0)
  | 1 => (16, 4, 2, 22, 0)
  | 4 => (1, 5, 1, 0, 0)
  | 5 => (2, 6, 0, 0, 0)
  | 6 => (20, 9, 5, 4, 0)
  | 9 => (27, 10, 0, 0, 0)
  | 10 => (17, 13, 3, 22, 0)
  | 13 => (2, 14, 0, 0, 0)
  | 14 => (20, 17, 5, 4, 0)
  | 17 => (1, 18, 1, 0, 0)
  | 18 => (45, 19, 0, 0, 0)
  | 19 => (19, 22, 0, 23, 0)
  | 22 => (33, 23, 0, 0, 0)
  | 23 => (40, 24, 0, 0, 0)
  | _ => (99, 0, 0, 0, 0)
def zc_X5_isLane : Nat → zE := fun pc => match pc with
  | 0 => (1, 1, 0, 0, 0)
  | 1 => (16, 4, 2, 13, 0)
  | 4 => (1, 5, 0, 0, 0)
  | 5 => (0, 6, 0, 0, 2)
  | 6 => (17, 9, 4, 13, 0)
  | 9 => (0, 10, 0, 0, 1)
  | 10 => (19, 13, 0, 14, 0)
  | 13 => (0, 14, 0, 0, 0)
  | 14 => (35, 15, 0, 0, 0)
  | _ => (99, 0, 0, 0, 0)
def zc_X6_in : Nat → zE := fun pc => match pc with
  | 0 => (3, 1, 0, 0, 0)
  | 1 => (3, 2, 2, 0, 0)
  | 2 => (14, 3, 0, 0, 0)
  | 3 => (16, 6, 2, 17, 0)
  | 6 => (3, 7, 0, 0, 0)
  | 7 => (3, 9, 4, 0, 0)
  | 9 => (14, 10, 0, 0, 0)
  | 10 => (16, 13, 4, 17, 0)
  | 13 => (0, 14, 0, 0, 1)
  | 14 => (19, 17, 0, 18, 0)
  | 17 => (0, 18, 0, 0, 0)
  | 18 => (35, 19, 0, 0, 0)
  | _ => (99, 0, 0, 0, 0)
def zc_X6_changed : Nat → zE := fun pc => match pc with
  | 0 => (2, 1, 0, 0, 0)
  | 1 => (20, 4, 6, 0, 0)
  | 4 => (1, 5, 1, 0, 0)
  | 5 => (23, 6, 0, 0, 0)
  | 6 => (4, 7, 3, 0, 0)
  | 7 => (2, 8, 0, 0, 0)
  | 8 => (20, 11, 6, 0, 0)
  | 11 => (1, 12, 1, 0, 0)
  | 12 => (1, 13, 2, 0, 0)
  | 13 => (24, 14, 0, 0, 0)
  | 14 => (1, 15, 3, 0, 0)
  | 15 => (34, 16, 0, 0, 0)
  | _ => (99, 0, 0, 0, 0)
def zc_X6_isLike : Nat → zE := fun pc => match pc with
  | 0 => (2, 1, 0, 0, 0)
  | 1 => (20, 4, 6, 0, 0)
  | 4 => (0, 5, 0, 0, 1)
  | 5 => (23, 6, 0, 0, 0)
  | 6 => (0, 7, 0, 0, 2)
  | 7 => (17, 10, 0, 62, 0)
  | 10 => (0, 11, 0, 0, 1)
  | 11 => (4, 12, 3, 0, 0)
  | 12 => (0, 13, 0, 0, 1)
  | 13 => (4, 15, 4, 0, 0)
  | 15 => (1, 17, 4, 0, 0)
  | 17 => (1, 18, 2, 0, 0)
  | 18 => (17, 21, 4, 60, 0)
  | 21 => (1, 22, 3, 0, 0)
  | 22 => (16, 25, 0, 60, 0)
  | 25 => (2, 26, 0, 0, 0)
  | 26 => (20, 29, 6, 8, 0)
  | 29 => (1, 30, 1, 0, 0)
  | 30 => (1, 32, 4, 0, 0)
  | 32 => (8, 33, 1, 0, 0)
  | 33 => (23, 34, 0, 0, 0)
  | 34 => (2, 35, 0, 0, 0)
  | 35 => (20, 38, 6, 8, 0)
  | 38 => (1, 39, 1, 0, 0)
  | 39 => (1, 41, 4, 0, 0)
  | 41 => (8, 42, 1, 0, 0)
  | 42 => (1, 43, 2, 0, 0)
  | 43 => (8, 44, 1, 0, 0)
  | 44 => (23, 45, 0, 0, 0)
  | 45 => (17, 48, 1, 52, 0)
  | 48 => (0, 49, 0, 0, 1)
  | 49 => (19, 52, 0, 53, 0)
  | 52 => (0, 53, 0, 0, 0)
  | 53 => (4, 54, 3, 0, 0)
  | 54 => (7, 57, 4, 0, 1)
  | 57 => (19, 60, 0, 15, 0)
  | 60 => (1, 61, 3, 0, 0)
  | 61 => (35, 62, 0, 0, 0)
  | 62 => (0, 63, 0, 0, 0)
  | 63 => (4, 64, 3, 0, 0)
  | 64 => (1, 65, 3, 0, 0)
  | 65 => (0, 66, 0, 0, 4)
  | 66 => (17, 69, 3, 82, 0)
  | 69 => (2, 70, 0, 0, 0)
  | 70 => (20, 73, 6, 9, 0)
  | 73 => (1, 74, 3, 0, 0)
  | 74 => (0, 75, 0, 0, 0)
  | 75 => (24, 76, 0, 0, 0)
  | 76 => (7, 79, 3, 0, 1)
  | 79 => (19, 82, 0, 64, 0)
  | 82 => (0, 83, 0, 0, 1)
  | 83 => (4, 84, 3, 0, 0)
  | 84 => (1, 85, 3, 0, 0)
  | 85 => (1, 86, 2, 0, 0)
  | 86 => (17, 89, 4, 131, 0)
  | 89 => (2, 90, 0, 0, 0)
  | 90 => (20, 93, 6, 9, 0)
  | 93 => (2, 94, 0, 0, 0)
  | 94 => (20, 97, 6, 8, 0)
  | 97 => (1, 98, 1, 0, 0)
  | 98 => (1, 99, 3, 0, 0)
  | 99 => (8, 100, 1, 0, 0)
  | 100 => (23, 101, 0, 0, 0)
  | 101 => (31, 102, 0, 0, 0)
  | 102 => (23, 103, 0, 0, 0)
  | 103 => (0, 104, 0, 0, 1)
  | 104 => (8, 105, 0, 0, 0)
  | 105 => (24, 106, 0, 0, 0)
  | 106 => (2, 107, 0, 0, 0)
  | 107 => (20, 110, 6, 9, 0)
  | 110 => (2, 111, 0, 0, 0)
  | 111 => (20, 114, 6, 8, 0)
  | 114 => (1, 115, 1, 0, 0)
  | 115 => (1, 116, 3, 0, 0)
  | 116 => (8, 117, 1, 0, 0)
  | 117 => (1, 118, 2, 0, 0)
  | 118 => (8, 119, 1, 0, 0)
  | 119 => (23, 120, 0, 0, 0)
  | 120 => (31, 121, 0, 0, 0)
  | 121 => (23, 122, 0, 0, 0)
  | 122 => (0, 123, 0, 0, 1)
  | 123 => (8, 124, 1, 0, 0)
  | 124 => (24, 125, 0, 0, 0)
  | 125 => (7, 128, 3, 0, 1)
  | 128 => (19, 131, 0, 84, 0)
  | 131 => (2, 132, 0, 0, 0)
  | 132 => (20, 135, 6, 9, 0)
  | 135 => (0, 136, 0, 0, 0)
  | 136 => (23, 137, 0, 0, 0)
  | 137 => (16, 140, 1, 171, 0)
  | 140 => (2, 141, 0, 0, 0)
  | 141 => (20, 144, 6, 9, 0)
  | 144 => (0, 145, 0, 0, 1)
  | 145 => (23, 146, 0, 0, 0)
  | 146 => (16, 149, 1, 171, 0)
  | 149 => (2, 150, 0, 0, 0)
  | 150 => (20, 153, 6, 9, 0)
  | 153 => (0, 154, 0, 0, 2)
  | 154 => (23, 155, 0, 0, 0)
  | 155 => (16, 158, 1, 171, 0)
  | 158 => (2, 159, 0, 0, 0)
  | 159 => (20, 162, 6, 9, 0)
  | 162 => (0, 163, 0, 0, 3)
  | 163 => (23, 164, 0, 0, 0)
  | 164 => (16, 167, 1, 171, 0)
  | 167 => (0, 168, 0, 0, 1)
  | 168 => (19, 171, 0, 172, 0)
  | 171 => (0, 172, 0, 0, 0)
  | 172 => (35, 173, 0, 0, 0)
  | _ => (99, 0, 0, 0, 0)
def zc_X6_ends : Nat → zE := fun pc => match pc with
  | 0 => (2, 1, 0, 0, 0)
  | 1 => (20, 4, 6, 0, 0)
  | 4 => (0, 5, 0, 0, 1)
  | 5 => (23, 6, 0, 0, 0)
  | 6 => (0, 7, 0, 0, 1)
  | 7 => (17, 10, 1, 14, 0)
  | 10 => (0, 11, 0, 0, 3)
  | 11 => (19, 14, 0, 15, 0)
  | 14 => (0, 15, 0, 0, 2)
  | 15 => (4, 16, 2, 0, 0)
  | 16 => (2, 17, 0, 0, 0)
  | 17 => (20, 20, 6, 0, 0)
  | 20 => (0, 21, 0, 0, 1)
  | 21 => (23, 22, 0, 0, 0)
  | 22 => (0, 23, 0, 0, 3)
  | 23 => (17, 26, 1, 35, 0)
  | 26 => (2, 27, 0, 0, 0)
  | 27 => (20, 30, 6, 0, 0)
  | 30 => (0, 31, 0, 0, 2)
  | 31 => (23, 32, 0, 0, 0)
  | 32 => (19, 35, 0, 36, 0)
  | 35 => (0, 36, 0, 0, 1)
  | 36 => (4, 37, 3, 0, 0)
  | 37 => (1, 38, 2, 0, 0)
  | 38 => (1, 39, 3, 0, 0)
  | 39 => (8, 40, 2, 0, 0)
  | 40 => (1, 41, 1, 0, 0)
  | 41 => (17, 44, 4, 77, 0)
  | 44 => (2, 45, 0, 0, 0)
  | 45 => (1, 46, 1, 0, 0)
  | 46 => (1, 47, 3, 0, 0)
  | 47 => (28, 50, 79, 3, 0)
  | 50 => (16, 53, 0, 71, 0)
  | 53 => (1, 54, 2, 0, 0)
  | 54 => (0, 55, 0, 0, 2)
  | 55 => (17, 58, 0, 69, 0)
  | 58 => (2, 59, 0, 0, 0)
  | 59 => (1, 60, 1, 0, 0)
  | 60 => (1, 61, 3, 0, 0)
  | 61 => (8, 62, 1, 0, 0)
  | 62 => (1, 63, 3, 0, 0)
  | 63 => (28, 66, 79, 3, 0)
  | 66 => (16, 69, 0, 71, 0)
  | 69 => (1, 70, 3, 0, 0)
  | 70 => (34, 71, 0, 0, 0)
  | 71 => (7, 74, 3, 0, 1)
  | 74 => (19, 77, 0, 37, 0)
  | 77 => (0, 78, 0, 0, 0)
  | 78 => (34, 79, 0, 0, 0)
  | _ => (99, 0, 0, 0, 0)
def zc_X6_faults : Nat → zE := fun pc => match pc with
  | 0 => (0, 1, 0, 0, 1)
  | 1 => (4, 2, 2, 0, 0)
  | 2 => (1, 3, 2, 0, 0)
  | 3 => (1, 4, 1, 0, 0)
  | 4 => (17, 7, 4, 23, 0)
  | 7 => (2, 8, 0, 0, 0)
  | 8 => (1, 9, 2, 0, 0)
  | 9 => (28, 12, 80, 2, 0)
  | 12 => (16, 15, 5, 17, 0)
  | 15 => (1, 16, 2, 0, 0)
  | 16 => (34, 17, 0, 0, 0)
  | 17 => (7, 20, 2, 0, 1)
  | 20 => (19, 23, 0, 2, 0)
  | 23 => (0, 24, 0, 0, 0)
  | 24 => (34, 25, 0, 0, 0)
  | _ => (99, 0, 0, 0, 0)
def zc_X6_lay : Nat → zE := fun pc => match pc with
  | 0 => (0, 1, 0, 0, 0)
  | 1 => (4, 2, 1, 0, 0)
  | 2 => (1, 3, 1, 0, 0)
  | 3 => (2, 4, 0, 0, 0)
  | 4 => (20, 7, 6, 0, 0)
  | 7 => (0, 8, 0, 0, 4)
  | 8 => (23, 9, 0, 0, 0)
  | 9 => (17, 12, 3, 33, 0)
  | 12 => (2, 13, 0, 0, 0)
  | 13 => (20, 16, 6, 8, 0)
  | 16 => (1, 17, 1, 0, 0)
  | 17 => (2, 18, 0, 0, 0)
  | 18 => (20, 21, 6, 0, 0)
  | 21 => (0, 23, 0, 0, 9)
  | 23 => (1, 24, 1, 0, 0)
  | 24 => (8, 25, 0, 0, 0)
  | 25 => (23, 26, 0, 0, 0)
  | 26 => (24, 27, 0, 0, 0)
  | 27 => (7, 30, 1, 0, 1)
  | 30 => (19, 33, 0, 2, 0)
  | 33 => (2, 34, 0, 0, 0)
  | 34 => (20, 37, 6, 0, 0)
  | 37 => (0, 38, 0, 0, 4)
  | 38 => (23, 39, 0, 0, 0)
  | 39 => (34, 40, 0, 0, 0)
  | _ => (99, 0, 0, 0, 0)
def zc_X6_mayCome : Nat → zE := fun pc => match pc with
  | 0 => (0, 1, 0, 0, 0)
  | 1 => (4, 2, 2, 0, 0)
  | 2 => (0, 3, 0, 0, 0)
  | 3 => (4, 4, 3, 0, 0)
  | 4 => (1, 5, 3, 0, 0)
  | 5 => (2, 6, 0, 0, 0)
  | 6 => (20, 9, 6, 0, 0)
  | 9 => (0, 10, 0, 0, 0)
  | 10 => (23, 11, 0, 0, 0)
  | 11 => (17, 14, 3, 47, 0)
  | 14 => (2, 15, 0, 0, 0)
  | 15 => (20, 18, 6, 8, 0)
  | 18 => (1, 19, 1, 0, 0)
  | 19 => (1, 20, 3, 0, 0)
  | 20 => (24, 21, 0, 0, 0)
  | 21 => (1, 22, 2, 0, 0)
  | 22 => (2, 23, 0, 0, 0)
  | 23 => (1, 24, 1, 0, 0)
  | 24 => (0, 25, 0, 0, 1)
  | 25 => (8, 26, 0, 0, 0)
  | 26 => (28, 29, 80, 2, 0)
  | 29 => (16, 32, 1, 38, 0)
  | 32 => (0, 33, 0, 0, 1)
  | 33 => (1, 34, 3, 0, 0)
  | 34 => (8, 35, 5, 0, 0)
  | 35 => (19, 38, 0, 39, 0)
  | 38 => (0, 39, 0, 0, 0)
  | 39 => (8, 40, 4, 0, 0)
  | 40 => (4, 41, 2, 0, 0)
  | 41 => (7, 44, 3, 0, 1)
  | 44 => (19, 47, 0, 4, 0)
  | 47 => (1, 48, 2, 0, 0)
  | 48 => (34, 49, 0, 0, 0)
  | _ => (99, 0, 0, 0, 0)
def zc_X6_bits : Nat → zE := fun pc => match pc with
  | 0 => (0, 1, 0, 0, 0)
  | 1 => (4, 2, 1, 0, 0)
  | 2 => (1, 3, 0, 0, 0)
  | 3 => (4, 4, 2, 0, 0)
  | 4 => (1, 5, 2, 0, 0)
  | 5 => (16, 8, 0, 20, 0)
  | 8 => (7, 11, 1, 0, 1)
  | 11 => (1, 12, 2, 0, 0)
  | 12 => (1, 13, 2, 0, 0)
  | 13 => (0, 14, 0, 0, 1)
  | 14 => (8, 15, 1, 0, 0)
  | 15 => (8, 16, 3, 0, 0)
  | 16 => (4, 17, 2, 0, 0)
  | 17 => (19, 20, 0, 4, 0)
  | 20 => (1, 21, 1, 0, 0)
  | 21 => (34, 22, 0, 0, 0)
  | _ => (99, 0, 0, 0, 0)
def zc_X6_isPale : Nat → zE := fun pc => match pc with
  | 0 => (1, 1, 1, 0, 0)
  | 1 => (13, 2, 0, 0, 0)
  | 2 => (15, 3, 0, 0, 0)
  | 3 => (2, 4, 0, 0, 0)
  | 4 => (20, 7, 6, 0, 0)
  | 7 => (0, 8, 0, 0, 4)
  | 8 => (23, 9, 0, 0, 0)
  | 9 => (0, 10, 0, 0, 1)
  | 10 => (8, 11, 1, 0, 0)
  | 11 => (13, 12, 0, 0, 0)
  | 12 => (28, 15, 77, 3, 0)
  | 15 => (35, 16, 0, 0, 0)
  | _ => (99, 0, 0, 0, 0)
def zc_X6_isColour : Nat → zE := fun pc => match pc with
  | 0 => (1, 1, 1, 0, 0)
  | 1 => (13, 2, 0, 0, 0)
  | 2 => (15, 3, 0, 0, 0)
  | 3 => (2, 4, 0, 0, 0)
  | 4 => (20, 7, 6, 0, 0)
  | 7 => (0, 8, 0, 0, 0)
  | 8 => (23, 9, 0, 0, 0)
  | 9 => (0, 10, 0, 0, 1)
  | 10 => (8, 11, 1, 0, 0)
  | 11 => (13, 12, 0, 0, 0)
  | 12 => (28, 15, 77, 3, 0)
  | 15 => (35, 16, 0, 0, 0)
  | _ => (99, 0, 0, 0, 0)
def zc_X6_colours : Nat → zE := fun pc => match pc with
  | 0 => (1, 1, 1, 0, 0)
  | 1 => (13, 2, 0, 0, 0)
  | 2 => (15, 5, 62, 0, 2)
  | 5 => (15, 8, 64, 0, 4)
  | 8 => (28, 11, 77, 3, 0)
  | 11 => (16, 14, 1, 16, 0)
  | 14 => (0, 15, 0, 0, (-1))
  | 15 => (34, 16, 0, 0, 0)
  | 16 => (0, 17, 0, 0, 0)
  | 17 => (4, 18, 2, 0, 0)
  | 18 => (1, 19, 2, 0, 0)
  | 19 => (2, 20, 0, 0, 0)
  | 20 => (20, 23, 6, 0, 0)
  | 23 => (0, 24, 0, 0, 4)
  | 24 => (23, 25, 0, 0, 0)
  | 25 => (17, 28, 3, 50, 0)
  | 28 => (2, 29, 0, 0, 0)
  | 29 => (20, 32, 6, 0, 0)
  | 32 => (0, 34, 0, 0, 9)
  | 34 => (1, 35, 2, 0, 0)
  | 35 => (8, 36, 0, 0, 0)
  | 36 => (23, 37, 0, 0, 0)
  | 37 => (1, 38, 1, 0, 0)
  | 38 => (17, 41, 2, 44, 0)
  | 41 => (0, 43, 0, 0, (-2))
  | 43 => (34, 44, 0, 0, 0)
  | 44 => (7, 47, 2, 0, 1)
  | 47 => (19, 50, 0, 18, 0)
  | 50 => (2, 51, 0, 0, 0)
  | 51 => (0, 52, 0, 0, 0)
  | 52 => (1, 53, 1, 0, 0)
  | 53 => (28, 56, 78, 3, 0)
  | 56 => (34, 57, 0, 0, 0)
  | _ => (99, 0, 0, 0, 0)
def zc_X6_price : Nat → zE := fun pc => match pc with
  | 0 => (1, 1, 1, 0, 0)
  | 1 => (13, 2, 0, 0, 0)
  | 2 => (15, 3, 0, 0, 0)
  | 3 => (15, 6, 70, 0, 3)
  | 6 => (28, 9, 77, 3, 0)
  | 9 => (16, 12, 0, 35, 0)
  | 12 => (1, 13, 2, 0, 0)
  | 13 => (13, 14, 0, 0, 0)
  | 14 => (15, 15, 0, 0, 0)
  | 15 => (15, 18, 72, 0, 99)
  | 18 => (28, 21, 77, 3, 0)
  | 21 => (16, 24, 0, 35, 0)
  | 24 => (2, 25, 0, 0, 0)
  | 25 => (0, 26, 0, 0, 5)
  | 26 => (1, 27, 1, 0, 0)
  | 27 => (8, 28, 0, 0, 0)
  | 28 => (1, 29, 2, 0, 0)
  | 29 => (28, 32, 78, 3, 0)
  | 32 => (19, 35, 0, 36, 0)
  | 35 => (0, 36, 0, 0, (-1))
  | 36 => (34, 37, 0, 0, 0)
  | _ => (99, 0, 0, 0, 0)
def zc_X6_rule : Nat → zE := fun pc => match pc with
  | 0 => (1, 1, 1, 0, 0)
  | 1 => (16, 4, 1, 16, 0)
  | 4 => (1, 5, 2, 0, 0)
  | 5 => (13, 6, 0, 0, 0)
  | 6 => (15, 7, 0, 0, 0)
  | 7 => (15, 10, 70, 0, 3)
  | 10 => (28, 13, 77, 3, 0)
  | 13 => (16, 16, 1, 33, 0)
  | 16 => (1, 17, 1, 0, 0)
  | 17 => (0, 18, 0, 0, 1)
  | 18 => (17, 21, 1, 42, 0)
  | 21 => (1, 22, 2, 0, 0)
  | 22 => (13, 23, 0, 0, 0)
  | 23 => (15, 24, 0, 0, 1)
  | 24 => (15, 27, 74, 0, 9)
  | 27 => (28, 30, 77, 3, 0)
  | 30 => (16, 33, 0, 42, 0)
  | 33 => (2, 34, 0, 0, 0)
  | 34 => (0, 35, 0, 0, 1)
  | 35 => (1, 36, 1, 0, 0)
  | 36 => (8, 37, 0, 0, 0)
  | 37 => (1, 38, 2, 0, 0)
  | 38 => (28, 41, 78, 3, 0)
  | 41 => (34, 42, 0, 0, 0)
  | 42 => (0, 43, 0, 0, (-1))
  | 43 => (34, 44, 0, 0, 0)
  | _ => (99, 0, 0, 0, 0)
def zc_X6_paint : Nat → zE := fun pc => match pc with
  | 0 => (2, 1, 0, 0, 0)
  | 1 => (1, 2, 1, 0, 0)
  | 2 => (28, 5, 86, 2, 0)
  | 5 => (16, 8, 1, 10, 0)
  | 8 => (0, 9, 0, 0, (-1))
  | 9 => (34, 10, 0, 0, 0)
  | 10 => (2, 11, 0, 0, 0)
  | 11 => (28, 14, 82, 1, 0)
  | 14 => (4, 15, 2, 0, 0)
  | 15 => (2, 16, 0, 0, 0)
  | 16 => (20, 19, 6, 8, 0)
  | 19 => (1, 20, 2, 0, 0)
  | 20 => (1, 21, 1, 0, 0)
  | 21 => (24, 22, 0, 0, 0)
  | 22 => (2, 23, 0, 0, 0)
  | 23 => (1, 24, 2, 0, 0)
  | 24 => (0, 25, 0, 0, 1)
  | 25 => (8, 26, 0, 0, 0)
  | 26 => (28, 29, 81, 2, 0)
  | 29 => (16, 32, 5, 35, 0)
  | 32 => (0, 34, 0, 0, (-2))
  | 34 => (34, 35, 0, 0, 0)
  | 35 => (1, 36, 2, 0, 0)
  | 36 => (0, 38, 0, 0, 48)
  | 38 => (17, 41, 1, 44, 0)
  | 41 => (0, 43, 0, 0, (-3))
  | 43 => (34, 44, 0, 0, 0)
  | 44 => (2, 45, 0, 0, 0)
  | 45 => (20, 48, 6, 0, 0)
  | 48 => (0, 50, 0, 0, 9)
  | 50 => (1, 51, 2, 0, 0)
  | 51 => (8, 52, 0, 0, 0)
  | 52 => (1, 53, 1, 0, 0)
  | 53 => (24, 54, 0, 0, 0)
  | 54 => (2, 55, 0, 0, 0)
  | 55 => (20, 58, 6, 0, 0)
  | 58 => (0, 59, 0, 0, 4)
  | 59 => (1, 60, 2, 0, 0)
  | 60 => (0, 61, 0, 0, 1)
  | 61 => (8, 62, 0, 0, 0)
  | 62 => (24, 63, 0, 0, 0)
  | 63 => (1, 64, 2, 0, 0)
  | 64 => (0, 65, 0, 0, 1)
  | 65 => (8, 66, 0, 0, 0)
  | 66 => (34, 67, 0, 0, 0)
  | _ => (99, 0, 0, 0, 0)
def zc_X6_scrape : Nat → zE := fun pc => match pc with
  | 0 => (1, 1, 1, 0, 0)
  | 1 => (13, 2, 0, 0, 0)
  | 2 => (15, 3, 0, 0, 1)
  | 3 => (15, 6, 87, 0, 48)
  | 6 => (28, 9, 77, 3, 0)
  | 9 => (16, 12, 1, 14, 0)
  | 12 => (0, 13, 0, 0, (-1))
  | 13 => (34, 14, 0, 0, 0)
  | 14 => (1, 15, 1, 0, 0)
  | 15 => (2, 16, 0, 0, 0)
  | 16 => (20, 19, 6, 0, 0)
  | 19 => (0, 20, 0, 0, 4)
  | 20 => (23, 21, 0, 0, 0)
  | 21 => (17, 24, 5, 27, 0)
  | 24 => (0, 26, 0, 0, (-2))
  | 26 => (34, 27, 0, 0, 0)
  | 27 => (2, 28, 0, 0, 0)
  | 28 => (20, 31, 6, 0, 0)
  | 31 => (0, 32, 0, 0, 4)
  | 32 => (31, 33, 0, 0, 0)
  | 33 => (23, 34, 0, 0, 0)
  | 34 => (1, 35, 1, 0, 0)
  | 35 => (8, 36, 1, 0, 0)
  | 36 => (24, 37, 0, 0, 0)
  | 37 => (2, 38, 0, 0, 0)
  | 38 => (20, 41, 6, 0, 0)
  | 41 => (0, 42, 0, 0, 4)
  | 42 => (23, 43, 0, 0, 0)
  | 43 => (34, 44, 0, 0, 0)
  | _ => (99, 0, 0, 0, 0)
def zc_X6_pale : Nat → zE := fun pc => match pc with
  | 0 => (2, 1, 0, 0, 0)
  | 1 => (1, 2, 1, 0, 0)
  | 2 => (28, 5, 85, 2, 0)
  | 5 => (16, 8, 0, 20, 0)
  | 8 => (2, 9, 0, 0, 0)
  | 9 => (20, 12, 6, 0, 0)
  | 12 => (0, 14, 0, 0, 9)
  | 14 => (1, 15, 1, 0, 0)
  | 15 => (8, 16, 0, 0, 0)
  | 16 => (23, 17, 0, 0, 0)
  | 17 => (19, 20, 0, 21, 0)
  | 20 => (0, 21, 0, 0, (-1))
  | 21 => (34, 22, 0, 0, 0)
  | _ => (99, 0, 0, 0, 0)
def zc_X6_type : Nat → zE := fun pc => match pc with
  | 0 => (1, 1, 3, 0, 0)
  | 1 => (13, 2, 0, 0, 0)
  | 2 => (15, 3, 0, 0, 1)
  | 3 => (15, 6, 92, 0, 8)
  | 6 => (28, 9, 77, 3, 0)
  | 9 => (16, 12, 1, 14, 0)
  | 12 => (0, 13, 0, 0, (-1))
  | 13 => (34, 14, 0, 0, 0)
  | 14 => (0, 15, 0, 0, 1)
  | 15 => (4, 17, 4, 0, 0)
  | 17 => (0, 18, 0, 0, 0)
  | 18 => (4, 20, 5, 0, 0)
  | 20 => (1, 22, 5, 0, 0)
  | 22 => (1, 23, 3, 0, 0)
  | 23 => (17, 26, 3, 67, 0)
  | 26 => (1, 28, 4, 0, 0)
  | 28 => (16, 31, 0, 58, 0)
  | 31 => (3, 32, 1, 0, 0)
  | 32 => (0, 34, 0, 0, 8)
  | 34 => (1, 36, 5, 0, 0)
  | 36 => (8, 37, 2, 0, 0)
  | 37 => (12, 38, 1, 0, 0)
  | 38 => (15, 41, 94, 0, 255)
  | 41 => (11, 42, 2, 0, 0)
  | 42 => (15, 45, 96, 0, 32)
  | 45 => (15, 48, 98, 0, 126)
  | 48 => (28, 51, 77, 3, 0)
  | 51 => (16, 54, 0, 58, 0)
  | 54 => (0, 55, 0, 0, 1)
  | 55 => (19, 58, 0, 59, 0)
  | 58 => (0, 59, 0, 0, 0)
  | 59 => (4, 61, 4, 0, 0)
  | 61 => (7, 64, 5, 0, 1)
  | 64 => (19, 67, 0, 20, 0)
  | 67 => (1, 69, 4, 0, 0)
  | 69 => (16, 72, 1, 74, 0)
  | 72 => (0, 73, 0, 0, (-1))
  | 73 => (34, 74, 0, 0, 0)
  | 74 => (2, 75, 0, 0, 0)
  | 75 => (20, 78, 6, 4, 0)
  | 78 => (1, 79, 3, 0, 0)
  | 79 => (8, 80, 0, 0, 0)
  | 80 => (0, 82, 0, 0, 100)
  | 82 => (17, 85, 5, 88, 0)
  | 85 => (0, 87, 0, 0, (-3))
  | 87 => (34, 88, 0, 0, 0)
  | 88 => (1, 89, 3, 0, 0)
  | 89 => (0, 90, 0, 0, 1)
  | 90 => (8, 91, 1, 0, 0)
  | 91 => (4, 93, 5, 0, 0)
  | 93 => (1, 95, 5, 0, 0)
  | 95 => (16, 98, 2, 135, 0)
  | 98 => (2, 99, 0, 0, 0)
  | 99 => (20, 102, 6, 3, 0)
  | 102 => (2, 103, 0, 0, 0)
  | 103 => (20, 106, 6, 4, 0)
  | 106 => (3, 107, 1, 0, 0)
  | 107 => (0, 109, 0, 0, 8)
  | 109 => (1, 111, 5, 0, 0)
  | 111 => (8, 112, 2, 0, 0)
  | 112 => (12, 113, 1, 0, 0)
  | 113 => (15, 116, 94, 0, 255)
  | 116 => (11, 117, 2, 0, 0)
  | 117 => (13, 118, 1, 0, 0)
  | 118 => (24, 119, 0, 0, 0)
  | 119 => (2, 120, 0, 0, 0)
  | 120 => (30, 121, 0, 0, 0)
  | 121 => (20, 124, 6, 4, 0)
  | 124 => (0, 125, 0, 0, 1)
  | 125 => (8, 126, 0, 0, 0)
  | 126 => (21, 129, 6, 4, 0)
  | 129 => (7, 132, 5, 0, (-1))
  | 132 => (19, 135, 0, 93, 0)
  | 135 => (2, 136, 0, 0, 0)
  | 136 => (20, 139, 6, 4, 0)
  | 139 => (34, 140, 0, 0, 0)
  | _ => (99, 0, 0, 0, 0)
def zc_X6_colourOf : Nat → zE := fun pc => match pc with
  | 0 => (1, 1, 0, 0, 0)
  | 1 => (0, 3, 0, 0, 114)
  | 3 => (17, 6, 1, 10, 0)
  | 6 => (0, 7, 0, 0, 0)
  | 7 => (19, 10, 0, 42, 0)
  | 10 => (1, 11, 0, 0, 0)
  | 11 => (0, 13, 0, 0, 119)
  | 13 => (17, 16, 1, 20, 0)
  | 16 => (0, 17, 0, 0, 1)
  | 17 => (19, 20, 0, 42, 0)
  | 20 => (1, 21, 0, 0, 0)
  | 21 => (0, 23, 0, 0, 98)
  | 23 => (17, 26, 1, 30, 0)
  | 26 => (0, 27, 0, 0, 2)
  | 27 => (19, 30, 0, 42, 0)
  | 30 => (1, 31, 0, 0, 0)
  | 31 => (0, 33, 0, 0, 103)
  | 33 => (17, 36, 1, 40, 0)
  | 36 => (0, 37, 0, 0, 3)
  | 37 => (19, 40, 0, 42, 0)
  | 40 => (0, 42, 0, 0, (-4))
  | 42 => (34, 43, 0, 0, 0)
  | _ => (99, 0, 0, 0, 0)
def zc_X6_fence : Nat → zE := fun pc => match pc with
  | 0 => (2, 1, 0, 0, 0)
  | 1 => (20, 4, 6, 4, 0)
  | 4 => (4, 5, 1, 0, 0)
  | 5 => (2, 6, 0, 0, 0)
  | 6 => (0, 7, 0, 0, 0)
  | 7 => (21, 10, 6, 4, 0)
  | 10 => (0, 11, 0, 0, 0)
  | 11 => (4, 12, 2, 0, 0)
  | 12 => (0, 13, 0, 0, 0)
  | 13 => (4, 14, 3, 0, 0)
  | 14 => (1, 15, 3, 0, 0)
  | 15 => (1, 16, 1, 0, 0)
  | 16 => (17, 19, 3, 84, 0)
  | 19 => (2, 20, 0, 0, 0)
  | 20 => (20, 23, 6, 3, 0)
  | 23 => (1, 24, 3, 0, 0)
  | 24 => (23, 25, 0, 0, 0)
  | 25 => (0, 27, 0, 0, 32)
  | 27 => (17, 30, 1, 33, 0)
  | 30 => (19, 33, 0, 78, 0)
  | 33 => (1, 34, 2, 0, 0)
  | 34 => (0, 36, 0, 0, 48)
  | 36 => (17, 39, 0, 55, 0)
  | 39 => (2, 40, 0, 0, 0)
  | 40 => (2, 41, 0, 0, 0)
  | 41 => (20, 44, 6, 3, 0)
  | 44 => (1, 45, 3, 0, 0)
  | 45 => (23, 46, 0, 0, 0)
  | 46 => (28, 49, 94, 1, 0)
  | 49 => (28, 52, 86, 2, 0)
  | 52 => (16, 55, 1, 60, 0)
  | 55 => (0, 57, 0, 0, (-20))
  | 57 => (1, 58, 3, 0, 0)
  | 58 => (8, 59, 1, 0, 0)
  | 59 => (34, 60, 0, 0, 0)
  | 60 => (2, 61, 0, 0, 0)
  | 61 => (20, 64, 6, 8, 0)
  | 64 => (1, 65, 2, 0, 0)
  | 65 => (2, 66, 0, 0, 0)
  | 66 => (20, 69, 6, 3, 0)
  | 69 => (1, 70, 3, 0, 0)
  | 70 => (23, 71, 0, 0, 0)
  | 71 => (28, 74, 94, 1, 0)
  | 74 => (24, 75, 0, 0, 0)
  | 75 => (7, 78, 2, 0, 1)
  | 78 => (7, 81, 3, 0, 1)
  | 81 => (19, 84, 0, 14, 0)
  | 84 => (0, 85, 0, 0, 0)
  | 85 => (4, 86, 3, 0, 0)
  | 86 => (1, 87, 3, 0, 0)
  | 87 => (1, 88, 2, 0, 0)
  | 88 => (17, 91, 3, 112, 0)
  | 91 => (2, 92, 0, 0, 0)
  | 92 => (20, 95, 6, 0, 0)
  | 95 => (0, 97, 0, 0, 9)
  | 97 => (1, 98, 3, 0, 0)
  | 98 => (8, 99, 0, 0, 0)
  | 99 => (2, 100, 0, 0, 0)
  | 100 => (20, 103, 6, 8, 0)
  | 103 => (1, 104, 3, 0, 0)
  | 104 => (23, 105, 0, 0, 0)
  | 105 => (24, 106, 0, 0, 0)
  | 106 => (7, 109, 3, 0, 1)
  | 109 => (19, 112, 0, 86, 0)
  | 112 => (2, 113, 0, 0, 0)
  | 113 => (20, 116, 6, 0, 0)
  | 116 => (0, 117, 0, 0, 4)
  | 117 => (1, 118, 2, 0, 0)
  | 118 => (24, 119, 0, 0, 0)
  | 119 => (1, 120, 2, 0, 0)
  | 120 => (34, 121, 0, 0, 0)
  | _ => (99, 0, 0, 0, 0)
def zc_X6_count : Nat → zE := fun pc => match pc with
  | 0 => (1, 1, 1, 0, 0)
  | 1 => (13, 2, 0, 0, 0)
  | 2 => (15, 3, 0, 0, 0)
  | 3 => (15, 6, 107, 0, 5)
  | 6 => (28, 9, 77, 3, 0)
  | 9 => (16, 12, 1, 14, 0)
  | 12 => (0, 13, 0, 0, (-1))
  | 13 => (34, 14, 0, 0, 0)
  | 14 => (0, 15, 0, 0, 0)
  | 15 => (4, 16, 2, 0, 0)
  | 16 => (0, 17, 0, 0, 0)
  | 17 => (4, 18, 3, 0, 0)
  | 18 => (0, 19, 0, 0, 0)
  | 19 => (4, 21, 4, 0, 0)
  | 21 => (1, 23, 4, 0, 0)
  | 23 => (2, 24, 0, 0, 0)
  | 24 => (20, 27, 6, 0, 0)
  | 27 => (0, 28, 0, 0, 4)
  | 28 => (23, 29, 0, 0, 0)
  | 29 => (17, 32, 3, 82, 0)
  | 32 => (1, 33, 2, 0, 0)
  | 33 => (2, 34, 0, 0, 0)
  | 34 => (20, 37, 6, 0, 0)
  | 37 => (0, 38, 0, 0, 5)
  | 38 => (2, 39, 0, 0, 0)
  | 39 => (20, 42, 6, 0, 0)
  | 42 => (0, 44, 0, 0, 9)
  | 44 => (1, 46, 4, 0, 0)
  | 46 => (8, 47, 0, 0, 0)
  | 47 => (23, 48, 0, 0, 0)
  | 48 => (8, 49, 0, 0, 0)
  | 49 => (23, 50, 0, 0, 0)
  | 50 => (8, 51, 0, 0, 0)
  | 51 => (4, 52, 2, 0, 0)
  | 52 => (1, 53, 3, 0, 0)
  | 53 => (2, 54, 0, 0, 0)
  | 54 => (20, 57, 6, 0, 0)
  | 57 => (0, 59, 0, 0, 9)
  | 59 => (1, 61, 4, 0, 0)
  | 61 => (8, 62, 0, 0, 0)
  | 62 => (23, 63, 0, 0, 0)
  | 63 => (1, 64, 1, 0, 0)
  | 64 => (0, 65, 0, 0, 2)
  | 65 => (8, 66, 1, 0, 0)
  | 66 => (17, 69, 1, 73, 0)
  | 69 => (0, 70, 0, 0, 1)
  | 70 => (19, 73, 0, 74, 0)
  | 73 => (0, 74, 0, 0, 0)
  | 74 => (8, 75, 0, 0, 0)
  | 75 => (4, 76, 3, 0, 0)
  | 76 => (7, 79, 4, 0, 1)
  | 79 => (19, 82, 0, 21, 0)
  | 82 => (1, 83, 1, 0, 0)
  | 83 => (16, 86, 1, 95, 0)
  | 86 => (2, 87, 0, 0, 0)
  | 87 => (20, 90, 6, 0, 0)
  | 90 => (0, 91, 0, 0, 4)
  | 91 => (23, 92, 0, 0, 0)
  | 92 => (19, 95, 0, 105, 0)
  | 95 => (1, 96, 1, 0, 0)
  | 96 => (0, 97, 0, 0, 1)
  | 97 => (17, 100, 1, 104, 0)
  | 100 => (1, 101, 2, 0, 0)
  | 101 => (19, 104, 0, 105, 0)
  | 104 => (1, 105, 3, 0, 0)
  | 105 => (34, 106, 0, 0, 0)
  | _ => (99, 0, 0, 0, 0)
def zc_X6_fault : Nat → zE := fun pc => match pc with
  | 0 => (1, 1, 1, 0, 0)
  | 1 => (13, 2, 0, 0, 0)
  | 2 => (15, 3, 0, 0, 0)
  | 3 => (15, 4, 0, 0, 1)
  | 4 => (28, 7, 77, 3, 0)
  | 7 => (16, 10, 1, 12, 0)
  | 10 => (0, 11, 0, 0, (-1))
  | 11 => (34, 12, 0, 0, 0)
  | 12 => (2, 13, 0, 0, 0)
  | 13 => (2, 14, 0, 0, 0)
  | 14 => (28, 17, 82, 1, 0)
  | 17 => (28, 20, 81, 2, 0)
  | 20 => (4, 21, 2, 0, 0)
  | 21 => (1, 22, 2, 0, 0)
  | 22 => (16, 25, 1, 30, 0)
  | 25 => (0, 27, 0, 0, (-4))
  | 27 => (19, 30, 0, 43, 0)
  | 30 => (1, 31, 1, 0, 0)
  | 31 => (16, 34, 1, 38, 0)
  | 34 => (1, 35, 2, 0, 0)
  | 35 => (19, 38, 0, 43, 0)
  | 38 => (2, 39, 0, 0, 0)
  | 39 => (1, 40, 2, 0, 0)
  | 40 => (28, 43, 80, 2, 0)
  | 43 => (34, 44, 0, 0, 0)
  | _ => (99, 0, 0, 0, 0)
def zc_X6_may : Nat → zE := fun pc => match pc with
  | 0 => (2, 1, 0, 0, 0)
  | 1 => (28, 4, 82, 1, 0)
  | 4 => (4, 5, 1, 0, 0)
  | 5 => (2, 6, 0, 0, 0)
  | 6 => (1, 7, 1, 0, 0)
  | 7 => (28, 10, 81, 2, 0)
  | 10 => (16, 13, 5, 17, 0)
  | 13 => (0, 14, 0, 0, 0)
  | 14 => (19, 17, 0, 22, 0)
  | 17 => (2, 18, 0, 0, 0)
  | 18 => (1, 19, 1, 0, 0)
  | 19 => (28, 22, 83, 2, 0)
  | 22 => (34, 23, 0, 0, 0)
  | _ => (99, 0, 0, 0, 0)
def zc_X6_kind : Nat → zE := fun pc => match pc with
  | 0 => (2, 1, 0, 0, 0)
  | 1 => (1, 2, 1, 0, 0)
  | 2 => (28, 5, 85, 2, 0)
  | 5 => (16, 8, 1, 10, 0)
  | 8 => (0, 9, 0, 0, (-1))
  | 9 => (34, 10, 0, 0, 0)
  | 10 => (2, 11, 0, 0, 0)
  | 11 => (28, 14, 82, 1, 0)
  | 14 => (4, 15, 2, 0, 0)
  | 15 => (2, 16, 0, 0, 0)
  | 16 => (1, 17, 1, 0, 0)
  | 17 => (0, 18, 0, 0, 1)
  | 18 => (8, 19, 0, 0, 0)
  | 19 => (28, 22, 81, 2, 0)
  | 22 => (16, 25, 5, 27, 0)
  | 25 => (0, 26, 0, 0, 2)
  | 26 => (34, 27, 0, 0, 0)
  | 27 => (2, 28, 0, 0, 0)
  | 28 => (1, 29, 1, 0, 0)
  | 29 => (0, 30, 0, 0, 1)
  | 30 => (8, 31, 0, 0, 0)
  | 31 => (28, 34, 83, 2, 0)
  | 34 => (4, 35, 3, 0, 0)
  | 35 => (2, 36, 0, 0, 0)
  | 36 => (28, 39, 82, 1, 0)
  | 39 => (32, 40, 0, 0, 0)
  | 40 => (2, 41, 0, 0, 0)
  | 41 => (1, 42, 1, 0, 0)
  | 42 => (28, 45, 83, 2, 0)
  | 45 => (4, 47, 4, 0, 0)
  | 47 => (1, 48, 3, 0, 0)
  | 48 => (16, 51, 1, 55, 0)
  | 51 => (0, 52, 0, 0, 3)
  | 52 => (19, 55, 0, 69, 0)
  | 55 => (1, 57, 4, 0, 0)
  | 57 => (28, 60, 84, 1, 0)
  | 60 => (0, 61, 0, 0, 1)
  | 61 => (17, 64, 5, 68, 0)
  | 64 => (0, 65, 0, 0, 0)
  | 65 => (19, 68, 0, 69, 0)
  | 68 => (0, 69, 0, 0, 1)
  | 69 => (34, 70, 0, 0, 0)
  | _ => (99, 0, 0, 0, 0)
def zc_X6_reaches : Nat → zE := fun pc => match pc with
  | 0 => (2, 1, 0, 0, 0)
  | 1 => (1, 2, 1, 0, 0)
  | 2 => (28, 5, 81, 2, 0)
  | 5 => (16, 8, 4, 12, 0)
  | 8 => (1, 9, 2, 0, 0)
  | 9 => (16, 12, 1, 14, 0)
  | 12 => (0, 13, 0, 0, 0)
  | 13 => (34, 14, 0, 0, 0)
  | 14 => (0, 15, 0, 0, 0)
  | 15 => (4, 16, 3, 0, 0)
  | 16 => (0, 17, 0, 0, 0)
  | 17 => (4, 19, 4, 0, 0)
  | 19 => (2, 20, 0, 0, 0)
  | 20 => (20, 23, 6, 8, 0)
  | 23 => (1, 24, 1, 0, 0)
  | 24 => (0, 25, 0, 0, (-1))
  | 25 => (24, 26, 0, 0, 0)
  | 26 => (1, 28, 4, 0, 0)
  | 28 => (16, 31, 2, 153, 0)
  | 31 => (1, 32, 3, 0, 0)
  | 32 => (1, 33, 2, 0, 0)
  | 33 => (17, 36, 3, 153, 0)
  | 36 => (2, 37, 0, 0, 0)
  | 37 => (20, 40, 6, 8, 0)
  | 40 => (1, 41, 1, 0, 0)
  | 41 => (1, 43, 4, 0, 0)
  | 43 => (8, 44, 0, 0, 0)
  | 44 => (31, 45, 0, 0, 0)
  | 45 => (23, 46, 0, 0, 0)
  | 46 => (0, 47, 0, 0, 1)
  | 47 => (8, 48, 0, 0, 0)
  | 48 => (24, 49, 0, 0, 0)
  | 49 => (2, 50, 0, 0, 0)
  | 50 => (20, 53, 6, 8, 0)
  | 53 => (1, 54, 1, 0, 0)
  | 54 => (1, 56, 4, 0, 0)
  | 56 => (8, 57, 0, 0, 0)
  | 57 => (23, 58, 0, 0, 0)
  | 58 => (2, 59, 0, 0, 0)
  | 59 => (20, 62, 6, 0, 0)
  | 62 => (0, 63, 0, 0, 0)
  | 63 => (23, 64, 0, 0, 0)
  | 64 => (17, 67, 2, 73, 0)
  | 67 => (7, 70, 4, 0, (-1))
  | 70 => (19, 73, 0, 26, 0)
  | 73 => (2, 74, 0, 0, 0)
  | 74 => (1, 75, 1, 0, 0)
  | 75 => (1, 77, 4, 0, 0)
  | 77 => (8, 78, 0, 0, 0)
  | 78 => (0, 79, 0, 0, 1)
  | 79 => (8, 80, 0, 0, 0)
  | 80 => (28, 83, 80, 2, 0)
  | 83 => (16, 86, 1, 26, 0)
  | 86 => (7, 89, 4, 0, 1)
  | 89 => (2, 90, 0, 0, 0)
  | 90 => (20, 93, 6, 8, 0)
  | 93 => (1, 94, 1, 0, 0)
  | 94 => (1, 96, 4, 0, 0)
  | 96 => (8, 97, 0, 0, 0)
  | 97 => (0, 98, 0, 0, (-1))
  | 98 => (24, 99, 0, 0, 0)
  | 99 => (0, 100, 0, 0, 0)
  | 100 => (4, 102, 5, 0, 0)
  | 102 => (1, 104, 5, 0, 0)
  | 104 => (1, 106, 4, 0, 0)
  | 106 => (17, 109, 3, 137, 0)
  | 109 => (1, 111, 4, 0, 0)
  | 111 => (1, 112, 3, 0, 0)
  | 112 => (17, 115, 5, 137, 0)
  | 115 => (2, 116, 0, 0, 0)
  | 116 => (20, 119, 6, 10, 0)
  | 119 => (1, 121, 5, 0, 0)
  | 121 => (2, 122, 0, 0, 0)
  | 122 => (20, 125, 6, 8, 0)
  | 125 => (1, 126, 1, 0, 0)
  | 126 => (1, 128, 5, 0, 0)
  | 128 => (8, 129, 0, 0, 0)
  | 129 => (23, 130, 0, 0, 0)
  | 130 => (24, 131, 0, 0, 0)
  | 131 => (7, 134, 5, 0, 1)
  | 134 => (19, 137, 0, 102, 0)
  | 137 => (1, 139, 4, 0, 0)
  | 139 => (1, 140, 3, 0, 0)
  | 140 => (17, 143, 5, 148, 0)
  | 143 => (1, 145, 4, 0, 0)
  | 145 => (19, 148, 0, 149, 0)
  | 148 => (1, 149, 3, 0, 0)
  | 149 => (4, 150, 3, 0, 0)
  | 150 => (19, 153, 0, 26, 0)
  | 153 => (1, 154, 3, 0, 0)
  | 154 => (34, 155, 0, 0, 0)
  | _ => (99, 0, 0, 0, 0)
def zc_X6_far : Nat → zE := fun pc => match pc with
  | 0 => (1, 1, 1, 0, 0)
  | 1 => (13, 2, 0, 0, 0)
  | 2 => (15, 3, 0, 0, 0)
  | 3 => (15, 6, 115, 0, 16)
  | 6 => (28, 9, 77, 3, 0)
  | 9 => (16, 12, 0, 24, 0)
  | 12 => (2, 13, 0, 0, 0)
  | 13 => (2, 14, 0, 0, 0)
  | 14 => (28, 17, 82, 1, 0)
  | 17 => (1, 18, 1, 0, 0)
  | 18 => (28, 21, 100, 3, 0)
  | 21 => (19, 24, 0, 25, 0)
  | 24 => (0, 25, 0, 0, (-1))
  | 25 => (34, 26, 0, 0, 0)
  | _ => (99, 0, 0, 0, 0)
def zc_X6_go : Nat → zE := fun pc => match pc with
  | 0 => (1, 1, 1, 0, 0)
  | 1 => (13, 2, 0, 0, 0)
  | 2 => (15, 3, 0, 0, 1)
  | 3 => (15, 6, 115, 0, 16)
  | 6 => (28, 9, 77, 3, 0)
  | 9 => (16, 12, 0, 16, 0)
  | 12 => (1, 13, 2, 0, 0)
  | 13 => (16, 16, 3, 18, 0)
  | 16 => (0, 17, 0, 0, (-1))
  | 17 => (34, 18, 0, 0, 0)
  | 18 => (1, 19, 2, 0, 0)
  | 19 => (2, 20, 0, 0, 0)
  | 20 => (2, 21, 0, 0, 0)
  | 21 => (28, 24, 82, 1, 0)
  | 24 => (1, 25, 1, 0, 0)
  | 25 => (28, 28, 100, 3, 0)
  | 28 => (17, 31, 3, 40, 0)
  | 31 => (2, 32, 0, 0, 0)
  | 32 => (20, 35, 6, 10, 0)
  | 35 => (1, 36, 2, 0, 0)
  | 36 => (23, 37, 0, 0, 0)
  | 37 => (19, 40, 0, 42, 0)
  | 40 => (0, 42, 0, 0, (-4))
  | 42 => (34, 43, 0, 0, 0)
  | _ => (99, 0, 0, 0, 0)
def zc_X6_less : Nat → zE := fun pc => match pc with
  | 0 => (1, 1, 1, 0, 0)
  | 1 => (13, 2, 0, 0, 0)
  | 2 => (15, 3, 0, 0, 1)
  | 3 => (15, 6, 120, 0, 12)
  | 6 => (28, 9, 77, 3, 0)
  | 9 => (16, 12, 1, 14, 0)
  | 12 => (0, 13, 0, 0, (-1))
  | 13 => (34, 14, 0, 0, 0)
  | 14 => (0, 15, 0, 0, 0)
  | 15 => (4, 16, 2, 0, 0)
  | 16 => (1, 17, 2, 0, 0)
  | 17 => (0, 19, 0, 0, 12)
  | 19 => (17, 22, 4, 66, 0)
  | 22 => (1, 23, 2, 0, 0)
  | 23 => (2, 24, 0, 0, 0)
  | 24 => (20, 27, 6, 0, 0)
  | 27 => (0, 28, 0, 0, 4)
  | 28 => (23, 29, 0, 0, 0)
  | 29 => (17, 32, 4, 66, 0)
  | 32 => (2, 33, 0, 0, 0)
  | 33 => (28, 36, 82, 1, 0)
  | 36 => (32, 37, 0, 0, 0)
  | 37 => (2, 38, 0, 0, 0)
  | 38 => (2, 39, 0, 0, 0)
  | 39 => (20, 42, 6, 0, 0)
  | 42 => (0, 43, 0, 0, 4)
  | 43 => (23, 44, 0, 0, 0)
  | 44 => (1, 45, 2, 0, 0)
  | 45 => (8, 46, 1, 0, 0)
  | 46 => (1, 47, 2, 0, 0)
  | 47 => (1, 48, 1, 0, 0)
  | 48 => (8, 49, 0, 0, 0)
  | 49 => (28, 52, 100, 3, 0)
  | 52 => (1, 53, 2, 0, 0)
  | 53 => (1, 54, 1, 0, 0)
  | 54 => (8, 55, 0, 0, 0)
  | 55 => (17, 58, 1, 60, 0)
  | 58 => (1, 59, 2, 0, 0)
  | 59 => (34, 60, 0, 0, 0)
  | 60 => (7, 63, 2, 0, 1)
  | 63 => (19, 66, 0, 16, 0)
  | 66 => (0, 68, 0, 0, (-4))
  | 68 => (34, 69, 0, 0, 0)
  | _ => (99, 0, 0, 0, 0)
def zc_X6_goesOn : Nat → zE := fun pc => match pc with
  | 0 => (1, 1, 2, 0, 0)
  | 1 => (16, 4, 0, 8, 0)
  | 4 => (0, 5, 0, 0, 0)
  | 5 => (19, 8, 0, 11, 0)
  | 8 => (1, 9, 1, 0, 0)
  | 9 => (0, 10, 0, 0, 1)
  | 10 => (8, 11, 1, 0, 0)
  | 11 => (4, 12, 3, 0, 0)
  | 12 => (1, 13, 2, 0, 0)
  | 13 => (16, 16, 0, 23, 0)
  | 16 => (2, 17, 0, 0, 0)
  | 17 => (20, 20, 6, 8, 0)
  | 20 => (0, 21, 0, 0, 0)
  | 21 => (0, 22, 0, 0, (-1))
  | 22 => (24, 23, 0, 0, 0)
  | 23 => (1, 24, 3, 0, 0)
  | 24 => (16, 27, 2, 90, 0)
  | 27 => (2, 28, 0, 0, 0)
  | 28 => (20, 31, 6, 8, 0)
  | 31 => (1, 32, 3, 0, 0)
  | 32 => (31, 33, 0, 0, 0)
  | 33 => (23, 34, 0, 0, 0)
  | 34 => (0, 35, 0, 0, 1)
  | 35 => (8, 36, 0, 0, 0)
  | 36 => (24, 37, 0, 0, 0)
  | 37 => (2, 38, 0, 0, 0)
  | 38 => (20, 41, 6, 8, 0)
  | 41 => (1, 42, 3, 0, 0)
  | 42 => (23, 43, 0, 0, 0)
  | 43 => (2, 44, 0, 0, 0)
  | 44 => (20, 47, 6, 0, 0)
  | 47 => (0, 48, 0, 0, 0)
  | 48 => (23, 49, 0, 0, 0)
  | 49 => (17, 52, 2, 58, 0)
  | 52 => (7, 55, 3, 0, (-1))
  | 55 => (19, 58, 0, 23, 0)
  | 58 => (2, 59, 0, 0, 0)
  | 59 => (1, 60, 3, 0, 0)
  | 60 => (0, 61, 0, 0, 1)
  | 61 => (8, 62, 0, 0, 0)
  | 62 => (28, 65, 80, 2, 0)
  | 65 => (16, 68, 1, 23, 0)
  | 68 => (1, 69, 3, 0, 0)
  | 69 => (1, 70, 1, 0, 0)
  | 70 => (0, 71, 0, 0, 1)
  | 71 => (8, 72, 1, 0, 0)
  | 72 => (17, 75, 1, 77, 0)
  | 75 => (0, 76, 0, 0, 1)
  | 76 => (35, 77, 0, 0, 0)
  | 77 => (7, 80, 3, 0, 1)
  | 80 => (2, 81, 0, 0, 0)
  | 81 => (20, 84, 6, 8, 0)
  | 84 => (1, 85, 3, 0, 0)
  | 85 => (0, 86, 0, 0, (-1))
  | 86 => (24, 87, 0, 0, 0)
  | 87 => (19, 90, 0, 23, 0)
  | 90 => (0, 91, 0, 0, 0)
  | 91 => (35, 92, 0, 0, 0)
  | _ => (99, 0, 0, 0, 0)
def zc_X6_many : Nat → zE := fun pc => match pc with
  | 0 => (1, 1, 1, 0, 0)
  | 1 => (13, 2, 0, 0, 0)
  | 2 => (15, 3, 0, 0, 0)
  | 3 => (15, 6, 74, 0, 9)
  | 6 => (28, 9, 77, 3, 0)
  | 9 => (16, 12, 1, 14, 0)
  | 12 => (0, 13, 0, 0, (-1))
  | 13 => (34, 14, 0, 0, 0)
  | 14 => (1, 15, 1, 0, 0)
  | 15 => (16, 18, 1, 22, 0)
  | 18 => (0, 19, 0, 0, 1)
  | 19 => (19, 22, 0, 23, 0)
  | 22 => (0, 23, 0, 0, 0)
  | 23 => (4, 24, 2, 0, 0)
  | 24 => (1, 25, 1, 0, 0)
  | 25 => (16, 28, 5, 41, 0)
  | 28 => (2, 29, 0, 0, 0)
  | 29 => (1, 30, 1, 0, 0)
  | 30 => (0, 31, 0, 0, 1)
  | 31 => (28, 34, 104, 3, 0)
  | 34 => (16, 37, 0, 41, 0)
  | 37 => (0, 38, 0, 0, 1)
  | 38 => (19, 41, 0, 42, 0)
  | 41 => (0, 42, 0, 0, 0)
  | 42 => (4, 43, 3, 0, 0)
  | 43 => (1, 44, 3, 0, 0)
  | 44 => (16, 47, 0, 60, 0)
  | 47 => (7, 50, 2, 0, 1)
  | 50 => (2, 51, 0, 0, 0)
  | 51 => (1, 52, 1, 0, 0)
  | 52 => (0, 53, 0, 0, 0)
  | 53 => (28, 56, 104, 3, 0)
  | 56 => (4, 57, 3, 0, 0)
  | 57 => (19, 60, 0, 43, 0)
  | 60 => (1, 61, 2, 0, 0)
  | 61 => (34, 62, 0, 0, 0)
  | _ => (99, 0, 0, 0, 0)
def zc_X6_isRing : Nat → zE := fun pc => match pc with
  | 0 => (0, 1, 0, 0, 0)
  | 1 => (4, 2, 2, 0, 0)
  | 2 => (1, 3, 2, 0, 0)
  | 3 => (1, 4, 1, 0, 0)
  | 4 => (17, 7, 3, 25, 0)
  | 7 => (2, 8, 0, 0, 0)
  | 8 => (20, 11, 6, 11, 0)
  | 11 => (1, 12, 2, 0, 0)
  | 12 => (2, 13, 0, 0, 0)
  | 13 => (20, 16, 6, 8, 0)
  | 16 => (1, 17, 2, 0, 0)
  | 17 => (23, 18, 0, 0, 0)
  | 18 => (24, 19, 0, 0, 0)
  | 19 => (7, 22, 2, 0, 1)
  | 22 => (19, 25, 0, 2, 0)
  | 25 => (0, 26, 0, 0, 1)
  | 26 => (4, 27, 2, 0, 0)
  | 27 => (0, 28, 0, 0, 1)
  | 28 => (4, 29, 3, 0, 0)
  | 29 => (1, 30, 3, 0, 0)
  | 30 => (1, 31, 1, 0, 0)
  | 31 => (17, 34, 3, 91, 0)
  | 34 => (1, 35, 2, 0, 0)
  | 35 => (16, 38, 0, 91, 0)
  | 38 => (0, 39, 0, 0, 0)
  | 39 => (4, 41, 4, 0, 0)
  | 41 => (1, 43, 4, 0, 0)
  | 43 => (1, 44, 1, 0, 0)
  | 44 => (17, 47, 3, 71, 0)
  | 47 => (2, 48, 0, 0, 0)
  | 48 => (20, 51, 6, 8, 0)
  | 51 => (1, 53, 4, 0, 0)
  | 53 => (2, 54, 0, 0, 0)
  | 54 => (20, 57, 6, 11, 0)
  | 57 => (1, 58, 3, 0, 0)
  | 58 => (1, 60, 4, 0, 0)
  | 60 => (8, 61, 0, 0, 0)
  | 61 => (1, 62, 1, 0, 0)
  | 62 => (10, 63, 0, 0, 0)
  | 63 => (23, 64, 0, 0, 0)
  | 64 => (24, 65, 0, 0, 0)
  | 65 => (7, 68, 4, 0, 1)
  | 68 => (19, 71, 0, 41, 0)
  | 71 => (2, 72, 0, 0, 0)
  | 72 => (1, 73, 1, 0, 0)
  | 73 => (28, 76, 81, 2, 0)
  | 76 => (16, 79, 1, 83, 0)
  | 79 => (0, 80, 0, 0, 1)
  | 80 => (19, 83, 0, 84, 0)
  | 83 => (0, 84, 0, 0, 0)
  | 84 => (4, 85, 2, 0, 0)
  | 85 => (7, 88, 3, 0, 1)
  | 88 => (19, 91, 0, 29, 0)
  | 91 => (0, 92, 0, 0, 0)
  | 92 => (4, 93, 3, 0, 0)
  | 93 => (1, 94, 3, 0, 0)
  | 94 => (1, 95, 1, 0, 0)
  | 95 => (17, 98, 3, 116, 0)
  | 98 => (2, 99, 0, 0, 0)
  | 99 => (20, 102, 6, 8, 0)
  | 102 => (1, 103, 3, 0, 0)
  | 103 => (2, 104, 0, 0, 0)
  | 104 => (20, 107, 6, 11, 0)
  | 107 => (1, 108, 3, 0, 0)
  | 108 => (23, 109, 0, 0, 0)
  | 109 => (24, 110, 0, 0, 0)
  | 110 => (7, 113, 3, 0, 1)
  | 113 => (19, 116, 0, 93, 0)
  | 116 => (1, 117, 2, 0, 0)
  | 117 => (35, 118, 0, 0, 0)
  | _ => (99, 0, 0, 0, 0)
def zc_X6_rings : Nat → zE := fun pc => match pc with
  | 0 => (1, 1, 1, 0, 0)
  | 1 => (13, 2, 0, 0, 0)
  | 2 => (15, 3, 0, 0, 1)
  | 3 => (15, 6, 92, 0, 8)
  | 6 => (28, 9, 77, 3, 0)
  | 9 => (16, 12, 1, 14, 0)
  | 12 => (0, 13, 0, 0, (-1))
  | 13 => (34, 14, 0, 0, 0)
  | 14 => (0, 15, 0, 0, 0)
  | 15 => (4, 16, 2, 0, 0)
  | 16 => (2, 17, 0, 0, 0)
  | 17 => (1, 18, 1, 0, 0)
  | 18 => (0, 19, 0, 0, 1)
  | 19 => (28, 22, 104, 3, 0)
  | 22 => (4, 23, 3, 0, 0)
  | 23 => (1, 24, 3, 0, 0)
  | 24 => (16, 27, 0, 53, 0)
  | 27 => (1, 28, 2, 0, 0)
  | 28 => (2, 29, 0, 0, 0)
  | 29 => (1, 30, 1, 0, 0)
  | 30 => (28, 33, 106, 2, 0)
  | 33 => (16, 36, 0, 40, 0)
  | 36 => (0, 37, 0, 0, 1)
  | 37 => (19, 40, 0, 41, 0)
  | 40 => (0, 41, 0, 0, 0)
  | 41 => (8, 42, 0, 0, 0)
  | 42 => (4, 43, 2, 0, 0)
  | 43 => (2, 44, 0, 0, 0)
  | 44 => (1, 45, 1, 0, 0)
  | 45 => (0, 46, 0, 0, 0)
  | 46 => (28, 49, 104, 3, 0)
  | 49 => (4, 50, 3, 0, 0)
  | 50 => (19, 53, 0, 23, 0)
  | 53 => (1, 54, 2, 0, 0)
  | 54 => (34, 55, 0, 0, 0)
  | _ => (99, 0, 0, 0, 0)
def zc_X6_ring : Nat → zE := fun pc => match pc with
  | 0 => (1, 1, 1, 0, 0)
  | 1 => (13, 2, 0, 0, 0)
  | 2 => (15, 3, 0, 0, 1)
  | 3 => (15, 6, 92, 0, 8)
  | 6 => (28, 9, 77, 3, 0)
  | 9 => (16, 12, 0, 25, 0)
  | 12 => (1, 13, 2, 0, 0)
  | 13 => (13, 14, 0, 0, 0)
  | 14 => (15, 15, 0, 0, 0)
  | 15 => (1, 16, 1, 0, 0)
  | 16 => (0, 17, 0, 0, 1)
  | 17 => (8, 18, 1, 0, 0)
  | 18 => (13, 19, 0, 0, 0)
  | 19 => (28, 22, 77, 3, 0)
  | 22 => (16, 25, 1, 27, 0)
  | 25 => (0, 26, 0, 0, (-1))
  | 26 => (34, 27, 0, 0, 0)
  | 27 => (2, 28, 0, 0, 0)
  | 28 => (1, 29, 1, 0, 0)
  | 29 => (0, 30, 0, 0, 1)
  | 30 => (28, 33, 104, 3, 0)
  | 33 => (4, 34, 3, 0, 0)
  | 34 => (1, 35, 3, 0, 0)
  | 35 => (16, 38, 0, 56, 0)
  | 38 => (2, 39, 0, 0, 0)
  | 39 => (1, 40, 1, 0, 0)
  | 40 => (28, 43, 106, 2, 0)
  | 43 => (16, 46, 1, 56, 0)
  | 46 => (2, 47, 0, 0, 0)
  | 47 => (1, 48, 1, 0, 0)
  | 48 => (0, 49, 0, 0, 0)
  | 49 => (28, 52, 104, 3, 0)
  | 52 => (4, 53, 3, 0, 0)
  | 53 => (19, 56, 0, 34, 0)
  | 56 => (1, 57, 3, 0, 0)
  | 57 => (16, 60, 0, 69, 0)
  | 60 => (2, 61, 0, 0, 0)
  | 61 => (20, 64, 6, 8, 0)
  | 64 => (1, 65, 2, 0, 0)
  | 65 => (23, 66, 0, 0, 0)
  | 66 => (19, 69, 0, 71, 0)
  | 69 => (0, 71, 0, 0, (-4))
  | 71 => (34, 72, 0, 0, 0)
  | _ => (99, 0, 0, 0, 0)
def zc_X6_cheap : Nat → zE := fun pc => match pc with
  | 0 => (1, 1, 1, 0, 0)
  | 1 => (13, 2, 0, 0, 0)
  | 2 => (15, 3, 0, 0, 1)
  | 3 => (15, 6, 92, 0, 8)
  | 6 => (28, 9, 77, 3, 0)
  | 9 => (16, 12, 0, 27, 0)
  | 12 => (1, 13, 2, 0, 0)
  | 13 => (13, 14, 0, 0, 0)
  | 14 => (15, 17, 129, 0, (-1))
  | 17 => (1, 18, 1, 0, 0)
  | 18 => (0, 19, 0, 0, 1)
  | 19 => (8, 20, 1, 0, 0)
  | 20 => (13, 21, 0, 0, 0)
  | 21 => (28, 24, 77, 3, 0)
  | 24 => (16, 27, 1, 29, 0)
  | 27 => (0, 28, 0, 0, (-1))
  | 28 => (34, 29, 0, 0, 0)
  | 29 => (0, 31, 0, 0, (-4))
  | 31 => (4, 32, 3, 0, 0)
  | 32 => (2, 33, 0, 0, 0)
  | 33 => (1, 34, 1, 0, 0)
  | 34 => (0, 35, 0, 0, 1)
  | 35 => (28, 38, 104, 3, 0)
  | 38 => (4, 40, 4, 0, 0)
  | 40 => (1, 42, 4, 0, 0)
  | 42 => (16, 45, 0, 137, 0)
  | 45 => (0, 46, 0, 0, 0)
  | 46 => (4, 48, 5, 0, 0)
  | 48 => (0, 49, 0, 0, 0)
  | 49 => (4, 51, 6, 0, 0)
  | 51 => (1, 53, 6, 0, 0)
  | 53 => (1, 54, 1, 0, 0)
  | 54 => (17, 57, 3, 82, 0)
  | 57 => (1, 59, 5, 0, 0)
  | 59 => (2, 60, 0, 0, 0)
  | 60 => (20, 63, 6, 0, 0)
  | 63 => (0, 64, 0, 0, 5)
  | 64 => (2, 65, 0, 0, 0)
  | 65 => (20, 68, 6, 8, 0)
  | 68 => (1, 70, 6, 0, 0)
  | 70 => (23, 71, 0, 0, 0)
  | 71 => (8, 72, 0, 0, 0)
  | 72 => (23, 73, 0, 0, 0)
  | 73 => (8, 74, 0, 0, 0)
  | 74 => (4, 76, 5, 0, 0)
  | 76 => (7, 79, 6, 0, 1)
  | 79 => (19, 82, 0, 51, 0)
  | 82 => (1, 83, 3, 0, 0)
  | 83 => (0, 85, 0, 0, (-4))
  | 85 => (17, 88, 0, 94, 0)
  | 88 => (1, 90, 5, 0, 0)
  | 90 => (1, 91, 3, 0, 0)
  | 91 => (17, 94, 3, 126, 0)
  | 94 => (1, 96, 5, 0, 0)
  | 96 => (4, 97, 3, 0, 0)
  | 97 => (0, 98, 0, 0, 0)
  | 98 => (4, 100, 6, 0, 0)
  | 100 => (1, 102, 6, 0, 0)
  | 102 => (1, 103, 1, 0, 0)
  | 103 => (17, 106, 3, 126, 0)
  | 106 => (2, 107, 0, 0, 0)
  | 107 => (20, 110, 6, 10, 0)
  | 110 => (1, 112, 6, 0, 0)
  | 112 => (2, 113, 0, 0, 0)
  | 113 => (20, 116, 6, 8, 0)
  | 116 => (1, 118, 6, 0, 0)
  | 118 => (23, 119, 0, 0, 0)
  | 119 => (24, 120, 0, 0, 0)
  | 120 => (7, 123, 6, 0, 1)
  | 123 => (19, 126, 0, 100, 0)
  | 126 => (2, 127, 0, 0, 0)
  | 127 => (1, 128, 1, 0, 0)
  | 128 => (0, 129, 0, 0, 0)
  | 129 => (28, 132, 104, 3, 0)
  | 132 => (4, 134, 4, 0, 0)
  | 134 => (19, 137, 0, 40, 0)
  | 137 => (1, 138, 3, 0, 0)
  | 138 => (0, 140, 0, 0, (-4))
  | 140 => (17, 143, 0, 147, 0)
  | 143 => (1, 144, 2, 0, 0)
  | 144 => (16, 147, 3, 151, 0)
  | 147 => (1, 148, 3, 0, 0)
  | 148 => (19, 151, 0, 157, 0)
  | 151 => (2, 152, 0, 0, 0)
  | 152 => (20, 155, 6, 10, 0)
  | 155 => (1, 156, 2, 0, 0)
  | 156 => (23, 157, 0, 0, 0)
  | 157 => (34, 158, 0, 0, 0)
  | _ => (99, 0, 0, 0, 0)
def zc_X6_comes : Nat → zE := fun pc => match pc with
  | 0 => (2, 1, 0, 0, 0)
  | 1 => (20, 4, 6, 8, 0)
  | 4 => (1, 5, 1, 0, 0)
  | 5 => (1, 6, 2, 0, 0)
  | 6 => (8, 7, 0, 0, 0)
  | 7 => (0, 8, 0, 0, (-1))
  | 8 => (24, 9, 0, 0, 0)
  | 9 => (2, 10, 0, 0, 0)
  | 10 => (20, 13, 6, 12, 0)
  | 13 => (1, 14, 2, 0, 0)
  | 14 => (0, 15, 0, 0, 0)
  | 15 => (26, 16, 0, 0, 0)
  | 16 => (2, 17, 0, 0, 0)
  | 17 => (20, 20, 6, 13, 0)
  | 20 => (1, 21, 2, 0, 0)
  | 21 => (0, 22, 0, 0, 0)
  | 22 => (26, 23, 0, 0, 0)
  | 23 => (2, 24, 0, 0, 0)
  | 24 => (20, 27, 6, 14, 0)
  | 27 => (1, 28, 2, 0, 0)
  | 28 => (0, 29, 0, 0, 0)
  | 29 => (26, 30, 0, 0, 0)
  | 30 => (37, 31, 0, 0, 0)
  | _ => (99, 0, 0, 0, 0)
def zc_X6_wins : Nat → zE := fun pc => match pc with
  | 0 => (1, 1, 1, 0, 0)
  | 1 => (13, 2, 0, 0, 0)
  | 2 => (15, 3, 0, 0, 0)
  | 3 => (15, 6, 92, 0, 8)
  | 6 => (28, 9, 77, 3, 0)
  | 9 => (16, 12, 1, 14, 0)
  | 12 => (0, 13, 0, 0, (-1))
  | 13 => (34, 14, 0, 0, 0)
  | 14 => (2, 15, 0, 0, 0)
  | 15 => (28, 18, 82, 1, 0)
  | 18 => (4, 19, 2, 0, 0)
  | 19 => (2, 20, 0, 0, 0)
  | 20 => (1, 21, 2, 0, 0)
  | 21 => (28, 24, 81, 2, 0)
  | 24 => (16, 27, 5, 30, 0)
  | 27 => (0, 29, 0, 0, (-2))
  | 29 => (34, 30, 0, 0, 0)
  | 30 => (0, 31, 0, 0, 0)
  | 31 => (4, 32, 3, 0, 0)
  | 32 => (2, 33, 0, 0, 0)
  | 33 => (1, 34, 2, 0, 0)
  | 34 => (0, 35, 0, 0, 0)
  | 35 => (28, 38, 110, 3, 0)
  | 38 => (0, 39, 0, 0, 2)
  | 39 => (4, 41, 4, 0, 0)
  | 41 => (1, 42, 3, 0, 0)
  | 42 => (16, 45, 2, 226, 0)
  | 45 => (2, 46, 0, 0, 0)
  | 46 => (20, 49, 6, 8, 0)
  | 49 => (1, 50, 2, 0, 0)
  | 50 => (1, 51, 3, 0, 0)
  | 51 => (8, 52, 0, 0, 0)
  | 52 => (31, 53, 0, 0, 0)
  | 53 => (23, 54, 0, 0, 0)
  | 54 => (0, 55, 0, 0, 1)
  | 55 => (8, 56, 0, 0, 0)
  | 56 => (24, 57, 0, 0, 0)
  | 57 => (2, 58, 0, 0, 0)
  | 58 => (20, 61, 6, 8, 0)
  | 61 => (1, 62, 2, 0, 0)
  | 62 => (1, 63, 3, 0, 0)
  | 63 => (8, 64, 0, 0, 0)
  | 64 => (23, 65, 0, 0, 0)
  | 65 => (2, 66, 0, 0, 0)
  | 66 => (20, 69, 6, 0, 0)
  | 69 => (0, 70, 0, 0, 0)
  | 70 => (23, 71, 0, 0, 0)
  | 71 => (17, 74, 3, 123, 0)
  | 74 => (2, 75, 0, 0, 0)
  | 75 => (1, 76, 2, 0, 0)
  | 76 => (1, 77, 3, 0, 0)
  | 77 => (8, 78, 0, 0, 0)
  | 78 => (0, 79, 0, 0, 1)
  | 79 => (8, 80, 0, 0, 0)
  | 80 => (28, 83, 80, 2, 0)
  | 83 => (16, 86, 5, 89, 0)
  | 86 => (19, 89, 0, 41, 0)
  | 89 => (2, 90, 0, 0, 0)
  | 90 => (20, 93, 6, 12, 0)
  | 93 => (1, 94, 3, 0, 0)
  | 94 => (0, 95, 0, 0, 1)
  | 95 => (26, 96, 0, 0, 0)
  | 96 => (1, 97, 3, 0, 0)
  | 97 => (1, 98, 1, 0, 0)
  | 98 => (17, 101, 1, 111, 0)
  | 101 => (2, 102, 0, 0, 0)
  | 102 => (20, 105, 6, 14, 0)
  | 105 => (1, 106, 3, 0, 0)
  | 106 => (0, 107, 0, 0, 1)
  | 107 => (26, 108, 0, 0, 0)
  | 108 => (19, 111, 0, 41, 0)
  | 111 => (7, 114, 3, 0, 1)
  | 114 => (2, 115, 0, 0, 0)
  | 115 => (1, 116, 2, 0, 0)
  | 116 => (1, 117, 3, 0, 0)
  | 117 => (28, 120, 110, 3, 0)
  | 120 => (19, 123, 0, 41, 0)
  | 123 => (2, 124, 0, 0, 0)
  | 124 => (20, 127, 6, 12, 0)
  | 127 => (1, 128, 3, 0, 0)
  | 128 => (25, 129, 0, 0, 0)
  | 129 => (16, 132, 1, 136, 0)
  | 132 => (0, 133, 0, 0, 0)
  | 133 => (19, 136, 0, 163, 0)
  | 136 => (2, 137, 0, 0, 0)
  | 137 => (20, 140, 6, 13, 0)
  | 140 => (1, 141, 3, 0, 0)
  | 141 => (25, 142, 0, 0, 0)
  | 142 => (16, 145, 0, 149, 0)
  | 145 => (0, 146, 0, 0, 1)
  | 146 => (19, 149, 0, 163, 0)
  | 149 => (2, 150, 0, 0, 0)
  | 150 => (20, 153, 6, 14, 0)
  | 153 => (1, 154, 3, 0, 0)
  | 154 => (25, 155, 0, 0, 0)
  | 155 => (16, 158, 0, 162, 0)
  | 158 => (0, 159, 0, 0, 2)
  | 159 => (19, 162, 0, 163, 0)
  | 162 => (0, 163, 0, 0, 0)
  | 163 => (4, 165, 4, 0, 0)
  | 165 => (7, 168, 3, 0, (-1))
  | 168 => (1, 169, 3, 0, 0)
  | 169 => (16, 172, 2, 41, 0)
  | 172 => (2, 173, 0, 0, 0)
  | 173 => (20, 176, 6, 13, 0)
  | 176 => (1, 177, 3, 0, 0)
  | 177 => (2, 178, 0, 0, 0)
  | 178 => (20, 181, 6, 13, 0)
  | 181 => (1, 182, 3, 0, 0)
  | 182 => (25, 183, 0, 0, 0)
  | 183 => (16, 186, 1, 191, 0)
  | 186 => (1, 188, 4, 0, 0)
  | 188 => (16, 191, 1, 195, 0)
  | 191 => (0, 192, 0, 0, 1)
  | 192 => (19, 195, 0, 196, 0)
  | 195 => (0, 196, 0, 0, 0)
  | 196 => (26, 197, 0, 0, 0)
  | 197 => (2, 198, 0, 0, 0)
  | 198 => (20, 201, 6, 14, 0)
  | 201 => (1, 202, 3, 0, 0)
  | 202 => (2, 203, 0, 0, 0)
  | 203 => (20, 206, 6, 14, 0)
  | 206 => (1, 207, 3, 0, 0)
  | 207 => (25, 208, 0, 0, 0)
  | 208 => (16, 211, 1, 217, 0)
  | 211 => (1, 213, 4, 0, 0)
  | 213 => (0, 214, 0, 0, 2)
  | 214 => (17, 217, 1, 221, 0)
  | 217 => (0, 218, 0, 0, 1)
  | 218 => (19, 221, 0, 222, 0)
  | 221 => (0, 222, 0, 0, 0)
  | 222 => (26, 223, 0, 0, 0)
  | 223 => (19, 226, 0, 41, 0)
  | 226 => (1, 228, 4, 0, 0)
  | 228 => (34, 229, 0, 0, 0)
  | _ => (99, 0, 0, 0, 0)
def zc_X6_tear : Nat → zE := fun pc => match pc with
  | 0 => (2, 1, 0, 0, 0)
  | 1 => (1, 2, 1, 0, 0)
  | 2 => (28, 5, 85, 2, 0)
  | 5 => (16, 8, 1, 10, 0)
  | 8 => (0, 9, 0, 0, (-1))
  | 9 => (34, 10, 0, 0, 0)
  | 10 => (1, 11, 1, 0, 0)
  | 11 => (4, 12, 2, 0, 0)
  | 12 => (1, 13, 2, 0, 0)
  | 13 => (0, 14, 0, 0, 1)
  | 14 => (8, 15, 0, 0, 0)
  | 15 => (2, 16, 0, 0, 0)
  | 16 => (20, 19, 6, 0, 0)
  | 19 => (0, 20, 0, 0, 4)
  | 20 => (23, 21, 0, 0, 0)
  | 21 => (17, 24, 3, 50, 0)
  | 24 => (2, 25, 0, 0, 0)
  | 25 => (20, 28, 6, 0, 0)
  | 28 => (0, 30, 0, 0, 9)
  | 30 => (1, 31, 2, 0, 0)
  | 31 => (8, 32, 0, 0, 0)
  | 32 => (2, 33, 0, 0, 0)
  | 33 => (20, 36, 6, 0, 0)
  | 36 => (0, 38, 0, 0, 9)
  | 38 => (1, 39, 2, 0, 0)
  | 39 => (8, 40, 0, 0, 0)
  | 40 => (0, 41, 0, 0, 1)
  | 41 => (8, 42, 0, 0, 0)
  | 42 => (23, 43, 0, 0, 0)
  | 43 => (24, 44, 0, 0, 0)
  | 44 => (7, 47, 2, 0, 1)
  | 47 => (19, 50, 0, 12, 0)
  | 50 => (2, 51, 0, 0, 0)
  | 51 => (20, 54, 6, 0, 0)
  | 54 => (0, 55, 0, 0, 4)
  | 55 => (31, 56, 0, 0, 0)
  | 56 => (23, 57, 0, 0, 0)
  | 57 => (0, 58, 0, 0, 1)
  | 58 => (8, 59, 1, 0, 0)
  | 59 => (24, 60, 0, 0, 0)
  | 60 => (2, 61, 0, 0, 0)
  | 61 => (2, 62, 0, 0, 0)
  | 62 => (28, 65, 82, 1, 0)
  | 65 => (28, 68, 81, 2, 0)
  | 68 => (16, 71, 1, 75, 0)
  | 71 => (0, 72, 0, 0, 1)
  | 72 => (19, 75, 0, 76, 0)
  | 75 => (0, 76, 0, 0, 0)
  | 76 => (34, 77, 0, 0, 0)
  | _ => (99, 0, 0, 0, 0)
def zc_X6_mends : Nat → zE := fun pc => match pc with
  | 0 => (2, 1, 0, 0, 0)
  | 1 => (1, 2, 1, 0, 0)
  | 2 => (28, 5, 85, 2, 0)
  | 5 => (16, 8, 1, 10, 0)
  | 8 => (0, 9, 0, 0, (-1))
  | 9 => (34, 10, 0, 0, 0)
  | 10 => (2, 11, 0, 0, 0)
  | 11 => (28, 14, 82, 1, 0)
  | 14 => (4, 15, 2, 0, 0)
  | 15 => (0, 16, 0, 0, 0)
  | 16 => (4, 17, 3, 0, 0)
  | 17 => (0, 18, 0, 0, 0)
  | 18 => (4, 20, 4, 0, 0)
  | 20 => (1, 22, 4, 0, 0)
  | 22 => (2, 23, 0, 0, 0)
  | 23 => (20, 26, 6, 0, 0)
  | 26 => (0, 27, 0, 0, 0)
  | 27 => (23, 28, 0, 0, 0)
  | 28 => (17, 31, 3, 64, 0)
  | 31 => (2, 32, 0, 0, 0)
  | 32 => (20, 35, 6, 8, 0)
  | 35 => (1, 36, 1, 0, 0)
  | 36 => (1, 38, 4, 0, 0)
  | 38 => (24, 39, 0, 0, 0)
  | 39 => (1, 40, 3, 0, 0)
  | 40 => (2, 41, 0, 0, 0)
  | 41 => (1, 42, 2, 0, 0)
  | 42 => (28, 45, 81, 2, 0)
  | 45 => (16, 48, 1, 55, 0)
  | 48 => (0, 49, 0, 0, 1)
  | 49 => (1, 51, 4, 0, 0)
  | 51 => (8, 52, 5, 0, 0)
  | 52 => (19, 55, 0, 56, 0)
  | 55 => (0, 56, 0, 0, 0)
  | 56 => (8, 57, 4, 0, 0)
  | 57 => (4, 58, 3, 0, 0)
  | 58 => (7, 61, 4, 0, 1)
  | 61 => (19, 64, 0, 20, 0)
  | 64 => (1, 65, 3, 0, 0)
  | 65 => (34, 66, 0, 0, 0)
  | _ => (99, 0, 0, 0, 0)
def zc_X6_replace : Nat → zE := fun pc => match pc with
  | 0 => (2, 1, 0, 0, 0)
  | 1 => (1, 2, 1, 0, 0)
  | 2 => (28, 5, 85, 2, 0)
  | 5 => (16, 8, 0, 28, 0)
  | 8 => (2, 9, 0, 0, 0)
  | 9 => (1, 10, 2, 0, 0)
  | 10 => (28, 13, 86, 2, 0)
  | 13 => (16, 16, 0, 28, 0)
  | 16 => (2, 17, 0, 0, 0)
  | 17 => (0, 19, 0, 0, 9)
  | 19 => (1, 20, 1, 0, 0)
  | 20 => (8, 21, 0, 0, 0)
  | 21 => (1, 22, 2, 0, 0)
  | 22 => (28, 25, 78, 3, 0)
  | 25 => (19, 28, 0, 29, 0)
  | 28 => (0, 29, 0, 0, (-1))
  | 29 => (34, 30, 0, 0, 0)
  | _ => (99, 0, 0, 0, 0)
def zc_X6_lots : Nat → zE := fun pc => match pc with
  | 0 => (1, 1, 1, 0, 0)
  | 1 => (13, 2, 0, 0, 0)
  | 2 => (15, 3, 0, 0, 1)
  | 3 => (15, 6, 87, 0, 48)
  | 6 => (28, 9, 77, 3, 0)
  | 9 => (16, 12, 1, 14, 0)
  | 12 => (0, 13, 0, 0, (-1))
  | 13 => (34, 14, 0, 0, 0)
  | 14 => (2, 15, 0, 0, 0)
  | 15 => (20, 18, 6, 0, 0)
  | 18 => (0, 19, 0, 0, 4)
  | 19 => (23, 20, 0, 0, 0)
  | 20 => (1, 21, 1, 0, 0)
  | 21 => (8, 22, 0, 0, 0)
  | 22 => (0, 24, 0, 0, 48)
  | 24 => (17, 27, 5, 30, 0)
  | 27 => (0, 29, 0, 0, (-3))
  | 29 => (34, 30, 0, 0, 0)
  | 30 => (0, 31, 0, 0, 0)
  | 31 => (4, 32, 2, 0, 0)
  | 32 => (2, 33, 0, 0, 0)
  | 33 => (28, 36, 98, 1, 0)
  | 36 => (4, 37, 3, 0, 0)
  | 37 => (1, 38, 2, 0, 0)
  | 38 => (1, 39, 1, 0, 0)
  | 39 => (17, 42, 3, 159, 0)
  | 42 => (1, 43, 3, 0, 0)
  | 43 => (16, 46, 0, 159, 0)
  | 46 => (2, 47, 0, 0, 0)
  | 47 => (20, 50, 6, 0, 0)
  | 50 => (0, 51, 0, 0, 3)
  | 51 => (2, 52, 0, 0, 0)
  | 52 => (20, 55, 6, 0, 0)
  | 55 => (0, 56, 0, 0, 3)
  | 56 => (23, 57, 0, 0, 0)
  | 57 => (13, 58, 0, 0, 0)
  | 58 => (15, 61, 138, 0, 1103515245)
  | 61 => (11, 62, 1, 0, 0)
  | 62 => (15, 65, 140, 0, 12345)
  | 65 => (11, 66, 0, 0, 0)
  | 66 => (15, 69, 142, 0, 2147483647)
  | 69 => (11, 70, 2, 0, 0)
  | 70 => (13, 71, 1, 0, 0)
  | 71 => (24, 72, 0, 0, 0)
  | 72 => (2, 73, 0, 0, 0)
  | 73 => (20, 76, 6, 0, 0)
  | 76 => (0, 77, 0, 0, 3)
  | 77 => (23, 78, 0, 0, 0)
  | 78 => (0, 80, 144, 0, 65536)
  | 80 => (9, 81, 0, 0, 0)
  | 81 => (1, 82, 3, 0, 0)
  | 82 => (28, 85, 84, 1, 0)
  | 85 => (10, 86, 0, 0, 0)
  | 86 => (4, 88, 4, 0, 0)
  | 88 => (0, 89, 0, 0, 0)
  | 89 => (4, 91, 5, 0, 0)
  | 91 => (1, 92, 3, 0, 0)
  | 92 => (1, 94, 5, 0, 0)
  | 94 => (8, 95, 6, 0, 0)
  | 95 => (0, 96, 0, 0, 1)
  | 96 => (8, 97, 3, 0, 0)
  | 97 => (16, 100, 0, 105, 0)
  | 100 => (1, 102, 4, 0, 0)
  | 102 => (16, 105, 5, 122, 0)
  | 105 => (1, 107, 4, 0, 0)
  | 107 => (1, 108, 3, 0, 0)
  | 108 => (1, 110, 5, 0, 0)
  | 110 => (8, 111, 6, 0, 0)
  | 111 => (0, 112, 0, 0, 1)
  | 112 => (8, 113, 3, 0, 0)
  | 113 => (8, 114, 1, 0, 0)
  | 114 => (4, 116, 4, 0, 0)
  | 116 => (7, 119, 5, 0, 1)
  | 119 => (19, 122, 0, 91, 0)
  | 122 => (2, 123, 0, 0, 0)
  | 123 => (20, 126, 6, 0, 0)
  | 126 => (0, 128, 0, 0, 9)
  | 128 => (2, 129, 0, 0, 0)
  | 129 => (20, 132, 6, 0, 0)
  | 132 => (0, 133, 0, 0, 4)
  | 133 => (23, 134, 0, 0, 0)
  | 134 => (8, 135, 0, 0, 0)
  | 135 => (1, 137, 5, 0, 0)
  | 137 => (24, 138, 0, 0, 0)
  | 138 => (2, 139, 0, 0, 0)
  | 139 => (20, 142, 6, 0, 0)
  | 142 => (0, 143, 0, 0, 4)
  | 143 => (31, 144, 0, 0, 0)
  | 144 => (23, 145, 0, 0, 0)
  | 145 => (0, 146, 0, 0, 1)
  | 146 => (8, 147, 0, 0, 0)
  | 147 => (24, 148, 0, 0, 0)
  | 148 => (7, 151, 2, 0, 1)
  | 151 => (2, 152, 0, 0, 0)
  | 152 => (28, 155, 98, 1, 0)
  | 155 => (4, 156, 3, 0, 0)
  | 156 => (19, 159, 0, 37, 0)
  | 159 => (1, 160, 2, 0, 0)
  | 160 => (34, 161, 0, 0, 0)
  | _ => (99, 0, 0, 0, 0)
def zc_X6_seed : Nat → zE := fun pc => match pc with
  | 0 => (1, 1, 1, 0, 0)
  | 1 => (16, 4, 3, 8, 0)
  | 4 => (0, 5, 0, 0, (-1))
  | 5 => (19, 8, 0, 14, 0)
  | 8 => (2, 9, 0, 0, 0)
  | 9 => (0, 10, 0, 0, 3)
  | 10 => (1, 11, 1, 0, 0)
  | 11 => (28, 14, 78, 3, 0)
  | 14 => (34, 15, 0, 0, 0)
  | _ => (99, 0, 0, 0, 0)
def zc_X6_image : Nat → zE := fun pc => match pc with
  | 0 => (0, 1, 0, 0, 0)
  | 1 => (4, 2, 1, 0, 0)
  | 2 => (1, 3, 1, 0, 0)
  | 3 => (0, 5, 0, 0, 57)
  | 5 => (17, 8, 3, 26, 0)
  | 8 => (2, 9, 0, 0, 0)
  | 9 => (20, 12, 6, 1, 0)
  | 12 => (1, 13, 1, 0, 0)
  | 13 => (2, 14, 0, 0, 0)
  | 14 => (20, 17, 6, 0, 0)
  | 17 => (1, 18, 1, 0, 0)
  | 18 => (23, 19, 0, 0, 0)
  | 19 => (24, 20, 0, 0, 0)
  | 20 => (7, 23, 1, 0, 1)
  | 23 => (19, 26, 0, 2, 0)
  | 26 => (2, 27, 0, 0, 0)
  | 27 => (0, 28, 0, 0, 1)
  | 28 => (22, 31, 6, 2, 0)
  | 31 => (0, 32, 0, 0, 1)
  | 32 => (34, 33, 0, 0, 0)
  | _ => (99, 0, 0, 0, 0)
def zc_X6_restore : Nat → zE := fun pc => match pc with
  | 0 => (2, 1, 0, 0, 0)
  | 1 => (20, 4, 6, 2, 0)
  | 4 => (16, 7, 1, 10, 0)
  | 7 => (0, 9, 0, 0, (-4))
  | 9 => (34, 10, 0, 0, 0)
  | 10 => (0, 11, 0, 0, 0)
  | 11 => (4, 12, 1, 0, 0)
  | 12 => (1, 13, 1, 0, 0)
  | 13 => (0, 15, 0, 0, 57)
  | 15 => (17, 18, 3, 36, 0)
  | 18 => (2, 19, 0, 0, 0)
  | 19 => (20, 22, 6, 0, 0)
  | 22 => (1, 23, 1, 0, 0)
  | 23 => (2, 24, 0, 0, 0)
  | 24 => (20, 27, 6, 1, 0)
  | 27 => (1, 28, 1, 0, 0)
  | 28 => (23, 29, 0, 0, 0)
  | 29 => (24, 30, 0, 0, 0)
  | 30 => (7, 33, 1, 0, 1)
  | 33 => (19, 36, 0, 12, 0)
  | 36 => (0, 37, 0, 0, 1)
  | 37 => (34, 38, 0, 0, 0)
  | _ => (99, 0, 0, 0, 0)
def zc_X6_isSheet : Nat → zE := fun pc => match pc with
  | 0 => (1, 1, 0, 0, 0)
  | 1 => (13, 2, 0, 0, 0)
  | 2 => (15, 3, 0, 0, 0)
  | 3 => (15, 6, 70, 0, 3)
  | 6 => (28, 9, 77, 3, 0)
  | 9 => (16, 12, 0, 28, 0)
  | 12 => (1, 13, 1, 0, 0)
  | 13 => (13, 14, 0, 0, 0)
  | 14 => (15, 15, 0, 0, 0)
  | 15 => (15, 18, 62, 0, 2)
  | 18 => (28, 21, 77, 3, 0)
  | 21 => (16, 24, 0, 28, 0)
  | 24 => (0, 25, 0, 0, 1)
  | 25 => (19, 28, 0, 29, 0)
  | 28 => (0, 29, 0, 0, 0)
  | 29 => (35, 30, 0, 0, 0)
  | _ => (99, 0, 0, 0, 0)
def zc_X6_found : Nat → zE := fun pc => match pc with
  | 0 => (2, 1, 0, 0, 0)
  | 1 => (20, 4, 6, 5, 0)
  | 4 => (1, 5, 1, 0, 0)
  | 5 => (23, 6, 0, 0, 0)
  | 6 => (16, 9, 3, 14, 0)
  | 9 => (0, 11, 0, 0, (-11))
  | 11 => (19, 14, 0, 56, 0)
  | 14 => (2, 15, 0, 0, 0)
  | 15 => (20, 18, 6, 6, 0)
  | 18 => (1, 19, 1, 0, 0)
  | 19 => (23, 20, 0, 0, 0)
  | 20 => (1, 21, 2, 0, 0)
  | 21 => (17, 24, 0, 29, 0)
  | 24 => (0, 26, 0, 0, (-12))
  | 26 => (19, 29, 0, 56, 0)
  | 29 => (1, 30, 3, 0, 0)
  | 30 => (16, 33, 2, 50, 0)
  | 33 => (1, 34, 3, 0, 0)
  | 34 => (13, 35, 0, 0, 0)
  | 35 => (1, 37, 4, 0, 0)
  | 37 => (13, 38, 0, 0, 0)
  | 38 => (11, 39, 0, 0, 0)
  | 39 => (2, 40, 0, 0, 0)
  | 40 => (20, 43, 6, 5, 0)
  | 43 => (1, 44, 1, 0, 0)
  | 44 => (23, 45, 0, 0, 0)
  | 45 => (13, 46, 0, 0, 0)
  | 46 => (14, 47, 0, 0, 0)
  | 47 => (16, 50, 5, 55, 0)
  | 50 => (0, 52, 0, 0, (-13))
  | 52 => (19, 55, 0, 56, 0)
  | 55 => (0, 56, 0, 0, 0)
  | 56 => (34, 57, 0, 0, 0)
  | _ => (99, 0, 0, 0, 0)
def zc_X6_isRising : Nat → zE := fun pc => match pc with
  | 0 => (0, 1, 0, 0, 1)
  | 1 => (4, 2, 3, 0, 0)
  | 2 => (0, 3, 0, 0, 0)
  | 3 => (4, 5, 4, 0, 0)
  | 5 => (1, 7, 4, 0, 0)
  | 7 => (1, 8, 2, 0, 0)
  | 8 => (17, 11, 3, 71, 0)
  | 11 => (1, 12, 3, 0, 0)
  | 12 => (16, 15, 0, 63, 0)
  | 15 => (2, 16, 0, 0, 0)
  | 16 => (2, 17, 0, 0, 0)
  | 17 => (20, 20, 6, 7, 0)
  | 20 => (1, 21, 1, 0, 0)
  | 21 => (1, 23, 4, 0, 0)
  | 23 => (8, 24, 0, 0, 0)
  | 24 => (23, 25, 0, 0, 0)
  | 25 => (28, 28, 85, 2, 0)
  | 28 => (16, 31, 0, 63, 0)
  | 31 => (1, 33, 4, 0, 0)
  | 33 => (16, 36, 0, 59, 0)
  | 36 => (2, 37, 0, 0, 0)
  | 37 => (20, 40, 6, 7, 0)
  | 40 => (1, 41, 1, 0, 0)
  | 41 => (1, 43, 4, 0, 0)
  | 43 => (8, 44, 0, 0, 0)
  | 44 => (23, 45, 0, 0, 0)
  | 45 => (2, 46, 0, 0, 0)
  | 46 => (20, 49, 6, 7, 0)
  | 49 => (1, 50, 1, 0, 0)
  | 50 => (1, 52, 4, 0, 0)
  | 52 => (8, 53, 0, 0, 0)
  | 53 => (0, 54, 0, 0, 1)
  | 54 => (8, 55, 1, 0, 0)
  | 55 => (23, 56, 0, 0, 0)
  | 56 => (17, 59, 5, 63, 0)
  | 59 => (0, 60, 0, 0, 1)
  | 60 => (19, 63, 0, 64, 0)
  | 63 => (0, 64, 0, 0, 0)
  | 64 => (4, 65, 3, 0, 0)
  | 65 => (7, 68, 4, 0, 1)
  | 68 => (19, 71, 0, 5, 0)
  | 71 => (1, 72, 3, 0, 0)
  | 72 => (35, 73, 0, 0, 0)
  | _ => (99, 0, 0, 0, 0)
def zc_X6_storm : Nat → zE := fun pc => match pc with
  | 0 => (1, 1, 1, 0, 0)
  | 1 => (1, 2, 2, 0, 0)
  | 2 => (28, 5, 119, 2, 0)
  | 5 => (16, 8, 0, 38, 0)
  | 8 => (1, 10, 4, 0, 0)
  | 10 => (13, 11, 0, 0, 0)
  | 11 => (15, 12, 0, 0, 1)
  | 12 => (15, 15, 64, 0, 4)
  | 15 => (28, 18, 77, 3, 0)
  | 18 => (16, 21, 0, 38, 0)
  | 21 => (1, 23, 5, 0, 0)
  | 23 => (13, 24, 0, 0, 0)
  | 24 => (15, 27, 129, 0, (-1))
  | 27 => (1, 29, 4, 0, 0)
  | 29 => (0, 30, 0, 0, 1)
  | 30 => (8, 31, 1, 0, 0)
  | 31 => (13, 32, 0, 0, 0)
  | 32 => (28, 35, 77, 3, 0)
  | 35 => (16, 38, 1, 40, 0)
  | 38 => (0, 39, 0, 0, (-1))
  | 39 => (34, 40, 0, 0, 0)
  | 40 => (2, 41, 0, 0, 0)
  | 41 => (1, 42, 1, 0, 0)
  | 42 => (1, 43, 2, 0, 0)
  | 43 => (1, 44, 3, 0, 0)
  | 44 => (1, 46, 4, 0, 0)
  | 46 => (28, 49, 120, 5, 0)
  | 49 => (4, 51, 6, 0, 0)
  | 51 => (1, 53, 6, 0, 0)
  | 53 => (16, 56, 3, 59, 0)
  | 56 => (1, 58, 6, 0, 0)
  | 58 => (34, 59, 0, 0, 0)
  | 59 => (0, 61, 0, 0, 48)
  | 61 => (1, 62, 1, 0, 0)
  | 62 => (8, 63, 2, 0, 0)
  | 63 => (1, 64, 3, 0, 0)
  | 64 => (8, 65, 0, 0, 0)
  | 65 => (4, 67, 7, 0, 0)
  | 67 => (2, 68, 0, 0, 0)
  | 68 => (1, 70, 7, 0, 0)
  | 70 => (1, 72, 4, 0, 0)
  | 72 => (28, 75, 121, 3, 0)
  | 75 => (16, 78, 1, 81, 0)
  | 78 => (0, 80, 0, 0, (-2))
  | 80 => (34, 81, 0, 0, 0)
  | 81 => (0, 82, 0, 0, 1)
  | 82 => (4, 84, 8, 0, 0)
  | 84 => (0, 85, 0, 0, 0)
  | 85 => (4, 87, 9, 0, 0)
  | 87 => (1, 89, 9, 0, 0)
  | 89 => (1, 91, 4, 0, 0)
  | 91 => (17, 94, 3, 111, 0)
  | 94 => (1, 96, 8, 0, 0)
  | 96 => (2, 97, 0, 0, 0)
  | 97 => (20, 100, 6, 0, 0)
  | 100 => (0, 101, 0, 0, 0)
  | 101 => (23, 102, 0, 0, 0)
  | 102 => (8, 103, 2, 0, 0)
  | 103 => (4, 105, 8, 0, 0)
  | 105 => (7, 108, 9, 0, 1)
  | 108 => (19, 111, 0, 87, 0)
  | 111 => (2, 112, 0, 0, 0)
  | 112 => (28, 115, 82, 1, 0)
  | 115 => (4, 117, 9, 0, 0)
  | 117 => (0, 118, 0, 0, 0)
  | 118 => (4, 120, 10, 0, 0)
  | 120 => (0, 122, 0, 0, (-4))
  | 122 => (4, 124, 11, 0, 0)
  | 124 => (0, 125, 0, 0, 0)
  | 125 => (4, 127, 12, 0, 0)
  | 127 => (1, 129, 12, 0, 0)
  | 129 => (1, 131, 8, 0, 0)
  | 131 => (17, 134, 3, 240, 0)
  | 134 => (1, 136, 12, 0, 0)
  | 136 => (4, 138, 13, 0, 0)
  | 138 => (1, 140, 4, 0, 0)
  | 140 => (0, 141, 0, 0, 1)
  | 141 => (8, 142, 1, 0, 0)
  | 142 => (4, 144, 14, 0, 0)
  | 144 => (1, 146, 14, 0, 0)
  | 146 => (16, 149, 2, 190, 0)
  | 149 => (2, 150, 0, 0, 0)
  | 150 => (20, 153, 6, 8, 0)
  | 153 => (2, 154, 0, 0, 0)
  | 154 => (20, 157, 6, 7, 0)
  | 157 => (1, 159, 7, 0, 0)
  | 159 => (1, 161, 14, 0, 0)
  | 161 => (8, 162, 0, 0, 0)
  | 162 => (23, 163, 0, 0, 0)
  | 163 => (1, 165, 13, 0, 0)
  | 165 => (2, 166, 0, 0, 0)
  | 166 => (20, 169, 6, 0, 0)
  | 169 => (0, 170, 0, 0, 0)
  | 170 => (23, 171, 0, 0, 0)
  | 171 => (10, 172, 0, 0, 0)
  | 172 => (24, 173, 0, 0, 0)
  | 173 => (1, 175, 13, 0, 0)
  | 175 => (2, 176, 0, 0, 0)
  | 176 => (20, 179, 6, 0, 0)
  | 179 => (0, 180, 0, 0, 0)
  | 180 => (23, 181, 0, 0, 0)
  | 181 => (9, 182, 0, 0, 0)
  | 182 => (4, 184, 13, 0, 0)
  | 184 => (7, 187, 14, 0, (-1))
  | 187 => (19, 190, 0, 144, 0)
  | 190 => (2, 191, 0, 0, 0)
  | 191 => (1, 193, 9, 0, 0)
  | 193 => (28, 196, 81, 2, 0)
  | 196 => (16, 199, 1, 234, 0)
  | 199 => (1, 201, 10, 0, 0)
  | 201 => (16, 204, 1, 227, 0)
  | 204 => (1, 206, 5, 0, 0)
  | 206 => (16, 209, 2, 227, 0)
  | 209 => (2, 210, 0, 0, 0)
  | 210 => (20, 213, 6, 8, 0)
  | 213 => (2, 214, 0, 0, 0)
  | 214 => (20, 217, 6, 7, 0)
  | 217 => (1, 219, 7, 0, 0)
  | 219 => (1, 221, 5, 0, 0)
  | 221 => (8, 222, 0, 0, 0)
  | 222 => (23, 223, 0, 0, 0)
  | 223 => (23, 224, 0, 0, 0)
  | 224 => (19, 227, 0, 229, 0)
  | 227 => (1, 229, 11, 0, 0)
  | 229 => (4, 231, 11, 0, 0)
  | 231 => (7, 234, 10, 0, 1)
  | 234 => (7, 237, 12, 0, 1)
  | 237 => (19, 240, 0, 127, 0)
  | 240 => (1, 242, 5, 0, 0)
  | 242 => (16, 245, 3, 250, 0)
  | 245 => (1, 247, 10, 0, 0)
  | 247 => (19, 250, 0, 252, 0)
  | 250 => (1, 252, 11, 0, 0)
  | 252 => (34, 253, 0, 0, 0)
  | _ => (99, 0, 0, 0, 0)
def zc_X6_build : Nat → zE := fun pc => match pc with
  | 0 => (1, 1, 1, 0, 0)
  | 1 => (1, 2, 2, 0, 0)
  | 2 => (28, 5, 119, 2, 0)
  | 5 => (16, 8, 0, 21, 0)
  | 8 => (1, 10, 4, 0, 0)
  | 10 => (13, 11, 0, 0, 0)
  | 11 => (15, 12, 0, 0, 0)
  | 12 => (15, 15, 87, 0, 48)
  | 15 => (28, 18, 77, 3, 0)
  | 18 => (16, 21, 1, 23, 0)
  | 21 => (0, 22, 0, 0, (-1))
  | 22 => (34, 23, 0, 0, 0)
  | 23 => (2, 24, 0, 0, 0)
  | 24 => (1, 25, 1, 0, 0)
  | 25 => (1, 26, 2, 0, 0)
  | 26 => (1, 27, 3, 0, 0)
  | 27 => (1, 29, 4, 0, 0)
  | 29 => (28, 32, 120, 5, 0)
  | 32 => (4, 34, 5, 0, 0)
  | 34 => (0, 35, 0, 0, 0)
  | 35 => (4, 37, 6, 0, 0)
  | 37 => (1, 39, 6, 0, 0)
  | 39 => (1, 41, 4, 0, 0)
  | 41 => (17, 44, 3, 84, 0)
  | 44 => (1, 46, 5, 0, 0)
  | 46 => (16, 49, 1, 84, 0)
  | 49 => (2, 50, 0, 0, 0)
  | 50 => (2, 51, 0, 0, 0)
  | 51 => (20, 54, 6, 7, 0)
  | 54 => (0, 56, 0, 0, 48)
  | 56 => (1, 57, 1, 0, 0)
  | 57 => (8, 58, 2, 0, 0)
  | 58 => (1, 59, 3, 0, 0)
  | 59 => (8, 60, 0, 0, 0)
  | 60 => (1, 62, 6, 0, 0)
  | 62 => (8, 63, 0, 0, 0)
  | 63 => (23, 64, 0, 0, 0)
  | 64 => (28, 67, 86, 2, 0)
  | 67 => (16, 70, 0, 74, 0)
  | 70 => (0, 71, 0, 0, 0)
  | 71 => (19, 74, 0, 76, 0)
  | 74 => (0, 76, 0, 0, (-2))
  | 76 => (4, 78, 5, 0, 0)
  | 78 => (7, 81, 6, 0, 1)
  | 81 => (19, 84, 0, 37, 0)
  | 84 => (1, 86, 5, 0, 0)
  | 86 => (16, 89, 3, 92, 0)
  | 89 => (1, 91, 5, 0, 0)
  | 91 => (34, 92, 0, 0, 0)
  | 92 => (0, 93, 0, 0, 0)
  | 93 => (4, 95, 6, 0, 0)
  | 95 => (1, 97, 6, 0, 0)
  | 97 => (1, 99, 4, 0, 0)
  | 99 => (17, 102, 3, 132, 0)
  | 102 => (2, 103, 0, 0, 0)
  | 103 => (20, 106, 6, 0, 0)
  | 106 => (0, 108, 0, 0, 9)
  | 108 => (1, 110, 6, 0, 0)
  | 110 => (8, 111, 0, 0, 0)
  | 111 => (2, 112, 0, 0, 0)
  | 112 => (20, 115, 6, 7, 0)
  | 115 => (0, 117, 0, 0, 48)
  | 117 => (1, 118, 1, 0, 0)
  | 118 => (8, 119, 2, 0, 0)
  | 119 => (1, 120, 3, 0, 0)
  | 120 => (8, 121, 0, 0, 0)
  | 121 => (1, 123, 6, 0, 0)
  | 123 => (8, 124, 0, 0, 0)
  | 124 => (23, 125, 0, 0, 0)
  | 125 => (24, 126, 0, 0, 0)
  | 126 => (7, 129, 6, 0, 1)
  | 129 => (19, 132, 0, 95, 0)
  | 132 => (2, 133, 0, 0, 0)
  | 133 => (20, 136, 6, 0, 0)
  | 136 => (0, 137, 0, 0, 4)
  | 137 => (1, 139, 4, 0, 0)
  | 139 => (24, 140, 0, 0, 0)
  | 140 => (1, 142, 4, 0, 0)
  | 142 => (34, 143, 0, 0, 0)
  | _ => (99, 0, 0, 0, 0)
def zc_X6_film : Nat → zE := fun pc => match pc with
  | 0 => (1, 1, 1, 0, 0)
  | 1 => (1, 2, 2, 0, 0)
  | 2 => (28, 5, 119, 2, 0)
  | 5 => (16, 8, 1, 10, 0)
  | 8 => (0, 9, 0, 0, (-1))
  | 9 => (34, 10, 0, 0, 0)
  | 10 => (2, 11, 0, 0, 0)
  | 11 => (1, 12, 1, 0, 0)
  | 12 => (1, 13, 2, 0, 0)
  | 13 => (1, 14, 3, 0, 0)
  | 14 => (2, 15, 0, 0, 0)
  | 15 => (20, 18, 6, 0, 0)
  | 18 => (0, 19, 0, 0, 4)
  | 19 => (23, 20, 0, 0, 0)
  | 20 => (28, 23, 120, 5, 0)
  | 23 => (4, 25, 4, 0, 0)
  | 25 => (1, 27, 4, 0, 0)
  | 27 => (16, 30, 3, 33, 0)
  | 30 => (1, 32, 4, 0, 0)
  | 32 => (34, 33, 0, 0, 0)
  | 33 => (0, 34, 0, 0, 0)
  | 34 => (4, 36, 5, 0, 0)
  | 36 => (1, 38, 5, 0, 0)
  | 38 => (2, 39, 0, 0, 0)
  | 39 => (20, 42, 6, 0, 0)
  | 42 => (0, 43, 0, 0, 4)
  | 43 => (23, 44, 0, 0, 0)
  | 44 => (17, 47, 3, 77, 0)
  | 47 => (2, 48, 0, 0, 0)
  | 48 => (20, 51, 6, 7, 0)
  | 51 => (0, 53, 0, 0, 48)
  | 53 => (1, 54, 1, 0, 0)
  | 54 => (8, 55, 2, 0, 0)
  | 55 => (1, 56, 3, 0, 0)
  | 56 => (8, 57, 0, 0, 0)
  | 57 => (1, 59, 5, 0, 0)
  | 59 => (8, 60, 0, 0, 0)
  | 60 => (2, 61, 0, 0, 0)
  | 61 => (20, 64, 6, 0, 0)
  | 64 => (0, 66, 0, 0, 9)
  | 66 => (1, 68, 5, 0, 0)
  | 68 => (8, 69, 0, 0, 0)
  | 69 => (23, 70, 0, 0, 0)
  | 70 => (24, 71, 0, 0, 0)
  | 71 => (7, 74, 5, 0, 1)
  | 74 => (19, 77, 0, 36, 0)
  | 77 => (2, 78, 0, 0, 0)
  | 78 => (20, 81, 6, 0, 0)
  | 81 => (0, 82, 0, 0, 4)
  | 82 => (23, 83, 0, 0, 0)
  | 83 => (34, 84, 0, 0, 0)
  | _ => (99, 0, 0, 0, 0)
def zc_X6_sheet : Nat → zE := fun pc => match pc with
  | 0 => (1, 1, 1, 0, 0)
  | 1 => (1, 2, 2, 0, 0)
  | 2 => (28, 5, 119, 2, 0)
  | 5 => (16, 8, 0, 14, 0)
  | 8 => (1, 9, 3, 0, 0)
  | 9 => (0, 11, 0, 0, 48)
  | 11 => (17, 14, 5, 16, 0)
  | 14 => (0, 15, 0, 0, (-1))
  | 15 => (34, 16, 0, 0, 0)
  | 16 => (1, 17, 3, 0, 0)
  | 17 => (16, 20, 3, 23, 0)
  | 20 => (0, 22, 0, 0, (-14))
  | 22 => (34, 23, 0, 0, 0)
  | 23 => (2, 24, 0, 0, 0)
  | 24 => (20, 27, 6, 5, 0)
  | 27 => (1, 28, 1, 0, 0)
  | 28 => (1, 29, 3, 0, 0)
  | 29 => (24, 30, 0, 0, 0)
  | 30 => (2, 31, 0, 0, 0)
  | 31 => (20, 34, 6, 6, 0)
  | 34 => (1, 35, 1, 0, 0)
  | 35 => (1, 36, 2, 0, 0)
  | 36 => (24, 37, 0, 0, 0)
  | 37 => (0, 38, 0, 0, 0)
  | 38 => (4, 40, 4, 0, 0)
  | 40 => (1, 42, 4, 0, 0)
  | 42 => (0, 44, 0, 0, 48)
  | 44 => (17, 47, 3, 66, 0)
  | 47 => (2, 48, 0, 0, 0)
  | 48 => (20, 51, 6, 7, 0)
  | 51 => (0, 53, 0, 0, 48)
  | 53 => (1, 54, 1, 0, 0)
  | 54 => (8, 55, 2, 0, 0)
  | 55 => (1, 57, 4, 0, 0)
  | 57 => (8, 58, 0, 0, 0)
  | 58 => (0, 59, 0, 0, 0)
  | 59 => (24, 60, 0, 0, 0)
  | 60 => (7, 63, 4, 0, 1)
  | 63 => (19, 66, 0, 40, 0)
  | 66 => (1, 67, 3, 0, 0)
  | 67 => (34, 68, 0, 0, 0)
  | _ => (99, 0, 0, 0, 0)
def zc_X6_drop : Nat → zE := fun pc => match pc with
  | 0 => (1, 1, 1, 0, 0)
  | 1 => (13, 2, 0, 0, 0)
  | 2 => (15, 3, 0, 0, 0)
  | 3 => (15, 6, 70, 0, 3)
  | 6 => (28, 9, 77, 3, 0)
  | 9 => (16, 12, 1, 14, 0)
  | 12 => (0, 13, 0, 0, (-1))
  | 13 => (34, 14, 0, 0, 0)
  | 14 => (2, 15, 0, 0, 0)
  | 15 => (20, 18, 6, 5, 0)
  | 18 => (1, 19, 1, 0, 0)
  | 19 => (23, 20, 0, 0, 0)
  | 20 => (16, 23, 3, 26, 0)
  | 23 => (0, 25, 0, 0, (-11))
  | 25 => (34, 26, 0, 0, 0)
  | 26 => (2, 27, 0, 0, 0)
  | 27 => (20, 30, 6, 5, 0)
  | 30 => (1, 31, 1, 0, 0)
  | 31 => (23, 32, 0, 0, 0)
  | 32 => (4, 33, 2, 0, 0)
  | 33 => (2, 34, 0, 0, 0)
  | 34 => (20, 37, 6, 5, 0)
  | 37 => (1, 38, 1, 0, 0)
  | 38 => (0, 39, 0, 0, (-1))
  | 39 => (24, 40, 0, 0, 0)
  | 40 => (1, 41, 2, 0, 0)
  | 41 => (34, 42, 0, 0, 0)
  | _ => (99, 0, 0, 0, 0)
def zc_X6_item : Nat → zE := fun pc => match pc with
  | 0 => (1, 1, 1, 0, 0)
  | 1 => (1, 2, 2, 0, 0)
  | 2 => (28, 5, 119, 2, 0)
  | 5 => (16, 8, 1, 10, 0)
  | 8 => (0, 9, 0, 0, (-1))
  | 9 => (34, 10, 0, 0, 0)
  | 10 => (2, 11, 0, 0, 0)
  | 11 => (1, 12, 1, 0, 0)
  | 12 => (1, 13, 2, 0, 0)
  | 13 => (1, 14, 3, 0, 0)
  | 14 => (0, 15, 0, 0, 1)
  | 15 => (28, 18, 120, 5, 0)
  | 18 => (4, 20, 5, 0, 0)
  | 20 => (1, 22, 5, 0, 0)
  | 22 => (16, 25, 3, 28, 0)
  | 25 => (1, 27, 5, 0, 0)
  | 27 => (34, 28, 0, 0, 0)
  | 28 => (2, 29, 0, 0, 0)
  | 29 => (20, 32, 6, 7, 0)
  | 32 => (0, 34, 0, 0, 48)
  | 34 => (1, 35, 1, 0, 0)
  | 35 => (8, 36, 2, 0, 0)
  | 36 => (1, 37, 3, 0, 0)
  | 37 => (8, 38, 0, 0, 0)
  | 38 => (1, 39, 2, 0, 0)
  | 39 => (16, 42, 1, 48, 0)
  | 42 => (1, 44, 4, 0, 0)
  | 44 => (13, 45, 2, 0, 0)
  | 45 => (19, 48, 0, 61, 0)
  | 48 => (1, 49, 2, 0, 0)
  | 49 => (0, 50, 0, 0, 1)
  | 50 => (17, 53, 1, 59, 0)
  | 53 => (1, 55, 4, 0, 0)
  | 55 => (13, 56, 3, 0, 0)
  | 56 => (19, 59, 0, 61, 0)
  | 59 => (1, 61, 4, 0, 0)
  | 61 => (24, 62, 0, 0, 0)
  | 62 => (0, 63, 0, 0, 1)
  | 63 => (34, 64, 0, 0, 0)
  | _ => (99, 0, 0, 0, 0)
def zc_X6_copy : Nat → zE := fun pc => match pc with
  | 0 => (1, 1, 1, 0, 0)
  | 1 => (13, 2, 0, 0, 0)
  | 2 => (15, 3, 0, 0, 0)
  | 3 => (15, 6, 70, 0, 3)
  | 6 => (28, 9, 77, 3, 0)
  | 9 => (16, 12, 0, 24, 0)
  | 12 => (1, 13, 3, 0, 0)
  | 13 => (13, 14, 0, 0, 0)
  | 14 => (15, 15, 0, 0, 0)
  | 15 => (15, 18, 70, 0, 3)
  | 18 => (28, 21, 77, 3, 0)
  | 21 => (16, 24, 1, 26, 0)
  | 24 => (0, 25, 0, 0, (-1))
  | 25 => (34, 26, 0, 0, 0)
  | 26 => (2, 27, 0, 0, 0)
  | 27 => (20, 30, 6, 5, 0)
  | 30 => (1, 31, 1, 0, 0)
  | 31 => (23, 32, 0, 0, 0)
  | 32 => (16, 35, 2, 44, 0)
  | 35 => (2, 36, 0, 0, 0)
  | 36 => (20, 39, 6, 5, 0)
  | 39 => (1, 40, 3, 0, 0)
  | 40 => (23, 41, 0, 0, 0)
  | 41 => (16, 44, 3, 47, 0)
  | 44 => (0, 46, 0, 0, (-11))
  | 46 => (34, 47, 0, 0, 0)
  | 47 => (2, 48, 0, 0, 0)
  | 48 => (20, 51, 6, 6, 0)
  | 51 => (1, 52, 1, 0, 0)
  | 52 => (23, 53, 0, 0, 0)
  | 53 => (2, 54, 0, 0, 0)
  | 54 => (20, 57, 6, 6, 0)
  | 57 => (1, 58, 3, 0, 0)
  | 58 => (23, 59, 0, 0, 0)
  | 59 => (17, 62, 0, 65, 0)
  | 62 => (0, 64, 0, 0, (-12))
  | 64 => (34, 65, 0, 0, 0)
  | 65 => (1, 67, 5, 0, 0)
  | 67 => (16, 70, 2, 105, 0)
  | 70 => (2, 71, 0, 0, 0)
  | 71 => (1, 72, 1, 0, 0)
  | 72 => (2, 73, 0, 0, 0)
  | 73 => (20, 76, 6, 6, 0)
  | 76 => (1, 77, 1, 0, 0)
  | 77 => (23, 78, 0, 0, 0)
  | 78 => (1, 79, 2, 0, 0)
  | 79 => (1, 81, 5, 0, 0)
  | 81 => (28, 84, 120, 5, 0)
  | 84 => (16, 87, 2, 105, 0)
  | 87 => (2, 88, 0, 0, 0)
  | 88 => (1, 89, 3, 0, 0)
  | 89 => (2, 90, 0, 0, 0)
  | 90 => (20, 93, 6, 6, 0)
  | 93 => (1, 94, 3, 0, 0)
  | 94 => (23, 95, 0, 0, 0)
  | 95 => (1, 97, 4, 0, 0)
  | 97 => (1, 99, 5, 0, 0)
  | 99 => (28, 102, 120, 5, 0)
  | 102 => (16, 105, 3, 108, 0)
  | 105 => (0, 107, 0, 0, (-13))
  | 107 => (34, 108, 0, 0, 0)
  | 108 => (0, 109, 0, 0, 0)
  | 109 => (4, 111, 6, 0, 0)
  | 111 => (1, 113, 6, 0, 0)
  | 113 => (1, 115, 5, 0, 0)
  | 115 => (17, 118, 3, 173, 0)
  | 118 => (1, 120, 4, 0, 0)
  | 120 => (1, 121, 2, 0, 0)
  | 121 => (17, 124, 5, 134, 0)
  | 124 => (1, 126, 5, 0, 0)
  | 126 => (0, 127, 0, 0, 1)
  | 127 => (8, 128, 1, 0, 0)
  | 128 => (1, 130, 6, 0, 0)
  | 130 => (8, 131, 1, 0, 0)
  | 131 => (19, 134, 0, 136, 0)
  | 134 => (1, 136, 6, 0, 0)
  | 136 => (4, 138, 7, 0, 0)
  | 138 => (2, 139, 0, 0, 0)
  | 139 => (20, 142, 6, 7, 0)
  | 142 => (0, 144, 0, 0, 48)
  | 144 => (1, 145, 3, 0, 0)
  | 145 => (8, 146, 2, 0, 0)
  | 146 => (1, 148, 4, 0, 0)
  | 148 => (8, 149, 0, 0, 0)
  | 149 => (1, 151, 7, 0, 0)
  | 151 => (8, 152, 0, 0, 0)
  | 152 => (2, 153, 0, 0, 0)
  | 153 => (20, 156, 6, 7, 0)
  | 156 => (0, 158, 0, 0, 48)
  | 158 => (1, 159, 1, 0, 0)
  | 159 => (8, 160, 2, 0, 0)
  | 160 => (1, 161, 2, 0, 0)
  | 161 => (8, 162, 0, 0, 0)
  | 162 => (1, 164, 7, 0, 0)
  | 164 => (8, 165, 0, 0, 0)
  | 165 => (23, 166, 0, 0, 0)
  | 166 => (24, 167, 0, 0, 0)
  | 167 => (7, 170, 6, 0, 1)
  | 170 => (19, 173, 0, 111, 0)
  | 173 => (1, 175, 5, 0, 0)
  | 175 => (34, 176, 0, 0, 0)
  | _ => (99, 0, 0, 0, 0)
def zc_J0_length_8abf5 : Nat → zE := fun pc => match pc with
  | 0 => (2, 1, 0, 0, 0)
  | 1 => (43, 4, 9, 0, 0)
  | 4 => (27, 5, 0, 0, 0)
  | 5 => (2, 6, 0, 0, 0)
  | 6 => (28, 9, 132, 1, 0)
  | 9 => (8, 10, 6, 0, 0)
  | 10 => (34, 11, 0, 0, 0)
  | _ => (99, 0, 0, 0, 0)
def zc_J0_indexOf_0f7a4 : Nat → zE := fun pc => match pc with
  | 0 => (2, 1, 0, 0, 0)
  | 1 => (1, 2, 1, 0, 0)
  | 2 => (0, 3, 0, 0, 0)
  | 3 => (28, 6, 131, 3, 0)
  | 6 => (34, 7, 0, 0, 0)
  | _ => (99, 0, 0, 0, 0)
def zc_J0_indexOf_7cf53 : Nat → zE := fun pc => match pc with
  | 0 => (2, 1, 0, 0, 0)
  | 1 => (28, 4, 133, 1, 0)
  | 4 => (16, 7, 0, 23, 0)
  | 7 => (2, 8, 0, 0, 0)
  | 8 => (43, 11, 9, 0, 0)
  | 11 => (1, 12, 1, 0, 0)
  | 12 => (1, 13, 2, 0, 0)
  | 13 => (2, 14, 0, 0, 0)
  | 14 => (28, 17, 129, 1, 0)
  | 17 => (28, 20, 135, 4, 0)
  | 20 => (19, 23, 0, 36, 0)
  | 23 => (2, 24, 0, 0, 0)
  | 24 => (43, 27, 9, 0, 0)
  | 27 => (1, 28, 1, 0, 0)
  | 28 => (1, 29, 2, 0, 0)
  | 29 => (2, 30, 0, 0, 0)
  | 30 => (28, 33, 129, 1, 0)
  | 36 => (34, 37, 0, 0, 0)
  | _ => (99, 0, 0, 0, 0)
def zc_J0_coder_7d493 : Nat → zE := fun pc => match pc with
  | 0 => (46, 3, 0, 0, 0)
  | 3 => (16, 6, 0, 13, 0)
  | 6 => (2, 7, 0, 0, 0)
  | 7 => (43, 10, 15, 0, 0)
  | 10 => (19, 13, 0, 14, 0)
  | 13 => (0, 14, 0, 0, 1)
  | 14 => (36, 15, 0, 0, 0)
  | _ => (99, 0, 0, 0, 0)
def zc_J0_isLatin1_aae02 : Nat → zE := fun pc => match pc with
  | 0 => (46, 3, 0, 0, 0)
  | 3 => (16, 6, 0, 17, 0)
  | 6 => (2, 7, 0, 0, 0)
  | 7 => (43, 10, 15, 0, 0)
  | 10 => (16, 13, 1, 17, 0)
  | 13 => (0, 14, 0, 0, 1)
  | 14 => (19, 17, 0, 18, 0)
  | 17 => (0, 18, 0, 0, 0)
  | 18 => (35, 19, 0, 0, 0)
  | _ => (99, 0, 0, 0, 0)
def zc_J1_canEncode_9a6ad : Nat → zE := fun pc => match pc with
  | 0 => (1, 1, 0, 0, 0)
  | 1 => (16, 4, 2, 15, 0)
  | 4 => (1, 5, 0, 0, 0)
  | 5 => (0, 8, 0, 0, 255)
  | 8 => (17, 11, 4, 15, 0)
  | 11 => (0, 12, 0, 0, 1)
  | 12 => (19, 15, 0, 16, 0)
  | 15 => (0, 16, 0, 0, 0)
  | 16 => (35, 17, 0, 0, 0)
  | _ => (99, 0, 0, 0, 0)
def zc_J1_indexOf_4cfef : Nat → zE := fun pc => match pc with
  | 0 => (1, 1, 1, 0, 0)
  | 1 => (28, 4, 134, 1, 0)
  | 4 => (16, 7, 1, 9, 0)
  | 7 => (0, 8, 0, 0, (-1))
  | 8 => (34, 9, 0, 0, 0)
  | 9 => (1, 10, 2, 0, 0)
  | 10 => (0, 11, 0, 0, 0)
  | 11 => (28, 14, 138, 2, 0)
  | 14 => (4, 15, 2, 0, 0)
  | 15 => (1, 16, 3, 0, 0)
  | 16 => (2, 17, 0, 0, 0)
  | 17 => (27, 18, 0, 0, 0)
  | 18 => (28, 21, 139, 2, 0)
  | 21 => (4, 22, 3, 0, 0)
  | 22 => (1, 23, 2, 0, 0)
  | 23 => (1, 24, 3, 0, 0)
  | 24 => (17, 27, 2, 29, 0)
  | 27 => (0, 28, 0, 0, (-1))
  | 28 => (34, 29, 0, 0, 0)
  | 29 => (2, 30, 0, 0, 0)
  | 30 => (1, 31, 1, 0, 0)
  | 31 => (1, 32, 2, 0, 0)
  | 32 => (1, 33, 3, 0, 0)
  | 33 => (28, 36, 136, 4, 0)
  | 36 => (34, 37, 0, 0, 0)
  | _ => (99, 0, 0, 0, 0)
def zc_J1_indexOfChar_4cfef : Nat → zE := fun pc => match pc with
  | 0 => (1, 1, 1, 0, 0)
  | 1 => (13, 2, 2, 0, 0)
  | 2 => (4, 4, 4, 0, 0)
  | 4 => (1, 5, 2, 0, 0)
  | 5 => (4, 7, 5, 0, 0)
  | 7 => (1, 9, 5, 0, 0)
  | 9 => (1, 10, 3, 0, 0)
  | 10 => (17, 13, 3, 31, 0)
  | 13 => (2, 14, 0, 0, 0)
  | 14 => (1, 16, 5, 0, 0)
  | 16 => (41, 17, 0, 0, 0)
  | 17 => (1, 19, 4, 0, 0)
  | 19 => (17, 22, 1, 25, 0)
  | 22 => (1, 24, 5, 0, 0)
  | 24 => (34, 25, 0, 0, 0)
  | 25 => (7, 28, 5, 0, 1)
  | 28 => (19, 31, 0, 7, 0)
  | 31 => (0, 32, 0, 0, (-1))
  | 32 => (34, 33, 0, 0, 0)
  | _ => (99, 0, 0, 0, 0)
def zc_J6_bitCount_0f7a4 : Nat → zE := fun pc => match pc with
  | 0 => (1, 1, 0, 0, 0)
  | 1 => (1, 2, 0, 0, 0)
  | 2 => (0, 3, 0, 0, 1)
  | 3 => (8, 4, 7, 0, 0)
  | 4 => (0, 7, 265, 0, 1431655765)
  | 7 => (8, 8, 3, 0, 0)
  | 8 => (8, 9, 1, 0, 0)
  | 9 => (4, 10, 0, 0, 0)
  | 10 => (1, 11, 0, 0, 0)
  | 11 => (0, 14, 266, 0, 858993459)
  | 14 => (8, 15, 3, 0, 0)
  | 15 => (1, 16, 0, 0, 0)
  | 16 => (0, 17, 0, 0, 2)
  | 17 => (8, 18, 7, 0, 0)
  | 18 => (0, 21, 266, 0, 858993459)
  | 21 => (8, 22, 3, 0, 0)
  | 22 => (8, 23, 0, 0, 0)
  | 23 => (4, 24, 0, 0, 0)
  | 24 => (1, 25, 0, 0, 0)
  | 25 => (1, 26, 0, 0, 0)
  | 26 => (0, 27, 0, 0, 4)
  | 27 => (8, 28, 7, 0, 0)
  | 28 => (8, 29, 0, 0, 0)
  | 29 => (0, 32, 267, 0, 252645135)
  | 32 => (8, 33, 3, 0, 0)
  | 33 => (4, 34, 0, 0, 0)
  | 34 => (1, 35, 0, 0, 0)
  | 35 => (1, 36, 0, 0, 0)
  | 36 => (0, 38, 0, 0, 8)
  | 38 => (8, 39, 7, 0, 0)
  | 39 => (8, 40, 0, 0, 0)
  | 40 => (4, 41, 0, 0, 0)
  | 41 => (1, 42, 0, 0, 0)
  | 42 => (1, 43, 0, 0, 0)
  | 43 => (0, 45, 0, 0, 16)
  | 45 => (8, 46, 7, 0, 0)
  | 46 => (8, 47, 0, 0, 0)
  | 47 => (4, 48, 0, 0, 0)
  | 48 => (1, 49, 0, 0, 0)
  | 49 => (0, 51, 0, 0, 63)
  | 51 => (8, 52, 3, 0, 0)
  | 52 => (34, 53, 0, 0, 0)
  | _ => (99, 0, 0, 0, 0)
def zc_J9_max_7cf53 : Nat → zE := fun pc => match pc with
  | 0 => (1, 1, 0, 0, 0)
  | 1 => (1, 2, 1, 0, 0)
  | 2 => (17, 5, 2, 9, 0)
  | 5 => (1, 6, 0, 0, 0)
  | 6 => (19, 9, 0, 10, 0)
  | 9 => (1, 10, 1, 0, 0)
  | 10 => (34, 11, 0, 0, 0)
  | _ => (99, 0, 0, 0, 0)
def zc_J9_min_7cf53 : Nat → zE := fun pc => match pc with
  | 0 => (1, 1, 0, 0, 0)
  | 1 => (1, 2, 1, 0, 0)
  | 2 => (17, 5, 4, 9, 0)
  | 5 => (1, 6, 0, 0, 0)
  | 6 => (19, 9, 0, 10, 0)
  | 9 => (1, 10, 1, 0, 0)
  | 10 => (34, 11, 0, 0, 0)
  | _ => (99, 0, 0, 0, 0)
def zc_L_law : Nat → zE := fun pc => match pc with
  | 3 => (30, 4, 0, 0, 0)
  | 7 => (5, 8, 1, 0, 0)
  | 11 => (30, 12, 0, 0, 0)
  | 15 => (5, 16, 2, 0, 0)
  | 16 => (0, 17, 0, 0, 0)
  | 17 => (4, 18, 3, 0, 0)
  | 18 => (1, 19, 3, 0, 0)
  | 19 => (2, 20, 0, 0, 0)
  | 20 => (47, 21, 0, 0, 0)
  | 21 => (0, 23, 0, 0, 6)
  | 23 => (8, 24, 1, 0, 0)
  | 24 => (17, 27, 4, 1212, 0)
  | 27 => (2, 28, 0, 0, 0)
  | 28 => (1, 29, 3, 0, 0)
  | 29 => (44, 30, 0, 0, 0)
  | 30 => (0, 32, 0, 0, 63)
  | 32 => (8, 33, 3, 0, 0)
  | 33 => (42, 184, 1206, 0, 0)
  | 184 => (2, 185, 1, 0, 0)
  | 185 => (2, 186, 0, 0, 0)
  | 186 => (1, 187, 3, 0, 0)
  | 187 => (0, 188, 0, 0, 1)
  | 188 => (8, 189, 0, 0, 0)
  | 189 => (44, 190, 0, 0, 0)
  | 190 => (28, 193, 27, 2, 0)
  | 193 => (2, 194, 2, 0, 0)
  | 194 => (2, 195, 0, 0, 0)
  | 195 => (1, 196, 3, 0, 0)
  | 196 => (0, 197, 0, 0, 1)
  | 197 => (8, 198, 0, 0, 0)
  | 198 => (44, 199, 0, 0, 0)
  | 199 => (28, 202, 87, 2, 0)
  | 202 => (17, 205, 0, 1206, 0)
  | 205 => (0, 206, 0, 0, 0)
  | 206 => (35, 207, 0, 0, 0)
  | 207 => (2, 208, 1, 0, 0)
  | 208 => (2, 209, 0, 0, 0)
  | 209 => (1, 210, 3, 0, 0)
  | 210 => (0, 211, 0, 0, 1)
  | 211 => (8, 212, 0, 0, 0)
  | 212 => (44, 213, 0, 0, 0)
  | 213 => (2, 214, 0, 0, 0)
  | 214 => (1, 215, 3, 0, 0)
  | 215 => (0, 216, 0, 0, 2)
  | 216 => (8, 217, 0, 0, 0)
  | 217 => (44, 218, 0, 0, 0)
  | 218 => (28, 221, 28, 3, 0)
  | 221 => (2, 222, 2, 0, 0)
  | 222 => (2, 223, 0, 0, 0)
  | 223 => (1, 224, 3, 0, 0)
  | 224 => (0, 225, 0, 0, 1)
  | 225 => (8, 226, 0, 0, 0)
  | 226 => (44, 227, 0, 0, 0)
  | 227 => (2, 228, 0, 0, 0)
  | 228 => (1, 229, 3, 0, 0)
  | 229 => (0, 230, 0, 0, 2)
  | 230 => (8, 231, 0, 0, 0)
  | 231 => (44, 232, 0, 0, 0)
  | 232 => (28, 235, 88, 3, 0)
  | 235 => (17, 238, 0, 1206, 0)
  | 238 => (0, 239, 0, 0, 0)
  | 239 => (35, 240, 0, 0, 0)
  | 240 => (2, 241, 1, 0, 0)
  | 241 => (2, 242, 0, 0, 0)
  | 242 => (1, 243, 3, 0, 0)
  | 243 => (0, 244, 0, 0, 1)
  | 244 => (8, 245, 0, 0, 0)
  | 245 => (44, 246, 0, 0, 0)
  | 246 => (2, 247, 0, 0, 0)
  | 247 => (1, 248, 3, 0, 0)
  | 248 => (0, 249, 0, 0, 2)
  | 249 => (8, 250, 0, 0, 0)
  | 250 => (44, 251, 0, 0, 0)
  | 251 => (28, 254, 29, 3, 0)
  | 254 => (2, 255, 2, 0, 0)
  | 255 => (2, 256, 0, 0, 0)
  | 256 => (1, 257, 3, 0, 0)
  | 257 => (0, 258, 0, 0, 1)
  | 258 => (8, 259, 0, 0, 0)
  | 259 => (44, 260, 0, 0, 0)
  | 260 => (2, 261, 0, 0, 0)
  | 261 => (1, 262, 3, 0, 0)
  | 262 => (0, 263, 0, 0, 2)
  | 263 => (8, 264, 0, 0, 0)
  | 264 => (44, 265, 0, 0, 0)
  | 265 => (28, 268, 89, 3, 0)
  | 268 => (17, 271, 0, 1206, 0)
  | 271 => (0, 272, 0, 0, 0)
  | 272 => (35, 273, 0, 0, 0)
  | 273 => (2, 274, 1, 0, 0)
  | 274 => (2, 275, 0, 0, 0)
  | 275 => (1, 276, 3, 0, 0)
  | 276 => (0, 277, 0, 0, 1)
  | 277 => (8, 278, 0, 0, 0)
  | 278 => (44, 279, 0, 0, 0)
  | 279 => (28, 282, 30, 2, 0)
  | 282 => (2, 283, 2, 0, 0)
  | 283 => (2, 284, 0, 0, 0)
  | 284 => (1, 285, 3, 0, 0)
  | 285 => (0, 286, 0, 0, 1)
  | 286 => (8, 287, 0, 0, 0)
  | 287 => (44, 288, 0, 0, 0)
  | 288 => (28, 291, 90, 2, 0)
  | 291 => (17, 294, 0, 1206, 0)
  | 294 => (0, 295, 0, 0, 0)
  | 295 => (35, 296, 0, 0, 0)
  | 296 => (2, 297, 1, 0, 0)
  | 297 => (2, 298, 0, 0, 0)
  | 298 => (1, 299, 3, 0, 0)
  | 299 => (0, 300, 0, 0, 1)
  | 300 => (8, 301, 0, 0, 0)
  | 301 => (44, 302, 0, 0, 0)
  | 302 => (28, 305, 31, 2, 0)
  | 305 => (2, 306, 2, 0, 0)
  | 306 => (2, 307, 0, 0, 0)
  | 307 => (1, 308, 3, 0, 0)
  | 308 => (0, 309, 0, 0, 1)
  | 309 => (8, 310, 0, 0, 0)
  | 310 => (44, 311, 0, 0, 0)
  | 311 => (28, 314, 91, 2, 0)
  | 314 => (17, 317, 0, 1206, 0)
  | 317 => (0, 318, 0, 0, 0)
  | 318 => (35, 319, 0, 0, 0)
  | 319 => (2, 320, 1, 0, 0)
  | 320 => (2, 321, 0, 0, 0)
  | 321 => (1, 322, 3, 0, 0)
  | 322 => (0, 323, 0, 0, 1)
  | 323 => (8, 324, 0, 0, 0)
  | 324 => (44, 325, 0, 0, 0)
  | 325 => (28, 328, 32, 2, 0)
  | 328 => (2, 329, 2, 0, 0)
  | 329 => (2, 330, 0, 0, 0)
  | 330 => (1, 331, 3, 0, 0)
  | 331 => (0, 332, 0, 0, 1)
  | 332 => (8, 333, 0, 0, 0)
  | 333 => (44, 334, 0, 0, 0)
  | 334 => (28, 337, 92, 2, 0)
  | 337 => (17, 340, 0, 1206, 0)
  | 340 => (0, 341, 0, 0, 0)
  | 341 => (35, 342, 0, 0, 0)
  | 342 => (2, 343, 1, 0, 0)
  | 343 => (2, 344, 0, 0, 0)
  | 344 => (1, 345, 3, 0, 0)
  | 345 => (0, 346, 0, 0, 1)
  | 346 => (8, 347, 0, 0, 0)
  | 347 => (44, 348, 0, 0, 0)
  | 348 => (13, 349, 0, 0, 0)
  | 349 => (0, 351, 0, 0, 32)
  | 351 => (12, 352, 0, 0, 0)
  | 352 => (2, 353, 0, 0, 0)
  | 353 => (1, 354, 3, 0, 0)
  | 354 => (0, 355, 0, 0, 2)
  | 355 => (8, 356, 0, 0, 0)
  | 356 => (44, 357, 0, 0, 0)
  | 357 => (13, 358, 0, 0, 0)
  | 358 => (15, 361, 39, 0, 4294967295)
  | 361 => (11, 362, 2, 0, 0)
  | 362 => (11, 363, 3, 0, 0)
  | 363 => (2, 364, 0, 0, 0)
  | 364 => (1, 365, 3, 0, 0)
  | 365 => (0, 366, 0, 0, 3)
  | 366 => (8, 367, 0, 0, 0)
  | 367 => (44, 368, 0, 0, 0)
  | 368 => (28, 371, 33, 3, 0)
  | 371 => (2, 372, 2, 0, 0)
  | 372 => (2, 373, 0, 0, 0)
  | 373 => (1, 374, 3, 0, 0)
  | 374 => (0, 375, 0, 0, 1)
  | 375 => (8, 376, 0, 0, 0)
  | 376 => (44, 377, 0, 0, 0)
  | 377 => (13, 378, 0, 0, 0)
  | 378 => (0, 380, 0, 0, 32)
  | 380 => (12, 381, 0, 0, 0)
  | 381 => (2, 382, 0, 0, 0)
  | 382 => (1, 383, 3, 0, 0)
  | 383 => (0, 384, 0, 0, 2)
  | 384 => (8, 385, 0, 0, 0)
  | 385 => (44, 386, 0, 0, 0)
  | 386 => (13, 387, 0, 0, 0)
  | 387 => (15, 390, 39, 0, 4294967295)
  | 390 => (11, 391, 2, 0, 0)
  | 391 => (11, 392, 3, 0, 0)
  | 392 => (2, 393, 0, 0, 0)
  | 393 => (1, 394, 3, 0, 0)
  | 394 => (0, 395, 0, 0, 3)
  | 395 => (8, 396, 0, 0, 0)
  | 396 => (44, 397, 0, 0, 0)
  | 397 => (28, 400, 93, 3, 0)
  | 400 => (17, 403, 0, 1206, 0)
  | 403 => (0, 404, 0, 0, 0)
  | 404 => (35, 405, 0, 0, 0)
  | 405 => (2, 406, 1, 0, 0)
  | 406 => (28, 409, 35, 1, 0)
  | 409 => (2, 410, 2, 0, 0)
  | 410 => (28, 413, 95, 1, 0)
  | 413 => (17, 416, 0, 1206, 0)
  | 416 => (0, 417, 0, 0, 0)
  | 417 => (35, 418, 0, 0, 0)
  | 418 => (2, 419, 1, 0, 0)
  | 419 => (2, 420, 0, 0, 0)
  | 420 => (1, 421, 3, 0, 0)
  | 421 => (0, 422, 0, 0, 1)
  | 422 => (8, 423, 0, 0, 0)
  | 423 => (44, 424, 0, 0, 0)
  | 424 => (28, 427, 37, 2, 0)
  | 427 => (2, 428, 2, 0, 0)
  | 428 => (2, 429, 0, 0, 0)
  | 429 => (1, 430, 3, 0, 0)
  | 430 => (0, 431, 0, 0, 1)
  | 431 => (8, 432, 0, 0, 0)
  | 432 => (44, 433, 0, 0, 0)
  | 433 => (28, 436, 96, 2, 0)
  | 436 => (17, 439, 0, 1206, 0)
  | 439 => (0, 440, 0, 0, 0)
  | 440 => (35, 441, 0, 0, 0)
  | 441 => (2, 442, 1, 0, 0)
  | 442 => (2, 443, 0, 0, 0)
  | 443 => (1, 444, 3, 0, 0)
  | 444 => (0, 445, 0, 0, 1)
  | 445 => (8, 446, 0, 0, 0)
  | 446 => (44, 447, 0, 0, 0)
  | 447 => (28, 450, 38, 2, 0)
  | 450 => (2, 451, 2, 0, 0)
  | 451 => (2, 452, 0, 0, 0)
  | 452 => (1, 453, 3, 0, 0)
  | 453 => (0, 454, 0, 0, 1)
  | 454 => (8, 455, 0, 0, 0)
  | 455 => (44, 456, 0, 0, 0)
  | 456 => (28, 459, 97, 2, 0)
  | 459 => (17, 462, 0, 1206, 0)
  | 462 => (0, 463, 0, 0, 0)
  | 463 => (35, 464, 0, 0, 0)
  | 464 => (2, 465, 1, 0, 0)
  | 465 => (28, 468, 39, 1, 0)
  | 468 => (2, 469, 2, 0, 0)
  | 469 => (28, 472, 98, 1, 0)
  | 472 => (17, 475, 0, 1206, 0)
  | 475 => (0, 476, 0, 0, 0)
  | 476 => (35, 477, 0, 0, 0)
  | 477 => (2, 478, 1, 0, 0)
  | 478 => (2, 479, 0, 0, 0)
  | 479 => (1, 480, 3, 0, 0)
  | 480 => (0, 481, 0, 0, 1)
  | 481 => (8, 482, 0, 0, 0)
  | 482 => (44, 483, 0, 0, 0)
  | 483 => (28, 486, 41, 2, 0)
  | 486 => (2, 487, 2, 0, 0)
  | 487 => (2, 488, 0, 0, 0)
  | 488 => (1, 489, 3, 0, 0)
  | 489 => (0, 490, 0, 0, 1)
  | 490 => (8, 491, 0, 0, 0)
  | 491 => (44, 492, 0, 0, 0)
  | 492 => (28, 495, 99, 2, 0)
  | 495 => (17, 498, 0, 1206, 0)
  | 498 => (0, 499, 0, 0, 0)
  | 499 => (35, 500, 0, 0, 0)
  | 500 => (2, 501, 1, 0, 0)
  | 501 => (2, 502, 0, 0, 0)
  | 502 => (1, 503, 3, 0, 0)
  | 503 => (0, 504, 0, 0, 1)
  | 504 => (8, 505, 0, 0, 0)
  | 505 => (44, 506, 0, 0, 0)
  | 506 => (28, 509, 42, 2, 0)
  | 509 => (2, 510, 2, 0, 0)
  | 510 => (2, 511, 0, 0, 0)
  | 511 => (1, 512, 3, 0, 0)
  | 512 => (0, 513, 0, 0, 1)
  | 513 => (8, 514, 0, 0, 0)
  | 514 => (44, 515, 0, 0, 0)
  | 515 => (28, 518, 101, 2, 0)
  | 518 => (17, 521, 0, 1206, 0)
  | 521 => (0, 522, 0, 0, 0)
  | 522 => (35, 523, 0, 0, 0)
  | 523 => (2, 524, 1, 0, 0)
  | 524 => (2, 525, 0, 0, 0)
  | 525 => (1, 526, 3, 0, 0)
  | 526 => (0, 527, 0, 0, 1)
  | 527 => (8, 528, 0, 0, 0)
  | 528 => (44, 529, 0, 0, 0)
  | 529 => (2, 530, 0, 0, 0)
  | 530 => (1, 531, 3, 0, 0)
  | 531 => (0, 532, 0, 0, 2)
  | 532 => (8, 533, 0, 0, 0)
  | 533 => (44, 534, 0, 0, 0)
  | 534 => (28, 537, 43, 3, 0)
  | 537 => (2, 538, 2, 0, 0)
  | 538 => (2, 539, 0, 0, 0)
  | 539 => (1, 540, 3, 0, 0)
  | 540 => (0, 541, 0, 0, 1)
  | 541 => (8, 542, 0, 0, 0)
  | 542 => (44, 543, 0, 0, 0)
  | 543 => (2, 544, 0, 0, 0)
  | 544 => (1, 545, 3, 0, 0)
  | 545 => (0, 546, 0, 0, 2)
  | 546 => (8, 547, 0, 0, 0)
  | 547 => (44, 548, 0, 0, 0)
  | 548 => (28, 551, 102, 3, 0)
  | 551 => (17, 554, 0, 1206, 0)
  | 554 => (0, 555, 0, 0, 0)
  | 555 => (35, 556, 0, 0, 0)
  | 556 => (2, 557, 1, 0, 0)
  | 557 => (2, 558, 0, 0, 0)
  | 558 => (1, 559, 3, 0, 0)
  | 559 => (0, 560, 0, 0, 1)
  | 560 => (8, 561, 0, 0, 0)
  | 561 => (44, 562, 0, 0, 0)
  | 562 => (28, 565, 46, 2, 0)
  | 565 => (2, 566, 2, 0, 0)
  | 566 => (2, 567, 0, 0, 0)
  | 567 => (1, 568, 3, 0, 0)
  | 568 => (0, 569, 0, 0, 1)
  | 569 => (8, 570, 0, 0, 0)
  | 570 => (44, 571, 0, 0, 0)
  | 571 => (28, 574, 103, 2, 0)
  | 574 => (17, 577, 0, 1206, 0)
  | 577 => (0, 578, 0, 0, 0)
  | 578 => (35, 579, 0, 0, 0)
  | 579 => (2, 580, 1, 0, 0)
  | 580 => (2, 581, 0, 0, 0)
  | 581 => (1, 582, 3, 0, 0)
  | 582 => (0, 583, 0, 0, 1)
  | 583 => (8, 584, 0, 0, 0)
  | 584 => (44, 585, 0, 0, 0)
  | 585 => (28, 588, 47, 2, 0)
  | 588 => (2, 589, 2, 0, 0)
  | 589 => (2, 590, 0, 0, 0)
  | 590 => (1, 591, 3, 0, 0)
  | 591 => (0, 592, 0, 0, 1)
  | 592 => (8, 593, 0, 0, 0)
  | 593 => (44, 594, 0, 0, 0)
  | 594 => (28, 597, 105, 2, 0)
  | 597 => (17, 600, 0, 1206, 0)
  | 600 => (0, 601, 0, 0, 0)
  | 601 => (35, 602, 0, 0, 0)
  | 602 => (2, 603, 1, 0, 0)
  | 603 => (2, 604, 0, 0, 0)
  | 604 => (1, 605, 3, 0, 0)
  | 605 => (0, 606, 0, 0, 1)
  | 606 => (8, 607, 0, 0, 0)
  | 607 => (44, 608, 0, 0, 0)
  | 608 => (28, 611, 48, 2, 0)
  | 611 => (2, 612, 2, 0, 0)
  | 612 => (2, 613, 0, 0, 0)
  | 613 => (1, 614, 3, 0, 0)
  | 614 => (0, 615, 0, 0, 1)
  | 615 => (8, 616, 0, 0, 0)
  | 616 => (44, 617, 0, 0, 0)
  | 617 => (28, 620, 107, 2, 0)
  | 620 => (17, 623, 0, 1206, 0)
  | 623 => (0, 624, 0, 0, 0)
  | 624 => (35, 625, 0, 0, 0)
  | 625 => (2, 626, 1, 0, 0)
  | 626 => (2, 627, 0, 0, 0)
  | 627 => (1, 628, 3, 0, 0)
  | 628 => (0, 629, 0, 0, 1)
  | 629 => (8, 630, 0, 0, 0)
  | 630 => (44, 631, 0, 0, 0)
  | 631 => (2, 632, 0, 0, 0)
  | 632 => (1, 633, 3, 0, 0)
  | 633 => (0, 634, 0, 0, 2)
  | 634 => (8, 635, 0, 0, 0)
  | 635 => (44, 636, 0, 0, 0)
  | 636 => (28, 639, 50, 3, 0)
  | 639 => (2, 640, 2, 0, 0)
  | 640 => (2, 641, 0, 0, 0)
  | 641 => (1, 642, 3, 0, 0)
  | 642 => (0, 643, 0, 0, 1)
  | 643 => (8, 644, 0, 0, 0)
  | 644 => (44, 645, 0, 0, 0)
  | 645 => (2, 646, 0, 0, 0)
  | 646 => (1, 647, 3, 0, 0)
  | 647 => (0, 648, 0, 0, 2)
  | 648 => (8, 649, 0, 0, 0)
  | 649 => (44, 650, 0, 0, 0)
  | 650 => (28, 653, 108, 3, 0)
  | 653 => (17, 656, 0, 1206, 0)
  | 656 => (0, 657, 0, 0, 0)
  | 657 => (35, 658, 0, 0, 0)
  | 658 => (2, 659, 1, 0, 0)
  | 659 => (2, 660, 0, 0, 0)
  | 660 => (1, 661, 3, 0, 0)
  | 661 => (0, 662, 0, 0, 1)
  | 662 => (8, 663, 0, 0, 0)
  | 663 => (44, 664, 0, 0, 0)
  | 664 => (2, 665, 0, 0, 0)
  | 665 => (1, 666, 3, 0, 0)
  | 666 => (0, 667, 0, 0, 2)
  | 667 => (8, 668, 0, 0, 0)
  | 668 => (44, 669, 0, 0, 0)
  | 669 => (28, 672, 52, 3, 0)
  | 672 => (2, 673, 2, 0, 0)
  | 673 => (2, 674, 0, 0, 0)
  | 674 => (1, 675, 3, 0, 0)
  | 675 => (0, 676, 0, 0, 1)
  | 676 => (8, 677, 0, 0, 0)
  | 677 => (44, 678, 0, 0, 0)
  | 678 => (2, 679, 0, 0, 0)
  | 679 => (1, 680, 3, 0, 0)
  | 680 => (0, 681, 0, 0, 2)
  | 681 => (8, 682, 0, 0, 0)
  | 682 => (44, 683, 0, 0, 0)
  | 683 => (28, 686, 109, 3, 0)
  | 686 => (17, 689, 0, 1206, 0)
  | 689 => (0, 690, 0, 0, 0)
  | 690 => (35, 691, 0, 0, 0)
  | 691 => (2, 692, 1, 0, 0)
  | 692 => (2, 693, 0, 0, 0)
  | 693 => (1, 694, 3, 0, 0)
  | 694 => (0, 695, 0, 0, 1)
  | 695 => (8, 696, 0, 0, 0)
  | 696 => (44, 697, 0, 0, 0)
  | 697 => (28, 700, 54, 2, 0)
  | 700 => (2, 701, 2, 0, 0)
  | 701 => (2, 702, 0, 0, 0)
  | 702 => (1, 703, 3, 0, 0)
  | 703 => (0, 704, 0, 0, 1)
  | 704 => (8, 705, 0, 0, 0)
  | 705 => (44, 706, 0, 0, 0)
  | 706 => (28, 709, 111, 2, 0)
  | 709 => (17, 712, 0, 1206, 0)
  | 712 => (0, 713, 0, 0, 0)
  | 713 => (35, 714, 0, 0, 0)
  | 714 => (2, 715, 1, 0, 0)
  | 715 => (2, 716, 0, 0, 0)
  | 716 => (1, 717, 3, 0, 0)
  | 717 => (0, 718, 0, 0, 1)
  | 718 => (8, 719, 0, 0, 0)
  | 719 => (44, 720, 0, 0, 0)
  | 720 => (28, 723, 57, 2, 0)
  | 723 => (2, 724, 2, 0, 0)
  | 724 => (2, 725, 0, 0, 0)
  | 725 => (1, 726, 3, 0, 0)
  | 726 => (0, 727, 0, 0, 1)
  | 727 => (8, 728, 0, 0, 0)
  | 728 => (44, 729, 0, 0, 0)
  | 729 => (28, 732, 112, 2, 0)
  | 732 => (17, 735, 0, 1206, 0)
  | 735 => (0, 736, 0, 0, 0)
  | 736 => (35, 737, 0, 0, 0)
  | 737 => (2, 738, 1, 0, 0)
  | 738 => (2, 739, 0, 0, 0)
  | 739 => (1, 740, 3, 0, 0)
  | 740 => (0, 741, 0, 0, 1)
  | 741 => (8, 742, 0, 0, 0)
  | 742 => (44, 743, 0, 0, 0)
  | 743 => (28, 746, 58, 2, 0)
  | 746 => (2, 747, 2, 0, 0)
  | 747 => (2, 748, 0, 0, 0)
  | 748 => (1, 749, 3, 0, 0)
  | 749 => (0, 750, 0, 0, 1)
  | 750 => (8, 751, 0, 0, 0)
  | 751 => (44, 752, 0, 0, 0)
  | 752 => (28, 755, 113, 2, 0)
  | 755 => (17, 758, 0, 1206, 0)
  | 758 => (0, 759, 0, 0, 0)
  | 759 => (35, 760, 0, 0, 0)
  | 760 => (2, 761, 1, 0, 0)
  | 761 => (2, 762, 0, 0, 0)
  | 762 => (1, 763, 3, 0, 0)
  | 763 => (0, 764, 0, 0, 1)
  | 764 => (8, 765, 0, 0, 0)
  | 765 => (44, 766, 0, 0, 0)
  | 766 => (2, 767, 0, 0, 0)
  | 767 => (1, 768, 3, 0, 0)
  | 768 => (0, 769, 0, 0, 2)
  | 769 => (8, 770, 0, 0, 0)
  | 770 => (44, 771, 0, 0, 0)
  | 771 => (28, 774, 59, 3, 0)
  | 774 => (2, 775, 2, 0, 0)
  | 775 => (2, 776, 0, 0, 0)
  | 776 => (1, 777, 3, 0, 0)
  | 777 => (0, 778, 0, 0, 1)
  | 778 => (8, 779, 0, 0, 0)
  | 779 => (44, 780, 0, 0, 0)
  | 780 => (2, 781, 0, 0, 0)
  | 781 => (1, 782, 3, 0, 0)
  | 782 => (0, 783, 0, 0, 2)
  | 783 => (8, 784, 0, 0, 0)
  | 784 => (44, 785, 0, 0, 0)
  | 785 => (28, 788, 114, 3, 0)
  | 788 => (17, 791, 0, 1206, 0)
  | 791 => (0, 792, 0, 0, 0)
  | 792 => (35, 793, 0, 0, 0)
  | 793 => (2, 794, 1, 0, 0)
  | 794 => (2, 795, 0, 0, 0)
  | 795 => (1, 796, 3, 0, 0)
  | 796 => (0, 797, 0, 0, 1)
  | 797 => (8, 798, 0, 0, 0)
  | 798 => (44, 799, 0, 0, 0)
  | 799 => (28, 802, 60, 2, 0)
  | 802 => (2, 803, 2, 0, 0)
  | 803 => (2, 804, 0, 0, 0)
  | 804 => (1, 805, 3, 0, 0)
  | 805 => (0, 806, 0, 0, 1)
  | 806 => (8, 807, 0, 0, 0)
  | 807 => (44, 808, 0, 0, 0)
  | 808 => (28, 811, 115, 2, 0)
  | 811 => (17, 814, 0, 1206, 0)
  | 814 => (0, 815, 0, 0, 0)
  | 815 => (35, 816, 0, 0, 0)
  | 816 => (2, 817, 1, 0, 0)
  | 817 => (2, 818, 0, 0, 0)
  | 818 => (1, 819, 3, 0, 0)
  | 819 => (0, 820, 0, 0, 1)
  | 820 => (8, 821, 0, 0, 0)
  | 821 => (44, 822, 0, 0, 0)
  | 822 => (28, 825, 62, 2, 0)
  | 825 => (2, 826, 2, 0, 0)
  | 826 => (2, 827, 0, 0, 0)
  | 827 => (1, 828, 3, 0, 0)
  | 828 => (0, 829, 0, 0, 1)
  | 829 => (8, 830, 0, 0, 0)
  | 830 => (44, 831, 0, 0, 0)
  | 831 => (28, 834, 116, 2, 0)
  | 834 => (17, 837, 0, 1206, 0)
  | 837 => (0, 838, 0, 0, 0)
  | 838 => (35, 839, 0, 0, 0)
  | 839 => (2, 840, 1, 0, 0)
  | 840 => (28, 843, 63, 1, 0)
  | 843 => (2, 844, 2, 0, 0)
  | 844 => (28, 847, 117, 1, 0)
  | 847 => (17, 850, 0, 1206, 0)
  | 850 => (0, 851, 0, 0, 0)
  | 851 => (35, 852, 0, 0, 0)
  | 852 => (2, 853, 1, 0, 0)
  | 853 => (28, 856, 64, 1, 0)
  | 856 => (2, 857, 2, 0, 0)
  | 857 => (28, 860, 118, 1, 0)
  | 860 => (17, 863, 0, 1206, 0)
  | 863 => (0, 864, 0, 0, 0)
  | 864 => (35, 865, 0, 0, 0)
  | 865 => (2, 866, 1, 0, 0)
  | 866 => (2, 867, 0, 0, 0)
  | 867 => (1, 868, 3, 0, 0)
  | 868 => (0, 869, 0, 0, 1)
  | 869 => (8, 870, 0, 0, 0)
  | 870 => (44, 871, 0, 0, 0)
  | 871 => (2, 872, 0, 0, 0)
  | 872 => (1, 873, 3, 0, 0)
  | 873 => (0, 874, 0, 0, 2)
  | 874 => (8, 875, 0, 0, 0)
  | 875 => (44, 876, 0, 0, 0)
  | 876 => (2, 877, 0, 0, 0)
  | 877 => (1, 878, 3, 0, 0)
  | 878 => (0, 879, 0, 0, 3)
  | 879 => (8, 880, 0, 0, 0)
  | 880 => (44, 881, 0, 0, 0)
  | 881 => (2, 882, 0, 0, 0)
  | 882 => (1, 883, 3, 0, 0)
  | 883 => (0, 884, 0, 0, 4)
  | 884 => (8, 885, 0, 0, 0)
  | 885 => (44, 886, 0, 0, 0)
  | 886 => (2, 887, 0, 0, 0)
  | 887 => (1, 888, 3, 0, 0)
  | 888 => (0, 889, 0, 0, 5)
  | 889 => (8, 890, 0, 0, 0)
  | 890 => (44, 891, 0, 0, 0)
  | 891 => (28, 894, 65, 6, 0)
  | 894 => (2, 895, 2, 0, 0)
  | 895 => (2, 896, 0, 0, 0)
  | 896 => (1, 897, 3, 0, 0)
  | 897 => (0, 898, 0, 0, 1)
  | 898 => (8, 899, 0, 0, 0)
  | 899 => (44, 900, 0, 0, 0)
  | 900 => (2, 901, 0, 0, 0)
  | 901 => (1, 902, 3, 0, 0)
  | 902 => (0, 903, 0, 0, 2)
  | 903 => (8, 904, 0, 0, 0)
  | 904 => (44, 905, 0, 0, 0)
  | 905 => (2, 906, 0, 0, 0)
  | 906 => (1, 907, 3, 0, 0)
  | 907 => (0, 908, 0, 0, 3)
  | 908 => (8, 909, 0, 0, 0)
  | 909 => (44, 910, 0, 0, 0)
  | 910 => (2, 911, 0, 0, 0)
  | 911 => (1, 912, 3, 0, 0)
  | 912 => (0, 913, 0, 0, 4)
  | 913 => (8, 914, 0, 0, 0)
  | 914 => (44, 915, 0, 0, 0)
  | 915 => (2, 916, 0, 0, 0)
  | 916 => (1, 917, 3, 0, 0)
  | 917 => (0, 918, 0, 0, 5)
  | 918 => (8, 919, 0, 0, 0)
  | 919 => (44, 920, 0, 0, 0)
  | 920 => (28, 923, 122, 6, 0)
  | 923 => (17, 926, 0, 1206, 0)
  | 926 => (0, 927, 0, 0, 0)
  | 927 => (35, 928, 0, 0, 0)
  | 928 => (2, 929, 1, 0, 0)
  | 929 => (2, 930, 0, 0, 0)
  | 930 => (1, 931, 3, 0, 0)
  | 931 => (0, 932, 0, 0, 1)
  | 932 => (8, 933, 0, 0, 0)
  | 933 => (44, 934, 0, 0, 0)
  | 934 => (2, 935, 0, 0, 0)
  | 935 => (1, 936, 3, 0, 0)
  | 936 => (0, 937, 0, 0, 2)
  | 937 => (8, 938, 0, 0, 0)
  | 938 => (44, 939, 0, 0, 0)
  | 939 => (2, 940, 0, 0, 0)
  | 940 => (1, 941, 3, 0, 0)
  | 941 => (0, 942, 0, 0, 3)
  | 942 => (8, 943, 0, 0, 0)
  | 943 => (44, 944, 0, 0, 0)
  | 944 => (2, 945, 0, 0, 0)
  | 945 => (1, 946, 3, 0, 0)
  | 946 => (0, 947, 0, 0, 4)
  | 947 => (8, 948, 0, 0, 0)
  | 948 => (44, 949, 0, 0, 0)
  | 949 => (28, 952, 68, 5, 0)
  | 952 => (2, 953, 2, 0, 0)
  | 953 => (2, 954, 0, 0, 0)
  | 954 => (1, 955, 3, 0, 0)
  | 955 => (0, 956, 0, 0, 1)
  | 956 => (8, 957, 0, 0, 0)
  | 957 => (44, 958, 0, 0, 0)
  | 958 => (2, 959, 0, 0, 0)
  | 959 => (1, 960, 3, 0, 0)
  | 960 => (0, 961, 0, 0, 2)
  | 961 => (8, 962, 0, 0, 0)
  | 962 => (44, 963, 0, 0, 0)
  | 963 => (2, 964, 0, 0, 0)
  | 964 => (1, 965, 3, 0, 0)
  | 965 => (0, 966, 0, 0, 3)
  | 966 => (8, 967, 0, 0, 0)
  | 967 => (44, 968, 0, 0, 0)
  | 968 => (2, 969, 0, 0, 0)
  | 969 => (1, 970, 3, 0, 0)
  | 970 => (0, 971, 0, 0, 4)
  | 971 => (8, 972, 0, 0, 0)
  | 972 => (44, 973, 0, 0, 0)
  | 973 => (28, 976, 123, 5, 0)
  | 976 => (17, 979, 0, 1206, 0)
  | 979 => (0, 980, 0, 0, 0)
  | 980 => (35, 981, 0, 0, 0)
  | 981 => (2, 982, 1, 0, 0)
  | 982 => (2, 983, 0, 0, 0)
  | 983 => (1, 984, 3, 0, 0)
  | 984 => (0, 985, 0, 0, 1)
  | 985 => (8, 986, 0, 0, 0)
  | 986 => (44, 987, 0, 0, 0)
  | 987 => (2, 988, 0, 0, 0)
  | 988 => (1, 989, 3, 0, 0)
  | 989 => (0, 990, 0, 0, 2)
  | 990 => (8, 991, 0, 0, 0)
  | 991 => (44, 992, 0, 0, 0)
  | 992 => (2, 993, 0, 0, 0)
  | 993 => (1, 994, 3, 0, 0)
  | 994 => (0, 995, 0, 0, 3)
  | 995 => (8, 996, 0, 0, 0)
  | 996 => (44, 997, 0, 0, 0)
  | 997 => (28, 1000, 69, 4, 0)
  | 1000 => (2, 1001, 2, 0, 0)
  | 1001 => (2, 1002, 0, 0, 0)
  | 1002 => (1, 1003, 3, 0, 0)
  | 1003 => (0, 1004, 0, 0, 1)
  | 1004 => (8, 1005, 0, 0, 0)
  | 1005 => (44, 1006, 0, 0, 0)
  | 1006 => (2, 1007, 0, 0, 0)
  | 1007 => (1, 1008, 3, 0, 0)
  | 1008 => (0, 1009, 0, 0, 2)
  | 1009 => (8, 1010, 0, 0, 0)
  | 1010 => (44, 1011, 0, 0, 0)
  | 1011 => (2, 1012, 0, 0, 0)
  | 1012 => (1, 1013, 3, 0, 0)
  | 1013 => (0, 1014, 0, 0, 3)
  | 1014 => (8, 1015, 0, 0, 0)
  | 1015 => (44, 1016, 0, 0, 0)
  | 1016 => (28, 1019, 124, 4, 0)
  | 1019 => (17, 1022, 0, 1206, 0)
  | 1022 => (0, 1023, 0, 0, 0)
  | 1023 => (35, 1024, 0, 0, 0)
  | 1024 => (2, 1025, 1, 0, 0)
  | 1025 => (2, 1026, 0, 0, 0)
  | 1026 => (1, 1027, 3, 0, 0)
  | 1027 => (0, 1028, 0, 0, 1)
  | 1028 => (8, 1029, 0, 0, 0)
  | 1029 => (44, 1030, 0, 0, 0)
  | 1030 => (2, 1031, 0, 0, 0)
  | 1031 => (1, 1032, 3, 0, 0)
  | 1032 => (0, 1033, 0, 0, 2)
  | 1033 => (8, 1034, 0, 0, 0)
  | 1034 => (44, 1035, 0, 0, 0)
  | 1035 => (2, 1036, 0, 0, 0)
  | 1036 => (1, 1037, 3, 0, 0)
  | 1037 => (0, 1038, 0, 0, 3)
  | 1038 => (8, 1039, 0, 0, 0)
  | 1039 => (44, 1040, 0, 0, 0)
  | 1040 => (28, 1043, 70, 4, 0)
  | 1043 => (2, 1044, 2, 0, 0)
  | 1044 => (2, 1045, 0, 0, 0)
  | 1045 => (1, 1046, 3, 0, 0)
  | 1046 => (0, 1047, 0, 0, 1)
  | 1047 => (8, 1048, 0, 0, 0)
  | 1048 => (44, 1049, 0, 0, 0)
  | 1049 => (2, 1050, 0, 0, 0)
  | 1050 => (1, 1051, 3, 0, 0)
  | 1051 => (0, 1052, 0, 0, 2)
  | 1052 => (8, 1053, 0, 0, 0)
  | 1053 => (44, 1054, 0, 0, 0)
  | 1054 => (2, 1055, 0, 0, 0)
  | 1055 => (1, 1056, 3, 0, 0)
  | 1056 => (0, 1057, 0, 0, 3)
  | 1057 => (8, 1058, 0, 0, 0)
  | 1058 => (44, 1059, 0, 0, 0)
  | 1059 => (28, 1062, 125, 4, 0)
  | 1062 => (17, 1065, 0, 1206, 0)
  | 1065 => (0, 1066, 0, 0, 0)
  | 1066 => (35, 1067, 0, 0, 0)
  | 1067 => (2, 1068, 1, 0, 0)
  | 1068 => (2, 1069, 0, 0, 0)
  | 1069 => (1, 1070, 3, 0, 0)
  | 1070 => (0, 1071, 0, 0, 1)
  | 1071 => (8, 1072, 0, 0, 0)
  | 1072 => (44, 1073, 0, 0, 0)
  | 1073 => (28, 1076, 71, 2, 0)
  | 1076 => (2, 1077, 2, 0, 0)
  | 1077 => (2, 1078, 0, 0, 0)
  | 1078 => (1, 1079, 3, 0, 0)
  | 1079 => (0, 1080, 0, 0, 1)
  | 1080 => (8, 1081, 0, 0, 0)
  | 1081 => (44, 1082, 0, 0, 0)
  | 1082 => (28, 1085, 126, 2, 0)
  | 1085 => (17, 1088, 0, 1206, 0)
  | 1088 => (0, 1089, 0, 0, 0)
  | 1089 => (35, 1090, 0, 0, 0)
  | 1090 => (2, 1091, 1, 0, 0)
  | 1091 => (2, 1092, 0, 0, 0)
  | 1092 => (1, 1093, 3, 0, 0)
  | 1093 => (0, 1094, 0, 0, 1)
  | 1094 => (8, 1095, 0, 0, 0)
  | 1095 => (44, 1096, 0, 0, 0)
  | 1096 => (2, 1097, 0, 0, 0)
  | 1097 => (1, 1098, 3, 0, 0)
  | 1098 => (0, 1099, 0, 0, 2)
  | 1099 => (8, 1100, 0, 0, 0)
  | 1100 => (44, 1101, 0, 0, 0)
  | 1101 => (2, 1102, 0, 0, 0)
  | 1102 => (1, 1103, 3, 0, 0)
  | 1103 => (0, 1104, 0, 0, 3)
  | 1104 => (8, 1105, 0, 0, 0)
  | 1105 => (44, 1106, 0, 0, 0)
  | 1106 => (2, 1107, 0, 0, 0)
  | 1107 => (1, 1108, 3, 0, 0)
  | 1108 => (0, 1109, 0, 0, 4)
  | 1109 => (8, 1110, 0, 0, 0)
  | 1110 => (44, 1111, 0, 0, 0)
  | 1111 => (28, 1114, 72, 5, 0)
  | 1114 => (2, 1115, 2, 0, 0)
  | 1115 => (2, 1116, 0, 0, 0)
  | 1116 => (1, 1117, 3, 0, 0)
  | 1117 => (0, 1118, 0, 0, 1)
  | 1118 => (8, 1119, 0, 0, 0)
  | 1119 => (44, 1120, 0, 0, 0)
  | 1120 => (2, 1121, 0, 0, 0)
  | 1121 => (1, 1122, 3, 0, 0)
  | 1122 => (0, 1123, 0, 0, 2)
  | 1123 => (8, 1124, 0, 0, 0)
  | 1124 => (44, 1125, 0, 0, 0)
  | 1125 => (2, 1126, 0, 0, 0)
  | 1126 => (1, 1127, 3, 0, 0)
  | 1127 => (0, 1128, 0, 0, 3)
  | 1128 => (8, 1129, 0, 0, 0)
  | 1129 => (44, 1130, 0, 0, 0)
  | 1130 => (2, 1131, 0, 0, 0)
  | 1131 => (1, 1132, 3, 0, 0)
  | 1132 => (0, 1133, 0, 0, 4)
  | 1133 => (8, 1134, 0, 0, 0)
  | 1134 => (44, 1135, 0, 0, 0)
  | 1135 => (28, 1138, 127, 5, 0)
  | 1138 => (17, 1141, 0, 1206, 0)
  | 1141 => (0, 1142, 0, 0, 0)
  | 1142 => (35, 1143, 0, 0, 0)
  | 1143 => (2, 1144, 1, 0, 0)
  | 1144 => (2, 1145, 0, 0, 0)
  | 1145 => (1, 1146, 3, 0, 0)
  | 1146 => (0, 1147, 0, 0, 1)
  | 1147 => (8, 1148, 0, 0, 0)
  | 1148 => (44, 1149, 0, 0, 0)
  | 1149 => (2, 1150, 0, 0, 0)
  | 1150 => (1, 1151, 3, 0, 0)
  | 1151 => (0, 1152, 0, 0, 2)
  | 1152 => (8, 1153, 0, 0, 0)
  | 1153 => (44, 1154, 0, 0, 0)
  | 1154 => (2, 1155, 0, 0, 0)
  | 1155 => (1, 1156, 3, 0, 0)
  | 1156 => (0, 1157, 0, 0, 3)
  | 1157 => (8, 1158, 0, 0, 0)
  | 1158 => (44, 1159, 0, 0, 0)
  | 1159 => (2, 1160, 0, 0, 0)
  | 1160 => (1, 1161, 3, 0, 0)
  | 1161 => (0, 1162, 0, 0, 4)
  | 1162 => (8, 1163, 0, 0, 0)
  | 1163 => (44, 1164, 0, 0, 0)
  | 1164 => (2, 1165, 0, 0, 0)
  | 1165 => (1, 1166, 3, 0, 0)
  | 1166 => (0, 1167, 0, 0, 5)
  | 1167 => (8, 1168, 0, 0, 0)
  | 1168 => (44, 1169, 0, 0, 0)
  | 1169 => (28, 1172, 73, 6, 0)
  | 1172 => (2, 1173, 2, 0, 0)
  | 1173 => (2, 1174, 0, 0, 0)
  | 1174 => (1, 1175, 3, 0, 0)
  | 1175 => (0, 1176, 0, 0, 1)
  | 1176 => (8, 1177, 0, 0, 0)
  | 1177 => (44, 1178, 0, 0, 0)
  | 1178 => (2, 1179, 0, 0, 0)
  | 1179 => (1, 1180, 3, 0, 0)
  | 1180 => (0, 1181, 0, 0, 2)
  | 1181 => (8, 1182, 0, 0, 0)
  | 1182 => (44, 1183, 0, 0, 0)
  | 1183 => (2, 1184, 0, 0, 0)
  | 1184 => (1, 1185, 3, 0, 0)
  | 1185 => (0, 1186, 0, 0, 3)
  | 1186 => (8, 1187, 0, 0, 0)
  | 1187 => (44, 1188, 0, 0, 0)
  | 1188 => (2, 1189, 0, 0, 0)
  | 1189 => (1, 1190, 3, 0, 0)
  | 1190 => (0, 1191, 0, 0, 4)
  | 1191 => (8, 1192, 0, 0, 0)
  | 1192 => (44, 1193, 0, 0, 0)
  | 1193 => (2, 1194, 0, 0, 0)
  | 1194 => (1, 1195, 3, 0, 0)
  | 1195 => (0, 1196, 0, 0, 5)
  | 1196 => (8, 1197, 0, 0, 0)
  | 1197 => (44, 1198, 0, 0, 0)
  | 1198 => (28, 1201, 128, 6, 0)
  | 1201 => (17, 1204, 0, 1206, 0)
  | 1204 => (0, 1205, 0, 0, 0)
  | 1205 => (35, 1206, 0, 0, 0)
  | 1206 => (7, 1209, 3, 0, 6)
  | 1209 => (19, 1212, 0, 18, 0)
  | 1212 => (0, 1213, 0, 0, 1)
  | 1213 => (35, 1214, 0, 0, 0)
  | _ => (99, 0, 0, 0, 0)
def zcode : Nat → Nat → zE := fun mi => match mi with
  | 0 => zc_X0_has
  | 1 => zc_X0_at
  | 2 => zc_X0_put
  | 3 => zc_X0_add
  | 4 => zc_X0_cut
  | 5 => zc_X0_takeOut
  | 6 => zc_X0_takeFrom
  | 7 => zc_X0_repeats
  | 8 => zc_X1_hasColour
  | 9 => zc_X1_priceOf
  | 10 => zc_X1_setPrice
  | 11 => zc_X1_leastPrice
  | 12 => zc_X1_takeFrom
  | 13 => zc_X1_faultOf
  | 14 => zc_X1_holds
  | 15 => zc_X1_standsWith
  | 16 => zc_X1_isRing
  | 17 => zc_X1_stretchAtEnd
  | 18 => zc_X1_mixedAtEnd
  | 19 => zc_X1_tally
  | 20 => zc_X2_reaches
  | 21 => zc_X2_at
  | 22 => zc_X2_put
  | 23 => zc_X2_renew
  | 24 => zc_X3_takeFrom
  | 25 => zc_X4_at
  | 26 => zc_X4_add
  | 27 => zc_X5_colours
  | 28 => zc_X5_price
  | 29 => zc_X5_rule
  | 30 => zc_X5_paint
  | 31 => zc_X5_scrape
  | 32 => zc_X5_pale
  | 33 => zc_X5_type
  | 34 => zc_X5_byteOf
  | 35 => zc_X5_fence
  | 36 => zc_X5_readText
  | 37 => zc_X5_count
  | 38 => zc_X5_fault
  | 39 => zc_X5_may
  | 40 => zc_X5_openBehind
  | 41 => zc_X5_kind
  | 42 => zc_X5_far
  | 43 => zc_X5_go
  | 44 => zc_X5_goBehind
  | 45 => zc_X5_goOn
  | 46 => zc_X5_less
  | 47 => zc_X5_many
  | 48 => zc_X5_rings
  | 49 => zc_X5_rowsBehind
  | 50 => zc_X5_ring
  | 51 => zc_X5_findRing
  | 52 => zc_X5_cheap
  | 53 => zc_X5_cheapest
  | 54 => zc_X5_wins
  | 55 => zc_X5_canWin
  | 56 => zc_X5_isLost
  | 57 => zc_X5_tear
  | 58 => zc_X5_mends
  | 59 => zc_X5_replace
  | 60 => zc_X5_lots
  | 61 => zc_X5_drawn
  | 62 => zc_X5_seed
  | 63 => zc_X5_image
  | 64 => zc_X5_restore
  | 65 => zc_X5_storm
  | 66 => zc_X5_readLost
  | 67 => zc_X5_waysToMend
  | 68 => zc_X5_build
  | 69 => zc_X5_film
  | 70 => zc_X5_sheet
  | 71 => zc_X5_drop
  | 72 => zc_X5_item
  | 73 => zc_X5_copy
  | 74 => zc_X5_refusalOf
  | 75 => zc_X5_pageAt
  | 76 => zc_X5_isLane
  | 77 => zc_X6_in
  | 78 => zc_X6_changed
  | 79 => zc_X6_isLike
  | 80 => zc_X6_ends
  | 81 => zc_X6_faults
  | 82 => zc_X6_lay
  | 83 => zc_X6_mayCome
  | 84 => zc_X6_bits
  | 85 => zc_X6_isPale
  | 86 => zc_X6_isColour
  | 87 => zc_X6_colours
  | 88 => zc_X6_price
  | 89 => zc_X6_rule
  | 90 => zc_X6_paint
  | 91 => zc_X6_scrape
  | 92 => zc_X6_pale
  | 93 => zc_X6_type
  | 94 => zc_X6_colourOf
  | 95 => zc_X6_fence
  | 96 => zc_X6_count
  | 97 => zc_X6_fault
  | 98 => zc_X6_may
  | 99 => zc_X6_kind
  | 100 => zc_X6_reaches
  | 101 => zc_X6_far
  | 102 => zc_X6_go
  | 103 => zc_X6_less
  | 104 => zc_X6_goesOn
  | 105 => zc_X6_many
  | 106 => zc_X6_isRing
  | 107 => zc_X6_rings
  | 108 => zc_X6_ring
  | 109 => zc_X6_cheap
  | 110 => zc_X6_comes
  | 111 => zc_X6_wins
  | 112 => zc_X6_tear
  | 113 => zc_X6_mends
  | 114 => zc_X6_replace
  | 115 => zc_X6_lots
  | 116 => zc_X6_seed
  | 117 => zc_X6_image
  | 118 => zc_X6_restore
  | 119 => zc_X6_isSheet
  | 120 => zc_X6_found
  | 121 => zc_X6_isRising
  | 122 => zc_X6_storm
  | 123 => zc_X6_build
  | 124 => zc_X6_film
  | 125 => zc_X6_sheet
  | 126 => zc_X6_drop
  | 127 => zc_X6_item
  | 128 => zc_X6_copy
  | 129 => zc_J0_length_8abf5
  | 130 => zc_J0_indexOf_0f7a4
  | 131 => zc_J0_indexOf_7cf53
  | 132 => zc_J0_coder_7d493
  | 133 => zc_J0_isLatin1_aae02
  | 134 => zc_J1_canEncode_9a6ad
  | 135 => zc_J1_indexOf_4cfef
  | 136 => zc_J1_indexOfChar_4cfef
  | 137 => zc_J6_bitCount_0f7a4
  | 138 => zc_J9_max_7cf53
  | 139 => zc_J9_min_7cf53
  | 140 => zc_L_law
  | _ => fun _ => (99, 0, 0, 0, 0)
def zcall : List (Nat × Nat × Nat × Nat) := [(0, 19, 0, 138), (0, 25, 0, 0), (0, 29, 0, 1), (0, 33, 0, 2), (0, 37, 0, 139), (1, 25, 0, 9), (1, 29, 0, 139), (1, 46, 0, 17), (1, 50, 1, 3), (1, 54, 1, 1), (1, 57, 1, 4), (1, 60, 0, 18), (1, 63, 1, 7), (1, 67, 0, 19), (3, 30, 1, 6), (3, 34, 1, 12), (5, 54, 1, 1), (5, 67, 1, 9), (5, 70, 1, 10), (5, 80, 1, 8), (5, 84, 0, 40), (5, 87, 1, 3), (5, 91, 1, 4), (5, 94, 1, 0), (5, 97, 0, 34), (5, 102, 1, 26), (5, 103, 0, 36), (5, 107, 1, 6), (5, 111, 1, 25), (5, 114, 0, 130), (5, 119, 1, 13), (5, 123, 1, 17), (5, 127, 1, 15), (5, 131, 0, 137), (5, 136, 0, 44), (5, 140, 0, 45), (5, 144, 0, 139), (5, 149, 0, 49), (5, 153, 1, 16), (5, 157, 0, 138), (5, 160, 0, 51), (5, 164, 0, 53), (5, 168, 1, 11), (5, 171, 0, 55), (5, 175, 0, 56), (5, 178, 1, 5), (5, 181, 1, 2), (5, 190, 0, 61), (5, 193, 1, 24), (5, 200, 0, 75), (5, 204, 0, 74), (5, 208, 0, 66), (5, 212, 1, 14), (5, 216, 0, 67), (5, 220, 1, 21), (5, 221, 1, 22), (5, 222, 0, 76), (5, 225, 1, 23), (5, 234, 1, 20), (6, 50, 0, 79), (6, 54, 0, 80), (6, 58, 0, 77), (6, 66, 0, 78), (6, 76, 0, 86), (6, 80, 0, 82), (6, 84, 0, 81), (6, 89, 0, 85), (6, 104, 0, 94), (6, 109, 0, 83), (6, 112, 0, 84), (6, 117, 0, 100), (6, 122, 0, 104), (6, 126, 0, 106), (6, 131, 0, 110), (6, 135, 0, 98), (6, 149, 0, 119), (6, 152, 0, 120), (6, 156, 0, 121), (7, 335, 0, 132), (7, 492, 0, 133), (7, 505, 0, 129), (7, 633, 0, 131), (7, 637, 0, 135), (8, 38, 0, 139), (8, 88, 0, 134), (8, 92, 0, 138), (8, 95, 0, 136), (11, 13, 0, 27), (11, 17, 0, 87), (11, 18, 0, 28), (11, 22, 0, 88), (11, 23, 0, 29), (11, 26, 0, 89), (11, 27, 0, 30), (11, 30, 0, 90), (11, 31, 0, 31), (11, 34, 0, 91), (11, 35, 0, 32), (11, 38, 0, 92), (11, 41, 0, 33), (11, 45, 0, 93), (11, 46, 0, 35), (11, 50, 0, 95), (11, 51, 0, 37), (11, 54, 0, 96), (11, 55, 0, 38), (11, 58, 0, 97), (11, 59, 0, 39), (11, 62, 0, 98), (11, 63, 0, 41), (11, 66, 0, 99), (11, 67, 0, 42), (11, 70, 0, 101), (11, 71, 0, 43), (11, 74, 0, 102), (11, 75, 0, 46), (11, 78, 0, 103), (11, 79, 0, 47), (11, 82, 0, 105), (11, 83, 0, 48), (11, 86, 0, 107), (11, 87, 0, 50), (11, 90, 0, 108), (11, 91, 0, 52), (11, 94, 0, 109), (11, 95, 0, 54), (11, 98, 0, 111), (11, 99, 0, 57), (11, 102, 0, 112), (11, 103, 0, 58), (11, 106, 0, 113), (11, 107, 0, 59), (11, 110, 0, 114), (11, 111, 0, 60), (11, 114, 0, 115), (11, 115, 0, 62), (11, 118, 0, 116), (11, 119, 0, 63), (11, 122, 0, 117), (11, 123, 0, 64), (11, 126, 0, 118), (11, 127, 0, 65), (11, 131, 0, 122), (11, 132, 0, 68), (11, 136, 0, 123), (11, 137, 0, 69), (11, 141, 0, 124), (11, 142, 0, 70), (11, 145, 0, 125), (11, 146, 0, 71), (11, 149, 0, 126), (11, 150, 0, 72), (11, 153, 0, 127), (11, 154, 0, 73), (11, 157, 0, 128)]
def zfld : List (Nat × Nat × Nat × Nat × Nat) := [(0, 9, 0, 0, 0), (0, 15, 0, 0, 1), (1, 9, 0, 1, 0), (1, 15, 0, 1, 1), (1, 18, 0, 1, 2), (1, 21, 0, 1, 3), (1, 41, 1, 0, 1), (2, 9, 0, 2, 0), (2, 15, 0, 2, 2), (2, 19, 0, 2, 1), (3, 10, 0, 3, 0), (3, 19, 0, 3, 1), (3, 23, 0, 3, 2), (3, 27, 1, 0, 1), (4, 9, 0, 4, 0), (4, 15, 0, 4, 1), (5, 10, 0, 5, 0), (5, 16, 0, 5, 1), (5, 22, 0, 5, 3), (5, 28, 0, 5, 4), (5, 35, 0, 5, 5), (5, 39, 0, 5, 6), (5, 42, 0, 5, 7), (5, 47, 1, 3, 0), (5, 50, 1, 0, 1), (5, 58, 1, 3, 1), (5, 62, 1, 1, 0), (5, 74, 1, 1, 1), (5, 77, 1, 1, 2), (5, 101, 1, 4, 1), (5, 184, 1, 3, 2), (5, 196, 0, 5, 2), (5, 228, 1, 2, 2), (5, 231, 1, 2, 1), (5, 238, 1, 2, 0), (6, 7, 0, 6, 0), (6, 13, 0, 6, 1), (6, 16, 0, 6, 3), (6, 19, 0, 6, 5), (6, 22, 0, 6, 6), (6, 25, 0, 6, 7), (6, 28, 0, 6, 8), (6, 31, 0, 6, 9), (6, 34, 0, 6, 10), (6, 37, 0, 6, 11), (6, 40, 0, 6, 12), (6, 44, 0, 6, 13), (6, 47, 0, 6, 14), (6, 100, 0, 6, 4), (6, 145, 0, 6, 2)]
def zcst : List (Nat × Nat × Int) := [(5, 187, 1103515245), (5, 188, 2147483647), (5, 189, 65536), (6, 144, 65536), (9, 265, 1431655765), (9, 266, 858993459), (9, 267, 252645135)]
def zcstl : List (Nat × Nat × Int) := [(1, 71, 2), (6, 62, 2), (6, 64, 4), (6, 70, 3), (6, 72, 99), (6, 74, 9), (6, 87, 48), (6, 92, 8), (6, 94, 255), (6, 96, 32), (6, 98, 126), (6, 107, 5), (6, 115, 16), (6, 120, 12), (6, 129, (-1)), (6, 138, 1103515245), (6, 140, 12345), (6, 142, 2147483647), (11, 39, 4294967295)]
def zacp : List (Nat × Nat) := [(0, 40), (1, 35), (5, 241)]
def zswl : List Nat := [184, 207, 240, 273, 296, 319, 342, 405, 418, 441, 464, 477, 500, 523, 556, 579, 602, 625, 658, 691, 714, 737, 760, 793, 816, 839, 852, 865, 928, 981, 1024, 1067, 1090, 1143]
def zswd : Nat := 1206
def zNM : Nat := 141
end
section
/-! the small machine: values, memory, one step, a run, a call; ints are Int (the number), references are places -/
abbrev zV : Type := Int ⊕ Int ⊕ Nat ⊕ Bool
abbrev vI (x : Int) : zV := .inl x
abbrev vL (x : Int) : zV := .inr (.inl x)
abbrev vR (k : Nat) : zV := .inr (.inr (.inl k))
abbrev vN : zV := .inr (.inr (.inr true))
abbrev vU : zV := .inr (.inr (.inr false))
abbrev zM : Type := (Nat → Int) × (Nat → Nat → Int)
abbrev zS : Type := Nat × List zV × List zV × zM
def zup (f : Nat → Int) (k : Nat) (v : Int) : Nat → Int := fun j => if j = k then v else f j
def zsetS (σ : zM) (n : Nat) (v : Int) : zM := (zup σ.1 n v, σ.2)
def zupA (g : Nat → Nat → Int) (a : Nat) (f : Nat → Int) : Nat → Nat → Int := fun b => if b = a then f else g b
def zsetA (σ : zM) (a : Nat) (f : Nat → Int) : zM := (σ.1, zupA σ.2 a f)
def zcpy (f g : Nat → Int) (sp dp n : Nat) : Nat → Int := fun k => if dp ≤ k ∧ k < dp + n then f (sp + (k - dp)) else g k
/-- the class of a place: 0..6 ours, 7 the text, 20 ints, 21 booleans, 22 references, 23 the text's bytes, 24 the script -/
def zcls : Nat → Nat := fun k => match k with
  | 0 => 5 | 1 => 3 | 2 => 0 | 3 => 20 | 4 => 1 | 5 => 20 | 6 => 3 | 7 => 0 | 8 => 20 | 9 => 1 | 10 => 20
  | 11 => 4 | 12 => 20 | 13 => 22 | 14 => 2 | 15 => 20 | 16 => 2 | 17 => 20 | 18 => 2 | 19 => 20 | 20 => 2 | 21 => 20
  | 22 => 0 | 23 => 20 | 24 => 0 | 25 => 20 | 26 => 20
  | 27 => 6 | 28 => 20 | 29 => 20 | 30 => 20 | 31 => 20 | 32 => 20 | 33 => 20 | 34 => 20 | 35 => 20 | 36 => 20 | 37 => 20 | 38 => 21 | 39 => 21 | 40 => 21
  | 41 => 7 | 42 => 23 | 43 => 24 | _ => 99
/-- an array's length and its number in the memory -/
def zarr : Nat → Nat × Nat := fun k => match k with
  | 3 => (72, 0) | 8 => (72, 1) | 23 => (72, 2) | 25 => (72, 3) | 5 => (4, 4) | 10 => (4, 5) | 12 => (100, 6)
  | 15 => (48, 7) | 17 => (48, 8) | 19 => (48, 9) | 21 => (48, 10) | 26 => (4, 11)
  | 28 => (57, 12) | 29 => (57, 13) | 30 => (100, 14) | 31 => (4, 15) | 32 => (4, 16) | 33 => (192, 17) | 34 => (80, 18) | 35 => (4, 19) | 36 => (24, 20) | 37 => (8, 21) | 38 => (9, 22) | 39 => (9, 23) | 40 => (9, 24)
  | _ => (0, 99)
/-- the sheets' places -/
def zshp : Nat → Nat := fun j => match j with | 0 => 14 | 1 => 16 | 2 => 18 | _ => 20
/-- a field of an object: a scalar of the memory, or a reference that never changes -/
def zfv (p k : Nat) : Nat ⊕ Nat := match p, k with
  | 0, 0 => .inr 1 | 0, 1 => .inr 6 | 0, 2 => .inl 12 | 0, 3 => .inr 11 | 0, 4 => .inr 13 | 0, 5 => .inr 22 | 0, 6 => .inr 24 | 0, 7 => .inr 26
  | 1, 0 => .inr 2 | 1, 1 => .inr 4 | 1, 2 => .inl 10
  | 2, 0 => .inr 3 | 2, 1 => .inl 0
  | 4, 0 => .inl 4 | 4, 1 => .inl 5 | 4, 2 => .inl 6 | 4, 3 => .inr 5
  | 6, 0 => .inr 7 | 6, 1 => .inr 9 | 6, 2 => .inl 11
  | 7, 0 => .inr 8 | 7, 1 => .inl 1
  | 9, 0 => .inl 7 | 9, 1 => .inl 8 | 9, 2 => .inl 9 | 9, 3 => .inr 10
  | 11, 0 => .inr 12 | 11, 1 => .inl 13
  | 14, 0 => .inr 15 | 14, 1 => .inl 14 | 14, 2 => .inl 15
  | 16, 0 => .inr 17 | 16, 1 => .inl 16 | 16, 2 => .inl 17
  | 18, 0 => .inr 19 | 18, 1 => .inl 18 | 18, 2 => .inl 19
  | 20, 0 => .inr 21 | 20, 1 => .inl 20 | 20, 2 => .inl 21
  | 22, 0 => .inr 23 | 22, 1 => .inl 2
  | 24, 0 => .inr 25 | 24, 1 => .inl 3
  | 27, 0 => .inr 28 | 27, 1 => .inr 29 | 27, 2 => .inl 22 | 27, 3 => .inr 30 | 27, 4 => .inl 23 | 27, 5 => .inr 31 | 27, 6 => .inr 32 | 27, 7 => .inr 33 | 27, 8 => .inr 34 | 27, 9 => .inr 35 | 27, 10 => .inr 36 | 27, 11 => .inr 37 | 27, 12 => .inr 38 | 27, 13 => .inr 39 | 27, 14 => .inr 40
  | _, _ => .inl 99
/-- 32-bit and 64-bit arithmetic on numbers -/
def zbin (b : Nat) (x y : Int) : Int := match b with
  | 0 => (Int32.ofInt x + Int32.ofInt y).toInt
  | 1 => (Int32.ofInt x - Int32.ofInt y).toInt
  | 2 => (Int32.ofInt x * Int32.ofInt y).toInt
  | 3 => (Int32.ofInt x &&& Int32.ofInt y).toInt
  | 4 => (Int32.ofInt x ||| Int32.ofInt y).toInt
  | 5 => (Int32.ofInt x <<< (Int32.ofInt y &&& 31)).toInt
  | 6 => (Int32.ofInt x >>> (Int32.ofInt y &&& 31)).toInt
  | _ => ((Int32.ofInt x).toUInt32 >>> ((Int32.ofInt y).toUInt32 &&& Int32.toUInt32 31)).toInt32.toInt
def zdiv (x y : Int) : Int := (Int32.ofInt x / Int32.ofInt y).toInt
def zrem (x y : Int) : Int := (Int32.ofInt x - Int32.ofInt x / Int32.ofInt y * Int32.ofInt y).toInt
def zlbin (b : Nat) (x y : Int) : Int := match b with
  | 0 => (Int64.ofInt x + Int64.ofInt y).toInt
  | 1 => (Int64.ofInt x * Int64.ofInt y).toInt
  | 2 => (Int64.ofInt x &&& Int64.ofInt y).toInt
  | _ => (Int64.ofInt x ||| Int64.ofInt y).toInt
def zlsh (b : Nat) (x y : Int) : Int := match b with
  | 0 => (Int64.ofInt x <<< ((Int32.ofInt y).toInt64 &&& 63)).toInt
  | _ => (Int64.ofInt x >>> ((Int32.ofInt y).toInt64 &&& 63)).toInt
def zcnv (b : Nat) (v : zV) : Option zV := match b, v with
  | 0, .inl x => some (vL x)
  | 1, .inr (.inl x) => some (vI (Int64.ofInt x).toInt32.toInt)
  | 2, .inl x => some (vI (Int32.ofInt x).toInt8.toInt32.toInt)
  | 3, .inl x => some (vI (Int32.ofInt x).toInt16.toInt32.toInt)
  | 4, .inl x => some (vI ((Int32.ofInt x).toUInt32 % 65536).toInt32.toInt)
  | _, _ => none
def zcmp (x y : Int) : Int := if x < y then -1 else if x = y then 0 else 1
def zcond (c : Nat) (x y : Int) : Prop := match c with
  | 0 => x = y | 1 => ¬ x = y | 2 => x < y | 3 => y ≤ x | 4 => y < x | _ => x ≤ y
def zbyt : Nat → Int := fun j => match j with | 0 => 114 | 1 => 119 | 2 => 98 | _ => 103
def zswt (x : Int) : Nat := if 0 ≤ x ∧ x ≤ 33 then zswl.getD x.toNat 0 else zswd
/-- stores into the locals: a long takes two places -/
def zunl : List zV → List zV := fun L => match L with | [] => [] | v :: l => (match v with | .inr (.inl _) => vU | w => w) :: l
def zst1 : Nat → zV → List zV → List zV
  | _, _, [] => []
  | 0, v, _ :: l => v :: l
  | 1, v, [a] => zunl [a]
  | 1, v, a :: _ :: l => (match a with | .inr (.inl _) => vU | w => w) :: v :: l
  | n + 2, v, a :: l => a :: zst1 (n + 1) v l
def zst2 (i : Nat) (v : zV) (L : List zV) : List zV := zst1 i v ((zst1 (i + 1) vU L))
def zlay : List zV → List zV
  | [] => []
  | .inr (.inl x) :: l => vL x :: vU :: zlay l
  | v :: l => v :: zlay l
def zpad (n : Nat) (L : List zV) : List zV := L ++ List.replicate (n - L.length) vU
def zcut (k : Nat) (L : List zV) : List zV := L.take k ++ List.replicate (L.length - k) vU
def zpop : Nat → List zV → List zV → Option (List zV × List zV)
  | 0, acc, st => some (acc, st)
  | n + 1, acc, v :: st => zpop n (v :: acc) st
  | _ + 1, _, [] => none
def zcsum : List zV → Nat
  | [] => 0
  | .inr (.inl _) :: l => 2 + zcsum l
  | _ :: l => 1 + zcsum l
def zrcv (mi : Nat) (as : List zV) : Bool := match zkd mi, as with
  | 1, _ => true
  | _, .inr (.inr (.inl p)) :: _ => Nat.beq (zcls p) (zown mi)
  | _, _ => false
section ZX
variable (Call : Nat → List zV → zM → (zM → Option zV → Prop) → Prop) (K : zM → Option zV → Prop) (sL : Nat) (xs : Nat → Int) (X : zS → Prop)
def zld (L : List zV) (t i : Nat) (f : zV → Prop) : Prop := match L[i]? with
  | some v => (match t, v with | 1, .inl x => f (.inl x) | 2, .inr (.inr (.inl k)) => f (.inr (.inr (.inl k))) | 2, .inr (.inr (.inr true)) => f vN | 3, .inr (.inl x) => f (.inr (.inl x)) | _, _ => False)
  | none => False
def zEx (e : zE) (L st : List zV) (σ : zM) : Prop := match e with
  | (op, nxt, a, b, z) => match op with
    | 0 => X (nxt, L, vI z :: st, σ)
    | 1 => zld L 1 a fun v => X (nxt, L, v :: st, σ)
    | 2 => zld L 2 a fun v => X (nxt, L, v :: st, σ)
    | 3 => zld L 3 a fun v => X (nxt, L, v :: st, σ)
    | 4 => (match st with | .inl x :: r => X (nxt, zst1 a (.inl x) L, r, σ) | _ => False)
    | 5 => (match st with | .inr (.inr (.inl k)) :: r => X (nxt, zst1 a (.inr (.inr (.inl k))) L, r, σ) | .inr (.inr (.inr true)) :: r => X (nxt, zst1 a vN L, r, σ) | _ => False)
    | 6 => (match st with | .inr (.inl x) :: r => X (nxt, zst2 a (.inr (.inl x)) L, r, σ) | _ => False)
    | 7 => zld L 1 a fun v => (match v with | .inl x => X (nxt, zst1 a (.inl (zbin 0 x z)) L, st, σ) | _ => False)
    | 8 => (match st with | .inl y :: .inl x :: r => X (nxt, L, vI (zbin a x y) :: r, σ) | _ => False)
    | 9 => (match st with | .inl y :: .inl x :: r => (¬ y = 0) ∧ X (nxt, L, vI (zdiv x y) :: r, σ) | _ => False)
    | 10 => (match st with | .inl y :: .inl x :: r => (¬ y = 0) ∧ X (nxt, L, vI (zrem x y) :: r, σ) | _ => False)
    | 11 => (match st with | .inr (.inl y) :: .inr (.inl x) :: r => X (nxt, L, vL (zlbin a x y) :: r, σ) | _ => False)
    | 12 => (match st with | .inl y :: .inr (.inl x) :: r => X (nxt, L, vL (zlsh a x y) :: r, σ) | _ => False)
    | 13 => (match st with | v :: r => (match zcnv a v with | some w => X (nxt, L, w :: r, σ) | none => False) | _ => False)
    | 14 => (match st with | .inr (.inl y) :: .inr (.inl x) :: r => X (nxt, L, vI (zcmp x y) :: r, σ) | _ => False)
    | 15 => X (nxt, L, vL z :: st, σ)
    | 16 => (match st with | .inl x :: r => (zcond a x 0 → X (b, L, r, σ)) ∧ (¬ zcond a x 0 → X (nxt, L, r, σ)) | _ => False)
    | 17 => (match st with | .inl y :: .inl x :: r => (zcond a x y → X (b, L, r, σ)) ∧ (¬ zcond a x y → X (nxt, L, r, σ)) | _ => False)
    | 18 => (match a, st with | 0, .inr (.inr (.inl _)) :: r => X (nxt, L, r, σ) | 0, .inr (.inr (.inr true)) :: r => X (b, L, r, σ) | 1, .inr (.inr (.inl _)) :: r => X (b, L, r, σ) | 1, .inr (.inr (.inr true)) :: r => X (nxt, L, r, σ) | _, _ => False)
    | 19 => X (b, L, st, σ)
    | 20 => (match st with | .inr (.inr (.inl p)) :: r => (match Nat.beq (zcls p) a, zfv p b with | true, .inl n => X (nxt, L, vI (σ.1 n) :: r, σ) | true, .inr q => X (nxt, L, vR q :: r, σ) | _, _ => False) | _ => False)
    | 21 => (match st with | .inl x :: .inr (.inr (.inl p)) :: r => (match Nat.beq (zcls p) a, zfv p b with | true, .inl n => X (nxt, L, r, zsetS σ n x) | _, _ => False) | _ => False)
    | 22 => (match st with | .inl x :: .inr (.inr (.inl p)) :: r => (match Nat.beq (zcls p) a, zfv p b with | true, .inl n => (x = 0 ∨ x = 1) ∧ X (nxt, L, r, zsetS σ n x) | _, _ => False) | _ => False)
    | 23 => (match st with | .inl i :: .inr (.inr (.inl p)) :: r => (match Nat.beq (zcls p) 20, zarr p with | true, (n, g) => (0 ≤ i ∧ i < n) ∧ X (nxt, L, vI (σ.2 g i.toNat) :: r, σ) | _, _ => False) | _ => False)
    | 24 => (match st with | .inl x :: .inl i :: .inr (.inr (.inl p)) :: r => (match Nat.beq (zcls p) 20, zarr p with | true, (n, g) => (0 ≤ i ∧ i < n) ∧ X (nxt, L, r, zsetA σ g (zup (σ.2 g) i.toNat x)) | _, _ => False) | _ => False)
    | 25 => (match st with | .inl i :: .inr (.inr (.inl p)) :: r => (match Nat.beq (zcls p) 21, zarr p with | true, (n, g) => (0 ≤ i ∧ i < n) ∧ X (nxt, L, vI (σ.2 g i.toNat) :: r, σ) | _, _ => False) | _ => False)
    | 26 => (match st with | .inl x :: .inl i :: .inr (.inr (.inl p)) :: r => (match Nat.beq (zcls p) 21, zarr p with | true, (n, g) => (0 ≤ i ∧ i < n) ∧ X (nxt, L, r, zsetA σ g (zup (σ.2 g) i.toNat (zbin 3 x 1))) | _, _ => False) | _ => False)
    | 27 => (match st with | .inr (.inr (.inl p)) :: r => (match zcls p with | 20 => X (nxt, L, vI (zarr p).1 :: r, σ) | 22 => X (nxt, L, vI 4 :: r, σ) | 23 => X (nxt, L, vI 4 :: r, σ) | _ => False) | _ => False)
    | 28 => (match zpop b [] st with
        | some (as, r) => (match zrcv a as, Nat.ble (zcsum r) 8 with | true, true => Call a as σ fun σ' v => X (nxt, L, v.toList ++ r, σ') | _, _ => False)
        | none => False)
    | 29 => (match st with
        | .inl n :: .inl dp :: .inr (.inr (.inl p)) :: .inl sp :: .inr (.inr (.inl q)) :: [] => (match Nat.beq (zcls p) 20, Nat.beq (zcls q) 20 with
          | true, true => ((0 ≤ sp ∧ 0 ≤ dp ∧ 0 ≤ n) ∧ sp + n ≤ (zarr q).1 ∧ dp + n ≤ (zarr p).1) ∧ X (nxt, L, [], zsetA σ (zarr p).2 (zcpy (σ.2 (zarr q).2) (σ.2 (zarr p).2) sp.toNat dp.toNat n.toNat))
          | _, _ => False)
        | _ => False)
    | 30 => (match st with | .inr (.inr (.inl k)) :: r => X (nxt, L, .inr (.inr (.inl k)) :: .inr (.inr (.inl k)) :: r, σ) | _ => False)
    | 31 => (match st with | .inl i :: .inr (.inr (.inl k)) :: r => X (nxt, L, .inl i :: .inr (.inr (.inl k)) :: .inl i :: .inr (.inr (.inl k)) :: r, σ) | _ => False)
    | 32 => (match st with | .inl _ :: r => X (nxt, L, r, σ) | _ => False)
    | 33 => X (nxt, L, vN :: st, σ)
    | 34 => (match st with | .inl x :: [] => K σ (some (.inl x)) | _ => False)
    | 35 => (match st with | .inl x :: [] => (x = 0 ∨ x = 1) ∧ K σ (some (.inl x)) | _ => False)
    | 36 => (match st with | .inl x :: [] => x = 0 ∧ K σ (some (.inl x)) | _ => False)
    | 37 => (match st with | [] => K σ none | _ => False)
    | 38 => X (nxt, L, vR 41 :: st, σ)
    | 39 => (match st with | .inr (.inl x) :: [] => K σ (some (.inr (.inl x))) | _ => False)
    | 40 => (match st with | .inr (.inr (.inl k)) :: [] => K σ (some (.inr (.inr (.inl k)))) | .inr (.inr (.inr true)) :: [] => K σ (some vN) | _ => False)
    | 41 => (match st with | .inl i :: .inr (.inr (.inl p)) :: r => (match Nat.beq (zcls p) 23 with | true => (0 ≤ i ∧ i < 4) ∧ X (nxt, L, vI (zbyt i.toNat) :: r, σ) | _ => False) | _ => False)
    | 42 => (match st with | .inl x :: r => X (zswt x, L, r, σ) | _ => False)
    | 43 => (match st with | .inr (.inr (.inl p)) :: r => (match Nat.beq (zcls p) 7, a with | true, 9 => X (nxt, L, vR 42 :: r, σ) | true, 15 => X (nxt, L, vI 0 :: r, σ) | _, _ => False) | _ => False)
    | 44 => (match st with | .inl i :: .inr (.inr (.inl p)) :: r => (match Nat.beq (zcls p) 24 with | true => (0 ≤ i ∧ i < sL) ∧ X (nxt, L, vI (xs i.toNat) :: r, σ) | _ => False) | _ => False)
    | 45 => (match st with | .inl i :: .inr (.inr (.inl p)) :: r => (match Nat.beq (zcls p) 22 with | true => (0 ≤ i ∧ i < 4) ∧ X (nxt, L, vR (zshp i.toNat) :: r, σ) | _ => False) | _ => False)
    | 46 => X (nxt, L, vI 1 :: st, σ)
    | 47 => (match st with | .inr (.inr (.inl p)) :: r => (match Nat.beq (zcls p) 24 with | true => X (nxt, L, vI sL :: r, σ) | _ => False) | _ => False)
    | _ => False
def zStep (mi : Nat) (S : zS) : Prop := match Nat.blt S.1 (zN mi) with
  | true => zEx Call K sL xs X (zcode mi S.1) S.2.1 S.2.2.1 S.2.2.2
  | false => False
end ZX
/-- from S the machine comes to an end at which K holds (the least such predicate) -/
def zGo (St : (zS → Prop) → zS → Prop) (S : zS) : Prop := ∀ X : zS → Prop, (∀ S, St X S → X S) → (∀ S k, X (S.1, zcut k S.2.1, S.2.2) → X S) → X S
/-- a call of method mi, at most d calls deep, ends so that K holds of memory and answer -/
def zC : Nat → Nat → List zV → zM → (zM → Option zV → Prop) → Prop
  | 0 => fun _ _ _ _ => False
  | d + 1 => fun mi as σ K => match Nat.ble (zlay as).length (zl mi) with
    | true => zGo (zStep (zC d) K 0 (fun _ => 0) · mi) (0, zpad (zl mi) (zlay as), [], σ)
    | false => False
end
section
/-! the small machine: monotone, runs, rules -/
theorem zld_mono {L : List zV} {t i : Nat} {f g : zV → Prop} (h : ∀ v, f v → g v) (q : zld L t i f) : zld L t i g := by
  unfold zld at q ⊢
  cases hL : L[i]? with
  | none => rw [hL] at q; exact q
  | some v =>
    rw [hL] at q
    dsimp only at q ⊢
    split at q
    · exact h _ q
    · exact h _ q
    · exact h _ q
    · exact h _ q
    · exact q.elim
set_option maxHeartbeats 4000000 in
theorem zEx_mono {Call : Nat → List zV → zM → (zM → Option zV → Prop) → Prop} {K K' : zM → Option zV → Prop} {sL : Nat} {xs : Nat → Int} {X Y : zS → Prop}
    (hC : ∀ mi as σ (K1 K2 : zM → Option zV → Prop), (∀ σ v, K1 σ v → K2 σ v) → Call mi as σ K1 → Call mi as σ K2) (hK : ∀ σ v, K σ v → K' σ v) (hX : ∀ S, X S → Y S)
    (e : zE) (L st : List zV) (σ : zM) (h : zEx Call K sL xs X e L st σ) : zEx Call K' sL xs Y e L st σ := by
  obtain ⟨op, nxt, a, b, z⟩ := e
  unfold zEx at h ⊢
  dsimp only at h ⊢
  split at h
  case h_2 => exact zld_mono (fun v q => hX _ q) h
  case h_3 => exact zld_mono (fun v q => hX _ q) h
  case h_4 => exact zld_mono (fun v q => hX _ q) h
  case h_8 => exact zld_mono (fun v q => by split at q; exact hX _ q; exact q.elim) h
  all_goals first
    | exact hX _ h
    | ((repeat' (split at h)) <;> first
        | exact h.elim
        | exact hX _ h
        | exact hK _ _ h
        | exact ⟨h.1, hX _ h.2⟩
        | exact ⟨h.1, hK _ _ h.2⟩
        | exact ⟨fun c => hX _ (h.1 c), fun c => hX _ (h.2 c)⟩
        | exact hC _ _ _ _ _ (fun _ _ q => hX _ q) h
        | (simp only [*]; first | exact hX _ h | exact ⟨h.1, hX _ h.2⟩ | exact hC _ _ _ _ _ (fun _ _ q => hX _ q) h))
theorem zStep_mono {Call : Nat → List zV → zM → (zM → Option zV → Prop) → Prop} {K K' : zM → Option zV → Prop} {sL : Nat} {xs : Nat → Int} {X Y : zS → Prop}
    (hC : ∀ mi as σ (K1 K2 : zM → Option zV → Prop), (∀ σ v, K1 σ v → K2 σ v) → Call mi as σ K1 → Call mi as σ K2) (hK : ∀ σ v, K σ v → K' σ v) (hX : ∀ S, X S → Y S)
    (mi : Nat) (S : zS) (h : zStep Call K sL xs X mi S) : zStep Call K' sL xs Y mi S := by
  unfold zStep at h ⊢
  cases hb : Nat.blt S.1 (zN mi) with
  | true => rw [hb] at h; exact zEx_mono hC hK hX _ _ _ _ h
  | false => rw [hb] at h; exact h
theorem zGo_mono {F G : (zS → Prop) → zS → Prop} (h : ∀ X S, F X S → G X S) {S : zS} (q : zGo F S) : zGo G S :=
  fun X hX hc => q X (fun S hS => hX S (h X S hS)) hc
theorem zC_mono : ∀ (d mi : Nat) (as : List zV) (σ : zM) (K1 K2 : zM → Option zV → Prop), (∀ σ v, K1 σ v → K2 σ v) → zC d mi as σ K1 → zC d mi as σ K2
  | 0, _, _, _, _, _, _, h => h
  | d + 1, mi, as, σ, K1, K2, hK, h => by
    unfold zC at h ⊢
    cases hb : Nat.ble (zlay as).length (zl mi) with
    | false => rw [hb] at h; exact h
    | true =>
      rw [hb] at h
      exact zGo_mono (fun X S q => zStep_mono (zC_mono d) hK (fun _ q => q) mi S q) h
/-- one step of method mi inside a call at depth d + 1 (the law: its own script) -/
def zF (d mi : Nat) (K : zM → Option zV → Prop) (sL : Nat) (xs : Nat → Int) : (zS → Prop) → zS → Prop := fun X S => zStep (zC d) K sL xs X mi S
abbrev zfx : Nat → Int := fun _ => 0
def zG (d mi : Nat) (K : zM → Option zV → Prop) (sL : Nat) (xs : Nat → Int) (S : zS) : Prop := zGo (zF d mi K sL xs) S
theorem zG_fold {d mi : Nat} {K : zM → Option zV → Prop} {sL : Nat} {xs : Nat → Int} {S : zS} (h : zStep (zC d) K sL xs (zG d mi K sL xs) mi S) : zG d mi K sL xs S :=
  fun X hX hc => hX S (zStep_mono (zC_mono d) (fun _ _ q => q) (fun S q => q X hX hc) mi S h)
theorem zG_cut {d mi : Nat} {K : zM → Option zV → Prop} {sL : Nat} {xs : Nat → Int} {S : zS} (k : Nat) (h : zG d mi K sL xs (S.1, zcut k S.2.1, S.2.2)) : zG d mi K sL xs S :=
  fun X hX hc => hc S k (h X hX hc)
/-- where a run stops: a place of the code, and how many locals are kept there -/
def zst : List (Nat × Nat) → Nat → Option Nat
  | [], _ => none
  | (p, k) :: T, pc => match Nat.beq p pc with | true => some k | false => zst T pc
def zRun (d mi : Nat) (K : zM → Option zV → Prop) (sL : Nat) (xs : Nat → Int) (T : List (Nat × Nat)) : Nat → zS → Prop
  | 0, S => zG d mi K sL xs S
  | n + 1, S => match zst T S.1 with
    | some k => zG d mi K sL xs (S.1, zcut k S.2.1, S.2.2)
    | none => zStep (zC d) K sL xs (zRun d mi K sL xs T n) mi S
theorem zRun_G {d mi : Nat} {K : zM → Option zV → Prop} {sL : Nat} {xs : Nat → Int} {T : List (Nat × Nat)} : ∀ (n : Nat) (S : zS), zRun d mi K sL xs T n S → zG d mi K sL xs S
  | 0, _, h => h
  | n + 1, S, h => by
    unfold zRun at h
    cases hz : zst T S.1 with
    | some k => rw [hz] at h; exact zG_cut k h
    | none => rw [hz] at h; exact zG_fold (zStep_mono (zC_mono d) (fun _ _ q => q) (fun S q => zRun_G n S q) mi S h)
/-- the rule: run on from S to the next stops -/
theorem zG_run (T : List (Nat × Nat)) (n : Nat) {d mi : Nat} {K : zM → Option zV → Prop} {sL : Nat} {xs : Nat → Int} {S : zS} (h : zStep (zC d) K sL xs (zRun d mi K sL xs T n) mi S) : zG d mi K sL xs S :=
  zG_fold (zStep_mono (zC_mono d) (fun _ _ q => q) (fun S q => zRun_G n S q) mi S h)
/-- the rule: a call's entry -/
theorem zC_in {d mi : Nat} {as : List zV} {σ : zM} {K : zM → Option zV → Prop} (hl : Nat.ble (zlay as).length (zl mi) = true) (h : zG d mi K 0 zfx (0, zpad (zl mi) (zlay as), [], σ)) : zC (d + 1) mi as σ K := by
  unfold zC
  rw [hl]
  exact h
def zrw : Nat → Nat := fun r => match r with | 0 => 2 | 1 => 7 | 2 => 22 | _ => 24
end
section
/-! the tables hold of the class files: every entry of zcode is the instruction that stands there; every word is among the tables' words -/
def zRetOk (mi : Nat) (ty : FieldType) : Bool := decide (zret mi = some ty)
def zchi (mi pc : Nat) (i : Instr) (ln : Nat) (e : zE) : Bool := match e with
  | (op, nxt, a, b, z) => Nat.beq nxt (pc + ln) && (match op with
    | 0 => (match i with | .iconst n => decide (ln = 1 ∧ n = z ∧ -1 ≤ z ∧ z ≤ 5) | .bipush n => decide (ln = 2 ∧ n = z ∧ -128 ≤ z ∧ z < 128) | .sipush n => decide (ln = 3 ∧ n = z ∧ -32768 ≤ z ∧ z < 32768) | .ldc n => decide (ln = 2 ∧ n = a ∧ (zown mi, a, z) ∈ zcst) | .ldc_w n => decide (ln = 3 ∧ n = a ∧ (zown mi, a, z) ∈ zcst) | _ => false)
    | 1 => (match i with | .iload_n k => decide (ln = 1 ∧ (k : Nat) = a) | .iload k => decide (ln = 2 ∧ k = a) | _ => false)
    | 2 => (match i with | .aload_n k => decide (ln = 1 ∧ (k : Nat) = a) | .aload k => decide (ln = 2 ∧ k = a) | _ => false)
    | 3 => (match i with | .lload_n k => decide (ln = 1 ∧ (k : Nat) = a) | .lload k => decide (ln = 2 ∧ k = a) | _ => false)
    | 4 => (match i with | .istore_n k => decide (ln = 1 ∧ (k : Nat) = a ∧ a < zl mi) | .istore k => decide (ln = 2 ∧ k = a ∧ a < zl mi) | _ => false)
    | 5 => (match i with | .astore_n k => decide (ln = 1 ∧ (k : Nat) = a ∧ a < zl mi) | .astore k => decide (ln = 2 ∧ k = a ∧ a < zl mi) | _ => false)
    | 6 => (match i with | .lstore_n k => decide (ln = 1 ∧ (k : Nat) = a ∧ a + 1 < zl mi) | .lstore k => decide (ln = 2 ∧ k = a ∧ a + 1 < zl mi) | _ => false)
    | 7 => (match i with | .iinc k n => decide (ln = 3 ∧ k = a ∧ n = z ∧ a < zl mi) | _ => false)
    | 8 => (match i with | .iadd => decide (ln = 1 ∧ a = 0) | .isub => decide (ln = 1 ∧ a = 1) | .imul => decide (ln = 1 ∧ a = 2) | .iand => decide (ln = 1 ∧ a = 3) | .ior => decide (ln = 1 ∧ a = 4) | .ishl => decide (ln = 1 ∧ a = 5) | .ishr => decide (ln = 1 ∧ a = 6) | .iushr => decide (ln = 1 ∧ a = 7) | _ => false)
    | 9 => (match i with | .idiv => decide (ln = 1) | _ => false)
    | 10 => (match i with | .irem => decide (ln = 1) | _ => false)
    | 11 => (match i with | .ladd => decide (ln = 1 ∧ a = 0) | .lmul => decide (ln = 1 ∧ a = 1) | .land => decide (ln = 1 ∧ a = 2) | .lor => decide (ln = 1 ∧ a = 3) | _ => false)
    | 12 => (match i with | .lshl => decide (ln = 1 ∧ a = 0) | .lshr => decide (ln = 1 ∧ a = 1) | _ => false)
    | 13 => (match i with | .i2l => decide (ln = 1 ∧ a = 0) | .l2i => decide (ln = 1 ∧ a = 1) | .i2b => decide (ln = 1 ∧ a = 2) | .i2s => decide (ln = 1 ∧ a = 3) | .i2c => decide (ln = 1 ∧ a = 4) | _ => false)
    | 14 => (match i with | .lcmp => decide (ln = 1) | _ => false)
    | 15 => (match i with | .lconst n => decide (ln = 1 ∧ ((n : Nat) : Int) = z) | .ldc2_w n => decide (ln = 3 ∧ n = a ∧ (zown mi, a, z) ∈ zcstl) | _ => false)
    | 16 => (match i with | .ifCond .eq o => decide (ln = 3 ∧ a = 0 ∧ (pc : Int) + o = (b : Int)) | .ifCond .ne o => decide (ln = 3 ∧ a = 1 ∧ (pc : Int) + o = (b : Int)) | .ifCond .lt o => decide (ln = 3 ∧ a = 2 ∧ (pc : Int) + o = (b : Int)) | .ifCond .ge o => decide (ln = 3 ∧ a = 3 ∧ (pc : Int) + o = (b : Int)) | .ifCond .gt o => decide (ln = 3 ∧ a = 4 ∧ (pc : Int) + o = (b : Int)) | .ifCond .le o => decide (ln = 3 ∧ a = 5 ∧ (pc : Int) + o = (b : Int)) | _ => false)
    | 17 => (match i with | .if_icmp .eq o => decide (ln = 3 ∧ a = 0 ∧ (pc : Int) + o = (b : Int)) | .if_icmp .ne o => decide (ln = 3 ∧ a = 1 ∧ (pc : Int) + o = (b : Int)) | .if_icmp .lt o => decide (ln = 3 ∧ a = 2 ∧ (pc : Int) + o = (b : Int)) | .if_icmp .ge o => decide (ln = 3 ∧ a = 3 ∧ (pc : Int) + o = (b : Int)) | .if_icmp .gt o => decide (ln = 3 ∧ a = 4 ∧ (pc : Int) + o = (b : Int)) | .if_icmp .le o => decide (ln = 3 ∧ a = 5 ∧ (pc : Int) + o = (b : Int)) | _ => false)
    | 18 => (match i with | .ifnull o => decide (ln = 3 ∧ a = 0 ∧ (pc : Int) + o = (b : Int)) | .ifnonnull o => decide (ln = 3 ∧ a = 1 ∧ (pc : Int) + o = (b : Int)) | _ => false)
    | 19 => (match i with | .goto o => decide (ln = 3 ∧ (pc : Int) + o = (b : Int)) | _ => false)
    | 20 => (match i with | .getfield n => decide (ln = 3 ∧ 0 ≤ z) && zfld.any (fun q => decide (q = (zown mi, n, z.toNat, a, b))) | _ => false)
    | 21 => (match i with | .putfield n => decide (ln = 3 ∧ 0 ≤ z ∧ zty a b = .int ∧ (zT a b).2.2.2 = false) && zfld.any (fun q => decide (q = (zown mi, n, z.toNat, a, b))) | _ => false)
    | 22 => (match i with | .putfield n => decide (ln = 3 ∧ 0 ≤ z ∧ zty a b = .boolean ∧ (zT a b).2.2.2 = false) && zfld.any (fun q => decide (q = (zown mi, n, z.toNat, a, b))) | _ => false)
    | 23 => (match i with | .iaload => decide (ln = 1) | _ => false)
    | 24 => (match i with | .iastore => decide (ln = 1) | _ => false)
    | 25 => (match i with | .baload => decide (ln = 1) | _ => false)
    | 26 => (match i with | .bastore => decide (ln = 1) | _ => false)
    | 27 => (match i with | .arraylength => decide (ln = 1) | _ => false)
    | 28 => (match i with | .invokevirtual n => decide (ln = 3 ∧ 0 ≤ z ∧ zkd a = 0 ∧ b = zar a + 1) && zcall.any (fun q => decide (q = (zown mi, n, z.toNat, a))) | .invokestatic n => decide (ln = 3 ∧ z = 0 ∧ zkd a = 1 ∧ b = zar a) && zcall.any (fun q => decide (q = (zown mi, n, z.toNat, a))) | _ => false)
    | 29 => (match i with | .invokestatic n => decide (ln = 3) && zacp.any (fun q => decide (q = (zown mi, n))) | _ => false)
    | 30 => (match i with | .dup => decide (ln = 1) | _ => false)
    | 31 => (match i with | .dup2 => decide (ln = 1) | _ => false)
    | 32 => (match i with | .pop => decide (ln = 1) | _ => false)
    | 33 => (match i with | .aconst_null => decide (ln = 1) | _ => false)
    | 34 => (match i with | .ireturn => decide (ln = 1 ∧ zret mi = some .int) | _ => false)
    | 35 => (match i with | .ireturn => decide (ln = 1 ∧ zret mi = some .boolean) | _ => false)
    | 36 => (match i with | .ireturn => decide (ln = 1 ∧ zret mi = some .byte) | _ => false)
    | 37 => (match i with | .return_ => decide (ln = 1 ∧ zret mi = none) | _ => false)
    | 38 => (match i with | .ldc n => decide (ln = 2 ∧ n = 112 ∧ zown mi = 5) | _ => false)
    | 39 => (match i with | .lreturn => decide (ln = 1 ∧ zret mi = some .long) | _ => false)
    | 40 => (match i with | .areturn => decide (ln = 1 ∧ zret mi = some (.object "PaleFence$Sheet")) | _ => false)
    | 41 => (match i with | .baload => decide (ln = 1) | _ => false)
    | 42 => (match i with | .tableswitch d lo hi offs => decide (lo = 0 ∧ hi = 33 ∧ (pc : Int) + d = (zswd : Int) ∧ offs.size = 34 ∧ mi = 140) && (List.range 34).all (fun j => decide ((pc : Int) + offs.getD j 0 = ((zswl.getD j 0 : Nat) : Int))) | _ => false)
    | 43 => (match i with | .getfield n => decide (ln = 3 ∧ n = a ∧ (a = 9 ∨ a = 15) ∧ zown mi = 7) | _ => false)
    | 44 => (match i with | .iaload => decide (ln = 1 ∧ mi = 140) | _ => false)
    | 45 => (match i with | .aaload => decide (ln = 1) | _ => false)
    | 46 => (match i with | .getstatic n => decide (ln = 3 ∧ n = 38 ∧ zown mi = 7) | _ => false)
    | 47 => (match i with | .arraylength => decide (ln = 1 ∧ mi = 140) | _ => false)
    | _ => false)
def zchk (mi pc : Nat) : Bool := match (zcode mi pc).1 with
  | 99 => true
  | _ => (match decode (zb mi) pc with
    | .ok (i, ln) => zchi mi pc i ln (zcode mi pc)
    | .error _ => false)
theorem zk_0_0 : (List.range 18).all (fun j => zchk 0 (0 + j)) = true := by decide +kernel
theorem zk_1_0 : (List.range 24).all (fun j => zchk 1 (0 + j)) = true := by decide +kernel
theorem zk_2_0 : (List.range 21).all (fun j => zchk 2 (0 + j)) = true := by decide +kernel
theorem zk_3_0 : (List.range 40).all (fun j => zchk 3 (0 + j)) = true := by decide +kernel
theorem zk_4_0 : (List.range 15).all (fun j => zchk 4 (0 + j)) = true := by decide +kernel
theorem zk_5_0 : (List.range 50).all (fun j => zchk 5 (0 + j)) = true := by decide +kernel
theorem zk_6_0 : (List.range 34).all (fun j => zchk 6 (0 + j)) = true := by decide +kernel
theorem zk_7_0 : (List.range 48).all (fun j => zchk 7 (0 + j)) = true := by decide +kernel
theorem zk_8_0 : (List.range 18).all (fun j => zchk 8 (0 + j)) = true := by decide +kernel
theorem zk_9_0 : (List.range 24).all (fun j => zchk 9 (0 + j)) = true := by decide +kernel
theorem zk_10_0 : (List.range 21).all (fun j => zchk 10 (0 + j)) = true := by decide +kernel
theorem zk_11_0 : (List.range 31).all (fun j => zchk 11 (0 + j)) = true := by decide +kernel
theorem zk_12_0 : (List.range 39).all (fun j => zchk 12 (0 + j)) = true := by decide +kernel
theorem zk_13_0 : (List.range 30).all (fun j => zchk 13 (0 + j)) = true := by decide +kernel
theorem zk_14_0 : (List.range 32).all (fun j => zchk 14 (0 + j)) = true := by decide +kernel
theorem zk_15_0 : (List.range 24).all (fun j => zchk 15 (0 + j)) = true := by decide +kernel
theorem zk_16_0 : (List.range 60).all (fun j => zchk 16 (0 + j)) = true := by decide +kernel
theorem zk_16_60 : (List.range 17).all (fun j => zchk 16 (60 + j)) = true := by decide +kernel
theorem zk_17_0 : (List.range 60).all (fun j => zchk 17 (0 + j)) = true := by decide +kernel
theorem zk_17_60 : (List.range 26).all (fun j => zchk 17 (60 + j)) = true := by decide +kernel
theorem zk_18_0 : (List.range 60).all (fun j => zchk 18 (0 + j)) = true := by decide +kernel
theorem zk_18_60 : (List.range 28).all (fun j => zchk 18 (60 + j)) = true := by decide +kernel
theorem zk_19_0 : (List.range 7).all (fun j => zchk 19 (0 + j)) = true := by decide +kernel
theorem zk_20_0 : (List.range 32).all (fun j => zchk 20 (0 + j)) = true := by decide +kernel
theorem zk_21_0 : (List.range 24).all (fun j => zchk 21 (0 + j)) = true := by decide +kernel
theorem zk_22_0 : (List.range 59).all (fun j => zchk 22 (0 + j)) = true := by decide +kernel
theorem zk_23_0 : (List.range 35).all (fun j => zchk 23 (0 + j)) = true := by decide +kernel
theorem zk_24_0 : (List.range 38).all (fun j => zchk 24 (0 + j)) = true := by decide +kernel
theorem zk_25_0 : (List.range 25).all (fun j => zchk 25 (0 + j)) = true := by decide +kernel
theorem zk_26_0 : (List.range 40).all (fun j => zchk 26 (0 + j)) = true := by decide +kernel
theorem zk_27_0 : (List.range 60).all (fun j => zchk 27 (0 + j)) = true := by decide +kernel
theorem zk_27_60 : (List.range 16).all (fun j => zchk 27 (60 + j)) = true := by decide +kernel
theorem zk_28_0 : (List.range 47).all (fun j => zchk 28 (0 + j)) = true := by decide +kernel
theorem zk_29_0 : (List.range 60).all (fun j => zchk 29 (0 + j)) = true := by decide +kernel
theorem zk_29_60 : (List.range 19).all (fun j => zchk 29 (60 + j)) = true := by decide +kernel
theorem zk_30_0 : (List.range 60).all (fun j => zchk 30 (0 + j)) = true := by decide +kernel
theorem zk_30_60 : (List.range 20).all (fun j => zchk 30 (60 + j)) = true := by decide +kernel
theorem zk_31_0 : (List.range 52).all (fun j => zchk 31 (0 + j)) = true := by decide +kernel
theorem zk_32_0 : (List.range 30).all (fun j => zchk 32 (0 + j)) = true := by decide +kernel
theorem zk_33_0 : (List.range 60).all (fun j => zchk 33 (0 + j)) = true := by decide +kernel
theorem zk_33_60 : (List.range 46).all (fun j => zchk 33 (60 + j)) = true := by decide +kernel
theorem zk_34_0 : (List.range 12).all (fun j => zchk 34 (0 + j)) = true := by decide +kernel
theorem zk_35_0 : (List.range 40).all (fun j => zchk 35 (0 + j)) = true := by decide +kernel
theorem zk_36_0 : (List.range 60).all (fun j => zchk 36 (0 + j)) = true := by decide +kernel
theorem zk_36_60 : (List.range 37).all (fun j => zchk 36 (60 + j)) = true := by decide +kernel
theorem zk_37_0 : (List.range 60).all (fun j => zchk 37 (0 + j)) = true := by decide +kernel
theorem zk_37_60 : (List.range 40).all (fun j => zchk 37 (60 + j)) = true := by decide +kernel
theorem zk_38_0 : (List.range 60).all (fun j => zchk 38 (0 + j)) = true := by decide +kernel
theorem zk_38_60 : (List.range 4).all (fun j => zchk 38 (60 + j)) = true := by decide +kernel
theorem zk_39_0 : (List.range 15).all (fun j => zchk 39 (0 + j)) = true := by decide +kernel
theorem zk_40_0 : (List.range 60).all (fun j => zchk 40 (0 + j)) = true := by decide +kernel
theorem zk_40_60 : (List.range 32).all (fun j => zchk 40 (60 + j)) = true := by decide +kernel
theorem zk_41_0 : (List.range 60).all (fun j => zchk 41 (0 + j)) = true := by decide +kernel
theorem zk_41_60 : (List.range 17).all (fun j => zchk 41 (60 + j)) = true := by decide +kernel
theorem zk_42_0 : (List.range 30).all (fun j => zchk 42 (0 + j)) = true := by decide +kernel
theorem zk_43_0 : (List.range 60).all (fun j => zchk 43 (0 + j)) = true := by decide +kernel
theorem zk_43_60 : (List.range 1).all (fun j => zchk 43 (60 + j)) = true := by decide +kernel
theorem zk_44_0 : (List.range 60).all (fun j => zchk 44 (0 + j)) = true := by decide +kernel
theorem zk_44_60 : (List.range 17).all (fun j => zchk 44 (60 + j)) = true := by decide +kernel
theorem zk_45_0 : (List.range 60).all (fun j => zchk 45 (0 + j)) = true := by decide +kernel
theorem zk_45_60 : (List.range 29).all (fun j => zchk 45 (60 + j)) = true := by decide +kernel
theorem zk_46_0 : (List.range 60).all (fun j => zchk 46 (0 + j)) = true := by decide +kernel
theorem zk_46_60 : (List.range 12).all (fun j => zchk 46 (60 + j)) = true := by decide +kernel
theorem zk_47_0 : (List.range 38).all (fun j => zchk 47 (0 + j)) = true := by decide +kernel
theorem zk_48_0 : (List.range 39).all (fun j => zchk 48 (0 + j)) = true := by decide +kernel
theorem zk_49_0 : (List.range 60).all (fun j => zchk 49 (0 + j)) = true := by decide +kernel
theorem zk_49_60 : (List.range 56).all (fun j => zchk 49 (60 + j)) = true := by decide +kernel
theorem zk_50_0 : (List.range 60).all (fun j => zchk 50 (0 + j)) = true := by decide +kernel
theorem zk_50_60 : (List.range 15).all (fun j => zchk 50 (60 + j)) = true := by decide +kernel
theorem zk_51_0 : (List.range 60).all (fun j => zchk 51 (0 + j)) = true := by decide +kernel
theorem zk_51_60 : (List.range 42).all (fun j => zchk 51 (60 + j)) = true := by decide +kernel
theorem zk_52_0 : (List.range 60).all (fun j => zchk 52 (0 + j)) = true := by decide +kernel
theorem zk_52_60 : (List.range 36).all (fun j => zchk 52 (60 + j)) = true := by decide +kernel
theorem zk_53_0 : (List.range 60).all (fun j => zchk 53 (0 + j)) = true := by decide +kernel
theorem zk_53_60 : (List.range 34).all (fun j => zchk 53 (60 + j)) = true := by decide +kernel
theorem zk_54_0 : (List.range 60).all (fun j => zchk 54 (0 + j)) = true := by decide +kernel
theorem zk_54_60 : (List.range 43).all (fun j => zchk 54 (60 + j)) = true := by decide +kernel
theorem zk_55_0 : (List.range 60).all (fun j => zchk 55 (0 + j)) = true := by decide +kernel
theorem zk_55_60 : (List.range 4).all (fun j => zchk 55 (60 + j)) = true := by decide +kernel
theorem zk_56_0 : (List.range 60).all (fun j => zchk 56 (0 + j)) = true := by decide +kernel
theorem zk_56_60 : (List.range 4).all (fun j => zchk 56 (60 + j)) = true := by decide +kernel
theorem zk_57_0 : (List.range 53).all (fun j => zchk 57 (0 + j)) = true := by decide +kernel
theorem zk_58_0 : (List.range 60).all (fun j => zchk 58 (0 + j)) = true := by decide +kernel
theorem zk_58_60 : (List.range 38).all (fun j => zchk 58 (60 + j)) = true := by decide +kernel
theorem zk_59_0 : (List.range 56).all (fun j => zchk 59 (0 + j)) = true := by decide +kernel
theorem zk_60_0 : (List.range 60).all (fun j => zchk 60 (0 + j)) = true := by decide +kernel
theorem zk_60_60 : (List.range 60).all (fun j => zchk 60 (60 + j)) = true := by decide +kernel
theorem zk_60_120 : (List.range 10).all (fun j => zchk 60 (120 + j)) = true := by decide +kernel
theorem zk_61_0 : (List.range 53).all (fun j => zchk 61 (0 + j)) = true := by decide +kernel
theorem zk_62_0 : (List.range 24).all (fun j => zchk 62 (0 + j)) = true := by decide +kernel
theorem zk_63_0 : (List.range 18).all (fun j => zchk 63 (0 + j)) = true := by decide +kernel
theorem zk_64_0 : (List.range 23).all (fun j => zchk 64 (0 + j)) = true := by decide +kernel
theorem zk_65_0 : (List.range 60).all (fun j => zchk 65 (0 + j)) = true := by decide +kernel
theorem zk_65_60 : (List.range 60).all (fun j => zchk 65 (60 + j)) = true := by decide +kernel
theorem zk_65_120 : (List.range 60).all (fun j => zchk 65 (120 + j)) = true := by decide +kernel
theorem zk_65_180 : (List.range 13).all (fun j => zchk 65 (180 + j)) = true := by decide +kernel
theorem zk_66_0 : (List.range 60).all (fun j => zchk 66 (0 + j)) = true := by decide +kernel
theorem zk_66_60 : (List.range 17).all (fun j => zchk 66 (60 + j)) = true := by decide +kernel
theorem zk_67_0 : (List.range 60).all (fun j => zchk 67 (0 + j)) = true := by decide +kernel
theorem zk_67_60 : (List.range 60).all (fun j => zchk 67 (60 + j)) = true := by decide +kernel
theorem zk_67_120 : (List.range 11).all (fun j => zchk 67 (120 + j)) = true := by decide +kernel
theorem zk_68_0 : (List.range 60).all (fun j => zchk 68 (0 + j)) = true := by decide +kernel
theorem zk_68_60 : (List.range 60).all (fun j => zchk 68 (60 + j)) = true := by decide +kernel
theorem zk_68_120 : (List.range 6).all (fun j => zchk 68 (120 + j)) = true := by decide +kernel
theorem zk_69_0 : (List.range 60).all (fun j => zchk 69 (0 + j)) = true := by decide +kernel
theorem zk_69_60 : (List.range 35).all (fun j => zchk 69 (60 + j)) = true := by decide +kernel
theorem zk_70_0 : (List.range 43).all (fun j => zchk 70 (0 + j)) = true := by decide +kernel
theorem zk_71_0 : (List.range 35).all (fun j => zchk 71 (0 + j)) = true := by decide +kernel
theorem zk_72_0 : (List.range 40).all (fun j => zchk 72 (0 + j)) = true := by decide +kernel
theorem zk_73_0 : (List.range 60).all (fun j => zchk 73 (0 + j)) = true := by decide +kernel
theorem zk_73_60 : (List.range 50).all (fun j => zchk 73 (60 + j)) = true := by decide +kernel
theorem zk_74_0 : (List.range 51).all (fun j => zchk 74 (0 + j)) = true := by decide +kernel
theorem zk_75_0 : (List.range 24).all (fun j => zchk 75 (0 + j)) = true := by decide +kernel
theorem zk_76_0 : (List.range 15).all (fun j => zchk 76 (0 + j)) = true := by decide +kernel
theorem zk_77_0 : (List.range 19).all (fun j => zchk 77 (0 + j)) = true := by decide +kernel
theorem zk_78_0 : (List.range 16).all (fun j => zchk 78 (0 + j)) = true := by decide +kernel
theorem zk_79_0 : (List.range 60).all (fun j => zchk 79 (0 + j)) = true := by decide +kernel
theorem zk_79_60 : (List.range 60).all (fun j => zchk 79 (60 + j)) = true := by decide +kernel
theorem zk_79_120 : (List.range 53).all (fun j => zchk 79 (120 + j)) = true := by decide +kernel
theorem zk_80_0 : (List.range 60).all (fun j => zchk 80 (0 + j)) = true := by decide +kernel
theorem zk_80_60 : (List.range 19).all (fun j => zchk 80 (60 + j)) = true := by decide +kernel
theorem zk_81_0 : (List.range 25).all (fun j => zchk 81 (0 + j)) = true := by decide +kernel
theorem zk_82_0 : (List.range 40).all (fun j => zchk 82 (0 + j)) = true := by decide +kernel
theorem zk_83_0 : (List.range 49).all (fun j => zchk 83 (0 + j)) = true := by decide +kernel
theorem zk_84_0 : (List.range 22).all (fun j => zchk 84 (0 + j)) = true := by decide +kernel
theorem zk_85_0 : (List.range 16).all (fun j => zchk 85 (0 + j)) = true := by decide +kernel
theorem zk_86_0 : (List.range 16).all (fun j => zchk 86 (0 + j)) = true := by decide +kernel
theorem zk_87_0 : (List.range 57).all (fun j => zchk 87 (0 + j)) = true := by decide +kernel
theorem zk_88_0 : (List.range 37).all (fun j => zchk 88 (0 + j)) = true := by decide +kernel
theorem zk_89_0 : (List.range 44).all (fun j => zchk 89 (0 + j)) = true := by decide +kernel
theorem zk_90_0 : (List.range 60).all (fun j => zchk 90 (0 + j)) = true := by decide +kernel
theorem zk_90_60 : (List.range 7).all (fun j => zchk 90 (60 + j)) = true := by decide +kernel
theorem zk_91_0 : (List.range 44).all (fun j => zchk 91 (0 + j)) = true := by decide +kernel
theorem zk_92_0 : (List.range 22).all (fun j => zchk 92 (0 + j)) = true := by decide +kernel
theorem zk_93_0 : (List.range 60).all (fun j => zchk 93 (0 + j)) = true := by decide +kernel
theorem zk_93_60 : (List.range 60).all (fun j => zchk 93 (60 + j)) = true := by decide +kernel
theorem zk_93_120 : (List.range 20).all (fun j => zchk 93 (120 + j)) = true := by decide +kernel
theorem zk_94_0 : (List.range 43).all (fun j => zchk 94 (0 + j)) = true := by decide +kernel
theorem zk_95_0 : (List.range 60).all (fun j => zchk 95 (0 + j)) = true := by decide +kernel
theorem zk_95_60 : (List.range 60).all (fun j => zchk 95 (60 + j)) = true := by decide +kernel
theorem zk_95_120 : (List.range 1).all (fun j => zchk 95 (120 + j)) = true := by decide +kernel
theorem zk_96_0 : (List.range 60).all (fun j => zchk 96 (0 + j)) = true := by decide +kernel
theorem zk_96_60 : (List.range 46).all (fun j => zchk 96 (60 + j)) = true := by decide +kernel
theorem zk_97_0 : (List.range 44).all (fun j => zchk 97 (0 + j)) = true := by decide +kernel
theorem zk_98_0 : (List.range 23).all (fun j => zchk 98 (0 + j)) = true := by decide +kernel
theorem zk_99_0 : (List.range 60).all (fun j => zchk 99 (0 + j)) = true := by decide +kernel
theorem zk_99_60 : (List.range 10).all (fun j => zchk 99 (60 + j)) = true := by decide +kernel
theorem zk_100_0 : (List.range 60).all (fun j => zchk 100 (0 + j)) = true := by decide +kernel
theorem zk_100_60 : (List.range 60).all (fun j => zchk 100 (60 + j)) = true := by decide +kernel
theorem zk_100_120 : (List.range 35).all (fun j => zchk 100 (120 + j)) = true := by decide +kernel
theorem zk_101_0 : (List.range 26).all (fun j => zchk 101 (0 + j)) = true := by decide +kernel
theorem zk_102_0 : (List.range 43).all (fun j => zchk 102 (0 + j)) = true := by decide +kernel
theorem zk_103_0 : (List.range 60).all (fun j => zchk 103 (0 + j)) = true := by decide +kernel
theorem zk_103_60 : (List.range 9).all (fun j => zchk 103 (60 + j)) = true := by decide +kernel
theorem zk_104_0 : (List.range 60).all (fun j => zchk 104 (0 + j)) = true := by decide +kernel
theorem zk_104_60 : (List.range 32).all (fun j => zchk 104 (60 + j)) = true := by decide +kernel
theorem zk_105_0 : (List.range 60).all (fun j => zchk 105 (0 + j)) = true := by decide +kernel
theorem zk_105_60 : (List.range 2).all (fun j => zchk 105 (60 + j)) = true := by decide +kernel
theorem zk_106_0 : (List.range 60).all (fun j => zchk 106 (0 + j)) = true := by decide +kernel
theorem zk_106_60 : (List.range 58).all (fun j => zchk 106 (60 + j)) = true := by decide +kernel
theorem zk_107_0 : (List.range 55).all (fun j => zchk 107 (0 + j)) = true := by decide +kernel
theorem zk_108_0 : (List.range 60).all (fun j => zchk 108 (0 + j)) = true := by decide +kernel
theorem zk_108_60 : (List.range 12).all (fun j => zchk 108 (60 + j)) = true := by decide +kernel
theorem zk_109_0 : (List.range 60).all (fun j => zchk 109 (0 + j)) = true := by decide +kernel
theorem zk_109_60 : (List.range 60).all (fun j => zchk 109 (60 + j)) = true := by decide +kernel
theorem zk_109_120 : (List.range 38).all (fun j => zchk 109 (120 + j)) = true := by decide +kernel
theorem zk_110_0 : (List.range 31).all (fun j => zchk 110 (0 + j)) = true := by decide +kernel
theorem zk_111_0 : (List.range 60).all (fun j => zchk 111 (0 + j)) = true := by decide +kernel
theorem zk_111_60 : (List.range 60).all (fun j => zchk 111 (60 + j)) = true := by decide +kernel
theorem zk_111_120 : (List.range 60).all (fun j => zchk 111 (120 + j)) = true := by decide +kernel
theorem zk_111_180 : (List.range 49).all (fun j => zchk 111 (180 + j)) = true := by decide +kernel
theorem zk_112_0 : (List.range 60).all (fun j => zchk 112 (0 + j)) = true := by decide +kernel
theorem zk_112_60 : (List.range 17).all (fun j => zchk 112 (60 + j)) = true := by decide +kernel
theorem zk_113_0 : (List.range 60).all (fun j => zchk 113 (0 + j)) = true := by decide +kernel
theorem zk_113_60 : (List.range 6).all (fun j => zchk 113 (60 + j)) = true := by decide +kernel
theorem zk_114_0 : (List.range 30).all (fun j => zchk 114 (0 + j)) = true := by decide +kernel
theorem zk_115_0 : (List.range 60).all (fun j => zchk 115 (0 + j)) = true := by decide +kernel
theorem zk_115_60 : (List.range 60).all (fun j => zchk 115 (60 + j)) = true := by decide +kernel
theorem zk_115_120 : (List.range 41).all (fun j => zchk 115 (120 + j)) = true := by decide +kernel
theorem zk_116_0 : (List.range 15).all (fun j => zchk 116 (0 + j)) = true := by decide +kernel
theorem zk_117_0 : (List.range 33).all (fun j => zchk 117 (0 + j)) = true := by decide +kernel
theorem zk_118_0 : (List.range 38).all (fun j => zchk 118 (0 + j)) = true := by decide +kernel
theorem zk_119_0 : (List.range 30).all (fun j => zchk 119 (0 + j)) = true := by decide +kernel
theorem zk_120_0 : (List.range 57).all (fun j => zchk 120 (0 + j)) = true := by decide +kernel
theorem zk_121_0 : (List.range 60).all (fun j => zchk 121 (0 + j)) = true := by decide +kernel
theorem zk_121_60 : (List.range 13).all (fun j => zchk 121 (60 + j)) = true := by decide +kernel
theorem zk_122_0 : (List.range 60).all (fun j => zchk 122 (0 + j)) = true := by decide +kernel
theorem zk_122_60 : (List.range 60).all (fun j => zchk 122 (60 + j)) = true := by decide +kernel
theorem zk_122_120 : (List.range 60).all (fun j => zchk 122 (120 + j)) = true := by decide +kernel
theorem zk_122_180 : (List.range 60).all (fun j => zchk 122 (180 + j)) = true := by decide +kernel
theorem zk_122_240 : (List.range 13).all (fun j => zchk 122 (240 + j)) = true := by decide +kernel
theorem zk_123_0 : (List.range 60).all (fun j => zchk 123 (0 + j)) = true := by decide +kernel
theorem zk_123_60 : (List.range 60).all (fun j => zchk 123 (60 + j)) = true := by decide +kernel
theorem zk_123_120 : (List.range 23).all (fun j => zchk 123 (120 + j)) = true := by decide +kernel
theorem zk_124_0 : (List.range 60).all (fun j => zchk 124 (0 + j)) = true := by decide +kernel
theorem zk_124_60 : (List.range 24).all (fun j => zchk 124 (60 + j)) = true := by decide +kernel
theorem zk_125_0 : (List.range 60).all (fun j => zchk 125 (0 + j)) = true := by decide +kernel
theorem zk_125_60 : (List.range 8).all (fun j => zchk 125 (60 + j)) = true := by decide +kernel
theorem zk_126_0 : (List.range 42).all (fun j => zchk 126 (0 + j)) = true := by decide +kernel
theorem zk_127_0 : (List.range 60).all (fun j => zchk 127 (0 + j)) = true := by decide +kernel
theorem zk_127_60 : (List.range 4).all (fun j => zchk 127 (60 + j)) = true := by decide +kernel
theorem zk_128_0 : (List.range 60).all (fun j => zchk 128 (0 + j)) = true := by decide +kernel
theorem zk_128_60 : (List.range 60).all (fun j => zchk 128 (60 + j)) = true := by decide +kernel
theorem zk_128_120 : (List.range 56).all (fun j => zchk 128 (120 + j)) = true := by decide +kernel
theorem zk_129_0 : (List.range 11).all (fun j => zchk 129 (0 + j)) = true := by decide +kernel
theorem zk_130_0 : (List.range 7).all (fun j => zchk 130 (0 + j)) = true := by decide +kernel
theorem zk_131_0 : (List.range 37).all (fun j => zchk 131 (0 + j)) = true := by decide +kernel
theorem zk_132_0 : (List.range 15).all (fun j => zchk 132 (0 + j)) = true := by decide +kernel
theorem zk_133_0 : (List.range 19).all (fun j => zchk 133 (0 + j)) = true := by decide +kernel
theorem zk_134_0 : (List.range 17).all (fun j => zchk 134 (0 + j)) = true := by decide +kernel
theorem zk_135_0 : (List.range 37).all (fun j => zchk 135 (0 + j)) = true := by decide +kernel
theorem zk_136_0 : (List.range 33).all (fun j => zchk 136 (0 + j)) = true := by decide +kernel
theorem zk_137_0 : (List.range 53).all (fun j => zchk 137 (0 + j)) = true := by decide +kernel
theorem zk_138_0 : (List.range 11).all (fun j => zchk 138 (0 + j)) = true := by decide +kernel
theorem zk_139_0 : (List.range 11).all (fun j => zchk 139 (0 + j)) = true := by decide +kernel
theorem zk_140_0 : (List.range 60).all (fun j => zchk 140 (0 + j)) = true := by decide +kernel
theorem zk_140_60 : (List.range 60).all (fun j => zchk 140 (60 + j)) = true := by decide +kernel
theorem zk_140_120 : (List.range 60).all (fun j => zchk 140 (120 + j)) = true := by decide +kernel
theorem zk_140_180 : (List.range 60).all (fun j => zchk 140 (180 + j)) = true := by decide +kernel
theorem zk_140_240 : (List.range 60).all (fun j => zchk 140 (240 + j)) = true := by decide +kernel
theorem zk_140_300 : (List.range 60).all (fun j => zchk 140 (300 + j)) = true := by decide +kernel
theorem zk_140_360 : (List.range 60).all (fun j => zchk 140 (360 + j)) = true := by decide +kernel
theorem zk_140_420 : (List.range 60).all (fun j => zchk 140 (420 + j)) = true := by decide +kernel
theorem zk_140_480 : (List.range 60).all (fun j => zchk 140 (480 + j)) = true := by decide +kernel
theorem zk_140_540 : (List.range 60).all (fun j => zchk 140 (540 + j)) = true := by decide +kernel
theorem zk_140_600 : (List.range 60).all (fun j => zchk 140 (600 + j)) = true := by decide +kernel
theorem zk_140_660 : (List.range 60).all (fun j => zchk 140 (660 + j)) = true := by decide +kernel
theorem zk_140_720 : (List.range 60).all (fun j => zchk 140 (720 + j)) = true := by decide +kernel
theorem zk_140_780 : (List.range 60).all (fun j => zchk 140 (780 + j)) = true := by decide +kernel
theorem zk_140_840 : (List.range 60).all (fun j => zchk 140 (840 + j)) = true := by decide +kernel
theorem zk_140_900 : (List.range 60).all (fun j => zchk 140 (900 + j)) = true := by decide +kernel
theorem zk_140_960 : (List.range 60).all (fun j => zchk 140 (960 + j)) = true := by decide +kernel
theorem zk_140_1020 : (List.range 60).all (fun j => zchk 140 (1020 + j)) = true := by decide +kernel
theorem zk_140_1080 : (List.range 60).all (fun j => zchk 140 (1080 + j)) = true := by decide +kernel
theorem zk_140_1140 : (List.range 60).all (fun j => zchk 140 (1140 + j)) = true := by decide +kernel
theorem zk_140_1200 : (List.range 14).all (fun j => zchk 140 (1200 + j)) = true := by decide +kernel
end
section
theorem zz_nothing : True := trivial
end
