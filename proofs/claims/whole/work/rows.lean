section
-- ===== PART A: goes FIRST, ahead of the names: the tables' words, and 'selects' of the private methods out of them =====
/-- a private method of a class that the tables say can be made, by its rows of tables_1 -/
def lw_okq (q : MethodName × Nat) : Prop := (q.1.cls ≠ "java/lang/invoke/MethodHandle" ∧ q.1.cls ≠ "java/lang/invoke/VarHandle") ∧ Cond.instantiable q.1.cls q.2 ∈ tables_1 ∧ Cond.privateMethod q.1 ∈ tables_1 ∧ Cond.instanceMethod q.1 ∈ tables_1
theorem lw_p0 : lw_okq (⟨"PaleFence$Row", "at", "(I)I"⟩, 2) := ⟨⟨by decide +kernel, by decide +kernel⟩, List.mem_of_getElem? (i := 31) (by decide +kernel), List.mem_of_getElem? (i := 148) (by decide +kernel), List.mem_of_getElem? (i := 149) (by decide +kernel)⟩
theorem lw_p1 : lw_okq (⟨"PaleFence$Rules", "priceOf", "(I)I"⟩, 4) := ⟨⟨by decide +kernel, by decide +kernel⟩, List.mem_of_getElem? (i := 48) (by decide +kernel), List.mem_of_getElem? (i := 156) (by decide +kernel), List.mem_of_getElem? (i := 157) (by decide +kernel)⟩
theorem lw_p2 : lw_okq (⟨"PaleFence$Rules", "setPrice", "(II)V"⟩, 4) := ⟨⟨by decide +kernel, by decide +kernel⟩, List.mem_of_getElem? (i := 48) (by decide +kernel), List.mem_of_getElem? (i := 160) (by decide +kernel), List.mem_of_getElem? (i := 161) (by decide +kernel)⟩
theorem lw_p3 : lw_okq (⟨"PaleFence$Rules", "hasColour", "(I)Z"⟩, 4) := ⟨⟨by decide +kernel, by decide +kernel⟩, List.mem_of_getElem? (i := 48) (by decide +kernel), List.mem_of_getElem? (i := 172) (by decide +kernel), List.mem_of_getElem? (i := 173) (by decide +kernel)⟩
theorem lw_p4 : lw_okq (⟨"PaleFence", "openBehind", "(I)I"⟩, 8) := ⟨⟨by decide +kernel, by decide +kernel⟩, List.mem_of_getElem? (i := 17) (by decide +kernel), List.mem_of_getElem? (i := 176) (by decide +kernel), List.mem_of_getElem? (i := 177) (by decide +kernel)⟩
theorem lw_p5 : lw_okq (⟨"PaleFence$Row", "takeFrom", "(LPaleFence$Row;I)V"⟩, 2) := ⟨⟨by decide +kernel, by decide +kernel⟩, List.mem_of_getElem? (i := 31) (by decide +kernel), List.mem_of_getElem? (i := 180) (by decide +kernel), List.mem_of_getElem? (i := 181) (by decide +kernel)⟩
theorem lw_p6 : lw_okq (⟨"PaleFence$Rules", "faultOf", "(LPaleFence$Row;)I"⟩, 4) := ⟨⟨by decide +kernel, by decide +kernel⟩, List.mem_of_getElem? (i := 48) (by decide +kernel), List.mem_of_getElem? (i := 193) (by decide +kernel), List.mem_of_getElem? (i := 194) (by decide +kernel)⟩
theorem lw_p7 : lw_okq (⟨"PaleFence$Rules", "stretchAtEnd", "(LPaleFence$Row;II)I"⟩, 4) := ⟨⟨by decide +kernel, by decide +kernel⟩, List.mem_of_getElem? (i := 48) (by decide +kernel), List.mem_of_getElem? (i := 197) (by decide +kernel), List.mem_of_getElem? (i := 198) (by decide +kernel)⟩
theorem lw_p8 : lw_okq (⟨"PaleFence$Row", "repeats", "(III)Z"⟩, 2) := ⟨⟨by decide +kernel, by decide +kernel⟩, List.mem_of_getElem? (i := 31) (by decide +kernel), List.mem_of_getElem? (i := 209) (by decide +kernel), List.mem_of_getElem? (i := 210) (by decide +kernel)⟩
theorem lw_p9 : lw_okq (⟨"PaleFence$Rules", "standsWith", "(LPaleFence$Row;I)Z"⟩, 4) := ⟨⟨by decide +kernel, by decide +kernel⟩, List.mem_of_getElem? (i := 48) (by decide +kernel), List.mem_of_getElem? (i := 214) (by decide +kernel), List.mem_of_getElem? (i := 215) (by decide +kernel)⟩
theorem lw_p10 : lw_okq (⟨"PaleFence$Row", "add", "(I)V"⟩, 2) := ⟨⟨by decide +kernel, by decide +kernel⟩, List.mem_of_getElem? (i := 31) (by decide +kernel), List.mem_of_getElem? (i := 218) (by decide +kernel), List.mem_of_getElem? (i := 219) (by decide +kernel)⟩
theorem lw_p11 : lw_okq (⟨"PaleFence$Row", "cut", "(I)V"⟩, 2) := ⟨⟨by decide +kernel, by decide +kernel⟩, List.mem_of_getElem? (i := 31) (by decide +kernel), List.mem_of_getElem? (i := 222) (by decide +kernel), List.mem_of_getElem? (i := 223) (by decide +kernel)⟩
theorem lw_p12 : lw_okq (⟨"PaleFence$Row", "has", "(I)Z"⟩, 2) := ⟨⟨by decide +kernel, by decide +kernel⟩, List.mem_of_getElem? (i := 31) (by decide +kernel), List.mem_of_getElem? (i := 235) (by decide +kernel), List.mem_of_getElem? (i := 236) (by decide +kernel)⟩
theorem lw_p13 : lw_okq (⟨"PaleFence$Tape", "add", "(I)V"⟩, 2) := ⟨⟨by decide +kernel, by decide +kernel⟩, List.mem_of_getElem? (i := 83) (by decide +kernel), List.mem_of_getElem? (i := 246) (by decide +kernel), List.mem_of_getElem? (i := 247) (by decide +kernel)⟩
theorem lw_p14 : lw_okq (⟨"PaleFence", "readText", "()I"⟩, 8) := ⟨⟨by decide +kernel, by decide +kernel⟩, List.mem_of_getElem? (i := 17) (by decide +kernel), List.mem_of_getElem? (i := 254) (by decide +kernel), List.mem_of_getElem? (i := 255) (by decide +kernel)⟩
theorem lw_p15 : lw_okq (⟨"PaleFence$Tape", "at", "(I)I"⟩, 2) := ⟨⟨by decide +kernel, by decide +kernel⟩, List.mem_of_getElem? (i := 83) (by decide +kernel), List.mem_of_getElem? (i := 258) (by decide +kernel), List.mem_of_getElem? (i := 259) (by decide +kernel)⟩
def lw_privs_1 : List (MethodName × Nat) := [(⟨"PaleFence$Row", "at", "(I)I"⟩, 2), (⟨"PaleFence$Rules", "priceOf", "(I)I"⟩, 4), (⟨"PaleFence$Rules", "setPrice", "(II)V"⟩, 4), (⟨"PaleFence$Rules", "hasColour", "(I)Z"⟩, 4), (⟨"PaleFence", "openBehind", "(I)I"⟩, 8), (⟨"PaleFence$Row", "takeFrom", "(LPaleFence$Row;I)V"⟩, 2), (⟨"PaleFence$Rules", "faultOf", "(LPaleFence$Row;)I"⟩, 4), (⟨"PaleFence$Rules", "stretchAtEnd", "(LPaleFence$Row;II)I"⟩, 4), (⟨"PaleFence$Row", "repeats", "(III)Z"⟩, 2), (⟨"PaleFence$Rules", "standsWith", "(LPaleFence$Row;I)Z"⟩, 4), (⟨"PaleFence$Row", "add", "(I)V"⟩, 2), (⟨"PaleFence$Row", "cut", "(I)V"⟩, 2), (⟨"PaleFence$Row", "has", "(I)Z"⟩, 2), (⟨"PaleFence$Tape", "add", "(I)V"⟩, 2), (⟨"PaleFence", "readText", "()I"⟩, 8), (⟨"PaleFence$Tape", "at", "(I)I"⟩, 2)]
theorem lw_r1 : ∀ q ∈ lw_privs_1, lw_okq q := List.forall_mem_cons.mpr ⟨lw_p0, List.forall_mem_cons.mpr ⟨lw_p1, List.forall_mem_cons.mpr ⟨lw_p2, List.forall_mem_cons.mpr ⟨lw_p3, List.forall_mem_cons.mpr ⟨lw_p4, List.forall_mem_cons.mpr ⟨lw_p5, List.forall_mem_cons.mpr ⟨lw_p6, List.forall_mem_cons.mpr ⟨lw_p7, List.forall_mem_cons.mpr ⟨lw_p8, List.forall_mem_cons.mpr ⟨lw_p9, List.forall_mem_cons.mpr ⟨lw_p10, List.forall_mem_cons.mpr ⟨lw_p11, List.forall_mem_cons.mpr ⟨lw_p12, List.forall_mem_cons.mpr ⟨lw_p13, List.forall_mem_cons.mpr ⟨lw_p14, List.forall_mem_cons.mpr ⟨lw_p15, fun _ h => absurd h List.not_mem_nil⟩⟩⟩⟩⟩⟩⟩⟩⟩⟩⟩⟩⟩⟩⟩⟩
theorem lw_p16 : lw_okq (⟨"PaleFence", "goBehind", "(II)I"⟩, 8) := ⟨⟨by decide +kernel, by decide +kernel⟩, List.mem_of_getElem? (i := 17) (by decide +kernel), List.mem_of_getElem? (i := 373) (by decide +kernel), List.mem_of_getElem? (i := 374) (by decide +kernel)⟩
theorem lw_p17 : lw_okq (⟨"PaleFence$Rules", "isRing", "(LPaleFence$Row;)Z"⟩, 4) := ⟨⟨by decide +kernel, by decide +kernel⟩, List.mem_of_getElem? (i := 48) (by decide +kernel), List.mem_of_getElem? (i := 396) (by decide +kernel), List.mem_of_getElem? (i := 397) (by decide +kernel)⟩
theorem lw_p18 : lw_okq (⟨"PaleFence$Rules", "leastPrice", "()I"⟩, 4) := ⟨⟨by decide +kernel, by decide +kernel⟩, List.mem_of_getElem? (i := 48) (by decide +kernel), List.mem_of_getElem? (i := 420) (by decide +kernel), List.mem_of_getElem? (i := 421) (by decide +kernel)⟩
theorem lw_p19 : lw_okq (⟨"PaleFence$Row", "takeOut", "(I)V"⟩, 2) := ⟨⟨by decide +kernel, by decide +kernel⟩, List.mem_of_getElem? (i := 31) (by decide +kernel), List.mem_of_getElem? (i := 440) (by decide +kernel), List.mem_of_getElem? (i := 441) (by decide +kernel)⟩
theorem lw_p20 : lw_okq (⟨"PaleFence$Row", "put", "(II)V"⟩, 2) := ⟨⟨by decide +kernel, by decide +kernel⟩, List.mem_of_getElem? (i := 31) (by decide +kernel), List.mem_of_getElem? (i := 445) (by decide +kernel), List.mem_of_getElem? (i := 446) (by decide +kernel)⟩
theorem lw_p21 : lw_okq (⟨"PaleFence$State", "takeFrom", "(LPaleFence$State;)V"⟩, 3) := ⟨⟨by decide +kernel, by decide +kernel⟩, List.mem_of_getElem? (i := 25) (by decide +kernel), List.mem_of_getElem? (i := 476) (by decide +kernel), List.mem_of_getElem? (i := 477) (by decide +kernel)⟩
theorem lw_p22 : lw_okq (⟨"PaleFence$Rules", "takeFrom", "(LPaleFence$Rules;)V"⟩, 4) := ⟨⟨by decide +kernel, by decide +kernel⟩, List.mem_of_getElem? (i := 48) (by decide +kernel), List.mem_of_getElem? (i := 481) (by decide +kernel), List.mem_of_getElem? (i := 482) (by decide +kernel)⟩
theorem lw_p23 : lw_okq (⟨"PaleFence", "pageAt", "(I)LPaleFence$Sheet;"⟩, 8) := ⟨⟨by decide +kernel, by decide +kernel⟩, List.mem_of_getElem? (i := 17) (by decide +kernel), List.mem_of_getElem? (i := 494) (by decide +kernel), List.mem_of_getElem? (i := 495) (by decide +kernel)⟩
theorem lw_p24 : lw_okq (⟨"PaleFence$Sheet", "reaches", "(II)Z"⟩, 3) := ⟨⟨by decide +kernel, by decide +kernel⟩, List.mem_of_getElem? (i := 100) (by decide +kernel), List.mem_of_getElem? (i := 504) (by decide +kernel), List.mem_of_getElem? (i := 505) (by decide +kernel)⟩
theorem lw_p25 : lw_okq (⟨"PaleFence", "readLost", "(LPaleFence$Sheet;II)Z"⟩, 8) := ⟨⟨by decide +kernel, by decide +kernel⟩, List.mem_of_getElem? (i := 17) (by decide +kernel), List.mem_of_getElem? (i := 508) (by decide +kernel), List.mem_of_getElem? (i := 509) (by decide +kernel)⟩
theorem lw_p26 : lw_okq (⟨"PaleFence$Sheet", "at", "(I)I"⟩, 3) := ⟨⟨by decide +kernel, by decide +kernel⟩, List.mem_of_getElem? (i := 100) (by decide +kernel), List.mem_of_getElem? (i := 512) (by decide +kernel), List.mem_of_getElem? (i := 513) (by decide +kernel)⟩
theorem lw_p27 : lw_okq (⟨"PaleFence$Rules", "holds", "(LPaleFence$Row;II)Z"⟩, 4) := ⟨⟨by decide +kernel, by decide +kernel⟩, List.mem_of_getElem? (i := 48) (by decide +kernel), List.mem_of_getElem? (i := 516) (by decide +kernel), List.mem_of_getElem? (i := 517) (by decide +kernel)⟩
theorem lw_p28 : lw_okq (⟨"PaleFence$Sheet", "put", "(II)V"⟩, 3) := ⟨⟨by decide +kernel, by decide +kernel⟩, List.mem_of_getElem? (i := 100) (by decide +kernel), List.mem_of_getElem? (i := 531) (by decide +kernel), List.mem_of_getElem? (i := 532) (by decide +kernel)⟩
theorem lw_p29 : lw_okq (⟨"PaleFence$Sheet", "renew", "(II)V"⟩, 3) := ⟨⟨by decide +kernel, by decide +kernel⟩, List.mem_of_getElem? (i := 100) (by decide +kernel), List.mem_of_getElem? (i := 539) (by decide +kernel), List.mem_of_getElem? (i := 540) (by decide +kernel)⟩
theorem lw_p30 : lw_okq (⟨"PaleFenceModel", "changed", "(II)I"⟩, 15) := ⟨⟨by decide +kernel, by decide +kernel⟩, List.mem_of_getElem? (i := 556) (by decide +kernel), List.mem_of_getElem? (i := 618) (by decide +kernel), List.mem_of_getElem? (i := 619) (by decide +kernel)⟩
theorem lw_p31 : lw_okq (⟨"PaleFenceModel", "isColour", "(I)Z"⟩, 15) := ⟨⟨by decide +kernel, by decide +kernel⟩, List.mem_of_getElem? (i := 556) (by decide +kernel), List.mem_of_getElem? (i := 637) (by decide +kernel), List.mem_of_getElem? (i := 638) (by decide +kernel)⟩
def lw_privs_2 : List (MethodName × Nat) := [(⟨"PaleFence", "goBehind", "(II)I"⟩, 8), (⟨"PaleFence$Rules", "isRing", "(LPaleFence$Row;)Z"⟩, 4), (⟨"PaleFence$Rules", "leastPrice", "()I"⟩, 4), (⟨"PaleFence$Row", "takeOut", "(I)V"⟩, 2), (⟨"PaleFence$Row", "put", "(II)V"⟩, 2), (⟨"PaleFence$State", "takeFrom", "(LPaleFence$State;)V"⟩, 3), (⟨"PaleFence$Rules", "takeFrom", "(LPaleFence$Rules;)V"⟩, 4), (⟨"PaleFence", "pageAt", "(I)LPaleFence$Sheet;"⟩, 8), (⟨"PaleFence$Sheet", "reaches", "(II)Z"⟩, 3), (⟨"PaleFence", "readLost", "(LPaleFence$Sheet;II)Z"⟩, 8), (⟨"PaleFence$Sheet", "at", "(I)I"⟩, 3), (⟨"PaleFence$Rules", "holds", "(LPaleFence$Row;II)Z"⟩, 4), (⟨"PaleFence$Sheet", "put", "(II)V"⟩, 3), (⟨"PaleFence$Sheet", "renew", "(II)V"⟩, 3), (⟨"PaleFenceModel", "changed", "(II)I"⟩, 15), (⟨"PaleFenceModel", "isColour", "(I)Z"⟩, 15)]
theorem lw_r2 : ∀ q ∈ lw_privs_2, lw_okq q := List.forall_mem_cons.mpr ⟨lw_p16, List.forall_mem_cons.mpr ⟨lw_p17, List.forall_mem_cons.mpr ⟨lw_p18, List.forall_mem_cons.mpr ⟨lw_p19, List.forall_mem_cons.mpr ⟨lw_p20, List.forall_mem_cons.mpr ⟨lw_p21, List.forall_mem_cons.mpr ⟨lw_p22, List.forall_mem_cons.mpr ⟨lw_p23, List.forall_mem_cons.mpr ⟨lw_p24, List.forall_mem_cons.mpr ⟨lw_p25, List.forall_mem_cons.mpr ⟨lw_p26, List.forall_mem_cons.mpr ⟨lw_p27, List.forall_mem_cons.mpr ⟨lw_p28, List.forall_mem_cons.mpr ⟨lw_p29, List.forall_mem_cons.mpr ⟨lw_p30, List.forall_mem_cons.mpr ⟨lw_p31, fun _ h => absurd h List.not_mem_nil⟩⟩⟩⟩⟩⟩⟩⟩⟩⟩⟩⟩⟩⟩⟩⟩
theorem lw_p32 : lw_okq (⟨"PaleFenceModel", "lay", "()I"⟩, 15) := ⟨⟨by decide +kernel, by decide +kernel⟩, List.mem_of_getElem? (i := 556) (by decide +kernel), List.mem_of_getElem? (i := 641) (by decide +kernel), List.mem_of_getElem? (i := 642) (by decide +kernel)⟩
theorem lw_p33 : lw_okq (⟨"PaleFenceModel", "faults", "(I)I"⟩, 15) := ⟨⟨by decide +kernel, by decide +kernel⟩, List.mem_of_getElem? (i := 556) (by decide +kernel), List.mem_of_getElem? (i := 645) (by decide +kernel), List.mem_of_getElem? (i := 646) (by decide +kernel)⟩
theorem lw_p34 : lw_okq (⟨"PaleFenceModel", "ends", "(I)I"⟩, 15) := ⟨⟨by decide +kernel, by decide +kernel⟩, List.mem_of_getElem? (i := 556) (by decide +kernel), List.mem_of_getElem? (i := 649) (by decide +kernel), List.mem_of_getElem? (i := 650) (by decide +kernel)⟩
theorem lw_p35 : lw_okq (⟨"PaleFenceModel", "isLike", "(II)Z"⟩, 15) := ⟨⟨by decide +kernel, by decide +kernel⟩, List.mem_of_getElem? (i := 556) (by decide +kernel), List.mem_of_getElem? (i := 653) (by decide +kernel), List.mem_of_getElem? (i := 654) (by decide +kernel)⟩
theorem lw_p36 : lw_okq (⟨"PaleFenceModel", "isPale", "(I)Z"⟩, 15) := ⟨⟨by decide +kernel, by decide +kernel⟩, List.mem_of_getElem? (i := 556) (by decide +kernel), List.mem_of_getElem? (i := 666) (by decide +kernel), List.mem_of_getElem? (i := 667) (by decide +kernel)⟩
theorem lw_p37 : lw_okq (⟨"PaleFenceModel", "mayCome", "(I)I"⟩, 15) := ⟨⟨by decide +kernel, by decide +kernel⟩, List.mem_of_getElem? (i := 556) (by decide +kernel), List.mem_of_getElem? (i := 698) (by decide +kernel), List.mem_of_getElem? (i := 699) (by decide +kernel)⟩
theorem lw_p38 : lw_okq (⟨"PaleFenceModel", "reaches", "(II)I"⟩, 15) := ⟨⟨by decide +kernel, by decide +kernel⟩, List.mem_of_getElem? (i := 556) (by decide +kernel), List.mem_of_getElem? (i := 714) (by decide +kernel), List.mem_of_getElem? (i := 715) (by decide +kernel)⟩
theorem lw_p39 : lw_okq (⟨"PaleFenceModel", "goesOn", "(IZ)Z"⟩, 15) := ⟨⟨by decide +kernel, by decide +kernel⟩, List.mem_of_getElem? (i := 556) (by decide +kernel), List.mem_of_getElem? (i := 731) (by decide +kernel), List.mem_of_getElem? (i := 732) (by decide +kernel)⟩
theorem lw_p40 : lw_okq (⟨"PaleFenceModel", "isRing", "(I)Z"⟩, 15) := ⟨⟨by decide +kernel, by decide +kernel⟩, List.mem_of_getElem? (i := 556) (by decide +kernel), List.mem_of_getElem? (i := 739) (by decide +kernel), List.mem_of_getElem? (i := 740) (by decide +kernel)⟩
theorem lw_p41 : lw_okq (⟨"PaleFenceModel", "comes", "(II)V"⟩, 15) := ⟨⟨by decide +kernel, by decide +kernel⟩, List.mem_of_getElem? (i := 556) (by decide +kernel), List.mem_of_getElem? (i := 756) (by decide +kernel), List.mem_of_getElem? (i := 757) (by decide +kernel)⟩
theorem lw_p42 : lw_okq (⟨"PaleFenceModel", "found", "(IIII)I"⟩, 15) := ⟨⟨by decide +kernel, by decide +kernel⟩, List.mem_of_getElem? (i := 556) (by decide +kernel), List.mem_of_getElem? (i := 800) (by decide +kernel), List.mem_of_getElem? (i := 801) (by decide +kernel)⟩
theorem lw_p43 : lw_okq (⟨"PaleFenceModel", "isRising", "(II)Z"⟩, 15) := ⟨⟨by decide +kernel, by decide +kernel⟩, List.mem_of_getElem? (i := 556) (by decide +kernel), List.mem_of_getElem? (i := 804) (by decide +kernel), List.mem_of_getElem? (i := 805) (by decide +kernel)⟩
def lw_privs_3 : List (MethodName × Nat) := [(⟨"PaleFenceModel", "lay", "()I"⟩, 15), (⟨"PaleFenceModel", "faults", "(I)I"⟩, 15), (⟨"PaleFenceModel", "ends", "(I)I"⟩, 15), (⟨"PaleFenceModel", "isLike", "(II)Z"⟩, 15), (⟨"PaleFenceModel", "isPale", "(I)Z"⟩, 15), (⟨"PaleFenceModel", "mayCome", "(I)I"⟩, 15), (⟨"PaleFenceModel", "reaches", "(II)I"⟩, 15), (⟨"PaleFenceModel", "goesOn", "(IZ)Z"⟩, 15), (⟨"PaleFenceModel", "isRing", "(I)Z"⟩, 15), (⟨"PaleFenceModel", "comes", "(II)V"⟩, 15), (⟨"PaleFenceModel", "found", "(IIII)I"⟩, 15), (⟨"PaleFenceModel", "isRising", "(II)Z"⟩, 15)]
theorem lw_r3 : ∀ q ∈ lw_privs_3, lw_okq q := List.forall_mem_cons.mpr ⟨lw_p32, List.forall_mem_cons.mpr ⟨lw_p33, List.forall_mem_cons.mpr ⟨lw_p34, List.forall_mem_cons.mpr ⟨lw_p35, List.forall_mem_cons.mpr ⟨lw_p36, List.forall_mem_cons.mpr ⟨lw_p37, List.forall_mem_cons.mpr ⟨lw_p38, List.forall_mem_cons.mpr ⟨lw_p39, List.forall_mem_cons.mpr ⟨lw_p40, List.forall_mem_cons.mpr ⟨lw_p41, List.forall_mem_cons.mpr ⟨lw_p42, List.forall_mem_cons.mpr ⟨lw_p43, fun _ h => absurd h List.not_mem_nil⟩⟩⟩⟩⟩⟩⟩⟩⟩⟩⟩⟩
def lw_privs : List (MethodName × Nat) := lw_privs_1 ++ (lw_privs_2 ++ (lw_privs_3))
def lw_tbl : List Cond := k2_sels lw_privs ++ tables_1
theorem lw_privs_ok : ∀ q ∈ lw_privs, lw_okq q := by
  show ∀ q ∈ lw_privs_1 ++ (lw_privs_2 ++ (lw_privs_3)), lw_okq q
  exact List.forall_mem_append.mpr ⟨lw_r1, List.forall_mem_append.mpr ⟨lw_r2, lw_r3⟩⟩
/-! ===== BEGIN words of one list among another's, by their places ===== -/
theorem goodIn_r {big : List Cond} (ws : List Cond) (ps : List Nat) (hp : ws = ps.filterMap (fun i => big[i]?)) (h : ws.all goodWord = true) : GoodIn big ws := by
  intro w hw
  have h1 := List.all_eq_true.mp h w hw
  rw [hp] at hw
  obtain ⟨i, -, hi⟩ := List.mem_filterMap.mp hw
  have hm : w ∈ big := by first | exact List.mem_of_getElem? hi | exact List.getElem?_mem hi
  exact ⟨hm, good_of_word h1⟩
theorem goodIn_app {big a b : List Cond} (ha : GoodIn big a) (hb : GoodIn big b) : GoodIn big (a ++ b) := fun w h => (List.mem_append.mp h).elim (ha w) (hb w)
theorem goodIn_ca {big a b : List Cond} {c : Cond} (ha : GoodIn big (c :: a)) (hb : GoodIn big b) : GoodIn big (c :: (a ++ b)) := fun w h => (List.mem_cons.mp h).elim (fun e => ha w (List.mem_cons.mpr (Or.inl e))) (fun h => (List.mem_append.mp h).elim (fun h => ha w (List.mem_cons.mpr (Or.inr h))) (hb w))
theorem goodIn_sub {big ws : List Cond} (hm : ∀ w ∈ ws, w ∈ big) (h : ws.all goodWord = true) : GoodIn big ws := fun w hw => ⟨hm w hw, good_of_word (List.all_eq_true.mp h w hw)⟩
/-! ===== END ===== -/

/-! ===== BEGIN printed: names, fields, word lists, decode rows ===== -/
def RX0 : String := "PaleFence$Row"
def TX0 : u_T := fun k => match k with
  | 0 => ("PaleFence$Row", "pales", "[I", true)
  | _ => ("PaleFence$Row", "size", "I", false)
def tyX0 : Nat → FieldType := fun k => match k with
  | 0 => .array .int
  | _ => .int
abbrev wsX00 : List Cond := u_ws RX0 TX0 2
theorem nmX0 : ∀ a, a < 2 → ∀ b, b < 2 → a ≠ b → (TX0 a).2.1 ≠ (TX0 b).2.1 := by decide +kernel
theorem tyX0_ok : ∀ k, k < 2 → parseFieldDescriptor (TX0 k).2.2.1 = some (tyX0 k) := by decide +kernel
abbrev cX0_init : ByteArray := prog_2_method_1_code
def yX0_init : MethodName := ⟨RX0, "<init>", "()V"⟩
abbrev cX0_has : ByteArray := prog_2_method_2_code
def yX0_has : MethodName := ⟨RX0, "has", "(I)Z"⟩
abbrev cX0_at : ByteArray := prog_2_method_3_code
def yX0_at : MethodName := ⟨RX0, "at", "(I)I"⟩
abbrev cX0_put : ByteArray := prog_2_method_4_code
def yX0_put : MethodName := ⟨RX0, "put", "(II)V"⟩
abbrev cX0_add : ByteArray := prog_2_method_5_code
def yX0_add : MethodName := ⟨RX0, "add", "(I)V"⟩
abbrev cX0_cut : ByteArray := prog_2_method_6_code
def yX0_cut : MethodName := ⟨RX0, "cut", "(I)V"⟩
abbrev cX0_takeOut : ByteArray := prog_2_method_7_code
def yX0_takeOut : MethodName := ⟨RX0, "takeOut", "(I)V"⟩
abbrev cX0_takeFrom : ByteArray := prog_2_method_8_code
def yX0_takeFrom : MethodName := ⟨RX0, "takeFrom", "(LPaleFence$Row;I)V"⟩
abbrev cX0_repeats : ByteArray := prog_2_method_9_code
def yX0_repeats : MethodName := ⟨RX0, "repeats", "(III)Z"⟩
def RX1 : String := "PaleFence$Rules"
def TX1 : u_T := fun k => match k with
  | 0 => ("PaleFence$Rules", "colours", "I", false)
  | 1 => ("PaleFence$Rules", "law", "I", false)
  | 2 => ("PaleFence$Rules", "least", "I", false)
  | _ => ("PaleFence$Rules", "prices", "[I", true)
def tyX1 : Nat → FieldType := fun k => match k with
  | 0 => .int
  | 1 => .int
  | 2 => .int
  | _ => .array .int
abbrev wsX10 : List Cond := u_ws RX1 TX1 4
theorem nmX1 : ∀ a, a < 4 → ∀ b, b < 4 → a ≠ b → (TX1 a).2.1 ≠ (TX1 b).2.1 := by decide +kernel
theorem tyX1_ok : ∀ k, k < 4 → parseFieldDescriptor (TX1 k).2.2.1 = some (tyX1 k) := by decide +kernel
abbrev cX1_init : ByteArray := prog_3_method_1_code
def yX1_init : MethodName := ⟨RX1, "<init>", "()V"⟩
abbrev cX1_hasColour : ByteArray := prog_3_method_2_code
def yX1_hasColour : MethodName := ⟨RX1, "hasColour", "(I)Z"⟩
abbrev cX1_priceOf : ByteArray := prog_3_method_3_code
def yX1_priceOf : MethodName := ⟨RX1, "priceOf", "(I)I"⟩
abbrev cX1_setPrice : ByteArray := prog_3_method_4_code
def yX1_setPrice : MethodName := ⟨RX1, "setPrice", "(II)V"⟩
abbrev cX1_leastPrice : ByteArray := prog_3_method_5_code
def yX1_leastPrice : MethodName := ⟨RX1, "leastPrice", "()I"⟩
abbrev cX1_takeFrom : ByteArray := prog_3_method_6_code
def yX1_takeFrom : MethodName := ⟨RX1, "takeFrom", "(LPaleFence$Rules;)V"⟩
abbrev cX1_faultOf : ByteArray := prog_3_method_7_code
def yX1_faultOf : MethodName := ⟨RX1, "faultOf", "(LPaleFence$Row;)I"⟩
abbrev cX1_holds : ByteArray := prog_3_method_8_code
def yX1_holds : MethodName := ⟨RX1, "holds", "(LPaleFence$Row;II)Z"⟩
abbrev cX1_standsWith : ByteArray := prog_3_method_9_code
def yX1_standsWith : MethodName := ⟨RX1, "standsWith", "(LPaleFence$Row;I)Z"⟩
abbrev cX1_isRing : ByteArray := prog_3_method_10_code
def yX1_isRing : MethodName := ⟨RX1, "isRing", "(LPaleFence$Row;)Z"⟩
abbrev cX1_stretchAtEnd : ByteArray := prog_3_method_11_code
def yX1_stretchAtEnd : MethodName := ⟨RX1, "stretchAtEnd", "(LPaleFence$Row;II)I"⟩
abbrev cX1_mixedAtEnd : ByteArray := prog_3_method_12_code
def yX1_mixedAtEnd : MethodName := ⟨RX1, "mixedAtEnd", "(LPaleFence$Row;II)I"⟩
abbrev cX1_tally : ByteArray := prog_3_method_13_code
def yX1_tally : MethodName := ⟨RX1, "tally", "(I)J"⟩
def RX2 : String := "PaleFence$Sheet"
def TX2 : u_T := fun k => match k with
  | 0 => ("PaleFence$Sheet", "items", "[I", true)
  | 1 => ("PaleFence$Sheet", "lane", "I", false)
  | _ => ("PaleFence$Sheet", "length", "I", false)
def tyX2 : Nat → FieldType := fun k => match k with
  | 0 => .array .int
  | 1 => .int
  | _ => .int
abbrev wsX20 : List Cond := u_ws RX2 TX2 3
theorem nmX2 : ∀ a, a < 3 → ∀ b, b < 3 → a ≠ b → (TX2 a).2.1 ≠ (TX2 b).2.1 := by decide +kernel
theorem tyX2_ok : ∀ k, k < 3 → parseFieldDescriptor (TX2 k).2.2.1 = some (tyX2 k) := by decide +kernel
abbrev cX2_init : ByteArray := prog_4_method_1_code
def yX2_init : MethodName := ⟨RX2, "<init>", "()V"⟩
abbrev cX2_reaches : ByteArray := prog_4_method_2_code
def yX2_reaches : MethodName := ⟨RX2, "reaches", "(II)Z"⟩
abbrev cX2_at : ByteArray := prog_4_method_3_code
def yX2_at : MethodName := ⟨RX2, "at", "(I)I"⟩
abbrev cX2_put : ByteArray := prog_4_method_4_code
def yX2_put : MethodName := ⟨RX2, "put", "(II)V"⟩
abbrev cX2_renew : ByteArray := prog_4_method_5_code
def yX2_renew : MethodName := ⟨RX2, "renew", "(II)V"⟩
def RX3 : String := "PaleFence$State"
def TX3 : u_T := fun k => match k with
  | 0 => ("PaleFence$State", "row", "LPaleFence$Row;", true)
  | 1 => ("PaleFence$State", "rules", "LPaleFence$Rules;", true)
  | _ => ("PaleFence$State", "draw", "I", false)
def tyX3 : Nat → FieldType := fun k => match k with
  | 0 => .object "PaleFence$Row"
  | 1 => .object "PaleFence$Rules"
  | _ => .int
abbrev wsX30 : List Cond := u_ws RX3 TX3 3
theorem nmX3 : ∀ a, a < 3 → ∀ b, b < 3 → a ≠ b → (TX3 a).2.1 ≠ (TX3 b).2.1 := by decide +kernel
theorem tyX3_ok : ∀ k, k < 3 → parseFieldDescriptor (TX3 k).2.2.1 = some (tyX3 k) := by decide +kernel
abbrev cX3_init : ByteArray := prog_5_method_1_code
def yX3_init : MethodName := ⟨RX3, "<init>", "()V"⟩
abbrev cX3_takeFrom : ByteArray := prog_5_method_2_code
def yX3_takeFrom : MethodName := ⟨RX3, "takeFrom", "(LPaleFence$State;)V"⟩
def RX4 : String := "PaleFence$Tape"
def TX4 : u_T := fun k => match k with
  | 0 => ("PaleFence$Tape", "bytes", "[I", true)
  | _ => ("PaleFence$Tape", "size", "I", false)
def tyX4 : Nat → FieldType := fun k => match k with
  | 0 => .array .int
  | _ => .int
abbrev wsX40 : List Cond := u_ws RX4 TX4 2
theorem nmX4 : ∀ a, a < 2 → ∀ b, b < 2 → a ≠ b → (TX4 a).2.1 ≠ (TX4 b).2.1 := by decide +kernel
theorem tyX4_ok : ∀ k, k < 2 → parseFieldDescriptor (TX4 k).2.2.1 = some (tyX4 k) := by decide +kernel
abbrev cX4_init : ByteArray := prog_6_method_1_code
def yX4_init : MethodName := ⟨RX4, "<init>", "()V"⟩
abbrev cX4_at : ByteArray := prog_6_method_2_code
def yX4_at : MethodName := ⟨RX4, "at", "(I)I"⟩
abbrev cX4_add : ByteArray := prog_6_method_3_code
def yX4_add : MethodName := ⟨RX4, "add", "(I)V"⟩
def RX5 : String := "PaleFence"
def TX5 : u_T := fun k => match k with
  | 0 => ("PaleFence", "now", "LPaleFence$State;", true)
  | 1 => ("PaleFence", "kept", "LPaleFence$State;", true)
  | 2 => ("PaleFence", "hasImage", "Z", false)
  | 3 => ("PaleFence", "tape", "LPaleFence$Tape;", true)
  | 4 => ("PaleFence", "sheets", "[LPaleFence$Sheet;", true)
  | 5 => ("PaleFence", "work", "LPaleFence$Row;", true)
  | 6 => ("PaleFence", "found", "LPaleFence$Row;", true)
  | _ => ("PaleFence", "lost", "[I", true)
def tyX5 : Nat → FieldType := fun k => match k with
  | 0 => .object "PaleFence$State"
  | 1 => .object "PaleFence$State"
  | 2 => .boolean
  | 3 => .object "PaleFence$Tape"
  | 4 => .array (.object "PaleFence$Sheet")
  | 5 => .object "PaleFence$Row"
  | 6 => .object "PaleFence$Row"
  | _ => .array .int
abbrev wsX50 : List Cond := u_ws RX5 TX5 8
theorem nmX5 : ∀ a, a < 8 → ∀ b, b < 8 → a ≠ b → (TX5 a).2.1 ≠ (TX5 b).2.1 := by decide +kernel
theorem tyX5_ok : ∀ k, k < 8 → parseFieldDescriptor (TX5 k).2.2.1 = some (tyX5 k) := by decide +kernel
abbrev cX5_init : ByteArray := prog_1_method_1_code
def yX5_init : MethodName := ⟨RX5, "<init>", "()V"⟩
abbrev cX5_colours : ByteArray := prog_1_method_2_code
def yX5_colours : MethodName := ⟨RX5, "colours", "(I)I"⟩
abbrev cX5_price : ByteArray := prog_1_method_3_code
def yX5_price : MethodName := ⟨RX5, "price", "(II)I"⟩
abbrev cX5_rule : ByteArray := prog_1_method_4_code
def yX5_rule : MethodName := ⟨RX5, "rule", "(II)I"⟩
abbrev cX5_paint : ByteArray := prog_1_method_5_code
def yX5_paint : MethodName := ⟨RX5, "paint", "(I)I"⟩
abbrev cX5_scrape : ByteArray := prog_1_method_6_code
def yX5_scrape : MethodName := ⟨RX5, "scrape", "(I)I"⟩
abbrev cX5_pale : ByteArray := prog_1_method_7_code
def yX5_pale : MethodName := ⟨RX5, "pale", "(I)I"⟩
abbrev cX5_type : ByteArray := prog_1_method_8_code
def yX5_type : MethodName := ⟨RX5, "type", "(JI)I"⟩
abbrev cX5_byteOf : ByteArray := prog_1_method_9_code
def yX5_byteOf : MethodName := ⟨RX5, "byteOf", "(JI)I"⟩
abbrev cX5_fence : ByteArray := prog_1_method_10_code
def yX5_fence : MethodName := ⟨RX5, "fence", "()I"⟩
abbrev cX5_readText : ByteArray := prog_1_method_11_code
def yX5_readText : MethodName := ⟨RX5, "readText", "()I"⟩
abbrev cX5_count : ByteArray := prog_1_method_12_code
def yX5_count : MethodName := ⟨RX5, "count", "(I)I"⟩
abbrev cX5_fault : ByteArray := prog_1_method_13_code
def yX5_fault : MethodName := ⟨RX5, "fault", "(I)I"⟩
abbrev cX5_may : ByteArray := prog_1_method_14_code
def yX5_may : MethodName := ⟨RX5, "may", "()I"⟩
abbrev cX5_openBehind : ByteArray := prog_1_method_15_code
def yX5_openBehind : MethodName := ⟨RX5, "openBehind", "(I)I"⟩
abbrev cX5_kind : ByteArray := prog_1_method_16_code
def yX5_kind : MethodName := ⟨RX5, "kind", "(I)I"⟩
abbrev cX5_far : ByteArray := prog_1_method_17_code
def yX5_far : MethodName := ⟨RX5, "far", "(I)I"⟩
abbrev cX5_go : ByteArray := prog_1_method_18_code
def yX5_go : MethodName := ⟨RX5, "go", "(II)I"⟩
abbrev cX5_goBehind : ByteArray := prog_1_method_19_code
def yX5_goBehind : MethodName := ⟨RX5, "goBehind", "(II)I"⟩
abbrev cX5_goOn : ByteArray := prog_1_method_20_code
def yX5_goOn : MethodName := ⟨RX5, "goOn", "(LPaleFence$Rules;LPaleFence$Row;ILPaleFence$Row;)Z"⟩
abbrev cX5_less : ByteArray := prog_1_method_21_code
def yX5_less : MethodName := ⟨RX5, "less", "(I)I"⟩
abbrev cX5_many : ByteArray := prog_1_method_22_code
def yX5_many : MethodName := ⟨RX5, "many", "(I)I"⟩
abbrev cX5_rings : ByteArray := prog_1_method_23_code
def yX5_rings : MethodName := ⟨RX5, "rings", "(I)I"⟩
abbrev cX5_rowsBehind : ByteArray := prog_1_method_24_code
def yX5_rowsBehind : MethodName := ⟨RX5, "rowsBehind", "(LPaleFence$Rules;LPaleFence$Row;IIZ)I"⟩
abbrev cX5_ring : ByteArray := prog_1_method_25_code
def yX5_ring : MethodName := ⟨RX5, "ring", "(II)I"⟩
abbrev cX5_findRing : ByteArray := prog_1_method_26_code
def yX5_findRing : MethodName := ⟨RX5, "findRing", "(LPaleFence$Rules;LPaleFence$Row;IILPaleFence$Row;)Z"⟩
abbrev cX5_cheap : ByteArray := prog_1_method_27_code
def yX5_cheap : MethodName := ⟨RX5, "cheap", "(II)I"⟩
abbrev cX5_cheapest : ByteArray := prog_1_method_28_code
def yX5_cheapest : MethodName := ⟨RX5, "cheapest", "(LPaleFence$Rules;LPaleFence$Row;IIILPaleFence$Row;)I"⟩
abbrev cX5_wins : ByteArray := prog_1_method_29_code
def yX5_wins : MethodName := ⟨RX5, "wins", "(I)I"⟩
abbrev cX5_canWin : ByteArray := prog_1_method_30_code
def yX5_canWin : MethodName := ⟨RX5, "canWin", "(LPaleFence$Rules;LPaleFence$Row;I)Z"⟩
abbrev cX5_isLost : ByteArray := prog_1_method_31_code
def yX5_isLost : MethodName := ⟨RX5, "isLost", "(LPaleFence$Rules;LPaleFence$Row;I)Z"⟩
abbrev cX5_tear : ByteArray := prog_1_method_32_code
def yX5_tear : MethodName := ⟨RX5, "tear", "(I)I"⟩
abbrev cX5_mends : ByteArray := prog_1_method_33_code
def yX5_mends : MethodName := ⟨RX5, "mends", "(I)I"⟩
abbrev cX5_replace : ByteArray := prog_1_method_34_code
def yX5_replace : MethodName := ⟨RX5, "replace", "(II)I"⟩
abbrev cX5_lots : ByteArray := prog_1_method_35_code
def yX5_lots : MethodName := ⟨RX5, "lots", "(I)I"⟩
abbrev cX5_drawn : ByteArray := prog_1_method_36_code
def yX5_drawn : MethodName := ⟨RX5, "drawn", "(II)I"⟩
abbrev cX5_seed : ByteArray := prog_1_method_37_code
def yX5_seed : MethodName := ⟨RX5, "seed", "(I)I"⟩
abbrev cX5_image : ByteArray := prog_1_method_38_code
def yX5_image : MethodName := ⟨RX5, "image", "()I"⟩
abbrev cX5_restore : ByteArray := prog_1_method_39_code
def yX5_restore : MethodName := ⟨RX5, "restore", "()I"⟩
abbrev cX5_storm : ByteArray := prog_1_method_40_code
def yX5_storm : MethodName := ⟨RX5, "storm", "(IIIII)I"⟩
abbrev cX5_readLost : ByteArray := prog_1_method_41_code
def yX5_readLost : MethodName := ⟨RX5, "readLost", "(LPaleFence$Sheet;II)Z"⟩
abbrev cX5_waysToMend : ByteArray := prog_1_method_42_code
def yX5_waysToMend : MethodName := ⟨RX5, "waysToMend", "(LPaleFence$Rules;LPaleFence$Row;[IIILPaleFence$Row;)I"⟩
abbrev cX5_build : ByteArray := prog_1_method_43_code
def yX5_build : MethodName := ⟨RX5, "build", "(IIII)I"⟩
abbrev cX5_film : ByteArray := prog_1_method_44_code
def yX5_film : MethodName := ⟨RX5, "film", "(III)I"⟩
abbrev cX5_sheet : ByteArray := prog_1_method_45_code
def yX5_sheet : MethodName := ⟨RX5, "sheet", "(III)I"⟩
abbrev cX5_drop : ByteArray := prog_1_method_46_code
def yX5_drop : MethodName := ⟨RX5, "drop", "(I)I"⟩
abbrev cX5_item : ByteArray := prog_1_method_47_code
def yX5_item : MethodName := ⟨RX5, "item", "(IIII)I"⟩
abbrev cX5_copy : ByteArray := prog_1_method_48_code
def yX5_copy : MethodName := ⟨RX5, "copy", "(IIIII)I"⟩
abbrev cX5_refusalOf : ByteArray := prog_1_method_49_code
def yX5_refusalOf : MethodName := ⟨RX5, "refusalOf", "(LPaleFence$Sheet;III)I"⟩
abbrev cX5_pageAt : ByteArray := prog_1_method_50_code
def yX5_pageAt : MethodName := ⟨RX5, "pageAt", "(I)LPaleFence$Sheet;"⟩
abbrev cX5_isLane : ByteArray := prog_1_method_51_code
def yX5_isLane : MethodName := ⟨RX5, "isLane", "(I)Z"⟩
def RX6 : String := "PaleFenceModel"
def TX6 : u_T := fun k => match k with
  | 0 => ("PaleFenceModel", "now", "[I", true)
  | 1 => ("PaleFenceModel", "then", "[I", true)
  | 2 => ("PaleFenceModel", "isKept", "Z", false)
  | 3 => ("PaleFenceModel", "tape", "[I", true)
  | 4 => ("PaleFenceModel", "taped", "I", false)
  | 5 => ("PaleFenceModel", "sizes", "[I", true)
  | 6 => ("PaleFenceModel", "lanes", "[I", true)
  | 7 => ("PaleFenceModel", "items", "[I", true)
  | 8 => ("PaleFenceModel", "row", "[I", true)
  | 9 => ("PaleFenceModel", "more", "[I", true)
  | 10 => ("PaleFenceModel", "best", "[I", true)
  | 11 => ("PaleFenceModel", "round", "[I", true)
  | 12 => ("PaleFenceModel", "goes", "[Z", true)
  | 13 => ("PaleFenceModel", "sticks", "[Z", true)
  | _ => ("PaleFenceModel", "opens", "[Z", true)
def tyX6 : Nat → FieldType := fun k => match k with
  | 0 => .array .int
  | 1 => .array .int
  | 2 => .boolean
  | 3 => .array .int
  | 4 => .int
  | 5 => .array .int
  | 6 => .array .int
  | 7 => .array .int
  | 8 => .array .int
  | 9 => .array .int
  | 10 => .array .int
  | 11 => .array .int
  | 12 => .array .boolean
  | 13 => .array .boolean
  | _ => .array .boolean
abbrev wsX60 : List Cond := u_ws RX6 TX6 15
theorem nmX6 : ∀ a, a < 15 → ∀ b, b < 15 → a ≠ b → (TX6 a).2.1 ≠ (TX6 b).2.1 := by decide +kernel
theorem tyX6_ok : ∀ k, k < 15 → parseFieldDescriptor (TX6 k).2.2.1 = some (tyX6 k) := by decide +kernel
abbrev cX6_init : ByteArray := prog_8_method_1_code
def yX6_init : MethodName := ⟨RX6, "<init>", "()V"⟩
abbrev cX6_in : ByteArray := prog_8_method_3_code
def yX6_in : MethodName := ⟨RX6, "in", "(JJJ)Z"⟩
abbrev cX6_changed : ByteArray := prog_8_method_4_code
def yX6_changed : MethodName := ⟨RX6, "changed", "(II)I"⟩
abbrev cX6_isLike : ByteArray := prog_8_method_5_code
def yX6_isLike : MethodName := ⟨RX6, "isLike", "(II)Z"⟩
abbrev cX6_ends : ByteArray := prog_8_method_6_code
def yX6_ends : MethodName := ⟨RX6, "ends", "(I)I"⟩
abbrev cX6_faults : ByteArray := prog_8_method_7_code
def yX6_faults : MethodName := ⟨RX6, "faults", "(I)I"⟩
abbrev cX6_lay : ByteArray := prog_8_method_8_code
def yX6_lay : MethodName := ⟨RX6, "lay", "()I"⟩
abbrev cX6_mayCome : ByteArray := prog_8_method_9_code
def yX6_mayCome : MethodName := ⟨RX6, "mayCome", "(I)I"⟩
abbrev cX6_bits : ByteArray := prog_8_method_10_code
def yX6_bits : MethodName := ⟨RX6, "bits", "(I)I"⟩
abbrev cX6_isPale : ByteArray := prog_8_method_11_code
def yX6_isPale : MethodName := ⟨RX6, "isPale", "(I)Z"⟩
abbrev cX6_isColour : ByteArray := prog_8_method_12_code
def yX6_isColour : MethodName := ⟨RX6, "isColour", "(I)Z"⟩
abbrev cX6_colours : ByteArray := prog_8_method_13_code
def yX6_colours : MethodName := ⟨RX6, "colours", "(I)I"⟩
abbrev cX6_price : ByteArray := prog_8_method_14_code
def yX6_price : MethodName := ⟨RX6, "price", "(II)I"⟩
abbrev cX6_rule : ByteArray := prog_8_method_15_code
def yX6_rule : MethodName := ⟨RX6, "rule", "(II)I"⟩
abbrev cX6_paint : ByteArray := prog_8_method_16_code
def yX6_paint : MethodName := ⟨RX6, "paint", "(I)I"⟩
abbrev cX6_scrape : ByteArray := prog_8_method_17_code
def yX6_scrape : MethodName := ⟨RX6, "scrape", "(I)I"⟩
abbrev cX6_pale : ByteArray := prog_8_method_18_code
def yX6_pale : MethodName := ⟨RX6, "pale", "(I)I"⟩
abbrev cX6_type : ByteArray := prog_8_method_19_code
def yX6_type : MethodName := ⟨RX6, "type", "(JI)I"⟩
abbrev cX6_colourOf : ByteArray := prog_8_method_20_code
def yX6_colourOf : MethodName := ⟨RX6, "colourOf", "(I)I"⟩
abbrev cX6_fence : ByteArray := prog_8_method_21_code
def yX6_fence : MethodName := ⟨RX6, "fence", "()I"⟩
abbrev cX6_count : ByteArray := prog_8_method_22_code
def yX6_count : MethodName := ⟨RX6, "count", "(I)I"⟩
abbrev cX6_fault : ByteArray := prog_8_method_23_code
def yX6_fault : MethodName := ⟨RX6, "fault", "(I)I"⟩
abbrev cX6_may : ByteArray := prog_8_method_24_code
def yX6_may : MethodName := ⟨RX6, "may", "()I"⟩
abbrev cX6_kind : ByteArray := prog_8_method_25_code
def yX6_kind : MethodName := ⟨RX6, "kind", "(I)I"⟩
abbrev cX6_reaches : ByteArray := prog_8_method_26_code
def yX6_reaches : MethodName := ⟨RX6, "reaches", "(II)I"⟩
abbrev cX6_far : ByteArray := prog_8_method_27_code
def yX6_far : MethodName := ⟨RX6, "far", "(I)I"⟩
abbrev cX6_go : ByteArray := prog_8_method_28_code
def yX6_go : MethodName := ⟨RX6, "go", "(II)I"⟩
abbrev cX6_less : ByteArray := prog_8_method_29_code
def yX6_less : MethodName := ⟨RX6, "less", "(I)I"⟩
abbrev cX6_goesOn : ByteArray := prog_8_method_30_code
def yX6_goesOn : MethodName := ⟨RX6, "goesOn", "(IZ)Z"⟩
abbrev cX6_many : ByteArray := prog_8_method_31_code
def yX6_many : MethodName := ⟨RX6, "many", "(I)I"⟩
abbrev cX6_isRing : ByteArray := prog_8_method_32_code
def yX6_isRing : MethodName := ⟨RX6, "isRing", "(I)Z"⟩
abbrev cX6_rings : ByteArray := prog_8_method_33_code
def yX6_rings : MethodName := ⟨RX6, "rings", "(I)I"⟩
abbrev cX6_ring : ByteArray := prog_8_method_34_code
def yX6_ring : MethodName := ⟨RX6, "ring", "(II)I"⟩
abbrev cX6_cheap : ByteArray := prog_8_method_35_code
def yX6_cheap : MethodName := ⟨RX6, "cheap", "(II)I"⟩
abbrev cX6_comes : ByteArray := prog_8_method_36_code
def yX6_comes : MethodName := ⟨RX6, "comes", "(II)V"⟩
abbrev cX6_wins : ByteArray := prog_8_method_37_code
def yX6_wins : MethodName := ⟨RX6, "wins", "(I)I"⟩
abbrev cX6_tear : ByteArray := prog_8_method_38_code
def yX6_tear : MethodName := ⟨RX6, "tear", "(I)I"⟩
abbrev cX6_mends : ByteArray := prog_8_method_39_code
def yX6_mends : MethodName := ⟨RX6, "mends", "(I)I"⟩
abbrev cX6_replace : ByteArray := prog_8_method_40_code
def yX6_replace : MethodName := ⟨RX6, "replace", "(II)I"⟩
abbrev cX6_lots : ByteArray := prog_8_method_41_code
def yX6_lots : MethodName := ⟨RX6, "lots", "(I)I"⟩
abbrev cX6_seed : ByteArray := prog_8_method_42_code
def yX6_seed : MethodName := ⟨RX6, "seed", "(I)I"⟩
abbrev cX6_image : ByteArray := prog_8_method_43_code
def yX6_image : MethodName := ⟨RX6, "image", "()I"⟩
abbrev cX6_restore : ByteArray := prog_8_method_44_code
def yX6_restore : MethodName := ⟨RX6, "restore", "()I"⟩
abbrev cX6_isSheet : ByteArray := prog_8_method_45_code
def yX6_isSheet : MethodName := ⟨RX6, "isSheet", "(II)Z"⟩
abbrev cX6_found : ByteArray := prog_8_method_46_code
def yX6_found : MethodName := ⟨RX6, "found", "(IIII)I"⟩
abbrev cX6_isRising : ByteArray := prog_8_method_47_code
def yX6_isRising : MethodName := ⟨RX6, "isRising", "(II)Z"⟩
abbrev cX6_storm : ByteArray := prog_8_method_48_code
def yX6_storm : MethodName := ⟨RX6, "storm", "(IIIII)I"⟩
abbrev cX6_build : ByteArray := prog_8_method_49_code
def yX6_build : MethodName := ⟨RX6, "build", "(IIII)I"⟩
abbrev cX6_film : ByteArray := prog_8_method_50_code
def yX6_film : MethodName := ⟨RX6, "film", "(III)I"⟩
abbrev cX6_sheet : ByteArray := prog_8_method_51_code
def yX6_sheet : MethodName := ⟨RX6, "sheet", "(III)I"⟩
abbrev cX6_drop : ByteArray := prog_8_method_52_code
def yX6_drop : MethodName := ⟨RX6, "drop", "(I)I"⟩
abbrev cX6_item : ByteArray := prog_8_method_53_code
def yX6_item : MethodName := ⟨RX6, "item", "(IIII)I"⟩
abbrev cX6_copy : ByteArray := prog_8_method_54_code
def yX6_copy : MethodName := ⟨RX6, "copy", "(IIIII)I"⟩
def RJ11 : String := "java/lang/Character"
def TJ11 : u_T := fun k => match k with
  | _ => ("", "", "", false)
def tyJ11 : Nat → FieldType := fun k => match k with
  | _ => .int
abbrev wsJ110 : List Cond := u_ws RJ11 TJ11 0
theorem nmJ11 : ∀ a, a < 0 → ∀ b, b < 0 → a ≠ b → (TJ11 a).2.1 ≠ (TJ11 b).2.1 := by decide +kernel
theorem tyJ11_ok : ∀ k, k < 0 → parseFieldDescriptor (TJ11 k).2.2.1 = some (tyJ11 k) := by decide +kernel
abbrev cJ11_isValidCodePoint_9a6ad : ByteArray := prog_9_method_11_code
def yJ11_isValidCodePoint_9a6ad : MethodName := ⟨RJ11, "isValidCodePoint", "(I)Z"⟩
abbrev cJ11_highSurrogate_5068e : ByteArray := prog_9_method_28_code
def yJ11_highSurrogate_5068e : MethodName := ⟨RJ11, "highSurrogate", "(I)C"⟩
abbrev cJ11_lowSurrogate_5068e : ByteArray := prog_9_method_29_code
def yJ11_lowSurrogate_5068e : MethodName := ⟨RJ11, "lowSurrogate", "(I)C"⟩
def RJ6 : String := "java/lang/Integer"
def TJ6 : u_T := fun k => match k with
  | _ => ("", "", "", false)
def tyJ6 : Nat → FieldType := fun k => match k with
  | _ => .int
abbrev wsJ60 : List Cond := u_ws RJ6 TJ6 0
theorem nmJ6 : ∀ a, a < 0 → ∀ b, b < 0 → a ≠ b → (TJ6 a).2.1 ≠ (TJ6 b).2.1 := by decide +kernel
theorem tyJ6_ok : ∀ k, k < 0 → parseFieldDescriptor (TJ6 k).2.2.1 = some (tyJ6 k) := by decide +kernel
abbrev cJ6_bitCount_0f7a4 : ByteArray := prog_10_method_49_code
def yJ6_bitCount_0f7a4 : MethodName := ⟨RJ6, "bitCount", "(I)I"⟩
def RJ9 : String := "java/lang/Math"
def TJ9 : u_T := fun k => match k with
  | _ => ("", "", "", false)
def tyJ9 : Nat → FieldType := fun k => match k with
  | _ => .int
abbrev wsJ90 : List Cond := u_ws RJ9 TJ9 0
theorem nmJ9 : ∀ a, a < 0 → ∀ b, b < 0 → a ≠ b → (TJ9 a).2.1 ≠ (TJ9 b).2.1 := by decide +kernel
theorem tyJ9_ok : ∀ k, k < 0 → parseFieldDescriptor (TJ9 k).2.2.1 = some (tyJ9 k) := by decide +kernel
abbrev cJ9_max_7cf53 : ByteArray := prog_11_method_65_code
def yJ9_max_7cf53 : MethodName := ⟨RJ9, "max", "(II)I"⟩
abbrev cJ9_min_7cf53 : ByteArray := prog_11_method_69_code
def yJ9_min_7cf53 : MethodName := ⟨RJ9, "min", "(II)I"⟩
def RJ0 : String := "java/lang/String"
def TJ0 : u_T := fun k => match k with
  | _ => ("", "", "", false)
def tyJ0 : Nat → FieldType := fun k => match k with
  | _ => .int
abbrev wsJ00 : List Cond := u_ws RJ0 TJ0 0
theorem nmJ0 : ∀ a, a < 0 → ∀ b, b < 0 → a ≠ b → (TJ0 a).2.1 ≠ (TJ0 b).2.1 := by decide +kernel
theorem tyJ0_ok : ∀ k, k < 0 → parseFieldDescriptor (TJ0 k).2.2.1 = some (tyJ0 k) := by decide +kernel
abbrev cJ0_length_8abf5 : ByteArray := prog_12_method_54_code
def yJ0_length_8abf5 : MethodName := ⟨RJ0, "length", "()I"⟩
abbrev cJ0_indexOf_0f7a4 : ByteArray := prog_12_method_79_code
def yJ0_indexOf_0f7a4 : MethodName := ⟨RJ0, "indexOf", "(I)I"⟩
abbrev cJ0_indexOf_7cf53 : ByteArray := prog_12_method_80_code
def yJ0_indexOf_7cf53 : MethodName := ⟨RJ0, "indexOf", "(II)I"⟩
abbrev cJ0_coder_7d493 : ByteArray := prog_12_method_152_code
def yJ0_coder_7d493 : MethodName := ⟨RJ0, "coder", "()B"⟩
abbrev cJ0_isLatin1_aae02 : ByteArray := prog_12_method_154_code
def yJ0_isLatin1_aae02 : MethodName := ⟨RJ0, "isLatin1", "()Z"⟩
abbrev cJ0_checkBoundsBeginEnd_23922 : ByteArray := prog_12_method_158_code
def yJ0_checkBoundsBeginEnd_23922 : MethodName := ⟨RJ0, "checkBoundsBeginEnd", "(III)V"⟩
def RJ1 : String := "java/lang/StringLatin1"
def TJ1 : u_T := fun k => match k with
  | _ => ("", "", "", false)
def tyJ1 : Nat → FieldType := fun k => match k with
  | _ => .int
abbrev wsJ10 : List Cond := u_ws RJ1 TJ1 0
theorem nmJ1 : ∀ a, a < 0 → ∀ b, b < 0 → a ≠ b → (TJ1 a).2.1 ≠ (TJ1 b).2.1 := by decide +kernel
theorem tyJ1_ok : ∀ k, k < 0 → parseFieldDescriptor (TJ1 k).2.2.1 = some (tyJ1 k) := by decide +kernel
abbrev cJ1_canEncode_9a6ad : ByteArray := prog_13_method_4_code
def yJ1_canEncode_9a6ad : MethodName := ⟨RJ1, "canEncode", "(I)Z"⟩
abbrev cJ1_indexOf_4cfef : ByteArray := prog_13_method_22_code
def yJ1_indexOf_4cfef : MethodName := ⟨RJ1, "indexOf", "([BIII)I"⟩
abbrev cJ1_indexOfChar_4cfef : ByteArray := prog_13_method_23_code
def yJ1_indexOfChar_4cfef : MethodName := ⟨RJ1, "indexOfChar", "([BIII)I"⟩
def RJ2 : String := "java/lang/StringUTF16"
def TJ2 : u_T := fun k => match k with
  | _ => ("", "", "", false)
def tyJ2 : Nat → FieldType := fun k => match k with
  | _ => .int
abbrev wsJ20 : List Cond := u_ws RJ2 TJ2 0
theorem nmJ2 : ∀ a, a < 0 → ∀ b, b < 0 → a ≠ b → (TJ2 a).2.1 ≠ (TJ2 b).2.1 := by decide +kernel
theorem tyJ2_ok : ∀ k, k < 0 → parseFieldDescriptor (TJ2 k).2.2.1 = some (tyJ2 k) := by decide +kernel
abbrev cJ2_getChar_3b067 : ByteArray := prog_14_method_5_code
def yJ2_getChar_3b067 : MethodName := ⟨RJ2, "getChar", "([BI)C"⟩
abbrev cJ2_length_9d52b : ByteArray := prog_14_method_6_code
def yJ2_length_9d52b : MethodName := ⟨RJ2, "length", "([B)I"⟩
abbrev cJ2_indexOf_4cfef : ByteArray := prog_14_method_40_code
def yJ2_indexOf_4cfef : MethodName := ⟨RJ2, "indexOf", "([BIII)I"⟩
abbrev cJ2_indexOfChar_4cfef : ByteArray := prog_14_method_47_code
def yJ2_indexOfChar_4cfef : MethodName := ⟨RJ2, "indexOfChar", "([BIII)I"⟩
abbrev cJ2_indexOfCharUnsafe_4cfef : ByteArray := prog_14_method_48_code
def yJ2_indexOfCharUnsafe_4cfef : MethodName := ⟨RJ2, "indexOfCharUnsafe", "([BIII)I"⟩
abbrev cJ2_indexOfSupplementary_4cfef : ByteArray := prog_14_method_49_code
def yJ2_indexOfSupplementary_4cfef : MethodName := ⟨RJ2, "indexOfSupplementary", "([BIII)I"⟩
abbrev cJ2_checkBoundsBeginEnd_d044e : ByteArray := prog_14_method_93_code
def yJ2_checkBoundsBeginEnd_d044e : MethodName := ⟨RJ2, "checkBoundsBeginEnd", "(II[B)V"⟩
def RJ10 : String := "java/lang/System"
def TJ10 : u_T := fun k => match k with
  | _ => ("", "", "", false)
def tyJ10 : Nat → FieldType := fun k => match k with
  | _ => .int
abbrev wsJ100 : List Cond := u_ws RJ10 TJ10 0
theorem nmJ10 : ∀ a, a < 0 → ∀ b, b < 0 → a ≠ b → (TJ10 a).2.1 ≠ (TJ10 b).2.1 := by decide +kernel
theorem tyJ10_ok : ∀ k, k < 0 → parseFieldDescriptor (TJ10 k).2.2.1 = some (tyJ10 k) := by decide +kernel
def RJ3 : String := "jdk/internal/util/Preconditions"
def TJ3 : u_T := fun k => match k with
  | _ => ("", "", "", false)
def tyJ3 : Nat → FieldType := fun k => match k with
  | _ => .int
abbrev wsJ30 : List Cond := u_ws RJ3 TJ3 0
theorem nmJ3 : ∀ a, a < 0 → ∀ b, b < 0 → a ≠ b → (TJ3 a).2.1 ≠ (TJ3 b).2.1 := by decide +kernel
theorem tyJ3_ok : ∀ k, k < 0 → parseFieldDescriptor (TJ3 k).2.2.1 = some (tyJ3 k) := by decide +kernel
abbrev cJ3_checkFromToIndex_8c36e : ByteArray := prog_16_method_12_code
def yJ3_checkFromToIndex_8c36e : MethodName := ⟨RJ3, "checkFromToIndex", "(IIILjava/util/function/BiFunction;)I"⟩
def RL : String := "PaleFenceLaw"
abbrev cL_law : ByteArray := code
def yL_law : MethodName := ⟨RL, "law", "([I)Z"⟩
theorem dX0_init_0 : decode cX0_init 0 = .ok (.aload_n 0, 1) := by decide +kernel
theorem dX0_init_1 : decode cX0_init 1 = .ok (.invokespecial 3, 3) := by decide +kernel
theorem dX0_init_4 : decode cX0_init 4 = .ok (.aload_n 0, 1) := by decide +kernel
theorem dX0_init_5 : decode cX0_init 5 = .ok (.bipush 72, 2) := by decide +kernel
theorem dX0_init_7 : decode cX0_init 7 = .ok (.newarray .int, 2) := by decide +kernel
theorem dX0_init_9 : decode cX0_init 9 = .ok (.putfield 9, 3) := by decide +kernel
theorem dX0_init_12 : decode cX0_init 12 = .ok (.return_, 1) := by decide +kernel
theorem dX1_init_0 : decode cX1_init 0 = .ok (.aload_n 0, 1) := by decide +kernel
theorem dX1_init_1 : decode cX1_init 1 = .ok (.invokespecial 3, 3) := by decide +kernel
theorem dX1_init_4 : decode cX1_init 4 = .ok (.aload_n 0, 1) := by decide +kernel
theorem dX1_init_5 : decode cX1_init 5 = .ok (.iconst 3, 1) := by decide +kernel
theorem dX1_init_6 : decode cX1_init 6 = .ok (.putfield 9, 3) := by decide +kernel
theorem dX1_init_9 : decode cX1_init 9 = .ok (.aload_n 0, 1) := by decide +kernel
theorem dX1_init_10 : decode cX1_init 10 = .ok (.iconst 0, 1) := by decide +kernel
theorem dX1_init_11 : decode cX1_init 11 = .ok (.putfield 15, 3) := by decide +kernel
theorem dX1_init_14 : decode cX1_init 14 = .ok (.aload_n 0, 1) := by decide +kernel
theorem dX1_init_15 : decode cX1_init 15 = .ok (.iconst 2, 1) := by decide +kernel
theorem dX1_init_16 : decode cX1_init 16 = .ok (.putfield 18, 3) := by decide +kernel
theorem dX1_init_19 : decode cX1_init 19 = .ok (.aload_n 0, 1) := by decide +kernel
theorem dX1_init_20 : decode cX1_init 20 = .ok (.iconst 4, 1) := by decide +kernel
theorem dX1_init_21 : decode cX1_init 21 = .ok (.newarray .int, 2) := by decide +kernel
theorem dX1_init_23 : decode cX1_init 23 = .ok (.dup, 1) := by decide +kernel
theorem dX1_init_24 : decode cX1_init 24 = .ok (.iconst 0, 1) := by decide +kernel
theorem dX1_init_25 : decode cX1_init 25 = .ok (.iconst 1, 1) := by decide +kernel
theorem dX1_init_26 : decode cX1_init 26 = .ok (.iastore, 1) := by decide +kernel
theorem dX1_init_27 : decode cX1_init 27 = .ok (.dup, 1) := by decide +kernel
theorem dX1_init_28 : decode cX1_init 28 = .ok (.iconst 1, 1) := by decide +kernel
theorem dX1_init_29 : decode cX1_init 29 = .ok (.iconst 1, 1) := by decide +kernel
theorem dX1_init_30 : decode cX1_init 30 = .ok (.iastore, 1) := by decide +kernel
theorem dX1_init_31 : decode cX1_init 31 = .ok (.dup, 1) := by decide +kernel
theorem dX1_init_32 : decode cX1_init 32 = .ok (.iconst 2, 1) := by decide +kernel
theorem dX1_init_33 : decode cX1_init 33 = .ok (.iconst 1, 1) := by decide +kernel
theorem dX1_init_34 : decode cX1_init 34 = .ok (.iastore, 1) := by decide +kernel
theorem dX1_init_35 : decode cX1_init 35 = .ok (.dup, 1) := by decide +kernel
theorem dX1_init_36 : decode cX1_init 36 = .ok (.iconst 3, 1) := by decide +kernel
theorem dX1_init_37 : decode cX1_init 37 = .ok (.iconst 1, 1) := by decide +kernel
theorem dX1_init_38 : decode cX1_init 38 = .ok (.iastore, 1) := by decide +kernel
theorem dX1_init_39 : decode cX1_init 39 = .ok (.putfield 21, 3) := by decide +kernel
theorem dX1_init_42 : decode cX1_init 42 = .ok (.return_, 1) := by decide +kernel
theorem dX2_init_0 : decode cX2_init 0 = .ok (.aload_n 0, 1) := by decide +kernel
theorem dX2_init_1 : decode cX2_init 1 = .ok (.invokespecial 3, 3) := by decide +kernel
theorem dX2_init_4 : decode cX2_init 4 = .ok (.aload_n 0, 1) := by decide +kernel
theorem dX2_init_5 : decode cX2_init 5 = .ok (.bipush 48, 2) := by decide +kernel
theorem dX2_init_7 : decode cX2_init 7 = .ok (.newarray .int, 2) := by decide +kernel
theorem dX2_init_9 : decode cX2_init 9 = .ok (.putfield 9, 3) := by decide +kernel
theorem dX2_init_12 : decode cX2_init 12 = .ok (.aload_n 0, 1) := by decide +kernel
theorem dX2_init_13 : decode cX2_init 13 = .ok (.iconst (-1), 1) := by decide +kernel
theorem dX2_init_14 : decode cX2_init 14 = .ok (.putfield 15, 3) := by decide +kernel
theorem dX2_init_17 : decode cX2_init 17 = .ok (.return_, 1) := by decide +kernel
theorem dX3_init_0 : decode cX3_init 0 = .ok (.aload_n 0, 1) := by decide +kernel
theorem dX3_init_1 : decode cX3_init 1 = .ok (.invokespecial 1, 3) := by decide +kernel
theorem dX3_init_4 : decode cX3_init 4 = .ok (.aload_n 0, 1) := by decide +kernel
theorem dX3_init_5 : decode cX3_init 5 = .ok (.new 7, 3) := by decide +kernel
theorem dX3_init_8 : decode cX3_init 8 = .ok (.dup, 1) := by decide +kernel
theorem dX3_init_9 : decode cX3_init 9 = .ok (.invokespecial 9, 3) := by decide +kernel
theorem dX3_init_12 : decode cX3_init 12 = .ok (.putfield 10, 3) := by decide +kernel
theorem dX3_init_15 : decode cX3_init 15 = .ok (.aload_n 0, 1) := by decide +kernel
theorem dX3_init_16 : decode cX3_init 16 = .ok (.new 16, 3) := by decide +kernel
theorem dX3_init_19 : decode cX3_init 19 = .ok (.dup, 1) := by decide +kernel
theorem dX3_init_20 : decode cX3_init 20 = .ok (.invokespecial 18, 3) := by decide +kernel
theorem dX3_init_23 : decode cX3_init 23 = .ok (.putfield 19, 3) := by decide +kernel
theorem dX3_init_26 : decode cX3_init 26 = .ok (.aload_n 0, 1) := by decide +kernel
theorem dX3_init_27 : decode cX3_init 27 = .ok (.iconst 1, 1) := by decide +kernel
theorem dX3_init_28 : decode cX3_init 28 = .ok (.putfield 23, 3) := by decide +kernel
theorem dX3_init_31 : decode cX3_init 31 = .ok (.return_, 1) := by decide +kernel
theorem dX4_init_0 : decode cX4_init 0 = .ok (.aload_n 0, 1) := by decide +kernel
theorem dX4_init_1 : decode cX4_init 1 = .ok (.invokespecial 3, 3) := by decide +kernel
theorem dX4_init_4 : decode cX4_init 4 = .ok (.aload_n 0, 1) := by decide +kernel
theorem dX4_init_5 : decode cX4_init 5 = .ok (.bipush 100, 2) := by decide +kernel
theorem dX4_init_7 : decode cX4_init 7 = .ok (.newarray .int, 2) := by decide +kernel
theorem dX4_init_9 : decode cX4_init 9 = .ok (.putfield 9, 3) := by decide +kernel
theorem dX4_init_12 : decode cX4_init 12 = .ok (.return_, 1) := by decide +kernel
theorem dX5_init_0 : decode cX5_init 0 = .ok (.aload_n 0, 1) := by decide +kernel
theorem dX5_init_1 : decode cX5_init 1 = .ok (.invokespecial 1, 3) := by decide +kernel
theorem dX5_init_4 : decode cX5_init 4 = .ok (.aload_n 0, 1) := by decide +kernel
theorem dX5_init_5 : decode cX5_init 5 = .ok (.new 7, 3) := by decide +kernel
theorem dX5_init_8 : decode cX5_init 8 = .ok (.dup, 1) := by decide +kernel
theorem dX5_init_9 : decode cX5_init 9 = .ok (.invokespecial 9, 3) := by decide +kernel
theorem dX5_init_12 : decode cX5_init 12 = .ok (.putfield 10, 3) := by decide +kernel
theorem dX5_init_15 : decode cX5_init 15 = .ok (.aload_n 0, 1) := by decide +kernel
theorem dX5_init_16 : decode cX5_init 16 = .ok (.new 7, 3) := by decide +kernel
theorem dX5_init_19 : decode cX5_init 19 = .ok (.dup, 1) := by decide +kernel
theorem dX5_init_20 : decode cX5_init 20 = .ok (.invokespecial 9, 3) := by decide +kernel
theorem dX5_init_23 : decode cX5_init 23 = .ok (.putfield 16, 3) := by decide +kernel
theorem dX5_init_26 : decode cX5_init 26 = .ok (.aload_n 0, 1) := by decide +kernel
theorem dX5_init_27 : decode cX5_init 27 = .ok (.new 19, 3) := by decide +kernel
theorem dX5_init_30 : decode cX5_init 30 = .ok (.dup, 1) := by decide +kernel
theorem dX5_init_31 : decode cX5_init 31 = .ok (.invokespecial 21, 3) := by decide +kernel
theorem dX5_init_34 : decode cX5_init 34 = .ok (.putfield 22, 3) := by decide +kernel
theorem dX5_init_37 : decode cX5_init 37 = .ok (.aload_n 0, 1) := by decide +kernel
theorem dX5_init_38 : decode cX5_init 38 = .ok (.iconst 4, 1) := by decide +kernel
theorem dX5_init_39 : decode cX5_init 39 = .ok (.anewarray 26, 3) := by decide +kernel
theorem dX5_init_42 : decode cX5_init 42 = .ok (.putfield 28, 3) := by decide +kernel
theorem dX5_init_45 : decode cX5_init 45 = .ok (.aload_n 0, 1) := by decide +kernel
theorem dX5_init_46 : decode cX5_init 46 = .ok (.new 32, 3) := by decide +kernel
theorem dX5_init_49 : decode cX5_init 49 = .ok (.dup, 1) := by decide +kernel
theorem dX5_init_50 : decode cX5_init 50 = .ok (.invokespecial 34, 3) := by decide +kernel
theorem dX5_init_53 : decode cX5_init 53 = .ok (.putfield 35, 3) := by decide +kernel
theorem dX5_init_56 : decode cX5_init 56 = .ok (.aload_n 0, 1) := by decide +kernel
theorem dX5_init_57 : decode cX5_init 57 = .ok (.new 32, 3) := by decide +kernel
theorem dX5_init_60 : decode cX5_init 60 = .ok (.dup, 1) := by decide +kernel
theorem dX5_init_61 : decode cX5_init 61 = .ok (.invokespecial 34, 3) := by decide +kernel
theorem dX5_init_64 : decode cX5_init 64 = .ok (.putfield 39, 3) := by decide +kernel
theorem dX5_init_67 : decode cX5_init 67 = .ok (.aload_n 0, 1) := by decide +kernel
theorem dX5_init_68 : decode cX5_init 68 = .ok (.iconst 4, 1) := by decide +kernel
theorem dX5_init_69 : decode cX5_init 69 = .ok (.newarray .int, 2) := by decide +kernel
theorem dX5_init_71 : decode cX5_init 71 = .ok (.putfield 42, 3) := by decide +kernel
theorem dX5_init_74 : decode cX5_init 74 = .ok (.iconst 0, 1) := by decide +kernel
theorem dX5_init_75 : decode cX5_init 75 = .ok (.istore_n 1, 1) := by decide +kernel
theorem dX5_init_76 : decode cX5_init 76 = .ok (.iload_n 1, 1) := by decide +kernel
theorem dX5_init_77 : decode cX5_init 77 = .ok (.iconst 4, 1) := by decide +kernel
theorem dX5_init_78 : decode cX5_init 78 = .ok (.if_icmp .ge 22, 3) := by decide +kernel
theorem dX5_init_81 : decode cX5_init 81 = .ok (.aload_n 0, 1) := by decide +kernel
theorem dX5_init_82 : decode cX5_init 82 = .ok (.getfield 28, 3) := by decide +kernel
theorem dX5_init_85 : decode cX5_init 85 = .ok (.iload_n 1, 1) := by decide +kernel
theorem dX5_init_86 : decode cX5_init 86 = .ok (.new 26, 3) := by decide +kernel
theorem dX5_init_89 : decode cX5_init 89 = .ok (.dup, 1) := by decide +kernel
theorem dX5_init_90 : decode cX5_init 90 = .ok (.invokespecial 46, 3) := by decide +kernel
theorem dX5_init_93 : decode cX5_init 93 = .ok (.aastore, 1) := by decide +kernel
theorem dX5_init_94 : decode cX5_init 94 = .ok (.iinc 1 1, 3) := by decide +kernel
theorem dX5_init_97 : decode cX5_init 97 = .ok (.goto (-21), 3) := by decide +kernel
theorem dX5_init_100 : decode cX5_init 100 = .ok (.return_, 1) := by decide +kernel
theorem dX6_init_0 : decode cX6_init 0 = .ok (.aload_n 0, 1) := by decide +kernel
theorem dX6_init_1 : decode cX6_init 1 = .ok (.invokespecial 1, 3) := by decide +kernel
theorem dX6_init_4 : decode cX6_init 4 = .ok (.aload_n 0, 1) := by decide +kernel
theorem dX6_init_5 : decode cX6_init 5 = .ok (.bipush 57, 2) := by decide +kernel
theorem dX6_init_7 : decode cX6_init 7 = .ok (.newarray .int, 2) := by decide +kernel
theorem dX6_init_9 : decode cX6_init 9 = .ok (.putfield 7, 3) := by decide +kernel
theorem dX6_init_12 : decode cX6_init 12 = .ok (.aload_n 0, 1) := by decide +kernel
theorem dX6_init_13 : decode cX6_init 13 = .ok (.bipush 57, 2) := by decide +kernel
theorem dX6_init_15 : decode cX6_init 15 = .ok (.newarray .int, 2) := by decide +kernel
theorem dX6_init_17 : decode cX6_init 17 = .ok (.putfield 13, 3) := by decide +kernel
theorem dX6_init_20 : decode cX6_init 20 = .ok (.aload_n 0, 1) := by decide +kernel
theorem dX6_init_21 : decode cX6_init 21 = .ok (.bipush 100, 2) := by decide +kernel
theorem dX6_init_23 : decode cX6_init 23 = .ok (.newarray .int, 2) := by decide +kernel
theorem dX6_init_25 : decode cX6_init 25 = .ok (.putfield 16, 3) := by decide +kernel
theorem dX6_init_28 : decode cX6_init 28 = .ok (.aload_n 0, 1) := by decide +kernel
theorem dX6_init_29 : decode cX6_init 29 = .ok (.iconst 4, 1) := by decide +kernel
theorem dX6_init_30 : decode cX6_init 30 = .ok (.newarray .int, 2) := by decide +kernel
theorem dX6_init_32 : decode cX6_init 32 = .ok (.putfield 19, 3) := by decide +kernel
theorem dX6_init_35 : decode cX6_init 35 = .ok (.aload_n 0, 1) := by decide +kernel
theorem dX6_init_36 : decode cX6_init 36 = .ok (.iconst 4, 1) := by decide +kernel
theorem dX6_init_37 : decode cX6_init 37 = .ok (.newarray .int, 2) := by decide +kernel
theorem dX6_init_39 : decode cX6_init 39 = .ok (.putfield 22, 3) := by decide +kernel
theorem dX6_init_42 : decode cX6_init 42 = .ok (.aload_n 0, 1) := by decide +kernel
theorem dX6_init_43 : decode cX6_init 43 = .ok (.sipush 192, 3) := by decide +kernel
theorem dX6_init_46 : decode cX6_init 46 = .ok (.newarray .int, 2) := by decide +kernel
theorem dX6_init_48 : decode cX6_init 48 = .ok (.putfield 25, 3) := by decide +kernel
theorem dX6_init_51 : decode cX6_init 51 = .ok (.aload_n 0, 1) := by decide +kernel
theorem dX6_init_52 : decode cX6_init 52 = .ok (.bipush 80, 2) := by decide +kernel
theorem dX6_init_54 : decode cX6_init 54 = .ok (.newarray .int, 2) := by decide +kernel
theorem dX6_init_56 : decode cX6_init 56 = .ok (.putfield 28, 3) := by decide +kernel
theorem dX6_init_59 : decode cX6_init 59 = .ok (.aload_n 0, 1) := by decide +kernel
theorem dX6_init_60 : decode cX6_init 60 = .ok (.iconst 4, 1) := by decide +kernel
theorem dX6_init_61 : decode cX6_init 61 = .ok (.newarray .int, 2) := by decide +kernel
theorem dX6_init_63 : decode cX6_init 63 = .ok (.putfield 31, 3) := by decide +kernel
theorem dX6_init_66 : decode cX6_init 66 = .ok (.aload_n 0, 1) := by decide +kernel
theorem dX6_init_67 : decode cX6_init 67 = .ok (.bipush 24, 2) := by decide +kernel
theorem dX6_init_69 : decode cX6_init 69 = .ok (.newarray .int, 2) := by decide +kernel
theorem dX6_init_71 : decode cX6_init 71 = .ok (.putfield 34, 3) := by decide +kernel
theorem dX6_init_74 : decode cX6_init 74 = .ok (.aload_n 0, 1) := by decide +kernel
theorem dX6_init_75 : decode cX6_init 75 = .ok (.bipush 8, 2) := by decide +kernel
theorem dX6_init_77 : decode cX6_init 77 = .ok (.newarray .int, 2) := by decide +kernel
theorem dX6_init_79 : decode cX6_init 79 = .ok (.putfield 37, 3) := by decide +kernel
theorem dX6_init_82 : decode cX6_init 82 = .ok (.aload_n 0, 1) := by decide +kernel
theorem dX6_init_83 : decode cX6_init 83 = .ok (.bipush 9, 2) := by decide +kernel
theorem dX6_init_85 : decode cX6_init 85 = .ok (.newarray .boolean, 2) := by decide +kernel
theorem dX6_init_87 : decode cX6_init 87 = .ok (.putfield 40, 3) := by decide +kernel
theorem dX6_init_90 : decode cX6_init 90 = .ok (.aload_n 0, 1) := by decide +kernel
theorem dX6_init_91 : decode cX6_init 91 = .ok (.bipush 9, 2) := by decide +kernel
theorem dX6_init_93 : decode cX6_init 93 = .ok (.newarray .boolean, 2) := by decide +kernel
theorem dX6_init_95 : decode cX6_init 95 = .ok (.putfield 44, 3) := by decide +kernel
theorem dX6_init_98 : decode cX6_init 98 = .ok (.aload_n 0, 1) := by decide +kernel
theorem dX6_init_99 : decode cX6_init 99 = .ok (.bipush 9, 2) := by decide +kernel
theorem dX6_init_101 : decode cX6_init 101 = .ok (.newarray .boolean, 2) := by decide +kernel
theorem dX6_init_103 : decode cX6_init 103 = .ok (.putfield 47, 3) := by decide +kernel
theorem dX6_init_106 : decode cX6_init 106 = .ok (.aload_n 0, 1) := by decide +kernel
theorem dX6_init_107 : decode cX6_init 107 = .ok (.getfield 7, 3) := by decide +kernel
theorem dX6_init_110 : decode cX6_init 110 = .ok (.iconst 0, 1) := by decide +kernel
theorem dX6_init_111 : decode cX6_init 111 = .ok (.iconst 3, 1) := by decide +kernel
theorem dX6_init_112 : decode cX6_init 112 = .ok (.iastore, 1) := by decide +kernel
theorem dX6_init_113 : decode cX6_init 113 = .ok (.aload_n 0, 1) := by decide +kernel
theorem dX6_init_114 : decode cX6_init 114 = .ok (.getfield 7, 3) := by decide +kernel
theorem dX6_init_117 : decode cX6_init 117 = .ok (.iconst 2, 1) := by decide +kernel
theorem dX6_init_118 : decode cX6_init 118 = .ok (.iconst 2, 1) := by decide +kernel
theorem dX6_init_119 : decode cX6_init 119 = .ok (.iastore, 1) := by decide +kernel
theorem dX6_init_120 : decode cX6_init 120 = .ok (.aload_n 0, 1) := by decide +kernel
theorem dX6_init_121 : decode cX6_init 121 = .ok (.getfield 7, 3) := by decide +kernel
theorem dX6_init_124 : decode cX6_init 124 = .ok (.iconst 3, 1) := by decide +kernel
theorem dX6_init_125 : decode cX6_init 125 = .ok (.iconst 1, 1) := by decide +kernel
theorem dX6_init_126 : decode cX6_init 126 = .ok (.iastore, 1) := by decide +kernel
theorem dX6_init_127 : decode cX6_init 127 = .ok (.iconst 0, 1) := by decide +kernel
theorem dX6_init_128 : decode cX6_init 128 = .ok (.istore_n 1, 1) := by decide +kernel
theorem dX6_init_129 : decode cX6_init 129 = .ok (.iload_n 1, 1) := by decide +kernel
theorem dX6_init_130 : decode cX6_init 130 = .ok (.iconst 4, 1) := by decide +kernel
theorem dX6_init_131 : decode cX6_init 131 = .ok (.if_icmp .ge 25, 3) := by decide +kernel
theorem dX6_init_134 : decode cX6_init 134 = .ok (.aload_n 0, 1) := by decide +kernel
theorem dX6_init_135 : decode cX6_init 135 = .ok (.getfield 7, 3) := by decide +kernel
theorem dX6_init_138 : decode cX6_init 138 = .ok (.iconst 5, 1) := by decide +kernel
theorem dX6_init_139 : decode cX6_init 139 = .ok (.iload_n 1, 1) := by decide +kernel
theorem dX6_init_140 : decode cX6_init 140 = .ok (.iadd, 1) := by decide +kernel
theorem dX6_init_141 : decode cX6_init 141 = .ok (.iconst 1, 1) := by decide +kernel
theorem dX6_init_142 : decode cX6_init 142 = .ok (.iastore, 1) := by decide +kernel
theorem dX6_init_143 : decode cX6_init 143 = .ok (.aload_n 0, 1) := by decide +kernel
theorem dX6_init_144 : decode cX6_init 144 = .ok (.getfield 19, 3) := by decide +kernel
theorem dX6_init_147 : decode cX6_init 147 = .ok (.iload_n 1, 1) := by decide +kernel
theorem dX6_init_148 : decode cX6_init 148 = .ok (.iconst (-1), 1) := by decide +kernel
theorem dX6_init_149 : decode cX6_init 149 = .ok (.iastore, 1) := by decide +kernel
theorem dX6_init_150 : decode cX6_init 150 = .ok (.iinc 1 1, 3) := by decide +kernel
theorem dX6_init_153 : decode cX6_init 153 = .ok (.goto (-24), 3) := by decide +kernel
theorem dX6_init_156 : decode cX6_init 156 = .ok (.return_, 1) := by decide +kernel
theorem dL_law_0 : decode cL_law 0 = .ok (.new 7, 3) := by decide +kernel
theorem dL_law_3 : decode cL_law 3 = .ok (.dup, 1) := by decide +kernel
theorem dL_law_4 : decode cL_law 4 = .ok (.invokespecial 9, 3) := by decide +kernel
theorem dL_law_7 : decode cL_law 7 = .ok (.astore_n 1, 1) := by decide +kernel
theorem dL_law_8 : decode cL_law 8 = .ok (.new 10, 3) := by decide +kernel
theorem dL_law_11 : decode cL_law 11 = .ok (.dup, 1) := by decide +kernel
theorem dL_law_12 : decode cL_law 12 = .ok (.invokespecial 12, 3) := by decide +kernel
theorem dL_law_15 : decode cL_law 15 = .ok (.astore_n 2, 1) := by decide +kernel
theorem dL_law_16 : decode cL_law 16 = .ok (.iconst 0, 1) := by decide +kernel
theorem dL_law_17 : decode cL_law 17 = .ok (.istore_n 3, 1) := by decide +kernel
theorem dL_law_18 : decode cL_law 18 = .ok (.iload_n 3, 1) := by decide +kernel
theorem dL_law_19 : decode cL_law 19 = .ok (.aload_n 0, 1) := by decide +kernel
theorem dL_law_20 : decode cL_law 20 = .ok (.arraylength, 1) := by decide +kernel
theorem dL_law_21 : decode cL_law 21 = .ok (.bipush 6, 2) := by decide +kernel
theorem dL_law_23 : decode cL_law 23 = .ok (.isub, 1) := by decide +kernel
abbrev vwCl : List vw_C := [(RX0, TX0, 2), (RX1, TX1, 4), (RX2, TX2, 3), (RX3, TX3, 3), (RX4, TX4, 2), (RX5, TX5, 8), (RX6, TX6, 15)]
end
section
/-! tables of the small machine: methods, calls, fields, constants, code (made by wip/gen/gen.py out of the printed names) -/
abbrev zE : Type := Nat × Nat × Nat × Nat × Int
def zR : Nat → String := fun k => cond (Nat.ble 6 k) (cond (Nat.ble 9 k) (cond (Nat.ble 11 k) (RL) (cond (Nat.ble 10 k) (RJ9) (RJ6))) (cond (Nat.ble 7 k) (cond (Nat.ble 8 k) (RJ1) (RJ0)) (RX6))) (cond (Nat.ble 3 k) (cond (Nat.ble 4 k) (cond (Nat.ble 5 k) (RX5) (RX4)) (RX3)) (cond (Nat.ble 1 k) (cond (Nat.ble 2 k) (RX2) (RX1)) (RX0)))
def zT : Nat → u_T := fun k => cond (Nat.ble 4 k) (cond (Nat.ble 6 k) (cond (Nat.ble 7 k) (TX0) (TX6)) (cond (Nat.ble 5 k) (TX5) (TX4))) (cond (Nat.ble 2 k) (cond (Nat.ble 3 k) (TX3) (TX2)) (cond (Nat.ble 1 k) (TX1) (TX0)))
def zNf : Nat → Nat := fun k => cond (Nat.ble 4 k) (cond (Nat.ble 6 k) (cond (Nat.ble 7 k) (0) (15)) (cond (Nat.ble 5 k) (8) (2))) (cond (Nat.ble 2 k) (3) (cond (Nat.ble 1 k) (4) (2)))
def zty : Nat → (Nat → FieldType) := fun k => cond (Nat.ble 4 k) (cond (Nat.ble 6 k) (cond (Nat.ble 7 k) (tyX0) (tyX6)) (cond (Nat.ble 5 k) (tyX5) (tyX4))) (cond (Nat.ble 2 k) (cond (Nat.ble 3 k) (tyX3) (tyX2)) (cond (Nat.ble 1 k) (tyX1) (tyX0)))
def zown : Nat → Nat := fun k => cond (Nat.ble 70 k) (cond (Nat.ble 105 k) (cond (Nat.ble 122 k) (cond (Nat.ble 131 k) (cond (Nat.ble 135 k) (cond (Nat.ble 137 k) (cond (Nat.ble 138 k) (cond (Nat.ble 139 k) (12) (11)) (9)) (8)) (cond (Nat.ble 133 k) (cond (Nat.ble 134 k) (8) (7)) (7))) (cond (Nat.ble 126 k) (cond (Nat.ble 128 k) (cond (Nat.ble 129 k) (7) (6)) (6)) (6))) (6)) (cond (Nat.ble 87 k) (6) (cond (Nat.ble 78 k) (6) (cond (Nat.ble 74 k) (cond (Nat.ble 76 k) (cond (Nat.ble 77 k) (6) (5)) (5)) (5))))) (cond (Nat.ble 35 k) (5) (cond (Nat.ble 17 k) (cond (Nat.ble 26 k) (cond (Nat.ble 30 k) (5) (cond (Nat.ble 28 k) (5) (cond (Nat.ble 27 k) (5) (4)))) (cond (Nat.ble 21 k) (cond (Nat.ble 23 k) (cond (Nat.ble 24 k) (cond (Nat.ble 25 k) (4) (3)) (2)) (2)) (cond (Nat.ble 19 k) (cond (Nat.ble 20 k) (2) (1)) (1)))) (cond (Nat.ble 8 k) (1) (0))))
def zy : Nat → MethodName := fun k => cond (Nat.ble 70 k) (cond (Nat.ble 105 k) (cond (Nat.ble 122 k) (cond (Nat.ble 131 k) (cond (Nat.ble 135 k) (cond (Nat.ble 137 k) (cond (Nat.ble 138 k) (yL_law) (yJ6_bitCount_0f7a4)) (cond (Nat.ble 136 k) (yJ1_indexOfChar_4cfef) (yJ1_indexOf_4cfef))) (cond (Nat.ble 133 k) (cond (Nat.ble 134 k) (yJ1_canEncode_9a6ad) (yJ0_isLatin1_aae02)) (cond (Nat.ble 132 k) (yJ0_coder_7d493) (yJ0_indexOf_7cf53)))) (cond (Nat.ble 126 k) (cond (Nat.ble 128 k) (cond (Nat.ble 129 k) (cond (Nat.ble 130 k) (yJ0_indexOf_0f7a4) (yJ0_length_8abf5)) (yX6_copy)) (cond (Nat.ble 127 k) (yX6_item) (yX6_drop))) (cond (Nat.ble 124 k) (cond (Nat.ble 125 k) (yX6_sheet) (yX6_film)) (cond (Nat.ble 123 k) (yX6_build) (yX6_storm))))) (cond (Nat.ble 113 k) (cond (Nat.ble 117 k) (cond (Nat.ble 119 k) (cond (Nat.ble 120 k) (cond (Nat.ble 121 k) (yX6_isRising) (yX6_found)) (yX6_isSheet)) (cond (Nat.ble 118 k) (yX6_restore) (yX6_image))) (cond (Nat.ble 115 k) (cond (Nat.ble 116 k) (yX6_seed) (yX6_lots)) (cond (Nat.ble 114 k) (yX6_replace) (yX6_mends)))) (cond (Nat.ble 109 k) (cond (Nat.ble 111 k) (cond (Nat.ble 112 k) (yX6_tear) (yX6_wins)) (cond (Nat.ble 110 k) (yX6_comes) (yX6_cheap))) (cond (Nat.ble 107 k) (cond (Nat.ble 108 k) (yX6_ring) (yX6_rings)) (cond (Nat.ble 106 k) (yX6_isRing) (yX6_many)))))) (cond (Nat.ble 87 k) (cond (Nat.ble 96 k) (cond (Nat.ble 100 k) (cond (Nat.ble 102 k) (cond (Nat.ble 103 k) (cond (Nat.ble 104 k) (yX6_goesOn) (yX6_less)) (yX6_go)) (cond (Nat.ble 101 k) (yX6_far) (yX6_reaches))) (cond (Nat.ble 98 k) (cond (Nat.ble 99 k) (yX6_kind) (yX6_may)) (cond (Nat.ble 97 k) (yX6_fault) (yX6_count)))) (cond (Nat.ble 91 k) (cond (Nat.ble 93 k) (cond (Nat.ble 94 k) (cond (Nat.ble 95 k) (yX6_fence) (yX6_colourOf)) (yX6_type)) (cond (Nat.ble 92 k) (yX6_pale) (yX6_scrape))) (cond (Nat.ble 89 k) (cond (Nat.ble 90 k) (yX6_paint) (yX6_rule)) (cond (Nat.ble 88 k) (yX6_price) (yX6_colours))))) (cond (Nat.ble 78 k) (cond (Nat.ble 82 k) (cond (Nat.ble 84 k) (cond (Nat.ble 85 k) (cond (Nat.ble 86 k) (yX6_isColour) (yX6_isPale)) (yX6_bits)) (cond (Nat.ble 83 k) (yX6_mayCome) (yX6_lay))) (cond (Nat.ble 80 k) (cond (Nat.ble 81 k) (yX6_faults) (yX6_ends)) (cond (Nat.ble 79 k) (yX6_isLike) (yX6_changed)))) (cond (Nat.ble 74 k) (cond (Nat.ble 76 k) (cond (Nat.ble 77 k) (yX6_in) (yX5_isLane)) (cond (Nat.ble 75 k) (yX5_pageAt) (yX5_refusalOf))) (cond (Nat.ble 72 k) (cond (Nat.ble 73 k) (yX5_copy) (yX5_item)) (cond (Nat.ble 71 k) (yX5_drop) (yX5_sheet))))))) (cond (Nat.ble 35 k) (cond (Nat.ble 52 k) (cond (Nat.ble 61 k) (cond (Nat.ble 65 k) (cond (Nat.ble 67 k) (cond (Nat.ble 68 k) (cond (Nat.ble 69 k) (yX5_film) (yX5_build)) (yX5_waysToMend)) (cond (Nat.ble 66 k) (yX5_readLost) (yX5_storm))) (cond (Nat.ble 63 k) (cond (Nat.ble 64 k) (yX5_restore) (yX5_image)) (cond (Nat.ble 62 k) (yX5_seed) (yX5_drawn)))) (cond (Nat.ble 56 k) (cond (Nat.ble 58 k) (cond (Nat.ble 59 k) (cond (Nat.ble 60 k) (yX5_lots) (yX5_replace)) (yX5_mends)) (cond (Nat.ble 57 k) (yX5_tear) (yX5_isLost))) (cond (Nat.ble 54 k) (cond (Nat.ble 55 k) (yX5_canWin) (yX5_wins)) (cond (Nat.ble 53 k) (yX5_cheapest) (yX5_cheap))))) (cond (Nat.ble 43 k) (cond (Nat.ble 47 k) (cond (Nat.ble 49 k) (cond (Nat.ble 50 k) (cond (Nat.ble 51 k) (yX5_findRing) (yX5_ring)) (yX5_rowsBehind)) (cond (Nat.ble 48 k) (yX5_rings) (yX5_many))) (cond (Nat.ble 45 k) (cond (Nat.ble 46 k) (yX5_less) (yX5_goOn)) (cond (Nat.ble 44 k) (yX5_goBehind) (yX5_go)))) (cond (Nat.ble 39 k) (cond (Nat.ble 41 k) (cond (Nat.ble 42 k) (yX5_far) (yX5_kind)) (cond (Nat.ble 40 k) (yX5_openBehind) (yX5_may))) (cond (Nat.ble 37 k) (cond (Nat.ble 38 k) (yX5_fault) (yX5_count)) (cond (Nat.ble 36 k) (yX5_readText) (yX5_fence)))))) (cond (Nat.ble 17 k) (cond (Nat.ble 26 k) (cond (Nat.ble 30 k) (cond (Nat.ble 32 k) (cond (Nat.ble 33 k) (cond (Nat.ble 34 k) (yX5_byteOf) (yX5_type)) (yX5_pale)) (cond (Nat.ble 31 k) (yX5_scrape) (yX5_paint))) (cond (Nat.ble 28 k) (cond (Nat.ble 29 k) (yX5_rule) (yX5_price)) (cond (Nat.ble 27 k) (yX5_colours) (yX4_add)))) (cond (Nat.ble 21 k) (cond (Nat.ble 23 k) (cond (Nat.ble 24 k) (cond (Nat.ble 25 k) (yX4_at) (yX3_takeFrom)) (yX2_renew)) (cond (Nat.ble 22 k) (yX2_put) (yX2_at))) (cond (Nat.ble 19 k) (cond (Nat.ble 20 k) (yX2_reaches) (yX1_tally)) (cond (Nat.ble 18 k) (yX1_mixedAtEnd) (yX1_stretchAtEnd))))) (cond (Nat.ble 8 k) (cond (Nat.ble 12 k) (cond (Nat.ble 14 k) (cond (Nat.ble 15 k) (cond (Nat.ble 16 k) (yX1_isRing) (yX1_standsWith)) (yX1_holds)) (cond (Nat.ble 13 k) (yX1_faultOf) (yX1_takeFrom))) (cond (Nat.ble 10 k) (cond (Nat.ble 11 k) (yX1_leastPrice) (yX1_setPrice)) (cond (Nat.ble 9 k) (yX1_priceOf) (yX1_hasColour)))) (cond (Nat.ble 4 k) (cond (Nat.ble 6 k) (cond (Nat.ble 7 k) (yX0_repeats) (yX0_takeFrom)) (cond (Nat.ble 5 k) (yX0_takeOut) (yX0_cut))) (cond (Nat.ble 2 k) (cond (Nat.ble 3 k) (yX0_add) (yX0_put)) (cond (Nat.ble 1 k) (yX0_at) (yX0_has)))))))
def zb : Nat → ByteArray := fun k => cond (Nat.ble 70 k) (cond (Nat.ble 105 k) (cond (Nat.ble 122 k) (cond (Nat.ble 131 k) (cond (Nat.ble 135 k) (cond (Nat.ble 137 k) (cond (Nat.ble 138 k) (cL_law) (cJ6_bitCount_0f7a4)) (cond (Nat.ble 136 k) (cJ1_indexOfChar_4cfef) (cJ1_indexOf_4cfef))) (cond (Nat.ble 133 k) (cond (Nat.ble 134 k) (cJ1_canEncode_9a6ad) (cJ0_isLatin1_aae02)) (cond (Nat.ble 132 k) (cJ0_coder_7d493) (cJ0_indexOf_7cf53)))) (cond (Nat.ble 126 k) (cond (Nat.ble 128 k) (cond (Nat.ble 129 k) (cond (Nat.ble 130 k) (cJ0_indexOf_0f7a4) (cJ0_length_8abf5)) (cX6_copy)) (cond (Nat.ble 127 k) (cX6_item) (cX6_drop))) (cond (Nat.ble 124 k) (cond (Nat.ble 125 k) (cX6_sheet) (cX6_film)) (cond (Nat.ble 123 k) (cX6_build) (cX6_storm))))) (cond (Nat.ble 113 k) (cond (Nat.ble 117 k) (cond (Nat.ble 119 k) (cond (Nat.ble 120 k) (cond (Nat.ble 121 k) (cX6_isRising) (cX6_found)) (cX6_isSheet)) (cond (Nat.ble 118 k) (cX6_restore) (cX6_image))) (cond (Nat.ble 115 k) (cond (Nat.ble 116 k) (cX6_seed) (cX6_lots)) (cond (Nat.ble 114 k) (cX6_replace) (cX6_mends)))) (cond (Nat.ble 109 k) (cond (Nat.ble 111 k) (cond (Nat.ble 112 k) (cX6_tear) (cX6_wins)) (cond (Nat.ble 110 k) (cX6_comes) (cX6_cheap))) (cond (Nat.ble 107 k) (cond (Nat.ble 108 k) (cX6_ring) (cX6_rings)) (cond (Nat.ble 106 k) (cX6_isRing) (cX6_many)))))) (cond (Nat.ble 87 k) (cond (Nat.ble 96 k) (cond (Nat.ble 100 k) (cond (Nat.ble 102 k) (cond (Nat.ble 103 k) (cond (Nat.ble 104 k) (cX6_goesOn) (cX6_less)) (cX6_go)) (cond (Nat.ble 101 k) (cX6_far) (cX6_reaches))) (cond (Nat.ble 98 k) (cond (Nat.ble 99 k) (cX6_kind) (cX6_may)) (cond (Nat.ble 97 k) (cX6_fault) (cX6_count)))) (cond (Nat.ble 91 k) (cond (Nat.ble 93 k) (cond (Nat.ble 94 k) (cond (Nat.ble 95 k) (cX6_fence) (cX6_colourOf)) (cX6_type)) (cond (Nat.ble 92 k) (cX6_pale) (cX6_scrape))) (cond (Nat.ble 89 k) (cond (Nat.ble 90 k) (cX6_paint) (cX6_rule)) (cond (Nat.ble 88 k) (cX6_price) (cX6_colours))))) (cond (Nat.ble 78 k) (cond (Nat.ble 82 k) (cond (Nat.ble 84 k) (cond (Nat.ble 85 k) (cond (Nat.ble 86 k) (cX6_isColour) (cX6_isPale)) (cX6_bits)) (cond (Nat.ble 83 k) (cX6_mayCome) (cX6_lay))) (cond (Nat.ble 80 k) (cond (Nat.ble 81 k) (cX6_faults) (cX6_ends)) (cond (Nat.ble 79 k) (cX6_isLike) (cX6_changed)))) (cond (Nat.ble 74 k) (cond (Nat.ble 76 k) (cond (Nat.ble 77 k) (cX6_in) (cX5_isLane)) (cond (Nat.ble 75 k) (cX5_pageAt) (cX5_refusalOf))) (cond (Nat.ble 72 k) (cond (Nat.ble 73 k) (cX5_copy) (cX5_item)) (cond (Nat.ble 71 k) (cX5_drop) (cX5_sheet))))))) (cond (Nat.ble 35 k) (cond (Nat.ble 52 k) (cond (Nat.ble 61 k) (cond (Nat.ble 65 k) (cond (Nat.ble 67 k) (cond (Nat.ble 68 k) (cond (Nat.ble 69 k) (cX5_film) (cX5_build)) (cX5_waysToMend)) (cond (Nat.ble 66 k) (cX5_readLost) (cX5_storm))) (cond (Nat.ble 63 k) (cond (Nat.ble 64 k) (cX5_restore) (cX5_image)) (cond (Nat.ble 62 k) (cX5_seed) (cX5_drawn)))) (cond (Nat.ble 56 k) (cond (Nat.ble 58 k) (cond (Nat.ble 59 k) (cond (Nat.ble 60 k) (cX5_lots) (cX5_replace)) (cX5_mends)) (cond (Nat.ble 57 k) (cX5_tear) (cX5_isLost))) (cond (Nat.ble 54 k) (cond (Nat.ble 55 k) (cX5_canWin) (cX5_wins)) (cond (Nat.ble 53 k) (cX5_cheapest) (cX5_cheap))))) (cond (Nat.ble 43 k) (cond (Nat.ble 47 k) (cond (Nat.ble 49 k) (cond (Nat.ble 50 k) (cond (Nat.ble 51 k) (cX5_findRing) (cX5_ring)) (cX5_rowsBehind)) (cond (Nat.ble 48 k) (cX5_rings) (cX5_many))) (cond (Nat.ble 45 k) (cond (Nat.ble 46 k) (cX5_less) (cX5_goOn)) (cond (Nat.ble 44 k) (cX5_goBehind) (cX5_go)))) (cond (Nat.ble 39 k) (cond (Nat.ble 41 k) (cond (Nat.ble 42 k) (cX5_far) (cX5_kind)) (cond (Nat.ble 40 k) (cX5_openBehind) (cX5_may))) (cond (Nat.ble 37 k) (cond (Nat.ble 38 k) (cX5_fault) (cX5_count)) (cond (Nat.ble 36 k) (cX5_readText) (cX5_fence)))))) (cond (Nat.ble 17 k) (cond (Nat.ble 26 k) (cond (Nat.ble 30 k) (cond (Nat.ble 32 k) (cond (Nat.ble 33 k) (cond (Nat.ble 34 k) (cX5_byteOf) (cX5_type)) (cX5_pale)) (cond (Nat.ble 31 k) (cX5_scrape) (cX5_paint))) (cond (Nat.ble 28 k) (cond (Nat.ble 29 k) (cX5_rule) (cX5_price)) (cond (Nat.ble 27 k) (cX5_colours) (cX4_add)))) (cond (Nat.ble 21 k) (cond (Nat.ble 23 k) (cond (Nat.ble 24 k) (cond (Nat.ble 25 k) (cX4_at) (cX3_takeFrom)) (cX2_renew)) (cond (Nat.ble 22 k) (cX2_put) (cX2_at))) (cond (Nat.ble 19 k) (cond (Nat.ble 20 k) (cX2_reaches) (cX1_tally)) (cond (Nat.ble 18 k) (cX1_mixedAtEnd) (cX1_stretchAtEnd))))) (cond (Nat.ble 8 k) (cond (Nat.ble 12 k) (cond (Nat.ble 14 k) (cond (Nat.ble 15 k) (cond (Nat.ble 16 k) (cX1_isRing) (cX1_standsWith)) (cX1_holds)) (cond (Nat.ble 13 k) (cX1_faultOf) (cX1_takeFrom))) (cond (Nat.ble 10 k) (cond (Nat.ble 11 k) (cX1_leastPrice) (cX1_setPrice)) (cond (Nat.ble 9 k) (cX1_priceOf) (cX1_hasColour)))) (cond (Nat.ble 4 k) (cond (Nat.ble 6 k) (cond (Nat.ble 7 k) (cX0_repeats) (cX0_takeFrom)) (cond (Nat.ble 5 k) (cX0_takeOut) (cX0_cut))) (cond (Nat.ble 2 k) (cond (Nat.ble 3 k) (cX0_add) (cX0_put)) (cond (Nat.ble 1 k) (cX0_at) (cX0_has)))))))
def zl : Nat → Nat := fun k => cond (Nat.ble 70 k) (cond (Nat.ble 105 k) (cond (Nat.ble 122 k) (cond (Nat.ble 131 k) (cond (Nat.ble 135 k) (cond (Nat.ble 137 k) (cond (Nat.ble 138 k) (cond (Nat.ble 139 k) (0) (4)) (1)) (cond (Nat.ble 136 k) (6) (4))) (cond (Nat.ble 133 k) (1) (cond (Nat.ble 132 k) (1) (3)))) (cond (Nat.ble 126 k) (cond (Nat.ble 128 k) (cond (Nat.ble 129 k) (cond (Nat.ble 130 k) (2) (1)) (8)) (cond (Nat.ble 127 k) (6) (3))) (cond (Nat.ble 124 k) (cond (Nat.ble 125 k) (5) (6)) (cond (Nat.ble 123 k) (7) (15))))) (cond (Nat.ble 113 k) (cond (Nat.ble 117 k) (cond (Nat.ble 119 k) (cond (Nat.ble 120 k) (5) (2)) (2)) (cond (Nat.ble 115 k) (cond (Nat.ble 116 k) (2) (6)) (cond (Nat.ble 114 k) (3) (5)))) (cond (Nat.ble 109 k) (cond (Nat.ble 111 k) (cond (Nat.ble 112 k) (3) (5)) (cond (Nat.ble 110 k) (3) (7))) (cond (Nat.ble 107 k) (4) (cond (Nat.ble 106 k) (5) (4)))))) (cond (Nat.ble 87 k) (cond (Nat.ble 96 k) (cond (Nat.ble 100 k) (cond (Nat.ble 102 k) (cond (Nat.ble 103 k) (cond (Nat.ble 104 k) (4) (3)) (3)) (cond (Nat.ble 101 k) (2) (6))) (cond (Nat.ble 98 k) (cond (Nat.ble 99 k) (5) (2)) (cond (Nat.ble 97 k) (3) (5)))) (cond (Nat.ble 91 k) (cond (Nat.ble 93 k) (cond (Nat.ble 94 k) (cond (Nat.ble 95 k) (4) (1)) (6)) (2)) (3))) (cond (Nat.ble 78 k) (cond (Nat.ble 82 k) (cond (Nat.ble 84 k) (cond (Nat.ble 85 k) (2) (3)) (cond (Nat.ble 83 k) (4) (2))) (cond (Nat.ble 80 k) (cond (Nat.ble 81 k) (3) (4)) (cond (Nat.ble 79 k) (5) (4)))) (cond (Nat.ble 74 k) (cond (Nat.ble 76 k) (cond (Nat.ble 77 k) (6) (1)) (cond (Nat.ble 75 k) (2) (4))) (cond (Nat.ble 72 k) (cond (Nat.ble 73 k) (8) (7)) (cond (Nat.ble 71 k) (4) (5))))))) (cond (Nat.ble 35 k) (cond (Nat.ble 52 k) (cond (Nat.ble 61 k) (cond (Nat.ble 65 k) (cond (Nat.ble 67 k) (cond (Nat.ble 68 k) (cond (Nat.ble 69 k) (7) (9)) (9)) (cond (Nat.ble 66 k) (7) (9))) (cond (Nat.ble 63 k) (1) (cond (Nat.ble 62 k) (3) (5)))) (cond (Nat.ble 56 k) (cond (Nat.ble 58 k) (4) (cond (Nat.ble 57 k) (2) (5))) (cond (Nat.ble 54 k) (cond (Nat.ble 55 k) (5) (2)) (cond (Nat.ble 53 k) (8) (5))))) (cond (Nat.ble 43 k) (cond (Nat.ble 47 k) (cond (Nat.ble 49 k) (cond (Nat.ble 50 k) (cond (Nat.ble 51 k) (8) (3)) (9)) (2)) (cond (Nat.ble 45 k) (cond (Nat.ble 46 k) (4) (6)) (3))) (cond (Nat.ble 39 k) (cond (Nat.ble 41 k) (cond (Nat.ble 42 k) (2) (3)) (cond (Nat.ble 40 k) (4) (1))) (cond (Nat.ble 37 k) (cond (Nat.ble 38 k) (3) (5)) (cond (Nat.ble 36 k) (4) (2)))))) (cond (Nat.ble 17 k) (cond (Nat.ble 26 k) (cond (Nat.ble 30 k) (cond (Nat.ble 32 k) (cond (Nat.ble 33 k) (cond (Nat.ble 34 k) (3) (6)) (2)) (2)) (cond (Nat.ble 28 k) (4) (cond (Nat.ble 27 k) (3) (2)))) (cond (Nat.ble 21 k) (cond (Nat.ble 23 k) (cond (Nat.ble 24 k) (2) (4)) (cond (Nat.ble 22 k) (3) (2))) (cond (Nat.ble 19 k) (cond (Nat.ble 20 k) (3) (1)) (cond (Nat.ble 18 k) (8) (7))))) (cond (Nat.ble 8 k) (cond (Nat.ble 12 k) (cond (Nat.ble 14 k) (cond (Nat.ble 15 k) (cond (Nat.ble 16 k) (5) (3)) (5)) (cond (Nat.ble 13 k) (3) (2))) (cond (Nat.ble 10 k) (3) (2))) (cond (Nat.ble 4 k) (cond (Nat.ble 6 k) (cond (Nat.ble 7 k) (6) (3)) (cond (Nat.ble 5 k) (3) (2))) (cond (Nat.ble 2 k) (cond (Nat.ble 3 k) (2) (3)) (2))))))
def zret : Nat → (Option FieldType) := fun k => cond (Nat.ble 70 k) (cond (Nat.ble 105 k) (cond (Nat.ble 122 k) (cond (Nat.ble 131 k) (cond (Nat.ble 135 k) (cond (Nat.ble 137 k) (cond (Nat.ble 138 k) (cond (Nat.ble 139 k) (none) ((some .boolean))) ((some .int))) ((some .int))) (cond (Nat.ble 133 k) ((some .boolean)) (cond (Nat.ble 132 k) ((some .byte)) ((some .int))))) ((some .int))) (cond (Nat.ble 113 k) (cond (Nat.ble 117 k) (cond (Nat.ble 119 k) (cond (Nat.ble 120 k) (cond (Nat.ble 121 k) ((some .boolean)) ((some .int))) ((some .boolean))) ((some .int))) ((some .int))) (cond (Nat.ble 109 k) (cond (Nat.ble 111 k) ((some .int)) (cond (Nat.ble 110 k) (none) ((some .int)))) (cond (Nat.ble 107 k) ((some .int)) (cond (Nat.ble 106 k) ((some .boolean)) ((some .int))))))) (cond (Nat.ble 87 k) (cond (Nat.ble 96 k) (cond (Nat.ble 100 k) (cond (Nat.ble 102 k) (cond (Nat.ble 103 k) (cond (Nat.ble 104 k) ((some .boolean)) ((some .int))) ((some .int))) ((some .int))) ((some .int))) ((some .int))) (cond (Nat.ble 78 k) (cond (Nat.ble 82 k) (cond (Nat.ble 84 k) (cond (Nat.ble 85 k) ((some .boolean)) ((some .int))) ((some .int))) (cond (Nat.ble 80 k) ((some .int)) (cond (Nat.ble 79 k) ((some .boolean)) ((some .int))))) (cond (Nat.ble 74 k) (cond (Nat.ble 76 k) ((some .boolean)) (cond (Nat.ble 75 k) ((some (.object "PaleFence$Sheet"))) ((some .int)))) ((some .int)))))) (cond (Nat.ble 35 k) (cond (Nat.ble 52 k) (cond (Nat.ble 61 k) (cond (Nat.ble 65 k) (cond (Nat.ble 67 k) ((some .int)) (cond (Nat.ble 66 k) ((some .boolean)) ((some .int)))) ((some .int))) (cond (Nat.ble 56 k) (cond (Nat.ble 58 k) ((some .int)) (cond (Nat.ble 57 k) ((some .int)) ((some .boolean)))) (cond (Nat.ble 54 k) (cond (Nat.ble 55 k) ((some .boolean)) ((some .int))) ((some .int))))) (cond (Nat.ble 43 k) (cond (Nat.ble 47 k) (cond (Nat.ble 49 k) (cond (Nat.ble 50 k) (cond (Nat.ble 51 k) ((some .boolean)) ((some .int))) ((some .int))) ((some .int))) (cond (Nat.ble 45 k) (cond (Nat.ble 46 k) ((some .int)) ((some .boolean))) ((some .int)))) ((some .int)))) (cond (Nat.ble 17 k) (cond (Nat.ble 26 k) (cond (Nat.ble 30 k) ((some .int)) (cond (Nat.ble 28 k) ((some .int)) (cond (Nat.ble 27 k) ((some .int)) (none)))) (cond (Nat.ble 21 k) (cond (Nat.ble 23 k) (cond (Nat.ble 24 k) (cond (Nat.ble 25 k) ((some .int)) (none)) (none)) (cond (Nat.ble 22 k) (none) ((some .int)))) (cond (Nat.ble 19 k) (cond (Nat.ble 20 k) ((some .boolean)) ((some .long))) ((some .int))))) (cond (Nat.ble 8 k) (cond (Nat.ble 12 k) (cond (Nat.ble 14 k) ((some .boolean)) (cond (Nat.ble 13 k) ((some .int)) (none))) (cond (Nat.ble 10 k) (cond (Nat.ble 11 k) ((some .int)) (none)) (cond (Nat.ble 9 k) ((some .int)) ((some .boolean))))) (cond (Nat.ble 4 k) (cond (Nat.ble 6 k) (cond (Nat.ble 7 k) ((some .boolean)) (none)) (none)) (cond (Nat.ble 2 k) (none) (cond (Nat.ble 1 k) ((some .int)) ((some .boolean))))))))
def zkd : Nat → Nat := fun k => cond (Nat.ble 70 k) (cond (Nat.ble 105 k) (cond (Nat.ble 122 k) (cond (Nat.ble 131 k) (cond (Nat.ble 135 k) (cond (Nat.ble 137 k) (cond (Nat.ble 138 k) (cond (Nat.ble 139 k) (0) (1)) (1)) (1)) (cond (Nat.ble 133 k) (cond (Nat.ble 134 k) (1) (0)) (0))) (0)) (cond (Nat.ble 113 k) (cond (Nat.ble 117 k) (cond (Nat.ble 119 k) (cond (Nat.ble 120 k) (0) (1)) (0)) (0)) (0))) (cond (Nat.ble 87 k) (cond (Nat.ble 96 k) (0) (cond (Nat.ble 91 k) (cond (Nat.ble 93 k) (cond (Nat.ble 94 k) (cond (Nat.ble 95 k) (0) (1)) (0)) (0)) (0))) (cond (Nat.ble 78 k) (cond (Nat.ble 82 k) (cond (Nat.ble 84 k) (cond (Nat.ble 85 k) (0) (1)) (0)) (0)) (cond (Nat.ble 74 k) (cond (Nat.ble 76 k) (1) (cond (Nat.ble 75 k) (0) (1))) (0))))) (cond (Nat.ble 35 k) (cond (Nat.ble 52 k) (cond (Nat.ble 61 k) (cond (Nat.ble 65 k) (cond (Nat.ble 67 k) (cond (Nat.ble 68 k) (0) (1)) (0)) (cond (Nat.ble 63 k) (0) (cond (Nat.ble 62 k) (0) (1)))) (cond (Nat.ble 56 k) (cond (Nat.ble 58 k) (0) (cond (Nat.ble 57 k) (0) (1))) (cond (Nat.ble 54 k) (cond (Nat.ble 55 k) (1) (0)) (cond (Nat.ble 53 k) (1) (0))))) (cond (Nat.ble 43 k) (cond (Nat.ble 47 k) (cond (Nat.ble 49 k) (cond (Nat.ble 50 k) (cond (Nat.ble 51 k) (1) (0)) (1)) (0)) (cond (Nat.ble 45 k) (cond (Nat.ble 46 k) (0) (1)) (0))) (0))) (cond (Nat.ble 17 k) (cond (Nat.ble 26 k) (cond (Nat.ble 30 k) (cond (Nat.ble 32 k) (cond (Nat.ble 33 k) (cond (Nat.ble 34 k) (1) (0)) (0)) (0)) (0)) (cond (Nat.ble 21 k) (0) (cond (Nat.ble 19 k) (cond (Nat.ble 20 k) (0) (1)) (cond (Nat.ble 18 k) (1) (0))))) (0)))
def zar : Nat → Nat := fun k => cond (Nat.ble 70 k) (cond (Nat.ble 105 k) (cond (Nat.ble 122 k) (cond (Nat.ble 131 k) (cond (Nat.ble 135 k) (cond (Nat.ble 137 k) (cond (Nat.ble 138 k) (cond (Nat.ble 139 k) (0) (1)) (1)) (4)) (cond (Nat.ble 133 k) (cond (Nat.ble 134 k) (1) (0)) (cond (Nat.ble 132 k) (0) (2)))) (cond (Nat.ble 126 k) (cond (Nat.ble 128 k) (cond (Nat.ble 129 k) (cond (Nat.ble 130 k) (1) (0)) (5)) (cond (Nat.ble 127 k) (4) (1))) (cond (Nat.ble 124 k) (3) (cond (Nat.ble 123 k) (4) (5))))) (cond (Nat.ble 113 k) (cond (Nat.ble 117 k) (cond (Nat.ble 119 k) (cond (Nat.ble 120 k) (cond (Nat.ble 121 k) (2) (4)) (2)) (0)) (cond (Nat.ble 115 k) (1) (cond (Nat.ble 114 k) (2) (1)))) (cond (Nat.ble 109 k) (cond (Nat.ble 111 k) (1) (2)) (cond (Nat.ble 107 k) (cond (Nat.ble 108 k) (2) (1)) (1))))) (cond (Nat.ble 87 k) (cond (Nat.ble 96 k) (cond (Nat.ble 100 k) (cond (Nat.ble 102 k) (cond (Nat.ble 103 k) (cond (Nat.ble 104 k) (2) (1)) (2)) (cond (Nat.ble 101 k) (1) (2))) (cond (Nat.ble 98 k) (cond (Nat.ble 99 k) (1) (0)) (1))) (cond (Nat.ble 91 k) (cond (Nat.ble 93 k) (cond (Nat.ble 94 k) (cond (Nat.ble 95 k) (0) (1)) (2)) (1)) (cond (Nat.ble 89 k) (cond (Nat.ble 90 k) (1) (2)) (cond (Nat.ble 88 k) (2) (1))))) (cond (Nat.ble 78 k) (cond (Nat.ble 82 k) (cond (Nat.ble 84 k) (1) (cond (Nat.ble 83 k) (1) (0))) (cond (Nat.ble 80 k) (1) (2))) (cond (Nat.ble 74 k) (cond (Nat.ble 76 k) (cond (Nat.ble 77 k) (3) (1)) (cond (Nat.ble 75 k) (1) (4))) (cond (Nat.ble 72 k) (cond (Nat.ble 73 k) (5) (4)) (cond (Nat.ble 71 k) (1) (3))))))) (cond (Nat.ble 35 k) (cond (Nat.ble 52 k) (cond (Nat.ble 61 k) (cond (Nat.ble 65 k) (cond (Nat.ble 67 k) (cond (Nat.ble 68 k) (cond (Nat.ble 69 k) (3) (4)) (6)) (cond (Nat.ble 66 k) (3) (5))) (cond (Nat.ble 63 k) (0) (cond (Nat.ble 62 k) (1) (2)))) (cond (Nat.ble 56 k) (cond (Nat.ble 58 k) (cond (Nat.ble 59 k) (cond (Nat.ble 60 k) (1) (2)) (1)) (cond (Nat.ble 57 k) (1) (3))) (cond (Nat.ble 54 k) (cond (Nat.ble 55 k) (3) (1)) (cond (Nat.ble 53 k) (6) (2))))) (cond (Nat.ble 43 k) (cond (Nat.ble 47 k) (cond (Nat.ble 49 k) (cond (Nat.ble 50 k) (cond (Nat.ble 51 k) (5) (2)) (5)) (1)) (cond (Nat.ble 45 k) (cond (Nat.ble 46 k) (1) (4)) (2))) (cond (Nat.ble 39 k) (cond (Nat.ble 41 k) (1) (cond (Nat.ble 40 k) (1) (0))) (cond (Nat.ble 37 k) (1) (0))))) (cond (Nat.ble 17 k) (cond (Nat.ble 26 k) (cond (Nat.ble 30 k) (cond (Nat.ble 32 k) (cond (Nat.ble 33 k) (2) (1)) (1)) (cond (Nat.ble 28 k) (2) (1))) (cond (Nat.ble 21 k) (cond (Nat.ble 23 k) (cond (Nat.ble 24 k) (1) (2)) (cond (Nat.ble 22 k) (2) (1))) (cond (Nat.ble 19 k) (cond (Nat.ble 20 k) (2) (1)) (3)))) (cond (Nat.ble 8 k) (cond (Nat.ble 12 k) (cond (Nat.ble 14 k) (cond (Nat.ble 15 k) (cond (Nat.ble 16 k) (1) (2)) (3)) (1)) (cond (Nat.ble 10 k) (cond (Nat.ble 11 k) (0) (2)) (1))) (cond (Nat.ble 4 k) (cond (Nat.ble 6 k) (cond (Nat.ble 7 k) (3) (2)) (1)) (cond (Nat.ble 2 k) (cond (Nat.ble 3 k) (1) (2)) (1))))))
def zN : Nat → Nat := fun k => cond (Nat.ble 70 k) (cond (Nat.ble 105 k) (cond (Nat.ble 122 k) (cond (Nat.ble 131 k) (cond (Nat.ble 135 k) (cond (Nat.ble 137 k) (cond (Nat.ble 138 k) (cond (Nat.ble 139 k) (0) (1214)) (53)) (cond (Nat.ble 136 k) (33) (37))) (cond (Nat.ble 133 k) (cond (Nat.ble 134 k) (17) (19)) (cond (Nat.ble 132 k) (15) (37)))) (cond (Nat.ble 126 k) (cond (Nat.ble 128 k) (cond (Nat.ble 129 k) (cond (Nat.ble 130 k) (7) (11)) (176)) (cond (Nat.ble 127 k) (64) (42))) (cond (Nat.ble 124 k) (cond (Nat.ble 125 k) (68) (84)) (cond (Nat.ble 123 k) (143) (253))))) (cond (Nat.ble 113 k) (cond (Nat.ble 117 k) (cond (Nat.ble 119 k) (cond (Nat.ble 120 k) (cond (Nat.ble 121 k) (73) (57)) (30)) (cond (Nat.ble 118 k) (38) (33))) (cond (Nat.ble 115 k) (cond (Nat.ble 116 k) (15) (161)) (cond (Nat.ble 114 k) (30) (66)))) (cond (Nat.ble 109 k) (cond (Nat.ble 111 k) (cond (Nat.ble 112 k) (77) (229)) (cond (Nat.ble 110 k) (31) (158))) (cond (Nat.ble 107 k) (cond (Nat.ble 108 k) (72) (55)) (cond (Nat.ble 106 k) (118) (62)))))) (cond (Nat.ble 87 k) (cond (Nat.ble 96 k) (cond (Nat.ble 100 k) (cond (Nat.ble 102 k) (cond (Nat.ble 103 k) (cond (Nat.ble 104 k) (92) (69)) (43)) (cond (Nat.ble 101 k) (26) (155))) (cond (Nat.ble 98 k) (cond (Nat.ble 99 k) (70) (23)) (cond (Nat.ble 97 k) (44) (106)))) (cond (Nat.ble 91 k) (cond (Nat.ble 93 k) (cond (Nat.ble 94 k) (cond (Nat.ble 95 k) (121) (43)) (140)) (cond (Nat.ble 92 k) (22) (44))) (cond (Nat.ble 89 k) (cond (Nat.ble 90 k) (67) (44)) (cond (Nat.ble 88 k) (37) (57))))) (cond (Nat.ble 78 k) (cond (Nat.ble 82 k) (cond (Nat.ble 84 k) (cond (Nat.ble 85 k) (16) (22)) (cond (Nat.ble 83 k) (49) (40))) (cond (Nat.ble 80 k) (cond (Nat.ble 81 k) (25) (79)) (cond (Nat.ble 79 k) (173) (16)))) (cond (Nat.ble 74 k) (cond (Nat.ble 76 k) (cond (Nat.ble 77 k) (19) (15)) (cond (Nat.ble 75 k) (24) (51))) (cond (Nat.ble 72 k) (cond (Nat.ble 73 k) (110) (40)) (cond (Nat.ble 71 k) (35) (43))))))) (cond (Nat.ble 35 k) (cond (Nat.ble 52 k) (cond (Nat.ble 61 k) (cond (Nat.ble 65 k) (cond (Nat.ble 67 k) (cond (Nat.ble 68 k) (cond (Nat.ble 69 k) (95) (126)) (131)) (cond (Nat.ble 66 k) (77) (193))) (cond (Nat.ble 63 k) (cond (Nat.ble 64 k) (23) (18)) (cond (Nat.ble 62 k) (24) (53)))) (cond (Nat.ble 56 k) (cond (Nat.ble 58 k) (cond (Nat.ble 59 k) (cond (Nat.ble 60 k) (130) (56)) (98)) (cond (Nat.ble 57 k) (53) (64))) (cond (Nat.ble 54 k) (cond (Nat.ble 55 k) (64) (103)) (cond (Nat.ble 53 k) (94) (96))))) (cond (Nat.ble 43 k) (cond (Nat.ble 47 k) (cond (Nat.ble 49 k) (cond (Nat.ble 50 k) (cond (Nat.ble 51 k) (102) (75)) (116)) (cond (Nat.ble 48 k) (39) (38))) (cond (Nat.ble 45 k) (cond (Nat.ble 46 k) (72) (89)) (cond (Nat.ble 44 k) (77) (61)))) (cond (Nat.ble 39 k) (cond (Nat.ble 41 k) (cond (Nat.ble 42 k) (30) (77)) (cond (Nat.ble 40 k) (92) (15))) (cond (Nat.ble 37 k) (cond (Nat.ble 38 k) (64) (100)) (cond (Nat.ble 36 k) (97) (40)))))) (cond (Nat.ble 17 k) (cond (Nat.ble 26 k) (cond (Nat.ble 30 k) (cond (Nat.ble 32 k) (cond (Nat.ble 33 k) (cond (Nat.ble 34 k) (12) (106)) (30)) (cond (Nat.ble 31 k) (52) (80))) (cond (Nat.ble 28 k) (cond (Nat.ble 29 k) (79) (47)) (cond (Nat.ble 27 k) (76) (40)))) (cond (Nat.ble 21 k) (cond (Nat.ble 23 k) (cond (Nat.ble 24 k) (cond (Nat.ble 25 k) (25) (38)) (35)) (cond (Nat.ble 22 k) (59) (24))) (cond (Nat.ble 19 k) (cond (Nat.ble 20 k) (32) (7)) (cond (Nat.ble 18 k) (88) (86))))) (cond (Nat.ble 8 k) (cond (Nat.ble 12 k) (cond (Nat.ble 14 k) (cond (Nat.ble 15 k) (cond (Nat.ble 16 k) (77) (24)) (32)) (cond (Nat.ble 13 k) (30) (39))) (cond (Nat.ble 10 k) (cond (Nat.ble 11 k) (31) (21)) (cond (Nat.ble 9 k) (24) (18)))) (cond (Nat.ble 4 k) (cond (Nat.ble 6 k) (cond (Nat.ble 7 k) (48) (34)) (cond (Nat.ble 5 k) (50) (15))) (cond (Nat.ble 2 k) (cond (Nat.ble 3 k) (40) (21)) (cond (Nat.ble 1 k) (24) (18)))))))
def zc_X0_has : Nat → zE := fun pc => cond (Nat.ble 9 pc) (cond (Nat.ble 14 pc) (cond (Nat.ble 16 pc) (cond (Nat.ble 17 pc) (cond (Nat.ble 18 pc) ((99, 0, 0, 0, 0)) ((35, 18, 0, 0, 0))) ((0, 17, 0, 0, 0))) ((99, 0, 0, 0, 0))) (cond (Nat.ble 11 pc) (cond (Nat.ble 12 pc) (cond (Nat.ble 13 pc) ((19, 16, 0, 17, 0)) ((0, 13, 0, 0, 1))) ((99, 0, 0, 0, 0))) (cond (Nat.ble 10 pc) ((99, 0, 0, 0, 0)) ((17, 12, 3, 16, 0))))) (cond (Nat.ble 4 pc) (cond (Nat.ble 6 pc) (cond (Nat.ble 7 pc) ((99, 0, 0, 0, 0)) ((20, 9, 0, 1, 0))) (cond (Nat.ble 5 pc) ((2, 6, 0, 0, 0)) ((1, 5, 1, 0, 0)))) (cond (Nat.ble 2 pc) ((99, 0, 0, 0, 0)) (cond (Nat.ble 1 pc) ((16, 4, 2, 16, 0)) ((1, 1, 1, 0, 0)))))
def zc_X0_at : Nat → zE := fun pc => cond (Nat.ble 12 pc) (cond (Nat.ble 18 pc) (cond (Nat.ble 21 pc) (cond (Nat.ble 23 pc) (cond (Nat.ble 24 pc) ((99, 0, 0, 0, 0)) ((34, 24, 0, 0, 0))) (cond (Nat.ble 22 pc) ((0, 23, 0, 0, 0)) ((99, 0, 0, 0, 0)))) (cond (Nat.ble 19 pc) (cond (Nat.ble 20 pc) ((99, 0, 0, 0, 0)) ((19, 22, 0, 23, 0))) ((23, 19, 0, 0, 0)))) (cond (Nat.ble 15 pc) (cond (Nat.ble 16 pc) (cond (Nat.ble 17 pc) ((1, 18, 1, 0, 0)) ((99, 0, 0, 0, 0))) ((99, 0, 0, 0, 0))) (cond (Nat.ble 13 pc) (cond (Nat.ble 14 pc) ((20, 17, 0, 0, 0)) ((2, 14, 0, 0, 0))) ((99, 0, 0, 0, 0))))) (cond (Nat.ble 6 pc) (cond (Nat.ble 9 pc) (cond (Nat.ble 10 pc) (cond (Nat.ble 11 pc) ((99, 0, 0, 0, 0)) ((17, 13, 3, 22, 0))) ((27, 10, 0, 0, 0))) (cond (Nat.ble 7 pc) ((99, 0, 0, 0, 0)) ((20, 9, 0, 0, 0)))) (cond (Nat.ble 3 pc) (cond (Nat.ble 4 pc) (cond (Nat.ble 5 pc) ((2, 6, 0, 0, 0)) ((1, 5, 1, 0, 0))) ((99, 0, 0, 0, 0))) (cond (Nat.ble 1 pc) (cond (Nat.ble 2 pc) ((99, 0, 0, 0, 0)) ((16, 4, 2, 22, 0))) ((1, 1, 1, 0, 0)))))
def zc_X0_put : Nat → zE := fun pc => cond (Nat.ble 11 pc) (cond (Nat.ble 16 pc) (cond (Nat.ble 19 pc) (cond (Nat.ble 20 pc) (cond (Nat.ble 21 pc) ((99, 0, 0, 0, 0)) ((37, 21, 0, 0, 0))) ((24, 20, 0, 0, 0))) (cond (Nat.ble 17 pc) (cond (Nat.ble 18 pc) ((1, 19, 2, 0, 0)) ((1, 18, 1, 0, 0))) ((99, 0, 0, 0, 0)))) (cond (Nat.ble 13 pc) (cond (Nat.ble 14 pc) (cond (Nat.ble 15 pc) ((99, 0, 0, 0, 0)) ((20, 17, 0, 0, 0))) ((2, 14, 0, 0, 0))) ((99, 0, 0, 0, 0)))) (cond (Nat.ble 5 pc) (cond (Nat.ble 8 pc) (cond (Nat.ble 9 pc) (cond (Nat.ble 10 pc) ((17, 13, 3, 20, 0)) ((27, 10, 0, 0, 0))) ((99, 0, 0, 0, 0))) (cond (Nat.ble 6 pc) (cond (Nat.ble 7 pc) ((99, 0, 0, 0, 0)) ((20, 9, 0, 0, 0))) ((2, 6, 0, 0, 0)))) (cond (Nat.ble 2 pc) (cond (Nat.ble 3 pc) (cond (Nat.ble 4 pc) ((1, 5, 1, 0, 0)) ((99, 0, 0, 0, 0))) ((99, 0, 0, 0, 0))) (cond (Nat.ble 1 pc) ((16, 4, 2, 20, 0)) ((1, 1, 1, 0, 0)))))
def zc_X0_add : Nat → zE := fun pc => cond (Nat.ble 20 pc) (cond (Nat.ble 30 pc) (cond (Nat.ble 35 pc) (cond (Nat.ble 38 pc) (cond (Nat.ble 39 pc) (cond (Nat.ble 40 pc) ((99, 0, 0, 0, 0)) ((37, 40, 0, 0, 0))) ((99, 0, 0, 0, 0))) (cond (Nat.ble 36 pc) (cond (Nat.ble 37 pc) ((99, 0, 0, 0, 0)) ((21, 39, 0, 1, 0))) ((8, 36, 0, 0, 0)))) (cond (Nat.ble 32 pc) (cond (Nat.ble 33 pc) (cond (Nat.ble 34 pc) ((0, 35, 0, 0, 1)) ((99, 0, 0, 0, 0))) ((99, 0, 0, 0, 0))) (cond (Nat.ble 31 pc) ((20, 34, 0, 1, 0)) ((30, 31, 0, 0, 0))))) (cond (Nat.ble 25 pc) (cond (Nat.ble 27 pc) (cond (Nat.ble 28 pc) (cond (Nat.ble 29 pc) ((2, 30, 0, 0, 0)) ((24, 29, 0, 0, 0))) ((1, 28, 1, 0, 0))) ((99, 0, 0, 0, 0))) (cond (Nat.ble 22 pc) (cond (Nat.ble 23 pc) (cond (Nat.ble 24 pc) ((20, 27, 0, 1, 0)) ((2, 24, 0, 0, 0))) ((99, 0, 0, 0, 0))) (cond (Nat.ble 21 pc) ((99, 0, 0, 0, 0)) ((20, 23, 0, 0, 0)))))) (cond (Nat.ble 10 pc) (cond (Nat.ble 15 pc) (cond (Nat.ble 17 pc) (cond (Nat.ble 18 pc) (cond (Nat.ble 19 pc) ((2, 20, 0, 0, 0)) ((99, 0, 0, 0, 0))) ((99, 0, 0, 0, 0))) (cond (Nat.ble 16 pc) ((17, 19, 3, 39, 0)) ((27, 16, 0, 0, 0)))) (cond (Nat.ble 12 pc) (cond (Nat.ble 13 pc) ((99, 0, 0, 0, 0)) ((20, 15, 0, 0, 0))) (cond (Nat.ble 11 pc) ((2, 12, 0, 0, 0)) ((99, 0, 0, 0, 0))))) (cond (Nat.ble 5 pc) (cond (Nat.ble 7 pc) (cond (Nat.ble 8 pc) (cond (Nat.ble 9 pc) ((99, 0, 0, 0, 0)) ((20, 11, 0, 1, 0))) ((2, 8, 0, 0, 0))) ((99, 0, 0, 0, 0))) (cond (Nat.ble 2 pc) (cond (Nat.ble 3 pc) (cond (Nat.ble 4 pc) ((16, 7, 2, 39, 0)) ((99, 0, 0, 0, 0))) ((99, 0, 0, 0, 0))) (cond (Nat.ble 1 pc) ((20, 4, 0, 1, 0)) ((2, 1, 0, 0, 0))))))
def zc_X0_cut : Nat → zE := fun pc => cond (Nat.ble 8 pc) (cond (Nat.ble 12 pc) (cond (Nat.ble 14 pc) (cond (Nat.ble 15 pc) ((99, 0, 0, 0, 0)) ((37, 15, 0, 0, 0))) ((99, 0, 0, 0, 0))) (cond (Nat.ble 10 pc) (cond (Nat.ble 11 pc) ((21, 14, 0, 1, 0)) ((99, 0, 0, 0, 0))) (cond (Nat.ble 9 pc) ((99, 0, 0, 0, 0)) ((48, 11, 0, 0, 0))))) (cond (Nat.ble 4 pc) (cond (Nat.ble 6 pc) (cond (Nat.ble 7 pc) ((8, 8, 1, 0, 0)) ((1, 7, 1, 0, 0))) ((99, 0, 0, 0, 0))) (cond (Nat.ble 2 pc) (cond (Nat.ble 3 pc) ((20, 6, 0, 1, 0)) ((2, 3, 0, 0, 0))) (cond (Nat.ble 1 pc) ((0, 2, 0, 0, 0)) ((2, 1, 0, 0, 0)))))
def zc_X0_takeOut : Nat → zE := fun pc => cond (Nat.ble 25 pc) (cond (Nat.ble 38 pc) (cond (Nat.ble 44 pc) (cond (Nat.ble 47 pc) (cond (Nat.ble 49 pc) (cond (Nat.ble 50 pc) ((99, 0, 0, 0, 0)) ((37, 50, 0, 0, 0))) ((99, 0, 0, 0, 0))) (cond (Nat.ble 45 pc) (cond (Nat.ble 46 pc) ((21, 49, 0, 1, 0)) ((8, 46, 1, 0, 0))) ((0, 45, 0, 0, 1)))) (cond (Nat.ble 41 pc) (cond (Nat.ble 42 pc) ((99, 0, 0, 0, 0)) ((20, 44, 0, 1, 0))) (cond (Nat.ble 39 pc) (cond (Nat.ble 40 pc) ((30, 41, 0, 0, 0)) ((2, 40, 0, 0, 0))) ((99, 0, 0, 0, 0))))) (cond (Nat.ble 31 pc) (cond (Nat.ble 34 pc) (cond (Nat.ble 36 pc) (cond (Nat.ble 37 pc) ((99, 0, 0, 0, 0)) ((19, 39, 0, 11, 0))) ((99, 0, 0, 0, 0))) (cond (Nat.ble 32 pc) (cond (Nat.ble 33 pc) ((7, 36, 2, 0, 1)) ((99, 0, 0, 0, 0))) ((99, 0, 0, 0, 0)))) (cond (Nat.ble 28 pc) (cond (Nat.ble 29 pc) (cond (Nat.ble 30 pc) ((28, 33, 2, 3, 0)) ((99, 0, 0, 0, 0))) ((99, 0, 0, 0, 0))) (cond (Nat.ble 26 pc) (cond (Nat.ble 27 pc) ((28, 30, 1, 2, 0)) ((8, 27, 0, 0, 0))) ((0, 26, 0, 0, 1)))))) (cond (Nat.ble 12 pc) (cond (Nat.ble 18 pc) (cond (Nat.ble 21 pc) (cond (Nat.ble 23 pc) (cond (Nat.ble 24 pc) ((1, 25, 2, 0, 0)) ((2, 24, 0, 0, 0))) (cond (Nat.ble 22 pc) ((1, 23, 2, 0, 0)) ((2, 22, 0, 0, 0)))) (cond (Nat.ble 19 pc) ((99, 0, 0, 0, 0)) ((17, 21, 3, 39, 0)))) (cond (Nat.ble 15 pc) (cond (Nat.ble 16 pc) ((99, 0, 0, 0, 0)) ((20, 18, 0, 1, 0))) (cond (Nat.ble 13 pc) (cond (Nat.ble 14 pc) ((2, 15, 0, 0, 0)) ((8, 14, 0, 0, 0))) ((0, 13, 0, 0, 1))))) (cond (Nat.ble 6 pc) (cond (Nat.ble 9 pc) (cond (Nat.ble 10 pc) (cond (Nat.ble 11 pc) ((1, 12, 2, 0, 0)) ((4, 11, 2, 0, 0))) ((1, 10, 1, 0, 0))) (cond (Nat.ble 7 pc) (cond (Nat.ble 8 pc) ((37, 9, 0, 0, 0)) ((99, 0, 0, 0, 0))) ((99, 0, 0, 0, 0)))) (cond (Nat.ble 3 pc) (cond (Nat.ble 4 pc) (cond (Nat.ble 5 pc) ((16, 8, 1, 9, 0)) ((99, 0, 0, 0, 0))) ((99, 0, 0, 0, 0))) (cond (Nat.ble 1 pc) (cond (Nat.ble 2 pc) ((28, 5, 0, 2, 0)) ((1, 2, 1, 0, 0))) ((2, 1, 0, 0, 0))))))
def zc_X0_takeFrom : Nat → zE := fun pc => cond (Nat.ble 17 pc) (cond (Nat.ble 26 pc) (cond (Nat.ble 30 pc) (cond (Nat.ble 32 pc) (cond (Nat.ble 33 pc) (cond (Nat.ble 34 pc) ((99, 0, 0, 0, 0)) ((37, 34, 0, 0, 0))) ((99, 0, 0, 0, 0))) (cond (Nat.ble 31 pc) ((99, 0, 0, 0, 0)) ((29, 33, 0, 0, 0)))) (cond (Nat.ble 28 pc) ((99, 0, 0, 0, 0)) (cond (Nat.ble 27 pc) ((20, 30, 0, 1, 0)) ((2, 27, 0, 0, 0))))) (cond (Nat.ble 21 pc) (cond (Nat.ble 23 pc) (cond (Nat.ble 24 pc) (cond (Nat.ble 25 pc) ((0, 26, 0, 0, 0)) ((99, 0, 0, 0, 0))) ((99, 0, 0, 0, 0))) (cond (Nat.ble 22 pc) ((20, 25, 0, 0, 0)) ((2, 22, 0, 0, 0)))) (cond (Nat.ble 19 pc) (cond (Nat.ble 20 pc) ((0, 21, 0, 0, 0)) ((99, 0, 0, 0, 0))) (cond (Nat.ble 18 pc) ((99, 0, 0, 0, 0)) ((20, 20, 0, 0, 0)))))) (cond (Nat.ble 8 pc) (cond (Nat.ble 12 pc) (cond (Nat.ble 14 pc) (cond (Nat.ble 15 pc) (cond (Nat.ble 16 pc) ((2, 17, 1, 0, 0)) ((99, 0, 0, 0, 0))) ((99, 0, 0, 0, 0))) (cond (Nat.ble 13 pc) ((21, 16, 0, 1, 0)) ((99, 0, 0, 0, 0)))) (cond (Nat.ble 10 pc) (cond (Nat.ble 11 pc) ((99, 0, 0, 0, 0)) ((48, 13, 0, 0, 0))) ((99, 0, 0, 0, 0)))) (cond (Nat.ble 4 pc) (cond (Nat.ble 6 pc) (cond (Nat.ble 7 pc) ((49, 10, 0, 0, 0)) ((99, 0, 0, 0, 0))) (cond (Nat.ble 5 pc) ((99, 0, 0, 0, 0)) ((20, 7, 0, 1, 0)))) (cond (Nat.ble 2 pc) (cond (Nat.ble 3 pc) ((2, 4, 1, 0, 0)) ((1, 3, 2, 0, 0))) (cond (Nat.ble 1 pc) ((0, 2, 0, 0, 0)) ((2, 1, 0, 0, 0))))))
def zc_X0_repeats : Nat → zE := fun pc => cond (Nat.ble 24 pc) (cond (Nat.ble 36 pc) (cond (Nat.ble 42 pc) (cond (Nat.ble 45 pc) (cond (Nat.ble 47 pc) (cond (Nat.ble 48 pc) ((99, 0, 0, 0, 0)) ((35, 48, 0, 0, 0))) (cond (Nat.ble 46 pc) ((0, 47, 0, 0, 1)) ((99, 0, 0, 0, 0)))) (cond (Nat.ble 43 pc) (cond (Nat.ble 44 pc) ((99, 0, 0, 0, 0)) ((19, 46, 0, 14, 0))) ((99, 0, 0, 0, 0)))) (cond (Nat.ble 39 pc) (cond (Nat.ble 40 pc) (cond (Nat.ble 41 pc) ((99, 0, 0, 0, 0)) ((7, 43, 5, 0, (-1)))) ((35, 40, 0, 0, 0))) (cond (Nat.ble 37 pc) (cond (Nat.ble 38 pc) ((0, 39, 0, 0, 0)) ((99, 0, 0, 0, 0))) ((99, 0, 0, 0, 0))))) (cond (Nat.ble 30 pc) (cond (Nat.ble 33 pc) (cond (Nat.ble 34 pc) (cond (Nat.ble 35 pc) ((17, 38, 0, 40, 0)) ((99, 0, 0, 0, 0))) ((99, 0, 0, 0, 0))) (cond (Nat.ble 31 pc) (cond (Nat.ble 32 pc) ((28, 35, 1, 2, 0)) ((8, 32, 1, 0, 0))) ((1, 31, 1, 0, 0)))) (cond (Nat.ble 27 pc) (cond (Nat.ble 28 pc) (cond (Nat.ble 29 pc) ((99, 0, 0, 0, 0)) ((1, 30, 5, 0, 0))) ((2, 28, 0, 0, 0))) (cond (Nat.ble 25 pc) ((99, 0, 0, 0, 0)) ((28, 27, 1, 2, 0)))))) (cond (Nat.ble 12 pc) (cond (Nat.ble 18 pc) (cond (Nat.ble 21 pc) (cond (Nat.ble 22 pc) (cond (Nat.ble 23 pc) ((99, 0, 0, 0, 0)) ((1, 24, 5, 0, 0))) ((2, 22, 0, 0, 0))) (cond (Nat.ble 19 pc) ((99, 0, 0, 0, 0)) ((17, 21, 2, 46, 0)))) (cond (Nat.ble 15 pc) (cond (Nat.ble 16 pc) (cond (Nat.ble 17 pc) ((99, 0, 0, 0, 0)) ((1, 18, 4, 0, 0))) ((99, 0, 0, 0, 0))) (cond (Nat.ble 13 pc) (cond (Nat.ble 14 pc) ((1, 16, 5, 0, 0)) ((99, 0, 0, 0, 0))) ((4, 14, 5, 0, 0))))) (cond (Nat.ble 6 pc) (cond (Nat.ble 9 pc) (cond (Nat.ble 10 pc) (cond (Nat.ble 11 pc) ((8, 12, 1, 0, 0)) ((0, 11, 0, 0, 1))) ((1, 10, 3, 0, 0))) (cond (Nat.ble 7 pc) (cond (Nat.ble 8 pc) ((99, 0, 0, 0, 0)) ((4, 9, 4, 0, 0))) ((8, 7, 1, 0, 0)))) (cond (Nat.ble 3 pc) (cond (Nat.ble 4 pc) (cond (Nat.ble 5 pc) ((8, 6, 2, 0, 0)) ((1, 5, 1, 0, 0))) ((8, 4, 1, 0, 0))) (cond (Nat.ble 1 pc) (cond (Nat.ble 2 pc) ((0, 3, 0, 0, 1)) ((1, 2, 2, 0, 0))) ((1, 1, 3, 0, 0))))))
def zc_X1_hasColour : Nat → zE := fun pc => cond (Nat.ble 9 pc) (cond (Nat.ble 14 pc) (cond (Nat.ble 16 pc) (cond (Nat.ble 17 pc) (cond (Nat.ble 18 pc) ((99, 0, 0, 0, 0)) ((35, 18, 0, 0, 0))) ((0, 17, 0, 0, 0))) ((99, 0, 0, 0, 0))) (cond (Nat.ble 11 pc) (cond (Nat.ble 12 pc) (cond (Nat.ble 13 pc) ((19, 16, 0, 17, 0)) ((0, 13, 0, 0, 1))) ((99, 0, 0, 0, 0))) (cond (Nat.ble 10 pc) ((99, 0, 0, 0, 0)) ((17, 12, 3, 16, 0))))) (cond (Nat.ble 4 pc) (cond (Nat.ble 6 pc) (cond (Nat.ble 7 pc) ((99, 0, 0, 0, 0)) ((20, 9, 1, 0, 0))) (cond (Nat.ble 5 pc) ((2, 6, 0, 0, 0)) ((1, 5, 1, 0, 0)))) (cond (Nat.ble 2 pc) ((99, 0, 0, 0, 0)) (cond (Nat.ble 1 pc) ((16, 4, 2, 16, 0)) ((1, 1, 1, 0, 0)))))
def zc_X1_priceOf : Nat → zE := fun pc => cond (Nat.ble 12 pc) (cond (Nat.ble 18 pc) (cond (Nat.ble 21 pc) (cond (Nat.ble 23 pc) (cond (Nat.ble 24 pc) ((99, 0, 0, 0, 0)) ((34, 24, 0, 0, 0))) (cond (Nat.ble 22 pc) ((0, 23, 0, 0, 0)) ((99, 0, 0, 0, 0)))) (cond (Nat.ble 19 pc) (cond (Nat.ble 20 pc) ((99, 0, 0, 0, 0)) ((19, 22, 0, 23, 0))) ((23, 19, 0, 0, 0)))) (cond (Nat.ble 15 pc) (cond (Nat.ble 16 pc) (cond (Nat.ble 17 pc) ((1, 18, 1, 0, 0)) ((99, 0, 0, 0, 0))) ((99, 0, 0, 0, 0))) (cond (Nat.ble 13 pc) (cond (Nat.ble 14 pc) ((20, 17, 1, 3, 0)) ((2, 14, 0, 0, 0))) ((99, 0, 0, 0, 0))))) (cond (Nat.ble 6 pc) (cond (Nat.ble 9 pc) (cond (Nat.ble 10 pc) (cond (Nat.ble 11 pc) ((99, 0, 0, 0, 0)) ((17, 13, 3, 22, 0))) ((27, 10, 0, 0, 0))) (cond (Nat.ble 7 pc) ((99, 0, 0, 0, 0)) ((20, 9, 1, 3, 0)))) (cond (Nat.ble 3 pc) (cond (Nat.ble 4 pc) (cond (Nat.ble 5 pc) ((2, 6, 0, 0, 0)) ((1, 5, 1, 0, 0))) ((99, 0, 0, 0, 0))) (cond (Nat.ble 1 pc) (cond (Nat.ble 2 pc) ((99, 0, 0, 0, 0)) ((16, 4, 2, 22, 0))) ((1, 1, 1, 0, 0)))))
def zc_X1_setPrice : Nat → zE := fun pc => cond (Nat.ble 11 pc) (cond (Nat.ble 16 pc) (cond (Nat.ble 19 pc) (cond (Nat.ble 20 pc) (cond (Nat.ble 21 pc) ((99, 0, 0, 0, 0)) ((37, 21, 0, 0, 0))) ((24, 20, 0, 0, 0))) (cond (Nat.ble 17 pc) (cond (Nat.ble 18 pc) ((1, 19, 2, 0, 0)) ((1, 18, 1, 0, 0))) ((99, 0, 0, 0, 0)))) (cond (Nat.ble 13 pc) (cond (Nat.ble 14 pc) (cond (Nat.ble 15 pc) ((99, 0, 0, 0, 0)) ((20, 17, 1, 3, 0))) ((2, 14, 0, 0, 0))) ((99, 0, 0, 0, 0)))) (cond (Nat.ble 5 pc) (cond (Nat.ble 8 pc) (cond (Nat.ble 9 pc) (cond (Nat.ble 10 pc) ((17, 13, 3, 20, 0)) ((27, 10, 0, 0, 0))) ((99, 0, 0, 0, 0))) (cond (Nat.ble 6 pc) (cond (Nat.ble 7 pc) ((99, 0, 0, 0, 0)) ((20, 9, 1, 3, 0))) ((2, 6, 0, 0, 0)))) (cond (Nat.ble 2 pc) (cond (Nat.ble 3 pc) (cond (Nat.ble 4 pc) ((1, 5, 1, 0, 0)) ((99, 0, 0, 0, 0))) ((99, 0, 0, 0, 0))) (cond (Nat.ble 1 pc) ((16, 4, 2, 20, 0)) ((1, 1, 1, 0, 0)))))
def zc_X1_leastPrice : Nat → zE := fun pc => cond (Nat.ble 16 pc) (cond (Nat.ble 24 pc) (cond (Nat.ble 28 pc) (cond (Nat.ble 30 pc) (cond (Nat.ble 31 pc) ((99, 0, 0, 0, 0)) ((34, 31, 0, 0, 0))) (cond (Nat.ble 29 pc) ((1, 30, 1, 0, 0)) ((99, 0, 0, 0, 0)))) (cond (Nat.ble 26 pc) (cond (Nat.ble 27 pc) ((99, 0, 0, 0, 0)) ((19, 29, 0, 5, 0))) ((99, 0, 0, 0, 0)))) (cond (Nat.ble 20 pc) (cond (Nat.ble 22 pc) (cond (Nat.ble 23 pc) ((7, 26, 2, 0, 1)) ((4, 23, 1, 0, 0))) ((99, 0, 0, 0, 0))) (cond (Nat.ble 18 pc) (cond (Nat.ble 19 pc) ((49, 22, 0, 0, 0)) ((99, 0, 0, 0, 0))) (cond (Nat.ble 17 pc) ((99, 0, 0, 0, 0)) ((28, 19, 9, 2, 0)))))) (cond (Nat.ble 8 pc) (cond (Nat.ble 12 pc) (cond (Nat.ble 14 pc) (cond (Nat.ble 15 pc) ((1, 16, 2, 0, 0)) ((2, 15, 0, 0, 0))) (cond (Nat.ble 13 pc) ((1, 14, 1, 0, 0)) ((99, 0, 0, 0, 0)))) (cond (Nat.ble 10 pc) (cond (Nat.ble 11 pc) ((99, 0, 0, 0, 0)) ((17, 13, 3, 29, 0))) ((99, 0, 0, 0, 0)))) (cond (Nat.ble 4 pc) (cond (Nat.ble 6 pc) (cond (Nat.ble 7 pc) ((20, 10, 1, 0, 0)) ((2, 7, 0, 0, 0))) (cond (Nat.ble 5 pc) ((1, 6, 2, 0, 0)) ((4, 5, 2, 0, 0)))) (cond (Nat.ble 2 pc) (cond (Nat.ble 3 pc) ((0, 4, 0, 0, 0)) ((4, 3, 1, 0, 0))) (cond (Nat.ble 1 pc) ((99, 0, 0, 0, 0)) ((0, 2, 0, 0, 99))))))
def zc_X1_takeFrom : Nat → zE := fun pc => cond (Nat.ble 20 pc) (cond (Nat.ble 30 pc) (cond (Nat.ble 35 pc) (cond (Nat.ble 37 pc) (cond (Nat.ble 38 pc) (cond (Nat.ble 39 pc) ((99, 0, 0, 0, 0)) ((37, 39, 0, 0, 0))) ((99, 0, 0, 0, 0))) (cond (Nat.ble 36 pc) ((99, 0, 0, 0, 0)) ((29, 38, 0, 0, 0)))) (cond (Nat.ble 32 pc) (cond (Nat.ble 33 pc) (cond (Nat.ble 34 pc) ((0, 35, 0, 0, 4)) ((0, 34, 0, 0, 0))) ((99, 0, 0, 0, 0))) (cond (Nat.ble 31 pc) ((99, 0, 0, 0, 0)) ((20, 33, 1, 3, 0))))) (cond (Nat.ble 25 pc) (cond (Nat.ble 27 pc) (cond (Nat.ble 28 pc) (cond (Nat.ble 29 pc) ((2, 30, 0, 0, 0)) ((0, 29, 0, 0, 0))) ((99, 0, 0, 0, 0))) (cond (Nat.ble 26 pc) ((99, 0, 0, 0, 0)) ((20, 28, 1, 3, 0)))) (cond (Nat.ble 22 pc) (cond (Nat.ble 23 pc) (cond (Nat.ble 24 pc) ((2, 25, 1, 0, 0)) ((99, 0, 0, 0, 0))) ((99, 0, 0, 0, 0))) (cond (Nat.ble 21 pc) ((21, 24, 1, 2, 0)) ((99, 0, 0, 0, 0)))))) (cond (Nat.ble 10 pc) (cond (Nat.ble 15 pc) (cond (Nat.ble 17 pc) (cond (Nat.ble 18 pc) (cond (Nat.ble 19 pc) ((99, 0, 0, 0, 0)) ((20, 21, 1, 2, 0))) ((2, 18, 1, 0, 0))) (cond (Nat.ble 16 pc) ((2, 17, 0, 0, 0)) ((99, 0, 0, 0, 0)))) (cond (Nat.ble 12 pc) (cond (Nat.ble 13 pc) (cond (Nat.ble 14 pc) ((99, 0, 0, 0, 0)) ((21, 16, 1, 1, 0))) ((99, 0, 0, 0, 0))) (cond (Nat.ble 11 pc) ((99, 0, 0, 0, 0)) ((20, 13, 1, 1, 0))))) (cond (Nat.ble 5 pc) (cond (Nat.ble 7 pc) (cond (Nat.ble 8 pc) (cond (Nat.ble 9 pc) ((2, 10, 1, 0, 0)) ((2, 9, 0, 0, 0))) ((99, 0, 0, 0, 0))) (cond (Nat.ble 6 pc) ((99, 0, 0, 0, 0)) ((21, 8, 1, 0, 0)))) (cond (Nat.ble 2 pc) (cond (Nat.ble 3 pc) ((99, 0, 0, 0, 0)) ((20, 5, 1, 0, 0))) (cond (Nat.ble 1 pc) ((2, 2, 1, 0, 0)) ((2, 1, 0, 0, 0))))))
def zc_X1_faultOf : Nat → zE := fun pc => cond (Nat.ble 15 pc) (cond (Nat.ble 23 pc) (cond (Nat.ble 27 pc) (cond (Nat.ble 29 pc) (cond (Nat.ble 30 pc) ((99, 0, 0, 0, 0)) ((34, 30, 0, 0, 0))) (cond (Nat.ble 28 pc) ((0, 29, 0, 0, 0)) ((99, 0, 0, 0, 0)))) (cond (Nat.ble 25 pc) (cond (Nat.ble 26 pc) ((99, 0, 0, 0, 0)) ((19, 28, 0, 2, 0))) ((99, 0, 0, 0, 0)))) (cond (Nat.ble 19 pc) (cond (Nat.ble 21 pc) (cond (Nat.ble 22 pc) ((7, 25, 2, 0, 1)) ((34, 22, 0, 0, 0))) (cond (Nat.ble 20 pc) ((1, 21, 2, 0, 0)) ((99, 0, 0, 0, 0)))) (cond (Nat.ble 17 pc) (cond (Nat.ble 18 pc) ((99, 0, 0, 0, 0)) ((16, 20, 0, 22, 0))) ((99, 0, 0, 0, 0))))) (cond (Nat.ble 7 pc) (cond (Nat.ble 11 pc) (cond (Nat.ble 13 pc) (cond (Nat.ble 14 pc) ((28, 17, 17, 4, 0)) ((1, 14, 2, 0, 0))) (cond (Nat.ble 12 pc) ((0, 13, 0, 0, 0)) ((2, 12, 1, 0, 0)))) (cond (Nat.ble 9 pc) (cond (Nat.ble 10 pc) ((2, 11, 0, 0, 0)) ((99, 0, 0, 0, 0))) (cond (Nat.ble 8 pc) ((99, 0, 0, 0, 0)) ((17, 10, 4, 28, 0))))) (cond (Nat.ble 3 pc) (cond (Nat.ble 5 pc) ((99, 0, 0, 0, 0)) (cond (Nat.ble 4 pc) ((20, 7, 0, 1, 1)) ((2, 4, 1, 0, 0)))) (cond (Nat.ble 1 pc) (cond (Nat.ble 2 pc) ((1, 3, 2, 0, 0)) ((4, 2, 2, 0, 0))) ((0, 1, 0, 0, 1)))))
def zc_X1_holds : Nat → zE := fun pc => cond (Nat.ble 16 pc) (cond (Nat.ble 24 pc) (cond (Nat.ble 28 pc) (cond (Nat.ble 30 pc) (cond (Nat.ble 31 pc) (cond (Nat.ble 32 pc) ((99, 0, 0, 0, 0)) ((35, 32, 0, 0, 0))) ((0, 31, 0, 0, 1))) ((99, 0, 0, 0, 0))) (cond (Nat.ble 26 pc) (cond (Nat.ble 27 pc) ((19, 30, 0, 5, 0)) ((99, 0, 0, 0, 0))) (cond (Nat.ble 25 pc) ((99, 0, 0, 0, 0)) ((7, 27, 4, 0, 1))))) (cond (Nat.ble 20 pc) (cond (Nat.ble 22 pc) (cond (Nat.ble 23 pc) ((35, 24, 0, 0, 0)) ((0, 23, 0, 0, 0))) ((99, 0, 0, 0, 0))) (cond (Nat.ble 18 pc) (cond (Nat.ble 19 pc) ((16, 22, 0, 24, 0)) ((99, 0, 0, 0, 0))) (cond (Nat.ble 17 pc) ((99, 0, 0, 0, 0)) ((28, 19, 17, 4, 0)))))) (cond (Nat.ble 8 pc) (cond (Nat.ble 12 pc) (cond (Nat.ble 14 pc) (cond (Nat.ble 15 pc) ((99, 0, 0, 0, 0)) ((1, 16, 4, 0, 0))) (cond (Nat.ble 13 pc) ((0, 14, 0, 0, 0)) ((2, 13, 1, 0, 0)))) (cond (Nat.ble 10 pc) (cond (Nat.ble 11 pc) ((2, 12, 0, 0, 0)) ((99, 0, 0, 0, 0))) (cond (Nat.ble 9 pc) ((99, 0, 0, 0, 0)) ((17, 11, 4, 30, 0))))) (cond (Nat.ble 4 pc) (cond (Nat.ble 6 pc) (cond (Nat.ble 7 pc) ((1, 8, 3, 0, 0)) ((99, 0, 0, 0, 0))) (cond (Nat.ble 5 pc) ((1, 7, 4, 0, 0)) ((99, 0, 0, 0, 0)))) (cond (Nat.ble 2 pc) (cond (Nat.ble 3 pc) ((4, 5, 4, 0, 0)) ((8, 3, 0, 0, 0))) (cond (Nat.ble 1 pc) ((0, 2, 0, 0, 1)) ((1, 1, 2, 0, 0))))))
def zc_X1_standsWith : Nat → zE := fun pc => cond (Nat.ble 12 pc) (cond (Nat.ble 18 pc) (cond (Nat.ble 21 pc) (cond (Nat.ble 23 pc) (cond (Nat.ble 24 pc) ((99, 0, 0, 0, 0)) ((35, 24, 0, 0, 0))) (cond (Nat.ble 22 pc) ((0, 23, 0, 0, 0)) ((99, 0, 0, 0, 0)))) (cond (Nat.ble 19 pc) (cond (Nat.ble 20 pc) ((99, 0, 0, 0, 0)) ((19, 22, 0, 23, 0))) ((0, 19, 0, 0, 1)))) (cond (Nat.ble 15 pc) (cond (Nat.ble 16 pc) ((99, 0, 0, 0, 0)) ((16, 18, 1, 22, 0))) (cond (Nat.ble 13 pc) ((99, 0, 0, 0, 0)) ((28, 15, 17, 4, 0))))) (cond (Nat.ble 6 pc) (cond (Nat.ble 9 pc) (cond (Nat.ble 10 pc) ((99, 0, 0, 0, 0)) ((20, 12, 0, 1, 1))) (cond (Nat.ble 7 pc) (cond (Nat.ble 8 pc) ((2, 9, 1, 0, 0)) ((0, 8, 0, 0, 0))) ((2, 7, 1, 0, 0)))) (cond (Nat.ble 3 pc) (cond (Nat.ble 4 pc) (cond (Nat.ble 5 pc) ((2, 6, 0, 0, 0)) ((99, 0, 0, 0, 0))) ((99, 0, 0, 0, 0))) (cond (Nat.ble 1 pc) (cond (Nat.ble 2 pc) ((28, 5, 3, 2, 1)) ((1, 2, 2, 0, 0))) ((2, 1, 1, 0, 0)))))
def zc_X1_isRing : Nat → zE := fun pc => cond (Nat.ble 39 pc) (cond (Nat.ble 58 pc) (cond (Nat.ble 68 pc) (cond (Nat.ble 73 pc) (cond (Nat.ble 75 pc) (cond (Nat.ble 76 pc) (cond (Nat.ble 77 pc) ((99, 0, 0, 0, 0)) ((35, 77, 0, 0, 0))) ((1, 76, 3, 0, 0))) ((99, 0, 0, 0, 0))) (cond (Nat.ble 70 pc) (cond (Nat.ble 71 pc) (cond (Nat.ble 72 pc) ((28, 75, 4, 2, 1)) ((1, 72, 2, 0, 0))) ((2, 71, 1, 0, 0))) ((99, 0, 0, 0, 0)))) (cond (Nat.ble 63 pc) (cond (Nat.ble 65 pc) (cond (Nat.ble 66 pc) (cond (Nat.ble 67 pc) ((19, 70, 0, 32, 0)) ((99, 0, 0, 0, 0))) ((99, 0, 0, 0, 0))) (cond (Nat.ble 64 pc) ((7, 67, 4, 0, 1)) ((4, 64, 3, 0, 0)))) (cond (Nat.ble 60 pc) (cond (Nat.ble 61 pc) (cond (Nat.ble 62 pc) ((0, 63, 0, 0, 0)) ((99, 0, 0, 0, 0))) ((99, 0, 0, 0, 0))) (cond (Nat.ble 59 pc) ((19, 62, 0, 63, 0)) ((0, 59, 0, 0, 1)))))) (cond (Nat.ble 48 pc) (cond (Nat.ble 53 pc) (cond (Nat.ble 55 pc) (cond (Nat.ble 56 pc) ((99, 0, 0, 0, 0)) ((16, 58, 1, 62, 0))) ((99, 0, 0, 0, 0))) (cond (Nat.ble 50 pc) (cond (Nat.ble 51 pc) (cond (Nat.ble 52 pc) ((28, 55, 17, 4, 0)) ((99, 0, 0, 0, 0))) ((1, 52, 4, 0, 0))) (cond (Nat.ble 49 pc) ((8, 50, 1, 0, 0)) ((1, 49, 2, 0, 0))))) (cond (Nat.ble 43 pc) (cond (Nat.ble 45 pc) (cond (Nat.ble 46 pc) (cond (Nat.ble 47 pc) ((99, 0, 0, 0, 0)) ((1, 48, 4, 0, 0))) ((2, 46, 1, 0, 0))) (cond (Nat.ble 44 pc) ((2, 45, 0, 0, 0)) ((99, 0, 0, 0, 0)))) (cond (Nat.ble 41 pc) (cond (Nat.ble 42 pc) ((99, 0, 0, 0, 0)) ((16, 44, 0, 70, 0))) (cond (Nat.ble 40 pc) ((1, 41, 3, 0, 0)) ((99, 0, 0, 0, 0))))))) (cond (Nat.ble 19 pc) (cond (Nat.ble 29 pc) (cond (Nat.ble 34 pc) (cond (Nat.ble 36 pc) (cond (Nat.ble 37 pc) (cond (Nat.ble 38 pc) ((99, 0, 0, 0, 0)) ((17, 40, 3, 70, 0))) ((8, 37, 2, 0, 0))) (cond (Nat.ble 35 pc) ((1, 36, 2, 0, 0)) ((0, 35, 0, 0, 2)))) (cond (Nat.ble 31 pc) (cond (Nat.ble 32 pc) (cond (Nat.ble 33 pc) ((99, 0, 0, 0, 0)) ((1, 34, 4, 0, 0))) ((99, 0, 0, 0, 0))) (cond (Nat.ble 30 pc) ((4, 32, 4, 0, 0)) ((1, 30, 2, 0, 0))))) (cond (Nat.ble 24 pc) (cond (Nat.ble 26 pc) (cond (Nat.ble 27 pc) (cond (Nat.ble 28 pc) ((4, 29, 3, 0, 0)) ((0, 28, 0, 0, 1))) ((99, 0, 0, 0, 0))) (cond (Nat.ble 25 pc) ((99, 0, 0, 0, 0)) ((19, 27, 0, 7, 0)))) (cond (Nat.ble 21 pc) (cond (Nat.ble 22 pc) ((99, 0, 0, 0, 0)) ((7, 24, 3, 0, 1))) ((99, 0, 0, 0, 0))))) (cond (Nat.ble 9 pc) (cond (Nat.ble 14 pc) (cond (Nat.ble 16 pc) (cond (Nat.ble 17 pc) (cond (Nat.ble 18 pc) ((28, 21, 3, 2, 1)) ((99, 0, 0, 0, 0))) ((99, 0, 0, 0, 0))) (cond (Nat.ble 15 pc) ((28, 18, 1, 2, 1)) ((1, 15, 3, 0, 0)))) (cond (Nat.ble 11 pc) (cond (Nat.ble 12 pc) (cond (Nat.ble 13 pc) ((2, 14, 1, 0, 0)) ((2, 13, 1, 0, 0))) ((99, 0, 0, 0, 0))) (cond (Nat.ble 10 pc) ((99, 0, 0, 0, 0)) ((17, 12, 3, 27, 0))))) (cond (Nat.ble 4 pc) (cond (Nat.ble 6 pc) (cond (Nat.ble 7 pc) (cond (Nat.ble 8 pc) ((1, 9, 2, 0, 0)) ((1, 8, 3, 0, 0))) ((4, 7, 3, 0, 0))) (cond (Nat.ble 5 pc) ((0, 6, 0, 0, 0)) ((4, 5, 2, 0, 0)))) (cond (Nat.ble 2 pc) ((99, 0, 0, 0, 0)) (cond (Nat.ble 1 pc) ((20, 4, 0, 1, 1)) ((2, 1, 1, 0, 0)))))))
def zc_X1_stretchAtEnd : Nat → zE := fun pc => cond (Nat.ble 43 pc) (cond (Nat.ble 65 pc) (cond (Nat.ble 76 pc) (cond (Nat.ble 81 pc) (cond (Nat.ble 84 pc) (cond (Nat.ble 85 pc) (cond (Nat.ble 86 pc) ((99, 0, 0, 0, 0)) ((34, 86, 0, 0, 0))) ((0, 85, 0, 0, 0))) (cond (Nat.ble 82 pc) ((99, 0, 0, 0, 0)) ((19, 84, 0, 52, 0)))) (cond (Nat.ble 78 pc) (cond (Nat.ble 79 pc) ((99, 0, 0, 0, 0)) ((7, 81, 6, 0, 1))) (cond (Nat.ble 77 pc) ((34, 78, 0, 0, 0)) ((99, 0, 0, 0, 0))))) (cond (Nat.ble 70 pc) (cond (Nat.ble 73 pc) (cond (Nat.ble 74 pc) (cond (Nat.ble 75 pc) ((1, 77, 6, 0, 0)) ((99, 0, 0, 0, 0))) ((99, 0, 0, 0, 0))) (cond (Nat.ble 71 pc) (cond (Nat.ble 72 pc) ((16, 75, 0, 78, 0)) ((99, 0, 0, 0, 0))) ((99, 0, 0, 0, 0)))) (cond (Nat.ble 67 pc) (cond (Nat.ble 68 pc) (cond (Nat.ble 69 pc) ((28, 72, 7, 4, 1)) ((1, 69, 3, 0, 0))) ((99, 0, 0, 0, 0))) (cond (Nat.ble 66 pc) ((1, 68, 4, 0, 0)) ((99, 0, 0, 0, 0)))))) (cond (Nat.ble 54 pc) (cond (Nat.ble 59 pc) (cond (Nat.ble 62 pc) (cond (Nat.ble 63 pc) (cond (Nat.ble 64 pc) ((1, 66, 6, 0, 0)) ((2, 64, 1, 0, 0))) ((99, 0, 0, 0, 0))) (cond (Nat.ble 60 pc) (cond (Nat.ble 61 pc) ((99, 0, 0, 0, 0)) ((17, 63, 4, 84, 0))) ((8, 60, 1, 0, 0)))) (cond (Nat.ble 56 pc) (cond (Nat.ble 57 pc) (cond (Nat.ble 58 pc) ((1, 59, 2, 0, 0)) ((1, 58, 3, 0, 0))) ((8, 57, 2, 0, 0))) (cond (Nat.ble 55 pc) ((99, 0, 0, 0, 0)) ((1, 56, 4, 0, 0))))) (cond (Nat.ble 48 pc) (cond (Nat.ble 51 pc) (cond (Nat.ble 52 pc) (cond (Nat.ble 53 pc) ((99, 0, 0, 0, 0)) ((1, 54, 6, 0, 0))) ((99, 0, 0, 0, 0))) (cond (Nat.ble 49 pc) (cond (Nat.ble 50 pc) ((4, 52, 6, 0, 0)) ((99, 0, 0, 0, 0))) ((1, 50, 5, 0, 0)))) (cond (Nat.ble 45 pc) (cond (Nat.ble 46 pc) (cond (Nat.ble 47 pc) ((99, 0, 0, 0, 0)) ((4, 48, 5, 0, 0))) ((0, 46, 0, 0, 1))) ((99, 0, 0, 0, 0)))))) (cond (Nat.ble 21 pc) (cond (Nat.ble 32 pc) (cond (Nat.ble 37 pc) (cond (Nat.ble 40 pc) (cond (Nat.ble 41 pc) (cond (Nat.ble 42 pc) ((19, 45, 0, 46, 0)) ((99, 0, 0, 0, 0))) ((99, 0, 0, 0, 0))) (cond (Nat.ble 38 pc) (cond (Nat.ble 39 pc) ((20, 42, 1, 2, 0)) ((2, 39, 0, 0, 0))) ((99, 0, 0, 0, 0)))) (cond (Nat.ble 34 pc) (cond (Nat.ble 35 pc) (cond (Nat.ble 36 pc) ((99, 0, 0, 0, 0)) ((17, 38, 1, 45, 0))) ((0, 35, 0, 0, 3))) ((99, 0, 0, 0, 0)))) (cond (Nat.ble 26 pc) (cond (Nat.ble 29 pc) (cond (Nat.ble 30 pc) (cond (Nat.ble 31 pc) ((20, 34, 1, 1, 0)) ((2, 31, 0, 0, 0))) ((99, 0, 0, 0, 0))) (cond (Nat.ble 27 pc) (cond (Nat.ble 28 pc) ((4, 30, 4, 0, 0)) ((0, 28, 0, 0, 2))) ((99, 0, 0, 0, 0)))) (cond (Nat.ble 23 pc) (cond (Nat.ble 24 pc) (cond (Nat.ble 25 pc) ((99, 0, 0, 0, 0)) ((19, 27, 0, 28, 0))) ((0, 24, 0, 0, 3))) ((99, 0, 0, 0, 0))))) (cond (Nat.ble 10 pc) (cond (Nat.ble 15 pc) (cond (Nat.ble 18 pc) (cond (Nat.ble 19 pc) (cond (Nat.ble 20 pc) ((17, 23, 1, 27, 0)) ((0, 20, 0, 0, 1))) ((99, 0, 0, 0, 0))) (cond (Nat.ble 16 pc) (cond (Nat.ble 17 pc) ((99, 0, 0, 0, 0)) ((20, 19, 1, 1, 0))) ((2, 16, 0, 0, 0)))) (cond (Nat.ble 12 pc) (cond (Nat.ble 13 pc) (cond (Nat.ble 14 pc) ((34, 15, 0, 0, 0)) ((99, 0, 0, 0, 0))) ((99, 0, 0, 0, 0))) (cond (Nat.ble 11 pc) ((28, 14, 18, 3, 0)) ((1, 11, 3, 0, 0))))) (cond (Nat.ble 5 pc) (cond (Nat.ble 7 pc) (cond (Nat.ble 8 pc) (cond (Nat.ble 9 pc) ((1, 10, 2, 0, 0)) ((2, 9, 1, 0, 0))) ((99, 0, 0, 0, 0))) (cond (Nat.ble 6 pc) ((99, 0, 0, 0, 0)) ((17, 8, 1, 15, 0)))) (cond (Nat.ble 2 pc) (cond (Nat.ble 3 pc) (cond (Nat.ble 4 pc) ((0, 5, 0, 0, 2)) ((99, 0, 0, 0, 0))) ((99, 0, 0, 0, 0))) (cond (Nat.ble 1 pc) ((20, 4, 1, 1, 0)) ((2, 1, 0, 0, 0)))))))
def zc_X1_mixedAtEnd : Nat → zE := fun pc => cond (Nat.ble 44 pc) (cond (Nat.ble 66 pc) (cond (Nat.ble 77 pc) (cond (Nat.ble 83 pc) (cond (Nat.ble 86 pc) (cond (Nat.ble 87 pc) (cond (Nat.ble 88 pc) ((99, 0, 0, 0, 0)) ((34, 88, 0, 0, 0))) ((0, 87, 0, 0, 0))) (cond (Nat.ble 84 pc) ((99, 0, 0, 0, 0)) ((19, 86, 0, 8, 0)))) (cond (Nat.ble 80 pc) (cond (Nat.ble 81 pc) ((99, 0, 0, 0, 0)) ((7, 83, 7, 0, 1))) (cond (Nat.ble 78 pc) (cond (Nat.ble 79 pc) ((34, 80, 0, 0, 0)) ((99, 0, 0, 0, 0))) ((1, 79, 7, 0, 0))))) (cond (Nat.ble 71 pc) (cond (Nat.ble 74 pc) (cond (Nat.ble 75 pc) ((99, 0, 0, 0, 0)) ((16, 77, 1, 80, 0))) (cond (Nat.ble 72 pc) (cond (Nat.ble 73 pc) ((14, 74, 0, 0, 0)) ((11, 73, 1, 0, 0))) ((3, 72, 3, 0, 0)))) (cond (Nat.ble 68 pc) (cond (Nat.ble 69 pc) ((99, 0, 0, 0, 0)) ((15, 71, 71, 0, 2))) (cond (Nat.ble 67 pc) ((99, 0, 0, 0, 0)) ((3, 68, 5, 0, 0)))))) (cond (Nat.ble 55 pc) (cond (Nat.ble 60 pc) (cond (Nat.ble 63 pc) (cond (Nat.ble 64 pc) (cond (Nat.ble 65 pc) ((99, 0, 0, 0, 0)) ((6, 66, 5, 0, 0))) ((11, 64, 0, 0, 0))) (cond (Nat.ble 61 pc) (cond (Nat.ble 62 pc) ((11, 63, 0, 0, 0)) ((99, 0, 0, 0, 0))) ((99, 0, 0, 0, 0)))) (cond (Nat.ble 57 pc) (cond (Nat.ble 58 pc) (cond (Nat.ble 59 pc) ((28, 62, 19, 1, 0)) ((99, 0, 0, 0, 0))) ((99, 0, 0, 0, 0))) (cond (Nat.ble 56 pc) ((28, 59, 1, 2, 1)) ((8, 56, 1, 0, 0))))) (cond (Nat.ble 49 pc) (cond (Nat.ble 52 pc) (cond (Nat.ble 53 pc) (cond (Nat.ble 54 pc) ((8, 55, 2, 0, 0)) ((99, 0, 0, 0, 0))) ((1, 54, 7, 0, 0))) (cond (Nat.ble 50 pc) (cond (Nat.ble 51 pc) ((0, 52, 0, 0, 2)) ((1, 51, 2, 0, 0))) ((2, 50, 0, 0, 0)))) (cond (Nat.ble 46 pc) (cond (Nat.ble 47 pc) ((99, 0, 0, 0, 0)) ((28, 49, 19, 1, 0))) ((99, 0, 0, 0, 0)))))) (cond (Nat.ble 22 pc) (cond (Nat.ble 33 pc) (cond (Nat.ble 38 pc) (cond (Nat.ble 41 pc) (cond (Nat.ble 42 pc) (cond (Nat.ble 43 pc) ((28, 46, 1, 2, 1)) ((8, 43, 0, 0, 0))) ((0, 42, 0, 0, 1))) (cond (Nat.ble 39 pc) (cond (Nat.ble 40 pc) ((8, 41, 1, 0, 0)) ((8, 40, 2, 0, 0))) ((99, 0, 0, 0, 0)))) (cond (Nat.ble 35 pc) (cond (Nat.ble 36 pc) (cond (Nat.ble 37 pc) ((1, 39, 7, 0, 0)) ((0, 37, 0, 0, 2))) ((1, 36, 2, 0, 0))) (cond (Nat.ble 34 pc) ((2, 35, 0, 0, 0)) ((99, 0, 0, 0, 0))))) (cond (Nat.ble 27 pc) (cond (Nat.ble 30 pc) (cond (Nat.ble 31 pc) (cond (Nat.ble 32 pc) ((3, 34, 5, 0, 0)) ((6, 32, 3, 0, 0))) ((11, 31, 0, 0, 0))) (cond (Nat.ble 28 pc) ((99, 0, 0, 0, 0)) ((28, 30, 19, 1, 0)))) (cond (Nat.ble 24 pc) (cond (Nat.ble 25 pc) ((99, 0, 0, 0, 0)) ((28, 27, 1, 2, 1))) (cond (Nat.ble 23 pc) ((8, 24, 1, 0, 0)) ((99, 0, 0, 0, 0)))))) (cond (Nat.ble 11 pc) (cond (Nat.ble 16 pc) (cond (Nat.ble 19 pc) (cond (Nat.ble 20 pc) (cond (Nat.ble 21 pc) ((1, 23, 7, 0, 0)) ((1, 21, 2, 0, 0))) ((2, 20, 0, 0, 0))) (cond (Nat.ble 17 pc) (cond (Nat.ble 18 pc) ((3, 19, 3, 0, 0)) ((99, 0, 0, 0, 0))) ((99, 0, 0, 0, 0)))) (cond (Nat.ble 13 pc) (cond (Nat.ble 14 pc) (cond (Nat.ble 15 pc) ((17, 18, 4, 86, 0)) ((8, 15, 1, 0, 0))) ((1, 14, 1, 0, 0))) (cond (Nat.ble 12 pc) ((1, 13, 2, 0, 0)) ((8, 12, 2, 0, 0))))) (cond (Nat.ble 5 pc) (cond (Nat.ble 8 pc) (cond (Nat.ble 9 pc) (cond (Nat.ble 10 pc) ((0, 11, 0, 0, 2)) ((99, 0, 0, 0, 0))) ((1, 10, 7, 0, 0))) (cond (Nat.ble 6 pc) (cond (Nat.ble 7 pc) ((99, 0, 0, 0, 0)) ((4, 8, 7, 0, 0))) ((0, 6, 0, 0, 1)))) (cond (Nat.ble 2 pc) (cond (Nat.ble 3 pc) (cond (Nat.ble 4 pc) ((99, 0, 0, 0, 0)) ((6, 5, 5, 0, 0))) ((15, 3, 0, 0, 0))) (cond (Nat.ble 1 pc) ((6, 2, 3, 0, 0)) ((15, 1, 0, 0, 0)))))))
def zc_X1_tally : Nat → zE := fun pc => cond (Nat.ble 4 pc) (cond (Nat.ble 6 pc) (cond (Nat.ble 7 pc) ((99, 0, 0, 0, 0)) ((39, 7, 0, 0, 0))) (cond (Nat.ble 5 pc) ((12, 6, 0, 0, 0)) ((8, 5, 2, 0, 0)))) (cond (Nat.ble 2 pc) (cond (Nat.ble 3 pc) ((1, 4, 0, 0, 0)) ((99, 0, 0, 0, 0))) (cond (Nat.ble 1 pc) ((0, 3, 0, 0, 16)) ((15, 1, 0, 0, 1))))
def zc_X2_reaches : Nat → zE := fun pc => cond (Nat.ble 16 pc) (cond (Nat.ble 24 pc) (cond (Nat.ble 28 pc) (cond (Nat.ble 30 pc) (cond (Nat.ble 31 pc) (cond (Nat.ble 32 pc) ((99, 0, 0, 0, 0)) ((35, 32, 0, 0, 0))) ((0, 31, 0, 0, 0))) ((99, 0, 0, 0, 0))) (cond (Nat.ble 26 pc) (cond (Nat.ble 27 pc) ((19, 30, 0, 31, 0)) ((0, 27, 0, 0, 1))) ((99, 0, 0, 0, 0)))) (cond (Nat.ble 20 pc) (cond (Nat.ble 22 pc) (cond (Nat.ble 23 pc) ((17, 26, 4, 30, 0)) ((8, 23, 1, 0, 0))) (cond (Nat.ble 21 pc) ((1, 22, 2, 0, 0)) ((99, 0, 0, 0, 0)))) (cond (Nat.ble 18 pc) (cond (Nat.ble 19 pc) ((99, 0, 0, 0, 0)) ((20, 21, 2, 2, 0))) (cond (Nat.ble 17 pc) ((2, 18, 0, 0, 0)) ((1, 17, 1, 0, 0)))))) (cond (Nat.ble 8 pc) (cond (Nat.ble 12 pc) (cond (Nat.ble 14 pc) ((99, 0, 0, 0, 0)) (cond (Nat.ble 13 pc) ((17, 16, 4, 30, 0)) ((99, 0, 0, 0, 0)))) (cond (Nat.ble 10 pc) (cond (Nat.ble 11 pc) ((99, 0, 0, 0, 0)) ((20, 13, 2, 2, 0))) (cond (Nat.ble 9 pc) ((2, 10, 0, 0, 0)) ((1, 9, 2, 0, 0))))) (cond (Nat.ble 4 pc) (cond (Nat.ble 6 pc) ((99, 0, 0, 0, 0)) (cond (Nat.ble 5 pc) ((16, 8, 2, 30, 0)) ((1, 5, 2, 0, 0)))) (cond (Nat.ble 2 pc) ((99, 0, 0, 0, 0)) (cond (Nat.ble 1 pc) ((16, 4, 2, 30, 0)) ((1, 1, 1, 0, 0))))))
def zc_X2_at : Nat → zE := fun pc => cond (Nat.ble 12 pc) (cond (Nat.ble 18 pc) (cond (Nat.ble 21 pc) (cond (Nat.ble 23 pc) (cond (Nat.ble 24 pc) ((99, 0, 0, 0, 0)) ((34, 24, 0, 0, 0))) (cond (Nat.ble 22 pc) ((0, 23, 0, 0, 0)) ((99, 0, 0, 0, 0)))) (cond (Nat.ble 19 pc) (cond (Nat.ble 20 pc) ((99, 0, 0, 0, 0)) ((19, 22, 0, 23, 0))) ((23, 19, 0, 0, 0)))) (cond (Nat.ble 15 pc) (cond (Nat.ble 16 pc) (cond (Nat.ble 17 pc) ((1, 18, 1, 0, 0)) ((99, 0, 0, 0, 0))) ((99, 0, 0, 0, 0))) (cond (Nat.ble 13 pc) (cond (Nat.ble 14 pc) ((20, 17, 2, 0, 0)) ((2, 14, 0, 0, 0))) ((99, 0, 0, 0, 0))))) (cond (Nat.ble 6 pc) (cond (Nat.ble 9 pc) (cond (Nat.ble 10 pc) (cond (Nat.ble 11 pc) ((99, 0, 0, 0, 0)) ((17, 13, 3, 22, 0))) ((27, 10, 0, 0, 0))) (cond (Nat.ble 7 pc) ((99, 0, 0, 0, 0)) ((20, 9, 2, 0, 0)))) (cond (Nat.ble 3 pc) (cond (Nat.ble 4 pc) (cond (Nat.ble 5 pc) ((2, 6, 0, 0, 0)) ((1, 5, 1, 0, 0))) ((99, 0, 0, 0, 0))) (cond (Nat.ble 1 pc) (cond (Nat.ble 2 pc) ((99, 0, 0, 0, 0)) ((16, 4, 2, 22, 0))) ((1, 1, 1, 0, 0)))))
def zc_X2_put : Nat → zE := fun pc => cond (Nat.ble 30 pc) (cond (Nat.ble 45 pc) (cond (Nat.ble 52 pc) (cond (Nat.ble 56 pc) (cond (Nat.ble 58 pc) (cond (Nat.ble 59 pc) ((99, 0, 0, 0, 0)) ((37, 59, 0, 0, 0))) (cond (Nat.ble 57 pc) ((24, 58, 0, 0, 0)) ((1, 57, 2, 0, 0)))) (cond (Nat.ble 54 pc) (cond (Nat.ble 55 pc) ((1, 56, 1, 0, 0)) ((99, 0, 0, 0, 0))) (cond (Nat.ble 53 pc) ((99, 0, 0, 0, 0)) ((20, 55, 2, 0, 0))))) (cond (Nat.ble 48 pc) (cond (Nat.ble 50 pc) (cond (Nat.ble 51 pc) ((2, 52, 0, 0, 0)) ((99, 0, 0, 0, 0))) (cond (Nat.ble 49 pc) ((99, 0, 0, 0, 0)) ((19, 51, 0, 58, 0)))) (cond (Nat.ble 46 pc) (cond (Nat.ble 47 pc) ((24, 48, 0, 0, 0)) ((13, 47, 3, 0, 0))) ((1, 46, 2, 0, 0))))) (cond (Nat.ble 37 pc) (cond (Nat.ble 41 pc) (cond (Nat.ble 43 pc) (cond (Nat.ble 44 pc) ((1, 45, 1, 0, 0)) ((99, 0, 0, 0, 0))) (cond (Nat.ble 42 pc) ((99, 0, 0, 0, 0)) ((20, 44, 2, 0, 0)))) (cond (Nat.ble 39 pc) (cond (Nat.ble 40 pc) ((2, 41, 0, 0, 0)) ((99, 0, 0, 0, 0))) (cond (Nat.ble 38 pc) ((99, 0, 0, 0, 0)) ((17, 40, 1, 51, 0))))) (cond (Nat.ble 33 pc) (cond (Nat.ble 35 pc) (cond (Nat.ble 36 pc) ((0, 37, 0, 0, 1)) ((99, 0, 0, 0, 0))) (cond (Nat.ble 34 pc) ((99, 0, 0, 0, 0)) ((20, 36, 2, 1, 0)))) (cond (Nat.ble 31 pc) (cond (Nat.ble 32 pc) ((2, 33, 0, 0, 0)) ((99, 0, 0, 0, 0))) ((99, 0, 0, 0, 0)))))) (cond (Nat.ble 15 pc) (cond (Nat.ble 22 pc) (cond (Nat.ble 26 pc) (cond (Nat.ble 28 pc) (cond (Nat.ble 29 pc) ((19, 32, 0, 58, 0)) ((24, 29, 0, 0, 0))) (cond (Nat.ble 27 pc) ((13, 28, 2, 0, 0)) ((1, 27, 2, 0, 0)))) (cond (Nat.ble 24 pc) (cond (Nat.ble 25 pc) ((1, 26, 1, 0, 0)) ((99, 0, 0, 0, 0))) (cond (Nat.ble 23 pc) ((99, 0, 0, 0, 0)) ((20, 25, 2, 0, 0))))) (cond (Nat.ble 18 pc) (cond (Nat.ble 20 pc) (cond (Nat.ble 21 pc) ((2, 22, 0, 0, 0)) ((99, 0, 0, 0, 0))) (cond (Nat.ble 19 pc) ((99, 0, 0, 0, 0)) ((16, 21, 1, 32, 0)))) (cond (Nat.ble 16 pc) ((99, 0, 0, 0, 0)) ((20, 18, 2, 1, 0))))) (cond (Nat.ble 7 pc) (cond (Nat.ble 11 pc) (cond (Nat.ble 13 pc) (cond (Nat.ble 14 pc) ((2, 15, 0, 0, 0)) ((37, 14, 0, 0, 0))) ((99, 0, 0, 0, 0))) (cond (Nat.ble 9 pc) (cond (Nat.ble 10 pc) ((17, 13, 2, 14, 0)) ((27, 10, 0, 0, 0))) ((99, 0, 0, 0, 0)))) (cond (Nat.ble 3 pc) (cond (Nat.ble 5 pc) (cond (Nat.ble 6 pc) ((20, 9, 2, 0, 0)) ((2, 6, 0, 0, 0))) (cond (Nat.ble 4 pc) ((1, 5, 1, 0, 0)) ((99, 0, 0, 0, 0)))) (cond (Nat.ble 1 pc) (cond (Nat.ble 2 pc) ((99, 0, 0, 0, 0)) ((16, 4, 2, 13, 0))) ((1, 1, 1, 0, 0))))))
def zc_X2_renew : Nat → zE := fun pc => cond (Nat.ble 18 pc) (cond (Nat.ble 27 pc) (cond (Nat.ble 31 pc) (cond (Nat.ble 33 pc) (cond (Nat.ble 34 pc) (cond (Nat.ble 35 pc) ((99, 0, 0, 0, 0)) ((37, 35, 0, 0, 0))) ((99, 0, 0, 0, 0))) (cond (Nat.ble 32 pc) ((99, 0, 0, 0, 0)) ((19, 34, 0, 12, 0)))) (cond (Nat.ble 29 pc) ((99, 0, 0, 0, 0)) (cond (Nat.ble 28 pc) ((7, 31, 3, 0, 1)) ((24, 28, 0, 0, 0))))) (cond (Nat.ble 22 pc) (cond (Nat.ble 24 pc) (cond (Nat.ble 25 pc) (cond (Nat.ble 26 pc) ((0, 27, 0, 0, 0)) ((1, 26, 3, 0, 0))) ((99, 0, 0, 0, 0))) (cond (Nat.ble 23 pc) ((99, 0, 0, 0, 0)) ((20, 25, 2, 0, 0)))) (cond (Nat.ble 20 pc) (cond (Nat.ble 21 pc) ((2, 22, 0, 0, 0)) ((99, 0, 0, 0, 0))) (cond (Nat.ble 19 pc) ((99, 0, 0, 0, 0)) ((17, 21, 3, 34, 0)))))) (cond (Nat.ble 9 pc) (cond (Nat.ble 13 pc) (cond (Nat.ble 15 pc) (cond (Nat.ble 16 pc) (cond (Nat.ble 17 pc) ((27, 18, 0, 0, 0)) ((99, 0, 0, 0, 0))) ((99, 0, 0, 0, 0))) (cond (Nat.ble 14 pc) ((20, 17, 2, 0, 0)) ((2, 14, 0, 0, 0)))) (cond (Nat.ble 11 pc) (cond (Nat.ble 12 pc) ((1, 13, 3, 0, 0)) ((4, 12, 3, 0, 0))) (cond (Nat.ble 10 pc) ((0, 11, 0, 0, 0)) ((99, 0, 0, 0, 0))))) (cond (Nat.ble 4 pc) (cond (Nat.ble 6 pc) (cond (Nat.ble 7 pc) (cond (Nat.ble 8 pc) ((99, 0, 0, 0, 0)) ((21, 10, 2, 2, 0))) ((1, 7, 2, 0, 0))) (cond (Nat.ble 5 pc) ((2, 6, 0, 0, 0)) ((99, 0, 0, 0, 0)))) (cond (Nat.ble 2 pc) (cond (Nat.ble 3 pc) ((99, 0, 0, 0, 0)) ((21, 5, 2, 1, 0))) (cond (Nat.ble 1 pc) ((1, 2, 1, 0, 0)) ((2, 1, 0, 0, 0))))))
def zc_X3_takeFrom : Nat → zE := fun pc => cond (Nat.ble 19 pc) (cond (Nat.ble 29 pc) (cond (Nat.ble 34 pc) (cond (Nat.ble 36 pc) (cond (Nat.ble 37 pc) (cond (Nat.ble 38 pc) ((99, 0, 0, 0, 0)) ((37, 38, 0, 0, 0))) ((99, 0, 0, 0, 0))) (cond (Nat.ble 35 pc) ((99, 0, 0, 0, 0)) ((21, 37, 3, 2, 0)))) (cond (Nat.ble 31 pc) (cond (Nat.ble 32 pc) ((99, 0, 0, 0, 0)) ((20, 34, 3, 2, 0))) (cond (Nat.ble 30 pc) ((2, 31, 1, 0, 0)) ((2, 30, 0, 0, 0))))) (cond (Nat.ble 24 pc) (cond (Nat.ble 26 pc) (cond (Nat.ble 27 pc) ((99, 0, 0, 0, 0)) ((28, 29, 12, 2, 1))) ((99, 0, 0, 0, 0))) (cond (Nat.ble 21 pc) (cond (Nat.ble 22 pc) (cond (Nat.ble 23 pc) ((20, 26, 3, 1, 0)) ((2, 23, 1, 0, 0))) ((99, 0, 0, 0, 0))) (cond (Nat.ble 20 pc) ((99, 0, 0, 0, 0)) ((20, 22, 3, 1, 0)))))) (cond (Nat.ble 9 pc) (cond (Nat.ble 14 pc) (cond (Nat.ble 16 pc) (cond (Nat.ble 17 pc) (cond (Nat.ble 18 pc) ((2, 19, 0, 0, 0)) ((99, 0, 0, 0, 0))) ((99, 0, 0, 0, 0))) (cond (Nat.ble 15 pc) ((28, 18, 6, 3, 1)) ((99, 0, 0, 0, 0)))) (cond (Nat.ble 11 pc) (cond (Nat.ble 12 pc) (cond (Nat.ble 13 pc) ((99, 0, 0, 0, 0)) ((20, 15, 0, 1, 1))) ((99, 0, 0, 0, 0))) (cond (Nat.ble 10 pc) ((99, 0, 0, 0, 0)) ((20, 12, 3, 0, 0))))) (cond (Nat.ble 4 pc) (cond (Nat.ble 6 pc) (cond (Nat.ble 7 pc) (cond (Nat.ble 8 pc) ((2, 9, 1, 0, 0)) ((99, 0, 0, 0, 0))) ((99, 0, 0, 0, 0))) (cond (Nat.ble 5 pc) ((20, 8, 3, 0, 0)) ((2, 5, 1, 0, 0)))) (cond (Nat.ble 2 pc) ((99, 0, 0, 0, 0)) (cond (Nat.ble 1 pc) ((20, 4, 3, 0, 0)) ((2, 1, 0, 0, 0))))))
def zc_X4_at : Nat → zE := fun pc => cond (Nat.ble 13 pc) (cond (Nat.ble 19 pc) (cond (Nat.ble 22 pc) (cond (Nat.ble 24 pc) (cond (Nat.ble 25 pc) ((99, 0, 0, 0, 0)) ((34, 25, 0, 0, 0))) (cond (Nat.ble 23 pc) ((99, 0, 0, 0, 0)) ((0, 24, 0, 0, 32)))) (cond (Nat.ble 20 pc) ((99, 0, 0, 0, 0)) ((19, 22, 0, 24, 0)))) (cond (Nat.ble 16 pc) (cond (Nat.ble 17 pc) (cond (Nat.ble 18 pc) ((23, 19, 0, 0, 0)) ((1, 18, 1, 0, 0))) ((99, 0, 0, 0, 0))) (cond (Nat.ble 14 pc) (cond (Nat.ble 15 pc) ((99, 0, 0, 0, 0)) ((20, 17, 4, 0, 0))) ((2, 14, 0, 0, 0))))) (cond (Nat.ble 6 pc) (cond (Nat.ble 9 pc) (cond (Nat.ble 11 pc) ((99, 0, 0, 0, 0)) (cond (Nat.ble 10 pc) ((17, 13, 3, 22, 0)) ((27, 10, 0, 0, 0)))) (cond (Nat.ble 7 pc) ((99, 0, 0, 0, 0)) ((20, 9, 4, 0, 0)))) (cond (Nat.ble 3 pc) (cond (Nat.ble 4 pc) (cond (Nat.ble 5 pc) ((2, 6, 0, 0, 0)) ((1, 5, 1, 0, 0))) ((99, 0, 0, 0, 0))) (cond (Nat.ble 1 pc) (cond (Nat.ble 2 pc) ((99, 0, 0, 0, 0)) ((16, 4, 2, 22, 0))) ((1, 1, 1, 0, 0)))))
def zc_X4_add : Nat → zE := fun pc => cond (Nat.ble 20 pc) (cond (Nat.ble 30 pc) (cond (Nat.ble 35 pc) (cond (Nat.ble 38 pc) (cond (Nat.ble 39 pc) (cond (Nat.ble 40 pc) ((99, 0, 0, 0, 0)) ((37, 40, 0, 0, 0))) ((99, 0, 0, 0, 0))) (cond (Nat.ble 36 pc) (cond (Nat.ble 37 pc) ((99, 0, 0, 0, 0)) ((21, 39, 4, 1, 0))) ((8, 36, 0, 0, 0)))) (cond (Nat.ble 32 pc) (cond (Nat.ble 33 pc) (cond (Nat.ble 34 pc) ((0, 35, 0, 0, 1)) ((99, 0, 0, 0, 0))) ((99, 0, 0, 0, 0))) (cond (Nat.ble 31 pc) ((20, 34, 4, 1, 0)) ((30, 31, 0, 0, 0))))) (cond (Nat.ble 25 pc) (cond (Nat.ble 27 pc) (cond (Nat.ble 28 pc) (cond (Nat.ble 29 pc) ((2, 30, 0, 0, 0)) ((24, 29, 0, 0, 0))) ((1, 28, 1, 0, 0))) ((99, 0, 0, 0, 0))) (cond (Nat.ble 22 pc) (cond (Nat.ble 23 pc) (cond (Nat.ble 24 pc) ((20, 27, 4, 1, 0)) ((2, 24, 0, 0, 0))) ((99, 0, 0, 0, 0))) (cond (Nat.ble 21 pc) ((99, 0, 0, 0, 0)) ((20, 23, 4, 0, 0)))))) (cond (Nat.ble 10 pc) (cond (Nat.ble 15 pc) (cond (Nat.ble 17 pc) (cond (Nat.ble 18 pc) (cond (Nat.ble 19 pc) ((2, 20, 0, 0, 0)) ((99, 0, 0, 0, 0))) ((99, 0, 0, 0, 0))) (cond (Nat.ble 16 pc) ((17, 19, 3, 39, 0)) ((27, 16, 0, 0, 0)))) (cond (Nat.ble 12 pc) (cond (Nat.ble 13 pc) ((99, 0, 0, 0, 0)) ((20, 15, 4, 0, 0))) (cond (Nat.ble 11 pc) ((2, 12, 0, 0, 0)) ((99, 0, 0, 0, 0))))) (cond (Nat.ble 5 pc) (cond (Nat.ble 7 pc) (cond (Nat.ble 8 pc) (cond (Nat.ble 9 pc) ((99, 0, 0, 0, 0)) ((20, 11, 4, 1, 0))) ((2, 8, 0, 0, 0))) ((99, 0, 0, 0, 0))) (cond (Nat.ble 2 pc) (cond (Nat.ble 3 pc) (cond (Nat.ble 4 pc) ((16, 7, 2, 39, 0)) ((99, 0, 0, 0, 0))) ((99, 0, 0, 0, 0))) (cond (Nat.ble 1 pc) ((20, 4, 4, 1, 0)) ((2, 1, 0, 0, 0))))))
def zc_X5_colours : Nat → zE := fun pc => cond (Nat.ble 38 pc) (cond (Nat.ble 57 pc) (cond (Nat.ble 67 pc) (cond (Nat.ble 72 pc) (cond (Nat.ble 74 pc) (cond (Nat.ble 75 pc) (cond (Nat.ble 76 pc) ((99, 0, 0, 0, 0)) ((34, 76, 0, 0, 0))) ((1, 75, 2, 0, 0))) ((99, 0, 0, 0, 0))) (cond (Nat.ble 69 pc) (cond (Nat.ble 70 pc) (cond (Nat.ble 71 pc) ((21, 74, 1, 0, 1)) ((1, 71, 1, 0, 0))) ((99, 0, 0, 0, 0))) (cond (Nat.ble 68 pc) ((99, 0, 0, 0, 0)) ((20, 70, 3, 1, 1))))) (cond (Nat.ble 62 pc) (cond (Nat.ble 64 pc) (cond (Nat.ble 65 pc) ((99, 0, 0, 0, 0)) ((20, 67, 5, 0, 0))) (cond (Nat.ble 63 pc) ((2, 64, 0, 0, 0)) ((4, 63, 2, 0, 0)))) (cond (Nat.ble 59 pc) (cond (Nat.ble 60 pc) ((99, 0, 0, 0, 0)) ((20, 62, 1, 0, 1))) ((99, 0, 0, 0, 0))))) (cond (Nat.ble 47 pc) (cond (Nat.ble 52 pc) (cond (Nat.ble 54 pc) (cond (Nat.ble 55 pc) (cond (Nat.ble 56 pc) ((20, 59, 3, 1, 1)) ((99, 0, 0, 0, 0))) ((99, 0, 0, 0, 0))) (cond (Nat.ble 53 pc) ((20, 56, 5, 0, 0)) ((2, 53, 0, 0, 0)))) (cond (Nat.ble 49 pc) (cond (Nat.ble 50 pc) ((99, 0, 0, 0, 0)) ((19, 52, 0, 14, 0))) ((99, 0, 0, 0, 0)))) (cond (Nat.ble 42 pc) (cond (Nat.ble 44 pc) (cond (Nat.ble 45 pc) (cond (Nat.ble 46 pc) ((7, 49, 2, 0, 1)) ((34, 46, 0, 0, 0))) ((99, 0, 0, 0, 0))) (cond (Nat.ble 43 pc) ((0, 45, 0, 0, (-2))) ((99, 0, 0, 0, 0)))) (cond (Nat.ble 40 pc) (cond (Nat.ble 41 pc) ((99, 0, 0, 0, 0)) ((17, 43, 2, 46, 0))) (cond (Nat.ble 39 pc) ((1, 40, 1, 0, 0)) ((99, 0, 0, 0, 0))))))) (cond (Nat.ble 19 pc) (cond (Nat.ble 28 pc) (cond (Nat.ble 33 pc) (cond (Nat.ble 35 pc) (cond (Nat.ble 36 pc) (cond (Nat.ble 37 pc) ((99, 0, 0, 0, 0)) ((28, 39, 1, 2, 1))) ((1, 36, 2, 0, 0))) ((99, 0, 0, 0, 0))) (cond (Nat.ble 30 pc) (cond (Nat.ble 31 pc) (cond (Nat.ble 32 pc) ((20, 35, 3, 0, 1)) ((99, 0, 0, 0, 0))) ((99, 0, 0, 0, 0))) (cond (Nat.ble 29 pc) ((20, 32, 5, 0, 0)) ((2, 29, 0, 0, 0))))) (cond (Nat.ble 23 pc) (cond (Nat.ble 25 pc) (cond (Nat.ble 26 pc) ((99, 0, 0, 0, 0)) ((17, 28, 3, 52, 0))) ((99, 0, 0, 0, 0))) (cond (Nat.ble 21 pc) (cond (Nat.ble 22 pc) ((20, 25, 0, 1, 1)) ((99, 0, 0, 0, 0))) (cond (Nat.ble 20 pc) ((99, 0, 0, 0, 0)) ((20, 22, 3, 0, 1)))))) (cond (Nat.ble 9 pc) (cond (Nat.ble 14 pc) (cond (Nat.ble 16 pc) (cond (Nat.ble 17 pc) ((99, 0, 0, 0, 0)) ((20, 19, 5, 0, 0))) (cond (Nat.ble 15 pc) ((2, 16, 0, 0, 0)) ((1, 15, 2, 0, 0)))) (cond (Nat.ble 11 pc) (cond (Nat.ble 12 pc) (cond (Nat.ble 13 pc) ((4, 14, 2, 0, 0)) ((0, 13, 0, 0, 0))) ((34, 12, 0, 0, 0))) (cond (Nat.ble 10 pc) ((0, 11, 0, 0, (-1))) ((99, 0, 0, 0, 0))))) (cond (Nat.ble 4 pc) (cond (Nat.ble 6 pc) (cond (Nat.ble 7 pc) (cond (Nat.ble 8 pc) ((99, 0, 0, 0, 0)) ((17, 10, 5, 12, 0))) ((0, 7, 0, 0, 4))) (cond (Nat.ble 5 pc) ((1, 6, 1, 0, 0)) ((99, 0, 0, 0, 0)))) (cond (Nat.ble 2 pc) (cond (Nat.ble 3 pc) ((99, 0, 0, 0, 0)) ((17, 5, 2, 10, 0))) (cond (Nat.ble 1 pc) ((0, 2, 0, 0, 2)) ((1, 1, 1, 0, 0)))))))
def zc_X5_price : Nat → zE := fun pc => cond (Nat.ble 24 pc) (cond (Nat.ble 36 pc) (cond (Nat.ble 42 pc) (cond (Nat.ble 45 pc) (cond (Nat.ble 46 pc) (cond (Nat.ble 47 pc) ((99, 0, 0, 0, 0)) ((34, 47, 0, 0, 0))) ((1, 46, 3, 0, 0))) (cond (Nat.ble 43 pc) ((99, 0, 0, 0, 0)) ((28, 45, 10, 3, 1)))) (cond (Nat.ble 39 pc) (cond (Nat.ble 40 pc) (cond (Nat.ble 41 pc) ((1, 42, 2, 0, 0)) ((1, 41, 1, 0, 0))) ((99, 0, 0, 0, 0))) (cond (Nat.ble 37 pc) (cond (Nat.ble 38 pc) ((99, 0, 0, 0, 0)) ((20, 40, 3, 1, 1))) ((99, 0, 0, 0, 0))))) (cond (Nat.ble 30 pc) (cond (Nat.ble 33 pc) (cond (Nat.ble 34 pc) (cond (Nat.ble 35 pc) ((99, 0, 0, 0, 0)) ((20, 37, 5, 0, 0))) ((2, 34, 0, 0, 0))) (cond (Nat.ble 31 pc) (cond (Nat.ble 32 pc) ((4, 33, 3, 0, 0)) ((99, 0, 0, 0, 0))) ((99, 0, 0, 0, 0)))) (cond (Nat.ble 27 pc) (cond (Nat.ble 28 pc) (cond (Nat.ble 29 pc) ((28, 32, 9, 2, 1)) ((1, 29, 1, 0, 0))) ((99, 0, 0, 0, 0))) (cond (Nat.ble 25 pc) (cond (Nat.ble 26 pc) ((99, 0, 0, 0, 0)) ((20, 28, 3, 1, 1))) ((99, 0, 0, 0, 0)))))) (cond (Nat.ble 12 pc) (cond (Nat.ble 18 pc) (cond (Nat.ble 21 pc) (cond (Nat.ble 22 pc) (cond (Nat.ble 23 pc) ((99, 0, 0, 0, 0)) ((20, 25, 5, 0, 0))) ((2, 22, 0, 0, 0))) (cond (Nat.ble 19 pc) (cond (Nat.ble 20 pc) ((34, 21, 0, 0, 0)) ((0, 20, 0, 0, (-1)))) ((99, 0, 0, 0, 0)))) (cond (Nat.ble 15 pc) (cond (Nat.ble 16 pc) (cond (Nat.ble 17 pc) ((99, 0, 0, 0, 0)) ((17, 19, 5, 21, 0))) ((99, 0, 0, 0, 0))) (cond (Nat.ble 13 pc) (cond (Nat.ble 14 pc) ((0, 16, 0, 0, 99)) ((1, 14, 2, 0, 0))) ((99, 0, 0, 0, 0))))) (cond (Nat.ble 6 pc) (cond (Nat.ble 9 pc) (cond (Nat.ble 10 pc) (cond (Nat.ble 11 pc) ((99, 0, 0, 0, 0)) ((16, 13, 2, 19, 0))) ((1, 10, 2, 0, 0))) (cond (Nat.ble 7 pc) ((99, 0, 0, 0, 0)) ((17, 9, 3, 19, 0)))) (cond (Nat.ble 3 pc) (cond (Nat.ble 4 pc) (cond (Nat.ble 5 pc) ((0, 6, 0, 0, 4)) ((1, 5, 1, 0, 0))) ((99, 0, 0, 0, 0))) (cond (Nat.ble 1 pc) (cond (Nat.ble 2 pc) ((99, 0, 0, 0, 0)) ((16, 4, 2, 19, 0))) ((1, 1, 1, 0, 0))))))
def zc_X5_rule : Nat → zE := fun pc => cond (Nat.ble 40 pc) (cond (Nat.ble 60 pc) (cond (Nat.ble 70 pc) (cond (Nat.ble 75 pc) (cond (Nat.ble 77 pc) (cond (Nat.ble 78 pc) (cond (Nat.ble 79 pc) ((99, 0, 0, 0, 0)) ((34, 79, 0, 0, 0))) ((0, 78, 0, 0, (-1)))) (cond (Nat.ble 76 pc) ((34, 77, 0, 0, 0)) ((1, 76, 3, 0, 0)))) (cond (Nat.ble 72 pc) (cond (Nat.ble 73 pc) ((99, 0, 0, 0, 0)) ((21, 75, 1, 2, 1))) (cond (Nat.ble 71 pc) ((1, 72, 2, 0, 0)) ((99, 0, 0, 0, 0))))) (cond (Nat.ble 65 pc) (cond (Nat.ble 67 pc) (cond (Nat.ble 68 pc) (cond (Nat.ble 69 pc) ((99, 0, 0, 0, 0)) ((20, 71, 3, 1, 1))) ((99, 0, 0, 0, 0))) (cond (Nat.ble 66 pc) ((99, 0, 0, 0, 0)) ((20, 68, 5, 0, 0)))) (cond (Nat.ble 62 pc) (cond (Nat.ble 63 pc) (cond (Nat.ble 64 pc) ((2, 65, 0, 0, 0)) ((4, 64, 3, 0, 0))) ((99, 0, 0, 0, 0))) (cond (Nat.ble 61 pc) ((99, 0, 0, 0, 0)) ((20, 63, 1, 2, 1)))))) (cond (Nat.ble 50 pc) (cond (Nat.ble 55 pc) (cond (Nat.ble 57 pc) (cond (Nat.ble 58 pc) ((99, 0, 0, 0, 0)) ((20, 60, 3, 1, 1))) ((99, 0, 0, 0, 0))) (cond (Nat.ble 52 pc) (cond (Nat.ble 53 pc) (cond (Nat.ble 54 pc) ((20, 57, 5, 0, 0)) ((2, 54, 0, 0, 0))) ((99, 0, 0, 0, 0))) (cond (Nat.ble 51 pc) ((99, 0, 0, 0, 0)) ((17, 53, 4, 77, 0))))) (cond (Nat.ble 45 pc) (cond (Nat.ble 47 pc) (cond (Nat.ble 48 pc) (cond (Nat.ble 49 pc) ((99, 0, 0, 0, 0)) ((0, 50, 0, 0, 9))) ((1, 48, 2, 0, 0))) ((99, 0, 0, 0, 0))) (cond (Nat.ble 42 pc) (cond (Nat.ble 43 pc) (cond (Nat.ble 44 pc) ((17, 47, 2, 77, 0)) ((0, 44, 0, 0, 1))) ((1, 43, 2, 0, 0))) ((99, 0, 0, 0, 0)))))) (cond (Nat.ble 20 pc) (cond (Nat.ble 30 pc) (cond (Nat.ble 35 pc) (cond (Nat.ble 37 pc) (cond (Nat.ble 38 pc) (cond (Nat.ble 39 pc) ((17, 42, 1, 77, 0)) ((0, 39, 0, 0, 1))) ((1, 38, 1, 0, 0))) (cond (Nat.ble 36 pc) ((34, 37, 0, 0, 0)) ((1, 36, 3, 0, 0)))) (cond (Nat.ble 32 pc) (cond (Nat.ble 33 pc) ((99, 0, 0, 0, 0)) ((21, 35, 1, 1, 1))) (cond (Nat.ble 31 pc) ((1, 32, 2, 0, 0)) ((99, 0, 0, 0, 0))))) (cond (Nat.ble 25 pc) (cond (Nat.ble 27 pc) (cond (Nat.ble 28 pc) (cond (Nat.ble 29 pc) ((99, 0, 0, 0, 0)) ((20, 31, 3, 1, 1))) ((99, 0, 0, 0, 0))) (cond (Nat.ble 26 pc) ((99, 0, 0, 0, 0)) ((20, 28, 5, 0, 0)))) (cond (Nat.ble 22 pc) (cond (Nat.ble 23 pc) (cond (Nat.ble 24 pc) ((2, 25, 0, 0, 0)) ((4, 24, 3, 0, 0))) ((99, 0, 0, 0, 0))) (cond (Nat.ble 21 pc) ((99, 0, 0, 0, 0)) ((20, 23, 1, 1, 1)))))) (cond (Nat.ble 10 pc) (cond (Nat.ble 15 pc) (cond (Nat.ble 17 pc) (cond (Nat.ble 18 pc) ((99, 0, 0, 0, 0)) ((20, 20, 3, 1, 1))) ((99, 0, 0, 0, 0))) (cond (Nat.ble 12 pc) (cond (Nat.ble 13 pc) (cond (Nat.ble 14 pc) ((20, 17, 5, 0, 0)) ((2, 14, 0, 0, 0))) ((99, 0, 0, 0, 0))) (cond (Nat.ble 11 pc) ((99, 0, 0, 0, 0)) ((17, 13, 4, 37, 0))))) (cond (Nat.ble 5 pc) (cond (Nat.ble 7 pc) (cond (Nat.ble 8 pc) (cond (Nat.ble 9 pc) ((0, 10, 0, 0, 3)) ((1, 9, 2, 0, 0))) ((99, 0, 0, 0, 0))) (cond (Nat.ble 6 pc) ((99, 0, 0, 0, 0)) ((16, 8, 2, 37, 0)))) (cond (Nat.ble 2 pc) (cond (Nat.ble 3 pc) (cond (Nat.ble 4 pc) ((1, 5, 2, 0, 0)) ((99, 0, 0, 0, 0))) ((99, 0, 0, 0, 0))) (cond (Nat.ble 1 pc) ((16, 4, 1, 37, 0)) ((1, 1, 1, 0, 0)))))))
def zc_X5_paint : Nat → zE := fun pc => cond (Nat.ble 40 pc) (cond (Nat.ble 60 pc) (cond (Nat.ble 70 pc) (cond (Nat.ble 75 pc) (cond (Nat.ble 78 pc) (cond (Nat.ble 79 pc) (cond (Nat.ble 80 pc) ((99, 0, 0, 0, 0)) ((34, 80, 0, 0, 0))) ((99, 0, 0, 0, 0))) (cond (Nat.ble 76 pc) (cond (Nat.ble 77 pc) ((99, 0, 0, 0, 0)) ((20, 79, 0, 1, 1))) ((99, 0, 0, 0, 0)))) (cond (Nat.ble 72 pc) (cond (Nat.ble 73 pc) (cond (Nat.ble 74 pc) ((99, 0, 0, 0, 0)) ((20, 76, 3, 0, 1))) ((99, 0, 0, 0, 0))) (cond (Nat.ble 71 pc) ((99, 0, 0, 0, 0)) ((20, 73, 5, 0, 0))))) (cond (Nat.ble 65 pc) (cond (Nat.ble 67 pc) (cond (Nat.ble 68 pc) (cond (Nat.ble 69 pc) ((2, 70, 0, 0, 0)) ((99, 0, 0, 0, 0))) ((99, 0, 0, 0, 0))) (cond (Nat.ble 66 pc) ((28, 69, 3, 2, 1)) ((1, 66, 1, 0, 0)))) (cond (Nat.ble 62 pc) (cond (Nat.ble 63 pc) ((99, 0, 0, 0, 0)) ((20, 65, 3, 0, 1))) ((99, 0, 0, 0, 0))))) (cond (Nat.ble 50 pc) (cond (Nat.ble 55 pc) (cond (Nat.ble 57 pc) (cond (Nat.ble 58 pc) (cond (Nat.ble 59 pc) ((20, 62, 5, 0, 0)) ((2, 59, 0, 0, 0))) ((34, 58, 0, 0, 0))) (cond (Nat.ble 56 pc) ((99, 0, 0, 0, 0)) ((0, 57, 0, 0, (-3))))) (cond (Nat.ble 52 pc) (cond (Nat.ble 53 pc) ((99, 0, 0, 0, 0)) ((17, 55, 2, 58, 0))) (cond (Nat.ble 51 pc) ((99, 0, 0, 0, 0)) ((0, 52, 0, 0, 48))))) (cond (Nat.ble 45 pc) (cond (Nat.ble 47 pc) (cond (Nat.ble 48 pc) ((99, 0, 0, 0, 0)) ((20, 50, 0, 1, 1))) ((99, 0, 0, 0, 0))) (cond (Nat.ble 42 pc) (cond (Nat.ble 43 pc) (cond (Nat.ble 44 pc) ((20, 47, 3, 0, 1)) ((99, 0, 0, 0, 0))) ((99, 0, 0, 0, 0))) (cond (Nat.ble 41 pc) ((20, 44, 5, 0, 0)) ((2, 41, 0, 0, 0))))))) (cond (Nat.ble 20 pc) (cond (Nat.ble 30 pc) (cond (Nat.ble 35 pc) (cond (Nat.ble 37 pc) (cond (Nat.ble 38 pc) (cond (Nat.ble 39 pc) ((34, 40, 0, 0, 0)) ((99, 0, 0, 0, 0))) ((0, 39, 0, 0, (-2)))) ((99, 0, 0, 0, 0))) (cond (Nat.ble 32 pc) (cond (Nat.ble 33 pc) (cond (Nat.ble 34 pc) ((16, 37, 1, 40, 0)) ((8, 34, 3, 0, 0))) ((0, 33, 0, 0, 1))) (cond (Nat.ble 31 pc) ((8, 32, 6, 0, 0)) ((1, 31, 1, 0, 0))))) (cond (Nat.ble 25 pc) (cond (Nat.ble 27 pc) (cond (Nat.ble 28 pc) ((99, 0, 0, 0, 0)) ((28, 30, 40, 2, 0))) ((99, 0, 0, 0, 0))) (cond (Nat.ble 22 pc) (cond (Nat.ble 23 pc) (cond (Nat.ble 24 pc) ((20, 27, 0, 1, 1)) ((99, 0, 0, 0, 0))) ((99, 0, 0, 0, 0))) (cond (Nat.ble 21 pc) ((20, 24, 3, 0, 1)) ((99, 0, 0, 0, 0)))))) (cond (Nat.ble 10 pc) (cond (Nat.ble 15 pc) (cond (Nat.ble 17 pc) (cond (Nat.ble 18 pc) (cond (Nat.ble 19 pc) ((99, 0, 0, 0, 0)) ((20, 21, 5, 0, 0))) ((2, 18, 0, 0, 0))) (cond (Nat.ble 16 pc) ((2, 17, 0, 0, 0)) ((34, 16, 0, 0, 0)))) (cond (Nat.ble 12 pc) (cond (Nat.ble 13 pc) (cond (Nat.ble 14 pc) ((0, 15, 0, 0, (-1))) ((99, 0, 0, 0, 0))) ((99, 0, 0, 0, 0))) (cond (Nat.ble 11 pc) ((16, 14, 1, 16, 0)) ((99, 0, 0, 0, 0))))) (cond (Nat.ble 5 pc) (cond (Nat.ble 7 pc) (cond (Nat.ble 8 pc) (cond (Nat.ble 9 pc) ((99, 0, 0, 0, 0)) ((28, 11, 8, 2, 1))) ((1, 8, 1, 0, 0))) ((99, 0, 0, 0, 0))) (cond (Nat.ble 2 pc) (cond (Nat.ble 3 pc) (cond (Nat.ble 4 pc) ((20, 7, 3, 1, 1)) ((99, 0, 0, 0, 0))) ((99, 0, 0, 0, 0))) (cond (Nat.ble 1 pc) ((20, 4, 5, 0, 0)) ((2, 1, 0, 0, 0)))))))
def zc_X5_scrape : Nat → zE := fun pc => cond (Nat.ble 26 pc) (cond (Nat.ble 39 pc) (cond (Nat.ble 46 pc) (cond (Nat.ble 49 pc) (cond (Nat.ble 51 pc) (cond (Nat.ble 52 pc) ((99, 0, 0, 0, 0)) ((34, 52, 0, 0, 0))) ((99, 0, 0, 0, 0))) (cond (Nat.ble 47 pc) (cond (Nat.ble 48 pc) ((20, 51, 0, 1, 1)) ((99, 0, 0, 0, 0))) ((99, 0, 0, 0, 0)))) (cond (Nat.ble 42 pc) (cond (Nat.ble 44 pc) (cond (Nat.ble 45 pc) ((20, 48, 3, 0, 1)) ((99, 0, 0, 0, 0))) (cond (Nat.ble 43 pc) ((99, 0, 0, 0, 0)) ((20, 45, 5, 0, 0)))) (cond (Nat.ble 40 pc) (cond (Nat.ble 41 pc) ((2, 42, 0, 0, 0)) ((99, 0, 0, 0, 0))) ((99, 0, 0, 0, 0))))) (cond (Nat.ble 32 pc) (cond (Nat.ble 35 pc) (cond (Nat.ble 37 pc) (cond (Nat.ble 38 pc) ((28, 41, 4, 2, 1)) ((1, 38, 1, 0, 0))) ((99, 0, 0, 0, 0))) (cond (Nat.ble 33 pc) (cond (Nat.ble 34 pc) ((20, 37, 3, 0, 1)) ((99, 0, 0, 0, 0))) ((99, 0, 0, 0, 0)))) (cond (Nat.ble 29 pc) (cond (Nat.ble 30 pc) (cond (Nat.ble 31 pc) ((20, 34, 5, 0, 0)) ((2, 31, 0, 0, 0))) ((34, 30, 0, 0, 0))) (cond (Nat.ble 27 pc) (cond (Nat.ble 28 pc) ((99, 0, 0, 0, 0)) ((0, 29, 0, 0, (-2)))) ((99, 0, 0, 0, 0)))))) (cond (Nat.ble 13 pc) (cond (Nat.ble 19 pc) (cond (Nat.ble 22 pc) (cond (Nat.ble 24 pc) (cond (Nat.ble 25 pc) ((99, 0, 0, 0, 0)) ((17, 27, 5, 30, 0))) ((99, 0, 0, 0, 0))) (cond (Nat.ble 20 pc) (cond (Nat.ble 21 pc) ((20, 24, 0, 1, 1)) ((99, 0, 0, 0, 0))) ((99, 0, 0, 0, 0)))) (cond (Nat.ble 16 pc) (cond (Nat.ble 17 pc) (cond (Nat.ble 18 pc) ((20, 21, 3, 0, 1)) ((99, 0, 0, 0, 0))) ((99, 0, 0, 0, 0))) (cond (Nat.ble 14 pc) (cond (Nat.ble 15 pc) ((20, 18, 5, 0, 0)) ((2, 15, 0, 0, 0))) ((1, 14, 1, 0, 0))))) (cond (Nat.ble 6 pc) (cond (Nat.ble 9 pc) (cond (Nat.ble 11 pc) (cond (Nat.ble 12 pc) ((34, 13, 0, 0, 0)) ((0, 12, 0, 0, (-1)))) ((99, 0, 0, 0, 0))) (cond (Nat.ble 7 pc) (cond (Nat.ble 8 pc) ((17, 11, 5, 13, 0)) ((99, 0, 0, 0, 0))) ((0, 8, 0, 0, 48)))) (cond (Nat.ble 3 pc) (cond (Nat.ble 4 pc) (cond (Nat.ble 5 pc) ((1, 6, 1, 0, 0)) ((99, 0, 0, 0, 0))) ((99, 0, 0, 0, 0))) (cond (Nat.ble 1 pc) (cond (Nat.ble 2 pc) ((17, 5, 2, 11, 0)) ((0, 2, 0, 0, 1))) ((1, 1, 1, 0, 0))))))
def zc_X5_pale : Nat → zE := fun pc => cond (Nat.ble 15 pc) (cond (Nat.ble 23 pc) (cond (Nat.ble 27 pc) (cond (Nat.ble 29 pc) (cond (Nat.ble 30 pc) ((99, 0, 0, 0, 0)) ((34, 30, 0, 0, 0))) (cond (Nat.ble 28 pc) ((0, 29, 0, 0, (-1))) ((99, 0, 0, 0, 0)))) (cond (Nat.ble 25 pc) (cond (Nat.ble 26 pc) ((99, 0, 0, 0, 0)) ((19, 28, 0, 29, 0))) ((99, 0, 0, 0, 0)))) (cond (Nat.ble 19 pc) (cond (Nat.ble 21 pc) (cond (Nat.ble 22 pc) ((28, 25, 1, 2, 1)) ((1, 22, 1, 0, 0))) ((99, 0, 0, 0, 0))) (cond (Nat.ble 17 pc) (cond (Nat.ble 18 pc) ((20, 21, 3, 0, 1)) ((99, 0, 0, 0, 0))) (cond (Nat.ble 16 pc) ((99, 0, 0, 0, 0)) ((20, 18, 5, 0, 0)))))) (cond (Nat.ble 7 pc) (cond (Nat.ble 11 pc) (cond (Nat.ble 13 pc) (cond (Nat.ble 14 pc) ((2, 15, 0, 0, 0)) ((99, 0, 0, 0, 0))) (cond (Nat.ble 12 pc) ((99, 0, 0, 0, 0)) ((16, 14, 0, 28, 0)))) (cond (Nat.ble 9 pc) ((99, 0, 0, 0, 0)) (cond (Nat.ble 8 pc) ((28, 11, 0, 2, 1)) ((1, 8, 1, 0, 0))))) (cond (Nat.ble 3 pc) (cond (Nat.ble 5 pc) ((99, 0, 0, 0, 0)) (cond (Nat.ble 4 pc) ((20, 7, 3, 0, 1)) ((99, 0, 0, 0, 0)))) (cond (Nat.ble 1 pc) (cond (Nat.ble 2 pc) ((99, 0, 0, 0, 0)) ((20, 4, 5, 0, 0))) ((2, 1, 0, 0, 0)))))
def zc_X5_type : Nat → zE := fun pc => cond (Nat.ble 53 pc) (cond (Nat.ble 80 pc) (cond (Nat.ble 93 pc) (cond (Nat.ble 100 pc) (cond (Nat.ble 103 pc) (cond (Nat.ble 105 pc) (cond (Nat.ble 106 pc) ((99, 0, 0, 0, 0)) ((34, 106, 0, 0, 0))) ((99, 0, 0, 0, 0))) (cond (Nat.ble 101 pc) (cond (Nat.ble 102 pc) ((20, 105, 4, 1, 1)) ((99, 0, 0, 0, 0))) ((99, 0, 0, 0, 0)))) (cond (Nat.ble 96 pc) (cond (Nat.ble 98 pc) (cond (Nat.ble 99 pc) ((20, 102, 5, 3, 0)) ((2, 99, 0, 0, 0))) ((99, 0, 0, 0, 0))) (cond (Nat.ble 94 pc) (cond (Nat.ble 95 pc) ((19, 98, 0, 74, 0)) ((99, 0, 0, 0, 0))) ((99, 0, 0, 0, 0))))) (cond (Nat.ble 86 pc) (cond (Nat.ble 89 pc) (cond (Nat.ble 91 pc) (cond (Nat.ble 92 pc) ((7, 95, 4, 0, (-1))) ((99, 0, 0, 0, 0))) (cond (Nat.ble 90 pc) ((99, 0, 0, 0, 0)) ((28, 92, 26, 2, 1)))) (cond (Nat.ble 87 pc) ((99, 0, 0, 0, 0)) ((28, 89, 34, 2, 0)))) (cond (Nat.ble 83 pc) (cond (Nat.ble 84 pc) (cond (Nat.ble 85 pc) ((99, 0, 0, 0, 0)) ((1, 86, 4, 0, 0))) ((3, 84, 1, 0, 0))) (cond (Nat.ble 81 pc) ((99, 0, 0, 0, 0)) ((20, 83, 5, 3, 0)))))) (cond (Nat.ble 66 pc) (cond (Nat.ble 73 pc) (cond (Nat.ble 76 pc) (cond (Nat.ble 78 pc) (cond (Nat.ble 79 pc) ((2, 80, 0, 0, 0)) ((99, 0, 0, 0, 0))) (cond (Nat.ble 77 pc) ((99, 0, 0, 0, 0)) ((16, 79, 2, 98, 0)))) (cond (Nat.ble 74 pc) (cond (Nat.ble 75 pc) ((99, 0, 0, 0, 0)) ((1, 76, 4, 0, 0))) ((99, 0, 0, 0, 0)))) (cond (Nat.ble 69 pc) (cond (Nat.ble 71 pc) (cond (Nat.ble 72 pc) ((4, 74, 4, 0, 0)) ((8, 72, 1, 0, 0))) (cond (Nat.ble 70 pc) ((0, 71, 0, 0, 1)) ((1, 70, 3, 0, 0)))) (cond (Nat.ble 67 pc) (cond (Nat.ble 68 pc) ((34, 69, 0, 0, 0)) ((99, 0, 0, 0, 0))) ((0, 68, 0, 0, (-3)))))) (cond (Nat.ble 59 pc) (cond (Nat.ble 62 pc) (cond (Nat.ble 64 pc) ((99, 0, 0, 0, 0)) (cond (Nat.ble 63 pc) ((17, 66, 5, 69, 0)) ((8, 63, 1, 0, 0)))) (cond (Nat.ble 60 pc) (cond (Nat.ble 61 pc) ((1, 62, 3, 0, 0)) ((99, 0, 0, 0, 0))) ((0, 61, 0, 0, 100)))) (cond (Nat.ble 56 pc) (cond (Nat.ble 57 pc) ((99, 0, 0, 0, 0)) ((20, 59, 4, 1, 1))) (cond (Nat.ble 54 pc) ((99, 0, 0, 0, 0)) ((20, 56, 5, 3, 0))))))) (cond (Nat.ble 26 pc) (cond (Nat.ble 39 pc) (cond (Nat.ble 46 pc) (cond (Nat.ble 49 pc) (cond (Nat.ble 51 pc) (cond (Nat.ble 52 pc) ((2, 53, 0, 0, 0)) ((99, 0, 0, 0, 0))) (cond (Nat.ble 50 pc) ((99, 0, 0, 0, 0)) ((19, 52, 0, 16, 0)))) (cond (Nat.ble 47 pc) ((99, 0, 0, 0, 0)) ((7, 49, 4, 0, 1)))) (cond (Nat.ble 42 pc) (cond (Nat.ble 44 pc) (cond (Nat.ble 45 pc) ((34, 46, 0, 0, 0)) ((0, 45, 0, 0, (-1)))) ((99, 0, 0, 0, 0))) (cond (Nat.ble 40 pc) (cond (Nat.ble 41 pc) ((17, 44, 5, 46, 0)) ((99, 0, 0, 0, 0))) ((0, 41, 0, 0, 126))))) (cond (Nat.ble 32 pc) (cond (Nat.ble 35 pc) (cond (Nat.ble 37 pc) (cond (Nat.ble 38 pc) ((99, 0, 0, 0, 0)) ((1, 39, 5, 0, 0))) ((99, 0, 0, 0, 0))) (cond (Nat.ble 33 pc) (cond (Nat.ble 34 pc) ((17, 37, 2, 44, 0)) ((99, 0, 0, 0, 0))) ((0, 34, 0, 0, 32)))) (cond (Nat.ble 29 pc) (cond (Nat.ble 30 pc) (cond (Nat.ble 31 pc) ((99, 0, 0, 0, 0)) ((1, 32, 5, 0, 0))) ((99, 0, 0, 0, 0))) (cond (Nat.ble 27 pc) (cond (Nat.ble 28 pc) ((4, 30, 5, 0, 0)) ((99, 0, 0, 0, 0))) ((99, 0, 0, 0, 0)))))) (cond (Nat.ble 13 pc) (cond (Nat.ble 19 pc) (cond (Nat.ble 22 pc) (cond (Nat.ble 24 pc) (cond (Nat.ble 25 pc) ((28, 28, 34, 2, 0)) ((99, 0, 0, 0, 0))) (cond (Nat.ble 23 pc) ((1, 25, 4, 0, 0)) ((3, 23, 1, 0, 0)))) (cond (Nat.ble 20 pc) ((99, 0, 0, 0, 0)) ((17, 22, 3, 52, 0)))) (cond (Nat.ble 16 pc) (cond (Nat.ble 17 pc) (cond (Nat.ble 18 pc) ((1, 19, 3, 0, 0)) ((99, 0, 0, 0, 0))) ((1, 18, 4, 0, 0))) (cond (Nat.ble 14 pc) (cond (Nat.ble 15 pc) ((99, 0, 0, 0, 0)) ((4, 16, 4, 0, 0))) ((0, 14, 0, 0, 0))))) (cond (Nat.ble 6 pc) (cond (Nat.ble 9 pc) (cond (Nat.ble 11 pc) (cond (Nat.ble 12 pc) ((34, 13, 0, 0, 0)) ((0, 12, 0, 0, (-1)))) ((99, 0, 0, 0, 0))) (cond (Nat.ble 7 pc) (cond (Nat.ble 8 pc) ((17, 11, 5, 13, 0)) ((99, 0, 0, 0, 0))) ((0, 8, 0, 0, 8)))) (cond (Nat.ble 3 pc) (cond (Nat.ble 4 pc) (cond (Nat.ble 5 pc) ((1, 6, 3, 0, 0)) ((99, 0, 0, 0, 0))) ((99, 0, 0, 0, 0))) (cond (Nat.ble 1 pc) (cond (Nat.ble 2 pc) ((17, 5, 2, 11, 0)) ((0, 2, 0, 0, 1))) ((1, 1, 3, 0, 0)))))))
def zc_X5_byteOf : Nat → zE := fun pc => cond (Nat.ble 6 pc) (cond (Nat.ble 9 pc) (cond (Nat.ble 11 pc) (cond (Nat.ble 12 pc) ((99, 0, 0, 0, 0)) ((34, 12, 0, 0, 0))) (cond (Nat.ble 10 pc) ((8, 11, 3, 0, 0)) ((99, 0, 0, 0, 0)))) (cond (Nat.ble 7 pc) (cond (Nat.ble 8 pc) ((99, 0, 0, 0, 0)) ((0, 10, 0, 0, 255))) ((13, 7, 1, 0, 0)))) (cond (Nat.ble 3 pc) (cond (Nat.ble 4 pc) (cond (Nat.ble 5 pc) ((12, 6, 1, 0, 0)) ((8, 5, 2, 0, 0))) ((1, 4, 2, 0, 0))) (cond (Nat.ble 1 pc) (cond (Nat.ble 2 pc) ((99, 0, 0, 0, 0)) ((0, 3, 0, 0, 8))) ((3, 1, 0, 0, 0))))
def zc_X5_fence : Nat → zE := fun pc => cond (Nat.ble 20 pc) (cond (Nat.ble 30 pc) (cond (Nat.ble 35 pc) (cond (Nat.ble 38 pc) (cond (Nat.ble 39 pc) (cond (Nat.ble 40 pc) ((99, 0, 0, 0, 0)) ((34, 40, 0, 0, 0))) ((1, 39, 1, 0, 0))) (cond (Nat.ble 36 pc) ((99, 0, 0, 0, 0)) ((28, 38, 6, 3, 1)))) (cond (Nat.ble 32 pc) (cond (Nat.ble 33 pc) ((99, 0, 0, 0, 0)) ((20, 35, 0, 1, 1))) ((99, 0, 0, 0, 0)))) (cond (Nat.ble 25 pc) (cond (Nat.ble 27 pc) (cond (Nat.ble 28 pc) (cond (Nat.ble 29 pc) ((20, 32, 5, 5, 0)) ((2, 29, 0, 0, 0))) ((99, 0, 0, 0, 0))) (cond (Nat.ble 26 pc) ((99, 0, 0, 0, 0)) ((20, 28, 5, 5, 0)))) (cond (Nat.ble 22 pc) (cond (Nat.ble 23 pc) (cond (Nat.ble 24 pc) ((2, 25, 0, 0, 0)) ((99, 0, 0, 0, 0))) ((99, 0, 0, 0, 0))) (cond (Nat.ble 21 pc) ((20, 24, 3, 0, 1)) ((99, 0, 0, 0, 0)))))) (cond (Nat.ble 10 pc) (cond (Nat.ble 15 pc) (cond (Nat.ble 17 pc) (cond (Nat.ble 18 pc) (cond (Nat.ble 19 pc) ((99, 0, 0, 0, 0)) ((20, 21, 5, 0, 0))) ((2, 18, 0, 0, 0))) ((99, 0, 0, 0, 0))) (cond (Nat.ble 12 pc) (cond (Nat.ble 13 pc) (cond (Nat.ble 14 pc) ((16, 17, 2, 38, 0)) ((1, 14, 1, 0, 0))) ((99, 0, 0, 0, 0))) (cond (Nat.ble 11 pc) ((99, 0, 0, 0, 0)) ((21, 13, 4, 1, 1))))) (cond (Nat.ble 5 pc) (cond (Nat.ble 7 pc) (cond (Nat.ble 8 pc) (cond (Nat.ble 9 pc) ((0, 10, 0, 0, 0)) ((99, 0, 0, 0, 0))) ((99, 0, 0, 0, 0))) (cond (Nat.ble 6 pc) ((20, 9, 5, 3, 0)) ((2, 6, 0, 0, 0)))) (cond (Nat.ble 2 pc) (cond (Nat.ble 3 pc) (cond (Nat.ble 4 pc) ((4, 5, 1, 0, 0)) ((99, 0, 0, 0, 0))) ((99, 0, 0, 0, 0))) (cond (Nat.ble 1 pc) ((28, 4, 36, 1, 0)) ((2, 1, 0, 0, 0))))))
def zc_X5_readText : Nat → zE := fun pc => cond (Nat.ble 49 pc) (cond (Nat.ble 73 pc) (cond (Nat.ble 85 pc) (cond (Nat.ble 91 pc) (cond (Nat.ble 94 pc) (cond (Nat.ble 96 pc) (cond (Nat.ble 97 pc) ((99, 0, 0, 0, 0)) ((34, 97, 0, 0, 0))) ((99, 0, 0, 0, 0))) (cond (Nat.ble 92 pc) (cond (Nat.ble 93 pc) ((20, 96, 0, 1, 1)) ((99, 0, 0, 0, 0))) ((99, 0, 0, 0, 0)))) (cond (Nat.ble 88 pc) (cond (Nat.ble 89 pc) (cond (Nat.ble 90 pc) ((20, 93, 5, 5, 0)) ((2, 90, 0, 0, 0))) ((99, 0, 0, 0, 0))) (cond (Nat.ble 86 pc) (cond (Nat.ble 87 pc) ((99, 0, 0, 0, 0)) ((19, 89, 0, 10, 0))) ((99, 0, 0, 0, 0))))) (cond (Nat.ble 79 pc) (cond (Nat.ble 82 pc) (cond (Nat.ble 83 pc) (cond (Nat.ble 84 pc) ((99, 0, 0, 0, 0)) ((7, 86, 1, 0, 1))) ((99, 0, 0, 0, 0))) (cond (Nat.ble 80 pc) (cond (Nat.ble 81 pc) ((99, 0, 0, 0, 0)) ((28, 83, 3, 2, 1))) ((1, 80, 3, 0, 0)))) (cond (Nat.ble 76 pc) (cond (Nat.ble 77 pc) ((99, 0, 0, 0, 0)) ((20, 79, 5, 5, 0))) (cond (Nat.ble 74 pc) (cond (Nat.ble 75 pc) ((2, 76, 0, 0, 0)) ((34, 75, 0, 0, 0))) ((8, 74, 1, 0, 0)))))) (cond (Nat.ble 61 pc) (cond (Nat.ble 67 pc) (cond (Nat.ble 70 pc) (cond (Nat.ble 71 pc) (cond (Nat.ble 72 pc) ((1, 73, 1, 0, 0)) ((99, 0, 0, 0, 0))) ((0, 72, 0, 0, (-20)))) (cond (Nat.ble 68 pc) ((99, 0, 0, 0, 0)) ((17, 70, 2, 75, 0)))) (cond (Nat.ble 64 pc) (cond (Nat.ble 65 pc) (cond (Nat.ble 66 pc) ((99, 0, 0, 0, 0)) ((0, 67, 0, 0, 48))) ((99, 0, 0, 0, 0))) (cond (Nat.ble 62 pc) (cond (Nat.ble 63 pc) ((99, 0, 0, 0, 0)) ((20, 65, 0, 1, 1))) ((99, 0, 0, 0, 0))))) (cond (Nat.ble 55 pc) (cond (Nat.ble 58 pc) (cond (Nat.ble 59 pc) (cond (Nat.ble 60 pc) ((99, 0, 0, 0, 0)) ((20, 62, 5, 5, 0))) ((2, 59, 0, 0, 0))) (cond (Nat.ble 56 pc) ((99, 0, 0, 0, 0)) ((16, 58, 0, 70, 0)))) (cond (Nat.ble 52 pc) (cond (Nat.ble 53 pc) ((99, 0, 0, 0, 0)) ((28, 55, 8, 2, 1))) (cond (Nat.ble 50 pc) (cond (Nat.ble 51 pc) ((1, 52, 3, 0, 0)) ((99, 0, 0, 0, 0))) ((99, 0, 0, 0, 0))))))) (cond (Nat.ble 24 pc) (cond (Nat.ble 36 pc) (cond (Nat.ble 42 pc) (cond (Nat.ble 45 pc) (cond (Nat.ble 47 pc) (cond (Nat.ble 48 pc) ((20, 51, 3, 1, 1)) ((99, 0, 0, 0, 0))) (cond (Nat.ble 46 pc) ((99, 0, 0, 0, 0)) ((20, 48, 5, 0, 0)))) (cond (Nat.ble 43 pc) (cond (Nat.ble 44 pc) ((2, 45, 0, 0, 0)) ((4, 44, 3, 0, 0))) ((99, 0, 0, 0, 0)))) (cond (Nat.ble 39 pc) (cond (Nat.ble 40 pc) (cond (Nat.ble 41 pc) ((99, 0, 0, 0, 0)) ((28, 43, 130, 2, 0))) ((13, 40, 4, 0, 0))) (cond (Nat.ble 37 pc) (cond (Nat.ble 38 pc) ((1, 39, 2, 0, 0)) ((99, 0, 0, 0, 0))) ((38, 38, 0, 0, 0))))) (cond (Nat.ble 30 pc) (cond (Nat.ble 33 pc) (cond (Nat.ble 34 pc) ((99, 0, 0, 0, 0)) ((17, 36, 0, 83, 0))) (cond (Nat.ble 31 pc) (cond (Nat.ble 32 pc) ((99, 0, 0, 0, 0)) ((0, 33, 0, 0, 32))) ((1, 31, 2, 0, 0)))) (cond (Nat.ble 27 pc) (cond (Nat.ble 28 pc) (cond (Nat.ble 29 pc) ((4, 30, 2, 0, 0)) ((99, 0, 0, 0, 0))) ((99, 0, 0, 0, 0))) (cond (Nat.ble 25 pc) (cond (Nat.ble 26 pc) ((28, 29, 25, 2, 1)) ((1, 26, 1, 0, 0))) ((99, 0, 0, 0, 0)))))) (cond (Nat.ble 12 pc) (cond (Nat.ble 18 pc) (cond (Nat.ble 21 pc) (cond (Nat.ble 22 pc) (cond (Nat.ble 23 pc) ((99, 0, 0, 0, 0)) ((20, 25, 5, 3, 0))) ((2, 22, 0, 0, 0))) (cond (Nat.ble 19 pc) ((99, 0, 0, 0, 0)) ((17, 21, 3, 89, 0)))) (cond (Nat.ble 15 pc) (cond (Nat.ble 16 pc) ((99, 0, 0, 0, 0)) ((20, 18, 4, 1, 1))) (cond (Nat.ble 13 pc) ((99, 0, 0, 0, 0)) ((20, 15, 5, 3, 0))))) (cond (Nat.ble 6 pc) (cond (Nat.ble 9 pc) (cond (Nat.ble 10 pc) (cond (Nat.ble 11 pc) ((2, 12, 0, 0, 0)) ((1, 11, 1, 0, 0))) ((4, 10, 1, 0, 0))) (cond (Nat.ble 7 pc) (cond (Nat.ble 8 pc) ((0, 9, 0, 0, 0)) ((99, 0, 0, 0, 0))) ((99, 0, 0, 0, 0)))) (cond (Nat.ble 3 pc) (cond (Nat.ble 4 pc) (cond (Nat.ble 5 pc) ((21, 8, 0, 1, 1)) ((0, 5, 0, 0, 0))) ((99, 0, 0, 0, 0))) (cond (Nat.ble 1 pc) (cond (Nat.ble 2 pc) ((99, 0, 0, 0, 0)) ((20, 4, 5, 5, 0))) ((2, 1, 0, 0, 0)))))))
def zc_X5_count : Nat → zE := fun pc => cond (Nat.ble 50 pc) (cond (Nat.ble 75 pc) (cond (Nat.ble 88 pc) (cond (Nat.ble 94 pc) (cond (Nat.ble 97 pc) (cond (Nat.ble 99 pc) (cond (Nat.ble 100 pc) ((99, 0, 0, 0, 0)) ((34, 100, 0, 0, 0))) (cond (Nat.ble 98 pc) ((1, 99, 2, 0, 0)) ((99, 0, 0, 0, 0)))) (cond (Nat.ble 95 pc) (cond (Nat.ble 96 pc) ((99, 0, 0, 0, 0)) ((19, 98, 0, 31, 0))) ((99, 0, 0, 0, 0)))) (cond (Nat.ble 91 pc) (cond (Nat.ble 92 pc) (cond (Nat.ble 93 pc) ((99, 0, 0, 0, 0)) ((7, 95, 3, 0, 1))) ((99, 0, 0, 0, 0))) (cond (Nat.ble 89 pc) (cond (Nat.ble 90 pc) ((99, 0, 0, 0, 0)) ((7, 92, 2, 0, 1))) ((99, 0, 0, 0, 0))))) (cond (Nat.ble 81 pc) (cond (Nat.ble 84 pc) (cond (Nat.ble 86 pc) (cond (Nat.ble 87 pc) ((99, 0, 0, 0, 0)) ((17, 89, 1, 92, 0))) (cond (Nat.ble 85 pc) ((8, 86, 1, 0, 0)) ((0, 85, 0, 0, 2)))) (cond (Nat.ble 82 pc) (cond (Nat.ble 83 pc) ((1, 84, 1, 0, 0)) ((99, 0, 0, 0, 0))) ((1, 83, 4, 0, 0)))) (cond (Nat.ble 78 pc) (cond (Nat.ble 79 pc) ((99, 0, 0, 0, 0)) ((19, 81, 0, 92, 0))) (cond (Nat.ble 76 pc) (cond (Nat.ble 77 pc) ((4, 78, 2, 0, 0)) ((8, 77, 0, 0, 0))) ((99, 0, 0, 0, 0)))))) (cond (Nat.ble 62 pc) (cond (Nat.ble 68 pc) (cond (Nat.ble 71 pc) (cond (Nat.ble 73 pc) (cond (Nat.ble 74 pc) ((99, 0, 0, 0, 0)) ((28, 76, 9, 2, 1))) (cond (Nat.ble 72 pc) ((99, 0, 0, 0, 0)) ((1, 73, 4, 0, 0)))) (cond (Nat.ble 69 pc) ((99, 0, 0, 0, 0)) ((20, 71, 3, 1, 1)))) (cond (Nat.ble 65 pc) (cond (Nat.ble 66 pc) ((99, 0, 0, 0, 0)) ((20, 68, 5, 0, 0))) (cond (Nat.ble 63 pc) (cond (Nat.ble 64 pc) ((2, 65, 0, 0, 0)) ((1, 64, 2, 0, 0))) ((99, 0, 0, 0, 0))))) (cond (Nat.ble 56 pc) (cond (Nat.ble 59 pc) (cond (Nat.ble 60 pc) (cond (Nat.ble 61 pc) ((99, 0, 0, 0, 0)) ((17, 63, 1, 81, 0))) ((0, 60, 0, 0, 1))) (cond (Nat.ble 57 pc) (cond (Nat.ble 58 pc) ((1, 59, 1, 0, 0)) ((99, 0, 0, 0, 0))) ((4, 58, 4, 0, 0)))) (cond (Nat.ble 53 pc) (cond (Nat.ble 54 pc) ((99, 0, 0, 0, 0)) ((28, 56, 1, 2, 1))) (cond (Nat.ble 51 pc) (cond (Nat.ble 52 pc) ((1, 53, 3, 0, 0)) ((99, 0, 0, 0, 0))) ((99, 0, 0, 0, 0))))))) (cond (Nat.ble 25 pc) (cond (Nat.ble 37 pc) (cond (Nat.ble 43 pc) (cond (Nat.ble 46 pc) (cond (Nat.ble 48 pc) (cond (Nat.ble 49 pc) ((20, 52, 3, 0, 1)) ((99, 0, 0, 0, 0))) (cond (Nat.ble 47 pc) ((99, 0, 0, 0, 0)) ((20, 49, 5, 0, 0)))) (cond (Nat.ble 44 pc) (cond (Nat.ble 45 pc) ((2, 46, 0, 0, 0)) ((99, 0, 0, 0, 0))) ((99, 0, 0, 0, 0)))) (cond (Nat.ble 40 pc) (cond (Nat.ble 41 pc) (cond (Nat.ble 42 pc) ((17, 45, 3, 98, 0)) ((99, 0, 0, 0, 0))) ((99, 0, 0, 0, 0))) (cond (Nat.ble 38 pc) (cond (Nat.ble 39 pc) ((20, 42, 0, 1, 1)) ((99, 0, 0, 0, 0))) ((99, 0, 0, 0, 0))))) (cond (Nat.ble 31 pc) (cond (Nat.ble 34 pc) (cond (Nat.ble 35 pc) (cond (Nat.ble 36 pc) ((20, 39, 3, 0, 1)) ((99, 0, 0, 0, 0))) ((99, 0, 0, 0, 0))) (cond (Nat.ble 32 pc) (cond (Nat.ble 33 pc) ((20, 36, 5, 0, 0)) ((2, 33, 0, 0, 0))) ((1, 32, 3, 0, 0)))) (cond (Nat.ble 28 pc) (cond (Nat.ble 29 pc) (cond (Nat.ble 30 pc) ((4, 31, 3, 0, 0)) ((0, 30, 0, 0, 0))) ((4, 29, 2, 0, 0))) (cond (Nat.ble 26 pc) (cond (Nat.ble 27 pc) ((0, 28, 0, 0, 0)) ((34, 27, 0, 0, 0))) ((99, 0, 0, 0, 0)))))) (cond (Nat.ble 12 pc) (cond (Nat.ble 18 pc) (cond (Nat.ble 21 pc) (cond (Nat.ble 23 pc) (cond (Nat.ble 24 pc) ((99, 0, 0, 0, 0)) ((20, 26, 0, 1, 1))) ((99, 0, 0, 0, 0))) (cond (Nat.ble 19 pc) (cond (Nat.ble 20 pc) ((20, 23, 3, 0, 1)) ((99, 0, 0, 0, 0))) ((99, 0, 0, 0, 0)))) (cond (Nat.ble 15 pc) (cond (Nat.ble 16 pc) (cond (Nat.ble 17 pc) ((20, 20, 5, 0, 0)) ((2, 17, 0, 0, 0))) ((99, 0, 0, 0, 0))) (cond (Nat.ble 13 pc) (cond (Nat.ble 14 pc) ((99, 0, 0, 0, 0)) ((16, 16, 1, 27, 0))) ((1, 13, 1, 0, 0))))) (cond (Nat.ble 6 pc) (cond (Nat.ble 9 pc) (cond (Nat.ble 10 pc) (cond (Nat.ble 11 pc) ((34, 12, 0, 0, 0)) ((0, 11, 0, 0, (-1)))) ((99, 0, 0, 0, 0))) (cond (Nat.ble 7 pc) (cond (Nat.ble 8 pc) ((99, 0, 0, 0, 0)) ((17, 10, 2, 12, 0))) ((99, 0, 0, 0, 0)))) (cond (Nat.ble 3 pc) (cond (Nat.ble 4 pc) (cond (Nat.ble 5 pc) ((0, 7, 0, 0, 6)) ((1, 5, 1, 0, 0))) ((99, 0, 0, 0, 0))) (cond (Nat.ble 1 pc) (cond (Nat.ble 2 pc) ((99, 0, 0, 0, 0)) ((16, 4, 2, 10, 0))) ((1, 1, 1, 0, 0)))))))
def zc_X5_fault : Nat → zE := fun pc => cond (Nat.ble 32 pc) (cond (Nat.ble 48 pc) (cond (Nat.ble 56 pc) (cond (Nat.ble 60 pc) (cond (Nat.ble 62 pc) (cond (Nat.ble 63 pc) (cond (Nat.ble 64 pc) ((99, 0, 0, 0, 0)) ((34, 64, 0, 0, 0))) ((99, 0, 0, 0, 0))) (cond (Nat.ble 61 pc) ((99, 0, 0, 0, 0)) ((28, 63, 17, 4, 1)))) (cond (Nat.ble 58 pc) (cond (Nat.ble 59 pc) ((1, 60, 2, 0, 0)) ((0, 59, 0, 0, 0))) ((99, 0, 0, 0, 0)))) (cond (Nat.ble 52 pc) (cond (Nat.ble 54 pc) (cond (Nat.ble 55 pc) ((20, 58, 3, 0, 1)) ((99, 0, 0, 0, 0))) (cond (Nat.ble 53 pc) ((99, 0, 0, 0, 0)) ((20, 55, 5, 0, 0)))) (cond (Nat.ble 50 pc) (cond (Nat.ble 51 pc) ((2, 52, 0, 0, 0)) ((99, 0, 0, 0, 0))) (cond (Nat.ble 49 pc) ((99, 0, 0, 0, 0)) ((20, 51, 3, 1, 1)))))) (cond (Nat.ble 40 pc) (cond (Nat.ble 44 pc) (cond (Nat.ble 46 pc) ((99, 0, 0, 0, 0)) (cond (Nat.ble 45 pc) ((20, 48, 5, 0, 0)) ((2, 45, 0, 0, 0)))) (cond (Nat.ble 42 pc) ((99, 0, 0, 0, 0)) (cond (Nat.ble 41 pc) ((19, 44, 0, 63, 0)) ((1, 41, 2, 0, 0))))) (cond (Nat.ble 36 pc) (cond (Nat.ble 38 pc) ((99, 0, 0, 0, 0)) (cond (Nat.ble 37 pc) ((16, 40, 1, 44, 0)) ((1, 37, 1, 0, 0)))) (cond (Nat.ble 34 pc) (cond (Nat.ble 35 pc) ((34, 36, 0, 0, 0)) ((99, 0, 0, 0, 0))) (cond (Nat.ble 33 pc) ((0, 35, 0, 0, (-4))) ((99, 0, 0, 0, 0))))))) (cond (Nat.ble 16 pc) (cond (Nat.ble 24 pc) (cond (Nat.ble 28 pc) (cond (Nat.ble 30 pc) (cond (Nat.ble 31 pc) ((99, 0, 0, 0, 0)) ((16, 33, 1, 36, 0))) (cond (Nat.ble 29 pc) ((1, 30, 2, 0, 0)) ((4, 29, 2, 0, 0)))) (cond (Nat.ble 26 pc) ((99, 0, 0, 0, 0)) (cond (Nat.ble 25 pc) ((28, 28, 13, 2, 1)) ((99, 0, 0, 0, 0))))) (cond (Nat.ble 20 pc) (cond (Nat.ble 22 pc) (cond (Nat.ble 23 pc) ((99, 0, 0, 0, 0)) ((20, 25, 3, 0, 1))) ((99, 0, 0, 0, 0))) (cond (Nat.ble 18 pc) (cond (Nat.ble 19 pc) ((20, 22, 5, 0, 0)) ((2, 19, 0, 0, 0))) ((99, 0, 0, 0, 0))))) (cond (Nat.ble 8 pc) (cond (Nat.ble 12 pc) (cond (Nat.ble 14 pc) (cond (Nat.ble 15 pc) ((20, 18, 3, 1, 1)) ((99, 0, 0, 0, 0))) (cond (Nat.ble 13 pc) ((99, 0, 0, 0, 0)) ((20, 15, 5, 0, 0)))) (cond (Nat.ble 10 pc) (cond (Nat.ble 11 pc) ((2, 12, 0, 0, 0)) ((34, 11, 0, 0, 0))) (cond (Nat.ble 9 pc) ((0, 10, 0, 0, (-1))) ((99, 0, 0, 0, 0))))) (cond (Nat.ble 4 pc) (cond (Nat.ble 6 pc) (cond (Nat.ble 7 pc) ((99, 0, 0, 0, 0)) ((17, 9, 0, 11, 0))) (cond (Nat.ble 5 pc) ((0, 6, 0, 0, 1)) ((1, 5, 1, 0, 0)))) (cond (Nat.ble 2 pc) ((99, 0, 0, 0, 0)) (cond (Nat.ble 1 pc) ((16, 4, 0, 11, 0)) ((1, 1, 1, 0, 0)))))))
def zc_X5_may : Nat → zE := fun pc => cond (Nat.ble 8 pc) (cond (Nat.ble 12 pc) (cond (Nat.ble 14 pc) (cond (Nat.ble 15 pc) ((99, 0, 0, 0, 0)) ((34, 15, 0, 0, 0))) ((99, 0, 0, 0, 0))) (cond (Nat.ble 10 pc) (cond (Nat.ble 11 pc) ((28, 14, 40, 2, 0)) ((99, 0, 0, 0, 0))) (cond (Nat.ble 9 pc) ((99, 0, 0, 0, 0)) ((20, 11, 0, 1, 1))))) (cond (Nat.ble 4 pc) (cond (Nat.ble 6 pc) ((99, 0, 0, 0, 0)) (cond (Nat.ble 5 pc) ((20, 8, 3, 0, 1)) ((99, 0, 0, 0, 0)))) (cond (Nat.ble 2 pc) (cond (Nat.ble 3 pc) ((99, 0, 0, 0, 0)) ((20, 5, 5, 0, 0))) (cond (Nat.ble 1 pc) ((2, 2, 0, 0, 0)) ((2, 1, 0, 0, 0)))))
def zc_X5_openBehind : Nat → zE := fun pc => cond (Nat.ble 46 pc) (cond (Nat.ble 69 pc) (cond (Nat.ble 81 pc) (cond (Nat.ble 87 pc) (cond (Nat.ble 90 pc) (cond (Nat.ble 91 pc) (cond (Nat.ble 92 pc) ((99, 0, 0, 0, 0)) ((34, 92, 0, 0, 0))) ((1, 91, 2, 0, 0))) (cond (Nat.ble 88 pc) ((99, 0, 0, 0, 0)) ((19, 90, 0, 38, 0)))) (cond (Nat.ble 84 pc) (cond (Nat.ble 85 pc) ((99, 0, 0, 0, 0)) ((7, 87, 3, 0, 1))) (cond (Nat.ble 82 pc) ((99, 0, 0, 0, 0)) ((28, 84, 4, 2, 1))))) (cond (Nat.ble 75 pc) (cond (Nat.ble 78 pc) (cond (Nat.ble 79 pc) (cond (Nat.ble 80 pc) ((0, 81, 0, 0, 1)) ((99, 0, 0, 0, 0))) ((99, 0, 0, 0, 0))) (cond (Nat.ble 76 pc) (cond (Nat.ble 77 pc) ((20, 80, 5, 5, 0)) ((2, 77, 0, 0, 0))) ((4, 76, 2, 0, 0)))) (cond (Nat.ble 72 pc) (cond (Nat.ble 73 pc) (cond (Nat.ble 74 pc) ((8, 75, 4, 0, 0)) ((8, 74, 5, 0, 0))) ((1, 73, 3, 0, 0))) (cond (Nat.ble 70 pc) (cond (Nat.ble 71 pc) ((0, 72, 0, 0, 1)) ((1, 71, 2, 0, 0))) ((99, 0, 0, 0, 0)))))) (cond (Nat.ble 57 pc) (cond (Nat.ble 63 pc) (cond (Nat.ble 66 pc) (cond (Nat.ble 67 pc) (cond (Nat.ble 68 pc) ((99, 0, 0, 0, 0)) ((16, 70, 0, 76, 0))) ((99, 0, 0, 0, 0))) (cond (Nat.ble 64 pc) (cond (Nat.ble 65 pc) ((99, 0, 0, 0, 0)) ((28, 67, 15, 3, 1))) ((1, 64, 3, 0, 0)))) (cond (Nat.ble 60 pc) (cond (Nat.ble 61 pc) ((99, 0, 0, 0, 0)) ((20, 63, 5, 5, 0))) (cond (Nat.ble 58 pc) (cond (Nat.ble 59 pc) ((2, 60, 0, 0, 0)) ((99, 0, 0, 0, 0))) ((99, 0, 0, 0, 0))))) (cond (Nat.ble 51 pc) (cond (Nat.ble 54 pc) (cond (Nat.ble 55 pc) (cond (Nat.ble 56 pc) ((20, 59, 3, 1, 1)) ((99, 0, 0, 0, 0))) ((99, 0, 0, 0, 0))) (cond (Nat.ble 52 pc) (cond (Nat.ble 53 pc) ((20, 56, 5, 0, 0)) ((2, 53, 0, 0, 0))) ((99, 0, 0, 0, 0)))) (cond (Nat.ble 48 pc) (cond (Nat.ble 49 pc) (cond (Nat.ble 50 pc) ((99, 0, 0, 0, 0)) ((17, 52, 3, 90, 0))) ((99, 0, 0, 0, 0))) (cond (Nat.ble 47 pc) ((99, 0, 0, 0, 0)) ((20, 49, 1, 0, 1))))))) (cond (Nat.ble 23 pc) (cond (Nat.ble 34 pc) (cond (Nat.ble 40 pc) (cond (Nat.ble 43 pc) (cond (Nat.ble 44 pc) ((99, 0, 0, 0, 0)) ((20, 46, 3, 1, 1))) (cond (Nat.ble 41 pc) ((99, 0, 0, 0, 0)) ((20, 43, 5, 0, 0)))) (cond (Nat.ble 37 pc) (cond (Nat.ble 38 pc) (cond (Nat.ble 39 pc) ((2, 40, 0, 0, 0)) ((1, 39, 3, 0, 0))) ((4, 38, 3, 0, 0))) (cond (Nat.ble 35 pc) (cond (Nat.ble 36 pc) ((0, 37, 0, 0, 0)) ((4, 36, 2, 0, 0))) ((0, 35, 0, 0, 0))))) (cond (Nat.ble 28 pc) (cond (Nat.ble 31 pc) (cond (Nat.ble 32 pc) (cond (Nat.ble 33 pc) ((34, 34, 0, 0, 0)) ((0, 33, 0, 0, 0))) ((99, 0, 0, 0, 0))) (cond (Nat.ble 29 pc) (cond (Nat.ble 30 pc) ((99, 0, 0, 0, 0)) ((16, 32, 0, 34, 0))) ((99, 0, 0, 0, 0)))) (cond (Nat.ble 25 pc) (cond (Nat.ble 26 pc) (cond (Nat.ble 27 pc) ((99, 0, 0, 0, 0)) ((28, 29, 13, 2, 1))) ((99, 0, 0, 0, 0))) (cond (Nat.ble 24 pc) ((99, 0, 0, 0, 0)) ((20, 26, 5, 5, 0)))))) (cond (Nat.ble 11 pc) (cond (Nat.ble 17 pc) (cond (Nat.ble 20 pc) (cond (Nat.ble 21 pc) (cond (Nat.ble 22 pc) ((2, 23, 0, 0, 0)) ((99, 0, 0, 0, 0))) ((99, 0, 0, 0, 0))) (cond (Nat.ble 18 pc) (cond (Nat.ble 19 pc) ((20, 22, 3, 1, 1)) ((99, 0, 0, 0, 0))) ((99, 0, 0, 0, 0)))) (cond (Nat.ble 14 pc) (cond (Nat.ble 15 pc) (cond (Nat.ble 16 pc) ((20, 19, 5, 0, 0)) ((2, 16, 0, 0, 0))) ((99, 0, 0, 0, 0))) (cond (Nat.ble 12 pc) (cond (Nat.ble 13 pc) ((99, 0, 0, 0, 0)) ((28, 15, 6, 3, 1))) ((1, 12, 1, 0, 0))))) (cond (Nat.ble 5 pc) (cond (Nat.ble 8 pc) (cond (Nat.ble 9 pc) ((99, 0, 0, 0, 0)) ((20, 11, 3, 0, 1))) (cond (Nat.ble 6 pc) ((99, 0, 0, 0, 0)) ((20, 8, 5, 0, 0)))) (cond (Nat.ble 2 pc) (cond (Nat.ble 3 pc) (cond (Nat.ble 4 pc) ((2, 5, 0, 0, 0)) ((99, 0, 0, 0, 0))) ((99, 0, 0, 0, 0))) (cond (Nat.ble 1 pc) ((20, 4, 5, 5, 0)) ((2, 1, 0, 0, 0)))))))
def zc_X5_kind : Nat → zE := fun pc => cond (Nat.ble 39 pc) (cond (Nat.ble 58 pc) (cond (Nat.ble 68 pc) (cond (Nat.ble 73 pc) (cond (Nat.ble 75 pc) (cond (Nat.ble 76 pc) (cond (Nat.ble 77 pc) ((99, 0, 0, 0, 0)) ((34, 77, 0, 0, 0))) ((0, 76, 0, 0, 1))) ((99, 0, 0, 0, 0))) (cond (Nat.ble 70 pc) (cond (Nat.ble 71 pc) (cond (Nat.ble 72 pc) ((19, 75, 0, 76, 0)) ((0, 72, 0, 0, 0))) ((99, 0, 0, 0, 0))) (cond (Nat.ble 69 pc) ((99, 0, 0, 0, 0)) ((17, 71, 5, 75, 0))))) (cond (Nat.ble 63 pc) (cond (Nat.ble 65 pc) (cond (Nat.ble 66 pc) (cond (Nat.ble 67 pc) ((0, 68, 0, 0, 1)) ((99, 0, 0, 0, 0))) ((99, 0, 0, 0, 0))) (cond (Nat.ble 64 pc) ((28, 67, 137, 1, 0)) ((99, 0, 0, 0, 0)))) (cond (Nat.ble 60 pc) (cond (Nat.ble 61 pc) (cond (Nat.ble 62 pc) ((99, 0, 0, 0, 0)) ((28, 64, 40, 2, 0))) ((1, 61, 1, 0, 0))) (cond (Nat.ble 59 pc) ((2, 60, 0, 0, 0)) ((34, 59, 0, 0, 0)))))) (cond (Nat.ble 48 pc) (cond (Nat.ble 53 pc) (cond (Nat.ble 55 pc) (cond (Nat.ble 56 pc) (cond (Nat.ble 57 pc) ((0, 58, 0, 0, 3)) ((99, 0, 0, 0, 0))) ((99, 0, 0, 0, 0))) (cond (Nat.ble 54 pc) ((16, 57, 1, 59, 0)) ((99, 0, 0, 0, 0)))) (cond (Nat.ble 50 pc) (cond (Nat.ble 51 pc) (cond (Nat.ble 52 pc) ((99, 0, 0, 0, 0)) ((28, 54, 40, 2, 0))) ((8, 51, 0, 0, 0))) (cond (Nat.ble 49 pc) ((0, 50, 0, 0, 1)) ((1, 49, 1, 0, 0))))) (cond (Nat.ble 43 pc) (cond (Nat.ble 45 pc) (cond (Nat.ble 46 pc) (cond (Nat.ble 47 pc) ((2, 48, 0, 0, 0)) ((34, 47, 0, 0, 0))) ((0, 46, 0, 0, 2))) ((99, 0, 0, 0, 0))) (cond (Nat.ble 41 pc) (cond (Nat.ble 42 pc) ((17, 45, 4, 47, 0)) ((8, 42, 0, 0, 0))) (cond (Nat.ble 40 pc) ((0, 41, 0, 0, 1)) ((1, 40, 1, 0, 0))))))) (cond (Nat.ble 19 pc) (cond (Nat.ble 29 pc) (cond (Nat.ble 34 pc) (cond (Nat.ble 36 pc) (cond (Nat.ble 37 pc) (cond (Nat.ble 38 pc) ((1, 39, 2, 0, 0)) ((99, 0, 0, 0, 0))) ((99, 0, 0, 0, 0))) (cond (Nat.ble 35 pc) ((16, 38, 0, 47, 0)) ((1, 35, 2, 0, 0)))) (cond (Nat.ble 31 pc) (cond (Nat.ble 32 pc) (cond (Nat.ble 33 pc) ((4, 34, 2, 0, 0)) ((99, 0, 0, 0, 0))) ((99, 0, 0, 0, 0))) (cond (Nat.ble 30 pc) ((28, 33, 13, 2, 1)) ((99, 0, 0, 0, 0))))) (cond (Nat.ble 24 pc) (cond (Nat.ble 26 pc) (cond (Nat.ble 27 pc) (cond (Nat.ble 28 pc) ((99, 0, 0, 0, 0)) ((20, 30, 3, 0, 1))) ((99, 0, 0, 0, 0))) (cond (Nat.ble 25 pc) ((99, 0, 0, 0, 0)) ((20, 27, 5, 0, 0)))) (cond (Nat.ble 21 pc) (cond (Nat.ble 22 pc) (cond (Nat.ble 23 pc) ((2, 24, 0, 0, 0)) ((99, 0, 0, 0, 0))) ((99, 0, 0, 0, 0))) (cond (Nat.ble 20 pc) ((20, 23, 3, 1, 1)) ((99, 0, 0, 0, 0)))))) (cond (Nat.ble 9 pc) (cond (Nat.ble 14 pc) (cond (Nat.ble 16 pc) (cond (Nat.ble 17 pc) (cond (Nat.ble 18 pc) ((99, 0, 0, 0, 0)) ((20, 20, 5, 0, 0))) ((2, 17, 0, 0, 0))) (cond (Nat.ble 15 pc) ((34, 16, 0, 0, 0)) ((0, 15, 0, 0, (-1))))) (cond (Nat.ble 11 pc) (cond (Nat.ble 12 pc) ((99, 0, 0, 0, 0)) ((16, 14, 1, 16, 0))) ((99, 0, 0, 0, 0)))) (cond (Nat.ble 4 pc) (cond (Nat.ble 6 pc) (cond (Nat.ble 7 pc) (cond (Nat.ble 8 pc) ((28, 11, 0, 2, 1)) ((1, 8, 1, 0, 0))) ((99, 0, 0, 0, 0))) (cond (Nat.ble 5 pc) ((99, 0, 0, 0, 0)) ((20, 7, 3, 0, 1)))) (cond (Nat.ble 2 pc) ((99, 0, 0, 0, 0)) (cond (Nat.ble 1 pc) ((20, 4, 5, 0, 0)) ((2, 1, 0, 0, 0)))))))
def zc_X5_far : Nat → zE := fun pc => cond (Nat.ble 15 pc) (cond (Nat.ble 23 pc) (cond (Nat.ble 27 pc) (cond (Nat.ble 29 pc) (cond (Nat.ble 30 pc) ((99, 0, 0, 0, 0)) ((34, 30, 0, 0, 0))) ((99, 0, 0, 0, 0))) (cond (Nat.ble 25 pc) (cond (Nat.ble 26 pc) ((28, 29, 44, 3, 0)) ((1, 26, 1, 0, 0))) ((99, 0, 0, 0, 0)))) (cond (Nat.ble 19 pc) (cond (Nat.ble 21 pc) (cond (Nat.ble 22 pc) ((20, 25, 0, 1, 1)) ((99, 0, 0, 0, 0))) (cond (Nat.ble 20 pc) ((99, 0, 0, 0, 0)) ((20, 22, 3, 0, 1)))) (cond (Nat.ble 17 pc) ((99, 0, 0, 0, 0)) (cond (Nat.ble 16 pc) ((20, 19, 5, 0, 0)) ((2, 16, 0, 0, 0)))))) (cond (Nat.ble 7 pc) (cond (Nat.ble 11 pc) (cond (Nat.ble 13 pc) (cond (Nat.ble 14 pc) ((2, 15, 0, 0, 0)) ((99, 0, 0, 0, 0))) (cond (Nat.ble 12 pc) ((99, 0, 0, 0, 0)) ((19, 14, 0, 29, 0)))) (cond (Nat.ble 9 pc) (cond (Nat.ble 10 pc) ((0, 11, 0, 0, (-1))) ((99, 0, 0, 0, 0))) (cond (Nat.ble 8 pc) ((99, 0, 0, 0, 0)) ((17, 10, 5, 14, 0))))) (cond (Nat.ble 3 pc) (cond (Nat.ble 5 pc) (cond (Nat.ble 6 pc) ((99, 0, 0, 0, 0)) ((0, 7, 0, 0, 16))) (cond (Nat.ble 4 pc) ((1, 5, 1, 0, 0)) ((99, 0, 0, 0, 0)))) (cond (Nat.ble 1 pc) (cond (Nat.ble 2 pc) ((99, 0, 0, 0, 0)) ((16, 4, 2, 10, 0))) ((1, 1, 1, 0, 0)))))
def zc_X5_go : Nat → zE := fun pc => cond (Nat.ble 31 pc) (cond (Nat.ble 46 pc) (cond (Nat.ble 54 pc) (cond (Nat.ble 58 pc) (cond (Nat.ble 60 pc) (cond (Nat.ble 61 pc) ((99, 0, 0, 0, 0)) ((34, 61, 0, 0, 0))) (cond (Nat.ble 59 pc) ((99, 0, 0, 0, 0)) ((0, 60, 0, 0, (-4))))) (cond (Nat.ble 56 pc) ((99, 0, 0, 0, 0)) (cond (Nat.ble 55 pc) ((19, 58, 0, 60, 0)) ((99, 0, 0, 0, 0))))) (cond (Nat.ble 50 pc) (cond (Nat.ble 52 pc) (cond (Nat.ble 53 pc) ((99, 0, 0, 0, 0)) ((28, 55, 1, 2, 1))) (cond (Nat.ble 51 pc) ((8, 52, 0, 0, 0)) ((1, 51, 2, 0, 0)))) (cond (Nat.ble 48 pc) ((99, 0, 0, 0, 0)) (cond (Nat.ble 47 pc) ((20, 50, 0, 1, 1)) ((99, 0, 0, 0, 0)))))) (cond (Nat.ble 38 pc) (cond (Nat.ble 42 pc) (cond (Nat.ble 44 pc) (cond (Nat.ble 45 pc) ((99, 0, 0, 0, 0)) ((20, 47, 3, 0, 1))) ((99, 0, 0, 0, 0))) (cond (Nat.ble 40 pc) (cond (Nat.ble 41 pc) ((20, 44, 5, 0, 0)) ((2, 41, 0, 0, 0))) ((99, 0, 0, 0, 0)))) (cond (Nat.ble 34 pc) (cond (Nat.ble 36 pc) (cond (Nat.ble 37 pc) ((20, 40, 5, 6, 0)) ((2, 37, 0, 0, 0))) ((99, 0, 0, 0, 0))) (cond (Nat.ble 32 pc) (cond (Nat.ble 33 pc) ((17, 36, 3, 58, 0)) ((99, 0, 0, 0, 0))) ((99, 0, 0, 0, 0)))))) (cond (Nat.ble 15 pc) (cond (Nat.ble 23 pc) (cond (Nat.ble 27 pc) (cond (Nat.ble 29 pc) (cond (Nat.ble 30 pc) ((28, 33, 44, 3, 0)) ((1, 30, 1, 0, 0))) ((99, 0, 0, 0, 0))) (cond (Nat.ble 25 pc) (cond (Nat.ble 26 pc) ((20, 29, 0, 1, 1)) ((99, 0, 0, 0, 0))) (cond (Nat.ble 24 pc) ((99, 0, 0, 0, 0)) ((20, 26, 3, 0, 1))))) (cond (Nat.ble 19 pc) (cond (Nat.ble 21 pc) ((99, 0, 0, 0, 0)) (cond (Nat.ble 20 pc) ((20, 23, 5, 0, 0)) ((2, 20, 0, 0, 0)))) (cond (Nat.ble 17 pc) (cond (Nat.ble 18 pc) ((2, 19, 0, 0, 0)) ((1, 18, 2, 0, 0))) (cond (Nat.ble 16 pc) ((34, 17, 0, 0, 0)) ((0, 16, 0, 0, (-1))))))) (cond (Nat.ble 7 pc) (cond (Nat.ble 11 pc) (cond (Nat.ble 13 pc) ((99, 0, 0, 0, 0)) (cond (Nat.ble 12 pc) ((16, 15, 3, 17, 0)) ((1, 12, 2, 0, 0)))) (cond (Nat.ble 9 pc) ((99, 0, 0, 0, 0)) (cond (Nat.ble 8 pc) ((17, 11, 4, 15, 0)) ((99, 0, 0, 0, 0))))) (cond (Nat.ble 3 pc) (cond (Nat.ble 5 pc) (cond (Nat.ble 6 pc) ((0, 8, 0, 0, 16)) ((1, 6, 1, 0, 0))) ((99, 0, 0, 0, 0))) (cond (Nat.ble 1 pc) (cond (Nat.ble 2 pc) ((17, 5, 2, 15, 0)) ((0, 2, 0, 0, 1))) ((1, 1, 1, 0, 0))))))
def zc_X5_goBehind : Nat → zE := fun pc => cond (Nat.ble 39 pc) (cond (Nat.ble 58 pc) (cond (Nat.ble 68 pc) (cond (Nat.ble 73 pc) (cond (Nat.ble 75 pc) (cond (Nat.ble 76 pc) (cond (Nat.ble 77 pc) ((99, 0, 0, 0, 0)) ((34, 77, 0, 0, 0))) ((8, 76, 1, 0, 0))) (cond (Nat.ble 74 pc) ((1, 75, 1, 0, 0)) ((99, 0, 0, 0, 0)))) (cond (Nat.ble 70 pc) (cond (Nat.ble 71 pc) (cond (Nat.ble 72 pc) ((99, 0, 0, 0, 0)) ((20, 74, 0, 1, 1))) ((99, 0, 0, 0, 0))) (cond (Nat.ble 69 pc) ((99, 0, 0, 0, 0)) ((20, 71, 5, 6, 0))))) (cond (Nat.ble 63 pc) (cond (Nat.ble 65 pc) (cond (Nat.ble 66 pc) (cond (Nat.ble 67 pc) ((2, 68, 0, 0, 0)) ((32, 67, 0, 0, 0))) ((99, 0, 0, 0, 0))) (cond (Nat.ble 64 pc) ((99, 0, 0, 0, 0)) ((28, 66, 45, 4, 0)))) (cond (Nat.ble 60 pc) (cond (Nat.ble 61 pc) ((99, 0, 0, 0, 0)) ((20, 63, 5, 6, 0))) (cond (Nat.ble 59 pc) ((2, 60, 0, 0, 0)) ((1, 59, 2, 0, 0)))))) (cond (Nat.ble 48 pc) (cond (Nat.ble 53 pc) (cond (Nat.ble 55 pc) (cond (Nat.ble 56 pc) ((99, 0, 0, 0, 0)) ((20, 58, 5, 5, 0))) (cond (Nat.ble 54 pc) ((2, 55, 0, 0, 0)) ((99, 0, 0, 0, 0)))) (cond (Nat.ble 50 pc) (cond (Nat.ble 51 pc) (cond (Nat.ble 52 pc) ((99, 0, 0, 0, 0)) ((20, 54, 3, 1, 1))) ((99, 0, 0, 0, 0))) (cond (Nat.ble 49 pc) ((99, 0, 0, 0, 0)) ((20, 51, 5, 0, 0))))) (cond (Nat.ble 43 pc) (cond (Nat.ble 45 pc) (cond (Nat.ble 46 pc) (cond (Nat.ble 47 pc) ((2, 48, 0, 0, 0)) ((99, 0, 0, 0, 0))) ((99, 0, 0, 0, 0))) (cond (Nat.ble 44 pc) ((16, 47, 1, 67, 0)) ((99, 0, 0, 0, 0)))) (cond (Nat.ble 41 pc) (cond (Nat.ble 42 pc) ((99, 0, 0, 0, 0)) ((28, 44, 13, 2, 1))) ((99, 0, 0, 0, 0)))))) (cond (Nat.ble 19 pc) (cond (Nat.ble 29 pc) (cond (Nat.ble 34 pc) (cond (Nat.ble 36 pc) (cond (Nat.ble 37 pc) (cond (Nat.ble 38 pc) ((20, 41, 5, 5, 0)) ((2, 38, 0, 0, 0))) ((99, 0, 0, 0, 0))) (cond (Nat.ble 35 pc) ((99, 0, 0, 0, 0)) ((20, 37, 3, 1, 1)))) (cond (Nat.ble 31 pc) (cond (Nat.ble 32 pc) ((99, 0, 0, 0, 0)) ((20, 34, 5, 0, 0))) (cond (Nat.ble 30 pc) ((2, 31, 0, 0, 0)) ((99, 0, 0, 0, 0))))) (cond (Nat.ble 24 pc) (cond (Nat.ble 26 pc) (cond (Nat.ble 27 pc) (cond (Nat.ble 28 pc) ((99, 0, 0, 0, 0)) ((28, 30, 6, 3, 1))) ((1, 27, 1, 0, 0))) ((99, 0, 0, 0, 0))) (cond (Nat.ble 21 pc) (cond (Nat.ble 22 pc) (cond (Nat.ble 23 pc) ((20, 26, 3, 0, 1)) ((99, 0, 0, 0, 0))) ((99, 0, 0, 0, 0))) (cond (Nat.ble 20 pc) ((20, 23, 5, 0, 0)) ((2, 20, 0, 0, 0)))))) (cond (Nat.ble 9 pc) (cond (Nat.ble 14 pc) (cond (Nat.ble 16 pc) (cond (Nat.ble 17 pc) ((99, 0, 0, 0, 0)) ((20, 19, 5, 6, 0))) (cond (Nat.ble 15 pc) ((2, 16, 0, 0, 0)) ((99, 0, 0, 0, 0)))) (cond (Nat.ble 11 pc) (cond (Nat.ble 12 pc) (cond (Nat.ble 13 pc) ((99, 0, 0, 0, 0)) ((28, 15, 6, 3, 1))) ((1, 12, 1, 0, 0))) ((99, 0, 0, 0, 0)))) (cond (Nat.ble 4 pc) (cond (Nat.ble 6 pc) (cond (Nat.ble 7 pc) (cond (Nat.ble 8 pc) ((20, 11, 3, 0, 1)) ((99, 0, 0, 0, 0))) ((99, 0, 0, 0, 0))) (cond (Nat.ble 5 pc) ((20, 8, 5, 0, 0)) ((2, 5, 0, 0, 0)))) (cond (Nat.ble 2 pc) ((99, 0, 0, 0, 0)) (cond (Nat.ble 1 pc) ((20, 4, 5, 5, 0)) ((2, 1, 0, 0, 0)))))))
def zc_X5_goOn : Nat → zE := fun pc => cond (Nat.ble 45 pc) (cond (Nat.ble 67 pc) (cond (Nat.ble 78 pc) (cond (Nat.ble 84 pc) (cond (Nat.ble 87 pc) (cond (Nat.ble 88 pc) (cond (Nat.ble 89 pc) ((99, 0, 0, 0, 0)) ((35, 89, 0, 0, 0))) ((99, 0, 0, 0, 0))) (cond (Nat.ble 85 pc) (cond (Nat.ble 86 pc) ((1, 88, 4, 0, 0)) ((99, 0, 0, 0, 0))) ((99, 0, 0, 0, 0)))) (cond (Nat.ble 81 pc) (cond (Nat.ble 82 pc) (cond (Nat.ble 83 pc) ((19, 86, 0, 32, 0)) ((99, 0, 0, 0, 0))) ((99, 0, 0, 0, 0))) (cond (Nat.ble 79 pc) (cond (Nat.ble 80 pc) ((7, 83, 5, 0, 1)) ((99, 0, 0, 0, 0))) ((99, 0, 0, 0, 0))))) (cond (Nat.ble 72 pc) (cond (Nat.ble 75 pc) (cond (Nat.ble 76 pc) (cond (Nat.ble 77 pc) ((28, 80, 4, 2, 1)) ((0, 77, 0, 0, 1))) ((2, 76, 1, 0, 0))) (cond (Nat.ble 73 pc) (cond (Nat.ble 74 pc) ((99, 0, 0, 0, 0)) ((4, 75, 4, 0, 0))) ((0, 73, 0, 0, 0)))) (cond (Nat.ble 69 pc) (cond (Nat.ble 70 pc) ((99, 0, 0, 0, 0)) ((19, 72, 0, 73, 0))) (cond (Nat.ble 68 pc) ((0, 69, 0, 0, 1)) ((99, 0, 0, 0, 0)))))) (cond (Nat.ble 56 pc) (cond (Nat.ble 61 pc) (cond (Nat.ble 64 pc) (cond (Nat.ble 65 pc) (cond (Nat.ble 66 pc) ((99, 0, 0, 0, 0)) ((16, 68, 0, 72, 0))) ((99, 0, 0, 0, 0))) (cond (Nat.ble 62 pc) (cond (Nat.ble 63 pc) ((99, 0, 0, 0, 0)) ((28, 65, 45, 4, 0))) ((2, 62, 3, 0, 0)))) (cond (Nat.ble 58 pc) (cond (Nat.ble 59 pc) (cond (Nat.ble 60 pc) ((8, 61, 1, 0, 0)) ((0, 60, 0, 0, 1))) ((1, 59, 2, 0, 0))) (cond (Nat.ble 57 pc) ((2, 58, 1, 0, 0)) ((2, 57, 0, 0, 0))))) (cond (Nat.ble 50 pc) (cond (Nat.ble 53 pc) (cond (Nat.ble 54 pc) ((99, 0, 0, 0, 0)) ((16, 56, 0, 72, 0))) (cond (Nat.ble 51 pc) ((99, 0, 0, 0, 0)) ((28, 53, 15, 3, 1)))) (cond (Nat.ble 47 pc) (cond (Nat.ble 48 pc) (cond (Nat.ble 49 pc) ((99, 0, 0, 0, 0)) ((1, 50, 5, 0, 0))) ((2, 48, 1, 0, 0))) (cond (Nat.ble 46 pc) ((2, 47, 0, 0, 0)) ((99, 0, 0, 0, 0))))))) (cond (Nat.ble 22 pc) (cond (Nat.ble 33 pc) (cond (Nat.ble 39 pc) (cond (Nat.ble 42 pc) (cond (Nat.ble 43 pc) (cond (Nat.ble 44 pc) ((99, 0, 0, 0, 0)) ((16, 46, 1, 86, 0))) ((99, 0, 0, 0, 0))) (cond (Nat.ble 40 pc) (cond (Nat.ble 41 pc) ((1, 43, 4, 0, 0)) ((99, 0, 0, 0, 0))) ((99, 0, 0, 0, 0)))) (cond (Nat.ble 36 pc) (cond (Nat.ble 37 pc) (cond (Nat.ble 38 pc) ((17, 41, 3, 86, 0)) ((99, 0, 0, 0, 0))) ((99, 0, 0, 0, 0))) (cond (Nat.ble 34 pc) (cond (Nat.ble 35 pc) ((20, 38, 1, 0, 1)) ((2, 35, 0, 0, 0))) ((99, 0, 0, 0, 0))))) (cond (Nat.ble 27 pc) (cond (Nat.ble 30 pc) (cond (Nat.ble 31 pc) (cond (Nat.ble 32 pc) ((1, 34, 5, 0, 0)) ((99, 0, 0, 0, 0))) ((4, 32, 5, 0, 0))) (cond (Nat.ble 28 pc) (cond (Nat.ble 29 pc) ((0, 30, 0, 0, 0)) ((99, 0, 0, 0, 0))) ((4, 29, 4, 0, 0)))) (cond (Nat.ble 24 pc) (cond (Nat.ble 25 pc) (cond (Nat.ble 26 pc) ((0, 27, 0, 0, 0)) ((35, 26, 0, 0, 0))) ((0, 25, 0, 0, 1))) ((99, 0, 0, 0, 0))))) (cond (Nat.ble 11 pc) (cond (Nat.ble 16 pc) (cond (Nat.ble 19 pc) (cond (Nat.ble 20 pc) (cond (Nat.ble 21 pc) ((16, 24, 4, 26, 0)) ((1, 21, 2, 0, 0))) ((99, 0, 0, 0, 0))) (cond (Nat.ble 17 pc) (cond (Nat.ble 18 pc) ((99, 0, 0, 0, 0)) ((28, 20, 6, 3, 1))) ((99, 0, 0, 0, 0)))) (cond (Nat.ble 13 pc) (cond (Nat.ble 14 pc) (cond (Nat.ble 15 pc) ((99, 0, 0, 0, 0)) ((20, 17, 0, 1, 1))) ((2, 14, 1, 0, 0))) (cond (Nat.ble 12 pc) ((2, 13, 1, 0, 0)) ((2, 12, 3, 0, 0))))) (cond (Nat.ble 5 pc) (cond (Nat.ble 8 pc) (cond (Nat.ble 9 pc) ((99, 0, 0, 0, 0)) ((17, 11, 5, 20, 0))) (cond (Nat.ble 6 pc) ((99, 0, 0, 0, 0)) ((20, 8, 0, 1, 1)))) (cond (Nat.ble 2 pc) (cond (Nat.ble 3 pc) (cond (Nat.ble 4 pc) ((2, 5, 3, 0, 0)) ((99, 0, 0, 0, 0))) ((99, 0, 0, 0, 0))) (cond (Nat.ble 1 pc) ((20, 4, 0, 1, 1)) ((2, 1, 1, 0, 0)))))))
def zc_X5_less : Nat → zE := fun pc => cond (Nat.ble 36 pc) (cond (Nat.ble 54 pc) (cond (Nat.ble 63 pc) (cond (Nat.ble 68 pc) (cond (Nat.ble 70 pc) (cond (Nat.ble 71 pc) (cond (Nat.ble 72 pc) ((99, 0, 0, 0, 0)) ((34, 72, 0, 0, 0))) ((99, 0, 0, 0, 0))) (cond (Nat.ble 69 pc) ((0, 71, 0, 0, (-4))) ((99, 0, 0, 0, 0)))) (cond (Nat.ble 65 pc) (cond (Nat.ble 66 pc) (cond (Nat.ble 67 pc) ((99, 0, 0, 0, 0)) ((19, 69, 0, 31, 0))) ((99, 0, 0, 0, 0))) (cond (Nat.ble 64 pc) ((99, 0, 0, 0, 0)) ((7, 66, 3, 0, 1))))) (cond (Nat.ble 58 pc) (cond (Nat.ble 60 pc) (cond (Nat.ble 61 pc) (cond (Nat.ble 62 pc) ((34, 63, 0, 0, 0)) ((1, 62, 3, 0, 0))) ((99, 0, 0, 0, 0))) (cond (Nat.ble 59 pc) ((99, 0, 0, 0, 0)) ((17, 61, 1, 63, 0)))) (cond (Nat.ble 56 pc) (cond (Nat.ble 57 pc) ((8, 58, 0, 0, 0)) ((1, 57, 1, 0, 0))) (cond (Nat.ble 55 pc) ((1, 56, 3, 0, 0)) ((99, 0, 0, 0, 0)))))) (cond (Nat.ble 45 pc) (cond (Nat.ble 49 pc) (cond (Nat.ble 51 pc) (cond (Nat.ble 52 pc) (cond (Nat.ble 53 pc) ((99, 0, 0, 0, 0)) ((28, 55, 44, 3, 0))) ((8, 52, 0, 0, 0))) (cond (Nat.ble 50 pc) ((1, 51, 1, 0, 0)) ((1, 50, 3, 0, 0)))) (cond (Nat.ble 47 pc) (cond (Nat.ble 48 pc) ((8, 49, 1, 0, 0)) ((1, 48, 3, 0, 0))) ((99, 0, 0, 0, 0)))) (cond (Nat.ble 40 pc) (cond (Nat.ble 42 pc) (cond (Nat.ble 43 pc) (cond (Nat.ble 44 pc) ((20, 47, 0, 1, 1)) ((99, 0, 0, 0, 0))) ((99, 0, 0, 0, 0))) (cond (Nat.ble 41 pc) ((20, 44, 3, 0, 1)) ((99, 0, 0, 0, 0)))) (cond (Nat.ble 38 pc) (cond (Nat.ble 39 pc) ((99, 0, 0, 0, 0)) ((20, 41, 5, 0, 0))) (cond (Nat.ble 37 pc) ((2, 38, 0, 0, 0)) ((2, 37, 0, 0, 0))))))) (cond (Nat.ble 18 pc) (cond (Nat.ble 27 pc) (cond (Nat.ble 31 pc) (cond (Nat.ble 33 pc) (cond (Nat.ble 34 pc) ((99, 0, 0, 0, 0)) ((17, 36, 4, 69, 0))) (cond (Nat.ble 32 pc) ((1, 33, 2, 0, 0)) ((1, 32, 3, 0, 0)))) (cond (Nat.ble 29 pc) (cond (Nat.ble 30 pc) ((4, 31, 3, 0, 0)) ((0, 30, 0, 0, 0))) (cond (Nat.ble 28 pc) ((4, 29, 2, 0, 0)) ((99, 0, 0, 0, 0))))) (cond (Nat.ble 22 pc) (cond (Nat.ble 24 pc) (cond (Nat.ble 25 pc) (cond (Nat.ble 26 pc) ((99, 0, 0, 0, 0)) ((49, 28, 0, 0, 0))) ((99, 0, 0, 0, 0))) (cond (Nat.ble 23 pc) ((99, 0, 0, 0, 0)) ((20, 25, 0, 1, 1)))) (cond (Nat.ble 20 pc) ((99, 0, 0, 0, 0)) (cond (Nat.ble 19 pc) ((20, 22, 3, 0, 1)) ((99, 0, 0, 0, 0)))))) (cond (Nat.ble 9 pc) (cond (Nat.ble 13 pc) (cond (Nat.ble 15 pc) (cond (Nat.ble 16 pc) (cond (Nat.ble 17 pc) ((99, 0, 0, 0, 0)) ((20, 19, 5, 0, 0))) ((2, 16, 0, 0, 0))) (cond (Nat.ble 14 pc) ((99, 0, 0, 0, 0)) ((0, 15, 0, 0, 12)))) (cond (Nat.ble 11 pc) (cond (Nat.ble 12 pc) ((34, 13, 0, 0, 0)) ((0, 12, 0, 0, (-1)))) ((99, 0, 0, 0, 0)))) (cond (Nat.ble 4 pc) (cond (Nat.ble 6 pc) (cond (Nat.ble 7 pc) (cond (Nat.ble 8 pc) ((17, 11, 5, 13, 0)) ((99, 0, 0, 0, 0))) ((0, 8, 0, 0, 12))) (cond (Nat.ble 5 pc) ((1, 6, 1, 0, 0)) ((99, 0, 0, 0, 0)))) (cond (Nat.ble 2 pc) (cond (Nat.ble 3 pc) ((99, 0, 0, 0, 0)) ((17, 5, 2, 11, 0))) (cond (Nat.ble 1 pc) ((0, 2, 0, 0, 1)) ((1, 1, 1, 0, 0)))))))
def zc_X5_many : Nat → zE := fun pc => cond (Nat.ble 19 pc) (cond (Nat.ble 29 pc) (cond (Nat.ble 34 pc) (cond (Nat.ble 36 pc) (cond (Nat.ble 37 pc) (cond (Nat.ble 38 pc) ((99, 0, 0, 0, 0)) ((34, 38, 0, 0, 0))) ((99, 0, 0, 0, 0))) (cond (Nat.ble 35 pc) ((99, 0, 0, 0, 0)) ((28, 37, 49, 5, 0)))) (cond (Nat.ble 31 pc) (cond (Nat.ble 32 pc) (cond (Nat.ble 33 pc) ((0, 34, 0, 0, 0)) ((0, 33, 0, 0, 0))) ((1, 32, 1, 0, 0))) ((99, 0, 0, 0, 0)))) (cond (Nat.ble 24 pc) (cond (Nat.ble 26 pc) (cond (Nat.ble 27 pc) (cond (Nat.ble 28 pc) ((20, 31, 5, 5, 0)) ((2, 28, 0, 0, 0))) ((99, 0, 0, 0, 0))) (cond (Nat.ble 25 pc) ((99, 0, 0, 0, 0)) ((20, 27, 3, 1, 1)))) (cond (Nat.ble 21 pc) (cond (Nat.ble 22 pc) ((99, 0, 0, 0, 0)) ((20, 24, 5, 0, 0))) (cond (Nat.ble 20 pc) ((2, 21, 0, 0, 0)) ((99, 0, 0, 0, 0)))))) (cond (Nat.ble 9 pc) (cond (Nat.ble 14 pc) (cond (Nat.ble 16 pc) (cond (Nat.ble 17 pc) (cond (Nat.ble 18 pc) ((99, 0, 0, 0, 0)) ((21, 20, 0, 1, 1))) ((0, 17, 0, 0, 0))) ((99, 0, 0, 0, 0))) (cond (Nat.ble 11 pc) (cond (Nat.ble 12 pc) (cond (Nat.ble 13 pc) ((20, 16, 5, 5, 0)) ((2, 13, 0, 0, 0))) ((34, 12, 0, 0, 0))) (cond (Nat.ble 10 pc) ((0, 11, 0, 0, (-1))) ((99, 0, 0, 0, 0))))) (cond (Nat.ble 4 pc) (cond (Nat.ble 6 pc) (cond (Nat.ble 7 pc) (cond (Nat.ble 8 pc) ((99, 0, 0, 0, 0)) ((17, 10, 5, 12, 0))) ((99, 0, 0, 0, 0))) (cond (Nat.ble 5 pc) ((0, 7, 0, 0, 9)) ((1, 5, 1, 0, 0)))) (cond (Nat.ble 2 pc) ((99, 0, 0, 0, 0)) (cond (Nat.ble 1 pc) ((16, 4, 2, 10, 0)) ((1, 1, 1, 0, 0))))))
def zc_X5_rings : Nat → zE := fun pc => cond (Nat.ble 20 pc) (cond (Nat.ble 30 pc) (cond (Nat.ble 35 pc) (cond (Nat.ble 37 pc) (cond (Nat.ble 38 pc) (cond (Nat.ble 39 pc) ((99, 0, 0, 0, 0)) ((34, 39, 0, 0, 0))) ((99, 0, 0, 0, 0))) (cond (Nat.ble 36 pc) ((99, 0, 0, 0, 0)) ((28, 38, 49, 5, 0)))) (cond (Nat.ble 32 pc) (cond (Nat.ble 33 pc) (cond (Nat.ble 34 pc) ((0, 35, 0, 0, 1)) ((0, 34, 0, 0, 0))) ((1, 33, 1, 0, 0))) ((99, 0, 0, 0, 0)))) (cond (Nat.ble 25 pc) (cond (Nat.ble 27 pc) (cond (Nat.ble 28 pc) (cond (Nat.ble 29 pc) ((20, 32, 5, 5, 0)) ((2, 29, 0, 0, 0))) ((99, 0, 0, 0, 0))) (cond (Nat.ble 26 pc) ((99, 0, 0, 0, 0)) ((20, 28, 3, 1, 1)))) (cond (Nat.ble 22 pc) (cond (Nat.ble 23 pc) ((99, 0, 0, 0, 0)) ((20, 25, 5, 0, 0))) (cond (Nat.ble 21 pc) ((2, 22, 0, 0, 0)) ((99, 0, 0, 0, 0)))))) (cond (Nat.ble 10 pc) (cond (Nat.ble 15 pc) (cond (Nat.ble 17 pc) (cond (Nat.ble 18 pc) (cond (Nat.ble 19 pc) ((99, 0, 0, 0, 0)) ((21, 21, 0, 1, 1))) ((0, 18, 0, 0, 0))) ((99, 0, 0, 0, 0))) (cond (Nat.ble 12 pc) (cond (Nat.ble 13 pc) (cond (Nat.ble 14 pc) ((20, 17, 5, 5, 0)) ((2, 14, 0, 0, 0))) ((34, 13, 0, 0, 0))) (cond (Nat.ble 11 pc) ((0, 12, 0, 0, (-1))) ((99, 0, 0, 0, 0))))) (cond (Nat.ble 5 pc) (cond (Nat.ble 7 pc) (cond (Nat.ble 8 pc) (cond (Nat.ble 9 pc) ((99, 0, 0, 0, 0)) ((17, 11, 5, 13, 0))) ((99, 0, 0, 0, 0))) (cond (Nat.ble 6 pc) ((0, 8, 0, 0, 8)) ((1, 6, 1, 0, 0)))) (cond (Nat.ble 2 pc) (cond (Nat.ble 3 pc) ((99, 0, 0, 0, 0)) ((17, 5, 2, 11, 0))) (cond (Nat.ble 1 pc) ((0, 2, 0, 0, 1)) ((1, 1, 1, 0, 0))))))
def zc_X5_rowsBehind : Nat → zE := fun pc => cond (Nat.ble 58 pc) (cond (Nat.ble 87 pc) (cond (Nat.ble 102 pc) (cond (Nat.ble 109 pc) (cond (Nat.ble 113 pc) (cond (Nat.ble 115 pc) (cond (Nat.ble 116 pc) ((99, 0, 0, 0, 0)) ((34, 116, 0, 0, 0))) (cond (Nat.ble 114 pc) ((99, 0, 0, 0, 0)) ((1, 115, 5, 0, 0)))) (cond (Nat.ble 111 pc) ((99, 0, 0, 0, 0)) (cond (Nat.ble 110 pc) ((19, 113, 0, 41, 0)) ((99, 0, 0, 0, 0))))) (cond (Nat.ble 105 pc) (cond (Nat.ble 107 pc) (cond (Nat.ble 108 pc) ((99, 0, 0, 0, 0)) ((7, 110, 7, 0, 1))) ((99, 0, 0, 0, 0))) (cond (Nat.ble 103 pc) (cond (Nat.ble 104 pc) ((28, 107, 4, 2, 1)) ((0, 104, 0, 0, 1))) ((2, 103, 1, 0, 0))))) (cond (Nat.ble 94 pc) (cond (Nat.ble 98 pc) (cond (Nat.ble 100 pc) (cond (Nat.ble 101 pc) ((99, 0, 0, 0, 0)) ((4, 102, 5, 0, 0))) (cond (Nat.ble 99 pc) ((8, 100, 0, 0, 0)) ((8, 99, 2, 0, 0)))) (cond (Nat.ble 96 pc) ((99, 0, 0, 0, 0)) (cond (Nat.ble 95 pc) ((28, 98, 49, 5, 0)) ((99, 0, 0, 0, 0))))) (cond (Nat.ble 90 pc) (cond (Nat.ble 92 pc) (cond (Nat.ble 93 pc) ((1, 95, 4, 0, 0)) ((99, 0, 0, 0, 0))) (cond (Nat.ble 91 pc) ((99, 0, 0, 0, 0)) ((48, 93, 0, 0, 0)))) (cond (Nat.ble 88 pc) (cond (Nat.ble 89 pc) ((8, 90, 0, 0, 0)) ((0, 89, 0, 0, 1))) ((99, 0, 0, 0, 0)))))) (cond (Nat.ble 72 pc) (cond (Nat.ble 79 pc) (cond (Nat.ble 83 pc) (cond (Nat.ble 85 pc) (cond (Nat.ble 86 pc) ((1, 88, 7, 0, 0)) ((1, 86, 3, 0, 0))) (cond (Nat.ble 84 pc) ((8, 85, 1, 0, 0)) ((0, 84, 0, 0, 1)))) (cond (Nat.ble 81 pc) (cond (Nat.ble 82 pc) ((1, 83, 2, 0, 0)) ((2, 82, 1, 0, 0))) (cond (Nat.ble 80 pc) ((2, 81, 0, 0, 0)) ((99, 0, 0, 0, 0))))) (cond (Nat.ble 75 pc) (cond (Nat.ble 77 pc) (cond (Nat.ble 78 pc) ((1, 80, 8, 0, 0)) ((99, 0, 0, 0, 0))) (cond (Nat.ble 76 pc) ((1, 78, 5, 0, 0)) ((99, 0, 0, 0, 0)))) (cond (Nat.ble 73 pc) (cond (Nat.ble 74 pc) ((4, 76, 8, 0, 0)) ((8, 74, 1, 0, 0))) ((1, 73, 3, 0, 0))))) (cond (Nat.ble 65 pc) (cond (Nat.ble 68 pc) (cond (Nat.ble 70 pc) ((99, 0, 0, 0, 0)) (cond (Nat.ble 69 pc) ((20, 72, 1, 0, 1)) ((2, 69, 0, 0, 0)))) (cond (Nat.ble 66 pc) ((99, 0, 0, 0, 0)) ((19, 68, 0, 74, 0)))) (cond (Nat.ble 61 pc) (cond (Nat.ble 63 pc) (cond (Nat.ble 64 pc) ((0, 65, 0, 0, 1)) ((99, 0, 0, 0, 0))) (cond (Nat.ble 62 pc) ((99, 0, 0, 0, 0)) ((17, 64, 3, 68, 0)))) (cond (Nat.ble 59 pc) (cond (Nat.ble 60 pc) ((1, 61, 3, 0, 0)) ((99, 0, 0, 0, 0))) ((1, 60, 7, 0, 0))))))) (cond (Nat.ble 29 pc) (cond (Nat.ble 43 pc) (cond (Nat.ble 50 pc) (cond (Nat.ble 54 pc) (cond (Nat.ble 56 pc) ((99, 0, 0, 0, 0)) (cond (Nat.ble 55 pc) ((16, 58, 0, 102, 0)) ((99, 0, 0, 0, 0)))) (cond (Nat.ble 52 pc) (cond (Nat.ble 53 pc) ((99, 0, 0, 0, 0)) ((28, 55, 15, 3, 1))) (cond (Nat.ble 51 pc) ((99, 0, 0, 0, 0)) ((1, 52, 7, 0, 0))))) (cond (Nat.ble 46 pc) (cond (Nat.ble 48 pc) (cond (Nat.ble 49 pc) ((2, 50, 1, 0, 0)) ((2, 49, 0, 0, 0))) ((99, 0, 0, 0, 0))) (cond (Nat.ble 44 pc) (cond (Nat.ble 45 pc) ((17, 48, 3, 113, 0)) ((99, 0, 0, 0, 0))) ((1, 45, 6, 0, 0))))) (cond (Nat.ble 36 pc) (cond (Nat.ble 39 pc) (cond (Nat.ble 41 pc) (cond (Nat.ble 42 pc) ((99, 0, 0, 0, 0)) ((1, 43, 7, 0, 0))) (cond (Nat.ble 40 pc) ((99, 0, 0, 0, 0)) ((4, 41, 7, 0, 0)))) (cond (Nat.ble 37 pc) (cond (Nat.ble 38 pc) ((0, 39, 0, 0, 0)) ((99, 0, 0, 0, 0))) ((4, 38, 6, 0, 0)))) (cond (Nat.ble 32 pc) (cond (Nat.ble 34 pc) ((99, 0, 0, 0, 0)) (cond (Nat.ble 33 pc) ((49, 36, 0, 0, 0)) ((99, 0, 0, 0, 0)))) (cond (Nat.ble 30 pc) (cond (Nat.ble 31 pc) ((99, 0, 0, 0, 0)) ((20, 33, 1, 0, 1))) ((2, 30, 0, 0, 0)))))) (cond (Nat.ble 14 pc) (cond (Nat.ble 21 pc) (cond (Nat.ble 25 pc) (cond (Nat.ble 27 pc) (cond (Nat.ble 28 pc) ((8, 29, 0, 0, 0)) ((0, 28, 0, 0, 1))) (cond (Nat.ble 26 pc) ((1, 27, 3, 0, 0)) ((99, 0, 0, 0, 0)))) (cond (Nat.ble 23 pc) (cond (Nat.ble 24 pc) ((4, 26, 5, 0, 0)) ((0, 24, 0, 0, 0))) (cond (Nat.ble 22 pc) ((34, 23, 0, 0, 0)) ((0, 22, 0, 0, 0))))) (cond (Nat.ble 17 pc) (cond (Nat.ble 19 pc) ((99, 0, 0, 0, 0)) (cond (Nat.ble 18 pc) ((19, 21, 0, 22, 0)) ((0, 18, 0, 0, 1)))) (cond (Nat.ble 15 pc) ((99, 0, 0, 0, 0)) ((16, 17, 0, 21, 0))))) (cond (Nat.ble 7 pc) (cond (Nat.ble 10 pc) (cond (Nat.ble 12 pc) ((99, 0, 0, 0, 0)) (cond (Nat.ble 11 pc) ((28, 14, 16, 2, 1)) ((2, 11, 1, 0, 0)))) (cond (Nat.ble 8 pc) (cond (Nat.ble 9 pc) ((2, 10, 0, 0, 0)) ((99, 0, 0, 0, 0))) ((99, 0, 0, 0, 0)))) (cond (Nat.ble 3 pc) (cond (Nat.ble 5 pc) (cond (Nat.ble 6 pc) ((16, 9, 0, 17, 0)) ((99, 0, 0, 0, 0))) (cond (Nat.ble 4 pc) ((1, 6, 4, 0, 0)) ((99, 0, 0, 0, 0)))) (cond (Nat.ble 1 pc) (cond (Nat.ble 2 pc) ((99, 0, 0, 0, 0)) ((16, 4, 4, 23, 0))) ((1, 1, 2, 0, 0)))))))
def zc_X5_ring : Nat → zE := fun pc => cond (Nat.ble 38 pc) (cond (Nat.ble 57 pc) (cond (Nat.ble 66 pc) (cond (Nat.ble 71 pc) (cond (Nat.ble 73 pc) (cond (Nat.ble 74 pc) (cond (Nat.ble 75 pc) ((99, 0, 0, 0, 0)) ((34, 75, 0, 0, 0))) ((99, 0, 0, 0, 0))) (cond (Nat.ble 72 pc) ((0, 74, 0, 0, (-4))) ((99, 0, 0, 0, 0)))) (cond (Nat.ble 68 pc) (cond (Nat.ble 69 pc) (cond (Nat.ble 70 pc) ((99, 0, 0, 0, 0)) ((19, 72, 0, 74, 0))) ((99, 0, 0, 0, 0))) (cond (Nat.ble 67 pc) ((99, 0, 0, 0, 0)) ((28, 69, 1, 2, 1))))) (cond (Nat.ble 61 pc) (cond (Nat.ble 63 pc) (cond (Nat.ble 64 pc) (cond (Nat.ble 65 pc) ((1, 66, 2, 0, 0)) ((99, 0, 0, 0, 0))) ((99, 0, 0, 0, 0))) (cond (Nat.ble 62 pc) ((20, 65, 5, 6, 0)) ((2, 62, 0, 0, 0)))) (cond (Nat.ble 59 pc) ((99, 0, 0, 0, 0)) (cond (Nat.ble 58 pc) ((16, 61, 0, 72, 0)) ((99, 0, 0, 0, 0)))))) (cond (Nat.ble 47 pc) (cond (Nat.ble 52 pc) (cond (Nat.ble 54 pc) (cond (Nat.ble 55 pc) (cond (Nat.ble 56 pc) ((99, 0, 0, 0, 0)) ((28, 58, 51, 5, 0))) ((99, 0, 0, 0, 0))) (cond (Nat.ble 53 pc) ((99, 0, 0, 0, 0)) ((20, 55, 5, 6, 0)))) (cond (Nat.ble 49 pc) (cond (Nat.ble 50 pc) (cond (Nat.ble 51 pc) ((2, 52, 0, 0, 0)) ((0, 51, 0, 0, 0))) ((1, 50, 1, 0, 0))) ((99, 0, 0, 0, 0)))) (cond (Nat.ble 42 pc) (cond (Nat.ble 44 pc) (cond (Nat.ble 45 pc) (cond (Nat.ble 46 pc) ((20, 49, 5, 5, 0)) ((2, 46, 0, 0, 0))) ((99, 0, 0, 0, 0))) (cond (Nat.ble 43 pc) ((99, 0, 0, 0, 0)) ((20, 45, 3, 1, 1)))) (cond (Nat.ble 40 pc) ((99, 0, 0, 0, 0)) (cond (Nat.ble 39 pc) ((20, 42, 5, 0, 0)) ((2, 39, 0, 0, 0))))))) (cond (Nat.ble 19 pc) (cond (Nat.ble 28 pc) (cond (Nat.ble 33 pc) (cond (Nat.ble 35 pc) (cond (Nat.ble 36 pc) ((99, 0, 0, 0, 0)) ((21, 38, 0, 1, 1))) (cond (Nat.ble 34 pc) ((0, 35, 0, 0, 0)) ((99, 0, 0, 0, 0)))) (cond (Nat.ble 30 pc) (cond (Nat.ble 31 pc) (cond (Nat.ble 32 pc) ((99, 0, 0, 0, 0)) ((20, 34, 5, 6, 0))) ((2, 31, 0, 0, 0))) ((99, 0, 0, 0, 0)))) (cond (Nat.ble 23 pc) (cond (Nat.ble 25 pc) (cond (Nat.ble 26 pc) (cond (Nat.ble 27 pc) ((21, 30, 0, 1, 1)) ((0, 27, 0, 0, 0))) ((99, 0, 0, 0, 0))) (cond (Nat.ble 24 pc) ((99, 0, 0, 0, 0)) ((20, 26, 5, 5, 0)))) (cond (Nat.ble 21 pc) (cond (Nat.ble 22 pc) ((2, 23, 0, 0, 0)) ((34, 22, 0, 0, 0))) (cond (Nat.ble 20 pc) ((0, 21, 0, 0, (-1))) ((99, 0, 0, 0, 0)))))) (cond (Nat.ble 9 pc) (cond (Nat.ble 14 pc) (cond (Nat.ble 16 pc) (cond (Nat.ble 17 pc) (cond (Nat.ble 18 pc) ((99, 0, 0, 0, 0)) ((17, 20, 2, 22, 0))) ((1, 17, 1, 0, 0))) (cond (Nat.ble 15 pc) ((1, 16, 2, 0, 0)) ((99, 0, 0, 0, 0)))) (cond (Nat.ble 11 pc) (cond (Nat.ble 12 pc) (cond (Nat.ble 13 pc) ((99, 0, 0, 0, 0)) ((16, 15, 2, 20, 0))) ((1, 12, 2, 0, 0))) ((99, 0, 0, 0, 0)))) (cond (Nat.ble 4 pc) (cond (Nat.ble 6 pc) (cond (Nat.ble 7 pc) (cond (Nat.ble 8 pc) ((17, 11, 4, 20, 0)) ((99, 0, 0, 0, 0))) ((0, 8, 0, 0, 8))) (cond (Nat.ble 5 pc) ((1, 6, 1, 0, 0)) ((99, 0, 0, 0, 0)))) (cond (Nat.ble 2 pc) (cond (Nat.ble 3 pc) ((99, 0, 0, 0, 0)) ((17, 5, 2, 20, 0))) (cond (Nat.ble 1 pc) ((0, 2, 0, 0, 1)) ((1, 1, 1, 0, 0)))))))
def zc_X5_findRing : Nat → zE := fun pc => cond (Nat.ble 51 pc) (cond (Nat.ble 77 pc) (cond (Nat.ble 90 pc) (cond (Nat.ble 96 pc) (cond (Nat.ble 99 pc) (cond (Nat.ble 101 pc) (cond (Nat.ble 102 pc) ((99, 0, 0, 0, 0)) ((35, 102, 0, 0, 0))) (cond (Nat.ble 100 pc) ((99, 0, 0, 0, 0)) ((1, 101, 5, 0, 0)))) (cond (Nat.ble 97 pc) ((99, 0, 0, 0, 0)) ((19, 99, 0, 38, 0)))) (cond (Nat.ble 93 pc) (cond (Nat.ble 94 pc) ((99, 0, 0, 0, 0)) ((7, 96, 7, 0, 1))) (cond (Nat.ble 91 pc) ((99, 0, 0, 0, 0)) ((28, 93, 4, 2, 1))))) (cond (Nat.ble 83 pc) (cond (Nat.ble 86 pc) (cond (Nat.ble 88 pc) (cond (Nat.ble 89 pc) ((0, 90, 0, 0, 1)) ((2, 89, 1, 0, 0))) (cond (Nat.ble 87 pc) ((99, 0, 0, 0, 0)) ((4, 88, 5, 0, 0)))) (cond (Nat.ble 84 pc) (cond (Nat.ble 85 pc) ((0, 86, 0, 0, 0)) ((99, 0, 0, 0, 0))) ((99, 0, 0, 0, 0)))) (cond (Nat.ble 80 pc) (cond (Nat.ble 81 pc) (cond (Nat.ble 82 pc) ((19, 85, 0, 86, 0)) ((0, 82, 0, 0, 1))) ((99, 0, 0, 0, 0))) (cond (Nat.ble 78 pc) (cond (Nat.ble 79 pc) ((99, 0, 0, 0, 0)) ((16, 81, 0, 85, 0))) ((99, 0, 0, 0, 0)))))) (cond (Nat.ble 64 pc) (cond (Nat.ble 70 pc) (cond (Nat.ble 73 pc) (cond (Nat.ble 75 pc) (cond (Nat.ble 76 pc) ((99, 0, 0, 0, 0)) ((28, 78, 51, 5, 0))) (cond (Nat.ble 74 pc) ((99, 0, 0, 0, 0)) ((2, 75, 4, 0, 0)))) (cond (Nat.ble 71 pc) ((99, 0, 0, 0, 0)) ((48, 73, 0, 0, 0)))) (cond (Nat.ble 67 pc) (cond (Nat.ble 68 pc) (cond (Nat.ble 69 pc) ((8, 70, 0, 0, 0)) ((0, 69, 0, 0, 1))) ((99, 0, 0, 0, 0))) (cond (Nat.ble 65 pc) (cond (Nat.ble 66 pc) ((1, 68, 7, 0, 0)) ((1, 66, 3, 0, 0))) ((8, 65, 1, 0, 0))))) (cond (Nat.ble 57 pc) (cond (Nat.ble 60 pc) (cond (Nat.ble 62 pc) (cond (Nat.ble 63 pc) ((0, 64, 0, 0, 1)) ((1, 63, 2, 0, 0))) (cond (Nat.ble 61 pc) ((2, 62, 1, 0, 0)) ((2, 61, 0, 0, 0)))) (cond (Nat.ble 58 pc) ((99, 0, 0, 0, 0)) ((16, 60, 0, 85, 0)))) (cond (Nat.ble 54 pc) (cond (Nat.ble 55 pc) ((99, 0, 0, 0, 0)) ((28, 57, 15, 3, 1))) (cond (Nat.ble 52 pc) (cond (Nat.ble 53 pc) ((99, 0, 0, 0, 0)) ((1, 54, 7, 0, 0))) ((2, 52, 1, 0, 0))))))) (cond (Nat.ble 25 pc) (cond (Nat.ble 38 pc) (cond (Nat.ble 44 pc) (cond (Nat.ble 47 pc) (cond (Nat.ble 49 pc) (cond (Nat.ble 50 pc) ((2, 51, 0, 0, 0)) ((99, 0, 0, 0, 0))) (cond (Nat.ble 48 pc) ((99, 0, 0, 0, 0)) ((16, 50, 1, 99, 0)))) (cond (Nat.ble 45 pc) (cond (Nat.ble 46 pc) ((99, 0, 0, 0, 0)) ((1, 47, 5, 0, 0))) ((99, 0, 0, 0, 0)))) (cond (Nat.ble 41 pc) (cond (Nat.ble 42 pc) (cond (Nat.ble 43 pc) ((99, 0, 0, 0, 0)) ((17, 45, 3, 99, 0))) ((99, 0, 0, 0, 0))) (cond (Nat.ble 39 pc) (cond (Nat.ble 40 pc) ((1, 42, 6, 0, 0)) ((99, 0, 0, 0, 0))) ((1, 40, 7, 0, 0))))) (cond (Nat.ble 31 pc) (cond (Nat.ble 34 pc) (cond (Nat.ble 36 pc) (cond (Nat.ble 37 pc) ((99, 0, 0, 0, 0)) ((4, 38, 7, 0, 0))) (cond (Nat.ble 35 pc) ((0, 36, 0, 0, 0)) ((99, 0, 0, 0, 0)))) (cond (Nat.ble 32 pc) (cond (Nat.ble 33 pc) ((4, 35, 6, 0, 0)) ((99, 0, 0, 0, 0))) ((99, 0, 0, 0, 0)))) (cond (Nat.ble 28 pc) (cond (Nat.ble 29 pc) (cond (Nat.ble 30 pc) ((49, 33, 0, 0, 0)) ((99, 0, 0, 0, 0))) ((99, 0, 0, 0, 0))) (cond (Nat.ble 26 pc) (cond (Nat.ble 27 pc) ((20, 30, 1, 0, 1)) ((2, 27, 0, 0, 0))) ((8, 26, 0, 0, 0)))))) (cond (Nat.ble 12 pc) (cond (Nat.ble 18 pc) (cond (Nat.ble 21 pc) (cond (Nat.ble 23 pc) (cond (Nat.ble 24 pc) ((0, 25, 0, 0, 1)) ((1, 24, 3, 0, 0))) (cond (Nat.ble 22 pc) ((99, 0, 0, 0, 0)) ((4, 23, 5, 0, 0)))) (cond (Nat.ble 19 pc) (cond (Nat.ble 20 pc) ((0, 21, 0, 0, 0)) ((35, 20, 0, 0, 0))) ((99, 0, 0, 0, 0)))) (cond (Nat.ble 15 pc) (cond (Nat.ble 16 pc) (cond (Nat.ble 17 pc) ((99, 0, 0, 0, 0)) ((28, 19, 16, 2, 1))) ((2, 16, 1, 0, 0))) (cond (Nat.ble 13 pc) (cond (Nat.ble 14 pc) ((2, 15, 0, 0, 0)) ((99, 0, 0, 0, 0))) ((99, 0, 0, 0, 0))))) (cond (Nat.ble 6 pc) (cond (Nat.ble 9 pc) (cond (Nat.ble 10 pc) (cond (Nat.ble 11 pc) ((28, 14, 6, 3, 1)) ((99, 0, 0, 0, 0))) ((99, 0, 0, 0, 0))) (cond (Nat.ble 7 pc) (cond (Nat.ble 8 pc) ((20, 11, 0, 1, 1)) ((2, 8, 1, 0, 0))) ((2, 7, 1, 0, 0)))) (cond (Nat.ble 3 pc) (cond (Nat.ble 4 pc) (cond (Nat.ble 5 pc) ((99, 0, 0, 0, 0)) ((2, 6, 4, 0, 0))) ((99, 0, 0, 0, 0))) (cond (Nat.ble 1 pc) (cond (Nat.ble 2 pc) ((99, 0, 0, 0, 0)) ((16, 4, 4, 20, 0))) ((1, 1, 2, 0, 0)))))))
def zc_X5_cheap : Nat → zE := fun pc => cond (Nat.ble 48 pc) (cond (Nat.ble 72 pc) (cond (Nat.ble 84 pc) (cond (Nat.ble 90 pc) (cond (Nat.ble 93 pc) (cond (Nat.ble 95 pc) (cond (Nat.ble 96 pc) ((99, 0, 0, 0, 0)) ((34, 96, 0, 0, 0))) ((99, 0, 0, 0, 0))) (cond (Nat.ble 91 pc) (cond (Nat.ble 92 pc) ((28, 95, 1, 2, 1)) ((1, 92, 2, 0, 0))) ((99, 0, 0, 0, 0)))) (cond (Nat.ble 87 pc) (cond (Nat.ble 88 pc) (cond (Nat.ble 89 pc) ((99, 0, 0, 0, 0)) ((20, 91, 5, 6, 0))) ((2, 88, 0, 0, 0))) (cond (Nat.ble 85 pc) ((99, 0, 0, 0, 0)) ((19, 87, 0, 95, 0))))) (cond (Nat.ble 78 pc) (cond (Nat.ble 81 pc) (cond (Nat.ble 82 pc) (cond (Nat.ble 83 pc) ((99, 0, 0, 0, 0)) ((1, 84, 4, 0, 0))) ((99, 0, 0, 0, 0))) (cond (Nat.ble 79 pc) (cond (Nat.ble 80 pc) ((99, 0, 0, 0, 0)) ((16, 82, 3, 87, 0))) ((1, 79, 2, 0, 0)))) (cond (Nat.ble 75 pc) (cond (Nat.ble 76 pc) (cond (Nat.ble 77 pc) ((34, 78, 0, 0, 0)) ((99, 0, 0, 0, 0))) ((0, 77, 0, 0, (-4)))) (cond (Nat.ble 73 pc) ((99, 0, 0, 0, 0)) ((17, 75, 1, 78, 0)))))) (cond (Nat.ble 60 pc) (cond (Nat.ble 66 pc) (cond (Nat.ble 69 pc) (cond (Nat.ble 70 pc) (cond (Nat.ble 71 pc) ((1, 72, 3, 0, 0)) ((99, 0, 0, 0, 0))) ((1, 71, 4, 0, 0))) (cond (Nat.ble 67 pc) (cond (Nat.ble 68 pc) ((99, 0, 0, 0, 0)) ((4, 69, 4, 0, 0))) ((99, 0, 0, 0, 0)))) (cond (Nat.ble 63 pc) (cond (Nat.ble 64 pc) (cond (Nat.ble 65 pc) ((99, 0, 0, 0, 0)) ((28, 67, 53, 6, 0))) ((99, 0, 0, 0, 0))) (cond (Nat.ble 61 pc) (cond (Nat.ble 62 pc) ((99, 0, 0, 0, 0)) ((20, 64, 5, 6, 0))) ((2, 61, 0, 0, 0))))) (cond (Nat.ble 54 pc) (cond (Nat.ble 57 pc) (cond (Nat.ble 58 pc) (cond (Nat.ble 59 pc) ((1, 60, 3, 0, 0)) ((0, 59, 0, 0, 0))) ((1, 58, 1, 0, 0))) (cond (Nat.ble 55 pc) ((99, 0, 0, 0, 0)) ((20, 57, 5, 5, 0)))) (cond (Nat.ble 51 pc) (cond (Nat.ble 52 pc) (cond (Nat.ble 53 pc) ((2, 54, 0, 0, 0)) ((99, 0, 0, 0, 0))) ((99, 0, 0, 0, 0))) (cond (Nat.ble 49 pc) (cond (Nat.ble 50 pc) ((20, 53, 3, 1, 1)) ((99, 0, 0, 0, 0))) ((99, 0, 0, 0, 0))))))) (cond (Nat.ble 24 pc) (cond (Nat.ble 36 pc) (cond (Nat.ble 42 pc) (cond (Nat.ble 45 pc) (cond (Nat.ble 46 pc) (cond (Nat.ble 47 pc) ((20, 50, 5, 0, 0)) ((2, 47, 0, 0, 0))) ((4, 46, 3, 0, 0))) (cond (Nat.ble 43 pc) (cond (Nat.ble 44 pc) ((8, 45, 0, 0, 0)) ((0, 44, 0, 0, 1))) ((8, 43, 2, 0, 0)))) (cond (Nat.ble 39 pc) (cond (Nat.ble 40 pc) (cond (Nat.ble 41 pc) ((1, 42, 1, 0, 0)) ((99, 0, 0, 0, 0))) ((0, 41, 0, 0, 99))) (cond (Nat.ble 37 pc) ((99, 0, 0, 0, 0)) ((21, 39, 0, 1, 1))))) (cond (Nat.ble 30 pc) (cond (Nat.ble 33 pc) (cond (Nat.ble 34 pc) (cond (Nat.ble 35 pc) ((0, 36, 0, 0, 0)) ((99, 0, 0, 0, 0))) ((99, 0, 0, 0, 0))) (cond (Nat.ble 31 pc) (cond (Nat.ble 32 pc) ((20, 35, 5, 6, 0)) ((2, 32, 0, 0, 0))) ((99, 0, 0, 0, 0)))) (cond (Nat.ble 27 pc) (cond (Nat.ble 28 pc) (cond (Nat.ble 29 pc) ((99, 0, 0, 0, 0)) ((21, 31, 0, 1, 1))) ((0, 28, 0, 0, 0))) (cond (Nat.ble 25 pc) ((99, 0, 0, 0, 0)) ((20, 27, 5, 5, 0)))))) (cond (Nat.ble 12 pc) (cond (Nat.ble 18 pc) (cond (Nat.ble 21 pc) (cond (Nat.ble 22 pc) (cond (Nat.ble 23 pc) ((2, 24, 0, 0, 0)) ((34, 23, 0, 0, 0))) ((0, 22, 0, 0, (-1)))) (cond (Nat.ble 19 pc) ((99, 0, 0, 0, 0)) ((17, 21, 2, 23, 0)))) (cond (Nat.ble 15 pc) (cond (Nat.ble 16 pc) (cond (Nat.ble 17 pc) ((1, 18, 1, 0, 0)) ((1, 17, 2, 0, 0))) ((99, 0, 0, 0, 0))) (cond (Nat.ble 13 pc) (cond (Nat.ble 14 pc) ((99, 0, 0, 0, 0)) ((17, 16, 2, 21, 0))) ((0, 13, 0, 0, (-1)))))) (cond (Nat.ble 6 pc) (cond (Nat.ble 9 pc) (cond (Nat.ble 10 pc) (cond (Nat.ble 11 pc) ((1, 12, 2, 0, 0)) ((99, 0, 0, 0, 0))) ((99, 0, 0, 0, 0))) (cond (Nat.ble 7 pc) (cond (Nat.ble 8 pc) ((17, 11, 4, 21, 0)) ((99, 0, 0, 0, 0))) ((0, 8, 0, 0, 8)))) (cond (Nat.ble 3 pc) (cond (Nat.ble 4 pc) (cond (Nat.ble 5 pc) ((1, 6, 1, 0, 0)) ((99, 0, 0, 0, 0))) ((99, 0, 0, 0, 0))) (cond (Nat.ble 1 pc) (cond (Nat.ble 2 pc) ((17, 5, 2, 21, 0)) ((0, 2, 0, 0, 1))) ((1, 1, 1, 0, 0)))))))
def zc_X5_cheapest : Nat → zE := fun pc => cond (Nat.ble 47 pc) (cond (Nat.ble 71 pc) (cond (Nat.ble 83 pc) (cond (Nat.ble 89 pc) (cond (Nat.ble 92 pc) (cond (Nat.ble 93 pc) (cond (Nat.ble 94 pc) ((99, 0, 0, 0, 0)) ((34, 94, 0, 0, 0))) ((99, 0, 0, 0, 0))) (cond (Nat.ble 90 pc) (cond (Nat.ble 91 pc) ((1, 93, 6, 0, 0)) ((99, 0, 0, 0, 0))) ((99, 0, 0, 0, 0)))) (cond (Nat.ble 86 pc) (cond (Nat.ble 87 pc) (cond (Nat.ble 88 pc) ((19, 91, 0, 39, 0)) ((99, 0, 0, 0, 0))) ((99, 0, 0, 0, 0))) (cond (Nat.ble 84 pc) (cond (Nat.ble 85 pc) ((7, 88, 7, 0, 1)) ((99, 0, 0, 0, 0))) ((99, 0, 0, 0, 0))))) (cond (Nat.ble 77 pc) (cond (Nat.ble 80 pc) (cond (Nat.ble 81 pc) (cond (Nat.ble 82 pc) ((28, 85, 4, 2, 1)) ((0, 82, 0, 0, 1))) ((2, 81, 1, 0, 0))) (cond (Nat.ble 78 pc) (cond (Nat.ble 79 pc) ((99, 0, 0, 0, 0)) ((4, 80, 6, 0, 0))) ((99, 0, 0, 0, 0)))) (cond (Nat.ble 74 pc) (cond (Nat.ble 75 pc) (cond (Nat.ble 76 pc) ((99, 0, 0, 0, 0)) ((28, 78, 53, 6, 0))) ((99, 0, 0, 0, 0))) (cond (Nat.ble 72 pc) (cond (Nat.ble 73 pc) ((2, 75, 5, 0, 0)) ((99, 0, 0, 0, 0))) ((1, 73, 6, 0, 0)))))) (cond (Nat.ble 59 pc) (cond (Nat.ble 65 pc) (cond (Nat.ble 68 pc) (cond (Nat.ble 69 pc) (cond (Nat.ble 70 pc) ((8, 71, 0, 0, 0)) ((99, 0, 0, 0, 0))) ((99, 0, 0, 0, 0))) (cond (Nat.ble 66 pc) (cond (Nat.ble 67 pc) ((28, 70, 9, 2, 1)) ((99, 0, 0, 0, 0))) ((1, 67, 7, 0, 0)))) (cond (Nat.ble 62 pc) (cond (Nat.ble 63 pc) (cond (Nat.ble 64 pc) ((2, 65, 0, 0, 0)) ((1, 64, 3, 0, 0))) ((8, 63, 1, 0, 0))) (cond (Nat.ble 60 pc) (cond (Nat.ble 61 pc) ((0, 62, 0, 0, 1)) ((1, 61, 2, 0, 0))) ((2, 60, 1, 0, 0))))) (cond (Nat.ble 53 pc) (cond (Nat.ble 56 pc) (cond (Nat.ble 57 pc) (cond (Nat.ble 58 pc) ((2, 59, 0, 0, 0)) ((99, 0, 0, 0, 0))) ((99, 0, 0, 0, 0))) (cond (Nat.ble 54 pc) (cond (Nat.ble 55 pc) ((16, 58, 0, 80, 0)) ((99, 0, 0, 0, 0))) ((99, 0, 0, 0, 0)))) (cond (Nat.ble 50 pc) (cond (Nat.ble 51 pc) (cond (Nat.ble 52 pc) ((28, 55, 15, 3, 1)) ((99, 0, 0, 0, 0))) ((1, 52, 7, 0, 0))) (cond (Nat.ble 48 pc) (cond (Nat.ble 49 pc) ((2, 50, 1, 0, 0)) ((2, 49, 0, 0, 0))) ((99, 0, 0, 0, 0))))))) (cond (Nat.ble 23 pc) (cond (Nat.ble 35 pc) (cond (Nat.ble 41 pc) (cond (Nat.ble 44 pc) (cond (Nat.ble 45 pc) (cond (Nat.ble 46 pc) ((99, 0, 0, 0, 0)) ((17, 48, 3, 91, 0))) ((99, 0, 0, 0, 0))) (cond (Nat.ble 42 pc) (cond (Nat.ble 43 pc) ((99, 0, 0, 0, 0)) ((20, 45, 1, 0, 1))) ((2, 42, 0, 0, 0)))) (cond (Nat.ble 38 pc) (cond (Nat.ble 39 pc) (cond (Nat.ble 40 pc) ((99, 0, 0, 0, 0)) ((1, 41, 7, 0, 0))) ((99, 0, 0, 0, 0))) (cond (Nat.ble 36 pc) (cond (Nat.ble 37 pc) ((4, 39, 7, 0, 0)) ((0, 37, 0, 0, 0))) ((99, 0, 0, 0, 0))))) (cond (Nat.ble 29 pc) (cond (Nat.ble 32 pc) (cond (Nat.ble 33 pc) (cond (Nat.ble 34 pc) ((4, 36, 6, 0, 0)) ((99, 0, 0, 0, 0))) ((1, 34, 4, 0, 0))) (cond (Nat.ble 30 pc) (cond (Nat.ble 31 pc) ((34, 32, 0, 0, 0)) ((1, 31, 3, 0, 0))) ((99, 0, 0, 0, 0)))) (cond (Nat.ble 26 pc) (cond (Nat.ble 27 pc) (cond (Nat.ble 28 pc) ((99, 0, 0, 0, 0)) ((28, 30, 6, 3, 1))) ((99, 0, 0, 0, 0))) (cond (Nat.ble 24 pc) (cond (Nat.ble 25 pc) ((99, 0, 0, 0, 0)) ((20, 27, 0, 1, 1))) ((2, 24, 1, 0, 0)))))) (cond (Nat.ble 11 pc) (cond (Nat.ble 17 pc) (cond (Nat.ble 20 pc) (cond (Nat.ble 21 pc) (cond (Nat.ble 22 pc) ((2, 23, 1, 0, 0)) ((99, 0, 0, 0, 0))) ((2, 22, 5, 0, 0))) (cond (Nat.ble 18 pc) ((99, 0, 0, 0, 0)) ((16, 20, 4, 32, 0)))) (cond (Nat.ble 14 pc) (cond (Nat.ble 15 pc) (cond (Nat.ble 16 pc) ((1, 17, 2, 0, 0)) ((34, 16, 0, 0, 0))) ((99, 0, 0, 0, 0))) (cond (Nat.ble 12 pc) (cond (Nat.ble 13 pc) ((1, 15, 4, 0, 0)) ((99, 0, 0, 0, 0))) ((99, 0, 0, 0, 0))))) (cond (Nat.ble 5 pc) (cond (Nat.ble 8 pc) (cond (Nat.ble 9 pc) (cond (Nat.ble 10 pc) ((17, 13, 2, 16, 0)) ((99, 0, 0, 0, 0))) ((1, 10, 4, 0, 0))) (cond (Nat.ble 6 pc) (cond (Nat.ble 7 pc) ((8, 8, 0, 0, 0)) ((8, 7, 2, 0, 0))) ((99, 0, 0, 0, 0)))) (cond (Nat.ble 2 pc) (cond (Nat.ble 3 pc) (cond (Nat.ble 4 pc) ((99, 0, 0, 0, 0)) ((28, 6, 11, 1, 1))) ((2, 3, 0, 0, 0))) (cond (Nat.ble 1 pc) ((1, 2, 2, 0, 0)) ((1, 1, 3, 0, 0)))))))
def zc_X5_wins : Nat → zE := fun pc => cond (Nat.ble 52 pc) (cond (Nat.ble 78 pc) (cond (Nat.ble 91 pc) (cond (Nat.ble 97 pc) (cond (Nat.ble 100 pc) (cond (Nat.ble 102 pc) (cond (Nat.ble 103 pc) ((99, 0, 0, 0, 0)) ((34, 103, 0, 0, 0))) (cond (Nat.ble 101 pc) ((0, 102, 0, 0, 2)) ((99, 0, 0, 0, 0)))) (cond (Nat.ble 98 pc) (cond (Nat.ble 99 pc) ((99, 0, 0, 0, 0)) ((19, 101, 0, 102, 0))) ((0, 98, 0, 0, 0)))) (cond (Nat.ble 94 pc) (cond (Nat.ble 95 pc) ((99, 0, 0, 0, 0)) ((16, 97, 0, 101, 0))) (cond (Nat.ble 92 pc) ((99, 0, 0, 0, 0)) ((28, 94, 56, 3, 0))))) (cond (Nat.ble 84 pc) (cond (Nat.ble 87 pc) (cond (Nat.ble 89 pc) (cond (Nat.ble 90 pc) ((1, 91, 1, 0, 0)) ((99, 0, 0, 0, 0))) (cond (Nat.ble 88 pc) ((99, 0, 0, 0, 0)) ((20, 90, 5, 5, 0)))) (cond (Nat.ble 85 pc) (cond (Nat.ble 86 pc) ((2, 87, 0, 0, 0)) ((99, 0, 0, 0, 0))) ((99, 0, 0, 0, 0)))) (cond (Nat.ble 81 pc) (cond (Nat.ble 82 pc) (cond (Nat.ble 83 pc) ((20, 86, 3, 1, 1)) ((99, 0, 0, 0, 0))) ((99, 0, 0, 0, 0))) (cond (Nat.ble 79 pc) (cond (Nat.ble 80 pc) ((20, 83, 5, 0, 0)) ((2, 80, 0, 0, 0))) ((34, 79, 0, 0, 0)))))) (cond (Nat.ble 65 pc) (cond (Nat.ble 71 pc) (cond (Nat.ble 74 pc) (cond (Nat.ble 76 pc) (cond (Nat.ble 77 pc) ((0, 78, 0, 0, 1)) ((99, 0, 0, 0, 0))) (cond (Nat.ble 75 pc) ((99, 0, 0, 0, 0)) ((16, 77, 0, 79, 0)))) (cond (Nat.ble 72 pc) ((99, 0, 0, 0, 0)) ((28, 74, 55, 3, 0)))) (cond (Nat.ble 68 pc) (cond (Nat.ble 69 pc) (cond (Nat.ble 70 pc) ((1, 71, 1, 0, 0)) ((99, 0, 0, 0, 0))) ((99, 0, 0, 0, 0))) (cond (Nat.ble 66 pc) (cond (Nat.ble 67 pc) ((20, 70, 5, 5, 0)) ((2, 67, 0, 0, 0))) ((99, 0, 0, 0, 0))))) (cond (Nat.ble 58 pc) (cond (Nat.ble 61 pc) (cond (Nat.ble 63 pc) (cond (Nat.ble 64 pc) ((99, 0, 0, 0, 0)) ((20, 66, 3, 1, 1))) ((99, 0, 0, 0, 0))) (cond (Nat.ble 59 pc) (cond (Nat.ble 60 pc) ((20, 63, 5, 0, 0)) ((2, 60, 0, 0, 0))) ((99, 0, 0, 0, 0)))) (cond (Nat.ble 55 pc) (cond (Nat.ble 56 pc) (cond (Nat.ble 57 pc) ((99, 0, 0, 0, 0)) ((28, 59, 6, 3, 1))) ((99, 0, 0, 0, 0))) (cond (Nat.ble 53 pc) (cond (Nat.ble 54 pc) ((99, 0, 0, 0, 0)) ((20, 56, 0, 1, 1))) ((99, 0, 0, 0, 0))))))) (cond (Nat.ble 26 pc) (cond (Nat.ble 39 pc) (cond (Nat.ble 45 pc) (cond (Nat.ble 48 pc) (cond (Nat.ble 50 pc) (cond (Nat.ble 51 pc) ((99, 0, 0, 0, 0)) ((20, 53, 3, 0, 1))) ((99, 0, 0, 0, 0))) (cond (Nat.ble 46 pc) (cond (Nat.ble 47 pc) ((20, 50, 5, 0, 0)) ((2, 47, 0, 0, 0))) ((99, 0, 0, 0, 0)))) (cond (Nat.ble 42 pc) (cond (Nat.ble 43 pc) (cond (Nat.ble 44 pc) ((99, 0, 0, 0, 0)) ((20, 46, 3, 0, 1))) ((99, 0, 0, 0, 0))) (cond (Nat.ble 40 pc) (cond (Nat.ble 41 pc) ((99, 0, 0, 0, 0)) ((20, 43, 5, 0, 0))) ((2, 40, 0, 0, 0))))) (cond (Nat.ble 32 pc) (cond (Nat.ble 35 pc) (cond (Nat.ble 37 pc) ((99, 0, 0, 0, 0)) (cond (Nat.ble 36 pc) ((20, 39, 5, 5, 0)) ((2, 36, 0, 0, 0)))) (cond (Nat.ble 33 pc) (cond (Nat.ble 34 pc) ((34, 35, 0, 0, 0)) ((99, 0, 0, 0, 0))) ((0, 34, 0, 0, (-2))))) (cond (Nat.ble 29 pc) (cond (Nat.ble 30 pc) ((99, 0, 0, 0, 0)) ((16, 32, 0, 35, 0))) (cond (Nat.ble 27 pc) ((99, 0, 0, 0, 0)) ((28, 29, 13, 2, 1)))))) (cond (Nat.ble 13 pc) (cond (Nat.ble 19 pc) (cond (Nat.ble 22 pc) (cond (Nat.ble 24 pc) ((99, 0, 0, 0, 0)) (cond (Nat.ble 23 pc) ((20, 26, 3, 0, 1)) ((99, 0, 0, 0, 0)))) (cond (Nat.ble 20 pc) (cond (Nat.ble 21 pc) ((99, 0, 0, 0, 0)) ((20, 23, 5, 0, 0))) ((2, 20, 0, 0, 0)))) (cond (Nat.ble 16 pc) (cond (Nat.ble 17 pc) ((99, 0, 0, 0, 0)) ((20, 19, 3, 1, 1))) (cond (Nat.ble 14 pc) ((99, 0, 0, 0, 0)) ((20, 16, 5, 0, 0))))) (cond (Nat.ble 6 pc) (cond (Nat.ble 9 pc) (cond (Nat.ble 11 pc) (cond (Nat.ble 12 pc) ((2, 13, 0, 0, 0)) ((34, 12, 0, 0, 0))) (cond (Nat.ble 10 pc) ((0, 11, 0, 0, (-1))) ((99, 0, 0, 0, 0)))) (cond (Nat.ble 7 pc) (cond (Nat.ble 8 pc) ((99, 0, 0, 0, 0)) ((17, 10, 5, 12, 0))) ((99, 0, 0, 0, 0)))) (cond (Nat.ble 3 pc) (cond (Nat.ble 4 pc) (cond (Nat.ble 5 pc) ((0, 7, 0, 0, 8)) ((1, 5, 1, 0, 0))) ((99, 0, 0, 0, 0))) (cond (Nat.ble 1 pc) (cond (Nat.ble 2 pc) ((99, 0, 0, 0, 0)) ((16, 4, 2, 10, 0))) ((1, 1, 1, 0, 0)))))))
def zc_X5_canWin : Nat → zE := fun pc => cond (Nat.ble 32 pc) (cond (Nat.ble 48 pc) (cond (Nat.ble 56 pc) (cond (Nat.ble 60 pc) (cond (Nat.ble 62 pc) (cond (Nat.ble 63 pc) (cond (Nat.ble 64 pc) ((99, 0, 0, 0, 0)) ((35, 64, 0, 0, 0))) ((1, 63, 3, 0, 0))) ((99, 0, 0, 0, 0))) (cond (Nat.ble 58 pc) (cond (Nat.ble 59 pc) ((19, 62, 0, 11, 0)) ((99, 0, 0, 0, 0))) (cond (Nat.ble 57 pc) ((99, 0, 0, 0, 0)) ((7, 59, 4, 0, 1))))) (cond (Nat.ble 52 pc) (cond (Nat.ble 54 pc) ((99, 0, 0, 0, 0)) (cond (Nat.ble 53 pc) ((28, 56, 4, 2, 1)) ((0, 53, 0, 0, 1)))) (cond (Nat.ble 50 pc) (cond (Nat.ble 51 pc) ((2, 52, 1, 0, 0)) ((4, 51, 3, 0, 0))) (cond (Nat.ble 49 pc) ((0, 50, 0, 0, 0)) ((99, 0, 0, 0, 0)))))) (cond (Nat.ble 40 pc) (cond (Nat.ble 44 pc) (cond (Nat.ble 46 pc) (cond (Nat.ble 47 pc) ((99, 0, 0, 0, 0)) ((19, 49, 0, 50, 0))) (cond (Nat.ble 45 pc) ((0, 46, 0, 0, 1)) ((99, 0, 0, 0, 0)))) (cond (Nat.ble 42 pc) (cond (Nat.ble 43 pc) ((99, 0, 0, 0, 0)) ((16, 45, 0, 49, 0))) ((99, 0, 0, 0, 0)))) (cond (Nat.ble 36 pc) (cond (Nat.ble 38 pc) (cond (Nat.ble 39 pc) ((28, 42, 56, 3, 0)) ((8, 39, 1, 0, 0))) (cond (Nat.ble 37 pc) ((0, 38, 0, 0, 1)) ((1, 37, 2, 0, 0)))) (cond (Nat.ble 34 pc) (cond (Nat.ble 35 pc) ((2, 36, 1, 0, 0)) ((2, 35, 0, 0, 0))) ((99, 0, 0, 0, 0)))))) (cond (Nat.ble 16 pc) (cond (Nat.ble 24 pc) (cond (Nat.ble 28 pc) (cond (Nat.ble 30 pc) (cond (Nat.ble 31 pc) ((16, 34, 0, 49, 0)) ((99, 0, 0, 0, 0))) (cond (Nat.ble 29 pc) ((99, 0, 0, 0, 0)) ((28, 31, 15, 3, 1)))) (cond (Nat.ble 26 pc) (cond (Nat.ble 27 pc) ((99, 0, 0, 0, 0)) ((1, 28, 4, 0, 0))) (cond (Nat.ble 25 pc) ((2, 26, 1, 0, 0)) ((2, 25, 0, 0, 0))))) (cond (Nat.ble 20 pc) (cond (Nat.ble 22 pc) ((99, 0, 0, 0, 0)) (cond (Nat.ble 21 pc) ((16, 24, 1, 62, 0)) ((1, 21, 3, 0, 0)))) (cond (Nat.ble 18 pc) ((99, 0, 0, 0, 0)) (cond (Nat.ble 17 pc) ((17, 20, 3, 62, 0)) ((99, 0, 0, 0, 0)))))) (cond (Nat.ble 8 pc) (cond (Nat.ble 12 pc) (cond (Nat.ble 14 pc) (cond (Nat.ble 15 pc) ((99, 0, 0, 0, 0)) ((20, 17, 1, 0, 1))) (cond (Nat.ble 13 pc) ((2, 14, 0, 0, 0)) ((99, 0, 0, 0, 0)))) (cond (Nat.ble 10 pc) (cond (Nat.ble 11 pc) ((1, 13, 4, 0, 0)) ((99, 0, 0, 0, 0))) (cond (Nat.ble 9 pc) ((4, 11, 4, 0, 0)) ((0, 9, 0, 0, 0))))) (cond (Nat.ble 4 pc) (cond (Nat.ble 6 pc) (cond (Nat.ble 7 pc) ((4, 8, 3, 0, 0)) ((0, 7, 0, 0, 0))) (cond (Nat.ble 5 pc) ((35, 6, 0, 0, 0)) ((0, 5, 0, 0, 0)))) (cond (Nat.ble 2 pc) ((99, 0, 0, 0, 0)) (cond (Nat.ble 1 pc) ((16, 4, 4, 6, 0)) ((1, 1, 2, 0, 0)))))))
def zc_X5_isLost : Nat → zE := fun pc => cond (Nat.ble 32 pc) (cond (Nat.ble 48 pc) (cond (Nat.ble 56 pc) (cond (Nat.ble 60 pc) (cond (Nat.ble 62 pc) (cond (Nat.ble 63 pc) (cond (Nat.ble 64 pc) ((99, 0, 0, 0, 0)) ((35, 64, 0, 0, 0))) ((1, 63, 3, 0, 0))) ((99, 0, 0, 0, 0))) (cond (Nat.ble 58 pc) (cond (Nat.ble 59 pc) ((19, 62, 0, 11, 0)) ((99, 0, 0, 0, 0))) (cond (Nat.ble 57 pc) ((99, 0, 0, 0, 0)) ((7, 59, 4, 0, 1))))) (cond (Nat.ble 52 pc) (cond (Nat.ble 54 pc) ((99, 0, 0, 0, 0)) (cond (Nat.ble 53 pc) ((28, 56, 4, 2, 1)) ((0, 53, 0, 0, 1)))) (cond (Nat.ble 50 pc) (cond (Nat.ble 51 pc) ((2, 52, 1, 0, 0)) ((4, 51, 3, 0, 0))) (cond (Nat.ble 49 pc) ((0, 50, 0, 0, 0)) ((99, 0, 0, 0, 0)))))) (cond (Nat.ble 40 pc) (cond (Nat.ble 44 pc) (cond (Nat.ble 46 pc) (cond (Nat.ble 47 pc) ((99, 0, 0, 0, 0)) ((19, 49, 0, 50, 0))) (cond (Nat.ble 45 pc) ((0, 46, 0, 0, 1)) ((99, 0, 0, 0, 0)))) (cond (Nat.ble 42 pc) (cond (Nat.ble 43 pc) ((99, 0, 0, 0, 0)) ((16, 45, 0, 49, 0))) ((99, 0, 0, 0, 0)))) (cond (Nat.ble 36 pc) (cond (Nat.ble 38 pc) (cond (Nat.ble 39 pc) ((28, 42, 55, 3, 0)) ((8, 39, 1, 0, 0))) (cond (Nat.ble 37 pc) ((0, 38, 0, 0, 1)) ((1, 37, 2, 0, 0)))) (cond (Nat.ble 34 pc) (cond (Nat.ble 35 pc) ((2, 36, 1, 0, 0)) ((2, 35, 0, 0, 0))) ((99, 0, 0, 0, 0)))))) (cond (Nat.ble 16 pc) (cond (Nat.ble 24 pc) (cond (Nat.ble 28 pc) (cond (Nat.ble 30 pc) (cond (Nat.ble 31 pc) ((16, 34, 0, 45, 0)) ((99, 0, 0, 0, 0))) (cond (Nat.ble 29 pc) ((99, 0, 0, 0, 0)) ((28, 31, 15, 3, 1)))) (cond (Nat.ble 26 pc) (cond (Nat.ble 27 pc) ((99, 0, 0, 0, 0)) ((1, 28, 4, 0, 0))) (cond (Nat.ble 25 pc) ((2, 26, 1, 0, 0)) ((2, 25, 0, 0, 0))))) (cond (Nat.ble 20 pc) (cond (Nat.ble 22 pc) ((99, 0, 0, 0, 0)) (cond (Nat.ble 21 pc) ((16, 24, 0, 62, 0)) ((1, 21, 3, 0, 0)))) (cond (Nat.ble 18 pc) ((99, 0, 0, 0, 0)) (cond (Nat.ble 17 pc) ((17, 20, 3, 62, 0)) ((99, 0, 0, 0, 0)))))) (cond (Nat.ble 8 pc) (cond (Nat.ble 12 pc) (cond (Nat.ble 14 pc) (cond (Nat.ble 15 pc) ((99, 0, 0, 0, 0)) ((20, 17, 1, 0, 1))) (cond (Nat.ble 13 pc) ((2, 14, 0, 0, 0)) ((99, 0, 0, 0, 0)))) (cond (Nat.ble 10 pc) (cond (Nat.ble 11 pc) ((1, 13, 4, 0, 0)) ((99, 0, 0, 0, 0))) (cond (Nat.ble 9 pc) ((4, 11, 4, 0, 0)) ((0, 9, 0, 0, 0))))) (cond (Nat.ble 4 pc) (cond (Nat.ble 6 pc) (cond (Nat.ble 7 pc) ((4, 8, 3, 0, 0)) ((0, 7, 0, 0, 1))) (cond (Nat.ble 5 pc) ((35, 6, 0, 0, 0)) ((0, 5, 0, 0, 0)))) (cond (Nat.ble 2 pc) ((99, 0, 0, 0, 0)) (cond (Nat.ble 1 pc) ((16, 4, 3, 6, 0)) ((1, 1, 2, 0, 0)))))))
def zc_X5_tear : Nat → zE := fun pc => cond (Nat.ble 27 pc) (cond (Nat.ble 40 pc) (cond (Nat.ble 47 pc) (cond (Nat.ble 50 pc) (cond (Nat.ble 52 pc) (cond (Nat.ble 53 pc) ((99, 0, 0, 0, 0)) ((34, 53, 0, 0, 0))) (cond (Nat.ble 51 pc) ((0, 52, 0, 0, 0)) ((99, 0, 0, 0, 0)))) (cond (Nat.ble 48 pc) (cond (Nat.ble 49 pc) ((99, 0, 0, 0, 0)) ((19, 51, 0, 52, 0))) ((0, 48, 0, 0, 1)))) (cond (Nat.ble 43 pc) (cond (Nat.ble 45 pc) ((99, 0, 0, 0, 0)) (cond (Nat.ble 44 pc) ((16, 47, 1, 51, 0)) ((99, 0, 0, 0, 0)))) (cond (Nat.ble 41 pc) (cond (Nat.ble 42 pc) ((99, 0, 0, 0, 0)) ((28, 44, 13, 2, 1))) ((99, 0, 0, 0, 0))))) (cond (Nat.ble 33 pc) (cond (Nat.ble 36 pc) (cond (Nat.ble 38 pc) (cond (Nat.ble 39 pc) ((99, 0, 0, 0, 0)) ((20, 41, 3, 0, 1))) ((99, 0, 0, 0, 0))) (cond (Nat.ble 34 pc) (cond (Nat.ble 35 pc) ((20, 38, 5, 0, 0)) ((2, 35, 0, 0, 0))) ((99, 0, 0, 0, 0)))) (cond (Nat.ble 30 pc) (cond (Nat.ble 31 pc) (cond (Nat.ble 32 pc) ((99, 0, 0, 0, 0)) ((20, 34, 3, 1, 1))) ((99, 0, 0, 0, 0))) (cond (Nat.ble 28 pc) (cond (Nat.ble 29 pc) ((99, 0, 0, 0, 0)) ((20, 31, 5, 0, 0))) ((2, 28, 0, 0, 0)))))) (cond (Nat.ble 13 pc) (cond (Nat.ble 20 pc) (cond (Nat.ble 23 pc) (cond (Nat.ble 25 pc) ((99, 0, 0, 0, 0)) (cond (Nat.ble 24 pc) ((28, 27, 5, 2, 1)) ((1, 24, 1, 0, 0)))) (cond (Nat.ble 21 pc) ((99, 0, 0, 0, 0)) ((20, 23, 3, 0, 1)))) (cond (Nat.ble 16 pc) (cond (Nat.ble 18 pc) ((99, 0, 0, 0, 0)) (cond (Nat.ble 17 pc) ((20, 20, 5, 0, 0)) ((2, 17, 0, 0, 0)))) (cond (Nat.ble 14 pc) (cond (Nat.ble 15 pc) ((34, 16, 0, 0, 0)) ((0, 15, 0, 0, (-1)))) ((99, 0, 0, 0, 0))))) (cond (Nat.ble 6 pc) (cond (Nat.ble 9 pc) (cond (Nat.ble 11 pc) (cond (Nat.ble 12 pc) ((99, 0, 0, 0, 0)) ((16, 14, 1, 16, 0))) ((99, 0, 0, 0, 0))) (cond (Nat.ble 7 pc) (cond (Nat.ble 8 pc) ((28, 11, 0, 2, 1)) ((1, 8, 1, 0, 0))) ((99, 0, 0, 0, 0)))) (cond (Nat.ble 3 pc) (cond (Nat.ble 4 pc) (cond (Nat.ble 5 pc) ((99, 0, 0, 0, 0)) ((20, 7, 3, 0, 1))) ((99, 0, 0, 0, 0))) (cond (Nat.ble 1 pc) (cond (Nat.ble 2 pc) ((99, 0, 0, 0, 0)) ((20, 4, 5, 0, 0))) ((2, 1, 0, 0, 0))))))
def zc_X5_mends : Nat → zE := fun pc => cond (Nat.ble 49 pc) (cond (Nat.ble 74 pc) (cond (Nat.ble 86 pc) (cond (Nat.ble 92 pc) (cond (Nat.ble 95 pc) (cond (Nat.ble 97 pc) (cond (Nat.ble 98 pc) ((99, 0, 0, 0, 0)) ((34, 98, 0, 0, 0))) (cond (Nat.ble 96 pc) ((1, 97, 2, 0, 0)) ((99, 0, 0, 0, 0)))) (cond (Nat.ble 93 pc) (cond (Nat.ble 94 pc) ((99, 0, 0, 0, 0)) ((19, 96, 0, 44, 0))) ((99, 0, 0, 0, 0)))) (cond (Nat.ble 89 pc) (cond (Nat.ble 90 pc) (cond (Nat.ble 91 pc) ((99, 0, 0, 0, 0)) ((7, 93, 3, 0, 1))) ((4, 90, 2, 0, 0))) (cond (Nat.ble 87 pc) (cond (Nat.ble 88 pc) ((8, 89, 4, 0, 0)) ((8, 88, 5, 0, 0))) ((1, 87, 3, 0, 0))))) (cond (Nat.ble 80 pc) (cond (Nat.ble 83 pc) (cond (Nat.ble 84 pc) (cond (Nat.ble 85 pc) ((0, 86, 0, 0, 1)) ((1, 85, 2, 0, 0))) ((99, 0, 0, 0, 0))) (cond (Nat.ble 81 pc) (cond (Nat.ble 82 pc) ((99, 0, 0, 0, 0)) ((16, 84, 1, 90, 0))) ((99, 0, 0, 0, 0)))) (cond (Nat.ble 77 pc) (cond (Nat.ble 78 pc) (cond (Nat.ble 79 pc) ((99, 0, 0, 0, 0)) ((28, 81, 13, 2, 1))) ((99, 0, 0, 0, 0))) (cond (Nat.ble 75 pc) (cond (Nat.ble 76 pc) ((99, 0, 0, 0, 0)) ((20, 78, 5, 5, 0))) ((2, 75, 0, 0, 0)))))) (cond (Nat.ble 61 pc) (cond (Nat.ble 67 pc) (cond (Nat.ble 70 pc) (cond (Nat.ble 72 pc) ((99, 0, 0, 0, 0)) (cond (Nat.ble 71 pc) ((20, 74, 3, 1, 1)) ((99, 0, 0, 0, 0)))) (cond (Nat.ble 68 pc) (cond (Nat.ble 69 pc) ((99, 0, 0, 0, 0)) ((20, 71, 5, 0, 0))) ((2, 68, 0, 0, 0)))) (cond (Nat.ble 64 pc) (cond (Nat.ble 65 pc) ((99, 0, 0, 0, 0)) ((28, 67, 2, 3, 1))) (cond (Nat.ble 62 pc) (cond (Nat.ble 63 pc) ((1, 64, 3, 0, 0)) ((1, 63, 1, 0, 0))) ((99, 0, 0, 0, 0))))) (cond (Nat.ble 55 pc) (cond (Nat.ble 58 pc) (cond (Nat.ble 59 pc) (cond (Nat.ble 60 pc) ((99, 0, 0, 0, 0)) ((20, 62, 5, 5, 0))) ((2, 59, 0, 0, 0))) (cond (Nat.ble 56 pc) ((99, 0, 0, 0, 0)) ((17, 58, 3, 96, 0)))) (cond (Nat.ble 52 pc) (cond (Nat.ble 53 pc) ((99, 0, 0, 0, 0)) ((20, 55, 1, 0, 1))) (cond (Nat.ble 50 pc) ((99, 0, 0, 0, 0)) ((20, 52, 3, 1, 1))))))) (cond (Nat.ble 24 pc) (cond (Nat.ble 36 pc) (cond (Nat.ble 42 pc) (cond (Nat.ble 45 pc) (cond (Nat.ble 47 pc) ((99, 0, 0, 0, 0)) (cond (Nat.ble 46 pc) ((20, 49, 5, 0, 0)) ((2, 46, 0, 0, 0)))) (cond (Nat.ble 43 pc) (cond (Nat.ble 44 pc) ((1, 45, 3, 0, 0)) ((4, 44, 3, 0, 0))) ((0, 43, 0, 0, 0)))) (cond (Nat.ble 39 pc) (cond (Nat.ble 40 pc) (cond (Nat.ble 41 pc) ((4, 42, 2, 0, 0)) ((0, 41, 0, 0, 0))) ((99, 0, 0, 0, 0))) (cond (Nat.ble 37 pc) (cond (Nat.ble 38 pc) ((99, 0, 0, 0, 0)) ((28, 40, 6, 3, 1))) ((99, 0, 0, 0, 0))))) (cond (Nat.ble 30 pc) (cond (Nat.ble 33 pc) (cond (Nat.ble 34 pc) (cond (Nat.ble 35 pc) ((99, 0, 0, 0, 0)) ((20, 37, 0, 1, 1))) ((99, 0, 0, 0, 0))) (cond (Nat.ble 31 pc) (cond (Nat.ble 32 pc) ((99, 0, 0, 0, 0)) ((20, 34, 3, 0, 1))) ((99, 0, 0, 0, 0)))) (cond (Nat.ble 27 pc) (cond (Nat.ble 28 pc) (cond (Nat.ble 29 pc) ((99, 0, 0, 0, 0)) ((20, 31, 5, 0, 0))) ((2, 28, 0, 0, 0))) (cond (Nat.ble 25 pc) ((99, 0, 0, 0, 0)) ((20, 27, 3, 0, 1)))))) (cond (Nat.ble 12 pc) (cond (Nat.ble 18 pc) (cond (Nat.ble 21 pc) (cond (Nat.ble 22 pc) ((99, 0, 0, 0, 0)) ((20, 24, 5, 0, 0))) (cond (Nat.ble 19 pc) (cond (Nat.ble 20 pc) ((2, 21, 0, 0, 0)) ((99, 0, 0, 0, 0))) ((99, 0, 0, 0, 0)))) (cond (Nat.ble 15 pc) (cond (Nat.ble 16 pc) (cond (Nat.ble 17 pc) ((20, 20, 5, 5, 0)) ((2, 17, 0, 0, 0))) ((34, 16, 0, 0, 0))) (cond (Nat.ble 13 pc) (cond (Nat.ble 14 pc) ((0, 15, 0, 0, (-1))) ((99, 0, 0, 0, 0))) ((99, 0, 0, 0, 0))))) (cond (Nat.ble 6 pc) (cond (Nat.ble 9 pc) (cond (Nat.ble 10 pc) (cond (Nat.ble 11 pc) ((16, 14, 1, 16, 0)) ((99, 0, 0, 0, 0))) ((99, 0, 0, 0, 0))) (cond (Nat.ble 7 pc) (cond (Nat.ble 8 pc) ((28, 11, 0, 2, 1)) ((1, 8, 1, 0, 0))) ((99, 0, 0, 0, 0)))) (cond (Nat.ble 3 pc) (cond (Nat.ble 4 pc) (cond (Nat.ble 5 pc) ((99, 0, 0, 0, 0)) ((20, 7, 3, 0, 1))) ((99, 0, 0, 0, 0))) (cond (Nat.ble 1 pc) (cond (Nat.ble 2 pc) ((99, 0, 0, 0, 0)) ((20, 4, 5, 0, 0))) ((2, 1, 0, 0, 0)))))))
def zc_X5_replace : Nat → zE := fun pc => cond (Nat.ble 28 pc) (cond (Nat.ble 42 pc) (cond (Nat.ble 49 pc) (cond (Nat.ble 53 pc) (cond (Nat.ble 55 pc) (cond (Nat.ble 56 pc) ((99, 0, 0, 0, 0)) ((34, 56, 0, 0, 0))) (cond (Nat.ble 54 pc) ((1, 55, 3, 0, 0)) ((99, 0, 0, 0, 0)))) (cond (Nat.ble 51 pc) (cond (Nat.ble 52 pc) ((99, 0, 0, 0, 0)) ((28, 54, 2, 3, 1))) (cond (Nat.ble 50 pc) ((1, 51, 2, 0, 0)) ((1, 50, 1, 0, 0))))) (cond (Nat.ble 45 pc) (cond (Nat.ble 47 pc) ((99, 0, 0, 0, 0)) (cond (Nat.ble 46 pc) ((20, 49, 3, 0, 1)) ((99, 0, 0, 0, 0)))) (cond (Nat.ble 43 pc) (cond (Nat.ble 44 pc) ((99, 0, 0, 0, 0)) ((20, 46, 5, 0, 0))) ((2, 43, 0, 0, 0))))) (cond (Nat.ble 35 pc) (cond (Nat.ble 38 pc) (cond (Nat.ble 40 pc) (cond (Nat.ble 41 pc) ((4, 42, 3, 0, 0)) ((99, 0, 0, 0, 0))) (cond (Nat.ble 39 pc) ((99, 0, 0, 0, 0)) ((28, 41, 1, 2, 1)))) (cond (Nat.ble 36 pc) (cond (Nat.ble 37 pc) ((1, 38, 1, 0, 0)) ((99, 0, 0, 0, 0))) ((99, 0, 0, 0, 0)))) (cond (Nat.ble 31 pc) (cond (Nat.ble 33 pc) (cond (Nat.ble 34 pc) ((20, 37, 3, 0, 1)) ((99, 0, 0, 0, 0))) (cond (Nat.ble 32 pc) ((99, 0, 0, 0, 0)) ((20, 34, 5, 0, 0)))) (cond (Nat.ble 29 pc) (cond (Nat.ble 30 pc) ((2, 31, 0, 0, 0)) ((34, 30, 0, 0, 0))) ((0, 29, 0, 0, (-1))))))) (cond (Nat.ble 14 pc) (cond (Nat.ble 21 pc) (cond (Nat.ble 24 pc) (cond (Nat.ble 26 pc) ((99, 0, 0, 0, 0)) (cond (Nat.ble 25 pc) ((16, 28, 1, 30, 0)) ((99, 0, 0, 0, 0)))) (cond (Nat.ble 22 pc) (cond (Nat.ble 23 pc) ((99, 0, 0, 0, 0)) ((28, 25, 8, 2, 1))) ((1, 22, 2, 0, 0)))) (cond (Nat.ble 17 pc) (cond (Nat.ble 19 pc) ((99, 0, 0, 0, 0)) (cond (Nat.ble 18 pc) ((20, 21, 3, 1, 1)) ((99, 0, 0, 0, 0)))) (cond (Nat.ble 15 pc) (cond (Nat.ble 16 pc) ((99, 0, 0, 0, 0)) ((20, 18, 5, 0, 0))) ((2, 15, 0, 0, 0))))) (cond (Nat.ble 7 pc) (cond (Nat.ble 10 pc) (cond (Nat.ble 12 pc) ((99, 0, 0, 0, 0)) (cond (Nat.ble 11 pc) ((16, 14, 0, 28, 0)) ((99, 0, 0, 0, 0)))) (cond (Nat.ble 8 pc) (cond (Nat.ble 9 pc) ((99, 0, 0, 0, 0)) ((28, 11, 0, 2, 1))) ((1, 8, 1, 0, 0)))) (cond (Nat.ble 3 pc) (cond (Nat.ble 5 pc) ((99, 0, 0, 0, 0)) (cond (Nat.ble 4 pc) ((20, 7, 3, 0, 1)) ((99, 0, 0, 0, 0)))) (cond (Nat.ble 1 pc) (cond (Nat.ble 2 pc) ((99, 0, 0, 0, 0)) ((20, 4, 5, 0, 0))) ((2, 1, 0, 0, 0))))))
def zc_X5_lots : Nat → zE := fun pc => cond (Nat.ble 65 pc) (cond (Nat.ble 98 pc) (cond (Nat.ble 114 pc) (cond (Nat.ble 122 pc) (cond (Nat.ble 126 pc) (cond (Nat.ble 128 pc) (cond (Nat.ble 129 pc) (cond (Nat.ble 130 pc) ((99, 0, 0, 0, 0)) ((34, 130, 0, 0, 0))) ((1, 129, 2, 0, 0))) ((99, 0, 0, 0, 0))) (cond (Nat.ble 124 pc) (cond (Nat.ble 125 pc) ((19, 128, 0, 50, 0)) ((4, 125, 3, 0, 0))) ((99, 0, 0, 0, 0)))) (cond (Nat.ble 118 pc) (cond (Nat.ble 120 pc) (cond (Nat.ble 121 pc) ((28, 124, 40, 2, 0)) ((99, 0, 0, 0, 0))) (cond (Nat.ble 119 pc) ((99, 0, 0, 0, 0)) ((20, 121, 0, 1, 1)))) (cond (Nat.ble 116 pc) ((99, 0, 0, 0, 0)) (cond (Nat.ble 115 pc) ((20, 118, 3, 0, 1)) ((99, 0, 0, 0, 0)))))) (cond (Nat.ble 106 pc) (cond (Nat.ble 110 pc) (cond (Nat.ble 112 pc) (cond (Nat.ble 113 pc) ((99, 0, 0, 0, 0)) ((20, 115, 5, 0, 0))) (cond (Nat.ble 111 pc) ((2, 112, 0, 0, 0)) ((2, 111, 0, 0, 0)))) (cond (Nat.ble 108 pc) ((99, 0, 0, 0, 0)) (cond (Nat.ble 107 pc) ((7, 110, 2, 0, 1)) ((99, 0, 0, 0, 0))))) (cond (Nat.ble 102 pc) (cond (Nat.ble 104 pc) (cond (Nat.ble 105 pc) ((99, 0, 0, 0, 0)) ((28, 107, 3, 2, 1))) ((99, 0, 0, 0, 0))) (cond (Nat.ble 100 pc) (cond (Nat.ble 101 pc) ((28, 104, 61, 2, 0)) ((9, 101, 0, 0, 0))) (cond (Nat.ble 99 pc) ((99, 0, 0, 0, 0)) ((0, 100, 189, 0, 65536))))))) (cond (Nat.ble 81 pc) (cond (Nat.ble 89 pc) (cond (Nat.ble 93 pc) (cond (Nat.ble 95 pc) (cond (Nat.ble 96 pc) ((99, 0, 0, 0, 0)) ((20, 98, 3, 2, 1))) ((99, 0, 0, 0, 0))) (cond (Nat.ble 91 pc) (cond (Nat.ble 92 pc) ((20, 95, 5, 0, 0)) ((2, 92, 0, 0, 0))) (cond (Nat.ble 90 pc) ((1, 91, 3, 0, 0)) ((99, 0, 0, 0, 0))))) (cond (Nat.ble 85 pc) (cond (Nat.ble 87 pc) (cond (Nat.ble 88 pc) ((99, 0, 0, 0, 0)) ((20, 90, 3, 0, 1))) ((99, 0, 0, 0, 0))) (cond (Nat.ble 83 pc) (cond (Nat.ble 84 pc) ((20, 87, 5, 0, 0)) ((2, 84, 0, 0, 0))) ((99, 0, 0, 0, 0))))) (cond (Nat.ble 73 pc) (cond (Nat.ble 77 pc) (cond (Nat.ble 79 pc) (cond (Nat.ble 80 pc) ((21, 83, 3, 2, 1)) ((8, 80, 3, 0, 0))) (cond (Nat.ble 78 pc) ((99, 0, 0, 0, 0)) ((0, 79, 188, 0, 2147483647)))) (cond (Nat.ble 75 pc) (cond (Nat.ble 76 pc) ((8, 77, 0, 0, 0)) ((99, 0, 0, 0, 0))) (cond (Nat.ble 74 pc) ((99, 0, 0, 0, 0)) ((0, 76, 0, 0, 12345))))) (cond (Nat.ble 69 pc) (cond (Nat.ble 71 pc) (cond (Nat.ble 72 pc) ((8, 73, 2, 0, 0)) ((99, 0, 0, 0, 0))) (cond (Nat.ble 70 pc) ((0, 72, 187, 0, 1103515245)) ((99, 0, 0, 0, 0)))) (cond (Nat.ble 67 pc) (cond (Nat.ble 68 pc) ((99, 0, 0, 0, 0)) ((20, 70, 3, 2, 1))) ((99, 0, 0, 0, 0))))))) (cond (Nat.ble 32 pc) (cond (Nat.ble 48 pc) (cond (Nat.ble 56 pc) (cond (Nat.ble 60 pc) (cond (Nat.ble 62 pc) (cond (Nat.ble 63 pc) (cond (Nat.ble 64 pc) ((20, 67, 5, 0, 0)) ((2, 64, 0, 0, 0))) ((99, 0, 0, 0, 0))) (cond (Nat.ble 61 pc) ((99, 0, 0, 0, 0)) ((20, 63, 5, 0, 0)))) (cond (Nat.ble 58 pc) (cond (Nat.ble 59 pc) ((2, 60, 0, 0, 0)) ((99, 0, 0, 0, 0))) (cond (Nat.ble 57 pc) ((99, 0, 0, 0, 0)) ((16, 59, 0, 128, 0))))) (cond (Nat.ble 52 pc) (cond (Nat.ble 54 pc) (cond (Nat.ble 55 pc) ((1, 56, 3, 0, 0)) ((99, 0, 0, 0, 0))) (cond (Nat.ble 53 pc) ((99, 0, 0, 0, 0)) ((17, 55, 3, 128, 0)))) (cond (Nat.ble 50 pc) (cond (Nat.ble 51 pc) ((1, 52, 1, 0, 0)) ((1, 51, 2, 0, 0))) (cond (Nat.ble 49 pc) ((4, 50, 3, 0, 0)) ((99, 0, 0, 0, 0)))))) (cond (Nat.ble 40 pc) (cond (Nat.ble 44 pc) (cond (Nat.ble 46 pc) (cond (Nat.ble 47 pc) ((99, 0, 0, 0, 0)) ((28, 49, 40, 2, 0))) ((99, 0, 0, 0, 0))) (cond (Nat.ble 42 pc) (cond (Nat.ble 43 pc) ((20, 46, 0, 1, 1)) ((99, 0, 0, 0, 0))) (cond (Nat.ble 41 pc) ((99, 0, 0, 0, 0)) ((20, 43, 3, 0, 1))))) (cond (Nat.ble 36 pc) (cond (Nat.ble 38 pc) ((99, 0, 0, 0, 0)) (cond (Nat.ble 37 pc) ((20, 40, 5, 0, 0)) ((2, 37, 0, 0, 0)))) (cond (Nat.ble 34 pc) (cond (Nat.ble 35 pc) ((2, 36, 0, 0, 0)) ((4, 35, 2, 0, 0))) (cond (Nat.ble 33 pc) ((0, 34, 0, 0, 0)) ((34, 33, 0, 0, 0))))))) (cond (Nat.ble 16 pc) (cond (Nat.ble 24 pc) (cond (Nat.ble 28 pc) (cond (Nat.ble 30 pc) (cond (Nat.ble 31 pc) ((99, 0, 0, 0, 0)) ((0, 32, 0, 0, (-3)))) ((99, 0, 0, 0, 0))) (cond (Nat.ble 26 pc) (cond (Nat.ble 27 pc) ((17, 30, 5, 33, 0)) ((8, 27, 1, 0, 0))) (cond (Nat.ble 25 pc) ((1, 26, 1, 0, 0)) ((99, 0, 0, 0, 0))))) (cond (Nat.ble 20 pc) (cond (Nat.ble 22 pc) (cond (Nat.ble 23 pc) ((0, 25, 0, 0, 48)) ((99, 0, 0, 0, 0))) (cond (Nat.ble 21 pc) ((99, 0, 0, 0, 0)) ((20, 23, 0, 1, 1)))) (cond (Nat.ble 18 pc) ((99, 0, 0, 0, 0)) (cond (Nat.ble 17 pc) ((20, 20, 3, 0, 1)) ((99, 0, 0, 0, 0)))))) (cond (Nat.ble 8 pc) (cond (Nat.ble 12 pc) (cond (Nat.ble 14 pc) (cond (Nat.ble 15 pc) ((99, 0, 0, 0, 0)) ((20, 17, 5, 0, 0))) (cond (Nat.ble 13 pc) ((2, 14, 0, 0, 0)) ((34, 13, 0, 0, 0)))) (cond (Nat.ble 10 pc) (cond (Nat.ble 11 pc) ((0, 12, 0, 0, (-1))) ((99, 0, 0, 0, 0))) (cond (Nat.ble 9 pc) ((99, 0, 0, 0, 0)) ((17, 11, 5, 13, 0))))) (cond (Nat.ble 4 pc) (cond (Nat.ble 6 pc) (cond (Nat.ble 7 pc) ((99, 0, 0, 0, 0)) ((0, 8, 0, 0, 48))) (cond (Nat.ble 5 pc) ((1, 6, 1, 0, 0)) ((99, 0, 0, 0, 0)))) (cond (Nat.ble 2 pc) (cond (Nat.ble 3 pc) ((99, 0, 0, 0, 0)) ((17, 5, 2, 11, 0))) (cond (Nat.ble 1 pc) ((0, 2, 0, 0, 1)) ((1, 1, 1, 0, 0))))))))
def zc_X5_drawn : Nat → zE := fun pc => cond (Nat.ble 27 pc) (cond (Nat.ble 40 pc) (cond (Nat.ble 47 pc) (cond (Nat.ble 50 pc) (cond (Nat.ble 52 pc) (cond (Nat.ble 53 pc) ((99, 0, 0, 0, 0)) ((34, 53, 0, 0, 0))) (cond (Nat.ble 51 pc) ((0, 52, 0, 0, 0)) ((99, 0, 0, 0, 0)))) (cond (Nat.ble 48 pc) (cond (Nat.ble 49 pc) ((99, 0, 0, 0, 0)) ((19, 51, 0, 20, 0))) ((99, 0, 0, 0, 0)))) (cond (Nat.ble 43 pc) (cond (Nat.ble 45 pc) (cond (Nat.ble 46 pc) ((99, 0, 0, 0, 0)) ((7, 48, 4, 0, 1))) ((99, 0, 0, 0, 0))) (cond (Nat.ble 41 pc) (cond (Nat.ble 42 pc) ((7, 45, 3, 0, (-1))) ((34, 42, 0, 0, 0))) ((99, 0, 0, 0, 0))))) (cond (Nat.ble 33 pc) (cond (Nat.ble 36 pc) (cond (Nat.ble 38 pc) (cond (Nat.ble 39 pc) ((1, 41, 4, 0, 0)) ((99, 0, 0, 0, 0))) (cond (Nat.ble 37 pc) ((99, 0, 0, 0, 0)) ((16, 39, 1, 42, 0)))) (cond (Nat.ble 34 pc) (cond (Nat.ble 35 pc) ((1, 36, 3, 0, 0)) ((99, 0, 0, 0, 0))) ((99, 0, 0, 0, 0)))) (cond (Nat.ble 30 pc) (cond (Nat.ble 31 pc) (cond (Nat.ble 32 pc) ((16, 35, 0, 45, 0)) ((8, 32, 3, 0, 0))) ((0, 31, 0, 0, 1))) (cond (Nat.ble 28 pc) (cond (Nat.ble 29 pc) ((8, 30, 6, 0, 0)) ((99, 0, 0, 0, 0))) ((1, 29, 4, 0, 0)))))) (cond (Nat.ble 13 pc) (cond (Nat.ble 20 pc) (cond (Nat.ble 23 pc) (cond (Nat.ble 25 pc) (cond (Nat.ble 26 pc) ((1, 27, 0, 0, 0)) ((99, 0, 0, 0, 0))) (cond (Nat.ble 24 pc) ((99, 0, 0, 0, 0)) ((17, 26, 3, 51, 0)))) (cond (Nat.ble 21 pc) (cond (Nat.ble 22 pc) ((0, 23, 0, 0, 4)) ((99, 0, 0, 0, 0))) ((1, 22, 4, 0, 0)))) (cond (Nat.ble 16 pc) (cond (Nat.ble 18 pc) (cond (Nat.ble 19 pc) ((99, 0, 0, 0, 0)) ((4, 20, 4, 0, 0))) (cond (Nat.ble 17 pc) ((0, 18, 0, 0, 0)) ((4, 17, 3, 0, 0)))) (cond (Nat.ble 14 pc) (cond (Nat.ble 15 pc) ((10, 16, 0, 0, 0)) ((1, 15, 2, 0, 0))) ((1, 14, 1, 0, 0))))) (cond (Nat.ble 6 pc) (cond (Nat.ble 9 pc) (cond (Nat.ble 11 pc) ((99, 0, 0, 0, 0)) (cond (Nat.ble 10 pc) ((19, 13, 0, 16, 0)) ((0, 10, 0, 0, 0)))) (cond (Nat.ble 7 pc) ((99, 0, 0, 0, 0)) ((16, 9, 1, 13, 0)))) (cond (Nat.ble 3 pc) (cond (Nat.ble 4 pc) (cond (Nat.ble 5 pc) ((1, 6, 2, 0, 0)) ((4, 5, 2, 0, 0))) ((99, 0, 0, 0, 0))) (cond (Nat.ble 1 pc) (cond (Nat.ble 2 pc) ((99, 0, 0, 0, 0)) ((28, 4, 137, 1, 0))) ((1, 1, 0, 0, 0))))))
def zc_X5_seed : Nat → zE := fun pc => cond (Nat.ble 12 pc) (cond (Nat.ble 18 pc) (cond (Nat.ble 21 pc) (cond (Nat.ble 23 pc) (cond (Nat.ble 24 pc) ((99, 0, 0, 0, 0)) ((34, 24, 0, 0, 0))) (cond (Nat.ble 22 pc) ((1, 23, 2, 0, 0)) ((99, 0, 0, 0, 0)))) (cond (Nat.ble 19 pc) (cond (Nat.ble 20 pc) ((99, 0, 0, 0, 0)) ((21, 22, 3, 2, 1))) ((1, 19, 1, 0, 0)))) (cond (Nat.ble 15 pc) (cond (Nat.ble 16 pc) ((99, 0, 0, 0, 0)) ((20, 18, 5, 0, 0))) (cond (Nat.ble 13 pc) (cond (Nat.ble 14 pc) ((2, 15, 0, 0, 0)) ((4, 14, 2, 0, 0))) ((99, 0, 0, 0, 0))))) (cond (Nat.ble 6 pc) (cond (Nat.ble 9 pc) (cond (Nat.ble 10 pc) (cond (Nat.ble 11 pc) ((99, 0, 0, 0, 0)) ((20, 13, 3, 2, 1))) ((99, 0, 0, 0, 0))) (cond (Nat.ble 7 pc) (cond (Nat.ble 8 pc) ((99, 0, 0, 0, 0)) ((20, 10, 5, 0, 0))) ((2, 7, 0, 0, 0)))) (cond (Nat.ble 3 pc) (cond (Nat.ble 4 pc) (cond (Nat.ble 5 pc) ((34, 6, 0, 0, 0)) ((0, 5, 0, 0, (-1)))) ((99, 0, 0, 0, 0))) (cond (Nat.ble 1 pc) (cond (Nat.ble 2 pc) ((99, 0, 0, 0, 0)) ((16, 4, 3, 6, 0))) ((1, 1, 1, 0, 0)))))
def zc_X5_image : Nat → zE := fun pc => cond (Nat.ble 9 pc) (cond (Nat.ble 14 pc) (cond (Nat.ble 16 pc) (cond (Nat.ble 17 pc) (cond (Nat.ble 18 pc) ((99, 0, 0, 0, 0)) ((34, 18, 0, 0, 0))) ((0, 17, 0, 0, 1))) ((99, 0, 0, 0, 0))) (cond (Nat.ble 11 pc) (cond (Nat.ble 12 pc) (cond (Nat.ble 13 pc) ((22, 16, 5, 2, 0)) ((0, 13, 0, 0, 1))) ((2, 12, 0, 0, 0))) ((99, 0, 0, 0, 0)))) (cond (Nat.ble 4 pc) (cond (Nat.ble 6 pc) (cond (Nat.ble 7 pc) (cond (Nat.ble 8 pc) ((28, 11, 24, 2, 1)) ((99, 0, 0, 0, 0))) ((99, 0, 0, 0, 0))) (cond (Nat.ble 5 pc) ((20, 8, 5, 0, 0)) ((2, 5, 0, 0, 0)))) (cond (Nat.ble 2 pc) ((99, 0, 0, 0, 0)) (cond (Nat.ble 1 pc) ((20, 4, 5, 1, 0)) ((2, 1, 0, 0, 0)))))
def zc_X5_restore : Nat → zE := fun pc => cond (Nat.ble 12 pc) (cond (Nat.ble 18 pc) (cond (Nat.ble 21 pc) (cond (Nat.ble 22 pc) (cond (Nat.ble 23 pc) ((99, 0, 0, 0, 0)) ((34, 23, 0, 0, 0))) ((0, 22, 0, 0, 1))) (cond (Nat.ble 19 pc) ((99, 0, 0, 0, 0)) ((28, 21, 24, 2, 1)))) (cond (Nat.ble 15 pc) (cond (Nat.ble 16 pc) ((99, 0, 0, 0, 0)) ((20, 18, 5, 1, 0))) (cond (Nat.ble 13 pc) (cond (Nat.ble 14 pc) ((2, 15, 0, 0, 0)) ((99, 0, 0, 0, 0))) ((99, 0, 0, 0, 0))))) (cond (Nat.ble 6 pc) (cond (Nat.ble 9 pc) (cond (Nat.ble 10 pc) (cond (Nat.ble 11 pc) ((20, 14, 5, 0, 0)) ((2, 11, 0, 0, 0))) ((34, 10, 0, 0, 0))) (cond (Nat.ble 7 pc) (cond (Nat.ble 8 pc) ((99, 0, 0, 0, 0)) ((0, 9, 0, 0, (-4)))) ((99, 0, 0, 0, 0)))) (cond (Nat.ble 3 pc) (cond (Nat.ble 4 pc) (cond (Nat.ble 5 pc) ((99, 0, 0, 0, 0)) ((16, 7, 1, 10, 0))) ((99, 0, 0, 0, 0))) (cond (Nat.ble 1 pc) (cond (Nat.ble 2 pc) ((99, 0, 0, 0, 0)) ((20, 4, 5, 2, 0))) ((2, 1, 0, 0, 0)))))
def zc_X5_storm : Nat → zE := fun pc => cond (Nat.ble 97 pc) (cond (Nat.ble 145 pc) (cond (Nat.ble 169 pc) (cond (Nat.ble 181 pc) (cond (Nat.ble 187 pc) (cond (Nat.ble 190 pc) (cond (Nat.ble 192 pc) (cond (Nat.ble 193 pc) ((99, 0, 0, 0, 0)) ((34, 193, 0, 0, 0))) ((99, 0, 0, 0, 0))) (cond (Nat.ble 188 pc) (cond (Nat.ble 189 pc) ((28, 192, 1, 2, 1)) ((23, 189, 0, 0, 0))) ((99, 0, 0, 0, 0)))) (cond (Nat.ble 184 pc) (cond (Nat.ble 185 pc) (cond (Nat.ble 186 pc) ((1, 188, 5, 0, 0)) ((99, 0, 0, 0, 0))) ((99, 0, 0, 0, 0))) (cond (Nat.ble 182 pc) (cond (Nat.ble 183 pc) ((20, 186, 5, 7, 0)) ((2, 183, 0, 0, 0))) ((99, 0, 0, 0, 0))))) (cond (Nat.ble 175 pc) (cond (Nat.ble 178 pc) (cond (Nat.ble 179 pc) (cond (Nat.ble 180 pc) ((99, 0, 0, 0, 0)) ((20, 182, 5, 6, 0))) ((2, 179, 0, 0, 0))) (cond (Nat.ble 176 pc) ((99, 0, 0, 0, 0)) ((19, 178, 0, 192, 0)))) (cond (Nat.ble 172 pc) (cond (Nat.ble 173 pc) (cond (Nat.ble 174 pc) ((99, 0, 0, 0, 0)) ((0, 175, 0, 0, (-4)))) ((99, 0, 0, 0, 0))) (cond (Nat.ble 170 pc) (cond (Nat.ble 171 pc) ((99, 0, 0, 0, 0)) ((16, 173, 1, 178, 0))) ((99, 0, 0, 0, 0)))))) (cond (Nat.ble 157 pc) (cond (Nat.ble 163 pc) (cond (Nat.ble 166 pc) (cond (Nat.ble 167 pc) (cond (Nat.ble 168 pc) ((1, 170, 8, 0, 0)) ((34, 168, 0, 0, 0))) ((99, 0, 0, 0, 0))) (cond (Nat.ble 164 pc) (cond (Nat.ble 165 pc) ((1, 167, 8, 0, 0)) ((99, 0, 0, 0, 0))) ((99, 0, 0, 0, 0)))) (cond (Nat.ble 160 pc) (cond (Nat.ble 161 pc) (cond (Nat.ble 162 pc) ((16, 165, 3, 168, 0)) ((99, 0, 0, 0, 0))) ((1, 162, 5, 0, 0))) (cond (Nat.ble 158 pc) (cond (Nat.ble 159 pc) ((99, 0, 0, 0, 0)) ((4, 160, 8, 0, 0))) ((0, 158, 0, 0, 0))))) (cond (Nat.ble 151 pc) (cond (Nat.ble 154 pc) (cond (Nat.ble 155 pc) ((99, 0, 0, 0, 0)) ((19, 157, 0, 158, 0))) (cond (Nat.ble 152 pc) ((99, 0, 0, 0, 0)) ((28, 154, 67, 6, 0)))) (cond (Nat.ble 148 pc) (cond (Nat.ble 149 pc) ((99, 0, 0, 0, 0)) ((20, 151, 5, 6, 0))) (cond (Nat.ble 146 pc) (cond (Nat.ble 147 pc) ((2, 148, 0, 0, 0)) ((0, 147, 0, 0, 0))) ((99, 0, 0, 0, 0))))))) (cond (Nat.ble 121 pc) (cond (Nat.ble 133 pc) (cond (Nat.ble 139 pc) (cond (Nat.ble 142 pc) (cond (Nat.ble 143 pc) (cond (Nat.ble 144 pc) ((1, 146, 4, 0, 0)) ((99, 0, 0, 0, 0))) ((99, 0, 0, 0, 0))) (cond (Nat.ble 140 pc) (cond (Nat.ble 141 pc) ((20, 144, 5, 7, 0)) ((2, 141, 0, 0, 0))) ((99, 0, 0, 0, 0)))) (cond (Nat.ble 136 pc) (cond (Nat.ble 137 pc) (cond (Nat.ble 138 pc) ((99, 0, 0, 0, 0)) ((20, 140, 5, 5, 0))) ((2, 137, 0, 0, 0))) (cond (Nat.ble 134 pc) ((99, 0, 0, 0, 0)) ((20, 136, 3, 1, 1))))) (cond (Nat.ble 127 pc) (cond (Nat.ble 130 pc) (cond (Nat.ble 131 pc) ((99, 0, 0, 0, 0)) ((20, 133, 5, 0, 0))) (cond (Nat.ble 128 pc) (cond (Nat.ble 129 pc) ((2, 130, 0, 0, 0)) ((99, 0, 0, 0, 0))) ((99, 0, 0, 0, 0)))) (cond (Nat.ble 124 pc) (cond (Nat.ble 125 pc) (cond (Nat.ble 126 pc) ((16, 129, 0, 157, 0)) ((99, 0, 0, 0, 0))) ((99, 0, 0, 0, 0))) (cond (Nat.ble 122 pc) (cond (Nat.ble 123 pc) ((28, 126, 14, 4, 1)) ((23, 123, 0, 0, 0))) ((0, 122, 0, 0, 0)))))) (cond (Nat.ble 109 pc) (cond (Nat.ble 115 pc) (cond (Nat.ble 118 pc) (cond (Nat.ble 119 pc) ((99, 0, 0, 0, 0)) ((20, 121, 5, 7, 0))) (cond (Nat.ble 116 pc) (cond (Nat.ble 117 pc) ((2, 118, 0, 0, 0)) ((0, 117, 0, 0, 0))) ((99, 0, 0, 0, 0)))) (cond (Nat.ble 112 pc) (cond (Nat.ble 113 pc) (cond (Nat.ble 114 pc) ((99, 0, 0, 0, 0)) ((20, 116, 5, 5, 0))) ((2, 113, 0, 0, 0))) (cond (Nat.ble 110 pc) ((99, 0, 0, 0, 0)) ((20, 112, 3, 1, 1))))) (cond (Nat.ble 103 pc) (cond (Nat.ble 106 pc) (cond (Nat.ble 107 pc) ((99, 0, 0, 0, 0)) ((20, 109, 5, 0, 0))) (cond (Nat.ble 104 pc) (cond (Nat.ble 105 pc) ((2, 106, 0, 0, 0)) ((99, 0, 0, 0, 0))) ((99, 0, 0, 0, 0)))) (cond (Nat.ble 100 pc) (cond (Nat.ble 101 pc) (cond (Nat.ble 102 pc) ((21, 105, 0, 1, 1)) ((0, 102, 0, 0, 0))) ((99, 0, 0, 0, 0))) (cond (Nat.ble 98 pc) (cond (Nat.ble 99 pc) ((99, 0, 0, 0, 0)) ((20, 101, 5, 6, 0))) ((2, 98, 0, 0, 0)))))))) (cond (Nat.ble 48 pc) (cond (Nat.ble 72 pc) (cond (Nat.ble 84 pc) (cond (Nat.ble 90 pc) (cond (Nat.ble 93 pc) (cond (Nat.ble 95 pc) ((99, 0, 0, 0, 0)) (cond (Nat.ble 94 pc) ((28, 97, 6, 3, 1)) ((99, 0, 0, 0, 0)))) (cond (Nat.ble 91 pc) (cond (Nat.ble 92 pc) ((99, 0, 0, 0, 0)) ((20, 94, 0, 1, 1))) ((99, 0, 0, 0, 0)))) (cond (Nat.ble 87 pc) (cond (Nat.ble 88 pc) (cond (Nat.ble 89 pc) ((99, 0, 0, 0, 0)) ((20, 91, 3, 0, 1))) ((99, 0, 0, 0, 0))) (cond (Nat.ble 85 pc) (cond (Nat.ble 86 pc) ((99, 0, 0, 0, 0)) ((20, 88, 5, 0, 0))) ((2, 85, 0, 0, 0))))) (cond (Nat.ble 78 pc) (cond (Nat.ble 81 pc) (cond (Nat.ble 82 pc) ((99, 0, 0, 0, 0)) ((20, 84, 3, 0, 1))) (cond (Nat.ble 79 pc) ((99, 0, 0, 0, 0)) ((20, 81, 5, 0, 0)))) (cond (Nat.ble 75 pc) (cond (Nat.ble 76 pc) (cond (Nat.ble 77 pc) ((2, 78, 0, 0, 0)) ((99, 0, 0, 0, 0))) ((99, 0, 0, 0, 0))) (cond (Nat.ble 73 pc) (cond (Nat.ble 74 pc) ((20, 77, 5, 5, 0)) ((2, 74, 0, 0, 0))) ((34, 73, 0, 0, 0)))))) (cond (Nat.ble 60 pc) (cond (Nat.ble 66 pc) (cond (Nat.ble 69 pc) (cond (Nat.ble 70 pc) (cond (Nat.ble 71 pc) ((99, 0, 0, 0, 0)) ((0, 72, 0, 0, (-2)))) ((99, 0, 0, 0, 0))) (cond (Nat.ble 67 pc) (cond (Nat.ble 68 pc) ((99, 0, 0, 0, 0)) ((16, 70, 1, 73, 0))) ((99, 0, 0, 0, 0)))) (cond (Nat.ble 63 pc) (cond (Nat.ble 64 pc) (cond (Nat.ble 65 pc) ((99, 0, 0, 0, 0)) ((28, 67, 66, 4, 0))) ((99, 0, 0, 0, 0))) (cond (Nat.ble 61 pc) (cond (Nat.ble 62 pc) ((1, 64, 4, 0, 0)) ((1, 62, 3, 0, 0))) ((99, 0, 0, 0, 0))))) (cond (Nat.ble 54 pc) (cond (Nat.ble 57 pc) (cond (Nat.ble 58 pc) (cond (Nat.ble 59 pc) ((2, 61, 6, 0, 0)) ((2, 59, 0, 0, 0))) ((34, 58, 0, 0, 0))) (cond (Nat.ble 55 pc) (cond (Nat.ble 56 pc) ((99, 0, 0, 0, 0)) ((1, 57, 7, 0, 0))) ((99, 0, 0, 0, 0)))) (cond (Nat.ble 51 pc) (cond (Nat.ble 52 pc) (cond (Nat.ble 53 pc) ((99, 0, 0, 0, 0)) ((16, 55, 0, 58, 0))) ((99, 0, 0, 0, 0))) (cond (Nat.ble 49 pc) (cond (Nat.ble 50 pc) ((1, 52, 7, 0, 0)) ((99, 0, 0, 0, 0))) ((99, 0, 0, 0, 0))))))) (cond (Nat.ble 24 pc) (cond (Nat.ble 36 pc) (cond (Nat.ble 42 pc) (cond (Nat.ble 45 pc) (cond (Nat.ble 46 pc) (cond (Nat.ble 47 pc) ((18, 50, 0, 55, 0)) ((99, 0, 0, 0, 0))) ((2, 47, 6, 0, 0))) (cond (Nat.ble 43 pc) (cond (Nat.ble 44 pc) ((99, 0, 0, 0, 0)) ((4, 45, 7, 0, 0))) ((99, 0, 0, 0, 0)))) (cond (Nat.ble 39 pc) (cond (Nat.ble 40 pc) (cond (Nat.ble 41 pc) ((99, 0, 0, 0, 0)) ((28, 43, 74, 4, 0))) ((99, 0, 0, 0, 0))) (cond (Nat.ble 37 pc) (cond (Nat.ble 38 pc) ((1, 40, 4, 0, 0)) ((1, 38, 3, 0, 0))) ((1, 37, 2, 0, 0))))) (cond (Nat.ble 30 pc) (cond (Nat.ble 33 pc) (cond (Nat.ble 34 pc) (cond (Nat.ble 35 pc) ((99, 0, 0, 0, 0)) ((2, 36, 6, 0, 0))) ((99, 0, 0, 0, 0))) (cond (Nat.ble 31 pc) (cond (Nat.ble 32 pc) ((5, 34, 6, 0, 0)) ((99, 0, 0, 0, 0))) ((99, 0, 0, 0, 0)))) (cond (Nat.ble 27 pc) (cond (Nat.ble 28 pc) (cond (Nat.ble 29 pc) ((28, 32, 75, 2, 0)) ((1, 29, 1, 0, 0))) ((2, 28, 0, 0, 0))) (cond (Nat.ble 25 pc) (cond (Nat.ble 26 pc) ((34, 27, 0, 0, 0)) ((0, 26, 0, 0, (-1)))) ((99, 0, 0, 0, 0)))))) (cond (Nat.ble 12 pc) (cond (Nat.ble 18 pc) (cond (Nat.ble 21 pc) (cond (Nat.ble 22 pc) (cond (Nat.ble 23 pc) ((99, 0, 0, 0, 0)) ((17, 25, 2, 27, 0))) ((99, 0, 0, 0, 0))) (cond (Nat.ble 19 pc) (cond (Nat.ble 20 pc) ((1, 22, 4, 0, 0)) ((99, 0, 0, 0, 0))) ((1, 20, 5, 0, 0)))) (cond (Nat.ble 15 pc) (cond (Nat.ble 16 pc) ((99, 0, 0, 0, 0)) ((17, 18, 2, 25, 0))) (cond (Nat.ble 13 pc) (cond (Nat.ble 14 pc) ((0, 15, 0, 0, (-1))) ((99, 0, 0, 0, 0))) ((1, 14, 5, 0, 0))))) (cond (Nat.ble 6 pc) (cond (Nat.ble 9 pc) (cond (Nat.ble 10 pc) ((99, 0, 0, 0, 0)) ((17, 12, 4, 25, 0))) (cond (Nat.ble 7 pc) (cond (Nat.ble 8 pc) ((0, 9, 0, 0, 4)) ((99, 0, 0, 0, 0))) ((1, 8, 4, 0, 0)))) (cond (Nat.ble 3 pc) (cond (Nat.ble 4 pc) ((99, 0, 0, 0, 0)) ((17, 6, 2, 25, 0))) (cond (Nat.ble 1 pc) (cond (Nat.ble 2 pc) ((0, 3, 0, 0, 1)) ((99, 0, 0, 0, 0))) ((1, 2, 4, 0, 0))))))))
def zc_X5_readLost : Nat → zE := fun pc => cond (Nat.ble 39 pc) (cond (Nat.ble 58 pc) (cond (Nat.ble 68 pc) (cond (Nat.ble 73 pc) (cond (Nat.ble 75 pc) (cond (Nat.ble 76 pc) (cond (Nat.ble 77 pc) ((99, 0, 0, 0, 0)) ((35, 77, 0, 0, 0))) ((0, 76, 0, 0, 1))) ((99, 0, 0, 0, 0))) (cond (Nat.ble 70 pc) (cond (Nat.ble 71 pc) (cond (Nat.ble 72 pc) ((19, 75, 0, 6, 0)) ((99, 0, 0, 0, 0))) ((99, 0, 0, 0, 0))) (cond (Nat.ble 69 pc) ((7, 72, 5, 0, 1)) ((99, 0, 0, 0, 0))))) (cond (Nat.ble 63 pc) (cond (Nat.ble 65 pc) (cond (Nat.ble 66 pc) (cond (Nat.ble 67 pc) ((4, 69, 4, 0, 0)) ((99, 0, 0, 0, 0))) ((1, 67, 6, 0, 0))) (cond (Nat.ble 64 pc) ((24, 65, 0, 0, 0)) ((99, 0, 0, 0, 0)))) (cond (Nat.ble 60 pc) (cond (Nat.ble 61 pc) (cond (Nat.ble 62 pc) ((1, 64, 6, 0, 0)) ((99, 0, 0, 0, 0))) ((1, 62, 5, 0, 0))) ((99, 0, 0, 0, 0))))) (cond (Nat.ble 48 pc) (cond (Nat.ble 53 pc) (cond (Nat.ble 55 pc) (cond (Nat.ble 56 pc) (cond (Nat.ble 57 pc) ((20, 60, 5, 7, 0)) ((2, 57, 0, 0, 0))) ((35, 56, 0, 0, 0))) (cond (Nat.ble 54 pc) ((0, 55, 0, 0, 0)) ((99, 0, 0, 0, 0)))) (cond (Nat.ble 50 pc) (cond (Nat.ble 51 pc) (cond (Nat.ble 52 pc) ((99, 0, 0, 0, 0)) ((16, 54, 1, 56, 0))) ((99, 0, 0, 0, 0))) (cond (Nat.ble 49 pc) ((99, 0, 0, 0, 0)) ((28, 51, 0, 2, 1))))) (cond (Nat.ble 43 pc) (cond (Nat.ble 45 pc) (cond (Nat.ble 46 pc) (cond (Nat.ble 47 pc) ((99, 0, 0, 0, 0)) ((1, 48, 6, 0, 0))) ((99, 0, 0, 0, 0))) (cond (Nat.ble 44 pc) ((99, 0, 0, 0, 0)) ((20, 46, 3, 0, 1)))) (cond (Nat.ble 41 pc) ((99, 0, 0, 0, 0)) (cond (Nat.ble 40 pc) ((20, 43, 5, 0, 0)) ((2, 40, 0, 0, 0))))))) (cond (Nat.ble 19 pc) (cond (Nat.ble 29 pc) (cond (Nat.ble 34 pc) (cond (Nat.ble 36 pc) (cond (Nat.ble 37 pc) ((99, 0, 0, 0, 0)) ((17, 39, 5, 54, 0))) (cond (Nat.ble 35 pc) ((99, 0, 0, 0, 0)) ((1, 36, 4, 0, 0)))) (cond (Nat.ble 31 pc) (cond (Nat.ble 32 pc) (cond (Nat.ble 33 pc) ((99, 0, 0, 0, 0)) ((1, 34, 6, 0, 0))) ((99, 0, 0, 0, 0))) (cond (Nat.ble 30 pc) ((4, 32, 6, 0, 0)) ((99, 0, 0, 0, 0))))) (cond (Nat.ble 24 pc) (cond (Nat.ble 26 pc) (cond (Nat.ble 27 pc) (cond (Nat.ble 28 pc) ((99, 0, 0, 0, 0)) ((28, 30, 21, 2, 1))) ((8, 27, 0, 0, 0))) (cond (Nat.ble 25 pc) ((99, 0, 0, 0, 0)) ((1, 26, 5, 0, 0)))) (cond (Nat.ble 21 pc) (cond (Nat.ble 22 pc) (cond (Nat.ble 23 pc) ((1, 24, 2, 0, 0)) ((2, 23, 1, 0, 0))) ((99, 0, 0, 0, 0))) (cond (Nat.ble 20 pc) ((99, 0, 0, 0, 0)) ((17, 22, 3, 75, 0)))))) (cond (Nat.ble 9 pc) (cond (Nat.ble 14 pc) (cond (Nat.ble 16 pc) (cond (Nat.ble 17 pc) (cond (Nat.ble 18 pc) ((27, 19, 0, 0, 0)) ((99, 0, 0, 0, 0))) ((99, 0, 0, 0, 0))) (cond (Nat.ble 15 pc) ((20, 18, 5, 7, 0)) ((2, 15, 0, 0, 0)))) (cond (Nat.ble 11 pc) (cond (Nat.ble 12 pc) (cond (Nat.ble 13 pc) ((99, 0, 0, 0, 0)) ((1, 14, 5, 0, 0))) ((99, 0, 0, 0, 0))) (cond (Nat.ble 10 pc) ((99, 0, 0, 0, 0)) ((17, 12, 3, 75, 0))))) (cond (Nat.ble 4 pc) (cond (Nat.ble 6 pc) (cond (Nat.ble 7 pc) (cond (Nat.ble 8 pc) ((1, 9, 3, 0, 0)) ((99, 0, 0, 0, 0))) ((1, 8, 5, 0, 0))) (cond (Nat.ble 5 pc) ((99, 0, 0, 0, 0)) ((4, 6, 5, 0, 0)))) (cond (Nat.ble 2 pc) (cond (Nat.ble 3 pc) ((0, 4, 0, 0, 0)) ((99, 0, 0, 0, 0))) (cond (Nat.ble 1 pc) ((4, 3, 4, 0, 0)) ((0, 1, 0, 0, (-1))))))))
def zc_X5_waysToMend : Nat → zE := fun pc => cond (Nat.ble 66 pc) (cond (Nat.ble 99 pc) (cond (Nat.ble 115 pc) (cond (Nat.ble 123 pc) (cond (Nat.ble 127 pc) (cond (Nat.ble 129 pc) (cond (Nat.ble 130 pc) (cond (Nat.ble 131 pc) ((99, 0, 0, 0, 0)) ((34, 131, 0, 0, 0))) ((99, 0, 0, 0, 0))) (cond (Nat.ble 128 pc) ((1, 130, 7, 0, 0)) ((99, 0, 0, 0, 0)))) (cond (Nat.ble 125 pc) (cond (Nat.ble 126 pc) ((99, 0, 0, 0, 0)) ((19, 128, 0, 71, 0))) ((99, 0, 0, 0, 0)))) (cond (Nat.ble 119 pc) (cond (Nat.ble 121 pc) (cond (Nat.ble 122 pc) ((7, 125, 8, 0, 1)) ((99, 0, 0, 0, 0))) (cond (Nat.ble 120 pc) ((4, 122, 7, 0, 0)) ((8, 120, 0, 0, 0)))) (cond (Nat.ble 117 pc) ((99, 0, 0, 0, 0)) (cond (Nat.ble 116 pc) ((28, 119, 67, 6, 0)) ((99, 0, 0, 0, 0)))))) (cond (Nat.ble 107 pc) (cond (Nat.ble 111 pc) (cond (Nat.ble 113 pc) (cond (Nat.ble 114 pc) ((2, 116, 5, 0, 0)) ((8, 114, 0, 0, 0))) (cond (Nat.ble 112 pc) ((0, 113, 0, 0, 1)) ((99, 0, 0, 0, 0)))) (cond (Nat.ble 109 pc) (cond (Nat.ble 110 pc) ((1, 112, 4, 0, 0)) ((1, 110, 3, 0, 0))) (cond (Nat.ble 108 pc) ((2, 109, 2, 0, 0)) ((2, 108, 1, 0, 0))))) (cond (Nat.ble 103 pc) (cond (Nat.ble 105 pc) (cond (Nat.ble 106 pc) ((2, 107, 0, 0, 0)) ((99, 0, 0, 0, 0))) (cond (Nat.ble 104 pc) ((1, 106, 7, 0, 0)) ((99, 0, 0, 0, 0)))) (cond (Nat.ble 101 pc) (cond (Nat.ble 102 pc) ((99, 0, 0, 0, 0)) ((16, 104, 0, 122, 0))) ((99, 0, 0, 0, 0)))))) (cond (Nat.ble 82 pc) (cond (Nat.ble 90 pc) (cond (Nat.ble 94 pc) (cond (Nat.ble 96 pc) (cond (Nat.ble 97 pc) (cond (Nat.ble 98 pc) ((28, 101, 14, 4, 1)) ((99, 0, 0, 0, 0))) ((1, 98, 6, 0, 0))) (cond (Nat.ble 95 pc) ((23, 96, 0, 0, 0)) ((99, 0, 0, 0, 0)))) (cond (Nat.ble 92 pc) (cond (Nat.ble 93 pc) ((1, 95, 4, 0, 0)) ((2, 93, 2, 0, 0))) (cond (Nat.ble 91 pc) ((2, 92, 1, 0, 0)) ((2, 91, 0, 0, 0))))) (cond (Nat.ble 86 pc) (cond (Nat.ble 88 pc) ((99, 0, 0, 0, 0)) (cond (Nat.ble 87 pc) ((28, 90, 2, 3, 1)) ((99, 0, 0, 0, 0)))) (cond (Nat.ble 84 pc) (cond (Nat.ble 85 pc) ((1, 87, 8, 0, 0)) ((23, 85, 0, 0, 0))) (cond (Nat.ble 83 pc) ((99, 0, 0, 0, 0)) ((1, 84, 4, 0, 0)))))) (cond (Nat.ble 74 pc) (cond (Nat.ble 78 pc) (cond (Nat.ble 80 pc) (cond (Nat.ble 81 pc) ((2, 82, 2, 0, 0)) ((2, 81, 1, 0, 0))) ((99, 0, 0, 0, 0))) (cond (Nat.ble 76 pc) (cond (Nat.ble 77 pc) ((17, 80, 3, 128, 0)) ((99, 0, 0, 0, 0))) (cond (Nat.ble 75 pc) ((99, 0, 0, 0, 0)) ((20, 77, 1, 0, 1))))) (cond (Nat.ble 70 pc) (cond (Nat.ble 72 pc) (cond (Nat.ble 73 pc) ((2, 74, 0, 0, 0)) ((99, 0, 0, 0, 0))) (cond (Nat.ble 71 pc) ((1, 73, 8, 0, 0)) ((99, 0, 0, 0, 0)))) (cond (Nat.ble 68 pc) (cond (Nat.ble 69 pc) ((4, 71, 8, 0, 0)) ((0, 69, 0, 0, 0))) (cond (Nat.ble 67 pc) ((99, 0, 0, 0, 0)) ((4, 68, 7, 0, 0)))))))) (cond (Nat.ble 33 pc) (cond (Nat.ble 49 pc) (cond (Nat.ble 57 pc) (cond (Nat.ble 61 pc) (cond (Nat.ble 63 pc) (cond (Nat.ble 64 pc) (cond (Nat.ble 65 pc) ((0, 66, 0, 0, 0)) ((99, 0, 0, 0, 0))) ((4, 65, 6, 0, 0))) ((99, 0, 0, 0, 0))) (cond (Nat.ble 59 pc) (cond (Nat.ble 60 pc) ((20, 63, 0, 1, 1)) ((2, 60, 1, 0, 0))) ((99, 0, 0, 0, 0)))) (cond (Nat.ble 53 pc) (cond (Nat.ble 55 pc) (cond (Nat.ble 56 pc) ((19, 59, 0, 63, 0)) ((23, 56, 0, 0, 0))) (cond (Nat.ble 54 pc) ((8, 55, 0, 0, 0)) ((0, 54, 0, 0, 1)))) (cond (Nat.ble 51 pc) (cond (Nat.ble 52 pc) ((99, 0, 0, 0, 0)) ((1, 53, 4, 0, 0))) (cond (Nat.ble 50 pc) ((2, 51, 2, 0, 0)) ((99, 0, 0, 0, 0)))))) (cond (Nat.ble 41 pc) (cond (Nat.ble 45 pc) (cond (Nat.ble 47 pc) (cond (Nat.ble 48 pc) ((99, 0, 0, 0, 0)) ((17, 50, 3, 59, 0))) (cond (Nat.ble 46 pc) ((27, 47, 0, 0, 0)) ((2, 46, 2, 0, 0)))) (cond (Nat.ble 43 pc) (cond (Nat.ble 44 pc) ((8, 45, 0, 0, 0)) ((0, 44, 0, 0, 1))) (cond (Nat.ble 42 pc) ((99, 0, 0, 0, 0)) ((1, 43, 4, 0, 0))))) (cond (Nat.ble 37 pc) (cond (Nat.ble 39 pc) ((99, 0, 0, 0, 0)) (cond (Nat.ble 38 pc) ((17, 41, 3, 59, 0)) ((1, 38, 3, 0, 0)))) (cond (Nat.ble 35 pc) (cond (Nat.ble 36 pc) ((8, 37, 0, 0, 0)) ((0, 36, 0, 0, 1))) (cond (Nat.ble 34 pc) ((99, 0, 0, 0, 0)) ((1, 35, 4, 0, 0))))))) (cond (Nat.ble 16 pc) (cond (Nat.ble 24 pc) (cond (Nat.ble 28 pc) (cond (Nat.ble 30 pc) (cond (Nat.ble 31 pc) (cond (Nat.ble 32 pc) ((34, 33, 0, 0, 0)) ((0, 32, 0, 0, 1))) ((99, 0, 0, 0, 0))) (cond (Nat.ble 29 pc) ((99, 0, 0, 0, 0)) ((28, 31, 6, 3, 1)))) (cond (Nat.ble 26 pc) ((99, 0, 0, 0, 0)) (cond (Nat.ble 25 pc) ((20, 28, 0, 1, 1)) ((2, 25, 1, 0, 0))))) (cond (Nat.ble 20 pc) (cond (Nat.ble 22 pc) (cond (Nat.ble 23 pc) ((2, 24, 1, 0, 0)) ((99, 0, 0, 0, 0))) (cond (Nat.ble 21 pc) ((2, 23, 5, 0, 0)) ((99, 0, 0, 0, 0)))) (cond (Nat.ble 18 pc) (cond (Nat.ble 19 pc) ((99, 0, 0, 0, 0)) ((16, 21, 1, 31, 0))) ((99, 0, 0, 0, 0))))) (cond (Nat.ble 8 pc) (cond (Nat.ble 12 pc) (cond (Nat.ble 14 pc) (cond (Nat.ble 15 pc) ((20, 18, 0, 1, 1)) ((99, 0, 0, 0, 0))) (cond (Nat.ble 13 pc) ((2, 15, 5, 0, 0)) ((99, 0, 0, 0, 0)))) (cond (Nat.ble 10 pc) (cond (Nat.ble 11 pc) ((99, 0, 0, 0, 0)) ((17, 13, 2, 33, 0))) (cond (Nat.ble 9 pc) ((27, 10, 0, 0, 0)) ((2, 9, 2, 0, 0))))) (cond (Nat.ble 4 pc) (cond (Nat.ble 6 pc) (cond (Nat.ble 7 pc) ((99, 0, 0, 0, 0)) ((1, 8, 4, 0, 0))) ((99, 0, 0, 0, 0))) (cond (Nat.ble 2 pc) (cond (Nat.ble 3 pc) ((17, 6, 3, 13, 0)) ((1, 3, 3, 0, 0))) (cond (Nat.ble 1 pc) ((99, 0, 0, 0, 0)) ((1, 2, 4, 0, 0))))))))
def zc_X5_build : Nat → zE := fun pc => cond (Nat.ble 63 pc) (cond (Nat.ble 95 pc) (cond (Nat.ble 111 pc) (cond (Nat.ble 119 pc) (cond (Nat.ble 123 pc) (cond (Nat.ble 125 pc) (cond (Nat.ble 126 pc) ((99, 0, 0, 0, 0)) ((34, 126, 0, 0, 0))) (cond (Nat.ble 124 pc) ((99, 0, 0, 0, 0)) ((1, 125, 4, 0, 0)))) (cond (Nat.ble 121 pc) ((99, 0, 0, 0, 0)) (cond (Nat.ble 120 pc) ((28, 123, 6, 3, 1)) ((99, 0, 0, 0, 0))))) (cond (Nat.ble 115 pc) (cond (Nat.ble 117 pc) (cond (Nat.ble 118 pc) ((1, 120, 4, 0, 0)) ((99, 0, 0, 0, 0))) (cond (Nat.ble 116 pc) ((99, 0, 0, 0, 0)) ((20, 118, 5, 5, 0)))) (cond (Nat.ble 113 pc) (cond (Nat.ble 114 pc) ((2, 115, 0, 0, 0)) ((99, 0, 0, 0, 0))) (cond (Nat.ble 112 pc) ((99, 0, 0, 0, 0)) ((20, 114, 3, 0, 1)))))) (cond (Nat.ble 103 pc) (cond (Nat.ble 107 pc) (cond (Nat.ble 109 pc) ((99, 0, 0, 0, 0)) (cond (Nat.ble 108 pc) ((20, 111, 5, 0, 0)) ((2, 108, 0, 0, 0)))) (cond (Nat.ble 105 pc) ((99, 0, 0, 0, 0)) (cond (Nat.ble 104 pc) ((19, 107, 0, 56, 0)) ((99, 0, 0, 0, 0))))) (cond (Nat.ble 99 pc) (cond (Nat.ble 101 pc) (cond (Nat.ble 102 pc) ((99, 0, 0, 0, 0)) ((7, 104, 7, 0, 1))) ((99, 0, 0, 0, 0))) (cond (Nat.ble 97 pc) (cond (Nat.ble 98 pc) ((28, 101, 3, 2, 1)) ((99, 0, 0, 0, 0))) (cond (Nat.ble 96 pc) ((1, 98, 8, 0, 0)) ((99, 0, 0, 0, 0))))))) (cond (Nat.ble 79 pc) (cond (Nat.ble 87 pc) (cond (Nat.ble 91 pc) (cond (Nat.ble 93 pc) (cond (Nat.ble 94 pc) ((99, 0, 0, 0, 0)) ((20, 96, 5, 5, 0))) (cond (Nat.ble 92 pc) ((2, 93, 0, 0, 0)) ((34, 92, 0, 0, 0)))) (cond (Nat.ble 89 pc) (cond (Nat.ble 90 pc) ((99, 0, 0, 0, 0)) ((0, 91, 0, 0, (-2)))) ((99, 0, 0, 0, 0)))) (cond (Nat.ble 83 pc) (cond (Nat.ble 85 pc) (cond (Nat.ble 86 pc) ((16, 89, 1, 92, 0)) ((99, 0, 0, 0, 0))) (cond (Nat.ble 84 pc) ((99, 0, 0, 0, 0)) ((28, 86, 8, 2, 1)))) (cond (Nat.ble 81 pc) (cond (Nat.ble 82 pc) ((99, 0, 0, 0, 0)) ((1, 83, 8, 0, 0))) ((99, 0, 0, 0, 0))))) (cond (Nat.ble 71 pc) (cond (Nat.ble 75 pc) (cond (Nat.ble 77 pc) (cond (Nat.ble 78 pc) ((20, 81, 3, 1, 1)) ((99, 0, 0, 0, 0))) (cond (Nat.ble 76 pc) ((99, 0, 0, 0, 0)) ((20, 78, 5, 0, 0)))) (cond (Nat.ble 73 pc) (cond (Nat.ble 74 pc) ((2, 75, 0, 0, 0)) ((99, 0, 0, 0, 0))) (cond (Nat.ble 72 pc) ((4, 74, 8, 0, 0)) ((99, 0, 0, 0, 0))))) (cond (Nat.ble 67 pc) (cond (Nat.ble 69 pc) (cond (Nat.ble 70 pc) ((99, 0, 0, 0, 0)) ((28, 72, 21, 2, 1))) (cond (Nat.ble 68 pc) ((8, 69, 0, 0, 0)) ((99, 0, 0, 0, 0)))) (cond (Nat.ble 65 pc) (cond (Nat.ble 66 pc) ((1, 68, 7, 0, 0)) ((1, 66, 3, 0, 0))) (cond (Nat.ble 64 pc) ((99, 0, 0, 0, 0)) ((2, 65, 5, 0, 0)))))))) (cond (Nat.ble 31 pc) (cond (Nat.ble 47 pc) (cond (Nat.ble 55 pc) (cond (Nat.ble 59 pc) (cond (Nat.ble 61 pc) ((99, 0, 0, 0, 0)) (cond (Nat.ble 60 pc) ((17, 63, 3, 107, 0)) ((99, 0, 0, 0, 0)))) (cond (Nat.ble 57 pc) (cond (Nat.ble 58 pc) ((1, 60, 4, 0, 0)) ((99, 0, 0, 0, 0))) (cond (Nat.ble 56 pc) ((1, 58, 7, 0, 0)) ((99, 0, 0, 0, 0))))) (cond (Nat.ble 51 pc) (cond (Nat.ble 53 pc) (cond (Nat.ble 54 pc) ((4, 56, 7, 0, 0)) ((0, 54, 0, 0, 0))) ((99, 0, 0, 0, 0))) (cond (Nat.ble 49 pc) (cond (Nat.ble 50 pc) ((21, 53, 0, 1, 1)) ((0, 50, 0, 0, 0))) ((99, 0, 0, 0, 0))))) (cond (Nat.ble 39 pc) (cond (Nat.ble 43 pc) (cond (Nat.ble 45 pc) (cond (Nat.ble 46 pc) ((20, 49, 5, 5, 0)) ((2, 46, 0, 0, 0))) (cond (Nat.ble 44 pc) ((34, 45, 0, 0, 0)) ((99, 0, 0, 0, 0)))) (cond (Nat.ble 41 pc) (cond (Nat.ble 42 pc) ((1, 44, 6, 0, 0)) ((99, 0, 0, 0, 0))) (cond (Nat.ble 40 pc) ((99, 0, 0, 0, 0)) ((16, 42, 0, 45, 0))))) (cond (Nat.ble 35 pc) (cond (Nat.ble 37 pc) (cond (Nat.ble 38 pc) ((99, 0, 0, 0, 0)) ((1, 39, 6, 0, 0))) ((99, 0, 0, 0, 0))) (cond (Nat.ble 33 pc) (cond (Nat.ble 34 pc) ((18, 37, 0, 42, 0)) ((99, 0, 0, 0, 0))) (cond (Nat.ble 32 pc) ((2, 34, 5, 0, 0)) ((99, 0, 0, 0, 0))))))) (cond (Nat.ble 15 pc) (cond (Nat.ble 23 pc) (cond (Nat.ble 27 pc) (cond (Nat.ble 29 pc) (cond (Nat.ble 30 pc) ((4, 32, 6, 0, 0)) ((99, 0, 0, 0, 0))) (cond (Nat.ble 28 pc) ((99, 0, 0, 0, 0)) ((28, 30, 74, 4, 0)))) (cond (Nat.ble 25 pc) (cond (Nat.ble 26 pc) ((99, 0, 0, 0, 0)) ((1, 27, 4, 0, 0))) (cond (Nat.ble 24 pc) ((1, 25, 3, 0, 0)) ((1, 24, 2, 0, 0))))) (cond (Nat.ble 19 pc) (cond (Nat.ble 21 pc) (cond (Nat.ble 22 pc) ((99, 0, 0, 0, 0)) ((2, 23, 5, 0, 0))) (cond (Nat.ble 20 pc) ((99, 0, 0, 0, 0)) ((5, 21, 5, 0, 0)))) (cond (Nat.ble 17 pc) ((99, 0, 0, 0, 0)) (cond (Nat.ble 16 pc) ((28, 19, 75, 2, 0)) ((1, 16, 1, 0, 0)))))) (cond (Nat.ble 7 pc) (cond (Nat.ble 11 pc) (cond (Nat.ble 13 pc) (cond (Nat.ble 14 pc) ((2, 15, 0, 0, 0)) ((34, 14, 0, 0, 0))) (cond (Nat.ble 12 pc) ((0, 13, 0, 0, (-1))) ((99, 0, 0, 0, 0)))) (cond (Nat.ble 9 pc) (cond (Nat.ble 10 pc) ((99, 0, 0, 0, 0)) ((17, 12, 5, 14, 0))) (cond (Nat.ble 8 pc) ((99, 0, 0, 0, 0)) ((0, 9, 0, 0, 48))))) (cond (Nat.ble 3 pc) (cond (Nat.ble 5 pc) (cond (Nat.ble 6 pc) ((99, 0, 0, 0, 0)) ((1, 7, 4, 0, 0))) ((99, 0, 0, 0, 0))) (cond (Nat.ble 1 pc) (cond (Nat.ble 2 pc) ((16, 5, 2, 12, 0)) ((99, 0, 0, 0, 0))) ((1, 2, 4, 0, 0)))))))
def zc_X5_film : Nat → zE := fun pc => cond (Nat.ble 48 pc) (cond (Nat.ble 72 pc) (cond (Nat.ble 84 pc) (cond (Nat.ble 90 pc) (cond (Nat.ble 93 pc) (cond (Nat.ble 94 pc) (cond (Nat.ble 95 pc) ((99, 0, 0, 0, 0)) ((34, 95, 0, 0, 0))) ((99, 0, 0, 0, 0))) (cond (Nat.ble 91 pc) (cond (Nat.ble 92 pc) ((99, 0, 0, 0, 0)) ((20, 94, 0, 1, 1))) ((99, 0, 0, 0, 0)))) (cond (Nat.ble 87 pc) (cond (Nat.ble 88 pc) (cond (Nat.ble 89 pc) ((99, 0, 0, 0, 0)) ((20, 91, 3, 0, 1))) ((99, 0, 0, 0, 0))) (cond (Nat.ble 85 pc) (cond (Nat.ble 86 pc) ((99, 0, 0, 0, 0)) ((20, 88, 5, 0, 0))) ((2, 85, 0, 0, 0))))) (cond (Nat.ble 78 pc) (cond (Nat.ble 81 pc) (cond (Nat.ble 82 pc) ((99, 0, 0, 0, 0)) ((19, 84, 0, 42, 0))) (cond (Nat.ble 79 pc) ((99, 0, 0, 0, 0)) ((7, 81, 6, 0, 1)))) (cond (Nat.ble 75 pc) (cond (Nat.ble 76 pc) ((99, 0, 0, 0, 0)) ((28, 78, 22, 3, 1))) (cond (Nat.ble 73 pc) ((99, 0, 0, 0, 0)) ((28, 75, 1, 2, 1)))))) (cond (Nat.ble 60 pc) (cond (Nat.ble 66 pc) (cond (Nat.ble 69 pc) (cond (Nat.ble 70 pc) (cond (Nat.ble 71 pc) ((99, 0, 0, 0, 0)) ((1, 72, 6, 0, 0))) ((99, 0, 0, 0, 0))) (cond (Nat.ble 67 pc) (cond (Nat.ble 68 pc) ((99, 0, 0, 0, 0)) ((20, 70, 3, 0, 1))) ((99, 0, 0, 0, 0)))) (cond (Nat.ble 63 pc) (cond (Nat.ble 64 pc) (cond (Nat.ble 65 pc) ((99, 0, 0, 0, 0)) ((20, 67, 5, 0, 0))) ((2, 64, 0, 0, 0))) (cond (Nat.ble 61 pc) (cond (Nat.ble 62 pc) ((8, 63, 0, 0, 0)) ((99, 0, 0, 0, 0))) ((1, 62, 6, 0, 0))))) (cond (Nat.ble 54 pc) (cond (Nat.ble 57 pc) (cond (Nat.ble 58 pc) (cond (Nat.ble 59 pc) ((1, 60, 3, 0, 0)) ((99, 0, 0, 0, 0))) ((2, 59, 4, 0, 0))) (cond (Nat.ble 55 pc) ((99, 0, 0, 0, 0)) ((17, 57, 3, 84, 0)))) (cond (Nat.ble 51 pc) (cond (Nat.ble 52 pc) ((99, 0, 0, 0, 0)) ((20, 54, 0, 1, 1))) (cond (Nat.ble 49 pc) ((99, 0, 0, 0, 0)) ((20, 51, 3, 0, 1))))))) (cond (Nat.ble 24 pc) (cond (Nat.ble 36 pc) (cond (Nat.ble 42 pc) (cond (Nat.ble 45 pc) (cond (Nat.ble 46 pc) ((99, 0, 0, 0, 0)) ((20, 48, 5, 0, 0))) (cond (Nat.ble 43 pc) (cond (Nat.ble 44 pc) ((2, 45, 0, 0, 0)) ((99, 0, 0, 0, 0))) ((1, 44, 6, 0, 0)))) (cond (Nat.ble 39 pc) (cond (Nat.ble 40 pc) (cond (Nat.ble 41 pc) ((99, 0, 0, 0, 0)) ((4, 42, 6, 0, 0))) ((0, 40, 0, 0, 0))) (cond (Nat.ble 37 pc) (cond (Nat.ble 38 pc) ((34, 39, 0, 0, 0)) ((99, 0, 0, 0, 0))) ((1, 38, 5, 0, 0))))) (cond (Nat.ble 30 pc) (cond (Nat.ble 33 pc) (cond (Nat.ble 34 pc) ((99, 0, 0, 0, 0)) ((16, 36, 0, 39, 0))) (cond (Nat.ble 31 pc) (cond (Nat.ble 32 pc) ((99, 0, 0, 0, 0)) ((1, 33, 5, 0, 0))) ((99, 0, 0, 0, 0)))) (cond (Nat.ble 27 pc) (cond (Nat.ble 28 pc) (cond (Nat.ble 29 pc) ((99, 0, 0, 0, 0)) ((18, 31, 0, 36, 0))) ((99, 0, 0, 0, 0))) (cond (Nat.ble 25 pc) (cond (Nat.ble 26 pc) ((2, 28, 4, 0, 0)) ((99, 0, 0, 0, 0))) ((4, 26, 5, 0, 0)))))) (cond (Nat.ble 12 pc) (cond (Nat.ble 18 pc) (cond (Nat.ble 21 pc) (cond (Nat.ble 22 pc) ((99, 0, 0, 0, 0)) ((28, 24, 74, 4, 0))) (cond (Nat.ble 19 pc) ((99, 0, 0, 0, 0)) ((20, 21, 0, 1, 1)))) (cond (Nat.ble 15 pc) (cond (Nat.ble 16 pc) ((99, 0, 0, 0, 0)) ((20, 18, 3, 0, 1))) (cond (Nat.ble 13 pc) ((99, 0, 0, 0, 0)) ((20, 15, 5, 0, 0))))) (cond (Nat.ble 6 pc) (cond (Nat.ble 9 pc) (cond (Nat.ble 10 pc) (cond (Nat.ble 11 pc) ((2, 12, 0, 0, 0)) ((1, 11, 3, 0, 0))) ((1, 10, 2, 0, 0))) (cond (Nat.ble 7 pc) (cond (Nat.ble 8 pc) ((99, 0, 0, 0, 0)) ((2, 9, 4, 0, 0))) ((99, 0, 0, 0, 0)))) (cond (Nat.ble 3 pc) (cond (Nat.ble 4 pc) (cond (Nat.ble 5 pc) ((5, 7, 4, 0, 0)) ((99, 0, 0, 0, 0))) ((99, 0, 0, 0, 0))) (cond (Nat.ble 1 pc) (cond (Nat.ble 2 pc) ((28, 5, 75, 2, 0)) ((1, 2, 1, 0, 0))) ((2, 1, 0, 0, 0)))))))
def zc_X5_sheet : Nat → zE := fun pc => cond (Nat.ble 22 pc) (cond (Nat.ble 33 pc) (cond (Nat.ble 38 pc) (cond (Nat.ble 41 pc) (cond (Nat.ble 42 pc) (cond (Nat.ble 43 pc) ((99, 0, 0, 0, 0)) ((34, 43, 0, 0, 0))) ((1, 42, 3, 0, 0))) (cond (Nat.ble 39 pc) ((99, 0, 0, 0, 0)) ((28, 41, 23, 3, 1)))) (cond (Nat.ble 35 pc) (cond (Nat.ble 36 pc) (cond (Nat.ble 37 pc) ((1, 38, 3, 0, 0)) ((1, 37, 2, 0, 0))) ((99, 0, 0, 0, 0))) (cond (Nat.ble 34 pc) ((2, 36, 4, 0, 0)) ((34, 34, 0, 0, 0))))) (cond (Nat.ble 27 pc) (cond (Nat.ble 30 pc) (cond (Nat.ble 31 pc) (cond (Nat.ble 32 pc) ((99, 0, 0, 0, 0)) ((0, 33, 0, 0, (-14)))) ((99, 0, 0, 0, 0))) (cond (Nat.ble 28 pc) (cond (Nat.ble 29 pc) ((99, 0, 0, 0, 0)) ((16, 31, 3, 34, 0))) ((1, 28, 3, 0, 0)))) (cond (Nat.ble 24 pc) (cond (Nat.ble 25 pc) (cond (Nat.ble 26 pc) ((34, 27, 0, 0, 0)) ((0, 26, 0, 0, (-1)))) ((99, 0, 0, 0, 0))) (cond (Nat.ble 23 pc) ((99, 0, 0, 0, 0)) ((17, 25, 5, 27, 0)))))) (cond (Nat.ble 11 pc) (cond (Nat.ble 16 pc) (cond (Nat.ble 19 pc) (cond (Nat.ble 20 pc) (cond (Nat.ble 21 pc) ((99, 0, 0, 0, 0)) ((0, 22, 0, 0, 48))) ((1, 20, 3, 0, 0))) (cond (Nat.ble 17 pc) ((99, 0, 0, 0, 0)) ((16, 19, 0, 25, 0)))) (cond (Nat.ble 13 pc) (cond (Nat.ble 14 pc) ((99, 0, 0, 0, 0)) ((28, 16, 76, 1, 0))) (cond (Nat.ble 12 pc) ((1, 13, 2, 0, 0)) ((99, 0, 0, 0, 0))))) (cond (Nat.ble 5 pc) (cond (Nat.ble 8 pc) (cond (Nat.ble 9 pc) (cond (Nat.ble 10 pc) ((99, 0, 0, 0, 0)) ((18, 12, 0, 25, 0))) ((99, 0, 0, 0, 0))) (cond (Nat.ble 6 pc) (cond (Nat.ble 7 pc) ((2, 9, 4, 0, 0)) ((99, 0, 0, 0, 0))) ((5, 7, 4, 0, 0)))) (cond (Nat.ble 2 pc) (cond (Nat.ble 3 pc) ((99, 0, 0, 0, 0)) ((28, 5, 75, 2, 0))) (cond (Nat.ble 1 pc) ((1, 2, 1, 0, 0)) ((2, 1, 0, 0, 0))))))
def zc_X5_drop : Nat → zE := fun pc => cond (Nat.ble 18 pc) (cond (Nat.ble 27 pc) (cond (Nat.ble 31 pc) (cond (Nat.ble 33 pc) (cond (Nat.ble 34 pc) (cond (Nat.ble 35 pc) ((99, 0, 0, 0, 0)) ((34, 35, 0, 0, 0))) ((1, 34, 3, 0, 0))) ((99, 0, 0, 0, 0))) (cond (Nat.ble 29 pc) (cond (Nat.ble 30 pc) ((21, 33, 2, 2, 1)) ((0, 30, 0, 0, (-1)))) (cond (Nat.ble 28 pc) ((2, 29, 2, 0, 0)) ((4, 28, 3, 0, 0))))) (cond (Nat.ble 22 pc) (cond (Nat.ble 24 pc) (cond (Nat.ble 25 pc) ((99, 0, 0, 0, 0)) ((20, 27, 2, 2, 1))) (cond (Nat.ble 23 pc) ((2, 24, 2, 0, 0)) ((34, 23, 0, 0, 0)))) (cond (Nat.ble 20 pc) (cond (Nat.ble 21 pc) ((99, 0, 0, 0, 0)) ((0, 22, 0, 0, (-11)))) ((99, 0, 0, 0, 0))))) (cond (Nat.ble 9 pc) (cond (Nat.ble 13 pc) (cond (Nat.ble 15 pc) (cond (Nat.ble 16 pc) (cond (Nat.ble 17 pc) ((17, 20, 1, 23, 0)) ((0, 17, 0, 0, (-1)))) ((99, 0, 0, 0, 0))) (cond (Nat.ble 14 pc) ((99, 0, 0, 0, 0)) ((20, 16, 2, 2, 1)))) (cond (Nat.ble 11 pc) (cond (Nat.ble 12 pc) ((2, 13, 2, 0, 0)) ((34, 12, 0, 0, 0))) (cond (Nat.ble 10 pc) ((0, 11, 0, 0, (-1))) ((99, 0, 0, 0, 0))))) (cond (Nat.ble 4 pc) (cond (Nat.ble 6 pc) (cond (Nat.ble 7 pc) (cond (Nat.ble 8 pc) ((99, 0, 0, 0, 0)) ((18, 10, 1, 12, 0))) ((2, 7, 2, 0, 0))) (cond (Nat.ble 5 pc) ((5, 6, 2, 0, 0)) ((99, 0, 0, 0, 0)))) (cond (Nat.ble 2 pc) (cond (Nat.ble 3 pc) ((99, 0, 0, 0, 0)) ((28, 5, 75, 2, 0))) (cond (Nat.ble 1 pc) ((1, 2, 1, 0, 0)) ((2, 1, 0, 0, 0))))))
def zc_X5_item : Nat → zE := fun pc => cond (Nat.ble 20 pc) (cond (Nat.ble 30 pc) (cond (Nat.ble 35 pc) (cond (Nat.ble 38 pc) (cond (Nat.ble 39 pc) (cond (Nat.ble 40 pc) ((99, 0, 0, 0, 0)) ((34, 40, 0, 0, 0))) ((0, 39, 0, 0, 1))) (cond (Nat.ble 36 pc) ((99, 0, 0, 0, 0)) ((28, 38, 22, 3, 1)))) (cond (Nat.ble 32 pc) (cond (Nat.ble 33 pc) (cond (Nat.ble 34 pc) ((99, 0, 0, 0, 0)) ((1, 35, 4, 0, 0))) ((1, 33, 3, 0, 0))) (cond (Nat.ble 31 pc) ((99, 0, 0, 0, 0)) ((2, 32, 5, 0, 0))))) (cond (Nat.ble 25 pc) (cond (Nat.ble 27 pc) (cond (Nat.ble 28 pc) (cond (Nat.ble 29 pc) ((34, 30, 0, 0, 0)) ((99, 0, 0, 0, 0))) ((1, 29, 6, 0, 0))) ((99, 0, 0, 0, 0))) (cond (Nat.ble 22 pc) (cond (Nat.ble 23 pc) (cond (Nat.ble 24 pc) ((16, 27, 0, 30, 0)) ((99, 0, 0, 0, 0))) ((1, 24, 6, 0, 0))) ((99, 0, 0, 0, 0))))) (cond (Nat.ble 10 pc) (cond (Nat.ble 15 pc) (cond (Nat.ble 17 pc) (cond (Nat.ble 18 pc) (cond (Nat.ble 19 pc) ((18, 22, 0, 27, 0)) ((99, 0, 0, 0, 0))) ((2, 19, 5, 0, 0))) (cond (Nat.ble 16 pc) ((99, 0, 0, 0, 0)) ((4, 17, 6, 0, 0)))) (cond (Nat.ble 12 pc) (cond (Nat.ble 13 pc) ((99, 0, 0, 0, 0)) ((28, 15, 74, 4, 0))) (cond (Nat.ble 11 pc) ((0, 12, 0, 0, 1)) ((1, 11, 3, 0, 0))))) (cond (Nat.ble 5 pc) (cond (Nat.ble 7 pc) (cond (Nat.ble 8 pc) (cond (Nat.ble 9 pc) ((1, 10, 2, 0, 0)) ((99, 0, 0, 0, 0))) ((2, 9, 5, 0, 0))) (cond (Nat.ble 6 pc) ((99, 0, 0, 0, 0)) ((5, 7, 5, 0, 0)))) (cond (Nat.ble 2 pc) (cond (Nat.ble 3 pc) ((99, 0, 0, 0, 0)) ((28, 5, 75, 2, 0))) (cond (Nat.ble 1 pc) ((1, 2, 1, 0, 0)) ((2, 1, 0, 0, 0))))))
def zc_X5_copy : Nat → zE := fun pc => cond (Nat.ble 55 pc) (cond (Nat.ble 83 pc) (cond (Nat.ble 97 pc) (cond (Nat.ble 104 pc) (cond (Nat.ble 107 pc) (cond (Nat.ble 109 pc) (cond (Nat.ble 110 pc) ((99, 0, 0, 0, 0)) ((34, 110, 0, 0, 0))) (cond (Nat.ble 108 pc) ((99, 0, 0, 0, 0)) ((1, 109, 5, 0, 0)))) (cond (Nat.ble 105 pc) ((99, 0, 0, 0, 0)) ((29, 107, 0, 0, 0)))) (cond (Nat.ble 100 pc) (cond (Nat.ble 102 pc) (cond (Nat.ble 103 pc) ((99, 0, 0, 0, 0)) ((1, 104, 5, 0, 0))) (cond (Nat.ble 101 pc) ((99, 0, 0, 0, 0)) ((1, 102, 4, 0, 0)))) (cond (Nat.ble 98 pc) ((99, 0, 0, 0, 0)) ((20, 100, 2, 0, 1))))) (cond (Nat.ble 90 pc) (cond (Nat.ble 93 pc) (cond (Nat.ble 95 pc) (cond (Nat.ble 96 pc) ((99, 0, 0, 0, 0)) ((2, 97, 7, 0, 0))) (cond (Nat.ble 94 pc) ((1, 95, 2, 0, 0)) ((99, 0, 0, 0, 0)))) (cond (Nat.ble 91 pc) (cond (Nat.ble 92 pc) ((99, 0, 0, 0, 0)) ((20, 94, 2, 0, 1))) ((99, 0, 0, 0, 0)))) (cond (Nat.ble 86 pc) (cond (Nat.ble 88 pc) (cond (Nat.ble 89 pc) ((2, 91, 6, 0, 0)) ((34, 89, 0, 0, 0))) (cond (Nat.ble 87 pc) ((99, 0, 0, 0, 0)) ((0, 88, 0, 0, (-13))))) (cond (Nat.ble 84 pc) ((99, 0, 0, 0, 0)) ((16, 86, 1, 89, 0)))))) (cond (Nat.ble 69 pc) (cond (Nat.ble 76 pc) (cond (Nat.ble 79 pc) (cond (Nat.ble 81 pc) ((99, 0, 0, 0, 0)) (cond (Nat.ble 80 pc) ((28, 83, 20, 3, 1)) ((99, 0, 0, 0, 0)))) (cond (Nat.ble 77 pc) (cond (Nat.ble 78 pc) ((1, 80, 5, 0, 0)) ((99, 0, 0, 0, 0))) ((1, 78, 4, 0, 0)))) (cond (Nat.ble 72 pc) (cond (Nat.ble 74 pc) (cond (Nat.ble 75 pc) ((99, 0, 0, 0, 0)) ((2, 76, 7, 0, 0))) ((99, 0, 0, 0, 0))) (cond (Nat.ble 70 pc) (cond (Nat.ble 71 pc) ((16, 74, 0, 86, 0)) ((99, 0, 0, 0, 0))) ((99, 0, 0, 0, 0))))) (cond (Nat.ble 62 pc) (cond (Nat.ble 65 pc) (cond (Nat.ble 67 pc) (cond (Nat.ble 68 pc) ((28, 71, 20, 3, 1)) ((99, 0, 0, 0, 0))) (cond (Nat.ble 66 pc) ((1, 68, 5, 0, 0)) ((1, 66, 2, 0, 0)))) (cond (Nat.ble 63 pc) (cond (Nat.ble 64 pc) ((99, 0, 0, 0, 0)) ((2, 65, 6, 0, 0))) ((34, 63, 0, 0, 0)))) (cond (Nat.ble 58 pc) (cond (Nat.ble 60 pc) (cond (Nat.ble 61 pc) ((99, 0, 0, 0, 0)) ((0, 62, 0, 0, (-12)))) ((99, 0, 0, 0, 0))) (cond (Nat.ble 56 pc) (cond (Nat.ble 57 pc) ((17, 60, 0, 63, 0)) ((99, 0, 0, 0, 0))) ((99, 0, 0, 0, 0))))))) (cond (Nat.ble 27 pc) (cond (Nat.ble 41 pc) (cond (Nat.ble 48 pc) (cond (Nat.ble 51 pc) (cond (Nat.ble 53 pc) (cond (Nat.ble 54 pc) ((20, 57, 2, 1, 1)) ((99, 0, 0, 0, 0))) (cond (Nat.ble 52 pc) ((2, 54, 7, 0, 0)) ((99, 0, 0, 0, 0)))) (cond (Nat.ble 49 pc) (cond (Nat.ble 50 pc) ((99, 0, 0, 0, 0)) ((20, 52, 2, 1, 1))) ((99, 0, 0, 0, 0)))) (cond (Nat.ble 44 pc) (cond (Nat.ble 46 pc) (cond (Nat.ble 47 pc) ((2, 49, 6, 0, 0)) ((34, 47, 0, 0, 0))) (cond (Nat.ble 45 pc) ((99, 0, 0, 0, 0)) ((0, 46, 0, 0, (-11))))) (cond (Nat.ble 42 pc) ((99, 0, 0, 0, 0)) ((17, 44, 1, 47, 0))))) (cond (Nat.ble 34 pc) (cond (Nat.ble 37 pc) (cond (Nat.ble 39 pc) (cond (Nat.ble 40 pc) ((0, 41, 0, 0, (-1))) ((99, 0, 0, 0, 0))) (cond (Nat.ble 38 pc) ((99, 0, 0, 0, 0)) ((20, 40, 2, 2, 1)))) (cond (Nat.ble 35 pc) (cond (Nat.ble 36 pc) ((99, 0, 0, 0, 0)) ((2, 37, 7, 0, 0))) ((99, 0, 0, 0, 0)))) (cond (Nat.ble 30 pc) (cond (Nat.ble 32 pc) (cond (Nat.ble 33 pc) ((99, 0, 0, 0, 0)) ((17, 35, 0, 44, 0))) (cond (Nat.ble 31 pc) ((0, 32, 0, 0, (-1))) ((99, 0, 0, 0, 0)))) (cond (Nat.ble 28 pc) (cond (Nat.ble 29 pc) ((99, 0, 0, 0, 0)) ((20, 31, 2, 2, 1))) ((99, 0, 0, 0, 0)))))) (cond (Nat.ble 13 pc) (cond (Nat.ble 20 pc) (cond (Nat.ble 23 pc) (cond (Nat.ble 25 pc) (cond (Nat.ble 26 pc) ((2, 28, 6, 0, 0)) ((34, 26, 0, 0, 0))) (cond (Nat.ble 24 pc) ((0, 25, 0, 0, (-1))) ((99, 0, 0, 0, 0)))) (cond (Nat.ble 21 pc) (cond (Nat.ble 22 pc) ((99, 0, 0, 0, 0)) ((18, 24, 1, 26, 0))) ((99, 0, 0, 0, 0)))) (cond (Nat.ble 16 pc) (cond (Nat.ble 18 pc) (cond (Nat.ble 19 pc) ((2, 21, 7, 0, 0)) ((99, 0, 0, 0, 0))) (cond (Nat.ble 17 pc) ((99, 0, 0, 0, 0)) ((18, 19, 0, 24, 0)))) (cond (Nat.ble 14 pc) (cond (Nat.ble 15 pc) ((99, 0, 0, 0, 0)) ((2, 16, 6, 0, 0))) ((99, 0, 0, 0, 0))))) (cond (Nat.ble 6 pc) (cond (Nat.ble 9 pc) (cond (Nat.ble 11 pc) (cond (Nat.ble 12 pc) ((5, 14, 7, 0, 0)) ((99, 0, 0, 0, 0))) (cond (Nat.ble 10 pc) ((99, 0, 0, 0, 0)) ((28, 12, 75, 2, 0)))) (cond (Nat.ble 7 pc) (cond (Nat.ble 8 pc) ((1, 9, 3, 0, 0)) ((2, 8, 0, 0, 0))) ((99, 0, 0, 0, 0)))) (cond (Nat.ble 3 pc) (cond (Nat.ble 4 pc) (cond (Nat.ble 5 pc) ((5, 7, 6, 0, 0)) ((99, 0, 0, 0, 0))) ((99, 0, 0, 0, 0))) (cond (Nat.ble 1 pc) (cond (Nat.ble 2 pc) ((28, 5, 75, 2, 0)) ((1, 2, 1, 0, 0))) ((2, 1, 0, 0, 0)))))))
def zc_X5_refusalOf : Nat → zE := fun pc => cond (Nat.ble 26 pc) (cond (Nat.ble 39 pc) (cond (Nat.ble 45 pc) (cond (Nat.ble 48 pc) (cond (Nat.ble 50 pc) (cond (Nat.ble 51 pc) ((99, 0, 0, 0, 0)) ((34, 51, 0, 0, 0))) (cond (Nat.ble 49 pc) ((99, 0, 0, 0, 0)) ((0, 50, 0, 0, (-13))))) (cond (Nat.ble 46 pc) ((99, 0, 0, 0, 0)) ((19, 48, 0, 50, 0)))) (cond (Nat.ble 42 pc) (cond (Nat.ble 43 pc) (cond (Nat.ble 44 pc) ((0, 45, 0, 0, 0)) ((99, 0, 0, 0, 0))) ((99, 0, 0, 0, 0))) (cond (Nat.ble 40 pc) (cond (Nat.ble 41 pc) ((16, 44, 0, 48, 0)) ((99, 0, 0, 0, 0))) ((99, 0, 0, 0, 0))))) (cond (Nat.ble 32 pc) (cond (Nat.ble 35 pc) (cond (Nat.ble 37 pc) (cond (Nat.ble 38 pc) ((28, 41, 20, 3, 1)) ((1, 38, 3, 0, 0))) (cond (Nat.ble 36 pc) ((1, 37, 2, 0, 0)) ((2, 36, 0, 0, 0)))) (cond (Nat.ble 33 pc) (cond (Nat.ble 34 pc) ((34, 35, 0, 0, 0)) ((99, 0, 0, 0, 0))) ((0, 34, 0, 0, (-12))))) (cond (Nat.ble 29 pc) (cond (Nat.ble 30 pc) ((99, 0, 0, 0, 0)) ((17, 32, 0, 35, 0))) (cond (Nat.ble 27 pc) (cond (Nat.ble 28 pc) ((1, 29, 1, 0, 0)) ((99, 0, 0, 0, 0))) ((99, 0, 0, 0, 0)))))) (cond (Nat.ble 13 pc) (cond (Nat.ble 19 pc) (cond (Nat.ble 22 pc) (cond (Nat.ble 24 pc) (cond (Nat.ble 25 pc) ((20, 28, 2, 1, 1)) ((2, 25, 0, 0, 0))) (cond (Nat.ble 23 pc) ((34, 24, 0, 0, 0)) ((99, 0, 0, 0, 0)))) (cond (Nat.ble 20 pc) (cond (Nat.ble 21 pc) ((0, 23, 0, 0, (-11))) ((99, 0, 0, 0, 0))) ((99, 0, 0, 0, 0)))) (cond (Nat.ble 16 pc) (cond (Nat.ble 17 pc) (cond (Nat.ble 18 pc) ((17, 21, 1, 24, 0)) ((0, 18, 0, 0, (-1)))) ((99, 0, 0, 0, 0))) (cond (Nat.ble 14 pc) (cond (Nat.ble 15 pc) ((99, 0, 0, 0, 0)) ((20, 17, 2, 2, 1))) ((2, 14, 0, 0, 0))))) (cond (Nat.ble 6 pc) (cond (Nat.ble 9 pc) (cond (Nat.ble 11 pc) (cond (Nat.ble 12 pc) ((34, 13, 0, 0, 0)) ((0, 12, 0, 0, (-1)))) ((99, 0, 0, 0, 0))) (cond (Nat.ble 7 pc) (cond (Nat.ble 8 pc) ((16, 11, 1, 13, 0)) ((99, 0, 0, 0, 0))) ((99, 0, 0, 0, 0)))) (cond (Nat.ble 3 pc) (cond (Nat.ble 4 pc) (cond (Nat.ble 5 pc) ((28, 8, 76, 1, 0)) ((1, 5, 1, 0, 0))) ((99, 0, 0, 0, 0))) (cond (Nat.ble 1 pc) (cond (Nat.ble 2 pc) ((99, 0, 0, 0, 0)) ((18, 4, 0, 11, 0))) ((2, 1, 0, 0, 0))))))
def zc_X5_pageAt : Nat → zE := fun pc => cond (Nat.ble 12 pc) (cond (Nat.ble 18 pc) (cond (Nat.ble 21 pc) (cond (Nat.ble 23 pc) (cond (Nat.ble 24 pc) ((99, 0, 0, 0, 0)) ((40, 24, 0, 0, 0))) (cond (Nat.ble 22 pc) ((33, 23, 0, 0, 0)) ((99, 0, 0, 0, 0)))) (cond (Nat.ble 19 pc) (cond (Nat.ble 20 pc) ((99, 0, 0, 0, 0)) ((19, 22, 0, 23, 0))) ((45, 19, 0, 0, 0)))) (cond (Nat.ble 15 pc) (cond (Nat.ble 16 pc) (cond (Nat.ble 17 pc) ((1, 18, 1, 0, 0)) ((99, 0, 0, 0, 0))) ((99, 0, 0, 0, 0))) (cond (Nat.ble 13 pc) (cond (Nat.ble 14 pc) ((20, 17, 5, 4, 0)) ((2, 14, 0, 0, 0))) ((99, 0, 0, 0, 0))))) (cond (Nat.ble 6 pc) (cond (Nat.ble 9 pc) (cond (Nat.ble 10 pc) (cond (Nat.ble 11 pc) ((99, 0, 0, 0, 0)) ((17, 13, 3, 22, 0))) ((27, 10, 0, 0, 0))) (cond (Nat.ble 7 pc) ((99, 0, 0, 0, 0)) ((20, 9, 5, 4, 0)))) (cond (Nat.ble 3 pc) (cond (Nat.ble 4 pc) (cond (Nat.ble 5 pc) ((2, 6, 0, 0, 0)) ((1, 5, 1, 0, 0))) ((99, 0, 0, 0, 0))) (cond (Nat.ble 1 pc) (cond (Nat.ble 2 pc) ((99, 0, 0, 0, 0)) ((16, 4, 2, 22, 0))) ((1, 1, 1, 0, 0)))))
def zc_X5_isLane : Nat → zE := fun pc => cond (Nat.ble 8 pc) (cond (Nat.ble 12 pc) (cond (Nat.ble 14 pc) (cond (Nat.ble 15 pc) ((99, 0, 0, 0, 0)) ((35, 15, 0, 0, 0))) (cond (Nat.ble 13 pc) ((0, 14, 0, 0, 0)) ((99, 0, 0, 0, 0)))) (cond (Nat.ble 10 pc) (cond (Nat.ble 11 pc) ((99, 0, 0, 0, 0)) ((19, 13, 0, 14, 0))) (cond (Nat.ble 9 pc) ((0, 10, 0, 0, 1)) ((99, 0, 0, 0, 0))))) (cond (Nat.ble 4 pc) (cond (Nat.ble 6 pc) (cond (Nat.ble 7 pc) ((99, 0, 0, 0, 0)) ((17, 9, 4, 13, 0))) (cond (Nat.ble 5 pc) ((0, 6, 0, 0, 2)) ((1, 5, 0, 0, 0)))) (cond (Nat.ble 2 pc) ((99, 0, 0, 0, 0)) (cond (Nat.ble 1 pc) ((16, 4, 2, 13, 0)) ((1, 1, 0, 0, 0)))))
def zc_X6_in : Nat → zE := fun pc => cond (Nat.ble 10 pc) (cond (Nat.ble 15 pc) (cond (Nat.ble 17 pc) (cond (Nat.ble 18 pc) (cond (Nat.ble 19 pc) ((99, 0, 0, 0, 0)) ((35, 19, 0, 0, 0))) ((0, 18, 0, 0, 0))) ((99, 0, 0, 0, 0))) (cond (Nat.ble 12 pc) (cond (Nat.ble 13 pc) (cond (Nat.ble 14 pc) ((19, 17, 0, 18, 0)) ((0, 14, 0, 0, 1))) ((99, 0, 0, 0, 0))) (cond (Nat.ble 11 pc) ((99, 0, 0, 0, 0)) ((16, 13, 4, 17, 0))))) (cond (Nat.ble 5 pc) (cond (Nat.ble 7 pc) (cond (Nat.ble 8 pc) (cond (Nat.ble 9 pc) ((14, 10, 0, 0, 0)) ((99, 0, 0, 0, 0))) ((3, 9, 4, 0, 0))) (cond (Nat.ble 6 pc) ((3, 7, 0, 0, 0)) ((99, 0, 0, 0, 0)))) (cond (Nat.ble 2 pc) (cond (Nat.ble 3 pc) (cond (Nat.ble 4 pc) ((99, 0, 0, 0, 0)) ((16, 6, 2, 17, 0))) ((14, 3, 0, 0, 0))) (cond (Nat.ble 1 pc) ((3, 2, 2, 0, 0)) ((3, 1, 0, 0, 0)))))
def zc_X6_changed : Nat → zE := fun pc => cond (Nat.ble 8 pc) (cond (Nat.ble 12 pc) (cond (Nat.ble 14 pc) (cond (Nat.ble 15 pc) (cond (Nat.ble 16 pc) ((99, 0, 0, 0, 0)) ((34, 16, 0, 0, 0))) ((1, 15, 3, 0, 0))) (cond (Nat.ble 13 pc) ((24, 14, 0, 0, 0)) ((1, 13, 2, 0, 0)))) (cond (Nat.ble 10 pc) (cond (Nat.ble 11 pc) ((1, 12, 1, 0, 0)) ((99, 0, 0, 0, 0))) (cond (Nat.ble 9 pc) ((99, 0, 0, 0, 0)) ((20, 11, 6, 0, 0))))) (cond (Nat.ble 4 pc) (cond (Nat.ble 6 pc) (cond (Nat.ble 7 pc) ((2, 8, 0, 0, 0)) ((4, 7, 3, 0, 0))) (cond (Nat.ble 5 pc) ((23, 6, 0, 0, 0)) ((1, 5, 1, 0, 0)))) (cond (Nat.ble 2 pc) ((99, 0, 0, 0, 0)) (cond (Nat.ble 1 pc) ((20, 4, 6, 0, 0)) ((2, 1, 0, 0, 0)))))
def zc_X6_isLike : Nat → zE := fun pc => cond (Nat.ble 87 pc) (cond (Nat.ble 130 pc) (cond (Nat.ble 152 pc) (cond (Nat.ble 163 pc) (cond (Nat.ble 168 pc) (cond (Nat.ble 171 pc) (cond (Nat.ble 172 pc) (cond (Nat.ble 173 pc) ((99, 0, 0, 0, 0)) ((35, 173, 0, 0, 0))) ((0, 172, 0, 0, 0))) (cond (Nat.ble 169 pc) ((99, 0, 0, 0, 0)) ((19, 171, 0, 172, 0)))) (cond (Nat.ble 165 pc) (cond (Nat.ble 166 pc) (cond (Nat.ble 167 pc) ((0, 168, 0, 0, 1)) ((99, 0, 0, 0, 0))) ((99, 0, 0, 0, 0))) (cond (Nat.ble 164 pc) ((16, 167, 1, 171, 0)) ((23, 164, 0, 0, 0))))) (cond (Nat.ble 157 pc) (cond (Nat.ble 160 pc) (cond (Nat.ble 161 pc) (cond (Nat.ble 162 pc) ((0, 163, 0, 0, 3)) ((99, 0, 0, 0, 0))) ((99, 0, 0, 0, 0))) (cond (Nat.ble 158 pc) (cond (Nat.ble 159 pc) ((20, 162, 6, 9, 0)) ((2, 159, 0, 0, 0))) ((99, 0, 0, 0, 0)))) (cond (Nat.ble 154 pc) (cond (Nat.ble 155 pc) (cond (Nat.ble 156 pc) ((99, 0, 0, 0, 0)) ((16, 158, 1, 171, 0))) ((23, 155, 0, 0, 0))) (cond (Nat.ble 153 pc) ((0, 154, 0, 0, 2)) ((99, 0, 0, 0, 0)))))) (cond (Nat.ble 141 pc) (cond (Nat.ble 146 pc) (cond (Nat.ble 149 pc) (cond (Nat.ble 150 pc) (cond (Nat.ble 151 pc) ((99, 0, 0, 0, 0)) ((20, 153, 6, 9, 0))) ((2, 150, 0, 0, 0))) (cond (Nat.ble 147 pc) ((99, 0, 0, 0, 0)) ((16, 149, 1, 171, 0)))) (cond (Nat.ble 143 pc) (cond (Nat.ble 144 pc) (cond (Nat.ble 145 pc) ((23, 146, 0, 0, 0)) ((0, 145, 0, 0, 1))) ((99, 0, 0, 0, 0))) (cond (Nat.ble 142 pc) ((99, 0, 0, 0, 0)) ((20, 144, 6, 9, 0))))) (cond (Nat.ble 135 pc) (cond (Nat.ble 138 pc) (cond (Nat.ble 139 pc) (cond (Nat.ble 140 pc) ((2, 141, 0, 0, 0)) ((99, 0, 0, 0, 0))) ((99, 0, 0, 0, 0))) (cond (Nat.ble 136 pc) (cond (Nat.ble 137 pc) ((16, 140, 1, 171, 0)) ((23, 137, 0, 0, 0))) ((0, 136, 0, 0, 0)))) (cond (Nat.ble 132 pc) (cond (Nat.ble 133 pc) ((99, 0, 0, 0, 0)) ((20, 135, 6, 9, 0))) (cond (Nat.ble 131 pc) ((2, 132, 0, 0, 0)) ((99, 0, 0, 0, 0))))))) (cond (Nat.ble 108 pc) (cond (Nat.ble 119 pc) (cond (Nat.ble 124 pc) (cond (Nat.ble 127 pc) (cond (Nat.ble 128 pc) (cond (Nat.ble 129 pc) ((99, 0, 0, 0, 0)) ((19, 131, 0, 84, 0))) ((99, 0, 0, 0, 0))) (cond (Nat.ble 125 pc) (cond (Nat.ble 126 pc) ((99, 0, 0, 0, 0)) ((7, 128, 3, 0, 1))) ((24, 125, 0, 0, 0)))) (cond (Nat.ble 121 pc) (cond (Nat.ble 122 pc) (cond (Nat.ble 123 pc) ((8, 124, 1, 0, 0)) ((0, 123, 0, 0, 1))) ((23, 122, 0, 0, 0))) (cond (Nat.ble 120 pc) ((31, 121, 0, 0, 0)) ((23, 120, 0, 0, 0))))) (cond (Nat.ble 113 pc) (cond (Nat.ble 116 pc) (cond (Nat.ble 117 pc) (cond (Nat.ble 118 pc) ((8, 119, 1, 0, 0)) ((1, 118, 2, 0, 0))) ((8, 117, 1, 0, 0))) (cond (Nat.ble 114 pc) (cond (Nat.ble 115 pc) ((1, 116, 3, 0, 0)) ((1, 115, 1, 0, 0))) ((99, 0, 0, 0, 0)))) (cond (Nat.ble 110 pc) (cond (Nat.ble 111 pc) (cond (Nat.ble 112 pc) ((99, 0, 0, 0, 0)) ((20, 114, 6, 8, 0))) ((2, 111, 0, 0, 0))) ((99, 0, 0, 0, 0))))) (cond (Nat.ble 97 pc) (cond (Nat.ble 102 pc) (cond (Nat.ble 105 pc) (cond (Nat.ble 106 pc) (cond (Nat.ble 107 pc) ((20, 110, 6, 9, 0)) ((2, 107, 0, 0, 0))) ((24, 106, 0, 0, 0))) (cond (Nat.ble 103 pc) (cond (Nat.ble 104 pc) ((8, 105, 0, 0, 0)) ((0, 104, 0, 0, 1))) ((23, 103, 0, 0, 0)))) (cond (Nat.ble 99 pc) (cond (Nat.ble 100 pc) (cond (Nat.ble 101 pc) ((31, 102, 0, 0, 0)) ((23, 101, 0, 0, 0))) ((8, 100, 1, 0, 0))) (cond (Nat.ble 98 pc) ((1, 99, 3, 0, 0)) ((1, 98, 1, 0, 0))))) (cond (Nat.ble 92 pc) (cond (Nat.ble 94 pc) (cond (Nat.ble 95 pc) ((99, 0, 0, 0, 0)) ((20, 97, 6, 8, 0))) (cond (Nat.ble 93 pc) ((2, 94, 0, 0, 0)) ((99, 0, 0, 0, 0)))) (cond (Nat.ble 89 pc) (cond (Nat.ble 90 pc) (cond (Nat.ble 91 pc) ((99, 0, 0, 0, 0)) ((20, 93, 6, 9, 0))) ((2, 90, 0, 0, 0))) ((99, 0, 0, 0, 0))))))) (cond (Nat.ble 43 pc) (cond (Nat.ble 65 pc) (cond (Nat.ble 76 pc) (cond (Nat.ble 81 pc) (cond (Nat.ble 84 pc) (cond (Nat.ble 85 pc) (cond (Nat.ble 86 pc) ((17, 89, 4, 131, 0)) ((1, 86, 2, 0, 0))) ((1, 85, 3, 0, 0))) (cond (Nat.ble 82 pc) (cond (Nat.ble 83 pc) ((4, 84, 3, 0, 0)) ((0, 83, 0, 0, 1))) ((99, 0, 0, 0, 0)))) (cond (Nat.ble 78 pc) (cond (Nat.ble 79 pc) (cond (Nat.ble 80 pc) ((99, 0, 0, 0, 0)) ((19, 82, 0, 64, 0))) ((99, 0, 0, 0, 0))) (cond (Nat.ble 77 pc) ((99, 0, 0, 0, 0)) ((7, 79, 3, 0, 1))))) (cond (Nat.ble 70 pc) (cond (Nat.ble 73 pc) (cond (Nat.ble 74 pc) (cond (Nat.ble 75 pc) ((24, 76, 0, 0, 0)) ((0, 75, 0, 0, 0))) ((1, 74, 3, 0, 0))) (cond (Nat.ble 71 pc) ((99, 0, 0, 0, 0)) ((20, 73, 6, 9, 0)))) (cond (Nat.ble 67 pc) (cond (Nat.ble 68 pc) (cond (Nat.ble 69 pc) ((2, 70, 0, 0, 0)) ((99, 0, 0, 0, 0))) ((99, 0, 0, 0, 0))) (cond (Nat.ble 66 pc) ((17, 69, 3, 82, 0)) ((0, 66, 0, 0, 4)))))) (cond (Nat.ble 54 pc) (cond (Nat.ble 59 pc) (cond (Nat.ble 62 pc) (cond (Nat.ble 63 pc) (cond (Nat.ble 64 pc) ((1, 65, 3, 0, 0)) ((4, 64, 3, 0, 0))) ((0, 63, 0, 0, 0))) (cond (Nat.ble 60 pc) (cond (Nat.ble 61 pc) ((35, 62, 0, 0, 0)) ((1, 61, 3, 0, 0))) ((99, 0, 0, 0, 0)))) (cond (Nat.ble 56 pc) (cond (Nat.ble 57 pc) (cond (Nat.ble 58 pc) ((99, 0, 0, 0, 0)) ((19, 60, 0, 15, 0))) ((99, 0, 0, 0, 0))) (cond (Nat.ble 55 pc) ((99, 0, 0, 0, 0)) ((7, 57, 4, 0, 1))))) (cond (Nat.ble 48 pc) (cond (Nat.ble 51 pc) (cond (Nat.ble 52 pc) (cond (Nat.ble 53 pc) ((4, 54, 3, 0, 0)) ((0, 53, 0, 0, 0))) ((99, 0, 0, 0, 0))) (cond (Nat.ble 49 pc) (cond (Nat.ble 50 pc) ((99, 0, 0, 0, 0)) ((19, 52, 0, 53, 0))) ((0, 49, 0, 0, 1)))) (cond (Nat.ble 45 pc) (cond (Nat.ble 46 pc) ((99, 0, 0, 0, 0)) ((17, 48, 1, 52, 0))) (cond (Nat.ble 44 pc) ((23, 45, 0, 0, 0)) ((8, 44, 1, 0, 0))))))) (cond (Nat.ble 21 pc) (cond (Nat.ble 32 pc) (cond (Nat.ble 37 pc) (cond (Nat.ble 40 pc) (cond (Nat.ble 41 pc) (cond (Nat.ble 42 pc) ((1, 43, 2, 0, 0)) ((8, 42, 1, 0, 0))) ((99, 0, 0, 0, 0))) (cond (Nat.ble 38 pc) (cond (Nat.ble 39 pc) ((1, 41, 4, 0, 0)) ((1, 39, 1, 0, 0))) ((99, 0, 0, 0, 0)))) (cond (Nat.ble 34 pc) (cond (Nat.ble 35 pc) (cond (Nat.ble 36 pc) ((99, 0, 0, 0, 0)) ((20, 38, 6, 8, 0))) ((2, 35, 0, 0, 0))) (cond (Nat.ble 33 pc) ((23, 34, 0, 0, 0)) ((8, 33, 1, 0, 0))))) (cond (Nat.ble 26 pc) (cond (Nat.ble 29 pc) (cond (Nat.ble 30 pc) (cond (Nat.ble 31 pc) ((99, 0, 0, 0, 0)) ((1, 32, 4, 0, 0))) ((1, 30, 1, 0, 0))) (cond (Nat.ble 27 pc) ((99, 0, 0, 0, 0)) ((20, 29, 6, 8, 0)))) (cond (Nat.ble 23 pc) (cond (Nat.ble 24 pc) (cond (Nat.ble 25 pc) ((2, 26, 0, 0, 0)) ((99, 0, 0, 0, 0))) ((99, 0, 0, 0, 0))) (cond (Nat.ble 22 pc) ((16, 25, 0, 60, 0)) ((1, 22, 3, 0, 0)))))) (cond (Nat.ble 10 pc) (cond (Nat.ble 15 pc) (cond (Nat.ble 18 pc) (cond (Nat.ble 19 pc) ((99, 0, 0, 0, 0)) ((17, 21, 4, 60, 0))) (cond (Nat.ble 16 pc) (cond (Nat.ble 17 pc) ((1, 18, 2, 0, 0)) ((99, 0, 0, 0, 0))) ((1, 17, 4, 0, 0)))) (cond (Nat.ble 12 pc) (cond (Nat.ble 13 pc) (cond (Nat.ble 14 pc) ((99, 0, 0, 0, 0)) ((4, 15, 4, 0, 0))) ((0, 13, 0, 0, 1))) (cond (Nat.ble 11 pc) ((4, 12, 3, 0, 0)) ((0, 11, 0, 0, 1))))) (cond (Nat.ble 5 pc) (cond (Nat.ble 7 pc) (cond (Nat.ble 8 pc) ((99, 0, 0, 0, 0)) ((17, 10, 0, 62, 0))) (cond (Nat.ble 6 pc) ((0, 7, 0, 0, 2)) ((23, 6, 0, 0, 0)))) (cond (Nat.ble 2 pc) (cond (Nat.ble 3 pc) (cond (Nat.ble 4 pc) ((0, 5, 0, 0, 1)) ((99, 0, 0, 0, 0))) ((99, 0, 0, 0, 0))) (cond (Nat.ble 1 pc) ((20, 4, 6, 0, 0)) ((2, 1, 0, 0, 0))))))))
def zc_X6_ends : Nat → zE := fun pc => cond (Nat.ble 40 pc) (cond (Nat.ble 60 pc) (cond (Nat.ble 70 pc) (cond (Nat.ble 75 pc) (cond (Nat.ble 77 pc) (cond (Nat.ble 78 pc) (cond (Nat.ble 79 pc) ((99, 0, 0, 0, 0)) ((34, 79, 0, 0, 0))) ((0, 78, 0, 0, 0))) ((99, 0, 0, 0, 0))) (cond (Nat.ble 72 pc) (cond (Nat.ble 73 pc) (cond (Nat.ble 74 pc) ((19, 77, 0, 37, 0)) ((99, 0, 0, 0, 0))) ((99, 0, 0, 0, 0))) (cond (Nat.ble 71 pc) ((7, 74, 3, 0, 1)) ((34, 71, 0, 0, 0))))) (cond (Nat.ble 65 pc) (cond (Nat.ble 67 pc) (cond (Nat.ble 68 pc) (cond (Nat.ble 69 pc) ((1, 70, 3, 0, 0)) ((99, 0, 0, 0, 0))) ((99, 0, 0, 0, 0))) (cond (Nat.ble 66 pc) ((16, 69, 0, 71, 0)) ((99, 0, 0, 0, 0)))) (cond (Nat.ble 62 pc) (cond (Nat.ble 63 pc) (cond (Nat.ble 64 pc) ((99, 0, 0, 0, 0)) ((28, 66, 79, 3, 0))) ((1, 63, 3, 0, 0))) (cond (Nat.ble 61 pc) ((8, 62, 1, 0, 0)) ((1, 61, 3, 0, 0)))))) (cond (Nat.ble 50 pc) (cond (Nat.ble 55 pc) (cond (Nat.ble 57 pc) (cond (Nat.ble 58 pc) (cond (Nat.ble 59 pc) ((1, 60, 1, 0, 0)) ((2, 59, 0, 0, 0))) ((99, 0, 0, 0, 0))) (cond (Nat.ble 56 pc) ((99, 0, 0, 0, 0)) ((17, 58, 0, 69, 0)))) (cond (Nat.ble 52 pc) (cond (Nat.ble 53 pc) (cond (Nat.ble 54 pc) ((0, 55, 0, 0, 2)) ((1, 54, 2, 0, 0))) ((99, 0, 0, 0, 0))) (cond (Nat.ble 51 pc) ((99, 0, 0, 0, 0)) ((16, 53, 0, 71, 0))))) (cond (Nat.ble 45 pc) (cond (Nat.ble 47 pc) (cond (Nat.ble 48 pc) ((99, 0, 0, 0, 0)) ((28, 50, 79, 3, 0))) (cond (Nat.ble 46 pc) ((1, 47, 3, 0, 0)) ((1, 46, 1, 0, 0)))) (cond (Nat.ble 42 pc) (cond (Nat.ble 43 pc) (cond (Nat.ble 44 pc) ((2, 45, 0, 0, 0)) ((99, 0, 0, 0, 0))) ((99, 0, 0, 0, 0))) (cond (Nat.ble 41 pc) ((17, 44, 4, 77, 0)) ((1, 41, 1, 0, 0))))))) (cond (Nat.ble 20 pc) (cond (Nat.ble 30 pc) (cond (Nat.ble 35 pc) (cond (Nat.ble 37 pc) (cond (Nat.ble 38 pc) (cond (Nat.ble 39 pc) ((8, 40, 2, 0, 0)) ((1, 39, 3, 0, 0))) ((1, 38, 2, 0, 0))) (cond (Nat.ble 36 pc) ((4, 37, 3, 0, 0)) ((0, 36, 0, 0, 1)))) (cond (Nat.ble 32 pc) (cond (Nat.ble 33 pc) ((99, 0, 0, 0, 0)) ((19, 35, 0, 36, 0))) (cond (Nat.ble 31 pc) ((23, 32, 0, 0, 0)) ((0, 31, 0, 0, 2))))) (cond (Nat.ble 25 pc) (cond (Nat.ble 27 pc) (cond (Nat.ble 28 pc) ((99, 0, 0, 0, 0)) ((20, 30, 6, 0, 0))) (cond (Nat.ble 26 pc) ((2, 27, 0, 0, 0)) ((99, 0, 0, 0, 0)))) (cond (Nat.ble 22 pc) (cond (Nat.ble 23 pc) (cond (Nat.ble 24 pc) ((99, 0, 0, 0, 0)) ((17, 26, 1, 35, 0))) ((0, 23, 0, 0, 3))) (cond (Nat.ble 21 pc) ((23, 22, 0, 0, 0)) ((0, 21, 0, 0, 1)))))) (cond (Nat.ble 10 pc) (cond (Nat.ble 15 pc) (cond (Nat.ble 17 pc) (cond (Nat.ble 18 pc) ((99, 0, 0, 0, 0)) ((20, 20, 6, 0, 0))) (cond (Nat.ble 16 pc) ((2, 17, 0, 0, 0)) ((4, 16, 2, 0, 0)))) (cond (Nat.ble 12 pc) (cond (Nat.ble 13 pc) (cond (Nat.ble 14 pc) ((0, 15, 0, 0, 2)) ((99, 0, 0, 0, 0))) ((99, 0, 0, 0, 0))) (cond (Nat.ble 11 pc) ((19, 14, 0, 15, 0)) ((0, 11, 0, 0, 3))))) (cond (Nat.ble 5 pc) (cond (Nat.ble 7 pc) (cond (Nat.ble 8 pc) ((99, 0, 0, 0, 0)) ((17, 10, 1, 14, 0))) (cond (Nat.ble 6 pc) ((0, 7, 0, 0, 1)) ((23, 6, 0, 0, 0)))) (cond (Nat.ble 2 pc) (cond (Nat.ble 3 pc) (cond (Nat.ble 4 pc) ((0, 5, 0, 0, 1)) ((99, 0, 0, 0, 0))) ((99, 0, 0, 0, 0))) (cond (Nat.ble 1 pc) ((20, 4, 6, 0, 0)) ((2, 1, 0, 0, 0)))))))
def zc_X6_faults : Nat → zE := fun pc => cond (Nat.ble 13 pc) (cond (Nat.ble 19 pc) (cond (Nat.ble 22 pc) (cond (Nat.ble 24 pc) (cond (Nat.ble 25 pc) ((99, 0, 0, 0, 0)) ((34, 25, 0, 0, 0))) (cond (Nat.ble 23 pc) ((0, 24, 0, 0, 0)) ((99, 0, 0, 0, 0)))) (cond (Nat.ble 20 pc) (cond (Nat.ble 21 pc) ((99, 0, 0, 0, 0)) ((19, 23, 0, 2, 0))) ((99, 0, 0, 0, 0)))) (cond (Nat.ble 16 pc) (cond (Nat.ble 17 pc) (cond (Nat.ble 18 pc) ((99, 0, 0, 0, 0)) ((7, 20, 2, 0, 1))) ((34, 17, 0, 0, 0))) (cond (Nat.ble 14 pc) (cond (Nat.ble 15 pc) ((1, 16, 2, 0, 0)) ((99, 0, 0, 0, 0))) ((99, 0, 0, 0, 0))))) (cond (Nat.ble 6 pc) (cond (Nat.ble 9 pc) (cond (Nat.ble 11 pc) (cond (Nat.ble 12 pc) ((16, 15, 5, 17, 0)) ((99, 0, 0, 0, 0))) (cond (Nat.ble 10 pc) ((99, 0, 0, 0, 0)) ((28, 12, 80, 2, 0)))) (cond (Nat.ble 7 pc) (cond (Nat.ble 8 pc) ((1, 9, 2, 0, 0)) ((2, 8, 0, 0, 0))) ((99, 0, 0, 0, 0)))) (cond (Nat.ble 3 pc) (cond (Nat.ble 4 pc) (cond (Nat.ble 5 pc) ((99, 0, 0, 0, 0)) ((17, 7, 4, 23, 0))) ((1, 4, 1, 0, 0))) (cond (Nat.ble 1 pc) (cond (Nat.ble 2 pc) ((1, 3, 2, 0, 0)) ((4, 2, 2, 0, 0))) ((0, 1, 0, 0, 1)))))
def zc_X6_lay : Nat → zE := fun pc => cond (Nat.ble 20 pc) (cond (Nat.ble 30 pc) (cond (Nat.ble 35 pc) (cond (Nat.ble 38 pc) (cond (Nat.ble 39 pc) (cond (Nat.ble 40 pc) ((99, 0, 0, 0, 0)) ((34, 40, 0, 0, 0))) ((23, 39, 0, 0, 0))) (cond (Nat.ble 36 pc) (cond (Nat.ble 37 pc) ((0, 38, 0, 0, 4)) ((99, 0, 0, 0, 0))) ((99, 0, 0, 0, 0)))) (cond (Nat.ble 32 pc) (cond (Nat.ble 33 pc) (cond (Nat.ble 34 pc) ((20, 37, 6, 0, 0)) ((2, 34, 0, 0, 0))) ((99, 0, 0, 0, 0))) (cond (Nat.ble 31 pc) ((99, 0, 0, 0, 0)) ((19, 33, 0, 2, 0))))) (cond (Nat.ble 25 pc) (cond (Nat.ble 27 pc) (cond (Nat.ble 28 pc) ((99, 0, 0, 0, 0)) ((7, 30, 1, 0, 1))) (cond (Nat.ble 26 pc) ((24, 27, 0, 0, 0)) ((23, 26, 0, 0, 0)))) (cond (Nat.ble 22 pc) (cond (Nat.ble 23 pc) (cond (Nat.ble 24 pc) ((8, 25, 0, 0, 0)) ((1, 24, 1, 0, 0))) ((99, 0, 0, 0, 0))) (cond (Nat.ble 21 pc) ((0, 23, 0, 0, 9)) ((99, 0, 0, 0, 0)))))) (cond (Nat.ble 10 pc) (cond (Nat.ble 15 pc) (cond (Nat.ble 17 pc) (cond (Nat.ble 18 pc) (cond (Nat.ble 19 pc) ((99, 0, 0, 0, 0)) ((20, 21, 6, 0, 0))) ((2, 18, 0, 0, 0))) (cond (Nat.ble 16 pc) ((1, 17, 1, 0, 0)) ((99, 0, 0, 0, 0)))) (cond (Nat.ble 12 pc) (cond (Nat.ble 13 pc) (cond (Nat.ble 14 pc) ((99, 0, 0, 0, 0)) ((20, 16, 6, 8, 0))) ((2, 13, 0, 0, 0))) ((99, 0, 0, 0, 0)))) (cond (Nat.ble 5 pc) (cond (Nat.ble 7 pc) (cond (Nat.ble 8 pc) (cond (Nat.ble 9 pc) ((17, 12, 3, 33, 0)) ((23, 9, 0, 0, 0))) ((0, 8, 0, 0, 4))) ((99, 0, 0, 0, 0))) (cond (Nat.ble 2 pc) (cond (Nat.ble 3 pc) (cond (Nat.ble 4 pc) ((20, 7, 6, 0, 0)) ((2, 4, 0, 0, 0))) ((1, 3, 1, 0, 0))) (cond (Nat.ble 1 pc) ((4, 2, 1, 0, 0)) ((0, 1, 0, 0, 0))))))
def zc_X6_mayCome : Nat → zE := fun pc => cond (Nat.ble 25 pc) (cond (Nat.ble 37 pc) (cond (Nat.ble 43 pc) (cond (Nat.ble 46 pc) (cond (Nat.ble 48 pc) (cond (Nat.ble 49 pc) ((99, 0, 0, 0, 0)) ((34, 49, 0, 0, 0))) (cond (Nat.ble 47 pc) ((1, 48, 2, 0, 0)) ((99, 0, 0, 0, 0)))) (cond (Nat.ble 44 pc) (cond (Nat.ble 45 pc) ((99, 0, 0, 0, 0)) ((19, 47, 0, 4, 0))) ((99, 0, 0, 0, 0)))) (cond (Nat.ble 40 pc) (cond (Nat.ble 41 pc) (cond (Nat.ble 42 pc) ((99, 0, 0, 0, 0)) ((7, 44, 3, 0, 1))) ((4, 41, 2, 0, 0))) (cond (Nat.ble 38 pc) (cond (Nat.ble 39 pc) ((8, 40, 4, 0, 0)) ((0, 39, 0, 0, 0))) ((99, 0, 0, 0, 0))))) (cond (Nat.ble 31 pc) (cond (Nat.ble 34 pc) (cond (Nat.ble 35 pc) (cond (Nat.ble 36 pc) ((99, 0, 0, 0, 0)) ((19, 38, 0, 39, 0))) ((8, 35, 5, 0, 0))) (cond (Nat.ble 32 pc) (cond (Nat.ble 33 pc) ((1, 34, 3, 0, 0)) ((0, 33, 0, 0, 1))) ((99, 0, 0, 0, 0)))) (cond (Nat.ble 28 pc) (cond (Nat.ble 29 pc) (cond (Nat.ble 30 pc) ((99, 0, 0, 0, 0)) ((16, 32, 1, 38, 0))) ((99, 0, 0, 0, 0))) (cond (Nat.ble 26 pc) (cond (Nat.ble 27 pc) ((99, 0, 0, 0, 0)) ((28, 29, 80, 2, 0))) ((8, 26, 0, 0, 0)))))) (cond (Nat.ble 12 pc) (cond (Nat.ble 18 pc) (cond (Nat.ble 21 pc) (cond (Nat.ble 23 pc) (cond (Nat.ble 24 pc) ((0, 25, 0, 0, 1)) ((1, 24, 1, 0, 0))) (cond (Nat.ble 22 pc) ((2, 23, 0, 0, 0)) ((1, 22, 2, 0, 0)))) (cond (Nat.ble 19 pc) (cond (Nat.ble 20 pc) ((24, 21, 0, 0, 0)) ((1, 20, 3, 0, 0))) ((1, 19, 1, 0, 0)))) (cond (Nat.ble 15 pc) (cond (Nat.ble 16 pc) ((99, 0, 0, 0, 0)) ((20, 18, 6, 8, 0))) (cond (Nat.ble 13 pc) (cond (Nat.ble 14 pc) ((2, 15, 0, 0, 0)) ((99, 0, 0, 0, 0))) ((99, 0, 0, 0, 0))))) (cond (Nat.ble 6 pc) (cond (Nat.ble 9 pc) (cond (Nat.ble 10 pc) (cond (Nat.ble 11 pc) ((17, 14, 3, 47, 0)) ((23, 11, 0, 0, 0))) ((0, 10, 0, 0, 0))) (cond (Nat.ble 7 pc) ((99, 0, 0, 0, 0)) ((20, 9, 6, 0, 0)))) (cond (Nat.ble 3 pc) (cond (Nat.ble 4 pc) (cond (Nat.ble 5 pc) ((2, 6, 0, 0, 0)) ((1, 5, 3, 0, 0))) ((4, 4, 3, 0, 0))) (cond (Nat.ble 1 pc) (cond (Nat.ble 2 pc) ((0, 3, 0, 0, 0)) ((4, 2, 2, 0, 0))) ((0, 1, 0, 0, 0))))))
def zc_X6_bits : Nat → zE := fun pc => cond (Nat.ble 11 pc) (cond (Nat.ble 17 pc) (cond (Nat.ble 20 pc) (cond (Nat.ble 21 pc) (cond (Nat.ble 22 pc) ((99, 0, 0, 0, 0)) ((34, 22, 0, 0, 0))) ((1, 21, 1, 0, 0))) (cond (Nat.ble 18 pc) ((99, 0, 0, 0, 0)) ((19, 20, 0, 4, 0)))) (cond (Nat.ble 14 pc) (cond (Nat.ble 15 pc) (cond (Nat.ble 16 pc) ((4, 17, 2, 0, 0)) ((8, 16, 3, 0, 0))) ((8, 15, 1, 0, 0))) (cond (Nat.ble 12 pc) (cond (Nat.ble 13 pc) ((0, 14, 0, 0, 1)) ((1, 13, 2, 0, 0))) ((1, 12, 2, 0, 0))))) (cond (Nat.ble 5 pc) (cond (Nat.ble 8 pc) (cond (Nat.ble 9 pc) ((99, 0, 0, 0, 0)) ((7, 11, 1, 0, 1))) (cond (Nat.ble 6 pc) ((99, 0, 0, 0, 0)) ((16, 8, 0, 20, 0)))) (cond (Nat.ble 2 pc) (cond (Nat.ble 3 pc) (cond (Nat.ble 4 pc) ((1, 5, 2, 0, 0)) ((4, 4, 2, 0, 0))) ((1, 3, 0, 0, 0))) (cond (Nat.ble 1 pc) ((4, 2, 1, 0, 0)) ((0, 1, 0, 0, 0)))))
def zc_X6_isPale : Nat → zE := fun pc => cond (Nat.ble 8 pc) (cond (Nat.ble 12 pc) (cond (Nat.ble 14 pc) (cond (Nat.ble 15 pc) (cond (Nat.ble 16 pc) ((99, 0, 0, 0, 0)) ((35, 16, 0, 0, 0))) ((99, 0, 0, 0, 0))) (cond (Nat.ble 13 pc) ((99, 0, 0, 0, 0)) ((28, 15, 77, 3, 0)))) (cond (Nat.ble 10 pc) (cond (Nat.ble 11 pc) ((13, 12, 0, 0, 0)) ((8, 11, 1, 0, 0))) (cond (Nat.ble 9 pc) ((0, 10, 0, 0, 1)) ((23, 9, 0, 0, 0))))) (cond (Nat.ble 4 pc) (cond (Nat.ble 6 pc) (cond (Nat.ble 7 pc) ((0, 8, 0, 0, 4)) ((99, 0, 0, 0, 0))) (cond (Nat.ble 5 pc) ((99, 0, 0, 0, 0)) ((20, 7, 6, 0, 0)))) (cond (Nat.ble 2 pc) (cond (Nat.ble 3 pc) ((2, 4, 0, 0, 0)) ((15, 3, 0, 0, 0))) (cond (Nat.ble 1 pc) ((13, 2, 0, 0, 0)) ((1, 1, 1, 0, 0)))))
def zc_X6_isColour : Nat → zE := fun pc => cond (Nat.ble 8 pc) (cond (Nat.ble 12 pc) (cond (Nat.ble 14 pc) (cond (Nat.ble 15 pc) (cond (Nat.ble 16 pc) ((99, 0, 0, 0, 0)) ((35, 16, 0, 0, 0))) ((99, 0, 0, 0, 0))) (cond (Nat.ble 13 pc) ((99, 0, 0, 0, 0)) ((28, 15, 77, 3, 0)))) (cond (Nat.ble 10 pc) (cond (Nat.ble 11 pc) ((13, 12, 0, 0, 0)) ((8, 11, 1, 0, 0))) (cond (Nat.ble 9 pc) ((0, 10, 0, 0, 1)) ((23, 9, 0, 0, 0))))) (cond (Nat.ble 4 pc) (cond (Nat.ble 6 pc) (cond (Nat.ble 7 pc) ((0, 8, 0, 0, 0)) ((99, 0, 0, 0, 0))) (cond (Nat.ble 5 pc) ((99, 0, 0, 0, 0)) ((20, 7, 6, 0, 0)))) (cond (Nat.ble 2 pc) (cond (Nat.ble 3 pc) ((2, 4, 0, 0, 0)) ((15, 3, 0, 0, 0))) (cond (Nat.ble 1 pc) ((13, 2, 0, 0, 0)) ((1, 1, 1, 0, 0)))))
def zc_X6_colours : Nat → zE := fun pc => cond (Nat.ble 29 pc) (cond (Nat.ble 43 pc) (cond (Nat.ble 50 pc) (cond (Nat.ble 54 pc) (cond (Nat.ble 56 pc) (cond (Nat.ble 57 pc) ((99, 0, 0, 0, 0)) ((34, 57, 0, 0, 0))) ((99, 0, 0, 0, 0))) (cond (Nat.ble 52 pc) (cond (Nat.ble 53 pc) ((28, 56, 78, 3, 0)) ((1, 53, 1, 0, 0))) (cond (Nat.ble 51 pc) ((0, 52, 0, 0, 0)) ((2, 51, 0, 0, 0))))) (cond (Nat.ble 46 pc) (cond (Nat.ble 48 pc) ((99, 0, 0, 0, 0)) (cond (Nat.ble 47 pc) ((19, 50, 0, 18, 0)) ((99, 0, 0, 0, 0)))) (cond (Nat.ble 44 pc) (cond (Nat.ble 45 pc) ((99, 0, 0, 0, 0)) ((7, 47, 2, 0, 1))) ((34, 44, 0, 0, 0))))) (cond (Nat.ble 36 pc) (cond (Nat.ble 39 pc) (cond (Nat.ble 41 pc) (cond (Nat.ble 42 pc) ((99, 0, 0, 0, 0)) ((0, 43, 0, 0, (-2)))) ((99, 0, 0, 0, 0))) (cond (Nat.ble 37 pc) (cond (Nat.ble 38 pc) ((17, 41, 2, 44, 0)) ((1, 38, 1, 0, 0))) ((23, 37, 0, 0, 0)))) (cond (Nat.ble 32 pc) (cond (Nat.ble 34 pc) (cond (Nat.ble 35 pc) ((8, 36, 0, 0, 0)) ((1, 35, 2, 0, 0))) (cond (Nat.ble 33 pc) ((99, 0, 0, 0, 0)) ((0, 34, 0, 0, 9)))) (cond (Nat.ble 30 pc) ((99, 0, 0, 0, 0)) ((20, 32, 6, 0, 0)))))) (cond (Nat.ble 14 pc) (cond (Nat.ble 21 pc) (cond (Nat.ble 25 pc) (cond (Nat.ble 27 pc) (cond (Nat.ble 28 pc) ((2, 29, 0, 0, 0)) ((99, 0, 0, 0, 0))) (cond (Nat.ble 26 pc) ((99, 0, 0, 0, 0)) ((17, 28, 3, 50, 0)))) (cond (Nat.ble 23 pc) (cond (Nat.ble 24 pc) ((23, 25, 0, 0, 0)) ((0, 24, 0, 0, 4))) ((99, 0, 0, 0, 0)))) (cond (Nat.ble 17 pc) (cond (Nat.ble 19 pc) (cond (Nat.ble 20 pc) ((20, 23, 6, 0, 0)) ((2, 20, 0, 0, 0))) (cond (Nat.ble 18 pc) ((1, 19, 2, 0, 0)) ((4, 18, 2, 0, 0)))) (cond (Nat.ble 15 pc) (cond (Nat.ble 16 pc) ((0, 17, 0, 0, 0)) ((34, 16, 0, 0, 0))) ((0, 15, 0, 0, (-1)))))) (cond (Nat.ble 7 pc) (cond (Nat.ble 10 pc) (cond (Nat.ble 12 pc) ((99, 0, 0, 0, 0)) (cond (Nat.ble 11 pc) ((16, 14, 1, 16, 0)) ((99, 0, 0, 0, 0)))) (cond (Nat.ble 8 pc) (cond (Nat.ble 9 pc) ((99, 0, 0, 0, 0)) ((28, 11, 77, 3, 0))) ((99, 0, 0, 0, 0)))) (cond (Nat.ble 3 pc) (cond (Nat.ble 5 pc) (cond (Nat.ble 6 pc) ((99, 0, 0, 0, 0)) ((15, 8, 64, 0, 4))) ((99, 0, 0, 0, 0))) (cond (Nat.ble 1 pc) (cond (Nat.ble 2 pc) ((15, 5, 62, 0, 2)) ((13, 2, 0, 0, 0))) ((1, 1, 1, 0, 0))))))
def zc_X6_price : Nat → zE := fun pc => cond (Nat.ble 19 pc) (cond (Nat.ble 28 pc) (cond (Nat.ble 33 pc) (cond (Nat.ble 35 pc) (cond (Nat.ble 36 pc) (cond (Nat.ble 37 pc) ((99, 0, 0, 0, 0)) ((34, 37, 0, 0, 0))) ((0, 36, 0, 0, (-1)))) ((99, 0, 0, 0, 0))) (cond (Nat.ble 30 pc) (cond (Nat.ble 31 pc) (cond (Nat.ble 32 pc) ((19, 35, 0, 36, 0)) ((99, 0, 0, 0, 0))) ((99, 0, 0, 0, 0))) (cond (Nat.ble 29 pc) ((28, 32, 78, 3, 0)) ((1, 29, 2, 0, 0))))) (cond (Nat.ble 23 pc) (cond (Nat.ble 25 pc) (cond (Nat.ble 26 pc) (cond (Nat.ble 27 pc) ((8, 28, 0, 0, 0)) ((1, 27, 1, 0, 0))) ((0, 26, 0, 0, 5))) (cond (Nat.ble 24 pc) ((2, 25, 0, 0, 0)) ((99, 0, 0, 0, 0)))) (cond (Nat.ble 21 pc) (cond (Nat.ble 22 pc) ((99, 0, 0, 0, 0)) ((16, 24, 0, 35, 0))) ((99, 0, 0, 0, 0))))) (cond (Nat.ble 9 pc) (cond (Nat.ble 14 pc) (cond (Nat.ble 16 pc) (cond (Nat.ble 17 pc) (cond (Nat.ble 18 pc) ((28, 21, 77, 3, 0)) ((99, 0, 0, 0, 0))) ((99, 0, 0, 0, 0))) (cond (Nat.ble 15 pc) ((15, 18, 72, 0, 99)) ((15, 15, 0, 0, 0)))) (cond (Nat.ble 11 pc) (cond (Nat.ble 12 pc) (cond (Nat.ble 13 pc) ((13, 14, 0, 0, 0)) ((1, 13, 2, 0, 0))) ((99, 0, 0, 0, 0))) (cond (Nat.ble 10 pc) ((99, 0, 0, 0, 0)) ((16, 12, 0, 35, 0))))) (cond (Nat.ble 4 pc) (cond (Nat.ble 6 pc) (cond (Nat.ble 7 pc) ((99, 0, 0, 0, 0)) ((28, 9, 77, 3, 0))) ((99, 0, 0, 0, 0))) (cond (Nat.ble 2 pc) (cond (Nat.ble 3 pc) ((15, 6, 70, 0, 3)) ((15, 3, 0, 0, 0))) (cond (Nat.ble 1 pc) ((13, 2, 0, 0, 0)) ((1, 1, 1, 0, 0))))))
def zc_X6_rule : Nat → zE := fun pc => cond (Nat.ble 22 pc) (cond (Nat.ble 33 pc) (cond (Nat.ble 39 pc) (cond (Nat.ble 42 pc) (cond (Nat.ble 43 pc) (cond (Nat.ble 44 pc) ((99, 0, 0, 0, 0)) ((34, 44, 0, 0, 0))) ((0, 43, 0, 0, (-1)))) (cond (Nat.ble 40 pc) (cond (Nat.ble 41 pc) ((34, 42, 0, 0, 0)) ((99, 0, 0, 0, 0))) ((99, 0, 0, 0, 0)))) (cond (Nat.ble 36 pc) (cond (Nat.ble 37 pc) (cond (Nat.ble 38 pc) ((28, 41, 78, 3, 0)) ((1, 38, 2, 0, 0))) ((8, 37, 0, 0, 0))) (cond (Nat.ble 34 pc) (cond (Nat.ble 35 pc) ((1, 36, 1, 0, 0)) ((0, 35, 0, 0, 1))) ((2, 34, 0, 0, 0))))) (cond (Nat.ble 27 pc) (cond (Nat.ble 30 pc) (cond (Nat.ble 31 pc) ((99, 0, 0, 0, 0)) ((16, 33, 0, 42, 0))) (cond (Nat.ble 28 pc) ((99, 0, 0, 0, 0)) ((28, 30, 77, 3, 0)))) (cond (Nat.ble 24 pc) (cond (Nat.ble 25 pc) ((99, 0, 0, 0, 0)) ((15, 27, 74, 0, 9))) (cond (Nat.ble 23 pc) ((15, 24, 0, 0, 1)) ((13, 23, 0, 0, 0)))))) (cond (Nat.ble 11 pc) (cond (Nat.ble 16 pc) (cond (Nat.ble 19 pc) (cond (Nat.ble 20 pc) (cond (Nat.ble 21 pc) ((1, 22, 2, 0, 0)) ((99, 0, 0, 0, 0))) ((99, 0, 0, 0, 0))) (cond (Nat.ble 17 pc) (cond (Nat.ble 18 pc) ((17, 21, 1, 42, 0)) ((0, 18, 0, 0, 1))) ((1, 17, 1, 0, 0)))) (cond (Nat.ble 13 pc) (cond (Nat.ble 14 pc) ((99, 0, 0, 0, 0)) ((16, 16, 1, 33, 0))) ((99, 0, 0, 0, 0)))) (cond (Nat.ble 5 pc) (cond (Nat.ble 8 pc) (cond (Nat.ble 9 pc) (cond (Nat.ble 10 pc) ((28, 13, 77, 3, 0)) ((99, 0, 0, 0, 0))) ((99, 0, 0, 0, 0))) (cond (Nat.ble 6 pc) (cond (Nat.ble 7 pc) ((15, 10, 70, 0, 3)) ((15, 7, 0, 0, 0))) ((13, 6, 0, 0, 0)))) (cond (Nat.ble 2 pc) (cond (Nat.ble 3 pc) (cond (Nat.ble 4 pc) ((1, 5, 2, 0, 0)) ((99, 0, 0, 0, 0))) ((99, 0, 0, 0, 0))) (cond (Nat.ble 1 pc) ((16, 4, 1, 16, 0)) ((1, 1, 1, 0, 0))))))
def zc_X6_paint : Nat → zE := fun pc => cond (Nat.ble 34 pc) (cond (Nat.ble 51 pc) (cond (Nat.ble 59 pc) (cond (Nat.ble 63 pc) (cond (Nat.ble 65 pc) (cond (Nat.ble 66 pc) (cond (Nat.ble 67 pc) ((99, 0, 0, 0, 0)) ((34, 67, 0, 0, 0))) ((8, 66, 0, 0, 0))) (cond (Nat.ble 64 pc) ((0, 65, 0, 0, 1)) ((1, 64, 2, 0, 0)))) (cond (Nat.ble 61 pc) (cond (Nat.ble 62 pc) ((24, 63, 0, 0, 0)) ((8, 62, 0, 0, 0))) (cond (Nat.ble 60 pc) ((0, 61, 0, 0, 1)) ((1, 60, 2, 0, 0))))) (cond (Nat.ble 55 pc) (cond (Nat.ble 57 pc) (cond (Nat.ble 58 pc) ((0, 59, 0, 0, 4)) ((99, 0, 0, 0, 0))) (cond (Nat.ble 56 pc) ((99, 0, 0, 0, 0)) ((20, 58, 6, 0, 0)))) (cond (Nat.ble 53 pc) (cond (Nat.ble 54 pc) ((2, 55, 0, 0, 0)) ((24, 54, 0, 0, 0))) (cond (Nat.ble 52 pc) ((1, 53, 1, 0, 0)) ((8, 52, 0, 0, 0)))))) (cond (Nat.ble 42 pc) (cond (Nat.ble 46 pc) (cond (Nat.ble 48 pc) (cond (Nat.ble 49 pc) (cond (Nat.ble 50 pc) ((1, 51, 2, 0, 0)) ((99, 0, 0, 0, 0))) ((0, 50, 0, 0, 9))) ((99, 0, 0, 0, 0))) (cond (Nat.ble 44 pc) (cond (Nat.ble 45 pc) ((20, 48, 6, 0, 0)) ((2, 45, 0, 0, 0))) (cond (Nat.ble 43 pc) ((34, 44, 0, 0, 0)) ((99, 0, 0, 0, 0))))) (cond (Nat.ble 38 pc) (cond (Nat.ble 40 pc) (cond (Nat.ble 41 pc) ((0, 43, 0, 0, (-3))) ((99, 0, 0, 0, 0))) (cond (Nat.ble 39 pc) ((99, 0, 0, 0, 0)) ((17, 41, 1, 44, 0)))) (cond (Nat.ble 36 pc) (cond (Nat.ble 37 pc) ((99, 0, 0, 0, 0)) ((0, 38, 0, 0, 48))) (cond (Nat.ble 35 pc) ((1, 36, 2, 0, 0)) ((34, 35, 0, 0, 0))))))) (cond (Nat.ble 17 pc) (cond (Nat.ble 25 pc) (cond (Nat.ble 29 pc) (cond (Nat.ble 31 pc) (cond (Nat.ble 32 pc) (cond (Nat.ble 33 pc) ((99, 0, 0, 0, 0)) ((0, 34, 0, 0, (-2)))) ((99, 0, 0, 0, 0))) (cond (Nat.ble 30 pc) ((99, 0, 0, 0, 0)) ((16, 32, 5, 35, 0)))) (cond (Nat.ble 27 pc) ((99, 0, 0, 0, 0)) (cond (Nat.ble 26 pc) ((28, 29, 81, 2, 0)) ((8, 26, 0, 0, 0))))) (cond (Nat.ble 21 pc) (cond (Nat.ble 23 pc) (cond (Nat.ble 24 pc) ((0, 25, 0, 0, 1)) ((1, 24, 2, 0, 0))) (cond (Nat.ble 22 pc) ((2, 23, 0, 0, 0)) ((24, 22, 0, 0, 0)))) (cond (Nat.ble 19 pc) (cond (Nat.ble 20 pc) ((1, 21, 1, 0, 0)) ((1, 20, 2, 0, 0))) ((99, 0, 0, 0, 0))))) (cond (Nat.ble 8 pc) (cond (Nat.ble 12 pc) (cond (Nat.ble 14 pc) (cond (Nat.ble 15 pc) (cond (Nat.ble 16 pc) ((20, 19, 6, 8, 0)) ((2, 16, 0, 0, 0))) ((4, 15, 2, 0, 0))) ((99, 0, 0, 0, 0))) (cond (Nat.ble 10 pc) (cond (Nat.ble 11 pc) ((28, 14, 82, 1, 0)) ((2, 11, 0, 0, 0))) (cond (Nat.ble 9 pc) ((34, 10, 0, 0, 0)) ((0, 9, 0, 0, (-1)))))) (cond (Nat.ble 4 pc) (cond (Nat.ble 6 pc) ((99, 0, 0, 0, 0)) (cond (Nat.ble 5 pc) ((16, 8, 1, 10, 0)) ((99, 0, 0, 0, 0)))) (cond (Nat.ble 2 pc) (cond (Nat.ble 3 pc) ((99, 0, 0, 0, 0)) ((28, 5, 86, 2, 0))) (cond (Nat.ble 1 pc) ((1, 2, 1, 0, 0)) ((2, 1, 0, 0, 0)))))))
def zc_X6_scrape : Nat → zE := fun pc => cond (Nat.ble 22 pc) (cond (Nat.ble 33 pc) (cond (Nat.ble 39 pc) (cond (Nat.ble 42 pc) (cond (Nat.ble 43 pc) (cond (Nat.ble 44 pc) ((99, 0, 0, 0, 0)) ((34, 44, 0, 0, 0))) ((23, 43, 0, 0, 0))) (cond (Nat.ble 40 pc) (cond (Nat.ble 41 pc) ((0, 42, 0, 0, 4)) ((99, 0, 0, 0, 0))) ((99, 0, 0, 0, 0)))) (cond (Nat.ble 36 pc) (cond (Nat.ble 37 pc) (cond (Nat.ble 38 pc) ((20, 41, 6, 0, 0)) ((2, 38, 0, 0, 0))) ((24, 37, 0, 0, 0))) (cond (Nat.ble 34 pc) (cond (Nat.ble 35 pc) ((8, 36, 1, 0, 0)) ((1, 35, 1, 0, 0))) ((23, 34, 0, 0, 0))))) (cond (Nat.ble 27 pc) (cond (Nat.ble 30 pc) (cond (Nat.ble 31 pc) (cond (Nat.ble 32 pc) ((31, 33, 0, 0, 0)) ((0, 32, 0, 0, 4))) ((99, 0, 0, 0, 0))) (cond (Nat.ble 28 pc) (cond (Nat.ble 29 pc) ((99, 0, 0, 0, 0)) ((20, 31, 6, 0, 0))) ((2, 28, 0, 0, 0)))) (cond (Nat.ble 24 pc) (cond (Nat.ble 25 pc) (cond (Nat.ble 26 pc) ((34, 27, 0, 0, 0)) ((99, 0, 0, 0, 0))) ((0, 26, 0, 0, (-2)))) ((99, 0, 0, 0, 0))))) (cond (Nat.ble 11 pc) (cond (Nat.ble 16 pc) (cond (Nat.ble 19 pc) (cond (Nat.ble 20 pc) (cond (Nat.ble 21 pc) ((17, 24, 5, 27, 0)) ((23, 21, 0, 0, 0))) ((0, 20, 0, 0, 4))) (cond (Nat.ble 17 pc) ((99, 0, 0, 0, 0)) ((20, 19, 6, 0, 0)))) (cond (Nat.ble 13 pc) (cond (Nat.ble 14 pc) (cond (Nat.ble 15 pc) ((2, 16, 0, 0, 0)) ((1, 15, 1, 0, 0))) ((34, 14, 0, 0, 0))) (cond (Nat.ble 12 pc) ((0, 13, 0, 0, (-1))) ((99, 0, 0, 0, 0))))) (cond (Nat.ble 5 pc) (cond (Nat.ble 8 pc) (cond (Nat.ble 9 pc) (cond (Nat.ble 10 pc) ((99, 0, 0, 0, 0)) ((16, 12, 1, 14, 0))) ((99, 0, 0, 0, 0))) (cond (Nat.ble 6 pc) (cond (Nat.ble 7 pc) ((99, 0, 0, 0, 0)) ((28, 9, 77, 3, 0))) ((99, 0, 0, 0, 0)))) (cond (Nat.ble 2 pc) (cond (Nat.ble 3 pc) (cond (Nat.ble 4 pc) ((99, 0, 0, 0, 0)) ((15, 6, 87, 0, 48))) ((15, 3, 0, 0, 1))) (cond (Nat.ble 1 pc) ((13, 2, 0, 0, 0)) ((1, 1, 1, 0, 0))))))
def zc_X6_pale : Nat → zE := fun pc => cond (Nat.ble 11 pc) (cond (Nat.ble 17 pc) (cond (Nat.ble 20 pc) (cond (Nat.ble 21 pc) (cond (Nat.ble 22 pc) ((99, 0, 0, 0, 0)) ((34, 22, 0, 0, 0))) ((0, 21, 0, 0, (-1)))) (cond (Nat.ble 18 pc) ((99, 0, 0, 0, 0)) ((19, 20, 0, 21, 0)))) (cond (Nat.ble 14 pc) (cond (Nat.ble 15 pc) (cond (Nat.ble 16 pc) ((23, 17, 0, 0, 0)) ((8, 16, 0, 0, 0))) ((1, 15, 1, 0, 0))) (cond (Nat.ble 12 pc) (cond (Nat.ble 13 pc) ((99, 0, 0, 0, 0)) ((0, 14, 0, 0, 9))) ((99, 0, 0, 0, 0))))) (cond (Nat.ble 5 pc) (cond (Nat.ble 8 pc) (cond (Nat.ble 9 pc) (cond (Nat.ble 10 pc) ((99, 0, 0, 0, 0)) ((20, 12, 6, 0, 0))) ((2, 9, 0, 0, 0))) (cond (Nat.ble 6 pc) ((99, 0, 0, 0, 0)) ((16, 8, 0, 20, 0)))) (cond (Nat.ble 2 pc) (cond (Nat.ble 3 pc) ((99, 0, 0, 0, 0)) ((28, 5, 85, 2, 0))) (cond (Nat.ble 1 pc) ((1, 2, 1, 0, 0)) ((2, 1, 0, 0, 0)))))
def zc_X6_type : Nat → zE := fun pc => cond (Nat.ble 70 pc) (cond (Nat.ble 105 pc) (cond (Nat.ble 123 pc) (cond (Nat.ble 132 pc) (cond (Nat.ble 136 pc) (cond (Nat.ble 138 pc) (cond (Nat.ble 139 pc) (cond (Nat.ble 140 pc) ((99, 0, 0, 0, 0)) ((34, 140, 0, 0, 0))) ((99, 0, 0, 0, 0))) (cond (Nat.ble 137 pc) ((99, 0, 0, 0, 0)) ((20, 139, 6, 4, 0)))) (cond (Nat.ble 134 pc) (cond (Nat.ble 135 pc) ((2, 136, 0, 0, 0)) ((99, 0, 0, 0, 0))) (cond (Nat.ble 133 pc) ((99, 0, 0, 0, 0)) ((19, 135, 0, 93, 0))))) (cond (Nat.ble 127 pc) (cond (Nat.ble 129 pc) (cond (Nat.ble 130 pc) ((99, 0, 0, 0, 0)) ((7, 132, 5, 0, (-1)))) ((99, 0, 0, 0, 0))) (cond (Nat.ble 125 pc) (cond (Nat.ble 126 pc) ((21, 129, 6, 4, 0)) ((8, 126, 0, 0, 0))) (cond (Nat.ble 124 pc) ((0, 125, 0, 0, 1)) ((99, 0, 0, 0, 0)))))) (cond (Nat.ble 114 pc) (cond (Nat.ble 118 pc) (cond (Nat.ble 120 pc) (cond (Nat.ble 121 pc) (cond (Nat.ble 122 pc) ((99, 0, 0, 0, 0)) ((20, 124, 6, 4, 0))) ((30, 121, 0, 0, 0))) (cond (Nat.ble 119 pc) ((2, 120, 0, 0, 0)) ((24, 119, 0, 0, 0)))) (cond (Nat.ble 116 pc) (cond (Nat.ble 117 pc) ((13, 118, 1, 0, 0)) ((11, 117, 2, 0, 0))) ((99, 0, 0, 0, 0)))) (cond (Nat.ble 109 pc) (cond (Nat.ble 111 pc) (cond (Nat.ble 112 pc) (cond (Nat.ble 113 pc) ((15, 116, 94, 0, 255)) ((12, 113, 1, 0, 0))) ((8, 112, 2, 0, 0))) (cond (Nat.ble 110 pc) ((99, 0, 0, 0, 0)) ((1, 111, 5, 0, 0)))) (cond (Nat.ble 107 pc) (cond (Nat.ble 108 pc) ((99, 0, 0, 0, 0)) ((0, 109, 0, 0, 8))) (cond (Nat.ble 106 pc) ((3, 107, 1, 0, 0)) ((99, 0, 0, 0, 0))))))) (cond (Nat.ble 87 pc) (cond (Nat.ble 96 pc) (cond (Nat.ble 100 pc) (cond (Nat.ble 102 pc) (cond (Nat.ble 103 pc) (cond (Nat.ble 104 pc) ((99, 0, 0, 0, 0)) ((20, 106, 6, 4, 0))) ((2, 103, 0, 0, 0))) ((99, 0, 0, 0, 0))) (cond (Nat.ble 98 pc) (cond (Nat.ble 99 pc) ((20, 102, 6, 3, 0)) ((2, 99, 0, 0, 0))) ((99, 0, 0, 0, 0)))) (cond (Nat.ble 91 pc) (cond (Nat.ble 93 pc) (cond (Nat.ble 94 pc) (cond (Nat.ble 95 pc) ((16, 98, 2, 135, 0)) ((99, 0, 0, 0, 0))) ((1, 95, 5, 0, 0))) (cond (Nat.ble 92 pc) ((99, 0, 0, 0, 0)) ((4, 93, 5, 0, 0)))) (cond (Nat.ble 89 pc) (cond (Nat.ble 90 pc) ((8, 91, 1, 0, 0)) ((0, 90, 0, 0, 1))) (cond (Nat.ble 88 pc) ((1, 89, 3, 0, 0)) ((34, 88, 0, 0, 0)))))) (cond (Nat.ble 78 pc) (cond (Nat.ble 82 pc) (cond (Nat.ble 84 pc) (cond (Nat.ble 85 pc) (cond (Nat.ble 86 pc) ((99, 0, 0, 0, 0)) ((0, 87, 0, 0, (-3)))) ((99, 0, 0, 0, 0))) (cond (Nat.ble 83 pc) ((99, 0, 0, 0, 0)) ((17, 85, 5, 88, 0)))) (cond (Nat.ble 80 pc) (cond (Nat.ble 81 pc) ((99, 0, 0, 0, 0)) ((0, 82, 0, 0, 100))) (cond (Nat.ble 79 pc) ((8, 80, 0, 0, 0)) ((1, 79, 3, 0, 0))))) (cond (Nat.ble 74 pc) (cond (Nat.ble 76 pc) ((99, 0, 0, 0, 0)) (cond (Nat.ble 75 pc) ((20, 78, 6, 4, 0)) ((2, 75, 0, 0, 0)))) (cond (Nat.ble 72 pc) (cond (Nat.ble 73 pc) ((34, 74, 0, 0, 0)) ((0, 73, 0, 0, (-1)))) ((99, 0, 0, 0, 0))))))) (cond (Nat.ble 35 pc) (cond (Nat.ble 52 pc) (cond (Nat.ble 61 pc) (cond (Nat.ble 65 pc) (cond (Nat.ble 67 pc) (cond (Nat.ble 68 pc) (cond (Nat.ble 69 pc) ((16, 72, 1, 74, 0)) ((99, 0, 0, 0, 0))) ((1, 69, 4, 0, 0))) ((99, 0, 0, 0, 0))) (cond (Nat.ble 63 pc) (cond (Nat.ble 64 pc) ((19, 67, 0, 20, 0)) ((99, 0, 0, 0, 0))) (cond (Nat.ble 62 pc) ((99, 0, 0, 0, 0)) ((7, 64, 5, 0, 1))))) (cond (Nat.ble 56 pc) (cond (Nat.ble 58 pc) (cond (Nat.ble 59 pc) (cond (Nat.ble 60 pc) ((99, 0, 0, 0, 0)) ((4, 61, 4, 0, 0))) ((0, 59, 0, 0, 0))) ((99, 0, 0, 0, 0))) (cond (Nat.ble 54 pc) (cond (Nat.ble 55 pc) ((19, 58, 0, 59, 0)) ((0, 55, 0, 0, 1))) ((99, 0, 0, 0, 0))))) (cond (Nat.ble 43 pc) (cond (Nat.ble 47 pc) (cond (Nat.ble 49 pc) (cond (Nat.ble 50 pc) (cond (Nat.ble 51 pc) ((16, 54, 0, 58, 0)) ((99, 0, 0, 0, 0))) ((99, 0, 0, 0, 0))) (cond (Nat.ble 48 pc) ((28, 51, 77, 3, 0)) ((99, 0, 0, 0, 0)))) (cond (Nat.ble 45 pc) (cond (Nat.ble 46 pc) ((99, 0, 0, 0, 0)) ((15, 48, 98, 0, 126))) ((99, 0, 0, 0, 0)))) (cond (Nat.ble 39 pc) (cond (Nat.ble 41 pc) (cond (Nat.ble 42 pc) ((15, 45, 96, 0, 32)) ((11, 42, 2, 0, 0))) ((99, 0, 0, 0, 0))) (cond (Nat.ble 37 pc) (cond (Nat.ble 38 pc) ((15, 41, 94, 0, 255)) ((12, 38, 1, 0, 0))) (cond (Nat.ble 36 pc) ((8, 37, 2, 0, 0)) ((99, 0, 0, 0, 0))))))) (cond (Nat.ble 17 pc) (cond (Nat.ble 26 pc) (cond (Nat.ble 30 pc) (cond (Nat.ble 32 pc) (cond (Nat.ble 33 pc) (cond (Nat.ble 34 pc) ((1, 36, 5, 0, 0)) ((99, 0, 0, 0, 0))) ((0, 34, 0, 0, 8))) (cond (Nat.ble 31 pc) ((3, 32, 1, 0, 0)) ((99, 0, 0, 0, 0)))) (cond (Nat.ble 28 pc) (cond (Nat.ble 29 pc) ((99, 0, 0, 0, 0)) ((16, 31, 0, 58, 0))) (cond (Nat.ble 27 pc) ((99, 0, 0, 0, 0)) ((1, 28, 4, 0, 0))))) (cond (Nat.ble 21 pc) (cond (Nat.ble 23 pc) (cond (Nat.ble 24 pc) ((99, 0, 0, 0, 0)) ((17, 26, 3, 67, 0))) (cond (Nat.ble 22 pc) ((1, 23, 3, 0, 0)) ((99, 0, 0, 0, 0)))) (cond (Nat.ble 19 pc) (cond (Nat.ble 20 pc) ((1, 22, 5, 0, 0)) ((99, 0, 0, 0, 0))) (cond (Nat.ble 18 pc) ((4, 20, 5, 0, 0)) ((0, 18, 0, 0, 0)))))) (cond (Nat.ble 8 pc) (cond (Nat.ble 12 pc) (cond (Nat.ble 14 pc) (cond (Nat.ble 15 pc) (cond (Nat.ble 16 pc) ((99, 0, 0, 0, 0)) ((4, 17, 4, 0, 0))) ((0, 15, 0, 0, 1))) (cond (Nat.ble 13 pc) ((34, 14, 0, 0, 0)) ((0, 13, 0, 0, (-1))))) (cond (Nat.ble 10 pc) ((99, 0, 0, 0, 0)) (cond (Nat.ble 9 pc) ((16, 12, 1, 14, 0)) ((99, 0, 0, 0, 0))))) (cond (Nat.ble 4 pc) (cond (Nat.ble 6 pc) (cond (Nat.ble 7 pc) ((99, 0, 0, 0, 0)) ((28, 9, 77, 3, 0))) ((99, 0, 0, 0, 0))) (cond (Nat.ble 2 pc) (cond (Nat.ble 3 pc) ((15, 6, 92, 0, 8)) ((15, 3, 0, 0, 1))) (cond (Nat.ble 1 pc) ((13, 2, 0, 0, 0)) ((1, 1, 3, 0, 0))))))))
def zc_X6_colourOf : Nat → zE := fun pc => cond (Nat.ble 22 pc) (cond (Nat.ble 33 pc) (cond (Nat.ble 38 pc) (cond (Nat.ble 41 pc) (cond (Nat.ble 42 pc) (cond (Nat.ble 43 pc) ((99, 0, 0, 0, 0)) ((34, 43, 0, 0, 0))) ((99, 0, 0, 0, 0))) (cond (Nat.ble 39 pc) (cond (Nat.ble 40 pc) ((0, 42, 0, 0, (-4))) ((99, 0, 0, 0, 0))) ((99, 0, 0, 0, 0)))) (cond (Nat.ble 35 pc) (cond (Nat.ble 36 pc) (cond (Nat.ble 37 pc) ((19, 40, 0, 42, 0)) ((0, 37, 0, 0, 3))) ((99, 0, 0, 0, 0))) (cond (Nat.ble 34 pc) ((99, 0, 0, 0, 0)) ((17, 36, 1, 40, 0))))) (cond (Nat.ble 27 pc) (cond (Nat.ble 30 pc) (cond (Nat.ble 31 pc) (cond (Nat.ble 32 pc) ((99, 0, 0, 0, 0)) ((0, 33, 0, 0, 103))) ((1, 31, 0, 0, 0))) (cond (Nat.ble 28 pc) ((99, 0, 0, 0, 0)) ((19, 30, 0, 42, 0)))) (cond (Nat.ble 24 pc) (cond (Nat.ble 25 pc) (cond (Nat.ble 26 pc) ((0, 27, 0, 0, 2)) ((99, 0, 0, 0, 0))) ((99, 0, 0, 0, 0))) (cond (Nat.ble 23 pc) ((17, 26, 1, 30, 0)) ((99, 0, 0, 0, 0)))))) (cond (Nat.ble 11 pc) (cond (Nat.ble 16 pc) (cond (Nat.ble 19 pc) (cond (Nat.ble 20 pc) (cond (Nat.ble 21 pc) ((0, 23, 0, 0, 98)) ((1, 21, 0, 0, 0))) ((99, 0, 0, 0, 0))) (cond (Nat.ble 17 pc) (cond (Nat.ble 18 pc) ((99, 0, 0, 0, 0)) ((19, 20, 0, 42, 0))) ((0, 17, 0, 0, 1)))) (cond (Nat.ble 13 pc) (cond (Nat.ble 14 pc) ((99, 0, 0, 0, 0)) ((17, 16, 1, 20, 0))) (cond (Nat.ble 12 pc) ((99, 0, 0, 0, 0)) ((0, 13, 0, 0, 119))))) (cond (Nat.ble 5 pc) (cond (Nat.ble 8 pc) (cond (Nat.ble 9 pc) (cond (Nat.ble 10 pc) ((1, 11, 0, 0, 0)) ((99, 0, 0, 0, 0))) ((99, 0, 0, 0, 0))) (cond (Nat.ble 6 pc) (cond (Nat.ble 7 pc) ((19, 10, 0, 42, 0)) ((0, 7, 0, 0, 0))) ((99, 0, 0, 0, 0)))) (cond (Nat.ble 2 pc) (cond (Nat.ble 3 pc) (cond (Nat.ble 4 pc) ((99, 0, 0, 0, 0)) ((17, 6, 1, 10, 0))) ((99, 0, 0, 0, 0))) (cond (Nat.ble 1 pc) ((0, 3, 0, 0, 114)) ((1, 1, 0, 0, 0))))))
def zc_X6_fence : Nat → zE := fun pc => cond (Nat.ble 61 pc) (cond (Nat.ble 91 pc) (cond (Nat.ble 106 pc) (cond (Nat.ble 114 pc) (cond (Nat.ble 118 pc) (cond (Nat.ble 120 pc) (cond (Nat.ble 121 pc) ((99, 0, 0, 0, 0)) ((34, 121, 0, 0, 0))) (cond (Nat.ble 119 pc) ((1, 120, 2, 0, 0)) ((24, 119, 0, 0, 0)))) (cond (Nat.ble 116 pc) (cond (Nat.ble 117 pc) ((1, 118, 2, 0, 0)) ((0, 117, 0, 0, 4))) ((99, 0, 0, 0, 0)))) (cond (Nat.ble 110 pc) (cond (Nat.ble 112 pc) (cond (Nat.ble 113 pc) ((20, 116, 6, 0, 0)) ((2, 113, 0, 0, 0))) ((99, 0, 0, 0, 0))) (cond (Nat.ble 108 pc) (cond (Nat.ble 109 pc) ((19, 112, 0, 86, 0)) ((99, 0, 0, 0, 0))) (cond (Nat.ble 107 pc) ((99, 0, 0, 0, 0)) ((7, 109, 3, 0, 1)))))) (cond (Nat.ble 98 pc) (cond (Nat.ble 102 pc) (cond (Nat.ble 104 pc) (cond (Nat.ble 105 pc) ((24, 106, 0, 0, 0)) ((23, 105, 0, 0, 0))) (cond (Nat.ble 103 pc) ((1, 104, 3, 0, 0)) ((99, 0, 0, 0, 0)))) (cond (Nat.ble 100 pc) (cond (Nat.ble 101 pc) ((99, 0, 0, 0, 0)) ((20, 103, 6, 8, 0))) (cond (Nat.ble 99 pc) ((2, 100, 0, 0, 0)) ((8, 99, 0, 0, 0))))) (cond (Nat.ble 94 pc) (cond (Nat.ble 96 pc) (cond (Nat.ble 97 pc) ((1, 98, 3, 0, 0)) ((99, 0, 0, 0, 0))) (cond (Nat.ble 95 pc) ((0, 97, 0, 0, 9)) ((99, 0, 0, 0, 0)))) (cond (Nat.ble 92 pc) (cond (Nat.ble 93 pc) ((99, 0, 0, 0, 0)) ((20, 95, 6, 0, 0))) ((2, 92, 0, 0, 0)))))) (cond (Nat.ble 76 pc) (cond (Nat.ble 83 pc) (cond (Nat.ble 87 pc) (cond (Nat.ble 89 pc) ((99, 0, 0, 0, 0)) (cond (Nat.ble 88 pc) ((17, 91, 3, 112, 0)) ((1, 88, 2, 0, 0)))) (cond (Nat.ble 85 pc) (cond (Nat.ble 86 pc) ((1, 87, 3, 0, 0)) ((4, 86, 3, 0, 0))) (cond (Nat.ble 84 pc) ((0, 85, 0, 0, 0)) ((99, 0, 0, 0, 0))))) (cond (Nat.ble 79 pc) (cond (Nat.ble 81 pc) (cond (Nat.ble 82 pc) ((99, 0, 0, 0, 0)) ((19, 84, 0, 14, 0))) ((99, 0, 0, 0, 0))) (cond (Nat.ble 77 pc) (cond (Nat.ble 78 pc) ((7, 81, 3, 0, 1)) ((99, 0, 0, 0, 0))) ((99, 0, 0, 0, 0))))) (cond (Nat.ble 68 pc) (cond (Nat.ble 72 pc) (cond (Nat.ble 74 pc) (cond (Nat.ble 75 pc) ((7, 78, 2, 0, 1)) ((24, 75, 0, 0, 0))) ((99, 0, 0, 0, 0))) (cond (Nat.ble 70 pc) (cond (Nat.ble 71 pc) ((28, 74, 94, 1, 0)) ((23, 71, 0, 0, 0))) (cond (Nat.ble 69 pc) ((1, 70, 3, 0, 0)) ((99, 0, 0, 0, 0))))) (cond (Nat.ble 64 pc) (cond (Nat.ble 66 pc) (cond (Nat.ble 67 pc) ((99, 0, 0, 0, 0)) ((20, 69, 6, 3, 0))) (cond (Nat.ble 65 pc) ((2, 66, 0, 0, 0)) ((1, 65, 2, 0, 0)))) (cond (Nat.ble 62 pc) ((99, 0, 0, 0, 0)) ((20, 64, 6, 8, 0))))))) (cond (Nat.ble 30 pc) (cond (Nat.ble 45 pc) (cond (Nat.ble 53 pc) (cond (Nat.ble 57 pc) (cond (Nat.ble 59 pc) (cond (Nat.ble 60 pc) ((2, 61, 0, 0, 0)) ((34, 60, 0, 0, 0))) (cond (Nat.ble 58 pc) ((8, 59, 1, 0, 0)) ((1, 58, 3, 0, 0)))) (cond (Nat.ble 55 pc) (cond (Nat.ble 56 pc) ((99, 0, 0, 0, 0)) ((0, 57, 0, 0, (-20)))) ((99, 0, 0, 0, 0)))) (cond (Nat.ble 49 pc) (cond (Nat.ble 51 pc) (cond (Nat.ble 52 pc) ((16, 55, 1, 60, 0)) ((99, 0, 0, 0, 0))) (cond (Nat.ble 50 pc) ((99, 0, 0, 0, 0)) ((28, 52, 86, 2, 0)))) (cond (Nat.ble 47 pc) ((99, 0, 0, 0, 0)) (cond (Nat.ble 46 pc) ((28, 49, 94, 1, 0)) ((23, 46, 0, 0, 0)))))) (cond (Nat.ble 37 pc) (cond (Nat.ble 41 pc) (cond (Nat.ble 43 pc) (cond (Nat.ble 44 pc) ((1, 45, 3, 0, 0)) ((99, 0, 0, 0, 0))) (cond (Nat.ble 42 pc) ((99, 0, 0, 0, 0)) ((20, 44, 6, 3, 0)))) (cond (Nat.ble 39 pc) (cond (Nat.ble 40 pc) ((2, 41, 0, 0, 0)) ((2, 40, 0, 0, 0))) ((99, 0, 0, 0, 0)))) (cond (Nat.ble 33 pc) (cond (Nat.ble 35 pc) (cond (Nat.ble 36 pc) ((17, 39, 0, 55, 0)) ((99, 0, 0, 0, 0))) (cond (Nat.ble 34 pc) ((0, 36, 0, 0, 48)) ((1, 34, 2, 0, 0)))) (cond (Nat.ble 31 pc) ((99, 0, 0, 0, 0)) ((19, 33, 0, 78, 0)))))) (cond (Nat.ble 15 pc) (cond (Nat.ble 22 pc) (cond (Nat.ble 26 pc) (cond (Nat.ble 28 pc) ((99, 0, 0, 0, 0)) (cond (Nat.ble 27 pc) ((17, 30, 1, 33, 0)) ((99, 0, 0, 0, 0)))) (cond (Nat.ble 24 pc) (cond (Nat.ble 25 pc) ((0, 27, 0, 0, 32)) ((23, 25, 0, 0, 0))) (cond (Nat.ble 23 pc) ((1, 24, 3, 0, 0)) ((99, 0, 0, 0, 0))))) (cond (Nat.ble 18 pc) (cond (Nat.ble 20 pc) (cond (Nat.ble 21 pc) ((99, 0, 0, 0, 0)) ((20, 23, 6, 3, 0))) (cond (Nat.ble 19 pc) ((2, 20, 0, 0, 0)) ((99, 0, 0, 0, 0)))) (cond (Nat.ble 16 pc) (cond (Nat.ble 17 pc) ((99, 0, 0, 0, 0)) ((17, 19, 3, 84, 0))) ((1, 16, 1, 0, 0))))) (cond (Nat.ble 7 pc) (cond (Nat.ble 11 pc) (cond (Nat.ble 13 pc) (cond (Nat.ble 14 pc) ((1, 15, 3, 0, 0)) ((4, 14, 3, 0, 0))) (cond (Nat.ble 12 pc) ((0, 13, 0, 0, 0)) ((4, 12, 2, 0, 0)))) (cond (Nat.ble 9 pc) (cond (Nat.ble 10 pc) ((0, 11, 0, 0, 0)) ((99, 0, 0, 0, 0))) (cond (Nat.ble 8 pc) ((99, 0, 0, 0, 0)) ((21, 10, 6, 4, 0))))) (cond (Nat.ble 3 pc) (cond (Nat.ble 5 pc) (cond (Nat.ble 6 pc) ((0, 7, 0, 0, 0)) ((2, 6, 0, 0, 0))) (cond (Nat.ble 4 pc) ((4, 5, 1, 0, 0)) ((99, 0, 0, 0, 0)))) (cond (Nat.ble 1 pc) (cond (Nat.ble 2 pc) ((99, 0, 0, 0, 0)) ((20, 4, 6, 4, 0))) ((2, 1, 0, 0, 0)))))))
def zc_X6_count : Nat → zE := fun pc => cond (Nat.ble 53 pc) (cond (Nat.ble 80 pc) (cond (Nat.ble 93 pc) (cond (Nat.ble 100 pc) (cond (Nat.ble 103 pc) (cond (Nat.ble 105 pc) (cond (Nat.ble 106 pc) ((99, 0, 0, 0, 0)) ((34, 106, 0, 0, 0))) (cond (Nat.ble 104 pc) ((1, 105, 3, 0, 0)) ((99, 0, 0, 0, 0)))) (cond (Nat.ble 101 pc) (cond (Nat.ble 102 pc) ((99, 0, 0, 0, 0)) ((19, 104, 0, 105, 0))) ((1, 101, 2, 0, 0)))) (cond (Nat.ble 96 pc) (cond (Nat.ble 98 pc) ((99, 0, 0, 0, 0)) (cond (Nat.ble 97 pc) ((17, 100, 1, 104, 0)) ((0, 97, 0, 0, 1)))) (cond (Nat.ble 94 pc) (cond (Nat.ble 95 pc) ((1, 96, 1, 0, 0)) ((99, 0, 0, 0, 0))) ((99, 0, 0, 0, 0))))) (cond (Nat.ble 86 pc) (cond (Nat.ble 89 pc) (cond (Nat.ble 91 pc) (cond (Nat.ble 92 pc) ((19, 95, 0, 105, 0)) ((23, 92, 0, 0, 0))) (cond (Nat.ble 90 pc) ((0, 91, 0, 0, 4)) ((99, 0, 0, 0, 0)))) (cond (Nat.ble 87 pc) (cond (Nat.ble 88 pc) ((99, 0, 0, 0, 0)) ((20, 90, 6, 0, 0))) ((2, 87, 0, 0, 0)))) (cond (Nat.ble 83 pc) (cond (Nat.ble 84 pc) ((99, 0, 0, 0, 0)) ((16, 86, 1, 95, 0))) (cond (Nat.ble 81 pc) (cond (Nat.ble 82 pc) ((1, 83, 1, 0, 0)) ((99, 0, 0, 0, 0))) ((99, 0, 0, 0, 0)))))) (cond (Nat.ble 66 pc) (cond (Nat.ble 73 pc) (cond (Nat.ble 76 pc) (cond (Nat.ble 78 pc) (cond (Nat.ble 79 pc) ((19, 82, 0, 21, 0)) ((99, 0, 0, 0, 0))) (cond (Nat.ble 77 pc) ((99, 0, 0, 0, 0)) ((7, 79, 4, 0, 1)))) (cond (Nat.ble 74 pc) (cond (Nat.ble 75 pc) ((4, 76, 3, 0, 0)) ((8, 75, 0, 0, 0))) ((0, 74, 0, 0, 0)))) (cond (Nat.ble 69 pc) (cond (Nat.ble 71 pc) ((99, 0, 0, 0, 0)) (cond (Nat.ble 70 pc) ((19, 73, 0, 74, 0)) ((0, 70, 0, 0, 1)))) (cond (Nat.ble 67 pc) ((99, 0, 0, 0, 0)) ((17, 69, 1, 73, 0))))) (cond (Nat.ble 59 pc) (cond (Nat.ble 62 pc) (cond (Nat.ble 64 pc) (cond (Nat.ble 65 pc) ((8, 66, 1, 0, 0)) ((0, 65, 0, 0, 2))) (cond (Nat.ble 63 pc) ((1, 64, 1, 0, 0)) ((23, 63, 0, 0, 0)))) (cond (Nat.ble 60 pc) (cond (Nat.ble 61 pc) ((8, 62, 0, 0, 0)) ((99, 0, 0, 0, 0))) ((1, 61, 4, 0, 0)))) (cond (Nat.ble 56 pc) (cond (Nat.ble 57 pc) (cond (Nat.ble 58 pc) ((99, 0, 0, 0, 0)) ((0, 59, 0, 0, 9))) ((99, 0, 0, 0, 0))) (cond (Nat.ble 54 pc) (cond (Nat.ble 55 pc) ((99, 0, 0, 0, 0)) ((20, 57, 6, 0, 0))) ((2, 54, 0, 0, 0))))))) (cond (Nat.ble 26 pc) (cond (Nat.ble 39 pc) (cond (Nat.ble 46 pc) (cond (Nat.ble 49 pc) (cond (Nat.ble 51 pc) (cond (Nat.ble 52 pc) ((1, 53, 3, 0, 0)) ((4, 52, 2, 0, 0))) (cond (Nat.ble 50 pc) ((8, 51, 0, 0, 0)) ((23, 50, 0, 0, 0)))) (cond (Nat.ble 47 pc) (cond (Nat.ble 48 pc) ((8, 49, 0, 0, 0)) ((23, 48, 0, 0, 0))) ((8, 47, 0, 0, 0)))) (cond (Nat.ble 42 pc) (cond (Nat.ble 44 pc) (cond (Nat.ble 45 pc) ((99, 0, 0, 0, 0)) ((1, 46, 4, 0, 0))) (cond (Nat.ble 43 pc) ((99, 0, 0, 0, 0)) ((0, 44, 0, 0, 9)))) (cond (Nat.ble 40 pc) ((99, 0, 0, 0, 0)) ((20, 42, 6, 0, 0))))) (cond (Nat.ble 32 pc) (cond (Nat.ble 35 pc) (cond (Nat.ble 37 pc) (cond (Nat.ble 38 pc) ((2, 39, 0, 0, 0)) ((0, 38, 0, 0, 5))) ((99, 0, 0, 0, 0))) (cond (Nat.ble 33 pc) (cond (Nat.ble 34 pc) ((20, 37, 6, 0, 0)) ((2, 34, 0, 0, 0))) ((1, 33, 2, 0, 0)))) (cond (Nat.ble 29 pc) (cond (Nat.ble 30 pc) ((99, 0, 0, 0, 0)) ((17, 32, 3, 82, 0))) (cond (Nat.ble 27 pc) (cond (Nat.ble 28 pc) ((23, 29, 0, 0, 0)) ((0, 28, 0, 0, 4))) ((99, 0, 0, 0, 0)))))) (cond (Nat.ble 13 pc) (cond (Nat.ble 19 pc) (cond (Nat.ble 22 pc) (cond (Nat.ble 24 pc) (cond (Nat.ble 25 pc) ((99, 0, 0, 0, 0)) ((20, 27, 6, 0, 0))) (cond (Nat.ble 23 pc) ((2, 24, 0, 0, 0)) ((99, 0, 0, 0, 0)))) (cond (Nat.ble 20 pc) (cond (Nat.ble 21 pc) ((1, 23, 4, 0, 0)) ((99, 0, 0, 0, 0))) ((4, 21, 4, 0, 0)))) (cond (Nat.ble 16 pc) (cond (Nat.ble 17 pc) (cond (Nat.ble 18 pc) ((0, 19, 0, 0, 0)) ((4, 18, 3, 0, 0))) ((0, 17, 0, 0, 0))) (cond (Nat.ble 14 pc) (cond (Nat.ble 15 pc) ((4, 16, 2, 0, 0)) ((0, 15, 0, 0, 0))) ((34, 14, 0, 0, 0))))) (cond (Nat.ble 6 pc) (cond (Nat.ble 9 pc) (cond (Nat.ble 11 pc) (cond (Nat.ble 12 pc) ((0, 13, 0, 0, (-1))) ((99, 0, 0, 0, 0))) (cond (Nat.ble 10 pc) ((99, 0, 0, 0, 0)) ((16, 12, 1, 14, 0)))) (cond (Nat.ble 7 pc) ((99, 0, 0, 0, 0)) ((28, 9, 77, 3, 0)))) (cond (Nat.ble 3 pc) (cond (Nat.ble 4 pc) ((99, 0, 0, 0, 0)) ((15, 6, 107, 0, 5))) (cond (Nat.ble 1 pc) (cond (Nat.ble 2 pc) ((15, 3, 0, 0, 0)) ((13, 2, 0, 0, 0))) ((1, 1, 1, 0, 0)))))))
def zc_X6_fault : Nat → zE := fun pc => cond (Nat.ble 22 pc) (cond (Nat.ble 33 pc) (cond (Nat.ble 39 pc) (cond (Nat.ble 42 pc) (cond (Nat.ble 43 pc) (cond (Nat.ble 44 pc) ((99, 0, 0, 0, 0)) ((34, 44, 0, 0, 0))) ((99, 0, 0, 0, 0))) (cond (Nat.ble 40 pc) (cond (Nat.ble 41 pc) ((99, 0, 0, 0, 0)) ((28, 43, 80, 2, 0))) ((1, 40, 2, 0, 0)))) (cond (Nat.ble 36 pc) (cond (Nat.ble 37 pc) (cond (Nat.ble 38 pc) ((2, 39, 0, 0, 0)) ((99, 0, 0, 0, 0))) ((99, 0, 0, 0, 0))) (cond (Nat.ble 34 pc) (cond (Nat.ble 35 pc) ((19, 38, 0, 43, 0)) ((1, 35, 2, 0, 0))) ((99, 0, 0, 0, 0))))) (cond (Nat.ble 27 pc) (cond (Nat.ble 30 pc) (cond (Nat.ble 31 pc) (cond (Nat.ble 32 pc) ((99, 0, 0, 0, 0)) ((16, 34, 1, 38, 0))) ((1, 31, 1, 0, 0))) (cond (Nat.ble 28 pc) ((99, 0, 0, 0, 0)) ((19, 30, 0, 43, 0)))) (cond (Nat.ble 24 pc) (cond (Nat.ble 25 pc) (cond (Nat.ble 26 pc) ((99, 0, 0, 0, 0)) ((0, 27, 0, 0, (-4)))) ((99, 0, 0, 0, 0))) (cond (Nat.ble 23 pc) ((99, 0, 0, 0, 0)) ((16, 25, 1, 30, 0)))))) (cond (Nat.ble 11 pc) (cond (Nat.ble 16 pc) (cond (Nat.ble 19 pc) (cond (Nat.ble 20 pc) (cond (Nat.ble 21 pc) ((1, 22, 2, 0, 0)) ((4, 21, 2, 0, 0))) ((99, 0, 0, 0, 0))) (cond (Nat.ble 17 pc) (cond (Nat.ble 18 pc) ((99, 0, 0, 0, 0)) ((28, 20, 81, 2, 0))) ((99, 0, 0, 0, 0)))) (cond (Nat.ble 13 pc) (cond (Nat.ble 14 pc) (cond (Nat.ble 15 pc) ((99, 0, 0, 0, 0)) ((28, 17, 82, 1, 0))) ((2, 14, 0, 0, 0))) (cond (Nat.ble 12 pc) ((2, 13, 0, 0, 0)) ((34, 12, 0, 0, 0))))) (cond (Nat.ble 5 pc) (cond (Nat.ble 8 pc) (cond (Nat.ble 9 pc) (cond (Nat.ble 10 pc) ((0, 11, 0, 0, (-1))) ((99, 0, 0, 0, 0))) ((99, 0, 0, 0, 0))) (cond (Nat.ble 6 pc) (cond (Nat.ble 7 pc) ((16, 10, 1, 12, 0)) ((99, 0, 0, 0, 0))) ((99, 0, 0, 0, 0)))) (cond (Nat.ble 2 pc) (cond (Nat.ble 3 pc) (cond (Nat.ble 4 pc) ((28, 7, 77, 3, 0)) ((15, 4, 0, 0, 1))) ((15, 3, 0, 0, 0))) (cond (Nat.ble 1 pc) ((13, 2, 0, 0, 0)) ((1, 1, 1, 0, 0))))))
def zc_X6_may : Nat → zE := fun pc => cond (Nat.ble 12 pc) (cond (Nat.ble 18 pc) (cond (Nat.ble 21 pc) (cond (Nat.ble 22 pc) (cond (Nat.ble 23 pc) ((99, 0, 0, 0, 0)) ((34, 23, 0, 0, 0))) ((99, 0, 0, 0, 0))) (cond (Nat.ble 19 pc) (cond (Nat.ble 20 pc) ((99, 0, 0, 0, 0)) ((28, 22, 83, 2, 0))) ((1, 19, 1, 0, 0)))) (cond (Nat.ble 15 pc) (cond (Nat.ble 16 pc) (cond (Nat.ble 17 pc) ((2, 18, 0, 0, 0)) ((99, 0, 0, 0, 0))) ((99, 0, 0, 0, 0))) (cond (Nat.ble 13 pc) (cond (Nat.ble 14 pc) ((19, 17, 0, 22, 0)) ((0, 14, 0, 0, 0))) ((99, 0, 0, 0, 0))))) (cond (Nat.ble 6 pc) (cond (Nat.ble 9 pc) (cond (Nat.ble 10 pc) (cond (Nat.ble 11 pc) ((99, 0, 0, 0, 0)) ((16, 13, 5, 17, 0))) ((99, 0, 0, 0, 0))) (cond (Nat.ble 7 pc) (cond (Nat.ble 8 pc) ((99, 0, 0, 0, 0)) ((28, 10, 81, 2, 0))) ((1, 7, 1, 0, 0)))) (cond (Nat.ble 3 pc) (cond (Nat.ble 4 pc) (cond (Nat.ble 5 pc) ((2, 6, 0, 0, 0)) ((4, 5, 1, 0, 0))) ((99, 0, 0, 0, 0))) (cond (Nat.ble 1 pc) (cond (Nat.ble 2 pc) ((99, 0, 0, 0, 0)) ((28, 4, 82, 1, 0))) ((2, 1, 0, 0, 0)))))
def zc_X6_kind : Nat → zE := fun pc => cond (Nat.ble 35 pc) (cond (Nat.ble 53 pc) (cond (Nat.ble 62 pc) (cond (Nat.ble 66 pc) (cond (Nat.ble 68 pc) (cond (Nat.ble 69 pc) (cond (Nat.ble 70 pc) ((99, 0, 0, 0, 0)) ((34, 70, 0, 0, 0))) ((0, 69, 0, 0, 1))) ((99, 0, 0, 0, 0))) (cond (Nat.ble 64 pc) (cond (Nat.ble 65 pc) ((19, 68, 0, 69, 0)) ((0, 65, 0, 0, 0))) ((99, 0, 0, 0, 0)))) (cond (Nat.ble 57 pc) (cond (Nat.ble 59 pc) (cond (Nat.ble 60 pc) (cond (Nat.ble 61 pc) ((17, 64, 5, 68, 0)) ((0, 61, 0, 0, 1))) ((99, 0, 0, 0, 0))) (cond (Nat.ble 58 pc) ((99, 0, 0, 0, 0)) ((28, 60, 84, 1, 0)))) (cond (Nat.ble 55 pc) (cond (Nat.ble 56 pc) ((99, 0, 0, 0, 0)) ((1, 57, 4, 0, 0))) ((99, 0, 0, 0, 0))))) (cond (Nat.ble 44 pc) (cond (Nat.ble 48 pc) (cond (Nat.ble 50 pc) (cond (Nat.ble 51 pc) (cond (Nat.ble 52 pc) ((19, 55, 0, 69, 0)) ((0, 52, 0, 0, 3))) ((99, 0, 0, 0, 0))) (cond (Nat.ble 49 pc) ((99, 0, 0, 0, 0)) ((16, 51, 1, 55, 0)))) (cond (Nat.ble 46 pc) (cond (Nat.ble 47 pc) ((1, 48, 3, 0, 0)) ((99, 0, 0, 0, 0))) (cond (Nat.ble 45 pc) ((4, 47, 4, 0, 0)) ((99, 0, 0, 0, 0))))) (cond (Nat.ble 39 pc) (cond (Nat.ble 41 pc) (cond (Nat.ble 42 pc) (cond (Nat.ble 43 pc) ((99, 0, 0, 0, 0)) ((28, 45, 83, 2, 0))) ((1, 42, 1, 0, 0))) (cond (Nat.ble 40 pc) ((2, 41, 0, 0, 0)) ((32, 40, 0, 0, 0)))) (cond (Nat.ble 37 pc) ((99, 0, 0, 0, 0)) (cond (Nat.ble 36 pc) ((28, 39, 82, 1, 0)) ((2, 36, 0, 0, 0))))))) (cond (Nat.ble 17 pc) (cond (Nat.ble 26 pc) (cond (Nat.ble 30 pc) (cond (Nat.ble 32 pc) (cond (Nat.ble 33 pc) (cond (Nat.ble 34 pc) ((4, 35, 3, 0, 0)) ((99, 0, 0, 0, 0))) ((99, 0, 0, 0, 0))) (cond (Nat.ble 31 pc) ((28, 34, 83, 2, 0)) ((8, 31, 0, 0, 0)))) (cond (Nat.ble 28 pc) (cond (Nat.ble 29 pc) ((0, 30, 0, 0, 1)) ((1, 29, 1, 0, 0))) (cond (Nat.ble 27 pc) ((2, 28, 0, 0, 0)) ((34, 27, 0, 0, 0))))) (cond (Nat.ble 21 pc) (cond (Nat.ble 23 pc) (cond (Nat.ble 24 pc) (cond (Nat.ble 25 pc) ((0, 26, 0, 0, 2)) ((99, 0, 0, 0, 0))) ((99, 0, 0, 0, 0))) (cond (Nat.ble 22 pc) ((16, 25, 5, 27, 0)) ((99, 0, 0, 0, 0)))) (cond (Nat.ble 19 pc) (cond (Nat.ble 20 pc) ((99, 0, 0, 0, 0)) ((28, 22, 81, 2, 0))) (cond (Nat.ble 18 pc) ((8, 19, 0, 0, 0)) ((0, 18, 0, 0, 1)))))) (cond (Nat.ble 8 pc) (cond (Nat.ble 12 pc) (cond (Nat.ble 14 pc) (cond (Nat.ble 15 pc) (cond (Nat.ble 16 pc) ((1, 17, 1, 0, 0)) ((2, 16, 0, 0, 0))) ((4, 15, 2, 0, 0))) ((99, 0, 0, 0, 0))) (cond (Nat.ble 10 pc) (cond (Nat.ble 11 pc) ((28, 14, 82, 1, 0)) ((2, 11, 0, 0, 0))) (cond (Nat.ble 9 pc) ((34, 10, 0, 0, 0)) ((0, 9, 0, 0, (-1)))))) (cond (Nat.ble 4 pc) (cond (Nat.ble 6 pc) ((99, 0, 0, 0, 0)) (cond (Nat.ble 5 pc) ((16, 8, 1, 10, 0)) ((99, 0, 0, 0, 0)))) (cond (Nat.ble 2 pc) (cond (Nat.ble 3 pc) ((99, 0, 0, 0, 0)) ((28, 5, 85, 2, 0))) (cond (Nat.ble 1 pc) ((1, 2, 1, 0, 0)) ((2, 1, 0, 0, 0)))))))
def zc_X6_reaches : Nat → zE := fun pc => cond (Nat.ble 78 pc) (cond (Nat.ble 117 pc) (cond (Nat.ble 136 pc) (cond (Nat.ble 146 pc) (cond (Nat.ble 151 pc) (cond (Nat.ble 153 pc) (cond (Nat.ble 154 pc) (cond (Nat.ble 155 pc) ((99, 0, 0, 0, 0)) ((34, 155, 0, 0, 0))) ((1, 154, 3, 0, 0))) ((99, 0, 0, 0, 0))) (cond (Nat.ble 148 pc) (cond (Nat.ble 149 pc) (cond (Nat.ble 150 pc) ((19, 153, 0, 26, 0)) ((4, 150, 3, 0, 0))) ((1, 149, 3, 0, 0))) ((99, 0, 0, 0, 0)))) (cond (Nat.ble 141 pc) (cond (Nat.ble 143 pc) (cond (Nat.ble 144 pc) (cond (Nat.ble 145 pc) ((19, 148, 0, 149, 0)) ((99, 0, 0, 0, 0))) ((1, 145, 4, 0, 0))) ((99, 0, 0, 0, 0))) (cond (Nat.ble 138 pc) (cond (Nat.ble 139 pc) (cond (Nat.ble 140 pc) ((17, 143, 5, 148, 0)) ((1, 140, 3, 0, 0))) ((99, 0, 0, 0, 0))) (cond (Nat.ble 137 pc) ((1, 139, 4, 0, 0)) ((99, 0, 0, 0, 0)))))) (cond (Nat.ble 126 pc) (cond (Nat.ble 131 pc) (cond (Nat.ble 133 pc) (cond (Nat.ble 134 pc) (cond (Nat.ble 135 pc) ((99, 0, 0, 0, 0)) ((19, 137, 0, 102, 0))) ((99, 0, 0, 0, 0))) (cond (Nat.ble 132 pc) ((99, 0, 0, 0, 0)) ((7, 134, 5, 0, 1)))) (cond (Nat.ble 128 pc) (cond (Nat.ble 129 pc) (cond (Nat.ble 130 pc) ((24, 131, 0, 0, 0)) ((23, 130, 0, 0, 0))) ((8, 129, 0, 0, 0))) (cond (Nat.ble 127 pc) ((99, 0, 0, 0, 0)) ((1, 128, 5, 0, 0))))) (cond (Nat.ble 121 pc) (cond (Nat.ble 123 pc) (cond (Nat.ble 124 pc) (cond (Nat.ble 125 pc) ((1, 126, 1, 0, 0)) ((99, 0, 0, 0, 0))) ((99, 0, 0, 0, 0))) (cond (Nat.ble 122 pc) ((20, 125, 6, 8, 0)) ((2, 122, 0, 0, 0)))) (cond (Nat.ble 119 pc) (cond (Nat.ble 120 pc) ((99, 0, 0, 0, 0)) ((1, 121, 5, 0, 0))) ((99, 0, 0, 0, 0)))))) (cond (Nat.ble 97 pc) (cond (Nat.ble 107 pc) (cond (Nat.ble 112 pc) (cond (Nat.ble 114 pc) (cond (Nat.ble 115 pc) (cond (Nat.ble 116 pc) ((20, 119, 6, 10, 0)) ((2, 116, 0, 0, 0))) ((99, 0, 0, 0, 0))) (cond (Nat.ble 113 pc) ((99, 0, 0, 0, 0)) ((17, 115, 5, 137, 0)))) (cond (Nat.ble 109 pc) (cond (Nat.ble 110 pc) (cond (Nat.ble 111 pc) ((1, 112, 3, 0, 0)) ((99, 0, 0, 0, 0))) ((1, 111, 4, 0, 0))) ((99, 0, 0, 0, 0)))) (cond (Nat.ble 102 pc) (cond (Nat.ble 104 pc) (cond (Nat.ble 105 pc) (cond (Nat.ble 106 pc) ((17, 109, 3, 137, 0)) ((99, 0, 0, 0, 0))) ((1, 106, 4, 0, 0))) (cond (Nat.ble 103 pc) ((99, 0, 0, 0, 0)) ((1, 104, 5, 0, 0)))) (cond (Nat.ble 99 pc) (cond (Nat.ble 100 pc) (cond (Nat.ble 101 pc) ((99, 0, 0, 0, 0)) ((4, 102, 5, 0, 0))) ((0, 100, 0, 0, 0))) (cond (Nat.ble 98 pc) ((24, 99, 0, 0, 0)) ((0, 98, 0, 0, (-1))))))) (cond (Nat.ble 87 pc) (cond (Nat.ble 92 pc) (cond (Nat.ble 94 pc) (cond (Nat.ble 95 pc) (cond (Nat.ble 96 pc) ((8, 97, 0, 0, 0)) ((99, 0, 0, 0, 0))) ((1, 96, 4, 0, 0))) (cond (Nat.ble 93 pc) ((1, 94, 1, 0, 0)) ((99, 0, 0, 0, 0)))) (cond (Nat.ble 89 pc) (cond (Nat.ble 90 pc) (cond (Nat.ble 91 pc) ((99, 0, 0, 0, 0)) ((20, 93, 6, 8, 0))) ((2, 90, 0, 0, 0))) ((99, 0, 0, 0, 0)))) (cond (Nat.ble 82 pc) (cond (Nat.ble 84 pc) (cond (Nat.ble 85 pc) (cond (Nat.ble 86 pc) ((7, 89, 4, 0, 1)) ((99, 0, 0, 0, 0))) ((99, 0, 0, 0, 0))) (cond (Nat.ble 83 pc) ((16, 86, 1, 26, 0)) ((99, 0, 0, 0, 0)))) (cond (Nat.ble 80 pc) (cond (Nat.ble 81 pc) ((99, 0, 0, 0, 0)) ((28, 83, 80, 2, 0))) (cond (Nat.ble 79 pc) ((8, 80, 0, 0, 0)) ((0, 79, 0, 0, 1)))))))) (cond (Nat.ble 39 pc) (cond (Nat.ble 58 pc) (cond (Nat.ble 68 pc) (cond (Nat.ble 73 pc) (cond (Nat.ble 75 pc) (cond (Nat.ble 76 pc) (cond (Nat.ble 77 pc) ((8, 78, 0, 0, 0)) ((99, 0, 0, 0, 0))) ((1, 77, 4, 0, 0))) (cond (Nat.ble 74 pc) ((1, 75, 1, 0, 0)) ((2, 74, 0, 0, 0)))) (cond (Nat.ble 70 pc) (cond (Nat.ble 71 pc) ((99, 0, 0, 0, 0)) ((19, 73, 0, 26, 0))) ((99, 0, 0, 0, 0)))) (cond (Nat.ble 63 pc) (cond (Nat.ble 65 pc) (cond (Nat.ble 66 pc) (cond (Nat.ble 67 pc) ((7, 70, 4, 0, (-1))) ((99, 0, 0, 0, 0))) ((99, 0, 0, 0, 0))) (cond (Nat.ble 64 pc) ((17, 67, 2, 73, 0)) ((23, 64, 0, 0, 0)))) (cond (Nat.ble 60 pc) (cond (Nat.ble 61 pc) (cond (Nat.ble 62 pc) ((0, 63, 0, 0, 0)) ((99, 0, 0, 0, 0))) ((99, 0, 0, 0, 0))) (cond (Nat.ble 59 pc) ((20, 62, 6, 0, 0)) ((2, 59, 0, 0, 0)))))) (cond (Nat.ble 48 pc) (cond (Nat.ble 53 pc) (cond (Nat.ble 55 pc) (cond (Nat.ble 56 pc) (cond (Nat.ble 57 pc) ((23, 58, 0, 0, 0)) ((8, 57, 0, 0, 0))) ((99, 0, 0, 0, 0))) (cond (Nat.ble 54 pc) ((1, 56, 4, 0, 0)) ((1, 54, 1, 0, 0)))) (cond (Nat.ble 50 pc) (cond (Nat.ble 51 pc) ((99, 0, 0, 0, 0)) ((20, 53, 6, 8, 0))) (cond (Nat.ble 49 pc) ((2, 50, 0, 0, 0)) ((24, 49, 0, 0, 0))))) (cond (Nat.ble 43 pc) (cond (Nat.ble 45 pc) (cond (Nat.ble 46 pc) (cond (Nat.ble 47 pc) ((8, 48, 0, 0, 0)) ((0, 47, 0, 0, 1))) ((23, 46, 0, 0, 0))) (cond (Nat.ble 44 pc) ((31, 45, 0, 0, 0)) ((8, 44, 0, 0, 0)))) (cond (Nat.ble 41 pc) (cond (Nat.ble 42 pc) ((99, 0, 0, 0, 0)) ((1, 43, 4, 0, 0))) (cond (Nat.ble 40 pc) ((1, 41, 1, 0, 0)) ((99, 0, 0, 0, 0))))))) (cond (Nat.ble 19 pc) (cond (Nat.ble 29 pc) (cond (Nat.ble 34 pc) (cond (Nat.ble 36 pc) (cond (Nat.ble 37 pc) (cond (Nat.ble 38 pc) ((99, 0, 0, 0, 0)) ((20, 40, 6, 8, 0))) ((2, 37, 0, 0, 0))) ((99, 0, 0, 0, 0))) (cond (Nat.ble 31 pc) (cond (Nat.ble 32 pc) (cond (Nat.ble 33 pc) ((17, 36, 3, 153, 0)) ((1, 33, 2, 0, 0))) ((1, 32, 3, 0, 0))) ((99, 0, 0, 0, 0)))) (cond (Nat.ble 24 pc) (cond (Nat.ble 26 pc) (cond (Nat.ble 27 pc) (cond (Nat.ble 28 pc) ((16, 31, 2, 153, 0)) ((99, 0, 0, 0, 0))) ((1, 28, 4, 0, 0))) (cond (Nat.ble 25 pc) ((24, 26, 0, 0, 0)) ((0, 25, 0, 0, (-1))))) (cond (Nat.ble 21 pc) (cond (Nat.ble 22 pc) (cond (Nat.ble 23 pc) ((1, 24, 1, 0, 0)) ((99, 0, 0, 0, 0))) ((99, 0, 0, 0, 0))) (cond (Nat.ble 20 pc) ((20, 23, 6, 8, 0)) ((2, 20, 0, 0, 0)))))) (cond (Nat.ble 9 pc) (cond (Nat.ble 14 pc) (cond (Nat.ble 16 pc) (cond (Nat.ble 17 pc) (cond (Nat.ble 18 pc) ((99, 0, 0, 0, 0)) ((4, 19, 4, 0, 0))) ((0, 17, 0, 0, 0))) (cond (Nat.ble 15 pc) ((4, 16, 3, 0, 0)) ((0, 15, 0, 0, 0)))) (cond (Nat.ble 11 pc) (cond (Nat.ble 12 pc) (cond (Nat.ble 13 pc) ((34, 14, 0, 0, 0)) ((0, 13, 0, 0, 0))) ((99, 0, 0, 0, 0))) (cond (Nat.ble 10 pc) ((99, 0, 0, 0, 0)) ((16, 12, 1, 14, 0))))) (cond (Nat.ble 4 pc) (cond (Nat.ble 6 pc) (cond (Nat.ble 7 pc) (cond (Nat.ble 8 pc) ((1, 9, 2, 0, 0)) ((99, 0, 0, 0, 0))) ((99, 0, 0, 0, 0))) (cond (Nat.ble 5 pc) ((16, 8, 4, 12, 0)) ((99, 0, 0, 0, 0)))) (cond (Nat.ble 2 pc) (cond (Nat.ble 3 pc) ((99, 0, 0, 0, 0)) ((28, 5, 81, 2, 0))) (cond (Nat.ble 1 pc) ((1, 2, 1, 0, 0)) ((2, 1, 0, 0, 0))))))))
def zc_X6_far : Nat → zE := fun pc => cond (Nat.ble 13 pc) (cond (Nat.ble 20 pc) (cond (Nat.ble 23 pc) (cond (Nat.ble 25 pc) (cond (Nat.ble 26 pc) ((99, 0, 0, 0, 0)) ((34, 26, 0, 0, 0))) (cond (Nat.ble 24 pc) ((0, 25, 0, 0, (-1))) ((99, 0, 0, 0, 0)))) (cond (Nat.ble 21 pc) (cond (Nat.ble 22 pc) ((99, 0, 0, 0, 0)) ((19, 24, 0, 25, 0))) ((99, 0, 0, 0, 0)))) (cond (Nat.ble 16 pc) (cond (Nat.ble 18 pc) (cond (Nat.ble 19 pc) ((99, 0, 0, 0, 0)) ((28, 21, 100, 3, 0))) (cond (Nat.ble 17 pc) ((1, 18, 1, 0, 0)) ((99, 0, 0, 0, 0)))) (cond (Nat.ble 14 pc) (cond (Nat.ble 15 pc) ((99, 0, 0, 0, 0)) ((28, 17, 82, 1, 0))) ((2, 14, 0, 0, 0))))) (cond (Nat.ble 6 pc) (cond (Nat.ble 9 pc) (cond (Nat.ble 11 pc) (cond (Nat.ble 12 pc) ((2, 13, 0, 0, 0)) ((99, 0, 0, 0, 0))) (cond (Nat.ble 10 pc) ((99, 0, 0, 0, 0)) ((16, 12, 0, 24, 0)))) (cond (Nat.ble 7 pc) ((99, 0, 0, 0, 0)) ((28, 9, 77, 3, 0)))) (cond (Nat.ble 3 pc) (cond (Nat.ble 4 pc) ((99, 0, 0, 0, 0)) ((15, 6, 115, 0, 16))) (cond (Nat.ble 1 pc) (cond (Nat.ble 2 pc) ((15, 3, 0, 0, 0)) ((13, 2, 0, 0, 0))) ((1, 1, 1, 0, 0)))))
def zc_X6_go : Nat → zE := fun pc => cond (Nat.ble 22 pc) (cond (Nat.ble 33 pc) (cond (Nat.ble 38 pc) (cond (Nat.ble 41 pc) (cond (Nat.ble 42 pc) (cond (Nat.ble 43 pc) ((99, 0, 0, 0, 0)) ((34, 43, 0, 0, 0))) ((99, 0, 0, 0, 0))) (cond (Nat.ble 39 pc) (cond (Nat.ble 40 pc) ((0, 42, 0, 0, (-4))) ((99, 0, 0, 0, 0))) ((99, 0, 0, 0, 0)))) (cond (Nat.ble 35 pc) (cond (Nat.ble 36 pc) (cond (Nat.ble 37 pc) ((19, 40, 0, 42, 0)) ((23, 37, 0, 0, 0))) ((1, 36, 2, 0, 0))) ((99, 0, 0, 0, 0)))) (cond (Nat.ble 27 pc) (cond (Nat.ble 30 pc) (cond (Nat.ble 31 pc) (cond (Nat.ble 32 pc) ((20, 35, 6, 10, 0)) ((2, 32, 0, 0, 0))) ((99, 0, 0, 0, 0))) (cond (Nat.ble 28 pc) (cond (Nat.ble 29 pc) ((99, 0, 0, 0, 0)) ((17, 31, 3, 40, 0))) ((99, 0, 0, 0, 0)))) (cond (Nat.ble 24 pc) (cond (Nat.ble 25 pc) (cond (Nat.ble 26 pc) ((99, 0, 0, 0, 0)) ((28, 28, 100, 3, 0))) ((1, 25, 1, 0, 0))) ((99, 0, 0, 0, 0))))) (cond (Nat.ble 11 pc) (cond (Nat.ble 16 pc) (cond (Nat.ble 19 pc) (cond (Nat.ble 20 pc) (cond (Nat.ble 21 pc) ((28, 24, 82, 1, 0)) ((2, 21, 0, 0, 0))) ((2, 20, 0, 0, 0))) (cond (Nat.ble 17 pc) (cond (Nat.ble 18 pc) ((1, 19, 2, 0, 0)) ((34, 18, 0, 0, 0))) ((0, 17, 0, 0, (-1))))) (cond (Nat.ble 13 pc) (cond (Nat.ble 14 pc) ((99, 0, 0, 0, 0)) ((16, 16, 3, 18, 0))) (cond (Nat.ble 12 pc) ((1, 13, 2, 0, 0)) ((99, 0, 0, 0, 0))))) (cond (Nat.ble 5 pc) (cond (Nat.ble 8 pc) (cond (Nat.ble 9 pc) (cond (Nat.ble 10 pc) ((99, 0, 0, 0, 0)) ((16, 12, 0, 16, 0))) ((99, 0, 0, 0, 0))) (cond (Nat.ble 6 pc) (cond (Nat.ble 7 pc) ((99, 0, 0, 0, 0)) ((28, 9, 77, 3, 0))) ((99, 0, 0, 0, 0)))) (cond (Nat.ble 2 pc) (cond (Nat.ble 3 pc) (cond (Nat.ble 4 pc) ((99, 0, 0, 0, 0)) ((15, 6, 115, 0, 16))) ((15, 3, 0, 0, 1))) (cond (Nat.ble 1 pc) ((13, 2, 0, 0, 0)) ((1, 1, 1, 0, 0))))))
def zc_X6_less : Nat → zE := fun pc => cond (Nat.ble 35 pc) (cond (Nat.ble 52 pc) (cond (Nat.ble 61 pc) (cond (Nat.ble 65 pc) (cond (Nat.ble 67 pc) (cond (Nat.ble 68 pc) (cond (Nat.ble 69 pc) ((99, 0, 0, 0, 0)) ((34, 69, 0, 0, 0))) ((99, 0, 0, 0, 0))) (cond (Nat.ble 66 pc) ((0, 68, 0, 0, (-4))) ((99, 0, 0, 0, 0)))) (cond (Nat.ble 63 pc) (cond (Nat.ble 64 pc) ((99, 0, 0, 0, 0)) ((19, 66, 0, 16, 0))) ((99, 0, 0, 0, 0)))) (cond (Nat.ble 56 pc) (cond (Nat.ble 58 pc) (cond (Nat.ble 59 pc) (cond (Nat.ble 60 pc) ((7, 63, 2, 0, 1)) ((34, 60, 0, 0, 0))) ((1, 59, 2, 0, 0))) ((99, 0, 0, 0, 0))) (cond (Nat.ble 54 pc) (cond (Nat.ble 55 pc) ((17, 58, 1, 60, 0)) ((8, 55, 0, 0, 0))) (cond (Nat.ble 53 pc) ((1, 54, 1, 0, 0)) ((1, 53, 2, 0, 0)))))) (cond (Nat.ble 43 pc) (cond (Nat.ble 47 pc) (cond (Nat.ble 49 pc) (cond (Nat.ble 50 pc) ((99, 0, 0, 0, 0)) ((28, 52, 100, 3, 0))) (cond (Nat.ble 48 pc) ((8, 49, 0, 0, 0)) ((1, 48, 1, 0, 0)))) (cond (Nat.ble 45 pc) (cond (Nat.ble 46 pc) ((1, 47, 2, 0, 0)) ((8, 46, 1, 0, 0))) (cond (Nat.ble 44 pc) ((1, 45, 2, 0, 0)) ((23, 44, 0, 0, 0))))) (cond (Nat.ble 39 pc) (cond (Nat.ble 41 pc) (cond (Nat.ble 42 pc) ((0, 43, 0, 0, 4)) ((99, 0, 0, 0, 0))) (cond (Nat.ble 40 pc) ((99, 0, 0, 0, 0)) ((20, 42, 6, 0, 0)))) (cond (Nat.ble 37 pc) (cond (Nat.ble 38 pc) ((2, 39, 0, 0, 0)) ((2, 38, 0, 0, 0))) (cond (Nat.ble 36 pc) ((32, 37, 0, 0, 0)) ((99, 0, 0, 0, 0))))))) (cond (Nat.ble 17 pc) (cond (Nat.ble 26 pc) (cond (Nat.ble 30 pc) (cond (Nat.ble 32 pc) (cond (Nat.ble 33 pc) (cond (Nat.ble 34 pc) ((99, 0, 0, 0, 0)) ((28, 36, 82, 1, 0))) ((2, 33, 0, 0, 0))) ((99, 0, 0, 0, 0))) (cond (Nat.ble 28 pc) (cond (Nat.ble 29 pc) ((17, 32, 4, 66, 0)) ((23, 29, 0, 0, 0))) (cond (Nat.ble 27 pc) ((0, 28, 0, 0, 4)) ((99, 0, 0, 0, 0))))) (cond (Nat.ble 21 pc) (cond (Nat.ble 23 pc) (cond (Nat.ble 24 pc) (cond (Nat.ble 25 pc) ((99, 0, 0, 0, 0)) ((20, 27, 6, 0, 0))) ((2, 24, 0, 0, 0))) (cond (Nat.ble 22 pc) ((1, 23, 2, 0, 0)) ((99, 0, 0, 0, 0)))) (cond (Nat.ble 19 pc) (cond (Nat.ble 20 pc) ((99, 0, 0, 0, 0)) ((17, 22, 4, 66, 0))) (cond (Nat.ble 18 pc) ((99, 0, 0, 0, 0)) ((0, 19, 0, 0, 12)))))) (cond (Nat.ble 8 pc) (cond (Nat.ble 12 pc) (cond (Nat.ble 14 pc) (cond (Nat.ble 15 pc) (cond (Nat.ble 16 pc) ((1, 17, 2, 0, 0)) ((4, 16, 2, 0, 0))) ((0, 15, 0, 0, 0))) (cond (Nat.ble 13 pc) ((34, 14, 0, 0, 0)) ((0, 13, 0, 0, (-1))))) (cond (Nat.ble 10 pc) ((99, 0, 0, 0, 0)) (cond (Nat.ble 9 pc) ((16, 12, 1, 14, 0)) ((99, 0, 0, 0, 0))))) (cond (Nat.ble 4 pc) (cond (Nat.ble 6 pc) (cond (Nat.ble 7 pc) ((99, 0, 0, 0, 0)) ((28, 9, 77, 3, 0))) ((99, 0, 0, 0, 0))) (cond (Nat.ble 2 pc) (cond (Nat.ble 3 pc) ((15, 6, 120, 0, 12)) ((15, 3, 0, 0, 1))) (cond (Nat.ble 1 pc) ((13, 2, 0, 0, 0)) ((1, 1, 1, 0, 0)))))))
def zc_X6_goesOn : Nat → zE := fun pc => cond (Nat.ble 46 pc) (cond (Nat.ble 69 pc) (cond (Nat.ble 81 pc) (cond (Nat.ble 87 pc) (cond (Nat.ble 90 pc) (cond (Nat.ble 91 pc) (cond (Nat.ble 92 pc) ((99, 0, 0, 0, 0)) ((35, 92, 0, 0, 0))) ((0, 91, 0, 0, 0))) (cond (Nat.ble 88 pc) ((99, 0, 0, 0, 0)) ((19, 90, 0, 23, 0)))) (cond (Nat.ble 84 pc) (cond (Nat.ble 85 pc) (cond (Nat.ble 86 pc) ((24, 87, 0, 0, 0)) ((0, 86, 0, 0, (-1)))) ((1, 85, 3, 0, 0))) (cond (Nat.ble 82 pc) ((99, 0, 0, 0, 0)) ((20, 84, 6, 8, 0))))) (cond (Nat.ble 75 pc) (cond (Nat.ble 78 pc) (cond (Nat.ble 79 pc) (cond (Nat.ble 80 pc) ((2, 81, 0, 0, 0)) ((99, 0, 0, 0, 0))) ((99, 0, 0, 0, 0))) (cond (Nat.ble 76 pc) (cond (Nat.ble 77 pc) ((7, 80, 3, 0, 1)) ((35, 77, 0, 0, 0))) ((0, 76, 0, 0, 1)))) (cond (Nat.ble 72 pc) (cond (Nat.ble 73 pc) ((99, 0, 0, 0, 0)) ((17, 75, 1, 77, 0))) (cond (Nat.ble 70 pc) (cond (Nat.ble 71 pc) ((8, 72, 1, 0, 0)) ((0, 71, 0, 0, 1))) ((1, 70, 1, 0, 0)))))) (cond (Nat.ble 57 pc) (cond (Nat.ble 63 pc) (cond (Nat.ble 66 pc) (cond (Nat.ble 67 pc) (cond (Nat.ble 68 pc) ((1, 69, 3, 0, 0)) ((99, 0, 0, 0, 0))) ((99, 0, 0, 0, 0))) (cond (Nat.ble 64 pc) (cond (Nat.ble 65 pc) ((16, 68, 1, 23, 0)) ((99, 0, 0, 0, 0))) ((99, 0, 0, 0, 0)))) (cond (Nat.ble 60 pc) (cond (Nat.ble 61 pc) (cond (Nat.ble 62 pc) ((28, 65, 80, 2, 0)) ((8, 62, 0, 0, 0))) ((0, 61, 0, 0, 1))) (cond (Nat.ble 58 pc) (cond (Nat.ble 59 pc) ((1, 60, 3, 0, 0)) ((2, 59, 0, 0, 0))) ((99, 0, 0, 0, 0))))) (cond (Nat.ble 51 pc) (cond (Nat.ble 54 pc) (cond (Nat.ble 55 pc) (cond (Nat.ble 56 pc) ((99, 0, 0, 0, 0)) ((19, 58, 0, 23, 0))) ((99, 0, 0, 0, 0))) (cond (Nat.ble 52 pc) (cond (Nat.ble 53 pc) ((99, 0, 0, 0, 0)) ((7, 55, 3, 0, (-1)))) ((99, 0, 0, 0, 0)))) (cond (Nat.ble 48 pc) (cond (Nat.ble 49 pc) (cond (Nat.ble 50 pc) ((99, 0, 0, 0, 0)) ((17, 52, 2, 58, 0))) ((23, 49, 0, 0, 0))) (cond (Nat.ble 47 pc) ((0, 48, 0, 0, 0)) ((99, 0, 0, 0, 0))))))) (cond (Nat.ble 23 pc) (cond (Nat.ble 34 pc) (cond (Nat.ble 40 pc) (cond (Nat.ble 43 pc) (cond (Nat.ble 44 pc) (cond (Nat.ble 45 pc) ((99, 0, 0, 0, 0)) ((20, 47, 6, 0, 0))) ((2, 44, 0, 0, 0))) (cond (Nat.ble 41 pc) (cond (Nat.ble 42 pc) ((23, 43, 0, 0, 0)) ((1, 42, 3, 0, 0))) ((99, 0, 0, 0, 0)))) (cond (Nat.ble 37 pc) (cond (Nat.ble 38 pc) (cond (Nat.ble 39 pc) ((99, 0, 0, 0, 0)) ((20, 41, 6, 8, 0))) ((2, 38, 0, 0, 0))) (cond (Nat.ble 35 pc) (cond (Nat.ble 36 pc) ((24, 37, 0, 0, 0)) ((8, 36, 0, 0, 0))) ((0, 35, 0, 0, 1))))) (cond (Nat.ble 28 pc) (cond (Nat.ble 31 pc) (cond (Nat.ble 32 pc) (cond (Nat.ble 33 pc) ((23, 34, 0, 0, 0)) ((31, 33, 0, 0, 0))) ((1, 32, 3, 0, 0))) (cond (Nat.ble 29 pc) ((99, 0, 0, 0, 0)) ((20, 31, 6, 8, 0)))) (cond (Nat.ble 25 pc) (cond (Nat.ble 26 pc) (cond (Nat.ble 27 pc) ((2, 28, 0, 0, 0)) ((99, 0, 0, 0, 0))) ((99, 0, 0, 0, 0))) (cond (Nat.ble 24 pc) ((16, 27, 2, 90, 0)) ((1, 24, 3, 0, 0)))))) (cond (Nat.ble 11 pc) (cond (Nat.ble 17 pc) (cond (Nat.ble 20 pc) (cond (Nat.ble 21 pc) (cond (Nat.ble 22 pc) ((24, 23, 0, 0, 0)) ((0, 22, 0, 0, (-1)))) ((0, 21, 0, 0, 0))) (cond (Nat.ble 18 pc) ((99, 0, 0, 0, 0)) ((20, 20, 6, 8, 0)))) (cond (Nat.ble 14 pc) (cond (Nat.ble 15 pc) (cond (Nat.ble 16 pc) ((2, 17, 0, 0, 0)) ((99, 0, 0, 0, 0))) ((99, 0, 0, 0, 0))) (cond (Nat.ble 12 pc) (cond (Nat.ble 13 pc) ((16, 16, 0, 23, 0)) ((1, 13, 2, 0, 0))) ((4, 12, 3, 0, 0))))) (cond (Nat.ble 5 pc) (cond (Nat.ble 8 pc) (cond (Nat.ble 9 pc) (cond (Nat.ble 10 pc) ((8, 11, 1, 0, 0)) ((0, 10, 0, 0, 1))) ((1, 9, 1, 0, 0))) (cond (Nat.ble 6 pc) ((99, 0, 0, 0, 0)) ((19, 8, 0, 11, 0)))) (cond (Nat.ble 2 pc) (cond (Nat.ble 3 pc) (cond (Nat.ble 4 pc) ((0, 5, 0, 0, 0)) ((99, 0, 0, 0, 0))) ((99, 0, 0, 0, 0))) (cond (Nat.ble 1 pc) ((16, 4, 0, 8, 0)) ((1, 1, 2, 0, 0)))))))
def zc_X6_many : Nat → zE := fun pc => cond (Nat.ble 31 pc) (cond (Nat.ble 47 pc) (cond (Nat.ble 55 pc) (cond (Nat.ble 59 pc) (cond (Nat.ble 61 pc) (cond (Nat.ble 62 pc) ((99, 0, 0, 0, 0)) ((34, 62, 0, 0, 0))) (cond (Nat.ble 60 pc) ((1, 61, 2, 0, 0)) ((99, 0, 0, 0, 0)))) (cond (Nat.ble 57 pc) (cond (Nat.ble 58 pc) ((99, 0, 0, 0, 0)) ((19, 60, 0, 43, 0))) (cond (Nat.ble 56 pc) ((4, 57, 3, 0, 0)) ((99, 0, 0, 0, 0))))) (cond (Nat.ble 51 pc) (cond (Nat.ble 53 pc) (cond (Nat.ble 54 pc) ((99, 0, 0, 0, 0)) ((28, 56, 104, 3, 0))) (cond (Nat.ble 52 pc) ((0, 53, 0, 0, 0)) ((1, 52, 1, 0, 0)))) (cond (Nat.ble 49 pc) (cond (Nat.ble 50 pc) ((2, 51, 0, 0, 0)) ((99, 0, 0, 0, 0))) (cond (Nat.ble 48 pc) ((99, 0, 0, 0, 0)) ((7, 50, 2, 0, 1)))))) (cond (Nat.ble 39 pc) (cond (Nat.ble 43 pc) (cond (Nat.ble 45 pc) ((99, 0, 0, 0, 0)) (cond (Nat.ble 44 pc) ((16, 47, 0, 60, 0)) ((1, 44, 3, 0, 0)))) (cond (Nat.ble 41 pc) (cond (Nat.ble 42 pc) ((4, 43, 3, 0, 0)) ((0, 42, 0, 0, 0))) ((99, 0, 0, 0, 0)))) (cond (Nat.ble 35 pc) (cond (Nat.ble 37 pc) (cond (Nat.ble 38 pc) ((19, 41, 0, 42, 0)) ((0, 38, 0, 0, 1))) ((99, 0, 0, 0, 0))) (cond (Nat.ble 33 pc) (cond (Nat.ble 34 pc) ((16, 37, 0, 41, 0)) ((99, 0, 0, 0, 0))) (cond (Nat.ble 32 pc) ((99, 0, 0, 0, 0)) ((28, 34, 104, 3, 0))))))) (cond (Nat.ble 15 pc) (cond (Nat.ble 23 pc) (cond (Nat.ble 27 pc) (cond (Nat.ble 29 pc) (cond (Nat.ble 30 pc) ((0, 31, 0, 0, 1)) ((1, 30, 1, 0, 0))) (cond (Nat.ble 28 pc) ((2, 29, 0, 0, 0)) ((99, 0, 0, 0, 0)))) (cond (Nat.ble 25 pc) (cond (Nat.ble 26 pc) ((99, 0, 0, 0, 0)) ((16, 28, 5, 41, 0))) (cond (Nat.ble 24 pc) ((1, 25, 1, 0, 0)) ((4, 24, 2, 0, 0))))) (cond (Nat.ble 19 pc) (cond (Nat.ble 21 pc) (cond (Nat.ble 22 pc) ((0, 23, 0, 0, 0)) ((99, 0, 0, 0, 0))) (cond (Nat.ble 20 pc) ((99, 0, 0, 0, 0)) ((19, 22, 0, 23, 0)))) (cond (Nat.ble 17 pc) (cond (Nat.ble 18 pc) ((0, 19, 0, 0, 1)) ((99, 0, 0, 0, 0))) (cond (Nat.ble 16 pc) ((99, 0, 0, 0, 0)) ((16, 18, 1, 22, 0)))))) (cond (Nat.ble 7 pc) (cond (Nat.ble 11 pc) (cond (Nat.ble 13 pc) (cond (Nat.ble 14 pc) ((1, 15, 1, 0, 0)) ((34, 14, 0, 0, 0))) (cond (Nat.ble 12 pc) ((0, 13, 0, 0, (-1))) ((99, 0, 0, 0, 0)))) (cond (Nat.ble 9 pc) (cond (Nat.ble 10 pc) ((99, 0, 0, 0, 0)) ((16, 12, 1, 14, 0))) ((99, 0, 0, 0, 0)))) (cond (Nat.ble 3 pc) (cond (Nat.ble 5 pc) (cond (Nat.ble 6 pc) ((28, 9, 77, 3, 0)) ((99, 0, 0, 0, 0))) (cond (Nat.ble 4 pc) ((99, 0, 0, 0, 0)) ((15, 6, 74, 0, 9)))) (cond (Nat.ble 1 pc) (cond (Nat.ble 2 pc) ((15, 3, 0, 0, 0)) ((13, 2, 0, 0, 0))) ((1, 1, 1, 0, 0))))))
def zc_X6_isRing : Nat → zE := fun pc => cond (Nat.ble 59 pc) (cond (Nat.ble 89 pc) (cond (Nat.ble 104 pc) (cond (Nat.ble 111 pc) (cond (Nat.ble 115 pc) (cond (Nat.ble 117 pc) (cond (Nat.ble 118 pc) ((99, 0, 0, 0, 0)) ((35, 118, 0, 0, 0))) (cond (Nat.ble 116 pc) ((1, 117, 2, 0, 0)) ((99, 0, 0, 0, 0)))) (cond (Nat.ble 113 pc) (cond (Nat.ble 114 pc) ((99, 0, 0, 0, 0)) ((19, 116, 0, 93, 0))) ((99, 0, 0, 0, 0)))) (cond (Nat.ble 107 pc) (cond (Nat.ble 109 pc) (cond (Nat.ble 110 pc) ((7, 113, 3, 0, 1)) ((24, 110, 0, 0, 0))) (cond (Nat.ble 108 pc) ((23, 109, 0, 0, 0)) ((1, 108, 3, 0, 0)))) (cond (Nat.ble 105 pc) ((99, 0, 0, 0, 0)) ((20, 107, 6, 11, 0))))) (cond (Nat.ble 96 pc) (cond (Nat.ble 100 pc) (cond (Nat.ble 102 pc) (cond (Nat.ble 103 pc) ((2, 104, 0, 0, 0)) ((1, 103, 3, 0, 0))) ((99, 0, 0, 0, 0))) (cond (Nat.ble 98 pc) (cond (Nat.ble 99 pc) ((20, 102, 6, 8, 0)) ((2, 99, 0, 0, 0))) ((99, 0, 0, 0, 0)))) (cond (Nat.ble 92 pc) (cond (Nat.ble 94 pc) (cond (Nat.ble 95 pc) ((17, 98, 3, 116, 0)) ((1, 95, 1, 0, 0))) (cond (Nat.ble 93 pc) ((1, 94, 3, 0, 0)) ((4, 93, 3, 0, 0)))) (cond (Nat.ble 90 pc) (cond (Nat.ble 91 pc) ((0, 92, 0, 0, 0)) ((99, 0, 0, 0, 0))) ((99, 0, 0, 0, 0)))))) (cond (Nat.ble 74 pc) (cond (Nat.ble 81 pc) (cond (Nat.ble 85 pc) (cond (Nat.ble 87 pc) (cond (Nat.ble 88 pc) ((19, 91, 0, 29, 0)) ((99, 0, 0, 0, 0))) (cond (Nat.ble 86 pc) ((99, 0, 0, 0, 0)) ((7, 88, 3, 0, 1)))) (cond (Nat.ble 83 pc) (cond (Nat.ble 84 pc) ((4, 85, 2, 0, 0)) ((0, 84, 0, 0, 0))) ((99, 0, 0, 0, 0)))) (cond (Nat.ble 77 pc) (cond (Nat.ble 79 pc) (cond (Nat.ble 80 pc) ((19, 83, 0, 84, 0)) ((0, 80, 0, 0, 1))) ((99, 0, 0, 0, 0))) (cond (Nat.ble 75 pc) (cond (Nat.ble 76 pc) ((16, 79, 1, 83, 0)) ((99, 0, 0, 0, 0))) ((99, 0, 0, 0, 0))))) (cond (Nat.ble 66 pc) (cond (Nat.ble 70 pc) (cond (Nat.ble 72 pc) (cond (Nat.ble 73 pc) ((28, 76, 81, 2, 0)) ((1, 73, 1, 0, 0))) (cond (Nat.ble 71 pc) ((2, 72, 0, 0, 0)) ((99, 0, 0, 0, 0)))) (cond (Nat.ble 68 pc) (cond (Nat.ble 69 pc) ((99, 0, 0, 0, 0)) ((19, 71, 0, 41, 0))) ((99, 0, 0, 0, 0)))) (cond (Nat.ble 62 pc) (cond (Nat.ble 64 pc) (cond (Nat.ble 65 pc) ((7, 68, 4, 0, 1)) ((24, 65, 0, 0, 0))) (cond (Nat.ble 63 pc) ((23, 64, 0, 0, 0)) ((10, 63, 0, 0, 0)))) (cond (Nat.ble 60 pc) (cond (Nat.ble 61 pc) ((1, 62, 1, 0, 0)) ((8, 61, 0, 0, 0))) ((99, 0, 0, 0, 0))))))) (cond (Nat.ble 29 pc) (cond (Nat.ble 44 pc) (cond (Nat.ble 51 pc) (cond (Nat.ble 55 pc) (cond (Nat.ble 57 pc) (cond (Nat.ble 58 pc) ((1, 60, 4, 0, 0)) ((1, 58, 3, 0, 0))) ((99, 0, 0, 0, 0))) (cond (Nat.ble 53 pc) (cond (Nat.ble 54 pc) ((20, 57, 6, 11, 0)) ((2, 54, 0, 0, 0))) (cond (Nat.ble 52 pc) ((99, 0, 0, 0, 0)) ((1, 53, 4, 0, 0))))) (cond (Nat.ble 47 pc) (cond (Nat.ble 49 pc) ((99, 0, 0, 0, 0)) (cond (Nat.ble 48 pc) ((20, 51, 6, 8, 0)) ((2, 48, 0, 0, 0)))) (cond (Nat.ble 45 pc) ((99, 0, 0, 0, 0)) ((17, 47, 3, 71, 0))))) (cond (Nat.ble 36 pc) (cond (Nat.ble 40 pc) (cond (Nat.ble 42 pc) (cond (Nat.ble 43 pc) ((1, 44, 1, 0, 0)) ((99, 0, 0, 0, 0))) (cond (Nat.ble 41 pc) ((1, 43, 4, 0, 0)) ((99, 0, 0, 0, 0)))) (cond (Nat.ble 38 pc) (cond (Nat.ble 39 pc) ((4, 41, 4, 0, 0)) ((0, 39, 0, 0, 0))) ((99, 0, 0, 0, 0)))) (cond (Nat.ble 32 pc) (cond (Nat.ble 34 pc) (cond (Nat.ble 35 pc) ((16, 38, 0, 91, 0)) ((1, 35, 2, 0, 0))) ((99, 0, 0, 0, 0))) (cond (Nat.ble 30 pc) (cond (Nat.ble 31 pc) ((17, 34, 3, 91, 0)) ((1, 31, 1, 0, 0))) ((1, 30, 3, 0, 0)))))) (cond (Nat.ble 14 pc) (cond (Nat.ble 21 pc) (cond (Nat.ble 25 pc) (cond (Nat.ble 27 pc) (cond (Nat.ble 28 pc) ((4, 29, 3, 0, 0)) ((0, 28, 0, 0, 1))) (cond (Nat.ble 26 pc) ((4, 27, 2, 0, 0)) ((0, 26, 0, 0, 1)))) (cond (Nat.ble 23 pc) ((99, 0, 0, 0, 0)) (cond (Nat.ble 22 pc) ((19, 25, 0, 2, 0)) ((99, 0, 0, 0, 0))))) (cond (Nat.ble 17 pc) (cond (Nat.ble 19 pc) (cond (Nat.ble 20 pc) ((99, 0, 0, 0, 0)) ((7, 22, 2, 0, 1))) (cond (Nat.ble 18 pc) ((24, 19, 0, 0, 0)) ((23, 18, 0, 0, 0)))) (cond (Nat.ble 15 pc) (cond (Nat.ble 16 pc) ((1, 17, 2, 0, 0)) ((99, 0, 0, 0, 0))) ((99, 0, 0, 0, 0))))) (cond (Nat.ble 7 pc) (cond (Nat.ble 10 pc) (cond (Nat.ble 12 pc) (cond (Nat.ble 13 pc) ((20, 16, 6, 8, 0)) ((2, 13, 0, 0, 0))) (cond (Nat.ble 11 pc) ((1, 12, 2, 0, 0)) ((99, 0, 0, 0, 0)))) (cond (Nat.ble 8 pc) (cond (Nat.ble 9 pc) ((99, 0, 0, 0, 0)) ((20, 11, 6, 11, 0))) ((2, 8, 0, 0, 0)))) (cond (Nat.ble 3 pc) (cond (Nat.ble 5 pc) ((99, 0, 0, 0, 0)) (cond (Nat.ble 4 pc) ((17, 7, 3, 25, 0)) ((1, 4, 1, 0, 0)))) (cond (Nat.ble 1 pc) (cond (Nat.ble 2 pc) ((1, 3, 2, 0, 0)) ((4, 2, 2, 0, 0))) ((0, 1, 0, 0, 0)))))))
def zc_X6_rings : Nat → zE := fun pc => cond (Nat.ble 28 pc) (cond (Nat.ble 42 pc) (cond (Nat.ble 49 pc) (cond (Nat.ble 52 pc) (cond (Nat.ble 54 pc) (cond (Nat.ble 55 pc) ((99, 0, 0, 0, 0)) ((34, 55, 0, 0, 0))) (cond (Nat.ble 53 pc) ((1, 54, 2, 0, 0)) ((99, 0, 0, 0, 0)))) (cond (Nat.ble 50 pc) (cond (Nat.ble 51 pc) ((99, 0, 0, 0, 0)) ((19, 53, 0, 23, 0))) ((4, 50, 3, 0, 0)))) (cond (Nat.ble 45 pc) (cond (Nat.ble 47 pc) ((99, 0, 0, 0, 0)) (cond (Nat.ble 46 pc) ((28, 49, 104, 3, 0)) ((0, 46, 0, 0, 0)))) (cond (Nat.ble 43 pc) (cond (Nat.ble 44 pc) ((1, 45, 1, 0, 0)) ((2, 44, 0, 0, 0))) ((4, 43, 2, 0, 0))))) (cond (Nat.ble 35 pc) (cond (Nat.ble 38 pc) (cond (Nat.ble 40 pc) (cond (Nat.ble 41 pc) ((8, 42, 0, 0, 0)) ((0, 41, 0, 0, 0))) ((99, 0, 0, 0, 0))) (cond (Nat.ble 36 pc) (cond (Nat.ble 37 pc) ((19, 40, 0, 41, 0)) ((0, 37, 0, 0, 1))) ((99, 0, 0, 0, 0)))) (cond (Nat.ble 31 pc) (cond (Nat.ble 33 pc) (cond (Nat.ble 34 pc) ((99, 0, 0, 0, 0)) ((16, 36, 0, 40, 0))) ((99, 0, 0, 0, 0))) (cond (Nat.ble 29 pc) (cond (Nat.ble 30 pc) ((28, 33, 106, 2, 0)) ((1, 30, 1, 0, 0))) ((2, 29, 0, 0, 0)))))) (cond (Nat.ble 14 pc) (cond (Nat.ble 21 pc) (cond (Nat.ble 24 pc) (cond (Nat.ble 26 pc) (cond (Nat.ble 27 pc) ((1, 28, 2, 0, 0)) ((99, 0, 0, 0, 0))) (cond (Nat.ble 25 pc) ((99, 0, 0, 0, 0)) ((16, 27, 0, 53, 0)))) (cond (Nat.ble 22 pc) (cond (Nat.ble 23 pc) ((1, 24, 3, 0, 0)) ((4, 23, 3, 0, 0))) ((99, 0, 0, 0, 0)))) (cond (Nat.ble 17 pc) (cond (Nat.ble 19 pc) (cond (Nat.ble 20 pc) ((99, 0, 0, 0, 0)) ((28, 22, 104, 3, 0))) (cond (Nat.ble 18 pc) ((0, 19, 0, 0, 1)) ((1, 18, 1, 0, 0)))) (cond (Nat.ble 15 pc) (cond (Nat.ble 16 pc) ((2, 17, 0, 0, 0)) ((4, 16, 2, 0, 0))) ((0, 15, 0, 0, 0))))) (cond (Nat.ble 7 pc) (cond (Nat.ble 10 pc) (cond (Nat.ble 12 pc) (cond (Nat.ble 13 pc) ((34, 14, 0, 0, 0)) ((0, 13, 0, 0, (-1)))) ((99, 0, 0, 0, 0))) (cond (Nat.ble 8 pc) (cond (Nat.ble 9 pc) ((16, 12, 1, 14, 0)) ((99, 0, 0, 0, 0))) ((99, 0, 0, 0, 0)))) (cond (Nat.ble 3 pc) (cond (Nat.ble 5 pc) (cond (Nat.ble 6 pc) ((28, 9, 77, 3, 0)) ((99, 0, 0, 0, 0))) (cond (Nat.ble 4 pc) ((99, 0, 0, 0, 0)) ((15, 6, 92, 0, 8)))) (cond (Nat.ble 1 pc) (cond (Nat.ble 2 pc) ((15, 3, 0, 0, 1)) ((13, 2, 0, 0, 0))) ((1, 1, 1, 0, 0))))))
def zc_X6_ring : Nat → zE := fun pc => cond (Nat.ble 36 pc) (cond (Nat.ble 54 pc) (cond (Nat.ble 63 pc) (cond (Nat.ble 68 pc) (cond (Nat.ble 70 pc) (cond (Nat.ble 71 pc) (cond (Nat.ble 72 pc) ((99, 0, 0, 0, 0)) ((34, 72, 0, 0, 0))) ((99, 0, 0, 0, 0))) (cond (Nat.ble 69 pc) ((0, 71, 0, 0, (-4))) ((99, 0, 0, 0, 0)))) (cond (Nat.ble 65 pc) (cond (Nat.ble 66 pc) (cond (Nat.ble 67 pc) ((99, 0, 0, 0, 0)) ((19, 69, 0, 71, 0))) ((23, 66, 0, 0, 0))) (cond (Nat.ble 64 pc) ((1, 65, 2, 0, 0)) ((99, 0, 0, 0, 0))))) (cond (Nat.ble 58 pc) (cond (Nat.ble 60 pc) (cond (Nat.ble 61 pc) (cond (Nat.ble 62 pc) ((99, 0, 0, 0, 0)) ((20, 64, 6, 8, 0))) ((2, 61, 0, 0, 0))) ((99, 0, 0, 0, 0))) (cond (Nat.ble 56 pc) (cond (Nat.ble 57 pc) ((16, 60, 0, 69, 0)) ((1, 57, 3, 0, 0))) ((99, 0, 0, 0, 0))))) (cond (Nat.ble 45 pc) (cond (Nat.ble 49 pc) (cond (Nat.ble 51 pc) (cond (Nat.ble 52 pc) (cond (Nat.ble 53 pc) ((19, 56, 0, 34, 0)) ((4, 53, 3, 0, 0))) ((99, 0, 0, 0, 0))) (cond (Nat.ble 50 pc) ((99, 0, 0, 0, 0)) ((28, 52, 104, 3, 0)))) (cond (Nat.ble 47 pc) (cond (Nat.ble 48 pc) ((0, 49, 0, 0, 0)) ((1, 48, 1, 0, 0))) (cond (Nat.ble 46 pc) ((2, 47, 0, 0, 0)) ((99, 0, 0, 0, 0))))) (cond (Nat.ble 40 pc) (cond (Nat.ble 42 pc) (cond (Nat.ble 43 pc) (cond (Nat.ble 44 pc) ((99, 0, 0, 0, 0)) ((16, 46, 1, 56, 0))) ((99, 0, 0, 0, 0))) (cond (Nat.ble 41 pc) ((99, 0, 0, 0, 0)) ((28, 43, 106, 2, 0)))) (cond (Nat.ble 38 pc) (cond (Nat.ble 39 pc) ((1, 40, 1, 0, 0)) ((2, 39, 0, 0, 0))) ((99, 0, 0, 0, 0)))))) (cond (Nat.ble 18 pc) (cond (Nat.ble 27 pc) (cond (Nat.ble 31 pc) (cond (Nat.ble 33 pc) (cond (Nat.ble 34 pc) (cond (Nat.ble 35 pc) ((16, 38, 0, 56, 0)) ((1, 35, 3, 0, 0))) ((4, 34, 3, 0, 0))) ((99, 0, 0, 0, 0))) (cond (Nat.ble 29 pc) (cond (Nat.ble 30 pc) ((28, 33, 104, 3, 0)) ((0, 30, 0, 0, 1))) (cond (Nat.ble 28 pc) ((1, 29, 1, 0, 0)) ((2, 28, 0, 0, 0))))) (cond (Nat.ble 22 pc) (cond (Nat.ble 24 pc) (cond (Nat.ble 25 pc) (cond (Nat.ble 26 pc) ((34, 27, 0, 0, 0)) ((0, 26, 0, 0, (-1)))) ((99, 0, 0, 0, 0))) (cond (Nat.ble 23 pc) ((99, 0, 0, 0, 0)) ((16, 25, 1, 27, 0)))) (cond (Nat.ble 20 pc) ((99, 0, 0, 0, 0)) (cond (Nat.ble 19 pc) ((28, 22, 77, 3, 0)) ((13, 19, 0, 0, 0)))))) (cond (Nat.ble 9 pc) (cond (Nat.ble 13 pc) (cond (Nat.ble 15 pc) (cond (Nat.ble 16 pc) (cond (Nat.ble 17 pc) ((8, 18, 1, 0, 0)) ((0, 17, 0, 0, 1))) ((1, 16, 1, 0, 0))) (cond (Nat.ble 14 pc) ((15, 15, 0, 0, 0)) ((13, 14, 0, 0, 0)))) (cond (Nat.ble 11 pc) (cond (Nat.ble 12 pc) ((1, 13, 2, 0, 0)) ((99, 0, 0, 0, 0))) (cond (Nat.ble 10 pc) ((99, 0, 0, 0, 0)) ((16, 12, 0, 25, 0))))) (cond (Nat.ble 4 pc) (cond (Nat.ble 6 pc) (cond (Nat.ble 7 pc) ((99, 0, 0, 0, 0)) ((28, 9, 77, 3, 0))) ((99, 0, 0, 0, 0))) (cond (Nat.ble 2 pc) (cond (Nat.ble 3 pc) ((15, 6, 92, 0, 8)) ((15, 3, 0, 0, 1))) (cond (Nat.ble 1 pc) ((13, 2, 0, 0, 0)) ((1, 1, 1, 0, 0)))))))
def zc_X6_cheap : Nat → zE := fun pc => cond (Nat.ble 79 pc) (cond (Nat.ble 119 pc) (cond (Nat.ble 139 pc) (cond (Nat.ble 149 pc) (cond (Nat.ble 154 pc) (cond (Nat.ble 156 pc) (cond (Nat.ble 157 pc) (cond (Nat.ble 158 pc) ((99, 0, 0, 0, 0)) ((34, 158, 0, 0, 0))) ((23, 157, 0, 0, 0))) (cond (Nat.ble 155 pc) ((1, 156, 2, 0, 0)) ((99, 0, 0, 0, 0)))) (cond (Nat.ble 151 pc) (cond (Nat.ble 152 pc) (cond (Nat.ble 153 pc) ((99, 0, 0, 0, 0)) ((20, 155, 6, 10, 0))) ((2, 152, 0, 0, 0))) ((99, 0, 0, 0, 0)))) (cond (Nat.ble 144 pc) (cond (Nat.ble 146 pc) (cond (Nat.ble 147 pc) (cond (Nat.ble 148 pc) ((19, 151, 0, 157, 0)) ((1, 148, 3, 0, 0))) ((99, 0, 0, 0, 0))) (cond (Nat.ble 145 pc) ((99, 0, 0, 0, 0)) ((16, 147, 3, 151, 0)))) (cond (Nat.ble 141 pc) (cond (Nat.ble 142 pc) (cond (Nat.ble 143 pc) ((1, 144, 2, 0, 0)) ((99, 0, 0, 0, 0))) ((99, 0, 0, 0, 0))) (cond (Nat.ble 140 pc) ((17, 143, 0, 147, 0)) ((99, 0, 0, 0, 0)))))) (cond (Nat.ble 129 pc) (cond (Nat.ble 134 pc) (cond (Nat.ble 136 pc) (cond (Nat.ble 137 pc) (cond (Nat.ble 138 pc) ((0, 140, 0, 0, (-4))) ((1, 138, 3, 0, 0))) ((99, 0, 0, 0, 0))) (cond (Nat.ble 135 pc) ((99, 0, 0, 0, 0)) ((19, 137, 0, 40, 0)))) (cond (Nat.ble 131 pc) (cond (Nat.ble 132 pc) (cond (Nat.ble 133 pc) ((99, 0, 0, 0, 0)) ((4, 134, 4, 0, 0))) ((99, 0, 0, 0, 0))) (cond (Nat.ble 130 pc) ((99, 0, 0, 0, 0)) ((28, 132, 104, 3, 0))))) (cond (Nat.ble 124 pc) (cond (Nat.ble 126 pc) (cond (Nat.ble 127 pc) (cond (Nat.ble 128 pc) ((0, 129, 0, 0, 0)) ((1, 128, 1, 0, 0))) ((2, 127, 0, 0, 0))) ((99, 0, 0, 0, 0))) (cond (Nat.ble 121 pc) (cond (Nat.ble 122 pc) (cond (Nat.ble 123 pc) ((19, 126, 0, 100, 0)) ((99, 0, 0, 0, 0))) ((99, 0, 0, 0, 0))) (cond (Nat.ble 120 pc) ((7, 123, 6, 0, 1)) ((24, 120, 0, 0, 0))))))) (cond (Nat.ble 99 pc) (cond (Nat.ble 109 pc) (cond (Nat.ble 114 pc) (cond (Nat.ble 116 pc) (cond (Nat.ble 117 pc) (cond (Nat.ble 118 pc) ((23, 119, 0, 0, 0)) ((99, 0, 0, 0, 0))) ((1, 118, 6, 0, 0))) ((99, 0, 0, 0, 0))) (cond (Nat.ble 111 pc) (cond (Nat.ble 112 pc) (cond (Nat.ble 113 pc) ((20, 116, 6, 8, 0)) ((2, 113, 0, 0, 0))) ((99, 0, 0, 0, 0))) (cond (Nat.ble 110 pc) ((1, 112, 6, 0, 0)) ((99, 0, 0, 0, 0))))) (cond (Nat.ble 104 pc) (cond (Nat.ble 106 pc) (cond (Nat.ble 107 pc) (cond (Nat.ble 108 pc) ((99, 0, 0, 0, 0)) ((20, 110, 6, 10, 0))) ((2, 107, 0, 0, 0))) ((99, 0, 0, 0, 0))) (cond (Nat.ble 101 pc) (cond (Nat.ble 102 pc) (cond (Nat.ble 103 pc) ((17, 106, 3, 126, 0)) ((1, 103, 1, 0, 0))) ((99, 0, 0, 0, 0))) (cond (Nat.ble 100 pc) ((1, 102, 6, 0, 0)) ((99, 0, 0, 0, 0)))))) (cond (Nat.ble 89 pc) (cond (Nat.ble 94 pc) (cond (Nat.ble 96 pc) (cond (Nat.ble 97 pc) (cond (Nat.ble 98 pc) ((4, 100, 6, 0, 0)) ((0, 98, 0, 0, 0))) ((4, 97, 3, 0, 0))) (cond (Nat.ble 95 pc) ((99, 0, 0, 0, 0)) ((1, 96, 5, 0, 0)))) (cond (Nat.ble 91 pc) (cond (Nat.ble 92 pc) ((99, 0, 0, 0, 0)) ((17, 94, 3, 126, 0))) (cond (Nat.ble 90 pc) ((1, 91, 3, 0, 0)) ((99, 0, 0, 0, 0))))) (cond (Nat.ble 84 pc) (cond (Nat.ble 86 pc) (cond (Nat.ble 87 pc) (cond (Nat.ble 88 pc) ((1, 90, 5, 0, 0)) ((99, 0, 0, 0, 0))) ((99, 0, 0, 0, 0))) (cond (Nat.ble 85 pc) ((17, 88, 0, 94, 0)) ((99, 0, 0, 0, 0)))) (cond (Nat.ble 81 pc) (cond (Nat.ble 82 pc) (cond (Nat.ble 83 pc) ((0, 85, 0, 0, (-4))) ((1, 83, 3, 0, 0))) ((99, 0, 0, 0, 0))) (cond (Nat.ble 80 pc) ((99, 0, 0, 0, 0)) ((19, 82, 0, 51, 0)))))))) (cond (Nat.ble 39 pc) (cond (Nat.ble 59 pc) (cond (Nat.ble 69 pc) (cond (Nat.ble 74 pc) (cond (Nat.ble 76 pc) (cond (Nat.ble 77 pc) ((99, 0, 0, 0, 0)) ((7, 79, 6, 0, 1))) (cond (Nat.ble 75 pc) ((99, 0, 0, 0, 0)) ((4, 76, 5, 0, 0)))) (cond (Nat.ble 71 pc) (cond (Nat.ble 72 pc) (cond (Nat.ble 73 pc) ((8, 74, 0, 0, 0)) ((23, 73, 0, 0, 0))) ((8, 72, 0, 0, 0))) (cond (Nat.ble 70 pc) ((23, 71, 0, 0, 0)) ((99, 0, 0, 0, 0))))) (cond (Nat.ble 64 pc) (cond (Nat.ble 66 pc) (cond (Nat.ble 67 pc) (cond (Nat.ble 68 pc) ((1, 70, 6, 0, 0)) ((99, 0, 0, 0, 0))) ((99, 0, 0, 0, 0))) (cond (Nat.ble 65 pc) ((20, 68, 6, 8, 0)) ((2, 65, 0, 0, 0)))) (cond (Nat.ble 61 pc) (cond (Nat.ble 62 pc) (cond (Nat.ble 63 pc) ((0, 64, 0, 0, 5)) ((99, 0, 0, 0, 0))) ((99, 0, 0, 0, 0))) (cond (Nat.ble 60 pc) ((20, 63, 6, 0, 0)) ((2, 60, 0, 0, 0)))))) (cond (Nat.ble 49 pc) (cond (Nat.ble 54 pc) (cond (Nat.ble 56 pc) (cond (Nat.ble 57 pc) (cond (Nat.ble 58 pc) ((99, 0, 0, 0, 0)) ((1, 59, 5, 0, 0))) ((99, 0, 0, 0, 0))) (cond (Nat.ble 55 pc) ((99, 0, 0, 0, 0)) ((17, 57, 3, 82, 0)))) (cond (Nat.ble 51 pc) (cond (Nat.ble 52 pc) (cond (Nat.ble 53 pc) ((1, 54, 1, 0, 0)) ((99, 0, 0, 0, 0))) ((1, 53, 6, 0, 0))) (cond (Nat.ble 50 pc) ((99, 0, 0, 0, 0)) ((4, 51, 6, 0, 0))))) (cond (Nat.ble 44 pc) (cond (Nat.ble 46 pc) (cond (Nat.ble 47 pc) (cond (Nat.ble 48 pc) ((0, 49, 0, 0, 0)) ((99, 0, 0, 0, 0))) ((4, 48, 5, 0, 0))) (cond (Nat.ble 45 pc) ((0, 46, 0, 0, 0)) ((99, 0, 0, 0, 0)))) (cond (Nat.ble 41 pc) (cond (Nat.ble 42 pc) (cond (Nat.ble 43 pc) ((99, 0, 0, 0, 0)) ((16, 45, 0, 137, 0))) ((99, 0, 0, 0, 0))) (cond (Nat.ble 40 pc) ((1, 42, 4, 0, 0)) ((99, 0, 0, 0, 0))))))) (cond (Nat.ble 19 pc) (cond (Nat.ble 29 pc) (cond (Nat.ble 34 pc) (cond (Nat.ble 36 pc) (cond (Nat.ble 37 pc) (cond (Nat.ble 38 pc) ((4, 40, 4, 0, 0)) ((99, 0, 0, 0, 0))) ((99, 0, 0, 0, 0))) (cond (Nat.ble 35 pc) ((28, 38, 104, 3, 0)) ((0, 35, 0, 0, 1)))) (cond (Nat.ble 31 pc) (cond (Nat.ble 32 pc) (cond (Nat.ble 33 pc) ((1, 34, 1, 0, 0)) ((2, 33, 0, 0, 0))) ((4, 32, 3, 0, 0))) (cond (Nat.ble 30 pc) ((99, 0, 0, 0, 0)) ((0, 31, 0, 0, (-4)))))) (cond (Nat.ble 24 pc) (cond (Nat.ble 26 pc) (cond (Nat.ble 27 pc) (cond (Nat.ble 28 pc) ((34, 29, 0, 0, 0)) ((0, 28, 0, 0, (-1)))) ((99, 0, 0, 0, 0))) (cond (Nat.ble 25 pc) ((99, 0, 0, 0, 0)) ((16, 27, 1, 29, 0)))) (cond (Nat.ble 21 pc) (cond (Nat.ble 22 pc) ((99, 0, 0, 0, 0)) ((28, 24, 77, 3, 0))) (cond (Nat.ble 20 pc) ((13, 21, 0, 0, 0)) ((8, 20, 1, 0, 0)))))) (cond (Nat.ble 9 pc) (cond (Nat.ble 14 pc) (cond (Nat.ble 16 pc) (cond (Nat.ble 17 pc) (cond (Nat.ble 18 pc) ((0, 19, 0, 0, 1)) ((1, 18, 1, 0, 0))) ((99, 0, 0, 0, 0))) (cond (Nat.ble 15 pc) ((99, 0, 0, 0, 0)) ((15, 17, 129, 0, (-1))))) (cond (Nat.ble 11 pc) (cond (Nat.ble 12 pc) (cond (Nat.ble 13 pc) ((13, 14, 0, 0, 0)) ((1, 13, 2, 0, 0))) ((99, 0, 0, 0, 0))) (cond (Nat.ble 10 pc) ((99, 0, 0, 0, 0)) ((16, 12, 0, 27, 0))))) (cond (Nat.ble 4 pc) (cond (Nat.ble 6 pc) (cond (Nat.ble 7 pc) ((99, 0, 0, 0, 0)) ((28, 9, 77, 3, 0))) ((99, 0, 0, 0, 0))) (cond (Nat.ble 2 pc) (cond (Nat.ble 3 pc) ((15, 6, 92, 0, 8)) ((15, 3, 0, 0, 1))) (cond (Nat.ble 1 pc) ((13, 2, 0, 0, 0)) ((1, 1, 1, 0, 0))))))))
def zc_X6_comes : Nat → zE := fun pc => cond (Nat.ble 16 pc) (cond (Nat.ble 24 pc) (cond (Nat.ble 28 pc) (cond (Nat.ble 30 pc) (cond (Nat.ble 31 pc) ((99, 0, 0, 0, 0)) ((37, 31, 0, 0, 0))) (cond (Nat.ble 29 pc) ((26, 30, 0, 0, 0)) ((0, 29, 0, 0, 0)))) (cond (Nat.ble 26 pc) (cond (Nat.ble 27 pc) ((1, 28, 2, 0, 0)) ((99, 0, 0, 0, 0))) (cond (Nat.ble 25 pc) ((99, 0, 0, 0, 0)) ((20, 27, 6, 14, 0))))) (cond (Nat.ble 20 pc) (cond (Nat.ble 22 pc) (cond (Nat.ble 23 pc) ((2, 24, 0, 0, 0)) ((26, 23, 0, 0, 0))) (cond (Nat.ble 21 pc) ((0, 22, 0, 0, 0)) ((1, 21, 2, 0, 0)))) (cond (Nat.ble 18 pc) ((99, 0, 0, 0, 0)) (cond (Nat.ble 17 pc) ((20, 20, 6, 13, 0)) ((2, 17, 0, 0, 0)))))) (cond (Nat.ble 8 pc) (cond (Nat.ble 12 pc) (cond (Nat.ble 14 pc) (cond (Nat.ble 15 pc) ((26, 16, 0, 0, 0)) ((0, 15, 0, 0, 0))) (cond (Nat.ble 13 pc) ((1, 14, 2, 0, 0)) ((99, 0, 0, 0, 0)))) (cond (Nat.ble 10 pc) (cond (Nat.ble 11 pc) ((99, 0, 0, 0, 0)) ((20, 13, 6, 12, 0))) (cond (Nat.ble 9 pc) ((2, 10, 0, 0, 0)) ((24, 9, 0, 0, 0))))) (cond (Nat.ble 4 pc) (cond (Nat.ble 6 pc) (cond (Nat.ble 7 pc) ((0, 8, 0, 0, (-1))) ((8, 7, 0, 0, 0))) (cond (Nat.ble 5 pc) ((1, 6, 2, 0, 0)) ((1, 5, 1, 0, 0)))) (cond (Nat.ble 2 pc) ((99, 0, 0, 0, 0)) (cond (Nat.ble 1 pc) ((20, 4, 6, 8, 0)) ((2, 1, 0, 0, 0))))))
def zc_X6_wins : Nat → zE := fun pc => cond (Nat.ble 115 pc) (cond (Nat.ble 172 pc) (cond (Nat.ble 201 pc) (cond (Nat.ble 215 pc) (cond (Nat.ble 222 pc) (cond (Nat.ble 226 pc) (cond (Nat.ble 228 pc) (cond (Nat.ble 229 pc) ((99, 0, 0, 0, 0)) ((34, 229, 0, 0, 0))) (cond (Nat.ble 227 pc) ((99, 0, 0, 0, 0)) ((1, 228, 4, 0, 0)))) (cond (Nat.ble 224 pc) ((99, 0, 0, 0, 0)) (cond (Nat.ble 223 pc) ((19, 226, 0, 41, 0)) ((26, 223, 0, 0, 0))))) (cond (Nat.ble 218 pc) (cond (Nat.ble 220 pc) (cond (Nat.ble 221 pc) ((0, 222, 0, 0, 0)) ((99, 0, 0, 0, 0))) (cond (Nat.ble 219 pc) ((99, 0, 0, 0, 0)) ((19, 221, 0, 222, 0)))) (cond (Nat.ble 216 pc) (cond (Nat.ble 217 pc) ((0, 218, 0, 0, 1)) ((99, 0, 0, 0, 0))) ((99, 0, 0, 0, 0))))) (cond (Nat.ble 208 pc) (cond (Nat.ble 211 pc) (cond (Nat.ble 213 pc) (cond (Nat.ble 214 pc) ((17, 217, 1, 221, 0)) ((0, 214, 0, 0, 2))) (cond (Nat.ble 212 pc) ((99, 0, 0, 0, 0)) ((1, 213, 4, 0, 0)))) (cond (Nat.ble 209 pc) ((99, 0, 0, 0, 0)) ((16, 211, 1, 217, 0)))) (cond (Nat.ble 204 pc) (cond (Nat.ble 206 pc) (cond (Nat.ble 207 pc) ((25, 208, 0, 0, 0)) ((1, 207, 3, 0, 0))) ((99, 0, 0, 0, 0))) (cond (Nat.ble 202 pc) (cond (Nat.ble 203 pc) ((20, 206, 6, 14, 0)) ((2, 203, 0, 0, 0))) ((1, 202, 3, 0, 0)))))) (cond (Nat.ble 186 pc) (cond (Nat.ble 193 pc) (cond (Nat.ble 197 pc) (cond (Nat.ble 199 pc) ((99, 0, 0, 0, 0)) (cond (Nat.ble 198 pc) ((20, 201, 6, 14, 0)) ((2, 198, 0, 0, 0)))) (cond (Nat.ble 195 pc) (cond (Nat.ble 196 pc) ((26, 197, 0, 0, 0)) ((0, 196, 0, 0, 0))) ((99, 0, 0, 0, 0)))) (cond (Nat.ble 189 pc) (cond (Nat.ble 191 pc) (cond (Nat.ble 192 pc) ((19, 195, 0, 196, 0)) ((0, 192, 0, 0, 1))) ((99, 0, 0, 0, 0))) (cond (Nat.ble 187 pc) (cond (Nat.ble 188 pc) ((16, 191, 1, 195, 0)) ((99, 0, 0, 0, 0))) ((1, 188, 4, 0, 0))))) (cond (Nat.ble 179 pc) (cond (Nat.ble 182 pc) (cond (Nat.ble 184 pc) ((99, 0, 0, 0, 0)) (cond (Nat.ble 183 pc) ((16, 186, 1, 191, 0)) ((25, 183, 0, 0, 0)))) (cond (Nat.ble 180 pc) (cond (Nat.ble 181 pc) ((1, 182, 3, 0, 0)) ((99, 0, 0, 0, 0))) ((99, 0, 0, 0, 0)))) (cond (Nat.ble 175 pc) (cond (Nat.ble 177 pc) (cond (Nat.ble 178 pc) ((20, 181, 6, 13, 0)) ((2, 178, 0, 0, 0))) (cond (Nat.ble 176 pc) ((1, 177, 3, 0, 0)) ((99, 0, 0, 0, 0)))) (cond (Nat.ble 173 pc) (cond (Nat.ble 174 pc) ((99, 0, 0, 0, 0)) ((20, 176, 6, 13, 0))) ((2, 173, 0, 0, 0))))))) (cond (Nat.ble 143 pc) (cond (Nat.ble 157 pc) (cond (Nat.ble 164 pc) (cond (Nat.ble 168 pc) (cond (Nat.ble 170 pc) ((99, 0, 0, 0, 0)) (cond (Nat.ble 169 pc) ((16, 172, 2, 41, 0)) ((1, 169, 3, 0, 0)))) (cond (Nat.ble 166 pc) ((99, 0, 0, 0, 0)) (cond (Nat.ble 165 pc) ((7, 168, 3, 0, (-1))) ((99, 0, 0, 0, 0))))) (cond (Nat.ble 160 pc) (cond (Nat.ble 162 pc) (cond (Nat.ble 163 pc) ((4, 165, 4, 0, 0)) ((0, 163, 0, 0, 0))) ((99, 0, 0, 0, 0))) (cond (Nat.ble 158 pc) (cond (Nat.ble 159 pc) ((19, 162, 0, 163, 0)) ((0, 159, 0, 0, 2))) ((99, 0, 0, 0, 0))))) (cond (Nat.ble 150 pc) (cond (Nat.ble 153 pc) (cond (Nat.ble 155 pc) (cond (Nat.ble 156 pc) ((99, 0, 0, 0, 0)) ((16, 158, 0, 162, 0))) (cond (Nat.ble 154 pc) ((25, 155, 0, 0, 0)) ((1, 154, 3, 0, 0)))) (cond (Nat.ble 151 pc) ((99, 0, 0, 0, 0)) ((20, 153, 6, 14, 0)))) (cond (Nat.ble 146 pc) (cond (Nat.ble 148 pc) (cond (Nat.ble 149 pc) ((2, 150, 0, 0, 0)) ((99, 0, 0, 0, 0))) (cond (Nat.ble 147 pc) ((99, 0, 0, 0, 0)) ((19, 149, 0, 163, 0)))) (cond (Nat.ble 144 pc) (cond (Nat.ble 145 pc) ((0, 146, 0, 0, 1)) ((99, 0, 0, 0, 0))) ((99, 0, 0, 0, 0)))))) (cond (Nat.ble 129 pc) (cond (Nat.ble 136 pc) (cond (Nat.ble 139 pc) (cond (Nat.ble 141 pc) (cond (Nat.ble 142 pc) ((16, 145, 0, 149, 0)) ((25, 142, 0, 0, 0))) (cond (Nat.ble 140 pc) ((1, 141, 3, 0, 0)) ((99, 0, 0, 0, 0)))) (cond (Nat.ble 137 pc) (cond (Nat.ble 138 pc) ((99, 0, 0, 0, 0)) ((20, 140, 6, 13, 0))) ((2, 137, 0, 0, 0)))) (cond (Nat.ble 132 pc) (cond (Nat.ble 134 pc) ((99, 0, 0, 0, 0)) (cond (Nat.ble 133 pc) ((19, 136, 0, 163, 0)) ((0, 133, 0, 0, 0)))) (cond (Nat.ble 130 pc) ((99, 0, 0, 0, 0)) ((16, 132, 1, 136, 0))))) (cond (Nat.ble 122 pc) (cond (Nat.ble 125 pc) (cond (Nat.ble 127 pc) (cond (Nat.ble 128 pc) ((25, 129, 0, 0, 0)) ((1, 128, 3, 0, 0))) ((99, 0, 0, 0, 0))) (cond (Nat.ble 123 pc) (cond (Nat.ble 124 pc) ((20, 127, 6, 12, 0)) ((2, 124, 0, 0, 0))) ((99, 0, 0, 0, 0)))) (cond (Nat.ble 118 pc) (cond (Nat.ble 120 pc) (cond (Nat.ble 121 pc) ((99, 0, 0, 0, 0)) ((19, 123, 0, 41, 0))) ((99, 0, 0, 0, 0))) (cond (Nat.ble 116 pc) (cond (Nat.ble 117 pc) ((28, 120, 110, 3, 0)) ((1, 117, 3, 0, 0))) ((1, 116, 2, 0, 0)))))))) (cond (Nat.ble 57 pc) (cond (Nat.ble 86 pc) (cond (Nat.ble 100 pc) (cond (Nat.ble 107 pc) (cond (Nat.ble 111 pc) (cond (Nat.ble 113 pc) (cond (Nat.ble 114 pc) ((2, 115, 0, 0, 0)) ((99, 0, 0, 0, 0))) (cond (Nat.ble 112 pc) ((99, 0, 0, 0, 0)) ((7, 114, 3, 0, 1)))) (cond (Nat.ble 109 pc) ((99, 0, 0, 0, 0)) (cond (Nat.ble 108 pc) ((19, 111, 0, 41, 0)) ((26, 108, 0, 0, 0))))) (cond (Nat.ble 103 pc) (cond (Nat.ble 105 pc) (cond (Nat.ble 106 pc) ((0, 107, 0, 0, 1)) ((1, 106, 3, 0, 0))) ((99, 0, 0, 0, 0))) (cond (Nat.ble 101 pc) (cond (Nat.ble 102 pc) ((20, 105, 6, 14, 0)) ((2, 102, 0, 0, 0))) ((99, 0, 0, 0, 0))))) (cond (Nat.ble 93 pc) (cond (Nat.ble 96 pc) (cond (Nat.ble 98 pc) (cond (Nat.ble 99 pc) ((99, 0, 0, 0, 0)) ((17, 101, 1, 111, 0))) (cond (Nat.ble 97 pc) ((1, 98, 1, 0, 0)) ((1, 97, 3, 0, 0)))) (cond (Nat.ble 94 pc) (cond (Nat.ble 95 pc) ((26, 96, 0, 0, 0)) ((0, 95, 0, 0, 1))) ((1, 94, 3, 0, 0)))) (cond (Nat.ble 89 pc) (cond (Nat.ble 91 pc) ((99, 0, 0, 0, 0)) (cond (Nat.ble 90 pc) ((20, 93, 6, 12, 0)) ((2, 90, 0, 0, 0)))) (cond (Nat.ble 87 pc) ((99, 0, 0, 0, 0)) ((19, 89, 0, 41, 0)))))) (cond (Nat.ble 71 pc) (cond (Nat.ble 78 pc) (cond (Nat.ble 82 pc) (cond (Nat.ble 84 pc) ((99, 0, 0, 0, 0)) (cond (Nat.ble 83 pc) ((16, 86, 5, 89, 0)) ((99, 0, 0, 0, 0)))) (cond (Nat.ble 80 pc) (cond (Nat.ble 81 pc) ((99, 0, 0, 0, 0)) ((28, 83, 80, 2, 0))) (cond (Nat.ble 79 pc) ((8, 80, 0, 0, 0)) ((0, 79, 0, 0, 1))))) (cond (Nat.ble 74 pc) (cond (Nat.ble 76 pc) (cond (Nat.ble 77 pc) ((8, 78, 0, 0, 0)) ((1, 77, 3, 0, 0))) (cond (Nat.ble 75 pc) ((1, 76, 2, 0, 0)) ((2, 75, 0, 0, 0)))) (cond (Nat.ble 72 pc) ((99, 0, 0, 0, 0)) ((17, 74, 3, 123, 0))))) (cond (Nat.ble 64 pc) (cond (Nat.ble 67 pc) (cond (Nat.ble 69 pc) (cond (Nat.ble 70 pc) ((23, 71, 0, 0, 0)) ((0, 70, 0, 0, 0))) ((99, 0, 0, 0, 0))) (cond (Nat.ble 65 pc) (cond (Nat.ble 66 pc) ((20, 69, 6, 0, 0)) ((2, 66, 0, 0, 0))) ((23, 65, 0, 0, 0)))) (cond (Nat.ble 60 pc) (cond (Nat.ble 62 pc) (cond (Nat.ble 63 pc) ((8, 64, 0, 0, 0)) ((1, 63, 3, 0, 0))) (cond (Nat.ble 61 pc) ((1, 62, 2, 0, 0)) ((99, 0, 0, 0, 0)))) (cond (Nat.ble 58 pc) (cond (Nat.ble 59 pc) ((99, 0, 0, 0, 0)) ((20, 61, 6, 8, 0))) ((2, 58, 0, 0, 0))))))) (cond (Nat.ble 28 pc) (cond (Nat.ble 42 pc) (cond (Nat.ble 49 pc) (cond (Nat.ble 53 pc) (cond (Nat.ble 55 pc) (cond (Nat.ble 56 pc) ((24, 57, 0, 0, 0)) ((8, 56, 0, 0, 0))) (cond (Nat.ble 54 pc) ((0, 55, 0, 0, 1)) ((23, 54, 0, 0, 0)))) (cond (Nat.ble 51 pc) (cond (Nat.ble 52 pc) ((31, 53, 0, 0, 0)) ((8, 52, 0, 0, 0))) (cond (Nat.ble 50 pc) ((1, 51, 3, 0, 0)) ((1, 50, 2, 0, 0))))) (cond (Nat.ble 45 pc) (cond (Nat.ble 47 pc) ((99, 0, 0, 0, 0)) (cond (Nat.ble 46 pc) ((20, 49, 6, 8, 0)) ((2, 46, 0, 0, 0)))) (cond (Nat.ble 43 pc) ((99, 0, 0, 0, 0)) ((16, 45, 2, 226, 0))))) (cond (Nat.ble 35 pc) (cond (Nat.ble 38 pc) (cond (Nat.ble 40 pc) (cond (Nat.ble 41 pc) ((1, 42, 3, 0, 0)) ((99, 0, 0, 0, 0))) (cond (Nat.ble 39 pc) ((4, 41, 4, 0, 0)) ((0, 39, 0, 0, 2)))) (cond (Nat.ble 36 pc) ((99, 0, 0, 0, 0)) ((28, 38, 110, 3, 0)))) (cond (Nat.ble 31 pc) (cond (Nat.ble 33 pc) (cond (Nat.ble 34 pc) ((0, 35, 0, 0, 0)) ((1, 34, 2, 0, 0))) (cond (Nat.ble 32 pc) ((2, 33, 0, 0, 0)) ((4, 32, 3, 0, 0)))) (cond (Nat.ble 29 pc) (cond (Nat.ble 30 pc) ((0, 31, 0, 0, 0)) ((34, 30, 0, 0, 0))) ((99, 0, 0, 0, 0)))))) (cond (Nat.ble 14 pc) (cond (Nat.ble 21 pc) (cond (Nat.ble 24 pc) (cond (Nat.ble 26 pc) (cond (Nat.ble 27 pc) ((0, 29, 0, 0, (-2))) ((99, 0, 0, 0, 0))) (cond (Nat.ble 25 pc) ((99, 0, 0, 0, 0)) ((16, 27, 5, 30, 0)))) (cond (Nat.ble 22 pc) ((99, 0, 0, 0, 0)) ((28, 24, 81, 2, 0)))) (cond (Nat.ble 17 pc) (cond (Nat.ble 19 pc) (cond (Nat.ble 20 pc) ((1, 21, 2, 0, 0)) ((2, 20, 0, 0, 0))) (cond (Nat.ble 18 pc) ((4, 19, 2, 0, 0)) ((99, 0, 0, 0, 0)))) (cond (Nat.ble 15 pc) (cond (Nat.ble 16 pc) ((99, 0, 0, 0, 0)) ((28, 18, 82, 1, 0))) ((2, 15, 0, 0, 0))))) (cond (Nat.ble 7 pc) (cond (Nat.ble 10 pc) (cond (Nat.ble 12 pc) (cond (Nat.ble 13 pc) ((34, 14, 0, 0, 0)) ((0, 13, 0, 0, (-1)))) ((99, 0, 0, 0, 0))) (cond (Nat.ble 8 pc) (cond (Nat.ble 9 pc) ((16, 12, 1, 14, 0)) ((99, 0, 0, 0, 0))) ((99, 0, 0, 0, 0)))) (cond (Nat.ble 3 pc) (cond (Nat.ble 5 pc) (cond (Nat.ble 6 pc) ((28, 9, 77, 3, 0)) ((99, 0, 0, 0, 0))) (cond (Nat.ble 4 pc) ((99, 0, 0, 0, 0)) ((15, 6, 92, 0, 8)))) (cond (Nat.ble 1 pc) (cond (Nat.ble 2 pc) ((15, 3, 0, 0, 0)) ((13, 2, 0, 0, 0))) ((1, 1, 1, 0, 0))))))))
def zc_X6_tear : Nat → zE := fun pc => cond (Nat.ble 39 pc) (cond (Nat.ble 58 pc) (cond (Nat.ble 68 pc) (cond (Nat.ble 73 pc) (cond (Nat.ble 75 pc) (cond (Nat.ble 76 pc) (cond (Nat.ble 77 pc) ((99, 0, 0, 0, 0)) ((34, 77, 0, 0, 0))) ((0, 76, 0, 0, 0))) ((99, 0, 0, 0, 0))) (cond (Nat.ble 70 pc) (cond (Nat.ble 71 pc) (cond (Nat.ble 72 pc) ((19, 75, 0, 76, 0)) ((0, 72, 0, 0, 1))) ((99, 0, 0, 0, 0))) (cond (Nat.ble 69 pc) ((99, 0, 0, 0, 0)) ((16, 71, 1, 75, 0))))) (cond (Nat.ble 63 pc) (cond (Nat.ble 65 pc) (cond (Nat.ble 66 pc) ((99, 0, 0, 0, 0)) ((28, 68, 81, 2, 0))) ((99, 0, 0, 0, 0))) (cond (Nat.ble 60 pc) (cond (Nat.ble 61 pc) (cond (Nat.ble 62 pc) ((28, 65, 82, 1, 0)) ((2, 62, 0, 0, 0))) ((2, 61, 0, 0, 0))) (cond (Nat.ble 59 pc) ((24, 60, 0, 0, 0)) ((8, 59, 1, 0, 0)))))) (cond (Nat.ble 48 pc) (cond (Nat.ble 53 pc) (cond (Nat.ble 55 pc) (cond (Nat.ble 56 pc) (cond (Nat.ble 57 pc) ((0, 58, 0, 0, 1)) ((23, 57, 0, 0, 0))) ((31, 56, 0, 0, 0))) (cond (Nat.ble 54 pc) ((0, 55, 0, 0, 4)) ((99, 0, 0, 0, 0)))) (cond (Nat.ble 50 pc) (cond (Nat.ble 51 pc) (cond (Nat.ble 52 pc) ((99, 0, 0, 0, 0)) ((20, 54, 6, 0, 0))) ((2, 51, 0, 0, 0))) ((99, 0, 0, 0, 0)))) (cond (Nat.ble 43 pc) (cond (Nat.ble 45 pc) (cond (Nat.ble 46 pc) (cond (Nat.ble 47 pc) ((19, 50, 0, 12, 0)) ((99, 0, 0, 0, 0))) ((99, 0, 0, 0, 0))) (cond (Nat.ble 44 pc) ((7, 47, 2, 0, 1)) ((24, 44, 0, 0, 0)))) (cond (Nat.ble 41 pc) (cond (Nat.ble 42 pc) ((23, 43, 0, 0, 0)) ((8, 42, 0, 0, 0))) (cond (Nat.ble 40 pc) ((0, 41, 0, 0, 1)) ((8, 40, 0, 0, 0))))))) (cond (Nat.ble 19 pc) (cond (Nat.ble 29 pc) (cond (Nat.ble 34 pc) (cond (Nat.ble 36 pc) (cond (Nat.ble 37 pc) (cond (Nat.ble 38 pc) ((1, 39, 2, 0, 0)) ((99, 0, 0, 0, 0))) ((0, 38, 0, 0, 9))) ((99, 0, 0, 0, 0))) (cond (Nat.ble 31 pc) (cond (Nat.ble 32 pc) (cond (Nat.ble 33 pc) ((20, 36, 6, 0, 0)) ((2, 33, 0, 0, 0))) ((8, 32, 0, 0, 0))) (cond (Nat.ble 30 pc) ((1, 31, 2, 0, 0)) ((99, 0, 0, 0, 0))))) (cond (Nat.ble 24 pc) (cond (Nat.ble 26 pc) (cond (Nat.ble 27 pc) (cond (Nat.ble 28 pc) ((0, 30, 0, 0, 9)) ((99, 0, 0, 0, 0))) ((99, 0, 0, 0, 0))) (cond (Nat.ble 25 pc) ((20, 28, 6, 0, 0)) ((2, 25, 0, 0, 0)))) (cond (Nat.ble 21 pc) (cond (Nat.ble 22 pc) ((99, 0, 0, 0, 0)) ((17, 24, 3, 50, 0))) (cond (Nat.ble 20 pc) ((23, 21, 0, 0, 0)) ((0, 20, 0, 0, 4)))))) (cond (Nat.ble 9 pc) (cond (Nat.ble 14 pc) (cond (Nat.ble 16 pc) (cond (Nat.ble 17 pc) ((99, 0, 0, 0, 0)) ((20, 19, 6, 0, 0))) (cond (Nat.ble 15 pc) ((2, 16, 0, 0, 0)) ((8, 15, 0, 0, 0)))) (cond (Nat.ble 11 pc) (cond (Nat.ble 12 pc) (cond (Nat.ble 13 pc) ((0, 14, 0, 0, 1)) ((1, 13, 2, 0, 0))) ((4, 12, 2, 0, 0))) (cond (Nat.ble 10 pc) ((1, 11, 1, 0, 0)) ((34, 10, 0, 0, 0))))) (cond (Nat.ble 4 pc) (cond (Nat.ble 6 pc) (cond (Nat.ble 7 pc) (cond (Nat.ble 8 pc) ((0, 9, 0, 0, (-1))) ((99, 0, 0, 0, 0))) ((99, 0, 0, 0, 0))) (cond (Nat.ble 5 pc) ((16, 8, 1, 10, 0)) ((99, 0, 0, 0, 0)))) (cond (Nat.ble 2 pc) (cond (Nat.ble 3 pc) ((99, 0, 0, 0, 0)) ((28, 5, 85, 2, 0))) (cond (Nat.ble 1 pc) ((1, 2, 1, 0, 0)) ((2, 1, 0, 0, 0)))))))
def zc_X6_mends : Nat → zE := fun pc => cond (Nat.ble 33 pc) (cond (Nat.ble 50 pc) (cond (Nat.ble 58 pc) (cond (Nat.ble 62 pc) (cond (Nat.ble 64 pc) (cond (Nat.ble 65 pc) (cond (Nat.ble 66 pc) ((99, 0, 0, 0, 0)) ((34, 66, 0, 0, 0))) ((1, 65, 3, 0, 0))) ((99, 0, 0, 0, 0))) (cond (Nat.ble 60 pc) (cond (Nat.ble 61 pc) ((19, 64, 0, 20, 0)) ((99, 0, 0, 0, 0))) (cond (Nat.ble 59 pc) ((99, 0, 0, 0, 0)) ((7, 61, 4, 0, 1))))) (cond (Nat.ble 54 pc) (cond (Nat.ble 56 pc) (cond (Nat.ble 57 pc) ((4, 58, 3, 0, 0)) ((8, 57, 4, 0, 0))) (cond (Nat.ble 55 pc) ((0, 56, 0, 0, 0)) ((99, 0, 0, 0, 0)))) (cond (Nat.ble 52 pc) (cond (Nat.ble 53 pc) ((99, 0, 0, 0, 0)) ((19, 55, 0, 56, 0))) (cond (Nat.ble 51 pc) ((8, 52, 5, 0, 0)) ((99, 0, 0, 0, 0)))))) (cond (Nat.ble 41 pc) (cond (Nat.ble 45 pc) (cond (Nat.ble 47 pc) (cond (Nat.ble 48 pc) (cond (Nat.ble 49 pc) ((1, 51, 4, 0, 0)) ((0, 49, 0, 0, 1))) ((99, 0, 0, 0, 0))) (cond (Nat.ble 46 pc) ((99, 0, 0, 0, 0)) ((16, 48, 1, 55, 0)))) (cond (Nat.ble 43 pc) ((99, 0, 0, 0, 0)) (cond (Nat.ble 42 pc) ((28, 45, 81, 2, 0)) ((1, 42, 2, 0, 0))))) (cond (Nat.ble 37 pc) (cond (Nat.ble 39 pc) (cond (Nat.ble 40 pc) ((2, 41, 0, 0, 0)) ((1, 40, 3, 0, 0))) (cond (Nat.ble 38 pc) ((24, 39, 0, 0, 0)) ((99, 0, 0, 0, 0)))) (cond (Nat.ble 35 pc) (cond (Nat.ble 36 pc) ((1, 38, 4, 0, 0)) ((1, 36, 1, 0, 0))) ((99, 0, 0, 0, 0)))))) (cond (Nat.ble 16 pc) (cond (Nat.ble 24 pc) (cond (Nat.ble 28 pc) (cond (Nat.ble 30 pc) (cond (Nat.ble 31 pc) (cond (Nat.ble 32 pc) ((20, 35, 6, 8, 0)) ((2, 32, 0, 0, 0))) ((99, 0, 0, 0, 0))) (cond (Nat.ble 29 pc) ((99, 0, 0, 0, 0)) ((17, 31, 3, 64, 0)))) (cond (Nat.ble 26 pc) (cond (Nat.ble 27 pc) ((23, 28, 0, 0, 0)) ((0, 27, 0, 0, 0))) ((99, 0, 0, 0, 0)))) (cond (Nat.ble 20 pc) (cond (Nat.ble 22 pc) (cond (Nat.ble 23 pc) ((20, 26, 6, 0, 0)) ((2, 23, 0, 0, 0))) (cond (Nat.ble 21 pc) ((99, 0, 0, 0, 0)) ((1, 22, 4, 0, 0)))) (cond (Nat.ble 18 pc) (cond (Nat.ble 19 pc) ((99, 0, 0, 0, 0)) ((4, 20, 4, 0, 0))) (cond (Nat.ble 17 pc) ((0, 18, 0, 0, 0)) ((4, 17, 3, 0, 0)))))) (cond (Nat.ble 8 pc) (cond (Nat.ble 12 pc) (cond (Nat.ble 14 pc) (cond (Nat.ble 15 pc) ((0, 16, 0, 0, 0)) ((4, 15, 2, 0, 0))) ((99, 0, 0, 0, 0))) (cond (Nat.ble 10 pc) (cond (Nat.ble 11 pc) ((28, 14, 82, 1, 0)) ((2, 11, 0, 0, 0))) (cond (Nat.ble 9 pc) ((34, 10, 0, 0, 0)) ((0, 9, 0, 0, (-1)))))) (cond (Nat.ble 4 pc) (cond (Nat.ble 6 pc) ((99, 0, 0, 0, 0)) (cond (Nat.ble 5 pc) ((16, 8, 1, 10, 0)) ((99, 0, 0, 0, 0)))) (cond (Nat.ble 2 pc) (cond (Nat.ble 3 pc) ((99, 0, 0, 0, 0)) ((28, 5, 85, 2, 0))) (cond (Nat.ble 1 pc) ((1, 2, 1, 0, 0)) ((2, 1, 0, 0, 0)))))))
def zc_X6_replace : Nat → zE := fun pc => cond (Nat.ble 15 pc) (cond (Nat.ble 23 pc) (cond (Nat.ble 27 pc) (cond (Nat.ble 29 pc) (cond (Nat.ble 30 pc) ((99, 0, 0, 0, 0)) ((34, 30, 0, 0, 0))) (cond (Nat.ble 28 pc) ((0, 29, 0, 0, (-1))) ((99, 0, 0, 0, 0)))) (cond (Nat.ble 25 pc) (cond (Nat.ble 26 pc) ((99, 0, 0, 0, 0)) ((19, 28, 0, 29, 0))) ((99, 0, 0, 0, 0)))) (cond (Nat.ble 19 pc) (cond (Nat.ble 21 pc) (cond (Nat.ble 22 pc) ((28, 25, 78, 3, 0)) ((1, 22, 2, 0, 0))) (cond (Nat.ble 20 pc) ((8, 21, 0, 0, 0)) ((1, 20, 1, 0, 0)))) (cond (Nat.ble 17 pc) (cond (Nat.ble 18 pc) ((99, 0, 0, 0, 0)) ((0, 19, 0, 0, 9))) (cond (Nat.ble 16 pc) ((2, 17, 0, 0, 0)) ((99, 0, 0, 0, 0)))))) (cond (Nat.ble 7 pc) (cond (Nat.ble 11 pc) (cond (Nat.ble 13 pc) (cond (Nat.ble 14 pc) ((99, 0, 0, 0, 0)) ((16, 16, 0, 28, 0))) ((99, 0, 0, 0, 0))) (cond (Nat.ble 9 pc) (cond (Nat.ble 10 pc) ((28, 13, 86, 2, 0)) ((1, 10, 2, 0, 0))) (cond (Nat.ble 8 pc) ((2, 9, 0, 0, 0)) ((99, 0, 0, 0, 0))))) (cond (Nat.ble 3 pc) (cond (Nat.ble 5 pc) (cond (Nat.ble 6 pc) ((99, 0, 0, 0, 0)) ((16, 8, 0, 28, 0))) ((99, 0, 0, 0, 0))) (cond (Nat.ble 1 pc) (cond (Nat.ble 2 pc) ((28, 5, 85, 2, 0)) ((1, 2, 1, 0, 0))) ((2, 1, 0, 0, 0)))))
def zc_X6_lots : Nat → zE := fun pc => cond (Nat.ble 81 pc) (cond (Nat.ble 121 pc) (cond (Nat.ble 141 pc) (cond (Nat.ble 151 pc) (cond (Nat.ble 156 pc) (cond (Nat.ble 159 pc) (cond (Nat.ble 160 pc) (cond (Nat.ble 161 pc) ((99, 0, 0, 0, 0)) ((34, 161, 0, 0, 0))) ((1, 160, 2, 0, 0))) (cond (Nat.ble 157 pc) ((99, 0, 0, 0, 0)) ((19, 159, 0, 37, 0)))) (cond (Nat.ble 153 pc) (cond (Nat.ble 154 pc) (cond (Nat.ble 155 pc) ((4, 156, 3, 0, 0)) ((99, 0, 0, 0, 0))) ((99, 0, 0, 0, 0))) (cond (Nat.ble 152 pc) ((28, 155, 98, 1, 0)) ((2, 152, 0, 0, 0))))) (cond (Nat.ble 146 pc) (cond (Nat.ble 148 pc) (cond (Nat.ble 149 pc) ((99, 0, 0, 0, 0)) ((7, 151, 2, 0, 1))) (cond (Nat.ble 147 pc) ((24, 148, 0, 0, 0)) ((8, 147, 0, 0, 0)))) (cond (Nat.ble 143 pc) (cond (Nat.ble 144 pc) (cond (Nat.ble 145 pc) ((0, 146, 0, 0, 1)) ((23, 145, 0, 0, 0))) ((31, 144, 0, 0, 0))) (cond (Nat.ble 142 pc) ((0, 143, 0, 0, 4)) ((99, 0, 0, 0, 0)))))) (cond (Nat.ble 131 pc) (cond (Nat.ble 136 pc) (cond (Nat.ble 138 pc) (cond (Nat.ble 139 pc) (cond (Nat.ble 140 pc) ((99, 0, 0, 0, 0)) ((20, 142, 6, 0, 0))) ((2, 139, 0, 0, 0))) (cond (Nat.ble 137 pc) ((24, 138, 0, 0, 0)) ((99, 0, 0, 0, 0)))) (cond (Nat.ble 133 pc) (cond (Nat.ble 134 pc) (cond (Nat.ble 135 pc) ((1, 137, 5, 0, 0)) ((8, 135, 0, 0, 0))) ((23, 134, 0, 0, 0))) (cond (Nat.ble 132 pc) ((0, 133, 0, 0, 4)) ((99, 0, 0, 0, 0))))) (cond (Nat.ble 126 pc) (cond (Nat.ble 128 pc) (cond (Nat.ble 129 pc) (cond (Nat.ble 130 pc) ((99, 0, 0, 0, 0)) ((20, 132, 6, 0, 0))) ((2, 129, 0, 0, 0))) (cond (Nat.ble 127 pc) ((99, 0, 0, 0, 0)) ((0, 128, 0, 0, 9)))) (cond (Nat.ble 123 pc) (cond (Nat.ble 124 pc) ((99, 0, 0, 0, 0)) ((20, 126, 6, 0, 0))) (cond (Nat.ble 122 pc) ((2, 123, 0, 0, 0)) ((99, 0, 0, 0, 0))))))) (cond (Nat.ble 101 pc) (cond (Nat.ble 111 pc) (cond (Nat.ble 116 pc) (cond (Nat.ble 118 pc) (cond (Nat.ble 119 pc) (cond (Nat.ble 120 pc) ((99, 0, 0, 0, 0)) ((19, 122, 0, 91, 0))) ((99, 0, 0, 0, 0))) (cond (Nat.ble 117 pc) ((99, 0, 0, 0, 0)) ((7, 119, 5, 0, 1)))) (cond (Nat.ble 113 pc) (cond (Nat.ble 114 pc) (cond (Nat.ble 115 pc) ((99, 0, 0, 0, 0)) ((4, 116, 4, 0, 0))) ((8, 114, 1, 0, 0))) (cond (Nat.ble 112 pc) ((8, 113, 3, 0, 0)) ((0, 112, 0, 0, 1))))) (cond (Nat.ble 106 pc) (cond (Nat.ble 108 pc) (cond (Nat.ble 109 pc) (cond (Nat.ble 110 pc) ((8, 111, 6, 0, 0)) ((99, 0, 0, 0, 0))) ((1, 110, 5, 0, 0))) (cond (Nat.ble 107 pc) ((1, 108, 3, 0, 0)) ((99, 0, 0, 0, 0)))) (cond (Nat.ble 103 pc) (cond (Nat.ble 104 pc) (cond (Nat.ble 105 pc) ((1, 107, 4, 0, 0)) ((99, 0, 0, 0, 0))) ((99, 0, 0, 0, 0))) (cond (Nat.ble 102 pc) ((16, 105, 5, 122, 0)) ((99, 0, 0, 0, 0)))))) (cond (Nat.ble 91 pc) (cond (Nat.ble 96 pc) (cond (Nat.ble 98 pc) (cond (Nat.ble 99 pc) (cond (Nat.ble 100 pc) ((1, 102, 4, 0, 0)) ((99, 0, 0, 0, 0))) ((99, 0, 0, 0, 0))) (cond (Nat.ble 97 pc) ((16, 100, 0, 105, 0)) ((8, 97, 3, 0, 0)))) (cond (Nat.ble 93 pc) (cond (Nat.ble 94 pc) (cond (Nat.ble 95 pc) ((0, 96, 0, 0, 1)) ((8, 95, 6, 0, 0))) ((99, 0, 0, 0, 0))) (cond (Nat.ble 92 pc) ((1, 94, 5, 0, 0)) ((1, 92, 3, 0, 0))))) (cond (Nat.ble 86 pc) (cond (Nat.ble 88 pc) (cond (Nat.ble 89 pc) (cond (Nat.ble 90 pc) ((99, 0, 0, 0, 0)) ((4, 91, 5, 0, 0))) ((0, 89, 0, 0, 0))) (cond (Nat.ble 87 pc) ((99, 0, 0, 0, 0)) ((4, 88, 4, 0, 0)))) (cond (Nat.ble 83 pc) (cond (Nat.ble 84 pc) (cond (Nat.ble 85 pc) ((10, 86, 0, 0, 0)) ((99, 0, 0, 0, 0))) ((99, 0, 0, 0, 0))) (cond (Nat.ble 82 pc) ((28, 85, 84, 1, 0)) ((1, 82, 3, 0, 0)))))))) (cond (Nat.ble 40 pc) (cond (Nat.ble 60 pc) (cond (Nat.ble 70 pc) (cond (Nat.ble 75 pc) (cond (Nat.ble 78 pc) (cond (Nat.ble 79 pc) (cond (Nat.ble 80 pc) ((9, 81, 0, 0, 0)) ((99, 0, 0, 0, 0))) ((0, 80, 144, 0, 65536))) (cond (Nat.ble 76 pc) (cond (Nat.ble 77 pc) ((23, 78, 0, 0, 0)) ((0, 77, 0, 0, 3))) ((99, 0, 0, 0, 0)))) (cond (Nat.ble 72 pc) (cond (Nat.ble 73 pc) (cond (Nat.ble 74 pc) ((99, 0, 0, 0, 0)) ((20, 76, 6, 0, 0))) ((2, 73, 0, 0, 0))) (cond (Nat.ble 71 pc) ((24, 72, 0, 0, 0)) ((13, 71, 1, 0, 0))))) (cond (Nat.ble 65 pc) (cond (Nat.ble 67 pc) (cond (Nat.ble 68 pc) (cond (Nat.ble 69 pc) ((11, 70, 2, 0, 0)) ((99, 0, 0, 0, 0))) ((99, 0, 0, 0, 0))) (cond (Nat.ble 66 pc) ((15, 69, 142, 0, 2147483647)) ((11, 66, 0, 0, 0)))) (cond (Nat.ble 62 pc) (cond (Nat.ble 63 pc) ((99, 0, 0, 0, 0)) ((15, 65, 140, 0, 12345))) (cond (Nat.ble 61 pc) ((11, 62, 1, 0, 0)) ((99, 0, 0, 0, 0)))))) (cond (Nat.ble 50 pc) (cond (Nat.ble 55 pc) (cond (Nat.ble 57 pc) (cond (Nat.ble 58 pc) (cond (Nat.ble 59 pc) ((99, 0, 0, 0, 0)) ((15, 61, 138, 0, 1103515245))) ((13, 58, 0, 0, 0))) (cond (Nat.ble 56 pc) ((23, 57, 0, 0, 0)) ((0, 56, 0, 0, 3)))) (cond (Nat.ble 52 pc) (cond (Nat.ble 53 pc) ((99, 0, 0, 0, 0)) ((20, 55, 6, 0, 0))) (cond (Nat.ble 51 pc) ((2, 52, 0, 0, 0)) ((0, 51, 0, 0, 3))))) (cond (Nat.ble 45 pc) (cond (Nat.ble 47 pc) (cond (Nat.ble 48 pc) ((99, 0, 0, 0, 0)) ((20, 50, 6, 0, 0))) (cond (Nat.ble 46 pc) ((2, 47, 0, 0, 0)) ((99, 0, 0, 0, 0)))) (cond (Nat.ble 42 pc) (cond (Nat.ble 43 pc) (cond (Nat.ble 44 pc) ((99, 0, 0, 0, 0)) ((16, 46, 0, 159, 0))) ((1, 43, 3, 0, 0))) ((99, 0, 0, 0, 0)))))) (cond (Nat.ble 20 pc) (cond (Nat.ble 30 pc) (cond (Nat.ble 35 pc) (cond (Nat.ble 37 pc) (cond (Nat.ble 38 pc) (cond (Nat.ble 39 pc) ((17, 42, 3, 159, 0)) ((1, 39, 1, 0, 0))) ((1, 38, 2, 0, 0))) (cond (Nat.ble 36 pc) ((4, 37, 3, 0, 0)) ((99, 0, 0, 0, 0)))) (cond (Nat.ble 32 pc) (cond (Nat.ble 33 pc) (cond (Nat.ble 34 pc) ((99, 0, 0, 0, 0)) ((28, 36, 98, 1, 0))) ((2, 33, 0, 0, 0))) (cond (Nat.ble 31 pc) ((4, 32, 2, 0, 0)) ((0, 31, 0, 0, 0))))) (cond (Nat.ble 25 pc) (cond (Nat.ble 27 pc) (cond (Nat.ble 28 pc) (cond (Nat.ble 29 pc) ((34, 30, 0, 0, 0)) ((99, 0, 0, 0, 0))) ((0, 29, 0, 0, (-3)))) ((99, 0, 0, 0, 0))) (cond (Nat.ble 22 pc) (cond (Nat.ble 23 pc) (cond (Nat.ble 24 pc) ((17, 27, 5, 30, 0)) ((99, 0, 0, 0, 0))) ((0, 24, 0, 0, 48))) (cond (Nat.ble 21 pc) ((8, 22, 0, 0, 0)) ((1, 21, 1, 0, 0)))))) (cond (Nat.ble 10 pc) (cond (Nat.ble 15 pc) (cond (Nat.ble 17 pc) (cond (Nat.ble 18 pc) (cond (Nat.ble 19 pc) ((23, 20, 0, 0, 0)) ((0, 19, 0, 0, 4))) ((99, 0, 0, 0, 0))) (cond (Nat.ble 16 pc) ((99, 0, 0, 0, 0)) ((20, 18, 6, 0, 0)))) (cond (Nat.ble 12 pc) (cond (Nat.ble 13 pc) (cond (Nat.ble 14 pc) ((2, 15, 0, 0, 0)) ((34, 14, 0, 0, 0))) ((0, 13, 0, 0, (-1)))) ((99, 0, 0, 0, 0)))) (cond (Nat.ble 5 pc) (cond (Nat.ble 7 pc) (cond (Nat.ble 8 pc) (cond (Nat.ble 9 pc) ((16, 12, 1, 14, 0)) ((99, 0, 0, 0, 0))) ((99, 0, 0, 0, 0))) (cond (Nat.ble 6 pc) ((28, 9, 77, 3, 0)) ((99, 0, 0, 0, 0)))) (cond (Nat.ble 2 pc) (cond (Nat.ble 3 pc) (cond (Nat.ble 4 pc) ((99, 0, 0, 0, 0)) ((15, 6, 87, 0, 48))) ((15, 3, 0, 0, 1))) (cond (Nat.ble 1 pc) ((13, 2, 0, 0, 0)) ((1, 1, 1, 0, 0))))))))
def zc_X6_seed : Nat → zE := fun pc => cond (Nat.ble 8 pc) (cond (Nat.ble 12 pc) (cond (Nat.ble 14 pc) (cond (Nat.ble 15 pc) ((99, 0, 0, 0, 0)) ((34, 15, 0, 0, 0))) ((99, 0, 0, 0, 0))) (cond (Nat.ble 10 pc) (cond (Nat.ble 11 pc) ((28, 14, 78, 3, 0)) ((1, 11, 1, 0, 0))) (cond (Nat.ble 9 pc) ((0, 10, 0, 0, 3)) ((2, 9, 0, 0, 0))))) (cond (Nat.ble 4 pc) (cond (Nat.ble 6 pc) ((99, 0, 0, 0, 0)) (cond (Nat.ble 5 pc) ((19, 8, 0, 14, 0)) ((0, 5, 0, 0, (-1))))) (cond (Nat.ble 2 pc) ((99, 0, 0, 0, 0)) (cond (Nat.ble 1 pc) ((16, 4, 3, 8, 0)) ((1, 1, 1, 0, 0)))))
def zc_X6_image : Nat → zE := fun pc => cond (Nat.ble 17 pc) (cond (Nat.ble 25 pc) (cond (Nat.ble 29 pc) (cond (Nat.ble 31 pc) (cond (Nat.ble 32 pc) (cond (Nat.ble 33 pc) ((99, 0, 0, 0, 0)) ((34, 33, 0, 0, 0))) ((0, 32, 0, 0, 1))) ((99, 0, 0, 0, 0))) (cond (Nat.ble 27 pc) (cond (Nat.ble 28 pc) ((22, 31, 6, 2, 0)) ((0, 28, 0, 0, 1))) (cond (Nat.ble 26 pc) ((2, 27, 0, 0, 0)) ((99, 0, 0, 0, 0))))) (cond (Nat.ble 21 pc) (cond (Nat.ble 23 pc) (cond (Nat.ble 24 pc) ((99, 0, 0, 0, 0)) ((19, 26, 0, 2, 0))) ((99, 0, 0, 0, 0))) (cond (Nat.ble 19 pc) (cond (Nat.ble 20 pc) ((7, 23, 1, 0, 1)) ((24, 20, 0, 0, 0))) (cond (Nat.ble 18 pc) ((23, 19, 0, 0, 0)) ((1, 18, 1, 0, 0)))))) (cond (Nat.ble 8 pc) (cond (Nat.ble 12 pc) (cond (Nat.ble 14 pc) (cond (Nat.ble 15 pc) ((99, 0, 0, 0, 0)) ((20, 17, 6, 0, 0))) (cond (Nat.ble 13 pc) ((2, 14, 0, 0, 0)) ((1, 13, 1, 0, 0)))) (cond (Nat.ble 10 pc) ((99, 0, 0, 0, 0)) (cond (Nat.ble 9 pc) ((20, 12, 6, 1, 0)) ((2, 9, 0, 0, 0))))) (cond (Nat.ble 4 pc) (cond (Nat.ble 6 pc) ((99, 0, 0, 0, 0)) (cond (Nat.ble 5 pc) ((17, 8, 3, 26, 0)) ((99, 0, 0, 0, 0)))) (cond (Nat.ble 2 pc) (cond (Nat.ble 3 pc) ((0, 5, 0, 0, 57)) ((1, 3, 1, 0, 0))) (cond (Nat.ble 1 pc) ((4, 2, 1, 0, 0)) ((0, 1, 0, 0, 0))))))
def zc_X6_restore : Nat → zE := fun pc => cond (Nat.ble 19 pc) (cond (Nat.ble 29 pc) (cond (Nat.ble 34 pc) (cond (Nat.ble 36 pc) (cond (Nat.ble 37 pc) (cond (Nat.ble 38 pc) ((99, 0, 0, 0, 0)) ((34, 38, 0, 0, 0))) ((0, 37, 0, 0, 1))) ((99, 0, 0, 0, 0))) (cond (Nat.ble 31 pc) (cond (Nat.ble 32 pc) (cond (Nat.ble 33 pc) ((19, 36, 0, 12, 0)) ((99, 0, 0, 0, 0))) ((99, 0, 0, 0, 0))) (cond (Nat.ble 30 pc) ((7, 33, 1, 0, 1)) ((24, 30, 0, 0, 0))))) (cond (Nat.ble 24 pc) (cond (Nat.ble 26 pc) (cond (Nat.ble 27 pc) (cond (Nat.ble 28 pc) ((23, 29, 0, 0, 0)) ((1, 28, 1, 0, 0))) ((99, 0, 0, 0, 0))) (cond (Nat.ble 25 pc) ((99, 0, 0, 0, 0)) ((20, 27, 6, 1, 0)))) (cond (Nat.ble 21 pc) (cond (Nat.ble 22 pc) (cond (Nat.ble 23 pc) ((2, 24, 0, 0, 0)) ((1, 23, 1, 0, 0))) ((99, 0, 0, 0, 0))) (cond (Nat.ble 20 pc) ((99, 0, 0, 0, 0)) ((20, 22, 6, 0, 0)))))) (cond (Nat.ble 9 pc) (cond (Nat.ble 14 pc) (cond (Nat.ble 16 pc) (cond (Nat.ble 17 pc) (cond (Nat.ble 18 pc) ((2, 19, 0, 0, 0)) ((99, 0, 0, 0, 0))) ((99, 0, 0, 0, 0))) (cond (Nat.ble 15 pc) ((17, 18, 3, 36, 0)) ((99, 0, 0, 0, 0)))) (cond (Nat.ble 11 pc) (cond (Nat.ble 12 pc) (cond (Nat.ble 13 pc) ((0, 15, 0, 0, 57)) ((1, 13, 1, 0, 0))) ((4, 12, 1, 0, 0))) (cond (Nat.ble 10 pc) ((0, 11, 0, 0, 0)) ((34, 10, 0, 0, 0))))) (cond (Nat.ble 4 pc) (cond (Nat.ble 6 pc) (cond (Nat.ble 7 pc) (cond (Nat.ble 8 pc) ((99, 0, 0, 0, 0)) ((0, 9, 0, 0, (-4)))) ((99, 0, 0, 0, 0))) (cond (Nat.ble 5 pc) ((99, 0, 0, 0, 0)) ((16, 7, 1, 10, 0)))) (cond (Nat.ble 2 pc) ((99, 0, 0, 0, 0)) (cond (Nat.ble 1 pc) ((20, 4, 6, 2, 0)) ((2, 1, 0, 0, 0))))))
def zc_X6_isSheet : Nat → zE := fun pc => cond (Nat.ble 15 pc) (cond (Nat.ble 23 pc) (cond (Nat.ble 27 pc) (cond (Nat.ble 29 pc) (cond (Nat.ble 30 pc) ((99, 0, 0, 0, 0)) ((35, 30, 0, 0, 0))) (cond (Nat.ble 28 pc) ((0, 29, 0, 0, 0)) ((99, 0, 0, 0, 0)))) (cond (Nat.ble 25 pc) (cond (Nat.ble 26 pc) ((99, 0, 0, 0, 0)) ((19, 28, 0, 29, 0))) (cond (Nat.ble 24 pc) ((0, 25, 0, 0, 1)) ((99, 0, 0, 0, 0))))) (cond (Nat.ble 19 pc) (cond (Nat.ble 21 pc) (cond (Nat.ble 22 pc) ((99, 0, 0, 0, 0)) ((16, 24, 0, 28, 0))) ((99, 0, 0, 0, 0))) (cond (Nat.ble 17 pc) (cond (Nat.ble 18 pc) ((28, 21, 77, 3, 0)) ((99, 0, 0, 0, 0))) (cond (Nat.ble 16 pc) ((99, 0, 0, 0, 0)) ((15, 18, 62, 0, 2)))))) (cond (Nat.ble 7 pc) (cond (Nat.ble 11 pc) (cond (Nat.ble 13 pc) (cond (Nat.ble 14 pc) ((15, 15, 0, 0, 0)) ((13, 14, 0, 0, 0))) (cond (Nat.ble 12 pc) ((1, 13, 1, 0, 0)) ((99, 0, 0, 0, 0)))) (cond (Nat.ble 9 pc) (cond (Nat.ble 10 pc) ((99, 0, 0, 0, 0)) ((16, 12, 0, 28, 0))) ((99, 0, 0, 0, 0)))) (cond (Nat.ble 3 pc) (cond (Nat.ble 5 pc) (cond (Nat.ble 6 pc) ((28, 9, 77, 3, 0)) ((99, 0, 0, 0, 0))) (cond (Nat.ble 4 pc) ((99, 0, 0, 0, 0)) ((15, 6, 70, 0, 3)))) (cond (Nat.ble 1 pc) (cond (Nat.ble 2 pc) ((15, 3, 0, 0, 0)) ((13, 2, 0, 0, 0))) ((1, 1, 0, 0, 0)))))
def zc_X6_found : Nat → zE := fun pc => cond (Nat.ble 29 pc) (cond (Nat.ble 43 pc) (cond (Nat.ble 50 pc) (cond (Nat.ble 54 pc) (cond (Nat.ble 56 pc) (cond (Nat.ble 57 pc) ((99, 0, 0, 0, 0)) ((34, 57, 0, 0, 0))) (cond (Nat.ble 55 pc) ((0, 56, 0, 0, 0)) ((99, 0, 0, 0, 0)))) (cond (Nat.ble 52 pc) (cond (Nat.ble 53 pc) ((99, 0, 0, 0, 0)) ((19, 55, 0, 56, 0))) (cond (Nat.ble 51 pc) ((99, 0, 0, 0, 0)) ((0, 52, 0, 0, (-13)))))) (cond (Nat.ble 46 pc) (cond (Nat.ble 48 pc) ((99, 0, 0, 0, 0)) (cond (Nat.ble 47 pc) ((16, 50, 5, 55, 0)) ((14, 47, 0, 0, 0)))) (cond (Nat.ble 44 pc) (cond (Nat.ble 45 pc) ((13, 46, 0, 0, 0)) ((23, 45, 0, 0, 0))) ((1, 44, 1, 0, 0))))) (cond (Nat.ble 36 pc) (cond (Nat.ble 39 pc) (cond (Nat.ble 41 pc) ((99, 0, 0, 0, 0)) (cond (Nat.ble 40 pc) ((20, 43, 6, 5, 0)) ((2, 40, 0, 0, 0)))) (cond (Nat.ble 37 pc) (cond (Nat.ble 38 pc) ((11, 39, 0, 0, 0)) ((13, 38, 0, 0, 0))) ((99, 0, 0, 0, 0)))) (cond (Nat.ble 32 pc) (cond (Nat.ble 34 pc) (cond (Nat.ble 35 pc) ((1, 37, 4, 0, 0)) ((13, 35, 0, 0, 0))) (cond (Nat.ble 33 pc) ((1, 34, 3, 0, 0)) ((99, 0, 0, 0, 0)))) (cond (Nat.ble 30 pc) (cond (Nat.ble 31 pc) ((99, 0, 0, 0, 0)) ((16, 33, 2, 50, 0))) ((1, 30, 3, 0, 0)))))) (cond (Nat.ble 14 pc) (cond (Nat.ble 21 pc) (cond (Nat.ble 25 pc) (cond (Nat.ble 27 pc) ((99, 0, 0, 0, 0)) (cond (Nat.ble 26 pc) ((19, 29, 0, 56, 0)) ((99, 0, 0, 0, 0)))) (cond (Nat.ble 23 pc) (cond (Nat.ble 24 pc) ((0, 26, 0, 0, (-12))) ((99, 0, 0, 0, 0))) (cond (Nat.ble 22 pc) ((99, 0, 0, 0, 0)) ((17, 24, 0, 29, 0))))) (cond (Nat.ble 17 pc) (cond (Nat.ble 19 pc) (cond (Nat.ble 20 pc) ((1, 21, 2, 0, 0)) ((23, 20, 0, 0, 0))) (cond (Nat.ble 18 pc) ((1, 19, 1, 0, 0)) ((99, 0, 0, 0, 0)))) (cond (Nat.ble 15 pc) (cond (Nat.ble 16 pc) ((99, 0, 0, 0, 0)) ((20, 18, 6, 6, 0))) ((2, 15, 0, 0, 0))))) (cond (Nat.ble 7 pc) (cond (Nat.ble 10 pc) (cond (Nat.ble 12 pc) ((99, 0, 0, 0, 0)) (cond (Nat.ble 11 pc) ((19, 14, 0, 56, 0)) ((99, 0, 0, 0, 0)))) (cond (Nat.ble 8 pc) (cond (Nat.ble 9 pc) ((0, 11, 0, 0, (-11))) ((99, 0, 0, 0, 0))) ((99, 0, 0, 0, 0)))) (cond (Nat.ble 3 pc) (cond (Nat.ble 5 pc) (cond (Nat.ble 6 pc) ((16, 9, 3, 14, 0)) ((23, 6, 0, 0, 0))) (cond (Nat.ble 4 pc) ((1, 5, 1, 0, 0)) ((99, 0, 0, 0, 0)))) (cond (Nat.ble 1 pc) (cond (Nat.ble 2 pc) ((99, 0, 0, 0, 0)) ((20, 4, 6, 5, 0))) ((2, 1, 0, 0, 0))))))
def zc_X6_isRising : Nat → zE := fun pc => cond (Nat.ble 37 pc) (cond (Nat.ble 55 pc) (cond (Nat.ble 64 pc) (cond (Nat.ble 69 pc) (cond (Nat.ble 71 pc) (cond (Nat.ble 72 pc) (cond (Nat.ble 73 pc) ((99, 0, 0, 0, 0)) ((35, 73, 0, 0, 0))) ((1, 72, 3, 0, 0))) ((99, 0, 0, 0, 0))) (cond (Nat.ble 66 pc) (cond (Nat.ble 67 pc) (cond (Nat.ble 68 pc) ((19, 71, 0, 5, 0)) ((99, 0, 0, 0, 0))) ((99, 0, 0, 0, 0))) (cond (Nat.ble 65 pc) ((7, 68, 4, 0, 1)) ((4, 65, 3, 0, 0))))) (cond (Nat.ble 59 pc) (cond (Nat.ble 61 pc) (cond (Nat.ble 62 pc) (cond (Nat.ble 63 pc) ((0, 64, 0, 0, 0)) ((99, 0, 0, 0, 0))) ((99, 0, 0, 0, 0))) (cond (Nat.ble 60 pc) ((19, 63, 0, 64, 0)) ((0, 60, 0, 0, 1)))) (cond (Nat.ble 57 pc) ((99, 0, 0, 0, 0)) (cond (Nat.ble 56 pc) ((17, 59, 5, 63, 0)) ((23, 56, 0, 0, 0)))))) (cond (Nat.ble 46 pc) (cond (Nat.ble 50 pc) (cond (Nat.ble 52 pc) (cond (Nat.ble 53 pc) (cond (Nat.ble 54 pc) ((8, 55, 1, 0, 0)) ((0, 54, 0, 0, 1))) ((8, 53, 0, 0, 0))) (cond (Nat.ble 51 pc) ((99, 0, 0, 0, 0)) ((1, 52, 4, 0, 0)))) (cond (Nat.ble 48 pc) (cond (Nat.ble 49 pc) ((1, 50, 1, 0, 0)) ((99, 0, 0, 0, 0))) (cond (Nat.ble 47 pc) ((99, 0, 0, 0, 0)) ((20, 49, 6, 7, 0))))) (cond (Nat.ble 41 pc) (cond (Nat.ble 43 pc) (cond (Nat.ble 44 pc) (cond (Nat.ble 45 pc) ((2, 46, 0, 0, 0)) ((23, 45, 0, 0, 0))) ((8, 44, 0, 0, 0))) (cond (Nat.ble 42 pc) ((99, 0, 0, 0, 0)) ((1, 43, 4, 0, 0)))) (cond (Nat.ble 39 pc) (cond (Nat.ble 40 pc) ((1, 41, 1, 0, 0)) ((99, 0, 0, 0, 0))) (cond (Nat.ble 38 pc) ((99, 0, 0, 0, 0)) ((20, 40, 6, 7, 0))))))) (cond (Nat.ble 18 pc) (cond (Nat.ble 27 pc) (cond (Nat.ble 32 pc) (cond (Nat.ble 34 pc) (cond (Nat.ble 35 pc) (cond (Nat.ble 36 pc) ((2, 37, 0, 0, 0)) ((99, 0, 0, 0, 0))) ((99, 0, 0, 0, 0))) (cond (Nat.ble 33 pc) ((16, 36, 0, 59, 0)) ((99, 0, 0, 0, 0)))) (cond (Nat.ble 29 pc) (cond (Nat.ble 30 pc) (cond (Nat.ble 31 pc) ((1, 33, 4, 0, 0)) ((99, 0, 0, 0, 0))) ((99, 0, 0, 0, 0))) (cond (Nat.ble 28 pc) ((16, 31, 0, 63, 0)) ((99, 0, 0, 0, 0))))) (cond (Nat.ble 22 pc) (cond (Nat.ble 24 pc) (cond (Nat.ble 25 pc) (cond (Nat.ble 26 pc) ((99, 0, 0, 0, 0)) ((28, 28, 85, 2, 0))) ((23, 25, 0, 0, 0))) (cond (Nat.ble 23 pc) ((8, 24, 0, 0, 0)) ((99, 0, 0, 0, 0)))) (cond (Nat.ble 20 pc) (cond (Nat.ble 21 pc) ((1, 23, 4, 0, 0)) ((1, 21, 1, 0, 0))) ((99, 0, 0, 0, 0))))) (cond (Nat.ble 9 pc) (cond (Nat.ble 13 pc) (cond (Nat.ble 15 pc) (cond (Nat.ble 16 pc) (cond (Nat.ble 17 pc) ((20, 20, 6, 7, 0)) ((2, 17, 0, 0, 0))) ((2, 16, 0, 0, 0))) ((99, 0, 0, 0, 0))) (cond (Nat.ble 11 pc) (cond (Nat.ble 12 pc) ((16, 15, 0, 63, 0)) ((1, 12, 3, 0, 0))) ((99, 0, 0, 0, 0)))) (cond (Nat.ble 4 pc) (cond (Nat.ble 6 pc) (cond (Nat.ble 7 pc) (cond (Nat.ble 8 pc) ((17, 11, 3, 71, 0)) ((1, 8, 2, 0, 0))) ((99, 0, 0, 0, 0))) (cond (Nat.ble 5 pc) ((1, 7, 4, 0, 0)) ((99, 0, 0, 0, 0)))) (cond (Nat.ble 2 pc) (cond (Nat.ble 3 pc) ((4, 5, 4, 0, 0)) ((0, 3, 0, 0, 0))) (cond (Nat.ble 1 pc) ((4, 2, 3, 0, 0)) ((0, 1, 0, 0, 1)))))))
def zc_X6_storm : Nat → zE := fun pc => cond (Nat.ble 127 pc) (cond (Nat.ble 190 pc) (cond (Nat.ble 222 pc) (cond (Nat.ble 238 pc) (cond (Nat.ble 246 pc) (cond (Nat.ble 250 pc) (cond (Nat.ble 252 pc) (cond (Nat.ble 253 pc) ((99, 0, 0, 0, 0)) ((34, 253, 0, 0, 0))) (cond (Nat.ble 251 pc) ((99, 0, 0, 0, 0)) ((1, 252, 11, 0, 0)))) (cond (Nat.ble 248 pc) ((99, 0, 0, 0, 0)) (cond (Nat.ble 247 pc) ((19, 250, 0, 252, 0)) ((99, 0, 0, 0, 0))))) (cond (Nat.ble 242 pc) (cond (Nat.ble 244 pc) (cond (Nat.ble 245 pc) ((1, 247, 10, 0, 0)) ((99, 0, 0, 0, 0))) (cond (Nat.ble 243 pc) ((99, 0, 0, 0, 0)) ((16, 245, 3, 250, 0)))) (cond (Nat.ble 240 pc) (cond (Nat.ble 241 pc) ((99, 0, 0, 0, 0)) ((1, 242, 5, 0, 0))) ((99, 0, 0, 0, 0))))) (cond (Nat.ble 230 pc) (cond (Nat.ble 234 pc) (cond (Nat.ble 236 pc) (cond (Nat.ble 237 pc) ((19, 240, 0, 127, 0)) ((99, 0, 0, 0, 0))) (cond (Nat.ble 235 pc) ((99, 0, 0, 0, 0)) ((7, 237, 12, 0, 1)))) (cond (Nat.ble 232 pc) ((99, 0, 0, 0, 0)) (cond (Nat.ble 231 pc) ((7, 234, 10, 0, 1)) ((99, 0, 0, 0, 0))))) (cond (Nat.ble 226 pc) (cond (Nat.ble 228 pc) (cond (Nat.ble 229 pc) ((4, 231, 11, 0, 0)) ((99, 0, 0, 0, 0))) (cond (Nat.ble 227 pc) ((1, 229, 11, 0, 0)) ((99, 0, 0, 0, 0)))) (cond (Nat.ble 224 pc) (cond (Nat.ble 225 pc) ((99, 0, 0, 0, 0)) ((19, 227, 0, 229, 0))) (cond (Nat.ble 223 pc) ((23, 224, 0, 0, 0)) ((23, 223, 0, 0, 0))))))) (cond (Nat.ble 206 pc) (cond (Nat.ble 214 pc) (cond (Nat.ble 218 pc) (cond (Nat.ble 220 pc) (cond (Nat.ble 221 pc) ((8, 222, 0, 0, 0)) ((99, 0, 0, 0, 0))) (cond (Nat.ble 219 pc) ((1, 221, 5, 0, 0)) ((99, 0, 0, 0, 0)))) (cond (Nat.ble 216 pc) (cond (Nat.ble 217 pc) ((1, 219, 7, 0, 0)) ((99, 0, 0, 0, 0))) (cond (Nat.ble 215 pc) ((99, 0, 0, 0, 0)) ((20, 217, 6, 7, 0))))) (cond (Nat.ble 210 pc) (cond (Nat.ble 212 pc) (cond (Nat.ble 213 pc) ((2, 214, 0, 0, 0)) ((99, 0, 0, 0, 0))) (cond (Nat.ble 211 pc) ((99, 0, 0, 0, 0)) ((20, 213, 6, 8, 0)))) (cond (Nat.ble 208 pc) (cond (Nat.ble 209 pc) ((2, 210, 0, 0, 0)) ((99, 0, 0, 0, 0))) (cond (Nat.ble 207 pc) ((99, 0, 0, 0, 0)) ((16, 209, 2, 227, 0)))))) (cond (Nat.ble 198 pc) (cond (Nat.ble 202 pc) (cond (Nat.ble 204 pc) (cond (Nat.ble 205 pc) ((99, 0, 0, 0, 0)) ((1, 206, 5, 0, 0))) ((99, 0, 0, 0, 0))) (cond (Nat.ble 200 pc) (cond (Nat.ble 201 pc) ((16, 204, 1, 227, 0)) ((99, 0, 0, 0, 0))) (cond (Nat.ble 199 pc) ((1, 201, 10, 0, 0)) ((99, 0, 0, 0, 0))))) (cond (Nat.ble 194 pc) (cond (Nat.ble 196 pc) (cond (Nat.ble 197 pc) ((99, 0, 0, 0, 0)) ((16, 199, 1, 234, 0))) ((99, 0, 0, 0, 0))) (cond (Nat.ble 192 pc) (cond (Nat.ble 193 pc) ((28, 196, 81, 2, 0)) ((99, 0, 0, 0, 0))) (cond (Nat.ble 191 pc) ((1, 193, 9, 0, 0)) ((2, 191, 0, 0, 0)))))))) (cond (Nat.ble 158 pc) (cond (Nat.ble 174 pc) (cond (Nat.ble 182 pc) (cond (Nat.ble 186 pc) (cond (Nat.ble 188 pc) ((99, 0, 0, 0, 0)) (cond (Nat.ble 187 pc) ((19, 190, 0, 144, 0)) ((99, 0, 0, 0, 0)))) (cond (Nat.ble 184 pc) (cond (Nat.ble 185 pc) ((99, 0, 0, 0, 0)) ((7, 187, 14, 0, (-1)))) (cond (Nat.ble 183 pc) ((99, 0, 0, 0, 0)) ((4, 184, 13, 0, 0))))) (cond (Nat.ble 178 pc) (cond (Nat.ble 180 pc) (cond (Nat.ble 181 pc) ((9, 182, 0, 0, 0)) ((23, 181, 0, 0, 0))) (cond (Nat.ble 179 pc) ((0, 180, 0, 0, 0)) ((99, 0, 0, 0, 0)))) (cond (Nat.ble 176 pc) (cond (Nat.ble 177 pc) ((99, 0, 0, 0, 0)) ((20, 179, 6, 0, 0))) (cond (Nat.ble 175 pc) ((2, 176, 0, 0, 0)) ((99, 0, 0, 0, 0)))))) (cond (Nat.ble 166 pc) (cond (Nat.ble 170 pc) (cond (Nat.ble 172 pc) (cond (Nat.ble 173 pc) ((1, 175, 13, 0, 0)) ((24, 173, 0, 0, 0))) (cond (Nat.ble 171 pc) ((10, 172, 0, 0, 0)) ((23, 171, 0, 0, 0)))) (cond (Nat.ble 168 pc) (cond (Nat.ble 169 pc) ((0, 170, 0, 0, 0)) ((99, 0, 0, 0, 0))) (cond (Nat.ble 167 pc) ((99, 0, 0, 0, 0)) ((20, 169, 6, 0, 0))))) (cond (Nat.ble 162 pc) (cond (Nat.ble 164 pc) (cond (Nat.ble 165 pc) ((2, 166, 0, 0, 0)) ((99, 0, 0, 0, 0))) (cond (Nat.ble 163 pc) ((1, 165, 13, 0, 0)) ((23, 163, 0, 0, 0)))) (cond (Nat.ble 160 pc) (cond (Nat.ble 161 pc) ((8, 162, 0, 0, 0)) ((99, 0, 0, 0, 0))) (cond (Nat.ble 159 pc) ((1, 161, 14, 0, 0)) ((99, 0, 0, 0, 0))))))) (cond (Nat.ble 142 pc) (cond (Nat.ble 150 pc) (cond (Nat.ble 154 pc) (cond (Nat.ble 156 pc) (cond (Nat.ble 157 pc) ((1, 159, 7, 0, 0)) ((99, 0, 0, 0, 0))) (cond (Nat.ble 155 pc) ((99, 0, 0, 0, 0)) ((20, 157, 6, 7, 0)))) (cond (Nat.ble 152 pc) (cond (Nat.ble 153 pc) ((2, 154, 0, 0, 0)) ((99, 0, 0, 0, 0))) (cond (Nat.ble 151 pc) ((99, 0, 0, 0, 0)) ((20, 153, 6, 8, 0))))) (cond (Nat.ble 146 pc) (cond (Nat.ble 148 pc) (cond (Nat.ble 149 pc) ((2, 150, 0, 0, 0)) ((99, 0, 0, 0, 0))) (cond (Nat.ble 147 pc) ((99, 0, 0, 0, 0)) ((16, 149, 2, 190, 0)))) (cond (Nat.ble 144 pc) (cond (Nat.ble 145 pc) ((99, 0, 0, 0, 0)) ((1, 146, 14, 0, 0))) (cond (Nat.ble 143 pc) ((99, 0, 0, 0, 0)) ((4, 144, 14, 0, 0)))))) (cond (Nat.ble 134 pc) (cond (Nat.ble 138 pc) (cond (Nat.ble 140 pc) (cond (Nat.ble 141 pc) ((8, 142, 1, 0, 0)) ((0, 141, 0, 0, 1))) (cond (Nat.ble 139 pc) ((99, 0, 0, 0, 0)) ((1, 140, 4, 0, 0)))) (cond (Nat.ble 136 pc) (cond (Nat.ble 137 pc) ((99, 0, 0, 0, 0)) ((4, 138, 13, 0, 0))) (cond (Nat.ble 135 pc) ((99, 0, 0, 0, 0)) ((1, 136, 12, 0, 0))))) (cond (Nat.ble 130 pc) (cond (Nat.ble 132 pc) ((99, 0, 0, 0, 0)) (cond (Nat.ble 131 pc) ((17, 134, 3, 240, 0)) ((99, 0, 0, 0, 0)))) (cond (Nat.ble 128 pc) (cond (Nat.ble 129 pc) ((1, 131, 8, 0, 0)) ((99, 0, 0, 0, 0))) ((1, 129, 12, 0, 0)))))))) (cond (Nat.ble 63 pc) (cond (Nat.ble 95 pc) (cond (Nat.ble 111 pc) (cond (Nat.ble 119 pc) (cond (Nat.ble 123 pc) (cond (Nat.ble 125 pc) (cond (Nat.ble 126 pc) ((99, 0, 0, 0, 0)) ((4, 127, 12, 0, 0))) (cond (Nat.ble 124 pc) ((0, 125, 0, 0, 0)) ((99, 0, 0, 0, 0)))) (cond (Nat.ble 121 pc) (cond (Nat.ble 122 pc) ((4, 124, 11, 0, 0)) ((99, 0, 0, 0, 0))) (cond (Nat.ble 120 pc) ((0, 122, 0, 0, (-4))) ((99, 0, 0, 0, 0))))) (cond (Nat.ble 115 pc) (cond (Nat.ble 117 pc) (cond (Nat.ble 118 pc) ((4, 120, 10, 0, 0)) ((0, 118, 0, 0, 0))) (cond (Nat.ble 116 pc) ((99, 0, 0, 0, 0)) ((4, 117, 9, 0, 0)))) (cond (Nat.ble 113 pc) ((99, 0, 0, 0, 0)) (cond (Nat.ble 112 pc) ((28, 115, 82, 1, 0)) ((2, 112, 0, 0, 0)))))) (cond (Nat.ble 103 pc) (cond (Nat.ble 107 pc) (cond (Nat.ble 109 pc) ((99, 0, 0, 0, 0)) (cond (Nat.ble 108 pc) ((19, 111, 0, 87, 0)) ((99, 0, 0, 0, 0)))) (cond (Nat.ble 105 pc) (cond (Nat.ble 106 pc) ((99, 0, 0, 0, 0)) ((7, 108, 9, 0, 1))) (cond (Nat.ble 104 pc) ((99, 0, 0, 0, 0)) ((4, 105, 8, 0, 0))))) (cond (Nat.ble 99 pc) (cond (Nat.ble 101 pc) (cond (Nat.ble 102 pc) ((8, 103, 2, 0, 0)) ((23, 102, 0, 0, 0))) (cond (Nat.ble 100 pc) ((0, 101, 0, 0, 0)) ((99, 0, 0, 0, 0)))) (cond (Nat.ble 97 pc) (cond (Nat.ble 98 pc) ((99, 0, 0, 0, 0)) ((20, 100, 6, 0, 0))) (cond (Nat.ble 96 pc) ((2, 97, 0, 0, 0)) ((99, 0, 0, 0, 0))))))) (cond (Nat.ble 79 pc) (cond (Nat.ble 87 pc) (cond (Nat.ble 91 pc) (cond (Nat.ble 93 pc) (cond (Nat.ble 94 pc) ((1, 96, 8, 0, 0)) ((99, 0, 0, 0, 0))) (cond (Nat.ble 92 pc) ((99, 0, 0, 0, 0)) ((17, 94, 3, 111, 0)))) (cond (Nat.ble 89 pc) (cond (Nat.ble 90 pc) ((99, 0, 0, 0, 0)) ((1, 91, 4, 0, 0))) (cond (Nat.ble 88 pc) ((99, 0, 0, 0, 0)) ((1, 89, 9, 0, 0))))) (cond (Nat.ble 83 pc) (cond (Nat.ble 85 pc) (cond (Nat.ble 86 pc) ((99, 0, 0, 0, 0)) ((4, 87, 9, 0, 0))) (cond (Nat.ble 84 pc) ((0, 85, 0, 0, 0)) ((99, 0, 0, 0, 0)))) (cond (Nat.ble 81 pc) (cond (Nat.ble 82 pc) ((4, 84, 8, 0, 0)) ((0, 82, 0, 0, 1))) (cond (Nat.ble 80 pc) ((34, 81, 0, 0, 0)) ((99, 0, 0, 0, 0)))))) (cond (Nat.ble 71 pc) (cond (Nat.ble 75 pc) (cond (Nat.ble 77 pc) (cond (Nat.ble 78 pc) ((0, 80, 0, 0, (-2))) ((99, 0, 0, 0, 0))) (cond (Nat.ble 76 pc) ((99, 0, 0, 0, 0)) ((16, 78, 1, 81, 0)))) (cond (Nat.ble 73 pc) ((99, 0, 0, 0, 0)) (cond (Nat.ble 72 pc) ((28, 75, 121, 3, 0)) ((99, 0, 0, 0, 0))))) (cond (Nat.ble 67 pc) (cond (Nat.ble 69 pc) (cond (Nat.ble 70 pc) ((1, 72, 4, 0, 0)) ((99, 0, 0, 0, 0))) (cond (Nat.ble 68 pc) ((1, 70, 7, 0, 0)) ((2, 68, 0, 0, 0)))) (cond (Nat.ble 65 pc) (cond (Nat.ble 66 pc) ((99, 0, 0, 0, 0)) ((4, 67, 7, 0, 0))) (cond (Nat.ble 64 pc) ((8, 65, 0, 0, 0)) ((1, 64, 3, 0, 0)))))))) (cond (Nat.ble 31 pc) (cond (Nat.ble 47 pc) (cond (Nat.ble 55 pc) (cond (Nat.ble 59 pc) (cond (Nat.ble 61 pc) (cond (Nat.ble 62 pc) ((8, 63, 2, 0, 0)) ((1, 62, 1, 0, 0))) (cond (Nat.ble 60 pc) ((99, 0, 0, 0, 0)) ((0, 61, 0, 0, 48)))) (cond (Nat.ble 57 pc) (cond (Nat.ble 58 pc) ((34, 59, 0, 0, 0)) ((99, 0, 0, 0, 0))) (cond (Nat.ble 56 pc) ((1, 58, 6, 0, 0)) ((99, 0, 0, 0, 0))))) (cond (Nat.ble 51 pc) (cond (Nat.ble 53 pc) (cond (Nat.ble 54 pc) ((99, 0, 0, 0, 0)) ((16, 56, 3, 59, 0))) (cond (Nat.ble 52 pc) ((99, 0, 0, 0, 0)) ((1, 53, 6, 0, 0)))) (cond (Nat.ble 49 pc) (cond (Nat.ble 50 pc) ((99, 0, 0, 0, 0)) ((4, 51, 6, 0, 0))) ((99, 0, 0, 0, 0))))) (cond (Nat.ble 39 pc) (cond (Nat.ble 43 pc) (cond (Nat.ble 45 pc) (cond (Nat.ble 46 pc) ((28, 49, 120, 5, 0)) ((99, 0, 0, 0, 0))) (cond (Nat.ble 44 pc) ((1, 46, 4, 0, 0)) ((1, 44, 3, 0, 0)))) (cond (Nat.ble 41 pc) (cond (Nat.ble 42 pc) ((1, 43, 2, 0, 0)) ((1, 42, 1, 0, 0))) (cond (Nat.ble 40 pc) ((2, 41, 0, 0, 0)) ((34, 40, 0, 0, 0))))) (cond (Nat.ble 35 pc) (cond (Nat.ble 37 pc) (cond (Nat.ble 38 pc) ((0, 39, 0, 0, (-1))) ((99, 0, 0, 0, 0))) (cond (Nat.ble 36 pc) ((99, 0, 0, 0, 0)) ((16, 38, 1, 40, 0)))) (cond (Nat.ble 33 pc) ((99, 0, 0, 0, 0)) (cond (Nat.ble 32 pc) ((28, 35, 77, 3, 0)) ((13, 32, 0, 0, 0))))))) (cond (Nat.ble 15 pc) (cond (Nat.ble 23 pc) (cond (Nat.ble 27 pc) (cond (Nat.ble 29 pc) (cond (Nat.ble 30 pc) ((8, 31, 1, 0, 0)) ((0, 30, 0, 0, 1))) (cond (Nat.ble 28 pc) ((99, 0, 0, 0, 0)) ((1, 29, 4, 0, 0)))) (cond (Nat.ble 25 pc) ((99, 0, 0, 0, 0)) (cond (Nat.ble 24 pc) ((15, 27, 129, 0, (-1))) ((13, 24, 0, 0, 0))))) (cond (Nat.ble 19 pc) (cond (Nat.ble 21 pc) (cond (Nat.ble 22 pc) ((99, 0, 0, 0, 0)) ((1, 23, 5, 0, 0))) ((99, 0, 0, 0, 0))) (cond (Nat.ble 17 pc) (cond (Nat.ble 18 pc) ((16, 21, 0, 38, 0)) ((99, 0, 0, 0, 0))) (cond (Nat.ble 16 pc) ((99, 0, 0, 0, 0)) ((28, 18, 77, 3, 0)))))) (cond (Nat.ble 7 pc) (cond (Nat.ble 11 pc) (cond (Nat.ble 13 pc) ((99, 0, 0, 0, 0)) (cond (Nat.ble 12 pc) ((15, 15, 64, 0, 4)) ((15, 12, 0, 0, 1)))) (cond (Nat.ble 9 pc) (cond (Nat.ble 10 pc) ((13, 11, 0, 0, 0)) ((99, 0, 0, 0, 0))) (cond (Nat.ble 8 pc) ((1, 10, 4, 0, 0)) ((99, 0, 0, 0, 0))))) (cond (Nat.ble 3 pc) (cond (Nat.ble 5 pc) (cond (Nat.ble 6 pc) ((99, 0, 0, 0, 0)) ((16, 8, 0, 38, 0))) ((99, 0, 0, 0, 0))) (cond (Nat.ble 1 pc) (cond (Nat.ble 2 pc) ((28, 5, 119, 2, 0)) ((1, 2, 2, 0, 0))) ((1, 1, 1, 0, 0))))))))
def zc_X6_build : Nat → zE := fun pc => cond (Nat.ble 72 pc) (cond (Nat.ble 108 pc) (cond (Nat.ble 126 pc) (cond (Nat.ble 135 pc) (cond (Nat.ble 139 pc) (cond (Nat.ble 141 pc) (cond (Nat.ble 142 pc) (cond (Nat.ble 143 pc) ((99, 0, 0, 0, 0)) ((34, 143, 0, 0, 0))) ((99, 0, 0, 0, 0))) (cond (Nat.ble 140 pc) ((1, 142, 4, 0, 0)) ((24, 140, 0, 0, 0)))) (cond (Nat.ble 137 pc) (cond (Nat.ble 138 pc) ((99, 0, 0, 0, 0)) ((1, 139, 4, 0, 0))) (cond (Nat.ble 136 pc) ((0, 137, 0, 0, 4)) ((99, 0, 0, 0, 0))))) (cond (Nat.ble 130 pc) (cond (Nat.ble 132 pc) (cond (Nat.ble 133 pc) (cond (Nat.ble 134 pc) ((99, 0, 0, 0, 0)) ((20, 136, 6, 0, 0))) ((2, 133, 0, 0, 0))) ((99, 0, 0, 0, 0))) (cond (Nat.ble 128 pc) (cond (Nat.ble 129 pc) ((19, 132, 0, 95, 0)) ((99, 0, 0, 0, 0))) (cond (Nat.ble 127 pc) ((99, 0, 0, 0, 0)) ((7, 129, 6, 0, 1)))))) (cond (Nat.ble 117 pc) (cond (Nat.ble 121 pc) (cond (Nat.ble 123 pc) (cond (Nat.ble 124 pc) (cond (Nat.ble 125 pc) ((24, 126, 0, 0, 0)) ((23, 125, 0, 0, 0))) ((8, 124, 0, 0, 0))) (cond (Nat.ble 122 pc) ((99, 0, 0, 0, 0)) ((1, 123, 6, 0, 0)))) (cond (Nat.ble 119 pc) (cond (Nat.ble 120 pc) ((8, 121, 0, 0, 0)) ((1, 120, 3, 0, 0))) (cond (Nat.ble 118 pc) ((8, 119, 2, 0, 0)) ((1, 118, 1, 0, 0))))) (cond (Nat.ble 112 pc) (cond (Nat.ble 114 pc) (cond (Nat.ble 115 pc) (cond (Nat.ble 116 pc) ((99, 0, 0, 0, 0)) ((0, 117, 0, 0, 48))) ((99, 0, 0, 0, 0))) (cond (Nat.ble 113 pc) ((99, 0, 0, 0, 0)) ((20, 115, 6, 7, 0)))) (cond (Nat.ble 110 pc) (cond (Nat.ble 111 pc) ((2, 112, 0, 0, 0)) ((8, 111, 0, 0, 0))) (cond (Nat.ble 109 pc) ((99, 0, 0, 0, 0)) ((1, 110, 6, 0, 0))))))) (cond (Nat.ble 90 pc) (cond (Nat.ble 99 pc) (cond (Nat.ble 103 pc) (cond (Nat.ble 105 pc) (cond (Nat.ble 106 pc) (cond (Nat.ble 107 pc) ((99, 0, 0, 0, 0)) ((0, 108, 0, 0, 9))) ((99, 0, 0, 0, 0))) (cond (Nat.ble 104 pc) ((99, 0, 0, 0, 0)) ((20, 106, 6, 0, 0)))) (cond (Nat.ble 101 pc) (cond (Nat.ble 102 pc) ((2, 103, 0, 0, 0)) ((99, 0, 0, 0, 0))) (cond (Nat.ble 100 pc) ((99, 0, 0, 0, 0)) ((17, 102, 3, 132, 0))))) (cond (Nat.ble 94 pc) (cond (Nat.ble 96 pc) (cond (Nat.ble 97 pc) (cond (Nat.ble 98 pc) ((99, 0, 0, 0, 0)) ((1, 99, 4, 0, 0))) ((99, 0, 0, 0, 0))) (cond (Nat.ble 95 pc) ((1, 97, 6, 0, 0)) ((99, 0, 0, 0, 0)))) (cond (Nat.ble 92 pc) (cond (Nat.ble 93 pc) ((4, 95, 6, 0, 0)) ((0, 93, 0, 0, 0))) (cond (Nat.ble 91 pc) ((34, 92, 0, 0, 0)) ((99, 0, 0, 0, 0)))))) (cond (Nat.ble 81 pc) (cond (Nat.ble 85 pc) (cond (Nat.ble 87 pc) (cond (Nat.ble 88 pc) (cond (Nat.ble 89 pc) ((1, 91, 5, 0, 0)) ((99, 0, 0, 0, 0))) ((99, 0, 0, 0, 0))) (cond (Nat.ble 86 pc) ((16, 89, 3, 92, 0)) ((99, 0, 0, 0, 0)))) (cond (Nat.ble 83 pc) (cond (Nat.ble 84 pc) ((1, 86, 5, 0, 0)) ((99, 0, 0, 0, 0))) (cond (Nat.ble 82 pc) ((99, 0, 0, 0, 0)) ((19, 84, 0, 37, 0))))) (cond (Nat.ble 76 pc) (cond (Nat.ble 78 pc) (cond (Nat.ble 79 pc) ((99, 0, 0, 0, 0)) ((7, 81, 6, 0, 1))) (cond (Nat.ble 77 pc) ((99, 0, 0, 0, 0)) ((4, 78, 5, 0, 0)))) (cond (Nat.ble 74 pc) (cond (Nat.ble 75 pc) ((99, 0, 0, 0, 0)) ((0, 76, 0, 0, (-2)))) ((99, 0, 0, 0, 0))))))) (cond (Nat.ble 36 pc) (cond (Nat.ble 54 pc) (cond (Nat.ble 63 pc) (cond (Nat.ble 67 pc) (cond (Nat.ble 69 pc) (cond (Nat.ble 70 pc) (cond (Nat.ble 71 pc) ((19, 74, 0, 76, 0)) ((0, 71, 0, 0, 0))) ((99, 0, 0, 0, 0))) (cond (Nat.ble 68 pc) ((99, 0, 0, 0, 0)) ((16, 70, 0, 74, 0)))) (cond (Nat.ble 65 pc) ((99, 0, 0, 0, 0)) (cond (Nat.ble 64 pc) ((28, 67, 86, 2, 0)) ((23, 64, 0, 0, 0))))) (cond (Nat.ble 58 pc) (cond (Nat.ble 60 pc) (cond (Nat.ble 61 pc) (cond (Nat.ble 62 pc) ((8, 63, 0, 0, 0)) ((99, 0, 0, 0, 0))) ((1, 62, 6, 0, 0))) (cond (Nat.ble 59 pc) ((8, 60, 0, 0, 0)) ((1, 59, 3, 0, 0)))) (cond (Nat.ble 56 pc) (cond (Nat.ble 57 pc) ((8, 58, 2, 0, 0)) ((1, 57, 1, 0, 0))) (cond (Nat.ble 55 pc) ((99, 0, 0, 0, 0)) ((0, 56, 0, 0, 48)))))) (cond (Nat.ble 45 pc) (cond (Nat.ble 49 pc) (cond (Nat.ble 51 pc) (cond (Nat.ble 52 pc) ((99, 0, 0, 0, 0)) ((20, 54, 6, 7, 0))) (cond (Nat.ble 50 pc) ((2, 51, 0, 0, 0)) ((2, 50, 0, 0, 0)))) (cond (Nat.ble 47 pc) ((99, 0, 0, 0, 0)) (cond (Nat.ble 46 pc) ((16, 49, 1, 84, 0)) ((99, 0, 0, 0, 0))))) (cond (Nat.ble 40 pc) (cond (Nat.ble 42 pc) (cond (Nat.ble 43 pc) (cond (Nat.ble 44 pc) ((1, 46, 5, 0, 0)) ((99, 0, 0, 0, 0))) ((99, 0, 0, 0, 0))) (cond (Nat.ble 41 pc) ((17, 44, 3, 84, 0)) ((99, 0, 0, 0, 0)))) (cond (Nat.ble 38 pc) (cond (Nat.ble 39 pc) ((1, 41, 4, 0, 0)) ((99, 0, 0, 0, 0))) (cond (Nat.ble 37 pc) ((1, 39, 6, 0, 0)) ((99, 0, 0, 0, 0))))))) (cond (Nat.ble 18 pc) (cond (Nat.ble 27 pc) (cond (Nat.ble 31 pc) (cond (Nat.ble 33 pc) (cond (Nat.ble 34 pc) (cond (Nat.ble 35 pc) ((4, 37, 6, 0, 0)) ((0, 35, 0, 0, 0))) ((99, 0, 0, 0, 0))) (cond (Nat.ble 32 pc) ((4, 34, 5, 0, 0)) ((99, 0, 0, 0, 0)))) (cond (Nat.ble 29 pc) (cond (Nat.ble 30 pc) ((99, 0, 0, 0, 0)) ((28, 32, 120, 5, 0))) (cond (Nat.ble 28 pc) ((99, 0, 0, 0, 0)) ((1, 29, 4, 0, 0))))) (cond (Nat.ble 22 pc) (cond (Nat.ble 24 pc) (cond (Nat.ble 25 pc) (cond (Nat.ble 26 pc) ((1, 27, 3, 0, 0)) ((1, 26, 2, 0, 0))) ((1, 25, 1, 0, 0))) (cond (Nat.ble 23 pc) ((2, 24, 0, 0, 0)) ((34, 23, 0, 0, 0)))) (cond (Nat.ble 20 pc) (cond (Nat.ble 21 pc) ((0, 22, 0, 0, (-1))) ((99, 0, 0, 0, 0))) (cond (Nat.ble 19 pc) ((99, 0, 0, 0, 0)) ((16, 21, 1, 23, 0)))))) (cond (Nat.ble 9 pc) (cond (Nat.ble 13 pc) (cond (Nat.ble 15 pc) (cond (Nat.ble 16 pc) ((99, 0, 0, 0, 0)) ((28, 18, 77, 3, 0))) ((99, 0, 0, 0, 0))) (cond (Nat.ble 11 pc) (cond (Nat.ble 12 pc) ((15, 15, 87, 0, 48)) ((15, 12, 0, 0, 0))) (cond (Nat.ble 10 pc) ((13, 11, 0, 0, 0)) ((99, 0, 0, 0, 0))))) (cond (Nat.ble 4 pc) (cond (Nat.ble 6 pc) (cond (Nat.ble 7 pc) (cond (Nat.ble 8 pc) ((1, 10, 4, 0, 0)) ((99, 0, 0, 0, 0))) ((99, 0, 0, 0, 0))) (cond (Nat.ble 5 pc) ((16, 8, 0, 21, 0)) ((99, 0, 0, 0, 0)))) (cond (Nat.ble 2 pc) (cond (Nat.ble 3 pc) ((99, 0, 0, 0, 0)) ((28, 5, 119, 2, 0))) (cond (Nat.ble 1 pc) ((1, 2, 2, 0, 0)) ((1, 1, 1, 0, 0))))))))
def zc_X6_film : Nat → zE := fun pc => cond (Nat.ble 42 pc) (cond (Nat.ble 63 pc) (cond (Nat.ble 74 pc) (cond (Nat.ble 79 pc) (cond (Nat.ble 82 pc) (cond (Nat.ble 83 pc) (cond (Nat.ble 84 pc) ((99, 0, 0, 0, 0)) ((34, 84, 0, 0, 0))) ((23, 83, 0, 0, 0))) (cond (Nat.ble 80 pc) (cond (Nat.ble 81 pc) ((0, 82, 0, 0, 4)) ((99, 0, 0, 0, 0))) ((99, 0, 0, 0, 0)))) (cond (Nat.ble 76 pc) (cond (Nat.ble 77 pc) (cond (Nat.ble 78 pc) ((20, 81, 6, 0, 0)) ((2, 78, 0, 0, 0))) ((99, 0, 0, 0, 0))) (cond (Nat.ble 75 pc) ((99, 0, 0, 0, 0)) ((19, 77, 0, 36, 0))))) (cond (Nat.ble 68 pc) (cond (Nat.ble 71 pc) (cond (Nat.ble 72 pc) ((99, 0, 0, 0, 0)) ((7, 74, 5, 0, 1))) (cond (Nat.ble 69 pc) (cond (Nat.ble 70 pc) ((24, 71, 0, 0, 0)) ((23, 70, 0, 0, 0))) ((8, 69, 0, 0, 0)))) (cond (Nat.ble 65 pc) (cond (Nat.ble 66 pc) (cond (Nat.ble 67 pc) ((99, 0, 0, 0, 0)) ((1, 68, 5, 0, 0))) ((99, 0, 0, 0, 0))) (cond (Nat.ble 64 pc) ((0, 66, 0, 0, 9)) ((99, 0, 0, 0, 0)))))) (cond (Nat.ble 52 pc) (cond (Nat.ble 57 pc) (cond (Nat.ble 60 pc) (cond (Nat.ble 61 pc) (cond (Nat.ble 62 pc) ((99, 0, 0, 0, 0)) ((20, 64, 6, 0, 0))) ((2, 61, 0, 0, 0))) (cond (Nat.ble 58 pc) (cond (Nat.ble 59 pc) ((8, 60, 0, 0, 0)) ((99, 0, 0, 0, 0))) ((1, 59, 5, 0, 0)))) (cond (Nat.ble 54 pc) (cond (Nat.ble 55 pc) (cond (Nat.ble 56 pc) ((8, 57, 0, 0, 0)) ((1, 56, 3, 0, 0))) ((8, 55, 2, 0, 0))) (cond (Nat.ble 53 pc) ((1, 54, 1, 0, 0)) ((99, 0, 0, 0, 0))))) (cond (Nat.ble 47 pc) (cond (Nat.ble 49 pc) (cond (Nat.ble 50 pc) (cond (Nat.ble 51 pc) ((0, 53, 0, 0, 48)) ((99, 0, 0, 0, 0))) ((99, 0, 0, 0, 0))) (cond (Nat.ble 48 pc) ((20, 51, 6, 7, 0)) ((2, 48, 0, 0, 0)))) (cond (Nat.ble 44 pc) (cond (Nat.ble 45 pc) ((99, 0, 0, 0, 0)) ((17, 47, 3, 77, 0))) (cond (Nat.ble 43 pc) ((23, 44, 0, 0, 0)) ((0, 43, 0, 0, 4))))))) (cond (Nat.ble 21 pc) (cond (Nat.ble 31 pc) (cond (Nat.ble 36 pc) (cond (Nat.ble 39 pc) (cond (Nat.ble 40 pc) ((99, 0, 0, 0, 0)) ((20, 42, 6, 0, 0))) (cond (Nat.ble 37 pc) (cond (Nat.ble 38 pc) ((2, 39, 0, 0, 0)) ((99, 0, 0, 0, 0))) ((1, 38, 5, 0, 0)))) (cond (Nat.ble 33 pc) (cond (Nat.ble 34 pc) (cond (Nat.ble 35 pc) ((99, 0, 0, 0, 0)) ((4, 36, 5, 0, 0))) ((0, 34, 0, 0, 0))) (cond (Nat.ble 32 pc) ((34, 33, 0, 0, 0)) ((99, 0, 0, 0, 0))))) (cond (Nat.ble 26 pc) (cond (Nat.ble 28 pc) (cond (Nat.ble 29 pc) (cond (Nat.ble 30 pc) ((1, 32, 4, 0, 0)) ((99, 0, 0, 0, 0))) ((99, 0, 0, 0, 0))) (cond (Nat.ble 27 pc) ((16, 30, 3, 33, 0)) ((99, 0, 0, 0, 0)))) (cond (Nat.ble 23 pc) (cond (Nat.ble 24 pc) (cond (Nat.ble 25 pc) ((1, 27, 4, 0, 0)) ((99, 0, 0, 0, 0))) ((4, 25, 4, 0, 0))) ((99, 0, 0, 0, 0))))) (cond (Nat.ble 10 pc) (cond (Nat.ble 15 pc) (cond (Nat.ble 18 pc) (cond (Nat.ble 19 pc) (cond (Nat.ble 20 pc) ((28, 23, 120, 5, 0)) ((23, 20, 0, 0, 0))) ((0, 19, 0, 0, 4))) (cond (Nat.ble 16 pc) ((99, 0, 0, 0, 0)) ((20, 18, 6, 0, 0)))) (cond (Nat.ble 12 pc) (cond (Nat.ble 13 pc) (cond (Nat.ble 14 pc) ((2, 15, 0, 0, 0)) ((1, 14, 3, 0, 0))) ((1, 13, 2, 0, 0))) (cond (Nat.ble 11 pc) ((1, 12, 1, 0, 0)) ((2, 11, 0, 0, 0))))) (cond (Nat.ble 5 pc) (cond (Nat.ble 7 pc) (cond (Nat.ble 8 pc) (cond (Nat.ble 9 pc) ((34, 10, 0, 0, 0)) ((0, 9, 0, 0, (-1)))) ((99, 0, 0, 0, 0))) (cond (Nat.ble 6 pc) ((99, 0, 0, 0, 0)) ((16, 8, 1, 10, 0)))) (cond (Nat.ble 2 pc) (cond (Nat.ble 3 pc) ((99, 0, 0, 0, 0)) ((28, 5, 119, 2, 0))) (cond (Nat.ble 1 pc) ((1, 2, 2, 0, 0)) ((1, 1, 1, 0, 0)))))))
def zc_X6_sheet : Nat → zE := fun pc => cond (Nat.ble 34 pc) (cond (Nat.ble 51 pc) (cond (Nat.ble 60 pc) (cond (Nat.ble 64 pc) (cond (Nat.ble 66 pc) (cond (Nat.ble 67 pc) (cond (Nat.ble 68 pc) ((99, 0, 0, 0, 0)) ((34, 68, 0, 0, 0))) ((1, 67, 3, 0, 0))) ((99, 0, 0, 0, 0))) (cond (Nat.ble 62 pc) (cond (Nat.ble 63 pc) ((19, 66, 0, 40, 0)) ((99, 0, 0, 0, 0))) (cond (Nat.ble 61 pc) ((99, 0, 0, 0, 0)) ((7, 63, 4, 0, 1))))) (cond (Nat.ble 55 pc) (cond (Nat.ble 57 pc) (cond (Nat.ble 58 pc) (cond (Nat.ble 59 pc) ((24, 60, 0, 0, 0)) ((0, 59, 0, 0, 0))) ((8, 58, 0, 0, 0))) (cond (Nat.ble 56 pc) ((99, 0, 0, 0, 0)) ((1, 57, 4, 0, 0)))) (cond (Nat.ble 53 pc) (cond (Nat.ble 54 pc) ((8, 55, 2, 0, 0)) ((1, 54, 1, 0, 0))) (cond (Nat.ble 52 pc) ((99, 0, 0, 0, 0)) ((0, 53, 0, 0, 48)))))) (cond (Nat.ble 42 pc) (cond (Nat.ble 46 pc) (cond (Nat.ble 48 pc) (cond (Nat.ble 49 pc) ((99, 0, 0, 0, 0)) ((20, 51, 6, 7, 0))) (cond (Nat.ble 47 pc) ((2, 48, 0, 0, 0)) ((99, 0, 0, 0, 0)))) (cond (Nat.ble 44 pc) (cond (Nat.ble 45 pc) ((99, 0, 0, 0, 0)) ((17, 47, 3, 66, 0))) (cond (Nat.ble 43 pc) ((99, 0, 0, 0, 0)) ((0, 44, 0, 0, 48))))) (cond (Nat.ble 38 pc) (cond (Nat.ble 40 pc) (cond (Nat.ble 41 pc) ((99, 0, 0, 0, 0)) ((1, 42, 4, 0, 0))) (cond (Nat.ble 39 pc) ((99, 0, 0, 0, 0)) ((4, 40, 4, 0, 0)))) (cond (Nat.ble 36 pc) (cond (Nat.ble 37 pc) ((0, 38, 0, 0, 0)) ((24, 37, 0, 0, 0))) (cond (Nat.ble 35 pc) ((1, 36, 2, 0, 0)) ((1, 35, 1, 0, 0))))))) (cond (Nat.ble 17 pc) (cond (Nat.ble 25 pc) (cond (Nat.ble 29 pc) (cond (Nat.ble 31 pc) (cond (Nat.ble 32 pc) ((99, 0, 0, 0, 0)) ((20, 34, 6, 6, 0))) (cond (Nat.ble 30 pc) ((2, 31, 0, 0, 0)) ((24, 30, 0, 0, 0)))) (cond (Nat.ble 27 pc) (cond (Nat.ble 28 pc) ((1, 29, 3, 0, 0)) ((1, 28, 1, 0, 0))) ((99, 0, 0, 0, 0)))) (cond (Nat.ble 21 pc) (cond (Nat.ble 23 pc) (cond (Nat.ble 24 pc) ((20, 27, 6, 5, 0)) ((2, 24, 0, 0, 0))) (cond (Nat.ble 22 pc) ((34, 23, 0, 0, 0)) ((99, 0, 0, 0, 0)))) (cond (Nat.ble 19 pc) (cond (Nat.ble 20 pc) ((0, 22, 0, 0, (-14))) ((99, 0, 0, 0, 0))) (cond (Nat.ble 18 pc) ((99, 0, 0, 0, 0)) ((16, 20, 3, 23, 0)))))) (cond (Nat.ble 8 pc) (cond (Nat.ble 12 pc) (cond (Nat.ble 14 pc) (cond (Nat.ble 15 pc) (cond (Nat.ble 16 pc) ((1, 17, 3, 0, 0)) ((34, 16, 0, 0, 0))) ((0, 15, 0, 0, (-1)))) ((99, 0, 0, 0, 0))) (cond (Nat.ble 10 pc) (cond (Nat.ble 11 pc) ((17, 14, 5, 16, 0)) ((99, 0, 0, 0, 0))) (cond (Nat.ble 9 pc) ((0, 11, 0, 0, 48)) ((1, 9, 3, 0, 0))))) (cond (Nat.ble 4 pc) (cond (Nat.ble 6 pc) ((99, 0, 0, 0, 0)) (cond (Nat.ble 5 pc) ((16, 8, 0, 14, 0)) ((99, 0, 0, 0, 0)))) (cond (Nat.ble 2 pc) (cond (Nat.ble 3 pc) ((99, 0, 0, 0, 0)) ((28, 5, 119, 2, 0))) (cond (Nat.ble 1 pc) ((1, 2, 2, 0, 0)) ((1, 1, 1, 0, 0)))))))
def zc_X6_drop : Nat → zE := fun pc => cond (Nat.ble 21 pc) (cond (Nat.ble 32 pc) (cond (Nat.ble 37 pc) (cond (Nat.ble 40 pc) (cond (Nat.ble 41 pc) (cond (Nat.ble 42 pc) ((99, 0, 0, 0, 0)) ((34, 42, 0, 0, 0))) ((1, 41, 2, 0, 0))) (cond (Nat.ble 38 pc) (cond (Nat.ble 39 pc) ((24, 40, 0, 0, 0)) ((0, 39, 0, 0, (-1)))) ((1, 38, 1, 0, 0)))) (cond (Nat.ble 34 pc) (cond (Nat.ble 35 pc) ((99, 0, 0, 0, 0)) ((20, 37, 6, 5, 0))) (cond (Nat.ble 33 pc) ((2, 34, 0, 0, 0)) ((4, 33, 2, 0, 0))))) (cond (Nat.ble 26 pc) (cond (Nat.ble 29 pc) (cond (Nat.ble 30 pc) (cond (Nat.ble 31 pc) ((23, 32, 0, 0, 0)) ((1, 31, 1, 0, 0))) ((99, 0, 0, 0, 0))) (cond (Nat.ble 27 pc) (cond (Nat.ble 28 pc) ((99, 0, 0, 0, 0)) ((20, 30, 6, 5, 0))) ((2, 27, 0, 0, 0)))) (cond (Nat.ble 23 pc) (cond (Nat.ble 24 pc) (cond (Nat.ble 25 pc) ((34, 26, 0, 0, 0)) ((99, 0, 0, 0, 0))) ((0, 25, 0, 0, (-11)))) ((99, 0, 0, 0, 0))))) (cond (Nat.ble 10 pc) (cond (Nat.ble 15 pc) (cond (Nat.ble 18 pc) (cond (Nat.ble 19 pc) (cond (Nat.ble 20 pc) ((16, 23, 3, 26, 0)) ((23, 20, 0, 0, 0))) ((1, 19, 1, 0, 0))) (cond (Nat.ble 16 pc) ((99, 0, 0, 0, 0)) ((20, 18, 6, 5, 0)))) (cond (Nat.ble 12 pc) (cond (Nat.ble 13 pc) (cond (Nat.ble 14 pc) ((2, 15, 0, 0, 0)) ((34, 14, 0, 0, 0))) ((0, 13, 0, 0, (-1)))) ((99, 0, 0, 0, 0)))) (cond (Nat.ble 5 pc) (cond (Nat.ble 7 pc) (cond (Nat.ble 8 pc) (cond (Nat.ble 9 pc) ((16, 12, 1, 14, 0)) ((99, 0, 0, 0, 0))) ((99, 0, 0, 0, 0))) (cond (Nat.ble 6 pc) ((28, 9, 77, 3, 0)) ((99, 0, 0, 0, 0)))) (cond (Nat.ble 2 pc) (cond (Nat.ble 3 pc) (cond (Nat.ble 4 pc) ((99, 0, 0, 0, 0)) ((15, 6, 70, 0, 3))) ((15, 3, 0, 0, 0))) (cond (Nat.ble 1 pc) ((13, 2, 0, 0, 0)) ((1, 1, 1, 0, 0))))))
def zc_X6_item : Nat → zE := fun pc => cond (Nat.ble 32 pc) (cond (Nat.ble 48 pc) (cond (Nat.ble 56 pc) (cond (Nat.ble 60 pc) (cond (Nat.ble 62 pc) (cond (Nat.ble 63 pc) (cond (Nat.ble 64 pc) ((99, 0, 0, 0, 0)) ((34, 64, 0, 0, 0))) ((0, 63, 0, 0, 1))) (cond (Nat.ble 61 pc) ((24, 62, 0, 0, 0)) ((99, 0, 0, 0, 0)))) (cond (Nat.ble 58 pc) (cond (Nat.ble 59 pc) ((1, 61, 4, 0, 0)) ((99, 0, 0, 0, 0))) (cond (Nat.ble 57 pc) ((99, 0, 0, 0, 0)) ((19, 59, 0, 61, 0))))) (cond (Nat.ble 52 pc) (cond (Nat.ble 54 pc) (cond (Nat.ble 55 pc) ((13, 56, 3, 0, 0)) ((99, 0, 0, 0, 0))) (cond (Nat.ble 53 pc) ((1, 55, 4, 0, 0)) ((99, 0, 0, 0, 0)))) (cond (Nat.ble 50 pc) (cond (Nat.ble 51 pc) ((99, 0, 0, 0, 0)) ((17, 53, 1, 59, 0))) (cond (Nat.ble 49 pc) ((0, 50, 0, 0, 1)) ((1, 49, 2, 0, 0)))))) (cond (Nat.ble 40 pc) (cond (Nat.ble 44 pc) (cond (Nat.ble 46 pc) ((99, 0, 0, 0, 0)) (cond (Nat.ble 45 pc) ((19, 48, 0, 61, 0)) ((13, 45, 2, 0, 0)))) (cond (Nat.ble 42 pc) (cond (Nat.ble 43 pc) ((99, 0, 0, 0, 0)) ((1, 44, 4, 0, 0))) ((99, 0, 0, 0, 0)))) (cond (Nat.ble 36 pc) (cond (Nat.ble 38 pc) (cond (Nat.ble 39 pc) ((16, 42, 1, 48, 0)) ((1, 39, 2, 0, 0))) (cond (Nat.ble 37 pc) ((8, 38, 0, 0, 0)) ((1, 37, 3, 0, 0)))) (cond (Nat.ble 34 pc) (cond (Nat.ble 35 pc) ((8, 36, 2, 0, 0)) ((1, 35, 1, 0, 0))) (cond (Nat.ble 33 pc) ((99, 0, 0, 0, 0)) ((0, 34, 0, 0, 48))))))) (cond (Nat.ble 16 pc) (cond (Nat.ble 24 pc) (cond (Nat.ble 28 pc) (cond (Nat.ble 30 pc) ((99, 0, 0, 0, 0)) (cond (Nat.ble 29 pc) ((20, 32, 6, 7, 0)) ((2, 29, 0, 0, 0)))) (cond (Nat.ble 26 pc) (cond (Nat.ble 27 pc) ((34, 28, 0, 0, 0)) ((99, 0, 0, 0, 0))) (cond (Nat.ble 25 pc) ((1, 27, 5, 0, 0)) ((99, 0, 0, 0, 0))))) (cond (Nat.ble 20 pc) (cond (Nat.ble 22 pc) (cond (Nat.ble 23 pc) ((99, 0, 0, 0, 0)) ((16, 25, 3, 28, 0))) (cond (Nat.ble 21 pc) ((99, 0, 0, 0, 0)) ((1, 22, 5, 0, 0)))) (cond (Nat.ble 18 pc) (cond (Nat.ble 19 pc) ((99, 0, 0, 0, 0)) ((4, 20, 5, 0, 0))) ((99, 0, 0, 0, 0))))) (cond (Nat.ble 8 pc) (cond (Nat.ble 12 pc) (cond (Nat.ble 14 pc) (cond (Nat.ble 15 pc) ((28, 18, 120, 5, 0)) ((0, 15, 0, 0, 1))) (cond (Nat.ble 13 pc) ((1, 14, 3, 0, 0)) ((1, 13, 2, 0, 0)))) (cond (Nat.ble 10 pc) (cond (Nat.ble 11 pc) ((1, 12, 1, 0, 0)) ((2, 11, 0, 0, 0))) (cond (Nat.ble 9 pc) ((34, 10, 0, 0, 0)) ((0, 9, 0, 0, (-1)))))) (cond (Nat.ble 4 pc) (cond (Nat.ble 6 pc) ((99, 0, 0, 0, 0)) (cond (Nat.ble 5 pc) ((16, 8, 1, 10, 0)) ((99, 0, 0, 0, 0)))) (cond (Nat.ble 2 pc) (cond (Nat.ble 3 pc) ((99, 0, 0, 0, 0)) ((28, 5, 119, 2, 0))) (cond (Nat.ble 1 pc) ((1, 2, 2, 0, 0)) ((1, 1, 1, 0, 0)))))))
def zc_X6_copy : Nat → zE := fun pc => cond (Nat.ble 88 pc) (cond (Nat.ble 132 pc) (cond (Nat.ble 154 pc) (cond (Nat.ble 165 pc) (cond (Nat.ble 171 pc) (cond (Nat.ble 174 pc) (cond (Nat.ble 175 pc) (cond (Nat.ble 176 pc) ((99, 0, 0, 0, 0)) ((34, 176, 0, 0, 0))) ((99, 0, 0, 0, 0))) (cond (Nat.ble 172 pc) (cond (Nat.ble 173 pc) ((1, 175, 5, 0, 0)) ((99, 0, 0, 0, 0))) ((99, 0, 0, 0, 0)))) (cond (Nat.ble 168 pc) (cond (Nat.ble 169 pc) (cond (Nat.ble 170 pc) ((19, 173, 0, 111, 0)) ((99, 0, 0, 0, 0))) ((99, 0, 0, 0, 0))) (cond (Nat.ble 166 pc) (cond (Nat.ble 167 pc) ((7, 170, 6, 0, 1)) ((24, 167, 0, 0, 0))) ((23, 166, 0, 0, 0))))) (cond (Nat.ble 159 pc) (cond (Nat.ble 162 pc) (cond (Nat.ble 163 pc) (cond (Nat.ble 164 pc) ((8, 165, 0, 0, 0)) ((99, 0, 0, 0, 0))) ((1, 164, 7, 0, 0))) (cond (Nat.ble 160 pc) (cond (Nat.ble 161 pc) ((8, 162, 0, 0, 0)) ((1, 161, 2, 0, 0))) ((8, 160, 2, 0, 0)))) (cond (Nat.ble 156 pc) (cond (Nat.ble 157 pc) (cond (Nat.ble 158 pc) ((1, 159, 1, 0, 0)) ((99, 0, 0, 0, 0))) ((0, 158, 0, 0, 48))) ((99, 0, 0, 0, 0))))) (cond (Nat.ble 143 pc) (cond (Nat.ble 148 pc) (cond (Nat.ble 151 pc) (cond (Nat.ble 152 pc) (cond (Nat.ble 153 pc) ((20, 156, 6, 7, 0)) ((2, 153, 0, 0, 0))) ((8, 152, 0, 0, 0))) (cond (Nat.ble 149 pc) (cond (Nat.ble 150 pc) ((99, 0, 0, 0, 0)) ((1, 151, 7, 0, 0))) ((8, 149, 0, 0, 0)))) (cond (Nat.ble 145 pc) (cond (Nat.ble 146 pc) (cond (Nat.ble 147 pc) ((99, 0, 0, 0, 0)) ((1, 148, 4, 0, 0))) ((8, 146, 2, 0, 0))) (cond (Nat.ble 144 pc) ((1, 145, 3, 0, 0)) ((99, 0, 0, 0, 0))))) (cond (Nat.ble 137 pc) (cond (Nat.ble 140 pc) (cond (Nat.ble 141 pc) (cond (Nat.ble 142 pc) ((0, 144, 0, 0, 48)) ((99, 0, 0, 0, 0))) ((99, 0, 0, 0, 0))) (cond (Nat.ble 138 pc) (cond (Nat.ble 139 pc) ((20, 142, 6, 7, 0)) ((2, 139, 0, 0, 0))) ((99, 0, 0, 0, 0)))) (cond (Nat.ble 134 pc) (cond (Nat.ble 135 pc) (cond (Nat.ble 136 pc) ((4, 138, 7, 0, 0)) ((99, 0, 0, 0, 0))) ((1, 136, 6, 0, 0))) ((99, 0, 0, 0, 0)))))) (cond (Nat.ble 110 pc) (cond (Nat.ble 121 pc) (cond (Nat.ble 126 pc) (cond (Nat.ble 129 pc) (cond (Nat.ble 130 pc) (cond (Nat.ble 131 pc) ((19, 134, 0, 136, 0)) ((8, 131, 1, 0, 0))) ((99, 0, 0, 0, 0))) (cond (Nat.ble 127 pc) (cond (Nat.ble 128 pc) ((1, 130, 6, 0, 0)) ((8, 128, 1, 0, 0))) ((0, 127, 0, 0, 1)))) (cond (Nat.ble 123 pc) (cond (Nat.ble 124 pc) (cond (Nat.ble 125 pc) ((99, 0, 0, 0, 0)) ((1, 126, 5, 0, 0))) ((99, 0, 0, 0, 0))) (cond (Nat.ble 122 pc) ((99, 0, 0, 0, 0)) ((17, 124, 5, 134, 0))))) (cond (Nat.ble 115 pc) (cond (Nat.ble 118 pc) (cond (Nat.ble 119 pc) (cond (Nat.ble 120 pc) ((1, 121, 2, 0, 0)) ((99, 0, 0, 0, 0))) ((1, 120, 4, 0, 0))) (cond (Nat.ble 116 pc) ((99, 0, 0, 0, 0)) ((17, 118, 3, 173, 0)))) (cond (Nat.ble 112 pc) (cond (Nat.ble 113 pc) (cond (Nat.ble 114 pc) ((99, 0, 0, 0, 0)) ((1, 115, 5, 0, 0))) ((99, 0, 0, 0, 0))) (cond (Nat.ble 111 pc) ((1, 113, 6, 0, 0)) ((99, 0, 0, 0, 0)))))) (cond (Nat.ble 99 pc) (cond (Nat.ble 104 pc) (cond (Nat.ble 107 pc) (cond (Nat.ble 108 pc) (cond (Nat.ble 109 pc) ((4, 111, 6, 0, 0)) ((0, 109, 0, 0, 0))) ((34, 108, 0, 0, 0))) (cond (Nat.ble 105 pc) (cond (Nat.ble 106 pc) ((99, 0, 0, 0, 0)) ((0, 107, 0, 0, (-13)))) ((99, 0, 0, 0, 0)))) (cond (Nat.ble 101 pc) (cond (Nat.ble 102 pc) (cond (Nat.ble 103 pc) ((99, 0, 0, 0, 0)) ((16, 105, 3, 108, 0))) ((99, 0, 0, 0, 0))) (cond (Nat.ble 100 pc) ((99, 0, 0, 0, 0)) ((28, 102, 120, 5, 0))))) (cond (Nat.ble 93 pc) (cond (Nat.ble 96 pc) (cond (Nat.ble 97 pc) (cond (Nat.ble 98 pc) ((99, 0, 0, 0, 0)) ((1, 99, 5, 0, 0))) ((99, 0, 0, 0, 0))) (cond (Nat.ble 94 pc) (cond (Nat.ble 95 pc) ((1, 97, 4, 0, 0)) ((23, 95, 0, 0, 0))) ((1, 94, 3, 0, 0)))) (cond (Nat.ble 90 pc) (cond (Nat.ble 91 pc) ((99, 0, 0, 0, 0)) ((20, 93, 6, 6, 0))) (cond (Nat.ble 89 pc) ((2, 90, 0, 0, 0)) ((1, 89, 3, 0, 0)))))))) (cond (Nat.ble 44 pc) (cond (Nat.ble 66 pc) (cond (Nat.ble 77 pc) (cond (Nat.ble 82 pc) (cond (Nat.ble 85 pc) (cond (Nat.ble 86 pc) (cond (Nat.ble 87 pc) ((2, 88, 0, 0, 0)) ((99, 0, 0, 0, 0))) ((99, 0, 0, 0, 0))) (cond (Nat.ble 83 pc) (cond (Nat.ble 84 pc) ((16, 87, 2, 105, 0)) ((99, 0, 0, 0, 0))) ((99, 0, 0, 0, 0)))) (cond (Nat.ble 79 pc) (cond (Nat.ble 80 pc) (cond (Nat.ble 81 pc) ((28, 84, 120, 5, 0)) ((99, 0, 0, 0, 0))) ((1, 81, 5, 0, 0))) (cond (Nat.ble 78 pc) ((1, 79, 2, 0, 0)) ((23, 78, 0, 0, 0))))) (cond (Nat.ble 71 pc) (cond (Nat.ble 74 pc) (cond (Nat.ble 75 pc) (cond (Nat.ble 76 pc) ((1, 77, 1, 0, 0)) ((99, 0, 0, 0, 0))) ((99, 0, 0, 0, 0))) (cond (Nat.ble 72 pc) (cond (Nat.ble 73 pc) ((20, 76, 6, 6, 0)) ((2, 73, 0, 0, 0))) ((1, 72, 1, 0, 0)))) (cond (Nat.ble 68 pc) (cond (Nat.ble 69 pc) (cond (Nat.ble 70 pc) ((2, 71, 0, 0, 0)) ((99, 0, 0, 0, 0))) ((99, 0, 0, 0, 0))) (cond (Nat.ble 67 pc) ((16, 70, 2, 105, 0)) ((99, 0, 0, 0, 0)))))) (cond (Nat.ble 55 pc) (cond (Nat.ble 60 pc) (cond (Nat.ble 63 pc) (cond (Nat.ble 64 pc) (cond (Nat.ble 65 pc) ((1, 67, 5, 0, 0)) ((34, 65, 0, 0, 0))) ((99, 0, 0, 0, 0))) (cond (Nat.ble 61 pc) (cond (Nat.ble 62 pc) ((0, 64, 0, 0, (-12))) ((99, 0, 0, 0, 0))) ((99, 0, 0, 0, 0)))) (cond (Nat.ble 57 pc) (cond (Nat.ble 58 pc) (cond (Nat.ble 59 pc) ((17, 62, 0, 65, 0)) ((23, 59, 0, 0, 0))) ((1, 58, 3, 0, 0))) ((99, 0, 0, 0, 0)))) (cond (Nat.ble 49 pc) (cond (Nat.ble 52 pc) (cond (Nat.ble 53 pc) (cond (Nat.ble 54 pc) ((20, 57, 6, 6, 0)) ((2, 54, 0, 0, 0))) ((23, 53, 0, 0, 0))) (cond (Nat.ble 50 pc) (cond (Nat.ble 51 pc) ((1, 52, 1, 0, 0)) ((99, 0, 0, 0, 0))) ((99, 0, 0, 0, 0)))) (cond (Nat.ble 46 pc) (cond (Nat.ble 47 pc) (cond (Nat.ble 48 pc) ((20, 51, 6, 6, 0)) ((2, 48, 0, 0, 0))) ((34, 47, 0, 0, 0))) (cond (Nat.ble 45 pc) ((99, 0, 0, 0, 0)) ((0, 46, 0, 0, (-11)))))))) (cond (Nat.ble 22 pc) (cond (Nat.ble 33 pc) (cond (Nat.ble 38 pc) (cond (Nat.ble 41 pc) (cond (Nat.ble 42 pc) ((99, 0, 0, 0, 0)) ((16, 44, 3, 47, 0))) (cond (Nat.ble 39 pc) (cond (Nat.ble 40 pc) ((23, 41, 0, 0, 0)) ((1, 40, 3, 0, 0))) ((99, 0, 0, 0, 0)))) (cond (Nat.ble 35 pc) (cond (Nat.ble 36 pc) (cond (Nat.ble 37 pc) ((99, 0, 0, 0, 0)) ((20, 39, 6, 5, 0))) ((2, 36, 0, 0, 0))) ((99, 0, 0, 0, 0)))) (cond (Nat.ble 27 pc) (cond (Nat.ble 30 pc) (cond (Nat.ble 31 pc) (cond (Nat.ble 32 pc) ((16, 35, 2, 44, 0)) ((23, 32, 0, 0, 0))) ((1, 31, 1, 0, 0))) (cond (Nat.ble 28 pc) ((99, 0, 0, 0, 0)) ((20, 30, 6, 5, 0)))) (cond (Nat.ble 24 pc) (cond (Nat.ble 25 pc) (cond (Nat.ble 26 pc) ((2, 27, 0, 0, 0)) ((34, 26, 0, 0, 0))) ((0, 25, 0, 0, (-1)))) ((99, 0, 0, 0, 0))))) (cond (Nat.ble 11 pc) (cond (Nat.ble 16 pc) (cond (Nat.ble 19 pc) (cond (Nat.ble 20 pc) (cond (Nat.ble 21 pc) ((16, 24, 1, 26, 0)) ((99, 0, 0, 0, 0))) ((99, 0, 0, 0, 0))) (cond (Nat.ble 17 pc) (cond (Nat.ble 18 pc) ((28, 21, 77, 3, 0)) ((99, 0, 0, 0, 0))) ((99, 0, 0, 0, 0)))) (cond (Nat.ble 13 pc) (cond (Nat.ble 14 pc) (cond (Nat.ble 15 pc) ((15, 18, 70, 0, 3)) ((15, 15, 0, 0, 0))) ((13, 14, 0, 0, 0))) (cond (Nat.ble 12 pc) ((1, 13, 3, 0, 0)) ((99, 0, 0, 0, 0))))) (cond (Nat.ble 5 pc) (cond (Nat.ble 8 pc) (cond (Nat.ble 9 pc) (cond (Nat.ble 10 pc) ((99, 0, 0, 0, 0)) ((16, 12, 0, 24, 0))) ((99, 0, 0, 0, 0))) (cond (Nat.ble 6 pc) (cond (Nat.ble 7 pc) ((99, 0, 0, 0, 0)) ((28, 9, 77, 3, 0))) ((99, 0, 0, 0, 0)))) (cond (Nat.ble 2 pc) (cond (Nat.ble 3 pc) (cond (Nat.ble 4 pc) ((99, 0, 0, 0, 0)) ((15, 6, 70, 0, 3))) ((15, 3, 0, 0, 0))) (cond (Nat.ble 1 pc) ((13, 2, 0, 0, 0)) ((1, 1, 1, 0, 0))))))))
def zc_J0_length_8abf5 : Nat → zE := fun pc => cond (Nat.ble 6 pc) (cond (Nat.ble 9 pc) (cond (Nat.ble 10 pc) (cond (Nat.ble 11 pc) ((99, 0, 0, 0, 0)) ((34, 11, 0, 0, 0))) ((8, 10, 6, 0, 0))) (cond (Nat.ble 7 pc) ((99, 0, 0, 0, 0)) ((28, 9, 132, 1, 0)))) (cond (Nat.ble 3 pc) (cond (Nat.ble 4 pc) (cond (Nat.ble 5 pc) ((2, 6, 0, 0, 0)) ((27, 5, 0, 0, 0))) ((99, 0, 0, 0, 0))) (cond (Nat.ble 1 pc) (cond (Nat.ble 2 pc) ((99, 0, 0, 0, 0)) ((43, 4, 9, 0, 0))) ((2, 1, 0, 0, 0))))
def zc_J0_indexOf_0f7a4 : Nat → zE := fun pc => cond (Nat.ble 4 pc) (cond (Nat.ble 6 pc) (cond (Nat.ble 7 pc) ((99, 0, 0, 0, 0)) ((34, 7, 0, 0, 0))) ((99, 0, 0, 0, 0))) (cond (Nat.ble 2 pc) (cond (Nat.ble 3 pc) ((28, 6, 131, 3, 0)) ((0, 3, 0, 0, 0))) (cond (Nat.ble 1 pc) ((1, 2, 1, 0, 0)) ((2, 1, 0, 0, 0))))
def zc_J0_indexOf_7cf53 : Nat → zE := fun pc => cond (Nat.ble 19 pc) (cond (Nat.ble 28 pc) (cond (Nat.ble 33 pc) (cond (Nat.ble 35 pc) (cond (Nat.ble 36 pc) (cond (Nat.ble 37 pc) ((99, 0, 0, 0, 0)) ((34, 37, 0, 0, 0))) ((99, 0, 0, 0, 0))) ((99, 0, 0, 0, 0))) (cond (Nat.ble 30 pc) (cond (Nat.ble 31 pc) ((99, 0, 0, 0, 0)) ((28, 33, 129, 1, 0))) (cond (Nat.ble 29 pc) ((2, 30, 0, 0, 0)) ((1, 29, 2, 0, 0))))) (cond (Nat.ble 23 pc) (cond (Nat.ble 25 pc) (cond (Nat.ble 26 pc) (cond (Nat.ble 27 pc) ((1, 28, 1, 0, 0)) ((99, 0, 0, 0, 0))) ((99, 0, 0, 0, 0))) (cond (Nat.ble 24 pc) ((43, 27, 9, 0, 0)) ((2, 24, 0, 0, 0)))) (cond (Nat.ble 21 pc) ((99, 0, 0, 0, 0)) (cond (Nat.ble 20 pc) ((19, 23, 0, 36, 0)) ((99, 0, 0, 0, 0)))))) (cond (Nat.ble 9 pc) (cond (Nat.ble 14 pc) (cond (Nat.ble 16 pc) (cond (Nat.ble 17 pc) (cond (Nat.ble 18 pc) ((99, 0, 0, 0, 0)) ((28, 20, 135, 4, 0))) ((99, 0, 0, 0, 0))) (cond (Nat.ble 15 pc) ((99, 0, 0, 0, 0)) ((28, 17, 129, 1, 0)))) (cond (Nat.ble 11 pc) (cond (Nat.ble 12 pc) (cond (Nat.ble 13 pc) ((2, 14, 0, 0, 0)) ((1, 13, 2, 0, 0))) ((1, 12, 1, 0, 0))) ((99, 0, 0, 0, 0)))) (cond (Nat.ble 4 pc) (cond (Nat.ble 6 pc) (cond (Nat.ble 7 pc) (cond (Nat.ble 8 pc) ((43, 11, 9, 0, 0)) ((2, 8, 0, 0, 0))) ((99, 0, 0, 0, 0))) (cond (Nat.ble 5 pc) ((99, 0, 0, 0, 0)) ((16, 7, 0, 23, 0)))) (cond (Nat.ble 2 pc) ((99, 0, 0, 0, 0)) (cond (Nat.ble 1 pc) ((28, 4, 133, 1, 0)) ((2, 1, 0, 0, 0))))))
def zc_J0_coder_7d493 : Nat → zE := fun pc => cond (Nat.ble 8 pc) (cond (Nat.ble 12 pc) (cond (Nat.ble 14 pc) (cond (Nat.ble 15 pc) ((99, 0, 0, 0, 0)) ((36, 15, 0, 0, 0))) (cond (Nat.ble 13 pc) ((0, 14, 0, 0, 1)) ((99, 0, 0, 0, 0)))) (cond (Nat.ble 10 pc) (cond (Nat.ble 11 pc) ((99, 0, 0, 0, 0)) ((19, 13, 0, 14, 0))) ((99, 0, 0, 0, 0)))) (cond (Nat.ble 4 pc) (cond (Nat.ble 6 pc) (cond (Nat.ble 7 pc) ((43, 10, 15, 0, 0)) ((2, 7, 0, 0, 0))) ((99, 0, 0, 0, 0))) (cond (Nat.ble 2 pc) (cond (Nat.ble 3 pc) ((16, 6, 0, 13, 0)) ((99, 0, 0, 0, 0))) (cond (Nat.ble 1 pc) ((99, 0, 0, 0, 0)) ((46, 3, 0, 0, 0)))))
def zc_J0_isLatin1_aae02 : Nat → zE := fun pc => cond (Nat.ble 10 pc) (cond (Nat.ble 15 pc) (cond (Nat.ble 17 pc) (cond (Nat.ble 18 pc) (cond (Nat.ble 19 pc) ((99, 0, 0, 0, 0)) ((35, 19, 0, 0, 0))) ((0, 18, 0, 0, 0))) ((99, 0, 0, 0, 0))) (cond (Nat.ble 12 pc) (cond (Nat.ble 13 pc) (cond (Nat.ble 14 pc) ((19, 17, 0, 18, 0)) ((0, 14, 0, 0, 1))) ((99, 0, 0, 0, 0))) (cond (Nat.ble 11 pc) ((99, 0, 0, 0, 0)) ((16, 13, 1, 17, 0))))) (cond (Nat.ble 5 pc) (cond (Nat.ble 7 pc) (cond (Nat.ble 8 pc) ((99, 0, 0, 0, 0)) ((43, 10, 15, 0, 0))) (cond (Nat.ble 6 pc) ((2, 7, 0, 0, 0)) ((99, 0, 0, 0, 0)))) (cond (Nat.ble 2 pc) (cond (Nat.ble 3 pc) (cond (Nat.ble 4 pc) ((99, 0, 0, 0, 0)) ((16, 6, 0, 17, 0))) ((99, 0, 0, 0, 0))) (cond (Nat.ble 1 pc) ((99, 0, 0, 0, 0)) ((46, 3, 0, 0, 0)))))
def zc_J1_canEncode_9a6ad : Nat → zE := fun pc => cond (Nat.ble 9 pc) (cond (Nat.ble 13 pc) (cond (Nat.ble 15 pc) (cond (Nat.ble 16 pc) (cond (Nat.ble 17 pc) ((99, 0, 0, 0, 0)) ((35, 17, 0, 0, 0))) ((0, 16, 0, 0, 0))) ((99, 0, 0, 0, 0))) (cond (Nat.ble 11 pc) (cond (Nat.ble 12 pc) ((19, 15, 0, 16, 0)) ((0, 12, 0, 0, 1))) ((99, 0, 0, 0, 0)))) (cond (Nat.ble 4 pc) (cond (Nat.ble 6 pc) (cond (Nat.ble 7 pc) (cond (Nat.ble 8 pc) ((17, 11, 4, 15, 0)) ((99, 0, 0, 0, 0))) ((99, 0, 0, 0, 0))) (cond (Nat.ble 5 pc) ((0, 8, 0, 0, 255)) ((1, 5, 0, 0, 0)))) (cond (Nat.ble 2 pc) ((99, 0, 0, 0, 0)) (cond (Nat.ble 1 pc) ((16, 4, 2, 15, 0)) ((1, 1, 0, 0, 0)))))
def zc_J1_indexOf_4cfef : Nat → zE := fun pc => cond (Nat.ble 19 pc) (cond (Nat.ble 28 pc) (cond (Nat.ble 33 pc) (cond (Nat.ble 35 pc) (cond (Nat.ble 36 pc) (cond (Nat.ble 37 pc) ((99, 0, 0, 0, 0)) ((34, 37, 0, 0, 0))) ((99, 0, 0, 0, 0))) (cond (Nat.ble 34 pc) ((99, 0, 0, 0, 0)) ((28, 36, 136, 4, 0)))) (cond (Nat.ble 30 pc) (cond (Nat.ble 31 pc) (cond (Nat.ble 32 pc) ((1, 33, 3, 0, 0)) ((1, 32, 2, 0, 0))) ((1, 31, 1, 0, 0))) (cond (Nat.ble 29 pc) ((2, 30, 0, 0, 0)) ((34, 29, 0, 0, 0))))) (cond (Nat.ble 23 pc) (cond (Nat.ble 25 pc) (cond (Nat.ble 26 pc) (cond (Nat.ble 27 pc) ((0, 28, 0, 0, (-1))) ((99, 0, 0, 0, 0))) ((99, 0, 0, 0, 0))) (cond (Nat.ble 24 pc) ((17, 27, 2, 29, 0)) ((1, 24, 3, 0, 0)))) (cond (Nat.ble 21 pc) (cond (Nat.ble 22 pc) ((1, 23, 2, 0, 0)) ((4, 22, 3, 0, 0))) ((99, 0, 0, 0, 0))))) (cond (Nat.ble 9 pc) (cond (Nat.ble 14 pc) (cond (Nat.ble 16 pc) (cond (Nat.ble 17 pc) (cond (Nat.ble 18 pc) ((49, 21, 0, 0, 0)) ((27, 18, 0, 0, 0))) ((2, 17, 0, 0, 0))) (cond (Nat.ble 15 pc) ((1, 16, 3, 0, 0)) ((4, 15, 2, 0, 0)))) (cond (Nat.ble 11 pc) (cond (Nat.ble 12 pc) ((99, 0, 0, 0, 0)) ((48, 14, 0, 0, 0))) (cond (Nat.ble 10 pc) ((0, 11, 0, 0, 0)) ((1, 10, 2, 0, 0))))) (cond (Nat.ble 4 pc) (cond (Nat.ble 6 pc) (cond (Nat.ble 7 pc) (cond (Nat.ble 8 pc) ((34, 9, 0, 0, 0)) ((0, 8, 0, 0, (-1)))) ((99, 0, 0, 0, 0))) (cond (Nat.ble 5 pc) ((99, 0, 0, 0, 0)) ((16, 7, 1, 9, 0)))) (cond (Nat.ble 2 pc) ((99, 0, 0, 0, 0)) (cond (Nat.ble 1 pc) ((28, 4, 134, 1, 0)) ((1, 1, 1, 0, 0))))))
def zc_J1_indexOfChar_4cfef : Nat → zE := fun pc => cond (Nat.ble 17 pc) (cond (Nat.ble 25 pc) (cond (Nat.ble 29 pc) (cond (Nat.ble 31 pc) (cond (Nat.ble 32 pc) (cond (Nat.ble 33 pc) ((99, 0, 0, 0, 0)) ((34, 33, 0, 0, 0))) ((0, 32, 0, 0, (-1)))) ((99, 0, 0, 0, 0))) (cond (Nat.ble 27 pc) (cond (Nat.ble 28 pc) ((19, 31, 0, 7, 0)) ((99, 0, 0, 0, 0))) (cond (Nat.ble 26 pc) ((99, 0, 0, 0, 0)) ((7, 28, 5, 0, 1))))) (cond (Nat.ble 21 pc) (cond (Nat.ble 23 pc) (cond (Nat.ble 24 pc) ((34, 25, 0, 0, 0)) ((99, 0, 0, 0, 0))) (cond (Nat.ble 22 pc) ((1, 24, 5, 0, 0)) ((99, 0, 0, 0, 0)))) (cond (Nat.ble 19 pc) (cond (Nat.ble 20 pc) ((99, 0, 0, 0, 0)) ((17, 22, 1, 25, 0))) (cond (Nat.ble 18 pc) ((99, 0, 0, 0, 0)) ((1, 19, 4, 0, 0)))))) (cond (Nat.ble 8 pc) (cond (Nat.ble 12 pc) (cond (Nat.ble 14 pc) (cond (Nat.ble 15 pc) (cond (Nat.ble 16 pc) ((41, 17, 0, 0, 0)) ((99, 0, 0, 0, 0))) ((1, 16, 5, 0, 0))) (cond (Nat.ble 13 pc) ((2, 14, 0, 0, 0)) ((99, 0, 0, 0, 0)))) (cond (Nat.ble 10 pc) (cond (Nat.ble 11 pc) ((99, 0, 0, 0, 0)) ((17, 13, 3, 31, 0))) (cond (Nat.ble 9 pc) ((1, 10, 3, 0, 0)) ((99, 0, 0, 0, 0))))) (cond (Nat.ble 4 pc) (cond (Nat.ble 6 pc) (cond (Nat.ble 7 pc) ((1, 9, 5, 0, 0)) ((99, 0, 0, 0, 0))) (cond (Nat.ble 5 pc) ((4, 7, 5, 0, 0)) ((1, 5, 2, 0, 0)))) (cond (Nat.ble 2 pc) (cond (Nat.ble 3 pc) ((99, 0, 0, 0, 0)) ((4, 4, 4, 0, 0))) (cond (Nat.ble 1 pc) ((13, 2, 2, 0, 0)) ((1, 1, 1, 0, 0))))))
def zc_J6_bitCount_0f7a4 : Nat → zE := fun pc => cond (Nat.ble 27 pc) (cond (Nat.ble 40 pc) (cond (Nat.ble 47 pc) (cond (Nat.ble 50 pc) (cond (Nat.ble 52 pc) (cond (Nat.ble 53 pc) ((99, 0, 0, 0, 0)) ((34, 53, 0, 0, 0))) (cond (Nat.ble 51 pc) ((8, 52, 3, 0, 0)) ((99, 0, 0, 0, 0)))) (cond (Nat.ble 48 pc) (cond (Nat.ble 49 pc) ((0, 51, 0, 0, 63)) ((1, 49, 0, 0, 0))) ((4, 48, 0, 0, 0)))) (cond (Nat.ble 43 pc) (cond (Nat.ble 45 pc) (cond (Nat.ble 46 pc) ((8, 47, 0, 0, 0)) ((8, 46, 7, 0, 0))) (cond (Nat.ble 44 pc) ((99, 0, 0, 0, 0)) ((0, 45, 0, 0, 16)))) (cond (Nat.ble 41 pc) (cond (Nat.ble 42 pc) ((1, 43, 0, 0, 0)) ((1, 42, 0, 0, 0))) ((4, 41, 0, 0, 0))))) (cond (Nat.ble 33 pc) (cond (Nat.ble 36 pc) (cond (Nat.ble 38 pc) (cond (Nat.ble 39 pc) ((8, 40, 0, 0, 0)) ((8, 39, 7, 0, 0))) (cond (Nat.ble 37 pc) ((99, 0, 0, 0, 0)) ((0, 38, 0, 0, 8)))) (cond (Nat.ble 34 pc) (cond (Nat.ble 35 pc) ((1, 36, 0, 0, 0)) ((1, 35, 0, 0, 0))) ((4, 34, 0, 0, 0)))) (cond (Nat.ble 30 pc) (cond (Nat.ble 31 pc) (cond (Nat.ble 32 pc) ((8, 33, 3, 0, 0)) ((99, 0, 0, 0, 0))) ((99, 0, 0, 0, 0))) (cond (Nat.ble 28 pc) (cond (Nat.ble 29 pc) ((0, 32, 267, 0, 252645135)) ((8, 29, 0, 0, 0))) ((8, 28, 7, 0, 0)))))) (cond (Nat.ble 13 pc) (cond (Nat.ble 20 pc) (cond (Nat.ble 23 pc) (cond (Nat.ble 25 pc) (cond (Nat.ble 26 pc) ((0, 27, 0, 0, 4)) ((1, 26, 0, 0, 0))) (cond (Nat.ble 24 pc) ((1, 25, 0, 0, 0)) ((4, 24, 0, 0, 0)))) (cond (Nat.ble 21 pc) (cond (Nat.ble 22 pc) ((8, 23, 0, 0, 0)) ((8, 22, 3, 0, 0))) ((99, 0, 0, 0, 0)))) (cond (Nat.ble 16 pc) (cond (Nat.ble 18 pc) (cond (Nat.ble 19 pc) ((99, 0, 0, 0, 0)) ((0, 21, 266, 0, 858993459))) (cond (Nat.ble 17 pc) ((8, 18, 7, 0, 0)) ((0, 17, 0, 0, 2)))) (cond (Nat.ble 14 pc) (cond (Nat.ble 15 pc) ((1, 16, 0, 0, 0)) ((8, 15, 3, 0, 0))) ((99, 0, 0, 0, 0))))) (cond (Nat.ble 6 pc) (cond (Nat.ble 9 pc) (cond (Nat.ble 11 pc) (cond (Nat.ble 12 pc) ((99, 0, 0, 0, 0)) ((0, 14, 266, 0, 858993459))) (cond (Nat.ble 10 pc) ((1, 11, 0, 0, 0)) ((4, 10, 0, 0, 0)))) (cond (Nat.ble 7 pc) (cond (Nat.ble 8 pc) ((8, 9, 1, 0, 0)) ((8, 8, 3, 0, 0))) ((99, 0, 0, 0, 0)))) (cond (Nat.ble 3 pc) (cond (Nat.ble 4 pc) (cond (Nat.ble 5 pc) ((99, 0, 0, 0, 0)) ((0, 7, 265, 0, 1431655765))) ((8, 4, 7, 0, 0))) (cond (Nat.ble 1 pc) (cond (Nat.ble 2 pc) ((0, 3, 0, 0, 1)) ((1, 2, 0, 0, 0))) ((1, 1, 0, 0, 0))))))
def zc_L_law : Nat → zE := fun pc => cond (Nat.ble 607 pc) (cond (Nat.ble 911 pc) (cond (Nat.ble 1063 pc) (cond (Nat.ble 1139 pc) (cond (Nat.ble 1177 pc) (cond (Nat.ble 1196 pc) (cond (Nat.ble 1205 pc) (cond (Nat.ble 1210 pc) (cond (Nat.ble 1212 pc) (cond (Nat.ble 1213 pc) (cond (Nat.ble 1214 pc) ((99, 0, 0, 0, 0)) ((35, 1214, 0, 0, 0))) ((0, 1213, 0, 0, 1))) ((99, 0, 0, 0, 0))) (cond (Nat.ble 1207 pc) (cond (Nat.ble 1208 pc) (cond (Nat.ble 1209 pc) ((19, 1212, 0, 18, 0)) ((99, 0, 0, 0, 0))) ((99, 0, 0, 0, 0))) (cond (Nat.ble 1206 pc) ((7, 1209, 3, 0, 6)) ((35, 1206, 0, 0, 0))))) (cond (Nat.ble 1200 pc) (cond (Nat.ble 1202 pc) (cond (Nat.ble 1203 pc) (cond (Nat.ble 1204 pc) ((0, 1205, 0, 0, 0)) ((99, 0, 0, 0, 0))) ((99, 0, 0, 0, 0))) (cond (Nat.ble 1201 pc) ((17, 1204, 0, 1206, 0)) ((99, 0, 0, 0, 0)))) (cond (Nat.ble 1198 pc) (cond (Nat.ble 1199 pc) ((99, 0, 0, 0, 0)) ((28, 1201, 128, 6, 0))) (cond (Nat.ble 1197 pc) ((44, 1198, 0, 0, 0)) ((8, 1197, 0, 0, 0)))))) (cond (Nat.ble 1186 pc) (cond (Nat.ble 1191 pc) (cond (Nat.ble 1193 pc) (cond (Nat.ble 1194 pc) (cond (Nat.ble 1195 pc) ((0, 1196, 0, 0, 5)) ((1, 1195, 3, 0, 0))) ((2, 1194, 0, 0, 0))) (cond (Nat.ble 1192 pc) ((44, 1193, 0, 0, 0)) ((8, 1192, 0, 0, 0)))) (cond (Nat.ble 1188 pc) (cond (Nat.ble 1189 pc) (cond (Nat.ble 1190 pc) ((0, 1191, 0, 0, 4)) ((1, 1190, 3, 0, 0))) ((2, 1189, 0, 0, 0))) (cond (Nat.ble 1187 pc) ((44, 1188, 0, 0, 0)) ((8, 1187, 0, 0, 0))))) (cond (Nat.ble 1181 pc) (cond (Nat.ble 1183 pc) (cond (Nat.ble 1184 pc) (cond (Nat.ble 1185 pc) ((0, 1186, 0, 0, 3)) ((1, 1185, 3, 0, 0))) ((2, 1184, 0, 0, 0))) (cond (Nat.ble 1182 pc) ((44, 1183, 0, 0, 0)) ((8, 1182, 0, 0, 0)))) (cond (Nat.ble 1179 pc) (cond (Nat.ble 1180 pc) ((0, 1181, 0, 0, 2)) ((1, 1180, 3, 0, 0))) (cond (Nat.ble 1178 pc) ((2, 1179, 0, 0, 0)) ((44, 1178, 0, 0, 0))))))) (cond (Nat.ble 1158 pc) (cond (Nat.ble 1167 pc) (cond (Nat.ble 1172 pc) (cond (Nat.ble 1174 pc) (cond (Nat.ble 1175 pc) (cond (Nat.ble 1176 pc) ((8, 1177, 0, 0, 0)) ((0, 1176, 0, 0, 1))) ((1, 1175, 3, 0, 0))) (cond (Nat.ble 1173 pc) ((2, 1174, 0, 0, 0)) ((2, 1173, 2, 0, 0)))) (cond (Nat.ble 1169 pc) (cond (Nat.ble 1170 pc) ((99, 0, 0, 0, 0)) ((28, 1172, 73, 6, 0))) (cond (Nat.ble 1168 pc) ((44, 1169, 0, 0, 0)) ((8, 1168, 0, 0, 0))))) (cond (Nat.ble 1162 pc) (cond (Nat.ble 1164 pc) (cond (Nat.ble 1165 pc) (cond (Nat.ble 1166 pc) ((0, 1167, 0, 0, 5)) ((1, 1166, 3, 0, 0))) ((2, 1165, 0, 0, 0))) (cond (Nat.ble 1163 pc) ((44, 1164, 0, 0, 0)) ((8, 1163, 0, 0, 0)))) (cond (Nat.ble 1160 pc) (cond (Nat.ble 1161 pc) ((0, 1162, 0, 0, 4)) ((1, 1161, 3, 0, 0))) (cond (Nat.ble 1159 pc) ((2, 1160, 0, 0, 0)) ((44, 1159, 0, 0, 0)))))) (cond (Nat.ble 1148 pc) (cond (Nat.ble 1153 pc) (cond (Nat.ble 1155 pc) (cond (Nat.ble 1156 pc) (cond (Nat.ble 1157 pc) ((8, 1158, 0, 0, 0)) ((0, 1157, 0, 0, 3))) ((1, 1156, 3, 0, 0))) (cond (Nat.ble 1154 pc) ((2, 1155, 0, 0, 0)) ((44, 1154, 0, 0, 0)))) (cond (Nat.ble 1150 pc) (cond (Nat.ble 1151 pc) (cond (Nat.ble 1152 pc) ((8, 1153, 0, 0, 0)) ((0, 1152, 0, 0, 2))) ((1, 1151, 3, 0, 0))) (cond (Nat.ble 1149 pc) ((2, 1150, 0, 0, 0)) ((44, 1149, 0, 0, 0))))) (cond (Nat.ble 1143 pc) (cond (Nat.ble 1145 pc) (cond (Nat.ble 1146 pc) (cond (Nat.ble 1147 pc) ((8, 1148, 0, 0, 0)) ((0, 1147, 0, 0, 1))) ((1, 1146, 3, 0, 0))) (cond (Nat.ble 1144 pc) ((2, 1145, 0, 0, 0)) ((2, 1144, 1, 0, 0)))) (cond (Nat.ble 1141 pc) (cond (Nat.ble 1142 pc) ((35, 1143, 0, 0, 0)) ((0, 1142, 0, 0, 0))) ((99, 0, 0, 0, 0))))))) (cond (Nat.ble 1101 pc) (cond (Nat.ble 1120 pc) (cond (Nat.ble 1129 pc) (cond (Nat.ble 1134 pc) (cond (Nat.ble 1136 pc) (cond (Nat.ble 1137 pc) (cond (Nat.ble 1138 pc) ((17, 1141, 0, 1206, 0)) ((99, 0, 0, 0, 0))) ((99, 0, 0, 0, 0))) (cond (Nat.ble 1135 pc) ((28, 1138, 127, 5, 0)) ((44, 1135, 0, 0, 0)))) (cond (Nat.ble 1131 pc) (cond (Nat.ble 1132 pc) (cond (Nat.ble 1133 pc) ((8, 1134, 0, 0, 0)) ((0, 1133, 0, 0, 4))) ((1, 1132, 3, 0, 0))) (cond (Nat.ble 1130 pc) ((2, 1131, 0, 0, 0)) ((44, 1130, 0, 0, 0))))) (cond (Nat.ble 1124 pc) (cond (Nat.ble 1126 pc) (cond (Nat.ble 1127 pc) (cond (Nat.ble 1128 pc) ((8, 1129, 0, 0, 0)) ((0, 1128, 0, 0, 3))) ((1, 1127, 3, 0, 0))) (cond (Nat.ble 1125 pc) ((2, 1126, 0, 0, 0)) ((44, 1125, 0, 0, 0)))) (cond (Nat.ble 1122 pc) (cond (Nat.ble 1123 pc) ((8, 1124, 0, 0, 0)) ((0, 1123, 0, 0, 2))) (cond (Nat.ble 1121 pc) ((1, 1122, 3, 0, 0)) ((2, 1121, 0, 0, 0)))))) (cond (Nat.ble 1110 pc) (cond (Nat.ble 1115 pc) (cond (Nat.ble 1117 pc) (cond (Nat.ble 1118 pc) (cond (Nat.ble 1119 pc) ((44, 1120, 0, 0, 0)) ((8, 1119, 0, 0, 0))) ((0, 1118, 0, 0, 1))) (cond (Nat.ble 1116 pc) ((1, 1117, 3, 0, 0)) ((2, 1116, 0, 0, 0)))) (cond (Nat.ble 1112 pc) (cond (Nat.ble 1113 pc) (cond (Nat.ble 1114 pc) ((2, 1115, 2, 0, 0)) ((99, 0, 0, 0, 0))) ((99, 0, 0, 0, 0))) (cond (Nat.ble 1111 pc) ((28, 1114, 72, 5, 0)) ((44, 1111, 0, 0, 0))))) (cond (Nat.ble 1105 pc) (cond (Nat.ble 1107 pc) (cond (Nat.ble 1108 pc) (cond (Nat.ble 1109 pc) ((8, 1110, 0, 0, 0)) ((0, 1109, 0, 0, 4))) ((1, 1108, 3, 0, 0))) (cond (Nat.ble 1106 pc) ((2, 1107, 0, 0, 0)) ((44, 1106, 0, 0, 0)))) (cond (Nat.ble 1103 pc) (cond (Nat.ble 1104 pc) ((8, 1105, 0, 0, 0)) ((0, 1104, 0, 0, 3))) (cond (Nat.ble 1102 pc) ((1, 1103, 3, 0, 0)) ((2, 1102, 0, 0, 0))))))) (cond (Nat.ble 1082 pc) (cond (Nat.ble 1091 pc) (cond (Nat.ble 1096 pc) (cond (Nat.ble 1098 pc) (cond (Nat.ble 1099 pc) (cond (Nat.ble 1100 pc) ((44, 1101, 0, 0, 0)) ((8, 1100, 0, 0, 0))) ((0, 1099, 0, 0, 2))) (cond (Nat.ble 1097 pc) ((1, 1098, 3, 0, 0)) ((2, 1097, 0, 0, 0)))) (cond (Nat.ble 1093 pc) (cond (Nat.ble 1094 pc) (cond (Nat.ble 1095 pc) ((44, 1096, 0, 0, 0)) ((8, 1095, 0, 0, 0))) ((0, 1094, 0, 0, 1))) (cond (Nat.ble 1092 pc) ((1, 1093, 3, 0, 0)) ((2, 1092, 0, 0, 0))))) (cond (Nat.ble 1086 pc) (cond (Nat.ble 1088 pc) (cond (Nat.ble 1089 pc) (cond (Nat.ble 1090 pc) ((2, 1091, 1, 0, 0)) ((35, 1090, 0, 0, 0))) ((0, 1089, 0, 0, 0))) ((99, 0, 0, 0, 0))) (cond (Nat.ble 1084 pc) (cond (Nat.ble 1085 pc) ((17, 1088, 0, 1206, 0)) ((99, 0, 0, 0, 0))) (cond (Nat.ble 1083 pc) ((99, 0, 0, 0, 0)) ((28, 1085, 126, 2, 0)))))) (cond (Nat.ble 1072 pc) (cond (Nat.ble 1077 pc) (cond (Nat.ble 1079 pc) (cond (Nat.ble 1080 pc) (cond (Nat.ble 1081 pc) ((44, 1082, 0, 0, 0)) ((8, 1081, 0, 0, 0))) ((0, 1080, 0, 0, 1))) (cond (Nat.ble 1078 pc) ((1, 1079, 3, 0, 0)) ((2, 1078, 0, 0, 0)))) (cond (Nat.ble 1074 pc) (cond (Nat.ble 1075 pc) (cond (Nat.ble 1076 pc) ((2, 1077, 2, 0, 0)) ((99, 0, 0, 0, 0))) ((99, 0, 0, 0, 0))) (cond (Nat.ble 1073 pc) ((28, 1076, 71, 2, 0)) ((44, 1073, 0, 0, 0))))) (cond (Nat.ble 1067 pc) (cond (Nat.ble 1069 pc) (cond (Nat.ble 1070 pc) (cond (Nat.ble 1071 pc) ((8, 1072, 0, 0, 0)) ((0, 1071, 0, 0, 1))) ((1, 1070, 3, 0, 0))) (cond (Nat.ble 1068 pc) ((2, 1069, 0, 0, 0)) ((2, 1068, 1, 0, 0)))) (cond (Nat.ble 1065 pc) (cond (Nat.ble 1066 pc) ((35, 1067, 0, 0, 0)) ((0, 1066, 0, 0, 0))) ((99, 0, 0, 0, 0)))))))) (cond (Nat.ble 987 pc) (cond (Nat.ble 1025 pc) (cond (Nat.ble 1044 pc) (cond (Nat.ble 1053 pc) (cond (Nat.ble 1058 pc) (cond (Nat.ble 1060 pc) (cond (Nat.ble 1061 pc) (cond (Nat.ble 1062 pc) ((17, 1065, 0, 1206, 0)) ((99, 0, 0, 0, 0))) ((99, 0, 0, 0, 0))) (cond (Nat.ble 1059 pc) ((28, 1062, 125, 4, 0)) ((44, 1059, 0, 0, 0)))) (cond (Nat.ble 1055 pc) (cond (Nat.ble 1056 pc) (cond (Nat.ble 1057 pc) ((8, 1058, 0, 0, 0)) ((0, 1057, 0, 0, 3))) ((1, 1056, 3, 0, 0))) (cond (Nat.ble 1054 pc) ((2, 1055, 0, 0, 0)) ((44, 1054, 0, 0, 0))))) (cond (Nat.ble 1048 pc) (cond (Nat.ble 1050 pc) (cond (Nat.ble 1051 pc) (cond (Nat.ble 1052 pc) ((8, 1053, 0, 0, 0)) ((0, 1052, 0, 0, 2))) ((1, 1051, 3, 0, 0))) (cond (Nat.ble 1049 pc) ((2, 1050, 0, 0, 0)) ((44, 1049, 0, 0, 0)))) (cond (Nat.ble 1046 pc) (cond (Nat.ble 1047 pc) ((8, 1048, 0, 0, 0)) ((0, 1047, 0, 0, 1))) (cond (Nat.ble 1045 pc) ((1, 1046, 3, 0, 0)) ((2, 1045, 0, 0, 0)))))) (cond (Nat.ble 1034 pc) (cond (Nat.ble 1039 pc) (cond (Nat.ble 1041 pc) (cond (Nat.ble 1042 pc) (cond (Nat.ble 1043 pc) ((2, 1044, 2, 0, 0)) ((99, 0, 0, 0, 0))) ((99, 0, 0, 0, 0))) (cond (Nat.ble 1040 pc) ((28, 1043, 70, 4, 0)) ((44, 1040, 0, 0, 0)))) (cond (Nat.ble 1036 pc) (cond (Nat.ble 1037 pc) (cond (Nat.ble 1038 pc) ((8, 1039, 0, 0, 0)) ((0, 1038, 0, 0, 3))) ((1, 1037, 3, 0, 0))) (cond (Nat.ble 1035 pc) ((2, 1036, 0, 0, 0)) ((44, 1035, 0, 0, 0))))) (cond (Nat.ble 1029 pc) (cond (Nat.ble 1031 pc) (cond (Nat.ble 1032 pc) (cond (Nat.ble 1033 pc) ((8, 1034, 0, 0, 0)) ((0, 1033, 0, 0, 2))) ((1, 1032, 3, 0, 0))) (cond (Nat.ble 1030 pc) ((2, 1031, 0, 0, 0)) ((44, 1030, 0, 0, 0)))) (cond (Nat.ble 1027 pc) (cond (Nat.ble 1028 pc) ((8, 1029, 0, 0, 0)) ((0, 1028, 0, 0, 1))) (cond (Nat.ble 1026 pc) ((1, 1027, 3, 0, 0)) ((2, 1026, 0, 0, 0))))))) (cond (Nat.ble 1006 pc) (cond (Nat.ble 1015 pc) (cond (Nat.ble 1020 pc) (cond (Nat.ble 1022 pc) (cond (Nat.ble 1023 pc) (cond (Nat.ble 1024 pc) ((2, 1025, 1, 0, 0)) ((35, 1024, 0, 0, 0))) ((0, 1023, 0, 0, 0))) ((99, 0, 0, 0, 0))) (cond (Nat.ble 1017 pc) (cond (Nat.ble 1018 pc) (cond (Nat.ble 1019 pc) ((17, 1022, 0, 1206, 0)) ((99, 0, 0, 0, 0))) ((99, 0, 0, 0, 0))) (cond (Nat.ble 1016 pc) ((28, 1019, 124, 4, 0)) ((44, 1016, 0, 0, 0))))) (cond (Nat.ble 1010 pc) (cond (Nat.ble 1012 pc) (cond (Nat.ble 1013 pc) (cond (Nat.ble 1014 pc) ((8, 1015, 0, 0, 0)) ((0, 1014, 0, 0, 3))) ((1, 1013, 3, 0, 0))) (cond (Nat.ble 1011 pc) ((2, 1012, 0, 0, 0)) ((44, 1011, 0, 0, 0)))) (cond (Nat.ble 1008 pc) (cond (Nat.ble 1009 pc) ((8, 1010, 0, 0, 0)) ((0, 1009, 0, 0, 2))) (cond (Nat.ble 1007 pc) ((1, 1008, 3, 0, 0)) ((2, 1007, 0, 0, 0)))))) (cond (Nat.ble 996 pc) (cond (Nat.ble 1001 pc) (cond (Nat.ble 1003 pc) (cond (Nat.ble 1004 pc) (cond (Nat.ble 1005 pc) ((44, 1006, 0, 0, 0)) ((8, 1005, 0, 0, 0))) ((0, 1004, 0, 0, 1))) (cond (Nat.ble 1002 pc) ((1, 1003, 3, 0, 0)) ((2, 1002, 0, 0, 0)))) (cond (Nat.ble 998 pc) (cond (Nat.ble 999 pc) (cond (Nat.ble 1000 pc) ((2, 1001, 2, 0, 0)) ((99, 0, 0, 0, 0))) ((99, 0, 0, 0, 0))) (cond (Nat.ble 997 pc) ((28, 1000, 69, 4, 0)) ((44, 997, 0, 0, 0))))) (cond (Nat.ble 991 pc) (cond (Nat.ble 993 pc) (cond (Nat.ble 994 pc) (cond (Nat.ble 995 pc) ((8, 996, 0, 0, 0)) ((0, 995, 0, 0, 3))) ((1, 994, 3, 0, 0))) (cond (Nat.ble 992 pc) ((2, 993, 0, 0, 0)) ((44, 992, 0, 0, 0)))) (cond (Nat.ble 989 pc) (cond (Nat.ble 990 pc) ((8, 991, 0, 0, 0)) ((0, 990, 0, 0, 2))) (cond (Nat.ble 988 pc) ((1, 989, 3, 0, 0)) ((2, 988, 0, 0, 0)))))))) (cond (Nat.ble 949 pc) (cond (Nat.ble 968 pc) (cond (Nat.ble 977 pc) (cond (Nat.ble 982 pc) (cond (Nat.ble 984 pc) (cond (Nat.ble 985 pc) (cond (Nat.ble 986 pc) ((44, 987, 0, 0, 0)) ((8, 986, 0, 0, 0))) ((0, 985, 0, 0, 1))) (cond (Nat.ble 983 pc) ((1, 984, 3, 0, 0)) ((2, 983, 0, 0, 0)))) (cond (Nat.ble 979 pc) (cond (Nat.ble 980 pc) (cond (Nat.ble 981 pc) ((2, 982, 1, 0, 0)) ((35, 981, 0, 0, 0))) ((0, 980, 0, 0, 0))) ((99, 0, 0, 0, 0)))) (cond (Nat.ble 972 pc) (cond (Nat.ble 974 pc) (cond (Nat.ble 975 pc) (cond (Nat.ble 976 pc) ((17, 979, 0, 1206, 0)) ((99, 0, 0, 0, 0))) ((99, 0, 0, 0, 0))) (cond (Nat.ble 973 pc) ((28, 976, 123, 5, 0)) ((44, 973, 0, 0, 0)))) (cond (Nat.ble 970 pc) (cond (Nat.ble 971 pc) ((8, 972, 0, 0, 0)) ((0, 971, 0, 0, 4))) (cond (Nat.ble 969 pc) ((1, 970, 3, 0, 0)) ((2, 969, 0, 0, 0)))))) (cond (Nat.ble 958 pc) (cond (Nat.ble 963 pc) (cond (Nat.ble 965 pc) (cond (Nat.ble 966 pc) (cond (Nat.ble 967 pc) ((44, 968, 0, 0, 0)) ((8, 967, 0, 0, 0))) ((0, 966, 0, 0, 3))) (cond (Nat.ble 964 pc) ((1, 965, 3, 0, 0)) ((2, 964, 0, 0, 0)))) (cond (Nat.ble 960 pc) (cond (Nat.ble 961 pc) (cond (Nat.ble 962 pc) ((44, 963, 0, 0, 0)) ((8, 962, 0, 0, 0))) ((0, 961, 0, 0, 2))) (cond (Nat.ble 959 pc) ((1, 960, 3, 0, 0)) ((2, 959, 0, 0, 0))))) (cond (Nat.ble 953 pc) (cond (Nat.ble 955 pc) (cond (Nat.ble 956 pc) (cond (Nat.ble 957 pc) ((44, 958, 0, 0, 0)) ((8, 957, 0, 0, 0))) ((0, 956, 0, 0, 1))) (cond (Nat.ble 954 pc) ((1, 955, 3, 0, 0)) ((2, 954, 0, 0, 0)))) (cond (Nat.ble 951 pc) (cond (Nat.ble 952 pc) ((2, 953, 2, 0, 0)) ((99, 0, 0, 0, 0))) (cond (Nat.ble 950 pc) ((99, 0, 0, 0, 0)) ((28, 952, 68, 5, 0))))))) (cond (Nat.ble 930 pc) (cond (Nat.ble 939 pc) (cond (Nat.ble 944 pc) (cond (Nat.ble 946 pc) (cond (Nat.ble 947 pc) (cond (Nat.ble 948 pc) ((44, 949, 0, 0, 0)) ((8, 948, 0, 0, 0))) ((0, 947, 0, 0, 4))) (cond (Nat.ble 945 pc) ((1, 946, 3, 0, 0)) ((2, 945, 0, 0, 0)))) (cond (Nat.ble 941 pc) (cond (Nat.ble 942 pc) (cond (Nat.ble 943 pc) ((44, 944, 0, 0, 0)) ((8, 943, 0, 0, 0))) ((0, 942, 0, 0, 3))) (cond (Nat.ble 940 pc) ((1, 941, 3, 0, 0)) ((2, 940, 0, 0, 0))))) (cond (Nat.ble 934 pc) (cond (Nat.ble 936 pc) (cond (Nat.ble 937 pc) (cond (Nat.ble 938 pc) ((44, 939, 0, 0, 0)) ((8, 938, 0, 0, 0))) ((0, 937, 0, 0, 2))) (cond (Nat.ble 935 pc) ((1, 936, 3, 0, 0)) ((2, 935, 0, 0, 0)))) (cond (Nat.ble 932 pc) (cond (Nat.ble 933 pc) ((44, 934, 0, 0, 0)) ((8, 933, 0, 0, 0))) (cond (Nat.ble 931 pc) ((0, 932, 0, 0, 1)) ((1, 931, 3, 0, 0)))))) (cond (Nat.ble 920 pc) (cond (Nat.ble 925 pc) (cond (Nat.ble 927 pc) (cond (Nat.ble 928 pc) (cond (Nat.ble 929 pc) ((2, 930, 0, 0, 0)) ((2, 929, 1, 0, 0))) ((35, 928, 0, 0, 0))) (cond (Nat.ble 926 pc) ((0, 927, 0, 0, 0)) ((99, 0, 0, 0, 0)))) (cond (Nat.ble 922 pc) (cond (Nat.ble 923 pc) (cond (Nat.ble 924 pc) ((99, 0, 0, 0, 0)) ((17, 926, 0, 1206, 0))) ((99, 0, 0, 0, 0))) (cond (Nat.ble 921 pc) ((99, 0, 0, 0, 0)) ((28, 923, 122, 6, 0))))) (cond (Nat.ble 915 pc) (cond (Nat.ble 917 pc) (cond (Nat.ble 918 pc) (cond (Nat.ble 919 pc) ((44, 920, 0, 0, 0)) ((8, 919, 0, 0, 0))) ((0, 918, 0, 0, 5))) (cond (Nat.ble 916 pc) ((1, 917, 3, 0, 0)) ((2, 916, 0, 0, 0)))) (cond (Nat.ble 913 pc) (cond (Nat.ble 914 pc) ((44, 915, 0, 0, 0)) ((8, 914, 0, 0, 0))) (cond (Nat.ble 912 pc) ((0, 913, 0, 0, 4)) ((1, 912, 3, 0, 0)))))))))) (cond (Nat.ble 759 pc) (cond (Nat.ble 835 pc) (cond (Nat.ble 873 pc) (cond (Nat.ble 892 pc) (cond (Nat.ble 901 pc) (cond (Nat.ble 906 pc) (cond (Nat.ble 908 pc) (cond (Nat.ble 909 pc) (cond (Nat.ble 910 pc) ((2, 911, 0, 0, 0)) ((44, 910, 0, 0, 0))) ((8, 909, 0, 0, 0))) (cond (Nat.ble 907 pc) ((0, 908, 0, 0, 3)) ((1, 907, 3, 0, 0)))) (cond (Nat.ble 903 pc) (cond (Nat.ble 904 pc) (cond (Nat.ble 905 pc) ((2, 906, 0, 0, 0)) ((44, 905, 0, 0, 0))) ((8, 904, 0, 0, 0))) (cond (Nat.ble 902 pc) ((0, 903, 0, 0, 2)) ((1, 902, 3, 0, 0))))) (cond (Nat.ble 896 pc) (cond (Nat.ble 898 pc) (cond (Nat.ble 899 pc) (cond (Nat.ble 900 pc) ((2, 901, 0, 0, 0)) ((44, 900, 0, 0, 0))) ((8, 899, 0, 0, 0))) (cond (Nat.ble 897 pc) ((0, 898, 0, 0, 1)) ((1, 897, 3, 0, 0)))) (cond (Nat.ble 894 pc) (cond (Nat.ble 895 pc) ((2, 896, 0, 0, 0)) ((2, 895, 2, 0, 0))) ((99, 0, 0, 0, 0))))) (cond (Nat.ble 882 pc) (cond (Nat.ble 887 pc) (cond (Nat.ble 889 pc) (cond (Nat.ble 890 pc) (cond (Nat.ble 891 pc) ((28, 894, 65, 6, 0)) ((44, 891, 0, 0, 0))) ((8, 890, 0, 0, 0))) (cond (Nat.ble 888 pc) ((0, 889, 0, 0, 5)) ((1, 888, 3, 0, 0)))) (cond (Nat.ble 884 pc) (cond (Nat.ble 885 pc) (cond (Nat.ble 886 pc) ((2, 887, 0, 0, 0)) ((44, 886, 0, 0, 0))) ((8, 885, 0, 0, 0))) (cond (Nat.ble 883 pc) ((0, 884, 0, 0, 4)) ((1, 883, 3, 0, 0))))) (cond (Nat.ble 877 pc) (cond (Nat.ble 879 pc) (cond (Nat.ble 880 pc) (cond (Nat.ble 881 pc) ((2, 882, 0, 0, 0)) ((44, 881, 0, 0, 0))) ((8, 880, 0, 0, 0))) (cond (Nat.ble 878 pc) ((0, 879, 0, 0, 3)) ((1, 878, 3, 0, 0)))) (cond (Nat.ble 875 pc) (cond (Nat.ble 876 pc) ((2, 877, 0, 0, 0)) ((44, 876, 0, 0, 0))) (cond (Nat.ble 874 pc) ((8, 875, 0, 0, 0)) ((0, 874, 0, 0, 2))))))) (cond (Nat.ble 854 pc) (cond (Nat.ble 863 pc) (cond (Nat.ble 868 pc) (cond (Nat.ble 870 pc) (cond (Nat.ble 871 pc) (cond (Nat.ble 872 pc) ((1, 873, 3, 0, 0)) ((2, 872, 0, 0, 0))) ((44, 871, 0, 0, 0))) (cond (Nat.ble 869 pc) ((8, 870, 0, 0, 0)) ((0, 869, 0, 0, 1)))) (cond (Nat.ble 865 pc) (cond (Nat.ble 866 pc) (cond (Nat.ble 867 pc) ((1, 868, 3, 0, 0)) ((2, 867, 0, 0, 0))) ((2, 866, 1, 0, 0))) (cond (Nat.ble 864 pc) ((35, 865, 0, 0, 0)) ((0, 864, 0, 0, 0))))) (cond (Nat.ble 858 pc) (cond (Nat.ble 860 pc) (cond (Nat.ble 861 pc) ((99, 0, 0, 0, 0)) ((17, 863, 0, 1206, 0))) ((99, 0, 0, 0, 0))) (cond (Nat.ble 856 pc) (cond (Nat.ble 857 pc) ((28, 860, 118, 1, 0)) ((2, 857, 2, 0, 0))) ((99, 0, 0, 0, 0))))) (cond (Nat.ble 844 pc) (cond (Nat.ble 849 pc) (cond (Nat.ble 851 pc) (cond (Nat.ble 852 pc) (cond (Nat.ble 853 pc) ((28, 856, 64, 1, 0)) ((2, 853, 1, 0, 0))) ((35, 852, 0, 0, 0))) (cond (Nat.ble 850 pc) ((0, 851, 0, 0, 0)) ((99, 0, 0, 0, 0)))) (cond (Nat.ble 846 pc) (cond (Nat.ble 847 pc) (cond (Nat.ble 848 pc) ((99, 0, 0, 0, 0)) ((17, 850, 0, 1206, 0))) ((99, 0, 0, 0, 0))) (cond (Nat.ble 845 pc) ((99, 0, 0, 0, 0)) ((28, 847, 117, 1, 0))))) (cond (Nat.ble 839 pc) (cond (Nat.ble 841 pc) (cond (Nat.ble 842 pc) (cond (Nat.ble 843 pc) ((2, 844, 2, 0, 0)) ((99, 0, 0, 0, 0))) ((99, 0, 0, 0, 0))) (cond (Nat.ble 840 pc) ((28, 843, 63, 1, 0)) ((2, 840, 1, 0, 0)))) (cond (Nat.ble 837 pc) (cond (Nat.ble 838 pc) ((35, 839, 0, 0, 0)) ((0, 838, 0, 0, 0))) ((99, 0, 0, 0, 0))))))) (cond (Nat.ble 797 pc) (cond (Nat.ble 816 pc) (cond (Nat.ble 825 pc) (cond (Nat.ble 830 pc) (cond (Nat.ble 832 pc) (cond (Nat.ble 833 pc) (cond (Nat.ble 834 pc) ((17, 837, 0, 1206, 0)) ((99, 0, 0, 0, 0))) ((99, 0, 0, 0, 0))) (cond (Nat.ble 831 pc) ((28, 834, 116, 2, 0)) ((44, 831, 0, 0, 0)))) (cond (Nat.ble 827 pc) (cond (Nat.ble 828 pc) (cond (Nat.ble 829 pc) ((8, 830, 0, 0, 0)) ((0, 829, 0, 0, 1))) ((1, 828, 3, 0, 0))) (cond (Nat.ble 826 pc) ((2, 827, 0, 0, 0)) ((2, 826, 2, 0, 0))))) (cond (Nat.ble 820 pc) (cond (Nat.ble 822 pc) (cond (Nat.ble 823 pc) ((99, 0, 0, 0, 0)) ((28, 825, 62, 2, 0))) (cond (Nat.ble 821 pc) ((44, 822, 0, 0, 0)) ((8, 821, 0, 0, 0)))) (cond (Nat.ble 818 pc) (cond (Nat.ble 819 pc) ((0, 820, 0, 0, 1)) ((1, 819, 3, 0, 0))) (cond (Nat.ble 817 pc) ((2, 818, 0, 0, 0)) ((2, 817, 1, 0, 0)))))) (cond (Nat.ble 806 pc) (cond (Nat.ble 811 pc) (cond (Nat.ble 813 pc) (cond (Nat.ble 814 pc) (cond (Nat.ble 815 pc) ((35, 816, 0, 0, 0)) ((0, 815, 0, 0, 0))) ((99, 0, 0, 0, 0))) (cond (Nat.ble 812 pc) ((99, 0, 0, 0, 0)) ((17, 814, 0, 1206, 0)))) (cond (Nat.ble 808 pc) (cond (Nat.ble 809 pc) ((99, 0, 0, 0, 0)) ((28, 811, 115, 2, 0))) (cond (Nat.ble 807 pc) ((44, 808, 0, 0, 0)) ((8, 807, 0, 0, 0))))) (cond (Nat.ble 801 pc) (cond (Nat.ble 803 pc) (cond (Nat.ble 804 pc) (cond (Nat.ble 805 pc) ((0, 806, 0, 0, 1)) ((1, 805, 3, 0, 0))) ((2, 804, 0, 0, 0))) (cond (Nat.ble 802 pc) ((2, 803, 2, 0, 0)) ((99, 0, 0, 0, 0)))) (cond (Nat.ble 799 pc) (cond (Nat.ble 800 pc) ((99, 0, 0, 0, 0)) ((28, 802, 60, 2, 0))) (cond (Nat.ble 798 pc) ((44, 799, 0, 0, 0)) ((8, 798, 0, 0, 0))))))) (cond (Nat.ble 778 pc) (cond (Nat.ble 787 pc) (cond (Nat.ble 792 pc) (cond (Nat.ble 794 pc) (cond (Nat.ble 795 pc) (cond (Nat.ble 796 pc) ((0, 797, 0, 0, 1)) ((1, 796, 3, 0, 0))) ((2, 795, 0, 0, 0))) (cond (Nat.ble 793 pc) ((2, 794, 1, 0, 0)) ((35, 793, 0, 0, 0)))) (cond (Nat.ble 789 pc) (cond (Nat.ble 790 pc) (cond (Nat.ble 791 pc) ((0, 792, 0, 0, 0)) ((99, 0, 0, 0, 0))) ((99, 0, 0, 0, 0))) (cond (Nat.ble 788 pc) ((17, 791, 0, 1206, 0)) ((99, 0, 0, 0, 0))))) (cond (Nat.ble 782 pc) (cond (Nat.ble 784 pc) (cond (Nat.ble 785 pc) (cond (Nat.ble 786 pc) ((99, 0, 0, 0, 0)) ((28, 788, 114, 3, 0))) ((44, 785, 0, 0, 0))) (cond (Nat.ble 783 pc) ((8, 784, 0, 0, 0)) ((0, 783, 0, 0, 2)))) (cond (Nat.ble 780 pc) (cond (Nat.ble 781 pc) ((1, 782, 3, 0, 0)) ((2, 781, 0, 0, 0))) (cond (Nat.ble 779 pc) ((44, 780, 0, 0, 0)) ((8, 779, 0, 0, 0)))))) (cond (Nat.ble 768 pc) (cond (Nat.ble 773 pc) (cond (Nat.ble 775 pc) (cond (Nat.ble 776 pc) (cond (Nat.ble 777 pc) ((0, 778, 0, 0, 1)) ((1, 777, 3, 0, 0))) ((2, 776, 0, 0, 0))) (cond (Nat.ble 774 pc) ((2, 775, 2, 0, 0)) ((99, 0, 0, 0, 0)))) (cond (Nat.ble 770 pc) (cond (Nat.ble 771 pc) (cond (Nat.ble 772 pc) ((99, 0, 0, 0, 0)) ((28, 774, 59, 3, 0))) ((44, 771, 0, 0, 0))) (cond (Nat.ble 769 pc) ((8, 770, 0, 0, 0)) ((0, 769, 0, 0, 2))))) (cond (Nat.ble 763 pc) (cond (Nat.ble 765 pc) (cond (Nat.ble 766 pc) (cond (Nat.ble 767 pc) ((1, 768, 3, 0, 0)) ((2, 767, 0, 0, 0))) ((44, 766, 0, 0, 0))) (cond (Nat.ble 764 pc) ((8, 765, 0, 0, 0)) ((0, 764, 0, 0, 1)))) (cond (Nat.ble 761 pc) (cond (Nat.ble 762 pc) ((1, 763, 3, 0, 0)) ((2, 762, 0, 0, 0))) (cond (Nat.ble 760 pc) ((2, 761, 1, 0, 0)) ((35, 760, 0, 0, 0))))))))) (cond (Nat.ble 683 pc) (cond (Nat.ble 721 pc) (cond (Nat.ble 740 pc) (cond (Nat.ble 749 pc) (cond (Nat.ble 754 pc) (cond (Nat.ble 756 pc) (cond (Nat.ble 757 pc) (cond (Nat.ble 758 pc) ((0, 759, 0, 0, 0)) ((99, 0, 0, 0, 0))) ((99, 0, 0, 0, 0))) (cond (Nat.ble 755 pc) ((17, 758, 0, 1206, 0)) ((99, 0, 0, 0, 0)))) (cond (Nat.ble 751 pc) (cond (Nat.ble 752 pc) (cond (Nat.ble 753 pc) ((99, 0, 0, 0, 0)) ((28, 755, 113, 2, 0))) ((44, 752, 0, 0, 0))) (cond (Nat.ble 750 pc) ((8, 751, 0, 0, 0)) ((0, 750, 0, 0, 1))))) (cond (Nat.ble 744 pc) (cond (Nat.ble 746 pc) (cond (Nat.ble 747 pc) (cond (Nat.ble 748 pc) ((1, 749, 3, 0, 0)) ((2, 748, 0, 0, 0))) ((2, 747, 2, 0, 0))) ((99, 0, 0, 0, 0))) (cond (Nat.ble 742 pc) (cond (Nat.ble 743 pc) ((28, 746, 58, 2, 0)) ((44, 743, 0, 0, 0))) (cond (Nat.ble 741 pc) ((8, 742, 0, 0, 0)) ((0, 741, 0, 0, 1)))))) (cond (Nat.ble 730 pc) (cond (Nat.ble 735 pc) (cond (Nat.ble 737 pc) (cond (Nat.ble 738 pc) (cond (Nat.ble 739 pc) ((1, 740, 3, 0, 0)) ((2, 739, 0, 0, 0))) ((2, 738, 1, 0, 0))) (cond (Nat.ble 736 pc) ((35, 737, 0, 0, 0)) ((0, 736, 0, 0, 0)))) (cond (Nat.ble 732 pc) (cond (Nat.ble 733 pc) ((99, 0, 0, 0, 0)) ((17, 735, 0, 1206, 0))) ((99, 0, 0, 0, 0)))) (cond (Nat.ble 725 pc) (cond (Nat.ble 727 pc) (cond (Nat.ble 728 pc) (cond (Nat.ble 729 pc) ((28, 732, 112, 2, 0)) ((44, 729, 0, 0, 0))) ((8, 728, 0, 0, 0))) (cond (Nat.ble 726 pc) ((0, 727, 0, 0, 1)) ((1, 726, 3, 0, 0)))) (cond (Nat.ble 723 pc) (cond (Nat.ble 724 pc) ((2, 725, 0, 0, 0)) ((2, 724, 2, 0, 0))) ((99, 0, 0, 0, 0)))))) (cond (Nat.ble 702 pc) (cond (Nat.ble 711 pc) (cond (Nat.ble 716 pc) (cond (Nat.ble 718 pc) (cond (Nat.ble 719 pc) (cond (Nat.ble 720 pc) ((28, 723, 57, 2, 0)) ((44, 720, 0, 0, 0))) ((8, 719, 0, 0, 0))) (cond (Nat.ble 717 pc) ((0, 718, 0, 0, 1)) ((1, 717, 3, 0, 0)))) (cond (Nat.ble 713 pc) (cond (Nat.ble 714 pc) (cond (Nat.ble 715 pc) ((2, 716, 0, 0, 0)) ((2, 715, 1, 0, 0))) ((35, 714, 0, 0, 0))) (cond (Nat.ble 712 pc) ((0, 713, 0, 0, 0)) ((99, 0, 0, 0, 0))))) (cond (Nat.ble 706 pc) (cond (Nat.ble 708 pc) (cond (Nat.ble 709 pc) (cond (Nat.ble 710 pc) ((99, 0, 0, 0, 0)) ((17, 712, 0, 1206, 0))) ((99, 0, 0, 0, 0))) (cond (Nat.ble 707 pc) ((99, 0, 0, 0, 0)) ((28, 709, 111, 2, 0)))) (cond (Nat.ble 704 pc) (cond (Nat.ble 705 pc) ((44, 706, 0, 0, 0)) ((8, 705, 0, 0, 0))) (cond (Nat.ble 703 pc) ((0, 704, 0, 0, 1)) ((1, 703, 3, 0, 0)))))) (cond (Nat.ble 692 pc) (cond (Nat.ble 697 pc) (cond (Nat.ble 699 pc) (cond (Nat.ble 700 pc) (cond (Nat.ble 701 pc) ((2, 702, 0, 0, 0)) ((2, 701, 2, 0, 0))) ((99, 0, 0, 0, 0))) (cond (Nat.ble 698 pc) ((99, 0, 0, 0, 0)) ((28, 700, 54, 2, 0)))) (cond (Nat.ble 694 pc) (cond (Nat.ble 695 pc) (cond (Nat.ble 696 pc) ((44, 697, 0, 0, 0)) ((8, 696, 0, 0, 0))) ((0, 695, 0, 0, 1))) (cond (Nat.ble 693 pc) ((1, 694, 3, 0, 0)) ((2, 693, 0, 0, 0))))) (cond (Nat.ble 687 pc) (cond (Nat.ble 689 pc) (cond (Nat.ble 690 pc) (cond (Nat.ble 691 pc) ((2, 692, 1, 0, 0)) ((35, 691, 0, 0, 0))) ((0, 690, 0, 0, 0))) ((99, 0, 0, 0, 0))) (cond (Nat.ble 685 pc) (cond (Nat.ble 686 pc) ((17, 689, 0, 1206, 0)) ((99, 0, 0, 0, 0))) (cond (Nat.ble 684 pc) ((99, 0, 0, 0, 0)) ((28, 686, 109, 3, 0)))))))) (cond (Nat.ble 645 pc) (cond (Nat.ble 664 pc) (cond (Nat.ble 673 pc) (cond (Nat.ble 678 pc) (cond (Nat.ble 680 pc) (cond (Nat.ble 681 pc) (cond (Nat.ble 682 pc) ((44, 683, 0, 0, 0)) ((8, 682, 0, 0, 0))) ((0, 681, 0, 0, 2))) (cond (Nat.ble 679 pc) ((1, 680, 3, 0, 0)) ((2, 679, 0, 0, 0)))) (cond (Nat.ble 675 pc) (cond (Nat.ble 676 pc) (cond (Nat.ble 677 pc) ((44, 678, 0, 0, 0)) ((8, 677, 0, 0, 0))) ((0, 676, 0, 0, 1))) (cond (Nat.ble 674 pc) ((1, 675, 3, 0, 0)) ((2, 674, 0, 0, 0))))) (cond (Nat.ble 668 pc) (cond (Nat.ble 670 pc) (cond (Nat.ble 671 pc) (cond (Nat.ble 672 pc) ((2, 673, 2, 0, 0)) ((99, 0, 0, 0, 0))) ((99, 0, 0, 0, 0))) (cond (Nat.ble 669 pc) ((28, 672, 52, 3, 0)) ((44, 669, 0, 0, 0)))) (cond (Nat.ble 666 pc) (cond (Nat.ble 667 pc) ((8, 668, 0, 0, 0)) ((0, 667, 0, 0, 2))) (cond (Nat.ble 665 pc) ((1, 666, 3, 0, 0)) ((2, 665, 0, 0, 0)))))) (cond (Nat.ble 654 pc) (cond (Nat.ble 659 pc) (cond (Nat.ble 661 pc) (cond (Nat.ble 662 pc) (cond (Nat.ble 663 pc) ((44, 664, 0, 0, 0)) ((8, 663, 0, 0, 0))) ((0, 662, 0, 0, 1))) (cond (Nat.ble 660 pc) ((1, 661, 3, 0, 0)) ((2, 660, 0, 0, 0)))) (cond (Nat.ble 656 pc) (cond (Nat.ble 657 pc) (cond (Nat.ble 658 pc) ((2, 659, 1, 0, 0)) ((35, 658, 0, 0, 0))) ((0, 657, 0, 0, 0))) ((99, 0, 0, 0, 0)))) (cond (Nat.ble 649 pc) (cond (Nat.ble 651 pc) (cond (Nat.ble 652 pc) (cond (Nat.ble 653 pc) ((17, 656, 0, 1206, 0)) ((99, 0, 0, 0, 0))) ((99, 0, 0, 0, 0))) (cond (Nat.ble 650 pc) ((28, 653, 108, 3, 0)) ((44, 650, 0, 0, 0)))) (cond (Nat.ble 647 pc) (cond (Nat.ble 648 pc) ((8, 649, 0, 0, 0)) ((0, 648, 0, 0, 2))) (cond (Nat.ble 646 pc) ((1, 647, 3, 0, 0)) ((2, 646, 0, 0, 0))))))) (cond (Nat.ble 626 pc) (cond (Nat.ble 635 pc) (cond (Nat.ble 640 pc) (cond (Nat.ble 642 pc) (cond (Nat.ble 643 pc) (cond (Nat.ble 644 pc) ((44, 645, 0, 0, 0)) ((8, 644, 0, 0, 0))) ((0, 643, 0, 0, 1))) (cond (Nat.ble 641 pc) ((1, 642, 3, 0, 0)) ((2, 641, 0, 0, 0)))) (cond (Nat.ble 637 pc) (cond (Nat.ble 638 pc) (cond (Nat.ble 639 pc) ((2, 640, 2, 0, 0)) ((99, 0, 0, 0, 0))) ((99, 0, 0, 0, 0))) (cond (Nat.ble 636 pc) ((28, 639, 50, 3, 0)) ((44, 636, 0, 0, 0))))) (cond (Nat.ble 630 pc) (cond (Nat.ble 632 pc) (cond (Nat.ble 633 pc) (cond (Nat.ble 634 pc) ((8, 635, 0, 0, 0)) ((0, 634, 0, 0, 2))) ((1, 633, 3, 0, 0))) (cond (Nat.ble 631 pc) ((2, 632, 0, 0, 0)) ((44, 631, 0, 0, 0)))) (cond (Nat.ble 628 pc) (cond (Nat.ble 629 pc) ((8, 630, 0, 0, 0)) ((0, 629, 0, 0, 1))) (cond (Nat.ble 627 pc) ((1, 628, 3, 0, 0)) ((2, 627, 0, 0, 0)))))) (cond (Nat.ble 616 pc) (cond (Nat.ble 621 pc) (cond (Nat.ble 623 pc) (cond (Nat.ble 624 pc) (cond (Nat.ble 625 pc) ((2, 626, 1, 0, 0)) ((35, 625, 0, 0, 0))) ((0, 624, 0, 0, 0))) ((99, 0, 0, 0, 0))) (cond (Nat.ble 618 pc) (cond (Nat.ble 619 pc) (cond (Nat.ble 620 pc) ((17, 623, 0, 1206, 0)) ((99, 0, 0, 0, 0))) ((99, 0, 0, 0, 0))) (cond (Nat.ble 617 pc) ((28, 620, 107, 2, 0)) ((44, 617, 0, 0, 0))))) (cond (Nat.ble 611 pc) (cond (Nat.ble 613 pc) (cond (Nat.ble 614 pc) (cond (Nat.ble 615 pc) ((8, 616, 0, 0, 0)) ((0, 615, 0, 0, 1))) ((1, 614, 3, 0, 0))) (cond (Nat.ble 612 pc) ((2, 613, 0, 0, 0)) ((2, 612, 2, 0, 0)))) (cond (Nat.ble 609 pc) ((99, 0, 0, 0, 0)) (cond (Nat.ble 608 pc) ((28, 611, 48, 2, 0)) ((44, 608, 0, 0, 0))))))))))) (cond (Nat.ble 303 pc) (cond (Nat.ble 455 pc) (cond (Nat.ble 531 pc) (cond (Nat.ble 569 pc) (cond (Nat.ble 588 pc) (cond (Nat.ble 597 pc) (cond (Nat.ble 602 pc) (cond (Nat.ble 604 pc) (cond (Nat.ble 605 pc) (cond (Nat.ble 606 pc) ((8, 607, 0, 0, 0)) ((0, 606, 0, 0, 1))) ((1, 605, 3, 0, 0))) (cond (Nat.ble 603 pc) ((2, 604, 0, 0, 0)) ((2, 603, 1, 0, 0)))) (cond (Nat.ble 599 pc) (cond (Nat.ble 600 pc) (cond (Nat.ble 601 pc) ((35, 602, 0, 0, 0)) ((0, 601, 0, 0, 0))) ((99, 0, 0, 0, 0))) (cond (Nat.ble 598 pc) ((99, 0, 0, 0, 0)) ((17, 600, 0, 1206, 0))))) (cond (Nat.ble 592 pc) (cond (Nat.ble 594 pc) (cond (Nat.ble 595 pc) ((99, 0, 0, 0, 0)) ((28, 597, 105, 2, 0))) (cond (Nat.ble 593 pc) ((44, 594, 0, 0, 0)) ((8, 593, 0, 0, 0)))) (cond (Nat.ble 590 pc) (cond (Nat.ble 591 pc) ((0, 592, 0, 0, 1)) ((1, 591, 3, 0, 0))) (cond (Nat.ble 589 pc) ((2, 590, 0, 0, 0)) ((2, 589, 2, 0, 0)))))) (cond (Nat.ble 578 pc) (cond (Nat.ble 583 pc) (cond (Nat.ble 585 pc) (cond (Nat.ble 586 pc) ((99, 0, 0, 0, 0)) ((28, 588, 47, 2, 0))) (cond (Nat.ble 584 pc) ((44, 585, 0, 0, 0)) ((8, 584, 0, 0, 0)))) (cond (Nat.ble 580 pc) (cond (Nat.ble 581 pc) (cond (Nat.ble 582 pc) ((0, 583, 0, 0, 1)) ((1, 582, 3, 0, 0))) ((2, 581, 0, 0, 0))) (cond (Nat.ble 579 pc) ((2, 580, 1, 0, 0)) ((35, 579, 0, 0, 0))))) (cond (Nat.ble 573 pc) (cond (Nat.ble 575 pc) (cond (Nat.ble 576 pc) (cond (Nat.ble 577 pc) ((0, 578, 0, 0, 0)) ((99, 0, 0, 0, 0))) ((99, 0, 0, 0, 0))) (cond (Nat.ble 574 pc) ((17, 577, 0, 1206, 0)) ((99, 0, 0, 0, 0)))) (cond (Nat.ble 571 pc) (cond (Nat.ble 572 pc) ((99, 0, 0, 0, 0)) ((28, 574, 103, 2, 0))) (cond (Nat.ble 570 pc) ((44, 571, 0, 0, 0)) ((8, 570, 0, 0, 0))))))) (cond (Nat.ble 550 pc) (cond (Nat.ble 559 pc) (cond (Nat.ble 564 pc) (cond (Nat.ble 566 pc) (cond (Nat.ble 567 pc) (cond (Nat.ble 568 pc) ((0, 569, 0, 0, 1)) ((1, 568, 3, 0, 0))) ((2, 567, 0, 0, 0))) (cond (Nat.ble 565 pc) ((2, 566, 2, 0, 0)) ((99, 0, 0, 0, 0)))) (cond (Nat.ble 561 pc) (cond (Nat.ble 562 pc) (cond (Nat.ble 563 pc) ((99, 0, 0, 0, 0)) ((28, 565, 46, 2, 0))) ((44, 562, 0, 0, 0))) (cond (Nat.ble 560 pc) ((8, 561, 0, 0, 0)) ((0, 560, 0, 0, 1))))) (cond (Nat.ble 554 pc) (cond (Nat.ble 556 pc) (cond (Nat.ble 557 pc) (cond (Nat.ble 558 pc) ((1, 559, 3, 0, 0)) ((2, 558, 0, 0, 0))) ((2, 557, 1, 0, 0))) (cond (Nat.ble 555 pc) ((35, 556, 0, 0, 0)) ((0, 555, 0, 0, 0)))) (cond (Nat.ble 552 pc) ((99, 0, 0, 0, 0)) (cond (Nat.ble 551 pc) ((17, 554, 0, 1206, 0)) ((99, 0, 0, 0, 0)))))) (cond (Nat.ble 540 pc) (cond (Nat.ble 545 pc) (cond (Nat.ble 547 pc) (cond (Nat.ble 548 pc) (cond (Nat.ble 549 pc) ((99, 0, 0, 0, 0)) ((28, 551, 102, 3, 0))) ((44, 548, 0, 0, 0))) (cond (Nat.ble 546 pc) ((8, 547, 0, 0, 0)) ((0, 546, 0, 0, 2)))) (cond (Nat.ble 542 pc) (cond (Nat.ble 543 pc) (cond (Nat.ble 544 pc) ((1, 545, 3, 0, 0)) ((2, 544, 0, 0, 0))) ((44, 543, 0, 0, 0))) (cond (Nat.ble 541 pc) ((8, 542, 0, 0, 0)) ((0, 541, 0, 0, 1))))) (cond (Nat.ble 535 pc) (cond (Nat.ble 537 pc) (cond (Nat.ble 538 pc) (cond (Nat.ble 539 pc) ((1, 540, 3, 0, 0)) ((2, 539, 0, 0, 0))) ((2, 538, 2, 0, 0))) ((99, 0, 0, 0, 0))) (cond (Nat.ble 533 pc) (cond (Nat.ble 534 pc) ((28, 537, 43, 3, 0)) ((44, 534, 0, 0, 0))) (cond (Nat.ble 532 pc) ((8, 533, 0, 0, 0)) ((0, 532, 0, 0, 2)))))))) (cond (Nat.ble 493 pc) (cond (Nat.ble 512 pc) (cond (Nat.ble 521 pc) (cond (Nat.ble 526 pc) (cond (Nat.ble 528 pc) (cond (Nat.ble 529 pc) (cond (Nat.ble 530 pc) ((1, 531, 3, 0, 0)) ((2, 530, 0, 0, 0))) ((44, 529, 0, 0, 0))) (cond (Nat.ble 527 pc) ((8, 528, 0, 0, 0)) ((0, 527, 0, 0, 1)))) (cond (Nat.ble 523 pc) (cond (Nat.ble 524 pc) (cond (Nat.ble 525 pc) ((1, 526, 3, 0, 0)) ((2, 525, 0, 0, 0))) ((2, 524, 1, 0, 0))) (cond (Nat.ble 522 pc) ((35, 523, 0, 0, 0)) ((0, 522, 0, 0, 0))))) (cond (Nat.ble 516 pc) (cond (Nat.ble 518 pc) (cond (Nat.ble 519 pc) ((99, 0, 0, 0, 0)) ((17, 521, 0, 1206, 0))) ((99, 0, 0, 0, 0))) (cond (Nat.ble 514 pc) (cond (Nat.ble 515 pc) ((28, 518, 101, 2, 0)) ((44, 515, 0, 0, 0))) (cond (Nat.ble 513 pc) ((8, 514, 0, 0, 0)) ((0, 513, 0, 0, 1)))))) (cond (Nat.ble 502 pc) (cond (Nat.ble 507 pc) (cond (Nat.ble 509 pc) (cond (Nat.ble 510 pc) (cond (Nat.ble 511 pc) ((1, 512, 3, 0, 0)) ((2, 511, 0, 0, 0))) ((2, 510, 2, 0, 0))) ((99, 0, 0, 0, 0))) (cond (Nat.ble 504 pc) (cond (Nat.ble 505 pc) (cond (Nat.ble 506 pc) ((28, 509, 42, 2, 0)) ((44, 506, 0, 0, 0))) ((8, 505, 0, 0, 0))) (cond (Nat.ble 503 pc) ((0, 504, 0, 0, 1)) ((1, 503, 3, 0, 0))))) (cond (Nat.ble 497 pc) (cond (Nat.ble 499 pc) (cond (Nat.ble 500 pc) (cond (Nat.ble 501 pc) ((2, 502, 0, 0, 0)) ((2, 501, 1, 0, 0))) ((35, 500, 0, 0, 0))) (cond (Nat.ble 498 pc) ((0, 499, 0, 0, 0)) ((99, 0, 0, 0, 0)))) (cond (Nat.ble 495 pc) (cond (Nat.ble 496 pc) ((99, 0, 0, 0, 0)) ((17, 498, 0, 1206, 0))) ((99, 0, 0, 0, 0)))))) (cond (Nat.ble 474 pc) (cond (Nat.ble 483 pc) (cond (Nat.ble 488 pc) (cond (Nat.ble 490 pc) (cond (Nat.ble 491 pc) (cond (Nat.ble 492 pc) ((28, 495, 99, 2, 0)) ((44, 492, 0, 0, 0))) ((8, 491, 0, 0, 0))) (cond (Nat.ble 489 pc) ((0, 490, 0, 0, 1)) ((1, 489, 3, 0, 0)))) (cond (Nat.ble 485 pc) (cond (Nat.ble 486 pc) (cond (Nat.ble 487 pc) ((2, 488, 0, 0, 0)) ((2, 487, 2, 0, 0))) ((99, 0, 0, 0, 0))) (cond (Nat.ble 484 pc) ((99, 0, 0, 0, 0)) ((28, 486, 41, 2, 0))))) (cond (Nat.ble 478 pc) (cond (Nat.ble 480 pc) (cond (Nat.ble 481 pc) (cond (Nat.ble 482 pc) ((44, 483, 0, 0, 0)) ((8, 482, 0, 0, 0))) ((0, 481, 0, 0, 1))) (cond (Nat.ble 479 pc) ((1, 480, 3, 0, 0)) ((2, 479, 0, 0, 0)))) (cond (Nat.ble 476 pc) (cond (Nat.ble 477 pc) ((2, 478, 1, 0, 0)) ((35, 477, 0, 0, 0))) (cond (Nat.ble 475 pc) ((0, 476, 0, 0, 0)) ((99, 0, 0, 0, 0)))))) (cond (Nat.ble 464 pc) (cond (Nat.ble 469 pc) (cond (Nat.ble 471 pc) (cond (Nat.ble 472 pc) (cond (Nat.ble 473 pc) ((99, 0, 0, 0, 0)) ((17, 475, 0, 1206, 0))) ((99, 0, 0, 0, 0))) (cond (Nat.ble 470 pc) ((99, 0, 0, 0, 0)) ((28, 472, 98, 1, 0)))) (cond (Nat.ble 466 pc) (cond (Nat.ble 467 pc) (cond (Nat.ble 468 pc) ((2, 469, 2, 0, 0)) ((99, 0, 0, 0, 0))) ((99, 0, 0, 0, 0))) (cond (Nat.ble 465 pc) ((28, 468, 39, 1, 0)) ((2, 465, 1, 0, 0))))) (cond (Nat.ble 459 pc) (cond (Nat.ble 461 pc) (cond (Nat.ble 462 pc) (cond (Nat.ble 463 pc) ((35, 464, 0, 0, 0)) ((0, 463, 0, 0, 0))) ((99, 0, 0, 0, 0))) (cond (Nat.ble 460 pc) ((99, 0, 0, 0, 0)) ((17, 462, 0, 1206, 0)))) (cond (Nat.ble 457 pc) ((99, 0, 0, 0, 0)) (cond (Nat.ble 456 pc) ((28, 459, 97, 2, 0)) ((44, 456, 0, 0, 0))))))))) (cond (Nat.ble 379 pc) (cond (Nat.ble 417 pc) (cond (Nat.ble 436 pc) (cond (Nat.ble 445 pc) (cond (Nat.ble 450 pc) (cond (Nat.ble 452 pc) (cond (Nat.ble 453 pc) (cond (Nat.ble 454 pc) ((8, 455, 0, 0, 0)) ((0, 454, 0, 0, 1))) ((1, 453, 3, 0, 0))) (cond (Nat.ble 451 pc) ((2, 452, 0, 0, 0)) ((2, 451, 2, 0, 0)))) (cond (Nat.ble 447 pc) (cond (Nat.ble 448 pc) ((99, 0, 0, 0, 0)) ((28, 450, 38, 2, 0))) (cond (Nat.ble 446 pc) ((44, 447, 0, 0, 0)) ((8, 446, 0, 0, 0))))) (cond (Nat.ble 440 pc) (cond (Nat.ble 442 pc) (cond (Nat.ble 443 pc) (cond (Nat.ble 444 pc) ((0, 445, 0, 0, 1)) ((1, 444, 3, 0, 0))) ((2, 443, 0, 0, 0))) (cond (Nat.ble 441 pc) ((2, 442, 1, 0, 0)) ((35, 441, 0, 0, 0)))) (cond (Nat.ble 438 pc) (cond (Nat.ble 439 pc) ((0, 440, 0, 0, 0)) ((99, 0, 0, 0, 0))) (cond (Nat.ble 437 pc) ((99, 0, 0, 0, 0)) ((17, 439, 0, 1206, 0)))))) (cond (Nat.ble 426 pc) (cond (Nat.ble 431 pc) (cond (Nat.ble 433 pc) (cond (Nat.ble 434 pc) ((99, 0, 0, 0, 0)) ((28, 436, 96, 2, 0))) (cond (Nat.ble 432 pc) ((44, 433, 0, 0, 0)) ((8, 432, 0, 0, 0)))) (cond (Nat.ble 428 pc) (cond (Nat.ble 429 pc) (cond (Nat.ble 430 pc) ((0, 431, 0, 0, 1)) ((1, 430, 3, 0, 0))) ((2, 429, 0, 0, 0))) (cond (Nat.ble 427 pc) ((2, 428, 2, 0, 0)) ((99, 0, 0, 0, 0))))) (cond (Nat.ble 421 pc) (cond (Nat.ble 423 pc) (cond (Nat.ble 424 pc) (cond (Nat.ble 425 pc) ((99, 0, 0, 0, 0)) ((28, 427, 37, 2, 0))) ((44, 424, 0, 0, 0))) (cond (Nat.ble 422 pc) ((8, 423, 0, 0, 0)) ((0, 422, 0, 0, 1)))) (cond (Nat.ble 419 pc) (cond (Nat.ble 420 pc) ((1, 421, 3, 0, 0)) ((2, 420, 0, 0, 0))) (cond (Nat.ble 418 pc) ((2, 419, 1, 0, 0)) ((35, 418, 0, 0, 0))))))) (cond (Nat.ble 398 pc) (cond (Nat.ble 407 pc) (cond (Nat.ble 412 pc) (cond (Nat.ble 414 pc) (cond (Nat.ble 415 pc) (cond (Nat.ble 416 pc) ((0, 417, 0, 0, 0)) ((99, 0, 0, 0, 0))) ((99, 0, 0, 0, 0))) (cond (Nat.ble 413 pc) ((17, 416, 0, 1206, 0)) ((99, 0, 0, 0, 0)))) (cond (Nat.ble 409 pc) (cond (Nat.ble 410 pc) (cond (Nat.ble 411 pc) ((99, 0, 0, 0, 0)) ((28, 413, 95, 1, 0))) ((2, 410, 2, 0, 0))) ((99, 0, 0, 0, 0)))) (cond (Nat.ble 402 pc) (cond (Nat.ble 404 pc) (cond (Nat.ble 405 pc) (cond (Nat.ble 406 pc) ((28, 409, 35, 1, 0)) ((2, 406, 1, 0, 0))) ((35, 405, 0, 0, 0))) (cond (Nat.ble 403 pc) ((0, 404, 0, 0, 0)) ((99, 0, 0, 0, 0)))) (cond (Nat.ble 400 pc) (cond (Nat.ble 401 pc) ((99, 0, 0, 0, 0)) ((17, 403, 0, 1206, 0))) ((99, 0, 0, 0, 0))))) (cond (Nat.ble 388 pc) (cond (Nat.ble 393 pc) (cond (Nat.ble 395 pc) (cond (Nat.ble 396 pc) (cond (Nat.ble 397 pc) ((28, 400, 93, 3, 0)) ((44, 397, 0, 0, 0))) ((8, 396, 0, 0, 0))) (cond (Nat.ble 394 pc) ((0, 395, 0, 0, 3)) ((1, 394, 3, 0, 0)))) (cond (Nat.ble 390 pc) (cond (Nat.ble 391 pc) (cond (Nat.ble 392 pc) ((2, 393, 0, 0, 0)) ((11, 392, 3, 0, 0))) ((11, 391, 2, 0, 0))) ((99, 0, 0, 0, 0)))) (cond (Nat.ble 383 pc) (cond (Nat.ble 385 pc) (cond (Nat.ble 386 pc) (cond (Nat.ble 387 pc) ((15, 390, 39, 0, 4294967295)) ((13, 387, 0, 0, 0))) ((44, 386, 0, 0, 0))) (cond (Nat.ble 384 pc) ((8, 385, 0, 0, 0)) ((0, 384, 0, 0, 2)))) (cond (Nat.ble 381 pc) (cond (Nat.ble 382 pc) ((1, 383, 3, 0, 0)) ((2, 382, 0, 0, 0))) (cond (Nat.ble 380 pc) ((12, 381, 0, 0, 0)) ((99, 0, 0, 0, 0)))))))) (cond (Nat.ble 341 pc) (cond (Nat.ble 360 pc) (cond (Nat.ble 369 pc) (cond (Nat.ble 374 pc) (cond (Nat.ble 376 pc) (cond (Nat.ble 377 pc) (cond (Nat.ble 378 pc) ((0, 380, 0, 0, 32)) ((13, 378, 0, 0, 0))) ((44, 377, 0, 0, 0))) (cond (Nat.ble 375 pc) ((8, 376, 0, 0, 0)) ((0, 375, 0, 0, 1)))) (cond (Nat.ble 371 pc) (cond (Nat.ble 372 pc) (cond (Nat.ble 373 pc) ((1, 374, 3, 0, 0)) ((2, 373, 0, 0, 0))) ((2, 372, 2, 0, 0))) ((99, 0, 0, 0, 0)))) (cond (Nat.ble 364 pc) (cond (Nat.ble 366 pc) (cond (Nat.ble 367 pc) (cond (Nat.ble 368 pc) ((28, 371, 33, 3, 0)) ((44, 368, 0, 0, 0))) ((8, 367, 0, 0, 0))) (cond (Nat.ble 365 pc) ((0, 366, 0, 0, 3)) ((1, 365, 3, 0, 0)))) (cond (Nat.ble 362 pc) (cond (Nat.ble 363 pc) ((2, 364, 0, 0, 0)) ((11, 363, 3, 0, 0))) (cond (Nat.ble 361 pc) ((11, 362, 2, 0, 0)) ((99, 0, 0, 0, 0)))))) (cond (Nat.ble 350 pc) (cond (Nat.ble 355 pc) (cond (Nat.ble 357 pc) (cond (Nat.ble 358 pc) (cond (Nat.ble 359 pc) ((99, 0, 0, 0, 0)) ((15, 361, 39, 0, 4294967295))) ((13, 358, 0, 0, 0))) (cond (Nat.ble 356 pc) ((44, 357, 0, 0, 0)) ((8, 356, 0, 0, 0)))) (cond (Nat.ble 352 pc) (cond (Nat.ble 353 pc) (cond (Nat.ble 354 pc) ((0, 355, 0, 0, 2)) ((1, 354, 3, 0, 0))) ((2, 353, 0, 0, 0))) (cond (Nat.ble 351 pc) ((12, 352, 0, 0, 0)) ((99, 0, 0, 0, 0))))) (cond (Nat.ble 345 pc) (cond (Nat.ble 347 pc) (cond (Nat.ble 348 pc) (cond (Nat.ble 349 pc) ((0, 351, 0, 0, 32)) ((13, 349, 0, 0, 0))) ((44, 348, 0, 0, 0))) (cond (Nat.ble 346 pc) ((8, 347, 0, 0, 0)) ((0, 346, 0, 0, 1)))) (cond (Nat.ble 343 pc) (cond (Nat.ble 344 pc) ((1, 345, 3, 0, 0)) ((2, 344, 0, 0, 0))) (cond (Nat.ble 342 pc) ((2, 343, 1, 0, 0)) ((35, 342, 0, 0, 0))))))) (cond (Nat.ble 322 pc) (cond (Nat.ble 331 pc) (cond (Nat.ble 336 pc) (cond (Nat.ble 338 pc) (cond (Nat.ble 339 pc) (cond (Nat.ble 340 pc) ((0, 341, 0, 0, 0)) ((99, 0, 0, 0, 0))) ((99, 0, 0, 0, 0))) (cond (Nat.ble 337 pc) ((17, 340, 0, 1206, 0)) ((99, 0, 0, 0, 0)))) (cond (Nat.ble 333 pc) (cond (Nat.ble 334 pc) (cond (Nat.ble 335 pc) ((99, 0, 0, 0, 0)) ((28, 337, 92, 2, 0))) ((44, 334, 0, 0, 0))) (cond (Nat.ble 332 pc) ((8, 333, 0, 0, 0)) ((0, 332, 0, 0, 1))))) (cond (Nat.ble 326 pc) (cond (Nat.ble 328 pc) (cond (Nat.ble 329 pc) (cond (Nat.ble 330 pc) ((1, 331, 3, 0, 0)) ((2, 330, 0, 0, 0))) ((2, 329, 2, 0, 0))) ((99, 0, 0, 0, 0))) (cond (Nat.ble 324 pc) (cond (Nat.ble 325 pc) ((28, 328, 32, 2, 0)) ((44, 325, 0, 0, 0))) (cond (Nat.ble 323 pc) ((8, 324, 0, 0, 0)) ((0, 323, 0, 0, 1)))))) (cond (Nat.ble 312 pc) (cond (Nat.ble 317 pc) (cond (Nat.ble 319 pc) (cond (Nat.ble 320 pc) (cond (Nat.ble 321 pc) ((1, 322, 3, 0, 0)) ((2, 321, 0, 0, 0))) ((2, 320, 1, 0, 0))) (cond (Nat.ble 318 pc) ((35, 319, 0, 0, 0)) ((0, 318, 0, 0, 0)))) (cond (Nat.ble 314 pc) (cond (Nat.ble 315 pc) ((99, 0, 0, 0, 0)) ((17, 317, 0, 1206, 0))) ((99, 0, 0, 0, 0)))) (cond (Nat.ble 307 pc) (cond (Nat.ble 309 pc) (cond (Nat.ble 310 pc) (cond (Nat.ble 311 pc) ((28, 314, 91, 2, 0)) ((44, 311, 0, 0, 0))) ((8, 310, 0, 0, 0))) (cond (Nat.ble 308 pc) ((0, 309, 0, 0, 1)) ((1, 308, 3, 0, 0)))) (cond (Nat.ble 305 pc) (cond (Nat.ble 306 pc) ((2, 307, 0, 0, 0)) ((2, 306, 2, 0, 0))) ((99, 0, 0, 0, 0))))))))) (cond (Nat.ble 151 pc) (cond (Nat.ble 227 pc) (cond (Nat.ble 265 pc) (cond (Nat.ble 284 pc) (cond (Nat.ble 293 pc) (cond (Nat.ble 298 pc) (cond (Nat.ble 300 pc) (cond (Nat.ble 301 pc) (cond (Nat.ble 302 pc) ((28, 305, 31, 2, 0)) ((44, 302, 0, 0, 0))) ((8, 301, 0, 0, 0))) (cond (Nat.ble 299 pc) ((0, 300, 0, 0, 1)) ((1, 299, 3, 0, 0)))) (cond (Nat.ble 295 pc) (cond (Nat.ble 296 pc) (cond (Nat.ble 297 pc) ((2, 298, 0, 0, 0)) ((2, 297, 1, 0, 0))) ((35, 296, 0, 0, 0))) (cond (Nat.ble 294 pc) ((0, 295, 0, 0, 0)) ((99, 0, 0, 0, 0))))) (cond (Nat.ble 288 pc) (cond (Nat.ble 290 pc) (cond (Nat.ble 291 pc) (cond (Nat.ble 292 pc) ((99, 0, 0, 0, 0)) ((17, 294, 0, 1206, 0))) ((99, 0, 0, 0, 0))) (cond (Nat.ble 289 pc) ((99, 0, 0, 0, 0)) ((28, 291, 90, 2, 0)))) (cond (Nat.ble 286 pc) (cond (Nat.ble 287 pc) ((44, 288, 0, 0, 0)) ((8, 287, 0, 0, 0))) (cond (Nat.ble 285 pc) ((0, 286, 0, 0, 1)) ((1, 285, 3, 0, 0)))))) (cond (Nat.ble 274 pc) (cond (Nat.ble 279 pc) (cond (Nat.ble 281 pc) (cond (Nat.ble 282 pc) (cond (Nat.ble 283 pc) ((2, 284, 0, 0, 0)) ((2, 283, 2, 0, 0))) ((99, 0, 0, 0, 0))) (cond (Nat.ble 280 pc) ((99, 0, 0, 0, 0)) ((28, 282, 30, 2, 0)))) (cond (Nat.ble 276 pc) (cond (Nat.ble 277 pc) (cond (Nat.ble 278 pc) ((44, 279, 0, 0, 0)) ((8, 278, 0, 0, 0))) ((0, 277, 0, 0, 1))) (cond (Nat.ble 275 pc) ((1, 276, 3, 0, 0)) ((2, 275, 0, 0, 0))))) (cond (Nat.ble 269 pc) (cond (Nat.ble 271 pc) (cond (Nat.ble 272 pc) (cond (Nat.ble 273 pc) ((2, 274, 1, 0, 0)) ((35, 273, 0, 0, 0))) ((0, 272, 0, 0, 0))) ((99, 0, 0, 0, 0))) (cond (Nat.ble 267 pc) (cond (Nat.ble 268 pc) ((17, 271, 0, 1206, 0)) ((99, 0, 0, 0, 0))) (cond (Nat.ble 266 pc) ((99, 0, 0, 0, 0)) ((28, 268, 89, 3, 0))))))) (cond (Nat.ble 246 pc) (cond (Nat.ble 255 pc) (cond (Nat.ble 260 pc) (cond (Nat.ble 262 pc) (cond (Nat.ble 263 pc) (cond (Nat.ble 264 pc) ((44, 265, 0, 0, 0)) ((8, 264, 0, 0, 0))) ((0, 263, 0, 0, 2))) (cond (Nat.ble 261 pc) ((1, 262, 3, 0, 0)) ((2, 261, 0, 0, 0)))) (cond (Nat.ble 257 pc) (cond (Nat.ble 258 pc) (cond (Nat.ble 259 pc) ((44, 260, 0, 0, 0)) ((8, 259, 0, 0, 0))) ((0, 258, 0, 0, 1))) (cond (Nat.ble 256 pc) ((1, 257, 3, 0, 0)) ((2, 256, 0, 0, 0))))) (cond (Nat.ble 250 pc) (cond (Nat.ble 252 pc) (cond (Nat.ble 253 pc) (cond (Nat.ble 254 pc) ((2, 255, 2, 0, 0)) ((99, 0, 0, 0, 0))) ((99, 0, 0, 0, 0))) (cond (Nat.ble 251 pc) ((28, 254, 29, 3, 0)) ((44, 251, 0, 0, 0)))) (cond (Nat.ble 248 pc) (cond (Nat.ble 249 pc) ((8, 250, 0, 0, 0)) ((0, 249, 0, 0, 2))) (cond (Nat.ble 247 pc) ((1, 248, 3, 0, 0)) ((2, 247, 0, 0, 0)))))) (cond (Nat.ble 236 pc) (cond (Nat.ble 241 pc) (cond (Nat.ble 243 pc) (cond (Nat.ble 244 pc) (cond (Nat.ble 245 pc) ((44, 246, 0, 0, 0)) ((8, 245, 0, 0, 0))) ((0, 244, 0, 0, 1))) (cond (Nat.ble 242 pc) ((1, 243, 3, 0, 0)) ((2, 242, 0, 0, 0)))) (cond (Nat.ble 238 pc) (cond (Nat.ble 239 pc) (cond (Nat.ble 240 pc) ((2, 241, 1, 0, 0)) ((35, 240, 0, 0, 0))) ((0, 239, 0, 0, 0))) ((99, 0, 0, 0, 0)))) (cond (Nat.ble 231 pc) (cond (Nat.ble 233 pc) (cond (Nat.ble 234 pc) (cond (Nat.ble 235 pc) ((17, 238, 0, 1206, 0)) ((99, 0, 0, 0, 0))) ((99, 0, 0, 0, 0))) (cond (Nat.ble 232 pc) ((28, 235, 88, 3, 0)) ((44, 232, 0, 0, 0)))) (cond (Nat.ble 229 pc) (cond (Nat.ble 230 pc) ((8, 231, 0, 0, 0)) ((0, 230, 0, 0, 2))) (cond (Nat.ble 228 pc) ((1, 229, 3, 0, 0)) ((2, 228, 0, 0, 0)))))))) (cond (Nat.ble 189 pc) (cond (Nat.ble 208 pc) (cond (Nat.ble 217 pc) (cond (Nat.ble 222 pc) (cond (Nat.ble 224 pc) (cond (Nat.ble 225 pc) (cond (Nat.ble 226 pc) ((44, 227, 0, 0, 0)) ((8, 226, 0, 0, 0))) ((0, 225, 0, 0, 1))) (cond (Nat.ble 223 pc) ((1, 224, 3, 0, 0)) ((2, 223, 0, 0, 0)))) (cond (Nat.ble 219 pc) (cond (Nat.ble 220 pc) (cond (Nat.ble 221 pc) ((2, 222, 2, 0, 0)) ((99, 0, 0, 0, 0))) ((99, 0, 0, 0, 0))) (cond (Nat.ble 218 pc) ((28, 221, 28, 3, 0)) ((44, 218, 0, 0, 0))))) (cond (Nat.ble 212 pc) (cond (Nat.ble 214 pc) (cond (Nat.ble 215 pc) (cond (Nat.ble 216 pc) ((8, 217, 0, 0, 0)) ((0, 216, 0, 0, 2))) ((1, 215, 3, 0, 0))) (cond (Nat.ble 213 pc) ((2, 214, 0, 0, 0)) ((44, 213, 0, 0, 0)))) (cond (Nat.ble 210 pc) (cond (Nat.ble 211 pc) ((8, 212, 0, 0, 0)) ((0, 211, 0, 0, 1))) (cond (Nat.ble 209 pc) ((1, 210, 3, 0, 0)) ((2, 209, 0, 0, 0)))))) (cond (Nat.ble 198 pc) (cond (Nat.ble 203 pc) (cond (Nat.ble 205 pc) (cond (Nat.ble 206 pc) (cond (Nat.ble 207 pc) ((2, 208, 1, 0, 0)) ((35, 207, 0, 0, 0))) ((0, 206, 0, 0, 0))) ((99, 0, 0, 0, 0))) (cond (Nat.ble 200 pc) (cond (Nat.ble 201 pc) (cond (Nat.ble 202 pc) ((17, 205, 0, 1206, 0)) ((99, 0, 0, 0, 0))) ((99, 0, 0, 0, 0))) (cond (Nat.ble 199 pc) ((28, 202, 87, 2, 0)) ((44, 199, 0, 0, 0))))) (cond (Nat.ble 193 pc) (cond (Nat.ble 195 pc) (cond (Nat.ble 196 pc) (cond (Nat.ble 197 pc) ((8, 198, 0, 0, 0)) ((0, 197, 0, 0, 1))) ((1, 196, 3, 0, 0))) (cond (Nat.ble 194 pc) ((2, 195, 0, 0, 0)) ((2, 194, 2, 0, 0)))) (cond (Nat.ble 191 pc) ((99, 0, 0, 0, 0)) (cond (Nat.ble 190 pc) ((28, 193, 27, 2, 0)) ((44, 190, 0, 0, 0))))))) (cond (Nat.ble 170 pc) (cond (Nat.ble 179 pc) (cond (Nat.ble 184 pc) (cond (Nat.ble 186 pc) (cond (Nat.ble 187 pc) (cond (Nat.ble 188 pc) ((8, 189, 0, 0, 0)) ((0, 188, 0, 0, 1))) ((1, 187, 3, 0, 0))) (cond (Nat.ble 185 pc) ((2, 186, 0, 0, 0)) ((2, 185, 1, 0, 0)))) ((99, 0, 0, 0, 0))) ((99, 0, 0, 0, 0))) ((99, 0, 0, 0, 0))))) (cond (Nat.ble 75 pc) ((99, 0, 0, 0, 0)) (cond (Nat.ble 37 pc) ((99, 0, 0, 0, 0)) (cond (Nat.ble 18 pc) (cond (Nat.ble 27 pc) (cond (Nat.ble 32 pc) (cond (Nat.ble 34 pc) ((99, 0, 0, 0, 0)) (cond (Nat.ble 33 pc) ((42, 184, 1206, 0, 0)) ((8, 33, 3, 0, 0)))) (cond (Nat.ble 29 pc) (cond (Nat.ble 30 pc) (cond (Nat.ble 31 pc) ((99, 0, 0, 0, 0)) ((0, 32, 0, 0, 63))) ((44, 30, 0, 0, 0))) (cond (Nat.ble 28 pc) ((1, 29, 3, 0, 0)) ((2, 28, 0, 0, 0))))) (cond (Nat.ble 22 pc) (cond (Nat.ble 24 pc) (cond (Nat.ble 25 pc) ((99, 0, 0, 0, 0)) ((17, 27, 4, 1212, 0))) (cond (Nat.ble 23 pc) ((8, 24, 1, 0, 0)) ((99, 0, 0, 0, 0)))) (cond (Nat.ble 20 pc) (cond (Nat.ble 21 pc) ((0, 23, 0, 0, 6)) ((47, 21, 0, 0, 0))) (cond (Nat.ble 19 pc) ((2, 20, 0, 0, 0)) ((1, 19, 3, 0, 0)))))) (cond (Nat.ble 9 pc) (cond (Nat.ble 13 pc) (cond (Nat.ble 15 pc) (cond (Nat.ble 16 pc) (cond (Nat.ble 17 pc) ((4, 18, 3, 0, 0)) ((0, 17, 0, 0, 0))) ((5, 16, 2, 0, 0))) ((99, 0, 0, 0, 0))) (cond (Nat.ble 11 pc) (cond (Nat.ble 12 pc) ((99, 0, 0, 0, 0)) ((30, 12, 0, 0, 0))) ((99, 0, 0, 0, 0)))) (cond (Nat.ble 4 pc) (cond (Nat.ble 6 pc) (cond (Nat.ble 7 pc) (cond (Nat.ble 8 pc) ((99, 0, 0, 0, 0)) ((5, 8, 1, 0, 0))) ((99, 0, 0, 0, 0))) ((99, 0, 0, 0, 0))) (cond (Nat.ble 2 pc) (cond (Nat.ble 3 pc) ((30, 4, 0, 0, 0)) ((99, 0, 0, 0, 0))) ((99, 0, 0, 0, 0))))))))))
def zcode : Nat → Nat → zE := fun k => cond (Nat.ble 70 k) (cond (Nat.ble 105 k) (cond (Nat.ble 122 k) (cond (Nat.ble 131 k) (cond (Nat.ble 135 k) (cond (Nat.ble 137 k) (cond (Nat.ble 138 k) (cond (Nat.ble 139 k) (fun _ => (99, 0, 0, 0, 0)) (zc_L_law)) (zc_J6_bitCount_0f7a4)) (cond (Nat.ble 136 k) (zc_J1_indexOfChar_4cfef) (zc_J1_indexOf_4cfef))) (cond (Nat.ble 133 k) (cond (Nat.ble 134 k) (zc_J1_canEncode_9a6ad) (zc_J0_isLatin1_aae02)) (cond (Nat.ble 132 k) (zc_J0_coder_7d493) (zc_J0_indexOf_7cf53)))) (cond (Nat.ble 126 k) (cond (Nat.ble 128 k) (cond (Nat.ble 129 k) (cond (Nat.ble 130 k) (zc_J0_indexOf_0f7a4) (zc_J0_length_8abf5)) (zc_X6_copy)) (cond (Nat.ble 127 k) (zc_X6_item) (zc_X6_drop))) (cond (Nat.ble 124 k) (cond (Nat.ble 125 k) (zc_X6_sheet) (zc_X6_film)) (cond (Nat.ble 123 k) (zc_X6_build) (zc_X6_storm))))) (cond (Nat.ble 113 k) (cond (Nat.ble 117 k) (cond (Nat.ble 119 k) (cond (Nat.ble 120 k) (cond (Nat.ble 121 k) (zc_X6_isRising) (zc_X6_found)) (zc_X6_isSheet)) (cond (Nat.ble 118 k) (zc_X6_restore) (zc_X6_image))) (cond (Nat.ble 115 k) (cond (Nat.ble 116 k) (zc_X6_seed) (zc_X6_lots)) (cond (Nat.ble 114 k) (zc_X6_replace) (zc_X6_mends)))) (cond (Nat.ble 109 k) (cond (Nat.ble 111 k) (cond (Nat.ble 112 k) (zc_X6_tear) (zc_X6_wins)) (cond (Nat.ble 110 k) (zc_X6_comes) (zc_X6_cheap))) (cond (Nat.ble 107 k) (cond (Nat.ble 108 k) (zc_X6_ring) (zc_X6_rings)) (cond (Nat.ble 106 k) (zc_X6_isRing) (zc_X6_many)))))) (cond (Nat.ble 87 k) (cond (Nat.ble 96 k) (cond (Nat.ble 100 k) (cond (Nat.ble 102 k) (cond (Nat.ble 103 k) (cond (Nat.ble 104 k) (zc_X6_goesOn) (zc_X6_less)) (zc_X6_go)) (cond (Nat.ble 101 k) (zc_X6_far) (zc_X6_reaches))) (cond (Nat.ble 98 k) (cond (Nat.ble 99 k) (zc_X6_kind) (zc_X6_may)) (cond (Nat.ble 97 k) (zc_X6_fault) (zc_X6_count)))) (cond (Nat.ble 91 k) (cond (Nat.ble 93 k) (cond (Nat.ble 94 k) (cond (Nat.ble 95 k) (zc_X6_fence) (zc_X6_colourOf)) (zc_X6_type)) (cond (Nat.ble 92 k) (zc_X6_pale) (zc_X6_scrape))) (cond (Nat.ble 89 k) (cond (Nat.ble 90 k) (zc_X6_paint) (zc_X6_rule)) (cond (Nat.ble 88 k) (zc_X6_price) (zc_X6_colours))))) (cond (Nat.ble 78 k) (cond (Nat.ble 82 k) (cond (Nat.ble 84 k) (cond (Nat.ble 85 k) (cond (Nat.ble 86 k) (zc_X6_isColour) (zc_X6_isPale)) (zc_X6_bits)) (cond (Nat.ble 83 k) (zc_X6_mayCome) (zc_X6_lay))) (cond (Nat.ble 80 k) (cond (Nat.ble 81 k) (zc_X6_faults) (zc_X6_ends)) (cond (Nat.ble 79 k) (zc_X6_isLike) (zc_X6_changed)))) (cond (Nat.ble 74 k) (cond (Nat.ble 76 k) (cond (Nat.ble 77 k) (zc_X6_in) (zc_X5_isLane)) (cond (Nat.ble 75 k) (zc_X5_pageAt) (zc_X5_refusalOf))) (cond (Nat.ble 72 k) (cond (Nat.ble 73 k) (zc_X5_copy) (zc_X5_item)) (cond (Nat.ble 71 k) (zc_X5_drop) (zc_X5_sheet))))))) (cond (Nat.ble 35 k) (cond (Nat.ble 52 k) (cond (Nat.ble 61 k) (cond (Nat.ble 65 k) (cond (Nat.ble 67 k) (cond (Nat.ble 68 k) (cond (Nat.ble 69 k) (zc_X5_film) (zc_X5_build)) (zc_X5_waysToMend)) (cond (Nat.ble 66 k) (zc_X5_readLost) (zc_X5_storm))) (cond (Nat.ble 63 k) (cond (Nat.ble 64 k) (zc_X5_restore) (zc_X5_image)) (cond (Nat.ble 62 k) (zc_X5_seed) (zc_X5_drawn)))) (cond (Nat.ble 56 k) (cond (Nat.ble 58 k) (cond (Nat.ble 59 k) (cond (Nat.ble 60 k) (zc_X5_lots) (zc_X5_replace)) (zc_X5_mends)) (cond (Nat.ble 57 k) (zc_X5_tear) (zc_X5_isLost))) (cond (Nat.ble 54 k) (cond (Nat.ble 55 k) (zc_X5_canWin) (zc_X5_wins)) (cond (Nat.ble 53 k) (zc_X5_cheapest) (zc_X5_cheap))))) (cond (Nat.ble 43 k) (cond (Nat.ble 47 k) (cond (Nat.ble 49 k) (cond (Nat.ble 50 k) (cond (Nat.ble 51 k) (zc_X5_findRing) (zc_X5_ring)) (zc_X5_rowsBehind)) (cond (Nat.ble 48 k) (zc_X5_rings) (zc_X5_many))) (cond (Nat.ble 45 k) (cond (Nat.ble 46 k) (zc_X5_less) (zc_X5_goOn)) (cond (Nat.ble 44 k) (zc_X5_goBehind) (zc_X5_go)))) (cond (Nat.ble 39 k) (cond (Nat.ble 41 k) (cond (Nat.ble 42 k) (zc_X5_far) (zc_X5_kind)) (cond (Nat.ble 40 k) (zc_X5_openBehind) (zc_X5_may))) (cond (Nat.ble 37 k) (cond (Nat.ble 38 k) (zc_X5_fault) (zc_X5_count)) (cond (Nat.ble 36 k) (zc_X5_readText) (zc_X5_fence)))))) (cond (Nat.ble 17 k) (cond (Nat.ble 26 k) (cond (Nat.ble 30 k) (cond (Nat.ble 32 k) (cond (Nat.ble 33 k) (cond (Nat.ble 34 k) (zc_X5_byteOf) (zc_X5_type)) (zc_X5_pale)) (cond (Nat.ble 31 k) (zc_X5_scrape) (zc_X5_paint))) (cond (Nat.ble 28 k) (cond (Nat.ble 29 k) (zc_X5_rule) (zc_X5_price)) (cond (Nat.ble 27 k) (zc_X5_colours) (zc_X4_add)))) (cond (Nat.ble 21 k) (cond (Nat.ble 23 k) (cond (Nat.ble 24 k) (cond (Nat.ble 25 k) (zc_X4_at) (zc_X3_takeFrom)) (zc_X2_renew)) (cond (Nat.ble 22 k) (zc_X2_put) (zc_X2_at))) (cond (Nat.ble 19 k) (cond (Nat.ble 20 k) (zc_X2_reaches) (zc_X1_tally)) (cond (Nat.ble 18 k) (zc_X1_mixedAtEnd) (zc_X1_stretchAtEnd))))) (cond (Nat.ble 8 k) (cond (Nat.ble 12 k) (cond (Nat.ble 14 k) (cond (Nat.ble 15 k) (cond (Nat.ble 16 k) (zc_X1_isRing) (zc_X1_standsWith)) (zc_X1_holds)) (cond (Nat.ble 13 k) (zc_X1_faultOf) (zc_X1_takeFrom))) (cond (Nat.ble 10 k) (cond (Nat.ble 11 k) (zc_X1_leastPrice) (zc_X1_setPrice)) (cond (Nat.ble 9 k) (zc_X1_priceOf) (zc_X1_hasColour)))) (cond (Nat.ble 4 k) (cond (Nat.ble 6 k) (cond (Nat.ble 7 k) (zc_X0_repeats) (zc_X0_takeFrom)) (cond (Nat.ble 5 k) (zc_X0_takeOut) (zc_X0_cut))) (cond (Nat.ble 2 k) (cond (Nat.ble 3 k) (zc_X0_add) (zc_X0_put)) (cond (Nat.ble 1 k) (zc_X0_at) (zc_X0_has)))))))
def zcall : List (Nat × Nat × Nat × Nat) := [(0, 25, 0, 0), (0, 29, 0, 1), (0, 33, 0, 2), (1, 25, 0, 9), (1, 46, 0, 17), (1, 50, 1, 3), (1, 54, 1, 1), (1, 57, 1, 4), (1, 60, 0, 18), (1, 63, 1, 7), (1, 67, 0, 19), (3, 30, 1, 6), (3, 34, 1, 12), (5, 54, 1, 1), (5, 67, 1, 9), (5, 70, 1, 10), (5, 80, 1, 8), (5, 84, 0, 40), (5, 87, 1, 3), (5, 91, 1, 4), (5, 94, 1, 0), (5, 97, 0, 34), (5, 102, 1, 26), (5, 103, 0, 36), (5, 107, 1, 6), (5, 111, 1, 25), (5, 114, 0, 130), (5, 119, 1, 13), (5, 123, 1, 17), (5, 127, 1, 15), (5, 131, 0, 137), (5, 136, 0, 44), (5, 140, 0, 45), (5, 149, 0, 49), (5, 153, 1, 16), (5, 160, 0, 51), (5, 164, 0, 53), (5, 168, 1, 11), (5, 171, 0, 55), (5, 175, 0, 56), (5, 178, 1, 5), (5, 181, 1, 2), (5, 190, 0, 61), (5, 193, 1, 24), (5, 200, 0, 75), (5, 204, 0, 74), (5, 208, 0, 66), (5, 212, 1, 14), (5, 216, 0, 67), (5, 220, 1, 21), (5, 221, 1, 22), (5, 222, 0, 76), (5, 225, 1, 23), (5, 234, 1, 20), (6, 50, 0, 79), (6, 54, 0, 80), (6, 58, 0, 77), (6, 66, 0, 78), (6, 76, 0, 86), (6, 80, 0, 82), (6, 84, 0, 81), (6, 89, 0, 85), (6, 104, 0, 94), (6, 109, 0, 83), (6, 112, 0, 84), (6, 117, 0, 100), (6, 122, 0, 104), (6, 126, 0, 106), (6, 131, 0, 110), (6, 135, 0, 98), (6, 149, 0, 119), (6, 152, 0, 120), (6, 156, 0, 121), (7, 335, 0, 132), (7, 492, 0, 133), (7, 505, 0, 129), (7, 633, 0, 131), (7, 637, 0, 135), (8, 88, 0, 134), (8, 95, 0, 136), (11, 13, 0, 27), (11, 17, 0, 87), (11, 18, 0, 28), (11, 22, 0, 88), (11, 23, 0, 29), (11, 26, 0, 89), (11, 27, 0, 30), (11, 30, 0, 90), (11, 31, 0, 31), (11, 34, 0, 91), (11, 35, 0, 32), (11, 38, 0, 92), (11, 41, 0, 33), (11, 45, 0, 93), (11, 46, 0, 35), (11, 50, 0, 95), (11, 51, 0, 37), (11, 54, 0, 96), (11, 55, 0, 38), (11, 58, 0, 97), (11, 59, 0, 39), (11, 62, 0, 98), (11, 63, 0, 41), (11, 66, 0, 99), (11, 67, 0, 42), (11, 70, 0, 101), (11, 71, 0, 43), (11, 74, 0, 102), (11, 75, 0, 46), (11, 78, 0, 103), (11, 79, 0, 47), (11, 82, 0, 105), (11, 83, 0, 48), (11, 86, 0, 107), (11, 87, 0, 50), (11, 90, 0, 108), (11, 91, 0, 52), (11, 94, 0, 109), (11, 95, 0, 54), (11, 98, 0, 111), (11, 99, 0, 57), (11, 102, 0, 112), (11, 103, 0, 58), (11, 106, 0, 113), (11, 107, 0, 59), (11, 110, 0, 114), (11, 111, 0, 60), (11, 114, 0, 115), (11, 115, 0, 62), (11, 118, 0, 116), (11, 119, 0, 63), (11, 122, 0, 117), (11, 123, 0, 64), (11, 126, 0, 118), (11, 127, 0, 65), (11, 131, 0, 122), (11, 132, 0, 68), (11, 136, 0, 123), (11, 137, 0, 69), (11, 141, 0, 124), (11, 142, 0, 70), (11, 145, 0, 125), (11, 146, 0, 71), (11, 149, 0, 126), (11, 150, 0, 72), (11, 153, 0, 127), (11, 154, 0, 73), (11, 157, 0, 128)]
def zfld : List (Nat × Nat × Nat × Nat × Nat) := [(0, 9, 0, 0, 0), (0, 15, 0, 0, 1), (1, 9, 0, 1, 0), (1, 15, 0, 1, 1), (1, 18, 0, 1, 2), (1, 21, 0, 1, 3), (1, 41, 1, 0, 1), (2, 9, 0, 2, 0), (2, 15, 0, 2, 2), (2, 19, 0, 2, 1), (3, 10, 0, 3, 0), (3, 19, 0, 3, 1), (3, 23, 0, 3, 2), (3, 27, 1, 0, 1), (4, 9, 0, 4, 0), (4, 15, 0, 4, 1), (5, 10, 0, 5, 0), (5, 16, 0, 5, 1), (5, 22, 0, 5, 3), (5, 28, 0, 5, 4), (5, 35, 0, 5, 5), (5, 39, 0, 5, 6), (5, 42, 0, 5, 7), (5, 47, 1, 3, 0), (5, 50, 1, 0, 1), (5, 58, 1, 3, 1), (5, 62, 1, 1, 0), (5, 74, 1, 1, 1), (5, 77, 1, 1, 2), (5, 101, 1, 4, 1), (5, 184, 1, 3, 2), (5, 196, 0, 5, 2), (5, 228, 1, 2, 2), (5, 231, 1, 2, 1), (5, 238, 1, 2, 0), (6, 7, 0, 6, 0), (6, 13, 0, 6, 1), (6, 16, 0, 6, 3), (6, 19, 0, 6, 5), (6, 22, 0, 6, 6), (6, 25, 0, 6, 7), (6, 28, 0, 6, 8), (6, 31, 0, 6, 9), (6, 34, 0, 6, 10), (6, 37, 0, 6, 11), (6, 40, 0, 6, 12), (6, 44, 0, 6, 13), (6, 47, 0, 6, 14), (6, 100, 0, 6, 4), (6, 145, 0, 6, 2)]
def zcst : List (Nat × Nat × Int) := [(5, 187, 1103515245), (5, 188, 2147483647), (5, 189, 65536), (6, 144, 65536), (9, 265, 1431655765), (9, 266, 858993459), (9, 267, 252645135)]
def zcstl : List (Nat × Nat × Int) := [(1, 71, 2), (6, 62, 2), (6, 64, 4), (6, 70, 3), (6, 72, 99), (6, 74, 9), (6, 87, 48), (6, 92, 8), (6, 94, 255), (6, 96, 32), (6, 98, 126), (6, 107, 5), (6, 115, 16), (6, 120, 12), (6, 129, (-1)), (6, 138, 1103515245), (6, 140, 12345), (6, 142, 2147483647), (11, 39, 4294967295)]
def zacp : List (Nat × Nat) := [(0, 40), (1, 35), (5, 241)]
def zmxl : List (Nat × Nat) := [(0, 19), (5, 157), (8, 92)]
def zmnl : List (Nat × Nat) := [(0, 37), (1, 29), (5, 144), (8, 38)]
def zswl : List Nat := [184, 207, 240, 273, 296, 319, 342, 405, 418, 441, 464, 477, 500, 523, 556, 579, 602, 625, 658, 691, 714, 737, 760, 793, 816, 839, 852, 865, 928, 981, 1024, 1067, 1090, 1143]
def zswd : Nat := 1206
def zNM : Nat := 139
end
section
/-! the small machine: values, memory, one step, a run, a call; ints are Int (the number), references are places -/
abbrev zV : Type := Int ⊕ Int ⊕ Nat ⊕ Bool
abbrev vI (x : Int) : zV := .inl x
abbrev vL (x : Int) : zV := .inr (.inl x)
abbrev vR (k : Nat) : zV := .inr (.inr (.inl k))
abbrev vN : zV := .inr (.inr (.inr true))
abbrev vU : zV := .inr (.inr (.inr false))
abbrev zM : Type := (Nat → Int) × (Nat → Nat → Int)
abbrev zS : Type := Nat × List zV × List zV × zM
def zup (f : Nat → Int) (k : Nat) (v : Int) : Nat → Int := fun j => if j = k then v else f j
def zsetS (σ : zM) (n : Nat) (v : Int) : zM := (zup σ.1 n v, σ.2)
def zupA (g : Nat → Nat → Int) (a : Nat) (f : Nat → Int) : Nat → Nat → Int := fun b => if b = a then f else g b
def zsetA (σ : zM) (a : Nat) (f : Nat → Int) : zM := (σ.1, zupA σ.2 a f)
def zcpy (f g : Nat → Int) (sp dp n : Nat) : Nat → Int := fun k => if dp ≤ k ∧ k < dp + n then f (sp + (k - dp)) else g k
/-- the class of a place: 0..6 ours, 7 the text, 20 ints, 21 booleans, 22 references, 23 the text's bytes, 24 the script -/
def zcls : Nat → Nat := fun k => match k with
  | 0 => 5 | 1 => 3 | 2 => 0 | 3 => 20 | 4 => 1 | 5 => 20 | 6 => 3 | 7 => 0 | 8 => 20 | 9 => 1 | 10 => 20
  | 11 => 4 | 12 => 20 | 13 => 22 | 14 => 2 | 15 => 20 | 16 => 2 | 17 => 20 | 18 => 2 | 19 => 20 | 20 => 2 | 21 => 20
  | 22 => 0 | 23 => 20 | 24 => 0 | 25 => 20 | 26 => 20
  | 27 => 6 | 28 => 20 | 29 => 20 | 30 => 20 | 31 => 20 | 32 => 20 | 33 => 20 | 34 => 20 | 35 => 20 | 36 => 20 | 37 => 20 | 38 => 21 | 39 => 21 | 40 => 21
  | 41 => 7 | 42 => 23 | 43 => 24 | _ => 99
/-- an array's length and its number in the memory -/
def zarr : Nat → Nat × Nat := fun k => match k with
  | 3 => (72, 0) | 8 => (72, 1) | 23 => (72, 2) | 25 => (72, 3) | 5 => (4, 4) | 10 => (4, 5) | 12 => (100, 6)
  | 15 => (48, 7) | 17 => (48, 8) | 19 => (48, 9) | 21 => (48, 10) | 26 => (4, 11)
  | 28 => (57, 12) | 29 => (57, 13) | 30 => (100, 14) | 31 => (4, 15) | 32 => (4, 16) | 33 => (192, 17) | 34 => (80, 18) | 35 => (4, 19) | 36 => (24, 20) | 37 => (8, 21) | 38 => (9, 22) | 39 => (9, 23) | 40 => (9, 24)
  | _ => (0, 99)
/-- the sheets' places -/
def zshp : Nat → Nat := fun j => match j with | 0 => 14 | 1 => 16 | 2 => 18 | _ => 20
/-- a field of an object: a scalar of the memory, or a reference that never changes -/
def zfv (p k : Nat) : Nat ⊕ Nat := match p, k with
  | 0, 0 => .inr 1 | 0, 1 => .inr 6 | 0, 2 => .inl 12 | 0, 3 => .inr 11 | 0, 4 => .inr 13 | 0, 5 => .inr 22 | 0, 6 => .inr 24 | 0, 7 => .inr 26
  | 1, 0 => .inr 2 | 1, 1 => .inr 4 | 1, 2 => .inl 10
  | 2, 0 => .inr 3 | 2, 1 => .inl 0
  | 4, 0 => .inl 4 | 4, 1 => .inl 5 | 4, 2 => .inl 6 | 4, 3 => .inr 5
  | 6, 0 => .inr 7 | 6, 1 => .inr 9 | 6, 2 => .inl 11
  | 7, 0 => .inr 8 | 7, 1 => .inl 1
  | 9, 0 => .inl 7 | 9, 1 => .inl 8 | 9, 2 => .inl 9 | 9, 3 => .inr 10
  | 11, 0 => .inr 12 | 11, 1 => .inl 13
  | 14, 0 => .inr 15 | 14, 1 => .inl 14 | 14, 2 => .inl 15
  | 16, 0 => .inr 17 | 16, 1 => .inl 16 | 16, 2 => .inl 17
  | 18, 0 => .inr 19 | 18, 1 => .inl 18 | 18, 2 => .inl 19
  | 20, 0 => .inr 21 | 20, 1 => .inl 20 | 20, 2 => .inl 21
  | 22, 0 => .inr 23 | 22, 1 => .inl 2
  | 24, 0 => .inr 25 | 24, 1 => .inl 3
  | 27, 0 => .inr 28 | 27, 1 => .inr 29 | 27, 2 => .inl 22 | 27, 3 => .inr 30 | 27, 4 => .inl 23 | 27, 5 => .inr 31 | 27, 6 => .inr 32 | 27, 7 => .inr 33 | 27, 8 => .inr 34 | 27, 9 => .inr 35 | 27, 10 => .inr 36 | 27, 11 => .inr 37 | 27, 12 => .inr 38 | 27, 13 => .inr 39 | 27, 14 => .inr 40
  | _, _ => .inl 99
/-- 32-bit and 64-bit arithmetic on numbers -/
def zbin (b : Nat) (x y : Int) : Int := match b with
  | 0 => (Int32.ofInt x + Int32.ofInt y).toInt
  | 1 => (Int32.ofInt x - Int32.ofInt y).toInt
  | 2 => (Int32.ofInt x * Int32.ofInt y).toInt
  | 3 => (Int32.ofInt x &&& Int32.ofInt y).toInt
  | 4 => (Int32.ofInt x ||| Int32.ofInt y).toInt
  | 5 => (Int32.ofInt x <<< (Int32.ofInt y &&& 31)).toInt
  | 6 => (Int32.ofInt x >>> (Int32.ofInt y &&& 31)).toInt
  | _ => ((Int32.ofInt x).toUInt32 >>> ((Int32.ofInt y).toUInt32 &&& Int32.toUInt32 31)).toInt32.toInt
def zdiv (x y : Int) : Int := (Int32.ofInt x / Int32.ofInt y).toInt
def zrem (x y : Int) : Int := (Int32.ofInt x - Int32.ofInt x / Int32.ofInt y * Int32.ofInt y).toInt
def zlbin (b : Nat) (x y : Int) : Int := match b with
  | 0 => (Int64.ofInt x + Int64.ofInt y).toInt
  | 1 => (Int64.ofInt x * Int64.ofInt y).toInt
  | 2 => (Int64.ofInt x &&& Int64.ofInt y).toInt
  | _ => (Int64.ofInt x ||| Int64.ofInt y).toInt
def zlsh (b : Nat) (x y : Int) : Int := match b with
  | 0 => (Int64.ofInt x <<< ((Int32.ofInt y).toInt64 &&& 63)).toInt
  | _ => (Int64.ofInt x >>> ((Int32.ofInt y).toInt64 &&& 63)).toInt
def zcnv (b : Nat) (v : zV) : Option zV := match b, v with
  | 0, .inl x => some (vL x)
  | 1, .inr (.inl x) => some (vI (Int64.ofInt x).toInt32.toInt)
  | 2, .inl x => some (vI (Int32.ofInt x).toInt8.toInt32.toInt)
  | 3, .inl x => some (vI (Int32.ofInt x).toInt16.toInt32.toInt)
  | 4, .inl x => some (vI ((Int32.ofInt x).toUInt32 % 65536).toInt32.toInt)
  | _, _ => none
def zcmp (x y : Int) : Int := if x < y then -1 else if x = y then 0 else 1
def zcond (c : Nat) (x y : Int) : Prop := match c with
  | 0 => x = y | 1 => ¬ x = y | 2 => x < y | 3 => y ≤ x | 4 => y < x | _ => x ≤ y
def zbyt : Nat → Int := fun j => match j with | 0 => 114 | 1 => 119 | 2 => 98 | _ => 103
def zswt (x : Int) : Nat := if 0 ≤ x ∧ x ≤ 33 then zswl.getD x.toNat 0 else zswd
/-- stores into the locals: a long takes two places -/
def zunl : List zV → List zV := fun L => match L with | [] => [] | v :: l => (match v with | .inr (.inl _) => vU | w => w) :: l
def zst1 : Nat → zV → List zV → List zV
  | _, _, [] => []
  | 0, v, _ :: l => v :: l
  | 1, v, [a] => zunl [a]
  | 1, v, a :: _ :: l => (match a with | .inr (.inl _) => vU | w => w) :: v :: l
  | n + 2, v, a :: l => a :: zst1 (n + 1) v l
def zst2 (i : Nat) (v : zV) (L : List zV) : List zV := zst1 i v ((zst1 (i + 1) vU L))
def zlay : List zV → List zV
  | [] => []
  | .inr (.inl x) :: l => vL x :: vU :: zlay l
  | v :: l => v :: zlay l
def zpad (n : Nat) (L : List zV) : List zV := L ++ List.replicate (n - L.length) vU
def zcut (k : Nat) (L : List zV) : List zV := L.take k ++ List.replicate (L.length - k) vU
def zpop : Nat → List zV → List zV → Option (List zV × List zV)
  | 0, acc, st => some (acc, st)
  | n + 1, acc, v :: st => zpop n (v :: acc) st
  | _ + 1, _, [] => none
def zcsum : List zV → Nat
  | [] => 0
  | .inr (.inl _) :: l => 2 + zcsum l
  | _ :: l => 1 + zcsum l
def zrcv (mi : Nat) (as : List zV) : Bool := match zkd mi, as with
  | 1, _ => true
  | _, .inr (.inr (.inl p)) :: _ => Nat.beq (zcls p) (zown mi)
  | _, _ => false
section ZX
variable (Call : Nat → List zV → zM → (zM → Option zV → Prop) → Prop) (K : zM → Option zV → Prop) (sL : Nat) (xs : Nat → Int) (X : zS → Prop)
def zld (L : List zV) (t i : Nat) (f : zV → Prop) : Prop := match L[i]? with
  | some v => (match t, v with | 1, .inl x => f (.inl x) | 2, .inr (.inr (.inl k)) => f (.inr (.inr (.inl k))) | 2, .inr (.inr (.inr true)) => f vN | 3, .inr (.inl x) => f (.inr (.inl x)) | _, _ => False)
  | none => False
def zEx (e : zE) (L st : List zV) (σ : zM) : Prop := match e with
  | (op, nxt, a, b, z) => match op with
    | 0 => X (nxt, L, vI z :: st, σ)
    | 1 => zld L 1 a fun v => X (nxt, L, v :: st, σ)
    | 2 => zld L 2 a fun v => X (nxt, L, v :: st, σ)
    | 3 => zld L 3 a fun v => X (nxt, L, v :: st, σ)
    | 4 => (match st with | .inl x :: r => X (nxt, zst1 a (.inl x) L, r, σ) | _ => False)
    | 5 => (match st with | .inr (.inr (.inl k)) :: r => X (nxt, zst1 a (.inr (.inr (.inl k))) L, r, σ) | .inr (.inr (.inr true)) :: r => X (nxt, zst1 a vN L, r, σ) | _ => False)
    | 6 => (match st with | .inr (.inl x) :: r => X (nxt, zst2 a (.inr (.inl x)) L, r, σ) | _ => False)
    | 7 => zld L 1 a fun v => (match v with | .inl x => X (nxt, zst1 a (.inl (zbin 0 x z)) L, st, σ) | _ => False)
    | 8 => (match st with | .inl y :: .inl x :: r => X (nxt, L, vI (zbin a x y) :: r, σ) | _ => False)
    | 9 => (match st with | .inl y :: .inl x :: r => (¬ y = 0) ∧ X (nxt, L, vI (zdiv x y) :: r, σ) | _ => False)
    | 10 => (match st with | .inl y :: .inl x :: r => (¬ y = 0) ∧ X (nxt, L, vI (zrem x y) :: r, σ) | _ => False)
    | 11 => (match st with | .inr (.inl y) :: .inr (.inl x) :: r => X (nxt, L, vL (zlbin a x y) :: r, σ) | _ => False)
    | 12 => (match st with | .inl y :: .inr (.inl x) :: r => X (nxt, L, vL (zlsh a x y) :: r, σ) | _ => False)
    | 13 => (match st with | v :: r => (match zcnv a v with | some w => X (nxt, L, w :: r, σ) | none => False) | _ => False)
    | 14 => (match st with | .inr (.inl y) :: .inr (.inl x) :: r => X (nxt, L, vI (zcmp x y) :: r, σ) | _ => False)
    | 15 => X (nxt, L, vL z :: st, σ)
    | 16 => (match st with | .inl x :: r => (zcond a x 0 → X (b, L, r, σ)) ∧ (¬ zcond a x 0 → X (nxt, L, r, σ)) | _ => False)
    | 17 => (match st with | .inl y :: .inl x :: r => (zcond a x y → X (b, L, r, σ)) ∧ (¬ zcond a x y → X (nxt, L, r, σ)) | _ => False)
    | 18 => (match a, st with | 0, .inr (.inr (.inl _)) :: r => X (nxt, L, r, σ) | 0, .inr (.inr (.inr true)) :: r => X (b, L, r, σ) | 1, .inr (.inr (.inl _)) :: r => X (b, L, r, σ) | 1, .inr (.inr (.inr true)) :: r => X (nxt, L, r, σ) | _, _ => False)
    | 19 => X (b, L, st, σ)
    | 20 => (match st with | .inr (.inr (.inl p)) :: r => (match Nat.beq (zcls p) a, zfv p b with | true, .inl n => X (nxt, L, vI (σ.1 n) :: r, σ) | true, .inr q => X (nxt, L, vR q :: r, σ) | _, _ => False) | _ => False)
    | 21 => (match st with | .inl x :: .inr (.inr (.inl p)) :: r => (match Nat.beq (zcls p) a, zfv p b with | true, .inl n => X (nxt, L, r, zsetS σ n x) | _, _ => False) | _ => False)
    | 22 => (match st with | .inl x :: .inr (.inr (.inl p)) :: r => (match Nat.beq (zcls p) a, zfv p b with | true, .inl n => (x = 0 ∨ x = 1) ∧ X (nxt, L, r, zsetS σ n x) | _, _ => False) | _ => False)
    | 23 => (match st with | .inl i :: .inr (.inr (.inl p)) :: r => (match Nat.beq (zcls p) 20, zarr p with | true, (n, g) => (0 ≤ i ∧ i < n) ∧ X (nxt, L, vI (σ.2 g i.toNat) :: r, σ) | _, _ => False) | _ => False)
    | 24 => (match st with | .inl x :: .inl i :: .inr (.inr (.inl p)) :: r => (match Nat.beq (zcls p) 20, zarr p with | true, (n, g) => (0 ≤ i ∧ i < n) ∧ X (nxt, L, r, zsetA σ g (zup (σ.2 g) i.toNat x)) | _, _ => False) | _ => False)
    | 25 => (match st with | .inl i :: .inr (.inr (.inl p)) :: r => (match Nat.beq (zcls p) 21, zarr p with | true, (n, g) => (0 ≤ i ∧ i < n) ∧ X (nxt, L, vI (σ.2 g i.toNat) :: r, σ) | _, _ => False) | _ => False)
    | 26 => (match st with | .inl x :: .inl i :: .inr (.inr (.inl p)) :: r => (match Nat.beq (zcls p) 21, zarr p with | true, (n, g) => (0 ≤ i ∧ i < n) ∧ X (nxt, L, r, zsetA σ g (zup (σ.2 g) i.toNat (zbin 3 x 1))) | _, _ => False) | _ => False)
    | 27 => (match st with | .inr (.inr (.inl p)) :: r => (match zcls p with | 20 => X (nxt, L, vI (zarr p).1 :: r, σ) | 22 => X (nxt, L, vI 4 :: r, σ) | 23 => X (nxt, L, vI 4 :: r, σ) | _ => False) | _ => False)
    | 28 => (match zpop b [] st with
        | some (as, r) => (match zrcv a as, Nat.ble (zcsum r) 8 with | true, true => Call a as σ fun σ' v => X (nxt, L, v.toList ++ r, σ') | _, _ => False)
        | none => False)
    | 29 => (match st with
        | .inl n :: .inl dp :: .inr (.inr (.inl p)) :: .inl sp :: .inr (.inr (.inl q)) :: [] => (match Nat.beq (zcls p) 20, Nat.beq (zcls q) 20 with
          | true, true => ((0 ≤ sp ∧ 0 ≤ dp ∧ 0 ≤ n) ∧ sp + n ≤ (zarr q).1 ∧ dp + n ≤ (zarr p).1) ∧ X (nxt, L, [], zsetA σ (zarr p).2 (zcpy (σ.2 (zarr q).2) (σ.2 (zarr p).2) sp.toNat dp.toNat n.toNat))
          | _, _ => False)
        | _ => False)
    | 30 => (match st with | .inr (.inr (.inl k)) :: r => X (nxt, L, .inr (.inr (.inl k)) :: .inr (.inr (.inl k)) :: r, σ) | _ => False)
    | 31 => (match st with | .inl i :: .inr (.inr (.inl k)) :: r => X (nxt, L, .inl i :: .inr (.inr (.inl k)) :: .inl i :: .inr (.inr (.inl k)) :: r, σ) | _ => False)
    | 32 => (match st with | .inl _ :: r => X (nxt, L, r, σ) | _ => False)
    | 33 => X (nxt, L, vN :: st, σ)
    | 34 => (match st with | .inl x :: [] => K σ (some (.inl x)) | _ => False)
    | 35 => (match st with | .inl x :: [] => (x = 0 ∨ x = 1) ∧ K σ (some (.inl x)) | _ => False)
    | 36 => (match st with | .inl x :: [] => x = 0 ∧ K σ (some (.inl x)) | _ => False)
    | 37 => (match st with | [] => K σ none | _ => False)
    | 38 => X (nxt, L, vR 41 :: st, σ)
    | 39 => (match st with | .inr (.inl x) :: [] => K σ (some (.inr (.inl x))) | _ => False)
    | 40 => (match st with | .inr (.inr (.inl k)) :: [] => K σ (some (.inr (.inr (.inl k)))) | .inr (.inr (.inr true)) :: [] => K σ (some vN) | _ => False)
    | 41 => (match st with | .inl i :: .inr (.inr (.inl p)) :: r => (match Nat.beq (zcls p) 23 with | true => (0 ≤ i ∧ i < 4) ∧ X (nxt, L, vI (zbyt i.toNat) :: r, σ) | _ => False) | _ => False)
    | 42 => (match st with | .inl x :: r => X (zswt x, L, r, σ) | _ => False)
    | 43 => (match st with | .inr (.inr (.inl p)) :: r => (match Nat.beq (zcls p) 7, a with | true, 9 => X (nxt, L, vR 42 :: r, σ) | true, 15 => X (nxt, L, vI 0 :: r, σ) | _, _ => False) | _ => False)
    | 44 => (match st with | .inl i :: .inr (.inr (.inl p)) :: r => (match Nat.beq (zcls p) 24 with | true => (0 ≤ i ∧ i < sL) ∧ X (nxt, L, vI (xs i.toNat) :: r, σ) | _ => False) | _ => False)
    | 45 => (match st with | .inl i :: .inr (.inr (.inl p)) :: r => (match Nat.beq (zcls p) 22 with | true => (0 ≤ i ∧ i < 4) ∧ X (nxt, L, vR (zshp i.toNat) :: r, σ) | _ => False) | _ => False)
    | 46 => X (nxt, L, vI 1 :: st, σ)
    | 47 => (match st with | .inr (.inr (.inl p)) :: r => (match Nat.beq (zcls p) 24 with | true => X (nxt, L, vI sL :: r, σ) | _ => False) | _ => False)
    | 48 => (match st with | .inl y :: .inl x :: r => (match Nat.ble (zcsum r) 20 with | true => X (nxt, L, vI (if x < y then y else x) :: r, σ) | false => False) | _ => False)
    | 49 => (match st with | .inl y :: .inl x :: r => (match Nat.ble (zcsum r) 20 with | true => X (nxt, L, vI (if y < x then y else x) :: r, σ) | false => False) | _ => False)
    | _ => False
def zStep (mi : Nat) (S : zS) : Prop := match Nat.blt S.1 (zN mi) with
  | true => zEx Call K sL xs X (zcode mi S.1) S.2.1 S.2.2.1 S.2.2.2
  | false => False
end ZX
/-- from S the machine comes to an end at which K holds (the least such predicate) -/
def zGo (St : (zS → Prop) → zS → Prop) (S : zS) : Prop := ∀ X : zS → Prop, (∀ S, St X S → X S) → (∀ S k, X (S.1, zcut k S.2.1, S.2.2) → X S) → X S
/-- a call of method mi, at most d calls deep, ends so that K holds of memory and answer -/
def zC : Nat → Nat → List zV → zM → (zM → Option zV → Prop) → Prop
  | 0 => fun _ _ _ _ => False
  | d + 1 => fun mi as σ K => match Nat.ble (zlay as).length (zl mi) with
    | true => zGo (zStep (zC d) K 0 (fun _ => 0) · mi) (0, zpad (zl mi) (zlay as), [], σ)
    | false => False
end
section
/-! the small machine: monotone, runs, rules -/
theorem zld_mono {L : List zV} {t i : Nat} {f g : zV → Prop} (h : ∀ v, f v → g v) (q : zld L t i f) : zld L t i g := by
  unfold zld at q ⊢
  cases hL : L[i]? with
  | none => rw [hL] at q; exact q
  | some v =>
    rw [hL] at q
    dsimp only at q ⊢
    split at q
    · exact h _ q
    · exact h _ q
    · exact h _ q
    · exact h _ q
    · exact q.elim
set_option maxHeartbeats 4000000 in
theorem zEx_mono {Call : Nat → List zV → zM → (zM → Option zV → Prop) → Prop} {K K' : zM → Option zV → Prop} {sL : Nat} {xs : Nat → Int} {X Y : zS → Prop}
    (hC : ∀ mi as σ (K1 K2 : zM → Option zV → Prop), (∀ σ v, K1 σ v → K2 σ v) → Call mi as σ K1 → Call mi as σ K2) (hK : ∀ σ v, K σ v → K' σ v) (hX : ∀ S, X S → Y S)
    (e : zE) (L st : List zV) (σ : zM) (h : zEx Call K sL xs X e L st σ) : zEx Call K' sL xs Y e L st σ := by
  obtain ⟨op, nxt, a, b, z⟩ := e
  unfold zEx at h ⊢
  dsimp only at h ⊢
  split at h
  case h_2 => exact zld_mono (fun v q => hX _ q) h
  case h_3 => exact zld_mono (fun v q => hX _ q) h
  case h_4 => exact zld_mono (fun v q => hX _ q) h
  case h_8 => exact zld_mono (fun v q => by split at q; exact hX _ q; exact q.elim) h
  all_goals first
    | exact hX _ h
    | ((repeat' (split at h)) <;> first
        | exact h.elim
        | exact hX _ h
        | exact hK _ _ h
        | exact ⟨h.1, hX _ h.2⟩
        | exact ⟨h.1, hK _ _ h.2⟩
        | exact ⟨fun c => hX _ (h.1 c), fun c => hX _ (h.2 c)⟩
        | exact hC _ _ _ _ _ (fun _ _ q => hX _ q) h
        | (simp only [*]; first | exact hX _ h | exact ⟨h.1, hX _ h.2⟩ | exact hC _ _ _ _ _ (fun _ _ q => hX _ q) h))
theorem zStep_mono {Call : Nat → List zV → zM → (zM → Option zV → Prop) → Prop} {K K' : zM → Option zV → Prop} {sL : Nat} {xs : Nat → Int} {X Y : zS → Prop}
    (hC : ∀ mi as σ (K1 K2 : zM → Option zV → Prop), (∀ σ v, K1 σ v → K2 σ v) → Call mi as σ K1 → Call mi as σ K2) (hK : ∀ σ v, K σ v → K' σ v) (hX : ∀ S, X S → Y S)
    (mi : Nat) (S : zS) (h : zStep Call K sL xs X mi S) : zStep Call K' sL xs Y mi S := by
  unfold zStep at h ⊢
  cases hb : Nat.blt S.1 (zN mi) with
  | true => rw [hb] at h; exact zEx_mono hC hK hX _ _ _ _ h
  | false => rw [hb] at h; exact h
theorem zGo_mono {F G : (zS → Prop) → zS → Prop} (h : ∀ X S, F X S → G X S) {S : zS} (q : zGo F S) : zGo G S :=
  fun X hX hc => q X (fun S hS => hX S (h X S hS)) hc
theorem zC_mono : ∀ (d mi : Nat) (as : List zV) (σ : zM) (K1 K2 : zM → Option zV → Prop), (∀ σ v, K1 σ v → K2 σ v) → zC d mi as σ K1 → zC d mi as σ K2
  | 0, _, _, _, _, _, _, h => h
  | d + 1, mi, as, σ, K1, K2, hK, h => by
    unfold zC at h ⊢
    cases hb : Nat.ble (zlay as).length (zl mi) with
    | false => rw [hb] at h; exact h
    | true =>
      rw [hb] at h
      exact zGo_mono (fun X S q => zStep_mono (zC_mono d) hK (fun _ q => q) mi S q) h
/-- one step of method mi inside a call at depth d + 1 (the law: its own script) -/
def zF (d mi : Nat) (K : zM → Option zV → Prop) (sL : Nat) (xs : Nat → Int) : (zS → Prop) → zS → Prop := fun X S => zStep (zC d) K sL xs X mi S
abbrev zfx : Nat → Int := fun _ => 0
def zG (d mi : Nat) (K : zM → Option zV → Prop) (sL : Nat) (xs : Nat → Int) (S : zS) : Prop := zGo (zF d mi K sL xs) S
theorem zG_fold {d mi : Nat} {K : zM → Option zV → Prop} {sL : Nat} {xs : Nat → Int} {S : zS} (h : zStep (zC d) K sL xs (zG d mi K sL xs) mi S) : zG d mi K sL xs S :=
  fun X hX hc => hX S (zStep_mono (zC_mono d) (fun _ _ q => q) (fun S q => q X hX hc) mi S h)
theorem zG_cut {d mi : Nat} {K : zM → Option zV → Prop} {sL : Nat} {xs : Nat → Int} {S : zS} (k : Nat) (h : zG d mi K sL xs (S.1, zcut k S.2.1, S.2.2)) : zG d mi K sL xs S :=
  fun X hX hc => hc S k (h X hX hc)
/-- where a run stops: a place of the code, and how many locals are kept there -/
def zst : List (Nat × Nat) → Nat → Option Nat
  | [], _ => none
  | (p, k) :: T, pc => match Nat.beq p pc with | true => some k | false => zst T pc
def zRun (d mi : Nat) (K : zM → Option zV → Prop) (sL : Nat) (xs : Nat → Int) (T : List (Nat × Nat)) : Nat → zS → Prop
  | 0, S => zG d mi K sL xs S
  | n + 1, S => match zst T S.1 with
    | some k => zG d mi K sL xs (S.1, zcut k S.2.1, S.2.2)
    | none => zStep (zC d) K sL xs (zRun d mi K sL xs T n) mi S
theorem zRun_G {d mi : Nat} {K : zM → Option zV → Prop} {sL : Nat} {xs : Nat → Int} {T : List (Nat × Nat)} : ∀ (n : Nat) (S : zS), zRun d mi K sL xs T n S → zG d mi K sL xs S
  | 0, _, h => h
  | n + 1, S, h => by
    unfold zRun at h
    cases hz : zst T S.1 with
    | some k => rw [hz] at h; exact zG_cut k h
    | none => rw [hz] at h; exact zG_fold (zStep_mono (zC_mono d) (fun _ _ q => q) (fun S q => zRun_G n S q) mi S h)
/-- the rule: run on from S to the next stops -/
theorem zG_run (T : List (Nat × Nat)) (n : Nat) {d mi : Nat} {K : zM → Option zV → Prop} {sL : Nat} {xs : Nat → Int} {S : zS} (h : zStep (zC d) K sL xs (zRun d mi K sL xs T n) mi S) : zG d mi K sL xs S :=
  zG_fold (zStep_mono (zC_mono d) (fun _ _ q => q) (fun S q => zRun_G n S q) mi S h)
/-- the rule: a call's entry -/
theorem zC_in {d mi : Nat} {as : List zV} {σ : zM} {K : zM → Option zV → Prop} (hl : Nat.ble (zlay as).length (zl mi) = true) (h : zG d mi K 0 zfx (0, zpad (zl mi) (zlay as), [], σ)) : zC (d + 1) mi as σ K := by
  unfold zC
  rw [hl]
  exact h
def zrw : Nat → Nat := fun r => match r with | 0 => 2 | 1 => 7 | 2 => 22 | _ => 24
end
section
/-! the tables hold of the class files: every entry of zcode is the instruction that stands there; every word is among the tables' words -/
def zRetOk (mi : Nat) (ty : FieldType) : Bool := decide (zret mi = some ty)
def zchi (mi pc : Nat) (i : Instr) (ln : Nat) (e : zE) : Bool := match e with
  | (op, nxt, a, b, z) => Nat.beq nxt (pc + ln) && (match op with
    | 0 => (match i with | .iconst n => decide (ln = 1 ∧ n = z ∧ -1 ≤ z ∧ z ≤ 5) | .bipush n => decide (ln = 2 ∧ n = z ∧ -128 ≤ z ∧ z < 128) | .sipush n => decide (ln = 3 ∧ n = z ∧ -32768 ≤ z ∧ z < 32768) | .ldc n => decide (ln = 2 ∧ n = a ∧ (zown mi, a, z) ∈ zcst) | .ldc_w n => decide (ln = 3 ∧ n = a ∧ (zown mi, a, z) ∈ zcst) | _ => false)
    | 1 => (match i with | .iload_n k => decide (ln = 1 ∧ (k : Nat) = a) | .iload k => decide (ln = 2 ∧ k = a) | _ => false)
    | 2 => (match i with | .aload_n k => decide (ln = 1 ∧ (k : Nat) = a) | .aload k => decide (ln = 2 ∧ k = a) | _ => false)
    | 3 => (match i with | .lload_n k => decide (ln = 1 ∧ (k : Nat) = a) | .lload k => decide (ln = 2 ∧ k = a) | _ => false)
    | 4 => (match i with | .istore_n k => decide (ln = 1 ∧ (k : Nat) = a ∧ a < zl mi) | .istore k => decide (ln = 2 ∧ k = a ∧ a < zl mi) | _ => false)
    | 5 => (match i with | .astore_n k => decide (ln = 1 ∧ (k : Nat) = a ∧ a < zl mi) | .astore k => decide (ln = 2 ∧ k = a ∧ a < zl mi) | _ => false)
    | 6 => (match i with | .lstore_n k => decide (ln = 1 ∧ (k : Nat) = a ∧ a + 1 < zl mi) | .lstore k => decide (ln = 2 ∧ k = a ∧ a + 1 < zl mi) | _ => false)
    | 7 => (match i with | .iinc k n => decide (ln = 3 ∧ k = a ∧ n = z ∧ a < zl mi) | _ => false)
    | 8 => (match i with | .iadd => decide (ln = 1 ∧ a = 0) | .isub => decide (ln = 1 ∧ a = 1) | .imul => decide (ln = 1 ∧ a = 2) | .iand => decide (ln = 1 ∧ a = 3) | .ior => decide (ln = 1 ∧ a = 4) | .ishl => decide (ln = 1 ∧ a = 5) | .ishr => decide (ln = 1 ∧ a = 6) | .iushr => decide (ln = 1 ∧ a = 7) | _ => false)
    | 9 => (match i with | .idiv => decide (ln = 1) | _ => false)
    | 10 => (match i with | .irem => decide (ln = 1) | _ => false)
    | 11 => (match i with | .ladd => decide (ln = 1 ∧ a = 0) | .lmul => decide (ln = 1 ∧ a = 1) | .land => decide (ln = 1 ∧ a = 2) | .lor => decide (ln = 1 ∧ a = 3) | _ => false)
    | 12 => (match i with | .lshl => decide (ln = 1 ∧ a = 0) | .lshr => decide (ln = 1 ∧ a = 1) | _ => false)
    | 13 => (match i with | .i2l => decide (ln = 1 ∧ a = 0) | .l2i => decide (ln = 1 ∧ a = 1) | .i2b => decide (ln = 1 ∧ a = 2) | .i2s => decide (ln = 1 ∧ a = 3) | .i2c => decide (ln = 1 ∧ a = 4) | _ => false)
    | 14 => (match i with | .lcmp => decide (ln = 1) | _ => false)
    | 15 => (match i with | .lconst n => decide (ln = 1 ∧ ((n : Nat) : Int) = z) | .ldc2_w n => decide (ln = 3 ∧ n = a ∧ (zown mi, a, z) ∈ zcstl) | _ => false)
    | 16 => (match i with | .ifCond .eq o => decide (ln = 3 ∧ a = 0 ∧ (pc : Int) + o = (b : Int)) | .ifCond .ne o => decide (ln = 3 ∧ a = 1 ∧ (pc : Int) + o = (b : Int)) | .ifCond .lt o => decide (ln = 3 ∧ a = 2 ∧ (pc : Int) + o = (b : Int)) | .ifCond .ge o => decide (ln = 3 ∧ a = 3 ∧ (pc : Int) + o = (b : Int)) | .ifCond .gt o => decide (ln = 3 ∧ a = 4 ∧ (pc : Int) + o = (b : Int)) | .ifCond .le o => decide (ln = 3 ∧ a = 5 ∧ (pc : Int) + o = (b : Int)) | _ => false)
    | 17 => (match i with | .if_icmp .eq o => decide (ln = 3 ∧ a = 0 ∧ (pc : Int) + o = (b : Int)) | .if_icmp .ne o => decide (ln = 3 ∧ a = 1 ∧ (pc : Int) + o = (b : Int)) | .if_icmp .lt o => decide (ln = 3 ∧ a = 2 ∧ (pc : Int) + o = (b : Int)) | .if_icmp .ge o => decide (ln = 3 ∧ a = 3 ∧ (pc : Int) + o = (b : Int)) | .if_icmp .gt o => decide (ln = 3 ∧ a = 4 ∧ (pc : Int) + o = (b : Int)) | .if_icmp .le o => decide (ln = 3 ∧ a = 5 ∧ (pc : Int) + o = (b : Int)) | _ => false)
    | 18 => (match i with | .ifnull o => decide (ln = 3 ∧ a = 0 ∧ (pc : Int) + o = (b : Int)) | .ifnonnull o => decide (ln = 3 ∧ a = 1 ∧ (pc : Int) + o = (b : Int)) | _ => false)
    | 19 => (match i with | .goto o => decide (ln = 3 ∧ (pc : Int) + o = (b : Int)) | _ => false)
    | 20 => (match i with | .getfield n => decide (ln = 3 ∧ 0 ≤ z) && zfld.any (fun q => decide (q = (zown mi, n, z.toNat, a, b))) | _ => false)
    | 21 => (match i with | .putfield n => decide (ln = 3 ∧ 0 ≤ z ∧ zty a b = .int ∧ (zT a b).2.2.2 = false) && zfld.any (fun q => decide (q = (zown mi, n, z.toNat, a, b))) | _ => false)
    | 22 => (match i with | .putfield n => decide (ln = 3 ∧ 0 ≤ z ∧ zty a b = .boolean ∧ (zT a b).2.2.2 = false) && zfld.any (fun q => decide (q = (zown mi, n, z.toNat, a, b))) | _ => false)
    | 23 => (match i with | .iaload => decide (ln = 1) | _ => false)
    | 24 => (match i with | .iastore => decide (ln = 1) | _ => false)
    | 25 => (match i with | .baload => decide (ln = 1) | _ => false)
    | 26 => (match i with | .bastore => decide (ln = 1) | _ => false)
    | 27 => (match i with | .arraylength => decide (ln = 1) | _ => false)
    | 28 => (match i with | .invokevirtual n => decide (ln = 3 ∧ 0 ≤ z ∧ zkd a = 0 ∧ b = zar a + 1) && zcall.any (fun q => decide (q = (zown mi, n, z.toNat, a))) | .invokestatic n => decide (ln = 3 ∧ z = 0 ∧ zkd a = 1 ∧ b = zar a) && zcall.any (fun q => decide (q = (zown mi, n, z.toNat, a))) | _ => false)
    | 29 => (match i with | .invokestatic n => decide (ln = 3) && zacp.any (fun q => decide (q = (zown mi, n))) | _ => false)
    | 30 => (match i with | .dup => decide (ln = 1) | _ => false)
    | 31 => (match i with | .dup2 => decide (ln = 1) | _ => false)
    | 32 => (match i with | .pop => decide (ln = 1) | _ => false)
    | 33 => (match i with | .aconst_null => decide (ln = 1) | _ => false)
    | 34 => (match i with | .ireturn => decide (ln = 1 ∧ zret mi = some .int) | _ => false)
    | 35 => (match i with | .ireturn => decide (ln = 1 ∧ zret mi = some .boolean) | _ => false)
    | 36 => (match i with | .ireturn => decide (ln = 1 ∧ zret mi = some .byte) | _ => false)
    | 37 => (match i with | .return_ => decide (ln = 1 ∧ zret mi = none) | _ => false)
    | 38 => (match i with | .ldc n => decide (ln = 2 ∧ n = 112 ∧ zown mi = 5) | _ => false)
    | 39 => (match i with | .lreturn => decide (ln = 1 ∧ zret mi = some .long) | _ => false)
    | 40 => (match i with | .areturn => decide (ln = 1 ∧ zret mi = some (.object "PaleFence$Sheet")) | _ => false)
    | 41 => (match i with | .baload => decide (ln = 1) | _ => false)
    | 42 => (match i with | .tableswitch d lo hi offs => decide (lo = 0 ∧ hi = 33 ∧ (pc : Int) + d = (zswd : Int) ∧ offs.size = 34 ∧ mi = 138) && (List.range 34).all (fun j => decide ((pc : Int) + offs.getD j 0 = ((zswl.getD j 0 : Nat) : Int))) | _ => false)
    | 43 => (match i with | .getfield n => decide (ln = 3 ∧ n = a ∧ (a = 9 ∨ a = 15) ∧ zown mi = 7) | _ => false)
    | 44 => (match i with | .iaload => decide (ln = 1 ∧ mi = 138) | _ => false)
    | 45 => (match i with | .aaload => decide (ln = 1) | _ => false)
    | 46 => (match i with | .getstatic n => decide (ln = 3 ∧ n = 38 ∧ zown mi = 7) | _ => false)
    | 47 => (match i with | .arraylength => decide (ln = 1 ∧ mi = 138) | _ => false)
    | 48 => (match i with | .invokestatic n => decide (ln = 3) && zmxl.any (fun q => decide (q = (zown mi, n))) | _ => false)
    | 49 => (match i with | .invokestatic n => decide (ln = 3) && zmnl.any (fun q => decide (q = (zown mi, n))) | _ => false)
    | _ => false)
def zchk (mi pc : Nat) : Bool := match (zcode mi pc).1 with
  | 99 => true
  | _ => (match decode (zb mi) pc with
    | .ok (i, ln) => zchi mi pc i ln (zcode mi pc)
    | .error _ => false)
theorem zk_0_0 : (List.range 18).all (fun j => zchk 0 (0 + j)) = true := by decide +kernel
theorem zk_1_0 : (List.range 24).all (fun j => zchk 1 (0 + j)) = true := by decide +kernel
theorem zk_2_0 : (List.range 21).all (fun j => zchk 2 (0 + j)) = true := by decide +kernel
theorem zk_3_0 : (List.range 40).all (fun j => zchk 3 (0 + j)) = true := by decide +kernel
theorem zk_4_0 : (List.range 15).all (fun j => zchk 4 (0 + j)) = true := by decide +kernel
theorem zk_5_0 : (List.range 50).all (fun j => zchk 5 (0 + j)) = true := by decide +kernel
theorem zk_6_0 : (List.range 34).all (fun j => zchk 6 (0 + j)) = true := by decide +kernel
theorem zk_7_0 : (List.range 48).all (fun j => zchk 7 (0 + j)) = true := by decide +kernel
theorem zk_8_0 : (List.range 18).all (fun j => zchk 8 (0 + j)) = true := by decide +kernel
theorem zk_9_0 : (List.range 24).all (fun j => zchk 9 (0 + j)) = true := by decide +kernel
theorem zk_10_0 : (List.range 21).all (fun j => zchk 10 (0 + j)) = true := by decide +kernel
theorem zk_11_0 : (List.range 31).all (fun j => zchk 11 (0 + j)) = true := by decide +kernel
theorem zk_12_0 : (List.range 39).all (fun j => zchk 12 (0 + j)) = true := by decide +kernel
theorem zk_13_0 : (List.range 30).all (fun j => zchk 13 (0 + j)) = true := by decide +kernel
theorem zk_14_0 : (List.range 32).all (fun j => zchk 14 (0 + j)) = true := by decide +kernel
theorem zk_15_0 : (List.range 24).all (fun j => zchk 15 (0 + j)) = true := by decide +kernel
theorem zk_16_0 : (List.range 60).all (fun j => zchk 16 (0 + j)) = true := by decide +kernel
theorem zk_16_60 : (List.range 17).all (fun j => zchk 16 (60 + j)) = true := by decide +kernel
theorem zk_17_0 : (List.range 60).all (fun j => zchk 17 (0 + j)) = true := by decide +kernel
theorem zk_17_60 : (List.range 26).all (fun j => zchk 17 (60 + j)) = true := by decide +kernel
theorem zk_18_0 : (List.range 60).all (fun j => zchk 18 (0 + j)) = true := by decide +kernel
theorem zk_18_60 : (List.range 28).all (fun j => zchk 18 (60 + j)) = true := by decide +kernel
theorem zk_19_0 : (List.range 7).all (fun j => zchk 19 (0 + j)) = true := by decide +kernel
theorem zk_20_0 : (List.range 32).all (fun j => zchk 20 (0 + j)) = true := by decide +kernel
theorem zk_21_0 : (List.range 24).all (fun j => zchk 21 (0 + j)) = true := by decide +kernel
theorem zk_22_0 : (List.range 59).all (fun j => zchk 22 (0 + j)) = true := by decide +kernel
theorem zk_23_0 : (List.range 35).all (fun j => zchk 23 (0 + j)) = true := by decide +kernel
theorem zk_24_0 : (List.range 38).all (fun j => zchk 24 (0 + j)) = true := by decide +kernel
theorem zk_25_0 : (List.range 25).all (fun j => zchk 25 (0 + j)) = true := by decide +kernel
theorem zk_26_0 : (List.range 40).all (fun j => zchk 26 (0 + j)) = true := by decide +kernel
theorem zk_27_0 : (List.range 60).all (fun j => zchk 27 (0 + j)) = true := by decide +kernel
theorem zk_27_60 : (List.range 16).all (fun j => zchk 27 (60 + j)) = true := by decide +kernel
theorem zk_28_0 : (List.range 47).all (fun j => zchk 28 (0 + j)) = true := by decide +kernel
theorem zk_29_0 : (List.range 60).all (fun j => zchk 29 (0 + j)) = true := by decide +kernel
theorem zk_29_60 : (List.range 19).all (fun j => zchk 29 (60 + j)) = true := by decide +kernel
theorem zk_30_0 : (List.range 60).all (fun j => zchk 30 (0 + j)) = true := by decide +kernel
theorem zk_30_60 : (List.range 20).all (fun j => zchk 30 (60 + j)) = true := by decide +kernel
theorem zk_31_0 : (List.range 52).all (fun j => zchk 31 (0 + j)) = true := by decide +kernel
theorem zk_32_0 : (List.range 30).all (fun j => zchk 32 (0 + j)) = true := by decide +kernel
theorem zk_33_0 : (List.range 60).all (fun j => zchk 33 (0 + j)) = true := by decide +kernel
theorem zk_33_60 : (List.range 46).all (fun j => zchk 33 (60 + j)) = true := by decide +kernel
theorem zk_34_0 : (List.range 12).all (fun j => zchk 34 (0 + j)) = true := by decide +kernel
theorem zk_35_0 : (List.range 40).all (fun j => zchk 35 (0 + j)) = true := by decide +kernel
theorem zk_36_0 : (List.range 60).all (fun j => zchk 36 (0 + j)) = true := by decide +kernel
theorem zk_36_60 : (List.range 37).all (fun j => zchk 36 (60 + j)) = true := by decide +kernel
theorem zk_37_0 : (List.range 60).all (fun j => zchk 37 (0 + j)) = true := by decide +kernel
theorem zk_37_60 : (List.range 40).all (fun j => zchk 37 (60 + j)) = true := by decide +kernel
theorem zk_38_0 : (List.range 60).all (fun j => zchk 38 (0 + j)) = true := by decide +kernel
theorem zk_38_60 : (List.range 4).all (fun j => zchk 38 (60 + j)) = true := by decide +kernel
theorem zk_39_0 : (List.range 15).all (fun j => zchk 39 (0 + j)) = true := by decide +kernel
theorem zk_40_0 : (List.range 60).all (fun j => zchk 40 (0 + j)) = true := by decide +kernel
theorem zk_40_60 : (List.range 32).all (fun j => zchk 40 (60 + j)) = true := by decide +kernel
theorem zk_41_0 : (List.range 60).all (fun j => zchk 41 (0 + j)) = true := by decide +kernel
theorem zk_41_60 : (List.range 17).all (fun j => zchk 41 (60 + j)) = true := by decide +kernel
theorem zk_42_0 : (List.range 30).all (fun j => zchk 42 (0 + j)) = true := by decide +kernel
theorem zk_43_0 : (List.range 60).all (fun j => zchk 43 (0 + j)) = true := by decide +kernel
theorem zk_43_60 : (List.range 1).all (fun j => zchk 43 (60 + j)) = true := by decide +kernel
theorem zk_44_0 : (List.range 60).all (fun j => zchk 44 (0 + j)) = true := by decide +kernel
theorem zk_44_60 : (List.range 17).all (fun j => zchk 44 (60 + j)) = true := by decide +kernel
theorem zk_45_0 : (List.range 60).all (fun j => zchk 45 (0 + j)) = true := by decide +kernel
theorem zk_45_60 : (List.range 29).all (fun j => zchk 45 (60 + j)) = true := by decide +kernel
theorem zk_46_0 : (List.range 60).all (fun j => zchk 46 (0 + j)) = true := by decide +kernel
theorem zk_46_60 : (List.range 12).all (fun j => zchk 46 (60 + j)) = true := by decide +kernel
theorem zk_47_0 : (List.range 38).all (fun j => zchk 47 (0 + j)) = true := by decide +kernel
theorem zk_48_0 : (List.range 39).all (fun j => zchk 48 (0 + j)) = true := by decide +kernel
theorem zk_49_0 : (List.range 60).all (fun j => zchk 49 (0 + j)) = true := by decide +kernel
theorem zk_49_60 : (List.range 56).all (fun j => zchk 49 (60 + j)) = true := by decide +kernel
theorem zk_50_0 : (List.range 60).all (fun j => zchk 50 (0 + j)) = true := by decide +kernel
theorem zk_50_60 : (List.range 15).all (fun j => zchk 50 (60 + j)) = true := by decide +kernel
theorem zk_51_0 : (List.range 60).all (fun j => zchk 51 (0 + j)) = true := by decide +kernel
theorem zk_51_60 : (List.range 42).all (fun j => zchk 51 (60 + j)) = true := by decide +kernel
theorem zk_52_0 : (List.range 60).all (fun j => zchk 52 (0 + j)) = true := by decide +kernel
theorem zk_52_60 : (List.range 36).all (fun j => zchk 52 (60 + j)) = true := by decide +kernel
theorem zk_53_0 : (List.range 60).all (fun j => zchk 53 (0 + j)) = true := by decide +kernel
theorem zk_53_60 : (List.range 34).all (fun j => zchk 53 (60 + j)) = true := by decide +kernel
theorem zk_54_0 : (List.range 60).all (fun j => zchk 54 (0 + j)) = true := by decide +kernel
theorem zk_54_60 : (List.range 43).all (fun j => zchk 54 (60 + j)) = true := by decide +kernel
theorem zk_55_0 : (List.range 60).all (fun j => zchk 55 (0 + j)) = true := by decide +kernel
theorem zk_55_60 : (List.range 4).all (fun j => zchk 55 (60 + j)) = true := by decide +kernel
theorem zk_56_0 : (List.range 60).all (fun j => zchk 56 (0 + j)) = true := by decide +kernel
theorem zk_56_60 : (List.range 4).all (fun j => zchk 56 (60 + j)) = true := by decide +kernel
theorem zk_57_0 : (List.range 53).all (fun j => zchk 57 (0 + j)) = true := by decide +kernel
theorem zk_58_0 : (List.range 60).all (fun j => zchk 58 (0 + j)) = true := by decide +kernel
theorem zk_58_60 : (List.range 38).all (fun j => zchk 58 (60 + j)) = true := by decide +kernel
theorem zk_59_0 : (List.range 56).all (fun j => zchk 59 (0 + j)) = true := by decide +kernel
theorem zk_60_0 : (List.range 60).all (fun j => zchk 60 (0 + j)) = true := by decide +kernel
theorem zk_60_60 : (List.range 60).all (fun j => zchk 60 (60 + j)) = true := by decide +kernel
theorem zk_60_120 : (List.range 10).all (fun j => zchk 60 (120 + j)) = true := by decide +kernel
theorem zk_61_0 : (List.range 53).all (fun j => zchk 61 (0 + j)) = true := by decide +kernel
theorem zk_62_0 : (List.range 24).all (fun j => zchk 62 (0 + j)) = true := by decide +kernel
theorem zk_63_0 : (List.range 18).all (fun j => zchk 63 (0 + j)) = true := by decide +kernel
theorem zk_64_0 : (List.range 23).all (fun j => zchk 64 (0 + j)) = true := by decide +kernel
theorem zk_65_0 : (List.range 60).all (fun j => zchk 65 (0 + j)) = true := by decide +kernel
theorem zk_65_60 : (List.range 60).all (fun j => zchk 65 (60 + j)) = true := by decide +kernel
theorem zk_65_120 : (List.range 60).all (fun j => zchk 65 (120 + j)) = true := by decide +kernel
theorem zk_65_180 : (List.range 13).all (fun j => zchk 65 (180 + j)) = true := by decide +kernel
theorem zk_66_0 : (List.range 60).all (fun j => zchk 66 (0 + j)) = true := by decide +kernel
theorem zk_66_60 : (List.range 17).all (fun j => zchk 66 (60 + j)) = true := by decide +kernel
theorem zk_67_0 : (List.range 60).all (fun j => zchk 67 (0 + j)) = true := by decide +kernel
theorem zk_67_60 : (List.range 60).all (fun j => zchk 67 (60 + j)) = true := by decide +kernel
theorem zk_67_120 : (List.range 11).all (fun j => zchk 67 (120 + j)) = true := by decide +kernel
theorem zk_68_0 : (List.range 60).all (fun j => zchk 68 (0 + j)) = true := by decide +kernel
theorem zk_68_60 : (List.range 60).all (fun j => zchk 68 (60 + j)) = true := by decide +kernel
theorem zk_68_120 : (List.range 6).all (fun j => zchk 68 (120 + j)) = true := by decide +kernel
theorem zk_69_0 : (List.range 60).all (fun j => zchk 69 (0 + j)) = true := by decide +kernel
theorem zk_69_60 : (List.range 35).all (fun j => zchk 69 (60 + j)) = true := by decide +kernel
theorem zk_70_0 : (List.range 43).all (fun j => zchk 70 (0 + j)) = true := by decide +kernel
theorem zk_71_0 : (List.range 35).all (fun j => zchk 71 (0 + j)) = true := by decide +kernel
theorem zk_72_0 : (List.range 40).all (fun j => zchk 72 (0 + j)) = true := by decide +kernel
theorem zk_73_0 : (List.range 60).all (fun j => zchk 73 (0 + j)) = true := by decide +kernel
theorem zk_73_60 : (List.range 50).all (fun j => zchk 73 (60 + j)) = true := by decide +kernel
theorem zk_74_0 : (List.range 51).all (fun j => zchk 74 (0 + j)) = true := by decide +kernel
theorem zk_75_0 : (List.range 24).all (fun j => zchk 75 (0 + j)) = true := by decide +kernel
theorem zk_76_0 : (List.range 15).all (fun j => zchk 76 (0 + j)) = true := by decide +kernel
theorem zk_77_0 : (List.range 19).all (fun j => zchk 77 (0 + j)) = true := by decide +kernel
theorem zk_78_0 : (List.range 16).all (fun j => zchk 78 (0 + j)) = true := by decide +kernel
theorem zk_79_0 : (List.range 60).all (fun j => zchk 79 (0 + j)) = true := by decide +kernel
theorem zk_79_60 : (List.range 60).all (fun j => zchk 79 (60 + j)) = true := by decide +kernel
theorem zk_79_120 : (List.range 53).all (fun j => zchk 79 (120 + j)) = true := by decide +kernel
theorem zk_80_0 : (List.range 60).all (fun j => zchk 80 (0 + j)) = true := by decide +kernel
theorem zk_80_60 : (List.range 19).all (fun j => zchk 80 (60 + j)) = true := by decide +kernel
theorem zk_81_0 : (List.range 25).all (fun j => zchk 81 (0 + j)) = true := by decide +kernel
theorem zk_82_0 : (List.range 40).all (fun j => zchk 82 (0 + j)) = true := by decide +kernel
theorem zk_83_0 : (List.range 49).all (fun j => zchk 83 (0 + j)) = true := by decide +kernel
theorem zk_84_0 : (List.range 22).all (fun j => zchk 84 (0 + j)) = true := by decide +kernel
theorem zk_85_0 : (List.range 16).all (fun j => zchk 85 (0 + j)) = true := by decide +kernel
theorem zk_86_0 : (List.range 16).all (fun j => zchk 86 (0 + j)) = true := by decide +kernel
theorem zk_87_0 : (List.range 57).all (fun j => zchk 87 (0 + j)) = true := by decide +kernel
theorem zk_88_0 : (List.range 37).all (fun j => zchk 88 (0 + j)) = true := by decide +kernel
theorem zk_89_0 : (List.range 44).all (fun j => zchk 89 (0 + j)) = true := by decide +kernel
theorem zk_90_0 : (List.range 60).all (fun j => zchk 90 (0 + j)) = true := by decide +kernel
theorem zk_90_60 : (List.range 7).all (fun j => zchk 90 (60 + j)) = true := by decide +kernel
theorem zk_91_0 : (List.range 44).all (fun j => zchk 91 (0 + j)) = true := by decide +kernel
theorem zk_92_0 : (List.range 22).all (fun j => zchk 92 (0 + j)) = true := by decide +kernel
theorem zk_93_0 : (List.range 60).all (fun j => zchk 93 (0 + j)) = true := by decide +kernel
theorem zk_93_60 : (List.range 60).all (fun j => zchk 93 (60 + j)) = true := by decide +kernel
theorem zk_93_120 : (List.range 20).all (fun j => zchk 93 (120 + j)) = true := by decide +kernel
theorem zk_94_0 : (List.range 43).all (fun j => zchk 94 (0 + j)) = true := by decide +kernel
theorem zk_95_0 : (List.range 60).all (fun j => zchk 95 (0 + j)) = true := by decide +kernel
theorem zk_95_60 : (List.range 60).all (fun j => zchk 95 (60 + j)) = true := by decide +kernel
theorem zk_95_120 : (List.range 1).all (fun j => zchk 95 (120 + j)) = true := by decide +kernel
theorem zk_96_0 : (List.range 60).all (fun j => zchk 96 (0 + j)) = true := by decide +kernel
theorem zk_96_60 : (List.range 46).all (fun j => zchk 96 (60 + j)) = true := by decide +kernel
theorem zk_97_0 : (List.range 44).all (fun j => zchk 97 (0 + j)) = true := by decide +kernel
theorem zk_98_0 : (List.range 23).all (fun j => zchk 98 (0 + j)) = true := by decide +kernel
theorem zk_99_0 : (List.range 60).all (fun j => zchk 99 (0 + j)) = true := by decide +kernel
theorem zk_99_60 : (List.range 10).all (fun j => zchk 99 (60 + j)) = true := by decide +kernel
theorem zk_100_0 : (List.range 60).all (fun j => zchk 100 (0 + j)) = true := by decide +kernel
theorem zk_100_60 : (List.range 60).all (fun j => zchk 100 (60 + j)) = true := by decide +kernel
theorem zk_100_120 : (List.range 35).all (fun j => zchk 100 (120 + j)) = true := by decide +kernel
theorem zk_101_0 : (List.range 26).all (fun j => zchk 101 (0 + j)) = true := by decide +kernel
theorem zk_102_0 : (List.range 43).all (fun j => zchk 102 (0 + j)) = true := by decide +kernel
theorem zk_103_0 : (List.range 60).all (fun j => zchk 103 (0 + j)) = true := by decide +kernel
theorem zk_103_60 : (List.range 9).all (fun j => zchk 103 (60 + j)) = true := by decide +kernel
theorem zk_104_0 : (List.range 60).all (fun j => zchk 104 (0 + j)) = true := by decide +kernel
theorem zk_104_60 : (List.range 32).all (fun j => zchk 104 (60 + j)) = true := by decide +kernel
theorem zk_105_0 : (List.range 60).all (fun j => zchk 105 (0 + j)) = true := by decide +kernel
theorem zk_105_60 : (List.range 2).all (fun j => zchk 105 (60 + j)) = true := by decide +kernel
theorem zk_106_0 : (List.range 60).all (fun j => zchk 106 (0 + j)) = true := by decide +kernel
theorem zk_106_60 : (List.range 58).all (fun j => zchk 106 (60 + j)) = true := by decide +kernel
theorem zk_107_0 : (List.range 55).all (fun j => zchk 107 (0 + j)) = true := by decide +kernel
theorem zk_108_0 : (List.range 60).all (fun j => zchk 108 (0 + j)) = true := by decide +kernel
theorem zk_108_60 : (List.range 12).all (fun j => zchk 108 (60 + j)) = true := by decide +kernel
theorem zk_109_0 : (List.range 60).all (fun j => zchk 109 (0 + j)) = true := by decide +kernel
theorem zk_109_60 : (List.range 60).all (fun j => zchk 109 (60 + j)) = true := by decide +kernel
theorem zk_109_120 : (List.range 38).all (fun j => zchk 109 (120 + j)) = true := by decide +kernel
theorem zk_110_0 : (List.range 31).all (fun j => zchk 110 (0 + j)) = true := by decide +kernel
theorem zk_111_0 : (List.range 60).all (fun j => zchk 111 (0 + j)) = true := by decide +kernel
theorem zk_111_60 : (List.range 60).all (fun j => zchk 111 (60 + j)) = true := by decide +kernel
theorem zk_111_120 : (List.range 60).all (fun j => zchk 111 (120 + j)) = true := by decide +kernel
theorem zk_111_180 : (List.range 49).all (fun j => zchk 111 (180 + j)) = true := by decide +kernel
theorem zk_112_0 : (List.range 60).all (fun j => zchk 112 (0 + j)) = true := by decide +kernel
theorem zk_112_60 : (List.range 17).all (fun j => zchk 112 (60 + j)) = true := by decide +kernel
theorem zk_113_0 : (List.range 60).all (fun j => zchk 113 (0 + j)) = true := by decide +kernel
theorem zk_113_60 : (List.range 6).all (fun j => zchk 113 (60 + j)) = true := by decide +kernel
theorem zk_114_0 : (List.range 30).all (fun j => zchk 114 (0 + j)) = true := by decide +kernel
theorem zk_115_0 : (List.range 60).all (fun j => zchk 115 (0 + j)) = true := by decide +kernel
theorem zk_115_60 : (List.range 60).all (fun j => zchk 115 (60 + j)) = true := by decide +kernel
theorem zk_115_120 : (List.range 41).all (fun j => zchk 115 (120 + j)) = true := by decide +kernel
theorem zk_116_0 : (List.range 15).all (fun j => zchk 116 (0 + j)) = true := by decide +kernel
theorem zk_117_0 : (List.range 33).all (fun j => zchk 117 (0 + j)) = true := by decide +kernel
theorem zk_118_0 : (List.range 38).all (fun j => zchk 118 (0 + j)) = true := by decide +kernel
theorem zk_119_0 : (List.range 30).all (fun j => zchk 119 (0 + j)) = true := by decide +kernel
theorem zk_120_0 : (List.range 57).all (fun j => zchk 120 (0 + j)) = true := by decide +kernel
theorem zk_121_0 : (List.range 60).all (fun j => zchk 121 (0 + j)) = true := by decide +kernel
theorem zk_121_60 : (List.range 13).all (fun j => zchk 121 (60 + j)) = true := by decide +kernel
theorem zk_122_0 : (List.range 60).all (fun j => zchk 122 (0 + j)) = true := by decide +kernel
theorem zk_122_60 : (List.range 60).all (fun j => zchk 122 (60 + j)) = true := by decide +kernel
theorem zk_122_120 : (List.range 60).all (fun j => zchk 122 (120 + j)) = true := by decide +kernel
theorem zk_122_180 : (List.range 60).all (fun j => zchk 122 (180 + j)) = true := by decide +kernel
theorem zk_122_240 : (List.range 13).all (fun j => zchk 122 (240 + j)) = true := by decide +kernel
theorem zk_123_0 : (List.range 60).all (fun j => zchk 123 (0 + j)) = true := by decide +kernel
theorem zk_123_60 : (List.range 60).all (fun j => zchk 123 (60 + j)) = true := by decide +kernel
theorem zk_123_120 : (List.range 23).all (fun j => zchk 123 (120 + j)) = true := by decide +kernel
theorem zk_124_0 : (List.range 60).all (fun j => zchk 124 (0 + j)) = true := by decide +kernel
theorem zk_124_60 : (List.range 24).all (fun j => zchk 124 (60 + j)) = true := by decide +kernel
theorem zk_125_0 : (List.range 60).all (fun j => zchk 125 (0 + j)) = true := by decide +kernel
theorem zk_125_60 : (List.range 8).all (fun j => zchk 125 (60 + j)) = true := by decide +kernel
theorem zk_126_0 : (List.range 42).all (fun j => zchk 126 (0 + j)) = true := by decide +kernel
theorem zk_127_0 : (List.range 60).all (fun j => zchk 127 (0 + j)) = true := by decide +kernel
theorem zk_127_60 : (List.range 4).all (fun j => zchk 127 (60 + j)) = true := by decide +kernel
theorem zk_128_0 : (List.range 60).all (fun j => zchk 128 (0 + j)) = true := by decide +kernel
theorem zk_128_60 : (List.range 60).all (fun j => zchk 128 (60 + j)) = true := by decide +kernel
theorem zk_128_120 : (List.range 56).all (fun j => zchk 128 (120 + j)) = true := by decide +kernel
theorem zk_129_0 : (List.range 11).all (fun j => zchk 129 (0 + j)) = true := by decide +kernel
theorem zk_130_0 : (List.range 7).all (fun j => zchk 130 (0 + j)) = true := by decide +kernel
theorem zk_131_0 : (List.range 37).all (fun j => zchk 131 (0 + j)) = true := by decide +kernel
theorem zk_132_0 : (List.range 15).all (fun j => zchk 132 (0 + j)) = true := by decide +kernel
theorem zk_133_0 : (List.range 19).all (fun j => zchk 133 (0 + j)) = true := by decide +kernel
theorem zk_134_0 : (List.range 17).all (fun j => zchk 134 (0 + j)) = true := by decide +kernel
theorem zk_135_0 : (List.range 37).all (fun j => zchk 135 (0 + j)) = true := by decide +kernel
theorem zk_136_0 : (List.range 33).all (fun j => zchk 136 (0 + j)) = true := by decide +kernel
theorem zk_137_0 : (List.range 53).all (fun j => zchk 137 (0 + j)) = true := by decide +kernel
theorem zk_138_0 : (List.range 60).all (fun j => zchk 138 (0 + j)) = true := by decide +kernel
theorem zk_138_60 : (List.range 60).all (fun j => zchk 138 (60 + j)) = true := by decide +kernel
theorem zk_138_120 : (List.range 60).all (fun j => zchk 138 (120 + j)) = true := by decide +kernel
theorem zk_138_180 : (List.range 60).all (fun j => zchk 138 (180 + j)) = true := by decide +kernel
theorem zk_138_240 : (List.range 60).all (fun j => zchk 138 (240 + j)) = true := by decide +kernel
theorem zk_138_300 : (List.range 60).all (fun j => zchk 138 (300 + j)) = true := by decide +kernel
theorem zk_138_360 : (List.range 60).all (fun j => zchk 138 (360 + j)) = true := by decide +kernel
theorem zk_138_420 : (List.range 60).all (fun j => zchk 138 (420 + j)) = true := by decide +kernel
theorem zk_138_480 : (List.range 60).all (fun j => zchk 138 (480 + j)) = true := by decide +kernel
theorem zk_138_540 : (List.range 60).all (fun j => zchk 138 (540 + j)) = true := by decide +kernel
theorem zk_138_600 : (List.range 60).all (fun j => zchk 138 (600 + j)) = true := by decide +kernel
theorem zk_138_660 : (List.range 60).all (fun j => zchk 138 (660 + j)) = true := by decide +kernel
theorem zk_138_720 : (List.range 60).all (fun j => zchk 138 (720 + j)) = true := by decide +kernel
theorem zk_138_780 : (List.range 60).all (fun j => zchk 138 (780 + j)) = true := by decide +kernel
theorem zk_138_840 : (List.range 60).all (fun j => zchk 138 (840 + j)) = true := by decide +kernel
theorem zk_138_900 : (List.range 60).all (fun j => zchk 138 (900 + j)) = true := by decide +kernel
theorem zk_138_960 : (List.range 60).all (fun j => zchk 138 (960 + j)) = true := by decide +kernel
theorem zk_138_1020 : (List.range 60).all (fun j => zchk 138 (1020 + j)) = true := by decide +kernel
theorem zk_138_1080 : (List.range 60).all (fun j => zchk 138 (1080 + j)) = true := by decide +kernel
theorem zk_138_1140 : (List.range 60).all (fun j => zchk 138 (1140 + j)) = true := by decide +kernel
theorem zk_138_1200 : (List.range 14).all (fun j => zchk 138 (1200 + j)) = true := by decide +kernel
end
section
/-! the tables' words that the small machine needs -/
def zGT : List Cond := lw_tbl.filter goodWord
theorem zTB_0 {w : Cond} (i : Nat) (h : (k2_sels lw_privs)[i]? = some w) : w ∈ lw_tbl := List.mem_append_left _ (List.mem_of_getElem? h)
theorem zTB_1 {w : Cond} (i : Nat) (h : tables_1_1[i]? = some w) : w ∈ lw_tbl := List.mem_append_right _ (List.mem_append_left _ (List.mem_of_getElem? h))
theorem zTB_2 {w : Cond} (i : Nat) (h : tables_1_2[i]? = some w) : w ∈ lw_tbl := List.mem_append_right _ (List.mem_append_right _ (List.mem_append_left _ (List.mem_of_getElem? h)))
theorem zTB_3 {w : Cond} (i : Nat) (h : tables_1_3[i]? = some w) : w ∈ lw_tbl := List.mem_append_right _ (List.mem_append_right _ (List.mem_append_right _ (List.mem_append_left _ (List.mem_of_getElem? h))))
theorem zTB_4 {w : Cond} (i : Nat) (h : tables_1_4[i]? = some w) : w ∈ lw_tbl := List.mem_append_right _ (List.mem_append_right _ (List.mem_append_right _ (List.mem_append_right _ (List.mem_of_getElem? h))))
theorem zGT_0 {w : Cond} (i : Nat) (h : (k2_sels lw_privs)[i]? = some w) (hg : goodWord w = true) : w ∈ zGT := List.mem_filter.mpr ⟨zTB_0 i h, hg⟩
theorem zGT_1 {w : Cond} (i : Nat) (h : tables_1_1[i]? = some w) (hg : goodWord w = true) : w ∈ zGT := List.mem_filter.mpr ⟨zTB_1 i h, hg⟩
theorem zGT_2 {w : Cond} (i : Nat) (h : tables_1_2[i]? = some w) (hg : goodWord w = true) : w ∈ zGT := List.mem_filter.mpr ⟨zTB_2 i h, hg⟩
theorem zGT_3 {w : Cond} (i : Nat) (h : tables_1_3[i]? = some w) (hg : goodWord w = true) : w ∈ zGT := List.mem_filter.mpr ⟨zTB_3 i h, hg⟩
theorem zGT_4 {w : Cond} (i : Nat) (h : tables_1_4[i]? = some w) (hg : goodWord w = true) : w ∈ zGT := List.mem_filter.mpr ⟨zTB_4 i h, hg⟩
theorem zGT_sub : ∀ w ∈ zGT, w ∈ lw_tbl := fun _ h => (List.mem_filter.mp h).1
theorem zGT_good : ∀ w ∈ zGT, goodWord w = true := fun _ h => (List.mem_filter.mp h).2
/-- method mi as the tables have it -/
def zMok (mi : Nat) : Prop := Cond.code (zy mi) (zb mi) (zl mi) (zret mi) ∈ zGT ∧ Cond.initialized (zy mi).cls ∈ zGT ∧ plainName (zy mi).cls = true ∧ (zy mi).cls = zR (zown mi) ∧ ((zy mi).cls ≠ "java/lang/invoke/MethodHandle" ∧ (zy mi).cls ≠ "java/lang/invoke/VarHandle" ∧ (parseMethodDescriptor (zy mi).desc).map (fun d => d.parameters.length) = some (zar mi)) ∧ zl mi ≤ 21 ∧ (zkd mi = 0 → Cond.instanceMethod (zy mi) ∈ zGT ∧ Cond.selects (zy mi).cls (zy mi) (zy mi) ∈ zGT) ∧ (zkd mi = 1 → Cond.static (zy mi) ∈ zGT)
/-- a call of class own, entry idx, kind (0: its own or another's public method, 1: a nest mate's) -/
def zCok (q : Nat × Nat × Nat × Nat) : Prop := q.2.2.2 < 138 ∧ (q.2.2.1 = 0 → Cond.methodLink (zR q.1) q.2.1 (zy q.2.2.2) ∈ zGT) ∧ (q.2.2.1 ≠ 0 → q.2.2.1 = 1 ∧ Cond.methodLinkNest (zR q.1) q.2.1 (zy q.2.2.2) "PaleFence" ∈ lw_tbl)
def zFok (q : Nat × Nat × Nat × Nat × Nat) : Prop := (q.2.2.2.1 < 7 ∧ q.2.2.2.2 < zNf q.2.2.2.1 ∧ (zT q.2.2.2.1 q.2.2.2.2).1 = zR q.2.2.2.1) ∧ (q.2.2.1 = 0 → Cond.fieldLink (zR q.1) q.2.1 (zR q.2.2.2.1) (zT q.2.2.2.1 q.2.2.2.2).2.1 (zT q.2.2.2.1 q.2.2.2.2).2.2.1 ∈ zGT) ∧ (q.2.2.1 ≠ 0 → q.2.2.1 = 1 ∧ Cond.fieldLinkNest (zR q.1) q.2.1 (zR q.2.2.2.1) (zT q.2.2.2.1 q.2.2.2.2).2.1 (zT q.2.2.2.1 q.2.2.2.2).2.2.1 "PaleFence" ∈ lw_tbl)
theorem zmok_0 : zMok 0 := ⟨zGT_1 237 rfl rfl, zGT_1 3 rfl rfl, by decide +kernel, rfl, ⟨by decide +kernel, by decide +kernel, by decide +kernel⟩, by decide, fun _ => ⟨zGT_1 236 rfl rfl, zGT_0 12 rfl rfl⟩, fun h => absurd h (by decide)⟩
theorem zmok_1 : zMok 1 := ⟨zGT_1 150 rfl rfl, zGT_1 3 rfl rfl, by decide +kernel, rfl, ⟨by decide +kernel, by decide +kernel, by decide +kernel⟩, by decide, fun _ => ⟨zGT_1 149 rfl rfl, zGT_0 0 rfl rfl⟩, fun h => absurd h (by decide)⟩
theorem zmok_2 : zMok 2 := ⟨zGT_2 207 rfl rfl, zGT_1 3 rfl rfl, by decide +kernel, rfl, ⟨by decide +kernel, by decide +kernel, by decide +kernel⟩, by decide, fun _ => ⟨zGT_2 206 rfl rfl, zGT_0 20 rfl rfl⟩, fun h => absurd h (by decide)⟩
theorem zmok_3 : zMok 3 := ⟨zGT_1 220 rfl rfl, zGT_1 3 rfl rfl, by decide +kernel, rfl, ⟨by decide +kernel, by decide +kernel, by decide +kernel⟩, by decide, fun _ => ⟨zGT_1 219 rfl rfl, zGT_0 10 rfl rfl⟩, fun h => absurd h (by decide)⟩
theorem zmok_4 : zMok 4 := ⟨zGT_1 224 rfl rfl, zGT_1 3 rfl rfl, by decide +kernel, rfl, ⟨by decide +kernel, by decide +kernel, by decide +kernel⟩, by decide, fun _ => ⟨zGT_1 223 rfl rfl, zGT_0 11 rfl rfl⟩, fun h => absurd h (by decide)⟩
theorem zmok_5 : zMok 5 := ⟨zGT_2 202 rfl rfl, zGT_1 3 rfl rfl, by decide +kernel, rfl, ⟨by decide +kernel, by decide +kernel, by decide +kernel⟩, by decide, fun _ => ⟨zGT_2 201 rfl rfl, zGT_0 19 rfl rfl⟩, fun h => absurd h (by decide)⟩
theorem zmok_6 : zMok 6 := ⟨zGT_1 182 rfl rfl, zGT_1 3 rfl rfl, by decide +kernel, rfl, ⟨by decide +kernel, by decide +kernel, by decide +kernel⟩, by decide, fun _ => ⟨zGT_1 181 rfl rfl, zGT_0 5 rfl rfl⟩, fun h => absurd h (by decide)⟩
theorem zmok_7 : zMok 7 := ⟨zGT_1 211 rfl rfl, zGT_1 3 rfl rfl, by decide +kernel, rfl, ⟨by decide +kernel, by decide +kernel, by decide +kernel⟩, by decide, fun _ => ⟨zGT_1 210 rfl rfl, zGT_0 8 rfl rfl⟩, fun h => absurd h (by decide)⟩
theorem zmok_8 : zMok 8 := ⟨zGT_1 174 rfl rfl, zGT_1 4 rfl rfl, by decide +kernel, rfl, ⟨by decide +kernel, by decide +kernel, by decide +kernel⟩, by decide, fun _ => ⟨zGT_1 173 rfl rfl, zGT_0 3 rfl rfl⟩, fun h => absurd h (by decide)⟩
theorem zmok_9 : zMok 9 := ⟨zGT_1 158 rfl rfl, zGT_1 4 rfl rfl, by decide +kernel, rfl, ⟨by decide +kernel, by decide +kernel, by decide +kernel⟩, by decide, fun _ => ⟨zGT_1 157 rfl rfl, zGT_0 1 rfl rfl⟩, fun h => absurd h (by decide)⟩
theorem zmok_10 : zMok 10 := ⟨zGT_1 162 rfl rfl, zGT_1 4 rfl rfl, by decide +kernel, rfl, ⟨by decide +kernel, by decide +kernel, by decide +kernel⟩, by decide, fun _ => ⟨zGT_1 161 rfl rfl, zGT_0 2 rfl rfl⟩, fun h => absurd h (by decide)⟩
theorem zmok_11 : zMok 11 := ⟨zGT_2 182 rfl rfl, zGT_1 4 rfl rfl, by decide +kernel, rfl, ⟨by decide +kernel, by decide +kernel, by decide +kernel⟩, by decide, fun _ => ⟨zGT_2 181 rfl rfl, zGT_0 18 rfl rfl⟩, fun h => absurd h (by decide)⟩
theorem zmok_12 : zMok 12 := ⟨zGT_3 3 rfl rfl, zGT_1 4 rfl rfl, by decide +kernel, rfl, ⟨by decide +kernel, by decide +kernel, by decide +kernel⟩, by decide, fun _ => ⟨zGT_3 2 rfl rfl, zGT_0 22 rfl rfl⟩, fun h => absurd h (by decide)⟩
theorem zmok_13 : zMok 13 := ⟨zGT_1 195 rfl rfl, zGT_1 4 rfl rfl, by decide +kernel, rfl, ⟨by decide +kernel, by decide +kernel, by decide +kernel⟩, by decide, fun _ => ⟨zGT_1 194 rfl rfl, zGT_0 6 rfl rfl⟩, fun h => absurd h (by decide)⟩
theorem zmok_14 : zMok 14 := ⟨zGT_3 38 rfl rfl, zGT_1 4 rfl rfl, by decide +kernel, rfl, ⟨by decide +kernel, by decide +kernel, by decide +kernel⟩, by decide, fun _ => ⟨zGT_3 37 rfl rfl, zGT_0 27 rfl rfl⟩, fun h => absurd h (by decide)⟩
theorem zmok_15 : zMok 15 := ⟨zGT_1 216 rfl rfl, zGT_1 4 rfl rfl, by decide +kernel, rfl, ⟨by decide +kernel, by decide +kernel, by decide +kernel⟩, by decide, fun _ => ⟨zGT_1 215 rfl rfl, zGT_0 9 rfl rfl⟩, fun h => absurd h (by decide)⟩
theorem zmok_16 : zMok 16 := ⟨zGT_2 158 rfl rfl, zGT_1 4 rfl rfl, by decide +kernel, rfl, ⟨by decide +kernel, by decide +kernel, by decide +kernel⟩, by decide, fun _ => ⟨zGT_2 157 rfl rfl, zGT_0 17 rfl rfl⟩, fun h => absurd h (by decide)⟩
theorem zmok_17 : zMok 17 := ⟨zGT_1 199 rfl rfl, zGT_1 4 rfl rfl, by decide +kernel, rfl, ⟨by decide +kernel, by decide +kernel, by decide +kernel⟩, by decide, fun _ => ⟨zGT_1 198 rfl rfl, zGT_0 7 rfl rfl⟩, fun h => absurd h (by decide)⟩
theorem zmok_18 : zMok 18 := ⟨zGT_1 202 rfl rfl, zGT_1 4 rfl rfl, by decide +kernel, rfl, ⟨by decide +kernel, by decide +kernel, by decide +kernel⟩, by decide, fun h => absurd h (by decide), fun _ => zGT_1 201 rfl rfl⟩
theorem zmok_19 : zMok 19 := ⟨zGT_1 206 rfl rfl, zGT_1 4 rfl rfl, by decide +kernel, rfl, ⟨by decide +kernel, by decide +kernel, by decide +kernel⟩, by decide, fun h => absurd h (by decide), fun _ => zGT_1 205 rfl rfl⟩
theorem zmok_20 : zMok 20 := ⟨zGT_3 26 rfl rfl, zGT_1 6 rfl rfl, by decide +kernel, rfl, ⟨by decide +kernel, by decide +kernel, by decide +kernel⟩, by decide, fun _ => ⟨zGT_3 25 rfl rfl, zGT_0 24 rfl rfl⟩, fun h => absurd h (by decide)⟩
theorem zmok_21 : zMok 21 := ⟨zGT_3 34 rfl rfl, zGT_1 6 rfl rfl, by decide +kernel, rfl, ⟨by decide +kernel, by decide +kernel, by decide +kernel⟩, by decide, fun _ => ⟨zGT_3 33 rfl rfl, zGT_0 26 rfl rfl⟩, fun h => absurd h (by decide)⟩
theorem zmok_22 : zMok 22 := ⟨zGT_3 53 rfl rfl, zGT_1 6 rfl rfl, by decide +kernel, rfl, ⟨by decide +kernel, by decide +kernel, by decide +kernel⟩, by decide, fun _ => ⟨zGT_3 52 rfl rfl, zGT_0 28 rfl rfl⟩, fun h => absurd h (by decide)⟩
theorem zmok_23 : zMok 23 := ⟨zGT_3 61 rfl rfl, zGT_1 6 rfl rfl, by decide +kernel, rfl, ⟨by decide +kernel, by decide +kernel, by decide +kernel⟩, by decide, fun _ => ⟨zGT_3 60 rfl rfl, zGT_0 29 rfl rfl⟩, fun h => absurd h (by decide)⟩
theorem zmok_24 : zMok 24 := ⟨zGT_2 238 rfl rfl, zGT_1 2 rfl rfl, by decide +kernel, rfl, ⟨by decide +kernel, by decide +kernel, by decide +kernel⟩, by decide, fun _ => ⟨zGT_2 237 rfl rfl, zGT_0 21 rfl rfl⟩, fun h => absurd h (by decide)⟩
theorem zmok_25 : zMok 25 := ⟨zGT_2 20 rfl rfl, zGT_1 5 rfl rfl, by decide +kernel, rfl, ⟨by decide +kernel, by decide +kernel, by decide +kernel⟩, by decide, fun _ => ⟨zGT_2 19 rfl rfl, zGT_0 15 rfl rfl⟩, fun h => absurd h (by decide)⟩
theorem zmok_26 : zMok 26 := ⟨zGT_2 8 rfl rfl, zGT_1 5 rfl rfl, by decide +kernel, rfl, ⟨by decide +kernel, by decide +kernel, by decide +kernel⟩, by decide, fun _ => ⟨zGT_2 7 rfl rfl, zGT_0 13 rfl rfl⟩, fun h => absurd h (by decide)⟩
theorem zmok_27 : zMok 27 := ⟨zGT_1 146 rfl rfl, zGT_1 1 rfl rfl, by decide +kernel, rfl, ⟨by decide +kernel, by decide +kernel, by decide +kernel⟩, by decide, fun _ => ⟨zGT_1 144 rfl rfl, zGT_1 145 rfl rfl⟩, fun h => absurd h (by decide)⟩
theorem zmok_28 : zMok 28 := ⟨zGT_1 154 rfl rfl, zGT_1 1 rfl rfl, by decide +kernel, rfl, ⟨by decide +kernel, by decide +kernel, by decide +kernel⟩, by decide, fun _ => ⟨zGT_1 152 rfl rfl, zGT_1 153 rfl rfl⟩, fun h => absurd h (by decide)⟩
theorem zmok_29 : zMok 29 := ⟨zGT_1 166 rfl rfl, zGT_1 1 rfl rfl, by decide +kernel, rfl, ⟨by decide +kernel, by decide +kernel, by decide +kernel⟩, by decide, fun _ => ⟨zGT_1 164 rfl rfl, zGT_1 165 rfl rfl⟩, fun h => absurd h (by decide)⟩
theorem zmok_30 : zMok 30 := ⟨zGT_1 170 rfl rfl, zGT_1 1 rfl rfl, by decide +kernel, rfl, ⟨by decide +kernel, by decide +kernel, by decide +kernel⟩, by decide, fun _ => ⟨zGT_1 168 rfl rfl, zGT_1 169 rfl rfl⟩, fun h => absurd h (by decide)⟩
theorem zmok_31 : zMok 31 := ⟨zGT_1 229 rfl rfl, zGT_1 1 rfl rfl, by decide +kernel, rfl, ⟨by decide +kernel, by decide +kernel, by decide +kernel⟩, by decide, fun _ => ⟨zGT_1 227 rfl rfl, zGT_1 228 rfl rfl⟩, fun h => absurd h (by decide)⟩
theorem zmok_32 : zMok 32 := ⟨zGT_1 233 rfl rfl, zGT_1 1 rfl rfl, by decide +kernel, rfl, ⟨by decide +kernel, by decide +kernel, by decide +kernel⟩, by decide, fun _ => ⟨zGT_1 231 rfl rfl, zGT_1 232 rfl rfl⟩, fun h => absurd h (by decide)⟩
theorem zmok_33 : zMok 33 := ⟨zGT_2 1 rfl rfl, zGT_1 1 rfl rfl, by decide +kernel, rfl, ⟨by decide +kernel, by decide +kernel, by decide +kernel⟩, by decide, fun _ => ⟨zGT_1 239 rfl rfl, zGT_2 0 rfl rfl⟩, fun h => absurd h (by decide)⟩
theorem zmok_34 : zMok 34 := ⟨zGT_2 4 rfl rfl, zGT_1 1 rfl rfl, by decide +kernel, rfl, ⟨by decide +kernel, by decide +kernel, by decide +kernel⟩, by decide, fun h => absurd h (by decide), fun _ => zGT_2 3 rfl rfl⟩
theorem zmok_35 : zMok 35 := ⟨zGT_2 12 rfl rfl, zGT_1 1 rfl rfl, by decide +kernel, rfl, ⟨by decide +kernel, by decide +kernel, by decide +kernel⟩, by decide, fun _ => ⟨zGT_2 10 rfl rfl, zGT_2 11 rfl rfl⟩, fun h => absurd h (by decide)⟩
theorem zmok_36 : zMok 36 := ⟨zGT_2 16 rfl rfl, zGT_1 1 rfl rfl, by decide +kernel, rfl, ⟨by decide +kernel, by decide +kernel, by decide +kernel⟩, by decide, fun _ => ⟨zGT_2 15 rfl rfl, zGT_0 14 rfl rfl⟩, fun h => absurd h (by decide)⟩
theorem zmok_37 : zMok 37 := ⟨zGT_2 108 rfl rfl, zGT_1 1 rfl rfl, by decide +kernel, rfl, ⟨by decide +kernel, by decide +kernel, by decide +kernel⟩, by decide, fun _ => ⟨zGT_2 106 rfl rfl, zGT_2 107 rfl rfl⟩, fun h => absurd h (by decide)⟩
theorem zmok_38 : zMok 38 := ⟨zGT_2 112 rfl rfl, zGT_1 1 rfl rfl, by decide +kernel, rfl, ⟨by decide +kernel, by decide +kernel, by decide +kernel⟩, by decide, fun _ => ⟨zGT_2 110 rfl rfl, zGT_2 111 rfl rfl⟩, fun h => absurd h (by decide)⟩
theorem zmok_39 : zMok 39 := ⟨zGT_2 117 rfl rfl, zGT_1 1 rfl rfl, by decide +kernel, rfl, ⟨by decide +kernel, by decide +kernel, by decide +kernel⟩, by decide, fun _ => ⟨zGT_2 115 rfl rfl, zGT_2 116 rfl rfl⟩, fun h => absurd h (by decide)⟩
theorem zmok_40 : zMok 40 := ⟨zGT_1 178 rfl rfl, zGT_1 1 rfl rfl, by decide +kernel, rfl, ⟨by decide +kernel, by decide +kernel, by decide +kernel⟩, by decide, fun _ => ⟨zGT_1 177 rfl rfl, zGT_0 4 rfl rfl⟩, fun h => absurd h (by decide)⟩
theorem zmok_41 : zMok 41 := ⟨zGT_2 121 rfl rfl, zGT_1 1 rfl rfl, by decide +kernel, rfl, ⟨by decide +kernel, by decide +kernel, by decide +kernel⟩, by decide, fun _ => ⟨zGT_2 119 rfl rfl, zGT_2 120 rfl rfl⟩, fun h => absurd h (by decide)⟩
theorem zmok_42 : zMok 42 := ⟨zGT_2 131 rfl rfl, zGT_1 1 rfl rfl, by decide +kernel, rfl, ⟨by decide +kernel, by decide +kernel, by decide +kernel⟩, by decide, fun _ => ⟨zGT_2 129 rfl rfl, zGT_2 130 rfl rfl⟩, fun h => absurd h (by decide)⟩
theorem zmok_43 : zMok 43 := ⟨zGT_2 142 rfl rfl, zGT_1 1 rfl rfl, by decide +kernel, rfl, ⟨by decide +kernel, by decide +kernel, by decide +kernel⟩, by decide, fun _ => ⟨zGT_2 140 rfl rfl, zGT_2 141 rfl rfl⟩, fun h => absurd h (by decide)⟩
theorem zmok_44 : zMok 44 := ⟨zGT_2 135 rfl rfl, zGT_1 1 rfl rfl, by decide +kernel, rfl, ⟨by decide +kernel, by decide +kernel, by decide +kernel⟩, by decide, fun _ => ⟨zGT_2 134 rfl rfl, zGT_0 16 rfl rfl⟩, fun h => absurd h (by decide)⟩
theorem zmok_45 : zMok 45 := ⟨zGT_2 138 rfl rfl, zGT_1 1 rfl rfl, by decide +kernel, rfl, ⟨by decide +kernel, by decide +kernel, by decide +kernel⟩, by decide, fun h => absurd h (by decide), fun _ => zGT_2 137 rfl rfl⟩
theorem zmok_46 : zMok 46 := ⟨zGT_2 146 rfl rfl, zGT_1 1 rfl rfl, by decide +kernel, rfl, ⟨by decide +kernel, by decide +kernel, by decide +kernel⟩, by decide, fun _ => ⟨zGT_2 144 rfl rfl, zGT_2 145 rfl rfl⟩, fun h => absurd h (by decide)⟩
theorem zmok_47 : zMok 47 := ⟨zGT_2 151 rfl rfl, zGT_1 1 rfl rfl, by decide +kernel, rfl, ⟨by decide +kernel, by decide +kernel, by decide +kernel⟩, by decide, fun _ => ⟨zGT_2 149 rfl rfl, zGT_2 150 rfl rfl⟩, fun h => absurd h (by decide)⟩
theorem zmok_48 : zMok 48 := ⟨zGT_2 164 rfl rfl, zGT_1 1 rfl rfl, by decide +kernel, rfl, ⟨by decide +kernel, by decide +kernel, by decide +kernel⟩, by decide, fun _ => ⟨zGT_2 162 rfl rfl, zGT_2 163 rfl rfl⟩, fun h => absurd h (by decide)⟩
theorem zmok_49 : zMok 49 := ⟨zGT_2 154 rfl rfl, zGT_1 1 rfl rfl, by decide +kernel, rfl, ⟨by decide +kernel, by decide +kernel, by decide +kernel⟩, by decide, fun h => absurd h (by decide), fun _ => zGT_2 153 rfl rfl⟩
theorem zmok_50 : zMok 50 := ⟨zGT_2 168 rfl rfl, zGT_1 1 rfl rfl, by decide +kernel, rfl, ⟨by decide +kernel, by decide +kernel, by decide +kernel⟩, by decide, fun _ => ⟨zGT_2 166 rfl rfl, zGT_2 167 rfl rfl⟩, fun h => absurd h (by decide)⟩
theorem zmok_51 : zMok 51 := ⟨zGT_2 171 rfl rfl, zGT_1 1 rfl rfl, by decide +kernel, rfl, ⟨by decide +kernel, by decide +kernel, by decide +kernel⟩, by decide, fun h => absurd h (by decide), fun _ => zGT_2 170 rfl rfl⟩
theorem zmok_52 : zMok 52 := ⟨zGT_2 175 rfl rfl, zGT_1 1 rfl rfl, by decide +kernel, rfl, ⟨by decide +kernel, by decide +kernel, by decide +kernel⟩, by decide, fun _ => ⟨zGT_2 173 rfl rfl, zGT_2 174 rfl rfl⟩, fun h => absurd h (by decide)⟩
theorem zmok_53 : zMok 53 := ⟨zGT_2 178 rfl rfl, zGT_1 1 rfl rfl, by decide +kernel, rfl, ⟨by decide +kernel, by decide +kernel, by decide +kernel⟩, by decide, fun h => absurd h (by decide), fun _ => zGT_2 177 rfl rfl⟩
theorem zmok_54 : zMok 54 := ⟨zGT_2 188 rfl rfl, zGT_1 1 rfl rfl, by decide +kernel, rfl, ⟨by decide +kernel, by decide +kernel, by decide +kernel⟩, by decide, fun _ => ⟨zGT_2 186 rfl rfl, zGT_2 187 rfl rfl⟩, fun h => absurd h (by decide)⟩
theorem zmok_55 : zMok 55 := ⟨zGT_2 191 rfl rfl, zGT_1 1 rfl rfl, by decide +kernel, rfl, ⟨by decide +kernel, by decide +kernel, by decide +kernel⟩, by decide, fun h => absurd h (by decide), fun _ => zGT_2 190 rfl rfl⟩
theorem zmok_56 : zMok 56 := ⟨zGT_2 194 rfl rfl, zGT_1 1 rfl rfl, by decide +kernel, rfl, ⟨by decide +kernel, by decide +kernel, by decide +kernel⟩, by decide, fun h => absurd h (by decide), fun _ => zGT_2 193 rfl rfl⟩
theorem zmok_57 : zMok 57 := ⟨zGT_2 198 rfl rfl, zGT_1 1 rfl rfl, by decide +kernel, rfl, ⟨by decide +kernel, by decide +kernel, by decide +kernel⟩, by decide, fun _ => ⟨zGT_2 196 rfl rfl, zGT_2 197 rfl rfl⟩, fun h => absurd h (by decide)⟩
theorem zmok_58 : zMok 58 := ⟨zGT_2 211 rfl rfl, zGT_1 1 rfl rfl, by decide +kernel, rfl, ⟨by decide +kernel, by decide +kernel, by decide +kernel⟩, by decide, fun _ => ⟨zGT_2 209 rfl rfl, zGT_2 210 rfl rfl⟩, fun h => absurd h (by decide)⟩
theorem zmok_59 : zMok 59 := ⟨zGT_2 216 rfl rfl, zGT_1 1 rfl rfl, by decide +kernel, rfl, ⟨by decide +kernel, by decide +kernel, by decide +kernel⟩, by decide, fun _ => ⟨zGT_2 214 rfl rfl, zGT_2 215 rfl rfl⟩, fun h => absurd h (by decide)⟩
theorem zmok_60 : zMok 60 := ⟨zGT_2 220 rfl rfl, zGT_1 1 rfl rfl, by decide +kernel, rfl, ⟨by decide +kernel, by decide +kernel, by decide +kernel⟩, by decide, fun _ => ⟨zGT_2 218 rfl rfl, zGT_2 219 rfl rfl⟩, fun h => absurd h (by decide)⟩
theorem zmok_61 : zMok 61 := ⟨zGT_2 226 rfl rfl, zGT_1 1 rfl rfl, by decide +kernel, rfl, ⟨by decide +kernel, by decide +kernel, by decide +kernel⟩, by decide, fun h => absurd h (by decide), fun _ => zGT_2 225 rfl rfl⟩
theorem zmok_62 : zMok 62 := ⟨zGT_2 230 rfl rfl, zGT_1 1 rfl rfl, by decide +kernel, rfl, ⟨by decide +kernel, by decide +kernel, by decide +kernel⟩, by decide, fun _ => ⟨zGT_2 228 rfl rfl, zGT_2 229 rfl rfl⟩, fun h => absurd h (by decide)⟩
theorem zmok_63 : zMok 63 := ⟨zGT_2 234 rfl rfl, zGT_1 1 rfl rfl, by decide +kernel, rfl, ⟨by decide +kernel, by decide +kernel, by decide +kernel⟩, by decide, fun _ => ⟨zGT_2 232 rfl rfl, zGT_2 233 rfl rfl⟩, fun h => absurd h (by decide)⟩
theorem zmok_64 : zMok 64 := ⟨zGT_3 8 rfl rfl, zGT_1 1 rfl rfl, by decide +kernel, rfl, ⟨by decide +kernel, by decide +kernel, by decide +kernel⟩, by decide, fun _ => ⟨zGT_3 6 rfl rfl, zGT_3 7 rfl rfl⟩, fun h => absurd h (by decide)⟩
theorem zmok_65 : zMok 65 := ⟨zGT_3 12 rfl rfl, zGT_1 1 rfl rfl, by decide +kernel, rfl, ⟨by decide +kernel, by decide +kernel, by decide +kernel⟩, by decide, fun _ => ⟨zGT_3 10 rfl rfl, zGT_3 11 rfl rfl⟩, fun h => absurd h (by decide)⟩
theorem zmok_66 : zMok 66 := ⟨zGT_3 30 rfl rfl, zGT_1 1 rfl rfl, by decide +kernel, rfl, ⟨by decide +kernel, by decide +kernel, by decide +kernel⟩, by decide, fun _ => ⟨zGT_3 29 rfl rfl, zGT_0 25 rfl rfl⟩, fun h => absurd h (by decide)⟩
theorem zmok_67 : zMok 67 := ⟨zGT_3 41 rfl rfl, zGT_1 1 rfl rfl, by decide +kernel, rfl, ⟨by decide +kernel, by decide +kernel, by decide +kernel⟩, by decide, fun h => absurd h (by decide), fun _ => zGT_3 40 rfl rfl⟩
theorem zmok_68 : zMok 68 := ⟨zGT_3 45 rfl rfl, zGT_1 1 rfl rfl, by decide +kernel, rfl, ⟨by decide +kernel, by decide +kernel, by decide +kernel⟩, by decide, fun _ => ⟨zGT_3 43 rfl rfl, zGT_3 44 rfl rfl⟩, fun h => absurd h (by decide)⟩
theorem zmok_69 : zMok 69 := ⟨zGT_3 49 rfl rfl, zGT_1 1 rfl rfl, by decide +kernel, rfl, ⟨by decide +kernel, by decide +kernel, by decide +kernel⟩, by decide, fun _ => ⟨zGT_3 47 rfl rfl, zGT_3 48 rfl rfl⟩, fun h => absurd h (by decide)⟩
theorem zmok_70 : zMok 70 := ⟨zGT_3 57 rfl rfl, zGT_1 1 rfl rfl, by decide +kernel, rfl, ⟨by decide +kernel, by decide +kernel, by decide +kernel⟩, by decide, fun _ => ⟨zGT_3 55 rfl rfl, zGT_3 56 rfl rfl⟩, fun h => absurd h (by decide)⟩
theorem zmok_71 : zMok 71 := ⟨zGT_3 65 rfl rfl, zGT_1 1 rfl rfl, by decide +kernel, rfl, ⟨by decide +kernel, by decide +kernel, by decide +kernel⟩, by decide, fun _ => ⟨zGT_3 63 rfl rfl, zGT_3 64 rfl rfl⟩, fun h => absurd h (by decide)⟩
theorem zmok_72 : zMok 72 := ⟨zGT_3 69 rfl rfl, zGT_1 1 rfl rfl, by decide +kernel, rfl, ⟨by decide +kernel, by decide +kernel, by decide +kernel⟩, by decide, fun _ => ⟨zGT_3 67 rfl rfl, zGT_3 68 rfl rfl⟩, fun h => absurd h (by decide)⟩
theorem zmok_73 : zMok 73 := ⟨zGT_3 73 rfl rfl, zGT_1 1 rfl rfl, by decide +kernel, rfl, ⟨by decide +kernel, by decide +kernel, by decide +kernel⟩, by decide, fun _ => ⟨zGT_3 71 rfl rfl, zGT_3 72 rfl rfl⟩, fun h => absurd h (by decide)⟩
theorem zmok_74 : zMok 74 := ⟨zGT_3 19 rfl rfl, zGT_1 1 rfl rfl, by decide +kernel, rfl, ⟨by decide +kernel, by decide +kernel, by decide +kernel⟩, by decide, fun h => absurd h (by decide), fun _ => zGT_3 18 rfl rfl⟩
theorem zmok_75 : zMok 75 := ⟨zGT_3 16 rfl rfl, zGT_1 1 rfl rfl, by decide +kernel, rfl, ⟨by decide +kernel, by decide +kernel, by decide +kernel⟩, by decide, fun _ => ⟨zGT_3 15 rfl rfl, zGT_0 23 rfl rfl⟩, fun h => absurd h (by decide)⟩
theorem zmok_76 : zMok 76 := ⟨zGT_3 22 rfl rfl, zGT_1 1 rfl rfl, by decide +kernel, rfl, ⟨by decide +kernel, by decide +kernel, by decide +kernel⟩, by decide, fun h => absurd h (by decide), fun _ => zGT_3 21 rfl rfl⟩
theorem zmok_77 : zMok 77 := ⟨zGT_3 136 rfl rfl, zGT_1 7 rfl rfl, by decide +kernel, rfl, ⟨by decide +kernel, by decide +kernel, by decide +kernel⟩, by decide, fun h => absurd h (by decide), fun _ => zGT_3 135 rfl rfl⟩
theorem zmok_78 : zMok 78 := ⟨zGT_3 140 rfl rfl, zGT_1 7 rfl rfl, by decide +kernel, rfl, ⟨by decide +kernel, by decide +kernel, by decide +kernel⟩, by decide, fun _ => ⟨zGT_3 139 rfl rfl, zGT_0 30 rfl rfl⟩, fun h => absurd h (by decide)⟩
theorem zmok_79 : zMok 79 := ⟨zGT_3 175 rfl rfl, zGT_1 7 rfl rfl, by decide +kernel, rfl, ⟨by decide +kernel, by decide +kernel, by decide +kernel⟩, by decide, fun _ => ⟨zGT_3 174 rfl rfl, zGT_0 35 rfl rfl⟩, fun h => absurd h (by decide)⟩
theorem zmok_80 : zMok 80 := ⟨zGT_3 171 rfl rfl, zGT_1 7 rfl rfl, by decide +kernel, rfl, ⟨by decide +kernel, by decide +kernel, by decide +kernel⟩, by decide, fun _ => ⟨zGT_3 170 rfl rfl, zGT_0 34 rfl rfl⟩, fun h => absurd h (by decide)⟩
theorem zmok_81 : zMok 81 := ⟨zGT_3 167 rfl rfl, zGT_1 7 rfl rfl, by decide +kernel, rfl, ⟨by decide +kernel, by decide +kernel, by decide +kernel⟩, by decide, fun _ => ⟨zGT_3 166 rfl rfl, zGT_0 33 rfl rfl⟩, fun h => absurd h (by decide)⟩
theorem zmok_82 : zMok 82 := ⟨zGT_3 163 rfl rfl, zGT_1 7 rfl rfl, by decide +kernel, rfl, ⟨by decide +kernel, by decide +kernel, by decide +kernel⟩, by decide, fun _ => ⟨zGT_3 162 rfl rfl, zGT_0 32 rfl rfl⟩, fun h => absurd h (by decide)⟩
theorem zmok_83 : zMok 83 := ⟨zGT_3 220 rfl rfl, zGT_1 7 rfl rfl, by decide +kernel, rfl, ⟨by decide +kernel, by decide +kernel, by decide +kernel⟩, by decide, fun _ => ⟨zGT_3 219 rfl rfl, zGT_0 37 rfl rfl⟩, fun h => absurd h (by decide)⟩
theorem zmok_84 : zMok 84 := ⟨zGT_3 227 rfl rfl, zGT_1 7 rfl rfl, by decide +kernel, rfl, ⟨by decide +kernel, by decide +kernel, by decide +kernel⟩, by decide, fun h => absurd h (by decide), fun _ => zGT_3 226 rfl rfl⟩
theorem zmok_85 : zMok 85 := ⟨zGT_3 188 rfl rfl, zGT_1 7 rfl rfl, by decide +kernel, rfl, ⟨by decide +kernel, by decide +kernel, by decide +kernel⟩, by decide, fun _ => ⟨zGT_3 187 rfl rfl, zGT_0 36 rfl rfl⟩, fun h => absurd h (by decide)⟩
theorem zmok_86 : zMok 86 := ⟨zGT_3 159 rfl rfl, zGT_1 7 rfl rfl, by decide +kernel, rfl, ⟨by decide +kernel, by decide +kernel, by decide +kernel⟩, by decide, fun _ => ⟨zGT_3 158 rfl rfl, zGT_0 31 rfl rfl⟩, fun h => absurd h (by decide)⟩
theorem zmok_87 : zMok 87 := ⟨zGT_3 131 rfl rfl, zGT_1 7 rfl rfl, by decide +kernel, rfl, ⟨by decide +kernel, by decide +kernel, by decide +kernel⟩, by decide, fun _ => ⟨zGT_3 129 rfl rfl, zGT_3 130 rfl rfl⟩, fun h => absurd h (by decide)⟩
theorem zmok_88 : zMok 88 := ⟨zGT_3 144 rfl rfl, zGT_1 7 rfl rfl, by decide +kernel, rfl, ⟨by decide +kernel, by decide +kernel, by decide +kernel⟩, by decide, fun _ => ⟨zGT_3 142 rfl rfl, zGT_3 143 rfl rfl⟩, fun h => absurd h (by decide)⟩
theorem zmok_89 : zMok 89 := ⟨zGT_3 150 rfl rfl, zGT_1 7 rfl rfl, by decide +kernel, rfl, ⟨by decide +kernel, by decide +kernel, by decide +kernel⟩, by decide, fun _ => ⟨zGT_3 148 rfl rfl, zGT_3 149 rfl rfl⟩, fun h => absurd h (by decide)⟩
theorem zmok_90 : zMok 90 := ⟨zGT_3 155 rfl rfl, zGT_1 7 rfl rfl, by decide +kernel, rfl, ⟨by decide +kernel, by decide +kernel, by decide +kernel⟩, by decide, fun _ => ⟨zGT_3 153 rfl rfl, zGT_3 154 rfl rfl⟩, fun h => absurd h (by decide)⟩
theorem zmok_91 : zMok 91 := ⟨zGT_3 179 rfl rfl, zGT_1 7 rfl rfl, by decide +kernel, rfl, ⟨by decide +kernel, by decide +kernel, by decide +kernel⟩, by decide, fun _ => ⟨zGT_3 177 rfl rfl, zGT_3 178 rfl rfl⟩, fun h => absurd h (by decide)⟩
theorem zmok_92 : zMok 92 := ⟨zGT_3 184 rfl rfl, zGT_1 7 rfl rfl, by decide +kernel, rfl, ⟨by decide +kernel, by decide +kernel, by decide +kernel⟩, by decide, fun _ => ⟨zGT_3 182 rfl rfl, zGT_3 183 rfl rfl⟩, fun h => absurd h (by decide)⟩
theorem zmok_93 : zMok 93 := ⟨zGT_3 192 rfl rfl, zGT_1 7 rfl rfl, by decide +kernel, rfl, ⟨by decide +kernel, by decide +kernel, by decide +kernel⟩, by decide, fun _ => ⟨zGT_3 190 rfl rfl, zGT_3 191 rfl rfl⟩, fun h => absurd h (by decide)⟩
theorem zmok_94 : zMok 94 := ⟨zGT_3 203 rfl rfl, zGT_1 7 rfl rfl, by decide +kernel, rfl, ⟨by decide +kernel, by decide +kernel, by decide +kernel⟩, by decide, fun h => absurd h (by decide), fun _ => zGT_3 202 rfl rfl⟩
theorem zmok_95 : zMok 95 := ⟨zGT_3 200 rfl rfl, zGT_1 7 rfl rfl, by decide +kernel, rfl, ⟨by decide +kernel, by decide +kernel, by decide +kernel⟩, by decide, fun _ => ⟨zGT_3 198 rfl rfl, zGT_3 199 rfl rfl⟩, fun h => absurd h (by decide)⟩
theorem zmok_96 : zMok 96 := ⟨zGT_3 207 rfl rfl, zGT_1 7 rfl rfl, by decide +kernel, rfl, ⟨by decide +kernel, by decide +kernel, by decide +kernel⟩, by decide, fun _ => ⟨zGT_3 205 rfl rfl, zGT_3 206 rfl rfl⟩, fun h => absurd h (by decide)⟩
theorem zmok_97 : zMok 97 := ⟨zGT_3 212 rfl rfl, zGT_1 7 rfl rfl, by decide +kernel, rfl, ⟨by decide +kernel, by decide +kernel, by decide +kernel⟩, by decide, fun _ => ⟨zGT_3 210 rfl rfl, zGT_3 211 rfl rfl⟩, fun h => absurd h (by decide)⟩
theorem zmok_98 : zMok 98 := ⟨zGT_3 216 rfl rfl, zGT_1 7 rfl rfl, by decide +kernel, rfl, ⟨by decide +kernel, by decide +kernel, by decide +kernel⟩, by decide, fun _ => ⟨zGT_3 214 rfl rfl, zGT_3 215 rfl rfl⟩, fun h => absurd h (by decide)⟩
theorem zmok_99 : zMok 99 := ⟨zGT_3 224 rfl rfl, zGT_1 7 rfl rfl, by decide +kernel, rfl, ⟨by decide +kernel, by decide +kernel, by decide +kernel⟩, by decide, fun _ => ⟨zGT_3 222 rfl rfl, zGT_3 223 rfl rfl⟩, fun h => absurd h (by decide)⟩
theorem zmok_100 : zMok 100 := ⟨zGT_3 236 rfl rfl, zGT_1 7 rfl rfl, by decide +kernel, rfl, ⟨by decide +kernel, by decide +kernel, by decide +kernel⟩, by decide, fun _ => ⟨zGT_3 235 rfl rfl, zGT_0 38 rfl rfl⟩, fun h => absurd h (by decide)⟩
theorem zmok_101 : zMok 101 := ⟨zGT_3 231 rfl rfl, zGT_1 7 rfl rfl, by decide +kernel, rfl, ⟨by decide +kernel, by decide +kernel, by decide +kernel⟩, by decide, fun _ => ⟨zGT_3 229 rfl rfl, zGT_3 230 rfl rfl⟩, fun h => absurd h (by decide)⟩
theorem zmok_102 : zMok 102 := ⟨zGT_4 0 rfl rfl, zGT_1 7 rfl rfl, by decide +kernel, rfl, ⟨by decide +kernel, by decide +kernel, by decide +kernel⟩, by decide, fun _ => ⟨zGT_3 238 rfl rfl, zGT_3 239 rfl rfl⟩, fun h => absurd h (by decide)⟩
theorem zmok_103 : zMok 103 := ⟨zGT_4 4 rfl rfl, zGT_1 7 rfl rfl, by decide +kernel, rfl, ⟨by decide +kernel, by decide +kernel, by decide +kernel⟩, by decide, fun _ => ⟨zGT_4 2 rfl rfl, zGT_4 3 rfl rfl⟩, fun h => absurd h (by decide)⟩
theorem zmok_104 : zMok 104 := ⟨zGT_4 13 rfl rfl, zGT_1 7 rfl rfl, by decide +kernel, rfl, ⟨by decide +kernel, by decide +kernel, by decide +kernel⟩, by decide, fun _ => ⟨zGT_4 12 rfl rfl, zGT_0 39 rfl rfl⟩, fun h => absurd h (by decide)⟩
theorem zmok_105 : zMok 105 := ⟨zGT_4 9 rfl rfl, zGT_1 7 rfl rfl, by decide +kernel, rfl, ⟨by decide +kernel, by decide +kernel, by decide +kernel⟩, by decide, fun _ => ⟨zGT_4 7 rfl rfl, zGT_4 8 rfl rfl⟩, fun h => absurd h (by decide)⟩
theorem zmok_106 : zMok 106 := ⟨zGT_4 21 rfl rfl, zGT_1 7 rfl rfl, by decide +kernel, rfl, ⟨by decide +kernel, by decide +kernel, by decide +kernel⟩, by decide, fun _ => ⟨zGT_4 20 rfl rfl, zGT_0 40 rfl rfl⟩, fun h => absurd h (by decide)⟩
theorem zmok_107 : zMok 107 := ⟨zGT_4 17 rfl rfl, zGT_1 7 rfl rfl, by decide +kernel, rfl, ⟨by decide +kernel, by decide +kernel, by decide +kernel⟩, by decide, fun _ => ⟨zGT_4 15 rfl rfl, zGT_4 16 rfl rfl⟩, fun h => absurd h (by decide)⟩
theorem zmok_108 : zMok 108 := ⟨zGT_4 25 rfl rfl, zGT_1 7 rfl rfl, by decide +kernel, rfl, ⟨by decide +kernel, by decide +kernel, by decide +kernel⟩, by decide, fun _ => ⟨zGT_4 23 rfl rfl, zGT_4 24 rfl rfl⟩, fun h => absurd h (by decide)⟩
theorem zmok_109 : zMok 109 := ⟨zGT_4 29 rfl rfl, zGT_1 7 rfl rfl, by decide +kernel, rfl, ⟨by decide +kernel, by decide +kernel, by decide +kernel⟩, by decide, fun _ => ⟨zGT_4 27 rfl rfl, zGT_4 28 rfl rfl⟩, fun h => absurd h (by decide)⟩
theorem zmok_110 : zMok 110 := ⟨zGT_4 38 rfl rfl, zGT_1 7 rfl rfl, by decide +kernel, rfl, ⟨by decide +kernel, by decide +kernel, by decide +kernel⟩, by decide, fun _ => ⟨zGT_4 37 rfl rfl, zGT_0 41 rfl rfl⟩, fun h => absurd h (by decide)⟩
theorem zmok_111 : zMok 111 := ⟨zGT_4 34 rfl rfl, zGT_1 7 rfl rfl, by decide +kernel, rfl, ⟨by decide +kernel, by decide +kernel, by decide +kernel⟩, by decide, fun _ => ⟨zGT_4 32 rfl rfl, zGT_4 33 rfl rfl⟩, fun h => absurd h (by decide)⟩
theorem zmok_112 : zMok 112 := ⟨zGT_4 42 rfl rfl, zGT_1 7 rfl rfl, by decide +kernel, rfl, ⟨by decide +kernel, by decide +kernel, by decide +kernel⟩, by decide, fun _ => ⟨zGT_4 40 rfl rfl, zGT_4 41 rfl rfl⟩, fun h => absurd h (by decide)⟩
theorem zmok_113 : zMok 113 := ⟨zGT_4 46 rfl rfl, zGT_1 7 rfl rfl, by decide +kernel, rfl, ⟨by decide +kernel, by decide +kernel, by decide +kernel⟩, by decide, fun _ => ⟨zGT_4 44 rfl rfl, zGT_4 45 rfl rfl⟩, fun h => absurd h (by decide)⟩
theorem zmok_114 : zMok 114 := ⟨zGT_4 50 rfl rfl, zGT_1 7 rfl rfl, by decide +kernel, rfl, ⟨by decide +kernel, by decide +kernel, by decide +kernel⟩, by decide, fun _ => ⟨zGT_4 48 rfl rfl, zGT_4 49 rfl rfl⟩, fun h => absurd h (by decide)⟩
theorem zmok_115 : zMok 115 := ⟨zGT_4 54 rfl rfl, zGT_1 7 rfl rfl, by decide +kernel, rfl, ⟨by decide +kernel, by decide +kernel, by decide +kernel⟩, by decide, fun _ => ⟨zGT_4 52 rfl rfl, zGT_4 53 rfl rfl⟩, fun h => absurd h (by decide)⟩
theorem zmok_116 : zMok 116 := ⟨zGT_4 63 rfl rfl, zGT_1 7 rfl rfl, by decide +kernel, rfl, ⟨by decide +kernel, by decide +kernel, by decide +kernel⟩, by decide, fun _ => ⟨zGT_4 61 rfl rfl, zGT_4 62 rfl rfl⟩, fun h => absurd h (by decide)⟩
theorem zmok_117 : zMok 117 := ⟨zGT_4 67 rfl rfl, zGT_1 7 rfl rfl, by decide +kernel, rfl, ⟨by decide +kernel, by decide +kernel, by decide +kernel⟩, by decide, fun _ => ⟨zGT_4 65 rfl rfl, zGT_4 66 rfl rfl⟩, fun h => absurd h (by decide)⟩
theorem zmok_118 : zMok 118 := ⟨zGT_4 71 rfl rfl, zGT_1 7 rfl rfl, by decide +kernel, rfl, ⟨by decide +kernel, by decide +kernel, by decide +kernel⟩, by decide, fun _ => ⟨zGT_4 69 rfl rfl, zGT_4 70 rfl rfl⟩, fun h => absurd h (by decide)⟩
theorem zmok_119 : zMok 119 := ⟨zGT_4 78 rfl rfl, zGT_1 7 rfl rfl, by decide +kernel, rfl, ⟨by decide +kernel, by decide +kernel, by decide +kernel⟩, by decide, fun h => absurd h (by decide), fun _ => zGT_4 77 rfl rfl⟩
theorem zmok_120 : zMok 120 := ⟨zGT_4 82 rfl rfl, zGT_1 7 rfl rfl, by decide +kernel, rfl, ⟨by decide +kernel, by decide +kernel, by decide +kernel⟩, by decide, fun _ => ⟨zGT_4 81 rfl rfl, zGT_0 42 rfl rfl⟩, fun h => absurd h (by decide)⟩
theorem zmok_121 : zMok 121 := ⟨zGT_4 86 rfl rfl, zGT_1 7 rfl rfl, by decide +kernel, rfl, ⟨by decide +kernel, by decide +kernel, by decide +kernel⟩, by decide, fun _ => ⟨zGT_4 85 rfl rfl, zGT_0 43 rfl rfl⟩, fun h => absurd h (by decide)⟩
theorem zmok_122 : zMok 122 := ⟨zGT_4 75 rfl rfl, zGT_1 7 rfl rfl, by decide +kernel, rfl, ⟨by decide +kernel, by decide +kernel, by decide +kernel⟩, by decide, fun _ => ⟨zGT_4 73 rfl rfl, zGT_4 74 rfl rfl⟩, fun h => absurd h (by decide)⟩
theorem zmok_123 : zMok 123 := ⟨zGT_4 90 rfl rfl, zGT_1 7 rfl rfl, by decide +kernel, rfl, ⟨by decide +kernel, by decide +kernel, by decide +kernel⟩, by decide, fun _ => ⟨zGT_4 88 rfl rfl, zGT_4 89 rfl rfl⟩, fun h => absurd h (by decide)⟩
theorem zmok_124 : zMok 124 := ⟨zGT_4 94 rfl rfl, zGT_1 7 rfl rfl, by decide +kernel, rfl, ⟨by decide +kernel, by decide +kernel, by decide +kernel⟩, by decide, fun _ => ⟨zGT_4 92 rfl rfl, zGT_4 93 rfl rfl⟩, fun h => absurd h (by decide)⟩
theorem zmok_125 : zMok 125 := ⟨zGT_4 98 rfl rfl, zGT_1 7 rfl rfl, by decide +kernel, rfl, ⟨by decide +kernel, by decide +kernel, by decide +kernel⟩, by decide, fun _ => ⟨zGT_4 96 rfl rfl, zGT_4 97 rfl rfl⟩, fun h => absurd h (by decide)⟩
theorem zmok_126 : zMok 126 := ⟨zGT_4 102 rfl rfl, zGT_1 7 rfl rfl, by decide +kernel, rfl, ⟨by decide +kernel, by decide +kernel, by decide +kernel⟩, by decide, fun _ => ⟨zGT_4 100 rfl rfl, zGT_4 101 rfl rfl⟩, fun h => absurd h (by decide)⟩
theorem zmok_127 : zMok 127 := ⟨zGT_4 106 rfl rfl, zGT_1 7 rfl rfl, by decide +kernel, rfl, ⟨by decide +kernel, by decide +kernel, by decide +kernel⟩, by decide, fun _ => ⟨zGT_4 104 rfl rfl, zGT_4 105 rfl rfl⟩, fun h => absurd h (by decide)⟩
theorem zmok_128 : zMok 128 := ⟨zGT_4 110 rfl rfl, zGT_1 7 rfl rfl, by decide +kernel, rfl, ⟨by decide +kernel, by decide +kernel, by decide +kernel⟩, by decide, fun _ => ⟨zGT_4 108 rfl rfl, zGT_4 109 rfl rfl⟩, fun h => absurd h (by decide)⟩
theorem zmok_129 : zMok 129 := ⟨zGT_2 39 rfl rfl, zGT_1 10 rfl rfl, by decide +kernel, rfl, ⟨by decide +kernel, by decide +kernel, by decide +kernel⟩, by decide, fun _ => ⟨zGT_2 37 rfl rfl, zGT_2 38 rfl rfl⟩, fun h => absurd h (by decide)⟩
theorem zmok_130 : zMok 130 := ⟨zGT_2 25 rfl rfl, zGT_1 10 rfl rfl, by decide +kernel, rfl, ⟨by decide +kernel, by decide +kernel, by decide +kernel⟩, by decide, fun _ => ⟨zGT_2 23 rfl rfl, zGT_2 24 rfl rfl⟩, fun h => absurd h (by decide)⟩
theorem zmok_131 : zMok 131 := ⟨zGT_2 29 rfl rfl, zGT_1 10 rfl rfl, by decide +kernel, rfl, ⟨by decide +kernel, by decide +kernel, by decide +kernel⟩, by decide, fun _ => ⟨zGT_2 27 rfl rfl, zGT_2 28 rfl rfl⟩, fun h => absurd h (by decide)⟩
theorem zmok_132 : zMok 132 := ⟨zGT_2 43 rfl rfl, zGT_1 10 rfl rfl, by decide +kernel, rfl, ⟨by decide +kernel, by decide +kernel, by decide +kernel⟩, by decide, fun _ => ⟨zGT_2 41 rfl rfl, zGT_2 42 rfl rfl⟩, fun h => absurd h (by decide)⟩
theorem zmok_133 : zMok 133 := ⟨zGT_2 33 rfl rfl, zGT_1 10 rfl rfl, by decide +kernel, rfl, ⟨by decide +kernel, by decide +kernel, by decide +kernel⟩, by decide, fun _ => ⟨zGT_2 31 rfl rfl, zGT_2 32 rfl rfl⟩, fun h => absurd h (by decide)⟩
theorem zmok_134 : zMok 134 := ⟨zGT_2 49 rfl rfl, zGT_1 11 rfl rfl, by decide +kernel, rfl, ⟨by decide +kernel, by decide +kernel, by decide +kernel⟩, by decide, fun h => absurd h (by decide), fun _ => zGT_2 48 rfl rfl⟩
theorem zmok_135 : zMok 135 := ⟨zGT_2 46 rfl rfl, zGT_1 11 rfl rfl, by decide +kernel, rfl, ⟨by decide +kernel, by decide +kernel, by decide +kernel⟩, by decide, fun h => absurd h (by decide), fun _ => zGT_2 45 rfl rfl⟩
theorem zmok_136 : zMok 136 := ⟨zGT_2 54 rfl rfl, zGT_1 11 rfl rfl, by decide +kernel, rfl, ⟨by decide +kernel, by decide +kernel, by decide +kernel⟩, by decide, fun h => absurd h (by decide), fun _ => zGT_2 53 rfl rfl⟩
theorem zmok_137 : zMok 137 := ⟨zGT_2 124 rfl rfl, zGT_1 15 rfl rfl, by decide +kernel, rfl, ⟨by decide +kernel, by decide +kernel, by decide +kernel⟩, by decide, fun h => absurd h (by decide), fun _ => zGT_2 123 rfl rfl⟩
theorem zmok_to_20 : ∀ a, a < 20 → zMok a := lt_s (lt_s (lt_s (lt_s (lt_s (lt_s (lt_s (lt_s (lt_s (lt_s (lt_s (lt_s (lt_s (lt_s (lt_s (lt_s (lt_s (lt_s (lt_s (lt_s (lt_0) zmok_0) zmok_1) zmok_2) zmok_3) zmok_4) zmok_5) zmok_6) zmok_7) zmok_8) zmok_9) zmok_10) zmok_11) zmok_12) zmok_13) zmok_14) zmok_15) zmok_16) zmok_17) zmok_18) zmok_19
theorem zmok_to_40 : ∀ a, a < 40 → zMok a := lt_s (lt_s (lt_s (lt_s (lt_s (lt_s (lt_s (lt_s (lt_s (lt_s (lt_s (lt_s (lt_s (lt_s (lt_s (lt_s (lt_s (lt_s (lt_s (lt_s (zmok_to_20) zmok_20) zmok_21) zmok_22) zmok_23) zmok_24) zmok_25) zmok_26) zmok_27) zmok_28) zmok_29) zmok_30) zmok_31) zmok_32) zmok_33) zmok_34) zmok_35) zmok_36) zmok_37) zmok_38) zmok_39
theorem zmok_to_60 : ∀ a, a < 60 → zMok a := lt_s (lt_s (lt_s (lt_s (lt_s (lt_s (lt_s (lt_s (lt_s (lt_s (lt_s (lt_s (lt_s (lt_s (lt_s (lt_s (lt_s (lt_s (lt_s (lt_s (zmok_to_40) zmok_40) zmok_41) zmok_42) zmok_43) zmok_44) zmok_45) zmok_46) zmok_47) zmok_48) zmok_49) zmok_50) zmok_51) zmok_52) zmok_53) zmok_54) zmok_55) zmok_56) zmok_57) zmok_58) zmok_59
theorem zmok_to_80 : ∀ a, a < 80 → zMok a := lt_s (lt_s (lt_s (lt_s (lt_s (lt_s (lt_s (lt_s (lt_s (lt_s (lt_s (lt_s (lt_s (lt_s (lt_s (lt_s (lt_s (lt_s (lt_s (lt_s (zmok_to_60) zmok_60) zmok_61) zmok_62) zmok_63) zmok_64) zmok_65) zmok_66) zmok_67) zmok_68) zmok_69) zmok_70) zmok_71) zmok_72) zmok_73) zmok_74) zmok_75) zmok_76) zmok_77) zmok_78) zmok_79
theorem zmok_to_100 : ∀ a, a < 100 → zMok a := lt_s (lt_s (lt_s (lt_s (lt_s (lt_s (lt_s (lt_s (lt_s (lt_s (lt_s (lt_s (lt_s (lt_s (lt_s (lt_s (lt_s (lt_s (lt_s (lt_s (zmok_to_80) zmok_80) zmok_81) zmok_82) zmok_83) zmok_84) zmok_85) zmok_86) zmok_87) zmok_88) zmok_89) zmok_90) zmok_91) zmok_92) zmok_93) zmok_94) zmok_95) zmok_96) zmok_97) zmok_98) zmok_99
theorem zmok_to_120 : ∀ a, a < 120 → zMok a := lt_s (lt_s (lt_s (lt_s (lt_s (lt_s (lt_s (lt_s (lt_s (lt_s (lt_s (lt_s (lt_s (lt_s (lt_s (lt_s (lt_s (lt_s (lt_s (lt_s (zmok_to_100) zmok_100) zmok_101) zmok_102) zmok_103) zmok_104) zmok_105) zmok_106) zmok_107) zmok_108) zmok_109) zmok_110) zmok_111) zmok_112) zmok_113) zmok_114) zmok_115) zmok_116) zmok_117) zmok_118) zmok_119
theorem zmok_to_138 : ∀ a, a < 138 → zMok a := lt_s (lt_s (lt_s (lt_s (lt_s (lt_s (lt_s (lt_s (lt_s (lt_s (lt_s (lt_s (lt_s (lt_s (lt_s (lt_s (lt_s (lt_s (zmok_to_120) zmok_120) zmok_121) zmok_122) zmok_123) zmok_124) zmok_125) zmok_126) zmok_127) zmok_128) zmok_129) zmok_130) zmok_131) zmok_132) zmok_133) zmok_134) zmok_135) zmok_136) zmok_137
theorem zcok_0 : zCok (0, 25, 0, 0) := ⟨by decide, fun _ => zGT_2 203 rfl rfl, fun h => absurd rfl h⟩
theorem zcok_1 : zCok (0, 29, 0, 1) := ⟨by decide, fun _ => zGT_1 212 rfl rfl, fun h => absurd rfl h⟩
theorem zcok_2 : zCok (0, 33, 0, 2) := ⟨by decide, fun _ => zGT_2 204 rfl rfl, fun h => absurd rfl h⟩
theorem zcok_3 : zCok (1, 25, 0, 9) := ⟨by decide, fun _ => zGT_2 183 rfl rfl, fun h => absurd rfl h⟩
theorem zcok_4 : zCok (1, 46, 0, 17) := ⟨by decide, fun _ => zGT_1 196 rfl rfl, fun h => absurd rfl h⟩
theorem zcok_5 : zCok (1, 50, 1, 3) := ⟨by decide, fun h => absurd h (by decide), fun _ => ⟨rfl, zTB_1 217 rfl⟩⟩
theorem zcok_6 : zCok (1, 54, 1, 1) := ⟨by decide, fun h => absurd h (by decide), fun _ => ⟨rfl, zTB_1 203 rfl⟩⟩
theorem zcok_7 : zCok (1, 57, 1, 4) := ⟨by decide, fun h => absurd h (by decide), fun _ => ⟨rfl, zTB_2 159 rfl⟩⟩
theorem zcok_8 : zCok (1, 60, 0, 18) := ⟨by decide, fun _ => zGT_1 200 rfl rfl, fun h => absurd rfl h⟩
theorem zcok_9 : zCok (1, 63, 1, 7) := ⟨by decide, fun h => absurd h (by decide), fun _ => ⟨rfl, zTB_1 208 rfl⟩⟩
theorem zcok_10 : zCok (1, 67, 0, 19) := ⟨by decide, fun _ => zGT_1 204 rfl rfl, fun h => absurd rfl h⟩
theorem zcok_11 : zCok (3, 30, 1, 6) := ⟨by decide, fun h => absurd h (by decide), fun _ => ⟨rfl, zTB_2 239 rfl⟩⟩
theorem zcok_12 : zCok (3, 34, 1, 12) := ⟨by decide, fun h => absurd h (by decide), fun _ => ⟨rfl, zTB_3 0 rfl⟩⟩
theorem zcok_13 : zCok (5, 54, 1, 1) := ⟨by decide, fun h => absurd h (by decide), fun _ => ⟨rfl, zTB_1 147 rfl⟩⟩
theorem zcok_14 : zCok (5, 67, 1, 9) := ⟨by decide, fun h => absurd h (by decide), fun _ => ⟨rfl, zTB_1 155 rfl⟩⟩
theorem zcok_15 : zCok (5, 70, 1, 10) := ⟨by decide, fun h => absurd h (by decide), fun _ => ⟨rfl, zTB_1 159 rfl⟩⟩
theorem zcok_16 : zCok (5, 80, 1, 8) := ⟨by decide, fun h => absurd h (by decide), fun _ => ⟨rfl, zTB_1 171 rfl⟩⟩
theorem zcok_17 : zCok (5, 84, 0, 40) := ⟨by decide, fun _ => zGT_1 175 rfl rfl, fun h => absurd rfl h⟩
theorem zcok_18 : zCok (5, 87, 1, 3) := ⟨by decide, fun h => absurd h (by decide), fun _ => ⟨rfl, zTB_1 225 rfl⟩⟩
theorem zcok_19 : zCok (5, 91, 1, 4) := ⟨by decide, fun h => absurd h (by decide), fun _ => ⟨rfl, zTB_1 221 rfl⟩⟩
theorem zcok_20 : zCok (5, 94, 1, 0) := ⟨by decide, fun h => absurd h (by decide), fun _ => ⟨rfl, zTB_1 234 rfl⟩⟩
theorem zcok_21 : zCok (5, 97, 0, 34) := ⟨by decide, fun _ => zGT_2 2 rfl rfl, fun h => absurd rfl h⟩
theorem zcok_22 : zCok (5, 102, 1, 26) := ⟨by decide, fun h => absurd h (by decide), fun _ => ⟨rfl, zTB_2 5 rfl⟩⟩
theorem zcok_23 : zCok (5, 103, 0, 36) := ⟨by decide, fun _ => zGT_2 13 rfl rfl, fun h => absurd rfl h⟩
theorem zcok_24 : zCok (5, 107, 1, 6) := ⟨by decide, fun h => absurd h (by decide), fun _ => ⟨rfl, zTB_1 179 rfl⟩⟩
theorem zcok_25 : zCok (5, 111, 1, 25) := ⟨by decide, fun h => absurd h (by decide), fun _ => ⟨rfl, zTB_2 17 rfl⟩⟩
theorem zcok_26 : zCok (5, 114, 0, 130) := ⟨by decide, fun _ => zGT_2 22 rfl rfl, fun h => absurd rfl h⟩
theorem zcok_27 : zCok (5, 119, 1, 13) := ⟨by decide, fun h => absurd h (by decide), fun _ => ⟨rfl, zTB_1 192 rfl⟩⟩
theorem zcok_28 : zCok (5, 123, 1, 17) := ⟨by decide, fun h => absurd h (by decide), fun _ => ⟨rfl, zTB_2 113 rfl⟩⟩
theorem zcok_29 : zCok (5, 127, 1, 15) := ⟨by decide, fun h => absurd h (by decide), fun _ => ⟨rfl, zTB_1 213 rfl⟩⟩
theorem zcok_30 : zCok (5, 131, 0, 137) := ⟨by decide, fun _ => zGT_2 122 rfl rfl, fun h => absurd rfl h⟩
theorem zcok_31 : zCok (5, 136, 0, 44) := ⟨by decide, fun _ => zGT_2 132 rfl rfl, fun h => absurd rfl h⟩
theorem zcok_32 : zCok (5, 140, 0, 45) := ⟨by decide, fun _ => zGT_2 136 rfl rfl, fun h => absurd rfl h⟩
theorem zcok_33 : zCok (5, 149, 0, 49) := ⟨by decide, fun _ => zGT_2 152 rfl rfl, fun h => absurd rfl h⟩
theorem zcok_34 : zCok (5, 153, 1, 16) := ⟨by decide, fun h => absurd h (by decide), fun _ => ⟨rfl, zTB_2 155 rfl⟩⟩
theorem zcok_35 : zCok (5, 160, 0, 51) := ⟨by decide, fun _ => zGT_2 169 rfl rfl, fun h => absurd rfl h⟩
theorem zcok_36 : zCok (5, 164, 0, 53) := ⟨by decide, fun _ => zGT_2 176 rfl rfl, fun h => absurd rfl h⟩
theorem zcok_37 : zCok (5, 168, 1, 11) := ⟨by decide, fun h => absurd h (by decide), fun _ => ⟨rfl, zTB_2 179 rfl⟩⟩
theorem zcok_38 : zCok (5, 171, 0, 55) := ⟨by decide, fun _ => zGT_2 189 rfl rfl, fun h => absurd rfl h⟩
theorem zcok_39 : zCok (5, 175, 0, 56) := ⟨by decide, fun _ => zGT_2 192 rfl rfl, fun h => absurd rfl h⟩
theorem zcok_40 : zCok (5, 178, 1, 5) := ⟨by decide, fun h => absurd h (by decide), fun _ => ⟨rfl, zTB_2 199 rfl⟩⟩
theorem zcok_41 : zCok (5, 181, 1, 2) := ⟨by decide, fun h => absurd h (by decide), fun _ => ⟨rfl, zTB_2 212 rfl⟩⟩
theorem zcok_42 : zCok (5, 190, 0, 61) := ⟨by decide, fun _ => zGT_2 224 rfl rfl, fun h => absurd rfl h⟩
theorem zcok_43 : zCok (5, 193, 1, 24) := ⟨by decide, fun h => absurd h (by decide), fun _ => ⟨rfl, zTB_2 235 rfl⟩⟩
theorem zcok_44 : zCok (5, 200, 0, 75) := ⟨by decide, fun _ => zGT_3 13 rfl rfl, fun h => absurd rfl h⟩
theorem zcok_45 : zCok (5, 204, 0, 74) := ⟨by decide, fun _ => zGT_3 17 rfl rfl, fun h => absurd rfl h⟩
theorem zcok_46 : zCok (5, 208, 0, 66) := ⟨by decide, fun _ => zGT_3 27 rfl rfl, fun h => absurd rfl h⟩
theorem zcok_47 : zCok (5, 212, 1, 14) := ⟨by decide, fun h => absurd h (by decide), fun _ => ⟨rfl, zTB_3 35 rfl⟩⟩
theorem zcok_48 : zCok (5, 216, 0, 67) := ⟨by decide, fun _ => zGT_3 39 rfl rfl, fun h => absurd rfl h⟩
theorem zcok_49 : zCok (5, 220, 1, 21) := ⟨by decide, fun h => absurd h (by decide), fun _ => ⟨rfl, zTB_3 31 rfl⟩⟩
theorem zcok_50 : zCok (5, 221, 1, 22) := ⟨by decide, fun h => absurd h (by decide), fun _ => ⟨rfl, zTB_3 50 rfl⟩⟩
theorem zcok_51 : zCok (5, 222, 0, 76) := ⟨by decide, fun _ => zGT_3 20 rfl rfl, fun h => absurd rfl h⟩
theorem zcok_52 : zCok (5, 225, 1, 23) := ⟨by decide, fun h => absurd h (by decide), fun _ => ⟨rfl, zTB_3 58 rfl⟩⟩
theorem zcok_53 : zCok (5, 234, 1, 20) := ⟨by decide, fun h => absurd h (by decide), fun _ => ⟨rfl, zTB_3 23 rfl⟩⟩
theorem zcok_54 : zCok (6, 50, 0, 79) := ⟨by decide, fun _ => zGT_3 172 rfl rfl, fun h => absurd rfl h⟩
theorem zcok_55 : zCok (6, 54, 0, 80) := ⟨by decide, fun _ => zGT_3 168 rfl rfl, fun h => absurd rfl h⟩
theorem zcok_56 : zCok (6, 58, 0, 77) := ⟨by decide, fun _ => zGT_3 134 rfl rfl, fun h => absurd rfl h⟩
theorem zcok_57 : zCok (6, 66, 0, 78) := ⟨by decide, fun _ => zGT_3 137 rfl rfl, fun h => absurd rfl h⟩
theorem zcok_58 : zCok (6, 76, 0, 86) := ⟨by decide, fun _ => zGT_3 156 rfl rfl, fun h => absurd rfl h⟩
theorem zcok_59 : zCok (6, 80, 0, 82) := ⟨by decide, fun _ => zGT_3 160 rfl rfl, fun h => absurd rfl h⟩
theorem zcok_60 : zCok (6, 84, 0, 81) := ⟨by decide, fun _ => zGT_3 164 rfl rfl, fun h => absurd rfl h⟩
theorem zcok_61 : zCok (6, 89, 0, 85) := ⟨by decide, fun _ => zGT_3 185 rfl rfl, fun h => absurd rfl h⟩
theorem zcok_62 : zCok (6, 104, 0, 94) := ⟨by decide, fun _ => zGT_3 201 rfl rfl, fun h => absurd rfl h⟩
theorem zcok_63 : zCok (6, 109, 0, 83) := ⟨by decide, fun _ => zGT_3 217 rfl rfl, fun h => absurd rfl h⟩
theorem zcok_64 : zCok (6, 112, 0, 84) := ⟨by decide, fun _ => zGT_3 225 rfl rfl, fun h => absurd rfl h⟩
theorem zcok_65 : zCok (6, 117, 0, 100) := ⟨by decide, fun _ => zGT_3 233 rfl rfl, fun h => absurd rfl h⟩
theorem zcok_66 : zCok (6, 122, 0, 104) := ⟨by decide, fun _ => zGT_4 10 rfl rfl, fun h => absurd rfl h⟩
theorem zcok_67 : zCok (6, 126, 0, 106) := ⟨by decide, fun _ => zGT_4 18 rfl rfl, fun h => absurd rfl h⟩
theorem zcok_68 : zCok (6, 131, 0, 110) := ⟨by decide, fun _ => zGT_4 35 rfl rfl, fun h => absurd rfl h⟩
theorem zcok_69 : zCok (6, 135, 0, 98) := ⟨by decide, fun _ => zGT_4 55 rfl rfl, fun h => absurd rfl h⟩
theorem zcok_70 : zCok (6, 149, 0, 119) := ⟨by decide, fun _ => zGT_4 76 rfl rfl, fun h => absurd rfl h⟩
theorem zcok_71 : zCok (6, 152, 0, 120) := ⟨by decide, fun _ => zGT_4 79 rfl rfl, fun h => absurd rfl h⟩
theorem zcok_72 : zCok (6, 156, 0, 121) := ⟨by decide, fun _ => zGT_4 83 rfl rfl, fun h => absurd rfl h⟩
theorem zcok_73 : zCok (7, 335, 0, 132) := ⟨by decide, fun _ => zGT_2 40 rfl rfl, fun h => absurd rfl h⟩
theorem zcok_74 : zCok (7, 492, 0, 133) := ⟨by decide, fun _ => zGT_2 30 rfl rfl, fun h => absurd rfl h⟩
theorem zcok_75 : zCok (7, 505, 0, 129) := ⟨by decide, fun _ => zGT_2 36 rfl rfl, fun h => absurd rfl h⟩
theorem zcok_76 : zCok (7, 633, 0, 131) := ⟨by decide, fun _ => zGT_2 26 rfl rfl, fun h => absurd rfl h⟩
theorem zcok_77 : zCok (7, 637, 0, 135) := ⟨by decide, fun _ => zGT_2 44 rfl rfl, fun h => absurd rfl h⟩
theorem zcok_78 : zCok (8, 88, 0, 134) := ⟨by decide, fun _ => zGT_2 47 rfl rfl, fun h => absurd rfl h⟩
theorem zcok_79 : zCok (8, 95, 0, 136) := ⟨by decide, fun _ => zGT_2 52 rfl rfl, fun h => absurd rfl h⟩
theorem zcok_80 : zCok (11, 13, 0, 27) := ⟨by decide, fun _ => zGT_1 143 rfl rfl, fun h => absurd rfl h⟩
theorem zcok_81 : zCok (11, 17, 0, 87) := ⟨by decide, fun _ => zGT_3 128 rfl rfl, fun h => absurd rfl h⟩
theorem zcok_82 : zCok (11, 18, 0, 28) := ⟨by decide, fun _ => zGT_1 151 rfl rfl, fun h => absurd rfl h⟩
theorem zcok_83 : zCok (11, 22, 0, 88) := ⟨by decide, fun _ => zGT_3 141 rfl rfl, fun h => absurd rfl h⟩
theorem zcok_84 : zCok (11, 23, 0, 29) := ⟨by decide, fun _ => zGT_1 163 rfl rfl, fun h => absurd rfl h⟩
theorem zcok_85 : zCok (11, 26, 0, 89) := ⟨by decide, fun _ => zGT_3 147 rfl rfl, fun h => absurd rfl h⟩
theorem zcok_86 : zCok (11, 27, 0, 30) := ⟨by decide, fun _ => zGT_1 167 rfl rfl, fun h => absurd rfl h⟩
theorem zcok_87 : zCok (11, 30, 0, 90) := ⟨by decide, fun _ => zGT_3 152 rfl rfl, fun h => absurd rfl h⟩
theorem zcok_88 : zCok (11, 31, 0, 31) := ⟨by decide, fun _ => zGT_1 226 rfl rfl, fun h => absurd rfl h⟩
theorem zcok_89 : zCok (11, 34, 0, 91) := ⟨by decide, fun _ => zGT_3 176 rfl rfl, fun h => absurd rfl h⟩
theorem zcok_90 : zCok (11, 35, 0, 32) := ⟨by decide, fun _ => zGT_1 230 rfl rfl, fun h => absurd rfl h⟩
theorem zcok_91 : zCok (11, 38, 0, 92) := ⟨by decide, fun _ => zGT_3 181 rfl rfl, fun h => absurd rfl h⟩
theorem zcok_92 : zCok (11, 41, 0, 33) := ⟨by decide, fun _ => zGT_1 238 rfl rfl, fun h => absurd rfl h⟩
theorem zcok_93 : zCok (11, 45, 0, 93) := ⟨by decide, fun _ => zGT_3 189 rfl rfl, fun h => absurd rfl h⟩
theorem zcok_94 : zCok (11, 46, 0, 35) := ⟨by decide, fun _ => zGT_2 9 rfl rfl, fun h => absurd rfl h⟩
theorem zcok_95 : zCok (11, 50, 0, 95) := ⟨by decide, fun _ => zGT_3 197 rfl rfl, fun h => absurd rfl h⟩
theorem zcok_96 : zCok (11, 51, 0, 37) := ⟨by decide, fun _ => zGT_2 105 rfl rfl, fun h => absurd rfl h⟩
theorem zcok_97 : zCok (11, 54, 0, 96) := ⟨by decide, fun _ => zGT_3 204 rfl rfl, fun h => absurd rfl h⟩
theorem zcok_98 : zCok (11, 55, 0, 38) := ⟨by decide, fun _ => zGT_2 109 rfl rfl, fun h => absurd rfl h⟩
theorem zcok_99 : zCok (11, 58, 0, 97) := ⟨by decide, fun _ => zGT_3 209 rfl rfl, fun h => absurd rfl h⟩
theorem zcok_100 : zCok (11, 59, 0, 39) := ⟨by decide, fun _ => zGT_2 114 rfl rfl, fun h => absurd rfl h⟩
theorem zcok_101 : zCok (11, 62, 0, 98) := ⟨by decide, fun _ => zGT_3 213 rfl rfl, fun h => absurd rfl h⟩
theorem zcok_102 : zCok (11, 63, 0, 41) := ⟨by decide, fun _ => zGT_2 118 rfl rfl, fun h => absurd rfl h⟩
theorem zcok_103 : zCok (11, 66, 0, 99) := ⟨by decide, fun _ => zGT_3 221 rfl rfl, fun h => absurd rfl h⟩
theorem zcok_104 : zCok (11, 67, 0, 42) := ⟨by decide, fun _ => zGT_2 128 rfl rfl, fun h => absurd rfl h⟩
theorem zcok_105 : zCok (11, 70, 0, 101) := ⟨by decide, fun _ => zGT_3 228 rfl rfl, fun h => absurd rfl h⟩
theorem zcok_106 : zCok (11, 71, 0, 43) := ⟨by decide, fun _ => zGT_2 139 rfl rfl, fun h => absurd rfl h⟩
theorem zcok_107 : zCok (11, 74, 0, 102) := ⟨by decide, fun _ => zGT_3 237 rfl rfl, fun h => absurd rfl h⟩
theorem zcok_108 : zCok (11, 75, 0, 46) := ⟨by decide, fun _ => zGT_2 143 rfl rfl, fun h => absurd rfl h⟩
theorem zcok_109 : zCok (11, 78, 0, 103) := ⟨by decide, fun _ => zGT_4 1 rfl rfl, fun h => absurd rfl h⟩
theorem zcok_110 : zCok (11, 79, 0, 47) := ⟨by decide, fun _ => zGT_2 148 rfl rfl, fun h => absurd rfl h⟩
theorem zcok_111 : zCok (11, 82, 0, 105) := ⟨by decide, fun _ => zGT_4 6 rfl rfl, fun h => absurd rfl h⟩
theorem zcok_112 : zCok (11, 83, 0, 48) := ⟨by decide, fun _ => zGT_2 161 rfl rfl, fun h => absurd rfl h⟩
theorem zcok_113 : zCok (11, 86, 0, 107) := ⟨by decide, fun _ => zGT_4 14 rfl rfl, fun h => absurd rfl h⟩
theorem zcok_114 : zCok (11, 87, 0, 50) := ⟨by decide, fun _ => zGT_2 165 rfl rfl, fun h => absurd rfl h⟩
theorem zcok_115 : zCok (11, 90, 0, 108) := ⟨by decide, fun _ => zGT_4 22 rfl rfl, fun h => absurd rfl h⟩
theorem zcok_116 : zCok (11, 91, 0, 52) := ⟨by decide, fun _ => zGT_2 172 rfl rfl, fun h => absurd rfl h⟩
theorem zcok_117 : zCok (11, 94, 0, 109) := ⟨by decide, fun _ => zGT_4 26 rfl rfl, fun h => absurd rfl h⟩
theorem zcok_118 : zCok (11, 95, 0, 54) := ⟨by decide, fun _ => zGT_2 185 rfl rfl, fun h => absurd rfl h⟩
theorem zcok_119 : zCok (11, 98, 0, 111) := ⟨by decide, fun _ => zGT_4 31 rfl rfl, fun h => absurd rfl h⟩
theorem zcok_120 : zCok (11, 99, 0, 57) := ⟨by decide, fun _ => zGT_2 195 rfl rfl, fun h => absurd rfl h⟩
theorem zcok_121 : zCok (11, 102, 0, 112) := ⟨by decide, fun _ => zGT_4 39 rfl rfl, fun h => absurd rfl h⟩
theorem zcok_122 : zCok (11, 103, 0, 58) := ⟨by decide, fun _ => zGT_2 208 rfl rfl, fun h => absurd rfl h⟩
theorem zcok_123 : zCok (11, 106, 0, 113) := ⟨by decide, fun _ => zGT_4 43 rfl rfl, fun h => absurd rfl h⟩
theorem zcok_124 : zCok (11, 107, 0, 59) := ⟨by decide, fun _ => zGT_2 213 rfl rfl, fun h => absurd rfl h⟩
theorem zcok_125 : zCok (11, 110, 0, 114) := ⟨by decide, fun _ => zGT_4 47 rfl rfl, fun h => absurd rfl h⟩
theorem zcok_126 : zCok (11, 111, 0, 60) := ⟨by decide, fun _ => zGT_2 217 rfl rfl, fun h => absurd rfl h⟩
theorem zcok_127 : zCok (11, 114, 0, 115) := ⟨by decide, fun _ => zGT_4 51 rfl rfl, fun h => absurd rfl h⟩
theorem zcok_128 : zCok (11, 115, 0, 62) := ⟨by decide, fun _ => zGT_2 227 rfl rfl, fun h => absurd rfl h⟩
theorem zcok_129 : zCok (11, 118, 0, 116) := ⟨by decide, fun _ => zGT_4 60 rfl rfl, fun h => absurd rfl h⟩
theorem zcok_130 : zCok (11, 119, 0, 63) := ⟨by decide, fun _ => zGT_2 231 rfl rfl, fun h => absurd rfl h⟩
theorem zcok_131 : zCok (11, 122, 0, 117) := ⟨by decide, fun _ => zGT_4 64 rfl rfl, fun h => absurd rfl h⟩
theorem zcok_132 : zCok (11, 123, 0, 64) := ⟨by decide, fun _ => zGT_3 5 rfl rfl, fun h => absurd rfl h⟩
theorem zcok_133 : zCok (11, 126, 0, 118) := ⟨by decide, fun _ => zGT_4 68 rfl rfl, fun h => absurd rfl h⟩
theorem zcok_134 : zCok (11, 127, 0, 65) := ⟨by decide, fun _ => zGT_3 9 rfl rfl, fun h => absurd rfl h⟩
theorem zcok_135 : zCok (11, 131, 0, 122) := ⟨by decide, fun _ => zGT_4 72 rfl rfl, fun h => absurd rfl h⟩
theorem zcok_136 : zCok (11, 132, 0, 68) := ⟨by decide, fun _ => zGT_3 42 rfl rfl, fun h => absurd rfl h⟩
theorem zcok_137 : zCok (11, 136, 0, 123) := ⟨by decide, fun _ => zGT_4 87 rfl rfl, fun h => absurd rfl h⟩
theorem zcok_138 : zCok (11, 137, 0, 69) := ⟨by decide, fun _ => zGT_3 46 rfl rfl, fun h => absurd rfl h⟩
theorem zcok_139 : zCok (11, 141, 0, 124) := ⟨by decide, fun _ => zGT_4 91 rfl rfl, fun h => absurd rfl h⟩
theorem zcok_140 : zCok (11, 142, 0, 70) := ⟨by decide, fun _ => zGT_3 54 rfl rfl, fun h => absurd rfl h⟩
theorem zcok_141 : zCok (11, 145, 0, 125) := ⟨by decide, fun _ => zGT_4 95 rfl rfl, fun h => absurd rfl h⟩
theorem zcok_142 : zCok (11, 146, 0, 71) := ⟨by decide, fun _ => zGT_3 62 rfl rfl, fun h => absurd rfl h⟩
theorem zcok_143 : zCok (11, 149, 0, 126) := ⟨by decide, fun _ => zGT_4 99 rfl rfl, fun h => absurd rfl h⟩
theorem zcok_144 : zCok (11, 150, 0, 72) := ⟨by decide, fun _ => zGT_3 66 rfl rfl, fun h => absurd rfl h⟩
theorem zcok_145 : zCok (11, 153, 0, 127) := ⟨by decide, fun _ => zGT_4 103 rfl rfl, fun h => absurd rfl h⟩
theorem zcok_146 : zCok (11, 154, 0, 73) := ⟨by decide, fun _ => zGT_3 70 rfl rfl, fun h => absurd rfl h⟩
theorem zcok_147 : zCok (11, 157, 0, 128) := ⟨by decide, fun _ => zGT_4 107 rfl rfl, fun h => absurd rfl h⟩
set_option maxRecDepth 20000 in
theorem zcok : ∀ q ∈ zcall, zCok q := List.forall_mem_cons.mpr ⟨zcok_0, List.forall_mem_cons.mpr ⟨zcok_1, List.forall_mem_cons.mpr ⟨zcok_2, List.forall_mem_cons.mpr ⟨zcok_3, List.forall_mem_cons.mpr ⟨zcok_4, List.forall_mem_cons.mpr ⟨zcok_5, List.forall_mem_cons.mpr ⟨zcok_6, List.forall_mem_cons.mpr ⟨zcok_7, List.forall_mem_cons.mpr ⟨zcok_8, List.forall_mem_cons.mpr ⟨zcok_9, List.forall_mem_cons.mpr ⟨zcok_10, List.forall_mem_cons.mpr ⟨zcok_11, List.forall_mem_cons.mpr ⟨zcok_12, List.forall_mem_cons.mpr ⟨zcok_13, List.forall_mem_cons.mpr ⟨zcok_14, List.forall_mem_cons.mpr ⟨zcok_15, List.forall_mem_cons.mpr ⟨zcok_16, List.forall_mem_cons.mpr ⟨zcok_17, List.forall_mem_cons.mpr ⟨zcok_18, List.forall_mem_cons.mpr ⟨zcok_19, List.forall_mem_cons.mpr ⟨zcok_20, List.forall_mem_cons.mpr ⟨zcok_21, List.forall_mem_cons.mpr ⟨zcok_22, List.forall_mem_cons.mpr ⟨zcok_23, List.forall_mem_cons.mpr ⟨zcok_24, List.forall_mem_cons.mpr ⟨zcok_25, List.forall_mem_cons.mpr ⟨zcok_26, List.forall_mem_cons.mpr ⟨zcok_27, List.forall_mem_cons.mpr ⟨zcok_28, List.forall_mem_cons.mpr ⟨zcok_29, List.forall_mem_cons.mpr ⟨zcok_30, List.forall_mem_cons.mpr ⟨zcok_31, List.forall_mem_cons.mpr ⟨zcok_32, List.forall_mem_cons.mpr ⟨zcok_33, List.forall_mem_cons.mpr ⟨zcok_34, List.forall_mem_cons.mpr ⟨zcok_35, List.forall_mem_cons.mpr ⟨zcok_36, List.forall_mem_cons.mpr ⟨zcok_37, List.forall_mem_cons.mpr ⟨zcok_38, List.forall_mem_cons.mpr ⟨zcok_39, List.forall_mem_cons.mpr ⟨zcok_40, List.forall_mem_cons.mpr ⟨zcok_41, List.forall_mem_cons.mpr ⟨zcok_42, List.forall_mem_cons.mpr ⟨zcok_43, List.forall_mem_cons.mpr ⟨zcok_44, List.forall_mem_cons.mpr ⟨zcok_45, List.forall_mem_cons.mpr ⟨zcok_46, List.forall_mem_cons.mpr ⟨zcok_47, List.forall_mem_cons.mpr ⟨zcok_48, List.forall_mem_cons.mpr ⟨zcok_49, List.forall_mem_cons.mpr ⟨zcok_50, List.forall_mem_cons.mpr ⟨zcok_51, List.forall_mem_cons.mpr ⟨zcok_52, List.forall_mem_cons.mpr ⟨zcok_53, List.forall_mem_cons.mpr ⟨zcok_54, List.forall_mem_cons.mpr ⟨zcok_55, List.forall_mem_cons.mpr ⟨zcok_56, List.forall_mem_cons.mpr ⟨zcok_57, List.forall_mem_cons.mpr ⟨zcok_58, List.forall_mem_cons.mpr ⟨zcok_59, List.forall_mem_cons.mpr ⟨zcok_60, List.forall_mem_cons.mpr ⟨zcok_61, List.forall_mem_cons.mpr ⟨zcok_62, List.forall_mem_cons.mpr ⟨zcok_63, List.forall_mem_cons.mpr ⟨zcok_64, List.forall_mem_cons.mpr ⟨zcok_65, List.forall_mem_cons.mpr ⟨zcok_66, List.forall_mem_cons.mpr ⟨zcok_67, List.forall_mem_cons.mpr ⟨zcok_68, List.forall_mem_cons.mpr ⟨zcok_69, List.forall_mem_cons.mpr ⟨zcok_70, List.forall_mem_cons.mpr ⟨zcok_71, List.forall_mem_cons.mpr ⟨zcok_72, List.forall_mem_cons.mpr ⟨zcok_73, List.forall_mem_cons.mpr ⟨zcok_74, List.forall_mem_cons.mpr ⟨zcok_75, List.forall_mem_cons.mpr ⟨zcok_76, List.forall_mem_cons.mpr ⟨zcok_77, List.forall_mem_cons.mpr ⟨zcok_78, List.forall_mem_cons.mpr ⟨zcok_79, List.forall_mem_cons.mpr ⟨zcok_80, List.forall_mem_cons.mpr ⟨zcok_81, List.forall_mem_cons.mpr ⟨zcok_82, List.forall_mem_cons.mpr ⟨zcok_83, List.forall_mem_cons.mpr ⟨zcok_84, List.forall_mem_cons.mpr ⟨zcok_85, List.forall_mem_cons.mpr ⟨zcok_86, List.forall_mem_cons.mpr ⟨zcok_87, List.forall_mem_cons.mpr ⟨zcok_88, List.forall_mem_cons.mpr ⟨zcok_89, List.forall_mem_cons.mpr ⟨zcok_90, List.forall_mem_cons.mpr ⟨zcok_91, List.forall_mem_cons.mpr ⟨zcok_92, List.forall_mem_cons.mpr ⟨zcok_93, List.forall_mem_cons.mpr ⟨zcok_94, List.forall_mem_cons.mpr ⟨zcok_95, List.forall_mem_cons.mpr ⟨zcok_96, List.forall_mem_cons.mpr ⟨zcok_97, List.forall_mem_cons.mpr ⟨zcok_98, List.forall_mem_cons.mpr ⟨zcok_99, List.forall_mem_cons.mpr ⟨zcok_100, List.forall_mem_cons.mpr ⟨zcok_101, List.forall_mem_cons.mpr ⟨zcok_102, List.forall_mem_cons.mpr ⟨zcok_103, List.forall_mem_cons.mpr ⟨zcok_104, List.forall_mem_cons.mpr ⟨zcok_105, List.forall_mem_cons.mpr ⟨zcok_106, List.forall_mem_cons.mpr ⟨zcok_107, List.forall_mem_cons.mpr ⟨zcok_108, List.forall_mem_cons.mpr ⟨zcok_109, List.forall_mem_cons.mpr ⟨zcok_110, List.forall_mem_cons.mpr ⟨zcok_111, List.forall_mem_cons.mpr ⟨zcok_112, List.forall_mem_cons.mpr ⟨zcok_113, List.forall_mem_cons.mpr ⟨zcok_114, List.forall_mem_cons.mpr ⟨zcok_115, List.forall_mem_cons.mpr ⟨zcok_116, List.forall_mem_cons.mpr ⟨zcok_117, List.forall_mem_cons.mpr ⟨zcok_118, List.forall_mem_cons.mpr ⟨zcok_119, List.forall_mem_cons.mpr ⟨zcok_120, List.forall_mem_cons.mpr ⟨zcok_121, List.forall_mem_cons.mpr ⟨zcok_122, List.forall_mem_cons.mpr ⟨zcok_123, List.forall_mem_cons.mpr ⟨zcok_124, List.forall_mem_cons.mpr ⟨zcok_125, List.forall_mem_cons.mpr ⟨zcok_126, List.forall_mem_cons.mpr ⟨zcok_127, List.forall_mem_cons.mpr ⟨zcok_128, List.forall_mem_cons.mpr ⟨zcok_129, List.forall_mem_cons.mpr ⟨zcok_130, List.forall_mem_cons.mpr ⟨zcok_131, List.forall_mem_cons.mpr ⟨zcok_132, List.forall_mem_cons.mpr ⟨zcok_133, List.forall_mem_cons.mpr ⟨zcok_134, List.forall_mem_cons.mpr ⟨zcok_135, List.forall_mem_cons.mpr ⟨zcok_136, List.forall_mem_cons.mpr ⟨zcok_137, List.forall_mem_cons.mpr ⟨zcok_138, List.forall_mem_cons.mpr ⟨zcok_139, List.forall_mem_cons.mpr ⟨zcok_140, List.forall_mem_cons.mpr ⟨zcok_141, List.forall_mem_cons.mpr ⟨zcok_142, List.forall_mem_cons.mpr ⟨zcok_143, List.forall_mem_cons.mpr ⟨zcok_144, List.forall_mem_cons.mpr ⟨zcok_145, List.forall_mem_cons.mpr ⟨zcok_146, List.forall_mem_cons.mpr ⟨zcok_147, fun _ h => absurd h List.not_mem_nil⟩⟩⟩⟩⟩⟩⟩⟩⟩⟩⟩⟩⟩⟩⟩⟩⟩⟩⟩⟩⟩⟩⟩⟩⟩⟩⟩⟩⟩⟩⟩⟩⟩⟩⟩⟩⟩⟩⟩⟩⟩⟩⟩⟩⟩⟩⟩⟩⟩⟩⟩⟩⟩⟩⟩⟩⟩⟩⟩⟩⟩⟩⟩⟩⟩⟩⟩⟩⟩⟩⟩⟩⟩⟩⟩⟩⟩⟩⟩⟩⟩⟩⟩⟩⟩⟩⟩⟩⟩⟩⟩⟩⟩⟩⟩⟩⟩⟩⟩⟩⟩⟩⟩⟩⟩⟩⟩⟩⟩⟩⟩⟩⟩⟩⟩⟩⟩⟩⟩⟩⟩⟩⟩⟩⟩⟩⟩⟩⟩⟩⟩⟩⟩⟩⟩⟩⟩⟩⟩⟩⟩⟩⟩⟩⟩⟩⟩⟩
theorem zfok_0 : zFok (0, 9, 0, 0, 0) := ⟨⟨by decide, by decide, by decide +kernel⟩, fun _ => zGT_1 36 rfl rfl, fun h => absurd rfl h⟩
theorem zfok_1 : zFok (0, 15, 0, 0, 1) := ⟨⟨by decide, by decide, by decide +kernel⟩, fun _ => zGT_1 37 rfl rfl, fun h => absurd rfl h⟩
theorem zfok_2 : zFok (1, 9, 0, 1, 0) := ⟨⟨by decide, by decide, by decide +kernel⟩, fun _ => zGT_1 53 rfl rfl, fun h => absurd rfl h⟩
theorem zfok_3 : zFok (1, 15, 0, 1, 1) := ⟨⟨by decide, by decide, by decide +kernel⟩, fun _ => zGT_1 55 rfl rfl, fun h => absurd rfl h⟩
theorem zfok_4 : zFok (1, 18, 0, 1, 2) := ⟨⟨by decide, by decide, by decide +kernel⟩, fun _ => zGT_1 57 rfl rfl, fun h => absurd rfl h⟩
theorem zfok_5 : zFok (1, 21, 0, 1, 3) := ⟨⟨by decide, by decide, by decide +kernel⟩, fun _ => zGT_1 59 rfl rfl, fun h => absurd rfl h⟩
theorem zfok_6 : zFok (1, 41, 1, 0, 1) := ⟨⟨by decide, by decide, by decide +kernel⟩, fun h => absurd h (by decide), fun _ => ⟨rfl, zTB_1 40 rfl⟩⟩
theorem zfok_7 : zFok (2, 9, 0, 2, 0) := ⟨⟨by decide, by decide, by decide +kernel⟩, fun _ => zGT_1 105 rfl rfl, fun h => absurd rfl h⟩
theorem zfok_8 : zFok (2, 15, 0, 2, 2) := ⟨⟨by decide, by decide, by decide +kernel⟩, fun _ => zGT_1 109 rfl rfl, fun h => absurd rfl h⟩
theorem zfok_9 : zFok (2, 19, 0, 2, 1) := ⟨⟨by decide, by decide, by decide +kernel⟩, fun _ => zGT_1 107 rfl rfl, fun h => absurd rfl h⟩
theorem zfok_10 : zFok (3, 10, 0, 3, 0) := ⟨⟨by decide, by decide, by decide +kernel⟩, fun _ => zGT_1 69 rfl rfl, fun h => absurd rfl h⟩
theorem zfok_11 : zFok (3, 19, 0, 3, 1) := ⟨⟨by decide, by decide, by decide +kernel⟩, fun _ => zGT_1 71 rfl rfl, fun h => absurd rfl h⟩
theorem zfok_12 : zFok (3, 23, 0, 3, 2) := ⟨⟨by decide, by decide, by decide +kernel⟩, fun _ => zGT_1 73 rfl rfl, fun h => absurd rfl h⟩
theorem zfok_13 : zFok (3, 27, 1, 0, 1) := ⟨⟨by decide, by decide, by decide +kernel⟩, fun h => absurd h (by decide), fun _ => ⟨rfl, zTB_1 38 rfl⟩⟩
theorem zfok_14 : zFok (4, 9, 0, 4, 0) := ⟨⟨by decide, by decide, by decide +kernel⟩, fun _ => zGT_1 88 rfl rfl, fun h => absurd rfl h⟩
theorem zfok_15 : zFok (4, 15, 0, 4, 1) := ⟨⟨by decide, by decide, by decide +kernel⟩, fun _ => zGT_1 89 rfl rfl, fun h => absurd rfl h⟩
theorem zfok_16 : zFok (5, 10, 0, 5, 0) := ⟨⟨by decide, by decide, by decide +kernel⟩, fun _ => zGT_1 118 rfl rfl, fun h => absurd rfl h⟩
theorem zfok_17 : zFok (5, 16, 0, 5, 1) := ⟨⟨by decide, by decide, by decide +kernel⟩, fun _ => zGT_1 119 rfl rfl, fun h => absurd rfl h⟩
theorem zfok_18 : zFok (5, 22, 0, 5, 3) := ⟨⟨by decide, by decide, by decide +kernel⟩, fun _ => zGT_1 121 rfl rfl, fun h => absurd rfl h⟩
theorem zfok_19 : zFok (5, 28, 0, 5, 4) := ⟨⟨by decide, by decide, by decide +kernel⟩, fun _ => zGT_1 122 rfl rfl, fun h => absurd rfl h⟩
theorem zfok_20 : zFok (5, 35, 0, 5, 5) := ⟨⟨by decide, by decide, by decide +kernel⟩, fun _ => zGT_1 123 rfl rfl, fun h => absurd rfl h⟩
theorem zfok_21 : zFok (5, 39, 0, 5, 6) := ⟨⟨by decide, by decide, by decide +kernel⟩, fun _ => zGT_1 124 rfl rfl, fun h => absurd rfl h⟩
theorem zfok_22 : zFok (5, 42, 0, 5, 7) := ⟨⟨by decide, by decide, by decide +kernel⟩, fun _ => zGT_1 125 rfl rfl, fun h => absurd rfl h⟩
theorem zfok_23 : zFok (5, 47, 1, 3, 0) := ⟨⟨by decide, by decide, by decide +kernel⟩, fun h => absurd h (by decide), fun _ => ⟨rfl, zTB_1 70 rfl⟩⟩
theorem zfok_24 : zFok (5, 50, 1, 0, 1) := ⟨⟨by decide, by decide, by decide +kernel⟩, fun h => absurd h (by decide), fun _ => ⟨rfl, zTB_1 39 rfl⟩⟩
theorem zfok_25 : zFok (5, 58, 1, 3, 1) := ⟨⟨by decide, by decide, by decide +kernel⟩, fun h => absurd h (by decide), fun _ => ⟨rfl, zTB_1 72 rfl⟩⟩
theorem zfok_26 : zFok (5, 62, 1, 1, 0) := ⟨⟨by decide, by decide, by decide +kernel⟩, fun h => absurd h (by decide), fun _ => ⟨rfl, zTB_1 54 rfl⟩⟩
theorem zfok_27 : zFok (5, 74, 1, 1, 1) := ⟨⟨by decide, by decide, by decide +kernel⟩, fun h => absurd h (by decide), fun _ => ⟨rfl, zTB_1 56 rfl⟩⟩
theorem zfok_28 : zFok (5, 77, 1, 1, 2) := ⟨⟨by decide, by decide, by decide +kernel⟩, fun h => absurd h (by decide), fun _ => ⟨rfl, zTB_1 58 rfl⟩⟩
theorem zfok_29 : zFok (5, 101, 1, 4, 1) := ⟨⟨by decide, by decide, by decide +kernel⟩, fun h => absurd h (by decide), fun _ => ⟨rfl, zTB_1 90 rfl⟩⟩
theorem zfok_30 : zFok (5, 184, 1, 3, 2) := ⟨⟨by decide, by decide, by decide +kernel⟩, fun h => absurd h (by decide), fun _ => ⟨rfl, zTB_1 74 rfl⟩⟩
theorem zfok_31 : zFok (5, 196, 0, 5, 2) := ⟨⟨by decide, by decide, by decide +kernel⟩, fun _ => zGT_1 120 rfl rfl, fun h => absurd rfl h⟩
theorem zfok_32 : zFok (5, 228, 1, 2, 2) := ⟨⟨by decide, by decide, by decide +kernel⟩, fun h => absurd h (by decide), fun _ => ⟨rfl, zTB_1 110 rfl⟩⟩
theorem zfok_33 : zFok (5, 231, 1, 2, 1) := ⟨⟨by decide, by decide, by decide +kernel⟩, fun h => absurd h (by decide), fun _ => ⟨rfl, zTB_1 108 rfl⟩⟩
theorem zfok_34 : zFok (5, 238, 1, 2, 0) := ⟨⟨by decide, by decide, by decide +kernel⟩, fun h => absurd h (by decide), fun _ => ⟨rfl, zTB_1 106 rfl⟩⟩
theorem zfok_35 : zFok (6, 7, 0, 6, 0) := ⟨⟨by decide, by decide, by decide +kernel⟩, fun _ => zGT_3 81 rfl rfl, fun h => absurd rfl h⟩
theorem zfok_36 : zFok (6, 13, 0, 6, 1) := ⟨⟨by decide, by decide, by decide +kernel⟩, fun _ => zGT_3 82 rfl rfl, fun h => absurd rfl h⟩
theorem zfok_37 : zFok (6, 16, 0, 6, 3) := ⟨⟨by decide, by decide, by decide +kernel⟩, fun _ => zGT_3 84 rfl rfl, fun h => absurd rfl h⟩
theorem zfok_38 : zFok (6, 19, 0, 6, 5) := ⟨⟨by decide, by decide, by decide +kernel⟩, fun _ => zGT_3 86 rfl rfl, fun h => absurd rfl h⟩
theorem zfok_39 : zFok (6, 22, 0, 6, 6) := ⟨⟨by decide, by decide, by decide +kernel⟩, fun _ => zGT_3 87 rfl rfl, fun h => absurd rfl h⟩
theorem zfok_40 : zFok (6, 25, 0, 6, 7) := ⟨⟨by decide, by decide, by decide +kernel⟩, fun _ => zGT_3 88 rfl rfl, fun h => absurd rfl h⟩
theorem zfok_41 : zFok (6, 28, 0, 6, 8) := ⟨⟨by decide, by decide, by decide +kernel⟩, fun _ => zGT_3 89 rfl rfl, fun h => absurd rfl h⟩
theorem zfok_42 : zFok (6, 31, 0, 6, 9) := ⟨⟨by decide, by decide, by decide +kernel⟩, fun _ => zGT_3 90 rfl rfl, fun h => absurd rfl h⟩
theorem zfok_43 : zFok (6, 34, 0, 6, 10) := ⟨⟨by decide, by decide, by decide +kernel⟩, fun _ => zGT_3 91 rfl rfl, fun h => absurd rfl h⟩
theorem zfok_44 : zFok (6, 37, 0, 6, 11) := ⟨⟨by decide, by decide, by decide +kernel⟩, fun _ => zGT_3 92 rfl rfl, fun h => absurd rfl h⟩
theorem zfok_45 : zFok (6, 40, 0, 6, 12) := ⟨⟨by decide, by decide, by decide +kernel⟩, fun _ => zGT_3 93 rfl rfl, fun h => absurd rfl h⟩
theorem zfok_46 : zFok (6, 44, 0, 6, 13) := ⟨⟨by decide, by decide, by decide +kernel⟩, fun _ => zGT_3 94 rfl rfl, fun h => absurd rfl h⟩
theorem zfok_47 : zFok (6, 47, 0, 6, 14) := ⟨⟨by decide, by decide, by decide +kernel⟩, fun _ => zGT_3 95 rfl rfl, fun h => absurd rfl h⟩
theorem zfok_48 : zFok (6, 100, 0, 6, 4) := ⟨⟨by decide, by decide, by decide +kernel⟩, fun _ => zGT_3 85 rfl rfl, fun h => absurd rfl h⟩
theorem zfok_49 : zFok (6, 145, 0, 6, 2) := ⟨⟨by decide, by decide, by decide +kernel⟩, fun _ => zGT_3 83 rfl rfl, fun h => absurd rfl h⟩
set_option maxRecDepth 20000 in
theorem zfok : ∀ q ∈ zfld, zFok q := List.forall_mem_cons.mpr ⟨zfok_0, List.forall_mem_cons.mpr ⟨zfok_1, List.forall_mem_cons.mpr ⟨zfok_2, List.forall_mem_cons.mpr ⟨zfok_3, List.forall_mem_cons.mpr ⟨zfok_4, List.forall_mem_cons.mpr ⟨zfok_5, List.forall_mem_cons.mpr ⟨zfok_6, List.forall_mem_cons.mpr ⟨zfok_7, List.forall_mem_cons.mpr ⟨zfok_8, List.forall_mem_cons.mpr ⟨zfok_9, List.forall_mem_cons.mpr ⟨zfok_10, List.forall_mem_cons.mpr ⟨zfok_11, List.forall_mem_cons.mpr ⟨zfok_12, List.forall_mem_cons.mpr ⟨zfok_13, List.forall_mem_cons.mpr ⟨zfok_14, List.forall_mem_cons.mpr ⟨zfok_15, List.forall_mem_cons.mpr ⟨zfok_16, List.forall_mem_cons.mpr ⟨zfok_17, List.forall_mem_cons.mpr ⟨zfok_18, List.forall_mem_cons.mpr ⟨zfok_19, List.forall_mem_cons.mpr ⟨zfok_20, List.forall_mem_cons.mpr ⟨zfok_21, List.forall_mem_cons.mpr ⟨zfok_22, List.forall_mem_cons.mpr ⟨zfok_23, List.forall_mem_cons.mpr ⟨zfok_24, List.forall_mem_cons.mpr ⟨zfok_25, List.forall_mem_cons.mpr ⟨zfok_26, List.forall_mem_cons.mpr ⟨zfok_27, List.forall_mem_cons.mpr ⟨zfok_28, List.forall_mem_cons.mpr ⟨zfok_29, List.forall_mem_cons.mpr ⟨zfok_30, List.forall_mem_cons.mpr ⟨zfok_31, List.forall_mem_cons.mpr ⟨zfok_32, List.forall_mem_cons.mpr ⟨zfok_33, List.forall_mem_cons.mpr ⟨zfok_34, List.forall_mem_cons.mpr ⟨zfok_35, List.forall_mem_cons.mpr ⟨zfok_36, List.forall_mem_cons.mpr ⟨zfok_37, List.forall_mem_cons.mpr ⟨zfok_38, List.forall_mem_cons.mpr ⟨zfok_39, List.forall_mem_cons.mpr ⟨zfok_40, List.forall_mem_cons.mpr ⟨zfok_41, List.forall_mem_cons.mpr ⟨zfok_42, List.forall_mem_cons.mpr ⟨zfok_43, List.forall_mem_cons.mpr ⟨zfok_44, List.forall_mem_cons.mpr ⟨zfok_45, List.forall_mem_cons.mpr ⟨zfok_46, List.forall_mem_cons.mpr ⟨zfok_47, List.forall_mem_cons.mpr ⟨zfok_48, List.forall_mem_cons.mpr ⟨zfok_49, fun _ h => absurd h List.not_mem_nil⟩⟩⟩⟩⟩⟩⟩⟩⟩⟩⟩⟩⟩⟩⟩⟩⟩⟩⟩⟩⟩⟩⟩⟩⟩⟩⟩⟩⟩⟩⟩⟩⟩⟩⟩⟩⟩⟩⟩⟩⟩⟩⟩⟩⟩⟩⟩⟩⟩⟩
def zKok (q : Nat × Nat × Int) : Prop := Cond.constant (zR q.1) q.2.1 (Int32.ofInt q.2.2) ∈ zGT ∧ -2147483648 ≤ q.2.2 ∧ q.2.2 < 2147483648
def zKLok (q : Nat × Nat × Int) : Prop := Cond.constantLong (zR q.1) q.2.1 (Int64.ofInt q.2.2) ∈ zGT ∧ -9223372036854775808 ≤ q.2.2 ∧ q.2.2 < 9223372036854775808
theorem zkok_0 : zKok (5, 187, 1103515245) := ⟨zGT_2 221 rfl rfl, by decide, by decide⟩
theorem zkok_1 : zKok (5, 188, 2147483647) := ⟨zGT_2 222 rfl rfl, by decide, by decide⟩
theorem zkok_2 : zKok (5, 189, 65536) := ⟨zGT_2 223 rfl rfl, by decide, by decide⟩
theorem zkok_3 : zKok (6, 144, 65536) := ⟨zGT_4 59 rfl rfl, by decide, by decide⟩
theorem zkok_4 : zKok (9, 265, 1431655765) := ⟨zGT_2 125 rfl rfl, by decide, by decide⟩
theorem zkok_5 : zKok (9, 266, 858993459) := ⟨zGT_2 126 rfl rfl, by decide, by decide⟩
theorem zkok_6 : zKok (9, 267, 252645135) := ⟨zGT_2 127 rfl rfl, by decide, by decide⟩
set_option maxRecDepth 20000 in
theorem zkok : ∀ q ∈ zcst, zKok q := List.forall_mem_cons.mpr ⟨zkok_0, List.forall_mem_cons.mpr ⟨zkok_1, List.forall_mem_cons.mpr ⟨zkok_2, List.forall_mem_cons.mpr ⟨zkok_3, List.forall_mem_cons.mpr ⟨zkok_4, List.forall_mem_cons.mpr ⟨zkok_5, List.forall_mem_cons.mpr ⟨zkok_6, fun _ h => absurd h List.not_mem_nil⟩⟩⟩⟩⟩⟩⟩
theorem zklok_0 : zKLok (1, 71, 2) := ⟨zGT_1 207 rfl rfl, by decide, by decide⟩
theorem zklok_1 : zKLok (6, 62, 2) := ⟨zGT_3 132 rfl rfl, by decide, by decide⟩
theorem zklok_2 : zKLok (6, 64, 4) := ⟨zGT_3 133 rfl rfl, by decide, by decide⟩
theorem zklok_3 : zKLok (6, 70, 3) := ⟨zGT_3 145 rfl rfl, by decide, by decide⟩
theorem zklok_4 : zKLok (6, 72, 99) := ⟨zGT_3 146 rfl rfl, by decide, by decide⟩
theorem zklok_5 : zKLok (6, 74, 9) := ⟨zGT_3 151 rfl rfl, by decide, by decide⟩
theorem zklok_6 : zKLok (6, 87, 48) := ⟨zGT_3 180 rfl rfl, by decide, by decide⟩
theorem zklok_7 : zKLok (6, 92, 8) := ⟨zGT_3 193 rfl rfl, by decide, by decide⟩
theorem zklok_8 : zKLok (6, 94, 255) := ⟨zGT_3 194 rfl rfl, by decide, by decide⟩
theorem zklok_9 : zKLok (6, 96, 32) := ⟨zGT_3 195 rfl rfl, by decide, by decide⟩
theorem zklok_10 : zKLok (6, 98, 126) := ⟨zGT_3 196 rfl rfl, by decide, by decide⟩
theorem zklok_11 : zKLok (6, 107, 5) := ⟨zGT_3 208 rfl rfl, by decide, by decide⟩
theorem zklok_12 : zKLok (6, 115, 16) := ⟨zGT_3 232 rfl rfl, by decide, by decide⟩
theorem zklok_13 : zKLok (6, 120, 12) := ⟨zGT_4 5 rfl rfl, by decide, by decide⟩
theorem zklok_14 : zKLok (6, 129, (-1)) := ⟨zGT_4 30 rfl rfl, by decide, by decide⟩
theorem zklok_15 : zKLok (6, 138, 1103515245) := ⟨zGT_4 56 rfl rfl, by decide, by decide⟩
theorem zklok_16 : zKLok (6, 140, 12345) := ⟨zGT_4 57 rfl rfl, by decide, by decide⟩
theorem zklok_17 : zKLok (6, 142, 2147483647) := ⟨zGT_4 58 rfl rfl, by decide, by decide⟩
theorem zklok_18 : zKLok (11, 39, 4294967295) := ⟨zGT_4 111 rfl rfl, by decide, by decide⟩
set_option maxRecDepth 20000 in
theorem zklok : ∀ q ∈ zcstl, zKLok q := List.forall_mem_cons.mpr ⟨zklok_0, List.forall_mem_cons.mpr ⟨zklok_1, List.forall_mem_cons.mpr ⟨zklok_2, List.forall_mem_cons.mpr ⟨zklok_3, List.forall_mem_cons.mpr ⟨zklok_4, List.forall_mem_cons.mpr ⟨zklok_5, List.forall_mem_cons.mpr ⟨zklok_6, List.forall_mem_cons.mpr ⟨zklok_7, List.forall_mem_cons.mpr ⟨zklok_8, List.forall_mem_cons.mpr ⟨zklok_9, List.forall_mem_cons.mpr ⟨zklok_10, List.forall_mem_cons.mpr ⟨zklok_11, List.forall_mem_cons.mpr ⟨zklok_12, List.forall_mem_cons.mpr ⟨zklok_13, List.forall_mem_cons.mpr ⟨zklok_14, List.forall_mem_cons.mpr ⟨zklok_15, List.forall_mem_cons.mpr ⟨zklok_16, List.forall_mem_cons.mpr ⟨zklok_17, List.forall_mem_cons.mpr ⟨zklok_18, fun _ h => absurd h List.not_mem_nil⟩⟩⟩⟩⟩⟩⟩⟩⟩⟩⟩⟩⟩⟩⟩⟩⟩⟩⟩
def zAok (q : Nat × Nat) : Prop := Cond.methodLink (zR q.1) q.2 arraycopyName ∈ zGT
theorem zaok_0 : zAok (0, 40) := zGT_1 189 rfl rfl
theorem zaok_1 : zAok (1, 35) := zGT_3 4 rfl rfl
theorem zaok_2 : zAok (5, 241) := zGT_3 74 rfl rfl
set_option maxRecDepth 20000 in
theorem zaok : ∀ q ∈ zacp, zAok q := List.forall_mem_cons.mpr ⟨zaok_0, List.forall_mem_cons.mpr ⟨zaok_1, List.forall_mem_cons.mpr ⟨zaok_2, fun _ h => absurd h List.not_mem_nil⟩⟩⟩
theorem zac_nat : Cond.native arraycopyName ∈ zGT := zGT_1 191 rfl rfl
theorem zac_stat : Cond.static arraycopyName ∈ zGT := zGT_1 190 rfl rfl
theorem zac_ini : Cond.initialized "java/lang/System" ∈ zGT := zGT_1 9 rfl rfl
def zXok (q : Nat × Nat) : Prop := Cond.methodLink (zR q.1) q.2 Lib.Math.max.name ∈ zGT
def zIok (q : Nat × Nat) : Prop := Cond.methodLink (zR q.1) q.2 Lib.Math.min.name ∈ zGT
theorem zxok_0 : zXok (0, 19) := zGT_1 186 rfl rfl
theorem zxok_1 : zXok (5, 157) := zGT_2 160 rfl rfl
theorem zxok_2 : zXok (8, 92) := zGT_2 50 rfl rfl
set_option maxRecDepth 20000 in
theorem zxok : ∀ q ∈ zmxl, zXok q := List.forall_mem_cons.mpr ⟨zxok_0, List.forall_mem_cons.mpr ⟨zxok_1, List.forall_mem_cons.mpr ⟨zxok_2, fun _ h => absurd h List.not_mem_nil⟩⟩⟩
theorem ziok_0 : zIok (0, 37) := zGT_1 183 rfl rfl
theorem ziok_1 : zIok (1, 29) := zGT_2 184 rfl rfl
theorem ziok_2 : zIok (5, 144) := zGT_2 147 rfl rfl
theorem ziok_3 : zIok (8, 38) := zGT_2 51 rfl rfl
set_option maxRecDepth 20000 in
theorem ziok : ∀ q ∈ zmnl, zIok q := List.forall_mem_cons.mpr ⟨ziok_0, List.forall_mem_cons.mpr ⟨ziok_1, List.forall_mem_cons.mpr ⟨ziok_2, List.forall_mem_cons.mpr ⟨ziok_3, fun _ h => absurd h List.not_mem_nil⟩⟩⟩⟩
theorem zmx_stat : Cond.static Lib.Math.max.name ∈ zGT := zGT_1 187 rfl rfl
theorem zmn_stat : Cond.static Lib.Math.min.name ∈ zGT := zGT_1 184 rfl rfl
theorem zm_ini : Cond.initialized "java/lang/Math" ∈ zGT := zGT_1 8 rfl rfl
theorem zmx_code : Cond.code Lib.Math.max.name Lib.Math.max.code 2 (some .int) ∈ zGT := zGT_1 188 rfl rfl
theorem zmn_code : Cond.code Lib.Math.min.name Lib.Math.min.code 2 (some .int) ∈ zGT := zGT_1 185 rfl rfl
theorem zlk_cs : Cond.fieldLink "java/lang/String" 38 "java/lang/String" "COMPACT_STRINGS" "Z" ∈ zGT := zGT_2 34 rfl rfl
theorem zlk_val : Cond.fieldLink "java/lang/String" 9 "java/lang/String" "value" "[B" ∈ zGT := zGT_4 113 rfl rfl
theorem zlk_cod : Cond.fieldLink "java/lang/String" 15 "java/lang/String" "coder" "B" ∈ zGT := zGT_4 112 rfl rfl
theorem zin_0 : ∀ w ∈ u_ws (zR 0) (zT 0) (zNf 0), w ∈ zGT := by
  intro w h
  refine List.mem_filter.mpr ⟨?_, ?_⟩
  · exact (show ∀ w ∈ u_ws (zR 0) (zT 0) (zNf 0), w ∈ lw_tbl from by decide +kernel) w h
  · exact (show ∀ w ∈ u_ws (zR 0) (zT 0) (zNf 0), goodWord w = true from by decide +kernel) w h
theorem zin_1 : ∀ w ∈ u_ws (zR 1) (zT 1) (zNf 1), w ∈ zGT := by
  intro w h
  refine List.mem_filter.mpr ⟨?_, ?_⟩
  · exact (show ∀ w ∈ u_ws (zR 1) (zT 1) (zNf 1), w ∈ lw_tbl from by decide +kernel) w h
  · exact (show ∀ w ∈ u_ws (zR 1) (zT 1) (zNf 1), goodWord w = true from by decide +kernel) w h
theorem zin_2 : ∀ w ∈ u_ws (zR 2) (zT 2) (zNf 2), w ∈ zGT := by
  intro w h
  refine List.mem_filter.mpr ⟨?_, ?_⟩
  · exact (show ∀ w ∈ u_ws (zR 2) (zT 2) (zNf 2), w ∈ lw_tbl from by decide +kernel) w h
  · exact (show ∀ w ∈ u_ws (zR 2) (zT 2) (zNf 2), goodWord w = true from by decide +kernel) w h
theorem zin_3 : ∀ w ∈ u_ws (zR 3) (zT 3) (zNf 3), w ∈ zGT := by
  intro w h
  refine List.mem_filter.mpr ⟨?_, ?_⟩
  · exact (show ∀ w ∈ u_ws (zR 3) (zT 3) (zNf 3), w ∈ lw_tbl from by decide +kernel) w h
  · exact (show ∀ w ∈ u_ws (zR 3) (zT 3) (zNf 3), goodWord w = true from by decide +kernel) w h
theorem zin_4 : ∀ w ∈ u_ws (zR 4) (zT 4) (zNf 4), w ∈ zGT := by
  intro w h
  refine List.mem_filter.mpr ⟨?_, ?_⟩
  · exact (show ∀ w ∈ u_ws (zR 4) (zT 4) (zNf 4), w ∈ lw_tbl from by decide +kernel) w h
  · exact (show ∀ w ∈ u_ws (zR 4) (zT 4) (zNf 4), goodWord w = true from by decide +kernel) w h
theorem zin_5 : ∀ w ∈ u_ws (zR 5) (zT 5) (zNf 5), w ∈ zGT := by
  intro w h
  refine List.mem_filter.mpr ⟨?_, ?_⟩
  · exact (show ∀ w ∈ u_ws (zR 5) (zT 5) (zNf 5), w ∈ lw_tbl from by decide +kernel) w h
  · exact (show ∀ w ∈ u_ws (zR 5) (zT 5) (zNf 5), goodWord w = true from by decide +kernel) w h
theorem zin_6 : ∀ w ∈ u_ws (zR 6) (zT 6) (zNf 6), w ∈ zGT := by
  intro w h
  refine List.mem_filter.mpr ⟨?_, ?_⟩
  · exact (show ∀ w ∈ u_ws (zR 6) (zT 6) (zNf 6), w ∈ lw_tbl from by decide +kernel) w h
  · exact (show ∀ w ∈ u_ws (zR 6) (zT 6) (zNf 6), goodWord w = true from by decide +kernel) w h
end
section
/-! the small machine and the heap: what a memory is as cells; the locals; numbers -/
def zA (ad : Nat → Nat) : Nat → Prop := fun q => ∃ k : Nat, k < 41 ∧ q = ad k
def zcv (ad : Nat → Nat) : zV → Value := fun v => match v with
  | .inl x => .int (Int32.ofInt x)
  | .inr (.inl x) => .long (Int64.ofInt x)
  | .inr (.inr (.inl k)) => .ref (ad k)
  | .inr (.inr (.inr _)) => .null
def zi32 (x : Int) : Prop := -2147483648 ≤ x ∧ x < 2147483648
def zi64 (x : Int) : Prop := -9223372036854775808 ≤ x ∧ x < 9223372036854775808
def zokV : zV → Prop := fun v => match v with
  | .inl x => zi32 x
  | .inr (.inl x) => zi64 x
  | _ => True
def zokM (σ : zM) : Prop := (∀ n, zi32 (σ.1 n)) ∧ ∀ a j, zi32 (σ.2 a j)
def zfw (ad : Nat → Nat) (σ : zM) (p k : Nat) : Value := match zfv p k with
  | .inl n => .int (Int32.ofInt (σ.1 n))
  | .inr q => .ref (ad q)
def zcell (dA ad : Nat → Nat) (σ : zM) (p : Nat) : va_E :=
  if zcls p < 7 then .inr (zcls p, (List.range (zNf (zcls p))).map (zfw ad σ p))
  else if zcls p = 20 then .inl (dA 0, (zarr p).1, .inl (fun j => Int32.ofInt (σ.2 (zarr p).2 j)))
  else if zcls p = 21 then .inl (dA 1, (zarr p).1, .inl (fun j => Int32.ofInt (σ.2 (zarr p).2 j)))
  else .inl (dA 2, 4, .inr (.inr (.inr (.inr (fun j => some (ad (zshp j)))))))
def zwl (dA ad : Nat → Nat) (σ : zM) : va_W := (List.range 41).map (fun p => (ad p, zcell dA ad σ p))
abbrev ztys (dA : Nat → Nat) : List (ClassId × FieldType) := [(dA 0, .int), (dA 1, .boolean), (dA 2, .object "PaleFence$Sheet")]
theorem zwl_at {dA ad : Nat → Nat} {σ : zM} {p : Nat} (h : p < 41) : (zwl dA ad σ)[p]? = some (ad p, zcell dA ad σ p) := by
  simp [zwl, List.getElem?_map, List.getElem?_range h]
theorem zwl_len {dA ad : Nat → Nat} {σ : zM} : (zwl dA ad σ).length = 41 := by simp [zwl]
theorem zcls_lt {p : Nat} (h : zcls p < 23) (h7 : zcls p ≠ 7) : p < 41 := by
  by_cases hp : p < 44
  · have : ∀ q, q < 44 → zcls q < 23 → zcls q ≠ 7 → q < 41 := by decide +kernel
    exact this p hp h h7
  · exfalso
    have e : zcls p = 99 := by
      obtain ⟨q, rfl⟩ : ∃ q, p = q + 44 := ⟨p - 44, by omega⟩
      rfl
    omega
/-- the fields of an object: which scalars are whose -/
def zfo : Nat → Nat × Nat := fun n => match n with | 0 => (2, 1) | 1 => (7, 1) | 2 => (22, 1) | 3 => (24, 1) | 4 => (4, 0) | 5 => (4, 1) | 6 => (4, 2) | 7 => (9, 0) | 8 => (9, 1) | 9 => (9, 2) | 10 => (1, 2) | 11 => (6, 2) | 12 => (0, 2) | 13 => (11, 1) | 14 => (14, 1) | 15 => (14, 2) | 16 => (16, 1) | 17 => (16, 2) | 18 => (18, 1) | 19 => (18, 2) | 20 => (20, 1) | 21 => (20, 2) | 22 => (27, 2) | 23 => (27, 4) | _ => (99, 99)
theorem zfo_ok : ∀ p, p < 41 → ∀ k, k < 15 → k < zNf (zcls p) → (match zfv p k with | .inl n => decide (zfo n = (p, k)) | .inr _ => true) = true := by decide +kernel
theorem zfv_inj : ∀ p, p < 41 → ∀ k, k < 15 → ∀ p', p' < 41 → ∀ k', k' < 15 → k < zNf (zcls p) → k' < zNf (zcls p') → ∀ n, zfv p k = .inl n → zfv p' k' = .inl n → p = p' ∧ k = k' := by
  intro p hp k hk p' hp' k' hk' h1 h2 n e1 e2
  have a1 := zfo_ok p hp k hk h1
  have a2 := zfo_ok p' hp' k' hk' h2
  rw [e1] at a1
  rw [e2] at a2
  have b1 := of_decide_eq_true a1
  have b2 := of_decide_eq_true a2
  have := b1.symm.trans b2
  exact ⟨congrArg Prod.fst this, congrArg Prod.snd this⟩
theorem zarr_inj : ∀ p, p < 41 → ∀ p', p' < 41 → (zcls p = 20 ∨ zcls p = 21) → (zcls p' = 20 ∨ zcls p' = 21) → (zarr p).2 = (zarr p').2 → p = p' := by decide +kernel
theorem zNf_le : ∀ p, p < 41 → zNf (zcls p) ≤ 15 := by decide +kernel
theorem zcell_setS {dA ad : Nat → Nat} {σ : zM} {p b n : Nat} {x : Int} (hp : p < 41) (hc : zcls p < 7) (hb : b < zNf (zcls p)) (hf : zfv p b = .inl n) :
    (zwl dA ad σ).set p (ad p, .inr (zcls p, ((List.range (zNf (zcls p))).map (zfw ad σ p)).set b (.int (Int32.ofInt x)))) = zwl dA ad (zsetS σ n x) := by
  apply List.ext_getElem?
  intro q
  by_cases hq : q < 41
  · rw [zwl_at hq]
    by_cases hqp : q = p
    · subst hqp
      rw [List.getElem?_set_self (by rw [zwl_len]; exact hq)]
      have e : zcell dA ad (zsetS σ n x) q = .inr (zcls q, (List.range (zNf (zcls q))).map (zfw ad (zsetS σ n x) q)) := by
        unfold zcell; rw [if_pos hc]
      rw [e]
      refine congrArg (fun l : List Value => some (ad q, (Sum.inr (zcls q, l) : va_E))) ?_
      apply List.ext_getElem?
      intro k
      by_cases hk : k < zNf (zcls q)
      · by_cases hkb : k = b
        · subst hkb
          rw [List.getElem?_set_self (by simpa using hk)]
          simp [List.getElem?_map, List.getElem?_range hk, zfw, hf, zsetS, zup]
        · rw [List.getElem?_set_ne (Ne.symm hkb)]
          simp only [List.getElem?_map, List.getElem?_range hk, Option.map_some]
          congr 1
          unfold zfw
          cases hz : zfv q k with
          | inl n' =>
            have hne : n' ≠ n := fun e => hkb (zfv_inj q hq k (by have := zNf_le q hq; omega) q hq b (by have := zNf_le q hq; omega) hk hb n (e ▸ hz) hf).2
            simp [zsetS, zup, hne]
          | inr r => rfl
      · rw [List.getElem?_eq_none (by simpa using hk), List.getElem?_eq_none (by simpa using hk)]
    · rw [List.getElem?_set_ne (Ne.symm hqp), zwl_at hq]
      congr 2
      unfold zcell
      split
      · rename_i hq7
        refine congrArg (fun l : List Value => (Sum.inr (zcls q, l) : va_E)) ?_
        apply List.ext_getElem?
        intro k
        by_cases hk : k < zNf (zcls q)
        · simp only [List.getElem?_map, List.getElem?_range hk, Option.map_some]
          congr 1
          unfold zfw
          cases hz : zfv q k with
          | inl n' =>
            have hne : n' ≠ n := fun e => hqp (zfv_inj q hq k (by have := zNf_le q hq; omega) p hp b (by have := zNf_le p hp; omega) hk hb n (e ▸ hz) hf).1
            simp [zsetS, zup, hne]
          | inr r => rfl
        · rw [List.getElem?_eq_none (by simpa using hk), List.getElem?_eq_none (by simpa using hk)]
      · rfl
  · rw [List.getElem?_eq_none (by simp [zwl_len]; omega), List.getElem?_eq_none (by simp [zwl_len]; omega)]
theorem zcell_setA {dA ad : Nat → Nat} {σ : zM} {p t : Nat} {f : Nat → Int} {g : Nat → Int32} (hp : p < 41) (hc : zcls p = 20 ∧ t = 0 ∨ zcls p = 21 ∧ t = 1) (hg : g = fun j => Int32.ofInt (f j)) :
    (zwl dA ad σ).set p (ad p, .inl (dA t, (zarr p).1, .inl g)) = zwl dA ad (zsetA σ (zarr p).2 f) := by
  have hc' : zcls p = 20 ∨ zcls p = 21 := by rcases hc with h | h <;> simp [h.1]
  apply List.ext_getElem?
  intro q
  by_cases hq : q < 41
  · rw [zwl_at hq]
    by_cases hqp : q = p
    · subst hqp
      rw [List.getElem?_set_self (by rw [zwl_len]; exact hq)]
      congr 2
      unfold zcell
      rcases hc with ⟨h, rfl⟩ | ⟨h, rfl⟩
      · rw [h, if_neg (by decide), if_pos rfl, hg]
        simp [zsetA, zupA]
      · rw [h, if_neg (by decide), if_neg (by decide), if_pos rfl, hg]
        simp [zsetA, zupA]
    · rw [List.getElem?_set_ne (Ne.symm hqp), zwl_at hq]
      congr 2
      unfold zcell
      split
      · rfl
      · split
        · rename_i h1 h2
          have hne : (zarr q).2 ≠ (zarr p).2 := fun e => hqp (zarr_inj q hq p hp (Or.inl h2) hc' e)
          simp [zsetA, zupA, hne]
        · split
          · rename_i h1 h2 h3
            have hne : (zarr q).2 ≠ (zarr p).2 := fun e => hqp (zarr_inj q hq p hp (Or.inr h3) hc' e)
            simp [zsetA, zupA, hne]
          · rfl
  · rw [List.getElem?_eq_none (by simp [zwl_len]; omega), List.getElem?_eq_none (by simp [zwl_len]; omega)]
/-! numbers -/
theorem zof32 (x : Int32) : zi32 x.toInt := ⟨by have := x.le_toInt; omega, by have := x.toInt_lt; omega⟩
theorem zof64 (x : Int64) : zi64 x.toInt := ⟨by have := x.le_toInt; omega, by have := x.toInt_lt; omega⟩
theorem zto32 {x : Int} (h : zi32 x) : (Int32.ofInt x).toInt = x := Int32.toInt_ofInt_of_le (by have := h.1; omega) (by have := h.2; omega)
theorem zto64 {x : Int} (h : zi64 x) : (Int64.ofInt x).toInt = x := Int64.toInt_ofInt_of_le (by have := h.1; omega) (by have := h.2; omega)
theorem zbin_ok (b : Nat) (x y : Int) : zi32 (zbin b x y) := by
  unfold zbin; split <;> exact zof32 _
theorem zlbin_ok (b : Nat) (x y : Int) : zi64 (zlbin b x y) := by
  unfold zlbin; split <;> exact zof64 _
theorem zlsh_ok (b : Nat) (x y : Int) : zi64 (zlsh b x y) := by
  unfold zlsh; split <;> exact zof64 _
theorem zeq32 {x y : Int} (hx : zi32 x) (hy : zi32 y) : Int32.ofInt x = Int32.ofInt y ↔ x = y := by
  rw [← Int32.toInt_inj, zto32 hx, zto32 hy]
theorem zlt32 {x y : Int} (hx : zi32 x) (hy : zi32 y) : Int32.ofInt x < Int32.ofInt y ↔ x < y := by
  rw [Int32.lt_iff_toInt_lt, zto32 hx, zto32 hy]
theorem zle32 {x y : Int} (hx : zi32 x) (hy : zi32 y) : Int32.ofInt x ≤ Int32.ofInt y ↔ x ≤ y := by
  rw [Int32.le_iff_toInt_le, zto32 hx, zto32 hy]
theorem zcl32 {x : Int} (hx : zi32 x) : (Int32.ofInt x).toNatClampNeg = x.toNat := by
  show (Int32.ofInt x).toInt.toNat = _
  rw [zto32 hx]
theorem zi320 : zi32 0 := ⟨by decide, by decide⟩
theorem zin32 {x : Int} {n : Nat} (hx : zi32 x) (h : 0 ≤ x ∧ x < n) : vp_in (Int32.ofInt x) n := by
  intro q
  rcases q with q | q
  · have := (zlt32 hx zi320).mp q; omega
  · rw [zcl32 hx] at q; omega
/-! locals -/
def zlc (ad : Nat → Nat) : Nat → List zV → List (Nat × Value)
  | _, [] => []
  | i, v :: l => match v with
    | .inr (.inr (.inr false)) => zlc ad (i + 1) l
    | w => (i, zcv ad w) :: zlc ad (i + 1) l
theorem zlc_mem {ad : Nat → Nat} : ∀ (L : List zV) (i : Nat) (q : Nat × Value), q ∈ zlc ad i L ↔ ∃ (j : Nat) (v : zV), L[j]? = some v ∧ v ≠ vU ∧ q = (i + j, zcv ad v)
  | [], i, q => by simp [zlc]
  | v :: l, i, q => by
    have ih := zlc_mem (ad := ad) l (i + 1) q
    by_cases hv : v = vU
    · subst hv
      show q ∈ zlc ad (i + 1) l ↔ _
      rw [ih]
      constructor
      · rintro ⟨j, w, h1, h2, h3⟩
        exact ⟨j + 1, w, by simpa using h1, h2, by rw [h3]; congr 1; omega⟩
      · rintro ⟨j, w, h1, h2, h3⟩
        cases j with
        | zero => simp at h1; exact absurd h1.symm h2
        | succ j => exact ⟨j, w, by simpa using h1, h2, by rw [h3]; congr 1; omega⟩
    · have e : zlc ad i (v :: l) = (i, zcv ad v) :: zlc ad (i + 1) l := by
        rcases v with x | x | k | b
        · rfl
        · rfl
        · rfl
        · cases b
          · exact absurd rfl hv
          · rfl
      rw [e, List.mem_cons, ih]
      constructor
      · rintro (h | ⟨j, w, h1, h2, h3⟩)
        · exact ⟨0, v, rfl, hv, h⟩
        · exact ⟨j + 1, w, by simpa using h1, h2, by rw [h3]; congr 1; omega⟩
      · rintro ⟨j, w, h1, h2, h3⟩
        cases j with
        | zero =>
          simp at h1
          subst h1
          exact Or.inl h3
        | succ j => exact Or.inr ⟨j, w, by simpa using h1, h2, by rw [h3]; congr 1; omega⟩
theorem zlc_at {ad : Nat → Nat} {L : List zV} {ls : Array Slot} {n i : Nat} {v : zV} (h : lv_has ls n (zlc ad 0 L)) (hL : L[i]? = some v) (hv : v ≠ vU) : ls[i]? = some (.val (zcv ad v)) :=
  h.2.2 (i, zcv ad v) ((zlc_mem L 0 _).mpr ⟨i, v, hL, hv, by simp⟩)
def zlong : zV → Bool := fun v => match v with | .inr (.inl _) => true | _ => false
theorem zlong_cat {ad : Nat → Nat} {v : zV} : ((zcv ad v).category == 2) = zlong v := by
  rcases v with x | x | k | b <;> rfl
theorem zunl_get {L : List zV} {j : Nat} {w : zV} (h : (zunl L)[j]? = some w) : w = vU ∨ (L[j]? = some w ∧ ¬ (j = 0 ∧ zlong w = true)) := by
  cases L with
  | nil => simp [zunl] at h
  | cons v l =>
    cases j with
    | zero =>
      rcases v with x | x | k | b <;> simp [zunl] at h <;> subst h
      · exact Or.inr ⟨rfl, by simp [zlong]⟩
      · exact Or.inl rfl
      · exact Or.inr ⟨rfl, by simp [zlong]⟩
      · exact Or.inr ⟨rfl, by simp [zlong]⟩
    | succ j => exact Or.inr ⟨by simpa [zunl] using h, by omega⟩
theorem zst1_get : ∀ (i : Nat) (v : zV) (L : List zV) (j : Nat) (w : zV), (zst1 i v L)[j]? = some w → w = vU ∨ (j = i ∧ w = v) ∨ (j ≠ i ∧ L[j]? = some w ∧ ¬ (j + 1 = i ∧ zlong w = true))
  | 0, v, [], j, w, h => by simp [zst1] at h
  | 0, v, a :: l, j, w, h => by
    cases j with
    | zero => simp [zst1] at h; exact Or.inr (Or.inl ⟨rfl, h.symm⟩)
    | succ j => exact Or.inr (Or.inr ⟨by omega, by simpa [zst1] using h, by omega⟩)
  | 1, v, [], j, w, h => by simp [zst1] at h
  | 1, v, [a], j, w, h => by
    rcases zunl_get (L := [a]) (j := j) (by simpa [zst1] using h) with q | ⟨q1, q2⟩
    · exact Or.inl q
    · cases j with
      | zero => exact Or.inr (Or.inr ⟨by omega, q1, fun z => q2 ⟨rfl, z.2⟩⟩)
      | succ j => simp at q1
  | 1, v, a :: b :: l, j, w, h => by
    cases j with
    | zero =>
      rcases zunl_get (L := [a]) (j := 0) (w := w) (by simpa [zst1, zunl] using h) with q | ⟨q1, q2⟩
      · exact Or.inl q
      · exact Or.inr (Or.inr ⟨by omega, by simpa using q1, fun z => q2 ⟨rfl, z.2⟩⟩)
    | succ j =>
      cases j with
      | zero => simp [zst1] at h; exact Or.inr (Or.inl ⟨rfl, h.symm⟩)
      | succ j => exact Or.inr (Or.inr ⟨by omega, by simpa [zst1] using h, by omega⟩)
  | n + 2, v, [], j, w, h => by simp [zst1] at h
  | n + 2, v, a :: l, j, w, h => by
    cases j with
    | zero => exact Or.inr (Or.inr ⟨by omega, by simpa [zst1] using h, by omega⟩)
    | succ j =>
      rcases zst1_get (n + 1) v l j w (by simpa [zst1] using h) with q | ⟨q1, q2⟩ | ⟨q1, q2, q3⟩
      · exact Or.inl q
      · exact Or.inr (Or.inl ⟨by omega, q2⟩)
      · exact Or.inr (Or.inr ⟨by omega, by simpa using q2, fun z => q3 ⟨by omega, z.2⟩⟩)
theorem zst1_len : ∀ (i : Nat) (v : zV) (L : List zV), (zst1 i v L).length = L.length
  | 0, _, [] => rfl
  | 0, _, _ :: _ => rfl
  | 1, _, [] => rfl
  | 1, _, [_] => rfl
  | 1, _, _ :: _ :: _ => rfl
  | _ + 2, _, [] => rfl
  | n + 2, v, _ :: l => by simp [zst1, zst1_len (n + 1) v l]
theorem zst1_ok {i : Nat} {v : zV} {L : List zV} (hL : ∀ w ∈ L, zokV w) (hv : zokV v) : ∀ w ∈ zst1 i v L, zokV w := by
  intro w hw
  obtain ⟨j, hj⟩ := List.getElem?_of_mem hw
  rcases zst1_get i v L j w hj with q | ⟨-, q⟩ | ⟨-, q, -⟩
  · rw [q]; trivial
  · rw [q]; exact hv
  · exact hL w (List.mem_of_getElem? q)
theorem zst1_has {ad : Nat → Nat} {ls : Array Slot} {n i : Nat} {v : zV} {L : List zV} (h : lv_has ls n ((i, zcv ad v) :: (zlc ad 0 L).filter (fun q => !(q.1 == i) && !(q.1 + 1 == i && q.2.category == 2)))) : lv_has ls n (zlc ad 0 (zst1 i v L)) := by
  refine ⟨h.1, h.2.1, fun q hq => h.2.2 q ?_⟩
  obtain ⟨j, w, h1, h2, rfl⟩ := (zlc_mem _ 0 q).mp hq
  rcases zst1_get i v L j w h1 with q | ⟨q1, q2⟩ | ⟨q1, q2, q3⟩
  · exact absurd q h2
  · subst q1; subst q2
    simp
  · refine List.mem_cons_of_mem _ (List.mem_filter.mpr ⟨(zlc_mem _ 0 _).mpr ⟨j, w, q2, h2, rfl⟩, ?_⟩)
    simp only [zlong_cat, Nat.zero_add]
    rw [Bool.and_eq_true]
    refine ⟨by simpa using q1, ?_⟩
    cases hj : (j + 1 == i) with
    | false => rfl
    | true =>
      have : j + 1 = i := by simpa using hj
      cases hl : zlong w with
      | false => rfl
      | true => exact absurd ⟨this, hl⟩ q3
theorem zst2_has {ad : Nat → Nat} {ls : Array Slot} {n i : Nat} {x : Int} {L : List zV} (h : lv_has ls n ((i, .long (Int64.ofInt x)) :: (zlc ad 0 L).filter (fun q => !(q.1 == i) && (!(q.1 == i + 1) && !(q.1 + 1 == i && q.2.category == 2))))) : lv_has ls n (zlc ad 0 (zst2 i (.inr (.inl x)) L)) := by
  refine ⟨h.1, h.2.1, fun q hq => h.2.2 q ?_⟩
  obtain ⟨j, w, h1, h2, rfl⟩ := (zlc_mem _ 0 q).mp hq
  rcases zst1_get i _ _ j w h1 with q | ⟨q1, q2⟩ | ⟨q1, q2, q3⟩
  · exact absurd q h2
  · subst q1; subst q2
    rw [Nat.zero_add]
    exact List.mem_cons_self
  · rcases zst1_get (i + 1) vU L j w q2 with r | ⟨-, r⟩ | ⟨r1, r2, -⟩
    · exact absurd r h2
    · exact absurd r h2
    · refine List.mem_cons_of_mem _ (List.mem_filter.mpr ⟨(zlc_mem _ 0 _).mpr ⟨j, w, r2, h2, rfl⟩, ?_⟩)
      simp only [zlong_cat, Nat.zero_add]
      rw [Bool.and_eq_true, Bool.and_eq_true]
      refine ⟨by simpa using q1, by simpa using r1, ?_⟩
      cases hj : (j + 1 == i) with
      | false => rfl
      | true =>
        have : j + 1 = i := by simpa using hj
        cases hl : zlong w with
        | false => rfl
        | true => exact absurd ⟨this, hl⟩ q3
theorem zcut_get {k : Nat} {L : List zV} {j : Nat} {w : zV} (h : (zcut k L)[j]? = some w) : w = vU ∨ L[j]? = some w := by
  unfold zcut at h
  rw [List.getElem?_append] at h
  split at h
  · rw [List.getElem?_take] at h
    split at h
    · exact Or.inr h
    · cases h
  · rw [List.getElem?_replicate] at h
    split at h
    · exact Or.inl (Option.some.inj h).symm
    · cases h
theorem zcut_len {k : Nat} {L : List zV} : (zcut k L).length = L.length := by
  simp [zcut]; omega
theorem zcut_has {ad : Nat → Nat} {ls : Array Slot} {n k : Nat} {L : List zV} (h : lv_has ls n (zlc ad 0 L)) : lv_has ls n (zlc ad 0 (zcut k L)) := by
  refine ⟨h.1, h.2.1, fun q hq => h.2.2 q ?_⟩
  obtain ⟨j, w, h1, h2, rfl⟩ := (zlc_mem _ 0 q).mp hq
  rcases zcut_get h1 with q | q
  · exact absurd q h2
  · exact (zlc_mem _ 0 _).mpr ⟨j, w, q, h2, rfl⟩
theorem zcut_ok {k : Nat} {L : List zV} (hL : ∀ w ∈ L, zokV w) : ∀ w ∈ zcut k L, zokV w := by
  intro w hw
  obtain ⟨j, hj⟩ := List.getElem?_of_mem hw
  rcases zcut_get hj with q | q
  · rw [q]; trivial
  · exact hL w (List.mem_of_getElem? q)
theorem zokM_S {σ : zM} {n : Nat} {x : Int} (h : zokM σ) (hx : zi32 x) : zokM (zsetS σ n x) := by
  refine ⟨fun j => ?_, h.2⟩
  show zi32 (if j = n then x else σ.1 j)
  split
  · exact hx
  · exact h.1 j
theorem zokM_A {σ : zM} {g : Nat} {f : Nat → Int} (h : zokM σ) (hf : ∀ j, zi32 (f j)) : zokM (zsetA σ g f) := by
  refine ⟨h.1, fun a j => ?_⟩
  show zi32 ((if a = g then f else σ.2 a) j)
  split
  · exact hf j
  · exact h.2 a j
theorem zok_up {f : Nat → Int} {k : Nat} {x : Int} (hf : ∀ j, zi32 (f j)) (hx : zi32 x) : ∀ j, zi32 (zup f k x j) := by
  intro j
  unfold zup
  split
  · exact hx
  · exact hf j
theorem zpop_spec : ∀ (n : Nat) (acc st as r : List zV), zpop n acc st = some (as, r) → ∃ pre, st = pre ++ r ∧ as = pre.reverse ++ acc ∧ pre.length = n
  | 0, acc, st, as, r, h => by
    simp [zpop] at h
    exact ⟨[], by simp [h.2], by simp [h.1], rfl⟩
  | n + 1, acc, [], as, r, h => by simp [zpop] at h
  | n + 1, acc, v :: st, as, r, h => by
    obtain ⟨pre, h1, h2, h3⟩ := zpop_spec n (v :: acc) st as r (by simpa [zpop] using h)
    exact ⟨v :: pre, by simp [h1], by simp [h2], by simp [h3]⟩
theorem zcsum_eq {ad : Nat → Nat} : ∀ r : List zV, ((r.map (zcv ad)).map fun v => v.category).sum = zcsum r
  | [] => rfl
  | v :: l => by
    have ih := zcsum_eq (ad := ad) l
    rcases v with x | x | k | b <;> simp only [List.map_cons, List.sum_cons, ih] <;> rfl
theorem zcl_at : ∀ a, a < 7 → vwCl[a]? = some (zR a, zT a, zNf a) := by
  intro a h
  match a, h with
  | 0, _ => rfl
  | 1, _ => rfl
  | 2, _ => rfl
  | 3, _ => rfl
  | 4, _ => rfl
  | 5, _ => rfl
  | 6, _ => rfl
theorem zin_all : ∀ a, a < 7 → ∀ w ∈ u_ws (zR a) (zT a) (zNf a), w ∈ zGT := by
  intro a h
  match a, h with
  | 0, _ => exact zin_0
  | 1, _ => exact zin_1
  | 2, _ => exact zin_2
  | 3, _ => exact zin_3
  | 4, _ => exact zin_4
  | 5, _ => exact zin_5
  | 6, _ => exact zin_6
theorem zty_ok : ∀ a, a < 7 → ∀ k, k < zNf a → parseFieldDescriptor (zT a k).2.2.1 = some (zty a k) := by
  intro a h
  match a, h with
  | 0, _ => exact tyX0_ok
  | 1, _ => exact tyX1_ok
  | 2, _ => exact tyX2_ok
  | 3, _ => exact tyX3_ok
  | 4, _ => exact tyX4_ok
  | 5, _ => exact tyX5_ok
  | 6, _ => exact tyX6_ok
theorem znm_ok : ∀ a, a < 7 → ∀ i, i < zNf a → ∀ j, j < zNf a → i ≠ j → (zT a i).2.1 ≠ (zT a j).2.1 := by
  intro a h
  match a, h with
  | 0, _ => exact nmX0
  | 1, _ => exact nmX1
  | 2, _ => exact nmX2
  | 3, _ => exact nmX3
  | 4, _ => exact nmX4
  | 5, _ => exact nmX5
  | 6, _ => exact nmX6
theorem zcls_7 {q : Nat} (h : zcls q = 7) : q = 41 := by
  by_cases hp : q < 44
  · have : ∀ q, q < 44 → zcls q = 7 → q = 41 := by decide +kernel
    exact this q hp h
  · exfalso
    obtain ⟨r, rfl⟩ : ∃ r, q = r + 44 := ⟨q - 44, by omega⟩
    have e : zcls (r + 44) = 99 := rfl
    omega
theorem zown_obj : ∀ a, a < 138 → zkd a = 0 → zown a ≤ 7 := by decide +kernel
end
section
/-! the small machine is the machine: one step -/
def zNW (U : State) : Prop := (∀ q ∈ zfld, q.2.2.1 = 1 → va_Nw (.fieldLinkNest (zR q.1) q.2.1 (zR q.2.2.2.1) (zT q.2.2.2.1 q.2.2.2.2).2.1 (zT q.2.2.2.1 q.2.2.2.2).2.2.1 "PaleFence") U) ∧ (∀ q ∈ zcall, q.2.2.1 = 1 → va_Nw (.methodLinkNest (zR q.1) q.2.1 (zy q.2.2.2) "PaleFence") U)
def zstrB : List (List Int32) := [[114, 119, 98, 103]]
def zEnv (D : va_G) (dA ad : Nat → Nat) (U : State) (H : Heap) : Prop :=
  va_K D vwCl (ztys dA) U ∧ zNW U ∧ vk_S 1 [4] zstrB (fun _ => ad 41) (fun _ => ad 42) (zA ad) U H ∧ va_Z "java/lang/String" "COMPACT_STRINGS" "Z" (.int 1) (zA ad) U H ∧ vk_R "PaleFence" 112 "rwbg" (ad 41) U ∧ ∀ i j : Nat, i < 41 → j < 41 → ad i = ad j → i = j
theorem zEnv_at {D : va_G} {dA ad : Nat → Nat} {u U : State} {H H1 : Heap} (h : zEnv D dA ad u H) (hW : u.WarmedH U.vm) (hq : ∀ a : Nat, a < H.size → ¬ zA ad a → H1[a]? = H[a]?) : zEnv D dA ad U H1 := by
  obtain ⟨h1, h2, h3, h4, h5, h6⟩ := h
  exact ⟨va_K.moved hW.alike h1, ⟨fun q hq h => va_Nw.warmF hW (h2.1 q hq h), fun q hq h => va_Nw.warmM hW (h2.2 q hq h)⟩, (vk_S.moved hW.alike h3).kept hq, (va_Z.moved hW.alike h4).kept hq, vk_R.warm hW h5, h6⟩
theorem zEnv_calling {D : va_G} {dA ad : Nat → Nat} {U : State} {H : Heap} (g : JFrame) (mk : MethodId) (a : Array Value) (h : zEnv D dA ad U H) : zEnv D dA ad (U.calling g mk a) H := by
  obtain ⟨h1, h2, h3, h4, h5, h6⟩ := h
  exact ⟨va_K.moved (u := U) (U := U.calling g mk a) (Vm.Alike.refl U.vm) h1, ⟨fun q hq h => va_Nw.same rfl (rfl : U.vm = (U.calling g mk a).vm) (h2.1 q hq h), fun q hq h => va_Nw.same rfl (rfl : U.vm = (U.calling g mk a).vm) (h2.2 q hq h)⟩, vk_S.moved (u := U) (U := U.calling g mk a) (Vm.Alike.refl U.vm) h3, va_Z.moved (u := U) (U := U.calling g mk a) (Vm.Alike.refl U.vm) h4, vk_R.same (rfl : (U.calling g mk a).vm = U.vm) h5, h6⟩
theorem zD {D : va_G} {dA ad : Nat → Nat} {U : State} {H : Heap} {σ : zM} (h : zEnv D dA ad U H) : va_D (zA ad) (zwl dA ad σ) := by
  have key : ∀ (k : Nat) (q : Nat × va_E), (zwl dA ad σ)[k]? = some q → k < 41 ∧ q.1 = ad k := by
    intro k q hk
    by_cases hl : k < 41
    · rw [zwl_at hl] at hk
      cases hk
      exact ⟨hl, rfl⟩
    · rw [List.getElem?_eq_none (by rw [zwl_len]; omega)] at hk
      cases hk
  refine ⟨fun i j x y hi hj hxy => ?_, fun k q hk => ?_⟩
  · obtain ⟨a1, a2⟩ := key i x hi
    obtain ⟨b1, b2⟩ := key j y hj
    exact h.2.2.2.2.2 i j a1 b1 (by rw [← a2, ← b2]; exact hxy)
  · obtain ⟨a1, a2⟩ := key k q hk
    exact ⟨k, a1, a2⟩
def zws (mi : Nat) : List Cond := Cond.code (zy mi) (zb mi) (zl mi) (zret mi) :: zGT
def zPc (D : va_G) (dA ad : Nat → Nat) (as : List zV) (σ : zM) : Array Value → State → Prop := va_Pc (as.map (zcv ad)) (fun U => va_P D vwCl (zwl dA ad σ) U.heap ∧ zEnv D dA ad U U.heap)
def zQc (D : va_G) (dA ad : Nat → Nat) (K : zM → Option zV → Prop) : Array Value → State → Outcome → State → Prop := fun _ st oc t =>
  (∃ (σ : zM) (r : Option zV), oc = .returned (r.map (zcv ad)) ∧ K σ r ∧ zokM σ ∧ (∀ v, r = some v → zokV v) ∧ va_P D vwCl (zwl dA ad σ) t.heap) ∧ va_F (zA ad) st t
theorem zPc_blind {D : va_G} {dA ad : Nat → Nat} {as : List zV} {σ : zM} : FrameBlind (zPc D dA ad as σ) := by
  rintro a U g mk ⟨h1, h2, h3⟩
  exact ⟨h1, h2, zEnv_calling g mk a h3⟩
theorem zgood_in (mi : Nat) (h : Cond.code (zy mi) (zb mi) (zl mi) (zret mi) ∈ zGT) : GoodIn zGT (zws mi) := by
  intro w hw
  have : w ∈ zGT := by
    rcases List.mem_cons.mp hw with rfl | hw
    · exact h
    · exact hw
  exact ⟨this, good_of_word (zGT_good w this)⟩
/-- what a return is -/
def zretOk (mi : Nat) (pc : Nat) (r : Option zV) : Prop :=
  (r = none ∧ decode (zb mi) pc = .ok (.return_, 1) ∧ zret mi = none) ∨
  (∃ x, r = some (vI x) ∧ decode (zb mi) pc = .ok (.ireturn, 1) ∧ (zret mi = some .int ∨ (zret mi = some .boolean ∧ (x = 0 ∨ x = 1)) ∨ (zret mi = some .byte ∧ x = 0))) ∨
  (∃ x, r = some (vL x) ∧ decode (zb mi) pc = .ok (.lreturn, 1) ∧ zret mi = some .long) ∨
  ((r = some vN ∨ ∃ k, r = some (vR k)) ∧ decode (zb mi) pc = .ok (.areturn, 1) ∧ zret mi = some (.object "PaleFence$Sheet"))
section ZSTEP
variable {p : Program} {l : Launch} {e : Env} {R : Room} {s : State} {m : MethodId} {args : Array Value} {below : List Frame} {meth : Method} {c : Code} {cells slots : Nat} {Q : State → Prop} {D : va_G} {dA ad : Nat → Nat}
theorem z_call {K : zM → Option zV → Prop} {H : Heap} {locs : List Loc} {pc : Nat} {ls : Array Slot} {st0 rest : List Value} {a : Array Value} {H0 : Heap}
    (hr : va_Run p l e R s m args below meth c H locs cells slots 0 0 (F0 m pc ls st0) rest (zQc D dA ad K a) (zA ad)) (hS : va_S (zA ad) H0 H locs)
    (kk : ∀ (σ : zM) (r : Option zV) (H1 : Heap) (locs1 : List Loc), K σ r → zokM σ → (∀ v, r = some v → zokV v) → va_P D vwCl (zwl dA ad σ) H1 → va_S (zA ad) H0 H1 locs1 → W p l e R s m args below meth c H1 locs1 cells slots Q (F0 m (pc + 3) ls ((r.map (zcv ad)).toList ++ rest))) :
    W p l e R s m args below meth c H locs cells slots Q (F0 m pc ls st0) := by
  intro T hT X
  obtain ⟨v, st₀, t, T', L, h0, X', hL, e1, e2, ⟨⟨σ, r, hv, hk1, hk2, hk3, hk4⟩, hz, hk⟩, st⟩ := hr T hT X
  cases hv
  rw [h0] at hz hk
  obtain ⟨t2, a1, b1⟩ := kk σ r T'.heap (locs ++ L) hk1 hk2 hk3 (by rw [e1]; exact hk4)
    ⟨Nat.le_trans hS.1 (by rw [e1]; exact hz), fun q h1 h2 => by rw [e1, hk q (Nat.lt_of_lt_of_le h1 hS.1) h2]; exact hS.2.1 q h1 h2, fun q hq => by
      rcases List.mem_append.mp hq with h | h
      · exact hS.2.2 q h
      · exact hL q h⟩ T' rfl X'
  exact ⟨t2, st t2 a1, b1⟩
def zWX (p : Program) (l : Launch) (e : Env) (R : Room) (s : State) (m : MethodId) (args : Array Value) (below : List Frame) (meth : Method) (c : Code) (cells slots : Nat) (Q : State → Prop) (D : va_G) (dA ad : Nat → Nat) (nL : Nat) : zS → Prop := fun S =>
  ∀ (H : Heap) (locs : List Loc) (ls : Array Slot), (∀ v ∈ S.2.1, zokV v) → (∀ v ∈ S.2.2.1, zokV v) → zokM S.2.2.2 → lv_has ls nL (zlc ad 0 S.2.1) → va_P D vwCl (zwl dA ad S.2.2.2) H → va_S (zA ad) s.heap H locs →
    W p l e R s m args below meth c H locs cells slots Q (F0 m S.1 ls (S.2.2.1.map (zcv ad)))
theorem zWX_cut {nL : Nat} {S : zS} (k : Nat) (h : zWX p l e R s m args below meth c cells slots Q D dA ad nL (S.1, zcut k S.2.1, S.2.2)) : zWX p l e R s m args below meth c cells slots Q D dA ad nL S :=
  fun H locs ls hL hst hM hh hP hS => h H locs ls (zcut_ok hL) hst hM (zcut_has hh) hP hS
theorem zld_1 {L : List zV} {i : Nat} {f : zV → Prop} (h : zld L 1 i f) : ∃ x, L[i]? = some (.inl x) ∧ f (.inl x) := by
  unfold zld at h
  cases hL : L[i]? with
  | none => rw [hL] at h; exact h.elim
  | some v =>
    rw [hL] at h
    rcases v with x | x | k | b
    · exact ⟨x, rfl, h⟩
    · exact h.elim
    · exact h.elim
    · cases b <;> exact h.elim
theorem zld_2 {L : List zV} {i : Nat} {f : zV → Prop} (h : zld L 2 i f) : (∃ k, L[i]? = some (.inr (.inr (.inl k))) ∧ f (.inr (.inr (.inl k)))) ∨ (L[i]? = some vN ∧ f vN) := by
  unfold zld at h
  cases hL : L[i]? with
  | none => rw [hL] at h; exact h.elim
  | some v =>
    rw [hL] at h
    rcases v with x | x | k | b
    · exact h.elim
    · exact h.elim
    · exact Or.inl ⟨k, rfl, h⟩
    · cases b
      · exact h.elim
      · exact Or.inr ⟨rfl, h⟩
theorem zld_3 {L : List zV} {i : Nat} {f : zV → Prop} (h : zld L 3 i f) : ∃ x, L[i]? = some (.inr (.inl x)) ∧ f (.inr (.inl x)) := by
  unfold zld at h
  cases hL : L[i]? with
  | none => rw [hL] at h; exact h.elim
  | some v =>
    rw [hL] at h
    rcases v with x | x | k | b
    · exact h.elim
    · exact ⟨x, rfl, h⟩
    · exact h.elim
    · cases b <;> exact h.elim
theorem zok_push {v : zV} {st : List zV} (hv : zokV v) (h : ∀ w ∈ st, zokV w) : ∀ w ∈ v :: st, zokV w := by
  intro w hw
  rcases List.mem_cons.mp hw with rfl | hw
  · exact hv
  · exact h w hw
theorem zok_at {L : List zV} (h : ∀ w ∈ L, zokV w) {i : Nat} {v : zV} (hv : L[i]? = some v) : zokV v := h v (List.mem_of_getElem? hv)

theorem zo_iconst {mi pc : Nat} {L st : List zV} {σ : zM} (hx : p.tables.exec = Jvm.exec) (hb : c.code = zb mi) (hml : c.maxLocals = zl mi) (hown : s.vm.findClass (zR (zown mi)) = some m.cls) (hts : ∀ w ∈ zGT, w.before args s = true) (hE : zEnv D dA ad s s.heap) {n : Int} (hd : decode (zb mi) pc = .ok (.iconst n, 1)) (hn : zi32 n) (k : zWX p l e R s m args below meth c cells slots Q D dA ad (zl mi) (pc + 1, L, vI n :: st, σ)) : zWX p l e R s m args below meth c cells slots Q D dA ad (zl mi) (pc, L, st, σ) := by
  intro H locs ls hL hst hM hh hP hS
  exact lv_iconst hx hb hd rfl (k H locs ls hL (zok_push hn hst) hM hh hP hS)

theorem zo_bipush {mi pc : Nat} {L st : List zV} {σ : zM} (hx : p.tables.exec = Jvm.exec) (hb : c.code = zb mi) (hml : c.maxLocals = zl mi) (hown : s.vm.findClass (zR (zown mi)) = some m.cls) (hts : ∀ w ∈ zGT, w.before args s = true) (hE : zEnv D dA ad s s.heap) {n : Int} (hd : decode (zb mi) pc = .ok (.bipush n, 2)) (hn : -128 ≤ n ∧ n < 128) (k : zWX p l e R s m args below meth c cells slots Q D dA ad (zl mi) (pc + 2, L, vI n :: st, σ)) : zWX p l e R s m args below meth c cells slots Q D dA ad (zl mi) (pc, L, st, σ) := by
  intro H locs ls hL hst hM hh hP hS
  have e : (Int8.ofInt n).toInt32 = Int32.ofInt n := by
    rw [← Int32.toInt_inj, Int8.toInt_toInt32, Int8.toInt_ofInt_of_le (by omega) (by omega), zto32 ⟨by omega, by omega⟩]
  exact lv_bipush hx hb hd e (k H locs ls hL (zok_push (show zi32 n from ⟨by omega, by omega⟩) hst) hM hh hP hS)

theorem zo_sipush {mi pc : Nat} {L st : List zV} {σ : zM} (hx : p.tables.exec = Jvm.exec) (hb : c.code = zb mi) (hml : c.maxLocals = zl mi) (hown : s.vm.findClass (zR (zown mi)) = some m.cls) (hts : ∀ w ∈ zGT, w.before args s = true) (hE : zEnv D dA ad s s.heap) {n : Int} (hd : decode (zb mi) pc = .ok (.sipush n, 3)) (hn : -32768 ≤ n ∧ n < 32768) (k : zWX p l e R s m args below meth c cells slots Q D dA ad (zl mi) (pc + 3, L, vI n :: st, σ)) : zWX p l e R s m args below meth c cells slots Q D dA ad (zl mi) (pc, L, st, σ) := by
  intro H locs ls hL hst hM hh hP hS
  have e : (Int16.ofInt n).toInt32 = Int32.ofInt n := by
    rw [← Int32.toInt_inj, Int16.toInt_toInt32, Int16.toInt_ofInt_of_le (by omega) (by omega), zto32 ⟨by omega, by omega⟩]
  exact lv_sipush hx hb hd e (k H locs ls hL (zok_push (show zi32 n from ⟨by omega, by omega⟩) hst) hM hh hP hS)

theorem zo_ldc {mi pc : Nat} {L st : List zV} {σ : zM} (hx : p.tables.exec = Jvm.exec) (hb : c.code = zb mi) (hml : c.maxLocals = zl mi) (hown : s.vm.findClass (zR (zown mi)) = some m.cls) (hts : ∀ w ∈ zGT, w.before args s = true) (hE : zEnv D dA ad s s.heap) {i : Nat} {z : Int} (hd : decode (zb mi) pc = .ok (.ldc i, 2)) (hz : (zown mi, i, z) ∈ zcst) (k : zWX p l e R s m args below meth c cells slots Q D dA ad (zl mi) (pc + 2, L, vI z :: st, σ)) : zWX p l e R s m args below meth c cells slots Q D dA ad (zl mi) (pc, L, st, σ) := by
  intro H locs ls hL hst hM hh hP hS
  obtain ⟨h1, h2⟩ := zkok _ hz
  exact lv_ldc hx hb hown (hts _ h1) hd (k H locs ls hL (zok_push (show zi32 z from h2) hst) hM hh hP hS)

theorem zo_ldcw {mi pc : Nat} {L st : List zV} {σ : zM} (hx : p.tables.exec = Jvm.exec) (hb : c.code = zb mi) (hml : c.maxLocals = zl mi) (hown : s.vm.findClass (zR (zown mi)) = some m.cls) (hts : ∀ w ∈ zGT, w.before args s = true) (hE : zEnv D dA ad s s.heap) {i : Nat} {z : Int} (hd : decode (zb mi) pc = .ok (.ldc_w i, 3)) (hz : (zown mi, i, z) ∈ zcst) (k : zWX p l e R s m args below meth c cells slots Q D dA ad (zl mi) (pc + 3, L, vI z :: st, σ)) : zWX p l e R s m args below meth c cells slots Q D dA ad (zl mi) (pc, L, st, σ) := by
  intro H locs ls hL hst hM hh hP hS
  obtain ⟨h1, h2⟩ := zkok _ hz
  exact lv_ldcw hx hb hown (hts _ h1) hd (k H locs ls hL (zok_push (show zi32 z from h2) hst) hM hh hP hS)

theorem zo_lconst {mi pc : Nat} {L st : List zV} {σ : zM} (hx : p.tables.exec = Jvm.exec) (hb : c.code = zb mi) (hml : c.maxLocals = zl mi) (hown : s.vm.findClass (zR (zown mi)) = some m.cls) (hts : ∀ w ∈ zGT, w.before args s = true) (hE : zEnv D dA ad s s.heap) {n : Fin 2} (hd : decode (zb mi) pc = .ok (.lconst n, 1)) (k : zWX p l e R s m args below meth c cells slots Q D dA ad (zl mi) (pc + 1, L, vL ((n : Nat) : Int) :: st, σ)) : zWX p l e R s m args below meth c cells slots Q D dA ad (zl mi) (pc, L, st, σ) := by
  intro H locs ls hL hst hM hh hP hS
  have hn : ((n : Nat) : Int) < 2 := by have := n.2; omega
  exact lv_lconst hx hb hd (show Int64.ofNat (n : Nat) = Int64.ofInt ((n : Nat) : Int) from rfl) (k H locs ls hL (zok_push (show zi64 _ from ⟨by omega, by omega⟩) hst) hM hh hP hS)

theorem zo_ldc2 {mi pc : Nat} {L st : List zV} {σ : zM} (hx : p.tables.exec = Jvm.exec) (hb : c.code = zb mi) (hml : c.maxLocals = zl mi) (hown : s.vm.findClass (zR (zown mi)) = some m.cls) (hts : ∀ w ∈ zGT, w.before args s = true) (hE : zEnv D dA ad s s.heap) {i : Nat} {z : Int} (hd : decode (zb mi) pc = .ok (.ldc2_w i, 3)) (hz : (zown mi, i, z) ∈ zcstl) (k : zWX p l e R s m args below meth c cells slots Q D dA ad (zl mi) (pc + 3, L, vL z :: st, σ)) : zWX p l e R s m args below meth c cells slots Q D dA ad (zl mi) (pc, L, st, σ) := by
  intro H locs ls hL hst hM hh hP hS
  obtain ⟨h1, h2⟩ := zklok _ hz
  exact lv_ldc2 hx hb hown (hts _ h1) hd (k H locs ls hL (zok_push (show zi64 z from h2) hst) hM hh hP hS)

theorem zo_iload_n {mi pc : Nat} {L st : List zV} {σ : zM} (hx : p.tables.exec = Jvm.exec) (hb : c.code = zb mi) (hml : c.maxLocals = zl mi) (hown : s.vm.findClass (zR (zown mi)) = some m.cls) (hts : ∀ w ∈ zGT, w.before args s = true) (hE : zEnv D dA ad s s.heap) {x : Int} {k0 : Fin 4} (hd : decode (zb mi) pc = .ok (.iload_n k0, 1)) (hx1 : L[(k0 : Nat)]? = some (.inl x)) (k : zWX p l e R s m args below meth c cells slots Q D dA ad (zl mi) (pc + 1, L, .inl x :: st, σ)) : zWX p l e R s m args below meth c cells slots Q D dA ad (zl mi) (pc, L, st, σ) := by
  intro H locs ls hL hst hM hh hP hS
  exact lv_iload_n hx hb hd rfl (zlc_at hh hx1 (by simp)) (k H locs ls hL (zok_push (zok_at hL hx1) hst) hM hh hP hS)

theorem zo_iload {mi pc : Nat} {L st : List zV} {σ : zM} (hx : p.tables.exec = Jvm.exec) (hb : c.code = zb mi) (hml : c.maxLocals = zl mi) (hown : s.vm.findClass (zR (zown mi)) = some m.cls) (hts : ∀ w ∈ zGT, w.before args s = true) (hE : zEnv D dA ad s s.heap) {x : Int} {i : Nat} (hd : decode (zb mi) pc = .ok (.iload i, 2)) (hx1 : L[i]? = some (.inl x)) (k : zWX p l e R s m args below meth c cells slots Q D dA ad (zl mi) (pc + 2, L, .inl x :: st, σ)) : zWX p l e R s m args below meth c cells slots Q D dA ad (zl mi) (pc, L, st, σ) := by
  intro H locs ls hL hst hM hh hP hS
  exact lv_iload hx hb hd (zlc_at hh hx1 (by simp)) (k H locs ls hL (zok_push (zok_at hL hx1) hst) hM hh hP hS)

theorem zo_lload_n {mi pc : Nat} {L st : List zV} {σ : zM} (hx : p.tables.exec = Jvm.exec) (hb : c.code = zb mi) (hml : c.maxLocals = zl mi) (hown : s.vm.findClass (zR (zown mi)) = some m.cls) (hts : ∀ w ∈ zGT, w.before args s = true) (hE : zEnv D dA ad s s.heap) {x : Int} {k0 : Fin 4} (hd : decode (zb mi) pc = .ok (.lload_n k0, 1)) (hx1 : L[(k0 : Nat)]? = some (.inr (.inl x))) (k : zWX p l e R s m args below meth c cells slots Q D dA ad (zl mi) (pc + 1, L, .inr (.inl x) :: st, σ)) : zWX p l e R s m args below meth c cells slots Q D dA ad (zl mi) (pc, L, st, σ) := by
  intro H locs ls hL hst hM hh hP hS
  exact lv_lload_n hx hb hd rfl (zlc_at hh hx1 (by simp)) (k H locs ls hL (zok_push (zok_at hL hx1) hst) hM hh hP hS)

theorem zo_lload {mi pc : Nat} {L st : List zV} {σ : zM} (hx : p.tables.exec = Jvm.exec) (hb : c.code = zb mi) (hml : c.maxLocals = zl mi) (hown : s.vm.findClass (zR (zown mi)) = some m.cls) (hts : ∀ w ∈ zGT, w.before args s = true) (hE : zEnv D dA ad s s.heap) {x : Int} {i : Nat} (hd : decode (zb mi) pc = .ok (.lload i, 2)) (hx1 : L[i]? = some (.inr (.inl x))) (k : zWX p l e R s m args below meth c cells slots Q D dA ad (zl mi) (pc + 2, L, .inr (.inl x) :: st, σ)) : zWX p l e R s m args below meth c cells slots Q D dA ad (zl mi) (pc, L, st, σ) := by
  intro H locs ls hL hst hM hh hP hS
  exact lv_lload hx hb hd (zlc_at hh hx1 (by simp)) (k H locs ls hL (zok_push (zok_at hL hx1) hst) hM hh hP hS)

theorem zo_aload_n {mi pc : Nat} {L st : List zV} {σ : zM} (hx : p.tables.exec = Jvm.exec) (hb : c.code = zb mi) (hml : c.maxLocals = zl mi) (hown : s.vm.findClass (zR (zown mi)) = some m.cls) (hts : ∀ w ∈ zGT, w.before args s = true) (hE : zEnv D dA ad s s.heap) {q : Nat} {k0 : Fin 4} (hd : decode (zb mi) pc = .ok (.aload_n k0, 1)) (hx1 : L[(k0 : Nat)]? = some (.inr (.inr (.inl q)))) (k : zWX p l e R s m args below meth c cells slots Q D dA ad (zl mi) (pc + 1, L, .inr (.inr (.inl q)) :: st, σ)) : zWX p l e R s m args below meth c cells slots Q D dA ad (zl mi) (pc, L, st, σ) := by
  intro H locs ls hL hst hM hh hP hS
  exact lv_aload_n hx hb hd rfl (zlc_at hh hx1 (by simp)) (k H locs ls hL (zok_push trivial hst) hM hh hP hS)

theorem zo_aload_nN {mi pc : Nat} {L st : List zV} {σ : zM} (hx : p.tables.exec = Jvm.exec) (hb : c.code = zb mi) (hml : c.maxLocals = zl mi) (hown : s.vm.findClass (zR (zown mi)) = some m.cls) (hts : ∀ w ∈ zGT, w.before args s = true) (hE : zEnv D dA ad s s.heap) {k0 : Fin 4} (hd : decode (zb mi) pc = .ok (.aload_n k0, 1)) (hx1 : L[(k0 : Nat)]? = some vN) (k : zWX p l e R s m args below meth c cells slots Q D dA ad (zl mi) (pc + 1, L, vN :: st, σ)) : zWX p l e R s m args below meth c cells slots Q D dA ad (zl mi) (pc, L, st, σ) := by
  intro H locs ls hL hst hM hh hP hS
  exact lv_aload_nN hx hb hd rfl (zlc_at (v := vN) hh hx1 (by simp)) (k H locs ls hL (zok_push trivial hst) hM hh hP hS)

theorem zo_aload {mi pc : Nat} {L st : List zV} {σ : zM} (hx : p.tables.exec = Jvm.exec) (hb : c.code = zb mi) (hml : c.maxLocals = zl mi) (hown : s.vm.findClass (zR (zown mi)) = some m.cls) (hts : ∀ w ∈ zGT, w.before args s = true) (hE : zEnv D dA ad s s.heap) {q : Nat} {i : Nat} (hd : decode (zb mi) pc = .ok (.aload i, 2)) (hx1 : L[i]? = some (.inr (.inr (.inl q)))) (k : zWX p l e R s m args below meth c cells slots Q D dA ad (zl mi) (pc + 2, L, .inr (.inr (.inl q)) :: st, σ)) : zWX p l e R s m args below meth c cells slots Q D dA ad (zl mi) (pc, L, st, σ) := by
  intro H locs ls hL hst hM hh hP hS
  exact lv_aload hx hb hd (zlc_at hh hx1 (by simp)) (k H locs ls hL (zok_push trivial hst) hM hh hP hS)

theorem zo_aloadN {mi pc : Nat} {L st : List zV} {σ : zM} (hx : p.tables.exec = Jvm.exec) (hb : c.code = zb mi) (hml : c.maxLocals = zl mi) (hown : s.vm.findClass (zR (zown mi)) = some m.cls) (hts : ∀ w ∈ zGT, w.before args s = true) (hE : zEnv D dA ad s s.heap) {i : Nat} (hd : decode (zb mi) pc = .ok (.aload i, 2)) (hx1 : L[i]? = some vN) (k : zWX p l e R s m args below meth c cells slots Q D dA ad (zl mi) (pc + 2, L, vN :: st, σ)) : zWX p l e R s m args below meth c cells slots Q D dA ad (zl mi) (pc, L, st, σ) := by
  intro H locs ls hL hst hM hh hP hS
  exact lv_aloadN hx hb hd (zlc_at (v := vN) hh hx1 (by simp)) (k H locs ls hL (zok_push trivial hst) hM hh hP hS)

theorem zo_istore_n {mi pc : Nat} {L st : List zV} {σ : zM} (hx : p.tables.exec = Jvm.exec) (hb : c.code = zb mi) (hml : c.maxLocals = zl mi) (hown : s.vm.findClass (zR (zown mi)) = some m.cls) (hts : ∀ w ∈ zGT, w.before args s = true) (hE : zEnv D dA ad s s.heap) {x : Int} {k0 : Fin 4} (hd : decode (zb mi) pc = .ok (.istore_n k0, 1)) (hn : (k0 : Nat) < zl mi) (k : zWX p l e R s m args below meth c cells slots Q D dA ad (zl mi) (pc + 1, zst1 (k0 : Nat) (.inl x) L, st, σ)) : zWX p l e R s m args below meth c cells slots Q D dA ad (zl mi) (pc, L, .inl x :: st, σ) := by
  intro H locs ls hL hst hM hh hP hS
  exact lv_istore_n hx hb hd rfl hh hn rfl (fun ls1 h1 => k H locs ls1 (zst1_ok hL (hst _ List.mem_cons_self)) (fun w hw => hst w (List.mem_cons_of_mem _ hw)) hM (zst1_has (v := .inl x) h1) hP hS)

theorem zo_astore_n {mi pc : Nat} {L st : List zV} {σ : zM} (hx : p.tables.exec = Jvm.exec) (hb : c.code = zb mi) (hml : c.maxLocals = zl mi) (hown : s.vm.findClass (zR (zown mi)) = some m.cls) (hts : ∀ w ∈ zGT, w.before args s = true) (hE : zEnv D dA ad s s.heap) {q : Nat} {k0 : Fin 4} (hd : decode (zb mi) pc = .ok (.astore_n k0, 1)) (hn : (k0 : Nat) < zl mi) (k : zWX p l e R s m args below meth c cells slots Q D dA ad (zl mi) (pc + 1, zst1 (k0 : Nat) (.inr (.inr (.inl q))) L, st, σ)) : zWX p l e R s m args below meth c cells slots Q D dA ad (zl mi) (pc, L, .inr (.inr (.inl q)) :: st, σ) := by
  intro H locs ls hL hst hM hh hP hS
  exact lv_astore_n hx hb hd rfl hh hn rfl (fun ls1 h1 => k H locs ls1 (zst1_ok hL trivial) (fun w hw => hst w (List.mem_cons_of_mem _ hw)) hM (zst1_has (v := .inr (.inr (.inl q))) h1) hP hS)

theorem zo_astore_nN {mi pc : Nat} {L st : List zV} {σ : zM} (hx : p.tables.exec = Jvm.exec) (hb : c.code = zb mi) (hml : c.maxLocals = zl mi) (hown : s.vm.findClass (zR (zown mi)) = some m.cls) (hts : ∀ w ∈ zGT, w.before args s = true) (hE : zEnv D dA ad s s.heap) {k0 : Fin 4} (hd : decode (zb mi) pc = .ok (.astore_n k0, 1)) (hn : (k0 : Nat) < zl mi) (k : zWX p l e R s m args below meth c cells slots Q D dA ad (zl mi) (pc + 1, zst1 (k0 : Nat) vN L, st, σ)) : zWX p l e R s m args below meth c cells slots Q D dA ad (zl mi) (pc, L, vN :: st, σ) := by
  intro H locs ls hL hst hM hh hP hS
  exact lv_astore_nN hx hb hd rfl hh hn rfl (fun ls1 h1 => k H locs ls1 (zst1_ok hL trivial) (fun w hw => hst w (List.mem_cons_of_mem _ hw)) hM (zst1_has (v := vN) h1) hP hS)

theorem zo_lstore_n {mi pc : Nat} {L st : List zV} {σ : zM} (hx : p.tables.exec = Jvm.exec) (hb : c.code = zb mi) (hml : c.maxLocals = zl mi) (hown : s.vm.findClass (zR (zown mi)) = some m.cls) (hts : ∀ w ∈ zGT, w.before args s = true) (hE : zEnv D dA ad s s.heap) {x : Int} {k0 : Fin 4} (hd : decode (zb mi) pc = .ok (.lstore_n k0, 1)) (hn : (k0 : Nat) + 1 < zl mi) (k : zWX p l e R s m args below meth c cells slots Q D dA ad (zl mi) (pc + 1, zst2 (k0 : Nat) (.inr (.inl x)) L, st, σ)) : zWX p l e R s m args below meth c cells slots Q D dA ad (zl mi) (pc, L, .inr (.inl x) :: st, σ) := by
  intro H locs ls hL hst hM hh hP hS
  exact lv_lstore_n hx hb hd rfl hh hn rfl (fun ls1 h1 => k H locs ls1 (zst1_ok (zst1_ok hL trivial) (hst _ List.mem_cons_self)) (fun w hw => hst w (List.mem_cons_of_mem _ hw)) hM (zst2_has h1) hP hS)

theorem zo_istore {mi pc : Nat} {L st : List zV} {σ : zM} (hx : p.tables.exec = Jvm.exec) (hb : c.code = zb mi) (hml : c.maxLocals = zl mi) (hown : s.vm.findClass (zR (zown mi)) = some m.cls) (hts : ∀ w ∈ zGT, w.before args s = true) (hE : zEnv D dA ad s s.heap) {x : Int} {i : Nat} (hd : decode (zb mi) pc = .ok (.istore i, 2)) (hn : i < zl mi) (k : zWX p l e R s m args below meth c cells slots Q D dA ad (zl mi) (pc + 2, zst1 i (.inl x) L, st, σ)) : zWX p l e R s m args below meth c cells slots Q D dA ad (zl mi) (pc, L, .inl x :: st, σ) := by
  intro H locs ls hL hst hM hh hP hS
  exact lv_istore hx hb hd hh hn rfl (fun ls1 h1 => k H locs ls1 (zst1_ok hL (hst _ List.mem_cons_self)) (fun w hw => hst w (List.mem_cons_of_mem _ hw)) hM (zst1_has (v := .inl x) h1) hP hS)

theorem zo_astore {mi pc : Nat} {L st : List zV} {σ : zM} (hx : p.tables.exec = Jvm.exec) (hb : c.code = zb mi) (hml : c.maxLocals = zl mi) (hown : s.vm.findClass (zR (zown mi)) = some m.cls) (hts : ∀ w ∈ zGT, w.before args s = true) (hE : zEnv D dA ad s s.heap) {q : Nat} {i : Nat} (hd : decode (zb mi) pc = .ok (.astore i, 2)) (hn : i < zl mi) (k : zWX p l e R s m args below meth c cells slots Q D dA ad (zl mi) (pc + 2, zst1 i (.inr (.inr (.inl q))) L, st, σ)) : zWX p l e R s m args below meth c cells slots Q D dA ad (zl mi) (pc, L, .inr (.inr (.inl q)) :: st, σ) := by
  intro H locs ls hL hst hM hh hP hS
  exact lv_astore hx hb hd hh hn rfl (fun ls1 h1 => k H locs ls1 (zst1_ok hL trivial) (fun w hw => hst w (List.mem_cons_of_mem _ hw)) hM (zst1_has (v := .inr (.inr (.inl q))) h1) hP hS)

theorem zo_astoreN {mi pc : Nat} {L st : List zV} {σ : zM} (hx : p.tables.exec = Jvm.exec) (hb : c.code = zb mi) (hml : c.maxLocals = zl mi) (hown : s.vm.findClass (zR (zown mi)) = some m.cls) (hts : ∀ w ∈ zGT, w.before args s = true) (hE : zEnv D dA ad s s.heap) {i : Nat} (hd : decode (zb mi) pc = .ok (.astore i, 2)) (hn : i < zl mi) (k : zWX p l e R s m args below meth c cells slots Q D dA ad (zl mi) (pc + 2, zst1 i vN L, st, σ)) : zWX p l e R s m args below meth c cells slots Q D dA ad (zl mi) (pc, L, vN :: st, σ) := by
  intro H locs ls hL hst hM hh hP hS
  exact lv_astoreN hx hb hd hh hn rfl (fun ls1 h1 => k H locs ls1 (zst1_ok hL trivial) (fun w hw => hst w (List.mem_cons_of_mem _ hw)) hM (zst1_has (v := vN) h1) hP hS)

theorem zo_lstore {mi pc : Nat} {L st : List zV} {σ : zM} (hx : p.tables.exec = Jvm.exec) (hb : c.code = zb mi) (hml : c.maxLocals = zl mi) (hown : s.vm.findClass (zR (zown mi)) = some m.cls) (hts : ∀ w ∈ zGT, w.before args s = true) (hE : zEnv D dA ad s s.heap) {x : Int} {i : Nat} (hd : decode (zb mi) pc = .ok (.lstore i, 2)) (hn : i + 1 < zl mi) (k : zWX p l e R s m args below meth c cells slots Q D dA ad (zl mi) (pc + 2, zst2 i (.inr (.inl x)) L, st, σ)) : zWX p l e R s m args below meth c cells slots Q D dA ad (zl mi) (pc, L, .inr (.inl x) :: st, σ) := by
  intro H locs ls hL hst hM hh hP hS
  exact lv_lstore hx hb hd hh hn rfl (fun ls1 h1 => k H locs ls1 (zst1_ok (zst1_ok hL trivial) (hst _ List.mem_cons_self)) (fun w hw => hst w (List.mem_cons_of_mem _ hw)) hM (zst2_has h1) hP hS)

theorem zo_iinc {mi pc : Nat} {L st : List zV} {σ : zM} (hx : p.tables.exec = Jvm.exec) (hb : c.code = zb mi) (hml : c.maxLocals = zl mi) (hown : s.vm.findClass (zR (zown mi)) = some m.cls) (hts : ∀ w ∈ zGT, w.before args s = true) (hE : zEnv D dA ad s s.heap) {x z : Int} {i : Nat} (hd : decode (zb mi) pc = .ok (.iinc i z, 3)) (hx1 : L[i]? = some (.inl x)) (hn : i < zl mi) (k : zWX p l e R s m args below meth c cells slots Q D dA ad (zl mi) (pc + 3, zst1 i (.inl (zbin 0 x z)) L, st, σ)) : zWX p l e R s m args below meth c cells slots Q D dA ad (zl mi) (pc, L, st, σ) := by
  intro H locs ls hL hst hM hh hP hS
  obtain ⟨k0, hk0⟩ := List.getElem?_of_mem ((zlc_mem (ad := ad) L 0 (i, zcv ad (.inl x))).mpr ⟨i, .inl x, hx1, by simp, by simp⟩)
  exact lv_iinc (v := Int32.ofInt (zbin 0 x z)) hx hb hd hh hk0 (show Int32.ofInt x + Int32.ofInt z = _ from (Int32.ofInt_toInt _).symm) hn rfl (fun ls1 h1 => k H locs ls1 (zst1_ok hL (zbin_ok 0 x z)) hst hM (zst1_has (v := .inl (zbin 0 x z)) h1) hP hS)

theorem zo_iadd {mi pc : Nat} {L st : List zV} {σ : zM} (hx : p.tables.exec = Jvm.exec) (hb : c.code = zb mi) (hml : c.maxLocals = zl mi) (hown : s.vm.findClass (zR (zown mi)) = some m.cls) (hts : ∀ w ∈ zGT, w.before args s = true) (hE : zEnv D dA ad s s.heap) {x y : Int} (hd : decode (zb mi) pc = .ok (.iadd, 1)) (k : zWX p l e R s m args below meth c cells slots Q D dA ad (zl mi) (pc + 1, L, vI (zbin 0 x y) :: st, σ)) : zWX p l e R s m args below meth c cells slots Q D dA ad (zl mi) (pc, L, .inl y :: .inl x :: st, σ) := by
  intro H locs ls hL hst hM hh hP hS
  refine lv_iadd hx hb hd ?_
  have k2 := k H locs ls hL (zok_push (zbin_ok _ _ _) (fun w hw => hst w (List.mem_cons_of_mem _ (List.mem_cons_of_mem _ hw)))) hM hh hP hS
  simp only [List.map_cons, zcv, zbin, Int32.ofInt_toInt] at k2
  exact k2

theorem zo_isub {mi pc : Nat} {L st : List zV} {σ : zM} (hx : p.tables.exec = Jvm.exec) (hb : c.code = zb mi) (hml : c.maxLocals = zl mi) (hown : s.vm.findClass (zR (zown mi)) = some m.cls) (hts : ∀ w ∈ zGT, w.before args s = true) (hE : zEnv D dA ad s s.heap) {x y : Int} (hd : decode (zb mi) pc = .ok (.isub, 1)) (k : zWX p l e R s m args below meth c cells slots Q D dA ad (zl mi) (pc + 1, L, vI (zbin 1 x y) :: st, σ)) : zWX p l e R s m args below meth c cells slots Q D dA ad (zl mi) (pc, L, .inl y :: .inl x :: st, σ) := by
  intro H locs ls hL hst hM hh hP hS
  refine lv_isub hx hb hd ?_
  have k2 := k H locs ls hL (zok_push (zbin_ok _ _ _) (fun w hw => hst w (List.mem_cons_of_mem _ (List.mem_cons_of_mem _ hw)))) hM hh hP hS
  simp only [List.map_cons, zcv, zbin, Int32.ofInt_toInt] at k2
  exact k2

theorem zo_imul {mi pc : Nat} {L st : List zV} {σ : zM} (hx : p.tables.exec = Jvm.exec) (hb : c.code = zb mi) (hml : c.maxLocals = zl mi) (hown : s.vm.findClass (zR (zown mi)) = some m.cls) (hts : ∀ w ∈ zGT, w.before args s = true) (hE : zEnv D dA ad s s.heap) {x y : Int} (hd : decode (zb mi) pc = .ok (.imul, 1)) (k : zWX p l e R s m args below meth c cells slots Q D dA ad (zl mi) (pc + 1, L, vI (zbin 2 x y) :: st, σ)) : zWX p l e R s m args below meth c cells slots Q D dA ad (zl mi) (pc, L, .inl y :: .inl x :: st, σ) := by
  intro H locs ls hL hst hM hh hP hS
  refine lv_imul hx hb hd ?_
  have k2 := k H locs ls hL (zok_push (zbin_ok _ _ _) (fun w hw => hst w (List.mem_cons_of_mem _ (List.mem_cons_of_mem _ hw)))) hM hh hP hS
  simp only [List.map_cons, zcv, zbin, Int32.ofInt_toInt] at k2
  exact k2

theorem zo_iand {mi pc : Nat} {L st : List zV} {σ : zM} (hx : p.tables.exec = Jvm.exec) (hb : c.code = zb mi) (hml : c.maxLocals = zl mi) (hown : s.vm.findClass (zR (zown mi)) = some m.cls) (hts : ∀ w ∈ zGT, w.before args s = true) (hE : zEnv D dA ad s s.heap) {x y : Int} (hd : decode (zb mi) pc = .ok (.iand, 1)) (k : zWX p l e R s m args below meth c cells slots Q D dA ad (zl mi) (pc + 1, L, vI (zbin 3 x y) :: st, σ)) : zWX p l e R s m args below meth c cells slots Q D dA ad (zl mi) (pc, L, .inl y :: .inl x :: st, σ) := by
  intro H locs ls hL hst hM hh hP hS
  refine lv_iand hx hb hd ?_
  have k2 := k H locs ls hL (zok_push (zbin_ok _ _ _) (fun w hw => hst w (List.mem_cons_of_mem _ (List.mem_cons_of_mem _ hw)))) hM hh hP hS
  simp only [List.map_cons, zcv, zbin, Int32.ofInt_toInt] at k2
  exact k2

theorem zo_ior {mi pc : Nat} {L st : List zV} {σ : zM} (hx : p.tables.exec = Jvm.exec) (hb : c.code = zb mi) (hml : c.maxLocals = zl mi) (hown : s.vm.findClass (zR (zown mi)) = some m.cls) (hts : ∀ w ∈ zGT, w.before args s = true) (hE : zEnv D dA ad s s.heap) {x y : Int} (hd : decode (zb mi) pc = .ok (.ior, 1)) (k : zWX p l e R s m args below meth c cells slots Q D dA ad (zl mi) (pc + 1, L, vI (zbin 4 x y) :: st, σ)) : zWX p l e R s m args below meth c cells slots Q D dA ad (zl mi) (pc, L, .inl y :: .inl x :: st, σ) := by
  intro H locs ls hL hst hM hh hP hS
  refine lv_ior hx hb hd ?_
  have k2 := k H locs ls hL (zok_push (zbin_ok _ _ _) (fun w hw => hst w (List.mem_cons_of_mem _ (List.mem_cons_of_mem _ hw)))) hM hh hP hS
  simp only [List.map_cons, zcv, zbin, Int32.ofInt_toInt] at k2
  exact k2

theorem zo_ishl {mi pc : Nat} {L st : List zV} {σ : zM} (hx : p.tables.exec = Jvm.exec) (hb : c.code = zb mi) (hml : c.maxLocals = zl mi) (hown : s.vm.findClass (zR (zown mi)) = some m.cls) (hts : ∀ w ∈ zGT, w.before args s = true) (hE : zEnv D dA ad s s.heap) {x y : Int} (hd : decode (zb mi) pc = .ok (.ishl, 1)) (k : zWX p l e R s m args below meth c cells slots Q D dA ad (zl mi) (pc + 1, L, vI (zbin 5 x y) :: st, σ)) : zWX p l e R s m args below meth c cells slots Q D dA ad (zl mi) (pc, L, .inl y :: .inl x :: st, σ) := by
  intro H locs ls hL hst hM hh hP hS
  refine lv_ishl hx hb hd ?_
  have k2 := k H locs ls hL (zok_push (zbin_ok _ _ _) (fun w hw => hst w (List.mem_cons_of_mem _ (List.mem_cons_of_mem _ hw)))) hM hh hP hS
  simp only [List.map_cons, zcv, zbin, Int32.ofInt_toInt] at k2
  exact k2

theorem zo_ishr {mi pc : Nat} {L st : List zV} {σ : zM} (hx : p.tables.exec = Jvm.exec) (hb : c.code = zb mi) (hml : c.maxLocals = zl mi) (hown : s.vm.findClass (zR (zown mi)) = some m.cls) (hts : ∀ w ∈ zGT, w.before args s = true) (hE : zEnv D dA ad s s.heap) {x y : Int} (hd : decode (zb mi) pc = .ok (.ishr, 1)) (k : zWX p l e R s m args below meth c cells slots Q D dA ad (zl mi) (pc + 1, L, vI (zbin 6 x y) :: st, σ)) : zWX p l e R s m args below meth c cells slots Q D dA ad (zl mi) (pc, L, .inl y :: .inl x :: st, σ) := by
  intro H locs ls hL hst hM hh hP hS
  refine lv_ishr hx hb hd ?_
  have k2 := k H locs ls hL (zok_push (zbin_ok _ _ _) (fun w hw => hst w (List.mem_cons_of_mem _ (List.mem_cons_of_mem _ hw)))) hM hh hP hS
  simp only [List.map_cons, zcv, zbin, Int32.ofInt_toInt] at k2
  exact k2

theorem zo_iushr {mi pc : Nat} {L st : List zV} {σ : zM} (hx : p.tables.exec = Jvm.exec) (hb : c.code = zb mi) (hml : c.maxLocals = zl mi) (hown : s.vm.findClass (zR (zown mi)) = some m.cls) (hts : ∀ w ∈ zGT, w.before args s = true) (hE : zEnv D dA ad s s.heap) {x y : Int} (hd : decode (zb mi) pc = .ok (.iushr, 1)) (k : zWX p l e R s m args below meth c cells slots Q D dA ad (zl mi) (pc + 1, L, vI (zbin 7 x y) :: st, σ)) : zWX p l e R s m args below meth c cells slots Q D dA ad (zl mi) (pc, L, .inl y :: .inl x :: st, σ) := by
  intro H locs ls hL hst hM hh hP hS
  refine lv_iushr hx hb hd rfl ?_
  have k2 := k H locs ls hL (zok_push (zbin_ok _ _ _) (fun w hw => hst w (List.mem_cons_of_mem _ (List.mem_cons_of_mem _ hw)))) hM hh hP hS
  simp only [List.map_cons, zcv, zbin, Int32.ofInt_toInt] at k2
  exact k2

theorem zo_idiv {mi pc : Nat} {L st : List zV} {σ : zM} (hx : p.tables.exec = Jvm.exec) (hb : c.code = zb mi) (hml : c.maxLocals = zl mi) (hown : s.vm.findClass (zR (zown mi)) = some m.cls) (hts : ∀ w ∈ zGT, w.before args s = true) (hE : zEnv D dA ad s s.heap) {x y : Int} (hd : decode (zb mi) pc = .ok (.idiv, 1)) (hy : ¬ y = 0) (k : zWX p l e R s m args below meth c cells slots Q D dA ad (zl mi) (pc + 1, L, vI (zdiv x y) :: st, σ)) : zWX p l e R s m args below meth c cells slots Q D dA ad (zl mi) (pc, L, .inl y :: .inl x :: st, σ) := by
  intro H locs ls hL hst hM hh hP hS
  have hy2 : ¬ Int32.ofInt y = 0 := fun q => hy ((zeq32 (show zi32 y from hst (.inl y) List.mem_cons_self) zi320).mp q)
  refine lv_idiv hx hb hd hy2 ?_
  have k2 := k H locs ls hL (zok_push (zof32 _) (fun w hw => hst w (List.mem_cons_of_mem _ (List.mem_cons_of_mem _ hw)))) hM hh hP hS
  simp only [List.map_cons, zcv, zdiv, Int32.ofInt_toInt] at k2
  exact k2

theorem zo_irem {mi pc : Nat} {L st : List zV} {σ : zM} (hx : p.tables.exec = Jvm.exec) (hb : c.code = zb mi) (hml : c.maxLocals = zl mi) (hown : s.vm.findClass (zR (zown mi)) = some m.cls) (hts : ∀ w ∈ zGT, w.before args s = true) (hE : zEnv D dA ad s s.heap) {x y : Int} (hd : decode (zb mi) pc = .ok (.irem, 1)) (hy : ¬ y = 0) (k : zWX p l e R s m args below meth c cells slots Q D dA ad (zl mi) (pc + 1, L, vI (zrem x y) :: st, σ)) : zWX p l e R s m args below meth c cells slots Q D dA ad (zl mi) (pc, L, .inl y :: .inl x :: st, σ) := by
  intro H locs ls hL hst hM hh hP hS
  have hy2 : ¬ Int32.ofInt y = 0 := fun q => hy ((zeq32 (show zi32 y from hst (.inl y) List.mem_cons_self) zi320).mp q)
  refine lv_irem hx hb hd hy2 ?_
  have k2 := k H locs ls hL (zok_push (zof32 _) (fun w hw => hst w (List.mem_cons_of_mem _ (List.mem_cons_of_mem _ hw)))) hM hh hP hS
  simp only [List.map_cons, zcv, zrem, Int32.ofInt_toInt] at k2
  exact k2

theorem zo_ladd {mi pc : Nat} {L st : List zV} {σ : zM} (hx : p.tables.exec = Jvm.exec) (hb : c.code = zb mi) (hml : c.maxLocals = zl mi) (hown : s.vm.findClass (zR (zown mi)) = some m.cls) (hts : ∀ w ∈ zGT, w.before args s = true) (hE : zEnv D dA ad s s.heap) {x y : Int} (hd : decode (zb mi) pc = .ok (.ladd, 1)) (k : zWX p l e R s m args below meth c cells slots Q D dA ad (zl mi) (pc + 1, L, vL (zlbin 0 x y) :: st, σ)) : zWX p l e R s m args below meth c cells slots Q D dA ad (zl mi) (pc, L, .inr (.inl y) :: .inr (.inl x) :: st, σ) := by
  intro H locs ls hL hst hM hh hP hS
  refine lv_ladd hx hb hd ?_
  have k2 := k H locs ls hL (zok_push (zlbin_ok _ _ _) (fun w hw => hst w (List.mem_cons_of_mem _ (List.mem_cons_of_mem _ hw)))) hM hh hP hS
  simp only [List.map_cons, zcv, zlbin, Int64.ofInt_toInt] at k2
  exact k2

theorem zo_lmul {mi pc : Nat} {L st : List zV} {σ : zM} (hx : p.tables.exec = Jvm.exec) (hb : c.code = zb mi) (hml : c.maxLocals = zl mi) (hown : s.vm.findClass (zR (zown mi)) = some m.cls) (hts : ∀ w ∈ zGT, w.before args s = true) (hE : zEnv D dA ad s s.heap) {x y : Int} (hd : decode (zb mi) pc = .ok (.lmul, 1)) (k : zWX p l e R s m args below meth c cells slots Q D dA ad (zl mi) (pc + 1, L, vL (zlbin 1 x y) :: st, σ)) : zWX p l e R s m args below meth c cells slots Q D dA ad (zl mi) (pc, L, .inr (.inl y) :: .inr (.inl x) :: st, σ) := by
  intro H locs ls hL hst hM hh hP hS
  refine lv_lmul hx hb hd ?_
  have k2 := k H locs ls hL (zok_push (zlbin_ok _ _ _) (fun w hw => hst w (List.mem_cons_of_mem _ (List.mem_cons_of_mem _ hw)))) hM hh hP hS
  simp only [List.map_cons, zcv, zlbin, Int64.ofInt_toInt] at k2
  exact k2

theorem zo_land {mi pc : Nat} {L st : List zV} {σ : zM} (hx : p.tables.exec = Jvm.exec) (hb : c.code = zb mi) (hml : c.maxLocals = zl mi) (hown : s.vm.findClass (zR (zown mi)) = some m.cls) (hts : ∀ w ∈ zGT, w.before args s = true) (hE : zEnv D dA ad s s.heap) {x y : Int} (hd : decode (zb mi) pc = .ok (.land, 1)) (k : zWX p l e R s m args below meth c cells slots Q D dA ad (zl mi) (pc + 1, L, vL (zlbin 2 x y) :: st, σ)) : zWX p l e R s m args below meth c cells slots Q D dA ad (zl mi) (pc, L, .inr (.inl y) :: .inr (.inl x) :: st, σ) := by
  intro H locs ls hL hst hM hh hP hS
  refine lv_land hx hb hd ?_
  have k2 := k H locs ls hL (zok_push (zlbin_ok _ _ _) (fun w hw => hst w (List.mem_cons_of_mem _ (List.mem_cons_of_mem _ hw)))) hM hh hP hS
  simp only [List.map_cons, zcv, zlbin, Int64.ofInt_toInt] at k2
  exact k2

theorem zo_lor {mi pc : Nat} {L st : List zV} {σ : zM} (hx : p.tables.exec = Jvm.exec) (hb : c.code = zb mi) (hml : c.maxLocals = zl mi) (hown : s.vm.findClass (zR (zown mi)) = some m.cls) (hts : ∀ w ∈ zGT, w.before args s = true) (hE : zEnv D dA ad s s.heap) {x y : Int} (hd : decode (zb mi) pc = .ok (.lor, 1)) (k : zWX p l e R s m args below meth c cells slots Q D dA ad (zl mi) (pc + 1, L, vL (zlbin 3 x y) :: st, σ)) : zWX p l e R s m args below meth c cells slots Q D dA ad (zl mi) (pc, L, .inr (.inl y) :: .inr (.inl x) :: st, σ) := by
  intro H locs ls hL hst hM hh hP hS
  refine lv_lor hx hb hd ?_
  have k2 := k H locs ls hL (zok_push (zlbin_ok _ _ _) (fun w hw => hst w (List.mem_cons_of_mem _ (List.mem_cons_of_mem _ hw)))) hM hh hP hS
  simp only [List.map_cons, zcv, zlbin, Int64.ofInt_toInt] at k2
  exact k2

theorem zo_lshl {mi pc : Nat} {L st : List zV} {σ : zM} (hx : p.tables.exec = Jvm.exec) (hb : c.code = zb mi) (hml : c.maxLocals = zl mi) (hown : s.vm.findClass (zR (zown mi)) = some m.cls) (hts : ∀ w ∈ zGT, w.before args s = true) (hE : zEnv D dA ad s s.heap) {x y : Int} (hd : decode (zb mi) pc = .ok (.lshl, 1)) (k : zWX p l e R s m args below meth c cells slots Q D dA ad (zl mi) (pc + 1, L, vL (zlsh 0 x y) :: st, σ)) : zWX p l e R s m args below meth c cells slots Q D dA ad (zl mi) (pc, L, .inl y :: .inr (.inl x) :: st, σ) := by
  intro H locs ls hL hst hM hh hP hS
  refine lv_lshl hx hb hd rfl ?_
  have k2 := k H locs ls hL (zok_push (zlsh_ok _ _ _) (fun w hw => hst w (List.mem_cons_of_mem _ (List.mem_cons_of_mem _ hw)))) hM hh hP hS
  simp only [List.map_cons, zcv, zlsh, Int64.ofInt_toInt] at k2
  exact k2

theorem zo_lshr {mi pc : Nat} {L st : List zV} {σ : zM} (hx : p.tables.exec = Jvm.exec) (hb : c.code = zb mi) (hml : c.maxLocals = zl mi) (hown : s.vm.findClass (zR (zown mi)) = some m.cls) (hts : ∀ w ∈ zGT, w.before args s = true) (hE : zEnv D dA ad s s.heap) {x y : Int} (hd : decode (zb mi) pc = .ok (.lshr, 1)) (k : zWX p l e R s m args below meth c cells slots Q D dA ad (zl mi) (pc + 1, L, vL (zlsh 1 x y) :: st, σ)) : zWX p l e R s m args below meth c cells slots Q D dA ad (zl mi) (pc, L, .inl y :: .inr (.inl x) :: st, σ) := by
  intro H locs ls hL hst hM hh hP hS
  refine lv_lshr hx hb hd rfl ?_
  have k2 := k H locs ls hL (zok_push (zlsh_ok _ _ _) (fun w hw => hst w (List.mem_cons_of_mem _ (List.mem_cons_of_mem _ hw)))) hM hh hP hS
  simp only [List.map_cons, zcv, zlsh, Int64.ofInt_toInt] at k2
  exact k2

theorem zo_i2l {mi pc : Nat} {L st : List zV} {σ : zM} (hx : p.tables.exec = Jvm.exec) (hb : c.code = zb mi) (hml : c.maxLocals = zl mi) (hown : s.vm.findClass (zR (zown mi)) = some m.cls) (hts : ∀ w ∈ zGT, w.before args s = true) (hE : zEnv D dA ad s s.heap) {x : Int} (hd : decode (zb mi) pc = .ok (.i2l, 1)) (k : zWX p l e R s m args below meth c cells slots Q D dA ad (zl mi) (pc + 1, L, vL x :: st, σ)) : zWX p l e R s m args below meth c cells slots Q D dA ad (zl mi) (pc, L, .inl x :: st, σ) := by
  intro H locs ls hL hst hM hh hP hS
  have hx1 : zi32 x := hst (.inl x) List.mem_cons_self
  have e : (Int32.ofInt x).toInt64 = Int64.ofInt x := by rw [← Int64.toInt_inj, Int32.toInt_toInt64, zto32 hx1, zto64 ⟨by have := hx1.1; omega, by have := hx1.2; omega⟩]
  exact lv_i2l hx hb hd e (k H locs ls hL (zok_push (show zi64 x from ⟨by have := hx1.1; omega, by have := hx1.2; omega⟩) (fun w hw => hst w (List.mem_cons_of_mem _ hw))) hM hh hP hS)

theorem zo_l2i {mi pc : Nat} {L st : List zV} {σ : zM} (hx : p.tables.exec = Jvm.exec) (hb : c.code = zb mi) (hml : c.maxLocals = zl mi) (hown : s.vm.findClass (zR (zown mi)) = some m.cls) (hts : ∀ w ∈ zGT, w.before args s = true) (hE : zEnv D dA ad s s.heap) {x : Int} (hd : decode (zb mi) pc = .ok (.l2i, 1)) (k : zWX p l e R s m args below meth c cells slots Q D dA ad (zl mi) (pc + 1, L, vI (Int64.ofInt x).toInt32.toInt :: st, σ)) : zWX p l e R s m args below meth c cells slots Q D dA ad (zl mi) (pc, L, .inr (.inl x) :: st, σ) := by
  intro H locs ls hL hst hM hh hP hS
  have k2 := k H locs ls hL (zok_push (show zi32 _ from zof32 _) (fun w hw => hst w (List.mem_cons_of_mem _ hw))) hM hh hP hS
  simp only [List.map_cons, zcv, Int32.ofInt_toInt] at k2
  exact lv_l2i hx hb hd rfl k2

theorem zo_i2b {mi pc : Nat} {L st : List zV} {σ : zM} (hx : p.tables.exec = Jvm.exec) (hb : c.code = zb mi) (hml : c.maxLocals = zl mi) (hown : s.vm.findClass (zR (zown mi)) = some m.cls) (hts : ∀ w ∈ zGT, w.before args s = true) (hE : zEnv D dA ad s s.heap) {x : Int} (hd : decode (zb mi) pc = .ok (.i2b, 1)) (k : zWX p l e R s m args below meth c cells slots Q D dA ad (zl mi) (pc + 1, L, vI (Int32.ofInt x).toInt8.toInt32.toInt :: st, σ)) : zWX p l e R s m args below meth c cells slots Q D dA ad (zl mi) (pc, L, .inl x :: st, σ) := by
  intro H locs ls hL hst hM hh hP hS
  have k2 := k H locs ls hL (zok_push (show zi32 _ from zof32 _) (fun w hw => hst w (List.mem_cons_of_mem _ hw))) hM hh hP hS
  simp only [List.map_cons, zcv, Int32.ofInt_toInt] at k2
  exact lv_i2b hx hb hd rfl k2

theorem zo_i2s {mi pc : Nat} {L st : List zV} {σ : zM} (hx : p.tables.exec = Jvm.exec) (hb : c.code = zb mi) (hml : c.maxLocals = zl mi) (hown : s.vm.findClass (zR (zown mi)) = some m.cls) (hts : ∀ w ∈ zGT, w.before args s = true) (hE : zEnv D dA ad s s.heap) {x : Int} (hd : decode (zb mi) pc = .ok (.i2s, 1)) (k : zWX p l e R s m args below meth c cells slots Q D dA ad (zl mi) (pc + 1, L, vI (Int32.ofInt x).toInt16.toInt32.toInt :: st, σ)) : zWX p l e R s m args below meth c cells slots Q D dA ad (zl mi) (pc, L, .inl x :: st, σ) := by
  intro H locs ls hL hst hM hh hP hS
  have k2 := k H locs ls hL (zok_push (show zi32 _ from zof32 _) (fun w hw => hst w (List.mem_cons_of_mem _ hw))) hM hh hP hS
  simp only [List.map_cons, zcv, Int32.ofInt_toInt] at k2
  exact lv_i2s hx hb hd rfl k2

theorem zo_i2c {mi pc : Nat} {L st : List zV} {σ : zM} (hx : p.tables.exec = Jvm.exec) (hb : c.code = zb mi) (hml : c.maxLocals = zl mi) (hown : s.vm.findClass (zR (zown mi)) = some m.cls) (hts : ∀ w ∈ zGT, w.before args s = true) (hE : zEnv D dA ad s s.heap) {x : Int} (hd : decode (zb mi) pc = .ok (.i2c, 1)) (k : zWX p l e R s m args below meth c cells slots Q D dA ad (zl mi) (pc + 1, L, vI ((Int32.ofInt x).toUInt32 % 65536).toInt32.toInt :: st, σ)) : zWX p l e R s m args below meth c cells slots Q D dA ad (zl mi) (pc, L, .inl x :: st, σ) := by
  intro H locs ls hL hst hM hh hP hS
  have k2 := k H locs ls hL (zok_push (show zi32 _ from zof32 _) (fun w hw => hst w (List.mem_cons_of_mem _ hw))) hM hh hP hS
  simp only [List.map_cons, zcv, Int32.ofInt_toInt] at k2
  exact lv_i2c hx hb hd rfl k2

theorem zo_lcmp {mi pc : Nat} {L st : List zV} {σ : zM} (hx : p.tables.exec = Jvm.exec) (hb : c.code = zb mi) (hml : c.maxLocals = zl mi) (hown : s.vm.findClass (zR (zown mi)) = some m.cls) (hts : ∀ w ∈ zGT, w.before args s = true) (hE : zEnv D dA ad s s.heap) {x y : Int} (hd : decode (zb mi) pc = .ok (.lcmp, 1)) (k : zWX p l e R s m args below meth c cells slots Q D dA ad (zl mi) (pc + 1, L, vI (zcmp x y) :: st, σ)) : zWX p l e R s m args below meth c cells slots Q D dA ad (zl mi) (pc, L, .inr (.inl y) :: .inr (.inl x) :: st, σ) := by
  intro H locs ls hL hst hM hh hP hS
  have hy1 : zi64 y := hst (.inr (.inl y)) List.mem_cons_self
  have hx1 : zi64 x := hst (.inr (.inl x)) (List.mem_cons_of_mem _ List.mem_cons_self)
  have eL : lg_cmp (Int64.ofInt x) (Int64.ofInt y) = Int32.ofInt (zcmp x y) := by
    unfold lg_cmp zcmp
    have e1 : (Int64.ofInt x > Int64.ofInt y) ↔ y < x := by rw [gt_iff_lt, Int64.lt_iff_toInt_lt, zto64 hx1, zto64 hy1]
    have e2 : (Int64.ofInt x = Int64.ofInt y) ↔ x = y := by rw [← Int64.toInt_inj, zto64 hx1, zto64 hy1]
    simp only [e1, e2]
    by_cases h1 : x < y
    · rw [if_neg (by omega), if_neg (by omega), if_pos h1]; rfl
    · by_cases h2 : x = y
      · rw [if_neg (by omega), if_pos h2, if_neg h1, if_pos h2]; rfl
      · rw [if_pos (by omega), if_neg h1, if_neg h2]; rfl
  refine W.lcmp hx hb hd ?_
  show W p l e R s m args below meth c H locs cells slots Q (F0 m (pc + 1) ls (.int (lg_cmp (Int64.ofInt x) (Int64.ofInt y)) :: st.map (zcv ad)))
  rw [eL]
  exact k H locs ls hL (zok_push (show zi32 (zcmp x y) from by unfold zcmp; split; exact ⟨by decide, by decide⟩; split; exact zi320; exact ⟨by decide, by decide⟩) (fun w hw => hst w (List.mem_cons_of_mem _ (List.mem_cons_of_mem _ hw)))) hM hh hP hS

theorem zo_icmp_eq {mi pc : Nat} {L st : List zV} {σ : zM} (hx : p.tables.exec = Jvm.exec) (hb : c.code = zb mi) (hml : c.maxLocals = zl mi) (hown : s.vm.findClass (zR (zown mi)) = some m.cls) (hts : ∀ w ∈ zGT, w.before args s = true) (hE : zEnv D dA ad s s.heap) {x y o : Int} {b : Nat} (hd : decode (zb mi) pc = .ok (.if_icmp .eq o, 3)) (ht : (pc : Int) + o = (b : Int)) (kt : x = y → zWX p l e R s m args below meth c cells slots Q D dA ad (zl mi) (b, L, st, σ)) (kf : ¬ (x = y) → zWX p l e R s m args below meth c cells slots Q D dA ad (zl mi) (pc + 3, L, st, σ)) : zWX p l e R s m args below meth c cells slots Q D dA ad (zl mi) (pc, L, .inl y :: .inl x :: st, σ) := by
  intro H locs ls hL hst hM hh hP hS
  have hy1 : zi32 y := hst (.inl y) List.mem_cons_self
  have hx1 : zi32 x := hst (.inl x) (List.mem_cons_of_mem _ List.mem_cons_self)
  have hst2 : ∀ w ∈ st, zokV w := fun w hw => hst w (List.mem_cons_of_mem _ (List.mem_cons_of_mem _ hw))
  exact lv_icmp_eq hx hb hd ht (fun q => kt ((zeq32 hx1 hy1).mp q) H locs ls hL hst2 hM hh hP hS) (fun q => kf (fun z => q ((zeq32 hx1 hy1).mpr z)) H locs ls hL hst2 hM hh hP hS)

theorem zo_if_eq {mi pc : Nat} {L st : List zV} {σ : zM} (hx : p.tables.exec = Jvm.exec) (hb : c.code = zb mi) (hml : c.maxLocals = zl mi) (hown : s.vm.findClass (zR (zown mi)) = some m.cls) (hts : ∀ w ∈ zGT, w.before args s = true) (hE : zEnv D dA ad s s.heap) {x o : Int} {b : Nat} (hd : decode (zb mi) pc = .ok (.ifCond .eq o, 3)) (ht : (pc : Int) + o = (b : Int)) (kt : x = 0 → zWX p l e R s m args below meth c cells slots Q D dA ad (zl mi) (b, L, st, σ)) (kf : ¬ (x = 0) → zWX p l e R s m args below meth c cells slots Q D dA ad (zl mi) (pc + 3, L, st, σ)) : zWX p l e R s m args below meth c cells slots Q D dA ad (zl mi) (pc, L, .inl x :: st, σ) := by
  intro H locs ls hL hst hM hh hP hS
  have hy1 : zi32 0 := zi320
  have hx1 : zi32 x := hst (.inl x) List.mem_cons_self
  have hst2 : ∀ w ∈ st, zokV w := fun w hw => hst w (List.mem_cons_of_mem _ hw)
  exact lv_if_eq hx hb hd ht (fun q => kt ((zeq32 hx1 hy1).mp q) H locs ls hL hst2 hM hh hP hS) (fun q => kf (fun z => q ((zeq32 hx1 hy1).mpr z)) H locs ls hL hst2 hM hh hP hS)

theorem zo_icmp_ne {mi pc : Nat} {L st : List zV} {σ : zM} (hx : p.tables.exec = Jvm.exec) (hb : c.code = zb mi) (hml : c.maxLocals = zl mi) (hown : s.vm.findClass (zR (zown mi)) = some m.cls) (hts : ∀ w ∈ zGT, w.before args s = true) (hE : zEnv D dA ad s s.heap) {x y o : Int} {b : Nat} (hd : decode (zb mi) pc = .ok (.if_icmp .ne o, 3)) (ht : (pc : Int) + o = (b : Int)) (kt : ¬ x = y → zWX p l e R s m args below meth c cells slots Q D dA ad (zl mi) (b, L, st, σ)) (kf : ¬ (¬ x = y) → zWX p l e R s m args below meth c cells slots Q D dA ad (zl mi) (pc + 3, L, st, σ)) : zWX p l e R s m args below meth c cells slots Q D dA ad (zl mi) (pc, L, .inl y :: .inl x :: st, σ) := by
  intro H locs ls hL hst hM hh hP hS
  have hy1 : zi32 y := hst (.inl y) List.mem_cons_self
  have hx1 : zi32 x := hst (.inl x) (List.mem_cons_of_mem _ List.mem_cons_self)
  have hst2 : ∀ w ∈ st, zokV w := fun w hw => hst w (List.mem_cons_of_mem _ (List.mem_cons_of_mem _ hw))
  exact lv_icmp_ne hx hb hd ht (fun q => kt ((not_congr (zeq32 hx1 hy1)).mp q) H locs ls hL hst2 hM hh hP hS) (fun q => kf (fun z => z ((zeq32 hx1 hy1).mp q)) H locs ls hL hst2 hM hh hP hS)

theorem zo_if_ne {mi pc : Nat} {L st : List zV} {σ : zM} (hx : p.tables.exec = Jvm.exec) (hb : c.code = zb mi) (hml : c.maxLocals = zl mi) (hown : s.vm.findClass (zR (zown mi)) = some m.cls) (hts : ∀ w ∈ zGT, w.before args s = true) (hE : zEnv D dA ad s s.heap) {x o : Int} {b : Nat} (hd : decode (zb mi) pc = .ok (.ifCond .ne o, 3)) (ht : (pc : Int) + o = (b : Int)) (kt : ¬ x = 0 → zWX p l e R s m args below meth c cells slots Q D dA ad (zl mi) (b, L, st, σ)) (kf : ¬ (¬ x = 0) → zWX p l e R s m args below meth c cells slots Q D dA ad (zl mi) (pc + 3, L, st, σ)) : zWX p l e R s m args below meth c cells slots Q D dA ad (zl mi) (pc, L, .inl x :: st, σ) := by
  intro H locs ls hL hst hM hh hP hS
  have hy1 : zi32 0 := zi320
  have hx1 : zi32 x := hst (.inl x) List.mem_cons_self
  have hst2 : ∀ w ∈ st, zokV w := fun w hw => hst w (List.mem_cons_of_mem _ hw)
  exact lv_if_ne hx hb hd ht (fun q => kt ((not_congr (zeq32 hx1 hy1)).mp q) H locs ls hL hst2 hM hh hP hS) (fun q => kf (fun z => z ((zeq32 hx1 hy1).mp q)) H locs ls hL hst2 hM hh hP hS)

theorem zo_icmp_lt {mi pc : Nat} {L st : List zV} {σ : zM} (hx : p.tables.exec = Jvm.exec) (hb : c.code = zb mi) (hml : c.maxLocals = zl mi) (hown : s.vm.findClass (zR (zown mi)) = some m.cls) (hts : ∀ w ∈ zGT, w.before args s = true) (hE : zEnv D dA ad s s.heap) {x y o : Int} {b : Nat} (hd : decode (zb mi) pc = .ok (.if_icmp .lt o, 3)) (ht : (pc : Int) + o = (b : Int)) (kt : x < y → zWX p l e R s m args below meth c cells slots Q D dA ad (zl mi) (b, L, st, σ)) (kf : ¬ (x < y) → zWX p l e R s m args below meth c cells slots Q D dA ad (zl mi) (pc + 3, L, st, σ)) : zWX p l e R s m args below meth c cells slots Q D dA ad (zl mi) (pc, L, .inl y :: .inl x :: st, σ) := by
  intro H locs ls hL hst hM hh hP hS
  have hy1 : zi32 y := hst (.inl y) List.mem_cons_self
  have hx1 : zi32 x := hst (.inl x) (List.mem_cons_of_mem _ List.mem_cons_self)
  have hst2 : ∀ w ∈ st, zokV w := fun w hw => hst w (List.mem_cons_of_mem _ (List.mem_cons_of_mem _ hw))
  exact lv_icmp_lt hx hb hd ht (fun q => kt ((zlt32 hx1 hy1).mp q) H locs ls hL hst2 hM hh hP hS) (fun q => kf (fun z => q ((zlt32 hx1 hy1).mpr z)) H locs ls hL hst2 hM hh hP hS)

theorem zo_if_lt {mi pc : Nat} {L st : List zV} {σ : zM} (hx : p.tables.exec = Jvm.exec) (hb : c.code = zb mi) (hml : c.maxLocals = zl mi) (hown : s.vm.findClass (zR (zown mi)) = some m.cls) (hts : ∀ w ∈ zGT, w.before args s = true) (hE : zEnv D dA ad s s.heap) {x o : Int} {b : Nat} (hd : decode (zb mi) pc = .ok (.ifCond .lt o, 3)) (ht : (pc : Int) + o = (b : Int)) (kt : x < 0 → zWX p l e R s m args below meth c cells slots Q D dA ad (zl mi) (b, L, st, σ)) (kf : ¬ (x < 0) → zWX p l e R s m args below meth c cells slots Q D dA ad (zl mi) (pc + 3, L, st, σ)) : zWX p l e R s m args below meth c cells slots Q D dA ad (zl mi) (pc, L, .inl x :: st, σ) := by
  intro H locs ls hL hst hM hh hP hS
  have hy1 : zi32 0 := zi320
  have hx1 : zi32 x := hst (.inl x) List.mem_cons_self
  have hst2 : ∀ w ∈ st, zokV w := fun w hw => hst w (List.mem_cons_of_mem _ hw)
  exact lv_if_lt hx hb hd ht (fun q => kt ((zlt32 hx1 hy1).mp q) H locs ls hL hst2 hM hh hP hS) (fun q => kf (fun z => q ((zlt32 hx1 hy1).mpr z)) H locs ls hL hst2 hM hh hP hS)

theorem zo_icmp_ge {mi pc : Nat} {L st : List zV} {σ : zM} (hx : p.tables.exec = Jvm.exec) (hb : c.code = zb mi) (hml : c.maxLocals = zl mi) (hown : s.vm.findClass (zR (zown mi)) = some m.cls) (hts : ∀ w ∈ zGT, w.before args s = true) (hE : zEnv D dA ad s s.heap) {x y o : Int} {b : Nat} (hd : decode (zb mi) pc = .ok (.if_icmp .ge o, 3)) (ht : (pc : Int) + o = (b : Int)) (kt : y ≤ x → zWX p l e R s m args below meth c cells slots Q D dA ad (zl mi) (b, L, st, σ)) (kf : ¬ (y ≤ x) → zWX p l e R s m args below meth c cells slots Q D dA ad (zl mi) (pc + 3, L, st, σ)) : zWX p l e R s m args below meth c cells slots Q D dA ad (zl mi) (pc, L, .inl y :: .inl x :: st, σ) := by
  intro H locs ls hL hst hM hh hP hS
  have hy1 : zi32 y := hst (.inl y) List.mem_cons_self
  have hx1 : zi32 x := hst (.inl x) (List.mem_cons_of_mem _ List.mem_cons_self)
  have hst2 : ∀ w ∈ st, zokV w := fun w hw => hst w (List.mem_cons_of_mem _ (List.mem_cons_of_mem _ hw))
  exact lv_icmp_ge hx hb hd ht (fun q => kt ((zle32 hy1 hx1).mp q) H locs ls hL hst2 hM hh hP hS) (fun q => kf (fun z => q ((zle32 hy1 hx1).mpr z)) H locs ls hL hst2 hM hh hP hS)

theorem zo_if_ge {mi pc : Nat} {L st : List zV} {σ : zM} (hx : p.tables.exec = Jvm.exec) (hb : c.code = zb mi) (hml : c.maxLocals = zl mi) (hown : s.vm.findClass (zR (zown mi)) = some m.cls) (hts : ∀ w ∈ zGT, w.before args s = true) (hE : zEnv D dA ad s s.heap) {x o : Int} {b : Nat} (hd : decode (zb mi) pc = .ok (.ifCond .ge o, 3)) (ht : (pc : Int) + o = (b : Int)) (kt : 0 ≤ x → zWX p l e R s m args below meth c cells slots Q D dA ad (zl mi) (b, L, st, σ)) (kf : ¬ (0 ≤ x) → zWX p l e R s m args below meth c cells slots Q D dA ad (zl mi) (pc + 3, L, st, σ)) : zWX p l e R s m args below meth c cells slots Q D dA ad (zl mi) (pc, L, .inl x :: st, σ) := by
  intro H locs ls hL hst hM hh hP hS
  have hy1 : zi32 0 := zi320
  have hx1 : zi32 x := hst (.inl x) List.mem_cons_self
  have hst2 : ∀ w ∈ st, zokV w := fun w hw => hst w (List.mem_cons_of_mem _ hw)
  exact lv_if_ge hx hb hd ht (fun q => kt ((zle32 hy1 hx1).mp q) H locs ls hL hst2 hM hh hP hS) (fun q => kf (fun z => q ((zle32 hy1 hx1).mpr z)) H locs ls hL hst2 hM hh hP hS)

theorem zo_icmp_gt {mi pc : Nat} {L st : List zV} {σ : zM} (hx : p.tables.exec = Jvm.exec) (hb : c.code = zb mi) (hml : c.maxLocals = zl mi) (hown : s.vm.findClass (zR (zown mi)) = some m.cls) (hts : ∀ w ∈ zGT, w.before args s = true) (hE : zEnv D dA ad s s.heap) {x y o : Int} {b : Nat} (hd : decode (zb mi) pc = .ok (.if_icmp .gt o, 3)) (ht : (pc : Int) + o = (b : Int)) (kt : y < x → zWX p l e R s m args below meth c cells slots Q D dA ad (zl mi) (b, L, st, σ)) (kf : ¬ (y < x) → zWX p l e R s m args below meth c cells slots Q D dA ad (zl mi) (pc + 3, L, st, σ)) : zWX p l e R s m args below meth c cells slots Q D dA ad (zl mi) (pc, L, .inl y :: .inl x :: st, σ) := by
  intro H locs ls hL hst hM hh hP hS
  have hy1 : zi32 y := hst (.inl y) List.mem_cons_self
  have hx1 : zi32 x := hst (.inl x) (List.mem_cons_of_mem _ List.mem_cons_self)
  have hst2 : ∀ w ∈ st, zokV w := fun w hw => hst w (List.mem_cons_of_mem _ (List.mem_cons_of_mem _ hw))
  exact lv_icmp_gt hx hb hd ht (fun q => kt ((zlt32 hy1 hx1).mp q) H locs ls hL hst2 hM hh hP hS) (fun q => kf (fun z => q ((zlt32 hy1 hx1).mpr z)) H locs ls hL hst2 hM hh hP hS)

theorem zo_if_gt {mi pc : Nat} {L st : List zV} {σ : zM} (hx : p.tables.exec = Jvm.exec) (hb : c.code = zb mi) (hml : c.maxLocals = zl mi) (hown : s.vm.findClass (zR (zown mi)) = some m.cls) (hts : ∀ w ∈ zGT, w.before args s = true) (hE : zEnv D dA ad s s.heap) {x o : Int} {b : Nat} (hd : decode (zb mi) pc = .ok (.ifCond .gt o, 3)) (ht : (pc : Int) + o = (b : Int)) (kt : 0 < x → zWX p l e R s m args below meth c cells slots Q D dA ad (zl mi) (b, L, st, σ)) (kf : ¬ (0 < x) → zWX p l e R s m args below meth c cells slots Q D dA ad (zl mi) (pc + 3, L, st, σ)) : zWX p l e R s m args below meth c cells slots Q D dA ad (zl mi) (pc, L, .inl x :: st, σ) := by
  intro H locs ls hL hst hM hh hP hS
  have hy1 : zi32 0 := zi320
  have hx1 : zi32 x := hst (.inl x) List.mem_cons_self
  have hst2 : ∀ w ∈ st, zokV w := fun w hw => hst w (List.mem_cons_of_mem _ hw)
  exact lv_if_gt hx hb hd ht (fun q => kt ((zlt32 hy1 hx1).mp q) H locs ls hL hst2 hM hh hP hS) (fun q => kf (fun z => q ((zlt32 hy1 hx1).mpr z)) H locs ls hL hst2 hM hh hP hS)

theorem zo_icmp_le {mi pc : Nat} {L st : List zV} {σ : zM} (hx : p.tables.exec = Jvm.exec) (hb : c.code = zb mi) (hml : c.maxLocals = zl mi) (hown : s.vm.findClass (zR (zown mi)) = some m.cls) (hts : ∀ w ∈ zGT, w.before args s = true) (hE : zEnv D dA ad s s.heap) {x y o : Int} {b : Nat} (hd : decode (zb mi) pc = .ok (.if_icmp .le o, 3)) (ht : (pc : Int) + o = (b : Int)) (kt : x ≤ y → zWX p l e R s m args below meth c cells slots Q D dA ad (zl mi) (b, L, st, σ)) (kf : ¬ (x ≤ y) → zWX p l e R s m args below meth c cells slots Q D dA ad (zl mi) (pc + 3, L, st, σ)) : zWX p l e R s m args below meth c cells slots Q D dA ad (zl mi) (pc, L, .inl y :: .inl x :: st, σ) := by
  intro H locs ls hL hst hM hh hP hS
  have hy1 : zi32 y := hst (.inl y) List.mem_cons_self
  have hx1 : zi32 x := hst (.inl x) (List.mem_cons_of_mem _ List.mem_cons_self)
  have hst2 : ∀ w ∈ st, zokV w := fun w hw => hst w (List.mem_cons_of_mem _ (List.mem_cons_of_mem _ hw))
  exact lv_icmp_le hx hb hd ht (fun q => kt ((zle32 hx1 hy1).mp q) H locs ls hL hst2 hM hh hP hS) (fun q => kf (fun z => q ((zle32 hx1 hy1).mpr z)) H locs ls hL hst2 hM hh hP hS)

theorem zo_if_le {mi pc : Nat} {L st : List zV} {σ : zM} (hx : p.tables.exec = Jvm.exec) (hb : c.code = zb mi) (hml : c.maxLocals = zl mi) (hown : s.vm.findClass (zR (zown mi)) = some m.cls) (hts : ∀ w ∈ zGT, w.before args s = true) (hE : zEnv D dA ad s s.heap) {x o : Int} {b : Nat} (hd : decode (zb mi) pc = .ok (.ifCond .le o, 3)) (ht : (pc : Int) + o = (b : Int)) (kt : x ≤ 0 → zWX p l e R s m args below meth c cells slots Q D dA ad (zl mi) (b, L, st, σ)) (kf : ¬ (x ≤ 0) → zWX p l e R s m args below meth c cells slots Q D dA ad (zl mi) (pc + 3, L, st, σ)) : zWX p l e R s m args below meth c cells slots Q D dA ad (zl mi) (pc, L, .inl x :: st, σ) := by
  intro H locs ls hL hst hM hh hP hS
  have hy1 : zi32 0 := zi320
  have hx1 : zi32 x := hst (.inl x) List.mem_cons_self
  have hst2 : ∀ w ∈ st, zokV w := fun w hw => hst w (List.mem_cons_of_mem _ hw)
  exact lv_if_le hx hb hd ht (fun q => kt ((zle32 hx1 hy1).mp q) H locs ls hL hst2 hM hh hP hS) (fun q => kf (fun z => q ((zle32 hx1 hy1).mpr z)) H locs ls hL hst2 hM hh hP hS)

theorem zo_ifnull {mi pc : Nat} {L st : List zV} {σ : zM} (hx : p.tables.exec = Jvm.exec) (hb : c.code = zb mi) (hml : c.maxLocals = zl mi) (hown : s.vm.findClass (zR (zown mi)) = some m.cls) (hts : ∀ w ∈ zGT, w.before args s = true) (hE : zEnv D dA ad s s.heap) {q : Nat} {o : Int} (hd : decode (zb mi) pc = .ok (.ifnull o, 3)) (k : zWX p l e R s m args below meth c cells slots Q D dA ad (zl mi) (pc + 3, L, st, σ)) : zWX p l e R s m args below meth c cells slots Q D dA ad (zl mi) (pc, L, .inr (.inr (.inl q)) :: st, σ) := by
  intro H locs ls hL hst hM hh hP hS
  exact lv_ifnull hx hb hd (k H locs ls hL (fun w hw => hst w (List.mem_cons_of_mem _ hw)) hM hh hP hS)

theorem zo_ifnullN {mi pc : Nat} {L st : List zV} {σ : zM} (hx : p.tables.exec = Jvm.exec) (hb : c.code = zb mi) (hml : c.maxLocals = zl mi) (hown : s.vm.findClass (zR (zown mi)) = some m.cls) (hts : ∀ w ∈ zGT, w.before args s = true) (hE : zEnv D dA ad s s.heap) {o : Int} {b : Nat} (hd : decode (zb mi) pc = .ok (.ifnull o, 3)) (ht : (pc : Int) + o = (b : Int)) (k : zWX p l e R s m args below meth c cells slots Q D dA ad (zl mi) (b, L, st, σ)) : zWX p l e R s m args below meth c cells slots Q D dA ad (zl mi) (pc, L, vN :: st, σ) := by
  intro H locs ls hL hst hM hh hP hS
  exact lv_ifnullN hx hb hd ht (k H locs ls hL (fun w hw => hst w (List.mem_cons_of_mem _ hw)) hM hh hP hS)

theorem zo_ifnonnull {mi pc : Nat} {L st : List zV} {σ : zM} (hx : p.tables.exec = Jvm.exec) (hb : c.code = zb mi) (hml : c.maxLocals = zl mi) (hown : s.vm.findClass (zR (zown mi)) = some m.cls) (hts : ∀ w ∈ zGT, w.before args s = true) (hE : zEnv D dA ad s s.heap) {q : Nat} {o : Int} {b : Nat} (hd : decode (zb mi) pc = .ok (.ifnonnull o, 3)) (ht : (pc : Int) + o = (b : Int)) (k : zWX p l e R s m args below meth c cells slots Q D dA ad (zl mi) (b, L, st, σ)) : zWX p l e R s m args below meth c cells slots Q D dA ad (zl mi) (pc, L, .inr (.inr (.inl q)) :: st, σ) := by
  intro H locs ls hL hst hM hh hP hS
  exact lv_ifnonnull hx hb hd ht (k H locs ls hL (fun w hw => hst w (List.mem_cons_of_mem _ hw)) hM hh hP hS)

theorem zo_ifnonnullN {mi pc : Nat} {L st : List zV} {σ : zM} (hx : p.tables.exec = Jvm.exec) (hb : c.code = zb mi) (hml : c.maxLocals = zl mi) (hown : s.vm.findClass (zR (zown mi)) = some m.cls) (hts : ∀ w ∈ zGT, w.before args s = true) (hE : zEnv D dA ad s s.heap) {o : Int} (hd : decode (zb mi) pc = .ok (.ifnonnull o, 3)) (k : zWX p l e R s m args below meth c cells slots Q D dA ad (zl mi) (pc + 3, L, st, σ)) : zWX p l e R s m args below meth c cells slots Q D dA ad (zl mi) (pc, L, vN :: st, σ) := by
  intro H locs ls hL hst hM hh hP hS
  exact lv_ifnonnullN hx hb hd (k H locs ls hL (fun w hw => hst w (List.mem_cons_of_mem _ hw)) hM hh hP hS)

theorem zo_goto {mi pc : Nat} {L st : List zV} {σ : zM} (hx : p.tables.exec = Jvm.exec) (hb : c.code = zb mi) (hml : c.maxLocals = zl mi) (hown : s.vm.findClass (zR (zown mi)) = some m.cls) (hts : ∀ w ∈ zGT, w.before args s = true) (hE : zEnv D dA ad s s.heap) {o : Int} {b : Nat} (hd : decode (zb mi) pc = .ok (.goto o, 3)) (ht : (pc : Int) + o = (b : Int)) (k : zWX p l e R s m args below meth c cells slots Q D dA ad (zl mi) (b, L, st, σ)) : zWX p l e R s m args below meth c cells slots Q D dA ad (zl mi) (pc, L, st, σ) := by
  intro H locs ls hL hst hM hh hP hS
  exact lv_goto hx hb hd ht (k H locs ls hL hst hM hh hP hS)

theorem zo_getfield {mi pc : Nat} {L st : List zV} {σ : zM} (hx : p.tables.exec = Jvm.exec) (hb : c.code = zb mi) (hml : c.maxLocals = zl mi) (hown : s.vm.findClass (zR (zown mi)) = some m.cls) (hts : ∀ w ∈ zGT, w.before args s = true) (hE : zEnv D dA ad s s.heap) {q a b n z : Nat} {v : Value} {w : zV} (hd : decode (zb mi) pc = .ok (.getfield n, 3)) (hf : (zown mi, n, z, a, b) ∈ zfld) (hc : zcls q = a) (hv : zfw ad σ q b = v) (hw : zcv ad w = v) (hok : zokM σ → zokV w) (k : zWX p l e R s m args below meth c cells slots Q D dA ad (zl mi) (pc + 3, L, w :: st, σ)) : zWX p l e R s m args below meth c cells slots Q D dA ad (zl mi) (pc, L, .inr (.inr (.inl q)) :: st, σ) := by
  intro H locs ls hL hst hM hh hP hS
  have hq7 : zcls q < 7 := by rw [hc]; exact (zfok _ hf).1.1
  have hq41 : q < 41 := zcls_lt (by omega) (by omega)
  have he : (zwl dA ad σ)[q]? = some (ad q, .inr (zcls q, (List.range (zNf (zcls q))).map (zfw ad σ q))) := by
    rw [zwl_at hq41]; unfold zcell; rw [if_pos (by omega)]
  obtain ⟨⟨f1, f2, f3⟩, f4, f5⟩ := zfok _ hf
  have hcl : vwCl[zcls q]? = some (zR (zcls q), zT (zcls q), zNf (zcls q)) := by
    rw [hc]; exact zcl_at a f1
  have hk : ((List.range (zNf (zcls q))).map (zfw ad σ q))[b]? = some v := by
    rw [List.getElem?_map, List.getElem?_range (by rw [hc]; exact f2), ← hv]; rfl
  have k2 := k H locs ls hL (zok_push (hok hM) (fun w hw => hst w (List.mem_cons_of_mem _ hw))) hM hh hP hS
  rw [List.map_cons, hw] at k2
  by_cases hz : z = 0
  · exact va_get (Ts := zGT) (C := zR (zcls q)) (T := zT (zcls q)) (N := zNf (zcls q)) (ref := zR (zcls q)) hx hb hts (by rw [hc]; exact zin_all a f1) hown hE.1 hP q he hcl b (by rw [hc]; exact f2) (by rw [hc]; exact hts _ (f4 hz)) (fun x h => by rw [hc] at h ⊢; rw [f3] at h; exact h) hk hd k2
  · obtain ⟨g1, -⟩ := f5 hz
    have hl := hE.2.1.1 _ hf g1
    exact va_getN (Ts := zGT) (C := zR (zcls q)) (T := zT (zcls q)) (N := zNf (zcls q)) (ref := zR (zcls q)) (host := "PaleFence") hx hb hts (by rw [hc]; exact zin_all a f1) hown hE.1 hP q he hcl b (by rw [hc]; exact f2) (by rw [hc]; exact va_Nw.use rfl hl) (fun x h => by rw [hc] at h ⊢; rw [f3] at h; exact h) hk hd k2

theorem zo_putfield {mi pc : Nat} {L st : List zV} {σ : zM} (hx : p.tables.exec = Jvm.exec) (hb : c.code = zb mi) (hml : c.maxLocals = zl mi) (hown : s.vm.findClass (zR (zown mi)) = some m.cls) (hts : ∀ w ∈ zGT, w.before args s = true) (hE : zEnv D dA ad s s.heap) {q a b n z sc : Nat} {x : Int}  (hd : decode (zb mi) pc = .ok (.putfield n, 3)) (hf : (zown mi, n, z, a, b) ∈ zfld) (hc : zcls q = a) (hv : zfv q b = .inl sc) (hty : zty a b = .int) (hfin : (zT a b).2.2.2 = false) (k : zWX p l e R s m args below meth c cells slots Q D dA ad (zl mi) (pc + 3, L, st, zsetS σ sc x)) : zWX p l e R s m args below meth c cells slots Q D dA ad (zl mi) (pc, L, .inl x :: .inr (.inr (.inl q)) :: st, σ) := by
  intro H locs ls hL hst hM hh hP hS
  have hq7 : zcls q < 7 := by rw [hc]; exact (zfok _ hf).1.1
  have hq41 : q < 41 := zcls_lt (by omega) (by omega)
  have he : (zwl dA ad σ)[q]? = some (ad q, .inr (zcls q, (List.range (zNf (zcls q))).map (zfw ad σ q))) := by
    rw [zwl_at hq41]; unfold zcell; rw [if_pos (by omega)]
  obtain ⟨⟨f1, f2, f3⟩, f4, f5⟩ := zfok _ hf
  have hcl : vwCl[zcls q]? = some (zR (zcls q), zT (zcls q), zNf (zcls q)) := by
    rw [hc]; exact zcl_at a f1
  have hx1 : zi32 x := hst (.inl x) List.mem_cons_self
  have hpar : parseFieldDescriptor (zT (zcls q) b).2.2.1 = some .int := by rw [hc, ← hty]; exact zty_ok a f1 b f2
  by_cases hz : z = 0
  · exact va_put (Ts := zGT) (C := zR (zcls q)) (T := zT (zcls q)) (N := zNf (zcls q)) (ref := zR (zcls q)) (v := .int (Int32.ofInt x)) (ty := .int) hx hb hts (by rw [hc]; exact zin_all a f1) (zty (zcls q)) (by rw [hc]; exact zty_ok a f1) (by rw [hc]; exact znm_ok a f1) hown hE.1 hP (zD hE) hS q he hcl b (by rw [hc]; exact f2) (by rw [hc]; exact hts _ (f4 hz)) (fun x h => by rw [hc] at h ⊢; rw [f3] at h; exact h) (by rw [hc]; exact hfin) hpar rfl rfl (by rw [List.length_map, List.length_range, hc]; exact f2) hd
      (fun H1 locs1 hP1 _ hS1 => k H1 locs1 ls hL (fun w hw => hst w (List.mem_cons_of_mem _ (List.mem_cons_of_mem _ hw))) (zokM_S hM hx1) hh (by rw [← zcell_setS hq41 hq7 (by rw [hc]; exact f2) hv]; exact hP1) hS1)
  · obtain ⟨g1, -⟩ := f5 hz
    have hl := hE.2.1.1 _ hf g1
    exact va_putN (Ts := zGT) (C := zR (zcls q)) (T := zT (zcls q)) (N := zNf (zcls q)) (ref := zR (zcls q)) (host := "PaleFence") (v := .int (Int32.ofInt x)) (ty := .int) hx hb hts (by rw [hc]; exact zin_all a f1) (zty (zcls q)) (by rw [hc]; exact zty_ok a f1) (by rw [hc]; exact znm_ok a f1) hown hE.1 hP (zD hE) hS q he hcl b (by rw [hc]; exact f2) (by rw [hc]; exact va_Nw.use rfl hl) (fun x h => by rw [hc] at h ⊢; rw [f3] at h; exact h) (by rw [hc]; exact hfin) hpar rfl rfl (by rw [List.length_map, List.length_range, hc]; exact f2) hd
      (fun H1 locs1 hP1 _ hS1 => k H1 locs1 ls hL (fun w hw => hst w (List.mem_cons_of_mem _ (List.mem_cons_of_mem _ hw))) (zokM_S hM hx1) hh (by rw [← zcell_setS hq41 hq7 (by rw [hc]; exact f2) hv]; exact hP1) hS1)

theorem zo_putfieldZ {mi pc : Nat} {L st : List zV} {σ : zM} (hx : p.tables.exec = Jvm.exec) (hb : c.code = zb mi) (hml : c.maxLocals = zl mi) (hown : s.vm.findClass (zR (zown mi)) = some m.cls) (hts : ∀ w ∈ zGT, w.before args s = true) (hE : zEnv D dA ad s s.heap) {q a b n z sc : Nat} {x : Int} (h01 : x = 0 ∨ x = 1) (hd : decode (zb mi) pc = .ok (.putfield n, 3)) (hf : (zown mi, n, z, a, b) ∈ zfld) (hc : zcls q = a) (hv : zfv q b = .inl sc) (hty : zty a b = .boolean) (hfin : (zT a b).2.2.2 = false) (k : zWX p l e R s m args below meth c cells slots Q D dA ad (zl mi) (pc + 3, L, st, zsetS σ sc x)) : zWX p l e R s m args below meth c cells slots Q D dA ad (zl mi) (pc, L, .inl x :: .inr (.inr (.inl q)) :: st, σ) := by
  intro H locs ls hL hst hM hh hP hS
  have hq7 : zcls q < 7 := by rw [hc]; exact (zfok _ hf).1.1
  have hq41 : q < 41 := zcls_lt (by omega) (by omega)
  have he : (zwl dA ad σ)[q]? = some (ad q, .inr (zcls q, (List.range (zNf (zcls q))).map (zfw ad σ q))) := by
    rw [zwl_at hq41]; unfold zcell; rw [if_pos (by omega)]
  obtain ⟨⟨f1, f2, f3⟩, f4, f5⟩ := zfok _ hf
  have hcl : vwCl[zcls q]? = some (zR (zcls q), zT (zcls q), zNf (zcls q)) := by
    rw [hc]; exact zcl_at a f1
  have hx1 : zi32 x := hst (.inl x) List.mem_cons_self
  have hpar : parseFieldDescriptor (zT (zcls q) b).2.2.1 = some .boolean := by rw [hc, ← hty]; exact zty_ok a f1 b f2
  by_cases hz : z = 0
  · exact va_put (Ts := zGT) (C := zR (zcls q)) (T := zT (zcls q)) (N := zNf (zcls q)) (ref := zR (zcls q)) (v := .int (Int32.ofInt x)) (ty := .boolean) hx hb hts (by rw [hc]; exact zin_all a f1) (zty (zcls q)) (by rw [hc]; exact zty_ok a f1) (by rw [hc]; exact znm_ok a f1) hown hE.1 hP (zD hE) hS q he hcl b (by rw [hc]; exact f2) (by rw [hc]; exact hts _ (f4 hz)) (fun x h => by rw [hc] at h ⊢; rw [f3] at h; exact h) (by rw [hc]; exact hfin) hpar (by rcases h01 with rfl | rfl <;> rfl) (by rcases h01 with rfl | rfl <;> rfl) (by rw [List.length_map, List.length_range, hc]; exact f2) hd
      (fun H1 locs1 hP1 _ hS1 => k H1 locs1 ls hL (fun w hw => hst w (List.mem_cons_of_mem _ (List.mem_cons_of_mem _ hw))) (zokM_S hM hx1) hh (by rw [← zcell_setS hq41 hq7 (by rw [hc]; exact f2) hv]; exact hP1) hS1)
  · obtain ⟨g1, -⟩ := f5 hz
    have hl := hE.2.1.1 _ hf g1
    exact va_putN (Ts := zGT) (C := zR (zcls q)) (T := zT (zcls q)) (N := zNf (zcls q)) (ref := zR (zcls q)) (host := "PaleFence") (v := .int (Int32.ofInt x)) (ty := .boolean) hx hb hts (by rw [hc]; exact zin_all a f1) (zty (zcls q)) (by rw [hc]; exact zty_ok a f1) (by rw [hc]; exact znm_ok a f1) hown hE.1 hP (zD hE) hS q he hcl b (by rw [hc]; exact f2) (by rw [hc]; exact va_Nw.use rfl hl) (fun x h => by rw [hc] at h ⊢; rw [f3] at h; exact h) (by rw [hc]; exact hfin) hpar (by rcases h01 with rfl | rfl <;> rfl) (by rcases h01 with rfl | rfl <;> rfl) (by rw [List.length_map, List.length_range, hc]; exact f2) hd
      (fun H1 locs1 hP1 _ hS1 => k H1 locs1 ls hL (fun w hw => hst w (List.mem_cons_of_mem _ (List.mem_cons_of_mem _ hw))) (zokM_S hM hx1) hh (by rw [← zcell_setS hq41 hq7 (by rw [hc]; exact f2) hv]; exact hP1) hS1)

theorem zo_iaload {mi pc : Nat} {L st : List zV} {σ : zM} (hx : p.tables.exec = Jvm.exec) (hb : c.code = zb mi) (hml : c.maxLocals = zl mi) (hown : s.vm.findClass (zR (zown mi)) = some m.cls) (hts : ∀ w ∈ zGT, w.before args s = true) (hE : zEnv D dA ad s s.heap) {q : Nat} {i : Int} (hd : decode (zb mi) pc = .ok (.iaload, 1)) (hc : zcls q = 20) (hi : 0 ≤ i ∧ i < (zarr q).1) (k : zWX p l e R s m args below meth c cells slots Q D dA ad (zl mi) (pc + 1, L, vI (σ.2 (zarr q).2 i.toNat) :: st, σ)) : zWX p l e R s m args below meth c cells slots Q D dA ad (zl mi) (pc, L, .inl i :: .inr (.inr (.inl q)) :: st, σ) := by
  intro H locs ls hL hst hM hh hP hS
  have hq41 : q < 41 := zcls_lt (by omega) (by omega)
  have ha : (zwl dA ad σ)[q]? = some (ad q, .inl (dA 0, (zarr q).1, .inl (fun j => Int32.ofInt (σ.2 (zarr q).2 j)))) := by
    rw [zwl_at hq41]; unfold zcell; rw [hc]; rfl
  have hi1 : zi32 i := hst (.inl i) List.mem_cons_self
  have k2 := k H locs ls hL (zok_push (show zi32 _ from hM.2 _ _) (fun w hw => hst w (List.mem_cons_of_mem _ (List.mem_cons_of_mem _ hw)))) hM hh hP hS
  refine va_iald hx hb hE.1 hP q 0 ha rfl (zin32 hi1 hi) hd ?_
  rw [zcl32 hi1]
  exact k2

theorem zo_baload {mi pc : Nat} {L st : List zV} {σ : zM} (hx : p.tables.exec = Jvm.exec) (hb : c.code = zb mi) (hml : c.maxLocals = zl mi) (hown : s.vm.findClass (zR (zown mi)) = some m.cls) (hts : ∀ w ∈ zGT, w.before args s = true) (hE : zEnv D dA ad s s.heap) {q : Nat} {i : Int} (hd : decode (zb mi) pc = .ok (.baload, 1)) (hc : zcls q = 21) (hi : 0 ≤ i ∧ i < (zarr q).1) (k : zWX p l e R s m args below meth c cells slots Q D dA ad (zl mi) (pc + 1, L, vI (σ.2 (zarr q).2 i.toNat) :: st, σ)) : zWX p l e R s m args below meth c cells slots Q D dA ad (zl mi) (pc, L, .inl i :: .inr (.inr (.inl q)) :: st, σ) := by
  intro H locs ls hL hst hM hh hP hS
  have hq41 : q < 41 := zcls_lt (by omega) (by omega)
  have ha : (zwl dA ad σ)[q]? = some (ad q, .inl (dA 1, (zarr q).1, .inl (fun j => Int32.ofInt (σ.2 (zarr q).2 j)))) := by
    rw [zwl_at hq41]; unfold zcell; rw [hc]; rfl
  have hi1 : zi32 i := hst (.inl i) List.mem_cons_self
  have k2 := k H locs ls hL (zok_push (show zi32 _ from hM.2 _ _) (fun w hw => hst w (List.mem_cons_of_mem _ (List.mem_cons_of_mem _ hw)))) hM hh hP hS
  refine va_zald hx hb hE.1 hP q 1 ha rfl (zin32 hi1 hi) hd ?_
  rw [zcl32 hi1]
  exact k2

theorem zo_iastore {mi pc : Nat} {L st : List zV} {σ : zM} (hx : p.tables.exec = Jvm.exec) (hb : c.code = zb mi) (hml : c.maxLocals = zl mi) (hown : s.vm.findClass (zR (zown mi)) = some m.cls) (hts : ∀ w ∈ zGT, w.before args s = true) (hE : zEnv D dA ad s s.heap) {q : Nat} {i x : Int} (hd : decode (zb mi) pc = .ok (.iastore, 1)) (hc : zcls q = 20) (hi : 0 ≤ i ∧ i < (zarr q).1) (k : zWX p l e R s m args below meth c cells slots Q D dA ad (zl mi) (pc + 1, L, st, zsetA σ (zarr q).2 (zup (σ.2 (zarr q).2) i.toNat x))) : zWX p l e R s m args below meth c cells slots Q D dA ad (zl mi) (pc, L, .inl x :: .inl i :: .inr (.inr (.inl q)) :: st, σ) := by
  intro H locs ls hL hst hM hh hP hS
  have hq41 : q < 41 := zcls_lt (by omega) (by omega)
  have ha : (zwl dA ad σ)[q]? = some (ad q, .inl (dA 0, (zarr q).1, .inl (fun j => Int32.ofInt (σ.2 (zarr q).2 j)))) := by
    rw [zwl_at hq41]; unfold zcell; rw [hc]; rfl
  have hi1 : zi32 i := hst (.inl i) (List.mem_cons_of_mem _ List.mem_cons_self)
  have hx1 : zi32 x := hst (.inl x) List.mem_cons_self
  refine va_iast hx hb hE.1 hP (zD hE) hS q 0 ha rfl (zin32 hi1 hi) hd (fun H1 locs1 hP1 _ hS1 => ?_)
  refine k H1 locs1 ls hL (fun w hw => hst w (List.mem_cons_of_mem _ (List.mem_cons_of_mem _ (List.mem_cons_of_mem _ hw)))) (zokM_A hM (zok_up (hM.2 _) hx1)) hh ?_ hS1
  rw [← zcell_setA (t := 0) (g := upd (fun j => Int32.ofInt (σ.2 (zarr q).2 j)) i.toNat (Int32.ofInt x)) hq41 (by rw [hc]; simp) ?_]
  · rw [zcl32 hi1] at hP1; exact hP1
  · funext j
    unfold upd zup
    split
    · rfl
    · rfl

theorem zo_bastore {mi pc : Nat} {L st : List zV} {σ : zM} (hx : p.tables.exec = Jvm.exec) (hb : c.code = zb mi) (hml : c.maxLocals = zl mi) (hown : s.vm.findClass (zR (zown mi)) = some m.cls) (hts : ∀ w ∈ zGT, w.before args s = true) (hE : zEnv D dA ad s s.heap) {q : Nat} {i x : Int} (hd : decode (zb mi) pc = .ok (.bastore, 1)) (hc : zcls q = 21) (hi : 0 ≤ i ∧ i < (zarr q).1) (k : zWX p l e R s m args below meth c cells slots Q D dA ad (zl mi) (pc + 1, L, st, zsetA σ (zarr q).2 (zup (σ.2 (zarr q).2) i.toNat (zbin 3 x 1)))) : zWX p l e R s m args below meth c cells slots Q D dA ad (zl mi) (pc, L, .inl x :: .inl i :: .inr (.inr (.inl q)) :: st, σ) := by
  intro H locs ls hL hst hM hh hP hS
  have hq41 : q < 41 := zcls_lt (by omega) (by omega)
  have ha : (zwl dA ad σ)[q]? = some (ad q, .inl (dA 1, (zarr q).1, .inl (fun j => Int32.ofInt (σ.2 (zarr q).2 j)))) := by
    rw [zwl_at hq41]; unfold zcell; rw [hc]; rfl
  have hi1 : zi32 i := hst (.inl i) (List.mem_cons_of_mem _ List.mem_cons_self)
  have hx1 : zi32 x := hst (.inl x) List.mem_cons_self
  refine va_zast hx hb hE.1 hP (zD hE) hS q 1 ha rfl (zin32 hi1 hi) hd (fun H1 locs1 hP1 _ hS1 => ?_)
  refine k H1 locs1 ls hL (fun w hw => hst w (List.mem_cons_of_mem _ (List.mem_cons_of_mem _ (List.mem_cons_of_mem _ hw)))) (zokM_A hM (zok_up (hM.2 _) (zbin_ok 3 x 1))) hh ?_ hS1
  rw [← zcell_setA (t := 1) (g := upd (fun j => Int32.ofInt (σ.2 (zarr q).2 j)) i.toNat (vp_nar .boolean (Int32.ofInt x))) hq41 (by rw [hc]; simp) ?_]
  · rw [zcl32 hi1] at hP1; exact hP1
  · funext j
    unfold upd zup
    split
    · show Int32.ofInt x &&& 1 = Int32.ofInt (Int32.ofInt x &&& Int32.ofInt 1).toInt; rw [Int32.ofInt_toInt]; rfl
    · rfl

theorem zo_alen {mi pc : Nat} {L st : List zV} {σ : zM} (hx : p.tables.exec = Jvm.exec) (hb : c.code = zb mi) (hml : c.maxLocals = zl mi) (hown : s.vm.findClass (zR (zown mi)) = some m.cls) (hts : ∀ w ∈ zGT, w.before args s = true) (hE : zEnv D dA ad s s.heap) {q : Nat} {n : Nat} (hd : decode (zb mi) pc = .ok (.arraylength, 1)) (hc : zcls q = 20 ∧ n = (zarr q).1 ∨ zcls q = 22 ∧ n = 4) (hn : n < 1000) (k : zWX p l e R s m args below meth c cells slots Q D dA ad (zl mi) (pc + 1, L, vI n :: st, σ)) : zWX p l e R s m args below meth c cells slots Q D dA ad (zl mi) (pc, L, .inr (.inr (.inl q)) :: st, σ) := by
  intro H locs ls hL hst hM hh hP hS
  have hq41 : q < 41 := by rcases hc with h | h <;> exact zcls_lt (by omega) (by omega)
  have k2 := k H locs ls hL (zok_push (show zi32 n from ⟨by omega, by omega⟩) (fun w hw => hst w (List.mem_cons_of_mem _ hw))) hM hh hP hS
  rcases hc with ⟨hc, rfl⟩ | ⟨hc, rfl⟩
  · have ha : (zwl dA ad σ)[q]? = some (ad q, .inl (dA 0, (zarr q).1, .inl (fun j => Int32.ofInt (σ.2 (zarr q).2 j)))) := by
      rw [zwl_at hq41]; unfold zcell; rw [hc]; rfl
    exact va_alen hx hb hE.1 hP q 0 ha rfl rfl hd k2
  · have ha : (zwl dA ad σ)[q]? = some (ad q, .inl (dA 2, 4, .inr (.inr (.inr (.inr (fun j => some (ad (zshp j)))))))) := by
      rw [zwl_at hq41]; unfold zcell; rw [hc]; rfl
    exact va_alen hx hb hE.1 hP q 2 ha rfl rfl hd k2

theorem zo_alenS {mi pc : Nat} {L st : List zV} {σ : zM} (hx : p.tables.exec = Jvm.exec) (hb : c.code = zb mi) (hml : c.maxLocals = zl mi) (hown : s.vm.findClass (zR (zown mi)) = some m.cls) (hts : ∀ w ∈ zGT, w.before args s = true) (hE : zEnv D dA ad s s.heap) (hd : decode (zb mi) pc = .ok (.arraylength, 1)) (k : zWX p l e R s m args below meth c cells slots Q D dA ad (zl mi) (pc + 1, L, vI 4 :: st, σ)) : zWX p l e R s m args below meth c cells slots Q D dA ad (zl mi) (pc, L, .inr (.inr (.inl 42)) :: st, σ) := by
  intro H locs ls hL hst hM hh hP hS
  have hT := (hE.2.2.1.1 0 (by decide)).2.2.2
  exact va_tlen hx hb hT hS rfl hd (k H locs ls hL (zok_push (show zi32 4 from ⟨by decide, by decide⟩) (fun w hw => hst w (List.mem_cons_of_mem _ hw))) hM hh hP hS)

theorem zo_baloadS {mi pc : Nat} {L st : List zV} {σ : zM} (hx : p.tables.exec = Jvm.exec) (hb : c.code = zb mi) (hml : c.maxLocals = zl mi) (hown : s.vm.findClass (zR (zown mi)) = some m.cls) (hts : ∀ w ∈ zGT, w.before args s = true) (hE : zEnv D dA ad s s.heap) {i : Int} (hd : decode (zb mi) pc = .ok (.baload, 1)) (hi : 0 ≤ i ∧ i < 4) (k : zWX p l e R s m args below meth c cells slots Q D dA ad (zl mi) (pc + 1, L, vI (zbyt i.toNat) :: st, σ)) : zWX p l e R s m args below meth c cells slots Q D dA ad (zl mi) (pc, L, .inl i :: .inr (.inr (.inl 42)) :: st, σ) := by
  intro H locs ls hL hst hM hh hP hS
  have hT := (hE.2.2.1.1 0 (by decide)).2.2.2
  have hi1 : zi32 i := hst (.inl i) List.mem_cons_self
  have hv : ∀ n, n < 4 → (Value.int (((zstrB.getD 0 []).getD n 0)) = .int (Int32.ofInt (zbyt n)) ∧ zi32 (zbyt n)) := by unfold zi32; decide +kernel
  obtain ⟨hv1, hv2⟩ := hv i.toNat (by omega)
  have k2 := k H locs ls hL (zok_push (show zi32 _ from hv2) (fun w hw => hst w (List.mem_cons_of_mem _ (List.mem_cons_of_mem _ hw)))) hM hh hP hS
  refine va_tb (v := .int (Int32.ofInt (zbyt i.toNat))) hx hb hT hS (zin32 (n := 4) hi1 hi) ?_ hd k2
  rw [zcl32 hi1]
  exact hv1

theorem zo_aaload {mi pc : Nat} {L st : List zV} {σ : zM} (hx : p.tables.exec = Jvm.exec) (hb : c.code = zb mi) (hml : c.maxLocals = zl mi) (hown : s.vm.findClass (zR (zown mi)) = some m.cls) (hts : ∀ w ∈ zGT, w.before args s = true) (hE : zEnv D dA ad s s.heap) {q : Nat} {i : Int} (hd : decode (zb mi) pc = .ok (.aaload, 1)) (hc : zcls q = 22) (hi : 0 ≤ i ∧ i < 4) (k : zWX p l e R s m args below meth c cells slots Q D dA ad (zl mi) (pc + 1, L, vR (zshp i.toNat) :: st, σ)) : zWX p l e R s m args below meth c cells slots Q D dA ad (zl mi) (pc, L, .inl i :: .inr (.inr (.inl q)) :: st, σ) := by
  intro H locs ls hL hst hM hh hP hS
  have hq41 : q < 41 := zcls_lt (by omega) (by omega)
  have ha : (zwl dA ad σ)[q]? = some (ad q, .inl (dA 2, 4, .inr (.inr (.inr (.inr (fun j => some (ad (zshp j)))))))) := by
    rw [zwl_at hq41]; unfold zcell; rw [hc]; rfl
  have hi1 : zi32 i := hst (.inl i) List.mem_cons_self
  have k2 := k H locs ls hL (zok_push trivial (fun w hw => hst w (List.mem_cons_of_mem _ (List.mem_cons_of_mem _ hw)))) hM hh hP hS
  refine va_aldq hx hb hE.1 hP q 2 ha rfl (zin32 (n := 4) hi1 hi) hd ?_
  rw [zcl32 hi1]
  exact k2

theorem zo_acopy {mi pc : Nat} {L st : List zV} {σ : zM} (hx : p.tables.exec = Jvm.exec) (hb : c.code = zb mi) (hml : c.maxLocals = zl mi) (hown : s.vm.findClass (zR (zown mi)) = some m.cls) (hts : ∀ w ∈ zGT, w.before args s = true) (hE : zEnv D dA ad s s.heap) {q r n : Nat} {x dp sp : Int} (hRf : 1 ≤ R.frames ∧ 40 ≤ R.locals) (hd : decode (zb mi) pc = .ok (.invokestatic n, 3)) (hn : (zown mi, n) ∈ zacp) (hcq : zcls q = 20) (hcr : zcls r = 20) (h1 : 0 ≤ sp ∧ 0 ≤ dp ∧ 0 ≤ x) (h2 : sp + x ≤ (zarr r).1) (h3 : dp + x ≤ (zarr q).1) (k : zWX p l e R s m args below meth c cells slots Q D dA ad (zl mi) (pc + 3, L, [], zsetA σ (zarr q).2 (zcpy (σ.2 (zarr r).2) (σ.2 (zarr q).2) sp.toNat dp.toNat x.toNat))) : zWX p l e R s m args below meth c cells slots Q D dA ad (zl mi) (pc, L, [.inl x, .inl dp, .inr (.inr (.inl q)), .inl sp, .inr (.inr (.inl r))], σ) := by
  intro H locs ls hL hst hM hh hP hS
  have hq41 : q < 41 := zcls_lt (by omega) (by omega)
  have hr41 : r < 41 := zcls_lt (by omega) (by omega)
  have haq : (zwl dA ad σ)[q]? = some (ad q, .inl (dA 0, (zarr q).1, .inl (fun j => Int32.ofInt (σ.2 (zarr q).2 j)))) := by
    rw [zwl_at hq41]; unfold zcell; rw [hcq]; rfl
  have har : (zwl dA ad σ)[r]? = some (ad r, .inl (dA 0, (zarr r).1, .inl (fun j => Int32.ofInt (σ.2 (zarr r).2 j)))) := by
    rw [zwl_at hr41]; unfold zcell; rw [hcr]; rfl
  have i1 : zi32 x := hst (.inl x) (by simp)
  have i2 : zi32 dp := hst (.inl dp) (by simp)
  have i3 : zi32 sp := hst (.inl sp) (by simp)
  have nl : ∀ z : Int, zi32 z → 0 ≤ z → ¬ Int32.ofInt z < 0 := fun z hz h0 q => by have := (zlt32 hz zi320).mp q; omega
  refine va_copyi (ty := .int) hx hb (by rw [hml]; exact hh.1.symm) hown (hts _ (zaok _ hn)) (hts _ zac_nat) (hts _ zac_stat) (hts _ zac_ini) hE.1 hP (zD hE) hS r q 0 0 har haq rfl rfl rfl (nl _ i3 h1.1) (nl _ i2 h1.2.1) (nl _ i1 h1.2.2) ?_ ?_ (fun _ _ => rfl) hRf.1 ?_ hd (fun H1 locs1 hP1 _ hS1 => ?_)
  · rw [zcl32 i3, zcl32 i1]; omega
  · rw [zcl32 i2, zcl32 i1]; omega
  · show 0 + (nativeFrameWords "java/lang/System" "arraycopy" 5 + 11) ≤ R.locals
    have : nativeFrameWords "java/lang/System" "arraycopy" 5 = 7 := by decide +kernel
    omega
  · refine k H1 locs1 ls hL (fun w hw => by cases hw) (zokM_A hM (fun j => ?_)) hh ?_ hS1
    · unfold zcpy; split; exact hM.2 _ _; exact hM.2 _ _
    · rw [← zcell_setA (t := 0) (g := va_cpy (fun j => Int32.ofInt (σ.2 (zarr r).2 j)) (fun j => Int32.ofInt (σ.2 (zarr q).2 j)) sp.toNat dp.toNat x.toNat) hq41 (by rw [hcq]; simp) ?_]
      · rw [zcl32 i3, zcl32 i2, zcl32 i1] at hP1; exact hP1
      · funext j
        unfold va_cpy zcpy
        split <;> rfl

theorem zo_dup {mi pc : Nat} {L st : List zV} {σ : zM} (hx : p.tables.exec = Jvm.exec) (hb : c.code = zb mi) (hml : c.maxLocals = zl mi) (hown : s.vm.findClass (zR (zown mi)) = some m.cls) (hts : ∀ w ∈ zGT, w.before args s = true) (hE : zEnv D dA ad s s.heap) {q : Nat} (hd : decode (zb mi) pc = .ok (.dup, 1)) (k : zWX p l e R s m args below meth c cells slots Q D dA ad (zl mi) (pc + 1, L, .inr (.inr (.inl q)) :: .inr (.inr (.inl q)) :: st, σ)) : zWX p l e R s m args below meth c cells slots Q D dA ad (zl mi) (pc, L, .inr (.inr (.inl q)) :: st, σ) := by
  intro H locs ls hL hst hM hh hP hS
  exact lv_dup hx hb hd rfl (k H locs ls hL (zok_push trivial hst) hM hh hP hS)

theorem zo_dup2 {mi pc : Nat} {L st : List zV} {σ : zM} (hx : p.tables.exec = Jvm.exec) (hb : c.code = zb mi) (hml : c.maxLocals = zl mi) (hown : s.vm.findClass (zR (zown mi)) = some m.cls) (hts : ∀ w ∈ zGT, w.before args s = true) (hE : zEnv D dA ad s s.heap) {q : Nat} {i : Int} (hd : decode (zb mi) pc = .ok (.dup2, 1)) (k : zWX p l e R s m args below meth c cells slots Q D dA ad (zl mi) (pc + 1, L, .inl i :: .inr (.inr (.inl q)) :: .inl i :: .inr (.inr (.inl q)) :: st, σ)) : zWX p l e R s m args below meth c cells slots Q D dA ad (zl mi) (pc, L, .inl i :: .inr (.inr (.inl q)) :: st, σ) := by
  intro H locs ls hL hst hM hh hP hS
  exact lv_dup2_11 hx hb hd rfl rfl (k H locs ls hL (zok_push (hst _ List.mem_cons_self) (zok_push trivial hst)) hM hh hP hS)

theorem zo_pop {mi pc : Nat} {L st : List zV} {σ : zM} (hx : p.tables.exec = Jvm.exec) (hb : c.code = zb mi) (hml : c.maxLocals = zl mi) (hown : s.vm.findClass (zR (zown mi)) = some m.cls) (hts : ∀ w ∈ zGT, w.before args s = true) (hE : zEnv D dA ad s s.heap) {x : Int} (hd : decode (zb mi) pc = .ok (.pop, 1)) (k : zWX p l e R s m args below meth c cells slots Q D dA ad (zl mi) (pc + 1, L, st, σ)) : zWX p l e R s m args below meth c cells slots Q D dA ad (zl mi) (pc, L, .inl x :: st, σ) := by
  intro H locs ls hL hst hM hh hP hS
  exact lv_pop hx hb hd rfl (k H locs ls hL (fun w hw => hst w (List.mem_cons_of_mem _ hw)) hM hh hP hS)

theorem zo_null {mi pc : Nat} {L st : List zV} {σ : zM} (hx : p.tables.exec = Jvm.exec) (hb : c.code = zb mi) (hml : c.maxLocals = zl mi) (hown : s.vm.findClass (zR (zown mi)) = some m.cls) (hts : ∀ w ∈ zGT, w.before args s = true) (hE : zEnv D dA ad s s.heap) (hd : decode (zb mi) pc = .ok (.aconst_null, 1)) (k : zWX p l e R s m args below meth c cells slots Q D dA ad (zl mi) (pc + 1, L, vN :: st, σ)) : zWX p l e R s m args below meth c cells slots Q D dA ad (zl mi) (pc, L, st, σ) := by
  intro H locs ls hL hst hM hh hP hS
  exact lv_null hx hb hd (k H locs ls hL (zok_push trivial hst) hM hh hP hS)

theorem zo_ldcS {mi pc : Nat} {L st : List zV} {σ : zM} (hx : p.tables.exec = Jvm.exec) (hb : c.code = zb mi) (hml : c.maxLocals = zl mi) (hown : s.vm.findClass (zR (zown mi)) = some m.cls) (hts : ∀ w ∈ zGT, w.before args s = true) (hE : zEnv D dA ad s s.heap) (hd : decode (zb mi) pc = .ok (.ldc 112, 2)) (ho : zown mi = 5) (k : zWX p l e R s m args below meth c cells slots Q D dA ad (zl mi) (pc + 2, L, vR 41 :: st, σ)) : zWX p l e R s m args below meth c cells slots Q D dA ad (zl mi) (pc, L, st, σ) := by
  intro H locs ls hL hst hM hh hP hS
  exact va_ldcS hx hb (own := "PaleFence") (by rw [ho] at hown; exact hown) hE.2.2.2.2.1 hd (k H locs ls hL (zok_push trivial hst) hM hh hP hS)

theorem zo_getstatic {mi pc : Nat} {L st : List zV} {σ : zM} (hx : p.tables.exec = Jvm.exec) (hb : c.code = zb mi) (hml : c.maxLocals = zl mi) (hown : s.vm.findClass (zR (zown mi)) = some m.cls) (hts : ∀ w ∈ zGT, w.before args s = true) (hE : zEnv D dA ad s s.heap) (hd : decode (zb mi) pc = .ok (.getstatic 38, 3)) (ho : zown mi = 7) (k : zWX p l e R s m args below meth c cells slots Q D dA ad (zl mi) (pc + 3, L, vI 1 :: st, σ)) : zWX p l e R s m args below meth c cells slots Q D dA ad (zl mi) (pc, L, st, σ) := by
  intro H locs ls hL hst hM hh hP hS
  exact va_gets hx hb hE.2.2.2.1 hS (own := "java/lang/String") (by rw [ho] at hown; exact hown) (hts _ zlk_cs) (fun _ h => h) hd (k H locs ls hL (zok_push (show zi32 1 from ⟨by decide, by decide⟩) hst) hM hh hP hS)

theorem zo_strVal {mi pc : Nat} {L st : List zV} {σ : zM} (hx : p.tables.exec = Jvm.exec) (hb : c.code = zb mi) (hml : c.maxLocals = zl mi) (hown : s.vm.findClass (zR (zown mi)) = some m.cls) (hts : ∀ w ∈ zGT, w.before args s = true) (hE : zEnv D dA ad s s.heap) (hd : decode (zb mi) pc = .ok (.getfield 9, 3)) (ho : zown mi = 7) (k : zWX p l e R s m args below meth c cells slots Q D dA ad (zl mi) (pc + 3, L, vR 42 :: st, σ)) : zWX p l e R s m args below meth c cells slots Q D dA ad (zl mi) (pc, L, .inr (.inr (.inl 41)) :: st, σ) := by
  intro H locs ls hL hst hM hh hP hS
  exact vk_getf hx hb (hE.2.2.1.1 0 (by decide)).2.2.1 hS (own := "java/lang/String") (by rw [ho] at hown; exact hown) (hts _ zlk_val) (fun _ h => h) hd (k H locs ls hL (zok_push trivial (fun w hw => hst w (List.mem_cons_of_mem _ hw))) hM hh hP hS)

theorem zo_strCod {mi pc : Nat} {L st : List zV} {σ : zM} (hx : p.tables.exec = Jvm.exec) (hb : c.code = zb mi) (hml : c.maxLocals = zl mi) (hown : s.vm.findClass (zR (zown mi)) = some m.cls) (hts : ∀ w ∈ zGT, w.before args s = true) (hE : zEnv D dA ad s s.heap) (hd : decode (zb mi) pc = .ok (.getfield 15, 3)) (ho : zown mi = 7) (k : zWX p l e R s m args below meth c cells slots Q D dA ad (zl mi) (pc + 3, L, vI 0 :: st, σ)) : zWX p l e R s m args below meth c cells slots Q D dA ad (zl mi) (pc, L, .inr (.inr (.inl 41)) :: st, σ) := by
  intro H locs ls hL hst hM hh hP hS
  exact vk_getf hx hb (hE.2.2.1.1 0 (by decide)).2.1 hS (own := "java/lang/String") (by rw [ho] at hown; exact hown) (hts _ zlk_cod) (fun _ h => h) hd (k H locs ls hL (zok_push zi320 (fun w hw => hst w (List.mem_cons_of_mem _ hw))) hM hh hP hS)

theorem zo_slen {mi pc : Nat} {L st : List zV} {σ : zM} (hx : p.tables.exec = Jvm.exec) (hb : c.code = zb mi) (hml : c.maxLocals = zl mi) (hown : s.vm.findClass (zR (zown mi)) = some m.cls) (hts : ∀ w ∈ zGT, w.before args s = true) (hE : zEnv D dA ad s s.heap) {sL : Nat} {xs : Nat → Int32} (hX : va_X (ad 43) sL xs s s.heap ∧ ad 43 < s.heap.size ∧ ¬ zA ad (ad 43)) (hs : sL < 100000) (hd : decode (zb mi) pc = .ok (.arraylength, 1)) (k : zWX p l e R s m args below meth c cells slots Q D dA ad (zl mi) (pc + 1, L, vI sL :: st, σ)) : zWX p l e R s m args below meth c cells slots Q D dA ad (zl mi) (pc, L, .inr (.inr (.inl 43)) :: st, σ) := by
  intro H locs ls hL hst hM hh hP hS
  have k2 := k H locs ls hL (zok_push (show zi32 sL from ⟨by omega, by omega⟩) (fun w hw => hst w (List.mem_cons_of_mem _ hw))) hM hh hP hS
  exact va_slen hx hb hX.1 hX.2.1 hX.2.2 hS hd k2

theorem zo_sload {mi pc : Nat} {L st : List zV} {σ : zM} (hx : p.tables.exec = Jvm.exec) (hb : c.code = zb mi) (hml : c.maxLocals = zl mi) (hown : s.vm.findClass (zR (zown mi)) = some m.cls) (hts : ∀ w ∈ zGT, w.before args s = true) (hE : zEnv D dA ad s s.heap) {sL : Nat} {xs : Nat → Int32} {i : Int} (hX : va_X (ad 43) sL xs s s.heap ∧ ad 43 < s.heap.size ∧ ¬ zA ad (ad 43)) (hd : decode (zb mi) pc = .ok (.iaload, 1)) (hi : 0 ≤ i ∧ i < sL) (k : zWX p l e R s m args below meth c cells slots Q D dA ad (zl mi) (pc + 1, L, vI (xs i.toNat).toInt :: st, σ)) : zWX p l e R s m args below meth c cells slots Q D dA ad (zl mi) (pc, L, .inl i :: .inr (.inr (.inl 43)) :: st, σ) := by
  intro H locs ls hL hst hM hh hP hS
  have hi1 : zi32 i := hst (.inl i) List.mem_cons_self
  have k2 := k H locs ls hL (zok_push (show zi32 _ from zof32 _) (fun w hw => hst w (List.mem_cons_of_mem _ (List.mem_cons_of_mem _ hw)))) hM hh hP hS
  refine va_sld hx hb hX.1 hX.2.1 hX.2.2 hS (zin32 hi1 hi) hd ?_
  rw [zcl32 hi1]
  simp only [List.map_cons, zcv, Int32.ofInt_toInt] at k2
  exact k2

theorem zo_switch {mi pc : Nat} {L st : List zV} {σ : zM} (hx : p.tables.exec = Jvm.exec) (hb : c.code = zb mi) (hml : c.maxLocals = zl mi) (hown : s.vm.findClass (zR (zown mi)) = some m.cls) (hts : ∀ w ∈ zGT, w.before args s = true) (hE : zEnv D dA ad s s.heap) {x : Int} {d : Int} {offs : Array Int} {len : Nat} (hd : decode (zb mi) pc = .ok (.tableswitch d 0 33 offs, len)) (hdf : (pc : Int) + d = (zswd : Int)) (hsz : offs.size = 34) (ho : ∀ j, j < 34 → (pc : Int) + offs.getD j 0 = ((zswl.getD j 0 : Nat) : Int)) (k : zWX p l e R s m args below meth c cells slots Q D dA ad (zl mi) (zswt x, L, st, σ)) : zWX p l e R s m args below meth c cells slots Q D dA ad (zl mi) (pc, L, .inl x :: st, σ) := by
  intro H locs ls hL hst hM hh hP hS
  have hx1 : zi32 x := hst (.inl x) List.mem_cons_self
  have k2 := k H locs ls hL (fun w hw => hst w (List.mem_cons_of_mem _ hw)) hM hh hP hS
  by_cases hr : 0 ≤ x ∧ x ≤ 33
  · have e : zswt x = zswl.getD x.toNat 0 := if_pos hr
    have hj : x.toNat < 34 := by omega
    refine lv_tableIn (off := offs.getD x.toNat 0) (tgt := zswl.getD x.toNat 0) hx hb hd (by rw [zto32 hx1]; omega) (by rw [zto32 hx1]; omega) ?_ (ho _ hj) ?_
    · rw [zto32 hx1, Int.sub_zero, Array.getD_eq_getD_getElem?, Array.getElem?_eq_getElem (by omega)]; rfl
    · rw [← e]; exact k2
  · have e : zswt x = zswd := if_neg hr
    refine lv_tableOut (tgt := zswd) hx hb hd (by rw [zto32 hx1]; omega) hdf ?_
    rw [← e]; exact k2

theorem zo_call {mi pc : Nat} {L st : List zV} {σ : zM} (hx : p.tables.exec = Jvm.exec) (hb : c.code = zb mi) (hml : c.maxLocals = zl mi) (hown : s.vm.findClass (zR (zown mi)) = some m.cls) (hts : ∀ w ∈ zGT, w.before args s = true) (hE : zEnv D dA ad s s.heap) {a b n z : Nat} {as r : List zV} {rm : Room} {Call : Nat → List zV → zM → (zM → Option zV → Prop) → Prop} (hC : ∀ (mi : Nat) (as : List zV) (σ : zM) (K : zM → Option zV → Prop), mi < 138 → Call mi as σ K → zokM σ → (∀ v ∈ as, zokV v) → Met l (zy mi) (zws mi) rm (zPc D dA ad as σ) (zQc D dA ad K) 0 0 (zA ad)) (hrm : rm.cells = 0 ∧ rm.slots = 0 ∧ rm.frames + 1 ≤ R.frames ∧ 40 + rm.locals ≤ R.locals ∧ cells ≤ R.cells ∧ slots ≤ R.slots) (hi : (decode (zb mi) pc = .ok (.invokevirtual n, 3) ∧ zkd a = 0 ∧ b = zar a + 1) ∨ (decode (zb mi) pc = .ok (.invokestatic n, 3) ∧ zkd a = 1 ∧ b = zar a ∧ z = 0)) (hq : (zown mi, n, z, a) ∈ zcall) (hp : zpop b [] st = some (as, r)) (hv : zrcv a as = true) (hs : zcsum r ≤ 8) (k : Call a as σ (fun σ1 v => zWX p l e R s m args below meth c cells slots Q D dA ad (zl mi) (pc + 3, L, v.toList ++ r, σ1))) : zWX p l e R s m args below meth c cells slots Q D dA ad (zl mi) (pc, L, st, σ) := by
  intro H locs ls hL hst hM hh hP hS
  obtain ⟨ha, hm0, hm1⟩ := zcok _ hq
  obtain ⟨w1, w2, w3, w4, w5, w6, w7, w8⟩ := zmok_to_138 a ha
  obtain ⟨pre, hp1, hp2, hp3⟩ := zpop_spec b [] st as r hp
  rw [List.append_nil] at hp2
  have hpre : pre = as.reverse := by rw [hp2, List.reverse_reverse]
  subst hp1
  have hok1 : ∀ v ∈ as, zokV v := fun v h => hst v (List.mem_append_left _ (by rw [hpre]; exact List.mem_reverse.mpr h))
  have hok2 : ∀ v ∈ r, zokV v := fun v h => hst v (List.mem_append_right _ h)
  have hMet := hC a as σ _ ha k hM hok1
  have hR1 : rm.frames + 1 ≤ R.frames ∧ 8 + (zl a + 11) + rm.locals ≤ R.locals := ⟨hrm.2.2.1, by have := hrm.2.2.2.2.1; omega⟩
  have hroom : 2 * (F0 m pc ls (((pre ++ r)).map (zcv ad))).monitorRoom + ((r.map (zcv ad)).map fun v => v.category).sum ≤ 8 := by
    have := lv_room (m := m) (pc := pc) (ls := ls) (rest := ((pre ++ r)).map (zcv ad)) (st := r.map (zcv ad)) (by rw [zcsum_eq]; exact hs)
    exact this
  have hG := zgood_in a w1
  have hkk : ∀ (σ1 : zM) (v : Option zV) (H1 : Heap) (locs1 : List Loc), (fun (σ1 : zM) (v : Option zV) => zWX p l e R s m args below meth c cells slots Q D dA ad (zl mi) (pc + 3, L, v.toList ++ r, σ1)) σ1 v → zokM σ1 → (∀ w, v = some w → zokV w) → va_P D vwCl (zwl dA ad σ1) H1 → va_S (zA ad) s.heap H1 locs1 → W p l e R s m args below meth c H1 locs1 cells slots Q (F0 m (pc + 3) ls ((v.map (zcv ad)).toList ++ r.map (zcv ad))) := by
    intro σ1 v H1 locs1 kk hM1 hv1 hP1 hS1
    have k2 := kk H1 locs1 ls hL (fun w hw => by
      rcases List.mem_append.mp hw with h | h
      · exact hv1 w (by cases v with | none => cases h | some u => rw [show w = u from by simpa using h])
      · exact hok2 w h) hM1 hh hP1 hS1
    rw [List.map_append] at k2
    have e : v.toList.map (zcv ad) = (v.map (zcv ad)).toList := by cases v <;> rfl
    rw [e] at k2
    exact k2
  have hPre : ∀ U : State, U.heap = H → s.WarmedH U.vm → zPc D dA ad as σ (as.map (zcv ad)).toArray U := fun U hU hW => ⟨rfl, by rw [hU]; exact hP, by rw [hU]; exact zEnv_at hE hW (fun q h1 h2 => hS.2.1 q h1 h2)⟩
  have hcs : cells + 0 ≤ R.cells ∧ slots + 0 ≤ R.slots := ⟨hrm.2.2.2.2.1, hrm.2.2.2.2.2⟩
  rcases hi with ⟨hd, hkd, hbn⟩ | ⟨hd, hkd, hbn, hz⟩
  · obtain ⟨w9, w10⟩ := w7 hkd
    obtain ⟨q, as1, rfl, hcq⟩ : ∃ q as1, as = .inr (.inr (.inl q)) :: as1 ∧ zcls q = zown a := by
      unfold zrcv at hv
      rw [hkd] at hv
      split at hv
      · rename_i h; cases h
      · rename_i q t _; exact ⟨q, t, rfl, Nat.eq_of_beq_eq_true hv⟩
      · cases hv
    have hn : (as1.map (zcv ad)).length = zar a := by
      rw [List.length_map]
      have := congrArg List.length hpre
      simp at this
      omega
    have hstk : (F0 m pc ls ((pre ++ r).map (zcv ad))).stack = (as1.map (zcv ad)).reverse ++ .ref (ad q) :: r.map (zcv ad) := by
      show (pre ++ r).map (zcv ad) = _
      rw [hpre]
      simp [zcv]
    have hrecv : ∃ cellB : Cell, H[ad q]? = some cellB ∧ cellB.vm.isStatics = false ∧ s.vm.findClass (zy a).cls = some cellB.cls := by
      rw [w4]
      by_cases h7 : zcls q = 7
      · have hq41 : q = 41 := zcls_7 h7
        subst hq41
        obtain ⟨cell, g1, g2, g3, g4⟩ := (hE.2.2.1.1 0 (by decide)).1
        refine ⟨cell, ?_, g2, ?_⟩
        · rw [hS.2.1 _ (Array.getElem?_eq_some_iff.mp g1).1 g4]; exact g1
        · rw [← hcq, h7]; exact g3
      · have hlt : zcls q < 7 := by have := zown_obj a ha hkd; rw [← hcq] at this; omega
        have hq41 : q < 41 := zcls_lt (by omega) h7
        have he : (zwl dA ad σ)[q]? = some (ad q, .inr (zcls q, (List.range (zNf (zcls q))).map (zfw ad σ q))) := by
          rw [zwl_at hq41]; unfold zcell; rw [if_pos hlt]
        have hr := va_recv hE.1 hP (zcl_at (zcls q) hlt) he
        rw [hcq] at hr
        exact hr
    by_cases hz : z = 0
    · have cw := cwV (own := zR (zown mi)) (index := n) (C := (zy a).cls) (y := zy a) (bytes := zb a) (maxL := zl a) (ret := zret a) (ws := zws a) (ws' := zGT) (rm := rm) (R := R) (mc := 0) (ms := 0) (zar a) hts (by
        intro w hw
        have hw2 : w ∈ ([.methodLink (zR (zown mi)) n (zy a), .instanceMethod (zy a), .selects (zy a).cls (zy a) (zy a), .initialized (zy a).cls] : List Cond) ++ zws a := hw
        rcases List.mem_append.mp hw2 with h | h
        · have : w ∈ zGT := by
            simp only [List.mem_cons, List.not_mem_nil, or_false] at h
            rcases h with rfl | rfl | rfl | rfl
            · exact hm0 hz
            · exact w9
            · exact w10
            · exact w2
          exact ⟨this, good_of_word (zGT_good w this)⟩
        · exact hG w h) rfl hrm.1 hrm.2.1 ⟨rfl, w5.1, w5.2.1, w5.2.2⟩ hR1
      exact z_call (va_runV (As := as1.map (zcv ad)) ⟨hx, hb, hml, hown, hts⟩ hMet cw ⟨zPc_blind, hrecv, hPre⟩ rfl hn (by show ls.size = zl mi; exact hh.1) hstk hroom hd hcs) hS hkk
    · obtain ⟨g1, -⟩ := hm1 hz
      have hl := hE.2.1.2 _ hq g1
      have cw := va_cnB (own := zR (zown mi)) (index := n) (host := "PaleFence") (y := zy a) (bytes := zb a) (maxL := zl a) (ret := zret a) (ws := zws a) (ws' := zGT) (rm := rm) (R := R) (mc := 0) (ms := 0) (zar a) hts hG rfl hrm.1 hrm.2.1 hl (hts _ w2) ⟨w5.1, w5.2.1, w5.2.2⟩ hR1
      exact z_call (va_runVN (As := as1.map (zcv ad)) (C := (zy a).cls) ⟨hx, hb, hml, hown, hts⟩ hMet ⟨cw, hts _ w9, hts _ w10⟩ ⟨zPc_blind, hrecv, hPre⟩ rfl hn (by show ls.size = zl mi; exact hh.1) hstk hroom hd hcs) hS hkk
  · have w9 := w8 hkd
    have hn : (as.map (zcv ad)).length = zar a := by
      rw [List.length_map]
      have := congrArg List.length hpre
      simp at this
      omega
    have hstk : (F0 m pc ls ((pre ++ r).map (zcv ad))).stack = (as.map (zcv ad)).reverse ++ r.map (zcv ad) := by
      show (pre ++ r).map (zcv ad) = _
      rw [hpre]
      simp
    have cw := va_cwS (own := zR (zown mi)) (index := n) (y := zy a) (bytes := zb a) (maxL := zl a) (ret := zret a) (ws := zws a) (ws' := zGT) (rm := rm) (R := R) (mc := 0) (ms := 0) (zar a) hts (by
        intro w hw
        have hw2 : w ∈ ([.methodLink (zR (zown mi)) n (zy a), .static (zy a), .initialized (zy a).cls] : List Cond) ++ zws a := hw
        rcases List.mem_append.mp hw2 with h | h
        · have : w ∈ zGT := by
            simp only [List.mem_cons, List.not_mem_nil, or_false] at h
            rcases h with rfl | rfl | rfl
            · exact hm0 hz
            · exact w9
            · exact w2
          exact ⟨this, good_of_word (zGT_good w this)⟩
        · exact hG w h) rfl hrm.1 hrm.2.1 ⟨w5.1, w5.2.1, w5.2.2⟩ hR1
    exact z_call (va_runS (As := as.map (zcv ad)) ⟨hx, hb, hml, hown, hts⟩ hMet cw ⟨zPc_blind, hPre⟩ rfl hn (by show ls.size = zl mi; exact hh.1) hstk hroom hd hcs) hS hkk

theorem zo_mmax {mi pc : Nat} {L st : List zV} {σ : zM} (hx : p.tables.exec = Jvm.exec) (hb : c.code = zb mi) (hml : c.maxLocals = zl mi) (hown : s.vm.findClass (zR (zown mi)) = some m.cls) (hts : ∀ w ∈ zGT, w.before args s = true) (hE : zEnv D dA ad s s.heap) {x y : Int} {n : Nat} (hRf : 1 ≤ R.frames ∧ 40 ≤ R.locals ∧ cells ≤ R.cells ∧ slots ≤ R.slots) (hd : decode (zb mi) pc = .ok (.invokestatic n, 3)) (hn : (zown mi, n) ∈ zmxl) (hs : zcsum st ≤ 20) (k : zWX p l e R s m args below meth c cells slots Q D dA ad (zl mi) (pc + 3, L, vI (if x < y then y else x) :: st, σ)) : zWX p l e R s m args below meth c cells slots Q D dA ad (zl mi) (pc, L, .inl y :: .inl x :: st, σ) := by
  intro H locs ls hL hst hM hh hP hS
  have hy1 : zi32 y := hst (.inl y) List.mem_cons_self
  have hx1 : zi32 x := hst (.inl x) (List.mem_cons_of_mem _ List.mem_cons_self)
  have k2 := k H locs ls hL (zok_push (show zi32 (if x < y then y else x) from by split; first | exact hx1 | exact hy1; first | exact hx1 | exact hy1) (fun w hw => hst w (List.mem_cons_of_mem _ (List.mem_cons_of_mem _ hw)))) hM hh hP hS
  refine va_mmax hx hb (by rw [hml]; exact hh.1.symm) hown (hts _ (zxok _ hn)) (hts _ zmx_stat) (hts _ zm_ini) (hts _ zmx_code) hRf.1 (by rw [zcsum_eq]; omega) hRf.2.2.1 hRf.2.2.2 hd ?_
  have e : (if Int32.ofInt x < Int32.ofInt y then Int32.ofInt y else Int32.ofInt x) = Int32.ofInt (if x < y then y else x) := by
    by_cases h : x < y
    · rw [if_pos h, if_pos ((zlt32 hx1 hy1).mpr h)]
    · rw [if_neg h, if_neg (fun q => h ((zlt32 hx1 hy1).mp q))]
  rw [e]
  exact k2

theorem zo_mmin {mi pc : Nat} {L st : List zV} {σ : zM} (hx : p.tables.exec = Jvm.exec) (hb : c.code = zb mi) (hml : c.maxLocals = zl mi) (hown : s.vm.findClass (zR (zown mi)) = some m.cls) (hts : ∀ w ∈ zGT, w.before args s = true) (hE : zEnv D dA ad s s.heap) {x y : Int} {n : Nat} (hRf : 1 ≤ R.frames ∧ 40 ≤ R.locals ∧ cells ≤ R.cells ∧ slots ≤ R.slots) (hd : decode (zb mi) pc = .ok (.invokestatic n, 3)) (hn : (zown mi, n) ∈ zmnl) (hs : zcsum st ≤ 20) (k : zWX p l e R s m args below meth c cells slots Q D dA ad (zl mi) (pc + 3, L, vI (if y < x then y else x) :: st, σ)) : zWX p l e R s m args below meth c cells slots Q D dA ad (zl mi) (pc, L, .inl y :: .inl x :: st, σ) := by
  intro H locs ls hL hst hM hh hP hS
  have hy1 : zi32 y := hst (.inl y) List.mem_cons_self
  have hx1 : zi32 x := hst (.inl x) (List.mem_cons_of_mem _ List.mem_cons_self)
  have k2 := k H locs ls hL (zok_push (show zi32 (if y < x then y else x) from by split; first | exact hx1 | exact hy1; first | exact hx1 | exact hy1) (fun w hw => hst w (List.mem_cons_of_mem _ (List.mem_cons_of_mem _ hw)))) hM hh hP hS
  refine va_mmin hx hb (by rw [hml]; exact hh.1.symm) hown (hts _ (ziok _ hn)) (hts _ zmn_stat) (hts _ zm_ini) (hts _ zmn_code) hRf.1 (by rw [zcsum_eq]; omega) hRf.2.2.1 hRf.2.2.2 hd ?_
  have e : (if Int32.ofInt y < Int32.ofInt x then Int32.ofInt y else Int32.ofInt x) = Int32.ofInt (if y < x then y else x) := by
    by_cases h : y < x
    · rw [if_pos h, if_pos ((zlt32 hy1 hx1).mpr h)]
    · rw [if_neg h, if_neg (fun q => h ((zlt32 hy1 hx1).mp q))]
  rw [e]
  exact k2

end ZSTEP
end
section
/-! the small machine is the machine: any step, any call -/
theorem zcnv_0 {v w : zV} (h : zcnv 0 v = some w) : ∃ x, v = .inl x ∧ w = vL x := by
  rcases v with x | x | x | x
  · exact ⟨x, rfl, (Option.some.inj h).symm⟩
  all_goals cases h
theorem zcnv_1 {v w : zV} (h : zcnv 1 v = some w) : ∃ x, v = .inr (.inl x) ∧ w = vI (Int64.ofInt x).toInt32.toInt := by
  rcases v with x | x | x | x
  · cases h
  · exact ⟨x, rfl, (Option.some.inj h).symm⟩
  all_goals cases h
theorem zcnv_2 {v w : zV} (h : zcnv 2 v = some w) : ∃ x, v = .inl x ∧ w = vI (Int32.ofInt x).toInt8.toInt32.toInt := by
  rcases v with x | x | x | x
  · exact ⟨x, rfl, (Option.some.inj h).symm⟩
  all_goals cases h
theorem zcnv_3 {v w : zV} (h : zcnv 3 v = some w) : ∃ x, v = .inl x ∧ w = vI (Int32.ofInt x).toInt16.toInt32.toInt := by
  rcases v with x | x | x | x
  · exact ⟨x, rfl, (Option.some.inj h).symm⟩
  all_goals cases h
theorem zcnv_4 {v w : zV} (h : zcnv 4 v = some w) : ∃ x, v = .inl x ∧ w = vI ((Int32.ofInt x).toUInt32 % 65536).toInt32.toInt := by
  rcases v with x | x | x | x
  · exact ⟨x, rfl, (Option.some.inj h).symm⟩
  all_goals cases h
theorem zcls_23 {q : Nat} (h : zcls q = 23) : q = 42 := by
  by_cases hp : q < 44
  · have : ∀ q, q < 44 → zcls q = 23 → q = 42 := by decide +kernel
    exact this q hp h
  · exfalso
    obtain ⟨r, rfl⟩ : ∃ r, q = r + 44 := ⟨q - 44, by omega⟩
    have e : zcls (r + 44) = 99 := rfl
    omega
theorem zcls_24 {q : Nat} (h : zcls q = 24) : q = 43 := by
  by_cases hp : q < 44
  · have : ∀ q, q < 44 → zcls q = 24 → q = 43 := by decide +kernel
    exact this q hp h
  · exfalso
    obtain ⟨r, rfl⟩ : ∃ r, q = r + 44 := ⟨q - 44, by omega⟩
    have e : zcls (r + 44) = 99 := rfl
    omega
theorem zarr_lt (q : Nat) : (zarr q).1 < 1000 := by
  by_cases hp : q < 44
  · have : ∀ q, q < 44 → (zarr q).1 < 1000 := by decide +kernel
    exact this q hp
  · obtain ⟨r, rfl⟩ : ∃ r, q = r + 44 := ⟨q - 44, by omega⟩
    have e : zarr (r + 44) = (0, 99) := rfl
    rw [e]; decide
theorem zkc {mi a c : Nat} (h : (List.range c).all (fun j => zchk mi (a + j)) = true) : ∀ pc, a ≤ pc → pc < a + c → zchk mi pc = true := by
  intro pc h1 h2
  have := List.all_eq_true.mp h (pc - a) (List.mem_range.mpr (by omega))
  rwa [show a + (pc - a) = pc by omega] at this
theorem zkm_0 : ∀ pc, pc < zN 0 → zchk 0 pc = true := fun pc h0 => have h : pc < 18 := h0; zkc zk_0_0 pc (by omega) (by omega)
theorem zkm_1 : ∀ pc, pc < zN 1 → zchk 1 pc = true := fun pc h0 => have h : pc < 24 := h0; zkc zk_1_0 pc (by omega) (by omega)
theorem zkm_2 : ∀ pc, pc < zN 2 → zchk 2 pc = true := fun pc h0 => have h : pc < 21 := h0; zkc zk_2_0 pc (by omega) (by omega)
theorem zkm_3 : ∀ pc, pc < zN 3 → zchk 3 pc = true := fun pc h0 => have h : pc < 40 := h0; zkc zk_3_0 pc (by omega) (by omega)
theorem zkm_4 : ∀ pc, pc < zN 4 → zchk 4 pc = true := fun pc h0 => have h : pc < 15 := h0; zkc zk_4_0 pc (by omega) (by omega)
theorem zkm_5 : ∀ pc, pc < zN 5 → zchk 5 pc = true := fun pc h0 => have h : pc < 50 := h0; zkc zk_5_0 pc (by omega) (by omega)
theorem zkm_6 : ∀ pc, pc < zN 6 → zchk 6 pc = true := fun pc h0 => have h : pc < 34 := h0; zkc zk_6_0 pc (by omega) (by omega)
theorem zkm_7 : ∀ pc, pc < zN 7 → zchk 7 pc = true := fun pc h0 => have h : pc < 48 := h0; zkc zk_7_0 pc (by omega) (by omega)
theorem zkm_8 : ∀ pc, pc < zN 8 → zchk 8 pc = true := fun pc h0 => have h : pc < 18 := h0; zkc zk_8_0 pc (by omega) (by omega)
theorem zkm_9 : ∀ pc, pc < zN 9 → zchk 9 pc = true := fun pc h0 => have h : pc < 24 := h0; zkc zk_9_0 pc (by omega) (by omega)
theorem zkm_10 : ∀ pc, pc < zN 10 → zchk 10 pc = true := fun pc h0 => have h : pc < 21 := h0; zkc zk_10_0 pc (by omega) (by omega)
theorem zkm_11 : ∀ pc, pc < zN 11 → zchk 11 pc = true := fun pc h0 => have h : pc < 31 := h0; zkc zk_11_0 pc (by omega) (by omega)
theorem zkm_12 : ∀ pc, pc < zN 12 → zchk 12 pc = true := fun pc h0 => have h : pc < 39 := h0; zkc zk_12_0 pc (by omega) (by omega)
theorem zkm_13 : ∀ pc, pc < zN 13 → zchk 13 pc = true := fun pc h0 => have h : pc < 30 := h0; zkc zk_13_0 pc (by omega) (by omega)
theorem zkm_14 : ∀ pc, pc < zN 14 → zchk 14 pc = true := fun pc h0 => have h : pc < 32 := h0; zkc zk_14_0 pc (by omega) (by omega)
theorem zkm_15 : ∀ pc, pc < zN 15 → zchk 15 pc = true := fun pc h0 => have h : pc < 24 := h0; zkc zk_15_0 pc (by omega) (by omega)
theorem zkm_16 : ∀ pc, pc < zN 16 → zchk 16 pc = true := fun pc h0 => have h : pc < 77 := h0; if h0 : pc < 60 then zkc zk_16_0 pc (by omega) (by omega) else zkc zk_16_60 pc (by omega) (by omega)
theorem zkm_17 : ∀ pc, pc < zN 17 → zchk 17 pc = true := fun pc h0 => have h : pc < 86 := h0; if h0 : pc < 60 then zkc zk_17_0 pc (by omega) (by omega) else zkc zk_17_60 pc (by omega) (by omega)
theorem zkm_18 : ∀ pc, pc < zN 18 → zchk 18 pc = true := fun pc h0 => have h : pc < 88 := h0; if h0 : pc < 60 then zkc zk_18_0 pc (by omega) (by omega) else zkc zk_18_60 pc (by omega) (by omega)
theorem zkm_19 : ∀ pc, pc < zN 19 → zchk 19 pc = true := fun pc h0 => have h : pc < 7 := h0; zkc zk_19_0 pc (by omega) (by omega)
theorem zkm_20 : ∀ pc, pc < zN 20 → zchk 20 pc = true := fun pc h0 => have h : pc < 32 := h0; zkc zk_20_0 pc (by omega) (by omega)
theorem zkm_21 : ∀ pc, pc < zN 21 → zchk 21 pc = true := fun pc h0 => have h : pc < 24 := h0; zkc zk_21_0 pc (by omega) (by omega)
theorem zkm_22 : ∀ pc, pc < zN 22 → zchk 22 pc = true := fun pc h0 => have h : pc < 59 := h0; zkc zk_22_0 pc (by omega) (by omega)
theorem zkm_23 : ∀ pc, pc < zN 23 → zchk 23 pc = true := fun pc h0 => have h : pc < 35 := h0; zkc zk_23_0 pc (by omega) (by omega)
theorem zkm_24 : ∀ pc, pc < zN 24 → zchk 24 pc = true := fun pc h0 => have h : pc < 38 := h0; zkc zk_24_0 pc (by omega) (by omega)
theorem zkm_25 : ∀ pc, pc < zN 25 → zchk 25 pc = true := fun pc h0 => have h : pc < 25 := h0; zkc zk_25_0 pc (by omega) (by omega)
theorem zkm_26 : ∀ pc, pc < zN 26 → zchk 26 pc = true := fun pc h0 => have h : pc < 40 := h0; zkc zk_26_0 pc (by omega) (by omega)
theorem zkm_27 : ∀ pc, pc < zN 27 → zchk 27 pc = true := fun pc h0 => have h : pc < 76 := h0; if h0 : pc < 60 then zkc zk_27_0 pc (by omega) (by omega) else zkc zk_27_60 pc (by omega) (by omega)
theorem zkm_28 : ∀ pc, pc < zN 28 → zchk 28 pc = true := fun pc h0 => have h : pc < 47 := h0; zkc zk_28_0 pc (by omega) (by omega)
theorem zkm_29 : ∀ pc, pc < zN 29 → zchk 29 pc = true := fun pc h0 => have h : pc < 79 := h0; if h0 : pc < 60 then zkc zk_29_0 pc (by omega) (by omega) else zkc zk_29_60 pc (by omega) (by omega)
theorem zkm_30 : ∀ pc, pc < zN 30 → zchk 30 pc = true := fun pc h0 => have h : pc < 80 := h0; if h0 : pc < 60 then zkc zk_30_0 pc (by omega) (by omega) else zkc zk_30_60 pc (by omega) (by omega)
theorem zkm_31 : ∀ pc, pc < zN 31 → zchk 31 pc = true := fun pc h0 => have h : pc < 52 := h0; zkc zk_31_0 pc (by omega) (by omega)
theorem zkm_32 : ∀ pc, pc < zN 32 → zchk 32 pc = true := fun pc h0 => have h : pc < 30 := h0; zkc zk_32_0 pc (by omega) (by omega)
theorem zkm_33 : ∀ pc, pc < zN 33 → zchk 33 pc = true := fun pc h0 => have h : pc < 106 := h0; if h0 : pc < 60 then zkc zk_33_0 pc (by omega) (by omega) else zkc zk_33_60 pc (by omega) (by omega)
theorem zkm_34 : ∀ pc, pc < zN 34 → zchk 34 pc = true := fun pc h0 => have h : pc < 12 := h0; zkc zk_34_0 pc (by omega) (by omega)
theorem zkm_35 : ∀ pc, pc < zN 35 → zchk 35 pc = true := fun pc h0 => have h : pc < 40 := h0; zkc zk_35_0 pc (by omega) (by omega)
theorem zkm_36 : ∀ pc, pc < zN 36 → zchk 36 pc = true := fun pc h0 => have h : pc < 97 := h0; if h0 : pc < 60 then zkc zk_36_0 pc (by omega) (by omega) else zkc zk_36_60 pc (by omega) (by omega)
theorem zkm_37 : ∀ pc, pc < zN 37 → zchk 37 pc = true := fun pc h0 => have h : pc < 100 := h0; if h0 : pc < 60 then zkc zk_37_0 pc (by omega) (by omega) else zkc zk_37_60 pc (by omega) (by omega)
theorem zkm_38 : ∀ pc, pc < zN 38 → zchk 38 pc = true := fun pc h0 => have h : pc < 64 := h0; if h0 : pc < 60 then zkc zk_38_0 pc (by omega) (by omega) else zkc zk_38_60 pc (by omega) (by omega)
theorem zkm_39 : ∀ pc, pc < zN 39 → zchk 39 pc = true := fun pc h0 => have h : pc < 15 := h0; zkc zk_39_0 pc (by omega) (by omega)
theorem zkm_40 : ∀ pc, pc < zN 40 → zchk 40 pc = true := fun pc h0 => have h : pc < 92 := h0; if h0 : pc < 60 then zkc zk_40_0 pc (by omega) (by omega) else zkc zk_40_60 pc (by omega) (by omega)
theorem zkm_41 : ∀ pc, pc < zN 41 → zchk 41 pc = true := fun pc h0 => have h : pc < 77 := h0; if h0 : pc < 60 then zkc zk_41_0 pc (by omega) (by omega) else zkc zk_41_60 pc (by omega) (by omega)
theorem zkm_42 : ∀ pc, pc < zN 42 → zchk 42 pc = true := fun pc h0 => have h : pc < 30 := h0; zkc zk_42_0 pc (by omega) (by omega)
theorem zkm_43 : ∀ pc, pc < zN 43 → zchk 43 pc = true := fun pc h0 => have h : pc < 61 := h0; if h0 : pc < 60 then zkc zk_43_0 pc (by omega) (by omega) else zkc zk_43_60 pc (by omega) (by omega)
theorem zkm_44 : ∀ pc, pc < zN 44 → zchk 44 pc = true := fun pc h0 => have h : pc < 77 := h0; if h0 : pc < 60 then zkc zk_44_0 pc (by omega) (by omega) else zkc zk_44_60 pc (by omega) (by omega)
theorem zkm_45 : ∀ pc, pc < zN 45 → zchk 45 pc = true := fun pc h0 => have h : pc < 89 := h0; if h0 : pc < 60 then zkc zk_45_0 pc (by omega) (by omega) else zkc zk_45_60 pc (by omega) (by omega)
theorem zkm_46 : ∀ pc, pc < zN 46 → zchk 46 pc = true := fun pc h0 => have h : pc < 72 := h0; if h0 : pc < 60 then zkc zk_46_0 pc (by omega) (by omega) else zkc zk_46_60 pc (by omega) (by omega)
theorem zkm_47 : ∀ pc, pc < zN 47 → zchk 47 pc = true := fun pc h0 => have h : pc < 38 := h0; zkc zk_47_0 pc (by omega) (by omega)
theorem zkm_48 : ∀ pc, pc < zN 48 → zchk 48 pc = true := fun pc h0 => have h : pc < 39 := h0; zkc zk_48_0 pc (by omega) (by omega)
theorem zkm_49 : ∀ pc, pc < zN 49 → zchk 49 pc = true := fun pc h0 => have h : pc < 116 := h0; if h0 : pc < 60 then zkc zk_49_0 pc (by omega) (by omega) else zkc zk_49_60 pc (by omega) (by omega)
theorem zkm_50 : ∀ pc, pc < zN 50 → zchk 50 pc = true := fun pc h0 => have h : pc < 75 := h0; if h0 : pc < 60 then zkc zk_50_0 pc (by omega) (by omega) else zkc zk_50_60 pc (by omega) (by omega)
theorem zkm_51 : ∀ pc, pc < zN 51 → zchk 51 pc = true := fun pc h0 => have h : pc < 102 := h0; if h0 : pc < 60 then zkc zk_51_0 pc (by omega) (by omega) else zkc zk_51_60 pc (by omega) (by omega)
theorem zkm_52 : ∀ pc, pc < zN 52 → zchk 52 pc = true := fun pc h0 => have h : pc < 96 := h0; if h0 : pc < 60 then zkc zk_52_0 pc (by omega) (by omega) else zkc zk_52_60 pc (by omega) (by omega)
theorem zkm_53 : ∀ pc, pc < zN 53 → zchk 53 pc = true := fun pc h0 => have h : pc < 94 := h0; if h0 : pc < 60 then zkc zk_53_0 pc (by omega) (by omega) else zkc zk_53_60 pc (by omega) (by omega)
theorem zkm_54 : ∀ pc, pc < zN 54 → zchk 54 pc = true := fun pc h0 => have h : pc < 103 := h0; if h0 : pc < 60 then zkc zk_54_0 pc (by omega) (by omega) else zkc zk_54_60 pc (by omega) (by omega)
theorem zkm_55 : ∀ pc, pc < zN 55 → zchk 55 pc = true := fun pc h0 => have h : pc < 64 := h0; if h0 : pc < 60 then zkc zk_55_0 pc (by omega) (by omega) else zkc zk_55_60 pc (by omega) (by omega)
theorem zkm_56 : ∀ pc, pc < zN 56 → zchk 56 pc = true := fun pc h0 => have h : pc < 64 := h0; if h0 : pc < 60 then zkc zk_56_0 pc (by omega) (by omega) else zkc zk_56_60 pc (by omega) (by omega)
theorem zkm_57 : ∀ pc, pc < zN 57 → zchk 57 pc = true := fun pc h0 => have h : pc < 53 := h0; zkc zk_57_0 pc (by omega) (by omega)
theorem zkm_58 : ∀ pc, pc < zN 58 → zchk 58 pc = true := fun pc h0 => have h : pc < 98 := h0; if h0 : pc < 60 then zkc zk_58_0 pc (by omega) (by omega) else zkc zk_58_60 pc (by omega) (by omega)
theorem zkm_59 : ∀ pc, pc < zN 59 → zchk 59 pc = true := fun pc h0 => have h : pc < 56 := h0; zkc zk_59_0 pc (by omega) (by omega)
theorem zkm_60 : ∀ pc, pc < zN 60 → zchk 60 pc = true := fun pc h0 => have h : pc < 130 := h0; if h0 : pc < 60 then zkc zk_60_0 pc (by omega) (by omega) else if h60 : pc < 120 then zkc zk_60_60 pc (by omega) (by omega) else zkc zk_60_120 pc (by omega) (by omega)
theorem zkm_61 : ∀ pc, pc < zN 61 → zchk 61 pc = true := fun pc h0 => have h : pc < 53 := h0; zkc zk_61_0 pc (by omega) (by omega)
theorem zkm_62 : ∀ pc, pc < zN 62 → zchk 62 pc = true := fun pc h0 => have h : pc < 24 := h0; zkc zk_62_0 pc (by omega) (by omega)
theorem zkm_63 : ∀ pc, pc < zN 63 → zchk 63 pc = true := fun pc h0 => have h : pc < 18 := h0; zkc zk_63_0 pc (by omega) (by omega)
theorem zkm_64 : ∀ pc, pc < zN 64 → zchk 64 pc = true := fun pc h0 => have h : pc < 23 := h0; zkc zk_64_0 pc (by omega) (by omega)
theorem zkm_65 : ∀ pc, pc < zN 65 → zchk 65 pc = true := fun pc h0 => have h : pc < 193 := h0; if h0 : pc < 60 then zkc zk_65_0 pc (by omega) (by omega) else if h60 : pc < 120 then zkc zk_65_60 pc (by omega) (by omega) else if h120 : pc < 180 then zkc zk_65_120 pc (by omega) (by omega) else zkc zk_65_180 pc (by omega) (by omega)
theorem zkm_66 : ∀ pc, pc < zN 66 → zchk 66 pc = true := fun pc h0 => have h : pc < 77 := h0; if h0 : pc < 60 then zkc zk_66_0 pc (by omega) (by omega) else zkc zk_66_60 pc (by omega) (by omega)
theorem zkm_67 : ∀ pc, pc < zN 67 → zchk 67 pc = true := fun pc h0 => have h : pc < 131 := h0; if h0 : pc < 60 then zkc zk_67_0 pc (by omega) (by omega) else if h60 : pc < 120 then zkc zk_67_60 pc (by omega) (by omega) else zkc zk_67_120 pc (by omega) (by omega)
theorem zkm_68 : ∀ pc, pc < zN 68 → zchk 68 pc = true := fun pc h0 => have h : pc < 126 := h0; if h0 : pc < 60 then zkc zk_68_0 pc (by omega) (by omega) else if h60 : pc < 120 then zkc zk_68_60 pc (by omega) (by omega) else zkc zk_68_120 pc (by omega) (by omega)
theorem zkm_69 : ∀ pc, pc < zN 69 → zchk 69 pc = true := fun pc h0 => have h : pc < 95 := h0; if h0 : pc < 60 then zkc zk_69_0 pc (by omega) (by omega) else zkc zk_69_60 pc (by omega) (by omega)
theorem zkm_70 : ∀ pc, pc < zN 70 → zchk 70 pc = true := fun pc h0 => have h : pc < 43 := h0; zkc zk_70_0 pc (by omega) (by omega)
theorem zkm_71 : ∀ pc, pc < zN 71 → zchk 71 pc = true := fun pc h0 => have h : pc < 35 := h0; zkc zk_71_0 pc (by omega) (by omega)
theorem zkm_72 : ∀ pc, pc < zN 72 → zchk 72 pc = true := fun pc h0 => have h : pc < 40 := h0; zkc zk_72_0 pc (by omega) (by omega)
theorem zkm_73 : ∀ pc, pc < zN 73 → zchk 73 pc = true := fun pc h0 => have h : pc < 110 := h0; if h0 : pc < 60 then zkc zk_73_0 pc (by omega) (by omega) else zkc zk_73_60 pc (by omega) (by omega)
theorem zkm_74 : ∀ pc, pc < zN 74 → zchk 74 pc = true := fun pc h0 => have h : pc < 51 := h0; zkc zk_74_0 pc (by omega) (by omega)
theorem zkm_75 : ∀ pc, pc < zN 75 → zchk 75 pc = true := fun pc h0 => have h : pc < 24 := h0; zkc zk_75_0 pc (by omega) (by omega)
theorem zkm_76 : ∀ pc, pc < zN 76 → zchk 76 pc = true := fun pc h0 => have h : pc < 15 := h0; zkc zk_76_0 pc (by omega) (by omega)
theorem zkm_77 : ∀ pc, pc < zN 77 → zchk 77 pc = true := fun pc h0 => have h : pc < 19 := h0; zkc zk_77_0 pc (by omega) (by omega)
theorem zkm_78 : ∀ pc, pc < zN 78 → zchk 78 pc = true := fun pc h0 => have h : pc < 16 := h0; zkc zk_78_0 pc (by omega) (by omega)
theorem zkm_79 : ∀ pc, pc < zN 79 → zchk 79 pc = true := fun pc h0 => have h : pc < 173 := h0; if h0 : pc < 60 then zkc zk_79_0 pc (by omega) (by omega) else if h60 : pc < 120 then zkc zk_79_60 pc (by omega) (by omega) else zkc zk_79_120 pc (by omega) (by omega)
theorem zkm_80 : ∀ pc, pc < zN 80 → zchk 80 pc = true := fun pc h0 => have h : pc < 79 := h0; if h0 : pc < 60 then zkc zk_80_0 pc (by omega) (by omega) else zkc zk_80_60 pc (by omega) (by omega)
theorem zkm_81 : ∀ pc, pc < zN 81 → zchk 81 pc = true := fun pc h0 => have h : pc < 25 := h0; zkc zk_81_0 pc (by omega) (by omega)
theorem zkm_82 : ∀ pc, pc < zN 82 → zchk 82 pc = true := fun pc h0 => have h : pc < 40 := h0; zkc zk_82_0 pc (by omega) (by omega)
theorem zkm_83 : ∀ pc, pc < zN 83 → zchk 83 pc = true := fun pc h0 => have h : pc < 49 := h0; zkc zk_83_0 pc (by omega) (by omega)
theorem zkm_84 : ∀ pc, pc < zN 84 → zchk 84 pc = true := fun pc h0 => have h : pc < 22 := h0; zkc zk_84_0 pc (by omega) (by omega)
theorem zkm_85 : ∀ pc, pc < zN 85 → zchk 85 pc = true := fun pc h0 => have h : pc < 16 := h0; zkc zk_85_0 pc (by omega) (by omega)
theorem zkm_86 : ∀ pc, pc < zN 86 → zchk 86 pc = true := fun pc h0 => have h : pc < 16 := h0; zkc zk_86_0 pc (by omega) (by omega)
theorem zkm_87 : ∀ pc, pc < zN 87 → zchk 87 pc = true := fun pc h0 => have h : pc < 57 := h0; zkc zk_87_0 pc (by omega) (by omega)
theorem zkm_88 : ∀ pc, pc < zN 88 → zchk 88 pc = true := fun pc h0 => have h : pc < 37 := h0; zkc zk_88_0 pc (by omega) (by omega)
theorem zkm_89 : ∀ pc, pc < zN 89 → zchk 89 pc = true := fun pc h0 => have h : pc < 44 := h0; zkc zk_89_0 pc (by omega) (by omega)
theorem zkm_90 : ∀ pc, pc < zN 90 → zchk 90 pc = true := fun pc h0 => have h : pc < 67 := h0; if h0 : pc < 60 then zkc zk_90_0 pc (by omega) (by omega) else zkc zk_90_60 pc (by omega) (by omega)
theorem zkm_91 : ∀ pc, pc < zN 91 → zchk 91 pc = true := fun pc h0 => have h : pc < 44 := h0; zkc zk_91_0 pc (by omega) (by omega)
theorem zkm_92 : ∀ pc, pc < zN 92 → zchk 92 pc = true := fun pc h0 => have h : pc < 22 := h0; zkc zk_92_0 pc (by omega) (by omega)
theorem zkm_93 : ∀ pc, pc < zN 93 → zchk 93 pc = true := fun pc h0 => have h : pc < 140 := h0; if h0 : pc < 60 then zkc zk_93_0 pc (by omega) (by omega) else if h60 : pc < 120 then zkc zk_93_60 pc (by omega) (by omega) else zkc zk_93_120 pc (by omega) (by omega)
theorem zkm_94 : ∀ pc, pc < zN 94 → zchk 94 pc = true := fun pc h0 => have h : pc < 43 := h0; zkc zk_94_0 pc (by omega) (by omega)
theorem zkm_95 : ∀ pc, pc < zN 95 → zchk 95 pc = true := fun pc h0 => have h : pc < 121 := h0; if h0 : pc < 60 then zkc zk_95_0 pc (by omega) (by omega) else if h60 : pc < 120 then zkc zk_95_60 pc (by omega) (by omega) else zkc zk_95_120 pc (by omega) (by omega)
theorem zkm_96 : ∀ pc, pc < zN 96 → zchk 96 pc = true := fun pc h0 => have h : pc < 106 := h0; if h0 : pc < 60 then zkc zk_96_0 pc (by omega) (by omega) else zkc zk_96_60 pc (by omega) (by omega)
theorem zkm_97 : ∀ pc, pc < zN 97 → zchk 97 pc = true := fun pc h0 => have h : pc < 44 := h0; zkc zk_97_0 pc (by omega) (by omega)
theorem zkm_98 : ∀ pc, pc < zN 98 → zchk 98 pc = true := fun pc h0 => have h : pc < 23 := h0; zkc zk_98_0 pc (by omega) (by omega)
theorem zkm_99 : ∀ pc, pc < zN 99 → zchk 99 pc = true := fun pc h0 => have h : pc < 70 := h0; if h0 : pc < 60 then zkc zk_99_0 pc (by omega) (by omega) else zkc zk_99_60 pc (by omega) (by omega)
theorem zkm_100 : ∀ pc, pc < zN 100 → zchk 100 pc = true := fun pc h0 => have h : pc < 155 := h0; if h0 : pc < 60 then zkc zk_100_0 pc (by omega) (by omega) else if h60 : pc < 120 then zkc zk_100_60 pc (by omega) (by omega) else zkc zk_100_120 pc (by omega) (by omega)
theorem zkm_101 : ∀ pc, pc < zN 101 → zchk 101 pc = true := fun pc h0 => have h : pc < 26 := h0; zkc zk_101_0 pc (by omega) (by omega)
theorem zkm_102 : ∀ pc, pc < zN 102 → zchk 102 pc = true := fun pc h0 => have h : pc < 43 := h0; zkc zk_102_0 pc (by omega) (by omega)
theorem zkm_103 : ∀ pc, pc < zN 103 → zchk 103 pc = true := fun pc h0 => have h : pc < 69 := h0; if h0 : pc < 60 then zkc zk_103_0 pc (by omega) (by omega) else zkc zk_103_60 pc (by omega) (by omega)
theorem zkm_104 : ∀ pc, pc < zN 104 → zchk 104 pc = true := fun pc h0 => have h : pc < 92 := h0; if h0 : pc < 60 then zkc zk_104_0 pc (by omega) (by omega) else zkc zk_104_60 pc (by omega) (by omega)
theorem zkm_105 : ∀ pc, pc < zN 105 → zchk 105 pc = true := fun pc h0 => have h : pc < 62 := h0; if h0 : pc < 60 then zkc zk_105_0 pc (by omega) (by omega) else zkc zk_105_60 pc (by omega) (by omega)
theorem zkm_106 : ∀ pc, pc < zN 106 → zchk 106 pc = true := fun pc h0 => have h : pc < 118 := h0; if h0 : pc < 60 then zkc zk_106_0 pc (by omega) (by omega) else zkc zk_106_60 pc (by omega) (by omega)
theorem zkm_107 : ∀ pc, pc < zN 107 → zchk 107 pc = true := fun pc h0 => have h : pc < 55 := h0; zkc zk_107_0 pc (by omega) (by omega)
theorem zkm_108 : ∀ pc, pc < zN 108 → zchk 108 pc = true := fun pc h0 => have h : pc < 72 := h0; if h0 : pc < 60 then zkc zk_108_0 pc (by omega) (by omega) else zkc zk_108_60 pc (by omega) (by omega)
theorem zkm_109 : ∀ pc, pc < zN 109 → zchk 109 pc = true := fun pc h0 => have h : pc < 158 := h0; if h0 : pc < 60 then zkc zk_109_0 pc (by omega) (by omega) else if h60 : pc < 120 then zkc zk_109_60 pc (by omega) (by omega) else zkc zk_109_120 pc (by omega) (by omega)
theorem zkm_110 : ∀ pc, pc < zN 110 → zchk 110 pc = true := fun pc h0 => have h : pc < 31 := h0; zkc zk_110_0 pc (by omega) (by omega)
theorem zkm_111 : ∀ pc, pc < zN 111 → zchk 111 pc = true := fun pc h0 => have h : pc < 229 := h0; if h0 : pc < 60 then zkc zk_111_0 pc (by omega) (by omega) else if h60 : pc < 120 then zkc zk_111_60 pc (by omega) (by omega) else if h120 : pc < 180 then zkc zk_111_120 pc (by omega) (by omega) else zkc zk_111_180 pc (by omega) (by omega)
theorem zkm_112 : ∀ pc, pc < zN 112 → zchk 112 pc = true := fun pc h0 => have h : pc < 77 := h0; if h0 : pc < 60 then zkc zk_112_0 pc (by omega) (by omega) else zkc zk_112_60 pc (by omega) (by omega)
theorem zkm_113 : ∀ pc, pc < zN 113 → zchk 113 pc = true := fun pc h0 => have h : pc < 66 := h0; if h0 : pc < 60 then zkc zk_113_0 pc (by omega) (by omega) else zkc zk_113_60 pc (by omega) (by omega)
theorem zkm_114 : ∀ pc, pc < zN 114 → zchk 114 pc = true := fun pc h0 => have h : pc < 30 := h0; zkc zk_114_0 pc (by omega) (by omega)
theorem zkm_115 : ∀ pc, pc < zN 115 → zchk 115 pc = true := fun pc h0 => have h : pc < 161 := h0; if h0 : pc < 60 then zkc zk_115_0 pc (by omega) (by omega) else if h60 : pc < 120 then zkc zk_115_60 pc (by omega) (by omega) else zkc zk_115_120 pc (by omega) (by omega)
theorem zkm_116 : ∀ pc, pc < zN 116 → zchk 116 pc = true := fun pc h0 => have h : pc < 15 := h0; zkc zk_116_0 pc (by omega) (by omega)
theorem zkm_117 : ∀ pc, pc < zN 117 → zchk 117 pc = true := fun pc h0 => have h : pc < 33 := h0; zkc zk_117_0 pc (by omega) (by omega)
theorem zkm_118 : ∀ pc, pc < zN 118 → zchk 118 pc = true := fun pc h0 => have h : pc < 38 := h0; zkc zk_118_0 pc (by omega) (by omega)
theorem zkm_119 : ∀ pc, pc < zN 119 → zchk 119 pc = true := fun pc h0 => have h : pc < 30 := h0; zkc zk_119_0 pc (by omega) (by omega)
theorem zkm_120 : ∀ pc, pc < zN 120 → zchk 120 pc = true := fun pc h0 => have h : pc < 57 := h0; zkc zk_120_0 pc (by omega) (by omega)
theorem zkm_121 : ∀ pc, pc < zN 121 → zchk 121 pc = true := fun pc h0 => have h : pc < 73 := h0; if h0 : pc < 60 then zkc zk_121_0 pc (by omega) (by omega) else zkc zk_121_60 pc (by omega) (by omega)
theorem zkm_122 : ∀ pc, pc < zN 122 → zchk 122 pc = true := fun pc h0 => have h : pc < 253 := h0; if h0 : pc < 60 then zkc zk_122_0 pc (by omega) (by omega) else if h60 : pc < 120 then zkc zk_122_60 pc (by omega) (by omega) else if h120 : pc < 180 then zkc zk_122_120 pc (by omega) (by omega) else if h180 : pc < 240 then zkc zk_122_180 pc (by omega) (by omega) else zkc zk_122_240 pc (by omega) (by omega)
theorem zkm_123 : ∀ pc, pc < zN 123 → zchk 123 pc = true := fun pc h0 => have h : pc < 143 := h0; if h0 : pc < 60 then zkc zk_123_0 pc (by omega) (by omega) else if h60 : pc < 120 then zkc zk_123_60 pc (by omega) (by omega) else zkc zk_123_120 pc (by omega) (by omega)
theorem zkm_124 : ∀ pc, pc < zN 124 → zchk 124 pc = true := fun pc h0 => have h : pc < 84 := h0; if h0 : pc < 60 then zkc zk_124_0 pc (by omega) (by omega) else zkc zk_124_60 pc (by omega) (by omega)
theorem zkm_125 : ∀ pc, pc < zN 125 → zchk 125 pc = true := fun pc h0 => have h : pc < 68 := h0; if h0 : pc < 60 then zkc zk_125_0 pc (by omega) (by omega) else zkc zk_125_60 pc (by omega) (by omega)
theorem zkm_126 : ∀ pc, pc < zN 126 → zchk 126 pc = true := fun pc h0 => have h : pc < 42 := h0; zkc zk_126_0 pc (by omega) (by omega)
theorem zkm_127 : ∀ pc, pc < zN 127 → zchk 127 pc = true := fun pc h0 => have h : pc < 64 := h0; if h0 : pc < 60 then zkc zk_127_0 pc (by omega) (by omega) else zkc zk_127_60 pc (by omega) (by omega)
theorem zkm_128 : ∀ pc, pc < zN 128 → zchk 128 pc = true := fun pc h0 => have h : pc < 176 := h0; if h0 : pc < 60 then zkc zk_128_0 pc (by omega) (by omega) else if h60 : pc < 120 then zkc zk_128_60 pc (by omega) (by omega) else zkc zk_128_120 pc (by omega) (by omega)
theorem zkm_129 : ∀ pc, pc < zN 129 → zchk 129 pc = true := fun pc h0 => have h : pc < 11 := h0; zkc zk_129_0 pc (by omega) (by omega)
theorem zkm_130 : ∀ pc, pc < zN 130 → zchk 130 pc = true := fun pc h0 => have h : pc < 7 := h0; zkc zk_130_0 pc (by omega) (by omega)
theorem zkm_131 : ∀ pc, pc < zN 131 → zchk 131 pc = true := fun pc h0 => have h : pc < 37 := h0; zkc zk_131_0 pc (by omega) (by omega)
theorem zkm_132 : ∀ pc, pc < zN 132 → zchk 132 pc = true := fun pc h0 => have h : pc < 15 := h0; zkc zk_132_0 pc (by omega) (by omega)
theorem zkm_133 : ∀ pc, pc < zN 133 → zchk 133 pc = true := fun pc h0 => have h : pc < 19 := h0; zkc zk_133_0 pc (by omega) (by omega)
theorem zkm_134 : ∀ pc, pc < zN 134 → zchk 134 pc = true := fun pc h0 => have h : pc < 17 := h0; zkc zk_134_0 pc (by omega) (by omega)
theorem zkm_135 : ∀ pc, pc < zN 135 → zchk 135 pc = true := fun pc h0 => have h : pc < 37 := h0; zkc zk_135_0 pc (by omega) (by omega)
theorem zkm_136 : ∀ pc, pc < zN 136 → zchk 136 pc = true := fun pc h0 => have h : pc < 33 := h0; zkc zk_136_0 pc (by omega) (by omega)
theorem zkm_137 : ∀ pc, pc < zN 137 → zchk 137 pc = true := fun pc h0 => have h : pc < 53 := h0; zkc zk_137_0 pc (by omega) (by omega)
theorem zkm_138 : ∀ pc, pc < zN 138 → zchk 138 pc = true := fun pc h0 => have h : pc < 1214 := h0; if h0 : pc < 60 then zkc zk_138_0 pc (by omega) (by omega) else if h60 : pc < 120 then zkc zk_138_60 pc (by omega) (by omega) else if h120 : pc < 180 then zkc zk_138_120 pc (by omega) (by omega) else if h180 : pc < 240 then zkc zk_138_180 pc (by omega) (by omega) else if h240 : pc < 300 then zkc zk_138_240 pc (by omega) (by omega) else if h300 : pc < 360 then zkc zk_138_300 pc (by omega) (by omega) else if h360 : pc < 420 then zkc zk_138_360 pc (by omega) (by omega) else if h420 : pc < 480 then zkc zk_138_420 pc (by omega) (by omega) else if h480 : pc < 540 then zkc zk_138_480 pc (by omega) (by omega) else if h540 : pc < 600 then zkc zk_138_540 pc (by omega) (by omega) else if h600 : pc < 660 then zkc zk_138_600 pc (by omega) (by omega) else if h660 : pc < 720 then zkc zk_138_660 pc (by omega) (by omega) else if h720 : pc < 780 then zkc zk_138_720 pc (by omega) (by omega) else if h780 : pc < 840 then zkc zk_138_780 pc (by omega) (by omega) else if h840 : pc < 900 then zkc zk_138_840 pc (by omega) (by omega) else if h900 : pc < 960 then zkc zk_138_900 pc (by omega) (by omega) else if h960 : pc < 1020 then zkc zk_138_960 pc (by omega) (by omega) else if h1020 : pc < 1080 then zkc zk_138_1020 pc (by omega) (by omega) else if h1080 : pc < 1140 then zkc zk_138_1080 pc (by omega) (by omega) else if h1140 : pc < 1200 then zkc zk_138_1140 pc (by omega) (by omega) else zkc zk_138_1200 pc (by omega) (by omega)
theorem zkm_to_20 : ∀ a, a < 20 → ∀ pc, pc < zN a → zchk a pc = true := lt_s (lt_s (lt_s (lt_s (lt_s (lt_s (lt_s (lt_s (lt_s (lt_s (lt_s (lt_s (lt_s (lt_s (lt_s (lt_s (lt_s (lt_s (lt_s (lt_s (lt_0) zkm_0) zkm_1) zkm_2) zkm_3) zkm_4) zkm_5) zkm_6) zkm_7) zkm_8) zkm_9) zkm_10) zkm_11) zkm_12) zkm_13) zkm_14) zkm_15) zkm_16) zkm_17) zkm_18) zkm_19
theorem zkm_to_40 : ∀ a, a < 40 → ∀ pc, pc < zN a → zchk a pc = true := lt_s (lt_s (lt_s (lt_s (lt_s (lt_s (lt_s (lt_s (lt_s (lt_s (lt_s (lt_s (lt_s (lt_s (lt_s (lt_s (lt_s (lt_s (lt_s (lt_s (zkm_to_20) zkm_20) zkm_21) zkm_22) zkm_23) zkm_24) zkm_25) zkm_26) zkm_27) zkm_28) zkm_29) zkm_30) zkm_31) zkm_32) zkm_33) zkm_34) zkm_35) zkm_36) zkm_37) zkm_38) zkm_39
theorem zkm_to_60 : ∀ a, a < 60 → ∀ pc, pc < zN a → zchk a pc = true := lt_s (lt_s (lt_s (lt_s (lt_s (lt_s (lt_s (lt_s (lt_s (lt_s (lt_s (lt_s (lt_s (lt_s (lt_s (lt_s (lt_s (lt_s (lt_s (lt_s (zkm_to_40) zkm_40) zkm_41) zkm_42) zkm_43) zkm_44) zkm_45) zkm_46) zkm_47) zkm_48) zkm_49) zkm_50) zkm_51) zkm_52) zkm_53) zkm_54) zkm_55) zkm_56) zkm_57) zkm_58) zkm_59
theorem zkm_to_80 : ∀ a, a < 80 → ∀ pc, pc < zN a → zchk a pc = true := lt_s (lt_s (lt_s (lt_s (lt_s (lt_s (lt_s (lt_s (lt_s (lt_s (lt_s (lt_s (lt_s (lt_s (lt_s (lt_s (lt_s (lt_s (lt_s (lt_s (zkm_to_60) zkm_60) zkm_61) zkm_62) zkm_63) zkm_64) zkm_65) zkm_66) zkm_67) zkm_68) zkm_69) zkm_70) zkm_71) zkm_72) zkm_73) zkm_74) zkm_75) zkm_76) zkm_77) zkm_78) zkm_79
theorem zkm_to_100 : ∀ a, a < 100 → ∀ pc, pc < zN a → zchk a pc = true := lt_s (lt_s (lt_s (lt_s (lt_s (lt_s (lt_s (lt_s (lt_s (lt_s (lt_s (lt_s (lt_s (lt_s (lt_s (lt_s (lt_s (lt_s (lt_s (lt_s (zkm_to_80) zkm_80) zkm_81) zkm_82) zkm_83) zkm_84) zkm_85) zkm_86) zkm_87) zkm_88) zkm_89) zkm_90) zkm_91) zkm_92) zkm_93) zkm_94) zkm_95) zkm_96) zkm_97) zkm_98) zkm_99
theorem zkm_to_120 : ∀ a, a < 120 → ∀ pc, pc < zN a → zchk a pc = true := lt_s (lt_s (lt_s (lt_s (lt_s (lt_s (lt_s (lt_s (lt_s (lt_s (lt_s (lt_s (lt_s (lt_s (lt_s (lt_s (lt_s (lt_s (lt_s (lt_s (zkm_to_100) zkm_100) zkm_101) zkm_102) zkm_103) zkm_104) zkm_105) zkm_106) zkm_107) zkm_108) zkm_109) zkm_110) zkm_111) zkm_112) zkm_113) zkm_114) zkm_115) zkm_116) zkm_117) zkm_118) zkm_119
theorem zkm_to_139 : ∀ a, a < 139 → ∀ pc, pc < zN a → zchk a pc = true := lt_s (lt_s (lt_s (lt_s (lt_s (lt_s (lt_s (lt_s (lt_s (lt_s (lt_s (lt_s (lt_s (lt_s (lt_s (lt_s (lt_s (lt_s (lt_s (zkm_to_120) zkm_120) zkm_121) zkm_122) zkm_123) zkm_124) zkm_125) zkm_126) zkm_127) zkm_128) zkm_129) zkm_130) zkm_131) zkm_132) zkm_133) zkm_134) zkm_135) zkm_136) zkm_137) zkm_138
theorem zchk_use {mi pc : Nat} {ee : zE} (hne : ee.1 ≠ 99) (h : (match ee.1 with
  | 99 => true
  | _ => (match decode (zb mi) pc with
    | .ok (i, ln) => zchi mi pc i ln ee
    | .error _ => false)) = true) : ∃ i ln, decode (zb mi) pc = .ok (i, ln) ∧ zchi mi pc i ln ee = true := by
  split at h
  · rename_i q; exact absurd q hne
  · cases hd : decode (zb mi) pc with
    | error x => rw [hd] at h; cases h
    | ok q =>
      obtain ⟨i, ln⟩ := q
      rw [hd] at h
      exact ⟨i, ln, rfl, h⟩
theorem zany {α : Type} {l : List α} {P : α → Bool} {x : α} (h : l.any P = true) (hP : ∀ y, P y = true → y = x) : x ∈ l := by
  obtain ⟨y, h1, h2⟩ := List.any_eq_true.mp h
  rw [← hP y h2]; exact h1
theorem zpl_sc : ∀ q, zcls q < 7 ∨ True := fun _ => Or.inr trivial
section ZS
variable {p : Program} {l : Launch} {e : Env} {R : Room} {s : State} {m : MethodId} {args : Array Value} {below : List Frame} {meth : Method} {c : Code} {cells slots : Nat} {Q : State → Prop} {D : va_G} {dA ad : Nat → Nat}
set_option maxHeartbeats 8000000 in
theorem z_step {mi : Nat} (hmi : mi < 139) (hx : p.tables.exec = Jvm.exec) (hb : c.code = zb mi) (hml : c.maxLocals = zl mi) (hown : s.vm.findClass (zR (zown mi)) = some m.cls) (hts : ∀ w ∈ zGT, w.before args s = true) (hE : zEnv D dA ad s s.heap)
    {rm : Room} {Call : Nat → List zV → zM → (zM → Option zV → Prop) → Prop} {K : zM → Option zV → Prop} {sL : Nat} {xs : Nat → Int} {xt : Nat → Int32}
    (hC : ∀ (mi : Nat) (as : List zV) (σ : zM) (K : zM → Option zV → Prop), mi < 138 → Call mi as σ K → zokM σ → (∀ v ∈ as, zokV v) → Met l (zy mi) (zws mi) rm (zPc D dA ad as σ) (zQc D dA ad K) 0 0 (zA ad)) (hrm : rm.cells = 0 ∧ rm.slots = 0 ∧ rm.frames + 1 ≤ R.frames ∧ 40 + rm.locals ≤ R.locals ∧ cells ≤ R.cells ∧ slots ≤ R.slots)
    (hRet : ∀ (r : Option zV) (pc : Nat) (ls : Array Slot) (H : Heap) (locs : List Loc) (σ : zM), zretOk mi pc r → K σ r → zokM σ → (∀ v, r = some v → zokV v) → va_P D vwCl (zwl dA ad σ) H → va_S (zA ad) s.heap H locs → W p l e R s m args below meth c H locs cells slots Q (F0 m pc ls ((r.map (zcv ad)).toList)))
    (hScr : mi = 138 → (va_X (ad 43) sL xt s s.heap ∧ ad 43 < s.heap.size ∧ ¬ zA ad (ad 43)) ∧ sL < 100000 ∧ ∀ j, xs j = (xt j).toInt)
    {S : zS} (h : zStep Call K sL xs (zWX p l e R s m args below meth c cells slots Q D dA ad (zl mi)) mi S) : zWX p l e R s m args below meth c cells slots Q D dA ad (zl mi) S := by
  obtain ⟨pc, L, st, σ⟩ := S
  unfold zStep at h
  cases hbl : Nat.blt pc (zN mi) with
  | false => rw [hbl] at h; exact h.elim
  | true =>
  rw [hbl] at h
  have hlt : pc < zN mi := by simpa [Nat.blt_eq] using hbl
  have hck := zkm_to_139 mi hmi pc hlt
  unfold zchk at hck
  dsimp only at h
  generalize zcode mi pc = ee at h hck
  by_cases h99 : ee.1 = 99
  · obtain ⟨op, nxt, a, b, z⟩ := ee
    cases h99
    exact h.elim
  obtain ⟨i, ln, hd, hi⟩ := zchk_use h99 hck
  clear hck
  obtain ⟨op, nxt, a, b, z⟩ := ee
  unfold zchi at hi
  rw [Bool.and_eq_true] at hi
  obtain ⟨hn, hi⟩ := hi
  have hnx : nxt = pc + ln := Nat.eq_of_beq_eq_true hn
  subst hnx
  clear hn h99
  have hRf : 1 ≤ R.frames ∧ 40 ≤ R.locals := ⟨by omega, by omega⟩
  unfold zEx at h
  dsimp only at h
  split at h
  · replace hi : (match (generalizing := false) i with | .iconst n => decide (ln = 1 ∧ n = z ∧ -1 ≤ z ∧ z ≤ 5) | .bipush n => decide (ln = 2 ∧ n = z ∧ -128 ≤ z ∧ z < 128) | .sipush n => decide (ln = 3 ∧ n = z ∧ -32768 ≤ z ∧ z < 32768) | .ldc n => decide (ln = 2 ∧ n = a ∧ (zown mi, a, z) ∈ zcst) | .ldc_w n => decide (ln = 3 ∧ n = a ∧ (zown mi, a, z) ∈ zcst) | _ => false) = true := hi
    split at hi
    · obtain ⟨rfl, rfl, h1, h2⟩ := of_decide_eq_true hi
      exact zo_iconst hx hb hml hown hts hE hd ⟨by omega, by omega⟩ h
    · obtain ⟨rfl, rfl, h1, h2⟩ := of_decide_eq_true hi
      exact zo_bipush hx hb hml hown hts hE hd ⟨h1, h2⟩ h
    · obtain ⟨rfl, rfl, h1, h2⟩ := of_decide_eq_true hi
      exact zo_sipush hx hb hml hown hts hE hd ⟨h1, h2⟩ h
    · obtain ⟨rfl, rfl, h1⟩ := of_decide_eq_true hi
      exact zo_ldc hx hb hml hown hts hE hd h1 h
    · obtain ⟨rfl, rfl, h1⟩ := of_decide_eq_true hi
      exact zo_ldcw hx hb hml hown hts hE hd h1 h
    · cases hi
  · obtain ⟨x, hL1, hk⟩ := zld_1 h
    clear h
    replace hi : (match (generalizing := false) i with | .iload_n k => decide (ln = 1 ∧ (k : Nat) = a) | .iload k => decide (ln = 2 ∧ k = a) | _ => false) = true := hi
    split at hi
    · obtain ⟨rfl, rfl⟩ := of_decide_eq_true hi
      exact zo_iload_n hx hb hml hown hts hE hd hL1 hk
    · obtain ⟨rfl, rfl⟩ := of_decide_eq_true hi
      exact zo_iload hx hb hml hown hts hE hd hL1 hk
    · cases hi
  · have h2 := zld_2 h
    clear h
    replace hi : (match (generalizing := false) i with | .aload_n k => decide (ln = 1 ∧ (k : Nat) = a) | .aload k => decide (ln = 2 ∧ k = a) | _ => false) = true := hi
    split at hi
    · obtain ⟨rfl, rfl⟩ := of_decide_eq_true hi
      rcases h2 with ⟨x, hL1, h⟩ | ⟨hL1, h⟩
      · exact zo_aload_n hx hb hml hown hts hE hd hL1 h
      · exact zo_aload_nN hx hb hml hown hts hE hd hL1 h
    · obtain ⟨rfl, rfl⟩ := of_decide_eq_true hi
      rcases h2 with ⟨x, hL1, h⟩ | ⟨hL1, h⟩
      · exact zo_aload hx hb hml hown hts hE hd hL1 h
      · exact zo_aloadN hx hb hml hown hts hE hd hL1 h
    · cases hi
  · obtain ⟨x, hL1, hk⟩ := zld_3 h
    clear h
    replace hi : (match (generalizing := false) i with | .lload_n k => decide (ln = 1 ∧ (k : Nat) = a) | .lload k => decide (ln = 2 ∧ k = a) | _ => false) = true := hi
    split at hi
    · obtain ⟨rfl, rfl⟩ := of_decide_eq_true hi
      exact zo_lload_n hx hb hml hown hts hE hd hL1 hk
    · obtain ⟨rfl, rfl⟩ := of_decide_eq_true hi
      exact zo_lload hx hb hml hown hts hE hd hL1 hk
    · cases hi
  · split at h
    · replace hi : (match (generalizing := false) i with | .istore_n k => decide (ln = 1 ∧ (k : Nat) = a ∧ a < zl mi) | .istore k => decide (ln = 2 ∧ k = a ∧ a < zl mi) | _ => false) = true := hi
      split at hi
      · obtain ⟨rfl, rfl, h1⟩ := of_decide_eq_true hi
        exact zo_istore_n hx hb hml hown hts hE hd h1 h
      · obtain ⟨rfl, rfl, h1⟩ := of_decide_eq_true hi
        exact zo_istore hx hb hml hown hts hE hd h1 h
      · cases hi
    · exact h.elim
  · split at h
    · replace hi : (match (generalizing := false) i with | .astore_n k => decide (ln = 1 ∧ (k : Nat) = a ∧ a < zl mi) | .astore k => decide (ln = 2 ∧ k = a ∧ a < zl mi) | _ => false) = true := hi
      split at hi
      · obtain ⟨rfl, rfl, h1⟩ := of_decide_eq_true hi
        exact zo_astore_n hx hb hml hown hts hE hd h1 h
      · obtain ⟨rfl, rfl, h1⟩ := of_decide_eq_true hi
        exact zo_astore hx hb hml hown hts hE hd h1 h
      · cases hi
    · replace hi : (match (generalizing := false) i with | .astore_n k => decide (ln = 1 ∧ (k : Nat) = a ∧ a < zl mi) | .astore k => decide (ln = 2 ∧ k = a ∧ a < zl mi) | _ => false) = true := hi
      split at hi
      · obtain ⟨rfl, rfl, h1⟩ := of_decide_eq_true hi
        exact zo_astore_nN hx hb hml hown hts hE hd h1 h
      · obtain ⟨rfl, rfl, h1⟩ := of_decide_eq_true hi
        exact zo_astoreN hx hb hml hown hts hE hd h1 h
      · cases hi
    · exact h.elim
  · split at h
    · replace hi : (match (generalizing := false) i with | .lstore_n k => decide (ln = 1 ∧ (k : Nat) = a ∧ a + 1 < zl mi) | .lstore k => decide (ln = 2 ∧ k = a ∧ a + 1 < zl mi) | _ => false) = true := hi
      split at hi
      · obtain ⟨rfl, rfl, h1⟩ := of_decide_eq_true hi
        exact zo_lstore_n hx hb hml hown hts hE hd h1 h
      · obtain ⟨rfl, rfl, h1⟩ := of_decide_eq_true hi
        exact zo_lstore hx hb hml hown hts hE hd h1 h
      · cases hi
    · exact h.elim
  · obtain ⟨x, hL1, hk⟩ := zld_1 h
    clear h
    replace hi : (match (generalizing := false) i with | .iinc k n => decide (ln = 3 ∧ k = a ∧ n = z ∧ a < zl mi) | _ => false) = true := hi
    split at hi
    · obtain ⟨rfl, rfl, rfl, h1⟩ := of_decide_eq_true hi
      exact zo_iinc hx hb hml hown hts hE hd hL1 h1 hk
    · cases hi
  · split at h
    · replace hi : (match (generalizing := false) i with | .iadd => decide (ln = 1 ∧ a = 0) | .isub => decide (ln = 1 ∧ a = 1) | .imul => decide (ln = 1 ∧ a = 2) | .iand => decide (ln = 1 ∧ a = 3) | .ior => decide (ln = 1 ∧ a = 4) | .ishl => decide (ln = 1 ∧ a = 5) | .ishr => decide (ln = 1 ∧ a = 6) | .iushr => decide (ln = 1 ∧ a = 7) | _ => false) = true := hi
      split at hi
      · obtain ⟨rfl, rfl⟩ := of_decide_eq_true hi
        exact zo_iadd hx hb hml hown hts hE hd h
      · obtain ⟨rfl, rfl⟩ := of_decide_eq_true hi
        exact zo_isub hx hb hml hown hts hE hd h
      · obtain ⟨rfl, rfl⟩ := of_decide_eq_true hi
        exact zo_imul hx hb hml hown hts hE hd h
      · obtain ⟨rfl, rfl⟩ := of_decide_eq_true hi
        exact zo_iand hx hb hml hown hts hE hd h
      · obtain ⟨rfl, rfl⟩ := of_decide_eq_true hi
        exact zo_ior hx hb hml hown hts hE hd h
      · obtain ⟨rfl, rfl⟩ := of_decide_eq_true hi
        exact zo_ishl hx hb hml hown hts hE hd h
      · obtain ⟨rfl, rfl⟩ := of_decide_eq_true hi
        exact zo_ishr hx hb hml hown hts hE hd h
      · obtain ⟨rfl, rfl⟩ := of_decide_eq_true hi
        exact zo_iushr hx hb hml hown hts hE hd h
      · cases hi
    · exact h.elim
  · split at h
    · replace hi : (match (generalizing := false) i with | .idiv => decide (ln = 1) | _ => false) = true := hi
      split at hi
      · obtain rfl := of_decide_eq_true hi
        exact zo_idiv hx hb hml hown hts hE hd h.1 h.2
      · cases hi
    · exact h.elim
  · split at h
    · replace hi : (match (generalizing := false) i with | .irem => decide (ln = 1) | _ => false) = true := hi
      split at hi
      · obtain rfl := of_decide_eq_true hi
        exact zo_irem hx hb hml hown hts hE hd h.1 h.2
      · cases hi
    · exact h.elim
  · split at h
    · replace hi : (match (generalizing := false) i with | .ladd => decide (ln = 1 ∧ a = 0) | .lmul => decide (ln = 1 ∧ a = 1) | .land => decide (ln = 1 ∧ a = 2) | .lor => decide (ln = 1 ∧ a = 3) | _ => false) = true := hi
      split at hi
      · obtain ⟨rfl, rfl⟩ := of_decide_eq_true hi
        exact zo_ladd hx hb hml hown hts hE hd h
      · obtain ⟨rfl, rfl⟩ := of_decide_eq_true hi
        exact zo_lmul hx hb hml hown hts hE hd h
      · obtain ⟨rfl, rfl⟩ := of_decide_eq_true hi
        exact zo_land hx hb hml hown hts hE hd h
      · obtain ⟨rfl, rfl⟩ := of_decide_eq_true hi
        exact zo_lor hx hb hml hown hts hE hd h
      · cases hi
    · exact h.elim
  · split at h
    · replace hi : (match (generalizing := false) i with | .lshl => decide (ln = 1 ∧ a = 0) | .lshr => decide (ln = 1 ∧ a = 1) | _ => false) = true := hi
      split at hi
      · obtain ⟨rfl, rfl⟩ := of_decide_eq_true hi
        exact zo_lshl hx hb hml hown hts hE hd h
      · obtain ⟨rfl, rfl⟩ := of_decide_eq_true hi
        exact zo_lshr hx hb hml hown hts hE hd h
      · cases hi
    · exact h.elim
  · split at h
    · split at h
      · rename_i w hz
        replace hi : (match (generalizing := false) i with | .i2l => decide (ln = 1 ∧ a = 0) | .l2i => decide (ln = 1 ∧ a = 1) | .i2b => decide (ln = 1 ∧ a = 2) | .i2s => decide (ln = 1 ∧ a = 3) | .i2c => decide (ln = 1 ∧ a = 4) | _ => false) = true := hi
        split at hi
        · obtain ⟨rfl, rfl⟩ := of_decide_eq_true hi
          obtain ⟨x, rfl, rfl⟩ := zcnv_0 hz
          exact zo_i2l hx hb hml hown hts hE hd h
        · obtain ⟨rfl, rfl⟩ := of_decide_eq_true hi
          obtain ⟨x, rfl, rfl⟩ := zcnv_1 hz
          exact zo_l2i hx hb hml hown hts hE hd h
        · obtain ⟨rfl, rfl⟩ := of_decide_eq_true hi
          obtain ⟨x, rfl, rfl⟩ := zcnv_2 hz
          exact zo_i2b hx hb hml hown hts hE hd h
        · obtain ⟨rfl, rfl⟩ := of_decide_eq_true hi
          obtain ⟨x, rfl, rfl⟩ := zcnv_3 hz
          exact zo_i2s hx hb hml hown hts hE hd h
        · obtain ⟨rfl, rfl⟩ := of_decide_eq_true hi
          obtain ⟨x, rfl, rfl⟩ := zcnv_4 hz
          exact zo_i2c hx hb hml hown hts hE hd h
        · cases hi
      · exact h.elim
    · exact h.elim
  · split at h
    · replace hi : (match (generalizing := false) i with | .lcmp => decide (ln = 1) | _ => false) = true := hi
      split at hi
      · obtain rfl := of_decide_eq_true hi
        exact zo_lcmp hx hb hml hown hts hE hd h
      · cases hi
    · exact h.elim
  · replace hi : (match (generalizing := false) i with | .lconst n => decide (ln = 1 ∧ ((n : Nat) : Int) = z) | .ldc2_w n => decide (ln = 3 ∧ n = a ∧ (zown mi, a, z) ∈ zcstl) | _ => false) = true := hi
    split at hi
    · obtain ⟨rfl, rfl⟩ := of_decide_eq_true hi
      exact zo_lconst hx hb hml hown hts hE hd h
    · obtain ⟨rfl, rfl, h1⟩ := of_decide_eq_true hi
      exact zo_ldc2 hx hb hml hown hts hE hd h1 h
    · cases hi
  · split at h
    · replace hi : (match (generalizing := false) i with | .ifCond .eq o => decide (ln = 3 ∧ a = 0 ∧ (pc : Int) + o = (b : Int)) | .ifCond .ne o => decide (ln = 3 ∧ a = 1 ∧ (pc : Int) + o = (b : Int)) | .ifCond .lt o => decide (ln = 3 ∧ a = 2 ∧ (pc : Int) + o = (b : Int)) | .ifCond .ge o => decide (ln = 3 ∧ a = 3 ∧ (pc : Int) + o = (b : Int)) | .ifCond .gt o => decide (ln = 3 ∧ a = 4 ∧ (pc : Int) + o = (b : Int)) | .ifCond .le o => decide (ln = 3 ∧ a = 5 ∧ (pc : Int) + o = (b : Int)) | _ => false) = true := hi
      split at hi
      · obtain ⟨rfl, rfl, h1⟩ := of_decide_eq_true hi
        exact zo_if_eq hx hb hml hown hts hE hd h1 h.1 h.2
      · obtain ⟨rfl, rfl, h1⟩ := of_decide_eq_true hi
        exact zo_if_ne hx hb hml hown hts hE hd h1 h.1 h.2
      · obtain ⟨rfl, rfl, h1⟩ := of_decide_eq_true hi
        exact zo_if_lt hx hb hml hown hts hE hd h1 h.1 h.2
      · obtain ⟨rfl, rfl, h1⟩ := of_decide_eq_true hi
        exact zo_if_ge hx hb hml hown hts hE hd h1 h.1 h.2
      · obtain ⟨rfl, rfl, h1⟩ := of_decide_eq_true hi
        exact zo_if_gt hx hb hml hown hts hE hd h1 h.1 h.2
      · obtain ⟨rfl, rfl, h1⟩ := of_decide_eq_true hi
        exact zo_if_le hx hb hml hown hts hE hd h1 h.1 h.2
      · cases hi
    · exact h.elim
  · split at h
    · replace hi : (match (generalizing := false) i with | .if_icmp .eq o => decide (ln = 3 ∧ a = 0 ∧ (pc : Int) + o = (b : Int)) | .if_icmp .ne o => decide (ln = 3 ∧ a = 1 ∧ (pc : Int) + o = (b : Int)) | .if_icmp .lt o => decide (ln = 3 ∧ a = 2 ∧ (pc : Int) + o = (b : Int)) | .if_icmp .ge o => decide (ln = 3 ∧ a = 3 ∧ (pc : Int) + o = (b : Int)) | .if_icmp .gt o => decide (ln = 3 ∧ a = 4 ∧ (pc : Int) + o = (b : Int)) | .if_icmp .le o => decide (ln = 3 ∧ a = 5 ∧ (pc : Int) + o = (b : Int)) | _ => false) = true := hi
      split at hi
      · obtain ⟨rfl, rfl, h1⟩ := of_decide_eq_true hi
        exact zo_icmp_eq hx hb hml hown hts hE hd h1 h.1 h.2
      · obtain ⟨rfl, rfl, h1⟩ := of_decide_eq_true hi
        exact zo_icmp_ne hx hb hml hown hts hE hd h1 h.1 h.2
      · obtain ⟨rfl, rfl, h1⟩ := of_decide_eq_true hi
        exact zo_icmp_lt hx hb hml hown hts hE hd h1 h.1 h.2
      · obtain ⟨rfl, rfl, h1⟩ := of_decide_eq_true hi
        exact zo_icmp_ge hx hb hml hown hts hE hd h1 h.1 h.2
      · obtain ⟨rfl, rfl, h1⟩ := of_decide_eq_true hi
        exact zo_icmp_gt hx hb hml hown hts hE hd h1 h.1 h.2
      · obtain ⟨rfl, rfl, h1⟩ := of_decide_eq_true hi
        exact zo_icmp_le hx hb hml hown hts hE hd h1 h.1 h.2
      · cases hi
    · exact h.elim
  · replace hi : (match (generalizing := false) i with | .ifnull o => decide (ln = 3 ∧ a = 0 ∧ (pc : Int) + o = (b : Int)) | .ifnonnull o => decide (ln = 3 ∧ a = 1 ∧ (pc : Int) + o = (b : Int)) | _ => false) = true := hi
    split at hi
    · obtain ⟨rfl, rfl, h1⟩ := of_decide_eq_true hi
      split at h
      · exact zo_ifnull hx hb hml hown hts hE hd h
      · exact zo_ifnullN hx hb hml hown hts hE hd h1 h
      · rename_i q; cases q
      · rename_i q; cases q
      · exact h.elim
    · obtain ⟨rfl, rfl, h1⟩ := of_decide_eq_true hi
      split at h
      · rename_i q; cases q
      · rename_i q; cases q
      · exact zo_ifnonnull hx hb hml hown hts hE hd h1 h
      · exact zo_ifnonnullN hx hb hml hown hts hE hd h
      · exact h.elim
    · cases hi
  · replace hi : (match (generalizing := false) i with | .goto o => decide (ln = 3 ∧ (pc : Int) + o = (b : Int)) | _ => false) = true := hi
    split at hi
    · obtain ⟨rfl, h1⟩ := of_decide_eq_true hi
      exact zo_goto hx hb hml hown hts hE hd h1 h
    · cases hi
  · split at h
    · rename_i q r
      replace hi : (match (generalizing := false) i with | .getfield n => decide (ln = 3 ∧ 0 ≤ z) && zfld.any (fun q => decide (q = (zown mi, n, z.toNat, a, b))) | _ => false) = true := hi
      split at hi
      · rw [Bool.and_eq_true] at hi
        obtain ⟨hi1, hi2⟩ := hi
        obtain ⟨rfl, h0⟩ := of_decide_eq_true hi1
        have hf := zany hi2 (fun y hy => of_decide_eq_true hy)
        split at h
        · rename_i sc hcl hfv
          exact zo_getfield hx hb hml hown hts hE hd hf (Nat.eq_of_beq_eq_true hcl) (v := .int (Int32.ofInt (σ.1 sc))) (w := vI (σ.1 sc)) (by unfold zfw; rw [hfv]) rfl (fun hM => hM.1 sc) h
        · rename_i q2 hcl hfv
          exact zo_getfield hx hb hml hown hts hE hd hf (Nat.eq_of_beq_eq_true hcl) (v := .ref (ad q2)) (w := vR q2) (by unfold zfw; rw [hfv]) rfl (fun _ => trivial) h
        · exact h.elim
      · cases hi
    · exact h.elim
  · split at h
    · rename_i x q r
      replace hi : (match (generalizing := false) i with | .putfield n => decide (ln = 3 ∧ 0 ≤ z ∧ zty a b = .int ∧ (zT a b).2.2.2 = false) && zfld.any (fun q => decide (q = (zown mi, n, z.toNat, a, b))) | _ => false) = true := hi
      split at hi
      · rw [Bool.and_eq_true] at hi
        obtain ⟨hi1, hi2⟩ := hi
        obtain ⟨rfl, h0, h1, h2⟩ := of_decide_eq_true hi1
        have hf := zany hi2 (fun y hy => of_decide_eq_true hy)
        split at h
        · rename_i sc hcl hfv
          exact zo_putfield hx hb hml hown hts hE hd hf (Nat.eq_of_beq_eq_true hcl) hfv h1 h2 h
        · exact h.elim
      · cases hi
    · exact h.elim
  · split at h
    · rename_i x q r
      replace hi : (match (generalizing := false) i with | .putfield n => decide (ln = 3 ∧ 0 ≤ z ∧ zty a b = .boolean ∧ (zT a b).2.2.2 = false) && zfld.any (fun q => decide (q = (zown mi, n, z.toNat, a, b))) | _ => false) = true := hi
      split at hi
      · rw [Bool.and_eq_true] at hi
        obtain ⟨hi1, hi2⟩ := hi
        obtain ⟨rfl, h0, h1, h2⟩ := of_decide_eq_true hi1
        have hf := zany hi2 (fun y hy => of_decide_eq_true hy)
        split at h
        · rename_i sc hcl hfv
          exact zo_putfieldZ hx hb hml hown hts hE h.1 hd hf (Nat.eq_of_beq_eq_true hcl) hfv h1 h2 h.2
        · exact h.elim
      · cases hi
    · exact h.elim
  · split at h
    · rename_i ix q r
      split at h
      · rename_i n g hcl hza
        have hcl := Nat.eq_of_beq_eq_true hcl
        obtain ⟨hn1, hn2⟩ : (zarr q).1 = n ∧ (zarr q).2 = g := by rw [hza]; exact ⟨rfl, rfl⟩
        subst hn1; subst hn2
        replace hi : (match (generalizing := false) i with | .iaload => decide (ln = 1) | _ => false) = true := hi
        split at hi
        · obtain rfl := of_decide_eq_true hi
          exact zo_iaload hx hb hml hown hts hE hd hcl h.1 h.2
        · cases hi
      · exact h.elim
    · exact h.elim
  · split at h
    · rename_i x ix q r
      split at h
      · rename_i n g hcl hza
        have hcl := Nat.eq_of_beq_eq_true hcl
        obtain ⟨hn1, hn2⟩ : (zarr q).1 = n ∧ (zarr q).2 = g := by rw [hza]; exact ⟨rfl, rfl⟩
        subst hn1; subst hn2
        replace hi : (match (generalizing := false) i with | .iastore => decide (ln = 1) | _ => false) = true := hi
        split at hi
        · obtain rfl := of_decide_eq_true hi
          exact zo_iastore hx hb hml hown hts hE hd hcl h.1 h.2
        · cases hi
      · exact h.elim
    · exact h.elim
  · split at h
    · rename_i ix q r
      split at h
      · rename_i n g hcl hza
        have hcl := Nat.eq_of_beq_eq_true hcl
        obtain ⟨hn1, hn2⟩ : (zarr q).1 = n ∧ (zarr q).2 = g := by rw [hza]; exact ⟨rfl, rfl⟩
        subst hn1; subst hn2
        replace hi : (match (generalizing := false) i with | .baload => decide (ln = 1) | _ => false) = true := hi
        split at hi
        · obtain rfl := of_decide_eq_true hi
          exact zo_baload hx hb hml hown hts hE hd hcl h.1 h.2
        · cases hi
      · exact h.elim
    · exact h.elim
  · split at h
    · rename_i x ix q r
      split at h
      · rename_i n g hcl hza
        have hcl := Nat.eq_of_beq_eq_true hcl
        obtain ⟨hn1, hn2⟩ : (zarr q).1 = n ∧ (zarr q).2 = g := by rw [hza]; exact ⟨rfl, rfl⟩
        subst hn1; subst hn2
        replace hi : (match (generalizing := false) i with | .bastore => decide (ln = 1) | _ => false) = true := hi
        split at hi
        · obtain rfl := of_decide_eq_true hi
          exact zo_bastore hx hb hml hown hts hE hd hcl h.1 h.2
        · cases hi
      · exact h.elim
    · exact h.elim
  · split at h
    · rename_i q r
      replace hi : (match (generalizing := false) i with | .arraylength => decide (ln = 1) | _ => false) = true := hi
      split at hi
      · obtain rfl := of_decide_eq_true hi
        split at h
        · rename_i hcl
          exact zo_alen hx hb hml hown hts hE hd (Or.inl ⟨hcl, rfl⟩) (zarr_lt q) h
        · rename_i hcl
          exact zo_alen hx hb hml hown hts hE hd (n := 4) (Or.inr ⟨hcl, rfl⟩) (by decide) h
        · rename_i hcl
          obtain rfl := zcls_23 hcl
          exact zo_alenS hx hb hml hown hts hE hd h
        · exact h.elim
      · cases hi
    · exact h.elim
  · split at h
    · rename_i as r hpop
      split at h
      · rename_i hv hs
        have hs2 : zcsum r ≤ 8 := Nat.le_of_ble_eq_true hs
        replace hi : (match (generalizing := false) i with | .invokevirtual n => decide (ln = 3 ∧ 0 ≤ z ∧ zkd a = 0 ∧ b = zar a + 1) && zcall.any (fun q => decide (q = (zown mi, n, z.toNat, a))) | .invokestatic n => decide (ln = 3 ∧ z = 0 ∧ zkd a = 1 ∧ b = zar a) && zcall.any (fun q => decide (q = (zown mi, n, z.toNat, a))) | _ => false) = true := hi
        split at hi
        · rw [Bool.and_eq_true] at hi
          obtain ⟨hi1, hi2⟩ := hi
          obtain ⟨rfl, h0, h1, h2⟩ := of_decide_eq_true hi1
          exact zo_call hx hb hml hown hts hE hC hrm (Or.inl ⟨hd, h1, h2⟩) (zany hi2 (fun y hy => of_decide_eq_true hy)) hpop hv hs2 h
        · rw [Bool.and_eq_true] at hi
          obtain ⟨hi1, hi2⟩ := hi
          obtain ⟨rfl, h0, h1, h2⟩ := of_decide_eq_true hi1
          exact zo_call hx hb hml hown hts hE hC hrm (Or.inr ⟨hd, h1, h2, by rw [h0]; rfl⟩) (zany hi2 (fun y hy => of_decide_eq_true hy)) hpop hv hs2 h
        · cases hi
      · exact h.elim
    · exact h.elim
  · split at h
    · rename_i n dp q sp r
      split at h
      · rename_i hq hr
        replace hi : (match (generalizing := false) i with | .invokestatic n => decide (ln = 3) && zacp.any (fun q => decide (q = (zown mi, n))) | _ => false) = true := hi
        split at hi
        · rw [Bool.and_eq_true] at hi
          obtain ⟨hi1, hi2⟩ := hi
          obtain rfl := of_decide_eq_true hi1
          exact zo_acopy (st := []) hx hb hml hown hts hE hRf hd (zany hi2 (fun y hy => of_decide_eq_true hy)) (Nat.eq_of_beq_eq_true hq) (Nat.eq_of_beq_eq_true hr) h.1.1 h.1.2.1 h.1.2.2 h.2
        · cases hi
      · exact h.elim
    · exact h.elim
  · split at h
    · replace hi : (match (generalizing := false) i with | .dup => decide (ln = 1) | _ => false) = true := hi
      split at hi
      · obtain rfl := of_decide_eq_true hi
        exact zo_dup hx hb hml hown hts hE hd h
      · cases hi
    · exact h.elim
  · split at h
    · replace hi : (match (generalizing := false) i with | .dup2 => decide (ln = 1) | _ => false) = true := hi
      split at hi
      · obtain rfl := of_decide_eq_true hi
        exact zo_dup2 hx hb hml hown hts hE hd h
      · cases hi
    · exact h.elim
  · split at h
    · replace hi : (match (generalizing := false) i with | .pop => decide (ln = 1) | _ => false) = true := hi
      split at hi
      · obtain rfl := of_decide_eq_true hi
        exact zo_pop hx hb hml hown hts hE hd h
      · cases hi
    · exact h.elim
  · replace hi : (match (generalizing := false) i with | .aconst_null => decide (ln = 1) | _ => false) = true := hi
    split at hi
    · obtain rfl := of_decide_eq_true hi
      exact zo_null hx hb hml hown hts hE hd h
    · cases hi
  · split at h
    · replace hi : (match (generalizing := false) i with | .ireturn => decide (ln = 1 ∧ zret mi = some .int) | _ => false) = true := hi
      split at hi
      · obtain ⟨rfl, h1⟩ := of_decide_eq_true hi
        intro H locs ls hL hst hM hh hP hS
        exact hRet (some (vI _)) pc ls H locs σ (Or.inr (Or.inl ⟨_, rfl, hd, Or.inl h1⟩)) h hM (fun v hv => by cases hv; exact hst _ List.mem_cons_self) hP hS
      · cases hi
    · exact h.elim
  · split at h
    · replace hi : (match (generalizing := false) i with | .ireturn => decide (ln = 1 ∧ zret mi = some .boolean) | _ => false) = true := hi
      split at hi
      · obtain ⟨rfl, h1⟩ := of_decide_eq_true hi
        intro H locs ls hL hst hM hh hP hS
        exact hRet (some (vI _)) pc ls H locs σ (Or.inr (Or.inl ⟨_, rfl, hd, Or.inr (Or.inl ⟨h1, h.1⟩)⟩)) h.2 hM (fun v hv => by cases hv; exact hst _ List.mem_cons_self) hP hS
      · cases hi
    · exact h.elim
  · split at h
    · replace hi : (match (generalizing := false) i with | .ireturn => decide (ln = 1 ∧ zret mi = some .byte) | _ => false) = true := hi
      split at hi
      · obtain ⟨rfl, h1⟩ := of_decide_eq_true hi
        intro H locs ls hL hst hM hh hP hS
        exact hRet (some (vI _)) pc ls H locs σ (Or.inr (Or.inl ⟨_, rfl, hd, Or.inr (Or.inr ⟨h1, h.1⟩)⟩)) h.2 hM (fun v hv => by cases hv; exact hst _ List.mem_cons_self) hP hS
      · cases hi
    · exact h.elim
  · split at h
    · replace hi : (match (generalizing := false) i with | .return_ => decide (ln = 1 ∧ zret mi = none) | _ => false) = true := hi
      split at hi
      · obtain ⟨rfl, h1⟩ := of_decide_eq_true hi
        intro H locs ls hL hst hM hh hP hS
        exact hRet none pc ls H locs σ (Or.inl ⟨rfl, hd, h1⟩) h hM (fun v hv => by cases hv) hP hS
      · cases hi
    · exact h.elim
  · replace hi : (match (generalizing := false) i with | .ldc n => decide (ln = 2 ∧ n = 112 ∧ zown mi = 5) | _ => false) = true := hi
    split at hi
    · obtain ⟨rfl, rfl, h1⟩ := of_decide_eq_true hi
      exact zo_ldcS hx hb hml hown hts hE hd h1 h
    · cases hi
  · split at h
    · replace hi : (match (generalizing := false) i with | .lreturn => decide (ln = 1 ∧ zret mi = some .long) | _ => false) = true := hi
      split at hi
      · obtain ⟨rfl, h1⟩ := of_decide_eq_true hi
        intro H locs ls hL hst hM hh hP hS
        exact hRet (some (vL _)) pc ls H locs σ (Or.inr (Or.inr (Or.inl ⟨_, rfl, hd, h1⟩))) h hM (fun v hv => by cases hv; exact hst _ List.mem_cons_self) hP hS
      · cases hi
    · exact h.elim
  · split at h
    · replace hi : (match (generalizing := false) i with | .areturn => decide (ln = 1 ∧ zret mi = some (.object "PaleFence$Sheet")) | _ => false) = true := hi
      split at hi
      · obtain ⟨rfl, h1⟩ := of_decide_eq_true hi
        intro H locs ls hL hst hM hh hP hS
        exact hRet (some (vR _)) pc ls H locs σ (Or.inr (Or.inr (Or.inr ⟨Or.inr ⟨_, rfl⟩, hd, h1⟩))) h hM (fun v hv => by cases hv; trivial) hP hS
      · cases hi
    · replace hi : (match (generalizing := false) i with | .areturn => decide (ln = 1 ∧ zret mi = some (.object "PaleFence$Sheet")) | _ => false) = true := hi
      split at hi
      · obtain ⟨rfl, h1⟩ := of_decide_eq_true hi
        intro H locs ls hL hst hM hh hP hS
        exact hRet (some vN) pc ls H locs σ (Or.inr (Or.inr (Or.inr ⟨Or.inl rfl, hd, h1⟩))) h hM (fun v hv => by cases hv; trivial) hP hS
      · cases hi
    · exact h.elim
  · split at h
    · rename_i i2 q r
      split at h
      · rename_i hcl
        obtain rfl := zcls_23 (Nat.eq_of_beq_eq_true hcl)
        replace hi : (match (generalizing := false) i with | .baload => decide (ln = 1) | _ => false) = true := hi
        split at hi
        · obtain rfl := of_decide_eq_true hi
          exact zo_baloadS hx hb hml hown hts hE hd h.1 h.2
        · cases hi
      · exact h.elim
    · exact h.elim
  · split at h
    · replace hi : (match (generalizing := false) i with | .tableswitch d lo hi offs => decide (lo = 0 ∧ hi = 33 ∧ (pc : Int) + d = (zswd : Int) ∧ offs.size = 34 ∧ mi = 138) && (List.range 34).all (fun j => decide ((pc : Int) + offs.getD j 0 = ((zswl.getD j 0 : Nat) : Int))) | _ => false) = true := hi
      split at hi
      · rw [Bool.and_eq_true] at hi
        obtain ⟨hi1, hi2⟩ := hi
        obtain ⟨rfl, rfl, h1, h2, -⟩ := of_decide_eq_true hi1
        exact zo_switch hx hb hml hown hts hE hd h1 h2 (fun j hj => of_decide_eq_true (List.all_eq_true.mp hi2 j (List.mem_range.mpr hj))) h
      · cases hi
    · exact h.elim
  · split at h
    · rename_i q r
      replace hi : (match (generalizing := false) i with | .getfield n => decide (ln = 3 ∧ n = a ∧ (a = 9 ∨ a = 15) ∧ zown mi = 7) | _ => false) = true := hi
      split at hi
      · obtain ⟨rfl, rfl, -, h1⟩ := of_decide_eq_true hi
        split at h
        · rename_i hcl
          obtain rfl := zcls_7 (Nat.eq_of_beq_eq_true hcl)
          exact zo_strVal hx hb hml hown hts hE hd h1 h
        · rename_i hcl
          obtain rfl := zcls_7 (Nat.eq_of_beq_eq_true hcl)
          exact zo_strCod hx hb hml hown hts hE hd h1 h
        · exact h.elim
      · cases hi
    · exact h.elim
  · split at h
    · rename_i i2 q r
      split at h
      · rename_i hcl
        obtain rfl := zcls_24 (Nat.eq_of_beq_eq_true hcl)
        replace hi : (match (generalizing := false) i with | .iaload => decide (ln = 1 ∧ mi = 138) | _ => false) = true := hi
        split at hi
        · obtain ⟨rfl, h1⟩ := of_decide_eq_true hi
          obtain ⟨g1, g2, g3⟩ := hScr h1
          rw [g3] at h
          exact zo_sload hx hb hml hown hts hE g1 hd h.1 h.2
        · cases hi
      · exact h.elim
    · exact h.elim
  · split at h
    · rename_i i2 q r
      split at h
      · rename_i hcl
        replace hi : (match (generalizing := false) i with | .aaload => decide (ln = 1) | _ => false) = true := hi
        split at hi
        · obtain rfl := of_decide_eq_true hi
          exact zo_aaload hx hb hml hown hts hE hd (Nat.eq_of_beq_eq_true hcl) h.1 h.2
        · cases hi
      · exact h.elim
    · exact h.elim
  · replace hi : (match (generalizing := false) i with | .getstatic n => decide (ln = 3 ∧ n = 38 ∧ zown mi = 7) | _ => false) = true := hi
    split at hi
    · obtain ⟨rfl, rfl, h1⟩ := of_decide_eq_true hi
      exact zo_getstatic hx hb hml hown hts hE hd h1 h
    · cases hi
  · split at h
    · rename_i q r
      split at h
      · rename_i hcl
        obtain rfl := zcls_24 (Nat.eq_of_beq_eq_true hcl)
        replace hi : (match (generalizing := false) i with | .arraylength => decide (ln = 1 ∧ mi = 138) | _ => false) = true := hi
        split at hi
        · obtain ⟨rfl, h1⟩ := of_decide_eq_true hi
          obtain ⟨g1, g2, g3⟩ := hScr h1
          exact zo_slen hx hb hml hown hts hE g1 g2 hd h
        · cases hi
      · exact h.elim
    · exact h.elim
  · split at h
    · rename_i y x r
      split at h
      · rename_i hs
        replace hi : (match (generalizing := false) i with | .invokestatic n => decide (ln = 3) && zmxl.any (fun q => decide (q = (zown mi, n))) | _ => false) = true := hi
        split at hi
        · rw [Bool.and_eq_true] at hi
          obtain ⟨hi1, hi2⟩ := hi
          obtain rfl := of_decide_eq_true hi1
          exact zo_mmax hx hb hml hown hts hE ⟨hRf.1, hRf.2, hrm.2.2.2.2.1, hrm.2.2.2.2.2⟩ hd (zany hi2 (fun y hy => of_decide_eq_true hy)) (Nat.le_of_ble_eq_true hs) h
        · cases hi
      · exact h.elim
    · exact h.elim
  · split at h
    · rename_i y x r
      split at h
      · rename_i hs
        replace hi : (match (generalizing := false) i with | .invokestatic n => decide (ln = 3) && zmnl.any (fun q => decide (q = (zown mi, n))) | _ => false) = true := hi
        split at hi
        · rw [Bool.and_eq_true] at hi
          obtain ⟨hi1, hi2⟩ := hi
          obtain rfl := of_decide_eq_true hi1
          exact zo_mmin hx hb hml hown hts hE ⟨hRf.1, hRf.2, hrm.2.2.2.2.1, hrm.2.2.2.2.2⟩ hd (zany hi2 (fun y hy => of_decide_eq_true hy)) (Nat.le_of_ble_eq_true hs) h
        · cases hi
      · exact h.elim
    · exact h.elim
  · exact h.elim
end ZS
end
section
/-! the small machine is the machine: calls -/
def zrm (d : Nat) : Room := { frames := d, cells := 0, slots := 0, locals := 40 * d }
theorem zlay_len {ad : Nat → Nat} : ∀ as : List zV, (lg_sl (as.map (zcv ad))).length = (zlay as).length
  | [] => rfl
  | v :: l => by
    have ih := zlay_len (ad := ad) l
    unfold lg_sl at ih ⊢
    rw [List.map_cons, List.flatMap_cons, List.length_append, ih]
    rcases v with x | x | k | b <;> simp [zcv, Value.category, zlay] <;> omega
theorem zlay_args {ad : Nat → Nat} : ∀ (as : List zV) (i : Nat), ∀ q ∈ zlc ad i (zlay as), q ∈ lv_args i (as.map (zcv ad))
  | [], i, q, h => by simp [zlay, zlc] at h
  | .inl x :: l, i, q, h => by
    rcases List.mem_cons.mp (show q ∈ (i, zcv ad (.inl x)) :: zlc ad (i + 1) (zlay l) from h) with rfl | h
    · exact List.mem_cons_self
    · exact List.mem_cons_of_mem _ (zlay_args l (i + 1) q h)
  | .inr (.inl x) :: l, i, q, h => by
    rcases List.mem_cons.mp (show q ∈ (i, zcv ad (.inr (.inl x))) :: zlc ad (i + 1 + 1) (zlay l) from h) with rfl | h
    · exact List.mem_cons_self
    · exact List.mem_cons_of_mem _ (zlay_args l (i + 2) q h)
  | .inr (.inr (.inl k)) :: l, i, q, h => by
    rcases List.mem_cons.mp (show q ∈ (i, zcv ad (.inr (.inr (.inl k)))) :: zlc ad (i + 1) (zlay l) from h) with rfl | h
    · exact List.mem_cons_self
    · exact List.mem_cons_of_mem _ (zlay_args l (i + 1) q h)
  | .inr (.inr (.inr true)) :: l, i, q, h => by
    rcases List.mem_cons.mp (show q ∈ (i, zcv ad vN) :: zlc ad (i + 1) (zlay l) from h) with rfl | h
    · exact List.mem_cons_self
    · exact List.mem_cons_of_mem _ (zlay_args l (i + 1) q h)
  | .inr (.inr (.inr false)) :: l, i, q, h => List.mem_cons_of_mem _ (zlay_args l (i + 1) q (show q ∈ zlc ad (i + 1) (zlay l) from h))
theorem zentry {ad : Nat → Nat} {as : List zV} {n : Nat} (h : (zlay as).length ≤ n) : lv_has ((lg_sl (as.map (zcv ad)) ++ List.replicate (n - (lg_sl (as.map (zcv ad))).length) Slot.unset).toArray) n (zlc ad 0 (zpad n (zlay as))) := by
  have h0 := lv_entry (as.map (zcv ad)) (n := n) (by rw [zlay_len]; exact h)
  refine ⟨h0.1, h0.2.1, fun q hq => h0.2.2 q ?_⟩
  obtain ⟨j, v, h1, h2, rfl⟩ := (zlc_mem _ 0 q).mp hq
  unfold zpad at h1
  rw [List.getElem?_append] at h1
  split at h1
  · exact zlay_args as 0 _ ((zlc_mem _ 0 _).mpr ⟨j, v, h1, h2, rfl⟩)
  · rw [List.getElem?_replicate] at h1
    split at h1
    · exact absurd (Option.some.inj h1).symm h2
    · cases h1
theorem zlay_ok : ∀ as : List zV, (∀ v ∈ as, zokV v) → ∀ w ∈ zlay as, zokV w
  | [], _, w, hw => by cases hw
  | .inl x :: l, h, w, hw => by
    rcases List.mem_cons.mp (show w ∈ .inl x :: zlay l from hw) with rfl | hw
    · exact h _ List.mem_cons_self
    · exact zlay_ok l (fun v hv => h v (List.mem_cons_of_mem _ hv)) w hw
  | .inr (.inl x) :: l, h, w, hw => by
    rcases List.mem_cons.mp (show w ∈ vL x :: vU :: zlay l from hw) with rfl | hw
    · exact h _ List.mem_cons_self
    · rcases List.mem_cons.mp hw with rfl | hw
      · trivial
      · exact zlay_ok l (fun v hv => h v (List.mem_cons_of_mem _ hv)) w hw
  | .inr (.inr (.inl k)) :: l, h, w, hw => by
    rcases List.mem_cons.mp (show w ∈ .inr (.inr (.inl k)) :: zlay l from hw) with rfl | hw
    · trivial
    · exact zlay_ok l (fun v hv => h v (List.mem_cons_of_mem _ hv)) w hw
  | .inr (.inr (.inr b)) :: l, h, w, hw => by
    rcases List.mem_cons.mp (show w ∈ .inr (.inr (.inr b)) :: zlay l from by cases b <;> exact hw) with rfl | hw
    · trivial
    · exact zlay_ok l (fun v hv => h v (List.mem_cons_of_mem _ hv)) w hw
theorem zpad_ok {n : Nat} {L : List zV} (h : ∀ w ∈ L, zokV w) : ∀ w ∈ zpad n L, zokV w := by
  intro w hw
  unfold zpad at hw
  rcases List.mem_append.mp hw with q | q
  · exact h w q
  · rw [(List.mem_replicate.mp q).2]; trivial
section ZM
variable {p : Program} {l : Launch} {e : Env} {R : Room} {s : State} {m : MethodId} {args : Array Value} {below : List Frame} {meth : Method} {c : Code} {cells slots : Nat} {Q : State → Prop} {D : va_G} {dA ad : Nat → Nat}
/-- what is proved of the small machine holds of the machine -/
theorem zG_W {d mi : Nat} (hmi : mi < 139) (hx : p.tables.exec = Jvm.exec) (hb : c.code = zb mi) (hml : c.maxLocals = zl mi) (hown : s.vm.findClass (zR (zown mi)) = some m.cls) (hts : ∀ w ∈ zGT, w.before args s = true) (hE : zEnv D dA ad s s.heap)
    {K : zM → Option zV → Prop} {sL : Nat} {xs : Nat → Int} {xt : Nat → Int32}
    (hC : ∀ (mi : Nat) (as : List zV) (σ : zM) (K : zM → Option zV → Prop), mi < 138 → zC d mi as σ K → zokM σ → (∀ v ∈ as, zokV v) → Met l (zy mi) (zws mi) (zrm d) (zPc D dA ad as σ) (zQc D dA ad K) 0 0 (zA ad)) (hrm : d + 1 ≤ R.frames ∧ 40 + 40 * d ≤ R.locals ∧ cells ≤ R.cells ∧ slots ≤ R.slots)
    (hRet : ∀ (r : Option zV) (pc : Nat) (ls : Array Slot) (H : Heap) (locs : List Loc) (σ : zM), zretOk mi pc r → K σ r → zokM σ → (∀ v, r = some v → zokV v) → va_P D vwCl (zwl dA ad σ) H → va_S (zA ad) s.heap H locs → W p l e R s m args below meth c H locs cells slots Q (F0 m pc ls ((r.map (zcv ad)).toList)))
    (hScr : mi = 138 → (va_X (ad 43) sL xt s s.heap ∧ ad 43 < s.heap.size ∧ ¬ zA ad (ad 43)) ∧ sL < 100000 ∧ ∀ j, xs j = (xt j).toInt)
    {S : zS} (h : zG d mi K sL xs S) : zWX p l e R s m args below meth c cells slots Q D dA ad (zl mi) S :=
  h _ (fun _ q => z_step hmi hx hb hml hown hts hE hC ⟨rfl, rfl, hrm.1, hrm.2.1, hrm.2.2.1, hrm.2.2.2⟩ hRet hScr q) (fun _ k q => zWX_cut k q)
end ZM
set_option maxHeartbeats 4000000 in
theorem z_sound (l : Launch) (D : va_G) (dA ad : Nat → Nat) : ∀ (d mi : Nat) (as : List zV) (σ : zM) (K : zM → Option zV → Prop), mi < 138 → zC d mi as σ K → zokM σ → (∀ v ∈ as, zokV v) → Met l (zy mi) (zws mi) (zrm d) (zPc D dA ad as σ) (zQc D dA ad K) 0 0 (zA ad)
  | 0, _, _, _, _, _, h, _, _ => h.elim
  | d + 1, mi, as, σ, K, hmi, h, hM, hok => by
    obtain ⟨w1, w2, w3, w4, w5, w6, w7, w8⟩ := zmok_to_138 mi hmi
    refine Met.ofW (cc := zb mi) (maxL := zl mi) (ret := zret mi) w3 rfl ?_
    intro p e s m args below meth c s₁ B hml hv
    obtain ⟨rfl, hP, hE⟩ := hv
    have hx := B.exec
    have hb := B.bytes
    have hr := B.returns
    have hts0 := atoms_spec (ws := zws mi) B.pre
    have hts : ∀ w ∈ zGT, w.before (as.map (zcv ad)).toArray s = true := fun w hw => hts0 w (List.mem_cons_of_mem _ hw)
    have hown : s.vm.findClass (zR (zown mi)) = some m.cls := by rw [← w4]; exact findClass_of_methodNamed B.named
    have hlocks := B.notSynchronized
    unfold zC at h
    cases hbl : Nat.ble (zlay as).length (zl mi) with
    | false => rw [hbl] at h; exact h.elim
    | true =>
    rw [hbl] at h
    have hlen : (zlay as).length ≤ zl mi := Nat.le_of_ble_eq_true hbl
    have hg : zG d mi K 0 zfx (0, zpad (zl mi) (zlay as), [], σ) := h
    have hw := zG_W (cells := 0) (slots := 0) (R := (headSpec (zws mi) (zrm (d + 1))).room) (Q := MQ below (zQc D dA ad K) (as.map (zcv ad)).toArray s 0 0 (zA ad)) (xt := fun _ => 0) (Nat.lt_succ_of_lt hmi) hx hb hml hown hts hE (z_sound l D dA ad d) ⟨Nat.le_refl _, by show 40 + 40 * d ≤ 40 * (d + 1); omega, Nat.zero_le _, Nat.zero_le _⟩ (below := below) (meth := meth) (e := e) (fun r pc ls H locs σ hre hK hM2 hv2 hP2 hS2 => ?_) (fun h => absurd h (by omega)) hg
    · rw [lg_entry_eq]
      exact hw s.heap [] _ (zpad_ok (zlay_ok as hok)) (fun v hv => by cases hv) hM (zentry hlen) hP va_S.rf
    · rcases hre with ⟨rfl, hd, ht⟩ | ⟨x, rfl, hd, ht⟩ | ⟨x, rfl, hd, ht⟩ | ⟨hrr, hd, ht⟩
      · exact W.vret hx hb (hr.trans ht) (fun t ht2 _ => ⟨⟨σ, none, rfl, hK, hM2, hv2, by rw [ht2]; exact hP2⟩, hS2.F ht2⟩) hS2.2.2 hd
      · rcases ht with ht | ⟨ht, h01⟩ | ⟨ht, rfl⟩
        · exact W.iret (v := Int32.ofInt x) hx hb (hr.trans ht) (fun t ht2 _ => ⟨⟨σ, some (vI x), rfl, hK, hM2, hv2, by rw [ht2]; exact hP2⟩, hS2.F ht2⟩) hS2.2.2 hd
        · exact W.zret (v := Int32.ofInt x) (ty := .boolean) hx hb (hr.trans ht) (by rcases h01 with rfl | rfl <;> rfl) (fun t ht2 _ => ⟨⟨σ, some (vI x), rfl, hK, hM2, hv2, by rw [ht2]; exact hP2⟩, hS2.F ht2⟩) hS2.2.2 hd
        · exact W.zret (v := Int32.ofInt 0) (ty := .byte) hx hb (hr.trans ht) rfl (fun t ht2 _ => ⟨⟨σ, some (vI 0), rfl, hK, hM2, hv2, by rw [ht2]; exact hP2⟩, hS2.F ht2⟩) hS2.2.2 hd
      · exact W.lret (v := Int64.ofInt x) hx hb (hr.trans ht) (fun t ht2 _ => ⟨⟨σ, some (vL x), rfl, hK, hM2, hv2, by rw [ht2]; exact hP2⟩, hS2.F ht2⟩) hS2.2.2 hd
      · rcases hrr with rfl | ⟨k, rfl⟩
        · exact W.aret (v := .null) (rt := .object "PaleFence$Sheet") hx hb (hr.trans ht) (Or.inl ⟨_, rfl⟩) (Or.inl rfl) (fun t ht2 _ => ⟨⟨σ, some vN, rfl, hK, hM2, hv2, by rw [ht2]; exact hP2⟩, hS2.F ht2⟩) hS2.2.2 hd
        · exact W.aret (v := .ref (ad k)) (rt := .object "PaleFence$Sheet") hx hb (hr.trans ht) (Or.inl ⟨_, rfl⟩) (Or.inr ⟨_, rfl⟩) (fun t ht2 _ => ⟨⟨σ, some (vR k), rfl, hK, hM2, hv2, by rw [ht2]; exact hP2⟩, hS2.F ht2⟩) hS2.2.2 hd
end
section
/-! rules for walks of the small machine -/
abbrev zK (mi pc : Nat) (e : zE) : Prop := Nat.blt pc (zN mi) = true ∧ zcode mi pc = e
theorem zmk1 {L : List zV} {a : Nat} {x : Int} {f : zV → Prop} (hL : L[a]? = some (.inl x)) (h : f (.inl x)) : zld L 1 a f := by
  unfold zld; rw [hL]; exact h
theorem zmk2 {L : List zV} {a q : Nat} {f : zV → Prop} (hL : L[a]? = some (vR q)) (h : f (vR q)) : zld L 2 a f := by
  unfold zld; rw [hL]; exact h
theorem zmk2N {L : List zV} {a : Nat} {f : zV → Prop} (hL : L[a]? = some vN) (h : f vN) : zld L 2 a f := by
  unfold zld; rw [hL]; exact h
theorem zmk3 {L : List zV} {a : Nat} {x : Int} {f : zV → Prop} (hL : L[a]? = some (vL x)) (h : f (vL x)) : zld L 3 a f := by
  unfold zld; rw [hL]; exact h
section RU
variable {d mi pc nxt a b : Nat} {z : Int} {K : zM → Option zV → Prop} {sL : Nat} {xs : Nat → Int} {L L' st r : List zV} {σ : zM}
theorem rg {e : zE} (hk : zK mi pc e) (h : zEx (zC d) K sL xs (zG d mi K sL xs) e L st σ) : zG d mi K sL xs (pc, L, st, σ) := by
  refine zG_fold ?_
  unfold zStep
  rw [hk.1]
  show zEx (zC d) K sL xs (zG d mi K sL xs) (zcode mi pc) L st σ
  rw [hk.2]
  exact h
theorem r_const (hk : zK mi pc (0, nxt, a, b, z)) (h : zG d mi K sL xs (nxt, L, vI z :: st, σ)) : zG d mi K sL xs (pc, L, st, σ) := rg hk h
theorem r_iload {x : Int} (hk : zK mi pc (1, nxt, a, b, z)) (hL : L[a]? = some (.inl x)) (h : zG d mi K sL xs (nxt, L, .inl x :: st, σ)) : zG d mi K sL xs (pc, L, st, σ) :=
  rg hk (show zld L 1 a (fun v => zG d mi K sL xs (nxt, L, v :: st, σ)) from zmk1 hL h)
theorem r_aload {q : Nat} (hk : zK mi pc (2, nxt, a, b, z)) (hL : L[a]? = some (vR q)) (h : zG d mi K sL xs (nxt, L, vR q :: st, σ)) : zG d mi K sL xs (pc, L, st, σ) :=
  rg hk (show zld L 2 a (fun v => zG d mi K sL xs (nxt, L, v :: st, σ)) from zmk2 hL h)
theorem r_aloadN (hk : zK mi pc (2, nxt, a, b, z)) (hL : L[a]? = some vN) (h : zG d mi K sL xs (nxt, L, vN :: st, σ)) : zG d mi K sL xs (pc, L, st, σ) :=
  rg hk (show zld L 2 a (fun v => zG d mi K sL xs (nxt, L, v :: st, σ)) from zmk2N hL h)
theorem r_lload {x : Int} (hk : zK mi pc (3, nxt, a, b, z)) (hL : L[a]? = some (vL x)) (h : zG d mi K sL xs (nxt, L, vL x :: st, σ)) : zG d mi K sL xs (pc, L, st, σ) :=
  rg hk (show zld L 3 a (fun v => zG d mi K sL xs (nxt, L, v :: st, σ)) from zmk3 hL h)
theorem r_istore {x : Int} (hk : zK mi pc (4, nxt, a, b, z)) (hL : zst1 a (.inl x) L = L') (h : zG d mi K sL xs (nxt, L', r, σ)) : zG d mi K sL xs (pc, L, .inl x :: r, σ) := by
  subst hL; exact rg hk h
theorem r_astore {q : Nat} (hk : zK mi pc (5, nxt, a, b, z)) (hL : zst1 a (vR q) L = L') (h : zG d mi K sL xs (nxt, L', r, σ)) : zG d mi K sL xs (pc, L, vR q :: r, σ) := by
  subst hL; exact rg hk h
theorem r_astoreN (hk : zK mi pc (5, nxt, a, b, z)) (hL : zst1 a vN L = L') (h : zG d mi K sL xs (nxt, L', r, σ)) : zG d mi K sL xs (pc, L, vN :: r, σ) := by
  subst hL; exact rg hk h
theorem r_lstore {x : Int} (hk : zK mi pc (6, nxt, a, b, z)) (hL : zst2 a (vL x) L = L') (h : zG d mi K sL xs (nxt, L', r, σ)) : zG d mi K sL xs (pc, L, vL x :: r, σ) := by
  subst hL; exact rg hk h
theorem r_iinc {x v : Int} (hk : zK mi pc (7, nxt, a, b, z)) (hx : L[a]? = some (.inl x)) (hv : zbin 0 x z = v) (hL : zst1 a (.inl v) L = L') (h : zG d mi K sL xs (nxt, L', st, σ)) : zG d mi K sL xs (pc, L, st, σ) := by
  subst hv; subst hL
  exact rg hk (show zld L 1 a (fun v => (match v with | .inl x => zG d mi K sL xs (nxt, zst1 a (.inl (zbin 0 x z)) L, st, σ) | _ => False)) from zmk1 hx h)
theorem r_bin {x y v : Int} (hk : zK mi pc (8, nxt, a, b, z)) (hv : zbin a x y = v) (h : zG d mi K sL xs (nxt, L, vI v :: r, σ)) : zG d mi K sL xs (pc, L, .inl y :: .inl x :: r, σ) := by
  subst hv; exact rg hk h
theorem r_div {x y v : Int} (hk : zK mi pc (9, nxt, a, b, z)) (hy : ¬ y = 0) (hv : zdiv x y = v) (h : zG d mi K sL xs (nxt, L, vI v :: r, σ)) : zG d mi K sL xs (pc, L, .inl y :: .inl x :: r, σ) := by
  subst hv; exact rg hk ⟨hy, h⟩
theorem r_rem {x y v : Int} (hk : zK mi pc (10, nxt, a, b, z)) (hy : ¬ y = 0) (hv : zrem x y = v) (h : zG d mi K sL xs (nxt, L, vI v :: r, σ)) : zG d mi K sL xs (pc, L, .inl y :: .inl x :: r, σ) := by
  subst hv; exact rg hk ⟨hy, h⟩
theorem r_lbin {x y v : Int} (hk : zK mi pc (11, nxt, a, b, z)) (hv : zlbin a x y = v) (h : zG d mi K sL xs (nxt, L, vL v :: r, σ)) : zG d mi K sL xs (pc, L, vL y :: vL x :: r, σ) := by
  subst hv; exact rg hk h
theorem r_lsh {x y v : Int} (hk : zK mi pc (12, nxt, a, b, z)) (hv : zlsh a x y = v) (h : zG d mi K sL xs (nxt, L, vL v :: r, σ)) : zG d mi K sL xs (pc, L, .inl y :: vL x :: r, σ) := by
  subst hv; exact rg hk h
theorem r_cnv {v w : zV} (hk : zK mi pc (13, nxt, a, b, z)) (hw : zcnv a v = some w) (h : zG d mi K sL xs (nxt, L, w :: r, σ)) : zG d mi K sL xs (pc, L, v :: r, σ) :=
  rg hk (show (match zcnv a v with | some w => zG d mi K sL xs (nxt, L, w :: r, σ) | none => False) by rw [hw]; exact h)
theorem r_lcmp {x y v : Int} (hk : zK mi pc (14, nxt, a, b, z)) (hv : zcmp x y = v) (h : zG d mi K sL xs (nxt, L, vI v :: r, σ)) : zG d mi K sL xs (pc, L, vL y :: vL x :: r, σ) := by
  subst hv; exact rg hk h
theorem r_lconst (hk : zK mi pc (15, nxt, a, b, z)) (h : zG d mi K sL xs (nxt, L, vL z :: st, σ)) : zG d mi K sL xs (pc, L, st, σ) := rg hk h
theorem r_if_eq {x : Int} (hk : zK mi pc (16, nxt, 0, b, z)) (h1 : x = 0 → zG d mi K sL xs (b, L, r, σ)) (h2 : ¬ x = 0 → zG d mi K sL xs (nxt, L, r, σ)) : zG d mi K sL xs (pc, L, .inl x :: r, σ) := rg hk ⟨h1, h2⟩
theorem r_if_ne {x : Int} (hk : zK mi pc (16, nxt, 1, b, z)) (h1 : ¬ x = 0 → zG d mi K sL xs (b, L, r, σ)) (h2 : x = 0 → zG d mi K sL xs (nxt, L, r, σ)) : zG d mi K sL xs (pc, L, .inl x :: r, σ) := rg hk ⟨h1, fun q => h2 (Decidable.of_not_not q)⟩
theorem r_if_lt {x : Int} (hk : zK mi pc (16, nxt, 2, b, z)) (h1 : x < 0 → zG d mi K sL xs (b, L, r, σ)) (h2 : 0 ≤ x → zG d mi K sL xs (nxt, L, r, σ)) : zG d mi K sL xs (pc, L, .inl x :: r, σ) := rg hk ⟨h1, fun q => h2 (Int.not_lt.mp q)⟩
theorem r_if_ge {x : Int} (hk : zK mi pc (16, nxt, 3, b, z)) (h1 : 0 ≤ x → zG d mi K sL xs (b, L, r, σ)) (h2 : x < 0 → zG d mi K sL xs (nxt, L, r, σ)) : zG d mi K sL xs (pc, L, .inl x :: r, σ) := rg hk ⟨h1, fun q => h2 (Int.not_le.mp q)⟩
theorem r_if_gt {x : Int} (hk : zK mi pc (16, nxt, 4, b, z)) (h1 : 0 < x → zG d mi K sL xs (b, L, r, σ)) (h2 : x ≤ 0 → zG d mi K sL xs (nxt, L, r, σ)) : zG d mi K sL xs (pc, L, .inl x :: r, σ) := rg hk ⟨h1, fun q => h2 (Int.not_lt.mp q)⟩
theorem r_if_le {x : Int} (hk : zK mi pc (16, nxt, 5, b, z)) (h1 : x ≤ 0 → zG d mi K sL xs (b, L, r, σ)) (h2 : 0 < x → zG d mi K sL xs (nxt, L, r, σ)) : zG d mi K sL xs (pc, L, .inl x :: r, σ) := rg hk ⟨h1, fun q => h2 (Int.not_le.mp q)⟩
theorem r_ic_eq {x y : Int} (hk : zK mi pc (17, nxt, 0, b, z)) (h1 : x = y → zG d mi K sL xs (b, L, r, σ)) (h2 : ¬ x = y → zG d mi K sL xs (nxt, L, r, σ)) : zG d mi K sL xs (pc, L, .inl y :: .inl x :: r, σ) := rg hk ⟨h1, h2⟩
theorem r_ic_ne {x y : Int} (hk : zK mi pc (17, nxt, 1, b, z)) (h1 : ¬ x = y → zG d mi K sL xs (b, L, r, σ)) (h2 : x = y → zG d mi K sL xs (nxt, L, r, σ)) : zG d mi K sL xs (pc, L, .inl y :: .inl x :: r, σ) := rg hk ⟨h1, fun q => h2 (Decidable.of_not_not q)⟩
theorem r_ic_lt {x y : Int} (hk : zK mi pc (17, nxt, 2, b, z)) (h1 : x < y → zG d mi K sL xs (b, L, r, σ)) (h2 : y ≤ x → zG d mi K sL xs (nxt, L, r, σ)) : zG d mi K sL xs (pc, L, .inl y :: .inl x :: r, σ) := rg hk ⟨h1, fun q => h2 (Int.not_lt.mp q)⟩
theorem r_ic_ge {x y : Int} (hk : zK mi pc (17, nxt, 3, b, z)) (h1 : y ≤ x → zG d mi K sL xs (b, L, r, σ)) (h2 : x < y → zG d mi K sL xs (nxt, L, r, σ)) : zG d mi K sL xs (pc, L, .inl y :: .inl x :: r, σ) := rg hk ⟨h1, fun q => h2 (Int.not_le.mp q)⟩
theorem r_ic_gt {x y : Int} (hk : zK mi pc (17, nxt, 4, b, z)) (h1 : y < x → zG d mi K sL xs (b, L, r, σ)) (h2 : x ≤ y → zG d mi K sL xs (nxt, L, r, σ)) : zG d mi K sL xs (pc, L, .inl y :: .inl x :: r, σ) := rg hk ⟨h1, fun q => h2 (Int.not_lt.mp q)⟩
theorem r_ic_le {x y : Int} (hk : zK mi pc (17, nxt, 5, b, z)) (h1 : x ≤ y → zG d mi K sL xs (b, L, r, σ)) (h2 : y < x → zG d mi K sL xs (nxt, L, r, σ)) : zG d mi K sL xs (pc, L, .inl y :: .inl x :: r, σ) := rg hk ⟨h1, fun q => h2 (Int.not_le.mp q)⟩
theorem r_null {q : Nat} (hk : zK mi pc (18, nxt, 0, b, z)) (h : zG d mi K sL xs (nxt, L, r, σ)) : zG d mi K sL xs (pc, L, vR q :: r, σ) := rg hk h
theorem r_nullN (hk : zK mi pc (18, nxt, 0, b, z)) (h : zG d mi K sL xs (b, L, r, σ)) : zG d mi K sL xs (pc, L, vN :: r, σ) := rg hk h
theorem r_nonnull {q : Nat} (hk : zK mi pc (18, nxt, 1, b, z)) (h : zG d mi K sL xs (b, L, r, σ)) : zG d mi K sL xs (pc, L, vR q :: r, σ) := rg hk h
theorem r_nonnullN (hk : zK mi pc (18, nxt, 1, b, z)) (h : zG d mi K sL xs (nxt, L, r, σ)) : zG d mi K sL xs (pc, L, vN :: r, σ) := rg hk h
theorem r_goto (hk : zK mi pc (19, nxt, a, b, z)) (h : zG d mi K sL xs (b, L, st, σ)) : zG d mi K sL xs (pc, L, st, σ) := rg hk h
theorem r_getS {p n : Nat} {v : Int} (hk : zK mi pc (20, nxt, a, b, z)) (hp : zcls p = a ∧ zfv p b = .inl n) (hv : σ.1 n = v) (h : zG d mi K sL xs (nxt, L, vI v :: r, σ)) : zG d mi K sL xs (pc, L, vR p :: r, σ) := by
  subst hv
  refine rg hk (show (match Nat.beq (zcls p) a, zfv p b with | true, .inl n => zG d mi K sL xs (nxt, L, vI (σ.1 n) :: r, σ) | true, .inr q => zG d mi K sL xs (nxt, L, vR q :: r, σ) | _, _ => False) from ?_)
  rw [hp.1, hp.2, Nat.beq_refl]; exact h
theorem r_getR {p q : Nat} (hk : zK mi pc (20, nxt, a, b, z)) (hp : zcls p = a ∧ zfv p b = .inr q) (h : zG d mi K sL xs (nxt, L, vR q :: r, σ)) : zG d mi K sL xs (pc, L, vR p :: r, σ) := by
  refine rg hk (show (match Nat.beq (zcls p) a, zfv p b with | true, .inl n => zG d mi K sL xs (nxt, L, vI (σ.1 n) :: r, σ) | true, .inr q => zG d mi K sL xs (nxt, L, vR q :: r, σ) | _, _ => False) from ?_)
  rw [hp.1, hp.2, Nat.beq_refl]; exact h
theorem r_putS {p n : Nat} {x : Int} (hk : zK mi pc (21, nxt, a, b, z)) (hp : zcls p = a ∧ zfv p b = .inl n) (h : zG d mi K sL xs (nxt, L, r, zsetS σ n x)) : zG d mi K sL xs (pc, L, .inl x :: vR p :: r, σ) := by
  refine rg hk (show (match Nat.beq (zcls p) a, zfv p b with | true, .inl n => zG d mi K sL xs (nxt, L, r, zsetS σ n x) | _, _ => False) from ?_)
  rw [hp.1, hp.2, Nat.beq_refl]; exact h
theorem r_putZ {p n : Nat} {x : Int} (hk : zK mi pc (22, nxt, a, b, z)) (hp : zcls p = a ∧ zfv p b = .inl n) (hx : x = 0 ∨ x = 1) (h : zG d mi K sL xs (nxt, L, r, zsetS σ n x)) : zG d mi K sL xs (pc, L, .inl x :: vR p :: r, σ) := by
  refine rg hk (show (match Nat.beq (zcls p) a, zfv p b with | true, .inl n => (x = 0 ∨ x = 1) ∧ zG d mi K sL xs (nxt, L, r, zsetS σ n x) | _, _ => False) from ?_)
  rw [hp.1, hp.2, Nat.beq_refl]; exact ⟨hx, h⟩
theorem r_iald {p n g : Nat} {i v : Int} (hk : zK mi pc (23, nxt, a, b, z)) (hp : zcls p = 20 ∧ zarr p = (n, g)) (hi : 0 ≤ i ∧ i < n) (hv : σ.2 g i.toNat = v) (h : zG d mi K sL xs (nxt, L, vI v :: r, σ)) : zG d mi K sL xs (pc, L, .inl i :: vR p :: r, σ) := by
  subst hv
  refine rg hk (show (match Nat.beq (zcls p) 20, zarr p with | true, (n, g) => (0 ≤ i ∧ i < n) ∧ zG d mi K sL xs (nxt, L, vI (σ.2 g i.toNat) :: r, σ) | _, _ => False) from ?_)
  rw [hp.1, hp.2]; exact ⟨hi, h⟩
theorem r_iast {p n g : Nat} {i x : Int} (hk : zK mi pc (24, nxt, a, b, z)) (hp : zcls p = 20 ∧ zarr p = (n, g)) (hi : 0 ≤ i ∧ i < n) (h : zG d mi K sL xs (nxt, L, r, zsetA σ g (zup (σ.2 g) i.toNat x))) : zG d mi K sL xs (pc, L, .inl x :: .inl i :: vR p :: r, σ) := by
  refine rg hk (show (match Nat.beq (zcls p) 20, zarr p with | true, (n, g) => (0 ≤ i ∧ i < n) ∧ zG d mi K sL xs (nxt, L, r, zsetA σ g (zup (σ.2 g) i.toNat x)) | _, _ => False) from ?_)
  rw [hp.1, hp.2]; exact ⟨hi, h⟩
theorem r_bald {p n g : Nat} {i v : Int} (hk : zK mi pc (25, nxt, a, b, z)) (hp : zcls p = 21 ∧ zarr p = (n, g)) (hi : 0 ≤ i ∧ i < n) (hv : σ.2 g i.toNat = v) (h : zG d mi K sL xs (nxt, L, vI v :: r, σ)) : zG d mi K sL xs (pc, L, .inl i :: vR p :: r, σ) := by
  subst hv
  refine rg hk (show (match Nat.beq (zcls p) 21, zarr p with | true, (n, g) => (0 ≤ i ∧ i < n) ∧ zG d mi K sL xs (nxt, L, vI (σ.2 g i.toNat) :: r, σ) | _, _ => False) from ?_)
  rw [hp.1, hp.2]; exact ⟨hi, h⟩
theorem r_bast {p n g : Nat} {i x v : Int} (hk : zK mi pc (26, nxt, a, b, z)) (hp : zcls p = 21 ∧ zarr p = (n, g)) (hi : 0 ≤ i ∧ i < n) (hv : zbin 3 x 1 = v) (h : zG d mi K sL xs (nxt, L, r, zsetA σ g (zup (σ.2 g) i.toNat v))) : zG d mi K sL xs (pc, L, .inl x :: .inl i :: vR p :: r, σ) := by
  subst hv
  refine rg hk (show (match Nat.beq (zcls p) 21, zarr p with | true, (n, g) => (0 ≤ i ∧ i < n) ∧ zG d mi K sL xs (nxt, L, r, zsetA σ g (zup (σ.2 g) i.toNat (zbin 3 x 1))) | _, _ => False) from ?_)
  rw [hp.1, hp.2]; exact ⟨hi, h⟩
theorem r_alen {p n g : Nat} (hk : zK mi pc (27, nxt, a, b, z)) (hp : zcls p = 20 ∧ zarr p = (n, g)) (h : zG d mi K sL xs (nxt, L, vI (n : Int) :: r, σ)) : zG d mi K sL xs (pc, L, vR p :: r, σ) := by
  refine rg hk (show (match zcls p with | 20 => zG d mi K sL xs (nxt, L, vI (zarr p).1 :: r, σ) | 22 => zG d mi K sL xs (nxt, L, vI 4 :: r, σ) | 23 => zG d mi K sL xs (nxt, L, vI 4 :: r, σ) | _ => False) from ?_)
  rw [hp.1, hp.2]; exact h
theorem r_alen4 (p : Nat) (hk : zK mi pc (27, nxt, a, b, z)) (hp : zcls p = 22 ∨ zcls p = 23) (h : zG d mi K sL xs (nxt, L, vI 4 :: r, σ)) : zG d mi K sL xs (pc, L, vR p :: r, σ) := by
  refine rg hk (show (match zcls p with | 20 => zG d mi K sL xs (nxt, L, vI (zarr p).1 :: r, σ) | 22 => zG d mi K sL xs (nxt, L, vI 4 :: r, σ) | 23 => zG d mi K sL xs (nxt, L, vI 4 :: r, σ) | _ => False) from ?_)
  rcases hp with hp | hp <;> rw [hp] <;> exact h
theorem r_call {as : List zV} (hk : zK mi pc (28, nxt, a, b, z)) (hp : zpop b [] st = some (as, r)) (hv : zrcv a as = true) (hs : Nat.ble (zcsum r) 8 = true) (h : zC d a as σ (fun σ' v => zG d mi K sL xs (nxt, L, v.toList ++ r, σ'))) : zG d mi K sL xs (pc, L, st, σ) := by
  refine rg hk (show (match zpop b [] st with
        | some (as, r) => (match zrcv a as, Nat.ble (zcsum r) 8 with | true, true => zC d a as σ fun σ' v => zG d mi K sL xs (nxt, L, v.toList ++ r, σ') | _, _ => False)
        | none => False) from ?_)
  rw [hp]
  show (match zrcv a as, Nat.ble (zcsum r) 8 with | true, true => zC d a as σ fun σ' v => zG d mi K sL xs (nxt, L, v.toList ++ r, σ') | _, _ => False)
  rw [hv, hs]
  exact h
theorem r_acopy {p q np gp nq gq : Nat} {n dp sp : Int} (hk : zK mi pc (29, nxt, a, b, z)) (hp : zcls p = 20 ∧ zarr p = (np, gp)) (hq : zcls q = 20 ∧ zarr q = (nq, gq)) (h1 : 0 ≤ sp ∧ 0 ≤ dp ∧ 0 ≤ n) (h2 : sp + n ≤ nq ∧ dp + n ≤ np) (h : zG d mi K sL xs (nxt, L, [], zsetA σ gp (zcpy (σ.2 gq) (σ.2 gp) sp.toNat dp.toNat n.toNat))) : zG d mi K sL xs (pc, L, [.inl n, .inl dp, vR p, .inl sp, vR q], σ) := by
  refine rg hk (show (match Nat.beq (zcls p) 20, Nat.beq (zcls q) 20 with
          | true, true => ((0 ≤ sp ∧ 0 ≤ dp ∧ 0 ≤ n) ∧ sp + n ≤ (zarr q).1 ∧ dp + n ≤ (zarr p).1) ∧ zG d mi K sL xs (nxt, L, [], zsetA σ (zarr p).2 (zcpy (σ.2 (zarr q).2) (σ.2 (zarr p).2) sp.toNat dp.toNat n.toNat))
          | _, _ => False) from ?_)
  rw [hp.1, hq.1, hp.2, hq.2]; exact ⟨⟨h1, h2⟩, h⟩
theorem r_dup {q : Nat} (hk : zK mi pc (30, nxt, a, b, z)) (h : zG d mi K sL xs (nxt, L, vR q :: vR q :: r, σ)) : zG d mi K sL xs (pc, L, vR q :: r, σ) := rg hk h
theorem r_dup2 {q : Nat} {i : Int} (hk : zK mi pc (31, nxt, a, b, z)) (h : zG d mi K sL xs (nxt, L, .inl i :: vR q :: .inl i :: vR q :: r, σ)) : zG d mi K sL xs (pc, L, .inl i :: vR q :: r, σ) := rg hk h
theorem r_pop {x : Int} (hk : zK mi pc (32, nxt, a, b, z)) (h : zG d mi K sL xs (nxt, L, r, σ)) : zG d mi K sL xs (pc, L, .inl x :: r, σ) := rg hk h
theorem r_anull (hk : zK mi pc (33, nxt, a, b, z)) (h : zG d mi K sL xs (nxt, L, vN :: st, σ)) : zG d mi K sL xs (pc, L, st, σ) := rg hk h
theorem r_iret {x : Int} (hk : zK mi pc (34, nxt, a, b, z)) (h : K σ (some (vI x))) : zG d mi K sL xs (pc, L, [.inl x], σ) := rg hk h
theorem r_zret {x : Int} (hk : zK mi pc (35, nxt, a, b, z)) (hx : x = 0 ∨ x = 1) (h : K σ (some (vI x))) : zG d mi K sL xs (pc, L, [.inl x], σ) := rg hk ⟨hx, h⟩
theorem r_bret {x : Int} (hk : zK mi pc (36, nxt, a, b, z)) (hx : x = 0) (h : K σ (some (vI x))) : zG d mi K sL xs (pc, L, [.inl x], σ) := rg hk ⟨hx, h⟩
theorem r_vret (hk : zK mi pc (37, nxt, a, b, z)) (h : K σ none) : zG d mi K sL xs (pc, L, [], σ) := rg hk h
theorem r_str (hk : zK mi pc (38, nxt, a, b, z)) (h : zG d mi K sL xs (nxt, L, vR 41 :: st, σ)) : zG d mi K sL xs (pc, L, st, σ) := rg hk h
theorem r_lret {x : Int} (hk : zK mi pc (39, nxt, a, b, z)) (h : K σ (some (vL x))) : zG d mi K sL xs (pc, L, [vL x], σ) := rg hk h
theorem r_aret {q : Nat} (hk : zK mi pc (40, nxt, a, b, z)) (h : K σ (some (vR q))) : zG d mi K sL xs (pc, L, [vR q], σ) := rg hk h
theorem r_aretN (hk : zK mi pc (40, nxt, a, b, z)) (h : K σ (some vN)) : zG d mi K sL xs (pc, L, [vN], σ) := rg hk h
theorem r_sbyte {i v : Int} (hk : zK mi pc (41, nxt, a, b, z)) (hi : 0 ≤ i ∧ i < 4) (hv : zbyt i.toNat = v) (h : zG d mi K sL xs (nxt, L, vI v :: r, σ)) : zG d mi K sL xs (pc, L, .inl i :: vR 42 :: r, σ) := by
  subst hv; exact rg hk (show (0 ≤ i ∧ i < 4) ∧ _ from ⟨hi, h⟩)
theorem r_switch {x : Int} {t : Nat} (hk : zK mi pc (42, nxt, a, b, z)) (ht : zswt x = t) (h : zG d mi K sL xs (t, L, r, σ)) : zG d mi K sL xs (pc, L, .inl x :: r, σ) := by
  subst ht; exact rg hk h
theorem r_sval (hk : zK mi pc (43, nxt, 9, b, z)) (h : zG d mi K sL xs (nxt, L, vR 42 :: r, σ)) : zG d mi K sL xs (pc, L, vR 41 :: r, σ) := rg hk h
theorem r_scod (hk : zK mi pc (43, nxt, 15, b, z)) (h : zG d mi K sL xs (nxt, L, vI 0 :: r, σ)) : zG d mi K sL xs (pc, L, vR 41 :: r, σ) := rg hk h
theorem r_scr {i : Int} (hk : zK mi pc (44, nxt, a, b, z)) (hi : 0 ≤ i ∧ i < sL) (h : zG d mi K sL xs (nxt, L, vI (xs i.toNat) :: r, σ)) : zG d mi K sL xs (pc, L, .inl i :: vR 43 :: r, σ) := rg hk (show (0 ≤ i ∧ i < sL) ∧ _ from ⟨hi, h⟩)
theorem r_page {i : Int} (hk : zK mi pc (45, nxt, a, b, z)) (hi : 0 ≤ i ∧ i < 4) (h : zG d mi K sL xs (nxt, L, vR (zshp i.toNat) :: r, σ)) : zG d mi K sL xs (pc, L, .inl i :: vR 13 :: r, σ) := rg hk (show (0 ≤ i ∧ i < 4) ∧ _ from ⟨hi, h⟩)
theorem r_cs (hk : zK mi pc (46, nxt, a, b, z)) (h : zG d mi K sL xs (nxt, L, vI 1 :: st, σ)) : zG d mi K sL xs (pc, L, st, σ) := rg hk h
theorem r_slen (hk : zK mi pc (47, nxt, a, b, z)) (h : zG d mi K sL xs (nxt, L, vI sL :: r, σ)) : zG d mi K sL xs (pc, L, vR 43 :: r, σ) := rg hk h
theorem r_max {x y v : Int} (hk : zK mi pc (48, nxt, a, b, z)) (hs : Nat.ble (zcsum r) 20 = true) (hv : (if x < y then y else x) = v) (h : zG d mi K sL xs (nxt, L, vI v :: r, σ)) : zG d mi K sL xs (pc, L, .inl y :: .inl x :: r, σ) := by
  subst hv
  refine rg hk (show (match Nat.ble (zcsum r) 20 with | true => zG d mi K sL xs (nxt, L, vI (if x < y then y else x) :: r, σ) | false => False) from ?_)
  rw [hs]; exact h
theorem r_min {x y v : Int} (hk : zK mi pc (49, nxt, a, b, z)) (hs : Nat.ble (zcsum r) 20 = true) (hv : (if y < x then y else x) = v) (h : zG d mi K sL xs (nxt, L, vI v :: r, σ)) : zG d mi K sL xs (pc, L, .inl y :: .inl x :: r, σ) := by
  subst hv
  refine rg hk (show (match Nat.ble (zcsum r) 20 with | true => zG d mi K sL xs (nxt, L, vI (if y < x then y else x) :: r, σ) | false => False) from ?_)
  rw [hs]; exact h
theorem r_cut (k : Nat) (hL : zcut k L = L') (h : zG d mi K sL xs (pc, L', st, σ)) : zG d mi K sL xs (pc, L, st, σ) := zG_cut k (by show zG d mi K sL xs (pc, zcut k L, st, σ); rw [hL]; exact h)
theorem r_at {τ : zM} (e : σ = τ) (h : zG d mi K sL xs (pc, L, st, τ)) : zG d mi K sL xs (pc, L, st, σ) := e ▸ h
end RU
/-! numbers -/
theorem zb_add {x y : Int} (h : zi32 (x + y)) : zbin 0 x y = x + y := by
  show (Int32.ofInt x + Int32.ofInt y).toInt = _
  rw [← Int32.ofInt_add, zto32 h]
theorem zb_sub {x y : Int} (h : zi32 (x - y)) : zbin 1 x y = x - y := by
  show (Int32.ofInt x - Int32.ofInt y).toInt = _
  rw [← Int32.ofInt_sub, zto32 h]
theorem zb_mul {x y : Int} (h : zi32 (x * y)) : zbin 2 x y = x * y := by
  show (Int32.ofInt x * Int32.ofInt y).toInt = _
  rw [← Int32.ofInt_mul, zto32 h]
theorem zl_add {x y : Int} (h : zi64 (x + y)) : zlbin 0 x y = x + y := by
  show (Int64.ofInt x + Int64.ofInt y).toInt = _
  rw [← Int64.ofInt_add, zto64 h]
theorem zl_mul {x y : Int} (h : zi64 (x * y)) : zlbin 1 x y = x * y := by
  show (Int64.ofInt x * Int64.ofInt y).toInt = _
  rw [← Int64.ofInt_mul, zto64 h]
theorem zd_div {x y : Int} (hx : 0 ≤ x) (hx2 : zi32 x) (hy : 0 < y) (hy2 : zi32 y) : zdiv x y = x / y := by
  show (Int32.ofInt x / Int32.ofInt y).toInt = _
  rw [Int32.toInt_div_of_ne_left, zto32 hx2, zto32 hy2, Int.tdiv_eq_ediv_of_nonneg hx]
  intro q
  have := congrArg Int32.toInt q
  rw [zto32 hx2] at this
  rw [this] at hx
  exact absurd hx (by decide)
theorem zd_rem {x y : Int} (hx : 0 ≤ x) (hx2 : zi32 x) (hy : 0 < y) (hy2 : zi32 y) : zrem x y = x % y := by
  show (Int32.ofInt x - Int32.ofInt x / Int32.ofInt y * Int32.ofInt y).toInt = _
  have e : Int32.ofInt x / Int32.ofInt y = Int32.ofInt (x / y) := by
    rw [← Int32.toInt_inj]
    have h1 := zd_div hx hx2 hy hy2
    unfold zdiv at h1
    have h2 : x / y ≤ x := Int.ediv_le_self _ hx
    have h3 : 0 ≤ x / y := Int.ediv_nonneg hx (Int.le_of_lt hy)
    rw [h1, zto32 ⟨by omega, by have := hx2.2; omega⟩]
  have h5 : 0 ≤ x % y := Int.emod_nonneg _ (by omega)
  have h6 : x % y < y := Int.emod_lt_of_pos _ hy
  rw [e, ← Int32.ofInt_mul, ← Int32.ofInt_sub, show x - x / y * y = x % y by rw [Int.emod_def, Int.mul_comm y], zto32 ⟨by omega, by have := hy2.2; omega⟩]
end
section
theorem zz_nothing : True := trivial
end
