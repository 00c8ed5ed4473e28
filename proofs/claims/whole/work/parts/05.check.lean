/-! the tables hold of the class files: every entry of zcode is the instruction that stands there; every word is among the tables' words -/
def zRetOk (mi : Nat) (ty : FieldType) : Bool := decide (zret mi = some ty)
def zchi (mi pc : Nat) (i : Instr) (ln : Nat) (e : zE) : Bool := match e with
  | (op, nxt, a, b, z) => Nat.beq nxt (pc + ln) && (match op with
    | 0 => (match i with | .iconst n => decide (ln = 1 ∧ n = z ∧ -1 ≤ z ∧ z ≤ 5) | .bipush n => decide (ln = 2 ∧ n = z ∧ -128 ≤ z ∧ z < 128) | .sipush n => decide (ln = 3 ∧ n = z ∧ -32768 ≤ z ∧ z < 32768) | .ldc n => decide (ln = 2 ∧ n = a ∧ (zown mi, a, z) ∈ zcst) | .ldc_w n => decide (ln = 3 ∧ n = a ∧ (zown mi, a, z) ∈ zcst) | _ => false)
    | 1 => (match i with | .iload_n k => decide (ln = 1 ∧ (k : Nat) = a) | .iload k => decide (ln = 2 ∧ k = a) | _ => false)
    | 2 => (match i with | .aload_n k => decide (ln = 1 ∧ (k : Nat) = a) | .aload k => decide (ln = 2 ∧ k = a) | _ => false)
    | 3 => (match i with | .lload_n k => decide (ln = 1 ∧ (k : Nat) = a) | .lload k => decide (ln = 2 ∧ k = a) | _ => false)
    | 4 => (match i with | .istore_n k => decide (ln = 1 ∧ (k : Nat) = a ∧ a < zl mi) | .istore k => decide (ln = 2 ∧ k = a ∧ a < zl mi) | _ => false)
    | 5 => (match i with | .astore_n k => decide (ln = 1 ∧ (k : Nat) = a ∧ a < zl mi) | .astore k => decide (ln = 2 ∧ k = a ∧ a < zl mi) | _ => false)
    | 6 => (match i with | .lstore_n k => decide (ln = 1 ∧ (k : Nat) = a ∧ a + 1 < zl mi) | .lstore k => decide (ln = 2 ∧ k = a ∧ a + 1 < zl mi) | _ => false)
    | 7 => (match i with | .iinc k n => decide (ln = 3 ∧ k = a ∧ n = z ∧ a < zl mi) | _ => false)
    | 8 => (match i with | .iadd => decide (ln = 1 ∧ a = 0) | .isub => decide (ln = 1 ∧ a = 1) | .imul => decide (ln = 1 ∧ a = 2) | .iand => decide (ln = 1 ∧ a = 3) | .ior => decide (ln = 1 ∧ a = 4) | .ishl => decide (ln = 1 ∧ a = 5) | .ishr => decide (ln = 1 ∧ a = 6) | .iushr => decide (ln = 1 ∧ a = 7) | _ => false)
    | 9 => (match i with | .idiv => decide (ln = 1) | _ => false)
    | 10 => (match i with | .irem => decide (ln = 1) | _ => false)
    | 11 => (match i with | .ladd => decide (ln = 1 ∧ a = 0) | .lmul => decide (ln = 1 ∧ a = 1) | .land => decide (ln = 1 ∧ a = 2) | .lor => decide (ln = 1 ∧ a = 3) | _ => false)
    | 12 => (match i with | .lshl => decide (ln = 1 ∧ a = 0) | .lshr => decide (ln = 1 ∧ a = 1) | _ => false)
    | 13 => (match i with | .i2l => decide (ln = 1 ∧ a = 0) | .l2i => decide (ln = 1 ∧ a = 1) | .i2b => decide (ln = 1 ∧ a = 2) | .i2s => decide (ln = 1 ∧ a = 3) | .i2c => decide (ln = 1 ∧ a = 4) | _ => false)
    | 14 => (match i with | .lcmp => decide (ln = 1) | _ => false)
    | 15 => (match i with | .lconst n => decide (ln = 1 ∧ ((n : Nat) : Int) = z) | .ldc2_w n => decide (ln = 3 ∧ n = a ∧ (zown mi, a, z) ∈ zcstl) | _ => false)
    | 16 => (match i with | .ifCond .eq o => decide (ln = 3 ∧ a = 0 ∧ (pc : Int) + o = (b : Int)) | .ifCond .ne o => decide (ln = 3 ∧ a = 1 ∧ (pc : Int) + o = (b : Int)) | .ifCond .lt o => decide (ln = 3 ∧ a = 2 ∧ (pc : Int) + o = (b : Int)) | .ifCond .ge o => decide (ln = 3 ∧ a = 3 ∧ (pc : Int) + o = (b : Int)) | .ifCond .gt o => decide (ln = 3 ∧ a = 4 ∧ (pc : Int) + o = (b : Int)) | .ifCond .le o => decide (ln = 3 ∧ a = 5 ∧ (pc : Int) + o = (b : Int)) | _ => false)
    | 17 => (match i with | .if_icmp .eq o => decide (ln = 3 ∧ a = 0 ∧ (pc : Int) + o = (b : Int)) | .if_icmp .ne o => decide (ln = 3 ∧ a = 1 ∧ (pc : Int) + o = (b : Int)) | .if_icmp .lt o => decide (ln = 3 ∧ a = 2 ∧ (pc : Int) + o = (b : Int)) | .if_icmp .ge o => decide (ln = 3 ∧ a = 3 ∧ (pc : Int) + o = (b : Int)) | .if_icmp .gt o => decide (ln = 3 ∧ a = 4 ∧ (pc : Int) + o = (b : Int)) | .if_icmp .le o => decide (ln = 3 ∧ a = 5 ∧ (pc : Int) + o = (b : Int)) | _ => false)
    | 18 => (match i with | .ifnull o => decide (ln = 3 ∧ a = 0 ∧ (pc : Int) + o = (b : Int)) | .ifnonnull o => decide (ln = 3 ∧ a = 1 ∧ (pc : Int) + o = (b : Int)) | _ => false)
    | 19 => (match i with | .goto o => decide (ln = 3 ∧ (pc : Int) + o = (b : Int)) | _ => false)
    | 20 => (match i with | .getfield n => decide (ln = 3 ∧ 0 ≤ z) && zfld.any (fun q => decide (q = (zown mi, n, z.toNat, a, b))) | _ => false)
    | 21 => (match i with | .putfield n => decide (ln = 3 ∧ 0 ≤ z ∧ zty a b = .int ∧ (zT a b).2.2.2 = false) && zfld.any (fun q => decide (q = (zown mi, n, z.toNat, a, b))) | _ => false)
    | 22 => (match i with | .putfield n => decide (ln = 3 ∧ 0 ≤ z ∧ zty a b = .boolean ∧ (zT a b).2.2.2 = false) && zfld.any (fun q => decide (q = (zown mi, n, z.toNat, a, b))) | _ => false)
    | 23 => (match i with | .iaload => decide (ln = 1) | _ => false)
    | 24 => (match i with | .iastore => decide (ln = 1) | _ => false)
    | 25 => (match i with | .baload => decide (ln = 1) | _ => false)
    | 26 => (match i with | .bastore => decide (ln = 1) | _ => false)
    | 27 => (match i with | .arraylength => decide (ln = 1) | _ => false)
    | 28 => (match i with | .invokevirtual n => decide (ln = 3 ∧ 0 ≤ z ∧ zkd a = 0 ∧ b = zar a + 1) && zcall.any (fun q => decide (q = (zown mi, n, z.toNat, a))) | .invokestatic n => decide (ln = 3 ∧ z = 0 ∧ zkd a = 1 ∧ b = zar a) && zcall.any (fun q => decide (q = (zown mi, n, z.toNat, a))) | _ => false)
    | 29 => (match i with | .invokestatic n => decide (ln = 3) && zacp.any (fun q => decide (q = (zown mi, n))) | _ => false)
    | 30 => (match i with | .dup => decide (ln = 1) | _ => false)
    | 31 => (match i with | .dup2 => decide (ln = 1) | _ => false)
    | 32 => (match i with | .pop => decide (ln = 1) | _ => false)
    | 33 => (match i with | .aconst_null => decide (ln = 1) | _ => false)
    | 34 => (match i with | .ireturn => decide (ln = 1 ∧ zret mi = some .int) | _ => false)
    | 35 => (match i with | .ireturn => decide (ln = 1 ∧ zret mi = some .boolean) | _ => false)
    | 36 => (match i with | .ireturn => decide (ln = 1 ∧ zret mi = some .byte) | _ => false)
    | 37 => (match i with | .return_ => decide (ln = 1 ∧ zret mi = none) | _ => false)
    | 38 => (match i with | .ldc n => decide (ln = 2 ∧ n = 112 ∧ zown mi = 5) | _ => false)
    | 39 => (match i with | .lreturn => decide (ln = 1 ∧ zret mi = some .long) | _ => false)
    | 40 => (match i with | .areturn => decide (ln = 1 ∧ zret mi = some (.object "PaleFence$Sheet")) | _ => false)
    | 41 => (match i with | .baload => decide (ln = 1) | _ => false)
    | 42 => (match i with | .tableswitch d lo hi offs => decide (lo = 0 ∧ hi = 33 ∧ (pc : Int) + d = (zswd : Int) ∧ offs.size = 34 ∧ mi = 138) && (List.range 34).all (fun j => decide ((pc : Int) + offs.getD j 0 = ((zswl.getD j 0 : Nat) : Int))) | _ => false)
    | 43 => (match i with | .getfield n => decide (ln = 3 ∧ n = a ∧ (a = 9 ∨ a = 15) ∧ zown mi = 7) | _ => false)
    | 44 => (match i with | .iaload => decide (ln = 1 ∧ mi = 138) | _ => false)
    | 45 => (match i with | .aaload => decide (ln = 1) | _ => false)
    | 46 => (match i with | .getstatic n => decide (ln = 3 ∧ n = 38 ∧ zown mi = 7) | _ => false)
    | 47 => (match i with | .arraylength => decide (ln = 1 ∧ mi = 138) | _ => false)
    | 48 => (match i with | .invokestatic n => decide (ln = 3) && zmxl.any (fun q => decide (q = (zown mi, n))) | _ => false)
    | 49 => (match i with | .invokestatic n => decide (ln = 3) && zmnl.any (fun q => decide (q = (zown mi, n))) | _ => false)
    | _ => false)
def zchk (mi pc : Nat) : Bool := match (zcode mi pc).1 with
  | 99 => true
  | _ => (match decode (zb mi) pc with
    | .ok (i, ln) => zchi mi pc i ln (zcode mi pc)
    | .error _ => false)
theorem zk_0_0 : (List.range 18).all (fun j => zchk 0 (0 + j)) = true := by decide +kernel
theorem zk_1_0 : (List.range 24).all (fun j => zchk 1 (0 + j)) = true := by decide +kernel
theorem zk_2_0 : (List.range 21).all (fun j => zchk 2 (0 + j)) = true := by decide +kernel
theorem zk_3_0 : (List.range 40).all (fun j => zchk 3 (0 + j)) = true := by decide +kernel
theorem zk_4_0 : (List.range 15).all (fun j => zchk 4 (0 + j)) = true := by decide +kernel
theorem zk_5_0 : (List.range 50).all (fun j => zchk 5 (0 + j)) = true := by decide +kernel
theorem zk_6_0 : (List.range 34).all (fun j => zchk 6 (0 + j)) = true := by decide +kernel
theorem zk_7_0 : (List.range 48).all (fun j => zchk 7 (0 + j)) = true := by decide +kernel
theorem zk_8_0 : (List.range 18).all (fun j => zchk 8 (0 + j)) = true := by decide +kernel
theorem zk_9_0 : (List.range 24).all (fun j => zchk 9 (0 + j)) = true := by decide +kernel
theorem zk_10_0 : (List.range 21).all (fun j => zchk 10 (0 + j)) = true := by decide +kernel
theorem zk_11_0 : (List.range 31).all (fun j => zchk 11 (0 + j)) = true := by decide +kernel
theorem zk_12_0 : (List.range 39).all (fun j => zchk 12 (0 + j)) = true := by decide +kernel
theorem zk_13_0 : (List.range 30).all (fun j => zchk 13 (0 + j)) = true := by decide +kernel
theorem zk_14_0 : (List.range 32).all (fun j => zchk 14 (0 + j)) = true := by decide +kernel
theorem zk_15_0 : (List.range 24).all (fun j => zchk 15 (0 + j)) = true := by decide +kernel
theorem zk_16_0 : (List.range 60).all (fun j => zchk 16 (0 + j)) = true := by decide +kernel
theorem zk_16_60 : (List.range 17).all (fun j => zchk 16 (60 + j)) = true := by decide +kernel
theorem zk_17_0 : (List.range 60).all (fun j => zchk 17 (0 + j)) = true := by decide +kernel
theorem zk_17_60 : (List.range 26).all (fun j => zchk 17 (60 + j)) = true := by decide +kernel
theorem zk_18_0 : (List.range 60).all (fun j => zchk 18 (0 + j)) = true := by decide +kernel
theorem zk_18_60 : (List.range 28).all (fun j => zchk 18 (60 + j)) = true := by decide +kernel
theorem zk_19_0 : (List.range 7).all (fun j => zchk 19 (0 + j)) = true := by decide +kernel
theorem zk_20_0 : (List.range 32).all (fun j => zchk 20 (0 + j)) = true := by decide +kernel
theorem zk_21_0 : (List.range 24).all (fun j => zchk 21 (0 + j)) = true := by decide +kernel
theorem zk_22_0 : (List.range 59).all (fun j => zchk 22 (0 + j)) = true := by decide +kernel
theorem zk_23_0 : (List.range 35).all (fun j => zchk 23 (0 + j)) = true := by decide +kernel
theorem zk_24_0 : (List.range 38).all (fun j => zchk 24 (0 + j)) = true := by decide +kernel
theorem zk_25_0 : (List.range 25).all (fun j => zchk 25 (0 + j)) = true := by decide +kernel
theorem zk_26_0 : (List.range 40).all (fun j => zchk 26 (0 + j)) = true := by decide +kernel
theorem zk_27_0 : (List.range 60).all (fun j => zchk 27 (0 + j)) = true := by decide +kernel
theorem zk_27_60 : (List.range 16).all (fun j => zchk 27 (60 + j)) = true := by decide +kernel
theorem zk_28_0 : (List.range 47).all (fun j => zchk 28 (0 + j)) = true := by decide +kernel
theorem zk_29_0 : (List.range 60).all (fun j => zchk 29 (0 + j)) = true := by decide +kernel
theorem zk_29_60 : (List.range 19).all (fun j => zchk 29 (60 + j)) = true := by decide +kernel
theorem zk_30_0 : (List.range 60).all (fun j => zchk 30 (0 + j)) = true := by decide +kernel
theorem zk_30_60 : (List.range 20).all (fun j => zchk 30 (60 + j)) = true := by decide +kernel
theorem zk_31_0 : (List.range 52).all (fun j => zchk 31 (0 + j)) = true := by decide +kernel
theorem zk_32_0 : (List.range 30).all (fun j => zchk 32 (0 + j)) = true := by decide +kernel
theorem zk_33_0 : (List.range 60).all (fun j => zchk 33 (0 + j)) = true := by decide +kernel
theorem zk_33_60 : (List.range 46).all (fun j => zchk 33 (60 + j)) = true := by decide +kernel
theorem zk_34_0 : (List.range 12).all (fun j => zchk 34 (0 + j)) = true := by decide +kernel
theorem zk_35_0 : (List.range 40).all (fun j => zchk 35 (0 + j)) = true := by decide +kernel
theorem zk_36_0 : (List.range 60).all (fun j => zchk 36 (0 + j)) = true := by decide +kernel
theorem zk_36_60 : (List.range 37).all (fun j => zchk 36 (60 + j)) = true := by decide +kernel
theorem zk_37_0 : (List.range 60).all (fun j => zchk 37 (0 + j)) = true := by decide +kernel
theorem zk_37_60 : (List.range 40).all (fun j => zchk 37 (60 + j)) = true := by decide +kernel
theorem zk_38_0 : (List.range 60).all (fun j => zchk 38 (0 + j)) = true := by decide +kernel
theorem zk_38_60 : (List.range 4).all (fun j => zchk 38 (60 + j)) = true := by decide +kernel
theorem zk_39_0 : (List.range 15).all (fun j => zchk 39 (0 + j)) = true := by decide +kernel
theorem zk_40_0 : (List.range 60).all (fun j => zchk 40 (0 + j)) = true := by decide +kernel
theorem zk_40_60 : (List.range 32).all (fun j => zchk 40 (60 + j)) = true := by decide +kernel
theorem zk_41_0 : (List.range 60).all (fun j => zchk 41 (0 + j)) = true := by decide +kernel
theorem zk_41_60 : (List.range 17).all (fun j => zchk 41 (60 + j)) = true := by decide +kernel
theorem zk_42_0 : (List.range 30).all (fun j => zchk 42 (0 + j)) = true := by decide +kernel
theorem zk_43_0 : (List.range 60).all (fun j => zchk 43 (0 + j)) = true := by decide +kernel
theorem zk_43_60 : (List.range 1).all (fun j => zchk 43 (60 + j)) = true := by decide +kernel
theorem zk_44_0 : (List.range 60).all (fun j => zchk 44 (0 + j)) = true := by decide +kernel
theorem zk_44_60 : (List.range 17).all (fun j => zchk 44 (60 + j)) = true := by decide +kernel
theorem zk_45_0 : (List.range 60).all (fun j => zchk 45 (0 + j)) = true := by decide +kernel
theorem zk_45_60 : (List.range 29).all (fun j => zchk 45 (60 + j)) = true := by decide +kernel
theorem zk_46_0 : (List.range 60).all (fun j => zchk 46 (0 + j)) = true := by decide +kernel
theorem zk_46_60 : (List.range 12).all (fun j => zchk 46 (60 + j)) = true := by decide +kernel
theorem zk_47_0 : (List.range 38).all (fun j => zchk 47 (0 + j)) = true := by decide +kernel
theorem zk_48_0 : (List.range 39).all (fun j => zchk 48 (0 + j)) = true := by decide +kernel
theorem zk_49_0 : (List.range 60).all (fun j => zchk 49 (0 + j)) = true := by decide +kernel
theorem zk_49_60 : (List.range 56).all (fun j => zchk 49 (60 + j)) = true := by decide +kernel
theorem zk_50_0 : (List.range 60).all (fun j => zchk 50 (0 + j)) = true := by decide +kernel
theorem zk_50_60 : (List.range 15).all (fun j => zchk 50 (60 + j)) = true := by decide +kernel
theorem zk_51_0 : (List.range 60).all (fun j => zchk 51 (0 + j)) = true := by decide +kernel
theorem zk_51_60 : (List.range 42).all (fun j => zchk 51 (60 + j)) = true := by decide +kernel
theorem zk_52_0 : (List.range 60).all (fun j => zchk 52 (0 + j)) = true := by decide +kernel
theorem zk_52_60 : (List.range 36).all (fun j => zchk 52 (60 + j)) = true := by decide +kernel
theorem zk_53_0 : (List.range 60).all (fun j => zchk 53 (0 + j)) = true := by decide +kernel
theorem zk_53_60 : (List.range 34).all (fun j => zchk 53 (60 + j)) = true := by decide +kernel
theorem zk_54_0 : (List.range 60).all (fun j => zchk 54 (0 + j)) = true := by decide +kernel
theorem zk_54_60 : (List.range 43).all (fun j => zchk 54 (60 + j)) = true := by decide +kernel
theorem zk_55_0 : (List.range 60).all (fun j => zchk 55 (0 + j)) = true := by decide +kernel
theorem zk_55_60 : (List.range 4).all (fun j => zchk 55 (60 + j)) = true := by decide +kernel
theorem zk_56_0 : (List.range 60).all (fun j => zchk 56 (0 + j)) = true := by decide +kernel
theorem zk_56_60 : (List.range 4).all (fun j => zchk 56 (60 + j)) = true := by decide +kernel
theorem zk_57_0 : (List.range 53).all (fun j => zchk 57 (0 + j)) = true := by decide +kernel
theorem zk_58_0 : (List.range 60).all (fun j => zchk 58 (0 + j)) = true := by decide +kernel
theorem zk_58_60 : (List.range 38).all (fun j => zchk 58 (60 + j)) = true := by decide +kernel
theorem zk_59_0 : (List.range 56).all (fun j => zchk 59 (0 + j)) = true := by decide +kernel
theorem zk_60_0 : (List.range 60).all (fun j => zchk 60 (0 + j)) = true := by decide +kernel
theorem zk_60_60 : (List.range 60).all (fun j => zchk 60 (60 + j)) = true := by decide +kernel
theorem zk_60_120 : (List.range 10).all (fun j => zchk 60 (120 + j)) = true := by decide +kernel
theorem zk_61_0 : (List.range 53).all (fun j => zchk 61 (0 + j)) = true := by decide +kernel
theorem zk_62_0 : (List.range 24).all (fun j => zchk 62 (0 + j)) = true := by decide +kernel
theorem zk_63_0 : (List.range 18).all (fun j => zchk 63 (0 + j)) = true := by decide +kernel
theorem zk_64_0 : (List.range 23).all (fun j => zchk 64 (0 + j)) = true := by decide +kernel
theorem zk_65_0 : (List.range 60).all (fun j => zchk 65 (0 + j)) = true := by decide +kernel
theorem zk_65_60 : (List.range 60).all (fun j => zchk 65 (60 + j)) = true := by decide +kernel
theorem zk_65_120 : (List.range 60).all (fun j => zchk 65 (120 + j)) = true := by decide +kernel
theorem zk_65_180 : (List.range 13).all (fun j => zchk 65 (180 + j)) = true := by decide +kernel
theorem zk_66_0 : (List.range 60).all (fun j => zchk 66 (0 + j)) = true := by decide +kernel
theorem zk_66_60 : (List.range 17).all (fun j => zchk 66 (60 + j)) = true := by decide +kernel
theorem zk_67_0 : (List.range 60).all (fun j => zchk 67 (0 + j)) = true := by decide +kernel
theorem zk_67_60 : (List.range 60).all (fun j => zchk 67 (60 + j)) = true := by decide +kernel
theorem zk_67_120 : (List.range 11).all (fun j => zchk 67 (120 + j)) = true := by decide +kernel
theorem zk_68_0 : (List.range 60).all (fun j => zchk 68 (0 + j)) = true := by decide +kernel
theorem zk_68_60 : (List.range 60).all (fun j => zchk 68 (60 + j)) = true := by decide +kernel
theorem zk_68_120 : (List.range 6).all (fun j => zchk 68 (120 + j)) = true := by decide +kernel
theorem zk_69_0 : (List.range 60).all (fun j => zchk 69 (0 + j)) = true := by decide +kernel
theorem zk_69_60 : (List.range 35).all (fun j => zchk 69 (60 + j)) = true := by decide +kernel
theorem zk_70_0 : (List.range 43).all (fun j => zchk 70 (0 + j)) = true := by decide +kernel
theorem zk_71_0 : (List.range 35).all (fun j => zchk 71 (0 + j)) = true := by decide +kernel
theorem zk_72_0 : (List.range 40).all (fun j => zchk 72 (0 + j)) = true := by decide +kernel
theorem zk_73_0 : (List.range 60).all (fun j => zchk 73 (0 + j)) = true := by decide +kernel
theorem zk_73_60 : (List.range 50).all (fun j => zchk 73 (60 + j)) = true := by decide +kernel
theorem zk_74_0 : (List.range 51).all (fun j => zchk 74 (0 + j)) = true := by decide +kernel
theorem zk_75_0 : (List.range 24).all (fun j => zchk 75 (0 + j)) = true := by decide +kernel
theorem zk_76_0 : (List.range 15).all (fun j => zchk 76 (0 + j)) = true := by decide +kernel
theorem zk_77_0 : (List.range 19).all (fun j => zchk 77 (0 + j)) = true := by decide +kernel
theorem zk_78_0 : (List.range 16).all (fun j => zchk 78 (0 + j)) = true := by decide +kernel
theorem zk_79_0 : (List.range 60).all (fun j => zchk 79 (0 + j)) = true := by decide +kernel
theorem zk_79_60 : (List.range 60).all (fun j => zchk 79 (60 + j)) = true := by decide +kernel
theorem zk_79_120 : (List.range 53).all (fun j => zchk 79 (120 + j)) = true := by decide +kernel
theorem zk_80_0 : (List.range 60).all (fun j => zchk 80 (0 + j)) = true := by decide +kernel
theorem zk_80_60 : (List.range 19).all (fun j => zchk 80 (60 + j)) = true := by decide +kernel
theorem zk_81_0 : (List.range 25).all (fun j => zchk 81 (0 + j)) = true := by decide +kernel
theorem zk_82_0 : (List.range 40).all (fun j => zchk 82 (0 + j)) = true := by decide +kernel
theorem zk_83_0 : (List.range 49).all (fun j => zchk 83 (0 + j)) = true := by decide +kernel
theorem zk_84_0 : (List.range 22).all (fun j => zchk 84 (0 + j)) = true := by decide +kernel
theorem zk_85_0 : (List.range 16).all (fun j => zchk 85 (0 + j)) = true := by decide +kernel
theorem zk_86_0 : (List.range 16).all (fun j => zchk 86 (0 + j)) = true := by decide +kernel
theorem zk_87_0 : (List.range 57).all (fun j => zchk 87 (0 + j)) = true := by decide +kernel
theorem zk_88_0 : (List.range 37).all (fun j => zchk 88 (0 + j)) = true := by decide +kernel
theorem zk_89_0 : (List.range 44).all (fun j => zchk 89 (0 + j)) = true := by decide +kernel
theorem zk_90_0 : (List.range 60).all (fun j => zchk 90 (0 + j)) = true := by decide +kernel
theorem zk_90_60 : (List.range 7).all (fun j => zchk 90 (60 + j)) = true := by decide +kernel
theorem zk_91_0 : (List.range 44).all (fun j => zchk 91 (0 + j)) = true := by decide +kernel
theorem zk_92_0 : (List.range 22).all (fun j => zchk 92 (0 + j)) = true := by decide +kernel
theorem zk_93_0 : (List.range 60).all (fun j => zchk 93 (0 + j)) = true := by decide +kernel
theorem zk_93_60 : (List.range 60).all (fun j => zchk 93 (60 + j)) = true := by decide +kernel
theorem zk_93_120 : (List.range 20).all (fun j => zchk 93 (120 + j)) = true := by decide +kernel
theorem zk_94_0 : (List.range 43).all (fun j => zchk 94 (0 + j)) = true := by decide +kernel
theorem zk_95_0 : (List.range 60).all (fun j => zchk 95 (0 + j)) = true := by decide +kernel
theorem zk_95_60 : (List.range 60).all (fun j => zchk 95 (60 + j)) = true := by decide +kernel
theorem zk_95_120 : (List.range 1).all (fun j => zchk 95 (120 + j)) = true := by decide +kernel
theorem zk_96_0 : (List.range 60).all (fun j => zchk 96 (0 + j)) = true := by decide +kernel
theorem zk_96_60 : (List.range 46).all (fun j => zchk 96 (60 + j)) = true := by decide +kernel
theorem zk_97_0 : (List.range 44).all (fun j => zchk 97 (0 + j)) = true := by decide +kernel
theorem zk_98_0 : (List.range 23).all (fun j => zchk 98 (0 + j)) = true := by decide +kernel
theorem zk_99_0 : (List.range 60).all (fun j => zchk 99 (0 + j)) = true := by decide +kernel
theorem zk_99_60 : (List.range 10).all (fun j => zchk 99 (60 + j)) = true := by decide +kernel
theorem zk_100_0 : (List.range 60).all (fun j => zchk 100 (0 + j)) = true := by decide +kernel
theorem zk_100_60 : (List.range 60).all (fun j => zchk 100 (60 + j)) = true := by decide +kernel
theorem zk_100_120 : (List.range 35).all (fun j => zchk 100 (120 + j)) = true := by decide +kernel
theorem zk_101_0 : (List.range 26).all (fun j => zchk 101 (0 + j)) = true := by decide +kernel
theorem zk_102_0 : (List.range 43).all (fun j => zchk 102 (0 + j)) = true := by decide +kernel
theorem zk_103_0 : (List.range 60).all (fun j => zchk 103 (0 + j)) = true := by decide +kernel
theorem zk_103_60 : (List.range 9).all (fun j => zchk 103 (60 + j)) = true := by decide +kernel
theorem zk_104_0 : (List.range 60).all (fun j => zchk 104 (0 + j)) = true := by decide +kernel
theorem zk_104_60 : (List.range 32).all (fun j => zchk 104 (60 + j)) = true := by decide +kernel
theorem zk_105_0 : (List.range 60).all (fun j => zchk 105 (0 + j)) = true := by decide +kernel
theorem zk_105_60 : (List.range 2).all (fun j => zchk 105 (60 + j)) = true := by decide +kernel
theorem zk_106_0 : (List.range 60).all (fun j => zchk 106 (0 + j)) = true := by decide +kernel
theorem zk_106_60 : (List.range 58).all (fun j => zchk 106 (60 + j)) = true := by decide +kernel
theorem zk_107_0 : (List.range 55).all (fun j => zchk 107 (0 + j)) = true := by decide +kernel
theorem zk_108_0 : (List.range 60).all (fun j => zchk 108 (0 + j)) = true := by decide +kernel
theorem zk_108_60 : (List.range 12).all (fun j => zchk 108 (60 + j)) = true := by decide +kernel
theorem zk_109_0 : (List.range 60).all (fun j => zchk 109 (0 + j)) = true := by decide +kernel
theorem zk_109_60 : (List.range 60).all (fun j => zchk 109 (60 + j)) = true := by decide +kernel
theorem zk_109_120 : (List.range 38).all (fun j => zchk 109 (120 + j)) = true := by decide +kernel
theorem zk_110_0 : (List.range 31).all (fun j => zchk 110 (0 + j)) = true := by decide +kernel
theorem zk_111_0 : (List.range 60).all (fun j => zchk 111 (0 + j)) = true := by decide +kernel
theorem zk_111_60 : (List.range 60).all (fun j => zchk 111 (60 + j)) = true := by decide +kernel
theorem zk_111_120 : (List.range 60).all (fun j => zchk 111 (120 + j)) = true := by decide +kernel
theorem zk_111_180 : (List.range 49).all (fun j => zchk 111 (180 + j)) = true := by decide +kernel
theorem zk_112_0 : (List.range 60).all (fun j => zchk 112 (0 + j)) = true := by decide +kernel
theorem zk_112_60 : (List.range 17).all (fun j => zchk 112 (60 + j)) = true := by decide +kernel
theorem zk_113_0 : (List.range 60).all (fun j => zchk 113 (0 + j)) = true := by decide +kernel
theorem zk_113_60 : (List.range 6).all (fun j => zchk 113 (60 + j)) = true := by decide +kernel
theorem zk_114_0 : (List.range 30).all (fun j => zchk 114 (0 + j)) = true := by decide +kernel
theorem zk_115_0 : (List.range 60).all (fun j => zchk 115 (0 + j)) = true := by decide +kernel
theorem zk_115_60 : (List.range 60).all (fun j => zchk 115 (60 + j)) = true := by decide +kernel
theorem zk_115_120 : (List.range 41).all (fun j => zchk 115 (120 + j)) = true := by decide +kernel
theorem zk_116_0 : (List.range 15).all (fun j => zchk 116 (0 + j)) = true := by decide +kernel
theorem zk_117_0 : (List.range 33).all (fun j => zchk 117 (0 + j)) = true := by decide +kernel
theorem zk_118_0 : (List.range 38).all (fun j => zchk 118 (0 + j)) = true := by decide +kernel
theorem zk_119_0 : (List.range 30).all (fun j => zchk 119 (0 + j)) = true := by decide +kernel
theorem zk_120_0 : (List.range 57).all (fun j => zchk 120 (0 + j)) = true := by decide +kernel
theorem zk_121_0 : (List.range 60).all (fun j => zchk 121 (0 + j)) = true := by decide +kernel
theorem zk_121_60 : (List.range 13).all (fun j => zchk 121 (60 + j)) = true := by decide +kernel
theorem zk_122_0 : (List.range 60).all (fun j => zchk 122 (0 + j)) = true := by decide +kernel
theorem zk_122_60 : (List.range 60).all (fun j => zchk 122 (60 + j)) = true := by decide +kernel
theorem zk_122_120 : (List.range 60).all (fun j => zchk 122 (120 + j)) = true := by decide +kernel
theorem zk_122_180 : (List.range 60).all (fun j => zchk 122 (180 + j)) = true := by decide +kernel
theorem zk_122_240 : (List.range 13).all (fun j => zchk 122 (240 + j)) = true := by decide +kernel
theorem zk_123_0 : (List.range 60).all (fun j => zchk 123 (0 + j)) = true := by decide +kernel
theorem zk_123_60 : (List.range 60).all (fun j => zchk 123 (60 + j)) = true := by decide +kernel
theorem zk_123_120 : (List.range 23).all (fun j => zchk 123 (120 + j)) = true := by decide +kernel
theorem zk_124_0 : (List.range 60).all (fun j => zchk 124 (0 + j)) = true := by decide +kernel
theorem zk_124_60 : (List.range 24).all (fun j => zchk 124 (60 + j)) = true := by decide +kernel
theorem zk_125_0 : (List.range 60).all (fun j => zchk 125 (0 + j)) = true := by decide +kernel
theorem zk_125_60 : (List.range 8).all (fun j => zchk 125 (60 + j)) = true := by decide +kernel
theorem zk_126_0 : (List.range 42).all (fun j => zchk 126 (0 + j)) = true := by decide +kernel
theorem zk_127_0 : (List.range 60).all (fun j => zchk 127 (0 + j)) = true := by decide +kernel
theorem zk_127_60 : (List.range 4).all (fun j => zchk 127 (60 + j)) = true := by decide +kernel
theorem zk_128_0 : (List.range 60).all (fun j => zchk 128 (0 + j)) = true := by decide +kernel
theorem zk_128_60 : (List.range 60).all (fun j => zchk 128 (60 + j)) = true := by decide +kernel
theorem zk_128_120 : (List.range 56).all (fun j => zchk 128 (120 + j)) = true := by decide +kernel
theorem zk_129_0 : (List.range 11).all (fun j => zchk 129 (0 + j)) = true := by decide +kernel
theorem zk_130_0 : (List.range 7).all (fun j => zchk 130 (0 + j)) = true := by decide +kernel
theorem zk_131_0 : (List.range 37).all (fun j => zchk 131 (0 + j)) = true := by decide +kernel
theorem zk_132_0 : (List.range 15).all (fun j => zchk 132 (0 + j)) = true := by decide +kernel
theorem zk_133_0 : (List.range 19).all (fun j => zchk 133 (0 + j)) = true := by decide +kernel
theorem zk_134_0 : (List.range 17).all (fun j => zchk 134 (0 + j)) = true := by decide +kernel
theorem zk_135_0 : (List.range 37).all (fun j => zchk 135 (0 + j)) = true := by decide +kernel
theorem zk_136_0 : (List.range 33).all (fun j => zchk 136 (0 + j)) = true := by decide +kernel
theorem zk_137_0 : (List.range 53).all (fun j => zchk 137 (0 + j)) = true := by decide +kernel
theorem zk_138_0 : (List.range 60).all (fun j => zchk 138 (0 + j)) = true := by decide +kernel
theorem zk_138_60 : (List.range 60).all (fun j => zchk 138 (60 + j)) = true := by decide +kernel
theorem zk_138_120 : (List.range 60).all (fun j => zchk 138 (120 + j)) = true := by decide +kernel
theorem zk_138_180 : (List.range 60).all (fun j => zchk 138 (180 + j)) = true := by decide +kernel
theorem zk_138_240 : (List.range 60).all (fun j => zchk 138 (240 + j)) = true := by decide +kernel
theorem zk_138_300 : (List.range 60).all (fun j => zchk 138 (300 + j)) = true := by decide +kernel
theorem zk_138_360 : (List.range 60).all (fun j => zchk 138 (360 + j)) = true := by decide +kernel
theorem zk_138_420 : (List.range 60).all (fun j => zchk 138 (420 + j)) = true := by decide +kernel
theorem zk_138_480 : (List.range 60).all (fun j => zchk 138 (480 + j)) = true := by decide +kernel
theorem zk_138_540 : (List.range 60).all (fun j => zchk 138 (540 + j)) = true := by decide +kernel
theorem zk_138_600 : (List.range 60).all (fun j => zchk 138 (600 + j)) = true := by decide +kernel
theorem zk_138_660 : (List.range 60).all (fun j => zchk 138 (660 + j)) = true := by decide +kernel
theorem zk_138_720 : (List.range 60).all (fun j => zchk 138 (720 + j)) = true := by decide +kernel
theorem zk_138_780 : (List.range 60).all (fun j => zchk 138 (780 + j)) = true := by decide +kernel
theorem zk_138_840 : (List.range 60).all (fun j => zchk 138 (840 + j)) = true := by decide +kernel
theorem zk_138_900 : (List.range 60).all (fun j => zchk 138 (900 + j)) = true := by decide +kernel
theorem zk_138_960 : (List.range 60).all (fun j => zchk 138 (960 + j)) = true := by decide +kernel
theorem zk_138_1020 : (List.range 60).all (fun j => zchk 138 (1020 + j)) = true := by decide +kernel
theorem zk_138_1080 : (List.range 60).all (fun j => zchk 138 (1080 + j)) = true := by decide +kernel
theorem zk_138_1140 : (List.range 60).all (fun j => zchk 138 (1140 + j)) = true := by decide +kernel
theorem zk_138_1200 : (List.range 14).all (fun j => zchk 138 (1200 + j)) = true := by decide +kernel
