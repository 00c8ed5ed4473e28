/-! the small machine is the machine: any step, any call -/
theorem zcnv_0 {v w : zV} (h : zcnv 0 v = some w) : ∃ x, v = .inl x ∧ w = vL x := by
  rcases v with x | x | x | x
  · exact ⟨x, rfl, (Option.some.inj h).symm⟩
  all_goals cases h
theorem zcnv_1 {v w : zV} (h : zcnv 1 v = some w) : ∃ x, v = .inr (.inl x) ∧ w = vI (Int64.ofInt x).toInt32.toInt := by
  rcases v with x | x | x | x
  · cases h
  · exact ⟨x, rfl, (Option.some.inj h).symm⟩
  all_goals cases h
theorem zcnv_2 {v w : zV} (h : zcnv 2 v = some w) : ∃ x, v = .inl x ∧ w = vI (Int32.ofInt x).toInt8.toInt32.toInt := by
  rcases v with x | x | x | x
  · exact ⟨x, rfl, (Option.some.inj h).symm⟩
  all_goals cases h
theorem zcnv_3 {v w : zV} (h : zcnv 3 v = some w) : ∃ x, v = .inl x ∧ w = vI (Int32.ofInt x).toInt16.toInt32.toInt := by
  rcases v with x | x | x | x
  · exact ⟨x, rfl, (Option.some.inj h).symm⟩
  all_goals cases h
theorem zcnv_4 {v w : zV} (h : zcnv 4 v = some w) : ∃ x, v = .inl x ∧ w = vI ((Int32.ofInt x).toUInt32 % 65536).toInt32.toInt := by
  rcases v with x | x | x | x
  · exact ⟨x, rfl, (Option.some.inj h).symm⟩
  all_goals cases h
theorem zcls_23 {q : Nat} (h : zcls q = 23) : q = 42 := by
  by_cases hp : q < 44
  · have : ∀ q, q < 44 → zcls q = 23 → q = 42 := by decide +kernel
    exact this q hp h
  · exfalso
    obtain ⟨r, rfl⟩ : ∃ r, q = r + 44 := ⟨q - 44, by omega⟩
    have e : zcls (r + 44) = 99 := rfl
    omega
theorem zcls_24 {q : Nat} (h : zcls q = 24) : q = 43 := by
  by_cases hp : q < 44
  · have : ∀ q, q < 44 → zcls q = 24 → q = 43 := by decide +kernel
    exact this q hp h
  · exfalso
    obtain ⟨r, rfl⟩ : ∃ r, q = r + 44 := ⟨q - 44, by omega⟩
    have e : zcls (r + 44) = 99 := rfl
    omega
theorem zarr_lt (q : Nat) : (zarr q).1 < 1000 := by
  by_cases hp : q < 44
  · have : ∀ q, q < 44 → (zarr q).1 < 1000 := by decide +kernel
    exact this q hp
  · obtain ⟨r, rfl⟩ : ∃ r, q = r + 44 := ⟨q - 44, by omega⟩
    have e : zarr (r + 44) = (0, 99) := rfl
    rw [e]; decide
theorem zkc {mi a c : Nat} (h : (List.range c).all (fun j => zchk mi (a + j)) = true) : ∀ pc, a ≤ pc → pc < a + c → zchk mi pc = true := by
  intro pc h1 h2
  have := List.all_eq_true.mp h (pc - a) (List.mem_range.mpr (by omega))
  rwa [show a + (pc - a) = pc by omega] at this
theorem zkm_0 : ∀ pc, pc < zN 0 → zchk 0 pc = true := fun pc h0 => have h : pc < 18 := h0; zkc zk_0_0 pc (by omega) (by omega)
theorem zkm_1 : ∀ pc, pc < zN 1 → zchk 1 pc = true := fun pc h0 => have h : pc < 24 := h0; zkc zk_1_0 pc (by omega) (by omega)
theorem zkm_2 : ∀ pc, pc < zN 2 → zchk 2 pc = true := fun pc h0 => have h : pc < 21 := h0; zkc zk_2_0 pc (by omega) (by omega)
theorem zkm_3 : ∀ pc, pc < zN 3 → zchk 3 pc = true := fun pc h0 => have h : pc < 40 := h0; zkc zk_3_0 pc (by omega) (by omega)
theorem zkm_4 : ∀ pc, pc < zN 4 → zchk 4 pc = true := fun pc h0 => have h : pc < 15 := h0; zkc zk_4_0 pc (by omega) (by omega)
theorem zkm_5 : ∀ pc, pc < zN 5 → zchk 5 pc = true := fun pc h0 => have h : pc < 50 := h0; zkc zk_5_0 pc (by omega) (by omega)
theorem zkm_6 : ∀ pc, pc < zN 6 → zchk 6 pc = true := fun pc h0 => have h : pc < 34 := h0; zkc zk_6_0 pc (by omega) (by omega)
theorem zkm_7 : ∀ pc, pc < zN 7 → zchk 7 pc = true := fun pc h0 => have h : pc < 48 := h0; zkc zk_7_0 pc (by omega) (by omega)
theorem zkm_8 : ∀ pc, pc < zN 8 → zchk 8 pc = true := fun pc h0 => have h : pc < 18 := h0; zkc zk_8_0 pc (by omega) (by omega)
theorem zkm_9 : ∀ pc, pc < zN 9 → zchk 9 pc = true := fun pc h0 => have h : pc < 24 := h0; zkc zk_9_0 pc (by omega) (by omega)
theorem zkm_10 : ∀ pc, pc < zN 10 → zchk 10 pc = true := fun pc h0 => have h : pc < 21 := h0; zkc zk_10_0 pc (by omega) (by omega)
theorem zkm_11 : ∀ pc, pc < zN 11 → zchk 11 pc = true := fun pc h0 => have h : pc < 31 := h0; zkc zk_11_0 pc (by omega) (by omega)
theorem zkm_12 : ∀ pc, pc < zN 12 → zchk 12 pc = true := fun pc h0 => have h : pc < 39 := h0; zkc zk_12_0 pc (by omega) (by omega)
theorem zkm_13 : ∀ pc, pc < zN 13 → zchk 13 pc = true := fun pc h0 => have h : pc < 30 := h0; zkc zk_13_0 pc (by omega) (by omega)
theorem zkm_14 : ∀ pc, pc < zN 14 → zchk 14 pc = true := fun pc h0 => have h : pc < 32 := h0; zkc zk_14_0 pc (by omega) (by omega)
theorem zkm_15 : ∀ pc, pc < zN 15 → zchk 15 pc = true := fun pc h0 => have h : pc < 24 := h0; zkc zk_15_0 pc (by omega) (by omega)
theorem zkm_16 : ∀ pc, pc < zN 16 → zchk 16 pc = true := fun pc h0 => have h : pc < 77 := h0; if h0 : pc < 60 then zkc zk_16_0 pc (by omega) (by omega) else zkc zk_16_60 pc (by omega) (by omega)
theorem zkm_17 : ∀ pc, pc < zN 17 → zchk 17 pc = true := fun pc h0 => have h : pc < 86 := h0; if h0 : pc < 60 then zkc zk_17_0 pc (by omega) (by omega) else zkc zk_17_60 pc (by omega) (by omega)
theorem zkm_18 : ∀ pc, pc < zN 18 → zchk 18 pc = true := fun pc h0 => have h : pc < 88 := h0; if h0 : pc < 60 then zkc zk_18_0 pc (by omega) (by omega) else zkc zk_18_60 pc (by omega) (by omega)
theorem zkm_19 : ∀ pc, pc < zN 19 → zchk 19 pc = true := fun pc h0 => have h : pc < 7 := h0; zkc zk_19_0 pc (by omega) (by omega)
theorem zkm_20 : ∀ pc, pc < zN 20 → zchk 20 pc = true := fun pc h0 => have h : pc < 32 := h0; zkc zk_20_0 pc (by omega) (by omega)
theorem zkm_21 : ∀ pc, pc < zN 21 → zchk 21 pc = true := fun pc h0 => have h : pc < 24 := h0; zkc zk_21_0 pc (by omega) (by omega)
theorem zkm_22 : ∀ pc, pc < zN 22 → zchk 22 pc = true := fun pc h0 => have h : pc < 59 := h0; zkc zk_22_0 pc (by omega) (by omega)
theorem zkm_23 : ∀ pc, pc < zN 23 → zchk 23 pc = true := fun pc h0 => have h : pc < 35 := h0; zkc zk_23_0 pc (by omega) (by omega)
theorem zkm_24 : ∀ pc, pc < zN 24 → zchk 24 pc = true := fun pc h0 => have h : pc < 38 := h0; zkc zk_24_0 pc (by omega) (by omega)
theorem zkm_25 : ∀ pc, pc < zN 25 → zchk 25 pc = true := fun pc h0 => have h : pc < 25 := h0; zkc zk_25_0 pc (by omega) (by omega)
theorem zkm_26 : ∀ pc, pc < zN 26 → zchk 26 pc = true := fun pc h0 => have h : pc < 40 := h0; zkc zk_26_0 pc (by omega) (by omega)
theorem zkm_27 : ∀ pc, pc < zN 27 → zchk 27 pc = true := fun pc h0 => have h : pc < 76 := h0; if h0 : pc < 60 then zkc zk_27_0 pc (by omega) (by omega) else zkc zk_27_60 pc (by omega) (by omega)
theorem zkm_28 : ∀ pc, pc < zN 28 → zchk 28 pc = true := fun pc h0 => have h : pc < 47 := h0; zkc zk_28_0 pc (by omega) (by omega)
theorem zkm_29 : ∀ pc, pc < zN 29 → zchk 29 pc = true := fun pc h0 => have h : pc < 79 := h0; if h0 : pc < 60 then zkc zk_29_0 pc (by omega) (by omega) else zkc zk_29_60 pc (by omega) (by omega)
theorem zkm_30 : ∀ pc, pc < zN 30 → zchk 30 pc = true := fun pc h0 => have h : pc < 80 := h0; if h0 : pc < 60 then zkc zk_30_0 pc (by omega) (by omega) else zkc zk_30_60 pc (by omega) (by omega)
theorem zkm_31 : ∀ pc, pc < zN 31 → zchk 31 pc = true := fun pc h0 => have h : pc < 52 := h0; zkc zk_31_0 pc (by omega) (by omega)
theorem zkm_32 : ∀ pc, pc < zN 32 → zchk 32 pc = true := fun pc h0 => have h : pc < 30 := h0; zkc zk_32_0 pc (by omega) (by omega)
theorem zkm_33 : ∀ pc, pc < zN 33 → zchk 33 pc = true := fun pc h0 => have h : pc < 106 := h0; if h0 : pc < 60 then zkc zk_33_0 pc (by omega) (by omega) else zkc zk_33_60 pc (by omega) (by omega)
theorem zkm_34 : ∀ pc, pc < zN 34 → zchk 34 pc = true := fun pc h0 => have h : pc < 12 := h0; zkc zk_34_0 pc (by omega) (by omega)
theorem zkm_35 : ∀ pc, pc < zN 35 → zchk 35 pc = true := fun pc h0 => have h : pc < 40 := h0; zkc zk_35_0 pc (by omega) (by omega)
theorem zkm_36 : ∀ pc, pc < zN 36 → zchk 36 pc = true := fun pc h0 => have h : pc < 97 := h0; if h0 : pc < 60 then zkc zk_36_0 pc (by omega) (by omega) else zkc zk_36_60 pc (by omega) (by omega)
theorem zkm_37 : ∀ pc, pc < zN 37 → zchk 37 pc = true := fun pc h0 => have h : pc < 100 := h0; if h0 : pc < 60 then zkc zk_37_0 pc (by omega) (by omega) else zkc zk_37_60 pc (by omega) (by omega)
theorem zkm_38 : ∀ pc, pc < zN 38 → zchk 38 pc = true := fun pc h0 => have h : pc < 64 := h0; if h0 : pc < 60 then zkc zk_38_0 pc (by omega) (by omega) else zkc zk_38_60 pc (by omega) (by omega)
theorem zkm_39 : ∀ pc, pc < zN 39 → zchk 39 pc = true := fun pc h0 => have h : pc < 15 := h0; zkc zk_39_0 pc (by omega) (by omega)
theorem zkm_40 : ∀ pc, pc < zN 40 → zchk 40 pc = true := fun pc h0 => have h : pc < 92 := h0; if h0 : pc < 60 then zkc zk_40_0 pc (by omega) (by omega) else zkc zk_40_60 pc (by omega) (by omega)
theorem zkm_41 : ∀ pc, pc < zN 41 → zchk 41 pc = true := fun pc h0 => have h : pc < 77 := h0; if h0 : pc < 60 then zkc zk_41_0 pc (by omega) (by omega) else zkc zk_41_60 pc (by omega) (by omega)
theorem zkm_42 : ∀ pc, pc < zN 42 → zchk 42 pc = true := fun pc h0 => have h : pc < 30 := h0; zkc zk_42_0 pc (by omega) (by omega)
theorem zkm_43 : ∀ pc, pc < zN 43 → zchk 43 pc = true := fun pc h0 => have h : pc < 61 := h0; if h0 : pc < 60 then zkc zk_43_0 pc (by omega) (by omega) else zkc zk_43_60 pc (by omega) (by omega)
theorem zkm_44 : ∀ pc, pc < zN 44 → zchk 44 pc = true := fun pc h0 => have h : pc < 77 := h0; if h0 : pc < 60 then zkc zk_44_0 pc (by omega) (by omega) else zkc zk_44_60 pc (by omega) (by omega)
theorem zkm_45 : ∀ pc, pc < zN 45 → zchk 45 pc = true := fun pc h0 => have h : pc < 89 := h0; if h0 : pc < 60 then zkc zk_45_0 pc (by omega) (by omega) else zkc zk_45_60 pc (by omega) (by omega)
theorem zkm_46 : ∀ pc, pc < zN 46 → zchk 46 pc = true := fun pc h0 => have h : pc < 72 := h0; if h0 : pc < 60 then zkc zk_46_0 pc (by omega) (by omega) else zkc zk_46_60 pc (by omega) (by omega)
theorem zkm_47 : ∀ pc, pc < zN 47 → zchk 47 pc = true := fun pc h0 => have h : pc < 38 := h0; zkc zk_47_0 pc (by omega) (by omega)
theorem zkm_48 : ∀ pc, pc < zN 48 → zchk 48 pc = true := fun pc h0 => have h : pc < 39 := h0; zkc zk_48_0 pc (by omega) (by omega)
theorem zkm_49 : ∀ pc, pc < zN 49 → zchk 49 pc = true := fun pc h0 => have h : pc < 116 := h0; if h0 : pc < 60 then zkc zk_49_0 pc (by omega) (by omega) else zkc zk_49_60 pc (by omega) (by omega)
theorem zkm_50 : ∀ pc, pc < zN 50 → zchk 50 pc = true := fun pc h0 => have h : pc < 75 := h0; if h0 : pc < 60 then zkc zk_50_0 pc (by omega) (by omega) else zkc zk_50_60 pc (by omega) (by omega)
theorem zkm_51 : ∀ pc, pc < zN 51 → zchk 51 pc = true := fun pc h0 => have h : pc < 102 := h0; if h0 : pc < 60 then zkc zk_51_0 pc (by omega) (by omega) else zkc zk_51_60 pc (by omega) (by omega)
theorem zkm_52 : ∀ pc, pc < zN 52 → zchk 52 pc = true := fun pc h0 => have h : pc < 96 := h0; if h0 : pc < 60 then zkc zk_52_0 pc (by omega) (by omega) else zkc zk_52_60 pc (by omega) (by omega)
theorem zkm_53 : ∀ pc, pc < zN 53 → zchk 53 pc = true := fun pc h0 => have h : pc < 94 := h0; if h0 : pc < 60 then zkc zk_53_0 pc (by omega) (by omega) else zkc zk_53_60 pc (by omega) (by omega)
theorem zkm_54 : ∀ pc, pc < zN 54 → zchk 54 pc = true := fun pc h0 => have h : pc < 103 := h0; if h0 : pc < 60 then zkc zk_54_0 pc (by omega) (by omega) else zkc zk_54_60 pc (by omega) (by omega)
theorem zkm_55 : ∀ pc, pc < zN 55 → zchk 55 pc = true := fun pc h0 => have h : pc < 64 := h0; if h0 : pc < 60 then zkc zk_55_0 pc (by omega) (by omega) else zkc zk_55_60 pc (by omega) (by omega)
theorem zkm_56 : ∀ pc, pc < zN 56 → zchk 56 pc = true := fun pc h0 => have h : pc < 64 := h0; if h0 : pc < 60 then zkc zk_56_0 pc (by omega) (by omega) else zkc zk_56_60 pc (by omega) (by omega)
theorem zkm_57 : ∀ pc, pc < zN 57 → zchk 57 pc = true := fun pc h0 => have h : pc < 53 := h0; zkc zk_57_0 pc (by omega) (by omega)
theorem zkm_58 : ∀ pc, pc < zN 58 → zchk 58 pc = true := fun pc h0 => have h : pc < 98 := h0; if h0 : pc < 60 then zkc zk_58_0 pc (by omega) (by omega) else zkc zk_58_60 pc (by omega) (by omega)
theorem zkm_59 : ∀ pc, pc < zN 59 → zchk 59 pc = true := fun pc h0 => have h : pc < 56 := h0; zkc zk_59_0 pc (by omega) (by omega)
theorem zkm_60 : ∀ pc, pc < zN 60 → zchk 60 pc = true := fun pc h0 => have h : pc < 130 := h0; if h0 : pc < 60 then zkc zk_60_0 pc (by omega) (by omega) else if h60 : pc < 120 then zkc zk_60_60 pc (by omega) (by omega) else zkc zk_60_120 pc (by omega) (by omega)
theorem zkm_61 : ∀ pc, pc < zN 61 → zchk 61 pc = true := fun pc h0 => have h : pc < 53 := h0; zkc zk_61_0 pc (by omega) (by omega)
theorem zkm_62 : ∀ pc, pc < zN 62 → zchk 62 pc = true := fun pc h0 => have h : pc < 24 := h0; zkc zk_62_0 pc (by omega) (by omega)
theorem zkm_63 : ∀ pc, pc < zN 63 → zchk 63 pc = true := fun pc h0 => have h : pc < 18 := h0; zkc zk_63_0 pc (by omega) (by omega)
theorem zkm_64 : ∀ pc, pc < zN 64 → zchk 64 pc = true := fun pc h0 => have h : pc < 23 := h0; zkc zk_64_0 pc (by omega) (by omega)
theorem zkm_65 : ∀ pc, pc < zN 65 → zchk 65 pc = true := fun pc h0 => have h : pc < 193 := h0; if h0 : pc < 60 then zkc zk_65_0 pc (by omega) (by omega) else if h60 : pc < 120 then zkc zk_65_60 pc (by omega) (by omega) else if h120 : pc < 180 then zkc zk_65_120 pc (by omega) (by omega) else zkc zk_65_180 pc (by omega) (by omega)
theorem zkm_66 : ∀ pc, pc < zN 66 → zchk 66 pc = true := fun pc h0 => have h : pc < 77 := h0; if h0 : pc < 60 then zkc zk_66_0 pc (by omega) (by omega) else zkc zk_66_60 pc (by omega) (by omega)
theorem zkm_67 : ∀ pc, pc < zN 67 → zchk 67 pc = true := fun pc h0 => have h : pc < 131 := h0; if h0 : pc < 60 then zkc zk_67_0 pc (by omega) (by omega) else if h60 : pc < 120 then zkc zk_67_60 pc (by omega) (by omega) else zkc zk_67_120 pc (by omega) (by omega)
theorem zkm_68 : ∀ pc, pc < zN 68 → zchk 68 pc = true := fun pc h0 => have h : pc < 126 := h0; if h0 : pc < 60 then zkc zk_68_0 pc (by omega) (by omega) else if h60 : pc < 120 then zkc zk_68_60 pc (by omega) (by omega) else zkc zk_68_120 pc (by omega) (by omega)
theorem zkm_69 : ∀ pc, pc < zN 69 → zchk 69 pc = true := fun pc h0 => have h : pc < 95 := h0; if h0 : pc < 60 then zkc zk_69_0 pc (by omega) (by omega) else zkc zk_69_60 pc (by omega) (by omega)
theorem zkm_70 : ∀ pc, pc < zN 70 → zchk 70 pc = true := fun pc h0 => have h : pc < 43 := h0; zkc zk_70_0 pc (by omega) (by omega)
theorem zkm_71 : ∀ pc, pc < zN 71 → zchk 71 pc = true := fun pc h0 => have h : pc < 35 := h0; zkc zk_71_0 pc (by omega) (by omega)
theorem zkm_72 : ∀ pc, pc < zN 72 → zchk 72 pc = true := fun pc h0 => have h : pc < 40 := h0; zkc zk_72_0 pc (by omega) (by omega)
theorem zkm_73 : ∀ pc, pc < zN 73 → zchk 73 pc = true := fun pc h0 => have h : pc < 110 := h0; if h0 : pc < 60 then zkc zk_73_0 pc (by omega) (by omega) else zkc zk_73_60 pc (by omega) (by omega)
theorem zkm_74 : ∀ pc, pc < zN 74 → zchk 74 pc = true := fun pc h0 => have h : pc < 51 := h0; zkc zk_74_0 pc (by omega) (by omega)
theorem zkm_75 : ∀ pc, pc < zN 75 → zchk 75 pc = true := fun pc h0 => have h : pc < 24 := h0; zkc zk_75_0 pc (by omega) (by omega)
theorem zkm_76 : ∀ pc, pc < zN 76 → zchk 76 pc = true := fun pc h0 => have h : pc < 15 := h0; zkc zk_76_0 pc (by omega) (by omega)
theorem zkm_77 : ∀ pc, pc < zN 77 → zchk 77 pc = true := fun pc h0 => have h : pc < 19 := h0; zkc zk_77_0 pc (by omega) (by omega)
theorem zkm_78 : ∀ pc, pc < zN 78 → zchk 78 pc = true := fun pc h0 => have h : pc < 16 := h0; zkc zk_78_0 pc (by omega) (by omega)
theorem zkm_79 : ∀ pc, pc < zN 79 → zchk 79 pc = true := fun pc h0 => have h : pc < 173 := h0; if h0 : pc < 60 then zkc zk_79_0 pc (by omega) (by omega) else if h60 : pc < 120 then zkc zk_79_60 pc (by omega) (by omega) else zkc zk_79_120 pc (by omega) (by omega)
theorem zkm_80 : ∀ pc, pc < zN 80 → zchk 80 pc = true := fun pc h0 => have h : pc < 79 := h0; if h0 : pc < 60 then zkc zk_80_0 pc (by omega) (by omega) else zkc zk_80_60 pc (by omega) (by omega)
theorem zkm_81 : ∀ pc, pc < zN 81 → zchk 81 pc = true := fun pc h0 => have h : pc < 25 := h0; zkc zk_81_0 pc (by omega) (by omega)
theorem zkm_82 : ∀ pc, pc < zN 82 → zchk 82 pc = true := fun pc h0 => have h : pc < 40 := h0; zkc zk_82_0 pc (by omega) (by omega)
theorem zkm_83 : ∀ pc, pc < zN 83 → zchk 83 pc = true := fun pc h0 => have h : pc < 49 := h0; zkc zk_83_0 pc (by omega) (by omega)
theorem zkm_84 : ∀ pc, pc < zN 84 → zchk 84 pc = true := fun pc h0 => have h : pc < 22 := h0; zkc zk_84_0 pc (by omega) (by omega)
theorem zkm_85 : ∀ pc, pc < zN 85 → zchk 85 pc = true := fun pc h0 => have h : pc < 16 := h0; zkc zk_85_0 pc (by omega) (by omega)
theorem zkm_86 : ∀ pc, pc < zN 86 → zchk 86 pc = true := fun pc h0 => have h : pc < 16 := h0; zkc zk_86_0 pc (by omega) (by omega)
theorem zkm_87 : ∀ pc, pc < zN 87 → zchk 87 pc = true := fun pc h0 => have h : pc < 57 := h0; zkc zk_87_0 pc (by omega) (by omega)
theorem zkm_88 : ∀ pc, pc < zN 88 → zchk 88 pc = true := fun pc h0 => have h : pc < 37 := h0; zkc zk_88_0 pc (by omega) (by omega)
theorem zkm_89 : ∀ pc, pc < zN 89 → zchk 89 pc = true := fun pc h0 => have h : pc < 44 := h0; zkc zk_89_0 pc (by omega) (by omega)
theorem zkm_90 : ∀ pc, pc < zN 90 → zchk 90 pc = true := fun pc h0 => have h : pc < 67 := h0; if h0 : pc < 60 then zkc zk_90_0 pc (by omega) (by omega) else zkc zk_90_60 pc (by omega) (by omega)
theorem zkm_91 : ∀ pc, pc < zN 91 → zchk 91 pc = true := fun pc h0 => have h : pc < 44 := h0; zkc zk_91_0 pc (by omega) (by omega)
theorem zkm_92 : ∀ pc, pc < zN 92 → zchk 92 pc = true := fun pc h0 => have h : pc < 22 := h0; zkc zk_92_0 pc (by omega) (by omega)
theorem zkm_93 : ∀ pc, pc < zN 93 → zchk 93 pc = true := fun pc h0 => have h : pc < 140 := h0; if h0 : pc < 60 then zkc zk_93_0 pc (by omega) (by omega) else if h60 : pc < 120 then zkc zk_93_60 pc (by omega) (by omega) else zkc zk_93_120 pc (by omega) (by omega)
theorem zkm_94 : ∀ pc, pc < zN 94 → zchk 94 pc = true := fun pc h0 => have h : pc < 43 := h0; zkc zk_94_0 pc (by omega) (by omega)
theorem zkm_95 : ∀ pc, pc < zN 95 → zchk 95 pc = true := fun pc h0 => have h : pc < 121 := h0; if h0 : pc < 60 then zkc zk_95_0 pc (by omega) (by omega) else if h60 : pc < 120 then zkc zk_95_60 pc (by omega) (by omega) else zkc zk_95_120 pc (by omega) (by omega)
theorem zkm_96 : ∀ pc, pc < zN 96 → zchk 96 pc = true := fun pc h0 => have h : pc < 106 := h0; if h0 : pc < 60 then zkc zk_96_0 pc (by omega) (by omega) else zkc zk_96_60 pc (by omega) (by omega)
theorem zkm_97 : ∀ pc, pc < zN 97 → zchk 97 pc = true := fun pc h0 => have h : pc < 44 := h0; zkc zk_97_0 pc (by omega) (by omega)
theorem zkm_98 : ∀ pc, pc < zN 98 → zchk 98 pc = true := fun pc h0 => have h : pc < 23 := h0; zkc zk_98_0 pc (by omega) (by omega)
theorem zkm_99 : ∀ pc, pc < zN 99 → zchk 99 pc = true := fun pc h0 => have h : pc < 70 := h0; if h0 : pc < 60 then zkc zk_99_0 pc (by omega) (by omega) else zkc zk_99_60 pc (by omega) (by omega)
theorem zkm_100 : ∀ pc, pc < zN 100 → zchk 100 pc = true := fun pc h0 => have h : pc < 155 := h0; if h0 : pc < 60 then zkc zk_100_0 pc (by omega) (by omega) else if h60 : pc < 120 then zkc zk_100_60 pc (by omega) (by omega) else zkc zk_100_120 pc (by omega) (by omega)
theorem zkm_101 : ∀ pc, pc < zN 101 → zchk 101 pc = true := fun pc h0 => have h : pc < 26 := h0; zkc zk_101_0 pc (by omega) (by omega)
theorem zkm_102 : ∀ pc, pc < zN 102 → zchk 102 pc = true := fun pc h0 => have h : pc < 43 := h0; zkc zk_102_0 pc (by omega) (by omega)
theorem zkm_103 : ∀ pc, pc < zN 103 → zchk 103 pc = true := fun pc h0 => have h : pc < 69 := h0; if h0 : pc < 60 then zkc zk_103_0 pc (by omega) (by omega) else zkc zk_103_60 pc (by omega) (by omega)
theorem zkm_104 : ∀ pc, pc < zN 104 → zchk 104 pc = true := fun pc h0 => have h : pc < 92 := h0; if h0 : pc < 60 then zkc zk_104_0 pc (by omega) (by omega) else zkc zk_104_60 pc (by omega) (by omega)
theorem zkm_105 : ∀ pc, pc < zN 105 → zchk 105 pc = true := fun pc h0 => have h : pc < 62 := h0; if h0 : pc < 60 then zkc zk_105_0 pc (by omega) (by omega) else zkc zk_105_60 pc (by omega) (by omega)
theorem zkm_106 : ∀ pc, pc < zN 106 → zchk 106 pc = true := fun pc h0 => have h : pc < 118 := h0; if h0 : pc < 60 then zkc zk_106_0 pc (by omega) (by omega) else zkc zk_106_60 pc (by omega) (by omega)
theorem zkm_107 : ∀ pc, pc < zN 107 → zchk 107 pc = true := fun pc h0 => have h : pc < 55 := h0; zkc zk_107_0 pc (by omega) (by omega)
theorem zkm_108 : ∀ pc, pc < zN 108 → zchk 108 pc = true := fun pc h0 => have h : pc < 72 := h0; if h0 : pc < 60 then zkc zk_108_0 pc (by omega) (by omega) else zkc zk_108_60 pc (by omega) (by omega)
theorem zkm_109 : ∀ pc, pc < zN 109 → zchk 109 pc = true := fun pc h0 => have h : pc < 158 := h0; if h0 : pc < 60 then zkc zk_109_0 pc (by omega) (by omega) else if h60 : pc < 120 then zkc zk_109_60 pc (by omega) (by omega) else zkc zk_109_120 pc (by omega) (by omega)
theorem zkm_110 : ∀ pc, pc < zN 110 → zchk 110 pc = true := fun pc h0 => have h : pc < 31 := h0; zkc zk_110_0 pc (by omega) (by omega)
theorem zkm_111 : ∀ pc, pc < zN 111 → zchk 111 pc = true := fun pc h0 => have h : pc < 229 := h0; if h0 : pc < 60 then zkc zk_111_0 pc (by omega) (by omega) else if h60 : pc < 120 then zkc zk_111_60 pc (by omega) (by omega) else if h120 : pc < 180 then zkc zk_111_120 pc (by omega) (by omega) else zkc zk_111_180 pc (by omega) (by omega)
theorem zkm_112 : ∀ pc, pc < zN 112 → zchk 112 pc = true := fun pc h0 => have h : pc < 77 := h0; if h0 : pc < 60 then zkc zk_112_0 pc (by omega) (by omega) else zkc zk_112_60 pc (by omega) (by omega)
theorem zkm_113 : ∀ pc, pc < zN 113 → zchk 113 pc = true := fun pc h0 => have h : pc < 66 := h0; if h0 : pc < 60 then zkc zk_113_0 pc (by omega) (by omega) else zkc zk_113_60 pc (by omega) (by omega)
theorem zkm_114 : ∀ pc, pc < zN 114 → zchk 114 pc = true := fun pc h0 => have h : pc < 30 := h0; zkc zk_114_0 pc (by omega) (by omega)
theorem zkm_115 : ∀ pc, pc < zN 115 → zchk 115 pc = true := fun pc h0 => have h : pc < 161 := h0; if h0 : pc < 60 then zkc zk_115_0 pc (by omega) (by omega) else if h60 : pc < 120 then zkc zk_115_60 pc (by omega) (by omega) else zkc zk_115_120 pc (by omega) (by omega)
theorem zkm_116 : ∀ pc, pc < zN 116 → zchk 116 pc = true := fun pc h0 => have h : pc < 15 := h0; zkc zk_116_0 pc (by omega) (by omega)
theorem zkm_117 : ∀ pc, pc < zN 117 → zchk 117 pc = true := fun pc h0 => have h : pc < 33 := h0; zkc zk_117_0 pc (by omega) (by omega)
theorem zkm_118 : ∀ pc, pc < zN 118 → zchk 118 pc = true := fun pc h0 => have h : pc < 38 := h0; zkc zk_118_0 pc (by omega) (by omega)
theorem zkm_119 : ∀ pc, pc < zN 119 → zchk 119 pc = true := fun pc h0 => have h : pc < 30 := h0; zkc zk_119_0 pc (by omega) (by omega)
theorem zkm_120 : ∀ pc, pc < zN 120 → zchk 120 pc = true := fun pc h0 => have h : pc < 57 := h0; zkc zk_120_0 pc (by omega) (by omega)
theorem zkm_121 : ∀ pc, pc < zN 121 → zchk 121 pc = true := fun pc h0 => have h : pc < 73 := h0; if h0 : pc < 60 then zkc zk_121_0 pc (by omega) (by omega) else zkc zk_121_60 pc (by omega) (by omega)
theorem zkm_122 : ∀ pc, pc < zN 122 → zchk 122 pc = true := fun pc h0 => have h : pc < 253 := h0; if h0 : pc < 60 then zkc zk_122_0 pc (by omega) (by omega) else if h60 : pc < 120 then zkc zk_122_60 pc (by omega) (by omega) else if h120 : pc < 180 then zkc zk_122_120 pc (by omega) (by omega) else if h180 : pc < 240 then zkc zk_122_180 pc (by omega) (by omega) else zkc zk_122_240 pc (by omega) (by omega)
theorem zkm_123 : ∀ pc, pc < zN 123 → zchk 123 pc = true := fun pc h0 => have h : pc < 143 := h0; if h0 : pc < 60 then zkc zk_123_0 pc (by omega) (by omega) else if h60 : pc < 120 then zkc zk_123_60 pc (by omega) (by omega) else zkc zk_123_120 pc (by omega) (by omega)
theorem zkm_124 : ∀ pc, pc < zN 124 → zchk 124 pc = true := fun pc h0 => have h : pc < 84 := h0; if h0 : pc < 60 then zkc zk_124_0 pc (by omega) (by omega) else zkc zk_124_60 pc (by omega) (by omega)
theorem zkm_125 : ∀ pc, pc < zN 125 → zchk 125 pc = true := fun pc h0 => have h : pc < 68 := h0; if h0 : pc < 60 then zkc zk_125_0 pc (by omega) (by omega) else zkc zk_125_60 pc (by omega) (by omega)
theorem zkm_126 : ∀ pc, pc < zN 126 → zchk 126 pc = true := fun pc h0 => have h : pc < 42 := h0; zkc zk_126_0 pc (by omega) (by omega)
theorem zkm_127 : ∀ pc, pc < zN 127 → zchk 127 pc = true := fun pc h0 => have h : pc < 64 := h0; if h0 : pc < 60 then zkc zk_127_0 pc (by omega) (by omega) else zkc zk_127_60 pc (by omega) (by omega)
theorem zkm_128 : ∀ pc, pc < zN 128 → zchk 128 pc = true := fun pc h0 => have h : pc < 176 := h0; if h0 : pc < 60 then zkc zk_128_0 pc (by omega) (by omega) else if h60 : pc < 120 then zkc zk_128_60 pc (by omega) (by omega) else zkc zk_128_120 pc (by omega) (by omega)
theorem zkm_129 : ∀ pc, pc < zN 129 → zchk 129 pc = true := fun pc h0 => have h : pc < 11 := h0; zkc zk_129_0 pc (by omega) (by omega)
theorem zkm_130 : ∀ pc, pc < zN 130 → zchk 130 pc = true := fun pc h0 => have h : pc < 7 := h0; zkc zk_130_0 pc (by omega) (by omega)
theorem zkm_131 : ∀ pc, pc < zN 131 → zchk 131 pc = true := fun pc h0 => have h : pc < 37 := h0; zkc zk_131_0 pc (by omega) (by omega)
theorem zkm_132 : ∀ pc, pc < zN 132 → zchk 132 pc = true := fun pc h0 => have h : pc < 15 := h0; zkc zk_132_0 pc (by omega) (by omega)
theorem zkm_133 : ∀ pc, pc < zN 133 → zchk 133 pc = true := fun pc h0 => have h : pc < 19 := h0; zkc zk_133_0 pc (by omega) (by omega)
theorem zkm_134 : ∀ pc, pc < zN 134 → zchk 134 pc = true := fun pc h0 => have h : pc < 17 := h0; zkc zk_134_0 pc (by omega) (by omega)
theorem zkm_135 : ∀ pc, pc < zN 135 → zchk 135 pc = true := fun pc h0 => have h : pc < 37 := h0; zkc zk_135_0 pc (by omega) (by omega)
theorem zkm_136 : ∀ pc, pc < zN 136 → zchk 136 pc = true := fun pc h0 => have h : pc < 33 := h0; zkc zk_136_0 pc (by omega) (by omega)
theorem zkm_137 : ∀ pc, pc < zN 137 → zchk 137 pc = true := fun pc h0 => have h : pc < 53 := h0; zkc zk_137_0 pc (by omega) (by omega)
theorem zkm_138 : ∀ pc, pc < zN 138 → zchk 138 pc = true := fun pc h0 => have h : pc < 1214 := h0; if h0 : pc < 60 then zkc zk_138_0 pc (by omega) (by omega) else if h60 : pc < 120 then zkc zk_138_60 pc (by omega) (by omega) else if h120 : pc < 180 then zkc zk_138_120 pc (by omega) (by omega) else if h180 : pc < 240 then zkc zk_138_180 pc (by omega) (by omega) else if h240 : pc < 300 then zkc zk_138_240 pc (by omega) (by omega) else if h300 : pc < 360 then zkc zk_138_300 pc (by omega) (by omega) else if h360 : pc < 420 then zkc zk_138_360 pc (by omega) (by omega) else if h420 : pc < 480 then zkc zk_138_420 pc (by omega) (by omega) else if h480 : pc < 540 then zkc zk_138_480 pc (by omega) (by omega) else if h540 : pc < 600 then zkc zk_138_540 pc (by omega) (by omega) else if h600 : pc < 660 then zkc zk_138_600 pc (by omega) (by omega) else if h660 : pc < 720 then zkc zk_138_660 pc (by omega) (by omega) else if h720 : pc < 780 then zkc zk_138_720 pc (by omega) (by omega) else if h780 : pc < 840 then zkc zk_138_780 pc (by omega) (by omega) else if h840 : pc < 900 then zkc zk_138_840 pc (by omega) (by omega) else if h900 : pc < 960 then zkc zk_138_900 pc (by omega) (by omega) else if h960 : pc < 1020 then zkc zk_138_960 pc (by omega) (by omega) else if h1020 : pc < 1080 then zkc zk_138_1020 pc (by omega) (by omega) else if h1080 : pc < 1140 then zkc zk_138_1080 pc (by omega) (by omega) else if h1140 : pc < 1200 then zkc zk_138_1140 pc (by omega) (by omega) else zkc zk_138_1200 pc (by omega) (by omega)
theorem zkm_to_20 : ∀ a, a < 20 → ∀ pc, pc < zN a → zchk a pc = true := lt_s (lt_s (lt_s (lt_s (lt_s (lt_s (lt_s (lt_s (lt_s (lt_s (lt_s (lt_s (lt_s (lt_s (lt_s (lt_s (lt_s (lt_s (lt_s (lt_s (lt_0) zkm_0) zkm_1) zkm_2) zkm_3) zkm_4) zkm_5) zkm_6) zkm_7) zkm_8) zkm_9) zkm_10) zkm_11) zkm_12) zkm_13) zkm_14) zkm_15) zkm_16) zkm_17) zkm_18) zkm_19
theorem zkm_to_40 : ∀ a, a < 40 → ∀ pc, pc < zN a → zchk a pc = true := lt_s (lt_s (lt_s (lt_s (lt_s (lt_s (lt_s (lt_s (lt_s (lt_s (lt_s (lt_s (lt_s (lt_s (lt_s (lt_s (lt_s (lt_s (lt_s (lt_s (zkm_to_20) zkm_20) zkm_21) zkm_22) zkm_23) zkm_24) zkm_25) zkm_26) zkm_27) zkm_28) zkm_29) zkm_30) zkm_31) zkm_32) zkm_33) zkm_34) zkm_35) zkm_36) zkm_37) zkm_38) zkm_39
theorem zkm_to_60 : ∀ a, a < 60 → ∀ pc, pc < zN a → zchk a pc = true := lt_s (lt_s (lt_s (lt_s (lt_s (lt_s (lt_s (lt_s (lt_s (lt_s (lt_s (lt_s (lt_s (lt_s (lt_s (lt_s (lt_s (lt_s (lt_s (lt_s (zkm_to_40) zkm_40) zkm_41) zkm_42) zkm_43) zkm_44) zkm_45) zkm_46) zkm_47) zkm_48) zkm_49) zkm_50) zkm_51) zkm_52) zkm_53) zkm_54) zkm_55) zkm_56) zkm_57) zkm_58) zkm_59
theorem zkm_to_80 : ∀ a, a < 80 → ∀ pc, pc < zN a → zchk a pc = true := lt_s (lt_s (lt_s (lt_s (lt_s (lt_s (lt_s (lt_s (lt_s (lt_s (lt_s (lt_s (lt_s (lt_s (lt_s (lt_s (lt_s (lt_s (lt_s (lt_s (zkm_to_60) zkm_60) zkm_61) zkm_62) zkm_63) zkm_64) zkm_65) zkm_66) zkm_67) zkm_68) zkm_69) zkm_70) zkm_71) zkm_72) zkm_73) zkm_74) zkm_75) zkm_76) zkm_77) zkm_78) zkm_79
theorem zkm_to_100 : ∀ a, a < 100 → ∀ pc, pc < zN a → zchk a pc = true := lt_s (lt_s (lt_s (lt_s (lt_s (lt_s (lt_s (lt_s (lt_s (lt_s (lt_s (lt_s (lt_s (lt_s (lt_s (lt_s (lt_s (lt_s (lt_s (lt_s (zkm_to_80) zkm_80) zkm_81) zkm_82) zkm_83) zkm_84) zkm_85) zkm_86) zkm_87) zkm_88) zkm_89) zkm_90) zkm_91) zkm_92) zkm_93) zkm_94) zkm_95) zkm_96) zkm_97) zkm_98) zkm_99
theorem zkm_to_120 : ∀ a, a < 120 → ∀ pc, pc < zN a → zchk a pc = true := lt_s (lt_s (lt_s (lt_s (lt_s (lt_s (lt_s (lt_s (lt_s (lt_s (lt_s (lt_s (lt_s (lt_s (lt_s (lt_s (lt_s (lt_s (lt_s (lt_s (zkm_to_100) zkm_100) zkm_101) zkm_102) zkm_103) zkm_104) zkm_105) zkm_106) zkm_107) zkm_108) zkm_109) zkm_110) zkm_111) zkm_112) zkm_113) zkm_114) zkm_115) zkm_116) zkm_117) zkm_118) zkm_119
theorem zkm_to_139 : ∀ a, a < 139 → ∀ pc, pc < zN a → zchk a pc = true := lt_s (lt_s (lt_s (lt_s (lt_s (lt_s (lt_s (lt_s (lt_s (lt_s (lt_s (lt_s (lt_s (lt_s (lt_s (lt_s (lt_s (lt_s (lt_s (zkm_to_120) zkm_120) zkm_121) zkm_122) zkm_123) zkm_124) zkm_125) zkm_126) zkm_127) zkm_128) zkm_129) zkm_130) zkm_131) zkm_132) zkm_133) zkm_134) zkm_135) zkm_136) zkm_137) zkm_138
theorem zchk_use {mi pc : Nat} {ee : zE} (hne : ee.1 ≠ 99) (h : (match ee.1 with
  | 99 => true
  | _ => (match decode (zb mi) pc with
    | .ok (i, ln) => zchi mi pc i ln ee
    | .error _ => false)) = true) : ∃ i ln, decode (zb mi) pc = .ok (i, ln) ∧ zchi mi pc i ln ee = true := by
  split at h
  · rename_i q; exact absurd q hne
  · cases hd : decode (zb mi) pc with
    | error x => rw [hd] at h; cases h
    | ok q =>
      obtain ⟨i, ln⟩ := q
      rw [hd] at h
      exact ⟨i, ln, rfl, h⟩
theorem zany {α : Type} {l : List α} {P : α → Bool} {x : α} (h : l.any P = true) (hP : ∀ y, P y = true → y = x) : x ∈ l := by
  obtain ⟨y, h1, h2⟩ := List.any_eq_true.mp h
  rw [← hP y h2]; exact h1
theorem zpl_sc : ∀ q, zcls q < 7 ∨ True := fun _ => Or.inr trivial
section ZS
variable {p : Program} {l : Launch} {e : Env} {R : Room} {s : State} {m : MethodId} {args : Array Value} {below : List Frame} {meth : Method} {c : Code} {cells slots : Nat} {Q : State → Prop} {D : va_G} {dA ad : Nat → Nat}
set_option maxHeartbeats 8000000 in
theorem z_step {mi : Nat} (hmi : mi < 139) (hx : p.tables.exec = Jvm.exec) (hb : c.code = zb mi) (hml : c.maxLocals = zl mi) (hown : s.vm.findClass (zR (zown mi)) = some m.cls) (hts : ∀ w ∈ zGT, w.before args s = true) (hE : zEnv D dA ad s s.heap)
    {rm : Room} {Call : Nat → List zV → zM → (zM → Option zV → Prop) → Prop} {K : zM → Option zV → Prop} {sL : Nat} {xs : Nat → Int} {xt : Nat → Int32}
    (hC : ∀ (mi : Nat) (as : List zV) (σ : zM) (K : zM → Option zV → Prop), mi < 138 → Call mi as σ K → zokM σ → (∀ v ∈ as, zokV v) → Met l (zy mi) (zws mi) rm (zPc D dA ad as σ) (zQc D dA ad K) 0 0 (zA ad)) (hrm : rm.cells = 0 ∧ rm.slots = 0 ∧ rm.frames + 1 ≤ R.frames ∧ 40 + rm.locals ≤ R.locals ∧ cells ≤ R.cells ∧ slots ≤ R.slots)
    (hRet : ∀ (r : Option zV) (pc : Nat) (ls : Array Slot) (H : Heap) (locs : List Loc) (σ : zM), zretOk mi pc r → K σ r → zokM σ → (∀ v, r = some v → zokV v) → va_P D vwCl (zwl dA ad σ) H → va_S (zA ad) s.heap H locs → W p l e R s m args below meth c H locs cells slots Q (F0 m pc ls ((r.map (zcv ad)).toList)))
    (hScr : mi = 138 → (va_X (ad 43) sL xt s s.heap ∧ ad 43 < s.heap.size ∧ ¬ zA ad (ad 43)) ∧ sL < 100000 ∧ ∀ j, xs j = (xt j).toInt)
    {S : zS} (h : zStep Call K sL xs (zWX p l e R s m args below meth c cells slots Q D dA ad (zl mi)) mi S) : zWX p l e R s m args below meth c cells slots Q D dA ad (zl mi) S := by
  obtain ⟨pc, L, st, σ⟩ := S
  unfold zStep at h
  cases hbl : Nat.blt pc (zN mi) with
  | false => rw [hbl] at h; exact h.elim
  | true =>
  rw [hbl] at h
  have hlt : pc < zN mi := by simpa [Nat.blt_eq] using hbl
  have hck := zkm_to_139 mi hmi pc hlt
  unfold zchk at hck
  dsimp only at h
  generalize zcode mi pc = ee at h hck
  by_cases h99 : ee.1 = 99
  · obtain ⟨op, nxt, a, b, z⟩ := ee
    cases h99
    exact h.elim
  obtain ⟨i, ln, hd, hi⟩ := zchk_use h99 hck
  clear hck
  obtain ⟨op, nxt, a, b, z⟩ := ee
  unfold zchi at hi
  rw [Bool.and_eq_true] at hi
  obtain ⟨hn, hi⟩ := hi
  have hnx : nxt = pc + ln := Nat.eq_of_beq_eq_true hn
  subst hnx
  clear hn h99
  have hRf : 1 ≤ R.frames ∧ 40 ≤ R.locals := ⟨by omega, by omega⟩
  unfold zEx at h
  dsimp only at h
  split at h
  · replace hi : (match (generalizing := false) i with | .iconst n => decide (ln = 1 ∧ n = z ∧ -1 ≤ z ∧ z ≤ 5) | .bipush n => decide (ln = 2 ∧ n = z ∧ -128 ≤ z ∧ z < 128) | .sipush n => decide (ln = 3 ∧ n = z ∧ -32768 ≤ z ∧ z < 32768) | .ldc n => decide (ln = 2 ∧ n = a ∧ (zown mi, a, z) ∈ zcst) | .ldc_w n => decide (ln = 3 ∧ n = a ∧ (zown mi, a, z) ∈ zcst) | _ => false) = true := hi
    split at hi
    · obtain ⟨rfl, rfl, h1, h2⟩ := of_decide_eq_true hi
      exact zo_iconst hx hb hml hown hts hE hd ⟨by omega, by omega⟩ h
    · obtain ⟨rfl, rfl, h1, h2⟩ := of_decide_eq_true hi
      exact zo_bipush hx hb hml hown hts hE hd ⟨h1, h2⟩ h
    · obtain ⟨rfl, rfl, h1, h2⟩ := of_decide_eq_true hi
      exact zo_sipush hx hb hml hown hts hE hd ⟨h1, h2⟩ h
    · obtain ⟨rfl, rfl, h1⟩ := of_decide_eq_true hi
      exact zo_ldc hx hb hml hown hts hE hd h1 h
    · obtain ⟨rfl, rfl, h1⟩ := of_decide_eq_true hi
      exact zo_ldcw hx hb hml hown hts hE hd h1 h
    · cases hi
  · obtain ⟨x, hL1, hk⟩ := zld_1 h
    clear h
    replace hi : (match (generalizing := false) i with | .iload_n k => decide (ln = 1 ∧ (k : Nat) = a) | .iload k => decide (ln = 2 ∧ k = a) | _ => false) = true := hi
    split at hi
    · obtain ⟨rfl, rfl⟩ := of_decide_eq_true hi
      exact zo_iload_n hx hb hml hown hts hE hd hL1 hk
    · obtain ⟨rfl, rfl⟩ := of_decide_eq_true hi
      exact zo_iload hx hb hml hown hts hE hd hL1 hk
    · cases hi
  · have h2 := zld_2 h
    clear h
    replace hi : (match (generalizing := false) i with | .aload_n k => decide (ln = 1 ∧ (k : Nat) = a) | .aload k => decide (ln = 2 ∧ k = a) | _ => false) = true := hi
    split at hi
    · obtain ⟨rfl, rfl⟩ := of_decide_eq_true hi
      rcases h2 with ⟨x, hL1, h⟩ | ⟨hL1, h⟩
      · exact zo_aload_n hx hb hml hown hts hE hd hL1 h
      · exact zo_aload_nN hx hb hml hown hts hE hd hL1 h
    · obtain ⟨rfl, rfl⟩ := of_decide_eq_true hi
      rcases h2 with ⟨x, hL1, h⟩ | ⟨hL1, h⟩
      · exact zo_aload hx hb hml hown hts hE hd hL1 h
      · exact zo_aloadN hx hb hml hown hts hE hd hL1 h
    · cases hi
  · obtain ⟨x, hL1, hk⟩ := zld_3 h
    clear h
    replace hi : (match (generalizing := false) i with | .lload_n k => decide (ln = 1 ∧ (k : Nat) = a) | .lload k => decide (ln = 2 ∧ k = a) | _ => false) = true := hi
    split at hi
    · obtain ⟨rfl, rfl⟩ := of_decide_eq_true hi
      exact zo_lload_n hx hb hml hown hts hE hd hL1 hk
    · obtain ⟨rfl, rfl⟩ := of_decide_eq_true hi
      exact zo_lload hx hb hml hown hts hE hd hL1 hk
    · cases hi
  · split at h
    · replace hi : (match (generalizing := false) i with | .istore_n k => decide (ln = 1 ∧ (k : Nat) = a ∧ a < zl mi) | .istore k => decide (ln = 2 ∧ k = a ∧ a < zl mi) | _ => false) = true := hi
      split at hi
      · obtain ⟨rfl, rfl, h1⟩ := of_decide_eq_true hi
        exact zo_istore_n hx hb hml hown hts hE hd h1 h
      · obtain ⟨rfl, rfl, h1⟩ := of_decide_eq_true hi
        exact zo_istore hx hb hml hown hts hE hd h1 h
      · cases hi
    · exact h.elim
  · split at h
    · replace hi : (match (generalizing := false) i with | .astore_n k => decide (ln = 1 ∧ (k : Nat) = a ∧ a < zl mi) | .astore k => decide (ln = 2 ∧ k = a ∧ a < zl mi) | _ => false) = true := hi
      split at hi
      · obtain ⟨rfl, rfl, h1⟩ := of_decide_eq_true hi
        exact zo_astore_n hx hb hml hown hts hE hd h1 h
      · obtain ⟨rfl, rfl, h1⟩ := of_decide_eq_true hi
        exact zo_astore hx hb hml hown hts hE hd h1 h
      · cases hi
    · replace hi : (match (generalizing := false) i with | .astore_n k => decide (ln = 1 ∧ (k : Nat) = a ∧ a < zl mi) | .astore k => decide (ln = 2 ∧ k = a ∧ a < zl mi) | _ => false) = true := hi
      split at hi
      · obtain ⟨rfl, rfl, h1⟩ := of_decide_eq_true hi
        exact zo_astore_nN hx hb hml hown hts hE hd h1 h
      · obtain ⟨rfl, rfl, h1⟩ := of_decide_eq_true hi
        exact zo_astoreN hx hb hml hown hts hE hd h1 h
      · cases hi
    · exact h.elim
  · split at h
    · replace hi : (match (generalizing := false) i with | .lstore_n k => decide (ln = 1 ∧ (k : Nat) = a ∧ a + 1 < zl mi) | .lstore k => decide (ln = 2 ∧ k = a ∧ a + 1 < zl mi) | _ => false) = true := hi
      split at hi
      · obtain ⟨rfl, rfl, h1⟩ := of_decide_eq_true hi
        exact zo_lstore_n hx hb hml hown hts hE hd h1 h
      · obtain ⟨rfl, rfl, h1⟩ := of_decide_eq_true hi
        exact zo_lstore hx hb hml hown hts hE hd h1 h
      · cases hi
    · exact h.elim
  · obtain ⟨x, hL1, hk⟩ := zld_1 h
    clear h
    replace hi : (match (generalizing := false) i with | .iinc k n => decide (ln = 3 ∧ k = a ∧ n = z ∧ a < zl mi) | _ => false) = true := hi
    split at hi
    · obtain ⟨rfl, rfl, rfl, h1⟩ := of_decide_eq_true hi
      exact zo_iinc hx hb hml hown hts hE hd hL1 h1 hk
    · cases hi
  · split at h
    · replace hi : (match (generalizing := false) i with | .iadd => decide (ln = 1 ∧ a = 0) | .isub => decide (ln = 1 ∧ a = 1) | .imul => decide (ln = 1 ∧ a = 2) | .iand => decide (ln = 1 ∧ a = 3) | .ior => decide (ln = 1 ∧ a = 4) | .ishl => decide (ln = 1 ∧ a = 5) | .ishr => decide (ln = 1 ∧ a = 6) | .iushr => decide (ln = 1 ∧ a = 7) | _ => false) = true := hi
      split at hi
      · obtain ⟨rfl, rfl⟩ := of_decide_eq_true hi
        exact zo_iadd hx hb hml hown hts hE hd h
      · obtain ⟨rfl, rfl⟩ := of_decide_eq_true hi
        exact zo_isub hx hb hml hown hts hE hd h
      · obtain ⟨rfl, rfl⟩ := of_decide_eq_true hi
        exact zo_imul hx hb hml hown hts hE hd h
      · obtain ⟨rfl, rfl⟩ := of_decide_eq_true hi
        exact zo_iand hx hb hml hown hts hE hd h
      · obtain ⟨rfl, rfl⟩ := of_decide_eq_true hi
        exact zo_ior hx hb hml hown hts hE hd h
      · obtain ⟨rfl, rfl⟩ := of_decide_eq_true hi
        exact zo_ishl hx hb hml hown hts hE hd h
      · obtain ⟨rfl, rfl⟩ := of_decide_eq_true hi
        exact zo_ishr hx hb hml hown hts hE hd h
      · obtain ⟨rfl, rfl⟩ := of_decide_eq_true hi
        exact zo_iushr hx hb hml hown hts hE hd h
      · cases hi
    · exact h.elim
  · split at h
    · replace hi : (match (generalizing := false) i with | .idiv => decide (ln = 1) | _ => false) = true := hi
      split at hi
      · obtain rfl := of_decide_eq_true hi
        exact zo_idiv hx hb hml hown hts hE hd h.1 h.2
      · cases hi
    · exact h.elim
  · split at h
    · replace hi : (match (generalizing := false) i with | .irem => decide (ln = 1) | _ => false) = true := hi
      split at hi
      · obtain rfl := of_decide_eq_true hi
        exact zo_irem hx hb hml hown hts hE hd h.1 h.2
      · cases hi
    · exact h.elim
  · split at h
    · replace hi : (match (generalizing := false) i with | .ladd => decide (ln = 1 ∧ a = 0) | .lmul => decide (ln = 1 ∧ a = 1) | .land => decide (ln = 1 ∧ a = 2) | .lor => decide (ln = 1 ∧ a = 3) | _ => false) = true := hi
      split at hi
      · obtain ⟨rfl, rfl⟩ := of_decide_eq_true hi
        exact zo_ladd hx hb hml hown hts hE hd h
      · obtain ⟨rfl, rfl⟩ := of_decide_eq_true hi
        exact zo_lmul hx hb hml hown hts hE hd h
      · obtain ⟨rfl, rfl⟩ := of_decide_eq_true hi
        exact zo_land hx hb hml hown hts hE hd h
      · obtain ⟨rfl, rfl⟩ := of_decide_eq_true hi
        exact zo_lor hx hb hml hown hts hE hd h
      · cases hi
    · exact h.elim
  · split at h
    · replace hi : (match (generalizing := false) i with | .lshl => decide (ln = 1 ∧ a = 0) | .lshr => decide (ln = 1 ∧ a = 1) | _ => false) = true := hi
      split at hi
      · obtain ⟨rfl, rfl⟩ := of_decide_eq_true hi
        exact zo_lshl hx hb hml hown hts hE hd h
      · obtain ⟨rfl, rfl⟩ := of_decide_eq_true hi
        exact zo_lshr hx hb hml hown hts hE hd h
      · cases hi
    · exact h.elim
  · split at h
    · split at h
      · rename_i w hz
        replace hi : (match (generalizing := false) i with | .i2l => decide (ln = 1 ∧ a = 0) | .l2i => decide (ln = 1 ∧ a = 1) | .i2b => decide (ln = 1 ∧ a = 2) | .i2s => decide (ln = 1 ∧ a = 3) | .i2c => decide (ln = 1 ∧ a = 4) | _ => false) = true := hi
        split at hi
        · obtain ⟨rfl, rfl⟩ := of_decide_eq_true hi
          obtain ⟨x, rfl, rfl⟩ := zcnv_0 hz
          exact zo_i2l hx hb hml hown hts hE hd h
        · obtain ⟨rfl, rfl⟩ := of_decide_eq_true hi
          obtain ⟨x, rfl, rfl⟩ := zcnv_1 hz
          exact zo_l2i hx hb hml hown hts hE hd h
        · obtain ⟨rfl, rfl⟩ := of_decide_eq_true hi
          obtain ⟨x, rfl, rfl⟩ := zcnv_2 hz
          exact zo_i2b hx hb hml hown hts hE hd h
        · obtain ⟨rfl, rfl⟩ := of_decide_eq_true hi
          obtain ⟨x, rfl, rfl⟩ := zcnv_3 hz
          exact zo_i2s hx hb hml hown hts hE hd h
        · obtain ⟨rfl, rfl⟩ := of_decide_eq_true hi
          obtain ⟨x, rfl, rfl⟩ := zcnv_4 hz
          exact zo_i2c hx hb hml hown hts hE hd h
        · cases hi
      · exact h.elim
    · exact h.elim
  · split at h
    · replace hi : (match (generalizing := false) i with | .lcmp => decide (ln = 1) | _ => false) = true := hi
      split at hi
      · obtain rfl := of_decide_eq_true hi
        exact zo_lcmp hx hb hml hown hts hE hd h
      · cases hi
    · exact h.elim
  · replace hi : (match (generalizing := false) i with | .lconst n => decide (ln = 1 ∧ ((n : Nat) : Int) = z) | .ldc2_w n => decide (ln = 3 ∧ n = a ∧ (zown mi, a, z) ∈ zcstl) | _ => false) = true := hi
    split at hi
    · obtain ⟨rfl, rfl⟩ := of_decide_eq_true hi
      exact zo_lconst hx hb hml hown hts hE hd h
    · obtain ⟨rfl, rfl, h1⟩ := of_decide_eq_true hi
      exact zo_ldc2 hx hb hml hown hts hE hd h1 h
    · cases hi
  · split at h
    · replace hi : (match (generalizing := false) i with | .ifCond .eq o => decide (ln = 3 ∧ a = 0 ∧ (pc : Int) + o = (b : Int)) | .ifCond .ne o => decide (ln = 3 ∧ a = 1 ∧ (pc : Int) + o = (b : Int)) | .ifCond .lt o => decide (ln = 3 ∧ a = 2 ∧ (pc : Int) + o = (b : Int)) | .ifCond .ge o => decide (ln = 3 ∧ a = 3 ∧ (pc : Int) + o = (b : Int)) | .ifCond .gt o => decide (ln = 3 ∧ a = 4 ∧ (pc : Int) + o = (b : Int)) | .ifCond .le o => decide (ln = 3 ∧ a = 5 ∧ (pc : Int) + o = (b : Int)) | _ => false) = true := hi
      split at hi
      · obtain ⟨rfl, rfl, h1⟩ := of_decide_eq_true hi
        exact zo_if_eq hx hb hml hown hts hE hd h1 h.1 h.2
      · obtain ⟨rfl, rfl, h1⟩ := of_decide_eq_true hi
        exact zo_if_ne hx hb hml hown hts hE hd h1 h.1 h.2
      · obtain ⟨rfl, rfl, h1⟩ := of_decide_eq_true hi
        exact zo_if_lt hx hb hml hown hts hE hd h1 h.1 h.2
      · obtain ⟨rfl, rfl, h1⟩ := of_decide_eq_true hi
        exact zo_if_ge hx hb hml hown hts hE hd h1 h.1 h.2
      · obtain ⟨rfl, rfl, h1⟩ := of_decide_eq_true hi
        exact zo_if_gt hx hb hml hown hts hE hd h1 h.1 h.2
      · obtain ⟨rfl, rfl, h1⟩ := of_decide_eq_true hi
        exact zo_if_le hx hb hml hown hts hE hd h1 h.1 h.2
      · cases hi
    · exact h.elim
  · split at h
    · replace hi : (match (generalizing := false) i with | .if_icmp .eq o => decide (ln = 3 ∧ a = 0 ∧ (pc : Int) + o = (b : Int)) | .if_icmp .ne o => decide (ln = 3 ∧ a = 1 ∧ (pc : Int) + o = (b : Int)) | .if_icmp .lt o => decide (ln = 3 ∧ a = 2 ∧ (pc : Int) + o = (b : Int)) | .if_icmp .ge o => decide (ln = 3 ∧ a = 3 ∧ (pc : Int) + o = (b : Int)) | .if_icmp .gt o => decide (ln = 3 ∧ a = 4 ∧ (pc : Int) + o = (b : Int)) | .if_icmp .le o => decide (ln = 3 ∧ a = 5 ∧ (pc : Int) + o = (b : Int)) | _ => false) = true := hi
      split at hi
      · obtain ⟨rfl, rfl, h1⟩ := of_decide_eq_true hi
        exact zo_icmp_eq hx hb hml hown hts hE hd h1 h.1 h.2
      · obtain ⟨rfl, rfl, h1⟩ := of_decide_eq_true hi
        exact zo_icmp_ne hx hb hml hown hts hE hd h1 h.1 h.2
      · obtain ⟨rfl, rfl, h1⟩ := of_decide_eq_true hi
        exact zo_icmp_lt hx hb hml hown hts hE hd h1 h.1 h.2
      · obtain ⟨rfl, rfl, h1⟩ := of_decide_eq_true hi
        exact zo_icmp_ge hx hb hml hown hts hE hd h1 h.1 h.2
      · obtain ⟨rfl, rfl, h1⟩ := of_decide_eq_true hi
        exact zo_icmp_gt hx hb hml hown hts hE hd h1 h.1 h.2
      · obtain ⟨rfl, rfl, h1⟩ := of_decide_eq_true hi
        exact zo_icmp_le hx hb hml hown hts hE hd h1 h.1 h.2
      · cases hi
    · exact h.elim
  · replace hi : (match (generalizing := false) i with | .ifnull o => decide (ln = 3 ∧ a = 0 ∧ (pc : Int) + o = (b : Int)) | .ifnonnull o => decide (ln = 3 ∧ a = 1 ∧ (pc : Int) + o = (b : Int)) | _ => false) = true := hi
    split at hi
    · obtain ⟨rfl, rfl, h1⟩ := of_decide_eq_true hi
      split at h
      · exact zo_ifnull hx hb hml hown hts hE hd h
      · exact zo_ifnullN hx hb hml hown hts hE hd h1 h
      · rename_i q; cases q
      · rename_i q; cases q
      · exact h.elim
    · obtain ⟨rfl, rfl, h1⟩ := of_decide_eq_true hi
      split at h
      · rename_i q; cases q
      · rename_i q; cases q
      · exact zo_ifnonnull hx hb hml hown hts hE hd h1 h
      · exact zo_ifnonnullN hx hb hml hown hts hE hd h
      · exact h.elim
    · cases hi
  · replace hi : (match (generalizing := false) i with | .goto o => decide (ln = 3 ∧ (pc : Int) + o = (b : Int)) | _ => false) = true := hi
    split at hi
    · obtain ⟨rfl, h1⟩ := of_decide_eq_true hi
      exact zo_goto hx hb hml hown hts hE hd h1 h
    · cases hi
  · split at h
    · rename_i q r
      replace hi : (match (generalizing := false) i with | .getfield n => decide (ln = 3 ∧ 0 ≤ z) && zfld.any (fun q => decide (q = (zown mi, n, z.toNat, a, b))) | _ => false) = true := hi
      split at hi
      · rw [Bool.and_eq_true] at hi
        obtain ⟨hi1, hi2⟩ := hi
        obtain ⟨rfl, h0⟩ := of_decide_eq_true hi1
        have hf := zany hi2 (fun y hy => of_decide_eq_true hy)
        split at h
        · rename_i sc hcl hfv
          exact zo_getfield hx hb hml hown hts hE hd hf (Nat.eq_of_beq_eq_true hcl) (v := .int (Int32.ofInt (σ.1 sc))) (w := vI (σ.1 sc)) (by unfold zfw; rw [hfv]) rfl (fun hM => hM.1 sc) h
        · rename_i q2 hcl hfv
          exact zo_getfield hx hb hml hown hts hE hd hf (Nat.eq_of_beq_eq_true hcl) (v := .ref (ad q2)) (w := vR q2) (by unfold zfw; rw [hfv]) rfl (fun _ => trivial) h
        · exact h.elim
      · cases hi
    · exact h.elim
  · split at h
    · rename_i x q r
      replace hi : (match (generalizing := false) i with | .putfield n => decide (ln = 3 ∧ 0 ≤ z ∧ zty a b = .int ∧ (zT a b).2.2.2 = false) && zfld.any (fun q => decide (q = (zown mi, n, z.toNat, a, b))) | _ => false) = true := hi
      split at hi
      · rw [Bool.and_eq_true] at hi
        obtain ⟨hi1, hi2⟩ := hi
        obtain ⟨rfl, h0, h1, h2⟩ := of_decide_eq_true hi1
        have hf := zany hi2 (fun y hy => of_decide_eq_true hy)
        split at h
        · rename_i sc hcl hfv
          exact zo_putfield hx hb hml hown hts hE hd hf (Nat.eq_of_beq_eq_true hcl) hfv h1 h2 h
        · exact h.elim
      · cases hi
    · exact h.elim
  · split at h
    · rename_i x q r
      replace hi : (match (generalizing := false) i with | .putfield n => decide (ln = 3 ∧ 0 ≤ z ∧ zty a b = .boolean ∧ (zT a b).2.2.2 = false) && zfld.any (fun q => decide (q = (zown mi, n, z.toNat, a, b))) | _ => false) = true := hi
      split at hi
      · rw [Bool.and_eq_true] at hi
        obtain ⟨hi1, hi2⟩ := hi
        obtain ⟨rfl, h0, h1, h2⟩ := of_decide_eq_true hi1
        have hf := zany hi2 (fun y hy => of_decide_eq_true hy)
        split at h
        · rename_i sc hcl hfv
          exact zo_putfieldZ hx hb hml hown hts hE h.1 hd hf (Nat.eq_of_beq_eq_true hcl) hfv h1 h2 h.2
        · exact h.elim
      · cases hi
    · exact h.elim
  · split at h
    · rename_i ix q r
      split at h
      · rename_i n g hcl hza
        have hcl := Nat.eq_of_beq_eq_true hcl
        obtain ⟨hn1, hn2⟩ : (zarr q).1 = n ∧ (zarr q).2 = g := by rw [hza]; exact ⟨rfl, rfl⟩
        subst hn1; subst hn2
        replace hi : (match (generalizing := false) i with | .iaload => decide (ln = 1) | _ => false) = true := hi
        split at hi
        · obtain rfl := of_decide_eq_true hi
          exact zo_iaload hx hb hml hown hts hE hd hcl h.1 h.2
        · cases hi
      · exact h.elim
    · exact h.elim
  · split at h
    · rename_i x ix q r
      split at h
      · rename_i n g hcl hza
        have hcl := Nat.eq_of_beq_eq_true hcl
        obtain ⟨hn1, hn2⟩ : (zarr q).1 = n ∧ (zarr q).2 = g := by rw [hza]; exact ⟨rfl, rfl⟩
        subst hn1; subst hn2
        replace hi : (match (generalizing := false) i with | .iastore => decide (ln = 1) | _ => false) = true := hi
        split at hi
        · obtain rfl := of_decide_eq_true hi
          exact zo_iastore hx hb hml hown hts hE hd hcl h.1 h.2
        · cases hi
      · exact h.elim
    · exact h.elim
  · split at h
    · rename_i ix q r
      split at h
      · rename_i n g hcl hza
        have hcl := Nat.eq_of_beq_eq_true hcl
        obtain ⟨hn1, hn2⟩ : (zarr q).1 = n ∧ (zarr q).2 = g := by rw [hza]; exact ⟨rfl, rfl⟩
        subst hn1; subst hn2
        replace hi : (match (generalizing := false) i with | .baload => decide (ln = 1) | _ => false) = true := hi
        split at hi
        · obtain rfl := of_decide_eq_true hi
          exact zo_baload hx hb hml hown hts hE hd hcl h.1 h.2
        · cases hi
      · exact h.elim
    · exact h.elim
  · split at h
    · rename_i x ix q r
      split at h
      · rename_i n g hcl hza
        have hcl := Nat.eq_of_beq_eq_true hcl
        obtain ⟨hn1, hn2⟩ : (zarr q).1 = n ∧ (zarr q).2 = g := by rw [hza]; exact ⟨rfl, rfl⟩
        subst hn1; subst hn2
        replace hi : (match (generalizing := false) i with | .bastore => decide (ln = 1) | _ => false) = true := hi
        split at hi
        · obtain rfl := of_decide_eq_true hi
          exact zo_bastore hx hb hml hown hts hE hd hcl h.1 h.2
        · cases hi
      · exact h.elim
    · exact h.elim
  · split at h
    · rename_i q r
      replace hi : (match (generalizing := false) i with | .arraylength => decide (ln = 1) | _ => false) = true := hi
      split at hi
      · obtain rfl := of_decide_eq_true hi
        split at h
        · rename_i hcl
          exact zo_alen hx hb hml hown hts hE hd (Or.inl ⟨hcl, rfl⟩) (zarr_lt q) h
        · rename_i hcl
          exact zo_alen hx hb hml hown hts hE hd (n := 4) (Or.inr ⟨hcl, rfl⟩) (by decide) h
        · rename_i hcl
          obtain rfl := zcls_23 hcl
          exact zo_alenS hx hb hml hown hts hE hd h
        · exact h.elim
      · cases hi
    · exact h.elim
  · split at h
    · rename_i as r hpop
      split at h
      · rename_i hv hs
        have hs2 : zcsum r ≤ 8 := Nat.le_of_ble_eq_true hs
        replace hi : (match (generalizing := false) i with | .invokevirtual n => decide (ln = 3 ∧ 0 ≤ z ∧ zkd a = 0 ∧ b = zar a + 1) && zcall.any (fun q => decide (q = (zown mi, n, z.toNat, a))) | .invokestatic n => decide (ln = 3 ∧ z = 0 ∧ zkd a = 1 ∧ b = zar a) && zcall.any (fun q => decide (q = (zown mi, n, z.toNat, a))) | _ => false) = true := hi
        split at hi
        · rw [Bool.and_eq_true] at hi
          obtain ⟨hi1, hi2⟩ := hi
          obtain ⟨rfl, h0, h1, h2⟩ := of_decide_eq_true hi1
          exact zo_call hx hb hml hown hts hE hC hrm (Or.inl ⟨hd, h1, h2⟩) (zany hi2 (fun y hy => of_decide_eq_true hy)) hpop hv hs2 h
        · rw [Bool.and_eq_true] at hi
          obtain ⟨hi1, hi2⟩ := hi
          obtain ⟨rfl, h0, h1, h2⟩ := of_decide_eq_true hi1
          exact zo_call hx hb hml hown hts hE hC hrm (Or.inr ⟨hd, h1, h2, by rw [h0]; rfl⟩) (zany hi2 (fun y hy => of_decide_eq_true hy)) hpop hv hs2 h
        · cases hi
      · exact h.elim
    · exact h.elim
  · split at h
    · rename_i n dp q sp r
      split at h
      · rename_i hq hr
        replace hi : (match (generalizing := false) i with | .invokestatic n => decide (ln = 3) && zacp.any (fun q => decide (q = (zown mi, n))) | _ => false) = true := hi
        split at hi
        · rw [Bool.and_eq_true] at hi
          obtain ⟨hi1, hi2⟩ := hi
          obtain rfl := of_decide_eq_true hi1
          exact zo_acopy (st := []) hx hb hml hown hts hE hRf hd (zany hi2 (fun y hy => of_decide_eq_true hy)) (Nat.eq_of_beq_eq_true hq) (Nat.eq_of_beq_eq_true hr) h.1.1 h.1.2.1 h.1.2.2 h.2
        · cases hi
      · exact h.elim
    · exact h.elim
  · split at h
    · replace hi : (match (generalizing := false) i with | .dup => decide (ln = 1) | _ => false) = true := hi
      split at hi
      · obtain rfl := of_decide_eq_true hi
        exact zo_dup hx hb hml hown hts hE hd h
      · cases hi
    · exact h.elim
  · split at h
    · replace hi : (match (generalizing := false) i with | .dup2 => decide (ln = 1) | _ => false) = true := hi
      split at hi
      · obtain rfl := of_decide_eq_true hi
        exact zo_dup2 hx hb hml hown hts hE hd h
      · cases hi
    · exact h.elim
  · split at h
    · replace hi : (match (generalizing := false) i with | .pop => decide (ln = 1) | _ => false) = true := hi
      split at hi
      · obtain rfl := of_decide_eq_true hi
        exact zo_pop hx hb hml hown hts hE hd h
      · cases hi
    · exact h.elim
  · replace hi : (match (generalizing := false) i with | .aconst_null => decide (ln = 1) | _ => false) = true := hi
    split at hi
    · obtain rfl := of_decide_eq_true hi
      exact zo_null hx hb hml hown hts hE hd h
    · cases hi
  · split at h
    · replace hi : (match (generalizing := false) i with | .ireturn => decide (ln = 1 ∧ zret mi = some .int) | _ => false) = true := hi
      split at hi
      · obtain ⟨rfl, h1⟩ := of_decide_eq_true hi
        intro H locs ls hL hst hM hh hP hS
        exact hRet (some (vI _)) pc ls H locs σ (Or.inr (Or.inl ⟨_, rfl, hd, Or.inl h1⟩)) h hM (fun v hv => by cases hv; exact hst _ List.mem_cons_self) hP hS
      · cases hi
    · exact h.elim
  · split at h
    · replace hi : (match (generalizing := false) i with | .ireturn => decide (ln = 1 ∧ zret mi = some .boolean) | _ => false) = true := hi
      split at hi
      · obtain ⟨rfl, h1⟩ := of_decide_eq_true hi
        intro H locs ls hL hst hM hh hP hS
        exact hRet (some (vI _)) pc ls H locs σ (Or.inr (Or.inl ⟨_, rfl, hd, Or.inr (Or.inl ⟨h1, h.1⟩)⟩)) h.2 hM (fun v hv => by cases hv; exact hst _ List.mem_cons_self) hP hS
      · cases hi
    · exact h.elim
  · split at h
    · replace hi : (match (generalizing := false) i with | .ireturn => decide (ln = 1 ∧ zret mi = some .byte) | _ => false) = true := hi
      split at hi
      · obtain ⟨rfl, h1⟩ := of_decide_eq_true hi
        intro H locs ls hL hst hM hh hP hS
        exact hRet (some (vI _)) pc ls H locs σ (Or.inr (Or.inl ⟨_, rfl, hd, Or.inr (Or.inr ⟨h1, h.1⟩)⟩)) h.2 hM (fun v hv => by cases hv; exact hst _ List.mem_cons_self) hP hS
      · cases hi
    · exact h.elim
  · split at h
    · replace hi : (match (generalizing := false) i with | .return_ => decide (ln = 1 ∧ zret mi = none) | _ => false) = true := hi
      split at hi
      · obtain ⟨rfl, h1⟩ := of_decide_eq_true hi
        intro H locs ls hL hst hM hh hP hS
        exact hRet none pc ls H locs σ (Or.inl ⟨rfl, hd, h1⟩) h hM (fun v hv => by cases hv) hP hS
      · cases hi
    · exact h.elim
  · replace hi : (match (generalizing := false) i with | .ldc n => decide (ln = 2 ∧ n = 112 ∧ zown mi = 5) | _ => false) = true := hi
    split at hi
    · obtain ⟨rfl, rfl, h1⟩ := of_decide_eq_true hi
      exact zo_ldcS hx hb hml hown hts hE hd h1 h
    · cases hi
  · split at h
    · replace hi : (match (generalizing := false) i with | .lreturn => decide (ln = 1 ∧ zret mi = some .long) | _ => false) = true := hi
      split at hi
      · obtain ⟨rfl, h1⟩ := of_decide_eq_true hi
        intro H locs ls hL hst hM hh hP hS
        exact hRet (some (vL _)) pc ls H locs σ (Or.inr (Or.inr (Or.inl ⟨_, rfl, hd, h1⟩))) h hM (fun v hv => by cases hv; exact hst _ List.mem_cons_self) hP hS
      · cases hi
    · exact h.elim
  · split at h
    · replace hi : (match (generalizing := false) i with | .areturn => decide (ln = 1 ∧ zret mi = some (.object "PaleFence$Sheet")) | _ => false) = true := hi
      split at hi
      · obtain ⟨rfl, h1⟩ := of_decide_eq_true hi
        intro H locs ls hL hst hM hh hP hS
        exact hRet (some (vR _)) pc ls H locs σ (Or.inr (Or.inr (Or.inr ⟨Or.inr ⟨_, rfl⟩, hd, h1⟩))) h hM (fun v hv => by cases hv; trivial) hP hS
      · cases hi
    · replace hi : (match (generalizing := false) i with | .areturn => decide (ln = 1 ∧ zret mi = some (.object "PaleFence$Sheet")) | _ => false) = true := hi
      split at hi
      · obtain ⟨rfl, h1⟩ := of_decide_eq_true hi
        intro H locs ls hL hst hM hh hP hS
        exact hRet (some vN) pc ls H locs σ (Or.inr (Or.inr (Or.inr ⟨Or.inl rfl, hd, h1⟩))) h hM (fun v hv => by cases hv; trivial) hP hS
      · cases hi
    · exact h.elim
  · split at h
    · rename_i i2 q r
      split at h
      · rename_i hcl
        obtain rfl := zcls_23 (Nat.eq_of_beq_eq_true hcl)
        replace hi : (match (generalizing := false) i with | .baload => decide (ln = 1) | _ => false) = true := hi
        split at hi
        · obtain rfl := of_decide_eq_true hi
          exact zo_baloadS hx hb hml hown hts hE hd h.1 h.2
        · cases hi
      · exact h.elim
    · exact h.elim
  · split at h
    · replace hi : (match (generalizing := false) i with | .tableswitch d lo hi offs => decide (lo = 0 ∧ hi = 33 ∧ (pc : Int) + d = (zswd : Int) ∧ offs.size = 34 ∧ mi = 138) && (List.range 34).all (fun j => decide ((pc : Int) + offs.getD j 0 = ((zswl.getD j 0 : Nat) : Int))) | _ => false) = true := hi
      split at hi
      · rw [Bool.and_eq_true] at hi
        obtain ⟨hi1, hi2⟩ := hi
        obtain ⟨rfl, rfl, h1, h2, -⟩ := of_decide_eq_true hi1
        exact zo_switch hx hb hml hown hts hE hd h1 h2 (fun j hj => of_decide_eq_true (List.all_eq_true.mp hi2 j (List.mem_range.mpr hj))) h
      · cases hi
    · exact h.elim
  · split at h
    · rename_i q r
      replace hi : (match (generalizing := false) i with | .getfield n => decide (ln = 3 ∧ n = a ∧ (a = 9 ∨ a = 15) ∧ zown mi = 7) | _ => false) = true := hi
      split at hi
      · obtain ⟨rfl, rfl, -, h1⟩ := of_decide_eq_true hi
        split at h
        · rename_i hcl
          obtain rfl := zcls_7 (Nat.eq_of_beq_eq_true hcl)
          exact zo_strVal hx hb hml hown hts hE hd h1 h
        · rename_i hcl
          obtain rfl := zcls_7 (Nat.eq_of_beq_eq_true hcl)
          exact zo_strCod hx hb hml hown hts hE hd h1 h
        · exact h.elim
      · cases hi
    · exact h.elim
  · split at h
    · rename_i i2 q r
      split at h
      · rename_i hcl
        obtain rfl := zcls_24 (Nat.eq_of_beq_eq_true hcl)
        replace hi : (match (generalizing := false) i with | .iaload => decide (ln = 1 ∧ mi = 138) | _ => false) = true := hi
        split at hi
        · obtain ⟨rfl, h1⟩ := of_decide_eq_true hi
          obtain ⟨g1, g2, g3⟩ := hScr h1
          rw [g3] at h
          exact zo_sload hx hb hml hown hts hE g1 hd h.1 h.2
        · cases hi
      · exact h.elim
    · exact h.elim
  · split at h
    · rename_i i2 q r
      split at h
      · rename_i hcl
        replace hi : (match (generalizing := false) i with | .aaload => decide (ln = 1) | _ => false) = true := hi
        split at hi
        · obtain rfl := of_decide_eq_true hi
          exact zo_aaload hx hb hml hown hts hE hd (Nat.eq_of_beq_eq_true hcl) h.1 h.2
        · cases hi
      · exact h.elim
    · exact h.elim
  · replace hi : (match (generalizing := false) i with | .getstatic n => decide (ln = 3 ∧ n = 38 ∧ zown mi = 7) | _ => false) = true := hi
    split at hi
    · obtain ⟨rfl, rfl, h1⟩ := of_decide_eq_true hi
      exact zo_getstatic hx hb hml hown hts hE hd h1 h
    · cases hi
  · split at h
    · rename_i q r
      split at h
      · rename_i hcl
        obtain rfl := zcls_24 (Nat.eq_of_beq_eq_true hcl)
        replace hi : (match (generalizing := false) i with | .arraylength => decide (ln = 1 ∧ mi = 138) | _ => false) = true := hi
        split at hi
        · obtain ⟨rfl, h1⟩ := of_decide_eq_true hi
          obtain ⟨g1, g2, g3⟩ := hScr h1
          exact zo_slen hx hb hml hown hts hE g1 g2 hd h
        · cases hi
      · exact h.elim
    · exact h.elim
  · split at h
    · rename_i y x r
      split at h
      · rename_i hs
        replace hi : (match (generalizing := false) i with | .invokestatic n => decide (ln = 3) && zmxl.any (fun q => decide (q = (zown mi, n))) | _ => false) = true := hi
        split at hi
        · rw [Bool.and_eq_true] at hi
          obtain ⟨hi1, hi2⟩ := hi
          obtain rfl := of_decide_eq_true hi1
          exact zo_mmax hx hb hml hown hts hE ⟨hRf.1, hRf.2, hrm.2.2.2.2.1, hrm.2.2.2.2.2⟩ hd (zany hi2 (fun y hy => of_decide_eq_true hy)) (Nat.le_of_ble_eq_true hs) h
        · cases hi
      · exact h.elim
    · exact h.elim
  · split at h
    · rename_i y x r
      split at h
      · rename_i hs
        replace hi : (match (generalizing := false) i with | .invokestatic n => decide (ln = 3) && zmnl.any (fun q => decide (q = (zown mi, n))) | _ => false) = true := hi
        split at hi
        · rw [Bool.and_eq_true] at hi
          obtain ⟨hi1, hi2⟩ := hi
          obtain rfl := of_decide_eq_true hi1
          exact zo_mmin hx hb hml hown hts hE ⟨hRf.1, hRf.2, hrm.2.2.2.2.1, hrm.2.2.2.2.2⟩ hd (zany hi2 (fun y hy => of_decide_eq_true hy)) (Nat.le_of_ble_eq_true hs) h
        · cases hi
      · exact h.elim
    · exact h.elim
  · exact h.elim
end ZS
