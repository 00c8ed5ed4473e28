/-! the tables' words that the small machine needs -/
def zGT : List Cond := lw_tbl.filter goodWord
theorem zTB_0 {w : Cond} (i : Nat) (h : (k2_sels lw_privs)[i]? = some w) : w ∈ lw_tbl := List.mem_append_left _ (List.mem_of_getElem? h)
theorem zTB_1 {w : Cond} (i : Nat) (h : tables_1_1[i]? = some w) : w ∈ lw_tbl := List.mem_append_right _ (List.mem_append_left _ (List.mem_of_getElem? h))
theorem zTB_2 {w : Cond} (i : Nat) (h : tables_1_2[i]? = some w) : w ∈ lw_tbl := List.mem_append_right _ (List.mem_append_right _ (List.mem_append_left _ (List.mem_of_getElem? h)))
theorem zTB_3 {w : Cond} (i : Nat) (h : tables_1_3[i]? = some w) : w ∈ lw_tbl := List.mem_append_right _ (List.mem_append_right _ (List.mem_append_right _ (List.mem_append_left _ (List.mem_of_getElem? h))))
theorem zTB_4 {w : Cond} (i : Nat) (h : tables_1_4[i]? = some w) : w ∈ lw_tbl := List.mem_append_right _ (List.mem_append_right _ (List.mem_append_right _ (List.mem_append_right _ (List.mem_of_getElem? h))))
theorem zGT_0 {w : Cond} (i : Nat) (h : (k2_sels lw_privs)[i]? = some w) (hg : goodWord w = true) : w ∈ zGT := List.mem_filter.mpr ⟨zTB_0 i h, hg⟩
theorem zGT_1 {w : Cond} (i : Nat) (h : tables_1_1[i]? = some w) (hg : goodWord w = true) : w ∈ zGT := List.mem_filter.mpr ⟨zTB_1 i h, hg⟩
theorem zGT_2 {w : Cond} (i : Nat) (h : tables_1_2[i]? = some w) (hg : goodWord w = true) : w ∈ zGT := List.mem_filter.mpr ⟨zTB_2 i h, hg⟩
theorem zGT_3 {w : Cond} (i : Nat) (h : tables_1_3[i]? = some w) (hg : goodWord w = true) : w ∈ zGT := List.mem_filter.mpr ⟨zTB_3 i h, hg⟩
theorem zGT_4 {w : Cond} (i : Nat) (h : tables_1_4[i]? = some w) (hg : goodWord w = true) : w ∈ zGT := List.mem_filter.mpr ⟨zTB_4 i h, hg⟩
theorem zGT_sub : ∀ w ∈ zGT, w ∈ lw_tbl := fun _ h => (List.mem_filter.mp h).1
theorem zGT_good : ∀ w ∈ zGT, goodWord w = true := fun _ h => (List.mem_filter.mp h).2
/-- method mi as the tables have it -/
def zMok (mi : Nat) : Prop := Cond.code (zy mi) (zb mi) (zl mi) (zret mi) ∈ zGT ∧ Cond.initialized (zy mi).cls ∈ zGT ∧ plainName (zy mi).cls = true ∧ (zy mi).cls = zR (zown mi) ∧ ((zy mi).cls ≠ "java/lang/invoke/MethodHandle" ∧ (zy mi).cls ≠ "java/lang/invoke/VarHandle" ∧ (parseMethodDescriptor (zy mi).desc).map (fun d => d.parameters.length) = some (zar mi)) ∧ zl mi ≤ 21 ∧ (zkd mi = 0 → Cond.instanceMethod (zy mi) ∈ zGT ∧ Cond.selects (zy mi).cls (zy mi) (zy mi) ∈ zGT) ∧ (zkd mi = 1 → Cond.static (zy mi) ∈ zGT)
/-- a call of class own, entry idx, kind (0: its own or another's public method, 1: a nest mate's) -/
def zCok (q : Nat × Nat × Nat × Nat) : Prop := q.2.2.2 < 138 ∧ (q.2.2.1 = 0 → Cond.methodLink (zR q.1) q.2.1 (zy q.2.2.2) ∈ zGT) ∧ (q.2.2.1 ≠ 0 → q.2.2.1 = 1 ∧ Cond.methodLinkNest (zR q.1) q.2.1 (zy q.2.2.2) "PaleFence" ∈ lw_tbl)
def zFok (q : Nat × Nat × Nat × Nat × Nat) : Prop := (q.2.2.2.1 < 7 ∧ q.2.2.2.2 < zNf q.2.2.2.1 ∧ (zT q.2.2.2.1 q.2.2.2.2).1 = zR q.2.2.2.1) ∧ (q.2.2.1 = 0 → Cond.fieldLink (zR q.1) q.2.1 (zR q.2.2.2.1) (zT q.2.2.2.1 q.2.2.2.2).2.1 (zT q.2.2.2.1 q.2.2.2.2).2.2.1 ∈ zGT) ∧ (q.2.2.1 ≠ 0 → q.2.2.1 = 1 ∧ Cond.fieldLinkNest (zR q.1) q.2.1 (zR q.2.2.2.1) (zT q.2.2.2.1 q.2.2.2.2).2.1 (zT q.2.2.2.1 q.2.2.2.2).2.2.1 "PaleFence" ∈ lw_tbl)
theorem zmok_0 : zMok 0 := ⟨zGT_1 237 rfl rfl, zGT_1 3 rfl rfl, by decide +kernel, rfl, ⟨by decide +kernel, by decide +kernel, by decide +kernel⟩, by decide, fun _ => ⟨zGT_1 236 rfl rfl, zGT_0 12 rfl rfl⟩, fun h => absurd h (by decide)⟩
theorem zmok_1 : zMok 1 := ⟨zGT_1 150 rfl rfl, zGT_1 3 rfl rfl, by decide +kernel, rfl, ⟨by decide +kernel, by decide +kernel, by decide +kernel⟩, by decide, fun _ => ⟨zGT_1 149 rfl rfl, zGT_0 0 rfl rfl⟩, fun h => absurd h (by decide)⟩
theorem zmok_2 : zMok 2 := ⟨zGT_2 207 rfl rfl, zGT_1 3 rfl rfl, by decide +kernel, rfl, ⟨by decide +kernel, by decide +kernel, by decide +kernel⟩, by decide, fun _ => ⟨zGT_2 206 rfl rfl, zGT_0 20 rfl rfl⟩, fun h => absurd h (by decide)⟩
theorem zmok_3 : zMok 3 := ⟨zGT_1 220 rfl rfl, zGT_1 3 rfl rfl, by decide +kernel, rfl, ⟨by decide +kernel, by decide +kernel, by decide +kernel⟩, by decide, fun _ => ⟨zGT_1 219 rfl rfl, zGT_0 10 rfl rfl⟩, fun h => absurd h (by decide)⟩
theorem zmok_4 : zMok 4 := ⟨zGT_1 224 rfl rfl, zGT_1 3 rfl rfl, by decide +kernel, rfl, ⟨by decide +kernel, by decide +kernel, by decide +kernel⟩, by decide, fun _ => ⟨zGT_1 223 rfl rfl, zGT_0 11 rfl rfl⟩, fun h => absurd h (by decide)⟩
theorem zmok_5 : zMok 5 := ⟨zGT_2 202 rfl rfl, zGT_1 3 rfl rfl, by decide +kernel, rfl, ⟨by decide +kernel, by decide +kernel, by decide +kernel⟩, by decide, fun _ => ⟨zGT_2 201 rfl rfl, zGT_0 19 rfl rfl⟩, fun h => absurd h (by decide)⟩
theorem zmok_6 : zMok 6 := ⟨zGT_1 182 rfl rfl, zGT_1 3 rfl rfl, by decide +kernel, rfl, ⟨by decide +kernel, by decide +kernel, by decide +kernel⟩, by decide, fun _ => ⟨zGT_1 181 rfl rfl, zGT_0 5 rfl rfl⟩, fun h => absurd h (by decide)⟩
theorem zmok_7 : zMok 7 := ⟨zGT_1 211 rfl rfl, zGT_1 3 rfl rfl, by decide +kernel, rfl, ⟨by decide +kernel, by decide +kernel, by decide +kernel⟩, by decide, fun _ => ⟨zGT_1 210 rfl rfl, zGT_0 8 rfl rfl⟩, fun h => absurd h (by decide)⟩
theorem zmok_8 : zMok 8 := ⟨zGT_1 174 rfl rfl, zGT_1 4 rfl rfl, by decide +kernel, rfl, ⟨by decide +kernel, by decide +kernel, by decide +kernel⟩, by decide, fun _ => ⟨zGT_1 173 rfl rfl, zGT_0 3 rfl rfl⟩, fun h => absurd h (by decide)⟩
theorem zmok_9 : zMok 9 := ⟨zGT_1 158 rfl rfl, zGT_1 4 rfl rfl, by decide +kernel, rfl, ⟨by decide +kernel, by decide +kernel, by decide +kernel⟩, by decide, fun _ => ⟨zGT_1 157 rfl rfl, zGT_0 1 rfl rfl⟩, fun h => absurd h (by decide)⟩
theorem zmok_10 : zMok 10 := ⟨zGT_1 162 rfl rfl, zGT_1 4 rfl rfl, by decide +kernel, rfl, ⟨by decide +kernel, by decide +kernel, by decide +kernel⟩, by decide, fun _ => ⟨zGT_1 161 rfl rfl, zGT_0 2 rfl rfl⟩, fun h => absurd h (by decide)⟩
theorem zmok_11 : zMok 11 := ⟨zGT_2 182 rfl rfl, zGT_1 4 rfl rfl, by decide +kernel, rfl, ⟨by decide +kernel, by decide +kernel, by decide +kernel⟩, by decide, fun _ => ⟨zGT_2 181 rfl rfl, zGT_0 18 rfl rfl⟩, fun h => absurd h (by decide)⟩
theorem zmok_12 : zMok 12 := ⟨zGT_3 3 rfl rfl, zGT_1 4 rfl rfl, by decide +kernel, rfl, ⟨by decide +kernel, by decide +kernel, by decide +kernel⟩, by decide, fun _ => ⟨zGT_3 2 rfl rfl, zGT_0 22 rfl rfl⟩, fun h => absurd h (by decide)⟩
theorem zmok_13 : zMok 13 := ⟨zGT_1 195 rfl rfl, zGT_1 4 rfl rfl, by decide +kernel, rfl, ⟨by decide +kernel, by decide +kernel, by decide +kernel⟩, by decide, fun _ => ⟨zGT_1 194 rfl rfl, zGT_0 6 rfl rfl⟩, fun h => absurd h (by decide)⟩
theorem zmok_14 : zMok 14 := ⟨zGT_3 38 rfl rfl, zGT_1 4 rfl rfl, by decide +kernel, rfl, ⟨by decide +kernel, by decide +kernel, by decide +kernel⟩, by decide, fun _ => ⟨zGT_3 37 rfl rfl, zGT_0 27 rfl rfl⟩, fun h => absurd h (by decide)⟩
theorem zmok_15 : zMok 15 := ⟨zGT_1 216 rfl rfl, zGT_1 4 rfl rfl, by decide +kernel, rfl, ⟨by decide +kernel, by decide +kernel, by decide +kernel⟩, by decide, fun _ => ⟨zGT_1 215 rfl rfl, zGT_0 9 rfl rfl⟩, fun h => absurd h (by decide)⟩
theorem zmok_16 : zMok 16 := ⟨zGT_2 158 rfl rfl, zGT_1 4 rfl rfl, by decide +kernel, rfl, ⟨by decide +kernel, by decide +kernel, by decide +kernel⟩, by decide, fun _ => ⟨zGT_2 157 rfl rfl, zGT_0 17 rfl rfl⟩, fun h => absurd h (by decide)⟩
theorem zmok_17 : zMok 17 := ⟨zGT_1 199 rfl rfl, zGT_1 4 rfl rfl, by decide +kernel, rfl, ⟨by decide +kernel, by decide +kernel, by decide +kernel⟩, by decide, fun _ => ⟨zGT_1 198 rfl rfl, zGT_0 7 rfl rfl⟩, fun h => absurd h (by decide)⟩
theorem zmok_18 : zMok 18 := ⟨zGT_1 202 rfl rfl, zGT_1 4 rfl rfl, by decide +kernel, rfl, ⟨by decide +kernel, by decide +kernel, by decide +kernel⟩, by decide, fun h => absurd h (by decide), fun _ => zGT_1 201 rfl rfl⟩
theorem zmok_19 : zMok 19 := ⟨zGT_1 206 rfl rfl, zGT_1 4 rfl rfl, by decide +kernel, rfl, ⟨by decide +kernel, by decide +kernel, by decide +kernel⟩, by decide, fun h => absurd h (by decide), fun _ => zGT_1 205 rfl rfl⟩
theorem zmok_20 : zMok 20 := ⟨zGT_3 26 rfl rfl, zGT_1 6 rfl rfl, by decide +kernel, rfl, ⟨by decide +kernel, by decide +kernel, by decide +kernel⟩, by decide, fun _ => ⟨zGT_3 25 rfl rfl, zGT_0 24 rfl rfl⟩, fun h => absurd h (by decide)⟩
theorem zmok_21 : zMok 21 := ⟨zGT_3 34 rfl rfl, zGT_1 6 rfl rfl, by decide +kernel, rfl, ⟨by decide +kernel, by decide +kernel, by decide +kernel⟩, by decide, fun _ => ⟨zGT_3 33 rfl rfl, zGT_0 26 rfl rfl⟩, fun h => absurd h (by decide)⟩
theorem zmok_22 : zMok 22 := ⟨zGT_3 53 rfl rfl, zGT_1 6 rfl rfl, by decide +kernel, rfl, ⟨by decide +kernel, by decide +kernel, by decide +kernel⟩, by decide, fun _ => ⟨zGT_3 52 rfl rfl, zGT_0 28 rfl rfl⟩, fun h => absurd h (by decide)⟩
theorem zmok_23 : zMok 23 := ⟨zGT_3 61 rfl rfl, zGT_1 6 rfl rfl, by decide +kernel, rfl, ⟨by decide +kernel, by decide +kernel, by decide +kernel⟩, by decide, fun _ => ⟨zGT_3 60 rfl rfl, zGT_0 29 rfl rfl⟩, fun h => absurd h (by decide)⟩
theorem zmok_24 : zMok 24 := ⟨zGT_2 238 rfl rfl, zGT_1 2 rfl rfl, by decide +kernel, rfl, ⟨by decide +kernel, by decide +kernel, by decide +kernel⟩, by decide, fun _ => ⟨zGT_2 237 rfl rfl, zGT_0 21 rfl rfl⟩, fun h => absurd h (by decide)⟩
theorem zmok_25 : zMok 25 := ⟨zGT_2 20 rfl rfl, zGT_1 5 rfl rfl, by decide +kernel, rfl, ⟨by decide +kernel, by decide +kernel, by decide +kernel⟩, by decide, fun _ => ⟨zGT_2 19 rfl rfl, zGT_0 15 rfl rfl⟩, fun h => absurd h (by decide)⟩
theorem zmok_26 : zMok 26 := ⟨zGT_2 8 rfl rfl, zGT_1 5 rfl rfl, by decide +kernel, rfl, ⟨by decide +kernel, by decide +kernel, by decide +kernel⟩, by decide, fun _ => ⟨zGT_2 7 rfl rfl, zGT_0 13 rfl rfl⟩, fun h => absurd h (by decide)⟩
theorem zmok_27 : zMok 27 := ⟨zGT_1 146 rfl rfl, zGT_1 1 rfl rfl, by decide +kernel, rfl, ⟨by decide +kernel, by decide +kernel, by decide +kernel⟩, by decide, fun _ => ⟨zGT_1 144 rfl rfl, zGT_1 145 rfl rfl⟩, fun h => absurd h (by decide)⟩
theorem zmok_28 : zMok 28 := ⟨zGT_1 154 rfl rfl, zGT_1 1 rfl rfl, by decide +kernel, rfl, ⟨by decide +kernel, by decide +kernel, by decide +kernel⟩, by decide, fun _ => ⟨zGT_1 152 rfl rfl, zGT_1 153 rfl rfl⟩, fun h => absurd h (by decide)⟩
theorem zmok_29 : zMok 29 := ⟨zGT_1 166 rfl rfl, zGT_1 1 rfl rfl, by decide +kernel, rfl, ⟨by decide +kernel, by decide +kernel, by decide +kernel⟩, by decide, fun _ => ⟨zGT_1 164 rfl rfl, zGT_1 165 rfl rfl⟩, fun h => absurd h (by decide)⟩
theorem zmok_30 : zMok 30 := ⟨zGT_1 170 rfl rfl, zGT_1 1 rfl rfl, by decide +kernel, rfl, ⟨by decide +kernel, by decide +kernel, by decide +kernel⟩, by decide, fun _ => ⟨zGT_1 168 rfl rfl, zGT_1 169 rfl rfl⟩, fun h => absurd h (by decide)⟩
theorem zmok_31 : zMok 31 := ⟨zGT_1 229 rfl rfl, zGT_1 1 rfl rfl, by decide +kernel, rfl, ⟨by decide +kernel, by decide +kernel, by decide +kernel⟩, by decide, fun _ => ⟨zGT_1 227 rfl rfl, zGT_1 228 rfl rfl⟩, fun h => absurd h (by decide)⟩
theorem zmok_32 : zMok 32 := ⟨zGT_1 233 rfl rfl, zGT_1 1 rfl rfl, by decide +kernel, rfl, ⟨by decide +kernel, by decide +kernel, by decide +kernel⟩, by decide, fun _ => ⟨zGT_1 231 rfl rfl, zGT_1 232 rfl rfl⟩, fun h => absurd h (by decide)⟩
theorem zmok_33 : zMok 33 := ⟨zGT_2 1 rfl rfl, zGT_1 1 rfl rfl, by decide +kernel, rfl, ⟨by decide +kernel, by decide +kernel, by decide +kernel⟩, by decide, fun _ => ⟨zGT_1 239 rfl rfl, zGT_2 0 rfl rfl⟩, fun h => absurd h (by decide)⟩
theorem zmok_34 : zMok 34 := ⟨zGT_2 4 rfl rfl, zGT_1 1 rfl rfl, by decide +kernel, rfl, ⟨by decide +kernel, by decide +kernel, by decide +kernel⟩, by decide, fun h => absurd h (by decide), fun _ => zGT_2 3 rfl rfl⟩
theorem zmok_35 : zMok 35 := ⟨zGT_2 12 rfl rfl, zGT_1 1 rfl rfl, by decide +kernel, rfl, ⟨by decide +kernel, by decide +kernel, by decide +kernel⟩, by decide, fun _ => ⟨zGT_2 10 rfl rfl, zGT_2 11 rfl rfl⟩, fun h => absurd h (by decide)⟩
theorem zmok_36 : zMok 36 := ⟨zGT_2 16 rfl rfl, zGT_1 1 rfl rfl, by decide +kernel, rfl, ⟨by decide +kernel, by decide +kernel, by decide +kernel⟩, by decide, fun _ => ⟨zGT_2 15 rfl rfl, zGT_0 14 rfl rfl⟩, fun h => absurd h (by decide)⟩
theorem zmok_37 : zMok 37 := ⟨zGT_2 108 rfl rfl, zGT_1 1 rfl rfl, by decide +kernel, rfl, ⟨by decide +kernel, by decide +kernel, by decide +kernel⟩, by decide, fun _ => ⟨zGT_2 106 rfl rfl, zGT_2 107 rfl rfl⟩, fun h => absurd h (by decide)⟩
theorem zmok_38 : zMok 38 := ⟨zGT_2 112 rfl rfl, zGT_1 1 rfl rfl, by decide +kernel, rfl, ⟨by decide +kernel, by decide +kernel, by decide +kernel⟩, by decide, fun _ => ⟨zGT_2 110 rfl rfl, zGT_2 111 rfl rfl⟩, fun h => absurd h (by decide)⟩
theorem zmok_39 : zMok 39 := ⟨zGT_2 117 rfl rfl, zGT_1 1 rfl rfl, by decide +kernel, rfl, ⟨by decide +kernel, by decide +kernel, by decide +kernel⟩, by decide, fun _ => ⟨zGT_2 115 rfl rfl, zGT_2 116 rfl rfl⟩, fun h => absurd h (by decide)⟩
theorem zmok_40 : zMok 40 := ⟨zGT_1 178 rfl rfl, zGT_1 1 rfl rfl, by decide +kernel, rfl, ⟨by decide +kernel, by decide +kernel, by decide +kernel⟩, by decide, fun _ => ⟨zGT_1 177 rfl rfl, zGT_0 4 rfl rfl⟩, fun h => absurd h (by decide)⟩
theorem zmok_41 : zMok 41 := ⟨zGT_2 121 rfl rfl, zGT_1 1 rfl rfl, by decide +kernel, rfl, ⟨by decide +kernel, by decide +kernel, by decide +kernel⟩, by decide, fun _ => ⟨zGT_2 119 rfl rfl, zGT_2 120 rfl rfl⟩, fun h => absurd h (by decide)⟩
theorem zmok_42 : zMok 42 := ⟨zGT_2 131 rfl rfl, zGT_1 1 rfl rfl, by decide +kernel, rfl, ⟨by decide +kernel, by decide +kernel, by decide +kernel⟩, by decide, fun _ => ⟨zGT_2 129 rfl rfl, zGT_2 130 rfl rfl⟩, fun h => absurd h (by decide)⟩
theorem zmok_43 : zMok 43 := ⟨zGT_2 142 rfl rfl, zGT_1 1 rfl rfl, by decide +kernel, rfl, ⟨by decide +kernel, by decide +kernel, by decide +kernel⟩, by decide, fun _ => ⟨zGT_2 140 rfl rfl, zGT_2 141 rfl rfl⟩, fun h => absurd h (by decide)⟩
theorem zmok_44 : zMok 44 := ⟨zGT_2 135 rfl rfl, zGT_1 1 rfl rfl, by decide +kernel, rfl, ⟨by decide +kernel, by decide +kernel, by decide +kernel⟩, by decide, fun _ => ⟨zGT_2 134 rfl rfl, zGT_0 16 rfl rfl⟩, fun h => absurd h (by decide)⟩
theorem zmok_45 : zMok 45 := ⟨zGT_2 138 rfl rfl, zGT_1 1 rfl rfl, by decide +kernel, rfl, ⟨by decide +kernel, by decide +kernel, by decide +kernel⟩, by decide, fun h => absurd h (by decide), fun _ => zGT_2 137 rfl rfl⟩
theorem zmok_46 : zMok 46 := ⟨zGT_2 146 rfl rfl, zGT_1 1 rfl rfl, by decide +kernel, rfl, ⟨by decide +kernel, by decide +kernel, by decide +kernel⟩, by decide, fun _ => ⟨zGT_2 144 rfl rfl, zGT_2 145 rfl rfl⟩, fun h => absurd h (by decide)⟩
theorem zmok_47 : zMok 47 := ⟨zGT_2 151 rfl rfl, zGT_1 1 rfl rfl, by decide +kernel, rfl, ⟨by decide +kernel, by decide +kernel, by decide +kernel⟩, by decide, fun _ => ⟨zGT_2 149 rfl rfl, zGT_2 150 rfl rfl⟩, fun h => absurd h (by decide)⟩
theorem zmok_48 : zMok 48 := ⟨zGT_2 164 rfl rfl, zGT_1 1 rfl rfl, by decide +kernel, rfl, ⟨by decide +kernel, by decide +kernel, by decide +kernel⟩, by decide, fun _ => ⟨zGT_2 162 rfl rfl, zGT_2 163 rfl rfl⟩, fun h => absurd h (by decide)⟩
theorem zmok_49 : zMok 49 := ⟨zGT_2 154 rfl rfl, zGT_1 1 rfl rfl, by decide +kernel, rfl, ⟨by decide +kernel, by decide +kernel, by decide +kernel⟩, by decide, fun h => absurd h (by decide), fun _ => zGT_2 153 rfl rfl⟩
theorem zmok_50 : zMok 50 := ⟨zGT_2 168 rfl rfl, zGT_1 1 rfl rfl, by decide +kernel, rfl, ⟨by decide +kernel, by decide +kernel, by decide +kernel⟩, by decide, fun _ => ⟨zGT_2 166 rfl rfl, zGT_2 167 rfl rfl⟩, fun h => absurd h (by decide)⟩
theorem zmok_51 : zMok 51 := ⟨zGT_2 171 rfl rfl, zGT_1 1 rfl rfl, by decide +kernel, rfl, ⟨by decide +kernel, by decide +kernel, by decide +kernel⟩, by decide, fun h => absurd h (by decide), fun _ => zGT_2 170 rfl rfl⟩
theorem zmok_52 : zMok 52 := ⟨zGT_2 175 rfl rfl, zGT_1 1 rfl rfl, by decide +kernel, rfl, ⟨by decide +kernel, by decide +kernel, by decide +kernel⟩, by decide, fun _ => ⟨zGT_2 173 rfl rfl, zGT_2 174 rfl rfl⟩, fun h => absurd h (by decide)⟩
theorem zmok_53 : zMok 53 := ⟨zGT_2 178 rfl rfl, zGT_1 1 rfl rfl, by decide +kernel, rfl, ⟨by decide +kernel, by decide +kernel, by decide +kernel⟩, by decide, fun h => absurd h (by decide), fun _ => zGT_2 177 rfl rfl⟩
theorem zmok_54 : zMok 54 := ⟨zGT_2 188 rfl rfl, zGT_1 1 rfl rfl, by decide +kernel, rfl, ⟨by decide +kernel, by decide +kernel, by decide +kernel⟩, by decide, fun _ => ⟨zGT_2 186 rfl rfl, zGT_2 187 rfl rfl⟩, fun h => absurd h (by decide)⟩
theorem zmok_55 : zMok 55 := ⟨zGT_2 191 rfl rfl, zGT_1 1 rfl rfl, by decide +kernel, rfl, ⟨by decide +kernel, by decide +kernel, by decide +kernel⟩, by decide, fun h => absurd h (by decide), fun _ => zGT_2 190 rfl rfl⟩
theorem zmok_56 : zMok 56 := ⟨zGT_2 194 rfl rfl, zGT_1 1 rfl rfl, by decide +kernel, rfl, ⟨by decide +kernel, by decide +kernel, by decide +kernel⟩, by decide, fun h => absurd h (by decide), fun _ => zGT_2 193 rfl rfl⟩
theorem zmok_57 : zMok 57 := ⟨zGT_2 198 rfl rfl, zGT_1 1 rfl rfl, by decide +kernel, rfl, ⟨by decide +kernel, by decide +kernel, by decide +kernel⟩, by decide, fun _ => ⟨zGT_2 196 rfl rfl, zGT_2 197 rfl rfl⟩, fun h => absurd h (by decide)⟩
theorem zmok_58 : zMok 58 := ⟨zGT_2 211 rfl rfl, zGT_1 1 rfl rfl, by decide +kernel, rfl, ⟨by decide +kernel, by decide +kernel, by decide +kernel⟩, by decide, fun _ => ⟨zGT_2 209 rfl rfl, zGT_2 210 rfl rfl⟩, fun h => absurd h (by decide)⟩
theorem zmok_59 : zMok 59 := ⟨zGT_2 216 rfl rfl, zGT_1 1 rfl rfl, by decide +kernel, rfl, ⟨by decide +kernel, by decide +kernel, by decide +kernel⟩, by decide, fun _ => ⟨zGT_2 214 rfl rfl, zGT_2 215 rfl rfl⟩, fun h => absurd h (by decide)⟩
theorem zmok_60 : zMok 60 := ⟨zGT_2 220 rfl rfl, zGT_1 1 rfl rfl, by decide +kernel, rfl, ⟨by decide +kernel, by decide +kernel, by decide +kernel⟩, by decide, fun _ => ⟨zGT_2 218 rfl rfl, zGT_2 219 rfl rfl⟩, fun h => absurd h (by decide)⟩
theorem zmok_61 : zMok 61 := ⟨zGT_2 226 rfl rfl, zGT_1 1 rfl rfl, by decide +kernel, rfl, ⟨by decide +kernel, by decide +kernel, by decide +kernel⟩, by decide, fun h => absurd h (by decide), fun _ => zGT_2 225 rfl rfl⟩
theorem zmok_62 : zMok 62 := ⟨zGT_2 230 rfl rfl, zGT_1 1 rfl rfl, by decide +kernel, rfl, ⟨by decide +kernel, by decide +kernel, by decide +kernel⟩, by decide, fun _ => ⟨zGT_2 228 rfl rfl, zGT_2 229 rfl rfl⟩, fun h => absurd h (by decide)⟩
theorem zmok_63 : zMok 63 := ⟨zGT_2 234 rfl rfl, zGT_1 1 rfl rfl, by decide +kernel, rfl, ⟨by decide +kernel, by decide +kernel, by decide +kernel⟩, by decide, fun _ => ⟨zGT_2 232 rfl rfl, zGT_2 233 rfl rfl⟩, fun h => absurd h (by decide)⟩
theorem zmok_64 : zMok 64 := ⟨zGT_3 8 rfl rfl, zGT_1 1 rfl rfl, by decide +kernel, rfl, ⟨by decide +kernel, by decide +kernel, by decide +kernel⟩, by decide, fun _ => ⟨zGT_3 6 rfl rfl, zGT_3 7 rfl rfl⟩, fun h => absurd h (by decide)⟩
theorem zmok_65 : zMok 65 := ⟨zGT_3 12 rfl rfl, zGT_1 1 rfl rfl, by decide +kernel, rfl, ⟨by decide +kernel, by decide +kernel, by decide +kernel⟩, by decide, fun _ => ⟨zGT_3 10 rfl rfl, zGT_3 11 rfl rfl⟩, fun h => absurd h (by decide)⟩
theorem zmok_66 : zMok 66 := ⟨zGT_3 30 rfl rfl, zGT_1 1 rfl rfl, by decide +kernel, rfl, ⟨by decide +kernel, by decide +kernel, by decide +kernel⟩, by decide, fun _ => ⟨zGT_3 29 rfl rfl, zGT_0 25 rfl rfl⟩, fun h => absurd h (by decide)⟩
theorem zmok_67 : zMok 67 := ⟨zGT_3 41 rfl rfl, zGT_1 1 rfl rfl, by decide +kernel, rfl, ⟨by decide +kernel, by decide +kernel, by decide +kernel⟩, by decide, fun h => absurd h (by decide), fun _ => zGT_3 40 rfl rfl⟩
theorem zmok_68 : zMok 68 := ⟨zGT_3 45 rfl rfl, zGT_1 1 rfl rfl, by decide +kernel, rfl, ⟨by decide +kernel, by decide +kernel, by decide +kernel⟩, by decide, fun _ => ⟨zGT_3 43 rfl rfl, zGT_3 44 rfl rfl⟩, fun h => absurd h (by decide)⟩
theorem zmok_69 : zMok 69 := ⟨zGT_3 49 rfl rfl, zGT_1 1 rfl rfl, by decide +kernel, rfl, ⟨by decide +kernel, by decide +kernel, by decide +kernel⟩, by decide, fun _ => ⟨zGT_3 47 rfl rfl, zGT_3 48 rfl rfl⟩, fun h => absurd h (by decide)⟩
theorem zmok_70 : zMok 70 := ⟨zGT_3 57 rfl rfl, zGT_1 1 rfl rfl, by decide +kernel, rfl, ⟨by decide +kernel, by decide +kernel, by decide +kernel⟩, by decide, fun _ => ⟨zGT_3 55 rfl rfl, zGT_3 56 rfl rfl⟩, fun h => absurd h (by decide)⟩
theorem zmok_71 : zMok 71 := ⟨zGT_3 65 rfl rfl, zGT_1 1 rfl rfl, by decide +kernel, rfl, ⟨by decide +kernel, by decide +kernel, by decide +kernel⟩, by decide, fun _ => ⟨zGT_3 63 rfl rfl, zGT_3 64 rfl rfl⟩, fun h => absurd h (by decide)⟩
theorem zmok_72 : zMok 72 := ⟨zGT_3 69 rfl rfl, zGT_1 1 rfl rfl, by decide +kernel, rfl, ⟨by decide +kernel, by decide +kernel, by decide +kernel⟩, by decide, fun _ => ⟨zGT_3 67 rfl rfl, zGT_3 68 rfl rfl⟩, fun h => absurd h (by decide)⟩
theorem zmok_73 : zMok 73 := ⟨zGT_3 73 rfl rfl, zGT_1 1 rfl rfl, by decide +kernel, rfl, ⟨by decide +kernel, by decide +kernel, by decide +kernel⟩, by decide, fun _ => ⟨zGT_3 71 rfl rfl, zGT_3 72 rfl rfl⟩, fun h => absurd h (by decide)⟩
theorem zmok_74 : zMok 74 := ⟨zGT_3 19 rfl rfl, zGT_1 1 rfl rfl, by decide +kernel, rfl, ⟨by decide +kernel, by decide +kernel, by decide +kernel⟩, by decide, fun h => absurd h (by decide), fun _ => zGT_3 18 rfl rfl⟩
theorem zmok_75 : zMok 75 := ⟨zGT_3 16 rfl rfl, zGT_1 1 rfl rfl, by decide +kernel, rfl, ⟨by decide +kernel, by decide +kernel, by decide +kernel⟩, by decide, fun _ => ⟨zGT_3 15 rfl rfl, zGT_0 23 rfl rfl⟩, fun h => absurd h (by decide)⟩
theorem zmok_76 : zMok 76 := ⟨zGT_3 22 rfl rfl, zGT_1 1 rfl rfl, by decide +kernel, rfl, ⟨by decide +kernel, by decide +kernel, by decide +kernel⟩, by decide, fun h => absurd h (by decide), fun _ => zGT_3 21 rfl rfl⟩
theorem zmok_77 : zMok 77 := ⟨zGT_3 136 rfl rfl, zGT_1 7 rfl rfl, by decide +kernel, rfl, ⟨by decide +kernel, by decide +kernel, by decide +kernel⟩, by decide, fun h => absurd h (by decide), fun _ => zGT_3 135 rfl rfl⟩
theorem zmok_78 : zMok 78 := ⟨zGT_3 140 rfl rfl, zGT_1 7 rfl rfl, by decide +kernel, rfl, ⟨by decide +kernel, by decide +kernel, by decide +kernel⟩, by decide, fun _ => ⟨zGT_3 139 rfl rfl, zGT_0 30 rfl rfl⟩, fun h => absurd h (by decide)⟩
theorem zmok_79 : zMok 79 := ⟨zGT_3 175 rfl rfl, zGT_1 7 rfl rfl, by decide +kernel, rfl, ⟨by decide +kernel, by decide +kernel, by decide +kernel⟩, by decide, fun _ => ⟨zGT_3 174 rfl rfl, zGT_0 35 rfl rfl⟩, fun h => absurd h (by decide)⟩
theorem zmok_80 : zMok 80 := ⟨zGT_3 171 rfl rfl, zGT_1 7 rfl rfl, by decide +kernel, rfl, ⟨by decide +kernel, by decide +kernel, by decide +kernel⟩, by decide, fun _ => ⟨zGT_3 170 rfl rfl, zGT_0 34 rfl rfl⟩, fun h => absurd h (by decide)⟩
theorem zmok_81 : zMok 81 := ⟨zGT_3 167 rfl rfl, zGT_1 7 rfl rfl, by decide +kernel, rfl, ⟨by decide +kernel, by decide +kernel, by decide +kernel⟩, by decide, fun _ => ⟨zGT_3 166 rfl rfl, zGT_0 33 rfl rfl⟩, fun h => absurd h (by decide)⟩
theorem zmok_82 : zMok 82 := ⟨zGT_3 163 rfl rfl, zGT_1 7 rfl rfl, by decide +kernel, rfl, ⟨by decide +kernel, by decide +kernel, by decide +kernel⟩, by decide, fun _ => ⟨zGT_3 162 rfl rfl, zGT_0 32 rfl rfl⟩, fun h => absurd h (by decide)⟩
theorem zmok_83 : zMok 83 := ⟨zGT_3 220 rfl rfl, zGT_1 7 rfl rfl, by decide +kernel, rfl, ⟨by decide +kernel, by decide +kernel, by decide +kernel⟩, by decide, fun _ => ⟨zGT_3 219 rfl rfl, zGT_0 37 rfl rfl⟩, fun h => absurd h (by decide)⟩
theorem zmok_84 : zMok 84 := ⟨zGT_3 227 rfl rfl, zGT_1 7 rfl rfl, by decide +kernel, rfl, ⟨by decide +kernel, by decide +kernel, by decide +kernel⟩, by decide, fun h => absurd h (by decide), fun _ => zGT_3 226 rfl rfl⟩
theorem zmok_85 : zMok 85 := ⟨zGT_3 188 rfl rfl, zGT_1 7 rfl rfl, by decide +kernel, rfl, ⟨by decide +kernel, by decide +kernel, by decide +kernel⟩, by decide, fun _ => ⟨zGT_3 187 rfl rfl, zGT_0 36 rfl rfl⟩, fun h => absurd h (by decide)⟩
theorem zmok_86 : zMok 86 := ⟨zGT_3 159 rfl rfl, zGT_1 7 rfl rfl, by decide +kernel, rfl, ⟨by decide +kernel, by decide +kernel, by decide +kernel⟩, by decide, fun _ => ⟨zGT_3 158 rfl rfl, zGT_0 31 rfl rfl⟩, fun h => absurd h (by decide)⟩
theorem zmok_87 : zMok 87 := ⟨zGT_3 131 rfl rfl, zGT_1 7 rfl rfl, by decide +kernel, rfl, ⟨by decide +kernel, by decide +kernel, by decide +kernel⟩, by decide, fun _ => ⟨zGT_3 129 rfl rfl, zGT_3 130 rfl rfl⟩, fun h => absurd h (by decide)⟩
theorem zmok_88 : zMok 88 := ⟨zGT_3 144 rfl rfl, zGT_1 7 rfl rfl, by decide +kernel, rfl, ⟨by decide +kernel, by decide +kernel, by decide +kernel⟩, by decide, fun _ => ⟨zGT_3 142 rfl rfl, zGT_3 143 rfl rfl⟩, fun h => absurd h (by decide)⟩
theorem zmok_89 : zMok 89 := ⟨zGT_3 150 rfl rfl, zGT_1 7 rfl rfl, by decide +kernel, rfl, ⟨by decide +kernel, by decide +kernel, by decide +kernel⟩, by decide, fun _ => ⟨zGT_3 148 rfl rfl, zGT_3 149 rfl rfl⟩, fun h => absurd h (by decide)⟩
theorem zmok_90 : zMok 90 := ⟨zGT_3 155 rfl rfl, zGT_1 7 rfl rfl, by decide +kernel, rfl, ⟨by decide +kernel, by decide +kernel, by decide +kernel⟩, by decide, fun _ => ⟨zGT_3 153 rfl rfl, zGT_3 154 rfl rfl⟩, fun h => absurd h (by decide)⟩
theorem zmok_91 : zMok 91 := ⟨zGT_3 179 rfl rfl, zGT_1 7 rfl rfl, by decide +kernel, rfl, ⟨by decide +kernel, by decide +kernel, by decide +kernel⟩, by decide, fun _ => ⟨zGT_3 177 rfl rfl, zGT_3 178 rfl rfl⟩, fun h => absurd h (by decide)⟩
theorem zmok_92 : zMok 92 := ⟨zGT_3 184 rfl rfl, zGT_1 7 rfl rfl, by decide +kernel, rfl, ⟨by decide +kernel, by decide +kernel, by decide +kernel⟩, by decide, fun _ => ⟨zGT_3 182 rfl rfl, zGT_3 183 rfl rfl⟩, fun h => absurd h (by decide)⟩
theorem zmok_93 : zMok 93 := ⟨zGT_3 192 rfl rfl, zGT_1 7 rfl rfl, by decide +kernel, rfl, ⟨by decide +kernel, by decide +kernel, by decide +kernel⟩, by decide, fun _ => ⟨zGT_3 190 rfl rfl, zGT_3 191 rfl rfl⟩, fun h => absurd h (by decide)⟩
theorem zmok_94 : zMok 94 := ⟨zGT_3 203 rfl rfl, zGT_1 7 rfl rfl, by decide +kernel, rfl, ⟨by decide +kernel, by decide +kernel, by decide +kernel⟩, by decide, fun h => absurd h (by decide), fun _ => zGT_3 202 rfl rfl⟩
theorem zmok_95 : zMok 95 := ⟨zGT_3 200 rfl rfl, zGT_1 7 rfl rfl, by decide +kernel, rfl, ⟨by decide +kernel, by decide +kernel, by decide +kernel⟩, by decide, fun _ => ⟨zGT_3 198 rfl rfl, zGT_3 199 rfl rfl⟩, fun h => absurd h (by decide)⟩
theorem zmok_96 : zMok 96 := ⟨zGT_3 207 rfl rfl, zGT_1 7 rfl rfl, by decide +kernel, rfl, ⟨by decide +kernel, by decide +kernel, by decide +kernel⟩, by decide, fun _ => ⟨zGT_3 205 rfl rfl, zGT_3 206 rfl rfl⟩, fun h => absurd h (by decide)⟩
theorem zmok_97 : zMok 97 := ⟨zGT_3 212 rfl rfl, zGT_1 7 rfl rfl, by decide +kernel, rfl, ⟨by decide +kernel, by decide +kernel, by decide +kernel⟩, by decide, fun _ => ⟨zGT_3 210 rfl rfl, zGT_3 211 rfl rfl⟩, fun h => absurd h (by decide)⟩
theorem zmok_98 : zMok 98 := ⟨zGT_3 216 rfl rfl, zGT_1 7 rfl rfl, by decide +kernel, rfl, ⟨by decide +kernel, by decide +kernel, by decide +kernel⟩, by decide, fun _ => ⟨zGT_3 214 rfl rfl, zGT_3 215 rfl rfl⟩, fun h => absurd h (by decide)⟩
theorem zmok_99 : zMok 99 := ⟨zGT_3 224 rfl rfl, zGT_1 7 rfl rfl, by decide +kernel, rfl, ⟨by decide +kernel, by decide +kernel, by decide +kernel⟩, by decide, fun _ => ⟨zGT_3 222 rfl rfl, zGT_3 223 rfl rfl⟩, fun h => absurd h (by decide)⟩
theorem zmok_100 : zMok 100 := ⟨zGT_3 236 rfl rfl, zGT_1 7 rfl rfl, by decide +kernel, rfl, ⟨by decide +kernel, by decide +kernel, by decide +kernel⟩, by decide, fun _ => ⟨zGT_3 235 rfl rfl, zGT_0 38 rfl rfl⟩, fun h => absurd h (by decide)⟩
theorem zmok_101 : zMok 101 := ⟨zGT_3 231 rfl rfl, zGT_1 7 rfl rfl, by decide +kernel, rfl, ⟨by decide +kernel, by decide +kernel, by decide +kernel⟩, by decide, fun _ => ⟨zGT_3 229 rfl rfl, zGT_3 230 rfl rfl⟩, fun h => absurd h (by decide)⟩
theorem zmok_102 : zMok 102 := ⟨zGT_4 0 rfl rfl, zGT_1 7 rfl rfl, by decide +kernel, rfl, ⟨by decide +kernel, by decide +kernel, by decide +kernel⟩, by decide, fun _ => ⟨zGT_3 238 rfl rfl, zGT_3 239 rfl rfl⟩, fun h => absurd h (by decide)⟩
theorem zmok_103 : zMok 103 := ⟨zGT_4 4 rfl rfl, zGT_1 7 rfl rfl, by decide +kernel, rfl, ⟨by decide +kernel, by decide +kernel, by decide +kernel⟩, by decide, fun _ => ⟨zGT_4 2 rfl rfl, zGT_4 3 rfl rfl⟩, fun h => absurd h (by decide)⟩
theorem zmok_104 : zMok 104 := ⟨zGT_4 13 rfl rfl, zGT_1 7 rfl rfl, by decide +kernel, rfl, ⟨by decide +kernel, by decide +kernel, by decide +kernel⟩, by decide, fun _ => ⟨zGT_4 12 rfl rfl, zGT_0 39 rfl rfl⟩, fun h => absurd h (by decide)⟩
theorem zmok_105 : zMok 105 := ⟨zGT_4 9 rfl rfl, zGT_1 7 rfl rfl, by decide +kernel, rfl, ⟨by decide +kernel, by decide +kernel, by decide +kernel⟩, by decide, fun _ => ⟨zGT_4 7 rfl rfl, zGT_4 8 rfl rfl⟩, fun h => absurd h (by decide)⟩
theorem zmok_106 : zMok 106 := ⟨zGT_4 21 rfl rfl, zGT_1 7 rfl rfl, by decide +kernel, rfl, ⟨by decide +kernel, by decide +kernel, by decide +kernel⟩, by decide, fun _ => ⟨zGT_4 20 rfl rfl, zGT_0 40 rfl rfl⟩, fun h => absurd h (by decide)⟩
theorem zmok_107 : zMok 107 := ⟨zGT_4 17 rfl rfl, zGT_1 7 rfl rfl, by decide +kernel, rfl, ⟨by decide +kernel, by decide +kernel, by decide +kernel⟩, by decide, fun _ => ⟨zGT_4 15 rfl rfl, zGT_4 16 rfl rfl⟩, fun h => absurd h (by decide)⟩
theorem zmok_108 : zMok 108 := ⟨zGT_4 25 rfl rfl, zGT_1 7 rfl rfl, by decide +kernel, rfl, ⟨by decide +kernel, by decide +kernel, by decide +kernel⟩, by decide, fun _ => ⟨zGT_4 23 rfl rfl, zGT_4 24 rfl rfl⟩, fun h => absurd h (by decide)⟩
theorem zmok_109 : zMok 109 := ⟨zGT_4 29 rfl rfl, zGT_1 7 rfl rfl, by decide +kernel, rfl, ⟨by decide +kernel, by decide +kernel, by decide +kernel⟩, by decide, fun _ => ⟨zGT_4 27 rfl rfl, zGT_4 28 rfl rfl⟩, fun h => absurd h (by decide)⟩
theorem zmok_110 : zMok 110 := ⟨zGT_4 38 rfl rfl, zGT_1 7 rfl rfl, by decide +kernel, rfl, ⟨by decide +kernel, by decide +kernel, by decide +kernel⟩, by decide, fun _ => ⟨zGT_4 37 rfl rfl, zGT_0 41 rfl rfl⟩, fun h => absurd h (by decide)⟩
theorem zmok_111 : zMok 111 := ⟨zGT_4 34 rfl rfl, zGT_1 7 rfl rfl, by decide +kernel, rfl, ⟨by decide +kernel, by decide +kernel, by decide +kernel⟩, by decide, fun _ => ⟨zGT_4 32 rfl rfl, zGT_4 33 rfl rfl⟩, fun h => absurd h (by decide)⟩
theorem zmok_112 : zMok 112 := ⟨zGT_4 42 rfl rfl, zGT_1 7 rfl rfl, by decide +kernel, rfl, ⟨by decide +kernel, by decide +kernel, by decide +kernel⟩, by decide, fun _ => ⟨zGT_4 40 rfl rfl, zGT_4 41 rfl rfl⟩, fun h => absurd h (by decide)⟩
theorem zmok_113 : zMok 113 := ⟨zGT_4 46 rfl rfl, zGT_1 7 rfl rfl, by decide +kernel, rfl, ⟨by decide +kernel, by decide +kernel, by decide +kernel⟩, by decide, fun _ => ⟨zGT_4 44 rfl rfl, zGT_4 45 rfl rfl⟩, fun h => absurd h (by decide)⟩
theorem zmok_114 : zMok 114 := ⟨zGT_4 50 rfl rfl, zGT_1 7 rfl rfl, by decide +kernel, rfl, ⟨by decide +kernel, by decide +kernel, by decide +kernel⟩, by decide, fun _ => ⟨zGT_4 48 rfl rfl, zGT_4 49 rfl rfl⟩, fun h => absurd h (by decide)⟩
theorem zmok_115 : zMok 115 := ⟨zGT_4 54 rfl rfl, zGT_1 7 rfl rfl, by decide +kernel, rfl, ⟨by decide +kernel, by decide +kernel, by decide +kernel⟩, by decide, fun _ => ⟨zGT_4 52 rfl rfl, zGT_4 53 rfl rfl⟩, fun h => absurd h (by decide)⟩
theorem zmok_116 : zMok 116 := ⟨zGT_4 63 rfl rfl, zGT_1 7 rfl rfl, by decide +kernel, rfl, ⟨by decide +kernel, by decide +kernel, by decide +kernel⟩, by decide, fun _ => ⟨zGT_4 61 rfl rfl, zGT_4 62 rfl rfl⟩, fun h => absurd h (by decide)⟩
theorem zmok_117 : zMok 117 := ⟨zGT_4 67 rfl rfl, zGT_1 7 rfl rfl, by decide +kernel, rfl, ⟨by decide +kernel, by decide +kernel, by decide +kernel⟩, by decide, fun _ => ⟨zGT_4 65 rfl rfl, zGT_4 66 rfl rfl⟩, fun h => absurd h (by decide)⟩
theorem zmok_118 : zMok 118 := ⟨zGT_4 71 rfl rfl, zGT_1 7 rfl rfl, by decide +kernel, rfl, ⟨by decide +kernel, by decide +kernel, by decide +kernel⟩, by decide, fun _ => ⟨zGT_4 69 rfl rfl, zGT_4 70 rfl rfl⟩, fun h => absurd h (by decide)⟩
theorem zmok_119 : zMok 119 := ⟨zGT_4 78 rfl rfl, zGT_1 7 rfl rfl, by decide +kernel, rfl, ⟨by decide +kernel, by decide +kernel, by decide +kernel⟩, by decide, fun h => absurd h (by decide), fun _ => zGT_4 77 rfl rfl⟩
theorem zmok_120 : zMok 120 := ⟨zGT_4 82 rfl rfl, zGT_1 7 rfl rfl, by decide +kernel, rfl, ⟨by decide +kernel, by decide +kernel, by decide +kernel⟩, by decide, fun _ => ⟨zGT_4 81 rfl rfl, zGT_0 42 rfl rfl⟩, fun h => absurd h (by decide)⟩
theorem zmok_121 : zMok 121 := ⟨zGT_4 86 rfl rfl, zGT_1 7 rfl rfl, by decide +kernel, rfl, ⟨by decide +kernel, by decide +kernel, by decide +kernel⟩, by decide, fun _ => ⟨zGT_4 85 rfl rfl, zGT_0 43 rfl rfl⟩, fun h => absurd h (by decide)⟩
theorem zmok_122 : zMok 122 := ⟨zGT_4 75 rfl rfl, zGT_1 7 rfl rfl, by decide +kernel, rfl, ⟨by decide +kernel, by decide +kernel, by decide +kernel⟩, by decide, fun _ => ⟨zGT_4 73 rfl rfl, zGT_4 74 rfl rfl⟩, fun h => absurd h (by decide)⟩
theorem zmok_123 : zMok 123 := ⟨zGT_4 90 rfl rfl, zGT_1 7 rfl rfl, by decide +kernel, rfl, ⟨by decide +kernel, by decide +kernel, by decide +kernel⟩, by decide, fun _ => ⟨zGT_4 88 rfl rfl, zGT_4 89 rfl rfl⟩, fun h => absurd h (by decide)⟩
theorem zmok_124 : zMok 124 := ⟨zGT_4 94 rfl rfl, zGT_1 7 rfl rfl, by decide +kernel, rfl, ⟨by decide +kernel, by decide +kernel, by decide +kernel⟩, by decide, fun _ => ⟨zGT_4 92 rfl rfl, zGT_4 93 rfl rfl⟩, fun h => absurd h (by decide)⟩
theorem zmok_125 : zMok 125 := ⟨zGT_4 98 rfl rfl, zGT_1 7 rfl rfl, by decide +kernel, rfl, ⟨by decide +kernel, by decide +kernel, by decide +kernel⟩, by decide, fun _ => ⟨zGT_4 96 rfl rfl, zGT_4 97 rfl rfl⟩, fun h => absurd h (by decide)⟩
theorem zmok_126 : zMok 126 := ⟨zGT_4 102 rfl rfl, zGT_1 7 rfl rfl, by decide +kernel, rfl, ⟨by decide +kernel, by decide +kernel, by decide +kernel⟩, by decide, fun _ => ⟨zGT_4 100 rfl rfl, zGT_4 101 rfl rfl⟩, fun h => absurd h (by decide)⟩
theorem zmok_127 : zMok 127 := ⟨zGT_4 106 rfl rfl, zGT_1 7 rfl rfl, by decide +kernel, rfl, ⟨by decide +kernel, by decide +kernel, by decide +kernel⟩, by decide, fun _ => ⟨zGT_4 104 rfl rfl, zGT_4 105 rfl rfl⟩, fun h => absurd h (by decide)⟩
theorem zmok_128 : zMok 128 := ⟨zGT_4 110 rfl rfl, zGT_1 7 rfl rfl, by decide +kernel, rfl, ⟨by decide +kernel, by decide +kernel, by decide +kernel⟩, by decide, fun _ => ⟨zGT_4 108 rfl rfl, zGT_4 109 rfl rfl⟩, fun h => absurd h (by decide)⟩
theorem zmok_129 : zMok 129 := ⟨zGT_2 39 rfl rfl, zGT_1 10 rfl rfl, by decide +kernel, rfl, ⟨by decide +kernel, by decide +kernel, by decide +kernel⟩, by decide, fun _ => ⟨zGT_2 37 rfl rfl, zGT_2 38 rfl rfl⟩, fun h => absurd h (by decide)⟩
theorem zmok_130 : zMok 130 := ⟨zGT_2 25 rfl rfl, zGT_1 10 rfl rfl, by decide +kernel, rfl, ⟨by decide +kernel, by decide +kernel, by decide +kernel⟩, by decide, fun _ => ⟨zGT_2 23 rfl rfl, zGT_2 24 rfl rfl⟩, fun h => absurd h (by decide)⟩
theorem zmok_131 : zMok 131 := ⟨zGT_2 29 rfl rfl, zGT_1 10 rfl rfl, by decide +kernel, rfl, ⟨by decide +kernel, by decide +kernel, by decide +kernel⟩, by decide, fun _ => ⟨zGT_2 27 rfl rfl, zGT_2 28 rfl rfl⟩, fun h => absurd h (by decide)⟩
theorem zmok_132 : zMok 132 := ⟨zGT_2 43 rfl rfl, zGT_1 10 rfl rfl, by decide +kernel, rfl, ⟨by decide +kernel, by decide +kernel, by decide +kernel⟩, by decide, fun _ => ⟨zGT_2 41 rfl rfl, zGT_2 42 rfl rfl⟩, fun h => absurd h (by decide)⟩
theorem zmok_133 : zMok 133 := ⟨zGT_2 33 rfl rfl, zGT_1 10 rfl rfl, by decide +kernel, rfl, ⟨by decide +kernel, by decide +kernel, by decide +kernel⟩, by decide, fun _ => ⟨zGT_2 31 rfl rfl, zGT_2 32 rfl rfl⟩, fun h => absurd h (by decide)⟩
theorem zmok_134 : zMok 134 := ⟨zGT_2 49 rfl rfl, zGT_1 11 rfl rfl, by decide +kernel, rfl, ⟨by decide +kernel, by decide +kernel, by decide +kernel⟩, by decide, fun h => absurd h (by decide), fun _ => zGT_2 48 rfl rfl⟩
theorem zmok_135 : zMok 135 := ⟨zGT_2 46 rfl rfl, zGT_1 11 rfl rfl, by decide +kernel, rfl, ⟨by decide +kernel, by decide +kernel, by decide +kernel⟩, by decide, fun h => absurd h (by decide), fun _ => zGT_2 45 rfl rfl⟩
theorem zmok_136 : zMok 136 := ⟨zGT_2 54 rfl rfl, zGT_1 11 rfl rfl, by decide +kernel, rfl, ⟨by decide +kernel, by decide +kernel, by decide +kernel⟩, by decide, fun h => absurd h (by decide), fun _ => zGT_2 53 rfl rfl⟩
theorem zmok_137 : zMok 137 := ⟨zGT_2 124 rfl rfl, zGT_1 15 rfl rfl, by decide +kernel, rfl, ⟨by decide +kernel, by decide +kernel, by decide +kernel⟩, by decide, fun h => absurd h (by decide), fun _ => zGT_2 123 rfl rfl⟩
theorem zmok_to_20 : ∀ a, a < 20 → zMok a := lt_s (lt_s (lt_s (lt_s (lt_s (lt_s (lt_s (lt_s (lt_s (lt_s (lt_s (lt_s (lt_s (lt_s (lt_s (lt_s (lt_s (lt_s (lt_s (lt_s (lt_0) zmok_0) zmok_1) zmok_2) zmok_3) zmok_4) zmok_5) zmok_6) zmok_7) zmok_8) zmok_9) zmok_10) zmok_11) zmok_12) zmok_13) zmok_14) zmok_15) zmok_16) zmok_17) zmok_18) zmok_19
theorem zmok_to_40 : ∀ a, a < 40 → zMok a := lt_s (lt_s (lt_s (lt_s (lt_s (lt_s (lt_s (lt_s (lt_s (lt_s (lt_s (lt_s (lt_s (lt_s (lt_s (lt_s (lt_s (lt_s (lt_s (lt_s (zmok_to_20) zmok_20) zmok_21) zmok_22) zmok_23) zmok_24) zmok_25) zmok_26) zmok_27) zmok_28) zmok_29) zmok_30) zmok_31) zmok_32) zmok_33) zmok_34) zmok_35) zmok_36) zmok_37) zmok_38) zmok_39
theorem zmok_to_60 : ∀ a, a < 60 → zMok a := lt_s (lt_s (lt_s (lt_s (lt_s (lt_s (lt_s (lt_s (lt_s (lt_s (lt_s (lt_s (lt_s (lt_s (lt_s (lt_s (lt_s (lt_s (lt_s (lt_s (zmok_to_40) zmok_40) zmok_41) zmok_42) zmok_43) zmok_44) zmok_45) zmok_46) zmok_47) zmok_48) zmok_49) zmok_50) zmok_51) zmok_52) zmok_53) zmok_54) zmok_55) zmok_56) zmok_57) zmok_58) zmok_59
theorem zmok_to_80 : ∀ a, a < 80 → zMok a := lt_s (lt_s (lt_s (lt_s (lt_s (lt_s (lt_s (lt_s (lt_s (lt_s (lt_s (lt_s (lt_s (lt_s (lt_s (lt_s (lt_s (lt_s (lt_s (lt_s (zmok_to_60) zmok_60) zmok_61) zmok_62) zmok_63) zmok_64) zmok_65) zmok_66) zmok_67) zmok_68) zmok_69) zmok_70) zmok_71) zmok_72) zmok_73) zmok_74) zmok_75) zmok_76) zmok_77) zmok_78) zmok_79
theorem zmok_to_100 : ∀ a, a < 100 → zMok a := lt_s (lt_s (lt_s (lt_s (lt_s (lt_s (lt_s (lt_s (lt_s (lt_s (lt_s (lt_s (lt_s (lt_s (lt_s (lt_s (lt_s (lt_s (lt_s (lt_s (zmok_to_80) zmok_80) zmok_81) zmok_82) zmok_83) zmok_84) zmok_85) zmok_86) zmok_87) zmok_88) zmok_89) zmok_90) zmok_91) zmok_92) zmok_93) zmok_94) zmok_95) zmok_96) zmok_97) zmok_98) zmok_99
theorem zmok_to_120 : ∀ a, a < 120 → zMok a := lt_s (lt_s (lt_s (lt_s (lt_s (lt_s (lt_s (lt_s (lt_s (lt_s (lt_s (lt_s (lt_s (lt_s (lt_s (lt_s (lt_s (lt_s (lt_s (lt_s (zmok_to_100) zmok_100) zmok_101) zmok_102) zmok_103) zmok_104) zmok_105) zmok_106) zmok_107) zmok_108) zmok_109) zmok_110) zmok_111) zmok_112) zmok_113) zmok_114) zmok_115) zmok_116) zmok_117) zmok_118) zmok_119
theorem zmok_to_138 : ∀ a, a < 138 → zMok a := lt_s (lt_s (lt_s (lt_s (lt_s (lt_s (lt_s (lt_s (lt_s (lt_s (lt_s (lt_s (lt_s (lt_s (lt_s (lt_s (lt_s (lt_s (zmok_to_120) zmok_120) zmok_121) zmok_122) zmok_123) zmok_124) zmok_125) zmok_126) zmok_127) zmok_128) zmok_129) zmok_130) zmok_131) zmok_132) zmok_133) zmok_134) zmok_135) zmok_136) zmok_137
theorem zcok_0 : zCok (0, 25, 0, 0) := ⟨by decide, fun _ => zGT_2 203 rfl rfl, fun h => absurd rfl h⟩
theorem zcok_1 : zCok (0, 29, 0, 1) := ⟨by decide, fun _ => zGT_1 212 rfl rfl, fun h => absurd rfl h⟩
theorem zcok_2 : zCok (0, 33, 0, 2) := ⟨by decide, fun _ => zGT_2 204 rfl rfl, fun h => absurd rfl h⟩
theorem zcok_3 : zCok (1, 25, 0, 9) := ⟨by decide, fun _ => zGT_2 183 rfl rfl, fun h => absurd rfl h⟩
theorem zcok_4 : zCok (1, 46, 0, 17) := ⟨by decide, fun _ => zGT_1 196 rfl rfl, fun h => absurd rfl h⟩
theorem zcok_5 : zCok (1, 50, 1, 3) := ⟨by decide, fun h => absurd h (by decide), fun _ => ⟨rfl, zTB_1 217 rfl⟩⟩
theorem zcok_6 : zCok (1, 54, 1, 1) := ⟨by decide, fun h => absurd h (by decide), fun _ => ⟨rfl, zTB_1 203 rfl⟩⟩
theorem zcok_7 : zCok (1, 57, 1, 4) := ⟨by decide, fun h => absurd h (by decide), fun _ => ⟨rfl, zTB_2 159 rfl⟩⟩
theorem zcok_8 : zCok (1, 60, 0, 18) := ⟨by decide, fun _ => zGT_1 200 rfl rfl, fun h => absurd rfl h⟩
theorem zcok_9 : zCok (1, 63, 1, 7) := ⟨by decide, fun h => absurd h (by decide), fun _ => ⟨rfl, zTB_1 208 rfl⟩⟩
theorem zcok_10 : zCok (1, 67, 0, 19) := ⟨by decide, fun _ => zGT_1 204 rfl rfl, fun h => absurd rfl h⟩
theorem zcok_11 : zCok (3, 30, 1, 6) := ⟨by decide, fun h => absurd h (by decide), fun _ => ⟨rfl, zTB_2 239 rfl⟩⟩
theorem zcok_12 : zCok (3, 34, 1, 12) := ⟨by decide, fun h => absurd h (by decide), fun _ => ⟨rfl, zTB_3 0 rfl⟩⟩
theorem zcok_13 : zCok (5, 54, 1, 1) := ⟨by decide, fun h => absurd h (by decide), fun _ => ⟨rfl, zTB_1 147 rfl⟩⟩
theorem zcok_14 : zCok (5, 67, 1, 9) := ⟨by decide, fun h => absurd h (by decide), fun _ => ⟨rfl, zTB_1 155 rfl⟩⟩
theorem zcok_15 : zCok (5, 70, 1, 10) := ⟨by decide, fun h => absurd h (by decide), fun _ => ⟨rfl, zTB_1 159 rfl⟩⟩
theorem zcok_16 : zCok (5, 80, 1, 8) := ⟨by decide, fun h => absurd h (by decide), fun _ => ⟨rfl, zTB_1 171 rfl⟩⟩
theorem zcok_17 : zCok (5, 84, 0, 40) := ⟨by decide, fun _ => zGT_1 175 rfl rfl, fun h => absurd rfl h⟩
theorem zcok_18 : zCok (5, 87, 1, 3) := ⟨by decide, fun h => absurd h (by decide), fun _ => ⟨rfl, zTB_1 225 rfl⟩⟩
theorem zcok_19 : zCok (5, 91, 1, 4) := ⟨by decide, fun h => absurd h (by decide), fun _ => ⟨rfl, zTB_1 221 rfl⟩⟩
theorem zcok_20 : zCok (5, 94, 1, 0) := ⟨by decide, fun h => absurd h (by decide), fun _ => ⟨rfl, zTB_1 234 rfl⟩⟩
theorem zcok_21 : zCok (5, 97, 0, 34) := ⟨by decide, fun _ => zGT_2 2 rfl rfl, fun h => absurd rfl h⟩
theorem zcok_22 : zCok (5, 102, 1, 26) := ⟨by decide, fun h => absurd h (by decide), fun _ => ⟨rfl, zTB_2 5 rfl⟩⟩
theorem zcok_23 : zCok (5, 103, 0, 36) := ⟨by decide, fun _ => zGT_2 13 rfl rfl, fun h => absurd rfl h⟩
theorem zcok_24 : zCok (5, 107, 1, 6) := ⟨by decide, fun h => absurd h (by decide), fun _ => ⟨rfl, zTB_1 179 rfl⟩⟩
theorem zcok_25 : zCok (5, 111, 1, 25) := ⟨by decide, fun h => absurd h (by decide), fun _ => ⟨rfl, zTB_2 17 rfl⟩⟩
theorem zcok_26 : zCok (5, 114, 0, 130) := ⟨by decide, fun _ => zGT_2 22 rfl rfl, fun h => absurd rfl h⟩
theorem zcok_27 : zCok (5, 119, 1, 13) := ⟨by decide, fun h => absurd h (by decide), fun _ => ⟨rfl, zTB_1 192 rfl⟩⟩
theorem zcok_28 : zCok (5, 123, 1, 17) := ⟨by decide, fun h => absurd h (by decide), fun _ => ⟨rfl, zTB_2 113 rfl⟩⟩
theorem zcok_29 : zCok (5, 127, 1, 15) := ⟨by decide, fun h => absurd h (by decide), fun _ => ⟨rfl, zTB_1 213 rfl⟩⟩
theorem zcok_30 : zCok (5, 131, 0, 137) := ⟨by decide, fun _ => zGT_2 122 rfl rfl, fun h => absurd rfl h⟩
theorem zcok_31 : zCok (5, 136, 0, 44) := ⟨by decide, fun _ => zGT_2 132 rfl rfl, fun h => absurd rfl h⟩
theorem zcok_32 : zCok (5, 140, 0, 45) := ⟨by decide, fun _ => zGT_2 136 rfl rfl, fun h => absurd rfl h⟩
theorem zcok_33 : zCok (5, 149, 0, 49) := ⟨by decide, fun _ => zGT_2 152 rfl rfl, fun h => absurd rfl h⟩
theorem zcok_34 : zCok (5, 153, 1, 16) := ⟨by decide, fun h => absurd h (by decide), fun _ => ⟨rfl, zTB_2 155 rfl⟩⟩
theorem zcok_35 : zCok (5, 160, 0, 51) := ⟨by decide, fun _ => zGT_2 169 rfl rfl, fun h => absurd rfl h⟩
theorem zcok_36 : zCok (5, 164, 0, 53) := ⟨by decide, fun _ => zGT_2 176 rfl rfl, fun h => absurd rfl h⟩
theorem zcok_37 : zCok (5, 168, 1, 11) := ⟨by decide, fun h => absurd h (by decide), fun _ => ⟨rfl, zTB_2 179 rfl⟩⟩
theorem zcok_38 : zCok (5, 171, 0, 55) := ⟨by decide, fun _ => zGT_2 189 rfl rfl, fun h => absurd rfl h⟩
theorem zcok_39 : zCok (5, 175, 0, 56) := ⟨by decide, fun _ => zGT_2 192 rfl rfl, fun h => absurd rfl h⟩
theorem zcok_40 : zCok (5, 178, 1, 5) := ⟨by decide, fun h => absurd h (by decide), fun _ => ⟨rfl, zTB_2 199 rfl⟩⟩
theorem zcok_41 : zCok (5, 181, 1, 2) := ⟨by decide, fun h => absurd h (by decide), fun _ => ⟨rfl, zTB_2 212 rfl⟩⟩
theorem zcok_42 : zCok (5, 190, 0, 61) := ⟨by decide, fun _ => zGT_2 224 rfl rfl, fun h => absurd rfl h⟩
theorem zcok_43 : zCok (5, 193, 1, 24) := ⟨by decide, fun h => absurd h (by decide), fun _ => ⟨rfl, zTB_2 235 rfl⟩⟩
theorem zcok_44 : zCok (5, 200, 0, 75) := ⟨by decide, fun _ => zGT_3 13 rfl rfl, fun h => absurd rfl h⟩
theorem zcok_45 : zCok (5, 204, 0, 74) := ⟨by decide, fun _ => zGT_3 17 rfl rfl, fun h => absurd rfl h⟩
theorem zcok_46 : zCok (5, 208, 0, 66) := ⟨by decide, fun _ => zGT_3 27 rfl rfl, fun h => absurd rfl h⟩
theorem zcok_47 : zCok (5, 212, 1, 14) := ⟨by decide, fun h => absurd h (by decide), fun _ => ⟨rfl, zTB_3 35 rfl⟩⟩
theorem zcok_48 : zCok (5, 216, 0, 67) := ⟨by decide, fun _ => zGT_3 39 rfl rfl, fun h => absurd rfl h⟩
theorem zcok_49 : zCok (5, 220, 1, 21) := ⟨by decide, fun h => absurd h (by decide), fun _ => ⟨rfl, zTB_3 31 rfl⟩⟩
theorem zcok_50 : zCok (5, 221, 1, 22) := ⟨by decide, fun h => absurd h (by decide), fun _ => ⟨rfl, zTB_3 50 rfl⟩⟩
theorem zcok_51 : zCok (5, 222, 0, 76) := ⟨by decide, fun _ => zGT_3 20 rfl rfl, fun h => absurd rfl h⟩
theorem zcok_52 : zCok (5, 225, 1, 23) := ⟨by decide, fun h => absurd h (by decide), fun _ => ⟨rfl, zTB_3 58 rfl⟩⟩
theorem zcok_53 : zCok (5, 234, 1, 20) := ⟨by decide, fun h => absurd h (by decide), fun _ => ⟨rfl, zTB_3 23 rfl⟩⟩
theorem zcok_54 : zCok (6, 50, 0, 79) := ⟨by decide, fun _ => zGT_3 172 rfl rfl, fun h => absurd rfl h⟩
theorem zcok_55 : zCok (6, 54, 0, 80) := ⟨by decide, fun _ => zGT_3 168 rfl rfl, fun h => absurd rfl h⟩
theorem zcok_56 : zCok (6, 58, 0, 77) := ⟨by decide, fun _ => zGT_3 134 rfl rfl, fun h => absurd rfl h⟩
theorem zcok_57 : zCok (6, 66, 0, 78) := ⟨by decide, fun _ => zGT_3 137 rfl rfl, fun h => absurd rfl h⟩
theorem zcok_58 : zCok (6, 76, 0, 86) := ⟨by decide, fun _ => zGT_3 156 rfl rfl, fun h => absurd rfl h⟩
theorem zcok_59 : zCok (6, 80, 0, 82) := ⟨by decide, fun _ => zGT_3 160 rfl rfl, fun h => absurd rfl h⟩
theorem zcok_60 : zCok (6, 84, 0, 81) := ⟨by decide, fun _ => zGT_3 164 rfl rfl, fun h => absurd rfl h⟩
theorem zcok_61 : zCok (6, 89, 0, 85) := ⟨by decide, fun _ => zGT_3 185 rfl rfl, fun h => absurd rfl h⟩
theorem zcok_62 : zCok (6, 104, 0, 94) := ⟨by decide, fun _ => zGT_3 201 rfl rfl, fun h => absurd rfl h⟩
theorem zcok_63 : zCok (6, 109, 0, 83) := ⟨by decide, fun _ => zGT_3 217 rfl rfl, fun h => absurd rfl h⟩
theorem zcok_64 : zCok (6, 112, 0, 84) := ⟨by decide, fun _ => zGT_3 225 rfl rfl, fun h => absurd rfl h⟩
theorem zcok_65 : zCok (6, 117, 0, 100) := ⟨by decide, fun _ => zGT_3 233 rfl rfl, fun h => absurd rfl h⟩
theorem zcok_66 : zCok (6, 122, 0, 104) := ⟨by decide, fun _ => zGT_4 10 rfl rfl, fun h => absurd rfl h⟩
theorem zcok_67 : zCok (6, 126, 0, 106) := ⟨by decide, fun _ => zGT_4 18 rfl rfl, fun h => absurd rfl h⟩
theorem zcok_68 : zCok (6, 131, 0, 110) := ⟨by decide, fun _ => zGT_4 35 rfl rfl, fun h => absurd rfl h⟩
theorem zcok_69 : zCok (6, 135, 0, 98) := ⟨by decide, fun _ => zGT_4 55 rfl rfl, fun h => absurd rfl h⟩
theorem zcok_70 : zCok (6, 149, 0, 119) := ⟨by decide, fun _ => zGT_4 76 rfl rfl, fun h => absurd rfl h⟩
theorem zcok_71 : zCok (6, 152, 0, 120) := ⟨by decide, fun _ => zGT_4 79 rfl rfl, fun h => absurd rfl h⟩
theorem zcok_72 : zCok (6, 156, 0, 121) := ⟨by decide, fun _ => zGT_4 83 rfl rfl, fun h => absurd rfl h⟩
theorem zcok_73 : zCok (7, 335, 0, 132) := ⟨by decide, fun _ => zGT_2 40 rfl rfl, fun h => absurd rfl h⟩
theorem zcok_74 : zCok (7, 492, 0, 133) := ⟨by decide, fun _ => zGT_2 30 rfl rfl, fun h => absurd rfl h⟩
theorem zcok_75 : zCok (7, 505, 0, 129) := ⟨by decide, fun _ => zGT_2 36 rfl rfl, fun h => absurd rfl h⟩
theorem zcok_76 : zCok (7, 633, 0, 131) := ⟨by decide, fun _ => zGT_2 26 rfl rfl, fun h => absurd rfl h⟩
theorem zcok_77 : zCok (7, 637, 0, 135) := ⟨by decide, fun _ => zGT_2 44 rfl rfl, fun h => absurd rfl h⟩
theorem zcok_78 : zCok (8, 88, 0, 134) := ⟨by decide, fun _ => zGT_2 47 rfl rfl, fun h => absurd rfl h⟩
theorem zcok_79 : zCok (8, 95, 0, 136) := ⟨by decide, fun _ => zGT_2 52 rfl rfl, fun h => absurd rfl h⟩
theorem zcok_80 : zCok (11, 13, 0, 27) := ⟨by decide, fun _ => zGT_1 143 rfl rfl, fun h => absurd rfl h⟩
theorem zcok_81 : zCok (11, 17, 0, 87) := ⟨by decide, fun _ => zGT_3 128 rfl rfl, fun h => absurd rfl h⟩
theorem zcok_82 : zCok (11, 18, 0, 28) := ⟨by decide, fun _ => zGT_1 151 rfl rfl, fun h => absurd rfl h⟩
theorem zcok_83 : zCok (11, 22, 0, 88) := ⟨by decide, fun _ => zGT_3 141 rfl rfl, fun h => absurd rfl h⟩
theorem zcok_84 : zCok (11, 23, 0, 29) := ⟨by decide, fun _ => zGT_1 163 rfl rfl, fun h => absurd rfl h⟩
theorem zcok_85 : zCok (11, 26, 0, 89) := ⟨by decide, fun _ => zGT_3 147 rfl rfl, fun h => absurd rfl h⟩
theorem zcok_86 : zCok (11, 27, 0, 30) := ⟨by decide, fun _ => zGT_1 167 rfl rfl, fun h => absurd rfl h⟩
theorem zcok_87 : zCok (11, 30, 0, 90) := ⟨by decide, fun _ => zGT_3 152 rfl rfl, fun h => absurd rfl h⟩
theorem zcok_88 : zCok (11, 31, 0, 31) := ⟨by decide, fun _ => zGT_1 226 rfl rfl, fun h => absurd rfl h⟩
theorem zcok_89 : zCok (11, 34, 0, 91) := ⟨by decide, fun _ => zGT_3 176 rfl rfl, fun h => absurd rfl h⟩
theorem zcok_90 : zCok (11, 35, 0, 32) := ⟨by decide, fun _ => zGT_1 230 rfl rfl, fun h => absurd rfl h⟩
theorem zcok_91 : zCok (11, 38, 0, 92) := ⟨by decide, fun _ => zGT_3 181 rfl rfl, fun h => absurd rfl h⟩
theorem zcok_92 : zCok (11, 41, 0, 33) := ⟨by decide, fun _ => zGT_1 238 rfl rfl, fun h => absurd rfl h⟩
theorem zcok_93 : zCok (11, 45, 0, 93) := ⟨by decide, fun _ => zGT_3 189 rfl rfl, fun h => absurd rfl h⟩
theorem zcok_94 : zCok (11, 46, 0, 35) := ⟨by decide, fun _ => zGT_2 9 rfl rfl, fun h => absurd rfl h⟩
theorem zcok_95 : zCok (11, 50, 0, 95) := ⟨by decide, fun _ => zGT_3 197 rfl rfl, fun h => absurd rfl h⟩
theorem zcok_96 : zCok (11, 51, 0, 37) := ⟨by decide, fun _ => zGT_2 105 rfl rfl, fun h => absurd rfl h⟩
theorem zcok_97 : zCok (11, 54, 0, 96) := ⟨by decide, fun _ => zGT_3 204 rfl rfl, fun h => absurd rfl h⟩
theorem zcok_98 : zCok (11, 55, 0, 38) := ⟨by decide, fun _ => zGT_2 109 rfl rfl, fun h => absurd rfl h⟩
theorem zcok_99 : zCok (11, 58, 0, 97) := ⟨by decide, fun _ => zGT_3 209 rfl rfl, fun h => absurd rfl h⟩
theorem zcok_100 : zCok (11, 59, 0, 39) := ⟨by decide, fun _ => zGT_2 114 rfl rfl, fun h => absurd rfl h⟩
theorem zcok_101 : zCok (11, 62, 0, 98) := ⟨by decide, fun _ => zGT_3 213 rfl rfl, fun h => absurd rfl h⟩
theorem zcok_102 : zCok (11, 63, 0, 41) := ⟨by decide, fun _ => zGT_2 118 rfl rfl, fun h => absurd rfl h⟩
theorem zcok_103 : zCok (11, 66, 0, 99) := ⟨by decide, fun _ => zGT_3 221 rfl rfl, fun h => absurd rfl h⟩
theorem zcok_104 : zCok (11, 67, 0, 42) := ⟨by decide, fun _ => zGT_2 128 rfl rfl, fun h => absurd rfl h⟩
theorem zcok_105 : zCok (11, 70, 0, 101) := ⟨by decide, fun _ => zGT_3 228 rfl rfl, fun h => absurd rfl h⟩
theorem zcok_106 : zCok (11, 71, 0, 43) := ⟨by decide, fun _ => zGT_2 139 rfl rfl, fun h => absurd rfl h⟩
theorem zcok_107 : zCok (11, 74, 0, 102) := ⟨by decide, fun _ => zGT_3 237 rfl rfl, fun h => absurd rfl h⟩
theorem zcok_108 : zCok (11, 75, 0, 46) := ⟨by decide, fun _ => zGT_2 143 rfl rfl, fun h => absurd rfl h⟩
theorem zcok_109 : zCok (11, 78, 0, 103) := ⟨by decide, fun _ => zGT_4 1 rfl rfl, fun h => absurd rfl h⟩
theorem zcok_110 : zCok (11, 79, 0, 47) := ⟨by decide, fun _ => zGT_2 148 rfl rfl, fun h => absurd rfl h⟩
theorem zcok_111 : zCok (11, 82, 0, 105) := ⟨by decide, fun _ => zGT_4 6 rfl rfl, fun h => absurd rfl h⟩
theorem zcok_112 : zCok (11, 83, 0, 48) := ⟨by decide, fun _ => zGT_2 161 rfl rfl, fun h => absurd rfl h⟩
theorem zcok_113 : zCok (11, 86, 0, 107) := ⟨by decide, fun _ => zGT_4 14 rfl rfl, fun h => absurd rfl h⟩
theorem zcok_114 : zCok (11, 87, 0, 50) := ⟨by decide, fun _ => zGT_2 165 rfl rfl, fun h => absurd rfl h⟩
theorem zcok_115 : zCok (11, 90, 0, 108) := ⟨by decide, fun _ => zGT_4 22 rfl rfl, fun h => absurd rfl h⟩
theorem zcok_116 : zCok (11, 91, 0, 52) := ⟨by decide, fun _ => zGT_2 172 rfl rfl, fun h => absurd rfl h⟩
theorem zcok_117 : zCok (11, 94, 0, 109) := ⟨by decide, fun _ => zGT_4 26 rfl rfl, fun h => absurd rfl h⟩
theorem zcok_118 : zCok (11, 95, 0, 54) := ⟨by decide, fun _ => zGT_2 185 rfl rfl, fun h => absurd rfl h⟩
theorem zcok_119 : zCok (11, 98, 0, 111) := ⟨by decide, fun _ => zGT_4 31 rfl rfl, fun h => absurd rfl h⟩
theorem zcok_120 : zCok (11, 99, 0, 57) := ⟨by decide, fun _ => zGT_2 195 rfl rfl, fun h => absurd rfl h⟩
theorem zcok_121 : zCok (11, 102, 0, 112) := ⟨by decide, fun _ => zGT_4 39 rfl rfl, fun h => absurd rfl h⟩
theorem zcok_122 : zCok (11, 103, 0, 58) := ⟨by decide, fun _ => zGT_2 208 rfl rfl, fun h => absurd rfl h⟩
theorem zcok_123 : zCok (11, 106, 0, 113) := ⟨by decide, fun _ => zGT_4 43 rfl rfl, fun h => absurd rfl h⟩
theorem zcok_124 : zCok (11, 107, 0, 59) := ⟨by decide, fun _ => zGT_2 213 rfl rfl, fun h => absurd rfl h⟩
theorem zcok_125 : zCok (11, 110, 0, 114) := ⟨by decide, fun _ => zGT_4 47 rfl rfl, fun h => absurd rfl h⟩
theorem zcok_126 : zCok (11, 111, 0, 60) := ⟨by decide, fun _ => zGT_2 217 rfl rfl, fun h => absurd rfl h⟩
theorem zcok_127 : zCok (11, 114, 0, 115) := ⟨by decide, fun _ => zGT_4 51 rfl rfl, fun h => absurd rfl h⟩
theorem zcok_128 : zCok (11, 115, 0, 62) := ⟨by decide, fun _ => zGT_2 227 rfl rfl, fun h => absurd rfl h⟩
theorem zcok_129 : zCok (11, 118, 0, 116) := ⟨by decide, fun _ => zGT_4 60 rfl rfl, fun h => absurd rfl h⟩
theorem zcok_130 : zCok (11, 119, 0, 63) := ⟨by decide, fun _ => zGT_2 231 rfl rfl, fun h => absurd rfl h⟩
theorem zcok_131 : zCok (11, 122, 0, 117) := ⟨by decide, fun _ => zGT_4 64 rfl rfl, fun h => absurd rfl h⟩
theorem zcok_132 : zCok (11, 123, 0, 64) := ⟨by decide, fun _ => zGT_3 5 rfl rfl, fun h => absurd rfl h⟩
theorem zcok_133 : zCok (11, 126, 0, 118) := ⟨by decide, fun _ => zGT_4 68 rfl rfl, fun h => absurd rfl h⟩
theorem zcok_134 : zCok (11, 127, 0, 65) := ⟨by decide, fun _ => zGT_3 9 rfl rfl, fun h => absurd rfl h⟩
theorem zcok_135 : zCok (11, 131, 0, 122) := ⟨by decide, fun _ => zGT_4 72 rfl rfl, fun h => absurd rfl h⟩
theorem zcok_136 : zCok (11, 132, 0, 68) := ⟨by decide, fun _ => zGT_3 42 rfl rfl, fun h => absurd rfl h⟩
theorem zcok_137 : zCok (11, 136, 0, 123) := ⟨by decide, fun _ => zGT_4 87 rfl rfl, fun h => absurd rfl h⟩
theorem zcok_138 : zCok (11, 137, 0, 69) := ⟨by decide, fun _ => zGT_3 46 rfl rfl, fun h => absurd rfl h⟩
theorem zcok_139 : zCok (11, 141, 0, 124) := ⟨by decide, fun _ => zGT_4 91 rfl rfl, fun h => absurd rfl h⟩
theorem zcok_140 : zCok (11, 142, 0, 70) := ⟨by decide, fun _ => zGT_3 54 rfl rfl, fun h => absurd rfl h⟩
theorem zcok_141 : zCok (11, 145, 0, 125) := ⟨by decide, fun _ => zGT_4 95 rfl rfl, fun h => absurd rfl h⟩
theorem zcok_142 : zCok (11, 146, 0, 71) := ⟨by decide, fun _ => zGT_3 62 rfl rfl, fun h => absurd rfl h⟩
theorem zcok_143 : zCok (11, 149, 0, 126) := ⟨by decide, fun _ => zGT_4 99 rfl rfl, fun h => absurd rfl h⟩
theorem zcok_144 : zCok (11, 150, 0, 72) := ⟨by decide, fun _ => zGT_3 66 rfl rfl, fun h => absurd rfl h⟩
theorem zcok_145 : zCok (11, 153, 0, 127) := ⟨by decide, fun _ => zGT_4 103 rfl rfl, fun h => absurd rfl h⟩
theorem zcok_146 : zCok (11, 154, 0, 73) := ⟨by decide, fun _ => zGT_3 70 rfl rfl, fun h => absurd rfl h⟩
theorem zcok_147 : zCok (11, 157, 0, 128) := ⟨by decide, fun _ => zGT_4 107 rfl rfl, fun h => absurd rfl h⟩
set_option maxRecDepth 20000 in
theorem zcok : ∀ q ∈ zcall, zCok q := List.forall_mem_cons.mpr ⟨zcok_0, List.forall_mem_cons.mpr ⟨zcok_1, List.forall_mem_cons.mpr ⟨zcok_2, List.forall_mem_cons.mpr ⟨zcok_3, List.forall_mem_cons.mpr ⟨zcok_4, List.forall_mem_cons.mpr ⟨zcok_5, List.forall_mem_cons.mpr ⟨zcok_6, List.forall_mem_cons.mpr ⟨zcok_7, List.forall_mem_cons.mpr ⟨zcok_8, List.forall_mem_cons.mpr ⟨zcok_9, List.forall_mem_cons.mpr ⟨zcok_10, List.forall_mem_cons.mpr ⟨zcok_11, List.forall_mem_cons.mpr ⟨zcok_12, List.forall_mem_cons.mpr ⟨zcok_13, List.forall_mem_cons.mpr ⟨zcok_14, List.forall_mem_cons.mpr ⟨zcok_15, List.forall_mem_cons.mpr ⟨zcok_16, List.forall_mem_cons.mpr ⟨zcok_17, List.forall_mem_cons.mpr ⟨zcok_18, List.forall_mem_cons.mpr ⟨zcok_19, List.forall_mem_cons.mpr ⟨zcok_20, List.forall_mem_cons.mpr ⟨zcok_21, List.forall_mem_cons.mpr ⟨zcok_22, List.forall_mem_cons.mpr ⟨zcok_23, List.forall_mem_cons.mpr ⟨zcok_24, List.forall_mem_cons.mpr ⟨zcok_25, List.forall_mem_cons.mpr ⟨zcok_26, List.forall_mem_cons.mpr ⟨zcok_27, List.forall_mem_cons.mpr ⟨zcok_28, List.forall_mem_cons.mpr ⟨zcok_29, List.forall_mem_cons.mpr ⟨zcok_30, List.forall_mem_cons.mpr ⟨zcok_31, List.forall_mem_cons.mpr ⟨zcok_32, List.forall_mem_cons.mpr ⟨zcok_33, List.forall_mem_cons.mpr ⟨zcok_34, List.forall_mem_cons.mpr ⟨zcok_35, List.forall_mem_cons.mpr ⟨zcok_36, List.forall_mem_cons.mpr ⟨zcok_37, List.forall_mem_cons.mpr ⟨zcok_38, List.forall_mem_cons.mpr ⟨zcok_39, List.forall_mem_cons.mpr ⟨zcok_40, List.forall_mem_cons.mpr ⟨zcok_41, List.forall_mem_cons.mpr ⟨zcok_42, List.forall_mem_cons.mpr ⟨zcok_43, List.forall_mem_cons.mpr ⟨zcok_44, List.forall_mem_cons.mpr ⟨zcok_45, List.forall_mem_cons.mpr ⟨zcok_46, List.forall_mem_cons.mpr ⟨zcok_47, List.forall_mem_cons.mpr ⟨zcok_48, List.forall_mem_cons.mpr ⟨zcok_49, List.forall_mem_cons.mpr ⟨zcok_50, List.forall_mem_cons.mpr ⟨zcok_51, List.forall_mem_cons.mpr ⟨zcok_52, List.forall_mem_cons.mpr ⟨zcok_53, List.forall_mem_cons.mpr ⟨zcok_54, List.forall_mem_cons.mpr ⟨zcok_55, List.forall_mem_cons.mpr ⟨zcok_56, List.forall_mem_cons.mpr ⟨zcok_57, List.forall_mem_cons.mpr ⟨zcok_58, List.forall_mem_cons.mpr ⟨zcok_59, List.forall_mem_cons.mpr ⟨zcok_60, List.forall_mem_cons.mpr ⟨zcok_61, List.forall_mem_cons.mpr ⟨zcok_62, List.forall_mem_cons.mpr ⟨zcok_63, List.forall_mem_cons.mpr ⟨zcok_64, List.forall_mem_cons.mpr ⟨zcok_65, List.forall_mem_cons.mpr ⟨zcok_66, List.forall_mem_cons.mpr ⟨zcok_67, List.forall_mem_cons.mpr ⟨zcok_68, List.forall_mem_cons.mpr ⟨zcok_69, List.forall_mem_cons.mpr ⟨zcok_70, List.forall_mem_cons.mpr ⟨zcok_71, List.forall_mem_cons.mpr ⟨zcok_72, List.forall_mem_cons.mpr ⟨zcok_73, List.forall_mem_cons.mpr ⟨zcok_74, List.forall_mem_cons.mpr ⟨zcok_75, List.forall_mem_cons.mpr ⟨zcok_76, List.forall_mem_cons.mpr ⟨zcok_77, List.forall_mem_cons.mpr ⟨zcok_78, List.forall_mem_cons.mpr ⟨zcok_79, List.forall_mem_cons.mpr ⟨zcok_80, List.forall_mem_cons.mpr ⟨zcok_81, List.forall_mem_cons.mpr ⟨zcok_82, List.forall_mem_cons.mpr ⟨zcok_83, List.forall_mem_cons.mpr ⟨zcok_84, List.forall_mem_cons.mpr ⟨zcok_85, List.forall_mem_cons.mpr ⟨zcok_86, List.forall_mem_cons.mpr ⟨zcok_87, List.forall_mem_cons.mpr ⟨zcok_88, List.forall_mem_cons.mpr ⟨zcok_89, List.forall_mem_cons.mpr ⟨zcok_90, List.forall_mem_cons.mpr ⟨zcok_91, List.forall_mem_cons.mpr ⟨zcok_92, List.forall_mem_cons.mpr ⟨zcok_93, List.forall_mem_cons.mpr ⟨zcok_94, List.forall_mem_cons.mpr ⟨zcok_95, List.forall_mem_cons.mpr ⟨zcok_96, List.forall_mem_cons.mpr ⟨zcok_97, List.forall_mem_cons.mpr ⟨zcok_98, List.forall_mem_cons.mpr ⟨zcok_99, List.forall_mem_cons.mpr ⟨zcok_100, List.forall_mem_cons.mpr ⟨zcok_101, List.forall_mem_cons.mpr ⟨zcok_102, List.forall_mem_cons.mpr ⟨zcok_103, List.forall_mem_cons.mpr ⟨zcok_104, List.forall_mem_cons.mpr ⟨zcok_105, List.forall_mem_cons.mpr ⟨zcok_106, List.forall_mem_cons.mpr ⟨zcok_107, List.forall_mem_cons.mpr ⟨zcok_108, List.forall_mem_cons.mpr ⟨zcok_109, List.forall_mem_cons.mpr ⟨zcok_110, List.forall_mem_cons.mpr ⟨zcok_111, List.forall_mem_cons.mpr ⟨zcok_112, List.forall_mem_cons.mpr ⟨zcok_113, List.forall_mem_cons.mpr ⟨zcok_114, List.forall_mem_cons.mpr ⟨zcok_115, List.forall_mem_cons.mpr ⟨zcok_116, List.forall_mem_cons.mpr ⟨zcok_117, List.forall_mem_cons.mpr ⟨zcok_118, List.forall_mem_cons.mpr ⟨zcok_119, List.forall_mem_cons.mpr ⟨zcok_120, List.forall_mem_cons.mpr ⟨zcok_121, List.forall_mem_cons.mpr ⟨zcok_122, List.forall_mem_cons.mpr ⟨zcok_123, List.forall_mem_cons.mpr ⟨zcok_124, List.forall_mem_cons.mpr ⟨zcok_125, List.forall_mem_cons.mpr ⟨zcok_126, List.forall_mem_cons.mpr ⟨zcok_127, List.forall_mem_cons.mpr ⟨zcok_128, List.forall_mem_cons.mpr ⟨zcok_129, List.forall_mem_cons.mpr ⟨zcok_130, List.forall_mem_cons.mpr ⟨zcok_131, List.forall_mem_cons.mpr ⟨zcok_132, List.forall_mem_cons.mpr ⟨zcok_133, List.forall_mem_cons.mpr ⟨zcok_134, List.forall_mem_cons.mpr ⟨zcok_135, List.forall_mem_cons.mpr ⟨zcok_136, List.forall_mem_cons.mpr ⟨zcok_137, List.forall_mem_cons.mpr ⟨zcok_138, List.forall_mem_cons.mpr ⟨zcok_139, List.forall_mem_cons.mpr ⟨zcok_140, List.forall_mem_cons.mpr ⟨zcok_141, List.forall_mem_cons.mpr ⟨zcok_142, List.forall_mem_cons.mpr ⟨zcok_143, List.forall_mem_cons.mpr ⟨zcok_144, List.forall_mem_cons.mpr ⟨zcok_145, List.forall_mem_cons.mpr ⟨zcok_146, List.forall_mem_cons.mpr ⟨zcok_147, fun _ h => absurd h List.not_mem_nil⟩⟩⟩⟩⟩⟩⟩⟩⟩⟩⟩⟩⟩⟩⟩⟩⟩⟩⟩⟩⟩⟩⟩⟩⟩⟩⟩⟩⟩⟩⟩⟩⟩⟩⟩⟩⟩⟩⟩⟩⟩⟩⟩⟩⟩⟩⟩⟩⟩⟩⟩⟩⟩⟩⟩⟩⟩⟩⟩⟩⟩⟩⟩⟩⟩⟩⟩⟩⟩⟩⟩⟩⟩⟩⟩⟩⟩⟩⟩⟩⟩⟩⟩⟩⟩⟩⟩⟩⟩⟩⟩⟩⟩⟩⟩⟩⟩⟩⟩⟩⟩⟩⟩⟩⟩⟩⟩⟩⟩⟩⟩⟩⟩⟩⟩⟩⟩⟩⟩⟩⟩⟩⟩⟩⟩⟩⟩⟩⟩⟩⟩⟩⟩⟩⟩⟩⟩⟩⟩⟩⟩⟩⟩⟩⟩⟩⟩⟩
theorem zfok_0 : zFok (0, 9, 0, 0, 0) := ⟨⟨by decide, by decide, by decide +kernel⟩, fun _ => zGT_1 36 rfl rfl, fun h => absurd rfl h⟩
theorem zfok_1 : zFok (0, 15, 0, 0, 1) := ⟨⟨by decide, by decide, by decide +kernel⟩, fun _ => zGT_1 37 rfl rfl, fun h => absurd rfl h⟩
theorem zfok_2 : zFok (1, 9, 0, 1, 0) := ⟨⟨by decide, by decide, by decide +kernel⟩, fun _ => zGT_1 53 rfl rfl, fun h => absurd rfl h⟩
theorem zfok_3 : zFok (1, 15, 0, 1, 1) := ⟨⟨by decide, by decide, by decide +kernel⟩, fun _ => zGT_1 55 rfl rfl, fun h => absurd rfl h⟩
theorem zfok_4 : zFok (1, 18, 0, 1, 2) := ⟨⟨by decide, by decide, by decide +kernel⟩, fun _ => zGT_1 57 rfl rfl, fun h => absurd rfl h⟩
theorem zfok_5 : zFok (1, 21, 0, 1, 3) := ⟨⟨by decide, by decide, by decide +kernel⟩, fun _ => zGT_1 59 rfl rfl, fun h => absurd rfl h⟩
theorem zfok_6 : zFok (1, 41, 1, 0, 1) := ⟨⟨by decide, by decide, by decide +kernel⟩, fun h => absurd h (by decide), fun _ => ⟨rfl, zTB_1 40 rfl⟩⟩
theorem zfok_7 : zFok (2, 9, 0, 2, 0) := ⟨⟨by decide, by decide, by decide +kernel⟩, fun _ => zGT_1 105 rfl rfl, fun h => absurd rfl h⟩
theorem zfok_8 : zFok (2, 15, 0, 2, 2) := ⟨⟨by decide, by decide, by decide +kernel⟩, fun _ => zGT_1 109 rfl rfl, fun h => absurd rfl h⟩
theorem zfok_9 : zFok (2, 19, 0, 2, 1) := ⟨⟨by decide, by decide, by decide +kernel⟩, fun _ => zGT_1 107 rfl rfl, fun h => absurd rfl h⟩
theorem zfok_10 : zFok (3, 10, 0, 3, 0) := ⟨⟨by decide, by decide, by decide +kernel⟩, fun _ => zGT_1 69 rfl rfl, fun h => absurd rfl h⟩
theorem zfok_11 : zFok (3, 19, 0, 3, 1) := ⟨⟨by decide, by decide, by decide +kernel⟩, fun _ => zGT_1 71 rfl rfl, fun h => absurd rfl h⟩
theorem zfok_12 : zFok (3, 23, 0, 3, 2) := ⟨⟨by decide, by decide, by decide +kernel⟩, fun _ => zGT_1 73 rfl rfl, fun h => absurd rfl h⟩
theorem zfok_13 : zFok (3, 27, 1, 0, 1) := ⟨⟨by decide, by decide, by decide +kernel⟩, fun h => absurd h (by decide), fun _ => ⟨rfl, zTB_1 38 rfl⟩⟩
theorem zfok_14 : zFok (4, 9, 0, 4, 0) := ⟨⟨by decide, by decide, by decide +kernel⟩, fun _ => zGT_1 88 rfl rfl, fun h => absurd rfl h⟩
theorem zfok_15 : zFok (4, 15, 0, 4, 1) := ⟨⟨by decide, by decide, by decide +kernel⟩, fun _ => zGT_1 89 rfl rfl, fun h => absurd rfl h⟩
theorem zfok_16 : zFok (5, 10, 0, 5, 0) := ⟨⟨by decide, by decide, by decide +kernel⟩, fun _ => zGT_1 118 rfl rfl, fun h => absurd rfl h⟩
theorem zfok_17 : zFok (5, 16, 0, 5, 1) := ⟨⟨by decide, by decide, by decide +kernel⟩, fun _ => zGT_1 119 rfl rfl, fun h => absurd rfl h⟩
theorem zfok_18 : zFok (5, 22, 0, 5, 3) := ⟨⟨by decide, by decide, by decide +kernel⟩, fun _ => zGT_1 121 rfl rfl, fun h => absurd rfl h⟩
theorem zfok_19 : zFok (5, 28, 0, 5, 4) := ⟨⟨by decide, by decide, by decide +kernel⟩, fun _ => zGT_1 122 rfl rfl, fun h => absurd rfl h⟩
theorem zfok_20 : zFok (5, 35, 0, 5, 5) := ⟨⟨by decide, by decide, by decide +kernel⟩, fun _ => zGT_1 123 rfl rfl, fun h => absurd rfl h⟩
theorem zfok_21 : zFok (5, 39, 0, 5, 6) := ⟨⟨by decide, by decide, by decide +kernel⟩, fun _ => zGT_1 124 rfl rfl, fun h => absurd rfl h⟩
theorem zfok_22 : zFok (5, 42, 0, 5, 7) := ⟨⟨by decide, by decide, by decide +kernel⟩, fun _ => zGT_1 125 rfl rfl, fun h => absurd rfl h⟩
theorem zfok_23 : zFok (5, 47, 1, 3, 0) := ⟨⟨by decide, by decide, by decide +kernel⟩, fun h => absurd h (by decide), fun _ => ⟨rfl, zTB_1 70 rfl⟩⟩
theorem zfok_24 : zFok (5, 50, 1, 0, 1) := ⟨⟨by decide, by decide, by decide +kernel⟩, fun h => absurd h (by decide), fun _ => ⟨rfl, zTB_1 39 rfl⟩⟩
theorem zfok_25 : zFok (5, 58, 1, 3, 1) := ⟨⟨by decide, by decide, by decide +kernel⟩, fun h => absurd h (by decide), fun _ => ⟨rfl, zTB_1 72 rfl⟩⟩
theorem zfok_26 : zFok (5, 62, 1, 1, 0) := ⟨⟨by decide, by decide, by decide +kernel⟩, fun h => absurd h (by decide), fun _ => ⟨rfl, zTB_1 54 rfl⟩⟩
theorem zfok_27 : zFok (5, 74, 1, 1, 1) := ⟨⟨by decide, by decide, by decide +kernel⟩, fun h => absurd h (by decide), fun _ => ⟨rfl, zTB_1 56 rfl⟩⟩
theorem zfok_28 : zFok (5, 77, 1, 1, 2) := ⟨⟨by decide, by decide, by decide +kernel⟩, fun h => absurd h (by decide), fun _ => ⟨rfl, zTB_1 58 rfl⟩⟩
theorem zfok_29 : zFok (5, 101, 1, 4, 1) := ⟨⟨by decide, by decide, by decide +kernel⟩, fun h => absurd h (by decide), fun _ => ⟨rfl, zTB_1 90 rfl⟩⟩
theorem zfok_30 : zFok (5, 184, 1, 3, 2) := ⟨⟨by decide, by decide, by decide +kernel⟩, fun h => absurd h (by decide), fun _ => ⟨rfl, zTB_1 74 rfl⟩⟩
theorem zfok_31 : zFok (5, 196, 0, 5, 2) := ⟨⟨by decide, by decide, by decide +kernel⟩, fun _ => zGT_1 120 rfl rfl, fun h => absurd rfl h⟩
theorem zfok_32 : zFok (5, 228, 1, 2, 2) := ⟨⟨by decide, by decide, by decide +kernel⟩, fun h => absurd h (by decide), fun _ => ⟨rfl, zTB_1 110 rfl⟩⟩
theorem zfok_33 : zFok (5, 231, 1, 2, 1) := ⟨⟨by decide, by decide, by decide +kernel⟩, fun h => absurd h (by decide), fun _ => ⟨rfl, zTB_1 108 rfl⟩⟩
theorem zfok_34 : zFok (5, 238, 1, 2, 0) := ⟨⟨by decide, by decide, by decide +kernel⟩, fun h => absurd h (by decide), fun _ => ⟨rfl, zTB_1 106 rfl⟩⟩
theorem zfok_35 : zFok (6, 7, 0, 6, 0) := ⟨⟨by decide, by decide, by decide +kernel⟩, fun _ => zGT_3 81 rfl rfl, fun h => absurd rfl h⟩
theorem zfok_36 : zFok (6, 13, 0, 6, 1) := ⟨⟨by decide, by decide, by decide +kernel⟩, fun _ => zGT_3 82 rfl rfl, fun h => absurd rfl h⟩
theorem zfok_37 : zFok (6, 16, 0, 6, 3) := ⟨⟨by decide, by decide, by decide +kernel⟩, fun _ => zGT_3 84 rfl rfl, fun h => absurd rfl h⟩
theorem zfok_38 : zFok (6, 19, 0, 6, 5) := ⟨⟨by decide, by decide, by decide +kernel⟩, fun _ => zGT_3 86 rfl rfl, fun h => absurd rfl h⟩
theorem zfok_39 : zFok (6, 22, 0, 6, 6) := ⟨⟨by decide, by decide, by decide +kernel⟩, fun _ => zGT_3 87 rfl rfl, fun h => absurd rfl h⟩
theorem zfok_40 : zFok (6, 25, 0, 6, 7) := ⟨⟨by decide, by decide, by decide +kernel⟩, fun _ => zGT_3 88 rfl rfl, fun h => absurd rfl h⟩
theorem zfok_41 : zFok (6, 28, 0, 6, 8) := ⟨⟨by decide, by decide, by decide +kernel⟩, fun _ => zGT_3 89 rfl rfl, fun h => absurd rfl h⟩
theorem zfok_42 : zFok (6, 31, 0, 6, 9) := ⟨⟨by decide, by decide, by decide +kernel⟩, fun _ => zGT_3 90 rfl rfl, fun h => absurd rfl h⟩
theorem zfok_43 : zFok (6, 34, 0, 6, 10) := ⟨⟨by decide, by decide, by decide +kernel⟩, fun _ => zGT_3 91 rfl rfl, fun h => absurd rfl h⟩
theorem zfok_44 : zFok (6, 37, 0, 6, 11) := ⟨⟨by decide, by decide, by decide +kernel⟩, fun _ => zGT_3 92 rfl rfl, fun h => absurd rfl h⟩
theorem zfok_45 : zFok (6, 40, 0, 6, 12) := ⟨⟨by decide, by decide, by decide +kernel⟩, fun _ => zGT_3 93 rfl rfl, fun h => absurd rfl h⟩
theorem zfok_46 : zFok (6, 44, 0, 6, 13) := ⟨⟨by decide, by decide, by decide +kernel⟩, fun _ => zGT_3 94 rfl rfl, fun h => absurd rfl h⟩
theorem zfok_47 : zFok (6, 47, 0, 6, 14) := ⟨⟨by decide, by decide, by decide +kernel⟩, fun _ => zGT_3 95 rfl rfl, fun h => absurd rfl h⟩
theorem zfok_48 : zFok (6, 100, 0, 6, 4) := ⟨⟨by decide, by decide, by decide +kernel⟩, fun _ => zGT_3 85 rfl rfl, fun h => absurd rfl h⟩
theorem zfok_49 : zFok (6, 145, 0, 6, 2) := ⟨⟨by decide, by decide, by decide +kernel⟩, fun _ => zGT_3 83 rfl rfl, fun h => absurd rfl h⟩
set_option maxRecDepth 20000 in
theorem zfok : ∀ q ∈ zfld, zFok q := List.forall_mem_cons.mpr ⟨zfok_0, List.forall_mem_cons.mpr ⟨zfok_1, List.forall_mem_cons.mpr ⟨zfok_2, List.forall_mem_cons.mpr ⟨zfok_3, List.forall_mem_cons.mpr ⟨zfok_4, List.forall_mem_cons.mpr ⟨zfok_5, List.forall_mem_cons.mpr ⟨zfok_6, List.forall_mem_cons.mpr ⟨zfok_7, List.forall_mem_cons.mpr ⟨zfok_8, List.forall_mem_cons.mpr ⟨zfok_9, List.forall_mem_cons.mpr ⟨zfok_10, List.forall_mem_cons.mpr ⟨zfok_11, List.forall_mem_cons.mpr ⟨zfok_12, List.forall_mem_cons.mpr ⟨zfok_13, List.forall_mem_cons.mpr ⟨zfok_14, List.forall_mem_cons.mpr ⟨zfok_15, List.forall_mem_cons.mpr ⟨zfok_16, List.forall_mem_cons.mpr ⟨zfok_17, List.forall_mem_cons.mpr ⟨zfok_18, List.forall_mem_cons.mpr ⟨zfok_19, List.forall_mem_cons.mpr ⟨zfok_20, List.forall_mem_cons.mpr ⟨zfok_21, List.forall_mem_cons.mpr ⟨zfok_22, List.forall_mem_cons.mpr ⟨zfok_23, List.forall_mem_cons.mpr ⟨zfok_24, List.forall_mem_cons.mpr ⟨zfok_25, List.forall_mem_cons.mpr ⟨zfok_26, List.forall_mem_cons.mpr ⟨zfok_27, List.forall_mem_cons.mpr ⟨zfok_28, List.forall_mem_cons.mpr ⟨zfok_29, List.forall_mem_cons.mpr ⟨zfok_30, List.forall_mem_cons.mpr ⟨zfok_31, List.forall_mem_cons.mpr ⟨zfok_32, List.forall_mem_cons.mpr ⟨zfok_33, List.forall_mem_cons.mpr ⟨zfok_34, List.forall_mem_cons.mpr ⟨zfok_35, List.forall_mem_cons.mpr ⟨zfok_36, List.forall_mem_cons.mpr ⟨zfok_37, List.forall_mem_cons.mpr ⟨zfok_38, List.forall_mem_cons.mpr ⟨zfok_39, List.forall_mem_cons.mpr ⟨zfok_40, List.forall_mem_cons.mpr ⟨zfok_41, List.forall_mem_cons.mpr ⟨zfok_42, List.forall_mem_cons.mpr ⟨zfok_43, List.forall_mem_cons.mpr ⟨zfok_44, List.forall_mem_cons.mpr ⟨zfok_45, List.forall_mem_cons.mpr ⟨zfok_46, List.forall_mem_cons.mpr ⟨zfok_47, List.forall_mem_cons.mpr ⟨zfok_48, List.forall_mem_cons.mpr ⟨zfok_49, fun _ h => absurd h List.not_mem_nil⟩⟩⟩⟩⟩⟩⟩⟩⟩⟩⟩⟩⟩⟩⟩⟩⟩⟩⟩⟩⟩⟩⟩⟩⟩⟩⟩⟩⟩⟩⟩⟩⟩⟩⟩⟩⟩⟩⟩⟩⟩⟩⟩⟩⟩⟩⟩⟩⟩⟩
def zKok (q : Nat × Nat × Int) : Prop := Cond.constant (zR q.1) q.2.1 (Int32.ofInt q.2.2) ∈ zGT ∧ -2147483648 ≤ q.2.2 ∧ q.2.2 < 2147483648
def zKLok (q : Nat × Nat × Int) : Prop := Cond.constantLong (zR q.1) q.2.1 (Int64.ofInt q.2.2) ∈ zGT ∧ -9223372036854775808 ≤ q.2.2 ∧ q.2.2 < 9223372036854775808
theorem zkok_0 : zKok (5, 187, 1103515245) := ⟨zGT_2 221 rfl rfl, by decide, by decide⟩
theorem zkok_1 : zKok (5, 188, 2147483647) := ⟨zGT_2 222 rfl rfl, by decide, by decide⟩
theorem zkok_2 : zKok (5, 189, 65536) := ⟨zGT_2 223 rfl rfl, by decide, by decide⟩
theorem zkok_3 : zKok (6, 144, 65536) := ⟨zGT_4 59 rfl rfl, by decide, by decide⟩
theorem zkok_4 : zKok (9, 265, 1431655765) := ⟨zGT_2 125 rfl rfl, by decide, by decide⟩
theorem zkok_5 : zKok (9, 266, 858993459) := ⟨zGT_2 126 rfl rfl, by decide, by decide⟩
theorem zkok_6 : zKok (9, 267, 252645135) := ⟨zGT_2 127 rfl rfl, by decide, by decide⟩
set_option maxRecDepth 20000 in
theorem zkok : ∀ q ∈ zcst, zKok q := List.forall_mem_cons.mpr ⟨zkok_0, List.forall_mem_cons.mpr ⟨zkok_1, List.forall_mem_cons.mpr ⟨zkok_2, List.forall_mem_cons.mpr ⟨zkok_3, List.forall_mem_cons.mpr ⟨zkok_4, List.forall_mem_cons.mpr ⟨zkok_5, List.forall_mem_cons.mpr ⟨zkok_6, fun _ h => absurd h List.not_mem_nil⟩⟩⟩⟩⟩⟩⟩
theorem zklok_0 : zKLok (1, 71, 2) := ⟨zGT_1 207 rfl rfl, by decide, by decide⟩
theorem zklok_1 : zKLok (6, 62, 2) := ⟨zGT_3 132 rfl rfl, by decide, by decide⟩
theorem zklok_2 : zKLok (6, 64, 4) := ⟨zGT_3 133 rfl rfl, by decide, by decide⟩
theorem zklok_3 : zKLok (6, 70, 3) := ⟨zGT_3 145 rfl rfl, by decide, by decide⟩
theorem zklok_4 : zKLok (6, 72, 99) := ⟨zGT_3 146 rfl rfl, by decide, by decide⟩
theorem zklok_5 : zKLok (6, 74, 9) := ⟨zGT_3 151 rfl rfl, by decide, by decide⟩
theorem zklok_6 : zKLok (6, 87, 48) := ⟨zGT_3 180 rfl rfl, by decide, by decide⟩
theorem zklok_7 : zKLok (6, 92, 8) := ⟨zGT_3 193 rfl rfl, by decide, by decide⟩
theorem zklok_8 : zKLok (6, 94, 255) := ⟨zGT_3 194 rfl rfl, by decide, by decide⟩
theorem zklok_9 : zKLok (6, 96, 32) := ⟨zGT_3 195 rfl rfl, by decide, by decide⟩
theorem zklok_10 : zKLok (6, 98, 126) := ⟨zGT_3 196 rfl rfl, by decide, by decide⟩
theorem zklok_11 : zKLok (6, 107, 5) := ⟨zGT_3 208 rfl rfl, by decide, by decide⟩
theorem zklok_12 : zKLok (6, 115, 16) := ⟨zGT_3 232 rfl rfl, by decide, by decide⟩
theorem zklok_13 : zKLok (6, 120, 12) := ⟨zGT_4 5 rfl rfl, by decide, by decide⟩
theorem zklok_14 : zKLok (6, 129, (-1)) := ⟨zGT_4 30 rfl rfl, by decide, by decide⟩
theorem zklok_15 : zKLok (6, 138, 1103515245) := ⟨zGT_4 56 rfl rfl, by decide, by decide⟩
theorem zklok_16 : zKLok (6, 140, 12345) := ⟨zGT_4 57 rfl rfl, by decide, by decide⟩
theorem zklok_17 : zKLok (6, 142, 2147483647) := ⟨zGT_4 58 rfl rfl, by decide, by decide⟩
theorem zklok_18 : zKLok (11, 39, 4294967295) := ⟨zGT_4 111 rfl rfl, by decide, by decide⟩
set_option maxRecDepth 20000 in
theorem zklok : ∀ q ∈ zcstl, zKLok q := List.forall_mem_cons.mpr ⟨zklok_0, List.forall_mem_cons.mpr ⟨zklok_1, List.forall_mem_cons.mpr ⟨zklok_2, List.forall_mem_cons.mpr ⟨zklok_3, List.forall_mem_cons.mpr ⟨zklok_4, List.forall_mem_cons.mpr ⟨zklok_5, List.forall_mem_cons.mpr ⟨zklok_6, List.forall_mem_cons.mpr ⟨zklok_7, List.forall_mem_cons.mpr ⟨zklok_8, List.forall_mem_cons.mpr ⟨zklok_9, List.forall_mem_cons.mpr ⟨zklok_10, List.forall_mem_cons.mpr ⟨zklok_11, List.forall_mem_cons.mpr ⟨zklok_12, List.forall_mem_cons.mpr ⟨zklok_13, List.forall_mem_cons.mpr ⟨zklok_14, List.forall_mem_cons.mpr ⟨zklok_15, List.forall_mem_cons.mpr ⟨zklok_16, List.forall_mem_cons.mpr ⟨zklok_17, List.forall_mem_cons.mpr ⟨zklok_18, fun _ h => absurd h List.not_mem_nil⟩⟩⟩⟩⟩⟩⟩⟩⟩⟩⟩⟩⟩⟩⟩⟩⟩⟩⟩
def zAok (q : Nat × Nat) : Prop := Cond.methodLink (zR q.1) q.2 arraycopyName ∈ zGT
theorem zaok_0 : zAok (0, 40) := zGT_1 189 rfl rfl
theorem zaok_1 : zAok (1, 35) := zGT_3 4 rfl rfl
theorem zaok_2 : zAok (5, 241) := zGT_3 74 rfl rfl
set_option maxRecDepth 20000 in
theorem zaok : ∀ q ∈ zacp, zAok q := List.forall_mem_cons.mpr ⟨zaok_0, List.forall_mem_cons.mpr ⟨zaok_1, List.forall_mem_cons.mpr ⟨zaok_2, fun _ h => absurd h List.not_mem_nil⟩⟩⟩
theorem zac_nat : Cond.native arraycopyName ∈ zGT := zGT_1 191 rfl rfl
theorem zac_stat : Cond.static arraycopyName ∈ zGT := zGT_1 190 rfl rfl
theorem zac_ini : Cond.initialized "java/lang/System" ∈ zGT := zGT_1 9 rfl rfl
def zXok (q : Nat × Nat) : Prop := Cond.methodLink (zR q.1) q.2 Lib.Math.max.name ∈ zGT
def zIok (q : Nat × Nat) : Prop := Cond.methodLink (zR q.1) q.2 Lib.Math.min.name ∈ zGT
theorem zxok_0 : zXok (0, 19) := zGT_1 186 rfl rfl
theorem zxok_1 : zXok (5, 157) := zGT_2 160 rfl rfl
theorem zxok_2 : zXok (8, 92) := zGT_2 50 rfl rfl
set_option maxRecDepth 20000 in
theorem zxok : ∀ q ∈ zmxl, zXok q := List.forall_mem_cons.mpr ⟨zxok_0, List.forall_mem_cons.mpr ⟨zxok_1, List.forall_mem_cons.mpr ⟨zxok_2, fun _ h => absurd h List.not_mem_nil⟩⟩⟩
theorem ziok_0 : zIok (0, 37) := zGT_1 183 rfl rfl
theorem ziok_1 : zIok (1, 29) := zGT_2 184 rfl rfl
theorem ziok_2 : zIok (5, 144) := zGT_2 147 rfl rfl
theorem ziok_3 : zIok (8, 38) := zGT_2 51 rfl rfl
set_option maxRecDepth 20000 in
theorem ziok : ∀ q ∈ zmnl, zIok q := List.forall_mem_cons.mpr ⟨ziok_0, List.forall_mem_cons.mpr ⟨ziok_1, List.forall_mem_cons.mpr ⟨ziok_2, List.forall_mem_cons.mpr ⟨ziok_3, fun _ h => absurd h List.not_mem_nil⟩⟩⟩⟩
theorem zmx_stat : Cond.static Lib.Math.max.name ∈ zGT := zGT_1 187 rfl rfl
theorem zmn_stat : Cond.static Lib.Math.min.name ∈ zGT := zGT_1 184 rfl rfl
theorem zm_ini : Cond.initialized "java/lang/Math" ∈ zGT := zGT_1 8 rfl rfl
theorem zmx_code : Cond.code Lib.Math.max.name Lib.Math.max.code 2 (some .int) ∈ zGT := zGT_1 188 rfl rfl
theorem zmn_code : Cond.code Lib.Math.min.name Lib.Math.min.code 2 (some .int) ∈ zGT := zGT_1 185 rfl rfl
theorem zlk_cs : Cond.fieldLink "java/lang/String" 38 "java/lang/String" "COMPACT_STRINGS" "Z" ∈ zGT := zGT_2 34 rfl rfl
theorem zlk_val : Cond.fieldLink "java/lang/String" 9 "java/lang/String" "value" "[B" ∈ zGT := zGT_4 113 rfl rfl
theorem zlk_cod : Cond.fieldLink "java/lang/String" 15 "java/lang/String" "coder" "B" ∈ zGT := zGT_4 112 rfl rfl
theorem zin_0 : ∀ w ∈ u_ws (zR 0) (zT 0) (zNf 0), w ∈ zGT := by
  intro w h
  refine List.mem_filter.mpr ⟨?_, ?_⟩
  · exact (show ∀ w ∈ u_ws (zR 0) (zT 0) (zNf 0), w ∈ lw_tbl from by decide +kernel) w h
  · exact (show ∀ w ∈ u_ws (zR 0) (zT 0) (zNf 0), goodWord w = true from by decide +kernel) w h
theorem zin_1 : ∀ w ∈ u_ws (zR 1) (zT 1) (zNf 1), w ∈ zGT := by
  intro w h
  refine List.mem_filter.mpr ⟨?_, ?_⟩
  · exact (show ∀ w ∈ u_ws (zR 1) (zT 1) (zNf 1), w ∈ lw_tbl from by decide +kernel) w h
  · exact (show ∀ w ∈ u_ws (zR 1) (zT 1) (zNf 1), goodWord w = true from by decide +kernel) w h
theorem zin_2 : ∀ w ∈ u_ws (zR 2) (zT 2) (zNf 2), w ∈ zGT := by
  intro w h
  refine List.mem_filter.mpr ⟨?_, ?_⟩
  · exact (show ∀ w ∈ u_ws (zR 2) (zT 2) (zNf 2), w ∈ lw_tbl from by decide +kernel) w h
  · exact (show ∀ w ∈ u_ws (zR 2) (zT 2) (zNf 2), goodWord w = true from by decide +kernel) w h
theorem zin_3 : ∀ w ∈ u_ws (zR 3) (zT 3) (zNf 3), w ∈ zGT := by
  intro w h
  refine List.mem_filter.mpr ⟨?_, ?_⟩
  · exact (show ∀ w ∈ u_ws (zR 3) (zT 3) (zNf 3), w ∈ lw_tbl from by decide +kernel) w h
  · exact (show ∀ w ∈ u_ws (zR 3) (zT 3) (zNf 3), goodWord w = true from by decide +kernel) w h
theorem zin_4 : ∀ w ∈ u_ws (zR 4) (zT 4) (zNf 4), w ∈ zGT := by
  intro w h
  refine List.mem_filter.mpr ⟨?_, ?_⟩
  · exact (show ∀ w ∈ u_ws (zR 4) (zT 4) (zNf 4), w ∈ lw_tbl from by decide +kernel) w h
  · exact (show ∀ w ∈ u_ws (zR 4) (zT 4) (zNf 4), goodWord w = true from by decide +kernel) w h
theorem zin_5 : ∀ w ∈ u_ws (zR 5) (zT 5) (zNf 5), w ∈ zGT := by
  intro w h
  refine List.mem_filter.mpr ⟨?_, ?_⟩
  · exact (show ∀ w ∈ u_ws (zR 5) (zT 5) (zNf 5), w ∈ lw_tbl from by decide +kernel) w h
  · exact (show ∀ w ∈ u_ws (zR 5) (zT 5) (zNf 5), goodWord w = true from by decide +kernel) w h
theorem zin_6 : ∀ w ∈ u_ws (zR 6) (zT 6) (zNf 6), w ∈ zGT := by
  intro w h
  refine List.mem_filter.mpr ⟨?_, ?_⟩
  · exact (show ∀ w ∈ u_ws (zR 6) (zT 6) (zNf 6), w ∈ lw_tbl from by decide +kernel) w h
  · exact (show ∀ w ∈ u_ws (zR 6) (zT 6) (zNf 6), goodWord w = true from by decide +kernel) w h
