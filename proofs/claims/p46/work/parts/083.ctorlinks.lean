theorem arrI : Cond.arrayClass .int ∈ zTs := zTs_at 120 (by decide +kernel) rfl
theorem obI : Cond.instanceMethod Lib.objectInit ∈ zTs := zTs_at 55 (by decide +kernel) rfl
theorem obC : Cond.code Lib.objectInit ⟨#[0xb1]⟩ 1 none ∈ zTs := zTs_at 56 (by decide +kernel) rfl
theorem obX7 : Cond.methodLink RX7 1 Lib.objectInit ∈ zTs := zTs_at 54 (by decide +kernel) rfl
theorem obX0 : Cond.methodLink RX0 3 Lib.objectInit ∈ zTs := zTs_at 62 (by decide +kernel) rfl
theorem obX1 : Cond.methodLink RX1 3 Lib.objectInit ∈ zTs := zTs_at 209 (by decide +kernel) rfl
theorem obX2 : Cond.methodLink RX2 3 Lib.objectInit ∈ zTs := zTs_at 168 (by decide +kernel) rfl
theorem obX3 : Cond.methodLink RX3 3 Lib.objectInit ∈ zTs := zTs_at 126 (by decide +kernel) rfl
theorem obX4 : Cond.methodLink RX4 3 Lib.objectInit ∈ zTs := zTs_at 190 (by decide +kernel) rfl
theorem obX5 : Cond.methodLink RX5 3 Lib.objectInit ∈ zTs := zTs_at 236 (by decide +kernel) rfl
theorem obX6 : Cond.methodLink RX6 3 Lib.objectInit ∈ zTs := zTs_at 149 (by decide +kernel) rfl
theorem mcX0_24 : Cond.classLink RX0 24 "[[I" ∈ zTs := zTs_at 63 (by decide +kernel) rfl
theorem mcX2_9 : Cond.classLink RX2 9 "[[I" ∈ zTs := zTs_at 169 (by decide +kernel) rfl
theorem mcX4_9 : Cond.classLink RX4 9 "[[I" ∈ zTs := zTs_at 191 (by decide +kernel) rfl
theorem feX0_15 : zFL RX0 15 RX0 TX0 12 0 2 := ⟨rfl, zinX0, by decide, zTs_at 76 (by decide +kernel) rfl⟩
theorem feX0_18 : zFL RX0 18 RX0 TX0 12 0 3 := ⟨rfl, zinX0, by decide, zTs_at 78 (by decide +kernel) rfl⟩
theorem feX0_21 : zFL RX0 21 RX0 TX0 12 0 4 := ⟨rfl, zinX0, by decide, zTs_at 80 (by decide +kernel) rfl⟩
theorem feX0_26 : zFL RX0 26 RX0 TX0 12 0 5 := ⟨rfl, zinX0, by decide, zTs_at 81 (by decide +kernel) rfl⟩
theorem feX0_29 : zFL RX0 29 RX0 TX0 12 0 6 := ⟨rfl, zinX0, by decide, zTs_at 83 (by decide +kernel) rfl⟩
theorem feX0_32 : zFL RX0 32 RX0 TX0 12 0 8 := ⟨rfl, zinX0, by decide, zTs_at 87 (by decide +kernel) rfl⟩
theorem feX0_35 : zFL RX0 35 RX0 TX0 12 0 9 := ⟨rfl, zinX0, by decide, zTs_at 89 (by decide +kernel) rfl⟩
theorem feX0_9 : zFL RX0 9 RX0 TX0 12 0 1 := ⟨rfl, zinX0, by decide, zTs_at 74 (by decide +kernel) rfl⟩
theorem feX1_15 : zFL RX1 15 RX1 TX1 5 1 2 := ⟨rfl, zinX1, by decide, zTs_at 214 (by decide +kernel) rfl⟩
theorem feX1_18 : zFL RX1 18 RX1 TX1 5 1 3 := ⟨rfl, zinX1, by decide, zTs_at 216 (by decide +kernel) rfl⟩
theorem feX1_21 : zFL RX1 21 RX1 TX1 5 1 4 := ⟨rfl, zinX1, by decide, zTs_at 218 (by decide +kernel) rfl⟩
theorem feX1_9 : zFL RX1 9 RX1 TX1 5 1 1 := ⟨rfl, zinX1, by decide, zTs_at 212 (by decide +kernel) rfl⟩
theorem feX2_11 : zFL RX2 11 RX2 TX2 4 2 2 := ⟨rfl, zinX2, by decide, zTs_at 173 (by decide +kernel) rfl⟩
theorem feX2_16 : zFL RX2 16 RX2 TX2 4 2 3 := ⟨rfl, zinX2, by decide, zTs_at 174 (by decide +kernel) rfl⟩
theorem feX3_15 : zFL RX3 15 RX3 TX3 4 3 2 := ⟨rfl, zinX3, by decide, zTs_at 131 (by decide +kernel) rfl⟩
theorem feX3_18 : zFL RX3 18 RX3 TX3 4 3 3 := ⟨rfl, zinX3, by decide, zTs_at 133 (by decide +kernel) rfl⟩
theorem feX3_9 : zFL RX3 9 RX3 TX3 4 3 1 := ⟨rfl, zinX3, by decide, zTs_at 129 (by decide +kernel) rfl⟩
theorem feX4_11 : zFL RX4 11 RX4 TX4 3 4 1 := ⟨rfl, zinX4, by decide, zTs_at 194 (by decide +kernel) rfl⟩
theorem feX4_16 : zFL RX4 16 RX4 TX4 3 4 2 := ⟨rfl, zinX4, by decide, zTs_at 195 (by decide +kernel) rfl⟩
theorem feX5_15 : zFL RX5 15 RX5 TX5 4 5 2 := ⟨rfl, zinX5, by decide, zTs_at 241 (by decide +kernel) rfl⟩
theorem feX5_18 : zFL RX5 18 RX5 TX5 4 5 3 := ⟨rfl, zinX5, by decide, zTs_at 243 (by decide +kernel) rfl⟩
theorem feX5_9 : zFL RX5 9 RX5 TX5 4 5 1 := ⟨rfl, zinX5, by decide, zTs_at 239 (by decide +kernel) rfl⟩
theorem feX6_15 : zFL RX6 15 RX6 TX6 3 6 1 := ⟨rfl, zinX6, by decide, zTs_at 152 (by decide +kernel) rfl⟩
theorem feX6_18 : zFL RX6 18 RX6 TX6 3 6 2 := ⟨rfl, zinX6, by decide, zTs_at 154 (by decide +kernel) rfl⟩
theorem feX6_9 : zFL RX6 9 RX6 TX6 3 6 0 := ⟨rfl, zinX6, by decide, zTs_at 150 (by decide +kernel) rfl⟩
theorem lkX0_38 : zLV RX0 38 yX0_begin cX0_begin 1 none 0 := ⟨zTs_at 65 (by decide +kernel) rfl, zTs_at 66 (by decide +kernel) rfl, zTs_at 67 (by decide +kernel) rfl, zTs_at 33 (by decide +kernel) rfl, zTs_at 68 (by decide +kernel) rfl, ⟨by decide +kernel, by decide +kernel, by decide +kernel⟩, by decide⟩
theorem lkX4_20 : zLS RX4 20 yJ7_fill_53178 cJ7_fill_53178 4 none 2 := ⟨zTs_at 192 (by decide +kernel) rfl, zTs_at 70 (by decide +kernel) rfl, zTs_at 34 (by decide +kernel) rfl, zTs_at 71 (by decide +kernel) rfl, ⟨by decide +kernel, by decide +kernel, by decide +kernel⟩, by decide⟩
theorem zlvA (o : Nat) : ∀ j, j < 14 → zlv o 14 (o + j) = true := fun j hj => by
  simp only [zlv, Bool.and_eq_true, decide_eq_true_eq]
  omega
theorem zlq46 {i : Nat} (hi : i < 5) : zlv 45 8 (46 + 1 + i) = true := by
  simp only [zlv, Bool.and_eq_true, decide_eq_true_eq]
  omega
