/-! facts that a program writes: cells, pool entries, calls -/
theorem zk0 : zK 0 = (0, 7) := rfl
theorem zq0 : zfull 0 = true := rfl
theorem zk1 : zK 1 = (0, 0) := rfl
theorem zq1 : zfull 1 = true := rfl
theorem zk2 : zK 2 = (1, 5) := rfl
theorem zq2 : zfull 2 = true := rfl
theorem zk3 : zK 3 = (1, 5) := rfl
theorem zq3 : zfull 3 = true := rfl
theorem zk4 : zK 4 = (1, 5) := rfl
theorem zq4 : zfull 4 = true := rfl
theorem zk5 : zK 5 = (1, 5) := rfl
theorem zq5 : zfull 5 = true := rfl
theorem zk6 : zK 6 = (3, 5) := rfl
theorem zq6 : zfull 6 = true := rfl
theorem zk7 : zK 7 = (1, 20) := rfl
theorem zq7 : zfull 7 = true := rfl
theorem zk8 : zK 8 = (1, 20) := rfl
theorem zq8 : zfull 8 = true := rfl
theorem zk9 : zK 9 = (1, 20) := rfl
theorem zq9 : zfull 9 = true := rfl
theorem zk10 : zK 10 = (1, 20) := rfl
theorem zq10 : zfull 10 = true := rfl
theorem zk11 : zK 11 = (1, 20) := rfl
theorem zq11 : zfull 11 = true := rfl
theorem zk12 : zK 12 = (1, 5) := rfl
theorem zq12 : zfull 12 = true := rfl
theorem zk13 : zK 13 = (1, 60) := rfl
theorem zq13 : zfull 13 = true := rfl
theorem zk14 : zK 14 = (1, 60) := rfl
theorem zq14 : zfull 14 = true := rfl
theorem zk15 : zK 15 = (0, 0) := rfl
theorem zq15 : zfull 15 = true := rfl
theorem zk16 : zK 16 = (1, 5) := rfl
theorem zq16 : zfull 16 = true := rfl
theorem zk17 : zK 17 = (1, 5) := rfl
theorem zq17 : zfull 17 = true := rfl
theorem zk18 : zK 18 = (1, 5) := rfl
theorem zq18 : zfull 18 = true := rfl
theorem zk19 : zK 19 = (1, 5) := rfl
theorem zq19 : zfull 19 = true := rfl
theorem zk20 : zK 20 = (3, 5) := rfl
theorem zq20 : zfull 20 = true := rfl
theorem zk21 : zK 21 = (1, 20) := rfl
theorem zq21 : zfull 21 = true := rfl
theorem zk22 : zK 22 = (1, 20) := rfl
theorem zq22 : zfull 22 = true := rfl
theorem zk23 : zK 23 = (1, 20) := rfl
theorem zq23 : zfull 23 = true := rfl
theorem zk24 : zK 24 = (1, 20) := rfl
theorem zq24 : zfull 24 = true := rfl
theorem zk25 : zK 25 = (1, 20) := rfl
theorem zq25 : zfull 25 = true := rfl
theorem zk26 : zK 26 = (1, 5) := rfl
theorem zq26 : zfull 26 = true := rfl
theorem zk27 : zK 27 = (1, 60) := rfl
theorem zq27 : zfull 27 = true := rfl
theorem zk28 : zK 28 = (1, 60) := rfl
theorem zq28 : zfull 28 = true := rfl
theorem zk29 : zK 29 = (0, 3) := rfl
theorem zq29 : zfull 29 = true := rfl
theorem zk30 : zK 30 = (1, 512) := rfl
theorem zq30 : zfull 30 = true := rfl
theorem zk31 : zK 31 = (1, 512) := rfl
theorem zq31 : zfull 31 = true := rfl
theorem zk32 : zK 32 = (1, 512) := rfl
theorem zq32 : zfull 32 = true := rfl
theorem zk33 : zK 33 = (0, 6) := rfl
theorem zq33 : zfull 33 = true := rfl
theorem zk34 : zK 34 = (1, 60) := rfl
theorem zq34 : zfull 34 = true := rfl
theorem zk35 : zK 35 = (1, 60) := rfl
theorem zq35 : zfull 35 = true := rfl
theorem zk36 : zK 36 = (1, 60) := rfl
theorem zq36 : zfull 36 = true := rfl
theorem zk37 : zK 37 = (0, 2) := rfl
theorem zq37 : zfull 37 = true := rfl
theorem zk38 : zK 38 = (3, 5) := rfl
theorem zq38 : zfull 38 = true := rfl
theorem zk39 : zK 39 = (1, 200) := rfl
theorem zq39 : zfull 39 = true := rfl
theorem zk40 : zK 40 = (1, 200) := rfl
theorem zq40 : zfull 40 = true := rfl
theorem zk41 : zK 41 = (1, 200) := rfl
theorem zq41 : zfull 41 = true := rfl
theorem zk42 : zK 42 = (1, 200) := rfl
theorem zq42 : zfull 42 = true := rfl
theorem zk43 : zK 43 = (1, 200) := rfl
theorem zq43 : zfull 43 = true := rfl
theorem zk44 : zK 44 = (1, 5) := rfl
theorem zq44 : zfull 44 = true := rfl
theorem zk45 : zK 45 = (0, 4) := rfl
theorem zq45 : zfull 45 = true := rfl
theorem zk46 : zK 46 = (3, 5) := rfl
theorem zq46 : zfull 46 = true := rfl
theorem zk47 : zK 47 = (1, 51) := rfl
theorem zq47 : zfull 47 = true := rfl
theorem zk48 : zK 48 = (1, 51) := rfl
theorem zq48 : zfull 48 = true := rfl
theorem zk49 : zK 49 = (1, 51) := rfl
theorem zq49 : zfull 49 = true := rfl
theorem zk50 : zK 50 = (1, 51) := rfl
theorem zq50 : zfull 50 = true := rfl
theorem zk51 : zK 51 = (1, 51) := rfl
theorem zq51 : zfull 51 = true := rfl
theorem zk52 : zK 52 = (1, 5) := rfl
theorem zq52 : zfull 52 = true := rfl
theorem zk53 : zK 53 = (0, 1) := rfl
theorem zq53 : zfull 53 = true := rfl
theorem zk54 : zK 54 = (1, 60) := rfl
theorem zq54 : zfull 54 = true := rfl
theorem zk55 : zK 55 = (1, 60) := rfl
theorem zq55 : zfull 55 = true := rfl
theorem zk56 : zK 56 = (1, 60) := rfl
theorem zq56 : zfull 56 = true := rfl
theorem zk57 : zK 57 = (1, 60) := rfl
theorem zq57 : zfull 57 = true := rfl
theorem zk58 : zK 58 = (0, 5) := rfl
theorem zq58 : zfull 58 = true := rfl
theorem zk59 : zK 59 = (1, 512) := rfl
theorem zq59 : zfull 59 = true := rfl
theorem zk60 : zK 60 = (1, 512) := rfl
theorem zq60 : zfull 60 = true := rfl
theorem zk61 : zK 61 = (1, 512) := rfl
theorem zq61 : zfull 61 = true := rfl
theorem zka0 {o : Nat} (ho : o = 1 ∨ o = 15) : zK o = (0, 0) := by rcases ho with rfl | rfl <;> rfl
theorem zka1 {o : Nat} (ho : o = 1 ∨ o = 15) : zK (o + 1) = (1, 5) := by rcases ho with rfl | rfl <;> rfl
theorem zka2 {o : Nat} (ho : o = 1 ∨ o = 15) : zK (o + 2) = (1, 5) := by rcases ho with rfl | rfl <;> rfl
theorem zka3 {o : Nat} (ho : o = 1 ∨ o = 15) : zK (o + 3) = (1, 5) := by rcases ho with rfl | rfl <;> rfl
theorem zka4 {o : Nat} (ho : o = 1 ∨ o = 15) : zK (o + 4) = (1, 5) := by rcases ho with rfl | rfl <;> rfl
theorem zka5 {o : Nat} (ho : o = 1 ∨ o = 15) : zK (o + 5) = (3, 5) := by rcases ho with rfl | rfl <;> rfl
theorem zka6 {o : Nat} (ho : o = 1 ∨ o = 15) : zK (o + 6) = (1, 20) := by rcases ho with rfl | rfl <;> rfl
theorem zka7 {o : Nat} (ho : o = 1 ∨ o = 15) : zK (o + 7) = (1, 20) := by rcases ho with rfl | rfl <;> rfl
theorem zka8 {o : Nat} (ho : o = 1 ∨ o = 15) : zK (o + 8) = (1, 20) := by rcases ho with rfl | rfl <;> rfl
theorem zka9 {o : Nat} (ho : o = 1 ∨ o = 15) : zK (o + 9) = (1, 20) := by rcases ho with rfl | rfl <;> rfl
theorem zka10 {o : Nat} (ho : o = 1 ∨ o = 15) : zK (o + 10) = (1, 20) := by rcases ho with rfl | rfl <;> rfl
theorem zka11 {o : Nat} (ho : o = 1 ∨ o = 15) : zK (o + 11) = (1, 5) := by rcases ho with rfl | rfl <;> rfl
theorem zka12 {o : Nat} (ho : o = 1 ∨ o = 15) : zK (o + 12) = (1, 60) := by rcases ho with rfl | rfl <;> rfl
theorem zka13 {o : Nat} (ho : o = 1 ∨ o = 15) : zK (o + 13) = (1, 60) := by rcases ho with rfl | rfl <;> rfl
theorem zqAo {o : Nat} (ho : o = 1 ∨ o = 15) : ∀ j, j < 14 → zfull (o + j) = true := fun j hj => decide_eq_true (by rcases ho with rfl | rfl <;> omega)
theorem zqA1 : ∀ j, j < 14 → zfull (1 + j) = true := zqAo (Or.inl rfl)
theorem zqA15 : ∀ j, j < 14 → zfull (15 + j) = true := zqAo (Or.inr rfl)
theorem zrqA {lv : Nat → Bool} {o i : Nat} (h : ∀ j, j < 14 → lv (o + j) = true) (hi : i < 5) : lv (o + 5 + 1 + i) = true := by
  have := h (6 + i) (by omega)
  rwa [show o + (6 + i) = o + 5 + 1 + i by omega] at this
theorem zrkA {o i : Nat} (ho : o = 1 ∨ o = 15) (hi : i < 5) : zK (o + 5 + 1 + i) = (1, 20) := by
  rcases (show i = 0 ∨ i = 1 ∨ i = 2 ∨ i = 3 ∨ i = 4 by omega) with rfl | rfl | rfl | rfl | rfl <;> rcases ho with rfl | rfl <;> rfl
theorem zrq38 {i : Nat} (hi : i < 5) : zfull (38 + 1 + i) = true := decide_eq_true (by omega)
theorem zrk38 {i : Nat} (hi : i < 5) : zK (38 + 1 + i) = (1, 200) := by
  rcases (show i = 0 ∨ i = 1 ∨ i = 2 ∨ i = 3 ∨ i = 4 by omega) with rfl | rfl | rfl | rfl | rfl <;> rfl
theorem zrq46 {i : Nat} (hi : i < 5) : zfull (46 + 1 + i) = true := decide_eq_true (by omega)
theorem zrk46 {i : Nat} (hi : i < 5) : zK (46 + 1 + i) = (1, 51) := by
  rcases (show i = 0 ∨ i = 1 ∨ i = 2 ∨ i = 3 ∨ i = 4 by omega) with rfl | rfl | rfl | rfl | rfl <;> rfl
theorem zrq6 {i : Nat} (hi : i < 5) : zfull (6 + 1 + i) = true := decide_eq_true (by omega)
theorem zrk6 {i : Nat} (hi : i < 5) : zK (6 + 1 + i) = (1, 20) := by
  rcases (show i = 0 ∨ i = 1 ∨ i = 2 ∨ i = 3 ∨ i = 4 by omega) with rfl | rfl | rfl | rfl | rfl <;> rfl
theorem zrq20 {i : Nat} (hi : i < 5) : zfull (20 + 1 + i) = true := decide_eq_true (by omega)
theorem zrk20 {i : Nat} (hi : i < 5) : zK (20 + 1 + i) = (1, 20) := by
  rcases (show i = 0 ∨ i = 1 ∨ i = 2 ∨ i = 3 ∨ i = 4 by omega) with rfl | rfl | rfl | rfl | rfl <;> rfl
theorem zneT {x k : Int32} (h : ¬ x = k) {a : Int} (hk : k.toInt = a) : ¬ x.toInt = a := lv_neT h hk
theorem ztsw5 {x : Int32} (h0 : ¬ x = 0) (h1 : ¬ x = 1) (h2 : ¬ x = 2) (h3 : ¬ x = 3) (h4 : ¬ x = 4) : x.toInt < 0 ∨ 4 < x.toInt := by
  have g0 := zneT h0 (a := 0) (by decide)
  have g1 := zneT h1 (a := 1) (by decide)
  have g2 := zneT h2 (a := 2) (by decide)
  have g3 := zneT h3 (a := 3) (by decide)
  have g4 := zneT h4 (a := 4) (by decide)
  omega
theorem zinX0 : ∀ w ∈ u_ws RX0 TX0 12, w ∈ zTs := fun w hw => zTs_in ((by decide +kernel : ∀ w ∈ u_ws RX0 TX0 12, w ∈ lw_tbl) w hw) ((by decide +kernel : ∀ w ∈ u_ws RX0 TX0 12, zgd w = true) w hw)
theorem zinX1 : ∀ w ∈ u_ws RX1 TX1 5, w ∈ zTs := fun w hw => zTs_in ((by decide +kernel : ∀ w ∈ u_ws RX1 TX1 5, w ∈ lw_tbl) w hw) ((by decide +kernel : ∀ w ∈ u_ws RX1 TX1 5, zgd w = true) w hw)
theorem zinX2 : ∀ w ∈ u_ws RX2 TX2 4, w ∈ zTs := fun w hw => zTs_in ((by decide +kernel : ∀ w ∈ u_ws RX2 TX2 4, w ∈ lw_tbl) w hw) ((by decide +kernel : ∀ w ∈ u_ws RX2 TX2 4, zgd w = true) w hw)
theorem zinX3 : ∀ w ∈ u_ws RX3 TX3 4, w ∈ zTs := fun w hw => zTs_in ((by decide +kernel : ∀ w ∈ u_ws RX3 TX3 4, w ∈ lw_tbl) w hw) ((by decide +kernel : ∀ w ∈ u_ws RX3 TX3 4, zgd w = true) w hw)
theorem zinX4 : ∀ w ∈ u_ws RX4 TX4 3, w ∈ zTs := fun w hw => zTs_in ((by decide +kernel : ∀ w ∈ u_ws RX4 TX4 3, w ∈ lw_tbl) w hw) ((by decide +kernel : ∀ w ∈ u_ws RX4 TX4 3, zgd w = true) w hw)
theorem zinX5 : ∀ w ∈ u_ws RX5 TX5 4, w ∈ zTs := fun w hw => zTs_in ((by decide +kernel : ∀ w ∈ u_ws RX5 TX5 4, w ∈ lw_tbl) w hw) ((by decide +kernel : ∀ w ∈ u_ws RX5 TX5 4, zgd w = true) w hw)
theorem zinX6 : ∀ w ∈ u_ws RX6 TX6 3, w ∈ zTs := fun w hw => zTs_in ((by decide +kernel : ∀ w ∈ u_ws RX6 TX6 3, w ∈ lw_tbl) w hw) ((by decide +kernel : ∀ w ∈ u_ws RX6 TX6 3, zgd w = true) w hw)
theorem zinX7 : ∀ w ∈ u_ws RX7 TX7 8, w ∈ zTs := fun w hw => zTs_in ((by decide +kernel : ∀ w ∈ u_ws RX7 TX7 8, w ∈ lw_tbl) w hw) ((by decide +kernel : ∀ w ∈ u_ws RX7 TX7 8, zgd w = true) w hw)
theorem ffX7_10 : zFL RX7 10 RX7 TX7 8 7 0 := ⟨rfl, zinX7, by decide, zTs_at 254 (by decide +kernel) rfl⟩
theorem ffX7_16 : zFL RX7 16 RX7 TX7 8 7 1 := ⟨rfl, zinX7, by decide, zTs_at 255 (by decide +kernel) rfl⟩
theorem ffX7_22 : zFL RX7 22 RX7 TX7 8 7 2 := ⟨rfl, zinX7, by decide, zTs_at 256 (by decide +kernel) rfl⟩
theorem ffX7_29 : zFL RX7 29 RX7 TX7 8 7 3 := ⟨rfl, zinX7, by decide, zTs_at 257 (by decide +kernel) rfl⟩
theorem ffX7_36 : zFL RX7 36 RX7 TX7 8 7 4 := ⟨rfl, zinX7, by decide, zTs_at 258 (by decide +kernel) rfl⟩
theorem ffX7_43 : zFL RX7 43 RX7 TX7 8 7 5 := ⟨rfl, zinX7, by decide, zTs_at 259 (by decide +kernel) rfl⟩
theorem ffX7_50 : zFL RX7 50 RX7 TX7 8 7 6 := ⟨rfl, zinX7, by decide, zTs_at 260 (by decide +kernel) rfl⟩
theorem ffX7_57 : zFL RX7 57 RX7 TX7 8 7 7 := ⟨rfl, zinX7, by decide, zTs_at 261 (by decide +kernel) rfl⟩
theorem ffX7_68 : zFL RX7 68 RX0 TX0 12 0 0 := ⟨rfl, zinX0, by decide, zTs_at 73 (by decide +kernel) rfl⟩
theorem ffX7_86 : zFL RX7 86 RX0 TX0 12 0 1 := ⟨rfl, zinX0, by decide, zTs_at 75 (by decide +kernel) rfl⟩
theorem ffX7_102 : zFL RX7 102 RX0 TX0 12 0 2 := ⟨rfl, zinX0, by decide, zTs_at 77 (by decide +kernel) rfl⟩
theorem ffX7_122 : zFL RX7 122 RX0 TX0 12 0 6 := ⟨rfl, zinX0, by decide, zTs_at 84 (by decide +kernel) rfl⟩
theorem ffX7_125 : zFL RX7 125 RX0 TX0 12 0 7 := ⟨rfl, zinX0, by decide, zTs_at 86 (by decide +kernel) rfl⟩
theorem ffX7_137 : zFL RX7 137 RX0 TX0 12 0 10 := ⟨rfl, zinX0, by decide, zTs_at 92 (by decide +kernel) rfl⟩
theorem ffX7_151 : zFL RX7 151 RX0 TX0 12 0 3 := ⟨rfl, zinX0, by decide, zTs_at 79 (by decide +kernel) rfl⟩
theorem ffX7_162 : zFL RX7 162 RX0 TX0 12 0 5 := ⟨rfl, zinX0, by decide, zTs_at 82 (by decide +kernel) rfl⟩
theorem ffX7_169 : zFL RX7 169 RX0 TX0 12 0 8 := ⟨rfl, zinX0, by decide, zTs_at 88 (by decide +kernel) rfl⟩
theorem ffX7_172 : zFL RX7 172 RX0 TX0 12 0 9 := ⟨rfl, zinX0, by decide, zTs_at 90 (by decide +kernel) rfl⟩
theorem ffX7_179 : zFL RX7 179 RX0 TX0 12 0 11 := ⟨rfl, zinX0, by decide, zTs_at 94 (by decide +kernel) rfl⟩
theorem ffX7_185 : zFL RX7 185 RX2 TX2 4 2 0 := ⟨rfl, zinX2, by decide, zTs_at 170 (by decide +kernel) rfl⟩
theorem ffX7_198 : zFL RX7 198 RX2 TX2 4 2 3 := ⟨rfl, zinX2, by decide, zTs_at 175 (by decide +kernel) rfl⟩
theorem ffX7_227 : zFL RX7 227 RX6 TX6 3 6 0 := ⟨rfl, zinX6, by decide, zTs_at 151 (by decide +kernel) rfl⟩
theorem ffX7_233 : zFL RX7 233 RX4 TX4 3 4 0 := ⟨rfl, zinX4, by decide, zTs_at 193 (by decide +kernel) rfl⟩
theorem ffX7_244 : zFL RX7 244 RX4 TX4 3 4 2 := ⟨rfl, zinX4, by decide, zTs_at 196 (by decide +kernel) rfl⟩
theorem ffX7_247 : zFL RX7 247 RX1 TX1 5 1 0 := ⟨rfl, zinX1, by decide, zTs_at 211 (by decide +kernel) rfl⟩
theorem ffX7_253 : zFL RX7 253 RX1 TX1 5 1 1 := ⟨rfl, zinX1, by decide, zTs_at 213 (by decide +kernel) rfl⟩
theorem ffX7_256 : zFL RX7 256 RX1 TX1 5 1 2 := ⟨rfl, zinX1, by decide, zTs_at 215 (by decide +kernel) rfl⟩
theorem ffX7_259 : zFL RX7 259 RX1 TX1 5 1 3 := ⟨rfl, zinX1, by decide, zTs_at 217 (by decide +kernel) rfl⟩
theorem ffX7_273 : zFL RX7 273 RX1 TX1 5 1 4 := ⟨rfl, zinX1, by decide, zTs_at 219 (by decide +kernel) rfl⟩
theorem ffX7_276 : zFL RX7 276 RX5 TX5 4 5 0 := ⟨rfl, zinX5, by decide, zTs_at 238 (by decide +kernel) rfl⟩
theorem ffX7_280 : zFL RX7 280 RX5 TX5 4 5 1 := ⟨rfl, zinX5, by decide, zTs_at 240 (by decide +kernel) rfl⟩
theorem ffX7_283 : zFL RX7 283 RX5 TX5 4 5 2 := ⟨rfl, zinX5, by decide, zTs_at 242 (by decide +kernel) rfl⟩
theorem ffX7_286 : zFL RX7 286 RX5 TX5 4 5 3 := ⟨rfl, zinX5, by decide, zTs_at 244 (by decide +kernel) rfl⟩
theorem ffX7_303 : zFL RX7 303 RX2 TX2 4 2 1 := ⟨rfl, zinX2, by decide, zTs_at 172 (by decide +kernel) rfl⟩
theorem ffX7_324 : zFL RX7 324 RX6 TX6 3 6 1 := ⟨rfl, zinX6, by decide, zTs_at 153 (by decide +kernel) rfl⟩
theorem ffX7_330 : zFL RX7 330 RX6 TX6 3 6 2 := ⟨rfl, zinX6, by decide, zTs_at 155 (by decide +kernel) rfl⟩
theorem ffX7_346 : zFL RX7 346 RX3 TX3 4 3 0 := ⟨rfl, zinX3, by decide, zTs_at 128 (by decide +kernel) rfl⟩
theorem ffX7_347 : zFL RX7 347 RX3 TX3 4 3 1 := ⟨rfl, zinX3, by decide, zTs_at 130 (by decide +kernel) rfl⟩
theorem ffX7_350 : zFL RX7 350 RX3 TX3 4 3 2 := ⟨rfl, zinX3, by decide, zTs_at 132 (by decide +kernel) rfl⟩
theorem ffX7_353 : zFL RX7 353 RX3 TX3 4 3 3 := ⟨rfl, zinX3, by decide, zTs_at 134 (by decide +kernel) rfl⟩
theorem ffX0_9 : zFL RX0 9 RX0 TX0 12 0 1 := ⟨rfl, zinX0, by decide, zTs_at 74 (by decide +kernel) rfl⟩
theorem ffX0_15 : zFL RX0 15 RX0 TX0 12 0 2 := ⟨rfl, zinX0, by decide, zTs_at 76 (by decide +kernel) rfl⟩
theorem ffX0_18 : zFL RX0 18 RX0 TX0 12 0 3 := ⟨rfl, zinX0, by decide, zTs_at 78 (by decide +kernel) rfl⟩
theorem ffX0_21 : zFL RX0 21 RX0 TX0 12 0 4 := ⟨rfl, zinX0, by decide, zTs_at 80 (by decide +kernel) rfl⟩
theorem ffX0_26 : zFL RX0 26 RX0 TX0 12 0 5 := ⟨rfl, zinX0, by decide, zTs_at 81 (by decide +kernel) rfl⟩
theorem ffX0_29 : zFL RX0 29 RX0 TX0 12 0 6 := ⟨rfl, zinX0, by decide, zTs_at 83 (by decide +kernel) rfl⟩
theorem ffX0_32 : zFL RX0 32 RX0 TX0 12 0 8 := ⟨rfl, zinX0, by decide, zTs_at 87 (by decide +kernel) rfl⟩
theorem ffX0_35 : zFL RX0 35 RX0 TX0 12 0 9 := ⟨rfl, zinX0, by decide, zTs_at 89 (by decide +kernel) rfl⟩
theorem ffX0_41 : zFL RX0 41 RX0 TX0 12 0 0 := ⟨rfl, zinX0, by decide, zTs_at 72 (by decide +kernel) rfl⟩
theorem ffX0_51 : zFL RX0 51 RX0 TX0 12 0 7 := ⟨rfl, zinX0, by decide, zTs_at 85 (by decide +kernel) rfl⟩
theorem ffX0_54 : zFL RX0 54 RX0 TX0 12 0 10 := ⟨rfl, zinX0, by decide, zTs_at 91 (by decide +kernel) rfl⟩
theorem ffX0_58 : zFL RX0 58 RX0 TX0 12 0 11 := ⟨rfl, zinX0, by decide, zTs_at 93 (by decide +kernel) rfl⟩
theorem ffX1_9 : zFL RX1 9 RX1 TX1 5 1 1 := ⟨rfl, zinX1, by decide, zTs_at 212 (by decide +kernel) rfl⟩
theorem ffX1_15 : zFL RX1 15 RX1 TX1 5 1 2 := ⟨rfl, zinX1, by decide, zTs_at 214 (by decide +kernel) rfl⟩
theorem ffX1_18 : zFL RX1 18 RX1 TX1 5 1 3 := ⟨rfl, zinX1, by decide, zTs_at 216 (by decide +kernel) rfl⟩
theorem ffX1_21 : zFL RX1 21 RX1 TX1 5 1 4 := ⟨rfl, zinX1, by decide, zTs_at 218 (by decide +kernel) rfl⟩
theorem ffX1_24 : zFL RX1 24 RX1 TX1 5 1 0 := ⟨rfl, zinX1, by decide, zTs_at 210 (by decide +kernel) rfl⟩
theorem ffX2_11 : zFL RX2 11 RX2 TX2 4 2 2 := ⟨rfl, zinX2, by decide, zTs_at 173 (by decide +kernel) rfl⟩
theorem ffX2_16 : zFL RX2 16 RX2 TX2 4 2 3 := ⟨rfl, zinX2, by decide, zTs_at 174 (by decide +kernel) rfl⟩
theorem ffX2_20 : zFL RX2 20 RX2 TX2 4 2 1 := ⟨rfl, zinX2, by decide, zTs_at 171 (by decide +kernel) rfl⟩
theorem ffX3_9 : zFL RX3 9 RX3 TX3 4 3 1 := ⟨rfl, zinX3, by decide, zTs_at 129 (by decide +kernel) rfl⟩
theorem ffX3_15 : zFL RX3 15 RX3 TX3 4 3 2 := ⟨rfl, zinX3, by decide, zTs_at 131 (by decide +kernel) rfl⟩
theorem ffX3_18 : zFL RX3 18 RX3 TX3 4 3 3 := ⟨rfl, zinX3, by decide, zTs_at 133 (by decide +kernel) rfl⟩
theorem ffX3_21 : zFL RX3 21 RX3 TX3 4 3 0 := ⟨rfl, zinX3, by decide, zTs_at 127 (by decide +kernel) rfl⟩
theorem ffX4_11 : zFL RX4 11 RX4 TX4 3 4 1 := ⟨rfl, zinX4, by decide, zTs_at 194 (by decide +kernel) rfl⟩
theorem ffX5_9 : zFL RX5 9 RX5 TX5 4 5 1 := ⟨rfl, zinX5, by decide, zTs_at 239 (by decide +kernel) rfl⟩
theorem ffX5_15 : zFL RX5 15 RX5 TX5 4 5 2 := ⟨rfl, zinX5, by decide, zTs_at 241 (by decide +kernel) rfl⟩
theorem ffX5_18 : zFL RX5 18 RX5 TX5 4 5 3 := ⟨rfl, zinX5, by decide, zTs_at 243 (by decide +kernel) rfl⟩
theorem ffX5_21 : zFL RX5 21 RX5 TX5 4 5 0 := ⟨rfl, zinX5, by decide, zTs_at 237 (by decide +kernel) rfl⟩
theorem ffX6_9 : zFL RX6 9 RX6 TX6 3 6 0 := ⟨rfl, zinX6, by decide, zTs_at 150 (by decide +kernel) rfl⟩
theorem ffX6_15 : zFL RX6 15 RX6 TX6 3 6 1 := ⟨rfl, zinX6, by decide, zTs_at 152 (by decide +kernel) rfl⟩
theorem ffX6_18 : zFL RX6 18 RX6 TX6 3 6 2 := ⟨rfl, zinX6, by decide, zTs_at 154 (by decide +kernel) rfl⟩
theorem fpX7_68 : zFP RX7 68 RX0 TX0 12 0 0 .int := ⟨ffX7_68, ⟨tyX0, tyX0_ok⟩, nmX0, rfl, by decide +kernel⟩
theorem fpX7_185 : zFP RX7 185 RX2 TX2 4 2 0 .int := ⟨ffX7_185, ⟨tyX2, tyX2_ok⟩, nmX2, rfl, by decide +kernel⟩
theorem fpX7_233 : zFP RX7 233 RX4 TX4 3 4 0 .int := ⟨ffX7_233, ⟨tyX4, tyX4_ok⟩, nmX4, rfl, by decide +kernel⟩
theorem fpX0_41 : zFP RX0 41 RX0 TX0 12 0 0 .int := ⟨ffX0_41, ⟨tyX0, tyX0_ok⟩, nmX0, rfl, by decide +kernel⟩
theorem fpX0_51 : zFP RX0 51 RX0 TX0 12 0 7 .int := ⟨ffX0_51, ⟨tyX0, tyX0_ok⟩, nmX0, rfl, by decide +kernel⟩
theorem fpX0_54 : zFP RX0 54 RX0 TX0 12 0 10 .long := ⟨ffX0_54, ⟨tyX0, tyX0_ok⟩, nmX0, rfl, by decide +kernel⟩
theorem fpX0_58 : zFP RX0 58 RX0 TX0 12 0 11 .long := ⟨ffX0_58, ⟨tyX0, tyX0_ok⟩, nmX0, rfl, by decide +kernel⟩
theorem fpX1_24 : zFP RX1 24 RX1 TX1 5 1 0 .int := ⟨ffX1_24, ⟨tyX1, tyX1_ok⟩, nmX1, rfl, by decide +kernel⟩
theorem fpX2_20 : zFP RX2 20 RX2 TX2 4 2 1 .int := ⟨ffX2_20, ⟨tyX2, tyX2_ok⟩, nmX2, rfl, by decide +kernel⟩
theorem fpX3_21 : zFP RX3 21 RX3 TX3 4 3 0 .int := ⟨ffX3_21, ⟨tyX3, tyX3_ok⟩, nmX3, rfl, by decide +kernel⟩
theorem fpX5_21 : zFP RX5 21 RX5 TX5 4 5 0 .int := ⟨ffX5_21, ⟨tyX5, tyX5_ok⟩, nmX5, rfl, by decide +kernel⟩
theorem lkX7_72 : zLV RX7 72 yX3_add cX3_add 4 none 3 := ⟨zTs_at 351 (by decide +kernel) rfl, zTs_at 352 (by decide +kernel) rfl, zTs_at 353 (by decide +kernel) rfl, zTs_at 35 (by decide +kernel) rfl, zTs_at 354 (by decide +kernel) rfl, ⟨by decide +kernel, by decide +kernel, by decide +kernel⟩, by decide⟩
theorem lkX7_76 : zLS RX7 76 yJ6_bitCount_0f7a4 cJ6_bitCount_0f7a4 1 (some .int) 1 := ⟨zTs_at 355 (by decide +kernel) rfl, zTs_at 356 (by decide +kernel) rfl, zTs_at 47 (by decide +kernel) rfl, zTs_at 357 (by decide +kernel) rfl, ⟨by decide +kernel, by decide +kernel, by decide +kernel⟩, by decide⟩
theorem lkX7_82 : zLS RX7 82 yX7_checkBakery cX7_checkBakery 1 none 1 := ⟨zTs_at 365 (by decide +kernel) rfl, zTs_at 366 (by decide +kernel) rfl, zTs_at 32 (by decide +kernel) rfl, zTs_at 367 (by decide +kernel) rfl, ⟨by decide +kernel, by decide +kernel, by decide +kernel⟩, by decide⟩
theorem lkX7_95 : zLV RX7 95 yX0_becomeCandidate cX0_becomeCandidate 2 none 1 := ⟨zTs_at 400 (by decide +kernel) rfl, zTs_at 401 (by decide +kernel) rfl, zTs_at 402 (by decide +kernel) rfl, zTs_at 33 (by decide +kernel) rfl, zTs_at 403 (by decide +kernel) rfl, ⟨by decide +kernel, by decide +kernel, by decide +kernel⟩, by decide⟩
theorem lkX7_98 : zLS RX7 98 yX7_checkPair cX7_checkPair 2 none 2 := ⟨zTs_at 663 (by decide +kernel) rfl, zTs_at 664 (by decide +kernel) rfl, zTs_at 32 (by decide +kernel) rfl, zTs_at 665 (by decide +kernel) rfl, ⟨by decide +kernel, by decide +kernel, by decide +kernel⟩, by decide⟩
theorem lkX7_107 : zLV RX7 107 yX7_checkReach cX7_checkReach 3 none 2 := ⟨zTs_at 668 (by decide +kernel) rfl, zTs_at 670 (by decide +kernel) rfl, zTs_at 22 (by decide +kernel) rfl, zTs_at 32 (by decide +kernel) rfl, zTs_at 671 (by decide +kernel) rfl, ⟨by decide +kernel, by decide +kernel, by decide +kernel⟩, by decide⟩
theorem lkX7_110 : zLV RX7 110 yX0_askForVote cX0_askForVote 3 (some .boolean) 2 := ⟨zTs_at 560 (by decide +kernel) rfl, zTs_at 561 (by decide +kernel) rfl, zTs_at 562 (by decide +kernel) rfl, zTs_at 33 (by decide +kernel) rfl, zTs_at 563 (by decide +kernel) rfl, ⟨by decide +kernel, by decide +kernel, by decide +kernel⟩, by decide⟩
theorem lkX7_114 : zLS RX7 114 yX7_checkRecipe cX7_checkRecipe 1 none 1 := ⟨zTs_at 458 (by decide +kernel) rfl, zTs_at 459 (by decide +kernel) rfl, zTs_at 32 (by decide +kernel) rfl, zTs_at 460 (by decide +kernel) rfl, ⟨by decide +kernel, by decide +kernel, by decide +kernel⟩, by decide⟩
theorem lkX7_119 : zLV RX7 119 yX7_checkLeader cX7_checkLeader 2 none 1 := ⟨zTs_at 681 (by decide +kernel) rfl, zTs_at 683 (by decide +kernel) rfl, zTs_at 23 (by decide +kernel) rfl, zTs_at 32 (by decide +kernel) rfl, zTs_at 684 (by decide +kernel) rfl, ⟨by decide +kernel, by decide +kernel, by decide +kernel⟩, by decide⟩
theorem lkX7_130 : zLV RX7 130 yX0_addVersion cX0_addVersion 3 (some .int) 1 := ⟨zTs_at 581 (by decide +kernel) rfl, zTs_at 582 (by decide +kernel) rfl, zTs_at 583 (by decide +kernel) rfl, zTs_at 33 (by decide +kernel) rfl, zTs_at 584 (by decide +kernel) rfl, ⟨by decide +kernel, by decide +kernel, by decide +kernel⟩, by decide⟩
theorem lkX7_133 : zLV RX7 133 yX6_note cX6_note 5 none 4 := ⟨zTs_at 687 (by decide +kernel) rfl, zTs_at 688 (by decide +kernel) rfl, zTs_at 689 (by decide +kernel) rfl, zTs_at 36 (by decide +kernel) rfl, zTs_at 690 (by decide +kernel) rfl, ⟨by decide +kernel, by decide +kernel, by decide +kernel⟩, by decide⟩
theorem lkX7_141 : zLV RX7 141 yX0_sendLog cX0_sendLog 3 (some .int) 2 := ⟨zTs_at 594 (by decide +kernel) rfl, zTs_at 595 (by decide +kernel) rfl, zTs_at 596 (by decide +kernel) rfl, zTs_at 33 (by decide +kernel) rfl, zTs_at 597 (by decide +kernel) rfl, ⟨by decide +kernel, by decide +kernel, by decide +kernel⟩, by decide⟩
theorem lkX7_147 : zLV RX7 147 yX7_callBackUnheld cX7_callBackUnheld 4 none 1 := ⟨zTs_at 699 (by decide +kernel) rfl, zTs_at 701 (by decide +kernel) rfl, zTs_at 24 (by decide +kernel) rfl, zTs_at 32 (by decide +kernel) rfl, zTs_at 702 (by decide +kernel) rfl, ⟨by decide +kernel, by decide +kernel, by decide +kernel⟩, by decide⟩
theorem lkX7_154 : zLV RX7 154 yX0_areTogether cX0_areTogether 3 (some .boolean) 2 := ⟨zTs_at 420 (by decide +kernel) rfl, zTs_at 421 (by decide +kernel) rfl, zTs_at 422 (by decide +kernel) rfl, zTs_at 33 (by decide +kernel) rfl, zTs_at 423 (by decide +kernel) rfl, ⟨by decide +kernel, by decide +kernel, by decide +kernel⟩, by decide⟩
theorem lkX7_166 : zLV RX7 166 yX7_checkVersion cX7_checkVersion 2 none 1 := ⟨zTs_at 444 (by decide +kernel) rfl, zTs_at 446 (by decide +kernel) rfl, zTs_at 1 (by decide +kernel) rfl, zTs_at 32 (by decide +kernel) rfl, zTs_at 447 (by decide +kernel) rfl, ⟨by decide +kernel, by decide +kernel, by decide +kernel⟩, by decide⟩
theorem lkX7_175 : zLS RX7 175 yX7_contains cX7_contains 3 (some .boolean) 2 := ⟨zTs_at 453 (by decide +kernel) rfl, zTs_at 425 (by decide +kernel) rfl, zTs_at 32 (by decide +kernel) rfl, zTs_at 426 (by decide +kernel) rfl, ⟨by decide +kernel, by decide +kernel, by decide +kernel⟩, by decide⟩
theorem lkX7_182 : zLV RX7 182 yX7_findCurrent cX7_findCurrent 5 (some .int) 2 := ⟨zTs_at 462 (by decide +kernel) rfl, zTs_at 464 (by decide +kernel) rfl, zTs_at 2 (by decide +kernel) rfl, zTs_at 32 (by decide +kernel) rfl, zTs_at 465 (by decide +kernel) rfl, ⟨by decide +kernel, by decide +kernel, by decide +kernel⟩, by decide⟩
theorem lkX7_190 : zLV RX7 190 yX7_checkLot cX7_checkLot 2 none 1 := ⟨zTs_at 617 (by decide +kernel) rfl, zTs_at 619 (by decide +kernel) rfl, zTs_at 20 (by decide +kernel) rfl, zTs_at 32 (by decide +kernel) rfl, zTs_at 620 (by decide +kernel) rfl, ⟨by decide +kernel, by decide +kernel, by decide +kernel⟩, by decide⟩
theorem lkX7_195 : zLV RX7 195 yX7_checkGood cX7_checkGood 2 none 1 := ⟨zTs_at 723 (by decide +kernel) rfl, zTs_at 725 (by decide +kernel) rfl, zTs_at 27 (by decide +kernel) rfl, zTs_at 32 (by decide +kernel) rfl, zTs_at 726 (by decide +kernel) rfl, ⟨by decide +kernel, by decide +kernel, by decide +kernel⟩, by decide⟩
theorem lkX7_203 : zLV RX7 203 yX2_bring cX2_bring 6 none 3 := ⟨zTs_at 729 (by decide +kernel) rfl, zTs_at 730 (by decide +kernel) rfl, zTs_at 731 (by decide +kernel) rfl, zTs_at 37 (by decide +kernel) rfl, zTs_at 732 (by decide +kernel) rfl, ⟨by decide +kernel, by decide +kernel, by decide +kernel⟩, by decide⟩
theorem lkX7_206 : zLV RX7 206 yX2_throwOut cX2_throwOut 3 none 1 := ⟨zTs_at 762 (by decide +kernel) rfl, zTs_at 763 (by decide +kernel) rfl, zTs_at 764 (by decide +kernel) rfl, zTs_at 37 (by decide +kernel) rfl, zTs_at 765 (by decide +kernel) rfl, ⟨by decide +kernel, by decide +kernel, by decide +kernel⟩, by decide⟩
theorem lkX7_209 : zLV RX7 209 yX7_callBackLot cX7_callBackLot 4 (some .int) 1 := ⟨zTs_at 770 (by decide +kernel) rfl, zTs_at 772 (by decide +kernel) rfl, zTs_at 30 (by decide +kernel) rfl, zTs_at 32 (by decide +kernel) rfl, zTs_at 773 (by decide +kernel) rfl, ⟨by decide +kernel, by decide +kernel, by decide +kernel⟩, by decide⟩
theorem lkX7_212 : zLV RX7 212 yX7_checkHour cX7_checkHour 2 none 1 := ⟨zTs_at 479 (by decide +kernel) rfl, zTs_at 481 (by decide +kernel) rfl, zTs_at 3 (by decide +kernel) rfl, zTs_at 32 (by decide +kernel) rfl, zTs_at 482 (by decide +kernel) rfl, ⟨by decide +kernel, by decide +kernel, by decide +kernel⟩, by decide⟩
theorem lkX7_215 : zLV RX7 215 yX4_slotAt cX4_slotAt 3 (some .int) 2 := ⟨zTs_at 484 (by decide +kernel) rfl, zTs_at 485 (by decide +kernel) rfl, zTs_at 486 (by decide +kernel) rfl, zTs_at 38 (by decide +kernel) rfl, zTs_at 487 (by decide +kernel) rfl, ⟨by decide +kernel, by decide +kernel, by decide +kernel⟩, by decide⟩
theorem lkX7_220 : zLV RX7 220 yX7_putCurrent cX7_putCurrent 5 (some .int) 3 := ⟨zTs_at 741 (by decide +kernel) rfl, zTs_at 743 (by decide +kernel) rfl, zTs_at 28 (by decide +kernel) rfl, zTs_at 32 (by decide +kernel) rfl, zTs_at 744 (by decide +kernel) rfl, ⟨by decide +kernel, by decide +kernel, by decide +kernel⟩, by decide⟩
theorem lkX7_230 : zLV RX7 230 yX4_setSlot cX4_setSlot 4 none 3 := ⟨zTs_at 518 (by decide +kernel) rfl, zTs_at 519 (by decide +kernel) rfl, zTs_at 520 (by decide +kernel) rfl, zTs_at 38 (by decide +kernel) rfl, zTs_at 521 (by decide +kernel) rfl, ⟨by decide +kernel, by decide +kernel, by decide +kernel⟩, by decide⟩
theorem lkX7_240 : zLV RX7 240 yX7_passHour cX7_passHour 4 (some .int) 0 := ⟨zTs_at 498 (by decide +kernel) rfl, zTs_at 500 (by decide +kernel) rfl, zTs_at 4 (by decide +kernel) rfl, zTs_at 32 (by decide +kernel) rfl, zTs_at 501 (by decide +kernel) rfl, ⟨by decide +kernel, by decide +kernel, by decide +kernel⟩, by decide⟩
theorem lkX7_250 : zLV RX7 250 yX7_checkBatch cX7_checkBatch 2 none 1 := ⟨zTs_at 534 (by decide +kernel) rfl, zTs_at 536 (by decide +kernel) rfl, zTs_at 7 (by decide +kernel) rfl, zTs_at 32 (by decide +kernel) rfl, zTs_at 537 (by decide +kernel) rfl, ⟨by decide +kernel, by decide +kernel, by decide +kernel⟩, by decide⟩
theorem lkX7_262 : zLV RX7 262 yX7_barredUnder cX7_barredUnder 5 (some .int) 2 := ⟨zTs_at 543 (by decide +kernel) rfl, zTs_at 545 (by decide +kernel) rfl, zTs_at 8 (by decide +kernel) rfl, zTs_at 32 (by decide +kernel) rfl, zTs_at 546 (by decide +kernel) rfl, ⟨by decide +kernel, by decide +kernel, by decide +kernel⟩, by decide⟩
theorem lkX7_266 : zLV RX7 266 yX7_repeatHistory cX7_repeatHistory 2 none 0 := ⟨zTs_at 551 (by decide +kernel) rfl, zTs_at 553 (by decide +kernel) rfl, zTs_at 9 (by decide +kernel) rfl, zTs_at 32 (by decide +kernel) rfl, zTs_at 554 (by decide +kernel) rfl, ⟨by decide +kernel, by decide +kernel, by decide +kernel⟩, by decide⟩
theorem lkX7_277 : zLV RX7 277 yX7_checkRecall cX7_checkRecall 2 none 1 := ⟨zTs_at 634 (by decide +kernel) rfl, zTs_at 636 (by decide +kernel) rfl, zTs_at 21 (by decide +kernel) rfl, zTs_at 32 (by decide +kernel) rfl, zTs_at 637 (by decide +kernel) rfl, ⟨by decide +kernel, by decide +kernel, by decide +kernel⟩, by decide⟩
theorem lkX7_318 : zLV RX7 318 yX7_canBake cX7_canBake 3 (some .boolean) 2 := ⟨zTs_at 502 (by decide +kernel) rfl, zTs_at 504 (by decide +kernel) rfl, zTs_at 5 (by decide +kernel) rfl, zTs_at 32 (by decide +kernel) rfl, zTs_at 505 (by decide +kernel) rfl, ⟨by decide +kernel, by decide +kernel, by decide +kernel⟩, by decide⟩
theorem lkX7_321 : zLV RX7 321 yX7_bake cX7_bake 4 none 2 := ⟨zTs_at 506 (by decide +kernel) rfl, zTs_at 508 (by decide +kernel) rfl, zTs_at 6 (by decide +kernel) rfl, zTs_at 32 (by decide +kernel) rfl, zTs_at 509 (by decide +kernel) rfl, ⟨by decide +kernel, by decide +kernel, by decide +kernel⟩, by decide⟩
theorem lkX7_327 : zLV RX7 327 yX2_takeFirst cX2_takeFirst 5 (some .int) 2 := ⟨zTs_at 510 (by decide +kernel) rfl, zTs_at 511 (by decide +kernel) rfl, zTs_at 512 (by decide +kernel) rfl, zTs_at 37 (by decide +kernel) rfl, zTs_at 513 (by decide +kernel) rfl, ⟨by decide +kernel, by decide +kernel, by decide +kernel⟩, by decide⟩
theorem lkX7_333 : zLV RX7 333 yX1_add cX1_add 4 none 3 := ⟨zTs_at 514 (by decide +kernel) rfl, zTs_at 515 (by decide +kernel) rfl, zTs_at 516 (by decide +kernel) rfl, zTs_at 39 (by decide +kernel) rfl, zTs_at 517 (by decide +kernel) rfl, ⟨by decide +kernel, by decide +kernel, by decide +kernel⟩, by decide⟩
theorem lkX7_334 : zLV RX7 334 yX7_callBackVersion cX7_callBackVersion 3 none 1 := ⟨zTs_at 703 (by decide +kernel) rfl, zTs_at 705 (by decide +kernel) rfl, zTs_at 25 (by decide +kernel) rfl, zTs_at 32 (by decide +kernel) rfl, zTs_at 706 (by decide +kernel) rfl, ⟨by decide +kernel, by decide +kernel, by decide +kernel⟩, by decide⟩
theorem lkX7_337 : zLV RX7 337 yX7_callBackBatch cX7_callBackBatch 4 (some .int) 2 := ⟨zTs_at 707 (by decide +kernel) rfl, zTs_at 709 (by decide +kernel) rfl, zTs_at 26 (by decide +kernel) rfl, zTs_at 32 (by decide +kernel) rfl, zTs_at 710 (by decide +kernel) rfl, ⟨by decide +kernel, by decide +kernel, by decide +kernel⟩, by decide⟩
theorem lkX7_340 : zLV RX7 340 yX5_write cX5_write 4 none 3 := ⟨zTs_at 711 (by decide +kernel) rfl, zTs_at 712 (by decide +kernel) rfl, zTs_at 713 (by decide +kernel) rfl, zTs_at 40 (by decide +kernel) rfl, zTs_at 714 (by decide +kernel) rfl, ⟨by decide +kernel, by decide +kernel, by decide +kernel⟩, by decide⟩
theorem lkX7_343 : zLV RX7 343 yX0_begin cX0_begin 1 none 0 := ⟨zTs_at 555 (by decide +kernel) rfl, zTs_at 66 (by decide +kernel) rfl, zTs_at 67 (by decide +kernel) rfl, zTs_at 33 (by decide +kernel) rfl, zTs_at 68 (by decide +kernel) rfl, ⟨by decide +kernel, by decide +kernel, by decide +kernel⟩, by decide⟩
theorem lkX7_356 : zLV RX7 356 yX7_repeatCall cX7_repeatCall 4 none 3 := ⟨zTs_at 556 (by decide +kernel) rfl, zTs_at 558 (by decide +kernel) rfl, zTs_at 10 (by decide +kernel) rfl, zTs_at 32 (by decide +kernel) rfl, zTs_at 559 (by decide +kernel) rfl, ⟨by decide +kernel, by decide +kernel, by decide +kernel⟩, by decide⟩
theorem lkX0_45 : zLS RX0 45 yJ7_fill_53178 cJ7_fill_53178 4 none 2 := ⟨zTs_at 69 (by decide +kernel) rfl, zTs_at 70 (by decide +kernel) rfl, zTs_at 34 (by decide +kernel) rfl, zTs_at 71 (by decide +kernel) rfl, ⟨by decide +kernel, by decide +kernel, by decide +kernel⟩, by decide⟩
theorem lkX0_61 : zLN RX0 "QuorumBakery" 61 yX7_contains cX7_contains 3 (some .boolean) 2 := ⟨zTs_at 424 (by decide +kernel) rfl, zTs_at 425 (by decide +kernel) rfl, zTs_at 32 (by decide +kernel) rfl, zTs_at 426 (by decide +kernel) rfl, ⟨by decide +kernel, by decide +kernel, by decide +kernel⟩, by decide⟩
theorem lkX0_65 : zLV RX0 65 yX0_takeTerm cX0_takeTerm 3 none 2 := ⟨zTs_at 564 (by decide +kernel) rfl, zTs_at 566 (by decide +kernel) rfl, zTs_at 11 (by decide +kernel) rfl, zTs_at 33 (by decide +kernel) rfl, zTs_at 567 (by decide +kernel) rfl, ⟨by decide +kernel, by decide +kernel, by decide +kernel⟩, by decide⟩
theorem lkX0_69 : zLV RX0 69 yX0_hasBetterLog cX0_hasBetterLog 5 (some .boolean) 2 := ⟨zTs_at 568 (by decide +kernel) rfl, zTs_at 570 (by decide +kernel) rfl, zTs_at 12 (by decide +kernel) rfl, zTs_at 33 (by decide +kernel) rfl, zTs_at 571 (by decide +kernel) rfl, ⟨by decide +kernel, by decide +kernel, by decide +kernel⟩, by decide⟩
theorem lkX0_73 : zLV RX0 73 yX0_giveVote cX0_giveVote 3 none 2 := ⟨zTs_at 576 (by decide +kernel) rfl, zTs_at 578 (by decide +kernel) rfl, zTs_at 14 (by decide +kernel) rfl, zTs_at 33 (by decide +kernel) rfl, zTs_at 579 (by decide +kernel) rfl, ⟨by decide +kernel, by decide +kernel, by decide +kernel⟩, by decide⟩
theorem lkX0_76 : zLS RX0 76 yJ6_bitCount_0f7a4 cJ6_bitCount_0f7a4 1 (some .int) 1 := ⟨zTs_at 580 (by decide +kernel) rfl, zTs_at 356 (by decide +kernel) rfl, zTs_at 47 (by decide +kernel) rfl, zTs_at 357 (by decide +kernel) rfl, ⟨by decide +kernel, by decide +kernel, by decide +kernel⟩, by decide⟩
theorem lkX0_82 : zLV RX0 82 yX0_lastTerm cX0_lastTerm 2 (some .int) 1 := ⟨zTs_at 572 (by decide +kernel) rfl, zTs_at 574 (by decide +kernel) rfl, zTs_at 13 (by decide +kernel) rfl, zTs_at 33 (by decide +kernel) rfl, zTs_at 575 (by decide +kernel) rfl, ⟨by decide +kernel, by decide +kernel, by decide +kernel⟩, by decide⟩
theorem lkX0_85 : zLV RX0 85 yX0_append cX0_append 3 none 2 := ⟨zTs_at 585 (by decide +kernel) rfl, zTs_at 587 (by decide +kernel) rfl, zTs_at 15 (by decide +kernel) rfl, zTs_at 33 (by decide +kernel) rfl, zTs_at 588 (by decide +kernel) rfl, ⟨by decide +kernel, by decide +kernel, by decide +kernel⟩, by decide⟩
theorem lkX0_88 : zLV RX0 88 yX0_commonLength cX0_commonLength 5 (some .int) 2 := ⟨zTs_at 598 (by decide +kernel) rfl, zTs_at 600 (by decide +kernel) rfl, zTs_at 17 (by decide +kernel) rfl, zTs_at 33 (by decide +kernel) rfl, zTs_at 601 (by decide +kernel) rfl, ⟨by decide +kernel, by decide +kernel, by decide +kernel⟩, by decide⟩
theorem lkX0_92 : zLV RX0 92 yX0_cutAt cX0_cutAt 5 none 2 := ⟨zTs_at 605 (by decide +kernel) rfl, zTs_at 607 (by decide +kernel) rfl, zTs_at 18 (by decide +kernel) rfl, zTs_at 33 (by decide +kernel) rfl, zTs_at 608 (by decide +kernel) rfl, ⟨by decide +kernel, by decide +kernel, by decide +kernel⟩, by decide⟩
theorem lkX0_95 : zLV RX0 95 yX0_copyRest cX0_copyRest 5 (some .int) 2 := ⟨zTs_at 609 (by decide +kernel) rfl, zTs_at 611 (by decide +kernel) rfl, zTs_at 19 (by decide +kernel) rfl, zTs_at 33 (by decide +kernel) rfl, zTs_at 612 (by decide +kernel) rfl, ⟨by decide +kernel, by decide +kernel, by decide +kernel⟩, by decide⟩
theorem lkX0_98 : zLM RX0 98 := ⟨zTs_at 602 (by decide +kernel) rfl, zTs_at 603 (by decide +kernel) rfl, zTs_at 48 (by decide +kernel) rfl, zTs_at 604 (by decide +kernel) rfl⟩
theorem lkX0_103 : zLV RX0 103 yX0_judgeHeld cX0_judgeHeld 4 none 1 := ⟨zTs_at 589 (by decide +kernel) rfl, zTs_at 591 (by decide +kernel) rfl, zTs_at 16 (by decide +kernel) rfl, zTs_at 33 (by decide +kernel) rfl, zTs_at 592 (by decide +kernel) rfl, ⟨by decide +kernel, by decide +kernel, by decide +kernel⟩, by decide⟩
theorem lkX2_24 : zLV RX2 24 yX2_throwOutOf cX2_throwOutOf 5 none 2 := ⟨zTs_at 766 (by decide +kernel) rfl, zTs_at 768 (by decide +kernel) rfl, zTs_at 29 (by decide +kernel) rfl, zTs_at 37 (by decide +kernel) rfl, zTs_at 769 (by decide +kernel) rfl, ⟨by decide +kernel, by decide +kernel, by decide +kernel⟩, by decide⟩
theorem lkL_9 : zLV RL 9 yX7_vote cX7_vote 3 (some .boolean) 2 := ⟨zTs_at 659 (by decide +kernel) rfl, zTs_at 660 (by decide +kernel) rfl, zTs_at 661 (by decide +kernel) rfl, zTs_at 32 (by decide +kernel) rfl, zTs_at 662 (by decide +kernel) rfl, ⟨by decide +kernel, by decide +kernel, by decide +kernel⟩, by decide⟩
theorem lkL_17 : zLV RL 17 yX7_propose cX7_propose 6 (some .int) 4 := ⟨zTs_at 676 (by decide +kernel) rfl, zTs_at 677 (by decide +kernel) rfl, zTs_at 678 (by decide +kernel) rfl, zTs_at 32 (by decide +kernel) rfl, zTs_at 679 (by decide +kernel) rfl, ⟨by decide +kernel, by decide +kernel, by decide +kernel⟩, by decide⟩
theorem lkL_21 : zLV RL 21 yX7_tell cX7_tell 6 (some .int) 2 := ⟨zTs_at 694 (by decide +kernel) rfl, zTs_at 695 (by decide +kernel) rfl, zTs_at 696 (by decide +kernel) rfl, zTs_at 32 (by decide +kernel) rfl, zTs_at 697 (by decide +kernel) rfl, ⟨by decide +kernel, by decide +kernel, by decide +kernel⟩, by decide⟩
theorem lkL_25 : zLV RL 25 yX7_deliver cX7_deliver 4 (some .int) 3 := ⟨zTs_at 718 (by decide +kernel) rfl, zTs_at 719 (by decide +kernel) rfl, zTs_at 720 (by decide +kernel) rfl, zTs_at 32 (by decide +kernel) rfl, zTs_at 721 (by decide +kernel) rfl, ⟨by decide +kernel, by decide +kernel, by decide +kernel⟩, by decide⟩
theorem lkL_29 : zLV RL 29 yX7_book cX7_book 4 (some .int) 3 := ⟨zTs_at 736 (by decide +kernel) rfl, zTs_at 737 (by decide +kernel) rfl, zTs_at 738 (by decide +kernel) rfl, zTs_at 32 (by decide +kernel) rfl, zTs_at 739 (by decide +kernel) rfl, ⟨by decide +kernel, by decide +kernel, by decide +kernel⟩, by decide⟩
theorem lkL_32 : zLV RL 32 yX7_sell cX7_sell 3 (some .int) 2 := ⟨zTs_at 749 (by decide +kernel) rfl, zTs_at 750 (by decide +kernel) rfl, zTs_at 751 (by decide +kernel) rfl, zTs_at 32 (by decide +kernel) rfl, zTs_at 752 (by decide +kernel) rfl, ⟨by decide +kernel, by decide +kernel, by decide +kernel⟩, by decide⟩
theorem lkL_35 : zLV RL 35 yX7_condemn cX7_condemn 2 (some .int) 1 := ⟨zTs_at 758 (by decide +kernel) rfl, zTs_at 759 (by decide +kernel) rfl, zTs_at 760 (by decide +kernel) rfl, zTs_at 32 (by decide +kernel) rfl, zTs_at 761 (by decide +kernel) rfl, ⟨by decide +kernel, by decide +kernel, by decide +kernel⟩, by decide⟩
theorem lkL_39 : zLV RL 39 yX7_role cX7_role 2 (some .int) 1 := ⟨zTs_at 404 (by decide +kernel) rfl, zTs_at 405 (by decide +kernel) rfl, zTs_at 406 (by decide +kernel) rfl, zTs_at 32 (by decide +kernel) rfl, zTs_at 407 (by decide +kernel) rfl, ⟨by decide +kernel, by decide +kernel, by decide +kernel⟩, by decide⟩
theorem lkL_42 : zLV RL 42 yX7_votedFor cX7_votedFor 2 (some .int) 1 := ⟨zTs_at 412 (by decide +kernel) rfl, zTs_at 413 (by decide +kernel) rfl, zTs_at 414 (by decide +kernel) rfl, zTs_at 32 (by decide +kernel) rfl, zTs_at 415 (by decide +kernel) rfl, ⟨by decide +kernel, by decide +kernel, by decide +kernel⟩, by decide⟩
theorem lkL_45 : zLV RL 45 yX7_term cX7_term 2 (some .int) 1 := ⟨zTs_at 408 (by decide +kernel) rfl, zTs_at 409 (by decide +kernel) rfl, zTs_at 410 (by decide +kernel) rfl, zTs_at 32 (by decide +kernel) rfl, zTs_at 411 (by decide +kernel) rfl, ⟨by decide +kernel, by decide +kernel, by decide +kernel⟩, by decide⟩
theorem lkL_48 : zLV RL 48 yX7_entries cX7_entries 2 (some .int) 1 := ⟨zTs_at 427 (by decide +kernel) rfl, zTs_at 428 (by decide +kernel) rfl, zTs_at 429 (by decide +kernel) rfl, zTs_at 32 (by decide +kernel) rfl, zTs_at 430 (by decide +kernel) rfl, ⟨by decide +kernel, by decide +kernel, by decide +kernel⟩, by decide⟩
theorem lkL_51 : zLV RL 51 yX7_versionAt cX7_versionAt 3 (some .int) 2 := ⟨zTs_at 431 (by decide +kernel) rfl, zTs_at 432 (by decide +kernel) rfl, zTs_at 433 (by decide +kernel) rfl, zTs_at 32 (by decide +kernel) rfl, zTs_at 434 (by decide +kernel) rfl, ⟨by decide +kernel, by decide +kernel, by decide +kernel⟩, by decide⟩
theorem lkL_54 : zLV RL 54 yX7_holders cX7_holders 2 (some .int) 1 := ⟨zTs_at 440 (by decide +kernel) rfl, zTs_at 441 (by decide +kernel) rfl, zTs_at 442 (by decide +kernel) rfl, zTs_at 32 (by decide +kernel) rfl, zTs_at 443 (by decide +kernel) rfl, ⟨by decide +kernel, by decide +kernel, by decide +kernel⟩, by decide⟩
theorem lkL_57 : zLV RL 57 yX7_termOf cX7_termOf 2 (some .int) 1 := ⟨zTs_at 780 (by decide +kernel) rfl, zTs_at 781 (by decide +kernel) rfl, zTs_at 782 (by decide +kernel) rfl, zTs_at 32 (by decide +kernel) rfl, zTs_at 783 (by decide +kernel) rfl, ⟨by decide +kernel, by decide +kernel, by decide +kernel⟩, by decide⟩
theorem lkL_60 : zLV RL 60 yX7_isHeld cX7_isHeld 2 (some .boolean) 1 := ⟨zTs_at 449 (by decide +kernel) rfl, zTs_at 450 (by decide +kernel) rfl, zTs_at 451 (by decide +kernel) rfl, zTs_at 32 (by decide +kernel) rfl, zTs_at 452 (by decide +kernel) rfl, ⟨by decide +kernel, by decide +kernel, by decide +kernel⟩, by decide⟩
theorem lkL_64 : zLS RL 64 yL_bits cL_bits 3 (some .int) 1 := ⟨zTs_at 784 (by decide +kernel) rfl, zTs_at 785 (by decide +kernel) rfl, zTs_at 31 (by decide +kernel) rfl, zTs_at 786 (by decide +kernel) rfl, ⟨by decide +kernel, by decide +kernel, by decide +kernel⟩, by decide⟩
theorem lkL_69 : zLV RL 69 yX7_wasHeld cX7_wasHeld 2 (some .boolean) 1 := ⟨zTs_at 787 (by decide +kernel) rfl, zTs_at 788 (by decide +kernel) rfl, zTs_at 789 (by decide +kernel) rfl, zTs_at 32 (by decide +kernel) rfl, zTs_at 790 (by decide +kernel) rfl, ⟨by decide +kernel, by decide +kernel, by decide +kernel⟩, by decide⟩
theorem lkL_72 : zLV RL 72 yX7_batches cX7_batches 1 (some .int) 0 := ⟨zTs_at 526 (by decide +kernel) rfl, zTs_at 527 (by decide +kernel) rfl, zTs_at 528 (by decide +kernel) rfl, zTs_at 32 (by decide +kernel) rfl, zTs_at 529 (by decide +kernel) rfl, ⟨by decide +kernel, by decide +kernel, by decide +kernel⟩, by decide⟩
theorem lkL_76 : zLV RL 76 yX7_barred cX7_barred 2 (some .int) 1 := ⟨zTs_at 539 (by decide +kernel) rfl, zTs_at 540 (by decide +kernel) rfl, zTs_at 541 (by decide +kernel) rfl, zTs_at 32 (by decide +kernel) rfl, zTs_at 542 (by decide +kernel) rfl, ⟨by decide +kernel, by decide +kernel, by decide +kernel⟩, by decide⟩
theorem lkL_79 : zLV RL 79 yX7_versionOf cX7_versionOf 2 (some .int) 1 := ⟨zTs_at 794 (by decide +kernel) rfl, zTs_at 795 (by decide +kernel) rfl, zTs_at 796 (by decide +kernel) rfl, zTs_at 32 (by decide +kernel) rfl, zTs_at 797 (by decide +kernel) rfl, ⟨by decide +kernel, by decide +kernel, by decide +kernel⟩, by decide⟩
theorem lkL_82 : zLV RL 82 yX7_left cX7_left 2 (some .int) 1 := ⟨zTs_at 530 (by decide +kernel) rfl, zTs_at 531 (by decide +kernel) rfl, zTs_at 532 (by decide +kernel) rfl, zTs_at 32 (by decide +kernel) rfl, zTs_at 533 (by decide +kernel) rfl, ⟨by decide +kernel, by decide +kernel, by decide +kernel⟩, by decide⟩
theorem lkL_85 : zLV RL 85 yX7_lotsOf cX7_lotsOf 2 (some .int) 1 := ⟨zTs_at 798 (by decide +kernel) rfl, zTs_at 799 (by decide +kernel) rfl, zTs_at 800 (by decide +kernel) rfl, zTs_at 32 (by decide +kernel) rfl, zTs_at 801 (by decide +kernel) rfl, ⟨by decide +kernel, by decide +kernel, by decide +kernel⟩, by decide⟩
theorem lkL_88 : zLV RL 88 yX7_onSale cX7_onSale 3 (some .int) 0 := ⟨zTs_at 802 (by decide +kernel) rfl, zTs_at 803 (by decide +kernel) rfl, zTs_at 804 (by decide +kernel) rfl, zTs_at 32 (by decide +kernel) rfl, zTs_at 805 (by decide +kernel) rfl, ⟨by decide +kernel, by decide +kernel, by decide +kernel⟩, by decide⟩
theorem txX7_65 : zTX RX7 65 2 := ⟨fun w hw => zTs_in ((by decide +kernel : ∀ w ∈ (vx_atS RX7 65 (zex 2) znm), w ∈ lw_tbl) w hw) ((by decide +kernel : ∀ w ∈ (vx_atS RX7 65 (zex 2) znm), zgd w = true) w hw), by decide +kernel, by decide +kernel, zTs_at 46 (by decide +kernel) rfl⟩
theorem txX7_94 : zTX RX7 94 3 := ⟨fun w hw => zTs_in ((by decide +kernel : ∀ w ∈ (vx_atS RX7 94 (zex 3) znm), w ∈ lw_tbl) w hw) ((by decide +kernel : ∀ w ∈ (vx_atS RX7 94 (zex 3) znm), zgd w = true) w hw), by decide +kernel, by decide +kernel, zTs_at 45 (by decide +kernel) rfl⟩
theorem txX7_161 : zTX RX7 161 1 := ⟨fun w hw => zTs_in ((by decide +kernel : ∀ w ∈ (vx_atS RX7 161 (zex 1) znm), w ∈ lw_tbl) w hw) ((by decide +kernel : ∀ w ∈ (vx_atS RX7 161 (zex 1) znm), zgd w = true) w hw), by decide +kernel, by decide +kernel, zTs_at 44 (by decide +kernel) rfl⟩
theorem ckX7_61 : Cond.classLink RX7 61 (zex 2) ∈ zTs := zTs_at 283 (by decide +kernel) rfl
theorem ckX7_90 : Cond.classLink RX7 90 (zex 3) ∈ zTs := zTs_at 384 (by decide +kernel) rfl
theorem ckX7_157 : Cond.classLink RX7 157 (zex 1) ∈ zTs := zTs_at 368 (by decide +kernel) rfl
theorem ckL_15 : Cond.classLink RL 15 (zex 3) ∈ zTs := zTs_at 658 (by decide +kernel) rfl
theorem skX7_63 : Cond.stringRef RX7 63 "group is out of range" ∈ zTs := zTs_at 324 (by decide +kernel) rfl
theorem skX7_92 : Cond.stringRef RX7 92 "the term is the last one" ∈ zTs := zTs_at 393 (by decide +kernel) rfl
theorem skX7_105 : Cond.stringRef RX7 105 "it is no candidate" ∈ zTs := zTs_at 667 (by decide +kernel) rfl
theorem skX7_117 : Cond.stringRef RX7 117 "bags or loaves is out of range" ∈ zTs := zTs_at 680 (by decide +kernel) rfl
theorem skX7_128 : Cond.stringRef RX7 128 "there is no room for a version" ∈ zTs := zTs_at 686 (by decide +kernel) rfl
theorem skX7_159 : Cond.stringRef RX7 159 "no such place" ∈ zTs := zTs_at 435 (by decide +kernel) rfl
theorem skX7_188 : Cond.stringRef RX7 188 "there is no room for a lot" ∈ zTs := zTs_at 470 (by decide +kernel) rfl
theorem skX7_193 : Cond.stringRef RX7 193 "bags is out of range" ∈ zTs := zTs_at 722 (by decide +kernel) rfl
theorem skX7_201 : Cond.stringRef RX7 201 "the store has no room" ∈ zTs := zTs_at 728 (by decide +kernel) rfl
theorem skX7_218 : Cond.stringRef RX7 218 "the slot is booked" ∈ zTs := zTs_at 740 (by decide +kernel) rfl
theorem skX7_236 : Cond.stringRef RX7 236 "hours is out of range" ∈ zTs := zTs_at 496 (by decide +kernel) rfl
theorem skX7_238 : Cond.stringRef RX7 238 "the time would be too late" ∈ zTs := zTs_at 497 (by decide +kernel) rfl
theorem skX7_269 : Cond.stringRef RX7 269 "count is out of range" ∈ zTs := zTs_at 753 (by decide +kernel) rfl
theorem skX7_271 : Cond.stringRef RX7 271 "it is barred, or has not so many loaves" ∈ zTs := zTs_at 754 (by decide +kernel) rfl
theorem skX7_289 : Cond.stringRef RX7 289 "no such bakery" ∈ zTs := zTs_at 377 (by decide +kernel) rfl
theorem skX7_291 : Cond.stringRef RX7 291 "both are the same" ∈ zTs := zTs_at 666 (by decide +kernel) rfl
theorem skX7_293 : Cond.stringRef RX7 293 "they do not reach one another" ∈ zTs := zTs_at 672 (by decide +kernel) rfl
theorem skX7_295 : Cond.stringRef RX7 295 "it is no leader" ∈ zTs := zTs_at 685 (by decide +kernel) rfl
theorem skX7_297 : Cond.stringRef RX7 297 "no such recipe" ∈ zTs := zTs_at 461 (by decide +kernel) rfl
theorem skX7_299 : Cond.stringRef RX7 299 "no such version" ∈ zTs := zTs_at 448 (by decide +kernel) rfl
theorem skX7_301 : Cond.stringRef RX7 301 "no such lot" ∈ zTs := zTs_at 621 (by decide +kernel) rfl
theorem skX7_306 : Cond.stringRef RX7 306 "the lot is condemned" ∈ zTs := zTs_at 727 (by decide +kernel) rfl
theorem skX7_308 : Cond.stringRef RX7 308 "hour is out of range" ∈ zTs := zTs_at 483 (by decide +kernel) rfl
theorem skX7_312 : Cond.stringRef RX7 312 "no such batch" ∈ zTs := zTs_at 538 (by decide +kernel) rfl
theorem skX7_314 : Cond.stringRef RX7 314 "no such recall" ∈ zTs := zTs_at 638 (by decide +kernel) rfl
theorem skX7_316 : Cond.stringRef RX7 316 "the recipe has no current version" ∈ zTs := zTs_at 745 (by decide +kernel) rfl
theorem kcX7_145 : Cond.constantLong RX7 145 (-1) ∈ zTs := zTs_at 698 (by decide +kernel) rfl
theorem kcX0_107 : Cond.constantLong RX0 107 (-1) ∈ zTs := zTs_at 593 (by decide +kernel) rfl
theorem kcL_7 : Cond.constant RL 7 (2147483647) ∈ zTs := zTs_at 650 (by decide +kernel) rfl
theorem kcJ6_265 : Cond.constant RJ6 265 (1431655765) ∈ zTs := zTs_at 358 (by decide +kernel) rfl
theorem kcJ6_266 : Cond.constant RJ6 266 (858993459) ∈ zTs := zTs_at 359 (by decide +kernel) rfl
theorem kcJ6_267 : Cond.constant RJ6 267 (252645135) ∈ zTs := zTs_at 360 (by decide +kernel) rfl
theorem zself : ∀ x, Cond.castable (zex x) (zex x) ∈ zTs
  | 0 => zTs_at 386 (by decide +kernel) rfl
  | 1 => zTs_at 370 (by decide +kernel) rfl
  | 2 => zTs_at 285 (by decide +kernel) rfl
  | _ + 3 => (show Cond.castable (zex 3) (zex 3) ∈ zTs from zTs_at 386 (by decide +kernel) rfl)
