theorem zcl_of {lv : Nat → Bool} (h : ∀ k, k < 88 → lv k = true → ∀ c ∈ zch k, lv c = true) (hb : ∀ k, lv k = true → k < 88) : zcl lv := fun k hk => h k (hb k hk) hk
theorem zcl_or {a b : Nat → Bool} (ha : zcl a) (hb : zcl b) : zcl (zor a b) := by
  intro k hk c hc
  have : a k = true ∨ b k = true := by simpa [zor] using hk
  rcases this with h | h
  · have := ha k h c hc
    simp [zor, this]
  · have := hb k h c hc
    simp [zor, this]
theorem zcl_no : zcl zno := fun k hk => by cases hk
theorem zch_pos : ∀ k, k < 88 → ∀ c ∈ zch k, c ≠ 0 := by decide +kernel
theorem zcl_1 : zcl (zlv 1 14) := zcl_of (by decide +kernel) (fun k hk => by simp only [zlv, Bool.and_eq_true, decide_eq_true_eq] at hk; omega)
theorem zcl_15 : zcl (zlv 15 14) := zcl_of (by decide +kernel) (fun k hk => by simp only [zlv, Bool.and_eq_true, decide_eq_true_eq] at hk; omega)
theorem zcl_29 : zcl (zlv 29 4) := zcl_of (by decide +kernel) (fun k hk => by simp only [zlv, Bool.and_eq_true, decide_eq_true_eq] at hk; omega)
theorem zcl_33 : zcl (zlv 33 4) := zcl_of (by decide +kernel) (fun k hk => by simp only [zlv, Bool.and_eq_true, decide_eq_true_eq] at hk; omega)
theorem zcl_37 : zcl (zlv 37 8) := zcl_of (by decide +kernel) (fun k hk => by simp only [zlv, Bool.and_eq_true, decide_eq_true_eq] at hk; omega)
theorem zcl_45 : zcl (zlv 45 8) := zcl_of (by decide +kernel) (fun k hk => by simp only [zlv, Bool.and_eq_true, decide_eq_true_eq] at hk; omega)
theorem zcl_53 : zcl (zlv 53 5) := zcl_of (by decide +kernel) (fun k hk => by simp only [zlv, Bool.and_eq_true, decide_eq_true_eq] at hk; omega)
theorem zcl_58 : zcl (zlv 58 4) := zcl_of (by decide +kernel) (fun k hk => by simp only [zlv, Bool.and_eq_true, decide_eq_true_eq] at hk; omega)
theorem zcl_0 : zcl (zlv 0 62) := zcl_of (by decide +kernel) (fun k hk => by simp only [zlv, Bool.and_eq_true, decide_eq_true_eq] at hk; omega)
theorem nw7_0 : Cond.classLink RX7 7 RX0 ∈ zTs ∧ Cond.instantiable RX0 12 ∈ zTs ∧ Cond.initialized RX0 ∈ zTs := ⟨zTs_at 57 (by decide +kernel) rfl, zTs_at 58 (by decide +kernel) rfl, zTs_at 33 (by decide +kernel) rfl⟩
theorem lkI9 : zLI RX7 9 yX0_init cX0_init 1 := ⟨zTs_at 59 (by decide +kernel) rfl, zTs_at 60 (by decide +kernel) rfl, zTs_at 33 (by decide +kernel) rfl, zTs_at 61 (by decide +kernel) rfl, ⟨rfl, by decide +kernel, by decide +kernel, by decide +kernel⟩, by decide⟩
theorem fe7_10 : zFL RX7 10 RX7 TX7 8 7 0 := ⟨rfl, zinX7, by decide, zTs_at 254 (by decide +kernel) rfl⟩
theorem nw7_1 : Cond.classLink RX7 7 RX0 ∈ zTs ∧ Cond.instantiable RX0 12 ∈ zTs ∧ Cond.initialized RX0 ∈ zTs := ⟨zTs_at 57 (by decide +kernel) rfl, zTs_at 58 (by decide +kernel) rfl, zTs_at 33 (by decide +kernel) rfl⟩
theorem fe7_16 : zFL RX7 16 RX7 TX7 8 7 1 := ⟨rfl, zinX7, by decide, zTs_at 255 (by decide +kernel) rfl⟩
theorem nw19_2 : Cond.classLink RX7 19 RX3 ∈ zTs ∧ Cond.instantiable RX3 4 ∈ zTs ∧ Cond.initialized RX3 ∈ zTs := ⟨zTs_at 121 (by decide +kernel) rfl, zTs_at 122 (by decide +kernel) rfl, zTs_at 35 (by decide +kernel) rfl⟩
theorem lkI21 : zLJ RX7 "QuorumBakery" 21 yX3_init cX3_init 1 := ⟨zTs_at 123 (by decide +kernel) rfl, zTs_at 124 (by decide +kernel) rfl, zTs_at 35 (by decide +kernel) rfl, zTs_at 125 (by decide +kernel) rfl, ⟨rfl, by decide +kernel, by decide +kernel, by decide +kernel⟩, by decide⟩
theorem fe7_22 : zFL RX7 22 RX7 TX7 8 7 2 := ⟨rfl, zinX7, by decide, zTs_at 256 (by decide +kernel) rfl⟩
theorem nw26_3 : Cond.classLink RX7 26 RX6 ∈ zTs ∧ Cond.instantiable RX6 3 ∈ zTs ∧ Cond.initialized RX6 ∈ zTs := ⟨zTs_at 144 (by decide +kernel) rfl, zTs_at 145 (by decide +kernel) rfl, zTs_at 36 (by decide +kernel) rfl⟩
theorem lkI28 : zLJ RX7 "QuorumBakery" 28 yX6_init cX6_init 1 := ⟨zTs_at 146 (by decide +kernel) rfl, zTs_at 147 (by decide +kernel) rfl, zTs_at 36 (by decide +kernel) rfl, zTs_at 148 (by decide +kernel) rfl, ⟨rfl, by decide +kernel, by decide +kernel, by decide +kernel⟩, by decide⟩
theorem fe7_29 : zFL RX7 29 RX7 TX7 8 7 3 := ⟨rfl, zinX7, by decide, zTs_at 257 (by decide +kernel) rfl⟩
theorem nw33_4 : Cond.classLink RX7 33 RX2 ∈ zTs ∧ Cond.instantiable RX2 4 ∈ zTs ∧ Cond.initialized RX2 ∈ zTs := ⟨zTs_at 163 (by decide +kernel) rfl, zTs_at 164 (by decide +kernel) rfl, zTs_at 37 (by decide +kernel) rfl⟩
theorem lkI35 : zLJ RX7 "QuorumBakery" 35 yX2_init cX2_init 1 := ⟨zTs_at 165 (by decide +kernel) rfl, zTs_at 166 (by decide +kernel) rfl, zTs_at 37 (by decide +kernel) rfl, zTs_at 167 (by decide +kernel) rfl, ⟨rfl, by decide +kernel, by decide +kernel, by decide +kernel⟩, by decide⟩
theorem fe7_36 : zFL RX7 36 RX7 TX7 8 7 4 := ⟨rfl, zinX7, by decide, zTs_at 258 (by decide +kernel) rfl⟩
theorem nw40_5 : Cond.classLink RX7 40 RX4 ∈ zTs ∧ Cond.instantiable RX4 3 ∈ zTs ∧ Cond.initialized RX4 ∈ zTs := ⟨zTs_at 185 (by decide +kernel) rfl, zTs_at 186 (by decide +kernel) rfl, zTs_at 38 (by decide +kernel) rfl⟩
theorem lkI42 : zLI RX7 42 yX4_init cX4_init 2 := ⟨zTs_at 187 (by decide +kernel) rfl, zTs_at 188 (by decide +kernel) rfl, zTs_at 38 (by decide +kernel) rfl, zTs_at 189 (by decide +kernel) rfl, ⟨rfl, by decide +kernel, by decide +kernel, by decide +kernel⟩, by decide⟩
theorem fe7_43 : zFL RX7 43 RX7 TX7 8 7 5 := ⟨rfl, zinX7, by decide, zTs_at 259 (by decide +kernel) rfl⟩
theorem nw47_6 : Cond.classLink RX7 47 RX1 ∈ zTs ∧ Cond.instantiable RX1 5 ∈ zTs ∧ Cond.initialized RX1 ∈ zTs := ⟨zTs_at 204 (by decide +kernel) rfl, zTs_at 205 (by decide +kernel) rfl, zTs_at 39 (by decide +kernel) rfl⟩
theorem lkI49 : zLJ RX7 "QuorumBakery" 49 yX1_init cX1_init 1 := ⟨zTs_at 206 (by decide +kernel) rfl, zTs_at 207 (by decide +kernel) rfl, zTs_at 39 (by decide +kernel) rfl, zTs_at 208 (by decide +kernel) rfl, ⟨rfl, by decide +kernel, by decide +kernel, by decide +kernel⟩, by decide⟩
theorem fe7_50 : zFL RX7 50 RX7 TX7 8 7 6 := ⟨rfl, zinX7, by decide, zTs_at 260 (by decide +kernel) rfl⟩
theorem nw54_7 : Cond.classLink RX7 54 RX5 ∈ zTs ∧ Cond.instantiable RX5 4 ∈ zTs ∧ Cond.initialized RX5 ∈ zTs := ⟨zTs_at 231 (by decide +kernel) rfl, zTs_at 232 (by decide +kernel) rfl, zTs_at 40 (by decide +kernel) rfl⟩
theorem lkI56 : zLJ RX7 "QuorumBakery" 56 yX5_init cX5_init 1 := ⟨zTs_at 233 (by decide +kernel) rfl, zTs_at 234 (by decide +kernel) rfl, zTs_at 40 (by decide +kernel) rfl, zTs_at 235 (by decide +kernel) rfl, ⟨rfl, by decide +kernel, by decide +kernel, by decide +kernel⟩, by decide⟩
theorem fe7_57 : zFL RX7 57 RX7 TX7 8 7 7 := ⟨rfl, zinX7, by decide, zTs_at 261 (by decide +kernel) rfl⟩
theorem zdfd0 : ∀ j, j < 12 → defaultValue (tyX0 j) = vp_V (zdf 0) j := by
  intro j hj
  rcases (show j = 0 ∨ j = 1 ∨ j = 2 ∨ j = 3 ∨ j = 4 ∨ j = 5 ∨ j = 6 ∨ j = 7 ∨ j = 8 ∨ j = 9 ∨ j = 10 ∨ j = 11 by omega) with rfl | rfl | rfl | rfl | rfl | rfl | rfl | rfl | rfl | rfl | rfl | rfl <;> rfl
theorem zdfd1 : ∀ j, j < 5 → defaultValue (tyX1 j) = vp_V (zdf 1) j := by
  intro j hj
  rcases (show j = 0 ∨ j = 1 ∨ j = 2 ∨ j = 3 ∨ j = 4 by omega) with rfl | rfl | rfl | rfl | rfl <;> rfl
theorem zdfd2 : ∀ j, j < 4 → defaultValue (tyX2 j) = vp_V (zdf 2) j := by
  intro j hj
  rcases (show j = 0 ∨ j = 1 ∨ j = 2 ∨ j = 3 by omega) with rfl | rfl | rfl | rfl <;> rfl
theorem zdfd3 : ∀ j, j < 4 → defaultValue (tyX3 j) = vp_V (zdf 3) j := by
  intro j hj
  rcases (show j = 0 ∨ j = 1 ∨ j = 2 ∨ j = 3 by omega) with rfl | rfl | rfl | rfl <;> rfl
theorem zdfd4 : ∀ j, j < 3 → defaultValue (tyX4 j) = vp_V (zdf 4) j := by
  intro j hj
  rcases (show j = 0 ∨ j = 1 ∨ j = 2 by omega) with rfl | rfl | rfl <;> rfl
theorem zdfd5 : ∀ j, j < 4 → defaultValue (tyX5 j) = vp_V (zdf 5) j := by
  intro j hj
  rcases (show j = 0 ∨ j = 1 ∨ j = 2 ∨ j = 3 by omega) with rfl | rfl | rfl | rfl <;> rfl
theorem zdfd6 : ∀ j, j < 3 → defaultValue (tyX6 j) = vp_V (zdf 6) j := by
  intro j hj
  rcases (show j = 0 ∨ j = 1 ∨ j = 2 by omega) with rfl | rfl | rfl <;> rfl
theorem zdfd7 : ∀ j, j < 8 → defaultValue (tyX7 j) = vp_V (zdf 7) j := by
  intro j hj
  rcases (show j = 0 ∨ j = 1 ∨ j = 2 ∨ j = 3 ∨ j = 4 ∨ j = 5 ∨ j = 6 ∨ j = 7 by omega) with rfl | rfl | rfl | rfl | rfl | rfl | rfl | rfl <;> rfl
theorem zh_ao {X : zX} {h0 mc ms : Nat} (hX : zIX X h0 mc ms) : zAO X := by
  obtain ⟨p, e, R, s, m, args, below, meth, c, A, nL', Qf⟩ := X
  exact hX.2.1
set_option maxRecDepth 20000 in
set_option maxHeartbeats 4000000 in
theorem kX7_init {l : Launch} {Z : zZ} (hl : l.stackTraces = false) (d : Nat) : zCt l Z yX7_init cX7_init 1 (d + 3) 61 5314 7 0 62 := by
  refine zCt_of (ad := fun k => k) hl (by decide +kernel) rfl (by decide) (fun h0 X hC hX hNX => ?_)
  refine zh_aload_n hC 0 dX7_init_0 rfl ?_
  refine zh_obj hC dX7_init_1 obX7 obI obC (Nat.le_of_ble_eq_true rfl) ?_
  refine zh_aload_n hC 0 dX7_init_4 rfl ?_
  refine zh_new hC (ci := 0) dX7_init_5 rfl zinX0 tyX0 tyX0_ok nw7_0.1 nw7_0.2.1 nw7_0.2.2 zdfd0 (zh_room hX (by decide)) (fun q1 => ?_)
  refine zh_dup hC dX7_init_8 rfl ?_
  refine zh_ctorI hC (zh_ao hX) (ws0 := [(h0, .inr (7, [.null, .null, .null, .null, .null, .null, .null, .null]))]) (kX0_init_1 hl d) lkI9 dX7_init_9 (Nat.le_of_ble_eq_true rfl) (zh_room hX (by decide)) rfl zcl_1 (by decide) zcl_no (fun k hk => by cases hk) (fun k hk => by cases hk) (by decide) (fun a1 e1 => ?_)
  refine zh_put hC (zh_in hX) (p0 := 0) (a := h0) (v := .ref q1) (fs := [.null, .null, .null, .null, .null, .null, .null, .null]) (ws := [(h0, .inr (7, [.null, .null, .null, .null, .null, .null, .null, .null]))]) (ty := .object "QuorumBakery$Agreement") (ws' := [(h0, .inr (7, [.ref q1, .null, .null, .null, .null, .null, .null, .null]))]) fe7_10 dX7_init_12 ⟨tyX7, tyX7_ok⟩ nmX7 rfl rfl (by decide +kernel) rfl rfl rfl rfl rfl ?_
  refine zh_aload_n hC 0 dX7_init_15 rfl ?_
  refine zh_new hC (ci := 0) dX7_init_16 rfl zinX0 tyX0 tyX0_ok nw7_1.1 nw7_1.2.1 nw7_1.2.2 zdfd0 (zh_room hX (by decide)) (fun q2 => ?_)
  refine zh_dup hC dX7_init_19 rfl ?_
  refine zh_ctorI hC (zh_ao hX) (ws0 := [(h0, .inr (7, [.ref q1, .null, .null, .null, .null, .null, .null, .null]))]) (kX0_init_15 hl d) lkI9 dX7_init_20 (Nat.le_of_ble_eq_true rfl) (zh_room hX (by decide)) rfl zcl_15 (by decide) (zcl_or zcl_1 zcl_no) (fun k hk => by simp only [zor, zlv, zno, Bool.and_eq_true, Bool.or_eq_true, decide_eq_true_eq, Bool.false_eq_true, or_false] at hk; omega) (fun k hk => by simp only [zor, zlv, zno, Bool.and_eq_true, Bool.or_eq_true, decide_eq_true_eq, Bool.false_eq_true, or_false] at hk; simp only [zlv, Bool.and_eq_false_iff, decide_eq_false_iff_not]; omega) (by decide) (fun a2 e2 => ?_)
  refine zh_put hC (zh_in hX) (p0 := 0) (a := h0) (v := .ref q2) (fs := [.ref q1, .null, .null, .null, .null, .null, .null, .null]) (ws := [(h0, .inr (7, [.ref q1, .null, .null, .null, .null, .null, .null, .null]))]) (ty := .object "QuorumBakery$Agreement") (ws' := [(h0, .inr (7, [.ref q1, .ref q2, .null, .null, .null, .null, .null, .null]))]) fe7_16 dX7_init_23 ⟨tyX7, tyX7_ok⟩ nmX7 rfl rfl (by decide +kernel) rfl rfl rfl rfl rfl ?_
  refine zh_aload_n hC 0 dX7_init_26 rfl ?_
  refine zh_new hC (ci := 3) dX7_init_27 rfl zinX3 tyX3 tyX3_ok nw19_2.1 nw19_2.2.1 nw19_2.2.2 zdfd3 (zh_room hX (by decide)) (fun q3 => ?_)
  refine zh_dup hC dX7_init_30 rfl ?_
  refine zh_ctorN hC (zh_ao hX) (ws0 := [(h0, .inr (7, [.ref q1, .ref q2, .null, .null, .null, .null, .null, .null]))]) (kX3_init hl (d + 1)) lkI21 dX7_init_31 (Nat.le_of_ble_eq_true rfl) (zh_room hX (by decide)) rfl zcl_29 (by decide) (zcl_or zcl_15 (zcl_or zcl_1 zcl_no)) (fun k hk => by simp only [zor, zlv, zno, Bool.and_eq_true, Bool.or_eq_true, decide_eq_true_eq, Bool.false_eq_true, or_false] at hk; omega) (fun k hk => by simp only [zor, zlv, zno, Bool.and_eq_true, Bool.or_eq_true, decide_eq_true_eq, Bool.false_eq_true, or_false] at hk; simp only [zlv, Bool.and_eq_false_iff, decide_eq_false_iff_not]; omega) (by decide) (fun a3 e3 => ?_)
  refine zh_put hC (zh_in hX) (p0 := 0) (a := h0) (v := .ref q3) (fs := [.ref q1, .ref q2, .null, .null, .null, .null, .null, .null]) (ws := [(h0, .inr (7, [.ref q1, .ref q2, .null, .null, .null, .null, .null, .null]))]) (ty := .object "QuorumBakery$History") (ws' := [(h0, .inr (7, [.ref q1, .ref q2, .ref q3, .null, .null, .null, .null, .null]))]) fe7_22 dX7_init_34 ⟨tyX7, tyX7_ok⟩ nmX7 rfl rfl (by decide +kernel) rfl rfl rfl rfl rfl ?_
  refine zh_aload_n hC 0 dX7_init_37 rfl ?_
  refine zh_new hC (ci := 6) dX7_init_38 rfl zinX6 tyX6 tyX6_ok nw26_3.1 nw26_3.2.1 nw26_3.2.2 zdfd6 (zh_room hX (by decide)) (fun q4 => ?_)
  refine zh_dup hC dX7_init_41 rfl ?_
  refine zh_ctorN hC (zh_ao hX) (ws0 := [(h0, .inr (7, [.ref q1, .ref q2, .ref q3, .null, .null, .null, .null, .null]))]) (kX6_init hl (d + 1)) lkI28 dX7_init_42 (Nat.le_of_ble_eq_true rfl) (zh_room hX (by decide)) rfl zcl_33 (by decide) (zcl_or zcl_29 (zcl_or zcl_15 (zcl_or zcl_1 zcl_no))) (fun k hk => by simp only [zor, zlv, zno, Bool.and_eq_true, Bool.or_eq_true, decide_eq_true_eq, Bool.false_eq_true, or_false] at hk; omega) (fun k hk => by simp only [zor, zlv, zno, Bool.and_eq_true, Bool.or_eq_true, decide_eq_true_eq, Bool.false_eq_true, or_false] at hk; simp only [zlv, Bool.and_eq_false_iff, decide_eq_false_iff_not]; omega) (by decide) (fun a4 e4 => ?_)
  refine zh_put hC (zh_in hX) (p0 := 0) (a := h0) (v := .ref q4) (fs := [.ref q1, .ref q2, .ref q3, .null, .null, .null, .null, .null]) (ws := [(h0, .inr (7, [.ref q1, .ref q2, .ref q3, .null, .null, .null, .null, .null]))]) (ty := .object "QuorumBakery$Recipes") (ws' := [(h0, .inr (7, [.ref q1, .ref q2, .ref q3, .ref q4, .null, .null, .null, .null]))]) fe7_29 dX7_init_45 ⟨tyX7, tyX7_ok⟩ nmX7 rfl rfl (by decide +kernel) rfl rfl rfl rfl rfl ?_
  refine zh_aload_n hC 0 dX7_init_48 rfl ?_
  refine zh_new hC (ci := 2) dX7_init_49 rfl zinX2 tyX2 tyX2_ok nw33_4.1 nw33_4.2.1 nw33_4.2.2 zdfd2 (zh_room hX (by decide)) (fun q5 => ?_)
  refine zh_dup hC dX7_init_52 rfl ?_
  refine zh_ctorN hC (zh_ao hX) (ws0 := [(h0, .inr (7, [.ref q1, .ref q2, .ref q3, .ref q4, .null, .null, .null, .null]))]) (kX2_init hl (d + 1)) lkI35 dX7_init_53 (Nat.le_of_ble_eq_true rfl) (zh_room hX (by decide)) rfl zcl_37 (by decide) (zcl_or zcl_33 (zcl_or zcl_29 (zcl_or zcl_15 (zcl_or zcl_1 zcl_no)))) (fun k hk => by simp only [zor, zlv, zno, Bool.and_eq_true, Bool.or_eq_true, decide_eq_true_eq, Bool.false_eq_true, or_false] at hk; omega) (fun k hk => by simp only [zor, zlv, zno, Bool.and_eq_true, Bool.or_eq_true, decide_eq_true_eq, Bool.false_eq_true, or_false] at hk; simp only [zlv, Bool.and_eq_false_iff, decide_eq_false_iff_not]; omega) (by decide) (fun a5 e5 => ?_)
  refine zh_put hC (zh_in hX) (p0 := 0) (a := h0) (v := .ref q5) (fs := [.ref q1, .ref q2, .ref q3, .ref q4, .null, .null, .null, .null]) (ws := [(h0, .inr (7, [.ref q1, .ref q2, .ref q3, .ref q4, .null, .null, .null, .null]))]) (ty := .object "QuorumBakery$Flour") (ws' := [(h0, .inr (7, [.ref q1, .ref q2, .ref q3, .ref q4, .ref q5, .null, .null, .null]))]) fe7_36 dX7_init_56 ⟨tyX7, tyX7_ok⟩ nmX7 rfl rfl (by decide +kernel) rfl rfl rfl rfl rfl ?_
  refine zh_aload_n hC 0 dX7_init_59 rfl ?_
  refine zh_new hC (ci := 4) dX7_init_60 rfl zinX4 tyX4 tyX4_ok nw40_5.1 nw40_5.2.1 nw40_5.2.2 zdfd4 (zh_room hX (by decide)) (fun q6 => ?_)
  refine zh_dup hC dX7_init_63 rfl ?_
  refine zh_ctorI hC (zh_ao hX) (ws0 := [(h0, .inr (7, [.ref q1, .ref q2, .ref q3, .ref q4, .ref q5, .null, .null, .null]))]) (kX4_init hl (d + 1)) lkI42 dX7_init_64 (Nat.le_of_ble_eq_true rfl) (zh_room hX (by decide)) rfl zcl_45 (by decide) (zcl_or zcl_37 (zcl_or zcl_33 (zcl_or zcl_29 (zcl_or zcl_15 (zcl_or zcl_1 zcl_no))))) (fun k hk => by simp only [zor, zlv, zno, Bool.and_eq_true, Bool.or_eq_true, decide_eq_true_eq, Bool.false_eq_true, or_false] at hk; omega) (fun k hk => by simp only [zor, zlv, zno, Bool.and_eq_true, Bool.or_eq_true, decide_eq_true_eq, Bool.false_eq_true, or_false] at hk; simp only [zlv, Bool.and_eq_false_iff, decide_eq_false_iff_not]; omega) (by decide) (fun a6 e6 => ?_)
  refine zh_put hC (zh_in hX) (p0 := 0) (a := h0) (v := .ref q6) (fs := [.ref q1, .ref q2, .ref q3, .ref q4, .ref q5, .null, .null, .null]) (ws := [(h0, .inr (7, [.ref q1, .ref q2, .ref q3, .ref q4, .ref q5, .null, .null, .null]))]) (ty := .object "QuorumBakery$Ovens") (ws' := [(h0, .inr (7, [.ref q1, .ref q2, .ref q3, .ref q4, .ref q5, .ref q6, .null, .null]))]) fe7_43 dX7_init_67 ⟨tyX7, tyX7_ok⟩ nmX7 rfl rfl (by decide +kernel) rfl rfl rfl rfl rfl ?_
  refine zh_aload_n hC 0 dX7_init_70 rfl ?_
  refine zh_new hC (ci := 1) dX7_init_71 rfl zinX1 tyX1 tyX1_ok nw47_6.1 nw47_6.2.1 nw47_6.2.2 zdfd1 (zh_room hX (by decide)) (fun q7 => ?_)
  refine zh_dup hC dX7_init_74 rfl ?_
  refine zh_ctorN hC (zh_ao hX) (ws0 := [(h0, .inr (7, [.ref q1, .ref q2, .ref q3, .ref q4, .ref q5, .ref q6, .null, .null]))]) (kX1_init hl (d + 1)) lkI49 dX7_init_75 (Nat.le_of_ble_eq_true rfl) (zh_room hX (by decide)) rfl zcl_53 (by decide) (zcl_or zcl_45 (zcl_or zcl_37 (zcl_or zcl_33 (zcl_or zcl_29 (zcl_or zcl_15 (zcl_or zcl_1 zcl_no)))))) (fun k hk => by simp only [zor, zlv, zno, Bool.and_eq_true, Bool.or_eq_true, decide_eq_true_eq, Bool.false_eq_true, or_false] at hk; omega) (fun k hk => by simp only [zor, zlv, zno, Bool.and_eq_true, Bool.or_eq_true, decide_eq_true_eq, Bool.false_eq_true, or_false] at hk; simp only [zlv, Bool.and_eq_false_iff, decide_eq_false_iff_not]; omega) (by decide) (fun a7 e7 => ?_)
  refine zh_put hC (zh_in hX) (p0 := 0) (a := h0) (v := .ref q7) (fs := [.ref q1, .ref q2, .ref q3, .ref q4, .ref q5, .ref q6, .null, .null]) (ws := [(h0, .inr (7, [.ref q1, .ref q2, .ref q3, .ref q4, .ref q5, .ref q6, .null, .null]))]) (ty := .object "QuorumBakery$Batches") (ws' := [(h0, .inr (7, [.ref q1, .ref q2, .ref q3, .ref q4, .ref q5, .ref q6, .ref q7, .null]))]) fe7_50 dX7_init_78 ⟨tyX7, tyX7_ok⟩ nmX7 rfl rfl (by decide +kernel) rfl rfl rfl rfl rfl ?_
  refine zh_aload_n hC 0 dX7_init_81 rfl ?_
  refine zh_new hC (ci := 5) dX7_init_82 rfl zinX5 tyX5 tyX5_ok nw54_7.1 nw54_7.2.1 nw54_7.2.2 zdfd5 (zh_room hX (by decide)) (fun q8 => ?_)
  refine zh_dup hC dX7_init_85 rfl ?_
  refine zh_ctorN hC (zh_ao hX) (ws0 := [(h0, .inr (7, [.ref q1, .ref q2, .ref q3, .ref q4, .ref q5, .ref q6, .ref q7, .null]))]) (kX5_init hl (d + 1)) lkI56 dX7_init_86 (Nat.le_of_ble_eq_true rfl) (zh_room hX (by decide)) rfl zcl_58 (by decide) (zcl_or zcl_53 (zcl_or zcl_45 (zcl_or zcl_37 (zcl_or zcl_33 (zcl_or zcl_29 (zcl_or zcl_15 (zcl_or zcl_1 zcl_no))))))) (fun k hk => by simp only [zor, zlv, zno, Bool.and_eq_true, Bool.or_eq_true, decide_eq_true_eq, Bool.false_eq_true, or_false] at hk; omega) (fun k hk => by simp only [zor, zlv, zno, Bool.and_eq_true, Bool.or_eq_true, decide_eq_true_eq, Bool.false_eq_true, or_false] at hk; simp only [zlv, Bool.and_eq_false_iff, decide_eq_false_iff_not]; omega) (by decide) (fun a8 e8 => ?_)
  refine zh_put hC (zh_in hX) (p0 := 0) (a := h0) (v := .ref q8) (fs := [.ref q1, .ref q2, .ref q3, .ref q4, .ref q5, .ref q6, .ref q7, .null]) (ws := [(h0, .inr (7, [.ref q1, .ref q2, .ref q3, .ref q4, .ref q5, .ref q6, .ref q7, .null]))]) (ty := .object "QuorumBakery$Recalls") (ws' := [(h0, .inr (7, [.ref q1, .ref q2, .ref q3, .ref q4, .ref q5, .ref q6, .ref q7, .ref q8]))]) fe7_57 dX7_init_89 ⟨tyX7, tyX7_ok⟩ nmX7 rfl rfl (by decide +kernel) rfl rfl rfl rfl rfl ?_
  refine zh_ret hC hX dX7_init_92 rfl (fun sz H hW hlt => ?_)
  generalize hAe : (zmg (zlv 58 4) a8 (zmg (zlv 53 5) a7 (zmg (zlv 45 8) a6 (zmg (zlv 37 8) a5 (zmg (zlv 33 4) a4 (zmg (zlv 29 4) a3 (zmg (zlv 15 14) a2 (zmg (zlv 1 14) a1 (fun k => k))))))))) = A at hW
  have g1 : A 1 = q1 := by rw [← hAe]; exact e1
  have g2 : A 15 = q2 := by rw [← hAe]; exact e2
  have g3 : A 29 = q3 := by rw [← hAe]; exact e3
  have g4 : A 33 = q4 := by rw [← hAe]; exact e4
  have g5 : A 37 = q5 := by rw [← hAe]; exact e5
  have g6 : A 45 = q6 := by rw [← hAe]; exact e6
  have g7 : A 53 = q7 := by rw [← hAe]; exact e7
  have g8 : A 58 = q8 := by rw [← hAe]; exact e8
  have hlv : ∀ k, 0 < k → k < 62 → (zor (zlv 58 4) (zor (zlv 53 5) (zor (zlv 45 8) (zor (zlv 37 8) (zor (zlv 33 4) (zor (zlv 29 4) (zor (zlv 15 14) (zor (zlv 1 14) zno)))))))) k = true := by
    intro k h1 h2
    simp only [zor, zlv, zno, Bool.and_eq_true, Bool.or_eq_true, decide_eq_true_eq, Bool.false_eq_true, or_false]
    omega
  refine ⟨fun k => if k = 0 then h0 else A k, if_pos rfl, fun k h1 h2 => ?_, fun k hk => ?_, fun i j hi hj hij => ?_⟩
  · show sz ≤ (if k = 0 then h0 else A k)
    rw [if_neg (by omega)]
    obtain ⟨h3, h4⟩ := hW.2.2.2 k (hlv k h1 (by omega))
    rcases h3 with h3 | h3
    · exact absurd h3.symm (h4 0 _ rfl)
    · exact h3
  · simp only [zlv, Bool.and_eq_true, decide_eq_true_eq] at hk
    by_cases h : k = 0
    · subst h
      show va_at Z.1 vwCl (h0, .inr (7, [.ref (A 1), .ref (A 15), .ref (A 29), .ref (A 33), .ref (A 37), .ref (A 45), .ref (A 53), .ref (A 58)])) H
      rw [g1, g2, g3, g4, g5, g6, g7, g8]
      exact hW.1 0 _ rfl
    · show va_at Z.1 vwCl ((if k = 0 then h0 else A k), _) H
      rw [if_neg h, zE_congr (ad' := A) (by omega) (fun c hc => if_neg (zch_pos k (by omega) c hc))]
      exact hW.2.2.1.1 k (hlv k (by omega) (by omega))
  · simp only [zlv, Bool.and_eq_true, decide_eq_true_eq] at hi hj
    dsimp only at hij
    by_cases h1 : i = 0 <;> by_cases h2 : j = 0
    · omega
    · rw [if_pos h1, if_neg h2] at hij
      exact absurd hij ((hW.2.2.2 j (hlv j (by omega) (by omega))).2 0 _ rfl)
    · rw [if_neg h1, if_pos h2] at hij
      exact absurd hij.symm ((hW.2.2.2 i (hlv i (by omega) (by omega))).2 0 _ rfl)
    · rw [if_neg h1, if_neg h2] at hij
      exact hW.2.2.1.2 i j (hlv i (by omega) (by omega)) (hlv j (by omega) (by omega)) hij
