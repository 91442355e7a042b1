set_option maxRecDepth 20000 in
set_option maxHeartbeats 4000000 in
theorem kX1_init {l : Launch} {Z : zZ} (hl : l.stackTraces = false) (d : Nat) : zCt l Z yX1_init cX1_init 1 (d + 1) 4 240 1 53 5 := by
  refine zCt_of (ad := fun k => k) hl (by decide +kernel) rfl (by decide) (fun h0 X hC hX hNX => ?_)
  refine zh_aload_n hC 0 dX1_init_0 rfl ?_
  refine zh_obj hC dX1_init_1 obX1 obI obC (Nat.le_of_ble_eq_true rfl) ?_
  refine zh_aload_n hC 0 dX1_init_4 rfl ?_
  refine zh_bipush hC (v := 60) dX1_init_5 (by decide) ?_
  refine zh_newI hC (N' := 60) dX1_init_7 arrI (by decide) (by decide) (by decide) (zh_room hX (by decide)) (fun q1 => ?_)
  refine zh_put hC (zh_in hX) (p0 := 0) (ty := .array .int) (ws' := [(h0, .inr (1, [.int 0, .ref q1, .null, .null, .null])), (q1, .inl (Z.2.1, 60, .inl (fun _ => 0)))]) feX1_9 dX1_init_9 ⟨tyX1, tyX1_ok⟩ nmX1 rfl rfl (by decide +kernel) rfl rfl rfl rfl rfl ?_
  refine zh_aload_n hC 0 dX1_init_12 rfl ?_
  refine zh_bipush hC (v := 60) dX1_init_13 (by decide) ?_
  refine zh_newI hC (N' := 60) dX1_init_15 arrI (by decide) (by decide) (by decide) (zh_room hX (by decide)) (fun q2 => ?_)
  refine zh_put hC (zh_in hX) (p0 := 0) (ty := .array .int) (ws' := [(h0, .inr (1, [.int 0, .ref q1, .ref q2, .null, .null])), (q1, .inl (Z.2.1, 60, .inl (fun _ => 0))), (q2, .inl (Z.2.1, 60, .inl (fun _ => 0)))]) feX1_15 dX1_init_17 ⟨tyX1, tyX1_ok⟩ nmX1 rfl rfl (by decide +kernel) rfl rfl rfl rfl rfl ?_
  refine zh_aload_n hC 0 dX1_init_20 rfl ?_
  refine zh_bipush hC (v := 60) dX1_init_21 (by decide) ?_
  refine zh_newI hC (N' := 60) dX1_init_23 arrI (by decide) (by decide) (by decide) (zh_room hX (by decide)) (fun q3 => ?_)
  refine zh_put hC (zh_in hX) (p0 := 0) (ty := .array .int) (ws' := [(h0, .inr (1, [.int 0, .ref q1, .ref q2, .ref q3, .null])), (q1, .inl (Z.2.1, 60, .inl (fun _ => 0))), (q2, .inl (Z.2.1, 60, .inl (fun _ => 0))), (q3, .inl (Z.2.1, 60, .inl (fun _ => 0)))]) feX1_18 dX1_init_25 ⟨tyX1, tyX1_ok⟩ nmX1 rfl rfl (by decide +kernel) rfl rfl rfl rfl rfl ?_
  refine zh_aload_n hC 0 dX1_init_28 rfl ?_
  refine zh_bipush hC (v := 60) dX1_init_29 (by decide) ?_
  refine zh_newI hC (N' := 60) dX1_init_31 arrI (by decide) (by decide) (by decide) (zh_room hX (by decide)) (fun q4 => ?_)
  refine zh_put hC (zh_in hX) (p0 := 0) (ty := .array .int) (ws' := [(h0, .inr (1, [.int 0, .ref q1, .ref q2, .ref q3, .ref q4])), (q1, .inl (Z.2.1, 60, .inl (fun _ => 0))), (q2, .inl (Z.2.1, 60, .inl (fun _ => 0))), (q3, .inl (Z.2.1, 60, .inl (fun _ => 0))), (q4, .inl (Z.2.1, 60, .inl (fun _ => 0)))]) feX1_21 dX1_init_33 ⟨tyX1, tyX1_ok⟩ nmX1 rfl rfl (by decide +kernel) rfl rfl rfl rfl rfl ?_
  refine zh_ret hC hX dX1_init_36 rfl (fun sz H hW hlt => ?_)
  refine zIR_of (o := 53) (n := 5) (M := zM0) hW rfl rfl (fun i hi => ?_)
  rcases (show i = 0 ∨ i = 1 ∨ i = 2 ∨ i = 3 ∨ i = 4 by omega) with rfl | rfl | rfl | rfl | rfl
  · exact hW.1 0 _ rfl
  · exact hW.1 1 _ rfl
  · exact hW.1 2 _ rfl
  · exact hW.1 3 _ rfl
  · exact hW.1 4 _ rfl

set_option maxRecDepth 20000 in
set_option maxHeartbeats 4000000 in
theorem kX3_init {l : Launch} {Z : zZ} (hl : l.stackTraces = false) (d : Nat) : zCt l Z yX3_init cX3_init 1 (d + 1) 3 1536 3 29 4 := by
  refine zCt_of (ad := fun k => k) hl (by decide +kernel) rfl (by decide) (fun h0 X hC hX hNX => ?_)
  refine zh_aload_n hC 0 dX3_init_0 rfl ?_
  refine zh_obj hC dX3_init_1 obX3 obI obC (Nat.le_of_ble_eq_true rfl) ?_
  refine zh_aload_n hC 0 dX3_init_4 rfl ?_
  refine zh_sipush hC (v := 512) dX3_init_5 (by decide) ?_
  refine zh_newI hC (N' := 512) dX3_init_8 arrI (by decide) (by decide) (by decide) (zh_room hX (by decide)) (fun q1 => ?_)
  refine zh_put hC (zh_in hX) (p0 := 0) (ty := .array .int) (ws' := [(h0, .inr (3, [.int 0, .ref q1, .null, .null])), (q1, .inl (Z.2.1, 512, .inl (fun _ => 0)))]) feX3_9 dX3_init_10 ⟨tyX3, tyX3_ok⟩ nmX3 rfl rfl (by decide +kernel) rfl rfl rfl rfl rfl ?_
  refine zh_aload_n hC 0 dX3_init_13 rfl ?_
  refine zh_sipush hC (v := 512) dX3_init_14 (by decide) ?_
  refine zh_newI hC (N' := 512) dX3_init_17 arrI (by decide) (by decide) (by decide) (zh_room hX (by decide)) (fun q2 => ?_)
  refine zh_put hC (zh_in hX) (p0 := 0) (ty := .array .int) (ws' := [(h0, .inr (3, [.int 0, .ref q1, .ref q2, .null])), (q1, .inl (Z.2.1, 512, .inl (fun _ => 0))), (q2, .inl (Z.2.1, 512, .inl (fun _ => 0)))]) feX3_15 dX3_init_19 ⟨tyX3, tyX3_ok⟩ nmX3 rfl rfl (by decide +kernel) rfl rfl rfl rfl rfl ?_
  refine zh_aload_n hC 0 dX3_init_22 rfl ?_
  refine zh_sipush hC (v := 512) dX3_init_23 (by decide) ?_
  refine zh_newI hC (N' := 512) dX3_init_26 arrI (by decide) (by decide) (by decide) (zh_room hX (by decide)) (fun q3 => ?_)
  refine zh_put hC (zh_in hX) (p0 := 0) (ty := .array .int) (ws' := [(h0, .inr (3, [.int 0, .ref q1, .ref q2, .ref q3])), (q1, .inl (Z.2.1, 512, .inl (fun _ => 0))), (q2, .inl (Z.2.1, 512, .inl (fun _ => 0))), (q3, .inl (Z.2.1, 512, .inl (fun _ => 0)))]) feX3_18 dX3_init_28 ⟨tyX3, tyX3_ok⟩ nmX3 rfl rfl (by decide +kernel) rfl rfl rfl rfl rfl ?_
  refine zh_ret hC hX dX3_init_31 rfl (fun sz H hW hlt => ?_)
  refine zIR_of (o := 29) (n := 4) (M := zM0) hW rfl rfl (fun i hi => ?_)
  rcases (show i = 0 ∨ i = 1 ∨ i = 2 ∨ i = 3 by omega) with rfl | rfl | rfl | rfl
  · exact hW.1 0 _ rfl
  · exact hW.1 1 _ rfl
  · exact hW.1 2 _ rfl
  · exact hW.1 3 _ rfl

set_option maxRecDepth 20000 in
set_option maxHeartbeats 4000000 in
theorem kX5_init {l : Launch} {Z : zZ} (hl : l.stackTraces = false) (d : Nat) : zCt l Z yX5_init cX5_init 1 (d + 1) 3 1536 5 58 4 := by
  refine zCt_of (ad := fun k => k) hl (by decide +kernel) rfl (by decide) (fun h0 X hC hX hNX => ?_)
  refine zh_aload_n hC 0 dX5_init_0 rfl ?_
  refine zh_obj hC dX5_init_1 obX5 obI obC (Nat.le_of_ble_eq_true rfl) ?_
  refine zh_aload_n hC 0 dX5_init_4 rfl ?_
  refine zh_sipush hC (v := 512) dX5_init_5 (by decide) ?_
  refine zh_newI hC (N' := 512) dX5_init_8 arrI (by decide) (by decide) (by decide) (zh_room hX (by decide)) (fun q1 => ?_)
  refine zh_put hC (zh_in hX) (p0 := 0) (ty := .array .int) (ws' := [(h0, .inr (5, [.int 0, .ref q1, .null, .null])), (q1, .inl (Z.2.1, 512, .inl (fun _ => 0)))]) feX5_9 dX5_init_10 ⟨tyX5, tyX5_ok⟩ nmX5 rfl rfl (by decide +kernel) rfl rfl rfl rfl rfl ?_
  refine zh_aload_n hC 0 dX5_init_13 rfl ?_
  refine zh_sipush hC (v := 512) dX5_init_14 (by decide) ?_
  refine zh_newI hC (N' := 512) dX5_init_17 arrI (by decide) (by decide) (by decide) (zh_room hX (by decide)) (fun q2 => ?_)
  refine zh_put hC (zh_in hX) (p0 := 0) (ty := .array .int) (ws' := [(h0, .inr (5, [.int 0, .ref q1, .ref q2, .null])), (q1, .inl (Z.2.1, 512, .inl (fun _ => 0))), (q2, .inl (Z.2.1, 512, .inl (fun _ => 0)))]) feX5_15 dX5_init_19 ⟨tyX5, tyX5_ok⟩ nmX5 rfl rfl (by decide +kernel) rfl rfl rfl rfl rfl ?_
  refine zh_aload_n hC 0 dX5_init_22 rfl ?_
  refine zh_sipush hC (v := 512) dX5_init_23 (by decide) ?_
  refine zh_newI hC (N' := 512) dX5_init_26 arrI (by decide) (by decide) (by decide) (zh_room hX (by decide)) (fun q3 => ?_)
  refine zh_put hC (zh_in hX) (p0 := 0) (ty := .array .int) (ws' := [(h0, .inr (5, [.int 0, .ref q1, .ref q2, .ref q3])), (q1, .inl (Z.2.1, 512, .inl (fun _ => 0))), (q2, .inl (Z.2.1, 512, .inl (fun _ => 0))), (q3, .inl (Z.2.1, 512, .inl (fun _ => 0)))]) feX5_18 dX5_init_28 ⟨tyX5, tyX5_ok⟩ nmX5 rfl rfl (by decide +kernel) rfl rfl rfl rfl rfl ?_
  refine zh_ret hC hX dX5_init_31 rfl (fun sz H hW hlt => ?_)
  refine zIR_of (o := 58) (n := 4) (M := zM0) hW rfl rfl (fun i hi => ?_)
  rcases (show i = 0 ∨ i = 1 ∨ i = 2 ∨ i = 3 by omega) with rfl | rfl | rfl | rfl
  · exact hW.1 0 _ rfl
  · exact hW.1 1 _ rfl
  · exact hW.1 2 _ rfl
  · exact hW.1 3 _ rfl

set_option maxRecDepth 20000 in
set_option maxHeartbeats 4000000 in
theorem kX6_init {l : Launch} {Z : zZ} (hl : l.stackTraces = false) (d : Nat) : zCt l Z yX6_init cX6_init 1 (d + 1) 3 180 6 33 4 := by
  refine zCt_of (ad := fun k => k) hl (by decide +kernel) rfl (by decide) (fun h0 X hC hX hNX => ?_)
  refine zh_aload_n hC 0 dX6_init_0 rfl ?_
  refine zh_obj hC dX6_init_1 obX6 obI obC (Nat.le_of_ble_eq_true rfl) ?_
  refine zh_aload_n hC 0 dX6_init_4 rfl ?_
  refine zh_bipush hC (v := 60) dX6_init_5 (by decide) ?_
  refine zh_newI hC (N' := 60) dX6_init_7 arrI (by decide) (by decide) (by decide) (zh_room hX (by decide)) (fun q1 => ?_)
  refine zh_put hC (zh_in hX) (p0 := 0) (ty := .array .int) (ws' := [(h0, .inr (6, [.ref q1, .null, .null])), (q1, .inl (Z.2.1, 60, .inl (fun _ => 0)))]) feX6_9 dX6_init_9 ⟨tyX6, tyX6_ok⟩ nmX6 rfl rfl (by decide +kernel) rfl rfl rfl rfl rfl ?_
  refine zh_aload_n hC 0 dX6_init_12 rfl ?_
  refine zh_bipush hC (v := 60) dX6_init_13 (by decide) ?_
  refine zh_newI hC (N' := 60) dX6_init_15 arrI (by decide) (by decide) (by decide) (zh_room hX (by decide)) (fun q2 => ?_)
  refine zh_put hC (zh_in hX) (p0 := 0) (ty := .array .int) (ws' := [(h0, .inr (6, [.ref q1, .ref q2, .null])), (q1, .inl (Z.2.1, 60, .inl (fun _ => 0))), (q2, .inl (Z.2.1, 60, .inl (fun _ => 0)))]) feX6_15 dX6_init_17 ⟨tyX6, tyX6_ok⟩ nmX6 rfl rfl (by decide +kernel) rfl rfl rfl rfl rfl ?_
  refine zh_aload_n hC 0 dX6_init_20 rfl ?_
  refine zh_bipush hC (v := 60) dX6_init_21 (by decide) ?_
  refine zh_newI hC (N' := 60) dX6_init_23 arrI (by decide) (by decide) (by decide) (zh_room hX (by decide)) (fun q3 => ?_)
  refine zh_put hC (zh_in hX) (p0 := 0) (ty := .array .int) (ws' := [(h0, .inr (6, [.ref q1, .ref q2, .ref q3])), (q1, .inl (Z.2.1, 60, .inl (fun _ => 0))), (q2, .inl (Z.2.1, 60, .inl (fun _ => 0))), (q3, .inl (Z.2.1, 60, .inl (fun _ => 0)))]) feX6_18 dX6_init_25 ⟨tyX6, tyX6_ok⟩ nmX6 rfl rfl (by decide +kernel) rfl rfl rfl rfl rfl ?_
  refine zh_ret hC hX dX6_init_28 rfl (fun sz H hW hlt => ?_)
  refine zIR_of (o := 33) (n := 4) (M := zM0) hW rfl rfl (fun i hi => ?_)
  rcases (show i = 0 ∨ i = 1 ∨ i = 2 ∨ i = 3 by omega) with rfl | rfl | rfl | rfl
  · exact hW.1 0 _ rfl
  · exact hW.1 1 _ rfl
  · exact hW.1 2 _ rfl
  · exact hW.1 3 _ rfl

set_option maxRecDepth 20000 in
set_option maxHeartbeats 4000000 in
theorem kX2_init {l : Launch} {Z : zZ} (hl : l.stackTraces = false) (d : Nat) : zCt l Z yX2_init cX2_init 1 (d + 1) 7 1010 2 37 8 := by
  refine zCt_of (ad := fun k => k) hl (by decide +kernel) rfl (by decide) (fun h0 X hC hX hNX => ?_)
  refine zh_aload_n hC 0 dX2_init_0 rfl ?_
  refine zh_obj hC dX2_init_1 obX2 obI obC (Nat.le_of_ble_eq_true rfl) ?_
  refine zh_aload_n hC 0 dX2_init_4 rfl ?_
  refine zh_iconst hC (v := 5) dX2_init_5 (by decide) ?_
  refine zh_sipush hC (v := 200) dX2_init_6 (by decide) ?_
  refine zh_mna hC hX (K' := 200) dX2_init_9 mcX2_9 arrI (by decide) (by decide) (by decide) (by decide) (fun q1 r1 => ?_)
  refine zh_put hC (zh_in hX) (p0 := 0) (ty := .array (.array .int)) (ws' := [(h0, .inr (2, [.int 0, .int 0, .ref q1, .null])), (q1, .inl (Z.2.2.2, 5, .inr (.inr (.inr (.inr (fun i => if i < 5 then some (r1 i) else none)))))), (r1 0, .inl (Z.2.1, 200, .inl (fun _ => 0))), (r1 1, .inl (Z.2.1, 200, .inl (fun _ => 0))), (r1 2, .inl (Z.2.1, 200, .inl (fun _ => 0))), (r1 3, .inl (Z.2.1, 200, .inl (fun _ => 0))), (r1 4, .inl (Z.2.1, 200, .inl (fun _ => 0)))]) feX2_11 dX2_init_13 ⟨tyX2, tyX2_ok⟩ nmX2 rfl rfl (by decide +kernel) rfl rfl rfl rfl rfl ?_
  refine zh_aload_n hC 0 dX2_init_16 rfl ?_
  refine zh_iconst hC (v := 5) dX2_init_17 (by decide) ?_
  refine zh_newI hC (N' := 5) dX2_init_18 arrI (by decide) (by decide) (by decide) (zh_room hX (by decide)) (fun q2 => ?_)
  refine zh_put hC (zh_in hX) (p0 := 0) (ty := .array .int) (ws' := [(h0, .inr (2, [.int 0, .int 0, .ref q1, .ref q2])), (q1, .inl (Z.2.2.2, 5, .inr (.inr (.inr (.inr (fun i => if i < 5 then some (r1 i) else none)))))), (r1 0, .inl (Z.2.1, 200, .inl (fun _ => 0))), (r1 1, .inl (Z.2.1, 200, .inl (fun _ => 0))), (r1 2, .inl (Z.2.1, 200, .inl (fun _ => 0))), (r1 3, .inl (Z.2.1, 200, .inl (fun _ => 0))), (r1 4, .inl (Z.2.1, 200, .inl (fun _ => 0))), (q2, .inl (Z.2.1, 5, .inl (fun _ => 0)))]) feX2_16 dX2_init_20 ⟨tyX2, tyX2_ok⟩ nmX2 rfl rfl (by decide +kernel) rfl rfl rfl rfl rfl ?_
  refine zh_ret hC hX dX2_init_23 rfl (fun sz H hW hlt => ?_)
  refine zIR_of (o := 37) (n := 8) (M := zM0) hW rfl rfl (fun i hi => ?_)
  rcases (show i = 0 ∨ i = 1 ∨ i = 2 ∨ i = 3 ∨ i = 4 ∨ i = 5 ∨ i = 6 ∨ i = 7 by omega) with rfl | rfl | rfl | rfl | rfl | rfl | rfl | rfl
  · exact hW.1 0 _ rfl
  · exact zref (hW.1 1 _ rfl) (fun j hj => by rcases (show j = 0 ∨ j = 1 ∨ j = 2 ∨ j = 3 ∨ j = 4 by omega) with rfl | rfl | rfl | rfl | rfl <;> rfl) (fun j hj => by rw [if_neg (by omega), if_neg (by show ¬ j < 5; omega)])
  · exact hW.1 2 _ rfl
  · exact hW.1 3 _ rfl
  · exact hW.1 4 _ rfl
  · exact hW.1 5 _ rfl
  · exact hW.1 6 _ rfl
  · exact hW.1 7 _ rfl

set_option maxRecDepth 20000 in
set_option maxHeartbeats 4000000 in
theorem kX8_init {l : Launch} {Z : zZ} (hl : l.stackTraces = false) (d : Nat) : zCt l Z yX8_init cX8_init 1 (d + 1) 24 14206 8 62 25 := by
  refine zCt_of (ad := fun k => k) hl (by decide +kernel) rfl (by decide) (fun h0 X hC hX hNX => ?_)
  refine zh_aload_n hC 0 dX8_init_0 rfl ?_
  refine zh_obj hC dX8_init_1 obX8 obI obC (Nat.le_of_ble_eq_true rfl) ?_
  refine zh_aload_n hC 0 dX8_init_4 rfl ?_
  refine zh_iconst hC (v := 5) dX8_init_5 (by decide) ?_
  refine zh_newI hC (N' := 5) dX8_init_6 arrI (by decide) (by decide) (by decide) (zh_room hX (by decide)) (fun q1 => ?_)
  refine zh_put hC (zh_in hX) (p0 := 0) (ty := .array .int) (ws' := [(h0, .inr (8, [.int 0, .ref q1, .null, .null, .null, .null, .null, .int 0, .null, .null, .null, .null, .null, .null, .int 0, .null, .int 0, .null, .null, .null, .null, .int 0, .null, .null, .null, .null, .int 0, .null, .null, .null, .int 0])), (q1, .inl (Z.2.1, 5, .inl (fun _ => 0)))]) feX8_7 dX8_init_8 ⟨tyX8, tyX8_ok⟩ nmX8 rfl rfl (by decide +kernel) rfl rfl rfl rfl rfl ?_
  refine zh_aload_n hC 0 dX8_init_11 rfl ?_
  refine zh_iconst hC (v := 5) dX8_init_12 (by decide) ?_
  refine zh_newI hC (N' := 5) dX8_init_13 arrI (by decide) (by decide) (by decide) (zh_room hX (by decide)) (fun q2 => ?_)
  refine zh_put hC (zh_in hX) (p0 := 0) (ty := .array .int) (ws' := [(h0, .inr (8, [.int 0, .ref q1, .ref q2, .null, .null, .null, .null, .int 0, .null, .null, .null, .null, .null, .null, .int 0, .null, .int 0, .null, .null, .null, .null, .int 0, .null, .null, .null, .null, .int 0, .null, .null, .null, .int 0])), (q1, .inl (Z.2.1, 5, .inl (fun _ => 0))), (q2, .inl (Z.2.1, 5, .inl (fun _ => 0)))]) feX8_13 dX8_init_15 ⟨tyX8, tyX8_ok⟩ nmX8 rfl rfl (by decide +kernel) rfl rfl rfl rfl rfl ?_
  refine zh_aload_n hC 0 dX8_init_18 rfl ?_
  refine zh_iconst hC (v := 5) dX8_init_19 (by decide) ?_
  refine zh_newI hC (N' := 5) dX8_init_20 arrI (by decide) (by decide) (by decide) (zh_room hX (by decide)) (fun q3 => ?_)
  refine zh_put hC (zh_in hX) (p0 := 0) (ty := .array .int) (ws' := [(h0, .inr (8, [.int 0, .ref q1, .ref q2, .ref q3, .null, .null, .null, .int 0, .null, .null, .null, .null, .null, .null, .int 0, .null, .int 0, .null, .null, .null, .null, .int 0, .null, .null, .null, .null, .int 0, .null, .null, .null, .int 0])), (q1, .inl (Z.2.1, 5, .inl (fun _ => 0))), (q2, .inl (Z.2.1, 5, .inl (fun _ => 0))), (q3, .inl (Z.2.1, 5, .inl (fun _ => 0)))]) feX8_16 dX8_init_22 ⟨tyX8, tyX8_ok⟩ nmX8 rfl rfl (by decide +kernel) rfl rfl rfl rfl rfl ?_
  refine zh_aload_n hC 0 dX8_init_25 rfl ?_
  refine zh_iconst hC (v := 5) dX8_init_26 (by decide) ?_
  refine zh_newI hC (N' := 5) dX8_init_27 arrI (by decide) (by decide) (by decide) (zh_room hX (by decide)) (fun q4 => ?_)
  refine zh_put hC (zh_in hX) (p0 := 0) (ty := .array .int) (ws' := [(h0, .inr (8, [.int 0, .ref q1, .ref q2, .ref q3, .ref q4, .null, .null, .int 0, .null, .null, .null, .null, .null, .null, .int 0, .null, .int 0, .null, .null, .null, .null, .int 0, .null, .null, .null, .null, .int 0, .null, .null, .null, .int 0])), (q1, .inl (Z.2.1, 5, .inl (fun _ => 0))), (q2, .inl (Z.2.1, 5, .inl (fun _ => 0))), (q3, .inl (Z.2.1, 5, .inl (fun _ => 0))), (q4, .inl (Z.2.1, 5, .inl (fun _ => 0)))]) feX8_19 dX8_init_29 ⟨tyX8, tyX8_ok⟩ nmX8 rfl rfl (by decide +kernel) rfl rfl rfl rfl rfl ?_
  refine zh_aload_n hC 0 dX8_init_32 rfl ?_
  refine zh_bipush hC (v := 100) dX8_init_33 (by decide) ?_
  refine zh_newI hC (N' := 100) dX8_init_35 arrI (by decide) (by decide) (by decide) (zh_room hX (by decide)) (fun q5 => ?_)
  refine zh_put hC (zh_in hX) (p0 := 0) (ty := .array .int) (ws' := [(h0, .inr (8, [.int 0, .ref q1, .ref q2, .ref q3, .ref q4, .ref q5, .null, .int 0, .null, .null, .null, .null, .null, .null, .int 0, .null, .int 0, .null, .null, .null, .null, .int 0, .null, .null, .null, .null, .int 0, .null, .null, .null, .int 0])), (q1, .inl (Z.2.1, 5, .inl (fun _ => 0))), (q2, .inl (Z.2.1, 5, .inl (fun _ => 0))), (q3, .inl (Z.2.1, 5, .inl (fun _ => 0))), (q4, .inl (Z.2.1, 5, .inl (fun _ => 0))), (q5, .inl (Z.2.1, 100, .inl (fun _ => 0)))]) feX8_22 dX8_init_37 ⟨tyX8, tyX8_ok⟩ nmX8 rfl rfl (by decide +kernel) rfl rfl rfl rfl rfl ?_
  refine zh_aload_n hC 0 dX8_init_40 rfl ?_
  refine zh_iconst hC (v := 5) dX8_init_41 (by decide) ?_
  refine zh_newI hC (N' := 5) dX8_init_42 arrI (by decide) (by decide) (by decide) (zh_room hX (by decide)) (fun q6 => ?_)
  refine zh_put hC (zh_in hX) (p0 := 0) (ty := .array .int) (ws' := [(h0, .inr (8, [.int 0, .ref q1, .ref q2, .ref q3, .ref q4, .ref q5, .ref q6, .int 0, .null, .null, .null, .null, .null, .null, .int 0, .null, .int 0, .null, .null, .null, .null, .int 0, .null, .null, .null, .null, .int 0, .null, .null, .null, .int 0])), (q1, .inl (Z.2.1, 5, .inl (fun _ => 0))), (q2, .inl (Z.2.1, 5, .inl (fun _ => 0))), (q3, .inl (Z.2.1, 5, .inl (fun _ => 0))), (q4, .inl (Z.2.1, 5, .inl (fun _ => 0))), (q5, .inl (Z.2.1, 100, .inl (fun _ => 0))), (q6, .inl (Z.2.1, 5, .inl (fun _ => 0)))]) feX8_25 dX8_init_44 ⟨tyX8, tyX8_ok⟩ nmX8 rfl rfl (by decide +kernel) rfl rfl rfl rfl rfl ?_
  refine zh_aload_n hC 0 dX8_init_47 rfl ?_
  refine zh_bipush hC (v := 60) dX8_init_48 (by decide) ?_
  refine zh_newI hC (N' := 60) dX8_init_50 arrI (by decide) (by decide) (by decide) (zh_room hX (by decide)) (fun q7 => ?_)
  refine zh_put hC (zh_in hX) (p0 := 0) (ty := .array .int) (ws' := [(h0, .inr (8, [.int 0, .ref q1, .ref q2, .ref q3, .ref q4, .ref q5, .ref q6, .int 0, .ref q7, .null, .null, .null, .null, .null, .int 0, .null, .int 0, .null, .null, .null, .null, .int 0, .null, .null, .null, .null, .int 0, .null, .null, .null, .int 0])), (q1, .inl (Z.2.1, 5, .inl (fun _ => 0))), (q2, .inl (Z.2.1, 5, .inl (fun _ => 0))), (q3, .inl (Z.2.1, 5, .inl (fun _ => 0))), (q4, .inl (Z.2.1, 5, .inl (fun _ => 0))), (q5, .inl (Z.2.1, 100, .inl (fun _ => 0))), (q6, .inl (Z.2.1, 5, .inl (fun _ => 0))), (q7, .inl (Z.2.1, 60, .inl (fun _ => 0)))]) feX8_28 dX8_init_52 ⟨tyX8, tyX8_ok⟩ nmX8 rfl rfl (by decide +kernel) rfl rfl rfl rfl rfl ?_
  refine zh_aload_n hC 0 dX8_init_55 rfl ?_
  refine zh_bipush hC (v := 60) dX8_init_56 (by decide) ?_
  refine zh_newI hC (N' := 60) dX8_init_58 arrI (by decide) (by decide) (by decide) (zh_room hX (by decide)) (fun q8 => ?_)
  refine zh_put hC (zh_in hX) (p0 := 0) (ty := .array .int) (ws' := [(h0, .inr (8, [.int 0, .ref q1, .ref q2, .ref q3, .ref q4, .ref q5, .ref q6, .int 0, .ref q7, .ref q8, .null, .null, .null, .null, .int 0, .null, .int 0, .null, .null, .null, .null, .int 0, .null, .null, .null, .null, .int 0, .null, .null, .null, .int 0])), (q1, .inl (Z.2.1, 5, .inl (fun _ => 0))), (q2, .inl (Z.2.1, 5, .inl (fun _ => 0))), (q3, .inl (Z.2.1, 5, .inl (fun _ => 0))), (q4, .inl (Z.2.1, 5, .inl (fun _ => 0))), (q5, .inl (Z.2.1, 100, .inl (fun _ => 0))), (q6, .inl (Z.2.1, 5, .inl (fun _ => 0))), (q7, .inl (Z.2.1, 60, .inl (fun _ => 0))), (q8, .inl (Z.2.1, 60, .inl (fun _ => 0)))]) feX8_31 dX8_init_60 ⟨tyX8, tyX8_ok⟩ nmX8 rfl rfl (by decide +kernel) rfl rfl rfl rfl rfl ?_
  refine zh_aload_n hC 0 dX8_init_63 rfl ?_
  refine zh_bipush hC (v := 60) dX8_init_64 (by decide) ?_
  refine zh_newI hC (N' := 60) dX8_init_66 arrI (by decide) (by decide) (by decide) (zh_room hX (by decide)) (fun q9 => ?_)
  refine zh_put hC (zh_in hX) (p0 := 0) (ty := .array .int) (ws' := [(h0, .inr (8, [.int 0, .ref q1, .ref q2, .ref q3, .ref q4, .ref q5, .ref q6, .int 0, .ref q7, .ref q8, .ref q9, .null, .null, .null, .int 0, .null, .int 0, .null, .null, .null, .null, .int 0, .null, .null, .null, .null, .int 0, .null, .null, .null, .int 0])), (q1, .inl (Z.2.1, 5, .inl (fun _ => 0))), (q2, .inl (Z.2.1, 5, .inl (fun _ => 0))), (q3, .inl (Z.2.1, 5, .inl (fun _ => 0))), (q4, .inl (Z.2.1, 5, .inl (fun _ => 0))), (q5, .inl (Z.2.1, 100, .inl (fun _ => 0))), (q6, .inl (Z.2.1, 5, .inl (fun _ => 0))), (q7, .inl (Z.2.1, 60, .inl (fun _ => 0))), (q8, .inl (Z.2.1, 60, .inl (fun _ => 0))), (q9, .inl (Z.2.1, 60, .inl (fun _ => 0)))]) feX8_34 dX8_init_68 ⟨tyX8, tyX8_ok⟩ nmX8 rfl rfl (by decide +kernel) rfl rfl rfl rfl rfl ?_
  refine zh_aload_n hC 0 dX8_init_71 rfl ?_
  refine zh_bipush hC (v := 60) dX8_init_72 (by decide) ?_
  refine zh_newI hC (N' := 60) dX8_init_74 arrI (by decide) (by decide) (by decide) (zh_room hX (by decide)) (fun q10 => ?_)
  refine zh_put hC (zh_in hX) (p0 := 0) (ty := .array .int) (ws' := [(h0, .inr (8, [.int 0, .ref q1, .ref q2, .ref q3, .ref q4, .ref q5, .ref q6, .int 0, .ref q7, .ref q8, .ref q9, .ref q10, .null, .null, .int 0, .null, .int 0, .null, .null, .null, .null, .int 0, .null, .null, .null, .null, .int 0, .null, .null, .null, .int 0])), (q1, .inl (Z.2.1, 5, .inl (fun _ => 0))), (q2, .inl (Z.2.1, 5, .inl (fun _ => 0))), (q3, .inl (Z.2.1, 5, .inl (fun _ => 0))), (q4, .inl (Z.2.1, 5, .inl (fun _ => 0))), (q5, .inl (Z.2.1, 100, .inl (fun _ => 0))), (q6, .inl (Z.2.1, 5, .inl (fun _ => 0))), (q7, .inl (Z.2.1, 60, .inl (fun _ => 0))), (q8, .inl (Z.2.1, 60, .inl (fun _ => 0))), (q9, .inl (Z.2.1, 60, .inl (fun _ => 0))), (q10, .inl (Z.2.1, 60, .inl (fun _ => 0)))]) feX8_37 dX8_init_76 ⟨tyX8, tyX8_ok⟩ nmX8 rfl rfl (by decide +kernel) rfl rfl rfl rfl rfl ?_
  refine zh_aload_n hC 0 dX8_init_79 rfl ?_
  refine zh_bipush hC (v := 60) dX8_init_80 (by decide) ?_
  refine zh_newI hC (N' := 60) dX8_init_82 arrI (by decide) (by decide) (by decide) (zh_room hX (by decide)) (fun q11 => ?_)
  refine zh_put hC (zh_in hX) (p0 := 0) (ty := .array .int) (ws' := [(h0, .inr (8, [.int 0, .ref q1, .ref q2, .ref q3, .ref q4, .ref q5, .ref q6, .int 0, .ref q7, .ref q8, .ref q9, .ref q10, .ref q11, .null, .int 0, .null, .int 0, .null, .null, .null, .null, .int 0, .null, .null, .null, .null, .int 0, .null, .null, .null, .int 0])), (q1, .inl (Z.2.1, 5, .inl (fun _ => 0))), (q2, .inl (Z.2.1, 5, .inl (fun _ => 0))), (q3, .inl (Z.2.1, 5, .inl (fun _ => 0))), (q4, .inl (Z.2.1, 5, .inl (fun _ => 0))), (q5, .inl (Z.2.1, 100, .inl (fun _ => 0))), (q6, .inl (Z.2.1, 5, .inl (fun _ => 0))), (q7, .inl (Z.2.1, 60, .inl (fun _ => 0))), (q8, .inl (Z.2.1, 60, .inl (fun _ => 0))), (q9, .inl (Z.2.1, 60, .inl (fun _ => 0))), (q10, .inl (Z.2.1, 60, .inl (fun _ => 0))), (q11, .inl (Z.2.1, 60, .inl (fun _ => 0)))]) feX8_40 dX8_init_84 ⟨tyX8, tyX8_ok⟩ nmX8 rfl rfl (by decide +kernel) rfl rfl rfl rfl rfl ?_
  refine zh_aload_n hC 0 dX8_init_87 rfl ?_
  refine zh_bipush hC (v := 60) dX8_init_88 (by decide) ?_
  refine zh_newI hC (N' := 60) dX8_init_90 arrI (by decide) (by decide) (by decide) (zh_room hX (by decide)) (fun q12 => ?_)
  refine zh_put hC (zh_in hX) (p0 := 0) (ty := .array .int) (ws' := [(h0, .inr (8, [.int 0, .ref q1, .ref q2, .ref q3, .ref q4, .ref q5, .ref q6, .int 0, .ref q7, .ref q8, .ref q9, .ref q10, .ref q11, .ref q12, .int 0, .null, .int 0, .null, .null, .null, .null, .int 0, .null, .null, .null, .null, .int 0, .null, .null, .null, .int 0])), (q1, .inl (Z.2.1, 5, .inl (fun _ => 0))), (q2, .inl (Z.2.1, 5, .inl (fun _ => 0))), (q3, .inl (Z.2.1, 5, .inl (fun _ => 0))), (q4, .inl (Z.2.1, 5, .inl (fun _ => 0))), (q5, .inl (Z.2.1, 100, .inl (fun _ => 0))), (q6, .inl (Z.2.1, 5, .inl (fun _ => 0))), (q7, .inl (Z.2.1, 60, .inl (fun _ => 0))), (q8, .inl (Z.2.1, 60, .inl (fun _ => 0))), (q9, .inl (Z.2.1, 60, .inl (fun _ => 0))), (q10, .inl (Z.2.1, 60, .inl (fun _ => 0))), (q11, .inl (Z.2.1, 60, .inl (fun _ => 0))), (q12, .inl (Z.2.1, 60, .inl (fun _ => 0)))]) feX8_43 dX8_init_92 ⟨tyX8, tyX8_ok⟩ nmX8 rfl rfl (by decide +kernel) rfl rfl rfl rfl rfl ?_
  refine zh_aload_n hC 0 dX8_init_95 rfl ?_
  refine zh_sipush hC (v := 5255) dX8_init_96 (by decide) ?_
  refine zh_newI hC (N' := 5255) dX8_init_99 arrI (by decide) (by decide) (by decide) (zh_room hX (by decide)) (fun q13 => ?_)
  refine zh_put hC (zh_in hX) (p0 := 0) (ty := .array .int) (ws' := [(h0, .inr (8, [.int 0, .ref q1, .ref q2, .ref q3, .ref q4, .ref q5, .ref q6, .int 0, .ref q7, .ref q8, .ref q9, .ref q10, .ref q11, .ref q12, .int 0, .ref q13, .int 0, .null, .null, .null, .null, .int 0, .null, .null, .null, .null, .int 0, .null, .null, .null, .int 0])), (q1, .inl (Z.2.1, 5, .inl (fun _ => 0))), (q2, .inl (Z.2.1, 5, .inl (fun _ => 0))), (q3, .inl (Z.2.1, 5, .inl (fun _ => 0))), (q4, .inl (Z.2.1, 5, .inl (fun _ => 0))), (q5, .inl (Z.2.1, 100, .inl (fun _ => 0))), (q6, .inl (Z.2.1, 5, .inl (fun _ => 0))), (q7, .inl (Z.2.1, 60, .inl (fun _ => 0))), (q8, .inl (Z.2.1, 60, .inl (fun _ => 0))), (q9, .inl (Z.2.1, 60, .inl (fun _ => 0))), (q10, .inl (Z.2.1, 60, .inl (fun _ => 0))), (q11, .inl (Z.2.1, 60, .inl (fun _ => 0))), (q12, .inl (Z.2.1, 60, .inl (fun _ => 0))), (q13, .inl (Z.2.1, 5255, .inl (fun _ => 0)))]) feX8_46 dX8_init_101 ⟨tyX8, tyX8_ok⟩ nmX8 rfl rfl (by decide +kernel) rfl rfl rfl rfl rfl ?_
  refine zh_aload_n hC 0 dX8_init_104 rfl ?_
  refine zh_bipush hC (v := 16) dX8_init_105 (by decide) ?_
  refine zh_newI hC (N' := 16) dX8_init_107 arrI (by decide) (by decide) (by decide) (zh_room hX (by decide)) (fun q14 => ?_)
  refine zh_put hC (zh_in hX) (p0 := 0) (ty := .array .int) (ws' := [(h0, .inr (8, [.int 0, .ref q1, .ref q2, .ref q3, .ref q4, .ref q5, .ref q6, .int 0, .ref q7, .ref q8, .ref q9, .ref q10, .ref q11, .ref q12, .int 0, .ref q13, .int 0, .ref q14, .null, .null, .null, .int 0, .null, .null, .null, .null, .int 0, .null, .null, .null, .int 0])), (q1, .inl (Z.2.1, 5, .inl (fun _ => 0))), (q2, .inl (Z.2.1, 5, .inl (fun _ => 0))), (q3, .inl (Z.2.1, 5, .inl (fun _ => 0))), (q4, .inl (Z.2.1, 5, .inl (fun _ => 0))), (q5, .inl (Z.2.1, 100, .inl (fun _ => 0))), (q6, .inl (Z.2.1, 5, .inl (fun _ => 0))), (q7, .inl (Z.2.1, 60, .inl (fun _ => 0))), (q8, .inl (Z.2.1, 60, .inl (fun _ => 0))), (q9, .inl (Z.2.1, 60, .inl (fun _ => 0))), (q10, .inl (Z.2.1, 60, .inl (fun _ => 0))), (q11, .inl (Z.2.1, 60, .inl (fun _ => 0))), (q12, .inl (Z.2.1, 60, .inl (fun _ => 0))), (q13, .inl (Z.2.1, 5255, .inl (fun _ => 0))), (q14, .inl (Z.2.1, 16, .inl (fun _ => 0)))]) feX8_49 dX8_init_109 ⟨tyX8, tyX8_ok⟩ nmX8 rfl rfl (by decide +kernel) rfl rfl rfl rfl rfl ?_
  refine zh_aload_n hC 0 dX8_init_112 rfl ?_
  refine zh_sipush hC (v := 1000) dX8_init_113 (by decide) ?_
  refine zh_newI hC (N' := 1000) dX8_init_116 arrI (by decide) (by decide) (by decide) (zh_room hX (by decide)) (fun q15 => ?_)
  refine zh_put hC (zh_in hX) (p0 := 0) (ty := .array .int) (ws' := [(h0, .inr (8, [.int 0, .ref q1, .ref q2, .ref q3, .ref q4, .ref q5, .ref q6, .int 0, .ref q7, .ref q8, .ref q9, .ref q10, .ref q11, .ref q12, .int 0, .ref q13, .int 0, .ref q14, .ref q15, .null, .null, .int 0, .null, .null, .null, .null, .int 0, .null, .null, .null, .int 0])), (q1, .inl (Z.2.1, 5, .inl (fun _ => 0))), (q2, .inl (Z.2.1, 5, .inl (fun _ => 0))), (q3, .inl (Z.2.1, 5, .inl (fun _ => 0))), (q4, .inl (Z.2.1, 5, .inl (fun _ => 0))), (q5, .inl (Z.2.1, 100, .inl (fun _ => 0))), (q6, .inl (Z.2.1, 5, .inl (fun _ => 0))), (q7, .inl (Z.2.1, 60, .inl (fun _ => 0))), (q8, .inl (Z.2.1, 60, .inl (fun _ => 0))), (q9, .inl (Z.2.1, 60, .inl (fun _ => 0))), (q10, .inl (Z.2.1, 60, .inl (fun _ => 0))), (q11, .inl (Z.2.1, 60, .inl (fun _ => 0))), (q12, .inl (Z.2.1, 60, .inl (fun _ => 0))), (q13, .inl (Z.2.1, 5255, .inl (fun _ => 0))), (q14, .inl (Z.2.1, 16, .inl (fun _ => 0))), (q15, .inl (Z.2.1, 1000, .inl (fun _ => 0)))]) feX8_52 dX8_init_118 ⟨tyX8, tyX8_ok⟩ nmX8 rfl rfl (by decide +kernel) rfl rfl rfl rfl rfl ?_
  refine zh_aload_n hC 0 dX8_init_121 rfl ?_
  refine zh_iconst hC (v := 5) dX8_init_122 (by decide) ?_
  refine zh_newI hC (N' := 5) dX8_init_123 arrI (by decide) (by decide) (by decide) (zh_room hX (by decide)) (fun q16 => ?_)
  refine zh_put hC (zh_in hX) (p0 := 0) (ty := .array .int) (ws' := [(h0, .inr (8, [.int 0, .ref q1, .ref q2, .ref q3, .ref q4, .ref q5, .ref q6, .int 0, .ref q7, .ref q8, .ref q9, .ref q10, .ref q11, .ref q12, .int 0, .ref q13, .int 0, .ref q14, .ref q15, .ref q16, .null, .int 0, .null, .null, .null, .null, .int 0, .null, .null, .null, .int 0])), (q1, .inl (Z.2.1, 5, .inl (fun _ => 0))), (q2, .inl (Z.2.1, 5, .inl (fun _ => 0))), (q3, .inl (Z.2.1, 5, .inl (fun _ => 0))), (q4, .inl (Z.2.1, 5, .inl (fun _ => 0))), (q5, .inl (Z.2.1, 100, .inl (fun _ => 0))), (q6, .inl (Z.2.1, 5, .inl (fun _ => 0))), (q7, .inl (Z.2.1, 60, .inl (fun _ => 0))), (q8, .inl (Z.2.1, 60, .inl (fun _ => 0))), (q9, .inl (Z.2.1, 60, .inl (fun _ => 0))), (q10, .inl (Z.2.1, 60, .inl (fun _ => 0))), (q11, .inl (Z.2.1, 60, .inl (fun _ => 0))), (q12, .inl (Z.2.1, 60, .inl (fun _ => 0))), (q13, .inl (Z.2.1, 5255, .inl (fun _ => 0))), (q14, .inl (Z.2.1, 16, .inl (fun _ => 0))), (q15, .inl (Z.2.1, 1000, .inl (fun _ => 0))), (q16, .inl (Z.2.1, 5, .inl (fun _ => 0)))]) feX8_55 dX8_init_125 ⟨tyX8, tyX8_ok⟩ nmX8 rfl rfl (by decide +kernel) rfl rfl rfl rfl rfl ?_
  refine zh_aload_n hC 0 dX8_init_128 rfl ?_
  refine zh_iconst hC (v := 5) dX8_init_129 (by decide) ?_
  refine zh_newI hC (N' := 5) dX8_init_130 arrI (by decide) (by decide) (by decide) (zh_room hX (by decide)) (fun q17 => ?_)
  refine zh_put hC (zh_in hX) (p0 := 0) (ty := .array .int) (ws' := [(h0, .inr (8, [.int 0, .ref q1, .ref q2, .ref q3, .ref q4, .ref q5, .ref q6, .int 0, .ref q7, .ref q8, .ref q9, .ref q10, .ref q11, .ref q12, .int 0, .ref q13, .int 0, .ref q14, .ref q15, .ref q16, .ref q17, .int 0, .null, .null, .null, .null, .int 0, .null, .null, .null, .int 0])), (q1, .inl (Z.2.1, 5, .inl (fun _ => 0))), (q2, .inl (Z.2.1, 5, .inl (fun _ => 0))), (q3, .inl (Z.2.1, 5, .inl (fun _ => 0))), (q4, .inl (Z.2.1, 5, .inl (fun _ => 0))), (q5, .inl (Z.2.1, 100, .inl (fun _ => 0))), (q6, .inl (Z.2.1, 5, .inl (fun _ => 0))), (q7, .inl (Z.2.1, 60, .inl (fun _ => 0))), (q8, .inl (Z.2.1, 60, .inl (fun _ => 0))), (q9, .inl (Z.2.1, 60, .inl (fun _ => 0))), (q10, .inl (Z.2.1, 60, .inl (fun _ => 0))), (q11, .inl (Z.2.1, 60, .inl (fun _ => 0))), (q12, .inl (Z.2.1, 60, .inl (fun _ => 0))), (q13, .inl (Z.2.1, 5255, .inl (fun _ => 0))), (q14, .inl (Z.2.1, 16, .inl (fun _ => 0))), (q15, .inl (Z.2.1, 1000, .inl (fun _ => 0))), (q16, .inl (Z.2.1, 5, .inl (fun _ => 0))), (q17, .inl (Z.2.1, 5, .inl (fun _ => 0)))]) feX8_58 dX8_init_132 ⟨tyX8, tyX8_ok⟩ nmX8 rfl rfl (by decide +kernel) rfl rfl rfl rfl rfl ?_
  refine zh_aload_n hC 0 dX8_init_135 rfl ?_
  refine zh_bipush hC (v := 60) dX8_init_136 (by decide) ?_
  refine zh_newI hC (N' := 60) dX8_init_138 arrI (by decide) (by decide) (by decide) (zh_room hX (by decide)) (fun q18 => ?_)
  refine zh_put hC (zh_in hX) (p0 := 0) (ty := .array .int) (ws' := [(h0, .inr (8, [.int 0, .ref q1, .ref q2, .ref q3, .ref q4, .ref q5, .ref q6, .int 0, .ref q7, .ref q8, .ref q9, .ref q10, .ref q11, .ref q12, .int 0, .ref q13, .int 0, .ref q14, .ref q15, .ref q16, .ref q17, .int 0, .ref q18, .null, .null, .null, .int 0, .null, .null, .null, .int 0])), (q1, .inl (Z.2.1, 5, .inl (fun _ => 0))), (q2, .inl (Z.2.1, 5, .inl (fun _ => 0))), (q3, .inl (Z.2.1, 5, .inl (fun _ => 0))), (q4, .inl (Z.2.1, 5, .inl (fun _ => 0))), (q5, .inl (Z.2.1, 100, .inl (fun _ => 0))), (q6, .inl (Z.2.1, 5, .inl (fun _ => 0))), (q7, .inl (Z.2.1, 60, .inl (fun _ => 0))), (q8, .inl (Z.2.1, 60, .inl (fun _ => 0))), (q9, .inl (Z.2.1, 60, .inl (fun _ => 0))), (q10, .inl (Z.2.1, 60, .inl (fun _ => 0))), (q11, .inl (Z.2.1, 60, .inl (fun _ => 0))), (q12, .inl (Z.2.1, 60, .inl (fun _ => 0))), (q13, .inl (Z.2.1, 5255, .inl (fun _ => 0))), (q14, .inl (Z.2.1, 16, .inl (fun _ => 0))), (q15, .inl (Z.2.1, 1000, .inl (fun _ => 0))), (q16, .inl (Z.2.1, 5, .inl (fun _ => 0))), (q17, .inl (Z.2.1, 5, .inl (fun _ => 0))), (q18, .inl (Z.2.1, 60, .inl (fun _ => 0)))]) feX8_61 dX8_init_140 ⟨tyX8, tyX8_ok⟩ nmX8 rfl rfl (by decide +kernel) rfl rfl rfl rfl rfl ?_
  refine zh_aload_n hC 0 dX8_init_143 rfl ?_
  refine zh_bipush hC (v := 60) dX8_init_144 (by decide) ?_
  refine zh_newI hC (N' := 60) dX8_init_146 arrI (by decide) (by decide) (by decide) (zh_room hX (by decide)) (fun q19 => ?_)
  refine zh_put hC (zh_in hX) (p0 := 0) (ty := .array .int) (ws' := [(h0, .inr (8, [.int 0, .ref q1, .ref q2, .ref q3, .ref q4, .ref q5, .ref q6, .int 0, .ref q7, .ref q8, .ref q9, .ref q10, .ref q11, .ref q12, .int 0, .ref q13, .int 0, .ref q14, .ref q15, .ref q16, .ref q17, .int 0, .ref q18, .ref q19, .null, .null, .int 0, .null, .null, .null, .int 0])), (q1, .inl (Z.2.1, 5, .inl (fun _ => 0))), (q2, .inl (Z.2.1, 5, .inl (fun _ => 0))), (q3, .inl (Z.2.1, 5, .inl (fun _ => 0))), (q4, .inl (Z.2.1, 5, .inl (fun _ => 0))), (q5, .inl (Z.2.1, 100, .inl (fun _ => 0))), (q6, .inl (Z.2.1, 5, .inl (fun _ => 0))), (q7, .inl (Z.2.1, 60, .inl (fun _ => 0))), (q8, .inl (Z.2.1, 60, .inl (fun _ => 0))), (q9, .inl (Z.2.1, 60, .inl (fun _ => 0))), (q10, .inl (Z.2.1, 60, .inl (fun _ => 0))), (q11, .inl (Z.2.1, 60, .inl (fun _ => 0))), (q12, .inl (Z.2.1, 60, .inl (fun _ => 0))), (q13, .inl (Z.2.1, 5255, .inl (fun _ => 0))), (q14, .inl (Z.2.1, 16, .inl (fun _ => 0))), (q15, .inl (Z.2.1, 1000, .inl (fun _ => 0))), (q16, .inl (Z.2.1, 5, .inl (fun _ => 0))), (q17, .inl (Z.2.1, 5, .inl (fun _ => 0))), (q18, .inl (Z.2.1, 60, .inl (fun _ => 0))), (q19, .inl (Z.2.1, 60, .inl (fun _ => 0)))]) feX8_64 dX8_init_148 ⟨tyX8, tyX8_ok⟩ nmX8 rfl rfl (by decide +kernel) rfl rfl rfl rfl rfl ?_
  refine zh_aload_n hC 0 dX8_init_151 rfl ?_
  refine zh_bipush hC (v := 60) dX8_init_152 (by decide) ?_
  refine zh_newI hC (N' := 60) dX8_init_154 arrI (by decide) (by decide) (by decide) (zh_room hX (by decide)) (fun q20 => ?_)
  refine zh_put hC (zh_in hX) (p0 := 0) (ty := .array .int) (ws' := [(h0, .inr (8, [.int 0, .ref q1, .ref q2, .ref q3, .ref q4, .ref q5, .ref q6, .int 0, .ref q7, .ref q8, .ref q9, .ref q10, .ref q11, .ref q12, .int 0, .ref q13, .int 0, .ref q14, .ref q15, .ref q16, .ref q17, .int 0, .ref q18, .ref q19, .ref q20, .null, .int 0, .null, .null, .null, .int 0])), (q1, .inl (Z.2.1, 5, .inl (fun _ => 0))), (q2, .inl (Z.2.1, 5, .inl (fun _ => 0))), (q3, .inl (Z.2.1, 5, .inl (fun _ => 0))), (q4, .inl (Z.2.1, 5, .inl (fun _ => 0))), (q5, .inl (Z.2.1, 100, .inl (fun _ => 0))), (q6, .inl (Z.2.1, 5, .inl (fun _ => 0))), (q7, .inl (Z.2.1, 60, .inl (fun _ => 0))), (q8, .inl (Z.2.1, 60, .inl (fun _ => 0))), (q9, .inl (Z.2.1, 60, .inl (fun _ => 0))), (q10, .inl (Z.2.1, 60, .inl (fun _ => 0))), (q11, .inl (Z.2.1, 60, .inl (fun _ => 0))), (q12, .inl (Z.2.1, 60, .inl (fun _ => 0))), (q13, .inl (Z.2.1, 5255, .inl (fun _ => 0))), (q14, .inl (Z.2.1, 16, .inl (fun _ => 0))), (q15, .inl (Z.2.1, 1000, .inl (fun _ => 0))), (q16, .inl (Z.2.1, 5, .inl (fun _ => 0))), (q17, .inl (Z.2.1, 5, .inl (fun _ => 0))), (q18, .inl (Z.2.1, 60, .inl (fun _ => 0))), (q19, .inl (Z.2.1, 60, .inl (fun _ => 0))), (q20, .inl (Z.2.1, 60, .inl (fun _ => 0)))]) feX8_67 dX8_init_156 ⟨tyX8, tyX8_ok⟩ nmX8 rfl rfl (by decide +kernel) rfl rfl rfl rfl rfl ?_
  refine zh_aload_n hC 0 dX8_init_159 rfl ?_
  refine zh_bipush hC (v := 60) dX8_init_160 (by decide) ?_
  refine zh_newI hC (N' := 60) dX8_init_162 arrI (by decide) (by decide) (by decide) (zh_room hX (by decide)) (fun q21 => ?_)
  refine zh_put hC (zh_in hX) (p0 := 0) (ty := .array .int) (ws' := [(h0, .inr (8, [.int 0, .ref q1, .ref q2, .ref q3, .ref q4, .ref q5, .ref q6, .int 0, .ref q7, .ref q8, .ref q9, .ref q10, .ref q11, .ref q12, .int 0, .ref q13, .int 0, .ref q14, .ref q15, .ref q16, .ref q17, .int 0, .ref q18, .ref q19, .ref q20, .ref q21, .int 0, .null, .null, .null, .int 0])), (q1, .inl (Z.2.1, 5, .inl (fun _ => 0))), (q2, .inl (Z.2.1, 5, .inl (fun _ => 0))), (q3, .inl (Z.2.1, 5, .inl (fun _ => 0))), (q4, .inl (Z.2.1, 5, .inl (fun _ => 0))), (q5, .inl (Z.2.1, 100, .inl (fun _ => 0))), (q6, .inl (Z.2.1, 5, .inl (fun _ => 0))), (q7, .inl (Z.2.1, 60, .inl (fun _ => 0))), (q8, .inl (Z.2.1, 60, .inl (fun _ => 0))), (q9, .inl (Z.2.1, 60, .inl (fun _ => 0))), (q10, .inl (Z.2.1, 60, .inl (fun _ => 0))), (q11, .inl (Z.2.1, 60, .inl (fun _ => 0))), (q12, .inl (Z.2.1, 60, .inl (fun _ => 0))), (q13, .inl (Z.2.1, 5255, .inl (fun _ => 0))), (q14, .inl (Z.2.1, 16, .inl (fun _ => 0))), (q15, .inl (Z.2.1, 1000, .inl (fun _ => 0))), (q16, .inl (Z.2.1, 5, .inl (fun _ => 0))), (q17, .inl (Z.2.1, 5, .inl (fun _ => 0))), (q18, .inl (Z.2.1, 60, .inl (fun _ => 0))), (q19, .inl (Z.2.1, 60, .inl (fun _ => 0))), (q20, .inl (Z.2.1, 60, .inl (fun _ => 0))), (q21, .inl (Z.2.1, 60, .inl (fun _ => 0)))]) feX8_70 dX8_init_164 ⟨tyX8, tyX8_ok⟩ nmX8 rfl rfl (by decide +kernel) rfl rfl rfl rfl rfl ?_
  refine zh_aload_n hC 0 dX8_init_167 rfl ?_
  refine zh_sipush hC (v := 2400) dX8_init_168 (by decide) ?_
  refine zh_newI hC (N' := 2400) dX8_init_171 arrI (by decide) (by decide) (by decide) (zh_room hX (by decide)) (fun q22 => ?_)
  refine zh_put hC (zh_in hX) (p0 := 0) (ty := .array .int) (ws' := [(h0, .inr (8, [.int 0, .ref q1, .ref q2, .ref q3, .ref q4, .ref q5, .ref q6, .int 0, .ref q7, .ref q8, .ref q9, .ref q10, .ref q11, .ref q12, .int 0, .ref q13, .int 0, .ref q14, .ref q15, .ref q16, .ref q17, .int 0, .ref q18, .ref q19, .ref q20, .ref q21, .int 0, .ref q22, .null, .null, .int 0])), (q1, .inl (Z.2.1, 5, .inl (fun _ => 0))), (q2, .inl (Z.2.1, 5, .inl (fun _ => 0))), (q3, .inl (Z.2.1, 5, .inl (fun _ => 0))), (q4, .inl (Z.2.1, 5, .inl (fun _ => 0))), (q5, .inl (Z.2.1, 100, .inl (fun _ => 0))), (q6, .inl (Z.2.1, 5, .inl (fun _ => 0))), (q7, .inl (Z.2.1, 60, .inl (fun _ => 0))), (q8, .inl (Z.2.1, 60, .inl (fun _ => 0))), (q9, .inl (Z.2.1, 60, .inl (fun _ => 0))), (q10, .inl (Z.2.1, 60, .inl (fun _ => 0))), (q11, .inl (Z.2.1, 60, .inl (fun _ => 0))), (q12, .inl (Z.2.1, 60, .inl (fun _ => 0))), (q13, .inl (Z.2.1, 5255, .inl (fun _ => 0))), (q14, .inl (Z.2.1, 16, .inl (fun _ => 0))), (q15, .inl (Z.2.1, 1000, .inl (fun _ => 0))), (q16, .inl (Z.2.1, 5, .inl (fun _ => 0))), (q17, .inl (Z.2.1, 5, .inl (fun _ => 0))), (q18, .inl (Z.2.1, 60, .inl (fun _ => 0))), (q19, .inl (Z.2.1, 60, .inl (fun _ => 0))), (q20, .inl (Z.2.1, 60, .inl (fun _ => 0))), (q21, .inl (Z.2.1, 60, .inl (fun _ => 0))), (q22, .inl (Z.2.1, 2400, .inl (fun _ => 0)))]) feX8_73 dX8_init_173 ⟨tyX8, tyX8_ok⟩ nmX8 rfl rfl (by decide +kernel) rfl rfl rfl rfl rfl ?_
  refine zh_aload_n hC 0 dX8_init_176 rfl ?_
  refine zh_sipush hC (v := 2400) dX8_init_177 (by decide) ?_
  refine zh_newI hC (N' := 2400) dX8_init_180 arrI (by decide) (by decide) (by decide) (zh_room hX (by decide)) (fun q23 => ?_)
  refine zh_put hC (zh_in hX) (p0 := 0) (ty := .array .int) (ws' := [(h0, .inr (8, [.int 0, .ref q1, .ref q2, .ref q3, .ref q4, .ref q5, .ref q6, .int 0, .ref q7, .ref q8, .ref q9, .ref q10, .ref q11, .ref q12, .int 0, .ref q13, .int 0, .ref q14, .ref q15, .ref q16, .ref q17, .int 0, .ref q18, .ref q19, .ref q20, .ref q21, .int 0, .ref q22, .ref q23, .null, .int 0])), (q1, .inl (Z.2.1, 5, .inl (fun _ => 0))), (q2, .inl (Z.2.1, 5, .inl (fun _ => 0))), (q3, .inl (Z.2.1, 5, .inl (fun _ => 0))), (q4, .inl (Z.2.1, 5, .inl (fun _ => 0))), (q5, .inl (Z.2.1, 100, .inl (fun _ => 0))), (q6, .inl (Z.2.1, 5, .inl (fun _ => 0))), (q7, .inl (Z.2.1, 60, .inl (fun _ => 0))), (q8, .inl (Z.2.1, 60, .inl (fun _ => 0))), (q9, .inl (Z.2.1, 60, .inl (fun _ => 0))), (q10, .inl (Z.2.1, 60, .inl (fun _ => 0))), (q11, .inl (Z.2.1, 60, .inl (fun _ => 0))), (q12, .inl (Z.2.1, 60, .inl (fun _ => 0))), (q13, .inl (Z.2.1, 5255, .inl (fun _ => 0))), (q14, .inl (Z.2.1, 16, .inl (fun _ => 0))), (q15, .inl (Z.2.1, 1000, .inl (fun _ => 0))), (q16, .inl (Z.2.1, 5, .inl (fun _ => 0))), (q17, .inl (Z.2.1, 5, .inl (fun _ => 0))), (q18, .inl (Z.2.1, 60, .inl (fun _ => 0))), (q19, .inl (Z.2.1, 60, .inl (fun _ => 0))), (q20, .inl (Z.2.1, 60, .inl (fun _ => 0))), (q21, .inl (Z.2.1, 60, .inl (fun _ => 0))), (q22, .inl (Z.2.1, 2400, .inl (fun _ => 0))), (q23, .inl (Z.2.1, 2400, .inl (fun _ => 0)))]) feX8_76 dX8_init_182 ⟨tyX8, tyX8_ok⟩ nmX8 rfl rfl (by decide +kernel) rfl rfl rfl rfl rfl ?_
  refine zh_aload_n hC 0 dX8_init_185 rfl ?_
  refine zh_sipush hC (v := 2400) dX8_init_186 (by decide) ?_
  refine zh_newI hC (N' := 2400) dX8_init_189 arrI (by decide) (by decide) (by decide) (zh_room hX (by decide)) (fun q24 => ?_)
  refine zh_put hC (zh_in hX) (p0 := 0) (ty := .array .int) (ws' := [(h0, .inr (8, [.int 0, .ref q1, .ref q2, .ref q3, .ref q4, .ref q5, .ref q6, .int 0, .ref q7, .ref q8, .ref q9, .ref q10, .ref q11, .ref q12, .int 0, .ref q13, .int 0, .ref q14, .ref q15, .ref q16, .ref q17, .int 0, .ref q18, .ref q19, .ref q20, .ref q21, .int 0, .ref q22, .ref q23, .ref q24, .int 0])), (q1, .inl (Z.2.1, 5, .inl (fun _ => 0))), (q2, .inl (Z.2.1, 5, .inl (fun _ => 0))), (q3, .inl (Z.2.1, 5, .inl (fun _ => 0))), (q4, .inl (Z.2.1, 5, .inl (fun _ => 0))), (q5, .inl (Z.2.1, 100, .inl (fun _ => 0))), (q6, .inl (Z.2.1, 5, .inl (fun _ => 0))), (q7, .inl (Z.2.1, 60, .inl (fun _ => 0))), (q8, .inl (Z.2.1, 60, .inl (fun _ => 0))), (q9, .inl (Z.2.1, 60, .inl (fun _ => 0))), (q10, .inl (Z.2.1, 60, .inl (fun _ => 0))), (q11, .inl (Z.2.1, 60, .inl (fun _ => 0))), (q12, .inl (Z.2.1, 60, .inl (fun _ => 0))), (q13, .inl (Z.2.1, 5255, .inl (fun _ => 0))), (q14, .inl (Z.2.1, 16, .inl (fun _ => 0))), (q15, .inl (Z.2.1, 1000, .inl (fun _ => 0))), (q16, .inl (Z.2.1, 5, .inl (fun _ => 0))), (q17, .inl (Z.2.1, 5, .inl (fun _ => 0))), (q18, .inl (Z.2.1, 60, .inl (fun _ => 0))), (q19, .inl (Z.2.1, 60, .inl (fun _ => 0))), (q20, .inl (Z.2.1, 60, .inl (fun _ => 0))), (q21, .inl (Z.2.1, 60, .inl (fun _ => 0))), (q22, .inl (Z.2.1, 2400, .inl (fun _ => 0))), (q23, .inl (Z.2.1, 2400, .inl (fun _ => 0))), (q24, .inl (Z.2.1, 2400, .inl (fun _ => 0)))]) feX8_79 dX8_init_191 ⟨tyX8, tyX8_ok⟩ nmX8 rfl rfl (by decide +kernel) rfl rfl rfl rfl rfl ?_
  refine zh_ret hC hX dX8_init_194 rfl (fun sz H hW hlt => ?_)
  refine zIR_of (o := 62) (n := 25) (M := zM0) hW rfl rfl (fun i hi => ?_)
  rcases (show i = 0 ∨ i = 1 ∨ i = 2 ∨ i = 3 ∨ i = 4 ∨ i = 5 ∨ i = 6 ∨ i = 7 ∨ i = 8 ∨ i = 9 ∨ i = 10 ∨ i = 11 ∨ i = 12 ∨ i = 13 ∨ i = 14 ∨ i = 15 ∨ i = 16 ∨ i = 17 ∨ i = 18 ∨ i = 19 ∨ i = 20 ∨ i = 21 ∨ i = 22 ∨ i = 23 ∨ i = 24 by omega) with rfl | rfl | rfl | rfl | rfl | rfl | rfl | rfl | rfl | rfl | rfl | rfl | rfl | rfl | rfl | rfl | rfl | rfl | rfl | rfl | rfl | rfl | rfl | rfl | rfl
  · exact hW.1 0 _ rfl
  · exact hW.1 1 _ rfl
  · exact hW.1 2 _ rfl
  · exact hW.1 3 _ rfl
  · exact hW.1 4 _ rfl
  · exact hW.1 5 _ rfl
  · exact hW.1 6 _ rfl
  · exact hW.1 7 _ rfl
  · exact hW.1 8 _ rfl
  · exact hW.1 9 _ rfl
  · exact hW.1 10 _ rfl
  · exact hW.1 11 _ rfl
  · exact hW.1 12 _ rfl
  · exact hW.1 13 _ rfl
  · exact hW.1 14 _ rfl
  · exact hW.1 15 _ rfl
  · exact hW.1 16 _ rfl
  · exact hW.1 17 _ rfl
  · exact hW.1 18 _ rfl
  · exact hW.1 19 _ rfl
  · exact hW.1 20 _ rfl
  · exact hW.1 21 _ rfl
  · exact hW.1 22 _ rfl
  · exact hW.1 23 _ rfl
  · exact hW.1 24 _ rfl

