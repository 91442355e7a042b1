set_option maxRecDepth 20000 in
set_option maxHeartbeats 4000000 in
theorem kX1_init {l : Launch} {Z : zZ} (hl : l.stackTraces = false) (d : Nat) : zCt l Z yX1_init cX1_init 1 (d + 1) 4 240 1 53 5 := by
  refine zCt_of (ad := fun k => k) hl (by decide +kernel) rfl (by decide) (fun h0 X hC hX hNX => ?_)
  refine zh_aload_n hC 0 dX1_init_0 rfl ?_
  refine zh_obj hC dX1_init_1 obX1 obI obC (Nat.le_of_ble_eq_true rfl) ?_
  refine zh_aload_n hC 0 dX1_init_4 rfl ?_
  refine zh_bipush hC (v := 60) dX1_init_5 (by decide) ?_
  refine zh_newI hC (N' := 60) dX1_init_7 arrI (by decide) (by decide) (by decide) (zh_room hX (by decide)) (fun q1 => ?_)
  refine zh_put hC (zh_in hX) (p0 := 0) (ty := .array .int) (ws' := [(h0, .inr (1, [.int 0, .ref q1, .null, .null, .null])), (q1, .inl (Z.2.1, 60, .inl (fun _ => 0)))]) feX1_9 dX1_init_9 ⟨tyX1, tyX1_ok⟩ nmX1 rfl rfl (by decide +kernel) rfl rfl rfl rfl rfl ?_
  refine zh_aload_n hC 0 dX1_init_12 rfl ?_
  refine zh_bipush hC (v := 60) dX1_init_13 (by decide) ?_
  refine zh_newI hC (N' := 60) dX1_init_15 arrI (by decide) (by decide) (by decide) (zh_room hX (by decide)) (fun q2 => ?_)
  refine zh_put hC (zh_in hX) (p0 := 0) (ty := .array .int) (ws' := [(h0, .inr (1, [.int 0, .ref q1, .ref q2, .null, .null])), (q1, .inl (Z.2.1, 60, .inl (fun _ => 0))), (q2, .inl (Z.2.1, 60, .inl (fun _ => 0)))]) feX1_15 dX1_init_17 ⟨tyX1, tyX1_ok⟩ nmX1 rfl rfl (by decide +kernel) rfl rfl rfl rfl rfl ?_
  refine zh_aload_n hC 0 dX1_init_20 rfl ?_
  refine zh_bipush hC (v := 60) dX1_init_21 (by decide) ?_
  refine zh_newI hC (N' := 60) dX1_init_23 arrI (by decide) (by decide) (by decide) (zh_room hX (by decide)) (fun q3 => ?_)
  refine zh_put hC (zh_in hX) (p0 := 0) (ty := .array .int) (ws' := [(h0, .inr (1, [.int 0, .ref q1, .ref q2, .ref q3, .null])), (q1, .inl (Z.2.1, 60, .inl (fun _ => 0))), (q2, .inl (Z.2.1, 60, .inl (fun _ => 0))), (q3, .inl (Z.2.1, 60, .inl (fun _ => 0)))]) feX1_18 dX1_init_25 ⟨tyX1, tyX1_ok⟩ nmX1 rfl rfl (by decide +kernel) rfl rfl rfl rfl rfl ?_
  refine zh_aload_n hC 0 dX1_init_28 rfl ?_
  refine zh_bipush hC (v := 60) dX1_init_29 (by decide) ?_
  refine zh_newI hC (N' := 60) dX1_init_31 arrI (by decide) (by decide) (by decide) (zh_room hX (by decide)) (fun q4 => ?_)
  refine zh_put hC (zh_in hX) (p0 := 0) (ty := .array .int) (ws' := [(h0, .inr (1, [.int 0, .ref q1, .ref q2, .ref q3, .ref q4])), (q1, .inl (Z.2.1, 60, .inl (fun _ => 0))), (q2, .inl (Z.2.1, 60, .inl (fun _ => 0))), (q3, .inl (Z.2.1, 60, .inl (fun _ => 0))), (q4, .inl (Z.2.1, 60, .inl (fun _ => 0)))]) feX1_21 dX1_init_33 ⟨tyX1, tyX1_ok⟩ nmX1 rfl rfl (by decide +kernel) rfl rfl rfl rfl rfl ?_
  refine zh_ret hC hX dX1_init_36 rfl (fun sz H hW hlt => ?_)
  refine zIR_of (o := 53) (n := 5) (M := zM0) hW rfl rfl (fun i hi => ?_)
  rcases (show i = 0 ∨ i = 1 ∨ i = 2 ∨ i = 3 ∨ i = 4 by omega) with rfl | rfl | rfl | rfl | rfl
  · exact hW.1 0 _ rfl
  · exact hW.1 1 _ rfl
  · exact hW.1 2 _ rfl
  · exact hW.1 3 _ rfl
  · exact hW.1 4 _ rfl

set_option maxRecDepth 20000 in
set_option maxHeartbeats 4000000 in
theorem kX3_init {l : Launch} {Z : zZ} (hl : l.stackTraces = false) (d : Nat) : zCt l Z yX3_init cX3_init 1 (d + 1) 3 1536 3 29 4 := by
  refine zCt_of (ad := fun k => k) hl (by decide +kernel) rfl (by decide) (fun h0 X hC hX hNX => ?_)
  refine zh_aload_n hC 0 dX3_init_0 rfl ?_
  refine zh_obj hC dX3_init_1 obX3 obI obC (Nat.le_of_ble_eq_true rfl) ?_
  refine zh_aload_n hC 0 dX3_init_4 rfl ?_
  refine zh_sipush hC (v := 512) dX3_init_5 (by decide) ?_
  refine zh_newI hC (N' := 512) dX3_init_8 arrI (by decide) (by decide) (by decide) (zh_room hX (by decide)) (fun q1 => ?_)
  refine zh_put hC (zh_in hX) (p0 := 0) (ty := .array .int) (ws' := [(h0, .inr (3, [.int 0, .ref q1, .null, .null])), (q1, .inl (Z.2.1, 512, .inl (fun _ => 0)))]) feX3_9 dX3_init_10 ⟨tyX3, tyX3_ok⟩ nmX3 rfl rfl (by decide +kernel) rfl rfl rfl rfl rfl ?_
  refine zh_aload_n hC 0 dX3_init_13 rfl ?_
  refine zh_sipush hC (v := 512) dX3_init_14 (by decide) ?_
  refine zh_newI hC (N' := 512) dX3_init_17 arrI (by decide) (by decide) (by decide) (zh_room hX (by decide)) (fun q2 => ?_)
  refine zh_put hC (zh_in hX) (p0 := 0) (ty := .array .int) (ws' := [(h0, .inr (3, [.int 0, .ref q1, .ref q2, .null])), (q1, .inl (Z.2.1, 512, .inl (fun _ => 0))), (q2, .inl (Z.2.1, 512, .inl (fun _ => 0)))]) feX3_15 dX3_init_19 ⟨tyX3, tyX3_ok⟩ nmX3 rfl rfl (by decide +kernel) rfl rfl rfl rfl rfl ?_
  refine zh_aload_n hC 0 dX3_init_22 rfl ?_
  refine zh_sipush hC (v := 512) dX3_init_23 (by decide) ?_
  refine zh_newI hC (N' := 512) dX3_init_26 arrI (by decide) (by decide) (by decide) (zh_room hX (by decide)) (fun q3 => ?_)
  refine zh_put hC (zh_in hX) (p0 := 0) (ty := .array .int) (ws' := [(h0, .inr (3, [.int 0, .ref q1, .ref q2, .ref q3])), (q1, .inl (Z.2.1, 512, .inl (fun _ => 0))), (q2, .inl (Z.2.1, 512, .inl (fun _ => 0))), (q3, .inl (Z.2.1, 512, .inl (fun _ => 0)))]) feX3_18 dX3_init_28 ⟨tyX3, tyX3_ok⟩ nmX3 rfl rfl (by decide +kernel) rfl rfl rfl rfl rfl ?_
  refine zh_ret hC hX dX3_init_31 rfl (fun sz H hW hlt => ?_)
  refine zIR_of (o := 29) (n := 4) (M := zM0) hW rfl rfl (fun i hi => ?_)
  rcases (show i = 0 ∨ i = 1 ∨ i = 2 ∨ i = 3 by omega) with rfl | rfl | rfl | rfl
  · exact hW.1 0 _ rfl
  · exact hW.1 1 _ rfl
  · exact hW.1 2 _ rfl
  · exact hW.1 3 _ rfl

set_option maxRecDepth 20000 in
set_option maxHeartbeats 4000000 in
theorem kX5_init {l : Launch} {Z : zZ} (hl : l.stackTraces = false) (d : Nat) : zCt l Z yX5_init cX5_init 1 (d + 1) 3 1536 5 58 4 := by
  refine zCt_of (ad := fun k => k) hl (by decide +kernel) rfl (by decide) (fun h0 X hC hX hNX => ?_)
  refine zh_aload_n hC 0 dX5_init_0 rfl ?_
  refine zh_obj hC dX5_init_1 obX5 obI obC (Nat.le_of_ble_eq_true rfl) ?_
  refine zh_aload_n hC 0 dX5_init_4 rfl ?_
  refine zh_sipush hC (v := 512) dX5_init_5 (by decide) ?_
  refine zh_newI hC (N' := 512) dX5_init_8 arrI (by decide) (by decide) (by decide) (zh_room hX (by decide)) (fun q1 => ?_)
  refine zh_put hC (zh_in hX) (p0 := 0) (ty := .array .int) (ws' := [(h0, .inr (5, [.int 0, .ref q1, .null, .null])), (q1, .inl (Z.2.1, 512, .inl (fun _ => 0)))]) feX5_9 dX5_init_10 ⟨tyX5, tyX5_ok⟩ nmX5 rfl rfl (by decide +kernel) rfl rfl rfl rfl rfl ?_
  refine zh_aload_n hC 0 dX5_init_13 rfl ?_
  refine zh_sipush hC (v := 512) dX5_init_14 (by decide) ?_
  refine zh_newI hC (N' := 512) dX5_init_17 arrI (by decide) (by decide) (by decide) (zh_room hX (by decide)) (fun q2 => ?_)
  refine zh_put hC (zh_in hX) (p0 := 0) (ty := .array .int) (ws' := [(h0, .inr (5, [.int 0, .ref q1, .ref q2, .null])), (q1, .inl (Z.2.1, 512, .inl (fun _ => 0))), (q2, .inl (Z.2.1, 512, .inl (fun _ => 0)))]) feX5_15 dX5_init_19 ⟨tyX5, tyX5_ok⟩ nmX5 rfl rfl (by decide +kernel) rfl rfl rfl rfl rfl ?_
  refine zh_aload_n hC 0 dX5_init_22 rfl ?_
  refine zh_sipush hC (v := 512) dX5_init_23 (by decide) ?_
  refine zh_newI hC (N' := 512) dX5_init_26 arrI (by decide) (by decide) (by decide) (zh_room hX (by decide)) (fun q3 => ?_)
  refine zh_put hC (zh_in hX) (p0 := 0) (ty := .array .int) (ws' := [(h0, .inr (5, [.int 0, .ref q1, .ref q2, .ref q3])), (q1, .inl (Z.2.1, 512, .inl (fun _ => 0))), (q2, .inl (Z.2.1, 512, .inl (fun _ => 0))), (q3, .inl (Z.2.1, 512, .inl (fun _ => 0)))]) feX5_18 dX5_init_28 ⟨tyX5, tyX5_ok⟩ nmX5 rfl rfl (by decide +kernel) rfl rfl rfl rfl rfl ?_
  refine zh_ret hC hX dX5_init_31 rfl (fun sz H hW hlt => ?_)
  refine zIR_of (o := 58) (n := 4) (M := zM0) hW rfl rfl (fun i hi => ?_)
  rcases (show i = 0 ∨ i = 1 ∨ i = 2 ∨ i = 3 by omega) with rfl | rfl | rfl | rfl
  · exact hW.1 0 _ rfl
  · exact hW.1 1 _ rfl
  · exact hW.1 2 _ rfl
  · exact hW.1 3 _ rfl

set_option maxRecDepth 20000 in
set_option maxHeartbeats 4000000 in
theorem kX6_init {l : Launch} {Z : zZ} (hl : l.stackTraces = false) (d : Nat) : zCt l Z yX6_init cX6_init 1 (d + 1) 3 180 6 33 4 := by
  refine zCt_of (ad := fun k => k) hl (by decide +kernel) rfl (by decide) (fun h0 X hC hX hNX => ?_)
  refine zh_aload_n hC 0 dX6_init_0 rfl ?_
  refine zh_obj hC dX6_init_1 obX6 obI obC (Nat.le_of_ble_eq_true rfl) ?_
  refine zh_aload_n hC 0 dX6_init_4 rfl ?_
  refine zh_bipush hC (v := 60) dX6_init_5 (by decide) ?_
  refine zh_newI hC (N' := 60) dX6_init_7 arrI (by decide) (by decide) (by decide) (zh_room hX (by decide)) (fun q1 => ?_)
  refine zh_put hC (zh_in hX) (p0 := 0) (ty := .array .int) (ws' := [(h0, .inr (6, [.ref q1, .null, .null])), (q1, .inl (Z.2.1, 60, .inl (fun _ => 0)))]) feX6_9 dX6_init_9 ⟨tyX6, tyX6_ok⟩ nmX6 rfl rfl (by decide +kernel) rfl rfl rfl rfl rfl ?_
  refine zh_aload_n hC 0 dX6_init_12 rfl ?_
  refine zh_bipush hC (v := 60) dX6_init_13 (by decide) ?_
  refine zh_newI hC (N' := 60) dX6_init_15 arrI (by decide) (by decide) (by decide) (zh_room hX (by decide)) (fun q2 => ?_)
  refine zh_put hC (zh_in hX) (p0 := 0) (ty := .array .int) (ws' := [(h0, .inr (6, [.ref q1, .ref q2, .null])), (q1, .inl (Z.2.1, 60, .inl (fun _ => 0))), (q2, .inl (Z.2.1, 60, .inl (fun _ => 0)))]) feX6_15 dX6_init_17 ⟨tyX6, tyX6_ok⟩ nmX6 rfl rfl (by decide +kernel) rfl rfl rfl rfl rfl ?_
  refine zh_aload_n hC 0 dX6_init_20 rfl ?_
  refine zh_bipush hC (v := 60) dX6_init_21 (by decide) ?_
  refine zh_newI hC (N' := 60) dX6_init_23 arrI (by decide) (by decide) (by decide) (zh_room hX (by decide)) (fun q3 => ?_)
  refine zh_put hC (zh_in hX) (p0 := 0) (ty := .array .int) (ws' := [(h0, .inr (6, [.ref q1, .ref q2, .ref q3])), (q1, .inl (Z.2.1, 60, .inl (fun _ => 0))), (q2, .inl (Z.2.1, 60, .inl (fun _ => 0))), (q3, .inl (Z.2.1, 60, .inl (fun _ => 0)))]) feX6_18 dX6_init_25 ⟨tyX6, tyX6_ok⟩ nmX6 rfl rfl (by decide +kernel) rfl rfl rfl rfl rfl ?_
  refine zh_ret hC hX dX6_init_28 rfl (fun sz H hW hlt => ?_)
  refine zIR_of (o := 33) (n := 4) (M := zM0) hW rfl rfl (fun i hi => ?_)
  rcases (show i = 0 ∨ i = 1 ∨ i = 2 ∨ i = 3 by omega) with rfl | rfl | rfl | rfl
  · exact hW.1 0 _ rfl
  · exact hW.1 1 _ rfl
  · exact hW.1 2 _ rfl
  · exact hW.1 3 _ rfl

set_option maxRecDepth 20000 in
set_option maxHeartbeats 4000000 in
theorem kX2_init {l : Launch} {Z : zZ} (hl : l.stackTraces = false) (d : Nat) : zCt l Z yX2_init cX2_init 1 (d + 1) 7 1010 2 37 8 := by
  refine zCt_of (ad := fun k => k) hl (by decide +kernel) rfl (by decide) (fun h0 X hC hX hNX => ?_)
  refine zh_aload_n hC 0 dX2_init_0 rfl ?_
  refine zh_obj hC dX2_init_1 obX2 obI obC (Nat.le_of_ble_eq_true rfl) ?_
  refine zh_aload_n hC 0 dX2_init_4 rfl ?_
  refine zh_iconst hC (v := 5) dX2_init_5 (by decide) ?_
  refine zh_sipush hC (v := 200) dX2_init_6 (by decide) ?_
  refine zh_mna hC hX (K' := 200) dX2_init_9 mcX2_9 arrI (by decide) (by decide) (by decide) (by decide) (fun q1 r1 => ?_)
  refine zh_put hC (zh_in hX) (p0 := 0) (ty := .array (.array .int)) (ws' := [(h0, .inr (2, [.int 0, .int 0, .ref q1, .null])), (q1, .inl (Z.2.2.2, 5, .inr (.inr (.inr (.inr (fun i => if i < 5 then some (r1 i) else none)))))), (r1 0, .inl (Z.2.1, 200, .inl (fun _ => 0))), (r1 1, .inl (Z.2.1, 200, .inl (fun _ => 0))), (r1 2, .inl (Z.2.1, 200, .inl (fun _ => 0))), (r1 3, .inl (Z.2.1, 200, .inl (fun _ => 0))), (r1 4, .inl (Z.2.1, 200, .inl (fun _ => 0)))]) feX2_11 dX2_init_13 ⟨tyX2, tyX2_ok⟩ nmX2 rfl rfl (by decide +kernel) rfl rfl rfl rfl rfl ?_
  refine zh_aload_n hC 0 dX2_init_16 rfl ?_
  refine zh_iconst hC (v := 5) dX2_init_17 (by decide) ?_
  refine zh_newI hC (N' := 5) dX2_init_18 arrI (by decide) (by decide) (by decide) (zh_room hX (by decide)) (fun q2 => ?_)
  refine zh_put hC (zh_in hX) (p0 := 0) (ty := .array .int) (ws' := [(h0, .inr (2, [.int 0, .int 0, .ref q1, .ref q2])), (q1, .inl (Z.2.2.2, 5, .inr (.inr (.inr (.inr (fun i => if i < 5 then some (r1 i) else none)))))), (r1 0, .inl (Z.2.1, 200, .inl (fun _ => 0))), (r1 1, .inl (Z.2.1, 200, .inl (fun _ => 0))), (r1 2, .inl (Z.2.1, 200, .inl (fun _ => 0))), (r1 3, .inl (Z.2.1, 200, .inl (fun _ => 0))), (r1 4, .inl (Z.2.1, 200, .inl (fun _ => 0))), (q2, .inl (Z.2.1, 5, .inl (fun _ => 0)))]) feX2_16 dX2_init_20 ⟨tyX2, tyX2_ok⟩ nmX2 rfl rfl (by decide +kernel) rfl rfl rfl rfl rfl ?_
  refine zh_ret hC hX dX2_init_23 rfl (fun sz H hW hlt => ?_)
  refine zIR_of (o := 37) (n := 8) (M := zM0) hW rfl rfl (fun i hi => ?_)
  rcases (show i = 0 ∨ i = 1 ∨ i = 2 ∨ i = 3 ∨ i = 4 ∨ i = 5 ∨ i = 6 ∨ i = 7 by omega) with rfl | rfl | rfl | rfl | rfl | rfl | rfl | rfl
  · exact hW.1 0 _ rfl
  · exact zref (hW.1 1 _ rfl) (fun j hj => by rcases (show j = 0 ∨ j = 1 ∨ j = 2 ∨ j = 3 ∨ j = 4 by omega) with rfl | rfl | rfl | rfl | rfl <;> rfl) (fun j hj => by rw [if_neg (by omega), if_neg (by show ¬ j < 5; omega)])
  · exact hW.1 2 _ rfl
  · exact hW.1 3 _ rfl
  · exact hW.1 4 _ rfl
  · exact hW.1 5 _ rfl
  · exact hW.1 6 _ rfl
  · exact hW.1 7 _ rfl

