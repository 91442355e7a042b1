set_option maxRecDepth 20000 in
set_option maxHeartbeats 4000000 in
theorem kX0_init_1 {l : Launch} {Z : zZ} (hl : l.stackTraces = false) (d : Nat) : zCt l Z yX0_init cX0_init 1 (d + 2) 13 250 0 1 14 := by
  refine zCt_of (ad := fun k => k) hl (by decide +kernel) rfl (by decide) (fun h0 X hC hX hNX => ?_)
  refine zh_aload_n hC 0 dX0_init_0 rfl ?_
  refine zh_obj hC dX0_init_1 obX0 obI obC (Nat.le_of_ble_eq_true rfl) ?_
  refine zh_aload_n hC 0 dX0_init_4 rfl ?_
  refine zh_iconst hC (v := 5) dX0_init_5 (by decide) ?_
  refine zh_newI hC (N' := 5) dX0_init_6 arrI (by decide) (by decide) (by decide) (zh_room hX (by decide)) (fun q1 => ?_)
  refine zh_put hC (zh_in hX) (p0 := 0) (ty := .array .int) (ws' := [(h0, .inr (0, [.int 0, .ref q1, .null, .null, .null, .null, .null, .int 0, .null, .null, .long 0, .long 0])), (q1, .inl (Z.2.1, 5, .inl (fun _ => 0)))]) feX0_9 dX0_init_8 ⟨tyX0, tyX0_ok⟩ nmX0 rfl rfl (by decide +kernel) rfl rfl rfl rfl rfl ?_
  refine zh_aload_n hC 0 dX0_init_11 rfl ?_
  refine zh_iconst hC (v := 5) dX0_init_12 (by decide) ?_
  refine zh_newI hC (N' := 5) dX0_init_13 arrI (by decide) (by decide) (by decide) (zh_room hX (by decide)) (fun q2 => ?_)
  refine zh_put hC (zh_in hX) (p0 := 0) (ty := .array .int) (ws' := [(h0, .inr (0, [.int 0, .ref q1, .ref q2, .null, .null, .null, .null, .int 0, .null, .null, .long 0, .long 0])), (q1, .inl (Z.2.1, 5, .inl (fun _ => 0))), (q2, .inl (Z.2.1, 5, .inl (fun _ => 0)))]) feX0_15 dX0_init_15 ⟨tyX0, tyX0_ok⟩ nmX0 rfl rfl (by decide +kernel) rfl rfl rfl rfl rfl ?_
  refine zh_aload_n hC 0 dX0_init_18 rfl ?_
  refine zh_iconst hC (v := 5) dX0_init_19 (by decide) ?_
  refine zh_newI hC (N' := 5) dX0_init_20 arrI (by decide) (by decide) (by decide) (zh_room hX (by decide)) (fun q3 => ?_)
  refine zh_put hC (zh_in hX) (p0 := 0) (ty := .array .int) (ws' := [(h0, .inr (0, [.int 0, .ref q1, .ref q2, .ref q3, .null, .null, .null, .int 0, .null, .null, .long 0, .long 0])), (q1, .inl (Z.2.1, 5, .inl (fun _ => 0))), (q2, .inl (Z.2.1, 5, .inl (fun _ => 0))), (q3, .inl (Z.2.1, 5, .inl (fun _ => 0)))]) feX0_18 dX0_init_22 ⟨tyX0, tyX0_ok⟩ nmX0 rfl rfl (by decide +kernel) rfl rfl rfl rfl rfl ?_
  refine zh_aload_n hC 0 dX0_init_25 rfl ?_
  refine zh_iconst hC (v := 5) dX0_init_26 (by decide) ?_
  refine zh_newI hC (N' := 5) dX0_init_27 arrI (by decide) (by decide) (by decide) (zh_room hX (by decide)) (fun q4 => ?_)
  refine zh_put hC (zh_in hX) (p0 := 0) (ty := .array .int) (ws' := [(h0, .inr (0, [.int 0, .ref q1, .ref q2, .ref q3, .ref q4, .null, .null, .int 0, .null, .null, .long 0, .long 0])), (q1, .inl (Z.2.1, 5, .inl (fun _ => 0))), (q2, .inl (Z.2.1, 5, .inl (fun _ => 0))), (q3, .inl (Z.2.1, 5, .inl (fun _ => 0))), (q4, .inl (Z.2.1, 5, .inl (fun _ => 0)))]) feX0_21 dX0_init_29 ⟨tyX0, tyX0_ok⟩ nmX0 rfl rfl (by decide +kernel) rfl rfl rfl rfl rfl ?_
  refine zh_aload_n hC 0 dX0_init_32 rfl ?_
  refine zh_iconst hC (v := 5) dX0_init_33 (by decide) ?_
  refine zh_bipush hC (v := 20) dX0_init_34 (by decide) ?_
  refine zh_mna hC hX (K' := 20) dX0_init_36 mcX0_24 arrI (by decide) (by decide) (by decide) (by decide) (fun q5 r5 => ?_)
  refine zh_put hC (zh_in hX) (p0 := 0) (ty := .array (.array .int)) (ws' := [(h0, .inr (0, [.int 0, .ref q1, .ref q2, .ref q3, .ref q4, .ref q5, .null, .int 0, .null, .null, .long 0, .long 0])), (q1, .inl (Z.2.1, 5, .inl (fun _ => 0))), (q2, .inl (Z.2.1, 5, .inl (fun _ => 0))), (q3, .inl (Z.2.1, 5, .inl (fun _ => 0))), (q4, .inl (Z.2.1, 5, .inl (fun _ => 0))), (q5, .inl (Z.2.2.2, 5, .inr (.inr (.inr (.inr (fun i => if i < 5 then some (r5 i) else none)))))), (r5 0, .inl (Z.2.1, 20, .inl (fun _ => 0))), (r5 1, .inl (Z.2.1, 20, .inl (fun _ => 0))), (r5 2, .inl (Z.2.1, 20, .inl (fun _ => 0))), (r5 3, .inl (Z.2.1, 20, .inl (fun _ => 0))), (r5 4, .inl (Z.2.1, 20, .inl (fun _ => 0)))]) feX0_26 dX0_init_40 ⟨tyX0, tyX0_ok⟩ nmX0 rfl rfl (by decide +kernel) rfl rfl rfl rfl rfl ?_
  refine zh_aload_n hC 0 dX0_init_43 rfl ?_
  refine zh_iconst hC (v := 5) dX0_init_44 (by decide) ?_
  refine zh_newI hC (N' := 5) dX0_init_45 arrI (by decide) (by decide) (by decide) (zh_room hX (by decide)) (fun q6 => ?_)
  refine zh_put hC (zh_in hX) (p0 := 0) (ty := .array .int) (ws' := [(h0, .inr (0, [.int 0, .ref q1, .ref q2, .ref q3, .ref q4, .ref q5, .ref q6, .int 0, .null, .null, .long 0, .long 0])), (q1, .inl (Z.2.1, 5, .inl (fun _ => 0))), (q2, .inl (Z.2.1, 5, .inl (fun _ => 0))), (q3, .inl (Z.2.1, 5, .inl (fun _ => 0))), (q4, .inl (Z.2.1, 5, .inl (fun _ => 0))), (q5, .inl (Z.2.2.2, 5, .inr (.inr (.inr (.inr (fun i => if i < 5 then some (r5 i) else none)))))), (r5 0, .inl (Z.2.1, 20, .inl (fun _ => 0))), (r5 1, .inl (Z.2.1, 20, .inl (fun _ => 0))), (r5 2, .inl (Z.2.1, 20, .inl (fun _ => 0))), (r5 3, .inl (Z.2.1, 20, .inl (fun _ => 0))), (r5 4, .inl (Z.2.1, 20, .inl (fun _ => 0))), (q6, .inl (Z.2.1, 5, .inl (fun _ => 0)))]) feX0_29 dX0_init_47 ⟨tyX0, tyX0_ok⟩ nmX0 rfl rfl (by decide +kernel) rfl rfl rfl rfl rfl ?_
  refine zh_aload_n hC 0 dX0_init_50 rfl ?_
  refine zh_bipush hC (v := 60) dX0_init_51 (by decide) ?_
  refine zh_newI hC (N' := 60) dX0_init_53 arrI (by decide) (by decide) (by decide) (zh_room hX (by decide)) (fun q7 => ?_)
  refine zh_put hC (zh_in hX) (p0 := 0) (ty := .array .int) (ws' := [(h0, .inr (0, [.int 0, .ref q1, .ref q2, .ref q3, .ref q4, .ref q5, .ref q6, .int 0, .ref q7, .null, .long 0, .long 0])), (q1, .inl (Z.2.1, 5, .inl (fun _ => 0))), (q2, .inl (Z.2.1, 5, .inl (fun _ => 0))), (q3, .inl (Z.2.1, 5, .inl (fun _ => 0))), (q4, .inl (Z.2.1, 5, .inl (fun _ => 0))), (q5, .inl (Z.2.2.2, 5, .inr (.inr (.inr (.inr (fun i => if i < 5 then some (r5 i) else none)))))), (r5 0, .inl (Z.2.1, 20, .inl (fun _ => 0))), (r5 1, .inl (Z.2.1, 20, .inl (fun _ => 0))), (r5 2, .inl (Z.2.1, 20, .inl (fun _ => 0))), (r5 3, .inl (Z.2.1, 20, .inl (fun _ => 0))), (r5 4, .inl (Z.2.1, 20, .inl (fun _ => 0))), (q6, .inl (Z.2.1, 5, .inl (fun _ => 0))), (q7, .inl (Z.2.1, 60, .inl (fun _ => 0)))]) feX0_32 dX0_init_55 ⟨tyX0, tyX0_ok⟩ nmX0 rfl rfl (by decide +kernel) rfl rfl rfl rfl rfl ?_
  refine zh_aload_n hC 0 dX0_init_58 rfl ?_
  refine zh_bipush hC (v := 60) dX0_init_59 (by decide) ?_
  refine zh_newI hC (N' := 60) dX0_init_61 arrI (by decide) (by decide) (by decide) (zh_room hX (by decide)) (fun q8 => ?_)
  refine zh_put hC (zh_in hX) (p0 := 0) (ty := .array .int) (ws' := [(h0, .inr (0, [.int 0, .ref q1, .ref q2, .ref q3, .ref q4, .ref q5, .ref q6, .int 0, .ref q7, .ref q8, .long 0, .long 0])), (q1, .inl (Z.2.1, 5, .inl (fun _ => 0))), (q2, .inl (Z.2.1, 5, .inl (fun _ => 0))), (q3, .inl (Z.2.1, 5, .inl (fun _ => 0))), (q4, .inl (Z.2.1, 5, .inl (fun _ => 0))), (q5, .inl (Z.2.2.2, 5, .inr (.inr (.inr (.inr (fun i => if i < 5 then some (r5 i) else none)))))), (r5 0, .inl (Z.2.1, 20, .inl (fun _ => 0))), (r5 1, .inl (Z.2.1, 20, .inl (fun _ => 0))), (r5 2, .inl (Z.2.1, 20, .inl (fun _ => 0))), (r5 3, .inl (Z.2.1, 20, .inl (fun _ => 0))), (r5 4, .inl (Z.2.1, 20, .inl (fun _ => 0))), (q6, .inl (Z.2.1, 5, .inl (fun _ => 0))), (q7, .inl (Z.2.1, 60, .inl (fun _ => 0))), (q8, .inl (Z.2.1, 60, .inl (fun _ => 0)))]) feX0_35 dX0_init_63 ⟨tyX0, tyX0_ok⟩ nmX0 rfl rfl (by decide +kernel) rfl rfl rfl rfl rfl ?_
  obtain ⟨M2, hM2, hM3⟩ := runX0_init_1
  refine zh_run hC hX (by decide) (by decide) (o := 1) (n := 14) (M1 := zMz) (M2 := M2) (o' := fX0_init_B66 1 100 zMz) (fun sz H hW hlt => ?_) hM2 (fun ad1 H hW => hM3 Z ad1 H hW) (fun ls h => h) (fun ad1 X' hC' hE hN => gX0_init_B66 hC' hE hN (Or.inl rfl) (zlvA _) 100 zMz) hNX
  refine zIR_of (o := 1) (n := 14) (M := zMz) hW rfl rfl (fun i hi => ?_)
  rcases (show i = 0 ∨ i = 1 ∨ i = 2 ∨ i = 3 ∨ i = 4 ∨ i = 5 ∨ i = 6 ∨ i = 7 ∨ i = 8 ∨ i = 9 ∨ i = 10 ∨ i = 11 ∨ i = 12 ∨ i = 13 by omega) with rfl | rfl | rfl | rfl | rfl | rfl | rfl | rfl | rfl | rfl | rfl | rfl | rfl | rfl
  · exact hW.1 0 _ rfl
  · exact hW.1 1 _ rfl
  · exact hW.1 2 _ rfl
  · exact hW.1 3 _ rfl
  · exact hW.1 4 _ rfl
  · exact zref (hW.1 5 _ rfl) (fun j hj => by rcases (show j = 0 ∨ j = 1 ∨ j = 2 ∨ j = 3 ∨ j = 4 by omega) with rfl | rfl | rfl | rfl | rfl <;> rfl) (fun j hj => by rw [if_neg (by omega), if_neg (by show ¬ j < 5; omega)])
  · exact hW.1 6 _ rfl
  · exact hW.1 7 _ rfl
  · exact hW.1 8 _ rfl
  · exact hW.1 9 _ rfl
  · exact hW.1 10 _ rfl
  · exact hW.1 11 _ rfl
  · exact hW.1 12 _ rfl
  · exact hW.1 13 _ rfl

set_option maxRecDepth 20000 in
set_option maxHeartbeats 4000000 in
theorem kX0_init_15 {l : Launch} {Z : zZ} (hl : l.stackTraces = false) (d : Nat) : zCt l Z yX0_init cX0_init 1 (d + 2) 13 250 0 15 14 := by
  refine zCt_of (ad := fun k => k) hl (by decide +kernel) rfl (by decide) (fun h0 X hC hX hNX => ?_)
  refine zh_aload_n hC 0 dX0_init_0 rfl ?_
  refine zh_obj hC dX0_init_1 obX0 obI obC (Nat.le_of_ble_eq_true rfl) ?_
  refine zh_aload_n hC 0 dX0_init_4 rfl ?_
  refine zh_iconst hC (v := 5) dX0_init_5 (by decide) ?_
  refine zh_newI hC (N' := 5) dX0_init_6 arrI (by decide) (by decide) (by decide) (zh_room hX (by decide)) (fun q1 => ?_)
  refine zh_put hC (zh_in hX) (p0 := 0) (ty := .array .int) (ws' := [(h0, .inr (0, [.int 0, .ref q1, .null, .null, .null, .null, .null, .int 0, .null, .null, .long 0, .long 0])), (q1, .inl (Z.2.1, 5, .inl (fun _ => 0)))]) feX0_9 dX0_init_8 ⟨tyX0, tyX0_ok⟩ nmX0 rfl rfl (by decide +kernel) rfl rfl rfl rfl rfl ?_
  refine zh_aload_n hC 0 dX0_init_11 rfl ?_
  refine zh_iconst hC (v := 5) dX0_init_12 (by decide) ?_
  refine zh_newI hC (N' := 5) dX0_init_13 arrI (by decide) (by decide) (by decide) (zh_room hX (by decide)) (fun q2 => ?_)
  refine zh_put hC (zh_in hX) (p0 := 0) (ty := .array .int) (ws' := [(h0, .inr (0, [.int 0, .ref q1, .ref q2, .null, .null, .null, .null, .int 0, .null, .null, .long 0, .long 0])), (q1, .inl (Z.2.1, 5, .inl (fun _ => 0))), (q2, .inl (Z.2.1, 5, .inl (fun _ => 0)))]) feX0_15 dX0_init_15 ⟨tyX0, tyX0_ok⟩ nmX0 rfl rfl (by decide +kernel) rfl rfl rfl rfl rfl ?_
  refine zh_aload_n hC 0 dX0_init_18 rfl ?_
  refine zh_iconst hC (v := 5) dX0_init_19 (by decide) ?_
  refine zh_newI hC (N' := 5) dX0_init_20 arrI (by decide) (by decide) (by decide) (zh_room hX (by decide)) (fun q3 => ?_)
  refine zh_put hC (zh_in hX) (p0 := 0) (ty := .array .int) (ws' := [(h0, .inr (0, [.int 0, .ref q1, .ref q2, .ref q3, .null, .null, .null, .int 0, .null, .null, .long 0, .long 0])), (q1, .inl (Z.2.1, 5, .inl (fun _ => 0))), (q2, .inl (Z.2.1, 5, .inl (fun _ => 0))), (q3, .inl (Z.2.1, 5, .inl (fun _ => 0)))]) feX0_18 dX0_init_22 ⟨tyX0, tyX0_ok⟩ nmX0 rfl rfl (by decide +kernel) rfl rfl rfl rfl rfl ?_
  refine zh_aload_n hC 0 dX0_init_25 rfl ?_
  refine zh_iconst hC (v := 5) dX0_init_26 (by decide) ?_
  refine zh_newI hC (N' := 5) dX0_init_27 arrI (by decide) (by decide) (by decide) (zh_room hX (by decide)) (fun q4 => ?_)
  refine zh_put hC (zh_in hX) (p0 := 0) (ty := .array .int) (ws' := [(h0, .inr (0, [.int 0, .ref q1, .ref q2, .ref q3, .ref q4, .null, .null, .int 0, .null, .null, .long 0, .long 0])), (q1, .inl (Z.2.1, 5, .inl (fun _ => 0))), (q2, .inl (Z.2.1, 5, .inl (fun _ => 0))), (q3, .inl (Z.2.1, 5, .inl (fun _ => 0))), (q4, .inl (Z.2.1, 5, .inl (fun _ => 0)))]) feX0_21 dX0_init_29 ⟨tyX0, tyX0_ok⟩ nmX0 rfl rfl (by decide +kernel) rfl rfl rfl rfl rfl ?_
  refine zh_aload_n hC 0 dX0_init_32 rfl ?_
  refine zh_iconst hC (v := 5) dX0_init_33 (by decide) ?_
  refine zh_bipush hC (v := 20) dX0_init_34 (by decide) ?_
  refine zh_mna hC hX (K' := 20) dX0_init_36 mcX0_24 arrI (by decide) (by decide) (by decide) (by decide) (fun q5 r5 => ?_)
  refine zh_put hC (zh_in hX) (p0 := 0) (ty := .array (.array .int)) (ws' := [(h0, .inr (0, [.int 0, .ref q1, .ref q2, .ref q3, .ref q4, .ref q5, .null, .int 0, .null, .null, .long 0, .long 0])), (q1, .inl (Z.2.1, 5, .inl (fun _ => 0))), (q2, .inl (Z.2.1, 5, .inl (fun _ => 0))), (q3, .inl (Z.2.1, 5, .inl (fun _ => 0))), (q4, .inl (Z.2.1, 5, .inl (fun _ => 0))), (q5, .inl (Z.2.2.2, 5, .inr (.inr (.inr (.inr (fun i => if i < 5 then some (r5 i) else none)))))), (r5 0, .inl (Z.2.1, 20, .inl (fun _ => 0))), (r5 1, .inl (Z.2.1, 20, .inl (fun _ => 0))), (r5 2, .inl (Z.2.1, 20, .inl (fun _ => 0))), (r5 3, .inl (Z.2.1, 20, .inl (fun _ => 0))), (r5 4, .inl (Z.2.1, 20, .inl (fun _ => 0)))]) feX0_26 dX0_init_40 ⟨tyX0, tyX0_ok⟩ nmX0 rfl rfl (by decide +kernel) rfl rfl rfl rfl rfl ?_
  refine zh_aload_n hC 0 dX0_init_43 rfl ?_
  refine zh_iconst hC (v := 5) dX0_init_44 (by decide) ?_
  refine zh_newI hC (N' := 5) dX0_init_45 arrI (by decide) (by decide) (by decide) (zh_room hX (by decide)) (fun q6 => ?_)
  refine zh_put hC (zh_in hX) (p0 := 0) (ty := .array .int) (ws' := [(h0, .inr (0, [.int 0, .ref q1, .ref q2, .ref q3, .ref q4, .ref q5, .ref q6, .int 0, .null, .null, .long 0, .long 0])), (q1, .inl (Z.2.1, 5, .inl (fun _ => 0))), (q2, .inl (Z.2.1, 5, .inl (fun _ => 0))), (q3, .inl (Z.2.1, 5, .inl (fun _ => 0))), (q4, .inl (Z.2.1, 5, .inl (fun _ => 0))), (q5, .inl (Z.2.2.2, 5, .inr (.inr (.inr (.inr (fun i => if i < 5 then some (r5 i) else none)))))), (r5 0, .inl (Z.2.1, 20, .inl (fun _ => 0))), (r5 1, .inl (Z.2.1, 20, .inl (fun _ => 0))), (r5 2, .inl (Z.2.1, 20, .inl (fun _ => 0))), (r5 3, .inl (Z.2.1, 20, .inl (fun _ => 0))), (r5 4, .inl (Z.2.1, 20, .inl (fun _ => 0))), (q6, .inl (Z.2.1, 5, .inl (fun _ => 0)))]) feX0_29 dX0_init_47 ⟨tyX0, tyX0_ok⟩ nmX0 rfl rfl (by decide +kernel) rfl rfl rfl rfl rfl ?_
  refine zh_aload_n hC 0 dX0_init_50 rfl ?_
  refine zh_bipush hC (v := 60) dX0_init_51 (by decide) ?_
  refine zh_newI hC (N' := 60) dX0_init_53 arrI (by decide) (by decide) (by decide) (zh_room hX (by decide)) (fun q7 => ?_)
  refine zh_put hC (zh_in hX) (p0 := 0) (ty := .array .int) (ws' := [(h0, .inr (0, [.int 0, .ref q1, .ref q2, .ref q3, .ref q4, .ref q5, .ref q6, .int 0, .ref q7, .null, .long 0, .long 0])), (q1, .inl (Z.2.1, 5, .inl (fun _ => 0))), (q2, .inl (Z.2.1, 5, .inl (fun _ => 0))), (q3, .inl (Z.2.1, 5, .inl (fun _ => 0))), (q4, .inl (Z.2.1, 5, .inl (fun _ => 0))), (q5, .inl (Z.2.2.2, 5, .inr (.inr (.inr (.inr (fun i => if i < 5 then some (r5 i) else none)))))), (r5 0, .inl (Z.2.1, 20, .inl (fun _ => 0))), (r5 1, .inl (Z.2.1, 20, .inl (fun _ => 0))), (r5 2, .inl (Z.2.1, 20, .inl (fun _ => 0))), (r5 3, .inl (Z.2.1, 20, .inl (fun _ => 0))), (r5 4, .inl (Z.2.1, 20, .inl (fun _ => 0))), (q6, .inl (Z.2.1, 5, .inl (fun _ => 0))), (q7, .inl (Z.2.1, 60, .inl (fun _ => 0)))]) feX0_32 dX0_init_55 ⟨tyX0, tyX0_ok⟩ nmX0 rfl rfl (by decide +kernel) rfl rfl rfl rfl rfl ?_
  refine zh_aload_n hC 0 dX0_init_58 rfl ?_
  refine zh_bipush hC (v := 60) dX0_init_59 (by decide) ?_
  refine zh_newI hC (N' := 60) dX0_init_61 arrI (by decide) (by decide) (by decide) (zh_room hX (by decide)) (fun q8 => ?_)
  refine zh_put hC (zh_in hX) (p0 := 0) (ty := .array .int) (ws' := [(h0, .inr (0, [.int 0, .ref q1, .ref q2, .ref q3, .ref q4, .ref q5, .ref q6, .int 0, .ref q7, .ref q8, .long 0, .long 0])), (q1, .inl (Z.2.1, 5, .inl (fun _ => 0))), (q2, .inl (Z.2.1, 5, .inl (fun _ => 0))), (q3, .inl (Z.2.1, 5, .inl (fun _ => 0))), (q4, .inl (Z.2.1, 5, .inl (fun _ => 0))), (q5, .inl (Z.2.2.2, 5, .inr (.inr (.inr (.inr (fun i => if i < 5 then some (r5 i) else none)))))), (r5 0, .inl (Z.2.1, 20, .inl (fun _ => 0))), (r5 1, .inl (Z.2.1, 20, .inl (fun _ => 0))), (r5 2, .inl (Z.2.1, 20, .inl (fun _ => 0))), (r5 3, .inl (Z.2.1, 20, .inl (fun _ => 0))), (r5 4, .inl (Z.2.1, 20, .inl (fun _ => 0))), (q6, .inl (Z.2.1, 5, .inl (fun _ => 0))), (q7, .inl (Z.2.1, 60, .inl (fun _ => 0))), (q8, .inl (Z.2.1, 60, .inl (fun _ => 0)))]) feX0_35 dX0_init_63 ⟨tyX0, tyX0_ok⟩ nmX0 rfl rfl (by decide +kernel) rfl rfl rfl rfl rfl ?_
  obtain ⟨M2, hM2, hM3⟩ := runX0_init_15
  refine zh_run hC hX (by decide) (by decide) (o := 15) (n := 14) (M1 := zMz) (M2 := M2) (o' := fX0_init_B66 15 100 zMz) (fun sz H hW hlt => ?_) hM2 (fun ad1 H hW => hM3 Z ad1 H hW) (fun ls h => h) (fun ad1 X' hC' hE hN => gX0_init_B66 hC' hE hN (Or.inr rfl) (zlvA _) 100 zMz) hNX
  refine zIR_of (o := 15) (n := 14) (M := zMz) hW rfl rfl (fun i hi => ?_)
  rcases (show i = 0 ∨ i = 1 ∨ i = 2 ∨ i = 3 ∨ i = 4 ∨ i = 5 ∨ i = 6 ∨ i = 7 ∨ i = 8 ∨ i = 9 ∨ i = 10 ∨ i = 11 ∨ i = 12 ∨ i = 13 by omega) with rfl | rfl | rfl | rfl | rfl | rfl | rfl | rfl | rfl | rfl | rfl | rfl | rfl | rfl
  · exact hW.1 0 _ rfl
  · exact hW.1 1 _ rfl
  · exact hW.1 2 _ rfl
  · exact hW.1 3 _ rfl
  · exact hW.1 4 _ rfl
  · exact zref (hW.1 5 _ rfl) (fun j hj => by rcases (show j = 0 ∨ j = 1 ∨ j = 2 ∨ j = 3 ∨ j = 4 by omega) with rfl | rfl | rfl | rfl | rfl <;> rfl) (fun j hj => by rw [if_neg (by omega), if_neg (by show ¬ j < 5; omega)])
  · exact hW.1 6 _ rfl
  · exact hW.1 7 _ rfl
  · exact hW.1 8 _ rfl
  · exact hW.1 9 _ rfl
  · exact hW.1 10 _ rfl
  · exact hW.1 11 _ rfl
  · exact hW.1 12 _ rfl
  · exact hW.1 13 _ rfl

set_option maxRecDepth 20000 in
set_option maxHeartbeats 4000000 in
theorem kX4_init {l : Launch} {Z : zZ} (hl : l.stackTraces = false) (d : Nat) : zCt l Z yX4_init cX4_init 2 (d + 1) 7 265 4 45 8 := by
  refine zCt_of (ad := fun k => k) hl (by decide +kernel) rfl (by decide) (fun h0 X hC hX hNX => ?_)
  refine zh_aload_n hC 0 dX4_init_0 rfl ?_
  refine zh_obj hC dX4_init_1 obX4 obI obC (Nat.le_of_ble_eq_true rfl) ?_
  refine zh_aload_n hC 0 dX4_init_4 rfl ?_
  refine zh_iconst hC (v := 5) dX4_init_5 (by decide) ?_
  refine zh_bipush hC (v := 51) dX4_init_6 (by decide) ?_
  refine zh_mna hC hX (K' := 51) dX4_init_8 mcX4_9 arrI (by decide) (by decide) (by decide) (by decide) (fun q1 r1 => ?_)
  refine zh_put hC (zh_in hX) (p0 := 0) (ty := .array (.array .int)) (ws' := [(h0, .inr (4, [.int 0, .ref q1, .null])), (q1, .inl (Z.2.2.2, 5, .inr (.inr (.inr (.inr (fun i => if i < 5 then some (r1 i) else none)))))), (r1 0, .inl (Z.2.1, 51, .inl (fun _ => 0))), (r1 1, .inl (Z.2.1, 51, .inl (fun _ => 0))), (r1 2, .inl (Z.2.1, 51, .inl (fun _ => 0))), (r1 3, .inl (Z.2.1, 51, .inl (fun _ => 0))), (r1 4, .inl (Z.2.1, 51, .inl (fun _ => 0)))]) feX4_11 dX4_init_12 ⟨tyX4, tyX4_ok⟩ nmX4 rfl rfl (by decide +kernel) rfl rfl rfl rfl rfl ?_
  refine zh_aload_n hC 0 dX4_init_15 rfl ?_
  refine zh_iconst hC (v := 5) dX4_init_16 (by decide) ?_
  refine zh_newI hC (N' := 5) dX4_init_17 arrI (by decide) (by decide) (by decide) (zh_room hX (by decide)) (fun q2 => ?_)
  refine zh_put hC (zh_in hX) (p0 := 0) (ty := .array .int) (ws' := [(h0, .inr (4, [.int 0, .ref q1, .ref q2])), (q1, .inl (Z.2.2.2, 5, .inr (.inr (.inr (.inr (fun i => if i < 5 then some (r1 i) else none)))))), (r1 0, .inl (Z.2.1, 51, .inl (fun _ => 0))), (r1 1, .inl (Z.2.1, 51, .inl (fun _ => 0))), (r1 2, .inl (Z.2.1, 51, .inl (fun _ => 0))), (r1 3, .inl (Z.2.1, 51, .inl (fun _ => 0))), (r1 4, .inl (Z.2.1, 51, .inl (fun _ => 0))), (q2, .inl (Z.2.1, 5, .inl (fun _ => 0)))]) feX4_16 dX4_init_19 ⟨tyX4, tyX4_ok⟩ nmX4 rfl rfl (by decide +kernel) rfl rfl rfl rfl rfl ?_
  obtain ⟨M2, hM2, hM3⟩ := runX4_init
  refine zh_run hC hX (by decide) (by decide) (o := 45) (n := 8) (M1 := zMz) (M2 := M2) (o' := fX4_init_B22 100 zMz) (fun sz H hW hlt => ?_) hM2 (fun ad1 H hW => hM3 Z ad1 H hW) (fun ls h => h) (fun ad1 X' hC' hE hN => gX4_init_B22 hC' hE hN 100 zMz) hNX
  refine zIR_of (o := 45) (n := 8) (M := zMz) hW rfl rfl (fun i hi => ?_)
  rcases (show i = 0 ∨ i = 1 ∨ i = 2 ∨ i = 3 ∨ i = 4 ∨ i = 5 ∨ i = 6 ∨ i = 7 by omega) with rfl | rfl | rfl | rfl | rfl | rfl | rfl | rfl
  · exact hW.1 0 _ rfl
  · exact zref (hW.1 1 _ rfl) (fun j hj => by rcases (show j = 0 ∨ j = 1 ∨ j = 2 ∨ j = 3 ∨ j = 4 by omega) with rfl | rfl | rfl | rfl | rfl <;> rfl) (fun j hj => by rw [if_neg (by omega), if_neg (by show ¬ j < 5; omega)])
  · exact hW.1 2 _ rfl
  · exact hW.1 3 _ rfl
  · exact hW.1 4 _ rfl
  · exact hW.1 5 _ rfl
  · exact hW.1 6 _ rfl
  · exact hW.1 7 _ rfl

