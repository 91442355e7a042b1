set_option maxRecDepth 20000 in
set_option maxHeartbeats 4000000 in
theorem gL_law_B2594 {l : Launch} {Z : zZ} {ad : Nat → Nat} {X : zX} {b Ls : Nat} {xs : Nat → Int32} (hC : zC l Z zfull ad X RL cL_law 7 ret 12) (hX : zScr X b Ls xs) (hW0 : zLaw X b) (N : Nat) {n : Nat} {again23 : Int32 → zMem → zRES} (hag23 : ∀ (cs : Nat × Nat), zB n cs → ∀ (v4 : Int32) (M : zMem), zG l Z zfull ad X cs 23 [(0, .ref b), (1, .ref (ad 0)), (2, .ref (ad 62)), (3, .ref (ad 87)), (4, .int v4)] [] M (again23 v4 M)) {cs : Nat × Nat} (hB : zB n cs) (v4 : Int32) (M : zMem) : zG l Z zfull ad X cs 2594 [(0, .ref b), (1, .ref (ad 0)), (2, .ref (ad 62)), (3, .ref (ad 87)), (4, .int v4)] [] M (fL_law_B2594 N Ls xs again23 v4 M) := by
  unfold fL_law_B2594
  refine zg_iinc hC 4 (v := v4 + 5) (L' := [(4, _), (0, _), (1, _), (2, _), (3, _)]) dL_law_2594 rfl (by rfl) (by decide) rfl ?_
  refine zg_goto hC (tgt := 23) dL_law_2597 (by decide) ?_
  exact zg_sub [1, 2, 3, 4, 0] rfl (hag23 _ hB (v4 + 5) M)
set_option maxRecDepth 20000 in
set_option maxHeartbeats 4000000 in
theorem gL_law_B2538 {l : Launch} {Z : zZ} {ad : Nat → Nat} {X : zX} {b Ls : Nat} {xs : Nat → Int32} (hC : zC l Z zfull ad X RL cL_law 7 ret 12) (hX : zScr X b Ls xs) (hW0 : zLaw X b) (N : Nat) {n : Nat} {again23 : Int32 → zMem → zRES} (hag23 : ∀ (cs : Nat × Nat), zB n cs → ∀ (v4 : Int32) (M : zMem), zG l Z zfull ad X cs 23 [(0, .ref b), (1, .ref (ad 0)), (2, .ref (ad 62)), (3, .ref (ad 87)), (4, .int v4)] [] M (again23 v4 M)) {cs : Nat × Nat} (hB : zB (n + 1) cs) (v4 : Int32) (M : zMem) : zG l Z zfull ad X cs 2538 [(0, .ref b), (1, .ref (ad 0)), (2, .ref (ad 62)), (3, .ref (ad 87)), (4, .int v4)] [] M (fL_law_B2538 N Ls xs again23 v4 M) := by
  unfold fL_law_B2538
  refine zg_aload_n hC 1 dL_law_2538 rfl ?_
  refine zg_aload_n hC 0 dL_law_2539 rfl ?_
  refine zg_iload hC 4 dL_law_2540 rfl ?_
  refine zg_iconst hC (v := 1) dL_law_2542 (by decide) ?_
  refine zg_iadd hC dL_law_2543 ?_
  refine zg_sld hC hX dL_law_2544 (fun h1 => ?_)
  refine zg_aload_n hC 3 dL_law_2545 rfl ?_
  refine zg_callWL hC hW0 hB (As := [.ref (ad 0), .int (xs (v4 + 1).toNatClampNeg), .ref (ad 87)]) (S := []) rfl (tL_why (zflag hC) 3 N (xs (v4 + 1).toNatClampNeg) M) lkL_279 rfl dL_law_2546 (Nat.le_of_ble_eq_true rfl) (fun r2 M3 er2 => ?_)
  have hB4 := zB_step hB
  refine zg_istore hC (L' := [(5, _), (0, _), (1, _), (2, _), (3, _), (4, _)]) dL_law_2549 (by decide) rfl ?_
  refine zg_aload_n hC 3 dL_law_2551 rfl ?_
  refine zg_aload_n hC 1 dL_law_2552 rfl ?_
  refine zg_iload hC 5 dL_law_2553 rfl ?_
  refine zg_iconst hC (v := 1) dL_law_2555 (by decide) ?_
  refine zg_iadd hC dL_law_2556 ?_
  refine zg_sld hC hX dL_law_2557 (fun h5 => ?_)
  refine zg_callVL hC hW0 hB4 (k := 62) (As := [.int (xs (v4 + 1).toNatClampNeg)]) (S := []) rfl (tX8_why (zflag hC) 9 N (xs (v4 + 1).toNatClampNeg) M3) lkL_281 rfl dL_law_2558 zq62 zk62 rfl rfl (Nat.le_of_ble_eq_true rfl) (fun r6 M7 er6 => ?_)
  refine zg_istore hC (L' := [(6, _), (5, _), (0, _), (1, _), (2, _), (3, _), (4, _)]) dL_law_2561 (by decide) rfl ?_
  refine zg_aload_n hC 4 dL_law_2563 rfl ?_
  refine zg_callVL hC hW0 hB4 (k := 62) (As := []) (S := []) rfl (tX8_thrown (zflag hC) 11 N M7) lkL_143 rfl dL_law_2564 zq62 zk62 rfl rfl (Nat.le_of_ble_eq_true rfl) (fun r8 M9 er8 => ?_)
  refine zg_iload hC 1 dL_law_2567 rfl ?_
  refine zg_icmp_eq hC (tgt := 2574) dL_law_2569 (by decide) (fun c10 => ?_) (fun c10 => ?_)
  · refine zg_iload hC 1 dL_law_2574 rfl ?_
    refine zg_if_ne hC (tgt := 2591) dL_law_2576 (by decide) (fun c11 => ?_) (fun c11 => ?_)
    · refine zg_aload_n hC 5 dL_law_2579 rfl ?_
      refine zg_iconst hC (v := 0) dL_law_2580 (by decide) ?_
      refine zg_lald hC (k := 87) dL_law_2581 zq87 zk87 (fun h12 => ?_)
      refine zg_iload hC 0 dL_law_2582 rfl ?_
      refine zg_i2l hC dL_law_2584 ?_
      refine zg_lcmp hC dL_law_2585 ?_
      refine zg_if_eq hC (tgt := 2591) dL_law_2586 (by decide) (fun c13 => ?_) (fun c13 => ?_)
      · refine zg_goto hC (tgt := 2594) dL_law_2591 (by decide) ?_
        exact zg_sub [2, 3, 4, 5, 6] rfl (gL_law_B2594 hC hX hW0 N hag23 hB4 v4 M9)
      · refine zg_iconst hC (v := 0) dL_law_2589 (by decide) ?_
        exact zg_none
    · refine zg_goto hC (tgt := 2594) dL_law_2591 (by decide) ?_
      exact zg_sub [2, 3, 4, 5, 6] rfl (gL_law_B2594 hC hX hW0 N hag23 hB4 v4 M9)
  · refine zg_iconst hC (v := 0) dL_law_2572 (by decide) ?_
    exact zg_none
set_option maxRecDepth 20000 in
set_option maxHeartbeats 4000000 in
theorem gL_law_B2482 {l : Launch} {Z : zZ} {ad : Nat → Nat} {X : zX} {b Ls : Nat} {xs : Nat → Int32} (hC : zC l Z zfull ad X RL cL_law 7 ret 12) (hX : zScr X b Ls xs) (hW0 : zLaw X b) (N : Nat) {n : Nat} {again23 : Int32 → zMem → zRES} (hag23 : ∀ (cs : Nat × Nat), zB n cs → ∀ (v4 : Int32) (M : zMem), zG l Z zfull ad X cs 23 [(0, .ref b), (1, .ref (ad 0)), (2, .ref (ad 62)), (3, .ref (ad 87)), (4, .int v4)] [] M (again23 v4 M)) {cs : Nat × Nat} (hB : zB (n + 1) cs) (v4 : Int32) (M : zMem) : zG l Z zfull ad X cs 2482 [(0, .ref b), (1, .ref (ad 0)), (2, .ref (ad 62)), (3, .ref (ad 87)), (4, .int v4)] [] M (fL_law_B2482 N Ls xs again23 v4 M) := by
  unfold fL_law_B2482
  refine zg_aload_n hC 1 dL_law_2482 rfl ?_
  refine zg_aload_n hC 0 dL_law_2483 rfl ?_
  refine zg_iload hC 4 dL_law_2484 rfl ?_
  refine zg_iconst hC (v := 1) dL_law_2486 (by decide) ?_
  refine zg_iadd hC dL_law_2487 ?_
  refine zg_sld hC hX dL_law_2488 (fun h14 => ?_)
  refine zg_aload_n hC 3 dL_law_2489 rfl ?_
  refine zg_callWL hC hW0 hB (As := [.ref (ad 0), .int (xs (v4 + 1).toNatClampNeg), .ref (ad 87)]) (S := []) rfl (tL_calledBack (zflag hC) 3 N (xs (v4 + 1).toNatClampNeg) M) lkL_276 rfl dL_law_2490 (Nat.le_of_ble_eq_true rfl) (fun r15 M16 er15 => ?_)
  have hB17 := zB_step hB
  refine zg_istore hC (L' := [(5, _), (0, _), (1, _), (2, _), (3, _), (4, _)]) dL_law_2493 (by decide) rfl ?_
  refine zg_aload_n hC 3 dL_law_2495 rfl ?_
  refine zg_aload_n hC 1 dL_law_2496 rfl ?_
  refine zg_iload hC 5 dL_law_2497 rfl ?_
  refine zg_iconst hC (v := 1) dL_law_2499 (by decide) ?_
  refine zg_iadd hC dL_law_2500 ?_
  refine zg_sld hC hX dL_law_2501 (fun h18 => ?_)
  refine zg_callVL hC hW0 hB17 (k := 62) (As := [.int (xs (v4 + 1).toNatClampNeg)]) (S := []) rfl (tX8_calledBack (zflag hC) 9 N (xs (v4 + 1).toNatClampNeg) M16) lkL_278 rfl dL_law_2502 zq62 zk62 rfl rfl (Nat.le_of_ble_eq_true rfl) (fun r19 M20 er19 => ?_)
  refine zg_istore hC (L' := [(6, _), (5, _), (0, _), (1, _), (2, _), (3, _), (4, _)]) dL_law_2505 (by decide) rfl ?_
  refine zg_aload_n hC 4 dL_law_2507 rfl ?_
  refine zg_callVL hC hW0 hB17 (k := 62) (As := []) (S := []) rfl (tX8_thrown (zflag hC) 11 N M20) lkL_143 rfl dL_law_2508 zq62 zk62 rfl rfl (Nat.le_of_ble_eq_true rfl) (fun r21 M22 er21 => ?_)
  refine zg_iload hC 1 dL_law_2511 rfl ?_
  refine zg_icmp_eq hC (tgt := 2518) dL_law_2513 (by decide) (fun c23 => ?_) (fun c23 => ?_)
  · refine zg_iload hC 1 dL_law_2518 rfl ?_
    refine zg_if_ne hC (tgt := 2535) dL_law_2520 (by decide) (fun c24 => ?_) (fun c24 => ?_)
    · refine zg_aload_n hC 5 dL_law_2523 rfl ?_
      refine zg_iconst hC (v := 0) dL_law_2524 (by decide) ?_
      refine zg_lald hC (k := 87) dL_law_2525 zq87 zk87 (fun h25 => ?_)
      refine zg_iload hC 0 dL_law_2526 rfl ?_
      refine zg_i2l hC dL_law_2528 ?_
      refine zg_lcmp hC dL_law_2529 ?_
      refine zg_if_eq hC (tgt := 2535) dL_law_2530 (by decide) (fun c26 => ?_) (fun c26 => ?_)
      · refine zg_goto hC (tgt := 2594) dL_law_2535 (by decide) ?_
        exact zg_sub [2, 3, 4, 5, 6] rfl (gL_law_B2594 hC hX hW0 N hag23 hB17 v4 M22)
      · refine zg_iconst hC (v := 0) dL_law_2533 (by decide) ?_
        exact zg_none
    · refine zg_goto hC (tgt := 2594) dL_law_2535 (by decide) ?_
      exact zg_sub [2, 3, 4, 5, 6] rfl (gL_law_B2594 hC hX hW0 N hag23 hB17 v4 M22)
  · refine zg_iconst hC (v := 0) dL_law_2516 (by decide) ?_
    exact zg_none
set_option maxRecDepth 20000 in
set_option maxHeartbeats 4000000 in
theorem gL_law_B2426 {l : Launch} {Z : zZ} {ad : Nat → Nat} {X : zX} {b Ls : Nat} {xs : Nat → Int32} (hC : zC l Z zfull ad X RL cL_law 7 ret 12) (hX : zScr X b Ls xs) (hW0 : zLaw X b) (N : Nat) {n : Nat} {again23 : Int32 → zMem → zRES} (hag23 : ∀ (cs : Nat × Nat), zB n cs → ∀ (v4 : Int32) (M : zMem), zG l Z zfull ad X cs 23 [(0, .ref b), (1, .ref (ad 0)), (2, .ref (ad 62)), (3, .ref (ad 87)), (4, .int v4)] [] M (again23 v4 M)) {cs : Nat × Nat} (hB : zB (n + 1) cs) (v4 : Int32) (M : zMem) : zG l Z zfull ad X cs 2426 [(0, .ref b), (1, .ref (ad 0)), (2, .ref (ad 62)), (3, .ref (ad 87)), (4, .int v4)] [] M (fL_law_B2426 N Ls xs again23 v4 M) := by
  unfold fL_law_B2426
  refine zg_aload_n hC 1 dL_law_2426 rfl ?_
  refine zg_aload_n hC 0 dL_law_2427 rfl ?_
  refine zg_iload hC 4 dL_law_2428 rfl ?_
  refine zg_iconst hC (v := 1) dL_law_2430 (by decide) ?_
  refine zg_iadd hC dL_law_2431 ?_
  refine zg_sld hC hX dL_law_2432 (fun h27 => ?_)
  refine zg_aload_n hC 3 dL_law_2433 rfl ?_
  refine zg_callWL hC hW0 hB (As := [.ref (ad 0), .int (xs (v4 + 1).toNatClampNeg), .ref (ad 87)]) (S := []) rfl (tL_recallOf (zflag hC) 3 N (xs (v4 + 1).toNatClampNeg) M) lkL_273 rfl dL_law_2434 (Nat.le_of_ble_eq_true rfl) (fun r28 M29 er28 => ?_)
  have hB30 := zB_step hB
  refine zg_istore hC (L' := [(5, _), (0, _), (1, _), (2, _), (3, _), (4, _)]) dL_law_2437 (by decide) rfl ?_
  refine zg_aload_n hC 3 dL_law_2439 rfl ?_
  refine zg_aload_n hC 1 dL_law_2440 rfl ?_
  refine zg_iload hC 5 dL_law_2441 rfl ?_
  refine zg_iconst hC (v := 1) dL_law_2443 (by decide) ?_
  refine zg_iadd hC dL_law_2444 ?_
  refine zg_sld hC hX dL_law_2445 (fun h31 => ?_)
  refine zg_callVL hC hW0 hB30 (k := 62) (As := [.int (xs (v4 + 1).toNatClampNeg)]) (S := []) rfl (tX8_recallOf (zflag hC) 9 N (xs (v4 + 1).toNatClampNeg) M29) lkL_275 rfl dL_law_2446 zq62 zk62 rfl rfl (Nat.le_of_ble_eq_true rfl) (fun r32 M33 er32 => ?_)
  refine zg_istore hC (L' := [(6, _), (5, _), (0, _), (1, _), (2, _), (3, _), (4, _)]) dL_law_2449 (by decide) rfl ?_
  refine zg_aload_n hC 4 dL_law_2451 rfl ?_
  refine zg_callVL hC hW0 hB30 (k := 62) (As := []) (S := []) rfl (tX8_thrown (zflag hC) 11 N M33) lkL_143 rfl dL_law_2452 zq62 zk62 rfl rfl (Nat.le_of_ble_eq_true rfl) (fun r34 M35 er34 => ?_)
  refine zg_iload hC 1 dL_law_2455 rfl ?_
  refine zg_icmp_eq hC (tgt := 2462) dL_law_2457 (by decide) (fun c36 => ?_) (fun c36 => ?_)
  · refine zg_iload hC 1 dL_law_2462 rfl ?_
    refine zg_if_ne hC (tgt := 2479) dL_law_2464 (by decide) (fun c37 => ?_) (fun c37 => ?_)
    · refine zg_aload_n hC 5 dL_law_2467 rfl ?_
      refine zg_iconst hC (v := 0) dL_law_2468 (by decide) ?_
      refine zg_lald hC (k := 87) dL_law_2469 zq87 zk87 (fun h38 => ?_)
      refine zg_iload hC 0 dL_law_2470 rfl ?_
      refine zg_i2l hC dL_law_2472 ?_
      refine zg_lcmp hC dL_law_2473 ?_
      refine zg_if_eq hC (tgt := 2479) dL_law_2474 (by decide) (fun c39 => ?_) (fun c39 => ?_)
      · refine zg_goto hC (tgt := 2594) dL_law_2479 (by decide) ?_
        exact zg_sub [2, 3, 4, 5, 6] rfl (gL_law_B2594 hC hX hW0 N hag23 hB30 v4 M35)
      · refine zg_iconst hC (v := 0) dL_law_2477 (by decide) ?_
        exact zg_none
    · refine zg_goto hC (tgt := 2594) dL_law_2479 (by decide) ?_
      exact zg_sub [2, 3, 4, 5, 6] rfl (gL_law_B2594 hC hX hW0 N hag23 hB30 v4 M35)
  · refine zg_iconst hC (v := 0) dL_law_2460 (by decide) ?_
    exact zg_none
set_option maxRecDepth 20000 in
set_option maxHeartbeats 4000000 in
theorem gL_law_B2413 {l : Launch} {Z : zZ} {ad : Nat → Nat} {X : zX} {b Ls : Nat} {xs : Nat → Int32} (hC : zC l Z zfull ad X RL cL_law 7 ret 12) (hX : zScr X b Ls xs) (hW0 : zLaw X b) (N : Nat) {n : Nat} {again23 : Int32 → zMem → zRES} (hag23 : ∀ (cs : Nat × Nat), zB n cs → ∀ (v4 : Int32) (M : zMem), zG l Z zfull ad X cs 23 [(0, .ref b), (1, .ref (ad 0)), (2, .ref (ad 62)), (3, .ref (ad 87)), (4, .int v4)] [] M (again23 v4 M)) {cs : Nat × Nat} (hB : zB (n + 1) cs) (v4 : Int32) (M : zMem) : zG l Z zfull ad X cs 2413 [(0, .ref b), (1, .ref (ad 0)), (2, .ref (ad 62)), (3, .ref (ad 87)), (4, .int v4)] [] M (fL_law_B2413 N Ls xs again23 v4 M) := by
  unfold fL_law_B2413
  refine zg_aload_n hC 1 dL_law_2413 rfl ?_
  refine zg_callVL hC hW0 hB (k := 0) (As := []) (S := []) rfl (tX7_recalls (zflag hC) 11 N M) lkL_269 rfl dL_law_2414 zq0 zk0 rfl rfl (Nat.le_of_ble_eq_true rfl) (fun r40 M41 er40 => ?_)
  refine zg_aload_n hC 2 dL_law_2417 rfl ?_
  refine zg_callVL hC hW0 hB (k := 62) (As := []) (S := [.int r40]) rfl (tX8_recalls (zflag hC) 11 N M41) lkL_272 rfl dL_law_2418 zq62 zk62 rfl rfl (Nat.le_of_ble_eq_true rfl) (fun r42 M43 er42 => ?_)
  refine zg_icmp_eq hC (tgt := 2594) dL_law_2421 (by decide) (fun c44 => ?_) (fun c44 => ?_)
  · exact zg_sub [0, 1, 2, 3, 4] rfl (gL_law_B2594 hC hX hW0 N hag23 (zB_le hB) v4 M43)
  · refine zg_iconst hC (v := 0) dL_law_2424 (by decide) ?_
    exact zg_none
set_option maxRecDepth 20000 in
set_option maxHeartbeats 4000000 in
theorem gL_law_B2345 {l : Launch} {Z : zZ} {ad : Nat → Nat} {X : zX} {b Ls : Nat} {xs : Nat → Int32} (hC : zC l Z zfull ad X RL cL_law 7 ret 12) (hX : zScr X b Ls xs) (hW0 : zLaw X b) (N : Nat) {n : Nat} {again23 : Int32 → zMem → zRES} (hag23 : ∀ (cs : Nat × Nat), zB n cs → ∀ (v4 : Int32) (M : zMem), zG l Z zfull ad X cs 23 [(0, .ref b), (1, .ref (ad 0)), (2, .ref (ad 62)), (3, .ref (ad 87)), (4, .int v4)] [] M (again23 v4 M)) {cs : Nat × Nat} (hB : zB (n + 1) cs) (v4 : Int32) (M : zMem) : zG l Z zfull ad X cs 2345 [(0, .ref b), (1, .ref (ad 0)), (2, .ref (ad 62)), (3, .ref (ad 87)), (4, .int v4)] [] M (fL_law_B2345 N Ls xs again23 v4 M) := by
  unfold fL_law_B2345
  refine zg_aload_n hC 1 dL_law_2345 rfl ?_
  refine zg_aload_n hC 0 dL_law_2346 rfl ?_
  refine zg_iload hC 4 dL_law_2347 rfl ?_
  refine zg_iconst hC (v := 1) dL_law_2349 (by decide) ?_
  refine zg_iadd hC dL_law_2350 ?_
  refine zg_sld hC hX dL_law_2351 (fun h45 => ?_)
  refine zg_aload_n hC 0 dL_law_2352 rfl ?_
  refine zg_iload hC 4 dL_law_2353 rfl ?_
  refine zg_iconst hC (v := 2) dL_law_2355 (by decide) ?_
  refine zg_iadd hC dL_law_2356 ?_
  refine zg_sld hC hX dL_law_2357 (fun h46 => ?_)
  refine zg_aload_n hC 3 dL_law_2358 rfl ?_
  refine zg_callWL hC hW0 hB (As := [.ref (ad 0), .int (xs (v4 + 1).toNatClampNeg), .int (xs (v4 + 2).toNatClampNeg), .ref (ad 87)]) (S := []) rfl (tL_tracedAt (zflag hC) 3 N (xs (v4 + 1).toNatClampNeg) (xs (v4 + 2).toNatClampNeg) M) lkL_266 rfl dL_law_2359 (Nat.le_of_ble_eq_true rfl) (fun r47 M48 er47 => ?_)
  have hB49 := zB_step hB
  refine zg_istore hC (L' := [(5, _), (0, _), (1, _), (2, _), (3, _), (4, _)]) dL_law_2362 (by decide) rfl ?_
  refine zg_aload_n hC 3 dL_law_2364 rfl ?_
  refine zg_aload_n hC 1 dL_law_2365 rfl ?_
  refine zg_iload hC 5 dL_law_2366 rfl ?_
  refine zg_iconst hC (v := 1) dL_law_2368 (by decide) ?_
  refine zg_iadd hC dL_law_2369 ?_
  refine zg_sld hC hX dL_law_2370 (fun h50 => ?_)
  refine zg_aload_n hC 1 dL_law_2371 rfl ?_
  refine zg_iload hC 5 dL_law_2372 rfl ?_
  refine zg_iconst hC (v := 2) dL_law_2374 (by decide) ?_
  refine zg_iadd hC dL_law_2375 ?_
  refine zg_sld hC hX dL_law_2376 (fun h51 => ?_)
  refine zg_callVL hC hW0 hB49 (k := 62) (As := [.int (xs (v4 + 1).toNatClampNeg), .int (xs (v4 + 2).toNatClampNeg)]) (S := []) rfl (tX8_tracedAt (zflag hC) 9 N (xs (v4 + 1).toNatClampNeg) (xs (v4 + 2).toNatClampNeg) M48) lkL_268 rfl dL_law_2377 zq62 zk62 rfl rfl (Nat.le_of_ble_eq_true rfl) (fun r52 M53 er52 => ?_)
  refine zg_istore hC (L' := [(6, _), (5, _), (0, _), (1, _), (2, _), (3, _), (4, _)]) dL_law_2380 (by decide) rfl ?_
  refine zg_aload_n hC 4 dL_law_2382 rfl ?_
  refine zg_callVL hC hW0 hB49 (k := 62) (As := []) (S := []) rfl (tX8_thrown (zflag hC) 11 N M53) lkL_143 rfl dL_law_2383 zq62 zk62 rfl rfl (Nat.le_of_ble_eq_true rfl) (fun r54 M55 er54 => ?_)
  refine zg_iload hC 1 dL_law_2386 rfl ?_
  refine zg_icmp_eq hC (tgt := 2393) dL_law_2388 (by decide) (fun c56 => ?_) (fun c56 => ?_)
  · refine zg_iload hC 1 dL_law_2393 rfl ?_
    refine zg_if_ne hC (tgt := 2410) dL_law_2395 (by decide) (fun c57 => ?_) (fun c57 => ?_)
    · refine zg_aload_n hC 5 dL_law_2398 rfl ?_
      refine zg_iconst hC (v := 0) dL_law_2399 (by decide) ?_
      refine zg_lald hC (k := 87) dL_law_2400 zq87 zk87 (fun h58 => ?_)
      refine zg_iload hC 0 dL_law_2401 rfl ?_
      refine zg_i2l hC dL_law_2403 ?_
      refine zg_lcmp hC dL_law_2404 ?_
      refine zg_if_eq hC (tgt := 2410) dL_law_2405 (by decide) (fun c59 => ?_) (fun c59 => ?_)
      · refine zg_goto hC (tgt := 2594) dL_law_2410 (by decide) ?_
        exact zg_sub [2, 3, 4, 5, 6] rfl (gL_law_B2594 hC hX hW0 N hag23 hB49 v4 M55)
      · refine zg_iconst hC (v := 0) dL_law_2408 (by decide) ?_
        exact zg_none
    · refine zg_goto hC (tgt := 2594) dL_law_2410 (by decide) ?_
      exact zg_sub [2, 3, 4, 5, 6] rfl (gL_law_B2594 hC hX hW0 N hag23 hB49 v4 M55)
  · refine zg_iconst hC (v := 0) dL_law_2391 (by decide) ?_
    exact zg_none
set_option maxRecDepth 20000 in
set_option maxHeartbeats 4000000 in
theorem gL_law_B2289 {l : Launch} {Z : zZ} {ad : Nat → Nat} {X : zX} {b Ls : Nat} {xs : Nat → Int32} (hC : zC l Z zfull ad X RL cL_law 7 ret 12) (hX : zScr X b Ls xs) (hW0 : zLaw X b) (N : Nat) {n : Nat} {again23 : Int32 → zMem → zRES} (hag23 : ∀ (cs : Nat × Nat), zB n cs → ∀ (v4 : Int32) (M : zMem), zG l Z zfull ad X cs 23 [(0, .ref b), (1, .ref (ad 0)), (2, .ref (ad 62)), (3, .ref (ad 87)), (4, .int v4)] [] M (again23 v4 M)) {cs : Nat × Nat} (hB : zB (n + 1) cs) (v4 : Int32) (M : zMem) : zG l Z zfull ad X cs 2289 [(0, .ref b), (1, .ref (ad 0)), (2, .ref (ad 62)), (3, .ref (ad 87)), (4, .int v4)] [] M (fL_law_B2289 N Ls xs again23 v4 M) := by
  unfold fL_law_B2289
  refine zg_aload_n hC 1 dL_law_2289 rfl ?_
  refine zg_aload_n hC 0 dL_law_2290 rfl ?_
  refine zg_iload hC 4 dL_law_2291 rfl ?_
  refine zg_iconst hC (v := 1) dL_law_2293 (by decide) ?_
  refine zg_iadd hC dL_law_2294 ?_
  refine zg_sld hC hX dL_law_2295 (fun h60 => ?_)
  refine zg_aload_n hC 3 dL_law_2296 rfl ?_
  refine zg_callWL hC hW0 hB (As := [.ref (ad 0), .int (xs (v4 + 1).toNatClampNeg), .ref (ad 87)]) (S := []) rfl (tL_traced (zflag hC) 3 N (xs (v4 + 1).toNatClampNeg) M) lkL_263 rfl dL_law_2297 (Nat.le_of_ble_eq_true rfl) (fun r61 M62 er61 => ?_)
  have hB63 := zB_step hB
  refine zg_istore hC (L' := [(5, _), (0, _), (1, _), (2, _), (3, _), (4, _)]) dL_law_2300 (by decide) rfl ?_
  refine zg_aload_n hC 3 dL_law_2302 rfl ?_
  refine zg_aload_n hC 1 dL_law_2303 rfl ?_
  refine zg_iload hC 5 dL_law_2304 rfl ?_
  refine zg_iconst hC (v := 1) dL_law_2306 (by decide) ?_
  refine zg_iadd hC dL_law_2307 ?_
  refine zg_sld hC hX dL_law_2308 (fun h64 => ?_)
  refine zg_callVL hC hW0 hB63 (k := 62) (As := [.int (xs (v4 + 1).toNatClampNeg)]) (S := []) rfl (tX8_traced (zflag hC) 9 N (xs (v4 + 1).toNatClampNeg) M62) lkL_265 rfl dL_law_2309 zq62 zk62 rfl rfl (Nat.le_of_ble_eq_true rfl) (fun r65 M66 er65 => ?_)
  refine zg_istore hC (L' := [(6, _), (5, _), (0, _), (1, _), (2, _), (3, _), (4, _)]) dL_law_2312 (by decide) rfl ?_
  refine zg_aload_n hC 4 dL_law_2314 rfl ?_
  refine zg_callVL hC hW0 hB63 (k := 62) (As := []) (S := []) rfl (tX8_thrown (zflag hC) 11 N M66) lkL_143 rfl dL_law_2315 zq62 zk62 rfl rfl (Nat.le_of_ble_eq_true rfl) (fun r67 M68 er67 => ?_)
  refine zg_iload hC 1 dL_law_2318 rfl ?_
  refine zg_icmp_eq hC (tgt := 2325) dL_law_2320 (by decide) (fun c69 => ?_) (fun c69 => ?_)
  · refine zg_iload hC 1 dL_law_2325 rfl ?_
    refine zg_if_ne hC (tgt := 2342) dL_law_2327 (by decide) (fun c70 => ?_) (fun c70 => ?_)
    · refine zg_aload_n hC 5 dL_law_2330 rfl ?_
      refine zg_iconst hC (v := 0) dL_law_2331 (by decide) ?_
      refine zg_lald hC (k := 87) dL_law_2332 zq87 zk87 (fun h71 => ?_)
      refine zg_iload hC 0 dL_law_2333 rfl ?_
      refine zg_i2l hC dL_law_2335 ?_
      refine zg_lcmp hC dL_law_2336 ?_
      refine zg_if_eq hC (tgt := 2342) dL_law_2337 (by decide) (fun c72 => ?_) (fun c72 => ?_)
      · refine zg_goto hC (tgt := 2594) dL_law_2342 (by decide) ?_
        exact zg_sub [2, 3, 4, 5, 6] rfl (gL_law_B2594 hC hX hW0 N hag23 hB63 v4 M68)
      · refine zg_iconst hC (v := 0) dL_law_2340 (by decide) ?_
        exact zg_none
    · refine zg_goto hC (tgt := 2594) dL_law_2342 (by decide) ?_
      exact zg_sub [2, 3, 4, 5, 6] rfl (gL_law_B2594 hC hX hW0 N hag23 hB63 v4 M68)
  · refine zg_iconst hC (v := 0) dL_law_2323 (by decide) ?_
    exact zg_none
set_option maxRecDepth 20000 in
set_option maxHeartbeats 4000000 in
theorem gL_law_B2276 {l : Launch} {Z : zZ} {ad : Nat → Nat} {X : zX} {b Ls : Nat} {xs : Nat → Int32} (hC : zC l Z zfull ad X RL cL_law 7 ret 12) (hX : zScr X b Ls xs) (hW0 : zLaw X b) (N : Nat) {n : Nat} {again23 : Int32 → zMem → zRES} (hag23 : ∀ (cs : Nat × Nat), zB n cs → ∀ (v4 : Int32) (M : zMem), zG l Z zfull ad X cs 23 [(0, .ref b), (1, .ref (ad 0)), (2, .ref (ad 62)), (3, .ref (ad 87)), (4, .int v4)] [] M (again23 v4 M)) {cs : Nat × Nat} (hB : zB (n + 1) cs) (v4 : Int32) (M : zMem) : zG l Z zfull ad X cs 2276 [(0, .ref b), (1, .ref (ad 0)), (2, .ref (ad 62)), (3, .ref (ad 87)), (4, .int v4)] [] M (fL_law_B2276 N Ls xs again23 v4 M) := by
  unfold fL_law_B2276
  refine zg_aload_n hC 1 dL_law_2276 rfl ?_
  refine zg_callVL hC hW0 hB (k := 0) (As := []) (S := []) rfl (tX7_onSale (zflag hC) 9 N M) lkL_259 rfl dL_law_2277 zq0 zk0 rfl rfl (Nat.le_of_ble_eq_true rfl) (fun r73 M74 er73 => ?_)
  refine zg_aload_n hC 2 dL_law_2280 rfl ?_
  refine zg_callVL hC hW0 hB (k := 62) (As := []) (S := [.int r73]) rfl (tX8_onSale (zflag hC) 8 N M74) lkL_262 rfl dL_law_2281 zq62 zk62 rfl rfl (Nat.le_of_ble_eq_true rfl) (fun r75 M76 er75 => ?_)
  refine zg_icmp_eq hC (tgt := 2594) dL_law_2284 (by decide) (fun c77 => ?_) (fun c77 => ?_)
  · exact zg_sub [0, 1, 2, 3, 4] rfl (gL_law_B2594 hC hX hW0 N hag23 (zB_le hB) v4 M76)
  · refine zg_iconst hC (v := 0) dL_law_2287 (by decide) ?_
    exact zg_none
set_option maxRecDepth 20000 in
set_option maxHeartbeats 4000000 in
theorem gL_law_B2208 {l : Launch} {Z : zZ} {ad : Nat → Nat} {X : zX} {b Ls : Nat} {xs : Nat → Int32} (hC : zC l Z zfull ad X RL cL_law 7 ret 12) (hX : zScr X b Ls xs) (hW0 : zLaw X b) (N : Nat) {n : Nat} {again23 : Int32 → zMem → zRES} (hag23 : ∀ (cs : Nat × Nat), zB n cs → ∀ (v4 : Int32) (M : zMem), zG l Z zfull ad X cs 23 [(0, .ref b), (1, .ref (ad 0)), (2, .ref (ad 62)), (3, .ref (ad 87)), (4, .int v4)] [] M (again23 v4 M)) {cs : Nat × Nat} (hB : zB (n + 1) cs) (v4 : Int32) (M : zMem) : zG l Z zfull ad X cs 2208 [(0, .ref b), (1, .ref (ad 0)), (2, .ref (ad 62)), (3, .ref (ad 87)), (4, .int v4)] [] M (fL_law_B2208 N Ls xs again23 v4 M) := by
  unfold fL_law_B2208
  refine zg_aload_n hC 1 dL_law_2208 rfl ?_
  refine zg_aload_n hC 0 dL_law_2209 rfl ?_
  refine zg_iload hC 4 dL_law_2210 rfl ?_
  refine zg_iconst hC (v := 1) dL_law_2212 (by decide) ?_
  refine zg_iadd hC dL_law_2213 ?_
  refine zg_sld hC hX dL_law_2214 (fun h78 => ?_)
  refine zg_aload_n hC 0 dL_law_2215 rfl ?_
  refine zg_iload hC 4 dL_law_2216 rfl ?_
  refine zg_iconst hC (v := 2) dL_law_2218 (by decide) ?_
  refine zg_iadd hC dL_law_2219 ?_
  refine zg_sld hC hX dL_law_2220 (fun h79 => ?_)
  refine zg_aload_n hC 3 dL_law_2221 rfl ?_
  refine zg_callWL hC hW0 hB (As := [.ref (ad 0), .int (xs (v4 + 1).toNatClampNeg), .int (xs (v4 + 2).toNatClampNeg), .ref (ad 87)]) (S := []) rfl (tL_sell (zflag hC) 3 N (xs (v4 + 1).toNatClampNeg) (xs (v4 + 2).toNatClampNeg) M) lkL_256 rfl dL_law_2222 (Nat.le_of_ble_eq_true rfl) (fun r80 M81 er80 => ?_)
  have hB82 := zB_step hB
  refine zg_istore hC (L' := [(5, _), (0, _), (1, _), (2, _), (3, _), (4, _)]) dL_law_2225 (by decide) rfl ?_
  refine zg_aload_n hC 3 dL_law_2227 rfl ?_
  refine zg_aload_n hC 1 dL_law_2228 rfl ?_
  refine zg_iload hC 5 dL_law_2229 rfl ?_
  refine zg_iconst hC (v := 1) dL_law_2231 (by decide) ?_
  refine zg_iadd hC dL_law_2232 ?_
  refine zg_sld hC hX dL_law_2233 (fun h83 => ?_)
  refine zg_aload_n hC 1 dL_law_2234 rfl ?_
  refine zg_iload hC 5 dL_law_2235 rfl ?_
  refine zg_iconst hC (v := 2) dL_law_2237 (by decide) ?_
  refine zg_iadd hC dL_law_2238 ?_
  refine zg_sld hC hX dL_law_2239 (fun h84 => ?_)
  refine zg_callVL hC hW0 hB82 (k := 62) (As := [.int (xs (v4 + 1).toNatClampNeg), .int (xs (v4 + 2).toNatClampNeg)]) (S := []) rfl (tX8_sell (zflag hC) 8 N (xs (v4 + 1).toNatClampNeg) (xs (v4 + 2).toNatClampNeg) M81) lkL_258 rfl dL_law_2240 zq62 zk62 rfl rfl (Nat.le_of_ble_eq_true rfl) (fun r85 M86 er85 => ?_)
  refine zg_istore hC (L' := [(6, _), (5, _), (0, _), (1, _), (2, _), (3, _), (4, _)]) dL_law_2243 (by decide) rfl ?_
  refine zg_aload_n hC 4 dL_law_2245 rfl ?_
  refine zg_callVL hC hW0 hB82 (k := 62) (As := []) (S := []) rfl (tX8_thrown (zflag hC) 11 N M86) lkL_143 rfl dL_law_2246 zq62 zk62 rfl rfl (Nat.le_of_ble_eq_true rfl) (fun r87 M88 er87 => ?_)
  refine zg_iload hC 1 dL_law_2249 rfl ?_
  refine zg_icmp_eq hC (tgt := 2256) dL_law_2251 (by decide) (fun c89 => ?_) (fun c89 => ?_)
  · refine zg_iload hC 1 dL_law_2256 rfl ?_
    refine zg_if_ne hC (tgt := 2273) dL_law_2258 (by decide) (fun c90 => ?_) (fun c90 => ?_)
    · refine zg_aload_n hC 5 dL_law_2261 rfl ?_
      refine zg_iconst hC (v := 0) dL_law_2262 (by decide) ?_
      refine zg_lald hC (k := 87) dL_law_2263 zq87 zk87 (fun h91 => ?_)
      refine zg_iload hC 0 dL_law_2264 rfl ?_
      refine zg_i2l hC dL_law_2266 ?_
      refine zg_lcmp hC dL_law_2267 ?_
      refine zg_if_eq hC (tgt := 2273) dL_law_2268 (by decide) (fun c92 => ?_) (fun c92 => ?_)
      · refine zg_goto hC (tgt := 2594) dL_law_2273 (by decide) ?_
        exact zg_sub [2, 3, 4, 5, 6] rfl (gL_law_B2594 hC hX hW0 N hag23 hB82 v4 M88)
      · refine zg_iconst hC (v := 0) dL_law_2271 (by decide) ?_
        exact zg_none
    · refine zg_goto hC (tgt := 2594) dL_law_2273 (by decide) ?_
      exact zg_sub [2, 3, 4, 5, 6] rfl (gL_law_B2594 hC hX hW0 N hag23 hB82 v4 M88)
  · refine zg_iconst hC (v := 0) dL_law_2254 (by decide) ?_
    exact zg_none
set_option maxRecDepth 20000 in
set_option maxHeartbeats 4000000 in
theorem gL_law_B2152 {l : Launch} {Z : zZ} {ad : Nat → Nat} {X : zX} {b Ls : Nat} {xs : Nat → Int32} (hC : zC l Z zfull ad X RL cL_law 7 ret 12) (hX : zScr X b Ls xs) (hW0 : zLaw X b) (N : Nat) {n : Nat} {again23 : Int32 → zMem → zRES} (hag23 : ∀ (cs : Nat × Nat), zB n cs → ∀ (v4 : Int32) (M : zMem), zG l Z zfull ad X cs 23 [(0, .ref b), (1, .ref (ad 0)), (2, .ref (ad 62)), (3, .ref (ad 87)), (4, .int v4)] [] M (again23 v4 M)) {cs : Nat × Nat} (hB : zB (n + 1) cs) (v4 : Int32) (M : zMem) : zG l Z zfull ad X cs 2152 [(0, .ref b), (1, .ref (ad 0)), (2, .ref (ad 62)), (3, .ref (ad 87)), (4, .int v4)] [] M (fL_law_B2152 N Ls xs again23 v4 M) := by
  unfold fL_law_B2152
  refine zg_aload_n hC 1 dL_law_2152 rfl ?_
  refine zg_aload_n hC 0 dL_law_2153 rfl ?_
  refine zg_iload hC 4 dL_law_2154 rfl ?_
  refine zg_iconst hC (v := 1) dL_law_2156 (by decide) ?_
  refine zg_iadd hC dL_law_2157 ?_
  refine zg_sld hC hX dL_law_2158 (fun h93 => ?_)
  refine zg_aload_n hC 3 dL_law_2159 rfl ?_
  refine zg_callWL hC hW0 hB (As := [.ref (ad 0), .int (xs (v4 + 1).toNatClampNeg), .ref (ad 87)]) (S := []) rfl (tL_barredAnew (zflag hC) 3 N (xs (v4 + 1).toNatClampNeg) M) lkL_253 rfl dL_law_2160 (Nat.le_of_ble_eq_true rfl) (fun r94 M95 er94 => ?_)
  have hB96 := zB_step hB
  refine zg_istore hC (L' := [(5, _), (0, _), (1, _), (2, _), (3, _), (4, _)]) dL_law_2163 (by decide) rfl ?_
  refine zg_aload_n hC 3 dL_law_2165 rfl ?_
  refine zg_aload_n hC 1 dL_law_2166 rfl ?_
  refine zg_iload hC 5 dL_law_2167 rfl ?_
  refine zg_iconst hC (v := 1) dL_law_2169 (by decide) ?_
  refine zg_iadd hC dL_law_2170 ?_
  refine zg_sld hC hX dL_law_2171 (fun h97 => ?_)
  refine zg_callVL hC hW0 hB96 (k := 62) (As := [.int (xs (v4 + 1).toNatClampNeg)]) (S := []) rfl (tX8_barredAnew (zflag hC) 7 N (xs (v4 + 1).toNatClampNeg) M95) lkL_255 rfl dL_law_2172 zq62 zk62 rfl rfl (Nat.le_of_ble_eq_true rfl) (fun r98 M99 er98 => ?_)
  refine zg_istore hC (L' := [(6, _), (5, _), (0, _), (1, _), (2, _), (3, _), (4, _)]) dL_law_2175 (by decide) rfl ?_
  refine zg_aload_n hC 4 dL_law_2177 rfl ?_
  refine zg_callVL hC hW0 hB96 (k := 62) (As := []) (S := []) rfl (tX8_thrown (zflag hC) 11 N M99) lkL_143 rfl dL_law_2178 zq62 zk62 rfl rfl (Nat.le_of_ble_eq_true rfl) (fun r100 M101 er100 => ?_)
  refine zg_iload hC 1 dL_law_2181 rfl ?_
  refine zg_icmp_eq hC (tgt := 2188) dL_law_2183 (by decide) (fun c102 => ?_) (fun c102 => ?_)
  · refine zg_iload hC 1 dL_law_2188 rfl ?_
    refine zg_if_ne hC (tgt := 2205) dL_law_2190 (by decide) (fun c103 => ?_) (fun c103 => ?_)
    · refine zg_aload_n hC 5 dL_law_2193 rfl ?_
      refine zg_iconst hC (v := 0) dL_law_2194 (by decide) ?_
      refine zg_lald hC (k := 87) dL_law_2195 zq87 zk87 (fun h104 => ?_)
      refine zg_iload hC 0 dL_law_2196 rfl ?_
      refine zg_i2l hC dL_law_2198 ?_
      refine zg_lcmp hC dL_law_2199 ?_
      refine zg_if_eq hC (tgt := 2205) dL_law_2200 (by decide) (fun c105 => ?_) (fun c105 => ?_)
      · refine zg_goto hC (tgt := 2594) dL_law_2205 (by decide) ?_
        exact zg_sub [2, 3, 4, 5, 6] rfl (gL_law_B2594 hC hX hW0 N hag23 hB96 v4 M101)
      · refine zg_iconst hC (v := 0) dL_law_2203 (by decide) ?_
        exact zg_none
    · refine zg_goto hC (tgt := 2594) dL_law_2205 (by decide) ?_
      exact zg_sub [2, 3, 4, 5, 6] rfl (gL_law_B2594 hC hX hW0 N hag23 hB96 v4 M101)
  · refine zg_iconst hC (v := 0) dL_law_2186 (by decide) ?_
    exact zg_none
set_option maxRecDepth 20000 in
set_option maxHeartbeats 4000000 in
theorem gL_law_B2096 {l : Launch} {Z : zZ} {ad : Nat → Nat} {X : zX} {b Ls : Nat} {xs : Nat → Int32} (hC : zC l Z zfull ad X RL cL_law 7 ret 12) (hX : zScr X b Ls xs) (hW0 : zLaw X b) (N : Nat) {n : Nat} {again23 : Int32 → zMem → zRES} (hag23 : ∀ (cs : Nat × Nat), zB n cs → ∀ (v4 : Int32) (M : zMem), zG l Z zfull ad X cs 23 [(0, .ref b), (1, .ref (ad 0)), (2, .ref (ad 62)), (3, .ref (ad 87)), (4, .int v4)] [] M (again23 v4 M)) {cs : Nat × Nat} (hB : zB (n + 1) cs) (v4 : Int32) (M : zMem) : zG l Z zfull ad X cs 2096 [(0, .ref b), (1, .ref (ad 0)), (2, .ref (ad 62)), (3, .ref (ad 87)), (4, .int v4)] [] M (fL_law_B2096 N Ls xs again23 v4 M) := by
  unfold fL_law_B2096
  refine zg_aload_n hC 1 dL_law_2096 rfl ?_
  refine zg_aload_n hC 0 dL_law_2097 rfl ?_
  refine zg_iload hC 4 dL_law_2098 rfl ?_
  refine zg_iconst hC (v := 1) dL_law_2100 (by decide) ?_
  refine zg_iadd hC dL_law_2101 ?_
  refine zg_sld hC hX dL_law_2102 (fun h106 => ?_)
  refine zg_aload_n hC 3 dL_law_2103 rfl ?_
  refine zg_callWL hC hW0 hB (As := [.ref (ad 0), .int (xs (v4 + 1).toNatClampNeg), .ref (ad 87)]) (S := []) rfl (tL_barred (zflag hC) 3 N (xs (v4 + 1).toNatClampNeg) M) lkL_250 rfl dL_law_2104 (Nat.le_of_ble_eq_true rfl) (fun r107 M108 er107 => ?_)
  have hB109 := zB_step hB
  refine zg_istore hC (L' := [(5, _), (0, _), (1, _), (2, _), (3, _), (4, _)]) dL_law_2107 (by decide) rfl ?_
  refine zg_aload_n hC 3 dL_law_2109 rfl ?_
  refine zg_aload_n hC 1 dL_law_2110 rfl ?_
  refine zg_iload hC 5 dL_law_2111 rfl ?_
  refine zg_iconst hC (v := 1) dL_law_2113 (by decide) ?_
  refine zg_iadd hC dL_law_2114 ?_
  refine zg_sld hC hX dL_law_2115 (fun h110 => ?_)
  refine zg_callVL hC hW0 hB109 (k := 62) (As := [.int (xs (v4 + 1).toNatClampNeg)]) (S := []) rfl (tX8_barred (zflag hC) 8 N (xs (v4 + 1).toNatClampNeg) M108) lkL_252 rfl dL_law_2116 zq62 zk62 rfl rfl (Nat.le_of_ble_eq_true rfl) (fun r111 M112 er111 => ?_)
  refine zg_istore hC (L' := [(6, _), (5, _), (0, _), (1, _), (2, _), (3, _), (4, _)]) dL_law_2119 (by decide) rfl ?_
  refine zg_aload_n hC 4 dL_law_2121 rfl ?_
  refine zg_callVL hC hW0 hB109 (k := 62) (As := []) (S := []) rfl (tX8_thrown (zflag hC) 11 N M112) lkL_143 rfl dL_law_2122 zq62 zk62 rfl rfl (Nat.le_of_ble_eq_true rfl) (fun r113 M114 er113 => ?_)
  refine zg_iload hC 1 dL_law_2125 rfl ?_
  refine zg_icmp_eq hC (tgt := 2132) dL_law_2127 (by decide) (fun c115 => ?_) (fun c115 => ?_)
  · refine zg_iload hC 1 dL_law_2132 rfl ?_
    refine zg_if_ne hC (tgt := 2149) dL_law_2134 (by decide) (fun c116 => ?_) (fun c116 => ?_)
    · refine zg_aload_n hC 5 dL_law_2137 rfl ?_
      refine zg_iconst hC (v := 0) dL_law_2138 (by decide) ?_
      refine zg_lald hC (k := 87) dL_law_2139 zq87 zk87 (fun h117 => ?_)
      refine zg_iload hC 0 dL_law_2140 rfl ?_
      refine zg_i2l hC dL_law_2142 ?_
      refine zg_lcmp hC dL_law_2143 ?_
      refine zg_if_eq hC (tgt := 2149) dL_law_2144 (by decide) (fun c118 => ?_) (fun c118 => ?_)
      · refine zg_goto hC (tgt := 2594) dL_law_2149 (by decide) ?_
        exact zg_sub [2, 3, 4, 5, 6] rfl (gL_law_B2594 hC hX hW0 N hag23 hB109 v4 M114)
      · refine zg_iconst hC (v := 0) dL_law_2147 (by decide) ?_
        exact zg_none
    · refine zg_goto hC (tgt := 2594) dL_law_2149 (by decide) ?_
      exact zg_sub [2, 3, 4, 5, 6] rfl (gL_law_B2594 hC hX hW0 N hag23 hB109 v4 M114)
  · refine zg_iconst hC (v := 0) dL_law_2130 (by decide) ?_
    exact zg_none
set_option maxRecDepth 20000 in
set_option maxHeartbeats 4000000 in
theorem gL_law_B2040 {l : Launch} {Z : zZ} {ad : Nat → Nat} {X : zX} {b Ls : Nat} {xs : Nat → Int32} (hC : zC l Z zfull ad X RL cL_law 7 ret 12) (hX : zScr X b Ls xs) (hW0 : zLaw X b) (N : Nat) {n : Nat} {again23 : Int32 → zMem → zRES} (hag23 : ∀ (cs : Nat × Nat), zB n cs → ∀ (v4 : Int32) (M : zMem), zG l Z zfull ad X cs 23 [(0, .ref b), (1, .ref (ad 0)), (2, .ref (ad 62)), (3, .ref (ad 87)), (4, .int v4)] [] M (again23 v4 M)) {cs : Nat × Nat} (hB : zB (n + 1) cs) (v4 : Int32) (M : zMem) : zG l Z zfull ad X cs 2040 [(0, .ref b), (1, .ref (ad 0)), (2, .ref (ad 62)), (3, .ref (ad 87)), (4, .int v4)] [] M (fL_law_B2040 N Ls xs again23 v4 M) := by
  unfold fL_law_B2040
  refine zg_aload_n hC 1 dL_law_2040 rfl ?_
  refine zg_aload_n hC 0 dL_law_2041 rfl ?_
  refine zg_iload hC 4 dL_law_2042 rfl ?_
  refine zg_iconst hC (v := 1) dL_law_2044 (by decide) ?_
  refine zg_iadd hC dL_law_2045 ?_
  refine zg_sld hC hX dL_law_2046 (fun h119 => ?_)
  refine zg_aload_n hC 3 dL_law_2047 rfl ?_
  refine zg_callWL hC hW0 hB (As := [.ref (ad 0), .int (xs (v4 + 1).toNatClampNeg), .ref (ad 87)]) (S := []) rfl (tL_left (zflag hC) 3 N (xs (v4 + 1).toNatClampNeg) M) lkL_247 rfl dL_law_2048 (Nat.le_of_ble_eq_true rfl) (fun r120 M121 er120 => ?_)
  have hB122 := zB_step hB
  refine zg_istore hC (L' := [(5, _), (0, _), (1, _), (2, _), (3, _), (4, _)]) dL_law_2051 (by decide) rfl ?_
  refine zg_aload_n hC 3 dL_law_2053 rfl ?_
  refine zg_aload_n hC 1 dL_law_2054 rfl ?_
  refine zg_iload hC 5 dL_law_2055 rfl ?_
  refine zg_iconst hC (v := 1) dL_law_2057 (by decide) ?_
  refine zg_iadd hC dL_law_2058 ?_
  refine zg_sld hC hX dL_law_2059 (fun h123 => ?_)
  refine zg_callVL hC hW0 hB122 (k := 62) (As := [.int (xs (v4 + 1).toNatClampNeg)]) (S := []) rfl (tX8_left (zflag hC) 9 N (xs (v4 + 1).toNatClampNeg) M121) lkL_249 rfl dL_law_2060 zq62 zk62 rfl rfl (Nat.le_of_ble_eq_true rfl) (fun r124 M125 er124 => ?_)
  refine zg_istore hC (L' := [(6, _), (5, _), (0, _), (1, _), (2, _), (3, _), (4, _)]) dL_law_2063 (by decide) rfl ?_
  refine zg_aload_n hC 4 dL_law_2065 rfl ?_
  refine zg_callVL hC hW0 hB122 (k := 62) (As := []) (S := []) rfl (tX8_thrown (zflag hC) 11 N M125) lkL_143 rfl dL_law_2066 zq62 zk62 rfl rfl (Nat.le_of_ble_eq_true rfl) (fun r126 M127 er126 => ?_)
  refine zg_iload hC 1 dL_law_2069 rfl ?_
  refine zg_icmp_eq hC (tgt := 2076) dL_law_2071 (by decide) (fun c128 => ?_) (fun c128 => ?_)
  · refine zg_iload hC 1 dL_law_2076 rfl ?_
    refine zg_if_ne hC (tgt := 2093) dL_law_2078 (by decide) (fun c129 => ?_) (fun c129 => ?_)
    · refine zg_aload_n hC 5 dL_law_2081 rfl ?_
      refine zg_iconst hC (v := 0) dL_law_2082 (by decide) ?_
      refine zg_lald hC (k := 87) dL_law_2083 zq87 zk87 (fun h130 => ?_)
      refine zg_iload hC 0 dL_law_2084 rfl ?_
      refine zg_i2l hC dL_law_2086 ?_
      refine zg_lcmp hC dL_law_2087 ?_
      refine zg_if_eq hC (tgt := 2093) dL_law_2088 (by decide) (fun c131 => ?_) (fun c131 => ?_)
      · refine zg_goto hC (tgt := 2594) dL_law_2093 (by decide) ?_
        exact zg_sub [2, 3, 4, 5, 6] rfl (gL_law_B2594 hC hX hW0 N hag23 hB122 v4 M127)
      · refine zg_iconst hC (v := 0) dL_law_2091 (by decide) ?_
        exact zg_none
    · refine zg_goto hC (tgt := 2594) dL_law_2093 (by decide) ?_
      exact zg_sub [2, 3, 4, 5, 6] rfl (gL_law_B2594 hC hX hW0 N hag23 hB122 v4 M127)
  · refine zg_iconst hC (v := 0) dL_law_2074 (by decide) ?_
    exact zg_none
set_option maxRecDepth 20000 in
set_option maxHeartbeats 4000000 in
theorem gL_law_B1984 {l : Launch} {Z : zZ} {ad : Nat → Nat} {X : zX} {b Ls : Nat} {xs : Nat → Int32} (hC : zC l Z zfull ad X RL cL_law 7 ret 12) (hX : zScr X b Ls xs) (hW0 : zLaw X b) (N : Nat) {n : Nat} {again23 : Int32 → zMem → zRES} (hag23 : ∀ (cs : Nat × Nat), zB n cs → ∀ (v4 : Int32) (M : zMem), zG l Z zfull ad X cs 23 [(0, .ref b), (1, .ref (ad 0)), (2, .ref (ad 62)), (3, .ref (ad 87)), (4, .int v4)] [] M (again23 v4 M)) {cs : Nat × Nat} (hB : zB (n + 1) cs) (v4 : Int32) (M : zMem) : zG l Z zfull ad X cs 1984 [(0, .ref b), (1, .ref (ad 0)), (2, .ref (ad 62)), (3, .ref (ad 87)), (4, .int v4)] [] M (fL_law_B1984 N Ls xs again23 v4 M) := by
  unfold fL_law_B1984
  refine zg_aload_n hC 1 dL_law_1984 rfl ?_
  refine zg_aload_n hC 0 dL_law_1985 rfl ?_
  refine zg_iload hC 4 dL_law_1986 rfl ?_
  refine zg_iconst hC (v := 1) dL_law_1988 (by decide) ?_
  refine zg_iadd hC dL_law_1989 ?_
  refine zg_sld hC hX dL_law_1990 (fun h132 => ?_)
  refine zg_aload_n hC 3 dL_law_1991 rfl ?_
  refine zg_callWL hC hW0 hB (As := [.ref (ad 0), .int (xs (v4 + 1).toNatClampNeg), .ref (ad 87)]) (S := []) rfl (tL_lotsOf (zflag hC) 3 N (xs (v4 + 1).toNatClampNeg) M) lkL_244 rfl dL_law_1992 (Nat.le_of_ble_eq_true rfl) (fun r133 M134 er133 => ?_)
  have hB135 := zB_step hB
  refine zg_istore hC (L' := [(5, _), (0, _), (1, _), (2, _), (3, _), (4, _)]) dL_law_1995 (by decide) rfl ?_
  refine zg_aload_n hC 3 dL_law_1997 rfl ?_
  refine zg_aload_n hC 1 dL_law_1998 rfl ?_
  refine zg_iload hC 5 dL_law_1999 rfl ?_
  refine zg_iconst hC (v := 1) dL_law_2001 (by decide) ?_
  refine zg_iadd hC dL_law_2002 ?_
  refine zg_sld hC hX dL_law_2003 (fun h136 => ?_)
  refine zg_callVL hC hW0 hB135 (k := 62) (As := [.int (xs (v4 + 1).toNatClampNeg)]) (S := []) rfl (tX8_lotsOf (zflag hC) 9 N (xs (v4 + 1).toNatClampNeg) M134) lkL_246 rfl dL_law_2004 zq62 zk62 rfl rfl (Nat.le_of_ble_eq_true rfl) (fun r137 M138 er137 => ?_)
  refine zg_istore hC (L' := [(6, _), (5, _), (0, _), (1, _), (2, _), (3, _), (4, _)]) dL_law_2007 (by decide) rfl ?_
  refine zg_aload_n hC 4 dL_law_2009 rfl ?_
  refine zg_callVL hC hW0 hB135 (k := 62) (As := []) (S := []) rfl (tX8_thrown (zflag hC) 11 N M138) lkL_143 rfl dL_law_2010 zq62 zk62 rfl rfl (Nat.le_of_ble_eq_true rfl) (fun r139 M140 er139 => ?_)
  refine zg_iload hC 1 dL_law_2013 rfl ?_
  refine zg_icmp_eq hC (tgt := 2020) dL_law_2015 (by decide) (fun c141 => ?_) (fun c141 => ?_)
  · refine zg_iload hC 1 dL_law_2020 rfl ?_
    refine zg_if_ne hC (tgt := 2037) dL_law_2022 (by decide) (fun c142 => ?_) (fun c142 => ?_)
    · refine zg_aload_n hC 5 dL_law_2025 rfl ?_
      refine zg_iconst hC (v := 0) dL_law_2026 (by decide) ?_
      refine zg_lald hC (k := 87) dL_law_2027 zq87 zk87 (fun h143 => ?_)
      refine zg_iload hC 0 dL_law_2028 rfl ?_
      refine zg_i2l hC dL_law_2030 ?_
      refine zg_lcmp hC dL_law_2031 ?_
      refine zg_if_eq hC (tgt := 2037) dL_law_2032 (by decide) (fun c144 => ?_) (fun c144 => ?_)
      · refine zg_goto hC (tgt := 2594) dL_law_2037 (by decide) ?_
        exact zg_sub [2, 3, 4, 5, 6] rfl (gL_law_B2594 hC hX hW0 N hag23 hB135 v4 M140)
      · refine zg_iconst hC (v := 0) dL_law_2035 (by decide) ?_
        exact zg_none
    · refine zg_goto hC (tgt := 2594) dL_law_2037 (by decide) ?_
      exact zg_sub [2, 3, 4, 5, 6] rfl (gL_law_B2594 hC hX hW0 N hag23 hB135 v4 M140)
  · refine zg_iconst hC (v := 0) dL_law_2018 (by decide) ?_
    exact zg_none
set_option maxRecDepth 20000 in
set_option maxHeartbeats 4000000 in
theorem gL_law_B1928 {l : Launch} {Z : zZ} {ad : Nat → Nat} {X : zX} {b Ls : Nat} {xs : Nat → Int32} (hC : zC l Z zfull ad X RL cL_law 7 ret 12) (hX : zScr X b Ls xs) (hW0 : zLaw X b) (N : Nat) {n : Nat} {again23 : Int32 → zMem → zRES} (hag23 : ∀ (cs : Nat × Nat), zB n cs → ∀ (v4 : Int32) (M : zMem), zG l Z zfull ad X cs 23 [(0, .ref b), (1, .ref (ad 0)), (2, .ref (ad 62)), (3, .ref (ad 87)), (4, .int v4)] [] M (again23 v4 M)) {cs : Nat × Nat} (hB : zB (n + 1) cs) (v4 : Int32) (M : zMem) : zG l Z zfull ad X cs 1928 [(0, .ref b), (1, .ref (ad 0)), (2, .ref (ad 62)), (3, .ref (ad 87)), (4, .int v4)] [] M (fL_law_B1928 N Ls xs again23 v4 M) := by
  unfold fL_law_B1928
  refine zg_aload_n hC 1 dL_law_1928 rfl ?_
  refine zg_aload_n hC 0 dL_law_1929 rfl ?_
  refine zg_iload hC 4 dL_law_1930 rfl ?_
  refine zg_iconst hC (v := 1) dL_law_1932 (by decide) ?_
  refine zg_iadd hC dL_law_1933 ?_
  refine zg_sld hC hX dL_law_1934 (fun h145 => ?_)
  refine zg_aload_n hC 3 dL_law_1935 rfl ?_
  refine zg_callWL hC hW0 hB (As := [.ref (ad 0), .int (xs (v4 + 1).toNatClampNeg), .ref (ad 87)]) (S := []) rfl (tL_versionOf (zflag hC) 3 N (xs (v4 + 1).toNatClampNeg) M) lkL_241 rfl dL_law_1936 (Nat.le_of_ble_eq_true rfl) (fun r146 M147 er146 => ?_)
  have hB148 := zB_step hB
  refine zg_istore hC (L' := [(5, _), (0, _), (1, _), (2, _), (3, _), (4, _)]) dL_law_1939 (by decide) rfl ?_
  refine zg_aload_n hC 3 dL_law_1941 rfl ?_
  refine zg_aload_n hC 1 dL_law_1942 rfl ?_
  refine zg_iload hC 5 dL_law_1943 rfl ?_
  refine zg_iconst hC (v := 1) dL_law_1945 (by decide) ?_
  refine zg_iadd hC dL_law_1946 ?_
  refine zg_sld hC hX dL_law_1947 (fun h149 => ?_)
  refine zg_callVL hC hW0 hB148 (k := 62) (As := [.int (xs (v4 + 1).toNatClampNeg)]) (S := []) rfl (tX8_versionOf (zflag hC) 9 N (xs (v4 + 1).toNatClampNeg) M147) lkL_243 rfl dL_law_1948 zq62 zk62 rfl rfl (Nat.le_of_ble_eq_true rfl) (fun r150 M151 er150 => ?_)
  refine zg_istore hC (L' := [(6, _), (5, _), (0, _), (1, _), (2, _), (3, _), (4, _)]) dL_law_1951 (by decide) rfl ?_
  refine zg_aload_n hC 4 dL_law_1953 rfl ?_
  refine zg_callVL hC hW0 hB148 (k := 62) (As := []) (S := []) rfl (tX8_thrown (zflag hC) 11 N M151) lkL_143 rfl dL_law_1954 zq62 zk62 rfl rfl (Nat.le_of_ble_eq_true rfl) (fun r152 M153 er152 => ?_)
  refine zg_iload hC 1 dL_law_1957 rfl ?_
  refine zg_icmp_eq hC (tgt := 1964) dL_law_1959 (by decide) (fun c154 => ?_) (fun c154 => ?_)
  · refine zg_iload hC 1 dL_law_1964 rfl ?_
    refine zg_if_ne hC (tgt := 1981) dL_law_1966 (by decide) (fun c155 => ?_) (fun c155 => ?_)
    · refine zg_aload_n hC 5 dL_law_1969 rfl ?_
      refine zg_iconst hC (v := 0) dL_law_1970 (by decide) ?_
      refine zg_lald hC (k := 87) dL_law_1971 zq87 zk87 (fun h156 => ?_)
      refine zg_iload hC 0 dL_law_1972 rfl ?_
      refine zg_i2l hC dL_law_1974 ?_
      refine zg_lcmp hC dL_law_1975 ?_
      refine zg_if_eq hC (tgt := 1981) dL_law_1976 (by decide) (fun c157 => ?_) (fun c157 => ?_)
      · refine zg_goto hC (tgt := 2594) dL_law_1981 (by decide) ?_
        exact zg_sub [2, 3, 4, 5, 6] rfl (gL_law_B2594 hC hX hW0 N hag23 hB148 v4 M153)
      · refine zg_iconst hC (v := 0) dL_law_1979 (by decide) ?_
        exact zg_none
    · refine zg_goto hC (tgt := 2594) dL_law_1981 (by decide) ?_
      exact zg_sub [2, 3, 4, 5, 6] rfl (gL_law_B2594 hC hX hW0 N hag23 hB148 v4 M153)
  · refine zg_iconst hC (v := 0) dL_law_1962 (by decide) ?_
    exact zg_none
set_option maxRecDepth 20000 in
set_option maxHeartbeats 4000000 in
theorem gL_law_B1915 {l : Launch} {Z : zZ} {ad : Nat → Nat} {X : zX} {b Ls : Nat} {xs : Nat → Int32} (hC : zC l Z zfull ad X RL cL_law 7 ret 12) (hX : zScr X b Ls xs) (hW0 : zLaw X b) (N : Nat) {n : Nat} {again23 : Int32 → zMem → zRES} (hag23 : ∀ (cs : Nat × Nat), zB n cs → ∀ (v4 : Int32) (M : zMem), zG l Z zfull ad X cs 23 [(0, .ref b), (1, .ref (ad 0)), (2, .ref (ad 62)), (3, .ref (ad 87)), (4, .int v4)] [] M (again23 v4 M)) {cs : Nat × Nat} (hB : zB (n + 1) cs) (v4 : Int32) (M : zMem) : zG l Z zfull ad X cs 1915 [(0, .ref b), (1, .ref (ad 0)), (2, .ref (ad 62)), (3, .ref (ad 87)), (4, .int v4)] [] M (fL_law_B1915 N Ls xs again23 v4 M) := by
  unfold fL_law_B1915
  refine zg_aload_n hC 1 dL_law_1915 rfl ?_
  refine zg_callVL hC hW0 hB (k := 0) (As := []) (S := []) rfl (tX7_batches (zflag hC) 11 N M) lkL_237 rfl dL_law_1916 zq0 zk0 rfl rfl (Nat.le_of_ble_eq_true rfl) (fun r158 M159 er158 => ?_)
  refine zg_aload_n hC 2 dL_law_1919 rfl ?_
  refine zg_callVL hC hW0 hB (k := 62) (As := []) (S := [.int r158]) rfl (tX8_batches (zflag hC) 11 N M159) lkL_240 rfl dL_law_1920 zq62 zk62 rfl rfl (Nat.le_of_ble_eq_true rfl) (fun r160 M161 er160 => ?_)
  refine zg_icmp_eq hC (tgt := 2594) dL_law_1923 (by decide) (fun c162 => ?_) (fun c162 => ?_)
  · exact zg_sub [0, 1, 2, 3, 4] rfl (gL_law_B2594 hC hX hW0 N hag23 (zB_le hB) v4 M161)
  · refine zg_iconst hC (v := 0) dL_law_1926 (by decide) ?_
    exact zg_none
set_option maxRecDepth 20000 in
set_option maxHeartbeats 4000000 in
theorem gL_law_B1859 {l : Launch} {Z : zZ} {ad : Nat → Nat} {X : zX} {b Ls : Nat} {xs : Nat → Int32} (hC : zC l Z zfull ad X RL cL_law 7 ret 12) (hX : zScr X b Ls xs) (hW0 : zLaw X b) (N : Nat) {n : Nat} {again23 : Int32 → zMem → zRES} (hag23 : ∀ (cs : Nat × Nat), zB n cs → ∀ (v4 : Int32) (M : zMem), zG l Z zfull ad X cs 23 [(0, .ref b), (1, .ref (ad 0)), (2, .ref (ad 62)), (3, .ref (ad 87)), (4, .int v4)] [] M (again23 v4 M)) {cs : Nat × Nat} (hB : zB (n + 1) cs) (v4 : Int32) (M : zMem) : zG l Z zfull ad X cs 1859 [(0, .ref b), (1, .ref (ad 0)), (2, .ref (ad 62)), (3, .ref (ad 87)), (4, .int v4)] [] M (fL_law_B1859 N Ls xs again23 v4 M) := by
  unfold fL_law_B1859
  refine zg_aload_n hC 1 dL_law_1859 rfl ?_
  refine zg_aload_n hC 0 dL_law_1860 rfl ?_
  refine zg_iload hC 4 dL_law_1861 rfl ?_
  refine zg_iconst hC (v := 1) dL_law_1863 (by decide) ?_
  refine zg_iadd hC dL_law_1864 ?_
  refine zg_sld hC hX dL_law_1865 (fun h163 => ?_)
  refine zg_aload_n hC 3 dL_law_1866 rfl ?_
  refine zg_callWL hC hW0 hB (As := [.ref (ad 0), .int (xs (v4 + 1).toNatClampNeg), .ref (ad 87)]) (S := []) rfl (tL_missed (zflag hC) 3 N (xs (v4 + 1).toNatClampNeg) M) lkL_234 rfl dL_law_1867 (Nat.le_of_ble_eq_true rfl) (fun r164 M165 er164 => ?_)
  have hB166 := zB_step hB
  refine zg_istore hC (L' := [(5, _), (0, _), (1, _), (2, _), (3, _), (4, _)]) dL_law_1870 (by decide) rfl ?_
  refine zg_aload_n hC 3 dL_law_1872 rfl ?_
  refine zg_aload_n hC 1 dL_law_1873 rfl ?_
  refine zg_iload hC 5 dL_law_1874 rfl ?_
  refine zg_iconst hC (v := 1) dL_law_1876 (by decide) ?_
  refine zg_iadd hC dL_law_1877 ?_
  refine zg_sld hC hX dL_law_1878 (fun h167 => ?_)
  refine zg_callVL hC hW0 hB166 (k := 62) (As := [.int (xs (v4 + 1).toNatClampNeg)]) (S := []) rfl (tX8_missed (zflag hC) 8 N (xs (v4 + 1).toNatClampNeg) M165) lkL_236 rfl dL_law_1879 zq62 zk62 rfl rfl (Nat.le_of_ble_eq_true rfl) (fun r168 M169 er168 => ?_)
  refine zg_istore hC (L' := [(6, _), (5, _), (0, _), (1, _), (2, _), (3, _), (4, _)]) dL_law_1882 (by decide) rfl ?_
  refine zg_aload_n hC 4 dL_law_1884 rfl ?_
  refine zg_callVL hC hW0 hB166 (k := 62) (As := []) (S := []) rfl (tX8_thrown (zflag hC) 11 N M169) lkL_143 rfl dL_law_1885 zq62 zk62 rfl rfl (Nat.le_of_ble_eq_true rfl) (fun r170 M171 er170 => ?_)
  refine zg_iload hC 1 dL_law_1888 rfl ?_
  refine zg_icmp_eq hC (tgt := 1895) dL_law_1890 (by decide) (fun c172 => ?_) (fun c172 => ?_)
  · refine zg_iload hC 1 dL_law_1895 rfl ?_
    refine zg_if_ne hC (tgt := 1912) dL_law_1897 (by decide) (fun c173 => ?_) (fun c173 => ?_)
    · refine zg_aload_n hC 5 dL_law_1900 rfl ?_
      refine zg_iconst hC (v := 0) dL_law_1901 (by decide) ?_
      refine zg_lald hC (k := 87) dL_law_1902 zq87 zk87 (fun h174 => ?_)
      refine zg_iload hC 0 dL_law_1903 rfl ?_
      refine zg_i2l hC dL_law_1905 ?_
      refine zg_lcmp hC dL_law_1906 ?_
      refine zg_if_eq hC (tgt := 1912) dL_law_1907 (by decide) (fun c175 => ?_) (fun c175 => ?_)
      · refine zg_goto hC (tgt := 2594) dL_law_1912 (by decide) ?_
        exact zg_sub [2, 3, 4, 5, 6] rfl (gL_law_B2594 hC hX hW0 N hag23 hB166 v4 M171)
      · refine zg_iconst hC (v := 0) dL_law_1910 (by decide) ?_
        exact zg_none
    · refine zg_goto hC (tgt := 2594) dL_law_1912 (by decide) ?_
      exact zg_sub [2, 3, 4, 5, 6] rfl (gL_law_B2594 hC hX hW0 N hag23 hB166 v4 M171)
  · refine zg_iconst hC (v := 0) dL_law_1893 (by decide) ?_
    exact zg_none
set_option maxRecDepth 20000 in
set_option maxHeartbeats 4000000 in
theorem gL_law_B1846 {l : Launch} {Z : zZ} {ad : Nat → Nat} {X : zX} {b Ls : Nat} {xs : Nat → Int32} (hC : zC l Z zfull ad X RL cL_law 7 ret 12) (hX : zScr X b Ls xs) (hW0 : zLaw X b) (N : Nat) {n : Nat} {again23 : Int32 → zMem → zRES} (hag23 : ∀ (cs : Nat × Nat), zB n cs → ∀ (v4 : Int32) (M : zMem), zG l Z zfull ad X cs 23 [(0, .ref b), (1, .ref (ad 0)), (2, .ref (ad 62)), (3, .ref (ad 87)), (4, .int v4)] [] M (again23 v4 M)) {cs : Nat × Nat} (hB : zB (n + 1) cs) (v4 : Int32) (M : zMem) : zG l Z zfull ad X cs 1846 [(0, .ref b), (1, .ref (ad 0)), (2, .ref (ad 62)), (3, .ref (ad 87)), (4, .int v4)] [] M (fL_law_B1846 N Ls xs again23 v4 M) := by
  unfold fL_law_B1846
  refine zg_aload_n hC 1 dL_law_1846 rfl ?_
  refine zg_callVL hC hW0 hB (k := 0) (As := []) (S := []) rfl (tX7_time (zflag hC) 11 N M) lkL_230 rfl dL_law_1847 zq0 zk0 rfl rfl (Nat.le_of_ble_eq_true rfl) (fun r176 M177 er176 => ?_)
  refine zg_aload_n hC 2 dL_law_1850 rfl ?_
  refine zg_callVL hC hW0 hB (k := 62) (As := []) (S := [.int r176]) rfl (tX8_time (zflag hC) 11 N M177) lkL_233 rfl dL_law_1851 zq62 zk62 rfl rfl (Nat.le_of_ble_eq_true rfl) (fun r178 M179 er178 => ?_)
  refine zg_icmp_eq hC (tgt := 2594) dL_law_1854 (by decide) (fun c180 => ?_) (fun c180 => ?_)
  · exact zg_sub [0, 1, 2, 3, 4] rfl (gL_law_B2594 hC hX hW0 N hag23 (zB_le hB) v4 M179)
  · refine zg_iconst hC (v := 0) dL_law_1857 (by decide) ?_
    exact zg_none
set_option maxRecDepth 20000 in
set_option maxHeartbeats 4000000 in
theorem gL_law_B1790 {l : Launch} {Z : zZ} {ad : Nat → Nat} {X : zX} {b Ls : Nat} {xs : Nat → Int32} (hC : zC l Z zfull ad X RL cL_law 7 ret 12) (hX : zScr X b Ls xs) (hW0 : zLaw X b) (N : Nat) {n : Nat} {again23 : Int32 → zMem → zRES} (hag23 : ∀ (cs : Nat × Nat), zB n cs → ∀ (v4 : Int32) (M : zMem), zG l Z zfull ad X cs 23 [(0, .ref b), (1, .ref (ad 0)), (2, .ref (ad 62)), (3, .ref (ad 87)), (4, .int v4)] [] M (again23 v4 M)) {cs : Nat × Nat} (hB : zB (n + 1) cs) (v4 : Int32) (M : zMem) : zG l Z zfull ad X cs 1790 [(0, .ref b), (1, .ref (ad 0)), (2, .ref (ad 62)), (3, .ref (ad 87)), (4, .int v4)] [] M (fL_law_B1790 N Ls xs again23 v4 M) := by
  unfold fL_law_B1790
  refine zg_aload_n hC 1 dL_law_1790 rfl ?_
  refine zg_aload_n hC 0 dL_law_1791 rfl ?_
  refine zg_iload hC 4 dL_law_1792 rfl ?_
  refine zg_iconst hC (v := 1) dL_law_1794 (by decide) ?_
  refine zg_iadd hC dL_law_1795 ?_
  refine zg_sld hC hX dL_law_1796 (fun h181 => ?_)
  refine zg_aload_n hC 3 dL_law_1797 rfl ?_
  refine zg_callWL hC hW0 hB (As := [.ref (ad 0), .int (xs (v4 + 1).toNatClampNeg), .ref (ad 87)]) (S := []) rfl (tL_pass (zflag hC) 4 N (xs (v4 + 1).toNatClampNeg) M) lkL_227 rfl dL_law_1798 (Nat.le_of_ble_eq_true rfl) (fun r182 M183 er182 => ?_)
  have hB184 := zB_step hB
  refine zg_istore hC (L' := [(5, _), (0, _), (1, _), (2, _), (3, _), (4, _)]) dL_law_1801 (by decide) rfl ?_
  refine zg_aload_n hC 3 dL_law_1803 rfl ?_
  refine zg_aload_n hC 1 dL_law_1804 rfl ?_
  refine zg_iload hC 5 dL_law_1805 rfl ?_
  refine zg_iconst hC (v := 1) dL_law_1807 (by decide) ?_
  refine zg_iadd hC dL_law_1808 ?_
  refine zg_sld hC hX dL_law_1809 (fun h185 => ?_)
  refine zg_callVL hC hW0 hB184 (k := 62) (As := [.int (xs (v4 + 1).toNatClampNeg)]) (S := []) rfl (tX8_pass (zflag hC) 8 N (xs (v4 + 1).toNatClampNeg) M183) lkL_229 rfl dL_law_1810 zq62 zk62 rfl rfl (Nat.le_of_ble_eq_true rfl) (fun r186 M187 er186 => ?_)
  refine zg_istore hC (L' := [(6, _), (5, _), (0, _), (1, _), (2, _), (3, _), (4, _)]) dL_law_1813 (by decide) rfl ?_
  refine zg_aload_n hC 4 dL_law_1815 rfl ?_
  refine zg_callVL hC hW0 hB184 (k := 62) (As := []) (S := []) rfl (tX8_thrown (zflag hC) 11 N M187) lkL_143 rfl dL_law_1816 zq62 zk62 rfl rfl (Nat.le_of_ble_eq_true rfl) (fun r188 M189 er188 => ?_)
  refine zg_iload hC 1 dL_law_1819 rfl ?_
  refine zg_icmp_eq hC (tgt := 1826) dL_law_1821 (by decide) (fun c190 => ?_) (fun c190 => ?_)
  · refine zg_iload hC 1 dL_law_1826 rfl ?_
    refine zg_if_ne hC (tgt := 1843) dL_law_1828 (by decide) (fun c191 => ?_) (fun c191 => ?_)
    · refine zg_aload_n hC 5 dL_law_1831 rfl ?_
      refine zg_iconst hC (v := 0) dL_law_1832 (by decide) ?_
      refine zg_lald hC (k := 87) dL_law_1833 zq87 zk87 (fun h192 => ?_)
      refine zg_iload hC 0 dL_law_1834 rfl ?_
      refine zg_i2l hC dL_law_1836 ?_
      refine zg_lcmp hC dL_law_1837 ?_
      refine zg_if_eq hC (tgt := 1843) dL_law_1838 (by decide) (fun c193 => ?_) (fun c193 => ?_)
      · refine zg_goto hC (tgt := 2594) dL_law_1843 (by decide) ?_
        exact zg_sub [2, 3, 4, 5, 6] rfl (gL_law_B2594 hC hX hW0 N hag23 hB184 v4 M189)
      · refine zg_iconst hC (v := 0) dL_law_1841 (by decide) ?_
        exact zg_none
    · refine zg_goto hC (tgt := 2594) dL_law_1843 (by decide) ?_
      exact zg_sub [2, 3, 4, 5, 6] rfl (gL_law_B2594 hC hX hW0 N hag23 hB184 v4 M189)
  · refine zg_iconst hC (v := 0) dL_law_1824 (by decide) ?_
    exact zg_none
set_option maxRecDepth 20000 in
set_option maxHeartbeats 4000000 in
theorem gL_law_B1777 {l : Launch} {Z : zZ} {ad : Nat → Nat} {X : zX} {b Ls : Nat} {xs : Nat → Int32} (hC : zC l Z zfull ad X RL cL_law 7 ret 12) (hX : zScr X b Ls xs) (hW0 : zLaw X b) (N : Nat) {n : Nat} {again23 : Int32 → zMem → zRES} (hag23 : ∀ (cs : Nat × Nat), zB n cs → ∀ (v4 : Int32) (M : zMem), zG l Z zfull ad X cs 23 [(0, .ref b), (1, .ref (ad 0)), (2, .ref (ad 62)), (3, .ref (ad 87)), (4, .int v4)] [] M (again23 v4 M)) {cs : Nat × Nat} (hB : zB (n + 1) cs) (v4 : Int32) (M : zMem) : zG l Z zfull ad X cs 1777 [(0, .ref b), (1, .ref (ad 0)), (2, .ref (ad 62)), (3, .ref (ad 87)), (4, .int v4)] [] M (fL_law_B1777 N Ls xs again23 v4 M) := by
  unfold fL_law_B1777
  refine zg_aload_n hC 1 dL_law_1777 rfl ?_
  refine zg_callVL hC hW0 hB (k := 0) (As := []) (S := []) rfl (tX7_stopped (zflag hC) 10 N M) lkL_223 rfl dL_law_1778 zq0 zk0 rfl rfl (Nat.le_of_ble_eq_true rfl) (fun r194 M195 er194 => ?_)
  refine zg_aload_n hC 2 dL_law_1781 rfl ?_
  refine zg_callVL hC hW0 hB (k := 62) (As := []) (S := [.int r194]) rfl (tX8_stopped (zflag hC) 9 N M195) lkL_226 rfl dL_law_1782 zq62 zk62 rfl rfl (Nat.le_of_ble_eq_true rfl) (fun r196 M197 er196 => ?_)
  refine zg_icmp_eq hC (tgt := 2594) dL_law_1785 (by decide) (fun c198 => ?_) (fun c198 => ?_)
  · exact zg_sub [0, 1, 2, 3, 4] rfl (gL_law_B2594 hC hX hW0 N hag23 (zB_le hB) v4 M197)
  · refine zg_iconst hC (v := 0) dL_law_1788 (by decide) ?_
    exact zg_none
set_option maxRecDepth 20000 in
set_option maxHeartbeats 4000000 in
theorem gL_law_B1709 {l : Launch} {Z : zZ} {ad : Nat → Nat} {X : zX} {b Ls : Nat} {xs : Nat → Int32} (hC : zC l Z zfull ad X RL cL_law 7 ret 12) (hX : zScr X b Ls xs) (hW0 : zLaw X b) (N : Nat) {n : Nat} {again23 : Int32 → zMem → zRES} (hag23 : ∀ (cs : Nat × Nat), zB n cs → ∀ (v4 : Int32) (M : zMem), zG l Z zfull ad X cs 23 [(0, .ref b), (1, .ref (ad 0)), (2, .ref (ad 62)), (3, .ref (ad 87)), (4, .int v4)] [] M (again23 v4 M)) {cs : Nat × Nat} (hB : zB (n + 1) cs) (v4 : Int32) (M : zMem) : zG l Z zfull ad X cs 1709 [(0, .ref b), (1, .ref (ad 0)), (2, .ref (ad 62)), (3, .ref (ad 87)), (4, .int v4)] [] M (fL_law_B1709 N Ls xs again23 v4 M) := by
  unfold fL_law_B1709
  refine zg_aload_n hC 1 dL_law_1709 rfl ?_
  refine zg_aload_n hC 0 dL_law_1710 rfl ?_
  refine zg_iload hC 4 dL_law_1711 rfl ?_
  refine zg_iconst hC (v := 1) dL_law_1713 (by decide) ?_
  refine zg_iadd hC dL_law_1714 ?_
  refine zg_sld hC hX dL_law_1715 (fun h199 => ?_)
  refine zg_aload_n hC 0 dL_law_1716 rfl ?_
  refine zg_iload hC 4 dL_law_1717 rfl ?_
  refine zg_iconst hC (v := 2) dL_law_1719 (by decide) ?_
  refine zg_iadd hC dL_law_1720 ?_
  refine zg_sld hC hX dL_law_1721 (fun h200 => ?_)
  refine zg_aload_n hC 3 dL_law_1722 rfl ?_
  refine zg_callWL hC hW0 hB (As := [.ref (ad 0), .int (xs (v4 + 1).toNatClampNeg), .int (xs (v4 + 2).toNatClampNeg), .ref (ad 87)]) (S := []) rfl (tL_booked (zflag hC) 3 N (xs (v4 + 1).toNatClampNeg) (xs (v4 + 2).toNatClampNeg) M) lkL_220 rfl dL_law_1723 (Nat.le_of_ble_eq_true rfl) (fun r201 M202 er201 => ?_)
  have hB203 := zB_step hB
  refine zg_istore hC (L' := [(5, _), (0, _), (1, _), (2, _), (3, _), (4, _)]) dL_law_1726 (by decide) rfl ?_
  refine zg_aload_n hC 3 dL_law_1728 rfl ?_
  refine zg_aload_n hC 1 dL_law_1729 rfl ?_
  refine zg_iload hC 5 dL_law_1730 rfl ?_
  refine zg_iconst hC (v := 1) dL_law_1732 (by decide) ?_
  refine zg_iadd hC dL_law_1733 ?_
  refine zg_sld hC hX dL_law_1734 (fun h204 => ?_)
  refine zg_aload_n hC 1 dL_law_1735 rfl ?_
  refine zg_iload hC 5 dL_law_1736 rfl ?_
  refine zg_iconst hC (v := 2) dL_law_1738 (by decide) ?_
  refine zg_iadd hC dL_law_1739 ?_
  refine zg_sld hC hX dL_law_1740 (fun h205 => ?_)
  refine zg_callVL hC hW0 hB203 (k := 62) (As := [.int (xs (v4 + 1).toNatClampNeg), .int (xs (v4 + 2).toNatClampNeg)]) (S := []) rfl (tX8_booked (zflag hC) 9 N (xs (v4 + 1).toNatClampNeg) (xs (v4 + 2).toNatClampNeg) M202) lkL_222 rfl dL_law_1741 zq62 zk62 rfl rfl (Nat.le_of_ble_eq_true rfl) (fun r206 M207 er206 => ?_)
  refine zg_istore hC (L' := [(6, _), (5, _), (0, _), (1, _), (2, _), (3, _), (4, _)]) dL_law_1744 (by decide) rfl ?_
  refine zg_aload_n hC 4 dL_law_1746 rfl ?_
  refine zg_callVL hC hW0 hB203 (k := 62) (As := []) (S := []) rfl (tX8_thrown (zflag hC) 11 N M207) lkL_143 rfl dL_law_1747 zq62 zk62 rfl rfl (Nat.le_of_ble_eq_true rfl) (fun r208 M209 er208 => ?_)
  refine zg_iload hC 1 dL_law_1750 rfl ?_
  refine zg_icmp_eq hC (tgt := 1757) dL_law_1752 (by decide) (fun c210 => ?_) (fun c210 => ?_)
  · refine zg_iload hC 1 dL_law_1757 rfl ?_
    refine zg_if_ne hC (tgt := 1774) dL_law_1759 (by decide) (fun c211 => ?_) (fun c211 => ?_)
    · refine zg_aload_n hC 5 dL_law_1762 rfl ?_
      refine zg_iconst hC (v := 0) dL_law_1763 (by decide) ?_
      refine zg_lald hC (k := 87) dL_law_1764 zq87 zk87 (fun h212 => ?_)
      refine zg_iload hC 0 dL_law_1765 rfl ?_
      refine zg_i2l hC dL_law_1767 ?_
      refine zg_lcmp hC dL_law_1768 ?_
      refine zg_if_eq hC (tgt := 1774) dL_law_1769 (by decide) (fun c213 => ?_) (fun c213 => ?_)
      · refine zg_goto hC (tgt := 2594) dL_law_1774 (by decide) ?_
        exact zg_sub [2, 3, 4, 5, 6] rfl (gL_law_B2594 hC hX hW0 N hag23 hB203 v4 M209)
      · refine zg_iconst hC (v := 0) dL_law_1772 (by decide) ?_
        exact zg_none
    · refine zg_goto hC (tgt := 2594) dL_law_1774 (by decide) ?_
      exact zg_sub [2, 3, 4, 5, 6] rfl (gL_law_B2594 hC hX hW0 N hag23 hB203 v4 M209)
  · refine zg_iconst hC (v := 0) dL_law_1755 (by decide) ?_
    exact zg_none
set_option maxRecDepth 20000 in
set_option maxHeartbeats 4000000 in
theorem gL_law_B1641 {l : Launch} {Z : zZ} {ad : Nat → Nat} {X : zX} {b Ls : Nat} {xs : Nat → Int32} (hC : zC l Z zfull ad X RL cL_law 7 ret 12) (hX : zScr X b Ls xs) (hW0 : zLaw X b) (N : Nat) {n : Nat} {again23 : Int32 → zMem → zRES} (hag23 : ∀ (cs : Nat × Nat), zB n cs → ∀ (v4 : Int32) (M : zMem), zG l Z zfull ad X cs 23 [(0, .ref b), (1, .ref (ad 0)), (2, .ref (ad 62)), (3, .ref (ad 87)), (4, .int v4)] [] M (again23 v4 M)) {cs : Nat × Nat} (hB : zB (n + 1) cs) (v4 : Int32) (M : zMem) : zG l Z zfull ad X cs 1641 [(0, .ref b), (1, .ref (ad 0)), (2, .ref (ad 62)), (3, .ref (ad 87)), (4, .int v4)] [] M (fL_law_B1641 N Ls xs again23 v4 M) := by
  unfold fL_law_B1641
  refine zg_aload_n hC 1 dL_law_1641 rfl ?_
  refine zg_aload_n hC 0 dL_law_1642 rfl ?_
  refine zg_iload hC 4 dL_law_1643 rfl ?_
  refine zg_iconst hC (v := 1) dL_law_1645 (by decide) ?_
  refine zg_iadd hC dL_law_1646 ?_
  refine zg_sld hC hX dL_law_1647 (fun h214 => ?_)
  refine zg_aload_n hC 0 dL_law_1648 rfl ?_
  refine zg_iload hC 4 dL_law_1649 rfl ?_
  refine zg_iconst hC (v := 2) dL_law_1651 (by decide) ?_
  refine zg_iadd hC dL_law_1652 ?_
  refine zg_sld hC hX dL_law_1653 (fun h215 => ?_)
  refine zg_aload_n hC 3 dL_law_1654 rfl ?_
  refine zg_callWL hC hW0 hB (As := [.ref (ad 0), .int (xs (v4 + 1).toNatClampNeg), .int (xs (v4 + 2).toNatClampNeg), .ref (ad 87)]) (S := []) rfl (tL_free (zflag hC) 3 N (xs (v4 + 1).toNatClampNeg) (xs (v4 + 2).toNatClampNeg) M) lkL_217 rfl dL_law_1655 (Nat.le_of_ble_eq_true rfl) (fun r216 M217 er216 => ?_)
  have hB218 := zB_step hB
  refine zg_istore hC (L' := [(5, _), (0, _), (1, _), (2, _), (3, _), (4, _)]) dL_law_1658 (by decide) rfl ?_
  refine zg_aload_n hC 3 dL_law_1660 rfl ?_
  refine zg_aload_n hC 1 dL_law_1661 rfl ?_
  refine zg_iload hC 5 dL_law_1662 rfl ?_
  refine zg_iconst hC (v := 1) dL_law_1664 (by decide) ?_
  refine zg_iadd hC dL_law_1665 ?_
  refine zg_sld hC hX dL_law_1666 (fun h219 => ?_)
  refine zg_aload_n hC 1 dL_law_1667 rfl ?_
  refine zg_iload hC 5 dL_law_1668 rfl ?_
  refine zg_iconst hC (v := 2) dL_law_1670 (by decide) ?_
  refine zg_iadd hC dL_law_1671 ?_
  refine zg_sld hC hX dL_law_1672 (fun h220 => ?_)
  refine zg_callVL hC hW0 hB218 (k := 62) (As := [.int (xs (v4 + 1).toNatClampNeg), .int (xs (v4 + 2).toNatClampNeg)]) (S := []) rfl (tX8_free (zflag hC) 9 N (xs (v4 + 1).toNatClampNeg) (xs (v4 + 2).toNatClampNeg) M217) lkL_219 rfl dL_law_1673 zq62 zk62 rfl rfl (Nat.le_of_ble_eq_true rfl) (fun r221 M222 er221 => ?_)
  refine zg_istore hC (L' := [(6, _), (5, _), (0, _), (1, _), (2, _), (3, _), (4, _)]) dL_law_1676 (by decide) rfl ?_
  refine zg_aload_n hC 4 dL_law_1678 rfl ?_
  refine zg_callVL hC hW0 hB218 (k := 62) (As := []) (S := []) rfl (tX8_thrown (zflag hC) 11 N M222) lkL_143 rfl dL_law_1679 zq62 zk62 rfl rfl (Nat.le_of_ble_eq_true rfl) (fun r223 M224 er223 => ?_)
  refine zg_iload hC 1 dL_law_1682 rfl ?_
  refine zg_icmp_eq hC (tgt := 1689) dL_law_1684 (by decide) (fun c225 => ?_) (fun c225 => ?_)
  · refine zg_iload hC 1 dL_law_1689 rfl ?_
    refine zg_if_ne hC (tgt := 1706) dL_law_1691 (by decide) (fun c226 => ?_) (fun c226 => ?_)
    · refine zg_aload_n hC 5 dL_law_1694 rfl ?_
      refine zg_iconst hC (v := 0) dL_law_1695 (by decide) ?_
      refine zg_lald hC (k := 87) dL_law_1696 zq87 zk87 (fun h227 => ?_)
      refine zg_iload hC 0 dL_law_1697 rfl ?_
      refine zg_i2l hC dL_law_1699 ?_
      refine zg_lcmp hC dL_law_1700 ?_
      refine zg_if_eq hC (tgt := 1706) dL_law_1701 (by decide) (fun c228 => ?_) (fun c228 => ?_)
      · refine zg_goto hC (tgt := 2594) dL_law_1706 (by decide) ?_
        exact zg_sub [2, 3, 4, 5, 6] rfl (gL_law_B2594 hC hX hW0 N hag23 hB218 v4 M224)
      · refine zg_iconst hC (v := 0) dL_law_1704 (by decide) ?_
        exact zg_none
    · refine zg_goto hC (tgt := 2594) dL_law_1706 (by decide) ?_
      exact zg_sub [2, 3, 4, 5, 6] rfl (gL_law_B2594 hC hX hW0 N hag23 hB218 v4 M224)
  · refine zg_iconst hC (v := 0) dL_law_1687 (by decide) ?_
    exact zg_none
set_option maxRecDepth 20000 in
set_option maxHeartbeats 4000000 in
theorem gL_law_B1573 {l : Launch} {Z : zZ} {ad : Nat → Nat} {X : zX} {b Ls : Nat} {xs : Nat → Int32} (hC : zC l Z zfull ad X RL cL_law 7 ret 12) (hX : zScr X b Ls xs) (hW0 : zLaw X b) (N : Nat) {n : Nat} {again23 : Int32 → zMem → zRES} (hag23 : ∀ (cs : Nat × Nat), zB n cs → ∀ (v4 : Int32) (M : zMem), zG l Z zfull ad X cs 23 [(0, .ref b), (1, .ref (ad 0)), (2, .ref (ad 62)), (3, .ref (ad 87)), (4, .int v4)] [] M (again23 v4 M)) {cs : Nat × Nat} (hB : zB (n + 1) cs) (v4 : Int32) (M : zMem) : zG l Z zfull ad X cs 1573 [(0, .ref b), (1, .ref (ad 0)), (2, .ref (ad 62)), (3, .ref (ad 87)), (4, .int v4)] [] M (fL_law_B1573 N Ls xs again23 v4 M) := by
  unfold fL_law_B1573
  refine zg_aload_n hC 1 dL_law_1573 rfl ?_
  refine zg_aload_n hC 0 dL_law_1574 rfl ?_
  refine zg_iload hC 4 dL_law_1575 rfl ?_
  refine zg_iconst hC (v := 1) dL_law_1577 (by decide) ?_
  refine zg_iadd hC dL_law_1578 ?_
  refine zg_sld hC hX dL_law_1579 (fun h229 => ?_)
  refine zg_aload_n hC 0 dL_law_1580 rfl ?_
  refine zg_iload hC 4 dL_law_1581 rfl ?_
  refine zg_iconst hC (v := 2) dL_law_1583 (by decide) ?_
  refine zg_iadd hC dL_law_1584 ?_
  refine zg_sld hC hX dL_law_1585 (fun h230 => ?_)
  refine zg_aload_n hC 3 dL_law_1586 rfl ?_
  refine zg_callWL hC hW0 hB (As := [.ref (ad 0), .int (xs (v4 + 1).toNatClampNeg), .int (xs (v4 + 2).toNatClampNeg), .ref (ad 87)]) (S := []) rfl (tL_renew (zflag hC) 3 N (xs (v4 + 1).toNatClampNeg) (xs (v4 + 2).toNatClampNeg) M) lkL_214 rfl dL_law_1587 (Nat.le_of_ble_eq_true rfl) (fun r231 M232 er231 => ?_)
  have hB233 := zB_step hB
  refine zg_istore hC (L' := [(5, _), (0, _), (1, _), (2, _), (3, _), (4, _)]) dL_law_1590 (by decide) rfl ?_
  refine zg_aload_n hC 3 dL_law_1592 rfl ?_
  refine zg_aload_n hC 1 dL_law_1593 rfl ?_
  refine zg_iload hC 5 dL_law_1594 rfl ?_
  refine zg_iconst hC (v := 1) dL_law_1596 (by decide) ?_
  refine zg_iadd hC dL_law_1597 ?_
  refine zg_sld hC hX dL_law_1598 (fun h234 => ?_)
  refine zg_aload_n hC 1 dL_law_1599 rfl ?_
  refine zg_iload hC 5 dL_law_1600 rfl ?_
  refine zg_iconst hC (v := 2) dL_law_1602 (by decide) ?_
  refine zg_iadd hC dL_law_1603 ?_
  refine zg_sld hC hX dL_law_1604 (fun h235 => ?_)
  refine zg_callVL hC hW0 hB233 (k := 62) (As := [.int (xs (v4 + 1).toNatClampNeg), .int (xs (v4 + 2).toNatClampNeg)]) (S := []) rfl (tX8_renew (zflag hC) 8 N (xs (v4 + 1).toNatClampNeg) (xs (v4 + 2).toNatClampNeg) M232) lkL_216 rfl dL_law_1605 zq62 zk62 rfl rfl (Nat.le_of_ble_eq_true rfl) (fun r236 M237 er236 => ?_)
  refine zg_istore hC (L' := [(6, _), (5, _), (0, _), (1, _), (2, _), (3, _), (4, _)]) dL_law_1608 (by decide) rfl ?_
  refine zg_aload_n hC 4 dL_law_1610 rfl ?_
  refine zg_callVL hC hW0 hB233 (k := 62) (As := []) (S := []) rfl (tX8_thrown (zflag hC) 11 N M237) lkL_143 rfl dL_law_1611 zq62 zk62 rfl rfl (Nat.le_of_ble_eq_true rfl) (fun r238 M239 er238 => ?_)
  refine zg_iload hC 1 dL_law_1614 rfl ?_
  refine zg_icmp_eq hC (tgt := 1621) dL_law_1616 (by decide) (fun c240 => ?_) (fun c240 => ?_)
  · refine zg_iload hC 1 dL_law_1621 rfl ?_
    refine zg_if_ne hC (tgt := 1638) dL_law_1623 (by decide) (fun c241 => ?_) (fun c241 => ?_)
    · refine zg_aload_n hC 5 dL_law_1626 rfl ?_
      refine zg_iconst hC (v := 0) dL_law_1627 (by decide) ?_
      refine zg_lald hC (k := 87) dL_law_1628 zq87 zk87 (fun h242 => ?_)
      refine zg_iload hC 0 dL_law_1629 rfl ?_
      refine zg_i2l hC dL_law_1631 ?_
      refine zg_lcmp hC dL_law_1632 ?_
      refine zg_if_eq hC (tgt := 1638) dL_law_1633 (by decide) (fun c243 => ?_) (fun c243 => ?_)
      · refine zg_goto hC (tgt := 2594) dL_law_1638 (by decide) ?_
        exact zg_sub [2, 3, 4, 5, 6] rfl (gL_law_B2594 hC hX hW0 N hag23 hB233 v4 M239)
      · refine zg_iconst hC (v := 0) dL_law_1636 (by decide) ?_
        exact zg_none
    · refine zg_goto hC (tgt := 2594) dL_law_1638 (by decide) ?_
      exact zg_sub [2, 3, 4, 5, 6] rfl (gL_law_B2594 hC hX hW0 N hag23 hB233 v4 M239)
  · refine zg_iconst hC (v := 0) dL_law_1619 (by decide) ?_
    exact zg_none
set_option maxRecDepth 20000 in
set_option maxHeartbeats 4000000 in
theorem gL_law_B1493 {l : Launch} {Z : zZ} {ad : Nat → Nat} {X : zX} {b Ls : Nat} {xs : Nat → Int32} (hC : zC l Z zfull ad X RL cL_law 7 ret 12) (hX : zScr X b Ls xs) (hW0 : zLaw X b) (N : Nat) {n : Nat} {again23 : Int32 → zMem → zRES} (hag23 : ∀ (cs : Nat × Nat), zB n cs → ∀ (v4 : Int32) (M : zMem), zG l Z zfull ad X cs 23 [(0, .ref b), (1, .ref (ad 0)), (2, .ref (ad 62)), (3, .ref (ad 87)), (4, .int v4)] [] M (again23 v4 M)) {cs : Nat × Nat} (hB : zB (n + 1) cs) (v4 : Int32) (M : zMem) : zG l Z zfull ad X cs 1493 [(0, .ref b), (1, .ref (ad 0)), (2, .ref (ad 62)), (3, .ref (ad 87)), (4, .int v4)] [] M (fL_law_B1493 N Ls xs again23 v4 M) := by
  unfold fL_law_B1493
  refine zg_aload_n hC 1 dL_law_1493 rfl ?_
  refine zg_aload_n hC 0 dL_law_1494 rfl ?_
  refine zg_iload hC 4 dL_law_1495 rfl ?_
  refine zg_iconst hC (v := 1) dL_law_1497 (by decide) ?_
  refine zg_iadd hC dL_law_1498 ?_
  refine zg_sld hC hX dL_law_1499 (fun h244 => ?_)
  refine zg_aload_n hC 0 dL_law_1500 rfl ?_
  refine zg_iload hC 4 dL_law_1501 rfl ?_
  refine zg_iconst hC (v := 2) dL_law_1503 (by decide) ?_
  refine zg_iadd hC dL_law_1504 ?_
  refine zg_sld hC hX dL_law_1505 (fun h245 => ?_)
  refine zg_aload_n hC 0 dL_law_1506 rfl ?_
  refine zg_iload hC 4 dL_law_1507 rfl ?_
  refine zg_iconst hC (v := 3) dL_law_1509 (by decide) ?_
  refine zg_iadd hC dL_law_1510 ?_
  refine zg_sld hC hX dL_law_1511 (fun h246 => ?_)
  refine zg_aload_n hC 3 dL_law_1512 rfl ?_
  refine zg_callWL hC hW0 hB (As := [.ref (ad 0), .int (xs (v4 + 1).toNatClampNeg), .int (xs (v4 + 2).toNatClampNeg), .int (xs (v4 + 3).toNatClampNeg), .ref (ad 87)]) (S := []) rfl (tL_book (zflag hC) 3 N (xs (v4 + 1).toNatClampNeg) (xs (v4 + 2).toNatClampNeg) (xs (v4 + 3).toNatClampNeg) M) lkL_211 rfl dL_law_1513 (Nat.le_of_ble_eq_true rfl) (fun r247 M248 er247 => ?_)
  have hB249 := zB_step hB
  refine zg_istore hC (L' := [(5, _), (0, _), (1, _), (2, _), (3, _), (4, _)]) dL_law_1516 (by decide) rfl ?_
  refine zg_aload_n hC 3 dL_law_1518 rfl ?_
  refine zg_aload_n hC 1 dL_law_1519 rfl ?_
  refine zg_iload hC 5 dL_law_1520 rfl ?_
  refine zg_iconst hC (v := 1) dL_law_1522 (by decide) ?_
  refine zg_iadd hC dL_law_1523 ?_
  refine zg_sld hC hX dL_law_1524 (fun h250 => ?_)
  refine zg_aload_n hC 1 dL_law_1525 rfl ?_
  refine zg_iload hC 5 dL_law_1526 rfl ?_
  refine zg_iconst hC (v := 2) dL_law_1528 (by decide) ?_
  refine zg_iadd hC dL_law_1529 ?_
  refine zg_sld hC hX dL_law_1530 (fun h251 => ?_)
  refine zg_aload_n hC 1 dL_law_1531 rfl ?_
  refine zg_iload hC 5 dL_law_1532 rfl ?_
  refine zg_iconst hC (v := 3) dL_law_1534 (by decide) ?_
  refine zg_iadd hC dL_law_1535 ?_
  refine zg_sld hC hX dL_law_1536 (fun h252 => ?_)
  refine zg_callVL hC hW0 hB249 (k := 62) (As := [.int (xs (v4 + 1).toNatClampNeg), .int (xs (v4 + 2).toNatClampNeg), .int (xs (v4 + 3).toNatClampNeg)]) (S := []) rfl (tX8_book (zflag hC) 8 N (xs (v4 + 1).toNatClampNeg) (xs (v4 + 2).toNatClampNeg) (xs (v4 + 3).toNatClampNeg) M248) lkL_213 rfl dL_law_1537 zq62 zk62 rfl rfl (Nat.le_of_ble_eq_true rfl) (fun r253 M254 er253 => ?_)
  refine zg_istore hC (L' := [(6, _), (5, _), (0, _), (1, _), (2, _), (3, _), (4, _)]) dL_law_1540 (by decide) rfl ?_
  refine zg_aload_n hC 4 dL_law_1542 rfl ?_
  refine zg_callVL hC hW0 hB249 (k := 62) (As := []) (S := []) rfl (tX8_thrown (zflag hC) 11 N M254) lkL_143 rfl dL_law_1543 zq62 zk62 rfl rfl (Nat.le_of_ble_eq_true rfl) (fun r255 M256 er255 => ?_)
  refine zg_iload hC 1 dL_law_1546 rfl ?_
  refine zg_icmp_eq hC (tgt := 1553) dL_law_1548 (by decide) (fun c257 => ?_) (fun c257 => ?_)
  · refine zg_iload hC 1 dL_law_1553 rfl ?_
    refine zg_if_ne hC (tgt := 1570) dL_law_1555 (by decide) (fun c258 => ?_) (fun c258 => ?_)
    · refine zg_aload_n hC 5 dL_law_1558 rfl ?_
      refine zg_iconst hC (v := 0) dL_law_1559 (by decide) ?_
      refine zg_lald hC (k := 87) dL_law_1560 zq87 zk87 (fun h259 => ?_)
      refine zg_iload hC 0 dL_law_1561 rfl ?_
      refine zg_i2l hC dL_law_1563 ?_
      refine zg_lcmp hC dL_law_1564 ?_
      refine zg_if_eq hC (tgt := 1570) dL_law_1565 (by decide) (fun c260 => ?_) (fun c260 => ?_)
      · refine zg_goto hC (tgt := 2594) dL_law_1570 (by decide) ?_
        exact zg_sub [2, 3, 4, 5, 6] rfl (gL_law_B2594 hC hX hW0 N hag23 hB249 v4 M256)
      · refine zg_iconst hC (v := 0) dL_law_1568 (by decide) ?_
        exact zg_none
    · refine zg_goto hC (tgt := 2594) dL_law_1570 (by decide) ?_
      exact zg_sub [2, 3, 4, 5, 6] rfl (gL_law_B2594 hC hX hW0 N hag23 hB249 v4 M256)
  · refine zg_iconst hC (v := 0) dL_law_1551 (by decide) ?_
    exact zg_none
set_option maxRecDepth 20000 in
set_option maxHeartbeats 4000000 in
theorem gL_law_B1437 {l : Launch} {Z : zZ} {ad : Nat → Nat} {X : zX} {b Ls : Nat} {xs : Nat → Int32} (hC : zC l Z zfull ad X RL cL_law 7 ret 12) (hX : zScr X b Ls xs) (hW0 : zLaw X b) (N : Nat) {n : Nat} {again23 : Int32 → zMem → zRES} (hag23 : ∀ (cs : Nat × Nat), zB n cs → ∀ (v4 : Int32) (M : zMem), zG l Z zfull ad X cs 23 [(0, .ref b), (1, .ref (ad 0)), (2, .ref (ad 62)), (3, .ref (ad 87)), (4, .int v4)] [] M (again23 v4 M)) {cs : Nat × Nat} (hB : zB (n + 1) cs) (v4 : Int32) (M : zMem) : zG l Z zfull ad X cs 1437 [(0, .ref b), (1, .ref (ad 0)), (2, .ref (ad 62)), (3, .ref (ad 87)), (4, .int v4)] [] M (fL_law_B1437 N Ls xs again23 v4 M) := by
  unfold fL_law_B1437
  refine zg_aload_n hC 1 dL_law_1437 rfl ?_
  refine zg_aload_n hC 0 dL_law_1438 rfl ?_
  refine zg_iload hC 4 dL_law_1439 rfl ?_
  refine zg_iconst hC (v := 1) dL_law_1441 (by decide) ?_
  refine zg_iadd hC dL_law_1442 ?_
  refine zg_sld hC hX dL_law_1443 (fun h261 => ?_)
  refine zg_aload_n hC 3 dL_law_1444 rfl ?_
  refine zg_callWL hC hW0 hB (As := [.ref (ad 0), .int (xs (v4 + 1).toNatClampNeg), .ref (ad 87)]) (S := []) rfl (tL_store (zflag hC) 3 N (xs (v4 + 1).toNatClampNeg) M) lkL_208 rfl dL_law_1445 (Nat.le_of_ble_eq_true rfl) (fun r262 M263 er262 => ?_)
  have hB264 := zB_step hB
  refine zg_istore hC (L' := [(5, _), (0, _), (1, _), (2, _), (3, _), (4, _)]) dL_law_1448 (by decide) rfl ?_
  refine zg_aload_n hC 3 dL_law_1450 rfl ?_
  refine zg_aload_n hC 1 dL_law_1451 rfl ?_
  refine zg_iload hC 5 dL_law_1452 rfl ?_
  refine zg_iconst hC (v := 1) dL_law_1454 (by decide) ?_
  refine zg_iadd hC dL_law_1455 ?_
  refine zg_sld hC hX dL_law_1456 (fun h265 => ?_)
  refine zg_callVL hC hW0 hB264 (k := 62) (As := [.int (xs (v4 + 1).toNatClampNeg)]) (S := []) rfl (tX8_store (zflag hC) 8 N (xs (v4 + 1).toNatClampNeg) M263) lkL_210 rfl dL_law_1457 zq62 zk62 rfl rfl (Nat.le_of_ble_eq_true rfl) (fun r266 M267 er266 => ?_)
  refine zg_istore hC (L' := [(6, _), (5, _), (0, _), (1, _), (2, _), (3, _), (4, _)]) dL_law_1460 (by decide) rfl ?_
  refine zg_aload_n hC 4 dL_law_1462 rfl ?_
  refine zg_callVL hC hW0 hB264 (k := 62) (As := []) (S := []) rfl (tX8_thrown (zflag hC) 11 N M267) lkL_143 rfl dL_law_1463 zq62 zk62 rfl rfl (Nat.le_of_ble_eq_true rfl) (fun r268 M269 er268 => ?_)
  refine zg_iload hC 1 dL_law_1466 rfl ?_
  refine zg_icmp_eq hC (tgt := 1473) dL_law_1468 (by decide) (fun c270 => ?_) (fun c270 => ?_)
  · refine zg_iload hC 1 dL_law_1473 rfl ?_
    refine zg_if_ne hC (tgt := 1490) dL_law_1475 (by decide) (fun c271 => ?_) (fun c271 => ?_)
    · refine zg_aload_n hC 5 dL_law_1478 rfl ?_
      refine zg_iconst hC (v := 0) dL_law_1479 (by decide) ?_
      refine zg_lald hC (k := 87) dL_law_1480 zq87 zk87 (fun h272 => ?_)
      refine zg_iload hC 0 dL_law_1481 rfl ?_
      refine zg_i2l hC dL_law_1483 ?_
      refine zg_lcmp hC dL_law_1484 ?_
      refine zg_if_eq hC (tgt := 1490) dL_law_1485 (by decide) (fun c273 => ?_) (fun c273 => ?_)
      · refine zg_goto hC (tgt := 2594) dL_law_1490 (by decide) ?_
        exact zg_sub [2, 3, 4, 5, 6] rfl (gL_law_B2594 hC hX hW0 N hag23 hB264 v4 M269)
      · refine zg_iconst hC (v := 0) dL_law_1488 (by decide) ?_
        exact zg_none
    · refine zg_goto hC (tgt := 2594) dL_law_1490 (by decide) ?_
      exact zg_sub [2, 3, 4, 5, 6] rfl (gL_law_B2594 hC hX hW0 N hag23 hB264 v4 M269)
  · refine zg_iconst hC (v := 0) dL_law_1471 (by decide) ?_
    exact zg_none
set_option maxRecDepth 20000 in
set_option maxHeartbeats 4000000 in
theorem gL_law_B1381 {l : Launch} {Z : zZ} {ad : Nat → Nat} {X : zX} {b Ls : Nat} {xs : Nat → Int32} (hC : zC l Z zfull ad X RL cL_law 7 ret 12) (hX : zScr X b Ls xs) (hW0 : zLaw X b) (N : Nat) {n : Nat} {again23 : Int32 → zMem → zRES} (hag23 : ∀ (cs : Nat × Nat), zB n cs → ∀ (v4 : Int32) (M : zMem), zG l Z zfull ad X cs 23 [(0, .ref b), (1, .ref (ad 0)), (2, .ref (ad 62)), (3, .ref (ad 87)), (4, .int v4)] [] M (again23 v4 M)) {cs : Nat × Nat} (hB : zB (n + 1) cs) (v4 : Int32) (M : zMem) : zG l Z zfull ad X cs 1381 [(0, .ref b), (1, .ref (ad 0)), (2, .ref (ad 62)), (3, .ref (ad 87)), (4, .int v4)] [] M (fL_law_B1381 N Ls xs again23 v4 M) := by
  unfold fL_law_B1381
  refine zg_aload_n hC 1 dL_law_1381 rfl ?_
  refine zg_aload_n hC 0 dL_law_1382 rfl ?_
  refine zg_iload hC 4 dL_law_1383 rfl ?_
  refine zg_iconst hC (v := 1) dL_law_1385 (by decide) ?_
  refine zg_iadd hC dL_law_1386 ?_
  refine zg_sld hC hX dL_law_1387 (fun h274 => ?_)
  refine zg_aload_n hC 3 dL_law_1388 rfl ?_
  refine zg_callWL hC hW0 hB (As := [.ref (ad 0), .int (xs (v4 + 1).toNatClampNeg), .ref (ad 87)]) (S := []) rfl (tL_condemn (zflag hC) 3 N (xs (v4 + 1).toNatClampNeg) M) lkL_205 rfl dL_law_1389 (Nat.le_of_ble_eq_true rfl) (fun r275 M276 er275 => ?_)
  have hB277 := zB_step hB
  refine zg_istore hC (L' := [(5, _), (0, _), (1, _), (2, _), (3, _), (4, _)]) dL_law_1392 (by decide) rfl ?_
  refine zg_aload_n hC 3 dL_law_1394 rfl ?_
  refine zg_aload_n hC 1 dL_law_1395 rfl ?_
  refine zg_iload hC 5 dL_law_1396 rfl ?_
  refine zg_iconst hC (v := 1) dL_law_1398 (by decide) ?_
  refine zg_iadd hC dL_law_1399 ?_
  refine zg_sld hC hX dL_law_1400 (fun h278 => ?_)
  refine zg_callVL hC hW0 hB277 (k := 62) (As := [.int (xs (v4 + 1).toNatClampNeg)]) (S := []) rfl (tX8_condemn (zflag hC) 9 N (xs (v4 + 1).toNatClampNeg) M276) lkL_207 rfl dL_law_1401 zq62 zk62 rfl rfl (Nat.le_of_ble_eq_true rfl) (fun r279 M280 er279 => ?_)
  refine zg_istore hC (L' := [(6, _), (5, _), (0, _), (1, _), (2, _), (3, _), (4, _)]) dL_law_1404 (by decide) rfl ?_
  refine zg_aload_n hC 4 dL_law_1406 rfl ?_
  refine zg_callVL hC hW0 hB277 (k := 62) (As := []) (S := []) rfl (tX8_thrown (zflag hC) 11 N M280) lkL_143 rfl dL_law_1407 zq62 zk62 rfl rfl (Nat.le_of_ble_eq_true rfl) (fun r281 M282 er281 => ?_)
  refine zg_iload hC 1 dL_law_1410 rfl ?_
  refine zg_icmp_eq hC (tgt := 1417) dL_law_1412 (by decide) (fun c283 => ?_) (fun c283 => ?_)
  · refine zg_iload hC 1 dL_law_1417 rfl ?_
    refine zg_if_ne hC (tgt := 1434) dL_law_1419 (by decide) (fun c284 => ?_) (fun c284 => ?_)
    · refine zg_aload_n hC 5 dL_law_1422 rfl ?_
      refine zg_iconst hC (v := 0) dL_law_1423 (by decide) ?_
      refine zg_lald hC (k := 87) dL_law_1424 zq87 zk87 (fun h285 => ?_)
      refine zg_iload hC 0 dL_law_1425 rfl ?_
      refine zg_i2l hC dL_law_1427 ?_
      refine zg_lcmp hC dL_law_1428 ?_
      refine zg_if_eq hC (tgt := 1434) dL_law_1429 (by decide) (fun c286 => ?_) (fun c286 => ?_)
      · refine zg_goto hC (tgt := 2594) dL_law_1434 (by decide) ?_
        exact zg_sub [2, 3, 4, 5, 6] rfl (gL_law_B2594 hC hX hW0 N hag23 hB277 v4 M282)
      · refine zg_iconst hC (v := 0) dL_law_1432 (by decide) ?_
        exact zg_none
    · refine zg_goto hC (tgt := 2594) dL_law_1434 (by decide) ?_
      exact zg_sub [2, 3, 4, 5, 6] rfl (gL_law_B2594 hC hX hW0 N hag23 hB277 v4 M282)
  · refine zg_iconst hC (v := 0) dL_law_1415 (by decide) ?_
    exact zg_none
set_option maxRecDepth 20000 in
set_option maxHeartbeats 4000000 in
theorem gL_law_B1301 {l : Launch} {Z : zZ} {ad : Nat → Nat} {X : zX} {b Ls : Nat} {xs : Nat → Int32} (hC : zC l Z zfull ad X RL cL_law 7 ret 12) (hX : zScr X b Ls xs) (hW0 : zLaw X b) (N : Nat) {n : Nat} {again23 : Int32 → zMem → zRES} (hag23 : ∀ (cs : Nat × Nat), zB n cs → ∀ (v4 : Int32) (M : zMem), zG l Z zfull ad X cs 23 [(0, .ref b), (1, .ref (ad 0)), (2, .ref (ad 62)), (3, .ref (ad 87)), (4, .int v4)] [] M (again23 v4 M)) {cs : Nat × Nat} (hB : zB (n + 1) cs) (v4 : Int32) (M : zMem) : zG l Z zfull ad X cs 1301 [(0, .ref b), (1, .ref (ad 0)), (2, .ref (ad 62)), (3, .ref (ad 87)), (4, .int v4)] [] M (fL_law_B1301 N Ls xs again23 v4 M) := by
  unfold fL_law_B1301
  refine zg_aload_n hC 1 dL_law_1301 rfl ?_
  refine zg_aload_n hC 0 dL_law_1302 rfl ?_
  refine zg_iload hC 4 dL_law_1303 rfl ?_
  refine zg_iconst hC (v := 1) dL_law_1305 (by decide) ?_
  refine zg_iadd hC dL_law_1306 ?_
  refine zg_sld hC hX dL_law_1307 (fun h287 => ?_)
  refine zg_aload_n hC 0 dL_law_1308 rfl ?_
  refine zg_iload hC 4 dL_law_1309 rfl ?_
  refine zg_iconst hC (v := 2) dL_law_1311 (by decide) ?_
  refine zg_iadd hC dL_law_1312 ?_
  refine zg_sld hC hX dL_law_1313 (fun h288 => ?_)
  refine zg_aload_n hC 0 dL_law_1314 rfl ?_
  refine zg_iload hC 4 dL_law_1315 rfl ?_
  refine zg_iconst hC (v := 3) dL_law_1317 (by decide) ?_
  refine zg_iadd hC dL_law_1318 ?_
  refine zg_sld hC hX dL_law_1319 (fun h289 => ?_)
  refine zg_aload_n hC 3 dL_law_1320 rfl ?_
  refine zg_callWL hC hW0 hB (As := [.ref (ad 0), .int (xs (v4 + 1).toNatClampNeg), .int (xs (v4 + 2).toNatClampNeg), .int (xs (v4 + 3).toNatClampNeg), .ref (ad 87)]) (S := []) rfl (tL_deliver (zflag hC) 3 N (xs (v4 + 1).toNatClampNeg) (xs (v4 + 2).toNatClampNeg) (xs (v4 + 3).toNatClampNeg) M) lkL_201 rfl dL_law_1321 (Nat.le_of_ble_eq_true rfl) (fun r290 M291 er290 => ?_)
  have hB292 := zB_step hB
  refine zg_istore hC (L' := [(5, _), (0, _), (1, _), (2, _), (3, _), (4, _)]) dL_law_1324 (by decide) rfl ?_
  refine zg_aload_n hC 3 dL_law_1326 rfl ?_
  refine zg_aload_n hC 1 dL_law_1327 rfl ?_
  refine zg_iload hC 5 dL_law_1328 rfl ?_
  refine zg_iconst hC (v := 1) dL_law_1330 (by decide) ?_
  refine zg_iadd hC dL_law_1331 ?_
  refine zg_sld hC hX dL_law_1332 (fun h293 => ?_)
  refine zg_aload_n hC 1 dL_law_1333 rfl ?_
  refine zg_iload hC 5 dL_law_1334 rfl ?_
  refine zg_iconst hC (v := 2) dL_law_1336 (by decide) ?_
  refine zg_iadd hC dL_law_1337 ?_
  refine zg_sld hC hX dL_law_1338 (fun h294 => ?_)
  refine zg_aload_n hC 1 dL_law_1339 rfl ?_
  refine zg_iload hC 5 dL_law_1340 rfl ?_
  refine zg_iconst hC (v := 3) dL_law_1342 (by decide) ?_
  refine zg_iadd hC dL_law_1343 ?_
  refine zg_sld hC hX dL_law_1344 (fun h295 => ?_)
  refine zg_callVL hC hW0 hB292 (k := 62) (As := [.int (xs (v4 + 1).toNatClampNeg), .int (xs (v4 + 2).toNatClampNeg), .int (xs (v4 + 3).toNatClampNeg)]) (S := []) rfl (tX8_deliver (zflag hC) 9 N (xs (v4 + 1).toNatClampNeg) (xs (v4 + 2).toNatClampNeg) (xs (v4 + 3).toNatClampNeg) M291) lkL_204 rfl dL_law_1345 zq62 zk62 rfl rfl (Nat.le_of_ble_eq_true rfl) (fun r296 M297 er296 => ?_)
  refine zg_istore hC (L' := [(6, _), (5, _), (0, _), (1, _), (2, _), (3, _), (4, _)]) dL_law_1348 (by decide) rfl ?_
  refine zg_aload_n hC 4 dL_law_1350 rfl ?_
  refine zg_callVL hC hW0 hB292 (k := 62) (As := []) (S := []) rfl (tX8_thrown (zflag hC) 11 N M297) lkL_143 rfl dL_law_1351 zq62 zk62 rfl rfl (Nat.le_of_ble_eq_true rfl) (fun r298 M299 er298 => ?_)
  refine zg_iload hC 1 dL_law_1354 rfl ?_
  refine zg_icmp_eq hC (tgt := 1361) dL_law_1356 (by decide) (fun c300 => ?_) (fun c300 => ?_)
  · refine zg_iload hC 1 dL_law_1361 rfl ?_
    refine zg_if_ne hC (tgt := 1378) dL_law_1363 (by decide) (fun c301 => ?_) (fun c301 => ?_)
    · refine zg_aload_n hC 5 dL_law_1366 rfl ?_
      refine zg_iconst hC (v := 0) dL_law_1367 (by decide) ?_
      refine zg_lald hC (k := 87) dL_law_1368 zq87 zk87 (fun h302 => ?_)
      refine zg_iload hC 0 dL_law_1369 rfl ?_
      refine zg_i2l hC dL_law_1371 ?_
      refine zg_lcmp hC dL_law_1372 ?_
      refine zg_if_eq hC (tgt := 1378) dL_law_1373 (by decide) (fun c303 => ?_) (fun c303 => ?_)
      · refine zg_goto hC (tgt := 2594) dL_law_1378 (by decide) ?_
        exact zg_sub [2, 3, 4, 5, 6] rfl (gL_law_B2594 hC hX hW0 N hag23 hB292 v4 M299)
      · refine zg_iconst hC (v := 0) dL_law_1376 (by decide) ?_
        exact zg_none
    · refine zg_goto hC (tgt := 2594) dL_law_1378 (by decide) ?_
      exact zg_sub [2, 3, 4, 5, 6] rfl (gL_law_B2594 hC hX hW0 N hag23 hB292 v4 M299)
  · refine zg_iconst hC (v := 0) dL_law_1359 (by decide) ?_
    exact zg_none
set_option maxRecDepth 20000 in
set_option maxHeartbeats 4000000 in
theorem gL_law_B1257 {l : Launch} {Z : zZ} {ad : Nat → Nat} {X : zX} {b Ls : Nat} {xs : Nat → Int32} (hC : zC l Z zfull ad X RL cL_law 7 ret 12) (hX : zScr X b Ls xs) (hW0 : zLaw X b) (N : Nat) {n : Nat} {again23 : Int32 → zMem → zRES} (hag23 : ∀ (cs : Nat × Nat), zB n cs → ∀ (v4 : Int32) (M : zMem), zG l Z zfull ad X cs 23 [(0, .ref b), (1, .ref (ad 0)), (2, .ref (ad 62)), (3, .ref (ad 87)), (4, .int v4)] [] M (again23 v4 M)) {cs : Nat × Nat} (hB : zB (n + 1) cs) (v4 : Int32) (M : zMem) : zG l Z zfull ad X cs 1257 [(0, .ref b), (1, .ref (ad 0)), (2, .ref (ad 62)), (3, .ref (ad 87)), (4, .int v4)] [] M (fL_law_B1257 N Ls xs again23 v4 M) := by
  unfold fL_law_B1257
  refine zg_aload_n hC 1 dL_law_1257 rfl ?_
  refine zg_aload_n hC 3 dL_law_1258 rfl ?_
  refine zg_callWL hC hW0 hB (As := [.ref (ad 0), .ref (ad 87)]) (S := []) rfl (tL_addLot (zflag hC) 4 N M) lkL_197 rfl dL_law_1259 (Nat.le_of_ble_eq_true rfl) (fun r304 M305 er304 => ?_)
  have hB306 := zB_step hB
  refine zg_istore hC (L' := [(5, _), (0, _), (1, _), (2, _), (3, _), (4, _)]) dL_law_1262 (by decide) rfl ?_
  refine zg_aload_n hC 3 dL_law_1264 rfl ?_
  refine zg_callVL hC hW0 hB306 (k := 62) (As := []) (S := []) rfl (tX8_addLot (zflag hC) 11 N M305) lkL_200 rfl dL_law_1265 zq62 zk62 rfl rfl (Nat.le_of_ble_eq_true rfl) (fun r307 M308 er307 => ?_)
  refine zg_istore hC (L' := [(6, _), (5, _), (0, _), (1, _), (2, _), (3, _), (4, _)]) dL_law_1268 (by decide) rfl ?_
  refine zg_aload_n hC 4 dL_law_1270 rfl ?_
  refine zg_callVL hC hW0 hB306 (k := 62) (As := []) (S := []) rfl (tX8_thrown (zflag hC) 11 N M308) lkL_143 rfl dL_law_1271 zq62 zk62 rfl rfl (Nat.le_of_ble_eq_true rfl) (fun r309 M310 er309 => ?_)
  refine zg_iload hC 1 dL_law_1274 rfl ?_
  refine zg_icmp_eq hC (tgt := 1281) dL_law_1276 (by decide) (fun c311 => ?_) (fun c311 => ?_)
  · refine zg_iload hC 1 dL_law_1281 rfl ?_
    refine zg_if_ne hC (tgt := 1298) dL_law_1283 (by decide) (fun c312 => ?_) (fun c312 => ?_)
    · refine zg_aload_n hC 5 dL_law_1286 rfl ?_
      refine zg_iconst hC (v := 0) dL_law_1287 (by decide) ?_
      refine zg_lald hC (k := 87) dL_law_1288 zq87 zk87 (fun h313 => ?_)
      refine zg_iload hC 0 dL_law_1289 rfl ?_
      refine zg_i2l hC dL_law_1291 ?_
      refine zg_lcmp hC dL_law_1292 ?_
      refine zg_if_eq hC (tgt := 1298) dL_law_1293 (by decide) (fun c314 => ?_) (fun c314 => ?_)
      · refine zg_goto hC (tgt := 2594) dL_law_1298 (by decide) ?_
        exact zg_sub [2, 3, 4, 5, 6] rfl (gL_law_B2594 hC hX hW0 N hag23 hB306 v4 M310)
      · refine zg_iconst hC (v := 0) dL_law_1296 (by decide) ?_
        exact zg_none
    · refine zg_goto hC (tgt := 2594) dL_law_1298 (by decide) ?_
      exact zg_sub [2, 3, 4, 5, 6] rfl (gL_law_B2594 hC hX hW0 N hag23 hB306 v4 M310)
  · refine zg_iconst hC (v := 0) dL_law_1279 (by decide) ?_
    exact zg_none
set_option maxRecDepth 20000 in
set_option maxHeartbeats 4000000 in
theorem gL_law_B1189 {l : Launch} {Z : zZ} {ad : Nat → Nat} {X : zX} {b Ls : Nat} {xs : Nat → Int32} (hC : zC l Z zfull ad X RL cL_law 7 ret 12) (hX : zScr X b Ls xs) (hW0 : zLaw X b) (N : Nat) {n : Nat} {again23 : Int32 → zMem → zRES} (hag23 : ∀ (cs : Nat × Nat), zB n cs → ∀ (v4 : Int32) (M : zMem), zG l Z zfull ad X cs 23 [(0, .ref b), (1, .ref (ad 0)), (2, .ref (ad 62)), (3, .ref (ad 87)), (4, .int v4)] [] M (again23 v4 M)) {cs : Nat × Nat} (hB : zB (n + 1) cs) (v4 : Int32) (M : zMem) : zG l Z zfull ad X cs 1189 [(0, .ref b), (1, .ref (ad 0)), (2, .ref (ad 62)), (3, .ref (ad 87)), (4, .int v4)] [] M (fL_law_B1189 N Ls xs again23 v4 M) := by
  unfold fL_law_B1189
  refine zg_aload_n hC 1 dL_law_1189 rfl ?_
  refine zg_aload_n hC 0 dL_law_1190 rfl ?_
  refine zg_iload hC 4 dL_law_1191 rfl ?_
  refine zg_iconst hC (v := 1) dL_law_1193 (by decide) ?_
  refine zg_iadd hC dL_law_1194 ?_
  refine zg_sld hC hX dL_law_1195 (fun h315 => ?_)
  refine zg_aload_n hC 0 dL_law_1196 rfl ?_
  refine zg_iload hC 4 dL_law_1197 rfl ?_
  refine zg_iconst hC (v := 2) dL_law_1199 (by decide) ?_
  refine zg_iadd hC dL_law_1200 ?_
  refine zg_sld hC hX dL_law_1201 (fun h316 => ?_)
  refine zg_aload_n hC 3 dL_law_1202 rfl ?_
  refine zg_callWL hC hW0 hB (As := [.ref (ad 0), .int (xs (v4 + 1).toNatClampNeg), .int (xs (v4 + 2).toNatClampNeg), .ref (ad 87)]) (S := []) rfl (tL_current (zflag hC) 3 N (xs (v4 + 1).toNatClampNeg) (xs (v4 + 2).toNatClampNeg) M) lkL_194 rfl dL_law_1203 (Nat.le_of_ble_eq_true rfl) (fun r317 M318 er317 => ?_)
  have hB319 := zB_step hB
  refine zg_istore hC (L' := [(5, _), (0, _), (1, _), (2, _), (3, _), (4, _)]) dL_law_1206 (by decide) rfl ?_
  refine zg_aload_n hC 3 dL_law_1208 rfl ?_
  refine zg_aload_n hC 1 dL_law_1209 rfl ?_
  refine zg_iload hC 5 dL_law_1210 rfl ?_
  refine zg_iconst hC (v := 1) dL_law_1212 (by decide) ?_
  refine zg_iadd hC dL_law_1213 ?_
  refine zg_sld hC hX dL_law_1214 (fun h320 => ?_)
  refine zg_aload_n hC 1 dL_law_1215 rfl ?_
  refine zg_iload hC 5 dL_law_1216 rfl ?_
  refine zg_iconst hC (v := 2) dL_law_1218 (by decide) ?_
  refine zg_iadd hC dL_law_1219 ?_
  refine zg_sld hC hX dL_law_1220 (fun h321 => ?_)
  refine zg_callVL hC hW0 hB319 (k := 62) (As := [.int (xs (v4 + 1).toNatClampNeg), .int (xs (v4 + 2).toNatClampNeg)]) (S := []) rfl (tX8_current (zflag hC) 8 N (xs (v4 + 1).toNatClampNeg) (xs (v4 + 2).toNatClampNeg) M318) lkL_196 rfl dL_law_1221 zq62 zk62 rfl rfl (Nat.le_of_ble_eq_true rfl) (fun r322 M323 er322 => ?_)
  refine zg_istore hC (L' := [(6, _), (5, _), (0, _), (1, _), (2, _), (3, _), (4, _)]) dL_law_1224 (by decide) rfl ?_
  refine zg_aload_n hC 4 dL_law_1226 rfl ?_
  refine zg_callVL hC hW0 hB319 (k := 62) (As := []) (S := []) rfl (tX8_thrown (zflag hC) 11 N M323) lkL_143 rfl dL_law_1227 zq62 zk62 rfl rfl (Nat.le_of_ble_eq_true rfl) (fun r324 M325 er324 => ?_)
  refine zg_iload hC 1 dL_law_1230 rfl ?_
  refine zg_icmp_eq hC (tgt := 1237) dL_law_1232 (by decide) (fun c326 => ?_) (fun c326 => ?_)
  · refine zg_iload hC 1 dL_law_1237 rfl ?_
    refine zg_if_ne hC (tgt := 1254) dL_law_1239 (by decide) (fun c327 => ?_) (fun c327 => ?_)
    · refine zg_aload_n hC 5 dL_law_1242 rfl ?_
      refine zg_iconst hC (v := 0) dL_law_1243 (by decide) ?_
      refine zg_lald hC (k := 87) dL_law_1244 zq87 zk87 (fun h328 => ?_)
      refine zg_iload hC 0 dL_law_1245 rfl ?_
      refine zg_i2l hC dL_law_1247 ?_
      refine zg_lcmp hC dL_law_1248 ?_
      refine zg_if_eq hC (tgt := 1254) dL_law_1249 (by decide) (fun c329 => ?_) (fun c329 => ?_)
      · refine zg_goto hC (tgt := 2594) dL_law_1254 (by decide) ?_
        exact zg_sub [2, 3, 4, 5, 6] rfl (gL_law_B2594 hC hX hW0 N hag23 hB319 v4 M325)
      · refine zg_iconst hC (v := 0) dL_law_1252 (by decide) ?_
        exact zg_none
    · refine zg_goto hC (tgt := 2594) dL_law_1254 (by decide) ?_
      exact zg_sub [2, 3, 4, 5, 6] rfl (gL_law_B2594 hC hX hW0 N hag23 hB319 v4 M325)
  · refine zg_iconst hC (v := 0) dL_law_1235 (by decide) ?_
    exact zg_none
set_option maxRecDepth 20000 in
set_option maxHeartbeats 4000000 in
theorem gL_law_B1126 {l : Launch} {Z : zZ} {ad : Nat → Nat} {X : zX} {b Ls : Nat} {xs : Nat → Int32} (hC : zC l Z zfull ad X RL cL_law 7 ret 12) (hX : zScr X b Ls xs) (hW0 : zLaw X b) (N : Nat) {n : Nat} {again23 : Int32 → zMem → zRES} (hag23 : ∀ (cs : Nat × Nat), zB n cs → ∀ (v4 : Int32) (M : zMem), zG l Z zfull ad X cs 23 [(0, .ref b), (1, .ref (ad 0)), (2, .ref (ad 62)), (3, .ref (ad 87)), (4, .int v4)] [] M (again23 v4 M)) {cs : Nat × Nat} (hB : zB (n + 1) cs) (v4 : Int32) (M : zMem) : zG l Z zfull ad X cs 1126 [(0, .ref b), (1, .ref (ad 0)), (2, .ref (ad 62)), (3, .ref (ad 87)), (4, .int v4)] [] M (fL_law_B1126 N Ls xs again23 v4 M) := by
  unfold fL_law_B1126
  refine zg_aload_n hC 1 dL_law_1126 rfl ?_
  refine zg_aload_n hC 0 dL_law_1127 rfl ?_
  refine zg_iload hC 4 dL_law_1128 rfl ?_
  refine zg_iconst hC (v := 1) dL_law_1130 (by decide) ?_
  refine zg_iadd hC dL_law_1131 ?_
  refine zg_sld hC hX dL_law_1132 (fun h330 => ?_)
  refine zg_aload_n hC 3 dL_law_1133 rfl ?_
  refine zg_callWL hC hW0 hB (As := [.ref (ad 0), .int (xs (v4 + 1).toNatClampNeg), .ref (ad 87)]) (S := []) rfl (tL_wasHeld (zflag hC) 3 N (xs (v4 + 1).toNatClampNeg) M) lkL_191 rfl dL_law_1134 (Nat.le_of_ble_eq_true rfl) (fun r331 M332 er331 => ?_)
  have hB333 := zB_step hB
  refine zg_istore hC (L' := [(5, _), (0, _), (1, _), (2, _), (3, _), (4, _)]) dL_law_1137 (by decide) rfl ?_
  refine zg_aload_n hC 3 dL_law_1139 rfl ?_
  refine zg_aload_n hC 1 dL_law_1140 rfl ?_
  refine zg_iload hC 5 dL_law_1141 rfl ?_
  refine zg_iconst hC (v := 1) dL_law_1143 (by decide) ?_
  refine zg_iadd hC dL_law_1144 ?_
  refine zg_sld hC hX dL_law_1145 (fun h334 => ?_)
  refine zg_callVL hC hW0 hB333 (k := 62) (As := [.int (xs (v4 + 1).toNatClampNeg)]) (S := []) rfl (tX8_wasHeld (zflag hC) 9 N (xs (v4 + 1).toNatClampNeg) M332) lkL_193 rfl dL_law_1146 zq62 zk62 rfl rfl (Nat.le_of_ble_eq_true rfl) (fun r335 M336 er335 => ?_)
  refine zg_istore hC (L' := [(6, _), (5, _), (0, _), (1, _), (2, _), (3, _), (4, _)]) dL_law_1149 (by decide) rfl ?_
  refine zg_aload_n hC 4 dL_law_1151 rfl ?_
  refine zg_callVL hC hW0 hB333 (k := 62) (As := []) (S := []) rfl (tX8_thrown (zflag hC) 11 N M336) lkL_143 rfl dL_law_1152 zq62 zk62 rfl rfl (Nat.le_of_ble_eq_true rfl) (fun r337 M338 er337 => ?_)
  refine zg_iload hC 1 dL_law_1155 rfl ?_
  refine zg_icmp_eq hC (tgt := 1162) dL_law_1157 (by decide) (fun c339 => ?_) (fun c339 => ?_)
  · refine zg_iload hC 1 dL_law_1162 rfl ?_
    refine zg_if_ne hC (tgt := 1186) dL_law_1164 (by decide) (fun c340 => ?_) (fun c340 => ?_)
    · refine zg_aload_n hC 5 dL_law_1167 rfl ?_
      refine zg_iconst hC (v := 0) dL_law_1168 (by decide) ?_
      refine zg_lald hC (k := 87) dL_law_1169 zq87 zk87 (fun h341 => ?_)
      refine zg_iload hC 0 dL_law_1170 rfl ?_
      refine zg_if_eq hC (tgt := 1179) dL_law_1172 (by decide) (fun c342 => ?_) (fun c342 => ?_)
      · refine zg_lconst hC (v := 0) dL_law_1179 (by decide) ?_
        refine zg_lcmp hC dL_law_1180 ?_
        refine zg_if_eq hC (tgt := 1186) dL_law_1181 (by decide) (fun c343 => ?_) (fun c343 => ?_)
        · refine zg_goto hC (tgt := 2594) dL_law_1186 (by decide) ?_
          exact zg_sub [2, 3, 4, 5, 6] rfl (gL_law_B2594 hC hX hW0 N hag23 hB333 v4 M338)
        · refine zg_iconst hC (v := 0) dL_law_1184 (by decide) ?_
          exact zg_none
      · refine zg_lconst hC (v := 1) dL_law_1175 (by decide) ?_
        refine zg_goto hC (tgt := 1180) dL_law_1176 (by decide) ?_
        refine zg_lcmp hC dL_law_1180 ?_
        refine zg_if_eq hC (tgt := 1186) dL_law_1181 (by decide) (fun c344 => ?_) (fun c344 => ?_)
        · refine zg_goto hC (tgt := 2594) dL_law_1186 (by decide) ?_
          exact zg_sub [2, 3, 4, 5, 6] rfl (gL_law_B2594 hC hX hW0 N hag23 hB333 v4 M338)
        · refine zg_iconst hC (v := 0) dL_law_1184 (by decide) ?_
          exact zg_none
    · refine zg_goto hC (tgt := 2594) dL_law_1186 (by decide) ?_
      exact zg_sub [2, 3, 4, 5, 6] rfl (gL_law_B2594 hC hX hW0 N hag23 hB333 v4 M338)
  · refine zg_iconst hC (v := 0) dL_law_1160 (by decide) ?_
    exact zg_none
set_option maxRecDepth 20000 in
set_option maxHeartbeats 4000000 in
theorem gL_law_B1063 {l : Launch} {Z : zZ} {ad : Nat → Nat} {X : zX} {b Ls : Nat} {xs : Nat → Int32} (hC : zC l Z zfull ad X RL cL_law 7 ret 12) (hX : zScr X b Ls xs) (hW0 : zLaw X b) (N : Nat) {n : Nat} {again23 : Int32 → zMem → zRES} (hag23 : ∀ (cs : Nat × Nat), zB n cs → ∀ (v4 : Int32) (M : zMem), zG l Z zfull ad X cs 23 [(0, .ref b), (1, .ref (ad 0)), (2, .ref (ad 62)), (3, .ref (ad 87)), (4, .int v4)] [] M (again23 v4 M)) {cs : Nat × Nat} (hB : zB (n + 1) cs) (v4 : Int32) (M : zMem) : zG l Z zfull ad X cs 1063 [(0, .ref b), (1, .ref (ad 0)), (2, .ref (ad 62)), (3, .ref (ad 87)), (4, .int v4)] [] M (fL_law_B1063 N Ls xs again23 v4 M) := by
  unfold fL_law_B1063
  refine zg_aload_n hC 1 dL_law_1063 rfl ?_
  refine zg_aload_n hC 0 dL_law_1064 rfl ?_
  refine zg_iload hC 4 dL_law_1065 rfl ?_
  refine zg_iconst hC (v := 1) dL_law_1067 (by decide) ?_
  refine zg_iadd hC dL_law_1068 ?_
  refine zg_sld hC hX dL_law_1069 (fun h345 => ?_)
  refine zg_aload_n hC 3 dL_law_1070 rfl ?_
  refine zg_callWL hC hW0 hB (As := [.ref (ad 0), .int (xs (v4 + 1).toNatClampNeg), .ref (ad 87)]) (S := []) rfl (tL_isHeld (zflag hC) 3 N (xs (v4 + 1).toNatClampNeg) M) lkL_188 rfl dL_law_1071 (Nat.le_of_ble_eq_true rfl) (fun r346 M347 er346 => ?_)
  have hB348 := zB_step hB
  refine zg_istore hC (L' := [(5, _), (0, _), (1, _), (2, _), (3, _), (4, _)]) dL_law_1074 (by decide) rfl ?_
  refine zg_aload_n hC 3 dL_law_1076 rfl ?_
  refine zg_aload_n hC 1 dL_law_1077 rfl ?_
  refine zg_iload hC 5 dL_law_1078 rfl ?_
  refine zg_iconst hC (v := 1) dL_law_1080 (by decide) ?_
  refine zg_iadd hC dL_law_1081 ?_
  refine zg_sld hC hX dL_law_1082 (fun h349 => ?_)
  refine zg_callVL hC hW0 hB348 (k := 62) (As := [.int (xs (v4 + 1).toNatClampNeg)]) (S := []) rfl (tX8_isHeld (zflag hC) 9 N (xs (v4 + 1).toNatClampNeg) M347) lkL_190 rfl dL_law_1083 zq62 zk62 rfl rfl (Nat.le_of_ble_eq_true rfl) (fun r350 M351 er350 => ?_)
  refine zg_istore hC (L' := [(6, _), (5, _), (0, _), (1, _), (2, _), (3, _), (4, _)]) dL_law_1086 (by decide) rfl ?_
  refine zg_aload_n hC 4 dL_law_1088 rfl ?_
  refine zg_callVL hC hW0 hB348 (k := 62) (As := []) (S := []) rfl (tX8_thrown (zflag hC) 11 N M351) lkL_143 rfl dL_law_1089 zq62 zk62 rfl rfl (Nat.le_of_ble_eq_true rfl) (fun r352 M353 er352 => ?_)
  refine zg_iload hC 1 dL_law_1092 rfl ?_
  refine zg_icmp_eq hC (tgt := 1099) dL_law_1094 (by decide) (fun c354 => ?_) (fun c354 => ?_)
  · refine zg_iload hC 1 dL_law_1099 rfl ?_
    refine zg_if_ne hC (tgt := 1123) dL_law_1101 (by decide) (fun c355 => ?_) (fun c355 => ?_)
    · refine zg_aload_n hC 5 dL_law_1104 rfl ?_
      refine zg_iconst hC (v := 0) dL_law_1105 (by decide) ?_
      refine zg_lald hC (k := 87) dL_law_1106 zq87 zk87 (fun h356 => ?_)
      refine zg_iload hC 0 dL_law_1107 rfl ?_
      refine zg_if_eq hC (tgt := 1116) dL_law_1109 (by decide) (fun c357 => ?_) (fun c357 => ?_)
      · refine zg_lconst hC (v := 0) dL_law_1116 (by decide) ?_
        refine zg_lcmp hC dL_law_1117 ?_
        refine zg_if_eq hC (tgt := 1123) dL_law_1118 (by decide) (fun c358 => ?_) (fun c358 => ?_)
        · refine zg_goto hC (tgt := 2594) dL_law_1123 (by decide) ?_
          exact zg_sub [2, 3, 4, 5, 6] rfl (gL_law_B2594 hC hX hW0 N hag23 hB348 v4 M353)
        · refine zg_iconst hC (v := 0) dL_law_1121 (by decide) ?_
          exact zg_none
      · refine zg_lconst hC (v := 1) dL_law_1112 (by decide) ?_
        refine zg_goto hC (tgt := 1117) dL_law_1113 (by decide) ?_
        refine zg_lcmp hC dL_law_1117 ?_
        refine zg_if_eq hC (tgt := 1123) dL_law_1118 (by decide) (fun c359 => ?_) (fun c359 => ?_)
        · refine zg_goto hC (tgt := 2594) dL_law_1123 (by decide) ?_
          exact zg_sub [2, 3, 4, 5, 6] rfl (gL_law_B2594 hC hX hW0 N hag23 hB348 v4 M353)
        · refine zg_iconst hC (v := 0) dL_law_1121 (by decide) ?_
          exact zg_none
    · refine zg_goto hC (tgt := 2594) dL_law_1123 (by decide) ?_
      exact zg_sub [2, 3, 4, 5, 6] rfl (gL_law_B2594 hC hX hW0 N hag23 hB348 v4 M353)
  · refine zg_iconst hC (v := 0) dL_law_1097 (by decide) ?_
    exact zg_none
set_option maxRecDepth 20000 in
set_option maxHeartbeats 4000000 in
theorem gL_law_B1007 {l : Launch} {Z : zZ} {ad : Nat → Nat} {X : zX} {b Ls : Nat} {xs : Nat → Int32} (hC : zC l Z zfull ad X RL cL_law 7 ret 12) (hX : zScr X b Ls xs) (hW0 : zLaw X b) (N : Nat) {n : Nat} {again23 : Int32 → zMem → zRES} (hag23 : ∀ (cs : Nat × Nat), zB n cs → ∀ (v4 : Int32) (M : zMem), zG l Z zfull ad X cs 23 [(0, .ref b), (1, .ref (ad 0)), (2, .ref (ad 62)), (3, .ref (ad 87)), (4, .int v4)] [] M (again23 v4 M)) {cs : Nat × Nat} (hB : zB (n + 1) cs) (v4 : Int32) (M : zMem) : zG l Z zfull ad X cs 1007 [(0, .ref b), (1, .ref (ad 0)), (2, .ref (ad 62)), (3, .ref (ad 87)), (4, .int v4)] [] M (fL_law_B1007 N Ls xs again23 v4 M) := by
  unfold fL_law_B1007
  refine zg_aload_n hC 1 dL_law_1007 rfl ?_
  refine zg_aload_n hC 0 dL_law_1008 rfl ?_
  refine zg_iload hC 4 dL_law_1009 rfl ?_
  refine zg_iconst hC (v := 1) dL_law_1011 (by decide) ?_
  refine zg_iadd hC dL_law_1012 ?_
  refine zg_sld hC hX dL_law_1013 (fun h360 => ?_)
  refine zg_aload_n hC 3 dL_law_1014 rfl ?_
  refine zg_callWL hC hW0 hB (As := [.ref (ad 0), .int (xs (v4 + 1).toNatClampNeg), .ref (ad 87)]) (S := []) rfl (tL_holders (zflag hC) 3 N (xs (v4 + 1).toNatClampNeg) M) lkL_185 rfl dL_law_1015 (Nat.le_of_ble_eq_true rfl) (fun r361 M362 er361 => ?_)
  have hB363 := zB_step hB
  refine zg_istore hC (L' := [(5, _), (0, _), (1, _), (2, _), (3, _), (4, _)]) dL_law_1018 (by decide) rfl ?_
  refine zg_aload_n hC 3 dL_law_1020 rfl ?_
  refine zg_aload_n hC 1 dL_law_1021 rfl ?_
  refine zg_iload hC 5 dL_law_1022 rfl ?_
  refine zg_iconst hC (v := 1) dL_law_1024 (by decide) ?_
  refine zg_iadd hC dL_law_1025 ?_
  refine zg_sld hC hX dL_law_1026 (fun h364 => ?_)
  refine zg_callVL hC hW0 hB363 (k := 62) (As := [.int (xs (v4 + 1).toNatClampNeg)]) (S := []) rfl (tX8_holders (zflag hC) 9 N (xs (v4 + 1).toNatClampNeg) M362) lkL_187 rfl dL_law_1027 zq62 zk62 rfl rfl (Nat.le_of_ble_eq_true rfl) (fun r365 M366 er365 => ?_)
  refine zg_istore hC (L' := [(6, _), (5, _), (0, _), (1, _), (2, _), (3, _), (4, _)]) dL_law_1030 (by decide) rfl ?_
  refine zg_aload_n hC 4 dL_law_1032 rfl ?_
  refine zg_callVL hC hW0 hB363 (k := 62) (As := []) (S := []) rfl (tX8_thrown (zflag hC) 11 N M366) lkL_143 rfl dL_law_1033 zq62 zk62 rfl rfl (Nat.le_of_ble_eq_true rfl) (fun r367 M368 er367 => ?_)
  refine zg_iload hC 1 dL_law_1036 rfl ?_
  refine zg_icmp_eq hC (tgt := 1043) dL_law_1038 (by decide) (fun c369 => ?_) (fun c369 => ?_)
  · refine zg_iload hC 1 dL_law_1043 rfl ?_
    refine zg_if_ne hC (tgt := 1060) dL_law_1045 (by decide) (fun c370 => ?_) (fun c370 => ?_)
    · refine zg_aload_n hC 5 dL_law_1048 rfl ?_
      refine zg_iconst hC (v := 0) dL_law_1049 (by decide) ?_
      refine zg_lald hC (k := 87) dL_law_1050 zq87 zk87 (fun h371 => ?_)
      refine zg_iload hC 0 dL_law_1051 rfl ?_
      refine zg_i2l hC dL_law_1053 ?_
      refine zg_lcmp hC dL_law_1054 ?_
      refine zg_if_eq hC (tgt := 1060) dL_law_1055 (by decide) (fun c372 => ?_) (fun c372 => ?_)
      · refine zg_goto hC (tgt := 2594) dL_law_1060 (by decide) ?_
        exact zg_sub [2, 3, 4, 5, 6] rfl (gL_law_B2594 hC hX hW0 N hag23 hB363 v4 M368)
      · refine zg_iconst hC (v := 0) dL_law_1058 (by decide) ?_
        exact zg_none
    · refine zg_goto hC (tgt := 2594) dL_law_1060 (by decide) ?_
      exact zg_sub [2, 3, 4, 5, 6] rfl (gL_law_B2594 hC hX hW0 N hag23 hB363 v4 M368)
  · refine zg_iconst hC (v := 0) dL_law_1041 (by decide) ?_
    exact zg_none
set_option maxRecDepth 20000 in
set_option maxHeartbeats 4000000 in
theorem gL_law_B951 {l : Launch} {Z : zZ} {ad : Nat → Nat} {X : zX} {b Ls : Nat} {xs : Nat → Int32} (hC : zC l Z zfull ad X RL cL_law 7 ret 12) (hX : zScr X b Ls xs) (hW0 : zLaw X b) (N : Nat) {n : Nat} {again23 : Int32 → zMem → zRES} (hag23 : ∀ (cs : Nat × Nat), zB n cs → ∀ (v4 : Int32) (M : zMem), zG l Z zfull ad X cs 23 [(0, .ref b), (1, .ref (ad 0)), (2, .ref (ad 62)), (3, .ref (ad 87)), (4, .int v4)] [] M (again23 v4 M)) {cs : Nat × Nat} (hB : zB (n + 1) cs) (v4 : Int32) (M : zMem) : zG l Z zfull ad X cs 951 [(0, .ref b), (1, .ref (ad 0)), (2, .ref (ad 62)), (3, .ref (ad 87)), (4, .int v4)] [] M (fL_law_B951 N Ls xs again23 v4 M) := by
  unfold fL_law_B951
  refine zg_aload_n hC 1 dL_law_951 rfl ?_
  refine zg_aload_n hC 0 dL_law_952 rfl ?_
  refine zg_iload hC 4 dL_law_953 rfl ?_
  refine zg_iconst hC (v := 1) dL_law_955 (by decide) ?_
  refine zg_iadd hC dL_law_956 ?_
  refine zg_sld hC hX dL_law_957 (fun h373 => ?_)
  refine zg_aload_n hC 3 dL_law_958 rfl ?_
  refine zg_callWL hC hW0 hB (As := [.ref (ad 0), .int (xs (v4 + 1).toNatClampNeg), .ref (ad 87)]) (S := []) rfl (tL_termOf (zflag hC) 3 N (xs (v4 + 1).toNatClampNeg) M) lkL_182 rfl dL_law_959 (Nat.le_of_ble_eq_true rfl) (fun r374 M375 er374 => ?_)
  have hB376 := zB_step hB
  refine zg_istore hC (L' := [(5, _), (0, _), (1, _), (2, _), (3, _), (4, _)]) dL_law_962 (by decide) rfl ?_
  refine zg_aload_n hC 3 dL_law_964 rfl ?_
  refine zg_aload_n hC 1 dL_law_965 rfl ?_
  refine zg_iload hC 5 dL_law_966 rfl ?_
  refine zg_iconst hC (v := 1) dL_law_968 (by decide) ?_
  refine zg_iadd hC dL_law_969 ?_
  refine zg_sld hC hX dL_law_970 (fun h377 => ?_)
  refine zg_callVL hC hW0 hB376 (k := 62) (As := [.int (xs (v4 + 1).toNatClampNeg)]) (S := []) rfl (tX8_termOf (zflag hC) 9 N (xs (v4 + 1).toNatClampNeg) M375) lkL_184 rfl dL_law_971 zq62 zk62 rfl rfl (Nat.le_of_ble_eq_true rfl) (fun r378 M379 er378 => ?_)
  refine zg_istore hC (L' := [(6, _), (5, _), (0, _), (1, _), (2, _), (3, _), (4, _)]) dL_law_974 (by decide) rfl ?_
  refine zg_aload_n hC 4 dL_law_976 rfl ?_
  refine zg_callVL hC hW0 hB376 (k := 62) (As := []) (S := []) rfl (tX8_thrown (zflag hC) 11 N M379) lkL_143 rfl dL_law_977 zq62 zk62 rfl rfl (Nat.le_of_ble_eq_true rfl) (fun r380 M381 er380 => ?_)
  refine zg_iload hC 1 dL_law_980 rfl ?_
  refine zg_icmp_eq hC (tgt := 987) dL_law_982 (by decide) (fun c382 => ?_) (fun c382 => ?_)
  · refine zg_iload hC 1 dL_law_987 rfl ?_
    refine zg_if_ne hC (tgt := 1004) dL_law_989 (by decide) (fun c383 => ?_) (fun c383 => ?_)
    · refine zg_aload_n hC 5 dL_law_992 rfl ?_
      refine zg_iconst hC (v := 0) dL_law_993 (by decide) ?_
      refine zg_lald hC (k := 87) dL_law_994 zq87 zk87 (fun h384 => ?_)
      refine zg_iload hC 0 dL_law_995 rfl ?_
      refine zg_i2l hC dL_law_997 ?_
      refine zg_lcmp hC dL_law_998 ?_
      refine zg_if_eq hC (tgt := 1004) dL_law_999 (by decide) (fun c385 => ?_) (fun c385 => ?_)
      · refine zg_goto hC (tgt := 2594) dL_law_1004 (by decide) ?_
        exact zg_sub [2, 3, 4, 5, 6] rfl (gL_law_B2594 hC hX hW0 N hag23 hB376 v4 M381)
      · refine zg_iconst hC (v := 0) dL_law_1002 (by decide) ?_
        exact zg_none
    · refine zg_goto hC (tgt := 2594) dL_law_1004 (by decide) ?_
      exact zg_sub [2, 3, 4, 5, 6] rfl (gL_law_B2594 hC hX hW0 N hag23 hB376 v4 M381)
  · refine zg_iconst hC (v := 0) dL_law_985 (by decide) ?_
    exact zg_none
set_option maxRecDepth 20000 in
set_option maxHeartbeats 4000000 in
theorem gL_law_B938 {l : Launch} {Z : zZ} {ad : Nat → Nat} {X : zX} {b Ls : Nat} {xs : Nat → Int32} (hC : zC l Z zfull ad X RL cL_law 7 ret 12) (hX : zScr X b Ls xs) (hW0 : zLaw X b) (N : Nat) {n : Nat} {again23 : Int32 → zMem → zRES} (hag23 : ∀ (cs : Nat × Nat), zB n cs → ∀ (v4 : Int32) (M : zMem), zG l Z zfull ad X cs 23 [(0, .ref b), (1, .ref (ad 0)), (2, .ref (ad 62)), (3, .ref (ad 87)), (4, .int v4)] [] M (again23 v4 M)) {cs : Nat × Nat} (hB : zB (n + 1) cs) (v4 : Int32) (M : zMem) : zG l Z zfull ad X cs 938 [(0, .ref b), (1, .ref (ad 0)), (2, .ref (ad 62)), (3, .ref (ad 87)), (4, .int v4)] [] M (fL_law_B938 N Ls xs again23 v4 M) := by
  unfold fL_law_B938
  refine zg_aload_n hC 1 dL_law_938 rfl ?_
  refine zg_callVL hC hW0 hB (k := 0) (As := []) (S := []) rfl (tX7_versions (zflag hC) 11 N M) lkL_178 rfl dL_law_939 zq0 zk0 rfl rfl (Nat.le_of_ble_eq_true rfl) (fun r386 M387 er386 => ?_)
  refine zg_aload_n hC 2 dL_law_942 rfl ?_
  refine zg_callVL hC hW0 hB (k := 62) (As := []) (S := [.int r386]) rfl (tX8_versions (zflag hC) 11 N M387) lkL_181 rfl dL_law_943 zq62 zk62 rfl rfl (Nat.le_of_ble_eq_true rfl) (fun r388 M389 er388 => ?_)
  refine zg_icmp_eq hC (tgt := 2594) dL_law_946 (by decide) (fun c390 => ?_) (fun c390 => ?_)
  · exact zg_sub [0, 1, 2, 3, 4] rfl (gL_law_B2594 hC hX hW0 N hag23 (zB_le hB) v4 M389)
  · refine zg_iconst hC (v := 0) dL_law_949 (by decide) ?_
    exact zg_none
set_option maxRecDepth 20000 in
set_option maxHeartbeats 4000000 in
theorem gL_law_B870 {l : Launch} {Z : zZ} {ad : Nat → Nat} {X : zX} {b Ls : Nat} {xs : Nat → Int32} (hC : zC l Z zfull ad X RL cL_law 7 ret 12) (hX : zScr X b Ls xs) (hW0 : zLaw X b) (N : Nat) {n : Nat} {again23 : Int32 → zMem → zRES} (hag23 : ∀ (cs : Nat × Nat), zB n cs → ∀ (v4 : Int32) (M : zMem), zG l Z zfull ad X cs 23 [(0, .ref b), (1, .ref (ad 0)), (2, .ref (ad 62)), (3, .ref (ad 87)), (4, .int v4)] [] M (again23 v4 M)) {cs : Nat × Nat} (hB : zB (n + 1) cs) (v4 : Int32) (M : zMem) : zG l Z zfull ad X cs 870 [(0, .ref b), (1, .ref (ad 0)), (2, .ref (ad 62)), (3, .ref (ad 87)), (4, .int v4)] [] M (fL_law_B870 N Ls xs again23 v4 M) := by
  unfold fL_law_B870
  refine zg_aload_n hC 1 dL_law_870 rfl ?_
  refine zg_aload_n hC 0 dL_law_871 rfl ?_
  refine zg_iload hC 4 dL_law_872 rfl ?_
  refine zg_iconst hC (v := 1) dL_law_874 (by decide) ?_
  refine zg_iadd hC dL_law_875 ?_
  refine zg_sld hC hX dL_law_876 (fun h391 => ?_)
  refine zg_aload_n hC 0 dL_law_877 rfl ?_
  refine zg_iload hC 4 dL_law_878 rfl ?_
  refine zg_iconst hC (v := 2) dL_law_880 (by decide) ?_
  refine zg_iadd hC dL_law_881 ?_
  refine zg_sld hC hX dL_law_882 (fun h392 => ?_)
  refine zg_aload_n hC 3 dL_law_883 rfl ?_
  refine zg_callWL hC hW0 hB (As := [.ref (ad 0), .int (xs (v4 + 1).toNatClampNeg), .int (xs (v4 + 2).toNatClampNeg), .ref (ad 87)]) (S := []) rfl (tL_versionAt (zflag hC) 3 N (xs (v4 + 1).toNatClampNeg) (xs (v4 + 2).toNatClampNeg) M) lkL_175 rfl dL_law_884 (Nat.le_of_ble_eq_true rfl) (fun r393 M394 er393 => ?_)
  have hB395 := zB_step hB
  refine zg_istore hC (L' := [(5, _), (0, _), (1, _), (2, _), (3, _), (4, _)]) dL_law_887 (by decide) rfl ?_
  refine zg_aload_n hC 3 dL_law_889 rfl ?_
  refine zg_aload_n hC 1 dL_law_890 rfl ?_
  refine zg_iload hC 5 dL_law_891 rfl ?_
  refine zg_iconst hC (v := 1) dL_law_893 (by decide) ?_
  refine zg_iadd hC dL_law_894 ?_
  refine zg_sld hC hX dL_law_895 (fun h396 => ?_)
  refine zg_aload_n hC 1 dL_law_896 rfl ?_
  refine zg_iload hC 5 dL_law_897 rfl ?_
  refine zg_iconst hC (v := 2) dL_law_899 (by decide) ?_
  refine zg_iadd hC dL_law_900 ?_
  refine zg_sld hC hX dL_law_901 (fun h397 => ?_)
  refine zg_callVL hC hW0 hB395 (k := 62) (As := [.int (xs (v4 + 1).toNatClampNeg), .int (xs (v4 + 2).toNatClampNeg)]) (S := []) rfl (tX8_versionAt (zflag hC) 9 N (xs (v4 + 1).toNatClampNeg) (xs (v4 + 2).toNatClampNeg) M394) lkL_177 rfl dL_law_902 zq62 zk62 rfl rfl (Nat.le_of_ble_eq_true rfl) (fun r398 M399 er398 => ?_)
  refine zg_istore hC (L' := [(6, _), (5, _), (0, _), (1, _), (2, _), (3, _), (4, _)]) dL_law_905 (by decide) rfl ?_
  refine zg_aload_n hC 4 dL_law_907 rfl ?_
  refine zg_callVL hC hW0 hB395 (k := 62) (As := []) (S := []) rfl (tX8_thrown (zflag hC) 11 N M399) lkL_143 rfl dL_law_908 zq62 zk62 rfl rfl (Nat.le_of_ble_eq_true rfl) (fun r400 M401 er400 => ?_)
  refine zg_iload hC 1 dL_law_911 rfl ?_
  refine zg_icmp_eq hC (tgt := 918) dL_law_913 (by decide) (fun c402 => ?_) (fun c402 => ?_)
  · refine zg_iload hC 1 dL_law_918 rfl ?_
    refine zg_if_ne hC (tgt := 935) dL_law_920 (by decide) (fun c403 => ?_) (fun c403 => ?_)
    · refine zg_aload_n hC 5 dL_law_923 rfl ?_
      refine zg_iconst hC (v := 0) dL_law_924 (by decide) ?_
      refine zg_lald hC (k := 87) dL_law_925 zq87 zk87 (fun h404 => ?_)
      refine zg_iload hC 0 dL_law_926 rfl ?_
      refine zg_i2l hC dL_law_928 ?_
      refine zg_lcmp hC dL_law_929 ?_
      refine zg_if_eq hC (tgt := 935) dL_law_930 (by decide) (fun c405 => ?_) (fun c405 => ?_)
      · refine zg_goto hC (tgt := 2594) dL_law_935 (by decide) ?_
        exact zg_sub [2, 3, 4, 5, 6] rfl (gL_law_B2594 hC hX hW0 N hag23 hB395 v4 M401)
      · refine zg_iconst hC (v := 0) dL_law_933 (by decide) ?_
        exact zg_none
    · refine zg_goto hC (tgt := 2594) dL_law_935 (by decide) ?_
      exact zg_sub [2, 3, 4, 5, 6] rfl (gL_law_B2594 hC hX hW0 N hag23 hB395 v4 M401)
  · refine zg_iconst hC (v := 0) dL_law_916 (by decide) ?_
    exact zg_none
set_option maxRecDepth 20000 in
set_option maxHeartbeats 4000000 in
theorem gL_law_B814 {l : Launch} {Z : zZ} {ad : Nat → Nat} {X : zX} {b Ls : Nat} {xs : Nat → Int32} (hC : zC l Z zfull ad X RL cL_law 7 ret 12) (hX : zScr X b Ls xs) (hW0 : zLaw X b) (N : Nat) {n : Nat} {again23 : Int32 → zMem → zRES} (hag23 : ∀ (cs : Nat × Nat), zB n cs → ∀ (v4 : Int32) (M : zMem), zG l Z zfull ad X cs 23 [(0, .ref b), (1, .ref (ad 0)), (2, .ref (ad 62)), (3, .ref (ad 87)), (4, .int v4)] [] M (again23 v4 M)) {cs : Nat × Nat} (hB : zB (n + 1) cs) (v4 : Int32) (M : zMem) : zG l Z zfull ad X cs 814 [(0, .ref b), (1, .ref (ad 0)), (2, .ref (ad 62)), (3, .ref (ad 87)), (4, .int v4)] [] M (fL_law_B814 N Ls xs again23 v4 M) := by
  unfold fL_law_B814
  refine zg_aload_n hC 1 dL_law_814 rfl ?_
  refine zg_aload_n hC 0 dL_law_815 rfl ?_
  refine zg_iload hC 4 dL_law_816 rfl ?_
  refine zg_iconst hC (v := 1) dL_law_818 (by decide) ?_
  refine zg_iadd hC dL_law_819 ?_
  refine zg_sld hC hX dL_law_820 (fun h406 => ?_)
  refine zg_aload_n hC 3 dL_law_821 rfl ?_
  refine zg_callWL hC hW0 hB (As := [.ref (ad 0), .int (xs (v4 + 1).toNatClampNeg), .ref (ad 87)]) (S := []) rfl (tL_entries (zflag hC) 3 N (xs (v4 + 1).toNatClampNeg) M) lkL_172 rfl dL_law_822 (Nat.le_of_ble_eq_true rfl) (fun r407 M408 er407 => ?_)
  have hB409 := zB_step hB
  refine zg_istore hC (L' := [(5, _), (0, _), (1, _), (2, _), (3, _), (4, _)]) dL_law_825 (by decide) rfl ?_
  refine zg_aload_n hC 3 dL_law_827 rfl ?_
  refine zg_aload_n hC 1 dL_law_828 rfl ?_
  refine zg_iload hC 5 dL_law_829 rfl ?_
  refine zg_iconst hC (v := 1) dL_law_831 (by decide) ?_
  refine zg_iadd hC dL_law_832 ?_
  refine zg_sld hC hX dL_law_833 (fun h410 => ?_)
  refine zg_callVL hC hW0 hB409 (k := 62) (As := [.int (xs (v4 + 1).toNatClampNeg)]) (S := []) rfl (tX8_entries (zflag hC) 8 N (xs (v4 + 1).toNatClampNeg) M408) lkL_174 rfl dL_law_834 zq62 zk62 rfl rfl (Nat.le_of_ble_eq_true rfl) (fun r411 M412 er411 => ?_)
  refine zg_istore hC (L' := [(6, _), (5, _), (0, _), (1, _), (2, _), (3, _), (4, _)]) dL_law_837 (by decide) rfl ?_
  refine zg_aload_n hC 4 dL_law_839 rfl ?_
  refine zg_callVL hC hW0 hB409 (k := 62) (As := []) (S := []) rfl (tX8_thrown (zflag hC) 11 N M412) lkL_143 rfl dL_law_840 zq62 zk62 rfl rfl (Nat.le_of_ble_eq_true rfl) (fun r413 M414 er413 => ?_)
  refine zg_iload hC 1 dL_law_843 rfl ?_
  refine zg_icmp_eq hC (tgt := 850) dL_law_845 (by decide) (fun c415 => ?_) (fun c415 => ?_)
  · refine zg_iload hC 1 dL_law_850 rfl ?_
    refine zg_if_ne hC (tgt := 867) dL_law_852 (by decide) (fun c416 => ?_) (fun c416 => ?_)
    · refine zg_aload_n hC 5 dL_law_855 rfl ?_
      refine zg_iconst hC (v := 0) dL_law_856 (by decide) ?_
      refine zg_lald hC (k := 87) dL_law_857 zq87 zk87 (fun h417 => ?_)
      refine zg_iload hC 0 dL_law_858 rfl ?_
      refine zg_i2l hC dL_law_860 ?_
      refine zg_lcmp hC dL_law_861 ?_
      refine zg_if_eq hC (tgt := 867) dL_law_862 (by decide) (fun c418 => ?_) (fun c418 => ?_)
      · refine zg_goto hC (tgt := 2594) dL_law_867 (by decide) ?_
        exact zg_sub [2, 3, 4, 5, 6] rfl (gL_law_B2594 hC hX hW0 N hag23 hB409 v4 M414)
      · refine zg_iconst hC (v := 0) dL_law_865 (by decide) ?_
        exact zg_none
    · refine zg_goto hC (tgt := 2594) dL_law_867 (by decide) ?_
      exact zg_sub [2, 3, 4, 5, 6] rfl (gL_law_B2594 hC hX hW0 N hag23 hB409 v4 M414)
  · refine zg_iconst hC (v := 0) dL_law_848 (by decide) ?_
    exact zg_none
set_option maxRecDepth 20000 in
set_option maxHeartbeats 4000000 in
theorem gL_law_B739 {l : Launch} {Z : zZ} {ad : Nat → Nat} {X : zX} {b Ls : Nat} {xs : Nat → Int32} (hC : zC l Z zfull ad X RL cL_law 7 ret 12) (hX : zScr X b Ls xs) (hW0 : zLaw X b) (N : Nat) {n : Nat} {again23 : Int32 → zMem → zRES} (hag23 : ∀ (cs : Nat × Nat), zB n cs → ∀ (v4 : Int32) (M : zMem), zG l Z zfull ad X cs 23 [(0, .ref b), (1, .ref (ad 0)), (2, .ref (ad 62)), (3, .ref (ad 87)), (4, .int v4)] [] M (again23 v4 M)) {cs : Nat × Nat} (hB : zB (n + 1) cs) (v4 : Int32) (M : zMem) : zG l Z zfull ad X cs 739 [(0, .ref b), (1, .ref (ad 0)), (2, .ref (ad 62)), (3, .ref (ad 87)), (4, .int v4)] [] M (fL_law_B739 N Ls xs again23 v4 M) := by
  unfold fL_law_B739
  refine zg_aload_n hC 1 dL_law_739 rfl ?_
  refine zg_aload_n hC 0 dL_law_740 rfl ?_
  refine zg_iload hC 4 dL_law_741 rfl ?_
  refine zg_iconst hC (v := 1) dL_law_743 (by decide) ?_
  refine zg_iadd hC dL_law_744 ?_
  refine zg_sld hC hX dL_law_745 (fun h419 => ?_)
  refine zg_aload_n hC 0 dL_law_746 rfl ?_
  refine zg_iload hC 4 dL_law_747 rfl ?_
  refine zg_iconst hC (v := 2) dL_law_749 (by decide) ?_
  refine zg_iadd hC dL_law_750 ?_
  refine zg_sld hC hX dL_law_751 (fun h420 => ?_)
  refine zg_aload_n hC 3 dL_law_752 rfl ?_
  refine zg_callWL hC hW0 hB (As := [.ref (ad 0), .int (xs (v4 + 1).toNatClampNeg), .int (xs (v4 + 2).toNatClampNeg), .ref (ad 87)]) (S := []) rfl (tL_reach (zflag hC) 3 N (xs (v4 + 1).toNatClampNeg) (xs (v4 + 2).toNatClampNeg) M) lkL_169 rfl dL_law_753 (Nat.le_of_ble_eq_true rfl) (fun r421 M422 er421 => ?_)
  have hB423 := zB_step hB
  refine zg_istore hC (L' := [(5, _), (0, _), (1, _), (2, _), (3, _), (4, _)]) dL_law_756 (by decide) rfl ?_
  refine zg_aload_n hC 3 dL_law_758 rfl ?_
  refine zg_aload_n hC 1 dL_law_759 rfl ?_
  refine zg_iload hC 5 dL_law_760 rfl ?_
  refine zg_iconst hC (v := 1) dL_law_762 (by decide) ?_
  refine zg_iadd hC dL_law_763 ?_
  refine zg_sld hC hX dL_law_764 (fun h424 => ?_)
  refine zg_aload_n hC 1 dL_law_765 rfl ?_
  refine zg_iload hC 5 dL_law_766 rfl ?_
  refine zg_iconst hC (v := 2) dL_law_768 (by decide) ?_
  refine zg_iadd hC dL_law_769 ?_
  refine zg_sld hC hX dL_law_770 (fun h425 => ?_)
  refine zg_callVL hC hW0 hB423 (k := 62) (As := [.int (xs (v4 + 1).toNatClampNeg), .int (xs (v4 + 2).toNatClampNeg)]) (S := []) rfl (tX8_reach (zflag hC) 9 N (xs (v4 + 1).toNatClampNeg) (xs (v4 + 2).toNatClampNeg) M422) lkL_171 rfl dL_law_771 zq62 zk62 rfl rfl (Nat.le_of_ble_eq_true rfl) (fun r426 M427 er426 => ?_)
  refine zg_istore hC (L' := [(6, _), (5, _), (0, _), (1, _), (2, _), (3, _), (4, _)]) dL_law_774 (by decide) rfl ?_
  refine zg_aload_n hC 4 dL_law_776 rfl ?_
  refine zg_callVL hC hW0 hB423 (k := 62) (As := []) (S := []) rfl (tX8_thrown (zflag hC) 11 N M427) lkL_143 rfl dL_law_777 zq62 zk62 rfl rfl (Nat.le_of_ble_eq_true rfl) (fun r428 M429 er428 => ?_)
  refine zg_iload hC 1 dL_law_780 rfl ?_
  refine zg_icmp_eq hC (tgt := 787) dL_law_782 (by decide) (fun c430 => ?_) (fun c430 => ?_)
  · refine zg_iload hC 1 dL_law_787 rfl ?_
    refine zg_if_ne hC (tgt := 811) dL_law_789 (by decide) (fun c431 => ?_) (fun c431 => ?_)
    · refine zg_aload_n hC 5 dL_law_792 rfl ?_
      refine zg_iconst hC (v := 0) dL_law_793 (by decide) ?_
      refine zg_lald hC (k := 87) dL_law_794 zq87 zk87 (fun h432 => ?_)
      refine zg_iload hC 0 dL_law_795 rfl ?_
      refine zg_if_eq hC (tgt := 804) dL_law_797 (by decide) (fun c433 => ?_) (fun c433 => ?_)
      · refine zg_lconst hC (v := 0) dL_law_804 (by decide) ?_
        refine zg_lcmp hC dL_law_805 ?_
        refine zg_if_eq hC (tgt := 811) dL_law_806 (by decide) (fun c434 => ?_) (fun c434 => ?_)
        · refine zg_goto hC (tgt := 2594) dL_law_811 (by decide) ?_
          exact zg_sub [2, 3, 4, 5, 6] rfl (gL_law_B2594 hC hX hW0 N hag23 hB423 v4 M429)
        · refine zg_iconst hC (v := 0) dL_law_809 (by decide) ?_
          exact zg_none
      · refine zg_lconst hC (v := 1) dL_law_800 (by decide) ?_
        refine zg_goto hC (tgt := 805) dL_law_801 (by decide) ?_
        refine zg_lcmp hC dL_law_805 ?_
        refine zg_if_eq hC (tgt := 811) dL_law_806 (by decide) (fun c435 => ?_) (fun c435 => ?_)
        · refine zg_goto hC (tgt := 2594) dL_law_811 (by decide) ?_
          exact zg_sub [2, 3, 4, 5, 6] rfl (gL_law_B2594 hC hX hW0 N hag23 hB423 v4 M429)
        · refine zg_iconst hC (v := 0) dL_law_809 (by decide) ?_
          exact zg_none
    · refine zg_goto hC (tgt := 2594) dL_law_811 (by decide) ?_
      exact zg_sub [2, 3, 4, 5, 6] rfl (gL_law_B2594 hC hX hW0 N hag23 hB423 v4 M429)
  · refine zg_iconst hC (v := 0) dL_law_785 (by decide) ?_
    exact zg_none
set_option maxRecDepth 20000 in
set_option maxHeartbeats 4000000 in
theorem gL_law_B683 {l : Launch} {Z : zZ} {ad : Nat → Nat} {X : zX} {b Ls : Nat} {xs : Nat → Int32} (hC : zC l Z zfull ad X RL cL_law 7 ret 12) (hX : zScr X b Ls xs) (hW0 : zLaw X b) (N : Nat) {n : Nat} {again23 : Int32 → zMem → zRES} (hag23 : ∀ (cs : Nat × Nat), zB n cs → ∀ (v4 : Int32) (M : zMem), zG l Z zfull ad X cs 23 [(0, .ref b), (1, .ref (ad 0)), (2, .ref (ad 62)), (3, .ref (ad 87)), (4, .int v4)] [] M (again23 v4 M)) {cs : Nat × Nat} (hB : zB (n + 1) cs) (v4 : Int32) (M : zMem) : zG l Z zfull ad X cs 683 [(0, .ref b), (1, .ref (ad 0)), (2, .ref (ad 62)), (3, .ref (ad 87)), (4, .int v4)] [] M (fL_law_B683 N Ls xs again23 v4 M) := by
  unfold fL_law_B683
  refine zg_aload_n hC 1 dL_law_683 rfl ?_
  refine zg_aload_n hC 0 dL_law_684 rfl ?_
  refine zg_iload hC 4 dL_law_685 rfl ?_
  refine zg_iconst hC (v := 1) dL_law_687 (by decide) ?_
  refine zg_iadd hC dL_law_688 ?_
  refine zg_sld hC hX dL_law_689 (fun h436 => ?_)
  refine zg_aload_n hC 3 dL_law_690 rfl ?_
  refine zg_callWL hC hW0 hB (As := [.ref (ad 0), .int (xs (v4 + 1).toNatClampNeg), .ref (ad 87)]) (S := []) rfl (tL_votedFor (zflag hC) 3 N (xs (v4 + 1).toNatClampNeg) M) lkL_166 rfl dL_law_691 (Nat.le_of_ble_eq_true rfl) (fun r437 M438 er437 => ?_)
  have hB439 := zB_step hB
  refine zg_istore hC (L' := [(5, _), (0, _), (1, _), (2, _), (3, _), (4, _)]) dL_law_694 (by decide) rfl ?_
  refine zg_aload_n hC 3 dL_law_696 rfl ?_
  refine zg_aload_n hC 1 dL_law_697 rfl ?_
  refine zg_iload hC 5 dL_law_698 rfl ?_
  refine zg_iconst hC (v := 1) dL_law_700 (by decide) ?_
  refine zg_iadd hC dL_law_701 ?_
  refine zg_sld hC hX dL_law_702 (fun h440 => ?_)
  refine zg_callVL hC hW0 hB439 (k := 62) (As := [.int (xs (v4 + 1).toNatClampNeg)]) (S := []) rfl (tX8_votedFor (zflag hC) 8 N (xs (v4 + 1).toNatClampNeg) M438) lkL_168 rfl dL_law_703 zq62 zk62 rfl rfl (Nat.le_of_ble_eq_true rfl) (fun r441 M442 er441 => ?_)
  refine zg_istore hC (L' := [(6, _), (5, _), (0, _), (1, _), (2, _), (3, _), (4, _)]) dL_law_706 (by decide) rfl ?_
  refine zg_aload_n hC 4 dL_law_708 rfl ?_
  refine zg_callVL hC hW0 hB439 (k := 62) (As := []) (S := []) rfl (tX8_thrown (zflag hC) 11 N M442) lkL_143 rfl dL_law_709 zq62 zk62 rfl rfl (Nat.le_of_ble_eq_true rfl) (fun r443 M444 er443 => ?_)
  refine zg_iload hC 1 dL_law_712 rfl ?_
  refine zg_icmp_eq hC (tgt := 719) dL_law_714 (by decide) (fun c445 => ?_) (fun c445 => ?_)
  · refine zg_iload hC 1 dL_law_719 rfl ?_
    refine zg_if_ne hC (tgt := 736) dL_law_721 (by decide) (fun c446 => ?_) (fun c446 => ?_)
    · refine zg_aload_n hC 5 dL_law_724 rfl ?_
      refine zg_iconst hC (v := 0) dL_law_725 (by decide) ?_
      refine zg_lald hC (k := 87) dL_law_726 zq87 zk87 (fun h447 => ?_)
      refine zg_iload hC 0 dL_law_727 rfl ?_
      refine zg_i2l hC dL_law_729 ?_
      refine zg_lcmp hC dL_law_730 ?_
      refine zg_if_eq hC (tgt := 736) dL_law_731 (by decide) (fun c448 => ?_) (fun c448 => ?_)
      · refine zg_goto hC (tgt := 2594) dL_law_736 (by decide) ?_
        exact zg_sub [2, 3, 4, 5, 6] rfl (gL_law_B2594 hC hX hW0 N hag23 hB439 v4 M444)
      · refine zg_iconst hC (v := 0) dL_law_734 (by decide) ?_
        exact zg_none
    · refine zg_goto hC (tgt := 2594) dL_law_736 (by decide) ?_
      exact zg_sub [2, 3, 4, 5, 6] rfl (gL_law_B2594 hC hX hW0 N hag23 hB439 v4 M444)
  · refine zg_iconst hC (v := 0) dL_law_717 (by decide) ?_
    exact zg_none
set_option maxRecDepth 20000 in
set_option maxHeartbeats 4000000 in
theorem gL_law_B627 {l : Launch} {Z : zZ} {ad : Nat → Nat} {X : zX} {b Ls : Nat} {xs : Nat → Int32} (hC : zC l Z zfull ad X RL cL_law 7 ret 12) (hX : zScr X b Ls xs) (hW0 : zLaw X b) (N : Nat) {n : Nat} {again23 : Int32 → zMem → zRES} (hag23 : ∀ (cs : Nat × Nat), zB n cs → ∀ (v4 : Int32) (M : zMem), zG l Z zfull ad X cs 23 [(0, .ref b), (1, .ref (ad 0)), (2, .ref (ad 62)), (3, .ref (ad 87)), (4, .int v4)] [] M (again23 v4 M)) {cs : Nat × Nat} (hB : zB (n + 1) cs) (v4 : Int32) (M : zMem) : zG l Z zfull ad X cs 627 [(0, .ref b), (1, .ref (ad 0)), (2, .ref (ad 62)), (3, .ref (ad 87)), (4, .int v4)] [] M (fL_law_B627 N Ls xs again23 v4 M) := by
  unfold fL_law_B627
  refine zg_aload_n hC 1 dL_law_627 rfl ?_
  refine zg_aload_n hC 0 dL_law_628 rfl ?_
  refine zg_iload hC 4 dL_law_629 rfl ?_
  refine zg_iconst hC (v := 1) dL_law_631 (by decide) ?_
  refine zg_iadd hC dL_law_632 ?_
  refine zg_sld hC hX dL_law_633 (fun h449 => ?_)
  refine zg_aload_n hC 3 dL_law_634 rfl ?_
  refine zg_callWL hC hW0 hB (As := [.ref (ad 0), .int (xs (v4 + 1).toNatClampNeg), .ref (ad 87)]) (S := []) rfl (tL_term (zflag hC) 3 N (xs (v4 + 1).toNatClampNeg) M) lkL_163 rfl dL_law_635 (Nat.le_of_ble_eq_true rfl) (fun r450 M451 er450 => ?_)
  have hB452 := zB_step hB
  refine zg_istore hC (L' := [(5, _), (0, _), (1, _), (2, _), (3, _), (4, _)]) dL_law_638 (by decide) rfl ?_
  refine zg_aload_n hC 3 dL_law_640 rfl ?_
  refine zg_aload_n hC 1 dL_law_641 rfl ?_
  refine zg_iload hC 5 dL_law_642 rfl ?_
  refine zg_iconst hC (v := 1) dL_law_644 (by decide) ?_
  refine zg_iadd hC dL_law_645 ?_
  refine zg_sld hC hX dL_law_646 (fun h453 => ?_)
  refine zg_callVL hC hW0 hB452 (k := 62) (As := [.int (xs (v4 + 1).toNatClampNeg)]) (S := []) rfl (tX8_term (zflag hC) 8 N (xs (v4 + 1).toNatClampNeg) M451) lkL_165 rfl dL_law_647 zq62 zk62 rfl rfl (Nat.le_of_ble_eq_true rfl) (fun r454 M455 er454 => ?_)
  refine zg_istore hC (L' := [(6, _), (5, _), (0, _), (1, _), (2, _), (3, _), (4, _)]) dL_law_650 (by decide) rfl ?_
  refine zg_aload_n hC 4 dL_law_652 rfl ?_
  refine zg_callVL hC hW0 hB452 (k := 62) (As := []) (S := []) rfl (tX8_thrown (zflag hC) 11 N M455) lkL_143 rfl dL_law_653 zq62 zk62 rfl rfl (Nat.le_of_ble_eq_true rfl) (fun r456 M457 er456 => ?_)
  refine zg_iload hC 1 dL_law_656 rfl ?_
  refine zg_icmp_eq hC (tgt := 663) dL_law_658 (by decide) (fun c458 => ?_) (fun c458 => ?_)
  · refine zg_iload hC 1 dL_law_663 rfl ?_
    refine zg_if_ne hC (tgt := 680) dL_law_665 (by decide) (fun c459 => ?_) (fun c459 => ?_)
    · refine zg_aload_n hC 5 dL_law_668 rfl ?_
      refine zg_iconst hC (v := 0) dL_law_669 (by decide) ?_
      refine zg_lald hC (k := 87) dL_law_670 zq87 zk87 (fun h460 => ?_)
      refine zg_iload hC 0 dL_law_671 rfl ?_
      refine zg_i2l hC dL_law_673 ?_
      refine zg_lcmp hC dL_law_674 ?_
      refine zg_if_eq hC (tgt := 680) dL_law_675 (by decide) (fun c461 => ?_) (fun c461 => ?_)
      · refine zg_goto hC (tgt := 2594) dL_law_680 (by decide) ?_
        exact zg_sub [2, 3, 4, 5, 6] rfl (gL_law_B2594 hC hX hW0 N hag23 hB452 v4 M457)
      · refine zg_iconst hC (v := 0) dL_law_678 (by decide) ?_
        exact zg_none
    · refine zg_goto hC (tgt := 2594) dL_law_680 (by decide) ?_
      exact zg_sub [2, 3, 4, 5, 6] rfl (gL_law_B2594 hC hX hW0 N hag23 hB452 v4 M457)
  · refine zg_iconst hC (v := 0) dL_law_661 (by decide) ?_
    exact zg_none
set_option maxRecDepth 20000 in
set_option maxHeartbeats 4000000 in
theorem gL_law_B571 {l : Launch} {Z : zZ} {ad : Nat → Nat} {X : zX} {b Ls : Nat} {xs : Nat → Int32} (hC : zC l Z zfull ad X RL cL_law 7 ret 12) (hX : zScr X b Ls xs) (hW0 : zLaw X b) (N : Nat) {n : Nat} {again23 : Int32 → zMem → zRES} (hag23 : ∀ (cs : Nat × Nat), zB n cs → ∀ (v4 : Int32) (M : zMem), zG l Z zfull ad X cs 23 [(0, .ref b), (1, .ref (ad 0)), (2, .ref (ad 62)), (3, .ref (ad 87)), (4, .int v4)] [] M (again23 v4 M)) {cs : Nat × Nat} (hB : zB (n + 1) cs) (v4 : Int32) (M : zMem) : zG l Z zfull ad X cs 571 [(0, .ref b), (1, .ref (ad 0)), (2, .ref (ad 62)), (3, .ref (ad 87)), (4, .int v4)] [] M (fL_law_B571 N Ls xs again23 v4 M) := by
  unfold fL_law_B571
  refine zg_aload_n hC 1 dL_law_571 rfl ?_
  refine zg_aload_n hC 0 dL_law_572 rfl ?_
  refine zg_iload hC 4 dL_law_573 rfl ?_
  refine zg_iconst hC (v := 1) dL_law_575 (by decide) ?_
  refine zg_iadd hC dL_law_576 ?_
  refine zg_sld hC hX dL_law_577 (fun h462 => ?_)
  refine zg_aload_n hC 3 dL_law_578 rfl ?_
  refine zg_callWL hC hW0 hB (As := [.ref (ad 0), .int (xs (v4 + 1).toNatClampNeg), .ref (ad 87)]) (S := []) rfl (tL_role (zflag hC) 3 N (xs (v4 + 1).toNatClampNeg) M) lkL_160 rfl dL_law_579 (Nat.le_of_ble_eq_true rfl) (fun r463 M464 er463 => ?_)
  have hB465 := zB_step hB
  refine zg_istore hC (L' := [(5, _), (0, _), (1, _), (2, _), (3, _), (4, _)]) dL_law_582 (by decide) rfl ?_
  refine zg_aload_n hC 3 dL_law_584 rfl ?_
  refine zg_aload_n hC 1 dL_law_585 rfl ?_
  refine zg_iload hC 5 dL_law_586 rfl ?_
  refine zg_iconst hC (v := 1) dL_law_588 (by decide) ?_
  refine zg_iadd hC dL_law_589 ?_
  refine zg_sld hC hX dL_law_590 (fun h466 => ?_)
  refine zg_callVL hC hW0 hB465 (k := 62) (As := [.int (xs (v4 + 1).toNatClampNeg)]) (S := []) rfl (tX8_role (zflag hC) 8 N (xs (v4 + 1).toNatClampNeg) M464) lkL_162 rfl dL_law_591 zq62 zk62 rfl rfl (Nat.le_of_ble_eq_true rfl) (fun r467 M468 er467 => ?_)
  refine zg_istore hC (L' := [(6, _), (5, _), (0, _), (1, _), (2, _), (3, _), (4, _)]) dL_law_594 (by decide) rfl ?_
  refine zg_aload_n hC 4 dL_law_596 rfl ?_
  refine zg_callVL hC hW0 hB465 (k := 62) (As := []) (S := []) rfl (tX8_thrown (zflag hC) 11 N M468) lkL_143 rfl dL_law_597 zq62 zk62 rfl rfl (Nat.le_of_ble_eq_true rfl) (fun r469 M470 er469 => ?_)
  refine zg_iload hC 1 dL_law_600 rfl ?_
  refine zg_icmp_eq hC (tgt := 607) dL_law_602 (by decide) (fun c471 => ?_) (fun c471 => ?_)
  · refine zg_iload hC 1 dL_law_607 rfl ?_
    refine zg_if_ne hC (tgt := 624) dL_law_609 (by decide) (fun c472 => ?_) (fun c472 => ?_)
    · refine zg_aload_n hC 5 dL_law_612 rfl ?_
      refine zg_iconst hC (v := 0) dL_law_613 (by decide) ?_
      refine zg_lald hC (k := 87) dL_law_614 zq87 zk87 (fun h473 => ?_)
      refine zg_iload hC 0 dL_law_615 rfl ?_
      refine zg_i2l hC dL_law_617 ?_
      refine zg_lcmp hC dL_law_618 ?_
      refine zg_if_eq hC (tgt := 624) dL_law_619 (by decide) (fun c474 => ?_) (fun c474 => ?_)
      · refine zg_goto hC (tgt := 2594) dL_law_624 (by decide) ?_
        exact zg_sub [2, 3, 4, 5, 6] rfl (gL_law_B2594 hC hX hW0 N hag23 hB465 v4 M470)
      · refine zg_iconst hC (v := 0) dL_law_622 (by decide) ?_
        exact zg_none
    · refine zg_goto hC (tgt := 2594) dL_law_624 (by decide) ?_
      exact zg_sub [2, 3, 4, 5, 6] rfl (gL_law_B2594 hC hX hW0 N hag23 hB465 v4 M470)
  · refine zg_iconst hC (v := 0) dL_law_605 (by decide) ?_
    exact zg_none
set_option maxRecDepth 20000 in
set_option maxHeartbeats 4000000 in
theorem gL_law_B503 {l : Launch} {Z : zZ} {ad : Nat → Nat} {X : zX} {b Ls : Nat} {xs : Nat → Int32} (hC : zC l Z zfull ad X RL cL_law 7 ret 12) (hX : zScr X b Ls xs) (hW0 : zLaw X b) (N : Nat) {n : Nat} {again23 : Int32 → zMem → zRES} (hag23 : ∀ (cs : Nat × Nat), zB n cs → ∀ (v4 : Int32) (M : zMem), zG l Z zfull ad X cs 23 [(0, .ref b), (1, .ref (ad 0)), (2, .ref (ad 62)), (3, .ref (ad 87)), (4, .int v4)] [] M (again23 v4 M)) {cs : Nat × Nat} (hB : zB (n + 1) cs) (v4 : Int32) (M : zMem) : zG l Z zfull ad X cs 503 [(0, .ref b), (1, .ref (ad 0)), (2, .ref (ad 62)), (3, .ref (ad 87)), (4, .int v4)] [] M (fL_law_B503 N Ls xs again23 v4 M) := by
  unfold fL_law_B503
  refine zg_aload_n hC 1 dL_law_503 rfl ?_
  refine zg_aload_n hC 0 dL_law_504 rfl ?_
  refine zg_iload hC 4 dL_law_505 rfl ?_
  refine zg_iconst hC (v := 1) dL_law_507 (by decide) ?_
  refine zg_iadd hC dL_law_508 ?_
  refine zg_sld hC hX dL_law_509 (fun h475 => ?_)
  refine zg_aload_n hC 0 dL_law_510 rfl ?_
  refine zg_iload hC 4 dL_law_511 rfl ?_
  refine zg_iconst hC (v := 2) dL_law_513 (by decide) ?_
  refine zg_iadd hC dL_law_514 ?_
  refine zg_sld hC hX dL_law_515 (fun h476 => ?_)
  refine zg_aload_n hC 3 dL_law_516 rfl ?_
  refine zg_callWL hC hW0 hB (As := [.ref (ad 0), .int (xs (v4 + 1).toNatClampNeg), .int (xs (v4 + 2).toNatClampNeg), .ref (ad 87)]) (S := []) rfl (tL_tell (zflag hC) 2 N (xs (v4 + 1).toNatClampNeg) (xs (v4 + 2).toNatClampNeg) M) lkL_157 rfl dL_law_517 (Nat.le_of_ble_eq_true rfl) (fun r477 M478 er477 => ?_)
  have hB479 := zB_step hB
  refine zg_istore hC (L' := [(5, _), (0, _), (1, _), (2, _), (3, _), (4, _)]) dL_law_520 (by decide) rfl ?_
  refine zg_aload_n hC 3 dL_law_522 rfl ?_
  refine zg_aload_n hC 1 dL_law_523 rfl ?_
  refine zg_iload hC 5 dL_law_524 rfl ?_
  refine zg_iconst hC (v := 1) dL_law_526 (by decide) ?_
  refine zg_iadd hC dL_law_527 ?_
  refine zg_sld hC hX dL_law_528 (fun h480 => ?_)
  refine zg_aload_n hC 1 dL_law_529 rfl ?_
  refine zg_iload hC 5 dL_law_530 rfl ?_
  refine zg_iconst hC (v := 2) dL_law_532 (by decide) ?_
  refine zg_iadd hC dL_law_533 ?_
  refine zg_sld hC hX dL_law_534 (fun h481 => ?_)
  refine zg_callVL hC hW0 hB479 (k := 62) (As := [.int (xs (v4 + 1).toNatClampNeg), .int (xs (v4 + 2).toNatClampNeg)]) (S := []) rfl (tX8_tell (zflag hC) 8 N (xs (v4 + 1).toNatClampNeg) (xs (v4 + 2).toNatClampNeg) M478) lkL_159 rfl dL_law_535 zq62 zk62 rfl rfl (Nat.le_of_ble_eq_true rfl) (fun r482 M483 er482 => ?_)
  refine zg_istore hC (L' := [(6, _), (5, _), (0, _), (1, _), (2, _), (3, _), (4, _)]) dL_law_538 (by decide) rfl ?_
  refine zg_aload_n hC 4 dL_law_540 rfl ?_
  refine zg_callVL hC hW0 hB479 (k := 62) (As := []) (S := []) rfl (tX8_thrown (zflag hC) 11 N M483) lkL_143 rfl dL_law_541 zq62 zk62 rfl rfl (Nat.le_of_ble_eq_true rfl) (fun r484 M485 er484 => ?_)
  refine zg_iload hC 1 dL_law_544 rfl ?_
  refine zg_icmp_eq hC (tgt := 551) dL_law_546 (by decide) (fun c486 => ?_) (fun c486 => ?_)
  · refine zg_iload hC 1 dL_law_551 rfl ?_
    refine zg_if_ne hC (tgt := 568) dL_law_553 (by decide) (fun c487 => ?_) (fun c487 => ?_)
    · refine zg_aload_n hC 5 dL_law_556 rfl ?_
      refine zg_iconst hC (v := 0) dL_law_557 (by decide) ?_
      refine zg_lald hC (k := 87) dL_law_558 zq87 zk87 (fun h488 => ?_)
      refine zg_iload hC 0 dL_law_559 rfl ?_
      refine zg_i2l hC dL_law_561 ?_
      refine zg_lcmp hC dL_law_562 ?_
      refine zg_if_eq hC (tgt := 568) dL_law_563 (by decide) (fun c489 => ?_) (fun c489 => ?_)
      · refine zg_goto hC (tgt := 2594) dL_law_568 (by decide) ?_
        exact zg_sub [2, 3, 4, 5, 6] rfl (gL_law_B2594 hC hX hW0 N hag23 hB479 v4 M485)
      · refine zg_iconst hC (v := 0) dL_law_566 (by decide) ?_
        exact zg_none
    · refine zg_goto hC (tgt := 2594) dL_law_568 (by decide) ?_
      exact zg_sub [2, 3, 4, 5, 6] rfl (gL_law_B2594 hC hX hW0 N hag23 hB479 v4 M485)
  · refine zg_iconst hC (v := 0) dL_law_549 (by decide) ?_
    exact zg_none
set_option maxRecDepth 20000 in
set_option maxHeartbeats 4000000 in
theorem gL_law_B411 {l : Launch} {Z : zZ} {ad : Nat → Nat} {X : zX} {b Ls : Nat} {xs : Nat → Int32} (hC : zC l Z zfull ad X RL cL_law 7 ret 12) (hX : zScr X b Ls xs) (hW0 : zLaw X b) (N : Nat) {n : Nat} {again23 : Int32 → zMem → zRES} (hag23 : ∀ (cs : Nat × Nat), zB n cs → ∀ (v4 : Int32) (M : zMem), zG l Z zfull ad X cs 23 [(0, .ref b), (1, .ref (ad 0)), (2, .ref (ad 62)), (3, .ref (ad 87)), (4, .int v4)] [] M (again23 v4 M)) {cs : Nat × Nat} (hB : zB (n + 1) cs) (v4 : Int32) (M : zMem) : zG l Z zfull ad X cs 411 [(0, .ref b), (1, .ref (ad 0)), (2, .ref (ad 62)), (3, .ref (ad 87)), (4, .int v4)] [] M (fL_law_B411 N Ls xs again23 v4 M) := by
  unfold fL_law_B411
  refine zg_aload_n hC 1 dL_law_411 rfl ?_
  refine zg_aload_n hC 0 dL_law_412 rfl ?_
  refine zg_iload hC 4 dL_law_413 rfl ?_
  refine zg_iconst hC (v := 1) dL_law_415 (by decide) ?_
  refine zg_iadd hC dL_law_416 ?_
  refine zg_sld hC hX dL_law_417 (fun h490 => ?_)
  refine zg_aload_n hC 0 dL_law_418 rfl ?_
  refine zg_iload hC 4 dL_law_419 rfl ?_
  refine zg_iconst hC (v := 2) dL_law_421 (by decide) ?_
  refine zg_iadd hC dL_law_422 ?_
  refine zg_sld hC hX dL_law_423 (fun h491 => ?_)
  refine zg_aload_n hC 0 dL_law_424 rfl ?_
  refine zg_iload hC 4 dL_law_425 rfl ?_
  refine zg_iconst hC (v := 3) dL_law_427 (by decide) ?_
  refine zg_iadd hC dL_law_428 ?_
  refine zg_sld hC hX dL_law_429 (fun h492 => ?_)
  refine zg_aload_n hC 0 dL_law_430 rfl ?_
  refine zg_iload hC 4 dL_law_431 rfl ?_
  refine zg_iconst hC (v := 4) dL_law_433 (by decide) ?_
  refine zg_iadd hC dL_law_434 ?_
  refine zg_sld hC hX dL_law_435 (fun h493 => ?_)
  refine zg_aload_n hC 3 dL_law_436 rfl ?_
  refine zg_callWL hC hW0 hB (As := [.ref (ad 0), .int (xs (v4 + 1).toNatClampNeg), .int (xs (v4 + 2).toNatClampNeg), .int (xs (v4 + 3).toNatClampNeg), .int (xs (v4 + 4).toNatClampNeg), .ref (ad 87)]) (S := []) rfl (tL_propose (zflag hC) 3 N (xs (v4 + 1).toNatClampNeg) (xs (v4 + 2).toNatClampNeg) (xs (v4 + 3).toNatClampNeg) (xs (v4 + 4).toNatClampNeg) M) lkL_153 rfl dL_law_437 (Nat.le_of_ble_eq_true rfl) (fun r494 M495 er494 => ?_)
  have hB496 := zB_step hB
  refine zg_istore hC (L' := [(5, _), (0, _), (1, _), (2, _), (3, _), (4, _)]) dL_law_440 (by decide) rfl ?_
  refine zg_aload_n hC 3 dL_law_442 rfl ?_
  refine zg_aload_n hC 1 dL_law_443 rfl ?_
  refine zg_iload hC 5 dL_law_444 rfl ?_
  refine zg_iconst hC (v := 1) dL_law_446 (by decide) ?_
  refine zg_iadd hC dL_law_447 ?_
  refine zg_sld hC hX dL_law_448 (fun h497 => ?_)
  refine zg_aload_n hC 1 dL_law_449 rfl ?_
  refine zg_iload hC 5 dL_law_450 rfl ?_
  refine zg_iconst hC (v := 2) dL_law_452 (by decide) ?_
  refine zg_iadd hC dL_law_453 ?_
  refine zg_sld hC hX dL_law_454 (fun h498 => ?_)
  refine zg_aload_n hC 1 dL_law_455 rfl ?_
  refine zg_iload hC 5 dL_law_456 rfl ?_
  refine zg_iconst hC (v := 3) dL_law_458 (by decide) ?_
  refine zg_iadd hC dL_law_459 ?_
  refine zg_sld hC hX dL_law_460 (fun h499 => ?_)
  refine zg_aload_n hC 1 dL_law_461 rfl ?_
  refine zg_iload hC 5 dL_law_462 rfl ?_
  refine zg_iconst hC (v := 4) dL_law_464 (by decide) ?_
  refine zg_iadd hC dL_law_465 ?_
  refine zg_sld hC hX dL_law_466 (fun h500 => ?_)
  refine zg_callVL hC hW0 hB496 (k := 62) (As := [.int (xs (v4 + 1).toNatClampNeg), .int (xs (v4 + 2).toNatClampNeg), .int (xs (v4 + 3).toNatClampNeg), .int (xs (v4 + 4).toNatClampNeg)]) (S := []) rfl (tX8_propose (zflag hC) 9 N (xs (v4 + 1).toNatClampNeg) (xs (v4 + 2).toNatClampNeg) (xs (v4 + 3).toNatClampNeg) (xs (v4 + 4).toNatClampNeg) M495) lkL_156 rfl dL_law_467 zq62 zk62 rfl rfl (Nat.le_of_ble_eq_true rfl) (fun r501 M502 er501 => ?_)
  refine zg_istore hC (L' := [(6, _), (5, _), (0, _), (1, _), (2, _), (3, _), (4, _)]) dL_law_470 (by decide) rfl ?_
  refine zg_aload_n hC 4 dL_law_472 rfl ?_
  refine zg_callVL hC hW0 hB496 (k := 62) (As := []) (S := []) rfl (tX8_thrown (zflag hC) 11 N M502) lkL_143 rfl dL_law_473 zq62 zk62 rfl rfl (Nat.le_of_ble_eq_true rfl) (fun r503 M504 er503 => ?_)
  refine zg_iload hC 1 dL_law_476 rfl ?_
  refine zg_icmp_eq hC (tgt := 483) dL_law_478 (by decide) (fun c505 => ?_) (fun c505 => ?_)
  · refine zg_iload hC 1 dL_law_483 rfl ?_
    refine zg_if_ne hC (tgt := 500) dL_law_485 (by decide) (fun c506 => ?_) (fun c506 => ?_)
    · refine zg_aload_n hC 5 dL_law_488 rfl ?_
      refine zg_iconst hC (v := 0) dL_law_489 (by decide) ?_
      refine zg_lald hC (k := 87) dL_law_490 zq87 zk87 (fun h507 => ?_)
      refine zg_iload hC 0 dL_law_491 rfl ?_
      refine zg_i2l hC dL_law_493 ?_
      refine zg_lcmp hC dL_law_494 ?_
      refine zg_if_eq hC (tgt := 500) dL_law_495 (by decide) (fun c508 => ?_) (fun c508 => ?_)
      · refine zg_goto hC (tgt := 2594) dL_law_500 (by decide) ?_
        exact zg_sub [2, 3, 4, 5, 6] rfl (gL_law_B2594 hC hX hW0 N hag23 hB496 v4 M504)
      · refine zg_iconst hC (v := 0) dL_law_498 (by decide) ?_
        exact zg_none
    · refine zg_goto hC (tgt := 2594) dL_law_500 (by decide) ?_
      exact zg_sub [2, 3, 4, 5, 6] rfl (gL_law_B2594 hC hX hW0 N hag23 hB496 v4 M504)
  · refine zg_iconst hC (v := 0) dL_law_481 (by decide) ?_
    exact zg_none
set_option maxRecDepth 20000 in
set_option maxHeartbeats 4000000 in
theorem gL_law_B336 {l : Launch} {Z : zZ} {ad : Nat → Nat} {X : zX} {b Ls : Nat} {xs : Nat → Int32} (hC : zC l Z zfull ad X RL cL_law 7 ret 12) (hX : zScr X b Ls xs) (hW0 : zLaw X b) (N : Nat) {n : Nat} {again23 : Int32 → zMem → zRES} (hag23 : ∀ (cs : Nat × Nat), zB n cs → ∀ (v4 : Int32) (M : zMem), zG l Z zfull ad X cs 23 [(0, .ref b), (1, .ref (ad 0)), (2, .ref (ad 62)), (3, .ref (ad 87)), (4, .int v4)] [] M (again23 v4 M)) {cs : Nat × Nat} (hB : zB (n + 1) cs) (v4 : Int32) (M : zMem) : zG l Z zfull ad X cs 336 [(0, .ref b), (1, .ref (ad 0)), (2, .ref (ad 62)), (3, .ref (ad 87)), (4, .int v4)] [] M (fL_law_B336 N Ls xs again23 v4 M) := by
  unfold fL_law_B336
  refine zg_aload_n hC 1 dL_law_336 rfl ?_
  refine zg_aload_n hC 0 dL_law_337 rfl ?_
  refine zg_iload hC 4 dL_law_338 rfl ?_
  refine zg_iconst hC (v := 1) dL_law_340 (by decide) ?_
  refine zg_iadd hC dL_law_341 ?_
  refine zg_sld hC hX dL_law_342 (fun h509 => ?_)
  refine zg_aload_n hC 0 dL_law_343 rfl ?_
  refine zg_iload hC 4 dL_law_344 rfl ?_
  refine zg_iconst hC (v := 2) dL_law_346 (by decide) ?_
  refine zg_iadd hC dL_law_347 ?_
  refine zg_sld hC hX dL_law_348 (fun h510 => ?_)
  refine zg_aload_n hC 3 dL_law_349 rfl ?_
  refine zg_callWL hC hW0 hB (As := [.ref (ad 0), .int (xs (v4 + 1).toNatClampNeg), .int (xs (v4 + 2).toNatClampNeg), .ref (ad 87)]) (S := []) rfl (tL_vote (zflag hC) 2 N (xs (v4 + 1).toNatClampNeg) (xs (v4 + 2).toNatClampNeg) M) lkL_149 rfl dL_law_350 (Nat.le_of_ble_eq_true rfl) (fun r511 M512 er511 => ?_)
  have hB513 := zB_step hB
  refine zg_istore hC (L' := [(5, _), (0, _), (1, _), (2, _), (3, _), (4, _)]) dL_law_353 (by decide) rfl ?_
  refine zg_aload_n hC 3 dL_law_355 rfl ?_
  refine zg_aload_n hC 1 dL_law_356 rfl ?_
  refine zg_iload hC 5 dL_law_357 rfl ?_
  refine zg_iconst hC (v := 1) dL_law_359 (by decide) ?_
  refine zg_iadd hC dL_law_360 ?_
  refine zg_sld hC hX dL_law_361 (fun h514 => ?_)
  refine zg_aload_n hC 1 dL_law_362 rfl ?_
  refine zg_iload hC 5 dL_law_363 rfl ?_
  refine zg_iconst hC (v := 2) dL_law_365 (by decide) ?_
  refine zg_iadd hC dL_law_366 ?_
  refine zg_sld hC hX dL_law_367 (fun h515 => ?_)
  refine zg_callVL hC hW0 hB513 (k := 62) (As := [.int (xs (v4 + 1).toNatClampNeg), .int (xs (v4 + 2).toNatClampNeg)]) (S := []) rfl (tX8_vote (zflag hC) 8 N (xs (v4 + 1).toNatClampNeg) (xs (v4 + 2).toNatClampNeg) M512) lkL_152 rfl dL_law_368 zq62 zk62 rfl rfl (Nat.le_of_ble_eq_true rfl) (fun r516 M517 er516 => ?_)
  refine zg_istore hC (L' := [(6, _), (5, _), (0, _), (1, _), (2, _), (3, _), (4, _)]) dL_law_371 (by decide) rfl ?_
  refine zg_aload_n hC 4 dL_law_373 rfl ?_
  refine zg_callVL hC hW0 hB513 (k := 62) (As := []) (S := []) rfl (tX8_thrown (zflag hC) 11 N M517) lkL_143 rfl dL_law_374 zq62 zk62 rfl rfl (Nat.le_of_ble_eq_true rfl) (fun r518 M519 er518 => ?_)
  refine zg_iload hC 1 dL_law_377 rfl ?_
  refine zg_icmp_eq hC (tgt := 384) dL_law_379 (by decide) (fun c520 => ?_) (fun c520 => ?_)
  · refine zg_iload hC 1 dL_law_384 rfl ?_
    refine zg_if_ne hC (tgt := 408) dL_law_386 (by decide) (fun c521 => ?_) (fun c521 => ?_)
    · refine zg_aload_n hC 5 dL_law_389 rfl ?_
      refine zg_iconst hC (v := 0) dL_law_390 (by decide) ?_
      refine zg_lald hC (k := 87) dL_law_391 zq87 zk87 (fun h522 => ?_)
      refine zg_iload hC 0 dL_law_392 rfl ?_
      refine zg_if_eq hC (tgt := 401) dL_law_394 (by decide) (fun c523 => ?_) (fun c523 => ?_)
      · refine zg_lconst hC (v := 0) dL_law_401 (by decide) ?_
        refine zg_lcmp hC dL_law_402 ?_
        refine zg_if_eq hC (tgt := 408) dL_law_403 (by decide) (fun c524 => ?_) (fun c524 => ?_)
        · refine zg_goto hC (tgt := 2594) dL_law_408 (by decide) ?_
          exact zg_sub [2, 3, 4, 5, 6] rfl (gL_law_B2594 hC hX hW0 N hag23 hB513 v4 M519)
        · refine zg_iconst hC (v := 0) dL_law_406 (by decide) ?_
          exact zg_none
      · refine zg_lconst hC (v := 1) dL_law_397 (by decide) ?_
        refine zg_goto hC (tgt := 402) dL_law_398 (by decide) ?_
        refine zg_lcmp hC dL_law_402 ?_
        refine zg_if_eq hC (tgt := 408) dL_law_403 (by decide) (fun c525 => ?_) (fun c525 => ?_)
        · refine zg_goto hC (tgt := 2594) dL_law_408 (by decide) ?_
          exact zg_sub [2, 3, 4, 5, 6] rfl (gL_law_B2594 hC hX hW0 N hag23 hB513 v4 M519)
        · refine zg_iconst hC (v := 0) dL_law_406 (by decide) ?_
          exact zg_none
    · refine zg_goto hC (tgt := 2594) dL_law_408 (by decide) ?_
      exact zg_sub [2, 3, 4, 5, 6] rfl (gL_law_B2594 hC hX hW0 N hag23 hB513 v4 M519)
  · refine zg_iconst hC (v := 0) dL_law_382 (by decide) ?_
    exact zg_none
set_option maxRecDepth 20000 in
set_option maxHeartbeats 4000000 in
theorem gL_law_B280 {l : Launch} {Z : zZ} {ad : Nat → Nat} {X : zX} {b Ls : Nat} {xs : Nat → Int32} (hC : zC l Z zfull ad X RL cL_law 7 ret 12) (hX : zScr X b Ls xs) (hW0 : zLaw X b) (N : Nat) {n : Nat} {again23 : Int32 → zMem → zRES} (hag23 : ∀ (cs : Nat × Nat), zB n cs → ∀ (v4 : Int32) (M : zMem), zG l Z zfull ad X cs 23 [(0, .ref b), (1, .ref (ad 0)), (2, .ref (ad 62)), (3, .ref (ad 87)), (4, .int v4)] [] M (again23 v4 M)) {cs : Nat × Nat} (hB : zB (n + 1) cs) (v4 : Int32) (M : zMem) : zG l Z zfull ad X cs 280 [(0, .ref b), (1, .ref (ad 0)), (2, .ref (ad 62)), (3, .ref (ad 87)), (4, .int v4)] [] M (fL_law_B280 N Ls xs again23 v4 M) := by
  unfold fL_law_B280
  refine zg_aload_n hC 1 dL_law_280 rfl ?_
  refine zg_aload_n hC 0 dL_law_281 rfl ?_
  refine zg_iload hC 4 dL_law_282 rfl ?_
  refine zg_iconst hC (v := 1) dL_law_284 (by decide) ?_
  refine zg_iadd hC dL_law_285 ?_
  refine zg_sld hC hX dL_law_286 (fun h526 => ?_)
  refine zg_aload_n hC 3 dL_law_287 rfl ?_
  refine zg_callWL hC hW0 hB (As := [.ref (ad 0), .int (xs (v4 + 1).toNatClampNeg), .ref (ad 87)]) (S := []) rfl (tL_stand (zflag hC) 3 N (xs (v4 + 1).toNatClampNeg) M) lkL_146 rfl dL_law_288 (Nat.le_of_ble_eq_true rfl) (fun r527 M528 er527 => ?_)
  have hB529 := zB_step hB
  refine zg_istore hC (L' := [(5, _), (0, _), (1, _), (2, _), (3, _), (4, _)]) dL_law_291 (by decide) rfl ?_
  refine zg_aload_n hC 3 dL_law_293 rfl ?_
  refine zg_aload_n hC 1 dL_law_294 rfl ?_
  refine zg_iload hC 5 dL_law_295 rfl ?_
  refine zg_iconst hC (v := 1) dL_law_297 (by decide) ?_
  refine zg_iadd hC dL_law_298 ?_
  refine zg_sld hC hX dL_law_299 (fun h530 => ?_)
  refine zg_callVL hC hW0 hB529 (k := 62) (As := [.int (xs (v4 + 1).toNatClampNeg)]) (S := []) rfl (tX8_stand (zflag hC) 9 N (xs (v4 + 1).toNatClampNeg) M528) lkL_148 rfl dL_law_300 zq62 zk62 rfl rfl (Nat.le_of_ble_eq_true rfl) (fun r531 M532 er531 => ?_)
  refine zg_istore hC (L' := [(6, _), (5, _), (0, _), (1, _), (2, _), (3, _), (4, _)]) dL_law_303 (by decide) rfl ?_
  refine zg_aload_n hC 4 dL_law_305 rfl ?_
  refine zg_callVL hC hW0 hB529 (k := 62) (As := []) (S := []) rfl (tX8_thrown (zflag hC) 11 N M532) lkL_143 rfl dL_law_306 zq62 zk62 rfl rfl (Nat.le_of_ble_eq_true rfl) (fun r533 M534 er533 => ?_)
  refine zg_iload hC 1 dL_law_309 rfl ?_
  refine zg_icmp_eq hC (tgt := 316) dL_law_311 (by decide) (fun c535 => ?_) (fun c535 => ?_)
  · refine zg_iload hC 1 dL_law_316 rfl ?_
    refine zg_if_ne hC (tgt := 333) dL_law_318 (by decide) (fun c536 => ?_) (fun c536 => ?_)
    · refine zg_aload_n hC 5 dL_law_321 rfl ?_
      refine zg_iconst hC (v := 0) dL_law_322 (by decide) ?_
      refine zg_lald hC (k := 87) dL_law_323 zq87 zk87 (fun h537 => ?_)
      refine zg_iload hC 0 dL_law_324 rfl ?_
      refine zg_i2l hC dL_law_326 ?_
      refine zg_lcmp hC dL_law_327 ?_
      refine zg_if_eq hC (tgt := 333) dL_law_328 (by decide) (fun c538 => ?_) (fun c538 => ?_)
      · refine zg_goto hC (tgt := 2594) dL_law_333 (by decide) ?_
        exact zg_sub [2, 3, 4, 5, 6] rfl (gL_law_B2594 hC hX hW0 N hag23 hB529 v4 M534)
      · refine zg_iconst hC (v := 0) dL_law_331 (by decide) ?_
        exact zg_none
    · refine zg_goto hC (tgt := 2594) dL_law_333 (by decide) ?_
      exact zg_sub [2, 3, 4, 5, 6] rfl (gL_law_B2594 hC hX hW0 N hag23 hB529 v4 M534)
  · refine zg_iconst hC (v := 0) dL_law_314 (by decide) ?_
    exact zg_none
set_option maxRecDepth 20000 in
set_option maxHeartbeats 4000000 in
theorem gL_law_B224 {l : Launch} {Z : zZ} {ad : Nat → Nat} {X : zX} {b Ls : Nat} {xs : Nat → Int32} (hC : zC l Z zfull ad X RL cL_law 7 ret 12) (hX : zScr X b Ls xs) (hW0 : zLaw X b) (N : Nat) {n : Nat} {again23 : Int32 → zMem → zRES} (hag23 : ∀ (cs : Nat × Nat), zB n cs → ∀ (v4 : Int32) (M : zMem), zG l Z zfull ad X cs 23 [(0, .ref b), (1, .ref (ad 0)), (2, .ref (ad 62)), (3, .ref (ad 87)), (4, .int v4)] [] M (again23 v4 M)) {cs : Nat × Nat} (hB : zB (n + 1) cs) (v4 : Int32) (M : zMem) : zG l Z zfull ad X cs 224 [(0, .ref b), (1, .ref (ad 0)), (2, .ref (ad 62)), (3, .ref (ad 87)), (4, .int v4)] [] M (fL_law_B224 N Ls xs again23 v4 M) := by
  unfold fL_law_B224
  refine zg_aload_n hC 1 dL_law_224 rfl ?_
  refine zg_aload_n hC 0 dL_law_225 rfl ?_
  refine zg_iload hC 4 dL_law_226 rfl ?_
  refine zg_iconst hC (v := 1) dL_law_228 (by decide) ?_
  refine zg_iadd hC dL_law_229 ?_
  refine zg_sld hC hX dL_law_230 (fun h539 => ?_)
  refine zg_aload_n hC 3 dL_law_231 rfl ?_
  refine zg_callWL hC hW0 hB (As := [.ref (ad 0), .int (xs (v4 + 1).toNatClampNeg), .ref (ad 87)]) (S := []) rfl (tL_part (zflag hC) 4 N (xs (v4 + 1).toNatClampNeg) M) lkL_137 rfl dL_law_232 (Nat.le_of_ble_eq_true rfl) (fun r540 M541 er540 => ?_)
  have hB542 := zB_step hB
  refine zg_istore hC (L' := [(5, _), (0, _), (1, _), (2, _), (3, _), (4, _)]) dL_law_235 (by decide) rfl ?_
  refine zg_aload_n hC 3 dL_law_237 rfl ?_
  refine zg_aload_n hC 1 dL_law_238 rfl ?_
  refine zg_iload hC 5 dL_law_239 rfl ?_
  refine zg_iconst hC (v := 1) dL_law_241 (by decide) ?_
  refine zg_iadd hC dL_law_242 ?_
  refine zg_sld hC hX dL_law_243 (fun h543 => ?_)
  refine zg_callVL hC hW0 hB542 (k := 62) (As := [.int (xs (v4 + 1).toNatClampNeg)]) (S := []) rfl (tX8_part (zflag hC) 10 N (xs (v4 + 1).toNatClampNeg) M541) lkL_142 rfl dL_law_244 zq62 zk62 rfl rfl (Nat.le_of_ble_eq_true rfl) (fun r544 M545 er544 => ?_)
  refine zg_istore hC (L' := [(6, _), (5, _), (0, _), (1, _), (2, _), (3, _), (4, _)]) dL_law_247 (by decide) rfl ?_
  refine zg_aload_n hC 4 dL_law_249 rfl ?_
  refine zg_callVL hC hW0 hB542 (k := 62) (As := []) (S := []) rfl (tX8_thrown (zflag hC) 11 N M545) lkL_143 rfl dL_law_250 zq62 zk62 rfl rfl (Nat.le_of_ble_eq_true rfl) (fun r546 M547 er546 => ?_)
  refine zg_iload hC 1 dL_law_253 rfl ?_
  refine zg_icmp_eq hC (tgt := 260) dL_law_255 (by decide) (fun c548 => ?_) (fun c548 => ?_)
  · refine zg_iload hC 1 dL_law_260 rfl ?_
    refine zg_if_ne hC (tgt := 277) dL_law_262 (by decide) (fun c549 => ?_) (fun c549 => ?_)
    · refine zg_aload_n hC 5 dL_law_265 rfl ?_
      refine zg_iconst hC (v := 0) dL_law_266 (by decide) ?_
      refine zg_lald hC (k := 87) dL_law_267 zq87 zk87 (fun h550 => ?_)
      refine zg_iload hC 0 dL_law_268 rfl ?_
      refine zg_i2l hC dL_law_270 ?_
      refine zg_lcmp hC dL_law_271 ?_
      refine zg_if_eq hC (tgt := 277) dL_law_272 (by decide) (fun c551 => ?_) (fun c551 => ?_)
      · refine zg_goto hC (tgt := 2594) dL_law_277 (by decide) ?_
        exact zg_sub [2, 3, 4, 5, 6] rfl (gL_law_B2594 hC hX hW0 N hag23 hB542 v4 M547)
      · refine zg_iconst hC (v := 0) dL_law_275 (by decide) ?_
        exact zg_none
    · refine zg_goto hC (tgt := 2594) dL_law_277 (by decide) ?_
      exact zg_sub [2, 3, 4, 5, 6] rfl (gL_law_B2594 hC hX hW0 N hag23 hB542 v4 M547)
  · refine zg_iconst hC (v := 0) dL_law_258 (by decide) ?_
    exact zg_none
set_option maxRecDepth 20000 in
set_option maxHeartbeats 4000000 in
theorem gL_law_B23 {l : Launch} {Z : zZ} {ad : Nat → Nat} {X : zX} {b Ls : Nat} {xs : Nat → Int32} (hC : zC l Z zfull ad X RL cL_law 7 ret 12) (hX : zScr X b Ls xs) (hW0 : zLaw X b) (N : Nat) : ∀ (n : Nat) (cs : Nat × Nat), zB n cs → ∀ (v4 : Int32) (M : zMem), zG l Z zfull ad X cs 23 [(0, .ref b), (1, .ref (ad 0)), (2, .ref (ad 62)), (3, .ref (ad 87)), (4, .int v4)] [] M (fL_law_B23 N Ls xs n v4 M) := by
  intro n
  induction n with
  | zero =>
    intro cs hB v4 M
    exact zg_none
  | succ n ih =>
  intro cs hB v4 M
  rw [fL_law_B23]
  unfold fL_law_S23
  refine zg_iload hC 4 dL_law_23 rfl ?_
  refine zg_aload_n hC 0 dL_law_25 rfl ?_
  refine zg_slen hC hX dL_law_26 ?_
  refine zg_iconst hC (v := 5) dL_law_27 (by decide) ?_
  refine zg_isub hC dL_law_28 ?_
  refine zg_icmp_gt hC (tgt := 2600) dL_law_29 (by decide) (fun c552 => ?_) (fun c552 => ?_)
  · refine zg_iconst hC (v := 1) dL_law_2600 (by decide) ?_
    exact zg_lawret hC hW0 rfl hB dL_law_2601
  · refine zg_aload_n hC 0 dL_law_32 rfl ?_
    refine zg_iload hC 4 dL_law_33 rfl ?_
    refine zg_sld hC hX dL_law_35 (fun h553 => ?_)
    refine zg_bipush hC (v := 63) dL_law_36 (by decide) ?_
    refine zg_iand hC dL_law_38 ?_
    refine zg_ite (fun c554 => ?_) (fun c554 => ?_)
    · refine zg_tswI hC (tgt := 224) (off := 185) c554 dL_law_39 (by decide) (by decide) (by decide +kernel) (by decide) ?_
      exact zg_sub [0, 1, 2, 3, 4] rfl (gL_law_B224 hC hX hW0 N ih hB v4 M)
    refine zg_ite (fun c555 => ?_) (fun c555 => ?_)
    · refine zg_tswI hC (tgt := 280) (off := 241) c555 dL_law_39 (by decide) (by decide) (by decide +kernel) (by decide) ?_
      exact zg_sub [0, 1, 2, 3, 4] rfl (gL_law_B280 hC hX hW0 N ih hB v4 M)
    refine zg_ite (fun c556 => ?_) (fun c556 => ?_)
    · refine zg_tswI hC (tgt := 336) (off := 297) c556 dL_law_39 (by decide) (by decide) (by decide +kernel) (by decide) ?_
      exact zg_sub [0, 1, 2, 3, 4] rfl (gL_law_B336 hC hX hW0 N ih hB v4 M)
    refine zg_ite (fun c557 => ?_) (fun c557 => ?_)
    · refine zg_tswI hC (tgt := 411) (off := 372) c557 dL_law_39 (by decide) (by decide) (by decide +kernel) (by decide) ?_
      exact zg_sub [0, 1, 2, 3, 4] rfl (gL_law_B411 hC hX hW0 N ih hB v4 M)
    refine zg_ite (fun c558 => ?_) (fun c558 => ?_)
    · refine zg_tswI hC (tgt := 503) (off := 464) c558 dL_law_39 (by decide) (by decide) (by decide +kernel) (by decide) ?_
      exact zg_sub [0, 1, 2, 3, 4] rfl (gL_law_B503 hC hX hW0 N ih hB v4 M)
    refine zg_ite (fun c559 => ?_) (fun c559 => ?_)
    · refine zg_tswI hC (tgt := 571) (off := 532) c559 dL_law_39 (by decide) (by decide) (by decide +kernel) (by decide) ?_
      exact zg_sub [0, 1, 2, 3, 4] rfl (gL_law_B571 hC hX hW0 N ih hB v4 M)
    refine zg_ite (fun c560 => ?_) (fun c560 => ?_)
    · refine zg_tswI hC (tgt := 627) (off := 588) c560 dL_law_39 (by decide) (by decide) (by decide +kernel) (by decide) ?_
      exact zg_sub [0, 1, 2, 3, 4] rfl (gL_law_B627 hC hX hW0 N ih hB v4 M)
    refine zg_ite (fun c561 => ?_) (fun c561 => ?_)
    · refine zg_tswI hC (tgt := 683) (off := 644) c561 dL_law_39 (by decide) (by decide) (by decide +kernel) (by decide) ?_
      exact zg_sub [0, 1, 2, 3, 4] rfl (gL_law_B683 hC hX hW0 N ih hB v4 M)
    refine zg_ite (fun c562 => ?_) (fun c562 => ?_)
    · refine zg_tswI hC (tgt := 739) (off := 700) c562 dL_law_39 (by decide) (by decide) (by decide +kernel) (by decide) ?_
      exact zg_sub [0, 1, 2, 3, 4] rfl (gL_law_B739 hC hX hW0 N ih hB v4 M)
    refine zg_ite (fun c563 => ?_) (fun c563 => ?_)
    · refine zg_tswI hC (tgt := 814) (off := 775) c563 dL_law_39 (by decide) (by decide) (by decide +kernel) (by decide) ?_
      exact zg_sub [0, 1, 2, 3, 4] rfl (gL_law_B814 hC hX hW0 N ih hB v4 M)
    refine zg_ite (fun c564 => ?_) (fun c564 => ?_)
    · refine zg_tswI hC (tgt := 870) (off := 831) c564 dL_law_39 (by decide) (by decide) (by decide +kernel) (by decide) ?_
      exact zg_sub [0, 1, 2, 3, 4] rfl (gL_law_B870 hC hX hW0 N ih hB v4 M)
    refine zg_ite (fun c565 => ?_) (fun c565 => ?_)
    · refine zg_tswI hC (tgt := 938) (off := 899) c565 dL_law_39 (by decide) (by decide) (by decide +kernel) (by decide) ?_
      exact zg_sub [0, 1, 2, 3, 4] rfl (gL_law_B938 hC hX hW0 N ih hB v4 M)
    refine zg_ite (fun c566 => ?_) (fun c566 => ?_)
    · refine zg_tswI hC (tgt := 951) (off := 912) c566 dL_law_39 (by decide) (by decide) (by decide +kernel) (by decide) ?_
      exact zg_sub [0, 1, 2, 3, 4] rfl (gL_law_B951 hC hX hW0 N ih hB v4 M)
    refine zg_ite (fun c567 => ?_) (fun c567 => ?_)
    · refine zg_tswI hC (tgt := 1007) (off := 968) c567 dL_law_39 (by decide) (by decide) (by decide +kernel) (by decide) ?_
      exact zg_sub [0, 1, 2, 3, 4] rfl (gL_law_B1007 hC hX hW0 N ih hB v4 M)
    refine zg_ite (fun c568 => ?_) (fun c568 => ?_)
    · refine zg_tswI hC (tgt := 1063) (off := 1024) c568 dL_law_39 (by decide) (by decide) (by decide +kernel) (by decide) ?_
      exact zg_sub [0, 1, 2, 3, 4] rfl (gL_law_B1063 hC hX hW0 N ih hB v4 M)
    refine zg_ite (fun c569 => ?_) (fun c569 => ?_)
    · refine zg_tswI hC (tgt := 1126) (off := 1087) c569 dL_law_39 (by decide) (by decide) (by decide +kernel) (by decide) ?_
      exact zg_sub [0, 1, 2, 3, 4] rfl (gL_law_B1126 hC hX hW0 N ih hB v4 M)
    refine zg_ite (fun c570 => ?_) (fun c570 => ?_)
    · refine zg_tswI hC (tgt := 1189) (off := 1150) c570 dL_law_39 (by decide) (by decide) (by decide +kernel) (by decide) ?_
      exact zg_sub [0, 1, 2, 3, 4] rfl (gL_law_B1189 hC hX hW0 N ih hB v4 M)
    refine zg_ite (fun c571 => ?_) (fun c571 => ?_)
    · refine zg_tswI hC (tgt := 1257) (off := 1218) c571 dL_law_39 (by decide) (by decide) (by decide +kernel) (by decide) ?_
      exact zg_sub [0, 1, 2, 3, 4] rfl (gL_law_B1257 hC hX hW0 N ih hB v4 M)
    refine zg_ite (fun c572 => ?_) (fun c572 => ?_)
    · refine zg_tswI hC (tgt := 1301) (off := 1262) c572 dL_law_39 (by decide) (by decide) (by decide +kernel) (by decide) ?_
      exact zg_sub [0, 1, 2, 3, 4] rfl (gL_law_B1301 hC hX hW0 N ih hB v4 M)
    refine zg_ite (fun c573 => ?_) (fun c573 => ?_)
    · refine zg_tswI hC (tgt := 1381) (off := 1342) c573 dL_law_39 (by decide) (by decide) (by decide +kernel) (by decide) ?_
      exact zg_sub [0, 1, 2, 3, 4] rfl (gL_law_B1381 hC hX hW0 N ih hB v4 M)
    refine zg_ite (fun c574 => ?_) (fun c574 => ?_)
    · refine zg_tswI hC (tgt := 1437) (off := 1398) c574 dL_law_39 (by decide) (by decide) (by decide +kernel) (by decide) ?_
      exact zg_sub [0, 1, 2, 3, 4] rfl (gL_law_B1437 hC hX hW0 N ih hB v4 M)
    refine zg_ite (fun c575 => ?_) (fun c575 => ?_)
    · refine zg_tswI hC (tgt := 1493) (off := 1454) c575 dL_law_39 (by decide) (by decide) (by decide +kernel) (by decide) ?_
      exact zg_sub [0, 1, 2, 3, 4] rfl (gL_law_B1493 hC hX hW0 N ih hB v4 M)
    refine zg_ite (fun c576 => ?_) (fun c576 => ?_)
    · refine zg_tswI hC (tgt := 1573) (off := 1534) c576 dL_law_39 (by decide) (by decide) (by decide +kernel) (by decide) ?_
      exact zg_sub [0, 1, 2, 3, 4] rfl (gL_law_B1573 hC hX hW0 N ih hB v4 M)
    refine zg_ite (fun c577 => ?_) (fun c577 => ?_)
    · refine zg_tswI hC (tgt := 1641) (off := 1602) c577 dL_law_39 (by decide) (by decide) (by decide +kernel) (by decide) ?_
      exact zg_sub [0, 1, 2, 3, 4] rfl (gL_law_B1641 hC hX hW0 N ih hB v4 M)
    refine zg_ite (fun c578 => ?_) (fun c578 => ?_)
    · refine zg_tswI hC (tgt := 1709) (off := 1670) c578 dL_law_39 (by decide) (by decide) (by decide +kernel) (by decide) ?_
      exact zg_sub [0, 1, 2, 3, 4] rfl (gL_law_B1709 hC hX hW0 N ih hB v4 M)
    refine zg_ite (fun c579 => ?_) (fun c579 => ?_)
    · refine zg_tswI hC (tgt := 1777) (off := 1738) c579 dL_law_39 (by decide) (by decide) (by decide +kernel) (by decide) ?_
      exact zg_sub [0, 1, 2, 3, 4] rfl (gL_law_B1777 hC hX hW0 N ih hB v4 M)
    refine zg_ite (fun c580 => ?_) (fun c580 => ?_)
    · refine zg_tswI hC (tgt := 1790) (off := 1751) c580 dL_law_39 (by decide) (by decide) (by decide +kernel) (by decide) ?_
      exact zg_sub [0, 1, 2, 3, 4] rfl (gL_law_B1790 hC hX hW0 N ih hB v4 M)
    refine zg_ite (fun c581 => ?_) (fun c581 => ?_)
    · refine zg_tswI hC (tgt := 1846) (off := 1807) c581 dL_law_39 (by decide) (by decide) (by decide +kernel) (by decide) ?_
      exact zg_sub [0, 1, 2, 3, 4] rfl (gL_law_B1846 hC hX hW0 N ih hB v4 M)
    refine zg_ite (fun c582 => ?_) (fun c582 => ?_)
    · refine zg_tswI hC (tgt := 1859) (off := 1820) c582 dL_law_39 (by decide) (by decide) (by decide +kernel) (by decide) ?_
      exact zg_sub [0, 1, 2, 3, 4] rfl (gL_law_B1859 hC hX hW0 N ih hB v4 M)
    refine zg_ite (fun c583 => ?_) (fun c583 => ?_)
    · refine zg_tswI hC (tgt := 1915) (off := 1876) c583 dL_law_39 (by decide) (by decide) (by decide +kernel) (by decide) ?_
      exact zg_sub [0, 1, 2, 3, 4] rfl (gL_law_B1915 hC hX hW0 N ih hB v4 M)
    refine zg_ite (fun c584 => ?_) (fun c584 => ?_)
    · refine zg_tswI hC (tgt := 1928) (off := 1889) c584 dL_law_39 (by decide) (by decide) (by decide +kernel) (by decide) ?_
      exact zg_sub [0, 1, 2, 3, 4] rfl (gL_law_B1928 hC hX hW0 N ih hB v4 M)
    refine zg_ite (fun c585 => ?_) (fun c585 => ?_)
    · refine zg_tswI hC (tgt := 1984) (off := 1945) c585 dL_law_39 (by decide) (by decide) (by decide +kernel) (by decide) ?_
      exact zg_sub [0, 1, 2, 3, 4] rfl (gL_law_B1984 hC hX hW0 N ih hB v4 M)
    refine zg_ite (fun c586 => ?_) (fun c586 => ?_)
    · refine zg_tswI hC (tgt := 2040) (off := 2001) c586 dL_law_39 (by decide) (by decide) (by decide +kernel) (by decide) ?_
      exact zg_sub [0, 1, 2, 3, 4] rfl (gL_law_B2040 hC hX hW0 N ih hB v4 M)
    refine zg_ite (fun c587 => ?_) (fun c587 => ?_)
    · refine zg_tswI hC (tgt := 2096) (off := 2057) c587 dL_law_39 (by decide) (by decide) (by decide +kernel) (by decide) ?_
      exact zg_sub [0, 1, 2, 3, 4] rfl (gL_law_B2096 hC hX hW0 N ih hB v4 M)
    refine zg_ite (fun c588 => ?_) (fun c588 => ?_)
    · refine zg_tswI hC (tgt := 2152) (off := 2113) c588 dL_law_39 (by decide) (by decide) (by decide +kernel) (by decide) ?_
      exact zg_sub [0, 1, 2, 3, 4] rfl (gL_law_B2152 hC hX hW0 N ih hB v4 M)
    refine zg_ite (fun c589 => ?_) (fun c589 => ?_)
    · refine zg_tswI hC (tgt := 2208) (off := 2169) c589 dL_law_39 (by decide) (by decide) (by decide +kernel) (by decide) ?_
      exact zg_sub [0, 1, 2, 3, 4] rfl (gL_law_B2208 hC hX hW0 N ih hB v4 M)
    refine zg_ite (fun c590 => ?_) (fun c590 => ?_)
    · refine zg_tswI hC (tgt := 2276) (off := 2237) c590 dL_law_39 (by decide) (by decide) (by decide +kernel) (by decide) ?_
      exact zg_sub [0, 1, 2, 3, 4] rfl (gL_law_B2276 hC hX hW0 N ih hB v4 M)
    refine zg_ite (fun c591 => ?_) (fun c591 => ?_)
    · refine zg_tswI hC (tgt := 2289) (off := 2250) c591 dL_law_39 (by decide) (by decide) (by decide +kernel) (by decide) ?_
      exact zg_sub [0, 1, 2, 3, 4] rfl (gL_law_B2289 hC hX hW0 N ih hB v4 M)
    refine zg_ite (fun c592 => ?_) (fun c592 => ?_)
    · refine zg_tswI hC (tgt := 2345) (off := 2306) c592 dL_law_39 (by decide) (by decide) (by decide +kernel) (by decide) ?_
      exact zg_sub [0, 1, 2, 3, 4] rfl (gL_law_B2345 hC hX hW0 N ih hB v4 M)
    refine zg_ite (fun c593 => ?_) (fun c593 => ?_)
    · refine zg_tswI hC (tgt := 2413) (off := 2374) c593 dL_law_39 (by decide) (by decide) (by decide +kernel) (by decide) ?_
      exact zg_sub [0, 1, 2, 3, 4] rfl (gL_law_B2413 hC hX hW0 N ih hB v4 M)
    refine zg_ite (fun c594 => ?_) (fun c594 => ?_)
    · refine zg_tswI hC (tgt := 2426) (off := 2387) c594 dL_law_39 (by decide) (by decide) (by decide +kernel) (by decide) ?_
      exact zg_sub [0, 1, 2, 3, 4] rfl (gL_law_B2426 hC hX hW0 N ih hB v4 M)
    refine zg_ite (fun c595 => ?_) (fun c595 => ?_)
    · refine zg_tswI hC (tgt := 2482) (off := 2443) c595 dL_law_39 (by decide) (by decide) (by decide +kernel) (by decide) ?_
      exact zg_sub [0, 1, 2, 3, 4] rfl (gL_law_B2482 hC hX hW0 N ih hB v4 M)
    refine zg_ite (fun c596 => ?_) (fun c596 => ?_)
    · refine zg_tswI hC (tgt := 2538) (off := 2499) c596 dL_law_39 (by decide) (by decide) (by decide +kernel) (by decide) ?_
      exact zg_sub [0, 1, 2, 3, 4] rfl (gL_law_B2538 hC hX hW0 N ih hB v4 M)
    refine zg_tswO hC (tgt := 2594) dL_law_39 (ztsw43 c554 c555 c556 c557 c558 c559 c560 c561 c562 c563 c564 c565 c566 c567 c568 c569 c570 c571 c572 c573 c574 c575 c576 c577 c578 c579 c580 c581 c582 c583 c584 c585 c586 c587 c588 c589 c590 c591 c592 c593 c594 c595 c596) (by decide) ?_
    exact zg_sub [0, 1, 2, 3, 4] rfl (gL_law_B2594 hC hX hW0 N ih (zB_le hB) v4 M)
