set_option maxRecDepth 20000 in
set_option maxHeartbeats 4000000 in
theorem gL_law_B2594 {l : Launch} {Z : zZ} {ad : Nat → Nat} {X : zX} {b Ls : Nat} {xs : Nat → Int32} (hC : zC l Z zfull ad X RL cL_law 7 ret 12) (hX : zScr X b Ls xs) (hW0 : zLaw X b) (N : Nat) {n : Nat} {again23 : Int32 → zMem → zRES} (hag23 : ∀ (cs : Nat × Nat), zB n cs → ∀ (v4 : Int32) (M : zMem), zG l Z zfull ad X cs 23 [(0, .ref b), (1, .ref (ad 0)), (2, .ref (ad 62)), (3, .ref (ad 87)), (4, .int v4)] [] M (again23 v4 M)) {cs : Nat × Nat} (hB : zB n cs) (v4 : Int32) (M : zMem) : zG l Z zfull ad X cs 2594 [(0, .ref b), (1, .ref (ad 0)), (2, .ref (ad 62)), (3, .ref (ad 87)), (4, .int v4)] [] M (fL_law_B2594 N Ls xs again23 v4 M) := by
  unfold fL_law_B2594
  refine zg_iinc hC 4 (v := v4 + 5) (L' := [(4, _), (0, _), (1, _), (2, _), (3, _)]) dL_law_2594 rfl (by rfl) (by decide) rfl ?_
  refine zg_goto hC (tgt := 23) dL_law_2597 (by decide) ?_
  exact zg_sub [1, 2, 3, 4, 0] rfl (hag23 _ hB (v4 + 5) M)

set_option maxRecDepth 20000 in
set_option maxHeartbeats 4000000 in
theorem gL_law_B2413 {l : Launch} {Z : zZ} {ad : Nat → Nat} {X : zX} {b Ls : Nat} {xs : Nat → Int32} (hC : zC l Z zfull ad X RL cL_law 7 ret 12) (hX : zScr X b Ls xs) (hW0 : zLaw X b) (N : Nat) {n : Nat} {again23 : Int32 → zMem → zRES} (hag23 : ∀ (cs : Nat × Nat), zB n cs → ∀ (v4 : Int32) (M : zMem), zG l Z zfull ad X cs 23 [(0, .ref b), (1, .ref (ad 0)), (2, .ref (ad 62)), (3, .ref (ad 87)), (4, .int v4)] [] M (again23 v4 M)) {cs : Nat × Nat} (hB : zB (n + 1) cs) (v4 : Int32) (M : zMem) : zG l Z zfull ad X cs 2413 [(0, .ref b), (1, .ref (ad 0)), (2, .ref (ad 62)), (3, .ref (ad 87)), (4, .int v4)] [] M (fL_law_B2413 N Ls xs again23 v4 M) := by
  unfold fL_law_B2413
  refine zg_aload_n hC 1 dL_law_2413 rfl ?_
  refine zg_callVL hC hW0 hB (k := 0) (As := []) (S := []) rfl (tX7_recalls (zflag hC) 11 N M) lkL_269 rfl dL_law_2414 zq0 zk0 rfl rfl (Nat.le_of_ble_eq_true rfl) (fun r40 M41 er40 => ?_)
  refine zg_aload_n hC 2 dL_law_2417 rfl ?_
  refine zg_callVL hC hW0 hB (k := 62) (As := []) (S := [.int r40]) rfl (tX8_recalls (zflag hC) 11 N M41) lkL_272 rfl dL_law_2418 zq62 zk62 rfl rfl (Nat.le_of_ble_eq_true rfl) (fun r42 M43 er42 => ?_)
  refine zg_icmp_eq hC (tgt := 2594) dL_law_2421 (by decide) (fun c44 => ?_) (fun c44 => ?_)
  · exact zg_sub [0, 1, 2, 3, 4] rfl (gL_law_B2594 hC hX hW0 N hag23 (zB_le hB) v4 M43)
  · refine zg_iconst hC (v := 0) dL_law_2424 (by decide) ?_
    exact zg_none

set_option maxRecDepth 20000 in
set_option maxHeartbeats 4000000 in
theorem gL_law_B938 {l : Launch} {Z : zZ} {ad : Nat → Nat} {X : zX} {b Ls : Nat} {xs : Nat → Int32} (hC : zC l Z zfull ad X RL cL_law 7 ret 12) (hX : zScr X b Ls xs) (hW0 : zLaw X b) (N : Nat) {n : Nat} {again23 : Int32 → zMem → zRES} (hag23 : ∀ (cs : Nat × Nat), zB n cs → ∀ (v4 : Int32) (M : zMem), zG l Z zfull ad X cs 23 [(0, .ref b), (1, .ref (ad 0)), (2, .ref (ad 62)), (3, .ref (ad 87)), (4, .int v4)] [] M (again23 v4 M)) {cs : Nat × Nat} (hB : zB (n + 1) cs) (v4 : Int32) (M : zMem) : zG l Z zfull ad X cs 938 [(0, .ref b), (1, .ref (ad 0)), (2, .ref (ad 62)), (3, .ref (ad 87)), (4, .int v4)] [] M (fL_law_B938 N Ls xs again23 v4 M) := by
  unfold fL_law_B938
  refine zg_aload_n hC 1 dL_law_938 rfl ?_
  refine zg_callVL hC hW0 hB (k := 0) (As := []) (S := []) rfl (tX7_versions (zflag hC) 11 N M) lkL_178 rfl dL_law_939 zq0 zk0 rfl rfl (Nat.le_of_ble_eq_true rfl) (fun r386 M387 er386 => ?_)
  refine zg_aload_n hC 2 dL_law_942 rfl ?_
  refine zg_callVL hC hW0 hB (k := 62) (As := []) (S := [.int r386]) rfl (tX8_versions (zflag hC) 11 N M387) lkL_181 rfl dL_law_943 zq62 zk62 rfl rfl (Nat.le_of_ble_eq_true rfl) (fun r388 M389 er388 => ?_)
  refine zg_icmp_eq hC (tgt := 2594) dL_law_946 (by decide) (fun c390 => ?_) (fun c390 => ?_)
  · exact zg_sub [0, 1, 2, 3, 4] rfl (gL_law_B2594 hC hX hW0 N hag23 (zB_le hB) v4 M389)
  · refine zg_iconst hC (v := 0) dL_law_949 (by decide) ?_
    exact zg_none
