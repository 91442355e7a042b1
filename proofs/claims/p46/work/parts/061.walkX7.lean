def fX7_part (N : Nat) (p1 : Int32) (M : zMem) : zRES :=
  if p1 < 0 then
    some (.inr 2, M)
  else
    if p1 < 32 then
      zl (zsI M 1 0 p1) fun M3 =>
      zb (fX3_add N 0 p1 0 M3) fun r4 M5 =>
      zb (fJ6_bitCount_0f7a4 N p1 M5) fun r6 M7 =>
      some (.inl (r6 * ((5 : Int32) - r6)), M7)
    else
      some (.inr 2, M)
set_option maxRecDepth 20000 in
set_option maxHeartbeats 2000000 in
theorem gX7_part_B0 {l : Launch} {Z : zZ} {ad : Nat → Nat} {d : Nat} {X : zX} (hC : zC l Z zfull ad X RX7 cX7_part 3 (some .int) (d + 6)) (hE : zEnd Z zfull ad X false) (hN : zNoX X) (N : Nat) (p1 : Int32) (M : zMem) : zG l Z zfull ad X (0, 0) 0 [(0, .ref (ad 0)), (1, .int p1)] [] M (fX7_part N p1 M) := by
  unfold fX7_part
  refine zg_iload_n hC 1 dX7_part_0 rfl ?_
  refine zg_if_lt hC (tgt := 10) dX7_part_1 (by decide) (fun c1 => ?_) (fun c1 => ?_)
  · exact zg_throw hC hE hN (by omega) txX7_65 ckX7_61 skX7_63 dX7_part_10 dX7_part_13 dX7_part_14 dX7_part_16 dX7_part_19 (Nat.le_of_ble_eq_true rfl)
  · refine zg_iload_n hC 1 dX7_part_4 rfl ?_
    refine zg_bipush hC (v := 32) dX7_part_5 (by decide) ?_
    refine zg_icmp_lt hC (tgt := 20) dX7_part_7 (by decide) (fun c2 => ?_) (fun c2 => ?_)
    · refine zg_aload_n hC 0 dX7_part_20 rfl ?_
      refine zg_get hC (k := 0) (v := .ref (ad 1)) ffX7_10 dX7_part_21 zq0 zk0 rfl ?_
      refine zg_iload_n hC 1 dX7_part_24 rfl ?_
      refine zg_putI hC (k := 1) fpX7_68 dX7_part_25 zq1 zk1 rfl (fun M3 eM3 => ?_)
      refine zg_aload_n hC 0 dX7_part_28 rfl ?_
      refine zg_get hC (k := 0) (v := .ref (ad 29)) ffX7_22 dX7_part_29 zq0 zk0 rfl ?_
      refine zg_iconst hC (v := 0) dX7_part_32 (by decide) ?_
      refine zg_iload_n hC 1 dX7_part_33 rfl ?_
      refine zg_iconst hC (v := 0) dX7_part_34 (by decide) ?_
      refine zg_callVv hC hE hN (k := 29) (As := [.int 0, .int p1, .int 0]) (S := []) rfl (tX3_add (zflag hC) (d + 5) N 0 p1 0 M3) lkX7_72 rfl dX7_part_35 zq29 zk29 rfl rfl (Nat.le_of_ble_eq_true rfl) (fun r4 M5 er4 => ?_)
      refine zg_iload_n hC 1 dX7_part_38 rfl ?_
      refine zg_callSi hC hE hN (As := [.int p1]) (S := []) rfl (tJ6_bitCount_0f7a4 (zflag hC) (d + 5) N p1 M5) lkX7_76 rfl dX7_part_39 (Nat.le_of_ble_eq_true rfl) (fun r6 M7 er6 => ?_)
      refine zg_istore_n hC (L' := [(2, _), (0, _), (1, _)]) dX7_part_42 (by decide) rfl ?_
      refine zg_iload_n hC 0 dX7_part_43 rfl ?_
      refine zg_iconst hC (v := 5) dX7_part_44 (by decide) ?_
      refine zg_iload_n hC 0 dX7_part_45 rfl ?_
      refine zg_isub hC dX7_part_46 ?_
      refine zg_imul hC dX7_part_47 ?_
      exact zg_ret hC hE dX7_part_48
    · exact zg_throw hC hE hN (by omega) txX7_65 ckX7_61 skX7_63 dX7_part_10 dX7_part_13 dX7_part_14 dX7_part_16 dX7_part_19 (Nat.le_of_ble_eq_true rfl)
theorem tX7_part {l : Launch} {Z : zZ} {ad : Nat → Nat} (hl : l.stackTraces = false) (d : Nat) (N : Nat) (p1 : Int32) (M : zMem) : zT l Z zfull ad (.code yX7_part cX7_part 3 (some .int)) yX7_part (d + 6) false zbn [.ref (ad 0), .int p1] M (fX7_part N p1 M) :=
  zT_of hl (by decide +kernel) (Nat.le_of_ble_eq_true rfl) (fun X hC hE hN => gX7_part_B0 hC hE hN N p1 M)

def fX7_checkBakery (N : Nat) (p1 : Int32) (M : zMem) : zRES :=
  if p1 < 0 then
    some (.inr 1, M)
  else
    if p1 < 5 then
      some (.inl 0, M)
    else
      some (.inr 1, M)
set_option maxRecDepth 20000 in
set_option maxHeartbeats 2000000 in
theorem gX7_checkBakery_B0 {l : Launch} {Z : zZ} {lv : Nat → Bool} {ad : Nat → Nat} {d : Nat} {X : zX} (hC : zC l Z lv ad X RX7 cX7_checkBakery 1 none (d + 6)) (hE : zEnd Z lv ad X true) (hN : zNoX X) (N : Nat) (p1 : Int32) (M : zMem) : zG l Z lv ad X (0, 0) 0 [(0, .int p1)] [] M (fX7_checkBakery N p1 M) := by
  unfold fX7_checkBakery
  refine zg_iload_n hC 0 dX7_checkBakery_0 rfl ?_
  refine zg_if_lt hC (tgt := 9) dX7_checkBakery_1 (by decide) (fun c1 => ?_) (fun c1 => ?_)
  · exact zg_throwW hC hE hN (by omega) txX7_161 ckX7_157 skX7_289 dX7_checkBakery_9 dX7_checkBakery_12 dX7_checkBakery_13 dX7_checkBakery_16 dX7_checkBakery_19 (Nat.le_of_ble_eq_true rfl)
  · refine zg_iload_n hC 0 dX7_checkBakery_4 rfl ?_
    refine zg_iconst hC (v := 5) dX7_checkBakery_5 (by decide) ?_
    refine zg_icmp_lt hC (tgt := 20) dX7_checkBakery_6 (by decide) (fun c2 => ?_) (fun c2 => ?_)
    · exact zg_retv hC hE dX7_checkBakery_20
    · exact zg_throwW hC hE hN (by omega) txX7_161 ckX7_157 skX7_289 dX7_checkBakery_9 dX7_checkBakery_12 dX7_checkBakery_13 dX7_checkBakery_16 dX7_checkBakery_19 (Nat.le_of_ble_eq_true rfl)
theorem tX7_checkBakery {l : Launch} {Z : zZ} {lv : Nat → Bool} {ad : Nat → Nat} (hl : l.stackTraces = false) (d : Nat) (N : Nat) (p1 : Int32) (M : zMem) : zT l Z lv ad (.code yX7_checkBakery cX7_checkBakery 1 none) yX7_checkBakery (d + 6) true zbn [.int p1] M (fX7_checkBakery N p1 M) :=
  zT_of hl (by decide +kernel) (Nat.le_of_ble_eq_true rfl) (fun X hC hE hN => gX7_checkBakery_B0 hC hE hN N p1 M)

def fX7_stand (N : Nat) (p1 : Int32) (M : zMem) : zRES :=
  zb (fX7_checkBakery N p1 M) fun r1 M2 =>
  if zin p1 5 = true then
  if (M2.1 2 p1.toNatClampNeg) < 100 then
    zb (fX0_becomeCandidate 1 N p1 M2) fun r5 M6 =>
    zb (fX3_add N 1 p1 0 M6) fun r7 M8 =>
    if zin p1 5 = true then
    some (.inl (M8.1 2 p1.toNatClampNeg), M8)
    else none
  else
    some (.inr 3, M2)
  else none
set_option maxRecDepth 20000 in
set_option maxHeartbeats 2000000 in
theorem gX7_stand_B0 {l : Launch} {Z : zZ} {ad : Nat → Nat} {d : Nat} {X : zX} (hC : zC l Z zfull ad X RX7 cX7_stand 2 (some .int) (d + 7)) (hE : zEnd Z zfull ad X false) (hN : zNoX X) (N : Nat) (p1 : Int32) (M : zMem) : zG l Z zfull ad X (0, 0) 0 [(0, .ref (ad 0)), (1, .int p1)] [] M (fX7_stand N p1 M) := by
  unfold fX7_stand
  refine zg_iload_n hC 1 dX7_stand_0 rfl ?_
  refine zg_callSv hC hE hN (As := [.int p1]) (S := []) rfl (tX7_checkBakery (zflag hC) d N p1 M) lkX7_82 rfl dX7_stand_1 (Nat.le_of_ble_eq_true rfl) (fun r1 M2 er1 => ?_)
  refine zg_aload_n hC 0 dX7_stand_4 rfl ?_
  refine zg_get hC (k := 0) (v := .ref (ad 1)) ffX7_10 dX7_stand_5 zq0 zk0 rfl ?_
  refine zg_get hC (k := 1) (v := .ref (ad 2)) ffX7_86 dX7_stand_8 zq1 zk1 rfl ?_
  refine zg_iload_n hC 1 dX7_stand_11 rfl ?_
  refine zg_iald hC (k := 2) dX7_stand_12 zq2 zk2 (fun h3 => ?_)
  refine zg_bipush hC (v := 100) dX7_stand_13 (by decide) ?_
  refine zg_icmp_lt hC (tgt := 28) dX7_stand_15 (by decide) (fun c4 => ?_) (fun c4 => ?_)
  · refine zg_aload_n hC 0 dX7_stand_28 rfl ?_
    refine zg_get hC (k := 0) (v := .ref (ad 1)) ffX7_10 dX7_stand_29 zq0 zk0 rfl ?_
    refine zg_iload_n hC 1 dX7_stand_32 rfl ?_
    refine zg_callVv hC hE hN (k := 1) (As := [.int p1]) (S := []) rfl (tX0_becomeCandidate (zflag hC) (d + 6) (Or.inl rfl) zqA1 N p1 M2) lkX7_95 rfl dX7_stand_33 zq1 zk1 rfl rfl (Nat.le_of_ble_eq_true rfl) (fun r5 M6 er5 => ?_)
    refine zg_aload_n hC 0 dX7_stand_36 rfl ?_
    refine zg_get hC (k := 0) (v := .ref (ad 29)) ffX7_22 dX7_stand_37 zq0 zk0 rfl ?_
    refine zg_iconst hC (v := 1) dX7_stand_40 (by decide) ?_
    refine zg_iload_n hC 1 dX7_stand_41 rfl ?_
    refine zg_iconst hC (v := 0) dX7_stand_42 (by decide) ?_
    refine zg_callVv hC hE hN (k := 29) (As := [.int 1, .int p1, .int 0]) (S := []) rfl (tX3_add (zflag hC) (d + 6) N 1 p1 0 M6) lkX7_72 rfl dX7_stand_43 zq29 zk29 rfl rfl (Nat.le_of_ble_eq_true rfl) (fun r7 M8 er7 => ?_)
    refine zg_aload_n hC 0 dX7_stand_46 rfl ?_
    refine zg_get hC (k := 0) (v := .ref (ad 1)) ffX7_10 dX7_stand_47 zq0 zk0 rfl ?_
    refine zg_get hC (k := 1) (v := .ref (ad 2)) ffX7_86 dX7_stand_50 zq1 zk1 rfl ?_
    refine zg_iload_n hC 1 dX7_stand_53 rfl ?_
    refine zg_iald hC (k := 2) dX7_stand_54 zq2 zk2 (fun h9 => ?_)
    exact zg_ret hC hE dX7_stand_55
  · exact zg_throw hC hE hN (by omega) txX7_94 ckX7_90 skX7_92 dX7_stand_18 dX7_stand_21 dX7_stand_22 dX7_stand_24 dX7_stand_27 (Nat.le_of_ble_eq_true rfl)
theorem tX7_stand {l : Launch} {Z : zZ} {ad : Nat → Nat} (hl : l.stackTraces = false) (d : Nat) (N : Nat) (p1 : Int32) (M : zMem) : zT l Z zfull ad (.code yX7_stand cX7_stand 2 (some .int)) yX7_stand (d + 7) false zbn [.ref (ad 0), .int p1] M (fX7_stand N p1 M) :=
  zT_of hl (by decide +kernel) (Nat.le_of_ble_eq_true rfl) (fun X hC hE hN => gX7_stand_B0 hC hE hN N p1 M)

def fX7_role (N : Nat) (p1 : Int32) (M : zMem) : zRES :=
  zb (fX7_checkBakery N p1 M) fun r1 M2 =>
  if zin p1 5 = true then
  some (.inl (M2.1 3 p1.toNatClampNeg), M2)
  else none
set_option maxRecDepth 20000 in
set_option maxHeartbeats 2000000 in
theorem gX7_role_B0 {l : Launch} {Z : zZ} {ad : Nat → Nat} {d : Nat} {X : zX} {cs : Nat × Nat} (hC : zC l Z zfull ad X RX7 cX7_role 2 (some .int) (d + 7)) (hE : zEnd Z zfull ad X false) (hN : zNoX X) (N : Nat) (p1 : Int32) (M : zMem) : zG l Z zfull ad X cs 0 [(0, .ref (ad 0)), (1, .int p1)] [] M (fX7_role N p1 M) := by
  unfold fX7_role
  refine zg_iload_n hC 1 dX7_role_0 rfl ?_
  refine zg_callSv hC hE hN (As := [.int p1]) (S := []) rfl (tX7_checkBakery (zflag hC) d N p1 M) lkX7_82 rfl dX7_role_1 (Nat.le_of_ble_eq_true rfl) (fun r1 M2 er1 => ?_)
  refine zg_aload_n hC 0 dX7_role_4 rfl ?_
  refine zg_get hC (k := 0) (v := .ref (ad 1)) ffX7_10 dX7_role_5 zq0 zk0 rfl ?_
  refine zg_get hC (k := 1) (v := .ref (ad 3)) ffX7_102 dX7_role_8 zq1 zk1 rfl ?_
  refine zg_iload_n hC 1 dX7_role_11 rfl ?_
  refine zg_iald hC (k := 3) dX7_role_12 zq3 zk3 (fun h3 => ?_)
  exact zg_ret hC hE dX7_role_13
theorem tX7_role {l : Launch} {Z : zZ} {ad : Nat → Nat} (hl : l.stackTraces = false) (d : Nat) (N : Nat) (p1 : Int32) (M : zMem) : zT l Z zfull ad (.code yX7_role cX7_role 2 (some .int)) yX7_role (d + 7) false zbn [.ref (ad 0), .int p1] M (fX7_role N p1 M) :=
  zT_of hl (by decide +kernel) (Nat.le_of_ble_eq_true rfl) (fun X hC hE hN => gX7_role_B0 hC hE hN N p1 M)

def fX7_term (N : Nat) (p1 : Int32) (M : zMem) : zRES :=
  zb (fX7_checkBakery N p1 M) fun r1 M2 =>
  if zin p1 5 = true then
  some (.inl (M2.1 2 p1.toNatClampNeg), M2)
  else none
set_option maxRecDepth 20000 in
set_option maxHeartbeats 2000000 in
theorem gX7_term_B0 {l : Launch} {Z : zZ} {ad : Nat → Nat} {d : Nat} {X : zX} {cs : Nat × Nat} (hC : zC l Z zfull ad X RX7 cX7_term 2 (some .int) (d + 7)) (hE : zEnd Z zfull ad X false) (hN : zNoX X) (N : Nat) (p1 : Int32) (M : zMem) : zG l Z zfull ad X cs 0 [(0, .ref (ad 0)), (1, .int p1)] [] M (fX7_term N p1 M) := by
  unfold fX7_term
  refine zg_iload_n hC 1 dX7_term_0 rfl ?_
  refine zg_callSv hC hE hN (As := [.int p1]) (S := []) rfl (tX7_checkBakery (zflag hC) d N p1 M) lkX7_82 rfl dX7_term_1 (Nat.le_of_ble_eq_true rfl) (fun r1 M2 er1 => ?_)
  refine zg_aload_n hC 0 dX7_term_4 rfl ?_
  refine zg_get hC (k := 0) (v := .ref (ad 1)) ffX7_10 dX7_term_5 zq0 zk0 rfl ?_
  refine zg_get hC (k := 1) (v := .ref (ad 2)) ffX7_86 dX7_term_8 zq1 zk1 rfl ?_
  refine zg_iload_n hC 1 dX7_term_11 rfl ?_
  refine zg_iald hC (k := 2) dX7_term_12 zq2 zk2 (fun h3 => ?_)
  exact zg_ret hC hE dX7_term_13
theorem tX7_term {l : Launch} {Z : zZ} {ad : Nat → Nat} (hl : l.stackTraces = false) (d : Nat) (N : Nat) (p1 : Int32) (M : zMem) : zT l Z zfull ad (.code yX7_term cX7_term 2 (some .int)) yX7_term (d + 7) false zbn [.ref (ad 0), .int p1] M (fX7_term N p1 M) :=
  zT_of hl (by decide +kernel) (Nat.le_of_ble_eq_true rfl) (fun X hC hE hN => gX7_term_B0 hC hE hN N p1 M)

def fX7_votedFor (N : Nat) (p1 : Int32) (M : zMem) : zRES :=
  zb (fX7_checkBakery N p1 M) fun r1 M2 =>
  if zin p1 5 = true then
  some (.inl (M2.1 4 p1.toNatClampNeg), M2)
  else none
set_option maxRecDepth 20000 in
set_option maxHeartbeats 2000000 in
theorem gX7_votedFor_B0 {l : Launch} {Z : zZ} {ad : Nat → Nat} {d : Nat} {X : zX} {cs : Nat × Nat} (hC : zC l Z zfull ad X RX7 cX7_votedFor 2 (some .int) (d + 7)) (hE : zEnd Z zfull ad X false) (hN : zNoX X) (N : Nat) (p1 : Int32) (M : zMem) : zG l Z zfull ad X cs 0 [(0, .ref (ad 0)), (1, .int p1)] [] M (fX7_votedFor N p1 M) := by
  unfold fX7_votedFor
  refine zg_iload_n hC 1 dX7_votedFor_0 rfl ?_
  refine zg_callSv hC hE hN (As := [.int p1]) (S := []) rfl (tX7_checkBakery (zflag hC) d N p1 M) lkX7_82 rfl dX7_votedFor_1 (Nat.le_of_ble_eq_true rfl) (fun r1 M2 er1 => ?_)
  refine zg_aload_n hC 0 dX7_votedFor_4 rfl ?_
  refine zg_get hC (k := 0) (v := .ref (ad 1)) ffX7_10 dX7_votedFor_5 zq0 zk0 rfl ?_
  refine zg_get hC (k := 1) (v := .ref (ad 4)) ffX7_151 dX7_votedFor_8 zq1 zk1 rfl ?_
  refine zg_iload_n hC 1 dX7_votedFor_11 rfl ?_
  refine zg_iald hC (k := 4) dX7_votedFor_12 zq4 zk4 (fun h3 => ?_)
  exact zg_ret hC hE dX7_votedFor_13
theorem tX7_votedFor {l : Launch} {Z : zZ} {ad : Nat → Nat} (hl : l.stackTraces = false) (d : Nat) (N : Nat) (p1 : Int32) (M : zMem) : zT l Z zfull ad (.code yX7_votedFor cX7_votedFor 2 (some .int)) yX7_votedFor (d + 7) false zbn [.ref (ad 0), .int p1] M (fX7_votedFor N p1 M) :=
  zT_of hl (by decide +kernel) (Nat.le_of_ble_eq_true rfl) (fun X hC hE hN => gX7_votedFor_B0 hC hE hN N p1 M)

def fX7_reach (N : Nat) (p1 : Int32) (p2 : Int32) (M : zMem) : zRES :=
  zb (fX7_checkBakery N p1 M) fun r1 M2 =>
  zb (fX7_checkBakery N p2 M2) fun r3 M4 =>
  zb (fX0_areTogether 1 N p1 p2 M4) fun r5 M6 =>
  if zbool r5 = true then some (.inl r5, M6) else none
set_option maxRecDepth 20000 in
set_option maxHeartbeats 2000000 in
theorem gX7_reach_B0 {l : Launch} {Z : zZ} {ad : Nat → Nat} {d : Nat} {X : zX} {cs : Nat × Nat} (hC : zC l Z zfull ad X RX7 cX7_reach 3 (some .boolean) (d + 7)) (hE : zEnd Z zfull ad X false) (hN : zNoX X) (N : Nat) (p1 : Int32) (p2 : Int32) (M : zMem) : zG l Z zfull ad X cs 0 [(0, .ref (ad 0)), (1, .int p1), (2, .int p2)] [] M (fX7_reach N p1 p2 M) := by
  unfold fX7_reach
  refine zg_iload_n hC 1 dX7_reach_0 rfl ?_
  refine zg_callSv hC hE hN (As := [.int p1]) (S := []) rfl (tX7_checkBakery (zflag hC) d N p1 M) lkX7_82 rfl dX7_reach_1 (Nat.le_of_ble_eq_true rfl) (fun r1 M2 er1 => ?_)
  refine zg_iload_n hC 2 dX7_reach_4 rfl ?_
  refine zg_callSv hC hE hN (As := [.int p2]) (S := []) rfl (tX7_checkBakery (zflag hC) d N p2 M2) lkX7_82 rfl dX7_reach_5 (Nat.le_of_ble_eq_true rfl) (fun r3 M4 er3 => ?_)
  refine zg_aload_n hC 0 dX7_reach_8 rfl ?_
  refine zg_get hC (k := 0) (v := .ref (ad 1)) ffX7_10 dX7_reach_9 zq0 zk0 rfl ?_
  refine zg_iload_n hC 1 dX7_reach_12 rfl ?_
  refine zg_iload_n hC 2 dX7_reach_13 rfl ?_
  refine zg_callVi hC hE hN (k := 1) (As := [.int p1, .int p2]) (S := []) rfl (tX0_areTogether (zflag hC) (d + 5) (Or.inl rfl) zqA1 N p1 p2 M4) lkX7_154 rfl dX7_reach_14 zq1 zk1 rfl rfl (Nat.le_of_ble_eq_true rfl) (fun r5 M6 er5 => ?_)
  exact zg_retb hC hE dX7_reach_17
theorem tX7_reach {l : Launch} {Z : zZ} {ad : Nat → Nat} (hl : l.stackTraces = false) (d : Nat) (N : Nat) (p1 : Int32) (p2 : Int32) (M : zMem) : zT l Z zfull ad (.code yX7_reach cX7_reach 3 (some .boolean)) yX7_reach (d + 7) false zbn [.ref (ad 0), .int p1, .int p2] M (fX7_reach N p1 p2 M) :=
  zT_of hl (by decide +kernel) (Nat.le_of_ble_eq_true rfl) (fun X hC hE hN => gX7_reach_B0 hC hE hN N p1 p2 M)

def fX7_entries (N : Nat) (p1 : Int32) (M : zMem) : zRES :=
  zb (fX7_checkBakery N p1 M) fun r1 M2 =>
  if zin p1 5 = true then
  some (.inl (M2.1 12 p1.toNatClampNeg), M2)
  else none
set_option maxRecDepth 20000 in
set_option maxHeartbeats 2000000 in
theorem gX7_entries_B0 {l : Launch} {Z : zZ} {ad : Nat → Nat} {d : Nat} {X : zX} {cs : Nat × Nat} (hC : zC l Z zfull ad X RX7 cX7_entries 2 (some .int) (d + 7)) (hE : zEnd Z zfull ad X false) (hN : zNoX X) (N : Nat) (p1 : Int32) (M : zMem) : zG l Z zfull ad X cs 0 [(0, .ref (ad 0)), (1, .int p1)] [] M (fX7_entries N p1 M) := by
  unfold fX7_entries
  refine zg_iload_n hC 1 dX7_entries_0 rfl ?_
  refine zg_callSv hC hE hN (As := [.int p1]) (S := []) rfl (tX7_checkBakery (zflag hC) d N p1 M) lkX7_82 rfl dX7_entries_1 (Nat.le_of_ble_eq_true rfl) (fun r1 M2 er1 => ?_)
  refine zg_aload_n hC 0 dX7_entries_4 rfl ?_
  refine zg_get hC (k := 0) (v := .ref (ad 1)) ffX7_10 dX7_entries_5 zq0 zk0 rfl ?_
  refine zg_get hC (k := 1) (v := .ref (ad 12)) ffX7_122 dX7_entries_8 zq1 zk1 rfl ?_
  refine zg_iload_n hC 1 dX7_entries_11 rfl ?_
  refine zg_iald hC (k := 12) dX7_entries_12 zq12 zk12 (fun h3 => ?_)
  exact zg_ret hC hE dX7_entries_13
theorem tX7_entries {l : Launch} {Z : zZ} {ad : Nat → Nat} (hl : l.stackTraces = false) (d : Nat) (N : Nat) (p1 : Int32) (M : zMem) : zT l Z zfull ad (.code yX7_entries cX7_entries 2 (some .int)) yX7_entries (d + 7) false zbn [.ref (ad 0), .int p1] M (fX7_entries N p1 M) :=
  zT_of hl (by decide +kernel) (Nat.le_of_ble_eq_true rfl) (fun X hC hE hN => gX7_entries_B0 hC hE hN N p1 M)

def fX7_versionAt (N : Nat) (p1 : Int32) (p2 : Int32) (M : zMem) : zRES :=
  zb (fX7_checkBakery N p1 M) fun r1 M2 =>
  if p2 < 0 then
    some (.inr 1, M2)
  else
    if zin p1 5 = true then
    if p2 < (M2.1 12 p1.toNatClampNeg) then
      if zin p1 5 = true then
      if zin p2 20 = true then
      some (.inl (M2.1 (6 + 1 + p1.toNatClampNeg) p2.toNatClampNeg), M2)
      else none
      else none
    else
      some (.inr 1, M2)
    else none
set_option maxRecDepth 20000 in
set_option maxHeartbeats 2000000 in
theorem gX7_versionAt_B0 {l : Launch} {Z : zZ} {ad : Nat → Nat} {d : Nat} {X : zX} (hC : zC l Z zfull ad X RX7 cX7_versionAt 3 (some .int) (d + 7)) (hE : zEnd Z zfull ad X false) (hN : zNoX X) (N : Nat) (p1 : Int32) (p2 : Int32) (M : zMem) : zG l Z zfull ad X (0, 0) 0 [(0, .ref (ad 0)), (1, .int p1), (2, .int p2)] [] M (fX7_versionAt N p1 p2 M) := by
  unfold fX7_versionAt
  refine zg_iload_n hC 1 dX7_versionAt_0 rfl ?_
  refine zg_callSv hC hE hN (As := [.int p1]) (S := []) rfl (tX7_checkBakery (zflag hC) d N p1 M) lkX7_82 rfl dX7_versionAt_1 (Nat.le_of_ble_eq_true rfl) (fun r1 M2 er1 => ?_)
  refine zg_iload_n hC 2 dX7_versionAt_4 rfl ?_
  refine zg_if_lt hC (tgt := 21) dX7_versionAt_5 (by decide) (fun c3 => ?_) (fun c3 => ?_)
  · exact zg_throw hC hE hN (by omega) txX7_161 ckX7_157 skX7_159 dX7_versionAt_21 dX7_versionAt_24 dX7_versionAt_25 dX7_versionAt_27 dX7_versionAt_30 (Nat.le_of_ble_eq_true rfl)
  · refine zg_iload_n hC 2 dX7_versionAt_8 rfl ?_
    refine zg_aload_n hC 0 dX7_versionAt_9 rfl ?_
    refine zg_get hC (k := 0) (v := .ref (ad 1)) ffX7_10 dX7_versionAt_10 zq0 zk0 rfl ?_
    refine zg_get hC (k := 1) (v := .ref (ad 12)) ffX7_122 dX7_versionAt_13 zq1 zk1 rfl ?_
    refine zg_iload_n hC 1 dX7_versionAt_16 rfl ?_
    refine zg_iald hC (k := 12) dX7_versionAt_17 zq12 zk12 (fun h4 => ?_)
    refine zg_icmp_lt hC (tgt := 31) dX7_versionAt_18 (by decide) (fun c5 => ?_) (fun c5 => ?_)
    · refine zg_aload_n hC 0 dX7_versionAt_31 rfl ?_
      refine zg_get hC (k := 0) (v := .ref (ad 1)) ffX7_10 dX7_versionAt_32 zq0 zk0 rfl ?_
      refine zg_get hC (k := 1) (v := .ref (ad 6)) ffX7_162 dX7_versionAt_35 zq1 zk1 rfl ?_
      refine zg_iload_n hC 1 dX7_versionAt_38 rfl ?_
      refine zg_aald hC (k := 6) dX7_versionAt_39 zq6 zk6 (fun h6 => ?_)
      refine zg_iload_n hC 2 dX7_versionAt_40 rfl ?_
      refine zg_iald hC (k := (6 + 1 + p1.toNatClampNeg)) dX7_versionAt_41 (zrq6 (zin_lt h6)) (zrk6 (zin_lt h6)) (fun h7 => ?_)
      exact zg_ret hC hE dX7_versionAt_42
    · exact zg_throw hC hE hN (by omega) txX7_161 ckX7_157 skX7_159 dX7_versionAt_21 dX7_versionAt_24 dX7_versionAt_25 dX7_versionAt_27 dX7_versionAt_30 (Nat.le_of_ble_eq_true rfl)
theorem tX7_versionAt {l : Launch} {Z : zZ} {ad : Nat → Nat} (hl : l.stackTraces = false) (d : Nat) (N : Nat) (p1 : Int32) (p2 : Int32) (M : zMem) : zT l Z zfull ad (.code yX7_versionAt cX7_versionAt 3 (some .int)) yX7_versionAt (d + 7) false zbn [.ref (ad 0), .int p1, .int p2] M (fX7_versionAt N p1 p2 M) :=
  zT_of hl (by decide +kernel) (Nat.le_of_ble_eq_true rfl) (fun X hC hE hN => gX7_versionAt_B0 hC hE hN N p1 p2 M)

def fX7_versions (N : Nat) (M : zMem) : zRES :=
  some (.inl (M.1 1 7), M)
set_option maxRecDepth 20000 in
set_option maxHeartbeats 2000000 in
theorem gX7_versions_B0 {l : Launch} {Z : zZ} {ad : Nat → Nat} {d : Nat} {X : zX} {cs : Nat × Nat} (hC : zC l Z zfull ad X RX7 cX7_versions 1 (some .int) (d + 0)) (hE : zEnd Z zfull ad X false) (hN : zNoX X) (N : Nat) (M : zMem) : zG l Z zfull ad X cs 0 [(0, .ref (ad 0))] [] M (fX7_versions N M) := by
  unfold fX7_versions
  refine zg_aload_n hC 0 dX7_versions_0 rfl ?_
  refine zg_get hC (k := 0) (v := .ref (ad 1)) ffX7_10 dX7_versions_1 zq0 zk0 rfl ?_
  refine zg_get hC (k := 1) (v := .int (M.1 1 7)) ffX7_125 dX7_versions_4 zq1 zk1 rfl ?_
  exact zg_ret hC hE dX7_versions_7
theorem tX7_versions {l : Launch} {Z : zZ} {ad : Nat → Nat} (hl : l.stackTraces = false) (d : Nat) (N : Nat) (M : zMem) : zT l Z zfull ad (.code yX7_versions cX7_versions 1 (some .int)) yX7_versions (d + 0) false zbn [.ref (ad 0)] M (fX7_versions N M) :=
  zT_of hl (by decide +kernel) (Nat.le_of_ble_eq_true rfl) (fun X hC hE hN => gX7_versions_B0 hC hE hN N M)

def fX7_checkVersion (N : Nat) (p1 : Int32) (M : zMem) : zRES :=
  if p1 < 0 then
    some (.inr 1, M)
  else
    if p1 < (M.1 1 7) then
      some (.inl 0, M)
    else
      some (.inr 1, M)
set_option maxRecDepth 20000 in
set_option maxHeartbeats 2000000 in
theorem gX7_checkVersion_B0 {l : Launch} {Z : zZ} {ad : Nat → Nat} {d : Nat} {X : zX} (hC : zC l Z zfull ad X RX7 cX7_checkVersion 2 none (d + 6)) (hE : zEnd Z zfull ad X true) (hN : zNoX X) (N : Nat) (p1 : Int32) (M : zMem) : zG l Z zfull ad X (0, 0) 0 [(0, .ref (ad 0)), (1, .int p1)] [] M (fX7_checkVersion N p1 M) := by
  unfold fX7_checkVersion
  refine zg_iload_n hC 1 dX7_checkVersion_0 rfl ?_
  refine zg_if_lt hC (tgt := 15) dX7_checkVersion_1 (by decide) (fun c1 => ?_) (fun c1 => ?_)
  · exact zg_throwW hC hE hN (by omega) txX7_161 ckX7_157 skX7_299 dX7_checkVersion_15 dX7_checkVersion_18 dX7_checkVersion_19 dX7_checkVersion_22 dX7_checkVersion_25 (Nat.le_of_ble_eq_true rfl)
  · refine zg_iload_n hC 1 dX7_checkVersion_4 rfl ?_
    refine zg_aload_n hC 0 dX7_checkVersion_5 rfl ?_
    refine zg_get hC (k := 0) (v := .ref (ad 1)) ffX7_10 dX7_checkVersion_6 zq0 zk0 rfl ?_
    refine zg_get hC (k := 1) (v := .int (M.1 1 7)) ffX7_125 dX7_checkVersion_9 zq1 zk1 rfl ?_
    refine zg_icmp_lt hC (tgt := 26) dX7_checkVersion_12 (by decide) (fun c2 => ?_) (fun c2 => ?_)
    · exact zg_retv hC hE dX7_checkVersion_26
    · exact zg_throwW hC hE hN (by omega) txX7_161 ckX7_157 skX7_299 dX7_checkVersion_15 dX7_checkVersion_18 dX7_checkVersion_19 dX7_checkVersion_22 dX7_checkVersion_25 (Nat.le_of_ble_eq_true rfl)
theorem tX7_checkVersion {l : Launch} {Z : zZ} {ad : Nat → Nat} (hl : l.stackTraces = false) (d : Nat) (N : Nat) (p1 : Int32) (M : zMem) : zT l Z zfull ad (.code yX7_checkVersion cX7_checkVersion 2 none) yX7_checkVersion (d + 6) true zbn [.ref (ad 0), .int p1] M (fX7_checkVersion N p1 M) :=
  zT_of hl (by decide +kernel) (Nat.le_of_ble_eq_true rfl) (fun X hC hE hN => gX7_checkVersion_B0 hC hE hN N p1 M)

def fX7_holders (N : Nat) (p1 : Int32) (M : zMem) : zRES :=
  zb (fX7_checkVersion N p1 M) fun r1 M2 =>
  if zin p1 60 = true then
  some (.inl (M2.1 14 p1.toNatClampNeg), M2)
  else none
set_option maxRecDepth 20000 in
set_option maxHeartbeats 2000000 in
theorem gX7_holders_B0 {l : Launch} {Z : zZ} {ad : Nat → Nat} {d : Nat} {X : zX} {cs : Nat × Nat} (hC : zC l Z zfull ad X RX7 cX7_holders 2 (some .int) (d + 7)) (hE : zEnd Z zfull ad X false) (hN : zNoX X) (N : Nat) (p1 : Int32) (M : zMem) : zG l Z zfull ad X cs 0 [(0, .ref (ad 0)), (1, .int p1)] [] M (fX7_holders N p1 M) := by
  unfold fX7_holders
  refine zg_aload_n hC 0 dX7_holders_0 rfl ?_
  refine zg_iload_n hC 1 dX7_holders_1 rfl ?_
  refine zg_callVv hC hE hN (k := 0) (As := [.int p1]) (S := []) rfl (tX7_checkVersion (zflag hC) d N p1 M) lkX7_166 rfl dX7_holders_2 zq0 zk0 rfl rfl (Nat.le_of_ble_eq_true rfl) (fun r1 M2 er1 => ?_)
  refine zg_aload_n hC 0 dX7_holders_5 rfl ?_
  refine zg_get hC (k := 0) (v := .ref (ad 1)) ffX7_10 dX7_holders_6 zq0 zk0 rfl ?_
  refine zg_get hC (k := 1) (v := .ref (ad 14)) ffX7_172 dX7_holders_9 zq1 zk1 rfl ?_
  refine zg_iload_n hC 1 dX7_holders_12 rfl ?_
  refine zg_iald hC (k := 14) dX7_holders_13 zq14 zk14 (fun h3 => ?_)
  exact zg_ret hC hE dX7_holders_14
theorem tX7_holders {l : Launch} {Z : zZ} {ad : Nat → Nat} (hl : l.stackTraces = false) (d : Nat) (N : Nat) (p1 : Int32) (M : zMem) : zT l Z zfull ad (.code yX7_holders cX7_holders 2 (some .int)) yX7_holders (d + 7) false zbn [.ref (ad 0), .int p1] M (fX7_holders N p1 M) :=
  zT_of hl (by decide +kernel) (Nat.le_of_ble_eq_true rfl) (fun X hC hE hN => gX7_holders_B0 hC hE hN N p1 M)

def fX7_isHeld (N : Nat) (p1 : Int32) (M : zMem) : zRES :=
  zb (fX7_checkVersion N p1 M) fun r1 M2 =>
  zb (fX7_contains N (M2.2 1 10) p1 M2) fun r3 M4 =>
  if zbool r3 = true then some (.inl r3, M4) else none
set_option maxRecDepth 20000 in
set_option maxHeartbeats 2000000 in
theorem gX7_isHeld_B0 {l : Launch} {Z : zZ} {ad : Nat → Nat} {d : Nat} {X : zX} {cs : Nat × Nat} (hC : zC l Z zfull ad X RX7 cX7_isHeld 2 (some .boolean) (d + 7)) (hE : zEnd Z zfull ad X false) (hN : zNoX X) (N : Nat) (p1 : Int32) (M : zMem) : zG l Z zfull ad X cs 0 [(0, .ref (ad 0)), (1, .int p1)] [] M (fX7_isHeld N p1 M) := by
  unfold fX7_isHeld
  refine zg_aload_n hC 0 dX7_isHeld_0 rfl ?_
  refine zg_iload_n hC 1 dX7_isHeld_1 rfl ?_
  refine zg_callVv hC hE hN (k := 0) (As := [.int p1]) (S := []) rfl (tX7_checkVersion (zflag hC) d N p1 M) lkX7_166 rfl dX7_isHeld_2 zq0 zk0 rfl rfl (Nat.le_of_ble_eq_true rfl) (fun r1 M2 er1 => ?_)
  refine zg_aload_n hC 0 dX7_isHeld_5 rfl ?_
  refine zg_get hC (k := 0) (v := .ref (ad 1)) ffX7_10 dX7_isHeld_6 zq0 zk0 rfl ?_
  refine zg_get hC (k := 1) (v := .long (M2.2 1 10)) ffX7_137 dX7_isHeld_9 zq1 zk1 rfl ?_
  refine zg_iload_n hC 1 dX7_isHeld_12 rfl ?_
  refine zg_callSi hC hE hN (As := [.long (M2.2 1 10), .int p1]) (S := []) rfl (tX7_contains (zflag hC) (d + 6) N (M2.2 1 10) p1 M2) lkX7_175 rfl dX7_isHeld_13 (Nat.le_of_ble_eq_true rfl) (fun r3 M4 er3 => ?_)
  exact zg_retb hC hE dX7_isHeld_16
theorem tX7_isHeld {l : Launch} {Z : zZ} {ad : Nat → Nat} (hl : l.stackTraces = false) (d : Nat) (N : Nat) (p1 : Int32) (M : zMem) : zT l Z zfull ad (.code yX7_isHeld cX7_isHeld 2 (some .boolean)) yX7_isHeld (d + 7) false zbn [.ref (ad 0), .int p1] M (fX7_isHeld N p1 M) :=
  zT_of hl (by decide +kernel) (Nat.le_of_ble_eq_true rfl) (fun X hC hE hN => gX7_isHeld_B0 hC hE hN N p1 M)

def fX7_checkRecipe (N : Nat) (p1 : Int32) (M : zMem) : zRES :=
  if p1 < 0 then
    some (.inr 1, M)
  else
    if p1 < 6 then
      some (.inl 0, M)
    else
      some (.inr 1, M)
set_option maxRecDepth 20000 in
set_option maxHeartbeats 2000000 in
theorem gX7_checkRecipe_B0 {l : Launch} {Z : zZ} {lv : Nat → Bool} {ad : Nat → Nat} {d : Nat} {X : zX} (hC : zC l Z lv ad X RX7 cX7_checkRecipe 1 none (d + 6)) (hE : zEnd Z lv ad X true) (hN : zNoX X) (N : Nat) (p1 : Int32) (M : zMem) : zG l Z lv ad X (0, 0) 0 [(0, .int p1)] [] M (fX7_checkRecipe N p1 M) := by
  unfold fX7_checkRecipe
  refine zg_iload_n hC 0 dX7_checkRecipe_0 rfl ?_
  refine zg_if_lt hC (tgt := 10) dX7_checkRecipe_1 (by decide) (fun c1 => ?_) (fun c1 => ?_)
  · exact zg_throwW hC hE hN (by omega) txX7_161 ckX7_157 skX7_297 dX7_checkRecipe_10 dX7_checkRecipe_13 dX7_checkRecipe_14 dX7_checkRecipe_17 dX7_checkRecipe_20 (Nat.le_of_ble_eq_true rfl)
  · refine zg_iload_n hC 0 dX7_checkRecipe_4 rfl ?_
    refine zg_bipush hC (v := 6) dX7_checkRecipe_5 (by decide) ?_
    refine zg_icmp_lt hC (tgt := 21) dX7_checkRecipe_7 (by decide) (fun c2 => ?_) (fun c2 => ?_)
    · exact zg_retv hC hE dX7_checkRecipe_21
    · exact zg_throwW hC hE hN (by omega) txX7_161 ckX7_157 skX7_297 dX7_checkRecipe_10 dX7_checkRecipe_13 dX7_checkRecipe_14 dX7_checkRecipe_17 dX7_checkRecipe_20 (Nat.le_of_ble_eq_true rfl)
theorem tX7_checkRecipe {l : Launch} {Z : zZ} {lv : Nat → Bool} {ad : Nat → Nat} (hl : l.stackTraces = false) (d : Nat) (N : Nat) (p1 : Int32) (M : zMem) : zT l Z lv ad (.code yX7_checkRecipe cX7_checkRecipe 1 none) yX7_checkRecipe (d + 6) true zbn [.int p1] M (fX7_checkRecipe N p1 M) :=
  zT_of hl (by decide +kernel) (Nat.le_of_ble_eq_true rfl) (fun X hC hE hN => gX7_checkRecipe_B0 hC hE hN N p1 M)

def fX7_findCurrent_B61 (N : Nat) (again12 : Int32 → Int32 → Int32 → zMem → zRES) (v1 : Int32) (v2 : Int32) (v3 : Int32) (M : zMem) : zRES :=
  again12 v1 v2 (v3 + (-1)) M
def fX7_findCurrent_B12 (N : Nat) : Nat → Int32 → Int32 → Int32 → zMem → zRES
  | 0, _, _, _, _ => none
  | n + 1, v1, v2, v3, M =>
  if v3 < 0 then
    some (.inl (-1), M)
  else
    if zin v1 5 = true then
    if zin v3 20 = true then
    zv (M.1 (6 + 1 + v1.toNatClampNeg) v3.toNatClampNeg) fun x6 =>
    if zin x6 60 = true then
    if (M.1 34 x6.toNatClampNeg) = v2 then
      zb (fX7_contains N (M.2 1 10) x6 M) fun r9 M10 =>
      if r9 = 0 then
        fX7_findCurrent_B61 N (fX7_findCurrent_B12 N n) v1 v2 v3 M10
      else
        some (.inl x6, M10)
    else
      fX7_findCurrent_B61 N (fX7_findCurrent_B12 N n) v1 v2 v3 M
    else none
    else none
    else none
def fX7_findCurrent (N : Nat) (p1 : Int32) (p2 : Int32) (M : zMem) : zRES :=
  if zin p1 5 = true then
  zv ((M.1 12 p1.toNatClampNeg) - 1) fun x2 =>
  fX7_findCurrent_B12 N N p1 p2 x2 M
  else none
set_option maxRecDepth 20000 in
set_option maxHeartbeats 2000000 in
theorem gX7_findCurrent_B61 {l : Launch} {Z : zZ} {ad : Nat → Nat} {d : Nat} {X : zX} {cs : Nat × Nat} (hC : zC l Z zfull ad X RX7 cX7_findCurrent 5 (some .int) (d + 1)) (hE : zEnd Z zfull ad X false) (hN : zNoX X) (N : Nat) {again12 : Int32 → Int32 → Int32 → zMem → zRES} (hag12 : ∀ v1 v2 v3 M, zG l Z zfull ad X cs 12 [(0, .ref (ad 0)), (1, .int v1), (2, .int v2), (3, .int v3)] [] M (again12 v1 v2 v3 M)) (v1 : Int32) (v2 : Int32) (v3 : Int32) (M : zMem) : zG l Z zfull ad X cs 61 [(0, .ref (ad 0)), (1, .int v1), (2, .int v2), (3, .int v3)] [] M (fX7_findCurrent_B61 N again12 v1 v2 v3 M) := by
  unfold fX7_findCurrent_B61
  refine zg_iinc hC 3 (v := v3 + (-1)) (L' := [(3, _), (0, _), (1, _), (2, _)]) dX7_findCurrent_61 rfl (by rfl) (by decide) rfl ?_
  refine zg_goto hC (tgt := 12) dX7_findCurrent_64 (by decide) ?_
  exact zg_sub [1, 2, 3, 0] rfl (hag12 v1 v2 (v3 + (-1)) M)
set_option maxRecDepth 20000 in
set_option maxHeartbeats 2000000 in
theorem gX7_findCurrent_B12 {l : Launch} {Z : zZ} {ad : Nat → Nat} {d : Nat} {X : zX} {cs : Nat × Nat} (hC : zC l Z zfull ad X RX7 cX7_findCurrent 5 (some .int) (d + 1)) (hE : zEnd Z zfull ad X false) (hN : zNoX X) (N : Nat) : ∀ (n : Nat) (v1 : Int32) (v2 : Int32) (v3 : Int32) (M : zMem), zG l Z zfull ad X cs 12 [(0, .ref (ad 0)), (1, .int v1), (2, .int v2), (3, .int v3)] [] M (fX7_findCurrent_B12 N n v1 v2 v3 M) := by
  intro n
  induction n with
  | zero =>
    intro v1 v2 v3 M
    exact zg_none
  | succ n ih =>
  intro v1 v2 v3 M
  rw [fX7_findCurrent_B12]
  refine zg_iload_n hC 3 dX7_findCurrent_12 rfl ?_
  refine zg_if_lt hC (tgt := 67) dX7_findCurrent_13 (by decide) (fun c3 => ?_) (fun c3 => ?_)
  · refine zg_iconst hC (v := (-1)) dX7_findCurrent_67 (by decide) ?_
    exact zg_ret hC hE dX7_findCurrent_68
  · refine zg_aload_n hC 0 dX7_findCurrent_16 rfl ?_
    refine zg_get hC (k := 0) (v := .ref (ad 1)) ffX7_10 dX7_findCurrent_17 zq0 zk0 rfl ?_
    refine zg_get hC (k := 1) (v := .ref (ad 6)) ffX7_162 dX7_findCurrent_20 zq1 zk1 rfl ?_
    refine zg_iload_n hC 1 dX7_findCurrent_23 rfl ?_
    refine zg_aald hC (k := 6) dX7_findCurrent_24 zq6 zk6 (fun h4 => ?_)
    refine zg_iload_n hC 3 dX7_findCurrent_25 rfl ?_
    refine zg_iald hC (k := (6 + 1 + v1.toNatClampNeg)) dX7_findCurrent_26 (zrq6 (zin_lt h4)) (zrk6 (zin_lt h4)) (fun h5 => ?_)
    refine zg_nm (fun x6 ex6 => ?_)
    refine zg_istore hC (L' := [(4, _), (0, _), (1, _), (2, _), (3, _)]) dX7_findCurrent_27 (by decide) rfl ?_
    refine zg_aload_n hC 1 dX7_findCurrent_29 rfl ?_
    refine zg_get hC (k := 0) (v := .ref (ad 33)) ffX7_29 dX7_findCurrent_30 zq0 zk0 rfl ?_
    refine zg_get hC (k := 33) (v := .ref (ad 34)) ffX7_227 dX7_findCurrent_33 zq33 zk33 rfl ?_
    refine zg_iload hC 0 dX7_findCurrent_36 rfl ?_
    refine zg_iald hC (k := 34) dX7_findCurrent_38 zq34 zk34 (fun h7 => ?_)
    refine zg_iload_n hC 3 dX7_findCurrent_39 rfl ?_
    refine zg_icmp_ne hC (tgt := 61) dX7_findCurrent_40 (by decide) (fun c8 => ?_) (fun c8 => ?_)
    · refine zg_aload_n hC 1 dX7_findCurrent_43 rfl ?_
      refine zg_get hC (k := 0) (v := .ref (ad 1)) ffX7_10 dX7_findCurrent_44 zq0 zk0 rfl ?_
      refine zg_get hC (k := 1) (v := .long (M.2 1 10)) ffX7_137 dX7_findCurrent_47 zq1 zk1 rfl ?_
      refine zg_iload hC 0 dX7_findCurrent_50 rfl ?_
      refine zg_callSi hC hE hN (As := [.long (M.2 1 10), .int x6]) (S := []) rfl (tX7_contains (zflag hC) d N (M.2 1 10) x6 M) lkX7_175 rfl dX7_findCurrent_52 (Nat.le_of_ble_eq_true rfl) (fun r9 M10 er9 => ?_)
      refine zg_if_eq hC (tgt := 61) dX7_findCurrent_55 (by decide) (fun c11 => ?_) (fun c11 => ?_)
      · exact zg_sub [1, 2, 3, 4] rfl (gX7_findCurrent_B61 hC hE hN N ih v1 v2 v3 M10)
      · refine zg_iload hC 0 dX7_findCurrent_58 rfl ?_
        exact zg_ret hC hE dX7_findCurrent_60
    · exact zg_sub [1, 2, 3, 4] rfl (gX7_findCurrent_B61 hC hE hN N ih v1 v2 v3 M)
set_option maxRecDepth 20000 in
set_option maxHeartbeats 2000000 in
theorem gX7_findCurrent_B0 {l : Launch} {Z : zZ} {ad : Nat → Nat} {d : Nat} {X : zX} {cs : Nat × Nat} (hC : zC l Z zfull ad X RX7 cX7_findCurrent 5 (some .int) (d + 1)) (hE : zEnd Z zfull ad X false) (hN : zNoX X) (N : Nat) (p1 : Int32) (p2 : Int32) (M : zMem) : zG l Z zfull ad X cs 0 [(0, .ref (ad 0)), (1, .int p1), (2, .int p2)] [] M (fX7_findCurrent N p1 p2 M) := by
  unfold fX7_findCurrent
  refine zg_aload_n hC 0 dX7_findCurrent_0 rfl ?_
  refine zg_get hC (k := 0) (v := .ref (ad 1)) ffX7_10 dX7_findCurrent_1 zq0 zk0 rfl ?_
  refine zg_get hC (k := 1) (v := .ref (ad 12)) ffX7_122 dX7_findCurrent_4 zq1 zk1 rfl ?_
  refine zg_iload_n hC 1 dX7_findCurrent_7 rfl ?_
  refine zg_iald hC (k := 12) dX7_findCurrent_8 zq12 zk12 (fun h1 => ?_)
  refine zg_iconst hC (v := 1) dX7_findCurrent_9 (by decide) ?_
  refine zg_isub hC dX7_findCurrent_10 ?_
  refine zg_nm (fun x2 ex2 => ?_)
  refine zg_istore_n hC (L' := [(3, _), (0, _), (1, _), (2, _)]) dX7_findCurrent_11 (by decide) rfl ?_
  exact zg_sub [1, 2, 3, 0] rfl (gX7_findCurrent_B12 hC hE hN N N p1 p2 x2 M)
theorem tX7_findCurrent {l : Launch} {Z : zZ} {ad : Nat → Nat} (hl : l.stackTraces = false) (d : Nat) (N : Nat) (p1 : Int32) (p2 : Int32) (M : zMem) : zT l Z zfull ad (.code yX7_findCurrent cX7_findCurrent 5 (some .int)) yX7_findCurrent (d + 1) false zbn [.ref (ad 0), .int p1, .int p2] M (fX7_findCurrent N p1 p2 M) :=
  zT_of hl (by decide +kernel) (Nat.le_of_ble_eq_true rfl) (fun X hC hE hN => gX7_findCurrent_B0 hC hE hN N p1 p2 M)

def fX7_current (N : Nat) (p1 : Int32) (p2 : Int32) (M : zMem) : zRES :=
  zb (fX7_checkBakery N p1 M) fun r1 M2 =>
  zb (fX7_checkRecipe N p2 M2) fun r3 M4 =>
  zb (fX7_findCurrent N p1 p2 M4) fun r5 M6 =>
  some (.inl r5, M6)
set_option maxRecDepth 20000 in
set_option maxHeartbeats 2000000 in
theorem gX7_current_B0 {l : Launch} {Z : zZ} {ad : Nat → Nat} {d : Nat} {X : zX} {cs : Nat × Nat} (hC : zC l Z zfull ad X RX7 cX7_current 3 (some .int) (d + 7)) (hE : zEnd Z zfull ad X false) (hN : zNoX X) (N : Nat) (p1 : Int32) (p2 : Int32) (M : zMem) : zG l Z zfull ad X cs 0 [(0, .ref (ad 0)), (1, .int p1), (2, .int p2)] [] M (fX7_current N p1 p2 M) := by
  unfold fX7_current
  refine zg_iload_n hC 1 dX7_current_0 rfl ?_
  refine zg_callSv hC hE hN (As := [.int p1]) (S := []) rfl (tX7_checkBakery (zflag hC) d N p1 M) lkX7_82 rfl dX7_current_1 (Nat.le_of_ble_eq_true rfl) (fun r1 M2 er1 => ?_)
  refine zg_iload_n hC 2 dX7_current_4 rfl ?_
  refine zg_callSv hC hE hN (As := [.int p2]) (S := []) rfl (tX7_checkRecipe (zflag hC) d N p2 M2) lkX7_114 rfl dX7_current_5 (Nat.le_of_ble_eq_true rfl) (fun r3 M4 er3 => ?_)
  refine zg_aload_n hC 0 dX7_current_8 rfl ?_
  refine zg_iload_n hC 1 dX7_current_9 rfl ?_
  refine zg_iload_n hC 2 dX7_current_10 rfl ?_
  refine zg_callVi hC hE hN (k := 0) (As := [.int p1, .int p2]) (S := []) rfl (tX7_findCurrent (zflag hC) (d + 5) N p1 p2 M4) lkX7_182 rfl dX7_current_11 zq0 zk0 rfl rfl (Nat.le_of_ble_eq_true rfl) (fun r5 M6 er5 => ?_)
  exact zg_ret hC hE dX7_current_14
theorem tX7_current {l : Launch} {Z : zZ} {ad : Nat → Nat} (hl : l.stackTraces = false) (d : Nat) (N : Nat) (p1 : Int32) (p2 : Int32) (M : zMem) : zT l Z zfull ad (.code yX7_current cX7_current 3 (some .int)) yX7_current (d + 7) false zbn [.ref (ad 0), .int p1, .int p2] M (fX7_current N p1 p2 M) :=
  zT_of hl (by decide +kernel) (Nat.le_of_ble_eq_true rfl) (fun X hC hE hN => gX7_current_B0 hC hE hN N p1 p2 M)

def fX7_addLot (N : Nat) (M : zMem) : zRES :=
  if (M.1 37 0) < 16 then
    zl (zsI M 37 0 ((M.1 37 0) + 1)) fun M2 =>
    some (.inl ((M2.1 37 0) - 1), M2)
  else
    some (.inr 3, M)
set_option maxRecDepth 20000 in
set_option maxHeartbeats 2000000 in
theorem gX7_addLot_B0 {l : Launch} {Z : zZ} {ad : Nat → Nat} {d : Nat} {X : zX} (hC : zC l Z zfull ad X RX7 cX7_addLot 1 (some .int) (d + 6)) (hE : zEnd Z zfull ad X false) (hN : zNoX X) (N : Nat) (M : zMem) : zG l Z zfull ad X (0, 0) 0 [(0, .ref (ad 0))] [] M (fX7_addLot N M) := by
  unfold fX7_addLot
  refine zg_aload_n hC 0 dX7_addLot_0 rfl ?_
  refine zg_get hC (k := 0) (v := .ref (ad 37)) ffX7_36 dX7_addLot_1 zq0 zk0 rfl ?_
  refine zg_get hC (k := 37) (v := .int (M.1 37 0)) ffX7_185 dX7_addLot_4 zq37 zk37 rfl ?_
  refine zg_bipush hC (v := 16) dX7_addLot_7 (by decide) ?_
  refine zg_icmp_lt hC (tgt := 22) dX7_addLot_9 (by decide) (fun c1 => ?_) (fun c1 => ?_)
  · refine zg_aload_n hC 0 dX7_addLot_22 rfl ?_
    refine zg_get hC (k := 0) (v := .ref (ad 37)) ffX7_36 dX7_addLot_23 zq0 zk0 rfl ?_
    refine zg_dup hC dX7_addLot_26 rfl ?_
    refine zg_get hC (k := 37) (v := .int (M.1 37 0)) ffX7_185 dX7_addLot_27 zq37 zk37 rfl ?_
    refine zg_iconst hC (v := 1) dX7_addLot_30 (by decide) ?_
    refine zg_iadd hC dX7_addLot_31 ?_
    refine zg_putI hC (k := 37) fpX7_185 dX7_addLot_32 zq37 zk37 rfl (fun M2 eM2 => ?_)
    refine zg_aload_n hC 0 dX7_addLot_35 rfl ?_
    refine zg_get hC (k := 0) (v := .ref (ad 37)) ffX7_36 dX7_addLot_36 zq0 zk0 rfl ?_
    refine zg_get hC (k := 37) (v := .int (M2.1 37 0)) ffX7_185 dX7_addLot_39 zq37 zk37 rfl ?_
    refine zg_iconst hC (v := 1) dX7_addLot_42 (by decide) ?_
    refine zg_isub hC dX7_addLot_43 ?_
    exact zg_ret hC hE dX7_addLot_44
  · exact zg_throw hC hE hN (by omega) txX7_94 ckX7_90 skX7_188 dX7_addLot_12 dX7_addLot_15 dX7_addLot_16 dX7_addLot_18 dX7_addLot_21 (Nat.le_of_ble_eq_true rfl)
theorem tX7_addLot {l : Launch} {Z : zZ} {ad : Nat → Nat} (hl : l.stackTraces = false) (d : Nat) (N : Nat) (M : zMem) : zT l Z zfull ad (.code yX7_addLot cX7_addLot 1 (some .int)) yX7_addLot (d + 6) false zbn [.ref (ad 0)] M (fX7_addLot N M) :=
  zT_of hl (by decide +kernel) (Nat.le_of_ble_eq_true rfl) (fun X hC hE hN => gX7_addLot_B0 hC hE hN N M)

def fX7_store (N : Nat) (p1 : Int32) (M : zMem) : zRES :=
  zb (fX7_checkBakery N p1 M) fun r1 M2 =>
  if zin p1 5 = true then
  some (.inl (M2.1 44 p1.toNatClampNeg), M2)
  else none
set_option maxRecDepth 20000 in
set_option maxHeartbeats 2000000 in
theorem gX7_store_B0 {l : Launch} {Z : zZ} {ad : Nat → Nat} {d : Nat} {X : zX} {cs : Nat × Nat} (hC : zC l Z zfull ad X RX7 cX7_store 2 (some .int) (d + 7)) (hE : zEnd Z zfull ad X false) (hN : zNoX X) (N : Nat) (p1 : Int32) (M : zMem) : zG l Z zfull ad X cs 0 [(0, .ref (ad 0)), (1, .int p1)] [] M (fX7_store N p1 M) := by
  unfold fX7_store
  refine zg_iload_n hC 1 dX7_store_0 rfl ?_
  refine zg_callSv hC hE hN (As := [.int p1]) (S := []) rfl (tX7_checkBakery (zflag hC) d N p1 M) lkX7_82 rfl dX7_store_1 (Nat.le_of_ble_eq_true rfl) (fun r1 M2 er1 => ?_)
  refine zg_aload_n hC 0 dX7_store_4 rfl ?_
  refine zg_get hC (k := 0) (v := .ref (ad 37)) ffX7_36 dX7_store_5 zq0 zk0 rfl ?_
  refine zg_get hC (k := 37) (v := .ref (ad 44)) ffX7_198 dX7_store_8 zq37 zk37 rfl ?_
  refine zg_iload_n hC 1 dX7_store_11 rfl ?_
  refine zg_iald hC (k := 44) dX7_store_12 zq44 zk44 (fun h3 => ?_)
  exact zg_ret hC hE dX7_store_13
theorem tX7_store {l : Launch} {Z : zZ} {ad : Nat → Nat} (hl : l.stackTraces = false) (d : Nat) (N : Nat) (p1 : Int32) (M : zMem) : zT l Z zfull ad (.code yX7_store cX7_store 2 (some .int)) yX7_store (d + 7) false zbn [.ref (ad 0), .int p1] M (fX7_store N p1 M) :=
  zT_of hl (by decide +kernel) (Nat.le_of_ble_eq_true rfl) (fun X hC hE hN => gX7_store_B0 hC hE hN N p1 M)

def fX7_checkHour (N : Nat) (p1 : Int32) (M : zMem) : zRES :=
  if p1 < (M.1 45 0) then
    some (.inr 2, M)
  else
    if p1 ≤ ((M.1 45 0) + 50) then
      some (.inl 0, M)
    else
      some (.inr 2, M)
set_option maxRecDepth 20000 in
set_option maxHeartbeats 2000000 in
theorem gX7_checkHour_B0 {l : Launch} {Z : zZ} {ad : Nat → Nat} {d : Nat} {X : zX} (hC : zC l Z zfull ad X RX7 cX7_checkHour 2 none (d + 6)) (hE : zEnd Z zfull ad X true) (hN : zNoX X) (N : Nat) (p1 : Int32) (M : zMem) : zG l Z zfull ad X (0, 0) 0 [(0, .ref (ad 0)), (1, .int p1)] [] M (fX7_checkHour N p1 M) := by
  unfold fX7_checkHour
  refine zg_iload_n hC 1 dX7_checkHour_0 rfl ?_
  refine zg_aload_n hC 0 dX7_checkHour_1 rfl ?_
  refine zg_get hC (k := 0) (v := .ref (ad 45)) ffX7_43 dX7_checkHour_2 zq0 zk0 rfl ?_
  refine zg_get hC (k := 45) (v := .int (M.1 45 0)) ffX7_233 dX7_checkHour_5 zq45 zk45 rfl ?_
  refine zg_icmp_lt hC (tgt := 25) dX7_checkHour_8 (by decide) (fun c1 => ?_) (fun c1 => ?_)
  · exact zg_throwW hC hE hN (by omega) txX7_65 ckX7_61 skX7_308 dX7_checkHour_25 dX7_checkHour_28 dX7_checkHour_29 dX7_checkHour_32 dX7_checkHour_35 (Nat.le_of_ble_eq_true rfl)
  · refine zg_iload_n hC 1 dX7_checkHour_11 rfl ?_
    refine zg_aload_n hC 0 dX7_checkHour_12 rfl ?_
    refine zg_get hC (k := 0) (v := .ref (ad 45)) ffX7_43 dX7_checkHour_13 zq0 zk0 rfl ?_
    refine zg_get hC (k := 45) (v := .int (M.1 45 0)) ffX7_233 dX7_checkHour_16 zq45 zk45 rfl ?_
    refine zg_bipush hC (v := 50) dX7_checkHour_19 (by decide) ?_
    refine zg_iadd hC dX7_checkHour_21 ?_
    refine zg_icmp_le hC (tgt := 36) dX7_checkHour_22 (by decide) (fun c2 => ?_) (fun c2 => ?_)
    · exact zg_retv hC hE dX7_checkHour_36
    · exact zg_throwW hC hE hN (by omega) txX7_65 ckX7_61 skX7_308 dX7_checkHour_25 dX7_checkHour_28 dX7_checkHour_29 dX7_checkHour_32 dX7_checkHour_35 (Nat.le_of_ble_eq_true rfl)
theorem tX7_checkHour {l : Launch} {Z : zZ} {ad : Nat → Nat} (hl : l.stackTraces = false) (d : Nat) (N : Nat) (p1 : Int32) (M : zMem) : zT l Z zfull ad (.code yX7_checkHour cX7_checkHour 2 none) yX7_checkHour (d + 6) true zbn [.ref (ad 0), .int p1] M (fX7_checkHour N p1 M) :=
  zT_of hl (by decide +kernel) (Nat.le_of_ble_eq_true rfl) (fun X hC hE hN => gX7_checkHour_B0 hC hE hN N p1 M)

def fX7_booked (N : Nat) (p1 : Int32) (p2 : Int32) (M : zMem) : zRES :=
  zb (fX7_checkBakery N p1 M) fun r1 M2 =>
  zb (fX7_checkHour N p2 M2) fun r3 M4 =>
  zb (fX4_slotAt N p1 p2 M4) fun r5 M6 =>
  some (.inl r5, M6)
set_option maxRecDepth 20000 in
set_option maxHeartbeats 2000000 in
theorem gX7_booked_B0 {l : Launch} {Z : zZ} {ad : Nat → Nat} {d : Nat} {X : zX} {cs : Nat × Nat} (hC : zC l Z zfull ad X RX7 cX7_booked 3 (some .int) (d + 7)) (hE : zEnd Z zfull ad X false) (hN : zNoX X) (N : Nat) (p1 : Int32) (p2 : Int32) (M : zMem) : zG l Z zfull ad X cs 0 [(0, .ref (ad 0)), (1, .int p1), (2, .int p2)] [] M (fX7_booked N p1 p2 M) := by
  unfold fX7_booked
  refine zg_iload_n hC 1 dX7_booked_0 rfl ?_
  refine zg_callSv hC hE hN (As := [.int p1]) (S := []) rfl (tX7_checkBakery (zflag hC) d N p1 M) lkX7_82 rfl dX7_booked_1 (Nat.le_of_ble_eq_true rfl) (fun r1 M2 er1 => ?_)
  refine zg_aload_n hC 0 dX7_booked_4 rfl ?_
  refine zg_iload_n hC 2 dX7_booked_5 rfl ?_
  refine zg_callVv hC hE hN (k := 0) (As := [.int p2]) (S := []) rfl (tX7_checkHour (zflag hC) d N p2 M2) lkX7_212 rfl dX7_booked_6 zq0 zk0 rfl rfl (Nat.le_of_ble_eq_true rfl) (fun r3 M4 er3 => ?_)
  refine zg_aload_n hC 0 dX7_booked_9 rfl ?_
  refine zg_get hC (k := 0) (v := .ref (ad 45)) ffX7_43 dX7_booked_10 zq0 zk0 rfl ?_
  refine zg_iload_n hC 1 dX7_booked_13 rfl ?_
  refine zg_iload_n hC 2 dX7_booked_14 rfl ?_
  refine zg_callVi hC hE hN (k := 45) (As := [.int p1, .int p2]) (S := []) rfl (tX4_slotAt (zflag hC) (d + 6) N p1 p2 M4) lkX7_215 rfl dX7_booked_15 zq45 zk45 rfl rfl (Nat.le_of_ble_eq_true rfl) (fun r5 M6 er5 => ?_)
  exact zg_ret hC hE dX7_booked_18
theorem tX7_booked {l : Launch} {Z : zZ} {ad : Nat → Nat} (hl : l.stackTraces = false) (d : Nat) (N : Nat) (p1 : Int32) (p2 : Int32) (M : zMem) : zT l Z zfull ad (.code yX7_booked cX7_booked 3 (some .int)) yX7_booked (d + 7) false zbn [.ref (ad 0), .int p1, .int p2] M (fX7_booked N p1 p2 M) :=
  zT_of hl (by decide +kernel) (Nat.le_of_ble_eq_true rfl) (fun X hC hE hN => gX7_booked_B0 hC hE hN N p1 p2 M)

def fX7_stopped_B60 (N : Nat) (again4 : Int32 → Int32 → zMem → zRES) (again11 : Int32 → Int32 → Int32 → zMem → zRES) (v1 : Int32) (v2 : Int32) (v3 : Int32) (M : zMem) : zRES :=
  again11 v1 v2 (v3 + 1) M
def fX7_stopped_B11 (N : Nat) (again4 : Int32 → Int32 → zMem → zRES) : Nat → Int32 → Int32 → Int32 → zMem → zRES
  | 0, _, _, _, _ => none
  | n + 1, v1, v2, v3, M =>
  if (50 : Int32) < v3 then
    again4 v1 (v2 + 1) M
  else
    zb (fX4_slotAt N v2 ((M.1 45 0) + v3) M) fun r3 M4 =>
    if r3 = (-1) then
      fX7_stopped_B60 N again4 (fX7_stopped_B11 N again4 n) v1 v2 v3 M4
    else
      zb (fX7_contains N (M4.2 1 10) r3 M4) fun r6 M7 =>
      if r6 = 0 then
        fX7_stopped_B60 N again4 (fX7_stopped_B11 N again4 n) (v1 + 1) v2 v3 M7
      else
        fX7_stopped_B60 N again4 (fX7_stopped_B11 N again4 n) v1 v2 v3 M7
def fX7_stopped_B4 (N : Nat) : Nat → Int32 → Int32 → zMem → zRES
  | 0, _, _, _ => none
  | n + 1, v1, v2, M =>
  if (5 : Int32) ≤ v2 then
    some (.inl v1, M)
  else
    fX7_stopped_B11 N (fX7_stopped_B4 N n) N v1 v2 0 M
def fX7_stopped (N : Nat) (M : zMem) : zRES :=
  fX7_stopped_B4 N N 0 0 M
set_option maxRecDepth 20000 in
set_option maxHeartbeats 2000000 in
theorem gX7_stopped_B60 {l : Launch} {Z : zZ} {ad : Nat → Nat} {d : Nat} {X : zX} {cs : Nat × Nat} (hC : zC l Z zfull ad X RX7 cX7_stopped 5 (some .int) (d + 1)) (hE : zEnd Z zfull ad X false) (hN : zNoX X) (N : Nat) {again4 : Int32 → Int32 → zMem → zRES} (hag4 : ∀ v1 v2 M, zG l Z zfull ad X cs 4 [(0, .ref (ad 0)), (1, .int v1), (2, .int v2)] [] M (again4 v1 v2 M)) {again11 : Int32 → Int32 → Int32 → zMem → zRES} (hag11 : ∀ v1 v2 v3 M, zG l Z zfull ad X cs 11 [(0, .ref (ad 0)), (1, .int v1), (2, .int v2), (3, .int v3)] [] M (again11 v1 v2 v3 M)) (v1 : Int32) (v2 : Int32) (v3 : Int32) (M : zMem) : zG l Z zfull ad X cs 60 [(0, .ref (ad 0)), (1, .int v1), (2, .int v2), (3, .int v3)] [] M (fX7_stopped_B60 N again4 again11 v1 v2 v3 M) := by
  unfold fX7_stopped_B60
  refine zg_iinc hC 3 (v := v3 + 1) (L' := [(3, _), (0, _), (1, _), (2, _)]) dX7_stopped_60 rfl (by rfl) (by decide) rfl ?_
  refine zg_goto hC (tgt := 11) dX7_stopped_63 (by decide) ?_
  exact zg_sub [1, 2, 3, 0] rfl (hag11 v1 v2 (v3 + 1) M)
set_option maxRecDepth 20000 in
set_option maxHeartbeats 2000000 in
theorem gX7_stopped_B11 {l : Launch} {Z : zZ} {ad : Nat → Nat} {d : Nat} {X : zX} {cs : Nat × Nat} (hC : zC l Z zfull ad X RX7 cX7_stopped 5 (some .int) (d + 1)) (hE : zEnd Z zfull ad X false) (hN : zNoX X) (N : Nat) {again4 : Int32 → Int32 → zMem → zRES} (hag4 : ∀ v1 v2 M, zG l Z zfull ad X cs 4 [(0, .ref (ad 0)), (1, .int v1), (2, .int v2)] [] M (again4 v1 v2 M)) : ∀ (n : Nat) (v1 : Int32) (v2 : Int32) (v3 : Int32) (M : zMem), zG l Z zfull ad X cs 11 [(0, .ref (ad 0)), (1, .int v1), (2, .int v2), (3, .int v3)] [] M (fX7_stopped_B11 N again4 n v1 v2 v3 M) := by
  intro n
  induction n with
  | zero =>
    intro v1 v2 v3 M
    exact zg_none
  | succ n ih =>
  intro v1 v2 v3 M
  rw [fX7_stopped_B11]
  refine zg_iload_n hC 3 dX7_stopped_11 rfl ?_
  refine zg_bipush hC (v := 50) dX7_stopped_12 (by decide) ?_
  refine zg_icmp_gt hC (tgt := 66) dX7_stopped_14 (by decide) (fun c2 => ?_) (fun c2 => ?_)
  · refine zg_iinc hC 2 (v := v2 + 1) (L' := [(2, _), (0, _), (1, _), (3, _)]) dX7_stopped_66 rfl (by rfl) (by decide) rfl ?_
    refine zg_goto hC (tgt := 4) dX7_stopped_69 (by decide) ?_
    exact zg_sub [1, 2, 0] rfl (hag4 v1 (v2 + 1) M)
  · refine zg_aload_n hC 0 dX7_stopped_17 rfl ?_
    refine zg_get hC (k := 0) (v := .ref (ad 45)) ffX7_43 dX7_stopped_18 zq0 zk0 rfl ?_
    refine zg_iload_n hC 2 dX7_stopped_21 rfl ?_
    refine zg_aload_n hC 0 dX7_stopped_22 rfl ?_
    refine zg_get hC (k := 0) (v := .ref (ad 45)) ffX7_43 dX7_stopped_23 zq0 zk0 rfl ?_
    refine zg_get hC (k := 45) (v := .int (M.1 45 0)) ffX7_233 dX7_stopped_26 zq45 zk45 rfl ?_
    refine zg_iload_n hC 3 dX7_stopped_29 rfl ?_
    refine zg_iadd hC dX7_stopped_30 ?_
    refine zg_callVi hC hE hN (k := 45) (As := [.int v2, .int ((M.1 45 0) + v3)]) (S := []) rfl (tX4_slotAt (zflag hC) d N v2 ((M.1 45 0) + v3) M) lkX7_215 rfl dX7_stopped_31 zq45 zk45 rfl rfl (Nat.le_of_ble_eq_true rfl) (fun r3 M4 er3 => ?_)
    refine zg_istore hC (L' := [(4, _), (0, _), (1, _), (2, _), (3, _)]) dX7_stopped_34 (by decide) rfl ?_
    refine zg_iload hC 0 dX7_stopped_36 rfl ?_
    refine zg_iconst hC (v := (-1)) dX7_stopped_38 (by decide) ?_
    refine zg_icmp_eq hC (tgt := 60) dX7_stopped_39 (by decide) (fun c5 => ?_) (fun c5 => ?_)
    · exact zg_sub [1, 2, 3, 4] rfl (gX7_stopped_B60 hC hE hN N hag4 ih v1 v2 v3 M4)
    · refine zg_aload_n hC 1 dX7_stopped_42 rfl ?_
      refine zg_get hC (k := 0) (v := .ref (ad 1)) ffX7_10 dX7_stopped_43 zq0 zk0 rfl ?_
      refine zg_get hC (k := 1) (v := .long (M4.2 1 10)) ffX7_137 dX7_stopped_46 zq1 zk1 rfl ?_
      refine zg_iload hC 0 dX7_stopped_49 rfl ?_
      refine zg_callSi hC hE hN (As := [.long (M4.2 1 10), .int r3]) (S := []) rfl (tX7_contains (zflag hC) d N (M4.2 1 10) r3 M4) lkX7_175 rfl dX7_stopped_51 (Nat.le_of_ble_eq_true rfl) (fun r6 M7 er6 => ?_)
      refine zg_if_ne hC (tgt := 60) dX7_stopped_54 (by decide) (fun c8 => ?_) (fun c8 => ?_)
      · refine zg_iinc hC 2 (v := v1 + 1) (L' := [(1, _), (4, _), (0, _), (2, _), (3, _)]) dX7_stopped_57 rfl (by rfl) (by decide) rfl ?_
        exact zg_sub [2, 0, 3, 4] rfl (gX7_stopped_B60 hC hE hN N hag4 ih (v1 + 1) v2 v3 M7)
      · exact zg_sub [1, 2, 3, 4] rfl (gX7_stopped_B60 hC hE hN N hag4 ih v1 v2 v3 M7)
set_option maxRecDepth 20000 in
set_option maxHeartbeats 2000000 in
theorem gX7_stopped_B4 {l : Launch} {Z : zZ} {ad : Nat → Nat} {d : Nat} {X : zX} {cs : Nat × Nat} (hC : zC l Z zfull ad X RX7 cX7_stopped 5 (some .int) (d + 1)) (hE : zEnd Z zfull ad X false) (hN : zNoX X) (N : Nat) : ∀ (n : Nat) (v1 : Int32) (v2 : Int32) (M : zMem), zG l Z zfull ad X cs 4 [(0, .ref (ad 0)), (1, .int v1), (2, .int v2)] [] M (fX7_stopped_B4 N n v1 v2 M) := by
  intro n
  induction n with
  | zero =>
    intro v1 v2 M
    exact zg_none
  | succ n ih =>
  intro v1 v2 M
  rw [fX7_stopped_B4]
  refine zg_iload_n hC 2 dX7_stopped_4 rfl ?_
  refine zg_iconst hC (v := 5) dX7_stopped_5 (by decide) ?_
  refine zg_icmp_ge hC (tgt := 72) dX7_stopped_6 (by decide) (fun c1 => ?_) (fun c1 => ?_)
  · refine zg_iload_n hC 1 dX7_stopped_72 rfl ?_
    exact zg_ret hC hE dX7_stopped_73
  · refine zg_iconst hC (v := 0) dX7_stopped_9 (by decide) ?_
    refine zg_istore_n hC (L' := [(3, _), (0, _), (1, _), (2, _)]) dX7_stopped_10 (by decide) rfl ?_
    exact zg_sub [1, 2, 3, 0] rfl (gX7_stopped_B11 hC hE hN N ih N v1 v2 0 M)
set_option maxRecDepth 20000 in
set_option maxHeartbeats 2000000 in
theorem gX7_stopped_B0 {l : Launch} {Z : zZ} {ad : Nat → Nat} {d : Nat} {X : zX} {cs : Nat × Nat} (hC : zC l Z zfull ad X RX7 cX7_stopped 5 (some .int) (d + 1)) (hE : zEnd Z zfull ad X false) (hN : zNoX X) (N : Nat) (M : zMem) : zG l Z zfull ad X cs 0 [(0, .ref (ad 0))] [] M (fX7_stopped N M) := by
  unfold fX7_stopped
  refine zg_iconst hC (v := 0) dX7_stopped_0 (by decide) ?_
  refine zg_istore_n hC (L' := [(1, _), (0, _)]) dX7_stopped_1 (by decide) rfl ?_
  refine zg_iconst hC (v := 0) dX7_stopped_2 (by decide) ?_
  refine zg_istore_n hC (L' := [(2, _), (1, _), (0, _)]) dX7_stopped_3 (by decide) rfl ?_
  exact zg_sub [2, 1, 0] rfl (gX7_stopped_B4 hC hE hN N N 0 0 M)
theorem tX7_stopped {l : Launch} {Z : zZ} {ad : Nat → Nat} (hl : l.stackTraces = false) (d : Nat) (N : Nat) (M : zMem) : zT l Z zfull ad (.code yX7_stopped cX7_stopped 5 (some .int)) yX7_stopped (d + 1) false zbn [.ref (ad 0)] M (fX7_stopped N M) :=
  zT_of hl (by decide +kernel) (Nat.le_of_ble_eq_true rfl) (fun X hC hE hN => gX7_stopped_B0 hC hE hN N M)

def fX7_canBake (N : Nat) (p1 : Int32) (p2 : Int32) (M : zMem) : zRES :=
  zb (fX7_contains N (M.2 1 10) p2 M) fun r1 M2 =>
  if r1 = 0 then
    some (.inl 0, M2)
  else
    if zin p1 5 = true then
    if zin p2 60 = true then
    if (M2.1 44 p1.toNatClampNeg) < (M2.1 35 p2.toNatClampNeg) then
      some (.inl 0, M2)
    else
      if (60 : Int32) ≤ (M2.1 53 0) then
        some (.inl 0, M2)
      else
        some (.inl 1, M2)
    else none
    else none
set_option maxRecDepth 20000 in
set_option maxHeartbeats 2000000 in
theorem gX7_canBake_B0 {l : Launch} {Z : zZ} {ad : Nat → Nat} {d : Nat} {X : zX} {cs : Nat × Nat} (hC : zC l Z zfull ad X RX7 cX7_canBake 3 (some .boolean) (d + 1)) (hE : zEnd Z zfull ad X false) (hN : zNoX X) (N : Nat) (p1 : Int32) (p2 : Int32) (M : zMem) : zG l Z zfull ad X cs 0 [(0, .ref (ad 0)), (1, .int p1), (2, .int p2)] [] M (fX7_canBake N p1 p2 M) := by
  unfold fX7_canBake
  refine zg_aload_n hC 0 dX7_canBake_0 rfl ?_
  refine zg_get hC (k := 0) (v := .ref (ad 1)) ffX7_10 dX7_canBake_1 zq0 zk0 rfl ?_
  refine zg_get hC (k := 1) (v := .long (M.2 1 10)) ffX7_137 dX7_canBake_4 zq1 zk1 rfl ?_
  refine zg_iload_n hC 2 dX7_canBake_7 rfl ?_
  refine zg_callSi hC hE hN (As := [.long (M.2 1 10), .int p2]) (S := []) rfl (tX7_contains (zflag hC) d N (M.2 1 10) p2 M) lkX7_175 rfl dX7_canBake_8 (Nat.le_of_ble_eq_true rfl) (fun r1 M2 er1 => ?_)
  refine zg_if_eq hC (tgt := 51) dX7_canBake_11 (by decide) (fun c3 => ?_) (fun c3 => ?_)
  · refine zg_iconst hC (v := 0) dX7_canBake_51 (by decide) ?_
    exact zg_retz hC hE (by decide) dX7_canBake_52
  · refine zg_aload_n hC 0 dX7_canBake_14 rfl ?_
    refine zg_get hC (k := 0) (v := .ref (ad 37)) ffX7_36 dX7_canBake_15 zq0 zk0 rfl ?_
    refine zg_get hC (k := 37) (v := .ref (ad 44)) ffX7_198 dX7_canBake_18 zq37 zk37 rfl ?_
    refine zg_iload_n hC 1 dX7_canBake_21 rfl ?_
    refine zg_iald hC (k := 44) dX7_canBake_22 zq44 zk44 (fun h4 => ?_)
    refine zg_aload_n hC 0 dX7_canBake_23 rfl ?_
    refine zg_get hC (k := 0) (v := .ref (ad 33)) ffX7_29 dX7_canBake_24 zq0 zk0 rfl ?_
    refine zg_get hC (k := 33) (v := .ref (ad 35)) ffX7_324 dX7_canBake_27 zq33 zk33 rfl ?_
    refine zg_iload_n hC 2 dX7_canBake_30 rfl ?_
    refine zg_iald hC (k := 35) dX7_canBake_31 zq35 zk35 (fun h5 => ?_)
    refine zg_icmp_lt hC (tgt := 51) dX7_canBake_32 (by decide) (fun c6 => ?_) (fun c6 => ?_)
    · refine zg_iconst hC (v := 0) dX7_canBake_51 (by decide) ?_
      exact zg_retz hC hE (by decide) dX7_canBake_52
    · refine zg_aload_n hC 0 dX7_canBake_35 rfl ?_
      refine zg_get hC (k := 0) (v := .ref (ad 53)) ffX7_50 dX7_canBake_36 zq0 zk0 rfl ?_
      refine zg_get hC (k := 53) (v := .int (M2.1 53 0)) ffX7_247 dX7_canBake_39 zq53 zk53 rfl ?_
      refine zg_bipush hC (v := 60) dX7_canBake_42 (by decide) ?_
      refine zg_icmp_ge hC (tgt := 51) dX7_canBake_44 (by decide) (fun c7 => ?_) (fun c7 => ?_)
      · refine zg_iconst hC (v := 0) dX7_canBake_51 (by decide) ?_
        exact zg_retz hC hE (by decide) dX7_canBake_52
      · refine zg_iconst hC (v := 1) dX7_canBake_47 (by decide) ?_
        refine zg_goto hC (tgt := 52) dX7_canBake_48 (by decide) ?_
        exact zg_retz hC hE (by decide) dX7_canBake_52
theorem tX7_canBake {l : Launch} {Z : zZ} {ad : Nat → Nat} (hl : l.stackTraces = false) (d : Nat) (N : Nat) (p1 : Int32) (p2 : Int32) (M : zMem) : zT l Z zfull ad (.code yX7_canBake cX7_canBake 3 (some .boolean)) yX7_canBake (d + 1) false zbn [.ref (ad 0), .int p1, .int p2] M (fX7_canBake N p1 p2 M) :=
  zT_of hl (by decide +kernel) (Nat.le_of_ble_eq_true rfl) (fun X hC hE hN => gX7_canBake_B0 hC hE hN N p1 p2 M)

def fX7_bake (N : Nat) (p1 : Int32) (p2 : Int32) (M : zMem) : zRES :=
  if zin p2 60 = true then
  zb (fX2_takeFirst N p1 (M.1 35 p2.toNatClampNeg) M) fun r2 M3 =>
  if zin p2 60 = true then
  zb (fX1_add N p2 r2 (M3.1 36 p2.toNatClampNeg) M3) fun r5 M6 =>
  some (.inl 0, M6)
  else none
  else none
set_option maxRecDepth 20000 in
set_option maxHeartbeats 2000000 in
theorem gX7_bake_B0 {l : Launch} {Z : zZ} {ad : Nat → Nat} {d : Nat} {X : zX} {cs : Nat × Nat} (hC : zC l Z zfull ad X RX7 cX7_bake 4 none (d + 1)) (hE : zEnd Z zfull ad X true) (hN : zNoX X) (N : Nat) (p1 : Int32) (p2 : Int32) (M : zMem) : zG l Z zfull ad X cs 0 [(0, .ref (ad 0)), (1, .int p1), (2, .int p2)] [] M (fX7_bake N p1 p2 M) := by
  unfold fX7_bake
  refine zg_aload_n hC 0 dX7_bake_0 rfl ?_
  refine zg_get hC (k := 0) (v := .ref (ad 37)) ffX7_36 dX7_bake_1 zq0 zk0 rfl ?_
  refine zg_iload_n hC 1 dX7_bake_4 rfl ?_
  refine zg_aload_n hC 0 dX7_bake_5 rfl ?_
  refine zg_get hC (k := 0) (v := .ref (ad 33)) ffX7_29 dX7_bake_6 zq0 zk0 rfl ?_
  refine zg_get hC (k := 33) (v := .ref (ad 35)) ffX7_324 dX7_bake_9 zq33 zk33 rfl ?_
  refine zg_iload_n hC 2 dX7_bake_12 rfl ?_
  refine zg_iald hC (k := 35) dX7_bake_13 zq35 zk35 (fun h1 => ?_)
  refine zg_callVi hC hE hN (k := 37) (As := [.int p1, .int (M.1 35 p2.toNatClampNeg)]) (S := []) rfl (tX2_takeFirst (zflag hC) d N p1 (M.1 35 p2.toNatClampNeg) M) lkX7_327 rfl dX7_bake_14 zq37 zk37 rfl rfl (Nat.le_of_ble_eq_true rfl) (fun r2 M3 er2 => ?_)
  refine zg_istore_n hC (L' := [(3, _), (0, _), (1, _), (2, _)]) dX7_bake_17 (by decide) rfl ?_
  refine zg_aload_n hC 1 dX7_bake_18 rfl ?_
  refine zg_get hC (k := 0) (v := .ref (ad 53)) ffX7_50 dX7_bake_19 zq0 zk0 rfl ?_
  refine zg_iload_n hC 3 dX7_bake_22 rfl ?_
  refine zg_iload_n hC 0 dX7_bake_23 rfl ?_
  refine zg_aload_n hC 1 dX7_bake_24 rfl ?_
  refine zg_get hC (k := 0) (v := .ref (ad 33)) ffX7_29 dX7_bake_25 zq0 zk0 rfl ?_
  refine zg_get hC (k := 33) (v := .ref (ad 36)) ffX7_330 dX7_bake_28 zq33 zk33 rfl ?_
  refine zg_iload_n hC 3 dX7_bake_31 rfl ?_
  refine zg_iald hC (k := 36) dX7_bake_32 zq36 zk36 (fun h4 => ?_)
  refine zg_callVv hC hE hN (k := 53) (As := [.int p2, .int r2, .int (M3.1 36 p2.toNatClampNeg)]) (S := []) rfl (tX1_add (zflag hC) d N p2 r2 (M3.1 36 p2.toNatClampNeg) M3) lkX7_333 rfl dX7_bake_33 zq53 zk53 rfl rfl (Nat.le_of_ble_eq_true rfl) (fun r5 M6 er5 => ?_)
  exact zg_retv hC hE dX7_bake_36
theorem tX7_bake {l : Launch} {Z : zZ} {ad : Nat → Nat} (hl : l.stackTraces = false) (d : Nat) (N : Nat) (p1 : Int32) (p2 : Int32) (M : zMem) : zT l Z zfull ad (.code yX7_bake cX7_bake 4 none) yX7_bake (d + 1) true zbn [.ref (ad 0), .int p1, .int p2] M (fX7_bake N p1 p2 M) :=
  zT_of hl (by decide +kernel) (Nat.le_of_ble_eq_true rfl) (fun X hC hE hN => gX7_bake_B0 hC hE hN N p1 p2 M)

def fX7_passHour_B80 (N : Nat) (again4 : Int32 → Int32 → zMem → zRES) (v1 : Int32) (v2 : Int32) (M : zMem) : zRES :=
  again4 v1 (v2 + 1) M
def fX7_passHour_B64 (N : Nat) (again4 : Int32 → Int32 → zMem → zRES) (v1 : Int32) (v2 : Int32) (M : zMem) : zRES :=
  zb (fX4_setSlot N v2 (M.1 45 0) (-1) M) fun r14 M15 =>
  fX7_passHour_B80 N again4 v1 v2 M15
def fX7_passHour_B4 (N : Nat) : Nat → Int32 → Int32 → zMem → zRES
  | 0, _, _, _ => none
  | n + 1, v1, v2, M =>
  if (5 : Int32) ≤ v2 then
    zl (zsI M 45 0 ((M.1 45 0) + 1)) fun M2 =>
    some (.inl v1, M2)
  else
    zb (fX4_slotAt N v2 (M.1 45 0) M) fun r3 M4 =>
    if r3 = (-1) then
      fX7_passHour_B80 N (fX7_passHour_B4 N n) v1 v2 M4
    else
      zb (fX7_canBake N v2 r3 M4) fun r6 M7 =>
      if r6 = 0 then
        if zin v2 5 = true then
        if zin v2 5 = true then
        zl (zsI M7 52 v2.toNatClampNeg ((M7.1 52 v2.toNatClampNeg) + 1)) fun M11 =>
        fX7_passHour_B64 N (fX7_passHour_B4 N n) v1 v2 M11
        else none
        else none
      else
        zb (fX7_bake N v2 r3 M7) fun r12 M13 =>
        fX7_passHour_B64 N (fX7_passHour_B4 N n) (v1 + 1) v2 M13
def fX7_passHour (N : Nat) (M : zMem) : zRES :=
  fX7_passHour_B4 N N 0 0 M
set_option maxRecDepth 20000 in
set_option maxHeartbeats 2000000 in
theorem gX7_passHour_B80 {l : Launch} {Z : zZ} {ad : Nat → Nat} {d : Nat} {X : zX} {cs : Nat × Nat} (hC : zC l Z zfull ad X RX7 cX7_passHour 4 (some .int) (d + 2)) (hE : zEnd Z zfull ad X false) (hN : zNoX X) (N : Nat) {again4 : Int32 → Int32 → zMem → zRES} (hag4 : ∀ v1 v2 M, zG l Z zfull ad X cs 4 [(0, .ref (ad 0)), (1, .int v1), (2, .int v2)] [] M (again4 v1 v2 M)) (v1 : Int32) (v2 : Int32) (M : zMem) : zG l Z zfull ad X cs 80 [(0, .ref (ad 0)), (1, .int v1), (2, .int v2)] [] M (fX7_passHour_B80 N again4 v1 v2 M) := by
  unfold fX7_passHour_B80
  refine zg_iinc hC 2 (v := v2 + 1) (L' := [(2, _), (0, _), (1, _)]) dX7_passHour_80 rfl (by rfl) (by decide) rfl ?_
  refine zg_goto hC (tgt := 4) dX7_passHour_83 (by decide) ?_
  exact zg_sub [1, 2, 0] rfl (hag4 v1 (v2 + 1) M)
set_option maxRecDepth 20000 in
set_option maxHeartbeats 2000000 in
theorem gX7_passHour_B64 {l : Launch} {Z : zZ} {ad : Nat → Nat} {d : Nat} {X : zX} {cs : Nat × Nat} (hC : zC l Z zfull ad X RX7 cX7_passHour 4 (some .int) (d + 2)) (hE : zEnd Z zfull ad X false) (hN : zNoX X) (N : Nat) {again4 : Int32 → Int32 → zMem → zRES} (hag4 : ∀ v1 v2 M, zG l Z zfull ad X cs 4 [(0, .ref (ad 0)), (1, .int v1), (2, .int v2)] [] M (again4 v1 v2 M)) (v1 : Int32) (v2 : Int32) (M : zMem) : zG l Z zfull ad X cs 64 [(0, .ref (ad 0)), (1, .int v1), (2, .int v2)] [] M (fX7_passHour_B64 N again4 v1 v2 M) := by
  unfold fX7_passHour_B64
  refine zg_aload_n hC 0 dX7_passHour_64 rfl ?_
  refine zg_get hC (k := 0) (v := .ref (ad 45)) ffX7_43 dX7_passHour_65 zq0 zk0 rfl ?_
  refine zg_iload_n hC 2 dX7_passHour_68 rfl ?_
  refine zg_aload_n hC 0 dX7_passHour_69 rfl ?_
  refine zg_get hC (k := 0) (v := .ref (ad 45)) ffX7_43 dX7_passHour_70 zq0 zk0 rfl ?_
  refine zg_get hC (k := 45) (v := .int (M.1 45 0)) ffX7_233 dX7_passHour_73 zq45 zk45 rfl ?_
  refine zg_iconst hC (v := (-1)) dX7_passHour_76 (by decide) ?_
  refine zg_callVv hC hE hN (k := 45) (As := [.int v2, .int (M.1 45 0), .int (-1)]) (S := []) rfl (tX4_setSlot (zflag hC) (d + 1) N v2 (M.1 45 0) (-1) M) lkX7_230 rfl dX7_passHour_77 zq45 zk45 rfl rfl (Nat.le_of_ble_eq_true rfl) (fun r14 M15 er14 => ?_)
  exact zg_sub [0, 1, 2] rfl (gX7_passHour_B80 hC hE hN N hag4 v1 v2 M15)
set_option maxRecDepth 20000 in
set_option maxHeartbeats 2000000 in
theorem gX7_passHour_B4 {l : Launch} {Z : zZ} {ad : Nat → Nat} {d : Nat} {X : zX} {cs : Nat × Nat} (hC : zC l Z zfull ad X RX7 cX7_passHour 4 (some .int) (d + 2)) (hE : zEnd Z zfull ad X false) (hN : zNoX X) (N : Nat) : ∀ (n : Nat) (v1 : Int32) (v2 : Int32) (M : zMem), zG l Z zfull ad X cs 4 [(0, .ref (ad 0)), (1, .int v1), (2, .int v2)] [] M (fX7_passHour_B4 N n v1 v2 M) := by
  intro n
  induction n with
  | zero =>
    intro v1 v2 M
    exact zg_none
  | succ n ih =>
  intro v1 v2 M
  rw [fX7_passHour_B4]
  refine zg_iload_n hC 2 dX7_passHour_4 rfl ?_
  refine zg_iconst hC (v := 5) dX7_passHour_5 (by decide) ?_
  refine zg_icmp_ge hC (tgt := 86) dX7_passHour_6 (by decide) (fun c1 => ?_) (fun c1 => ?_)
  · refine zg_aload_n hC 0 dX7_passHour_86 rfl ?_
    refine zg_get hC (k := 0) (v := .ref (ad 45)) ffX7_43 dX7_passHour_87 zq0 zk0 rfl ?_
    refine zg_dup hC dX7_passHour_90 rfl ?_
    refine zg_get hC (k := 45) (v := .int (M.1 45 0)) ffX7_233 dX7_passHour_91 zq45 zk45 rfl ?_
    refine zg_iconst hC (v := 1) dX7_passHour_94 (by decide) ?_
    refine zg_iadd hC dX7_passHour_95 ?_
    refine zg_putI hC (k := 45) fpX7_233 dX7_passHour_96 zq45 zk45 rfl (fun M2 eM2 => ?_)
    refine zg_iload_n hC 1 dX7_passHour_99 rfl ?_
    exact zg_ret hC hE dX7_passHour_100
  · refine zg_aload_n hC 0 dX7_passHour_9 rfl ?_
    refine zg_get hC (k := 0) (v := .ref (ad 45)) ffX7_43 dX7_passHour_10 zq0 zk0 rfl ?_
    refine zg_iload_n hC 2 dX7_passHour_13 rfl ?_
    refine zg_aload_n hC 0 dX7_passHour_14 rfl ?_
    refine zg_get hC (k := 0) (v := .ref (ad 45)) ffX7_43 dX7_passHour_15 zq0 zk0 rfl ?_
    refine zg_get hC (k := 45) (v := .int (M.1 45 0)) ffX7_233 dX7_passHour_18 zq45 zk45 rfl ?_
    refine zg_callVi hC hE hN (k := 45) (As := [.int v2, .int (M.1 45 0)]) (S := []) rfl (tX4_slotAt (zflag hC) (d + 1) N v2 (M.1 45 0) M) lkX7_215 rfl dX7_passHour_21 zq45 zk45 rfl rfl (Nat.le_of_ble_eq_true rfl) (fun r3 M4 er3 => ?_)
    refine zg_istore_n hC (L' := [(3, _), (0, _), (1, _), (2, _)]) dX7_passHour_24 (by decide) rfl ?_
    refine zg_iload_n hC 0 dX7_passHour_25 rfl ?_
    refine zg_iconst hC (v := (-1)) dX7_passHour_26 (by decide) ?_
    refine zg_icmp_eq hC (tgt := 80) dX7_passHour_27 (by decide) (fun c5 => ?_) (fun c5 => ?_)
    · exact zg_sub [1, 2, 3] rfl (gX7_passHour_B80 hC hE hN N ih v1 v2 M4)
    · refine zg_aload_n hC 1 dX7_passHour_30 rfl ?_
      refine zg_iload_n hC 3 dX7_passHour_31 rfl ?_
      refine zg_iload_n hC 0 dX7_passHour_32 rfl ?_
      refine zg_callVi hC hE hN (k := 0) (As := [.int v2, .int r3]) (S := []) rfl (tX7_canBake (zflag hC) d N v2 r3 M4) lkX7_318 rfl dX7_passHour_33 zq0 zk0 rfl rfl (Nat.le_of_ble_eq_true rfl) (fun r6 M7 er6 => ?_)
      refine zg_if_eq hC (tgt := 51) dX7_passHour_36 (by decide) (fun c8 => ?_) (fun c8 => ?_)
      · refine zg_aload_n hC 1 dX7_passHour_51 rfl ?_
        refine zg_get hC (k := 0) (v := .ref (ad 45)) ffX7_43 dX7_passHour_52 zq0 zk0 rfl ?_
        refine zg_get hC (k := 45) (v := .ref (ad 52)) ffX7_244 dX7_passHour_55 zq45 zk45 rfl ?_
        refine zg_iload_n hC 3 dX7_passHour_58 rfl ?_
        refine zg_dup2_11 hC dX7_passHour_59 rfl rfl ?_
        refine zg_iald hC (k := 52) dX7_passHour_60 zq52 zk52 (fun h9 => ?_)
        refine zg_iconst hC (v := 1) dX7_passHour_61 (by decide) ?_
        refine zg_iadd hC dX7_passHour_62 ?_
        refine zg_iast hC (k := 52) dX7_passHour_63 zq52 zk52 (fun h10 M11 eM11 => ?_)
        exact zg_sub [1, 2, 3] rfl (gX7_passHour_B64 hC hE hN N ih v1 v2 M11)
      · refine zg_aload_n hC 1 dX7_passHour_39 rfl ?_
        refine zg_iload_n hC 3 dX7_passHour_40 rfl ?_
        refine zg_iload_n hC 0 dX7_passHour_41 rfl ?_
        refine zg_callVv hC hE hN (k := 0) (As := [.int v2, .int r3]) (S := []) rfl (tX7_bake (zflag hC) d N v2 r3 M7) lkX7_321 rfl dX7_passHour_42 zq0 zk0 rfl rfl (Nat.le_of_ble_eq_true rfl) (fun r12 M13 er12 => ?_)
        refine zg_iinc hC 2 (v := v1 + 1) (L' := [(1, _), (3, _), (0, _), (2, _)]) dX7_passHour_45 rfl (by rfl) (by decide) rfl ?_
        refine zg_goto hC (tgt := 64) dX7_passHour_48 (by decide) ?_
        exact zg_sub [2, 0, 3] rfl (gX7_passHour_B64 hC hE hN N ih (v1 + 1) v2 M13)
set_option maxRecDepth 20000 in
set_option maxHeartbeats 2000000 in
theorem gX7_passHour_B0 {l : Launch} {Z : zZ} {ad : Nat → Nat} {d : Nat} {X : zX} {cs : Nat × Nat} (hC : zC l Z zfull ad X RX7 cX7_passHour 4 (some .int) (d + 2)) (hE : zEnd Z zfull ad X false) (hN : zNoX X) (N : Nat) (M : zMem) : zG l Z zfull ad X cs 0 [(0, .ref (ad 0))] [] M (fX7_passHour N M) := by
  unfold fX7_passHour
  refine zg_iconst hC (v := 0) dX7_passHour_0 (by decide) ?_
  refine zg_istore_n hC (L' := [(1, _), (0, _)]) dX7_passHour_1 (by decide) rfl ?_
  refine zg_iconst hC (v := 0) dX7_passHour_2 (by decide) ?_
  refine zg_istore_n hC (L' := [(2, _), (1, _), (0, _)]) dX7_passHour_3 (by decide) rfl ?_
  exact zg_sub [2, 1, 0] rfl (gX7_passHour_B4 hC hE hN N N 0 0 M)
theorem tX7_passHour {l : Launch} {Z : zZ} {ad : Nat → Nat} (hl : l.stackTraces = false) (d : Nat) (N : Nat) (M : zMem) : zT l Z zfull ad (.code yX7_passHour cX7_passHour 4 (some .int)) yX7_passHour (d + 2) false zbn [.ref (ad 0)] M (fX7_passHour N M) :=
  zT_of hl (by decide +kernel) (Nat.le_of_ble_eq_true rfl) (fun X hC hE hN => gX7_passHour_B0 hC hE hN N M)

def fX7_pass_B50 (N : Nat) : Nat → Int32 → Int32 → Int32 → zMem → zRES
  | 0, _, _, _, _ => none
  | n + 1, v1, v2, v3, M =>
  if v1 ≤ v3 then
    some (.inl v2, M)
  else
    zb (fX7_passHour N M) fun r5 M6 =>
    zv (v2 + r5) fun x7 =>
    fX7_pass_B50 N n v1 x7 (v3 + 1) M6
def fX7_pass (N : Nat) (p1 : Int32) (M : zMem) : zRES :=
  if p1 < 1 then
    some (.inr 2, M)
  else
    if p1 ≤ 50 then
      if ((M.1 45 0) + p1) ≤ 1000 then
        fX7_pass_B50 N N p1 0 0 M
      else
        some (.inr 3, M)
    else
      some (.inr 2, M)
set_option maxRecDepth 20000 in
set_option maxHeartbeats 2000000 in
theorem gX7_pass_B50 {l : Launch} {Z : zZ} {ad : Nat → Nat} {d : Nat} {X : zX} (hC : zC l Z zfull ad X RX7 cX7_pass 4 (some .int) (d + 6)) (hE : zEnd Z zfull ad X false) (hN : zNoX X) (N : Nat) : ∀ (n : Nat) (v1 : Int32) (v2 : Int32) (v3 : Int32) (M : zMem), zG l Z zfull ad X (0, 0) 50 [(0, .ref (ad 0)), (1, .int v1), (2, .int v2), (3, .int v3)] [] M (fX7_pass_B50 N n v1 v2 v3 M) := by
  intro n
  induction n with
  | zero =>
    intro v1 v2 v3 M
    exact zg_none
  | succ n ih =>
  intro v1 v2 v3 M
  rw [fX7_pass_B50]
  refine zg_iload_n hC 3 dX7_pass_50 rfl ?_
  refine zg_iload_n hC 1 dX7_pass_51 rfl ?_
  refine zg_icmp_ge hC (tgt := 68) dX7_pass_52 (by decide) (fun c4 => ?_) (fun c4 => ?_)
  · refine zg_iload_n hC 2 dX7_pass_68 rfl ?_
    exact zg_ret hC hE dX7_pass_69
  · refine zg_iload_n hC 2 dX7_pass_55 rfl ?_
    refine zg_aload_n hC 0 dX7_pass_56 rfl ?_
    refine zg_callVi hC hE hN (k := 0) (As := []) (S := [.int v2]) rfl (tX7_passHour (zflag hC) (d + 3) N M) lkX7_240 rfl dX7_pass_57 zq0 zk0 rfl rfl (Nat.le_of_ble_eq_true rfl) (fun r5 M6 er5 => ?_)
    refine zg_iadd hC dX7_pass_60 ?_
    refine zg_nm (fun x7 ex7 => ?_)
    refine zg_istore_n hC (L' := [(2, _), (0, _), (1, _), (3, _)]) dX7_pass_61 (by decide) rfl ?_
    refine zg_iinc hC 3 (v := v3 + 1) (L' := [(3, _), (2, _), (0, _), (1, _)]) dX7_pass_62 rfl (by rfl) (by decide) rfl ?_
    refine zg_goto hC (tgt := 50) dX7_pass_65 (by decide) ?_
    exact zg_sub [2, 3, 1, 0] rfl (ih v1 x7 (v3 + 1) M6)
set_option maxRecDepth 20000 in
set_option maxHeartbeats 2000000 in
theorem gX7_pass_B0 {l : Launch} {Z : zZ} {ad : Nat → Nat} {d : Nat} {X : zX} (hC : zC l Z zfull ad X RX7 cX7_pass 4 (some .int) (d + 6)) (hE : zEnd Z zfull ad X false) (hN : zNoX X) (N : Nat) (p1 : Int32) (M : zMem) : zG l Z zfull ad X (0, 0) 0 [(0, .ref (ad 0)), (1, .int p1)] [] M (fX7_pass N p1 M) := by
  unfold fX7_pass
  refine zg_iload_n hC 1 dX7_pass_0 rfl ?_
  refine zg_iconst hC (v := 1) dX7_pass_1 (by decide) ?_
  refine zg_icmp_lt hC (tgt := 11) dX7_pass_2 (by decide) (fun c1 => ?_) (fun c1 => ?_)
  · exact zg_throw hC hE hN (by omega) txX7_65 ckX7_61 skX7_236 dX7_pass_11 dX7_pass_14 dX7_pass_15 dX7_pass_17 dX7_pass_20 (Nat.le_of_ble_eq_true rfl)
  · refine zg_iload_n hC 1 dX7_pass_5 rfl ?_
    refine zg_bipush hC (v := 50) dX7_pass_6 (by decide) ?_
    refine zg_icmp_le hC (tgt := 21) dX7_pass_8 (by decide) (fun c2 => ?_) (fun c2 => ?_)
    · refine zg_aload_n hC 0 dX7_pass_21 rfl ?_
      refine zg_get hC (k := 0) (v := .ref (ad 45)) ffX7_43 dX7_pass_22 zq0 zk0 rfl ?_
      refine zg_get hC (k := 45) (v := .int (M.1 45 0)) ffX7_233 dX7_pass_25 zq45 zk45 rfl ?_
      refine zg_iload_n hC 1 dX7_pass_28 rfl ?_
      refine zg_iadd hC dX7_pass_29 ?_
      refine zg_sipush hC (v := 1000) dX7_pass_30 (by decide) ?_
      refine zg_icmp_le hC (tgt := 46) dX7_pass_33 (by decide) (fun c3 => ?_) (fun c3 => ?_)
      · refine zg_iconst hC (v := 0) dX7_pass_46 (by decide) ?_
        refine zg_istore_n hC (L' := [(2, _), (0, _), (1, _)]) dX7_pass_47 (by decide) rfl ?_
        refine zg_iconst hC (v := 0) dX7_pass_48 (by decide) ?_
        refine zg_istore_n hC (L' := [(3, _), (2, _), (0, _), (1, _)]) dX7_pass_49 (by decide) rfl ?_
        exact zg_sub [2, 3, 1, 0] rfl (gX7_pass_B50 hC hE hN N N p1 0 0 M)
      · exact zg_throw hC hE hN (by omega) txX7_94 ckX7_90 skX7_238 dX7_pass_36 dX7_pass_39 dX7_pass_40 dX7_pass_42 dX7_pass_45 (Nat.le_of_ble_eq_true rfl)
    · exact zg_throw hC hE hN (by omega) txX7_65 ckX7_61 skX7_236 dX7_pass_11 dX7_pass_14 dX7_pass_15 dX7_pass_17 dX7_pass_20 (Nat.le_of_ble_eq_true rfl)
theorem tX7_pass {l : Launch} {Z : zZ} {ad : Nat → Nat} (hl : l.stackTraces = false) (d : Nat) (N : Nat) (p1 : Int32) (M : zMem) : zT l Z zfull ad (.code yX7_pass cX7_pass 4 (some .int)) yX7_pass (d + 6) false zbn [.ref (ad 0), .int p1] M (fX7_pass N p1 M) :=
  zT_of hl (by decide +kernel) (Nat.le_of_ble_eq_true rfl) (fun X hC hE hN => gX7_pass_B0 hC hE hN N p1 M)

def fX7_time (N : Nat) (M : zMem) : zRES :=
  some (.inl (M.1 45 0), M)
set_option maxRecDepth 20000 in
set_option maxHeartbeats 2000000 in
theorem gX7_time_B0 {l : Launch} {Z : zZ} {ad : Nat → Nat} {d : Nat} {X : zX} {cs : Nat × Nat} (hC : zC l Z zfull ad X RX7 cX7_time 1 (some .int) (d + 0)) (hE : zEnd Z zfull ad X false) (hN : zNoX X) (N : Nat) (M : zMem) : zG l Z zfull ad X cs 0 [(0, .ref (ad 0))] [] M (fX7_time N M) := by
  unfold fX7_time
  refine zg_aload_n hC 0 dX7_time_0 rfl ?_
  refine zg_get hC (k := 0) (v := .ref (ad 45)) ffX7_43 dX7_time_1 zq0 zk0 rfl ?_
  refine zg_get hC (k := 45) (v := .int (M.1 45 0)) ffX7_233 dX7_time_4 zq45 zk45 rfl ?_
  exact zg_ret hC hE dX7_time_7
theorem tX7_time {l : Launch} {Z : zZ} {ad : Nat → Nat} (hl : l.stackTraces = false) (d : Nat) (N : Nat) (M : zMem) : zT l Z zfull ad (.code yX7_time cX7_time 1 (some .int)) yX7_time (d + 0) false zbn [.ref (ad 0)] M (fX7_time N M) :=
  zT_of hl (by decide +kernel) (Nat.le_of_ble_eq_true rfl) (fun X hC hE hN => gX7_time_B0 hC hE hN N M)

def fX7_batches (N : Nat) (M : zMem) : zRES :=
  some (.inl (M.1 53 0), M)
set_option maxRecDepth 20000 in
set_option maxHeartbeats 2000000 in
theorem gX7_batches_B0 {l : Launch} {Z : zZ} {ad : Nat → Nat} {d : Nat} {X : zX} {cs : Nat × Nat} (hC : zC l Z zfull ad X RX7 cX7_batches 1 (some .int) (d + 0)) (hE : zEnd Z zfull ad X false) (hN : zNoX X) (N : Nat) (M : zMem) : zG l Z zfull ad X cs 0 [(0, .ref (ad 0))] [] M (fX7_batches N M) := by
  unfold fX7_batches
  refine zg_aload_n hC 0 dX7_batches_0 rfl ?_
  refine zg_get hC (k := 0) (v := .ref (ad 53)) ffX7_50 dX7_batches_1 zq0 zk0 rfl ?_
  refine zg_get hC (k := 53) (v := .int (M.1 53 0)) ffX7_247 dX7_batches_4 zq53 zk53 rfl ?_
  exact zg_ret hC hE dX7_batches_7
theorem tX7_batches {l : Launch} {Z : zZ} {ad : Nat → Nat} (hl : l.stackTraces = false) (d : Nat) (N : Nat) (M : zMem) : zT l Z zfull ad (.code yX7_batches cX7_batches 1 (some .int)) yX7_batches (d + 0) false zbn [.ref (ad 0)] M (fX7_batches N M) :=
  zT_of hl (by decide +kernel) (Nat.le_of_ble_eq_true rfl) (fun X hC hE hN => gX7_batches_B0 hC hE hN N M)

def fX7_checkBatch (N : Nat) (p1 : Int32) (M : zMem) : zRES :=
  if p1 < 0 then
    some (.inr 1, M)
  else
    if p1 < (M.1 53 0) then
      some (.inl 0, M)
    else
      some (.inr 1, M)
set_option maxRecDepth 20000 in
set_option maxHeartbeats 2000000 in
theorem gX7_checkBatch_B0 {l : Launch} {Z : zZ} {ad : Nat → Nat} {d : Nat} {X : zX} (hC : zC l Z zfull ad X RX7 cX7_checkBatch 2 none (d + 6)) (hE : zEnd Z zfull ad X true) (hN : zNoX X) (N : Nat) (p1 : Int32) (M : zMem) : zG l Z zfull ad X (0, 0) 0 [(0, .ref (ad 0)), (1, .int p1)] [] M (fX7_checkBatch N p1 M) := by
  unfold fX7_checkBatch
  refine zg_iload_n hC 1 dX7_checkBatch_0 rfl ?_
  refine zg_if_lt hC (tgt := 15) dX7_checkBatch_1 (by decide) (fun c1 => ?_) (fun c1 => ?_)
  · exact zg_throwW hC hE hN (by omega) txX7_161 ckX7_157 skX7_312 dX7_checkBatch_15 dX7_checkBatch_18 dX7_checkBatch_19 dX7_checkBatch_22 dX7_checkBatch_25 (Nat.le_of_ble_eq_true rfl)
  · refine zg_iload_n hC 1 dX7_checkBatch_4 rfl ?_
    refine zg_aload_n hC 0 dX7_checkBatch_5 rfl ?_
    refine zg_get hC (k := 0) (v := .ref (ad 53)) ffX7_50 dX7_checkBatch_6 zq0 zk0 rfl ?_
    refine zg_get hC (k := 53) (v := .int (M.1 53 0)) ffX7_247 dX7_checkBatch_9 zq53 zk53 rfl ?_
    refine zg_icmp_lt hC (tgt := 26) dX7_checkBatch_12 (by decide) (fun c2 => ?_) (fun c2 => ?_)
    · exact zg_retv hC hE dX7_checkBatch_26
    · exact zg_throwW hC hE hN (by omega) txX7_161 ckX7_157 skX7_312 dX7_checkBatch_15 dX7_checkBatch_18 dX7_checkBatch_19 dX7_checkBatch_22 dX7_checkBatch_25 (Nat.le_of_ble_eq_true rfl)
theorem tX7_checkBatch {l : Launch} {Z : zZ} {ad : Nat → Nat} (hl : l.stackTraces = false) (d : Nat) (N : Nat) (p1 : Int32) (M : zMem) : zT l Z zfull ad (.code yX7_checkBatch cX7_checkBatch 2 none) yX7_checkBatch (d + 6) true zbn [.ref (ad 0), .int p1] M (fX7_checkBatch N p1 M) :=
  zT_of hl (by decide +kernel) (Nat.le_of_ble_eq_true rfl) (fun X hC hE hN => gX7_checkBatch_B0 hC hE hN N p1 M)

def fX7_left (N : Nat) (p1 : Int32) (M : zMem) : zRES :=
  zb (fX7_checkBatch N p1 M) fun r1 M2 =>
  if zin p1 60 = true then
  some (.inl (M2.1 56 p1.toNatClampNeg), M2)
  else none
set_option maxRecDepth 20000 in
set_option maxHeartbeats 2000000 in
theorem gX7_left_B0 {l : Launch} {Z : zZ} {ad : Nat → Nat} {d : Nat} {X : zX} {cs : Nat × Nat} (hC : zC l Z zfull ad X RX7 cX7_left 2 (some .int) (d + 7)) (hE : zEnd Z zfull ad X false) (hN : zNoX X) (N : Nat) (p1 : Int32) (M : zMem) : zG l Z zfull ad X cs 0 [(0, .ref (ad 0)), (1, .int p1)] [] M (fX7_left N p1 M) := by
  unfold fX7_left
  refine zg_aload_n hC 0 dX7_left_0 rfl ?_
  refine zg_iload_n hC 1 dX7_left_1 rfl ?_
  refine zg_callVv hC hE hN (k := 0) (As := [.int p1]) (S := []) rfl (tX7_checkBatch (zflag hC) d N p1 M) lkX7_250 rfl dX7_left_2 zq0 zk0 rfl rfl (Nat.le_of_ble_eq_true rfl) (fun r1 M2 er1 => ?_)
  refine zg_aload_n hC 0 dX7_left_5 rfl ?_
  refine zg_get hC (k := 0) (v := .ref (ad 53)) ffX7_50 dX7_left_6 zq0 zk0 rfl ?_
  refine zg_get hC (k := 53) (v := .ref (ad 56)) ffX7_259 dX7_left_9 zq53 zk53 rfl ?_
  refine zg_iload_n hC 1 dX7_left_12 rfl ?_
  refine zg_iald hC (k := 56) dX7_left_13 zq56 zk56 (fun h3 => ?_)
  exact zg_ret hC hE dX7_left_14
theorem tX7_left {l : Launch} {Z : zZ} {ad : Nat → Nat} (hl : l.stackTraces = false) (d : Nat) (N : Nat) (p1 : Int32) (M : zMem) : zT l Z zfull ad (.code yX7_left cX7_left 2 (some .int)) yX7_left (d + 7) false zbn [.ref (ad 0), .int p1] M (fX7_left N p1 M) :=
  zT_of hl (by decide +kernel) (Nat.le_of_ble_eq_true rfl) (fun X hC hE hN => gX7_left_B0 hC hE hN N p1 M)

def fX7_barredUnder_B50 (o : Nat) (N : Nat) (v3 : Int32) (s0 : Int32) (M : zMem) : zRES :=
  some (.inl (v3 + s0), M)
def fX7_barredUnder_B24 (o : Nat) (N : Nat) (v2 : Int32) (s0 : Int32) (M : zMem) : zRES :=
  if zin v2 60 = true then
  if ((M.1 55 v2.toNatClampNeg) &&& (M.1 37 1)) = 0 then
    fX7_barredUnder_B50 o N s0 0 M
  else
    fX7_barredUnder_B50 o N s0 2 M
  else none
def fX7_barredUnder (o : Nat) (N : Nat) (p2 : Int32) (M : zMem) : zRES :=
  if zin p2 60 = true then
  zb (fX7_contains N (M.2 o 10) (M.1 54 p2.toNatClampNeg) M) fun r2 M3 =>
  if r2 = 0 then
    fX7_barredUnder_B24 o N p2 1 M3
  else
    fX7_barredUnder_B24 o N p2 0 M3
  else none
set_option maxRecDepth 20000 in
set_option maxHeartbeats 2000000 in
theorem gX7_barredUnder_B50 {l : Launch} {Z : zZ} {ad : Nat → Nat} {d : Nat} {X : zX} {cs : Nat × Nat} (hC : zC l Z zfull ad X RX7 cX7_barredUnder 5 (some .int) (d + 1)) (hE : zEnd Z zfull ad X false) (hN : zNoX X) {o : Nat} (ho : o = 1 ∨ o = 15) (N : Nat) (v3 : Int32) (s0 : Int32) (M : zMem) : zG l Z zfull ad X cs 50 [(3, .int v3)] [.int s0] M (fX7_barredUnder_B50 o N v3 s0 M) := by
  unfold fX7_barredUnder_B50
  have hlv := zqAo ho
  refine zg_istore hC (L' := [(4, _), (3, _)]) dX7_barredUnder_50 (by decide) rfl ?_
  refine zg_iload_n hC 1 dX7_barredUnder_52 rfl ?_
  refine zg_iload hC 0 dX7_barredUnder_53 rfl ?_
  refine zg_iadd hC dX7_barredUnder_55 ?_
  exact zg_ret hC hE dX7_barredUnder_56
set_option maxRecDepth 20000 in
set_option maxHeartbeats 2000000 in
theorem gX7_barredUnder_B24 {l : Launch} {Z : zZ} {ad : Nat → Nat} {d : Nat} {X : zX} {cs : Nat × Nat} (hC : zC l Z zfull ad X RX7 cX7_barredUnder 5 (some .int) (d + 1)) (hE : zEnd Z zfull ad X false) (hN : zNoX X) {o : Nat} (ho : o = 1 ∨ o = 15) (N : Nat) (v2 : Int32) (s0 : Int32) (M : zMem) : zG l Z zfull ad X cs 24 [(0, .ref (ad 0)), (2, .int v2)] [.int s0] M (fX7_barredUnder_B24 o N v2 s0 M) := by
  unfold fX7_barredUnder_B24
  have hlv := zqAo ho
  refine zg_istore_n hC (L' := [(3, _), (0, _), (2, _)]) dX7_barredUnder_24 (by decide) rfl ?_
  refine zg_aload_n hC 1 dX7_barredUnder_25 rfl ?_
  refine zg_get hC (k := 0) (v := .ref (ad 53)) ffX7_50 dX7_barredUnder_26 zq0 zk0 rfl ?_
  refine zg_get hC (k := 53) (v := .ref (ad 55)) ffX7_256 dX7_barredUnder_29 zq53 zk53 rfl ?_
  refine zg_iload_n hC 2 dX7_barredUnder_32 rfl ?_
  refine zg_iald hC (k := 55) dX7_barredUnder_33 zq55 zk55 (fun h5 => ?_)
  refine zg_aload_n hC 1 dX7_barredUnder_34 rfl ?_
  refine zg_get hC (k := 0) (v := .ref (ad 37)) ffX7_36 dX7_barredUnder_35 zq0 zk0 rfl ?_
  refine zg_get hC (k := 37) (v := .int (M.1 37 1)) ffX7_303 dX7_barredUnder_38 zq37 zk37 rfl ?_
  refine zg_iand hC dX7_barredUnder_41 ?_
  refine zg_if_ne hC (tgt := 49) dX7_barredUnder_42 (by decide) (fun c6 => ?_) (fun c6 => ?_)
  · refine zg_iconst hC (v := 0) dX7_barredUnder_45 (by decide) ?_
    refine zg_goto hC (tgt := 50) dX7_barredUnder_46 (by decide) ?_
    exact zg_sub [0] rfl (gX7_barredUnder_B50 hC hE hN ho N s0 0 M)
  · refine zg_iconst hC (v := 2) dX7_barredUnder_49 (by decide) ?_
    exact zg_sub [0] rfl (gX7_barredUnder_B50 hC hE hN ho N s0 2 M)
set_option maxRecDepth 20000 in
set_option maxHeartbeats 2000000 in
theorem gX7_barredUnder_B0 {l : Launch} {Z : zZ} {ad : Nat → Nat} {d : Nat} {X : zX} {cs : Nat × Nat} (hC : zC l Z zfull ad X RX7 cX7_barredUnder 5 (some .int) (d + 1)) (hE : zEnd Z zfull ad X false) (hN : zNoX X) {o : Nat} (ho : o = 1 ∨ o = 15) (N : Nat) (p2 : Int32) (M : zMem) : zG l Z zfull ad X cs 0 [(0, .ref (ad 0)), (1, .ref (ad o)), (2, .int p2)] [] M (fX7_barredUnder o N p2 M) := by
  unfold fX7_barredUnder
  have hlv := zqAo ho
  refine zg_aload_n hC 1 dX7_barredUnder_0 rfl ?_
  refine zg_get hC (k := o) (v := .long (M.2 o 10)) ffX7_137 dX7_barredUnder_1 (hlv 0 (by decide)) (zka0 ho) rfl ?_
  refine zg_aload_n hC 0 dX7_barredUnder_4 rfl ?_
  refine zg_get hC (k := 0) (v := .ref (ad 53)) ffX7_50 dX7_barredUnder_5 zq0 zk0 rfl ?_
  refine zg_get hC (k := 53) (v := .ref (ad 54)) ffX7_253 dX7_barredUnder_8 zq53 zk53 rfl ?_
  refine zg_iload_n hC 2 dX7_barredUnder_11 rfl ?_
  refine zg_iald hC (k := 54) dX7_barredUnder_12 zq54 zk54 (fun h1 => ?_)
  refine zg_callSi hC hE hN (As := [.long (M.2 o 10), .int (M.1 54 p2.toNatClampNeg)]) (S := []) rfl (tX7_contains (zflag hC) d N (M.2 o 10) (M.1 54 p2.toNatClampNeg) M) lkX7_175 rfl dX7_barredUnder_13 (Nat.le_of_ble_eq_true rfl) (fun r2 M3 er2 => ?_)
  refine zg_if_eq hC (tgt := 23) dX7_barredUnder_16 (by decide) (fun c4 => ?_) (fun c4 => ?_)
  · refine zg_iconst hC (v := 1) dX7_barredUnder_23 (by decide) ?_
    exact zg_sub [0, 2] rfl (gX7_barredUnder_B24 hC hE hN ho N p2 1 M3)
  · refine zg_iconst hC (v := 0) dX7_barredUnder_19 (by decide) ?_
    refine zg_goto hC (tgt := 24) dX7_barredUnder_20 (by decide) ?_
    exact zg_sub [0, 2] rfl (gX7_barredUnder_B24 hC hE hN ho N p2 0 M3)
theorem tX7_barredUnder {l : Launch} {Z : zZ} {ad : Nat → Nat} (hl : l.stackTraces = false) (d : Nat) {o : Nat} (ho : o = 1 ∨ o = 15) (N : Nat) (p2 : Int32) (M : zMem) : zT l Z zfull ad (.code yX7_barredUnder cX7_barredUnder 5 (some .int)) yX7_barredUnder (d + 1) false zbn [.ref (ad 0), .ref (ad o), .int p2] M (fX7_barredUnder o N p2 M) :=
  zT_of hl (by decide +kernel) (Nat.le_of_ble_eq_true rfl) (fun X hC hE hN => gX7_barredUnder_B0 hC hE hN ho N p2 M)

def fX7_barred (N : Nat) (p1 : Int32) (M : zMem) : zRES :=
  zb (fX7_checkBatch N p1 M) fun r1 M2 =>
  zb (fX7_barredUnder 1 N p1 M2) fun r3 M4 =>
  some (.inl r3, M4)
set_option maxRecDepth 20000 in
set_option maxHeartbeats 2000000 in
theorem gX7_barred_B0 {l : Launch} {Z : zZ} {ad : Nat → Nat} {d : Nat} {X : zX} {cs : Nat × Nat} (hC : zC l Z zfull ad X RX7 cX7_barred 2 (some .int) (d + 7)) (hE : zEnd Z zfull ad X false) (hN : zNoX X) (N : Nat) (p1 : Int32) (M : zMem) : zG l Z zfull ad X cs 0 [(0, .ref (ad 0)), (1, .int p1)] [] M (fX7_barred N p1 M) := by
  unfold fX7_barred
  refine zg_aload_n hC 0 dX7_barred_0 rfl ?_
  refine zg_iload_n hC 1 dX7_barred_1 rfl ?_
  refine zg_callVv hC hE hN (k := 0) (As := [.int p1]) (S := []) rfl (tX7_checkBatch (zflag hC) d N p1 M) lkX7_250 rfl dX7_barred_2 zq0 zk0 rfl rfl (Nat.le_of_ble_eq_true rfl) (fun r1 M2 er1 => ?_)
  refine zg_aload_n hC 0 dX7_barred_5 rfl ?_
  refine zg_aload_n hC 0 dX7_barred_6 rfl ?_
  refine zg_get hC (k := 0) (v := .ref (ad 1)) ffX7_10 dX7_barred_7 zq0 zk0 rfl ?_
  refine zg_iload_n hC 1 dX7_barred_10 rfl ?_
  refine zg_callVi hC hE hN (k := 0) (As := [.ref (ad 1), .int p1]) (S := []) rfl (tX7_barredUnder (zflag hC) (d + 5) (Or.inl rfl) N p1 M2) lkX7_262 rfl dX7_barred_11 zq0 zk0 rfl rfl (Nat.le_of_ble_eq_true rfl) (fun r3 M4 er3 => ?_)
  exact zg_ret hC hE dX7_barred_14
theorem tX7_barred {l : Launch} {Z : zZ} {ad : Nat → Nat} (hl : l.stackTraces = false) (d : Nat) (N : Nat) (p1 : Int32) (M : zMem) : zT l Z zfull ad (.code yX7_barred cX7_barred 2 (some .int)) yX7_barred (d + 7) false zbn [.ref (ad 0), .int p1] M (fX7_barred N p1 M) :=
  zT_of hl (by decide +kernel) (Nat.le_of_ble_eq_true rfl) (fun X hC hE hN => gX7_barred_B0 hC hE hN N p1 M)

def fX7_repeatCall (N : Nat) (p1 : Int32) (p2 : Int32) (p3 : Int32) (M : zMem) : zRES :=
  if p1 = 0 then
    zl (zsI M 15 0 p2) fun M2 =>
    some (.inl 0, M2)
  else
  if p1 = 1 then
    zb (fX0_becomeCandidate 15 N p2 M) fun r4 M5 =>
    some (.inl 0, M5)
  else
  if p1 = 2 then
    zb (fX0_askForVote 15 N p2 p3 M) fun r7 M8 =>
    some (.inl 0, M8)
  else
  if p1 = 3 then
    zb (fX0_addVersion 15 N p2 M) fun r10 M11 =>
    some (.inl 0, M11)
  else
  if p1 = 4 then
    zb (fX0_sendLog 15 N p2 p3 M) fun r13 M14 =>
    some (.inl 0, M14)
  else
    some (.inl 0, M)
set_option maxRecDepth 20000 in
set_option maxHeartbeats 2000000 in
theorem gX7_repeatCall_B0 {l : Launch} {Z : zZ} {ad : Nat → Nat} {d : Nat} {X : zX} {cs : Nat × Nat} (hC : zC l Z zfull ad X RX7 cX7_repeatCall 4 none (d + 5)) (hE : zEnd Z zfull ad X true) (hN : zNoX X) (N : Nat) (p1 : Int32) (p2 : Int32) (p3 : Int32) (M : zMem) : zG l Z zfull ad X cs 0 [(0, .ref (ad 0)), (1, .int p1), (2, .int p2), (3, .int p3)] [] M (fX7_repeatCall N p1 p2 p3 M) := by
  unfold fX7_repeatCall
  refine zg_iload_n hC 1 dX7_repeatCall_0 rfl ?_
  refine zg_ite (fun c1 => ?_) (fun c1 => ?_)
  · refine zg_tswI hC (tgt := 36) (off := 35) c1 dX7_repeatCall_1 (by decide) (by decide) (by decide +kernel) (by decide) ?_
    refine zg_aload_n hC 0 dX7_repeatCall_36 rfl ?_
    refine zg_get hC (k := 0) (v := .ref (ad 15)) ffX7_16 dX7_repeatCall_37 zq0 zk0 rfl ?_
    refine zg_iload_n hC 2 dX7_repeatCall_40 rfl ?_
    refine zg_putI hC (k := 15) fpX7_68 dX7_repeatCall_41 zq15 zk15 rfl (fun M2 eM2 => ?_)
    refine zg_goto hC (tgt := 96) dX7_repeatCall_44 (by decide) ?_
    exact zg_retv hC hE dX7_repeatCall_96
  refine zg_ite (fun c3 => ?_) (fun c3 => ?_)
  · refine zg_tswI hC (tgt := 47) (off := 46) c3 dX7_repeatCall_1 (by decide) (by decide) (by decide +kernel) (by decide) ?_
    refine zg_aload_n hC 0 dX7_repeatCall_47 rfl ?_
    refine zg_get hC (k := 0) (v := .ref (ad 15)) ffX7_16 dX7_repeatCall_48 zq0 zk0 rfl ?_
    refine zg_iload_n hC 2 dX7_repeatCall_51 rfl ?_
    refine zg_callVv hC hE hN (k := 15) (As := [.int p2]) (S := []) rfl (tX0_becomeCandidate (zflag hC) (d + 4) (Or.inr rfl) zqA15 N p2 M) lkX7_95 rfl dX7_repeatCall_52 zq15 zk15 rfl rfl (Nat.le_of_ble_eq_true rfl) (fun r4 M5 er4 => ?_)
    refine zg_goto hC (tgt := 96) dX7_repeatCall_55 (by decide) ?_
    exact zg_retv hC hE dX7_repeatCall_96
  refine zg_ite (fun c6 => ?_) (fun c6 => ?_)
  · refine zg_tswI hC (tgt := 58) (off := 57) c6 dX7_repeatCall_1 (by decide) (by decide) (by decide +kernel) (by decide) ?_
    refine zg_aload_n hC 0 dX7_repeatCall_58 rfl ?_
    refine zg_get hC (k := 0) (v := .ref (ad 15)) ffX7_16 dX7_repeatCall_59 zq0 zk0 rfl ?_
    refine zg_iload_n hC 2 dX7_repeatCall_62 rfl ?_
    refine zg_iload_n hC 3 dX7_repeatCall_63 rfl ?_
    refine zg_callVi hC hE hN (k := 15) (As := [.int p2, .int p3]) (S := []) rfl (tX0_askForVote (zflag hC) (d + 2) (Or.inr rfl) zqA15 N p2 p3 M) lkX7_110 rfl dX7_repeatCall_64 zq15 zk15 rfl rfl (Nat.le_of_ble_eq_true rfl) (fun r7 M8 er7 => ?_)
    refine zg_pop hC dX7_repeatCall_67 rfl ?_
    refine zg_goto hC (tgt := 96) dX7_repeatCall_68 (by decide) ?_
    exact zg_retv hC hE dX7_repeatCall_96
  refine zg_ite (fun c9 => ?_) (fun c9 => ?_)
  · refine zg_tswI hC (tgt := 71) (off := 70) c9 dX7_repeatCall_1 (by decide) (by decide) (by decide +kernel) (by decide) ?_
    refine zg_aload_n hC 0 dX7_repeatCall_71 rfl ?_
    refine zg_get hC (k := 0) (v := .ref (ad 15)) ffX7_16 dX7_repeatCall_72 zq0 zk0 rfl ?_
    refine zg_iload_n hC 2 dX7_repeatCall_75 rfl ?_
    refine zg_callVi hC hE hN (k := 15) (As := [.int p2]) (S := []) rfl (tX0_addVersion (zflag hC) (d + 1) (Or.inr rfl) zqA15 N p2 M) lkX7_130 rfl dX7_repeatCall_76 zq15 zk15 rfl rfl (Nat.le_of_ble_eq_true rfl) (fun r10 M11 er10 => ?_)
    refine zg_pop hC dX7_repeatCall_79 rfl ?_
    refine zg_goto hC (tgt := 96) dX7_repeatCall_80 (by decide) ?_
    exact zg_retv hC hE dX7_repeatCall_96
  refine zg_ite (fun c12 => ?_) (fun c12 => ?_)
  · refine zg_tswI hC (tgt := 83) (off := 82) c12 dX7_repeatCall_1 (by decide) (by decide) (by decide +kernel) (by decide) ?_
    refine zg_aload_n hC 0 dX7_repeatCall_83 rfl ?_
    refine zg_get hC (k := 0) (v := .ref (ad 15)) ffX7_16 dX7_repeatCall_84 zq0 zk0 rfl ?_
    refine zg_iload_n hC 2 dX7_repeatCall_87 rfl ?_
    refine zg_iload_n hC 3 dX7_repeatCall_88 rfl ?_
    refine zg_callVi hC hE hN (k := 15) (As := [.int p2, .int p3]) (S := []) rfl (tX0_sendLog (zflag hC) d (Or.inr rfl) zqA15 N p2 p3 M) lkX7_141 rfl dX7_repeatCall_89 zq15 zk15 rfl rfl (Nat.le_of_ble_eq_true rfl) (fun r13 M14 er13 => ?_)
    refine zg_pop hC dX7_repeatCall_92 rfl ?_
    refine zg_goto hC (tgt := 96) dX7_repeatCall_93 (by decide) ?_
    exact zg_retv hC hE dX7_repeatCall_96
  refine zg_tswO hC (tgt := 96) dX7_repeatCall_1 (ztsw5 c1 c3 c6 c9 c12) (by decide) ?_
  exact zg_retv hC hE dX7_repeatCall_96
theorem tX7_repeatCall {l : Launch} {Z : zZ} {ad : Nat → Nat} (hl : l.stackTraces = false) (d : Nat) (N : Nat) (p1 : Int32) (p2 : Int32) (p3 : Int32) (M : zMem) : zT l Z zfull ad (.code yX7_repeatCall cX7_repeatCall 4 none) yX7_repeatCall (d + 5) true zbn [.ref (ad 0), .int p1, .int p2, .int p3] M (fX7_repeatCall N p1 p2 p3 M) :=
  zT_of hl (by decide +kernel) (Nat.le_of_ble_eq_true rfl) (fun X hC hE hN => gX7_repeatCall_B0 hC hE hN N p1 p2 p3 M)

def fX7_repeatHistory_B9 (N : Nat) : Nat → Int32 → zMem → zRES
  | 0, _, _ => none
  | n + 1, v1, M =>
  if (M.1 29 0) ≤ v1 then
    some (.inl 0, M)
  else
    if zin v1 512 = true then
    if zin v1 512 = true then
    if zin v1 512 = true then
    zb (fX7_repeatCall N (M.1 30 v1.toNatClampNeg) (M.1 31 v1.toNatClampNeg) (M.1 32 v1.toNatClampNeg) M) fun r7 M8 =>
    fX7_repeatHistory_B9 N n (v1 + 1) M8
    else none
    else none
    else none
def fX7_repeatHistory (N : Nat) (M : zMem) : zRES :=
  zb (fX0_begin 15 N M) fun r1 M2 =>
  fX7_repeatHistory_B9 N N 0 M2
set_option maxRecDepth 20000 in
set_option maxHeartbeats 2000000 in
theorem gX7_repeatHistory_B9 {l : Launch} {Z : zZ} {ad : Nat → Nat} {d : Nat} {X : zX} {cs : Nat × Nat} (hC : zC l Z zfull ad X RX7 cX7_repeatHistory 2 none (d + 6)) (hE : zEnd Z zfull ad X true) (hN : zNoX X) (N : Nat) : ∀ (n : Nat) (v1 : Int32) (M : zMem), zG l Z zfull ad X cs 9 [(0, .ref (ad 0)), (1, .int v1)] [] M (fX7_repeatHistory_B9 N n v1 M) := by
  intro n
  induction n with
  | zero =>
    intro v1 M
    exact zg_none
  | succ n ih =>
  intro v1 M
  rw [fX7_repeatHistory_B9]
  refine zg_iload_n hC 1 dX7_repeatHistory_9 rfl ?_
  refine zg_aload_n hC 0 dX7_repeatHistory_10 rfl ?_
  refine zg_get hC (k := 0) (v := .ref (ad 29)) ffX7_22 dX7_repeatHistory_11 zq0 zk0 rfl ?_
  refine zg_get hC (k := 29) (v := .int (M.1 29 0)) ffX7_346 dX7_repeatHistory_14 zq29 zk29 rfl ?_
  refine zg_icmp_ge hC (tgt := 57) dX7_repeatHistory_17 (by decide) (fun c3 => ?_) (fun c3 => ?_)
  · exact zg_retv hC hE dX7_repeatHistory_57
  · refine zg_aload_n hC 0 dX7_repeatHistory_20 rfl ?_
    refine zg_aload_n hC 0 dX7_repeatHistory_21 rfl ?_
    refine zg_get hC (k := 0) (v := .ref (ad 29)) ffX7_22 dX7_repeatHistory_22 zq0 zk0 rfl ?_
    refine zg_get hC (k := 29) (v := .ref (ad 30)) ffX7_347 dX7_repeatHistory_25 zq29 zk29 rfl ?_
    refine zg_iload_n hC 1 dX7_repeatHistory_28 rfl ?_
    refine zg_iald hC (k := 30) dX7_repeatHistory_29 zq30 zk30 (fun h4 => ?_)
    refine zg_aload_n hC 0 dX7_repeatHistory_30 rfl ?_
    refine zg_get hC (k := 0) (v := .ref (ad 29)) ffX7_22 dX7_repeatHistory_31 zq0 zk0 rfl ?_
    refine zg_get hC (k := 29) (v := .ref (ad 31)) ffX7_350 dX7_repeatHistory_34 zq29 zk29 rfl ?_
    refine zg_iload_n hC 1 dX7_repeatHistory_37 rfl ?_
    refine zg_iald hC (k := 31) dX7_repeatHistory_38 zq31 zk31 (fun h5 => ?_)
    refine zg_aload_n hC 0 dX7_repeatHistory_39 rfl ?_
    refine zg_get hC (k := 0) (v := .ref (ad 29)) ffX7_22 dX7_repeatHistory_40 zq0 zk0 rfl ?_
    refine zg_get hC (k := 29) (v := .ref (ad 32)) ffX7_353 dX7_repeatHistory_43 zq29 zk29 rfl ?_
    refine zg_iload_n hC 1 dX7_repeatHistory_46 rfl ?_
    refine zg_iald hC (k := 32) dX7_repeatHistory_47 zq32 zk32 (fun h6 => ?_)
    refine zg_callVv hC hE hN (k := 0) (As := [.int (M.1 30 v1.toNatClampNeg), .int (M.1 31 v1.toNatClampNeg), .int (M.1 32 v1.toNatClampNeg)]) (S := []) rfl (tX7_repeatCall (zflag hC) d N (M.1 30 v1.toNatClampNeg) (M.1 31 v1.toNatClampNeg) (M.1 32 v1.toNatClampNeg) M) lkX7_356 rfl dX7_repeatHistory_48 zq0 zk0 rfl rfl (Nat.le_of_ble_eq_true rfl) (fun r7 M8 er7 => ?_)
    refine zg_iinc hC 1 (v := v1 + 1) (L' := [(1, _), (0, _)]) dX7_repeatHistory_51 rfl (by rfl) (by decide) rfl ?_
    refine zg_goto hC (tgt := 9) dX7_repeatHistory_54 (by decide) ?_
    exact zg_sub [1, 0] rfl (ih (v1 + 1) M8)
set_option maxRecDepth 20000 in
set_option maxHeartbeats 2000000 in
theorem gX7_repeatHistory_B0 {l : Launch} {Z : zZ} {ad : Nat → Nat} {d : Nat} {X : zX} {cs : Nat × Nat} (hC : zC l Z zfull ad X RX7 cX7_repeatHistory 2 none (d + 6)) (hE : zEnd Z zfull ad X true) (hN : zNoX X) (N : Nat) (M : zMem) : zG l Z zfull ad X cs 0 [(0, .ref (ad 0))] [] M (fX7_repeatHistory N M) := by
  unfold fX7_repeatHistory
  refine zg_aload_n hC 0 dX7_repeatHistory_0 rfl ?_
  refine zg_get hC (k := 0) (v := .ref (ad 15)) ffX7_16 dX7_repeatHistory_1 zq0 zk0 rfl ?_
  refine zg_callVv hC hE hN (k := 15) (As := []) (S := []) rfl (tX0_begin (zflag hC) (d + 4) (Or.inr rfl) zqA15 N M) lkX7_343 rfl dX7_repeatHistory_4 zq15 zk15 rfl rfl (Nat.le_of_ble_eq_true rfl) (fun r1 M2 er1 => ?_)
  refine zg_iconst hC (v := 0) dX7_repeatHistory_7 (by decide) ?_
  refine zg_istore_n hC (L' := [(1, _), (0, _)]) dX7_repeatHistory_8 (by decide) rfl ?_
  exact zg_sub [1, 0] rfl (gX7_repeatHistory_B9 hC hE hN N N 0 M2)
theorem tX7_repeatHistory {l : Launch} {Z : zZ} {ad : Nat → Nat} (hl : l.stackTraces = false) (d : Nat) (N : Nat) (M : zMem) : zT l Z zfull ad (.code yX7_repeatHistory cX7_repeatHistory 2 none) yX7_repeatHistory (d + 6) true zbn [.ref (ad 0)] M (fX7_repeatHistory N M) :=
  zT_of hl (by decide +kernel) (Nat.le_of_ble_eq_true rfl) (fun X hC hE hN => gX7_repeatHistory_B0 hC hE hN N M)

def fX7_barredAnew (N : Nat) (p1 : Int32) (M : zMem) : zRES :=
  zb (fX7_checkBatch N p1 M) fun r1 M2 =>
  zb (fX7_repeatHistory N M2) fun r3 M4 =>
  zb (fX7_barredUnder 15 N p1 M4) fun r5 M6 =>
  some (.inl r5, M6)
set_option maxRecDepth 20000 in
set_option maxHeartbeats 2000000 in
theorem gX7_barredAnew_B0 {l : Launch} {Z : zZ} {ad : Nat → Nat} {d : Nat} {X : zX} {cs : Nat × Nat} (hC : zC l Z zfull ad X RX7 cX7_barredAnew 2 (some .int) (d + 7)) (hE : zEnd Z zfull ad X false) (hN : zNoX X) (N : Nat) (p1 : Int32) (M : zMem) : zG l Z zfull ad X cs 0 [(0, .ref (ad 0)), (1, .int p1)] [] M (fX7_barredAnew N p1 M) := by
  unfold fX7_barredAnew
  refine zg_aload_n hC 0 dX7_barredAnew_0 rfl ?_
  refine zg_iload_n hC 1 dX7_barredAnew_1 rfl ?_
  refine zg_callVv hC hE hN (k := 0) (As := [.int p1]) (S := []) rfl (tX7_checkBatch (zflag hC) d N p1 M) lkX7_250 rfl dX7_barredAnew_2 zq0 zk0 rfl rfl (Nat.le_of_ble_eq_true rfl) (fun r1 M2 er1 => ?_)
  refine zg_aload_n hC 0 dX7_barredAnew_5 rfl ?_
  refine zg_callVv hC hE hN (k := 0) (As := []) (S := []) rfl (tX7_repeatHistory (zflag hC) d N M2) lkX7_266 rfl dX7_barredAnew_6 zq0 zk0 rfl rfl (Nat.le_of_ble_eq_true rfl) (fun r3 M4 er3 => ?_)
  refine zg_aload_n hC 0 dX7_barredAnew_9 rfl ?_
  refine zg_aload_n hC 0 dX7_barredAnew_10 rfl ?_
  refine zg_get hC (k := 0) (v := .ref (ad 15)) ffX7_16 dX7_barredAnew_11 zq0 zk0 rfl ?_
  refine zg_iload_n hC 1 dX7_barredAnew_14 rfl ?_
  refine zg_callVi hC hE hN (k := 0) (As := [.ref (ad 15), .int p1]) (S := []) rfl (tX7_barredUnder (zflag hC) (d + 5) (Or.inr rfl) N p1 M4) lkX7_262 rfl dX7_barredAnew_15 zq0 zk0 rfl rfl (Nat.le_of_ble_eq_true rfl) (fun r5 M6 er5 => ?_)
  exact zg_ret hC hE dX7_barredAnew_18
theorem tX7_barredAnew {l : Launch} {Z : zZ} {ad : Nat → Nat} (hl : l.stackTraces = false) (d : Nat) (N : Nat) (p1 : Int32) (M : zMem) : zT l Z zfull ad (.code yX7_barredAnew cX7_barredAnew 2 (some .int)) yX7_barredAnew (d + 7) false zbn [.ref (ad 0), .int p1] M (fX7_barredAnew N p1 M) :=
  zT_of hl (by decide +kernel) (Nat.le_of_ble_eq_true rfl) (fun X hC hE hN => gX7_barredAnew_B0 hC hE hN N p1 M)

def fX7_checkLot (N : Nat) (p1 : Int32) (M : zMem) : zRES :=
  if p1 < 0 then
    some (.inr 1, M)
  else
    if p1 < (M.1 37 0) then
      some (.inl 0, M)
    else
      some (.inr 1, M)
set_option maxRecDepth 20000 in
set_option maxHeartbeats 2000000 in
theorem gX7_checkLot_B0 {l : Launch} {Z : zZ} {ad : Nat → Nat} {d : Nat} {X : zX} (hC : zC l Z zfull ad X RX7 cX7_checkLot 2 none (d + 6)) (hE : zEnd Z zfull ad X true) (hN : zNoX X) (N : Nat) (p1 : Int32) (M : zMem) : zG l Z zfull ad X (0, 0) 0 [(0, .ref (ad 0)), (1, .int p1)] [] M (fX7_checkLot N p1 M) := by
  unfold fX7_checkLot
  refine zg_iload_n hC 1 dX7_checkLot_0 rfl ?_
  refine zg_if_lt hC (tgt := 15) dX7_checkLot_1 (by decide) (fun c1 => ?_) (fun c1 => ?_)
  · exact zg_throwW hC hE hN (by omega) txX7_161 ckX7_157 skX7_301 dX7_checkLot_15 dX7_checkLot_18 dX7_checkLot_19 dX7_checkLot_22 dX7_checkLot_25 (Nat.le_of_ble_eq_true rfl)
  · refine zg_iload_n hC 1 dX7_checkLot_4 rfl ?_
    refine zg_aload_n hC 0 dX7_checkLot_5 rfl ?_
    refine zg_get hC (k := 0) (v := .ref (ad 37)) ffX7_36 dX7_checkLot_6 zq0 zk0 rfl ?_
    refine zg_get hC (k := 37) (v := .int (M.1 37 0)) ffX7_185 dX7_checkLot_9 zq37 zk37 rfl ?_
    refine zg_icmp_lt hC (tgt := 26) dX7_checkLot_12 (by decide) (fun c2 => ?_) (fun c2 => ?_)
    · exact zg_retv hC hE dX7_checkLot_26
    · exact zg_throwW hC hE hN (by omega) txX7_161 ckX7_157 skX7_301 dX7_checkLot_15 dX7_checkLot_18 dX7_checkLot_19 dX7_checkLot_22 dX7_checkLot_25 (Nat.le_of_ble_eq_true rfl)
theorem tX7_checkLot {l : Launch} {Z : zZ} {ad : Nat → Nat} (hl : l.stackTraces = false) (d : Nat) (N : Nat) (p1 : Int32) (M : zMem) : zT l Z zfull ad (.code yX7_checkLot cX7_checkLot 2 none) yX7_checkLot (d + 6) true zbn [.ref (ad 0), .int p1] M (fX7_checkLot N p1 M) :=
  zT_of hl (by decide +kernel) (Nat.le_of_ble_eq_true rfl) (fun X hC hE hN => gX7_checkLot_B0 hC hE hN N p1 M)

def fX7_traced_B40 (N : Nat) (again9 : Int32 → Int32 → Int32 → zMem → zRES) (v1 : Int32) (v2 : Int32) (v3 : Int32) (M : zMem) : zRES :=
  again9 v1 v2 (v3 + 1) M
def fX7_traced_B9 (N : Nat) : Nat → Int32 → Int32 → Int32 → zMem → zRES
  | 0, _, _, _, _ => none
  | n + 1, v1, v2, v3, M =>
  if (M.1 53 0) ≤ v3 then
    some (.inl v2, M)
  else
    if zin v3 60 = true then
    zb (fX7_contains N ((M.1 55 v3.toNatClampNeg).toInt64) v1 M) fun r5 M6 =>
    if r5 = 0 then
      fX7_traced_B40 N (fX7_traced_B9 N n) v1 v2 v3 M6
    else
      fX7_traced_B40 N (fX7_traced_B9 N n) v1 (v2 + 1) v3 M6
    else none
def fX7_traced (N : Nat) (p1 : Int32) (M : zMem) : zRES :=
  zb (fX7_checkLot N p1 M) fun r1 M2 =>
  fX7_traced_B9 N N p1 0 0 M2
set_option maxRecDepth 20000 in
set_option maxHeartbeats 2000000 in
theorem gX7_traced_B40 {l : Launch} {Z : zZ} {ad : Nat → Nat} {d : Nat} {X : zX} {cs : Nat × Nat} (hC : zC l Z zfull ad X RX7 cX7_traced 4 (some .int) (d + 7)) (hE : zEnd Z zfull ad X false) (hN : zNoX X) (N : Nat) {again9 : Int32 → Int32 → Int32 → zMem → zRES} (hag9 : ∀ v1 v2 v3 M, zG l Z zfull ad X cs 9 [(0, .ref (ad 0)), (1, .int v1), (2, .int v2), (3, .int v3)] [] M (again9 v1 v2 v3 M)) (v1 : Int32) (v2 : Int32) (v3 : Int32) (M : zMem) : zG l Z zfull ad X cs 40 [(0, .ref (ad 0)), (1, .int v1), (2, .int v2), (3, .int v3)] [] M (fX7_traced_B40 N again9 v1 v2 v3 M) := by
  unfold fX7_traced_B40
  refine zg_iinc hC 3 (v := v3 + 1) (L' := [(3, _), (0, _), (1, _), (2, _)]) dX7_traced_40 rfl (by rfl) (by decide) rfl ?_
  refine zg_goto hC (tgt := 9) dX7_traced_43 (by decide) ?_
  exact zg_sub [1, 2, 3, 0] rfl (hag9 v1 v2 (v3 + 1) M)
set_option maxRecDepth 20000 in
set_option maxHeartbeats 2000000 in
theorem gX7_traced_B9 {l : Launch} {Z : zZ} {ad : Nat → Nat} {d : Nat} {X : zX} {cs : Nat × Nat} (hC : zC l Z zfull ad X RX7 cX7_traced 4 (some .int) (d + 7)) (hE : zEnd Z zfull ad X false) (hN : zNoX X) (N : Nat) : ∀ (n : Nat) (v1 : Int32) (v2 : Int32) (v3 : Int32) (M : zMem), zG l Z zfull ad X cs 9 [(0, .ref (ad 0)), (1, .int v1), (2, .int v2), (3, .int v3)] [] M (fX7_traced_B9 N n v1 v2 v3 M) := by
  intro n
  induction n with
  | zero =>
    intro v1 v2 v3 M
    exact zg_none
  | succ n ih =>
  intro v1 v2 v3 M
  rw [fX7_traced_B9]
  refine zg_iload_n hC 3 dX7_traced_9 rfl ?_
  refine zg_aload_n hC 0 dX7_traced_10 rfl ?_
  refine zg_get hC (k := 0) (v := .ref (ad 53)) ffX7_50 dX7_traced_11 zq0 zk0 rfl ?_
  refine zg_get hC (k := 53) (v := .int (M.1 53 0)) ffX7_247 dX7_traced_14 zq53 zk53 rfl ?_
  refine zg_icmp_ge hC (tgt := 46) dX7_traced_17 (by decide) (fun c3 => ?_) (fun c3 => ?_)
  · refine zg_iload_n hC 2 dX7_traced_46 rfl ?_
    exact zg_ret hC hE dX7_traced_47
  · refine zg_aload_n hC 0 dX7_traced_20 rfl ?_
    refine zg_get hC (k := 0) (v := .ref (ad 53)) ffX7_50 dX7_traced_21 zq0 zk0 rfl ?_
    refine zg_get hC (k := 53) (v := .ref (ad 55)) ffX7_256 dX7_traced_24 zq53 zk53 rfl ?_
    refine zg_iload_n hC 3 dX7_traced_27 rfl ?_
    refine zg_iald hC (k := 55) dX7_traced_28 zq55 zk55 (fun h4 => ?_)
    refine zg_i2l hC dX7_traced_29 ?_
    refine zg_iload_n hC 1 dX7_traced_30 rfl ?_
    refine zg_callSi hC hE hN (As := [.long ((M.1 55 v3.toNatClampNeg).toInt64), .int v1]) (S := []) rfl (tX7_contains (zflag hC) (d + 6) N ((M.1 55 v3.toNatClampNeg).toInt64) v1 M) lkX7_175 rfl dX7_traced_31 (Nat.le_of_ble_eq_true rfl) (fun r5 M6 er5 => ?_)
    refine zg_if_eq hC (tgt := 40) dX7_traced_34 (by decide) (fun c7 => ?_) (fun c7 => ?_)
    · exact zg_sub [0, 1, 2, 3] rfl (gX7_traced_B40 hC hE hN N ih v1 v2 v3 M6)
    · refine zg_iinc hC 2 (v := v2 + 1) (L' := [(2, _), (0, _), (1, _), (3, _)]) dX7_traced_37 rfl (by rfl) (by decide) rfl ?_
      exact zg_sub [1, 2, 0, 3] rfl (gX7_traced_B40 hC hE hN N ih v1 (v2 + 1) v3 M6)
set_option maxRecDepth 20000 in
set_option maxHeartbeats 2000000 in
theorem gX7_traced_B0 {l : Launch} {Z : zZ} {ad : Nat → Nat} {d : Nat} {X : zX} {cs : Nat × Nat} (hC : zC l Z zfull ad X RX7 cX7_traced 4 (some .int) (d + 7)) (hE : zEnd Z zfull ad X false) (hN : zNoX X) (N : Nat) (p1 : Int32) (M : zMem) : zG l Z zfull ad X cs 0 [(0, .ref (ad 0)), (1, .int p1)] [] M (fX7_traced N p1 M) := by
  unfold fX7_traced
  refine zg_aload_n hC 0 dX7_traced_0 rfl ?_
  refine zg_iload_n hC 1 dX7_traced_1 rfl ?_
  refine zg_callVv hC hE hN (k := 0) (As := [.int p1]) (S := []) rfl (tX7_checkLot (zflag hC) d N p1 M) lkX7_190 rfl dX7_traced_2 zq0 zk0 rfl rfl (Nat.le_of_ble_eq_true rfl) (fun r1 M2 er1 => ?_)
  refine zg_iconst hC (v := 0) dX7_traced_5 (by decide) ?_
  refine zg_istore_n hC (L' := [(2, _), (0, _), (1, _)]) dX7_traced_6 (by decide) rfl ?_
  refine zg_iconst hC (v := 0) dX7_traced_7 (by decide) ?_
  refine zg_istore_n hC (L' := [(3, _), (2, _), (0, _), (1, _)]) dX7_traced_8 (by decide) rfl ?_
  exact zg_sub [2, 3, 1, 0] rfl (gX7_traced_B9 hC hE hN N N p1 0 0 M2)
theorem tX7_traced {l : Launch} {Z : zZ} {ad : Nat → Nat} (hl : l.stackTraces = false) (d : Nat) (N : Nat) (p1 : Int32) (M : zMem) : zT l Z zfull ad (.code yX7_traced cX7_traced 4 (some .int)) yX7_traced (d + 7) false zbn [.ref (ad 0), .int p1] M (fX7_traced N p1 M) :=
  zT_of hl (by decide +kernel) (Nat.le_of_ble_eq_true rfl) (fun X hC hE hN => gX7_traced_B0 hC hE hN N p1 M)

def fX7_tracedAt_B51 (N : Nat) (again10 : Int32 → Int32 → Int32 → Int32 → zMem → zRES) (v1 : Int32) (v2 : Int32) (v3 : Int32) (v4 : Int32) (M : zMem) : zRES :=
  again10 v1 v2 v3 (v4 + 1) M
def fX7_tracedAt_B10 (N : Nat) : Nat → Int32 → Int32 → Int32 → Int32 → zMem → zRES
  | 0, _, _, _, _, _ => none
  | n + 1, v1, v2, v3, v4, M =>
  if (M.1 53 0) ≤ v4 then
    some (.inr 1, M)
  else
    if zin v4 60 = true then
    zb (fX7_contains N ((M.1 55 v4.toNatClampNeg).toInt64) v1 M) fun r5 M6 =>
    if r5 = 0 then
      fX7_tracedAt_B51 N (fX7_tracedAt_B10 N n) v1 v2 v3 v4 M6
    else
      if v3 = v2 then
        some (.inl v4, M6)
      else
        fX7_tracedAt_B51 N (fX7_tracedAt_B10 N n) v1 v2 (v3 + 1) v4 M6
    else none
def fX7_tracedAt (N : Nat) (p1 : Int32) (p2 : Int32) (M : zMem) : zRES :=
  zb (fX7_checkLot N p1 M) fun r1 M2 =>
  fX7_tracedAt_B10 N N p1 p2 0 0 M2
set_option maxRecDepth 20000 in
set_option maxHeartbeats 2000000 in
theorem gX7_tracedAt_B51 {l : Launch} {Z : zZ} {ad : Nat → Nat} {d : Nat} {X : zX} (hC : zC l Z zfull ad X RX7 cX7_tracedAt 5 (some .int) (d + 7)) (hE : zEnd Z zfull ad X false) (hN : zNoX X) (N : Nat) {again10 : Int32 → Int32 → Int32 → Int32 → zMem → zRES} (hag10 : ∀ v1 v2 v3 v4 M, zG l Z zfull ad X (0, 0) 10 [(0, .ref (ad 0)), (1, .int v1), (2, .int v2), (3, .int v3), (4, .int v4)] [] M (again10 v1 v2 v3 v4 M)) (v1 : Int32) (v2 : Int32) (v3 : Int32) (v4 : Int32) (M : zMem) : zG l Z zfull ad X (0, 0) 51 [(0, .ref (ad 0)), (1, .int v1), (2, .int v2), (3, .int v3), (4, .int v4)] [] M (fX7_tracedAt_B51 N again10 v1 v2 v3 v4 M) := by
  unfold fX7_tracedAt_B51
  refine zg_iinc hC 4 (v := v4 + 1) (L' := [(4, _), (0, _), (1, _), (2, _), (3, _)]) dX7_tracedAt_51 rfl (by rfl) (by decide) rfl ?_
  refine zg_goto hC (tgt := 10) dX7_tracedAt_54 (by decide) ?_
  exact zg_sub [1, 2, 3, 4, 0] rfl (hag10 v1 v2 v3 (v4 + 1) M)
set_option maxRecDepth 20000 in
set_option maxHeartbeats 2000000 in
theorem gX7_tracedAt_B10 {l : Launch} {Z : zZ} {ad : Nat → Nat} {d : Nat} {X : zX} (hC : zC l Z zfull ad X RX7 cX7_tracedAt 5 (some .int) (d + 7)) (hE : zEnd Z zfull ad X false) (hN : zNoX X) (N : Nat) : ∀ (n : Nat) (v1 : Int32) (v2 : Int32) (v3 : Int32) (v4 : Int32) (M : zMem), zG l Z zfull ad X (0, 0) 10 [(0, .ref (ad 0)), (1, .int v1), (2, .int v2), (3, .int v3), (4, .int v4)] [] M (fX7_tracedAt_B10 N n v1 v2 v3 v4 M) := by
  intro n
  induction n with
  | zero =>
    intro v1 v2 v3 v4 M
    exact zg_none
  | succ n ih =>
  intro v1 v2 v3 v4 M
  rw [fX7_tracedAt_B10]
  refine zg_iload hC 4 dX7_tracedAt_10 rfl ?_
  refine zg_aload_n hC 0 dX7_tracedAt_12 rfl ?_
  refine zg_get hC (k := 0) (v := .ref (ad 53)) ffX7_50 dX7_tracedAt_13 zq0 zk0 rfl ?_
  refine zg_get hC (k := 53) (v := .int (M.1 53 0)) ffX7_247 dX7_tracedAt_16 zq53 zk53 rfl ?_
  refine zg_icmp_ge hC (tgt := 57) dX7_tracedAt_19 (by decide) (fun c3 => ?_) (fun c3 => ?_)
  · exact zg_throw hC hE hN (by omega) txX7_161 ckX7_157 skX7_159 dX7_tracedAt_57 dX7_tracedAt_60 dX7_tracedAt_61 dX7_tracedAt_63 dX7_tracedAt_66 (Nat.le_of_ble_eq_true rfl)
  · refine zg_aload_n hC 0 dX7_tracedAt_22 rfl ?_
    refine zg_get hC (k := 0) (v := .ref (ad 53)) ffX7_50 dX7_tracedAt_23 zq0 zk0 rfl ?_
    refine zg_get hC (k := 53) (v := .ref (ad 55)) ffX7_256 dX7_tracedAt_26 zq53 zk53 rfl ?_
    refine zg_iload hC 4 dX7_tracedAt_29 rfl ?_
    refine zg_iald hC (k := 55) dX7_tracedAt_31 zq55 zk55 (fun h4 => ?_)
    refine zg_i2l hC dX7_tracedAt_32 ?_
    refine zg_iload_n hC 1 dX7_tracedAt_33 rfl ?_
    refine zg_callSi hC hE hN (As := [.long ((M.1 55 v4.toNatClampNeg).toInt64), .int v1]) (S := []) rfl (tX7_contains (zflag hC) (d + 6) N ((M.1 55 v4.toNatClampNeg).toInt64) v1 M) lkX7_175 rfl dX7_tracedAt_34 (Nat.le_of_ble_eq_true rfl) (fun r5 M6 er5 => ?_)
    refine zg_if_eq hC (tgt := 51) dX7_tracedAt_37 (by decide) (fun c7 => ?_) (fun c7 => ?_)
    · exact zg_sub [0, 1, 2, 3, 4] rfl (gX7_tracedAt_B51 hC hE hN N ih v1 v2 v3 v4 M6)
    · refine zg_iload_n hC 3 dX7_tracedAt_40 rfl ?_
      refine zg_iload_n hC 2 dX7_tracedAt_41 rfl ?_
      refine zg_icmp_ne hC (tgt := 48) dX7_tracedAt_42 (by decide) (fun c8 => ?_) (fun c8 => ?_)
      · refine zg_iload hC 4 dX7_tracedAt_45 rfl ?_
        exact zg_ret hC hE dX7_tracedAt_47
      · refine zg_iinc hC 3 (v := v3 + 1) (L' := [(3, _), (0, _), (1, _), (2, _), (4, _)]) dX7_tracedAt_48 rfl (by rfl) (by decide) rfl ?_
        exact zg_sub [1, 2, 3, 0, 4] rfl (gX7_tracedAt_B51 hC hE hN N ih v1 v2 (v3 + 1) v4 M6)
set_option maxRecDepth 20000 in
set_option maxHeartbeats 2000000 in
theorem gX7_tracedAt_B0 {l : Launch} {Z : zZ} {ad : Nat → Nat} {d : Nat} {X : zX} (hC : zC l Z zfull ad X RX7 cX7_tracedAt 5 (some .int) (d + 7)) (hE : zEnd Z zfull ad X false) (hN : zNoX X) (N : Nat) (p1 : Int32) (p2 : Int32) (M : zMem) : zG l Z zfull ad X (0, 0) 0 [(0, .ref (ad 0)), (1, .int p1), (2, .int p2)] [] M (fX7_tracedAt N p1 p2 M) := by
  unfold fX7_tracedAt
  refine zg_aload_n hC 0 dX7_tracedAt_0 rfl ?_
  refine zg_iload_n hC 1 dX7_tracedAt_1 rfl ?_
  refine zg_callVv hC hE hN (k := 0) (As := [.int p1]) (S := []) rfl (tX7_checkLot (zflag hC) d N p1 M) lkX7_190 rfl dX7_tracedAt_2 zq0 zk0 rfl rfl (Nat.le_of_ble_eq_true rfl) (fun r1 M2 er1 => ?_)
  refine zg_iconst hC (v := 0) dX7_tracedAt_5 (by decide) ?_
  refine zg_istore_n hC (L' := [(3, _), (0, _), (1, _), (2, _)]) dX7_tracedAt_6 (by decide) rfl ?_
  refine zg_iconst hC (v := 0) dX7_tracedAt_7 (by decide) ?_
  refine zg_istore hC (L' := [(4, _), (3, _), (0, _), (1, _), (2, _)]) dX7_tracedAt_8 (by decide) rfl ?_
  exact zg_sub [2, 3, 4, 1, 0] rfl (gX7_tracedAt_B10 hC hE hN N N p1 p2 0 0 M2)
theorem tX7_tracedAt {l : Launch} {Z : zZ} {ad : Nat → Nat} (hl : l.stackTraces = false) (d : Nat) (N : Nat) (p1 : Int32) (p2 : Int32) (M : zMem) : zT l Z zfull ad (.code yX7_tracedAt cX7_tracedAt 5 (some .int)) yX7_tracedAt (d + 7) false zbn [.ref (ad 0), .int p1, .int p2] M (fX7_tracedAt N p1 p2 M) :=
  zT_of hl (by decide +kernel) (Nat.le_of_ble_eq_true rfl) (fun X hC hE hN => gX7_tracedAt_B0 hC hE hN N p1 p2 M)

def fX7_recalls (N : Nat) (M : zMem) : zRES :=
  some (.inl (M.1 58 0), M)
set_option maxRecDepth 20000 in
set_option maxHeartbeats 2000000 in
theorem gX7_recalls_B0 {l : Launch} {Z : zZ} {ad : Nat → Nat} {d : Nat} {X : zX} {cs : Nat × Nat} (hC : zC l Z zfull ad X RX7 cX7_recalls 1 (some .int) (d + 0)) (hE : zEnd Z zfull ad X false) (hN : zNoX X) (N : Nat) (M : zMem) : zG l Z zfull ad X cs 0 [(0, .ref (ad 0))] [] M (fX7_recalls N M) := by
  unfold fX7_recalls
  refine zg_aload_n hC 0 dX7_recalls_0 rfl ?_
  refine zg_get hC (k := 0) (v := .ref (ad 58)) ffX7_57 dX7_recalls_1 zq0 zk0 rfl ?_
  refine zg_get hC (k := 58) (v := .int (M.1 58 0)) ffX7_276 dX7_recalls_4 zq58 zk58 rfl ?_
  exact zg_ret hC hE dX7_recalls_7
theorem tX7_recalls {l : Launch} {Z : zZ} {ad : Nat → Nat} (hl : l.stackTraces = false) (d : Nat) (N : Nat) (M : zMem) : zT l Z zfull ad (.code yX7_recalls cX7_recalls 1 (some .int)) yX7_recalls (d + 0) false zbn [.ref (ad 0)] M (fX7_recalls N M) :=
  zT_of hl (by decide +kernel) (Nat.le_of_ble_eq_true rfl) (fun X hC hE hN => gX7_recalls_B0 hC hE hN N M)

def fX7_checkRecall (N : Nat) (p1 : Int32) (M : zMem) : zRES :=
  if p1 < 0 then
    some (.inr 1, M)
  else
    if p1 < (M.1 58 0) then
      some (.inl 0, M)
    else
      some (.inr 1, M)
set_option maxRecDepth 20000 in
set_option maxHeartbeats 2000000 in
theorem gX7_checkRecall_B0 {l : Launch} {Z : zZ} {ad : Nat → Nat} {d : Nat} {X : zX} (hC : zC l Z zfull ad X RX7 cX7_checkRecall 2 none (d + 6)) (hE : zEnd Z zfull ad X true) (hN : zNoX X) (N : Nat) (p1 : Int32) (M : zMem) : zG l Z zfull ad X (0, 0) 0 [(0, .ref (ad 0)), (1, .int p1)] [] M (fX7_checkRecall N p1 M) := by
  unfold fX7_checkRecall
  refine zg_iload_n hC 1 dX7_checkRecall_0 rfl ?_
  refine zg_if_lt hC (tgt := 15) dX7_checkRecall_1 (by decide) (fun c1 => ?_) (fun c1 => ?_)
  · exact zg_throwW hC hE hN (by omega) txX7_161 ckX7_157 skX7_314 dX7_checkRecall_15 dX7_checkRecall_18 dX7_checkRecall_19 dX7_checkRecall_22 dX7_checkRecall_25 (Nat.le_of_ble_eq_true rfl)
  · refine zg_iload_n hC 1 dX7_checkRecall_4 rfl ?_
    refine zg_aload_n hC 0 dX7_checkRecall_5 rfl ?_
    refine zg_get hC (k := 0) (v := .ref (ad 58)) ffX7_57 dX7_checkRecall_6 zq0 zk0 rfl ?_
    refine zg_get hC (k := 58) (v := .int (M.1 58 0)) ffX7_276 dX7_checkRecall_9 zq58 zk58 rfl ?_
    refine zg_icmp_lt hC (tgt := 26) dX7_checkRecall_12 (by decide) (fun c2 => ?_) (fun c2 => ?_)
    · exact zg_retv hC hE dX7_checkRecall_26
    · exact zg_throwW hC hE hN (by omega) txX7_161 ckX7_157 skX7_314 dX7_checkRecall_15 dX7_checkRecall_18 dX7_checkRecall_19 dX7_checkRecall_22 dX7_checkRecall_25 (Nat.le_of_ble_eq_true rfl)
theorem tX7_checkRecall {l : Launch} {Z : zZ} {ad : Nat → Nat} (hl : l.stackTraces = false) (d : Nat) (N : Nat) (p1 : Int32) (M : zMem) : zT l Z zfull ad (.code yX7_checkRecall cX7_checkRecall 2 none) yX7_checkRecall (d + 6) true zbn [.ref (ad 0), .int p1] M (fX7_checkRecall N p1 M) :=
  zT_of hl (by decide +kernel) (Nat.le_of_ble_eq_true rfl) (fun X hC hE hN => gX7_checkRecall_B0 hC hE hN N p1 M)

def fX7_recallOf (N : Nat) (p1 : Int32) (M : zMem) : zRES :=
  zb (fX7_checkRecall N p1 M) fun r1 M2 =>
  if zin p1 512 = true then
  some (.inl (M2.1 59 p1.toNatClampNeg), M2)
  else none
set_option maxRecDepth 20000 in
set_option maxHeartbeats 2000000 in
theorem gX7_recallOf_B0 {l : Launch} {Z : zZ} {ad : Nat → Nat} {d : Nat} {X : zX} {cs : Nat × Nat} (hC : zC l Z zfull ad X RX7 cX7_recallOf 2 (some .int) (d + 7)) (hE : zEnd Z zfull ad X false) (hN : zNoX X) (N : Nat) (p1 : Int32) (M : zMem) : zG l Z zfull ad X cs 0 [(0, .ref (ad 0)), (1, .int p1)] [] M (fX7_recallOf N p1 M) := by
  unfold fX7_recallOf
  refine zg_aload_n hC 0 dX7_recallOf_0 rfl ?_
  refine zg_iload_n hC 1 dX7_recallOf_1 rfl ?_
  refine zg_callVv hC hE hN (k := 0) (As := [.int p1]) (S := []) rfl (tX7_checkRecall (zflag hC) d N p1 M) lkX7_277 rfl dX7_recallOf_2 zq0 zk0 rfl rfl (Nat.le_of_ble_eq_true rfl) (fun r1 M2 er1 => ?_)
  refine zg_aload_n hC 0 dX7_recallOf_5 rfl ?_
  refine zg_get hC (k := 0) (v := .ref (ad 58)) ffX7_57 dX7_recallOf_6 zq0 zk0 rfl ?_
  refine zg_get hC (k := 58) (v := .ref (ad 59)) ffX7_280 dX7_recallOf_9 zq58 zk58 rfl ?_
  refine zg_iload_n hC 1 dX7_recallOf_12 rfl ?_
  refine zg_iald hC (k := 59) dX7_recallOf_13 zq59 zk59 (fun h3 => ?_)
  exact zg_ret hC hE dX7_recallOf_14
theorem tX7_recallOf {l : Launch} {Z : zZ} {ad : Nat → Nat} (hl : l.stackTraces = false) (d : Nat) (N : Nat) (p1 : Int32) (M : zMem) : zT l Z zfull ad (.code yX7_recallOf cX7_recallOf 2 (some .int)) yX7_recallOf (d + 7) false zbn [.ref (ad 0), .int p1] M (fX7_recallOf N p1 M) :=
  zT_of hl (by decide +kernel) (Nat.le_of_ble_eq_true rfl) (fun X hC hE hN => gX7_recallOf_B0 hC hE hN N p1 M)

def fX7_calledBack (N : Nat) (p1 : Int32) (M : zMem) : zRES :=
  zb (fX7_checkRecall N p1 M) fun r1 M2 =>
  if zin p1 512 = true then
  some (.inl (M2.1 60 p1.toNatClampNeg), M2)
  else none
set_option maxRecDepth 20000 in
set_option maxHeartbeats 2000000 in
theorem gX7_calledBack_B0 {l : Launch} {Z : zZ} {ad : Nat → Nat} {d : Nat} {X : zX} {cs : Nat × Nat} (hC : zC l Z zfull ad X RX7 cX7_calledBack 2 (some .int) (d + 7)) (hE : zEnd Z zfull ad X false) (hN : zNoX X) (N : Nat) (p1 : Int32) (M : zMem) : zG l Z zfull ad X cs 0 [(0, .ref (ad 0)), (1, .int p1)] [] M (fX7_calledBack N p1 M) := by
  unfold fX7_calledBack
  refine zg_aload_n hC 0 dX7_calledBack_0 rfl ?_
  refine zg_iload_n hC 1 dX7_calledBack_1 rfl ?_
  refine zg_callVv hC hE hN (k := 0) (As := [.int p1]) (S := []) rfl (tX7_checkRecall (zflag hC) d N p1 M) lkX7_277 rfl dX7_calledBack_2 zq0 zk0 rfl rfl (Nat.le_of_ble_eq_true rfl) (fun r1 M2 er1 => ?_)
  refine zg_aload_n hC 0 dX7_calledBack_5 rfl ?_
  refine zg_get hC (k := 0) (v := .ref (ad 58)) ffX7_57 dX7_calledBack_6 zq0 zk0 rfl ?_
  refine zg_get hC (k := 58) (v := .ref (ad 60)) ffX7_283 dX7_calledBack_9 zq58 zk58 rfl ?_
  refine zg_iload_n hC 1 dX7_calledBack_12 rfl ?_
  refine zg_iald hC (k := 60) dX7_calledBack_13 zq60 zk60 (fun h3 => ?_)
  exact zg_ret hC hE dX7_calledBack_14
theorem tX7_calledBack {l : Launch} {Z : zZ} {ad : Nat → Nat} (hl : l.stackTraces = false) (d : Nat) (N : Nat) (p1 : Int32) (M : zMem) : zT l Z zfull ad (.code yX7_calledBack cX7_calledBack 2 (some .int)) yX7_calledBack (d + 7) false zbn [.ref (ad 0), .int p1] M (fX7_calledBack N p1 M) :=
  zT_of hl (by decide +kernel) (Nat.le_of_ble_eq_true rfl) (fun X hC hE hN => gX7_calledBack_B0 hC hE hN N p1 M)

def fX7_why (N : Nat) (p1 : Int32) (M : zMem) : zRES :=
  zb (fX7_checkRecall N p1 M) fun r1 M2 =>
  if zin p1 512 = true then
  some (.inl (M2.1 61 p1.toNatClampNeg), M2)
  else none
set_option maxRecDepth 20000 in
set_option maxHeartbeats 2000000 in
theorem gX7_why_B0 {l : Launch} {Z : zZ} {ad : Nat → Nat} {d : Nat} {X : zX} {cs : Nat × Nat} (hC : zC l Z zfull ad X RX7 cX7_why 2 (some .int) (d + 7)) (hE : zEnd Z zfull ad X false) (hN : zNoX X) (N : Nat) (p1 : Int32) (M : zMem) : zG l Z zfull ad X cs 0 [(0, .ref (ad 0)), (1, .int p1)] [] M (fX7_why N p1 M) := by
  unfold fX7_why
  refine zg_aload_n hC 0 dX7_why_0 rfl ?_
  refine zg_iload_n hC 1 dX7_why_1 rfl ?_
  refine zg_callVv hC hE hN (k := 0) (As := [.int p1]) (S := []) rfl (tX7_checkRecall (zflag hC) d N p1 M) lkX7_277 rfl dX7_why_2 zq0 zk0 rfl rfl (Nat.le_of_ble_eq_true rfl) (fun r1 M2 er1 => ?_)
  refine zg_aload_n hC 0 dX7_why_5 rfl ?_
  refine zg_get hC (k := 0) (v := .ref (ad 58)) ffX7_57 dX7_why_6 zq0 zk0 rfl ?_
  refine zg_get hC (k := 58) (v := .ref (ad 61)) ffX7_286 dX7_why_9 zq58 zk58 rfl ?_
  refine zg_iload_n hC 1 dX7_why_12 rfl ?_
  refine zg_iald hC (k := 61) dX7_why_13 zq61 zk61 (fun h3 => ?_)
  exact zg_ret hC hE dX7_why_14
theorem tX7_why {l : Launch} {Z : zZ} {ad : Nat → Nat} (hl : l.stackTraces = false) (d : Nat) (N : Nat) (p1 : Int32) (M : zMem) : zT l Z zfull ad (.code yX7_why cX7_why 2 (some .int)) yX7_why (d + 7) false zbn [.ref (ad 0), .int p1] M (fX7_why N p1 M) :=
  zT_of hl (by decide +kernel) (Nat.le_of_ble_eq_true rfl) (fun X hC hE hN => gX7_why_B0 hC hE hN N p1 M)

def fX7_checkPair (N : Nat) (p1 : Int32) (p2 : Int32) (M : zMem) : zRES :=
  zb (fX7_checkBakery N p1 M) fun r1 M2 =>
  zb (fX7_checkBakery N p2 M2) fun r3 M4 =>
  if p1 = p2 then
    some (.inr 2, M4)
  else
    some (.inl 0, M4)
set_option maxRecDepth 20000 in
set_option maxHeartbeats 2000000 in
theorem gX7_checkPair_B0 {l : Launch} {Z : zZ} {lv : Nat → Bool} {ad : Nat → Nat} {d : Nat} {X : zX} (hC : zC l Z lv ad X RX7 cX7_checkPair 2 none (d + 7)) (hE : zEnd Z lv ad X true) (hN : zNoX X) (N : Nat) (p1 : Int32) (p2 : Int32) (M : zMem) : zG l Z lv ad X (0, 0) 0 [(0, .int p1), (1, .int p2)] [] M (fX7_checkPair N p1 p2 M) := by
  unfold fX7_checkPair
  refine zg_iload_n hC 0 dX7_checkPair_0 rfl ?_
  refine zg_callSv hC hE hN (As := [.int p1]) (S := []) rfl (tX7_checkBakery (zflag hC) d N p1 M) lkX7_82 rfl dX7_checkPair_1 (Nat.le_of_ble_eq_true rfl) (fun r1 M2 er1 => ?_)
  refine zg_iload_n hC 1 dX7_checkPair_4 rfl ?_
  refine zg_callSv hC hE hN (As := [.int p2]) (S := []) rfl (tX7_checkBakery (zflag hC) d N p2 M2) lkX7_82 rfl dX7_checkPair_5 (Nat.le_of_ble_eq_true rfl) (fun r3 M4 er3 => ?_)
  refine zg_iload_n hC 0 dX7_checkPair_8 rfl ?_
  refine zg_iload_n hC 1 dX7_checkPair_9 rfl ?_
  refine zg_icmp_ne hC (tgt := 24) dX7_checkPair_10 (by decide) (fun c5 => ?_) (fun c5 => ?_)
  · exact zg_throwW hC hE hN (by omega) txX7_65 ckX7_61 skX7_291 dX7_checkPair_13 dX7_checkPair_16 dX7_checkPair_17 dX7_checkPair_20 dX7_checkPair_23 (Nat.le_of_ble_eq_true rfl)
  · exact zg_retv hC hE dX7_checkPair_24
theorem tX7_checkPair {l : Launch} {Z : zZ} {lv : Nat → Bool} {ad : Nat → Nat} (hl : l.stackTraces = false) (d : Nat) (N : Nat) (p1 : Int32) (p2 : Int32) (M : zMem) : zT l Z lv ad (.code yX7_checkPair cX7_checkPair 2 none) yX7_checkPair (d + 7) true zbn [.int p1, .int p2] M (fX7_checkPair N p1 p2 M) :=
  zT_of hl (by decide +kernel) (Nat.le_of_ble_eq_true rfl) (fun X hC hE hN => gX7_checkPair_B0 hC hE hN N p1 p2 M)

def fX7_checkReach (N : Nat) (p1 : Int32) (p2 : Int32) (M : zMem) : zRES :=
  zb (fX0_areTogether 1 N p1 p2 M) fun r1 M2 =>
  if r1 = 0 then
    some (.inr 3, M2)
  else
    some (.inl 0, M2)
set_option maxRecDepth 20000 in
set_option maxHeartbeats 2000000 in
theorem gX7_checkReach_B0 {l : Launch} {Z : zZ} {ad : Nat → Nat} {d : Nat} {X : zX} (hC : zC l Z zfull ad X RX7 cX7_checkReach 3 none (d + 6)) (hE : zEnd Z zfull ad X true) (hN : zNoX X) (N : Nat) (p1 : Int32) (p2 : Int32) (M : zMem) : zG l Z zfull ad X (0, 0) 0 [(0, .ref (ad 0)), (1, .int p1), (2, .int p2)] [] M (fX7_checkReach N p1 p2 M) := by
  unfold fX7_checkReach
  refine zg_aload_n hC 0 dX7_checkReach_0 rfl ?_
  refine zg_get hC (k := 0) (v := .ref (ad 1)) ffX7_10 dX7_checkReach_1 zq0 zk0 rfl ?_
  refine zg_iload_n hC 1 dX7_checkReach_4 rfl ?_
  refine zg_iload_n hC 2 dX7_checkReach_5 rfl ?_
  refine zg_callVi hC hE hN (k := 1) (As := [.int p1, .int p2]) (S := []) rfl (tX0_areTogether (zflag hC) (d + 4) (Or.inl rfl) zqA1 N p1 p2 M) lkX7_154 rfl dX7_checkReach_6 zq1 zk1 rfl rfl (Nat.le_of_ble_eq_true rfl) (fun r1 M2 er1 => ?_)
  refine zg_if_ne hC (tgt := 23) dX7_checkReach_9 (by decide) (fun c3 => ?_) (fun c3 => ?_)
  · exact zg_throwW hC hE hN (by omega) txX7_94 ckX7_90 skX7_293 dX7_checkReach_12 dX7_checkReach_15 dX7_checkReach_16 dX7_checkReach_19 dX7_checkReach_22 (Nat.le_of_ble_eq_true rfl)
  · exact zg_retv hC hE dX7_checkReach_23
theorem tX7_checkReach {l : Launch} {Z : zZ} {ad : Nat → Nat} (hl : l.stackTraces = false) (d : Nat) (N : Nat) (p1 : Int32) (p2 : Int32) (M : zMem) : zT l Z zfull ad (.code yX7_checkReach cX7_checkReach 3 none) yX7_checkReach (d + 6) true zbn [.ref (ad 0), .int p1, .int p2] M (fX7_checkReach N p1 p2 M) :=
  zT_of hl (by decide +kernel) (Nat.le_of_ble_eq_true rfl) (fun X hC hE hN => gX7_checkReach_B0 hC hE hN N p1 p2 M)

def fX7_vote (N : Nat) (p1 : Int32) (p2 : Int32) (M : zMem) : zRES :=
  zb (fX7_checkPair N p1 p2 M) fun r1 M2 =>
  if zin p2 5 = true then
  if (M2.1 3 p2.toNatClampNeg) = 1 then
    zb (fX7_checkReach N p1 p2 M2) fun r5 M6 =>
    zb (fX3_add N 2 p1 p2 M6) fun r7 M8 =>
    zb (fX0_askForVote 1 N p1 p2 M8) fun r9 M10 =>
    if zbool r9 = true then some (.inl r9, M10) else none
  else
    some (.inr 3, M2)
  else none
set_option maxRecDepth 20000 in
set_option maxHeartbeats 2000000 in
theorem gX7_vote_B0 {l : Launch} {Z : zZ} {ad : Nat → Nat} {d : Nat} {X : zX} (hC : zC l Z zfull ad X RX7 cX7_vote 3 (some .boolean) (d + 8)) (hE : zEnd Z zfull ad X false) (hN : zNoX X) (N : Nat) (p1 : Int32) (p2 : Int32) (M : zMem) : zG l Z zfull ad X (0, 0) 0 [(0, .ref (ad 0)), (1, .int p1), (2, .int p2)] [] M (fX7_vote N p1 p2 M) := by
  unfold fX7_vote
  refine zg_iload_n hC 1 dX7_vote_0 rfl ?_
  refine zg_iload_n hC 2 dX7_vote_1 rfl ?_
  refine zg_callSv hC hE hN (As := [.int p1, .int p2]) (S := []) rfl (tX7_checkPair (zflag hC) d N p1 p2 M) lkX7_98 rfl dX7_vote_2 (Nat.le_of_ble_eq_true rfl) (fun r1 M2 er1 => ?_)
  refine zg_aload_n hC 0 dX7_vote_5 rfl ?_
  refine zg_get hC (k := 0) (v := .ref (ad 1)) ffX7_10 dX7_vote_6 zq0 zk0 rfl ?_
  refine zg_get hC (k := 1) (v := .ref (ad 3)) ffX7_102 dX7_vote_9 zq1 zk1 rfl ?_
  refine zg_iload_n hC 2 dX7_vote_12 rfl ?_
  refine zg_iald hC (k := 3) dX7_vote_13 zq3 zk3 (fun h3 => ?_)
  refine zg_iconst hC (v := 1) dX7_vote_14 (by decide) ?_
  refine zg_icmp_eq hC (tgt := 28) dX7_vote_15 (by decide) (fun c4 => ?_) (fun c4 => ?_)
  · refine zg_aload_n hC 0 dX7_vote_28 rfl ?_
    refine zg_iload_n hC 1 dX7_vote_29 rfl ?_
    refine zg_iload_n hC 2 dX7_vote_30 rfl ?_
    refine zg_callVv hC hE hN (k := 0) (As := [.int p1, .int p2]) (S := []) rfl (tX7_checkReach (zflag hC) (d + 1) N p1 p2 M2) lkX7_107 rfl dX7_vote_31 zq0 zk0 rfl rfl (Nat.le_of_ble_eq_true rfl) (fun r5 M6 er5 => ?_)
    refine zg_aload_n hC 0 dX7_vote_34 rfl ?_
    refine zg_get hC (k := 0) (v := .ref (ad 29)) ffX7_22 dX7_vote_35 zq0 zk0 rfl ?_
    refine zg_iconst hC (v := 2) dX7_vote_38 (by decide) ?_
    refine zg_iload_n hC 1 dX7_vote_39 rfl ?_
    refine zg_iload_n hC 2 dX7_vote_40 rfl ?_
    refine zg_callVv hC hE hN (k := 29) (As := [.int 2, .int p1, .int p2]) (S := []) rfl (tX3_add (zflag hC) (d + 7) N 2 p1 p2 M6) lkX7_72 rfl dX7_vote_41 zq29 zk29 rfl rfl (Nat.le_of_ble_eq_true rfl) (fun r7 M8 er7 => ?_)
    refine zg_aload_n hC 0 dX7_vote_44 rfl ?_
    refine zg_get hC (k := 0) (v := .ref (ad 1)) ffX7_10 dX7_vote_45 zq0 zk0 rfl ?_
    refine zg_iload_n hC 1 dX7_vote_48 rfl ?_
    refine zg_iload_n hC 2 dX7_vote_49 rfl ?_
    refine zg_callVi hC hE hN (k := 1) (As := [.int p1, .int p2]) (S := []) rfl (tX0_askForVote (zflag hC) (d + 5) (Or.inl rfl) zqA1 N p1 p2 M8) lkX7_110 rfl dX7_vote_50 zq1 zk1 rfl rfl (Nat.le_of_ble_eq_true rfl) (fun r9 M10 er9 => ?_)
    exact zg_retb hC hE dX7_vote_53
  · exact zg_throw hC hE hN (by omega) txX7_94 ckX7_90 skX7_105 dX7_vote_18 dX7_vote_21 dX7_vote_22 dX7_vote_24 dX7_vote_27 (Nat.le_of_ble_eq_true rfl)
theorem tX7_vote {l : Launch} {Z : zZ} {ad : Nat → Nat} (hl : l.stackTraces = false) (d : Nat) (N : Nat) (p1 : Int32) (p2 : Int32) (M : zMem) : zT l Z zfull ad (.code yX7_vote cX7_vote 3 (some .boolean)) yX7_vote (d + 8) false zbn [.ref (ad 0), .int p1, .int p2] M (fX7_vote N p1 p2 M) :=
  zT_of hl (by decide +kernel) (Nat.le_of_ble_eq_true rfl) (fun X hC hE hN => gX7_vote_B0 hC hE hN N p1 p2 M)

def fX7_checkLeader (N : Nat) (p1 : Int32) (M : zMem) : zRES :=
  if zin p1 5 = true then
  if (M.1 3 p1.toNatClampNeg) = 2 then
    some (.inl 0, M)
  else
    some (.inr 3, M)
  else none
set_option maxRecDepth 20000 in
set_option maxHeartbeats 2000000 in
theorem gX7_checkLeader_B0 {l : Launch} {Z : zZ} {ad : Nat → Nat} {d : Nat} {X : zX} (hC : zC l Z zfull ad X RX7 cX7_checkLeader 2 none (d + 6)) (hE : zEnd Z zfull ad X true) (hN : zNoX X) (N : Nat) (p1 : Int32) (M : zMem) : zG l Z zfull ad X (0, 0) 0 [(0, .ref (ad 0)), (1, .int p1)] [] M (fX7_checkLeader N p1 M) := by
  unfold fX7_checkLeader
  refine zg_aload_n hC 0 dX7_checkLeader_0 rfl ?_
  refine zg_get hC (k := 0) (v := .ref (ad 1)) ffX7_10 dX7_checkLeader_1 zq0 zk0 rfl ?_
  refine zg_get hC (k := 1) (v := .ref (ad 3)) ffX7_102 dX7_checkLeader_4 zq1 zk1 rfl ?_
  refine zg_iload_n hC 1 dX7_checkLeader_7 rfl ?_
  refine zg_iald hC (k := 3) dX7_checkLeader_8 zq3 zk3 (fun h1 => ?_)
  refine zg_iconst hC (v := 2) dX7_checkLeader_9 (by decide) ?_
  refine zg_icmp_eq hC (tgt := 24) dX7_checkLeader_10 (by decide) (fun c2 => ?_) (fun c2 => ?_)
  · exact zg_retv hC hE dX7_checkLeader_24
  · exact zg_throwW hC hE hN (by omega) txX7_94 ckX7_90 skX7_295 dX7_checkLeader_13 dX7_checkLeader_16 dX7_checkLeader_17 dX7_checkLeader_20 dX7_checkLeader_23 (Nat.le_of_ble_eq_true rfl)
theorem tX7_checkLeader {l : Launch} {Z : zZ} {ad : Nat → Nat} (hl : l.stackTraces = false) (d : Nat) (N : Nat) (p1 : Int32) (M : zMem) : zT l Z zfull ad (.code yX7_checkLeader cX7_checkLeader 2 none) yX7_checkLeader (d + 6) true zbn [.ref (ad 0), .int p1] M (fX7_checkLeader N p1 M) :=
  zT_of hl (by decide +kernel) (Nat.le_of_ble_eq_true rfl) (fun X hC hE hN => gX7_checkLeader_B0 hC hE hN N p1 M)

def fX7_propose (N : Nat) (p1 : Int32) (p2 : Int32) (p3 : Int32) (p4 : Int32) (M : zMem) : zRES :=
  zb (fX7_checkBakery N p1 M) fun r1 M2 =>
  zb (fX7_checkRecipe N p2 M2) fun r3 M4 =>
  if p3 < 1 then
    some (.inr 2, M4)
  else
    if (9 : Int32) < p3 then
      some (.inr 2, M4)
    else
      if p4 < 1 then
        some (.inr 2, M4)
      else
        if p4 ≤ 40 then
          zb (fX7_checkLeader N p1 M4) fun r9 M10 =>
          if zin p1 5 = true then
          if (20 : Int32) ≤ (M10.1 12 p1.toNatClampNeg) then
            some (.inr 3, M10)
          else
            if (M10.1 1 7) < 60 then
              zb (fX0_addVersion 1 N p1 M10) fun r14 M15 =>
              zb (fX6_note N r14 p2 p3 p4 M15) fun r16 M17 =>
              zb (fX3_add N 3 p1 0 M17) fun r18 M19 =>
              some (.inl r14, M19)
            else
              some (.inr 3, M10)
          else none
        else
          some (.inr 2, M4)
set_option maxRecDepth 20000 in
set_option maxHeartbeats 2000000 in
theorem gX7_propose_B0 {l : Launch} {Z : zZ} {ad : Nat → Nat} {d : Nat} {X : zX} (hC : zC l Z zfull ad X RX7 cX7_propose 6 (some .int) (d + 7)) (hE : zEnd Z zfull ad X false) (hN : zNoX X) (N : Nat) (p1 : Int32) (p2 : Int32) (p3 : Int32) (p4 : Int32) (M : zMem) : zG l Z zfull ad X (0, 0) 0 [(0, .ref (ad 0)), (1, .int p1), (2, .int p2), (3, .int p3), (4, .int p4)] [] M (fX7_propose N p1 p2 p3 p4 M) := by
  unfold fX7_propose
  refine zg_iload_n hC 1 dX7_propose_0 rfl ?_
  refine zg_callSv hC hE hN (As := [.int p1]) (S := []) rfl (tX7_checkBakery (zflag hC) d N p1 M) lkX7_82 rfl dX7_propose_1 (Nat.le_of_ble_eq_true rfl) (fun r1 M2 er1 => ?_)
  refine zg_iload_n hC 2 dX7_propose_4 rfl ?_
  refine zg_callSv hC hE hN (As := [.int p2]) (S := []) rfl (tX7_checkRecipe (zflag hC) d N p2 M2) lkX7_114 rfl dX7_propose_5 (Nat.le_of_ble_eq_true rfl) (fun r3 M4 er3 => ?_)
  refine zg_iload_n hC 3 dX7_propose_8 rfl ?_
  refine zg_iconst hC (v := 1) dX7_propose_9 (by decide) ?_
  refine zg_icmp_lt hC (tgt := 32) dX7_propose_10 (by decide) (fun c5 => ?_) (fun c5 => ?_)
  · exact zg_throw hC hE hN (by omega) txX7_65 ckX7_61 skX7_117 dX7_propose_32 dX7_propose_35 dX7_propose_36 dX7_propose_38 dX7_propose_41 (Nat.le_of_ble_eq_true rfl)
  · refine zg_iload_n hC 3 dX7_propose_13 rfl ?_
    refine zg_bipush hC (v := 9) dX7_propose_14 (by decide) ?_
    refine zg_icmp_gt hC (tgt := 32) dX7_propose_16 (by decide) (fun c6 => ?_) (fun c6 => ?_)
    · exact zg_throw hC hE hN (by omega) txX7_65 ckX7_61 skX7_117 dX7_propose_32 dX7_propose_35 dX7_propose_36 dX7_propose_38 dX7_propose_41 (Nat.le_of_ble_eq_true rfl)
    · refine zg_iload hC 4 dX7_propose_19 rfl ?_
      refine zg_iconst hC (v := 1) dX7_propose_21 (by decide) ?_
      refine zg_icmp_lt hC (tgt := 32) dX7_propose_22 (by decide) (fun c7 => ?_) (fun c7 => ?_)
      · exact zg_throw hC hE hN (by omega) txX7_65 ckX7_61 skX7_117 dX7_propose_32 dX7_propose_35 dX7_propose_36 dX7_propose_38 dX7_propose_41 (Nat.le_of_ble_eq_true rfl)
      · refine zg_iload hC 4 dX7_propose_25 rfl ?_
        refine zg_bipush hC (v := 40) dX7_propose_27 (by decide) ?_
        refine zg_icmp_le hC (tgt := 42) dX7_propose_29 (by decide) (fun c8 => ?_) (fun c8 => ?_)
        · refine zg_aload_n hC 0 dX7_propose_42 rfl ?_
          refine zg_iload_n hC 1 dX7_propose_43 rfl ?_
          refine zg_callVv hC hE hN (k := 0) (As := [.int p1]) (S := []) rfl (tX7_checkLeader (zflag hC) d N p1 M4) lkX7_119 rfl dX7_propose_44 zq0 zk0 rfl rfl (Nat.le_of_ble_eq_true rfl) (fun r9 M10 er9 => ?_)
          refine zg_aload_n hC 0 dX7_propose_47 rfl ?_
          refine zg_get hC (k := 0) (v := .ref (ad 1)) ffX7_10 dX7_propose_48 zq0 zk0 rfl ?_
          refine zg_get hC (k := 1) (v := .ref (ad 12)) ffX7_122 dX7_propose_51 zq1 zk1 rfl ?_
          refine zg_iload_n hC 1 dX7_propose_54 rfl ?_
          refine zg_iald hC (k := 12) dX7_propose_55 zq12 zk12 (fun h11 => ?_)
          refine zg_bipush hC (v := 20) dX7_propose_56 (by decide) ?_
          refine zg_icmp_ge hC (tgt := 73) dX7_propose_58 (by decide) (fun c12 => ?_) (fun c12 => ?_)
          · exact zg_throw hC hE hN (by omega) txX7_94 ckX7_90 skX7_128 dX7_propose_73 dX7_propose_76 dX7_propose_77 dX7_propose_79 dX7_propose_82 (Nat.le_of_ble_eq_true rfl)
          · refine zg_aload_n hC 0 dX7_propose_61 rfl ?_
            refine zg_get hC (k := 0) (v := .ref (ad 1)) ffX7_10 dX7_propose_62 zq0 zk0 rfl ?_
            refine zg_get hC (k := 1) (v := .int (M10.1 1 7)) ffX7_125 dX7_propose_65 zq1 zk1 rfl ?_
            refine zg_bipush hC (v := 60) dX7_propose_68 (by decide) ?_
            refine zg_icmp_lt hC (tgt := 83) dX7_propose_70 (by decide) (fun c13 => ?_) (fun c13 => ?_)
            · refine zg_aload_n hC 0 dX7_propose_83 rfl ?_
              refine zg_get hC (k := 0) (v := .ref (ad 1)) ffX7_10 dX7_propose_84 zq0 zk0 rfl ?_
              refine zg_iload_n hC 1 dX7_propose_87 rfl ?_
              refine zg_callVi hC hE hN (k := 1) (As := [.int p1]) (S := []) rfl (tX0_addVersion (zflag hC) (d + 3) (Or.inl rfl) zqA1 N p1 M10) lkX7_130 rfl dX7_propose_88 zq1 zk1 rfl rfl (Nat.le_of_ble_eq_true rfl) (fun r14 M15 er14 => ?_)
              refine zg_istore hC (L' := [(5, _), (0, _), (1, _), (2, _), (3, _), (4, _)]) dX7_propose_91 (by decide) rfl ?_
              refine zg_aload_n hC 1 dX7_propose_93 rfl ?_
              refine zg_get hC (k := 0) (v := .ref (ad 33)) ffX7_29 dX7_propose_94 zq0 zk0 rfl ?_
              refine zg_iload hC 0 dX7_propose_97 rfl ?_
              refine zg_iload_n hC 3 dX7_propose_99 rfl ?_
              refine zg_iload_n hC 4 dX7_propose_100 rfl ?_
              refine zg_iload hC 5 dX7_propose_101 rfl ?_
              refine zg_callVv hC hE hN (k := 33) (As := [.int r14, .int p2, .int p3, .int p4]) (S := []) rfl (tX6_note (zflag hC) (d + 6) N r14 p2 p3 p4 M15) lkX7_133 rfl dX7_propose_103 zq33 zk33 rfl rfl (Nat.le_of_ble_eq_true rfl) (fun r16 M17 er16 => ?_)
              refine zg_aload_n hC 1 dX7_propose_106 rfl ?_
              refine zg_get hC (k := 0) (v := .ref (ad 29)) ffX7_22 dX7_propose_107 zq0 zk0 rfl ?_
              refine zg_iconst hC (v := 3) dX7_propose_110 (by decide) ?_
              refine zg_iload_n hC 2 dX7_propose_111 rfl ?_
              refine zg_iconst hC (v := 0) dX7_propose_112 (by decide) ?_
              refine zg_callVv hC hE hN (k := 29) (As := [.int 3, .int p1, .int 0]) (S := []) rfl (tX3_add (zflag hC) (d + 6) N 3 p1 0 M17) lkX7_72 rfl dX7_propose_113 zq29 zk29 rfl rfl (Nat.le_of_ble_eq_true rfl) (fun r18 M19 er18 => ?_)
              refine zg_iload hC 0 dX7_propose_116 rfl ?_
              exact zg_ret hC hE dX7_propose_118
            · exact zg_throw hC hE hN (by omega) txX7_94 ckX7_90 skX7_128 dX7_propose_73 dX7_propose_76 dX7_propose_77 dX7_propose_79 dX7_propose_82 (Nat.le_of_ble_eq_true rfl)
        · exact zg_throw hC hE hN (by omega) txX7_65 ckX7_61 skX7_117 dX7_propose_32 dX7_propose_35 dX7_propose_36 dX7_propose_38 dX7_propose_41 (Nat.le_of_ble_eq_true rfl)
theorem tX7_propose {l : Launch} {Z : zZ} {ad : Nat → Nat} (hl : l.stackTraces = false) (d : Nat) (N : Nat) (p1 : Int32) (p2 : Int32) (p3 : Int32) (p4 : Int32) (M : zMem) : zT l Z zfull ad (.code yX7_propose cX7_propose 6 (some .int)) yX7_propose (d + 7) false zbn [.ref (ad 0), .int p1, .int p2, .int p3, .int p4] M (fX7_propose N p1 p2 p3 p4 M) :=
  zT_of hl (by decide +kernel) (Nat.le_of_ble_eq_true rfl) (fun X hC hE hN => gX7_propose_B0 hC hE hN N p1 p2 p3 p4 M)

def fX7_callBackBatch (N : Nat) (p1 : Int32) (p2 : Int32) (M : zMem) : zRES :=
  if zin p1 60 = true then
  zv (M.1 57 p1.toNatClampNeg) fun x2 =>
  if x2 ≤ 0 then
    some (.inl x2, M)
  else
    if zin p1 60 = true then
    zl (zsI M 57 p1.toNatClampNeg 0) fun M5 =>
    zb (fX5_write N p1 x2 p2 M5) fun r6 M7 =>
    some (.inl x2, M7)
    else none
  else none
set_option maxRecDepth 20000 in
set_option maxHeartbeats 2000000 in
theorem gX7_callBackBatch_B0 {l : Launch} {Z : zZ} {ad : Nat → Nat} {d : Nat} {X : zX} {cs : Nat × Nat} (hC : zC l Z zfull ad X RX7 cX7_callBackBatch 4 (some .int) (d + 1)) (hE : zEnd Z zfull ad X false) (hN : zNoX X) (N : Nat) (p1 : Int32) (p2 : Int32) (M : zMem) : zG l Z zfull ad X cs 0 [(0, .ref (ad 0)), (1, .int p1), (2, .int p2)] [] M (fX7_callBackBatch N p1 p2 M) := by
  unfold fX7_callBackBatch
  refine zg_aload_n hC 0 dX7_callBackBatch_0 rfl ?_
  refine zg_get hC (k := 0) (v := .ref (ad 53)) ffX7_50 dX7_callBackBatch_1 zq0 zk0 rfl ?_
  refine zg_get hC (k := 53) (v := .ref (ad 57)) ffX7_273 dX7_callBackBatch_4 zq53 zk53 rfl ?_
  refine zg_iload_n hC 1 dX7_callBackBatch_7 rfl ?_
  refine zg_iald hC (k := 57) dX7_callBackBatch_8 zq57 zk57 (fun h1 => ?_)
  refine zg_nm (fun x2 ex2 => ?_)
  refine zg_istore_n hC (L' := [(3, _), (0, _), (1, _), (2, _)]) dX7_callBackBatch_9 (by decide) rfl ?_
  refine zg_iload_n hC 0 dX7_callBackBatch_10 rfl ?_
  refine zg_if_le hC (tgt := 34) dX7_callBackBatch_11 (by decide) (fun c3 => ?_) (fun c3 => ?_)
  · refine zg_iload_n hC 0 dX7_callBackBatch_34 rfl ?_
    exact zg_ret hC hE dX7_callBackBatch_35
  · refine zg_aload_n hC 1 dX7_callBackBatch_14 rfl ?_
    refine zg_get hC (k := 0) (v := .ref (ad 53)) ffX7_50 dX7_callBackBatch_15 zq0 zk0 rfl ?_
    refine zg_get hC (k := 53) (v := .ref (ad 57)) ffX7_273 dX7_callBackBatch_18 zq53 zk53 rfl ?_
    refine zg_iload_n hC 2 dX7_callBackBatch_21 rfl ?_
    refine zg_iconst hC (v := 0) dX7_callBackBatch_22 (by decide) ?_
    refine zg_iast hC (k := 57) dX7_callBackBatch_23 zq57 zk57 (fun h4 M5 eM5 => ?_)
    refine zg_aload_n hC 1 dX7_callBackBatch_24 rfl ?_
    refine zg_get hC (k := 0) (v := .ref (ad 58)) ffX7_57 dX7_callBackBatch_25 zq0 zk0 rfl ?_
    refine zg_iload_n hC 2 dX7_callBackBatch_28 rfl ?_
    refine zg_iload_n hC 0 dX7_callBackBatch_29 rfl ?_
    refine zg_iload_n hC 3 dX7_callBackBatch_30 rfl ?_
    refine zg_callVv hC hE hN (k := 58) (As := [.int p1, .int x2, .int p2]) (S := []) rfl (tX5_write (zflag hC) d N p1 x2 p2 M5) lkX7_340 rfl dX7_callBackBatch_31 zq58 zk58 rfl rfl (Nat.le_of_ble_eq_true rfl) (fun r6 M7 er6 => ?_)
    refine zg_iload_n hC 0 dX7_callBackBatch_34 rfl ?_
    exact zg_ret hC hE dX7_callBackBatch_35
theorem tX7_callBackBatch {l : Launch} {Z : zZ} {ad : Nat → Nat} (hl : l.stackTraces = false) (d : Nat) (N : Nat) (p1 : Int32) (p2 : Int32) (M : zMem) : zT l Z zfull ad (.code yX7_callBackBatch cX7_callBackBatch 4 (some .int)) yX7_callBackBatch (d + 1) false zbn [.ref (ad 0), .int p1, .int p2] M (fX7_callBackBatch N p1 p2 M) :=
  zT_of hl (by decide +kernel) (Nat.le_of_ble_eq_true rfl) (fun X hC hE hN => gX7_callBackBatch_B0 hC hE hN N p1 p2 M)

def fX7_callBackVersion_B33 (N : Nat) (again2 : Int32 → Int32 → zMem → zRES) (v1 : Int32) (v2 : Int32) (M : zMem) : zRES :=
  again2 v1 (v2 + 1) M
def fX7_callBackVersion_B2 (N : Nat) : Nat → Int32 → Int32 → zMem → zRES
  | 0, _, _, _ => none
  | n + 1, v1, v2, M =>
  if (M.1 53 0) ≤ v2 then
    some (.inl 0, M)
  else
    if zin v2 60 = true then
    if (M.1 54 v2.toNatClampNeg) = v1 then
      zb (fX7_callBackBatch N v2 1 M) fun r4 M5 =>
      fX7_callBackVersion_B33 N (fX7_callBackVersion_B2 N n) v1 v2 M5
    else
      fX7_callBackVersion_B33 N (fX7_callBackVersion_B2 N n) v1 v2 M
    else none
def fX7_callBackVersion (N : Nat) (p1 : Int32) (M : zMem) : zRES :=
  fX7_callBackVersion_B2 N N p1 0 M
set_option maxRecDepth 20000 in
set_option maxHeartbeats 2000000 in
theorem gX7_callBackVersion_B33 {l : Launch} {Z : zZ} {ad : Nat → Nat} {d : Nat} {X : zX} {cs : Nat × Nat} (hC : zC l Z zfull ad X RX7 cX7_callBackVersion 3 none (d + 2)) (hE : zEnd Z zfull ad X true) (hN : zNoX X) (N : Nat) {again2 : Int32 → Int32 → zMem → zRES} (hag2 : ∀ v1 v2 M, zG l Z zfull ad X cs 2 [(0, .ref (ad 0)), (1, .int v1), (2, .int v2)] [] M (again2 v1 v2 M)) (v1 : Int32) (v2 : Int32) (M : zMem) : zG l Z zfull ad X cs 33 [(0, .ref (ad 0)), (1, .int v1), (2, .int v2)] [] M (fX7_callBackVersion_B33 N again2 v1 v2 M) := by
  unfold fX7_callBackVersion_B33
  refine zg_iinc hC 2 (v := v2 + 1) (L' := [(2, _), (0, _), (1, _)]) dX7_callBackVersion_33 rfl (by rfl) (by decide) rfl ?_
  refine zg_goto hC (tgt := 2) dX7_callBackVersion_36 (by decide) ?_
  exact zg_sub [1, 2, 0] rfl (hag2 v1 (v2 + 1) M)
set_option maxRecDepth 20000 in
set_option maxHeartbeats 2000000 in
theorem gX7_callBackVersion_B2 {l : Launch} {Z : zZ} {ad : Nat → Nat} {d : Nat} {X : zX} {cs : Nat × Nat} (hC : zC l Z zfull ad X RX7 cX7_callBackVersion 3 none (d + 2)) (hE : zEnd Z zfull ad X true) (hN : zNoX X) (N : Nat) : ∀ (n : Nat) (v1 : Int32) (v2 : Int32) (M : zMem), zG l Z zfull ad X cs 2 [(0, .ref (ad 0)), (1, .int v1), (2, .int v2)] [] M (fX7_callBackVersion_B2 N n v1 v2 M) := by
  intro n
  induction n with
  | zero =>
    intro v1 v2 M
    exact zg_none
  | succ n ih =>
  intro v1 v2 M
  rw [fX7_callBackVersion_B2]
  refine zg_iload_n hC 2 dX7_callBackVersion_2 rfl ?_
  refine zg_aload_n hC 0 dX7_callBackVersion_3 rfl ?_
  refine zg_get hC (k := 0) (v := .ref (ad 53)) ffX7_50 dX7_callBackVersion_4 zq0 zk0 rfl ?_
  refine zg_get hC (k := 53) (v := .int (M.1 53 0)) ffX7_247 dX7_callBackVersion_7 zq53 zk53 rfl ?_
  refine zg_icmp_ge hC (tgt := 39) dX7_callBackVersion_10 (by decide) (fun c1 => ?_) (fun c1 => ?_)
  · exact zg_retv hC hE dX7_callBackVersion_39
  · refine zg_aload_n hC 0 dX7_callBackVersion_13 rfl ?_
    refine zg_get hC (k := 0) (v := .ref (ad 53)) ffX7_50 dX7_callBackVersion_14 zq0 zk0 rfl ?_
    refine zg_get hC (k := 53) (v := .ref (ad 54)) ffX7_253 dX7_callBackVersion_17 zq53 zk53 rfl ?_
    refine zg_iload_n hC 2 dX7_callBackVersion_20 rfl ?_
    refine zg_iald hC (k := 54) dX7_callBackVersion_21 zq54 zk54 (fun h2 => ?_)
    refine zg_iload_n hC 1 dX7_callBackVersion_22 rfl ?_
    refine zg_icmp_ne hC (tgt := 33) dX7_callBackVersion_23 (by decide) (fun c3 => ?_) (fun c3 => ?_)
    · refine zg_aload_n hC 0 dX7_callBackVersion_26 rfl ?_
      refine zg_iload_n hC 2 dX7_callBackVersion_27 rfl ?_
      refine zg_iconst hC (v := 1) dX7_callBackVersion_28 (by decide) ?_
      refine zg_callVi hC hE hN (k := 0) (As := [.int v2, .int 1]) (S := []) rfl (tX7_callBackBatch (zflag hC) d N v2 1 M) lkX7_337 rfl dX7_callBackVersion_29 zq0 zk0 rfl rfl (Nat.le_of_ble_eq_true rfl) (fun r4 M5 er4 => ?_)
      refine zg_pop hC dX7_callBackVersion_32 rfl ?_
      exact zg_sub [0, 1, 2] rfl (gX7_callBackVersion_B33 hC hE hN N ih v1 v2 M5)
    · exact zg_sub [0, 1, 2] rfl (gX7_callBackVersion_B33 hC hE hN N ih v1 v2 M)
set_option maxRecDepth 20000 in
set_option maxHeartbeats 2000000 in
theorem gX7_callBackVersion_B0 {l : Launch} {Z : zZ} {ad : Nat → Nat} {d : Nat} {X : zX} {cs : Nat × Nat} (hC : zC l Z zfull ad X RX7 cX7_callBackVersion 3 none (d + 2)) (hE : zEnd Z zfull ad X true) (hN : zNoX X) (N : Nat) (p1 : Int32) (M : zMem) : zG l Z zfull ad X cs 0 [(0, .ref (ad 0)), (1, .int p1)] [] M (fX7_callBackVersion N p1 M) := by
  unfold fX7_callBackVersion
  refine zg_iconst hC (v := 0) dX7_callBackVersion_0 (by decide) ?_
  refine zg_istore_n hC (L' := [(2, _), (0, _), (1, _)]) dX7_callBackVersion_1 (by decide) rfl ?_
  exact zg_sub [1, 2, 0] rfl (gX7_callBackVersion_B2 hC hE hN N N p1 0 M)
theorem tX7_callBackVersion {l : Launch} {Z : zZ} {ad : Nat → Nat} (hl : l.stackTraces = false) (d : Nat) (N : Nat) (p1 : Int32) (M : zMem) : zT l Z zfull ad (.code yX7_callBackVersion cX7_callBackVersion 3 none) yX7_callBackVersion (d + 2) true zbn [.ref (ad 0), .int p1] M (fX7_callBackVersion N p1 M) :=
  zT_of hl (by decide +kernel) (Nat.le_of_ble_eq_true rfl) (fun X hC hE hN => gX7_callBackVersion_B0 hC hE hN N p1 M)

def fX7_callBackUnheld_B26 (N : Nat) (again2 : Int64 → Int32 → zMem → zRES) (v1 : Int64) (v3 : Int32) (M : zMem) : zRES :=
  again2 v1 (v3 + 1) M
def fX7_callBackUnheld_B2 (N : Nat) : Nat → Int64 → Int32 → zMem → zRES
  | 0, _, _, _ => none
  | n + 1, v1, v3, M =>
  if (M.1 1 7) ≤ v3 then
    some (.inl 0, M)
  else
    zb (fX7_contains N v1 v3 M) fun r2 M3 =>
    if r2 = 0 then
      fX7_callBackUnheld_B26 N (fX7_callBackUnheld_B2 N n) v1 v3 M3
    else
      zb (fX7_callBackVersion N v3 M3) fun r5 M6 =>
      fX7_callBackUnheld_B26 N (fX7_callBackUnheld_B2 N n) v1 v3 M6
def fX7_callBackUnheld (N : Nat) (p1 : Int64) (M : zMem) : zRES :=
  fX7_callBackUnheld_B2 N N p1 0 M
set_option maxRecDepth 20000 in
set_option maxHeartbeats 2000000 in
theorem gX7_callBackUnheld_B26 {l : Launch} {Z : zZ} {ad : Nat → Nat} {d : Nat} {X : zX} {cs : Nat × Nat} (hC : zC l Z zfull ad X RX7 cX7_callBackUnheld 4 none (d + 3)) (hE : zEnd Z zfull ad X true) (hN : zNoX X) (N : Nat) {again2 : Int64 → Int32 → zMem → zRES} (hag2 : ∀ v1 v3 M, zG l Z zfull ad X cs 2 [(0, .ref (ad 0)), (1, .long v1), (3, .int v3)] [] M (again2 v1 v3 M)) (v1 : Int64) (v3 : Int32) (M : zMem) : zG l Z zfull ad X cs 26 [(0, .ref (ad 0)), (1, .long v1), (3, .int v3)] [] M (fX7_callBackUnheld_B26 N again2 v1 v3 M) := by
  unfold fX7_callBackUnheld_B26
  refine zg_iinc hC 2 (v := v3 + 1) (L' := [(3, _), (0, _), (1, _)]) dX7_callBackUnheld_26 rfl (by rfl) (by decide) rfl ?_
  refine zg_goto hC (tgt := 2) dX7_callBackUnheld_29 (by decide) ?_
  exact zg_sub [1, 2, 0] rfl (hag2 v1 (v3 + 1) M)
set_option maxRecDepth 20000 in
set_option maxHeartbeats 2000000 in
theorem gX7_callBackUnheld_B2 {l : Launch} {Z : zZ} {ad : Nat → Nat} {d : Nat} {X : zX} {cs : Nat × Nat} (hC : zC l Z zfull ad X RX7 cX7_callBackUnheld 4 none (d + 3)) (hE : zEnd Z zfull ad X true) (hN : zNoX X) (N : Nat) : ∀ (n : Nat) (v1 : Int64) (v3 : Int32) (M : zMem), zG l Z zfull ad X cs 2 [(0, .ref (ad 0)), (1, .long v1), (3, .int v3)] [] M (fX7_callBackUnheld_B2 N n v1 v3 M) := by
  intro n
  induction n with
  | zero =>
    intro v1 v3 M
    exact zg_none
  | succ n ih =>
  intro v1 v3 M
  rw [fX7_callBackUnheld_B2]
  refine zg_iload_n hC 2 dX7_callBackUnheld_2 rfl ?_
  refine zg_aload_n hC 0 dX7_callBackUnheld_3 rfl ?_
  refine zg_get hC (k := 0) (v := .ref (ad 1)) ffX7_10 dX7_callBackUnheld_4 zq0 zk0 rfl ?_
  refine zg_get hC (k := 1) (v := .int (M.1 1 7)) ffX7_125 dX7_callBackUnheld_7 zq1 zk1 rfl ?_
  refine zg_icmp_ge hC (tgt := 32) dX7_callBackUnheld_10 (by decide) (fun c1 => ?_) (fun c1 => ?_)
  · exact zg_retv hC hE dX7_callBackUnheld_32
  · refine zg_lload_n hC 1 dX7_callBackUnheld_13 rfl ?_
    refine zg_iload_n hC 2 dX7_callBackUnheld_14 rfl ?_
    refine zg_callSi hC hE hN (As := [.long v1, .int v3]) (S := []) rfl (tX7_contains (zflag hC) (d + 2) N v1 v3 M) lkX7_175 rfl dX7_callBackUnheld_15 (Nat.le_of_ble_eq_true rfl) (fun r2 M3 er2 => ?_)
    refine zg_if_eq hC (tgt := 26) dX7_callBackUnheld_18 (by decide) (fun c4 => ?_) (fun c4 => ?_)
    · exact zg_sub [0, 1, 2] rfl (gX7_callBackUnheld_B26 hC hE hN N ih v1 v3 M3)
    · refine zg_aload_n hC 0 dX7_callBackUnheld_21 rfl ?_
      refine zg_iload_n hC 2 dX7_callBackUnheld_22 rfl ?_
      refine zg_callVv hC hE hN (k := 0) (As := [.int v3]) (S := []) rfl (tX7_callBackVersion (zflag hC) d N v3 M3) lkX7_334 rfl dX7_callBackUnheld_23 zq0 zk0 rfl rfl (Nat.le_of_ble_eq_true rfl) (fun r5 M6 er5 => ?_)
      exact zg_sub [0, 1, 2] rfl (gX7_callBackUnheld_B26 hC hE hN N ih v1 v3 M6)
set_option maxRecDepth 20000 in
set_option maxHeartbeats 2000000 in
theorem gX7_callBackUnheld_B0 {l : Launch} {Z : zZ} {ad : Nat → Nat} {d : Nat} {X : zX} {cs : Nat × Nat} (hC : zC l Z zfull ad X RX7 cX7_callBackUnheld 4 none (d + 3)) (hE : zEnd Z zfull ad X true) (hN : zNoX X) (N : Nat) (p1 : Int64) (M : zMem) : zG l Z zfull ad X cs 0 [(0, .ref (ad 0)), (1, .long p1)] [] M (fX7_callBackUnheld N p1 M) := by
  unfold fX7_callBackUnheld
  refine zg_iconst hC (v := 0) dX7_callBackUnheld_0 (by decide) ?_
  refine zg_istore_n hC (L' := [(3, _), (0, _), (1, _)]) dX7_callBackUnheld_1 (by decide) rfl ?_
  exact zg_sub [1, 2, 0] rfl (gX7_callBackUnheld_B2 hC hE hN N N p1 0 M)
theorem tX7_callBackUnheld {l : Launch} {Z : zZ} {ad : Nat → Nat} (hl : l.stackTraces = false) (d : Nat) (N : Nat) (p1 : Int64) (M : zMem) : zT l Z zfull ad (.code yX7_callBackUnheld cX7_callBackUnheld 4 none) yX7_callBackUnheld (d + 3) true zbn [.ref (ad 0), .long p1] M (fX7_callBackUnheld N p1 M) :=
  zT_of hl (by decide +kernel) (Nat.le_of_ble_eq_true rfl) (fun X hC hE hN => gX7_callBackUnheld_B0 hC hE hN N p1 M)

def fX7_tell (N : Nat) (p1 : Int32) (p2 : Int32) (M : zMem) : zRES :=
  zb (fX7_checkPair N p1 p2 M) fun r1 M2 =>
  zb (fX7_checkLeader N p1 M2) fun r3 M4 =>
  zb (fX7_checkReach N p1 p2 M4) fun r5 M6 =>
  zb (fX0_sendLog 1 N p1 p2 M6) fun r7 M8 =>
  zb (fX3_add N 4 p1 p2 M8) fun r9 M10 =>
  zb (fX7_callBackUnheld N ((M6.2 1 10) &&& ((M10.2 1 10) ^^^ (-1))) M10) fun r11 M12 =>
  some (.inl r7, M12)
set_option maxRecDepth 20000 in
set_option maxHeartbeats 2000000 in
theorem gX7_tell_B0 {l : Launch} {Z : zZ} {ad : Nat → Nat} {d : Nat} {X : zX} {cs : Nat × Nat} (hC : zC l Z zfull ad X RX7 cX7_tell 6 (some .int) (d + 8)) (hE : zEnd Z zfull ad X false) (hN : zNoX X) (N : Nat) (p1 : Int32) (p2 : Int32) (M : zMem) : zG l Z zfull ad X cs 0 [(0, .ref (ad 0)), (1, .int p1), (2, .int p2)] [] M (fX7_tell N p1 p2 M) := by
  unfold fX7_tell
  refine zg_iload_n hC 1 dX7_tell_0 rfl ?_
  refine zg_iload_n hC 2 dX7_tell_1 rfl ?_
  refine zg_callSv hC hE hN (As := [.int p1, .int p2]) (S := []) rfl (tX7_checkPair (zflag hC) d N p1 p2 M) lkX7_98 rfl dX7_tell_2 (Nat.le_of_ble_eq_true rfl) (fun r1 M2 er1 => ?_)
  refine zg_aload_n hC 0 dX7_tell_5 rfl ?_
  refine zg_iload_n hC 1 dX7_tell_6 rfl ?_
  refine zg_callVv hC hE hN (k := 0) (As := [.int p1]) (S := []) rfl (tX7_checkLeader (zflag hC) (d + 1) N p1 M2) lkX7_119 rfl dX7_tell_7 zq0 zk0 rfl rfl (Nat.le_of_ble_eq_true rfl) (fun r3 M4 er3 => ?_)
  refine zg_aload_n hC 0 dX7_tell_10 rfl ?_
  refine zg_iload_n hC 1 dX7_tell_11 rfl ?_
  refine zg_iload_n hC 2 dX7_tell_12 rfl ?_
  refine zg_callVv hC hE hN (k := 0) (As := [.int p1, .int p2]) (S := []) rfl (tX7_checkReach (zflag hC) (d + 1) N p1 p2 M4) lkX7_107 rfl dX7_tell_13 zq0 zk0 rfl rfl (Nat.le_of_ble_eq_true rfl) (fun r5 M6 er5 => ?_)
  refine zg_aload_n hC 0 dX7_tell_16 rfl ?_
  refine zg_get hC (k := 0) (v := .ref (ad 1)) ffX7_10 dX7_tell_17 zq0 zk0 rfl ?_
  refine zg_get hC (k := 1) (v := .long (M6.2 1 10)) ffX7_137 dX7_tell_20 zq1 zk1 rfl ?_
  refine zg_lstore_n hC (L' := [(3, _), (0, _), (1, _), (2, _)]) dX7_tell_23 (by decide) rfl ?_
  refine zg_aload_n hC 1 dX7_tell_24 rfl ?_
  refine zg_get hC (k := 0) (v := .ref (ad 1)) ffX7_10 dX7_tell_25 zq0 zk0 rfl ?_
  refine zg_iload_n hC 2 dX7_tell_28 rfl ?_
  refine zg_iload_n hC 3 dX7_tell_29 rfl ?_
  refine zg_callVi hC hE hN (k := 1) (As := [.int p1, .int p2]) (S := []) rfl (tX0_sendLog (zflag hC) (d + 3) (Or.inl rfl) zqA1 N p1 p2 M6) lkX7_141 rfl dX7_tell_30 zq1 zk1 rfl rfl (Nat.le_of_ble_eq_true rfl) (fun r7 M8 er7 => ?_)
  refine zg_istore hC (L' := [(5, _), (3, _), (0, _), (1, _), (2, _)]) dX7_tell_33 (by decide) rfl ?_
  refine zg_aload_n hC 2 dX7_tell_35 rfl ?_
  refine zg_get hC (k := 0) (v := .ref (ad 29)) ffX7_22 dX7_tell_36 zq0 zk0 rfl ?_
  refine zg_iconst hC (v := 4) dX7_tell_39 (by decide) ?_
  refine zg_iload_n hC 3 dX7_tell_40 rfl ?_
  refine zg_iload_n hC 4 dX7_tell_41 rfl ?_
  refine zg_callVv hC hE hN (k := 29) (As := [.int 4, .int p1, .int p2]) (S := []) rfl (tX3_add (zflag hC) (d + 7) N 4 p1 p2 M8) lkX7_72 rfl dX7_tell_42 zq29 zk29 rfl rfl (Nat.le_of_ble_eq_true rfl) (fun r9 M10 er9 => ?_)
  refine zg_aload_n hC 2 dX7_tell_45 rfl ?_
  refine zg_lload_n hC 1 dX7_tell_46 rfl ?_
  refine zg_aload_n hC 2 dX7_tell_47 rfl ?_
  refine zg_get hC (k := 0) (v := .ref (ad 1)) ffX7_10 dX7_tell_48 zq0 zk0 rfl ?_
  refine zg_get hC (k := 1) (v := .long (M10.2 1 10)) ffX7_137 dX7_tell_51 zq1 zk1 rfl ?_
  refine zg_ldc2 hC (v := -1) dX7_tell_54 kcX7_145 ?_
  refine zg_lxor hC dX7_tell_57 ?_
  refine zg_land hC dX7_tell_58 ?_
  refine zg_callVv hC hE hN (k := 0) (As := [.long ((M6.2 1 10) &&& ((M10.2 1 10) ^^^ (-1)))]) (S := []) rfl (tX7_callBackUnheld (zflag hC) (d + 4) N ((M6.2 1 10) &&& ((M10.2 1 10) ^^^ (-1))) M10) lkX7_147 rfl dX7_tell_59 zq0 zk0 rfl rfl (Nat.le_of_ble_eq_true rfl) (fun r11 M12 er11 => ?_)
  refine zg_iload hC 0 dX7_tell_62 rfl ?_
  exact zg_ret hC hE dX7_tell_64
theorem tX7_tell {l : Launch} {Z : zZ} {ad : Nat → Nat} (hl : l.stackTraces = false) (d : Nat) (N : Nat) (p1 : Int32) (p2 : Int32) (M : zMem) : zT l Z zfull ad (.code yX7_tell cX7_tell 6 (some .int)) yX7_tell (d + 8) false zbn [.ref (ad 0), .int p1, .int p2] M (fX7_tell N p1 p2 M) :=
  zT_of hl (by decide +kernel) (Nat.le_of_ble_eq_true rfl) (fun X hC hE hN => gX7_tell_B0 hC hE hN N p1 p2 M)

def fX7_checkGood (N : Nat) (p1 : Int32) (M : zMem) : zRES :=
  zb (fX7_contains N ((M.1 37 1).toInt64) p1 M) fun r1 M2 =>
  if r1 = 0 then
    some (.inl 0, M2)
  else
    some (.inr 3, M2)
set_option maxRecDepth 20000 in
set_option maxHeartbeats 2000000 in
theorem gX7_checkGood_B0 {l : Launch} {Z : zZ} {ad : Nat → Nat} {d : Nat} {X : zX} (hC : zC l Z zfull ad X RX7 cX7_checkGood 2 none (d + 6)) (hE : zEnd Z zfull ad X true) (hN : zNoX X) (N : Nat) (p1 : Int32) (M : zMem) : zG l Z zfull ad X (0, 0) 0 [(0, .ref (ad 0)), (1, .int p1)] [] M (fX7_checkGood N p1 M) := by
  unfold fX7_checkGood
  refine zg_aload_n hC 0 dX7_checkGood_0 rfl ?_
  refine zg_get hC (k := 0) (v := .ref (ad 37)) ffX7_36 dX7_checkGood_1 zq0 zk0 rfl ?_
  refine zg_get hC (k := 37) (v := .int (M.1 37 1)) ffX7_303 dX7_checkGood_4 zq37 zk37 rfl ?_
  refine zg_i2l hC dX7_checkGood_7 ?_
  refine zg_iload_n hC 1 dX7_checkGood_8 rfl ?_
  refine zg_callSi hC hE hN (As := [.long ((M.1 37 1).toInt64), .int p1]) (S := []) rfl (tX7_contains (zflag hC) (d + 5) N ((M.1 37 1).toInt64) p1 M) lkX7_175 rfl dX7_checkGood_9 (Nat.le_of_ble_eq_true rfl) (fun r1 M2 er1 => ?_)
  refine zg_if_eq hC (tgt := 26) dX7_checkGood_12 (by decide) (fun c3 => ?_) (fun c3 => ?_)
  · exact zg_retv hC hE dX7_checkGood_26
  · exact zg_throwW hC hE hN (by omega) txX7_94 ckX7_90 skX7_306 dX7_checkGood_15 dX7_checkGood_18 dX7_checkGood_19 dX7_checkGood_22 dX7_checkGood_25 (Nat.le_of_ble_eq_true rfl)
theorem tX7_checkGood {l : Launch} {Z : zZ} {ad : Nat → Nat} (hl : l.stackTraces = false) (d : Nat) (N : Nat) (p1 : Int32) (M : zMem) : zT l Z zfull ad (.code yX7_checkGood cX7_checkGood 2 none) yX7_checkGood (d + 6) true zbn [.ref (ad 0), .int p1] M (fX7_checkGood N p1 M) :=
  zT_of hl (by decide +kernel) (Nat.le_of_ble_eq_true rfl) (fun X hC hE hN => gX7_checkGood_B0 hC hE hN N p1 M)

def fX7_deliver (N : Nat) (p1 : Int32) (p2 : Int32) (p3 : Int32) (M : zMem) : zRES :=
  zb (fX7_checkBakery N p1 M) fun r1 M2 =>
  zb (fX7_checkLot N p2 M2) fun r3 M4 =>
  if p3 < 1 then
    some (.inr 2, M4)
  else
    if p3 ≤ 50 then
      zb (fX7_checkGood N p2 M4) fun r7 M8 =>
      if zin p1 5 = true then
      if ((M8.1 44 p1.toNatClampNeg) + p3) ≤ 200 then
        zb (fX2_bring N p1 p2 p3 M8) fun r11 M12 =>
        if zin p1 5 = true then
        some (.inl (M12.1 44 p1.toNatClampNeg), M12)
        else none
      else
        some (.inr 3, M8)
      else none
    else
      some (.inr 2, M4)
set_option maxRecDepth 20000 in
set_option maxHeartbeats 2000000 in
theorem gX7_deliver_B0 {l : Launch} {Z : zZ} {ad : Nat → Nat} {d : Nat} {X : zX} (hC : zC l Z zfull ad X RX7 cX7_deliver 4 (some .int) (d + 7)) (hE : zEnd Z zfull ad X false) (hN : zNoX X) (N : Nat) (p1 : Int32) (p2 : Int32) (p3 : Int32) (M : zMem) : zG l Z zfull ad X (0, 0) 0 [(0, .ref (ad 0)), (1, .int p1), (2, .int p2), (3, .int p3)] [] M (fX7_deliver N p1 p2 p3 M) := by
  unfold fX7_deliver
  refine zg_iload_n hC 1 dX7_deliver_0 rfl ?_
  refine zg_callSv hC hE hN (As := [.int p1]) (S := []) rfl (tX7_checkBakery (zflag hC) d N p1 M) lkX7_82 rfl dX7_deliver_1 (Nat.le_of_ble_eq_true rfl) (fun r1 M2 er1 => ?_)
  refine zg_aload_n hC 0 dX7_deliver_4 rfl ?_
  refine zg_iload_n hC 2 dX7_deliver_5 rfl ?_
  refine zg_callVv hC hE hN (k := 0) (As := [.int p2]) (S := []) rfl (tX7_checkLot (zflag hC) d N p2 M2) lkX7_190 rfl dX7_deliver_6 zq0 zk0 rfl rfl (Nat.le_of_ble_eq_true rfl) (fun r3 M4 er3 => ?_)
  refine zg_iload_n hC 3 dX7_deliver_9 rfl ?_
  refine zg_iconst hC (v := 1) dX7_deliver_10 (by decide) ?_
  refine zg_icmp_lt hC (tgt := 20) dX7_deliver_11 (by decide) (fun c5 => ?_) (fun c5 => ?_)
  · exact zg_throw hC hE hN (by omega) txX7_65 ckX7_61 skX7_193 dX7_deliver_20 dX7_deliver_23 dX7_deliver_24 dX7_deliver_26 dX7_deliver_29 (Nat.le_of_ble_eq_true rfl)
  · refine zg_iload_n hC 3 dX7_deliver_14 rfl ?_
    refine zg_bipush hC (v := 50) dX7_deliver_15 (by decide) ?_
    refine zg_icmp_le hC (tgt := 30) dX7_deliver_17 (by decide) (fun c6 => ?_) (fun c6 => ?_)
    · refine zg_aload_n hC 0 dX7_deliver_30 rfl ?_
      refine zg_iload_n hC 2 dX7_deliver_31 rfl ?_
      refine zg_callVv hC hE hN (k := 0) (As := [.int p2]) (S := []) rfl (tX7_checkGood (zflag hC) d N p2 M4) lkX7_195 rfl dX7_deliver_32 zq0 zk0 rfl rfl (Nat.le_of_ble_eq_true rfl) (fun r7 M8 er7 => ?_)
      refine zg_aload_n hC 0 dX7_deliver_35 rfl ?_
      refine zg_get hC (k := 0) (v := .ref (ad 37)) ffX7_36 dX7_deliver_36 zq0 zk0 rfl ?_
      refine zg_get hC (k := 37) (v := .ref (ad 44)) ffX7_198 dX7_deliver_39 zq37 zk37 rfl ?_
      refine zg_iload_n hC 1 dX7_deliver_42 rfl ?_
      refine zg_iald hC (k := 44) dX7_deliver_43 zq44 zk44 (fun h9 => ?_)
      refine zg_iload_n hC 3 dX7_deliver_44 rfl ?_
      refine zg_iadd hC dX7_deliver_45 ?_
      refine zg_sipush hC (v := 200) dX7_deliver_46 (by decide) ?_
      refine zg_icmp_le hC (tgt := 62) dX7_deliver_49 (by decide) (fun c10 => ?_) (fun c10 => ?_)
      · refine zg_aload_n hC 0 dX7_deliver_62 rfl ?_
        refine zg_get hC (k := 0) (v := .ref (ad 37)) ffX7_36 dX7_deliver_63 zq0 zk0 rfl ?_
        refine zg_iload_n hC 1 dX7_deliver_66 rfl ?_
        refine zg_iload_n hC 2 dX7_deliver_67 rfl ?_
        refine zg_iload_n hC 3 dX7_deliver_68 rfl ?_
        refine zg_callVv hC hE hN (k := 37) (As := [.int p1, .int p2, .int p3]) (S := []) rfl (tX2_bring (zflag hC) (d + 6) N p1 p2 p3 M8) lkX7_203 rfl dX7_deliver_69 zq37 zk37 rfl rfl (Nat.le_of_ble_eq_true rfl) (fun r11 M12 er11 => ?_)
        refine zg_aload_n hC 0 dX7_deliver_72 rfl ?_
        refine zg_get hC (k := 0) (v := .ref (ad 37)) ffX7_36 dX7_deliver_73 zq0 zk0 rfl ?_
        refine zg_get hC (k := 37) (v := .ref (ad 44)) ffX7_198 dX7_deliver_76 zq37 zk37 rfl ?_
        refine zg_iload_n hC 1 dX7_deliver_79 rfl ?_
        refine zg_iald hC (k := 44) dX7_deliver_80 zq44 zk44 (fun h13 => ?_)
        exact zg_ret hC hE dX7_deliver_81
      · exact zg_throw hC hE hN (by omega) txX7_94 ckX7_90 skX7_201 dX7_deliver_52 dX7_deliver_55 dX7_deliver_56 dX7_deliver_58 dX7_deliver_61 (Nat.le_of_ble_eq_true rfl)
    · exact zg_throw hC hE hN (by omega) txX7_65 ckX7_61 skX7_193 dX7_deliver_20 dX7_deliver_23 dX7_deliver_24 dX7_deliver_26 dX7_deliver_29 (Nat.le_of_ble_eq_true rfl)
theorem tX7_deliver {l : Launch} {Z : zZ} {ad : Nat → Nat} (hl : l.stackTraces = false) (d : Nat) (N : Nat) (p1 : Int32) (p2 : Int32) (p3 : Int32) (M : zMem) : zT l Z zfull ad (.code yX7_deliver cX7_deliver 4 (some .int)) yX7_deliver (d + 7) false zbn [.ref (ad 0), .int p1, .int p2, .int p3] M (fX7_deliver N p1 p2 p3 M) :=
  zT_of hl (by decide +kernel) (Nat.le_of_ble_eq_true rfl) (fun X hC hE hN => gX7_deliver_B0 hC hE hN N p1 p2 p3 M)

def fX7_putCurrent (N : Nat) (p1 : Int32) (p2 : Int32) (p3 : Int32) (M : zMem) : zRES :=
  zb (fX7_findCurrent N p1 p3 M) fun r1 M2 =>
  if r1 = (-1) then
    some (.inr 3, M2)
  else
    zb (fX4_setSlot N p1 p2 r1 M2) fun r4 M5 =>
    some (.inl r1, M5)
set_option maxRecDepth 20000 in
set_option maxHeartbeats 2000000 in
theorem gX7_putCurrent_B0 {l : Launch} {Z : zZ} {ad : Nat → Nat} {d : Nat} {X : zX} (hC : zC l Z zfull ad X RX7 cX7_putCurrent 5 (some .int) (d + 6)) (hE : zEnd Z zfull ad X false) (hN : zNoX X) (N : Nat) (p1 : Int32) (p2 : Int32) (p3 : Int32) (M : zMem) : zG l Z zfull ad X (0, 0) 0 [(0, .ref (ad 0)), (1, .int p1), (2, .int p2), (3, .int p3)] [] M (fX7_putCurrent N p1 p2 p3 M) := by
  unfold fX7_putCurrent
  refine zg_aload_n hC 0 dX7_putCurrent_0 rfl ?_
  refine zg_iload_n hC 1 dX7_putCurrent_1 rfl ?_
  refine zg_iload_n hC 3 dX7_putCurrent_2 rfl ?_
  refine zg_callVi hC hE hN (k := 0) (As := [.int p1, .int p3]) (S := []) rfl (tX7_findCurrent (zflag hC) (d + 4) N p1 p3 M) lkX7_182 rfl dX7_putCurrent_3 zq0 zk0 rfl rfl (Nat.le_of_ble_eq_true rfl) (fun r1 M2 er1 => ?_)
  refine zg_istore hC (L' := [(4, _), (0, _), (1, _), (2, _), (3, _)]) dX7_putCurrent_6 (by decide) rfl ?_
  refine zg_iload hC 0 dX7_putCurrent_8 rfl ?_
  refine zg_iconst hC (v := (-1)) dX7_putCurrent_10 (by decide) ?_
  refine zg_icmp_ne hC (tgt := 25) dX7_putCurrent_11 (by decide) (fun c3 => ?_) (fun c3 => ?_)
  · exact zg_throwW hC hE hN (by omega) txX7_94 ckX7_90 skX7_316 dX7_putCurrent_14 dX7_putCurrent_17 dX7_putCurrent_18 dX7_putCurrent_21 dX7_putCurrent_24 (Nat.le_of_ble_eq_true rfl)
  · refine zg_aload_n hC 1 dX7_putCurrent_25 rfl ?_
    refine zg_get hC (k := 0) (v := .ref (ad 45)) ffX7_43 dX7_putCurrent_26 zq0 zk0 rfl ?_
    refine zg_iload_n hC 2 dX7_putCurrent_29 rfl ?_
    refine zg_iload_n hC 3 dX7_putCurrent_30 rfl ?_
    refine zg_iload hC 0 dX7_putCurrent_31 rfl ?_
    refine zg_callVv hC hE hN (k := 45) (As := [.int p1, .int p2, .int r1]) (S := []) rfl (tX4_setSlot (zflag hC) (d + 5) N p1 p2 r1 M2) lkX7_230 rfl dX7_putCurrent_33 zq45 zk45 rfl rfl (Nat.le_of_ble_eq_true rfl) (fun r4 M5 er4 => ?_)
    refine zg_iload hC 0 dX7_putCurrent_36 rfl ?_
    exact zg_ret hC hE dX7_putCurrent_38
theorem tX7_putCurrent {l : Launch} {Z : zZ} {ad : Nat → Nat} (hl : l.stackTraces = false) (d : Nat) (N : Nat) (p1 : Int32) (p2 : Int32) (p3 : Int32) (M : zMem) : zT l Z zfull ad (.code yX7_putCurrent cX7_putCurrent 5 (some .int)) yX7_putCurrent (d + 6) false zbn [.ref (ad 0), .int p1, .int p2, .int p3] M (fX7_putCurrent N p1 p2 p3 M) :=
  zT_of hl (by decide +kernel) (Nat.le_of_ble_eq_true rfl) (fun X hC hE hN => gX7_putCurrent_B0 hC hE hN N p1 p2 p3 M)

def fX7_book (N : Nat) (p1 : Int32) (p2 : Int32) (p3 : Int32) (M : zMem) : zRES :=
  zb (fX7_checkBakery N p1 M) fun r1 M2 =>
  zb (fX7_checkRecipe N p3 M2) fun r3 M4 =>
  zb (fX7_checkHour N p2 M4) fun r5 M6 =>
  zb (fX4_slotAt N p1 p2 M6) fun r7 M8 =>
  if r7 = (-1) then
    zb (fX7_putCurrent N p1 p2 p3 M8) fun r10 M11 =>
    some (.inl r10, M11)
  else
    some (.inr 3, M8)
set_option maxRecDepth 20000 in
set_option maxHeartbeats 2000000 in
theorem gX7_book_B0 {l : Launch} {Z : zZ} {ad : Nat → Nat} {d : Nat} {X : zX} (hC : zC l Z zfull ad X RX7 cX7_book 4 (some .int) (d + 7)) (hE : zEnd Z zfull ad X false) (hN : zNoX X) (N : Nat) (p1 : Int32) (p2 : Int32) (p3 : Int32) (M : zMem) : zG l Z zfull ad X (0, 0) 0 [(0, .ref (ad 0)), (1, .int p1), (2, .int p2), (3, .int p3)] [] M (fX7_book N p1 p2 p3 M) := by
  unfold fX7_book
  refine zg_iload_n hC 1 dX7_book_0 rfl ?_
  refine zg_callSv hC hE hN (As := [.int p1]) (S := []) rfl (tX7_checkBakery (zflag hC) d N p1 M) lkX7_82 rfl dX7_book_1 (Nat.le_of_ble_eq_true rfl) (fun r1 M2 er1 => ?_)
  refine zg_iload_n hC 3 dX7_book_4 rfl ?_
  refine zg_callSv hC hE hN (As := [.int p3]) (S := []) rfl (tX7_checkRecipe (zflag hC) d N p3 M2) lkX7_114 rfl dX7_book_5 (Nat.le_of_ble_eq_true rfl) (fun r3 M4 er3 => ?_)
  refine zg_aload_n hC 0 dX7_book_8 rfl ?_
  refine zg_iload_n hC 2 dX7_book_9 rfl ?_
  refine zg_callVv hC hE hN (k := 0) (As := [.int p2]) (S := []) rfl (tX7_checkHour (zflag hC) d N p2 M4) lkX7_212 rfl dX7_book_10 zq0 zk0 rfl rfl (Nat.le_of_ble_eq_true rfl) (fun r5 M6 er5 => ?_)
  refine zg_aload_n hC 0 dX7_book_13 rfl ?_
  refine zg_get hC (k := 0) (v := .ref (ad 45)) ffX7_43 dX7_book_14 zq0 zk0 rfl ?_
  refine zg_iload_n hC 1 dX7_book_17 rfl ?_
  refine zg_iload_n hC 2 dX7_book_18 rfl ?_
  refine zg_callVi hC hE hN (k := 45) (As := [.int p1, .int p2]) (S := []) rfl (tX4_slotAt (zflag hC) (d + 6) N p1 p2 M6) lkX7_215 rfl dX7_book_19 zq45 zk45 rfl rfl (Nat.le_of_ble_eq_true rfl) (fun r7 M8 er7 => ?_)
  refine zg_iconst hC (v := (-1)) dX7_book_22 (by decide) ?_
  refine zg_icmp_eq hC (tgt := 36) dX7_book_23 (by decide) (fun c9 => ?_) (fun c9 => ?_)
  · refine zg_aload_n hC 0 dX7_book_36 rfl ?_
    refine zg_iload_n hC 1 dX7_book_37 rfl ?_
    refine zg_iload_n hC 2 dX7_book_38 rfl ?_
    refine zg_iload_n hC 3 dX7_book_39 rfl ?_
    refine zg_callVi hC hE hN (k := 0) (As := [.int p1, .int p2, .int p3]) (S := []) rfl (tX7_putCurrent (zflag hC) d N p1 p2 p3 M8) lkX7_220 rfl dX7_book_40 zq0 zk0 rfl rfl (Nat.le_of_ble_eq_true rfl) (fun r10 M11 er10 => ?_)
    exact zg_ret hC hE dX7_book_43
  · exact zg_throw hC hE hN (by omega) txX7_94 ckX7_90 skX7_218 dX7_book_26 dX7_book_29 dX7_book_30 dX7_book_32 dX7_book_35 (Nat.le_of_ble_eq_true rfl)
theorem tX7_book {l : Launch} {Z : zZ} {ad : Nat → Nat} (hl : l.stackTraces = false) (d : Nat) (N : Nat) (p1 : Int32) (p2 : Int32) (p3 : Int32) (M : zMem) : zT l Z zfull ad (.code yX7_book cX7_book 4 (some .int)) yX7_book (d + 7) false zbn [.ref (ad 0), .int p1, .int p2, .int p3] M (fX7_book N p1 p2 p3 M) :=
  zT_of hl (by decide +kernel) (Nat.le_of_ble_eq_true rfl) (fun X hC hE hN => gX7_book_B0 hC hE hN N p1 p2 p3 M)

def fX7_sell (N : Nat) (p1 : Int32) (p2 : Int32) (M : zMem) : zRES :=
  zb (fX7_checkBatch N p1 M) fun r1 M2 =>
  if p2 < 1 then
    some (.inr 2, M2)
  else
    if p2 ≤ 40 then
      zb (fX7_barredUnder 1 N p1 M2) fun r5 M6 =>
      if r5 = 0 then
        if zin p1 60 = true then
        if p2 ≤ (M6.1 56 p1.toNatClampNeg) then
          if zin p1 60 = true then
          if zin p1 60 = true then
          zl (zsI M6 56 p1.toNatClampNeg ((M6.1 56 p1.toNatClampNeg) - p2)) fun M12 =>
          if zin p1 60 = true then
          if zin p1 60 = true then
          zl (zsI M12 57 p1.toNatClampNeg ((M12.1 57 p1.toNatClampNeg) + p2)) fun M15 =>
          if zin p1 60 = true then
          some (.inl (M15.1 56 p1.toNatClampNeg), M15)
          else none
          else none
          else none
          else none
          else none
        else
          some (.inr 3, M6)
        else none
      else
        some (.inr 3, M6)
    else
      some (.inr 2, M2)
set_option maxRecDepth 20000 in
set_option maxHeartbeats 2000000 in
theorem gX7_sell_B0 {l : Launch} {Z : zZ} {ad : Nat → Nat} {d : Nat} {X : zX} (hC : zC l Z zfull ad X RX7 cX7_sell 3 (some .int) (d + 7)) (hE : zEnd Z zfull ad X false) (hN : zNoX X) (N : Nat) (p1 : Int32) (p2 : Int32) (M : zMem) : zG l Z zfull ad X (0, 0) 0 [(0, .ref (ad 0)), (1, .int p1), (2, .int p2)] [] M (fX7_sell N p1 p2 M) := by
  unfold fX7_sell
  refine zg_aload_n hC 0 dX7_sell_0 rfl ?_
  refine zg_iload_n hC 1 dX7_sell_1 rfl ?_
  refine zg_callVv hC hE hN (k := 0) (As := [.int p1]) (S := []) rfl (tX7_checkBatch (zflag hC) d N p1 M) lkX7_250 rfl dX7_sell_2 zq0 zk0 rfl rfl (Nat.le_of_ble_eq_true rfl) (fun r1 M2 er1 => ?_)
  refine zg_iload_n hC 2 dX7_sell_5 rfl ?_
  refine zg_iconst hC (v := 1) dX7_sell_6 (by decide) ?_
  refine zg_icmp_lt hC (tgt := 16) dX7_sell_7 (by decide) (fun c3 => ?_) (fun c3 => ?_)
  · exact zg_throwW hC hE hN (by omega) txX7_65 ckX7_61 skX7_269 dX7_sell_16 dX7_sell_19 dX7_sell_20 dX7_sell_23 dX7_sell_26 (Nat.le_of_ble_eq_true rfl)
  · refine zg_iload_n hC 2 dX7_sell_10 rfl ?_
    refine zg_bipush hC (v := 40) dX7_sell_11 (by decide) ?_
    refine zg_icmp_le hC (tgt := 27) dX7_sell_13 (by decide) (fun c4 => ?_) (fun c4 => ?_)
    · refine zg_aload_n hC 0 dX7_sell_27 rfl ?_
      refine zg_aload_n hC 0 dX7_sell_28 rfl ?_
      refine zg_get hC (k := 0) (v := .ref (ad 1)) ffX7_10 dX7_sell_29 zq0 zk0 rfl ?_
      refine zg_iload_n hC 1 dX7_sell_32 rfl ?_
      refine zg_callVi hC hE hN (k := 0) (As := [.ref (ad 1), .int p1]) (S := []) rfl (tX7_barredUnder (zflag hC) (d + 5) (Or.inl rfl) N p1 M2) lkX7_262 rfl dX7_sell_33 zq0 zk0 rfl rfl (Nat.le_of_ble_eq_true rfl) (fun r5 M6 er5 => ?_)
      refine zg_if_ne hC (tgt := 52) dX7_sell_36 (by decide) (fun c7 => ?_) (fun c7 => ?_)
      · refine zg_aload_n hC 0 dX7_sell_39 rfl ?_
        refine zg_get hC (k := 0) (v := .ref (ad 53)) ffX7_50 dX7_sell_40 zq0 zk0 rfl ?_
        refine zg_get hC (k := 53) (v := .ref (ad 56)) ffX7_259 dX7_sell_43 zq53 zk53 rfl ?_
        refine zg_iload_n hC 1 dX7_sell_46 rfl ?_
        refine zg_iald hC (k := 56) dX7_sell_47 zq56 zk56 (fun h8 => ?_)
        refine zg_iload_n hC 2 dX7_sell_48 rfl ?_
        refine zg_icmp_ge hC (tgt := 63) dX7_sell_49 (by decide) (fun c9 => ?_) (fun c9 => ?_)
        · refine zg_aload_n hC 0 dX7_sell_63 rfl ?_
          refine zg_get hC (k := 0) (v := .ref (ad 53)) ffX7_50 dX7_sell_64 zq0 zk0 rfl ?_
          refine zg_get hC (k := 53) (v := .ref (ad 56)) ffX7_259 dX7_sell_67 zq53 zk53 rfl ?_
          refine zg_iload_n hC 1 dX7_sell_70 rfl ?_
          refine zg_dup2_11 hC dX7_sell_71 rfl rfl ?_
          refine zg_iald hC (k := 56) dX7_sell_72 zq56 zk56 (fun h10 => ?_)
          refine zg_iload_n hC 2 dX7_sell_73 rfl ?_
          refine zg_isub hC dX7_sell_74 ?_
          refine zg_iast hC (k := 56) dX7_sell_75 zq56 zk56 (fun h11 M12 eM12 => ?_)
          refine zg_aload_n hC 0 dX7_sell_76 rfl ?_
          refine zg_get hC (k := 0) (v := .ref (ad 53)) ffX7_50 dX7_sell_77 zq0 zk0 rfl ?_
          refine zg_get hC (k := 53) (v := .ref (ad 57)) ffX7_273 dX7_sell_80 zq53 zk53 rfl ?_
          refine zg_iload_n hC 1 dX7_sell_83 rfl ?_
          refine zg_dup2_11 hC dX7_sell_84 rfl rfl ?_
          refine zg_iald hC (k := 57) dX7_sell_85 zq57 zk57 (fun h13 => ?_)
          refine zg_iload_n hC 2 dX7_sell_86 rfl ?_
          refine zg_iadd hC dX7_sell_87 ?_
          refine zg_iast hC (k := 57) dX7_sell_88 zq57 zk57 (fun h14 M15 eM15 => ?_)
          refine zg_aload_n hC 0 dX7_sell_89 rfl ?_
          refine zg_get hC (k := 0) (v := .ref (ad 53)) ffX7_50 dX7_sell_90 zq0 zk0 rfl ?_
          refine zg_get hC (k := 53) (v := .ref (ad 56)) ffX7_259 dX7_sell_93 zq53 zk53 rfl ?_
          refine zg_iload_n hC 1 dX7_sell_96 rfl ?_
          refine zg_iald hC (k := 56) dX7_sell_97 zq56 zk56 (fun h16 => ?_)
          exact zg_ret hC hE dX7_sell_98
        · exact zg_throwW hC hE hN (by omega) txX7_94 ckX7_90 skX7_271 dX7_sell_52 dX7_sell_55 dX7_sell_56 dX7_sell_59 dX7_sell_62 (Nat.le_of_ble_eq_true rfl)
      · exact zg_throwW hC hE hN (by omega) txX7_94 ckX7_90 skX7_271 dX7_sell_52 dX7_sell_55 dX7_sell_56 dX7_sell_59 dX7_sell_62 (Nat.le_of_ble_eq_true rfl)
    · exact zg_throwW hC hE hN (by omega) txX7_65 ckX7_61 skX7_269 dX7_sell_16 dX7_sell_19 dX7_sell_20 dX7_sell_23 dX7_sell_26 (Nat.le_of_ble_eq_true rfl)
theorem tX7_sell {l : Launch} {Z : zZ} {ad : Nat → Nat} (hl : l.stackTraces = false) (d : Nat) (N : Nat) (p1 : Int32) (p2 : Int32) (M : zMem) : zT l Z zfull ad (.code yX7_sell cX7_sell 3 (some .int)) yX7_sell (d + 7) false zbn [.ref (ad 0), .int p1, .int p2] M (fX7_sell N p1 p2 M) :=
  zT_of hl (by decide +kernel) (Nat.le_of_ble_eq_true rfl) (fun X hC hE hN => gX7_sell_B0 hC hE hN N p1 p2 M)

def fX7_callBackLot_B41 (N : Nat) (again4 : Int32 → Int32 → Int32 → zMem → zRES) (v1 : Int32) (v2 : Int32) (v3 : Int32) (M : zMem) : zRES :=
  again4 v1 v2 (v3 + 1) M
def fX7_callBackLot_B4 (N : Nat) : Nat → Int32 → Int32 → Int32 → zMem → zRES
  | 0, _, _, _, _ => none
  | n + 1, v1, v2, v3, M =>
  if (M.1 53 0) ≤ v3 then
    some (.inl v2, M)
  else
    if zin v3 60 = true then
    zb (fX7_contains N ((M.1 55 v3.toNatClampNeg).toInt64) v1 M) fun r3 M4 =>
    if r3 = 0 then
      fX7_callBackLot_B41 N (fX7_callBackLot_B4 N n) v1 v2 v3 M4
    else
      zb (fX7_callBackBatch N v3 2 M4) fun r6 M7 =>
      zv (v2 + r6) fun x8 =>
      fX7_callBackLot_B41 N (fX7_callBackLot_B4 N n) v1 x8 v3 M7
    else none
def fX7_callBackLot (N : Nat) (p1 : Int32) (M : zMem) : zRES :=
  fX7_callBackLot_B4 N N p1 0 0 M
set_option maxRecDepth 20000 in
set_option maxHeartbeats 2000000 in
theorem gX7_callBackLot_B41 {l : Launch} {Z : zZ} {ad : Nat → Nat} {d : Nat} {X : zX} {cs : Nat × Nat} (hC : zC l Z zfull ad X RX7 cX7_callBackLot 4 (some .int) (d + 2)) (hE : zEnd Z zfull ad X false) (hN : zNoX X) (N : Nat) {again4 : Int32 → Int32 → Int32 → zMem → zRES} (hag4 : ∀ v1 v2 v3 M, zG l Z zfull ad X cs 4 [(0, .ref (ad 0)), (1, .int v1), (2, .int v2), (3, .int v3)] [] M (again4 v1 v2 v3 M)) (v1 : Int32) (v2 : Int32) (v3 : Int32) (M : zMem) : zG l Z zfull ad X cs 41 [(0, .ref (ad 0)), (1, .int v1), (2, .int v2), (3, .int v3)] [] M (fX7_callBackLot_B41 N again4 v1 v2 v3 M) := by
  unfold fX7_callBackLot_B41
  refine zg_iinc hC 3 (v := v3 + 1) (L' := [(3, _), (0, _), (1, _), (2, _)]) dX7_callBackLot_41 rfl (by rfl) (by decide) rfl ?_
  refine zg_goto hC (tgt := 4) dX7_callBackLot_44 (by decide) ?_
  exact zg_sub [1, 2, 3, 0] rfl (hag4 v1 v2 (v3 + 1) M)
set_option maxRecDepth 20000 in
set_option maxHeartbeats 2000000 in
theorem gX7_callBackLot_B4 {l : Launch} {Z : zZ} {ad : Nat → Nat} {d : Nat} {X : zX} {cs : Nat × Nat} (hC : zC l Z zfull ad X RX7 cX7_callBackLot 4 (some .int) (d + 2)) (hE : zEnd Z zfull ad X false) (hN : zNoX X) (N : Nat) : ∀ (n : Nat) (v1 : Int32) (v2 : Int32) (v3 : Int32) (M : zMem), zG l Z zfull ad X cs 4 [(0, .ref (ad 0)), (1, .int v1), (2, .int v2), (3, .int v3)] [] M (fX7_callBackLot_B4 N n v1 v2 v3 M) := by
  intro n
  induction n with
  | zero =>
    intro v1 v2 v3 M
    exact zg_none
  | succ n ih =>
  intro v1 v2 v3 M
  rw [fX7_callBackLot_B4]
  refine zg_iload_n hC 3 dX7_callBackLot_4 rfl ?_
  refine zg_aload_n hC 0 dX7_callBackLot_5 rfl ?_
  refine zg_get hC (k := 0) (v := .ref (ad 53)) ffX7_50 dX7_callBackLot_6 zq0 zk0 rfl ?_
  refine zg_get hC (k := 53) (v := .int (M.1 53 0)) ffX7_247 dX7_callBackLot_9 zq53 zk53 rfl ?_
  refine zg_icmp_ge hC (tgt := 47) dX7_callBackLot_12 (by decide) (fun c1 => ?_) (fun c1 => ?_)
  · refine zg_iload_n hC 2 dX7_callBackLot_47 rfl ?_
    exact zg_ret hC hE dX7_callBackLot_48
  · refine zg_aload_n hC 0 dX7_callBackLot_15 rfl ?_
    refine zg_get hC (k := 0) (v := .ref (ad 53)) ffX7_50 dX7_callBackLot_16 zq0 zk0 rfl ?_
    refine zg_get hC (k := 53) (v := .ref (ad 55)) ffX7_256 dX7_callBackLot_19 zq53 zk53 rfl ?_
    refine zg_iload_n hC 3 dX7_callBackLot_22 rfl ?_
    refine zg_iald hC (k := 55) dX7_callBackLot_23 zq55 zk55 (fun h2 => ?_)
    refine zg_i2l hC dX7_callBackLot_24 ?_
    refine zg_iload_n hC 1 dX7_callBackLot_25 rfl ?_
    refine zg_callSi hC hE hN (As := [.long ((M.1 55 v3.toNatClampNeg).toInt64), .int v1]) (S := []) rfl (tX7_contains (zflag hC) (d + 1) N ((M.1 55 v3.toNatClampNeg).toInt64) v1 M) lkX7_175 rfl dX7_callBackLot_26 (Nat.le_of_ble_eq_true rfl) (fun r3 M4 er3 => ?_)
    refine zg_if_eq hC (tgt := 41) dX7_callBackLot_29 (by decide) (fun c5 => ?_) (fun c5 => ?_)
    · exact zg_sub [0, 1, 2, 3] rfl (gX7_callBackLot_B41 hC hE hN N ih v1 v2 v3 M4)
    · refine zg_iload_n hC 2 dX7_callBackLot_32 rfl ?_
      refine zg_aload_n hC 0 dX7_callBackLot_33 rfl ?_
      refine zg_iload_n hC 3 dX7_callBackLot_34 rfl ?_
      refine zg_iconst hC (v := 2) dX7_callBackLot_35 (by decide) ?_
      refine zg_callVi hC hE hN (k := 0) (As := [.int v3, .int 2]) (S := [.int v2]) rfl (tX7_callBackBatch (zflag hC) d N v3 2 M4) lkX7_337 rfl dX7_callBackLot_36 zq0 zk0 rfl rfl (Nat.le_of_ble_eq_true rfl) (fun r6 M7 er6 => ?_)
      refine zg_iadd hC dX7_callBackLot_39 ?_
      refine zg_nm (fun x8 ex8 => ?_)
      refine zg_istore_n hC (L' := [(2, _), (0, _), (1, _), (3, _)]) dX7_callBackLot_40 (by decide) rfl ?_
      exact zg_sub [1, 2, 0, 3] rfl (gX7_callBackLot_B41 hC hE hN N ih v1 x8 v3 M7)
set_option maxRecDepth 20000 in
set_option maxHeartbeats 2000000 in
theorem gX7_callBackLot_B0 {l : Launch} {Z : zZ} {ad : Nat → Nat} {d : Nat} {X : zX} {cs : Nat × Nat} (hC : zC l Z zfull ad X RX7 cX7_callBackLot 4 (some .int) (d + 2)) (hE : zEnd Z zfull ad X false) (hN : zNoX X) (N : Nat) (p1 : Int32) (M : zMem) : zG l Z zfull ad X cs 0 [(0, .ref (ad 0)), (1, .int p1)] [] M (fX7_callBackLot N p1 M) := by
  unfold fX7_callBackLot
  refine zg_iconst hC (v := 0) dX7_callBackLot_0 (by decide) ?_
  refine zg_istore_n hC (L' := [(2, _), (0, _), (1, _)]) dX7_callBackLot_1 (by decide) rfl ?_
  refine zg_iconst hC (v := 0) dX7_callBackLot_2 (by decide) ?_
  refine zg_istore_n hC (L' := [(3, _), (2, _), (0, _), (1, _)]) dX7_callBackLot_3 (by decide) rfl ?_
  exact zg_sub [2, 3, 1, 0] rfl (gX7_callBackLot_B4 hC hE hN N N p1 0 0 M)
theorem tX7_callBackLot {l : Launch} {Z : zZ} {ad : Nat → Nat} (hl : l.stackTraces = false) (d : Nat) (N : Nat) (p1 : Int32) (M : zMem) : zT l Z zfull ad (.code yX7_callBackLot cX7_callBackLot 4 (some .int)) yX7_callBackLot (d + 2) false zbn [.ref (ad 0), .int p1] M (fX7_callBackLot N p1 M) :=
  zT_of hl (by decide +kernel) (Nat.le_of_ble_eq_true rfl) (fun X hC hE hN => gX7_callBackLot_B0 hC hE hN N p1 M)

def fX7_condemn (N : Nat) (p1 : Int32) (M : zMem) : zRES :=
  zb (fX7_checkLot N p1 M) fun r1 M2 =>
  zb (fX7_checkGood N p1 M2) fun r3 M4 =>
  zb (fX2_throwOut N p1 M4) fun r5 M6 =>
  zb (fX7_callBackLot N p1 M6) fun r7 M8 =>
  some (.inl r7, M8)
set_option maxRecDepth 20000 in
set_option maxHeartbeats 2000000 in
theorem gX7_condemn_B0 {l : Launch} {Z : zZ} {ad : Nat → Nat} {d : Nat} {X : zX} {cs : Nat × Nat} (hC : zC l Z zfull ad X RX7 cX7_condemn 2 (some .int) (d + 7)) (hE : zEnd Z zfull ad X false) (hN : zNoX X) (N : Nat) (p1 : Int32) (M : zMem) : zG l Z zfull ad X cs 0 [(0, .ref (ad 0)), (1, .int p1)] [] M (fX7_condemn N p1 M) := by
  unfold fX7_condemn
  refine zg_aload_n hC 0 dX7_condemn_0 rfl ?_
  refine zg_iload_n hC 1 dX7_condemn_1 rfl ?_
  refine zg_callVv hC hE hN (k := 0) (As := [.int p1]) (S := []) rfl (tX7_checkLot (zflag hC) d N p1 M) lkX7_190 rfl dX7_condemn_2 zq0 zk0 rfl rfl (Nat.le_of_ble_eq_true rfl) (fun r1 M2 er1 => ?_)
  refine zg_aload_n hC 0 dX7_condemn_5 rfl ?_
  refine zg_iload_n hC 1 dX7_condemn_6 rfl ?_
  refine zg_callVv hC hE hN (k := 0) (As := [.int p1]) (S := []) rfl (tX7_checkGood (zflag hC) d N p1 M2) lkX7_195 rfl dX7_condemn_7 zq0 zk0 rfl rfl (Nat.le_of_ble_eq_true rfl) (fun r3 M4 er3 => ?_)
  refine zg_aload_n hC 0 dX7_condemn_10 rfl ?_
  refine zg_get hC (k := 0) (v := .ref (ad 37)) ffX7_36 dX7_condemn_11 zq0 zk0 rfl ?_
  refine zg_iload_n hC 1 dX7_condemn_14 rfl ?_
  refine zg_callVv hC hE hN (k := 37) (As := [.int p1]) (S := []) rfl (tX2_throwOut (zflag hC) (d + 5) N p1 M4) lkX7_206 rfl dX7_condemn_15 zq37 zk37 rfl rfl (Nat.le_of_ble_eq_true rfl) (fun r5 M6 er5 => ?_)
  refine zg_aload_n hC 0 dX7_condemn_18 rfl ?_
  refine zg_iload_n hC 1 dX7_condemn_19 rfl ?_
  refine zg_callVi hC hE hN (k := 0) (As := [.int p1]) (S := []) rfl (tX7_callBackLot (zflag hC) (d + 4) N p1 M6) lkX7_209 rfl dX7_condemn_20 zq0 zk0 rfl rfl (Nat.le_of_ble_eq_true rfl) (fun r7 M8 er7 => ?_)
  exact zg_ret hC hE dX7_condemn_23
theorem tX7_condemn {l : Launch} {Z : zZ} {ad : Nat → Nat} (hl : l.stackTraces = false) (d : Nat) (N : Nat) (p1 : Int32) (M : zMem) : zT l Z zfull ad (.code yX7_condemn cX7_condemn 2 (some .int)) yX7_condemn (d + 7) false zbn [.ref (ad 0), .int p1] M (fX7_condemn N p1 M) :=
  zT_of hl (by decide +kernel) (Nat.le_of_ble_eq_true rfl) (fun X hC hE hN => gX7_condemn_B0 hC hE hN N p1 M)

def fX7_termOf (N : Nat) (p1 : Int32) (M : zMem) : zRES :=
  zb (fX7_checkVersion N p1 M) fun r1 M2 =>
  if zin p1 60 = true then
  some (.inl (M2.1 13 p1.toNatClampNeg), M2)
  else none
set_option maxRecDepth 20000 in
set_option maxHeartbeats 2000000 in
theorem gX7_termOf_B0 {l : Launch} {Z : zZ} {ad : Nat → Nat} {d : Nat} {X : zX} {cs : Nat × Nat} (hC : zC l Z zfull ad X RX7 cX7_termOf 2 (some .int) (d + 7)) (hE : zEnd Z zfull ad X false) (hN : zNoX X) (N : Nat) (p1 : Int32) (M : zMem) : zG l Z zfull ad X cs 0 [(0, .ref (ad 0)), (1, .int p1)] [] M (fX7_termOf N p1 M) := by
  unfold fX7_termOf
  refine zg_aload_n hC 0 dX7_termOf_0 rfl ?_
  refine zg_iload_n hC 1 dX7_termOf_1 rfl ?_
  refine zg_callVv hC hE hN (k := 0) (As := [.int p1]) (S := []) rfl (tX7_checkVersion (zflag hC) d N p1 M) lkX7_166 rfl dX7_termOf_2 zq0 zk0 rfl rfl (Nat.le_of_ble_eq_true rfl) (fun r1 M2 er1 => ?_)
  refine zg_aload_n hC 0 dX7_termOf_5 rfl ?_
  refine zg_get hC (k := 0) (v := .ref (ad 1)) ffX7_10 dX7_termOf_6 zq0 zk0 rfl ?_
  refine zg_get hC (k := 1) (v := .ref (ad 13)) ffX7_169 dX7_termOf_9 zq1 zk1 rfl ?_
  refine zg_iload_n hC 1 dX7_termOf_12 rfl ?_
  refine zg_iald hC (k := 13) dX7_termOf_13 zq13 zk13 (fun h3 => ?_)
  exact zg_ret hC hE dX7_termOf_14
theorem tX7_termOf {l : Launch} {Z : zZ} {ad : Nat → Nat} (hl : l.stackTraces = false) (d : Nat) (N : Nat) (p1 : Int32) (M : zMem) : zT l Z zfull ad (.code yX7_termOf cX7_termOf 2 (some .int)) yX7_termOf (d + 7) false zbn [.ref (ad 0), .int p1] M (fX7_termOf N p1 M) :=
  zT_of hl (by decide +kernel) (Nat.le_of_ble_eq_true rfl) (fun X hC hE hN => gX7_termOf_B0 hC hE hN N p1 M)

def fX7_wasHeld (N : Nat) (p1 : Int32) (M : zMem) : zRES :=
  zb (fX7_checkVersion N p1 M) fun r1 M2 =>
  zb (fX7_contains N (M2.2 1 11) p1 M2) fun r3 M4 =>
  if zbool r3 = true then some (.inl r3, M4) else none
set_option maxRecDepth 20000 in
set_option maxHeartbeats 2000000 in
theorem gX7_wasHeld_B0 {l : Launch} {Z : zZ} {ad : Nat → Nat} {d : Nat} {X : zX} {cs : Nat × Nat} (hC : zC l Z zfull ad X RX7 cX7_wasHeld 2 (some .boolean) (d + 7)) (hE : zEnd Z zfull ad X false) (hN : zNoX X) (N : Nat) (p1 : Int32) (M : zMem) : zG l Z zfull ad X cs 0 [(0, .ref (ad 0)), (1, .int p1)] [] M (fX7_wasHeld N p1 M) := by
  unfold fX7_wasHeld
  refine zg_aload_n hC 0 dX7_wasHeld_0 rfl ?_
  refine zg_iload_n hC 1 dX7_wasHeld_1 rfl ?_
  refine zg_callVv hC hE hN (k := 0) (As := [.int p1]) (S := []) rfl (tX7_checkVersion (zflag hC) d N p1 M) lkX7_166 rfl dX7_wasHeld_2 zq0 zk0 rfl rfl (Nat.le_of_ble_eq_true rfl) (fun r1 M2 er1 => ?_)
  refine zg_aload_n hC 0 dX7_wasHeld_5 rfl ?_
  refine zg_get hC (k := 0) (v := .ref (ad 1)) ffX7_10 dX7_wasHeld_6 zq0 zk0 rfl ?_
  refine zg_get hC (k := 1) (v := .long (M2.2 1 11)) ffX7_179 dX7_wasHeld_9 zq1 zk1 rfl ?_
  refine zg_iload_n hC 1 dX7_wasHeld_12 rfl ?_
  refine zg_callSi hC hE hN (As := [.long (M2.2 1 11), .int p1]) (S := []) rfl (tX7_contains (zflag hC) (d + 6) N (M2.2 1 11) p1 M2) lkX7_175 rfl dX7_wasHeld_13 (Nat.le_of_ble_eq_true rfl) (fun r3 M4 er3 => ?_)
  exact zg_retb hC hE dX7_wasHeld_16
theorem tX7_wasHeld {l : Launch} {Z : zZ} {ad : Nat → Nat} (hl : l.stackTraces = false) (d : Nat) (N : Nat) (p1 : Int32) (M : zMem) : zT l Z zfull ad (.code yX7_wasHeld cX7_wasHeld 2 (some .boolean)) yX7_wasHeld (d + 7) false zbn [.ref (ad 0), .int p1] M (fX7_wasHeld N p1 M) :=
  zT_of hl (by decide +kernel) (Nat.le_of_ble_eq_true rfl) (fun X hC hE hN => gX7_wasHeld_B0 hC hE hN N p1 M)

def fX7_versionOf (N : Nat) (p1 : Int32) (M : zMem) : zRES :=
  zb (fX7_checkBatch N p1 M) fun r1 M2 =>
  if zin p1 60 = true then
  some (.inl (M2.1 54 p1.toNatClampNeg), M2)
  else none
set_option maxRecDepth 20000 in
set_option maxHeartbeats 2000000 in
theorem gX7_versionOf_B0 {l : Launch} {Z : zZ} {ad : Nat → Nat} {d : Nat} {X : zX} {cs : Nat × Nat} (hC : zC l Z zfull ad X RX7 cX7_versionOf 2 (some .int) (d + 7)) (hE : zEnd Z zfull ad X false) (hN : zNoX X) (N : Nat) (p1 : Int32) (M : zMem) : zG l Z zfull ad X cs 0 [(0, .ref (ad 0)), (1, .int p1)] [] M (fX7_versionOf N p1 M) := by
  unfold fX7_versionOf
  refine zg_aload_n hC 0 dX7_versionOf_0 rfl ?_
  refine zg_iload_n hC 1 dX7_versionOf_1 rfl ?_
  refine zg_callVv hC hE hN (k := 0) (As := [.int p1]) (S := []) rfl (tX7_checkBatch (zflag hC) d N p1 M) lkX7_250 rfl dX7_versionOf_2 zq0 zk0 rfl rfl (Nat.le_of_ble_eq_true rfl) (fun r1 M2 er1 => ?_)
  refine zg_aload_n hC 0 dX7_versionOf_5 rfl ?_
  refine zg_get hC (k := 0) (v := .ref (ad 53)) ffX7_50 dX7_versionOf_6 zq0 zk0 rfl ?_
  refine zg_get hC (k := 53) (v := .ref (ad 54)) ffX7_253 dX7_versionOf_9 zq53 zk53 rfl ?_
  refine zg_iload_n hC 1 dX7_versionOf_12 rfl ?_
  refine zg_iald hC (k := 54) dX7_versionOf_13 zq54 zk54 (fun h3 => ?_)
  exact zg_ret hC hE dX7_versionOf_14
theorem tX7_versionOf {l : Launch} {Z : zZ} {ad : Nat → Nat} (hl : l.stackTraces = false) (d : Nat) (N : Nat) (p1 : Int32) (M : zMem) : zT l Z zfull ad (.code yX7_versionOf cX7_versionOf 2 (some .int)) yX7_versionOf (d + 7) false zbn [.ref (ad 0), .int p1] M (fX7_versionOf N p1 M) :=
  zT_of hl (by decide +kernel) (Nat.le_of_ble_eq_true rfl) (fun X hC hE hN => gX7_versionOf_B0 hC hE hN N p1 M)

def fX7_lotsOf (N : Nat) (p1 : Int32) (M : zMem) : zRES :=
  zb (fX7_checkBatch N p1 M) fun r1 M2 =>
  if zin p1 60 = true then
  some (.inl (M2.1 55 p1.toNatClampNeg), M2)
  else none
set_option maxRecDepth 20000 in
set_option maxHeartbeats 2000000 in
theorem gX7_lotsOf_B0 {l : Launch} {Z : zZ} {ad : Nat → Nat} {d : Nat} {X : zX} {cs : Nat × Nat} (hC : zC l Z zfull ad X RX7 cX7_lotsOf 2 (some .int) (d + 7)) (hE : zEnd Z zfull ad X false) (hN : zNoX X) (N : Nat) (p1 : Int32) (M : zMem) : zG l Z zfull ad X cs 0 [(0, .ref (ad 0)), (1, .int p1)] [] M (fX7_lotsOf N p1 M) := by
  unfold fX7_lotsOf
  refine zg_aload_n hC 0 dX7_lotsOf_0 rfl ?_
  refine zg_iload_n hC 1 dX7_lotsOf_1 rfl ?_
  refine zg_callVv hC hE hN (k := 0) (As := [.int p1]) (S := []) rfl (tX7_checkBatch (zflag hC) d N p1 M) lkX7_250 rfl dX7_lotsOf_2 zq0 zk0 rfl rfl (Nat.le_of_ble_eq_true rfl) (fun r1 M2 er1 => ?_)
  refine zg_aload_n hC 0 dX7_lotsOf_5 rfl ?_
  refine zg_get hC (k := 0) (v := .ref (ad 53)) ffX7_50 dX7_lotsOf_6 zq0 zk0 rfl ?_
  refine zg_get hC (k := 53) (v := .ref (ad 55)) ffX7_256 dX7_lotsOf_9 zq53 zk53 rfl ?_
  refine zg_iload_n hC 1 dX7_lotsOf_12 rfl ?_
  refine zg_iald hC (k := 55) dX7_lotsOf_13 zq55 zk55 (fun h3 => ?_)
  exact zg_ret hC hE dX7_lotsOf_14
theorem tX7_lotsOf {l : Launch} {Z : zZ} {ad : Nat → Nat} (hl : l.stackTraces = false) (d : Nat) (N : Nat) (p1 : Int32) (M : zMem) : zT l Z zfull ad (.code yX7_lotsOf cX7_lotsOf 2 (some .int)) yX7_lotsOf (d + 7) false zbn [.ref (ad 0), .int p1] M (fX7_lotsOf N p1 M) :=
  zT_of hl (by decide +kernel) (Nat.le_of_ble_eq_true rfl) (fun X hC hE hN => gX7_lotsOf_B0 hC hE hN N p1 M)

def fX7_onSale_B39 (N : Nat) (again4 : Int32 → Int32 → zMem → zRES) (v1 : Int32) (v2 : Int32) (M : zMem) : zRES :=
  again4 v1 (v2 + 1) M
def fX7_onSale_B4 (N : Nat) : Nat → Int32 → Int32 → zMem → zRES
  | 0, _, _, _ => none
  | n + 1, v1, v2, M =>
  if (M.1 53 0) ≤ v2 then
    some (.inl v1, M)
  else
    zb (fX7_barredUnder 1 N v2 M) fun r2 M3 =>
    if r2 = 0 then
      if zin v2 60 = true then
      zv (v1 + (M3.1 56 v2.toNatClampNeg)) fun x6 =>
      fX7_onSale_B39 N (fX7_onSale_B4 N n) x6 v2 M3
      else none
    else
      fX7_onSale_B39 N (fX7_onSale_B4 N n) v1 v2 M3
def fX7_onSale (N : Nat) (M : zMem) : zRES :=
  fX7_onSale_B4 N N 0 0 M
set_option maxRecDepth 20000 in
set_option maxHeartbeats 2000000 in
theorem gX7_onSale_B39 {l : Launch} {Z : zZ} {ad : Nat → Nat} {d : Nat} {X : zX} {cs : Nat × Nat} (hC : zC l Z zfull ad X RX7 cX7_onSale 3 (some .int) (d + 2)) (hE : zEnd Z zfull ad X false) (hN : zNoX X) (N : Nat) {again4 : Int32 → Int32 → zMem → zRES} (hag4 : ∀ v1 v2 M, zG l Z zfull ad X cs 4 [(0, .ref (ad 0)), (1, .int v1), (2, .int v2)] [] M (again4 v1 v2 M)) (v1 : Int32) (v2 : Int32) (M : zMem) : zG l Z zfull ad X cs 39 [(0, .ref (ad 0)), (1, .int v1), (2, .int v2)] [] M (fX7_onSale_B39 N again4 v1 v2 M) := by
  unfold fX7_onSale_B39
  refine zg_iinc hC 2 (v := v2 + 1) (L' := [(2, _), (0, _), (1, _)]) dX7_onSale_39 rfl (by rfl) (by decide) rfl ?_
  refine zg_goto hC (tgt := 4) dX7_onSale_42 (by decide) ?_
  exact zg_sub [1, 2, 0] rfl (hag4 v1 (v2 + 1) M)
set_option maxRecDepth 20000 in
set_option maxHeartbeats 2000000 in
theorem gX7_onSale_B4 {l : Launch} {Z : zZ} {ad : Nat → Nat} {d : Nat} {X : zX} {cs : Nat × Nat} (hC : zC l Z zfull ad X RX7 cX7_onSale 3 (some .int) (d + 2)) (hE : zEnd Z zfull ad X false) (hN : zNoX X) (N : Nat) : ∀ (n : Nat) (v1 : Int32) (v2 : Int32) (M : zMem), zG l Z zfull ad X cs 4 [(0, .ref (ad 0)), (1, .int v1), (2, .int v2)] [] M (fX7_onSale_B4 N n v1 v2 M) := by
  intro n
  induction n with
  | zero =>
    intro v1 v2 M
    exact zg_none
  | succ n ih =>
  intro v1 v2 M
  rw [fX7_onSale_B4]
  refine zg_iload_n hC 2 dX7_onSale_4 rfl ?_
  refine zg_aload_n hC 0 dX7_onSale_5 rfl ?_
  refine zg_get hC (k := 0) (v := .ref (ad 53)) ffX7_50 dX7_onSale_6 zq0 zk0 rfl ?_
  refine zg_get hC (k := 53) (v := .int (M.1 53 0)) ffX7_247 dX7_onSale_9 zq53 zk53 rfl ?_
  refine zg_icmp_ge hC (tgt := 45) dX7_onSale_12 (by decide) (fun c1 => ?_) (fun c1 => ?_)
  · refine zg_iload_n hC 1 dX7_onSale_45 rfl ?_
    exact zg_ret hC hE dX7_onSale_46
  · refine zg_aload_n hC 0 dX7_onSale_15 rfl ?_
    refine zg_aload_n hC 0 dX7_onSale_16 rfl ?_
    refine zg_get hC (k := 0) (v := .ref (ad 1)) ffX7_10 dX7_onSale_17 zq0 zk0 rfl ?_
    refine zg_iload_n hC 2 dX7_onSale_20 rfl ?_
    refine zg_callVi hC hE hN (k := 0) (As := [.ref (ad 1), .int v2]) (S := []) rfl (tX7_barredUnder (zflag hC) d (Or.inl rfl) N v2 M) lkX7_262 rfl dX7_onSale_21 zq0 zk0 rfl rfl (Nat.le_of_ble_eq_true rfl) (fun r2 M3 er2 => ?_)
    refine zg_if_ne hC (tgt := 39) dX7_onSale_24 (by decide) (fun c4 => ?_) (fun c4 => ?_)
    · refine zg_iload_n hC 1 dX7_onSale_27 rfl ?_
      refine zg_aload_n hC 0 dX7_onSale_28 rfl ?_
      refine zg_get hC (k := 0) (v := .ref (ad 53)) ffX7_50 dX7_onSale_29 zq0 zk0 rfl ?_
      refine zg_get hC (k := 53) (v := .ref (ad 56)) ffX7_259 dX7_onSale_32 zq53 zk53 rfl ?_
      refine zg_iload_n hC 2 dX7_onSale_35 rfl ?_
      refine zg_iald hC (k := 56) dX7_onSale_36 zq56 zk56 (fun h5 => ?_)
      refine zg_iadd hC dX7_onSale_37 ?_
      refine zg_nm (fun x6 ex6 => ?_)
      refine zg_istore_n hC (L' := [(1, _), (0, _), (2, _)]) dX7_onSale_38 (by decide) rfl ?_
      exact zg_sub [1, 0, 2] rfl (gX7_onSale_B39 hC hE hN N ih x6 v2 M3)
    · exact zg_sub [0, 1, 2] rfl (gX7_onSale_B39 hC hE hN N ih v1 v2 M3)
set_option maxRecDepth 20000 in
set_option maxHeartbeats 2000000 in
theorem gX7_onSale_B0 {l : Launch} {Z : zZ} {ad : Nat → Nat} {d : Nat} {X : zX} {cs : Nat × Nat} (hC : zC l Z zfull ad X RX7 cX7_onSale 3 (some .int) (d + 2)) (hE : zEnd Z zfull ad X false) (hN : zNoX X) (N : Nat) (M : zMem) : zG l Z zfull ad X cs 0 [(0, .ref (ad 0))] [] M (fX7_onSale N M) := by
  unfold fX7_onSale
  refine zg_iconst hC (v := 0) dX7_onSale_0 (by decide) ?_
  refine zg_istore_n hC (L' := [(1, _), (0, _)]) dX7_onSale_1 (by decide) rfl ?_
  refine zg_iconst hC (v := 0) dX7_onSale_2 (by decide) ?_
  refine zg_istore_n hC (L' := [(2, _), (1, _), (0, _)]) dX7_onSale_3 (by decide) rfl ?_
  exact zg_sub [2, 1, 0] rfl (gX7_onSale_B4 hC hE hN N N 0 0 M)
theorem tX7_onSale {l : Launch} {Z : zZ} {ad : Nat → Nat} (hl : l.stackTraces = false) (d : Nat) (N : Nat) (M : zMem) : zT l Z zfull ad (.code yX7_onSale cX7_onSale 3 (some .int)) yX7_onSale (d + 2) false zbn [.ref (ad 0)] M (fX7_onSale N M) :=
  zT_of hl (by decide +kernel) (Nat.le_of_ble_eq_true rfl) (fun X hC hE hN => gX7_onSale_B0 hC hE hN N M)
