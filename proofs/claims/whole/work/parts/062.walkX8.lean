def fX8_thrown (N : Nat) (M : zMem) : zRES :=
  some (.inl (M.1 62 30), M)
set_option maxRecDepth 20000 in
set_option maxHeartbeats 2000000 in
theorem gX8_thrown_B0 {l : Launch} {Z : zZ} {ad : Nat → Nat} {d : Nat} {X : zX} {cs : Nat × Nat} (hC : zC l Z zfull ad X RX8 cX8_thrown 1 (some .int) (d + 0)) (hE : zEnd Z zfull ad X false) (hN : zNoX X) (N : Nat) (M : zMem) : zG l Z zfull ad X cs 0 [(0, .ref (ad 62))] [] M (fX8_thrown N M) := by
  unfold fX8_thrown
  refine zg_aload_n hC 0 dX8_thrown_0 rfl ?_
  refine zg_get hC (k := 62) (v := .int (M.1 62 30)) ffX8_82 dX8_thrown_1 zq62 zk62 rfl ?_
  exact zg_ret hC hE dX8_thrown_4
theorem tX8_thrown {l : Launch} {Z : zZ} {ad : Nat → Nat} (hl : l.stackTraces = false) (d : Nat) (N : Nat) (M : zMem) : zT l Z zfull ad (.code yX8_thrown cX8_thrown 1 (some .int)) yX8_thrown (d + 0) false zbn [.ref (ad 62)] M (fX8_thrown N M) :=
  zT_of hl (by decide +kernel) (Nat.le_of_ble_eq_true rfl) (fun X hC hE hN => gX8_thrown_B0 hC hE hN N M)

def fX8_in (N : Nat) (p1 : Int32) (p2 : Int32) (p3 : Int32) (M : zMem) : zRES :=
  if p1 < p2 then
    some (.inl 0, M)
  else
    if p3 < p1 then
      some (.inl 0, M)
    else
      some (.inl 1, M)
set_option maxRecDepth 20000 in
set_option maxHeartbeats 2000000 in
theorem gX8_in_B0 {l : Launch} {Z : zZ} {lv : Nat → Bool} {ad : Nat → Nat} {d : Nat} {X : zX} {cs : Nat × Nat} (hC : zC l Z lv ad X RX8 cX8_in 3 (some .boolean) (d + 0)) (hE : zEnd Z lv ad X false) (hN : zNoX X) (N : Nat) (p1 : Int32) (p2 : Int32) (p3 : Int32) (M : zMem) : zG l Z lv ad X cs 0 [(0, .int p1), (1, .int p2), (2, .int p3)] [] M (fX8_in N p1 p2 p3 M) := by
  unfold fX8_in
  refine zg_iload_n hC 0 dX8_in_0 rfl ?_
  refine zg_iload_n hC 1 dX8_in_1 rfl ?_
  refine zg_icmp_lt hC (tgt := 14) dX8_in_2 (by decide) (fun c1 => ?_) (fun c1 => ?_)
  · refine zg_iconst hC (v := 0) dX8_in_14 (by decide) ?_
    exact zg_retz hC hE (by decide) dX8_in_15
  · refine zg_iload_n hC 0 dX8_in_5 rfl ?_
    refine zg_iload_n hC 2 dX8_in_6 rfl ?_
    refine zg_icmp_gt hC (tgt := 14) dX8_in_7 (by decide) (fun c2 => ?_) (fun c2 => ?_)
    · refine zg_iconst hC (v := 0) dX8_in_14 (by decide) ?_
      exact zg_retz hC hE (by decide) dX8_in_15
    · refine zg_iconst hC (v := 1) dX8_in_10 (by decide) ?_
      refine zg_goto hC (tgt := 15) dX8_in_11 (by decide) ?_
      exact zg_retz hC hE (by decide) dX8_in_15
theorem tX8_in {l : Launch} {Z : zZ} {lv : Nat → Bool} {ad : Nat → Nat} (hl : l.stackTraces = false) (d : Nat) (N : Nat) (p1 : Int32) (p2 : Int32) (p3 : Int32) (M : zMem) : zT l Z lv ad (.code yX8_in cX8_in 3 (some .boolean)) yX8_in (d + 0) false zbn [.int p1, .int p2, .int p3] M (fX8_in N p1 p2 p3 M) :=
  zT_of hl (by decide +kernel) (Nat.le_of_ble_eq_true rfl) (fun X hC hE hN => gX8_in_B0 hC hE hN N p1 p2 p3 M)

def fX8_part_B37 (N : Nat) : Nat → Int32 → Int32 → Int32 → zMem → zRES
  | 0, _, _, _, _ => none
  | n + 1, v1, v2, v3, M =>
  if (5 : Int32) ≤ v3 then
    some (.inl (v2 * ((5 : Int32) - v2)), M)
  else
    zv (v2 + ((v1 >>> (v3 &&& 31)) &&& 1)) fun x8 =>
    fX8_part_B37 N n v1 x8 (v3 + 1) M
def fX8_part_B16 (N : Nat) (v1 : Int32) (s1 : Int32) (M : zMem) : zRES :=
  zl (zsI M 62 30 s1) fun M4 =>
  if (M4.1 62 30) ≤ 0 then
    zl (zsI M4 62 0 v1) fun M6 =>
    fX8_part_B37 N N v1 0 0 M6
  else
    some (.inl 0, M4)
def fX8_part (N : Nat) (p1 : Int32) (M : zMem) : zRES :=
  zb (fX8_in N p1 0 31 M) fun r1 M2 =>
  if r1 = 0 then
    fX8_part_B16 N p1 1 M2
  else
    fX8_part_B16 N p1 0 M2
set_option maxRecDepth 20000 in
set_option maxHeartbeats 2000000 in
theorem gX8_part_B37 {l : Launch} {Z : zZ} {ad : Nat → Nat} {d : Nat} {X : zX} {cs : Nat × Nat} (hC : zC l Z zfull ad X RX8 cX8_part 4 (some .int) (d + 1)) (hE : zEnd Z zfull ad X false) (hN : zNoX X) (N : Nat) : ∀ (n : Nat) (v1 : Int32) (v2 : Int32) (v3 : Int32) (M : zMem), zG l Z zfull ad X cs 37 [(1, .int v1), (2, .int v2), (3, .int v3)] [] M (fX8_part_B37 N n v1 v2 v3 M) := by
  intro n
  induction n with
  | zero =>
    intro v1 v2 v3 M
    exact zg_none
  | succ n ih =>
  intro v1 v2 v3 M
  rw [fX8_part_B37]
  refine zg_iload_n hC 2 dX8_part_37 rfl ?_
  refine zg_iconst hC (v := 5) dX8_part_38 (by decide) ?_
  refine zg_icmp_ge hC (tgt := 56) dX8_part_39 (by decide) (fun c7 => ?_) (fun c7 => ?_)
  · refine zg_iload_n hC 1 dX8_part_56 rfl ?_
    refine zg_iconst hC (v := 5) dX8_part_57 (by decide) ?_
    refine zg_iload_n hC 1 dX8_part_58 rfl ?_
    refine zg_isub hC dX8_part_59 ?_
    refine zg_imul hC dX8_part_60 ?_
    exact zg_ret hC hE dX8_part_61
  · refine zg_iload_n hC 1 dX8_part_42 rfl ?_
    refine zg_iload_n hC 0 dX8_part_43 rfl ?_
    refine zg_iload_n hC 2 dX8_part_44 rfl ?_
    refine zg_ishr hC dX8_part_45 ?_
    refine zg_iconst hC (v := 1) dX8_part_46 (by decide) ?_
    refine zg_iand hC dX8_part_47 ?_
    refine zg_iadd hC dX8_part_48 ?_
    refine zg_nm (fun x8 ex8 => ?_)
    refine zg_istore_n hC (L' := [(2, _), (1, _), (3, _)]) dX8_part_49 (by decide) rfl ?_
    refine zg_iinc hC 2 (v := v3 + 1) (L' := [(3, _), (2, _), (1, _)]) dX8_part_50 rfl (by rfl) (by decide) rfl ?_
    refine zg_goto hC (tgt := 37) dX8_part_53 (by decide) ?_
    exact zg_sub [2, 1, 0] rfl (ih v1 x8 (v3 + 1) M)
set_option maxRecDepth 20000 in
set_option maxHeartbeats 2000000 in
theorem gX8_part_B16 {l : Launch} {Z : zZ} {ad : Nat → Nat} {d : Nat} {X : zX} {cs : Nat × Nat} (hC : zC l Z zfull ad X RX8 cX8_part 4 (some .int) (d + 1)) (hE : zEnd Z zfull ad X false) (hN : zNoX X) (N : Nat) (v1 : Int32) (s1 : Int32) (M : zMem) : zG l Z zfull ad X cs 16 [(0, .ref (ad 62)), (1, .int v1)] [.int s1, .ref (ad 62)] M (fX8_part_B16 N v1 s1 M) := by
  unfold fX8_part_B16
  refine zg_putI hC (k := 62) fpX8_82 dX8_part_16 zq62 zk62 rfl (fun M4 eM4 => ?_)
  refine zg_aload_n hC 0 dX8_part_19 rfl ?_
  refine zg_get hC (k := 62) (v := .int (M4.1 62 30)) ffX8_82 dX8_part_20 zq62 zk62 rfl ?_
  refine zg_if_le hC (tgt := 28) dX8_part_23 (by decide) (fun c5 => ?_) (fun c5 => ?_)
  · refine zg_aload_n hC 0 dX8_part_28 rfl ?_
    refine zg_iload_n hC 1 dX8_part_29 rfl ?_
    refine zg_putI hC (k := 62) fpX8_90 dX8_part_30 zq62 zk62 rfl (fun M6 eM6 => ?_)
    refine zg_iconst hC (v := 0) dX8_part_33 (by decide) ?_
    refine zg_istore_n hC (L' := [(2, _), (0, _), (1, _)]) dX8_part_34 (by decide) rfl ?_
    refine zg_iconst hC (v := 0) dX8_part_35 (by decide) ?_
    refine zg_istore_n hC (L' := [(3, _), (2, _), (0, _), (1, _)]) dX8_part_36 (by decide) rfl ?_
    exact zg_sub [3, 1, 0] rfl (gX8_part_B37 hC hE hN N N v1 0 0 M6)
  · refine zg_iconst hC (v := 0) dX8_part_26 (by decide) ?_
    exact zg_ret hC hE dX8_part_27
set_option maxRecDepth 20000 in
set_option maxHeartbeats 2000000 in
theorem gX8_part_B0 {l : Launch} {Z : zZ} {ad : Nat → Nat} {d : Nat} {X : zX} {cs : Nat × Nat} (hC : zC l Z zfull ad X RX8 cX8_part 4 (some .int) (d + 1)) (hE : zEnd Z zfull ad X false) (hN : zNoX X) (N : Nat) (p1 : Int32) (M : zMem) : zG l Z zfull ad X cs 0 [(0, .ref (ad 62)), (1, .int p1)] [] M (fX8_part N p1 M) := by
  unfold fX8_part
  refine zg_aload_n hC 0 dX8_part_0 rfl ?_
  refine zg_iload_n hC 1 dX8_part_1 rfl ?_
  refine zg_iconst hC (v := 0) dX8_part_2 (by decide) ?_
  refine zg_bipush hC (v := 31) dX8_part_3 (by decide) ?_
  refine zg_callSi hC hE hN (As := [.int p1, .int 0, .int 31]) (S := [.ref (ad 62)]) rfl (tX8_in (zflag hC) d N p1 0 31 M) lkX8_86 rfl dX8_part_5 (Nat.le_of_ble_eq_true rfl) (fun r1 M2 er1 => ?_)
  refine zg_if_eq hC (tgt := 15) dX8_part_8 (by decide) (fun c3 => ?_) (fun c3 => ?_)
  · refine zg_iconst hC (v := 1) dX8_part_15 (by decide) ?_
    exact zg_sub [0, 1] rfl (gX8_part_B16 hC hE hN N p1 1 M2)
  · refine zg_iconst hC (v := 0) dX8_part_11 (by decide) ?_
    refine zg_goto hC (tgt := 16) dX8_part_12 (by decide) ?_
    exact zg_sub [0, 1] rfl (gX8_part_B16 hC hE hN N p1 0 M2)
theorem tX8_part {l : Launch} {Z : zZ} {ad : Nat → Nat} (hl : l.stackTraces = false) (d : Nat) (N : Nat) (p1 : Int32) (M : zMem) : zT l Z zfull ad (.code yX8_part cX8_part 4 (some .int)) yX8_part (d + 1) false zbn [.ref (ad 62), .int p1] M (fX8_part N p1 M) :=
  zT_of hl (by decide +kernel) (Nat.le_of_ble_eq_true rfl) (fun X hC hE hN => gX8_part_B0 hC hE hN N p1 M)

def fX8_isBakery (N : Nat) (p1 : Int32) (M : zMem) : zRES :=
  zb (fX8_in N p1 0 4 M) fun r1 M2 =>
  if zbool r1 = true then some (.inl r1, M2) else none
set_option maxRecDepth 20000 in
set_option maxHeartbeats 2000000 in
theorem gX8_isBakery_B0 {l : Launch} {Z : zZ} {lv : Nat → Bool} {ad : Nat → Nat} {d : Nat} {X : zX} {cs : Nat × Nat} (hC : zC l Z lv ad X RX8 cX8_isBakery 1 (some .boolean) (d + 1)) (hE : zEnd Z lv ad X false) (hN : zNoX X) (N : Nat) (p1 : Int32) (M : zMem) : zG l Z lv ad X cs 0 [(0, .int p1)] [] M (fX8_isBakery N p1 M) := by
  unfold fX8_isBakery
  refine zg_iload_n hC 0 dX8_isBakery_0 rfl ?_
  refine zg_iconst hC (v := 0) dX8_isBakery_1 (by decide) ?_
  refine zg_iconst hC (v := 4) dX8_isBakery_2 (by decide) ?_
  refine zg_callSi hC hE hN (As := [.int p1, .int 0, .int 4]) (S := []) rfl (tX8_in (zflag hC) d N p1 0 4 M) lkX8_86 rfl dX8_isBakery_3 (Nat.le_of_ble_eq_true rfl) (fun r1 M2 er1 => ?_)
  exact zg_retb hC hE dX8_isBakery_6
theorem tX8_isBakery {l : Launch} {Z : zZ} {lv : Nat → Bool} {ad : Nat → Nat} (hl : l.stackTraces = false) (d : Nat) (N : Nat) (p1 : Int32) (M : zMem) : zT l Z lv ad (.code yX8_isBakery cX8_isBakery 1 (some .boolean)) yX8_isBakery (d + 1) false zbn [.int p1] M (fX8_isBakery N p1 M) :=
  zT_of hl (by decide +kernel) (Nat.le_of_ble_eq_true rfl) (fun X hC hE hN => gX8_isBakery_B0 hC hE hN N p1 M)

def fX8_takes (N : Nat) (p1 : Int32) (p2 : Int32) (M : zMem) : zRES :=
  if zin p1 5 = true then
  zl (zsI M 63 p1.toNatClampNeg p2) fun M2 =>
  if zin p1 5 = true then
  zl (zsI M2 64 p1.toNatClampNeg 0) fun M4 =>
  if zin p1 5 = true then
  zl (zsI M4 65 p1.toNatClampNeg 0) fun M6 =>
  if zin p1 5 = true then
  zl (zsI M6 66 p1.toNatClampNeg 0) fun M8 =>
  some (.inl 0, M8)
  else none
  else none
  else none
  else none
set_option maxRecDepth 20000 in
set_option maxHeartbeats 2000000 in
theorem gX8_takes_B0 {l : Launch} {Z : zZ} {ad : Nat → Nat} {d : Nat} {X : zX} {cs : Nat × Nat} (hC : zC l Z zfull ad X RX8 cX8_takes 3 none (d + 0)) (hE : zEnd Z zfull ad X true) (hN : zNoX X) (N : Nat) (p1 : Int32) (p2 : Int32) (M : zMem) : zG l Z zfull ad X cs 0 [(0, .ref (ad 62)), (1, .int p1), (2, .int p2)] [] M (fX8_takes N p1 p2 M) := by
  unfold fX8_takes
  refine zg_aload_n hC 0 dX8_takes_0 rfl ?_
  refine zg_get hC (k := 62) (v := .ref (ad 63)) ffX8_7 dX8_takes_1 zq62 zk62 rfl ?_
  refine zg_iload_n hC 1 dX8_takes_4 rfl ?_
  refine zg_iload_n hC 2 dX8_takes_5 rfl ?_
  refine zg_iast hC (k := 63) dX8_takes_6 zq63 zk63 (fun h1 M2 eM2 => ?_)
  refine zg_aload_n hC 0 dX8_takes_7 rfl ?_
  refine zg_get hC (k := 62) (v := .ref (ad 64)) ffX8_13 dX8_takes_8 zq62 zk62 rfl ?_
  refine zg_iload_n hC 1 dX8_takes_11 rfl ?_
  refine zg_iconst hC (v := 0) dX8_takes_12 (by decide) ?_
  refine zg_iast hC (k := 64) dX8_takes_13 zq64 zk64 (fun h3 M4 eM4 => ?_)
  refine zg_aload_n hC 0 dX8_takes_14 rfl ?_
  refine zg_get hC (k := 62) (v := .ref (ad 65)) ffX8_16 dX8_takes_15 zq62 zk62 rfl ?_
  refine zg_iload_n hC 1 dX8_takes_18 rfl ?_
  refine zg_iconst hC (v := 0) dX8_takes_19 (by decide) ?_
  refine zg_iast hC (k := 65) dX8_takes_20 zq65 zk65 (fun h5 M6 eM6 => ?_)
  refine zg_aload_n hC 0 dX8_takes_21 rfl ?_
  refine zg_get hC (k := 62) (v := .ref (ad 66)) ffX8_19 dX8_takes_22 zq62 zk62 rfl ?_
  refine zg_iload_n hC 1 dX8_takes_25 rfl ?_
  refine zg_iconst hC (v := 0) dX8_takes_26 (by decide) ?_
  refine zg_iast hC (k := 66) dX8_takes_27 zq66 zk66 (fun h7 M8 eM8 => ?_)
  exact zg_retv hC hE dX8_takes_28
theorem tX8_takes {l : Launch} {Z : zZ} {ad : Nat → Nat} (hl : l.stackTraces = false) (d : Nat) (N : Nat) (p1 : Int32) (p2 : Int32) (M : zMem) : zT l Z zfull ad (.code yX8_takes cX8_takes 3 none) yX8_takes (d + 0) true zbn [.ref (ad 62), .int p1, .int p2] M (fX8_takes N p1 p2 M) :=
  zT_of hl (by decide +kernel) (Nat.le_of_ble_eq_true rfl) (fun X hC hE hN => gX8_takes_B0 hC hE hN N p1 p2 M)

def fX8_stand_B28 (N : Nat) (v1 : Int32) (s1 : Int32) (M : zMem) : zRES :=
  zl (zsI M 62 30 s1) fun M6 =>
  if (M6.1 62 30) ≤ 0 then
    if zin v1 5 = true then
    zb (fX8_takes N v1 ((M6.1 63 v1.toNatClampNeg) + 1) M6) fun r9 M10 =>
    if zin v1 5 = true then
    zl (zsI M10 64 v1.toNatClampNeg 1) fun M12 =>
    if zin v1 5 = true then
    zl (zsI M12 65 v1.toNatClampNeg (v1 + 1)) fun M14 =>
    if zin v1 5 = true then
    zl (zsI M14 66 v1.toNatClampNeg ((1 : Int32) <<< (v1 &&& 31))) fun M16 =>
    if zin v1 5 = true then
    some (.inl (M16.1 63 v1.toNatClampNeg), M16)
    else none
    else none
    else none
    else none
    else none
  else
    some (.inl 0, M6)
def fX8_stand (N : Nat) (p1 : Int32) (M : zMem) : zRES :=
  zb (fX8_isBakery N p1 M) fun r1 M2 =>
  if r1 = 0 then
    fX8_stand_B28 N p1 1 M2
  else
    if zin p1 5 = true then
    if (M2.1 63 p1.toNatClampNeg) = 100 then
      fX8_stand_B28 N p1 2 M2
    else
      fX8_stand_B28 N p1 0 M2
    else none
set_option maxRecDepth 20000 in
set_option maxHeartbeats 2000000 in
theorem gX8_stand_B28 {l : Launch} {Z : zZ} {ad : Nat → Nat} {d : Nat} {X : zX} {cs : Nat × Nat} (hC : zC l Z zfull ad X RX8 cX8_stand 2 (some .int) (d + 2)) (hE : zEnd Z zfull ad X false) (hN : zNoX X) (N : Nat) (v1 : Int32) (s1 : Int32) (M : zMem) : zG l Z zfull ad X cs 28 [(0, .ref (ad 62)), (1, .int v1)] [.int s1, .ref (ad 62)] M (fX8_stand_B28 N v1 s1 M) := by
  unfold fX8_stand_B28
  refine zg_putI hC (k := 62) fpX8_82 dX8_stand_28 zq62 zk62 rfl (fun M6 eM6 => ?_)
  refine zg_aload_n hC 0 dX8_stand_31 rfl ?_
  refine zg_get hC (k := 62) (v := .int (M6.1 62 30)) ffX8_82 dX8_stand_32 zq62 zk62 rfl ?_
  refine zg_if_le hC (tgt := 40) dX8_stand_35 (by decide) (fun c7 => ?_) (fun c7 => ?_)
  · refine zg_aload_n hC 0 dX8_stand_40 rfl ?_
    refine zg_iload_n hC 1 dX8_stand_41 rfl ?_
    refine zg_aload_n hC 0 dX8_stand_42 rfl ?_
    refine zg_get hC (k := 62) (v := .ref (ad 63)) ffX8_7 dX8_stand_43 zq62 zk62 rfl ?_
    refine zg_iload_n hC 1 dX8_stand_46 rfl ?_
    refine zg_iald hC (k := 63) dX8_stand_47 zq63 zk63 (fun h8 => ?_)
    refine zg_iconst hC (v := 1) dX8_stand_48 (by decide) ?_
    refine zg_iadd hC dX8_stand_49 ?_
    refine zg_callVv hC hE hN (k := 62) (As := [.int v1, .int ((M6.1 63 v1.toNatClampNeg) + 1)]) (S := []) rfl (tX8_takes (zflag hC) (d + 1) N v1 ((M6.1 63 v1.toNatClampNeg) + 1) M6) lkX8_97 rfl dX8_stand_50 zq62 zk62 rfl rfl (Nat.le_of_ble_eq_true rfl) (fun r9 M10 er9 => ?_)
    refine zg_aload_n hC 0 dX8_stand_53 rfl ?_
    refine zg_get hC (k := 62) (v := .ref (ad 64)) ffX8_13 dX8_stand_54 zq62 zk62 rfl ?_
    refine zg_iload_n hC 1 dX8_stand_57 rfl ?_
    refine zg_iconst hC (v := 1) dX8_stand_58 (by decide) ?_
    refine zg_iast hC (k := 64) dX8_stand_59 zq64 zk64 (fun h11 M12 eM12 => ?_)
    refine zg_aload_n hC 0 dX8_stand_60 rfl ?_
    refine zg_get hC (k := 62) (v := .ref (ad 65)) ffX8_16 dX8_stand_61 zq62 zk62 rfl ?_
    refine zg_iload_n hC 1 dX8_stand_64 rfl ?_
    refine zg_iload_n hC 1 dX8_stand_65 rfl ?_
    refine zg_iconst hC (v := 1) dX8_stand_66 (by decide) ?_
    refine zg_iadd hC dX8_stand_67 ?_
    refine zg_iast hC (k := 65) dX8_stand_68 zq65 zk65 (fun h13 M14 eM14 => ?_)
    refine zg_aload_n hC 0 dX8_stand_69 rfl ?_
    refine zg_get hC (k := 62) (v := .ref (ad 66)) ffX8_19 dX8_stand_70 zq62 zk62 rfl ?_
    refine zg_iload_n hC 1 dX8_stand_73 rfl ?_
    refine zg_iconst hC (v := 1) dX8_stand_74 (by decide) ?_
    refine zg_iload_n hC 1 dX8_stand_75 rfl ?_
    refine zg_ishl hC dX8_stand_76 ?_
    refine zg_iast hC (k := 66) dX8_stand_77 zq66 zk66 (fun h15 M16 eM16 => ?_)
    refine zg_aload_n hC 0 dX8_stand_78 rfl ?_
    refine zg_get hC (k := 62) (v := .ref (ad 63)) ffX8_7 dX8_stand_79 zq62 zk62 rfl ?_
    refine zg_iload_n hC 1 dX8_stand_82 rfl ?_
    refine zg_iald hC (k := 63) dX8_stand_83 zq63 zk63 (fun h17 => ?_)
    exact zg_ret hC hE dX8_stand_84
  · refine zg_iconst hC (v := 0) dX8_stand_38 (by decide) ?_
    exact zg_ret hC hE dX8_stand_39
set_option maxRecDepth 20000 in
set_option maxHeartbeats 2000000 in
theorem gX8_stand_B0 {l : Launch} {Z : zZ} {ad : Nat → Nat} {d : Nat} {X : zX} {cs : Nat × Nat} (hC : zC l Z zfull ad X RX8 cX8_stand 2 (some .int) (d + 2)) (hE : zEnd Z zfull ad X false) (hN : zNoX X) (N : Nat) (p1 : Int32) (M : zMem) : zG l Z zfull ad X cs 0 [(0, .ref (ad 62)), (1, .int p1)] [] M (fX8_stand N p1 M) := by
  unfold fX8_stand
  refine zg_aload_n hC 0 dX8_stand_0 rfl ?_
  refine zg_iload_n hC 1 dX8_stand_1 rfl ?_
  refine zg_callSi hC hE hN (As := [.int p1]) (S := [.ref (ad 62)]) rfl (tX8_isBakery (zflag hC) d N p1 M) lkX8_93 rfl dX8_stand_2 (Nat.le_of_ble_eq_true rfl) (fun r1 M2 er1 => ?_)
  refine zg_if_ne hC (tgt := 12) dX8_stand_5 (by decide) (fun c3 => ?_) (fun c3 => ?_)
  · refine zg_iconst hC (v := 1) dX8_stand_8 (by decide) ?_
    refine zg_goto hC (tgt := 28) dX8_stand_9 (by decide) ?_
    exact zg_sub [0, 1] rfl (gX8_stand_B28 hC hE hN N p1 1 M2)
  · refine zg_aload_n hC 0 dX8_stand_12 rfl ?_
    refine zg_get hC (k := 62) (v := .ref (ad 63)) ffX8_7 dX8_stand_13 zq62 zk62 rfl ?_
    refine zg_iload_n hC 1 dX8_stand_16 rfl ?_
    refine zg_iald hC (k := 63) dX8_stand_17 zq63 zk63 (fun h4 => ?_)
    refine zg_bipush hC (v := 100) dX8_stand_18 (by decide) ?_
    refine zg_icmp_ne hC (tgt := 27) dX8_stand_20 (by decide) (fun c5 => ?_) (fun c5 => ?_)
    · refine zg_iconst hC (v := 2) dX8_stand_23 (by decide) ?_
      refine zg_goto hC (tgt := 28) dX8_stand_24 (by decide) ?_
      exact zg_sub [0, 1] rfl (gX8_stand_B28 hC hE hN N p1 2 M2)
    · refine zg_iconst hC (v := 0) dX8_stand_27 (by decide) ?_
      exact zg_sub [0, 1] rfl (gX8_stand_B28 hC hE hN N p1 0 M2)
theorem tX8_stand {l : Launch} {Z : zZ} {ad : Nat → Nat} (hl : l.stackTraces = false) (d : Nat) (N : Nat) (p1 : Int32) (M : zMem) : zT l Z zfull ad (.code yX8_stand cX8_stand 2 (some .int)) yX8_stand (d + 2) false zbn [.ref (ad 62), .int p1] M (fX8_stand N p1 M) :=
  zT_of hl (by decide +kernel) (Nat.le_of_ble_eq_true rfl) (fun X hC hE hN => gX8_stand_B0 hC hE hN N p1 M)

def fX8_areTogether (N : Nat) (p1 : Int32) (p2 : Int32) (M : zMem) : zRES :=
  if (((M.1 62 0) >>> (p1 &&& 31)) &&& 1) = (((M.1 62 0) >>> (p2 &&& 31)) &&& 1) then
    some (.inl 1, M)
  else
    some (.inl 0, M)
set_option maxRecDepth 20000 in
set_option maxHeartbeats 2000000 in
theorem gX8_areTogether_B0 {l : Launch} {Z : zZ} {ad : Nat → Nat} {d : Nat} {X : zX} {cs : Nat × Nat} (hC : zC l Z zfull ad X RX8 cX8_areTogether 3 (some .boolean) (d + 0)) (hE : zEnd Z zfull ad X false) (hN : zNoX X) (N : Nat) (p1 : Int32) (p2 : Int32) (M : zMem) : zG l Z zfull ad X cs 0 [(0, .ref (ad 62)), (1, .int p1), (2, .int p2)] [] M (fX8_areTogether N p1 p2 M) := by
  unfold fX8_areTogether
  refine zg_aload_n hC 0 dX8_areTogether_0 rfl ?_
  refine zg_get hC (k := 62) (v := .int (M.1 62 0)) ffX8_90 dX8_areTogether_1 zq62 zk62 rfl ?_
  refine zg_iload_n hC 1 dX8_areTogether_4 rfl ?_
  refine zg_ishr hC dX8_areTogether_5 ?_
  refine zg_iconst hC (v := 1) dX8_areTogether_6 (by decide) ?_
  refine zg_iand hC dX8_areTogether_7 ?_
  refine zg_aload_n hC 0 dX8_areTogether_8 rfl ?_
  refine zg_get hC (k := 62) (v := .int (M.1 62 0)) ffX8_90 dX8_areTogether_9 zq62 zk62 rfl ?_
  refine zg_iload_n hC 2 dX8_areTogether_12 rfl ?_
  refine zg_ishr hC dX8_areTogether_13 ?_
  refine zg_iconst hC (v := 1) dX8_areTogether_14 (by decide) ?_
  refine zg_iand hC dX8_areTogether_15 ?_
  refine zg_icmp_ne hC (tgt := 23) dX8_areTogether_16 (by decide) (fun c1 => ?_) (fun c1 => ?_)
  · refine zg_iconst hC (v := 1) dX8_areTogether_19 (by decide) ?_
    refine zg_goto hC (tgt := 24) dX8_areTogether_20 (by decide) ?_
    exact zg_retz hC hE (by decide) dX8_areTogether_24
  · refine zg_iconst hC (v := 0) dX8_areTogether_23 (by decide) ?_
    exact zg_retz hC hE (by decide) dX8_areTogether_24
theorem tX8_areTogether {l : Launch} {Z : zZ} {ad : Nat → Nat} (hl : l.stackTraces = false) (d : Nat) (N : Nat) (p1 : Int32) (p2 : Int32) (M : zMem) : zT l Z zfull ad (.code yX8_areTogether cX8_areTogether 3 (some .boolean)) yX8_areTogether (d + 0) false zbn [.ref (ad 62), .int p1, .int p2] M (fX8_areTogether N p1 p2 M) :=
  zT_of hl (by decide +kernel) (Nat.le_of_ble_eq_true rfl) (fun X hC hE hN => gX8_areTogether_B0 hC hE hN N p1 p2 M)

def fX8_reachCheck_B46 (N : Nat) (M : zMem) : zRES :=
  some (.inl 3, M)
def fX8_reachCheck_B14 (N : Nat) (M : zMem) : zRES :=
  some (.inl 1, M)
def fX8_reachCheck (N : Nat) (p1 : Int32) (p2 : Int32) (p3 : Int32) (M : zMem) : zRES :=
  zb (fX8_isBakery N p1 M) fun r1 M2 =>
  if r1 = 0 then
    fX8_reachCheck_B14 N M2
  else
    zb (fX8_isBakery N p2 M2) fun r4 M5 =>
    if r4 = 0 then
      fX8_reachCheck_B14 N M5
    else
      if p1 = p2 then
        some (.inl 2, M5)
      else
        if zin p1 5 = true then
        if (M5.1 64 p1.toNatClampNeg) = p3 then
          zb (fX8_areTogether N p1 p2 M5) fun r10 M11 =>
          if r10 = 0 then
            fX8_reachCheck_B46 N M11
          else
            some (.inl 0, M11)
        else
          fX8_reachCheck_B46 N M5
        else none
set_option maxRecDepth 20000 in
set_option maxHeartbeats 2000000 in
theorem gX8_reachCheck_B46 {l : Launch} {Z : zZ} {ad : Nat → Nat} {d : Nat} {X : zX} {cs : Nat × Nat} (hC : zC l Z zfull ad X RX8 cX8_reachCheck 4 (some .int) (d + 2)) (hE : zEnd Z zfull ad X false) (hN : zNoX X) (N : Nat) (M : zMem) : zG l Z zfull ad X cs 46 [] [] M (fX8_reachCheck_B46 N M) := by
  unfold fX8_reachCheck_B46
  refine zg_iconst hC (v := 3) dX8_reachCheck_46 (by decide) ?_
  refine zg_goto hC (tgt := 51) dX8_reachCheck_47 (by decide) ?_
  exact zg_ret hC hE dX8_reachCheck_51
set_option maxRecDepth 20000 in
set_option maxHeartbeats 2000000 in
theorem gX8_reachCheck_B14 {l : Launch} {Z : zZ} {ad : Nat → Nat} {d : Nat} {X : zX} {cs : Nat × Nat} (hC : zC l Z zfull ad X RX8 cX8_reachCheck 4 (some .int) (d + 2)) (hE : zEnd Z zfull ad X false) (hN : zNoX X) (N : Nat) (M : zMem) : zG l Z zfull ad X cs 14 [] [] M (fX8_reachCheck_B14 N M) := by
  unfold fX8_reachCheck_B14
  refine zg_iconst hC (v := 1) dX8_reachCheck_14 (by decide) ?_
  refine zg_goto hC (tgt := 51) dX8_reachCheck_15 (by decide) ?_
  exact zg_ret hC hE dX8_reachCheck_51
set_option maxRecDepth 20000 in
set_option maxHeartbeats 2000000 in
theorem gX8_reachCheck_B0 {l : Launch} {Z : zZ} {ad : Nat → Nat} {d : Nat} {X : zX} {cs : Nat × Nat} (hC : zC l Z zfull ad X RX8 cX8_reachCheck 4 (some .int) (d + 2)) (hE : zEnd Z zfull ad X false) (hN : zNoX X) (N : Nat) (p1 : Int32) (p2 : Int32) (p3 : Int32) (M : zMem) : zG l Z zfull ad X cs 0 [(0, .ref (ad 62)), (1, .int p1), (2, .int p2), (3, .int p3)] [] M (fX8_reachCheck N p1 p2 p3 M) := by
  unfold fX8_reachCheck
  refine zg_iload_n hC 1 dX8_reachCheck_0 rfl ?_
  refine zg_callSi hC hE hN (As := [.int p1]) (S := []) rfl (tX8_isBakery (zflag hC) d N p1 M) lkX8_93 rfl dX8_reachCheck_1 (Nat.le_of_ble_eq_true rfl) (fun r1 M2 er1 => ?_)
  refine zg_if_eq hC (tgt := 14) dX8_reachCheck_4 (by decide) (fun c3 => ?_) (fun c3 => ?_)
  · exact zg_sub [] rfl (gX8_reachCheck_B14 hC hE hN N M2)
  · refine zg_iload_n hC 2 dX8_reachCheck_7 rfl ?_
    refine zg_callSi hC hE hN (As := [.int p2]) (S := []) rfl (tX8_isBakery (zflag hC) d N p2 M2) lkX8_93 rfl dX8_reachCheck_8 (Nat.le_of_ble_eq_true rfl) (fun r4 M5 er4 => ?_)
    refine zg_if_ne hC (tgt := 18) dX8_reachCheck_11 (by decide) (fun c6 => ?_) (fun c6 => ?_)
    · exact zg_sub [] rfl (gX8_reachCheck_B14 hC hE hN N M5)
    · refine zg_iload_n hC 1 dX8_reachCheck_18 rfl ?_
      refine zg_iload_n hC 2 dX8_reachCheck_19 rfl ?_
      refine zg_icmp_ne hC (tgt := 27) dX8_reachCheck_20 (by decide) (fun c7 => ?_) (fun c7 => ?_)
      · refine zg_iconst hC (v := 2) dX8_reachCheck_23 (by decide) ?_
        refine zg_goto hC (tgt := 51) dX8_reachCheck_24 (by decide) ?_
        exact zg_ret hC hE dX8_reachCheck_51
      · refine zg_aload_n hC 0 dX8_reachCheck_27 rfl ?_
        refine zg_get hC (k := 62) (v := .ref (ad 64)) ffX8_13 dX8_reachCheck_28 zq62 zk62 rfl ?_
        refine zg_iload_n hC 1 dX8_reachCheck_31 rfl ?_
        refine zg_iald hC (k := 64) dX8_reachCheck_32 zq64 zk64 (fun h8 => ?_)
        refine zg_iload_n hC 3 dX8_reachCheck_33 rfl ?_
        refine zg_icmp_ne hC (tgt := 46) dX8_reachCheck_34 (by decide) (fun c9 => ?_) (fun c9 => ?_)
        · refine zg_aload_n hC 0 dX8_reachCheck_37 rfl ?_
          refine zg_iload_n hC 1 dX8_reachCheck_38 rfl ?_
          refine zg_iload_n hC 2 dX8_reachCheck_39 rfl ?_
          refine zg_callVi hC hE hN (k := 62) (As := [.int p1, .int p2]) (S := []) rfl (tX8_areTogether (zflag hC) (d + 1) N p1 p2 M5) lkX8_105 rfl dX8_reachCheck_40 zq62 zk62 rfl rfl (Nat.le_of_ble_eq_true rfl) (fun r10 M11 er10 => ?_)
          refine zg_if_ne hC (tgt := 50) dX8_reachCheck_43 (by decide) (fun c12 => ?_) (fun c12 => ?_)
          · exact zg_sub [] rfl (gX8_reachCheck_B46 hC hE hN N M11)
          · refine zg_iconst hC (v := 0) dX8_reachCheck_50 (by decide) ?_
            exact zg_ret hC hE dX8_reachCheck_51
        · exact zg_sub [] rfl (gX8_reachCheck_B46 hC hE hN N M5)
theorem tX8_reachCheck {l : Launch} {Z : zZ} {ad : Nat → Nat} (hl : l.stackTraces = false) (d : Nat) (N : Nat) (p1 : Int32) (p2 : Int32) (p3 : Int32) (M : zMem) : zT l Z zfull ad (.code yX8_reachCheck cX8_reachCheck 4 (some .int)) yX8_reachCheck (d + 2) false zbn [.ref (ad 62), .int p1, .int p2, .int p3] M (fX8_reachCheck N p1 p2 p3 M) :=
  zT_of hl (by decide +kernel) (Nat.le_of_ble_eq_true rfl) (fun X hC hE hN => gX8_reachCheck_B0 hC hE hN N p1 p2 p3 M)

def fX8_lastTerm (N : Nat) (p1 : Int32) (M : zMem) : zRES :=
  if zin p1 5 = true then
  if (M.1 68 p1.toNatClampNeg) = 0 then
    some (.inl (-1), M)
  else
    if zin p1 5 = true then
    if zin ((((20 : Int32) * p1) + (M.1 68 p1.toNatClampNeg)) - 1) 100 = true then
    if zin (M.1 67 ((((20 : Int32) * p1) + (M.1 68 p1.toNatClampNeg)) - 1).toNatClampNeg) 60 = true then
    some (.inl (M.1 69 (M.1 67 ((((20 : Int32) * p1) + (M.1 68 p1.toNatClampNeg)) - 1).toNatClampNeg).toNatClampNeg), M)
    else none
    else none
    else none
  else none
set_option maxRecDepth 20000 in
set_option maxHeartbeats 2000000 in
theorem gX8_lastTerm_B0 {l : Launch} {Z : zZ} {ad : Nat → Nat} {d : Nat} {X : zX} {cs : Nat × Nat} (hC : zC l Z zfull ad X RX8 cX8_lastTerm 2 (some .int) (d + 0)) (hE : zEnd Z zfull ad X false) (hN : zNoX X) (N : Nat) (p1 : Int32) (M : zMem) : zG l Z zfull ad X cs 0 [(0, .ref (ad 62)), (1, .int p1)] [] M (fX8_lastTerm N p1 M) := by
  unfold fX8_lastTerm
  refine zg_aload_n hC 0 dX8_lastTerm_0 rfl ?_
  refine zg_get hC (k := 62) (v := .ref (ad 68)) ffX8_25 dX8_lastTerm_1 zq62 zk62 rfl ?_
  refine zg_iload_n hC 1 dX8_lastTerm_4 rfl ?_
  refine zg_iald hC (k := 68) dX8_lastTerm_5 zq68 zk68 (fun h1 => ?_)
  refine zg_if_ne hC (tgt := 13) dX8_lastTerm_6 (by decide) (fun c2 => ?_) (fun c2 => ?_)
  · refine zg_iconst hC (v := (-1)) dX8_lastTerm_9 (by decide) ?_
    refine zg_goto hC (tgt := 36) dX8_lastTerm_10 (by decide) ?_
    exact zg_ret hC hE dX8_lastTerm_36
  · refine zg_aload_n hC 0 dX8_lastTerm_13 rfl ?_
    refine zg_get hC (k := 62) (v := .ref (ad 69)) ffX8_28 dX8_lastTerm_14 zq62 zk62 rfl ?_
    refine zg_aload_n hC 0 dX8_lastTerm_17 rfl ?_
    refine zg_get hC (k := 62) (v := .ref (ad 67)) ffX8_22 dX8_lastTerm_18 zq62 zk62 rfl ?_
    refine zg_bipush hC (v := 20) dX8_lastTerm_21 (by decide) ?_
    refine zg_iload_n hC 1 dX8_lastTerm_23 rfl ?_
    refine zg_imul hC dX8_lastTerm_24 ?_
    refine zg_aload_n hC 0 dX8_lastTerm_25 rfl ?_
    refine zg_get hC (k := 62) (v := .ref (ad 68)) ffX8_25 dX8_lastTerm_26 zq62 zk62 rfl ?_
    refine zg_iload_n hC 1 dX8_lastTerm_29 rfl ?_
    refine zg_iald hC (k := 68) dX8_lastTerm_30 zq68 zk68 (fun h3 => ?_)
    refine zg_iadd hC dX8_lastTerm_31 ?_
    refine zg_iconst hC (v := 1) dX8_lastTerm_32 (by decide) ?_
    refine zg_isub hC dX8_lastTerm_33 ?_
    refine zg_iald hC (k := 67) dX8_lastTerm_34 zq67 zk67 (fun h4 => ?_)
    refine zg_iald hC (k := 69) dX8_lastTerm_35 zq69 zk69 (fun h5 => ?_)
    exact zg_ret hC hE dX8_lastTerm_36
theorem tX8_lastTerm {l : Launch} {Z : zZ} {ad : Nat → Nat} (hl : l.stackTraces = false) (d : Nat) (N : Nat) (p1 : Int32) (M : zMem) : zT l Z zfull ad (.code yX8_lastTerm cX8_lastTerm 2 (some .int)) yX8_lastTerm (d + 0) false zbn [.ref (ad 62), .int p1] M (fX8_lastTerm N p1 M) :=
  zT_of hl (by decide +kernel) (Nat.le_of_ble_eq_true rfl) (fun X hC hE hN => gX8_lastTerm_B0 hC hE hN N p1 M)

def fX8_isBetter_B35 (N : Nat) (M : zMem) : zRES :=
  some (.inl 1, M)
def fX8_isBetter (N : Nat) (p1 : Int32) (p2 : Int32) (M : zMem) : zRES :=
  zb (fX8_lastTerm N p1 M) fun r1 M2 =>
  zb (fX8_lastTerm N p2 M2) fun r3 M4 =>
  zv (r1 - r3) fun x5 =>
  if (0 : Int32) < x5 then
    fX8_isBetter_B35 N M4
  else
    if x5 = 0 then
      if zin p1 5 = true then
      if zin p2 5 = true then
      if (M4.1 68 p1.toNatClampNeg) ≤ (M4.1 68 p2.toNatClampNeg) then
        some (.inl 0, M4)
      else
        fX8_isBetter_B35 N M4
      else none
      else none
    else
      some (.inl 0, M4)
set_option maxRecDepth 20000 in
set_option maxHeartbeats 2000000 in
theorem gX8_isBetter_B35 {l : Launch} {Z : zZ} {ad : Nat → Nat} {d : Nat} {X : zX} {cs : Nat × Nat} (hC : zC l Z zfull ad X RX8 cX8_isBetter 4 (some .boolean) (d + 1)) (hE : zEnd Z zfull ad X false) (hN : zNoX X) (N : Nat) (M : zMem) : zG l Z zfull ad X cs 35 [] [] M (fX8_isBetter_B35 N M) := by
  unfold fX8_isBetter_B35
  refine zg_iconst hC (v := 1) dX8_isBetter_35 (by decide) ?_
  refine zg_goto hC (tgt := 40) dX8_isBetter_36 (by decide) ?_
  exact zg_retz hC hE (by decide) dX8_isBetter_40
set_option maxRecDepth 20000 in
set_option maxHeartbeats 2000000 in
theorem gX8_isBetter_B0 {l : Launch} {Z : zZ} {ad : Nat → Nat} {d : Nat} {X : zX} {cs : Nat × Nat} (hC : zC l Z zfull ad X RX8 cX8_isBetter 4 (some .boolean) (d + 1)) (hE : zEnd Z zfull ad X false) (hN : zNoX X) (N : Nat) (p1 : Int32) (p2 : Int32) (M : zMem) : zG l Z zfull ad X cs 0 [(0, .ref (ad 62)), (1, .int p1), (2, .int p2)] [] M (fX8_isBetter N p1 p2 M) := by
  unfold fX8_isBetter
  refine zg_aload_n hC 0 dX8_isBetter_0 rfl ?_
  refine zg_iload_n hC 1 dX8_isBetter_1 rfl ?_
  refine zg_callVi hC hE hN (k := 62) (As := [.int p1]) (S := []) rfl (tX8_lastTerm (zflag hC) d N p1 M) lkX8_101 rfl dX8_isBetter_2 zq62 zk62 rfl rfl (Nat.le_of_ble_eq_true rfl) (fun r1 M2 er1 => ?_)
  refine zg_aload_n hC 0 dX8_isBetter_5 rfl ?_
  refine zg_iload_n hC 2 dX8_isBetter_6 rfl ?_
  refine zg_callVi hC hE hN (k := 62) (As := [.int p2]) (S := [.int r1]) rfl (tX8_lastTerm (zflag hC) d N p2 M2) lkX8_101 rfl dX8_isBetter_7 zq62 zk62 rfl rfl (Nat.le_of_ble_eq_true rfl) (fun r3 M4 er3 => ?_)
  refine zg_isub hC dX8_isBetter_10 ?_
  refine zg_nm (fun x5 ex5 => ?_)
  refine zg_istore_n hC (L' := [(3, _), (0, _), (1, _), (2, _)]) dX8_isBetter_11 (by decide) rfl ?_
  refine zg_iload_n hC 0 dX8_isBetter_12 rfl ?_
  refine zg_if_gt hC (tgt := 35) dX8_isBetter_13 (by decide) (fun c6 => ?_) (fun c6 => ?_)
  · exact zg_sub [] rfl (gX8_isBetter_B35 hC hE hN N M4)
  · refine zg_iload_n hC 0 dX8_isBetter_16 rfl ?_
    refine zg_if_ne hC (tgt := 39) dX8_isBetter_17 (by decide) (fun c7 => ?_) (fun c7 => ?_)
    · refine zg_aload_n hC 1 dX8_isBetter_20 rfl ?_
      refine zg_get hC (k := 62) (v := .ref (ad 68)) ffX8_25 dX8_isBetter_21 zq62 zk62 rfl ?_
      refine zg_iload_n hC 2 dX8_isBetter_24 rfl ?_
      refine zg_iald hC (k := 68) dX8_isBetter_25 zq68 zk68 (fun h8 => ?_)
      refine zg_aload_n hC 1 dX8_isBetter_26 rfl ?_
      refine zg_get hC (k := 62) (v := .ref (ad 68)) ffX8_25 dX8_isBetter_27 zq62 zk62 rfl ?_
      refine zg_iload_n hC 3 dX8_isBetter_30 rfl ?_
      refine zg_iald hC (k := 68) dX8_isBetter_31 zq68 zk68 (fun h9 => ?_)
      refine zg_icmp_le hC (tgt := 39) dX8_isBetter_32 (by decide) (fun c10 => ?_) (fun c10 => ?_)
      · refine zg_iconst hC (v := 0) dX8_isBetter_39 (by decide) ?_
        exact zg_retz hC hE (by decide) dX8_isBetter_40
      · exact zg_sub [] rfl (gX8_isBetter_B35 hC hE hN N M4)
    · refine zg_iconst hC (v := 0) dX8_isBetter_39 (by decide) ?_
      exact zg_retz hC hE (by decide) dX8_isBetter_40
theorem tX8_isBetter {l : Launch} {Z : zZ} {ad : Nat → Nat} (hl : l.stackTraces = false) (d : Nat) (N : Nat) (p1 : Int32) (p2 : Int32) (M : zMem) : zT l Z zfull ad (.code yX8_isBetter cX8_isBetter 4 (some .boolean)) yX8_isBetter (d + 1) false zbn [.ref (ad 62), .int p1, .int p2] M (fX8_isBetter N p1 p2 M) :=
  zT_of hl (by decide +kernel) (Nat.le_of_ble_eq_true rfl) (fun X hC hE hN => gX8_isBetter_B0 hC hE hN N p1 p2 M)

def fX8_vote_B159 (N : Nat) (v1 : Int32) (v2 : Int32) (s1 : Int32) (s2 : Int32) (M : zMem) : zRES :=
  if zin s1 5 = true then
  zl (zsI M 64 s1.toNatClampNeg s2) fun M32 =>
  if zin v1 5 = true then
  if (M32.1 65 v1.toNatClampNeg) = (v2 + 1) then
    some (.inl 1, M32)
  else
    some (.inl 0, M32)
  else none
  else none
def fX8_vote_B118 (N : Nat) : Nat → Int32 → Int32 → Int32 → Int32 → zMem → zRES
  | 0, _, _, _, _, _ => none
  | n + 1, v1, v2, v3, v4, M =>
  if (5 : Int32) ≤ v4 then
    if v3 < 3 then
      fX8_vote_B159 N v1 v2 v2 1 M
    else
      fX8_vote_B159 N v1 v2 v2 2 M
  else
    if zin v2 5 = true then
    zv (v3 + (((M.1 66 v2.toNatClampNeg) >>> (v4 &&& 31)) &&& 1)) fun x30 =>
    fX8_vote_B118 N n v1 v2 x30 (v4 + 1) M
    else none
def fX8_vote_B113 (N : Nat) (v1 : Int32) (v2 : Int32) (M : zMem) : zRES :=
  fX8_vote_B118 N N v1 v2 0 0 M
def fX8_vote_B74 (N : Nat) (v1 : Int32) (v2 : Int32) (M : zMem) : zRES :=
  if zin v1 5 = true then
  if (M.1 65 v1.toNatClampNeg) = 0 then
    zb (fX8_isBetter N v1 v2 M) fun r19 M20 =>
    if r19 = 0 then
      if zin v1 5 = true then
      zl (zsI M20 65 v1.toNatClampNeg (v2 + 1)) fun M23 =>
      if zin v2 5 = true then
      if zin v2 5 = true then
      zl (zsI M23 66 v2.toNatClampNeg ((M23.1 66 v2.toNatClampNeg) ||| ((1 : Int32) <<< (v1 &&& 31)))) fun M26 =>
      fX8_vote_B113 N v1 v2 M26
      else none
      else none
      else none
    else
      fX8_vote_B113 N v1 v2 M20
  else
    fX8_vote_B113 N v1 v2 M
  else none
def fX8_vote (N : Nat) (p1 : Int32) (p2 : Int32) (M : zMem) : zRES :=
  zb (fX8_reachCheck N p2 p1 1 M) fun r1 M2 =>
  zl (zsI M2 62 30 r1) fun M3 =>
  if (M3.1 62 30) ≤ 0 then
    if zin p1 5 = true then
    if zin p2 5 = true then
    if (M3.1 63 p1.toNatClampNeg) ≤ (M3.1 63 p2.toNatClampNeg) then
      if zin p1 5 = true then
      if zin p2 5 = true then
      if (M3.1 63 p2.toNatClampNeg) ≤ (M3.1 63 p1.toNatClampNeg) then
        fX8_vote_B74 N p1 p2 M3
      else
        if zin p2 5 = true then
        zb (fX8_takes N p1 (M3.1 63 p2.toNatClampNeg) M3) fun r12 M13 =>
        fX8_vote_B74 N p1 p2 M13
        else none
      else none
      else none
    else
      if zin p1 5 = true then
      zb (fX8_takes N p2 (M3.1 63 p1.toNatClampNeg) M3) fun r15 M16 =>
      some (.inl 0, M16)
      else none
    else none
    else none
  else
    some (.inl 0, M3)
set_option maxRecDepth 20000 in
set_option maxHeartbeats 2000000 in
theorem gX8_vote_B159 {l : Launch} {Z : zZ} {ad : Nat → Nat} {d : Nat} {X : zX} {cs : Nat × Nat} (hC : zC l Z zfull ad X RX8 cX8_vote 5 (some .boolean) (d + 3)) (hE : zEnd Z zfull ad X false) (hN : zNoX X) (N : Nat) (v1 : Int32) (v2 : Int32) (s1 : Int32) (s2 : Int32) (M : zMem) : zG l Z zfull ad X cs 159 [(0, .ref (ad 62)), (1, .int v1), (2, .int v2)] [.int s2, .int s1, .ref (ad 64)] M (fX8_vote_B159 N v1 v2 s1 s2 M) := by
  unfold fX8_vote_B159
  refine zg_iast hC (k := 64) dX8_vote_159 zq64 zk64 (fun h31 M32 eM32 => ?_)
  refine zg_aload_n hC 0 dX8_vote_160 rfl ?_
  refine zg_get hC (k := 62) (v := .ref (ad 65)) ffX8_16 dX8_vote_161 zq62 zk62 rfl ?_
  refine zg_iload_n hC 1 dX8_vote_164 rfl ?_
  refine zg_iald hC (k := 65) dX8_vote_165 zq65 zk65 (fun h33 => ?_)
  refine zg_iload_n hC 2 dX8_vote_166 rfl ?_
  refine zg_iconst hC (v := 1) dX8_vote_167 (by decide) ?_
  refine zg_iadd hC dX8_vote_168 ?_
  refine zg_icmp_ne hC (tgt := 176) dX8_vote_169 (by decide) (fun c34 => ?_) (fun c34 => ?_)
  · refine zg_iconst hC (v := 1) dX8_vote_172 (by decide) ?_
    refine zg_goto hC (tgt := 177) dX8_vote_173 (by decide) ?_
    exact zg_retz hC hE (by decide) dX8_vote_177
  · refine zg_iconst hC (v := 0) dX8_vote_176 (by decide) ?_
    exact zg_retz hC hE (by decide) dX8_vote_177
set_option maxRecDepth 20000 in
set_option maxHeartbeats 2000000 in
theorem gX8_vote_B118 {l : Launch} {Z : zZ} {ad : Nat → Nat} {d : Nat} {X : zX} {cs : Nat × Nat} (hC : zC l Z zfull ad X RX8 cX8_vote 5 (some .boolean) (d + 3)) (hE : zEnd Z zfull ad X false) (hN : zNoX X) (N : Nat) : ∀ (n : Nat) (v1 : Int32) (v2 : Int32) (v3 : Int32) (v4 : Int32) (M : zMem), zG l Z zfull ad X cs 118 [(0, .ref (ad 62)), (1, .int v1), (2, .int v2), (3, .int v3), (4, .int v4)] [] M (fX8_vote_B118 N n v1 v2 v3 v4 M) := by
  intro n
  induction n with
  | zero =>
    intro v1 v2 v3 v4 M
    exact zg_none
  | succ n ih =>
  intro v1 v2 v3 v4 M
  rw [fX8_vote_B118]
  refine zg_iload hC 4 dX8_vote_118 rfl ?_
  refine zg_iconst hC (v := 5) dX8_vote_120 (by decide) ?_
  refine zg_icmp_ge hC (tgt := 144) dX8_vote_121 (by decide) (fun c27 => ?_) (fun c27 => ?_)
  · refine zg_aload_n hC 0 dX8_vote_144 rfl ?_
    refine zg_get hC (k := 62) (v := .ref (ad 64)) ffX8_13 dX8_vote_145 zq62 zk62 rfl ?_
    refine zg_iload_n hC 2 dX8_vote_148 rfl ?_
    refine zg_iload_n hC 3 dX8_vote_149 rfl ?_
    refine zg_iconst hC (v := 3) dX8_vote_150 (by decide) ?_
    refine zg_icmp_lt hC (tgt := 158) dX8_vote_151 (by decide) (fun c28 => ?_) (fun c28 => ?_)
    · refine zg_iconst hC (v := 1) dX8_vote_158 (by decide) ?_
      exact zg_sub [0, 1, 2] rfl (gX8_vote_B159 hC hE hN N v1 v2 v2 1 M)
    · refine zg_iconst hC (v := 2) dX8_vote_154 (by decide) ?_
      refine zg_goto hC (tgt := 159) dX8_vote_155 (by decide) ?_
      exact zg_sub [0, 1, 2] rfl (gX8_vote_B159 hC hE hN N v1 v2 v2 2 M)
  · refine zg_iload_n hC 3 dX8_vote_124 rfl ?_
    refine zg_aload_n hC 0 dX8_vote_125 rfl ?_
    refine zg_get hC (k := 62) (v := .ref (ad 66)) ffX8_19 dX8_vote_126 zq62 zk62 rfl ?_
    refine zg_iload_n hC 2 dX8_vote_129 rfl ?_
    refine zg_iald hC (k := 66) dX8_vote_130 zq66 zk66 (fun h29 => ?_)
    refine zg_iload hC 4 dX8_vote_131 rfl ?_
    refine zg_ishr hC dX8_vote_133 ?_
    refine zg_iconst hC (v := 1) dX8_vote_134 (by decide) ?_
    refine zg_iand hC dX8_vote_135 ?_
    refine zg_iadd hC dX8_vote_136 ?_
    refine zg_nm (fun x30 ex30 => ?_)
    refine zg_istore_n hC (L' := [(3, _), (0, _), (1, _), (2, _), (4, _)]) dX8_vote_137 (by decide) rfl ?_
    refine zg_iinc hC 4 (v := v4 + 1) (L' := [(4, _), (3, _), (0, _), (1, _), (2, _)]) dX8_vote_138 rfl (by rfl) (by decide) rfl ?_
    refine zg_goto hC (tgt := 118) dX8_vote_141 (by decide) ?_
    exact zg_sub [2, 3, 4, 1, 0] rfl (ih v1 v2 x30 (v4 + 1) M)
set_option maxRecDepth 20000 in
set_option maxHeartbeats 2000000 in
theorem gX8_vote_B113 {l : Launch} {Z : zZ} {ad : Nat → Nat} {d : Nat} {X : zX} {cs : Nat × Nat} (hC : zC l Z zfull ad X RX8 cX8_vote 5 (some .boolean) (d + 3)) (hE : zEnd Z zfull ad X false) (hN : zNoX X) (N : Nat) (v1 : Int32) (v2 : Int32) (M : zMem) : zG l Z zfull ad X cs 113 [(0, .ref (ad 62)), (1, .int v1), (2, .int v2)] [] M (fX8_vote_B113 N v1 v2 M) := by
  unfold fX8_vote_B113
  refine zg_iconst hC (v := 0) dX8_vote_113 (by decide) ?_
  refine zg_istore_n hC (L' := [(3, _), (0, _), (1, _), (2, _)]) dX8_vote_114 (by decide) rfl ?_
  refine zg_iconst hC (v := 0) dX8_vote_115 (by decide) ?_
  refine zg_istore hC (L' := [(4, _), (3, _), (0, _), (1, _), (2, _)]) dX8_vote_116 (by decide) rfl ?_
  exact zg_sub [2, 3, 4, 1, 0] rfl (gX8_vote_B118 hC hE hN N N v1 v2 0 0 M)
set_option maxRecDepth 20000 in
set_option maxHeartbeats 2000000 in
theorem gX8_vote_B74 {l : Launch} {Z : zZ} {ad : Nat → Nat} {d : Nat} {X : zX} {cs : Nat × Nat} (hC : zC l Z zfull ad X RX8 cX8_vote 5 (some .boolean) (d + 3)) (hE : zEnd Z zfull ad X false) (hN : zNoX X) (N : Nat) (v1 : Int32) (v2 : Int32) (M : zMem) : zG l Z zfull ad X cs 74 [(0, .ref (ad 62)), (1, .int v1), (2, .int v2)] [] M (fX8_vote_B74 N v1 v2 M) := by
  unfold fX8_vote_B74
  refine zg_aload_n hC 0 dX8_vote_74 rfl ?_
  refine zg_get hC (k := 62) (v := .ref (ad 65)) ffX8_16 dX8_vote_75 zq62 zk62 rfl ?_
  refine zg_iload_n hC 1 dX8_vote_78 rfl ?_
  refine zg_iald hC (k := 65) dX8_vote_79 zq65 zk65 (fun h17 => ?_)
  refine zg_if_ne hC (tgt := 113) dX8_vote_80 (by decide) (fun c18 => ?_) (fun c18 => ?_)
  · refine zg_aload_n hC 0 dX8_vote_83 rfl ?_
    refine zg_iload_n hC 1 dX8_vote_84 rfl ?_
    refine zg_iload_n hC 2 dX8_vote_85 rfl ?_
    refine zg_callVi hC hE hN (k := 62) (As := [.int v1, .int v2]) (S := []) rfl (tX8_isBetter (zflag hC) (d + 1) N v1 v2 M) lkX8_113 rfl dX8_vote_86 zq62 zk62 rfl rfl (Nat.le_of_ble_eq_true rfl) (fun r19 M20 er19 => ?_)
    refine zg_if_ne hC (tgt := 113) dX8_vote_89 (by decide) (fun c21 => ?_) (fun c21 => ?_)
    · refine zg_aload_n hC 0 dX8_vote_92 rfl ?_
      refine zg_get hC (k := 62) (v := .ref (ad 65)) ffX8_16 dX8_vote_93 zq62 zk62 rfl ?_
      refine zg_iload_n hC 1 dX8_vote_96 rfl ?_
      refine zg_iload_n hC 2 dX8_vote_97 rfl ?_
      refine zg_iconst hC (v := 1) dX8_vote_98 (by decide) ?_
      refine zg_iadd hC dX8_vote_99 ?_
      refine zg_iast hC (k := 65) dX8_vote_100 zq65 zk65 (fun h22 M23 eM23 => ?_)
      refine zg_aload_n hC 0 dX8_vote_101 rfl ?_
      refine zg_get hC (k := 62) (v := .ref (ad 66)) ffX8_19 dX8_vote_102 zq62 zk62 rfl ?_
      refine zg_iload_n hC 2 dX8_vote_105 rfl ?_
      refine zg_dup2_11 hC dX8_vote_106 rfl rfl ?_
      refine zg_iald hC (k := 66) dX8_vote_107 zq66 zk66 (fun h24 => ?_)
      refine zg_iconst hC (v := 1) dX8_vote_108 (by decide) ?_
      refine zg_iload_n hC 1 dX8_vote_109 rfl ?_
      refine zg_ishl hC dX8_vote_110 ?_
      refine zg_ior hC dX8_vote_111 ?_
      refine zg_iast hC (k := 66) dX8_vote_112 zq66 zk66 (fun h25 M26 eM26 => ?_)
      exact zg_sub [0, 1, 2] rfl (gX8_vote_B113 hC hE hN N v1 v2 M26)
    · exact zg_sub [0, 1, 2] rfl (gX8_vote_B113 hC hE hN N v1 v2 M20)
  · exact zg_sub [0, 1, 2] rfl (gX8_vote_B113 hC hE hN N v1 v2 M)
set_option maxRecDepth 20000 in
set_option maxHeartbeats 2000000 in
theorem gX8_vote_B0 {l : Launch} {Z : zZ} {ad : Nat → Nat} {d : Nat} {X : zX} {cs : Nat × Nat} (hC : zC l Z zfull ad X RX8 cX8_vote 5 (some .boolean) (d + 3)) (hE : zEnd Z zfull ad X false) (hN : zNoX X) (N : Nat) (p1 : Int32) (p2 : Int32) (M : zMem) : zG l Z zfull ad X cs 0 [(0, .ref (ad 62)), (1, .int p1), (2, .int p2)] [] M (fX8_vote N p1 p2 M) := by
  unfold fX8_vote
  refine zg_aload_n hC 0 dX8_vote_0 rfl ?_
  refine zg_aload_n hC 0 dX8_vote_1 rfl ?_
  refine zg_iload_n hC 2 dX8_vote_2 rfl ?_
  refine zg_iload_n hC 1 dX8_vote_3 rfl ?_
  refine zg_iconst hC (v := 1) dX8_vote_4 (by decide) ?_
  refine zg_callVi hC hE hN (k := 62) (As := [.int p2, .int p1, .int 1]) (S := [.ref (ad 62)]) rfl (tX8_reachCheck (zflag hC) d N p2 p1 1 M) lkX8_109 rfl dX8_vote_5 zq62 zk62 rfl rfl (Nat.le_of_ble_eq_true rfl) (fun r1 M2 er1 => ?_)
  refine zg_putI hC (k := 62) fpX8_82 dX8_vote_8 zq62 zk62 rfl (fun M3 eM3 => ?_)
  refine zg_aload_n hC 0 dX8_vote_11 rfl ?_
  refine zg_get hC (k := 62) (v := .int (M3.1 62 30)) ffX8_82 dX8_vote_12 zq62 zk62 rfl ?_
  refine zg_if_le hC (tgt := 20) dX8_vote_15 (by decide) (fun c4 => ?_) (fun c4 => ?_)
  · refine zg_aload_n hC 0 dX8_vote_20 rfl ?_
    refine zg_get hC (k := 62) (v := .ref (ad 63)) ffX8_7 dX8_vote_21 zq62 zk62 rfl ?_
    refine zg_iload_n hC 1 dX8_vote_24 rfl ?_
    refine zg_iald hC (k := 63) dX8_vote_25 zq63 zk63 (fun h5 => ?_)
    refine zg_aload_n hC 0 dX8_vote_26 rfl ?_
    refine zg_get hC (k := 62) (v := .ref (ad 63)) ffX8_7 dX8_vote_27 zq62 zk62 rfl ?_
    refine zg_iload_n hC 2 dX8_vote_30 rfl ?_
    refine zg_iald hC (k := 63) dX8_vote_31 zq63 zk63 (fun h6 => ?_)
    refine zg_icmp_le hC (tgt := 48) dX8_vote_32 (by decide) (fun c7 => ?_) (fun c7 => ?_)
    · refine zg_aload_n hC 0 dX8_vote_48 rfl ?_
      refine zg_get hC (k := 62) (v := .ref (ad 63)) ffX8_7 dX8_vote_49 zq62 zk62 rfl ?_
      refine zg_iload_n hC 1 dX8_vote_52 rfl ?_
      refine zg_iald hC (k := 63) dX8_vote_53 zq63 zk63 (fun h8 => ?_)
      refine zg_aload_n hC 0 dX8_vote_54 rfl ?_
      refine zg_get hC (k := 62) (v := .ref (ad 63)) ffX8_7 dX8_vote_55 zq62 zk62 rfl ?_
      refine zg_iload_n hC 2 dX8_vote_58 rfl ?_
      refine zg_iald hC (k := 63) dX8_vote_59 zq63 zk63 (fun h9 => ?_)
      refine zg_icmp_ge hC (tgt := 74) dX8_vote_60 (by decide) (fun c10 => ?_) (fun c10 => ?_)
      · exact zg_sub [0, 1, 2] rfl (gX8_vote_B74 hC hE hN N p1 p2 M3)
      · refine zg_aload_n hC 0 dX8_vote_63 rfl ?_
        refine zg_iload_n hC 1 dX8_vote_64 rfl ?_
        refine zg_aload_n hC 0 dX8_vote_65 rfl ?_
        refine zg_get hC (k := 62) (v := .ref (ad 63)) ffX8_7 dX8_vote_66 zq62 zk62 rfl ?_
        refine zg_iload_n hC 2 dX8_vote_69 rfl ?_
        refine zg_iald hC (k := 63) dX8_vote_70 zq63 zk63 (fun h11 => ?_)
        refine zg_callVv hC hE hN (k := 62) (As := [.int p1, .int (M3.1 63 p2.toNatClampNeg)]) (S := []) rfl (tX8_takes (zflag hC) (d + 2) N p1 (M3.1 63 p2.toNatClampNeg) M3) lkX8_97 rfl dX8_vote_71 zq62 zk62 rfl rfl (Nat.le_of_ble_eq_true rfl) (fun r12 M13 er12 => ?_)
        exact zg_sub [0, 1, 2] rfl (gX8_vote_B74 hC hE hN N p1 p2 M13)
    · refine zg_aload_n hC 0 dX8_vote_35 rfl ?_
      refine zg_iload_n hC 2 dX8_vote_36 rfl ?_
      refine zg_aload_n hC 0 dX8_vote_37 rfl ?_
      refine zg_get hC (k := 62) (v := .ref (ad 63)) ffX8_7 dX8_vote_38 zq62 zk62 rfl ?_
      refine zg_iload_n hC 1 dX8_vote_41 rfl ?_
      refine zg_iald hC (k := 63) dX8_vote_42 zq63 zk63 (fun h14 => ?_)
      refine zg_callVv hC hE hN (k := 62) (As := [.int p2, .int (M3.1 63 p1.toNatClampNeg)]) (S := []) rfl (tX8_takes (zflag hC) (d + 2) N p2 (M3.1 63 p1.toNatClampNeg) M3) lkX8_97 rfl dX8_vote_43 zq62 zk62 rfl rfl (Nat.le_of_ble_eq_true rfl) (fun r15 M16 er15 => ?_)
      refine zg_iconst hC (v := 0) dX8_vote_46 (by decide) ?_
      exact zg_retz hC hE (by decide) dX8_vote_47
  · refine zg_iconst hC (v := 0) dX8_vote_18 (by decide) ?_
    exact zg_retz hC hE (by decide) dX8_vote_19
theorem tX8_vote {l : Launch} {Z : zZ} {ad : Nat → Nat} (hl : l.stackTraces = false) (d : Nat) (N : Nat) (p1 : Int32) (p2 : Int32) (M : zMem) : zT l Z zfull ad (.code yX8_vote cX8_vote 5 (some .boolean)) yX8_vote (d + 3) false zbn [.ref (ad 62), .int p1, .int p2] M (fX8_vote N p1 p2 M) :=
  zT_of hl (by decide +kernel) (Nat.le_of_ble_eq_true rfl) (fun X hC hE hN => gX8_vote_B0 hC hE hN N p1 p2 M)

def fX8_propose_B81 (N : Nat) (v1 : Int32) (v2 : Int32) (v3 : Int32) (v4 : Int32) (s1 : Int32) (M : zMem) : zRES :=
  zl (zsI M 62 30 s1) fun M18 =>
  if (M18.1 62 30) ≤ 0 then
    if zin v1 5 = true then
    if zin (M18.1 62 7) 60 = true then
    zl (zsI M18 69 (M18.1 62 7).toNatClampNeg (M18.1 63 v1.toNatClampNeg)) fun M22 =>
    if zin (M22.1 62 7) 60 = true then
    zl (zsI M22 70 (M22.1 62 7).toNatClampNeg v2) fun M24 =>
    if zin (M24.1 62 7) 60 = true then
    zl (zsI M24 71 (M24.1 62 7).toNatClampNeg v3) fun M26 =>
    if zin (M26.1 62 7) 60 = true then
    zl (zsI M26 72 (M26.1 62 7).toNatClampNeg v4) fun M28 =>
    if zin v1 5 = true then
    if zin (((20 : Int32) * v1) + (M28.1 68 v1.toNatClampNeg)) 100 = true then
    zl (zsI M28 67 (((20 : Int32) * v1) + (M28.1 68 v1.toNatClampNeg)).toNatClampNeg (M28.1 62 7)) fun M31 =>
    if zin v1 5 = true then
    if zin v1 5 = true then
    zl (zsI M31 68 v1.toNatClampNeg ((M31.1 68 v1.toNatClampNeg) + 1)) fun M34 =>
    zl (zsI M34 62 7 ((M34.1 62 7) + 1)) fun M35 =>
    some (.inl ((M35.1 62 7) - 1), M35)
    else none
    else none
    else none
    else none
    else none
    else none
    else none
    else none
    else none
  else
    some (.inl 0, M18)
def fX8_propose_B76 (N : Nat) (v1 : Int32) (v2 : Int32) (v3 : Int32) (v4 : Int32) (M : zMem) : zRES :=
  fX8_propose_B81 N v1 v2 v3 v4 3 M
def fX8_propose_B42 (N : Nat) (v1 : Int32) (v2 : Int32) (v3 : Int32) (v4 : Int32) (M : zMem) : zRES :=
  fX8_propose_B81 N v1 v2 v3 v4 2 M
def fX8_propose_B17 (N : Nat) (v1 : Int32) (v2 : Int32) (v3 : Int32) (v4 : Int32) (M : zMem) : zRES :=
  fX8_propose_B81 N v1 v2 v3 v4 1 M
def fX8_propose (N : Nat) (p1 : Int32) (p2 : Int32) (p3 : Int32) (p4 : Int32) (M : zMem) : zRES :=
  zb (fX8_isBakery N p1 M) fun r1 M2 =>
  if r1 = 0 then
    fX8_propose_B17 N p1 p2 p3 p4 M2
  else
    zb (fX8_in N p2 0 5 M2) fun r4 M5 =>
    if r4 = 0 then
      fX8_propose_B17 N p1 p2 p3 p4 M5
    else
      zb (fX8_in N p3 1 9 M5) fun r7 M8 =>
      if r7 = 0 then
        fX8_propose_B42 N p1 p2 p3 p4 M8
      else
        zb (fX8_in N p4 1 40 M8) fun r10 M11 =>
        if r10 = 0 then
          fX8_propose_B42 N p1 p2 p3 p4 M11
        else
          if zin p1 5 = true then
          if (M11.1 64 p1.toNatClampNeg) = 2 then
            if zin p1 5 = true then
            if (M11.1 68 p1.toNatClampNeg) = 20 then
              fX8_propose_B76 N p1 p2 p3 p4 M11
            else
              if (M11.1 62 7) = 60 then
                fX8_propose_B76 N p1 p2 p3 p4 M11
              else
                fX8_propose_B81 N p1 p2 p3 p4 0 M11
            else none
          else
            fX8_propose_B76 N p1 p2 p3 p4 M11
          else none
set_option maxRecDepth 20000 in
set_option maxHeartbeats 2000000 in
theorem gX8_propose_B81 {l : Launch} {Z : zZ} {ad : Nat → Nat} {d : Nat} {X : zX} {cs : Nat × Nat} (hC : zC l Z zfull ad X RX8 cX8_propose 5 (some .int) (d + 2)) (hE : zEnd Z zfull ad X false) (hN : zNoX X) (N : Nat) (v1 : Int32) (v2 : Int32) (v3 : Int32) (v4 : Int32) (s1 : Int32) (M : zMem) : zG l Z zfull ad X cs 81 [(0, .ref (ad 62)), (1, .int v1), (2, .int v2), (3, .int v3), (4, .int v4)] [.int s1, .ref (ad 62)] M (fX8_propose_B81 N v1 v2 v3 v4 s1 M) := by
  unfold fX8_propose_B81
  refine zg_putI hC (k := 62) fpX8_82 dX8_propose_81 zq62 zk62 rfl (fun M18 eM18 => ?_)
  refine zg_aload_n hC 0 dX8_propose_84 rfl ?_
  refine zg_get hC (k := 62) (v := .int (M18.1 62 30)) ffX8_82 dX8_propose_85 zq62 zk62 rfl ?_
  refine zg_if_le hC (tgt := 93) dX8_propose_88 (by decide) (fun c19 => ?_) (fun c19 => ?_)
  · refine zg_aload_n hC 0 dX8_propose_93 rfl ?_
    refine zg_get hC (k := 62) (v := .ref (ad 69)) ffX8_28 dX8_propose_94 zq62 zk62 rfl ?_
    refine zg_aload_n hC 0 dX8_propose_97 rfl ?_
    refine zg_get hC (k := 62) (v := .int (M18.1 62 7)) ffX8_116 dX8_propose_98 zq62 zk62 rfl ?_
    refine zg_aload_n hC 0 dX8_propose_101 rfl ?_
    refine zg_get hC (k := 62) (v := .ref (ad 63)) ffX8_7 dX8_propose_102 zq62 zk62 rfl ?_
    refine zg_iload_n hC 1 dX8_propose_105 rfl ?_
    refine zg_iald hC (k := 63) dX8_propose_106 zq63 zk63 (fun h20 => ?_)
    refine zg_iast hC (k := 69) dX8_propose_107 zq69 zk69 (fun h21 M22 eM22 => ?_)
    refine zg_aload_n hC 0 dX8_propose_108 rfl ?_
    refine zg_get hC (k := 62) (v := .ref (ad 70)) ffX8_31 dX8_propose_109 zq62 zk62 rfl ?_
    refine zg_aload_n hC 0 dX8_propose_112 rfl ?_
    refine zg_get hC (k := 62) (v := .int (M22.1 62 7)) ffX8_116 dX8_propose_113 zq62 zk62 rfl ?_
    refine zg_iload_n hC 2 dX8_propose_116 rfl ?_
    refine zg_iast hC (k := 70) dX8_propose_117 zq70 zk70 (fun h23 M24 eM24 => ?_)
    refine zg_aload_n hC 0 dX8_propose_118 rfl ?_
    refine zg_get hC (k := 62) (v := .ref (ad 71)) ffX8_34 dX8_propose_119 zq62 zk62 rfl ?_
    refine zg_aload_n hC 0 dX8_propose_122 rfl ?_
    refine zg_get hC (k := 62) (v := .int (M24.1 62 7)) ffX8_116 dX8_propose_123 zq62 zk62 rfl ?_
    refine zg_iload_n hC 3 dX8_propose_126 rfl ?_
    refine zg_iast hC (k := 71) dX8_propose_127 zq71 zk71 (fun h25 M26 eM26 => ?_)
    refine zg_aload_n hC 0 dX8_propose_128 rfl ?_
    refine zg_get hC (k := 62) (v := .ref (ad 72)) ffX8_37 dX8_propose_129 zq62 zk62 rfl ?_
    refine zg_aload_n hC 0 dX8_propose_132 rfl ?_
    refine zg_get hC (k := 62) (v := .int (M26.1 62 7)) ffX8_116 dX8_propose_133 zq62 zk62 rfl ?_
    refine zg_iload hC 4 dX8_propose_136 rfl ?_
    refine zg_iast hC (k := 72) dX8_propose_138 zq72 zk72 (fun h27 M28 eM28 => ?_)
    refine zg_aload_n hC 0 dX8_propose_139 rfl ?_
    refine zg_get hC (k := 62) (v := .ref (ad 67)) ffX8_22 dX8_propose_140 zq62 zk62 rfl ?_
    refine zg_bipush hC (v := 20) dX8_propose_143 (by decide) ?_
    refine zg_iload_n hC 1 dX8_propose_145 rfl ?_
    refine zg_imul hC dX8_propose_146 ?_
    refine zg_aload_n hC 0 dX8_propose_147 rfl ?_
    refine zg_get hC (k := 62) (v := .ref (ad 68)) ffX8_25 dX8_propose_148 zq62 zk62 rfl ?_
    refine zg_iload_n hC 1 dX8_propose_151 rfl ?_
    refine zg_iald hC (k := 68) dX8_propose_152 zq68 zk68 (fun h29 => ?_)
    refine zg_iadd hC dX8_propose_153 ?_
    refine zg_aload_n hC 0 dX8_propose_154 rfl ?_
    refine zg_get hC (k := 62) (v := .int (M28.1 62 7)) ffX8_116 dX8_propose_155 zq62 zk62 rfl ?_
    refine zg_iast hC (k := 67) dX8_propose_158 zq67 zk67 (fun h30 M31 eM31 => ?_)
    refine zg_aload_n hC 0 dX8_propose_159 rfl ?_
    refine zg_get hC (k := 62) (v := .ref (ad 68)) ffX8_25 dX8_propose_160 zq62 zk62 rfl ?_
    refine zg_iload_n hC 1 dX8_propose_163 rfl ?_
    refine zg_dup2_11 hC dX8_propose_164 rfl rfl ?_
    refine zg_iald hC (k := 68) dX8_propose_165 zq68 zk68 (fun h32 => ?_)
    refine zg_iconst hC (v := 1) dX8_propose_166 (by decide) ?_
    refine zg_iadd hC dX8_propose_167 ?_
    refine zg_iast hC (k := 68) dX8_propose_168 zq68 zk68 (fun h33 M34 eM34 => ?_)
    refine zg_aload_n hC 0 dX8_propose_169 rfl ?_
    refine zg_dup hC dX8_propose_170 rfl ?_
    refine zg_get hC (k := 62) (v := .int (M34.1 62 7)) ffX8_116 dX8_propose_171 zq62 zk62 rfl ?_
    refine zg_iconst hC (v := 1) dX8_propose_174 (by decide) ?_
    refine zg_iadd hC dX8_propose_175 ?_
    refine zg_putI hC (k := 62) fpX8_116 dX8_propose_176 zq62 zk62 rfl (fun M35 eM35 => ?_)
    refine zg_aload_n hC 0 dX8_propose_179 rfl ?_
    refine zg_get hC (k := 62) (v := .int (M35.1 62 7)) ffX8_116 dX8_propose_180 zq62 zk62 rfl ?_
    refine zg_iconst hC (v := 1) dX8_propose_183 (by decide) ?_
    refine zg_isub hC dX8_propose_184 ?_
    exact zg_ret hC hE dX8_propose_185
  · refine zg_iconst hC (v := 0) dX8_propose_91 (by decide) ?_
    exact zg_ret hC hE dX8_propose_92
set_option maxRecDepth 20000 in
set_option maxHeartbeats 2000000 in
theorem gX8_propose_B76 {l : Launch} {Z : zZ} {ad : Nat → Nat} {d : Nat} {X : zX} {cs : Nat × Nat} (hC : zC l Z zfull ad X RX8 cX8_propose 5 (some .int) (d + 2)) (hE : zEnd Z zfull ad X false) (hN : zNoX X) (N : Nat) (v1 : Int32) (v2 : Int32) (v3 : Int32) (v4 : Int32) (M : zMem) : zG l Z zfull ad X cs 76 [(0, .ref (ad 62)), (1, .int v1), (2, .int v2), (3, .int v3), (4, .int v4)] [.ref (ad 62)] M (fX8_propose_B76 N v1 v2 v3 v4 M) := by
  unfold fX8_propose_B76
  refine zg_iconst hC (v := 3) dX8_propose_76 (by decide) ?_
  refine zg_goto hC (tgt := 81) dX8_propose_77 (by decide) ?_
  exact zg_sub [0, 1, 2, 3, 4] rfl (gX8_propose_B81 hC hE hN N v1 v2 v3 v4 3 M)
set_option maxRecDepth 20000 in
set_option maxHeartbeats 2000000 in
theorem gX8_propose_B42 {l : Launch} {Z : zZ} {ad : Nat → Nat} {d : Nat} {X : zX} {cs : Nat × Nat} (hC : zC l Z zfull ad X RX8 cX8_propose 5 (some .int) (d + 2)) (hE : zEnd Z zfull ad X false) (hN : zNoX X) (N : Nat) (v1 : Int32) (v2 : Int32) (v3 : Int32) (v4 : Int32) (M : zMem) : zG l Z zfull ad X cs 42 [(0, .ref (ad 62)), (1, .int v1), (2, .int v2), (3, .int v3), (4, .int v4)] [.ref (ad 62)] M (fX8_propose_B42 N v1 v2 v3 v4 M) := by
  unfold fX8_propose_B42
  refine zg_iconst hC (v := 2) dX8_propose_42 (by decide) ?_
  refine zg_goto hC (tgt := 81) dX8_propose_43 (by decide) ?_
  exact zg_sub [0, 1, 2, 3, 4] rfl (gX8_propose_B81 hC hE hN N v1 v2 v3 v4 2 M)
set_option maxRecDepth 20000 in
set_option maxHeartbeats 2000000 in
theorem gX8_propose_B17 {l : Launch} {Z : zZ} {ad : Nat → Nat} {d : Nat} {X : zX} {cs : Nat × Nat} (hC : zC l Z zfull ad X RX8 cX8_propose 5 (some .int) (d + 2)) (hE : zEnd Z zfull ad X false) (hN : zNoX X) (N : Nat) (v1 : Int32) (v2 : Int32) (v3 : Int32) (v4 : Int32) (M : zMem) : zG l Z zfull ad X cs 17 [(0, .ref (ad 62)), (1, .int v1), (2, .int v2), (3, .int v3), (4, .int v4)] [.ref (ad 62)] M (fX8_propose_B17 N v1 v2 v3 v4 M) := by
  unfold fX8_propose_B17
  refine zg_iconst hC (v := 1) dX8_propose_17 (by decide) ?_
  refine zg_goto hC (tgt := 81) dX8_propose_18 (by decide) ?_
  exact zg_sub [0, 1, 2, 3, 4] rfl (gX8_propose_B81 hC hE hN N v1 v2 v3 v4 1 M)
set_option maxRecDepth 20000 in
set_option maxHeartbeats 2000000 in
theorem gX8_propose_B0 {l : Launch} {Z : zZ} {ad : Nat → Nat} {d : Nat} {X : zX} {cs : Nat × Nat} (hC : zC l Z zfull ad X RX8 cX8_propose 5 (some .int) (d + 2)) (hE : zEnd Z zfull ad X false) (hN : zNoX X) (N : Nat) (p1 : Int32) (p2 : Int32) (p3 : Int32) (p4 : Int32) (M : zMem) : zG l Z zfull ad X cs 0 [(0, .ref (ad 62)), (1, .int p1), (2, .int p2), (3, .int p3), (4, .int p4)] [] M (fX8_propose N p1 p2 p3 p4 M) := by
  unfold fX8_propose
  refine zg_aload_n hC 0 dX8_propose_0 rfl ?_
  refine zg_iload_n hC 1 dX8_propose_1 rfl ?_
  refine zg_callSi hC hE hN (As := [.int p1]) (S := [.ref (ad 62)]) rfl (tX8_isBakery (zflag hC) d N p1 M) lkX8_93 rfl dX8_propose_2 (Nat.le_of_ble_eq_true rfl) (fun r1 M2 er1 => ?_)
  refine zg_if_eq hC (tgt := 17) dX8_propose_5 (by decide) (fun c3 => ?_) (fun c3 => ?_)
  · exact zg_sub [0, 1, 2, 3, 4] rfl (gX8_propose_B17 hC hE hN N p1 p2 p3 p4 M2)
  · refine zg_iload_n hC 2 dX8_propose_8 rfl ?_
    refine zg_iconst hC (v := 0) dX8_propose_9 (by decide) ?_
    refine zg_iconst hC (v := 5) dX8_propose_10 (by decide) ?_
    refine zg_callSi hC hE hN (As := [.int p2, .int 0, .int 5]) (S := [.ref (ad 62)]) rfl (tX8_in (zflag hC) (d + 1) N p2 0 5 M2) lkX8_86 rfl dX8_propose_11 (Nat.le_of_ble_eq_true rfl) (fun r4 M5 er4 => ?_)
    refine zg_if_ne hC (tgt := 21) dX8_propose_14 (by decide) (fun c6 => ?_) (fun c6 => ?_)
    · exact zg_sub [0, 1, 2, 3, 4] rfl (gX8_propose_B17 hC hE hN N p1 p2 p3 p4 M5)
    · refine zg_iload_n hC 3 dX8_propose_21 rfl ?_
      refine zg_iconst hC (v := 1) dX8_propose_22 (by decide) ?_
      refine zg_bipush hC (v := 9) dX8_propose_23 (by decide) ?_
      refine zg_callSi hC hE hN (As := [.int p3, .int 1, .int 9]) (S := [.ref (ad 62)]) rfl (tX8_in (zflag hC) (d + 1) N p3 1 9 M5) lkX8_86 rfl dX8_propose_25 (Nat.le_of_ble_eq_true rfl) (fun r7 M8 er7 => ?_)
      refine zg_if_eq hC (tgt := 42) dX8_propose_28 (by decide) (fun c9 => ?_) (fun c9 => ?_)
      · exact zg_sub [0, 1, 2, 3, 4] rfl (gX8_propose_B42 hC hE hN N p1 p2 p3 p4 M8)
      · refine zg_iload hC 4 dX8_propose_31 rfl ?_
        refine zg_iconst hC (v := 1) dX8_propose_33 (by decide) ?_
        refine zg_bipush hC (v := 40) dX8_propose_34 (by decide) ?_
        refine zg_callSi hC hE hN (As := [.int p4, .int 1, .int 40]) (S := [.ref (ad 62)]) rfl (tX8_in (zflag hC) (d + 1) N p4 1 40 M8) lkX8_86 rfl dX8_propose_36 (Nat.le_of_ble_eq_true rfl) (fun r10 M11 er10 => ?_)
        refine zg_if_ne hC (tgt := 46) dX8_propose_39 (by decide) (fun c12 => ?_) (fun c12 => ?_)
        · exact zg_sub [0, 1, 2, 3, 4] rfl (gX8_propose_B42 hC hE hN N p1 p2 p3 p4 M11)
        · refine zg_aload_n hC 0 dX8_propose_46 rfl ?_
          refine zg_get hC (k := 62) (v := .ref (ad 64)) ffX8_13 dX8_propose_47 zq62 zk62 rfl ?_
          refine zg_iload_n hC 1 dX8_propose_50 rfl ?_
          refine zg_iald hC (k := 64) dX8_propose_51 zq64 zk64 (fun h13 => ?_)
          refine zg_iconst hC (v := 2) dX8_propose_52 (by decide) ?_
          refine zg_icmp_ne hC (tgt := 76) dX8_propose_53 (by decide) (fun c14 => ?_) (fun c14 => ?_)
          · refine zg_aload_n hC 0 dX8_propose_56 rfl ?_
            refine zg_get hC (k := 62) (v := .ref (ad 68)) ffX8_25 dX8_propose_57 zq62 zk62 rfl ?_
            refine zg_iload_n hC 1 dX8_propose_60 rfl ?_
            refine zg_iald hC (k := 68) dX8_propose_61 zq68 zk68 (fun h15 => ?_)
            refine zg_bipush hC (v := 20) dX8_propose_62 (by decide) ?_
            refine zg_icmp_eq hC (tgt := 76) dX8_propose_64 (by decide) (fun c16 => ?_) (fun c16 => ?_)
            · exact zg_sub [0, 1, 2, 3, 4] rfl (gX8_propose_B76 hC hE hN N p1 p2 p3 p4 M11)
            · refine zg_aload_n hC 0 dX8_propose_67 rfl ?_
              refine zg_get hC (k := 62) (v := .int (M11.1 62 7)) ffX8_116 dX8_propose_68 zq62 zk62 rfl ?_
              refine zg_bipush hC (v := 60) dX8_propose_71 (by decide) ?_
              refine zg_icmp_ne hC (tgt := 80) dX8_propose_73 (by decide) (fun c17 => ?_) (fun c17 => ?_)
              · exact zg_sub [0, 1, 2, 3, 4] rfl (gX8_propose_B76 hC hE hN N p1 p2 p3 p4 M11)
              · refine zg_iconst hC (v := 0) dX8_propose_80 (by decide) ?_
                exact zg_sub [0, 1, 2, 3, 4] rfl (gX8_propose_B81 hC hE hN N p1 p2 p3 p4 0 M11)
          · exact zg_sub [0, 1, 2, 3, 4] rfl (gX8_propose_B76 hC hE hN N p1 p2 p3 p4 M11)
theorem tX8_propose {l : Launch} {Z : zZ} {ad : Nat → Nat} (hl : l.stackTraces = false) (d : Nat) (N : Nat) (p1 : Int32) (p2 : Int32) (p3 : Int32) (p4 : Int32) (M : zMem) : zT l Z zfull ad (.code yX8_propose cX8_propose 5 (some .int)) yX8_propose (d + 2) false zbn [.ref (ad 62), .int p1, .int p2, .int p3, .int p4] M (fX8_propose N p1 p2 p3 p4 M) :=
  zT_of hl (by decide +kernel) (Nat.le_of_ble_eq_true rfl) (fun X hC hE hN => gX8_propose_B0 hC hE hN N p1 p2 p3 p4 M)

def fX8_holdersOf_B47 (N : Nat) (again4 : Int32 → Int32 → Int32 → zMem → zRES) (v1 : Int32) (v3 : Int32) (s0 : Int32) (s1 : Int32) (M : zMem) : zRES :=
  zv (s0 ||| s1) fun x6 =>
  again4 v1 x6 (v3 + 1) M
def fX8_holdersOf_B46 (N : Nat) (again4 : Int32 → Int32 → Int32 → zMem → zRES) (v1 : Int32) (v3 : Int32) (s0 : Int32) (M : zMem) : zRES :=
  fX8_holdersOf_B47 N again4 v1 v3 s0 0 M
def fX8_holdersOf_B4 (N : Nat) : Nat → Int32 → Int32 → Int32 → zMem → zRES
  | 0, _, _, _, _ => none
  | n + 1, v1, v2, v3, M =>
  if (100 : Int32) ≤ v3 then
    some (.inl v2, M)
  else
    if zin (v3 / 20) 5 = true then
    if (M.1 68 (v3 / 20).toNatClampNeg) ≤ (v3 - v3 / 20 * 20) then
      fX8_holdersOf_B46 N (fX8_holdersOf_B4 N n) v1 v3 v2 M
    else
      if zin v3 100 = true then
      if (M.1 67 v3.toNatClampNeg) = v1 then
        fX8_holdersOf_B47 N (fX8_holdersOf_B4 N n) v1 v3 v2 ((1 : Int32) <<< ((v3 / 20) &&& 31)) M
      else
        fX8_holdersOf_B46 N (fX8_holdersOf_B4 N n) v1 v3 v2 M
      else none
    else none
def fX8_holdersOf (N : Nat) (p1 : Int32) (M : zMem) : zRES :=
  fX8_holdersOf_B4 N N p1 0 0 M
set_option maxRecDepth 20000 in
set_option maxHeartbeats 2000000 in
theorem gX8_holdersOf_B47 {l : Launch} {Z : zZ} {ad : Nat → Nat} {d : Nat} {X : zX} {cs : Nat × Nat} (hC : zC l Z zfull ad X RX8 cX8_holdersOf 4 (some .int) (d + 0)) (hE : zEnd Z zfull ad X false) (hN : zNoX X) (N : Nat) {again4 : Int32 → Int32 → Int32 → zMem → zRES} (hag4 : ∀ v1 v2 v3 M, zG l Z zfull ad X cs 4 [(0, .ref (ad 62)), (1, .int v1), (2, .int v2), (3, .int v3)] [] M (again4 v1 v2 v3 M)) (v1 : Int32) (v3 : Int32) (s0 : Int32) (s1 : Int32) (M : zMem) : zG l Z zfull ad X cs 47 [(0, .ref (ad 62)), (1, .int v1), (3, .int v3)] [.int s1, .int s0] M (fX8_holdersOf_B47 N again4 v1 v3 s0 s1 M) := by
  unfold fX8_holdersOf_B47
  refine zg_ior hC dX8_holdersOf_47 ?_
  refine zg_nm (fun x6 ex6 => ?_)
  refine zg_istore_n hC (L' := [(2, _), (0, _), (1, _), (3, _)]) dX8_holdersOf_48 (by decide) rfl ?_
  refine zg_iinc hC 3 (v := v3 + 1) (L' := [(3, _), (2, _), (0, _), (1, _)]) dX8_holdersOf_49 rfl (by rfl) (by decide) rfl ?_
  refine zg_goto hC (tgt := 4) dX8_holdersOf_52 (by decide) ?_
  exact zg_sub [2, 3, 1, 0] rfl (hag4 v1 x6 (v3 + 1) M)
set_option maxRecDepth 20000 in
set_option maxHeartbeats 2000000 in
theorem gX8_holdersOf_B46 {l : Launch} {Z : zZ} {ad : Nat → Nat} {d : Nat} {X : zX} {cs : Nat × Nat} (hC : zC l Z zfull ad X RX8 cX8_holdersOf 4 (some .int) (d + 0)) (hE : zEnd Z zfull ad X false) (hN : zNoX X) (N : Nat) {again4 : Int32 → Int32 → Int32 → zMem → zRES} (hag4 : ∀ v1 v2 v3 M, zG l Z zfull ad X cs 4 [(0, .ref (ad 62)), (1, .int v1), (2, .int v2), (3, .int v3)] [] M (again4 v1 v2 v3 M)) (v1 : Int32) (v3 : Int32) (s0 : Int32) (M : zMem) : zG l Z zfull ad X cs 46 [(0, .ref (ad 62)), (1, .int v1), (3, .int v3)] [.int s0] M (fX8_holdersOf_B46 N again4 v1 v3 s0 M) := by
  unfold fX8_holdersOf_B46
  refine zg_iconst hC (v := 0) dX8_holdersOf_46 (by decide) ?_
  exact zg_sub [0, 1, 2] rfl (gX8_holdersOf_B47 hC hE hN N hag4 v1 v3 s0 0 M)
set_option maxRecDepth 20000 in
set_option maxHeartbeats 2000000 in
theorem gX8_holdersOf_B4 {l : Launch} {Z : zZ} {ad : Nat → Nat} {d : Nat} {X : zX} {cs : Nat × Nat} (hC : zC l Z zfull ad X RX8 cX8_holdersOf 4 (some .int) (d + 0)) (hE : zEnd Z zfull ad X false) (hN : zNoX X) (N : Nat) : ∀ (n : Nat) (v1 : Int32) (v2 : Int32) (v3 : Int32) (M : zMem), zG l Z zfull ad X cs 4 [(0, .ref (ad 62)), (1, .int v1), (2, .int v2), (3, .int v3)] [] M (fX8_holdersOf_B4 N n v1 v2 v3 M) := by
  intro n
  induction n with
  | zero =>
    intro v1 v2 v3 M
    exact zg_none
  | succ n ih =>
  intro v1 v2 v3 M
  rw [fX8_holdersOf_B4]
  refine zg_iload_n hC 3 dX8_holdersOf_4 rfl ?_
  refine zg_bipush hC (v := 100) dX8_holdersOf_5 (by decide) ?_
  refine zg_icmp_ge hC (tgt := 55) dX8_holdersOf_7 (by decide) (fun c1 => ?_) (fun c1 => ?_)
  · refine zg_iload_n hC 2 dX8_holdersOf_55 rfl ?_
    exact zg_ret hC hE dX8_holdersOf_56
  · refine zg_iload_n hC 2 dX8_holdersOf_10 rfl ?_
    refine zg_iload_n hC 3 dX8_holdersOf_11 rfl ?_
    refine zg_bipush hC (v := 20) dX8_holdersOf_12 (by decide) ?_
    refine zg_irem hC dX8_holdersOf_14 (by decide) ?_
    refine zg_aload_n hC 0 dX8_holdersOf_15 rfl ?_
    refine zg_get hC (k := 62) (v := .ref (ad 68)) ffX8_25 dX8_holdersOf_16 zq62 zk62 rfl ?_
    refine zg_iload_n hC 3 dX8_holdersOf_19 rfl ?_
    refine zg_bipush hC (v := 20) dX8_holdersOf_20 (by decide) ?_
    refine zg_idiv hC dX8_holdersOf_22 (by decide) ?_
    refine zg_iald hC (k := 68) dX8_holdersOf_23 zq68 zk68 (fun h2 => ?_)
    refine zg_icmp_ge hC (tgt := 46) dX8_holdersOf_24 (by decide) (fun c3 => ?_) (fun c3 => ?_)
    · exact zg_sub [0, 1, 3] rfl (gX8_holdersOf_B46 hC hE hN N ih v1 v3 v2 M)
    · refine zg_aload_n hC 0 dX8_holdersOf_27 rfl ?_
      refine zg_get hC (k := 62) (v := .ref (ad 67)) ffX8_22 dX8_holdersOf_28 zq62 zk62 rfl ?_
      refine zg_iload_n hC 3 dX8_holdersOf_31 rfl ?_
      refine zg_iald hC (k := 67) dX8_holdersOf_32 zq67 zk67 (fun h4 => ?_)
      refine zg_iload_n hC 1 dX8_holdersOf_33 rfl ?_
      refine zg_icmp_ne hC (tgt := 46) dX8_holdersOf_34 (by decide) (fun c5 => ?_) (fun c5 => ?_)
      · refine zg_iconst hC (v := 1) dX8_holdersOf_37 (by decide) ?_
        refine zg_iload_n hC 3 dX8_holdersOf_38 rfl ?_
        refine zg_bipush hC (v := 20) dX8_holdersOf_39 (by decide) ?_
        refine zg_idiv hC dX8_holdersOf_41 (by decide) ?_
        refine zg_ishl hC dX8_holdersOf_42 ?_
        refine zg_goto hC (tgt := 47) dX8_holdersOf_43 (by decide) ?_
        exact zg_sub [0, 1, 3] rfl (gX8_holdersOf_B47 hC hE hN N ih v1 v3 v2 ((1 : Int32) <<< ((v3 / 20) &&& 31)) M)
      · exact zg_sub [0, 1, 3] rfl (gX8_holdersOf_B46 hC hE hN N ih v1 v3 v2 M)
set_option maxRecDepth 20000 in
set_option maxHeartbeats 2000000 in
theorem gX8_holdersOf_B0 {l : Launch} {Z : zZ} {ad : Nat → Nat} {d : Nat} {X : zX} {cs : Nat × Nat} (hC : zC l Z zfull ad X RX8 cX8_holdersOf 4 (some .int) (d + 0)) (hE : zEnd Z zfull ad X false) (hN : zNoX X) (N : Nat) (p1 : Int32) (M : zMem) : zG l Z zfull ad X cs 0 [(0, .ref (ad 62)), (1, .int p1)] [] M (fX8_holdersOf N p1 M) := by
  unfold fX8_holdersOf
  refine zg_iconst hC (v := 0) dX8_holdersOf_0 (by decide) ?_
  refine zg_istore_n hC (L' := [(2, _), (0, _), (1, _)]) dX8_holdersOf_1 (by decide) rfl ?_
  refine zg_iconst hC (v := 0) dX8_holdersOf_2 (by decide) ?_
  refine zg_istore_n hC (L' := [(3, _), (2, _), (0, _), (1, _)]) dX8_holdersOf_3 (by decide) rfl ?_
  exact zg_sub [2, 3, 1, 0] rfl (gX8_holdersOf_B4 hC hE hN N N p1 0 0 M)
theorem tX8_holdersOf {l : Launch} {Z : zZ} {ad : Nat → Nat} (hl : l.stackTraces = false) (d : Nat) (N : Nat) (p1 : Int32) (M : zMem) : zT l Z zfull ad (.code yX8_holdersOf cX8_holdersOf 4 (some .int)) yX8_holdersOf (d + 0) false zbn [.ref (ad 62), .int p1] M (fX8_holdersOf N p1 M) :=
  zT_of hl (by decide +kernel) (Nat.le_of_ble_eq_true rfl) (fun X hC hE hN => gX8_holdersOf_B0 hC hE hN N p1 M)

def fX8_isHeldNow_B11 (N : Nat) : Nat → Int32 → Int32 → Int32 → zMem → zRES
  | 0, _, _, _, _ => none
  | n + 1, v2, v3, v4, M =>
  if (5 : Int32) ≤ v4 then
    if v3 < 3 then
      some (.inl 0, M)
    else
      some (.inl 1, M)
  else
    zv (v3 + ((v2 >>> (v4 &&& 31)) &&& 1)) fun x5 =>
    fX8_isHeldNow_B11 N n v2 x5 (v4 + 1) M
def fX8_isHeldNow (N : Nat) (p1 : Int32) (M : zMem) : zRES :=
  zb (fX8_holdersOf N p1 M) fun r1 M2 =>
  fX8_isHeldNow_B11 N N r1 0 0 M2
set_option maxRecDepth 20000 in
set_option maxHeartbeats 2000000 in
theorem gX8_isHeldNow_B11 {l : Launch} {Z : zZ} {ad : Nat → Nat} {d : Nat} {X : zX} {cs : Nat × Nat} (hC : zC l Z zfull ad X RX8 cX8_isHeldNow 5 (some .boolean) (d + 1)) (hE : zEnd Z zfull ad X false) (hN : zNoX X) (N : Nat) : ∀ (n : Nat) (v2 : Int32) (v3 : Int32) (v4 : Int32) (M : zMem), zG l Z zfull ad X cs 11 [(2, .int v2), (3, .int v3), (4, .int v4)] [] M (fX8_isHeldNow_B11 N n v2 v3 v4 M) := by
  intro n
  induction n with
  | zero =>
    intro v2 v3 v4 M
    exact zg_none
  | succ n ih =>
  intro v2 v3 v4 M
  rw [fX8_isHeldNow_B11]
  refine zg_iload hC 2 dX8_isHeldNow_11 rfl ?_
  refine zg_iconst hC (v := 5) dX8_isHeldNow_13 (by decide) ?_
  refine zg_icmp_ge hC (tgt := 32) dX8_isHeldNow_14 (by decide) (fun c3 => ?_) (fun c3 => ?_)
  · refine zg_iload_n hC 1 dX8_isHeldNow_32 rfl ?_
    refine zg_iconst hC (v := 3) dX8_isHeldNow_33 (by decide) ?_
    refine zg_icmp_lt hC (tgt := 41) dX8_isHeldNow_34 (by decide) (fun c4 => ?_) (fun c4 => ?_)
    · refine zg_iconst hC (v := 0) dX8_isHeldNow_41 (by decide) ?_
      exact zg_retz hC hE (by decide) dX8_isHeldNow_42
    · refine zg_iconst hC (v := 1) dX8_isHeldNow_37 (by decide) ?_
      refine zg_goto hC (tgt := 42) dX8_isHeldNow_38 (by decide) ?_
      exact zg_retz hC hE (by decide) dX8_isHeldNow_42
  · refine zg_iload_n hC 1 dX8_isHeldNow_17 rfl ?_
    refine zg_iload_n hC 0 dX8_isHeldNow_18 rfl ?_
    refine zg_iload hC 2 dX8_isHeldNow_19 rfl ?_
    refine zg_ishr hC dX8_isHeldNow_21 ?_
    refine zg_iconst hC (v := 1) dX8_isHeldNow_22 (by decide) ?_
    refine zg_iand hC dX8_isHeldNow_23 ?_
    refine zg_iadd hC dX8_isHeldNow_24 ?_
    refine zg_nm (fun x5 ex5 => ?_)
    refine zg_istore_n hC (L' := [(3, _), (2, _), (4, _)]) dX8_isHeldNow_25 (by decide) rfl ?_
    refine zg_iinc hC 2 (v := v4 + 1) (L' := [(4, _), (3, _), (2, _)]) dX8_isHeldNow_26 rfl (by rfl) (by decide) rfl ?_
    refine zg_goto hC (tgt := 11) dX8_isHeldNow_29 (by decide) ?_
    exact zg_sub [2, 1, 0] rfl (ih v2 x5 (v4 + 1) M)
set_option maxRecDepth 20000 in
set_option maxHeartbeats 2000000 in
theorem gX8_isHeldNow_B0 {l : Launch} {Z : zZ} {ad : Nat → Nat} {d : Nat} {X : zX} {cs : Nat × Nat} (hC : zC l Z zfull ad X RX8 cX8_isHeldNow 5 (some .boolean) (d + 1)) (hE : zEnd Z zfull ad X false) (hN : zNoX X) (N : Nat) (p1 : Int32) (M : zMem) : zG l Z zfull ad X cs 0 [(0, .ref (ad 62)), (1, .int p1)] [] M (fX8_isHeldNow N p1 M) := by
  unfold fX8_isHeldNow
  refine zg_aload_n hC 0 dX8_isHeldNow_0 rfl ?_
  refine zg_iload_n hC 1 dX8_isHeldNow_1 rfl ?_
  refine zg_callVi hC hE hN (k := 62) (As := [.int p1]) (S := []) rfl (tX8_holdersOf (zflag hC) d N p1 M) lkX8_119 rfl dX8_isHeldNow_2 zq62 zk62 rfl rfl (Nat.le_of_ble_eq_true rfl) (fun r1 M2 er1 => ?_)
  refine zg_istore_n hC (L' := [(2, _), (0, _), (1, _)]) dX8_isHeldNow_5 (by decide) rfl ?_
  refine zg_iconst hC (v := 0) dX8_isHeldNow_6 (by decide) ?_
  refine zg_istore_n hC (L' := [(3, _), (2, _), (0, _), (1, _)]) dX8_isHeldNow_7 (by decide) rfl ?_
  refine zg_iconst hC (v := 0) dX8_isHeldNow_8 (by decide) ?_
  refine zg_istore hC (L' := [(4, _), (3, _), (2, _), (0, _), (1, _)]) dX8_isHeldNow_9 (by decide) rfl ?_
  exact zg_sub [2, 1, 0] rfl (gX8_isHeldNow_B11 hC hE hN N N r1 0 0 M2)
theorem tX8_isHeldNow {l : Launch} {Z : zZ} {ad : Nat → Nat} (hl : l.stackTraces = false) (d : Nat) (N : Nat) (p1 : Int32) (M : zMem) : zT l Z zfull ad (.code yX8_isHeldNow cX8_isHeldNow 5 (some .boolean)) yX8_isHeldNow (d + 1) false zbn [.ref (ad 62), .int p1] M (fX8_isHeldNow N p1 M) :=
  zT_of hl (by decide +kernel) (Nat.le_of_ble_eq_true rfl) (fun X hC hE hN => gX8_isHeldNow_B0 hC hE hN N p1 M)

def fX8_callsBack_B51 (N : Nat) (v1 : Int32) (v3 : Int32) (M : zMem) : zRES :=
  if zin v1 60 = true then
  zl (zsI M 83 v1.toNatClampNeg 0) fun M12 =>
  some (.inl v3, M12)
  else none
def fX8_callsBack (N : Nat) (p1 : Int32) (p2 : Int32) (M : zMem) : zRES :=
  if zin p1 60 = true then
  zv (M.1 83 p1.toNatClampNeg) fun x2 =>
  if x2 ≤ 0 then
    fX8_callsBack_B51 N p1 x2 M
  else
    if zin (M.1 62 26) 2400 = true then
    zl (zsI M 84 (M.1 62 26).toNatClampNeg p1) fun M5 =>
    if zin (M5.1 62 26) 2400 = true then
    zl (zsI M5 85 (M5.1 62 26).toNatClampNeg x2) fun M7 =>
    if zin (M7.1 62 26) 2400 = true then
    zl (zsI M7 86 (M7.1 62 26).toNatClampNeg p2) fun M9 =>
    zl (zsI M9 62 26 ((M9.1 62 26) + 1)) fun M10 =>
    fX8_callsBack_B51 N p1 x2 M10
    else none
    else none
    else none
  else none
set_option maxRecDepth 20000 in
set_option maxHeartbeats 2000000 in
theorem gX8_callsBack_B51 {l : Launch} {Z : zZ} {ad : Nat → Nat} {d : Nat} {X : zX} {cs : Nat × Nat} (hC : zC l Z zfull ad X RX8 cX8_callsBack 4 (some .int) (d + 0)) (hE : zEnd Z zfull ad X false) (hN : zNoX X) (N : Nat) (v1 : Int32) (v3 : Int32) (M : zMem) : zG l Z zfull ad X cs 51 [(0, .ref (ad 62)), (1, .int v1), (3, .int v3)] [] M (fX8_callsBack_B51 N v1 v3 M) := by
  unfold fX8_callsBack_B51
  refine zg_aload_n hC 0 dX8_callsBack_51 rfl ?_
  refine zg_get hC (k := 62) (v := .ref (ad 83)) ffX8_70 dX8_callsBack_52 zq62 zk62 rfl ?_
  refine zg_iload_n hC 1 dX8_callsBack_55 rfl ?_
  refine zg_iconst hC (v := 0) dX8_callsBack_56 (by decide) ?_
  refine zg_iast hC (k := 83) dX8_callsBack_57 zq83 zk83 (fun h11 M12 eM12 => ?_)
  refine zg_iload_n hC 2 dX8_callsBack_58 rfl ?_
  exact zg_ret hC hE dX8_callsBack_59
set_option maxRecDepth 20000 in
set_option maxHeartbeats 2000000 in
theorem gX8_callsBack_B0 {l : Launch} {Z : zZ} {ad : Nat → Nat} {d : Nat} {X : zX} {cs : Nat × Nat} (hC : zC l Z zfull ad X RX8 cX8_callsBack 4 (some .int) (d + 0)) (hE : zEnd Z zfull ad X false) (hN : zNoX X) (N : Nat) (p1 : Int32) (p2 : Int32) (M : zMem) : zG l Z zfull ad X cs 0 [(0, .ref (ad 62)), (1, .int p1), (2, .int p2)] [] M (fX8_callsBack N p1 p2 M) := by
  unfold fX8_callsBack
  refine zg_aload_n hC 0 dX8_callsBack_0 rfl ?_
  refine zg_get hC (k := 62) (v := .ref (ad 83)) ffX8_70 dX8_callsBack_1 zq62 zk62 rfl ?_
  refine zg_iload_n hC 1 dX8_callsBack_4 rfl ?_
  refine zg_iald hC (k := 83) dX8_callsBack_5 zq83 zk83 (fun h1 => ?_)
  refine zg_nm (fun x2 ex2 => ?_)
  refine zg_istore_n hC (L' := [(3, _), (0, _), (1, _), (2, _)]) dX8_callsBack_6 (by decide) rfl ?_
  refine zg_iload_n hC 0 dX8_callsBack_7 rfl ?_
  refine zg_if_le hC (tgt := 51) dX8_callsBack_8 (by decide) (fun c3 => ?_) (fun c3 => ?_)
  · exact zg_sub [1, 2, 0] rfl (gX8_callsBack_B51 hC hE hN N p1 x2 M)
  · refine zg_aload_n hC 1 dX8_callsBack_11 rfl ?_
    refine zg_get hC (k := 62) (v := .ref (ad 84)) ffX8_73 dX8_callsBack_12 zq62 zk62 rfl ?_
    refine zg_aload_n hC 1 dX8_callsBack_15 rfl ?_
    refine zg_get hC (k := 62) (v := .int (M.1 62 26)) ffX8_122 dX8_callsBack_16 zq62 zk62 rfl ?_
    refine zg_iload_n hC 2 dX8_callsBack_19 rfl ?_
    refine zg_iast hC (k := 84) dX8_callsBack_20 zq84 zk84 (fun h4 M5 eM5 => ?_)
    refine zg_aload_n hC 1 dX8_callsBack_21 rfl ?_
    refine zg_get hC (k := 62) (v := .ref (ad 85)) ffX8_76 dX8_callsBack_22 zq62 zk62 rfl ?_
    refine zg_aload_n hC 1 dX8_callsBack_25 rfl ?_
    refine zg_get hC (k := 62) (v := .int (M5.1 62 26)) ffX8_122 dX8_callsBack_26 zq62 zk62 rfl ?_
    refine zg_iload_n hC 0 dX8_callsBack_29 rfl ?_
    refine zg_iast hC (k := 85) dX8_callsBack_30 zq85 zk85 (fun h6 M7 eM7 => ?_)
    refine zg_aload_n hC 1 dX8_callsBack_31 rfl ?_
    refine zg_get hC (k := 62) (v := .ref (ad 86)) ffX8_79 dX8_callsBack_32 zq62 zk62 rfl ?_
    refine zg_aload_n hC 1 dX8_callsBack_35 rfl ?_
    refine zg_get hC (k := 62) (v := .int (M7.1 62 26)) ffX8_122 dX8_callsBack_36 zq62 zk62 rfl ?_
    refine zg_iload_n hC 3 dX8_callsBack_39 rfl ?_
    refine zg_iast hC (k := 86) dX8_callsBack_40 zq86 zk86 (fun h8 M9 eM9 => ?_)
    refine zg_aload_n hC 1 dX8_callsBack_41 rfl ?_
    refine zg_dup hC dX8_callsBack_42 rfl ?_
    refine zg_get hC (k := 62) (v := .int (M9.1 62 26)) ffX8_122 dX8_callsBack_43 zq62 zk62 rfl ?_
    refine zg_iconst hC (v := 1) dX8_callsBack_46 (by decide) ?_
    refine zg_iadd hC dX8_callsBack_47 ?_
    refine zg_putI hC (k := 62) fpX8_122 dX8_callsBack_48 zq62 zk62 rfl (fun M10 eM10 => ?_)
    exact zg_sub [1, 2, 0] rfl (gX8_callsBack_B51 hC hE hN N p1 x2 M10)
theorem tX8_callsBack {l : Launch} {Z : zZ} {ad : Nat → Nat} (hl : l.stackTraces = false) (d : Nat) (N : Nat) (p1 : Int32) (p2 : Int32) (M : zMem) : zT l Z zfull ad (.code yX8_callsBack cX8_callsBack 4 (some .int)) yX8_callsBack (d + 0) false zbn [.ref (ad 62), .int p1, .int p2] M (fX8_callsBack N p1 p2 M) :=
  zT_of hl (by decide +kernel) (Nat.le_of_ble_eq_true rfl) (fun X hC hE hN => gX8_callsBack_B0 hC hE hN N p1 p2 M)

def fX8_callsBackVersions_B83 (N : Nat) (again2 : Int32 → zMem → zRES) (v1 : Int32) (M : zMem) : zRES :=
  again2 (v1 + 1) M
def fX8_callsBackVersions_B77 (N : Nat) (again2 : Int32 → zMem → zRES) (again38 : Int32 → Int32 → Int32 → zMem → zRES) (v1 : Int32) (v2 : Int32) (v3 : Int32) (M : zMem) : zRES :=
  again38 v1 v2 (v3 + 1) M
def fX8_callsBackVersions_B38 (N : Nat) (again2 : Int32 → zMem → zRES) : Nat → Int32 → Int32 → Int32 → zMem → zRES
  | 0, _, _, _, _ => none
  | n + 1, v1, v2, v3, M =>
  if (M.1 62 21) ≤ v3 then
    fX8_callsBackVersions_B83 N again2 v1 M
  else
    if zin v1 60 = true then
    if (M.1 74 v1.toNatClampNeg) = 1 then
      if v2 = 0 then
        if zin v3 60 = true then
        if (M.1 80 v3.toNatClampNeg) = v1 then
          zb (fX8_callsBack N v3 1 M) fun r14 M15 =>
          fX8_callsBackVersions_B77 N again2 (fX8_callsBackVersions_B38 N again2 n) v1 v2 v3 M15
        else
          fX8_callsBackVersions_B77 N again2 (fX8_callsBackVersions_B38 N again2 n) v1 v2 v3 M
        else none
      else
        fX8_callsBackVersions_B83 N again2 v1 M
    else
      fX8_callsBackVersions_B83 N again2 v1 M
    else none
def fX8_callsBackVersions_B35 (N : Nat) (again2 : Int32 → zMem → zRES) (v1 : Int32) (v2 : Int32) (s1 : Int32) (s2 : Int32) (M : zMem) : zRES :=
  if zin s1 60 = true then
  zl (zsI M 73 s1.toNatClampNeg s2) fun M7 =>
  fX8_callsBackVersions_B38 N again2 N v1 v2 0 M7
  else none
def fX8_callsBackVersions_B2 (N : Nat) : Nat → Int32 → zMem → zRES
  | 0, _, _ => none
  | n + 1, v1, M =>
  if (M.1 62 7) ≤ v1 then
    some (.inl 0, M)
  else
    zb (fX8_isHeldNow N v1 M) fun r2 M3 =>
    if r2 = 0 then
      if zin v1 60 = true then
      fX8_callsBackVersions_B35 N (fX8_callsBackVersions_B2 N n) v1 r2 v1 (M3.1 73 v1.toNatClampNeg) M3
      else none
    else
      fX8_callsBackVersions_B35 N (fX8_callsBackVersions_B2 N n) v1 r2 v1 1 M3
def fX8_callsBackVersions (N : Nat) (M : zMem) : zRES :=
  fX8_callsBackVersions_B2 N N 0 M
set_option maxRecDepth 20000 in
set_option maxHeartbeats 2000000 in
theorem gX8_callsBackVersions_B83 {l : Launch} {Z : zZ} {ad : Nat → Nat} {d : Nat} {X : zX} {cs : Nat × Nat} (hC : zC l Z zfull ad X RX8 cX8_callsBackVersions 4 none (d + 2)) (hE : zEnd Z zfull ad X true) (hN : zNoX X) (N : Nat) {again2 : Int32 → zMem → zRES} (hag2 : ∀ v1 M, zG l Z zfull ad X cs 2 [(0, .ref (ad 62)), (1, .int v1)] [] M (again2 v1 M)) (v1 : Int32) (M : zMem) : zG l Z zfull ad X cs 83 [(0, .ref (ad 62)), (1, .int v1)] [] M (fX8_callsBackVersions_B83 N again2 v1 M) := by
  unfold fX8_callsBackVersions_B83
  refine zg_iinc hC 1 (v := v1 + 1) (L' := [(1, _), (0, _)]) dX8_callsBackVersions_83 rfl (by rfl) (by decide) rfl ?_
  refine zg_goto hC (tgt := 2) dX8_callsBackVersions_86 (by decide) ?_
  exact zg_sub [1, 0] rfl (hag2 (v1 + 1) M)
set_option maxRecDepth 20000 in
set_option maxHeartbeats 2000000 in
theorem gX8_callsBackVersions_B77 {l : Launch} {Z : zZ} {ad : Nat → Nat} {d : Nat} {X : zX} {cs : Nat × Nat} (hC : zC l Z zfull ad X RX8 cX8_callsBackVersions 4 none (d + 2)) (hE : zEnd Z zfull ad X true) (hN : zNoX X) (N : Nat) {again2 : Int32 → zMem → zRES} (hag2 : ∀ v1 M, zG l Z zfull ad X cs 2 [(0, .ref (ad 62)), (1, .int v1)] [] M (again2 v1 M)) {again38 : Int32 → Int32 → Int32 → zMem → zRES} (hag38 : ∀ v1 v2 v3 M, zG l Z zfull ad X cs 38 [(0, .ref (ad 62)), (1, .int v1), (2, .int v2), (3, .int v3)] [] M (again38 v1 v2 v3 M)) (v1 : Int32) (v2 : Int32) (v3 : Int32) (M : zMem) : zG l Z zfull ad X cs 77 [(0, .ref (ad 62)), (1, .int v1), (2, .int v2), (3, .int v3)] [] M (fX8_callsBackVersions_B77 N again2 again38 v1 v2 v3 M) := by
  unfold fX8_callsBackVersions_B77
  refine zg_iinc hC 3 (v := v3 + 1) (L' := [(3, _), (0, _), (1, _), (2, _)]) dX8_callsBackVersions_77 rfl (by rfl) (by decide) rfl ?_
  refine zg_goto hC (tgt := 38) dX8_callsBackVersions_80 (by decide) ?_
  exact zg_sub [1, 2, 3, 0] rfl (hag38 v1 v2 (v3 + 1) M)
set_option maxRecDepth 20000 in
set_option maxHeartbeats 2000000 in
theorem gX8_callsBackVersions_B38 {l : Launch} {Z : zZ} {ad : Nat → Nat} {d : Nat} {X : zX} {cs : Nat × Nat} (hC : zC l Z zfull ad X RX8 cX8_callsBackVersions 4 none (d + 2)) (hE : zEnd Z zfull ad X true) (hN : zNoX X) (N : Nat) {again2 : Int32 → zMem → zRES} (hag2 : ∀ v1 M, zG l Z zfull ad X cs 2 [(0, .ref (ad 62)), (1, .int v1)] [] M (again2 v1 M)) : ∀ (n : Nat) (v1 : Int32) (v2 : Int32) (v3 : Int32) (M : zMem), zG l Z zfull ad X cs 38 [(0, .ref (ad 62)), (1, .int v1), (2, .int v2), (3, .int v3)] [] M (fX8_callsBackVersions_B38 N again2 n v1 v2 v3 M) := by
  intro n
  induction n with
  | zero =>
    intro v1 v2 v3 M
    exact zg_none
  | succ n ih =>
  intro v1 v2 v3 M
  rw [fX8_callsBackVersions_B38]
  refine zg_iload_n hC 3 dX8_callsBackVersions_38 rfl ?_
  refine zg_aload_n hC 0 dX8_callsBackVersions_39 rfl ?_
  refine zg_get hC (k := 62) (v := .int (M.1 62 21)) ffX8_128 dX8_callsBackVersions_40 zq62 zk62 rfl ?_
  refine zg_icmp_ge hC (tgt := 83) dX8_callsBackVersions_43 (by decide) (fun c8 => ?_) (fun c8 => ?_)
  · exact zg_sub [0, 1] rfl (gX8_callsBackVersions_B83 hC hE hN N hag2 v1 M)
  · refine zg_aload_n hC 0 dX8_callsBackVersions_46 rfl ?_
    refine zg_get hC (k := 62) (v := .ref (ad 74)) ffX8_43 dX8_callsBackVersions_47 zq62 zk62 rfl ?_
    refine zg_iload_n hC 1 dX8_callsBackVersions_50 rfl ?_
    refine zg_iald hC (k := 74) dX8_callsBackVersions_51 zq74 zk74 (fun h9 => ?_)
    refine zg_iconst hC (v := 1) dX8_callsBackVersions_52 (by decide) ?_
    refine zg_icmp_ne hC (tgt := 83) dX8_callsBackVersions_53 (by decide) (fun c10 => ?_) (fun c10 => ?_)
    · refine zg_iload_n hC 2 dX8_callsBackVersions_56 rfl ?_
      refine zg_if_ne hC (tgt := 83) dX8_callsBackVersions_57 (by decide) (fun c11 => ?_) (fun c11 => ?_)
      · refine zg_aload_n hC 0 dX8_callsBackVersions_60 rfl ?_
        refine zg_get hC (k := 62) (v := .ref (ad 80)) ffX8_61 dX8_callsBackVersions_61 zq62 zk62 rfl ?_
        refine zg_iload_n hC 3 dX8_callsBackVersions_64 rfl ?_
        refine zg_iald hC (k := 80) dX8_callsBackVersions_65 zq80 zk80 (fun h12 => ?_)
        refine zg_iload_n hC 1 dX8_callsBackVersions_66 rfl ?_
        refine zg_icmp_ne hC (tgt := 77) dX8_callsBackVersions_67 (by decide) (fun c13 => ?_) (fun c13 => ?_)
        · refine zg_aload_n hC 0 dX8_callsBackVersions_70 rfl ?_
          refine zg_iload_n hC 3 dX8_callsBackVersions_71 rfl ?_
          refine zg_iconst hC (v := 1) dX8_callsBackVersions_72 (by decide) ?_
          refine zg_callVi hC hE hN (k := 62) (As := [.int v3, .int 1]) (S := []) rfl (tX8_callsBack (zflag hC) (d + 1) N v3 1 M) lkX8_131 rfl dX8_callsBackVersions_73 zq62 zk62 rfl rfl (Nat.le_of_ble_eq_true rfl) (fun r14 M15 er14 => ?_)
          refine zg_pop hC dX8_callsBackVersions_76 rfl ?_
          exact zg_sub [0, 1, 2, 3] rfl (gX8_callsBackVersions_B77 hC hE hN N hag2 ih v1 v2 v3 M15)
        · exact zg_sub [0, 1, 2, 3] rfl (gX8_callsBackVersions_B77 hC hE hN N hag2 ih v1 v2 v3 M)
      · exact zg_sub [0, 1] rfl (gX8_callsBackVersions_B83 hC hE hN N hag2 v1 M)
    · exact zg_sub [0, 1] rfl (gX8_callsBackVersions_B83 hC hE hN N hag2 v1 M)
set_option maxRecDepth 20000 in
set_option maxHeartbeats 2000000 in
theorem gX8_callsBackVersions_B35 {l : Launch} {Z : zZ} {ad : Nat → Nat} {d : Nat} {X : zX} {cs : Nat × Nat} (hC : zC l Z zfull ad X RX8 cX8_callsBackVersions 4 none (d + 2)) (hE : zEnd Z zfull ad X true) (hN : zNoX X) (N : Nat) {again2 : Int32 → zMem → zRES} (hag2 : ∀ v1 M, zG l Z zfull ad X cs 2 [(0, .ref (ad 62)), (1, .int v1)] [] M (again2 v1 M)) (v1 : Int32) (v2 : Int32) (s1 : Int32) (s2 : Int32) (M : zMem) : zG l Z zfull ad X cs 35 [(0, .ref (ad 62)), (1, .int v1), (2, .int v2)] [.int s2, .int s1, .ref (ad 73)] M (fX8_callsBackVersions_B35 N again2 v1 v2 s1 s2 M) := by
  unfold fX8_callsBackVersions_B35
  refine zg_iast hC (k := 73) dX8_callsBackVersions_35 zq73 zk73 (fun h6 M7 eM7 => ?_)
  refine zg_iconst hC (v := 0) dX8_callsBackVersions_36 (by decide) ?_
  refine zg_istore_n hC (L' := [(3, _), (0, _), (1, _), (2, _)]) dX8_callsBackVersions_37 (by decide) rfl ?_
  exact zg_sub [1, 2, 3, 0] rfl (gX8_callsBackVersions_B38 hC hE hN N hag2 N v1 v2 0 M7)
set_option maxRecDepth 20000 in
set_option maxHeartbeats 2000000 in
theorem gX8_callsBackVersions_B2 {l : Launch} {Z : zZ} {ad : Nat → Nat} {d : Nat} {X : zX} {cs : Nat × Nat} (hC : zC l Z zfull ad X RX8 cX8_callsBackVersions 4 none (d + 2)) (hE : zEnd Z zfull ad X true) (hN : zNoX X) (N : Nat) : ∀ (n : Nat) (v1 : Int32) (M : zMem), zG l Z zfull ad X cs 2 [(0, .ref (ad 62)), (1, .int v1)] [] M (fX8_callsBackVersions_B2 N n v1 M) := by
  intro n
  induction n with
  | zero =>
    intro v1 M
    exact zg_none
  | succ n ih =>
  intro v1 M
  rw [fX8_callsBackVersions_B2]
  refine zg_iload_n hC 1 dX8_callsBackVersions_2 rfl ?_
  refine zg_aload_n hC 0 dX8_callsBackVersions_3 rfl ?_
  refine zg_get hC (k := 62) (v := .int (M.1 62 7)) ffX8_116 dX8_callsBackVersions_4 zq62 zk62 rfl ?_
  refine zg_icmp_ge hC (tgt := 89) dX8_callsBackVersions_7 (by decide) (fun c1 => ?_) (fun c1 => ?_)
  · exact zg_retv hC hE dX8_callsBackVersions_89
  · refine zg_aload_n hC 0 dX8_callsBackVersions_10 rfl ?_
    refine zg_iload_n hC 1 dX8_callsBackVersions_11 rfl ?_
    refine zg_callVi hC hE hN (k := 62) (As := [.int v1]) (S := []) rfl (tX8_isHeldNow (zflag hC) d N v1 M) lkX8_125 rfl dX8_callsBackVersions_12 zq62 zk62 rfl rfl (Nat.le_of_ble_eq_true rfl) (fun r2 M3 er2 => ?_)
    refine zg_istore_n hC (L' := [(2, _), (0, _), (1, _)]) dX8_callsBackVersions_15 (by decide) rfl ?_
    refine zg_aload_n hC 1 dX8_callsBackVersions_16 rfl ?_
    refine zg_get hC (k := 62) (v := .ref (ad 73)) ffX8_40 dX8_callsBackVersions_17 zq62 zk62 rfl ?_
    refine zg_iload_n hC 2 dX8_callsBackVersions_20 rfl ?_
    refine zg_iload_n hC 0 dX8_callsBackVersions_21 rfl ?_
    refine zg_if_eq hC (tgt := 29) dX8_callsBackVersions_22 (by decide) (fun c4 => ?_) (fun c4 => ?_)
    · refine zg_aload_n hC 1 dX8_callsBackVersions_29 rfl ?_
      refine zg_get hC (k := 62) (v := .ref (ad 73)) ffX8_40 dX8_callsBackVersions_30 zq62 zk62 rfl ?_
      refine zg_iload_n hC 2 dX8_callsBackVersions_33 rfl ?_
      refine zg_iald hC (k := 73) dX8_callsBackVersions_34 zq73 zk73 (fun h5 => ?_)
      exact zg_sub [1, 2, 0] rfl (gX8_callsBackVersions_B35 hC hE hN N ih v1 r2 v1 (M3.1 73 v1.toNatClampNeg) M3)
    · refine zg_iconst hC (v := 1) dX8_callsBackVersions_25 (by decide) ?_
      refine zg_goto hC (tgt := 35) dX8_callsBackVersions_26 (by decide) ?_
      exact zg_sub [1, 2, 0] rfl (gX8_callsBackVersions_B35 hC hE hN N ih v1 r2 v1 1 M3)
set_option maxRecDepth 20000 in
set_option maxHeartbeats 2000000 in
theorem gX8_callsBackVersions_B0 {l : Launch} {Z : zZ} {ad : Nat → Nat} {d : Nat} {X : zX} {cs : Nat × Nat} (hC : zC l Z zfull ad X RX8 cX8_callsBackVersions 4 none (d + 2)) (hE : zEnd Z zfull ad X true) (hN : zNoX X) (N : Nat) (M : zMem) : zG l Z zfull ad X cs 0 [(0, .ref (ad 62))] [] M (fX8_callsBackVersions N M) := by
  unfold fX8_callsBackVersions
  refine zg_iconst hC (v := 0) dX8_callsBackVersions_0 (by decide) ?_
  refine zg_istore_n hC (L' := [(1, _), (0, _)]) dX8_callsBackVersions_1 (by decide) rfl ?_
  exact zg_sub [1, 0] rfl (gX8_callsBackVersions_B2 hC hE hN N N 0 M)
theorem tX8_callsBackVersions {l : Launch} {Z : zZ} {ad : Nat → Nat} (hl : l.stackTraces = false) (d : Nat) (N : Nat) (M : zMem) : zT l Z zfull ad (.code yX8_callsBackVersions cX8_callsBackVersions 4 none) yX8_callsBackVersions (d + 2) true zbn [.ref (ad 62)] M (fX8_callsBackVersions N M) :=
  zT_of hl (by decide +kernel) (Nat.le_of_ble_eq_true rfl) (fun X hC hE hN => gX8_callsBackVersions_B0 hC hE hN N M)

def fX8_tell_B208 (N : Nat) : Nat → Int32 → Int32 → Int32 → zMem → zRES
  | 0, _, _, _, _ => none
  | n + 1, v1, v2, v4, M =>
  if zin v2 5 = true then
  if zin v1 5 = true then
  if (M.1 68 v1.toNatClampNeg) ≤ (M.1 68 v2.toNatClampNeg) then
    zb (fX8_callsBackVersions N M) fun r42 M43 =>
    some (.inl v4, M43)
  else
    if zin v2 5 = true then
    if zin v2 5 = true then
    if zin (((20 : Int32) * v1) + (M.1 68 v2.toNatClampNeg)) 100 = true then
    if zin (((20 : Int32) * v2) + (M.1 68 v2.toNatClampNeg)) 100 = true then
    zl (zsI M 67 (((20 : Int32) * v2) + (M.1 68 v2.toNatClampNeg)).toNatClampNeg (M.1 67 (((20 : Int32) * v1) + (M.1 68 v2.toNatClampNeg)).toNatClampNeg)) fun M48 =>
    if zin v2 5 = true then
    if zin v2 5 = true then
    zl (zsI M48 68 v2.toNatClampNeg ((M48.1 68 v2.toNatClampNeg) + 1)) fun M51 =>
    fX8_tell_B208 N n v1 v2 (v4 + 1) M51
    else none
    else none
    else none
    else none
    else none
    else none
  else none
  else none
def fX8_tell_B204 (N : Nat) (v1 : Int32) (v2 : Int32) (s1 : Int32) (s2 : Int32) (M : zMem) : zRES :=
  if zin s1 5 = true then
  zl (zsI M 68 s1.toNatClampNeg s2) fun M38 =>
  fX8_tell_B208 N N v1 v2 0 M38
  else none
def fX8_tell_B198 (N : Nat) (v1 : Int32) (v2 : Int32) (s1 : Int32) (M : zMem) : zRES :=
  if zin v2 5 = true then
  fX8_tell_B204 N v1 v2 s1 (M.1 68 v2.toNatClampNeg) M
  else none
def fX8_tell_B169 (N : Nat) (v1 : Int32) (v2 : Int32) (v3 : Int32) (M : zMem) : zRES :=
  if zin v1 5 = true then
  if (M.1 68 v1.toNatClampNeg) ≤ v3 then
    fX8_tell_B198 N v1 v2 v2 M
  else
    if zin v2 5 = true then
    if (M.1 68 v2.toNatClampNeg) ≤ v3 then
      fX8_tell_B198 N v1 v2 v2 M
    else
      fX8_tell_B204 N v1 v2 v2 v3 M
    else none
  else none
def fX8_tell_B118 (N : Nat) : Nat → Int32 → Int32 → Int32 → zMem → zRES
  | 0, _, _, _, _ => none
  | n + 1, v1, v2, v3, M =>
  if zin v1 5 = true then
  if (M.1 68 v1.toNatClampNeg) ≤ v3 then
    fX8_tell_B169 N v1 v2 v3 M
  else
    if zin v2 5 = true then
    if (M.1 68 v2.toNatClampNeg) ≤ v3 then
      fX8_tell_B169 N v1 v2 v3 M
    else
      if zin (((20 : Int32) * v1) + v3) 100 = true then
      if zin (((20 : Int32) * v2) + v3) 100 = true then
      if (M.1 67 (((20 : Int32) * v1) + v3).toNatClampNeg) = (M.1 67 (((20 : Int32) * v2) + v3).toNatClampNeg) then
        fX8_tell_B118 N n v1 v2 (v3 + 1) M
      else
        fX8_tell_B169 N v1 v2 v3 M
      else none
      else none
    else none
  else none
def fX8_tell_B109 (N : Nat) (again83 : Int32 → Int32 → Int32 → zMem → zRES) (v1 : Int32) (v2 : Int32) (v3 : Int32) (s1 : Int32) (s2 : Int32) (M : zMem) : zRES :=
  if zin s1 60 = true then
  zl (zsI M 74 s1.toNatClampNeg s2) fun M24 =>
  again83 v1 v2 (v3 + 1) M24
  else none
def fX8_tell_B83 (N : Nat) : Nat → Int32 → Int32 → Int32 → zMem → zRES
  | 0, _, _, _, _ => none
  | n + 1, v1, v2, v3, M =>
  if (M.1 62 7) ≤ v3 then
    fX8_tell_B118 N N v1 v2 0 M
  else
    zb (fX8_isHeldNow N v3 M) fun r20 M21 =>
    if r20 = 0 then
      fX8_tell_B109 N (fX8_tell_B83 N n) v1 v2 v3 v3 0 M21
    else
      fX8_tell_B109 N (fX8_tell_B83 N n) v1 v2 v3 v3 1 M21
def fX8_tell_B74 (N : Nat) (v1 : Int32) (v2 : Int32) (M : zMem) : zRES :=
  if zin v2 5 = true then
  zl (zsI M 64 v2.toNatClampNeg 0) fun M18 =>
  fX8_tell_B83 N N v1 v2 0 M18
  else none
def fX8_tell (N : Nat) (p1 : Int32) (p2 : Int32) (M : zMem) : zRES :=
  zb (fX8_reachCheck N p1 p2 2 M) fun r1 M2 =>
  zl (zsI M2 62 30 r1) fun M3 =>
  if (M3.1 62 30) ≤ 0 then
    if zin p2 5 = true then
    if zin p1 5 = true then
    if (M3.1 63 p2.toNatClampNeg) ≤ (M3.1 63 p1.toNatClampNeg) then
      if zin p2 5 = true then
      if zin p1 5 = true then
      if (M3.1 63 p1.toNatClampNeg) ≤ (M3.1 63 p2.toNatClampNeg) then
        fX8_tell_B74 N p1 p2 M3
      else
        if zin p1 5 = true then
        zb (fX8_takes N p2 (M3.1 63 p1.toNatClampNeg) M3) fun r12 M13 =>
        fX8_tell_B74 N p1 p2 M13
        else none
      else none
      else none
    else
      if zin p2 5 = true then
      zb (fX8_takes N p1 (M3.1 63 p2.toNatClampNeg) M3) fun r15 M16 =>
      some (.inl (-1), M16)
      else none
    else none
    else none
  else
    some (.inl 0, M3)
set_option maxRecDepth 20000 in
set_option maxHeartbeats 2000000 in
theorem gX8_tell_B208 {l : Launch} {Z : zZ} {ad : Nat → Nat} {d : Nat} {X : zX} {cs : Nat × Nat} (hC : zC l Z zfull ad X RX8 cX8_tell 5 (some .int) (d + 3)) (hE : zEnd Z zfull ad X false) (hN : zNoX X) (N : Nat) : ∀ (n : Nat) (v1 : Int32) (v2 : Int32) (v4 : Int32) (M : zMem), zG l Z zfull ad X cs 208 [(0, .ref (ad 62)), (1, .int v1), (2, .int v2), (4, .int v4)] [] M (fX8_tell_B208 N n v1 v2 v4 M) := by
  intro n
  induction n with
  | zero =>
    intro v1 v2 v4 M
    exact zg_none
  | succ n ih =>
  intro v1 v2 v4 M
  rw [fX8_tell_B208]
  refine zg_aload_n hC 0 dX8_tell_208 rfl ?_
  refine zg_get hC (k := 62) (v := .ref (ad 68)) ffX8_25 dX8_tell_209 zq62 zk62 rfl ?_
  refine zg_iload_n hC 2 dX8_tell_212 rfl ?_
  refine zg_iald hC (k := 68) dX8_tell_213 zq68 zk68 (fun h39 => ?_)
  refine zg_aload_n hC 0 dX8_tell_214 rfl ?_
  refine zg_get hC (k := 62) (v := .ref (ad 68)) ffX8_25 dX8_tell_215 zq62 zk62 rfl ?_
  refine zg_iload_n hC 1 dX8_tell_218 rfl ?_
  refine zg_iald hC (k := 68) dX8_tell_219 zq68 zk68 (fun h40 => ?_)
  refine zg_icmp_ge hC (tgt := 271) dX8_tell_220 (by decide) (fun c41 => ?_) (fun c41 => ?_)
  · refine zg_aload_n hC 0 dX8_tell_271 rfl ?_
    refine zg_callVv hC hE hN (k := 62) (As := []) (S := []) rfl (tX8_callsBackVersions (zflag hC) d N M) lkX8_135 rfl dX8_tell_272 zq62 zk62 rfl rfl (Nat.le_of_ble_eq_true rfl) (fun r42 M43 er42 => ?_)
    refine zg_iload hC 3 dX8_tell_275 rfl ?_
    exact zg_ret hC hE dX8_tell_277
  · refine zg_aload_n hC 0 dX8_tell_223 rfl ?_
    refine zg_get hC (k := 62) (v := .ref (ad 67)) ffX8_22 dX8_tell_224 zq62 zk62 rfl ?_
    refine zg_bipush hC (v := 20) dX8_tell_227 (by decide) ?_
    refine zg_iload_n hC 2 dX8_tell_229 rfl ?_
    refine zg_imul hC dX8_tell_230 ?_
    refine zg_aload_n hC 0 dX8_tell_231 rfl ?_
    refine zg_get hC (k := 62) (v := .ref (ad 68)) ffX8_25 dX8_tell_232 zq62 zk62 rfl ?_
    refine zg_iload_n hC 2 dX8_tell_235 rfl ?_
    refine zg_iald hC (k := 68) dX8_tell_236 zq68 zk68 (fun h44 => ?_)
    refine zg_iadd hC dX8_tell_237 ?_
    refine zg_aload_n hC 0 dX8_tell_238 rfl ?_
    refine zg_get hC (k := 62) (v := .ref (ad 67)) ffX8_22 dX8_tell_239 zq62 zk62 rfl ?_
    refine zg_bipush hC (v := 20) dX8_tell_242 (by decide) ?_
    refine zg_iload_n hC 1 dX8_tell_244 rfl ?_
    refine zg_imul hC dX8_tell_245 ?_
    refine zg_aload_n hC 0 dX8_tell_246 rfl ?_
    refine zg_get hC (k := 62) (v := .ref (ad 68)) ffX8_25 dX8_tell_247 zq62 zk62 rfl ?_
    refine zg_iload_n hC 2 dX8_tell_250 rfl ?_
    refine zg_iald hC (k := 68) dX8_tell_251 zq68 zk68 (fun h45 => ?_)
    refine zg_iadd hC dX8_tell_252 ?_
    refine zg_iald hC (k := 67) dX8_tell_253 zq67 zk67 (fun h46 => ?_)
    refine zg_iast hC (k := 67) dX8_tell_254 zq67 zk67 (fun h47 M48 eM48 => ?_)
    refine zg_aload_n hC 0 dX8_tell_255 rfl ?_
    refine zg_get hC (k := 62) (v := .ref (ad 68)) ffX8_25 dX8_tell_256 zq62 zk62 rfl ?_
    refine zg_iload_n hC 2 dX8_tell_259 rfl ?_
    refine zg_dup2_11 hC dX8_tell_260 rfl rfl ?_
    refine zg_iald hC (k := 68) dX8_tell_261 zq68 zk68 (fun h49 => ?_)
    refine zg_iconst hC (v := 1) dX8_tell_262 (by decide) ?_
    refine zg_iadd hC dX8_tell_263 ?_
    refine zg_iast hC (k := 68) dX8_tell_264 zq68 zk68 (fun h50 M51 eM51 => ?_)
    refine zg_iinc hC 3 (v := v4 + 1) (L' := [(4, _), (0, _), (1, _), (2, _)]) dX8_tell_265 rfl (by rfl) (by decide) rfl ?_
    refine zg_goto hC (tgt := 208) dX8_tell_268 (by decide) ?_
    exact zg_sub [1, 2, 3, 0] rfl (ih v1 v2 (v4 + 1) M51)
set_option maxRecDepth 20000 in
set_option maxHeartbeats 2000000 in
theorem gX8_tell_B204 {l : Launch} {Z : zZ} {ad : Nat → Nat} {d : Nat} {X : zX} {cs : Nat × Nat} (hC : zC l Z zfull ad X RX8 cX8_tell 5 (some .int) (d + 3)) (hE : zEnd Z zfull ad X false) (hN : zNoX X) (N : Nat) (v1 : Int32) (v2 : Int32) (s1 : Int32) (s2 : Int32) (M : zMem) : zG l Z zfull ad X cs 204 [(0, .ref (ad 62)), (1, .int v1), (2, .int v2)] [.int s2, .int s1, .ref (ad 68)] M (fX8_tell_B204 N v1 v2 s1 s2 M) := by
  unfold fX8_tell_B204
  refine zg_iast hC (k := 68) dX8_tell_204 zq68 zk68 (fun h37 M38 eM38 => ?_)
  refine zg_iconst hC (v := 0) dX8_tell_205 (by decide) ?_
  refine zg_istore hC (L' := [(4, _), (0, _), (1, _), (2, _)]) dX8_tell_206 (by decide) rfl ?_
  exact zg_sub [1, 2, 3, 0] rfl (gX8_tell_B208 hC hE hN N N v1 v2 0 M38)
set_option maxRecDepth 20000 in
set_option maxHeartbeats 2000000 in
theorem gX8_tell_B198 {l : Launch} {Z : zZ} {ad : Nat → Nat} {d : Nat} {X : zX} {cs : Nat × Nat} (hC : zC l Z zfull ad X RX8 cX8_tell 5 (some .int) (d + 3)) (hE : zEnd Z zfull ad X false) (hN : zNoX X) (N : Nat) (v1 : Int32) (v2 : Int32) (s1 : Int32) (M : zMem) : zG l Z zfull ad X cs 198 [(0, .ref (ad 62)), (1, .int v1), (2, .int v2)] [.int s1, .ref (ad 68)] M (fX8_tell_B198 N v1 v2 s1 M) := by
  unfold fX8_tell_B198
  refine zg_aload_n hC 0 dX8_tell_198 rfl ?_
  refine zg_get hC (k := 62) (v := .ref (ad 68)) ffX8_25 dX8_tell_199 zq62 zk62 rfl ?_
  refine zg_iload_n hC 2 dX8_tell_202 rfl ?_
  refine zg_iald hC (k := 68) dX8_tell_203 zq68 zk68 (fun h36 => ?_)
  exact zg_sub [0, 1, 2] rfl (gX8_tell_B204 hC hE hN N v1 v2 s1 (M.1 68 v2.toNatClampNeg) M)
set_option maxRecDepth 20000 in
set_option maxHeartbeats 2000000 in
theorem gX8_tell_B169 {l : Launch} {Z : zZ} {ad : Nat → Nat} {d : Nat} {X : zX} {cs : Nat × Nat} (hC : zC l Z zfull ad X RX8 cX8_tell 5 (some .int) (d + 3)) (hE : zEnd Z zfull ad X false) (hN : zNoX X) (N : Nat) (v1 : Int32) (v2 : Int32) (v3 : Int32) (M : zMem) : zG l Z zfull ad X cs 169 [(0, .ref (ad 62)), (1, .int v1), (2, .int v2), (3, .int v3)] [] M (fX8_tell_B169 N v1 v2 v3 M) := by
  unfold fX8_tell_B169
  refine zg_aload_n hC 0 dX8_tell_169 rfl ?_
  refine zg_get hC (k := 62) (v := .ref (ad 68)) ffX8_25 dX8_tell_170 zq62 zk62 rfl ?_
  refine zg_iload_n hC 2 dX8_tell_173 rfl ?_
  refine zg_iload_n hC 3 dX8_tell_174 rfl ?_
  refine zg_aload_n hC 0 dX8_tell_175 rfl ?_
  refine zg_get hC (k := 62) (v := .ref (ad 68)) ffX8_25 dX8_tell_176 zq62 zk62 rfl ?_
  refine zg_iload_n hC 1 dX8_tell_179 rfl ?_
  refine zg_iald hC (k := 68) dX8_tell_180 zq68 zk68 (fun h32 => ?_)
  refine zg_icmp_ge hC (tgt := 198) dX8_tell_181 (by decide) (fun c33 => ?_) (fun c33 => ?_)
  · exact zg_sub [0, 1, 2] rfl (gX8_tell_B198 hC hE hN N v1 v2 v2 M)
  · refine zg_iload_n hC 3 dX8_tell_184 rfl ?_
    refine zg_aload_n hC 0 dX8_tell_185 rfl ?_
    refine zg_get hC (k := 62) (v := .ref (ad 68)) ffX8_25 dX8_tell_186 zq62 zk62 rfl ?_
    refine zg_iload_n hC 2 dX8_tell_189 rfl ?_
    refine zg_iald hC (k := 68) dX8_tell_190 zq68 zk68 (fun h34 => ?_)
    refine zg_icmp_ge hC (tgt := 198) dX8_tell_191 (by decide) (fun c35 => ?_) (fun c35 => ?_)
    · exact zg_sub [0, 1, 2] rfl (gX8_tell_B198 hC hE hN N v1 v2 v2 M)
    · refine zg_iload_n hC 3 dX8_tell_194 rfl ?_
      refine zg_goto hC (tgt := 204) dX8_tell_195 (by decide) ?_
      exact zg_sub [0, 1, 2] rfl (gX8_tell_B204 hC hE hN N v1 v2 v2 v3 M)
set_option maxRecDepth 20000 in
set_option maxHeartbeats 2000000 in
theorem gX8_tell_B118 {l : Launch} {Z : zZ} {ad : Nat → Nat} {d : Nat} {X : zX} {cs : Nat × Nat} (hC : zC l Z zfull ad X RX8 cX8_tell 5 (some .int) (d + 3)) (hE : zEnd Z zfull ad X false) (hN : zNoX X) (N : Nat) : ∀ (n : Nat) (v1 : Int32) (v2 : Int32) (v3 : Int32) (M : zMem), zG l Z zfull ad X cs 118 [(0, .ref (ad 62)), (1, .int v1), (2, .int v2), (3, .int v3)] [] M (fX8_tell_B118 N n v1 v2 v3 M) := by
  intro n
  induction n with
  | zero =>
    intro v1 v2 v3 M
    exact zg_none
  | succ n ih =>
  intro v1 v2 v3 M
  rw [fX8_tell_B118]
  refine zg_iload_n hC 3 dX8_tell_118 rfl ?_
  refine zg_aload_n hC 0 dX8_tell_119 rfl ?_
  refine zg_get hC (k := 62) (v := .ref (ad 68)) ffX8_25 dX8_tell_120 zq62 zk62 rfl ?_
  refine zg_iload_n hC 1 dX8_tell_123 rfl ?_
  refine zg_iald hC (k := 68) dX8_tell_124 zq68 zk68 (fun h25 => ?_)
  refine zg_icmp_ge hC (tgt := 169) dX8_tell_125 (by decide) (fun c26 => ?_) (fun c26 => ?_)
  · exact zg_sub [0, 1, 2, 3] rfl (gX8_tell_B169 hC hE hN N v1 v2 v3 M)
  · refine zg_iload_n hC 3 dX8_tell_128 rfl ?_
    refine zg_aload_n hC 0 dX8_tell_129 rfl ?_
    refine zg_get hC (k := 62) (v := .ref (ad 68)) ffX8_25 dX8_tell_130 zq62 zk62 rfl ?_
    refine zg_iload_n hC 2 dX8_tell_133 rfl ?_
    refine zg_iald hC (k := 68) dX8_tell_134 zq68 zk68 (fun h27 => ?_)
    refine zg_icmp_ge hC (tgt := 169) dX8_tell_135 (by decide) (fun c28 => ?_) (fun c28 => ?_)
    · exact zg_sub [0, 1, 2, 3] rfl (gX8_tell_B169 hC hE hN N v1 v2 v3 M)
    · refine zg_aload_n hC 0 dX8_tell_138 rfl ?_
      refine zg_get hC (k := 62) (v := .ref (ad 67)) ffX8_22 dX8_tell_139 zq62 zk62 rfl ?_
      refine zg_bipush hC (v := 20) dX8_tell_142 (by decide) ?_
      refine zg_iload_n hC 1 dX8_tell_144 rfl ?_
      refine zg_imul hC dX8_tell_145 ?_
      refine zg_iload_n hC 3 dX8_tell_146 rfl ?_
      refine zg_iadd hC dX8_tell_147 ?_
      refine zg_iald hC (k := 67) dX8_tell_148 zq67 zk67 (fun h29 => ?_)
      refine zg_aload_n hC 0 dX8_tell_149 rfl ?_
      refine zg_get hC (k := 62) (v := .ref (ad 67)) ffX8_22 dX8_tell_150 zq62 zk62 rfl ?_
      refine zg_bipush hC (v := 20) dX8_tell_153 (by decide) ?_
      refine zg_iload_n hC 2 dX8_tell_155 rfl ?_
      refine zg_imul hC dX8_tell_156 ?_
      refine zg_iload_n hC 3 dX8_tell_157 rfl ?_
      refine zg_iadd hC dX8_tell_158 ?_
      refine zg_iald hC (k := 67) dX8_tell_159 zq67 zk67 (fun h30 => ?_)
      refine zg_icmp_ne hC (tgt := 169) dX8_tell_160 (by decide) (fun c31 => ?_) (fun c31 => ?_)
      · refine zg_iinc hC 3 (v := v3 + 1) (L' := [(3, _), (0, _), (1, _), (2, _)]) dX8_tell_163 rfl (by rfl) (by decide) rfl ?_
        refine zg_goto hC (tgt := 118) dX8_tell_166 (by decide) ?_
        exact zg_sub [1, 2, 3, 0] rfl (ih v1 v2 (v3 + 1) M)
      · exact zg_sub [0, 1, 2, 3] rfl (gX8_tell_B169 hC hE hN N v1 v2 v3 M)
set_option maxRecDepth 20000 in
set_option maxHeartbeats 2000000 in
theorem gX8_tell_B109 {l : Launch} {Z : zZ} {ad : Nat → Nat} {d : Nat} {X : zX} {cs : Nat × Nat} (hC : zC l Z zfull ad X RX8 cX8_tell 5 (some .int) (d + 3)) (hE : zEnd Z zfull ad X false) (hN : zNoX X) (N : Nat) {again83 : Int32 → Int32 → Int32 → zMem → zRES} (hag83 : ∀ v1 v2 v3 M, zG l Z zfull ad X cs 83 [(0, .ref (ad 62)), (1, .int v1), (2, .int v2), (3, .int v3)] [] M (again83 v1 v2 v3 M)) (v1 : Int32) (v2 : Int32) (v3 : Int32) (s1 : Int32) (s2 : Int32) (M : zMem) : zG l Z zfull ad X cs 109 [(0, .ref (ad 62)), (1, .int v1), (2, .int v2), (3, .int v3)] [.int s2, .int s1, .ref (ad 74)] M (fX8_tell_B109 N again83 v1 v2 v3 s1 s2 M) := by
  unfold fX8_tell_B109
  refine zg_iast hC (k := 74) dX8_tell_109 zq74 zk74 (fun h23 M24 eM24 => ?_)
  refine zg_iinc hC 3 (v := v3 + 1) (L' := [(3, _), (0, _), (1, _), (2, _)]) dX8_tell_110 rfl (by rfl) (by decide) rfl ?_
  refine zg_goto hC (tgt := 83) dX8_tell_113 (by decide) ?_
  exact zg_sub [1, 2, 3, 0] rfl (hag83 v1 v2 (v3 + 1) M24)
set_option maxRecDepth 20000 in
set_option maxHeartbeats 2000000 in
theorem gX8_tell_B83 {l : Launch} {Z : zZ} {ad : Nat → Nat} {d : Nat} {X : zX} {cs : Nat × Nat} (hC : zC l Z zfull ad X RX8 cX8_tell 5 (some .int) (d + 3)) (hE : zEnd Z zfull ad X false) (hN : zNoX X) (N : Nat) : ∀ (n : Nat) (v1 : Int32) (v2 : Int32) (v3 : Int32) (M : zMem), zG l Z zfull ad X cs 83 [(0, .ref (ad 62)), (1, .int v1), (2, .int v2), (3, .int v3)] [] M (fX8_tell_B83 N n v1 v2 v3 M) := by
  intro n
  induction n with
  | zero =>
    intro v1 v2 v3 M
    exact zg_none
  | succ n ih =>
  intro v1 v2 v3 M
  rw [fX8_tell_B83]
  refine zg_iload_n hC 3 dX8_tell_83 rfl ?_
  refine zg_aload_n hC 0 dX8_tell_84 rfl ?_
  refine zg_get hC (k := 62) (v := .int (M.1 62 7)) ffX8_116 dX8_tell_85 zq62 zk62 rfl ?_
  refine zg_icmp_ge hC (tgt := 116) dX8_tell_88 (by decide) (fun c19 => ?_) (fun c19 => ?_)
  · refine zg_iconst hC (v := 0) dX8_tell_116 (by decide) ?_
    refine zg_istore_n hC (L' := [(3, _), (0, _), (1, _), (2, _)]) dX8_tell_117 (by decide) rfl ?_
    exact zg_sub [1, 2, 3, 0] rfl (gX8_tell_B118 hC hE hN N N v1 v2 0 M)
  · refine zg_aload_n hC 0 dX8_tell_91 rfl ?_
    refine zg_get hC (k := 62) (v := .ref (ad 74)) ffX8_43 dX8_tell_92 zq62 zk62 rfl ?_
    refine zg_iload_n hC 3 dX8_tell_95 rfl ?_
    refine zg_aload_n hC 0 dX8_tell_96 rfl ?_
    refine zg_iload_n hC 3 dX8_tell_97 rfl ?_
    refine zg_callVi hC hE hN (k := 62) (As := [.int v3]) (S := [.int v3, .ref (ad 74)]) rfl (tX8_isHeldNow (zflag hC) (d + 1) N v3 M) lkX8_125 rfl dX8_tell_98 zq62 zk62 rfl rfl (Nat.le_of_ble_eq_true rfl) (fun r20 M21 er20 => ?_)
    refine zg_if_eq hC (tgt := 108) dX8_tell_101 (by decide) (fun c22 => ?_) (fun c22 => ?_)
    · refine zg_iconst hC (v := 0) dX8_tell_108 (by decide) ?_
      exact zg_sub [0, 1, 2, 3] rfl (gX8_tell_B109 hC hE hN N ih v1 v2 v3 v3 0 M21)
    · refine zg_iconst hC (v := 1) dX8_tell_104 (by decide) ?_
      refine zg_goto hC (tgt := 109) dX8_tell_105 (by decide) ?_
      exact zg_sub [0, 1, 2, 3] rfl (gX8_tell_B109 hC hE hN N ih v1 v2 v3 v3 1 M21)
set_option maxRecDepth 20000 in
set_option maxHeartbeats 2000000 in
theorem gX8_tell_B74 {l : Launch} {Z : zZ} {ad : Nat → Nat} {d : Nat} {X : zX} {cs : Nat × Nat} (hC : zC l Z zfull ad X RX8 cX8_tell 5 (some .int) (d + 3)) (hE : zEnd Z zfull ad X false) (hN : zNoX X) (N : Nat) (v1 : Int32) (v2 : Int32) (M : zMem) : zG l Z zfull ad X cs 74 [(0, .ref (ad 62)), (1, .int v1), (2, .int v2)] [] M (fX8_tell_B74 N v1 v2 M) := by
  unfold fX8_tell_B74
  refine zg_aload_n hC 0 dX8_tell_74 rfl ?_
  refine zg_get hC (k := 62) (v := .ref (ad 64)) ffX8_13 dX8_tell_75 zq62 zk62 rfl ?_
  refine zg_iload_n hC 2 dX8_tell_78 rfl ?_
  refine zg_iconst hC (v := 0) dX8_tell_79 (by decide) ?_
  refine zg_iast hC (k := 64) dX8_tell_80 zq64 zk64 (fun h17 M18 eM18 => ?_)
  refine zg_iconst hC (v := 0) dX8_tell_81 (by decide) ?_
  refine zg_istore_n hC (L' := [(3, _), (0, _), (1, _), (2, _)]) dX8_tell_82 (by decide) rfl ?_
  exact zg_sub [1, 2, 3, 0] rfl (gX8_tell_B83 hC hE hN N N v1 v2 0 M18)
set_option maxRecDepth 20000 in
set_option maxHeartbeats 2000000 in
theorem gX8_tell_B0 {l : Launch} {Z : zZ} {ad : Nat → Nat} {d : Nat} {X : zX} {cs : Nat × Nat} (hC : zC l Z zfull ad X RX8 cX8_tell 5 (some .int) (d + 3)) (hE : zEnd Z zfull ad X false) (hN : zNoX X) (N : Nat) (p1 : Int32) (p2 : Int32) (M : zMem) : zG l Z zfull ad X cs 0 [(0, .ref (ad 62)), (1, .int p1), (2, .int p2)] [] M (fX8_tell N p1 p2 M) := by
  unfold fX8_tell
  refine zg_aload_n hC 0 dX8_tell_0 rfl ?_
  refine zg_aload_n hC 0 dX8_tell_1 rfl ?_
  refine zg_iload_n hC 1 dX8_tell_2 rfl ?_
  refine zg_iload_n hC 2 dX8_tell_3 rfl ?_
  refine zg_iconst hC (v := 2) dX8_tell_4 (by decide) ?_
  refine zg_callVi hC hE hN (k := 62) (As := [.int p1, .int p2, .int 2]) (S := [.ref (ad 62)]) rfl (tX8_reachCheck (zflag hC) d N p1 p2 2 M) lkX8_109 rfl dX8_tell_5 zq62 zk62 rfl rfl (Nat.le_of_ble_eq_true rfl) (fun r1 M2 er1 => ?_)
  refine zg_putI hC (k := 62) fpX8_82 dX8_tell_8 zq62 zk62 rfl (fun M3 eM3 => ?_)
  refine zg_aload_n hC 0 dX8_tell_11 rfl ?_
  refine zg_get hC (k := 62) (v := .int (M3.1 62 30)) ffX8_82 dX8_tell_12 zq62 zk62 rfl ?_
  refine zg_if_le hC (tgt := 20) dX8_tell_15 (by decide) (fun c4 => ?_) (fun c4 => ?_)
  · refine zg_aload_n hC 0 dX8_tell_20 rfl ?_
    refine zg_get hC (k := 62) (v := .ref (ad 63)) ffX8_7 dX8_tell_21 zq62 zk62 rfl ?_
    refine zg_iload_n hC 2 dX8_tell_24 rfl ?_
    refine zg_iald hC (k := 63) dX8_tell_25 zq63 zk63 (fun h5 => ?_)
    refine zg_aload_n hC 0 dX8_tell_26 rfl ?_
    refine zg_get hC (k := 62) (v := .ref (ad 63)) ffX8_7 dX8_tell_27 zq62 zk62 rfl ?_
    refine zg_iload_n hC 1 dX8_tell_30 rfl ?_
    refine zg_iald hC (k := 63) dX8_tell_31 zq63 zk63 (fun h6 => ?_)
    refine zg_icmp_le hC (tgt := 48) dX8_tell_32 (by decide) (fun c7 => ?_) (fun c7 => ?_)
    · refine zg_aload_n hC 0 dX8_tell_48 rfl ?_
      refine zg_get hC (k := 62) (v := .ref (ad 63)) ffX8_7 dX8_tell_49 zq62 zk62 rfl ?_
      refine zg_iload_n hC 2 dX8_tell_52 rfl ?_
      refine zg_iald hC (k := 63) dX8_tell_53 zq63 zk63 (fun h8 => ?_)
      refine zg_aload_n hC 0 dX8_tell_54 rfl ?_
      refine zg_get hC (k := 62) (v := .ref (ad 63)) ffX8_7 dX8_tell_55 zq62 zk62 rfl ?_
      refine zg_iload_n hC 1 dX8_tell_58 rfl ?_
      refine zg_iald hC (k := 63) dX8_tell_59 zq63 zk63 (fun h9 => ?_)
      refine zg_icmp_ge hC (tgt := 74) dX8_tell_60 (by decide) (fun c10 => ?_) (fun c10 => ?_)
      · exact zg_sub [0, 1, 2] rfl (gX8_tell_B74 hC hE hN N p1 p2 M3)
      · refine zg_aload_n hC 0 dX8_tell_63 rfl ?_
        refine zg_iload_n hC 2 dX8_tell_64 rfl ?_
        refine zg_aload_n hC 0 dX8_tell_65 rfl ?_
        refine zg_get hC (k := 62) (v := .ref (ad 63)) ffX8_7 dX8_tell_66 zq62 zk62 rfl ?_
        refine zg_iload_n hC 1 dX8_tell_69 rfl ?_
        refine zg_iald hC (k := 63) dX8_tell_70 zq63 zk63 (fun h11 => ?_)
        refine zg_callVv hC hE hN (k := 62) (As := [.int p2, .int (M3.1 63 p1.toNatClampNeg)]) (S := []) rfl (tX8_takes (zflag hC) (d + 2) N p2 (M3.1 63 p1.toNatClampNeg) M3) lkX8_97 rfl dX8_tell_71 zq62 zk62 rfl rfl (Nat.le_of_ble_eq_true rfl) (fun r12 M13 er12 => ?_)
        exact zg_sub [0, 1, 2] rfl (gX8_tell_B74 hC hE hN N p1 p2 M13)
    · refine zg_aload_n hC 0 dX8_tell_35 rfl ?_
      refine zg_iload_n hC 1 dX8_tell_36 rfl ?_
      refine zg_aload_n hC 0 dX8_tell_37 rfl ?_
      refine zg_get hC (k := 62) (v := .ref (ad 63)) ffX8_7 dX8_tell_38 zq62 zk62 rfl ?_
      refine zg_iload_n hC 2 dX8_tell_41 rfl ?_
      refine zg_iald hC (k := 63) dX8_tell_42 zq63 zk63 (fun h14 => ?_)
      refine zg_callVv hC hE hN (k := 62) (As := [.int p1, .int (M3.1 63 p2.toNatClampNeg)]) (S := []) rfl (tX8_takes (zflag hC) (d + 2) N p1 (M3.1 63 p2.toNatClampNeg) M3) lkX8_97 rfl dX8_tell_43 zq62 zk62 rfl rfl (Nat.le_of_ble_eq_true rfl) (fun r15 M16 er15 => ?_)
      refine zg_iconst hC (v := (-1)) dX8_tell_46 (by decide) ?_
      exact zg_ret hC hE dX8_tell_47
  · refine zg_iconst hC (v := 0) dX8_tell_18 (by decide) ?_
    exact zg_ret hC hE dX8_tell_19
theorem tX8_tell {l : Launch} {Z : zZ} {ad : Nat → Nat} (hl : l.stackTraces = false) (d : Nat) (N : Nat) (p1 : Int32) (p2 : Int32) (M : zMem) : zT l Z zfull ad (.code yX8_tell cX8_tell 5 (some .int)) yX8_tell (d + 3) false zbn [.ref (ad 62), .int p1, .int p2] M (fX8_tell N p1 p2 M) :=
  zT_of hl (by decide +kernel) (Nat.le_of_ble_eq_true rfl) (fun X hC hE hN => gX8_tell_B0 hC hE hN N p1 p2 M)

def fX8_isTold_B13 (N : Nat) (s1 : Int32) (M : zMem) : zRES :=
  zl (zsI M 62 30 s1) fun M4 =>
  if (M4.1 62 30) = 0 then
    some (.inl 1, M4)
  else
    some (.inl 0, M4)
def fX8_isTold (N : Nat) (p1 : Int32) (M : zMem) : zRES :=
  zb (fX8_isBakery N p1 M) fun r1 M2 =>
  if r1 = 0 then
    fX8_isTold_B13 N 1 M2
  else
    fX8_isTold_B13 N 0 M2
set_option maxRecDepth 20000 in
set_option maxHeartbeats 2000000 in
theorem gX8_isTold_B13 {l : Launch} {Z : zZ} {ad : Nat → Nat} {d : Nat} {X : zX} {cs : Nat × Nat} (hC : zC l Z zfull ad X RX8 cX8_isTold 2 (some .boolean) (d + 2)) (hE : zEnd Z zfull ad X false) (hN : zNoX X) (N : Nat) (s1 : Int32) (M : zMem) : zG l Z zfull ad X cs 13 [(0, .ref (ad 62))] [.int s1, .ref (ad 62)] M (fX8_isTold_B13 N s1 M) := by
  unfold fX8_isTold_B13
  refine zg_putI hC (k := 62) fpX8_82 dX8_isTold_13 zq62 zk62 rfl (fun M4 eM4 => ?_)
  refine zg_aload_n hC 0 dX8_isTold_16 rfl ?_
  refine zg_get hC (k := 62) (v := .int (M4.1 62 30)) ffX8_82 dX8_isTold_17 zq62 zk62 rfl ?_
  refine zg_if_ne hC (tgt := 27) dX8_isTold_20 (by decide) (fun c5 => ?_) (fun c5 => ?_)
  · refine zg_iconst hC (v := 1) dX8_isTold_23 (by decide) ?_
    refine zg_goto hC (tgt := 28) dX8_isTold_24 (by decide) ?_
    exact zg_retz hC hE (by decide) dX8_isTold_28
  · refine zg_iconst hC (v := 0) dX8_isTold_27 (by decide) ?_
    exact zg_retz hC hE (by decide) dX8_isTold_28
set_option maxRecDepth 20000 in
set_option maxHeartbeats 2000000 in
theorem gX8_isTold_B0 {l : Launch} {Z : zZ} {ad : Nat → Nat} {d : Nat} {X : zX} {cs : Nat × Nat} (hC : zC l Z zfull ad X RX8 cX8_isTold 2 (some .boolean) (d + 2)) (hE : zEnd Z zfull ad X false) (hN : zNoX X) (N : Nat) (p1 : Int32) (M : zMem) : zG l Z zfull ad X cs 0 [(0, .ref (ad 62)), (1, .int p1)] [] M (fX8_isTold N p1 M) := by
  unfold fX8_isTold
  refine zg_aload_n hC 0 dX8_isTold_0 rfl ?_
  refine zg_iload_n hC 1 dX8_isTold_1 rfl ?_
  refine zg_callSi hC hE hN (As := [.int p1]) (S := [.ref (ad 62)]) rfl (tX8_isBakery (zflag hC) d N p1 M) lkX8_93 rfl dX8_isTold_2 (Nat.le_of_ble_eq_true rfl) (fun r1 M2 er1 => ?_)
  refine zg_if_eq hC (tgt := 12) dX8_isTold_5 (by decide) (fun c3 => ?_) (fun c3 => ?_)
  · refine zg_iconst hC (v := 1) dX8_isTold_12 (by decide) ?_
    exact zg_sub [0] rfl (gX8_isTold_B13 hC hE hN N 1 M2)
  · refine zg_iconst hC (v := 0) dX8_isTold_8 (by decide) ?_
    refine zg_goto hC (tgt := 13) dX8_isTold_9 (by decide) ?_
    exact zg_sub [0] rfl (gX8_isTold_B13 hC hE hN N 0 M2)
theorem tX8_isTold {l : Launch} {Z : zZ} {ad : Nat → Nat} (hl : l.stackTraces = false) (d : Nat) (N : Nat) (p1 : Int32) (M : zMem) : zT l Z zfull ad (.code yX8_isTold cX8_isTold 2 (some .boolean)) yX8_isTold (d + 2) false zbn [.ref (ad 62), .int p1] M (fX8_isTold N p1 M) :=
  zT_of hl (by decide +kernel) (Nat.le_of_ble_eq_true rfl) (fun X hC hE hN => gX8_isTold_B0 hC hE hN N p1 M)

def fX8_role (N : Nat) (p1 : Int32) (M : zMem) : zRES :=
  zb (fX8_isTold N p1 M) fun r1 M2 =>
  if r1 = 0 then
    some (.inl 0, M2)
  else
    if zin p1 5 = true then
    some (.inl (M2.1 64 p1.toNatClampNeg), M2)
    else none
set_option maxRecDepth 20000 in
set_option maxHeartbeats 2000000 in
theorem gX8_role_B0 {l : Launch} {Z : zZ} {ad : Nat → Nat} {d : Nat} {X : zX} {cs : Nat × Nat} (hC : zC l Z zfull ad X RX8 cX8_role 2 (some .int) (d + 3)) (hE : zEnd Z zfull ad X false) (hN : zNoX X) (N : Nat) (p1 : Int32) (M : zMem) : zG l Z zfull ad X cs 0 [(0, .ref (ad 62)), (1, .int p1)] [] M (fX8_role N p1 M) := by
  unfold fX8_role
  refine zg_aload_n hC 0 dX8_role_0 rfl ?_
  refine zg_iload_n hC 1 dX8_role_1 rfl ?_
  refine zg_callVi hC hE hN (k := 62) (As := [.int p1]) (S := []) rfl (tX8_isTold (zflag hC) d N p1 M) lkX8_138 rfl dX8_role_2 zq62 zk62 rfl rfl (Nat.le_of_ble_eq_true rfl) (fun r1 M2 er1 => ?_)
  refine zg_if_eq hC (tgt := 17) dX8_role_5 (by decide) (fun c3 => ?_) (fun c3 => ?_)
  · refine zg_iconst hC (v := 0) dX8_role_17 (by decide) ?_
    exact zg_ret hC hE dX8_role_18
  · refine zg_aload_n hC 0 dX8_role_8 rfl ?_
    refine zg_get hC (k := 62) (v := .ref (ad 64)) ffX8_13 dX8_role_9 zq62 zk62 rfl ?_
    refine zg_iload_n hC 1 dX8_role_12 rfl ?_
    refine zg_iald hC (k := 64) dX8_role_13 zq64 zk64 (fun h4 => ?_)
    refine zg_goto hC (tgt := 18) dX8_role_14 (by decide) ?_
    exact zg_ret hC hE dX8_role_18
theorem tX8_role {l : Launch} {Z : zZ} {ad : Nat → Nat} (hl : l.stackTraces = false) (d : Nat) (N : Nat) (p1 : Int32) (M : zMem) : zT l Z zfull ad (.code yX8_role cX8_role 2 (some .int)) yX8_role (d + 3) false zbn [.ref (ad 62), .int p1] M (fX8_role N p1 M) :=
  zT_of hl (by decide +kernel) (Nat.le_of_ble_eq_true rfl) (fun X hC hE hN => gX8_role_B0 hC hE hN N p1 M)

def fX8_term (N : Nat) (p1 : Int32) (M : zMem) : zRES :=
  zb (fX8_isTold N p1 M) fun r1 M2 =>
  if r1 = 0 then
    some (.inl 0, M2)
  else
    if zin p1 5 = true then
    some (.inl (M2.1 63 p1.toNatClampNeg), M2)
    else none
set_option maxRecDepth 20000 in
set_option maxHeartbeats 2000000 in
theorem gX8_term_B0 {l : Launch} {Z : zZ} {ad : Nat → Nat} {d : Nat} {X : zX} {cs : Nat × Nat} (hC : zC l Z zfull ad X RX8 cX8_term 2 (some .int) (d + 3)) (hE : zEnd Z zfull ad X false) (hN : zNoX X) (N : Nat) (p1 : Int32) (M : zMem) : zG l Z zfull ad X cs 0 [(0, .ref (ad 62)), (1, .int p1)] [] M (fX8_term N p1 M) := by
  unfold fX8_term
  refine zg_aload_n hC 0 dX8_term_0 rfl ?_
  refine zg_iload_n hC 1 dX8_term_1 rfl ?_
  refine zg_callVi hC hE hN (k := 62) (As := [.int p1]) (S := []) rfl (tX8_isTold (zflag hC) d N p1 M) lkX8_138 rfl dX8_term_2 zq62 zk62 rfl rfl (Nat.le_of_ble_eq_true rfl) (fun r1 M2 er1 => ?_)
  refine zg_if_eq hC (tgt := 17) dX8_term_5 (by decide) (fun c3 => ?_) (fun c3 => ?_)
  · refine zg_iconst hC (v := 0) dX8_term_17 (by decide) ?_
    exact zg_ret hC hE dX8_term_18
  · refine zg_aload_n hC 0 dX8_term_8 rfl ?_
    refine zg_get hC (k := 62) (v := .ref (ad 63)) ffX8_7 dX8_term_9 zq62 zk62 rfl ?_
    refine zg_iload_n hC 1 dX8_term_12 rfl ?_
    refine zg_iald hC (k := 63) dX8_term_13 zq63 zk63 (fun h4 => ?_)
    refine zg_goto hC (tgt := 18) dX8_term_14 (by decide) ?_
    exact zg_ret hC hE dX8_term_18
theorem tX8_term {l : Launch} {Z : zZ} {ad : Nat → Nat} (hl : l.stackTraces = false) (d : Nat) (N : Nat) (p1 : Int32) (M : zMem) : zT l Z zfull ad (.code yX8_term cX8_term 2 (some .int)) yX8_term (d + 3) false zbn [.ref (ad 62), .int p1] M (fX8_term N p1 M) :=
  zT_of hl (by decide +kernel) (Nat.le_of_ble_eq_true rfl) (fun X hC hE hN => gX8_term_B0 hC hE hN N p1 M)

def fX8_votedFor (N : Nat) (p1 : Int32) (M : zMem) : zRES :=
  zb (fX8_isTold N p1 M) fun r1 M2 =>
  if r1 = 0 then
    some (.inl 0, M2)
  else
    if zin p1 5 = true then
    some (.inl ((M2.1 65 p1.toNatClampNeg) - 1), M2)
    else none
set_option maxRecDepth 20000 in
set_option maxHeartbeats 2000000 in
theorem gX8_votedFor_B0 {l : Launch} {Z : zZ} {ad : Nat → Nat} {d : Nat} {X : zX} {cs : Nat × Nat} (hC : zC l Z zfull ad X RX8 cX8_votedFor 2 (some .int) (d + 3)) (hE : zEnd Z zfull ad X false) (hN : zNoX X) (N : Nat) (p1 : Int32) (M : zMem) : zG l Z zfull ad X cs 0 [(0, .ref (ad 62)), (1, .int p1)] [] M (fX8_votedFor N p1 M) := by
  unfold fX8_votedFor
  refine zg_aload_n hC 0 dX8_votedFor_0 rfl ?_
  refine zg_iload_n hC 1 dX8_votedFor_1 rfl ?_
  refine zg_callVi hC hE hN (k := 62) (As := [.int p1]) (S := []) rfl (tX8_isTold (zflag hC) d N p1 M) lkX8_138 rfl dX8_votedFor_2 zq62 zk62 rfl rfl (Nat.le_of_ble_eq_true rfl) (fun r1 M2 er1 => ?_)
  refine zg_if_eq hC (tgt := 19) dX8_votedFor_5 (by decide) (fun c3 => ?_) (fun c3 => ?_)
  · refine zg_iconst hC (v := 0) dX8_votedFor_19 (by decide) ?_
    exact zg_ret hC hE dX8_votedFor_20
  · refine zg_aload_n hC 0 dX8_votedFor_8 rfl ?_
    refine zg_get hC (k := 62) (v := .ref (ad 65)) ffX8_16 dX8_votedFor_9 zq62 zk62 rfl ?_
    refine zg_iload_n hC 1 dX8_votedFor_12 rfl ?_
    refine zg_iald hC (k := 65) dX8_votedFor_13 zq65 zk65 (fun h4 => ?_)
    refine zg_iconst hC (v := 1) dX8_votedFor_14 (by decide) ?_
    refine zg_isub hC dX8_votedFor_15 ?_
    refine zg_goto hC (tgt := 20) dX8_votedFor_16 (by decide) ?_
    exact zg_ret hC hE dX8_votedFor_20
theorem tX8_votedFor {l : Launch} {Z : zZ} {ad : Nat → Nat} (hl : l.stackTraces = false) (d : Nat) (N : Nat) (p1 : Int32) (M : zMem) : zT l Z zfull ad (.code yX8_votedFor cX8_votedFor 2 (some .int)) yX8_votedFor (d + 3) false zbn [.ref (ad 62), .int p1] M (fX8_votedFor N p1 M) :=
  zT_of hl (by decide +kernel) (Nat.le_of_ble_eq_true rfl) (fun X hC hE hN => gX8_votedFor_B0 hC hE hN N p1 M)

def fX8_reach_B20 (N : Nat) (v1 : Int32) (v2 : Int32) (s1 : Int32) (M : zMem) : zRES :=
  zl (zsI M 62 30 s1) fun M7 =>
  if (M7.1 62 30) = 0 then
    zb (fX8_areTogether N v1 v2 M7) fun r9 M10 =>
    if r9 = 0 then
      some (.inl 0, M10)
    else
      some (.inl 1, M10)
  else
    some (.inl 0, M7)
def fX8_reach_B19 (N : Nat) (v1 : Int32) (v2 : Int32) (M : zMem) : zRES :=
  fX8_reach_B20 N v1 v2 1 M
def fX8_reach (N : Nat) (p1 : Int32) (p2 : Int32) (M : zMem) : zRES :=
  zb (fX8_isBakery N p1 M) fun r1 M2 =>
  if r1 = 0 then
    fX8_reach_B19 N p1 p2 M2
  else
    zb (fX8_isBakery N p2 M2) fun r4 M5 =>
    if r4 = 0 then
      fX8_reach_B19 N p1 p2 M5
    else
      fX8_reach_B20 N p1 p2 0 M5
set_option maxRecDepth 20000 in
set_option maxHeartbeats 2000000 in
theorem gX8_reach_B20 {l : Launch} {Z : zZ} {ad : Nat → Nat} {d : Nat} {X : zX} {cs : Nat × Nat} (hC : zC l Z zfull ad X RX8 cX8_reach 3 (some .boolean) (d + 2)) (hE : zEnd Z zfull ad X false) (hN : zNoX X) (N : Nat) (v1 : Int32) (v2 : Int32) (s1 : Int32) (M : zMem) : zG l Z zfull ad X cs 20 [(0, .ref (ad 62)), (1, .int v1), (2, .int v2)] [.int s1, .ref (ad 62)] M (fX8_reach_B20 N v1 v2 s1 M) := by
  unfold fX8_reach_B20
  refine zg_putI hC (k := 62) fpX8_82 dX8_reach_20 zq62 zk62 rfl (fun M7 eM7 => ?_)
  refine zg_aload_n hC 0 dX8_reach_23 rfl ?_
  refine zg_get hC (k := 62) (v := .int (M7.1 62 30)) ffX8_82 dX8_reach_24 zq62 zk62 rfl ?_
  refine zg_if_ne hC (tgt := 43) dX8_reach_27 (by decide) (fun c8 => ?_) (fun c8 => ?_)
  · refine zg_aload_n hC 0 dX8_reach_30 rfl ?_
    refine zg_iload_n hC 1 dX8_reach_31 rfl ?_
    refine zg_iload_n hC 2 dX8_reach_32 rfl ?_
    refine zg_callVi hC hE hN (k := 62) (As := [.int v1, .int v2]) (S := []) rfl (tX8_areTogether (zflag hC) (d + 1) N v1 v2 M7) lkX8_105 rfl dX8_reach_33 zq62 zk62 rfl rfl (Nat.le_of_ble_eq_true rfl) (fun r9 M10 er9 => ?_)
    refine zg_if_eq hC (tgt := 43) dX8_reach_36 (by decide) (fun c11 => ?_) (fun c11 => ?_)
    · refine zg_iconst hC (v := 0) dX8_reach_43 (by decide) ?_
      exact zg_retz hC hE (by decide) dX8_reach_44
    · refine zg_iconst hC (v := 1) dX8_reach_39 (by decide) ?_
      refine zg_goto hC (tgt := 44) dX8_reach_40 (by decide) ?_
      exact zg_retz hC hE (by decide) dX8_reach_44
  · refine zg_iconst hC (v := 0) dX8_reach_43 (by decide) ?_
    exact zg_retz hC hE (by decide) dX8_reach_44
set_option maxRecDepth 20000 in
set_option maxHeartbeats 2000000 in
theorem gX8_reach_B19 {l : Launch} {Z : zZ} {ad : Nat → Nat} {d : Nat} {X : zX} {cs : Nat × Nat} (hC : zC l Z zfull ad X RX8 cX8_reach 3 (some .boolean) (d + 2)) (hE : zEnd Z zfull ad X false) (hN : zNoX X) (N : Nat) (v1 : Int32) (v2 : Int32) (M : zMem) : zG l Z zfull ad X cs 19 [(0, .ref (ad 62)), (1, .int v1), (2, .int v2)] [.ref (ad 62)] M (fX8_reach_B19 N v1 v2 M) := by
  unfold fX8_reach_B19
  refine zg_iconst hC (v := 1) dX8_reach_19 (by decide) ?_
  exact zg_sub [0, 1, 2] rfl (gX8_reach_B20 hC hE hN N v1 v2 1 M)
set_option maxRecDepth 20000 in
set_option maxHeartbeats 2000000 in
theorem gX8_reach_B0 {l : Launch} {Z : zZ} {ad : Nat → Nat} {d : Nat} {X : zX} {cs : Nat × Nat} (hC : zC l Z zfull ad X RX8 cX8_reach 3 (some .boolean) (d + 2)) (hE : zEnd Z zfull ad X false) (hN : zNoX X) (N : Nat) (p1 : Int32) (p2 : Int32) (M : zMem) : zG l Z zfull ad X cs 0 [(0, .ref (ad 62)), (1, .int p1), (2, .int p2)] [] M (fX8_reach N p1 p2 M) := by
  unfold fX8_reach
  refine zg_aload_n hC 0 dX8_reach_0 rfl ?_
  refine zg_iload_n hC 1 dX8_reach_1 rfl ?_
  refine zg_callSi hC hE hN (As := [.int p1]) (S := [.ref (ad 62)]) rfl (tX8_isBakery (zflag hC) d N p1 M) lkX8_93 rfl dX8_reach_2 (Nat.le_of_ble_eq_true rfl) (fun r1 M2 er1 => ?_)
  refine zg_if_eq hC (tgt := 19) dX8_reach_5 (by decide) (fun c3 => ?_) (fun c3 => ?_)
  · exact zg_sub [0, 1, 2] rfl (gX8_reach_B19 hC hE hN N p1 p2 M2)
  · refine zg_iload_n hC 2 dX8_reach_8 rfl ?_
    refine zg_callSi hC hE hN (As := [.int p2]) (S := [.ref (ad 62)]) rfl (tX8_isBakery (zflag hC) d N p2 M2) lkX8_93 rfl dX8_reach_9 (Nat.le_of_ble_eq_true rfl) (fun r4 M5 er4 => ?_)
    refine zg_if_eq hC (tgt := 19) dX8_reach_12 (by decide) (fun c6 => ?_) (fun c6 => ?_)
    · exact zg_sub [0, 1, 2] rfl (gX8_reach_B19 hC hE hN N p1 p2 M5)
    · refine zg_iconst hC (v := 0) dX8_reach_15 (by decide) ?_
      refine zg_goto hC (tgt := 20) dX8_reach_16 (by decide) ?_
      exact zg_sub [0, 1, 2] rfl (gX8_reach_B20 hC hE hN N p1 p2 0 M5)
theorem tX8_reach {l : Launch} {Z : zZ} {ad : Nat → Nat} (hl : l.stackTraces = false) (d : Nat) (N : Nat) (p1 : Int32) (p2 : Int32) (M : zMem) : zT l Z zfull ad (.code yX8_reach cX8_reach 3 (some .boolean)) yX8_reach (d + 2) false zbn [.ref (ad 62), .int p1, .int p2] M (fX8_reach N p1 p2 M) :=
  zT_of hl (by decide +kernel) (Nat.le_of_ble_eq_true rfl) (fun X hC hE hN => gX8_reach_B0 hC hE hN N p1 p2 M)

def fX8_entries (N : Nat) (p1 : Int32) (M : zMem) : zRES :=
  zb (fX8_isTold N p1 M) fun r1 M2 =>
  if r1 = 0 then
    some (.inl 0, M2)
  else
    if zin p1 5 = true then
    some (.inl (M2.1 68 p1.toNatClampNeg), M2)
    else none
set_option maxRecDepth 20000 in
set_option maxHeartbeats 2000000 in
theorem gX8_entries_B0 {l : Launch} {Z : zZ} {ad : Nat → Nat} {d : Nat} {X : zX} {cs : Nat × Nat} (hC : zC l Z zfull ad X RX8 cX8_entries 2 (some .int) (d + 3)) (hE : zEnd Z zfull ad X false) (hN : zNoX X) (N : Nat) (p1 : Int32) (M : zMem) : zG l Z zfull ad X cs 0 [(0, .ref (ad 62)), (1, .int p1)] [] M (fX8_entries N p1 M) := by
  unfold fX8_entries
  refine zg_aload_n hC 0 dX8_entries_0 rfl ?_
  refine zg_iload_n hC 1 dX8_entries_1 rfl ?_
  refine zg_callVi hC hE hN (k := 62) (As := [.int p1]) (S := []) rfl (tX8_isTold (zflag hC) d N p1 M) lkX8_138 rfl dX8_entries_2 zq62 zk62 rfl rfl (Nat.le_of_ble_eq_true rfl) (fun r1 M2 er1 => ?_)
  refine zg_if_eq hC (tgt := 17) dX8_entries_5 (by decide) (fun c3 => ?_) (fun c3 => ?_)
  · refine zg_iconst hC (v := 0) dX8_entries_17 (by decide) ?_
    exact zg_ret hC hE dX8_entries_18
  · refine zg_aload_n hC 0 dX8_entries_8 rfl ?_
    refine zg_get hC (k := 62) (v := .ref (ad 68)) ffX8_25 dX8_entries_9 zq62 zk62 rfl ?_
    refine zg_iload_n hC 1 dX8_entries_12 rfl ?_
    refine zg_iald hC (k := 68) dX8_entries_13 zq68 zk68 (fun h4 => ?_)
    refine zg_goto hC (tgt := 18) dX8_entries_14 (by decide) ?_
    exact zg_ret hC hE dX8_entries_18
theorem tX8_entries {l : Launch} {Z : zZ} {ad : Nat → Nat} (hl : l.stackTraces = false) (d : Nat) (N : Nat) (p1 : Int32) (M : zMem) : zT l Z zfull ad (.code yX8_entries cX8_entries 2 (some .int)) yX8_entries (d + 3) false zbn [.ref (ad 62), .int p1] M (fX8_entries N p1 M) :=
  zT_of hl (by decide +kernel) (Nat.le_of_ble_eq_true rfl) (fun X hC hE hN => gX8_entries_B0 hC hE hN N p1 M)

def fX8_versionAt_B29 (N : Nat) (v1 : Int32) (v2 : Int32) (s1 : Int32) (M : zMem) : zRES :=
  zl (zsI M 62 30 s1) fun M8 =>
  if (M8.1 62 30) = 0 then
    if zin (((20 : Int32) * v1) + v2) 100 = true then
    some (.inl (M8.1 67 (((20 : Int32) * v1) + v2).toNatClampNeg), M8)
    else none
  else
    some (.inl 0, M8)
def fX8_versionAt_B24 (N : Nat) (v1 : Int32) (v2 : Int32) (M : zMem) : zRES :=
  fX8_versionAt_B29 N v1 v2 1 M
def fX8_versionAt (N : Nat) (p1 : Int32) (p2 : Int32) (M : zMem) : zRES :=
  zb (fX8_isBakery N p1 M) fun r1 M2 =>
  if r1 = 0 then
    fX8_versionAt_B24 N p1 p2 M2
  else
    if zin p1 5 = true then
    zb (fX8_in N p2 0 ((M2.1 68 p1.toNatClampNeg) - 1) M2) fun r5 M6 =>
    if r5 = 0 then
      fX8_versionAt_B24 N p1 p2 M6
    else
      fX8_versionAt_B29 N p1 p2 0 M6
    else none
set_option maxRecDepth 20000 in
set_option maxHeartbeats 2000000 in
theorem gX8_versionAt_B29 {l : Launch} {Z : zZ} {ad : Nat → Nat} {d : Nat} {X : zX} {cs : Nat × Nat} (hC : zC l Z zfull ad X RX8 cX8_versionAt 3 (some .int) (d + 2)) (hE : zEnd Z zfull ad X false) (hN : zNoX X) (N : Nat) (v1 : Int32) (v2 : Int32) (s1 : Int32) (M : zMem) : zG l Z zfull ad X cs 29 [(0, .ref (ad 62)), (1, .int v1), (2, .int v2)] [.int s1, .ref (ad 62)] M (fX8_versionAt_B29 N v1 v2 s1 M) := by
  unfold fX8_versionAt_B29
  refine zg_putI hC (k := 62) fpX8_82 dX8_versionAt_29 zq62 zk62 rfl (fun M8 eM8 => ?_)
  refine zg_aload_n hC 0 dX8_versionAt_32 rfl ?_
  refine zg_get hC (k := 62) (v := .int (M8.1 62 30)) ffX8_82 dX8_versionAt_33 zq62 zk62 rfl ?_
  refine zg_if_ne hC (tgt := 53) dX8_versionAt_36 (by decide) (fun c9 => ?_) (fun c9 => ?_)
  · refine zg_aload_n hC 0 dX8_versionAt_39 rfl ?_
    refine zg_get hC (k := 62) (v := .ref (ad 67)) ffX8_22 dX8_versionAt_40 zq62 zk62 rfl ?_
    refine zg_bipush hC (v := 20) dX8_versionAt_43 (by decide) ?_
    refine zg_iload_n hC 1 dX8_versionAt_45 rfl ?_
    refine zg_imul hC dX8_versionAt_46 ?_
    refine zg_iload_n hC 2 dX8_versionAt_47 rfl ?_
    refine zg_iadd hC dX8_versionAt_48 ?_
    refine zg_iald hC (k := 67) dX8_versionAt_49 zq67 zk67 (fun h10 => ?_)
    refine zg_goto hC (tgt := 54) dX8_versionAt_50 (by decide) ?_
    exact zg_ret hC hE dX8_versionAt_54
  · refine zg_iconst hC (v := 0) dX8_versionAt_53 (by decide) ?_
    exact zg_ret hC hE dX8_versionAt_54
set_option maxRecDepth 20000 in
set_option maxHeartbeats 2000000 in
theorem gX8_versionAt_B24 {l : Launch} {Z : zZ} {ad : Nat → Nat} {d : Nat} {X : zX} {cs : Nat × Nat} (hC : zC l Z zfull ad X RX8 cX8_versionAt 3 (some .int) (d + 2)) (hE : zEnd Z zfull ad X false) (hN : zNoX X) (N : Nat) (v1 : Int32) (v2 : Int32) (M : zMem) : zG l Z zfull ad X cs 24 [(0, .ref (ad 62)), (1, .int v1), (2, .int v2)] [.ref (ad 62)] M (fX8_versionAt_B24 N v1 v2 M) := by
  unfold fX8_versionAt_B24
  refine zg_iconst hC (v := 1) dX8_versionAt_24 (by decide) ?_
  refine zg_goto hC (tgt := 29) dX8_versionAt_25 (by decide) ?_
  exact zg_sub [0, 1, 2] rfl (gX8_versionAt_B29 hC hE hN N v1 v2 1 M)
set_option maxRecDepth 20000 in
set_option maxHeartbeats 2000000 in
theorem gX8_versionAt_B0 {l : Launch} {Z : zZ} {ad : Nat → Nat} {d : Nat} {X : zX} {cs : Nat × Nat} (hC : zC l Z zfull ad X RX8 cX8_versionAt 3 (some .int) (d + 2)) (hE : zEnd Z zfull ad X false) (hN : zNoX X) (N : Nat) (p1 : Int32) (p2 : Int32) (M : zMem) : zG l Z zfull ad X cs 0 [(0, .ref (ad 62)), (1, .int p1), (2, .int p2)] [] M (fX8_versionAt N p1 p2 M) := by
  unfold fX8_versionAt
  refine zg_aload_n hC 0 dX8_versionAt_0 rfl ?_
  refine zg_iload_n hC 1 dX8_versionAt_1 rfl ?_
  refine zg_callSi hC hE hN (As := [.int p1]) (S := [.ref (ad 62)]) rfl (tX8_isBakery (zflag hC) d N p1 M) lkX8_93 rfl dX8_versionAt_2 (Nat.le_of_ble_eq_true rfl) (fun r1 M2 er1 => ?_)
  refine zg_if_eq hC (tgt := 24) dX8_versionAt_5 (by decide) (fun c3 => ?_) (fun c3 => ?_)
  · exact zg_sub [0, 1, 2] rfl (gX8_versionAt_B24 hC hE hN N p1 p2 M2)
  · refine zg_iload_n hC 2 dX8_versionAt_8 rfl ?_
    refine zg_iconst hC (v := 0) dX8_versionAt_9 (by decide) ?_
    refine zg_aload_n hC 0 dX8_versionAt_10 rfl ?_
    refine zg_get hC (k := 62) (v := .ref (ad 68)) ffX8_25 dX8_versionAt_11 zq62 zk62 rfl ?_
    refine zg_iload_n hC 1 dX8_versionAt_14 rfl ?_
    refine zg_iald hC (k := 68) dX8_versionAt_15 zq68 zk68 (fun h4 => ?_)
    refine zg_iconst hC (v := 1) dX8_versionAt_16 (by decide) ?_
    refine zg_isub hC dX8_versionAt_17 ?_
    refine zg_callSi hC hE hN (As := [.int p2, .int 0, .int ((M2.1 68 p1.toNatClampNeg) - 1)]) (S := [.ref (ad 62)]) rfl (tX8_in (zflag hC) (d + 1) N p2 0 ((M2.1 68 p1.toNatClampNeg) - 1) M2) lkX8_86 rfl dX8_versionAt_18 (Nat.le_of_ble_eq_true rfl) (fun r5 M6 er5 => ?_)
    refine zg_if_ne hC (tgt := 28) dX8_versionAt_21 (by decide) (fun c7 => ?_) (fun c7 => ?_)
    · exact zg_sub [0, 1, 2] rfl (gX8_versionAt_B24 hC hE hN N p1 p2 M6)
    · refine zg_iconst hC (v := 0) dX8_versionAt_28 (by decide) ?_
      exact zg_sub [0, 1, 2] rfl (gX8_versionAt_B29 hC hE hN N p1 p2 0 M6)
theorem tX8_versionAt {l : Launch} {Z : zZ} {ad : Nat → Nat} (hl : l.stackTraces = false) (d : Nat) (N : Nat) (p1 : Int32) (p2 : Int32) (M : zMem) : zT l Z zfull ad (.code yX8_versionAt cX8_versionAt 3 (some .int)) yX8_versionAt (d + 2) false zbn [.ref (ad 62), .int p1, .int p2] M (fX8_versionAt N p1 p2 M) :=
  zT_of hl (by decide +kernel) (Nat.le_of_ble_eq_true rfl) (fun X hC hE hN => gX8_versionAt_B0 hC hE hN N p1 p2 M)

def fX8_versions (N : Nat) (M : zMem) : zRES :=
  zl (zsI M 62 30 0) fun M1 =>
  some (.inl (M1.1 62 7), M1)
set_option maxRecDepth 20000 in
set_option maxHeartbeats 2000000 in
theorem gX8_versions_B0 {l : Launch} {Z : zZ} {ad : Nat → Nat} {d : Nat} {X : zX} {cs : Nat × Nat} (hC : zC l Z zfull ad X RX8 cX8_versions 1 (some .int) (d + 0)) (hE : zEnd Z zfull ad X false) (hN : zNoX X) (N : Nat) (M : zMem) : zG l Z zfull ad X cs 0 [(0, .ref (ad 62))] [] M (fX8_versions N M) := by
  unfold fX8_versions
  refine zg_aload_n hC 0 dX8_versions_0 rfl ?_
  refine zg_iconst hC (v := 0) dX8_versions_1 (by decide) ?_
  refine zg_putI hC (k := 62) fpX8_82 dX8_versions_2 zq62 zk62 rfl (fun M1 eM1 => ?_)
  refine zg_aload_n hC 0 dX8_versions_5 rfl ?_
  refine zg_get hC (k := 62) (v := .int (M1.1 62 7)) ffX8_116 dX8_versions_6 zq62 zk62 rfl ?_
  exact zg_ret hC hE dX8_versions_9
theorem tX8_versions {l : Launch} {Z : zZ} {ad : Nat → Nat} (hl : l.stackTraces = false) (d : Nat) (N : Nat) (M : zMem) : zT l Z zfull ad (.code yX8_versions cX8_versions 1 (some .int)) yX8_versions (d + 0) false zbn [.ref (ad 62)] M (fX8_versions N M) :=
  zT_of hl (by decide +kernel) (Nat.le_of_ble_eq_true rfl) (fun X hC hE hN => gX8_versions_B0 hC hE hN N M)

def fX8_isVersion_B20 (N : Nat) (s1 : Int32) (M : zMem) : zRES :=
  zl (zsI M 62 30 s1) fun M4 =>
  if (M4.1 62 30) = 0 then
    some (.inl 1, M4)
  else
    some (.inl 0, M4)
def fX8_isVersion (N : Nat) (p1 : Int32) (M : zMem) : zRES :=
  zb (fX8_in N p1 0 ((M.1 62 7) - 1) M) fun r1 M2 =>
  if r1 = 0 then
    fX8_isVersion_B20 N 1 M2
  else
    fX8_isVersion_B20 N 0 M2
set_option maxRecDepth 20000 in
set_option maxHeartbeats 2000000 in
theorem gX8_isVersion_B20 {l : Launch} {Z : zZ} {ad : Nat → Nat} {d : Nat} {X : zX} {cs : Nat × Nat} (hC : zC l Z zfull ad X RX8 cX8_isVersion 2 (some .boolean) (d + 1)) (hE : zEnd Z zfull ad X false) (hN : zNoX X) (N : Nat) (s1 : Int32) (M : zMem) : zG l Z zfull ad X cs 20 [(0, .ref (ad 62))] [.int s1, .ref (ad 62)] M (fX8_isVersion_B20 N s1 M) := by
  unfold fX8_isVersion_B20
  refine zg_putI hC (k := 62) fpX8_82 dX8_isVersion_20 zq62 zk62 rfl (fun M4 eM4 => ?_)
  refine zg_aload_n hC 0 dX8_isVersion_23 rfl ?_
  refine zg_get hC (k := 62) (v := .int (M4.1 62 30)) ffX8_82 dX8_isVersion_24 zq62 zk62 rfl ?_
  refine zg_if_ne hC (tgt := 34) dX8_isVersion_27 (by decide) (fun c5 => ?_) (fun c5 => ?_)
  · refine zg_iconst hC (v := 1) dX8_isVersion_30 (by decide) ?_
    refine zg_goto hC (tgt := 35) dX8_isVersion_31 (by decide) ?_
    exact zg_retz hC hE (by decide) dX8_isVersion_35
  · refine zg_iconst hC (v := 0) dX8_isVersion_34 (by decide) ?_
    exact zg_retz hC hE (by decide) dX8_isVersion_35
set_option maxRecDepth 20000 in
set_option maxHeartbeats 2000000 in
theorem gX8_isVersion_B0 {l : Launch} {Z : zZ} {ad : Nat → Nat} {d : Nat} {X : zX} {cs : Nat × Nat} (hC : zC l Z zfull ad X RX8 cX8_isVersion 2 (some .boolean) (d + 1)) (hE : zEnd Z zfull ad X false) (hN : zNoX X) (N : Nat) (p1 : Int32) (M : zMem) : zG l Z zfull ad X cs 0 [(0, .ref (ad 62)), (1, .int p1)] [] M (fX8_isVersion N p1 M) := by
  unfold fX8_isVersion
  refine zg_aload_n hC 0 dX8_isVersion_0 rfl ?_
  refine zg_iload_n hC 1 dX8_isVersion_1 rfl ?_
  refine zg_iconst hC (v := 0) dX8_isVersion_2 (by decide) ?_
  refine zg_aload_n hC 0 dX8_isVersion_3 rfl ?_
  refine zg_get hC (k := 62) (v := .int (M.1 62 7)) ffX8_116 dX8_isVersion_4 zq62 zk62 rfl ?_
  refine zg_iconst hC (v := 1) dX8_isVersion_7 (by decide) ?_
  refine zg_isub hC dX8_isVersion_8 ?_
  refine zg_callSi hC hE hN (As := [.int p1, .int 0, .int ((M.1 62 7) - 1)]) (S := [.ref (ad 62)]) rfl (tX8_in (zflag hC) d N p1 0 ((M.1 62 7) - 1) M) lkX8_86 rfl dX8_isVersion_9 (Nat.le_of_ble_eq_true rfl) (fun r1 M2 er1 => ?_)
  refine zg_if_eq hC (tgt := 19) dX8_isVersion_12 (by decide) (fun c3 => ?_) (fun c3 => ?_)
  · refine zg_iconst hC (v := 1) dX8_isVersion_19 (by decide) ?_
    exact zg_sub [0] rfl (gX8_isVersion_B20 hC hE hN N 1 M2)
  · refine zg_iconst hC (v := 0) dX8_isVersion_15 (by decide) ?_
    refine zg_goto hC (tgt := 20) dX8_isVersion_16 (by decide) ?_
    exact zg_sub [0] rfl (gX8_isVersion_B20 hC hE hN N 0 M2)
theorem tX8_isVersion {l : Launch} {Z : zZ} {ad : Nat → Nat} (hl : l.stackTraces = false) (d : Nat) (N : Nat) (p1 : Int32) (M : zMem) : zT l Z zfull ad (.code yX8_isVersion cX8_isVersion 2 (some .boolean)) yX8_isVersion (d + 1) false zbn [.ref (ad 62), .int p1] M (fX8_isVersion N p1 M) :=
  zT_of hl (by decide +kernel) (Nat.le_of_ble_eq_true rfl) (fun X hC hE hN => gX8_isVersion_B0 hC hE hN N p1 M)

def fX8_termOf (N : Nat) (p1 : Int32) (M : zMem) : zRES :=
  zb (fX8_isVersion N p1 M) fun r1 M2 =>
  if r1 = 0 then
    some (.inl 0, M2)
  else
    if zin p1 60 = true then
    some (.inl (M2.1 69 p1.toNatClampNeg), M2)
    else none
set_option maxRecDepth 20000 in
set_option maxHeartbeats 2000000 in
theorem gX8_termOf_B0 {l : Launch} {Z : zZ} {ad : Nat → Nat} {d : Nat} {X : zX} {cs : Nat × Nat} (hC : zC l Z zfull ad X RX8 cX8_termOf 2 (some .int) (d + 2)) (hE : zEnd Z zfull ad X false) (hN : zNoX X) (N : Nat) (p1 : Int32) (M : zMem) : zG l Z zfull ad X cs 0 [(0, .ref (ad 62)), (1, .int p1)] [] M (fX8_termOf N p1 M) := by
  unfold fX8_termOf
  refine zg_aload_n hC 0 dX8_termOf_0 rfl ?_
  refine zg_iload_n hC 1 dX8_termOf_1 rfl ?_
  refine zg_callVi hC hE hN (k := 62) (As := [.int p1]) (S := []) rfl (tX8_isVersion (zflag hC) d N p1 M) lkX8_141 rfl dX8_termOf_2 zq62 zk62 rfl rfl (Nat.le_of_ble_eq_true rfl) (fun r1 M2 er1 => ?_)
  refine zg_if_eq hC (tgt := 17) dX8_termOf_5 (by decide) (fun c3 => ?_) (fun c3 => ?_)
  · refine zg_iconst hC (v := 0) dX8_termOf_17 (by decide) ?_
    exact zg_ret hC hE dX8_termOf_18
  · refine zg_aload_n hC 0 dX8_termOf_8 rfl ?_
    refine zg_get hC (k := 62) (v := .ref (ad 69)) ffX8_28 dX8_termOf_9 zq62 zk62 rfl ?_
    refine zg_iload_n hC 1 dX8_termOf_12 rfl ?_
    refine zg_iald hC (k := 69) dX8_termOf_13 zq69 zk69 (fun h4 => ?_)
    refine zg_goto hC (tgt := 18) dX8_termOf_14 (by decide) ?_
    exact zg_ret hC hE dX8_termOf_18
theorem tX8_termOf {l : Launch} {Z : zZ} {ad : Nat → Nat} (hl : l.stackTraces = false) (d : Nat) (N : Nat) (p1 : Int32) (M : zMem) : zT l Z zfull ad (.code yX8_termOf cX8_termOf 2 (some .int)) yX8_termOf (d + 2) false zbn [.ref (ad 62), .int p1] M (fX8_termOf N p1 M) :=
  zT_of hl (by decide +kernel) (Nat.le_of_ble_eq_true rfl) (fun X hC hE hN => gX8_termOf_B0 hC hE hN N p1 M)

def fX8_holders (N : Nat) (p1 : Int32) (M : zMem) : zRES :=
  zb (fX8_isVersion N p1 M) fun r1 M2 =>
  if r1 = 0 then
    some (.inl 0, M2)
  else
    zb (fX8_holdersOf N p1 M2) fun r4 M5 =>
    some (.inl r4, M5)
set_option maxRecDepth 20000 in
set_option maxHeartbeats 2000000 in
theorem gX8_holders_B0 {l : Launch} {Z : zZ} {ad : Nat → Nat} {d : Nat} {X : zX} {cs : Nat × Nat} (hC : zC l Z zfull ad X RX8 cX8_holders 2 (some .int) (d + 2)) (hE : zEnd Z zfull ad X false) (hN : zNoX X) (N : Nat) (p1 : Int32) (M : zMem) : zG l Z zfull ad X cs 0 [(0, .ref (ad 62)), (1, .int p1)] [] M (fX8_holders N p1 M) := by
  unfold fX8_holders
  refine zg_aload_n hC 0 dX8_holders_0 rfl ?_
  refine zg_iload_n hC 1 dX8_holders_1 rfl ?_
  refine zg_callVi hC hE hN (k := 62) (As := [.int p1]) (S := []) rfl (tX8_isVersion (zflag hC) d N p1 M) lkX8_141 rfl dX8_holders_2 zq62 zk62 rfl rfl (Nat.le_of_ble_eq_true rfl) (fun r1 M2 er1 => ?_)
  refine zg_if_eq hC (tgt := 16) dX8_holders_5 (by decide) (fun c3 => ?_) (fun c3 => ?_)
  · refine zg_iconst hC (v := 0) dX8_holders_16 (by decide) ?_
    exact zg_ret hC hE dX8_holders_17
  · refine zg_aload_n hC 0 dX8_holders_8 rfl ?_
    refine zg_iload_n hC 1 dX8_holders_9 rfl ?_
    refine zg_callVi hC hE hN (k := 62) (As := [.int p1]) (S := []) rfl (tX8_holdersOf (zflag hC) (d + 1) N p1 M2) lkX8_119 rfl dX8_holders_10 zq62 zk62 rfl rfl (Nat.le_of_ble_eq_true rfl) (fun r4 M5 er4 => ?_)
    refine zg_goto hC (tgt := 17) dX8_holders_13 (by decide) ?_
    exact zg_ret hC hE dX8_holders_17
theorem tX8_holders {l : Launch} {Z : zZ} {ad : Nat → Nat} (hl : l.stackTraces = false) (d : Nat) (N : Nat) (p1 : Int32) (M : zMem) : zT l Z zfull ad (.code yX8_holders cX8_holders 2 (some .int)) yX8_holders (d + 2) false zbn [.ref (ad 62), .int p1] M (fX8_holders N p1 M) :=
  zT_of hl (by decide +kernel) (Nat.le_of_ble_eq_true rfl) (fun X hC hE hN => gX8_holders_B0 hC hE hN N p1 M)

def fX8_isHeld (N : Nat) (p1 : Int32) (M : zMem) : zRES :=
  zb (fX8_isVersion N p1 M) fun r1 M2 =>
  if r1 = 0 then
    some (.inl 0, M2)
  else
    zb (fX8_isHeldNow N p1 M2) fun r4 M5 =>
    if r4 = 0 then
      some (.inl 0, M5)
    else
      some (.inl 1, M5)
set_option maxRecDepth 20000 in
set_option maxHeartbeats 2000000 in
theorem gX8_isHeld_B0 {l : Launch} {Z : zZ} {ad : Nat → Nat} {d : Nat} {X : zX} {cs : Nat × Nat} (hC : zC l Z zfull ad X RX8 cX8_isHeld 2 (some .boolean) (d + 2)) (hE : zEnd Z zfull ad X false) (hN : zNoX X) (N : Nat) (p1 : Int32) (M : zMem) : zG l Z zfull ad X cs 0 [(0, .ref (ad 62)), (1, .int p1)] [] M (fX8_isHeld N p1 M) := by
  unfold fX8_isHeld
  refine zg_aload_n hC 0 dX8_isHeld_0 rfl ?_
  refine zg_iload_n hC 1 dX8_isHeld_1 rfl ?_
  refine zg_callVi hC hE hN (k := 62) (As := [.int p1]) (S := []) rfl (tX8_isVersion (zflag hC) d N p1 M) lkX8_141 rfl dX8_isHeld_2 zq62 zk62 rfl rfl (Nat.le_of_ble_eq_true rfl) (fun r1 M2 er1 => ?_)
  refine zg_if_eq hC (tgt := 20) dX8_isHeld_5 (by decide) (fun c3 => ?_) (fun c3 => ?_)
  · refine zg_iconst hC (v := 0) dX8_isHeld_20 (by decide) ?_
    exact zg_retz hC hE (by decide) dX8_isHeld_21
  · refine zg_aload_n hC 0 dX8_isHeld_8 rfl ?_
    refine zg_iload_n hC 1 dX8_isHeld_9 rfl ?_
    refine zg_callVi hC hE hN (k := 62) (As := [.int p1]) (S := []) rfl (tX8_isHeldNow (zflag hC) d N p1 M2) lkX8_125 rfl dX8_isHeld_10 zq62 zk62 rfl rfl (Nat.le_of_ble_eq_true rfl) (fun r4 M5 er4 => ?_)
    refine zg_if_eq hC (tgt := 20) dX8_isHeld_13 (by decide) (fun c6 => ?_) (fun c6 => ?_)
    · refine zg_iconst hC (v := 0) dX8_isHeld_20 (by decide) ?_
      exact zg_retz hC hE (by decide) dX8_isHeld_21
    · refine zg_iconst hC (v := 1) dX8_isHeld_16 (by decide) ?_
      refine zg_goto hC (tgt := 21) dX8_isHeld_17 (by decide) ?_
      exact zg_retz hC hE (by decide) dX8_isHeld_21
theorem tX8_isHeld {l : Launch} {Z : zZ} {ad : Nat → Nat} (hl : l.stackTraces = false) (d : Nat) (N : Nat) (p1 : Int32) (M : zMem) : zT l Z zfull ad (.code yX8_isHeld cX8_isHeld 2 (some .boolean)) yX8_isHeld (d + 2) false zbn [.ref (ad 62), .int p1] M (fX8_isHeld N p1 M) :=
  zT_of hl (by decide +kernel) (Nat.le_of_ble_eq_true rfl) (fun X hC hE hN => gX8_isHeld_B0 hC hE hN N p1 M)

def fX8_wasHeld_B26 (N : Nat) (M : zMem) : zRES :=
  some (.inl 1, M)
def fX8_wasHeld (N : Nat) (p1 : Int32) (M : zMem) : zRES :=
  zb (fX8_isVersion N p1 M) fun r1 M2 =>
  if r1 = 0 then
    some (.inl 0, M2)
  else
    if zin p1 60 = true then
    if (M2.1 73 p1.toNatClampNeg) = 1 then
      fX8_wasHeld_B26 N M2
    else
      zb (fX8_isHeldNow N p1 M2) fun r6 M7 =>
      if r6 = 0 then
        some (.inl 0, M7)
      else
        fX8_wasHeld_B26 N M7
    else none
set_option maxRecDepth 20000 in
set_option maxHeartbeats 2000000 in
theorem gX8_wasHeld_B26 {l : Launch} {Z : zZ} {ad : Nat → Nat} {d : Nat} {X : zX} {cs : Nat × Nat} (hC : zC l Z zfull ad X RX8 cX8_wasHeld 2 (some .boolean) (d + 2)) (hE : zEnd Z zfull ad X false) (hN : zNoX X) (N : Nat) (M : zMem) : zG l Z zfull ad X cs 26 [] [] M (fX8_wasHeld_B26 N M) := by
  unfold fX8_wasHeld_B26
  refine zg_iconst hC (v := 1) dX8_wasHeld_26 (by decide) ?_
  refine zg_goto hC (tgt := 31) dX8_wasHeld_27 (by decide) ?_
  exact zg_retz hC hE (by decide) dX8_wasHeld_31
set_option maxRecDepth 20000 in
set_option maxHeartbeats 2000000 in
theorem gX8_wasHeld_B0 {l : Launch} {Z : zZ} {ad : Nat → Nat} {d : Nat} {X : zX} {cs : Nat × Nat} (hC : zC l Z zfull ad X RX8 cX8_wasHeld 2 (some .boolean) (d + 2)) (hE : zEnd Z zfull ad X false) (hN : zNoX X) (N : Nat) (p1 : Int32) (M : zMem) : zG l Z zfull ad X cs 0 [(0, .ref (ad 62)), (1, .int p1)] [] M (fX8_wasHeld N p1 M) := by
  unfold fX8_wasHeld
  refine zg_aload_n hC 0 dX8_wasHeld_0 rfl ?_
  refine zg_iload_n hC 1 dX8_wasHeld_1 rfl ?_
  refine zg_callVi hC hE hN (k := 62) (As := [.int p1]) (S := []) rfl (tX8_isVersion (zflag hC) d N p1 M) lkX8_141 rfl dX8_wasHeld_2 zq62 zk62 rfl rfl (Nat.le_of_ble_eq_true rfl) (fun r1 M2 er1 => ?_)
  refine zg_if_eq hC (tgt := 30) dX8_wasHeld_5 (by decide) (fun c3 => ?_) (fun c3 => ?_)
  · refine zg_iconst hC (v := 0) dX8_wasHeld_30 (by decide) ?_
    exact zg_retz hC hE (by decide) dX8_wasHeld_31
  · refine zg_aload_n hC 0 dX8_wasHeld_8 rfl ?_
    refine zg_get hC (k := 62) (v := .ref (ad 73)) ffX8_40 dX8_wasHeld_9 zq62 zk62 rfl ?_
    refine zg_iload_n hC 1 dX8_wasHeld_12 rfl ?_
    refine zg_iald hC (k := 73) dX8_wasHeld_13 zq73 zk73 (fun h4 => ?_)
    refine zg_iconst hC (v := 1) dX8_wasHeld_14 (by decide) ?_
    refine zg_icmp_eq hC (tgt := 26) dX8_wasHeld_15 (by decide) (fun c5 => ?_) (fun c5 => ?_)
    · exact zg_sub [] rfl (gX8_wasHeld_B26 hC hE hN N M2)
    · refine zg_aload_n hC 0 dX8_wasHeld_18 rfl ?_
      refine zg_iload_n hC 1 dX8_wasHeld_19 rfl ?_
      refine zg_callVi hC hE hN (k := 62) (As := [.int p1]) (S := []) rfl (tX8_isHeldNow (zflag hC) d N p1 M2) lkX8_125 rfl dX8_wasHeld_20 zq62 zk62 rfl rfl (Nat.le_of_ble_eq_true rfl) (fun r6 M7 er6 => ?_)
      refine zg_if_eq hC (tgt := 30) dX8_wasHeld_23 (by decide) (fun c8 => ?_) (fun c8 => ?_)
      · refine zg_iconst hC (v := 0) dX8_wasHeld_30 (by decide) ?_
        exact zg_retz hC hE (by decide) dX8_wasHeld_31
      · exact zg_sub [] rfl (gX8_wasHeld_B26 hC hE hN N M7)
theorem tX8_wasHeld {l : Launch} {Z : zZ} {ad : Nat → Nat} (hl : l.stackTraces = false) (d : Nat) (N : Nat) (p1 : Int32) (M : zMem) : zT l Z zfull ad (.code yX8_wasHeld cX8_wasHeld 2 (some .boolean)) yX8_wasHeld (d + 2) false zbn [.ref (ad 62), .int p1] M (fX8_wasHeld N p1 M) :=
  zT_of hl (by decide +kernel) (Nat.le_of_ble_eq_true rfl) (fun X hC hE hN => gX8_wasHeld_B0 hC hE hN N p1 M)

def fX8_currentOf_B56 (N : Nat) (again5 : Int32 → Int32 → Int32 → Int32 → zMem → zRES) (v1 : Int32) (v2 : Int32) (v4 : Int32) (s0 : Int32) (M : zMem) : zRES :=
  again5 v1 v2 s0 (v4 + 1) M
def fX8_currentOf_B55 (N : Nat) (again5 : Int32 → Int32 → Int32 → Int32 → zMem → zRES) (v1 : Int32) (v2 : Int32) (v3 : Int32) (v4 : Int32) (M : zMem) : zRES :=
  fX8_currentOf_B56 N again5 v1 v2 v4 v3 M
def fX8_currentOf_B5 (N : Nat) : Nat → Int32 → Int32 → Int32 → Int32 → zMem → zRES
  | 0, _, _, _, _, _ => none
  | n + 1, v1, v2, v3, v4, M =>
  if zin v1 5 = true then
  if (M.1 68 v1.toNatClampNeg) ≤ v4 then
    some (.inl v3, M)
  else
    if zin (((20 : Int32) * v1) + v4) 100 = true then
    zv (M.1 67 (((20 : Int32) * v1) + v4).toNatClampNeg) fun x4 =>
    if zin x4 60 = true then
    if (M.1 70 x4.toNatClampNeg) = v2 then
      zb (fX8_isHeldNow N x4 M) fun r7 M8 =>
      if r7 = 0 then
        fX8_currentOf_B55 N (fX8_currentOf_B5 N n) v1 v2 v3 v4 M8
      else
        fX8_currentOf_B56 N (fX8_currentOf_B5 N n) v1 v2 v4 x4 M8
    else
      fX8_currentOf_B55 N (fX8_currentOf_B5 N n) v1 v2 v3 v4 M
    else none
    else none
  else none
def fX8_currentOf (N : Nat) (p1 : Int32) (p2 : Int32) (M : zMem) : zRES :=
  fX8_currentOf_B5 N N p1 p2 (-1) 0 M
set_option maxRecDepth 20000 in
set_option maxHeartbeats 2000000 in
theorem gX8_currentOf_B56 {l : Launch} {Z : zZ} {ad : Nat → Nat} {d : Nat} {X : zX} {cs : Nat × Nat} (hC : zC l Z zfull ad X RX8 cX8_currentOf 6 (some .int) (d + 2)) (hE : zEnd Z zfull ad X false) (hN : zNoX X) (N : Nat) {again5 : Int32 → Int32 → Int32 → Int32 → zMem → zRES} (hag5 : ∀ v1 v2 v3 v4 M, zG l Z zfull ad X cs 5 [(0, .ref (ad 62)), (1, .int v1), (2, .int v2), (3, .int v3), (4, .int v4)] [] M (again5 v1 v2 v3 v4 M)) (v1 : Int32) (v2 : Int32) (v4 : Int32) (s0 : Int32) (M : zMem) : zG l Z zfull ad X cs 56 [(0, .ref (ad 62)), (1, .int v1), (2, .int v2), (4, .int v4)] [.int s0] M (fX8_currentOf_B56 N again5 v1 v2 v4 s0 M) := by
  unfold fX8_currentOf_B56
  refine zg_istore_n hC (L' := [(3, _), (0, _), (1, _), (2, _), (4, _)]) dX8_currentOf_56 (by decide) rfl ?_
  refine zg_iinc hC 4 (v := v4 + 1) (L' := [(4, _), (3, _), (0, _), (1, _), (2, _)]) dX8_currentOf_57 rfl (by rfl) (by decide) rfl ?_
  refine zg_goto hC (tgt := 5) dX8_currentOf_60 (by decide) ?_
  exact zg_sub [2, 3, 4, 1, 0] rfl (hag5 v1 v2 s0 (v4 + 1) M)
set_option maxRecDepth 20000 in
set_option maxHeartbeats 2000000 in
theorem gX8_currentOf_B55 {l : Launch} {Z : zZ} {ad : Nat → Nat} {d : Nat} {X : zX} {cs : Nat × Nat} (hC : zC l Z zfull ad X RX8 cX8_currentOf 6 (some .int) (d + 2)) (hE : zEnd Z zfull ad X false) (hN : zNoX X) (N : Nat) {again5 : Int32 → Int32 → Int32 → Int32 → zMem → zRES} (hag5 : ∀ v1 v2 v3 v4 M, zG l Z zfull ad X cs 5 [(0, .ref (ad 62)), (1, .int v1), (2, .int v2), (3, .int v3), (4, .int v4)] [] M (again5 v1 v2 v3 v4 M)) (v1 : Int32) (v2 : Int32) (v3 : Int32) (v4 : Int32) (M : zMem) : zG l Z zfull ad X cs 55 [(0, .ref (ad 62)), (1, .int v1), (2, .int v2), (3, .int v3), (4, .int v4)] [] M (fX8_currentOf_B55 N again5 v1 v2 v3 v4 M) := by
  unfold fX8_currentOf_B55
  refine zg_iload_n hC 3 dX8_currentOf_55 rfl ?_
  exact zg_sub [0, 1, 2, 4] rfl (gX8_currentOf_B56 hC hE hN N hag5 v1 v2 v4 v3 M)
set_option maxRecDepth 20000 in
set_option maxHeartbeats 2000000 in
theorem gX8_currentOf_B5 {l : Launch} {Z : zZ} {ad : Nat → Nat} {d : Nat} {X : zX} {cs : Nat × Nat} (hC : zC l Z zfull ad X RX8 cX8_currentOf 6 (some .int) (d + 2)) (hE : zEnd Z zfull ad X false) (hN : zNoX X) (N : Nat) : ∀ (n : Nat) (v1 : Int32) (v2 : Int32) (v3 : Int32) (v4 : Int32) (M : zMem), zG l Z zfull ad X cs 5 [(0, .ref (ad 62)), (1, .int v1), (2, .int v2), (3, .int v3), (4, .int v4)] [] M (fX8_currentOf_B5 N n v1 v2 v3 v4 M) := by
  intro n
  induction n with
  | zero =>
    intro v1 v2 v3 v4 M
    exact zg_none
  | succ n ih =>
  intro v1 v2 v3 v4 M
  rw [fX8_currentOf_B5]
  refine zg_iload hC 4 dX8_currentOf_5 rfl ?_
  refine zg_aload_n hC 0 dX8_currentOf_7 rfl ?_
  refine zg_get hC (k := 62) (v := .ref (ad 68)) ffX8_25 dX8_currentOf_8 zq62 zk62 rfl ?_
  refine zg_iload_n hC 1 dX8_currentOf_11 rfl ?_
  refine zg_iald hC (k := 68) dX8_currentOf_12 zq68 zk68 (fun h1 => ?_)
  refine zg_icmp_ge hC (tgt := 63) dX8_currentOf_13 (by decide) (fun c2 => ?_) (fun c2 => ?_)
  · refine zg_iload_n hC 3 dX8_currentOf_63 rfl ?_
    exact zg_ret hC hE dX8_currentOf_64
  · refine zg_aload_n hC 0 dX8_currentOf_16 rfl ?_
    refine zg_get hC (k := 62) (v := .ref (ad 67)) ffX8_22 dX8_currentOf_17 zq62 zk62 rfl ?_
    refine zg_bipush hC (v := 20) dX8_currentOf_20 (by decide) ?_
    refine zg_iload_n hC 1 dX8_currentOf_22 rfl ?_
    refine zg_imul hC dX8_currentOf_23 ?_
    refine zg_iload hC 4 dX8_currentOf_24 rfl ?_
    refine zg_iadd hC dX8_currentOf_26 ?_
    refine zg_iald hC (k := 67) dX8_currentOf_27 zq67 zk67 (fun h3 => ?_)
    refine zg_nm (fun x4 ex4 => ?_)
    refine zg_istore hC (L' := [(5, _), (0, _), (1, _), (2, _), (3, _), (4, _)]) dX8_currentOf_28 (by decide) rfl ?_
    refine zg_aload_n hC 1 dX8_currentOf_30 rfl ?_
    refine zg_get hC (k := 62) (v := .ref (ad 70)) ffX8_31 dX8_currentOf_31 zq62 zk62 rfl ?_
    refine zg_iload hC 0 dX8_currentOf_34 rfl ?_
    refine zg_iald hC (k := 70) dX8_currentOf_36 zq70 zk70 (fun h5 => ?_)
    refine zg_iload_n hC 3 dX8_currentOf_37 rfl ?_
    refine zg_icmp_ne hC (tgt := 55) dX8_currentOf_38 (by decide) (fun c6 => ?_) (fun c6 => ?_)
    · refine zg_aload_n hC 1 dX8_currentOf_41 rfl ?_
      refine zg_iload hC 0 dX8_currentOf_42 rfl ?_
      refine zg_callVi hC hE hN (k := 62) (As := [.int x4]) (S := []) rfl (tX8_isHeldNow (zflag hC) d N x4 M) lkX8_125 rfl dX8_currentOf_44 zq62 zk62 rfl rfl (Nat.le_of_ble_eq_true rfl) (fun r7 M8 er7 => ?_)
      refine zg_if_eq hC (tgt := 55) dX8_currentOf_47 (by decide) (fun c9 => ?_) (fun c9 => ?_)
      · exact zg_sub [1, 2, 3, 4, 5] rfl (gX8_currentOf_B55 hC hE hN N ih v1 v2 v3 v4 M8)
      · refine zg_iload hC 0 dX8_currentOf_50 rfl ?_
        refine zg_goto hC (tgt := 56) dX8_currentOf_52 (by decide) ?_
        exact zg_sub [1, 2, 3, 5] rfl (gX8_currentOf_B56 hC hE hN N ih v1 v2 v4 x4 M8)
    · exact zg_sub [1, 2, 3, 4, 5] rfl (gX8_currentOf_B55 hC hE hN N ih v1 v2 v3 v4 M)
set_option maxRecDepth 20000 in
set_option maxHeartbeats 2000000 in
theorem gX8_currentOf_B0 {l : Launch} {Z : zZ} {ad : Nat → Nat} {d : Nat} {X : zX} {cs : Nat × Nat} (hC : zC l Z zfull ad X RX8 cX8_currentOf 6 (some .int) (d + 2)) (hE : zEnd Z zfull ad X false) (hN : zNoX X) (N : Nat) (p1 : Int32) (p2 : Int32) (M : zMem) : zG l Z zfull ad X cs 0 [(0, .ref (ad 62)), (1, .int p1), (2, .int p2)] [] M (fX8_currentOf N p1 p2 M) := by
  unfold fX8_currentOf
  refine zg_iconst hC (v := (-1)) dX8_currentOf_0 (by decide) ?_
  refine zg_istore_n hC (L' := [(3, _), (0, _), (1, _), (2, _)]) dX8_currentOf_1 (by decide) rfl ?_
  refine zg_iconst hC (v := 0) dX8_currentOf_2 (by decide) ?_
  refine zg_istore hC (L' := [(4, _), (3, _), (0, _), (1, _), (2, _)]) dX8_currentOf_3 (by decide) rfl ?_
  exact zg_sub [2, 3, 4, 1, 0] rfl (gX8_currentOf_B5 hC hE hN N N p1 p2 (-1) 0 M)
theorem tX8_currentOf {l : Launch} {Z : zZ} {ad : Nat → Nat} (hl : l.stackTraces = false) (d : Nat) (N : Nat) (p1 : Int32) (p2 : Int32) (M : zMem) : zT l Z zfull ad (.code yX8_currentOf cX8_currentOf 6 (some .int)) yX8_currentOf (d + 2) false zbn [.ref (ad 62), .int p1, .int p2] M (fX8_currentOf N p1 p2 M) :=
  zT_of hl (by decide +kernel) (Nat.le_of_ble_eq_true rfl) (fun X hC hE hN => gX8_currentOf_B0 hC hE hN N p1 p2 M)

def fX8_current_B22 (N : Nat) (v1 : Int32) (v2 : Int32) (s1 : Int32) (M : zMem) : zRES :=
  zl (zsI M 62 30 s1) fun M7 =>
  if (M7.1 62 30) = 0 then
    zb (fX8_currentOf N v1 v2 M7) fun r9 M10 =>
    some (.inl r9, M10)
  else
    some (.inl 0, M7)
def fX8_current_B21 (N : Nat) (v1 : Int32) (v2 : Int32) (M : zMem) : zRES :=
  fX8_current_B22 N v1 v2 1 M
def fX8_current (N : Nat) (p1 : Int32) (p2 : Int32) (M : zMem) : zRES :=
  zb (fX8_isBakery N p1 M) fun r1 M2 =>
  if r1 = 0 then
    fX8_current_B21 N p1 p2 M2
  else
    zb (fX8_in N p2 0 5 M2) fun r4 M5 =>
    if r4 = 0 then
      fX8_current_B21 N p1 p2 M5
    else
      fX8_current_B22 N p1 p2 0 M5
set_option maxRecDepth 20000 in
set_option maxHeartbeats 2000000 in
theorem gX8_current_B22 {l : Launch} {Z : zZ} {ad : Nat → Nat} {d : Nat} {X : zX} {cs : Nat × Nat} (hC : zC l Z zfull ad X RX8 cX8_current 3 (some .int) (d + 3)) (hE : zEnd Z zfull ad X false) (hN : zNoX X) (N : Nat) (v1 : Int32) (v2 : Int32) (s1 : Int32) (M : zMem) : zG l Z zfull ad X cs 22 [(0, .ref (ad 62)), (1, .int v1), (2, .int v2)] [.int s1, .ref (ad 62)] M (fX8_current_B22 N v1 v2 s1 M) := by
  unfold fX8_current_B22
  refine zg_putI hC (k := 62) fpX8_82 dX8_current_22 zq62 zk62 rfl (fun M7 eM7 => ?_)
  refine zg_aload_n hC 0 dX8_current_25 rfl ?_
  refine zg_get hC (k := 62) (v := .int (M7.1 62 30)) ffX8_82 dX8_current_26 zq62 zk62 rfl ?_
  refine zg_if_ne hC (tgt := 41) dX8_current_29 (by decide) (fun c8 => ?_) (fun c8 => ?_)
  · refine zg_aload_n hC 0 dX8_current_32 rfl ?_
    refine zg_iload_n hC 1 dX8_current_33 rfl ?_
    refine zg_iload_n hC 2 dX8_current_34 rfl ?_
    refine zg_callVi hC hE hN (k := 62) (As := [.int v1, .int v2]) (S := []) rfl (tX8_currentOf (zflag hC) d N v1 v2 M7) lkX8_144 rfl dX8_current_35 zq62 zk62 rfl rfl (Nat.le_of_ble_eq_true rfl) (fun r9 M10 er9 => ?_)
    refine zg_goto hC (tgt := 42) dX8_current_38 (by decide) ?_
    exact zg_ret hC hE dX8_current_42
  · refine zg_iconst hC (v := 0) dX8_current_41 (by decide) ?_
    exact zg_ret hC hE dX8_current_42
set_option maxRecDepth 20000 in
set_option maxHeartbeats 2000000 in
theorem gX8_current_B21 {l : Launch} {Z : zZ} {ad : Nat → Nat} {d : Nat} {X : zX} {cs : Nat × Nat} (hC : zC l Z zfull ad X RX8 cX8_current 3 (some .int) (d + 3)) (hE : zEnd Z zfull ad X false) (hN : zNoX X) (N : Nat) (v1 : Int32) (v2 : Int32) (M : zMem) : zG l Z zfull ad X cs 21 [(0, .ref (ad 62)), (1, .int v1), (2, .int v2)] [.ref (ad 62)] M (fX8_current_B21 N v1 v2 M) := by
  unfold fX8_current_B21
  refine zg_iconst hC (v := 1) dX8_current_21 (by decide) ?_
  exact zg_sub [0, 1, 2] rfl (gX8_current_B22 hC hE hN N v1 v2 1 M)
set_option maxRecDepth 20000 in
set_option maxHeartbeats 2000000 in
theorem gX8_current_B0 {l : Launch} {Z : zZ} {ad : Nat → Nat} {d : Nat} {X : zX} {cs : Nat × Nat} (hC : zC l Z zfull ad X RX8 cX8_current 3 (some .int) (d + 3)) (hE : zEnd Z zfull ad X false) (hN : zNoX X) (N : Nat) (p1 : Int32) (p2 : Int32) (M : zMem) : zG l Z zfull ad X cs 0 [(0, .ref (ad 62)), (1, .int p1), (2, .int p2)] [] M (fX8_current N p1 p2 M) := by
  unfold fX8_current
  refine zg_aload_n hC 0 dX8_current_0 rfl ?_
  refine zg_iload_n hC 1 dX8_current_1 rfl ?_
  refine zg_callSi hC hE hN (As := [.int p1]) (S := [.ref (ad 62)]) rfl (tX8_isBakery (zflag hC) (d + 1) N p1 M) lkX8_93 rfl dX8_current_2 (Nat.le_of_ble_eq_true rfl) (fun r1 M2 er1 => ?_)
  refine zg_if_eq hC (tgt := 21) dX8_current_5 (by decide) (fun c3 => ?_) (fun c3 => ?_)
  · exact zg_sub [0, 1, 2] rfl (gX8_current_B21 hC hE hN N p1 p2 M2)
  · refine zg_iload_n hC 2 dX8_current_8 rfl ?_
    refine zg_iconst hC (v := 0) dX8_current_9 (by decide) ?_
    refine zg_iconst hC (v := 5) dX8_current_10 (by decide) ?_
    refine zg_callSi hC hE hN (As := [.int p2, .int 0, .int 5]) (S := [.ref (ad 62)]) rfl (tX8_in (zflag hC) (d + 2) N p2 0 5 M2) lkX8_86 rfl dX8_current_11 (Nat.le_of_ble_eq_true rfl) (fun r4 M5 er4 => ?_)
    refine zg_if_eq hC (tgt := 21) dX8_current_14 (by decide) (fun c6 => ?_) (fun c6 => ?_)
    · exact zg_sub [0, 1, 2] rfl (gX8_current_B21 hC hE hN N p1 p2 M5)
    · refine zg_iconst hC (v := 0) dX8_current_17 (by decide) ?_
      refine zg_goto hC (tgt := 22) dX8_current_18 (by decide) ?_
      exact zg_sub [0, 1, 2] rfl (gX8_current_B22 hC hE hN N p1 p2 0 M5)
theorem tX8_current {l : Launch} {Z : zZ} {ad : Nat → Nat} (hl : l.stackTraces = false) (d : Nat) (N : Nat) (p1 : Int32) (p2 : Int32) (M : zMem) : zT l Z zfull ad (.code yX8_current cX8_current 3 (some .int)) yX8_current (d + 3) false zbn [.ref (ad 62), .int p1, .int p2] M (fX8_current N p1 p2 M) :=
  zT_of hl (by decide +kernel) (Nat.le_of_ble_eq_true rfl) (fun X hC hE hN => gX8_current_B0 hC hE hN N p1 p2 M)

def fX8_addLot_B15 (N : Nat) (s1 : Int32) (M : zMem) : zRES :=
  zl (zsI M 62 30 s1) fun M2 =>
  if (M2.1 62 30) ≤ 0 then
    zl (zsI M2 62 16 ((M2.1 62 16) + 1)) fun M4 =>
    some (.inl ((M4.1 62 16) - 1), M4)
  else
    some (.inl 0, M2)
def fX8_addLot (N : Nat) (M : zMem) : zRES :=
  if (M.1 62 16) = 16 then
    fX8_addLot_B15 N 1 M
  else
    fX8_addLot_B15 N 0 M
set_option maxRecDepth 20000 in
set_option maxHeartbeats 2000000 in
theorem gX8_addLot_B15 {l : Launch} {Z : zZ} {ad : Nat → Nat} {d : Nat} {X : zX} {cs : Nat × Nat} (hC : zC l Z zfull ad X RX8 cX8_addLot 1 (some .int) (d + 0)) (hE : zEnd Z zfull ad X false) (hN : zNoX X) (N : Nat) (s1 : Int32) (M : zMem) : zG l Z zfull ad X cs 15 [(0, .ref (ad 62))] [.int s1, .ref (ad 62)] M (fX8_addLot_B15 N s1 M) := by
  unfold fX8_addLot_B15
  refine zg_putI hC (k := 62) fpX8_82 dX8_addLot_15 zq62 zk62 rfl (fun M2 eM2 => ?_)
  refine zg_aload_n hC 0 dX8_addLot_18 rfl ?_
  refine zg_get hC (k := 62) (v := .int (M2.1 62 30)) ffX8_82 dX8_addLot_19 zq62 zk62 rfl ?_
  refine zg_if_le hC (tgt := 27) dX8_addLot_22 (by decide) (fun c3 => ?_) (fun c3 => ?_)
  · refine zg_aload_n hC 0 dX8_addLot_27 rfl ?_
    refine zg_dup hC dX8_addLot_28 rfl ?_
    refine zg_get hC (k := 62) (v := .int (M2.1 62 16)) ffX8_147 dX8_addLot_29 zq62 zk62 rfl ?_
    refine zg_iconst hC (v := 1) dX8_addLot_32 (by decide) ?_
    refine zg_iadd hC dX8_addLot_33 ?_
    refine zg_putI hC (k := 62) fpX8_147 dX8_addLot_34 zq62 zk62 rfl (fun M4 eM4 => ?_)
    refine zg_aload_n hC 0 dX8_addLot_37 rfl ?_
    refine zg_get hC (k := 62) (v := .int (M4.1 62 16)) ffX8_147 dX8_addLot_38 zq62 zk62 rfl ?_
    refine zg_iconst hC (v := 1) dX8_addLot_41 (by decide) ?_
    refine zg_isub hC dX8_addLot_42 ?_
    exact zg_ret hC hE dX8_addLot_43
  · refine zg_iconst hC (v := 0) dX8_addLot_25 (by decide) ?_
    exact zg_ret hC hE dX8_addLot_26
set_option maxRecDepth 20000 in
set_option maxHeartbeats 2000000 in
theorem gX8_addLot_B0 {l : Launch} {Z : zZ} {ad : Nat → Nat} {d : Nat} {X : zX} {cs : Nat × Nat} (hC : zC l Z zfull ad X RX8 cX8_addLot 1 (some .int) (d + 0)) (hE : zEnd Z zfull ad X false) (hN : zNoX X) (N : Nat) (M : zMem) : zG l Z zfull ad X cs 0 [(0, .ref (ad 62))] [] M (fX8_addLot N M) := by
  unfold fX8_addLot
  refine zg_aload_n hC 0 dX8_addLot_0 rfl ?_
  refine zg_aload_n hC 0 dX8_addLot_1 rfl ?_
  refine zg_get hC (k := 62) (v := .int (M.1 62 16)) ffX8_147 dX8_addLot_2 zq62 zk62 rfl ?_
  refine zg_bipush hC (v := 16) dX8_addLot_5 (by decide) ?_
  refine zg_icmp_ne hC (tgt := 14) dX8_addLot_7 (by decide) (fun c1 => ?_) (fun c1 => ?_)
  · refine zg_iconst hC (v := 1) dX8_addLot_10 (by decide) ?_
    refine zg_goto hC (tgt := 15) dX8_addLot_11 (by decide) ?_
    exact zg_sub [0] rfl (gX8_addLot_B15 hC hE hN N 1 M)
  · refine zg_iconst hC (v := 0) dX8_addLot_14 (by decide) ?_
    exact zg_sub [0] rfl (gX8_addLot_B15 hC hE hN N 0 M)
theorem tX8_addLot {l : Launch} {Z : zZ} {ad : Nat → Nat} (hl : l.stackTraces = false) (d : Nat) (N : Nat) (M : zMem) : zT l Z zfull ad (.code yX8_addLot cX8_addLot 1 (some .int)) yX8_addLot (d + 0) false zbn [.ref (ad 62)] M (fX8_addLot N M) :=
  zT_of hl (by decide +kernel) (Nat.le_of_ble_eq_true rfl) (fun X hC hE hN => gX8_addLot_B0 hC hE hN N M)

def fX8_isLot (N : Nat) (p1 : Int32) (M : zMem) : zRES :=
  zb (fX8_in N p1 0 ((M.1 62 16) - 1) M) fun r1 M2 =>
  if zbool r1 = true then some (.inl r1, M2) else none
set_option maxRecDepth 20000 in
set_option maxHeartbeats 2000000 in
theorem gX8_isLot_B0 {l : Launch} {Z : zZ} {ad : Nat → Nat} {d : Nat} {X : zX} {cs : Nat × Nat} (hC : zC l Z zfull ad X RX8 cX8_isLot 2 (some .boolean) (d + 1)) (hE : zEnd Z zfull ad X false) (hN : zNoX X) (N : Nat) (p1 : Int32) (M : zMem) : zG l Z zfull ad X cs 0 [(0, .ref (ad 62)), (1, .int p1)] [] M (fX8_isLot N p1 M) := by
  unfold fX8_isLot
  refine zg_iload_n hC 1 dX8_isLot_0 rfl ?_
  refine zg_iconst hC (v := 0) dX8_isLot_1 (by decide) ?_
  refine zg_aload_n hC 0 dX8_isLot_2 rfl ?_
  refine zg_get hC (k := 62) (v := .int (M.1 62 16)) ffX8_147 dX8_isLot_3 zq62 zk62 rfl ?_
  refine zg_iconst hC (v := 1) dX8_isLot_6 (by decide) ?_
  refine zg_isub hC dX8_isLot_7 ?_
  refine zg_callSi hC hE hN (As := [.int p1, .int 0, .int ((M.1 62 16) - 1)]) (S := []) rfl (tX8_in (zflag hC) d N p1 0 ((M.1 62 16) - 1) M) lkX8_86 rfl dX8_isLot_8 (Nat.le_of_ble_eq_true rfl) (fun r1 M2 er1 => ?_)
  exact zg_retb hC hE dX8_isLot_11
theorem tX8_isLot {l : Launch} {Z : zZ} {ad : Nat → Nat} (hl : l.stackTraces = false) (d : Nat) (N : Nat) (p1 : Int32) (M : zMem) : zT l Z zfull ad (.code yX8_isLot cX8_isLot 2 (some .boolean)) yX8_isLot (d + 1) false zbn [.ref (ad 62), .int p1] M (fX8_isLot N p1 M) :=
  zT_of hl (by decide +kernel) (Nat.le_of_ble_eq_true rfl) (fun X hC hE hN => gX8_isLot_B0 hC hE hN N p1 M)

def fX8_deliver_B78 (N : Nat) : Nat → Int32 → Int32 → Int32 → Int32 → zMem → zRES
  | 0, _, _, _, _, _ => none
  | n + 1, v1, v2, v3, v4, M =>
  if v3 ≤ v4 then
    if zin v1 5 = true then
    some (.inl (M.1 78 v1.toNatClampNeg), M)
    else none
  else
    if zin v1 5 = true then
    if zin (((200 : Int32) * v1) + (M.1 78 v1.toNatClampNeg)) 1000 = true then
    zl (zsI M 77 (((200 : Int32) * v1) + (M.1 78 v1.toNatClampNeg)).toNatClampNeg v2) fun M20 =>
    if zin v1 5 = true then
    if zin v1 5 = true then
    zl (zsI M20 78 v1.toNatClampNeg ((M20.1 78 v1.toNatClampNeg) + 1)) fun M23 =>
    fX8_deliver_B78 N n v1 v2 v3 (v4 + 1) M23
    else none
    else none
    else none
    else none
def fX8_deliver_B63 (N : Nat) (v1 : Int32) (v2 : Int32) (v3 : Int32) (s1 : Int32) (M : zMem) : zRES :=
  zl (zsI M 62 30 s1) fun M14 =>
  if (M14.1 62 30) ≤ 0 then
    fX8_deliver_B78 N N v1 v2 v3 0 M14
  else
    some (.inl 0, M14)
def fX8_deliver_B58 (N : Nat) (v1 : Int32) (v2 : Int32) (v3 : Int32) (M : zMem) : zRES :=
  fX8_deliver_B63 N v1 v2 v3 3 M
def fX8_deliver_B16 (N : Nat) (v1 : Int32) (v2 : Int32) (v3 : Int32) (M : zMem) : zRES :=
  fX8_deliver_B63 N v1 v2 v3 1 M
def fX8_deliver (N : Nat) (p1 : Int32) (p2 : Int32) (p3 : Int32) (M : zMem) : zRES :=
  zb (fX8_isBakery N p1 M) fun r1 M2 =>
  if r1 = 0 then
    fX8_deliver_B16 N p1 p2 p3 M2
  else
    zb (fX8_isLot N p2 M2) fun r4 M5 =>
    if r4 = 0 then
      fX8_deliver_B16 N p1 p2 p3 M5
    else
      zb (fX8_in N p3 1 50 M5) fun r7 M8 =>
      if r7 = 0 then
        fX8_deliver_B63 N p1 p2 p3 2 M8
      else
        if zin p2 16 = true then
        if (M8.1 76 p2.toNatClampNeg) = 1 then
          fX8_deliver_B58 N p1 p2 p3 M8
        else
          if zin p1 5 = true then
          if ((M8.1 78 p1.toNatClampNeg) + p3) ≤ 200 then
            fX8_deliver_B63 N p1 p2 p3 0 M8
          else
            fX8_deliver_B58 N p1 p2 p3 M8
          else none
        else none
set_option maxRecDepth 20000 in
set_option maxHeartbeats 2000000 in
theorem gX8_deliver_B78 {l : Launch} {Z : zZ} {ad : Nat → Nat} {d : Nat} {X : zX} {cs : Nat × Nat} (hC : zC l Z zfull ad X RX8 cX8_deliver 5 (some .int) (d + 2)) (hE : zEnd Z zfull ad X false) (hN : zNoX X) (N : Nat) : ∀ (n : Nat) (v1 : Int32) (v2 : Int32) (v3 : Int32) (v4 : Int32) (M : zMem), zG l Z zfull ad X cs 78 [(0, .ref (ad 62)), (1, .int v1), (2, .int v2), (3, .int v3), (4, .int v4)] [] M (fX8_deliver_B78 N n v1 v2 v3 v4 M) := by
  intro n
  induction n with
  | zero =>
    intro v1 v2 v3 v4 M
    exact zg_none
  | succ n ih =>
  intro v1 v2 v3 v4 M
  rw [fX8_deliver_B78]
  refine zg_iload hC 4 dX8_deliver_78 rfl ?_
  refine zg_iload_n hC 3 dX8_deliver_80 rfl ?_
  refine zg_icmp_ge hC (tgt := 118) dX8_deliver_81 (by decide) (fun c16 => ?_) (fun c16 => ?_)
  · refine zg_aload_n hC 0 dX8_deliver_118 rfl ?_
    refine zg_get hC (k := 62) (v := .ref (ad 78)) ffX8_55 dX8_deliver_119 zq62 zk62 rfl ?_
    refine zg_iload_n hC 1 dX8_deliver_122 rfl ?_
    refine zg_iald hC (k := 78) dX8_deliver_123 zq78 zk78 (fun h17 => ?_)
    exact zg_ret hC hE dX8_deliver_124
  · refine zg_aload_n hC 0 dX8_deliver_84 rfl ?_
    refine zg_get hC (k := 62) (v := .ref (ad 77)) ffX8_52 dX8_deliver_85 zq62 zk62 rfl ?_
    refine zg_sipush hC (v := 200) dX8_deliver_88 (by decide) ?_
    refine zg_iload_n hC 1 dX8_deliver_91 rfl ?_
    refine zg_imul hC dX8_deliver_92 ?_
    refine zg_aload_n hC 0 dX8_deliver_93 rfl ?_
    refine zg_get hC (k := 62) (v := .ref (ad 78)) ffX8_55 dX8_deliver_94 zq62 zk62 rfl ?_
    refine zg_iload_n hC 1 dX8_deliver_97 rfl ?_
    refine zg_iald hC (k := 78) dX8_deliver_98 zq78 zk78 (fun h18 => ?_)
    refine zg_iadd hC dX8_deliver_99 ?_
    refine zg_iload_n hC 2 dX8_deliver_100 rfl ?_
    refine zg_iast hC (k := 77) dX8_deliver_101 zq77 zk77 (fun h19 M20 eM20 => ?_)
    refine zg_aload_n hC 0 dX8_deliver_102 rfl ?_
    refine zg_get hC (k := 62) (v := .ref (ad 78)) ffX8_55 dX8_deliver_103 zq62 zk62 rfl ?_
    refine zg_iload_n hC 1 dX8_deliver_106 rfl ?_
    refine zg_dup2_11 hC dX8_deliver_107 rfl rfl ?_
    refine zg_iald hC (k := 78) dX8_deliver_108 zq78 zk78 (fun h21 => ?_)
    refine zg_iconst hC (v := 1) dX8_deliver_109 (by decide) ?_
    refine zg_iadd hC dX8_deliver_110 ?_
    refine zg_iast hC (k := 78) dX8_deliver_111 zq78 zk78 (fun h22 M23 eM23 => ?_)
    refine zg_iinc hC 4 (v := v4 + 1) (L' := [(4, _), (0, _), (1, _), (2, _), (3, _)]) dX8_deliver_112 rfl (by rfl) (by decide) rfl ?_
    refine zg_goto hC (tgt := 78) dX8_deliver_115 (by decide) ?_
    exact zg_sub [1, 2, 3, 4, 0] rfl (ih v1 v2 v3 (v4 + 1) M23)
set_option maxRecDepth 20000 in
set_option maxHeartbeats 2000000 in
theorem gX8_deliver_B63 {l : Launch} {Z : zZ} {ad : Nat → Nat} {d : Nat} {X : zX} {cs : Nat × Nat} (hC : zC l Z zfull ad X RX8 cX8_deliver 5 (some .int) (d + 2)) (hE : zEnd Z zfull ad X false) (hN : zNoX X) (N : Nat) (v1 : Int32) (v2 : Int32) (v3 : Int32) (s1 : Int32) (M : zMem) : zG l Z zfull ad X cs 63 [(0, .ref (ad 62)), (1, .int v1), (2, .int v2), (3, .int v3)] [.int s1, .ref (ad 62)] M (fX8_deliver_B63 N v1 v2 v3 s1 M) := by
  unfold fX8_deliver_B63
  refine zg_putI hC (k := 62) fpX8_82 dX8_deliver_63 zq62 zk62 rfl (fun M14 eM14 => ?_)
  refine zg_aload_n hC 0 dX8_deliver_66 rfl ?_
  refine zg_get hC (k := 62) (v := .int (M14.1 62 30)) ffX8_82 dX8_deliver_67 zq62 zk62 rfl ?_
  refine zg_if_le hC (tgt := 75) dX8_deliver_70 (by decide) (fun c15 => ?_) (fun c15 => ?_)
  · refine zg_iconst hC (v := 0) dX8_deliver_75 (by decide) ?_
    refine zg_istore hC (L' := [(4, _), (0, _), (1, _), (2, _), (3, _)]) dX8_deliver_76 (by decide) rfl ?_
    exact zg_sub [1, 2, 3, 4, 0] rfl (gX8_deliver_B78 hC hE hN N N v1 v2 v3 0 M14)
  · refine zg_iconst hC (v := 0) dX8_deliver_73 (by decide) ?_
    exact zg_ret hC hE dX8_deliver_74
set_option maxRecDepth 20000 in
set_option maxHeartbeats 2000000 in
theorem gX8_deliver_B58 {l : Launch} {Z : zZ} {ad : Nat → Nat} {d : Nat} {X : zX} {cs : Nat × Nat} (hC : zC l Z zfull ad X RX8 cX8_deliver 5 (some .int) (d + 2)) (hE : zEnd Z zfull ad X false) (hN : zNoX X) (N : Nat) (v1 : Int32) (v2 : Int32) (v3 : Int32) (M : zMem) : zG l Z zfull ad X cs 58 [(0, .ref (ad 62)), (1, .int v1), (2, .int v2), (3, .int v3)] [.ref (ad 62)] M (fX8_deliver_B58 N v1 v2 v3 M) := by
  unfold fX8_deliver_B58
  refine zg_iconst hC (v := 3) dX8_deliver_58 (by decide) ?_
  refine zg_goto hC (tgt := 63) dX8_deliver_59 (by decide) ?_
  exact zg_sub [0, 1, 2, 3] rfl (gX8_deliver_B63 hC hE hN N v1 v2 v3 3 M)
set_option maxRecDepth 20000 in
set_option maxHeartbeats 2000000 in
theorem gX8_deliver_B16 {l : Launch} {Z : zZ} {ad : Nat → Nat} {d : Nat} {X : zX} {cs : Nat × Nat} (hC : zC l Z zfull ad X RX8 cX8_deliver 5 (some .int) (d + 2)) (hE : zEnd Z zfull ad X false) (hN : zNoX X) (N : Nat) (v1 : Int32) (v2 : Int32) (v3 : Int32) (M : zMem) : zG l Z zfull ad X cs 16 [(0, .ref (ad 62)), (1, .int v1), (2, .int v2), (3, .int v3)] [.ref (ad 62)] M (fX8_deliver_B16 N v1 v2 v3 M) := by
  unfold fX8_deliver_B16
  refine zg_iconst hC (v := 1) dX8_deliver_16 (by decide) ?_
  refine zg_goto hC (tgt := 63) dX8_deliver_17 (by decide) ?_
  exact zg_sub [0, 1, 2, 3] rfl (gX8_deliver_B63 hC hE hN N v1 v2 v3 1 M)
set_option maxRecDepth 20000 in
set_option maxHeartbeats 2000000 in
theorem gX8_deliver_B0 {l : Launch} {Z : zZ} {ad : Nat → Nat} {d : Nat} {X : zX} {cs : Nat × Nat} (hC : zC l Z zfull ad X RX8 cX8_deliver 5 (some .int) (d + 2)) (hE : zEnd Z zfull ad X false) (hN : zNoX X) (N : Nat) (p1 : Int32) (p2 : Int32) (p3 : Int32) (M : zMem) : zG l Z zfull ad X cs 0 [(0, .ref (ad 62)), (1, .int p1), (2, .int p2), (3, .int p3)] [] M (fX8_deliver N p1 p2 p3 M) := by
  unfold fX8_deliver
  refine zg_aload_n hC 0 dX8_deliver_0 rfl ?_
  refine zg_iload_n hC 1 dX8_deliver_1 rfl ?_
  refine zg_callSi hC hE hN (As := [.int p1]) (S := [.ref (ad 62)]) rfl (tX8_isBakery (zflag hC) d N p1 M) lkX8_93 rfl dX8_deliver_2 (Nat.le_of_ble_eq_true rfl) (fun r1 M2 er1 => ?_)
  refine zg_if_eq hC (tgt := 16) dX8_deliver_5 (by decide) (fun c3 => ?_) (fun c3 => ?_)
  · exact zg_sub [0, 1, 2, 3] rfl (gX8_deliver_B16 hC hE hN N p1 p2 p3 M2)
  · refine zg_aload_n hC 0 dX8_deliver_8 rfl ?_
    refine zg_iload_n hC 2 dX8_deliver_9 rfl ?_
    refine zg_callVi hC hE hN (k := 62) (As := [.int p2]) (S := [.ref (ad 62)]) rfl (tX8_isLot (zflag hC) d N p2 M2) lkX8_150 rfl dX8_deliver_10 zq62 zk62 rfl rfl (Nat.le_of_ble_eq_true rfl) (fun r4 M5 er4 => ?_)
    refine zg_if_ne hC (tgt := 20) dX8_deliver_13 (by decide) (fun c6 => ?_) (fun c6 => ?_)
    · exact zg_sub [0, 1, 2, 3] rfl (gX8_deliver_B16 hC hE hN N p1 p2 p3 M5)
    · refine zg_iload_n hC 3 dX8_deliver_20 rfl ?_
      refine zg_iconst hC (v := 1) dX8_deliver_21 (by decide) ?_
      refine zg_bipush hC (v := 50) dX8_deliver_22 (by decide) ?_
      refine zg_callSi hC hE hN (As := [.int p3, .int 1, .int 50]) (S := [.ref (ad 62)]) rfl (tX8_in (zflag hC) (d + 1) N p3 1 50 M5) lkX8_86 rfl dX8_deliver_24 (Nat.le_of_ble_eq_true rfl) (fun r7 M8 er7 => ?_)
      refine zg_if_ne hC (tgt := 34) dX8_deliver_27 (by decide) (fun c9 => ?_) (fun c9 => ?_)
      · refine zg_iconst hC (v := 2) dX8_deliver_30 (by decide) ?_
        refine zg_goto hC (tgt := 63) dX8_deliver_31 (by decide) ?_
        exact zg_sub [0, 1, 2, 3] rfl (gX8_deliver_B63 hC hE hN N p1 p2 p3 2 M8)
      · refine zg_aload_n hC 0 dX8_deliver_34 rfl ?_
        refine zg_get hC (k := 62) (v := .ref (ad 76)) ffX8_49 dX8_deliver_35 zq62 zk62 rfl ?_
        refine zg_iload_n hC 2 dX8_deliver_38 rfl ?_
        refine zg_iald hC (k := 76) dX8_deliver_39 zq76 zk76 (fun h10 => ?_)
        refine zg_iconst hC (v := 1) dX8_deliver_40 (by decide) ?_
        refine zg_icmp_eq hC (tgt := 58) dX8_deliver_41 (by decide) (fun c11 => ?_) (fun c11 => ?_)
        · exact zg_sub [0, 1, 2, 3] rfl (gX8_deliver_B58 hC hE hN N p1 p2 p3 M8)
        · refine zg_aload_n hC 0 dX8_deliver_44 rfl ?_
          refine zg_get hC (k := 62) (v := .ref (ad 78)) ffX8_55 dX8_deliver_45 zq62 zk62 rfl ?_
          refine zg_iload_n hC 1 dX8_deliver_48 rfl ?_
          refine zg_iald hC (k := 78) dX8_deliver_49 zq78 zk78 (fun h12 => ?_)
          refine zg_iload_n hC 3 dX8_deliver_50 rfl ?_
          refine zg_iadd hC dX8_deliver_51 ?_
          refine zg_sipush hC (v := 200) dX8_deliver_52 (by decide) ?_
          refine zg_icmp_le hC (tgt := 62) dX8_deliver_55 (by decide) (fun c13 => ?_) (fun c13 => ?_)
          · refine zg_iconst hC (v := 0) dX8_deliver_62 (by decide) ?_
            exact zg_sub [0, 1, 2, 3] rfl (gX8_deliver_B63 hC hE hN N p1 p2 p3 0 M8)
          · exact zg_sub [0, 1, 2, 3] rfl (gX8_deliver_B58 hC hE hN N p1 p2 p3 M8)
theorem tX8_deliver {l : Launch} {Z : zZ} {ad : Nat → Nat} (hl : l.stackTraces = false) (d : Nat) (N : Nat) (p1 : Int32) (p2 : Int32) (p3 : Int32) (M : zMem) : zT l Z zfull ad (.code yX8_deliver cX8_deliver 5 (some .int)) yX8_deliver (d + 2) false zbn [.ref (ad 62), .int p1, .int p2, .int p3] M (fX8_deliver N p1 p2 p3 M) :=
  zT_of hl (by decide +kernel) (Nat.le_of_ble_eq_true rfl) (fun X hC hE hN => gX8_deliver_B0 hC hE hN N p1 p2 p3 M)

def fX8_throwsOut_B61 (N : Nat) (again5 : Int32 → Int32 → Int32 → Int32 → zMem → zRES) (v1 : Int32) (v2 : Int32) (v3 : Int32) (v4 : Int32) (M : zMem) : zRES :=
  again5 v1 v2 v3 (v4 + 1) M
def fX8_throwsOut_B5 (N : Nat) : Nat → Int32 → Int32 → Int32 → Int32 → zMem → zRES
  | 0, _, _, _, _, _ => none
  | n + 1, v1, v2, v3, v4, M =>
  if zin v1 5 = true then
  if (M.1 78 v1.toNatClampNeg) ≤ v4 then
    if zin v1 5 = true then
    zl (zsI M 78 v1.toNatClampNeg v3) fun M4 =>
    some (.inl 0, M4)
    else none
  else
    if zin (((200 : Int32) * v1) + v4) 1000 = true then
    if (M.1 77 (((200 : Int32) * v1) + v4).toNatClampNeg) = v2 then
      fX8_throwsOut_B61 N (fX8_throwsOut_B5 N n) v1 v2 v3 v4 M
    else
      if zin (((200 : Int32) * v1) + v4) 1000 = true then
      if zin (((200 : Int32) * v1) + v3) 1000 = true then
      zl (zsI M 77 (((200 : Int32) * v1) + v3).toNatClampNeg (M.1 77 (((200 : Int32) * v1) + v4).toNatClampNeg)) fun M9 =>
      fX8_throwsOut_B61 N (fX8_throwsOut_B5 N n) v1 v2 (v3 + 1) v4 M9
      else none
      else none
    else none
  else none
def fX8_throwsOut (N : Nat) (p1 : Int32) (p2 : Int32) (M : zMem) : zRES :=
  fX8_throwsOut_B5 N N p1 p2 0 0 M
set_option maxRecDepth 20000 in
set_option maxHeartbeats 2000000 in
theorem gX8_throwsOut_B61 {l : Launch} {Z : zZ} {ad : Nat → Nat} {d : Nat} {X : zX} {cs : Nat × Nat} (hC : zC l Z zfull ad X RX8 cX8_throwsOut 5 none (d + 0)) (hE : zEnd Z zfull ad X true) (hN : zNoX X) (N : Nat) {again5 : Int32 → Int32 → Int32 → Int32 → zMem → zRES} (hag5 : ∀ v1 v2 v3 v4 M, zG l Z zfull ad X cs 5 [(0, .ref (ad 62)), (1, .int v1), (2, .int v2), (3, .int v3), (4, .int v4)] [] M (again5 v1 v2 v3 v4 M)) (v1 : Int32) (v2 : Int32) (v3 : Int32) (v4 : Int32) (M : zMem) : zG l Z zfull ad X cs 61 [(0, .ref (ad 62)), (1, .int v1), (2, .int v2), (3, .int v3), (4, .int v4)] [] M (fX8_throwsOut_B61 N again5 v1 v2 v3 v4 M) := by
  unfold fX8_throwsOut_B61
  refine zg_iinc hC 4 (v := v4 + 1) (L' := [(4, _), (0, _), (1, _), (2, _), (3, _)]) dX8_throwsOut_61 rfl (by rfl) (by decide) rfl ?_
  refine zg_goto hC (tgt := 5) dX8_throwsOut_64 (by decide) ?_
  exact zg_sub [1, 2, 3, 4, 0] rfl (hag5 v1 v2 v3 (v4 + 1) M)
set_option maxRecDepth 20000 in
set_option maxHeartbeats 2000000 in
theorem gX8_throwsOut_B5 {l : Launch} {Z : zZ} {ad : Nat → Nat} {d : Nat} {X : zX} {cs : Nat × Nat} (hC : zC l Z zfull ad X RX8 cX8_throwsOut 5 none (d + 0)) (hE : zEnd Z zfull ad X true) (hN : zNoX X) (N : Nat) : ∀ (n : Nat) (v1 : Int32) (v2 : Int32) (v3 : Int32) (v4 : Int32) (M : zMem), zG l Z zfull ad X cs 5 [(0, .ref (ad 62)), (1, .int v1), (2, .int v2), (3, .int v3), (4, .int v4)] [] M (fX8_throwsOut_B5 N n v1 v2 v3 v4 M) := by
  intro n
  induction n with
  | zero =>
    intro v1 v2 v3 v4 M
    exact zg_none
  | succ n ih =>
  intro v1 v2 v3 v4 M
  rw [fX8_throwsOut_B5]
  refine zg_iload hC 4 dX8_throwsOut_5 rfl ?_
  refine zg_aload_n hC 0 dX8_throwsOut_7 rfl ?_
  refine zg_get hC (k := 62) (v := .ref (ad 78)) ffX8_55 dX8_throwsOut_8 zq62 zk62 rfl ?_
  refine zg_iload_n hC 1 dX8_throwsOut_11 rfl ?_
  refine zg_iald hC (k := 78) dX8_throwsOut_12 zq78 zk78 (fun h1 => ?_)
  refine zg_icmp_ge hC (tgt := 67) dX8_throwsOut_13 (by decide) (fun c2 => ?_) (fun c2 => ?_)
  · refine zg_aload_n hC 0 dX8_throwsOut_67 rfl ?_
    refine zg_get hC (k := 62) (v := .ref (ad 78)) ffX8_55 dX8_throwsOut_68 zq62 zk62 rfl ?_
    refine zg_iload_n hC 1 dX8_throwsOut_71 rfl ?_
    refine zg_iload_n hC 3 dX8_throwsOut_72 rfl ?_
    refine zg_iast hC (k := 78) dX8_throwsOut_73 zq78 zk78 (fun h3 M4 eM4 => ?_)
    exact zg_retv hC hE dX8_throwsOut_74
  · refine zg_aload_n hC 0 dX8_throwsOut_16 rfl ?_
    refine zg_get hC (k := 62) (v := .ref (ad 77)) ffX8_52 dX8_throwsOut_17 zq62 zk62 rfl ?_
    refine zg_sipush hC (v := 200) dX8_throwsOut_20 (by decide) ?_
    refine zg_iload_n hC 1 dX8_throwsOut_23 rfl ?_
    refine zg_imul hC dX8_throwsOut_24 ?_
    refine zg_iload hC 4 dX8_throwsOut_25 rfl ?_
    refine zg_iadd hC dX8_throwsOut_27 ?_
    refine zg_iald hC (k := 77) dX8_throwsOut_28 zq77 zk77 (fun h5 => ?_)
    refine zg_iload_n hC 2 dX8_throwsOut_29 rfl ?_
    refine zg_icmp_eq hC (tgt := 61) dX8_throwsOut_30 (by decide) (fun c6 => ?_) (fun c6 => ?_)
    · exact zg_sub [0, 1, 2, 3, 4] rfl (gX8_throwsOut_B61 hC hE hN N ih v1 v2 v3 v4 M)
    · refine zg_aload_n hC 0 dX8_throwsOut_33 rfl ?_
      refine zg_get hC (k := 62) (v := .ref (ad 77)) ffX8_52 dX8_throwsOut_34 zq62 zk62 rfl ?_
      refine zg_sipush hC (v := 200) dX8_throwsOut_37 (by decide) ?_
      refine zg_iload_n hC 1 dX8_throwsOut_40 rfl ?_
      refine zg_imul hC dX8_throwsOut_41 ?_
      refine zg_iload_n hC 3 dX8_throwsOut_42 rfl ?_
      refine zg_iadd hC dX8_throwsOut_43 ?_
      refine zg_aload_n hC 0 dX8_throwsOut_44 rfl ?_
      refine zg_get hC (k := 62) (v := .ref (ad 77)) ffX8_52 dX8_throwsOut_45 zq62 zk62 rfl ?_
      refine zg_sipush hC (v := 200) dX8_throwsOut_48 (by decide) ?_
      refine zg_iload_n hC 1 dX8_throwsOut_51 rfl ?_
      refine zg_imul hC dX8_throwsOut_52 ?_
      refine zg_iload hC 4 dX8_throwsOut_53 rfl ?_
      refine zg_iadd hC dX8_throwsOut_55 ?_
      refine zg_iald hC (k := 77) dX8_throwsOut_56 zq77 zk77 (fun h7 => ?_)
      refine zg_iast hC (k := 77) dX8_throwsOut_57 zq77 zk77 (fun h8 M9 eM9 => ?_)
      refine zg_iinc hC 3 (v := v3 + 1) (L' := [(3, _), (0, _), (1, _), (2, _), (4, _)]) dX8_throwsOut_58 rfl (by rfl) (by decide) rfl ?_
      exact zg_sub [1, 2, 3, 0, 4] rfl (gX8_throwsOut_B61 hC hE hN N ih v1 v2 (v3 + 1) v4 M9)
set_option maxRecDepth 20000 in
set_option maxHeartbeats 2000000 in
theorem gX8_throwsOut_B0 {l : Launch} {Z : zZ} {ad : Nat → Nat} {d : Nat} {X : zX} {cs : Nat × Nat} (hC : zC l Z zfull ad X RX8 cX8_throwsOut 5 none (d + 0)) (hE : zEnd Z zfull ad X true) (hN : zNoX X) (N : Nat) (p1 : Int32) (p2 : Int32) (M : zMem) : zG l Z zfull ad X cs 0 [(0, .ref (ad 62)), (1, .int p1), (2, .int p2)] [] M (fX8_throwsOut N p1 p2 M) := by
  unfold fX8_throwsOut
  refine zg_iconst hC (v := 0) dX8_throwsOut_0 (by decide) ?_
  refine zg_istore_n hC (L' := [(3, _), (0, _), (1, _), (2, _)]) dX8_throwsOut_1 (by decide) rfl ?_
  refine zg_iconst hC (v := 0) dX8_throwsOut_2 (by decide) ?_
  refine zg_istore hC (L' := [(4, _), (3, _), (0, _), (1, _), (2, _)]) dX8_throwsOut_3 (by decide) rfl ?_
  exact zg_sub [2, 3, 4, 1, 0] rfl (gX8_throwsOut_B5 hC hE hN N N p1 p2 0 0 M)
theorem tX8_throwsOut {l : Launch} {Z : zZ} {ad : Nat → Nat} (hl : l.stackTraces = false) (d : Nat) (N : Nat) (p1 : Int32) (p2 : Int32) (M : zMem) : zT l Z zfull ad (.code yX8_throwsOut cX8_throwsOut 5 none) yX8_throwsOut (d + 0) true zbn [.ref (ad 62), .int p1, .int p2] M (fX8_throwsOut N p1 p2 M) :=
  zT_of hl (by decide +kernel) (Nat.le_of_ble_eq_true rfl) (fun X hC hE hN => gX8_throwsOut_B0 hC hE hN N p1 p2 M)

def fX8_condemn_B103 (N : Nat) (again70 : Int32 → Int32 → Int32 → zMem → zRES) (v1 : Int32) (v3 : Int32) (s0 : Int32) (s1 : Int32) (M : zMem) : zRES :=
  zv (s0 + s1) fun x18 =>
  again70 v1 x18 (v3 + 1) M
def fX8_condemn_B70 (N : Nat) : Nat → Int32 → Int32 → Int32 → zMem → zRES
  | 0, _, _, _, _ => none
  | n + 1, v1, v2, v3, M =>
  if (M.1 62 21) ≤ v3 then
    some (.inl v2, M)
  else
    if zin v3 60 = true then
    if (((M.1 81 v3.toNatClampNeg) >>> (v1 &&& 31)) &&& 1) = 1 then
      zb (fX8_callsBack N v3 2 M) fun r16 M17 =>
      fX8_condemn_B103 N (fX8_condemn_B70 N n) v1 v3 v2 r16 M17
    else
      fX8_condemn_B103 N (fX8_condemn_B70 N n) v1 v3 v2 0 M
    else none
def fX8_condemn_B49 (N : Nat) : Nat → Int32 → Int32 → zMem → zRES
  | 0, _, _, _ => none
  | n + 1, v1, v2, M =>
  if (5 : Int32) ≤ v2 then
    fX8_condemn_B70 N N v1 0 0 M
  else
    zb (fX8_throwsOut N v2 v1 M) fun r11 M12 =>
    fX8_condemn_B49 N n v1 (v2 + 1) M12
def fX8_condemn_B28 (N : Nat) (v1 : Int32) (s1 : Int32) (M : zMem) : zRES :=
  zl (zsI M 62 30 s1) fun M6 =>
  if (M6.1 62 30) ≤ 0 then
    if zin v1 16 = true then
    zl (zsI M6 76 v1.toNatClampNeg 1) fun M9 =>
    fX8_condemn_B49 N N v1 0 M9
    else none
  else
    some (.inl 0, M6)
def fX8_condemn (N : Nat) (p1 : Int32) (M : zMem) : zRES :=
  zb (fX8_isLot N p1 M) fun r1 M2 =>
  if r1 = 0 then
    fX8_condemn_B28 N p1 1 M2
  else
    if zin p1 16 = true then
    if (M2.1 76 p1.toNatClampNeg) = 1 then
      fX8_condemn_B28 N p1 2 M2
    else
      fX8_condemn_B28 N p1 0 M2
    else none
set_option maxRecDepth 20000 in
set_option maxHeartbeats 2000000 in
theorem gX8_condemn_B103 {l : Launch} {Z : zZ} {ad : Nat → Nat} {d : Nat} {X : zX} {cs : Nat × Nat} (hC : zC l Z zfull ad X RX8 cX8_condemn 4 (some .int) (d + 2)) (hE : zEnd Z zfull ad X false) (hN : zNoX X) (N : Nat) {again70 : Int32 → Int32 → Int32 → zMem → zRES} (hag70 : ∀ v1 v2 v3 M, zG l Z zfull ad X cs 70 [(0, .ref (ad 62)), (1, .int v1), (2, .int v2), (3, .int v3)] [] M (again70 v1 v2 v3 M)) (v1 : Int32) (v3 : Int32) (s0 : Int32) (s1 : Int32) (M : zMem) : zG l Z zfull ad X cs 103 [(0, .ref (ad 62)), (1, .int v1), (3, .int v3)] [.int s1, .int s0] M (fX8_condemn_B103 N again70 v1 v3 s0 s1 M) := by
  unfold fX8_condemn_B103
  refine zg_iadd hC dX8_condemn_103 ?_
  refine zg_nm (fun x18 ex18 => ?_)
  refine zg_istore_n hC (L' := [(2, _), (0, _), (1, _), (3, _)]) dX8_condemn_104 (by decide) rfl ?_
  refine zg_iinc hC 3 (v := v3 + 1) (L' := [(3, _), (2, _), (0, _), (1, _)]) dX8_condemn_105 rfl (by rfl) (by decide) rfl ?_
  refine zg_goto hC (tgt := 70) dX8_condemn_108 (by decide) ?_
  exact zg_sub [2, 3, 1, 0] rfl (hag70 v1 x18 (v3 + 1) M)
set_option maxRecDepth 20000 in
set_option maxHeartbeats 2000000 in
theorem gX8_condemn_B70 {l : Launch} {Z : zZ} {ad : Nat → Nat} {d : Nat} {X : zX} {cs : Nat × Nat} (hC : zC l Z zfull ad X RX8 cX8_condemn 4 (some .int) (d + 2)) (hE : zEnd Z zfull ad X false) (hN : zNoX X) (N : Nat) : ∀ (n : Nat) (v1 : Int32) (v2 : Int32) (v3 : Int32) (M : zMem), zG l Z zfull ad X cs 70 [(0, .ref (ad 62)), (1, .int v1), (2, .int v2), (3, .int v3)] [] M (fX8_condemn_B70 N n v1 v2 v3 M) := by
  intro n
  induction n with
  | zero =>
    intro v1 v2 v3 M
    exact zg_none
  | succ n ih =>
  intro v1 v2 v3 M
  rw [fX8_condemn_B70]
  refine zg_iload_n hC 3 dX8_condemn_70 rfl ?_
  refine zg_aload_n hC 0 dX8_condemn_71 rfl ?_
  refine zg_get hC (k := 62) (v := .int (M.1 62 21)) ffX8_128 dX8_condemn_72 zq62 zk62 rfl ?_
  refine zg_icmp_ge hC (tgt := 111) dX8_condemn_75 (by decide) (fun c13 => ?_) (fun c13 => ?_)
  · refine zg_iload_n hC 2 dX8_condemn_111 rfl ?_
    exact zg_ret hC hE dX8_condemn_112
  · refine zg_iload_n hC 2 dX8_condemn_78 rfl ?_
    refine zg_aload_n hC 0 dX8_condemn_79 rfl ?_
    refine zg_get hC (k := 62) (v := .ref (ad 81)) ffX8_64 dX8_condemn_80 zq62 zk62 rfl ?_
    refine zg_iload_n hC 3 dX8_condemn_83 rfl ?_
    refine zg_iald hC (k := 81) dX8_condemn_84 zq81 zk81 (fun h14 => ?_)
    refine zg_iload_n hC 1 dX8_condemn_85 rfl ?_
    refine zg_ishr hC dX8_condemn_86 ?_
    refine zg_iconst hC (v := 1) dX8_condemn_87 (by decide) ?_
    refine zg_iand hC dX8_condemn_88 ?_
    refine zg_iconst hC (v := 1) dX8_condemn_89 (by decide) ?_
    refine zg_icmp_ne hC (tgt := 102) dX8_condemn_90 (by decide) (fun c15 => ?_) (fun c15 => ?_)
    · refine zg_aload_n hC 0 dX8_condemn_93 rfl ?_
      refine zg_iload_n hC 3 dX8_condemn_94 rfl ?_
      refine zg_iconst hC (v := 2) dX8_condemn_95 (by decide) ?_
      refine zg_callVi hC hE hN (k := 62) (As := [.int v3, .int 2]) (S := [.int v2]) rfl (tX8_callsBack (zflag hC) (d + 1) N v3 2 M) lkX8_131 rfl dX8_condemn_96 zq62 zk62 rfl rfl (Nat.le_of_ble_eq_true rfl) (fun r16 M17 er16 => ?_)
      refine zg_goto hC (tgt := 103) dX8_condemn_99 (by decide) ?_
      exact zg_sub [0, 1, 3] rfl (gX8_condemn_B103 hC hE hN N ih v1 v3 v2 r16 M17)
    · refine zg_iconst hC (v := 0) dX8_condemn_102 (by decide) ?_
      exact zg_sub [0, 1, 3] rfl (gX8_condemn_B103 hC hE hN N ih v1 v3 v2 0 M)
set_option maxRecDepth 20000 in
set_option maxHeartbeats 2000000 in
theorem gX8_condemn_B49 {l : Launch} {Z : zZ} {ad : Nat → Nat} {d : Nat} {X : zX} {cs : Nat × Nat} (hC : zC l Z zfull ad X RX8 cX8_condemn 4 (some .int) (d + 2)) (hE : zEnd Z zfull ad X false) (hN : zNoX X) (N : Nat) : ∀ (n : Nat) (v1 : Int32) (v2 : Int32) (M : zMem), zG l Z zfull ad X cs 49 [(0, .ref (ad 62)), (1, .int v1), (2, .int v2)] [] M (fX8_condemn_B49 N n v1 v2 M) := by
  intro n
  induction n with
  | zero =>
    intro v1 v2 M
    exact zg_none
  | succ n ih =>
  intro v1 v2 M
  rw [fX8_condemn_B49]
  refine zg_iload_n hC 2 dX8_condemn_49 rfl ?_
  refine zg_iconst hC (v := 5) dX8_condemn_50 (by decide) ?_
  refine zg_icmp_ge hC (tgt := 66) dX8_condemn_51 (by decide) (fun c10 => ?_) (fun c10 => ?_)
  · refine zg_iconst hC (v := 0) dX8_condemn_66 (by decide) ?_
    refine zg_istore_n hC (L' := [(2, _), (0, _), (1, _)]) dX8_condemn_67 (by decide) rfl ?_
    refine zg_iconst hC (v := 0) dX8_condemn_68 (by decide) ?_
    refine zg_istore_n hC (L' := [(3, _), (2, _), (0, _), (1, _)]) dX8_condemn_69 (by decide) rfl ?_
    exact zg_sub [2, 3, 1, 0] rfl (gX8_condemn_B70 hC hE hN N N v1 0 0 M)
  · refine zg_aload_n hC 0 dX8_condemn_54 rfl ?_
    refine zg_iload_n hC 2 dX8_condemn_55 rfl ?_
    refine zg_iload_n hC 1 dX8_condemn_56 rfl ?_
    refine zg_callVv hC hE hN (k := 62) (As := [.int v2, .int v1]) (S := []) rfl (tX8_throwsOut (zflag hC) (d + 1) N v2 v1 M) lkX8_153 rfl dX8_condemn_57 zq62 zk62 rfl rfl (Nat.le_of_ble_eq_true rfl) (fun r11 M12 er11 => ?_)
    refine zg_iinc hC 2 (v := v2 + 1) (L' := [(2, _), (0, _), (1, _)]) dX8_condemn_60 rfl (by rfl) (by decide) rfl ?_
    refine zg_goto hC (tgt := 49) dX8_condemn_63 (by decide) ?_
    exact zg_sub [1, 2, 0] rfl (ih v1 (v2 + 1) M12)
set_option maxRecDepth 20000 in
set_option maxHeartbeats 2000000 in
theorem gX8_condemn_B28 {l : Launch} {Z : zZ} {ad : Nat → Nat} {d : Nat} {X : zX} {cs : Nat × Nat} (hC : zC l Z zfull ad X RX8 cX8_condemn 4 (some .int) (d + 2)) (hE : zEnd Z zfull ad X false) (hN : zNoX X) (N : Nat) (v1 : Int32) (s1 : Int32) (M : zMem) : zG l Z zfull ad X cs 28 [(0, .ref (ad 62)), (1, .int v1)] [.int s1, .ref (ad 62)] M (fX8_condemn_B28 N v1 s1 M) := by
  unfold fX8_condemn_B28
  refine zg_putI hC (k := 62) fpX8_82 dX8_condemn_28 zq62 zk62 rfl (fun M6 eM6 => ?_)
  refine zg_aload_n hC 0 dX8_condemn_31 rfl ?_
  refine zg_get hC (k := 62) (v := .int (M6.1 62 30)) ffX8_82 dX8_condemn_32 zq62 zk62 rfl ?_
  refine zg_if_le hC (tgt := 40) dX8_condemn_35 (by decide) (fun c7 => ?_) (fun c7 => ?_)
  · refine zg_aload_n hC 0 dX8_condemn_40 rfl ?_
    refine zg_get hC (k := 62) (v := .ref (ad 76)) ffX8_49 dX8_condemn_41 zq62 zk62 rfl ?_
    refine zg_iload_n hC 1 dX8_condemn_44 rfl ?_
    refine zg_iconst hC (v := 1) dX8_condemn_45 (by decide) ?_
    refine zg_iast hC (k := 76) dX8_condemn_46 zq76 zk76 (fun h8 M9 eM9 => ?_)
    refine zg_iconst hC (v := 0) dX8_condemn_47 (by decide) ?_
    refine zg_istore_n hC (L' := [(2, _), (0, _), (1, _)]) dX8_condemn_48 (by decide) rfl ?_
    exact zg_sub [1, 2, 0] rfl (gX8_condemn_B49 hC hE hN N N v1 0 M9)
  · refine zg_iconst hC (v := 0) dX8_condemn_38 (by decide) ?_
    exact zg_ret hC hE dX8_condemn_39
set_option maxRecDepth 20000 in
set_option maxHeartbeats 2000000 in
theorem gX8_condemn_B0 {l : Launch} {Z : zZ} {ad : Nat → Nat} {d : Nat} {X : zX} {cs : Nat × Nat} (hC : zC l Z zfull ad X RX8 cX8_condemn 4 (some .int) (d + 2)) (hE : zEnd Z zfull ad X false) (hN : zNoX X) (N : Nat) (p1 : Int32) (M : zMem) : zG l Z zfull ad X cs 0 [(0, .ref (ad 62)), (1, .int p1)] [] M (fX8_condemn N p1 M) := by
  unfold fX8_condemn
  refine zg_aload_n hC 0 dX8_condemn_0 rfl ?_
  refine zg_aload_n hC 0 dX8_condemn_1 rfl ?_
  refine zg_iload_n hC 1 dX8_condemn_2 rfl ?_
  refine zg_callVi hC hE hN (k := 62) (As := [.int p1]) (S := [.ref (ad 62)]) rfl (tX8_isLot (zflag hC) d N p1 M) lkX8_150 rfl dX8_condemn_3 zq62 zk62 rfl rfl (Nat.le_of_ble_eq_true rfl) (fun r1 M2 er1 => ?_)
  refine zg_if_ne hC (tgt := 13) dX8_condemn_6 (by decide) (fun c3 => ?_) (fun c3 => ?_)
  · refine zg_iconst hC (v := 1) dX8_condemn_9 (by decide) ?_
    refine zg_goto hC (tgt := 28) dX8_condemn_10 (by decide) ?_
    exact zg_sub [0, 1] rfl (gX8_condemn_B28 hC hE hN N p1 1 M2)
  · refine zg_aload_n hC 0 dX8_condemn_13 rfl ?_
    refine zg_get hC (k := 62) (v := .ref (ad 76)) ffX8_49 dX8_condemn_14 zq62 zk62 rfl ?_
    refine zg_iload_n hC 1 dX8_condemn_17 rfl ?_
    refine zg_iald hC (k := 76) dX8_condemn_18 zq76 zk76 (fun h4 => ?_)
    refine zg_iconst hC (v := 1) dX8_condemn_19 (by decide) ?_
    refine zg_icmp_ne hC (tgt := 27) dX8_condemn_20 (by decide) (fun c5 => ?_) (fun c5 => ?_)
    · refine zg_iconst hC (v := 2) dX8_condemn_23 (by decide) ?_
      refine zg_goto hC (tgt := 28) dX8_condemn_24 (by decide) ?_
      exact zg_sub [0, 1] rfl (gX8_condemn_B28 hC hE hN N p1 2 M2)
    · refine zg_iconst hC (v := 0) dX8_condemn_27 (by decide) ?_
      exact zg_sub [0, 1] rfl (gX8_condemn_B28 hC hE hN N p1 0 M2)
theorem tX8_condemn {l : Launch} {Z : zZ} {ad : Nat → Nat} (hl : l.stackTraces = false) (d : Nat) (N : Nat) (p1 : Int32) (M : zMem) : zT l Z zfull ad (.code yX8_condemn cX8_condemn 4 (some .int)) yX8_condemn (d + 2) false zbn [.ref (ad 62), .int p1] M (fX8_condemn N p1 M) :=
  zT_of hl (by decide +kernel) (Nat.le_of_ble_eq_true rfl) (fun X hC hE hN => gX8_condemn_B0 hC hE hN N p1 M)

def fX8_store (N : Nat) (p1 : Int32) (M : zMem) : zRES :=
  zb (fX8_isTold N p1 M) fun r1 M2 =>
  if r1 = 0 then
    some (.inl 0, M2)
  else
    if zin p1 5 = true then
    some (.inl (M2.1 78 p1.toNatClampNeg), M2)
    else none
set_option maxRecDepth 20000 in
set_option maxHeartbeats 2000000 in
theorem gX8_store_B0 {l : Launch} {Z : zZ} {ad : Nat → Nat} {d : Nat} {X : zX} {cs : Nat × Nat} (hC : zC l Z zfull ad X RX8 cX8_store 2 (some .int) (d + 3)) (hE : zEnd Z zfull ad X false) (hN : zNoX X) (N : Nat) (p1 : Int32) (M : zMem) : zG l Z zfull ad X cs 0 [(0, .ref (ad 62)), (1, .int p1)] [] M (fX8_store N p1 M) := by
  unfold fX8_store
  refine zg_aload_n hC 0 dX8_store_0 rfl ?_
  refine zg_iload_n hC 1 dX8_store_1 rfl ?_
  refine zg_callVi hC hE hN (k := 62) (As := [.int p1]) (S := []) rfl (tX8_isTold (zflag hC) d N p1 M) lkX8_138 rfl dX8_store_2 zq62 zk62 rfl rfl (Nat.le_of_ble_eq_true rfl) (fun r1 M2 er1 => ?_)
  refine zg_if_eq hC (tgt := 17) dX8_store_5 (by decide) (fun c3 => ?_) (fun c3 => ?_)
  · refine zg_iconst hC (v := 0) dX8_store_17 (by decide) ?_
    exact zg_ret hC hE dX8_store_18
  · refine zg_aload_n hC 0 dX8_store_8 rfl ?_
    refine zg_get hC (k := 62) (v := .ref (ad 78)) ffX8_55 dX8_store_9 zq62 zk62 rfl ?_
    refine zg_iload_n hC 1 dX8_store_12 rfl ?_
    refine zg_iald hC (k := 78) dX8_store_13 zq78 zk78 (fun h4 => ?_)
    refine zg_goto hC (tgt := 18) dX8_store_14 (by decide) ?_
    exact zg_ret hC hE dX8_store_18
theorem tX8_store {l : Launch} {Z : zZ} {ad : Nat → Nat} (hl : l.stackTraces = false) (d : Nat) (N : Nat) (p1 : Int32) (M : zMem) : zT l Z zfull ad (.code yX8_store cX8_store 2 (some .int)) yX8_store (d + 3) false zbn [.ref (ad 62), .int p1] M (fX8_store N p1 M) :=
  zT_of hl (by decide +kernel) (Nat.le_of_ble_eq_true rfl) (fun X hC hE hN => gX8_store_B0 hC hE hN N p1 M)

def fX8_isHour (N : Nat) (p1 : Int32) (M : zMem) : zRES :=
  if p1 < (M.1 62 14) then
    some (.inl 0, M)
  else
    if (50 : Int32) < (p1 - (M.1 62 14)) then
      some (.inl 0, M)
    else
      some (.inl 1, M)
set_option maxRecDepth 20000 in
set_option maxHeartbeats 2000000 in
theorem gX8_isHour_B0 {l : Launch} {Z : zZ} {ad : Nat → Nat} {d : Nat} {X : zX} {cs : Nat × Nat} (hC : zC l Z zfull ad X RX8 cX8_isHour 2 (some .boolean) (d + 0)) (hE : zEnd Z zfull ad X false) (hN : zNoX X) (N : Nat) (p1 : Int32) (M : zMem) : zG l Z zfull ad X cs 0 [(0, .ref (ad 62)), (1, .int p1)] [] M (fX8_isHour N p1 M) := by
  unfold fX8_isHour
  refine zg_iload_n hC 1 dX8_isHour_0 rfl ?_
  refine zg_aload_n hC 0 dX8_isHour_1 rfl ?_
  refine zg_get hC (k := 62) (v := .int (M.1 62 14)) ffX8_156 dX8_isHour_2 zq62 zk62 rfl ?_
  refine zg_icmp_lt hC (tgt := 23) dX8_isHour_5 (by decide) (fun c1 => ?_) (fun c1 => ?_)
  · refine zg_iconst hC (v := 0) dX8_isHour_23 (by decide) ?_
    exact zg_retz hC hE (by decide) dX8_isHour_24
  · refine zg_iload_n hC 1 dX8_isHour_8 rfl ?_
    refine zg_aload_n hC 0 dX8_isHour_9 rfl ?_
    refine zg_get hC (k := 62) (v := .int (M.1 62 14)) ffX8_156 dX8_isHour_10 zq62 zk62 rfl ?_
    refine zg_isub hC dX8_isHour_13 ?_
    refine zg_bipush hC (v := 50) dX8_isHour_14 (by decide) ?_
    refine zg_icmp_gt hC (tgt := 23) dX8_isHour_16 (by decide) (fun c2 => ?_) (fun c2 => ?_)
    · refine zg_iconst hC (v := 0) dX8_isHour_23 (by decide) ?_
      exact zg_retz hC hE (by decide) dX8_isHour_24
    · refine zg_iconst hC (v := 1) dX8_isHour_19 (by decide) ?_
      refine zg_goto hC (tgt := 24) dX8_isHour_20 (by decide) ?_
      exact zg_retz hC hE (by decide) dX8_isHour_24
theorem tX8_isHour {l : Launch} {Z : zZ} {ad : Nat → Nat} (hl : l.stackTraces = false) (d : Nat) (N : Nat) (p1 : Int32) (M : zMem) : zT l Z zfull ad (.code yX8_isHour cX8_isHour 2 (some .boolean)) yX8_isHour (d + 0) false zbn [.ref (ad 62), .int p1] M (fX8_isHour N p1 M) :=
  zT_of hl (by decide +kernel) (Nat.le_of_ble_eq_true rfl) (fun X hC hE hN => gX8_isHour_B0 hC hE hN N p1 M)

def fX8_fails (N : Nat) (p1 : Int32) (M : zMem) : zRES :=
  zl (zsI M 62 30 p1) fun M1 =>
  some (.inl 0, M1)
set_option maxRecDepth 20000 in
set_option maxHeartbeats 2000000 in
theorem gX8_fails_B0 {l : Launch} {Z : zZ} {ad : Nat → Nat} {d : Nat} {X : zX} {cs : Nat × Nat} (hC : zC l Z zfull ad X RX8 cX8_fails 2 (some .int) (d + 0)) (hE : zEnd Z zfull ad X false) (hN : zNoX X) (N : Nat) (p1 : Int32) (M : zMem) : zG l Z zfull ad X cs 0 [(0, .ref (ad 62)), (1, .int p1)] [] M (fX8_fails N p1 M) := by
  unfold fX8_fails
  refine zg_aload_n hC 0 dX8_fails_0 rfl ?_
  refine zg_iload_n hC 1 dX8_fails_1 rfl ?_
  refine zg_putI hC (k := 62) fpX8_82 dX8_fails_2 zq62 zk62 rfl (fun M1 eM1 => ?_)
  refine zg_iconst hC (v := 0) dX8_fails_5 (by decide) ?_
  exact zg_ret hC hE dX8_fails_6
theorem tX8_fails {l : Launch} {Z : zZ} {ad : Nat → Nat} (hl : l.stackTraces = false) (d : Nat) (N : Nat) (p1 : Int32) (M : zMem) : zT l Z zfull ad (.code yX8_fails cX8_fails 2 (some .int)) yX8_fails (d + 0) false zbn [.ref (ad 62), .int p1] M (fX8_fails N p1 M) :=
  zT_of hl (by decide +kernel) (Nat.le_of_ble_eq_true rfl) (fun X hC hE hN => gX8_fails_B0 hC hE hN N p1 M)

def fX8_book_B75 (N : Nat) (M : zMem) : zRES :=
  zb (fX8_fails N 3 M) fun r19 M20 =>
  some (.inl r19, M20)
def fX8_book_B34 (N : Nat) (v1 : Int32) (v2 : Int32) (v3 : Int32) (s1 : Int32) (M : zMem) : zRES :=
  zl (zsI M 62 30 s1) fun M10 =>
  if (M10.1 62 30) ≤ 0 then
    zb (fX8_currentOf N v1 v3 M10) fun r12 M13 =>
    if zin (((1051 : Int32) * v1) + v2) 5255 = true then
    if (0 : Int32) < (M13.1 75 (((1051 : Int32) * v1) + v2).toNatClampNeg) then
      fX8_book_B75 N M13
    else
      if r12 = (-1) then
        fX8_book_B75 N M13
      else
        if zin (((1051 : Int32) * v1) + v2) 5255 = true then
        zl (zsI M13 75 (((1051 : Int32) * v1) + v2).toNatClampNeg (r12 + 1)) fun M18 =>
        some (.inl r12, M18)
        else none
    else none
  else
    some (.inl 0, M10)
def fX8_book_B17 (N : Nat) (v1 : Int32) (v2 : Int32) (v3 : Int32) (M : zMem) : zRES :=
  fX8_book_B34 N v1 v2 v3 1 M
def fX8_book (N : Nat) (p1 : Int32) (p2 : Int32) (p3 : Int32) (M : zMem) : zRES :=
  zb (fX8_isBakery N p1 M) fun r1 M2 =>
  if r1 = 0 then
    fX8_book_B17 N p1 p2 p3 M2
  else
    zb (fX8_in N p3 0 5 M2) fun r4 M5 =>
    if r4 = 0 then
      fX8_book_B17 N p1 p2 p3 M5
    else
      zb (fX8_isHour N p2 M5) fun r7 M8 =>
      if r7 = 0 then
        fX8_book_B34 N p1 p2 p3 2 M8
      else
        fX8_book_B34 N p1 p2 p3 0 M8
set_option maxRecDepth 20000 in
set_option maxHeartbeats 2000000 in
theorem gX8_book_B75 {l : Launch} {Z : zZ} {ad : Nat → Nat} {d : Nat} {X : zX} {cs : Nat × Nat} (hC : zC l Z zfull ad X RX8 cX8_book 5 (some .int) (d + 3)) (hE : zEnd Z zfull ad X false) (hN : zNoX X) (N : Nat) (M : zMem) : zG l Z zfull ad X cs 75 [(0, .ref (ad 62))] [] M (fX8_book_B75 N M) := by
  unfold fX8_book_B75
  refine zg_aload_n hC 0 dX8_book_75 rfl ?_
  refine zg_iconst hC (v := 3) dX8_book_76 (by decide) ?_
  refine zg_callVi hC hE hN (k := 62) (As := [.int 3]) (S := []) rfl (tX8_fails (zflag hC) (d + 2) N 3 M) lkX8_162 rfl dX8_book_77 zq62 zk62 rfl rfl (Nat.le_of_ble_eq_true rfl) (fun r19 M20 er19 => ?_)
  exact zg_ret hC hE dX8_book_80
set_option maxRecDepth 20000 in
set_option maxHeartbeats 2000000 in
theorem gX8_book_B34 {l : Launch} {Z : zZ} {ad : Nat → Nat} {d : Nat} {X : zX} {cs : Nat × Nat} (hC : zC l Z zfull ad X RX8 cX8_book 5 (some .int) (d + 3)) (hE : zEnd Z zfull ad X false) (hN : zNoX X) (N : Nat) (v1 : Int32) (v2 : Int32) (v3 : Int32) (s1 : Int32) (M : zMem) : zG l Z zfull ad X cs 34 [(0, .ref (ad 62)), (1, .int v1), (2, .int v2), (3, .int v3)] [.int s1, .ref (ad 62)] M (fX8_book_B34 N v1 v2 v3 s1 M) := by
  unfold fX8_book_B34
  refine zg_putI hC (k := 62) fpX8_82 dX8_book_34 zq62 zk62 rfl (fun M10 eM10 => ?_)
  refine zg_aload_n hC 0 dX8_book_37 rfl ?_
  refine zg_get hC (k := 62) (v := .int (M10.1 62 30)) ffX8_82 dX8_book_38 zq62 zk62 rfl ?_
  refine zg_if_le hC (tgt := 46) dX8_book_41 (by decide) (fun c11 => ?_) (fun c11 => ?_)
  · refine zg_aload_n hC 0 dX8_book_46 rfl ?_
    refine zg_iload_n hC 1 dX8_book_47 rfl ?_
    refine zg_iload_n hC 3 dX8_book_48 rfl ?_
    refine zg_callVi hC hE hN (k := 62) (As := [.int v1, .int v3]) (S := []) rfl (tX8_currentOf (zflag hC) d N v1 v3 M10) lkX8_144 rfl dX8_book_49 zq62 zk62 rfl rfl (Nat.le_of_ble_eq_true rfl) (fun r12 M13 er12 => ?_)
    refine zg_istore hC (L' := [(4, _), (0, _), (1, _), (2, _), (3, _)]) dX8_book_52 (by decide) rfl ?_
    refine zg_aload_n hC 1 dX8_book_54 rfl ?_
    refine zg_get hC (k := 62) (v := .ref (ad 75)) ffX8_46 dX8_book_55 zq62 zk62 rfl ?_
    refine zg_sipush hC (v := 1051) dX8_book_58 (by decide) ?_
    refine zg_iload_n hC 2 dX8_book_61 rfl ?_
    refine zg_imul hC dX8_book_62 ?_
    refine zg_iload_n hC 3 dX8_book_63 rfl ?_
    refine zg_iadd hC dX8_book_64 ?_
    refine zg_iald hC (k := 75) dX8_book_65 zq75 zk75 (fun h14 => ?_)
    refine zg_if_gt hC (tgt := 75) dX8_book_66 (by decide) (fun c15 => ?_) (fun c15 => ?_)
    · exact zg_sub [1] rfl (gX8_book_B75 hC hE hN N M13)
    · refine zg_iload hC 0 dX8_book_69 rfl ?_
      refine zg_iconst hC (v := (-1)) dX8_book_71 (by decide) ?_
      refine zg_icmp_ne hC (tgt := 81) dX8_book_72 (by decide) (fun c16 => ?_) (fun c16 => ?_)
      · exact zg_sub [1] rfl (gX8_book_B75 hC hE hN N M13)
      · refine zg_aload_n hC 1 dX8_book_81 rfl ?_
        refine zg_get hC (k := 62) (v := .ref (ad 75)) ffX8_46 dX8_book_82 zq62 zk62 rfl ?_
        refine zg_sipush hC (v := 1051) dX8_book_85 (by decide) ?_
        refine zg_iload_n hC 2 dX8_book_88 rfl ?_
        refine zg_imul hC dX8_book_89 ?_
        refine zg_iload_n hC 3 dX8_book_90 rfl ?_
        refine zg_iadd hC dX8_book_91 ?_
        refine zg_iload hC 0 dX8_book_92 rfl ?_
        refine zg_iconst hC (v := 1) dX8_book_94 (by decide) ?_
        refine zg_iadd hC dX8_book_95 ?_
        refine zg_iast hC (k := 75) dX8_book_96 zq75 zk75 (fun h17 M18 eM18 => ?_)
        refine zg_iload hC 0 dX8_book_97 rfl ?_
        exact zg_ret hC hE dX8_book_99
  · refine zg_iconst hC (v := 0) dX8_book_44 (by decide) ?_
    exact zg_ret hC hE dX8_book_45
set_option maxRecDepth 20000 in
set_option maxHeartbeats 2000000 in
theorem gX8_book_B17 {l : Launch} {Z : zZ} {ad : Nat → Nat} {d : Nat} {X : zX} {cs : Nat × Nat} (hC : zC l Z zfull ad X RX8 cX8_book 5 (some .int) (d + 3)) (hE : zEnd Z zfull ad X false) (hN : zNoX X) (N : Nat) (v1 : Int32) (v2 : Int32) (v3 : Int32) (M : zMem) : zG l Z zfull ad X cs 17 [(0, .ref (ad 62)), (1, .int v1), (2, .int v2), (3, .int v3)] [.ref (ad 62)] M (fX8_book_B17 N v1 v2 v3 M) := by
  unfold fX8_book_B17
  refine zg_iconst hC (v := 1) dX8_book_17 (by decide) ?_
  refine zg_goto hC (tgt := 34) dX8_book_18 (by decide) ?_
  exact zg_sub [0, 1, 2, 3] rfl (gX8_book_B34 hC hE hN N v1 v2 v3 1 M)
set_option maxRecDepth 20000 in
set_option maxHeartbeats 2000000 in
theorem gX8_book_B0 {l : Launch} {Z : zZ} {ad : Nat → Nat} {d : Nat} {X : zX} {cs : Nat × Nat} (hC : zC l Z zfull ad X RX8 cX8_book 5 (some .int) (d + 3)) (hE : zEnd Z zfull ad X false) (hN : zNoX X) (N : Nat) (p1 : Int32) (p2 : Int32) (p3 : Int32) (M : zMem) : zG l Z zfull ad X cs 0 [(0, .ref (ad 62)), (1, .int p1), (2, .int p2), (3, .int p3)] [] M (fX8_book N p1 p2 p3 M) := by
  unfold fX8_book
  refine zg_aload_n hC 0 dX8_book_0 rfl ?_
  refine zg_iload_n hC 1 dX8_book_1 rfl ?_
  refine zg_callSi hC hE hN (As := [.int p1]) (S := [.ref (ad 62)]) rfl (tX8_isBakery (zflag hC) (d + 1) N p1 M) lkX8_93 rfl dX8_book_2 (Nat.le_of_ble_eq_true rfl) (fun r1 M2 er1 => ?_)
  refine zg_if_eq hC (tgt := 17) dX8_book_5 (by decide) (fun c3 => ?_) (fun c3 => ?_)
  · exact zg_sub [0, 1, 2, 3] rfl (gX8_book_B17 hC hE hN N p1 p2 p3 M2)
  · refine zg_iload_n hC 3 dX8_book_8 rfl ?_
    refine zg_iconst hC (v := 0) dX8_book_9 (by decide) ?_
    refine zg_iconst hC (v := 5) dX8_book_10 (by decide) ?_
    refine zg_callSi hC hE hN (As := [.int p3, .int 0, .int 5]) (S := [.ref (ad 62)]) rfl (tX8_in (zflag hC) (d + 2) N p3 0 5 M2) lkX8_86 rfl dX8_book_11 (Nat.le_of_ble_eq_true rfl) (fun r4 M5 er4 => ?_)
    refine zg_if_ne hC (tgt := 21) dX8_book_14 (by decide) (fun c6 => ?_) (fun c6 => ?_)
    · exact zg_sub [0, 1, 2, 3] rfl (gX8_book_B17 hC hE hN N p1 p2 p3 M5)
    · refine zg_aload_n hC 0 dX8_book_21 rfl ?_
      refine zg_iload_n hC 2 dX8_book_22 rfl ?_
      refine zg_callVi hC hE hN (k := 62) (As := [.int p2]) (S := [.ref (ad 62)]) rfl (tX8_isHour (zflag hC) (d + 2) N p2 M5) lkX8_159 rfl dX8_book_23 zq62 zk62 rfl rfl (Nat.le_of_ble_eq_true rfl) (fun r7 M8 er7 => ?_)
      refine zg_if_ne hC (tgt := 33) dX8_book_26 (by decide) (fun c9 => ?_) (fun c9 => ?_)
      · refine zg_iconst hC (v := 2) dX8_book_29 (by decide) ?_
        refine zg_goto hC (tgt := 34) dX8_book_30 (by decide) ?_
        exact zg_sub [0, 1, 2, 3] rfl (gX8_book_B34 hC hE hN N p1 p2 p3 2 M8)
      · refine zg_iconst hC (v := 0) dX8_book_33 (by decide) ?_
        exact zg_sub [0, 1, 2, 3] rfl (gX8_book_B34 hC hE hN N p1 p2 p3 0 M8)
theorem tX8_book {l : Launch} {Z : zZ} {ad : Nat → Nat} (hl : l.stackTraces = false) (d : Nat) (N : Nat) (p1 : Int32) (p2 : Int32) (p3 : Int32) (M : zMem) : zT l Z zfull ad (.code yX8_book cX8_book 5 (some .int)) yX8_book (d + 3) false zbn [.ref (ad 62), .int p1, .int p2, .int p3] M (fX8_book N p1 p2 p3 M) :=
  zT_of hl (by decide +kernel) (Nat.le_of_ble_eq_true rfl) (fun X hC hE hN => gX8_book_B0 hC hE hN N p1 p2 p3 M)

def fX8_renew_B44 (N : Nat) (v1 : Int32) (v2 : Int32) (s1 : Int32) (M : zMem) : zRES :=
  zl (zsI M 62 30 s1) fun M9 =>
  if (M9.1 62 30) ≤ 0 then
    if zin (((1051 : Int32) * v1) + v2) 5255 = true then
    if zin ((M9.1 75 (((1051 : Int32) * v1) + v2).toNatClampNeg) - 1) 60 = true then
    zb (fX8_currentOf N v1 (M9.1 70 ((M9.1 75 (((1051 : Int32) * v1) + v2).toNatClampNeg) - 1).toNatClampNeg) M9) fun r13 M14 =>
    if r13 = (-1) then
      zb (fX8_fails N 3 M14) fun r16 M17 =>
      some (.inl r16, M17)
    else
      if zin (((1051 : Int32) * v1) + v2) 5255 = true then
      zl (zsI M14 75 (((1051 : Int32) * v1) + v2).toNatClampNeg (r13 + 1)) fun M19 =>
      some (.inl r13, M19)
      else none
    else none
    else none
  else
    some (.inl 0, M9)
def fX8_renew (N : Nat) (p1 : Int32) (p2 : Int32) (M : zMem) : zRES :=
  zb (fX8_isBakery N p1 M) fun r1 M2 =>
  if r1 = 0 then
    fX8_renew_B44 N p1 p2 1 M2
  else
    zb (fX8_isHour N p2 M2) fun r4 M5 =>
    if r4 = 0 then
      fX8_renew_B44 N p1 p2 2 M5
    else
      if zin (((1051 : Int32) * p1) + p2) 5255 = true then
      if (M5.1 75 (((1051 : Int32) * p1) + p2).toNatClampNeg) = 0 then
        fX8_renew_B44 N p1 p2 3 M5
      else
        fX8_renew_B44 N p1 p2 0 M5
      else none
set_option maxRecDepth 20000 in
set_option maxHeartbeats 2000000 in
theorem gX8_renew_B44 {l : Launch} {Z : zZ} {ad : Nat → Nat} {d : Nat} {X : zX} {cs : Nat × Nat} (hC : zC l Z zfull ad X RX8 cX8_renew 4 (some .int) (d + 3)) (hE : zEnd Z zfull ad X false) (hN : zNoX X) (N : Nat) (v1 : Int32) (v2 : Int32) (s1 : Int32) (M : zMem) : zG l Z zfull ad X cs 44 [(0, .ref (ad 62)), (1, .int v1), (2, .int v2)] [.int s1, .ref (ad 62)] M (fX8_renew_B44 N v1 v2 s1 M) := by
  unfold fX8_renew_B44
  refine zg_putI hC (k := 62) fpX8_82 dX8_renew_44 zq62 zk62 rfl (fun M9 eM9 => ?_)
  refine zg_aload_n hC 0 dX8_renew_47 rfl ?_
  refine zg_get hC (k := 62) (v := .int (M9.1 62 30)) ffX8_82 dX8_renew_48 zq62 zk62 rfl ?_
  refine zg_if_le hC (tgt := 56) dX8_renew_51 (by decide) (fun c10 => ?_) (fun c10 => ?_)
  · refine zg_aload_n hC 0 dX8_renew_56 rfl ?_
    refine zg_iload_n hC 1 dX8_renew_57 rfl ?_
    refine zg_aload_n hC 0 dX8_renew_58 rfl ?_
    refine zg_get hC (k := 62) (v := .ref (ad 70)) ffX8_31 dX8_renew_59 zq62 zk62 rfl ?_
    refine zg_aload_n hC 0 dX8_renew_62 rfl ?_
    refine zg_get hC (k := 62) (v := .ref (ad 75)) ffX8_46 dX8_renew_63 zq62 zk62 rfl ?_
    refine zg_sipush hC (v := 1051) dX8_renew_66 (by decide) ?_
    refine zg_iload_n hC 1 dX8_renew_69 rfl ?_
    refine zg_imul hC dX8_renew_70 ?_
    refine zg_iload_n hC 2 dX8_renew_71 rfl ?_
    refine zg_iadd hC dX8_renew_72 ?_
    refine zg_iald hC (k := 75) dX8_renew_73 zq75 zk75 (fun h11 => ?_)
    refine zg_iconst hC (v := 1) dX8_renew_74 (by decide) ?_
    refine zg_isub hC dX8_renew_75 ?_
    refine zg_iald hC (k := 70) dX8_renew_76 zq70 zk70 (fun h12 => ?_)
    refine zg_callVi hC hE hN (k := 62) (As := [.int v1, .int (M9.1 70 ((M9.1 75 (((1051 : Int32) * v1) + v2).toNatClampNeg) - 1).toNatClampNeg)]) (S := []) rfl (tX8_currentOf (zflag hC) d N v1 (M9.1 70 ((M9.1 75 (((1051 : Int32) * v1) + v2).toNatClampNeg) - 1).toNatClampNeg) M9) lkX8_144 rfl dX8_renew_77 zq62 zk62 rfl rfl (Nat.le_of_ble_eq_true rfl) (fun r13 M14 er13 => ?_)
    refine zg_istore_n hC (L' := [(3, _), (0, _), (1, _), (2, _)]) dX8_renew_80 (by decide) rfl ?_
    refine zg_iload_n hC 0 dX8_renew_81 rfl ?_
    refine zg_iconst hC (v := (-1)) dX8_renew_82 (by decide) ?_
    refine zg_icmp_ne hC (tgt := 92) dX8_renew_83 (by decide) (fun c15 => ?_) (fun c15 => ?_)
    · refine zg_aload_n hC 1 dX8_renew_86 rfl ?_
      refine zg_iconst hC (v := 3) dX8_renew_87 (by decide) ?_
      refine zg_callVi hC hE hN (k := 62) (As := [.int 3]) (S := []) rfl (tX8_fails (zflag hC) (d + 2) N 3 M14) lkX8_162 rfl dX8_renew_88 zq62 zk62 rfl rfl (Nat.le_of_ble_eq_true rfl) (fun r16 M17 er16 => ?_)
      exact zg_ret hC hE dX8_renew_91
    · refine zg_aload_n hC 1 dX8_renew_92 rfl ?_
      refine zg_get hC (k := 62) (v := .ref (ad 75)) ffX8_46 dX8_renew_93 zq62 zk62 rfl ?_
      refine zg_sipush hC (v := 1051) dX8_renew_96 (by decide) ?_
      refine zg_iload_n hC 2 dX8_renew_99 rfl ?_
      refine zg_imul hC dX8_renew_100 ?_
      refine zg_iload_n hC 3 dX8_renew_101 rfl ?_
      refine zg_iadd hC dX8_renew_102 ?_
      refine zg_iload_n hC 0 dX8_renew_103 rfl ?_
      refine zg_iconst hC (v := 1) dX8_renew_104 (by decide) ?_
      refine zg_iadd hC dX8_renew_105 ?_
      refine zg_iast hC (k := 75) dX8_renew_106 zq75 zk75 (fun h18 M19 eM19 => ?_)
      refine zg_iload_n hC 0 dX8_renew_107 rfl ?_
      exact zg_ret hC hE dX8_renew_108
  · refine zg_iconst hC (v := 0) dX8_renew_54 (by decide) ?_
    exact zg_ret hC hE dX8_renew_55
set_option maxRecDepth 20000 in
set_option maxHeartbeats 2000000 in
theorem gX8_renew_B0 {l : Launch} {Z : zZ} {ad : Nat → Nat} {d : Nat} {X : zX} {cs : Nat × Nat} (hC : zC l Z zfull ad X RX8 cX8_renew 4 (some .int) (d + 3)) (hE : zEnd Z zfull ad X false) (hN : zNoX X) (N : Nat) (p1 : Int32) (p2 : Int32) (M : zMem) : zG l Z zfull ad X cs 0 [(0, .ref (ad 62)), (1, .int p1), (2, .int p2)] [] M (fX8_renew N p1 p2 M) := by
  unfold fX8_renew
  refine zg_aload_n hC 0 dX8_renew_0 rfl ?_
  refine zg_iload_n hC 1 dX8_renew_1 rfl ?_
  refine zg_callSi hC hE hN (As := [.int p1]) (S := [.ref (ad 62)]) rfl (tX8_isBakery (zflag hC) (d + 1) N p1 M) lkX8_93 rfl dX8_renew_2 (Nat.le_of_ble_eq_true rfl) (fun r1 M2 er1 => ?_)
  refine zg_if_ne hC (tgt := 12) dX8_renew_5 (by decide) (fun c3 => ?_) (fun c3 => ?_)
  · refine zg_iconst hC (v := 1) dX8_renew_8 (by decide) ?_
    refine zg_goto hC (tgt := 44) dX8_renew_9 (by decide) ?_
    exact zg_sub [0, 1, 2] rfl (gX8_renew_B44 hC hE hN N p1 p2 1 M2)
  · refine zg_aload_n hC 0 dX8_renew_12 rfl ?_
    refine zg_iload_n hC 2 dX8_renew_13 rfl ?_
    refine zg_callVi hC hE hN (k := 62) (As := [.int p2]) (S := [.ref (ad 62)]) rfl (tX8_isHour (zflag hC) (d + 2) N p2 M2) lkX8_159 rfl dX8_renew_14 zq62 zk62 rfl rfl (Nat.le_of_ble_eq_true rfl) (fun r4 M5 er4 => ?_)
    refine zg_if_ne hC (tgt := 24) dX8_renew_17 (by decide) (fun c6 => ?_) (fun c6 => ?_)
    · refine zg_iconst hC (v := 2) dX8_renew_20 (by decide) ?_
      refine zg_goto hC (tgt := 44) dX8_renew_21 (by decide) ?_
      exact zg_sub [0, 1, 2] rfl (gX8_renew_B44 hC hE hN N p1 p2 2 M5)
    · refine zg_aload_n hC 0 dX8_renew_24 rfl ?_
      refine zg_get hC (k := 62) (v := .ref (ad 75)) ffX8_46 dX8_renew_25 zq62 zk62 rfl ?_
      refine zg_sipush hC (v := 1051) dX8_renew_28 (by decide) ?_
      refine zg_iload_n hC 1 dX8_renew_31 rfl ?_
      refine zg_imul hC dX8_renew_32 ?_
      refine zg_iload_n hC 2 dX8_renew_33 rfl ?_
      refine zg_iadd hC dX8_renew_34 ?_
      refine zg_iald hC (k := 75) dX8_renew_35 zq75 zk75 (fun h7 => ?_)
      refine zg_if_ne hC (tgt := 43) dX8_renew_36 (by decide) (fun c8 => ?_) (fun c8 => ?_)
      · refine zg_iconst hC (v := 3) dX8_renew_39 (by decide) ?_
        refine zg_goto hC (tgt := 44) dX8_renew_40 (by decide) ?_
        exact zg_sub [0, 1, 2] rfl (gX8_renew_B44 hC hE hN N p1 p2 3 M5)
      · refine zg_iconst hC (v := 0) dX8_renew_43 (by decide) ?_
        exact zg_sub [0, 1, 2] rfl (gX8_renew_B44 hC hE hN N p1 p2 0 M5)
theorem tX8_renew {l : Launch} {Z : zZ} {ad : Nat → Nat} (hl : l.stackTraces = false) (d : Nat) (N : Nat) (p1 : Int32) (p2 : Int32) (M : zMem) : zT l Z zfull ad (.code yX8_renew cX8_renew 4 (some .int)) yX8_renew (d + 3) false zbn [.ref (ad 62), .int p1, .int p2] M (fX8_renew N p1 p2 M) :=
  zT_of hl (by decide +kernel) (Nat.le_of_ble_eq_true rfl) (fun X hC hE hN => gX8_renew_B0 hC hE hN N p1 p2 M)

def fX8_free_B44 (N : Nat) (v1 : Int32) (v2 : Int32) (s1 : Int32) (M : zMem) : zRES :=
  zl (zsI M 62 30 s1) fun M9 =>
  if (M9.1 62 30) ≤ 0 then
    if zin (((1051 : Int32) * v1) + v2) 5255 = true then
    zv ((M9.1 75 (((1051 : Int32) * v1) + v2).toNatClampNeg) - 1) fun x12 =>
    if zin (((1051 : Int32) * v1) + v2) 5255 = true then
    zl (zsI M9 75 (((1051 : Int32) * v1) + v2).toNatClampNeg 0) fun M14 =>
    some (.inl x12, M14)
    else none
    else none
  else
    some (.inl 0, M9)
def fX8_free (N : Nat) (p1 : Int32) (p2 : Int32) (M : zMem) : zRES :=
  zb (fX8_isBakery N p1 M) fun r1 M2 =>
  if r1 = 0 then
    fX8_free_B44 N p1 p2 1 M2
  else
    zb (fX8_isHour N p2 M2) fun r4 M5 =>
    if r4 = 0 then
      fX8_free_B44 N p1 p2 2 M5
    else
      if zin (((1051 : Int32) * p1) + p2) 5255 = true then
      if (M5.1 75 (((1051 : Int32) * p1) + p2).toNatClampNeg) = 0 then
        fX8_free_B44 N p1 p2 3 M5
      else
        fX8_free_B44 N p1 p2 0 M5
      else none
set_option maxRecDepth 20000 in
set_option maxHeartbeats 2000000 in
theorem gX8_free_B44 {l : Launch} {Z : zZ} {ad : Nat → Nat} {d : Nat} {X : zX} {cs : Nat × Nat} (hC : zC l Z zfull ad X RX8 cX8_free 4 (some .int) (d + 2)) (hE : zEnd Z zfull ad X false) (hN : zNoX X) (N : Nat) (v1 : Int32) (v2 : Int32) (s1 : Int32) (M : zMem) : zG l Z zfull ad X cs 44 [(0, .ref (ad 62)), (1, .int v1), (2, .int v2)] [.int s1, .ref (ad 62)] M (fX8_free_B44 N v1 v2 s1 M) := by
  unfold fX8_free_B44
  refine zg_putI hC (k := 62) fpX8_82 dX8_free_44 zq62 zk62 rfl (fun M9 eM9 => ?_)
  refine zg_aload_n hC 0 dX8_free_47 rfl ?_
  refine zg_get hC (k := 62) (v := .int (M9.1 62 30)) ffX8_82 dX8_free_48 zq62 zk62 rfl ?_
  refine zg_if_le hC (tgt := 56) dX8_free_51 (by decide) (fun c10 => ?_) (fun c10 => ?_)
  · refine zg_aload_n hC 0 dX8_free_56 rfl ?_
    refine zg_get hC (k := 62) (v := .ref (ad 75)) ffX8_46 dX8_free_57 zq62 zk62 rfl ?_
    refine zg_sipush hC (v := 1051) dX8_free_60 (by decide) ?_
    refine zg_iload_n hC 1 dX8_free_63 rfl ?_
    refine zg_imul hC dX8_free_64 ?_
    refine zg_iload_n hC 2 dX8_free_65 rfl ?_
    refine zg_iadd hC dX8_free_66 ?_
    refine zg_iald hC (k := 75) dX8_free_67 zq75 zk75 (fun h11 => ?_)
    refine zg_iconst hC (v := 1) dX8_free_68 (by decide) ?_
    refine zg_isub hC dX8_free_69 ?_
    refine zg_nm (fun x12 ex12 => ?_)
    refine zg_istore_n hC (L' := [(3, _), (0, _), (1, _), (2, _)]) dX8_free_70 (by decide) rfl ?_
    refine zg_aload_n hC 1 dX8_free_71 rfl ?_
    refine zg_get hC (k := 62) (v := .ref (ad 75)) ffX8_46 dX8_free_72 zq62 zk62 rfl ?_
    refine zg_sipush hC (v := 1051) dX8_free_75 (by decide) ?_
    refine zg_iload_n hC 2 dX8_free_78 rfl ?_
    refine zg_imul hC dX8_free_79 ?_
    refine zg_iload_n hC 3 dX8_free_80 rfl ?_
    refine zg_iadd hC dX8_free_81 ?_
    refine zg_iconst hC (v := 0) dX8_free_82 (by decide) ?_
    refine zg_iast hC (k := 75) dX8_free_83 zq75 zk75 (fun h13 M14 eM14 => ?_)
    refine zg_iload_n hC 0 dX8_free_84 rfl ?_
    exact zg_ret hC hE dX8_free_85
  · refine zg_iconst hC (v := 0) dX8_free_54 (by decide) ?_
    exact zg_ret hC hE dX8_free_55
set_option maxRecDepth 20000 in
set_option maxHeartbeats 2000000 in
theorem gX8_free_B0 {l : Launch} {Z : zZ} {ad : Nat → Nat} {d : Nat} {X : zX} {cs : Nat × Nat} (hC : zC l Z zfull ad X RX8 cX8_free 4 (some .int) (d + 2)) (hE : zEnd Z zfull ad X false) (hN : zNoX X) (N : Nat) (p1 : Int32) (p2 : Int32) (M : zMem) : zG l Z zfull ad X cs 0 [(0, .ref (ad 62)), (1, .int p1), (2, .int p2)] [] M (fX8_free N p1 p2 M) := by
  unfold fX8_free
  refine zg_aload_n hC 0 dX8_free_0 rfl ?_
  refine zg_iload_n hC 1 dX8_free_1 rfl ?_
  refine zg_callSi hC hE hN (As := [.int p1]) (S := [.ref (ad 62)]) rfl (tX8_isBakery (zflag hC) d N p1 M) lkX8_93 rfl dX8_free_2 (Nat.le_of_ble_eq_true rfl) (fun r1 M2 er1 => ?_)
  refine zg_if_ne hC (tgt := 12) dX8_free_5 (by decide) (fun c3 => ?_) (fun c3 => ?_)
  · refine zg_iconst hC (v := 1) dX8_free_8 (by decide) ?_
    refine zg_goto hC (tgt := 44) dX8_free_9 (by decide) ?_
    exact zg_sub [0, 1, 2] rfl (gX8_free_B44 hC hE hN N p1 p2 1 M2)
  · refine zg_aload_n hC 0 dX8_free_12 rfl ?_
    refine zg_iload_n hC 2 dX8_free_13 rfl ?_
    refine zg_callVi hC hE hN (k := 62) (As := [.int p2]) (S := [.ref (ad 62)]) rfl (tX8_isHour (zflag hC) (d + 1) N p2 M2) lkX8_159 rfl dX8_free_14 zq62 zk62 rfl rfl (Nat.le_of_ble_eq_true rfl) (fun r4 M5 er4 => ?_)
    refine zg_if_ne hC (tgt := 24) dX8_free_17 (by decide) (fun c6 => ?_) (fun c6 => ?_)
    · refine zg_iconst hC (v := 2) dX8_free_20 (by decide) ?_
      refine zg_goto hC (tgt := 44) dX8_free_21 (by decide) ?_
      exact zg_sub [0, 1, 2] rfl (gX8_free_B44 hC hE hN N p1 p2 2 M5)
    · refine zg_aload_n hC 0 dX8_free_24 rfl ?_
      refine zg_get hC (k := 62) (v := .ref (ad 75)) ffX8_46 dX8_free_25 zq62 zk62 rfl ?_
      refine zg_sipush hC (v := 1051) dX8_free_28 (by decide) ?_
      refine zg_iload_n hC 1 dX8_free_31 rfl ?_
      refine zg_imul hC dX8_free_32 ?_
      refine zg_iload_n hC 2 dX8_free_33 rfl ?_
      refine zg_iadd hC dX8_free_34 ?_
      refine zg_iald hC (k := 75) dX8_free_35 zq75 zk75 (fun h7 => ?_)
      refine zg_if_ne hC (tgt := 43) dX8_free_36 (by decide) (fun c8 => ?_) (fun c8 => ?_)
      · refine zg_iconst hC (v := 3) dX8_free_39 (by decide) ?_
        refine zg_goto hC (tgt := 44) dX8_free_40 (by decide) ?_
        exact zg_sub [0, 1, 2] rfl (gX8_free_B44 hC hE hN N p1 p2 3 M5)
      · refine zg_iconst hC (v := 0) dX8_free_43 (by decide) ?_
        exact zg_sub [0, 1, 2] rfl (gX8_free_B44 hC hE hN N p1 p2 0 M5)
theorem tX8_free {l : Launch} {Z : zZ} {ad : Nat → Nat} (hl : l.stackTraces = false) (d : Nat) (N : Nat) (p1 : Int32) (p2 : Int32) (M : zMem) : zT l Z zfull ad (.code yX8_free cX8_free 4 (some .int)) yX8_free (d + 2) false zbn [.ref (ad 62), .int p1, .int p2] M (fX8_free N p1 p2 M) :=
  zT_of hl (by decide +kernel) (Nat.le_of_ble_eq_true rfl) (fun X hC hE hN => gX8_free_B0 hC hE hN N p1 p2 M)

def fX8_booked_B25 (N : Nat) (v1 : Int32) (v2 : Int32) (s1 : Int32) (M : zMem) : zRES :=
  zl (zsI M 62 30 s1) fun M7 =>
  if (M7.1 62 30) = 0 then
    if zin (((1051 : Int32) * v1) + v2) 5255 = true then
    some (.inl ((M7.1 75 (((1051 : Int32) * v1) + v2).toNatClampNeg) - 1), M7)
    else none
  else
    some (.inl 0, M7)
def fX8_booked (N : Nat) (p1 : Int32) (p2 : Int32) (M : zMem) : zRES :=
  zb (fX8_isBakery N p1 M) fun r1 M2 =>
  if r1 = 0 then
    fX8_booked_B25 N p1 p2 1 M2
  else
    zb (fX8_isHour N p2 M2) fun r4 M5 =>
    if r4 = 0 then
      fX8_booked_B25 N p1 p2 2 M5
    else
      fX8_booked_B25 N p1 p2 0 M5
set_option maxRecDepth 20000 in
set_option maxHeartbeats 2000000 in
theorem gX8_booked_B25 {l : Launch} {Z : zZ} {ad : Nat → Nat} {d : Nat} {X : zX} {cs : Nat × Nat} (hC : zC l Z zfull ad X RX8 cX8_booked 3 (some .int) (d + 2)) (hE : zEnd Z zfull ad X false) (hN : zNoX X) (N : Nat) (v1 : Int32) (v2 : Int32) (s1 : Int32) (M : zMem) : zG l Z zfull ad X cs 25 [(0, .ref (ad 62)), (1, .int v1), (2, .int v2)] [.int s1, .ref (ad 62)] M (fX8_booked_B25 N v1 v2 s1 M) := by
  unfold fX8_booked_B25
  refine zg_putI hC (k := 62) fpX8_82 dX8_booked_25 zq62 zk62 rfl (fun M7 eM7 => ?_)
  refine zg_aload_n hC 0 dX8_booked_28 rfl ?_
  refine zg_get hC (k := 62) (v := .int (M7.1 62 30)) ffX8_82 dX8_booked_29 zq62 zk62 rfl ?_
  refine zg_if_ne hC (tgt := 52) dX8_booked_32 (by decide) (fun c8 => ?_) (fun c8 => ?_)
  · refine zg_aload_n hC 0 dX8_booked_35 rfl ?_
    refine zg_get hC (k := 62) (v := .ref (ad 75)) ffX8_46 dX8_booked_36 zq62 zk62 rfl ?_
    refine zg_sipush hC (v := 1051) dX8_booked_39 (by decide) ?_
    refine zg_iload_n hC 1 dX8_booked_42 rfl ?_
    refine zg_imul hC dX8_booked_43 ?_
    refine zg_iload_n hC 2 dX8_booked_44 rfl ?_
    refine zg_iadd hC dX8_booked_45 ?_
    refine zg_iald hC (k := 75) dX8_booked_46 zq75 zk75 (fun h9 => ?_)
    refine zg_iconst hC (v := 1) dX8_booked_47 (by decide) ?_
    refine zg_isub hC dX8_booked_48 ?_
    refine zg_goto hC (tgt := 53) dX8_booked_49 (by decide) ?_
    exact zg_ret hC hE dX8_booked_53
  · refine zg_iconst hC (v := 0) dX8_booked_52 (by decide) ?_
    exact zg_ret hC hE dX8_booked_53
set_option maxRecDepth 20000 in
set_option maxHeartbeats 2000000 in
theorem gX8_booked_B0 {l : Launch} {Z : zZ} {ad : Nat → Nat} {d : Nat} {X : zX} {cs : Nat × Nat} (hC : zC l Z zfull ad X RX8 cX8_booked 3 (some .int) (d + 2)) (hE : zEnd Z zfull ad X false) (hN : zNoX X) (N : Nat) (p1 : Int32) (p2 : Int32) (M : zMem) : zG l Z zfull ad X cs 0 [(0, .ref (ad 62)), (1, .int p1), (2, .int p2)] [] M (fX8_booked N p1 p2 M) := by
  unfold fX8_booked
  refine zg_aload_n hC 0 dX8_booked_0 rfl ?_
  refine zg_iload_n hC 1 dX8_booked_1 rfl ?_
  refine zg_callSi hC hE hN (As := [.int p1]) (S := [.ref (ad 62)]) rfl (tX8_isBakery (zflag hC) d N p1 M) lkX8_93 rfl dX8_booked_2 (Nat.le_of_ble_eq_true rfl) (fun r1 M2 er1 => ?_)
  refine zg_if_ne hC (tgt := 12) dX8_booked_5 (by decide) (fun c3 => ?_) (fun c3 => ?_)
  · refine zg_iconst hC (v := 1) dX8_booked_8 (by decide) ?_
    refine zg_goto hC (tgt := 25) dX8_booked_9 (by decide) ?_
    exact zg_sub [0, 1, 2] rfl (gX8_booked_B25 hC hE hN N p1 p2 1 M2)
  · refine zg_aload_n hC 0 dX8_booked_12 rfl ?_
    refine zg_iload_n hC 2 dX8_booked_13 rfl ?_
    refine zg_callVi hC hE hN (k := 62) (As := [.int p2]) (S := [.ref (ad 62)]) rfl (tX8_isHour (zflag hC) (d + 1) N p2 M2) lkX8_159 rfl dX8_booked_14 zq62 zk62 rfl rfl (Nat.le_of_ble_eq_true rfl) (fun r4 M5 er4 => ?_)
    refine zg_if_ne hC (tgt := 24) dX8_booked_17 (by decide) (fun c6 => ?_) (fun c6 => ?_)
    · refine zg_iconst hC (v := 2) dX8_booked_20 (by decide) ?_
      refine zg_goto hC (tgt := 25) dX8_booked_21 (by decide) ?_
      exact zg_sub [0, 1, 2] rfl (gX8_booked_B25 hC hE hN N p1 p2 2 M5)
    · refine zg_iconst hC (v := 0) dX8_booked_24 (by decide) ?_
      exact zg_sub [0, 1, 2] rfl (gX8_booked_B25 hC hE hN N p1 p2 0 M5)
theorem tX8_booked {l : Launch} {Z : zZ} {ad : Nat → Nat} (hl : l.stackTraces = false) (d : Nat) (N : Nat) (p1 : Int32) (p2 : Int32) (M : zMem) : zT l Z zfull ad (.code yX8_booked cX8_booked 3 (some .int)) yX8_booked (d + 2) false zbn [.ref (ad 62), .int p1, .int p2] M (fX8_booked N p1 p2 M) :=
  zT_of hl (by decide +kernel) (Nat.le_of_ble_eq_true rfl) (fun X hC hE hN => gX8_booked_B0 hC hE hN N p1 p2 M)

def fX8_stopped_B66 (N : Nat) (again9 : Int32 → Int32 → zMem → zRES) (again19 : Int32 → Int32 → Int32 → zMem → zRES) (v2 : Int32) (v3 : Int32) (s0 : Int32) (s1 : Int32) (M : zMem) : zRES :=
  zv (s0 + s1) fun x11 =>
  again19 x11 v2 (v3 + 1) M
def fX8_stopped_B65 (N : Nat) (again9 : Int32 → Int32 → zMem → zRES) (again19 : Int32 → Int32 → Int32 → zMem → zRES) (v2 : Int32) (v3 : Int32) (s0 : Int32) (M : zMem) : zRES :=
  fX8_stopped_B66 N again9 again19 v2 v3 s0 0 M
def fX8_stopped_B19 (N : Nat) (again9 : Int32 → Int32 → zMem → zRES) : Nat → Int32 → Int32 → Int32 → zMem → zRES
  | 0, _, _, _, _ => none
  | n + 1, v1, v2, v3, M =>
  if ((M.1 62 14) + 50) < v3 then
    again9 v1 (v2 + 1) M
  else
    if zin (((1051 : Int32) * v2) + v3) 5255 = true then
    zv (M.1 75 (((1051 : Int32) * v2) + v3).toNatClampNeg) fun x6 =>
    if x6 ≤ 0 then
      fX8_stopped_B65 N again9 (fX8_stopped_B19 N again9 n) v2 v3 v1 M
    else
      zb (fX8_isHeldNow N (x6 - 1) M) fun r8 M9 =>
      if r8 = 0 then
        fX8_stopped_B66 N again9 (fX8_stopped_B19 N again9 n) v2 v3 v1 1 M9
      else
        fX8_stopped_B65 N again9 (fX8_stopped_B19 N again9 n) v2 v3 v1 M9
    else none
def fX8_stopped_B9 (N : Nat) : Nat → Int32 → Int32 → zMem → zRES
  | 0, _, _, _ => none
  | n + 1, v1, v2, M =>
  if (5 : Int32) ≤ v2 then
    some (.inl v1, M)
  else
    zv (M.1 62 14) fun x3 =>
    fX8_stopped_B19 N (fX8_stopped_B9 N n) N v1 v2 x3 M
def fX8_stopped (N : Nat) (M : zMem) : zRES :=
  zl (zsI M 62 30 0) fun M1 =>
  fX8_stopped_B9 N N 0 0 M1
set_option maxRecDepth 20000 in
set_option maxHeartbeats 2000000 in
theorem gX8_stopped_B66 {l : Launch} {Z : zZ} {ad : Nat → Nat} {d : Nat} {X : zX} {cs : Nat × Nat} (hC : zC l Z zfull ad X RX8 cX8_stopped 5 (some .int) (d + 2)) (hE : zEnd Z zfull ad X false) (hN : zNoX X) (N : Nat) {again9 : Int32 → Int32 → zMem → zRES} (hag9 : ∀ v1 v2 M, zG l Z zfull ad X cs 9 [(0, .ref (ad 62)), (1, .int v1), (2, .int v2)] [] M (again9 v1 v2 M)) {again19 : Int32 → Int32 → Int32 → zMem → zRES} (hag19 : ∀ v1 v2 v3 M, zG l Z zfull ad X cs 19 [(0, .ref (ad 62)), (1, .int v1), (2, .int v2), (3, .int v3)] [] M (again19 v1 v2 v3 M)) (v2 : Int32) (v3 : Int32) (s0 : Int32) (s1 : Int32) (M : zMem) : zG l Z zfull ad X cs 66 [(0, .ref (ad 62)), (2, .int v2), (3, .int v3)] [.int s1, .int s0] M (fX8_stopped_B66 N again9 again19 v2 v3 s0 s1 M) := by
  unfold fX8_stopped_B66
  refine zg_iadd hC dX8_stopped_66 ?_
  refine zg_nm (fun x11 ex11 => ?_)
  refine zg_istore_n hC (L' := [(1, _), (0, _), (2, _), (3, _)]) dX8_stopped_67 (by decide) rfl ?_
  refine zg_iinc hC 3 (v := v3 + 1) (L' := [(3, _), (1, _), (0, _), (2, _)]) dX8_stopped_68 rfl (by rfl) (by decide) rfl ?_
  refine zg_goto hC (tgt := 19) dX8_stopped_71 (by decide) ?_
  exact zg_sub [2, 1, 3, 0] rfl (hag19 x11 v2 (v3 + 1) M)
set_option maxRecDepth 20000 in
set_option maxHeartbeats 2000000 in
theorem gX8_stopped_B65 {l : Launch} {Z : zZ} {ad : Nat → Nat} {d : Nat} {X : zX} {cs : Nat × Nat} (hC : zC l Z zfull ad X RX8 cX8_stopped 5 (some .int) (d + 2)) (hE : zEnd Z zfull ad X false) (hN : zNoX X) (N : Nat) {again9 : Int32 → Int32 → zMem → zRES} (hag9 : ∀ v1 v2 M, zG l Z zfull ad X cs 9 [(0, .ref (ad 62)), (1, .int v1), (2, .int v2)] [] M (again9 v1 v2 M)) {again19 : Int32 → Int32 → Int32 → zMem → zRES} (hag19 : ∀ v1 v2 v3 M, zG l Z zfull ad X cs 19 [(0, .ref (ad 62)), (1, .int v1), (2, .int v2), (3, .int v3)] [] M (again19 v1 v2 v3 M)) (v2 : Int32) (v3 : Int32) (s0 : Int32) (M : zMem) : zG l Z zfull ad X cs 65 [(0, .ref (ad 62)), (2, .int v2), (3, .int v3)] [.int s0] M (fX8_stopped_B65 N again9 again19 v2 v3 s0 M) := by
  unfold fX8_stopped_B65
  refine zg_iconst hC (v := 0) dX8_stopped_65 (by decide) ?_
  exact zg_sub [0, 1, 2] rfl (gX8_stopped_B66 hC hE hN N hag9 hag19 v2 v3 s0 0 M)
set_option maxRecDepth 20000 in
set_option maxHeartbeats 2000000 in
theorem gX8_stopped_B19 {l : Launch} {Z : zZ} {ad : Nat → Nat} {d : Nat} {X : zX} {cs : Nat × Nat} (hC : zC l Z zfull ad X RX8 cX8_stopped 5 (some .int) (d + 2)) (hE : zEnd Z zfull ad X false) (hN : zNoX X) (N : Nat) {again9 : Int32 → Int32 → zMem → zRES} (hag9 : ∀ v1 v2 M, zG l Z zfull ad X cs 9 [(0, .ref (ad 62)), (1, .int v1), (2, .int v2)] [] M (again9 v1 v2 M)) : ∀ (n : Nat) (v1 : Int32) (v2 : Int32) (v3 : Int32) (M : zMem), zG l Z zfull ad X cs 19 [(0, .ref (ad 62)), (1, .int v1), (2, .int v2), (3, .int v3)] [] M (fX8_stopped_B19 N again9 n v1 v2 v3 M) := by
  intro n
  induction n with
  | zero =>
    intro v1 v2 v3 M
    exact zg_none
  | succ n ih =>
  intro v1 v2 v3 M
  rw [fX8_stopped_B19]
  refine zg_iload_n hC 3 dX8_stopped_19 rfl ?_
  refine zg_aload_n hC 0 dX8_stopped_20 rfl ?_
  refine zg_get hC (k := 62) (v := .int (M.1 62 14)) ffX8_156 dX8_stopped_21 zq62 zk62 rfl ?_
  refine zg_bipush hC (v := 50) dX8_stopped_24 (by decide) ?_
  refine zg_iadd hC dX8_stopped_26 ?_
  refine zg_icmp_gt hC (tgt := 74) dX8_stopped_27 (by decide) (fun c4 => ?_) (fun c4 => ?_)
  · refine zg_iinc hC 2 (v := v2 + 1) (L' := [(2, _), (0, _), (1, _), (3, _)]) dX8_stopped_74 rfl (by rfl) (by decide) rfl ?_
    refine zg_goto hC (tgt := 9) dX8_stopped_77 (by decide) ?_
    exact zg_sub [1, 2, 0] rfl (hag9 v1 (v2 + 1) M)
  · refine zg_aload_n hC 0 dX8_stopped_30 rfl ?_
    refine zg_get hC (k := 62) (v := .ref (ad 75)) ffX8_46 dX8_stopped_31 zq62 zk62 rfl ?_
    refine zg_sipush hC (v := 1051) dX8_stopped_34 (by decide) ?_
    refine zg_iload_n hC 2 dX8_stopped_37 rfl ?_
    refine zg_imul hC dX8_stopped_38 ?_
    refine zg_iload_n hC 3 dX8_stopped_39 rfl ?_
    refine zg_iadd hC dX8_stopped_40 ?_
    refine zg_iald hC (k := 75) dX8_stopped_41 zq75 zk75 (fun h5 => ?_)
    refine zg_nm (fun x6 ex6 => ?_)
    refine zg_istore hC (L' := [(4, _), (0, _), (1, _), (2, _), (3, _)]) dX8_stopped_42 (by decide) rfl ?_
    refine zg_iload_n hC 2 dX8_stopped_44 rfl ?_
    refine zg_iload hC 0 dX8_stopped_45 rfl ?_
    refine zg_if_le hC (tgt := 65) dX8_stopped_47 (by decide) (fun c7 => ?_) (fun c7 => ?_)
    · exact zg_sub [1, 3, 4] rfl (gX8_stopped_B65 hC hE hN N hag9 ih v2 v3 v1 M)
    · refine zg_aload_n hC 1 dX8_stopped_50 rfl ?_
      refine zg_iload hC 0 dX8_stopped_51 rfl ?_
      refine zg_iconst hC (v := 1) dX8_stopped_53 (by decide) ?_
      refine zg_isub hC dX8_stopped_54 ?_
      refine zg_callVi hC hE hN (k := 62) (As := [.int (x6 - 1)]) (S := [.int v1]) rfl (tX8_isHeldNow (zflag hC) d N (x6 - 1) M) lkX8_125 rfl dX8_stopped_55 zq62 zk62 rfl rfl (Nat.le_of_ble_eq_true rfl) (fun r8 M9 er8 => ?_)
      refine zg_if_ne hC (tgt := 65) dX8_stopped_58 (by decide) (fun c10 => ?_) (fun c10 => ?_)
      · refine zg_iconst hC (v := 1) dX8_stopped_61 (by decide) ?_
        refine zg_goto hC (tgt := 66) dX8_stopped_62 (by decide) ?_
        exact zg_sub [1, 3, 4] rfl (gX8_stopped_B66 hC hE hN N hag9 ih v2 v3 v1 1 M9)
      · exact zg_sub [1, 3, 4] rfl (gX8_stopped_B65 hC hE hN N hag9 ih v2 v3 v1 M9)
set_option maxRecDepth 20000 in
set_option maxHeartbeats 2000000 in
theorem gX8_stopped_B9 {l : Launch} {Z : zZ} {ad : Nat → Nat} {d : Nat} {X : zX} {cs : Nat × Nat} (hC : zC l Z zfull ad X RX8 cX8_stopped 5 (some .int) (d + 2)) (hE : zEnd Z zfull ad X false) (hN : zNoX X) (N : Nat) : ∀ (n : Nat) (v1 : Int32) (v2 : Int32) (M : zMem), zG l Z zfull ad X cs 9 [(0, .ref (ad 62)), (1, .int v1), (2, .int v2)] [] M (fX8_stopped_B9 N n v1 v2 M) := by
  intro n
  induction n with
  | zero =>
    intro v1 v2 M
    exact zg_none
  | succ n ih =>
  intro v1 v2 M
  rw [fX8_stopped_B9]
  refine zg_iload_n hC 2 dX8_stopped_9 rfl ?_
  refine zg_iconst hC (v := 5) dX8_stopped_10 (by decide) ?_
  refine zg_icmp_ge hC (tgt := 80) dX8_stopped_11 (by decide) (fun c2 => ?_) (fun c2 => ?_)
  · refine zg_iload_n hC 1 dX8_stopped_80 rfl ?_
    exact zg_ret hC hE dX8_stopped_81
  · refine zg_aload_n hC 0 dX8_stopped_14 rfl ?_
    refine zg_get hC (k := 62) (v := .int (M.1 62 14)) ffX8_156 dX8_stopped_15 zq62 zk62 rfl ?_
    refine zg_nm (fun x3 ex3 => ?_)
    refine zg_istore_n hC (L' := [(3, _), (0, _), (1, _), (2, _)]) dX8_stopped_18 (by decide) rfl ?_
    exact zg_sub [1, 2, 3, 0] rfl (gX8_stopped_B19 hC hE hN N ih N v1 v2 x3 M)
set_option maxRecDepth 20000 in
set_option maxHeartbeats 2000000 in
theorem gX8_stopped_B0 {l : Launch} {Z : zZ} {ad : Nat → Nat} {d : Nat} {X : zX} {cs : Nat × Nat} (hC : zC l Z zfull ad X RX8 cX8_stopped 5 (some .int) (d + 2)) (hE : zEnd Z zfull ad X false) (hN : zNoX X) (N : Nat) (M : zMem) : zG l Z zfull ad X cs 0 [(0, .ref (ad 62))] [] M (fX8_stopped N M) := by
  unfold fX8_stopped
  refine zg_aload_n hC 0 dX8_stopped_0 rfl ?_
  refine zg_iconst hC (v := 0) dX8_stopped_1 (by decide) ?_
  refine zg_putI hC (k := 62) fpX8_82 dX8_stopped_2 zq62 zk62 rfl (fun M1 eM1 => ?_)
  refine zg_iconst hC (v := 0) dX8_stopped_5 (by decide) ?_
  refine zg_istore_n hC (L' := [(1, _), (0, _)]) dX8_stopped_6 (by decide) rfl ?_
  refine zg_iconst hC (v := 0) dX8_stopped_7 (by decide) ?_
  refine zg_istore_n hC (L' := [(2, _), (1, _), (0, _)]) dX8_stopped_8 (by decide) rfl ?_
  exact zg_sub [2, 1, 0] rfl (gX8_stopped_B9 hC hE hN N N 0 0 M1)
theorem tX8_stopped {l : Launch} {Z : zZ} {ad : Nat → Nat} (hl : l.stackTraces = false) (d : Nat) (N : Nat) (M : zMem) : zT l Z zfull ad (.code yX8_stopped cX8_stopped 5 (some .int)) yX8_stopped (d + 2) false zbn [.ref (ad 62)] M (fX8_stopped N M) :=
  zT_of hl (by decide +kernel) (Nat.le_of_ble_eq_true rfl) (fun X hC hE hN => gX8_stopped_B0 hC hE hN N M)

def fX8_bakes_B125 (N : Nat) (again49 : Int32 → Int32 → Int32 → Int32 → zMem → zRES) (v1 : Int32) (v2 : Int32) (v3 : Int32) (v4 : Int32) (M : zMem) : zRES :=
  again49 v1 v2 v3 (v4 + 1) M
def fX8_bakes_B49 (N : Nat) : Nat → Int32 → Int32 → Int32 → Int32 → zMem → zRES
  | 0, _, _, _, _, _ => none
  | n + 1, v1, v2, v3, v4, M =>
  if zin v1 5 = true then
  if (M.1 78 v1.toNatClampNeg) ≤ v4 then
    if zin v1 5 = true then
    if zin v2 60 = true then
    if zin v1 5 = true then
    zl (zsI M 78 v1.toNatClampNeg ((M.1 78 v1.toNatClampNeg) - (M.1 71 v2.toNatClampNeg))) fun M16 =>
    if zin (M16.1 62 21) 60 = true then
    zl (zsI M16 80 (M16.1 62 21).toNatClampNeg v2) fun M18 =>
    if zin (M18.1 62 21) 60 = true then
    zl (zsI M18 81 (M18.1 62 21).toNatClampNeg v3) fun M20 =>
    if zin v2 60 = true then
    if zin (M20.1 62 21) 60 = true then
    zl (zsI M20 82 (M20.1 62 21).toNatClampNeg (M20.1 72 v2.toNatClampNeg)) fun M23 =>
    zl (zsI M23 62 21 ((M23.1 62 21) + 1)) fun M24 =>
    some (.inl 1, M24)
    else none
    else none
    else none
    else none
    else none
    else none
    else none
  else
    if zin v2 60 = true then
    if (M.1 71 v2.toNatClampNeg) ≤ v4 then
      if zin v2 60 = true then
      if zin (((200 : Int32) * v1) + v4) 1000 = true then
      if zin ((((200 : Int32) * v1) + v4) - (M.1 71 v2.toNatClampNeg)) 1000 = true then
      zl (zsI M 77 ((((200 : Int32) * v1) + v4) - (M.1 71 v2.toNatClampNeg)).toNatClampNeg (M.1 77 (((200 : Int32) * v1) + v4).toNatClampNeg)) fun M30 =>
      fX8_bakes_B125 N (fX8_bakes_B49 N n) v1 v2 v3 v4 M30
      else none
      else none
      else none
    else
      if zin (((200 : Int32) * v1) + v4) 1000 = true then
      zv (v3 ||| ((1 : Int32) <<< ((M.1 77 (((200 : Int32) * v1) + v4).toNatClampNeg) &&& 31))) fun x32 =>
      fX8_bakes_B125 N (fX8_bakes_B49 N n) v1 v2 x32 v4 M
      else none
    else none
  else none
def fX8_bakes_B32 (N : Nat) (v1 : Int32) (M : zMem) : zRES :=
  if zin v1 5 = true then
  if zin v1 5 = true then
  zl (zsI M 79 v1.toNatClampNeg ((M.1 79 v1.toNatClampNeg) + 1)) fun M10 =>
  some (.inl 0, M10)
  else none
  else none
def fX8_bakes (N : Nat) (p1 : Int32) (p2 : Int32) (M : zMem) : zRES :=
  zb (fX8_isHeldNow N p2 M) fun r1 M2 =>
  if r1 = 0 then
    fX8_bakes_B32 N p1 M2
  else
    if zin p1 5 = true then
    if zin p2 60 = true then
    if (M2.1 78 p1.toNatClampNeg) < (M2.1 71 p2.toNatClampNeg) then
      fX8_bakes_B32 N p1 M2
    else
      if (M2.1 62 21) = 60 then
        fX8_bakes_B32 N p1 M2
      else
        fX8_bakes_B49 N N p1 p2 0 0 M2
    else none
    else none
set_option maxRecDepth 20000 in
set_option maxHeartbeats 2000000 in
theorem gX8_bakes_B125 {l : Launch} {Z : zZ} {ad : Nat → Nat} {d : Nat} {X : zX} {cs : Nat × Nat} (hC : zC l Z zfull ad X RX8 cX8_bakes 5 (some .boolean) (d + 2)) (hE : zEnd Z zfull ad X false) (hN : zNoX X) (N : Nat) {again49 : Int32 → Int32 → Int32 → Int32 → zMem → zRES} (hag49 : ∀ v1 v2 v3 v4 M, zG l Z zfull ad X cs 49 [(0, .ref (ad 62)), (1, .int v1), (2, .int v2), (3, .int v3), (4, .int v4)] [] M (again49 v1 v2 v3 v4 M)) (v1 : Int32) (v2 : Int32) (v3 : Int32) (v4 : Int32) (M : zMem) : zG l Z zfull ad X cs 125 [(0, .ref (ad 62)), (1, .int v1), (2, .int v2), (3, .int v3), (4, .int v4)] [] M (fX8_bakes_B125 N again49 v1 v2 v3 v4 M) := by
  unfold fX8_bakes_B125
  refine zg_iinc hC 4 (v := v4 + 1) (L' := [(4, _), (0, _), (1, _), (2, _), (3, _)]) dX8_bakes_125 rfl (by rfl) (by decide) rfl ?_
  refine zg_goto hC (tgt := 49) dX8_bakes_128 (by decide) ?_
  exact zg_sub [1, 2, 3, 4, 0] rfl (hag49 v1 v2 v3 (v4 + 1) M)
set_option maxRecDepth 20000 in
set_option maxHeartbeats 2000000 in
theorem gX8_bakes_B49 {l : Launch} {Z : zZ} {ad : Nat → Nat} {d : Nat} {X : zX} {cs : Nat × Nat} (hC : zC l Z zfull ad X RX8 cX8_bakes 5 (some .boolean) (d + 2)) (hE : zEnd Z zfull ad X false) (hN : zNoX X) (N : Nat) : ∀ (n : Nat) (v1 : Int32) (v2 : Int32) (v3 : Int32) (v4 : Int32) (M : zMem), zG l Z zfull ad X cs 49 [(0, .ref (ad 62)), (1, .int v1), (2, .int v2), (3, .int v3), (4, .int v4)] [] M (fX8_bakes_B49 N n v1 v2 v3 v4 M) := by
  intro n
  induction n with
  | zero =>
    intro v1 v2 v3 v4 M
    exact zg_none
  | succ n ih =>
  intro v1 v2 v3 v4 M
  rw [fX8_bakes_B49]
  refine zg_iload hC 4 dX8_bakes_49 rfl ?_
  refine zg_aload_n hC 0 dX8_bakes_51 rfl ?_
  refine zg_get hC (k := 62) (v := .ref (ad 78)) ffX8_55 dX8_bakes_52 zq62 zk62 rfl ?_
  refine zg_iload_n hC 1 dX8_bakes_55 rfl ?_
  refine zg_iald hC (k := 78) dX8_bakes_56 zq78 zk78 (fun h11 => ?_)
  refine zg_icmp_ge hC (tgt := 131) dX8_bakes_57 (by decide) (fun c12 => ?_) (fun c12 => ?_)
  · refine zg_aload_n hC 0 dX8_bakes_131 rfl ?_
    refine zg_get hC (k := 62) (v := .ref (ad 78)) ffX8_55 dX8_bakes_132 zq62 zk62 rfl ?_
    refine zg_iload_n hC 1 dX8_bakes_135 rfl ?_
    refine zg_dup2_11 hC dX8_bakes_136 rfl rfl ?_
    refine zg_iald hC (k := 78) dX8_bakes_137 zq78 zk78 (fun h13 => ?_)
    refine zg_aload_n hC 0 dX8_bakes_138 rfl ?_
    refine zg_get hC (k := 62) (v := .ref (ad 71)) ffX8_34 dX8_bakes_139 zq62 zk62 rfl ?_
    refine zg_iload_n hC 2 dX8_bakes_142 rfl ?_
    refine zg_iald hC (k := 71) dX8_bakes_143 zq71 zk71 (fun h14 => ?_)
    refine zg_isub hC dX8_bakes_144 ?_
    refine zg_iast hC (k := 78) dX8_bakes_145 zq78 zk78 (fun h15 M16 eM16 => ?_)
    refine zg_aload_n hC 0 dX8_bakes_146 rfl ?_
    refine zg_get hC (k := 62) (v := .ref (ad 80)) ffX8_61 dX8_bakes_147 zq62 zk62 rfl ?_
    refine zg_aload_n hC 0 dX8_bakes_150 rfl ?_
    refine zg_get hC (k := 62) (v := .int (M16.1 62 21)) ffX8_128 dX8_bakes_151 zq62 zk62 rfl ?_
    refine zg_iload_n hC 2 dX8_bakes_154 rfl ?_
    refine zg_iast hC (k := 80) dX8_bakes_155 zq80 zk80 (fun h17 M18 eM18 => ?_)
    refine zg_aload_n hC 0 dX8_bakes_156 rfl ?_
    refine zg_get hC (k := 62) (v := .ref (ad 81)) ffX8_64 dX8_bakes_157 zq62 zk62 rfl ?_
    refine zg_aload_n hC 0 dX8_bakes_160 rfl ?_
    refine zg_get hC (k := 62) (v := .int (M18.1 62 21)) ffX8_128 dX8_bakes_161 zq62 zk62 rfl ?_
    refine zg_iload_n hC 3 dX8_bakes_164 rfl ?_
    refine zg_iast hC (k := 81) dX8_bakes_165 zq81 zk81 (fun h19 M20 eM20 => ?_)
    refine zg_aload_n hC 0 dX8_bakes_166 rfl ?_
    refine zg_get hC (k := 62) (v := .ref (ad 82)) ffX8_67 dX8_bakes_167 zq62 zk62 rfl ?_
    refine zg_aload_n hC 0 dX8_bakes_170 rfl ?_
    refine zg_get hC (k := 62) (v := .int (M20.1 62 21)) ffX8_128 dX8_bakes_171 zq62 zk62 rfl ?_
    refine zg_aload_n hC 0 dX8_bakes_174 rfl ?_
    refine zg_get hC (k := 62) (v := .ref (ad 72)) ffX8_37 dX8_bakes_175 zq62 zk62 rfl ?_
    refine zg_iload_n hC 2 dX8_bakes_178 rfl ?_
    refine zg_iald hC (k := 72) dX8_bakes_179 zq72 zk72 (fun h21 => ?_)
    refine zg_iast hC (k := 82) dX8_bakes_180 zq82 zk82 (fun h22 M23 eM23 => ?_)
    refine zg_aload_n hC 0 dX8_bakes_181 rfl ?_
    refine zg_dup hC dX8_bakes_182 rfl ?_
    refine zg_get hC (k := 62) (v := .int (M23.1 62 21)) ffX8_128 dX8_bakes_183 zq62 zk62 rfl ?_
    refine zg_iconst hC (v := 1) dX8_bakes_186 (by decide) ?_
    refine zg_iadd hC dX8_bakes_187 ?_
    refine zg_putI hC (k := 62) fpX8_128 dX8_bakes_188 zq62 zk62 rfl (fun M24 eM24 => ?_)
    refine zg_iconst hC (v := 1) dX8_bakes_191 (by decide) ?_
    exact zg_retz hC hE (by decide) dX8_bakes_192
  · refine zg_iload hC 4 dX8_bakes_60 rfl ?_
    refine zg_aload_n hC 0 dX8_bakes_62 rfl ?_
    refine zg_get hC (k := 62) (v := .ref (ad 71)) ffX8_34 dX8_bakes_63 zq62 zk62 rfl ?_
    refine zg_iload_n hC 2 dX8_bakes_66 rfl ?_
    refine zg_iald hC (k := 71) dX8_bakes_67 zq71 zk71 (fun h25 => ?_)
    refine zg_icmp_ge hC (tgt := 92) dX8_bakes_68 (by decide) (fun c26 => ?_) (fun c26 => ?_)
    · refine zg_aload_n hC 0 dX8_bakes_92 rfl ?_
      refine zg_get hC (k := 62) (v := .ref (ad 77)) ffX8_52 dX8_bakes_93 zq62 zk62 rfl ?_
      refine zg_sipush hC (v := 200) dX8_bakes_96 (by decide) ?_
      refine zg_iload_n hC 1 dX8_bakes_99 rfl ?_
      refine zg_imul hC dX8_bakes_100 ?_
      refine zg_iload hC 4 dX8_bakes_101 rfl ?_
      refine zg_iadd hC dX8_bakes_103 ?_
      refine zg_aload_n hC 0 dX8_bakes_104 rfl ?_
      refine zg_get hC (k := 62) (v := .ref (ad 71)) ffX8_34 dX8_bakes_105 zq62 zk62 rfl ?_
      refine zg_iload_n hC 2 dX8_bakes_108 rfl ?_
      refine zg_iald hC (k := 71) dX8_bakes_109 zq71 zk71 (fun h27 => ?_)
      refine zg_isub hC dX8_bakes_110 ?_
      refine zg_aload_n hC 0 dX8_bakes_111 rfl ?_
      refine zg_get hC (k := 62) (v := .ref (ad 77)) ffX8_52 dX8_bakes_112 zq62 zk62 rfl ?_
      refine zg_sipush hC (v := 200) dX8_bakes_115 (by decide) ?_
      refine zg_iload_n hC 1 dX8_bakes_118 rfl ?_
      refine zg_imul hC dX8_bakes_119 ?_
      refine zg_iload hC 4 dX8_bakes_120 rfl ?_
      refine zg_iadd hC dX8_bakes_122 ?_
      refine zg_iald hC (k := 77) dX8_bakes_123 zq77 zk77 (fun h28 => ?_)
      refine zg_iast hC (k := 77) dX8_bakes_124 zq77 zk77 (fun h29 M30 eM30 => ?_)
      exact zg_sub [0, 1, 2, 3, 4] rfl (gX8_bakes_B125 hC hE hN N ih v1 v2 v3 v4 M30)
    · refine zg_iload_n hC 3 dX8_bakes_71 rfl ?_
      refine zg_iconst hC (v := 1) dX8_bakes_72 (by decide) ?_
      refine zg_aload_n hC 0 dX8_bakes_73 rfl ?_
      refine zg_get hC (k := 62) (v := .ref (ad 77)) ffX8_52 dX8_bakes_74 zq62 zk62 rfl ?_
      refine zg_sipush hC (v := 200) dX8_bakes_77 (by decide) ?_
      refine zg_iload_n hC 1 dX8_bakes_80 rfl ?_
      refine zg_imul hC dX8_bakes_81 ?_
      refine zg_iload hC 4 dX8_bakes_82 rfl ?_
      refine zg_iadd hC dX8_bakes_84 ?_
      refine zg_iald hC (k := 77) dX8_bakes_85 zq77 zk77 (fun h31 => ?_)
      refine zg_ishl hC dX8_bakes_86 ?_
      refine zg_ior hC dX8_bakes_87 ?_
      refine zg_nm (fun x32 ex32 => ?_)
      refine zg_istore_n hC (L' := [(3, _), (0, _), (1, _), (2, _), (4, _)]) dX8_bakes_88 (by decide) rfl ?_
      refine zg_goto hC (tgt := 125) dX8_bakes_89 (by decide) ?_
      exact zg_sub [1, 2, 3, 0, 4] rfl (gX8_bakes_B125 hC hE hN N ih v1 v2 x32 v4 M)
set_option maxRecDepth 20000 in
set_option maxHeartbeats 2000000 in
theorem gX8_bakes_B32 {l : Launch} {Z : zZ} {ad : Nat → Nat} {d : Nat} {X : zX} {cs : Nat × Nat} (hC : zC l Z zfull ad X RX8 cX8_bakes 5 (some .boolean) (d + 2)) (hE : zEnd Z zfull ad X false) (hN : zNoX X) (N : Nat) (v1 : Int32) (M : zMem) : zG l Z zfull ad X cs 32 [(0, .ref (ad 62)), (1, .int v1)] [] M (fX8_bakes_B32 N v1 M) := by
  unfold fX8_bakes_B32
  refine zg_aload_n hC 0 dX8_bakes_32 rfl ?_
  refine zg_get hC (k := 62) (v := .ref (ad 79)) ffX8_58 dX8_bakes_33 zq62 zk62 rfl ?_
  refine zg_iload_n hC 1 dX8_bakes_36 rfl ?_
  refine zg_dup2_11 hC dX8_bakes_37 rfl rfl ?_
  refine zg_iald hC (k := 79) dX8_bakes_38 zq79 zk79 (fun h8 => ?_)
  refine zg_iconst hC (v := 1) dX8_bakes_39 (by decide) ?_
  refine zg_iadd hC dX8_bakes_40 ?_
  refine zg_iast hC (k := 79) dX8_bakes_41 zq79 zk79 (fun h9 M10 eM10 => ?_)
  refine zg_iconst hC (v := 0) dX8_bakes_42 (by decide) ?_
  exact zg_retz hC hE (by decide) dX8_bakes_43
set_option maxRecDepth 20000 in
set_option maxHeartbeats 2000000 in
theorem gX8_bakes_B0 {l : Launch} {Z : zZ} {ad : Nat → Nat} {d : Nat} {X : zX} {cs : Nat × Nat} (hC : zC l Z zfull ad X RX8 cX8_bakes 5 (some .boolean) (d + 2)) (hE : zEnd Z zfull ad X false) (hN : zNoX X) (N : Nat) (p1 : Int32) (p2 : Int32) (M : zMem) : zG l Z zfull ad X cs 0 [(0, .ref (ad 62)), (1, .int p1), (2, .int p2)] [] M (fX8_bakes N p1 p2 M) := by
  unfold fX8_bakes
  refine zg_aload_n hC 0 dX8_bakes_0 rfl ?_
  refine zg_iload_n hC 2 dX8_bakes_1 rfl ?_
  refine zg_callVi hC hE hN (k := 62) (As := [.int p2]) (S := []) rfl (tX8_isHeldNow (zflag hC) d N p2 M) lkX8_125 rfl dX8_bakes_2 zq62 zk62 rfl rfl (Nat.le_of_ble_eq_true rfl) (fun r1 M2 er1 => ?_)
  refine zg_if_eq hC (tgt := 32) dX8_bakes_5 (by decide) (fun c3 => ?_) (fun c3 => ?_)
  · exact zg_sub [0, 1] rfl (gX8_bakes_B32 hC hE hN N p1 M2)
  · refine zg_aload_n hC 0 dX8_bakes_8 rfl ?_
    refine zg_get hC (k := 62) (v := .ref (ad 78)) ffX8_55 dX8_bakes_9 zq62 zk62 rfl ?_
    refine zg_iload_n hC 1 dX8_bakes_12 rfl ?_
    refine zg_iald hC (k := 78) dX8_bakes_13 zq78 zk78 (fun h4 => ?_)
    refine zg_aload_n hC 0 dX8_bakes_14 rfl ?_
    refine zg_get hC (k := 62) (v := .ref (ad 71)) ffX8_34 dX8_bakes_15 zq62 zk62 rfl ?_
    refine zg_iload_n hC 2 dX8_bakes_18 rfl ?_
    refine zg_iald hC (k := 71) dX8_bakes_19 zq71 zk71 (fun h5 => ?_)
    refine zg_icmp_lt hC (tgt := 32) dX8_bakes_20 (by decide) (fun c6 => ?_) (fun c6 => ?_)
    · exact zg_sub [0, 1] rfl (gX8_bakes_B32 hC hE hN N p1 M2)
    · refine zg_aload_n hC 0 dX8_bakes_23 rfl ?_
      refine zg_get hC (k := 62) (v := .int (M2.1 62 21)) ffX8_128 dX8_bakes_24 zq62 zk62 rfl ?_
      refine zg_bipush hC (v := 60) dX8_bakes_27 (by decide) ?_
      refine zg_icmp_ne hC (tgt := 44) dX8_bakes_29 (by decide) (fun c7 => ?_) (fun c7 => ?_)
      · exact zg_sub [0, 1] rfl (gX8_bakes_B32 hC hE hN N p1 M2)
      · refine zg_iconst hC (v := 0) dX8_bakes_44 (by decide) ?_
        refine zg_istore_n hC (L' := [(3, _), (0, _), (1, _), (2, _)]) dX8_bakes_45 (by decide) rfl ?_
        refine zg_iconst hC (v := 0) dX8_bakes_46 (by decide) ?_
        refine zg_istore hC (L' := [(4, _), (3, _), (0, _), (1, _), (2, _)]) dX8_bakes_47 (by decide) rfl ?_
        exact zg_sub [2, 3, 4, 1, 0] rfl (gX8_bakes_B49 hC hE hN N N p1 p2 0 0 M2)
theorem tX8_bakes {l : Launch} {Z : zZ} {ad : Nat → Nat} (hl : l.stackTraces = false) (d : Nat) (N : Nat) (p1 : Int32) (p2 : Int32) (M : zMem) : zT l Z zfull ad (.code yX8_bakes cX8_bakes 5 (some .boolean)) yX8_bakes (d + 2) false zbn [.ref (ad 62), .int p1, .int p2] M (fX8_bakes N p1 p2 M) :=
  zT_of hl (by decide +kernel) (Nat.le_of_ble_eq_true rfl) (fun X hC hE hN => gX8_bakes_B0 hC hE hN N p1 p2 M)

def fX8_pass_B102 (N : Nat) (again39 : Int32 → Int32 → Int32 → zMem → zRES) (again54 : Int32 → Int32 → Int32 → Int32 → zMem → zRES) (v1 : Int32) (v3 : Int32) (v4 : Int32) (s0 : Int32) (s1 : Int32) (M : zMem) : zRES :=
  zv (s0 + s1) fun x16 =>
  again54 v1 x16 v3 (v4 + 1) M
def fX8_pass_B101 (N : Nat) (again39 : Int32 → Int32 → Int32 → zMem → zRES) (again54 : Int32 → Int32 → Int32 → Int32 → zMem → zRES) (v1 : Int32) (v3 : Int32) (v4 : Int32) (s0 : Int32) (M : zMem) : zRES :=
  fX8_pass_B102 N again39 again54 v1 v3 v4 s0 0 M
def fX8_pass_B54 (N : Nat) (again39 : Int32 → Int32 → Int32 → zMem → zRES) : Nat → Int32 → Int32 → Int32 → Int32 → zMem → zRES
  | 0, _, _, _, _, _ => none
  | n + 1, v1, v2, v3, v4, M =>
  if (5 : Int32) ≤ v4 then
    zl (zsI M 62 14 ((M.1 62 14) + 1)) fun M9 =>
    again39 v1 v2 (v3 + 1) M9
  else
    if zin (((1051 : Int32) * v4) + (M.1 62 14)) 5255 = true then
    zv (M.1 75 (((1051 : Int32) * v4) + (M.1 62 14)).toNatClampNeg) fun x11 =>
    if x11 ≤ 0 then
      fX8_pass_B101 N again39 (fX8_pass_B54 N again39 n) v1 v3 v4 v2 M
    else
      zb (fX8_bakes N v4 (x11 - 1) M) fun r13 M14 =>
      if r13 = 0 then
        fX8_pass_B101 N again39 (fX8_pass_B54 N again39 n) v1 v3 v4 v2 M14
      else
        fX8_pass_B102 N again39 (fX8_pass_B54 N again39 n) v1 v3 v4 v2 1 M14
    else none
def fX8_pass_B39 (N : Nat) : Nat → Int32 → Int32 → Int32 → zMem → zRES
  | 0, _, _, _, _ => none
  | n + 1, v1, v2, v3, M =>
  if v1 ≤ v3 then
    some (.inl v2, M)
  else
    if (M.1 62 30) = 0 then
      fX8_pass_B54 N (fX8_pass_B39 N n) N v1 v2 v3 0 M
    else
      some (.inl v2, M)
def fX8_pass_B32 (N : Nat) (v1 : Int32) (s1 : Int32) (M : zMem) : zRES :=
  zl (zsI M 62 30 s1) fun M5 =>
  fX8_pass_B39 N N v1 0 0 M5
def fX8_pass (N : Nat) (p1 : Int32) (M : zMem) : zRES :=
  zb (fX8_in N p1 1 50 M) fun r1 M2 =>
  if r1 = 0 then
    fX8_pass_B32 N p1 1 M2
  else
    if ((M2.1 62 14) + p1) ≤ 1000 then
      fX8_pass_B32 N p1 0 M2
    else
      fX8_pass_B32 N p1 2 M2
set_option maxRecDepth 20000 in
set_option maxHeartbeats 2000000 in
theorem gX8_pass_B102 {l : Launch} {Z : zZ} {ad : Nat → Nat} {d : Nat} {X : zX} {cs : Nat × Nat} (hC : zC l Z zfull ad X RX8 cX8_pass 6 (some .int) (d + 3)) (hE : zEnd Z zfull ad X false) (hN : zNoX X) (N : Nat) {again39 : Int32 → Int32 → Int32 → zMem → zRES} (hag39 : ∀ v1 v2 v3 M, zG l Z zfull ad X cs 39 [(0, .ref (ad 62)), (1, .int v1), (2, .int v2), (3, .int v3)] [] M (again39 v1 v2 v3 M)) {again54 : Int32 → Int32 → Int32 → Int32 → zMem → zRES} (hag54 : ∀ v1 v2 v3 v4 M, zG l Z zfull ad X cs 54 [(0, .ref (ad 62)), (1, .int v1), (2, .int v2), (3, .int v3), (4, .int v4)] [] M (again54 v1 v2 v3 v4 M)) (v1 : Int32) (v3 : Int32) (v4 : Int32) (s0 : Int32) (s1 : Int32) (M : zMem) : zG l Z zfull ad X cs 102 [(0, .ref (ad 62)), (1, .int v1), (3, .int v3), (4, .int v4)] [.int s1, .int s0] M (fX8_pass_B102 N again39 again54 v1 v3 v4 s0 s1 M) := by
  unfold fX8_pass_B102
  refine zg_iadd hC dX8_pass_102 ?_
  refine zg_nm (fun x16 ex16 => ?_)
  refine zg_istore_n hC (L' := [(2, _), (0, _), (1, _), (3, _), (4, _)]) dX8_pass_103 (by decide) rfl ?_
  refine zg_iinc hC 4 (v := v4 + 1) (L' := [(4, _), (2, _), (0, _), (1, _), (3, _)]) dX8_pass_104 rfl (by rfl) (by decide) rfl ?_
  refine zg_goto hC (tgt := 54) dX8_pass_107 (by decide) ?_
  exact zg_sub [2, 3, 1, 4, 0] rfl (hag54 v1 x16 v3 (v4 + 1) M)
set_option maxRecDepth 20000 in
set_option maxHeartbeats 2000000 in
theorem gX8_pass_B101 {l : Launch} {Z : zZ} {ad : Nat → Nat} {d : Nat} {X : zX} {cs : Nat × Nat} (hC : zC l Z zfull ad X RX8 cX8_pass 6 (some .int) (d + 3)) (hE : zEnd Z zfull ad X false) (hN : zNoX X) (N : Nat) {again39 : Int32 → Int32 → Int32 → zMem → zRES} (hag39 : ∀ v1 v2 v3 M, zG l Z zfull ad X cs 39 [(0, .ref (ad 62)), (1, .int v1), (2, .int v2), (3, .int v3)] [] M (again39 v1 v2 v3 M)) {again54 : Int32 → Int32 → Int32 → Int32 → zMem → zRES} (hag54 : ∀ v1 v2 v3 v4 M, zG l Z zfull ad X cs 54 [(0, .ref (ad 62)), (1, .int v1), (2, .int v2), (3, .int v3), (4, .int v4)] [] M (again54 v1 v2 v3 v4 M)) (v1 : Int32) (v3 : Int32) (v4 : Int32) (s0 : Int32) (M : zMem) : zG l Z zfull ad X cs 101 [(0, .ref (ad 62)), (1, .int v1), (3, .int v3), (4, .int v4)] [.int s0] M (fX8_pass_B101 N again39 again54 v1 v3 v4 s0 M) := by
  unfold fX8_pass_B101
  refine zg_iconst hC (v := 0) dX8_pass_101 (by decide) ?_
  exact zg_sub [0, 1, 2, 3] rfl (gX8_pass_B102 hC hE hN N hag39 hag54 v1 v3 v4 s0 0 M)
set_option maxRecDepth 20000 in
set_option maxHeartbeats 2000000 in
theorem gX8_pass_B54 {l : Launch} {Z : zZ} {ad : Nat → Nat} {d : Nat} {X : zX} {cs : Nat × Nat} (hC : zC l Z zfull ad X RX8 cX8_pass 6 (some .int) (d + 3)) (hE : zEnd Z zfull ad X false) (hN : zNoX X) (N : Nat) {again39 : Int32 → Int32 → Int32 → zMem → zRES} (hag39 : ∀ v1 v2 v3 M, zG l Z zfull ad X cs 39 [(0, .ref (ad 62)), (1, .int v1), (2, .int v2), (3, .int v3)] [] M (again39 v1 v2 v3 M)) : ∀ (n : Nat) (v1 : Int32) (v2 : Int32) (v3 : Int32) (v4 : Int32) (M : zMem), zG l Z zfull ad X cs 54 [(0, .ref (ad 62)), (1, .int v1), (2, .int v2), (3, .int v3), (4, .int v4)] [] M (fX8_pass_B54 N again39 n v1 v2 v3 v4 M) := by
  intro n
  induction n with
  | zero =>
    intro v1 v2 v3 v4 M
    exact zg_none
  | succ n ih =>
  intro v1 v2 v3 v4 M
  rw [fX8_pass_B54]
  refine zg_iload hC 4 dX8_pass_54 rfl ?_
  refine zg_iconst hC (v := 5) dX8_pass_56 (by decide) ?_
  refine zg_icmp_ge hC (tgt := 110) dX8_pass_57 (by decide) (fun c8 => ?_) (fun c8 => ?_)
  · refine zg_aload_n hC 0 dX8_pass_110 rfl ?_
    refine zg_dup hC dX8_pass_111 rfl ?_
    refine zg_get hC (k := 62) (v := .int (M.1 62 14)) ffX8_156 dX8_pass_112 zq62 zk62 rfl ?_
    refine zg_iconst hC (v := 1) dX8_pass_115 (by decide) ?_
    refine zg_iadd hC dX8_pass_116 ?_
    refine zg_putI hC (k := 62) fpX8_156 dX8_pass_117 zq62 zk62 rfl (fun M9 eM9 => ?_)
    refine zg_iinc hC 3 (v := v3 + 1) (L' := [(3, _), (0, _), (1, _), (2, _), (4, _)]) dX8_pass_120 rfl (by rfl) (by decide) rfl ?_
    refine zg_goto hC (tgt := 39) dX8_pass_123 (by decide) ?_
    exact zg_sub [1, 2, 3, 0] rfl (hag39 v1 v2 (v3 + 1) M9)
  · refine zg_aload_n hC 0 dX8_pass_60 rfl ?_
    refine zg_get hC (k := 62) (v := .ref (ad 75)) ffX8_46 dX8_pass_61 zq62 zk62 rfl ?_
    refine zg_sipush hC (v := 1051) dX8_pass_64 (by decide) ?_
    refine zg_iload hC 4 dX8_pass_67 rfl ?_
    refine zg_imul hC dX8_pass_69 ?_
    refine zg_aload_n hC 0 dX8_pass_70 rfl ?_
    refine zg_get hC (k := 62) (v := .int (M.1 62 14)) ffX8_156 dX8_pass_71 zq62 zk62 rfl ?_
    refine zg_iadd hC dX8_pass_74 ?_
    refine zg_iald hC (k := 75) dX8_pass_75 zq75 zk75 (fun h10 => ?_)
    refine zg_nm (fun x11 ex11 => ?_)
    refine zg_istore hC (L' := [(5, _), (0, _), (1, _), (2, _), (3, _), (4, _)]) dX8_pass_76 (by decide) rfl ?_
    refine zg_iload_n hC 3 dX8_pass_78 rfl ?_
    refine zg_iload hC 0 dX8_pass_79 rfl ?_
    refine zg_if_le hC (tgt := 101) dX8_pass_81 (by decide) (fun c12 => ?_) (fun c12 => ?_)
    · exact zg_sub [1, 2, 4, 5] rfl (gX8_pass_B101 hC hE hN N hag39 ih v1 v3 v4 v2 M)
    · refine zg_aload_n hC 1 dX8_pass_84 rfl ?_
      refine zg_iload hC 5 dX8_pass_85 rfl ?_
      refine zg_iload hC 0 dX8_pass_87 rfl ?_
      refine zg_iconst hC (v := 1) dX8_pass_89 (by decide) ?_
      refine zg_isub hC dX8_pass_90 ?_
      refine zg_callVi hC hE hN (k := 62) (As := [.int v4, .int (x11 - 1)]) (S := [.int v2]) rfl (tX8_bakes (zflag hC) d N v4 (x11 - 1) M) lkX8_165 rfl dX8_pass_91 zq62 zk62 rfl rfl (Nat.le_of_ble_eq_true rfl) (fun r13 M14 er13 => ?_)
      refine zg_if_eq hC (tgt := 101) dX8_pass_94 (by decide) (fun c15 => ?_) (fun c15 => ?_)
      · exact zg_sub [1, 2, 4, 5] rfl (gX8_pass_B101 hC hE hN N hag39 ih v1 v3 v4 v2 M14)
      · refine zg_iconst hC (v := 1) dX8_pass_97 (by decide) ?_
        refine zg_goto hC (tgt := 102) dX8_pass_98 (by decide) ?_
        exact zg_sub [1, 2, 4, 5] rfl (gX8_pass_B102 hC hE hN N hag39 ih v1 v3 v4 v2 1 M14)
set_option maxRecDepth 20000 in
set_option maxHeartbeats 2000000 in
theorem gX8_pass_B39 {l : Launch} {Z : zZ} {ad : Nat → Nat} {d : Nat} {X : zX} {cs : Nat × Nat} (hC : zC l Z zfull ad X RX8 cX8_pass 6 (some .int) (d + 3)) (hE : zEnd Z zfull ad X false) (hN : zNoX X) (N : Nat) : ∀ (n : Nat) (v1 : Int32) (v2 : Int32) (v3 : Int32) (M : zMem), zG l Z zfull ad X cs 39 [(0, .ref (ad 62)), (1, .int v1), (2, .int v2), (3, .int v3)] [] M (fX8_pass_B39 N n v1 v2 v3 M) := by
  intro n
  induction n with
  | zero =>
    intro v1 v2 v3 M
    exact zg_none
  | succ n ih =>
  intro v1 v2 v3 M
  rw [fX8_pass_B39]
  refine zg_iload_n hC 3 dX8_pass_39 rfl ?_
  refine zg_iload_n hC 1 dX8_pass_40 rfl ?_
  refine zg_icmp_ge hC (tgt := 126) dX8_pass_41 (by decide) (fun c6 => ?_) (fun c6 => ?_)
  · refine zg_iload_n hC 2 dX8_pass_126 rfl ?_
    exact zg_ret hC hE dX8_pass_127
  · refine zg_aload_n hC 0 dX8_pass_44 rfl ?_
    refine zg_get hC (k := 62) (v := .int (M.1 62 30)) ffX8_82 dX8_pass_45 zq62 zk62 rfl ?_
    refine zg_if_ne hC (tgt := 126) dX8_pass_48 (by decide) (fun c7 => ?_) (fun c7 => ?_)
    · refine zg_iconst hC (v := 0) dX8_pass_51 (by decide) ?_
      refine zg_istore hC (L' := [(4, _), (0, _), (1, _), (2, _), (3, _)]) dX8_pass_52 (by decide) rfl ?_
      exact zg_sub [1, 2, 3, 4, 0] rfl (gX8_pass_B54 hC hE hN N ih N v1 v2 v3 0 M)
    · refine zg_iload_n hC 2 dX8_pass_126 rfl ?_
      exact zg_ret hC hE dX8_pass_127
set_option maxRecDepth 20000 in
set_option maxHeartbeats 2000000 in
theorem gX8_pass_B32 {l : Launch} {Z : zZ} {ad : Nat → Nat} {d : Nat} {X : zX} {cs : Nat × Nat} (hC : zC l Z zfull ad X RX8 cX8_pass 6 (some .int) (d + 3)) (hE : zEnd Z zfull ad X false) (hN : zNoX X) (N : Nat) (v1 : Int32) (s1 : Int32) (M : zMem) : zG l Z zfull ad X cs 32 [(0, .ref (ad 62)), (1, .int v1)] [.int s1, .ref (ad 62)] M (fX8_pass_B32 N v1 s1 M) := by
  unfold fX8_pass_B32
  refine zg_putI hC (k := 62) fpX8_82 dX8_pass_32 zq62 zk62 rfl (fun M5 eM5 => ?_)
  refine zg_iconst hC (v := 0) dX8_pass_35 (by decide) ?_
  refine zg_istore_n hC (L' := [(2, _), (0, _), (1, _)]) dX8_pass_36 (by decide) rfl ?_
  refine zg_iconst hC (v := 0) dX8_pass_37 (by decide) ?_
  refine zg_istore_n hC (L' := [(3, _), (2, _), (0, _), (1, _)]) dX8_pass_38 (by decide) rfl ?_
  exact zg_sub [2, 3, 1, 0] rfl (gX8_pass_B39 hC hE hN N N v1 0 0 M5)
set_option maxRecDepth 20000 in
set_option maxHeartbeats 2000000 in
theorem gX8_pass_B0 {l : Launch} {Z : zZ} {ad : Nat → Nat} {d : Nat} {X : zX} {cs : Nat × Nat} (hC : zC l Z zfull ad X RX8 cX8_pass 6 (some .int) (d + 3)) (hE : zEnd Z zfull ad X false) (hN : zNoX X) (N : Nat) (p1 : Int32) (M : zMem) : zG l Z zfull ad X cs 0 [(0, .ref (ad 62)), (1, .int p1)] [] M (fX8_pass N p1 M) := by
  unfold fX8_pass
  refine zg_aload_n hC 0 dX8_pass_0 rfl ?_
  refine zg_iload_n hC 1 dX8_pass_1 rfl ?_
  refine zg_iconst hC (v := 1) dX8_pass_2 (by decide) ?_
  refine zg_bipush hC (v := 50) dX8_pass_3 (by decide) ?_
  refine zg_callSi hC hE hN (As := [.int p1, .int 1, .int 50]) (S := [.ref (ad 62)]) rfl (tX8_in (zflag hC) (d + 2) N p1 1 50 M) lkX8_86 rfl dX8_pass_5 (Nat.le_of_ble_eq_true rfl) (fun r1 M2 er1 => ?_)
  refine zg_if_ne hC (tgt := 15) dX8_pass_8 (by decide) (fun c3 => ?_) (fun c3 => ?_)
  · refine zg_iconst hC (v := 1) dX8_pass_11 (by decide) ?_
    refine zg_goto hC (tgt := 32) dX8_pass_12 (by decide) ?_
    exact zg_sub [0, 1] rfl (gX8_pass_B32 hC hE hN N p1 1 M2)
  · refine zg_aload_n hC 0 dX8_pass_15 rfl ?_
    refine zg_get hC (k := 62) (v := .int (M2.1 62 14)) ffX8_156 dX8_pass_16 zq62 zk62 rfl ?_
    refine zg_iload_n hC 1 dX8_pass_19 rfl ?_
    refine zg_iadd hC dX8_pass_20 ?_
    refine zg_sipush hC (v := 1000) dX8_pass_21 (by decide) ?_
    refine zg_icmp_le hC (tgt := 31) dX8_pass_24 (by decide) (fun c4 => ?_) (fun c4 => ?_)
    · refine zg_iconst hC (v := 0) dX8_pass_31 (by decide) ?_
      exact zg_sub [0, 1] rfl (gX8_pass_B32 hC hE hN N p1 0 M2)
    · refine zg_iconst hC (v := 2) dX8_pass_27 (by decide) ?_
      refine zg_goto hC (tgt := 32) dX8_pass_28 (by decide) ?_
      exact zg_sub [0, 1] rfl (gX8_pass_B32 hC hE hN N p1 2 M2)
theorem tX8_pass {l : Launch} {Z : zZ} {ad : Nat → Nat} (hl : l.stackTraces = false) (d : Nat) (N : Nat) (p1 : Int32) (M : zMem) : zT l Z zfull ad (.code yX8_pass cX8_pass 6 (some .int)) yX8_pass (d + 3) false zbn [.ref (ad 62), .int p1] M (fX8_pass N p1 M) :=
  zT_of hl (by decide +kernel) (Nat.le_of_ble_eq_true rfl) (fun X hC hE hN => gX8_pass_B0 hC hE hN N p1 M)

def fX8_time (N : Nat) (M : zMem) : zRES :=
  zl (zsI M 62 30 0) fun M1 =>
  some (.inl (M1.1 62 14), M1)
set_option maxRecDepth 20000 in
set_option maxHeartbeats 2000000 in
theorem gX8_time_B0 {l : Launch} {Z : zZ} {ad : Nat → Nat} {d : Nat} {X : zX} {cs : Nat × Nat} (hC : zC l Z zfull ad X RX8 cX8_time 1 (some .int) (d + 0)) (hE : zEnd Z zfull ad X false) (hN : zNoX X) (N : Nat) (M : zMem) : zG l Z zfull ad X cs 0 [(0, .ref (ad 62))] [] M (fX8_time N M) := by
  unfold fX8_time
  refine zg_aload_n hC 0 dX8_time_0 rfl ?_
  refine zg_iconst hC (v := 0) dX8_time_1 (by decide) ?_
  refine zg_putI hC (k := 62) fpX8_82 dX8_time_2 zq62 zk62 rfl (fun M1 eM1 => ?_)
  refine zg_aload_n hC 0 dX8_time_5 rfl ?_
  refine zg_get hC (k := 62) (v := .int (M1.1 62 14)) ffX8_156 dX8_time_6 zq62 zk62 rfl ?_
  exact zg_ret hC hE dX8_time_9
theorem tX8_time {l : Launch} {Z : zZ} {ad : Nat → Nat} (hl : l.stackTraces = false) (d : Nat) (N : Nat) (M : zMem) : zT l Z zfull ad (.code yX8_time cX8_time 1 (some .int)) yX8_time (d + 0) false zbn [.ref (ad 62)] M (fX8_time N M) :=
  zT_of hl (by decide +kernel) (Nat.le_of_ble_eq_true rfl) (fun X hC hE hN => gX8_time_B0 hC hE hN N M)

def fX8_missed (N : Nat) (p1 : Int32) (M : zMem) : zRES :=
  zb (fX8_isTold N p1 M) fun r1 M2 =>
  if r1 = 0 then
    some (.inl 0, M2)
  else
    if zin p1 5 = true then
    some (.inl (M2.1 79 p1.toNatClampNeg), M2)
    else none
set_option maxRecDepth 20000 in
set_option maxHeartbeats 2000000 in
theorem gX8_missed_B0 {l : Launch} {Z : zZ} {ad : Nat → Nat} {d : Nat} {X : zX} {cs : Nat × Nat} (hC : zC l Z zfull ad X RX8 cX8_missed 2 (some .int) (d + 3)) (hE : zEnd Z zfull ad X false) (hN : zNoX X) (N : Nat) (p1 : Int32) (M : zMem) : zG l Z zfull ad X cs 0 [(0, .ref (ad 62)), (1, .int p1)] [] M (fX8_missed N p1 M) := by
  unfold fX8_missed
  refine zg_aload_n hC 0 dX8_missed_0 rfl ?_
  refine zg_iload_n hC 1 dX8_missed_1 rfl ?_
  refine zg_callVi hC hE hN (k := 62) (As := [.int p1]) (S := []) rfl (tX8_isTold (zflag hC) d N p1 M) lkX8_138 rfl dX8_missed_2 zq62 zk62 rfl rfl (Nat.le_of_ble_eq_true rfl) (fun r1 M2 er1 => ?_)
  refine zg_if_eq hC (tgt := 17) dX8_missed_5 (by decide) (fun c3 => ?_) (fun c3 => ?_)
  · refine zg_iconst hC (v := 0) dX8_missed_17 (by decide) ?_
    exact zg_ret hC hE dX8_missed_18
  · refine zg_aload_n hC 0 dX8_missed_8 rfl ?_
    refine zg_get hC (k := 62) (v := .ref (ad 79)) ffX8_58 dX8_missed_9 zq62 zk62 rfl ?_
    refine zg_iload_n hC 1 dX8_missed_12 rfl ?_
    refine zg_iald hC (k := 79) dX8_missed_13 zq79 zk79 (fun h4 => ?_)
    refine zg_goto hC (tgt := 18) dX8_missed_14 (by decide) ?_
    exact zg_ret hC hE dX8_missed_18
theorem tX8_missed {l : Launch} {Z : zZ} {ad : Nat → Nat} (hl : l.stackTraces = false) (d : Nat) (N : Nat) (p1 : Int32) (M : zMem) : zT l Z zfull ad (.code yX8_missed cX8_missed 2 (some .int)) yX8_missed (d + 3) false zbn [.ref (ad 62), .int p1] M (fX8_missed N p1 M) :=
  zT_of hl (by decide +kernel) (Nat.le_of_ble_eq_true rfl) (fun X hC hE hN => gX8_missed_B0 hC hE hN N p1 M)

def fX8_batches (N : Nat) (M : zMem) : zRES :=
  zl (zsI M 62 30 0) fun M1 =>
  some (.inl (M1.1 62 21), M1)
set_option maxRecDepth 20000 in
set_option maxHeartbeats 2000000 in
theorem gX8_batches_B0 {l : Launch} {Z : zZ} {ad : Nat → Nat} {d : Nat} {X : zX} {cs : Nat × Nat} (hC : zC l Z zfull ad X RX8 cX8_batches 1 (some .int) (d + 0)) (hE : zEnd Z zfull ad X false) (hN : zNoX X) (N : Nat) (M : zMem) : zG l Z zfull ad X cs 0 [(0, .ref (ad 62))] [] M (fX8_batches N M) := by
  unfold fX8_batches
  refine zg_aload_n hC 0 dX8_batches_0 rfl ?_
  refine zg_iconst hC (v := 0) dX8_batches_1 (by decide) ?_
  refine zg_putI hC (k := 62) fpX8_82 dX8_batches_2 zq62 zk62 rfl (fun M1 eM1 => ?_)
  refine zg_aload_n hC 0 dX8_batches_5 rfl ?_
  refine zg_get hC (k := 62) (v := .int (M1.1 62 21)) ffX8_128 dX8_batches_6 zq62 zk62 rfl ?_
  exact zg_ret hC hE dX8_batches_9
theorem tX8_batches {l : Launch} {Z : zZ} {ad : Nat → Nat} (hl : l.stackTraces = false) (d : Nat) (N : Nat) (M : zMem) : zT l Z zfull ad (.code yX8_batches cX8_batches 1 (some .int)) yX8_batches (d + 0) false zbn [.ref (ad 62)] M (fX8_batches N M) :=
  zT_of hl (by decide +kernel) (Nat.le_of_ble_eq_true rfl) (fun X hC hE hN => gX8_batches_B0 hC hE hN N M)

def fX8_isBatch_B20 (N : Nat) (s1 : Int32) (M : zMem) : zRES :=
  zl (zsI M 62 30 s1) fun M4 =>
  if (M4.1 62 30) = 0 then
    some (.inl 1, M4)
  else
    some (.inl 0, M4)
def fX8_isBatch (N : Nat) (p1 : Int32) (M : zMem) : zRES :=
  zb (fX8_in N p1 0 ((M.1 62 21) - 1) M) fun r1 M2 =>
  if r1 = 0 then
    fX8_isBatch_B20 N 1 M2
  else
    fX8_isBatch_B20 N 0 M2
set_option maxRecDepth 20000 in
set_option maxHeartbeats 2000000 in
theorem gX8_isBatch_B20 {l : Launch} {Z : zZ} {ad : Nat → Nat} {d : Nat} {X : zX} {cs : Nat × Nat} (hC : zC l Z zfull ad X RX8 cX8_isBatch 2 (some .boolean) (d + 1)) (hE : zEnd Z zfull ad X false) (hN : zNoX X) (N : Nat) (s1 : Int32) (M : zMem) : zG l Z zfull ad X cs 20 [(0, .ref (ad 62))] [.int s1, .ref (ad 62)] M (fX8_isBatch_B20 N s1 M) := by
  unfold fX8_isBatch_B20
  refine zg_putI hC (k := 62) fpX8_82 dX8_isBatch_20 zq62 zk62 rfl (fun M4 eM4 => ?_)
  refine zg_aload_n hC 0 dX8_isBatch_23 rfl ?_
  refine zg_get hC (k := 62) (v := .int (M4.1 62 30)) ffX8_82 dX8_isBatch_24 zq62 zk62 rfl ?_
  refine zg_if_ne hC (tgt := 34) dX8_isBatch_27 (by decide) (fun c5 => ?_) (fun c5 => ?_)
  · refine zg_iconst hC (v := 1) dX8_isBatch_30 (by decide) ?_
    refine zg_goto hC (tgt := 35) dX8_isBatch_31 (by decide) ?_
    exact zg_retz hC hE (by decide) dX8_isBatch_35
  · refine zg_iconst hC (v := 0) dX8_isBatch_34 (by decide) ?_
    exact zg_retz hC hE (by decide) dX8_isBatch_35
set_option maxRecDepth 20000 in
set_option maxHeartbeats 2000000 in
theorem gX8_isBatch_B0 {l : Launch} {Z : zZ} {ad : Nat → Nat} {d : Nat} {X : zX} {cs : Nat × Nat} (hC : zC l Z zfull ad X RX8 cX8_isBatch 2 (some .boolean) (d + 1)) (hE : zEnd Z zfull ad X false) (hN : zNoX X) (N : Nat) (p1 : Int32) (M : zMem) : zG l Z zfull ad X cs 0 [(0, .ref (ad 62)), (1, .int p1)] [] M (fX8_isBatch N p1 M) := by
  unfold fX8_isBatch
  refine zg_aload_n hC 0 dX8_isBatch_0 rfl ?_
  refine zg_iload_n hC 1 dX8_isBatch_1 rfl ?_
  refine zg_iconst hC (v := 0) dX8_isBatch_2 (by decide) ?_
  refine zg_aload_n hC 0 dX8_isBatch_3 rfl ?_
  refine zg_get hC (k := 62) (v := .int (M.1 62 21)) ffX8_128 dX8_isBatch_4 zq62 zk62 rfl ?_
  refine zg_iconst hC (v := 1) dX8_isBatch_7 (by decide) ?_
  refine zg_isub hC dX8_isBatch_8 ?_
  refine zg_callSi hC hE hN (As := [.int p1, .int 0, .int ((M.1 62 21) - 1)]) (S := [.ref (ad 62)]) rfl (tX8_in (zflag hC) d N p1 0 ((M.1 62 21) - 1) M) lkX8_86 rfl dX8_isBatch_9 (Nat.le_of_ble_eq_true rfl) (fun r1 M2 er1 => ?_)
  refine zg_if_eq hC (tgt := 19) dX8_isBatch_12 (by decide) (fun c3 => ?_) (fun c3 => ?_)
  · refine zg_iconst hC (v := 1) dX8_isBatch_19 (by decide) ?_
    exact zg_sub [0] rfl (gX8_isBatch_B20 hC hE hN N 1 M2)
  · refine zg_iconst hC (v := 0) dX8_isBatch_15 (by decide) ?_
    refine zg_goto hC (tgt := 20) dX8_isBatch_16 (by decide) ?_
    exact zg_sub [0] rfl (gX8_isBatch_B20 hC hE hN N 0 M2)
theorem tX8_isBatch {l : Launch} {Z : zZ} {ad : Nat → Nat} (hl : l.stackTraces = false) (d : Nat) (N : Nat) (p1 : Int32) (M : zMem) : zT l Z zfull ad (.code yX8_isBatch cX8_isBatch 2 (some .boolean)) yX8_isBatch (d + 1) false zbn [.ref (ad 62), .int p1] M (fX8_isBatch N p1 M) :=
  zT_of hl (by decide +kernel) (Nat.le_of_ble_eq_true rfl) (fun X hC hE hN => gX8_isBatch_B0 hC hE hN N p1 M)

def fX8_versionOf (N : Nat) (p1 : Int32) (M : zMem) : zRES :=
  zb (fX8_isBatch N p1 M) fun r1 M2 =>
  if r1 = 0 then
    some (.inl 0, M2)
  else
    if zin p1 60 = true then
    some (.inl (M2.1 80 p1.toNatClampNeg), M2)
    else none
set_option maxRecDepth 20000 in
set_option maxHeartbeats 2000000 in
theorem gX8_versionOf_B0 {l : Launch} {Z : zZ} {ad : Nat → Nat} {d : Nat} {X : zX} {cs : Nat × Nat} (hC : zC l Z zfull ad X RX8 cX8_versionOf 2 (some .int) (d + 2)) (hE : zEnd Z zfull ad X false) (hN : zNoX X) (N : Nat) (p1 : Int32) (M : zMem) : zG l Z zfull ad X cs 0 [(0, .ref (ad 62)), (1, .int p1)] [] M (fX8_versionOf N p1 M) := by
  unfold fX8_versionOf
  refine zg_aload_n hC 0 dX8_versionOf_0 rfl ?_
  refine zg_iload_n hC 1 dX8_versionOf_1 rfl ?_
  refine zg_callVi hC hE hN (k := 62) (As := [.int p1]) (S := []) rfl (tX8_isBatch (zflag hC) d N p1 M) lkX8_168 rfl dX8_versionOf_2 zq62 zk62 rfl rfl (Nat.le_of_ble_eq_true rfl) (fun r1 M2 er1 => ?_)
  refine zg_if_eq hC (tgt := 17) dX8_versionOf_5 (by decide) (fun c3 => ?_) (fun c3 => ?_)
  · refine zg_iconst hC (v := 0) dX8_versionOf_17 (by decide) ?_
    exact zg_ret hC hE dX8_versionOf_18
  · refine zg_aload_n hC 0 dX8_versionOf_8 rfl ?_
    refine zg_get hC (k := 62) (v := .ref (ad 80)) ffX8_61 dX8_versionOf_9 zq62 zk62 rfl ?_
    refine zg_iload_n hC 1 dX8_versionOf_12 rfl ?_
    refine zg_iald hC (k := 80) dX8_versionOf_13 zq80 zk80 (fun h4 => ?_)
    refine zg_goto hC (tgt := 18) dX8_versionOf_14 (by decide) ?_
    exact zg_ret hC hE dX8_versionOf_18
theorem tX8_versionOf {l : Launch} {Z : zZ} {ad : Nat → Nat} (hl : l.stackTraces = false) (d : Nat) (N : Nat) (p1 : Int32) (M : zMem) : zT l Z zfull ad (.code yX8_versionOf cX8_versionOf 2 (some .int)) yX8_versionOf (d + 2) false zbn [.ref (ad 62), .int p1] M (fX8_versionOf N p1 M) :=
  zT_of hl (by decide +kernel) (Nat.le_of_ble_eq_true rfl) (fun X hC hE hN => gX8_versionOf_B0 hC hE hN N p1 M)

def fX8_lotsOf (N : Nat) (p1 : Int32) (M : zMem) : zRES :=
  zb (fX8_isBatch N p1 M) fun r1 M2 =>
  if r1 = 0 then
    some (.inl 0, M2)
  else
    if zin p1 60 = true then
    some (.inl (M2.1 81 p1.toNatClampNeg), M2)
    else none
set_option maxRecDepth 20000 in
set_option maxHeartbeats 2000000 in
theorem gX8_lotsOf_B0 {l : Launch} {Z : zZ} {ad : Nat → Nat} {d : Nat} {X : zX} {cs : Nat × Nat} (hC : zC l Z zfull ad X RX8 cX8_lotsOf 2 (some .int) (d + 2)) (hE : zEnd Z zfull ad X false) (hN : zNoX X) (N : Nat) (p1 : Int32) (M : zMem) : zG l Z zfull ad X cs 0 [(0, .ref (ad 62)), (1, .int p1)] [] M (fX8_lotsOf N p1 M) := by
  unfold fX8_lotsOf
  refine zg_aload_n hC 0 dX8_lotsOf_0 rfl ?_
  refine zg_iload_n hC 1 dX8_lotsOf_1 rfl ?_
  refine zg_callVi hC hE hN (k := 62) (As := [.int p1]) (S := []) rfl (tX8_isBatch (zflag hC) d N p1 M) lkX8_168 rfl dX8_lotsOf_2 zq62 zk62 rfl rfl (Nat.le_of_ble_eq_true rfl) (fun r1 M2 er1 => ?_)
  refine zg_if_eq hC (tgt := 17) dX8_lotsOf_5 (by decide) (fun c3 => ?_) (fun c3 => ?_)
  · refine zg_iconst hC (v := 0) dX8_lotsOf_17 (by decide) ?_
    exact zg_ret hC hE dX8_lotsOf_18
  · refine zg_aload_n hC 0 dX8_lotsOf_8 rfl ?_
    refine zg_get hC (k := 62) (v := .ref (ad 81)) ffX8_64 dX8_lotsOf_9 zq62 zk62 rfl ?_
    refine zg_iload_n hC 1 dX8_lotsOf_12 rfl ?_
    refine zg_iald hC (k := 81) dX8_lotsOf_13 zq81 zk81 (fun h4 => ?_)
    refine zg_goto hC (tgt := 18) dX8_lotsOf_14 (by decide) ?_
    exact zg_ret hC hE dX8_lotsOf_18
theorem tX8_lotsOf {l : Launch} {Z : zZ} {ad : Nat → Nat} (hl : l.stackTraces = false) (d : Nat) (N : Nat) (p1 : Int32) (M : zMem) : zT l Z zfull ad (.code yX8_lotsOf cX8_lotsOf 2 (some .int)) yX8_lotsOf (d + 2) false zbn [.ref (ad 62), .int p1] M (fX8_lotsOf N p1 M) :=
  zT_of hl (by decide +kernel) (Nat.le_of_ble_eq_true rfl) (fun X hC hE hN => gX8_lotsOf_B0 hC hE hN N p1 M)

def fX8_left (N : Nat) (p1 : Int32) (M : zMem) : zRES :=
  zb (fX8_isBatch N p1 M) fun r1 M2 =>
  if r1 = 0 then
    some (.inl 0, M2)
  else
    if zin p1 60 = true then
    some (.inl (M2.1 82 p1.toNatClampNeg), M2)
    else none
set_option maxRecDepth 20000 in
set_option maxHeartbeats 2000000 in
theorem gX8_left_B0 {l : Launch} {Z : zZ} {ad : Nat → Nat} {d : Nat} {X : zX} {cs : Nat × Nat} (hC : zC l Z zfull ad X RX8 cX8_left 2 (some .int) (d + 2)) (hE : zEnd Z zfull ad X false) (hN : zNoX X) (N : Nat) (p1 : Int32) (M : zMem) : zG l Z zfull ad X cs 0 [(0, .ref (ad 62)), (1, .int p1)] [] M (fX8_left N p1 M) := by
  unfold fX8_left
  refine zg_aload_n hC 0 dX8_left_0 rfl ?_
  refine zg_iload_n hC 1 dX8_left_1 rfl ?_
  refine zg_callVi hC hE hN (k := 62) (As := [.int p1]) (S := []) rfl (tX8_isBatch (zflag hC) d N p1 M) lkX8_168 rfl dX8_left_2 zq62 zk62 rfl rfl (Nat.le_of_ble_eq_true rfl) (fun r1 M2 er1 => ?_)
  refine zg_if_eq hC (tgt := 17) dX8_left_5 (by decide) (fun c3 => ?_) (fun c3 => ?_)
  · refine zg_iconst hC (v := 0) dX8_left_17 (by decide) ?_
    exact zg_ret hC hE dX8_left_18
  · refine zg_aload_n hC 0 dX8_left_8 rfl ?_
    refine zg_get hC (k := 62) (v := .ref (ad 82)) ffX8_67 dX8_left_9 zq62 zk62 rfl ?_
    refine zg_iload_n hC 1 dX8_left_12 rfl ?_
    refine zg_iald hC (k := 82) dX8_left_13 zq82 zk82 (fun h4 => ?_)
    refine zg_goto hC (tgt := 18) dX8_left_14 (by decide) ?_
    exact zg_ret hC hE dX8_left_18
theorem tX8_left {l : Launch} {Z : zZ} {ad : Nat → Nat} (hl : l.stackTraces = false) (d : Nat) (N : Nat) (p1 : Int32) (M : zMem) : zT l Z zfull ad (.code yX8_left cX8_left 2 (some .int)) yX8_left (d + 2) false zbn [.ref (ad 62), .int p1] M (fX8_left N p1 M) :=
  zT_of hl (by decide +kernel) (Nat.le_of_ble_eq_true rfl) (fun X hC hE hN => gX8_left_B0 hC hE hN N p1 M)

def fX8_barredBy_B73 (N : Nat) (s0 : Int32) (s1 : Int32) (M : zMem) : zRES :=
  some (.inl (s0 + s1), M)
def fX8_barredBy_B63 (N : Nat) (v2 : Int32) (s0 : Int32) (M : zMem) : zRES :=
  if v2 = 1 then
    fX8_barredBy_B73 N s0 2 M
  else
    fX8_barredBy_B73 N s0 0 M
def fX8_barredBy_B37 (N : Nat) (again4 : Int32 → Int32 → Int32 → zMem → zRES) (v1 : Int32) (v3 : Int32) (s0 : Int32) (s1 : Int32) (M : zMem) : zRES :=
  zv (s0 ||| s1) fun x9 =>
  again4 v1 x9 (v3 + 1) M
def fX8_barredBy_B4 (N : Nat) : Nat → Int32 → Int32 → Int32 → zMem → zRES
  | 0, _, _, _, _ => none
  | n + 1, v1, v2, v3, M =>
  if (M.1 62 16) ≤ v3 then
    if zin v1 60 = true then
    zb (fX8_isHeldNow N (M.1 80 v1.toNatClampNeg) M) fun r3 M4 =>
    if r3 = 0 then
      fX8_barredBy_B63 N v2 1 M4
    else
      fX8_barredBy_B63 N v2 0 M4
    else none
  else
    if zin v3 16 = true then
    if (M.1 76 v3.toNatClampNeg) = 1 then
      if zin v1 60 = true then
      fX8_barredBy_B37 N (fX8_barredBy_B4 N n) v1 v3 v2 (((M.1 81 v1.toNatClampNeg) >>> (v3 &&& 31)) &&& 1) M
      else none
    else
      fX8_barredBy_B37 N (fX8_barredBy_B4 N n) v1 v3 v2 0 M
    else none
def fX8_barredBy (N : Nat) (p1 : Int32) (M : zMem) : zRES :=
  fX8_barredBy_B4 N N p1 0 0 M
set_option maxRecDepth 20000 in
set_option maxHeartbeats 2000000 in
theorem gX8_barredBy_B73 {l : Launch} {Z : zZ} {ad : Nat → Nat} {d : Nat} {X : zX} {cs : Nat × Nat} (hC : zC l Z zfull ad X RX8 cX8_barredBy 4 (some .int) (d + 2)) (hE : zEnd Z zfull ad X false) (hN : zNoX X) (N : Nat) (s0 : Int32) (s1 : Int32) (M : zMem) : zG l Z zfull ad X cs 73 [] [.int s1, .int s0] M (fX8_barredBy_B73 N s0 s1 M) := by
  unfold fX8_barredBy_B73
  refine zg_iadd hC dX8_barredBy_73 ?_
  exact zg_ret hC hE dX8_barredBy_74
set_option maxRecDepth 20000 in
set_option maxHeartbeats 2000000 in
theorem gX8_barredBy_B63 {l : Launch} {Z : zZ} {ad : Nat → Nat} {d : Nat} {X : zX} {cs : Nat × Nat} (hC : zC l Z zfull ad X RX8 cX8_barredBy 4 (some .int) (d + 2)) (hE : zEnd Z zfull ad X false) (hN : zNoX X) (N : Nat) (v2 : Int32) (s0 : Int32) (M : zMem) : zG l Z zfull ad X cs 63 [(2, .int v2)] [.int s0] M (fX8_barredBy_B63 N v2 s0 M) := by
  unfold fX8_barredBy_B63
  refine zg_iload_n hC 0 dX8_barredBy_63 rfl ?_
  refine zg_iconst hC (v := 1) dX8_barredBy_64 (by decide) ?_
  refine zg_icmp_ne hC (tgt := 72) dX8_barredBy_65 (by decide) (fun c10 => ?_) (fun c10 => ?_)
  · refine zg_iconst hC (v := 2) dX8_barredBy_68 (by decide) ?_
    refine zg_goto hC (tgt := 73) dX8_barredBy_69 (by decide) ?_
    exact zg_sub [] rfl (gX8_barredBy_B73 hC hE hN N s0 2 M)
  · refine zg_iconst hC (v := 0) dX8_barredBy_72 (by decide) ?_
    exact zg_sub [] rfl (gX8_barredBy_B73 hC hE hN N s0 0 M)
set_option maxRecDepth 20000 in
set_option maxHeartbeats 2000000 in
theorem gX8_barredBy_B37 {l : Launch} {Z : zZ} {ad : Nat → Nat} {d : Nat} {X : zX} {cs : Nat × Nat} (hC : zC l Z zfull ad X RX8 cX8_barredBy 4 (some .int) (d + 2)) (hE : zEnd Z zfull ad X false) (hN : zNoX X) (N : Nat) {again4 : Int32 → Int32 → Int32 → zMem → zRES} (hag4 : ∀ v1 v2 v3 M, zG l Z zfull ad X cs 4 [(0, .ref (ad 62)), (1, .int v1), (2, .int v2), (3, .int v3)] [] M (again4 v1 v2 v3 M)) (v1 : Int32) (v3 : Int32) (s0 : Int32) (s1 : Int32) (M : zMem) : zG l Z zfull ad X cs 37 [(0, .ref (ad 62)), (1, .int v1), (3, .int v3)] [.int s1, .int s0] M (fX8_barredBy_B37 N again4 v1 v3 s0 s1 M) := by
  unfold fX8_barredBy_B37
  refine zg_ior hC dX8_barredBy_37 ?_
  refine zg_nm (fun x9 ex9 => ?_)
  refine zg_istore_n hC (L' := [(2, _), (0, _), (1, _), (3, _)]) dX8_barredBy_38 (by decide) rfl ?_
  refine zg_iinc hC 3 (v := v3 + 1) (L' := [(3, _), (2, _), (0, _), (1, _)]) dX8_barredBy_39 rfl (by rfl) (by decide) rfl ?_
  refine zg_goto hC (tgt := 4) dX8_barredBy_42 (by decide) ?_
  exact zg_sub [2, 3, 1, 0] rfl (hag4 v1 x9 (v3 + 1) M)
set_option maxRecDepth 20000 in
set_option maxHeartbeats 2000000 in
theorem gX8_barredBy_B4 {l : Launch} {Z : zZ} {ad : Nat → Nat} {d : Nat} {X : zX} {cs : Nat × Nat} (hC : zC l Z zfull ad X RX8 cX8_barredBy 4 (some .int) (d + 2)) (hE : zEnd Z zfull ad X false) (hN : zNoX X) (N : Nat) : ∀ (n : Nat) (v1 : Int32) (v2 : Int32) (v3 : Int32) (M : zMem), zG l Z zfull ad X cs 4 [(0, .ref (ad 62)), (1, .int v1), (2, .int v2), (3, .int v3)] [] M (fX8_barredBy_B4 N n v1 v2 v3 M) := by
  intro n
  induction n with
  | zero =>
    intro v1 v2 v3 M
    exact zg_none
  | succ n ih =>
  intro v1 v2 v3 M
  rw [fX8_barredBy_B4]
  refine zg_iload_n hC 3 dX8_barredBy_4 rfl ?_
  refine zg_aload_n hC 0 dX8_barredBy_5 rfl ?_
  refine zg_get hC (k := 62) (v := .int (M.1 62 16)) ffX8_147 dX8_barredBy_6 zq62 zk62 rfl ?_
  refine zg_icmp_ge hC (tgt := 45) dX8_barredBy_9 (by decide) (fun c1 => ?_) (fun c1 => ?_)
  · refine zg_aload_n hC 0 dX8_barredBy_45 rfl ?_
    refine zg_aload_n hC 0 dX8_barredBy_46 rfl ?_
    refine zg_get hC (k := 62) (v := .ref (ad 80)) ffX8_61 dX8_barredBy_47 zq62 zk62 rfl ?_
    refine zg_iload_n hC 1 dX8_barredBy_50 rfl ?_
    refine zg_iald hC (k := 80) dX8_barredBy_51 zq80 zk80 (fun h2 => ?_)
    refine zg_callVi hC hE hN (k := 62) (As := [.int (M.1 80 v1.toNatClampNeg)]) (S := []) rfl (tX8_isHeldNow (zflag hC) d N (M.1 80 v1.toNatClampNeg) M) lkX8_125 rfl dX8_barredBy_52 zq62 zk62 rfl rfl (Nat.le_of_ble_eq_true rfl) (fun r3 M4 er3 => ?_)
    refine zg_if_eq hC (tgt := 62) dX8_barredBy_55 (by decide) (fun c5 => ?_) (fun c5 => ?_)
    · refine zg_iconst hC (v := 1) dX8_barredBy_62 (by decide) ?_
      exact zg_sub [2] rfl (gX8_barredBy_B63 hC hE hN N v2 1 M4)
    · refine zg_iconst hC (v := 0) dX8_barredBy_58 (by decide) ?_
      refine zg_goto hC (tgt := 63) dX8_barredBy_59 (by decide) ?_
      exact zg_sub [2] rfl (gX8_barredBy_B63 hC hE hN N v2 0 M4)
  · refine zg_iload_n hC 2 dX8_barredBy_12 rfl ?_
    refine zg_aload_n hC 0 dX8_barredBy_13 rfl ?_
    refine zg_get hC (k := 62) (v := .ref (ad 76)) ffX8_49 dX8_barredBy_14 zq62 zk62 rfl ?_
    refine zg_iload_n hC 3 dX8_barredBy_17 rfl ?_
    refine zg_iald hC (k := 76) dX8_barredBy_18 zq76 zk76 (fun h6 => ?_)
    refine zg_iconst hC (v := 1) dX8_barredBy_19 (by decide) ?_
    refine zg_icmp_ne hC (tgt := 36) dX8_barredBy_20 (by decide) (fun c7 => ?_) (fun c7 => ?_)
    · refine zg_aload_n hC 0 dX8_barredBy_23 rfl ?_
      refine zg_get hC (k := 62) (v := .ref (ad 81)) ffX8_64 dX8_barredBy_24 zq62 zk62 rfl ?_
      refine zg_iload_n hC 1 dX8_barredBy_27 rfl ?_
      refine zg_iald hC (k := 81) dX8_barredBy_28 zq81 zk81 (fun h8 => ?_)
      refine zg_iload_n hC 3 dX8_barredBy_29 rfl ?_
      refine zg_ishr hC dX8_barredBy_30 ?_
      refine zg_iconst hC (v := 1) dX8_barredBy_31 (by decide) ?_
      refine zg_iand hC dX8_barredBy_32 ?_
      refine zg_goto hC (tgt := 37) dX8_barredBy_33 (by decide) ?_
      exact zg_sub [0, 1, 3] rfl (gX8_barredBy_B37 hC hE hN N ih v1 v3 v2 (((M.1 81 v1.toNatClampNeg) >>> (v3 &&& 31)) &&& 1) M)
    · refine zg_iconst hC (v := 0) dX8_barredBy_36 (by decide) ?_
      exact zg_sub [0, 1, 3] rfl (gX8_barredBy_B37 hC hE hN N ih v1 v3 v2 0 M)
set_option maxRecDepth 20000 in
set_option maxHeartbeats 2000000 in
theorem gX8_barredBy_B0 {l : Launch} {Z : zZ} {ad : Nat → Nat} {d : Nat} {X : zX} {cs : Nat × Nat} (hC : zC l Z zfull ad X RX8 cX8_barredBy 4 (some .int) (d + 2)) (hE : zEnd Z zfull ad X false) (hN : zNoX X) (N : Nat) (p1 : Int32) (M : zMem) : zG l Z zfull ad X cs 0 [(0, .ref (ad 62)), (1, .int p1)] [] M (fX8_barredBy N p1 M) := by
  unfold fX8_barredBy
  refine zg_iconst hC (v := 0) dX8_barredBy_0 (by decide) ?_
  refine zg_istore_n hC (L' := [(2, _), (0, _), (1, _)]) dX8_barredBy_1 (by decide) rfl ?_
  refine zg_iconst hC (v := 0) dX8_barredBy_2 (by decide) ?_
  refine zg_istore_n hC (L' := [(3, _), (2, _), (0, _), (1, _)]) dX8_barredBy_3 (by decide) rfl ?_
  exact zg_sub [2, 3, 1, 0] rfl (gX8_barredBy_B4 hC hE hN N N p1 0 0 M)
theorem tX8_barredBy {l : Launch} {Z : zZ} {ad : Nat → Nat} (hl : l.stackTraces = false) (d : Nat) (N : Nat) (p1 : Int32) (M : zMem) : zT l Z zfull ad (.code yX8_barredBy cX8_barredBy 4 (some .int)) yX8_barredBy (d + 2) false zbn [.ref (ad 62), .int p1] M (fX8_barredBy N p1 M) :=
  zT_of hl (by decide +kernel) (Nat.le_of_ble_eq_true rfl) (fun X hC hE hN => gX8_barredBy_B0 hC hE hN N p1 M)

def fX8_barred (N : Nat) (p1 : Int32) (M : zMem) : zRES :=
  zb (fX8_isBatch N p1 M) fun r1 M2 =>
  if r1 = 0 then
    some (.inl 0, M2)
  else
    zb (fX8_barredBy N p1 M2) fun r4 M5 =>
    some (.inl r4, M5)
set_option maxRecDepth 20000 in
set_option maxHeartbeats 2000000 in
theorem gX8_barred_B0 {l : Launch} {Z : zZ} {ad : Nat → Nat} {d : Nat} {X : zX} {cs : Nat × Nat} (hC : zC l Z zfull ad X RX8 cX8_barred 2 (some .int) (d + 3)) (hE : zEnd Z zfull ad X false) (hN : zNoX X) (N : Nat) (p1 : Int32) (M : zMem) : zG l Z zfull ad X cs 0 [(0, .ref (ad 62)), (1, .int p1)] [] M (fX8_barred N p1 M) := by
  unfold fX8_barred
  refine zg_aload_n hC 0 dX8_barred_0 rfl ?_
  refine zg_iload_n hC 1 dX8_barred_1 rfl ?_
  refine zg_callVi hC hE hN (k := 62) (As := [.int p1]) (S := []) rfl (tX8_isBatch (zflag hC) (d + 1) N p1 M) lkX8_168 rfl dX8_barred_2 zq62 zk62 rfl rfl (Nat.le_of_ble_eq_true rfl) (fun r1 M2 er1 => ?_)
  refine zg_if_eq hC (tgt := 16) dX8_barred_5 (by decide) (fun c3 => ?_) (fun c3 => ?_)
  · refine zg_iconst hC (v := 0) dX8_barred_16 (by decide) ?_
    exact zg_ret hC hE dX8_barred_17
  · refine zg_aload_n hC 0 dX8_barred_8 rfl ?_
    refine zg_iload_n hC 1 dX8_barred_9 rfl ?_
    refine zg_callVi hC hE hN (k := 62) (As := [.int p1]) (S := []) rfl (tX8_barredBy (zflag hC) d N p1 M2) lkX8_171 rfl dX8_barred_10 zq62 zk62 rfl rfl (Nat.le_of_ble_eq_true rfl) (fun r4 M5 er4 => ?_)
    refine zg_goto hC (tgt := 17) dX8_barred_13 (by decide) ?_
    exact zg_ret hC hE dX8_barred_17
theorem tX8_barred {l : Launch} {Z : zZ} {ad : Nat → Nat} (hl : l.stackTraces = false) (d : Nat) (N : Nat) (p1 : Int32) (M : zMem) : zT l Z zfull ad (.code yX8_barred cX8_barred 2 (some .int)) yX8_barred (d + 3) false zbn [.ref (ad 62), .int p1] M (fX8_barred N p1 M) :=
  zT_of hl (by decide +kernel) (Nat.le_of_ble_eq_true rfl) (fun X hC hE hN => gX8_barred_B0 hC hE hN N p1 M)

def fX8_barredAnew (N : Nat) (p1 : Int32) (M : zMem) : zRES :=
  zb (fX8_barred N p1 M) fun r1 M2 =>
  some (.inl r1, M2)
set_option maxRecDepth 20000 in
set_option maxHeartbeats 2000000 in
theorem gX8_barredAnew_B0 {l : Launch} {Z : zZ} {ad : Nat → Nat} {d : Nat} {X : zX} {cs : Nat × Nat} (hC : zC l Z zfull ad X RX8 cX8_barredAnew 2 (some .int) (d + 4)) (hE : zEnd Z zfull ad X false) (hN : zNoX X) (N : Nat) (p1 : Int32) (M : zMem) : zG l Z zfull ad X cs 0 [(0, .ref (ad 62)), (1, .int p1)] [] M (fX8_barredAnew N p1 M) := by
  unfold fX8_barredAnew
  refine zg_aload_n hC 0 dX8_barredAnew_0 rfl ?_
  refine zg_iload_n hC 1 dX8_barredAnew_1 rfl ?_
  refine zg_callVi hC hE hN (k := 62) (As := [.int p1]) (S := []) rfl (tX8_barred (zflag hC) d N p1 M) lkX8_174 rfl dX8_barredAnew_2 zq62 zk62 rfl rfl (Nat.le_of_ble_eq_true rfl) (fun r1 M2 er1 => ?_)
  exact zg_ret hC hE dX8_barredAnew_5
theorem tX8_barredAnew {l : Launch} {Z : zZ} {ad : Nat → Nat} (hl : l.stackTraces = false) (d : Nat) (N : Nat) (p1 : Int32) (M : zMem) : zT l Z zfull ad (.code yX8_barredAnew cX8_barredAnew 2 (some .int)) yX8_barredAnew (d + 4) false zbn [.ref (ad 62), .int p1] M (fX8_barredAnew N p1 M) :=
  zT_of hl (by decide +kernel) (Nat.le_of_ble_eq_true rfl) (fun X hC hE hN => gX8_barredAnew_B0 hC hE hN N p1 M)

def fX8_sell_B56 (N : Nat) (v1 : Int32) (v2 : Int32) (s1 : Int32) (M : zMem) : zRES :=
  zl (zsI M 62 30 s1) fun M12 =>
  if (M12.1 62 30) ≤ 0 then
    if zin v1 60 = true then
    if zin v1 60 = true then
    zl (zsI M12 82 v1.toNatClampNeg ((M12.1 82 v1.toNatClampNeg) - v2)) fun M16 =>
    if zin v1 60 = true then
    if zin v1 60 = true then
    zl (zsI M16 83 v1.toNatClampNeg ((M16.1 83 v1.toNatClampNeg) + v2)) fun M19 =>
    if zin v1 60 = true then
    some (.inl (M19.1 82 v1.toNatClampNeg), M19)
    else none
    else none
    else none
    else none
    else none
  else
    some (.inl 0, M12)
def fX8_sell_B51 (N : Nat) (v1 : Int32) (v2 : Int32) (M : zMem) : zRES :=
  fX8_sell_B56 N v1 v2 3 M
def fX8_sell (N : Nat) (p1 : Int32) (p2 : Int32) (M : zMem) : zRES :=
  zb (fX8_in N p1 0 ((M.1 62 21) - 1) M) fun r1 M2 =>
  if r1 = 0 then
    fX8_sell_B56 N p1 p2 1 M2
  else
    zb (fX8_in N p2 1 40 M2) fun r4 M5 =>
    if r4 = 0 then
      fX8_sell_B56 N p1 p2 2 M5
    else
      zb (fX8_barredBy N p1 M5) fun r7 M8 =>
      if (0 : Int32) < r7 then
        fX8_sell_B51 N p1 p2 M8
      else
        if zin p1 60 = true then
        if p2 ≤ (M8.1 82 p1.toNatClampNeg) then
          fX8_sell_B56 N p1 p2 0 M8
        else
          fX8_sell_B51 N p1 p2 M8
        else none
set_option maxRecDepth 20000 in
set_option maxHeartbeats 2000000 in
theorem gX8_sell_B56 {l : Launch} {Z : zZ} {ad : Nat → Nat} {d : Nat} {X : zX} {cs : Nat × Nat} (hC : zC l Z zfull ad X RX8 cX8_sell 3 (some .int) (d + 3)) (hE : zEnd Z zfull ad X false) (hN : zNoX X) (N : Nat) (v1 : Int32) (v2 : Int32) (s1 : Int32) (M : zMem) : zG l Z zfull ad X cs 56 [(0, .ref (ad 62)), (1, .int v1), (2, .int v2)] [.int s1, .ref (ad 62)] M (fX8_sell_B56 N v1 v2 s1 M) := by
  unfold fX8_sell_B56
  refine zg_putI hC (k := 62) fpX8_82 dX8_sell_56 zq62 zk62 rfl (fun M12 eM12 => ?_)
  refine zg_aload_n hC 0 dX8_sell_59 rfl ?_
  refine zg_get hC (k := 62) (v := .int (M12.1 62 30)) ffX8_82 dX8_sell_60 zq62 zk62 rfl ?_
  refine zg_if_le hC (tgt := 68) dX8_sell_63 (by decide) (fun c13 => ?_) (fun c13 => ?_)
  · refine zg_aload_n hC 0 dX8_sell_68 rfl ?_
    refine zg_get hC (k := 62) (v := .ref (ad 82)) ffX8_67 dX8_sell_69 zq62 zk62 rfl ?_
    refine zg_iload_n hC 1 dX8_sell_72 rfl ?_
    refine zg_dup2_11 hC dX8_sell_73 rfl rfl ?_
    refine zg_iald hC (k := 82) dX8_sell_74 zq82 zk82 (fun h14 => ?_)
    refine zg_iload_n hC 2 dX8_sell_75 rfl ?_
    refine zg_isub hC dX8_sell_76 ?_
    refine zg_iast hC (k := 82) dX8_sell_77 zq82 zk82 (fun h15 M16 eM16 => ?_)
    refine zg_aload_n hC 0 dX8_sell_78 rfl ?_
    refine zg_get hC (k := 62) (v := .ref (ad 83)) ffX8_70 dX8_sell_79 zq62 zk62 rfl ?_
    refine zg_iload_n hC 1 dX8_sell_82 rfl ?_
    refine zg_dup2_11 hC dX8_sell_83 rfl rfl ?_
    refine zg_iald hC (k := 83) dX8_sell_84 zq83 zk83 (fun h17 => ?_)
    refine zg_iload_n hC 2 dX8_sell_85 rfl ?_
    refine zg_iadd hC dX8_sell_86 ?_
    refine zg_iast hC (k := 83) dX8_sell_87 zq83 zk83 (fun h18 M19 eM19 => ?_)
    refine zg_aload_n hC 0 dX8_sell_88 rfl ?_
    refine zg_get hC (k := 62) (v := .ref (ad 82)) ffX8_67 dX8_sell_89 zq62 zk62 rfl ?_
    refine zg_iload_n hC 1 dX8_sell_92 rfl ?_
    refine zg_iald hC (k := 82) dX8_sell_93 zq82 zk82 (fun h20 => ?_)
    exact zg_ret hC hE dX8_sell_94
  · refine zg_iconst hC (v := 0) dX8_sell_66 (by decide) ?_
    exact zg_ret hC hE dX8_sell_67
set_option maxRecDepth 20000 in
set_option maxHeartbeats 2000000 in
theorem gX8_sell_B51 {l : Launch} {Z : zZ} {ad : Nat → Nat} {d : Nat} {X : zX} {cs : Nat × Nat} (hC : zC l Z zfull ad X RX8 cX8_sell 3 (some .int) (d + 3)) (hE : zEnd Z zfull ad X false) (hN : zNoX X) (N : Nat) (v1 : Int32) (v2 : Int32) (M : zMem) : zG l Z zfull ad X cs 51 [(0, .ref (ad 62)), (1, .int v1), (2, .int v2)] [.ref (ad 62)] M (fX8_sell_B51 N v1 v2 M) := by
  unfold fX8_sell_B51
  refine zg_iconst hC (v := 3) dX8_sell_51 (by decide) ?_
  refine zg_goto hC (tgt := 56) dX8_sell_52 (by decide) ?_
  exact zg_sub [0, 1, 2] rfl (gX8_sell_B56 hC hE hN N v1 v2 3 M)
set_option maxRecDepth 20000 in
set_option maxHeartbeats 2000000 in
theorem gX8_sell_B0 {l : Launch} {Z : zZ} {ad : Nat → Nat} {d : Nat} {X : zX} {cs : Nat × Nat} (hC : zC l Z zfull ad X RX8 cX8_sell 3 (some .int) (d + 3)) (hE : zEnd Z zfull ad X false) (hN : zNoX X) (N : Nat) (p1 : Int32) (p2 : Int32) (M : zMem) : zG l Z zfull ad X cs 0 [(0, .ref (ad 62)), (1, .int p1), (2, .int p2)] [] M (fX8_sell N p1 p2 M) := by
  unfold fX8_sell
  refine zg_aload_n hC 0 dX8_sell_0 rfl ?_
  refine zg_iload_n hC 1 dX8_sell_1 rfl ?_
  refine zg_iconst hC (v := 0) dX8_sell_2 (by decide) ?_
  refine zg_aload_n hC 0 dX8_sell_3 rfl ?_
  refine zg_get hC (k := 62) (v := .int (M.1 62 21)) ffX8_128 dX8_sell_4 zq62 zk62 rfl ?_
  refine zg_iconst hC (v := 1) dX8_sell_7 (by decide) ?_
  refine zg_isub hC dX8_sell_8 ?_
  refine zg_callSi hC hE hN (As := [.int p1, .int 0, .int ((M.1 62 21) - 1)]) (S := [.ref (ad 62)]) rfl (tX8_in (zflag hC) (d + 2) N p1 0 ((M.1 62 21) - 1) M) lkX8_86 rfl dX8_sell_9 (Nat.le_of_ble_eq_true rfl) (fun r1 M2 er1 => ?_)
  refine zg_if_ne hC (tgt := 19) dX8_sell_12 (by decide) (fun c3 => ?_) (fun c3 => ?_)
  · refine zg_iconst hC (v := 1) dX8_sell_15 (by decide) ?_
    refine zg_goto hC (tgt := 56) dX8_sell_16 (by decide) ?_
    exact zg_sub [0, 1, 2] rfl (gX8_sell_B56 hC hE hN N p1 p2 1 M2)
  · refine zg_iload_n hC 2 dX8_sell_19 rfl ?_
    refine zg_iconst hC (v := 1) dX8_sell_20 (by decide) ?_
    refine zg_bipush hC (v := 40) dX8_sell_21 (by decide) ?_
    refine zg_callSi hC hE hN (As := [.int p2, .int 1, .int 40]) (S := [.ref (ad 62)]) rfl (tX8_in (zflag hC) (d + 2) N p2 1 40 M2) lkX8_86 rfl dX8_sell_23 (Nat.le_of_ble_eq_true rfl) (fun r4 M5 er4 => ?_)
    refine zg_if_ne hC (tgt := 33) dX8_sell_26 (by decide) (fun c6 => ?_) (fun c6 => ?_)
    · refine zg_iconst hC (v := 2) dX8_sell_29 (by decide) ?_
      refine zg_goto hC (tgt := 56) dX8_sell_30 (by decide) ?_
      exact zg_sub [0, 1, 2] rfl (gX8_sell_B56 hC hE hN N p1 p2 2 M5)
    · refine zg_aload_n hC 0 dX8_sell_33 rfl ?_
      refine zg_iload_n hC 1 dX8_sell_34 rfl ?_
      refine zg_callVi hC hE hN (k := 62) (As := [.int p1]) (S := [.ref (ad 62)]) rfl (tX8_barredBy (zflag hC) d N p1 M5) lkX8_171 rfl dX8_sell_35 zq62 zk62 rfl rfl (Nat.le_of_ble_eq_true rfl) (fun r7 M8 er7 => ?_)
      refine zg_if_gt hC (tgt := 51) dX8_sell_38 (by decide) (fun c9 => ?_) (fun c9 => ?_)
      · exact zg_sub [0, 1, 2] rfl (gX8_sell_B51 hC hE hN N p1 p2 M8)
      · refine zg_aload_n hC 0 dX8_sell_41 rfl ?_
        refine zg_get hC (k := 62) (v := .ref (ad 82)) ffX8_67 dX8_sell_42 zq62 zk62 rfl ?_
        refine zg_iload_n hC 1 dX8_sell_45 rfl ?_
        refine zg_iald hC (k := 82) dX8_sell_46 zq82 zk82 (fun h10 => ?_)
        refine zg_iload_n hC 2 dX8_sell_47 rfl ?_
        refine zg_icmp_ge hC (tgt := 55) dX8_sell_48 (by decide) (fun c11 => ?_) (fun c11 => ?_)
        · refine zg_iconst hC (v := 0) dX8_sell_55 (by decide) ?_
          exact zg_sub [0, 1, 2] rfl (gX8_sell_B56 hC hE hN N p1 p2 0 M8)
        · exact zg_sub [0, 1, 2] rfl (gX8_sell_B51 hC hE hN N p1 p2 M8)
theorem tX8_sell {l : Launch} {Z : zZ} {ad : Nat → Nat} (hl : l.stackTraces = false) (d : Nat) (N : Nat) (p1 : Int32) (p2 : Int32) (M : zMem) : zT l Z zfull ad (.code yX8_sell cX8_sell 3 (some .int)) yX8_sell (d + 3) false zbn [.ref (ad 62), .int p1, .int p2] M (fX8_sell N p1 p2 M) :=
  zT_of hl (by decide +kernel) (Nat.le_of_ble_eq_true rfl) (fun X hC hE hN => gX8_sell_B0 hC hE hN N p1 p2 M)

def fX8_onSale_B36 (N : Nat) (again9 : Int32 → Int32 → zMem → zRES) (v2 : Int32) (s0 : Int32) (s1 : Int32) (M : zMem) : zRES :=
  zv (s0 + s1) fun x7 =>
  again9 x7 (v2 + 1) M
def fX8_onSale_B9 (N : Nat) : Nat → Int32 → Int32 → zMem → zRES
  | 0, _, _, _ => none
  | n + 1, v1, v2, M =>
  if (M.1 62 21) ≤ v2 then
    some (.inl v1, M)
  else
    zb (fX8_barredBy N v2 M) fun r3 M4 =>
    if r3 = 0 then
      if zin v2 60 = true then
      fX8_onSale_B36 N (fX8_onSale_B9 N n) v2 v1 (M4.1 82 v2.toNatClampNeg) M4
      else none
    else
      fX8_onSale_B36 N (fX8_onSale_B9 N n) v2 v1 0 M4
def fX8_onSale (N : Nat) (M : zMem) : zRES :=
  zl (zsI M 62 30 0) fun M1 =>
  fX8_onSale_B9 N N 0 0 M1
set_option maxRecDepth 20000 in
set_option maxHeartbeats 2000000 in
theorem gX8_onSale_B36 {l : Launch} {Z : zZ} {ad : Nat → Nat} {d : Nat} {X : zX} {cs : Nat × Nat} (hC : zC l Z zfull ad X RX8 cX8_onSale 3 (some .int) (d + 3)) (hE : zEnd Z zfull ad X false) (hN : zNoX X) (N : Nat) {again9 : Int32 → Int32 → zMem → zRES} (hag9 : ∀ v1 v2 M, zG l Z zfull ad X cs 9 [(0, .ref (ad 62)), (1, .int v1), (2, .int v2)] [] M (again9 v1 v2 M)) (v2 : Int32) (s0 : Int32) (s1 : Int32) (M : zMem) : zG l Z zfull ad X cs 36 [(0, .ref (ad 62)), (2, .int v2)] [.int s1, .int s0] M (fX8_onSale_B36 N again9 v2 s0 s1 M) := by
  unfold fX8_onSale_B36
  refine zg_iadd hC dX8_onSale_36 ?_
  refine zg_nm (fun x7 ex7 => ?_)
  refine zg_istore_n hC (L' := [(1, _), (0, _), (2, _)]) dX8_onSale_37 (by decide) rfl ?_
  refine zg_iinc hC 2 (v := v2 + 1) (L' := [(2, _), (1, _), (0, _)]) dX8_onSale_38 rfl (by rfl) (by decide) rfl ?_
  refine zg_goto hC (tgt := 9) dX8_onSale_41 (by decide) ?_
  exact zg_sub [2, 1, 0] rfl (hag9 x7 (v2 + 1) M)
set_option maxRecDepth 20000 in
set_option maxHeartbeats 2000000 in
theorem gX8_onSale_B9 {l : Launch} {Z : zZ} {ad : Nat → Nat} {d : Nat} {X : zX} {cs : Nat × Nat} (hC : zC l Z zfull ad X RX8 cX8_onSale 3 (some .int) (d + 3)) (hE : zEnd Z zfull ad X false) (hN : zNoX X) (N : Nat) : ∀ (n : Nat) (v1 : Int32) (v2 : Int32) (M : zMem), zG l Z zfull ad X cs 9 [(0, .ref (ad 62)), (1, .int v1), (2, .int v2)] [] M (fX8_onSale_B9 N n v1 v2 M) := by
  intro n
  induction n with
  | zero =>
    intro v1 v2 M
    exact zg_none
  | succ n ih =>
  intro v1 v2 M
  rw [fX8_onSale_B9]
  refine zg_iload_n hC 2 dX8_onSale_9 rfl ?_
  refine zg_aload_n hC 0 dX8_onSale_10 rfl ?_
  refine zg_get hC (k := 62) (v := .int (M.1 62 21)) ffX8_128 dX8_onSale_11 zq62 zk62 rfl ?_
  refine zg_icmp_ge hC (tgt := 44) dX8_onSale_14 (by decide) (fun c2 => ?_) (fun c2 => ?_)
  · refine zg_iload_n hC 1 dX8_onSale_44 rfl ?_
    exact zg_ret hC hE dX8_onSale_45
  · refine zg_iload_n hC 1 dX8_onSale_17 rfl ?_
    refine zg_aload_n hC 0 dX8_onSale_18 rfl ?_
    refine zg_iload_n hC 2 dX8_onSale_19 rfl ?_
    refine zg_callVi hC hE hN (k := 62) (As := [.int v2]) (S := [.int v1]) rfl (tX8_barredBy (zflag hC) d N v2 M) lkX8_171 rfl dX8_onSale_20 zq62 zk62 rfl rfl (Nat.le_of_ble_eq_true rfl) (fun r3 M4 er3 => ?_)
    refine zg_if_ne hC (tgt := 35) dX8_onSale_23 (by decide) (fun c5 => ?_) (fun c5 => ?_)
    · refine zg_aload_n hC 0 dX8_onSale_26 rfl ?_
      refine zg_get hC (k := 62) (v := .ref (ad 82)) ffX8_67 dX8_onSale_27 zq62 zk62 rfl ?_
      refine zg_iload_n hC 2 dX8_onSale_30 rfl ?_
      refine zg_iald hC (k := 82) dX8_onSale_31 zq82 zk82 (fun h6 => ?_)
      refine zg_goto hC (tgt := 36) dX8_onSale_32 (by decide) ?_
      exact zg_sub [0, 2] rfl (gX8_onSale_B36 hC hE hN N ih v2 v1 (M4.1 82 v2.toNatClampNeg) M4)
    · refine zg_iconst hC (v := 0) dX8_onSale_35 (by decide) ?_
      exact zg_sub [0, 2] rfl (gX8_onSale_B36 hC hE hN N ih v2 v1 0 M4)
set_option maxRecDepth 20000 in
set_option maxHeartbeats 2000000 in
theorem gX8_onSale_B0 {l : Launch} {Z : zZ} {ad : Nat → Nat} {d : Nat} {X : zX} {cs : Nat × Nat} (hC : zC l Z zfull ad X RX8 cX8_onSale 3 (some .int) (d + 3)) (hE : zEnd Z zfull ad X false) (hN : zNoX X) (N : Nat) (M : zMem) : zG l Z zfull ad X cs 0 [(0, .ref (ad 62))] [] M (fX8_onSale N M) := by
  unfold fX8_onSale
  refine zg_aload_n hC 0 dX8_onSale_0 rfl ?_
  refine zg_iconst hC (v := 0) dX8_onSale_1 (by decide) ?_
  refine zg_putI hC (k := 62) fpX8_82 dX8_onSale_2 zq62 zk62 rfl (fun M1 eM1 => ?_)
  refine zg_iconst hC (v := 0) dX8_onSale_5 (by decide) ?_
  refine zg_istore_n hC (L' := [(1, _), (0, _)]) dX8_onSale_6 (by decide) rfl ?_
  refine zg_iconst hC (v := 0) dX8_onSale_7 (by decide) ?_
  refine zg_istore_n hC (L' := [(2, _), (1, _), (0, _)]) dX8_onSale_8 (by decide) rfl ?_
  exact zg_sub [2, 1, 0] rfl (gX8_onSale_B9 hC hE hN N N 0 0 M1)
theorem tX8_onSale {l : Launch} {Z : zZ} {ad : Nat → Nat} (hl : l.stackTraces = false) (d : Nat) (N : Nat) (M : zMem) : zT l Z zfull ad (.code yX8_onSale cX8_onSale 3 (some .int)) yX8_onSale (d + 3) false zbn [.ref (ad 62)] M (fX8_onSale N M) :=
  zT_of hl (by decide +kernel) (Nat.le_of_ble_eq_true rfl) (fun X hC hE hN => gX8_onSale_B0 hC hE hN N M)

def fX8_traced_B21 (N : Nat) : Nat → Int32 → Int32 → Int32 → zMem → zRES
  | 0, _, _, _, _ => none
  | n + 1, v1, v2, v3, M =>
  if (M.1 62 21) ≤ v3 then
    some (.inl v2, M)
  else
    if (M.1 62 30) = 0 then
      if zin v3 60 = true then
      zv (v2 + (((M.1 81 v3.toNatClampNeg) >>> (v1 &&& 31)) &&& 1)) fun x8 =>
      fX8_traced_B21 N n v1 x8 (v3 + 1) M
      else none
    else
      some (.inl v2, M)
def fX8_traced_B14 (N : Nat) (v1 : Int32) (s1 : Int32) (M : zMem) : zRES :=
  zl (zsI M 62 30 s1) fun M4 =>
  fX8_traced_B21 N N v1 0 0 M4
def fX8_traced (N : Nat) (p1 : Int32) (M : zMem) : zRES :=
  zb (fX8_isLot N p1 M) fun r1 M2 =>
  if r1 = 0 then
    fX8_traced_B14 N p1 1 M2
  else
    fX8_traced_B14 N p1 0 M2
set_option maxRecDepth 20000 in
set_option maxHeartbeats 2000000 in
theorem gX8_traced_B21 {l : Launch} {Z : zZ} {ad : Nat → Nat} {d : Nat} {X : zX} {cs : Nat × Nat} (hC : zC l Z zfull ad X RX8 cX8_traced 4 (some .int) (d + 2)) (hE : zEnd Z zfull ad X false) (hN : zNoX X) (N : Nat) : ∀ (n : Nat) (v1 : Int32) (v2 : Int32) (v3 : Int32) (M : zMem), zG l Z zfull ad X cs 21 [(0, .ref (ad 62)), (1, .int v1), (2, .int v2), (3, .int v3)] [] M (fX8_traced_B21 N n v1 v2 v3 M) := by
  intro n
  induction n with
  | zero =>
    intro v1 v2 v3 M
    exact zg_none
  | succ n ih =>
  intro v1 v2 v3 M
  rw [fX8_traced_B21]
  refine zg_iload_n hC 3 dX8_traced_21 rfl ?_
  refine zg_aload_n hC 0 dX8_traced_22 rfl ?_
  refine zg_get hC (k := 62) (v := .int (M.1 62 21)) ffX8_128 dX8_traced_23 zq62 zk62 rfl ?_
  refine zg_icmp_ge hC (tgt := 55) dX8_traced_26 (by decide) (fun c5 => ?_) (fun c5 => ?_)
  · refine zg_iload_n hC 2 dX8_traced_55 rfl ?_
    exact zg_ret hC hE dX8_traced_56
  · refine zg_aload_n hC 0 dX8_traced_29 rfl ?_
    refine zg_get hC (k := 62) (v := .int (M.1 62 30)) ffX8_82 dX8_traced_30 zq62 zk62 rfl ?_
    refine zg_if_ne hC (tgt := 55) dX8_traced_33 (by decide) (fun c6 => ?_) (fun c6 => ?_)
    · refine zg_iload_n hC 2 dX8_traced_36 rfl ?_
      refine zg_aload_n hC 0 dX8_traced_37 rfl ?_
      refine zg_get hC (k := 62) (v := .ref (ad 81)) ffX8_64 dX8_traced_38 zq62 zk62 rfl ?_
      refine zg_iload_n hC 3 dX8_traced_41 rfl ?_
      refine zg_iald hC (k := 81) dX8_traced_42 zq81 zk81 (fun h7 => ?_)
      refine zg_iload_n hC 1 dX8_traced_43 rfl ?_
      refine zg_ishr hC dX8_traced_44 ?_
      refine zg_iconst hC (v := 1) dX8_traced_45 (by decide) ?_
      refine zg_iand hC dX8_traced_46 ?_
      refine zg_iadd hC dX8_traced_47 ?_
      refine zg_nm (fun x8 ex8 => ?_)
      refine zg_istore_n hC (L' := [(2, _), (0, _), (1, _), (3, _)]) dX8_traced_48 (by decide) rfl ?_
      refine zg_iinc hC 3 (v := v3 + 1) (L' := [(3, _), (2, _), (0, _), (1, _)]) dX8_traced_49 rfl (by rfl) (by decide) rfl ?_
      refine zg_goto hC (tgt := 21) dX8_traced_52 (by decide) ?_
      exact zg_sub [2, 3, 1, 0] rfl (ih v1 x8 (v3 + 1) M)
    · refine zg_iload_n hC 2 dX8_traced_55 rfl ?_
      exact zg_ret hC hE dX8_traced_56
set_option maxRecDepth 20000 in
set_option maxHeartbeats 2000000 in
theorem gX8_traced_B14 {l : Launch} {Z : zZ} {ad : Nat → Nat} {d : Nat} {X : zX} {cs : Nat × Nat} (hC : zC l Z zfull ad X RX8 cX8_traced 4 (some .int) (d + 2)) (hE : zEnd Z zfull ad X false) (hN : zNoX X) (N : Nat) (v1 : Int32) (s1 : Int32) (M : zMem) : zG l Z zfull ad X cs 14 [(0, .ref (ad 62)), (1, .int v1)] [.int s1, .ref (ad 62)] M (fX8_traced_B14 N v1 s1 M) := by
  unfold fX8_traced_B14
  refine zg_putI hC (k := 62) fpX8_82 dX8_traced_14 zq62 zk62 rfl (fun M4 eM4 => ?_)
  refine zg_iconst hC (v := 0) dX8_traced_17 (by decide) ?_
  refine zg_istore_n hC (L' := [(2, _), (0, _), (1, _)]) dX8_traced_18 (by decide) rfl ?_
  refine zg_iconst hC (v := 0) dX8_traced_19 (by decide) ?_
  refine zg_istore_n hC (L' := [(3, _), (2, _), (0, _), (1, _)]) dX8_traced_20 (by decide) rfl ?_
  exact zg_sub [2, 3, 1, 0] rfl (gX8_traced_B21 hC hE hN N N v1 0 0 M4)
set_option maxRecDepth 20000 in
set_option maxHeartbeats 2000000 in
theorem gX8_traced_B0 {l : Launch} {Z : zZ} {ad : Nat → Nat} {d : Nat} {X : zX} {cs : Nat × Nat} (hC : zC l Z zfull ad X RX8 cX8_traced 4 (some .int) (d + 2)) (hE : zEnd Z zfull ad X false) (hN : zNoX X) (N : Nat) (p1 : Int32) (M : zMem) : zG l Z zfull ad X cs 0 [(0, .ref (ad 62)), (1, .int p1)] [] M (fX8_traced N p1 M) := by
  unfold fX8_traced
  refine zg_aload_n hC 0 dX8_traced_0 rfl ?_
  refine zg_aload_n hC 0 dX8_traced_1 rfl ?_
  refine zg_iload_n hC 1 dX8_traced_2 rfl ?_
  refine zg_callVi hC hE hN (k := 62) (As := [.int p1]) (S := [.ref (ad 62)]) rfl (tX8_isLot (zflag hC) d N p1 M) lkX8_150 rfl dX8_traced_3 zq62 zk62 rfl rfl (Nat.le_of_ble_eq_true rfl) (fun r1 M2 er1 => ?_)
  refine zg_if_eq hC (tgt := 13) dX8_traced_6 (by decide) (fun c3 => ?_) (fun c3 => ?_)
  · refine zg_iconst hC (v := 1) dX8_traced_13 (by decide) ?_
    exact zg_sub [0, 1] rfl (gX8_traced_B14 hC hE hN N p1 1 M2)
  · refine zg_iconst hC (v := 0) dX8_traced_9 (by decide) ?_
    refine zg_goto hC (tgt := 14) dX8_traced_10 (by decide) ?_
    exact zg_sub [0, 1] rfl (gX8_traced_B14 hC hE hN N p1 0 M2)
theorem tX8_traced {l : Launch} {Z : zZ} {ad : Nat → Nat} (hl : l.stackTraces = false) (d : Nat) (N : Nat) (p1 : Int32) (M : zMem) : zT l Z zfull ad (.code yX8_traced cX8_traced 4 (some .int)) yX8_traced (d + 2) false zbn [.ref (ad 62), .int p1] M (fX8_traced N p1 M) :=
  zT_of hl (by decide +kernel) (Nat.le_of_ble_eq_true rfl) (fun X hC hE hN => gX8_traced_B0 hC hE hN N p1 M)

def fX8_tracedAt_B73 (N : Nat) (M : zMem) : zRES :=
  zb (fX8_fails N 1 M) fun r11 M12 =>
  some (.inl r11, M12)
def fX8_tracedAt_B67 (N : Nat) (again26 : Int32 → Int32 → Int32 → zMem → zRES) (v1 : Int32) (v3 : Int32) (v4 : Int32) (M : zMem) : zRES :=
  again26 v1 v3 (v4 + 1) M
def fX8_tracedAt_B26 (N : Nat) : Nat → Int32 → Int32 → Int32 → zMem → zRES
  | 0, _, _, _, _ => none
  | n + 1, v1, v3, v4, M =>
  if (M.1 62 21) ≤ v4 then
    fX8_tracedAt_B73 N M
  else
    if (M.1 62 30) = 0 then
      if zin v4 60 = true then
      if (((M.1 81 v4.toNatClampNeg) >>> (v1 &&& 31)) &&& 1) = 1 then
        if v3 = 0 then
          some (.inl v4, M)
        else
          fX8_tracedAt_B67 N (fX8_tracedAt_B26 N n) v1 (v3 + (-1)) v4 M
      else
        fX8_tracedAt_B67 N (fX8_tracedAt_B26 N n) v1 v3 v4 M
      else none
    else
      fX8_tracedAt_B73 N M
def fX8_tracedAt_B18 (N : Nat) (v1 : Int32) (v2 : Int32) (s1 : Int32) (M : zMem) : zRES :=
  zl (zsI M 62 30 s1) fun M5 =>
  fX8_tracedAt_B26 N N v1 v2 0 M5
def fX8_tracedAt_B17 (N : Nat) (v1 : Int32) (v2 : Int32) (M : zMem) : zRES :=
  fX8_tracedAt_B18 N v1 v2 1 M
def fX8_tracedAt (N : Nat) (p1 : Int32) (p2 : Int32) (M : zMem) : zRES :=
  zb (fX8_isLot N p1 M) fun r1 M2 =>
  if r1 = 0 then
    fX8_tracedAt_B17 N p1 p2 M2
  else
    if p2 < 0 then
      fX8_tracedAt_B17 N p1 p2 M2
    else
      fX8_tracedAt_B18 N p1 p2 0 M2
set_option maxRecDepth 20000 in
set_option maxHeartbeats 2000000 in
theorem gX8_tracedAt_B73 {l : Launch} {Z : zZ} {ad : Nat → Nat} {d : Nat} {X : zX} {cs : Nat × Nat} (hC : zC l Z zfull ad X RX8 cX8_tracedAt 5 (some .int) (d + 2)) (hE : zEnd Z zfull ad X false) (hN : zNoX X) (N : Nat) (M : zMem) : zG l Z zfull ad X cs 73 [(0, .ref (ad 62))] [] M (fX8_tracedAt_B73 N M) := by
  unfold fX8_tracedAt_B73
  refine zg_aload_n hC 0 dX8_tracedAt_73 rfl ?_
  refine zg_iconst hC (v := 1) dX8_tracedAt_74 (by decide) ?_
  refine zg_callVi hC hE hN (k := 62) (As := [.int 1]) (S := []) rfl (tX8_fails (zflag hC) (d + 1) N 1 M) lkX8_162 rfl dX8_tracedAt_75 zq62 zk62 rfl rfl (Nat.le_of_ble_eq_true rfl) (fun r11 M12 er11 => ?_)
  exact zg_ret hC hE dX8_tracedAt_78
set_option maxRecDepth 20000 in
set_option maxHeartbeats 2000000 in
theorem gX8_tracedAt_B67 {l : Launch} {Z : zZ} {ad : Nat → Nat} {d : Nat} {X : zX} {cs : Nat × Nat} (hC : zC l Z zfull ad X RX8 cX8_tracedAt 5 (some .int) (d + 2)) (hE : zEnd Z zfull ad X false) (hN : zNoX X) (N : Nat) {again26 : Int32 → Int32 → Int32 → zMem → zRES} (hag26 : ∀ v1 v3 v4 M, zG l Z zfull ad X cs 26 [(0, .ref (ad 62)), (1, .int v1), (3, .int v3), (4, .int v4)] [] M (again26 v1 v3 v4 M)) (v1 : Int32) (v3 : Int32) (v4 : Int32) (M : zMem) : zG l Z zfull ad X cs 67 [(0, .ref (ad 62)), (1, .int v1), (3, .int v3), (4, .int v4)] [] M (fX8_tracedAt_B67 N again26 v1 v3 v4 M) := by
  unfold fX8_tracedAt_B67
  refine zg_iinc hC 3 (v := v4 + 1) (L' := [(4, _), (0, _), (1, _), (3, _)]) dX8_tracedAt_67 rfl (by rfl) (by decide) rfl ?_
  refine zg_goto hC (tgt := 26) dX8_tracedAt_70 (by decide) ?_
  exact zg_sub [1, 2, 3, 0] rfl (hag26 v1 v3 (v4 + 1) M)
set_option maxRecDepth 20000 in
set_option maxHeartbeats 2000000 in
theorem gX8_tracedAt_B26 {l : Launch} {Z : zZ} {ad : Nat → Nat} {d : Nat} {X : zX} {cs : Nat × Nat} (hC : zC l Z zfull ad X RX8 cX8_tracedAt 5 (some .int) (d + 2)) (hE : zEnd Z zfull ad X false) (hN : zNoX X) (N : Nat) : ∀ (n : Nat) (v1 : Int32) (v3 : Int32) (v4 : Int32) (M : zMem), zG l Z zfull ad X cs 26 [(0, .ref (ad 62)), (1, .int v1), (3, .int v3), (4, .int v4)] [] M (fX8_tracedAt_B26 N n v1 v3 v4 M) := by
  intro n
  induction n with
  | zero =>
    intro v1 v3 v4 M
    exact zg_none
  | succ n ih =>
  intro v1 v3 v4 M
  rw [fX8_tracedAt_B26]
  refine zg_iload hC 3 dX8_tracedAt_26 rfl ?_
  refine zg_aload_n hC 0 dX8_tracedAt_28 rfl ?_
  refine zg_get hC (k := 62) (v := .int (M.1 62 21)) ffX8_128 dX8_tracedAt_29 zq62 zk62 rfl ?_
  refine zg_icmp_ge hC (tgt := 73) dX8_tracedAt_32 (by decide) (fun c6 => ?_) (fun c6 => ?_)
  · exact zg_sub [0] rfl (gX8_tracedAt_B73 hC hE hN N M)
  · refine zg_aload_n hC 0 dX8_tracedAt_35 rfl ?_
    refine zg_get hC (k := 62) (v := .int (M.1 62 30)) ffX8_82 dX8_tracedAt_36 zq62 zk62 rfl ?_
    refine zg_if_ne hC (tgt := 73) dX8_tracedAt_39 (by decide) (fun c7 => ?_) (fun c7 => ?_)
    · refine zg_aload_n hC 0 dX8_tracedAt_42 rfl ?_
      refine zg_get hC (k := 62) (v := .ref (ad 81)) ffX8_64 dX8_tracedAt_43 zq62 zk62 rfl ?_
      refine zg_iload hC 3 dX8_tracedAt_46 rfl ?_
      refine zg_iald hC (k := 81) dX8_tracedAt_48 zq81 zk81 (fun h8 => ?_)
      refine zg_iload_n hC 1 dX8_tracedAt_49 rfl ?_
      refine zg_ishr hC dX8_tracedAt_50 ?_
      refine zg_iconst hC (v := 1) dX8_tracedAt_51 (by decide) ?_
      refine zg_iand hC dX8_tracedAt_52 ?_
      refine zg_iconst hC (v := 1) dX8_tracedAt_53 (by decide) ?_
      refine zg_icmp_ne hC (tgt := 67) dX8_tracedAt_54 (by decide) (fun c9 => ?_) (fun c9 => ?_)
      · refine zg_iload_n hC 2 dX8_tracedAt_57 rfl ?_
        refine zg_if_ne hC (tgt := 64) dX8_tracedAt_58 (by decide) (fun c10 => ?_) (fun c10 => ?_)
        · refine zg_iload hC 3 dX8_tracedAt_61 rfl ?_
          exact zg_ret hC hE dX8_tracedAt_63
        · refine zg_iinc hC 2 (v := v3 + (-1)) (L' := [(3, _), (0, _), (1, _), (4, _)]) dX8_tracedAt_64 rfl (by rfl) (by decide) rfl ?_
          exact zg_sub [1, 2, 0, 3] rfl (gX8_tracedAt_B67 hC hE hN N ih v1 (v3 + (-1)) v4 M)
      · exact zg_sub [0, 1, 2, 3] rfl (gX8_tracedAt_B67 hC hE hN N ih v1 v3 v4 M)
    · exact zg_sub [0] rfl (gX8_tracedAt_B73 hC hE hN N M)
set_option maxRecDepth 20000 in
set_option maxHeartbeats 2000000 in
theorem gX8_tracedAt_B18 {l : Launch} {Z : zZ} {ad : Nat → Nat} {d : Nat} {X : zX} {cs : Nat × Nat} (hC : zC l Z zfull ad X RX8 cX8_tracedAt 5 (some .int) (d + 2)) (hE : zEnd Z zfull ad X false) (hN : zNoX X) (N : Nat) (v1 : Int32) (v2 : Int32) (s1 : Int32) (M : zMem) : zG l Z zfull ad X cs 18 [(0, .ref (ad 62)), (1, .int v1), (2, .int v2)] [.int s1, .ref (ad 62)] M (fX8_tracedAt_B18 N v1 v2 s1 M) := by
  unfold fX8_tracedAt_B18
  refine zg_putI hC (k := 62) fpX8_82 dX8_tracedAt_18 zq62 zk62 rfl (fun M5 eM5 => ?_)
  refine zg_iload_n hC 2 dX8_tracedAt_21 rfl ?_
  refine zg_istore_n hC (L' := [(3, _), (0, _), (1, _), (2, _)]) dX8_tracedAt_22 (by decide) rfl ?_
  refine zg_iconst hC (v := 0) dX8_tracedAt_23 (by decide) ?_
  refine zg_istore hC (L' := [(4, _), (3, _), (0, _), (1, _), (2, _)]) dX8_tracedAt_24 (by decide) rfl ?_
  exact zg_sub [2, 3, 1, 0] rfl (gX8_tracedAt_B26 hC hE hN N N v1 v2 0 M5)
set_option maxRecDepth 20000 in
set_option maxHeartbeats 2000000 in
theorem gX8_tracedAt_B17 {l : Launch} {Z : zZ} {ad : Nat → Nat} {d : Nat} {X : zX} {cs : Nat × Nat} (hC : zC l Z zfull ad X RX8 cX8_tracedAt 5 (some .int) (d + 2)) (hE : zEnd Z zfull ad X false) (hN : zNoX X) (N : Nat) (v1 : Int32) (v2 : Int32) (M : zMem) : zG l Z zfull ad X cs 17 [(0, .ref (ad 62)), (1, .int v1), (2, .int v2)] [.ref (ad 62)] M (fX8_tracedAt_B17 N v1 v2 M) := by
  unfold fX8_tracedAt_B17
  refine zg_iconst hC (v := 1) dX8_tracedAt_17 (by decide) ?_
  exact zg_sub [0, 1, 2] rfl (gX8_tracedAt_B18 hC hE hN N v1 v2 1 M)
set_option maxRecDepth 20000 in
set_option maxHeartbeats 2000000 in
theorem gX8_tracedAt_B0 {l : Launch} {Z : zZ} {ad : Nat → Nat} {d : Nat} {X : zX} {cs : Nat × Nat} (hC : zC l Z zfull ad X RX8 cX8_tracedAt 5 (some .int) (d + 2)) (hE : zEnd Z zfull ad X false) (hN : zNoX X) (N : Nat) (p1 : Int32) (p2 : Int32) (M : zMem) : zG l Z zfull ad X cs 0 [(0, .ref (ad 62)), (1, .int p1), (2, .int p2)] [] M (fX8_tracedAt N p1 p2 M) := by
  unfold fX8_tracedAt
  refine zg_aload_n hC 0 dX8_tracedAt_0 rfl ?_
  refine zg_aload_n hC 0 dX8_tracedAt_1 rfl ?_
  refine zg_iload_n hC 1 dX8_tracedAt_2 rfl ?_
  refine zg_callVi hC hE hN (k := 62) (As := [.int p1]) (S := [.ref (ad 62)]) rfl (tX8_isLot (zflag hC) d N p1 M) lkX8_150 rfl dX8_tracedAt_3 zq62 zk62 rfl rfl (Nat.le_of_ble_eq_true rfl) (fun r1 M2 er1 => ?_)
  refine zg_if_eq hC (tgt := 17) dX8_tracedAt_6 (by decide) (fun c3 => ?_) (fun c3 => ?_)
  · exact zg_sub [0, 1, 2] rfl (gX8_tracedAt_B17 hC hE hN N p1 p2 M2)
  · refine zg_iload_n hC 2 dX8_tracedAt_9 rfl ?_
    refine zg_if_lt hC (tgt := 17) dX8_tracedAt_10 (by decide) (fun c4 => ?_) (fun c4 => ?_)
    · exact zg_sub [0, 1, 2] rfl (gX8_tracedAt_B17 hC hE hN N p1 p2 M2)
    · refine zg_iconst hC (v := 0) dX8_tracedAt_13 (by decide) ?_
      refine zg_goto hC (tgt := 18) dX8_tracedAt_14 (by decide) ?_
      exact zg_sub [0, 1, 2] rfl (gX8_tracedAt_B18 hC hE hN N p1 p2 0 M2)
theorem tX8_tracedAt {l : Launch} {Z : zZ} {ad : Nat → Nat} (hl : l.stackTraces = false) (d : Nat) (N : Nat) (p1 : Int32) (p2 : Int32) (M : zMem) : zT l Z zfull ad (.code yX8_tracedAt cX8_tracedAt 5 (some .int)) yX8_tracedAt (d + 2) false zbn [.ref (ad 62), .int p1, .int p2] M (fX8_tracedAt N p1 p2 M) :=
  zT_of hl (by decide +kernel) (Nat.le_of_ble_eq_true rfl) (fun X hC hE hN => gX8_tracedAt_B0 hC hE hN N p1 p2 M)

def fX8_recalls (N : Nat) (M : zMem) : zRES :=
  zl (zsI M 62 30 0) fun M1 =>
  some (.inl (M1.1 62 26), M1)
set_option maxRecDepth 20000 in
set_option maxHeartbeats 2000000 in
theorem gX8_recalls_B0 {l : Launch} {Z : zZ} {ad : Nat → Nat} {d : Nat} {X : zX} {cs : Nat × Nat} (hC : zC l Z zfull ad X RX8 cX8_recalls 1 (some .int) (d + 0)) (hE : zEnd Z zfull ad X false) (hN : zNoX X) (N : Nat) (M : zMem) : zG l Z zfull ad X cs 0 [(0, .ref (ad 62))] [] M (fX8_recalls N M) := by
  unfold fX8_recalls
  refine zg_aload_n hC 0 dX8_recalls_0 rfl ?_
  refine zg_iconst hC (v := 0) dX8_recalls_1 (by decide) ?_
  refine zg_putI hC (k := 62) fpX8_82 dX8_recalls_2 zq62 zk62 rfl (fun M1 eM1 => ?_)
  refine zg_aload_n hC 0 dX8_recalls_5 rfl ?_
  refine zg_get hC (k := 62) (v := .int (M1.1 62 26)) ffX8_122 dX8_recalls_6 zq62 zk62 rfl ?_
  exact zg_ret hC hE dX8_recalls_9
theorem tX8_recalls {l : Launch} {Z : zZ} {ad : Nat → Nat} (hl : l.stackTraces = false) (d : Nat) (N : Nat) (M : zMem) : zT l Z zfull ad (.code yX8_recalls cX8_recalls 1 (some .int)) yX8_recalls (d + 0) false zbn [.ref (ad 62)] M (fX8_recalls N M) :=
  zT_of hl (by decide +kernel) (Nat.le_of_ble_eq_true rfl) (fun X hC hE hN => gX8_recalls_B0 hC hE hN N M)

def fX8_isRecall_B20 (N : Nat) (s1 : Int32) (M : zMem) : zRES :=
  zl (zsI M 62 30 s1) fun M4 =>
  if (M4.1 62 30) = 0 then
    some (.inl 1, M4)
  else
    some (.inl 0, M4)
def fX8_isRecall (N : Nat) (p1 : Int32) (M : zMem) : zRES :=
  zb (fX8_in N p1 0 ((M.1 62 26) - 1) M) fun r1 M2 =>
  if r1 = 0 then
    fX8_isRecall_B20 N 1 M2
  else
    fX8_isRecall_B20 N 0 M2
set_option maxRecDepth 20000 in
set_option maxHeartbeats 2000000 in
theorem gX8_isRecall_B20 {l : Launch} {Z : zZ} {ad : Nat → Nat} {d : Nat} {X : zX} {cs : Nat × Nat} (hC : zC l Z zfull ad X RX8 cX8_isRecall 2 (some .boolean) (d + 1)) (hE : zEnd Z zfull ad X false) (hN : zNoX X) (N : Nat) (s1 : Int32) (M : zMem) : zG l Z zfull ad X cs 20 [(0, .ref (ad 62))] [.int s1, .ref (ad 62)] M (fX8_isRecall_B20 N s1 M) := by
  unfold fX8_isRecall_B20
  refine zg_putI hC (k := 62) fpX8_82 dX8_isRecall_20 zq62 zk62 rfl (fun M4 eM4 => ?_)
  refine zg_aload_n hC 0 dX8_isRecall_23 rfl ?_
  refine zg_get hC (k := 62) (v := .int (M4.1 62 30)) ffX8_82 dX8_isRecall_24 zq62 zk62 rfl ?_
  refine zg_if_ne hC (tgt := 34) dX8_isRecall_27 (by decide) (fun c5 => ?_) (fun c5 => ?_)
  · refine zg_iconst hC (v := 1) dX8_isRecall_30 (by decide) ?_
    refine zg_goto hC (tgt := 35) dX8_isRecall_31 (by decide) ?_
    exact zg_retz hC hE (by decide) dX8_isRecall_35
  · refine zg_iconst hC (v := 0) dX8_isRecall_34 (by decide) ?_
    exact zg_retz hC hE (by decide) dX8_isRecall_35
set_option maxRecDepth 20000 in
set_option maxHeartbeats 2000000 in
theorem gX8_isRecall_B0 {l : Launch} {Z : zZ} {ad : Nat → Nat} {d : Nat} {X : zX} {cs : Nat × Nat} (hC : zC l Z zfull ad X RX8 cX8_isRecall 2 (some .boolean) (d + 1)) (hE : zEnd Z zfull ad X false) (hN : zNoX X) (N : Nat) (p1 : Int32) (M : zMem) : zG l Z zfull ad X cs 0 [(0, .ref (ad 62)), (1, .int p1)] [] M (fX8_isRecall N p1 M) := by
  unfold fX8_isRecall
  refine zg_aload_n hC 0 dX8_isRecall_0 rfl ?_
  refine zg_iload_n hC 1 dX8_isRecall_1 rfl ?_
  refine zg_iconst hC (v := 0) dX8_isRecall_2 (by decide) ?_
  refine zg_aload_n hC 0 dX8_isRecall_3 rfl ?_
  refine zg_get hC (k := 62) (v := .int (M.1 62 26)) ffX8_122 dX8_isRecall_4 zq62 zk62 rfl ?_
  refine zg_iconst hC (v := 1) dX8_isRecall_7 (by decide) ?_
  refine zg_isub hC dX8_isRecall_8 ?_
  refine zg_callSi hC hE hN (As := [.int p1, .int 0, .int ((M.1 62 26) - 1)]) (S := [.ref (ad 62)]) rfl (tX8_in (zflag hC) d N p1 0 ((M.1 62 26) - 1) M) lkX8_86 rfl dX8_isRecall_9 (Nat.le_of_ble_eq_true rfl) (fun r1 M2 er1 => ?_)
  refine zg_if_eq hC (tgt := 19) dX8_isRecall_12 (by decide) (fun c3 => ?_) (fun c3 => ?_)
  · refine zg_iconst hC (v := 1) dX8_isRecall_19 (by decide) ?_
    exact zg_sub [0] rfl (gX8_isRecall_B20 hC hE hN N 1 M2)
  · refine zg_iconst hC (v := 0) dX8_isRecall_15 (by decide) ?_
    refine zg_goto hC (tgt := 20) dX8_isRecall_16 (by decide) ?_
    exact zg_sub [0] rfl (gX8_isRecall_B20 hC hE hN N 0 M2)
theorem tX8_isRecall {l : Launch} {Z : zZ} {ad : Nat → Nat} (hl : l.stackTraces = false) (d : Nat) (N : Nat) (p1 : Int32) (M : zMem) : zT l Z zfull ad (.code yX8_isRecall cX8_isRecall 2 (some .boolean)) yX8_isRecall (d + 1) false zbn [.ref (ad 62), .int p1] M (fX8_isRecall N p1 M) :=
  zT_of hl (by decide +kernel) (Nat.le_of_ble_eq_true rfl) (fun X hC hE hN => gX8_isRecall_B0 hC hE hN N p1 M)

def fX8_recallOf (N : Nat) (p1 : Int32) (M : zMem) : zRES :=
  zb (fX8_isRecall N p1 M) fun r1 M2 =>
  if r1 = 0 then
    some (.inl 0, M2)
  else
    if zin p1 2400 = true then
    some (.inl (M2.1 84 p1.toNatClampNeg), M2)
    else none
set_option maxRecDepth 20000 in
set_option maxHeartbeats 2000000 in
theorem gX8_recallOf_B0 {l : Launch} {Z : zZ} {ad : Nat → Nat} {d : Nat} {X : zX} {cs : Nat × Nat} (hC : zC l Z zfull ad X RX8 cX8_recallOf 2 (some .int) (d + 2)) (hE : zEnd Z zfull ad X false) (hN : zNoX X) (N : Nat) (p1 : Int32) (M : zMem) : zG l Z zfull ad X cs 0 [(0, .ref (ad 62)), (1, .int p1)] [] M (fX8_recallOf N p1 M) := by
  unfold fX8_recallOf
  refine zg_aload_n hC 0 dX8_recallOf_0 rfl ?_
  refine zg_iload_n hC 1 dX8_recallOf_1 rfl ?_
  refine zg_callVi hC hE hN (k := 62) (As := [.int p1]) (S := []) rfl (tX8_isRecall (zflag hC) d N p1 M) lkX8_177 rfl dX8_recallOf_2 zq62 zk62 rfl rfl (Nat.le_of_ble_eq_true rfl) (fun r1 M2 er1 => ?_)
  refine zg_if_eq hC (tgt := 17) dX8_recallOf_5 (by decide) (fun c3 => ?_) (fun c3 => ?_)
  · refine zg_iconst hC (v := 0) dX8_recallOf_17 (by decide) ?_
    exact zg_ret hC hE dX8_recallOf_18
  · refine zg_aload_n hC 0 dX8_recallOf_8 rfl ?_
    refine zg_get hC (k := 62) (v := .ref (ad 84)) ffX8_73 dX8_recallOf_9 zq62 zk62 rfl ?_
    refine zg_iload_n hC 1 dX8_recallOf_12 rfl ?_
    refine zg_iald hC (k := 84) dX8_recallOf_13 zq84 zk84 (fun h4 => ?_)
    refine zg_goto hC (tgt := 18) dX8_recallOf_14 (by decide) ?_
    exact zg_ret hC hE dX8_recallOf_18
theorem tX8_recallOf {l : Launch} {Z : zZ} {ad : Nat → Nat} (hl : l.stackTraces = false) (d : Nat) (N : Nat) (p1 : Int32) (M : zMem) : zT l Z zfull ad (.code yX8_recallOf cX8_recallOf 2 (some .int)) yX8_recallOf (d + 2) false zbn [.ref (ad 62), .int p1] M (fX8_recallOf N p1 M) :=
  zT_of hl (by decide +kernel) (Nat.le_of_ble_eq_true rfl) (fun X hC hE hN => gX8_recallOf_B0 hC hE hN N p1 M)

def fX8_calledBack (N : Nat) (p1 : Int32) (M : zMem) : zRES :=
  zb (fX8_isRecall N p1 M) fun r1 M2 =>
  if r1 = 0 then
    some (.inl 0, M2)
  else
    if zin p1 2400 = true then
    some (.inl (M2.1 85 p1.toNatClampNeg), M2)
    else none
set_option maxRecDepth 20000 in
set_option maxHeartbeats 2000000 in
theorem gX8_calledBack_B0 {l : Launch} {Z : zZ} {ad : Nat → Nat} {d : Nat} {X : zX} {cs : Nat × Nat} (hC : zC l Z zfull ad X RX8 cX8_calledBack 2 (some .int) (d + 2)) (hE : zEnd Z zfull ad X false) (hN : zNoX X) (N : Nat) (p1 : Int32) (M : zMem) : zG l Z zfull ad X cs 0 [(0, .ref (ad 62)), (1, .int p1)] [] M (fX8_calledBack N p1 M) := by
  unfold fX8_calledBack
  refine zg_aload_n hC 0 dX8_calledBack_0 rfl ?_
  refine zg_iload_n hC 1 dX8_calledBack_1 rfl ?_
  refine zg_callVi hC hE hN (k := 62) (As := [.int p1]) (S := []) rfl (tX8_isRecall (zflag hC) d N p1 M) lkX8_177 rfl dX8_calledBack_2 zq62 zk62 rfl rfl (Nat.le_of_ble_eq_true rfl) (fun r1 M2 er1 => ?_)
  refine zg_if_eq hC (tgt := 17) dX8_calledBack_5 (by decide) (fun c3 => ?_) (fun c3 => ?_)
  · refine zg_iconst hC (v := 0) dX8_calledBack_17 (by decide) ?_
    exact zg_ret hC hE dX8_calledBack_18
  · refine zg_aload_n hC 0 dX8_calledBack_8 rfl ?_
    refine zg_get hC (k := 62) (v := .ref (ad 85)) ffX8_76 dX8_calledBack_9 zq62 zk62 rfl ?_
    refine zg_iload_n hC 1 dX8_calledBack_12 rfl ?_
    refine zg_iald hC (k := 85) dX8_calledBack_13 zq85 zk85 (fun h4 => ?_)
    refine zg_goto hC (tgt := 18) dX8_calledBack_14 (by decide) ?_
    exact zg_ret hC hE dX8_calledBack_18
theorem tX8_calledBack {l : Launch} {Z : zZ} {ad : Nat → Nat} (hl : l.stackTraces = false) (d : Nat) (N : Nat) (p1 : Int32) (M : zMem) : zT l Z zfull ad (.code yX8_calledBack cX8_calledBack 2 (some .int)) yX8_calledBack (d + 2) false zbn [.ref (ad 62), .int p1] M (fX8_calledBack N p1 M) :=
  zT_of hl (by decide +kernel) (Nat.le_of_ble_eq_true rfl) (fun X hC hE hN => gX8_calledBack_B0 hC hE hN N p1 M)

def fX8_why (N : Nat) (p1 : Int32) (M : zMem) : zRES :=
  zb (fX8_isRecall N p1 M) fun r1 M2 =>
  if r1 = 0 then
    some (.inl 0, M2)
  else
    if zin p1 2400 = true then
    some (.inl (M2.1 86 p1.toNatClampNeg), M2)
    else none
set_option maxRecDepth 20000 in
set_option maxHeartbeats 2000000 in
theorem gX8_why_B0 {l : Launch} {Z : zZ} {ad : Nat → Nat} {d : Nat} {X : zX} {cs : Nat × Nat} (hC : zC l Z zfull ad X RX8 cX8_why 2 (some .int) (d + 2)) (hE : zEnd Z zfull ad X false) (hN : zNoX X) (N : Nat) (p1 : Int32) (M : zMem) : zG l Z zfull ad X cs 0 [(0, .ref (ad 62)), (1, .int p1)] [] M (fX8_why N p1 M) := by
  unfold fX8_why
  refine zg_aload_n hC 0 dX8_why_0 rfl ?_
  refine zg_iload_n hC 1 dX8_why_1 rfl ?_
  refine zg_callVi hC hE hN (k := 62) (As := [.int p1]) (S := []) rfl (tX8_isRecall (zflag hC) d N p1 M) lkX8_177 rfl dX8_why_2 zq62 zk62 rfl rfl (Nat.le_of_ble_eq_true rfl) (fun r1 M2 er1 => ?_)
  refine zg_if_eq hC (tgt := 17) dX8_why_5 (by decide) (fun c3 => ?_) (fun c3 => ?_)
  · refine zg_iconst hC (v := 0) dX8_why_17 (by decide) ?_
    exact zg_ret hC hE dX8_why_18
  · refine zg_aload_n hC 0 dX8_why_8 rfl ?_
    refine zg_get hC (k := 62) (v := .ref (ad 86)) ffX8_79 dX8_why_9 zq62 zk62 rfl ?_
    refine zg_iload_n hC 1 dX8_why_12 rfl ?_
    refine zg_iald hC (k := 86) dX8_why_13 zq86 zk86 (fun h4 => ?_)
    refine zg_goto hC (tgt := 18) dX8_why_14 (by decide) ?_
    exact zg_ret hC hE dX8_why_18
theorem tX8_why {l : Launch} {Z : zZ} {ad : Nat → Nat} (hl : l.stackTraces = false) (d : Nat) (N : Nat) (p1 : Int32) (M : zMem) : zT l Z zfull ad (.code yX8_why cX8_why 2 (some .int)) yX8_why (d + 2) false zbn [.ref (ad 62), .int p1] M (fX8_why N p1 M) :=
  zT_of hl (by decide +kernel) (Nat.le_of_ble_eq_true rfl) (fun X hC hE hN => gX8_why_B0 hC hE hN N p1 M)
