def fJ7_fill_53178_B5 (k w : Nat) (N : Nat) : Nat → Int32 → Int32 → Int32 → zMem → zRES
  | 0, _, _, _, _ => none
  | n + 1, v1, v2, v3, M =>
  if v3 ≤ v2 then
    some (.inl 0, M)
  else
    if zin v2 w = true then
    zl (zsI M k v2.toNatClampNeg v1) fun M4 =>
    fJ7_fill_53178_B5 k w N n v1 (v2 + 1) v3 M4
    else none
def fJ7_fill_53178 (k w : Nat) (N : Nat) (p2 : Int32) (M : zMem) : zRES :=
  zv (nI w) fun x1 =>
  fJ7_fill_53178_B5 k w N N p2 0 x1 M
set_option maxRecDepth 20000 in
set_option maxHeartbeats 2000000 in
theorem gJ7_fill_53178_B5 {l : Launch} {Z : zZ} {lv : Nat → Bool} {ad : Nat → Nat} {d : Nat} {X : zX} {cs : Nat × Nat} (hC : zC l Z lv ad X RJ7 cJ7_fill_53178 4 none (d + 0)) (hE : zEnd Z lv ad X true) (hN : zNoX X) {k w : Nat} (hk : lv k = true) (hz : zK k = (1, w)) (N : Nat) : ∀ (n : Nat) (v1 : Int32) (v2 : Int32) (v3 : Int32) (M : zMem), zG l Z lv ad X cs 5 [(0, .ref (ad k)), (1, .int v1), (2, .int v2), (3, .int v3)] [] M (fJ7_fill_53178_B5 k w N n v1 v2 v3 M) := by
  intro n
  induction n with
  | zero =>
    intro v1 v2 v3 M
    exact zg_none
  | succ n ih =>
  intro v1 v2 v3 M
  rw [fJ7_fill_53178_B5]
  refine zg_iload_n hC 2 dJ7_fill_53178_5 rfl ?_
  refine zg_iload_n hC 3 dJ7_fill_53178_6 rfl ?_
  refine zg_icmp_ge hC (tgt := 20) dJ7_fill_53178_7 (by decide) (fun c2 => ?_) (fun c2 => ?_)
  · exact zg_retv hC hE dJ7_fill_53178_20
  · refine zg_aload_n hC 0 dJ7_fill_53178_10 rfl ?_
    refine zg_iload_n hC 2 dJ7_fill_53178_11 rfl ?_
    refine zg_iload_n hC 1 dJ7_fill_53178_12 rfl ?_
    refine zg_iast hC (k := k) dJ7_fill_53178_13 hk hz (fun h3 M4 eM4 => ?_)
    refine zg_iinc hC 2 (v := v2 + 1) (L' := [(2, _), (0, _), (1, _), (3, _)]) dJ7_fill_53178_14 rfl (by rfl) (by decide) rfl ?_
    refine zg_goto hC (tgt := 5) dJ7_fill_53178_17 (by decide) ?_
    exact zg_sub [1, 2, 0, 3] rfl (ih v1 (v2 + 1) v3 M4)
set_option maxRecDepth 20000 in
set_option maxHeartbeats 2000000 in
theorem gJ7_fill_53178_B0 {l : Launch} {Z : zZ} {lv : Nat → Bool} {ad : Nat → Nat} {d : Nat} {X : zX} {cs : Nat × Nat} (hC : zC l Z lv ad X RJ7 cJ7_fill_53178 4 none (d + 0)) (hE : zEnd Z lv ad X true) (hN : zNoX X) {k w : Nat} (hk : lv k = true) (hz : zK k = (1, w)) (N : Nat) (p2 : Int32) (M : zMem) : zG l Z lv ad X cs 0 [(0, .ref (ad k)), (1, .int p2)] [] M (fJ7_fill_53178 k w N p2 M) := by
  unfold fJ7_fill_53178
  refine zg_iconst hC (v := 0) dJ7_fill_53178_0 (by decide) ?_
  refine zg_istore_n hC (L' := [(2, _), (0, _), (1, _)]) dJ7_fill_53178_1 (by decide) rfl ?_
  refine zg_aload_n hC 1 dJ7_fill_53178_2 rfl ?_
  refine zg_alen hC (k := k) dJ7_fill_53178_3 hk hz ?_
  refine zg_nm (fun x1 ex1 => ?_)
  refine zg_istore_n hC (L' := [(3, _), (2, _), (0, _), (1, _)]) dJ7_fill_53178_4 (by decide) rfl ?_
  exact zg_sub [2, 3, 1, 0] rfl (gJ7_fill_53178_B5 hC hE hN hk hz N N p2 0 x1 M)
theorem tJ7_fill_53178 {l : Launch} {Z : zZ} {lv : Nat → Bool} {ad : Nat → Nat} (hl : l.stackTraces = false) (d : Nat) {k w : Nat} (hk : lv k = true) (hz : zK k = (1, w)) (N : Nat) (p2 : Int32) (M : zMem) : zT l Z lv ad (.code yJ7_fill_53178 cJ7_fill_53178 4 none) yJ7_fill_53178 (d + 0) true zbn [.ref (ad k), .int p2] M (fJ7_fill_53178 k w N p2 M) :=
  zT_of hl (by decide +kernel) (Nat.le_of_ble_eq_true rfl) (fun X hC hE hN => gJ7_fill_53178_B0 hC hE hN hk hz N p2 M)

def fX0_begin (o : Nat) (N : Nat) (M : zMem) : zRES :=
  zl (zsI M o 0 0) fun M1 =>
  zb (fJ7_fill_53178 (o + 1) 5 N 0 M1) fun r2 M3 =>
  zb (fJ7_fill_53178 (o + 2) 5 N 0 M3) fun r4 M5 =>
  zb (fJ7_fill_53178 (o + 3) 5 N (-1) M5) fun r6 M7 =>
  zb (fJ7_fill_53178 (o + 4) 5 N 0 M7) fun r8 M9 =>
  zb (fJ7_fill_53178 (o + 11) 5 N 0 M9) fun r10 M11 =>
  zl (zsI M11 o 7 0) fun M12 =>
  zl (zsL M12 o 10 0) fun M13 =>
  zl (zsL M13 o 11 0) fun M14 =>
  some (.inl 0, M14)
set_option maxRecDepth 20000 in
set_option maxHeartbeats 2000000 in
theorem gX0_begin_B0 {l : Launch} {Z : zZ} {lv : Nat → Bool} {ad : Nat → Nat} {d : Nat} {X : zX} {cs : Nat × Nat} (hC : zC l Z lv ad X RX0 cX0_begin 1 none (d + 1)) (hE : zEnd Z lv ad X true) (hN : zNoX X) {o : Nat} (ho : o = 1 ∨ o = 15) (hlv : ∀ j, j < 14 → lv (o + j) = true) (N : Nat) (M : zMem) : zG l Z lv ad X cs 0 [(0, .ref (ad o))] [] M (fX0_begin o N M) := by
  unfold fX0_begin
  refine zg_aload_n hC 0 dX0_begin_0 rfl ?_
  refine zg_iconst hC (v := 0) dX0_begin_1 (by decide) ?_
  refine zg_putI hC (k := o) fpX0_41 dX0_begin_2 (hlv 0 (by decide)) (zka0 ho) rfl (fun M1 eM1 => ?_)
  refine zg_aload_n hC 0 dX0_begin_5 rfl ?_
  refine zg_get hC (k := o) (v := .ref (ad (o + 1))) ffX0_9 dX0_begin_6 (hlv 0 (by decide)) (zka0 ho) rfl ?_
  refine zg_iconst hC (v := 0) dX0_begin_9 (by decide) ?_
  refine zg_callSv hC hE hN (As := [.ref (ad (o + 1)), .int 0]) (S := []) rfl (tJ7_fill_53178 (zflag hC) d (hlv 1 (by decide)) (zka1 ho) N 0 M1) lkX0_45 rfl dX0_begin_10 (Nat.le_of_ble_eq_true rfl) (fun r2 M3 er2 => ?_)
  refine zg_aload_n hC 0 dX0_begin_13 rfl ?_
  refine zg_get hC (k := o) (v := .ref (ad (o + 2))) ffX0_15 dX0_begin_14 (hlv 0 (by decide)) (zka0 ho) rfl ?_
  refine zg_iconst hC (v := 0) dX0_begin_17 (by decide) ?_
  refine zg_callSv hC hE hN (As := [.ref (ad (o + 2)), .int 0]) (S := []) rfl (tJ7_fill_53178 (zflag hC) d (hlv 2 (by decide)) (zka2 ho) N 0 M3) lkX0_45 rfl dX0_begin_18 (Nat.le_of_ble_eq_true rfl) (fun r4 M5 er4 => ?_)
  refine zg_aload_n hC 0 dX0_begin_21 rfl ?_
  refine zg_get hC (k := o) (v := .ref (ad (o + 3))) ffX0_18 dX0_begin_22 (hlv 0 (by decide)) (zka0 ho) rfl ?_
  refine zg_iconst hC (v := (-1)) dX0_begin_25 (by decide) ?_
  refine zg_callSv hC hE hN (As := [.ref (ad (o + 3)), .int (-1)]) (S := []) rfl (tJ7_fill_53178 (zflag hC) d (hlv 3 (by decide)) (zka3 ho) N (-1) M5) lkX0_45 rfl dX0_begin_26 (Nat.le_of_ble_eq_true rfl) (fun r6 M7 er6 => ?_)
  refine zg_aload_n hC 0 dX0_begin_29 rfl ?_
  refine zg_get hC (k := o) (v := .ref (ad (o + 4))) ffX0_21 dX0_begin_30 (hlv 0 (by decide)) (zka0 ho) rfl ?_
  refine zg_iconst hC (v := 0) dX0_begin_33 (by decide) ?_
  refine zg_callSv hC hE hN (As := [.ref (ad (o + 4)), .int 0]) (S := []) rfl (tJ7_fill_53178 (zflag hC) d (hlv 4 (by decide)) (zka4 ho) N 0 M7) lkX0_45 rfl dX0_begin_34 (Nat.le_of_ble_eq_true rfl) (fun r8 M9 er8 => ?_)
  refine zg_aload_n hC 0 dX0_begin_37 rfl ?_
  refine zg_get hC (k := o) (v := .ref (ad (o + 11))) ffX0_29 dX0_begin_38 (hlv 0 (by decide)) (zka0 ho) rfl ?_
  refine zg_iconst hC (v := 0) dX0_begin_41 (by decide) ?_
  refine zg_callSv hC hE hN (As := [.ref (ad (o + 11)), .int 0]) (S := []) rfl (tJ7_fill_53178 (zflag hC) d (hlv 11 (by decide)) (zka11 ho) N 0 M9) lkX0_45 rfl dX0_begin_42 (Nat.le_of_ble_eq_true rfl) (fun r10 M11 er10 => ?_)
  refine zg_aload_n hC 0 dX0_begin_45 rfl ?_
  refine zg_iconst hC (v := 0) dX0_begin_46 (by decide) ?_
  refine zg_putI hC (k := o) fpX0_51 dX0_begin_47 (hlv 0 (by decide)) (zka0 ho) rfl (fun M12 eM12 => ?_)
  refine zg_aload_n hC 0 dX0_begin_50 rfl ?_
  refine zg_lconst hC (v := 0) dX0_begin_51 (by decide) ?_
  refine zg_putL hC (k := o) fpX0_54 dX0_begin_52 (hlv 0 (by decide)) (zka0 ho) rfl (fun M13 eM13 => ?_)
  refine zg_aload_n hC 0 dX0_begin_55 rfl ?_
  refine zg_lconst hC (v := 0) dX0_begin_56 (by decide) ?_
  refine zg_putL hC (k := o) fpX0_58 dX0_begin_57 (hlv 0 (by decide)) (zka0 ho) rfl (fun M14 eM14 => ?_)
  exact zg_retv hC hE dX0_begin_60
theorem tX0_begin {l : Launch} {Z : zZ} {lv : Nat → Bool} {ad : Nat → Nat} (hl : l.stackTraces = false) (d : Nat) {o : Nat} (ho : o = 1 ∨ o = 15) (hlv : ∀ j, j < 14 → lv (o + j) = true) (N : Nat) (M : zMem) : zT l Z lv ad (.code yX0_begin cX0_begin 1 none) yX0_begin (d + 1) true zbn [.ref (ad o)] M (fX0_begin o N M) :=
  zT_of hl (by decide +kernel) (Nat.le_of_ble_eq_true rfl) (fun X hC hE hN => gX0_begin_B0 hC hE hN ho hlv N M)

def fX3_add (N : Nat) (p1 : Int32) (p2 : Int32) (p3 : Int32) (M : zMem) : zRES :=
  if (512 : Int32) ≤ (M.1 29 0) then
    some (.inl 0, M)
  else
    if zin (M.1 29 0) 512 = true then
    zl (zsI M 30 (M.1 29 0).toNatClampNeg p1) fun M3 =>
    if zin (M3.1 29 0) 512 = true then
    zl (zsI M3 31 (M3.1 29 0).toNatClampNeg p2) fun M5 =>
    if zin (M5.1 29 0) 512 = true then
    zl (zsI M5 32 (M5.1 29 0).toNatClampNeg p3) fun M7 =>
    zl (zsI M7 29 0 ((M7.1 29 0) + 1)) fun M8 =>
    some (.inl 0, M8)
    else none
    else none
    else none
set_option maxRecDepth 20000 in
set_option maxHeartbeats 2000000 in
theorem gX3_add_B0 {l : Launch} {Z : zZ} {ad : Nat → Nat} {d : Nat} {X : zX} {cs : Nat × Nat} (hC : zC l Z zfull ad X RX3 cX3_add 4 none (d + 0)) (hE : zEnd Z zfull ad X true) (hN : zNoX X) (N : Nat) (p1 : Int32) (p2 : Int32) (p3 : Int32) (M : zMem) : zG l Z zfull ad X cs 0 [(0, .ref (ad 29)), (1, .int p1), (2, .int p2), (3, .int p3)] [] M (fX3_add N p1 p2 p3 M) := by
  unfold fX3_add
  refine zg_aload_n hC 0 dX3_add_0 rfl ?_
  refine zg_get hC (k := 29) (v := .int (M.1 29 0)) ffX3_21 dX3_add_1 zq29 zk29 rfl ?_
  refine zg_sipush hC (v := 512) dX3_add_4 (by decide) ?_
  refine zg_icmp_ge hC (tgt := 50) dX3_add_7 (by decide) (fun c1 => ?_) (fun c1 => ?_)
  · exact zg_retv hC hE dX3_add_50
  · refine zg_aload_n hC 0 dX3_add_10 rfl ?_
    refine zg_get hC (k := 29) (v := .ref (ad 30)) ffX3_9 dX3_add_11 zq29 zk29 rfl ?_
    refine zg_aload_n hC 0 dX3_add_14 rfl ?_
    refine zg_get hC (k := 29) (v := .int (M.1 29 0)) ffX3_21 dX3_add_15 zq29 zk29 rfl ?_
    refine zg_iload_n hC 1 dX3_add_18 rfl ?_
    refine zg_iast hC (k := 30) dX3_add_19 zq30 zk30 (fun h2 M3 eM3 => ?_)
    refine zg_aload_n hC 0 dX3_add_20 rfl ?_
    refine zg_get hC (k := 29) (v := .ref (ad 31)) ffX3_15 dX3_add_21 zq29 zk29 rfl ?_
    refine zg_aload_n hC 0 dX3_add_24 rfl ?_
    refine zg_get hC (k := 29) (v := .int (M3.1 29 0)) ffX3_21 dX3_add_25 zq29 zk29 rfl ?_
    refine zg_iload_n hC 2 dX3_add_28 rfl ?_
    refine zg_iast hC (k := 31) dX3_add_29 zq31 zk31 (fun h4 M5 eM5 => ?_)
    refine zg_aload_n hC 0 dX3_add_30 rfl ?_
    refine zg_get hC (k := 29) (v := .ref (ad 32)) ffX3_18 dX3_add_31 zq29 zk29 rfl ?_
    refine zg_aload_n hC 0 dX3_add_34 rfl ?_
    refine zg_get hC (k := 29) (v := .int (M5.1 29 0)) ffX3_21 dX3_add_35 zq29 zk29 rfl ?_
    refine zg_iload_n hC 3 dX3_add_38 rfl ?_
    refine zg_iast hC (k := 32) dX3_add_39 zq32 zk32 (fun h6 M7 eM7 => ?_)
    refine zg_aload_n hC 0 dX3_add_40 rfl ?_
    refine zg_dup hC dX3_add_41 rfl ?_
    refine zg_get hC (k := 29) (v := .int (M7.1 29 0)) ffX3_21 dX3_add_42 zq29 zk29 rfl ?_
    refine zg_iconst hC (v := 1) dX3_add_45 (by decide) ?_
    refine zg_iadd hC dX3_add_46 ?_
    refine zg_putI hC (k := 29) fpX3_21 dX3_add_47 zq29 zk29 rfl (fun M8 eM8 => ?_)
    exact zg_retv hC hE dX3_add_50
theorem tX3_add {l : Launch} {Z : zZ} {ad : Nat → Nat} (hl : l.stackTraces = false) (d : Nat) (N : Nat) (p1 : Int32) (p2 : Int32) (p3 : Int32) (M : zMem) : zT l Z zfull ad (.code yX3_add cX3_add 4 none) yX3_add (d + 0) true zbn [.ref (ad 29), .int p1, .int p2, .int p3] M (fX3_add N p1 p2 p3 M) :=
  zT_of hl (by decide +kernel) (Nat.le_of_ble_eq_true rfl) (fun X hC hE hN => gX3_add_B0 hC hE hN N p1 p2 p3 M)

def fJ6_bitCount_0f7a4 (N : Nat) (p1 : Int32) (M : zMem) : zRES :=
  zv (p1 - (((p1.toUInt32 >>> ((1 : Int32).toUInt32 &&& Int32.toUInt32 31)).toInt32) &&& 1431655765)) fun x1 =>
  zv ((x1 &&& 858993459) + (((x1.toUInt32 >>> ((2 : Int32).toUInt32 &&& Int32.toUInt32 31)).toInt32) &&& 858993459)) fun x2 =>
  zv ((x2 + ((x2.toUInt32 >>> ((4 : Int32).toUInt32 &&& Int32.toUInt32 31)).toInt32)) &&& 252645135) fun x3 =>
  zv (x3 + ((x3.toUInt32 >>> ((8 : Int32).toUInt32 &&& Int32.toUInt32 31)).toInt32)) fun x4 =>
  zv (x4 + ((x4.toUInt32 >>> ((16 : Int32).toUInt32 &&& Int32.toUInt32 31)).toInt32)) fun x5 =>
  some (.inl (x5 &&& 63), M)
set_option maxRecDepth 20000 in
set_option maxHeartbeats 2000000 in
theorem gJ6_bitCount_0f7a4_B0 {l : Launch} {Z : zZ} {lv : Nat → Bool} {ad : Nat → Nat} {d : Nat} {X : zX} {cs : Nat × Nat} (hC : zC l Z lv ad X RJ6 cJ6_bitCount_0f7a4 1 (some .int) (d + 0)) (hE : zEnd Z lv ad X false) (hN : zNoX X) (N : Nat) (p1 : Int32) (M : zMem) : zG l Z lv ad X cs 0 [(0, .int p1)] [] M (fJ6_bitCount_0f7a4 N p1 M) := by
  unfold fJ6_bitCount_0f7a4
  refine zg_iload_n hC 0 dJ6_bitCount_0f7a4_0 rfl ?_
  refine zg_iload_n hC 0 dJ6_bitCount_0f7a4_1 rfl ?_
  refine zg_iconst hC (v := 1) dJ6_bitCount_0f7a4_2 (by decide) ?_
  refine zg_iushr hC dJ6_bitCount_0f7a4_3 ?_
  refine zg_ldcw hC (v := 1431655765) dJ6_bitCount_0f7a4_4 kcJ6_265 ?_
  refine zg_iand hC dJ6_bitCount_0f7a4_7 ?_
  refine zg_isub hC dJ6_bitCount_0f7a4_8 ?_
  refine zg_nm (fun x1 ex1 => ?_)
  refine zg_istore_n hC (L' := [(0, _)]) dJ6_bitCount_0f7a4_9 (by decide) rfl ?_
  refine zg_iload_n hC 0 dJ6_bitCount_0f7a4_10 rfl ?_
  refine zg_ldcw hC (v := 858993459) dJ6_bitCount_0f7a4_11 kcJ6_266 ?_
  refine zg_iand hC dJ6_bitCount_0f7a4_14 ?_
  refine zg_iload_n hC 0 dJ6_bitCount_0f7a4_15 rfl ?_
  refine zg_iconst hC (v := 2) dJ6_bitCount_0f7a4_16 (by decide) ?_
  refine zg_iushr hC dJ6_bitCount_0f7a4_17 ?_
  refine zg_ldcw hC (v := 858993459) dJ6_bitCount_0f7a4_18 kcJ6_266 ?_
  refine zg_iand hC dJ6_bitCount_0f7a4_21 ?_
  refine zg_iadd hC dJ6_bitCount_0f7a4_22 ?_
  refine zg_nm (fun x2 ex2 => ?_)
  refine zg_istore_n hC (L' := [(0, _)]) dJ6_bitCount_0f7a4_23 (by decide) rfl ?_
  refine zg_iload_n hC 0 dJ6_bitCount_0f7a4_24 rfl ?_
  refine zg_iload_n hC 0 dJ6_bitCount_0f7a4_25 rfl ?_
  refine zg_iconst hC (v := 4) dJ6_bitCount_0f7a4_26 (by decide) ?_
  refine zg_iushr hC dJ6_bitCount_0f7a4_27 ?_
  refine zg_iadd hC dJ6_bitCount_0f7a4_28 ?_
  refine zg_ldcw hC (v := 252645135) dJ6_bitCount_0f7a4_29 kcJ6_267 ?_
  refine zg_iand hC dJ6_bitCount_0f7a4_32 ?_
  refine zg_nm (fun x3 ex3 => ?_)
  refine zg_istore_n hC (L' := [(0, _)]) dJ6_bitCount_0f7a4_33 (by decide) rfl ?_
  refine zg_iload_n hC 0 dJ6_bitCount_0f7a4_34 rfl ?_
  refine zg_iload_n hC 0 dJ6_bitCount_0f7a4_35 rfl ?_
  refine zg_bipush hC (v := 8) dJ6_bitCount_0f7a4_36 (by decide) ?_
  refine zg_iushr hC dJ6_bitCount_0f7a4_38 ?_
  refine zg_iadd hC dJ6_bitCount_0f7a4_39 ?_
  refine zg_nm (fun x4 ex4 => ?_)
  refine zg_istore_n hC (L' := [(0, _)]) dJ6_bitCount_0f7a4_40 (by decide) rfl ?_
  refine zg_iload_n hC 0 dJ6_bitCount_0f7a4_41 rfl ?_
  refine zg_iload_n hC 0 dJ6_bitCount_0f7a4_42 rfl ?_
  refine zg_bipush hC (v := 16) dJ6_bitCount_0f7a4_43 (by decide) ?_
  refine zg_iushr hC dJ6_bitCount_0f7a4_45 ?_
  refine zg_iadd hC dJ6_bitCount_0f7a4_46 ?_
  refine zg_nm (fun x5 ex5 => ?_)
  refine zg_istore_n hC (L' := [(0, _)]) dJ6_bitCount_0f7a4_47 (by decide) rfl ?_
  refine zg_iload_n hC 0 dJ6_bitCount_0f7a4_48 rfl ?_
  refine zg_bipush hC (v := 63) dJ6_bitCount_0f7a4_49 (by decide) ?_
  refine zg_iand hC dJ6_bitCount_0f7a4_51 ?_
  exact zg_ret hC hE dJ6_bitCount_0f7a4_52
theorem tJ6_bitCount_0f7a4 {l : Launch} {Z : zZ} {lv : Nat → Bool} {ad : Nat → Nat} (hl : l.stackTraces = false) (d : Nat) (N : Nat) (p1 : Int32) (M : zMem) : zT l Z lv ad (.code yJ6_bitCount_0f7a4 cJ6_bitCount_0f7a4 1 (some .int)) yJ6_bitCount_0f7a4 (d + 0) false zbn [.int p1] M (fJ6_bitCount_0f7a4 N p1 M) :=
  zT_of hl (by decide +kernel) (Nat.le_of_ble_eq_true rfl) (fun X hC hE hN => gJ6_bitCount_0f7a4_B0 hC hE hN N p1 M)

def fX0_becomeCandidate (o : Nat) (N : Nat) (p1 : Int32) (M : zMem) : zRES :=
  if zin p1 5 = true then
  if zin p1 5 = true then
  zl (zsI M (o + 1) p1.toNatClampNeg ((M.1 (o + 1) p1.toNatClampNeg) + 1)) fun M3 =>
  if zin p1 5 = true then
  zl (zsI M3 (o + 2) p1.toNatClampNeg 1) fun M5 =>
  if zin p1 5 = true then
  zl (zsI M5 (o + 3) p1.toNatClampNeg p1) fun M7 =>
  if zin p1 5 = true then
  zl (zsI M7 (o + 4) p1.toNatClampNeg ((1 : Int32) <<< (p1 &&& 31))) fun M9 =>
  some (.inl 0, M9)
  else none
  else none
  else none
  else none
  else none
set_option maxRecDepth 20000 in
set_option maxHeartbeats 2000000 in
theorem gX0_becomeCandidate_B0 {l : Launch} {Z : zZ} {lv : Nat → Bool} {ad : Nat → Nat} {d : Nat} {X : zX} {cs : Nat × Nat} (hC : zC l Z lv ad X RX0 cX0_becomeCandidate 2 none (d + 0)) (hE : zEnd Z lv ad X true) (hN : zNoX X) {o : Nat} (ho : o = 1 ∨ o = 15) (hlv : ∀ j, j < 14 → lv (o + j) = true) (N : Nat) (p1 : Int32) (M : zMem) : zG l Z lv ad X cs 0 [(0, .ref (ad o)), (1, .int p1)] [] M (fX0_becomeCandidate o N p1 M) := by
  unfold fX0_becomeCandidate
  refine zg_aload_n hC 0 dX0_becomeCandidate_0 rfl ?_
  refine zg_get hC (k := o) (v := .ref (ad (o + 1))) ffX0_9 dX0_becomeCandidate_1 (hlv 0 (by decide)) (zka0 ho) rfl ?_
  refine zg_iload_n hC 1 dX0_becomeCandidate_4 rfl ?_
  refine zg_dup2_11 hC dX0_becomeCandidate_5 rfl rfl ?_
  refine zg_iald hC (k := (o + 1)) dX0_becomeCandidate_6 (hlv 1 (by decide)) (zka1 ho) (fun h1 => ?_)
  refine zg_iconst hC (v := 1) dX0_becomeCandidate_7 (by decide) ?_
  refine zg_iadd hC dX0_becomeCandidate_8 ?_
  refine zg_iast hC (k := (o + 1)) dX0_becomeCandidate_9 (hlv 1 (by decide)) (zka1 ho) (fun h2 M3 eM3 => ?_)
  refine zg_aload_n hC 0 dX0_becomeCandidate_10 rfl ?_
  refine zg_get hC (k := o) (v := .ref (ad (o + 2))) ffX0_15 dX0_becomeCandidate_11 (hlv 0 (by decide)) (zka0 ho) rfl ?_
  refine zg_iload_n hC 1 dX0_becomeCandidate_14 rfl ?_
  refine zg_iconst hC (v := 1) dX0_becomeCandidate_15 (by decide) ?_
  refine zg_iast hC (k := (o + 2)) dX0_becomeCandidate_16 (hlv 2 (by decide)) (zka2 ho) (fun h4 M5 eM5 => ?_)
  refine zg_aload_n hC 0 dX0_becomeCandidate_17 rfl ?_
  refine zg_get hC (k := o) (v := .ref (ad (o + 3))) ffX0_18 dX0_becomeCandidate_18 (hlv 0 (by decide)) (zka0 ho) rfl ?_
  refine zg_iload_n hC 1 dX0_becomeCandidate_21 rfl ?_
  refine zg_iload_n hC 1 dX0_becomeCandidate_22 rfl ?_
  refine zg_iast hC (k := (o + 3)) dX0_becomeCandidate_23 (hlv 3 (by decide)) (zka3 ho) (fun h6 M7 eM7 => ?_)
  refine zg_aload_n hC 0 dX0_becomeCandidate_24 rfl ?_
  refine zg_get hC (k := o) (v := .ref (ad (o + 4))) ffX0_21 dX0_becomeCandidate_25 (hlv 0 (by decide)) (zka0 ho) rfl ?_
  refine zg_iload_n hC 1 dX0_becomeCandidate_28 rfl ?_
  refine zg_iconst hC (v := 1) dX0_becomeCandidate_29 (by decide) ?_
  refine zg_iload_n hC 1 dX0_becomeCandidate_30 rfl ?_
  refine zg_ishl hC dX0_becomeCandidate_31 ?_
  refine zg_iast hC (k := (o + 4)) dX0_becomeCandidate_32 (hlv 4 (by decide)) (zka4 ho) (fun h8 M9 eM9 => ?_)
  exact zg_retv hC hE dX0_becomeCandidate_33
theorem tX0_becomeCandidate {l : Launch} {Z : zZ} {lv : Nat → Bool} {ad : Nat → Nat} (hl : l.stackTraces = false) (d : Nat) {o : Nat} (ho : o = 1 ∨ o = 15) (hlv : ∀ j, j < 14 → lv (o + j) = true) (N : Nat) (p1 : Int32) (M : zMem) : zT l Z lv ad (.code yX0_becomeCandidate cX0_becomeCandidate 2 none) yX0_becomeCandidate (d + 0) true zbn [.ref (ad o), .int p1] M (fX0_becomeCandidate o N p1 M) :=
  zT_of hl (by decide +kernel) (Nat.le_of_ble_eq_true rfl) (fun X hC hE hN => gX0_becomeCandidate_B0 hC hE hN ho hlv N p1 M)

def fX7_contains (N : Nat) (p1 : Int64) (p2 : Int32) (M : zMem) : zRES :=
  if (lg_cmp (((p1.toUInt64 >>> (p2.toInt64.toUInt64 &&& Int64.toUInt64 63)).toInt64) &&& 1) 0) = 0 then
    some (.inl 0, M)
  else
    some (.inl 1, M)
set_option maxRecDepth 20000 in
set_option maxHeartbeats 2000000 in
theorem gX7_contains_B0 {l : Launch} {Z : zZ} {lv : Nat → Bool} {ad : Nat → Nat} {d : Nat} {X : zX} {cs : Nat × Nat} (hC : zC l Z lv ad X RX7 cX7_contains 3 (some .boolean) (d + 0)) (hE : zEnd Z lv ad X false) (hN : zNoX X) (N : Nat) (p1 : Int64) (p2 : Int32) (M : zMem) : zG l Z lv ad X cs 0 [(0, .long p1), (2, .int p2)] [] M (fX7_contains N p1 p2 M) := by
  unfold fX7_contains
  refine zg_lload_n hC 0 dX7_contains_0 rfl ?_
  refine zg_iload_n hC 1 dX7_contains_1 rfl ?_
  refine zg_lushr hC dX7_contains_2 ?_
  refine zg_lconst hC (v := 1) dX7_contains_3 (by decide) ?_
  refine zg_land hC dX7_contains_4 ?_
  refine zg_lconst hC (v := 0) dX7_contains_5 (by decide) ?_
  refine zg_lcmp hC dX7_contains_6 ?_
  refine zg_if_eq hC (tgt := 14) dX7_contains_7 (by decide) (fun c1 => ?_) (fun c1 => ?_)
  · refine zg_iconst hC (v := 0) dX7_contains_14 (by decide) ?_
    exact zg_retz hC hE (by decide) dX7_contains_15
  · refine zg_iconst hC (v := 1) dX7_contains_10 (by decide) ?_
    refine zg_goto hC (tgt := 15) dX7_contains_11 (by decide) ?_
    exact zg_retz hC hE (by decide) dX7_contains_15
theorem tX7_contains {l : Launch} {Z : zZ} {lv : Nat → Bool} {ad : Nat → Nat} (hl : l.stackTraces = false) (d : Nat) (N : Nat) (p1 : Int64) (p2 : Int32) (M : zMem) : zT l Z lv ad (.code yX7_contains cX7_contains 3 (some .boolean)) yX7_contains (d + 0) false zbn [.long p1, .int p2] M (fX7_contains N p1 p2 M) :=
  zT_of hl (by decide +kernel) (Nat.le_of_ble_eq_true rfl) (fun X hC hE hN => gX7_contains_B0 hC hE hN N p1 p2 M)
theorem nX7_contains (N : Nat) (p1 : Int64) (p2 : Int32) (M : zMem) : ∀ r, fX7_contains N p1 p2 M = some r → ∃ v, r.1 = .inl v := by
  intro r h
  unfold fX7_contains at h
  split at h <;> (cases h; exact ⟨_, rfl⟩)

def fX0_areTogether (o : Nat) (N : Nat) (p1 : Int32) (p2 : Int32) (M : zMem) : zRES :=
  zb (fX7_contains N ((M.1 o 0).toInt64) p1 M) fun r1 M2 =>
  zb (fX7_contains N ((M2.1 o 0).toInt64) p2 M2) fun r3 M4 =>
  if r1 = r3 then
    some (.inl 1, M4)
  else
    some (.inl 0, M4)
set_option maxRecDepth 20000 in
set_option maxHeartbeats 2000000 in
theorem gX0_areTogether_B0 {l : Launch} {Z : zZ} {lv : Nat → Bool} {ad : Nat → Nat} {d : Nat} {X : zX} {cs : Nat × Nat} (hC : zC l Z lv ad X RX0 cX0_areTogether 3 (some .boolean) (d + 1)) (hE : zEnd Z lv ad X false) (hN : zNoX X) {o : Nat} (ho : o = 1 ∨ o = 15) (hlv : ∀ j, j < 14 → lv (o + j) = true) (N : Nat) (p1 : Int32) (p2 : Int32) (M : zMem) : zG l Z lv ad X cs 0 [(0, .ref (ad o)), (1, .int p1), (2, .int p2)] [] M (fX0_areTogether o N p1 p2 M) := by
  unfold fX0_areTogether
  refine zg_aload_n hC 0 dX0_areTogether_0 rfl ?_
  refine zg_get hC (k := o) (v := .int (M.1 o 0)) ffX0_41 dX0_areTogether_1 (hlv 0 (by decide)) (zka0 ho) rfl ?_
  refine zg_i2l hC dX0_areTogether_4 ?_
  refine zg_iload_n hC 1 dX0_areTogether_5 rfl ?_
  refine zg_callNi hC hE hN (nX7_contains N ((M.1 o 0).toInt64) p1 M) (As := [.long ((M.1 o 0).toInt64), .int p1]) (S := []) rfl (tX7_contains (zflag hC) d N ((M.1 o 0).toInt64) p1 M) lkX0_61 rfl dX0_areTogether_6 (Nat.le_of_ble_eq_true rfl) (fun r1 M2 er1 => ?_)
  refine zg_aload_n hC 0 dX0_areTogether_9 rfl ?_
  refine zg_get hC (k := o) (v := .int (M2.1 o 0)) ffX0_41 dX0_areTogether_10 (hlv 0 (by decide)) (zka0 ho) rfl ?_
  refine zg_i2l hC dX0_areTogether_13 ?_
  refine zg_iload_n hC 2 dX0_areTogether_14 rfl ?_
  refine zg_callNi hC hE hN (nX7_contains N ((M2.1 o 0).toInt64) p2 M2) (As := [.long ((M2.1 o 0).toInt64), .int p2]) (S := [.int r1]) rfl (tX7_contains (zflag hC) d N ((M2.1 o 0).toInt64) p2 M2) lkX0_61 rfl dX0_areTogether_15 (Nat.le_of_ble_eq_true rfl) (fun r3 M4 er3 => ?_)
  refine zg_icmp_ne hC (tgt := 25) dX0_areTogether_18 (by decide) (fun c5 => ?_) (fun c5 => ?_)
  · refine zg_iconst hC (v := 1) dX0_areTogether_21 (by decide) ?_
    refine zg_goto hC (tgt := 26) dX0_areTogether_22 (by decide) ?_
    exact zg_retz hC hE (by decide) dX0_areTogether_26
  · refine zg_iconst hC (v := 0) dX0_areTogether_25 (by decide) ?_
    exact zg_retz hC hE (by decide) dX0_areTogether_26
theorem tX0_areTogether {l : Launch} {Z : zZ} {lv : Nat → Bool} {ad : Nat → Nat} (hl : l.stackTraces = false) (d : Nat) {o : Nat} (ho : o = 1 ∨ o = 15) (hlv : ∀ j, j < 14 → lv (o + j) = true) (N : Nat) (p1 : Int32) (p2 : Int32) (M : zMem) : zT l Z lv ad (.code yX0_areTogether cX0_areTogether 3 (some .boolean)) yX0_areTogether (d + 1) false zbn [.ref (ad o), .int p1, .int p2] M (fX0_areTogether o N p1 p2 M) :=
  zT_of hl (by decide +kernel) (Nat.le_of_ble_eq_true rfl) (fun X hC hE hN => gX0_areTogether_B0 hC hE hN ho hlv N p1 p2 M)

def fX4_slotAt (N : Nat) (p1 : Int32) (p2 : Int32) (M : zMem) : zRES :=
  if zin p1 5 = true then
  if zin (p2 - p2 / 51 * 51) 51 = true then
  some (.inl (M.1 (46 + 1 + p1.toNatClampNeg) (p2 - p2 / 51 * 51).toNatClampNeg), M)
  else none
  else none
set_option maxRecDepth 20000 in
set_option maxHeartbeats 2000000 in
theorem gX4_slotAt_B0 {l : Launch} {Z : zZ} {ad : Nat → Nat} {d : Nat} {X : zX} {cs : Nat × Nat} (hC : zC l Z zfull ad X RX4 cX4_slotAt 3 (some .int) (d + 0)) (hE : zEnd Z zfull ad X false) (hN : zNoX X) (N : Nat) (p1 : Int32) (p2 : Int32) (M : zMem) : zG l Z zfull ad X cs 0 [(0, .ref (ad 45)), (1, .int p1), (2, .int p2)] [] M (fX4_slotAt N p1 p2 M) := by
  unfold fX4_slotAt
  refine zg_aload_n hC 0 dX4_slotAt_0 rfl ?_
  refine zg_get hC (k := 45) (v := .ref (ad 46)) ffX4_11 dX4_slotAt_1 zq45 zk45 rfl ?_
  refine zg_iload_n hC 1 dX4_slotAt_4 rfl ?_
  refine zg_aald hC (k := 46) dX4_slotAt_5 zq46 zk46 (fun h1 => ?_)
  refine zg_iload_n hC 2 dX4_slotAt_6 rfl ?_
  refine zg_bipush hC (v := 51) dX4_slotAt_7 (by decide) ?_
  refine zg_irem hC dX4_slotAt_9 (by decide) ?_
  refine zg_iald hC (k := (46 + 1 + p1.toNatClampNeg)) dX4_slotAt_10 (zrq46 (zin_lt h1)) (zrk46 (zin_lt h1)) (fun h2 => ?_)
  exact zg_ret hC hE dX4_slotAt_11
theorem tX4_slotAt {l : Launch} {Z : zZ} {ad : Nat → Nat} (hl : l.stackTraces = false) (d : Nat) (N : Nat) (p1 : Int32) (p2 : Int32) (M : zMem) : zT l Z zfull ad (.code yX4_slotAt cX4_slotAt 3 (some .int)) yX4_slotAt (d + 0) false zbn [.ref (ad 45), .int p1, .int p2] M (fX4_slotAt N p1 p2 M) :=
  zT_of hl (by decide +kernel) (Nat.le_of_ble_eq_true rfl) (fun X hC hE hN => gX4_slotAt_B0 hC hE hN N p1 p2 M)

def fX2_takeFirst_B34 (N : Nat) : Nat → Int32 → Int32 → Int32 → Int32 → zMem → zRES
  | 0, _, _, _, _, _ => none
  | n + 1, v1, v2, v3, v4, M =>
  if zin v1 5 = true then
  if (M.1 44 v1.toNatClampNeg) ≤ v4 then
    if zin v1 5 = true then
    if zin v1 5 = true then
    zl (zsI M 44 v1.toNatClampNeg ((M.1 44 v1.toNatClampNeg) - v2)) fun M9 =>
    some (.inl v3, M9)
    else none
    else none
  else
    if zin v1 5 = true then
    if zin v1 5 = true then
    if zin v4 200 = true then
    if zin (v4 - v2) 200 = true then
    zl (zsI M (38 + 1 + v1.toNatClampNeg) (v4 - v2).toNatClampNeg (M.1 (38 + 1 + v1.toNatClampNeg) v4.toNatClampNeg)) fun M14 =>
    fX2_takeFirst_B34 N n v1 v2 v3 (v4 + 1) M14
    else none
    else none
    else none
    else none
  else none
def fX2_takeFirst_B5 (N : Nat) : Nat → Int32 → Int32 → Int32 → Int32 → zMem → zRES
  | 0, _, _, _, _, _ => none
  | n + 1, v1, v2, v3, v4, M =>
  if v2 ≤ v4 then
    fX2_takeFirst_B34 N N v1 v2 v3 v2 M
  else
    if zin v1 5 = true then
    if zin v4 200 = true then
    zv (v3 ||| ((1 : Int32) <<< ((M.1 (38 + 1 + v1.toNatClampNeg) v4.toNatClampNeg) &&& 31))) fun x4 =>
    fX2_takeFirst_B5 N n v1 v2 x4 (v4 + 1) M
    else none
    else none
def fX2_takeFirst (N : Nat) (p1 : Int32) (p2 : Int32) (M : zMem) : zRES :=
  fX2_takeFirst_B5 N N p1 p2 0 0 M
set_option maxRecDepth 20000 in
set_option maxHeartbeats 2000000 in
theorem gX2_takeFirst_B34 {l : Launch} {Z : zZ} {ad : Nat → Nat} {d : Nat} {X : zX} {cs : Nat × Nat} (hC : zC l Z zfull ad X RX2 cX2_takeFirst 5 (some .int) (d + 0)) (hE : zEnd Z zfull ad X false) (hN : zNoX X) (N : Nat) : ∀ (n : Nat) (v1 : Int32) (v2 : Int32) (v3 : Int32) (v4 : Int32) (M : zMem), zG l Z zfull ad X cs 34 [(0, .ref (ad 37)), (1, .int v1), (2, .int v2), (3, .int v3), (4, .int v4)] [] M (fX2_takeFirst_B34 N n v1 v2 v3 v4 M) := by
  intro n
  induction n with
  | zero =>
    intro v1 v2 v3 v4 M
    exact zg_none
  | succ n ih =>
  intro v1 v2 v3 v4 M
  rw [fX2_takeFirst_B34]
  refine zg_iload hC 4 dX2_takeFirst_34 rfl ?_
  refine zg_aload_n hC 0 dX2_takeFirst_36 rfl ?_
  refine zg_get hC (k := 37) (v := .ref (ad 44)) ffX2_16 dX2_takeFirst_37 zq37 zk37 rfl ?_
  refine zg_iload_n hC 1 dX2_takeFirst_40 rfl ?_
  refine zg_iald hC (k := 44) dX2_takeFirst_41 zq44 zk44 (fun h5 => ?_)
  refine zg_icmp_ge hC (tgt := 71) dX2_takeFirst_42 (by decide) (fun c6 => ?_) (fun c6 => ?_)
  · refine zg_aload_n hC 0 dX2_takeFirst_71 rfl ?_
    refine zg_get hC (k := 37) (v := .ref (ad 44)) ffX2_16 dX2_takeFirst_72 zq37 zk37 rfl ?_
    refine zg_iload_n hC 1 dX2_takeFirst_75 rfl ?_
    refine zg_dup2_11 hC dX2_takeFirst_76 rfl rfl ?_
    refine zg_iald hC (k := 44) dX2_takeFirst_77 zq44 zk44 (fun h7 => ?_)
    refine zg_iload_n hC 2 dX2_takeFirst_78 rfl ?_
    refine zg_isub hC dX2_takeFirst_79 ?_
    refine zg_iast hC (k := 44) dX2_takeFirst_80 zq44 zk44 (fun h8 M9 eM9 => ?_)
    refine zg_iload_n hC 3 dX2_takeFirst_81 rfl ?_
    exact zg_ret hC hE dX2_takeFirst_82
  · refine zg_aload_n hC 0 dX2_takeFirst_45 rfl ?_
    refine zg_get hC (k := 37) (v := .ref (ad 38)) ffX2_11 dX2_takeFirst_46 zq37 zk37 rfl ?_
    refine zg_iload_n hC 1 dX2_takeFirst_49 rfl ?_
    refine zg_aald hC (k := 38) dX2_takeFirst_50 zq38 zk38 (fun h10 => ?_)
    refine zg_iload hC 4 dX2_takeFirst_51 rfl ?_
    refine zg_iload_n hC 2 dX2_takeFirst_53 rfl ?_
    refine zg_isub hC dX2_takeFirst_54 ?_
    refine zg_aload_n hC 0 dX2_takeFirst_55 rfl ?_
    refine zg_get hC (k := 37) (v := .ref (ad 38)) ffX2_11 dX2_takeFirst_56 zq37 zk37 rfl ?_
    refine zg_iload_n hC 1 dX2_takeFirst_59 rfl ?_
    refine zg_aald hC (k := 38) dX2_takeFirst_60 zq38 zk38 (fun h11 => ?_)
    refine zg_iload hC 4 dX2_takeFirst_61 rfl ?_
    refine zg_iald hC (k := (38 + 1 + v1.toNatClampNeg)) dX2_takeFirst_63 (zrq38 (zin_lt h11)) (zrk38 (zin_lt h11)) (fun h12 => ?_)
    refine zg_iast hC (k := (38 + 1 + v1.toNatClampNeg)) dX2_takeFirst_64 (zrq38 (zin_lt h10)) (zrk38 (zin_lt h10)) (fun h13 M14 eM14 => ?_)
    refine zg_iinc hC 4 (v := v4 + 1) (L' := [(4, _), (0, _), (1, _), (2, _), (3, _)]) dX2_takeFirst_65 rfl (by rfl) (by decide) rfl ?_
    refine zg_goto hC (tgt := 34) dX2_takeFirst_68 (by decide) ?_
    exact zg_sub [1, 2, 3, 4, 0] rfl (ih v1 v2 v3 (v4 + 1) M14)
set_option maxRecDepth 20000 in
set_option maxHeartbeats 2000000 in
theorem gX2_takeFirst_B5 {l : Launch} {Z : zZ} {ad : Nat → Nat} {d : Nat} {X : zX} {cs : Nat × Nat} (hC : zC l Z zfull ad X RX2 cX2_takeFirst 5 (some .int) (d + 0)) (hE : zEnd Z zfull ad X false) (hN : zNoX X) (N : Nat) : ∀ (n : Nat) (v1 : Int32) (v2 : Int32) (v3 : Int32) (v4 : Int32) (M : zMem), zG l Z zfull ad X cs 5 [(0, .ref (ad 37)), (1, .int v1), (2, .int v2), (3, .int v3), (4, .int v4)] [] M (fX2_takeFirst_B5 N n v1 v2 v3 v4 M) := by
  intro n
  induction n with
  | zero =>
    intro v1 v2 v3 v4 M
    exact zg_none
  | succ n ih =>
  intro v1 v2 v3 v4 M
  rw [fX2_takeFirst_B5]
  refine zg_iload hC 4 dX2_takeFirst_5 rfl ?_
  refine zg_iload_n hC 2 dX2_takeFirst_7 rfl ?_
  refine zg_icmp_ge hC (tgt := 31) dX2_takeFirst_8 (by decide) (fun c1 => ?_) (fun c1 => ?_)
  · refine zg_iload_n hC 2 dX2_takeFirst_31 rfl ?_
    refine zg_istore hC (L' := [(4, _), (0, _), (1, _), (2, _), (3, _)]) dX2_takeFirst_32 (by decide) rfl ?_
    exact zg_sub [1, 2, 3, 4, 0] rfl (gX2_takeFirst_B34 hC hE hN N N v1 v2 v3 v2 M)
  · refine zg_iload_n hC 3 dX2_takeFirst_11 rfl ?_
    refine zg_iconst hC (v := 1) dX2_takeFirst_12 (by decide) ?_
    refine zg_aload_n hC 0 dX2_takeFirst_13 rfl ?_
    refine zg_get hC (k := 37) (v := .ref (ad 38)) ffX2_11 dX2_takeFirst_14 zq37 zk37 rfl ?_
    refine zg_iload_n hC 1 dX2_takeFirst_17 rfl ?_
    refine zg_aald hC (k := 38) dX2_takeFirst_18 zq38 zk38 (fun h2 => ?_)
    refine zg_iload hC 4 dX2_takeFirst_19 rfl ?_
    refine zg_iald hC (k := (38 + 1 + v1.toNatClampNeg)) dX2_takeFirst_21 (zrq38 (zin_lt h2)) (zrk38 (zin_lt h2)) (fun h3 => ?_)
    refine zg_ishl hC dX2_takeFirst_22 ?_
    refine zg_ior hC dX2_takeFirst_23 ?_
    refine zg_nm (fun x4 ex4 => ?_)
    refine zg_istore_n hC (L' := [(3, _), (0, _), (1, _), (2, _), (4, _)]) dX2_takeFirst_24 (by decide) rfl ?_
    refine zg_iinc hC 4 (v := v4 + 1) (L' := [(4, _), (3, _), (0, _), (1, _), (2, _)]) dX2_takeFirst_25 rfl (by rfl) (by decide) rfl ?_
    refine zg_goto hC (tgt := 5) dX2_takeFirst_28 (by decide) ?_
    exact zg_sub [2, 3, 4, 1, 0] rfl (ih v1 v2 x4 (v4 + 1) M)
set_option maxRecDepth 20000 in
set_option maxHeartbeats 2000000 in
theorem gX2_takeFirst_B0 {l : Launch} {Z : zZ} {ad : Nat → Nat} {d : Nat} {X : zX} {cs : Nat × Nat} (hC : zC l Z zfull ad X RX2 cX2_takeFirst 5 (some .int) (d + 0)) (hE : zEnd Z zfull ad X false) (hN : zNoX X) (N : Nat) (p1 : Int32) (p2 : Int32) (M : zMem) : zG l Z zfull ad X cs 0 [(0, .ref (ad 37)), (1, .int p1), (2, .int p2)] [] M (fX2_takeFirst N p1 p2 M) := by
  unfold fX2_takeFirst
  refine zg_iconst hC (v := 0) dX2_takeFirst_0 (by decide) ?_
  refine zg_istore_n hC (L' := [(3, _), (0, _), (1, _), (2, _)]) dX2_takeFirst_1 (by decide) rfl ?_
  refine zg_iconst hC (v := 0) dX2_takeFirst_2 (by decide) ?_
  refine zg_istore hC (L' := [(4, _), (3, _), (0, _), (1, _), (2, _)]) dX2_takeFirst_3 (by decide) rfl ?_
  exact zg_sub [2, 3, 4, 1, 0] rfl (gX2_takeFirst_B5 hC hE hN N N p1 p2 0 0 M)
theorem tX2_takeFirst {l : Launch} {Z : zZ} {ad : Nat → Nat} (hl : l.stackTraces = false) (d : Nat) (N : Nat) (p1 : Int32) (p2 : Int32) (M : zMem) : zT l Z zfull ad (.code yX2_takeFirst cX2_takeFirst 5 (some .int)) yX2_takeFirst (d + 0) false zbn [.ref (ad 37), .int p1, .int p2] M (fX2_takeFirst N p1 p2 M) :=
  zT_of hl (by decide +kernel) (Nat.le_of_ble_eq_true rfl) (fun X hC hE hN => gX2_takeFirst_B0 hC hE hN N p1 p2 M)

def fX1_add (N : Nat) (p1 : Int32) (p2 : Int32) (p3 : Int32) (M : zMem) : zRES :=
  if zin (M.1 53 0) 60 = true then
  zl (zsI M 54 (M.1 53 0).toNatClampNeg p1) fun M2 =>
  if zin (M2.1 53 0) 60 = true then
  zl (zsI M2 55 (M2.1 53 0).toNatClampNeg p2) fun M4 =>
  if zin (M4.1 53 0) 60 = true then
  zl (zsI M4 56 (M4.1 53 0).toNatClampNeg p3) fun M6 =>
  if zin (M6.1 53 0) 60 = true then
  zl (zsI M6 57 (M6.1 53 0).toNatClampNeg 0) fun M8 =>
  zl (zsI M8 53 0 ((M8.1 53 0) + 1)) fun M9 =>
  some (.inl 0, M9)
  else none
  else none
  else none
  else none
set_option maxRecDepth 20000 in
set_option maxHeartbeats 2000000 in
theorem gX1_add_B0 {l : Launch} {Z : zZ} {ad : Nat → Nat} {d : Nat} {X : zX} {cs : Nat × Nat} (hC : zC l Z zfull ad X RX1 cX1_add 4 none (d + 0)) (hE : zEnd Z zfull ad X true) (hN : zNoX X) (N : Nat) (p1 : Int32) (p2 : Int32) (p3 : Int32) (M : zMem) : zG l Z zfull ad X cs 0 [(0, .ref (ad 53)), (1, .int p1), (2, .int p2), (3, .int p3)] [] M (fX1_add N p1 p2 p3 M) := by
  unfold fX1_add
  refine zg_aload_n hC 0 dX1_add_0 rfl ?_
  refine zg_get hC (k := 53) (v := .ref (ad 54)) ffX1_9 dX1_add_1 zq53 zk53 rfl ?_
  refine zg_aload_n hC 0 dX1_add_4 rfl ?_
  refine zg_get hC (k := 53) (v := .int (M.1 53 0)) ffX1_24 dX1_add_5 zq53 zk53 rfl ?_
  refine zg_iload_n hC 1 dX1_add_8 rfl ?_
  refine zg_iast hC (k := 54) dX1_add_9 zq54 zk54 (fun h1 M2 eM2 => ?_)
  refine zg_aload_n hC 0 dX1_add_10 rfl ?_
  refine zg_get hC (k := 53) (v := .ref (ad 55)) ffX1_15 dX1_add_11 zq53 zk53 rfl ?_
  refine zg_aload_n hC 0 dX1_add_14 rfl ?_
  refine zg_get hC (k := 53) (v := .int (M2.1 53 0)) ffX1_24 dX1_add_15 zq53 zk53 rfl ?_
  refine zg_iload_n hC 2 dX1_add_18 rfl ?_
  refine zg_iast hC (k := 55) dX1_add_19 zq55 zk55 (fun h3 M4 eM4 => ?_)
  refine zg_aload_n hC 0 dX1_add_20 rfl ?_
  refine zg_get hC (k := 53) (v := .ref (ad 56)) ffX1_18 dX1_add_21 zq53 zk53 rfl ?_
  refine zg_aload_n hC 0 dX1_add_24 rfl ?_
  refine zg_get hC (k := 53) (v := .int (M4.1 53 0)) ffX1_24 dX1_add_25 zq53 zk53 rfl ?_
  refine zg_iload_n hC 3 dX1_add_28 rfl ?_
  refine zg_iast hC (k := 56) dX1_add_29 zq56 zk56 (fun h5 M6 eM6 => ?_)
  refine zg_aload_n hC 0 dX1_add_30 rfl ?_
  refine zg_get hC (k := 53) (v := .ref (ad 57)) ffX1_21 dX1_add_31 zq53 zk53 rfl ?_
  refine zg_aload_n hC 0 dX1_add_34 rfl ?_
  refine zg_get hC (k := 53) (v := .int (M6.1 53 0)) ffX1_24 dX1_add_35 zq53 zk53 rfl ?_
  refine zg_iconst hC (v := 0) dX1_add_38 (by decide) ?_
  refine zg_iast hC (k := 57) dX1_add_39 zq57 zk57 (fun h7 M8 eM8 => ?_)
  refine zg_aload_n hC 0 dX1_add_40 rfl ?_
  refine zg_dup hC dX1_add_41 rfl ?_
  refine zg_get hC (k := 53) (v := .int (M8.1 53 0)) ffX1_24 dX1_add_42 zq53 zk53 rfl ?_
  refine zg_iconst hC (v := 1) dX1_add_45 (by decide) ?_
  refine zg_iadd hC dX1_add_46 ?_
  refine zg_putI hC (k := 53) fpX1_24 dX1_add_47 zq53 zk53 rfl (fun M9 eM9 => ?_)
  exact zg_retv hC hE dX1_add_50
theorem tX1_add {l : Launch} {Z : zZ} {ad : Nat → Nat} (hl : l.stackTraces = false) (d : Nat) (N : Nat) (p1 : Int32) (p2 : Int32) (p3 : Int32) (M : zMem) : zT l Z zfull ad (.code yX1_add cX1_add 4 none) yX1_add (d + 0) true zbn [.ref (ad 53), .int p1, .int p2, .int p3] M (fX1_add N p1 p2 p3 M) :=
  zT_of hl (by decide +kernel) (Nat.le_of_ble_eq_true rfl) (fun X hC hE hN => gX1_add_B0 hC hE hN N p1 p2 p3 M)

def fX4_setSlot (N : Nat) (p1 : Int32) (p2 : Int32) (p3 : Int32) (M : zMem) : zRES :=
  if zin p1 5 = true then
  if zin (p2 - p2 / 51 * 51) 51 = true then
  zl (zsI M (46 + 1 + p1.toNatClampNeg) (p2 - p2 / 51 * 51).toNatClampNeg p3) fun M3 =>
  some (.inl 0, M3)
  else none
  else none
set_option maxRecDepth 20000 in
set_option maxHeartbeats 2000000 in
theorem gX4_setSlot_B0 {l : Launch} {Z : zZ} {ad : Nat → Nat} {d : Nat} {X : zX} {cs : Nat × Nat} (hC : zC l Z zfull ad X RX4 cX4_setSlot 4 none (d + 0)) (hE : zEnd Z zfull ad X true) (hN : zNoX X) (N : Nat) (p1 : Int32) (p2 : Int32) (p3 : Int32) (M : zMem) : zG l Z zfull ad X cs 0 [(0, .ref (ad 45)), (1, .int p1), (2, .int p2), (3, .int p3)] [] M (fX4_setSlot N p1 p2 p3 M) := by
  unfold fX4_setSlot
  refine zg_aload_n hC 0 dX4_setSlot_0 rfl ?_
  refine zg_get hC (k := 45) (v := .ref (ad 46)) ffX4_11 dX4_setSlot_1 zq45 zk45 rfl ?_
  refine zg_iload_n hC 1 dX4_setSlot_4 rfl ?_
  refine zg_aald hC (k := 46) dX4_setSlot_5 zq46 zk46 (fun h1 => ?_)
  refine zg_iload_n hC 2 dX4_setSlot_6 rfl ?_
  refine zg_bipush hC (v := 51) dX4_setSlot_7 (by decide) ?_
  refine zg_irem hC dX4_setSlot_9 (by decide) ?_
  refine zg_iload_n hC 3 dX4_setSlot_10 rfl ?_
  refine zg_iast hC (k := (46 + 1 + p1.toNatClampNeg)) dX4_setSlot_11 (zrq46 (zin_lt h1)) (zrk46 (zin_lt h1)) (fun h2 M3 eM3 => ?_)
  exact zg_retv hC hE dX4_setSlot_12
theorem tX4_setSlot {l : Launch} {Z : zZ} {ad : Nat → Nat} (hl : l.stackTraces = false) (d : Nat) (N : Nat) (p1 : Int32) (p2 : Int32) (p3 : Int32) (M : zMem) : zT l Z zfull ad (.code yX4_setSlot cX4_setSlot 4 none) yX4_setSlot (d + 0) true zbn [.ref (ad 45), .int p1, .int p2, .int p3] M (fX4_setSlot N p1 p2 p3 M) :=
  zT_of hl (by decide +kernel) (Nat.le_of_ble_eq_true rfl) (fun X hC hE hN => gX4_setSlot_B0 hC hE hN N p1 p2 p3 M)

def fX0_takeTerm (o : Nat) (N : Nat) (p1 : Int32) (p2 : Int32) (M : zMem) : zRES :=
  if zin p1 5 = true then
  zl (zsI M (o + 1) p1.toNatClampNeg p2) fun M2 =>
  if zin p1 5 = true then
  zl (zsI M2 (o + 2) p1.toNatClampNeg 0) fun M4 =>
  if zin p1 5 = true then
  zl (zsI M4 (o + 3) p1.toNatClampNeg (-1)) fun M6 =>
  some (.inl 0, M6)
  else none
  else none
  else none
set_option maxRecDepth 20000 in
set_option maxHeartbeats 2000000 in
theorem gX0_takeTerm_B0 {l : Launch} {Z : zZ} {lv : Nat → Bool} {ad : Nat → Nat} {d : Nat} {X : zX} {cs : Nat × Nat} (hC : zC l Z lv ad X RX0 cX0_takeTerm 3 none (d + 0)) (hE : zEnd Z lv ad X true) (hN : zNoX X) {o : Nat} (ho : o = 1 ∨ o = 15) (hlv : ∀ j, j < 14 → lv (o + j) = true) (N : Nat) (p1 : Int32) (p2 : Int32) (M : zMem) : zG l Z lv ad X cs 0 [(0, .ref (ad o)), (1, .int p1), (2, .int p2)] [] M (fX0_takeTerm o N p1 p2 M) := by
  unfold fX0_takeTerm
  refine zg_aload_n hC 0 dX0_takeTerm_0 rfl ?_
  refine zg_get hC (k := o) (v := .ref (ad (o + 1))) ffX0_9 dX0_takeTerm_1 (hlv 0 (by decide)) (zka0 ho) rfl ?_
  refine zg_iload_n hC 1 dX0_takeTerm_4 rfl ?_
  refine zg_iload_n hC 2 dX0_takeTerm_5 rfl ?_
  refine zg_iast hC (k := (o + 1)) dX0_takeTerm_6 (hlv 1 (by decide)) (zka1 ho) (fun h1 M2 eM2 => ?_)
  refine zg_aload_n hC 0 dX0_takeTerm_7 rfl ?_
  refine zg_get hC (k := o) (v := .ref (ad (o + 2))) ffX0_15 dX0_takeTerm_8 (hlv 0 (by decide)) (zka0 ho) rfl ?_
  refine zg_iload_n hC 1 dX0_takeTerm_11 rfl ?_
  refine zg_iconst hC (v := 0) dX0_takeTerm_12 (by decide) ?_
  refine zg_iast hC (k := (o + 2)) dX0_takeTerm_13 (hlv 2 (by decide)) (zka2 ho) (fun h3 M4 eM4 => ?_)
  refine zg_aload_n hC 0 dX0_takeTerm_14 rfl ?_
  refine zg_get hC (k := o) (v := .ref (ad (o + 3))) ffX0_18 dX0_takeTerm_15 (hlv 0 (by decide)) (zka0 ho) rfl ?_
  refine zg_iload_n hC 1 dX0_takeTerm_18 rfl ?_
  refine zg_iconst hC (v := (-1)) dX0_takeTerm_19 (by decide) ?_
  refine zg_iast hC (k := (o + 3)) dX0_takeTerm_20 (hlv 3 (by decide)) (zka3 ho) (fun h5 M6 eM6 => ?_)
  exact zg_retv hC hE dX0_takeTerm_21
theorem tX0_takeTerm {l : Launch} {Z : zZ} {lv : Nat → Bool} {ad : Nat → Nat} (hl : l.stackTraces = false) (d : Nat) {o : Nat} (ho : o = 1 ∨ o = 15) (hlv : ∀ j, j < 14 → lv (o + j) = true) (N : Nat) (p1 : Int32) (p2 : Int32) (M : zMem) : zT l Z lv ad (.code yX0_takeTerm cX0_takeTerm 3 none) yX0_takeTerm (d + 0) true zbn [.ref (ad o), .int p1, .int p2] M (fX0_takeTerm o N p1 p2 M) :=
  zT_of hl (by decide +kernel) (Nat.le_of_ble_eq_true rfl) (fun X hC hE hN => gX0_takeTerm_B0 hC hE hN ho hlv N p1 p2 M)

def fX0_lastTerm (o : Nat) (N : Nat) (p1 : Int32) (M : zMem) : zRES :=
  if zin p1 5 = true then
  if (M.1 (o + 11) p1.toNatClampNeg) = 0 then
    some (.inl 0, M)
  else
    if zin p1 5 = true then
    if zin p1 5 = true then
    if zin ((M.1 (o + 11) p1.toNatClampNeg) - 1) 20 = true then
    if zin (M.1 ((o + 5) + 1 + p1.toNatClampNeg) ((M.1 (o + 11) p1.toNatClampNeg) - 1).toNatClampNeg) 60 = true then
    some (.inl (M.1 (o + 12) (M.1 ((o + 5) + 1 + p1.toNatClampNeg) ((M.1 (o + 11) p1.toNatClampNeg) - 1).toNatClampNeg).toNatClampNeg), M)
    else none
    else none
    else none
    else none
  else none
set_option maxRecDepth 20000 in
set_option maxHeartbeats 2000000 in
theorem gX0_lastTerm_B0 {l : Launch} {Z : zZ} {lv : Nat → Bool} {ad : Nat → Nat} {d : Nat} {X : zX} {cs : Nat × Nat} (hC : zC l Z lv ad X RX0 cX0_lastTerm 2 (some .int) (d + 0)) (hE : zEnd Z lv ad X false) (hN : zNoX X) {o : Nat} (ho : o = 1 ∨ o = 15) (hlv : ∀ j, j < 14 → lv (o + j) = true) (N : Nat) (p1 : Int32) (M : zMem) : zG l Z lv ad X cs 0 [(0, .ref (ad o)), (1, .int p1)] [] M (fX0_lastTerm o N p1 M) := by
  unfold fX0_lastTerm
  refine zg_aload_n hC 0 dX0_lastTerm_0 rfl ?_
  refine zg_get hC (k := o) (v := .ref (ad (o + 11))) ffX0_29 dX0_lastTerm_1 (hlv 0 (by decide)) (zka0 ho) rfl ?_
  refine zg_iload_n hC 1 dX0_lastTerm_4 rfl ?_
  refine zg_iald hC (k := (o + 11)) dX0_lastTerm_5 (hlv 11 (by decide)) (zka11 ho) (fun h1 => ?_)
  refine zg_if_ne hC (tgt := 13) dX0_lastTerm_6 (by decide) (fun c2 => ?_) (fun c2 => ?_)
  · refine zg_iconst hC (v := 0) dX0_lastTerm_9 (by decide) ?_
    refine zg_goto hC (tgt := 33) dX0_lastTerm_10 (by decide) ?_
    exact zg_ret hC hE dX0_lastTerm_33
  · refine zg_aload_n hC 0 dX0_lastTerm_13 rfl ?_
    refine zg_get hC (k := o) (v := .ref (ad (o + 12))) ffX0_32 dX0_lastTerm_14 (hlv 0 (by decide)) (zka0 ho) rfl ?_
    refine zg_aload_n hC 0 dX0_lastTerm_17 rfl ?_
    refine zg_get hC (k := o) (v := .ref (ad (o + 5))) ffX0_26 dX0_lastTerm_18 (hlv 0 (by decide)) (zka0 ho) rfl ?_
    refine zg_iload_n hC 1 dX0_lastTerm_21 rfl ?_
    refine zg_aald hC (k := (o + 5)) dX0_lastTerm_22 (hlv 5 (by decide)) (zka5 ho) (fun h3 => ?_)
    refine zg_aload_n hC 0 dX0_lastTerm_23 rfl ?_
    refine zg_get hC (k := o) (v := .ref (ad (o + 11))) ffX0_29 dX0_lastTerm_24 (hlv 0 (by decide)) (zka0 ho) rfl ?_
    refine zg_iload_n hC 1 dX0_lastTerm_27 rfl ?_
    refine zg_iald hC (k := (o + 11)) dX0_lastTerm_28 (hlv 11 (by decide)) (zka11 ho) (fun h4 => ?_)
    refine zg_iconst hC (v := 1) dX0_lastTerm_29 (by decide) ?_
    refine zg_isub hC dX0_lastTerm_30 ?_
    refine zg_iald hC (k := ((o + 5) + 1 + p1.toNatClampNeg)) dX0_lastTerm_31 (zrqA hlv (zin_lt h3)) (zrkA ho (zin_lt h3)) (fun h5 => ?_)
    refine zg_iald hC (k := (o + 12)) dX0_lastTerm_32 (hlv 12 (by decide)) (zka12 ho) (fun h6 => ?_)
    exact zg_ret hC hE dX0_lastTerm_33
theorem tX0_lastTerm {l : Launch} {Z : zZ} {lv : Nat → Bool} {ad : Nat → Nat} (hl : l.stackTraces = false) (d : Nat) {o : Nat} (ho : o = 1 ∨ o = 15) (hlv : ∀ j, j < 14 → lv (o + j) = true) (N : Nat) (p1 : Int32) (M : zMem) : zT l Z lv ad (.code yX0_lastTerm cX0_lastTerm 2 (some .int)) yX0_lastTerm (d + 0) false zbn [.ref (ad o), .int p1] M (fX0_lastTerm o N p1 M) :=
  zT_of hl (by decide +kernel) (Nat.le_of_ble_eq_true rfl) (fun X hC hE hN => gX0_lastTerm_B0 hC hE hN ho hlv N p1 M)

def fX0_hasBetterLog_B40 (o : Nat) (N : Nat) (M : zMem) : zRES :=
  some (.inl 1, M)
def fX0_hasBetterLog (o : Nat) (N : Nat) (p1 : Int32) (p2 : Int32) (M : zMem) : zRES :=
  zb (fX0_lastTerm o N p1 M) fun r1 M2 =>
  zb (fX0_lastTerm o N p2 M2) fun r3 M4 =>
  if r3 < r1 then
    fX0_hasBetterLog_B40 o N M4
  else
    if r1 = r3 then
      if zin p1 5 = true then
      if zin p2 5 = true then
      if (M4.1 (o + 11) p1.toNatClampNeg) ≤ (M4.1 (o + 11) p2.toNatClampNeg) then
        some (.inl 0, M4)
      else
        fX0_hasBetterLog_B40 o N M4
      else none
      else none
    else
      some (.inl 0, M4)
set_option maxRecDepth 20000 in
set_option maxHeartbeats 2000000 in
theorem gX0_hasBetterLog_B40 {l : Launch} {Z : zZ} {lv : Nat → Bool} {ad : Nat → Nat} {d : Nat} {X : zX} {cs : Nat × Nat} (hC : zC l Z lv ad X RX0 cX0_hasBetterLog 5 (some .boolean) (d + 1)) (hE : zEnd Z lv ad X false) (hN : zNoX X) {o : Nat} (ho : o = 1 ∨ o = 15) (hlv : ∀ j, j < 14 → lv (o + j) = true) (N : Nat) (M : zMem) : zG l Z lv ad X cs 40 [] [] M (fX0_hasBetterLog_B40 o N M) := by
  unfold fX0_hasBetterLog_B40
  refine zg_iconst hC (v := 1) dX0_hasBetterLog_40 (by decide) ?_
  refine zg_goto hC (tgt := 45) dX0_hasBetterLog_41 (by decide) ?_
  exact zg_retz hC hE (by decide) dX0_hasBetterLog_45
set_option maxRecDepth 20000 in
set_option maxHeartbeats 2000000 in
theorem gX0_hasBetterLog_B0 {l : Launch} {Z : zZ} {lv : Nat → Bool} {ad : Nat → Nat} {d : Nat} {X : zX} {cs : Nat × Nat} (hC : zC l Z lv ad X RX0 cX0_hasBetterLog 5 (some .boolean) (d + 1)) (hE : zEnd Z lv ad X false) (hN : zNoX X) {o : Nat} (ho : o = 1 ∨ o = 15) (hlv : ∀ j, j < 14 → lv (o + j) = true) (N : Nat) (p1 : Int32) (p2 : Int32) (M : zMem) : zG l Z lv ad X cs 0 [(0, .ref (ad o)), (1, .int p1), (2, .int p2)] [] M (fX0_hasBetterLog o N p1 p2 M) := by
  unfold fX0_hasBetterLog
  refine zg_aload_n hC 0 dX0_hasBetterLog_0 rfl ?_
  refine zg_iload_n hC 1 dX0_hasBetterLog_1 rfl ?_
  refine zg_callVi hC hE hN (k := o) (As := [.int p1]) (S := []) rfl (tX0_lastTerm (zflag hC) d ho hlv N p1 M) lkX0_82 rfl dX0_hasBetterLog_2 (hlv 0 (by decide)) (zka0 ho) rfl rfl (Nat.le_of_ble_eq_true rfl) (fun r1 M2 er1 => ?_)
  refine zg_istore_n hC (L' := [(3, _), (0, _), (1, _), (2, _)]) dX0_hasBetterLog_5 (by decide) rfl ?_
  refine zg_aload_n hC 1 dX0_hasBetterLog_6 rfl ?_
  refine zg_iload_n hC 3 dX0_hasBetterLog_7 rfl ?_
  refine zg_callVi hC hE hN (k := o) (As := [.int p2]) (S := []) rfl (tX0_lastTerm (zflag hC) d ho hlv N p2 M2) lkX0_82 rfl dX0_hasBetterLog_8 (hlv 0 (by decide)) (zka0 ho) rfl rfl (Nat.le_of_ble_eq_true rfl) (fun r3 M4 er3 => ?_)
  refine zg_istore hC (L' := [(4, _), (3, _), (0, _), (1, _), (2, _)]) dX0_hasBetterLog_11 (by decide) rfl ?_
  refine zg_iload_n hC 1 dX0_hasBetterLog_13 rfl ?_
  refine zg_iload hC 0 dX0_hasBetterLog_14 rfl ?_
  refine zg_icmp_gt hC (tgt := 40) dX0_hasBetterLog_16 (by decide) (fun c5 => ?_) (fun c5 => ?_)
  · exact zg_sub [] rfl (gX0_hasBetterLog_B40 hC hE hN ho hlv N M4)
  · refine zg_iload_n hC 1 dX0_hasBetterLog_19 rfl ?_
    refine zg_iload hC 0 dX0_hasBetterLog_20 rfl ?_
    refine zg_icmp_ne hC (tgt := 44) dX0_hasBetterLog_22 (by decide) (fun c6 => ?_) (fun c6 => ?_)
    · refine zg_aload_n hC 2 dX0_hasBetterLog_25 rfl ?_
      refine zg_get hC (k := o) (v := .ref (ad (o + 11))) ffX0_29 dX0_hasBetterLog_26 (hlv 0 (by decide)) (zka0 ho) rfl ?_
      refine zg_iload_n hC 3 dX0_hasBetterLog_29 rfl ?_
      refine zg_iald hC (k := (o + 11)) dX0_hasBetterLog_30 (hlv 11 (by decide)) (zka11 ho) (fun h7 => ?_)
      refine zg_aload_n hC 2 dX0_hasBetterLog_31 rfl ?_
      refine zg_get hC (k := o) (v := .ref (ad (o + 11))) ffX0_29 dX0_hasBetterLog_32 (hlv 0 (by decide)) (zka0 ho) rfl ?_
      refine zg_iload_n hC 4 dX0_hasBetterLog_35 rfl ?_
      refine zg_iald hC (k := (o + 11)) dX0_hasBetterLog_36 (hlv 11 (by decide)) (zka11 ho) (fun h8 => ?_)
      refine zg_icmp_le hC (tgt := 44) dX0_hasBetterLog_37 (by decide) (fun c9 => ?_) (fun c9 => ?_)
      · refine zg_iconst hC (v := 0) dX0_hasBetterLog_44 (by decide) ?_
        exact zg_retz hC hE (by decide) dX0_hasBetterLog_45
      · exact zg_sub [] rfl (gX0_hasBetterLog_B40 hC hE hN ho hlv N M4)
    · refine zg_iconst hC (v := 0) dX0_hasBetterLog_44 (by decide) ?_
      exact zg_retz hC hE (by decide) dX0_hasBetterLog_45
theorem tX0_hasBetterLog {l : Launch} {Z : zZ} {lv : Nat → Bool} {ad : Nat → Nat} (hl : l.stackTraces = false) (d : Nat) {o : Nat} (ho : o = 1 ∨ o = 15) (hlv : ∀ j, j < 14 → lv (o + j) = true) (N : Nat) (p1 : Int32) (p2 : Int32) (M : zMem) : zT l Z lv ad (.code yX0_hasBetterLog cX0_hasBetterLog 5 (some .boolean)) yX0_hasBetterLog (d + 1) false zbn [.ref (ad o), .int p1, .int p2] M (fX0_hasBetterLog o N p1 p2 M) :=
  zT_of hl (by decide +kernel) (Nat.le_of_ble_eq_true rfl) (fun X hC hE hN => gX0_hasBetterLog_B0 hC hE hN ho hlv N p1 p2 M)

def fX0_giveVote (o : Nat) (N : Nat) (p1 : Int32) (p2 : Int32) (M : zMem) : zRES :=
  if zin p1 5 = true then
  zl (zsI M (o + 3) p1.toNatClampNeg p2) fun M2 =>
  if zin p2 5 = true then
  if zin p2 5 = true then
  zl (zsI M2 (o + 4) p2.toNatClampNeg ((M2.1 (o + 4) p2.toNatClampNeg) ||| ((1 : Int32) <<< (p1 &&& 31)))) fun M5 =>
  if zin p2 5 = true then
  zb (fJ6_bitCount_0f7a4 N (M5.1 (o + 4) p2.toNatClampNeg) M5) fun r7 M8 =>
  if r7 < 3 then
    some (.inl 0, M8)
  else
    if zin p2 5 = true then
    zl (zsI M8 (o + 2) p2.toNatClampNeg 2) fun M11 =>
    some (.inl 0, M11)
    else none
  else none
  else none
  else none
  else none
set_option maxRecDepth 20000 in
set_option maxHeartbeats 2000000 in
theorem gX0_giveVote_B0 {l : Launch} {Z : zZ} {lv : Nat → Bool} {ad : Nat → Nat} {d : Nat} {X : zX} {cs : Nat × Nat} (hC : zC l Z lv ad X RX0 cX0_giveVote 3 none (d + 1)) (hE : zEnd Z lv ad X true) (hN : zNoX X) {o : Nat} (ho : o = 1 ∨ o = 15) (hlv : ∀ j, j < 14 → lv (o + j) = true) (N : Nat) (p1 : Int32) (p2 : Int32) (M : zMem) : zG l Z lv ad X cs 0 [(0, .ref (ad o)), (1, .int p1), (2, .int p2)] [] M (fX0_giveVote o N p1 p2 M) := by
  unfold fX0_giveVote
  refine zg_aload_n hC 0 dX0_giveVote_0 rfl ?_
  refine zg_get hC (k := o) (v := .ref (ad (o + 3))) ffX0_18 dX0_giveVote_1 (hlv 0 (by decide)) (zka0 ho) rfl ?_
  refine zg_iload_n hC 1 dX0_giveVote_4 rfl ?_
  refine zg_iload_n hC 2 dX0_giveVote_5 rfl ?_
  refine zg_iast hC (k := (o + 3)) dX0_giveVote_6 (hlv 3 (by decide)) (zka3 ho) (fun h1 M2 eM2 => ?_)
  refine zg_aload_n hC 0 dX0_giveVote_7 rfl ?_
  refine zg_get hC (k := o) (v := .ref (ad (o + 4))) ffX0_21 dX0_giveVote_8 (hlv 0 (by decide)) (zka0 ho) rfl ?_
  refine zg_iload_n hC 2 dX0_giveVote_11 rfl ?_
  refine zg_dup2_11 hC dX0_giveVote_12 rfl rfl ?_
  refine zg_iald hC (k := (o + 4)) dX0_giveVote_13 (hlv 4 (by decide)) (zka4 ho) (fun h3 => ?_)
  refine zg_iconst hC (v := 1) dX0_giveVote_14 (by decide) ?_
  refine zg_iload_n hC 1 dX0_giveVote_15 rfl ?_
  refine zg_ishl hC dX0_giveVote_16 ?_
  refine zg_ior hC dX0_giveVote_17 ?_
  refine zg_iast hC (k := (o + 4)) dX0_giveVote_18 (hlv 4 (by decide)) (zka4 ho) (fun h4 M5 eM5 => ?_)
  refine zg_aload_n hC 0 dX0_giveVote_19 rfl ?_
  refine zg_get hC (k := o) (v := .ref (ad (o + 4))) ffX0_21 dX0_giveVote_20 (hlv 0 (by decide)) (zka0 ho) rfl ?_
  refine zg_iload_n hC 2 dX0_giveVote_23 rfl ?_
  refine zg_iald hC (k := (o + 4)) dX0_giveVote_24 (hlv 4 (by decide)) (zka4 ho) (fun h6 => ?_)
  refine zg_callSi hC hE hN (As := [.int (M5.1 (o + 4) p2.toNatClampNeg)]) (S := []) rfl (tJ6_bitCount_0f7a4 (zflag hC) d N (M5.1 (o + 4) p2.toNatClampNeg) M5) lkX0_76 rfl dX0_giveVote_25 (Nat.le_of_ble_eq_true rfl) (fun r7 M8 er7 => ?_)
  refine zg_iconst hC (v := 3) dX0_giveVote_28 (by decide) ?_
  refine zg_icmp_lt hC (tgt := 39) dX0_giveVote_29 (by decide) (fun c9 => ?_) (fun c9 => ?_)
  · exact zg_retv hC hE dX0_giveVote_39
  · refine zg_aload_n hC 0 dX0_giveVote_32 rfl ?_
    refine zg_get hC (k := o) (v := .ref (ad (o + 2))) ffX0_15 dX0_giveVote_33 (hlv 0 (by decide)) (zka0 ho) rfl ?_
    refine zg_iload_n hC 2 dX0_giveVote_36 rfl ?_
    refine zg_iconst hC (v := 2) dX0_giveVote_37 (by decide) ?_
    refine zg_iast hC (k := (o + 2)) dX0_giveVote_38 (hlv 2 (by decide)) (zka2 ho) (fun h10 M11 eM11 => ?_)
    exact zg_retv hC hE dX0_giveVote_39
theorem tX0_giveVote {l : Launch} {Z : zZ} {lv : Nat → Bool} {ad : Nat → Nat} (hl : l.stackTraces = false) (d : Nat) {o : Nat} (ho : o = 1 ∨ o = 15) (hlv : ∀ j, j < 14 → lv (o + j) = true) (N : Nat) (p1 : Int32) (p2 : Int32) (M : zMem) : zT l Z lv ad (.code yX0_giveVote cX0_giveVote 3 none) yX0_giveVote (d + 1) true zbn [.ref (ad o), .int p1, .int p2] M (fX0_giveVote o N p1 p2 M) :=
  zT_of hl (by decide +kernel) (Nat.le_of_ble_eq_true rfl) (fun X hC hE hN => gX0_giveVote_B0 hC hE hN ho hlv N p1 p2 M)

def fX0_askForVote_B54 (o : Nat) (N : Nat) (v1 : Int32) (v2 : Int32) (M : zMem) : zRES :=
  if zin v1 5 = true then
  if (M.1 (o + 3) v1.toNatClampNeg) = v2 then
    some (.inl 1, M)
  else
    if zin v1 5 = true then
    if (M.1 (o + 3) v1.toNatClampNeg) = (-1) then
      zb (fX0_hasBetterLog o N v1 v2 M) fun r17 M18 =>
      if r17 = 0 then
        zb (fX0_giveVote o N v1 v2 M18) fun r20 M21 =>
        some (.inl 1, M21)
      else
        some (.inl 0, M18)
    else
      some (.inl 0, M)
    else none
  else none
def fX0_askForVote (o : Nat) (N : Nat) (p1 : Int32) (p2 : Int32) (M : zMem) : zRES :=
  if zin p1 5 = true then
  if zin p2 5 = true then
  if (M.1 (o + 1) p1.toNatClampNeg) ≤ (M.1 (o + 1) p2.toNatClampNeg) then
    if zin p1 5 = true then
    if zin p2 5 = true then
    if (M.1 (o + 1) p2.toNatClampNeg) ≤ (M.1 (o + 1) p1.toNatClampNeg) then
      fX0_askForVote_B54 o N p1 p2 M
    else
      if zin p2 5 = true then
      zb (fX0_takeTerm o N p1 (M.1 (o + 1) p2.toNatClampNeg) M) fun r8 M9 =>
      fX0_askForVote_B54 o N p1 p2 M9
      else none
    else none
    else none
  else
    if zin p1 5 = true then
    zb (fX0_takeTerm o N p2 (M.1 (o + 1) p1.toNatClampNeg) M) fun r11 M12 =>
    some (.inl 0, M12)
    else none
  else none
  else none
set_option maxRecDepth 20000 in
set_option maxHeartbeats 2000000 in
theorem gX0_askForVote_B54 {l : Launch} {Z : zZ} {lv : Nat → Bool} {ad : Nat → Nat} {d : Nat} {X : zX} {cs : Nat × Nat} (hC : zC l Z lv ad X RX0 cX0_askForVote 3 (some .boolean) (d + 2)) (hE : zEnd Z lv ad X false) (hN : zNoX X) {o : Nat} (ho : o = 1 ∨ o = 15) (hlv : ∀ j, j < 14 → lv (o + j) = true) (N : Nat) (v1 : Int32) (v2 : Int32) (M : zMem) : zG l Z lv ad X cs 54 [(0, .ref (ad o)), (1, .int v1), (2, .int v2)] [] M (fX0_askForVote_B54 o N v1 v2 M) := by
  unfold fX0_askForVote_B54
  refine zg_aload_n hC 0 dX0_askForVote_54 rfl ?_
  refine zg_get hC (k := o) (v := .ref (ad (o + 3))) ffX0_18 dX0_askForVote_55 (hlv 0 (by decide)) (zka0 ho) rfl ?_
  refine zg_iload_n hC 1 dX0_askForVote_58 rfl ?_
  refine zg_iald hC (k := (o + 3)) dX0_askForVote_59 (hlv 3 (by decide)) (zka3 ho) (fun h13 => ?_)
  refine zg_iload_n hC 2 dX0_askForVote_60 rfl ?_
  refine zg_icmp_ne hC (tgt := 66) dX0_askForVote_61 (by decide) (fun c14 => ?_) (fun c14 => ?_)
  · refine zg_iconst hC (v := 1) dX0_askForVote_64 (by decide) ?_
    exact zg_retz hC hE (by decide) dX0_askForVote_65
  · refine zg_aload_n hC 0 dX0_askForVote_66 rfl ?_
    refine zg_get hC (k := o) (v := .ref (ad (o + 3))) ffX0_18 dX0_askForVote_67 (hlv 0 (by decide)) (zka0 ho) rfl ?_
    refine zg_iload_n hC 1 dX0_askForVote_70 rfl ?_
    refine zg_iald hC (k := (o + 3)) dX0_askForVote_71 (hlv 3 (by decide)) (zka3 ho) (fun h15 => ?_)
    refine zg_iconst hC (v := (-1)) dX0_askForVote_72 (by decide) ?_
    refine zg_icmp_ne hC (tgt := 85) dX0_askForVote_73 (by decide) (fun c16 => ?_) (fun c16 => ?_)
    · refine zg_aload_n hC 0 dX0_askForVote_76 rfl ?_
      refine zg_iload_n hC 1 dX0_askForVote_77 rfl ?_
      refine zg_iload_n hC 2 dX0_askForVote_78 rfl ?_
      refine zg_callVi hC hE hN (k := o) (As := [.int v1, .int v2]) (S := []) rfl (tX0_hasBetterLog (zflag hC) d ho hlv N v1 v2 M) lkX0_69 rfl dX0_askForVote_79 (hlv 0 (by decide)) (zka0 ho) rfl rfl (Nat.le_of_ble_eq_true rfl) (fun r17 M18 er17 => ?_)
      refine zg_if_eq hC (tgt := 87) dX0_askForVote_82 (by decide) (fun c19 => ?_) (fun c19 => ?_)
      · refine zg_aload_n hC 0 dX0_askForVote_87 rfl ?_
        refine zg_iload_n hC 1 dX0_askForVote_88 rfl ?_
        refine zg_iload_n hC 2 dX0_askForVote_89 rfl ?_
        refine zg_callVv hC hE hN (k := o) (As := [.int v1, .int v2]) (S := []) rfl (tX0_giveVote (zflag hC) d ho hlv N v1 v2 M18) lkX0_73 rfl dX0_askForVote_90 (hlv 0 (by decide)) (zka0 ho) rfl rfl (Nat.le_of_ble_eq_true rfl) (fun r20 M21 er20 => ?_)
        refine zg_iconst hC (v := 1) dX0_askForVote_93 (by decide) ?_
        exact zg_retz hC hE (by decide) dX0_askForVote_94
      · refine zg_iconst hC (v := 0) dX0_askForVote_85 (by decide) ?_
        exact zg_retz hC hE (by decide) dX0_askForVote_86
    · refine zg_iconst hC (v := 0) dX0_askForVote_85 (by decide) ?_
      exact zg_retz hC hE (by decide) dX0_askForVote_86
set_option maxRecDepth 20000 in
set_option maxHeartbeats 2000000 in
theorem gX0_askForVote_B0 {l : Launch} {Z : zZ} {lv : Nat → Bool} {ad : Nat → Nat} {d : Nat} {X : zX} {cs : Nat × Nat} (hC : zC l Z lv ad X RX0 cX0_askForVote 3 (some .boolean) (d + 2)) (hE : zEnd Z lv ad X false) (hN : zNoX X) {o : Nat} (ho : o = 1 ∨ o = 15) (hlv : ∀ j, j < 14 → lv (o + j) = true) (N : Nat) (p1 : Int32) (p2 : Int32) (M : zMem) : zG l Z lv ad X cs 0 [(0, .ref (ad o)), (1, .int p1), (2, .int p2)] [] M (fX0_askForVote o N p1 p2 M) := by
  unfold fX0_askForVote
  refine zg_aload_n hC 0 dX0_askForVote_0 rfl ?_
  refine zg_get hC (k := o) (v := .ref (ad (o + 1))) ffX0_9 dX0_askForVote_1 (hlv 0 (by decide)) (zka0 ho) rfl ?_
  refine zg_iload_n hC 1 dX0_askForVote_4 rfl ?_
  refine zg_iald hC (k := (o + 1)) dX0_askForVote_5 (hlv 1 (by decide)) (zka1 ho) (fun h1 => ?_)
  refine zg_aload_n hC 0 dX0_askForVote_6 rfl ?_
  refine zg_get hC (k := o) (v := .ref (ad (o + 1))) ffX0_9 dX0_askForVote_7 (hlv 0 (by decide)) (zka0 ho) rfl ?_
  refine zg_iload_n hC 2 dX0_askForVote_10 rfl ?_
  refine zg_iald hC (k := (o + 1)) dX0_askForVote_11 (hlv 1 (by decide)) (zka1 ho) (fun h2 => ?_)
  refine zg_icmp_le hC (tgt := 28) dX0_askForVote_12 (by decide) (fun c3 => ?_) (fun c3 => ?_)
  · refine zg_aload_n hC 0 dX0_askForVote_28 rfl ?_
    refine zg_get hC (k := o) (v := .ref (ad (o + 1))) ffX0_9 dX0_askForVote_29 (hlv 0 (by decide)) (zka0 ho) rfl ?_
    refine zg_iload_n hC 1 dX0_askForVote_32 rfl ?_
    refine zg_iald hC (k := (o + 1)) dX0_askForVote_33 (hlv 1 (by decide)) (zka1 ho) (fun h4 => ?_)
    refine zg_aload_n hC 0 dX0_askForVote_34 rfl ?_
    refine zg_get hC (k := o) (v := .ref (ad (o + 1))) ffX0_9 dX0_askForVote_35 (hlv 0 (by decide)) (zka0 ho) rfl ?_
    refine zg_iload_n hC 2 dX0_askForVote_38 rfl ?_
    refine zg_iald hC (k := (o + 1)) dX0_askForVote_39 (hlv 1 (by decide)) (zka1 ho) (fun h5 => ?_)
    refine zg_icmp_ge hC (tgt := 54) dX0_askForVote_40 (by decide) (fun c6 => ?_) (fun c6 => ?_)
    · exact zg_sub [0, 1, 2] rfl (gX0_askForVote_B54 hC hE hN ho hlv N p1 p2 M)
    · refine zg_aload_n hC 0 dX0_askForVote_43 rfl ?_
      refine zg_iload_n hC 1 dX0_askForVote_44 rfl ?_
      refine zg_aload_n hC 0 dX0_askForVote_45 rfl ?_
      refine zg_get hC (k := o) (v := .ref (ad (o + 1))) ffX0_9 dX0_askForVote_46 (hlv 0 (by decide)) (zka0 ho) rfl ?_
      refine zg_iload_n hC 2 dX0_askForVote_49 rfl ?_
      refine zg_iald hC (k := (o + 1)) dX0_askForVote_50 (hlv 1 (by decide)) (zka1 ho) (fun h7 => ?_)
      refine zg_callVv hC hE hN (k := o) (As := [.int p1, .int (M.1 (o + 1) p2.toNatClampNeg)]) (S := []) rfl (tX0_takeTerm (zflag hC) (d + 1) ho hlv N p1 (M.1 (o + 1) p2.toNatClampNeg) M) lkX0_65 rfl dX0_askForVote_51 (hlv 0 (by decide)) (zka0 ho) rfl rfl (Nat.le_of_ble_eq_true rfl) (fun r8 M9 er8 => ?_)
      exact zg_sub [0, 1, 2] rfl (gX0_askForVote_B54 hC hE hN ho hlv N p1 p2 M9)
  · refine zg_aload_n hC 0 dX0_askForVote_15 rfl ?_
    refine zg_iload_n hC 2 dX0_askForVote_16 rfl ?_
    refine zg_aload_n hC 0 dX0_askForVote_17 rfl ?_
    refine zg_get hC (k := o) (v := .ref (ad (o + 1))) ffX0_9 dX0_askForVote_18 (hlv 0 (by decide)) (zka0 ho) rfl ?_
    refine zg_iload_n hC 1 dX0_askForVote_21 rfl ?_
    refine zg_iald hC (k := (o + 1)) dX0_askForVote_22 (hlv 1 (by decide)) (zka1 ho) (fun h10 => ?_)
    refine zg_callVv hC hE hN (k := o) (As := [.int p2, .int (M.1 (o + 1) p1.toNatClampNeg)]) (S := []) rfl (tX0_takeTerm (zflag hC) (d + 1) ho hlv N p2 (M.1 (o + 1) p1.toNatClampNeg) M) lkX0_65 rfl dX0_askForVote_23 (hlv 0 (by decide)) (zka0 ho) rfl rfl (Nat.le_of_ble_eq_true rfl) (fun r11 M12 er11 => ?_)
    refine zg_iconst hC (v := 0) dX0_askForVote_26 (by decide) ?_
    exact zg_retz hC hE (by decide) dX0_askForVote_27
theorem tX0_askForVote {l : Launch} {Z : zZ} {lv : Nat → Bool} {ad : Nat → Nat} (hl : l.stackTraces = false) (d : Nat) {o : Nat} (ho : o = 1 ∨ o = 15) (hlv : ∀ j, j < 14 → lv (o + j) = true) (N : Nat) (p1 : Int32) (p2 : Int32) (M : zMem) : zT l Z lv ad (.code yX0_askForVote cX0_askForVote 3 (some .boolean)) yX0_askForVote (d + 2) false zbn [.ref (ad o), .int p1, .int p2] M (fX0_askForVote o N p1 p2 M) :=
  zT_of hl (by decide +kernel) (Nat.le_of_ble_eq_true rfl) (fun X hC hE hN => gX0_askForVote_B0 hC hE hN ho hlv N p1 p2 M)

def fX0_judgeHeld (o : Nat) (N : Nat) (p1 : Int32) (M : zMem) : zRES :=
  if zin p1 60 = true then
  zb (fJ6_bitCount_0f7a4 N (M.1 (o + 13) p1.toNatClampNeg) M) fun r2 M3 =>
  if r2 < 3 then
    zl (zsL M3 o 10 ((M3.2 o 10) &&& (((1 : Int64) <<< (p1.toInt64 &&& 63)) ^^^ (-1)))) fun M5 =>
    some (.inl 0, M5)
  else
    zl (zsL M3 o 10 ((M3.2 o 10) ||| ((1 : Int64) <<< (p1.toInt64 &&& 63)))) fun M6 =>
    zl (zsL M6 o 11 ((M6.2 o 11) ||| ((1 : Int64) <<< (p1.toInt64 &&& 63)))) fun M7 =>
    some (.inl 0, M7)
  else none
set_option maxRecDepth 20000 in
set_option maxHeartbeats 2000000 in
theorem gX0_judgeHeld_B0 {l : Launch} {Z : zZ} {lv : Nat → Bool} {ad : Nat → Nat} {d : Nat} {X : zX} {cs : Nat × Nat} (hC : zC l Z lv ad X RX0 cX0_judgeHeld 4 none (d + 1)) (hE : zEnd Z lv ad X true) (hN : zNoX X) {o : Nat} (ho : o = 1 ∨ o = 15) (hlv : ∀ j, j < 14 → lv (o + j) = true) (N : Nat) (p1 : Int32) (M : zMem) : zG l Z lv ad X cs 0 [(0, .ref (ad o)), (1, .int p1)] [] M (fX0_judgeHeld o N p1 M) := by
  unfold fX0_judgeHeld
  refine zg_lconst hC (v := 1) dX0_judgeHeld_0 (by decide) ?_
  refine zg_iload_n hC 1 dX0_judgeHeld_1 rfl ?_
  refine zg_lshl hC dX0_judgeHeld_2 ?_
  refine zg_lstore_n hC (L' := [(2, _), (0, _), (1, _)]) dX0_judgeHeld_3 (by decide) rfl ?_
  refine zg_aload_n hC 1 dX0_judgeHeld_4 rfl ?_
  refine zg_get hC (k := o) (v := .ref (ad (o + 13))) ffX0_35 dX0_judgeHeld_5 (hlv 0 (by decide)) (zka0 ho) rfl ?_
  refine zg_iload_n hC 2 dX0_judgeHeld_8 rfl ?_
  refine zg_iald hC (k := (o + 13)) dX0_judgeHeld_9 (hlv 13 (by decide)) (zka13 ho) (fun h1 => ?_)
  refine zg_callSi hC hE hN (As := [.int (M.1 (o + 13) p1.toNatClampNeg)]) (S := []) rfl (tJ6_bitCount_0f7a4 (zflag hC) d N (M.1 (o + 13) p1.toNatClampNeg) M) lkX0_76 rfl dX0_judgeHeld_10 (Nat.le_of_ble_eq_true rfl) (fun r2 M3 er2 => ?_)
  refine zg_iconst hC (v := 3) dX0_judgeHeld_13 (by decide) ?_
  refine zg_icmp_lt hC (tgt := 40) dX0_judgeHeld_14 (by decide) (fun c4 => ?_) (fun c4 => ?_)
  · refine zg_aload_n hC 1 dX0_judgeHeld_40 rfl ?_
    refine zg_dup hC dX0_judgeHeld_41 rfl ?_
    refine zg_get hC (k := o) (v := .long (M3.2 o 10)) ffX0_54 dX0_judgeHeld_42 (hlv 0 (by decide)) (zka0 ho) rfl ?_
    refine zg_lload_n hC 0 dX0_judgeHeld_45 rfl ?_
    refine zg_ldc2 hC (v := -1) dX0_judgeHeld_46 kcX0_107 ?_
    refine zg_lxor hC dX0_judgeHeld_49 ?_
    refine zg_land hC dX0_judgeHeld_50 ?_
    refine zg_putL hC (k := o) fpX0_54 dX0_judgeHeld_51 (hlv 0 (by decide)) (zka0 ho) rfl (fun M5 eM5 => ?_)
    exact zg_retv hC hE dX0_judgeHeld_54
  · refine zg_aload_n hC 1 dX0_judgeHeld_17 rfl ?_
    refine zg_dup hC dX0_judgeHeld_18 rfl ?_
    refine zg_get hC (k := o) (v := .long (M3.2 o 10)) ffX0_54 dX0_judgeHeld_19 (hlv 0 (by decide)) (zka0 ho) rfl ?_
    refine zg_lload_n hC 0 dX0_judgeHeld_22 rfl ?_
    refine zg_lor hC dX0_judgeHeld_23 ?_
    refine zg_putL hC (k := o) fpX0_54 dX0_judgeHeld_24 (hlv 0 (by decide)) (zka0 ho) rfl (fun M6 eM6 => ?_)
    refine zg_aload_n hC 1 dX0_judgeHeld_27 rfl ?_
    refine zg_dup hC dX0_judgeHeld_28 rfl ?_
    refine zg_get hC (k := o) (v := .long (M6.2 o 11)) ffX0_58 dX0_judgeHeld_29 (hlv 0 (by decide)) (zka0 ho) rfl ?_
    refine zg_lload_n hC 0 dX0_judgeHeld_32 rfl ?_
    refine zg_lor hC dX0_judgeHeld_33 ?_
    refine zg_putL hC (k := o) fpX0_58 dX0_judgeHeld_34 (hlv 0 (by decide)) (zka0 ho) rfl (fun M7 eM7 => ?_)
    refine zg_goto hC (tgt := 54) dX0_judgeHeld_37 (by decide) ?_
    exact zg_retv hC hE dX0_judgeHeld_54
theorem tX0_judgeHeld {l : Launch} {Z : zZ} {lv : Nat → Bool} {ad : Nat → Nat} (hl : l.stackTraces = false) (d : Nat) {o : Nat} (ho : o = 1 ∨ o = 15) (hlv : ∀ j, j < 14 → lv (o + j) = true) (N : Nat) (p1 : Int32) (M : zMem) : zT l Z lv ad (.code yX0_judgeHeld cX0_judgeHeld 4 none) yX0_judgeHeld (d + 1) true zbn [.ref (ad o), .int p1] M (fX0_judgeHeld o N p1 M) :=
  zT_of hl (by decide +kernel) (Nat.le_of_ble_eq_true rfl) (fun X hC hE hN => gX0_judgeHeld_B0 hC hE hN ho hlv N p1 M)

def fX0_append (o : Nat) (N : Nat) (p1 : Int32) (p2 : Int32) (M : zMem) : zRES :=
  if zin p1 5 = true then
  if zin p1 5 = true then
  if zin (M.1 (o + 11) p1.toNatClampNeg) 20 = true then
  zl (zsI M ((o + 5) + 1 + p1.toNatClampNeg) (M.1 (o + 11) p1.toNatClampNeg).toNatClampNeg p2) fun M4 =>
  if zin p1 5 = true then
  if zin p1 5 = true then
  zl (zsI M4 (o + 11) p1.toNatClampNeg ((M4.1 (o + 11) p1.toNatClampNeg) + 1)) fun M7 =>
  if zin p2 60 = true then
  if zin p2 60 = true then
  zl (zsI M7 (o + 13) p2.toNatClampNeg ((M7.1 (o + 13) p2.toNatClampNeg) ||| ((1 : Int32) <<< (p1 &&& 31)))) fun M10 =>
  zb (fX0_judgeHeld o N p2 M10) fun r11 M12 =>
  some (.inl 0, M12)
  else none
  else none
  else none
  else none
  else none
  else none
  else none
set_option maxRecDepth 20000 in
set_option maxHeartbeats 2000000 in
theorem gX0_append_B0 {l : Launch} {Z : zZ} {lv : Nat → Bool} {ad : Nat → Nat} {d : Nat} {X : zX} {cs : Nat × Nat} (hC : zC l Z lv ad X RX0 cX0_append 3 none (d + 2)) (hE : zEnd Z lv ad X true) (hN : zNoX X) {o : Nat} (ho : o = 1 ∨ o = 15) (hlv : ∀ j, j < 14 → lv (o + j) = true) (N : Nat) (p1 : Int32) (p2 : Int32) (M : zMem) : zG l Z lv ad X cs 0 [(0, .ref (ad o)), (1, .int p1), (2, .int p2)] [] M (fX0_append o N p1 p2 M) := by
  unfold fX0_append
  refine zg_aload_n hC 0 dX0_append_0 rfl ?_
  refine zg_get hC (k := o) (v := .ref (ad (o + 5))) ffX0_26 dX0_append_1 (hlv 0 (by decide)) (zka0 ho) rfl ?_
  refine zg_iload_n hC 1 dX0_append_4 rfl ?_
  refine zg_aald hC (k := (o + 5)) dX0_append_5 (hlv 5 (by decide)) (zka5 ho) (fun h1 => ?_)
  refine zg_aload_n hC 0 dX0_append_6 rfl ?_
  refine zg_get hC (k := o) (v := .ref (ad (o + 11))) ffX0_29 dX0_append_7 (hlv 0 (by decide)) (zka0 ho) rfl ?_
  refine zg_iload_n hC 1 dX0_append_10 rfl ?_
  refine zg_iald hC (k := (o + 11)) dX0_append_11 (hlv 11 (by decide)) (zka11 ho) (fun h2 => ?_)
  refine zg_iload_n hC 2 dX0_append_12 rfl ?_
  refine zg_iast hC (k := ((o + 5) + 1 + p1.toNatClampNeg)) dX0_append_13 (zrqA hlv (zin_lt h1)) (zrkA ho (zin_lt h1)) (fun h3 M4 eM4 => ?_)
  refine zg_aload_n hC 0 dX0_append_14 rfl ?_
  refine zg_get hC (k := o) (v := .ref (ad (o + 11))) ffX0_29 dX0_append_15 (hlv 0 (by decide)) (zka0 ho) rfl ?_
  refine zg_iload_n hC 1 dX0_append_18 rfl ?_
  refine zg_dup2_11 hC dX0_append_19 rfl rfl ?_
  refine zg_iald hC (k := (o + 11)) dX0_append_20 (hlv 11 (by decide)) (zka11 ho) (fun h5 => ?_)
  refine zg_iconst hC (v := 1) dX0_append_21 (by decide) ?_
  refine zg_iadd hC dX0_append_22 ?_
  refine zg_iast hC (k := (o + 11)) dX0_append_23 (hlv 11 (by decide)) (zka11 ho) (fun h6 M7 eM7 => ?_)
  refine zg_aload_n hC 0 dX0_append_24 rfl ?_
  refine zg_get hC (k := o) (v := .ref (ad (o + 13))) ffX0_35 dX0_append_25 (hlv 0 (by decide)) (zka0 ho) rfl ?_
  refine zg_iload_n hC 2 dX0_append_28 rfl ?_
  refine zg_dup2_11 hC dX0_append_29 rfl rfl ?_
  refine zg_iald hC (k := (o + 13)) dX0_append_30 (hlv 13 (by decide)) (zka13 ho) (fun h8 => ?_)
  refine zg_iconst hC (v := 1) dX0_append_31 (by decide) ?_
  refine zg_iload_n hC 1 dX0_append_32 rfl ?_
  refine zg_ishl hC dX0_append_33 ?_
  refine zg_ior hC dX0_append_34 ?_
  refine zg_iast hC (k := (o + 13)) dX0_append_35 (hlv 13 (by decide)) (zka13 ho) (fun h9 M10 eM10 => ?_)
  refine zg_aload_n hC 0 dX0_append_36 rfl ?_
  refine zg_iload_n hC 2 dX0_append_37 rfl ?_
  refine zg_callVv hC hE hN (k := o) (As := [.int p2]) (S := []) rfl (tX0_judgeHeld (zflag hC) d ho hlv N p2 M10) lkX0_103 rfl dX0_append_38 (hlv 0 (by decide)) (zka0 ho) rfl rfl (Nat.le_of_ble_eq_true rfl) (fun r11 M12 er11 => ?_)
  exact zg_retv hC hE dX0_append_41
theorem tX0_append {l : Launch} {Z : zZ} {lv : Nat → Bool} {ad : Nat → Nat} (hl : l.stackTraces = false) (d : Nat) {o : Nat} (ho : o = 1 ∨ o = 15) (hlv : ∀ j, j < 14 → lv (o + j) = true) (N : Nat) (p1 : Int32) (p2 : Int32) (M : zMem) : zT l Z lv ad (.code yX0_append cX0_append 3 none) yX0_append (d + 2) true zbn [.ref (ad o), .int p1, .int p2] M (fX0_append o N p1 p2 M) :=
  zT_of hl (by decide +kernel) (Nat.le_of_ble_eq_true rfl) (fun X hC hE hN => gX0_append_B0 hC hE hN ho hlv N p1 p2 M)

def fX0_addVersion (o : Nat) (N : Nat) (p1 : Int32) (M : zMem) : zRES :=
  zv (M.1 o 7) fun x1 =>
  zl (zsI M o 7 ((M.1 o 7) + 1)) fun M2 =>
  if zin p1 5 = true then
  if zin x1 60 = true then
  zl (zsI M2 (o + 12) x1.toNatClampNeg (M2.1 (o + 1) p1.toNatClampNeg)) fun M5 =>
  if zin x1 60 = true then
  zl (zsI M5 (o + 13) x1.toNatClampNeg 0) fun M7 =>
  zb (fX0_append o N p1 x1 M7) fun r8 M9 =>
  some (.inl x1, M9)
  else none
  else none
  else none
set_option maxRecDepth 20000 in
set_option maxHeartbeats 2000000 in
theorem gX0_addVersion_B0 {l : Launch} {Z : zZ} {lv : Nat → Bool} {ad : Nat → Nat} {d : Nat} {X : zX} {cs : Nat × Nat} (hC : zC l Z lv ad X RX0 cX0_addVersion 3 (some .int) (d + 3)) (hE : zEnd Z lv ad X false) (hN : zNoX X) {o : Nat} (ho : o = 1 ∨ o = 15) (hlv : ∀ j, j < 14 → lv (o + j) = true) (N : Nat) (p1 : Int32) (M : zMem) : zG l Z lv ad X cs 0 [(0, .ref (ad o)), (1, .int p1)] [] M (fX0_addVersion o N p1 M) := by
  unfold fX0_addVersion
  refine zg_aload_n hC 0 dX0_addVersion_0 rfl ?_
  refine zg_get hC (k := o) (v := .int (M.1 o 7)) ffX0_51 dX0_addVersion_1 (hlv 0 (by decide)) (zka0 ho) rfl ?_
  refine zg_nm (fun x1 ex1 => ?_)
  refine zg_istore_n hC (L' := [(2, _), (0, _), (1, _)]) dX0_addVersion_4 (by decide) rfl ?_
  refine zg_aload_n hC 1 dX0_addVersion_5 rfl ?_
  refine zg_dup hC dX0_addVersion_6 rfl ?_
  refine zg_get hC (k := o) (v := .int (M.1 o 7)) ffX0_51 dX0_addVersion_7 (hlv 0 (by decide)) (zka0 ho) rfl ?_
  refine zg_iconst hC (v := 1) dX0_addVersion_10 (by decide) ?_
  refine zg_iadd hC dX0_addVersion_11 ?_
  refine zg_putI hC (k := o) fpX0_51 dX0_addVersion_12 (hlv 0 (by decide)) (zka0 ho) rfl (fun M2 eM2 => ?_)
  refine zg_aload_n hC 1 dX0_addVersion_15 rfl ?_
  refine zg_get hC (k := o) (v := .ref (ad (o + 12))) ffX0_32 dX0_addVersion_16 (hlv 0 (by decide)) (zka0 ho) rfl ?_
  refine zg_iload_n hC 0 dX0_addVersion_19 rfl ?_
  refine zg_aload_n hC 1 dX0_addVersion_20 rfl ?_
  refine zg_get hC (k := o) (v := .ref (ad (o + 1))) ffX0_9 dX0_addVersion_21 (hlv 0 (by decide)) (zka0 ho) rfl ?_
  refine zg_iload_n hC 2 dX0_addVersion_24 rfl ?_
  refine zg_iald hC (k := (o + 1)) dX0_addVersion_25 (hlv 1 (by decide)) (zka1 ho) (fun h3 => ?_)
  refine zg_iast hC (k := (o + 12)) dX0_addVersion_26 (hlv 12 (by decide)) (zka12 ho) (fun h4 M5 eM5 => ?_)
  refine zg_aload_n hC 1 dX0_addVersion_27 rfl ?_
  refine zg_get hC (k := o) (v := .ref (ad (o + 13))) ffX0_35 dX0_addVersion_28 (hlv 0 (by decide)) (zka0 ho) rfl ?_
  refine zg_iload_n hC 0 dX0_addVersion_31 rfl ?_
  refine zg_iconst hC (v := 0) dX0_addVersion_32 (by decide) ?_
  refine zg_iast hC (k := (o + 13)) dX0_addVersion_33 (hlv 13 (by decide)) (zka13 ho) (fun h6 M7 eM7 => ?_)
  refine zg_aload_n hC 1 dX0_addVersion_34 rfl ?_
  refine zg_iload_n hC 2 dX0_addVersion_35 rfl ?_
  refine zg_iload_n hC 0 dX0_addVersion_36 rfl ?_
  refine zg_callVv hC hE hN (k := o) (As := [.int p1, .int x1]) (S := []) rfl (tX0_append (zflag hC) d ho hlv N p1 x1 M7) lkX0_85 rfl dX0_addVersion_37 (hlv 0 (by decide)) (zka0 ho) rfl rfl (Nat.le_of_ble_eq_true rfl) (fun r8 M9 er8 => ?_)
  refine zg_iload_n hC 0 dX0_addVersion_40 rfl ?_
  exact zg_ret hC hE dX0_addVersion_41
theorem tX0_addVersion {l : Launch} {Z : zZ} {lv : Nat → Bool} {ad : Nat → Nat} (hl : l.stackTraces = false) (d : Nat) {o : Nat} (ho : o = 1 ∨ o = 15) (hlv : ∀ j, j < 14 → lv (o + j) = true) (N : Nat) (p1 : Int32) (M : zMem) : zT l Z lv ad (.code yX0_addVersion cX0_addVersion 3 (some .int)) yX0_addVersion (d + 3) false zbn [.ref (ad o), .int p1] M (fX0_addVersion o N p1 M) :=
  zT_of hl (by decide +kernel) (Nat.le_of_ble_eq_true rfl) (fun X hC hE hN => gX0_addVersion_B0 hC hE hN ho hlv N p1 M)

def fX0_commonLength_B19 (o : Nat) (N : Nat) : Nat → Int32 → Int32 → Int32 → Int32 → zMem → zRES
  | 0, _, _, _, _, _ => none
  | n + 1, v1, v2, v3, v4, M =>
  if v3 ≤ v4 then
    if zin v2 5 = true then
    some (.inl (M.1 (o + 11) v2.toNatClampNeg), M)
    else none
  else
    if zin v1 5 = true then
    if zin v4 20 = true then
    if zin v2 5 = true then
    if zin v4 20 = true then
    if (M.1 ((o + 5) + 1 + v1.toNatClampNeg) v4.toNatClampNeg) = (M.1 ((o + 5) + 1 + v2.toNatClampNeg) v4.toNatClampNeg) then
      fX0_commonLength_B19 o N n v1 v2 v3 (v4 + 1) M
    else
      some (.inl v4, M)
    else none
    else none
    else none
    else none
def fX0_commonLength (o : Nat) (N : Nat) (p1 : Int32) (p2 : Int32) (M : zMem) : zRES :=
  if zin p1 5 = true then
  if zin p2 5 = true then
  zv (if M.1 (o + 11) p2.toNatClampNeg < M.1 (o + 11) p1.toNatClampNeg then M.1 (o + 11) p2.toNatClampNeg else M.1 (o + 11) p1.toNatClampNeg) fun x3 =>
  fX0_commonLength_B19 o N N p1 p2 x3 0 M
  else none
  else none
set_option maxRecDepth 20000 in
set_option maxHeartbeats 2000000 in
theorem gX0_commonLength_B19 {l : Launch} {Z : zZ} {lv : Nat → Bool} {ad : Nat → Nat} {d : Nat} {X : zX} {cs : Nat × Nat} (hC : zC l Z lv ad X RX0 cX0_commonLength 5 (some .int) (d + 1)) (hE : zEnd Z lv ad X false) (hN : zNoX X) {o : Nat} (ho : o = 1 ∨ o = 15) (hlv : ∀ j, j < 14 → lv (o + j) = true) (N : Nat) : ∀ (n : Nat) (v1 : Int32) (v2 : Int32) (v3 : Int32) (v4 : Int32) (M : zMem), zG l Z lv ad X cs 19 [(0, .ref (ad o)), (1, .int v1), (2, .int v2), (3, .int v3), (4, .int v4)] [] M (fX0_commonLength_B19 o N n v1 v2 v3 v4 M) := by
  intro n
  induction n with
  | zero =>
    intro v1 v2 v3 v4 M
    exact zg_none
  | succ n ih =>
  intro v1 v2 v3 v4 M
  rw [fX0_commonLength_B19]
  refine zg_iload hC 4 dX0_commonLength_19 rfl ?_
  refine zg_iload_n hC 3 dX0_commonLength_21 rfl ?_
  refine zg_icmp_ge hC (tgt := 55) dX0_commonLength_22 (by decide) (fun c4 => ?_) (fun c4 => ?_)
  · refine zg_aload_n hC 0 dX0_commonLength_55 rfl ?_
    refine zg_get hC (k := o) (v := .ref (ad (o + 11))) ffX0_29 dX0_commonLength_56 (hlv 0 (by decide)) (zka0 ho) rfl ?_
    refine zg_iload_n hC 2 dX0_commonLength_59 rfl ?_
    refine zg_iald hC (k := (o + 11)) dX0_commonLength_60 (hlv 11 (by decide)) (zka11 ho) (fun h5 => ?_)
    exact zg_ret hC hE dX0_commonLength_61
  · refine zg_aload_n hC 0 dX0_commonLength_25 rfl ?_
    refine zg_get hC (k := o) (v := .ref (ad (o + 5))) ffX0_26 dX0_commonLength_26 (hlv 0 (by decide)) (zka0 ho) rfl ?_
    refine zg_iload_n hC 1 dX0_commonLength_29 rfl ?_
    refine zg_aald hC (k := (o + 5)) dX0_commonLength_30 (hlv 5 (by decide)) (zka5 ho) (fun h6 => ?_)
    refine zg_iload hC 4 dX0_commonLength_31 rfl ?_
    refine zg_iald hC (k := ((o + 5) + 1 + v1.toNatClampNeg)) dX0_commonLength_33 (zrqA hlv (zin_lt h6)) (zrkA ho (zin_lt h6)) (fun h7 => ?_)
    refine zg_aload_n hC 0 dX0_commonLength_34 rfl ?_
    refine zg_get hC (k := o) (v := .ref (ad (o + 5))) ffX0_26 dX0_commonLength_35 (hlv 0 (by decide)) (zka0 ho) rfl ?_
    refine zg_iload_n hC 2 dX0_commonLength_38 rfl ?_
    refine zg_aald hC (k := (o + 5)) dX0_commonLength_39 (hlv 5 (by decide)) (zka5 ho) (fun h8 => ?_)
    refine zg_iload hC 4 dX0_commonLength_40 rfl ?_
    refine zg_iald hC (k := ((o + 5) + 1 + v2.toNatClampNeg)) dX0_commonLength_42 (zrqA hlv (zin_lt h8)) (zrkA ho (zin_lt h8)) (fun h9 => ?_)
    refine zg_icmp_eq hC (tgt := 49) dX0_commonLength_43 (by decide) (fun c10 => ?_) (fun c10 => ?_)
    · refine zg_iinc hC 4 (v := v4 + 1) (L' := [(4, _), (0, _), (1, _), (2, _), (3, _)]) dX0_commonLength_49 rfl (by rfl) (by decide) rfl ?_
      refine zg_goto hC (tgt := 19) dX0_commonLength_52 (by decide) ?_
      exact zg_sub [1, 2, 3, 4, 0] rfl (ih v1 v2 v3 (v4 + 1) M)
    · refine zg_iload hC 4 dX0_commonLength_46 rfl ?_
      exact zg_ret hC hE dX0_commonLength_48
set_option maxRecDepth 20000 in
set_option maxHeartbeats 2000000 in
theorem gX0_commonLength_B0 {l : Launch} {Z : zZ} {lv : Nat → Bool} {ad : Nat → Nat} {d : Nat} {X : zX} {cs : Nat × Nat} (hC : zC l Z lv ad X RX0 cX0_commonLength 5 (some .int) (d + 1)) (hE : zEnd Z lv ad X false) (hN : zNoX X) {o : Nat} (ho : o = 1 ∨ o = 15) (hlv : ∀ j, j < 14 → lv (o + j) = true) (N : Nat) (p1 : Int32) (p2 : Int32) (M : zMem) : zG l Z lv ad X cs 0 [(0, .ref (ad o)), (1, .int p1), (2, .int p2)] [] M (fX0_commonLength o N p1 p2 M) := by
  unfold fX0_commonLength
  refine zg_aload_n hC 0 dX0_commonLength_0 rfl ?_
  refine zg_get hC (k := o) (v := .ref (ad (o + 11))) ffX0_29 dX0_commonLength_1 (hlv 0 (by decide)) (zka0 ho) rfl ?_
  refine zg_iload_n hC 1 dX0_commonLength_4 rfl ?_
  refine zg_iald hC (k := (o + 11)) dX0_commonLength_5 (hlv 11 (by decide)) (zka11 ho) (fun h1 => ?_)
  refine zg_aload_n hC 0 dX0_commonLength_6 rfl ?_
  refine zg_get hC (k := o) (v := .ref (ad (o + 11))) ffX0_29 dX0_commonLength_7 (hlv 0 (by decide)) (zka0 ho) rfl ?_
  refine zg_iload_n hC 2 dX0_commonLength_10 rfl ?_
  refine zg_iald hC (k := (o + 11)) dX0_commonLength_11 (hlv 11 (by decide)) (zka11 ho) (fun h2 => ?_)
  refine zg_mmin hC lkX0_98 dX0_commonLength_12 (Nat.le_of_ble_eq_true rfl) ?_
  refine zg_nm (fun x3 ex3 => ?_)
  refine zg_istore_n hC (L' := [(3, _), (0, _), (1, _), (2, _)]) dX0_commonLength_15 (by decide) rfl ?_
  refine zg_iconst hC (v := 0) dX0_commonLength_16 (by decide) ?_
  refine zg_istore hC (L' := [(4, _), (3, _), (0, _), (1, _), (2, _)]) dX0_commonLength_17 (by decide) rfl ?_
  exact zg_sub [2, 3, 4, 1, 0] rfl (gX0_commonLength_B19 hC hE hN ho hlv N N p1 p2 x3 0 M)
theorem tX0_commonLength {l : Launch} {Z : zZ} {lv : Nat → Bool} {ad : Nat → Nat} (hl : l.stackTraces = false) (d : Nat) {o : Nat} (ho : o = 1 ∨ o = 15) (hlv : ∀ j, j < 14 → lv (o + j) = true) (N : Nat) (p1 : Int32) (p2 : Int32) (M : zMem) : zT l Z lv ad (.code yX0_commonLength cX0_commonLength 5 (some .int)) yX0_commonLength (d + 1) false zbn [.ref (ad o), .int p1, .int p2] M (fX0_commonLength o N p1 p2 M) :=
  zT_of hl (by decide +kernel) (Nat.le_of_ble_eq_true rfl) (fun X hC hE hN => gX0_commonLength_B0 hC hE hN ho hlv N p1 p2 M)

def fX0_cutAt_B2 (o : Nat) (N : Nat) : Nat → Int32 → Int32 → Int32 → zMem → zRES
  | 0, _, _, _, _ => none
  | n + 1, v1, v2, v3, M =>
  if zin v1 5 = true then
  if (M.1 (o + 11) v1.toNatClampNeg) ≤ v3 then
    if zin v1 5 = true then
    zl (zsI M (o + 11) v1.toNatClampNeg v2) fun M4 =>
    some (.inl 0, M4)
    else none
  else
    if zin v1 5 = true then
    if zin v3 20 = true then
    zv (M.1 ((o + 5) + 1 + v1.toNatClampNeg) v3.toNatClampNeg) fun x7 =>
    if zin x7 60 = true then
    if zin x7 60 = true then
    zl (zsI M (o + 13) x7.toNatClampNeg ((M.1 (o + 13) x7.toNatClampNeg) &&& (((1 : Int32) <<< (v1 &&& 31)) ^^^ (-1)))) fun M10 =>
    zb (fX0_judgeHeld o N x7 M10) fun r11 M12 =>
    fX0_cutAt_B2 o N n v1 v2 (v3 + 1) M12
    else none
    else none
    else none
    else none
  else none
def fX0_cutAt (o : Nat) (N : Nat) (p1 : Int32) (p2 : Int32) (M : zMem) : zRES :=
  fX0_cutAt_B2 o N N p1 p2 p2 M
set_option maxRecDepth 20000 in
set_option maxHeartbeats 2000000 in
theorem gX0_cutAt_B2 {l : Launch} {Z : zZ} {lv : Nat → Bool} {ad : Nat → Nat} {d : Nat} {X : zX} {cs : Nat × Nat} (hC : zC l Z lv ad X RX0 cX0_cutAt 5 none (d + 2)) (hE : zEnd Z lv ad X true) (hN : zNoX X) {o : Nat} (ho : o = 1 ∨ o = 15) (hlv : ∀ j, j < 14 → lv (o + j) = true) (N : Nat) : ∀ (n : Nat) (v1 : Int32) (v2 : Int32) (v3 : Int32) (M : zMem), zG l Z lv ad X cs 2 [(0, .ref (ad o)), (1, .int v1), (2, .int v2), (3, .int v3)] [] M (fX0_cutAt_B2 o N n v1 v2 v3 M) := by
  intro n
  induction n with
  | zero =>
    intro v1 v2 v3 M
    exact zg_none
  | succ n ih =>
  intro v1 v2 v3 M
  rw [fX0_cutAt_B2]
  refine zg_iload_n hC 3 dX0_cutAt_2 rfl ?_
  refine zg_aload_n hC 0 dX0_cutAt_3 rfl ?_
  refine zg_get hC (k := o) (v := .ref (ad (o + 11))) ffX0_29 dX0_cutAt_4 (hlv 0 (by decide)) (zka0 ho) rfl ?_
  refine zg_iload_n hC 1 dX0_cutAt_7 rfl ?_
  refine zg_iald hC (k := (o + 11)) dX0_cutAt_8 (hlv 11 (by decide)) (zka11 ho) (fun h1 => ?_)
  refine zg_icmp_ge hC (tgt := 49) dX0_cutAt_9 (by decide) (fun c2 => ?_) (fun c2 => ?_)
  · refine zg_aload_n hC 0 dX0_cutAt_49 rfl ?_
    refine zg_get hC (k := o) (v := .ref (ad (o + 11))) ffX0_29 dX0_cutAt_50 (hlv 0 (by decide)) (zka0 ho) rfl ?_
    refine zg_iload_n hC 1 dX0_cutAt_53 rfl ?_
    refine zg_iload_n hC 2 dX0_cutAt_54 rfl ?_
    refine zg_iast hC (k := (o + 11)) dX0_cutAt_55 (hlv 11 (by decide)) (zka11 ho) (fun h3 M4 eM4 => ?_)
    exact zg_retv hC hE dX0_cutAt_56
  · refine zg_aload_n hC 0 dX0_cutAt_12 rfl ?_
    refine zg_get hC (k := o) (v := .ref (ad (o + 5))) ffX0_26 dX0_cutAt_13 (hlv 0 (by decide)) (zka0 ho) rfl ?_
    refine zg_iload_n hC 1 dX0_cutAt_16 rfl ?_
    refine zg_aald hC (k := (o + 5)) dX0_cutAt_17 (hlv 5 (by decide)) (zka5 ho) (fun h5 => ?_)
    refine zg_iload_n hC 3 dX0_cutAt_18 rfl ?_
    refine zg_iald hC (k := ((o + 5) + 1 + v1.toNatClampNeg)) dX0_cutAt_19 (zrqA hlv (zin_lt h5)) (zrkA ho (zin_lt h5)) (fun h6 => ?_)
    refine zg_nm (fun x7 ex7 => ?_)
    refine zg_istore hC (L' := [(4, _), (0, _), (1, _), (2, _), (3, _)]) dX0_cutAt_20 (by decide) rfl ?_
    refine zg_aload_n hC 1 dX0_cutAt_22 rfl ?_
    refine zg_get hC (k := o) (v := .ref (ad (o + 13))) ffX0_35 dX0_cutAt_23 (hlv 0 (by decide)) (zka0 ho) rfl ?_
    refine zg_iload hC 0 dX0_cutAt_26 rfl ?_
    refine zg_dup2_11 hC dX0_cutAt_28 rfl rfl ?_
    refine zg_iald hC (k := (o + 13)) dX0_cutAt_29 (hlv 13 (by decide)) (zka13 ho) (fun h8 => ?_)
    refine zg_iconst hC (v := 1) dX0_cutAt_30 (by decide) ?_
    refine zg_iload_n hC 2 dX0_cutAt_31 rfl ?_
    refine zg_ishl hC dX0_cutAt_32 ?_
    refine zg_iconst hC (v := (-1)) dX0_cutAt_33 (by decide) ?_
    refine zg_ixor hC dX0_cutAt_34 ?_
    refine zg_iand hC dX0_cutAt_35 ?_
    refine zg_iast hC (k := (o + 13)) dX0_cutAt_36 (hlv 13 (by decide)) (zka13 ho) (fun h9 M10 eM10 => ?_)
    refine zg_aload_n hC 1 dX0_cutAt_37 rfl ?_
    refine zg_iload hC 0 dX0_cutAt_38 rfl ?_
    refine zg_callVv hC hE hN (k := o) (As := [.int x7]) (S := []) rfl (tX0_judgeHeld (zflag hC) d ho hlv N x7 M10) lkX0_103 rfl dX0_cutAt_40 (hlv 0 (by decide)) (zka0 ho) rfl rfl (Nat.le_of_ble_eq_true rfl) (fun r11 M12 er11 => ?_)
    refine zg_iinc hC 4 (v := v3 + 1) (L' := [(3, _), (4, _), (0, _), (1, _), (2, _)]) dX0_cutAt_43 rfl (by rfl) (by decide) rfl ?_
    refine zg_goto hC (tgt := 2) dX0_cutAt_46 (by decide) ?_
    exact zg_sub [2, 3, 4, 0] rfl (ih v1 v2 (v3 + 1) M12)
set_option maxRecDepth 20000 in
set_option maxHeartbeats 2000000 in
theorem gX0_cutAt_B0 {l : Launch} {Z : zZ} {lv : Nat → Bool} {ad : Nat → Nat} {d : Nat} {X : zX} {cs : Nat × Nat} (hC : zC l Z lv ad X RX0 cX0_cutAt 5 none (d + 2)) (hE : zEnd Z lv ad X true) (hN : zNoX X) {o : Nat} (ho : o = 1 ∨ o = 15) (hlv : ∀ j, j < 14 → lv (o + j) = true) (N : Nat) (p1 : Int32) (p2 : Int32) (M : zMem) : zG l Z lv ad X cs 0 [(0, .ref (ad o)), (1, .int p1), (2, .int p2)] [] M (fX0_cutAt o N p1 p2 M) := by
  unfold fX0_cutAt
  refine zg_iload_n hC 2 dX0_cutAt_0 rfl ?_
  refine zg_istore_n hC (L' := [(3, _), (0, _), (1, _), (2, _)]) dX0_cutAt_1 (by decide) rfl ?_
  exact zg_sub [1, 2, 3, 0] rfl (gX0_cutAt_B2 hC hE hN ho hlv N N p1 p2 p2 M)
theorem tX0_cutAt {l : Launch} {Z : zZ} {lv : Nat → Bool} {ad : Nat → Nat} (hl : l.stackTraces = false) (d : Nat) {o : Nat} (ho : o = 1 ∨ o = 15) (hlv : ∀ j, j < 14 → lv (o + j) = true) (N : Nat) (p1 : Int32) (p2 : Int32) (M : zMem) : zT l Z lv ad (.code yX0_cutAt cX0_cutAt 5 none) yX0_cutAt (d + 2) true zbn [.ref (ad o), .int p1, .int p2] M (fX0_cutAt o N p1 p2 M) :=
  zT_of hl (by decide +kernel) (Nat.le_of_ble_eq_true rfl) (fun X hC hE hN => gX0_cutAt_B0 hC hE hN ho hlv N p1 p2 M)

def fX0_copyRest_B10 (o : Nat) (N : Nat) : Nat → Int32 → Int32 → Int32 → Int32 → zMem → zRES
  | 0, _, _, _, _, _ => none
  | n + 1, v1, v2, v3, v4, M =>
  if zin v1 5 = true then
  if (M.1 (o + 11) v1.toNatClampNeg) ≤ v4 then
    some (.inl v3, M)
  else
    if zin v1 5 = true then
    if zin v4 20 = true then
    zb (fX0_append o N v2 (M.1 ((o + 5) + 1 + v1.toNatClampNeg) v4.toNatClampNeg) M) fun r7 M8 =>
    fX0_copyRest_B10 o N n v1 v2 (v3 + 1) (v4 + 1) M8
    else none
    else none
  else none
def fX0_copyRest (o : Nat) (N : Nat) (p1 : Int32) (p2 : Int32) (M : zMem) : zRES :=
  if zin p2 5 = true then
  zv (M.1 (o + 11) p2.toNatClampNeg) fun x2 =>
  fX0_copyRest_B10 o N N p1 p2 0 x2 M
  else none
set_option maxRecDepth 20000 in
set_option maxHeartbeats 2000000 in
theorem gX0_copyRest_B10 {l : Launch} {Z : zZ} {lv : Nat → Bool} {ad : Nat → Nat} {d : Nat} {X : zX} {cs : Nat × Nat} (hC : zC l Z lv ad X RX0 cX0_copyRest 5 (some .int) (d + 3)) (hE : zEnd Z lv ad X false) (hN : zNoX X) {o : Nat} (ho : o = 1 ∨ o = 15) (hlv : ∀ j, j < 14 → lv (o + j) = true) (N : Nat) : ∀ (n : Nat) (v1 : Int32) (v2 : Int32) (v3 : Int32) (v4 : Int32) (M : zMem), zG l Z lv ad X cs 10 [(0, .ref (ad o)), (1, .int v1), (2, .int v2), (3, .int v3), (4, .int v4)] [] M (fX0_copyRest_B10 o N n v1 v2 v3 v4 M) := by
  intro n
  induction n with
  | zero =>
    intro v1 v2 v3 v4 M
    exact zg_none
  | succ n ih =>
  intro v1 v2 v3 v4 M
  rw [fX0_copyRest_B10]
  refine zg_iload hC 4 dX0_copyRest_10 rfl ?_
  refine zg_aload_n hC 0 dX0_copyRest_12 rfl ?_
  refine zg_get hC (k := o) (v := .ref (ad (o + 11))) ffX0_29 dX0_copyRest_13 (hlv 0 (by decide)) (zka0 ho) rfl ?_
  refine zg_iload_n hC 1 dX0_copyRest_16 rfl ?_
  refine zg_iald hC (k := (o + 11)) dX0_copyRest_17 (hlv 11 (by decide)) (zka11 ho) (fun h3 => ?_)
  refine zg_icmp_ge hC (tgt := 44) dX0_copyRest_18 (by decide) (fun c4 => ?_) (fun c4 => ?_)
  · refine zg_iload_n hC 3 dX0_copyRest_44 rfl ?_
    exact zg_ret hC hE dX0_copyRest_45
  · refine zg_aload_n hC 0 dX0_copyRest_21 rfl ?_
    refine zg_iload_n hC 2 dX0_copyRest_22 rfl ?_
    refine zg_aload_n hC 0 dX0_copyRest_23 rfl ?_
    refine zg_get hC (k := o) (v := .ref (ad (o + 5))) ffX0_26 dX0_copyRest_24 (hlv 0 (by decide)) (zka0 ho) rfl ?_
    refine zg_iload_n hC 1 dX0_copyRest_27 rfl ?_
    refine zg_aald hC (k := (o + 5)) dX0_copyRest_28 (hlv 5 (by decide)) (zka5 ho) (fun h5 => ?_)
    refine zg_iload hC 4 dX0_copyRest_29 rfl ?_
    refine zg_iald hC (k := ((o + 5) + 1 + v1.toNatClampNeg)) dX0_copyRest_31 (zrqA hlv (zin_lt h5)) (zrkA ho (zin_lt h5)) (fun h6 => ?_)
    refine zg_callVv hC hE hN (k := o) (As := [.int v2, .int (M.1 ((o + 5) + 1 + v1.toNatClampNeg) v4.toNatClampNeg)]) (S := []) rfl (tX0_append (zflag hC) d ho hlv N v2 (M.1 ((o + 5) + 1 + v1.toNatClampNeg) v4.toNatClampNeg) M) lkX0_85 rfl dX0_copyRest_32 (hlv 0 (by decide)) (zka0 ho) rfl rfl (Nat.le_of_ble_eq_true rfl) (fun r7 M8 er7 => ?_)
    refine zg_iinc hC 3 (v := v3 + 1) (L' := [(3, _), (0, _), (1, _), (2, _), (4, _)]) dX0_copyRest_35 rfl (by rfl) (by decide) rfl ?_
    refine zg_iinc hC 4 (v := v4 + 1) (L' := [(4, _), (3, _), (0, _), (1, _), (2, _)]) dX0_copyRest_38 rfl (by rfl) (by decide) rfl ?_
    refine zg_goto hC (tgt := 10) dX0_copyRest_41 (by decide) ?_
    exact zg_sub [2, 3, 4, 1, 0] rfl (ih v1 v2 (v3 + 1) (v4 + 1) M8)
set_option maxRecDepth 20000 in
set_option maxHeartbeats 2000000 in
theorem gX0_copyRest_B0 {l : Launch} {Z : zZ} {lv : Nat → Bool} {ad : Nat → Nat} {d : Nat} {X : zX} {cs : Nat × Nat} (hC : zC l Z lv ad X RX0 cX0_copyRest 5 (some .int) (d + 3)) (hE : zEnd Z lv ad X false) (hN : zNoX X) {o : Nat} (ho : o = 1 ∨ o = 15) (hlv : ∀ j, j < 14 → lv (o + j) = true) (N : Nat) (p1 : Int32) (p2 : Int32) (M : zMem) : zG l Z lv ad X cs 0 [(0, .ref (ad o)), (1, .int p1), (2, .int p2)] [] M (fX0_copyRest o N p1 p2 M) := by
  unfold fX0_copyRest
  refine zg_iconst hC (v := 0) dX0_copyRest_0 (by decide) ?_
  refine zg_istore_n hC (L' := [(3, _), (0, _), (1, _), (2, _)]) dX0_copyRest_1 (by decide) rfl ?_
  refine zg_aload_n hC 1 dX0_copyRest_2 rfl ?_
  refine zg_get hC (k := o) (v := .ref (ad (o + 11))) ffX0_29 dX0_copyRest_3 (hlv 0 (by decide)) (zka0 ho) rfl ?_
  refine zg_iload_n hC 3 dX0_copyRest_6 rfl ?_
  refine zg_iald hC (k := (o + 11)) dX0_copyRest_7 (hlv 11 (by decide)) (zka11 ho) (fun h1 => ?_)
  refine zg_nm (fun x2 ex2 => ?_)
  refine zg_istore hC (L' := [(4, _), (3, _), (0, _), (1, _), (2, _)]) dX0_copyRest_8 (by decide) rfl ?_
  exact zg_sub [2, 3, 4, 1, 0] rfl (gX0_copyRest_B10 hC hE hN ho hlv N N p1 p2 0 x2 M)
theorem tX0_copyRest {l : Launch} {Z : zZ} {lv : Nat → Bool} {ad : Nat → Nat} (hl : l.stackTraces = false) (d : Nat) {o : Nat} (ho : o = 1 ∨ o = 15) (hlv : ∀ j, j < 14 → lv (o + j) = true) (N : Nat) (p1 : Int32) (p2 : Int32) (M : zMem) : zT l Z lv ad (.code yX0_copyRest cX0_copyRest 5 (some .int)) yX0_copyRest (d + 3) false zbn [.ref (ad o), .int p1, .int p2] M (fX0_copyRest o N p1 p2 M) :=
  zT_of hl (by decide +kernel) (Nat.le_of_ble_eq_true rfl) (fun X hC hE hN => gX0_copyRest_B0 hC hE hN ho hlv N p1 p2 M)

def fX0_sendLog_B74 (o : Nat) (N : Nat) (v1 : Int32) (v2 : Int32) (M : zMem) : zRES :=
  zb (fX0_commonLength o N v1 v2 M) fun r17 M18 =>
  zb (fX0_cutAt o N v2 r17 M18) fun r19 M20 =>
  zb (fX0_copyRest o N v1 v2 M20) fun r21 M22 =>
  some (.inl r21, M22)
def fX0_sendLog (o : Nat) (N : Nat) (p1 : Int32) (p2 : Int32) (M : zMem) : zRES :=
  if zin p2 5 = true then
  if zin p1 5 = true then
  if (M.1 (o + 1) p2.toNatClampNeg) ≤ (M.1 (o + 1) p1.toNatClampNeg) then
    if zin p2 5 = true then
    if zin p1 5 = true then
    if (M.1 (o + 1) p1.toNatClampNeg) ≤ (M.1 (o + 1) p2.toNatClampNeg) then
      if zin p2 5 = true then
      if (M.1 (o + 2) p2.toNatClampNeg) = 1 then
        if zin p2 5 = true then
        zl (zsI M (o + 2) p2.toNatClampNeg 0) fun M10 =>
        fX0_sendLog_B74 o N p1 p2 M10
        else none
      else
        fX0_sendLog_B74 o N p1 p2 M
      else none
    else
      if zin p1 5 = true then
      zb (fX0_takeTerm o N p2 (M.1 (o + 1) p1.toNatClampNeg) M) fun r12 M13 =>
      fX0_sendLog_B74 o N p1 p2 M13
      else none
    else none
    else none
  else
    if zin p2 5 = true then
    zb (fX0_takeTerm o N p1 (M.1 (o + 1) p2.toNatClampNeg) M) fun r15 M16 =>
    some (.inl (-1), M16)
    else none
  else none
  else none
set_option maxRecDepth 20000 in
set_option maxHeartbeats 2000000 in
theorem gX0_sendLog_B74 {l : Launch} {Z : zZ} {lv : Nat → Bool} {ad : Nat → Nat} {d : Nat} {X : zX} {cs : Nat × Nat} (hC : zC l Z lv ad X RX0 cX0_sendLog 3 (some .int) (d + 4)) (hE : zEnd Z lv ad X false) (hN : zNoX X) {o : Nat} (ho : o = 1 ∨ o = 15) (hlv : ∀ j, j < 14 → lv (o + j) = true) (N : Nat) (v1 : Int32) (v2 : Int32) (M : zMem) : zG l Z lv ad X cs 74 [(0, .ref (ad o)), (1, .int v1), (2, .int v2)] [] M (fX0_sendLog_B74 o N v1 v2 M) := by
  unfold fX0_sendLog_B74
  refine zg_aload_n hC 0 dX0_sendLog_74 rfl ?_
  refine zg_iload_n hC 2 dX0_sendLog_75 rfl ?_
  refine zg_aload_n hC 0 dX0_sendLog_76 rfl ?_
  refine zg_iload_n hC 1 dX0_sendLog_77 rfl ?_
  refine zg_iload_n hC 2 dX0_sendLog_78 rfl ?_
  refine zg_callVi hC hE hN (k := o) (As := [.int v1, .int v2]) (S := [.int v2, .ref (ad o)]) rfl (tX0_commonLength (zflag hC) (d + 2) ho hlv N v1 v2 M) lkX0_88 rfl dX0_sendLog_79 (hlv 0 (by decide)) (zka0 ho) rfl rfl (Nat.le_of_ble_eq_true rfl) (fun r17 M18 er17 => ?_)
  refine zg_callVv hC hE hN (k := o) (As := [.int v2, .int r17]) (S := []) rfl (tX0_cutAt (zflag hC) (d + 1) ho hlv N v2 r17 M18) lkX0_92 rfl dX0_sendLog_82 (hlv 0 (by decide)) (zka0 ho) rfl rfl (Nat.le_of_ble_eq_true rfl) (fun r19 M20 er19 => ?_)
  refine zg_aload_n hC 0 dX0_sendLog_85 rfl ?_
  refine zg_iload_n hC 1 dX0_sendLog_86 rfl ?_
  refine zg_iload_n hC 2 dX0_sendLog_87 rfl ?_
  refine zg_callVi hC hE hN (k := o) (As := [.int v1, .int v2]) (S := []) rfl (tX0_copyRest (zflag hC) d ho hlv N v1 v2 M20) lkX0_95 rfl dX0_sendLog_88 (hlv 0 (by decide)) (zka0 ho) rfl rfl (Nat.le_of_ble_eq_true rfl) (fun r21 M22 er21 => ?_)
  exact zg_ret hC hE dX0_sendLog_91
set_option maxRecDepth 20000 in
set_option maxHeartbeats 2000000 in
theorem gX0_sendLog_B0 {l : Launch} {Z : zZ} {lv : Nat → Bool} {ad : Nat → Nat} {d : Nat} {X : zX} {cs : Nat × Nat} (hC : zC l Z lv ad X RX0 cX0_sendLog 3 (some .int) (d + 4)) (hE : zEnd Z lv ad X false) (hN : zNoX X) {o : Nat} (ho : o = 1 ∨ o = 15) (hlv : ∀ j, j < 14 → lv (o + j) = true) (N : Nat) (p1 : Int32) (p2 : Int32) (M : zMem) : zG l Z lv ad X cs 0 [(0, .ref (ad o)), (1, .int p1), (2, .int p2)] [] M (fX0_sendLog o N p1 p2 M) := by
  unfold fX0_sendLog
  refine zg_aload_n hC 0 dX0_sendLog_0 rfl ?_
  refine zg_get hC (k := o) (v := .ref (ad (o + 1))) ffX0_9 dX0_sendLog_1 (hlv 0 (by decide)) (zka0 ho) rfl ?_
  refine zg_iload_n hC 2 dX0_sendLog_4 rfl ?_
  refine zg_iald hC (k := (o + 1)) dX0_sendLog_5 (hlv 1 (by decide)) (zka1 ho) (fun h1 => ?_)
  refine zg_aload_n hC 0 dX0_sendLog_6 rfl ?_
  refine zg_get hC (k := o) (v := .ref (ad (o + 1))) ffX0_9 dX0_sendLog_7 (hlv 0 (by decide)) (zka0 ho) rfl ?_
  refine zg_iload_n hC 1 dX0_sendLog_10 rfl ?_
  refine zg_iald hC (k := (o + 1)) dX0_sendLog_11 (hlv 1 (by decide)) (zka1 ho) (fun h2 => ?_)
  refine zg_icmp_le hC (tgt := 28) dX0_sendLog_12 (by decide) (fun c3 => ?_) (fun c3 => ?_)
  · refine zg_aload_n hC 0 dX0_sendLog_28 rfl ?_
    refine zg_get hC (k := o) (v := .ref (ad (o + 1))) ffX0_9 dX0_sendLog_29 (hlv 0 (by decide)) (zka0 ho) rfl ?_
    refine zg_iload_n hC 2 dX0_sendLog_32 rfl ?_
    refine zg_iald hC (k := (o + 1)) dX0_sendLog_33 (hlv 1 (by decide)) (zka1 ho) (fun h4 => ?_)
    refine zg_aload_n hC 0 dX0_sendLog_34 rfl ?_
    refine zg_get hC (k := o) (v := .ref (ad (o + 1))) ffX0_9 dX0_sendLog_35 (hlv 0 (by decide)) (zka0 ho) rfl ?_
    refine zg_iload_n hC 1 dX0_sendLog_38 rfl ?_
    refine zg_iald hC (k := (o + 1)) dX0_sendLog_39 (hlv 1 (by decide)) (zka1 ho) (fun h5 => ?_)
    refine zg_icmp_ge hC (tgt := 57) dX0_sendLog_40 (by decide) (fun c6 => ?_) (fun c6 => ?_)
    · refine zg_aload_n hC 0 dX0_sendLog_57 rfl ?_
      refine zg_get hC (k := o) (v := .ref (ad (o + 2))) ffX0_15 dX0_sendLog_58 (hlv 0 (by decide)) (zka0 ho) rfl ?_
      refine zg_iload_n hC 2 dX0_sendLog_61 rfl ?_
      refine zg_iald hC (k := (o + 2)) dX0_sendLog_62 (hlv 2 (by decide)) (zka2 ho) (fun h7 => ?_)
      refine zg_iconst hC (v := 1) dX0_sendLog_63 (by decide) ?_
      refine zg_icmp_ne hC (tgt := 74) dX0_sendLog_64 (by decide) (fun c8 => ?_) (fun c8 => ?_)
      · refine zg_aload_n hC 0 dX0_sendLog_67 rfl ?_
        refine zg_get hC (k := o) (v := .ref (ad (o + 2))) ffX0_15 dX0_sendLog_68 (hlv 0 (by decide)) (zka0 ho) rfl ?_
        refine zg_iload_n hC 2 dX0_sendLog_71 rfl ?_
        refine zg_iconst hC (v := 0) dX0_sendLog_72 (by decide) ?_
        refine zg_iast hC (k := (o + 2)) dX0_sendLog_73 (hlv 2 (by decide)) (zka2 ho) (fun h9 M10 eM10 => ?_)
        exact zg_sub [0, 1, 2] rfl (gX0_sendLog_B74 hC hE hN ho hlv N p1 p2 M10)
      · exact zg_sub [0, 1, 2] rfl (gX0_sendLog_B74 hC hE hN ho hlv N p1 p2 M)
    · refine zg_aload_n hC 0 dX0_sendLog_43 rfl ?_
      refine zg_iload_n hC 2 dX0_sendLog_44 rfl ?_
      refine zg_aload_n hC 0 dX0_sendLog_45 rfl ?_
      refine zg_get hC (k := o) (v := .ref (ad (o + 1))) ffX0_9 dX0_sendLog_46 (hlv 0 (by decide)) (zka0 ho) rfl ?_
      refine zg_iload_n hC 1 dX0_sendLog_49 rfl ?_
      refine zg_iald hC (k := (o + 1)) dX0_sendLog_50 (hlv 1 (by decide)) (zka1 ho) (fun h11 => ?_)
      refine zg_callVv hC hE hN (k := o) (As := [.int p2, .int (M.1 (o + 1) p1.toNatClampNeg)]) (S := []) rfl (tX0_takeTerm (zflag hC) (d + 3) ho hlv N p2 (M.1 (o + 1) p1.toNatClampNeg) M) lkX0_65 rfl dX0_sendLog_51 (hlv 0 (by decide)) (zka0 ho) rfl rfl (Nat.le_of_ble_eq_true rfl) (fun r12 M13 er12 => ?_)
      refine zg_goto hC (tgt := 74) dX0_sendLog_54 (by decide) ?_
      exact zg_sub [0, 1, 2] rfl (gX0_sendLog_B74 hC hE hN ho hlv N p1 p2 M13)
  · refine zg_aload_n hC 0 dX0_sendLog_15 rfl ?_
    refine zg_iload_n hC 1 dX0_sendLog_16 rfl ?_
    refine zg_aload_n hC 0 dX0_sendLog_17 rfl ?_
    refine zg_get hC (k := o) (v := .ref (ad (o + 1))) ffX0_9 dX0_sendLog_18 (hlv 0 (by decide)) (zka0 ho) rfl ?_
    refine zg_iload_n hC 2 dX0_sendLog_21 rfl ?_
    refine zg_iald hC (k := (o + 1)) dX0_sendLog_22 (hlv 1 (by decide)) (zka1 ho) (fun h14 => ?_)
    refine zg_callVv hC hE hN (k := o) (As := [.int p1, .int (M.1 (o + 1) p2.toNatClampNeg)]) (S := []) rfl (tX0_takeTerm (zflag hC) (d + 3) ho hlv N p1 (M.1 (o + 1) p2.toNatClampNeg) M) lkX0_65 rfl dX0_sendLog_23 (hlv 0 (by decide)) (zka0 ho) rfl rfl (Nat.le_of_ble_eq_true rfl) (fun r15 M16 er15 => ?_)
    refine zg_iconst hC (v := (-1)) dX0_sendLog_26 (by decide) ?_
    exact zg_ret hC hE dX0_sendLog_27
theorem tX0_sendLog {l : Launch} {Z : zZ} {lv : Nat → Bool} {ad : Nat → Nat} (hl : l.stackTraces = false) (d : Nat) {o : Nat} (ho : o = 1 ∨ o = 15) (hlv : ∀ j, j < 14 → lv (o + j) = true) (N : Nat) (p1 : Int32) (p2 : Int32) (M : zMem) : zT l Z lv ad (.code yX0_sendLog cX0_sendLog 3 (some .int)) yX0_sendLog (d + 4) false zbn [.ref (ad o), .int p1, .int p2] M (fX0_sendLog o N p1 p2 M) :=
  zT_of hl (by decide +kernel) (Nat.le_of_ble_eq_true rfl) (fun X hC hE hN => gX0_sendLog_B0 hC hE hN ho hlv N p1 p2 M)

def fX6_note (N : Nat) (p1 : Int32) (p2 : Int32) (p3 : Int32) (p4 : Int32) (M : zMem) : zRES :=
  if zin p1 60 = true then
  zl (zsI M 34 p1.toNatClampNeg p2) fun M2 =>
  if zin p1 60 = true then
  zl (zsI M2 35 p1.toNatClampNeg p3) fun M4 =>
  if zin p1 60 = true then
  zl (zsI M4 36 p1.toNatClampNeg p4) fun M6 =>
  some (.inl 0, M6)
  else none
  else none
  else none
set_option maxRecDepth 20000 in
set_option maxHeartbeats 2000000 in
theorem gX6_note_B0 {l : Launch} {Z : zZ} {ad : Nat → Nat} {d : Nat} {X : zX} {cs : Nat × Nat} (hC : zC l Z zfull ad X RX6 cX6_note 5 none (d + 0)) (hE : zEnd Z zfull ad X true) (hN : zNoX X) (N : Nat) (p1 : Int32) (p2 : Int32) (p3 : Int32) (p4 : Int32) (M : zMem) : zG l Z zfull ad X cs 0 [(0, .ref (ad 33)), (1, .int p1), (2, .int p2), (3, .int p3), (4, .int p4)] [] M (fX6_note N p1 p2 p3 p4 M) := by
  unfold fX6_note
  refine zg_aload_n hC 0 dX6_note_0 rfl ?_
  refine zg_get hC (k := 33) (v := .ref (ad 34)) ffX6_9 dX6_note_1 zq33 zk33 rfl ?_
  refine zg_iload_n hC 1 dX6_note_4 rfl ?_
  refine zg_iload_n hC 2 dX6_note_5 rfl ?_
  refine zg_iast hC (k := 34) dX6_note_6 zq34 zk34 (fun h1 M2 eM2 => ?_)
  refine zg_aload_n hC 0 dX6_note_7 rfl ?_
  refine zg_get hC (k := 33) (v := .ref (ad 35)) ffX6_15 dX6_note_8 zq33 zk33 rfl ?_
  refine zg_iload_n hC 1 dX6_note_11 rfl ?_
  refine zg_iload_n hC 3 dX6_note_12 rfl ?_
  refine zg_iast hC (k := 35) dX6_note_13 zq35 zk35 (fun h3 M4 eM4 => ?_)
  refine zg_aload_n hC 0 dX6_note_14 rfl ?_
  refine zg_get hC (k := 33) (v := .ref (ad 36)) ffX6_18 dX6_note_15 zq33 zk33 rfl ?_
  refine zg_iload_n hC 1 dX6_note_18 rfl ?_
  refine zg_iload hC 4 dX6_note_19 rfl ?_
  refine zg_iast hC (k := 36) dX6_note_21 zq36 zk36 (fun h5 M6 eM6 => ?_)
  exact zg_retv hC hE dX6_note_22
theorem tX6_note {l : Launch} {Z : zZ} {ad : Nat → Nat} (hl : l.stackTraces = false) (d : Nat) (N : Nat) (p1 : Int32) (p2 : Int32) (p3 : Int32) (p4 : Int32) (M : zMem) : zT l Z zfull ad (.code yX6_note cX6_note 5 none) yX6_note (d + 0) true zbn [.ref (ad 33), .int p1, .int p2, .int p3, .int p4] M (fX6_note N p1 p2 p3 p4 M) :=
  zT_of hl (by decide +kernel) (Nat.le_of_ble_eq_true rfl) (fun X hC hE hN => gX6_note_B0 hC hE hN N p1 p2 p3 p4 M)

def fX5_write (N : Nat) (p1 : Int32) (p2 : Int32) (p3 : Int32) (M : zMem) : zRES :=
  if (512 : Int32) ≤ (M.1 58 0) then
    some (.inl 0, M)
  else
    if zin (M.1 58 0) 512 = true then
    zl (zsI M 59 (M.1 58 0).toNatClampNeg p1) fun M3 =>
    if zin (M3.1 58 0) 512 = true then
    zl (zsI M3 60 (M3.1 58 0).toNatClampNeg p2) fun M5 =>
    if zin (M5.1 58 0) 512 = true then
    zl (zsI M5 61 (M5.1 58 0).toNatClampNeg p3) fun M7 =>
    zl (zsI M7 58 0 ((M7.1 58 0) + 1)) fun M8 =>
    some (.inl 0, M8)
    else none
    else none
    else none
set_option maxRecDepth 20000 in
set_option maxHeartbeats 2000000 in
theorem gX5_write_B0 {l : Launch} {Z : zZ} {ad : Nat → Nat} {d : Nat} {X : zX} {cs : Nat × Nat} (hC : zC l Z zfull ad X RX5 cX5_write 4 none (d + 0)) (hE : zEnd Z zfull ad X true) (hN : zNoX X) (N : Nat) (p1 : Int32) (p2 : Int32) (p3 : Int32) (M : zMem) : zG l Z zfull ad X cs 0 [(0, .ref (ad 58)), (1, .int p1), (2, .int p2), (3, .int p3)] [] M (fX5_write N p1 p2 p3 M) := by
  unfold fX5_write
  refine zg_aload_n hC 0 dX5_write_0 rfl ?_
  refine zg_get hC (k := 58) (v := .int (M.1 58 0)) ffX5_21 dX5_write_1 zq58 zk58 rfl ?_
  refine zg_sipush hC (v := 512) dX5_write_4 (by decide) ?_
  refine zg_icmp_ge hC (tgt := 50) dX5_write_7 (by decide) (fun c1 => ?_) (fun c1 => ?_)
  · exact zg_retv hC hE dX5_write_50
  · refine zg_aload_n hC 0 dX5_write_10 rfl ?_
    refine zg_get hC (k := 58) (v := .ref (ad 59)) ffX5_9 dX5_write_11 zq58 zk58 rfl ?_
    refine zg_aload_n hC 0 dX5_write_14 rfl ?_
    refine zg_get hC (k := 58) (v := .int (M.1 58 0)) ffX5_21 dX5_write_15 zq58 zk58 rfl ?_
    refine zg_iload_n hC 1 dX5_write_18 rfl ?_
    refine zg_iast hC (k := 59) dX5_write_19 zq59 zk59 (fun h2 M3 eM3 => ?_)
    refine zg_aload_n hC 0 dX5_write_20 rfl ?_
    refine zg_get hC (k := 58) (v := .ref (ad 60)) ffX5_15 dX5_write_21 zq58 zk58 rfl ?_
    refine zg_aload_n hC 0 dX5_write_24 rfl ?_
    refine zg_get hC (k := 58) (v := .int (M3.1 58 0)) ffX5_21 dX5_write_25 zq58 zk58 rfl ?_
    refine zg_iload_n hC 2 dX5_write_28 rfl ?_
    refine zg_iast hC (k := 60) dX5_write_29 zq60 zk60 (fun h4 M5 eM5 => ?_)
    refine zg_aload_n hC 0 dX5_write_30 rfl ?_
    refine zg_get hC (k := 58) (v := .ref (ad 61)) ffX5_18 dX5_write_31 zq58 zk58 rfl ?_
    refine zg_aload_n hC 0 dX5_write_34 rfl ?_
    refine zg_get hC (k := 58) (v := .int (M5.1 58 0)) ffX5_21 dX5_write_35 zq58 zk58 rfl ?_
    refine zg_iload_n hC 3 dX5_write_38 rfl ?_
    refine zg_iast hC (k := 61) dX5_write_39 zq61 zk61 (fun h6 M7 eM7 => ?_)
    refine zg_aload_n hC 0 dX5_write_40 rfl ?_
    refine zg_dup hC dX5_write_41 rfl ?_
    refine zg_get hC (k := 58) (v := .int (M7.1 58 0)) ffX5_21 dX5_write_42 zq58 zk58 rfl ?_
    refine zg_iconst hC (v := 1) dX5_write_45 (by decide) ?_
    refine zg_iadd hC dX5_write_46 ?_
    refine zg_putI hC (k := 58) fpX5_21 dX5_write_47 zq58 zk58 rfl (fun M8 eM8 => ?_)
    exact zg_retv hC hE dX5_write_50
theorem tX5_write {l : Launch} {Z : zZ} {ad : Nat → Nat} (hl : l.stackTraces = false) (d : Nat) (N : Nat) (p1 : Int32) (p2 : Int32) (p3 : Int32) (M : zMem) : zT l Z zfull ad (.code yX5_write cX5_write 4 none) yX5_write (d + 0) true zbn [.ref (ad 58), .int p1, .int p2, .int p3] M (fX5_write N p1 p2 p3 M) :=
  zT_of hl (by decide +kernel) (Nat.le_of_ble_eq_true rfl) (fun X hC hE hN => gX5_write_B0 hC hE hN N p1 p2 p3 M)

def fX2_bring_B18 (N : Nat) : Nat → Int32 → Int32 → Int32 → Int32 → zMem → zRES
  | 0, _, _, _, _, _ => none
  | n + 1, v1, v2, v4, v5, M =>
  if v4 ≤ v5 then
    if zin v1 5 = true then
    zl (zsI M 44 v1.toNatClampNeg v4) fun M7 =>
    some (.inl 0, M7)
    else none
  else
    if zin v1 5 = true then
    if zin v5 200 = true then
    zl (zsI M (38 + 1 + v1.toNatClampNeg) v5.toNatClampNeg v2) fun M10 =>
    fX2_bring_B18 N n v1 v2 v4 (v5 + 1) M10
    else none
    else none
def fX2_bring (N : Nat) (p1 : Int32) (p2 : Int32) (p3 : Int32) (M : zMem) : zRES :=
  if zin p1 5 = true then
  zv ((M.1 44 p1.toNatClampNeg) + p3) fun x2 =>
  if zin p1 5 = true then
  zv (M.1 44 p1.toNatClampNeg) fun x4 =>
  fX2_bring_B18 N N p1 p2 x2 x4 M
  else none
  else none
set_option maxRecDepth 20000 in
set_option maxHeartbeats 2000000 in
theorem gX2_bring_B18 {l : Launch} {Z : zZ} {ad : Nat → Nat} {d : Nat} {X : zX} {cs : Nat × Nat} (hC : zC l Z zfull ad X RX2 cX2_bring 6 none (d + 0)) (hE : zEnd Z zfull ad X true) (hN : zNoX X) (N : Nat) : ∀ (n : Nat) (v1 : Int32) (v2 : Int32) (v4 : Int32) (v5 : Int32) (M : zMem), zG l Z zfull ad X cs 18 [(0, .ref (ad 37)), (1, .int v1), (2, .int v2), (4, .int v4), (5, .int v5)] [] M (fX2_bring_B18 N n v1 v2 v4 v5 M) := by
  intro n
  induction n with
  | zero =>
    intro v1 v2 v4 v5 M
    exact zg_none
  | succ n ih =>
  intro v1 v2 v4 v5 M
  rw [fX2_bring_B18]
  refine zg_iload hC 4 dX2_bring_18 rfl ?_
  refine zg_iload hC 3 dX2_bring_20 rfl ?_
  refine zg_icmp_ge hC (tgt := 41) dX2_bring_22 (by decide) (fun c5 => ?_) (fun c5 => ?_)
  · refine zg_aload_n hC 0 dX2_bring_41 rfl ?_
    refine zg_get hC (k := 37) (v := .ref (ad 44)) ffX2_16 dX2_bring_42 zq37 zk37 rfl ?_
    refine zg_iload_n hC 1 dX2_bring_45 rfl ?_
    refine zg_iload hC 3 dX2_bring_46 rfl ?_
    refine zg_iast hC (k := 44) dX2_bring_48 zq44 zk44 (fun h6 M7 eM7 => ?_)
    exact zg_retv hC hE dX2_bring_49
  · refine zg_aload_n hC 0 dX2_bring_25 rfl ?_
    refine zg_get hC (k := 37) (v := .ref (ad 38)) ffX2_11 dX2_bring_26 zq37 zk37 rfl ?_
    refine zg_iload_n hC 1 dX2_bring_29 rfl ?_
    refine zg_aald hC (k := 38) dX2_bring_30 zq38 zk38 (fun h8 => ?_)
    refine zg_iload hC 4 dX2_bring_31 rfl ?_
    refine zg_iload_n hC 2 dX2_bring_33 rfl ?_
    refine zg_iast hC (k := (38 + 1 + v1.toNatClampNeg)) dX2_bring_34 (zrq38 (zin_lt h8)) (zrk38 (zin_lt h8)) (fun h9 M10 eM10 => ?_)
    refine zg_iinc hC 4 (v := v5 + 1) (L' := [(5, _), (0, _), (1, _), (2, _), (4, _)]) dX2_bring_35 rfl (by rfl) (by decide) rfl ?_
    refine zg_goto hC (tgt := 18) dX2_bring_38 (by decide) ?_
    exact zg_sub [1, 2, 3, 4, 0] rfl (ih v1 v2 v4 (v5 + 1) M10)
set_option maxRecDepth 20000 in
set_option maxHeartbeats 2000000 in
theorem gX2_bring_B0 {l : Launch} {Z : zZ} {ad : Nat → Nat} {d : Nat} {X : zX} {cs : Nat × Nat} (hC : zC l Z zfull ad X RX2 cX2_bring 6 none (d + 0)) (hE : zEnd Z zfull ad X true) (hN : zNoX X) (N : Nat) (p1 : Int32) (p2 : Int32) (p3 : Int32) (M : zMem) : zG l Z zfull ad X cs 0 [(0, .ref (ad 37)), (1, .int p1), (2, .int p2), (3, .int p3)] [] M (fX2_bring N p1 p2 p3 M) := by
  unfold fX2_bring
  refine zg_aload_n hC 0 dX2_bring_0 rfl ?_
  refine zg_get hC (k := 37) (v := .ref (ad 44)) ffX2_16 dX2_bring_1 zq37 zk37 rfl ?_
  refine zg_iload_n hC 1 dX2_bring_4 rfl ?_
  refine zg_iald hC (k := 44) dX2_bring_5 zq44 zk44 (fun h1 => ?_)
  refine zg_iload_n hC 3 dX2_bring_6 rfl ?_
  refine zg_iadd hC dX2_bring_7 ?_
  refine zg_nm (fun x2 ex2 => ?_)
  refine zg_istore hC (L' := [(4, _), (0, _), (1, _), (2, _), (3, _)]) dX2_bring_8 (by decide) rfl ?_
  refine zg_aload_n hC 1 dX2_bring_10 rfl ?_
  refine zg_get hC (k := 37) (v := .ref (ad 44)) ffX2_16 dX2_bring_11 zq37 zk37 rfl ?_
  refine zg_iload_n hC 2 dX2_bring_14 rfl ?_
  refine zg_iald hC (k := 44) dX2_bring_15 zq44 zk44 (fun h3 => ?_)
  refine zg_nm (fun x4 ex4 => ?_)
  refine zg_istore hC (L' := [(5, _), (4, _), (0, _), (1, _), (2, _), (3, _)]) dX2_bring_16 (by decide) rfl ?_
  exact zg_sub [2, 3, 4, 1, 0] rfl (gX2_bring_B18 hC hE hN N N p1 p2 x2 x4 M)
theorem tX2_bring {l : Launch} {Z : zZ} {ad : Nat → Nat} (hl : l.stackTraces = false) (d : Nat) (N : Nat) (p1 : Int32) (p2 : Int32) (p3 : Int32) (M : zMem) : zT l Z zfull ad (.code yX2_bring cX2_bring 6 none) yX2_bring (d + 0) true zbn [.ref (ad 37), .int p1, .int p2, .int p3] M (fX2_bring N p1 p2 p3 M) :=
  zT_of hl (by decide +kernel) (Nat.le_of_ble_eq_true rfl) (fun X hC hE hN => gX2_bring_B0 hC hE hN N p1 p2 p3 M)

def fX2_throwOutOf_B49 (N : Nat) (again5 : Int32 → Int32 → Int32 → Int32 → zMem → zRES) (v1 : Int32) (v2 : Int32) (v3 : Int32) (v4 : Int32) (M : zMem) : zRES :=
  again5 v1 v2 v3 (v4 + 1) M
def fX2_throwOutOf_B5 (N : Nat) : Nat → Int32 → Int32 → Int32 → Int32 → zMem → zRES
  | 0, _, _, _, _, _ => none
  | n + 1, v1, v2, v3, v4, M =>
  if zin v1 5 = true then
  if (M.1 44 v1.toNatClampNeg) ≤ v4 then
    if zin v1 5 = true then
    zl (zsI M 44 v1.toNatClampNeg v3) fun M4 =>
    some (.inl 0, M4)
    else none
  else
    if zin v1 5 = true then
    if zin v4 200 = true then
    if (M.1 (38 + 1 + v1.toNatClampNeg) v4.toNatClampNeg) = v2 then
      fX2_throwOutOf_B49 N (fX2_throwOutOf_B5 N n) v1 v2 v3 v4 M
    else
      if zin v1 5 = true then
      if zin v1 5 = true then
      if zin v4 200 = true then
      if zin v3 200 = true then
      zl (zsI M (38 + 1 + v1.toNatClampNeg) v3.toNatClampNeg (M.1 (38 + 1 + v1.toNatClampNeg) v4.toNatClampNeg)) fun M12 =>
      fX2_throwOutOf_B49 N (fX2_throwOutOf_B5 N n) v1 v2 (v3 + 1) v4 M12
      else none
      else none
      else none
      else none
    else none
    else none
  else none
def fX2_throwOutOf (N : Nat) (p1 : Int32) (p2 : Int32) (M : zMem) : zRES :=
  fX2_throwOutOf_B5 N N p1 p2 0 0 M
set_option maxRecDepth 20000 in
set_option maxHeartbeats 2000000 in
theorem gX2_throwOutOf_B49 {l : Launch} {Z : zZ} {ad : Nat → Nat} {d : Nat} {X : zX} {cs : Nat × Nat} (hC : zC l Z zfull ad X RX2 cX2_throwOutOf 5 none (d + 0)) (hE : zEnd Z zfull ad X true) (hN : zNoX X) (N : Nat) {again5 : Int32 → Int32 → Int32 → Int32 → zMem → zRES} (hag5 : ∀ v1 v2 v3 v4 M, zG l Z zfull ad X cs 5 [(0, .ref (ad 37)), (1, .int v1), (2, .int v2), (3, .int v3), (4, .int v4)] [] M (again5 v1 v2 v3 v4 M)) (v1 : Int32) (v2 : Int32) (v3 : Int32) (v4 : Int32) (M : zMem) : zG l Z zfull ad X cs 49 [(0, .ref (ad 37)), (1, .int v1), (2, .int v2), (3, .int v3), (4, .int v4)] [] M (fX2_throwOutOf_B49 N again5 v1 v2 v3 v4 M) := by
  unfold fX2_throwOutOf_B49
  refine zg_iinc hC 4 (v := v4 + 1) (L' := [(4, _), (0, _), (1, _), (2, _), (3, _)]) dX2_throwOutOf_49 rfl (by rfl) (by decide) rfl ?_
  refine zg_goto hC (tgt := 5) dX2_throwOutOf_52 (by decide) ?_
  exact zg_sub [1, 2, 3, 4, 0] rfl (hag5 v1 v2 v3 (v4 + 1) M)
set_option maxRecDepth 20000 in
set_option maxHeartbeats 2000000 in
theorem gX2_throwOutOf_B5 {l : Launch} {Z : zZ} {ad : Nat → Nat} {d : Nat} {X : zX} {cs : Nat × Nat} (hC : zC l Z zfull ad X RX2 cX2_throwOutOf 5 none (d + 0)) (hE : zEnd Z zfull ad X true) (hN : zNoX X) (N : Nat) : ∀ (n : Nat) (v1 : Int32) (v2 : Int32) (v3 : Int32) (v4 : Int32) (M : zMem), zG l Z zfull ad X cs 5 [(0, .ref (ad 37)), (1, .int v1), (2, .int v2), (3, .int v3), (4, .int v4)] [] M (fX2_throwOutOf_B5 N n v1 v2 v3 v4 M) := by
  intro n
  induction n with
  | zero =>
    intro v1 v2 v3 v4 M
    exact zg_none
  | succ n ih =>
  intro v1 v2 v3 v4 M
  rw [fX2_throwOutOf_B5]
  refine zg_iload hC 4 dX2_throwOutOf_5 rfl ?_
  refine zg_aload_n hC 0 dX2_throwOutOf_7 rfl ?_
  refine zg_get hC (k := 37) (v := .ref (ad 44)) ffX2_16 dX2_throwOutOf_8 zq37 zk37 rfl ?_
  refine zg_iload_n hC 1 dX2_throwOutOf_11 rfl ?_
  refine zg_iald hC (k := 44) dX2_throwOutOf_12 zq44 zk44 (fun h1 => ?_)
  refine zg_icmp_ge hC (tgt := 55) dX2_throwOutOf_13 (by decide) (fun c2 => ?_) (fun c2 => ?_)
  · refine zg_aload_n hC 0 dX2_throwOutOf_55 rfl ?_
    refine zg_get hC (k := 37) (v := .ref (ad 44)) ffX2_16 dX2_throwOutOf_56 zq37 zk37 rfl ?_
    refine zg_iload_n hC 1 dX2_throwOutOf_59 rfl ?_
    refine zg_iload_n hC 3 dX2_throwOutOf_60 rfl ?_
    refine zg_iast hC (k := 44) dX2_throwOutOf_61 zq44 zk44 (fun h3 M4 eM4 => ?_)
    exact zg_retv hC hE dX2_throwOutOf_62
  · refine zg_aload_n hC 0 dX2_throwOutOf_16 rfl ?_
    refine zg_get hC (k := 37) (v := .ref (ad 38)) ffX2_11 dX2_throwOutOf_17 zq37 zk37 rfl ?_
    refine zg_iload_n hC 1 dX2_throwOutOf_20 rfl ?_
    refine zg_aald hC (k := 38) dX2_throwOutOf_21 zq38 zk38 (fun h5 => ?_)
    refine zg_iload hC 4 dX2_throwOutOf_22 rfl ?_
    refine zg_iald hC (k := (38 + 1 + v1.toNatClampNeg)) dX2_throwOutOf_24 (zrq38 (zin_lt h5)) (zrk38 (zin_lt h5)) (fun h6 => ?_)
    refine zg_iload_n hC 2 dX2_throwOutOf_25 rfl ?_
    refine zg_icmp_eq hC (tgt := 49) dX2_throwOutOf_26 (by decide) (fun c7 => ?_) (fun c7 => ?_)
    · exact zg_sub [0, 1, 2, 3, 4] rfl (gX2_throwOutOf_B49 hC hE hN N ih v1 v2 v3 v4 M)
    · refine zg_aload_n hC 0 dX2_throwOutOf_29 rfl ?_
      refine zg_get hC (k := 37) (v := .ref (ad 38)) ffX2_11 dX2_throwOutOf_30 zq37 zk37 rfl ?_
      refine zg_iload_n hC 1 dX2_throwOutOf_33 rfl ?_
      refine zg_aald hC (k := 38) dX2_throwOutOf_34 zq38 zk38 (fun h8 => ?_)
      refine zg_iload_n hC 3 dX2_throwOutOf_35 rfl ?_
      refine zg_aload_n hC 0 dX2_throwOutOf_36 rfl ?_
      refine zg_get hC (k := 37) (v := .ref (ad 38)) ffX2_11 dX2_throwOutOf_37 zq37 zk37 rfl ?_
      refine zg_iload_n hC 1 dX2_throwOutOf_40 rfl ?_
      refine zg_aald hC (k := 38) dX2_throwOutOf_41 zq38 zk38 (fun h9 => ?_)
      refine zg_iload hC 4 dX2_throwOutOf_42 rfl ?_
      refine zg_iald hC (k := (38 + 1 + v1.toNatClampNeg)) dX2_throwOutOf_44 (zrq38 (zin_lt h9)) (zrk38 (zin_lt h9)) (fun h10 => ?_)
      refine zg_iast hC (k := (38 + 1 + v1.toNatClampNeg)) dX2_throwOutOf_45 (zrq38 (zin_lt h8)) (zrk38 (zin_lt h8)) (fun h11 M12 eM12 => ?_)
      refine zg_iinc hC 3 (v := v3 + 1) (L' := [(3, _), (0, _), (1, _), (2, _), (4, _)]) dX2_throwOutOf_46 rfl (by rfl) (by decide) rfl ?_
      exact zg_sub [1, 2, 3, 0, 4] rfl (gX2_throwOutOf_B49 hC hE hN N ih v1 v2 (v3 + 1) v4 M12)
set_option maxRecDepth 20000 in
set_option maxHeartbeats 2000000 in
theorem gX2_throwOutOf_B0 {l : Launch} {Z : zZ} {ad : Nat → Nat} {d : Nat} {X : zX} {cs : Nat × Nat} (hC : zC l Z zfull ad X RX2 cX2_throwOutOf 5 none (d + 0)) (hE : zEnd Z zfull ad X true) (hN : zNoX X) (N : Nat) (p1 : Int32) (p2 : Int32) (M : zMem) : zG l Z zfull ad X cs 0 [(0, .ref (ad 37)), (1, .int p1), (2, .int p2)] [] M (fX2_throwOutOf N p1 p2 M) := by
  unfold fX2_throwOutOf
  refine zg_iconst hC (v := 0) dX2_throwOutOf_0 (by decide) ?_
  refine zg_istore_n hC (L' := [(3, _), (0, _), (1, _), (2, _)]) dX2_throwOutOf_1 (by decide) rfl ?_
  refine zg_iconst hC (v := 0) dX2_throwOutOf_2 (by decide) ?_
  refine zg_istore hC (L' := [(4, _), (3, _), (0, _), (1, _), (2, _)]) dX2_throwOutOf_3 (by decide) rfl ?_
  exact zg_sub [2, 3, 4, 1, 0] rfl (gX2_throwOutOf_B5 hC hE hN N N p1 p2 0 0 M)
theorem tX2_throwOutOf {l : Launch} {Z : zZ} {ad : Nat → Nat} (hl : l.stackTraces = false) (d : Nat) (N : Nat) (p1 : Int32) (p2 : Int32) (M : zMem) : zT l Z zfull ad (.code yX2_throwOutOf cX2_throwOutOf 5 none) yX2_throwOutOf (d + 0) true zbn [.ref (ad 37), .int p1, .int p2] M (fX2_throwOutOf N p1 p2 M) :=
  zT_of hl (by decide +kernel) (Nat.le_of_ble_eq_true rfl) (fun X hC hE hN => gX2_throwOutOf_B0 hC hE hN N p1 p2 M)

def fX2_throwOut_B14 (N : Nat) : Nat → Int32 → Int32 → zMem → zRES
  | 0, _, _, _ => none
  | n + 1, v1, v2, M =>
  if (5 : Int32) ≤ v2 then
    some (.inl 0, M)
  else
    zb (fX2_throwOutOf N v2 v1 M) fun r3 M4 =>
    fX2_throwOut_B14 N n v1 (v2 + 1) M4
def fX2_throwOut (N : Nat) (p1 : Int32) (M : zMem) : zRES :=
  zl (zsI M 37 1 ((M.1 37 1) ||| ((1 : Int32) <<< (p1 &&& 31)))) fun M1 =>
  fX2_throwOut_B14 N N p1 0 M1
set_option maxRecDepth 20000 in
set_option maxHeartbeats 2000000 in
theorem gX2_throwOut_B14 {l : Launch} {Z : zZ} {ad : Nat → Nat} {d : Nat} {X : zX} {cs : Nat × Nat} (hC : zC l Z zfull ad X RX2 cX2_throwOut 3 none (d + 1)) (hE : zEnd Z zfull ad X true) (hN : zNoX X) (N : Nat) : ∀ (n : Nat) (v1 : Int32) (v2 : Int32) (M : zMem), zG l Z zfull ad X cs 14 [(0, .ref (ad 37)), (1, .int v1), (2, .int v2)] [] M (fX2_throwOut_B14 N n v1 v2 M) := by
  intro n
  induction n with
  | zero =>
    intro v1 v2 M
    exact zg_none
  | succ n ih =>
  intro v1 v2 M
  rw [fX2_throwOut_B14]
  refine zg_iload_n hC 2 dX2_throwOut_14 rfl ?_
  refine zg_iconst hC (v := 5) dX2_throwOut_15 (by decide) ?_
  refine zg_icmp_ge hC (tgt := 31) dX2_throwOut_16 (by decide) (fun c2 => ?_) (fun c2 => ?_)
  · exact zg_retv hC hE dX2_throwOut_31
  · refine zg_aload_n hC 0 dX2_throwOut_19 rfl ?_
    refine zg_iload_n hC 2 dX2_throwOut_20 rfl ?_
    refine zg_iload_n hC 1 dX2_throwOut_21 rfl ?_
    refine zg_callVv hC hE hN (k := 37) (As := [.int v2, .int v1]) (S := []) rfl (tX2_throwOutOf (zflag hC) d N v2 v1 M) lkX2_24 rfl dX2_throwOut_22 zq37 zk37 rfl rfl (Nat.le_of_ble_eq_true rfl) (fun r3 M4 er3 => ?_)
    refine zg_iinc hC 2 (v := v2 + 1) (L' := [(2, _), (0, _), (1, _)]) dX2_throwOut_25 rfl (by rfl) (by decide) rfl ?_
    refine zg_goto hC (tgt := 14) dX2_throwOut_28 (by decide) ?_
    exact zg_sub [1, 2, 0] rfl (ih v1 (v2 + 1) M4)
set_option maxRecDepth 20000 in
set_option maxHeartbeats 2000000 in
theorem gX2_throwOut_B0 {l : Launch} {Z : zZ} {ad : Nat → Nat} {d : Nat} {X : zX} {cs : Nat × Nat} (hC : zC l Z zfull ad X RX2 cX2_throwOut 3 none (d + 1)) (hE : zEnd Z zfull ad X true) (hN : zNoX X) (N : Nat) (p1 : Int32) (M : zMem) : zG l Z zfull ad X cs 0 [(0, .ref (ad 37)), (1, .int p1)] [] M (fX2_throwOut N p1 M) := by
  unfold fX2_throwOut
  refine zg_aload_n hC 0 dX2_throwOut_0 rfl ?_
  refine zg_dup hC dX2_throwOut_1 rfl ?_
  refine zg_get hC (k := 37) (v := .int (M.1 37 1)) ffX2_20 dX2_throwOut_2 zq37 zk37 rfl ?_
  refine zg_iconst hC (v := 1) dX2_throwOut_5 (by decide) ?_
  refine zg_iload_n hC 1 dX2_throwOut_6 rfl ?_
  refine zg_ishl hC dX2_throwOut_7 ?_
  refine zg_ior hC dX2_throwOut_8 ?_
  refine zg_putI hC (k := 37) fpX2_20 dX2_throwOut_9 zq37 zk37 rfl (fun M1 eM1 => ?_)
  refine zg_iconst hC (v := 0) dX2_throwOut_12 (by decide) ?_
  refine zg_istore_n hC (L' := [(2, _), (0, _), (1, _)]) dX2_throwOut_13 (by decide) rfl ?_
  exact zg_sub [1, 2, 0] rfl (gX2_throwOut_B14 hC hE hN N N p1 0 M1)
theorem tX2_throwOut {l : Launch} {Z : zZ} {ad : Nat → Nat} (hl : l.stackTraces = false) (d : Nat) (N : Nat) (p1 : Int32) (M : zMem) : zT l Z zfull ad (.code yX2_throwOut cX2_throwOut 3 none) yX2_throwOut (d + 1) true zbn [.ref (ad 37), .int p1] M (fX2_throwOut N p1 M) :=
  zT_of hl (by decide +kernel) (Nat.le_of_ble_eq_true rfl) (fun X hC hE hN => gX2_throwOut_B0 hC hE hN N p1 M)
