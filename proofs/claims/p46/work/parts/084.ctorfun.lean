def fX0_init_B66 (o : Nat) (N : Nat) (M : zMem) : zRES :=
  zb (fX0_begin o N M) fun r1 M2 =>
  some (.inl 0, M2)

set_option maxRecDepth 20000 in
set_option maxHeartbeats 2000000 in
theorem gX0_init_B66 {l : Launch} {Z : zZ} {lv : Nat → Bool} {ad : Nat → Nat} {d : Nat} {X : zX} {cs : Nat × Nat} (hC : zC l Z lv ad X RX0 cX0_init 1 none (d + 2)) (hE : zEnd Z lv ad X true) (hN : zNoX X) {o : Nat} (ho : o = 1 ∨ o = 15) (hlv : ∀ j, j < 14 → lv (o + j) = true) (N : Nat) (M : zMem) : zG l Z lv ad X cs 66 [(0, .ref (ad o))] [] M (fX0_init_B66 o N M) := by
  unfold fX0_init_B66
  refine zg_aload_n hC 0 dX0_init_66 rfl ?_
  refine zg_callVv hC hE hN (k := o) (As := []) (S := []) rfl (tX0_begin (zflag hC) d ho hlv N M) lkX0_38 rfl dX0_init_67 (hlv 0 (by decide)) (zka0 ho) rfl rfl (Nat.le_of_ble_eq_true rfl) (fun r1 M2 er1 => ?_)
  exact zg_retv hC hE dX0_init_70

def fX4_init_B24 (N : Nat) : Nat → Int32 → zMem → zRES
  | 0, _, _ => none
  | n + 1, v1, M =>
  if (5 : Int32) ≤ v1 then
    some (.inl 0, M)
  else
    if zin v1 5 = true then
    zb (fJ7_fill_53178 (46 + 1 + v1.toNatClampNeg) 51 N (-1) M) fun r3 M4 =>
    fX4_init_B24 N n (v1 + 1) M4
    else none

def fX4_init_B22 (N : Nat) (M : zMem) : zRES :=
  fX4_init_B24 N N 0 M

set_option maxRecDepth 20000 in
set_option maxHeartbeats 2000000 in
theorem gX4_init_B24 {l : Launch} {Z : zZ} {ad : Nat → Nat} {d : Nat} {X : zX} {cs : Nat × Nat} (hC : zC l Z (zlv 45 8) ad X RX4 cX4_init 2 none (d + 1)) (hE : zEnd Z (zlv 45 8) ad X true) (hN : zNoX X) (N : Nat) : ∀ (n : Nat) (v1 : Int32) (M : zMem), zG l Z (zlv 45 8) ad X cs 24 [(0, .ref (ad 45)), (1, .int v1)] [] M (fX4_init_B24 N n v1 M) := by
  intro n
  induction n with
  | zero =>
    intro v1 M
    exact zg_none
  | succ n ih =>
  intro v1 M
  rw [fX4_init_B24]
  refine zg_iload_n hC 1 dX4_init_24 rfl ?_
  refine zg_iconst hC (v := 5) dX4_init_25 (by decide) ?_
  refine zg_icmp_ge hC (tgt := 45) dX4_init_26 (by decide) (fun c1 => ?_) (fun c1 => ?_)
  · exact zg_retv hC hE dX4_init_45
  · refine zg_aload_n hC 0 dX4_init_29 rfl ?_
    refine zg_get hC (k := 45) (v := .ref (ad 46)) ffX4_11 dX4_init_30 rfl zk45 rfl ?_
    refine zg_iload_n hC 1 dX4_init_33 rfl ?_
    refine zg_aald hC (k := 46) dX4_init_34 rfl zk46 (fun h2 => ?_)
    refine zg_iconst hC (v := (-1)) dX4_init_35 (by decide) ?_
    refine zg_callSv hC hE hN (As := [.ref (ad (46 + 1 + v1.toNatClampNeg)), .int (-1)]) (S := []) rfl (tJ7_fill_53178 (zflag hC) d (zlq46 (zin_lt h2)) (zrk46 (zin_lt h2)) N (-1) M) lkX4_20 rfl dX4_init_36 (Nat.le_of_ble_eq_true rfl) (fun r3 M4 er3 => ?_)
    refine zg_iinc hC 1 (v := v1 + 1) (L' := [(1, _), (0, _)]) dX4_init_39 rfl (by rfl) (by decide) rfl ?_
    refine zg_goto hC (tgt := 24) dX4_init_42 (by decide) ?_
    exact zg_sub [1, 0] rfl (ih (v1 + 1) M4)

set_option maxRecDepth 20000 in
set_option maxHeartbeats 2000000 in
theorem gX4_init_B22 {l : Launch} {Z : zZ} {ad : Nat → Nat} {d : Nat} {X : zX} {cs : Nat × Nat} (hC : zC l Z (zlv 45 8) ad X RX4 cX4_init 2 none (d + 1)) (hE : zEnd Z (zlv 45 8) ad X true) (hN : zNoX X) (N : Nat) (M : zMem) : zG l Z (zlv 45 8) ad X cs 22 [(0, .ref (ad 45))] [] M (fX4_init_B22 N M) := by
  unfold fX4_init_B22
  refine zg_iconst hC (v := 0) dX4_init_22 (by decide) ?_
  refine zg_istore_n hC (L' := [(1, _), (0, _)]) dX4_init_23 (by decide) rfl ?_
  exact zg_sub [1, 0] rfl (gX4_init_B24 hC hE hN N N 0 M)

