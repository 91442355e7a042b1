theorem kcL_8c : Cond.constant RL 8 (40503) ∈ zTs := zTs_at 654 (by decide +kernel) rfl
def fL_cell (Ls : Nat) (xs : Nat → Int32) (N : Nat) (p2 : Int32) (M : zMem) : zRES :=
  if (nI Ls) ≤ p2 then
    some (.inl (((40503 : Int32) * p2) + 977), M)
  else
    if zin p2 Ls = true then
    some (.inl (xs p2.toNatClampNeg), M)
    else none
set_option maxRecDepth 20000 in
set_option maxHeartbeats 2000000 in
theorem gL_cell_B0 {l : Launch} {Z : zZ} {ad : Nat → Nat} {d : Nat} {X : zX} {cs : Nat × Nat} (hC : zC l Z zfull ad X RL cL_cell 2 (some .int) (d + 0)) (hE : zEnd Z zfull ad X false) (hN : zNoX X) {b Ls : Nat} {xs : Nat → Int32} (hX : zScr X b Ls xs) (N : Nat) (p2 : Int32) (M : zMem) : zG l Z zfull ad X cs 0 [(0, .ref b), (1, .int p2)] [] M (fL_cell Ls xs N p2 M) := by
  unfold fL_cell
  refine zg_iload_n hC 1 dL_cell_0 rfl ?_
  refine zg_aload_n hC 0 dL_cell_1 rfl ?_
  refine zg_slen hC hX dL_cell_2 ?_
  refine zg_icmp_ge hC (tgt := 12) dL_cell_3 (by decide) (fun c1 => ?_) (fun c1 => ?_)
  · refine zg_ldc hC (v := 40503) dL_cell_12 kcL_8c ?_
    refine zg_iload_n hC 1 dL_cell_14 rfl ?_
    refine zg_imul hC dL_cell_15 ?_
    refine zg_sipush hC (v := 977) dL_cell_16 (by decide) ?_
    refine zg_iadd hC dL_cell_19 ?_
    exact zg_ret hC hE dL_cell_20
  · refine zg_aload_n hC 0 dL_cell_6 rfl ?_
    refine zg_iload_n hC 1 dL_cell_7 rfl ?_
    refine zg_sld hC hX dL_cell_8 (fun h2 => ?_)
    refine zg_goto hC (tgt := 20) dL_cell_9 (by decide) ?_
    exact zg_ret hC hE dL_cell_20
theorem tL_cell {l : Launch} {Z : zZ} {ad : Nat → Nat} (hl : l.stackTraces = false) (d : Nat) {b Ls : Nat} {xs : Nat → Int32} (N : Nat) (p2 : Int32) (M : zMem) : zTsc l Z zfull ad (.code yL_cell cL_cell 2 (some .int)) yL_cell (d + 0) [.ref b, .int p2] M b Ls xs (fL_cell Ls xs N p2 M) :=
  zTsc_of hl (by decide +kernel) (Nat.le_of_ble_eq_true rfl) (fun X hC hE hN hX => gL_cell_B0 hC hE hN hX N p2 M)
