def fL_part (N : Nat) (p2 : Int32) (M : zMem) : zRES :=
  zbx (fX7_part N p2 M)
    (fun r1 M2 =>
    if zin (0 : Int32) 1 = true then
    zl (zsL M2 87 (0 : Int32).toNatClampNeg r1.toInt64) fun M4 =>
    some (.inl 0, M4)
    else none)
    (fun x M2 =>
    if znx x = 2 then
      some (.inl 1, M2)
    else
    none)
set_option maxRecDepth 20000 in
set_option maxHeartbeats 2000000 in
theorem gL_part_B0 {l : Launch} {Z : zZ} {ad : Nat → Nat} {d : Nat} {X : zX} (hC : zC l Z zfull ad X RL cL_part 4 (some .int) (d + 7)) (hE : zEnd Z zfull ad X false) (hN : zTab X 0 9 [(2, 12, 13)]) (N : Nat) (p2 : Int32) (M : zMem) : zG l Z zfull ad X (0, 0) 0 [(0, .ref (ad 0)), (1, .int p2), (2, .ref (ad 87))] [] M (fL_part N p2 M) := by
  unfold fL_part
  refine zg_aload_n hC 2 dL_part_0 rfl ?_
  refine zg_iconst hC (v := 0) dL_part_1 (by decide) ?_
  refine zg_aload_n hC 0 dL_part_2 rfl ?_
  refine zg_iload_n hC 1 dL_part_3 rfl ?_
  refine zg_callXi hC hE hN (k := 0) (As := [.int p2]) (S := [.int 0, .ref (ad 87)]) rfl (tX7_part (zflag hC) d N p2 M) lkL_7 rfl dL_part_4 zq0 zk0 rfl rfl (Nat.le_of_ble_eq_true rfl) (by decide) (by intro z hz; simp only [List.mem_cons, List.not_mem_nil, or_false] at hz; rcases hz with rfl; all_goals first | exact ⟨by decide, by decide, ckL_13⟩) zself (fun r1 M2 er1 => ?_) (fun x M2 => ⟨fun h9 => ?_, fun r9 h9 => ?_, fun hp h9 q => ?_⟩)
  · refine zg_i2l hC dL_part_7 ?_
    refine zg_last hC (k := 87) dL_part_8 zq87 zk87 (fun h3 M4 eM4 => ?_)
    refine zg_goto hC (tgt := 15) dL_part_9 (by decide) ?_
    refine zg_iconst hC (v := 0) dL_part_15 (by decide) ?_
    exact zg_ret hC hE dL_part_16
  · by_cases q0 : znx x = 2
    · simp [zhd, q0] at h9
    · rw [if_neg q0]
  · by_cases q0 : znx x = 2
    · rw [if_pos q0] at h9
      cases h9
      exact ⟨_, rfl⟩
    · rw [if_neg q0] at h9
      cases h9
  · by_cases q0 : znx x = 2
    · have e9 : 12 = hp := by simpa [zhd, q0] using h9
      subst e9
      rw [if_pos q0]
      refine zg_astore_n hC (L' := [(3, _), (0, _), (1, _), (2, _)]) dL_part_12 (by decide) rfl ?_
      refine zg_iconst hC (v := 1) dL_part_13 (by decide) ?_
      exact zg_retw hC hE hN dL_part_14
    · simp [zhd, q0] at h9
theorem tL_part {l : Launch} {Z : zZ} {ad : Nat → Nat} (hl : l.stackTraces = false) (d : Nat) (N : Nat) (p2 : Int32) (M : zMem) : zT l Z zfull ad (.codeWith yL_part cL_part 4 (some .int) [(0, 9, 12, 13)]) yL_part (d + 7) false zbw [.ref (ad 0), .int p2, .ref (ad 87)] M (fL_part N p2 M) :=
  zTh_of (st := 0) (en := 9) (es := [(2, 12, 13)]) hl (by decide +kernel) (Nat.le_of_ble_eq_true rfl) (fun X hC hE hN => gL_part_B0 hC hE hN N p2 M)

def fL_stand (N : Nat) (p2 : Int32) (M : zMem) : zRES :=
  zbx (fX7_stand N p2 M)
    (fun r1 M2 =>
    if zin (0 : Int32) 1 = true then
    zl (zsL M2 87 (0 : Int32).toNatClampNeg r1.toInt64) fun M4 =>
    some (.inl 0, M4)
    else none)
    (fun x M2 =>
    if znx x = 1 then
      some (.inl 1, M2)
    else
    if znx x = 3 then
      some (.inl 2, M2)
    else
    none)
set_option maxRecDepth 20000 in
set_option maxHeartbeats 2000000 in
theorem gL_stand_B0 {l : Launch} {Z : zZ} {ad : Nat → Nat} {d : Nat} {X : zX} (hC : zC l Z zfull ad X RL cL_stand 4 (some .int) (d + 8)) (hE : zEnd Z zfull ad X false) (hN : zTab X 0 9 [(1, 12, 18), (3, 15, 20)]) (N : Nat) (p2 : Int32) (M : zMem) : zG l Z zfull ad X (0, 0) 0 [(0, .ref (ad 0)), (1, .int p2), (2, .ref (ad 87))] [] M (fL_stand N p2 M) := by
  unfold fL_stand
  refine zg_aload_n hC 2 dL_stand_0 rfl ?_
  refine zg_iconst hC (v := 0) dL_stand_1 (by decide) ?_
  refine zg_aload_n hC 0 dL_stand_2 rfl ?_
  refine zg_iload_n hC 1 dL_stand_3 rfl ?_
  refine zg_callXi hC hE hN (k := 0) (As := [.int p2]) (S := [.int 0, .ref (ad 87)]) rfl (tX7_stand (zflag hC) d N p2 M) lkL_15 rfl dL_stand_4 zq0 zk0 rfl rfl (Nat.le_of_ble_eq_true rfl) (by decide) (by intro z hz; simp only [List.mem_cons, List.not_mem_nil, or_false] at hz; rcases hz with rfl | rfl; all_goals first | exact ⟨by decide, by decide, ckL_18⟩ | exact ⟨by decide, by decide, ckL_20⟩) zself (fun r1 M2 er1 => ?_) (fun x M2 => ⟨fun h9 => ?_, fun r9 h9 => ?_, fun hp h9 q => ?_⟩)
  · refine zg_i2l hC dL_stand_7 ?_
    refine zg_last hC (k := 87) dL_stand_8 zq87 zk87 (fun h3 M4 eM4 => ?_)
    refine zg_goto hC (tgt := 18) dL_stand_9 (by decide) ?_
    refine zg_iconst hC (v := 0) dL_stand_18 (by decide) ?_
    exact zg_ret hC hE dL_stand_19
  · by_cases q0 : znx x = 1
    · simp [zhd, q0] at h9
    · by_cases q1 : znx x = 3
      · simp [zhd, q0, q1] at h9
      · rw [if_neg q0, if_neg q1]
  · by_cases q0 : znx x = 1
    · rw [if_pos q0] at h9
      cases h9
      exact ⟨_, rfl⟩
    · by_cases q1 : znx x = 3
      · rw [if_neg q0, if_pos q1] at h9
        cases h9
        exact ⟨_, rfl⟩
      · rw [if_neg q0, if_neg q1] at h9
        cases h9
  · by_cases q0 : znx x = 1
    · have e9 : 12 = hp := by simpa [zhd, q0] using h9
      subst e9
      rw [if_pos q0]
      refine zg_astore_n hC (L' := [(3, _), (0, _), (1, _), (2, _)]) dL_stand_12 (by decide) rfl ?_
      refine zg_iconst hC (v := 1) dL_stand_13 (by decide) ?_
      exact zg_retw hC hE hN dL_stand_14
    · by_cases q1 : znx x = 3
      · have e9 : 15 = hp := by simpa [zhd, q0, q1] using h9
        subst e9
        rw [if_neg q0, if_pos q1]
        refine zg_astore_n hC (L' := [(3, _), (0, _), (1, _), (2, _)]) dL_stand_15 (by decide) rfl ?_
        refine zg_iconst hC (v := 2) dL_stand_16 (by decide) ?_
        exact zg_retw hC hE hN dL_stand_17
      · simp [zhd, q0, q1] at h9
theorem tL_stand {l : Launch} {Z : zZ} {ad : Nat → Nat} (hl : l.stackTraces = false) (d : Nat) (N : Nat) (p2 : Int32) (M : zMem) : zT l Z zfull ad (.codeWith yL_stand cL_stand 4 (some .int) [(0, 9, 12, 18), (0, 9, 15, 20)]) yL_stand (d + 8) false zbw [.ref (ad 0), .int p2, .ref (ad 87)] M (fL_stand N p2 M) :=
  zTh_of (st := 0) (en := 9) (es := [(1, 12, 18), (3, 15, 20)]) hl (by decide +kernel) (Nat.le_of_ble_eq_true rfl) (fun X hC hE hN => gL_stand_B0 hC hE hN N p2 M)

def fL_vote_B16 (N : Nat) (s1 : Int32) (s2 : Int64) (M : zMem) : zRES :=
  if zin s1 1 = true then
  zl (zsL M 87 s1.toNatClampNeg s2) fun M5 =>
  some (.inl 0, M5)
  else none
def fL_vote (N : Nat) (p2 : Int32) (p3 : Int32) (M : zMem) : zRES :=
  zbx (fX7_vote N p2 p3 M)
    (fun r1 M2 =>
    if r1 = 0 then
      fL_vote_B16 N 0 0 M2
    else
      fL_vote_B16 N 0 1 M2)
    (fun x M2 =>
    if znx x = 1 then
      some (.inl 1, M2)
    else
    if znx x = 2 then
      some (.inl 2, M2)
    else
    if znx x = 3 then
      some (.inl 3, M2)
    else
    none)
set_option maxRecDepth 20000 in
set_option maxHeartbeats 2000000 in
theorem gL_vote_B16 {l : Launch} {Z : zZ} {ad : Nat → Nat} {d : Nat} {X : zX} (hC : zC l Z zfull ad X RL cL_vote 5 (some .int) (d + 9)) (hE : zEnd Z zfull ad X false) (hN : zTab X 0 17 [(1, 20, 18), (2, 24, 13), (3, 28, 20)]) (N : Nat) (s1 : Int32) (s2 : Int64) (M : zMem) : zG l Z zfull ad X (0, 0) 16 [] [.long s2, .int s1, .ref (ad 87)] M (fL_vote_B16 N s1 s2 M) := by
  unfold fL_vote_B16
  refine zg_last hC (k := 87) dL_vote_16 zq87 zk87 (fun h4 M5 eM5 => ?_)
  refine zg_goto hC (tgt := 32) dL_vote_17 (by decide) ?_
  refine zg_iconst hC (v := 0) dL_vote_32 (by decide) ?_
  exact zg_ret hC hE dL_vote_33
set_option maxRecDepth 20000 in
set_option maxHeartbeats 2000000 in
theorem gL_vote_B0 {l : Launch} {Z : zZ} {ad : Nat → Nat} {d : Nat} {X : zX} (hC : zC l Z zfull ad X RL cL_vote 5 (some .int) (d + 9)) (hE : zEnd Z zfull ad X false) (hN : zTab X 0 17 [(1, 20, 18), (2, 24, 13), (3, 28, 20)]) (N : Nat) (p2 : Int32) (p3 : Int32) (M : zMem) : zG l Z zfull ad X (0, 0) 0 [(0, .ref (ad 0)), (1, .int p2), (2, .int p3), (3, .ref (ad 87))] [] M (fL_vote N p2 p3 M) := by
  unfold fL_vote
  refine zg_aload_n hC 3 dL_vote_0 rfl ?_
  refine zg_iconst hC (v := 0) dL_vote_1 (by decide) ?_
  refine zg_aload_n hC 0 dL_vote_2 rfl ?_
  refine zg_iload_n hC 1 dL_vote_3 rfl ?_
  refine zg_iload_n hC 2 dL_vote_4 rfl ?_
  refine zg_callXi hC hE hN (k := 0) (As := [.int p2, .int p3]) (S := [.int 0, .ref (ad 87)]) rfl (tX7_vote (zflag hC) d N p2 p3 M) lkL_22 rfl dL_vote_5 zq0 zk0 rfl rfl (Nat.le_of_ble_eq_true rfl) (by decide) (by intro z hz; simp only [List.mem_cons, List.not_mem_nil, or_false] at hz; rcases hz with rfl | rfl | rfl; all_goals first | exact ⟨by decide, by decide, ckL_18⟩ | exact ⟨by decide, by decide, ckL_13⟩ | exact ⟨by decide, by decide, ckL_20⟩) zself (fun r1 M2 er1 => ?_) (fun x M2 => ⟨fun h9 => ?_, fun r9 h9 => ?_, fun hp h9 q => ?_⟩)
  · refine zg_if_eq hC (tgt := 15) dL_vote_8 (by decide) (fun c3 => ?_) (fun c3 => ?_)
    · refine zg_lconst hC (v := 0) dL_vote_15 (by decide) ?_
      exact zg_sub [] rfl (gL_vote_B16 hC hE hN N 0 0 M2)
    · refine zg_lconst hC (v := 1) dL_vote_11 (by decide) ?_
      refine zg_goto hC (tgt := 16) dL_vote_12 (by decide) ?_
      exact zg_sub [] rfl (gL_vote_B16 hC hE hN N 0 1 M2)
  · by_cases q0 : znx x = 1
    · simp [zhd, q0] at h9
    · by_cases q1 : znx x = 2
      · simp [zhd, q0, q1] at h9
      · by_cases q2 : znx x = 3
        · simp [zhd, q0, q1, q2] at h9
        · rw [if_neg q0, if_neg q1, if_neg q2]
  · by_cases q0 : znx x = 1
    · rw [if_pos q0] at h9
      cases h9
      exact ⟨_, rfl⟩
    · by_cases q1 : znx x = 2
      · rw [if_neg q0, if_pos q1] at h9
        cases h9
        exact ⟨_, rfl⟩
      · by_cases q2 : znx x = 3
        · rw [if_neg q0, if_neg q1, if_pos q2] at h9
          cases h9
          exact ⟨_, rfl⟩
        · rw [if_neg q0, if_neg q1, if_neg q2] at h9
          cases h9
  · by_cases q0 : znx x = 1
    · have e9 : 20 = hp := by simpa [zhd, q0] using h9
      subst e9
      rw [if_pos q0]
      refine zg_astore hC (L' := [(4, _), (0, _), (1, _), (2, _), (3, _)]) dL_vote_20 (by decide) rfl ?_
      refine zg_iconst hC (v := 1) dL_vote_22 (by decide) ?_
      exact zg_retw hC hE hN dL_vote_23
    · by_cases q1 : znx x = 2
      · have e9 : 24 = hp := by simpa [zhd, q0, q1] using h9
        subst e9
        rw [if_neg q0, if_pos q1]
        refine zg_astore hC (L' := [(4, _), (0, _), (1, _), (2, _), (3, _)]) dL_vote_24 (by decide) rfl ?_
        refine zg_iconst hC (v := 2) dL_vote_26 (by decide) ?_
        exact zg_retw hC hE hN dL_vote_27
      · by_cases q2 : znx x = 3
        · have e9 : 28 = hp := by simpa [zhd, q0, q1, q2] using h9
          subst e9
          rw [if_neg q0, if_neg q1, if_pos q2]
          refine zg_astore hC (L' := [(4, _), (0, _), (1, _), (2, _), (3, _)]) dL_vote_28 (by decide) rfl ?_
          refine zg_iconst hC (v := 3) dL_vote_30 (by decide) ?_
          exact zg_retw hC hE hN dL_vote_31
        · simp [zhd, q0, q1, q2] at h9
theorem tL_vote {l : Launch} {Z : zZ} {ad : Nat → Nat} (hl : l.stackTraces = false) (d : Nat) (N : Nat) (p2 : Int32) (p3 : Int32) (M : zMem) : zT l Z zfull ad (.codeWith yL_vote cL_vote 5 (some .int) [(0, 17, 20, 18), (0, 17, 24, 13), (0, 17, 28, 20)]) yL_vote (d + 9) false zbw [.ref (ad 0), .int p2, .int p3, .ref (ad 87)] M (fL_vote N p2 p3 M) :=
  zTh_of (st := 0) (en := 17) (es := [(1, 20, 18), (2, 24, 13), (3, 28, 20)]) hl (by decide +kernel) (Nat.le_of_ble_eq_true rfl) (fun X hC hE hN => gL_vote_B0 hC hE hN N p2 p3 M)

def fL_propose (N : Nat) (p2 : Int32) (p3 : Int32) (p4 : Int32) (p5 : Int32) (M : zMem) : zRES :=
  zbx (fX7_propose N p2 p3 p4 p5 M)
    (fun r1 M2 =>
    if zin (0 : Int32) 1 = true then
    zl (zsL M2 87 (0 : Int32).toNatClampNeg r1.toInt64) fun M4 =>
    some (.inl 0, M4)
    else none)
    (fun x M2 =>
    if znx x = 1 then
      some (.inl 1, M2)
    else
    if znx x = 2 then
      some (.inl 2, M2)
    else
    if znx x = 3 then
      some (.inl 3, M2)
    else
    none)
set_option maxRecDepth 20000 in
set_option maxHeartbeats 2000000 in
theorem gL_propose_B0 {l : Launch} {Z : zZ} {ad : Nat → Nat} {d : Nat} {X : zX} (hC : zC l Z zfull ad X RL cL_propose 7 (some .int) (d + 8)) (hE : zEnd Z zfull ad X false) (hN : zTab X 0 14 [(1, 17, 18), (2, 21, 13), (3, 25, 20)]) (N : Nat) (p2 : Int32) (p3 : Int32) (p4 : Int32) (p5 : Int32) (M : zMem) : zG l Z zfull ad X (0, 0) 0 [(0, .ref (ad 0)), (1, .int p2), (2, .int p3), (3, .int p4), (4, .int p5), (5, .ref (ad 87))] [] M (fL_propose N p2 p3 p4 p5 M) := by
  unfold fL_propose
  refine zg_aload hC 5 dL_propose_0 rfl ?_
  refine zg_iconst hC (v := 0) dL_propose_2 (by decide) ?_
  refine zg_aload_n hC 0 dL_propose_3 rfl ?_
  refine zg_iload_n hC 1 dL_propose_4 rfl ?_
  refine zg_iload_n hC 2 dL_propose_5 rfl ?_
  refine zg_iload_n hC 3 dL_propose_6 rfl ?_
  refine zg_iload hC 4 dL_propose_7 rfl ?_
  refine zg_callXi hC hE hN (k := 0) (As := [.int p2, .int p3, .int p4, .int p5]) (S := [.int 0, .ref (ad 87)]) rfl (tX7_propose (zflag hC) d N p2 p3 p4 p5 M) lkL_26 rfl dL_propose_9 zq0 zk0 rfl rfl (Nat.le_of_ble_eq_true rfl) (by decide) (by intro z hz; simp only [List.mem_cons, List.not_mem_nil, or_false] at hz; rcases hz with rfl | rfl | rfl; all_goals first | exact ⟨by decide, by decide, ckL_18⟩ | exact ⟨by decide, by decide, ckL_13⟩ | exact ⟨by decide, by decide, ckL_20⟩) zself (fun r1 M2 er1 => ?_) (fun x M2 => ⟨fun h9 => ?_, fun r9 h9 => ?_, fun hp h9 q => ?_⟩)
  · refine zg_i2l hC dL_propose_12 ?_
    refine zg_last hC (k := 87) dL_propose_13 zq87 zk87 (fun h3 M4 eM4 => ?_)
    refine zg_goto hC (tgt := 29) dL_propose_14 (by decide) ?_
    refine zg_iconst hC (v := 0) dL_propose_29 (by decide) ?_
    exact zg_ret hC hE dL_propose_30
  · by_cases q0 : znx x = 1
    · simp [zhd, q0] at h9
    · by_cases q1 : znx x = 2
      · simp [zhd, q0, q1] at h9
      · by_cases q2 : znx x = 3
        · simp [zhd, q0, q1, q2] at h9
        · rw [if_neg q0, if_neg q1, if_neg q2]
  · by_cases q0 : znx x = 1
    · rw [if_pos q0] at h9
      cases h9
      exact ⟨_, rfl⟩
    · by_cases q1 : znx x = 2
      · rw [if_neg q0, if_pos q1] at h9
        cases h9
        exact ⟨_, rfl⟩
      · by_cases q2 : znx x = 3
        · rw [if_neg q0, if_neg q1, if_pos q2] at h9
          cases h9
          exact ⟨_, rfl⟩
        · rw [if_neg q0, if_neg q1, if_neg q2] at h9
          cases h9
  · by_cases q0 : znx x = 1
    · have e9 : 17 = hp := by simpa [zhd, q0] using h9
      subst e9
      rw [if_pos q0]
      refine zg_astore hC (L' := [(6, _), (0, _), (1, _), (2, _), (3, _), (4, _), (5, _)]) dL_propose_17 (by decide) rfl ?_
      refine zg_iconst hC (v := 1) dL_propose_19 (by decide) ?_
      exact zg_retw hC hE hN dL_propose_20
    · by_cases q1 : znx x = 2
      · have e9 : 21 = hp := by simpa [zhd, q0, q1] using h9
        subst e9
        rw [if_neg q0, if_pos q1]
        refine zg_astore hC (L' := [(6, _), (0, _), (1, _), (2, _), (3, _), (4, _), (5, _)]) dL_propose_21 (by decide) rfl ?_
        refine zg_iconst hC (v := 2) dL_propose_23 (by decide) ?_
        exact zg_retw hC hE hN dL_propose_24
      · by_cases q2 : znx x = 3
        · have e9 : 25 = hp := by simpa [zhd, q0, q1, q2] using h9
          subst e9
          rw [if_neg q0, if_neg q1, if_pos q2]
          refine zg_astore hC (L' := [(6, _), (0, _), (1, _), (2, _), (3, _), (4, _), (5, _)]) dL_propose_25 (by decide) rfl ?_
          refine zg_iconst hC (v := 3) dL_propose_27 (by decide) ?_
          exact zg_retw hC hE hN dL_propose_28
        · simp [zhd, q0, q1, q2] at h9
theorem tL_propose {l : Launch} {Z : zZ} {ad : Nat → Nat} (hl : l.stackTraces = false) (d : Nat) (N : Nat) (p2 : Int32) (p3 : Int32) (p4 : Int32) (p5 : Int32) (M : zMem) : zT l Z zfull ad (.codeWith yL_propose cL_propose 7 (some .int) [(0, 14, 17, 18), (0, 14, 21, 13), (0, 14, 25, 20)]) yL_propose (d + 8) false zbw [.ref (ad 0), .int p2, .int p3, .int p4, .int p5, .ref (ad 87)] M (fL_propose N p2 p3 p4 p5 M) :=
  zTh_of (st := 0) (en := 14) (es := [(1, 17, 18), (2, 21, 13), (3, 25, 20)]) hl (by decide +kernel) (Nat.le_of_ble_eq_true rfl) (fun X hC hE hN => gL_propose_B0 hC hE hN N p2 p3 p4 p5 M)

def fL_tell (N : Nat) (p2 : Int32) (p3 : Int32) (M : zMem) : zRES :=
  zbx (fX7_tell N p2 p3 M)
    (fun r1 M2 =>
    if zin (0 : Int32) 1 = true then
    zl (zsL M2 87 (0 : Int32).toNatClampNeg r1.toInt64) fun M4 =>
    some (.inl 0, M4)
    else none)
    (fun x M2 =>
    if znx x = 1 then
      some (.inl 1, M2)
    else
    if znx x = 2 then
      some (.inl 2, M2)
    else
    if znx x = 3 then
      some (.inl 3, M2)
    else
    none)
set_option maxRecDepth 20000 in
set_option maxHeartbeats 2000000 in
theorem gL_tell_B0 {l : Launch} {Z : zZ} {ad : Nat → Nat} {d : Nat} {X : zX} (hC : zC l Z zfull ad X RL cL_tell 5 (some .int) (d + 9)) (hE : zEnd Z zfull ad X false) (hN : zTab X 0 10 [(1, 13, 18), (2, 17, 13), (3, 21, 20)]) (N : Nat) (p2 : Int32) (p3 : Int32) (M : zMem) : zG l Z zfull ad X (0, 0) 0 [(0, .ref (ad 0)), (1, .int p2), (2, .int p3), (3, .ref (ad 87))] [] M (fL_tell N p2 p3 M) := by
  unfold fL_tell
  refine zg_aload_n hC 3 dL_tell_0 rfl ?_
  refine zg_iconst hC (v := 0) dL_tell_1 (by decide) ?_
  refine zg_aload_n hC 0 dL_tell_2 rfl ?_
  refine zg_iload_n hC 1 dL_tell_3 rfl ?_
  refine zg_iload_n hC 2 dL_tell_4 rfl ?_
  refine zg_callXi hC hE hN (k := 0) (As := [.int p2, .int p3]) (S := [.int 0, .ref (ad 87)]) rfl (tX7_tell (zflag hC) d N p2 p3 M) lkL_30 rfl dL_tell_5 zq0 zk0 rfl rfl (Nat.le_of_ble_eq_true rfl) (by decide) (by intro z hz; simp only [List.mem_cons, List.not_mem_nil, or_false] at hz; rcases hz with rfl | rfl | rfl; all_goals first | exact ⟨by decide, by decide, ckL_18⟩ | exact ⟨by decide, by decide, ckL_13⟩ | exact ⟨by decide, by decide, ckL_20⟩) zself (fun r1 M2 er1 => ?_) (fun x M2 => ⟨fun h9 => ?_, fun r9 h9 => ?_, fun hp h9 q => ?_⟩)
  · refine zg_i2l hC dL_tell_8 ?_
    refine zg_last hC (k := 87) dL_tell_9 zq87 zk87 (fun h3 M4 eM4 => ?_)
    refine zg_goto hC (tgt := 25) dL_tell_10 (by decide) ?_
    refine zg_iconst hC (v := 0) dL_tell_25 (by decide) ?_
    exact zg_ret hC hE dL_tell_26
  · by_cases q0 : znx x = 1
    · simp [zhd, q0] at h9
    · by_cases q1 : znx x = 2
      · simp [zhd, q0, q1] at h9
      · by_cases q2 : znx x = 3
        · simp [zhd, q0, q1, q2] at h9
        · rw [if_neg q0, if_neg q1, if_neg q2]
  · by_cases q0 : znx x = 1
    · rw [if_pos q0] at h9
      cases h9
      exact ⟨_, rfl⟩
    · by_cases q1 : znx x = 2
      · rw [if_neg q0, if_pos q1] at h9
        cases h9
        exact ⟨_, rfl⟩
      · by_cases q2 : znx x = 3
        · rw [if_neg q0, if_neg q1, if_pos q2] at h9
          cases h9
          exact ⟨_, rfl⟩
        · rw [if_neg q0, if_neg q1, if_neg q2] at h9
          cases h9
  · by_cases q0 : znx x = 1
    · have e9 : 13 = hp := by simpa [zhd, q0] using h9
      subst e9
      rw [if_pos q0]
      refine zg_astore hC (L' := [(4, _), (0, _), (1, _), (2, _), (3, _)]) dL_tell_13 (by decide) rfl ?_
      refine zg_iconst hC (v := 1) dL_tell_15 (by decide) ?_
      exact zg_retw hC hE hN dL_tell_16
    · by_cases q1 : znx x = 2
      · have e9 : 17 = hp := by simpa [zhd, q0, q1] using h9
        subst e9
        rw [if_neg q0, if_pos q1]
        refine zg_astore hC (L' := [(4, _), (0, _), (1, _), (2, _), (3, _)]) dL_tell_17 (by decide) rfl ?_
        refine zg_iconst hC (v := 2) dL_tell_19 (by decide) ?_
        exact zg_retw hC hE hN dL_tell_20
      · by_cases q2 : znx x = 3
        · have e9 : 21 = hp := by simpa [zhd, q0, q1, q2] using h9
          subst e9
          rw [if_neg q0, if_neg q1, if_pos q2]
          refine zg_astore hC (L' := [(4, _), (0, _), (1, _), (2, _), (3, _)]) dL_tell_21 (by decide) rfl ?_
          refine zg_iconst hC (v := 3) dL_tell_23 (by decide) ?_
          exact zg_retw hC hE hN dL_tell_24
        · simp [zhd, q0, q1, q2] at h9
theorem tL_tell {l : Launch} {Z : zZ} {ad : Nat → Nat} (hl : l.stackTraces = false) (d : Nat) (N : Nat) (p2 : Int32) (p3 : Int32) (M : zMem) : zT l Z zfull ad (.codeWith yL_tell cL_tell 5 (some .int) [(0, 10, 13, 18), (0, 10, 17, 13), (0, 10, 21, 20)]) yL_tell (d + 9) false zbw [.ref (ad 0), .int p2, .int p3, .ref (ad 87)] M (fL_tell N p2 p3 M) :=
  zTh_of (st := 0) (en := 10) (es := [(1, 13, 18), (2, 17, 13), (3, 21, 20)]) hl (by decide +kernel) (Nat.le_of_ble_eq_true rfl) (fun X hC hE hN => gL_tell_B0 hC hE hN N p2 p3 M)

def fL_role (N : Nat) (p2 : Int32) (M : zMem) : zRES :=
  zbx (fX7_role N p2 M)
    (fun r1 M2 =>
    if zin (0 : Int32) 1 = true then
    zl (zsL M2 87 (0 : Int32).toNatClampNeg r1.toInt64) fun M4 =>
    some (.inl 0, M4)
    else none)
    (fun x M2 =>
    if znx x = 1 then
      some (.inl 1, M2)
    else
    none)
set_option maxRecDepth 20000 in
set_option maxHeartbeats 2000000 in
theorem gL_role_B0 {l : Launch} {Z : zZ} {ad : Nat → Nat} {d : Nat} {X : zX} (hC : zC l Z zfull ad X RL cL_role 4 (some .int) (d + 8)) (hE : zEnd Z zfull ad X false) (hN : zTab X 0 9 [(1, 12, 18)]) (N : Nat) (p2 : Int32) (M : zMem) : zG l Z zfull ad X (0, 0) 0 [(0, .ref (ad 0)), (1, .int p2), (2, .ref (ad 87))] [] M (fL_role N p2 M) := by
  unfold fL_role
  refine zg_aload_n hC 2 dL_role_0 rfl ?_
  refine zg_iconst hC (v := 0) dL_role_1 (by decide) ?_
  refine zg_aload_n hC 0 dL_role_2 rfl ?_
  refine zg_iload_n hC 1 dL_role_3 rfl ?_
  refine zg_callXi hC hE hN (k := 0) (As := [.int p2]) (S := [.int 0, .ref (ad 87)]) rfl (tX7_role (zflag hC) d N p2 M) lkL_34 rfl dL_role_4 zq0 zk0 rfl rfl (Nat.le_of_ble_eq_true rfl) (by decide) (by intro z hz; simp only [List.mem_cons, List.not_mem_nil, or_false] at hz; rcases hz with rfl; all_goals first | exact ⟨by decide, by decide, ckL_18⟩) zself (fun r1 M2 er1 => ?_) (fun x M2 => ⟨fun h9 => ?_, fun r9 h9 => ?_, fun hp h9 q => ?_⟩)
  · refine zg_i2l hC dL_role_7 ?_
    refine zg_last hC (k := 87) dL_role_8 zq87 zk87 (fun h3 M4 eM4 => ?_)
    refine zg_goto hC (tgt := 15) dL_role_9 (by decide) ?_
    refine zg_iconst hC (v := 0) dL_role_15 (by decide) ?_
    exact zg_ret hC hE dL_role_16
  · by_cases q0 : znx x = 1
    · simp [zhd, q0] at h9
    · rw [if_neg q0]
  · by_cases q0 : znx x = 1
    · rw [if_pos q0] at h9
      cases h9
      exact ⟨_, rfl⟩
    · rw [if_neg q0] at h9
      cases h9
  · by_cases q0 : znx x = 1
    · have e9 : 12 = hp := by simpa [zhd, q0] using h9
      subst e9
      rw [if_pos q0]
      refine zg_astore_n hC (L' := [(3, _), (0, _), (1, _), (2, _)]) dL_role_12 (by decide) rfl ?_
      refine zg_iconst hC (v := 1) dL_role_13 (by decide) ?_
      exact zg_retw hC hE hN dL_role_14
    · simp [zhd, q0] at h9
theorem tL_role {l : Launch} {Z : zZ} {ad : Nat → Nat} (hl : l.stackTraces = false) (d : Nat) (N : Nat) (p2 : Int32) (M : zMem) : zT l Z zfull ad (.codeWith yL_role cL_role 4 (some .int) [(0, 9, 12, 18)]) yL_role (d + 8) false zbw [.ref (ad 0), .int p2, .ref (ad 87)] M (fL_role N p2 M) :=
  zTh_of (st := 0) (en := 9) (es := [(1, 12, 18)]) hl (by decide +kernel) (Nat.le_of_ble_eq_true rfl) (fun X hC hE hN => gL_role_B0 hC hE hN N p2 M)

def fL_term (N : Nat) (p2 : Int32) (M : zMem) : zRES :=
  zbx (fX7_term N p2 M)
    (fun r1 M2 =>
    if zin (0 : Int32) 1 = true then
    zl (zsL M2 87 (0 : Int32).toNatClampNeg r1.toInt64) fun M4 =>
    some (.inl 0, M4)
    else none)
    (fun x M2 =>
    if znx x = 1 then
      some (.inl 1, M2)
    else
    none)
set_option maxRecDepth 20000 in
set_option maxHeartbeats 2000000 in
theorem gL_term_B0 {l : Launch} {Z : zZ} {ad : Nat → Nat} {d : Nat} {X : zX} (hC : zC l Z zfull ad X RL cL_term 4 (some .int) (d + 8)) (hE : zEnd Z zfull ad X false) (hN : zTab X 0 9 [(1, 12, 18)]) (N : Nat) (p2 : Int32) (M : zMem) : zG l Z zfull ad X (0, 0) 0 [(0, .ref (ad 0)), (1, .int p2), (2, .ref (ad 87))] [] M (fL_term N p2 M) := by
  unfold fL_term
  refine zg_aload_n hC 2 dL_term_0 rfl ?_
  refine zg_iconst hC (v := 0) dL_term_1 (by decide) ?_
  refine zg_aload_n hC 0 dL_term_2 rfl ?_
  refine zg_iload_n hC 1 dL_term_3 rfl ?_
  refine zg_callXi hC hE hN (k := 0) (As := [.int p2]) (S := [.int 0, .ref (ad 87)]) rfl (tX7_term (zflag hC) d N p2 M) lkL_37 rfl dL_term_4 zq0 zk0 rfl rfl (Nat.le_of_ble_eq_true rfl) (by decide) (by intro z hz; simp only [List.mem_cons, List.not_mem_nil, or_false] at hz; rcases hz with rfl; all_goals first | exact ⟨by decide, by decide, ckL_18⟩) zself (fun r1 M2 er1 => ?_) (fun x M2 => ⟨fun h9 => ?_, fun r9 h9 => ?_, fun hp h9 q => ?_⟩)
  · refine zg_i2l hC dL_term_7 ?_
    refine zg_last hC (k := 87) dL_term_8 zq87 zk87 (fun h3 M4 eM4 => ?_)
    refine zg_goto hC (tgt := 15) dL_term_9 (by decide) ?_
    refine zg_iconst hC (v := 0) dL_term_15 (by decide) ?_
    exact zg_ret hC hE dL_term_16
  · by_cases q0 : znx x = 1
    · simp [zhd, q0] at h9
    · rw [if_neg q0]
  · by_cases q0 : znx x = 1
    · rw [if_pos q0] at h9
      cases h9
      exact ⟨_, rfl⟩
    · rw [if_neg q0] at h9
      cases h9
  · by_cases q0 : znx x = 1
    · have e9 : 12 = hp := by simpa [zhd, q0] using h9
      subst e9
      rw [if_pos q0]
      refine zg_astore_n hC (L' := [(3, _), (0, _), (1, _), (2, _)]) dL_term_12 (by decide) rfl ?_
      refine zg_iconst hC (v := 1) dL_term_13 (by decide) ?_
      exact zg_retw hC hE hN dL_term_14
    · simp [zhd, q0] at h9
theorem tL_term {l : Launch} {Z : zZ} {ad : Nat → Nat} (hl : l.stackTraces = false) (d : Nat) (N : Nat) (p2 : Int32) (M : zMem) : zT l Z zfull ad (.codeWith yL_term cL_term 4 (some .int) [(0, 9, 12, 18)]) yL_term (d + 8) false zbw [.ref (ad 0), .int p2, .ref (ad 87)] M (fL_term N p2 M) :=
  zTh_of (st := 0) (en := 9) (es := [(1, 12, 18)]) hl (by decide +kernel) (Nat.le_of_ble_eq_true rfl) (fun X hC hE hN => gL_term_B0 hC hE hN N p2 M)

def fL_votedFor (N : Nat) (p2 : Int32) (M : zMem) : zRES :=
  zbx (fX7_votedFor N p2 M)
    (fun r1 M2 =>
    if zin (0 : Int32) 1 = true then
    zl (zsL M2 87 (0 : Int32).toNatClampNeg r1.toInt64) fun M4 =>
    some (.inl 0, M4)
    else none)
    (fun x M2 =>
    if znx x = 1 then
      some (.inl 1, M2)
    else
    none)
set_option maxRecDepth 20000 in
set_option maxHeartbeats 2000000 in
theorem gL_votedFor_B0 {l : Launch} {Z : zZ} {ad : Nat → Nat} {d : Nat} {X : zX} (hC : zC l Z zfull ad X RL cL_votedFor 4 (some .int) (d + 8)) (hE : zEnd Z zfull ad X false) (hN : zTab X 0 9 [(1, 12, 18)]) (N : Nat) (p2 : Int32) (M : zMem) : zG l Z zfull ad X (0, 0) 0 [(0, .ref (ad 0)), (1, .int p2), (2, .ref (ad 87))] [] M (fL_votedFor N p2 M) := by
  unfold fL_votedFor
  refine zg_aload_n hC 2 dL_votedFor_0 rfl ?_
  refine zg_iconst hC (v := 0) dL_votedFor_1 (by decide) ?_
  refine zg_aload_n hC 0 dL_votedFor_2 rfl ?_
  refine zg_iload_n hC 1 dL_votedFor_3 rfl ?_
  refine zg_callXi hC hE hN (k := 0) (As := [.int p2]) (S := [.int 0, .ref (ad 87)]) rfl (tX7_votedFor (zflag hC) d N p2 M) lkL_40 rfl dL_votedFor_4 zq0 zk0 rfl rfl (Nat.le_of_ble_eq_true rfl) (by decide) (by intro z hz; simp only [List.mem_cons, List.not_mem_nil, or_false] at hz; rcases hz with rfl; all_goals first | exact ⟨by decide, by decide, ckL_18⟩) zself (fun r1 M2 er1 => ?_) (fun x M2 => ⟨fun h9 => ?_, fun r9 h9 => ?_, fun hp h9 q => ?_⟩)
  · refine zg_i2l hC dL_votedFor_7 ?_
    refine zg_last hC (k := 87) dL_votedFor_8 zq87 zk87 (fun h3 M4 eM4 => ?_)
    refine zg_goto hC (tgt := 15) dL_votedFor_9 (by decide) ?_
    refine zg_iconst hC (v := 0) dL_votedFor_15 (by decide) ?_
    exact zg_ret hC hE dL_votedFor_16
  · by_cases q0 : znx x = 1
    · simp [zhd, q0] at h9
    · rw [if_neg q0]
  · by_cases q0 : znx x = 1
    · rw [if_pos q0] at h9
      cases h9
      exact ⟨_, rfl⟩
    · rw [if_neg q0] at h9
      cases h9
  · by_cases q0 : znx x = 1
    · have e9 : 12 = hp := by simpa [zhd, q0] using h9
      subst e9
      rw [if_pos q0]
      refine zg_astore_n hC (L' := [(3, _), (0, _), (1, _), (2, _)]) dL_votedFor_12 (by decide) rfl ?_
      refine zg_iconst hC (v := 1) dL_votedFor_13 (by decide) ?_
      exact zg_retw hC hE hN dL_votedFor_14
    · simp [zhd, q0] at h9
theorem tL_votedFor {l : Launch} {Z : zZ} {ad : Nat → Nat} (hl : l.stackTraces = false) (d : Nat) (N : Nat) (p2 : Int32) (M : zMem) : zT l Z zfull ad (.codeWith yL_votedFor cL_votedFor 4 (some .int) [(0, 9, 12, 18)]) yL_votedFor (d + 8) false zbw [.ref (ad 0), .int p2, .ref (ad 87)] M (fL_votedFor N p2 M) :=
  zTh_of (st := 0) (en := 9) (es := [(1, 12, 18)]) hl (by decide +kernel) (Nat.le_of_ble_eq_true rfl) (fun X hC hE hN => gL_votedFor_B0 hC hE hN N p2 M)

def fL_reach_B16 (N : Nat) (s1 : Int32) (s2 : Int64) (M : zMem) : zRES :=
  if zin s1 1 = true then
  zl (zsL M 87 s1.toNatClampNeg s2) fun M5 =>
  some (.inl 0, M5)
  else none
def fL_reach (N : Nat) (p2 : Int32) (p3 : Int32) (M : zMem) : zRES :=
  zbx (fX7_reach N p2 p3 M)
    (fun r1 M2 =>
    if r1 = 0 then
      fL_reach_B16 N 0 0 M2
    else
      fL_reach_B16 N 0 1 M2)
    (fun x M2 =>
    if znx x = 1 then
      some (.inl 1, M2)
    else
    none)
set_option maxRecDepth 20000 in
set_option maxHeartbeats 2000000 in
theorem gL_reach_B16 {l : Launch} {Z : zZ} {ad : Nat → Nat} {d : Nat} {X : zX} (hC : zC l Z zfull ad X RL cL_reach 5 (some .int) (d + 8)) (hE : zEnd Z zfull ad X false) (hN : zTab X 0 17 [(1, 20, 18)]) (N : Nat) (s1 : Int32) (s2 : Int64) (M : zMem) : zG l Z zfull ad X (0, 0) 16 [] [.long s2, .int s1, .ref (ad 87)] M (fL_reach_B16 N s1 s2 M) := by
  unfold fL_reach_B16
  refine zg_last hC (k := 87) dL_reach_16 zq87 zk87 (fun h4 M5 eM5 => ?_)
  refine zg_goto hC (tgt := 24) dL_reach_17 (by decide) ?_
  refine zg_iconst hC (v := 0) dL_reach_24 (by decide) ?_
  exact zg_ret hC hE dL_reach_25
set_option maxRecDepth 20000 in
set_option maxHeartbeats 2000000 in
theorem gL_reach_B0 {l : Launch} {Z : zZ} {ad : Nat → Nat} {d : Nat} {X : zX} (hC : zC l Z zfull ad X RL cL_reach 5 (some .int) (d + 8)) (hE : zEnd Z zfull ad X false) (hN : zTab X 0 17 [(1, 20, 18)]) (N : Nat) (p2 : Int32) (p3 : Int32) (M : zMem) : zG l Z zfull ad X (0, 0) 0 [(0, .ref (ad 0)), (1, .int p2), (2, .int p3), (3, .ref (ad 87))] [] M (fL_reach N p2 p3 M) := by
  unfold fL_reach
  refine zg_aload_n hC 3 dL_reach_0 rfl ?_
  refine zg_iconst hC (v := 0) dL_reach_1 (by decide) ?_
  refine zg_aload_n hC 0 dL_reach_2 rfl ?_
  refine zg_iload_n hC 1 dL_reach_3 rfl ?_
  refine zg_iload_n hC 2 dL_reach_4 rfl ?_
  refine zg_callXi hC hE hN (k := 0) (As := [.int p2, .int p3]) (S := [.int 0, .ref (ad 87)]) rfl (tX7_reach (zflag hC) d N p2 p3 M) lkL_43 rfl dL_reach_5 zq0 zk0 rfl rfl (Nat.le_of_ble_eq_true rfl) (by decide) (by intro z hz; simp only [List.mem_cons, List.not_mem_nil, or_false] at hz; rcases hz with rfl; all_goals first | exact ⟨by decide, by decide, ckL_18⟩) zself (fun r1 M2 er1 => ?_) (fun x M2 => ⟨fun h9 => ?_, fun r9 h9 => ?_, fun hp h9 q => ?_⟩)
  · refine zg_if_eq hC (tgt := 15) dL_reach_8 (by decide) (fun c3 => ?_) (fun c3 => ?_)
    · refine zg_lconst hC (v := 0) dL_reach_15 (by decide) ?_
      exact zg_sub [] rfl (gL_reach_B16 hC hE hN N 0 0 M2)
    · refine zg_lconst hC (v := 1) dL_reach_11 (by decide) ?_
      refine zg_goto hC (tgt := 16) dL_reach_12 (by decide) ?_
      exact zg_sub [] rfl (gL_reach_B16 hC hE hN N 0 1 M2)
  · by_cases q0 : znx x = 1
    · simp [zhd, q0] at h9
    · rw [if_neg q0]
  · by_cases q0 : znx x = 1
    · rw [if_pos q0] at h9
      cases h9
      exact ⟨_, rfl⟩
    · rw [if_neg q0] at h9
      cases h9
  · by_cases q0 : znx x = 1
    · have e9 : 20 = hp := by simpa [zhd, q0] using h9
      subst e9
      rw [if_pos q0]
      refine zg_astore hC (L' := [(4, _), (0, _), (1, _), (2, _), (3, _)]) dL_reach_20 (by decide) rfl ?_
      refine zg_iconst hC (v := 1) dL_reach_22 (by decide) ?_
      exact zg_retw hC hE hN dL_reach_23
    · simp [zhd, q0] at h9
theorem tL_reach {l : Launch} {Z : zZ} {ad : Nat → Nat} (hl : l.stackTraces = false) (d : Nat) (N : Nat) (p2 : Int32) (p3 : Int32) (M : zMem) : zT l Z zfull ad (.codeWith yL_reach cL_reach 5 (some .int) [(0, 17, 20, 18)]) yL_reach (d + 8) false zbw [.ref (ad 0), .int p2, .int p3, .ref (ad 87)] M (fL_reach N p2 p3 M) :=
  zTh_of (st := 0) (en := 17) (es := [(1, 20, 18)]) hl (by decide +kernel) (Nat.le_of_ble_eq_true rfl) (fun X hC hE hN => gL_reach_B0 hC hE hN N p2 p3 M)

def fL_entries (N : Nat) (p2 : Int32) (M : zMem) : zRES :=
  zbx (fX7_entries N p2 M)
    (fun r1 M2 =>
    if zin (0 : Int32) 1 = true then
    zl (zsL M2 87 (0 : Int32).toNatClampNeg r1.toInt64) fun M4 =>
    some (.inl 0, M4)
    else none)
    (fun x M2 =>
    if znx x = 1 then
      some (.inl 1, M2)
    else
    none)
set_option maxRecDepth 20000 in
set_option maxHeartbeats 2000000 in
theorem gL_entries_B0 {l : Launch} {Z : zZ} {ad : Nat → Nat} {d : Nat} {X : zX} (hC : zC l Z zfull ad X RL cL_entries 4 (some .int) (d + 8)) (hE : zEnd Z zfull ad X false) (hN : zTab X 0 9 [(1, 12, 18)]) (N : Nat) (p2 : Int32) (M : zMem) : zG l Z zfull ad X (0, 0) 0 [(0, .ref (ad 0)), (1, .int p2), (2, .ref (ad 87))] [] M (fL_entries N p2 M) := by
  unfold fL_entries
  refine zg_aload_n hC 2 dL_entries_0 rfl ?_
  refine zg_iconst hC (v := 0) dL_entries_1 (by decide) ?_
  refine zg_aload_n hC 0 dL_entries_2 rfl ?_
  refine zg_iload_n hC 1 dL_entries_3 rfl ?_
  refine zg_callXi hC hE hN (k := 0) (As := [.int p2]) (S := [.int 0, .ref (ad 87)]) rfl (tX7_entries (zflag hC) d N p2 M) lkL_46 rfl dL_entries_4 zq0 zk0 rfl rfl (Nat.le_of_ble_eq_true rfl) (by decide) (by intro z hz; simp only [List.mem_cons, List.not_mem_nil, or_false] at hz; rcases hz with rfl; all_goals first | exact ⟨by decide, by decide, ckL_18⟩) zself (fun r1 M2 er1 => ?_) (fun x M2 => ⟨fun h9 => ?_, fun r9 h9 => ?_, fun hp h9 q => ?_⟩)
  · refine zg_i2l hC dL_entries_7 ?_
    refine zg_last hC (k := 87) dL_entries_8 zq87 zk87 (fun h3 M4 eM4 => ?_)
    refine zg_goto hC (tgt := 15) dL_entries_9 (by decide) ?_
    refine zg_iconst hC (v := 0) dL_entries_15 (by decide) ?_
    exact zg_ret hC hE dL_entries_16
  · by_cases q0 : znx x = 1
    · simp [zhd, q0] at h9
    · rw [if_neg q0]
  · by_cases q0 : znx x = 1
    · rw [if_pos q0] at h9
      cases h9
      exact ⟨_, rfl⟩
    · rw [if_neg q0] at h9
      cases h9
  · by_cases q0 : znx x = 1
    · have e9 : 12 = hp := by simpa [zhd, q0] using h9
      subst e9
      rw [if_pos q0]
      refine zg_astore_n hC (L' := [(3, _), (0, _), (1, _), (2, _)]) dL_entries_12 (by decide) rfl ?_
      refine zg_iconst hC (v := 1) dL_entries_13 (by decide) ?_
      exact zg_retw hC hE hN dL_entries_14
    · simp [zhd, q0] at h9
theorem tL_entries {l : Launch} {Z : zZ} {ad : Nat → Nat} (hl : l.stackTraces = false) (d : Nat) (N : Nat) (p2 : Int32) (M : zMem) : zT l Z zfull ad (.codeWith yL_entries cL_entries 4 (some .int) [(0, 9, 12, 18)]) yL_entries (d + 8) false zbw [.ref (ad 0), .int p2, .ref (ad 87)] M (fL_entries N p2 M) :=
  zTh_of (st := 0) (en := 9) (es := [(1, 12, 18)]) hl (by decide +kernel) (Nat.le_of_ble_eq_true rfl) (fun X hC hE hN => gL_entries_B0 hC hE hN N p2 M)

def fL_versionAt (N : Nat) (p2 : Int32) (p3 : Int32) (M : zMem) : zRES :=
  zbx (fX7_versionAt N p2 p3 M)
    (fun r1 M2 =>
    if zin (0 : Int32) 1 = true then
    zl (zsL M2 87 (0 : Int32).toNatClampNeg r1.toInt64) fun M4 =>
    some (.inl 0, M4)
    else none)
    (fun x M2 =>
    if znx x = 1 then
      some (.inl 1, M2)
    else
    none)
set_option maxRecDepth 20000 in
set_option maxHeartbeats 2000000 in
theorem gL_versionAt_B0 {l : Launch} {Z : zZ} {ad : Nat → Nat} {d : Nat} {X : zX} (hC : zC l Z zfull ad X RL cL_versionAt 5 (some .int) (d + 8)) (hE : zEnd Z zfull ad X false) (hN : zTab X 0 10 [(1, 13, 18)]) (N : Nat) (p2 : Int32) (p3 : Int32) (M : zMem) : zG l Z zfull ad X (0, 0) 0 [(0, .ref (ad 0)), (1, .int p2), (2, .int p3), (3, .ref (ad 87))] [] M (fL_versionAt N p2 p3 M) := by
  unfold fL_versionAt
  refine zg_aload_n hC 3 dL_versionAt_0 rfl ?_
  refine zg_iconst hC (v := 0) dL_versionAt_1 (by decide) ?_
  refine zg_aload_n hC 0 dL_versionAt_2 rfl ?_
  refine zg_iload_n hC 1 dL_versionAt_3 rfl ?_
  refine zg_iload_n hC 2 dL_versionAt_4 rfl ?_
  refine zg_callXi hC hE hN (k := 0) (As := [.int p2, .int p3]) (S := [.int 0, .ref (ad 87)]) rfl (tX7_versionAt (zflag hC) d N p2 p3 M) lkL_49 rfl dL_versionAt_5 zq0 zk0 rfl rfl (Nat.le_of_ble_eq_true rfl) (by decide) (by intro z hz; simp only [List.mem_cons, List.not_mem_nil, or_false] at hz; rcases hz with rfl; all_goals first | exact ⟨by decide, by decide, ckL_18⟩) zself (fun r1 M2 er1 => ?_) (fun x M2 => ⟨fun h9 => ?_, fun r9 h9 => ?_, fun hp h9 q => ?_⟩)
  · refine zg_i2l hC dL_versionAt_8 ?_
    refine zg_last hC (k := 87) dL_versionAt_9 zq87 zk87 (fun h3 M4 eM4 => ?_)
    refine zg_goto hC (tgt := 17) dL_versionAt_10 (by decide) ?_
    refine zg_iconst hC (v := 0) dL_versionAt_17 (by decide) ?_
    exact zg_ret hC hE dL_versionAt_18
  · by_cases q0 : znx x = 1
    · simp [zhd, q0] at h9
    · rw [if_neg q0]
  · by_cases q0 : znx x = 1
    · rw [if_pos q0] at h9
      cases h9
      exact ⟨_, rfl⟩
    · rw [if_neg q0] at h9
      cases h9
  · by_cases q0 : znx x = 1
    · have e9 : 13 = hp := by simpa [zhd, q0] using h9
      subst e9
      rw [if_pos q0]
      refine zg_astore hC (L' := [(4, _), (0, _), (1, _), (2, _), (3, _)]) dL_versionAt_13 (by decide) rfl ?_
      refine zg_iconst hC (v := 1) dL_versionAt_15 (by decide) ?_
      exact zg_retw hC hE hN dL_versionAt_16
    · simp [zhd, q0] at h9
theorem tL_versionAt {l : Launch} {Z : zZ} {ad : Nat → Nat} (hl : l.stackTraces = false) (d : Nat) (N : Nat) (p2 : Int32) (p3 : Int32) (M : zMem) : zT l Z zfull ad (.codeWith yL_versionAt cL_versionAt 5 (some .int) [(0, 10, 13, 18)]) yL_versionAt (d + 8) false zbw [.ref (ad 0), .int p2, .int p3, .ref (ad 87)] M (fL_versionAt N p2 p3 M) :=
  zTh_of (st := 0) (en := 10) (es := [(1, 13, 18)]) hl (by decide +kernel) (Nat.le_of_ble_eq_true rfl) (fun X hC hE hN => gL_versionAt_B0 hC hE hN N p2 p3 M)

def fL_termOf (N : Nat) (p2 : Int32) (M : zMem) : zRES :=
  zbx (fX7_termOf N p2 M)
    (fun r1 M2 =>
    if zin (0 : Int32) 1 = true then
    zl (zsL M2 87 (0 : Int32).toNatClampNeg r1.toInt64) fun M4 =>
    some (.inl 0, M4)
    else none)
    (fun x M2 =>
    if znx x = 1 then
      some (.inl 1, M2)
    else
    none)
set_option maxRecDepth 20000 in
set_option maxHeartbeats 2000000 in
theorem gL_termOf_B0 {l : Launch} {Z : zZ} {ad : Nat → Nat} {d : Nat} {X : zX} (hC : zC l Z zfull ad X RL cL_termOf 4 (some .int) (d + 8)) (hE : zEnd Z zfull ad X false) (hN : zTab X 0 9 [(1, 12, 18)]) (N : Nat) (p2 : Int32) (M : zMem) : zG l Z zfull ad X (0, 0) 0 [(0, .ref (ad 0)), (1, .int p2), (2, .ref (ad 87))] [] M (fL_termOf N p2 M) := by
  unfold fL_termOf
  refine zg_aload_n hC 2 dL_termOf_0 rfl ?_
  refine zg_iconst hC (v := 0) dL_termOf_1 (by decide) ?_
  refine zg_aload_n hC 0 dL_termOf_2 rfl ?_
  refine zg_iload_n hC 1 dL_termOf_3 rfl ?_
  refine zg_callXi hC hE hN (k := 0) (As := [.int p2]) (S := [.int 0, .ref (ad 87)]) rfl (tX7_termOf (zflag hC) d N p2 M) lkL_52 rfl dL_termOf_4 zq0 zk0 rfl rfl (Nat.le_of_ble_eq_true rfl) (by decide) (by intro z hz; simp only [List.mem_cons, List.not_mem_nil, or_false] at hz; rcases hz with rfl; all_goals first | exact ⟨by decide, by decide, ckL_18⟩) zself (fun r1 M2 er1 => ?_) (fun x M2 => ⟨fun h9 => ?_, fun r9 h9 => ?_, fun hp h9 q => ?_⟩)
  · refine zg_i2l hC dL_termOf_7 ?_
    refine zg_last hC (k := 87) dL_termOf_8 zq87 zk87 (fun h3 M4 eM4 => ?_)
    refine zg_goto hC (tgt := 15) dL_termOf_9 (by decide) ?_
    refine zg_iconst hC (v := 0) dL_termOf_15 (by decide) ?_
    exact zg_ret hC hE dL_termOf_16
  · by_cases q0 : znx x = 1
    · simp [zhd, q0] at h9
    · rw [if_neg q0]
  · by_cases q0 : znx x = 1
    · rw [if_pos q0] at h9
      cases h9
      exact ⟨_, rfl⟩
    · rw [if_neg q0] at h9
      cases h9
  · by_cases q0 : znx x = 1
    · have e9 : 12 = hp := by simpa [zhd, q0] using h9
      subst e9
      rw [if_pos q0]
      refine zg_astore_n hC (L' := [(3, _), (0, _), (1, _), (2, _)]) dL_termOf_12 (by decide) rfl ?_
      refine zg_iconst hC (v := 1) dL_termOf_13 (by decide) ?_
      exact zg_retw hC hE hN dL_termOf_14
    · simp [zhd, q0] at h9
theorem tL_termOf {l : Launch} {Z : zZ} {ad : Nat → Nat} (hl : l.stackTraces = false) (d : Nat) (N : Nat) (p2 : Int32) (M : zMem) : zT l Z zfull ad (.codeWith yL_termOf cL_termOf 4 (some .int) [(0, 9, 12, 18)]) yL_termOf (d + 8) false zbw [.ref (ad 0), .int p2, .ref (ad 87)] M (fL_termOf N p2 M) :=
  zTh_of (st := 0) (en := 9) (es := [(1, 12, 18)]) hl (by decide +kernel) (Nat.le_of_ble_eq_true rfl) (fun X hC hE hN => gL_termOf_B0 hC hE hN N p2 M)

def fL_holders (N : Nat) (p2 : Int32) (M : zMem) : zRES :=
  zbx (fX7_holders N p2 M)
    (fun r1 M2 =>
    if zin (0 : Int32) 1 = true then
    zl (zsL M2 87 (0 : Int32).toNatClampNeg r1.toInt64) fun M4 =>
    some (.inl 0, M4)
    else none)
    (fun x M2 =>
    if znx x = 1 then
      some (.inl 1, M2)
    else
    none)
set_option maxRecDepth 20000 in
set_option maxHeartbeats 2000000 in
theorem gL_holders_B0 {l : Launch} {Z : zZ} {ad : Nat → Nat} {d : Nat} {X : zX} (hC : zC l Z zfull ad X RL cL_holders 4 (some .int) (d + 8)) (hE : zEnd Z zfull ad X false) (hN : zTab X 0 9 [(1, 12, 18)]) (N : Nat) (p2 : Int32) (M : zMem) : zG l Z zfull ad X (0, 0) 0 [(0, .ref (ad 0)), (1, .int p2), (2, .ref (ad 87))] [] M (fL_holders N p2 M) := by
  unfold fL_holders
  refine zg_aload_n hC 2 dL_holders_0 rfl ?_
  refine zg_iconst hC (v := 0) dL_holders_1 (by decide) ?_
  refine zg_aload_n hC 0 dL_holders_2 rfl ?_
  refine zg_iload_n hC 1 dL_holders_3 rfl ?_
  refine zg_callXi hC hE hN (k := 0) (As := [.int p2]) (S := [.int 0, .ref (ad 87)]) rfl (tX7_holders (zflag hC) d N p2 M) lkL_55 rfl dL_holders_4 zq0 zk0 rfl rfl (Nat.le_of_ble_eq_true rfl) (by decide) (by intro z hz; simp only [List.mem_cons, List.not_mem_nil, or_false] at hz; rcases hz with rfl; all_goals first | exact ⟨by decide, by decide, ckL_18⟩) zself (fun r1 M2 er1 => ?_) (fun x M2 => ⟨fun h9 => ?_, fun r9 h9 => ?_, fun hp h9 q => ?_⟩)
  · refine zg_i2l hC dL_holders_7 ?_
    refine zg_last hC (k := 87) dL_holders_8 zq87 zk87 (fun h3 M4 eM4 => ?_)
    refine zg_goto hC (tgt := 15) dL_holders_9 (by decide) ?_
    refine zg_iconst hC (v := 0) dL_holders_15 (by decide) ?_
    exact zg_ret hC hE dL_holders_16
  · by_cases q0 : znx x = 1
    · simp [zhd, q0] at h9
    · rw [if_neg q0]
  · by_cases q0 : znx x = 1
    · rw [if_pos q0] at h9
      cases h9
      exact ⟨_, rfl⟩
    · rw [if_neg q0] at h9
      cases h9
  · by_cases q0 : znx x = 1
    · have e9 : 12 = hp := by simpa [zhd, q0] using h9
      subst e9
      rw [if_pos q0]
      refine zg_astore_n hC (L' := [(3, _), (0, _), (1, _), (2, _)]) dL_holders_12 (by decide) rfl ?_
      refine zg_iconst hC (v := 1) dL_holders_13 (by decide) ?_
      exact zg_retw hC hE hN dL_holders_14
    · simp [zhd, q0] at h9
theorem tL_holders {l : Launch} {Z : zZ} {ad : Nat → Nat} (hl : l.stackTraces = false) (d : Nat) (N : Nat) (p2 : Int32) (M : zMem) : zT l Z zfull ad (.codeWith yL_holders cL_holders 4 (some .int) [(0, 9, 12, 18)]) yL_holders (d + 8) false zbw [.ref (ad 0), .int p2, .ref (ad 87)] M (fL_holders N p2 M) :=
  zTh_of (st := 0) (en := 9) (es := [(1, 12, 18)]) hl (by decide +kernel) (Nat.le_of_ble_eq_true rfl) (fun X hC hE hN => gL_holders_B0 hC hE hN N p2 M)

def fL_isHeld_B15 (N : Nat) (s1 : Int32) (s2 : Int64) (M : zMem) : zRES :=
  if zin s1 1 = true then
  zl (zsL M 87 s1.toNatClampNeg s2) fun M5 =>
  some (.inl 0, M5)
  else none
def fL_isHeld (N : Nat) (p2 : Int32) (M : zMem) : zRES :=
  zbx (fX7_isHeld N p2 M)
    (fun r1 M2 =>
    if r1 = 0 then
      fL_isHeld_B15 N 0 0 M2
    else
      fL_isHeld_B15 N 0 1 M2)
    (fun x M2 =>
    if znx x = 1 then
      some (.inl 1, M2)
    else
    none)
set_option maxRecDepth 20000 in
set_option maxHeartbeats 2000000 in
theorem gL_isHeld_B15 {l : Launch} {Z : zZ} {ad : Nat → Nat} {d : Nat} {X : zX} (hC : zC l Z zfull ad X RL cL_isHeld 4 (some .int) (d + 8)) (hE : zEnd Z zfull ad X false) (hN : zTab X 0 16 [(1, 19, 18)]) (N : Nat) (s1 : Int32) (s2 : Int64) (M : zMem) : zG l Z zfull ad X (0, 0) 15 [] [.long s2, .int s1, .ref (ad 87)] M (fL_isHeld_B15 N s1 s2 M) := by
  unfold fL_isHeld_B15
  refine zg_last hC (k := 87) dL_isHeld_15 zq87 zk87 (fun h4 M5 eM5 => ?_)
  refine zg_goto hC (tgt := 22) dL_isHeld_16 (by decide) ?_
  refine zg_iconst hC (v := 0) dL_isHeld_22 (by decide) ?_
  exact zg_ret hC hE dL_isHeld_23
set_option maxRecDepth 20000 in
set_option maxHeartbeats 2000000 in
theorem gL_isHeld_B0 {l : Launch} {Z : zZ} {ad : Nat → Nat} {d : Nat} {X : zX} (hC : zC l Z zfull ad X RL cL_isHeld 4 (some .int) (d + 8)) (hE : zEnd Z zfull ad X false) (hN : zTab X 0 16 [(1, 19, 18)]) (N : Nat) (p2 : Int32) (M : zMem) : zG l Z zfull ad X (0, 0) 0 [(0, .ref (ad 0)), (1, .int p2), (2, .ref (ad 87))] [] M (fL_isHeld N p2 M) := by
  unfold fL_isHeld
  refine zg_aload_n hC 2 dL_isHeld_0 rfl ?_
  refine zg_iconst hC (v := 0) dL_isHeld_1 (by decide) ?_
  refine zg_aload_n hC 0 dL_isHeld_2 rfl ?_
  refine zg_iload_n hC 1 dL_isHeld_3 rfl ?_
  refine zg_callXi hC hE hN (k := 0) (As := [.int p2]) (S := [.int 0, .ref (ad 87)]) rfl (tX7_isHeld (zflag hC) d N p2 M) lkL_58 rfl dL_isHeld_4 zq0 zk0 rfl rfl (Nat.le_of_ble_eq_true rfl) (by decide) (by intro z hz; simp only [List.mem_cons, List.not_mem_nil, or_false] at hz; rcases hz with rfl; all_goals first | exact ⟨by decide, by decide, ckL_18⟩) zself (fun r1 M2 er1 => ?_) (fun x M2 => ⟨fun h9 => ?_, fun r9 h9 => ?_, fun hp h9 q => ?_⟩)
  · refine zg_if_eq hC (tgt := 14) dL_isHeld_7 (by decide) (fun c3 => ?_) (fun c3 => ?_)
    · refine zg_lconst hC (v := 0) dL_isHeld_14 (by decide) ?_
      exact zg_sub [] rfl (gL_isHeld_B15 hC hE hN N 0 0 M2)
    · refine zg_lconst hC (v := 1) dL_isHeld_10 (by decide) ?_
      refine zg_goto hC (tgt := 15) dL_isHeld_11 (by decide) ?_
      exact zg_sub [] rfl (gL_isHeld_B15 hC hE hN N 0 1 M2)
  · by_cases q0 : znx x = 1
    · simp [zhd, q0] at h9
    · rw [if_neg q0]
  · by_cases q0 : znx x = 1
    · rw [if_pos q0] at h9
      cases h9
      exact ⟨_, rfl⟩
    · rw [if_neg q0] at h9
      cases h9
  · by_cases q0 : znx x = 1
    · have e9 : 19 = hp := by simpa [zhd, q0] using h9
      subst e9
      rw [if_pos q0]
      refine zg_astore_n hC (L' := [(3, _), (0, _), (1, _), (2, _)]) dL_isHeld_19 (by decide) rfl ?_
      refine zg_iconst hC (v := 1) dL_isHeld_20 (by decide) ?_
      exact zg_retw hC hE hN dL_isHeld_21
    · simp [zhd, q0] at h9
theorem tL_isHeld {l : Launch} {Z : zZ} {ad : Nat → Nat} (hl : l.stackTraces = false) (d : Nat) (N : Nat) (p2 : Int32) (M : zMem) : zT l Z zfull ad (.codeWith yL_isHeld cL_isHeld 4 (some .int) [(0, 16, 19, 18)]) yL_isHeld (d + 8) false zbw [.ref (ad 0), .int p2, .ref (ad 87)] M (fL_isHeld N p2 M) :=
  zTh_of (st := 0) (en := 16) (es := [(1, 19, 18)]) hl (by decide +kernel) (Nat.le_of_ble_eq_true rfl) (fun X hC hE hN => gL_isHeld_B0 hC hE hN N p2 M)

def fL_wasHeld_B15 (N : Nat) (s1 : Int32) (s2 : Int64) (M : zMem) : zRES :=
  if zin s1 1 = true then
  zl (zsL M 87 s1.toNatClampNeg s2) fun M5 =>
  some (.inl 0, M5)
  else none
def fL_wasHeld (N : Nat) (p2 : Int32) (M : zMem) : zRES :=
  zbx (fX7_wasHeld N p2 M)
    (fun r1 M2 =>
    if r1 = 0 then
      fL_wasHeld_B15 N 0 0 M2
    else
      fL_wasHeld_B15 N 0 1 M2)
    (fun x M2 =>
    if znx x = 1 then
      some (.inl 1, M2)
    else
    none)
set_option maxRecDepth 20000 in
set_option maxHeartbeats 2000000 in
theorem gL_wasHeld_B15 {l : Launch} {Z : zZ} {ad : Nat → Nat} {d : Nat} {X : zX} (hC : zC l Z zfull ad X RL cL_wasHeld 4 (some .int) (d + 8)) (hE : zEnd Z zfull ad X false) (hN : zTab X 0 16 [(1, 19, 18)]) (N : Nat) (s1 : Int32) (s2 : Int64) (M : zMem) : zG l Z zfull ad X (0, 0) 15 [] [.long s2, .int s1, .ref (ad 87)] M (fL_wasHeld_B15 N s1 s2 M) := by
  unfold fL_wasHeld_B15
  refine zg_last hC (k := 87) dL_wasHeld_15 zq87 zk87 (fun h4 M5 eM5 => ?_)
  refine zg_goto hC (tgt := 22) dL_wasHeld_16 (by decide) ?_
  refine zg_iconst hC (v := 0) dL_wasHeld_22 (by decide) ?_
  exact zg_ret hC hE dL_wasHeld_23
set_option maxRecDepth 20000 in
set_option maxHeartbeats 2000000 in
theorem gL_wasHeld_B0 {l : Launch} {Z : zZ} {ad : Nat → Nat} {d : Nat} {X : zX} (hC : zC l Z zfull ad X RL cL_wasHeld 4 (some .int) (d + 8)) (hE : zEnd Z zfull ad X false) (hN : zTab X 0 16 [(1, 19, 18)]) (N : Nat) (p2 : Int32) (M : zMem) : zG l Z zfull ad X (0, 0) 0 [(0, .ref (ad 0)), (1, .int p2), (2, .ref (ad 87))] [] M (fL_wasHeld N p2 M) := by
  unfold fL_wasHeld
  refine zg_aload_n hC 2 dL_wasHeld_0 rfl ?_
  refine zg_iconst hC (v := 0) dL_wasHeld_1 (by decide) ?_
  refine zg_aload_n hC 0 dL_wasHeld_2 rfl ?_
  refine zg_iload_n hC 1 dL_wasHeld_3 rfl ?_
  refine zg_callXi hC hE hN (k := 0) (As := [.int p2]) (S := [.int 0, .ref (ad 87)]) rfl (tX7_wasHeld (zflag hC) d N p2 M) lkL_62 rfl dL_wasHeld_4 zq0 zk0 rfl rfl (Nat.le_of_ble_eq_true rfl) (by decide) (by intro z hz; simp only [List.mem_cons, List.not_mem_nil, or_false] at hz; rcases hz with rfl; all_goals first | exact ⟨by decide, by decide, ckL_18⟩) zself (fun r1 M2 er1 => ?_) (fun x M2 => ⟨fun h9 => ?_, fun r9 h9 => ?_, fun hp h9 q => ?_⟩)
  · refine zg_if_eq hC (tgt := 14) dL_wasHeld_7 (by decide) (fun c3 => ?_) (fun c3 => ?_)
    · refine zg_lconst hC (v := 0) dL_wasHeld_14 (by decide) ?_
      exact zg_sub [] rfl (gL_wasHeld_B15 hC hE hN N 0 0 M2)
    · refine zg_lconst hC (v := 1) dL_wasHeld_10 (by decide) ?_
      refine zg_goto hC (tgt := 15) dL_wasHeld_11 (by decide) ?_
      exact zg_sub [] rfl (gL_wasHeld_B15 hC hE hN N 0 1 M2)
  · by_cases q0 : znx x = 1
    · simp [zhd, q0] at h9
    · rw [if_neg q0]
  · by_cases q0 : znx x = 1
    · rw [if_pos q0] at h9
      cases h9
      exact ⟨_, rfl⟩
    · rw [if_neg q0] at h9
      cases h9
  · by_cases q0 : znx x = 1
    · have e9 : 19 = hp := by simpa [zhd, q0] using h9
      subst e9
      rw [if_pos q0]
      refine zg_astore_n hC (L' := [(3, _), (0, _), (1, _), (2, _)]) dL_wasHeld_19 (by decide) rfl ?_
      refine zg_iconst hC (v := 1) dL_wasHeld_20 (by decide) ?_
      exact zg_retw hC hE hN dL_wasHeld_21
    · simp [zhd, q0] at h9
theorem tL_wasHeld {l : Launch} {Z : zZ} {ad : Nat → Nat} (hl : l.stackTraces = false) (d : Nat) (N : Nat) (p2 : Int32) (M : zMem) : zT l Z zfull ad (.codeWith yL_wasHeld cL_wasHeld 4 (some .int) [(0, 16, 19, 18)]) yL_wasHeld (d + 8) false zbw [.ref (ad 0), .int p2, .ref (ad 87)] M (fL_wasHeld N p2 M) :=
  zTh_of (st := 0) (en := 16) (es := [(1, 19, 18)]) hl (by decide +kernel) (Nat.le_of_ble_eq_true rfl) (fun X hC hE hN => gL_wasHeld_B0 hC hE hN N p2 M)

def fL_current (N : Nat) (p2 : Int32) (p3 : Int32) (M : zMem) : zRES :=
  zbx (fX7_current N p2 p3 M)
    (fun r1 M2 =>
    if zin (0 : Int32) 1 = true then
    zl (zsL M2 87 (0 : Int32).toNatClampNeg r1.toInt64) fun M4 =>
    some (.inl 0, M4)
    else none)
    (fun x M2 =>
    if znx x = 1 then
      some (.inl 1, M2)
    else
    none)
set_option maxRecDepth 20000 in
set_option maxHeartbeats 2000000 in
theorem gL_current_B0 {l : Launch} {Z : zZ} {ad : Nat → Nat} {d : Nat} {X : zX} (hC : zC l Z zfull ad X RL cL_current 5 (some .int) (d + 8)) (hE : zEnd Z zfull ad X false) (hN : zTab X 0 10 [(1, 13, 18)]) (N : Nat) (p2 : Int32) (p3 : Int32) (M : zMem) : zG l Z zfull ad X (0, 0) 0 [(0, .ref (ad 0)), (1, .int p2), (2, .int p3), (3, .ref (ad 87))] [] M (fL_current N p2 p3 M) := by
  unfold fL_current
  refine zg_aload_n hC 3 dL_current_0 rfl ?_
  refine zg_iconst hC (v := 0) dL_current_1 (by decide) ?_
  refine zg_aload_n hC 0 dL_current_2 rfl ?_
  refine zg_iload_n hC 1 dL_current_3 rfl ?_
  refine zg_iload_n hC 2 dL_current_4 rfl ?_
  refine zg_callXi hC hE hN (k := 0) (As := [.int p2, .int p3]) (S := [.int 0, .ref (ad 87)]) rfl (tX7_current (zflag hC) d N p2 p3 M) lkL_65 rfl dL_current_5 zq0 zk0 rfl rfl (Nat.le_of_ble_eq_true rfl) (by decide) (by intro z hz; simp only [List.mem_cons, List.not_mem_nil, or_false] at hz; rcases hz with rfl; all_goals first | exact ⟨by decide, by decide, ckL_18⟩) zself (fun r1 M2 er1 => ?_) (fun x M2 => ⟨fun h9 => ?_, fun r9 h9 => ?_, fun hp h9 q => ?_⟩)
  · refine zg_i2l hC dL_current_8 ?_
    refine zg_last hC (k := 87) dL_current_9 zq87 zk87 (fun h3 M4 eM4 => ?_)
    refine zg_goto hC (tgt := 17) dL_current_10 (by decide) ?_
    refine zg_iconst hC (v := 0) dL_current_17 (by decide) ?_
    exact zg_ret hC hE dL_current_18
  · by_cases q0 : znx x = 1
    · simp [zhd, q0] at h9
    · rw [if_neg q0]
  · by_cases q0 : znx x = 1
    · rw [if_pos q0] at h9
      cases h9
      exact ⟨_, rfl⟩
    · rw [if_neg q0] at h9
      cases h9
  · by_cases q0 : znx x = 1
    · have e9 : 13 = hp := by simpa [zhd, q0] using h9
      subst e9
      rw [if_pos q0]
      refine zg_astore hC (L' := [(4, _), (0, _), (1, _), (2, _), (3, _)]) dL_current_13 (by decide) rfl ?_
      refine zg_iconst hC (v := 1) dL_current_15 (by decide) ?_
      exact zg_retw hC hE hN dL_current_16
    · simp [zhd, q0] at h9
theorem tL_current {l : Launch} {Z : zZ} {ad : Nat → Nat} (hl : l.stackTraces = false) (d : Nat) (N : Nat) (p2 : Int32) (p3 : Int32) (M : zMem) : zT l Z zfull ad (.codeWith yL_current cL_current 5 (some .int) [(0, 10, 13, 18)]) yL_current (d + 8) false zbw [.ref (ad 0), .int p2, .int p3, .ref (ad 87)] M (fL_current N p2 p3 M) :=
  zTh_of (st := 0) (en := 10) (es := [(1, 13, 18)]) hl (by decide +kernel) (Nat.le_of_ble_eq_true rfl) (fun X hC hE hN => gL_current_B0 hC hE hN N p2 p3 M)

def fL_addLot (N : Nat) (M : zMem) : zRES :=
  zbx (fX7_addLot N M)
    (fun r1 M2 =>
    if zin (0 : Int32) 1 = true then
    zl (zsL M2 87 (0 : Int32).toNatClampNeg r1.toInt64) fun M4 =>
    some (.inl 0, M4)
    else none)
    (fun x M2 =>
    if znx x = 3 then
      some (.inl 1, M2)
    else
    none)
set_option maxRecDepth 20000 in
set_option maxHeartbeats 2000000 in
theorem gL_addLot_B0 {l : Launch} {Z : zZ} {ad : Nat → Nat} {d : Nat} {X : zX} (hC : zC l Z zfull ad X RL cL_addLot 3 (some .int) (d + 7)) (hE : zEnd Z zfull ad X false) (hN : zTab X 0 8 [(3, 11, 20)]) (N : Nat) (M : zMem) : zG l Z zfull ad X (0, 0) 0 [(0, .ref (ad 0)), (1, .ref (ad 87))] [] M (fL_addLot N M) := by
  unfold fL_addLot
  refine zg_aload_n hC 1 dL_addLot_0 rfl ?_
  refine zg_iconst hC (v := 0) dL_addLot_1 (by decide) ?_
  refine zg_aload_n hC 0 dL_addLot_2 rfl ?_
  refine zg_callXi hC hE hN (k := 0) (As := []) (S := [.int 0, .ref (ad 87)]) rfl (tX7_addLot (zflag hC) d N M) lkL_68 rfl dL_addLot_3 zq0 zk0 rfl rfl (Nat.le_of_ble_eq_true rfl) (by decide) (by intro z hz; simp only [List.mem_cons, List.not_mem_nil, or_false] at hz; rcases hz with rfl; all_goals first | exact ⟨by decide, by decide, ckL_20⟩) zself (fun r1 M2 er1 => ?_) (fun x M2 => ⟨fun h9 => ?_, fun r9 h9 => ?_, fun hp h9 q => ?_⟩)
  · refine zg_i2l hC dL_addLot_6 ?_
    refine zg_last hC (k := 87) dL_addLot_7 zq87 zk87 (fun h3 M4 eM4 => ?_)
    refine zg_goto hC (tgt := 14) dL_addLot_8 (by decide) ?_
    refine zg_iconst hC (v := 0) dL_addLot_14 (by decide) ?_
    exact zg_ret hC hE dL_addLot_15
  · by_cases q0 : znx x = 3
    · simp [zhd, q0] at h9
    · rw [if_neg q0]
  · by_cases q0 : znx x = 3
    · rw [if_pos q0] at h9
      cases h9
      exact ⟨_, rfl⟩
    · rw [if_neg q0] at h9
      cases h9
  · by_cases q0 : znx x = 3
    · have e9 : 11 = hp := by simpa [zhd, q0] using h9
      subst e9
      rw [if_pos q0]
      refine zg_astore_n hC (L' := [(2, _), (0, _), (1, _)]) dL_addLot_11 (by decide) rfl ?_
      refine zg_iconst hC (v := 1) dL_addLot_12 (by decide) ?_
      exact zg_retw hC hE hN dL_addLot_13
    · simp [zhd, q0] at h9
theorem tL_addLot {l : Launch} {Z : zZ} {ad : Nat → Nat} (hl : l.stackTraces = false) (d : Nat) (N : Nat) (M : zMem) : zT l Z zfull ad (.codeWith yL_addLot cL_addLot 3 (some .int) [(0, 8, 11, 20)]) yL_addLot (d + 7) false zbw [.ref (ad 0), .ref (ad 87)] M (fL_addLot N M) :=
  zTh_of (st := 0) (en := 8) (es := [(3, 11, 20)]) hl (by decide +kernel) (Nat.le_of_ble_eq_true rfl) (fun X hC hE hN => gL_addLot_B0 hC hE hN N M)

def fL_deliver (N : Nat) (p2 : Int32) (p3 : Int32) (p4 : Int32) (M : zMem) : zRES :=
  zbx (fX7_deliver N p2 p3 p4 M)
    (fun r1 M2 =>
    if zin (0 : Int32) 1 = true then
    zl (zsL M2 87 (0 : Int32).toNatClampNeg r1.toInt64) fun M4 =>
    some (.inl 0, M4)
    else none)
    (fun x M2 =>
    if znx x = 1 then
      some (.inl 1, M2)
    else
    if znx x = 2 then
      some (.inl 2, M2)
    else
    if znx x = 3 then
      some (.inl 3, M2)
    else
    none)
set_option maxRecDepth 20000 in
set_option maxHeartbeats 2000000 in
theorem gL_deliver_B0 {l : Launch} {Z : zZ} {ad : Nat → Nat} {d : Nat} {X : zX} (hC : zC l Z zfull ad X RL cL_deliver 6 (some .int) (d + 8)) (hE : zEnd Z zfull ad X false) (hN : zTab X 0 12 [(1, 15, 18), (2, 19, 13), (3, 23, 20)]) (N : Nat) (p2 : Int32) (p3 : Int32) (p4 : Int32) (M : zMem) : zG l Z zfull ad X (0, 0) 0 [(0, .ref (ad 0)), (1, .int p2), (2, .int p3), (3, .int p4), (4, .ref (ad 87))] [] M (fL_deliver N p2 p3 p4 M) := by
  unfold fL_deliver
  refine zg_aload hC 4 dL_deliver_0 rfl ?_
  refine zg_iconst hC (v := 0) dL_deliver_2 (by decide) ?_
  refine zg_aload_n hC 0 dL_deliver_3 rfl ?_
  refine zg_iload_n hC 1 dL_deliver_4 rfl ?_
  refine zg_iload_n hC 2 dL_deliver_5 rfl ?_
  refine zg_iload_n hC 3 dL_deliver_6 rfl ?_
  refine zg_callXi hC hE hN (k := 0) (As := [.int p2, .int p3, .int p4]) (S := [.int 0, .ref (ad 87)]) rfl (tX7_deliver (zflag hC) d N p2 p3 p4 M) lkL_72 rfl dL_deliver_7 zq0 zk0 rfl rfl (Nat.le_of_ble_eq_true rfl) (by decide) (by intro z hz; simp only [List.mem_cons, List.not_mem_nil, or_false] at hz; rcases hz with rfl | rfl | rfl; all_goals first | exact ⟨by decide, by decide, ckL_18⟩ | exact ⟨by decide, by decide, ckL_13⟩ | exact ⟨by decide, by decide, ckL_20⟩) zself (fun r1 M2 er1 => ?_) (fun x M2 => ⟨fun h9 => ?_, fun r9 h9 => ?_, fun hp h9 q => ?_⟩)
  · refine zg_i2l hC dL_deliver_10 ?_
    refine zg_last hC (k := 87) dL_deliver_11 zq87 zk87 (fun h3 M4 eM4 => ?_)
    refine zg_goto hC (tgt := 27) dL_deliver_12 (by decide) ?_
    refine zg_iconst hC (v := 0) dL_deliver_27 (by decide) ?_
    exact zg_ret hC hE dL_deliver_28
  · by_cases q0 : znx x = 1
    · simp [zhd, q0] at h9
    · by_cases q1 : znx x = 2
      · simp [zhd, q0, q1] at h9
      · by_cases q2 : znx x = 3
        · simp [zhd, q0, q1, q2] at h9
        · rw [if_neg q0, if_neg q1, if_neg q2]
  · by_cases q0 : znx x = 1
    · rw [if_pos q0] at h9
      cases h9
      exact ⟨_, rfl⟩
    · by_cases q1 : znx x = 2
      · rw [if_neg q0, if_pos q1] at h9
        cases h9
        exact ⟨_, rfl⟩
      · by_cases q2 : znx x = 3
        · rw [if_neg q0, if_neg q1, if_pos q2] at h9
          cases h9
          exact ⟨_, rfl⟩
        · rw [if_neg q0, if_neg q1, if_neg q2] at h9
          cases h9
  · by_cases q0 : znx x = 1
    · have e9 : 15 = hp := by simpa [zhd, q0] using h9
      subst e9
      rw [if_pos q0]
      refine zg_astore hC (L' := [(5, _), (0, _), (1, _), (2, _), (3, _), (4, _)]) dL_deliver_15 (by decide) rfl ?_
      refine zg_iconst hC (v := 1) dL_deliver_17 (by decide) ?_
      exact zg_retw hC hE hN dL_deliver_18
    · by_cases q1 : znx x = 2
      · have e9 : 19 = hp := by simpa [zhd, q0, q1] using h9
        subst e9
        rw [if_neg q0, if_pos q1]
        refine zg_astore hC (L' := [(5, _), (0, _), (1, _), (2, _), (3, _), (4, _)]) dL_deliver_19 (by decide) rfl ?_
        refine zg_iconst hC (v := 2) dL_deliver_21 (by decide) ?_
        exact zg_retw hC hE hN dL_deliver_22
      · by_cases q2 : znx x = 3
        · have e9 : 23 = hp := by simpa [zhd, q0, q1, q2] using h9
          subst e9
          rw [if_neg q0, if_neg q1, if_pos q2]
          refine zg_astore hC (L' := [(5, _), (0, _), (1, _), (2, _), (3, _), (4, _)]) dL_deliver_23 (by decide) rfl ?_
          refine zg_iconst hC (v := 3) dL_deliver_25 (by decide) ?_
          exact zg_retw hC hE hN dL_deliver_26
        · simp [zhd, q0, q1, q2] at h9
theorem tL_deliver {l : Launch} {Z : zZ} {ad : Nat → Nat} (hl : l.stackTraces = false) (d : Nat) (N : Nat) (p2 : Int32) (p3 : Int32) (p4 : Int32) (M : zMem) : zT l Z zfull ad (.codeWith yL_deliver cL_deliver 6 (some .int) [(0, 12, 15, 18), (0, 12, 19, 13), (0, 12, 23, 20)]) yL_deliver (d + 8) false zbw [.ref (ad 0), .int p2, .int p3, .int p4, .ref (ad 87)] M (fL_deliver N p2 p3 p4 M) :=
  zTh_of (st := 0) (en := 12) (es := [(1, 15, 18), (2, 19, 13), (3, 23, 20)]) hl (by decide +kernel) (Nat.le_of_ble_eq_true rfl) (fun X hC hE hN => gL_deliver_B0 hC hE hN N p2 p3 p4 M)

def fL_condemn (N : Nat) (p2 : Int32) (M : zMem) : zRES :=
  zbx (fX7_condemn N p2 M)
    (fun r1 M2 =>
    if zin (0 : Int32) 1 = true then
    zl (zsL M2 87 (0 : Int32).toNatClampNeg r1.toInt64) fun M4 =>
    some (.inl 0, M4)
    else none)
    (fun x M2 =>
    if znx x = 1 then
      some (.inl 1, M2)
    else
    if znx x = 3 then
      some (.inl 2, M2)
    else
    none)
set_option maxRecDepth 20000 in
set_option maxHeartbeats 2000000 in
theorem gL_condemn_B0 {l : Launch} {Z : zZ} {ad : Nat → Nat} {d : Nat} {X : zX} (hC : zC l Z zfull ad X RL cL_condemn 4 (some .int) (d + 8)) (hE : zEnd Z zfull ad X false) (hN : zTab X 0 9 [(1, 12, 18), (3, 15, 20)]) (N : Nat) (p2 : Int32) (M : zMem) : zG l Z zfull ad X (0, 0) 0 [(0, .ref (ad 0)), (1, .int p2), (2, .ref (ad 87))] [] M (fL_condemn N p2 M) := by
  unfold fL_condemn
  refine zg_aload_n hC 2 dL_condemn_0 rfl ?_
  refine zg_iconst hC (v := 0) dL_condemn_1 (by decide) ?_
  refine zg_aload_n hC 0 dL_condemn_2 rfl ?_
  refine zg_iload_n hC 1 dL_condemn_3 rfl ?_
  refine zg_callXi hC hE hN (k := 0) (As := [.int p2]) (S := [.int 0, .ref (ad 87)]) rfl (tX7_condemn (zflag hC) d N p2 M) lkL_76 rfl dL_condemn_4 zq0 zk0 rfl rfl (Nat.le_of_ble_eq_true rfl) (by decide) (by intro z hz; simp only [List.mem_cons, List.not_mem_nil, or_false] at hz; rcases hz with rfl | rfl; all_goals first | exact ⟨by decide, by decide, ckL_18⟩ | exact ⟨by decide, by decide, ckL_20⟩) zself (fun r1 M2 er1 => ?_) (fun x M2 => ⟨fun h9 => ?_, fun r9 h9 => ?_, fun hp h9 q => ?_⟩)
  · refine zg_i2l hC dL_condemn_7 ?_
    refine zg_last hC (k := 87) dL_condemn_8 zq87 zk87 (fun h3 M4 eM4 => ?_)
    refine zg_goto hC (tgt := 18) dL_condemn_9 (by decide) ?_
    refine zg_iconst hC (v := 0) dL_condemn_18 (by decide) ?_
    exact zg_ret hC hE dL_condemn_19
  · by_cases q0 : znx x = 1
    · simp [zhd, q0] at h9
    · by_cases q1 : znx x = 3
      · simp [zhd, q0, q1] at h9
      · rw [if_neg q0, if_neg q1]
  · by_cases q0 : znx x = 1
    · rw [if_pos q0] at h9
      cases h9
      exact ⟨_, rfl⟩
    · by_cases q1 : znx x = 3
      · rw [if_neg q0, if_pos q1] at h9
        cases h9
        exact ⟨_, rfl⟩
      · rw [if_neg q0, if_neg q1] at h9
        cases h9
  · by_cases q0 : znx x = 1
    · have e9 : 12 = hp := by simpa [zhd, q0] using h9
      subst e9
      rw [if_pos q0]
      refine zg_astore_n hC (L' := [(3, _), (0, _), (1, _), (2, _)]) dL_condemn_12 (by decide) rfl ?_
      refine zg_iconst hC (v := 1) dL_condemn_13 (by decide) ?_
      exact zg_retw hC hE hN dL_condemn_14
    · by_cases q1 : znx x = 3
      · have e9 : 15 = hp := by simpa [zhd, q0, q1] using h9
        subst e9
        rw [if_neg q0, if_pos q1]
        refine zg_astore_n hC (L' := [(3, _), (0, _), (1, _), (2, _)]) dL_condemn_15 (by decide) rfl ?_
        refine zg_iconst hC (v := 2) dL_condemn_16 (by decide) ?_
        exact zg_retw hC hE hN dL_condemn_17
      · simp [zhd, q0, q1] at h9
theorem tL_condemn {l : Launch} {Z : zZ} {ad : Nat → Nat} (hl : l.stackTraces = false) (d : Nat) (N : Nat) (p2 : Int32) (M : zMem) : zT l Z zfull ad (.codeWith yL_condemn cL_condemn 4 (some .int) [(0, 9, 12, 18), (0, 9, 15, 20)]) yL_condemn (d + 8) false zbw [.ref (ad 0), .int p2, .ref (ad 87)] M (fL_condemn N p2 M) :=
  zTh_of (st := 0) (en := 9) (es := [(1, 12, 18), (3, 15, 20)]) hl (by decide +kernel) (Nat.le_of_ble_eq_true rfl) (fun X hC hE hN => gL_condemn_B0 hC hE hN N p2 M)

def fL_store (N : Nat) (p2 : Int32) (M : zMem) : zRES :=
  zbx (fX7_store N p2 M)
    (fun r1 M2 =>
    if zin (0 : Int32) 1 = true then
    zl (zsL M2 87 (0 : Int32).toNatClampNeg r1.toInt64) fun M4 =>
    some (.inl 0, M4)
    else none)
    (fun x M2 =>
    if znx x = 1 then
      some (.inl 1, M2)
    else
    none)
set_option maxRecDepth 20000 in
set_option maxHeartbeats 2000000 in
theorem gL_store_B0 {l : Launch} {Z : zZ} {ad : Nat → Nat} {d : Nat} {X : zX} (hC : zC l Z zfull ad X RL cL_store 4 (some .int) (d + 8)) (hE : zEnd Z zfull ad X false) (hN : zTab X 0 9 [(1, 12, 18)]) (N : Nat) (p2 : Int32) (M : zMem) : zG l Z zfull ad X (0, 0) 0 [(0, .ref (ad 0)), (1, .int p2), (2, .ref (ad 87))] [] M (fL_store N p2 M) := by
  unfold fL_store
  refine zg_aload_n hC 2 dL_store_0 rfl ?_
  refine zg_iconst hC (v := 0) dL_store_1 (by decide) ?_
  refine zg_aload_n hC 0 dL_store_2 rfl ?_
  refine zg_iload_n hC 1 dL_store_3 rfl ?_
  refine zg_callXi hC hE hN (k := 0) (As := [.int p2]) (S := [.int 0, .ref (ad 87)]) rfl (tX7_store (zflag hC) d N p2 M) lkL_79 rfl dL_store_4 zq0 zk0 rfl rfl (Nat.le_of_ble_eq_true rfl) (by decide) (by intro z hz; simp only [List.mem_cons, List.not_mem_nil, or_false] at hz; rcases hz with rfl; all_goals first | exact ⟨by decide, by decide, ckL_18⟩) zself (fun r1 M2 er1 => ?_) (fun x M2 => ⟨fun h9 => ?_, fun r9 h9 => ?_, fun hp h9 q => ?_⟩)
  · refine zg_i2l hC dL_store_7 ?_
    refine zg_last hC (k := 87) dL_store_8 zq87 zk87 (fun h3 M4 eM4 => ?_)
    refine zg_goto hC (tgt := 15) dL_store_9 (by decide) ?_
    refine zg_iconst hC (v := 0) dL_store_15 (by decide) ?_
    exact zg_ret hC hE dL_store_16
  · by_cases q0 : znx x = 1
    · simp [zhd, q0] at h9
    · rw [if_neg q0]
  · by_cases q0 : znx x = 1
    · rw [if_pos q0] at h9
      cases h9
      exact ⟨_, rfl⟩
    · rw [if_neg q0] at h9
      cases h9
  · by_cases q0 : znx x = 1
    · have e9 : 12 = hp := by simpa [zhd, q0] using h9
      subst e9
      rw [if_pos q0]
      refine zg_astore_n hC (L' := [(3, _), (0, _), (1, _), (2, _)]) dL_store_12 (by decide) rfl ?_
      refine zg_iconst hC (v := 1) dL_store_13 (by decide) ?_
      exact zg_retw hC hE hN dL_store_14
    · simp [zhd, q0] at h9
theorem tL_store {l : Launch} {Z : zZ} {ad : Nat → Nat} (hl : l.stackTraces = false) (d : Nat) (N : Nat) (p2 : Int32) (M : zMem) : zT l Z zfull ad (.codeWith yL_store cL_store 4 (some .int) [(0, 9, 12, 18)]) yL_store (d + 8) false zbw [.ref (ad 0), .int p2, .ref (ad 87)] M (fL_store N p2 M) :=
  zTh_of (st := 0) (en := 9) (es := [(1, 12, 18)]) hl (by decide +kernel) (Nat.le_of_ble_eq_true rfl) (fun X hC hE hN => gL_store_B0 hC hE hN N p2 M)

def fL_book (N : Nat) (p2 : Int32) (p3 : Int32) (p4 : Int32) (M : zMem) : zRES :=
  zbx (fX7_book N p2 p3 p4 M)
    (fun r1 M2 =>
    if zin (0 : Int32) 1 = true then
    zl (zsL M2 87 (0 : Int32).toNatClampNeg r1.toInt64) fun M4 =>
    some (.inl 0, M4)
    else none)
    (fun x M2 =>
    if znx x = 1 then
      some (.inl 1, M2)
    else
    if znx x = 2 then
      some (.inl 2, M2)
    else
    if znx x = 3 then
      some (.inl 3, M2)
    else
    none)
set_option maxRecDepth 20000 in
set_option maxHeartbeats 2000000 in
theorem gL_book_B0 {l : Launch} {Z : zZ} {ad : Nat → Nat} {d : Nat} {X : zX} (hC : zC l Z zfull ad X RL cL_book 6 (some .int) (d + 8)) (hE : zEnd Z zfull ad X false) (hN : zTab X 0 12 [(1, 15, 18), (2, 19, 13), (3, 23, 20)]) (N : Nat) (p2 : Int32) (p3 : Int32) (p4 : Int32) (M : zMem) : zG l Z zfull ad X (0, 0) 0 [(0, .ref (ad 0)), (1, .int p2), (2, .int p3), (3, .int p4), (4, .ref (ad 87))] [] M (fL_book N p2 p3 p4 M) := by
  unfold fL_book
  refine zg_aload hC 4 dL_book_0 rfl ?_
  refine zg_iconst hC (v := 0) dL_book_2 (by decide) ?_
  refine zg_aload_n hC 0 dL_book_3 rfl ?_
  refine zg_iload_n hC 1 dL_book_4 rfl ?_
  refine zg_iload_n hC 2 dL_book_5 rfl ?_
  refine zg_iload_n hC 3 dL_book_6 rfl ?_
  refine zg_callXi hC hE hN (k := 0) (As := [.int p2, .int p3, .int p4]) (S := [.int 0, .ref (ad 87)]) rfl (tX7_book (zflag hC) d N p2 p3 p4 M) lkL_82 rfl dL_book_7 zq0 zk0 rfl rfl (Nat.le_of_ble_eq_true rfl) (by decide) (by intro z hz; simp only [List.mem_cons, List.not_mem_nil, or_false] at hz; rcases hz with rfl | rfl | rfl; all_goals first | exact ⟨by decide, by decide, ckL_18⟩ | exact ⟨by decide, by decide, ckL_13⟩ | exact ⟨by decide, by decide, ckL_20⟩) zself (fun r1 M2 er1 => ?_) (fun x M2 => ⟨fun h9 => ?_, fun r9 h9 => ?_, fun hp h9 q => ?_⟩)
  · refine zg_i2l hC dL_book_10 ?_
    refine zg_last hC (k := 87) dL_book_11 zq87 zk87 (fun h3 M4 eM4 => ?_)
    refine zg_goto hC (tgt := 27) dL_book_12 (by decide) ?_
    refine zg_iconst hC (v := 0) dL_book_27 (by decide) ?_
    exact zg_ret hC hE dL_book_28
  · by_cases q0 : znx x = 1
    · simp [zhd, q0] at h9
    · by_cases q1 : znx x = 2
      · simp [zhd, q0, q1] at h9
      · by_cases q2 : znx x = 3
        · simp [zhd, q0, q1, q2] at h9
        · rw [if_neg q0, if_neg q1, if_neg q2]
  · by_cases q0 : znx x = 1
    · rw [if_pos q0] at h9
      cases h9
      exact ⟨_, rfl⟩
    · by_cases q1 : znx x = 2
      · rw [if_neg q0, if_pos q1] at h9
        cases h9
        exact ⟨_, rfl⟩
      · by_cases q2 : znx x = 3
        · rw [if_neg q0, if_neg q1, if_pos q2] at h9
          cases h9
          exact ⟨_, rfl⟩
        · rw [if_neg q0, if_neg q1, if_neg q2] at h9
          cases h9
  · by_cases q0 : znx x = 1
    · have e9 : 15 = hp := by simpa [zhd, q0] using h9
      subst e9
      rw [if_pos q0]
      refine zg_astore hC (L' := [(5, _), (0, _), (1, _), (2, _), (3, _), (4, _)]) dL_book_15 (by decide) rfl ?_
      refine zg_iconst hC (v := 1) dL_book_17 (by decide) ?_
      exact zg_retw hC hE hN dL_book_18
    · by_cases q1 : znx x = 2
      · have e9 : 19 = hp := by simpa [zhd, q0, q1] using h9
        subst e9
        rw [if_neg q0, if_pos q1]
        refine zg_astore hC (L' := [(5, _), (0, _), (1, _), (2, _), (3, _), (4, _)]) dL_book_19 (by decide) rfl ?_
        refine zg_iconst hC (v := 2) dL_book_21 (by decide) ?_
        exact zg_retw hC hE hN dL_book_22
      · by_cases q2 : znx x = 3
        · have e9 : 23 = hp := by simpa [zhd, q0, q1, q2] using h9
          subst e9
          rw [if_neg q0, if_neg q1, if_pos q2]
          refine zg_astore hC (L' := [(5, _), (0, _), (1, _), (2, _), (3, _), (4, _)]) dL_book_23 (by decide) rfl ?_
          refine zg_iconst hC (v := 3) dL_book_25 (by decide) ?_
          exact zg_retw hC hE hN dL_book_26
        · simp [zhd, q0, q1, q2] at h9
theorem tL_book {l : Launch} {Z : zZ} {ad : Nat → Nat} (hl : l.stackTraces = false) (d : Nat) (N : Nat) (p2 : Int32) (p3 : Int32) (p4 : Int32) (M : zMem) : zT l Z zfull ad (.codeWith yL_book cL_book 6 (some .int) [(0, 12, 15, 18), (0, 12, 19, 13), (0, 12, 23, 20)]) yL_book (d + 8) false zbw [.ref (ad 0), .int p2, .int p3, .int p4, .ref (ad 87)] M (fL_book N p2 p3 p4 M) :=
  zTh_of (st := 0) (en := 12) (es := [(1, 15, 18), (2, 19, 13), (3, 23, 20)]) hl (by decide +kernel) (Nat.le_of_ble_eq_true rfl) (fun X hC hE hN => gL_book_B0 hC hE hN N p2 p3 p4 M)

def fL_renew (N : Nat) (p2 : Int32) (p3 : Int32) (M : zMem) : zRES :=
  zbx (fX7_renew N p2 p3 M)
    (fun r1 M2 =>
    if zin (0 : Int32) 1 = true then
    zl (zsL M2 87 (0 : Int32).toNatClampNeg r1.toInt64) fun M4 =>
    some (.inl 0, M4)
    else none)
    (fun x M2 =>
    if znx x = 1 then
      some (.inl 1, M2)
    else
    if znx x = 2 then
      some (.inl 2, M2)
    else
    if znx x = 3 then
      some (.inl 3, M2)
    else
    none)
set_option maxRecDepth 20000 in
set_option maxHeartbeats 2000000 in
theorem gL_renew_B0 {l : Launch} {Z : zZ} {ad : Nat → Nat} {d : Nat} {X : zX} (hC : zC l Z zfull ad X RL cL_renew 5 (some .int) (d + 8)) (hE : zEnd Z zfull ad X false) (hN : zTab X 0 10 [(1, 13, 18), (2, 17, 13), (3, 21, 20)]) (N : Nat) (p2 : Int32) (p3 : Int32) (M : zMem) : zG l Z zfull ad X (0, 0) 0 [(0, .ref (ad 0)), (1, .int p2), (2, .int p3), (3, .ref (ad 87))] [] M (fL_renew N p2 p3 M) := by
  unfold fL_renew
  refine zg_aload_n hC 3 dL_renew_0 rfl ?_
  refine zg_iconst hC (v := 0) dL_renew_1 (by decide) ?_
  refine zg_aload_n hC 0 dL_renew_2 rfl ?_
  refine zg_iload_n hC 1 dL_renew_3 rfl ?_
  refine zg_iload_n hC 2 dL_renew_4 rfl ?_
  refine zg_callXi hC hE hN (k := 0) (As := [.int p2, .int p3]) (S := [.int 0, .ref (ad 87)]) rfl (tX7_renew (zflag hC) d N p2 p3 M) lkL_85 rfl dL_renew_5 zq0 zk0 rfl rfl (Nat.le_of_ble_eq_true rfl) (by decide) (by intro z hz; simp only [List.mem_cons, List.not_mem_nil, or_false] at hz; rcases hz with rfl | rfl | rfl; all_goals first | exact ⟨by decide, by decide, ckL_18⟩ | exact ⟨by decide, by decide, ckL_13⟩ | exact ⟨by decide, by decide, ckL_20⟩) zself (fun r1 M2 er1 => ?_) (fun x M2 => ⟨fun h9 => ?_, fun r9 h9 => ?_, fun hp h9 q => ?_⟩)
  · refine zg_i2l hC dL_renew_8 ?_
    refine zg_last hC (k := 87) dL_renew_9 zq87 zk87 (fun h3 M4 eM4 => ?_)
    refine zg_goto hC (tgt := 25) dL_renew_10 (by decide) ?_
    refine zg_iconst hC (v := 0) dL_renew_25 (by decide) ?_
    exact zg_ret hC hE dL_renew_26
  · by_cases q0 : znx x = 1
    · simp [zhd, q0] at h9
    · by_cases q1 : znx x = 2
      · simp [zhd, q0, q1] at h9
      · by_cases q2 : znx x = 3
        · simp [zhd, q0, q1, q2] at h9
        · rw [if_neg q0, if_neg q1, if_neg q2]
  · by_cases q0 : znx x = 1
    · rw [if_pos q0] at h9
      cases h9
      exact ⟨_, rfl⟩
    · by_cases q1 : znx x = 2
      · rw [if_neg q0, if_pos q1] at h9
        cases h9
        exact ⟨_, rfl⟩
      · by_cases q2 : znx x = 3
        · rw [if_neg q0, if_neg q1, if_pos q2] at h9
          cases h9
          exact ⟨_, rfl⟩
        · rw [if_neg q0, if_neg q1, if_neg q2] at h9
          cases h9
  · by_cases q0 : znx x = 1
    · have e9 : 13 = hp := by simpa [zhd, q0] using h9
      subst e9
      rw [if_pos q0]
      refine zg_astore hC (L' := [(4, _), (0, _), (1, _), (2, _), (3, _)]) dL_renew_13 (by decide) rfl ?_
      refine zg_iconst hC (v := 1) dL_renew_15 (by decide) ?_
      exact zg_retw hC hE hN dL_renew_16
    · by_cases q1 : znx x = 2
      · have e9 : 17 = hp := by simpa [zhd, q0, q1] using h9
        subst e9
        rw [if_neg q0, if_pos q1]
        refine zg_astore hC (L' := [(4, _), (0, _), (1, _), (2, _), (3, _)]) dL_renew_17 (by decide) rfl ?_
        refine zg_iconst hC (v := 2) dL_renew_19 (by decide) ?_
        exact zg_retw hC hE hN dL_renew_20
      · by_cases q2 : znx x = 3
        · have e9 : 21 = hp := by simpa [zhd, q0, q1, q2] using h9
          subst e9
          rw [if_neg q0, if_neg q1, if_pos q2]
          refine zg_astore hC (L' := [(4, _), (0, _), (1, _), (2, _), (3, _)]) dL_renew_21 (by decide) rfl ?_
          refine zg_iconst hC (v := 3) dL_renew_23 (by decide) ?_
          exact zg_retw hC hE hN dL_renew_24
        · simp [zhd, q0, q1, q2] at h9
theorem tL_renew {l : Launch} {Z : zZ} {ad : Nat → Nat} (hl : l.stackTraces = false) (d : Nat) (N : Nat) (p2 : Int32) (p3 : Int32) (M : zMem) : zT l Z zfull ad (.codeWith yL_renew cL_renew 5 (some .int) [(0, 10, 13, 18), (0, 10, 17, 13), (0, 10, 21, 20)]) yL_renew (d + 8) false zbw [.ref (ad 0), .int p2, .int p3, .ref (ad 87)] M (fL_renew N p2 p3 M) :=
  zTh_of (st := 0) (en := 10) (es := [(1, 13, 18), (2, 17, 13), (3, 21, 20)]) hl (by decide +kernel) (Nat.le_of_ble_eq_true rfl) (fun X hC hE hN => gL_renew_B0 hC hE hN N p2 p3 M)

def fL_free (N : Nat) (p2 : Int32) (p3 : Int32) (M : zMem) : zRES :=
  zbx (fX7_free N p2 p3 M)
    (fun r1 M2 =>
    if zin (0 : Int32) 1 = true then
    zl (zsL M2 87 (0 : Int32).toNatClampNeg r1.toInt64) fun M4 =>
    some (.inl 0, M4)
    else none)
    (fun x M2 =>
    if znx x = 1 then
      some (.inl 1, M2)
    else
    if znx x = 2 then
      some (.inl 2, M2)
    else
    if znx x = 3 then
      some (.inl 3, M2)
    else
    none)
set_option maxRecDepth 20000 in
set_option maxHeartbeats 2000000 in
theorem gL_free_B0 {l : Launch} {Z : zZ} {ad : Nat → Nat} {d : Nat} {X : zX} (hC : zC l Z zfull ad X RL cL_free 5 (some .int) (d + 8)) (hE : zEnd Z zfull ad X false) (hN : zTab X 0 10 [(1, 13, 18), (2, 17, 13), (3, 21, 20)]) (N : Nat) (p2 : Int32) (p3 : Int32) (M : zMem) : zG l Z zfull ad X (0, 0) 0 [(0, .ref (ad 0)), (1, .int p2), (2, .int p3), (3, .ref (ad 87))] [] M (fL_free N p2 p3 M) := by
  unfold fL_free
  refine zg_aload_n hC 3 dL_free_0 rfl ?_
  refine zg_iconst hC (v := 0) dL_free_1 (by decide) ?_
  refine zg_aload_n hC 0 dL_free_2 rfl ?_
  refine zg_iload_n hC 1 dL_free_3 rfl ?_
  refine zg_iload_n hC 2 dL_free_4 rfl ?_
  refine zg_callXi hC hE hN (k := 0) (As := [.int p2, .int p3]) (S := [.int 0, .ref (ad 87)]) rfl (tX7_free (zflag hC) d N p2 p3 M) lkL_88 rfl dL_free_5 zq0 zk0 rfl rfl (Nat.le_of_ble_eq_true rfl) (by decide) (by intro z hz; simp only [List.mem_cons, List.not_mem_nil, or_false] at hz; rcases hz with rfl | rfl | rfl; all_goals first | exact ⟨by decide, by decide, ckL_18⟩ | exact ⟨by decide, by decide, ckL_13⟩ | exact ⟨by decide, by decide, ckL_20⟩) zself (fun r1 M2 er1 => ?_) (fun x M2 => ⟨fun h9 => ?_, fun r9 h9 => ?_, fun hp h9 q => ?_⟩)
  · refine zg_i2l hC dL_free_8 ?_
    refine zg_last hC (k := 87) dL_free_9 zq87 zk87 (fun h3 M4 eM4 => ?_)
    refine zg_goto hC (tgt := 25) dL_free_10 (by decide) ?_
    refine zg_iconst hC (v := 0) dL_free_25 (by decide) ?_
    exact zg_ret hC hE dL_free_26
  · by_cases q0 : znx x = 1
    · simp [zhd, q0] at h9
    · by_cases q1 : znx x = 2
      · simp [zhd, q0, q1] at h9
      · by_cases q2 : znx x = 3
        · simp [zhd, q0, q1, q2] at h9
        · rw [if_neg q0, if_neg q1, if_neg q2]
  · by_cases q0 : znx x = 1
    · rw [if_pos q0] at h9
      cases h9
      exact ⟨_, rfl⟩
    · by_cases q1 : znx x = 2
      · rw [if_neg q0, if_pos q1] at h9
        cases h9
        exact ⟨_, rfl⟩
      · by_cases q2 : znx x = 3
        · rw [if_neg q0, if_neg q1, if_pos q2] at h9
          cases h9
          exact ⟨_, rfl⟩
        · rw [if_neg q0, if_neg q1, if_neg q2] at h9
          cases h9
  · by_cases q0 : znx x = 1
    · have e9 : 13 = hp := by simpa [zhd, q0] using h9
      subst e9
      rw [if_pos q0]
      refine zg_astore hC (L' := [(4, _), (0, _), (1, _), (2, _), (3, _)]) dL_free_13 (by decide) rfl ?_
      refine zg_iconst hC (v := 1) dL_free_15 (by decide) ?_
      exact zg_retw hC hE hN dL_free_16
    · by_cases q1 : znx x = 2
      · have e9 : 17 = hp := by simpa [zhd, q0, q1] using h9
        subst e9
        rw [if_neg q0, if_pos q1]
        refine zg_astore hC (L' := [(4, _), (0, _), (1, _), (2, _), (3, _)]) dL_free_17 (by decide) rfl ?_
        refine zg_iconst hC (v := 2) dL_free_19 (by decide) ?_
        exact zg_retw hC hE hN dL_free_20
      · by_cases q2 : znx x = 3
        · have e9 : 21 = hp := by simpa [zhd, q0, q1, q2] using h9
          subst e9
          rw [if_neg q0, if_neg q1, if_pos q2]
          refine zg_astore hC (L' := [(4, _), (0, _), (1, _), (2, _), (3, _)]) dL_free_21 (by decide) rfl ?_
          refine zg_iconst hC (v := 3) dL_free_23 (by decide) ?_
          exact zg_retw hC hE hN dL_free_24
        · simp [zhd, q0, q1, q2] at h9
theorem tL_free {l : Launch} {Z : zZ} {ad : Nat → Nat} (hl : l.stackTraces = false) (d : Nat) (N : Nat) (p2 : Int32) (p3 : Int32) (M : zMem) : zT l Z zfull ad (.codeWith yL_free cL_free 5 (some .int) [(0, 10, 13, 18), (0, 10, 17, 13), (0, 10, 21, 20)]) yL_free (d + 8) false zbw [.ref (ad 0), .int p2, .int p3, .ref (ad 87)] M (fL_free N p2 p3 M) :=
  zTh_of (st := 0) (en := 10) (es := [(1, 13, 18), (2, 17, 13), (3, 21, 20)]) hl (by decide +kernel) (Nat.le_of_ble_eq_true rfl) (fun X hC hE hN => gL_free_B0 hC hE hN N p2 p3 M)

def fL_booked (N : Nat) (p2 : Int32) (p3 : Int32) (M : zMem) : zRES :=
  zbx (fX7_booked N p2 p3 M)
    (fun r1 M2 =>
    if zin (0 : Int32) 1 = true then
    zl (zsL M2 87 (0 : Int32).toNatClampNeg r1.toInt64) fun M4 =>
    some (.inl 0, M4)
    else none)
    (fun x M2 =>
    if znx x = 1 then
      some (.inl 1, M2)
    else
    if znx x = 2 then
      some (.inl 2, M2)
    else
    none)
set_option maxRecDepth 20000 in
set_option maxHeartbeats 2000000 in
theorem gL_booked_B0 {l : Launch} {Z : zZ} {ad : Nat → Nat} {d : Nat} {X : zX} (hC : zC l Z zfull ad X RL cL_booked 5 (some .int) (d + 8)) (hE : zEnd Z zfull ad X false) (hN : zTab X 0 10 [(1, 13, 18), (2, 17, 13)]) (N : Nat) (p2 : Int32) (p3 : Int32) (M : zMem) : zG l Z zfull ad X (0, 0) 0 [(0, .ref (ad 0)), (1, .int p2), (2, .int p3), (3, .ref (ad 87))] [] M (fL_booked N p2 p3 M) := by
  unfold fL_booked
  refine zg_aload_n hC 3 dL_booked_0 rfl ?_
  refine zg_iconst hC (v := 0) dL_booked_1 (by decide) ?_
  refine zg_aload_n hC 0 dL_booked_2 rfl ?_
  refine zg_iload_n hC 1 dL_booked_3 rfl ?_
  refine zg_iload_n hC 2 dL_booked_4 rfl ?_
  refine zg_callXi hC hE hN (k := 0) (As := [.int p2, .int p3]) (S := [.int 0, .ref (ad 87)]) rfl (tX7_booked (zflag hC) d N p2 p3 M) lkL_91 rfl dL_booked_5 zq0 zk0 rfl rfl (Nat.le_of_ble_eq_true rfl) (by decide) (by intro z hz; simp only [List.mem_cons, List.not_mem_nil, or_false] at hz; rcases hz with rfl | rfl; all_goals first | exact ⟨by decide, by decide, ckL_18⟩ | exact ⟨by decide, by decide, ckL_13⟩) zself (fun r1 M2 er1 => ?_) (fun x M2 => ⟨fun h9 => ?_, fun r9 h9 => ?_, fun hp h9 q => ?_⟩)
  · refine zg_i2l hC dL_booked_8 ?_
    refine zg_last hC (k := 87) dL_booked_9 zq87 zk87 (fun h3 M4 eM4 => ?_)
    refine zg_goto hC (tgt := 21) dL_booked_10 (by decide) ?_
    refine zg_iconst hC (v := 0) dL_booked_21 (by decide) ?_
    exact zg_ret hC hE dL_booked_22
  · by_cases q0 : znx x = 1
    · simp [zhd, q0] at h9
    · by_cases q1 : znx x = 2
      · simp [zhd, q0, q1] at h9
      · rw [if_neg q0, if_neg q1]
  · by_cases q0 : znx x = 1
    · rw [if_pos q0] at h9
      cases h9
      exact ⟨_, rfl⟩
    · by_cases q1 : znx x = 2
      · rw [if_neg q0, if_pos q1] at h9
        cases h9
        exact ⟨_, rfl⟩
      · rw [if_neg q0, if_neg q1] at h9
        cases h9
  · by_cases q0 : znx x = 1
    · have e9 : 13 = hp := by simpa [zhd, q0] using h9
      subst e9
      rw [if_pos q0]
      refine zg_astore hC (L' := [(4, _), (0, _), (1, _), (2, _), (3, _)]) dL_booked_13 (by decide) rfl ?_
      refine zg_iconst hC (v := 1) dL_booked_15 (by decide) ?_
      exact zg_retw hC hE hN dL_booked_16
    · by_cases q1 : znx x = 2
      · have e9 : 17 = hp := by simpa [zhd, q0, q1] using h9
        subst e9
        rw [if_neg q0, if_pos q1]
        refine zg_astore hC (L' := [(4, _), (0, _), (1, _), (2, _), (3, _)]) dL_booked_17 (by decide) rfl ?_
        refine zg_iconst hC (v := 2) dL_booked_19 (by decide) ?_
        exact zg_retw hC hE hN dL_booked_20
      · simp [zhd, q0, q1] at h9
theorem tL_booked {l : Launch} {Z : zZ} {ad : Nat → Nat} (hl : l.stackTraces = false) (d : Nat) (N : Nat) (p2 : Int32) (p3 : Int32) (M : zMem) : zT l Z zfull ad (.codeWith yL_booked cL_booked 5 (some .int) [(0, 10, 13, 18), (0, 10, 17, 13)]) yL_booked (d + 8) false zbw [.ref (ad 0), .int p2, .int p3, .ref (ad 87)] M (fL_booked N p2 p3 M) :=
  zTh_of (st := 0) (en := 10) (es := [(1, 13, 18), (2, 17, 13)]) hl (by decide +kernel) (Nat.le_of_ble_eq_true rfl) (fun X hC hE hN => gL_booked_B0 hC hE hN N p2 p3 M)

def fL_pass (N : Nat) (p2 : Int32) (M : zMem) : zRES :=
  zbx (fX7_pass N p2 M)
    (fun r1 M2 =>
    if zin (0 : Int32) 1 = true then
    zl (zsL M2 87 (0 : Int32).toNatClampNeg r1.toInt64) fun M4 =>
    some (.inl 0, M4)
    else none)
    (fun x M2 =>
    if znx x = 2 then
      some (.inl 1, M2)
    else
    if znx x = 3 then
      some (.inl 2, M2)
    else
    none)
set_option maxRecDepth 20000 in
set_option maxHeartbeats 2000000 in
theorem gL_pass_B0 {l : Launch} {Z : zZ} {ad : Nat → Nat} {d : Nat} {X : zX} (hC : zC l Z zfull ad X RL cL_pass 4 (some .int) (d + 7)) (hE : zEnd Z zfull ad X false) (hN : zTab X 0 9 [(2, 12, 13), (3, 15, 20)]) (N : Nat) (p2 : Int32) (M : zMem) : zG l Z zfull ad X (0, 0) 0 [(0, .ref (ad 0)), (1, .int p2), (2, .ref (ad 87))] [] M (fL_pass N p2 M) := by
  unfold fL_pass
  refine zg_aload_n hC 2 dL_pass_0 rfl ?_
  refine zg_iconst hC (v := 0) dL_pass_1 (by decide) ?_
  refine zg_aload_n hC 0 dL_pass_2 rfl ?_
  refine zg_iload_n hC 1 dL_pass_3 rfl ?_
  refine zg_callXi hC hE hN (k := 0) (As := [.int p2]) (S := [.int 0, .ref (ad 87)]) rfl (tX7_pass (zflag hC) d N p2 M) lkL_94 rfl dL_pass_4 zq0 zk0 rfl rfl (Nat.le_of_ble_eq_true rfl) (by decide) (by intro z hz; simp only [List.mem_cons, List.not_mem_nil, or_false] at hz; rcases hz with rfl | rfl; all_goals first | exact ⟨by decide, by decide, ckL_13⟩ | exact ⟨by decide, by decide, ckL_20⟩) zself (fun r1 M2 er1 => ?_) (fun x M2 => ⟨fun h9 => ?_, fun r9 h9 => ?_, fun hp h9 q => ?_⟩)
  · refine zg_i2l hC dL_pass_7 ?_
    refine zg_last hC (k := 87) dL_pass_8 zq87 zk87 (fun h3 M4 eM4 => ?_)
    refine zg_goto hC (tgt := 18) dL_pass_9 (by decide) ?_
    refine zg_iconst hC (v := 0) dL_pass_18 (by decide) ?_
    exact zg_ret hC hE dL_pass_19
  · by_cases q0 : znx x = 2
    · simp [zhd, q0] at h9
    · by_cases q1 : znx x = 3
      · simp [zhd, q0, q1] at h9
      · rw [if_neg q0, if_neg q1]
  · by_cases q0 : znx x = 2
    · rw [if_pos q0] at h9
      cases h9
      exact ⟨_, rfl⟩
    · by_cases q1 : znx x = 3
      · rw [if_neg q0, if_pos q1] at h9
        cases h9
        exact ⟨_, rfl⟩
      · rw [if_neg q0, if_neg q1] at h9
        cases h9
  · by_cases q0 : znx x = 2
    · have e9 : 12 = hp := by simpa [zhd, q0] using h9
      subst e9
      rw [if_pos q0]
      refine zg_astore_n hC (L' := [(3, _), (0, _), (1, _), (2, _)]) dL_pass_12 (by decide) rfl ?_
      refine zg_iconst hC (v := 1) dL_pass_13 (by decide) ?_
      exact zg_retw hC hE hN dL_pass_14
    · by_cases q1 : znx x = 3
      · have e9 : 15 = hp := by simpa [zhd, q0, q1] using h9
        subst e9
        rw [if_neg q0, if_pos q1]
        refine zg_astore_n hC (L' := [(3, _), (0, _), (1, _), (2, _)]) dL_pass_15 (by decide) rfl ?_
        refine zg_iconst hC (v := 2) dL_pass_16 (by decide) ?_
        exact zg_retw hC hE hN dL_pass_17
      · simp [zhd, q0, q1] at h9
theorem tL_pass {l : Launch} {Z : zZ} {ad : Nat → Nat} (hl : l.stackTraces = false) (d : Nat) (N : Nat) (p2 : Int32) (M : zMem) : zT l Z zfull ad (.codeWith yL_pass cL_pass 4 (some .int) [(0, 9, 12, 13), (0, 9, 15, 20)]) yL_pass (d + 7) false zbw [.ref (ad 0), .int p2, .ref (ad 87)] M (fL_pass N p2 M) :=
  zTh_of (st := 0) (en := 9) (es := [(2, 12, 13), (3, 15, 20)]) hl (by decide +kernel) (Nat.le_of_ble_eq_true rfl) (fun X hC hE hN => gL_pass_B0 hC hE hN N p2 M)

def fL_missed (N : Nat) (p2 : Int32) (M : zMem) : zRES :=
  zbx (fX7_missed N p2 M)
    (fun r1 M2 =>
    if zin (0 : Int32) 1 = true then
    zl (zsL M2 87 (0 : Int32).toNatClampNeg r1.toInt64) fun M4 =>
    some (.inl 0, M4)
    else none)
    (fun x M2 =>
    if znx x = 1 then
      some (.inl 1, M2)
    else
    none)
set_option maxRecDepth 20000 in
set_option maxHeartbeats 2000000 in
theorem gL_missed_B0 {l : Launch} {Z : zZ} {ad : Nat → Nat} {d : Nat} {X : zX} (hC : zC l Z zfull ad X RL cL_missed 4 (some .int) (d + 8)) (hE : zEnd Z zfull ad X false) (hN : zTab X 0 9 [(1, 12, 18)]) (N : Nat) (p2 : Int32) (M : zMem) : zG l Z zfull ad X (0, 0) 0 [(0, .ref (ad 0)), (1, .int p2), (2, .ref (ad 87))] [] M (fL_missed N p2 M) := by
  unfold fL_missed
  refine zg_aload_n hC 2 dL_missed_0 rfl ?_
  refine zg_iconst hC (v := 0) dL_missed_1 (by decide) ?_
  refine zg_aload_n hC 0 dL_missed_2 rfl ?_
  refine zg_iload_n hC 1 dL_missed_3 rfl ?_
  refine zg_callXi hC hE hN (k := 0) (As := [.int p2]) (S := [.int 0, .ref (ad 87)]) rfl (tX7_missed (zflag hC) d N p2 M) lkL_97 rfl dL_missed_4 zq0 zk0 rfl rfl (Nat.le_of_ble_eq_true rfl) (by decide) (by intro z hz; simp only [List.mem_cons, List.not_mem_nil, or_false] at hz; rcases hz with rfl; all_goals first | exact ⟨by decide, by decide, ckL_18⟩) zself (fun r1 M2 er1 => ?_) (fun x M2 => ⟨fun h9 => ?_, fun r9 h9 => ?_, fun hp h9 q => ?_⟩)
  · refine zg_i2l hC dL_missed_7 ?_
    refine zg_last hC (k := 87) dL_missed_8 zq87 zk87 (fun h3 M4 eM4 => ?_)
    refine zg_goto hC (tgt := 15) dL_missed_9 (by decide) ?_
    refine zg_iconst hC (v := 0) dL_missed_15 (by decide) ?_
    exact zg_ret hC hE dL_missed_16
  · by_cases q0 : znx x = 1
    · simp [zhd, q0] at h9
    · rw [if_neg q0]
  · by_cases q0 : znx x = 1
    · rw [if_pos q0] at h9
      cases h9
      exact ⟨_, rfl⟩
    · rw [if_neg q0] at h9
      cases h9
  · by_cases q0 : znx x = 1
    · have e9 : 12 = hp := by simpa [zhd, q0] using h9
      subst e9
      rw [if_pos q0]
      refine zg_astore_n hC (L' := [(3, _), (0, _), (1, _), (2, _)]) dL_missed_12 (by decide) rfl ?_
      refine zg_iconst hC (v := 1) dL_missed_13 (by decide) ?_
      exact zg_retw hC hE hN dL_missed_14
    · simp [zhd, q0] at h9
theorem tL_missed {l : Launch} {Z : zZ} {ad : Nat → Nat} (hl : l.stackTraces = false) (d : Nat) (N : Nat) (p2 : Int32) (M : zMem) : zT l Z zfull ad (.codeWith yL_missed cL_missed 4 (some .int) [(0, 9, 12, 18)]) yL_missed (d + 8) false zbw [.ref (ad 0), .int p2, .ref (ad 87)] M (fL_missed N p2 M) :=
  zTh_of (st := 0) (en := 9) (es := [(1, 12, 18)]) hl (by decide +kernel) (Nat.le_of_ble_eq_true rfl) (fun X hC hE hN => gL_missed_B0 hC hE hN N p2 M)

def fL_versionOf (N : Nat) (p2 : Int32) (M : zMem) : zRES :=
  zbx (fX7_versionOf N p2 M)
    (fun r1 M2 =>
    if zin (0 : Int32) 1 = true then
    zl (zsL M2 87 (0 : Int32).toNatClampNeg r1.toInt64) fun M4 =>
    some (.inl 0, M4)
    else none)
    (fun x M2 =>
    if znx x = 1 then
      some (.inl 1, M2)
    else
    none)
set_option maxRecDepth 20000 in
set_option maxHeartbeats 2000000 in
theorem gL_versionOf_B0 {l : Launch} {Z : zZ} {ad : Nat → Nat} {d : Nat} {X : zX} (hC : zC l Z zfull ad X RL cL_versionOf 4 (some .int) (d + 8)) (hE : zEnd Z zfull ad X false) (hN : zTab X 0 9 [(1, 12, 18)]) (N : Nat) (p2 : Int32) (M : zMem) : zG l Z zfull ad X (0, 0) 0 [(0, .ref (ad 0)), (1, .int p2), (2, .ref (ad 87))] [] M (fL_versionOf N p2 M) := by
  unfold fL_versionOf
  refine zg_aload_n hC 2 dL_versionOf_0 rfl ?_
  refine zg_iconst hC (v := 0) dL_versionOf_1 (by decide) ?_
  refine zg_aload_n hC 0 dL_versionOf_2 rfl ?_
  refine zg_iload_n hC 1 dL_versionOf_3 rfl ?_
  refine zg_callXi hC hE hN (k := 0) (As := [.int p2]) (S := [.int 0, .ref (ad 87)]) rfl (tX7_versionOf (zflag hC) d N p2 M) lkL_100 rfl dL_versionOf_4 zq0 zk0 rfl rfl (Nat.le_of_ble_eq_true rfl) (by decide) (by intro z hz; simp only [List.mem_cons, List.not_mem_nil, or_false] at hz; rcases hz with rfl; all_goals first | exact ⟨by decide, by decide, ckL_18⟩) zself (fun r1 M2 er1 => ?_) (fun x M2 => ⟨fun h9 => ?_, fun r9 h9 => ?_, fun hp h9 q => ?_⟩)
  · refine zg_i2l hC dL_versionOf_7 ?_
    refine zg_last hC (k := 87) dL_versionOf_8 zq87 zk87 (fun h3 M4 eM4 => ?_)
    refine zg_goto hC (tgt := 15) dL_versionOf_9 (by decide) ?_
    refine zg_iconst hC (v := 0) dL_versionOf_15 (by decide) ?_
    exact zg_ret hC hE dL_versionOf_16
  · by_cases q0 : znx x = 1
    · simp [zhd, q0] at h9
    · rw [if_neg q0]
  · by_cases q0 : znx x = 1
    · rw [if_pos q0] at h9
      cases h9
      exact ⟨_, rfl⟩
    · rw [if_neg q0] at h9
      cases h9
  · by_cases q0 : znx x = 1
    · have e9 : 12 = hp := by simpa [zhd, q0] using h9
      subst e9
      rw [if_pos q0]
      refine zg_astore_n hC (L' := [(3, _), (0, _), (1, _), (2, _)]) dL_versionOf_12 (by decide) rfl ?_
      refine zg_iconst hC (v := 1) dL_versionOf_13 (by decide) ?_
      exact zg_retw hC hE hN dL_versionOf_14
    · simp [zhd, q0] at h9
theorem tL_versionOf {l : Launch} {Z : zZ} {ad : Nat → Nat} (hl : l.stackTraces = false) (d : Nat) (N : Nat) (p2 : Int32) (M : zMem) : zT l Z zfull ad (.codeWith yL_versionOf cL_versionOf 4 (some .int) [(0, 9, 12, 18)]) yL_versionOf (d + 8) false zbw [.ref (ad 0), .int p2, .ref (ad 87)] M (fL_versionOf N p2 M) :=
  zTh_of (st := 0) (en := 9) (es := [(1, 12, 18)]) hl (by decide +kernel) (Nat.le_of_ble_eq_true rfl) (fun X hC hE hN => gL_versionOf_B0 hC hE hN N p2 M)

def fL_lotsOf (N : Nat) (p2 : Int32) (M : zMem) : zRES :=
  zbx (fX7_lotsOf N p2 M)
    (fun r1 M2 =>
    if zin (0 : Int32) 1 = true then
    zl (zsL M2 87 (0 : Int32).toNatClampNeg r1.toInt64) fun M4 =>
    some (.inl 0, M4)
    else none)
    (fun x M2 =>
    if znx x = 1 then
      some (.inl 1, M2)
    else
    none)
set_option maxRecDepth 20000 in
set_option maxHeartbeats 2000000 in
theorem gL_lotsOf_B0 {l : Launch} {Z : zZ} {ad : Nat → Nat} {d : Nat} {X : zX} (hC : zC l Z zfull ad X RL cL_lotsOf 4 (some .int) (d + 8)) (hE : zEnd Z zfull ad X false) (hN : zTab X 0 9 [(1, 12, 18)]) (N : Nat) (p2 : Int32) (M : zMem) : zG l Z zfull ad X (0, 0) 0 [(0, .ref (ad 0)), (1, .int p2), (2, .ref (ad 87))] [] M (fL_lotsOf N p2 M) := by
  unfold fL_lotsOf
  refine zg_aload_n hC 2 dL_lotsOf_0 rfl ?_
  refine zg_iconst hC (v := 0) dL_lotsOf_1 (by decide) ?_
  refine zg_aload_n hC 0 dL_lotsOf_2 rfl ?_
  refine zg_iload_n hC 1 dL_lotsOf_3 rfl ?_
  refine zg_callXi hC hE hN (k := 0) (As := [.int p2]) (S := [.int 0, .ref (ad 87)]) rfl (tX7_lotsOf (zflag hC) d N p2 M) lkL_103 rfl dL_lotsOf_4 zq0 zk0 rfl rfl (Nat.le_of_ble_eq_true rfl) (by decide) (by intro z hz; simp only [List.mem_cons, List.not_mem_nil, or_false] at hz; rcases hz with rfl; all_goals first | exact ⟨by decide, by decide, ckL_18⟩) zself (fun r1 M2 er1 => ?_) (fun x M2 => ⟨fun h9 => ?_, fun r9 h9 => ?_, fun hp h9 q => ?_⟩)
  · refine zg_i2l hC dL_lotsOf_7 ?_
    refine zg_last hC (k := 87) dL_lotsOf_8 zq87 zk87 (fun h3 M4 eM4 => ?_)
    refine zg_goto hC (tgt := 15) dL_lotsOf_9 (by decide) ?_
    refine zg_iconst hC (v := 0) dL_lotsOf_15 (by decide) ?_
    exact zg_ret hC hE dL_lotsOf_16
  · by_cases q0 : znx x = 1
    · simp [zhd, q0] at h9
    · rw [if_neg q0]
  · by_cases q0 : znx x = 1
    · rw [if_pos q0] at h9
      cases h9
      exact ⟨_, rfl⟩
    · rw [if_neg q0] at h9
      cases h9
  · by_cases q0 : znx x = 1
    · have e9 : 12 = hp := by simpa [zhd, q0] using h9
      subst e9
      rw [if_pos q0]
      refine zg_astore_n hC (L' := [(3, _), (0, _), (1, _), (2, _)]) dL_lotsOf_12 (by decide) rfl ?_
      refine zg_iconst hC (v := 1) dL_lotsOf_13 (by decide) ?_
      exact zg_retw hC hE hN dL_lotsOf_14
    · simp [zhd, q0] at h9
theorem tL_lotsOf {l : Launch} {Z : zZ} {ad : Nat → Nat} (hl : l.stackTraces = false) (d : Nat) (N : Nat) (p2 : Int32) (M : zMem) : zT l Z zfull ad (.codeWith yL_lotsOf cL_lotsOf 4 (some .int) [(0, 9, 12, 18)]) yL_lotsOf (d + 8) false zbw [.ref (ad 0), .int p2, .ref (ad 87)] M (fL_lotsOf N p2 M) :=
  zTh_of (st := 0) (en := 9) (es := [(1, 12, 18)]) hl (by decide +kernel) (Nat.le_of_ble_eq_true rfl) (fun X hC hE hN => gL_lotsOf_B0 hC hE hN N p2 M)

def fL_left (N : Nat) (p2 : Int32) (M : zMem) : zRES :=
  zbx (fX7_left N p2 M)
    (fun r1 M2 =>
    if zin (0 : Int32) 1 = true then
    zl (zsL M2 87 (0 : Int32).toNatClampNeg r1.toInt64) fun M4 =>
    some (.inl 0, M4)
    else none)
    (fun x M2 =>
    if znx x = 1 then
      some (.inl 1, M2)
    else
    none)
set_option maxRecDepth 20000 in
set_option maxHeartbeats 2000000 in
theorem gL_left_B0 {l : Launch} {Z : zZ} {ad : Nat → Nat} {d : Nat} {X : zX} (hC : zC l Z zfull ad X RL cL_left 4 (some .int) (d + 8)) (hE : zEnd Z zfull ad X false) (hN : zTab X 0 9 [(1, 12, 18)]) (N : Nat) (p2 : Int32) (M : zMem) : zG l Z zfull ad X (0, 0) 0 [(0, .ref (ad 0)), (1, .int p2), (2, .ref (ad 87))] [] M (fL_left N p2 M) := by
  unfold fL_left
  refine zg_aload_n hC 2 dL_left_0 rfl ?_
  refine zg_iconst hC (v := 0) dL_left_1 (by decide) ?_
  refine zg_aload_n hC 0 dL_left_2 rfl ?_
  refine zg_iload_n hC 1 dL_left_3 rfl ?_
  refine zg_callXi hC hE hN (k := 0) (As := [.int p2]) (S := [.int 0, .ref (ad 87)]) rfl (tX7_left (zflag hC) d N p2 M) lkL_106 rfl dL_left_4 zq0 zk0 rfl rfl (Nat.le_of_ble_eq_true rfl) (by decide) (by intro z hz; simp only [List.mem_cons, List.not_mem_nil, or_false] at hz; rcases hz with rfl; all_goals first | exact ⟨by decide, by decide, ckL_18⟩) zself (fun r1 M2 er1 => ?_) (fun x M2 => ⟨fun h9 => ?_, fun r9 h9 => ?_, fun hp h9 q => ?_⟩)
  · refine zg_i2l hC dL_left_7 ?_
    refine zg_last hC (k := 87) dL_left_8 zq87 zk87 (fun h3 M4 eM4 => ?_)
    refine zg_goto hC (tgt := 15) dL_left_9 (by decide) ?_
    refine zg_iconst hC (v := 0) dL_left_15 (by decide) ?_
    exact zg_ret hC hE dL_left_16
  · by_cases q0 : znx x = 1
    · simp [zhd, q0] at h9
    · rw [if_neg q0]
  · by_cases q0 : znx x = 1
    · rw [if_pos q0] at h9
      cases h9
      exact ⟨_, rfl⟩
    · rw [if_neg q0] at h9
      cases h9
  · by_cases q0 : znx x = 1
    · have e9 : 12 = hp := by simpa [zhd, q0] using h9
      subst e9
      rw [if_pos q0]
      refine zg_astore_n hC (L' := [(3, _), (0, _), (1, _), (2, _)]) dL_left_12 (by decide) rfl ?_
      refine zg_iconst hC (v := 1) dL_left_13 (by decide) ?_
      exact zg_retw hC hE hN dL_left_14
    · simp [zhd, q0] at h9
theorem tL_left {l : Launch} {Z : zZ} {ad : Nat → Nat} (hl : l.stackTraces = false) (d : Nat) (N : Nat) (p2 : Int32) (M : zMem) : zT l Z zfull ad (.codeWith yL_left cL_left 4 (some .int) [(0, 9, 12, 18)]) yL_left (d + 8) false zbw [.ref (ad 0), .int p2, .ref (ad 87)] M (fL_left N p2 M) :=
  zTh_of (st := 0) (en := 9) (es := [(1, 12, 18)]) hl (by decide +kernel) (Nat.le_of_ble_eq_true rfl) (fun X hC hE hN => gL_left_B0 hC hE hN N p2 M)

def fL_barred (N : Nat) (p2 : Int32) (M : zMem) : zRES :=
  zbx (fX7_barred N p2 M)
    (fun r1 M2 =>
    if zin (0 : Int32) 1 = true then
    zl (zsL M2 87 (0 : Int32).toNatClampNeg r1.toInt64) fun M4 =>
    some (.inl 0, M4)
    else none)
    (fun x M2 =>
    if znx x = 1 then
      some (.inl 1, M2)
    else
    none)
set_option maxRecDepth 20000 in
set_option maxHeartbeats 2000000 in
theorem gL_barred_B0 {l : Launch} {Z : zZ} {ad : Nat → Nat} {d : Nat} {X : zX} (hC : zC l Z zfull ad X RL cL_barred 4 (some .int) (d + 8)) (hE : zEnd Z zfull ad X false) (hN : zTab X 0 9 [(1, 12, 18)]) (N : Nat) (p2 : Int32) (M : zMem) : zG l Z zfull ad X (0, 0) 0 [(0, .ref (ad 0)), (1, .int p2), (2, .ref (ad 87))] [] M (fL_barred N p2 M) := by
  unfold fL_barred
  refine zg_aload_n hC 2 dL_barred_0 rfl ?_
  refine zg_iconst hC (v := 0) dL_barred_1 (by decide) ?_
  refine zg_aload_n hC 0 dL_barred_2 rfl ?_
  refine zg_iload_n hC 1 dL_barred_3 rfl ?_
  refine zg_callXi hC hE hN (k := 0) (As := [.int p2]) (S := [.int 0, .ref (ad 87)]) rfl (tX7_barred (zflag hC) d N p2 M) lkL_109 rfl dL_barred_4 zq0 zk0 rfl rfl (Nat.le_of_ble_eq_true rfl) (by decide) (by intro z hz; simp only [List.mem_cons, List.not_mem_nil, or_false] at hz; rcases hz with rfl; all_goals first | exact ⟨by decide, by decide, ckL_18⟩) zself (fun r1 M2 er1 => ?_) (fun x M2 => ⟨fun h9 => ?_, fun r9 h9 => ?_, fun hp h9 q => ?_⟩)
  · refine zg_i2l hC dL_barred_7 ?_
    refine zg_last hC (k := 87) dL_barred_8 zq87 zk87 (fun h3 M4 eM4 => ?_)
    refine zg_goto hC (tgt := 15) dL_barred_9 (by decide) ?_
    refine zg_iconst hC (v := 0) dL_barred_15 (by decide) ?_
    exact zg_ret hC hE dL_barred_16
  · by_cases q0 : znx x = 1
    · simp [zhd, q0] at h9
    · rw [if_neg q0]
  · by_cases q0 : znx x = 1
    · rw [if_pos q0] at h9
      cases h9
      exact ⟨_, rfl⟩
    · rw [if_neg q0] at h9
      cases h9
  · by_cases q0 : znx x = 1
    · have e9 : 12 = hp := by simpa [zhd, q0] using h9
      subst e9
      rw [if_pos q0]
      refine zg_astore_n hC (L' := [(3, _), (0, _), (1, _), (2, _)]) dL_barred_12 (by decide) rfl ?_
      refine zg_iconst hC (v := 1) dL_barred_13 (by decide) ?_
      exact zg_retw hC hE hN dL_barred_14
    · simp [zhd, q0] at h9
theorem tL_barred {l : Launch} {Z : zZ} {ad : Nat → Nat} (hl : l.stackTraces = false) (d : Nat) (N : Nat) (p2 : Int32) (M : zMem) : zT l Z zfull ad (.codeWith yL_barred cL_barred 4 (some .int) [(0, 9, 12, 18)]) yL_barred (d + 8) false zbw [.ref (ad 0), .int p2, .ref (ad 87)] M (fL_barred N p2 M) :=
  zTh_of (st := 0) (en := 9) (es := [(1, 12, 18)]) hl (by decide +kernel) (Nat.le_of_ble_eq_true rfl) (fun X hC hE hN => gL_barred_B0 hC hE hN N p2 M)

def fL_barredAnew (N : Nat) (p2 : Int32) (M : zMem) : zRES :=
  zbx (fX7_barredAnew N p2 M)
    (fun r1 M2 =>
    if zin (0 : Int32) 1 = true then
    zl (zsL M2 87 (0 : Int32).toNatClampNeg r1.toInt64) fun M4 =>
    some (.inl 0, M4)
    else none)
    (fun x M2 =>
    if znx x = 1 then
      some (.inl 1, M2)
    else
    none)
set_option maxRecDepth 20000 in
set_option maxHeartbeats 2000000 in
theorem gL_barredAnew_B0 {l : Launch} {Z : zZ} {ad : Nat → Nat} {d : Nat} {X : zX} (hC : zC l Z zfull ad X RL cL_barredAnew 4 (some .int) (d + 8)) (hE : zEnd Z zfull ad X false) (hN : zTab X 0 9 [(1, 12, 18)]) (N : Nat) (p2 : Int32) (M : zMem) : zG l Z zfull ad X (0, 0) 0 [(0, .ref (ad 0)), (1, .int p2), (2, .ref (ad 87))] [] M (fL_barredAnew N p2 M) := by
  unfold fL_barredAnew
  refine zg_aload_n hC 2 dL_barredAnew_0 rfl ?_
  refine zg_iconst hC (v := 0) dL_barredAnew_1 (by decide) ?_
  refine zg_aload_n hC 0 dL_barredAnew_2 rfl ?_
  refine zg_iload_n hC 1 dL_barredAnew_3 rfl ?_
  refine zg_callXi hC hE hN (k := 0) (As := [.int p2]) (S := [.int 0, .ref (ad 87)]) rfl (tX7_barredAnew (zflag hC) d N p2 M) lkL_112 rfl dL_barredAnew_4 zq0 zk0 rfl rfl (Nat.le_of_ble_eq_true rfl) (by decide) (by intro z hz; simp only [List.mem_cons, List.not_mem_nil, or_false] at hz; rcases hz with rfl; all_goals first | exact ⟨by decide, by decide, ckL_18⟩) zself (fun r1 M2 er1 => ?_) (fun x M2 => ⟨fun h9 => ?_, fun r9 h9 => ?_, fun hp h9 q => ?_⟩)
  · refine zg_i2l hC dL_barredAnew_7 ?_
    refine zg_last hC (k := 87) dL_barredAnew_8 zq87 zk87 (fun h3 M4 eM4 => ?_)
    refine zg_goto hC (tgt := 15) dL_barredAnew_9 (by decide) ?_
    refine zg_iconst hC (v := 0) dL_barredAnew_15 (by decide) ?_
    exact zg_ret hC hE dL_barredAnew_16
  · by_cases q0 : znx x = 1
    · simp [zhd, q0] at h9
    · rw [if_neg q0]
  · by_cases q0 : znx x = 1
    · rw [if_pos q0] at h9
      cases h9
      exact ⟨_, rfl⟩
    · rw [if_neg q0] at h9
      cases h9
  · by_cases q0 : znx x = 1
    · have e9 : 12 = hp := by simpa [zhd, q0] using h9
      subst e9
      rw [if_pos q0]
      refine zg_astore_n hC (L' := [(3, _), (0, _), (1, _), (2, _)]) dL_barredAnew_12 (by decide) rfl ?_
      refine zg_iconst hC (v := 1) dL_barredAnew_13 (by decide) ?_
      exact zg_retw hC hE hN dL_barredAnew_14
    · simp [zhd, q0] at h9
theorem tL_barredAnew {l : Launch} {Z : zZ} {ad : Nat → Nat} (hl : l.stackTraces = false) (d : Nat) (N : Nat) (p2 : Int32) (M : zMem) : zT l Z zfull ad (.codeWith yL_barredAnew cL_barredAnew 4 (some .int) [(0, 9, 12, 18)]) yL_barredAnew (d + 8) false zbw [.ref (ad 0), .int p2, .ref (ad 87)] M (fL_barredAnew N p2 M) :=
  zTh_of (st := 0) (en := 9) (es := [(1, 12, 18)]) hl (by decide +kernel) (Nat.le_of_ble_eq_true rfl) (fun X hC hE hN => gL_barredAnew_B0 hC hE hN N p2 M)

def fL_sell (N : Nat) (p2 : Int32) (p3 : Int32) (M : zMem) : zRES :=
  zbx (fX7_sell N p2 p3 M)
    (fun r1 M2 =>
    if zin (0 : Int32) 1 = true then
    zl (zsL M2 87 (0 : Int32).toNatClampNeg r1.toInt64) fun M4 =>
    some (.inl 0, M4)
    else none)
    (fun x M2 =>
    if znx x = 1 then
      some (.inl 1, M2)
    else
    if znx x = 2 then
      some (.inl 2, M2)
    else
    if znx x = 3 then
      some (.inl 3, M2)
    else
    none)
set_option maxRecDepth 20000 in
set_option maxHeartbeats 2000000 in
theorem gL_sell_B0 {l : Launch} {Z : zZ} {ad : Nat → Nat} {d : Nat} {X : zX} (hC : zC l Z zfull ad X RL cL_sell 5 (some .int) (d + 8)) (hE : zEnd Z zfull ad X false) (hN : zTab X 0 10 [(1, 13, 18), (2, 17, 13), (3, 21, 20)]) (N : Nat) (p2 : Int32) (p3 : Int32) (M : zMem) : zG l Z zfull ad X (0, 0) 0 [(0, .ref (ad 0)), (1, .int p2), (2, .int p3), (3, .ref (ad 87))] [] M (fL_sell N p2 p3 M) := by
  unfold fL_sell
  refine zg_aload_n hC 3 dL_sell_0 rfl ?_
  refine zg_iconst hC (v := 0) dL_sell_1 (by decide) ?_
  refine zg_aload_n hC 0 dL_sell_2 rfl ?_
  refine zg_iload_n hC 1 dL_sell_3 rfl ?_
  refine zg_iload_n hC 2 dL_sell_4 rfl ?_
  refine zg_callXi hC hE hN (k := 0) (As := [.int p2, .int p3]) (S := [.int 0, .ref (ad 87)]) rfl (tX7_sell (zflag hC) d N p2 p3 M) lkL_115 rfl dL_sell_5 zq0 zk0 rfl rfl (Nat.le_of_ble_eq_true rfl) (by decide) (by intro z hz; simp only [List.mem_cons, List.not_mem_nil, or_false] at hz; rcases hz with rfl | rfl | rfl; all_goals first | exact ⟨by decide, by decide, ckL_18⟩ | exact ⟨by decide, by decide, ckL_13⟩ | exact ⟨by decide, by decide, ckL_20⟩) zself (fun r1 M2 er1 => ?_) (fun x M2 => ⟨fun h9 => ?_, fun r9 h9 => ?_, fun hp h9 q => ?_⟩)
  · refine zg_i2l hC dL_sell_8 ?_
    refine zg_last hC (k := 87) dL_sell_9 zq87 zk87 (fun h3 M4 eM4 => ?_)
    refine zg_goto hC (tgt := 25) dL_sell_10 (by decide) ?_
    refine zg_iconst hC (v := 0) dL_sell_25 (by decide) ?_
    exact zg_ret hC hE dL_sell_26
  · by_cases q0 : znx x = 1
    · simp [zhd, q0] at h9
    · by_cases q1 : znx x = 2
      · simp [zhd, q0, q1] at h9
      · by_cases q2 : znx x = 3
        · simp [zhd, q0, q1, q2] at h9
        · rw [if_neg q0, if_neg q1, if_neg q2]
  · by_cases q0 : znx x = 1
    · rw [if_pos q0] at h9
      cases h9
      exact ⟨_, rfl⟩
    · by_cases q1 : znx x = 2
      · rw [if_neg q0, if_pos q1] at h9
        cases h9
        exact ⟨_, rfl⟩
      · by_cases q2 : znx x = 3
        · rw [if_neg q0, if_neg q1, if_pos q2] at h9
          cases h9
          exact ⟨_, rfl⟩
        · rw [if_neg q0, if_neg q1, if_neg q2] at h9
          cases h9
  · by_cases q0 : znx x = 1
    · have e9 : 13 = hp := by simpa [zhd, q0] using h9
      subst e9
      rw [if_pos q0]
      refine zg_astore hC (L' := [(4, _), (0, _), (1, _), (2, _), (3, _)]) dL_sell_13 (by decide) rfl ?_
      refine zg_iconst hC (v := 1) dL_sell_15 (by decide) ?_
      exact zg_retw hC hE hN dL_sell_16
    · by_cases q1 : znx x = 2
      · have e9 : 17 = hp := by simpa [zhd, q0, q1] using h9
        subst e9
        rw [if_neg q0, if_pos q1]
        refine zg_astore hC (L' := [(4, _), (0, _), (1, _), (2, _), (3, _)]) dL_sell_17 (by decide) rfl ?_
        refine zg_iconst hC (v := 2) dL_sell_19 (by decide) ?_
        exact zg_retw hC hE hN dL_sell_20
      · by_cases q2 : znx x = 3
        · have e9 : 21 = hp := by simpa [zhd, q0, q1, q2] using h9
          subst e9
          rw [if_neg q0, if_neg q1, if_pos q2]
          refine zg_astore hC (L' := [(4, _), (0, _), (1, _), (2, _), (3, _)]) dL_sell_21 (by decide) rfl ?_
          refine zg_iconst hC (v := 3) dL_sell_23 (by decide) ?_
          exact zg_retw hC hE hN dL_sell_24
        · simp [zhd, q0, q1, q2] at h9
theorem tL_sell {l : Launch} {Z : zZ} {ad : Nat → Nat} (hl : l.stackTraces = false) (d : Nat) (N : Nat) (p2 : Int32) (p3 : Int32) (M : zMem) : zT l Z zfull ad (.codeWith yL_sell cL_sell 5 (some .int) [(0, 10, 13, 18), (0, 10, 17, 13), (0, 10, 21, 20)]) yL_sell (d + 8) false zbw [.ref (ad 0), .int p2, .int p3, .ref (ad 87)] M (fL_sell N p2 p3 M) :=
  zTh_of (st := 0) (en := 10) (es := [(1, 13, 18), (2, 17, 13), (3, 21, 20)]) hl (by decide +kernel) (Nat.le_of_ble_eq_true rfl) (fun X hC hE hN => gL_sell_B0 hC hE hN N p2 p3 M)

def fL_traced (N : Nat) (p2 : Int32) (M : zMem) : zRES :=
  zbx (fX7_traced N p2 M)
    (fun r1 M2 =>
    if zin (0 : Int32) 1 = true then
    zl (zsL M2 87 (0 : Int32).toNatClampNeg r1.toInt64) fun M4 =>
    some (.inl 0, M4)
    else none)
    (fun x M2 =>
    if znx x = 1 then
      some (.inl 1, M2)
    else
    none)
set_option maxRecDepth 20000 in
set_option maxHeartbeats 2000000 in
theorem gL_traced_B0 {l : Launch} {Z : zZ} {ad : Nat → Nat} {d : Nat} {X : zX} (hC : zC l Z zfull ad X RL cL_traced 4 (some .int) (d + 8)) (hE : zEnd Z zfull ad X false) (hN : zTab X 0 9 [(1, 12, 18)]) (N : Nat) (p2 : Int32) (M : zMem) : zG l Z zfull ad X (0, 0) 0 [(0, .ref (ad 0)), (1, .int p2), (2, .ref (ad 87))] [] M (fL_traced N p2 M) := by
  unfold fL_traced
  refine zg_aload_n hC 2 dL_traced_0 rfl ?_
  refine zg_iconst hC (v := 0) dL_traced_1 (by decide) ?_
  refine zg_aload_n hC 0 dL_traced_2 rfl ?_
  refine zg_iload_n hC 1 dL_traced_3 rfl ?_
  refine zg_callXi hC hE hN (k := 0) (As := [.int p2]) (S := [.int 0, .ref (ad 87)]) rfl (tX7_traced (zflag hC) d N p2 M) lkL_118 rfl dL_traced_4 zq0 zk0 rfl rfl (Nat.le_of_ble_eq_true rfl) (by decide) (by intro z hz; simp only [List.mem_cons, List.not_mem_nil, or_false] at hz; rcases hz with rfl; all_goals first | exact ⟨by decide, by decide, ckL_18⟩) zself (fun r1 M2 er1 => ?_) (fun x M2 => ⟨fun h9 => ?_, fun r9 h9 => ?_, fun hp h9 q => ?_⟩)
  · refine zg_i2l hC dL_traced_7 ?_
    refine zg_last hC (k := 87) dL_traced_8 zq87 zk87 (fun h3 M4 eM4 => ?_)
    refine zg_goto hC (tgt := 15) dL_traced_9 (by decide) ?_
    refine zg_iconst hC (v := 0) dL_traced_15 (by decide) ?_
    exact zg_ret hC hE dL_traced_16
  · by_cases q0 : znx x = 1
    · simp [zhd, q0] at h9
    · rw [if_neg q0]
  · by_cases q0 : znx x = 1
    · rw [if_pos q0] at h9
      cases h9
      exact ⟨_, rfl⟩
    · rw [if_neg q0] at h9
      cases h9
  · by_cases q0 : znx x = 1
    · have e9 : 12 = hp := by simpa [zhd, q0] using h9
      subst e9
      rw [if_pos q0]
      refine zg_astore_n hC (L' := [(3, _), (0, _), (1, _), (2, _)]) dL_traced_12 (by decide) rfl ?_
      refine zg_iconst hC (v := 1) dL_traced_13 (by decide) ?_
      exact zg_retw hC hE hN dL_traced_14
    · simp [zhd, q0] at h9
theorem tL_traced {l : Launch} {Z : zZ} {ad : Nat → Nat} (hl : l.stackTraces = false) (d : Nat) (N : Nat) (p2 : Int32) (M : zMem) : zT l Z zfull ad (.codeWith yL_traced cL_traced 4 (some .int) [(0, 9, 12, 18)]) yL_traced (d + 8) false zbw [.ref (ad 0), .int p2, .ref (ad 87)] M (fL_traced N p2 M) :=
  zTh_of (st := 0) (en := 9) (es := [(1, 12, 18)]) hl (by decide +kernel) (Nat.le_of_ble_eq_true rfl) (fun X hC hE hN => gL_traced_B0 hC hE hN N p2 M)

def fL_tracedAt (N : Nat) (p2 : Int32) (p3 : Int32) (M : zMem) : zRES :=
  zbx (fX7_tracedAt N p2 p3 M)
    (fun r1 M2 =>
    if zin (0 : Int32) 1 = true then
    zl (zsL M2 87 (0 : Int32).toNatClampNeg r1.toInt64) fun M4 =>
    some (.inl 0, M4)
    else none)
    (fun x M2 =>
    if znx x = 1 then
      some (.inl 1, M2)
    else
    none)
set_option maxRecDepth 20000 in
set_option maxHeartbeats 2000000 in
theorem gL_tracedAt_B0 {l : Launch} {Z : zZ} {ad : Nat → Nat} {d : Nat} {X : zX} (hC : zC l Z zfull ad X RL cL_tracedAt 5 (some .int) (d + 8)) (hE : zEnd Z zfull ad X false) (hN : zTab X 0 10 [(1, 13, 18)]) (N : Nat) (p2 : Int32) (p3 : Int32) (M : zMem) : zG l Z zfull ad X (0, 0) 0 [(0, .ref (ad 0)), (1, .int p2), (2, .int p3), (3, .ref (ad 87))] [] M (fL_tracedAt N p2 p3 M) := by
  unfold fL_tracedAt
  refine zg_aload_n hC 3 dL_tracedAt_0 rfl ?_
  refine zg_iconst hC (v := 0) dL_tracedAt_1 (by decide) ?_
  refine zg_aload_n hC 0 dL_tracedAt_2 rfl ?_
  refine zg_iload_n hC 1 dL_tracedAt_3 rfl ?_
  refine zg_iload_n hC 2 dL_tracedAt_4 rfl ?_
  refine zg_callXi hC hE hN (k := 0) (As := [.int p2, .int p3]) (S := [.int 0, .ref (ad 87)]) rfl (tX7_tracedAt (zflag hC) d N p2 p3 M) lkL_121 rfl dL_tracedAt_5 zq0 zk0 rfl rfl (Nat.le_of_ble_eq_true rfl) (by decide) (by intro z hz; simp only [List.mem_cons, List.not_mem_nil, or_false] at hz; rcases hz with rfl; all_goals first | exact ⟨by decide, by decide, ckL_18⟩) zself (fun r1 M2 er1 => ?_) (fun x M2 => ⟨fun h9 => ?_, fun r9 h9 => ?_, fun hp h9 q => ?_⟩)
  · refine zg_i2l hC dL_tracedAt_8 ?_
    refine zg_last hC (k := 87) dL_tracedAt_9 zq87 zk87 (fun h3 M4 eM4 => ?_)
    refine zg_goto hC (tgt := 17) dL_tracedAt_10 (by decide) ?_
    refine zg_iconst hC (v := 0) dL_tracedAt_17 (by decide) ?_
    exact zg_ret hC hE dL_tracedAt_18
  · by_cases q0 : znx x = 1
    · simp [zhd, q0] at h9
    · rw [if_neg q0]
  · by_cases q0 : znx x = 1
    · rw [if_pos q0] at h9
      cases h9
      exact ⟨_, rfl⟩
    · rw [if_neg q0] at h9
      cases h9
  · by_cases q0 : znx x = 1
    · have e9 : 13 = hp := by simpa [zhd, q0] using h9
      subst e9
      rw [if_pos q0]
      refine zg_astore hC (L' := [(4, _), (0, _), (1, _), (2, _), (3, _)]) dL_tracedAt_13 (by decide) rfl ?_
      refine zg_iconst hC (v := 1) dL_tracedAt_15 (by decide) ?_
      exact zg_retw hC hE hN dL_tracedAt_16
    · simp [zhd, q0] at h9
theorem tL_tracedAt {l : Launch} {Z : zZ} {ad : Nat → Nat} (hl : l.stackTraces = false) (d : Nat) (N : Nat) (p2 : Int32) (p3 : Int32) (M : zMem) : zT l Z zfull ad (.codeWith yL_tracedAt cL_tracedAt 5 (some .int) [(0, 10, 13, 18)]) yL_tracedAt (d + 8) false zbw [.ref (ad 0), .int p2, .int p3, .ref (ad 87)] M (fL_tracedAt N p2 p3 M) :=
  zTh_of (st := 0) (en := 10) (es := [(1, 13, 18)]) hl (by decide +kernel) (Nat.le_of_ble_eq_true rfl) (fun X hC hE hN => gL_tracedAt_B0 hC hE hN N p2 p3 M)

def fL_recallOf (N : Nat) (p2 : Int32) (M : zMem) : zRES :=
  zbx (fX7_recallOf N p2 M)
    (fun r1 M2 =>
    if zin (0 : Int32) 1 = true then
    zl (zsL M2 87 (0 : Int32).toNatClampNeg r1.toInt64) fun M4 =>
    some (.inl 0, M4)
    else none)
    (fun x M2 =>
    if znx x = 1 then
      some (.inl 1, M2)
    else
    none)
set_option maxRecDepth 20000 in
set_option maxHeartbeats 2000000 in
theorem gL_recallOf_B0 {l : Launch} {Z : zZ} {ad : Nat → Nat} {d : Nat} {X : zX} (hC : zC l Z zfull ad X RL cL_recallOf 4 (some .int) (d + 8)) (hE : zEnd Z zfull ad X false) (hN : zTab X 0 9 [(1, 12, 18)]) (N : Nat) (p2 : Int32) (M : zMem) : zG l Z zfull ad X (0, 0) 0 [(0, .ref (ad 0)), (1, .int p2), (2, .ref (ad 87))] [] M (fL_recallOf N p2 M) := by
  unfold fL_recallOf
  refine zg_aload_n hC 2 dL_recallOf_0 rfl ?_
  refine zg_iconst hC (v := 0) dL_recallOf_1 (by decide) ?_
  refine zg_aload_n hC 0 dL_recallOf_2 rfl ?_
  refine zg_iload_n hC 1 dL_recallOf_3 rfl ?_
  refine zg_callXi hC hE hN (k := 0) (As := [.int p2]) (S := [.int 0, .ref (ad 87)]) rfl (tX7_recallOf (zflag hC) d N p2 M) lkL_124 rfl dL_recallOf_4 zq0 zk0 rfl rfl (Nat.le_of_ble_eq_true rfl) (by decide) (by intro z hz; simp only [List.mem_cons, List.not_mem_nil, or_false] at hz; rcases hz with rfl; all_goals first | exact ⟨by decide, by decide, ckL_18⟩) zself (fun r1 M2 er1 => ?_) (fun x M2 => ⟨fun h9 => ?_, fun r9 h9 => ?_, fun hp h9 q => ?_⟩)
  · refine zg_i2l hC dL_recallOf_7 ?_
    refine zg_last hC (k := 87) dL_recallOf_8 zq87 zk87 (fun h3 M4 eM4 => ?_)
    refine zg_goto hC (tgt := 15) dL_recallOf_9 (by decide) ?_
    refine zg_iconst hC (v := 0) dL_recallOf_15 (by decide) ?_
    exact zg_ret hC hE dL_recallOf_16
  · by_cases q0 : znx x = 1
    · simp [zhd, q0] at h9
    · rw [if_neg q0]
  · by_cases q0 : znx x = 1
    · rw [if_pos q0] at h9
      cases h9
      exact ⟨_, rfl⟩
    · rw [if_neg q0] at h9
      cases h9
  · by_cases q0 : znx x = 1
    · have e9 : 12 = hp := by simpa [zhd, q0] using h9
      subst e9
      rw [if_pos q0]
      refine zg_astore_n hC (L' := [(3, _), (0, _), (1, _), (2, _)]) dL_recallOf_12 (by decide) rfl ?_
      refine zg_iconst hC (v := 1) dL_recallOf_13 (by decide) ?_
      exact zg_retw hC hE hN dL_recallOf_14
    · simp [zhd, q0] at h9
theorem tL_recallOf {l : Launch} {Z : zZ} {ad : Nat → Nat} (hl : l.stackTraces = false) (d : Nat) (N : Nat) (p2 : Int32) (M : zMem) : zT l Z zfull ad (.codeWith yL_recallOf cL_recallOf 4 (some .int) [(0, 9, 12, 18)]) yL_recallOf (d + 8) false zbw [.ref (ad 0), .int p2, .ref (ad 87)] M (fL_recallOf N p2 M) :=
  zTh_of (st := 0) (en := 9) (es := [(1, 12, 18)]) hl (by decide +kernel) (Nat.le_of_ble_eq_true rfl) (fun X hC hE hN => gL_recallOf_B0 hC hE hN N p2 M)

def fL_calledBack (N : Nat) (p2 : Int32) (M : zMem) : zRES :=
  zbx (fX7_calledBack N p2 M)
    (fun r1 M2 =>
    if zin (0 : Int32) 1 = true then
    zl (zsL M2 87 (0 : Int32).toNatClampNeg r1.toInt64) fun M4 =>
    some (.inl 0, M4)
    else none)
    (fun x M2 =>
    if znx x = 1 then
      some (.inl 1, M2)
    else
    none)
set_option maxRecDepth 20000 in
set_option maxHeartbeats 2000000 in
theorem gL_calledBack_B0 {l : Launch} {Z : zZ} {ad : Nat → Nat} {d : Nat} {X : zX} (hC : zC l Z zfull ad X RL cL_calledBack 4 (some .int) (d + 8)) (hE : zEnd Z zfull ad X false) (hN : zTab X 0 9 [(1, 12, 18)]) (N : Nat) (p2 : Int32) (M : zMem) : zG l Z zfull ad X (0, 0) 0 [(0, .ref (ad 0)), (1, .int p2), (2, .ref (ad 87))] [] M (fL_calledBack N p2 M) := by
  unfold fL_calledBack
  refine zg_aload_n hC 2 dL_calledBack_0 rfl ?_
  refine zg_iconst hC (v := 0) dL_calledBack_1 (by decide) ?_
  refine zg_aload_n hC 0 dL_calledBack_2 rfl ?_
  refine zg_iload_n hC 1 dL_calledBack_3 rfl ?_
  refine zg_callXi hC hE hN (k := 0) (As := [.int p2]) (S := [.int 0, .ref (ad 87)]) rfl (tX7_calledBack (zflag hC) d N p2 M) lkL_127 rfl dL_calledBack_4 zq0 zk0 rfl rfl (Nat.le_of_ble_eq_true rfl) (by decide) (by intro z hz; simp only [List.mem_cons, List.not_mem_nil, or_false] at hz; rcases hz with rfl; all_goals first | exact ⟨by decide, by decide, ckL_18⟩) zself (fun r1 M2 er1 => ?_) (fun x M2 => ⟨fun h9 => ?_, fun r9 h9 => ?_, fun hp h9 q => ?_⟩)
  · refine zg_i2l hC dL_calledBack_7 ?_
    refine zg_last hC (k := 87) dL_calledBack_8 zq87 zk87 (fun h3 M4 eM4 => ?_)
    refine zg_goto hC (tgt := 15) dL_calledBack_9 (by decide) ?_
    refine zg_iconst hC (v := 0) dL_calledBack_15 (by decide) ?_
    exact zg_ret hC hE dL_calledBack_16
  · by_cases q0 : znx x = 1
    · simp [zhd, q0] at h9
    · rw [if_neg q0]
  · by_cases q0 : znx x = 1
    · rw [if_pos q0] at h9
      cases h9
      exact ⟨_, rfl⟩
    · rw [if_neg q0] at h9
      cases h9
  · by_cases q0 : znx x = 1
    · have e9 : 12 = hp := by simpa [zhd, q0] using h9
      subst e9
      rw [if_pos q0]
      refine zg_astore_n hC (L' := [(3, _), (0, _), (1, _), (2, _)]) dL_calledBack_12 (by decide) rfl ?_
      refine zg_iconst hC (v := 1) dL_calledBack_13 (by decide) ?_
      exact zg_retw hC hE hN dL_calledBack_14
    · simp [zhd, q0] at h9
theorem tL_calledBack {l : Launch} {Z : zZ} {ad : Nat → Nat} (hl : l.stackTraces = false) (d : Nat) (N : Nat) (p2 : Int32) (M : zMem) : zT l Z zfull ad (.codeWith yL_calledBack cL_calledBack 4 (some .int) [(0, 9, 12, 18)]) yL_calledBack (d + 8) false zbw [.ref (ad 0), .int p2, .ref (ad 87)] M (fL_calledBack N p2 M) :=
  zTh_of (st := 0) (en := 9) (es := [(1, 12, 18)]) hl (by decide +kernel) (Nat.le_of_ble_eq_true rfl) (fun X hC hE hN => gL_calledBack_B0 hC hE hN N p2 M)

def fL_why (N : Nat) (p2 : Int32) (M : zMem) : zRES :=
  zbx (fX7_why N p2 M)
    (fun r1 M2 =>
    if zin (0 : Int32) 1 = true then
    zl (zsL M2 87 (0 : Int32).toNatClampNeg r1.toInt64) fun M4 =>
    some (.inl 0, M4)
    else none)
    (fun x M2 =>
    if znx x = 1 then
      some (.inl 1, M2)
    else
    none)
set_option maxRecDepth 20000 in
set_option maxHeartbeats 2000000 in
theorem gL_why_B0 {l : Launch} {Z : zZ} {ad : Nat → Nat} {d : Nat} {X : zX} (hC : zC l Z zfull ad X RL cL_why 4 (some .int) (d + 8)) (hE : zEnd Z zfull ad X false) (hN : zTab X 0 9 [(1, 12, 18)]) (N : Nat) (p2 : Int32) (M : zMem) : zG l Z zfull ad X (0, 0) 0 [(0, .ref (ad 0)), (1, .int p2), (2, .ref (ad 87))] [] M (fL_why N p2 M) := by
  unfold fL_why
  refine zg_aload_n hC 2 dL_why_0 rfl ?_
  refine zg_iconst hC (v := 0) dL_why_1 (by decide) ?_
  refine zg_aload_n hC 0 dL_why_2 rfl ?_
  refine zg_iload_n hC 1 dL_why_3 rfl ?_
  refine zg_callXi hC hE hN (k := 0) (As := [.int p2]) (S := [.int 0, .ref (ad 87)]) rfl (tX7_why (zflag hC) d N p2 M) lkL_130 rfl dL_why_4 zq0 zk0 rfl rfl (Nat.le_of_ble_eq_true rfl) (by decide) (by intro z hz; simp only [List.mem_cons, List.not_mem_nil, or_false] at hz; rcases hz with rfl; all_goals first | exact ⟨by decide, by decide, ckL_18⟩) zself (fun r1 M2 er1 => ?_) (fun x M2 => ⟨fun h9 => ?_, fun r9 h9 => ?_, fun hp h9 q => ?_⟩)
  · refine zg_i2l hC dL_why_7 ?_
    refine zg_last hC (k := 87) dL_why_8 zq87 zk87 (fun h3 M4 eM4 => ?_)
    refine zg_goto hC (tgt := 15) dL_why_9 (by decide) ?_
    refine zg_iconst hC (v := 0) dL_why_15 (by decide) ?_
    exact zg_ret hC hE dL_why_16
  · by_cases q0 : znx x = 1
    · simp [zhd, q0] at h9
    · rw [if_neg q0]
  · by_cases q0 : znx x = 1
    · rw [if_pos q0] at h9
      cases h9
      exact ⟨_, rfl⟩
    · rw [if_neg q0] at h9
      cases h9
  · by_cases q0 : znx x = 1
    · have e9 : 12 = hp := by simpa [zhd, q0] using h9
      subst e9
      rw [if_pos q0]
      refine zg_astore_n hC (L' := [(3, _), (0, _), (1, _), (2, _)]) dL_why_12 (by decide) rfl ?_
      refine zg_iconst hC (v := 1) dL_why_13 (by decide) ?_
      exact zg_retw hC hE hN dL_why_14
    · simp [zhd, q0] at h9
theorem tL_why {l : Launch} {Z : zZ} {ad : Nat → Nat} (hl : l.stackTraces = false) (d : Nat) (N : Nat) (p2 : Int32) (M : zMem) : zT l Z zfull ad (.codeWith yL_why cL_why 4 (some .int) [(0, 9, 12, 18)]) yL_why (d + 8) false zbw [.ref (ad 0), .int p2, .ref (ad 87)] M (fL_why N p2 M) :=
  zTh_of (st := 0) (en := 9) (es := [(1, 12, 18)]) hl (by decide +kernel) (Nat.le_of_ble_eq_true rfl) (fun X hC hE hN => gL_why_B0 hC hE hN N p2 M)
