def fL_low (N : Nat) (p1 : Int32) (p2 : Int32) (M : zMem) : zRES :=
  if p2 = 0 then none else
  some (.inl ((p1 &&& 2147483647) - (p1 &&& 2147483647) / p2 * p2), M)
set_option maxRecDepth 20000 in
set_option maxHeartbeats 2000000 in
theorem gL_low_B0 {l : Launch} {Z : zZ} {ad : Nat → Nat} {d : Nat} {X : zX} {cs : Nat × Nat} (hC : zC l Z zfull ad X RL cL_low 2 (some .int) (d + 0)) (hE : zEnd Z zfull ad X false) (hN : zNoX X) (N : Nat) (p1 : Int32) (p2 : Int32) (M : zMem) : zG l Z zfull ad X cs 0 [(0, .int p1), (1, .int p2)] [] M (fL_low N p1 p2 M) := by
  unfold fL_low
  refine zg_iload_n hC 0 dL_low_0 rfl ?_
  refine zg_ldc hC (v := 2147483647) dL_low_1 kcL_7 ?_
  refine zg_iand hC dL_low_3 ?_
  refine zg_iload_n hC 1 dL_low_4 rfl ?_
  refine zg_iremV hC dL_low_5 (fun h1 => ?_)
  exact zg_ret hC hE dL_low_6
theorem tL_low {l : Launch} {Z : zZ} {ad : Nat → Nat} (hl : l.stackTraces = false) (d : Nat) (N : Nat) (p1 : Int32) (p2 : Int32) (M : zMem) : zT l Z zfull ad (.code yL_low cL_low 2 (some .int)) yL_low (d + 0) false zbn [.int p1, .int p2] M (fL_low N p1 p2 M) :=
  zT_of hl (by decide +kernel) (Nat.le_of_ble_eq_true rfl) (fun X hC hE hN => gL_low_B0 hC hE hN N p1 p2 M)

def fL_vote (N : Nat) (p2 : Int32) (p3 : Int32) (M : zMem) : zRES :=
  zbx (fX7_vote N p2 p3 M)
    (fun r1 M2 =>
    if zbool r1 = true then some (.inl r1, M2) else none)
    (fun x M2 =>
    if znx x = 3 then
      some (.inl 0, M2)
    else
    none)
set_option maxRecDepth 20000 in
set_option maxHeartbeats 2000000 in
theorem gL_vote_B0 {l : Launch} {Z : zZ} {ad : Nat → Nat} {d : Nat} {X : zX} (hC : zC l Z zfull ad X RL cL_vote 4 (some .boolean) (d + 9)) (hE : zEnd Z zfull ad X false) (hN : zTab X 0 6 [(3, 7, 15)]) (N : Nat) (p2 : Int32) (p3 : Int32) (M : zMem) : zG l Z zfull ad X (0, 0) 0 [(0, .ref (ad 0)), (1, .int p2), (2, .int p3)] [] M (fL_vote N p2 p3 M) := by
  unfold fL_vote
  refine zg_aload_n hC 0 dL_vote_0 rfl ?_
  refine zg_iload_n hC 1 dL_vote_1 rfl ?_
  refine zg_iload_n hC 2 dL_vote_2 rfl ?_
  refine zg_callXi hC hE hN (k := 0) (As := [.int p2, .int p3]) (S := []) rfl (tX7_vote (zflag hC) d N p2 p3 M) lkL_9 rfl dL_vote_3 zq0 zk0 rfl rfl (Nat.le_of_ble_eq_true rfl) (by decide) (by intro z hz; simp only [List.mem_cons, List.not_mem_nil, or_false] at hz; rcases hz with rfl; all_goals first | exact ⟨by decide, by decide, ckL_15⟩) zself (fun r1 M2 er1 => ?_) (fun x M2 => ⟨fun h9 => ?_, fun r9 h9 => ?_, fun hp h9 q => ?_⟩)
  · exact zg_retb hC hE dL_vote_6
  · by_cases q0 : znx x = 3
    · simp [zhd, q0] at h9
    · rw [if_neg q0]
  · by_cases q0 : znx x = 3
    · rw [if_pos q0] at h9
      cases h9
      exact ⟨_, rfl⟩
    · rw [if_neg q0] at h9
      cases h9
  · by_cases q0 : znx x = 3
    · have e9 : 7 = hp := by simpa [zhd, q0] using h9
      subst e9
      rw [if_pos q0]
      refine zg_astore_n hC (L' := [(3, _), (0, _), (1, _), (2, _)]) dL_vote_7 (by decide) rfl ?_
      refine zg_iconst hC (v := 0) dL_vote_8 (by decide) ?_
      exact zg_retwz hC hE hN (by decide) dL_vote_9
    · simp [zhd, q0] at h9
theorem tL_vote {l : Launch} {Z : zZ} {ad : Nat → Nat} (hl : l.stackTraces = false) (d : Nat) (N : Nat) (p2 : Int32) (p3 : Int32) (M : zMem) : zT l Z zfull ad (.codeWith yL_vote cL_vote 4 (some .boolean) [(0, 6, 7, 15)]) yL_vote (d + 9) false zbw [.ref (ad 0), .int p2, .int p3] M (fL_vote N p2 p3 M) :=
  zTh_of (st := 0) (en := 6) (es := [(3, 7, 15)]) hl (by decide +kernel) (Nat.le_of_ble_eq_true rfl) (fun X hC hE hN => gL_vote_B0 hC hE hN N p2 p3 M)

def fL_propose (N : Nat) (p2 : Int32) (p3 : Int32) (p4 : Int32) (p5 : Int32) (M : zMem) : zRES :=
  zbx (fX7_propose N p2 p3 p4 p5 M)
    (fun r1 M2 =>
    some (.inl r1, M2))
    (fun x M2 =>
    if znx x = 3 then
      some (.inl (-3), M2)
    else
    none)
set_option maxRecDepth 20000 in
set_option maxHeartbeats 2000000 in
theorem gL_propose_B0 {l : Launch} {Z : zZ} {ad : Nat → Nat} {d : Nat} {X : zX} (hC : zC l Z zfull ad X RL cL_propose 6 (some .int) (d + 8)) (hE : zEnd Z zfull ad X false) (hN : zTab X 0 9 [(3, 10, 15)]) (N : Nat) (p2 : Int32) (p3 : Int32) (p4 : Int32) (p5 : Int32) (M : zMem) : zG l Z zfull ad X (0, 0) 0 [(0, .ref (ad 0)), (1, .int p2), (2, .int p3), (3, .int p4), (4, .int p5)] [] M (fL_propose N p2 p3 p4 p5 M) := by
  unfold fL_propose
  refine zg_aload_n hC 0 dL_propose_0 rfl ?_
  refine zg_iload_n hC 1 dL_propose_1 rfl ?_
  refine zg_iload_n hC 2 dL_propose_2 rfl ?_
  refine zg_iload_n hC 3 dL_propose_3 rfl ?_
  refine zg_iload hC 4 dL_propose_4 rfl ?_
  refine zg_callXi hC hE hN (k := 0) (As := [.int p2, .int p3, .int p4, .int p5]) (S := []) rfl (tX7_propose (zflag hC) d N p2 p3 p4 p5 M) lkL_17 rfl dL_propose_6 zq0 zk0 rfl rfl (Nat.le_of_ble_eq_true rfl) (by decide) (by intro z hz; simp only [List.mem_cons, List.not_mem_nil, or_false] at hz; rcases hz with rfl; all_goals first | exact ⟨by decide, by decide, ckL_15⟩) zself (fun r1 M2 er1 => ?_) (fun x M2 => ⟨fun h9 => ?_, fun r9 h9 => ?_, fun hp h9 q => ?_⟩)
  · exact zg_ret hC hE dL_propose_9
  · by_cases q0 : znx x = 3
    · simp [zhd, q0] at h9
    · rw [if_neg q0]
  · by_cases q0 : znx x = 3
    · rw [if_pos q0] at h9
      cases h9
      exact ⟨_, rfl⟩
    · rw [if_neg q0] at h9
      cases h9
  · by_cases q0 : znx x = 3
    · have e9 : 10 = hp := by simpa [zhd, q0] using h9
      subst e9
      rw [if_pos q0]
      refine zg_astore hC (L' := [(5, _), (0, _), (1, _), (2, _), (3, _), (4, _)]) dL_propose_10 (by decide) rfl ?_
      refine zg_bipush hC (v := (-3)) dL_propose_12 (by decide) ?_
      exact zg_retw hC hE hN dL_propose_14
    · simp [zhd, q0] at h9
theorem tL_propose {l : Launch} {Z : zZ} {ad : Nat → Nat} (hl : l.stackTraces = false) (d : Nat) (N : Nat) (p2 : Int32) (p3 : Int32) (p4 : Int32) (p5 : Int32) (M : zMem) : zT l Z zfull ad (.codeWith yL_propose cL_propose 6 (some .int) [(0, 9, 10, 15)]) yL_propose (d + 8) false zbw [.ref (ad 0), .int p2, .int p3, .int p4, .int p5] M (fL_propose N p2 p3 p4 p5 M) :=
  zTh_of (st := 0) (en := 9) (es := [(3, 10, 15)]) hl (by decide +kernel) (Nat.le_of_ble_eq_true rfl) (fun X hC hE hN => gL_propose_B0 hC hE hN N p2 p3 p4 p5 M)

def fL_tell (N : Nat) (p2 : Int32) (p3 : Int32) (M : zMem) : zRES :=
  zbx (fX7_tell N p2 p3 M)
    (fun r1 M2 =>
    some (.inl r1, M2))
    (fun x M2 =>
    if znx x = 3 then
      some (.inl (-3), M2)
    else
    none)
set_option maxRecDepth 20000 in
set_option maxHeartbeats 2000000 in
theorem gL_tell_B0 {l : Launch} {Z : zZ} {ad : Nat → Nat} {d : Nat} {X : zX} (hC : zC l Z zfull ad X RL cL_tell 4 (some .int) (d + 9)) (hE : zEnd Z zfull ad X false) (hN : zTab X 0 6 [(3, 7, 15)]) (N : Nat) (p2 : Int32) (p3 : Int32) (M : zMem) : zG l Z zfull ad X (0, 0) 0 [(0, .ref (ad 0)), (1, .int p2), (2, .int p3)] [] M (fL_tell N p2 p3 M) := by
  unfold fL_tell
  refine zg_aload_n hC 0 dL_tell_0 rfl ?_
  refine zg_iload_n hC 1 dL_tell_1 rfl ?_
  refine zg_iload_n hC 2 dL_tell_2 rfl ?_
  refine zg_callXi hC hE hN (k := 0) (As := [.int p2, .int p3]) (S := []) rfl (tX7_tell (zflag hC) d N p2 p3 M) lkL_21 rfl dL_tell_3 zq0 zk0 rfl rfl (Nat.le_of_ble_eq_true rfl) (by decide) (by intro z hz; simp only [List.mem_cons, List.not_mem_nil, or_false] at hz; rcases hz with rfl; all_goals first | exact ⟨by decide, by decide, ckL_15⟩) zself (fun r1 M2 er1 => ?_) (fun x M2 => ⟨fun h9 => ?_, fun r9 h9 => ?_, fun hp h9 q => ?_⟩)
  · exact zg_ret hC hE dL_tell_6
  · by_cases q0 : znx x = 3
    · simp [zhd, q0] at h9
    · rw [if_neg q0]
  · by_cases q0 : znx x = 3
    · rw [if_pos q0] at h9
      cases h9
      exact ⟨_, rfl⟩
    · rw [if_neg q0] at h9
      cases h9
  · by_cases q0 : znx x = 3
    · have e9 : 7 = hp := by simpa [zhd, q0] using h9
      subst e9
      rw [if_pos q0]
      refine zg_astore_n hC (L' := [(3, _), (0, _), (1, _), (2, _)]) dL_tell_7 (by decide) rfl ?_
      refine zg_bipush hC (v := (-3)) dL_tell_8 (by decide) ?_
      exact zg_retw hC hE hN dL_tell_10
    · simp [zhd, q0] at h9
theorem tL_tell {l : Launch} {Z : zZ} {ad : Nat → Nat} (hl : l.stackTraces = false) (d : Nat) (N : Nat) (p2 : Int32) (p3 : Int32) (M : zMem) : zT l Z zfull ad (.codeWith yL_tell cL_tell 4 (some .int) [(0, 6, 7, 15)]) yL_tell (d + 9) false zbw [.ref (ad 0), .int p2, .int p3] M (fL_tell N p2 p3 M) :=
  zTh_of (st := 0) (en := 6) (es := [(3, 7, 15)]) hl (by decide +kernel) (Nat.le_of_ble_eq_true rfl) (fun X hC hE hN => gL_tell_B0 hC hE hN N p2 p3 M)

def fL_deliver (N : Nat) (p2 : Int32) (p3 : Int32) (p4 : Int32) (M : zMem) : zRES :=
  zbx (fX7_deliver N p2 p3 p4 M)
    (fun r1 M2 =>
    some (.inl r1, M2))
    (fun x M2 =>
    if znx x = 3 then
      some (.inl (-3), M2)
    else
    none)
set_option maxRecDepth 20000 in
set_option maxHeartbeats 2000000 in
theorem gL_deliver_B0 {l : Launch} {Z : zZ} {ad : Nat → Nat} {d : Nat} {X : zX} (hC : zC l Z zfull ad X RL cL_deliver 5 (some .int) (d + 8)) (hE : zEnd Z zfull ad X false) (hN : zTab X 0 7 [(3, 8, 15)]) (N : Nat) (p2 : Int32) (p3 : Int32) (p4 : Int32) (M : zMem) : zG l Z zfull ad X (0, 0) 0 [(0, .ref (ad 0)), (1, .int p2), (2, .int p3), (3, .int p4)] [] M (fL_deliver N p2 p3 p4 M) := by
  unfold fL_deliver
  refine zg_aload_n hC 0 dL_deliver_0 rfl ?_
  refine zg_iload_n hC 1 dL_deliver_1 rfl ?_
  refine zg_iload_n hC 2 dL_deliver_2 rfl ?_
  refine zg_iload_n hC 3 dL_deliver_3 rfl ?_
  refine zg_callXi hC hE hN (k := 0) (As := [.int p2, .int p3, .int p4]) (S := []) rfl (tX7_deliver (zflag hC) d N p2 p3 p4 M) lkL_25 rfl dL_deliver_4 zq0 zk0 rfl rfl (Nat.le_of_ble_eq_true rfl) (by decide) (by intro z hz; simp only [List.mem_cons, List.not_mem_nil, or_false] at hz; rcases hz with rfl; all_goals first | exact ⟨by decide, by decide, ckL_15⟩) zself (fun r1 M2 er1 => ?_) (fun x M2 => ⟨fun h9 => ?_, fun r9 h9 => ?_, fun hp h9 q => ?_⟩)
  · exact zg_ret hC hE dL_deliver_7
  · by_cases q0 : znx x = 3
    · simp [zhd, q0] at h9
    · rw [if_neg q0]
  · by_cases q0 : znx x = 3
    · rw [if_pos q0] at h9
      cases h9
      exact ⟨_, rfl⟩
    · rw [if_neg q0] at h9
      cases h9
  · by_cases q0 : znx x = 3
    · have e9 : 8 = hp := by simpa [zhd, q0] using h9
      subst e9
      rw [if_pos q0]
      refine zg_astore hC (L' := [(4, _), (0, _), (1, _), (2, _), (3, _)]) dL_deliver_8 (by decide) rfl ?_
      refine zg_bipush hC (v := (-3)) dL_deliver_10 (by decide) ?_
      exact zg_retw hC hE hN dL_deliver_12
    · simp [zhd, q0] at h9
theorem tL_deliver {l : Launch} {Z : zZ} {ad : Nat → Nat} (hl : l.stackTraces = false) (d : Nat) (N : Nat) (p2 : Int32) (p3 : Int32) (p4 : Int32) (M : zMem) : zT l Z zfull ad (.codeWith yL_deliver cL_deliver 5 (some .int) [(0, 7, 8, 15)]) yL_deliver (d + 8) false zbw [.ref (ad 0), .int p2, .int p3, .int p4] M (fL_deliver N p2 p3 p4 M) :=
  zTh_of (st := 0) (en := 7) (es := [(3, 8, 15)]) hl (by decide +kernel) (Nat.le_of_ble_eq_true rfl) (fun X hC hE hN => gL_deliver_B0 hC hE hN N p2 p3 p4 M)

def fL_book (N : Nat) (p2 : Int32) (p3 : Int32) (p4 : Int32) (M : zMem) : zRES :=
  zbx (fX7_book N p2 p3 p4 M)
    (fun r1 M2 =>
    some (.inl r1, M2))
    (fun x M2 =>
    if znx x = 3 then
      some (.inl (-3), M2)
    else
    none)
set_option maxRecDepth 20000 in
set_option maxHeartbeats 2000000 in
theorem gL_book_B0 {l : Launch} {Z : zZ} {ad : Nat → Nat} {d : Nat} {X : zX} (hC : zC l Z zfull ad X RL cL_book 5 (some .int) (d + 8)) (hE : zEnd Z zfull ad X false) (hN : zTab X 0 7 [(3, 8, 15)]) (N : Nat) (p2 : Int32) (p3 : Int32) (p4 : Int32) (M : zMem) : zG l Z zfull ad X (0, 0) 0 [(0, .ref (ad 0)), (1, .int p2), (2, .int p3), (3, .int p4)] [] M (fL_book N p2 p3 p4 M) := by
  unfold fL_book
  refine zg_aload_n hC 0 dL_book_0 rfl ?_
  refine zg_iload_n hC 1 dL_book_1 rfl ?_
  refine zg_iload_n hC 2 dL_book_2 rfl ?_
  refine zg_iload_n hC 3 dL_book_3 rfl ?_
  refine zg_callXi hC hE hN (k := 0) (As := [.int p2, .int p3, .int p4]) (S := []) rfl (tX7_book (zflag hC) d N p2 p3 p4 M) lkL_29 rfl dL_book_4 zq0 zk0 rfl rfl (Nat.le_of_ble_eq_true rfl) (by decide) (by intro z hz; simp only [List.mem_cons, List.not_mem_nil, or_false] at hz; rcases hz with rfl; all_goals first | exact ⟨by decide, by decide, ckL_15⟩) zself (fun r1 M2 er1 => ?_) (fun x M2 => ⟨fun h9 => ?_, fun r9 h9 => ?_, fun hp h9 q => ?_⟩)
  · exact zg_ret hC hE dL_book_7
  · by_cases q0 : znx x = 3
    · simp [zhd, q0] at h9
    · rw [if_neg q0]
  · by_cases q0 : znx x = 3
    · rw [if_pos q0] at h9
      cases h9
      exact ⟨_, rfl⟩
    · rw [if_neg q0] at h9
      cases h9
  · by_cases q0 : znx x = 3
    · have e9 : 8 = hp := by simpa [zhd, q0] using h9
      subst e9
      rw [if_pos q0]
      refine zg_astore hC (L' := [(4, _), (0, _), (1, _), (2, _), (3, _)]) dL_book_8 (by decide) rfl ?_
      refine zg_bipush hC (v := (-3)) dL_book_10 (by decide) ?_
      exact zg_retw hC hE hN dL_book_12
    · simp [zhd, q0] at h9
theorem tL_book {l : Launch} {Z : zZ} {ad : Nat → Nat} (hl : l.stackTraces = false) (d : Nat) (N : Nat) (p2 : Int32) (p3 : Int32) (p4 : Int32) (M : zMem) : zT l Z zfull ad (.codeWith yL_book cL_book 5 (some .int) [(0, 7, 8, 15)]) yL_book (d + 8) false zbw [.ref (ad 0), .int p2, .int p3, .int p4] M (fL_book N p2 p3 p4 M) :=
  zTh_of (st := 0) (en := 7) (es := [(3, 8, 15)]) hl (by decide +kernel) (Nat.le_of_ble_eq_true rfl) (fun X hC hE hN => gL_book_B0 hC hE hN N p2 p3 p4 M)

def fL_sell (N : Nat) (p2 : Int32) (p3 : Int32) (M : zMem) : zRES :=
  zbx (fX7_sell N p2 p3 M)
    (fun r1 M2 =>
    some (.inl r1, M2))
    (fun x M2 =>
    if znx x = 3 then
      some (.inl (-3), M2)
    else
    none)
set_option maxRecDepth 20000 in
set_option maxHeartbeats 2000000 in
theorem gL_sell_B0 {l : Launch} {Z : zZ} {ad : Nat → Nat} {d : Nat} {X : zX} (hC : zC l Z zfull ad X RL cL_sell 4 (some .int) (d + 8)) (hE : zEnd Z zfull ad X false) (hN : zTab X 0 6 [(3, 7, 15)]) (N : Nat) (p2 : Int32) (p3 : Int32) (M : zMem) : zG l Z zfull ad X (0, 0) 0 [(0, .ref (ad 0)), (1, .int p2), (2, .int p3)] [] M (fL_sell N p2 p3 M) := by
  unfold fL_sell
  refine zg_aload_n hC 0 dL_sell_0 rfl ?_
  refine zg_iload_n hC 1 dL_sell_1 rfl ?_
  refine zg_iload_n hC 2 dL_sell_2 rfl ?_
  refine zg_callXi hC hE hN (k := 0) (As := [.int p2, .int p3]) (S := []) rfl (tX7_sell (zflag hC) d N p2 p3 M) lkL_32 rfl dL_sell_3 zq0 zk0 rfl rfl (Nat.le_of_ble_eq_true rfl) (by decide) (by intro z hz; simp only [List.mem_cons, List.not_mem_nil, or_false] at hz; rcases hz with rfl; all_goals first | exact ⟨by decide, by decide, ckL_15⟩) zself (fun r1 M2 er1 => ?_) (fun x M2 => ⟨fun h9 => ?_, fun r9 h9 => ?_, fun hp h9 q => ?_⟩)
  · exact zg_ret hC hE dL_sell_6
  · by_cases q0 : znx x = 3
    · simp [zhd, q0] at h9
    · rw [if_neg q0]
  · by_cases q0 : znx x = 3
    · rw [if_pos q0] at h9
      cases h9
      exact ⟨_, rfl⟩
    · rw [if_neg q0] at h9
      cases h9
  · by_cases q0 : znx x = 3
    · have e9 : 7 = hp := by simpa [zhd, q0] using h9
      subst e9
      rw [if_pos q0]
      refine zg_astore_n hC (L' := [(3, _), (0, _), (1, _), (2, _)]) dL_sell_7 (by decide) rfl ?_
      refine zg_bipush hC (v := (-3)) dL_sell_8 (by decide) ?_
      exact zg_retw hC hE hN dL_sell_10
    · simp [zhd, q0] at h9
theorem tL_sell {l : Launch} {Z : zZ} {ad : Nat → Nat} (hl : l.stackTraces = false) (d : Nat) (N : Nat) (p2 : Int32) (p3 : Int32) (M : zMem) : zT l Z zfull ad (.codeWith yL_sell cL_sell 4 (some .int) [(0, 6, 7, 15)]) yL_sell (d + 8) false zbw [.ref (ad 0), .int p2, .int p3] M (fL_sell N p2 p3 M) :=
  zTh_of (st := 0) (en := 6) (es := [(3, 7, 15)]) hl (by decide +kernel) (Nat.le_of_ble_eq_true rfl) (fun X hC hE hN => gL_sell_B0 hC hE hN N p2 p3 M)

def fL_condemn (N : Nat) (p2 : Int32) (M : zMem) : zRES :=
  zbx (fX7_condemn N p2 M)
    (fun r1 M2 =>
    some (.inl r1, M2))
    (fun x M2 =>
    if znx x = 3 then
      some (.inl (-3), M2)
    else
    none)
set_option maxRecDepth 20000 in
set_option maxHeartbeats 2000000 in
theorem gL_condemn_B0 {l : Launch} {Z : zZ} {ad : Nat → Nat} {d : Nat} {X : zX} (hC : zC l Z zfull ad X RL cL_condemn 3 (some .int) (d + 8)) (hE : zEnd Z zfull ad X false) (hN : zTab X 0 5 [(3, 6, 15)]) (N : Nat) (p2 : Int32) (M : zMem) : zG l Z zfull ad X (0, 0) 0 [(0, .ref (ad 0)), (1, .int p2)] [] M (fL_condemn N p2 M) := by
  unfold fL_condemn
  refine zg_aload_n hC 0 dL_condemn_0 rfl ?_
  refine zg_iload_n hC 1 dL_condemn_1 rfl ?_
  refine zg_callXi hC hE hN (k := 0) (As := [.int p2]) (S := []) rfl (tX7_condemn (zflag hC) d N p2 M) lkL_35 rfl dL_condemn_2 zq0 zk0 rfl rfl (Nat.le_of_ble_eq_true rfl) (by decide) (by intro z hz; simp only [List.mem_cons, List.not_mem_nil, or_false] at hz; rcases hz with rfl; all_goals first | exact ⟨by decide, by decide, ckL_15⟩) zself (fun r1 M2 er1 => ?_) (fun x M2 => ⟨fun h9 => ?_, fun r9 h9 => ?_, fun hp h9 q => ?_⟩)
  · exact zg_ret hC hE dL_condemn_5
  · by_cases q0 : znx x = 3
    · simp [zhd, q0] at h9
    · rw [if_neg q0]
  · by_cases q0 : znx x = 3
    · rw [if_pos q0] at h9
      cases h9
      exact ⟨_, rfl⟩
    · rw [if_neg q0] at h9
      cases h9
  · by_cases q0 : znx x = 3
    · have e9 : 6 = hp := by simpa [zhd, q0] using h9
      subst e9
      rw [if_pos q0]
      refine zg_astore_n hC (L' := [(2, _), (0, _), (1, _)]) dL_condemn_6 (by decide) rfl ?_
      refine zg_bipush hC (v := (-3)) dL_condemn_7 (by decide) ?_
      exact zg_retw hC hE hN dL_condemn_9
    · simp [zhd, q0] at h9
theorem tL_condemn {l : Launch} {Z : zZ} {ad : Nat → Nat} (hl : l.stackTraces = false) (d : Nat) (N : Nat) (p2 : Int32) (M : zMem) : zT l Z zfull ad (.codeWith yL_condemn cL_condemn 3 (some .int) [(0, 5, 6, 15)]) yL_condemn (d + 8) false zbw [.ref (ad 0), .int p2] M (fL_condemn N p2 M) :=
  zTh_of (st := 0) (en := 5) (es := [(3, 6, 15)]) hl (by decide +kernel) (Nat.le_of_ble_eq_true rfl) (fun X hC hE hN => gL_condemn_B0 hC hE hN N p2 M)

def fL_roles_B92 (N : Nat) (again4 : Int32 → Int32 → zMem → zRES) (v1 : Int32) (v2 : Int32) (M : zMem) : zRES :=
  again4 v1 (v2 + 1) M
def fL_roles_B85 (N : Nat) (again4 : Int32 → Int32 → zMem → zRES) (again41 : Int32 → Int32 → Int32 → Int32 → zMem → zRES) (v2 : Int32) (v3 : Int32) (v4 : Int32) (s0 : Int32) (M : zMem) : zRES :=
  again41 s0 v2 v3 (v4 + 1) M
def fL_roles_B80 (N : Nat) (again4 : Int32 → Int32 → zMem → zRES) (again41 : Int32 → Int32 → Int32 → Int32 → zMem → zRES) (v2 : Int32) (v3 : Int32) (v4 : Int32) (M : zMem) : zRES :=
  fL_roles_B85 N again4 again41 v2 v3 v4 1 M
def fL_roles_B41 (N : Nat) (again4 : Int32 → Int32 → zMem → zRES) : Nat → Int32 → Int32 → Int32 → Int32 → zMem → zRES
  | 0, _, _, _, _, _ => none
  | n + 1, v1, v2, v3, v4, M =>
  if v2 ≤ v4 then
    fL_roles_B92 N again4 v1 v2 M
  else
    if v1 = 0 then
      fL_roles_B92 N again4 v1 v2 M
    else
      if v3 = 2 then
        zb (fX7_role N v4 M) fun r12 M13 =>
        if r12 = 2 then
          zb (fX7_term N v4 M13) fun r15 M16 =>
          zb (fX7_term N v2 M16) fun r17 M18 =>
          if r15 = r17 then
            fL_roles_B85 N again4 (fL_roles_B41 N again4 n) v2 v3 v4 0 M18
          else
            fL_roles_B80 N again4 (fL_roles_B41 N again4 n) v2 v3 v4 M18
        else
          fL_roles_B80 N again4 (fL_roles_B41 N again4 n) v2 v3 v4 M13
      else
        fL_roles_B80 N again4 (fL_roles_B41 N again4 n) v2 v3 v4 M
def fL_roles_B37 (N : Nat) (again4 : Int32 → Int32 → zMem → zRES) (v2 : Int32) (v3 : Int32) (s0 : Int32) (M : zMem) : zRES :=
  fL_roles_B41 N again4 N s0 v2 v3 0 M
def fL_roles_B32 (N : Nat) (again4 : Int32 → Int32 → zMem → zRES) (v2 : Int32) (v3 : Int32) (M : zMem) : zRES :=
  fL_roles_B37 N again4 v2 v3 1 M
def fL_roles_B4 (N : Nat) : Nat → Int32 → Int32 → zMem → zRES
  | 0, _, _, _ => none
  | n + 1, v1, v2, M =>
  if (5 : Int32) ≤ v2 then
    if zbool v1 = true then some (.inl v1, M) else none
  else
    if v1 = 0 then
      if zbool v1 = true then some (.inl v1, M) else none
    else
      zb (fX7_role N v2 M) fun r3 M4 =>
      if r3 = 0 then
        fL_roles_B32 N (fL_roles_B4 N n) v2 r3 M4
      else
        zb (fX7_votedFor N v2 M4) fun r6 M7 =>
        if r6 = v2 then
          fL_roles_B32 N (fL_roles_B4 N n) v2 r3 M7
        else
          fL_roles_B37 N (fL_roles_B4 N n) v2 r3 0 M7
def fL_roles (N : Nat) (M : zMem) : zRES :=
  fL_roles_B4 N N 1 0 M
set_option maxRecDepth 20000 in
set_option maxHeartbeats 2000000 in
theorem gL_roles_B92 {l : Launch} {Z : zZ} {ad : Nat → Nat} {d : Nat} {X : zX} {cs : Nat × Nat} (hC : zC l Z zfull ad X RL cL_roles 5 (some .boolean) (d + 8)) (hE : zEnd Z zfull ad X false) (hN : zNoX X) (N : Nat) {again4 : Int32 → Int32 → zMem → zRES} (hag4 : ∀ v1 v2 M, zG l Z zfull ad X cs 4 [(0, .ref (ad 0)), (1, .int v1), (2, .int v2)] [] M (again4 v1 v2 M)) (v1 : Int32) (v2 : Int32) (M : zMem) : zG l Z zfull ad X cs 92 [(0, .ref (ad 0)), (1, .int v1), (2, .int v2)] [] M (fL_roles_B92 N again4 v1 v2 M) := by
  unfold fL_roles_B92
  refine zg_iinc hC 2 (v := v2 + 1) (L' := [(2, _), (0, _), (1, _)]) dL_roles_92 rfl (by rfl) (by decide) rfl ?_
  refine zg_goto hC (tgt := 4) dL_roles_95 (by decide) ?_
  exact zg_sub [1, 2, 0] rfl (hag4 v1 (v2 + 1) M)
set_option maxRecDepth 20000 in
set_option maxHeartbeats 2000000 in
theorem gL_roles_B85 {l : Launch} {Z : zZ} {ad : Nat → Nat} {d : Nat} {X : zX} {cs : Nat × Nat} (hC : zC l Z zfull ad X RL cL_roles 5 (some .boolean) (d + 8)) (hE : zEnd Z zfull ad X false) (hN : zNoX X) (N : Nat) {again4 : Int32 → Int32 → zMem → zRES} (hag4 : ∀ v1 v2 M, zG l Z zfull ad X cs 4 [(0, .ref (ad 0)), (1, .int v1), (2, .int v2)] [] M (again4 v1 v2 M)) {again41 : Int32 → Int32 → Int32 → Int32 → zMem → zRES} (hag41 : ∀ v1 v2 v3 v4 M, zG l Z zfull ad X cs 41 [(0, .ref (ad 0)), (1, .int v1), (2, .int v2), (3, .int v3), (4, .int v4)] [] M (again41 v1 v2 v3 v4 M)) (v2 : Int32) (v3 : Int32) (v4 : Int32) (s0 : Int32) (M : zMem) : zG l Z zfull ad X cs 85 [(0, .ref (ad 0)), (2, .int v2), (3, .int v3), (4, .int v4)] [.int s0] M (fL_roles_B85 N again4 again41 v2 v3 v4 s0 M) := by
  unfold fL_roles_B85
  refine zg_istore_n hC (L' := [(1, _), (0, _), (2, _), (3, _), (4, _)]) dL_roles_85 (by decide) rfl ?_
  refine zg_iinc hC 4 (v := v4 + 1) (L' := [(4, _), (1, _), (0, _), (2, _), (3, _)]) dL_roles_86 rfl (by rfl) (by decide) rfl ?_
  refine zg_goto hC (tgt := 41) dL_roles_89 (by decide) ?_
  exact zg_sub [2, 1, 3, 4, 0] rfl (hag41 s0 v2 v3 (v4 + 1) M)
set_option maxRecDepth 20000 in
set_option maxHeartbeats 2000000 in
theorem gL_roles_B80 {l : Launch} {Z : zZ} {ad : Nat → Nat} {d : Nat} {X : zX} {cs : Nat × Nat} (hC : zC l Z zfull ad X RL cL_roles 5 (some .boolean) (d + 8)) (hE : zEnd Z zfull ad X false) (hN : zNoX X) (N : Nat) {again4 : Int32 → Int32 → zMem → zRES} (hag4 : ∀ v1 v2 M, zG l Z zfull ad X cs 4 [(0, .ref (ad 0)), (1, .int v1), (2, .int v2)] [] M (again4 v1 v2 M)) {again41 : Int32 → Int32 → Int32 → Int32 → zMem → zRES} (hag41 : ∀ v1 v2 v3 v4 M, zG l Z zfull ad X cs 41 [(0, .ref (ad 0)), (1, .int v1), (2, .int v2), (3, .int v3), (4, .int v4)] [] M (again41 v1 v2 v3 v4 M)) (v2 : Int32) (v3 : Int32) (v4 : Int32) (M : zMem) : zG l Z zfull ad X cs 80 [(0, .ref (ad 0)), (2, .int v2), (3, .int v3), (4, .int v4)] [] M (fL_roles_B80 N again4 again41 v2 v3 v4 M) := by
  unfold fL_roles_B80
  refine zg_iconst hC (v := 1) dL_roles_80 (by decide) ?_
  refine zg_goto hC (tgt := 85) dL_roles_81 (by decide) ?_
  exact zg_sub [0, 1, 2, 3] rfl (gL_roles_B85 hC hE hN N hag4 hag41 v2 v3 v4 1 M)
set_option maxRecDepth 20000 in
set_option maxHeartbeats 2000000 in
theorem gL_roles_B41 {l : Launch} {Z : zZ} {ad : Nat → Nat} {d : Nat} {X : zX} {cs : Nat × Nat} (hC : zC l Z zfull ad X RL cL_roles 5 (some .boolean) (d + 8)) (hE : zEnd Z zfull ad X false) (hN : zNoX X) (N : Nat) {again4 : Int32 → Int32 → zMem → zRES} (hag4 : ∀ v1 v2 M, zG l Z zfull ad X cs 4 [(0, .ref (ad 0)), (1, .int v1), (2, .int v2)] [] M (again4 v1 v2 M)) : ∀ (n : Nat) (v1 : Int32) (v2 : Int32) (v3 : Int32) (v4 : Int32) (M : zMem), zG l Z zfull ad X cs 41 [(0, .ref (ad 0)), (1, .int v1), (2, .int v2), (3, .int v3), (4, .int v4)] [] M (fL_roles_B41 N again4 n v1 v2 v3 v4 M) := by
  intro n
  induction n with
  | zero =>
    intro v1 v2 v3 v4 M
    exact zg_none
  | succ n ih =>
  intro v1 v2 v3 v4 M
  rw [fL_roles_B41]
  refine zg_iload hC 4 dL_roles_41 rfl ?_
  refine zg_iload_n hC 2 dL_roles_43 rfl ?_
  refine zg_icmp_ge hC (tgt := 92) dL_roles_44 (by decide) (fun c9 => ?_) (fun c9 => ?_)
  · exact zg_sub [0, 1, 2] rfl (gL_roles_B92 hC hE hN N hag4 v1 v2 M)
  · refine zg_iload_n hC 1 dL_roles_47 rfl ?_
    refine zg_if_eq hC (tgt := 92) dL_roles_48 (by decide) (fun c10 => ?_) (fun c10 => ?_)
    · exact zg_sub [0, 1, 2] rfl (gL_roles_B92 hC hE hN N hag4 v1 v2 M)
    · refine zg_iload_n hC 3 dL_roles_51 rfl ?_
      refine zg_iconst hC (v := 2) dL_roles_52 (by decide) ?_
      refine zg_icmp_ne hC (tgt := 80) dL_roles_53 (by decide) (fun c11 => ?_) (fun c11 => ?_)
      · refine zg_aload_n hC 0 dL_roles_56 rfl ?_
        refine zg_iload hC 4 dL_roles_57 rfl ?_
        refine zg_callVi hC hE hN (k := 0) (As := [.int v4]) (S := []) rfl (tX7_role (zflag hC) d N v4 M) lkL_39 rfl dL_roles_59 zq0 zk0 rfl rfl (Nat.le_of_ble_eq_true rfl) (fun r12 M13 er12 => ?_)
        refine zg_iconst hC (v := 2) dL_roles_62 (by decide) ?_
        refine zg_icmp_ne hC (tgt := 80) dL_roles_63 (by decide) (fun c14 => ?_) (fun c14 => ?_)
        · refine zg_aload_n hC 0 dL_roles_66 rfl ?_
          refine zg_iload hC 4 dL_roles_67 rfl ?_
          refine zg_callVi hC hE hN (k := 0) (As := [.int v4]) (S := []) rfl (tX7_term (zflag hC) d N v4 M13) lkL_45 rfl dL_roles_69 zq0 zk0 rfl rfl (Nat.le_of_ble_eq_true rfl) (fun r15 M16 er15 => ?_)
          refine zg_aload_n hC 0 dL_roles_72 rfl ?_
          refine zg_iload_n hC 2 dL_roles_73 rfl ?_
          refine zg_callVi hC hE hN (k := 0) (As := [.int v2]) (S := [.int r15]) rfl (tX7_term (zflag hC) d N v2 M16) lkL_45 rfl dL_roles_74 zq0 zk0 rfl rfl (Nat.le_of_ble_eq_true rfl) (fun r17 M18 er17 => ?_)
          refine zg_icmp_eq hC (tgt := 84) dL_roles_77 (by decide) (fun c19 => ?_) (fun c19 => ?_)
          · refine zg_iconst hC (v := 0) dL_roles_84 (by decide) ?_
            exact zg_sub [0, 2, 3, 4] rfl (gL_roles_B85 hC hE hN N hag4 ih v2 v3 v4 0 M18)
          · exact zg_sub [0, 2, 3, 4] rfl (gL_roles_B80 hC hE hN N hag4 ih v2 v3 v4 M18)
        · exact zg_sub [0, 2, 3, 4] rfl (gL_roles_B80 hC hE hN N hag4 ih v2 v3 v4 M13)
      · exact zg_sub [0, 2, 3, 4] rfl (gL_roles_B80 hC hE hN N hag4 ih v2 v3 v4 M)
set_option maxRecDepth 20000 in
set_option maxHeartbeats 2000000 in
theorem gL_roles_B37 {l : Launch} {Z : zZ} {ad : Nat → Nat} {d : Nat} {X : zX} {cs : Nat × Nat} (hC : zC l Z zfull ad X RL cL_roles 5 (some .boolean) (d + 8)) (hE : zEnd Z zfull ad X false) (hN : zNoX X) (N : Nat) {again4 : Int32 → Int32 → zMem → zRES} (hag4 : ∀ v1 v2 M, zG l Z zfull ad X cs 4 [(0, .ref (ad 0)), (1, .int v1), (2, .int v2)] [] M (again4 v1 v2 M)) (v2 : Int32) (v3 : Int32) (s0 : Int32) (M : zMem) : zG l Z zfull ad X cs 37 [(0, .ref (ad 0)), (2, .int v2), (3, .int v3)] [.int s0] M (fL_roles_B37 N again4 v2 v3 s0 M) := by
  unfold fL_roles_B37
  refine zg_istore_n hC (L' := [(1, _), (0, _), (2, _), (3, _)]) dL_roles_37 (by decide) rfl ?_
  refine zg_iconst hC (v := 0) dL_roles_38 (by decide) ?_
  refine zg_istore hC (L' := [(4, _), (1, _), (0, _), (2, _), (3, _)]) dL_roles_39 (by decide) rfl ?_
  exact zg_sub [2, 1, 3, 4, 0] rfl (gL_roles_B41 hC hE hN N hag4 N s0 v2 v3 0 M)
set_option maxRecDepth 20000 in
set_option maxHeartbeats 2000000 in
theorem gL_roles_B32 {l : Launch} {Z : zZ} {ad : Nat → Nat} {d : Nat} {X : zX} {cs : Nat × Nat} (hC : zC l Z zfull ad X RL cL_roles 5 (some .boolean) (d + 8)) (hE : zEnd Z zfull ad X false) (hN : zNoX X) (N : Nat) {again4 : Int32 → Int32 → zMem → zRES} (hag4 : ∀ v1 v2 M, zG l Z zfull ad X cs 4 [(0, .ref (ad 0)), (1, .int v1), (2, .int v2)] [] M (again4 v1 v2 M)) (v2 : Int32) (v3 : Int32) (M : zMem) : zG l Z zfull ad X cs 32 [(0, .ref (ad 0)), (2, .int v2), (3, .int v3)] [] M (fL_roles_B32 N again4 v2 v3 M) := by
  unfold fL_roles_B32
  refine zg_iconst hC (v := 1) dL_roles_32 (by decide) ?_
  refine zg_goto hC (tgt := 37) dL_roles_33 (by decide) ?_
  exact zg_sub [0, 1, 2] rfl (gL_roles_B37 hC hE hN N hag4 v2 v3 1 M)
set_option maxRecDepth 20000 in
set_option maxHeartbeats 2000000 in
theorem gL_roles_B4 {l : Launch} {Z : zZ} {ad : Nat → Nat} {d : Nat} {X : zX} {cs : Nat × Nat} (hC : zC l Z zfull ad X RL cL_roles 5 (some .boolean) (d + 8)) (hE : zEnd Z zfull ad X false) (hN : zNoX X) (N : Nat) : ∀ (n : Nat) (v1 : Int32) (v2 : Int32) (M : zMem), zG l Z zfull ad X cs 4 [(0, .ref (ad 0)), (1, .int v1), (2, .int v2)] [] M (fL_roles_B4 N n v1 v2 M) := by
  intro n
  induction n with
  | zero =>
    intro v1 v2 M
    exact zg_none
  | succ n ih =>
  intro v1 v2 M
  rw [fL_roles_B4]
  refine zg_iload_n hC 2 dL_roles_4 rfl ?_
  refine zg_iconst hC (v := 5) dL_roles_5 (by decide) ?_
  refine zg_icmp_ge hC (tgt := 98) dL_roles_6 (by decide) (fun c1 => ?_) (fun c1 => ?_)
  · refine zg_iload_n hC 1 dL_roles_98 rfl ?_
    exact zg_retb hC hE dL_roles_99
  · refine zg_iload_n hC 1 dL_roles_9 rfl ?_
    refine zg_if_eq hC (tgt := 98) dL_roles_10 (by decide) (fun c2 => ?_) (fun c2 => ?_)
    · refine zg_iload_n hC 1 dL_roles_98 rfl ?_
      exact zg_retb hC hE dL_roles_99
    · refine zg_aload_n hC 0 dL_roles_13 rfl ?_
      refine zg_iload_n hC 2 dL_roles_14 rfl ?_
      refine zg_callVi hC hE hN (k := 0) (As := [.int v2]) (S := []) rfl (tX7_role (zflag hC) d N v2 M) lkL_39 rfl dL_roles_15 zq0 zk0 rfl rfl (Nat.le_of_ble_eq_true rfl) (fun r3 M4 er3 => ?_)
      refine zg_istore_n hC (L' := [(3, _), (0, _), (1, _), (2, _)]) dL_roles_18 (by decide) rfl ?_
      refine zg_iload_n hC 0 dL_roles_19 rfl ?_
      refine zg_if_eq hC (tgt := 32) dL_roles_20 (by decide) (fun c5 => ?_) (fun c5 => ?_)
      · exact zg_sub [1, 3, 0] rfl (gL_roles_B32 hC hE hN N ih v2 r3 M4)
      · refine zg_aload_n hC 1 dL_roles_23 rfl ?_
        refine zg_iload_n hC 3 dL_roles_24 rfl ?_
        refine zg_callVi hC hE hN (k := 0) (As := [.int v2]) (S := []) rfl (tX7_votedFor (zflag hC) d N v2 M4) lkL_42 rfl dL_roles_25 zq0 zk0 rfl rfl (Nat.le_of_ble_eq_true rfl) (fun r6 M7 er6 => ?_)
        refine zg_iload_n hC 3 dL_roles_28 rfl ?_
        refine zg_icmp_ne hC (tgt := 36) dL_roles_29 (by decide) (fun c8 => ?_) (fun c8 => ?_)
        · exact zg_sub [1, 3, 0] rfl (gL_roles_B32 hC hE hN N ih v2 r3 M7)
        · refine zg_iconst hC (v := 0) dL_roles_36 (by decide) ?_
          exact zg_sub [1, 3, 0] rfl (gL_roles_B37 hC hE hN N ih v2 r3 0 M7)
set_option maxRecDepth 20000 in
set_option maxHeartbeats 2000000 in
theorem gL_roles_B0 {l : Launch} {Z : zZ} {ad : Nat → Nat} {d : Nat} {X : zX} {cs : Nat × Nat} (hC : zC l Z zfull ad X RL cL_roles 5 (some .boolean) (d + 8)) (hE : zEnd Z zfull ad X false) (hN : zNoX X) (N : Nat) (M : zMem) : zG l Z zfull ad X cs 0 [(0, .ref (ad 0))] [] M (fL_roles N M) := by
  unfold fL_roles
  refine zg_iconst hC (v := 1) dL_roles_0 (by decide) ?_
  refine zg_istore_n hC (L' := [(1, _), (0, _)]) dL_roles_1 (by decide) rfl ?_
  refine zg_iconst hC (v := 0) dL_roles_2 (by decide) ?_
  refine zg_istore_n hC (L' := [(2, _), (1, _), (0, _)]) dL_roles_3 (by decide) rfl ?_
  exact zg_sub [2, 1, 0] rfl (gL_roles_B4 hC hE hN N N 1 0 M)
theorem tL_roles {l : Launch} {Z : zZ} {ad : Nat → Nat} (hl : l.stackTraces = false) (d : Nat) (N : Nat) (M : zMem) : zT l Z zfull ad (.code yL_roles cL_roles 5 (some .boolean)) yL_roles (d + 8) false zbn [.ref (ad 0)] M (fL_roles N M) :=
  zT_of hl (by decide +kernel) (Nat.le_of_ble_eq_true rfl) (fun X hC hE hN => gL_roles_B0 hC hE hN N M)

def fL_bits_B4 (N : Nat) : Nat → Int32 → Int32 → zMem → zRES
  | 0, _, _, _ => none
  | n + 1, v1, v2, M =>
  if v2 = 0 then
    some (.inl v1, M)
  else
    zv (v2 &&& (v2 - 1)) fun x2 =>
    fL_bits_B4 N n (v1 + 1) x2 M
def fL_bits (N : Nat) (p1 : Int32) (M : zMem) : zRES :=
  fL_bits_B4 N N 0 p1 M
set_option maxRecDepth 20000 in
set_option maxHeartbeats 2000000 in
theorem gL_bits_B4 {l : Launch} {Z : zZ} {ad : Nat → Nat} {d : Nat} {X : zX} {cs : Nat × Nat} (hC : zC l Z zfull ad X RL cL_bits 3 (some .int) (d + 0)) (hE : zEnd Z zfull ad X false) (hN : zNoX X) (N : Nat) : ∀ (n : Nat) (v1 : Int32) (v2 : Int32) (M : zMem), zG l Z zfull ad X cs 4 [(1, .int v1), (2, .int v2)] [] M (fL_bits_B4 N n v1 v2 M) := by
  intro n
  induction n with
  | zero =>
    intro v1 v2 M
    exact zg_none
  | succ n ih =>
  intro v1 v2 M
  rw [fL_bits_B4]
  refine zg_iload_n hC 1 dL_bits_4 rfl ?_
  refine zg_if_eq hC (tgt := 20) dL_bits_5 (by decide) (fun c1 => ?_) (fun c1 => ?_)
  · refine zg_iload_n hC 0 dL_bits_20 rfl ?_
    exact zg_ret hC hE dL_bits_21
  · refine zg_iinc hC 0 (v := v1 + 1) (L' := [(1, _), (2, _)]) dL_bits_8 rfl (by rfl) (by decide) rfl ?_
    refine zg_iload_n hC 1 dL_bits_11 rfl ?_
    refine zg_iload_n hC 1 dL_bits_12 rfl ?_
    refine zg_iconst hC (v := 1) dL_bits_13 (by decide) ?_
    refine zg_isub hC dL_bits_14 ?_
    refine zg_iand hC dL_bits_15 ?_
    refine zg_nm (fun x2 ex2 => ?_)
    refine zg_istore_n hC (L' := [(2, _), (1, _)]) dL_bits_16 (by decide) rfl ?_
    refine zg_goto hC (tgt := 4) dL_bits_17 (by decide) ?_
    exact zg_sub [1, 0] rfl (ih (v1 + 1) x2 M)
set_option maxRecDepth 20000 in
set_option maxHeartbeats 2000000 in
theorem gL_bits_B0 {l : Launch} {Z : zZ} {ad : Nat → Nat} {d : Nat} {X : zX} {cs : Nat × Nat} (hC : zC l Z zfull ad X RL cL_bits 3 (some .int) (d + 0)) (hE : zEnd Z zfull ad X false) (hN : zNoX X) (N : Nat) (p1 : Int32) (M : zMem) : zG l Z zfull ad X cs 0 [(0, .int p1)] [] M (fL_bits N p1 M) := by
  unfold fL_bits
  refine zg_iconst hC (v := 0) dL_bits_0 (by decide) ?_
  refine zg_istore_n hC (L' := [(1, _), (0, _)]) dL_bits_1 (by decide) rfl ?_
  refine zg_iload_n hC 1 dL_bits_2 rfl ?_
  refine zg_istore_n hC (L' := [(2, _), (1, _), (0, _)]) dL_bits_3 (by decide) rfl ?_
  exact zg_sub [1, 0] rfl (gL_bits_B4 hC hE hN N N 0 p1 M)
theorem tL_bits {l : Launch} {Z : zZ} {ad : Nat → Nat} (hl : l.stackTraces = false) (d : Nat) (N : Nat) (p1 : Int32) (M : zMem) : zT l Z zfull ad (.code yL_bits cL_bits 3 (some .int)) yL_bits (d + 0) false zbn [.int p1] M (fL_bits N p1 M) :=
  zT_of hl (by decide +kernel) (Nat.le_of_ble_eq_true rfl) (fun X hC hE hN => gL_bits_B0 hC hE hN N p1 M)

def fL_logs_B145 (N : Nat) (again11 : Int32 → Int32 → Int32 → Int32 → zMem → zRES) (v1 : Int32) (v3 : Int32) (v4 : Int32) (s0 : Int32) (M : zMem) : zRES :=
  again11 v1 s0 v3 (v4 + 1) M
def fL_logs_B144 (N : Nat) (again11 : Int32 → Int32 → Int32 → Int32 → zMem → zRES) (v1 : Int32) (v3 : Int32) (v4 : Int32) (M : zMem) : zRES :=
  fL_logs_B145 N again11 v1 v3 v4 0 M
def fL_logs_B140 (N : Nat) (again11 : Int32 → Int32 → Int32 → Int32 → zMem → zRES) (v1 : Int32) (v3 : Int32) (v4 : Int32) (M : zMem) : zRES :=
  fL_logs_B145 N again11 v1 v3 v4 1 M
def fL_logs_B119 (N : Nat) (again11 : Int32 → Int32 → Int32 → Int32 → zMem → zRES) (v1 : Int32) (v3 : Int32) (v4 : Int32) (v5 : Int32) (s0 : Int32) (s1 : Int32) (M : zMem) : zRES :=
  if s0 = s1 then
    zb (fX7_isHeld N v5 M) fun r32 M33 =>
    if r32 = 0 then
      fL_logs_B140 N again11 v1 v3 v4 M33
    else
      zb (fX7_wasHeld N v5 M33) fun r35 M36 =>
      if r35 = 0 then
        fL_logs_B144 N again11 v1 v3 v4 M36
      else
        fL_logs_B140 N again11 v1 v3 v4 M36
  else
    fL_logs_B144 N again11 v1 v3 v4 M
def fL_logs_B90 (N : Nat) (again11 : Int32 → Int32 → Int32 → Int32 → zMem → zRES) (v1 : Int32) (v3 : Int32) (v4 : Int32) (v5 : Int32) (s0 : Int32) (M : zMem) : zRES :=
  if s0 = 0 then
    fL_logs_B144 N again11 v1 v3 v4 M
  else
    zb (fX7_isHeld N v5 M) fun r24 M25 =>
    zb (fX7_holders N v5 M25) fun r26 M27 =>
    zb (fL_bits N r26 M27) fun r28 M29 =>
    if r28 ≤ 2 then
      fL_logs_B119 N again11 v1 v3 v4 v5 r24 0 M29
    else
      fL_logs_B119 N again11 v1 v3 v4 v5 r24 1 M29
def fL_logs_B89 (N : Nat) (again11 : Int32 → Int32 → Int32 → Int32 → zMem → zRES) (v1 : Int32) (v3 : Int32) (v4 : Int32) (v5 : Int32) (M : zMem) : zRES :=
  fL_logs_B90 N again11 v1 v3 v4 v5 0 M
def fL_logs_B71 (N : Nat) (again11 : Int32 → Int32 → Int32 → Int32 → zMem → zRES) (v1 : Int32) (v3 : Int32) (v4 : Int32) (v5 : Int32) (M : zMem) : zRES :=
  zb (fX7_termOf N v5 M) fun r18 M19 =>
  zb (fX7_term N v1 M19) fun r20 M21 =>
  if r20 < r18 then
    fL_logs_B89 N again11 v1 v3 v4 v5 M21
  else
    fL_logs_B90 N again11 v1 v3 v4 v5 1 M21
def fL_logs_B11 (N : Nat) : Nat → Int32 → Int32 → Int32 → Int32 → zMem → zRES
  | 0, _, _, _, _, _ => none
  | n + 1, v1, v2, v3, v4, M =>
  if v3 ≤ v4 then
    if zbool v2 = true then some (.inl v2, M) else none
  else
    if v2 = 0 then
      if zbool v2 = true then some (.inl v2, M) else none
    else
      zb (fX7_versionAt N v1 v4 M) fun r5 M6 =>
      zb (fX7_holders N r5 M6) fun r7 M8 =>
      if ((r7 >>> (v1 &&& 31)) &&& 1) = 1 then
        if v4 = 0 then
          fL_logs_B71 N (fL_logs_B11 N n) v1 v3 v4 r5 M8
        else
          zb (fX7_versionAt N v1 (v4 - 1) M8) fun r11 M12 =>
          zb (fX7_termOf N r11 M12) fun r13 M14 =>
          zb (fX7_termOf N r5 M14) fun r15 M16 =>
          if r15 < r13 then
            fL_logs_B89 N (fL_logs_B11 N n) v1 v3 v4 r5 M16
          else
            fL_logs_B71 N (fL_logs_B11 N n) v1 v3 v4 r5 M16
      else
        fL_logs_B89 N (fL_logs_B11 N n) v1 v3 v4 r5 M8
def fL_logs (N : Nat) (p2 : Int32) (M : zMem) : zRES :=
  zb (fX7_entries N p2 M) fun r1 M2 =>
  fL_logs_B11 N N p2 1 r1 0 M2
set_option maxRecDepth 20000 in
set_option maxHeartbeats 2000000 in
theorem gL_logs_B145 {l : Launch} {Z : zZ} {ad : Nat → Nat} {d : Nat} {X : zX} {cs : Nat × Nat} (hC : zC l Z zfull ad X RL cL_logs 6 (some .boolean) (d + 8)) (hE : zEnd Z zfull ad X false) (hN : zNoX X) (N : Nat) {again11 : Int32 → Int32 → Int32 → Int32 → zMem → zRES} (hag11 : ∀ v1 v2 v3 v4 M, zG l Z zfull ad X cs 11 [(0, .ref (ad 0)), (1, .int v1), (2, .int v2), (3, .int v3), (4, .int v4)] [] M (again11 v1 v2 v3 v4 M)) (v1 : Int32) (v3 : Int32) (v4 : Int32) (s0 : Int32) (M : zMem) : zG l Z zfull ad X cs 145 [(0, .ref (ad 0)), (1, .int v1), (3, .int v3), (4, .int v4)] [.int s0] M (fL_logs_B145 N again11 v1 v3 v4 s0 M) := by
  unfold fL_logs_B145
  refine zg_istore_n hC (L' := [(2, _), (0, _), (1, _), (3, _), (4, _)]) dL_logs_145 (by decide) rfl ?_
  refine zg_iinc hC 4 (v := v4 + 1) (L' := [(4, _), (2, _), (0, _), (1, _), (3, _)]) dL_logs_146 rfl (by rfl) (by decide) rfl ?_
  refine zg_goto hC (tgt := 11) dL_logs_149 (by decide) ?_
  exact zg_sub [2, 3, 1, 4, 0] rfl (hag11 v1 s0 v3 (v4 + 1) M)
set_option maxRecDepth 20000 in
set_option maxHeartbeats 2000000 in
theorem gL_logs_B144 {l : Launch} {Z : zZ} {ad : Nat → Nat} {d : Nat} {X : zX} {cs : Nat × Nat} (hC : zC l Z zfull ad X RL cL_logs 6 (some .boolean) (d + 8)) (hE : zEnd Z zfull ad X false) (hN : zNoX X) (N : Nat) {again11 : Int32 → Int32 → Int32 → Int32 → zMem → zRES} (hag11 : ∀ v1 v2 v3 v4 M, zG l Z zfull ad X cs 11 [(0, .ref (ad 0)), (1, .int v1), (2, .int v2), (3, .int v3), (4, .int v4)] [] M (again11 v1 v2 v3 v4 M)) (v1 : Int32) (v3 : Int32) (v4 : Int32) (M : zMem) : zG l Z zfull ad X cs 144 [(0, .ref (ad 0)), (1, .int v1), (3, .int v3), (4, .int v4)] [] M (fL_logs_B144 N again11 v1 v3 v4 M) := by
  unfold fL_logs_B144
  refine zg_iconst hC (v := 0) dL_logs_144 (by decide) ?_
  exact zg_sub [0, 1, 2, 3] rfl (gL_logs_B145 hC hE hN N hag11 v1 v3 v4 0 M)
set_option maxRecDepth 20000 in
set_option maxHeartbeats 2000000 in
theorem gL_logs_B140 {l : Launch} {Z : zZ} {ad : Nat → Nat} {d : Nat} {X : zX} {cs : Nat × Nat} (hC : zC l Z zfull ad X RL cL_logs 6 (some .boolean) (d + 8)) (hE : zEnd Z zfull ad X false) (hN : zNoX X) (N : Nat) {again11 : Int32 → Int32 → Int32 → Int32 → zMem → zRES} (hag11 : ∀ v1 v2 v3 v4 M, zG l Z zfull ad X cs 11 [(0, .ref (ad 0)), (1, .int v1), (2, .int v2), (3, .int v3), (4, .int v4)] [] M (again11 v1 v2 v3 v4 M)) (v1 : Int32) (v3 : Int32) (v4 : Int32) (M : zMem) : zG l Z zfull ad X cs 140 [(0, .ref (ad 0)), (1, .int v1), (3, .int v3), (4, .int v4)] [] M (fL_logs_B140 N again11 v1 v3 v4 M) := by
  unfold fL_logs_B140
  refine zg_iconst hC (v := 1) dL_logs_140 (by decide) ?_
  refine zg_goto hC (tgt := 145) dL_logs_141 (by decide) ?_
  exact zg_sub [0, 1, 2, 3] rfl (gL_logs_B145 hC hE hN N hag11 v1 v3 v4 1 M)
set_option maxRecDepth 20000 in
set_option maxHeartbeats 2000000 in
theorem gL_logs_B119 {l : Launch} {Z : zZ} {ad : Nat → Nat} {d : Nat} {X : zX} {cs : Nat × Nat} (hC : zC l Z zfull ad X RL cL_logs 6 (some .boolean) (d + 8)) (hE : zEnd Z zfull ad X false) (hN : zNoX X) (N : Nat) {again11 : Int32 → Int32 → Int32 → Int32 → zMem → zRES} (hag11 : ∀ v1 v2 v3 v4 M, zG l Z zfull ad X cs 11 [(0, .ref (ad 0)), (1, .int v1), (2, .int v2), (3, .int v3), (4, .int v4)] [] M (again11 v1 v2 v3 v4 M)) (v1 : Int32) (v3 : Int32) (v4 : Int32) (v5 : Int32) (s0 : Int32) (s1 : Int32) (M : zMem) : zG l Z zfull ad X cs 119 [(0, .ref (ad 0)), (1, .int v1), (3, .int v3), (4, .int v4), (5, .int v5)] [.int s1, .int s0] M (fL_logs_B119 N again11 v1 v3 v4 v5 s0 s1 M) := by
  unfold fL_logs_B119
  refine zg_icmp_ne hC (tgt := 144) dL_logs_119 (by decide) (fun c31 => ?_) (fun c31 => ?_)
  · refine zg_aload_n hC 0 dL_logs_122 rfl ?_
    refine zg_iload hC 4 dL_logs_123 rfl ?_
    refine zg_callVi hC hE hN (k := 0) (As := [.int v5]) (S := []) rfl (tX7_isHeld (zflag hC) d N v5 M) lkL_60 rfl dL_logs_125 zq0 zk0 rfl rfl (Nat.le_of_ble_eq_true rfl) (fun r32 M33 er32 => ?_)
    refine zg_if_eq hC (tgt := 140) dL_logs_128 (by decide) (fun c34 => ?_) (fun c34 => ?_)
    · exact zg_sub [0, 1, 2, 3] rfl (gL_logs_B140 hC hE hN N hag11 v1 v3 v4 M33)
    · refine zg_aload_n hC 0 dL_logs_131 rfl ?_
      refine zg_iload hC 4 dL_logs_132 rfl ?_
      refine zg_callVi hC hE hN (k := 0) (As := [.int v5]) (S := []) rfl (tX7_wasHeld (zflag hC) d N v5 M33) lkL_69 rfl dL_logs_134 zq0 zk0 rfl rfl (Nat.le_of_ble_eq_true rfl) (fun r35 M36 er35 => ?_)
      refine zg_if_eq hC (tgt := 144) dL_logs_137 (by decide) (fun c37 => ?_) (fun c37 => ?_)
      · exact zg_sub [0, 1, 2, 3] rfl (gL_logs_B144 hC hE hN N hag11 v1 v3 v4 M36)
      · exact zg_sub [0, 1, 2, 3] rfl (gL_logs_B140 hC hE hN N hag11 v1 v3 v4 M36)
  · exact zg_sub [0, 1, 2, 3] rfl (gL_logs_B144 hC hE hN N hag11 v1 v3 v4 M)
set_option maxRecDepth 20000 in
set_option maxHeartbeats 2000000 in
theorem gL_logs_B90 {l : Launch} {Z : zZ} {ad : Nat → Nat} {d : Nat} {X : zX} {cs : Nat × Nat} (hC : zC l Z zfull ad X RL cL_logs 6 (some .boolean) (d + 8)) (hE : zEnd Z zfull ad X false) (hN : zNoX X) (N : Nat) {again11 : Int32 → Int32 → Int32 → Int32 → zMem → zRES} (hag11 : ∀ v1 v2 v3 v4 M, zG l Z zfull ad X cs 11 [(0, .ref (ad 0)), (1, .int v1), (2, .int v2), (3, .int v3), (4, .int v4)] [] M (again11 v1 v2 v3 v4 M)) (v1 : Int32) (v3 : Int32) (v4 : Int32) (v5 : Int32) (s0 : Int32) (M : zMem) : zG l Z zfull ad X cs 90 [(0, .ref (ad 0)), (1, .int v1), (3, .int v3), (4, .int v4), (5, .int v5)] [.int s0] M (fL_logs_B90 N again11 v1 v3 v4 v5 s0 M) := by
  unfold fL_logs_B90
  refine zg_istore_n hC (L' := [(2, _), (0, _), (1, _), (3, _), (4, _), (5, _)]) dL_logs_90 (by decide) rfl ?_
  refine zg_iload_n hC 0 dL_logs_91 rfl ?_
  refine zg_if_eq hC (tgt := 144) dL_logs_92 (by decide) (fun c23 => ?_) (fun c23 => ?_)
  · exact zg_sub [1, 2, 3, 4] rfl (gL_logs_B144 hC hE hN N hag11 v1 v3 v4 M)
  · refine zg_aload_n hC 1 dL_logs_95 rfl ?_
    refine zg_iload hC 5 dL_logs_96 rfl ?_
    refine zg_callVi hC hE hN (k := 0) (As := [.int v5]) (S := []) rfl (tX7_isHeld (zflag hC) d N v5 M) lkL_60 rfl dL_logs_98 zq0 zk0 rfl rfl (Nat.le_of_ble_eq_true rfl) (fun r24 M25 er24 => ?_)
    refine zg_aload_n hC 1 dL_logs_101 rfl ?_
    refine zg_iload hC 5 dL_logs_102 rfl ?_
    refine zg_callVi hC hE hN (k := 0) (As := [.int v5]) (S := [.int r24]) rfl (tX7_holders (zflag hC) d N v5 M25) lkL_54 rfl dL_logs_104 zq0 zk0 rfl rfl (Nat.le_of_ble_eq_true rfl) (fun r26 M27 er26 => ?_)
    refine zg_callSi hC hE hN (As := [.int r26]) (S := [.int r24]) rfl (tL_bits (zflag hC) (d + 7) N r26 M27) lkL_64 rfl dL_logs_107 (Nat.le_of_ble_eq_true rfl) (fun r28 M29 er28 => ?_)
    refine zg_iconst hC (v := 2) dL_logs_110 (by decide) ?_
    refine zg_icmp_le hC (tgt := 118) dL_logs_111 (by decide) (fun c30 => ?_) (fun c30 => ?_)
    · refine zg_iconst hC (v := 0) dL_logs_118 (by decide) ?_
      exact zg_sub [1, 2, 3, 4, 5] rfl (gL_logs_B119 hC hE hN N hag11 v1 v3 v4 v5 r24 0 M29)
    · refine zg_iconst hC (v := 1) dL_logs_114 (by decide) ?_
      refine zg_goto hC (tgt := 119) dL_logs_115 (by decide) ?_
      exact zg_sub [1, 2, 3, 4, 5] rfl (gL_logs_B119 hC hE hN N hag11 v1 v3 v4 v5 r24 1 M29)
set_option maxRecDepth 20000 in
set_option maxHeartbeats 2000000 in
theorem gL_logs_B89 {l : Launch} {Z : zZ} {ad : Nat → Nat} {d : Nat} {X : zX} {cs : Nat × Nat} (hC : zC l Z zfull ad X RL cL_logs 6 (some .boolean) (d + 8)) (hE : zEnd Z zfull ad X false) (hN : zNoX X) (N : Nat) {again11 : Int32 → Int32 → Int32 → Int32 → zMem → zRES} (hag11 : ∀ v1 v2 v3 v4 M, zG l Z zfull ad X cs 11 [(0, .ref (ad 0)), (1, .int v1), (2, .int v2), (3, .int v3), (4, .int v4)] [] M (again11 v1 v2 v3 v4 M)) (v1 : Int32) (v3 : Int32) (v4 : Int32) (v5 : Int32) (M : zMem) : zG l Z zfull ad X cs 89 [(0, .ref (ad 0)), (1, .int v1), (3, .int v3), (4, .int v4), (5, .int v5)] [] M (fL_logs_B89 N again11 v1 v3 v4 v5 M) := by
  unfold fL_logs_B89
  refine zg_iconst hC (v := 0) dL_logs_89 (by decide) ?_
  exact zg_sub [0, 1, 2, 3, 4] rfl (gL_logs_B90 hC hE hN N hag11 v1 v3 v4 v5 0 M)
set_option maxRecDepth 20000 in
set_option maxHeartbeats 2000000 in
theorem gL_logs_B71 {l : Launch} {Z : zZ} {ad : Nat → Nat} {d : Nat} {X : zX} {cs : Nat × Nat} (hC : zC l Z zfull ad X RL cL_logs 6 (some .boolean) (d + 8)) (hE : zEnd Z zfull ad X false) (hN : zNoX X) (N : Nat) {again11 : Int32 → Int32 → Int32 → Int32 → zMem → zRES} (hag11 : ∀ v1 v2 v3 v4 M, zG l Z zfull ad X cs 11 [(0, .ref (ad 0)), (1, .int v1), (2, .int v2), (3, .int v3), (4, .int v4)] [] M (again11 v1 v2 v3 v4 M)) (v1 : Int32) (v3 : Int32) (v4 : Int32) (v5 : Int32) (M : zMem) : zG l Z zfull ad X cs 71 [(0, .ref (ad 0)), (1, .int v1), (3, .int v3), (4, .int v4), (5, .int v5)] [] M (fL_logs_B71 N again11 v1 v3 v4 v5 M) := by
  unfold fL_logs_B71
  refine zg_aload_n hC 0 dL_logs_71 rfl ?_
  refine zg_iload hC 4 dL_logs_72 rfl ?_
  refine zg_callVi hC hE hN (k := 0) (As := [.int v5]) (S := []) rfl (tX7_termOf (zflag hC) d N v5 M) lkL_57 rfl dL_logs_74 zq0 zk0 rfl rfl (Nat.le_of_ble_eq_true rfl) (fun r18 M19 er18 => ?_)
  refine zg_aload_n hC 0 dL_logs_77 rfl ?_
  refine zg_iload_n hC 1 dL_logs_78 rfl ?_
  refine zg_callVi hC hE hN (k := 0) (As := [.int v1]) (S := [.int r18]) rfl (tX7_term (zflag hC) d N v1 M19) lkL_45 rfl dL_logs_79 zq0 zk0 rfl rfl (Nat.le_of_ble_eq_true rfl) (fun r20 M21 er20 => ?_)
  refine zg_icmp_gt hC (tgt := 89) dL_logs_82 (by decide) (fun c22 => ?_) (fun c22 => ?_)
  · exact zg_sub [0, 1, 2, 3, 4] rfl (gL_logs_B89 hC hE hN N hag11 v1 v3 v4 v5 M21)
  · refine zg_iconst hC (v := 1) dL_logs_85 (by decide) ?_
    refine zg_goto hC (tgt := 90) dL_logs_86 (by decide) ?_
    exact zg_sub [0, 1, 2, 3, 4] rfl (gL_logs_B90 hC hE hN N hag11 v1 v3 v4 v5 1 M21)
set_option maxRecDepth 20000 in
set_option maxHeartbeats 2000000 in
theorem gL_logs_B11 {l : Launch} {Z : zZ} {ad : Nat → Nat} {d : Nat} {X : zX} {cs : Nat × Nat} (hC : zC l Z zfull ad X RL cL_logs 6 (some .boolean) (d + 8)) (hE : zEnd Z zfull ad X false) (hN : zNoX X) (N : Nat) : ∀ (n : Nat) (v1 : Int32) (v2 : Int32) (v3 : Int32) (v4 : Int32) (M : zMem), zG l Z zfull ad X cs 11 [(0, .ref (ad 0)), (1, .int v1), (2, .int v2), (3, .int v3), (4, .int v4)] [] M (fL_logs_B11 N n v1 v2 v3 v4 M) := by
  intro n
  induction n with
  | zero =>
    intro v1 v2 v3 v4 M
    exact zg_none
  | succ n ih =>
  intro v1 v2 v3 v4 M
  rw [fL_logs_B11]
  refine zg_iload hC 4 dL_logs_11 rfl ?_
  refine zg_iload_n hC 3 dL_logs_13 rfl ?_
  refine zg_icmp_ge hC (tgt := 152) dL_logs_14 (by decide) (fun c3 => ?_) (fun c3 => ?_)
  · refine zg_iload_n hC 2 dL_logs_152 rfl ?_
    exact zg_retb hC hE dL_logs_153
  · refine zg_iload_n hC 2 dL_logs_17 rfl ?_
    refine zg_if_eq hC (tgt := 152) dL_logs_18 (by decide) (fun c4 => ?_) (fun c4 => ?_)
    · refine zg_iload_n hC 2 dL_logs_152 rfl ?_
      exact zg_retb hC hE dL_logs_153
    · refine zg_aload_n hC 0 dL_logs_21 rfl ?_
      refine zg_iload_n hC 1 dL_logs_22 rfl ?_
      refine zg_iload hC 4 dL_logs_23 rfl ?_
      refine zg_callVi hC hE hN (k := 0) (As := [.int v1, .int v4]) (S := []) rfl (tX7_versionAt (zflag hC) d N v1 v4 M) lkL_51 rfl dL_logs_25 zq0 zk0 rfl rfl (Nat.le_of_ble_eq_true rfl) (fun r5 M6 er5 => ?_)
      refine zg_istore hC (L' := [(5, _), (0, _), (1, _), (2, _), (3, _), (4, _)]) dL_logs_28 (by decide) rfl ?_
      refine zg_aload_n hC 1 dL_logs_30 rfl ?_
      refine zg_iload hC 0 dL_logs_31 rfl ?_
      refine zg_callVi hC hE hN (k := 0) (As := [.int r5]) (S := []) rfl (tX7_holders (zflag hC) d N r5 M6) lkL_54 rfl dL_logs_33 zq0 zk0 rfl rfl (Nat.le_of_ble_eq_true rfl) (fun r7 M8 er7 => ?_)
      refine zg_iload_n hC 2 dL_logs_36 rfl ?_
      refine zg_ishr hC dL_logs_37 ?_
      refine zg_iconst hC (v := 1) dL_logs_38 (by decide) ?_
      refine zg_iand hC dL_logs_39 ?_
      refine zg_iconst hC (v := 1) dL_logs_40 (by decide) ?_
      refine zg_icmp_ne hC (tgt := 89) dL_logs_41 (by decide) (fun c9 => ?_) (fun c9 => ?_)
      · refine zg_iload hC 5 dL_logs_44 rfl ?_
        refine zg_if_eq hC (tgt := 71) dL_logs_46 (by decide) (fun c10 => ?_) (fun c10 => ?_)
        · exact zg_sub [1, 2, 4, 5, 0] rfl (gL_logs_B71 hC hE hN N ih v1 v3 v4 r5 M8)
        · refine zg_aload_n hC 1 dL_logs_49 rfl ?_
          refine zg_aload_n hC 1 dL_logs_50 rfl ?_
          refine zg_iload_n hC 2 dL_logs_51 rfl ?_
          refine zg_iload hC 5 dL_logs_52 rfl ?_
          refine zg_iconst hC (v := 1) dL_logs_54 (by decide) ?_
          refine zg_isub hC dL_logs_55 ?_
          refine zg_callVi hC hE hN (k := 0) (As := [.int v1, .int (v4 - 1)]) (S := [.ref (ad 0)]) rfl (tX7_versionAt (zflag hC) d N v1 (v4 - 1) M8) lkL_51 rfl dL_logs_56 zq0 zk0 rfl rfl (Nat.le_of_ble_eq_true rfl) (fun r11 M12 er11 => ?_)
          refine zg_callVi hC hE hN (k := 0) (As := [.int r11]) (S := []) rfl (tX7_termOf (zflag hC) d N r11 M12) lkL_57 rfl dL_logs_59 zq0 zk0 rfl rfl (Nat.le_of_ble_eq_true rfl) (fun r13 M14 er13 => ?_)
          refine zg_aload_n hC 1 dL_logs_62 rfl ?_
          refine zg_iload hC 0 dL_logs_63 rfl ?_
          refine zg_callVi hC hE hN (k := 0) (As := [.int r5]) (S := [.int r13]) rfl (tX7_termOf (zflag hC) d N r5 M14) lkL_57 rfl dL_logs_65 zq0 zk0 rfl rfl (Nat.le_of_ble_eq_true rfl) (fun r15 M16 er15 => ?_)
          refine zg_icmp_gt hC (tgt := 89) dL_logs_68 (by decide) (fun c17 => ?_) (fun c17 => ?_)
          · exact zg_sub [1, 2, 4, 5, 0] rfl (gL_logs_B89 hC hE hN N ih v1 v3 v4 r5 M16)
          · exact zg_sub [1, 2, 4, 5, 0] rfl (gL_logs_B71 hC hE hN N ih v1 v3 v4 r5 M16)
      · exact zg_sub [1, 2, 4, 5, 0] rfl (gL_logs_B89 hC hE hN N ih v1 v3 v4 r5 M8)
set_option maxRecDepth 20000 in
set_option maxHeartbeats 2000000 in
theorem gL_logs_B0 {l : Launch} {Z : zZ} {ad : Nat → Nat} {d : Nat} {X : zX} {cs : Nat × Nat} (hC : zC l Z zfull ad X RL cL_logs 6 (some .boolean) (d + 8)) (hE : zEnd Z zfull ad X false) (hN : zNoX X) (N : Nat) (p2 : Int32) (M : zMem) : zG l Z zfull ad X cs 0 [(0, .ref (ad 0)), (1, .int p2)] [] M (fL_logs N p2 M) := by
  unfold fL_logs
  refine zg_iconst hC (v := 1) dL_logs_0 (by decide) ?_
  refine zg_istore_n hC (L' := [(2, _), (0, _), (1, _)]) dL_logs_1 (by decide) rfl ?_
  refine zg_aload_n hC 1 dL_logs_2 rfl ?_
  refine zg_iload_n hC 2 dL_logs_3 rfl ?_
  refine zg_callVi hC hE hN (k := 0) (As := [.int p2]) (S := []) rfl (tX7_entries (zflag hC) d N p2 M) lkL_48 rfl dL_logs_4 zq0 zk0 rfl rfl (Nat.le_of_ble_eq_true rfl) (fun r1 M2 er1 => ?_)
  refine zg_istore_n hC (L' := [(3, _), (2, _), (0, _), (1, _)]) dL_logs_7 (by decide) rfl ?_
  refine zg_iconst hC (v := 0) dL_logs_8 (by decide) ?_
  refine zg_istore hC (L' := [(4, _), (3, _), (2, _), (0, _), (1, _)]) dL_logs_9 (by decide) rfl ?_
  exact zg_sub [3, 4, 2, 1, 0] rfl (gL_logs_B11 hC hE hN N N p2 1 r1 0 M2)
theorem tL_logs {l : Launch} {Z : zZ} {ad : Nat → Nat} (hl : l.stackTraces = false) (d : Nat) (N : Nat) (p2 : Int32) (M : zMem) : zT l Z zfull ad (.code yL_logs cL_logs 6 (some .boolean)) yL_logs (d + 8) false zbn [.ref (ad 0), .int p2] M (fL_logs N p2 M) :=
  zT_of hl (by decide +kernel) (Nat.le_of_ble_eq_true rfl) (fun X hC hE hN => gL_logs_B0 hC hE hN N p2 M)

def fL_batches_B114 (N : Nat) (v1 : Int32) (v3 : Int32) (M : zMem) : zRES :=
  if v3 = 0 then
    some (.inl 0, M)
  else
    zb (fX7_onSale N M) fun r27 M28 =>
    if r27 = v1 then
      some (.inl 1, M28)
    else
      some (.inl 0, M28)
def fL_batches_B106 (N : Nat) (again12 : Int32 → Int32 → Int32 → Int32 → zMem → zRES) (v2 : Int32) (v3 : Int32) (v4 : Int32) (s0 : Int32) (s1 : Int32) (M : zMem) : zRES :=
  zv (s0 + s1) fun x25 =>
  again12 x25 v2 v3 (v4 + 1) M
def fL_batches_B89 (N : Nat) (again12 : Int32 → Int32 → Int32 → Int32 → zMem → zRES) (v1 : Int32) (v2 : Int32) (v4 : Int32) (v5 : Int32) (s0 : Int32) (M : zMem) : zRES :=
  if v5 = 0 then
    zb (fX7_left N v4 M) fun r23 M24 =>
    fL_batches_B106 N again12 v2 s0 v4 v1 r23 M24
  else
    fL_batches_B106 N again12 v2 s0 v4 v1 0 M
def fL_batches_B88 (N : Nat) (again12 : Int32 → Int32 → Int32 → Int32 → zMem → zRES) (v1 : Int32) (v2 : Int32) (v4 : Int32) (v5 : Int32) (M : zMem) : zRES :=
  fL_batches_B89 N again12 v1 v2 v4 v5 0 M
def fL_batches_B52 (N : Nat) (again12 : Int32 → Int32 → Int32 → Int32 → zMem → zRES) (v1 : Int32) (v2 : Int32) (v4 : Int32) (v5 : Int32) (s0 : Int32) (s1 : Int32) (M : zMem) : zRES :=
  if s0 = s1 then
    zb (fX7_left N v4 M) fun r13 M14 =>
    if r13 < 0 then
      fL_batches_B88 N again12 v1 v2 v4 v5 M14
    else
      zb (fX7_left N v4 M14) fun r16 M17 =>
      if (40 : Int32) < r16 then
        fL_batches_B88 N again12 v1 v2 v4 v5 M17
      else
        zb (fX7_lotsOf N v4 M17) fun r19 M20 =>
        if r19 ≤ 0 then
          fL_batches_B88 N again12 v1 v2 v4 v5 M20
        else
          fL_batches_B89 N again12 v1 v2 v4 v5 1 M20
  else
    fL_batches_B88 N again12 v1 v2 v4 v5 M
def fL_batches_B12 (N : Nat) : Nat → Int32 → Int32 → Int32 → Int32 → zMem → zRES
  | 0, _, _, _, _, _ => none
  | n + 1, v1, v2, v3, v4, M =>
  if v2 ≤ v4 then
    fL_batches_B114 N v1 v3 M
  else
    if v3 = 0 then
      fL_batches_B114 N v1 v3 M
    else
      zb (fX7_barred N v4 M) fun r5 M6 =>
      zb (fX7_versionOf N v4 M6) fun r7 M8 =>
      zb (fX7_isHeld N r7 M8) fun r9 M10 =>
      if r9 = 0 then
        fL_batches_B52 N (fL_batches_B12 N n) v1 v2 v4 r5 (r5 &&& 1) 1 M10
      else
        fL_batches_B52 N (fL_batches_B12 N n) v1 v2 v4 r5 (r5 &&& 1) 0 M10
def fL_batches (N : Nat) (M : zMem) : zRES :=
  zb (fX7_batches N M) fun r1 M2 =>
  fL_batches_B12 N N 0 r1 1 0 M2
set_option maxRecDepth 20000 in
set_option maxHeartbeats 2000000 in
theorem gL_batches_B114 {l : Launch} {Z : zZ} {ad : Nat → Nat} {d : Nat} {X : zX} {cs : Nat × Nat} (hC : zC l Z zfull ad X RL cL_batches 6 (some .boolean) (d + 8)) (hE : zEnd Z zfull ad X false) (hN : zNoX X) (N : Nat) (v1 : Int32) (v3 : Int32) (M : zMem) : zG l Z zfull ad X cs 114 [(0, .ref (ad 0)), (1, .int v1), (3, .int v3)] [] M (fL_batches_B114 N v1 v3 M) := by
  unfold fL_batches_B114
  refine zg_iload_n hC 2 dL_batches_114 rfl ?_
  refine zg_if_eq hC (tgt := 130) dL_batches_115 (by decide) (fun c26 => ?_) (fun c26 => ?_)
  · refine zg_iconst hC (v := 0) dL_batches_130 (by decide) ?_
    exact zg_retz hC hE (by decide) dL_batches_131
  · refine zg_aload_n hC 0 dL_batches_118 rfl ?_
    refine zg_callVi hC hE hN (k := 0) (As := []) (S := []) rfl (tX7_onSale (zflag hC) (d + 5) N M) lkL_88 rfl dL_batches_119 zq0 zk0 rfl rfl (Nat.le_of_ble_eq_true rfl) (fun r27 M28 er27 => ?_)
    refine zg_iload_n hC 1 dL_batches_122 rfl ?_
    refine zg_icmp_ne hC (tgt := 130) dL_batches_123 (by decide) (fun c29 => ?_) (fun c29 => ?_)
    · refine zg_iconst hC (v := 1) dL_batches_126 (by decide) ?_
      refine zg_goto hC (tgt := 131) dL_batches_127 (by decide) ?_
      exact zg_retz hC hE (by decide) dL_batches_131
    · refine zg_iconst hC (v := 0) dL_batches_130 (by decide) ?_
      exact zg_retz hC hE (by decide) dL_batches_131
set_option maxRecDepth 20000 in
set_option maxHeartbeats 2000000 in
theorem gL_batches_B106 {l : Launch} {Z : zZ} {ad : Nat → Nat} {d : Nat} {X : zX} {cs : Nat × Nat} (hC : zC l Z zfull ad X RL cL_batches 6 (some .boolean) (d + 8)) (hE : zEnd Z zfull ad X false) (hN : zNoX X) (N : Nat) {again12 : Int32 → Int32 → Int32 → Int32 → zMem → zRES} (hag12 : ∀ v1 v2 v3 v4 M, zG l Z zfull ad X cs 12 [(0, .ref (ad 0)), (1, .int v1), (2, .int v2), (3, .int v3), (4, .int v4)] [] M (again12 v1 v2 v3 v4 M)) (v2 : Int32) (v3 : Int32) (v4 : Int32) (s0 : Int32) (s1 : Int32) (M : zMem) : zG l Z zfull ad X cs 106 [(0, .ref (ad 0)), (2, .int v2), (3, .int v3), (4, .int v4)] [.int s1, .int s0] M (fL_batches_B106 N again12 v2 v3 v4 s0 s1 M) := by
  unfold fL_batches_B106
  refine zg_iadd hC dL_batches_106 ?_
  refine zg_nm (fun x25 ex25 => ?_)
  refine zg_istore_n hC (L' := [(1, _), (0, _), (2, _), (3, _), (4, _)]) dL_batches_107 (by decide) rfl ?_
  refine zg_iinc hC 4 (v := v4 + 1) (L' := [(4, _), (1, _), (0, _), (2, _), (3, _)]) dL_batches_108 rfl (by rfl) (by decide) rfl ?_
  refine zg_goto hC (tgt := 12) dL_batches_111 (by decide) ?_
  exact zg_sub [2, 1, 3, 4, 0] rfl (hag12 x25 v2 v3 (v4 + 1) M)
set_option maxRecDepth 20000 in
set_option maxHeartbeats 2000000 in
theorem gL_batches_B89 {l : Launch} {Z : zZ} {ad : Nat → Nat} {d : Nat} {X : zX} {cs : Nat × Nat} (hC : zC l Z zfull ad X RL cL_batches 6 (some .boolean) (d + 8)) (hE : zEnd Z zfull ad X false) (hN : zNoX X) (N : Nat) {again12 : Int32 → Int32 → Int32 → Int32 → zMem → zRES} (hag12 : ∀ v1 v2 v3 v4 M, zG l Z zfull ad X cs 12 [(0, .ref (ad 0)), (1, .int v1), (2, .int v2), (3, .int v3), (4, .int v4)] [] M (again12 v1 v2 v3 v4 M)) (v1 : Int32) (v2 : Int32) (v4 : Int32) (v5 : Int32) (s0 : Int32) (M : zMem) : zG l Z zfull ad X cs 89 [(0, .ref (ad 0)), (1, .int v1), (2, .int v2), (4, .int v4), (5, .int v5)] [.int s0] M (fL_batches_B89 N again12 v1 v2 v4 v5 s0 M) := by
  unfold fL_batches_B89
  refine zg_istore_n hC (L' := [(3, _), (0, _), (1, _), (2, _), (4, _), (5, _)]) dL_batches_89 (by decide) rfl ?_
  refine zg_iload_n hC 2 dL_batches_90 rfl ?_
  refine zg_iload hC 5 dL_batches_91 rfl ?_
  refine zg_if_ne hC (tgt := 105) dL_batches_93 (by decide) (fun c22 => ?_) (fun c22 => ?_)
  · refine zg_aload_n hC 1 dL_batches_96 rfl ?_
    refine zg_iload hC 4 dL_batches_97 rfl ?_
    refine zg_callVi hC hE hN (k := 0) (As := [.int v4]) (S := [.int v1]) rfl (tX7_left (zflag hC) d N v4 M) lkL_82 rfl dL_batches_99 zq0 zk0 rfl rfl (Nat.le_of_ble_eq_true rfl) (fun r23 M24 er23 => ?_)
    refine zg_goto hC (tgt := 106) dL_batches_102 (by decide) ?_
    exact zg_sub [1, 3, 0, 4] rfl (gL_batches_B106 hC hE hN N hag12 v2 s0 v4 v1 r23 M24)
  · refine zg_iconst hC (v := 0) dL_batches_105 (by decide) ?_
    exact zg_sub [1, 3, 0, 4] rfl (gL_batches_B106 hC hE hN N hag12 v2 s0 v4 v1 0 M)
set_option maxRecDepth 20000 in
set_option maxHeartbeats 2000000 in
theorem gL_batches_B88 {l : Launch} {Z : zZ} {ad : Nat → Nat} {d : Nat} {X : zX} {cs : Nat × Nat} (hC : zC l Z zfull ad X RL cL_batches 6 (some .boolean) (d + 8)) (hE : zEnd Z zfull ad X false) (hN : zNoX X) (N : Nat) {again12 : Int32 → Int32 → Int32 → Int32 → zMem → zRES} (hag12 : ∀ v1 v2 v3 v4 M, zG l Z zfull ad X cs 12 [(0, .ref (ad 0)), (1, .int v1), (2, .int v2), (3, .int v3), (4, .int v4)] [] M (again12 v1 v2 v3 v4 M)) (v1 : Int32) (v2 : Int32) (v4 : Int32) (v5 : Int32) (M : zMem) : zG l Z zfull ad X cs 88 [(0, .ref (ad 0)), (1, .int v1), (2, .int v2), (4, .int v4), (5, .int v5)] [] M (fL_batches_B88 N again12 v1 v2 v4 v5 M) := by
  unfold fL_batches_B88
  refine zg_iconst hC (v := 0) dL_batches_88 (by decide) ?_
  exact zg_sub [0, 1, 2, 3, 4] rfl (gL_batches_B89 hC hE hN N hag12 v1 v2 v4 v5 0 M)
set_option maxRecDepth 20000 in
set_option maxHeartbeats 2000000 in
theorem gL_batches_B52 {l : Launch} {Z : zZ} {ad : Nat → Nat} {d : Nat} {X : zX} {cs : Nat × Nat} (hC : zC l Z zfull ad X RL cL_batches 6 (some .boolean) (d + 8)) (hE : zEnd Z zfull ad X false) (hN : zNoX X) (N : Nat) {again12 : Int32 → Int32 → Int32 → Int32 → zMem → zRES} (hag12 : ∀ v1 v2 v3 v4 M, zG l Z zfull ad X cs 12 [(0, .ref (ad 0)), (1, .int v1), (2, .int v2), (3, .int v3), (4, .int v4)] [] M (again12 v1 v2 v3 v4 M)) (v1 : Int32) (v2 : Int32) (v4 : Int32) (v5 : Int32) (s0 : Int32) (s1 : Int32) (M : zMem) : zG l Z zfull ad X cs 52 [(0, .ref (ad 0)), (1, .int v1), (2, .int v2), (4, .int v4), (5, .int v5)] [.int s1, .int s0] M (fL_batches_B52 N again12 v1 v2 v4 v5 s0 s1 M) := by
  unfold fL_batches_B52
  refine zg_icmp_ne hC (tgt := 88) dL_batches_52 (by decide) (fun c12 => ?_) (fun c12 => ?_)
  · refine zg_aload_n hC 0 dL_batches_55 rfl ?_
    refine zg_iload hC 3 dL_batches_56 rfl ?_
    refine zg_callVi hC hE hN (k := 0) (As := [.int v4]) (S := []) rfl (tX7_left (zflag hC) d N v4 M) lkL_82 rfl dL_batches_58 zq0 zk0 rfl rfl (Nat.le_of_ble_eq_true rfl) (fun r13 M14 er13 => ?_)
    refine zg_if_lt hC (tgt := 88) dL_batches_61 (by decide) (fun c15 => ?_) (fun c15 => ?_)
    · exact zg_sub [0, 1, 2, 3, 4] rfl (gL_batches_B88 hC hE hN N hag12 v1 v2 v4 v5 M14)
    · refine zg_aload_n hC 0 dL_batches_64 rfl ?_
      refine zg_iload hC 3 dL_batches_65 rfl ?_
      refine zg_callVi hC hE hN (k := 0) (As := [.int v4]) (S := []) rfl (tX7_left (zflag hC) d N v4 M14) lkL_82 rfl dL_batches_67 zq0 zk0 rfl rfl (Nat.le_of_ble_eq_true rfl) (fun r16 M17 er16 => ?_)
      refine zg_bipush hC (v := 40) dL_batches_70 (by decide) ?_
      refine zg_icmp_gt hC (tgt := 88) dL_batches_72 (by decide) (fun c18 => ?_) (fun c18 => ?_)
      · exact zg_sub [0, 1, 2, 3, 4] rfl (gL_batches_B88 hC hE hN N hag12 v1 v2 v4 v5 M17)
      · refine zg_aload_n hC 0 dL_batches_75 rfl ?_
        refine zg_iload hC 3 dL_batches_76 rfl ?_
        refine zg_callVi hC hE hN (k := 0) (As := [.int v4]) (S := []) rfl (tX7_lotsOf (zflag hC) d N v4 M17) lkL_85 rfl dL_batches_78 zq0 zk0 rfl rfl (Nat.le_of_ble_eq_true rfl) (fun r19 M20 er19 => ?_)
        refine zg_if_le hC (tgt := 88) dL_batches_81 (by decide) (fun c21 => ?_) (fun c21 => ?_)
        · exact zg_sub [0, 1, 2, 3, 4] rfl (gL_batches_B88 hC hE hN N hag12 v1 v2 v4 v5 M20)
        · refine zg_iconst hC (v := 1) dL_batches_84 (by decide) ?_
          refine zg_goto hC (tgt := 89) dL_batches_85 (by decide) ?_
          exact zg_sub [0, 1, 2, 3, 4] rfl (gL_batches_B89 hC hE hN N hag12 v1 v2 v4 v5 1 M20)
  · exact zg_sub [0, 1, 2, 3, 4] rfl (gL_batches_B88 hC hE hN N hag12 v1 v2 v4 v5 M)
set_option maxRecDepth 20000 in
set_option maxHeartbeats 2000000 in
theorem gL_batches_B12 {l : Launch} {Z : zZ} {ad : Nat → Nat} {d : Nat} {X : zX} {cs : Nat × Nat} (hC : zC l Z zfull ad X RL cL_batches 6 (some .boolean) (d + 8)) (hE : zEnd Z zfull ad X false) (hN : zNoX X) (N : Nat) : ∀ (n : Nat) (v1 : Int32) (v2 : Int32) (v3 : Int32) (v4 : Int32) (M : zMem), zG l Z zfull ad X cs 12 [(0, .ref (ad 0)), (1, .int v1), (2, .int v2), (3, .int v3), (4, .int v4)] [] M (fL_batches_B12 N n v1 v2 v3 v4 M) := by
  intro n
  induction n with
  | zero =>
    intro v1 v2 v3 v4 M
    exact zg_none
  | succ n ih =>
  intro v1 v2 v3 v4 M
  rw [fL_batches_B12]
  refine zg_iload hC 4 dL_batches_12 rfl ?_
  refine zg_iload_n hC 2 dL_batches_14 rfl ?_
  refine zg_icmp_ge hC (tgt := 114) dL_batches_15 (by decide) (fun c3 => ?_) (fun c3 => ?_)
  · exact zg_sub [0, 1, 3] rfl (gL_batches_B114 hC hE hN N v1 v3 M)
  · refine zg_iload_n hC 3 dL_batches_18 rfl ?_
    refine zg_if_eq hC (tgt := 114) dL_batches_19 (by decide) (fun c4 => ?_) (fun c4 => ?_)
    · exact zg_sub [0, 1, 3] rfl (gL_batches_B114 hC hE hN N v1 v3 M)
    · refine zg_aload_n hC 0 dL_batches_22 rfl ?_
      refine zg_iload hC 4 dL_batches_23 rfl ?_
      refine zg_callVi hC hE hN (k := 0) (As := [.int v4]) (S := []) rfl (tX7_barred (zflag hC) d N v4 M) lkL_76 rfl dL_batches_25 zq0 zk0 rfl rfl (Nat.le_of_ble_eq_true rfl) (fun r5 M6 er5 => ?_)
      refine zg_istore hC (L' := [(5, _), (0, _), (1, _), (2, _), (3, _), (4, _)]) dL_batches_28 (by decide) rfl ?_
      refine zg_iload hC 0 dL_batches_30 rfl ?_
      refine zg_iconst hC (v := 1) dL_batches_32 (by decide) ?_
      refine zg_iand hC dL_batches_33 ?_
      refine zg_aload_n hC 1 dL_batches_34 rfl ?_
      refine zg_aload_n hC 1 dL_batches_35 rfl ?_
      refine zg_iload hC 5 dL_batches_36 rfl ?_
      refine zg_callVi hC hE hN (k := 0) (As := [.int v4]) (S := [.ref (ad 0), .int (r5 &&& 1)]) rfl (tX7_versionOf (zflag hC) d N v4 M6) lkL_79 rfl dL_batches_38 zq0 zk0 rfl rfl (Nat.le_of_ble_eq_true rfl) (fun r7 M8 er7 => ?_)
      refine zg_callVi hC hE hN (k := 0) (As := [.int r7]) (S := [.int (r5 &&& 1)]) rfl (tX7_isHeld (zflag hC) d N r7 M8) lkL_60 rfl dL_batches_41 zq0 zk0 rfl rfl (Nat.le_of_ble_eq_true rfl) (fun r9 M10 er9 => ?_)
      refine zg_if_eq hC (tgt := 51) dL_batches_44 (by decide) (fun c11 => ?_) (fun c11 => ?_)
      · refine zg_iconst hC (v := 1) dL_batches_51 (by decide) ?_
        exact zg_sub [1, 2, 3, 5, 0] rfl (gL_batches_B52 hC hE hN N ih v1 v2 v4 r5 (r5 &&& 1) 1 M10)
      · refine zg_iconst hC (v := 0) dL_batches_47 (by decide) ?_
        refine zg_goto hC (tgt := 52) dL_batches_48 (by decide) ?_
        exact zg_sub [1, 2, 3, 5, 0] rfl (gL_batches_B52 hC hE hN N ih v1 v2 v4 r5 (r5 &&& 1) 0 M10)
set_option maxRecDepth 20000 in
set_option maxHeartbeats 2000000 in
theorem gL_batches_B0 {l : Launch} {Z : zZ} {ad : Nat → Nat} {d : Nat} {X : zX} {cs : Nat × Nat} (hC : zC l Z zfull ad X RL cL_batches 6 (some .boolean) (d + 8)) (hE : zEnd Z zfull ad X false) (hN : zNoX X) (N : Nat) (M : zMem) : zG l Z zfull ad X cs 0 [(0, .ref (ad 0))] [] M (fL_batches N M) := by
  unfold fL_batches
  refine zg_iconst hC (v := 0) dL_batches_0 (by decide) ?_
  refine zg_istore_n hC (L' := [(1, _), (0, _)]) dL_batches_1 (by decide) rfl ?_
  refine zg_aload_n hC 1 dL_batches_2 rfl ?_
  refine zg_callVi hC hE hN (k := 0) (As := []) (S := []) rfl (tX7_batches (zflag hC) (d + 7) N M) lkL_72 rfl dL_batches_3 zq0 zk0 rfl rfl (Nat.le_of_ble_eq_true rfl) (fun r1 M2 er1 => ?_)
  refine zg_istore_n hC (L' := [(2, _), (1, _), (0, _)]) dL_batches_6 (by decide) rfl ?_
  refine zg_iconst hC (v := 1) dL_batches_7 (by decide) ?_
  refine zg_istore_n hC (L' := [(3, _), (2, _), (1, _), (0, _)]) dL_batches_8 (by decide) rfl ?_
  refine zg_iconst hC (v := 0) dL_batches_9 (by decide) ?_
  refine zg_istore hC (L' := [(4, _), (3, _), (2, _), (1, _), (0, _)]) dL_batches_10 (by decide) rfl ?_
  exact zg_sub [4, 3, 2, 1, 0] rfl (gL_batches_B12 hC hE hN N N 0 r1 1 0 M2)
theorem tL_batches {l : Launch} {Z : zZ} {ad : Nat → Nat} (hl : l.stackTraces = false) (d : Nat) (N : Nat) (M : zMem) : zT l Z zfull ad (.code yL_batches cL_batches 6 (some .boolean)) yL_batches (d + 8) false zbn [.ref (ad 0)] M (fL_batches N M) :=
  zT_of hl (by decide +kernel) (Nat.le_of_ble_eq_true rfl) (fun X hC hE hN => gL_batches_B0 hC hE hN N M)
