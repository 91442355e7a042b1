/-! p46: each turn of the law -/
theorem v_lw (N : Nat) (v : Int32) {m : Nat} {x : Int32} (hx : x = nI m) (h0 : 0 < m) (hm : m < 2 ^ 31) (M : zMem) : fL_low N v x M = some (.inl (nI (lo v m)), M) := by
  subst hx
  exact v_low N v h0 hm M
theorem q_1p (a : Nat) : (1 : Int32) + nI a = nI (1 + a) := nI_add 1 a
theorem q_n3 {v : Nat} (h : v < 2 ^ 31) : ¬ nI v = -3 := fun q => by
  have e : (nI v).toInt = (-3 : Int32).toInt := by rw [q]
  rw [nI_toInt h] at e
  have e2 : (-3 : Int32).toInt = -3 := by decide
  omega
theorem badf_same {B B' : VB} {i : Nat} (h1 : B'.cond = B.cond) (h2 : B'.blot = B.blot) : ∀ k, badf B' i k = badf B i k := by
  intro k
  induction k with
  | zero => rfl
  | succ k ih => unfold badf; rw [ih, h1, h2]
theorem bar_same {A : VA} {B B' : VB} {i : Nat} (h1 : B'.cond = B.cond) (h2 : B'.blot = B.blot) (h3 : B'.bver = B.bver) (h4 : B'.L = B.L) : bar A B' i = bar A B i := by
  unfold bar
  rw [badf_same h1 h2, h3, h4]
theorem tra_some {B : VB} {l : Nat} : ∀ k i j, j < trc B l k i → ∃ m, tra B l k i j = some m ∧ i ≤ m ∧ m < i + k ∧ (B.blot m).testBit l = true := by
  intro k
  induction k with
  | zero => intro i j h; exact absurd h (Nat.not_lt_zero _)
  | succ k ih =>
    intro i j h
    rw [trc] at h
    rw [tra]
    by_cases g : (B.blot i).testBit l = true
    · rw [if_pos g]
      rw [g] at h
      have h' : j < 1 + trc B l k (i + 1) := h
      by_cases g2 : j = 0
      · rw [if_pos g2]; exact ⟨i, rfl, Nat.le_refl _, by omega, g⟩
      · rw [if_neg g2]
        obtain ⟨m, q1, q2, q3, q4⟩ := ih (i + 1) (j - 1) (by omega)
        exact ⟨m, q1, by omega, by omega, q4⟩
    · rw [if_neg g]
      rw [Bool.not_eq_true] at g
      rw [g] at h
      have h' : j < 0 + trc B l k (i + 1) := h
      obtain ⟨m, q1, q2, q3, q4⟩ := ih (i + 1) j (by omega)
      exact ⟨m, q1, by omega, by omega, q4⟩
theorem trc_le {B : VB} {l : Nat} : ∀ k i, trc B l k i ≤ k := by
  intro k
  induction k with
  | zero => intro i; exact Nat.le_refl _
  | succ k ih => intro i; have := ih (i + 1); have := Bool.toNat_le ((B.blot i).testBit l); simp only [trc]; omega
/-- a turn goes on to its checks, with a state as it must be -/
def Go (Ls : Nat) (xs : Nat → Int32) (N : Nat) (again : Int32 → Int32 → Int32 → Int32 → Int32 → zMem → zRES) (v5 : Int32) (c k s b o : Nat) (r : zRES) : Prop := ∃ (c' s' : Nat) (A' : VA) (B' : VB) (M' : zMem), KK c' A' B' M' ∧ c' ≤ c + 3 ∧ s' ≤ s + 1 ∧ TB (k + 1) A' ∧ r = fL_law_B1019 Ls xs N again (nI B'.L) (nI s') 1 v5 (nI k) (nI b) (nI o) M'
section T46
variable {Ls : Nat} {xs : Nat → Int32} {again : Int32 → Int32 → Int32 → Int32 → Int32 → zMem → zRES} {v5 : Int32} {c k s b o : Nat} {A : VA} {B : VB} {M : zMem}
theorem g_stand (N : Nat) (hc : c + 3 < 512) (h : KK c A B M) (hT : TB k A) (hk : k < 100) (hb : b < 5) : Go Ls xs N again v5 c k s b o (fL_law_B133 Ls xs N again (nI B.L) (nI s) v5 (nI k) (nI b) (nI o) M) := by
  have hb1 := hT b hb
  obtain ⟨M', e, h'⟩ := v_stand N (by omega) h hb (by omega)
  refine ⟨c + 1, s + 1, aStand b A, B, M', h', by omega, by omega, hT.stand hb, ?_⟩
  unfold fL_law_B133 fL_law_B180
  rw [v_term N h hb, q_zbl, e, q_zbl, nI_1, if_pos rfl, v_role N h' hb, q_zbl, show (aStand b A).role b = 1 from fu_s, if_pos (by rfl), v_voted N h' hb, q_zbl, show (aStand b A).vote b = b + 1 from fu_s, nI_pred, if_pos rfl, nI_1]
theorem g_vote (N : Nat) (hc : c + 3 < 512) (h : KK c A B M) (hT : TB k A) (hb : b < 5) (ho : o < 5) (hbo : b ≠ o) : Go Ls xs N again v5 c k s b o (fL_law_B195 Ls xs N again (nI B.L) (nI s) v5 (nI k) (nI b) (nI o) M) := by
  unfold fL_law_B195
  rw [v_role N h ho, q_zbl]
  rcases w_vote N (by omega) h hb ho hbo with ⟨M', e, hr, h'⟩ | e
  · refine ⟨c + 1, s, (aVote b o A).2, B, M', h', by omega, by omega, (hT.vote hb ho).up (Nat.le_succ k), ?_⟩
    rw [e, q_zbl]
    cases hg : (aVote b o A).1
    · rw [if_pos (by rfl)]; rfl
    · obtain ⟨y1, y2⟩ := vote_yes hbo hg
      rw [if_neg (by decide), v_voted N h' hb, q_zbl, y1, nI_pred, if_pos rfl, v_term N h' hb, q_zbl, v_term N h' ho, q_zbl, y2, if_pos rfl, hr, if_pos (by rfl)]; rfl
  · refine ⟨c, s, A, B, M, h, by omega, by omega, hT.up (Nat.le_succ k), ?_⟩
    rw [e, q_zbl, if_pos rfl]; rfl
theorem g_propose (N : Nat) (hc : c + 3 < 512) (h : KK c A B M) (hT : TB k A) (hb : b < 5) {v : Int32} : Go Ls xs N again v5 c k s b o (fL_law_B267 Ls xs N again (nI B.L) (nI s) v5 (nI k) v (nI b) (nI o) M) := by
  have l1 := lo_lt (v := v) (m := 2) (by decide)
  have l2 := lo_lt (v := v >>> (5 &&& 31)) (m := 3) (by decide)
  have l3 := lo_lt (v := v >>> (8 &&& 31)) (m := 40) (by decide)
  have hV := h.aok.ver
  unfold fL_law_B267
  rw [v_versions N h, q_zbl, v_lw N v (x := 2) (m := 2) rfl (by decide) (by decide), q_zbl, v_lw N _ (x := 3) (m := 3) rfl (by decide) (by decide), q_zbl, v_lw N _ (x := 40) (m := 40) rfl (by decide) (by decide), q_zbl, q_1p, q_1p]
  rcases w_propose N (n := c) (by omega) h (q := lo v 2) (bg := 1 + lo (v >>> (5 &&& 31)) 3) (lv := 1 + lo (v >>> (8 &&& 31)) 40) hb (by omega) (by omega) (by omega) (by omega) (by omega) with ⟨M', e, h'⟩ | e
  · obtain ⟨p1, p2, p3, p4⟩ := prop_new h.aok hb
    refine ⟨c + 1, s, aProp b A, _, M', h', by omega, by omega, hT.up (Nat.le_succ k), ?_⟩
    rw [e, q_zbl, if_neg (q_n3 (by omega)), if_pos rfl, v_entries N h' hb, q_zbl, p1, nI_pred, v_versionAt N h' hb (by rw [p1]; omega), q_zbl, p2, if_pos rfl, v_holders N h' (by rw [p4]; omega), q_zbl, p3, if_pos (q_shl (by omega)).symm]
    rfl
  · refine ⟨c, s, A, B, M, h, by omega, by omega, hT.up (Nat.le_succ k), ?_⟩
    rw [e, q_zbl, if_pos rfl, v_versions N h, q_zbl, if_pos rfl]
    rfl
theorem g_tell (N : Nat) (hN : 101 ≤ N) (hc : c + 3 < 512) (h : KK c A B M) (hT : TB k A) (hb : b < 5) (ho : o < 5) (hbo : b ≠ o) : Go Ls xs N again v5 c k s b o (fL_law_B389 Ls xs N again (nI B.L) (nI s) v5 (nI k) (nI b) (nI o) M) := by
  have hl := h.aok.len b hb
  have hT' := (hT.tell hb ho).up (Nat.le_succ k)
  unfold fL_law_B389
  by_cases g : A.role b = 2 ∧ tog A b o = true
  · obtain ⟨M', e, h'⟩ := w_tell N hN (by omega) h hb ho hbo g
    by_cases g1 : A.term b < A.term o
    · refine ⟨c + 1, s, aTell b o A, _, M', h', by omega, by omega, hT', ?_⟩
      rw [e, q_zbl, show aTold b o A = -1 from if_pos g1, if_pos (by decide), uCbU_L]
      rfl
    · obtain ⟨t1, t2, t3, t4⟩ := tell_again hbo g1
      obtain ⟨M2, e2, h2⟩ := w_tell N hN (by omega) h' hb ho hbo ⟨t3.trans g.1, t4.trans g.2⟩
      have hl2 := h'.aok.len o ho
      refine ⟨c + 1 + 1, s, aTell b o (aTell b o A), _, M2, h2, by omega, by omega, ((hT.tell hb ho).tell hb ho).up (Nat.le_succ k), ?_⟩
      rw [e, q_zbl, show aTold b o A = nI (A.len b - aCut A b o) from if_neg g1, if_neg (nI_pos (by omega)), v_entries N h' ho, q_zbl, v_entries N h' hb, q_zbl, if_neg (nI_nlt t2 (by omega)), e2, q_zbl, t1, if_pos rfl, uCbU_L, uCbU_L]
      rfl
  · refine ⟨c, s, A, B, M, h, by omega, by omega, hT.up (Nat.le_succ k), ?_⟩
    rw [w_tellN N h hb ho hbo g, q_zbl, if_pos (by decide)]
    rfl
theorem g_part2 (N : Nat) (hc : c + 3 < 512) (h : KK c A B M) (hT : TB k A) (hb : b < 5) {g : Nat} (hg : g < 32) : Go Ls xs N again v5 c k s b o (fL_law_B475 Ls xs N again (nI B.L) (nI s) v5 (nI k) (nI b) (nI o) (nI g) M) := by
  have k5 := p5_le g
  have km : p5 g * (5 - p5 g) ≤ 5 * 5 := Nat.mul_le_mul k5 (Nat.sub_le _ _)
  obtain ⟨M', e, h'⟩ := v_part N (by omega) h hg
  refine ⟨c + 1, s, aPart g A, B, M', h', by omega, by omega, hT.up (Nat.le_succ k), ?_⟩
  unfold fL_law_B475
  rw [e, q_zbl, if_neg (nI_pos (by omega)), v_reach N h' hb hb, q_zbl, show tog (aPart g A) b b = true from decide_eq_true rfl, if_neg (by decide)]
  rfl
theorem g_part (N : Nat) (hc : c + 3 < 512) (h : KK c A B M) (hT : TB k A) (hb : b < 5) {v : Int32} : Go Ls xs N again v5 c k s b o (fL_law_B447 Ls xs N again (nI B.L) (nI s) v5 (nI k) v (nI b) (nI o) M) := by
  have l1 := lo_lt (v := v) (m := 32) (by decide)
  unfold fL_law_B447
  rw [v_lw N v (x := 32) (m := 32) rfl (by decide) (by decide), q_zbl, v_lw N _ (x := 3) (m := 3) rfl (by decide) (by decide), q_zbl]
  split
  · exact g_part2 N hc h hT hb l1
  · exact g_part2 N hc h hT hb (g := 0) (by decide)
theorem g_flour2 (N : Nat) (hN : 101 ≤ N) {c0 : Nat} (hc : c ≤ c0 + 1) (hc2 : c0 + 3 < 512) (h : KK c A B M) (hT : TB k A) (hb : b < 5) (hL : 0 < B.L) {v : Int32} : Go Ls xs N again v5 c0 k s b o (fL_law_B546 Ls xs N again (nI B.L) (nI s) 1 v5 (nI k) v (nI b) (nI o) M) := by
  have hL16 := h.bok.L
  have l1 := lo_lt (v := v >>> (9 &&& 31)) (m := B.L) hL
  have l2 := lo_lt (v := v) (m := 9) (by decide)
  unfold fL_law_B546
  rw [v_store N h hb, q_zbl, v_lw N _ (m := B.L) rfl hL (by omega), q_zbl, v_lw N v (x := 9) (m := 9) rfl (by decide) (by decide), q_zbl, q_1p]
  rcases w_deliver N hN h (l := lo (v >>> (9 &&& 31)) B.L) (t := 1 + lo v 9) hb l1 (by omega) (by omega) with ⟨M', e, h', hle⟩ | e
  · refine ⟨c + 1, s, A, _, M', h', by omega, by omega, hT.up (Nat.le_succ k), ?_⟩
    rw [e, q_zbl, if_neg (by decide), if_neg (q_n3 (by omega)), v_store N h' hb, q_zbl, show (uDel b (lo (v >>> (9 &&& 31)) B.L) (1 + lo v 9) B).cnt b = B.cnt b + (1 + lo v 9) from fu_s, if_pos rfl, v_lw N v (x := 9) (m := 9) rfl (by decide) (by decide), q_zbl, nI_1, nI_add, if_pos (by rw [Nat.add_assoc])]
    rfl
  · refine ⟨c, s, A, B, M, h, by omega, by omega, hT.up (Nat.le_succ k), ?_⟩
    rw [e, q_zbl, if_neg (by decide), if_pos rfl, v_store N h hb, q_zbl, if_pos rfl]
    rfl
theorem g_flour1 (N : Nat) (hN : 101 ≤ N) (hc : c + 3 < 512) (h : KK c A B M) (hT : TB k A) (hb : b < 5) (hL : B.L < 16) {v : Int32} : Go Ls xs N again v5 c k s b o (fL_law_B528 Ls xs N again (nI B.L) (nI s) v5 (nI k) v (nI b) (nI o) M) := by
  obtain ⟨M', e, h'⟩ := v_addLot N h hL
  unfold fL_law_B528 fL_law_B541
  rw [e, q_zbl, if_pos rfl, nI_1]
  exact g_flour2 N hN (B := uLot B) (Nat.le_refl _) hc h' hT hb (Nat.succ_pos _)
theorem g_flour (N : Nat) (hN : 101 ≤ N) (hc : c + 3 < 512) (h : KK c A B M) (hT : TB k A) (hb : b < 5) {v : Int32} : Go Ls xs N again v5 c k s b o (fL_law_B509 Ls xs N again (nI B.L) (nI s) 1 v5 (nI k) v (nI b) (nI o) M) := by
  have hL := h.bok.L
  unfold fL_law_B509
  by_cases g1 : 16 ≤ B.L
  · rw [if_pos (show (16 : Int32) ≤ nI B.L from nI_le (a := 16) g1 (by omega))]
    exact g_flour2 N hN (Nat.le_succ _) hc h hT hb (by omega)
  · rw [if_neg (show ¬ (16 : Int32) ≤ nI B.L from nI_ge (b := 16) (by omega) (by decide))]
    by_cases g2 : B.L = 0
    · rw [if_pos (by rw [g2]; rfl)]
      exact g_flour1 N hN hc h hT hb (by omega)
    · rw [if_neg (nI_ne0 (by omega) (by omega)), v_lw N v (x := 4) (m := 4) rfl (by decide) (by decide), q_zbl]
      split
      · exact g_flour1 N hN hc h hT hb (by omega)
      · exact g_flour2 N hN (Nat.le_succ _) hc h hT hb (by omega)
theorem g_book (N : Nat) (hN : 101 ≤ N) (hc : c + 3 < 512) (h : KK c A B M) (hT : TB k A) (hb : b < 5) {v : Int32} : Go Ls xs N again v5 c k s b o (fL_law_B651 Ls xs N again (nI B.L) (nI s) v5 (nI k) v (nI b) (nI o) M) := by
  have hBT := h.bok.T
  have hV := h.aok.ver
  have l1 := lo_lt (v := v >>> (9 &&& 31)) (m := 3) (by decide)
  have l2 := lo_lt (v := v) (m := 2) (by decide)
  have cl := cur_le (rc := B.rcp) (q := lo v 2) h.aok hb _ (Nat.le_refl _)
  unfold fL_law_B651
  rw [v_time N h, q_zbl, v_lw N _ (x := 3) (m := 3) rfl (by decide) (by decide), q_zbl, nI_add, q_zv, v_lw N v (x := 2) (m := 2) rfl (by decide) (by decide), q_zbl]
  rcases w_book N hN h (q := lo v 2) (t := B.T + lo (v >>> (9 &&& 31)) 3) hb (by omega) (by omega) (by omega) with ⟨M', e, h', hcu⟩ | e
  · refine ⟨c + 1, s, A, _, M', h', by omega, by omega, hT.up (Nat.le_succ k), ?_⟩
    have sl : (uSl b (B.T + lo (v >>> (9 &&& 31)) 3) (cur A B.rcp b (lo v 2) (A.len b)) B).sl b (B.T + lo (v >>> (9 &&& 31)) 3) = cur A B.rcp b (lo v 2) (A.len b) := by
      show (if b = b then fu (B.sl b) (B.T + lo (v >>> (9 &&& 31)) 3) (cur A B.rcp b (lo v 2) (A.len b)) else B.sl b) (B.T + lo (v >>> (9 &&& 31)) 3) = _
      rw [if_pos rfl, fu_s]
    rw [e, q_zbl, q_pred (by omega), if_neg (q_n3 (by omega)), v_booked N h' hb (show B.T ≤ _ by omega) (show _ ≤ B.T + 50 by omega), q_zbl, sl, q_pred (by omega), if_pos rfl, v_isHeld N h' (show _ < A.V by omega), q_zbl, cur_held _ hcu, if_neg (by decide), v_lw N v (x := 2) (m := 2) rfl (by decide) (by decide), q_zbl, v_current N hN h' hb (show lo v 2 < 6 by omega), q_zbl, show (uSl b (B.T + lo (v >>> (9 &&& 31)) 3) (cur A B.rcp b (lo v 2) (A.len b)) B).rcp = B.rcp from rfl, q_pred (by omega), if_pos rfl]
    rfl
  · refine ⟨c, s, A, B, M, h, by omega, by omega, hT.up (Nat.le_succ k), ?_⟩
    rw [e, q_zbl, if_pos rfl]
    rfl
theorem g_pass (N : Nat) (hN : 300 ≤ N) (hc : c + 3 < 512) (h : KK c A B M) (hT : TB k A) {v : Int32} : Go Ls xs N again v5 c k s b o (fL_law_B746 Ls xs N again (nI B.L) (nI s) v5 (nI k) v (nI b) (nI o) M) := by
  have hBT := h.bok.T
  have hBc := h.bok.Bc
  have l1 := lo_lt (v := v) (m := 3) (by decide)
  unfold fL_law_B746
  rw [v_batches N h, q_zbl, v_time N h, q_zbl]
  by_cases g : 900 < B.T
  · rw [if_pos (show (900 : Int32) < nI B.T from nI_lt (a := 900) g (by omega))]
    exact ⟨c, s, A, B, M, h, by omega, by omega, hT.up (Nat.le_succ k), rfl⟩
  · obtain ⟨M', e, h'⟩ := v_pass N hN h (t := 1 + lo v 3) (by omega) (by omega) (by omega)
    obtain ⟨p1, p2⟩ := pDo_e (A := A) (1 + lo v 3) B
    have hB2 := h'.bok.Bc
    refine ⟨c + 1, s, A, _, M', h', by omega, by omega, hT.up (Nat.le_succ k), ?_⟩
    rw [if_neg (show ¬ (900 : Int32) < nI B.T from nI_nlt (a := 900) (by omega) (by decide)), v_lw N v (x := 3) (m := 3) rfl (by decide) (by decide), q_zbl, q_1p, e, q_zbl, v_batches N h', q_zbl, p2, pk_sub (Nat.le_add_right _ _), Nat.add_sub_cancel_left, if_pos rfl, p1]
    rfl
theorem g_cond2 (N : Nat) (hN : 101 ≤ N) (h : KK c A B M) {l : Nat} (hl : l < B.L) (hg : B.cond l = true) {v3 : Int32} : ∀ d f j, j + d = trc B l B.Bc 0 → d < f → fL_law_B972 Ls xs N again f (nI B.L) v3 1 v5 (nI k) (nI b) (nI o) (nI l) (nI j) M = fL_law_B1019 Ls xs N again (nI B.L) v3 1 v5 (nI k) (nI b) (nI o) M := by
  have hBc := h.bok.Bc
  have ht := trc_le (B := B) (l := l) B.Bc 0
  intro d
  induction d with
  | zero =>
    intro f j h1 h2
    obtain ⟨f, rfl⟩ : ∃ q, f = q + 1 := ⟨f - 1, by omega⟩
    rw [fL_law_B972, v_traced N hN h hl, q_zbl, if_pos (nI_le (by omega) (by omega))]
  | succ d ih =>
    intro f j h1 h2
    obtain ⟨f, rfl⟩ : ∃ q, f = q + 1 := ⟨f - 1, by omega⟩
    obtain ⟨m, q1, q2, q3, q4⟩ := tra_some (B := B) (l := l) B.Bc 0 j (by omega)
    have hm : m < B.Bc := by omega
    have hbad : badf B m B.L = true := (badf_iff _).mpr ⟨l, hl, hg, q4⟩
    have hand : nI (bar A B m) &&& 2 = 2 := by
      unfold bar
      rw [if_pos hbad]
      split <;> decide
    rw [fL_law_B972, v_traced N hN h hl, q_zbl, if_neg (nI_ge (by omega) (by omega)), if_neg (by decide), v_tracedAt N hN h hl (by omega), q1, traX, q_zbl, v_barred N h hm, q_zbl, if_pos hand]
    unfold fL_law_B1011
    rw [nI_1]
    exact ih f (j + 1) (by omega) (by omega)
theorem g_cond (N : Nat) (hN : 300 ≤ N) (hc : c + 3 < 512) (h : KK c A B M) (hT : TB k A) {v : Int32} : Go Ls xs N again v5 c k s b o (fL_law_B912 Ls xs N again (nI B.L) (nI s) 1 v5 (nI k) v (nI b) (nI o) M) := by
  have hL := h.bok.L
  have no : Go Ls xs N again v5 c k s b o (fL_law_B1019 Ls xs N again (nI B.L) (nI s) 1 v5 (nI k) (nI b) (nI o) M) := ⟨c, s, A, B, M, h, by omega, by omega, hT.up (Nat.le_succ k), rfl⟩
  unfold fL_law_B912
  by_cases g : B.L = 0
  · rw [if_pos (by rw [g]; decide)]
    rw [g] at no
    rw [g]
    exact no
  · rw [if_neg (nI_nle (by omega) (by omega)), v_lw N v (x := 3) (m := 3) rfl (by decide) (by decide), q_zbl]
    split
    · have l1 := lo_lt (v := v >>> (9 &&& 31)) (m := B.L) (by omega)
      obtain ⟨M1, B1, x, e, hx, h1, hBL, hcd⟩ := w_condemn N hN (by omega) h l1
      have ht := trc_le (B := B1) (l := lo (v >>> (9 &&& 31)) B.L) B1.Bc 0
      have hB1 := h1.bok.Bc
      refine ⟨c + 1, s, A, B1, M1, h1, by omega, by omega, hT.up (Nat.le_succ k), ?_⟩
      rw [v_lw N _ (m := B.L) rfl (by omega) (by omega), q_zbl, e, q_zbl, if_neg hx, w_condemnN N h1 (by omega) hcd, q_zbl, if_pos rfl]
      unfold fL_law_B967
      have := g_cond2 (Ls := Ls) (xs := xs) (again := again) (v5 := v5) (k := k) (b := b) (o := o) N (by omega) h1 (l := lo (v >>> (9 &&& 31)) B.L) (by omega) hcd (v3 := nI s) (trc B1 (lo (v >>> (9 &&& 31)) B.L) B1.Bc 0) N 0 (by omega) (by omega)
      rw [nI_0] at this
      rw [← hBL] at this ⊢
      exact this
    · exact no
theorem g_sell (N : Nat) (hN : 300 ≤ N) (hc : c + 3 < 512) (h : KK c A B M) (hT : TB k A) {v : Int32} : Go Ls xs N again v5 c k s b o (fL_law_B801 Ls xs N again (nI B.L) (nI s) 1 v5 (nI k) v (nI b) (nI o) M) := by
  have hBc := h.bok.Bc
  have l2 := lo_lt (v := v >>> (9 &&& 31)) (m := 9) (by decide)
  unfold fL_law_B801
  rw [v_batches N h, q_zbl]
  by_cases g : B.Bc = 0
  · rw [if_pos (by rw [g]; decide)]
    exact g_cond N hN hc h hT
  · have l1 := lo_lt (v := v) (m := B.Bc) (by omega)
    have hle := h.bok.left _ l1
    rw [if_neg (nI_nle (by omega) (by omega)), v_batches N h, q_zbl, v_lw N v (m := B.Bc) rfl (by omega) (by omega), q_zbl, v_left N h l1, q_zbl, v_lw N _ (x := 9) (m := 9) rfl (by decide) (by decide), q_zbl, q_1p]
    rcases w_sell N (by omega) h (i := lo v B.Bc) (t := 1 + lo (v >>> (9 &&& 31)) 9) l1 (by omega) (by omega) with ⟨M', e, h', hb0, ht⟩ | e
    · refine ⟨c + 1, s, A, _, M', h', by omega, by omega, hT.up (Nat.le_succ k), ?_⟩
      rw [e, q_zbl, if_neg (q_n3 (by omega)), v_lw N _ (x := 9) (m := 9) rfl (by decide) (by decide), q_zbl, q_pred (by omega), pk_sub (by omega), Nat.sub_sub, if_pos rfl, v_barred N h' l1, q_zbl, bar_same (B := B) (B' := uSell (lo v B.Bc) (1 + lo (v >>> (9 &&& 31)) 9) B) rfl rfl rfl rfl, hb0, if_pos (by rfl)]
      rfl
    · refine ⟨c, s, A, B, M, h, by omega, by omega, hT.up (Nat.le_succ k), ?_⟩
      rw [e, q_zbl, if_pos rfl, v_left N h l1, q_zbl, if_pos rfl]
      rfl
end T46
