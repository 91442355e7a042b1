/-! pure: the law -/
def LK (i v : Nat) (again : Int32 → zMem → zRES) : Prop := ∀ A B M1, JJ (i + 1) A B M1 → ∃ M', again (nI (v + 5)) M1 = some (.inl 1, M')
theorem JJ.up1 {n : Nat} {A : VA} {B : VB} {M : zMem} (h : JJ n A B M) : JJ (n + 1) A B M :=
  JJ.mk h.aok (h.bok.up (Nat.le_succ n)) h.ra h.rx h.rm (h.rt.up (Nat.le_succ n))
theorem zins {L v : Nat} (hv : v + 5 ≤ L) (hL : L ≤ 2560) : zin (nI v + 1) L = true ∧ zin (nI v + 2) L = true ∧ zin (nI v + 3) L = true ∧ zin (nI v + 4) L = true :=
  ⟨by rw [show nI v + 1 = nI (v + 1) from nI_add v 1]; exact zin_nI (by omega) (by omega), by rw [show nI v + 2 = nI (v + 2) from nI_add v 2]; exact zin_nI (by omega) (by omega), by rw [show nI v + 3 = nI (v + 3) from nI_add v 3]; exact zin_nI (by omega) (by omega), by rw [show nI v + 4 = nI (v + 4) from nI_add v 4]; exact zin_nI (by omega) (by omega)⟩
theorem law_end {L v : Nat} (hv : v + 5 ≤ L) (hL : L ≤ 2560) : ¬ (nI L - 5) < nI v := by
  rw [show nI L - 5 = nI (L - 5) from pk_sub (b := 5) (by omega)]
  exact nI_nlt (by omega) (by omega)
theorem law_end2 {L v : Nat} (hv : ¬ v + 5 ≤ L) (hL : L ≤ 2560) (h2 : v ≤ 2560) : (nI L - 5) < nI v := by
  refine Int32.lt_iff_toInt_lt.mpr ?_
  rw [show (nI L - 5).toInt = (L : Int) - (5 : Nat) from pk_sub_toInt (b := 5) (by omega) (by decide), nI_toInt (by omega)]
  omega
theorem law_go {n v : Nat} {f g : zMem → zRES} {M : zMem} {again : Int32 → zMem → zRES} (h : Both n f g M) (K : LK n v again) : ∃ M', (zbl (f M) fun r M1 => zbl (g M1) fun r2 M2 => zbl (fX8_thrown 4000 M2) fun r3 M3 =>
    if r3 = r then
      if r = 0 then
        if zin (0 : Int32) 1 = true then
        if (lg_cmp (M3.2 87 (0 : Int32).toNatClampNeg) r2.toInt64) = 0 then again (nI v + 5) M3 else none
        else none
      else again (nI v + 5) M3
    else none) = some (.inl 1, M') := by
  obtain ⟨A, B, M1, M2, r, w, e1, e2, e3, e4, e5⟩ := h
  rw [e1, q_zbl, e2, q_zbl]
  unfold fX8_thrown
  rw [q_zbl, e3, if_pos rfl, show nI v + 5 = nI (v + 5) from nI_add v 5, if_pos z1, cl0]
  by_cases g : r = 0
  · rw [if_pos g, e4 g, if_pos (q_cmp _)]
    exact K A B M2 e5
  · rw [if_neg g]
    exact K A B M2 e5
theorem law_goB {n v : Nat} {f g : zMem → zRES} {M : zMem} {again : Int32 → zMem → zRES} (h : Both n f g M) (hb : ∀ M1 w M2, g M1 = some (.inl w, M2) → w = 0 ∨ w = 1) (K : LK n v again) : ∃ M', (zbl (f M) fun r M1 => zbl (g M1) fun r2 M2 => zbl (fX8_thrown 4000 M2) fun r3 M3 =>
    if r3 = r then
      if r = 0 then
        if zin (0 : Int32) 1 = true then
        if r2 = 0 then
          if (lg_cmp (M3.2 87 (0 : Int32).toNatClampNeg) 0) = 0 then again (nI v + 5) M3 else none
        else
          if (lg_cmp (M3.2 87 (0 : Int32).toNatClampNeg) 1) = 0 then again (nI v + 5) M3 else none
        else none
      else again (nI v + 5) M3
    else none) = some (.inl 1, M') := by
  obtain ⟨A, B, M1, M2, r, w, e1, e2, e3, e4, e5⟩ := h
  have hw := hb M1 w M2 e2
  rw [e1, q_zbl, e2, q_zbl]
  unfold fX8_thrown
  rw [q_zbl, e3, if_pos rfl, show nI v + 5 = nI (v + 5) from nI_add v 5, if_pos z1, cl0]
  by_cases g : r = 0
  · rw [if_pos g, e4 g]
    rcases hw with q | q
    · rw [if_pos q, q, if_pos (by decide)]
      exact K A B M2 e5
    · rw [if_neg (by rw [q]; decide), q, if_pos (by decide)]
      exact K A B M2 e5
  · rw [if_neg g]
    exact K A B M2 e5
theorem law_go0 {n v : Nat} {f g : zMem → zRES} {M : zMem} {again : Int32 → zMem → zRES} (h : Both0 n f g M) (K : LK n v again) : ∃ M', (zbl (f M) fun r M1 => zbl (g M1) fun r2 M2 => if r = r2 then again (nI v + 5) M2 else none) = some (.inl 1, M') := by
  obtain ⟨A, B, M1, M2, w, e1, e2, e3⟩ := h
  rw [e1, q_zbl, e2, q_zbl, if_pos rfl, show nI v + 5 = nI (v + 5) from nI_add v 5]
  exact K A B M2 e3
/-- the answer is 0 or 1 -/
def z01 (o : zRES) : Prop := ∀ w M, o = some (.inl w, M) → w = 0 ∨ w = 1
theorem z01_0 {M : zMem} : z01 (some (.inl 0, M)) := fun w M2 h => Or.inl (by injection h with h; injection h with h _; injection h with h; exact h.symm)
theorem z01_1 {M : zMem} : z01 (some (.inl 1, M)) := fun w M2 h => Or.inr (by injection h with h; injection h with h _; injection h with h; exact h.symm)
theorem z01_n : z01 none := fun w M2 h => by cases h
theorem z01_i {c : Prop} {hc : Decidable c} {a b : zRES} (h1 : z01 a) (h2 : z01 b) : z01 (@ite _ c hc a b) := by
  by_cases q : c
  · rw [if_pos q]; exact h1
  · rw [if_neg q]; exact h2
theorem z01_b {o : zRES} {k : Int32 → zMem → zRES} (h : ∀ x M, z01 (k x M)) : z01 (zb o k) := fun w M2 e => by
  cases o with
  | none => cases e
  | some r =>
    obtain ⟨r1, M1⟩ := r
    cases r1 with
    | inl x => exact h x M1 w M2 e
    | inr x => cases e
theorem z01_l {a : zMem} {k : zMem → zRES} (h : ∀ M, z01 (k M)) : z01 (zl a k) := h a
theorem z01_reach {x y : Int32} (M : zMem) : z01 (fX8_reach 4000 x y M) := by
  unfold fX8_reach fX8_reach_B19 fX8_reach_B20
  repeat first | exact z01_0 | exact z01_1 | exact z01_n | refine z01_i ?_ ?_ | refine z01_b (fun _ _ => ?_) | refine z01_l (fun _ => ?_)
theorem z01_isHeld {x : Int32} (M : zMem) : z01 (fX8_isHeld 4000 x M) := by
  unfold fX8_isHeld
  repeat first | exact z01_0 | exact z01_1 | exact z01_n | refine z01_i ?_ ?_ | refine z01_b (fun _ _ => ?_) | refine z01_l (fun _ => ?_)
theorem z01_wasHeld {x : Int32} (M : zMem) : z01 (fX8_wasHeld 4000 x M) := by
  unfold fX8_wasHeld fX8_wasHeld_B26
  repeat first | exact z01_0 | exact z01_1 | exact z01_n | refine z01_i ?_ ?_ | refine z01_b (fun _ _ => ?_) | refine z01_l (fun _ => ?_)
theorem z01_159 {N : Nat} {a b c d : Int32} {M : zMem} : z01 (fX8_vote_B159 N a b c d M) := by
  unfold fX8_vote_B159
  repeat first | exact z01_0 | exact z01_1 | exact z01_n | refine z01_i ?_ ?_ | refine z01_b (fun _ _ => ?_) | refine z01_l (fun _ => ?_)
theorem z01_118 {N : Nat} {a b : Int32} {M : zMem} : ∀ n c d, z01 (fX8_vote_B118 N n a b c d M) := by
  intro n
  induction n with
  | zero => intro c d; exact z01_n
  | succ n ih =>
    intro c d
    unfold fX8_vote_B118
    exact z01_i (z01_i z01_159 z01_159) (z01_i (ih _ _) z01_n)
theorem z01_74 {N : Nat} {a b : Int32} {M : zMem} : z01 (fX8_vote_B74 N a b M) := by
  unfold fX8_vote_B74 fX8_vote_B113
  repeat first | exact z01_118 _ _ _ | exact z01_n | refine z01_i ?_ ?_ | refine z01_b (fun _ _ => ?_) | refine z01_l (fun _ => ?_)
theorem z01_vote {x y : Int32} (M : zMem) : z01 (fX8_vote 4000 x y M) := by
  unfold fX8_vote
  repeat first | exact z01_74 | exact z01_0 | exact z01_1 | exact z01_n | refine z01_i ?_ ?_ | refine z01_b (fun _ _ => ?_) | refine z01_l (fun _ => ?_)
theorem lk_224 {L i v : Nat} {xs : Nat → Int32} {again : Int32 → zMem → zRES} {A : VA} {B : VB} {M : zMem} (h : JJ i A B M) (hi : i < 512) (hv : v + 5 ≤ L) (hL : L ≤ 2560) (K : LK i v again) : ∃ M', fL_law_B224 4000 L xs again (nI v) M = some (.inl 1, M') := by
  obtain ⟨z1, z2, z3, z4⟩ := zins hv hL
  unfold fL_law_B224 fL_law_B2594
  simp only [z1, if_true]
  exact law_go (b_part 4000 i (by decide) hi h _) K
theorem lk_280 {L i v : Nat} {xs : Nat → Int32} {again : Int32 → zMem → zRES} {A : VA} {B : VB} {M : zMem} (h : JJ i A B M) (hi : i < 512) (hv : v + 5 ≤ L) (hL : L ≤ 2560) (K : LK i v again) : ∃ M', fL_law_B280 4000 L xs again (nI v) M = some (.inl 1, M') := by
  obtain ⟨z1, z2, z3, z4⟩ := zins hv hL
  unfold fL_law_B280 fL_law_B2594
  simp only [z1, if_true]
  exact law_go (b_stand 4000 i hi h _) K
theorem lk_336 {L i v : Nat} {xs : Nat → Int32} {again : Int32 → zMem → zRES} {A : VA} {B : VB} {M : zMem} (h : JJ i A B M) (hi : i < 512) (hv : v + 5 ≤ L) (hL : L ≤ 2560) (K : LK i v again) : ∃ M', fL_law_B336 4000 L xs again (nI v) M = some (.inl 1, M') := by
  obtain ⟨z1, z2, z3, z4⟩ := zins hv hL
  unfold fL_law_B336 fL_law_B2594
  simp only [z1, z2, if_true]
  exact law_goB (b_vote 4000 i (by decide) hi h _ _) (fun M1 w M2 => z01_vote M1 w M2) K
theorem lk_411 {L i v : Nat} {xs : Nat → Int32} {again : Int32 → zMem → zRES} {A : VA} {B : VB} {M : zMem} (h : JJ i A B M) (hi : i < 512) (hv : v + 5 ≤ L) (hL : L ≤ 2560) (K : LK i v again) : ∃ M', fL_law_B411 4000 L xs again (nI v) M = some (.inl 1, M') := by
  obtain ⟨z1, z2, z3, z4⟩ := zins hv hL
  unfold fL_law_B411 fL_law_B2594
  simp only [z1, z2, z3, z4, if_true]
  exact law_go (b_propose 4000 i hi h _ _ _ _) K
theorem lk_503 {L i v : Nat} {xs : Nat → Int32} {again : Int32 → zMem → zRES} {A : VA} {B : VB} {M : zMem} (h : JJ i A B M) (hi : i < 512) (hv : v + 5 ≤ L) (hL : L ≤ 2560) (K : LK i v again) : ∃ M', fL_law_B503 4000 L xs again (nI v) M = some (.inl 1, M') := by
  obtain ⟨z1, z2, z3, z4⟩ := zins hv hL
  unfold fL_law_B503 fL_law_B2594
  simp only [z1, z2, if_true]
  exact law_go (b_tell 4000 i (by decide) hi h _ _) K
theorem lk_571 {L i v : Nat} {xs : Nat → Int32} {again : Int32 → zMem → zRES} {A : VA} {B : VB} {M : zMem} (h : JJ i A B M) (hi : i < 512) (hv : v + 5 ≤ L) (hL : L ≤ 2560) (K : LK i v again) : ∃ M', fL_law_B571 4000 L xs again (nI v) M = some (.inl 1, M') := by
  obtain ⟨z1, z2, z3, z4⟩ := zins hv hL
  unfold fL_law_B571 fL_law_B2594
  simp only [z1, if_true]
  exact law_go (b_role 4000 i h _) K
theorem lk_627 {L i v : Nat} {xs : Nat → Int32} {again : Int32 → zMem → zRES} {A : VA} {B : VB} {M : zMem} (h : JJ i A B M) (hi : i < 512) (hv : v + 5 ≤ L) (hL : L ≤ 2560) (K : LK i v again) : ∃ M', fL_law_B627 4000 L xs again (nI v) M = some (.inl 1, M') := by
  obtain ⟨z1, z2, z3, z4⟩ := zins hv hL
  unfold fL_law_B627 fL_law_B2594
  simp only [z1, if_true]
  exact law_go (b_term 4000 i h _) K
theorem lk_683 {L i v : Nat} {xs : Nat → Int32} {again : Int32 → zMem → zRES} {A : VA} {B : VB} {M : zMem} (h : JJ i A B M) (hi : i < 512) (hv : v + 5 ≤ L) (hL : L ≤ 2560) (K : LK i v again) : ∃ M', fL_law_B683 4000 L xs again (nI v) M = some (.inl 1, M') := by
  obtain ⟨z1, z2, z3, z4⟩ := zins hv hL
  unfold fL_law_B683 fL_law_B2594
  simp only [z1, if_true]
  exact law_go (b_votedFor 4000 i h _) K
theorem lk_739 {L i v : Nat} {xs : Nat → Int32} {again : Int32 → zMem → zRES} {A : VA} {B : VB} {M : zMem} (h : JJ i A B M) (hi : i < 512) (hv : v + 5 ≤ L) (hL : L ≤ 2560) (K : LK i v again) : ∃ M', fL_law_B739 4000 L xs again (nI v) M = some (.inl 1, M') := by
  obtain ⟨z1, z2, z3, z4⟩ := zins hv hL
  unfold fL_law_B739 fL_law_B2594
  simp only [z1, z2, if_true]
  exact law_goB (b_reach 4000 i h _ _) (fun M1 w M2 => z01_reach M1 w M2) K
theorem lk_814 {L i v : Nat} {xs : Nat → Int32} {again : Int32 → zMem → zRES} {A : VA} {B : VB} {M : zMem} (h : JJ i A B M) (hi : i < 512) (hv : v + 5 ≤ L) (hL : L ≤ 2560) (K : LK i v again) : ∃ M', fL_law_B814 4000 L xs again (nI v) M = some (.inl 1, M') := by
  obtain ⟨z1, z2, z3, z4⟩ := zins hv hL
  unfold fL_law_B814 fL_law_B2594
  simp only [z1, if_true]
  exact law_go (b_entries 4000 i h _) K
theorem lk_870 {L i v : Nat} {xs : Nat → Int32} {again : Int32 → zMem → zRES} {A : VA} {B : VB} {M : zMem} (h : JJ i A B M) (hi : i < 512) (hv : v + 5 ≤ L) (hL : L ≤ 2560) (K : LK i v again) : ∃ M', fL_law_B870 4000 L xs again (nI v) M = some (.inl 1, M') := by
  obtain ⟨z1, z2, z3, z4⟩ := zins hv hL
  unfold fL_law_B870 fL_law_B2594
  simp only [z1, z2, if_true]
  exact law_go (b_versionAt 4000 i h _ _) K
theorem lk_938 {L i v : Nat} {xs : Nat → Int32} {again : Int32 → zMem → zRES} {A : VA} {B : VB} {M : zMem} (h : JJ i A B M) (hi : i < 512) (hv : v + 5 ≤ L) (hL : L ≤ 2560) (K : LK i v again) : ∃ M', fL_law_B938 4000 L xs again (nI v) M = some (.inl 1, M') := by
  unfold fL_law_B938 fL_law_B2594
  exact law_go0 (b_versions 4000 i h) K
theorem lk_951 {L i v : Nat} {xs : Nat → Int32} {again : Int32 → zMem → zRES} {A : VA} {B : VB} {M : zMem} (h : JJ i A B M) (hi : i < 512) (hv : v + 5 ≤ L) (hL : L ≤ 2560) (K : LK i v again) : ∃ M', fL_law_B951 4000 L xs again (nI v) M = some (.inl 1, M') := by
  obtain ⟨z1, z2, z3, z4⟩ := zins hv hL
  unfold fL_law_B951 fL_law_B2594
  simp only [z1, if_true]
  exact law_go (b_termOf 4000 i (Nat.le_of_lt hi) h _) K
theorem lk_1007 {L i v : Nat} {xs : Nat → Int32} {again : Int32 → zMem → zRES} {A : VA} {B : VB} {M : zMem} (h : JJ i A B M) (hi : i < 512) (hv : v + 5 ≤ L) (hL : L ≤ 2560) (K : LK i v again) : ∃ M', fL_law_B1007 4000 L xs again (nI v) M = some (.inl 1, M') := by
  obtain ⟨z1, z2, z3, z4⟩ := zins hv hL
  unfold fL_law_B1007 fL_law_B2594
  simp only [z1, if_true]
  exact law_go (b_holders 4000 i (by decide) h _) K
theorem lk_1063 {L i v : Nat} {xs : Nat → Int32} {again : Int32 → zMem → zRES} {A : VA} {B : VB} {M : zMem} (h : JJ i A B M) (hi : i < 512) (hv : v + 5 ≤ L) (hL : L ≤ 2560) (K : LK i v again) : ∃ M', fL_law_B1063 4000 L xs again (nI v) M = some (.inl 1, M') := by
  obtain ⟨z1, z2, z3, z4⟩ := zins hv hL
  unfold fL_law_B1063 fL_law_B2594
  simp only [z1, if_true]
  exact law_goB (b_isHeld 4000 i (by decide) h _) (fun M1 w M2 => z01_isHeld M1 w M2) K
theorem lk_1126 {L i v : Nat} {xs : Nat → Int32} {again : Int32 → zMem → zRES} {A : VA} {B : VB} {M : zMem} (h : JJ i A B M) (hi : i < 512) (hv : v + 5 ≤ L) (hL : L ≤ 2560) (K : LK i v again) : ∃ M', fL_law_B1126 4000 L xs again (nI v) M = some (.inl 1, M') := by
  obtain ⟨z1, z2, z3, z4⟩ := zins hv hL
  unfold fL_law_B1126 fL_law_B2594
  simp only [z1, if_true]
  exact law_goB (b_wasHeld 4000 i (by decide) h _) (fun M1 w M2 => z01_wasHeld M1 w M2) K
theorem lk_1189 {L i v : Nat} {xs : Nat → Int32} {again : Int32 → zMem → zRES} {A : VA} {B : VB} {M : zMem} (h : JJ i A B M) (hi : i < 512) (hv : v + 5 ≤ L) (hL : L ≤ 2560) (K : LK i v again) : ∃ M', fL_law_B1189 4000 L xs again (nI v) M = some (.inl 1, M') := by
  obtain ⟨z1, z2, z3, z4⟩ := zins hv hL
  unfold fL_law_B1189 fL_law_B2594
  simp only [z1, z2, if_true]
  exact law_go (b_current 4000 i (by decide) h _ _) K
theorem lk_1257 {L i v : Nat} {xs : Nat → Int32} {again : Int32 → zMem → zRES} {A : VA} {B : VB} {M : zMem} (h : JJ i A B M) (hi : i < 512) (hv : v + 5 ≤ L) (hL : L ≤ 2560) (K : LK i v again) : ∃ M', fL_law_B1257 4000 L xs again (nI v) M = some (.inl 1, M') := by
  unfold fL_law_B1257 fL_law_B2594
  exact law_go (b_addLot 4000 i h) K
theorem lk_1301 {L i v : Nat} {xs : Nat → Int32} {again : Int32 → zMem → zRES} {A : VA} {B : VB} {M : zMem} (h : JJ i A B M) (hi : i < 512) (hv : v + 5 ≤ L) (hL : L ≤ 2560) (K : LK i v again) : ∃ M', fL_law_B1301 4000 L xs again (nI v) M = some (.inl 1, M') := by
  obtain ⟨z1, z2, z3, z4⟩ := zins hv hL
  unfold fL_law_B1301 fL_law_B2594
  simp only [z1, z2, z3, if_true]
  exact law_go (b_deliver 4000 i (by decide) h _ _ _) K
theorem lk_1381 {L i v : Nat} {xs : Nat → Int32} {again : Int32 → zMem → zRES} {A : VA} {B : VB} {M : zMem} (h : JJ i A B M) (hi : i < 512) (hv : v + 5 ≤ L) (hL : L ≤ 2560) (K : LK i v again) : ∃ M', fL_law_B1381 4000 L xs again (nI v) M = some (.inl 1, M') := by
  obtain ⟨z1, z2, z3, z4⟩ := zins hv hL
  unfold fL_law_B1381 fL_law_B2594
  simp only [z1, if_true]
  exact law_go (b_condemn 4000 i (by decide) hi h _) K
theorem lk_1437 {L i v : Nat} {xs : Nat → Int32} {again : Int32 → zMem → zRES} {A : VA} {B : VB} {M : zMem} (h : JJ i A B M) (hi : i < 512) (hv : v + 5 ≤ L) (hL : L ≤ 2560) (K : LK i v again) : ∃ M', fL_law_B1437 4000 L xs again (nI v) M = some (.inl 1, M') := by
  obtain ⟨z1, z2, z3, z4⟩ := zins hv hL
  unfold fL_law_B1437 fL_law_B2594
  simp only [z1, if_true]
  exact law_go (b_store 4000 i h _) K
theorem lk_1493 {L i v : Nat} {xs : Nat → Int32} {again : Int32 → zMem → zRES} {A : VA} {B : VB} {M : zMem} (h : JJ i A B M) (hi : i < 512) (hv : v + 5 ≤ L) (hL : L ≤ 2560) (K : LK i v again) : ∃ M', fL_law_B1493 4000 L xs again (nI v) M = some (.inl 1, M') := by
  obtain ⟨z1, z2, z3, z4⟩ := zins hv hL
  unfold fL_law_B1493 fL_law_B2594
  simp only [z1, z2, z3, if_true]
  exact law_go (b_book 4000 i (by decide) h _ _ _) K
theorem lk_1573 {L i v : Nat} {xs : Nat → Int32} {again : Int32 → zMem → zRES} {A : VA} {B : VB} {M : zMem} (h : JJ i A B M) (hi : i < 512) (hv : v + 5 ≤ L) (hL : L ≤ 2560) (K : LK i v again) : ∃ M', fL_law_B1573 4000 L xs again (nI v) M = some (.inl 1, M') := by
  obtain ⟨z1, z2, z3, z4⟩ := zins hv hL
  unfold fL_law_B1573 fL_law_B2594
  simp only [z1, z2, if_true]
  exact law_go (b_renew 4000 i (by decide) h _ _) K
theorem lk_1641 {L i v : Nat} {xs : Nat → Int32} {again : Int32 → zMem → zRES} {A : VA} {B : VB} {M : zMem} (h : JJ i A B M) (hi : i < 512) (hv : v + 5 ≤ L) (hL : L ≤ 2560) (K : LK i v again) : ∃ M', fL_law_B1641 4000 L xs again (nI v) M = some (.inl 1, M') := by
  obtain ⟨z1, z2, z3, z4⟩ := zins hv hL
  unfold fL_law_B1641 fL_law_B2594
  simp only [z1, z2, if_true]
  exact law_go (b_free 4000 i h _ _) K
theorem lk_1709 {L i v : Nat} {xs : Nat → Int32} {again : Int32 → zMem → zRES} {A : VA} {B : VB} {M : zMem} (h : JJ i A B M) (hi : i < 512) (hv : v + 5 ≤ L) (hL : L ≤ 2560) (K : LK i v again) : ∃ M', fL_law_B1709 4000 L xs again (nI v) M = some (.inl 1, M') := by
  obtain ⟨z1, z2, z3, z4⟩ := zins hv hL
  unfold fL_law_B1709 fL_law_B2594
  simp only [z1, z2, if_true]
  exact law_go (b_booked 4000 i h _ _) K
theorem lk_1777 {L i v : Nat} {xs : Nat → Int32} {again : Int32 → zMem → zRES} {A : VA} {B : VB} {M : zMem} (h : JJ i A B M) (hi : i < 512) (hv : v + 5 ≤ L) (hL : L ≤ 2560) (K : LK i v again) : ∃ M', fL_law_B1777 4000 L xs again (nI v) M = some (.inl 1, M') := by
  unfold fL_law_B1777 fL_law_B2594
  exact law_go0 (b_stopped 4000 i (by decide) h) K
theorem lk_1790 {L i v : Nat} {xs : Nat → Int32} {again : Int32 → zMem → zRES} {A : VA} {B : VB} {M : zMem} (h : JJ i A B M) (hi : i < 512) (hv : v + 5 ≤ L) (hL : L ≤ 2560) (K : LK i v again) : ∃ M', fL_law_B1790 4000 L xs again (nI v) M = some (.inl 1, M') := by
  obtain ⟨z1, z2, z3, z4⟩ := zins hv hL
  unfold fL_law_B1790 fL_law_B2594
  simp only [z1, if_true]
  exact law_go (b_pass 4000 i (by decide) h _) K
theorem lk_1846 {L i v : Nat} {xs : Nat → Int32} {again : Int32 → zMem → zRES} {A : VA} {B : VB} {M : zMem} (h : JJ i A B M) (hi : i < 512) (hv : v + 5 ≤ L) (hL : L ≤ 2560) (K : LK i v again) : ∃ M', fL_law_B1846 4000 L xs again (nI v) M = some (.inl 1, M') := by
  unfold fL_law_B1846 fL_law_B2594
  exact law_go0 (b_time 4000 i h) K
theorem lk_1859 {L i v : Nat} {xs : Nat → Int32} {again : Int32 → zMem → zRES} {A : VA} {B : VB} {M : zMem} (h : JJ i A B M) (hi : i < 512) (hv : v + 5 ≤ L) (hL : L ≤ 2560) (K : LK i v again) : ∃ M', fL_law_B1859 4000 L xs again (nI v) M = some (.inl 1, M') := by
  obtain ⟨z1, z2, z3, z4⟩ := zins hv hL
  unfold fL_law_B1859 fL_law_B2594
  simp only [z1, if_true]
  exact law_go (b_missed 4000 i h _) K
theorem lk_1915 {L i v : Nat} {xs : Nat → Int32} {again : Int32 → zMem → zRES} {A : VA} {B : VB} {M : zMem} (h : JJ i A B M) (hi : i < 512) (hv : v + 5 ≤ L) (hL : L ≤ 2560) (K : LK i v again) : ∃ M', fL_law_B1915 4000 L xs again (nI v) M = some (.inl 1, M') := by
  unfold fL_law_B1915 fL_law_B2594
  exact law_go0 (b_batches 4000 i h) K
theorem lk_1928 {L i v : Nat} {xs : Nat → Int32} {again : Int32 → zMem → zRES} {A : VA} {B : VB} {M : zMem} (h : JJ i A B M) (hi : i < 512) (hv : v + 5 ≤ L) (hL : L ≤ 2560) (K : LK i v again) : ∃ M', fL_law_B1928 4000 L xs again (nI v) M = some (.inl 1, M') := by
  obtain ⟨z1, z2, z3, z4⟩ := zins hv hL
  unfold fL_law_B1928 fL_law_B2594
  simp only [z1, if_true]
  exact law_go (b_versionOf 4000 i (Nat.le_of_lt hi) h _) K
theorem lk_1984 {L i v : Nat} {xs : Nat → Int32} {again : Int32 → zMem → zRES} {A : VA} {B : VB} {M : zMem} (h : JJ i A B M) (hi : i < 512) (hv : v + 5 ≤ L) (hL : L ≤ 2560) (K : LK i v again) : ∃ M', fL_law_B1984 4000 L xs again (nI v) M = some (.inl 1, M') := by
  obtain ⟨z1, z2, z3, z4⟩ := zins hv hL
  unfold fL_law_B1984 fL_law_B2594
  simp only [z1, if_true]
  exact law_go (b_lotsOf 4000 i (Nat.le_of_lt hi) h _) K
theorem lk_2040 {L i v : Nat} {xs : Nat → Int32} {again : Int32 → zMem → zRES} {A : VA} {B : VB} {M : zMem} (h : JJ i A B M) (hi : i < 512) (hv : v + 5 ≤ L) (hL : L ≤ 2560) (K : LK i v again) : ∃ M', fL_law_B2040 4000 L xs again (nI v) M = some (.inl 1, M') := by
  obtain ⟨z1, z2, z3, z4⟩ := zins hv hL
  unfold fL_law_B2040 fL_law_B2594
  simp only [z1, if_true]
  exact law_go (b_left 4000 i (Nat.le_of_lt hi) h _) K
theorem lk_2096 {L i v : Nat} {xs : Nat → Int32} {again : Int32 → zMem → zRES} {A : VA} {B : VB} {M : zMem} (h : JJ i A B M) (hi : i < 512) (hv : v + 5 ≤ L) (hL : L ≤ 2560) (K : LK i v again) : ∃ M', fL_law_B2096 4000 L xs again (nI v) M = some (.inl 1, M') := by
  obtain ⟨z1, z2, z3, z4⟩ := zins hv hL
  unfold fL_law_B2096 fL_law_B2594
  simp only [z1, if_true]
  exact law_go (b_barred 4000 i (by decide) h _) K
theorem lk_2152 {L i v : Nat} {xs : Nat → Int32} {again : Int32 → zMem → zRES} {A : VA} {B : VB} {M : zMem} (h : JJ i A B M) (hi : i < 512) (hv : v + 5 ≤ L) (hL : L ≤ 2560) (K : LK i v again) : ∃ M', fL_law_B2152 4000 L xs again (nI v) M = some (.inl 1, M') := by
  obtain ⟨z1, z2, z3, z4⟩ := zins hv hL
  unfold fL_law_B2152 fL_law_B2594
  simp only [z1, if_true]
  exact law_go (b_barredAnew 4000 i (by decide) (Nat.le_of_lt hi) h _) K
theorem lk_2208 {L i v : Nat} {xs : Nat → Int32} {again : Int32 → zMem → zRES} {A : VA} {B : VB} {M : zMem} (h : JJ i A B M) (hi : i < 512) (hv : v + 5 ≤ L) (hL : L ≤ 2560) (K : LK i v again) : ∃ M', fL_law_B2208 4000 L xs again (nI v) M = some (.inl 1, M') := by
  obtain ⟨z1, z2, z3, z4⟩ := zins hv hL
  unfold fL_law_B2208 fL_law_B2594
  simp only [z1, z2, if_true]
  exact law_go (b_sell 4000 i (by decide) h _ _) K
theorem lk_2276 {L i v : Nat} {xs : Nat → Int32} {again : Int32 → zMem → zRES} {A : VA} {B : VB} {M : zMem} (h : JJ i A B M) (hi : i < 512) (hv : v + 5 ≤ L) (hL : L ≤ 2560) (K : LK i v again) : ∃ M', fL_law_B2276 4000 L xs again (nI v) M = some (.inl 1, M') := by
  unfold fL_law_B2276 fL_law_B2594
  exact law_go0 (b_onSale 4000 i (by decide) h) K
theorem lk_2289 {L i v : Nat} {xs : Nat → Int32} {again : Int32 → zMem → zRES} {A : VA} {B : VB} {M : zMem} (h : JJ i A B M) (hi : i < 512) (hv : v + 5 ≤ L) (hL : L ≤ 2560) (K : LK i v again) : ∃ M', fL_law_B2289 4000 L xs again (nI v) M = some (.inl 1, M') := by
  obtain ⟨z1, z2, z3, z4⟩ := zins hv hL
  unfold fL_law_B2289 fL_law_B2594
  simp only [z1, if_true]
  exact law_go (b_traced 4000 i (by decide) h _) K
theorem lk_2345 {L i v : Nat} {xs : Nat → Int32} {again : Int32 → zMem → zRES} {A : VA} {B : VB} {M : zMem} (h : JJ i A B M) (hi : i < 512) (hv : v + 5 ≤ L) (hL : L ≤ 2560) (K : LK i v again) : ∃ M', fL_law_B2345 4000 L xs again (nI v) M = some (.inl 1, M') := by
  obtain ⟨z1, z2, z3, z4⟩ := zins hv hL
  unfold fL_law_B2345 fL_law_B2594
  simp only [z1, z2, if_true]
  exact law_go (b_tracedAt 4000 i (by decide) h _ _) K
theorem lk_2413 {L i v : Nat} {xs : Nat → Int32} {again : Int32 → zMem → zRES} {A : VA} {B : VB} {M : zMem} (h : JJ i A B M) (hi : i < 512) (hv : v + 5 ≤ L) (hL : L ≤ 2560) (K : LK i v again) : ∃ M', fL_law_B2413 4000 L xs again (nI v) M = some (.inl 1, M') := by
  unfold fL_law_B2413 fL_law_B2594
  exact law_go0 (b_recalls 4000 i h) K
theorem lk_2426 {L i v : Nat} {xs : Nat → Int32} {again : Int32 → zMem → zRES} {A : VA} {B : VB} {M : zMem} (h : JJ i A B M) (hi : i < 512) (hv : v + 5 ≤ L) (hL : L ≤ 2560) (K : LK i v again) : ∃ M', fL_law_B2426 4000 L xs again (nI v) M = some (.inl 1, M') := by
  obtain ⟨z1, z2, z3, z4⟩ := zins hv hL
  unfold fL_law_B2426 fL_law_B2594
  simp only [z1, if_true]
  exact law_go (b_recallOf 4000 i (Nat.le_of_lt hi) h _) K
theorem lk_2482 {L i v : Nat} {xs : Nat → Int32} {again : Int32 → zMem → zRES} {A : VA} {B : VB} {M : zMem} (h : JJ i A B M) (hi : i < 512) (hv : v + 5 ≤ L) (hL : L ≤ 2560) (K : LK i v again) : ∃ M', fL_law_B2482 4000 L xs again (nI v) M = some (.inl 1, M') := by
  obtain ⟨z1, z2, z3, z4⟩ := zins hv hL
  unfold fL_law_B2482 fL_law_B2594
  simp only [z1, if_true]
  exact law_go (b_calledBack 4000 i (Nat.le_of_lt hi) h _) K
theorem lk_2538 {L i v : Nat} {xs : Nat → Int32} {again : Int32 → zMem → zRES} {A : VA} {B : VB} {M : zMem} (h : JJ i A B M) (hi : i < 512) (hv : v + 5 ≤ L) (hL : L ≤ 2560) (K : LK i v again) : ∃ M', fL_law_B2538 4000 L xs again (nI v) M = some (.inl 1, M') := by
  obtain ⟨z1, z2, z3, z4⟩ := zins hv hL
  unfold fL_law_B2538 fL_law_B2594
  simp only [z1, if_true]
  exact law_go (b_why 4000 i (Nat.le_of_lt hi) h _) K
theorem lk_all {L i v : Nat} {xs : Nat → Int32} {again : Int32 → zMem → zRES} {A : VA} {B : VB} {M : zMem} (h : JJ i A B M) (hi : i < 512) (hv : v + 5 ≤ L) (hL : L ≤ 2560) (K : LK i v again) : ∃ M', fL_law_S23 4000 L xs again (nI v) M = some (.inl 1, M') := by
  unfold fL_law_S23
  rw [if_neg (law_end hv hL), if_pos (zin_nI (by omega) (by omega))]
  by_cases c0 : ((xs (nI v).toNatClampNeg) &&& 63) = 0
  · rw [if_pos c0]; exact lk_224 h hi hv hL K
  rw [if_neg c0]
  by_cases c1 : ((xs (nI v).toNatClampNeg) &&& 63) = 1
  · rw [if_pos c1]; exact lk_280 h hi hv hL K
  rw [if_neg c1]
  by_cases c2 : ((xs (nI v).toNatClampNeg) &&& 63) = 2
  · rw [if_pos c2]; exact lk_336 h hi hv hL K
  rw [if_neg c2]
  by_cases c3 : ((xs (nI v).toNatClampNeg) &&& 63) = 3
  · rw [if_pos c3]; exact lk_411 h hi hv hL K
  rw [if_neg c3]
  by_cases c4 : ((xs (nI v).toNatClampNeg) &&& 63) = 4
  · rw [if_pos c4]; exact lk_503 h hi hv hL K
  rw [if_neg c4]
  by_cases c5 : ((xs (nI v).toNatClampNeg) &&& 63) = 5
  · rw [if_pos c5]; exact lk_571 h hi hv hL K
  rw [if_neg c5]
  by_cases c6 : ((xs (nI v).toNatClampNeg) &&& 63) = 6
  · rw [if_pos c6]; exact lk_627 h hi hv hL K
  rw [if_neg c6]
  by_cases c7 : ((xs (nI v).toNatClampNeg) &&& 63) = 7
  · rw [if_pos c7]; exact lk_683 h hi hv hL K
  rw [if_neg c7]
  by_cases c8 : ((xs (nI v).toNatClampNeg) &&& 63) = 8
  · rw [if_pos c8]; exact lk_739 h hi hv hL K
  rw [if_neg c8]
  by_cases c9 : ((xs (nI v).toNatClampNeg) &&& 63) = 9
  · rw [if_pos c9]; exact lk_814 h hi hv hL K
  rw [if_neg c9]
  by_cases c10 : ((xs (nI v).toNatClampNeg) &&& 63) = 10
  · rw [if_pos c10]; exact lk_870 h hi hv hL K
  rw [if_neg c10]
  by_cases c11 : ((xs (nI v).toNatClampNeg) &&& 63) = 11
  · rw [if_pos c11]; exact lk_938 h hi hv hL K
  rw [if_neg c11]
  by_cases c12 : ((xs (nI v).toNatClampNeg) &&& 63) = 12
  · rw [if_pos c12]; exact lk_951 h hi hv hL K
  rw [if_neg c12]
  by_cases c13 : ((xs (nI v).toNatClampNeg) &&& 63) = 13
  · rw [if_pos c13]; exact lk_1007 h hi hv hL K
  rw [if_neg c13]
  by_cases c14 : ((xs (nI v).toNatClampNeg) &&& 63) = 14
  · rw [if_pos c14]; exact lk_1063 h hi hv hL K
  rw [if_neg c14]
  by_cases c15 : ((xs (nI v).toNatClampNeg) &&& 63) = 15
  · rw [if_pos c15]; exact lk_1126 h hi hv hL K
  rw [if_neg c15]
  by_cases c16 : ((xs (nI v).toNatClampNeg) &&& 63) = 16
  · rw [if_pos c16]; exact lk_1189 h hi hv hL K
  rw [if_neg c16]
  by_cases c17 : ((xs (nI v).toNatClampNeg) &&& 63) = 17
  · rw [if_pos c17]; exact lk_1257 h hi hv hL K
  rw [if_neg c17]
  by_cases c18 : ((xs (nI v).toNatClampNeg) &&& 63) = 18
  · rw [if_pos c18]; exact lk_1301 h hi hv hL K
  rw [if_neg c18]
  by_cases c19 : ((xs (nI v).toNatClampNeg) &&& 63) = 19
  · rw [if_pos c19]; exact lk_1381 h hi hv hL K
  rw [if_neg c19]
  by_cases c20 : ((xs (nI v).toNatClampNeg) &&& 63) = 20
  · rw [if_pos c20]; exact lk_1437 h hi hv hL K
  rw [if_neg c20]
  by_cases c21 : ((xs (nI v).toNatClampNeg) &&& 63) = 21
  · rw [if_pos c21]; exact lk_1493 h hi hv hL K
  rw [if_neg c21]
  by_cases c22 : ((xs (nI v).toNatClampNeg) &&& 63) = 22
  · rw [if_pos c22]; exact lk_1573 h hi hv hL K
  rw [if_neg c22]
  by_cases c23 : ((xs (nI v).toNatClampNeg) &&& 63) = 23
  · rw [if_pos c23]; exact lk_1641 h hi hv hL K
  rw [if_neg c23]
  by_cases c24 : ((xs (nI v).toNatClampNeg) &&& 63) = 24
  · rw [if_pos c24]; exact lk_1709 h hi hv hL K
  rw [if_neg c24]
  by_cases c25 : ((xs (nI v).toNatClampNeg) &&& 63) = 25
  · rw [if_pos c25]; exact lk_1777 h hi hv hL K
  rw [if_neg c25]
  by_cases c26 : ((xs (nI v).toNatClampNeg) &&& 63) = 26
  · rw [if_pos c26]; exact lk_1790 h hi hv hL K
  rw [if_neg c26]
  by_cases c27 : ((xs (nI v).toNatClampNeg) &&& 63) = 27
  · rw [if_pos c27]; exact lk_1846 h hi hv hL K
  rw [if_neg c27]
  by_cases c28 : ((xs (nI v).toNatClampNeg) &&& 63) = 28
  · rw [if_pos c28]; exact lk_1859 h hi hv hL K
  rw [if_neg c28]
  by_cases c29 : ((xs (nI v).toNatClampNeg) &&& 63) = 29
  · rw [if_pos c29]; exact lk_1915 h hi hv hL K
  rw [if_neg c29]
  by_cases c30 : ((xs (nI v).toNatClampNeg) &&& 63) = 30
  · rw [if_pos c30]; exact lk_1928 h hi hv hL K
  rw [if_neg c30]
  by_cases c31 : ((xs (nI v).toNatClampNeg) &&& 63) = 31
  · rw [if_pos c31]; exact lk_1984 h hi hv hL K
  rw [if_neg c31]
  by_cases c32 : ((xs (nI v).toNatClampNeg) &&& 63) = 32
  · rw [if_pos c32]; exact lk_2040 h hi hv hL K
  rw [if_neg c32]
  by_cases c33 : ((xs (nI v).toNatClampNeg) &&& 63) = 33
  · rw [if_pos c33]; exact lk_2096 h hi hv hL K
  rw [if_neg c33]
  by_cases c34 : ((xs (nI v).toNatClampNeg) &&& 63) = 34
  · rw [if_pos c34]; exact lk_2152 h hi hv hL K
  rw [if_neg c34]
  by_cases c35 : ((xs (nI v).toNatClampNeg) &&& 63) = 35
  · rw [if_pos c35]; exact lk_2208 h hi hv hL K
  rw [if_neg c35]
  by_cases c36 : ((xs (nI v).toNatClampNeg) &&& 63) = 36
  · rw [if_pos c36]; exact lk_2276 h hi hv hL K
  rw [if_neg c36]
  by_cases c37 : ((xs (nI v).toNatClampNeg) &&& 63) = 37
  · rw [if_pos c37]; exact lk_2289 h hi hv hL K
  rw [if_neg c37]
  by_cases c38 : ((xs (nI v).toNatClampNeg) &&& 63) = 38
  · rw [if_pos c38]; exact lk_2345 h hi hv hL K
  rw [if_neg c38]
  by_cases c39 : ((xs (nI v).toNatClampNeg) &&& 63) = 39
  · rw [if_pos c39]; exact lk_2413 h hi hv hL K
  rw [if_neg c39]
  by_cases c40 : ((xs (nI v).toNatClampNeg) &&& 63) = 40
  · rw [if_pos c40]; exact lk_2426 h hi hv hL K
  rw [if_neg c40]
  by_cases c41 : ((xs (nI v).toNatClampNeg) &&& 63) = 41
  · rw [if_pos c41]; exact lk_2482 h hi hv hL K
  rw [if_neg c41]
  by_cases c42 : ((xs (nI v).toNatClampNeg) &&& 63) = 42
  · rw [if_pos c42]; exact lk_2538 h hi hv hL K
  rw [if_neg c42]
  unfold fL_law_B2594
  rw [show nI v + 5 = nI (v + 5) from nI_add v 5]
  exact K A B M (h.up1)
theorem lk_loop {L : Nat} {xs : Nat → Int32} (hL : L ≤ 2560) : ∀ m i {A : VA} {B : VB} {M : zMem}, JJ i A B M → i ≤ 512 → 513 ≤ i + m → ∃ M', fL_law_B23 4000 L xs m (nI (5 * i)) M = some (.inl 1, M') := by
  intro m
  induction m with
  | zero => intro i A B M h h1 h2; omega
  | succ m ih =>
    intro i A B M h h1 h2
    rw [fL_law_B23]
    by_cases hv : 5 * i + 5 ≤ L
    · refine lk_all h (by omega) hv hL (fun A1 B1 M1 h3 => ?_)
      exact ih (i + 1) h3 (by omega) (by omega)
    · unfold fL_law_S23
      rw [if_pos (law_end2 hv hL (by omega))]
      exact ⟨M, rfl⟩
def B0 : VB := VB.mk 0 0 0 0 (fun _ => 0) (fun _ => 0) (fun _ => 0) (fun _ => false) (fun _ => 0) (fun _ => 0) (fun _ _ => 0) (fun _ _ => 0) (fun _ => 0) (fun _ => 0) (fun _ => 0) (fun _ => 0) (fun _ => 0) (fun _ => 0) (fun _ => 0)
theorem nz_zero : ∀ k, nz (fun _ => 0) k = 0 := by
  intro k
  induction k with
  | zero => rfl
  | succ k ih => unfold nz; rw [ih]; rfl
theorem BOK_0 : BOK 0 0 B0 := by
  refine BOK.mk (by decide) (by decide) (by decide) ?_ ?_ ?_ ?_ ?_ ?_ ?_ ?_ ?_ ?_ ?_
  · show 0 + nz (fun _ => 0) 60 ≤ 0
    rw [nz_zero]; exact Nat.le_refl _
  · intro v hv; exact absurd hv (Nat.not_lt_zero _)
  · intro l _; rfl
  · intro b _; exact Nat.zero_le _
  · intro b _ i hi; exact absurd hi (Nat.not_lt_zero _)
  · intro b _ i _; exact Nat.le_refl _
  · intro b _ i _; rfl
  · intro i hi; exact absurd hi (Nat.not_lt_zero _)
  · intro i hi; exact absurd hi (Nat.not_lt_zero _)
  · intro i hi; exact absurd hi (Nat.not_lt_zero _)
  · intro i _; rfl
theorem QA_0 : QA 1 A0 zM0 := by
  refine ⟨QL.mk rfl rfl (fun _ _ => rfl) (fun _ _ => rfl) ?_ (fun b _ q => absurd q (show ¬ (0 : Nat) = 1 by decide)) (fun _ _ => rfl) (fun v hv => absurd hv (Nat.not_lt_zero _)) (fun b _ i hi => absurd hi (Nat.not_lt_zero _)), QS.mk (fun v hv => absurd hv (Nat.not_lt_zero _)) (fun v hv => absurd hv (Nat.not_lt_zero _)) (fun v _ => lbit_0 v)⟩
  intro b hb
  show (if b < 5 then (-1 : Int32) else 0) = nI 0 - 1
  rw [if_pos hb]; decide
theorem QX_0 : QX 0 B0 zM0 := by
  refine QX.mk (fun v hv => absurd hv (Nat.not_lt_zero _)) (fun v hv => absurd hv (Nat.not_lt_zero _)) (fun v hv => absurd hv (Nat.not_lt_zero _)) rfl ⟨0, by decide, rfl, fun l _ => Nat.zero_testBit l⟩ (fun b _ i hi => absurd hi (Nat.not_lt_zero _)) (fun _ _ => rfl) rfl ?_ (fun _ _ => rfl) rfl (fun i hi => absurd hi (Nat.not_lt_zero _)) (fun i hi => absurd hi (Nat.not_lt_zero _)) (fun i hi => absurd hi (Nat.not_lt_zero _)) (fun i hi => absurd hi (Nat.not_lt_zero _)) rfl (fun i hi => absurd hi (Nat.not_lt_zero _)) (fun i hi => absurd hi (Nat.not_lt_zero _)) (fun i hi => absurd hi (Nat.not_lt_zero _))
  refine five ?_ ?_ ?_ ?_ ?_
  all_goals
    intro h _ _
    show (if h % 51 < 51 then (-1 : Int32) else 0) = nI 0 - 1
    rw [if_pos (Nat.mod_lt _ (by decide))]; decide
theorem QM_0 : QM A0 B0 zM0 :=
  ⟨QR.mk rfl rfl (fun _ _ => rfl) (fun _ _ => rfl) (fun _ _ => rfl) (fun b _ q => absurd q (show ¬ (0 : Nat) = 1 by decide)) (fun b _ i hi => absurd hi (Nat.not_lt_zero _)) (fun _ _ => rfl) (fun v hv => absurd hv (Nat.not_lt_zero _)) (fun _ _ => rfl),
   QF.mk rfl rfl rfl rfl (fun v hv => absurd hv (Nat.not_lt_zero _)) (fun v hv => absurd hv (Nat.not_lt_zero _)) (fun v hv => absurd hv (Nat.not_lt_zero _)) (fun _ _ _ _ => rfl) (fun _ _ => rfl) (fun b _ i hi => absurd hi (Nat.not_lt_zero _)) (fun _ _ => rfl) (fun _ _ => rfl) (fun i hi => absurd hi (Nat.not_lt_zero _)) (fun i hi => absurd hi (Nat.not_lt_zero _)) (fun i hi => absurd hi (Nat.not_lt_zero _)) (fun _ _ => rfl) (fun i hi => absurd hi (Nat.not_lt_zero _)) (fun i hi => absurd hi (Nat.not_lt_zero _)) (fun i hi => absurd hi (Nat.not_lt_zero _))⟩
theorem QT_0 : QT 0 A0 zM0 := ⟨0, fun _ => 0, fun _ => 0, fun _ => 0, fun _ => A0, Nat.le_refl _, rfl, rfl, rfl, fun j hj => absurd hj (Nat.not_lt_zero _)⟩
theorem JJ_0 : JJ 0 A0 B0 zM0 := JJ.mk AOK_A0 BOK_0 QA_0 QX_0 QM_0 QT_0
theorem hpure : ∀ (L : Nat) (xs : Nat → Int32), L ≤ 2560 → ∃ M', fL_law_B23 4000 L xs 600 0 zM0 = some (.inl 1, M') := fun L xs hL => by
  have := lk_loop (L := L) (xs := xs) hL 600 0 JJ_0 (by decide) (by decide)
  rw [Nat.mul_zero, nI_0] at this
  exact this
