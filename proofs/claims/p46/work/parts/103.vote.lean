/-! pure: votes -/
theorem c_give (o N : Nat) {A : VA} {M : zMem} (hA : QA o A M) (hk : AOK A) {v c : Nat} (hv : v < 5) (hc : c < 5) (hr : A.role c = 1) : ∃ M', fX0_giveVote o N (nI v) (nI c) M = some (.inl 0, M') ∧ QA o (aGive v c A) M' ∧ zfr o M M' := by
  have hs := (hk.sup c hc hr).1
  have hs2 := q_orlt hs hv
  have hp := p5_le (A.sup c ||| 2 ^ v)
  unfold fX0_giveVote
  simp only [z5 hv, z5 hc, if_true, q_zl]
  rw [nI_clamp (by omega), nI_clamp (by omega), q_shl (by omega)]
  rw [zsI_n (show o + 4 ≠ o + 3 by omega), hA.1.sup c hc hr, q_or, zsI_s, pk_us, q_count N hs2, q_zb]
  have base : ∀ M1, M1 = zsI (zsI M (o + 3) v (nI c)) (o + 4) c (nI (A.sup c ||| 2 ^ v)) → QL o ((VA.mk A.grp A.V A.term A.role (fu A.vote v (c + 1)) (fu A.sup c (A.sup c ||| 2 ^ v)) A.len A.vt A.ev A.log)) M1 := by
    intro M1 e1
    subst e1
    refine QL.mk ?_ ?_ ?_ ?_ ?_ ?_ ?_ ?_ ?_
    · simp (disch := omega) only [zsI_n]; exact hA.1.grp
    · simp (disch := omega) only [zsI_n]; exact hA.1.ver
    · simp (disch := omega) only [zsI_n]; exact hA.1.trm
    · simp (disch := omega) only [zsI_n]; exact hA.1.rol
    · intro d hd
      by_cases e : d = v
      · subst e; simp (disch := omega) only [zsI_n, zsI_s, pk_us, VA.mk_vote, fu_s]; exact (nI_pred c).symm
      · simp (disch := omega) only [zsI_n, zsI_s, pk_un, VA.mk_vote, fu_n]; exact hA.1.vot d hd
    · intro d hd h1
      by_cases e : d = c
      · subst e; simp (disch := omega) only [zsI_n, zsI_s, pk_us, VA.mk_sup, fu_s]
      · simp (disch := omega) only [zsI_n, zsI_s, pk_un, VA.mk_sup, fu_n]; exact hA.1.sup d hd h1
    · simp (disch := omega) only [zsI_n]; exact hA.1.len
    · simp (disch := omega) only [zsI_n]; exact hA.1.vtm
    · intro d hd i hi
      simp (disch := omega) only [zsI_n]; exact hA.1.log d hd i hi
  have b1 := base _ rfl
  have off : ∀ M', M'.1 (o + 13) = M.1 (o + 13) → M'.2 = M.2 → QS o (aGive v c A).V (hset (aGive v c A)) (aGive v c A).ev M' := fun M' e1 e2 =>
    QS.off (hA.2.same (h' := hset (aGive v c A)) (fun w _ => hset_eq (fun _ _ => rfl) (fun _ _ => rfl) w)) e1 (by rw [e2])
  by_cases g : p5 (A.sup c ||| 2 ^ v) < 3
  · rw [if_pos (show nI (p5 (A.sup c ||| 2 ^ v)) < 3 from nI_lt (b := 3) g (by decide))]
    refine ⟨_, rfl, ⟨?_, off _ (by simp (disch := omega) only [zsI_n]) rfl⟩, (zfr.refl.sI (by omega)).sI (by omega)⟩
    refine QL.mk b1.grp b1.ver b1.trm ?_ b1.vot ?_ b1.len b1.vtm b1.log
    · intro d hd
      have := b1.rol d hd
      by_cases e : d = c
      · subst e; simp only [aGive, VA.mk_role, fu_s, if_pos g]; simp only [VA.mk_role] at this; exact this
      · simp only [aGive, VA.mk_role, fu_n e]; simp only [VA.mk_role] at this; exact this
    · intro d hd h1
      apply b1.sup d hd
      by_cases e : d = c
      · subst e; simp only [VA.mk_role]; exact hr
      · simp only [aGive, VA.mk_role, fu_n e] at h1; simp only [VA.mk_role]; exact h1
  · rw [if_neg (show ¬ nI (p5 (A.sup c ||| 2 ^ v)) < 3 from nI_nlt (b := 3) (by omega) (by omega))]
    refine ⟨_, rfl, ⟨?_, off _ (by simp (disch := omega) only [zsI_n]) rfl⟩, ((zfr.refl.sI (by omega)).sI (by omega)).sI (by omega)⟩
    refine QL.mk ?_ ?_ ?_ ?_ ?_ ?_ ?_ ?_ ?_
    · rw [zsI_n (by omega)]; exact b1.grp
    · rw [zsI_n (by omega)]; exact b1.ver
    · rw [zsI_n (by omega)]; exact b1.trm
    · intro d hd
      by_cases e : d = c
      · subst e; simp only [aGive, VA.mk_role, fu_s, if_neg g, zsI_s, pk_us]; rfl
      · rw [zsI_s, pk_un e]
        have := b1.rol d hd
        simp only [aGive, VA.mk_role, fu_n e]; simp only [VA.mk_role] at this; exact this
    · rw [zsI_n (by omega)]; exact b1.vot
    · intro d hd h1
      rw [zsI_n (by omega)]
      by_cases e : d = c
      · subst e; simp only [aGive, VA.mk_role, fu_s, if_neg g] at h1; omega
      · apply b1.sup d hd
        simp only [aGive, VA.mk_role, fu_n e] at h1; simp only [VA.mk_role]; exact h1
    · rw [zsI_n (by omega)]; exact b1.len
    · rw [zsI_n (by omega)]; exact b1.vtm
    · intro d hd i hi
      rw [zsI_n (by omega)]; exact b1.log d hd i hi
theorem c_ask1 (o N : Nat) {A : VA} {M : zMem} (hA : QA o A M) (hk : AOK A) {v c : Nat} (hv : v < 5) (hc : c < 5) (hr : A.role c = 1) : ∃ M', fX0_askForVote_B54 o N (nI v) (nI c) M = some (.inl (nI (aVote1 v c A).1.toNat), M') ∧ QA o (aVote1 v c A).2 M' ∧ zfr o M M' := by
  have h5 := hk.vote v hv
  unfold fX0_askForVote_B54
  simp only [z5 hv, z5 hc, if_true]
  rw [nI_clamp (by omega), hA.1.vot v hv]
  unfold aVote1
  by_cases g1 : A.vote v = c + 1
  · rw [if_pos g1, g1, if_pos (nI_pred c)]
    exact ⟨M, rfl, hA, zfr.refl⟩
  · have g1' : ¬ nI (A.vote v) - 1 = nI c := by
      intro q
      by_cases z : A.vote v = 0
      · rw [z] at q
        have key : ∀ c, c < 5 → ¬ nI 0 - 1 = nI c := by decide +kernel
        exact key c hc q
      · rw [q_pred (by omega)] at q
        have := (nI_eq (by omega) (by omega)).mp q
        omega
    rw [if_neg g1, if_neg g1']
    by_cases g2 : A.vote v = 0
    · rw [if_pos g2, g2, if_pos (by decide), c_better o N hA hk hv hc, q_zb]
      cases hb : aBetter A v c
      · rw [if_pos (by decide), if_neg (by decide)]
        obtain ⟨M', e1, e2, e3⟩ := c_give o N hA hk hv hc hr
        rw [e1, q_zb]
        exact ⟨M', rfl, e2, e3⟩
      · rw [if_neg (by decide), if_pos rfl]
        exact ⟨M, rfl, hA, zfr.refl⟩
    · rw [if_neg g2, if_neg]
      · exact ⟨M, rfl, hA, zfr.refl⟩
      · rw [q_pred (by omega)]
        intro q
        have key : ∀ c, c < 5 → ¬ nI c = -1 := by decide +kernel
        exact key _ (by omega) q
theorem AOK_take {A : VA} (hk : AOK A) {b t : Nat} (ht : t ≤ 100) : AOK (aTake b t A) := by
  refine AOK.mk hk.grp ?_ ?_ ?_ ?_ ?_ hk.len hk.ver hk.vt hk.logv hk.logi ?_ hk.ev0
  · intro c hc
    simp only [aTake, VA.mk_term, fu_e]
    split
    · exact ht
    · exact hk.term c hc
  · intro c hc
    simp only [aTake, VA.mk_role, fu_e]
    split
    · omega
    · exact hk.role c hc
  · intro c hc
    by_cases e : c = b
    · simp only [aTake, VA.mk_role, e, fu_s]; omega
    · simp only [aTake, VA.mk_role, VA.mk_term, fu_n e]; exact hk.rt c hc
  · intro c hc
    simp only [aTake, VA.mk_vote, fu_e]
    split
    · omega
    · exact hk.vote c hc
  · intro c hc
    by_cases e : c = b
    · simp only [aTake, VA.mk_role, e, fu_s]; omega
    · simp only [aTake, VA.mk_role, VA.mk_sup, fu_n e]; exact hk.sup c hc
  · intro v h
    apply hk.evh v
    unfold held at h ⊢
    rw [hset_eq (A' := aTake b t A) (A := A) (fun _ _ => rfl) (fun _ _ => rfl)] at h
    exact h
theorem c_ask (o N : Nat) {A : VA} {M : zMem} (hA : QA o A M) (hk : AOK A) {v c : Nat} (hv : v < 5) (hc : c < 5) (hvc : v ≠ c) (hr : A.role c = 1) : ∃ M', fX0_askForVote o N (nI v) (nI c) M = some (.inl (nI (aVote v c A).1.toNat), M') ∧ QA o (aVote v c A).2 M' ∧ zfr o M M' := by
  have t1 := hk.term v hv
  have t2 := hk.term c hc
  unfold fX0_askForVote
  simp only [z5 hv, z5 hc, if_true]
  rw [nI_clamp (by omega), nI_clamp (by omega), hA.1.trm v hv, hA.1.trm c hc]
  unfold aVote
  by_cases g1 : A.term c < A.term v
  · rw [if_pos g1, if_neg (nI_ge g1 (by omega))]
    obtain ⟨M', e1, e2, e3⟩ := c_take o N hA (b := c) (t := A.term v) hc
    rw [e1, q_zb]
    exact ⟨M', rfl, e2, e3⟩
  · rw [if_neg g1, if_pos (nI_le (by omega) (by omega))]
    by_cases g2 : A.term v < A.term c
    · rw [if_pos g2, if_neg (nI_ge g2 (by omega))]
      obtain ⟨M', e1, e2, e3⟩ := c_take o N hA (b := v) (t := A.term c) hv
      rw [e1, q_zb]
      obtain ⟨M2, e4, e5, e6⟩ := c_ask1 o N e2 (AOK_take hk t2) hv hc (by simp only [aTake, VA.mk_role, fu_n (Ne.symm hvc)]; exact hr)
      exact ⟨M2, e4, e5, e3.trans e6⟩
    · rw [if_neg g2, if_pos (nI_le (by omega) (by omega))]
      exact c_ask1 o N hA hk hv hc hr
