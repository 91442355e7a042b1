/-! pure: sendLog; what each step keeps -/
theorem AOK_unrole {A : VA} (hk : AOK A) {r : Nat} : AOK ((VA.mk A.grp A.V A.term (fu A.role r (if A.role r = 1 then 0 else A.role r)) A.vote A.sup A.len A.vt A.ev A.log)) := by
  refine AOK.mk hk.grp hk.term ?_ ?_ hk.vote ?_ hk.len hk.ver hk.vt hk.logv hk.logi hk.evh hk.ev0
  · intro c hc
    simp only [VA.mk_role, fu_e]
    by_cases e : c = r
    · subst e; rw [if_pos rfl]; have := hk.role c hc; split <;> omega
    · rw [if_neg e]; exact hk.role c hc
  · intro c hc
    simp only [VA.mk_role, VA.mk_term, fu_e]
    by_cases e : c = r
    · subst e; rw [if_pos rfl]; have := hk.rt c hc; split <;> omega
    · rw [if_neg e]; exact hk.rt c hc
  · intro c hc
    simp only [VA.mk_role, VA.mk_sup, fu_e]
    by_cases e : c = r
    · subst e; rw [if_pos rfl]; intro q; split at q
      · omega
      · exact hk.sup c hc q
    · rw [if_neg e]; exact hk.sup c hc
theorem AOK_tell {A : VA} (hk : AOK A) {s r : Nat} (hs : s < 5) (hr : r < 5) : AOK (aTell s r A) := by
  unfold aTell aTell1
  by_cases g : A.term s < A.term r
  · rw [if_pos g]; exact AOK_take hk (hk.term r hr)
  · rw [if_neg g]
    by_cases g2 : A.term r < A.term s
    · rw [if_pos g2]; exact AOK_send (AOK_take hk (hk.term s hs)) hs hr
    · rw [if_neg g2]; exact AOK_send (AOK_unrole hk) hs hr
theorem AOK_part {A : VA} (hk : AOK A) {g : Nat} (hg : g < 32) : AOK (aPart g A) :=
  AOK.mk hg hk.term hk.role hk.rt hk.vote hk.sup hk.len hk.ver hk.vt hk.logv hk.logi hk.evh hk.ev0
theorem AOK_stand {A : VA} (hk : AOK A) {b : Nat} (hb : b < 5) (ht : A.term b < 100) : AOK (aStand b A) := by
  refine AOK.mk hk.grp ?_ ?_ ?_ ?_ ?_ hk.len hk.ver hk.vt hk.logv hk.logi hk.evh hk.ev0
  · intro c hc
    simp only [aStand, VA.mk_term, fu_e]
    split
    · omega
    · exact hk.term c hc
  · intro c hc
    simp only [aStand, VA.mk_role, fu_e]
    split
    · omega
    · exact hk.role c hc
  · intro c hc
    by_cases e : c = b
    · simp only [aStand, VA.mk_role, VA.mk_term, e, fu_s]; omega
    · simp only [aStand, VA.mk_role, VA.mk_term, fu_n e]; exact hk.rt c hc
  · intro c hc
    simp only [aStand, VA.mk_vote, fu_e]
    split
    · omega
    · exact hk.vote c hc
  · intro c hc
    by_cases e : c = b
    · subst e
      simp only [aStand, VA.mk_sup, fu_s]
      intro _
      have key : ∀ c, c < 5 → 2 ^ c < 32 ∧ p5 (2 ^ c) < 3 := by decide +kernel
      exact key c hc
    · simp only [aStand, VA.mk_role, VA.mk_sup, fu_n e]; exact hk.sup c hc
theorem AOK_give {A : VA} (hk : AOK A) {v c : Nat} (hv : v < 5) (hc : c < 5) (hr : A.role c = 1) : AOK (aGive v c A) := by
  refine AOK.mk hk.grp hk.term ?_ ?_ ?_ ?_ hk.len hk.ver hk.vt hk.logv hk.logi hk.evh hk.ev0
  · intro d hd
    simp only [aGive, VA.mk_role, fu_e]
    split
    · split <;> omega
    · exact hk.role d hd
  · intro d hd
    by_cases e : d = c
    · subst e; intro _; exact hk.rt d hd (by omega)
    · simp only [aGive, VA.mk_role, VA.mk_term, fu_n e]; exact hk.rt d hd
  · intro d hd
    simp only [aGive, VA.mk_vote, fu_e]
    split
    · omega
    · exact hk.vote d hd
  · intro d hd
    by_cases e : d = c
    · subst e
      simp only [aGive, VA.mk_role, VA.mk_sup, fu_s]
      by_cases g : p5 (A.sup d ||| 2 ^ v) < 3
      · intro _; exact ⟨q_orlt (hk.sup d hd hr).1 hv, g⟩
      · rw [if_neg g]; intro q; omega
    · simp only [aGive, VA.mk_role, VA.mk_sup, fu_n e]; exact hk.sup d hd
theorem AOK_vote1 {A : VA} (hk : AOK A) {v c : Nat} (hv : v < 5) (hc : c < 5) (hr : A.role c = 1) : AOK (aVote1 v c A).2 := by
  unfold aVote1
  split
  · exact hk
  · split
    · split
      · exact hk
      · exact AOK_give hk hv hc hr
    · exact hk
theorem AOK_vote {A : VA} (hk : AOK A) {v c : Nat} (hv : v < 5) (hc : c < 5) (hvc : v ≠ c) (hr : A.role c = 1) : AOK (aVote v c A).2 := by
  unfold aVote
  split
  · exact AOK_take hk (hk.term v hv)
  · split
    · exact AOK_vote1 (AOK_take hk (hk.term c hc)) hv hc (by simp only [aTake, VA.mk_role, fu_n (Ne.symm hvc)]; exact hr)
    · exact AOK_vote1 hk hv hc hr
theorem AOK_step {k a b : Nat} {A A' : VA} (hk : AOK A) (h : aStep k a b A A') : AOK A' := by
  rcases h with ⟨-, h1, rfl⟩ | ⟨-, h1, h2, rfl⟩ | ⟨-, h1, h2, h3, h4, rfl⟩ | ⟨-, h1, h2, h3, h4, rfl⟩ | ⟨-, h1, h2, h3, h4, rfl⟩
  · exact AOK_part hk h1
  · exact AOK_stand hk h1 h2
  · exact AOK_vote hk h1 h2 h3 h4
  · exact AOK_prop hk h1 h3 h4 h2
  · exact AOK_tell hk h1 h2
theorem AOK_A0 : AOK A0 := by
  refine AOK.mk (by decide) ?_ ?_ ?_ ?_ ?_ ?_ (by decide) ?_ ?_ ?_ ?_ ?_
  · intro b _; exact Nat.zero_le _
  · intro b _; exact Nat.zero_le _
  · intro b _ h; exact absurd rfl h
  · intro b _; exact Nat.zero_le _
  · intro b _ h; exact absurd h (show ¬ (0 : Nat) = 1 by decide)
  · intro b _; exact Nat.zero_le _
  · intro v hv; exact absurd hv (Nat.not_lt_zero _)
  · intro b _ i hi; exact absurd hi (Nat.not_lt_zero _)
  · intro b _ i j hi; exact absurd hi (Nat.not_lt_zero _)
  · intro v h
    obtain ⟨b, hb, q⟩ := held_some h
    obtain ⟨i, hi, e⟩ := hasb_iff.mp q
    exact absurd hi (Nat.not_lt_zero _)
  · intro v _; rfl
theorem c_unrole (o : Nat) {A : VA} {M : zMem} (hA : QA o A M) {r : Nat} (hr : r < 5) (h1 : A.role r = 1) : QA o ((VA.mk A.grp A.V A.term (fu A.role r (if A.role r = 1 then 0 else A.role r)) A.vote A.sup A.len A.vt A.ev A.log)) (zsI M (o + 2) r 0) := by
  refine ⟨QL.mk ?_ ?_ ?_ ?_ ?_ ?_ ?_ ?_ ?_, ?_⟩
  · simp (disch := omega) only [zsI_n]; exact hA.1.grp
  · simp (disch := omega) only [zsI_n]; exact hA.1.ver
  · simp (disch := omega) only [zsI_n]; exact hA.1.trm
  · intro c hc
    by_cases e : c = r
    · subst e; simp only [zsI_s, pk_us, VA.mk_role, fu_s, if_pos h1, nI_0]
    · simp only [zsI_s, pk_un e, VA.mk_role, fu_n e]; exact hA.1.rol c hc
  · simp (disch := omega) only [zsI_n]; exact hA.1.vot
  · intro c hc q
    simp (disch := omega) only [zsI_n]
    by_cases e : c = r
    · subst e; simp only [VA.mk_role, fu_s, if_pos h1] at q; omega
    · simp only [VA.mk_role, fu_n e] at q; exact hA.1.sup c hc q
  · simp (disch := omega) only [zsI_n]; exact hA.1.len
  · simp (disch := omega) only [zsI_n]; exact hA.1.vtm
  · intro c hc i hi
    simp (disch := omega) only [zsI_n]; exact hA.1.log c hc i hi
  · refine QS.off (hA.2.same (fun v _ => hset_eq (fun _ _ => rfl) (fun _ _ => rfl) v)) ?_ rfl
    simp (disch := omega) only [zsI_n]
theorem fu_id {f : Nat → Nat} {b x : Nat} (h : x = f b) : fu f b x = f := by
  funext j
  simp only [fu_e]
  split
  · rename_i e; rw [e, h]
  · rfl
theorem aDiff_same {A A' : VA} {s r : Nat} (h : A'.log = A.log) : ∀ k i, aDiff A' s r k i = aDiff A s r k i := by
  intro k
  induction k with
  | zero => intro i; rfl
  | succ k ih => intro i; unfold aDiff; rw [h, ih]
theorem aCut_same {A A' : VA} {s r : Nat} (h : A'.log = A.log) (h2 : A'.len = A.len) : aCut A' s r = aCut A s r := by
  unfold aCut
  rw [h2, aDiff_same h]
/-- what tell answers: none for the older term -/
def aTold (s r : Nat) (A : VA) : Int32 := if A.term s < A.term r then -1 else nI (A.len s - aCut A s r)
theorem c_tell (o N : Nat) (hN : 21 ≤ N) {A : VA} {M : zMem} (hA : QA o A M) (hk : AOK A) {s r : Nat} (hs : s < 5) (hr : r < 5) (hsr : s ≠ r) : ∃ M', fX0_sendLog o N (nI s) (nI r) M = some (.inl (aTold s r A), M') ∧ QA o (aTell s r A) M' ∧ zfr o M M' := by
  have t1 := hk.term s hs
  have t2 := hk.term r hr
  have r2 := hk.role r hr
  unfold fX0_sendLog
  simp only [z5 hs, z5 hr, if_true]
  rw [nI_clamp (by omega), nI_clamp (by omega), hA.1.trm s hs, hA.1.trm r hr, hA.1.rol r hr]
  unfold aTell aTell1 aTold
  by_cases g : A.term s < A.term r
  · rw [if_pos g, if_pos g, if_neg (nI_ge g (by omega))]
    obtain ⟨M', e1, e2, e3⟩ := c_take o N hA (b := s) (t := A.term r) hs
    rw [e1, q_zb]
    exact ⟨M', rfl, e2, e3⟩
  · rw [if_neg g, if_neg g, if_pos (nI_le (by omega) (by omega))]
    by_cases g2 : A.term r < A.term s
    · rw [if_pos g2, if_neg (nI_ge g2 (by omega))]
      obtain ⟨M', e1, e2, e3⟩ := c_take o N hA (b := r) (t := A.term s) hr
      rw [e1, q_zb]
      obtain ⟨M2, e4, e5, e6⟩ := c_send o N hN e2 (AOK_take hk t1) hs hr hsr
      rw [aCut_same (A' := aTake r (A.term s) A) (A := A) rfl rfl] at e4
      exact ⟨M2, e4, e5, e3.trans e6⟩
    · rw [if_neg g2, if_pos (nI_le (by omega) (by omega))]
      by_cases g3 : A.role r = 1
      · rw [if_pos (by rw [g3]; rfl), q_zl]
        obtain ⟨M2, e4, e5, e6⟩ := c_send o N hN (c_unrole o hA hr g3) (AOK_unrole hk) hs hr hsr
        rw [aCut_same (A' := (VA.mk A.grp A.V A.term (fu A.role r (if A.role r = 1 then 0 else A.role r)) A.vote A.sup A.len A.vt A.ev A.log)) (A := A) rfl rfl] at e4
        exact ⟨M2, e4, e5, (zfr.refl.sI (by omega)).trans e6⟩
      · rw [if_neg (show ¬ nI (A.role r) = 1 from fun q => g3 ((nI_eq (b := 1) (by omega) (by decide)).mp q)), if_neg g3, fu_id rfl]
        exact c_send o N hN hA hk hs hr hsr
