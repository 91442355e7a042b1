/-! p46: what always holds of the agreement, as far as the law asks -/
def AX (A : VA) : Prop := (∀ b, b < 5 → A.role b ≠ 0 → A.vote b = b + 1) ∧ (∀ b, b < 5 → ∀ i, i < A.len b → A.vt (A.log b i) ≤ A.term b) ∧ ∀ b, b < 5 → ∀ i, i + 1 < A.len b → A.vt (A.log b i) ≤ A.vt (A.log b (i + 1))
theorem AX_0 : AX A0 := ⟨fun b _ h => absurd rfl h, fun b _ i hi => absurd hi (Nat.not_lt_zero _), fun b _ i hi => absurd hi (Nat.not_lt_zero _)⟩
theorem AX_take {A : VA} (h : AX A) {b t : Nat} (ht : A.term b ≤ t) : AX (aTake b t A) := by
  refine ⟨fun c hc q => ?_, fun c hc i hi => ?_, h.2.2⟩
  · have q' : fu A.role b 0 c ≠ 0 := q
    show fu A.vote b 0 c = c + 1
    by_cases e : c = b
    · subst e; rw [fu_s] at q'; exact absurd rfl q'
    · rw [fu_n e] at q' ⊢; exact h.1 c hc q'
  · have k := h.2.1 c hc i hi
    show A.vt (A.log c i) ≤ fu A.term b t c
    by_cases e : c = b
    · subst e; rw [fu_s]; omega
    · rw [fu_n e]; exact k
theorem AX_unrole {A : VA} (h : AX A) {r : Nat} {A' : VA} (e1 : A'.role = fu A.role r (if A.role r = 1 then 0 else A.role r)) (e2 : A'.vote = A.vote) (e3 : A'.len = A.len) (e4 : A'.log = A.log) (e5 : A'.term = A.term) (e6 : A'.vt = A.vt) : AX A' := by
  unfold AX
  rw [e1, e2, e3, e4, e5, e6]
  refine ⟨fun c hc q => ?_, h.2.1, h.2.2⟩
  by_cases e : c = r
  · subst e
    rw [fu_s] at q
    exact h.1 c hc (fun z => q (by rw [z]; rfl))
  · rw [fu_n e] at q; exact h.1 c hc q
theorem AX_stand {A : VA} (h : AX A) {b : Nat} : AX (aStand b A) := by
  refine ⟨fun c hc q => ?_, fun c hc i hi => ?_, h.2.2⟩
  · have q' : fu A.role b 1 c ≠ 0 := q
    show fu A.vote b (b + 1) c = c + 1
    by_cases e : c = b
    · subst e; rw [fu_s]
    · rw [fu_n e] at q' ⊢; exact h.1 c hc q'
  · have k := h.2.1 c hc i hi
    show A.vt (A.log c i) ≤ fu A.term b (A.term b + 1) c
    by_cases e : c = b
    · subst e; rw [fu_s]; omega
    · rw [fu_n e]; exact k
theorem AX_vote1 {A : VA} (h : AX A) {v c : Nat} (hv : v < 5) (hvc : v ≠ c) (hr : A.role c = 1) : AX (aVote1 v c A).2 := by
  unfold aVote1
  split
  · exact h
  · split
    · rename_i h0
      split
      · exact h
      · refine ⟨fun d hd q => ?_, h.2.1, h.2.2⟩
        have q' : fu A.role c (if p5 (A.sup c ||| 2 ^ v) < 3 then A.role c else 2) d ≠ 0 := q
        show fu A.vote v (c + 1) d = d + 1
        by_cases e : d = v
        · subst e
          rw [fu_n hvc] at q'
          have := h.1 d hd q'
          omega
        · rw [fu_n e]
          by_cases e2 : d = c
          · subst e2; exact h.1 d hd (by omega)
          · rw [fu_n e2] at q'; exact h.1 d hd q'
    · exact h
theorem AX_vote {A : VA} (h : AX A) {v c : Nat} (hv : v < 5) (hvc : v ≠ c) (hr : A.role c = 1) : AX (aVote v c A).2 := by
  unfold aVote
  split
  · rename_i g; exact AX_take h (Nat.le_of_lt g)
  · split
    · rename_i g
      exact AX_vote1 (AX_take h (Nat.le_of_lt g)) hv hvc (by simp only [aTake, VA.mk_role, fu_n (Ne.symm hvc)]; exact hr)
    · exact AX_vote1 h hv hvc hr
theorem AX_prop {A : VA} (h : AX A) (hk : AOK A) {b : Nat} (hb : b < 5) : AX (aProp b A) := by
  have off : ∀ c, c ≠ b → (aProp b A).len c = A.len c ∧ (aProp b A).log c = A.log c := fun c hc => ⟨by simp only [aProp, VA.mk_len, fu_n hc], by simp only [aProp, VA.mk_log, if_neg hc]⟩
  have vo : ∀ v, v < A.V → (aProp b A).vt v = A.vt v := fun v hv => by simp only [aProp, VA.mk_vt]; exact fu_n (by omega)
  have on1 : (aProp b A).len b = A.len b + 1 := by simp only [aProp, VA.mk_len, fu_s]
  have on2 : ∀ i, i < A.len b → (aProp b A).log b i = A.log b i := fun i hi => by
    simp only [aProp, VA.mk_log, if_pos]; rw [fu_n (by omega)]
  have on3 : (aProp b A).log b (A.len b) = A.V := by simp only [aProp, VA.mk_log, if_pos, fu_s]
  have on4 : (aProp b A).vt A.V = A.term b := by simp only [aProp, VA.mk_vt, fu_s]
  refine ⟨h.1, fun c hc i hi => ?_, fun c hc i hi => ?_⟩
  · show (aProp b A).vt ((aProp b A).log c i) ≤ A.term c
    by_cases e : c = b
    · subst e
      rw [on1] at hi
      by_cases e2 : i = A.len c
      · subst e2; rw [on3, on4]; exact Nat.le_refl _
      · rw [on2 i (by omega), vo _ (hk.logv c hc i (by omega))]; exact h.2.1 c hc i (by omega)
    · rw [(off c e).1] at hi
      rw [(off c e).2, vo _ (hk.logv c hc i hi)]; exact h.2.1 c hc i hi
  · by_cases e : c = b
    · subst e
      rw [on1] at hi
      rw [on2 i (by omega), vo _ (hk.logv c hc i (by omega))]
      by_cases e2 : i + 1 = A.len c
      · rw [e2, on3, on4]; exact h.2.1 c hc i (by omega)
      · rw [on2 (i + 1) (by omega), vo _ (hk.logv c hc (i + 1) (by omega))]; exact h.2.2 c hc i (by omega)
    · rw [(off c e).1] at hi
      rw [(off c e).2, vo _ (hk.logv c hc i (by omega)), vo _ (hk.logv c hc (i + 1) hi)]; exact h.2.2 c hc i hi
theorem AX_send {A : VA} (h : AX A) {s r : Nat} (hs : s < 5) (hr : r < 5) (ht : A.term s ≤ A.term r) : AX (aSend s r A) := by
  have off : ∀ c, c ≠ r → (aSend1 s r A).len c = A.len c ∧ (aSend1 s r A).log c = A.log c := fun c hc => ⟨by simp only [aSend1, VA.mk_len, fu_n hc], by simp only [aSend1, VA.mk_log, if_neg hc]⟩
  refine ⟨h.1, fun c hc i hi => ?_, fun c hc i hi => ?_⟩
  · have hi' : i < (aSend1 s r A).len c := hi
    show A.vt ((aSend1 s r A).log c i) ≤ A.term c
    by_cases e : c = r
    · subst e
      rcases send_row (A := A) (s := s) (r := c) with ⟨q1, q2⟩ | ⟨q1, q2⟩
      · rw [q1] at hi'; rw [q2 i hi']; have := h.2.1 s hs i hi'; omega
      · rw [q1] at hi'; rw [q2 i hi']; exact h.2.1 c hc i hi'
    · rw [(off c e).1] at hi'; rw [(off c e).2]; exact h.2.1 c hc i hi'
  · have hi' : i + 1 < (aSend1 s r A).len c := hi
    show A.vt ((aSend1 s r A).log c i) ≤ A.vt ((aSend1 s r A).log c (i + 1))
    by_cases e : c = r
    · subst e
      rcases send_row (A := A) (s := s) (r := c) with ⟨q1, q2⟩ | ⟨q1, q2⟩
      · rw [q1] at hi'; rw [q2 i (by omega), q2 (i + 1) hi']; exact h.2.2 s hs i hi'
      · rw [q1] at hi'; rw [q2 i (by omega), q2 (i + 1) hi']; exact h.2.2 c hc i hi'
    · rw [(off c e).1] at hi'; rw [(off c e).2]; exact h.2.2 c hc i hi'
theorem AX_tell {A : VA} (h : AX A) {s r : Nat} (hs : s < 5) (hr : r < 5) (hsr : s ≠ r) : AX (aTell s r A) := by
  unfold aTell aTell1
  split
  · rename_i g; exact AX_take h (Nat.le_of_lt g)
  · split
    · rename_i g
      refine AX_send (AX_take h (Nat.le_of_lt g)) hs hr ?_
      show fu A.term r (A.term s) s ≤ fu A.term r (A.term s) r
      rw [fu_s, fu_n hsr]
      exact Nat.le_refl _
    · rename_i g g2
      exact AX_send (AX_unrole (r := r) (A' := (VA.mk A.grp A.V A.term (fu A.role r (if A.role r = 1 then 0 else A.role r)) A.vote A.sup A.len A.vt A.ev A.log)) h rfl rfl rfl rfl rfl rfl) hs hr (show A.term s ≤ A.term r by omega)
theorem AX_step {k a b : Nat} {A A' : VA} (h : AX A) (hk : AOK A) (hs : aStep k a b A A') : AX A' := by
  rcases hs with ⟨-, h1, rfl⟩ | ⟨-, h1, h2, rfl⟩ | ⟨-, h1, h2, h3, h4, rfl⟩ | ⟨-, h1, h2, h3, h4, rfl⟩ | ⟨-, h1, h2, h3, h4, rfl⟩
  · exact h
  · exact AX_stand h
  · exact AX_vote h h1 h3 h4
  · exact AX_prop h hk h1
  · exact AX_tell h h1 h2 h3
theorem QT.ax {n : Nat} {A : VA} {M : zMem} (h : QT n A M) : AX A := by
  obtain ⟨hc, ks, ps, qs, As, h1, h2, h3, h4, h5⟩ := h
  have key : ∀ j, j ≤ hc → AX (As j) := by
    intro j
    induction j with
    | zero => intro _; rw [h3]; exact AX_0
    | succ j ih =>
      intro q
      obtain ⟨-, -, -, g4, g5⟩ := h5 j (by omega)
      exact AX_step (ih (by omega)) g4 g5
  rw [← h4]
  exact key hc (Nat.le_refl _)
/-- no term is above T -/
def TB (T : Nat) (A : VA) : Prop := ∀ b, b < 5 → A.term b ≤ T
theorem TB.up {T T' : Nat} {A : VA} (h : TB T A) (q : T ≤ T') : TB T' A := fun b hb => Nat.le_trans (h b hb) q
theorem TB.take {T : Nat} {A : VA} (h : TB T A) {b t : Nat} (ht : t ≤ T) : TB T (aTake b t A) := fun c hc => by
  show fu A.term b t c ≤ T
  rw [fu_e]; split
  · exact ht
  · exact h c hc
theorem TB.stand {T : Nat} {A : VA} (h : TB T A) {b : Nat} (hb : b < 5) : TB (T + 1) (aStand b A) := fun c hc => by
  show fu A.term b (A.term b + 1) c ≤ T + 1
  rw [fu_e]; split
  · have := h b hb; omega
  · have := h c hc; omega
theorem vote1_term {A : VA} {v c : Nat} : (aVote1 v c A).2.term = A.term := by
  unfold aVote1
  split
  · rfl
  · split
    · split <;> rfl
    · rfl
theorem TB.vote {T : Nat} {A : VA} (h : TB T A) {v c : Nat} (hv : v < 5) (hc : c < 5) : TB T (aVote v c A).2 := by
  unfold aVote
  split
  · exact h.take (h v hv)
  · split
    · intro d hd; rw [vote1_term]; exact h.take (h c hc) d hd
    · intro d hd; rw [vote1_term]; exact h d hd
theorem TB.tell {T : Nat} {A : VA} (h : TB T A) {s r : Nat} (hs : s < 5) (hr : r < 5) : TB T (aTell s r A) := by
  unfold aTell aTell1
  split
  · exact h.take (h r hr)
  · split
    · exact h.take (h s hs)
    · exact h
/-- what a vote that was given shows -/
theorem vote1_yes {A : VA} {v c : Nat} (h : (aVote1 v c A).1 = true) : (aVote1 v c A).2.vote v = c + 1 := by
  unfold aVote1 at h ⊢
  by_cases g1 : A.vote v = c + 1
  · rw [if_pos g1]; exact g1
  · rw [if_neg g1] at h ⊢
    by_cases g2 : A.vote v = 0
    · rw [if_pos g2] at h ⊢
      by_cases g3 : aBetter A v c = true
      · rw [if_pos g3] at h; exact absurd h Bool.false_ne_true
      · rw [if_neg g3]; exact fu_s
    · rw [if_neg g2] at h; exact absurd h Bool.false_ne_true
theorem vote_yes {A : VA} {v c : Nat} (hvc : v ≠ c) (h : (aVote v c A).1 = true) : (aVote v c A).2.vote v = c + 1 ∧ (aVote v c A).2.term v = (aVote v c A).2.term c := by
  unfold aVote at h ⊢
  by_cases g1 : A.term c < A.term v
  · rw [if_pos g1] at h; exact absurd h Bool.false_ne_true
  · rw [if_neg g1] at h ⊢
    by_cases g2 : A.term v < A.term c
    · rw [if_pos g2] at h ⊢
      refine ⟨vote1_yes h, ?_⟩
      rw [vote1_term]
      show fu A.term v (A.term c) v = fu A.term v (A.term c) c
      rw [fu_s, fu_n (Ne.symm hvc)]
    · rw [if_neg g2] at h ⊢
      refine ⟨vote1_yes h, ?_⟩
      rw [vote1_term]
      omega
/-- what telling shows -/
theorem aDiff_all {A : VA} {s r : Nat} : ∀ k i, (∀ j, i ≤ j → j < i + k → A.log s j = A.log r j) → aDiff A s r k i = i + k := by
  intro k
  induction k with
  | zero => intro i _; rfl
  | succ k ih =>
    intro i h
    unfold aDiff
    rw [if_pos (h i (Nat.le_refl _) (by omega)), ih (i + 1) (fun j h1 h2 => h j (by omega) (by omega))]
    omega
theorem send_agree {A : VA} {s r : Nat} (hsr : s ≠ r) : (∀ j, j < A.len s → (aSend s r A).log s j = (aSend s r A).log r j) ∧ (aSend s r A).len s = A.len s ∧ A.len s ≤ (aSend s r A).len r := by
  have h2 := aDiff_eq (A := A) (s := s) (r := r) (min (A.len s) (A.len r)) 0
  have h1 := (aDiff_le (A := A) (s := s) (r := r) (min (A.len s) (A.len r)) 0).2
  have e1 : (aSend s r A).len s = A.len s := by simp only [aSend, aSend1, VA.mk_len, fu_n hsr]
  have e2 : (aSend s r A).len r = max (aCut A s r) (A.len s) := by simp only [aSend, aSend1, VA.mk_len, fu_s]
  have e3 : (aSend s r A).log s = A.log s := by simp only [aSend, aSend1, VA.mk_log, if_neg hsr]
  have e4 : ∀ j, (aSend s r A).log r j = if aCut A s r ≤ j then A.log s j else A.log r j := fun j => by simp only [aSend, aSend1, VA.mk_log, if_pos]
  refine ⟨fun j hj => ?_, e1, by rw [e2]; omega⟩
  rw [e3, e4 j]
  by_cases c : aCut A s r ≤ j
  · rw [if_pos c]
  · rw [if_neg c]
    refine h2 j (Nat.zero_le _) ?_
    by_cases d : aDiff A s r (min (A.len s) (A.len r)) 0 < min (A.len s) (A.len r)
    · have e : aCut A s r = aDiff A s r (min (A.len s) (A.len r)) 0 := if_pos d
      omega
    · have e : aCut A s r = A.len r := if_neg d
      omega
theorem tell_again {A : VA} {s r : Nat} (hsr : s ≠ r) (g : ¬ A.term s < A.term r) : aTold s r (aTell s r A) = 0 ∧ (aTell s r A).len s ≤ (aTell s r A).len r ∧ (aTell s r A).role s = A.role s ∧ tog (aTell s r A) s r = tog A s r := by
  have key : ∀ A1 : VA, A1.term s = A1.term r → aTold s r (aSend s r A1) = 0 ∧ (aSend s r A1).len s ≤ (aSend s r A1).len r := fun A1 ht => by
    obtain ⟨k1, k2, k3⟩ := send_agree (A := A1) hsr
    refine ⟨?_, by rw [k2]; exact k3⟩
    have hm : min ((aSend s r A1).len s) ((aSend s r A1).len r) = A1.len s := by rw [k2]; omega
    have hd := aDiff_all (A := aSend s r A1) (s := s) (r := r) (A1.len s) 0 (fun j _ hj => k1 j (by omega))
    have hc : aCut (aSend s r A1) s r = (aSend s r A1).len r := by
      unfold aCut
      rw [hm, hd, if_neg (by omega)]
    unfold aTold
    rw [if_neg (show ¬ (aSend s r A1).term s < (aSend s r A1).term r from (show ¬ A1.term s < A1.term r by omega)), hc, k2, Nat.sub_eq_zero_of_le k3, nI_0]
  unfold aTell aTell1
  rw [if_neg g]
  by_cases g2 : A.term r < A.term s
  · rw [if_pos g2]
    obtain ⟨q1, q2⟩ := key (aTake r (A.term s) A) (by show fu A.term r (A.term s) s = fu A.term r (A.term s) r; rw [fu_s, fu_n hsr])
    exact ⟨q1, q2, (show fu A.role r 0 s = A.role s from fu_n hsr), rfl⟩
  · rw [if_neg g2]
    obtain ⟨q1, q2⟩ := key (VA.mk A.grp A.V A.term (fu A.role r (if A.role r = 1 then 0 else A.role r)) A.vote A.sup A.len A.vt A.ev A.log) (show A.term s = A.term r by omega)
    exact ⟨q1, q2, (show fu A.role r (if A.role r = 1 then 0 else A.role r) s = A.role s from fu_n hsr), rfl⟩
theorem prop_new {A : VA} (hk : AOK A) {b : Nat} (hb : b < 5) : (aProp b A).len b = A.len b + 1 ∧ (aProp b A).log b (A.len b) = A.V ∧ hset (aProp b A) A.V = 2 ^ b ∧ (aProp b A).V = A.V + 1 := by
  refine ⟨by simp only [aProp, VA.mk_len, fu_s], by simp only [aProp, VA.mk_log, if_pos, fu_s], ?_, rfl⟩
  rw [prop_hset hb, if_pos rfl, hset_top hk (Nat.le_refl _), Nat.zero_or]
theorem cur_held {A : VA} {rc : Nat → Nat} {b q : Nat} : ∀ k, cur A rc b q k ≠ 0 → held A (cur A rc b q k - 1) = true := by
  intro k
  induction k with
  | zero => intro h; exact absurd rfl h
  | succ k ih =>
    intro h
    unfold cur at h ⊢
    by_cases g : rc (A.log b k) = q ∧ held A (A.log b k) = true
    · rw [if_pos g, Nat.add_sub_cancel]; exact g.2
    · rw [if_neg g] at h ⊢; exact ih h
/-- the law counts the bits of a set of bakeries -/
theorem v_bits (N : Nat) (hN : 6 ≤ N) {s : Nat} (hs : s < 32) (M : zMem) : fL_bits N (nI s) M = some (.inl (nI (p5 s)), M) := by
  have key : ∀ s, s < 32 → s ≠ 0 → nI s &&& (nI s - 1) = nI (s &&& (s - 1)) ∧ s &&& (s - 1) < 32 ∧ p5 s = p5 (s &&& (s - 1)) + 1 := by decide +kernel
  have loop : ∀ n s c, s < 32 → p5 s < n → fL_bits_B4 N n (nI c) (nI s) M = some (.inl (nI (c + p5 s)), M) := by
    intro n
    induction n with
    | zero => intro s c h1 h2; omega
    | succ n ih =>
      intro s c h1 h2
      rw [fL_bits_B4]
      by_cases g : s = 0
      · subst g; rw [if_pos (by rfl), p5_0]; rfl
      · obtain ⟨k1, k2, k3⟩ := key s h1 g
        rw [if_neg (nI_ne0 (by omega) (by omega)), k1, q_zv, nI_1, ih _ _ k2 (by omega), k3]
        rw [show c + 1 + p5 (s &&& (s - 1)) = c + (p5 (s &&& (s - 1)) + 1) by omega]
  have h5 := p5_le s
  have := loop N s 0 hs (by omega)
  rw [Nat.zero_add, nI_0] at this
  exact this
