/-! pure: no two leaders of one term; out of the history -/
def ES (A : VA) : Prop := ∃ g : Nat → Nat → Nat, (∀ b, b < 5 → g b (A.term b) = A.vote b) ∧ (∀ b, b < 5 → ∀ t, A.term b < t → g b t = 0) ∧ (∀ c, c < 5 → A.role c ≠ 0 → ∀ b, b < 5 → (A.sup c).testBit b = true → g b (A.term c) = c + 1) ∧ (∀ c, c < 5 → A.role c = 2 → 3 ≤ p5 (A.sup c))
theorem ES_0 : ES A0 := ⟨fun _ _ => 0, fun _ _ => rfl, fun _ _ _ _ => rfl, fun c _ h => absurd rfl h, fun c _ h => absurd h (show ¬ (0 : Nat) = 2 by decide)⟩
theorem ES_same {A A' : VA} (h : ES A) (e1 : A'.term = A.term) (e2 : A'.vote = A.vote) (e3 : A'.sup = A.sup) (e4 : ∀ c, c < 5 → A'.role c ≠ 0 → A'.role c = A.role c) : ES A' := by
  obtain ⟨g, h1, h2, h3, h4⟩ := h
  refine ⟨g, by rw [e1, e2]; exact h1, by rw [e1]; exact h2, ?_, ?_⟩
  · intro c hc q
    rw [e1, e3]
    exact h3 c hc (by rw [← e4 c hc q]; exact q)
  · intro c hc q
    rw [e3]
    exact h4 c hc (by rw [← e4 c hc (by omega)]; exact q)
theorem ES_take {A : VA} (h : ES A) {b t : Nat} (ht : A.term b < t) : ES (aTake b t A) := by
  obtain ⟨g, h1, h2, h3, h4⟩ := h
  refine ⟨g, ?_, ?_, ?_, ?_⟩
  · intro c hc
    show g c (fu A.term b t c) = fu A.vote b 0 c
    by_cases e : c = b
    · subst e; rw [fu_s, fu_s]; exact h2 c hc t ht
    · rw [fu_n e, fu_n e]; exact h1 c hc
  · intro c hc u hu
    have hu' : fu A.term b t c < u := hu
    by_cases e : c = b
    · subst e; rw [fu_s] at hu'; exact h2 c hc u (by omega)
    · rw [fu_n e] at hu'; exact h2 c hc u hu'
  · intro c hc q d hd k
    have q' : fu A.role b 0 c ≠ 0 := q
    show g d (fu A.term b t c) = c + 1
    by_cases e : c = b
    · subst e; rw [fu_s] at q'; exact absurd rfl q'
    · rw [fu_n e] at q'; rw [fu_n e]; exact h3 c hc q' d hd k
  · intro c hc q
    have q' : fu A.role b 0 c = 2 := q
    by_cases e : c = b
    · subst e; rw [fu_s] at q'; omega
    · rw [fu_n e] at q'; exact h4 c hc q'
theorem ES_stand {A : VA} (h : ES A) {b : Nat} (hb : b < 5) : ES (aStand b A) := by
  obtain ⟨g, h1, h2, h3, h4⟩ := h
  have g0 := h2 b hb (A.term b + 1) (by omega)
  refine ⟨fun c u => if c = b ∧ u = A.term b + 1 then b + 1 else g c u, ?_, ?_, ?_, ?_⟩
  · intro c hc
    show (if c = b ∧ fu A.term b (A.term b + 1) c = A.term b + 1 then b + 1 else g c (fu A.term b (A.term b + 1) c)) = fu A.vote b (b + 1) c
    by_cases e : c = b
    · subst e; rw [fu_s, fu_s, if_pos ⟨rfl, rfl⟩]
    · rw [fu_n e, fu_n e, if_neg (fun q => e q.1)]; exact h1 c hc
  · intro c hc u hu
    have hu' : fu A.term b (A.term b + 1) c < u := hu
    show (if c = b ∧ u = A.term b + 1 then b + 1 else g c u) = 0
    by_cases e : c = b
    · subst e; rw [fu_s] at hu'; rw [if_neg (by omega)]; exact h2 c hc u (by omega)
    · rw [fu_n e] at hu'; rw [if_neg (fun q => e q.1)]; exact h2 c hc u hu'
  · intro c hc q d hd k
    have q' : fu A.role b 1 c ≠ 0 := q
    have k' : (fu A.sup b (2 ^ b) c).testBit d = true := k
    show (if d = b ∧ fu A.term b (A.term b + 1) c = A.term b + 1 then b + 1 else g d (fu A.term b (A.term b + 1) c)) = c + 1
    by_cases e : c = b
    · subst e
      rw [fu_s] at k' ⊢
      have key : ∀ c, c < 5 → ∀ d, d < 5 → (2 ^ c).testBit d = true → d = c := by decide +kernel
      rw [if_pos ⟨key c hc d hd k', rfl⟩]
    · rw [fu_n e] at q' k' ⊢
      have := h3 c hc q' d hd k'
      rw [if_neg]
      · exact this
      · rintro ⟨r1, r2⟩
        subst r1
        rw [r2, g0] at this
        omega
  · intro c hc q
    have q' : fu A.role b 1 c = 2 := q
    show 3 ≤ p5 (fu A.sup b (2 ^ b) c)
    by_cases e : c = b
    · subst e; rw [fu_s] at q'; omega
    · rw [fu_n e] at q' ⊢; exact h4 c hc q'
theorem ES_give {A : VA} (h : ES A) {v c : Nat} (hv : v < 5) (hc : c < 5) (hr : A.role c = 1) (ht : A.term v = A.term c) (h0 : A.vote v = 0) (hs : A.sup c < 32) : ES (aGive v c A) := by
  obtain ⟨g, h1, h2, h3, h4⟩ := h
  have g0 := h1 v hv
  rw [h0] at g0
  refine ⟨fun d u => if d = v ∧ u = A.term v then c + 1 else g d u, ?_, ?_, ?_, ?_⟩
  · intro d hd
    show (if d = v ∧ A.term d = A.term v then c + 1 else g d (A.term d)) = fu A.vote v (c + 1) d
    by_cases e : d = v
    · subst e; rw [fu_s, if_pos ⟨rfl, rfl⟩]
    · rw [fu_n e, if_neg (fun q => e q.1)]; exact h1 d hd
  · intro d hd u hu
    have hu' : A.term d < u := hu
    show (if d = v ∧ u = A.term v then c + 1 else g d u) = 0
    rw [if_neg]
    · exact h2 d hd u hu'
    · rintro ⟨r1, r2⟩; subst r1; omega
  · intro d hd q b hb k
    have q' : fu A.role c (if p5 (A.sup c ||| 2 ^ v) < 3 then A.role c else 2) d ≠ 0 := q
    have k' : (fu A.sup c (A.sup c ||| 2 ^ v) d).testBit b = true := k
    show (if b = v ∧ A.term d = A.term v then c + 1 else g b (A.term d)) = d + 1
    by_cases e : d = c
    · subst e
      rw [fu_s, q_orb hs hv hb] at k'
      by_cases e2 : b = v
      · rw [if_pos ⟨e2, ht.symm⟩]
      · rw [decide_eq_false e2, Bool.or_false] at k'
        rw [if_neg (fun q => e2 q.1)]
        exact h3 d hd (by omega) b hb k'
    · rw [fu_n e] at q' k'
      have := h3 d hd q' b hb k'
      rw [if_neg]
      · exact this
      · rintro ⟨r1, r2⟩
        subst r1
        rw [r2, g0] at this
        omega
  · intro d hd q
    have q' : fu A.role c (if p5 (A.sup c ||| 2 ^ v) < 3 then A.role c else 2) d = 2 := q
    show 3 ≤ p5 (fu A.sup c (A.sup c ||| 2 ^ v) d)
    by_cases e : d = c
    · subst e
      rw [fu_s] at q' ⊢
      by_cases g3 : p5 (A.sup d ||| 2 ^ v) < 3
      · rw [if_pos g3] at q'; omega
      · omega
    · rw [fu_n e] at q' ⊢; exact h4 d hd q'
theorem ES_vote1 {A : VA} (h : ES A) (hk : AOK A) {v c : Nat} (hv : v < 5) (hc : c < 5) (hr : A.role c = 1) (ht : A.term v = A.term c) : ES (aVote1 v c A).2 := by
  unfold aVote1
  split
  · exact h
  · split
    · rename_i h0
      split
      · exact h
      · exact ES_give h hv hc hr ht h0 (hk.sup c hc hr).1
    · exact h
theorem ES_vote {A : VA} (h : ES A) (hk : AOK A) {v c : Nat} (hv : v < 5) (hc : c < 5) (hvc : v ≠ c) (hr : A.role c = 1) : ES (aVote v c A).2 := by
  unfold aVote
  split
  · rename_i g; exact ES_take h g
  · split
    · rename_i g
      refine ES_vote1 (ES_take h g) (AOK_take hk (hk.term c hc)) hv hc (by simp only [aTake, VA.mk_role, fu_n (Ne.symm hvc)]; exact hr) ?_
      show fu A.term v (A.term c) v = fu A.term v (A.term c) c
      rw [fu_s, fu_n (Ne.symm hvc)]
    · exact ES_vote1 h hk hv hc hr (by omega)
theorem ES_step {k a b : Nat} {A A' : VA} (h : ES A) (hk : AOK A) (hs : aStep k a b A A') : ES A' := by
  rcases hs with ⟨-, h1, rfl⟩ | ⟨-, h1, h2, rfl⟩ | ⟨-, h1, h2, h3, h4, rfl⟩ | ⟨-, h1, h2, h3, h4, rfl⟩ | ⟨-, h1, h2, h3, h4, rfl⟩
  · exact ES_same h rfl rfl rfl (fun _ _ _ => rfl)
  · exact ES_stand h h1
  · exact ES_vote h hk h1 h2 h3 h4
  · exact ES_same h rfl rfl rfl (fun _ _ _ => rfl)
  · unfold aTell aTell1
    split
    · rename_i g; exact ES_take h g
    · split
      · rename_i g; exact ES_same (ES_take h g) rfl rfl rfl (fun _ _ _ => rfl)
      · refine ES_same h rfl rfl rfl (fun c hc q => ?_)
        have q' : fu A.role b (if A.role b = 1 then 0 else A.role b) c ≠ 0 := q
        show fu A.role b (if A.role b = 1 then 0 else A.role b) c = A.role c
        rw [fu_e] at q' ⊢
        by_cases e : c = b
        · subst e
          rw [if_pos rfl] at q' ⊢
          split at q'
          · exact absurd rfl q'
          · rename_i g; rw [if_neg g]
        · rw [if_neg e]
theorem QT.es {n : Nat} {A : VA} {M : zMem} (h : QT n A M) : ES A := by
  obtain ⟨hc, ks, ps, qs, As, h1, h2, h3, h4, h5⟩ := h
  have key : ∀ j, j ≤ hc → ES (As j) := by
    intro j
    induction j with
    | zero => intro _; rw [h3]; exact ES_0
    | succ j ih =>
      intro q
      obtain ⟨-, -, -, g4, g5⟩ := h5 j (by omega)
      exact ES_step (ih (by omega)) g4 g5
  rw [← h4]
  exact key hc (Nat.le_refl _)
theorem ES_two {A : VA} (h : ES A) {s r : Nat} (hs : s < 5) (hr : r < 5) (hsr : s ≠ r) (r1 : A.role s = 2) (ht : A.term s = A.term r) : A.role r ≠ 2 := by
  intro r2
  obtain ⟨g, h1, h2, h3, h4⟩ := h
  have k1 := h4 s hs r1
  have k2 := h4 r hr r2
  have no : ∀ b, b < 5 → ((A.sup s).testBit b).toNat + ((A.sup r).testBit b).toNat ≤ 1 := by
    intro b hb
    cases e1 : (A.sup s).testBit b
    · have := Bool.toNat_le ((A.sup r).testBit b); simp; omega
    · cases e2 : (A.sup r).testBit b
      · simp
      · have q1 := h3 s hs (by omega) b hb e1
        have q2 := h3 r hr (by omega) b hb e2
        rw [ht, q2] at q1
        omega
  have := no 0 (by decide)
  have := no 1 (by decide)
  have := no 2 (by decide)
  have := no 3 (by decide)
  have := no 4 (by decide)
  unfold p5 at k1 k2
  omega
