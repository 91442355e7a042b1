/-! pure: judgeHeld, append, addVersion -/
theorem c_judge (o N : Nat) {M : zMem} {v s : Nat} (hv : v < 60) (hs : s < 32) (e : M.1 (o + 13) v = nI s) : ∃ M', fX0_judgeHeld o N (nI v) M = some (.inl 0, M') ∧ M'.1 = M.1 ∧ (∀ a, a ≠ o → M'.2 a = M.2 a) ∧ (∀ w, w < 60 → lbit (M'.2 o 10) w = if w = v then decide (3 ≤ p5 s) else lbit (M.2 o 10) w) ∧ (∀ w, w < 60 → lbit (M'.2 o 11) w = (lbit (M.2 o 11) w || (decide (w = v) && decide (3 ≤ p5 s)))) := by
  have hp := p5_le s
  unfold fX0_judgeHeld
  simp only [z60 hv, if_true, q_zl]
  rw [nI_clamp (by omega), e, q_count N hs, q_zb]
  by_cases g : p5 s < 3
  · rw [if_pos (show nI (p5 s) < 3 from nI_lt (b := 3) g (by decide))]
    refine ⟨_, rfl, rfl, fun a ha => zsL_n ha, fun w hw => ?_, fun w hw => ?_⟩
    · rw [zsL_s, pk_uLs, q_lclr _ (by omega) (by omega)]
      by_cases c : w = v
      · rw [if_pos c, decide_eq_true c, decide_eq_false (by omega)]; simp
      · rw [if_neg c, decide_eq_false c]; simp
    · rw [zsL_s, pk_uLn (by decide), decide_eq_false (p := 3 ≤ p5 s) (by omega)]; simp
  · rw [if_neg (show ¬ nI (p5 s) < 3 from nI_nlt (b := 3) (by omega) (by omega))]
    refine ⟨_, rfl, rfl, fun a ha => by rw [zsL_n ha, zsL_n ha], fun w hw => ?_, fun w hw => ?_⟩
    · rw [zsL_s, pk_uLn (by decide), zsL_s, pk_uLs, q_lset _ (by omega) (by omega)]
      by_cases c : w = v
      · rw [if_pos c, decide_eq_true c, decide_eq_true (by omega)]; simp
      · rw [if_neg c, decide_eq_false c]; simp
    · rw [zsL_s, pk_uLs, zsL_s, pk_uLn (by decide), q_lset _ (by omega) (by omega), decide_eq_true (p := 3 ≤ p5 s) (by omega)]; simp
theorem c_app (o N : Nat) {M : zMem} {b v l s : Nat} (hb : b < 5) (hv : v < 60) (hl : l < 20) (hs : s < 32) (el : M.1 (o + 11) b = nI l) (e : M.1 (o + 13) v = nI s) : ∃ M', fX0_append o N (nI b) (nI v) M = some (.inl 0, M') ∧ M'.1 (o + 5 + 1 + b) = upd (M.1 (o + 5 + 1 + b)) l (nI v) ∧ M'.1 (o + 11) = upd (M.1 (o + 11)) b (nI (l + 1)) ∧ M'.1 (o + 13) = upd (M.1 (o + 13)) v (nI (s ||| 2 ^ b)) ∧ (∀ a, a ≠ o + 5 + 1 + b → a ≠ o + 11 → a ≠ o + 13 → M'.1 a = M.1 a) ∧ (∀ a, a ≠ o → M'.2 a = M.2 a) ∧
    (∀ w, w < 60 → lbit (M'.2 o 10) w = if w = v then decide (3 ≤ p5 (s ||| 2 ^ b)) else lbit (M.2 o 10) w) ∧ (∀ w, w < 60 → lbit (M'.2 o 11) w = (lbit (M.2 o 11) w || (decide (w = v) && decide (3 ≤ p5 (s ||| 2 ^ b))))) := by
  unfold fX0_append
  simp only [z5 hb, z60 hv, if_true, q_zl]
  rw [nI_clamp (by omega), nI_clamp (by omega), el, if_pos (z20 hl), nI_clamp (by omega)]
  rw [zsI_n (show o + 11 ≠ o + 5 + 1 + b by omega), el, nI_1, q_shl (by omega), zsI_n (show o + 13 ≠ o + 11 by omega), zsI_n (show o + 13 ≠ o + 5 + 1 + b by omega), e, q_or]
  obtain ⟨M', e1, e2, e3, e4, e5⟩ := c_judge o N (M := zsI (zsI (zsI M (o + 5 + 1 + b) l (nI v)) (o + 11) b (nI (l + 1))) (o + 13) v (nI (s ||| 2 ^ b))) hv (q_orlt hs hb) (by rw [zsI_s, pk_us])
  rw [e1, q_zb]
  refine ⟨M', rfl, ?_, ?_, ?_, fun a h1 h2 h3 => ?_, e3, e4, e5⟩
  · rw [e2]; simp (disch := omega) only [zsI_n, zsI_s]
  · rw [e2]; simp (disch := omega) only [zsI_n, zsI_s]
  · rw [e2]; simp (disch := omega) only [zsI_n, zsI_s]
  · rw [e2]; simp (disch := omega) only [zsI_n]
theorem hasb_app {A A' : VA} {b x : Nat} (h1 : A'.len b = A.len b + 1) (h2 : ∀ i, i < A.len b → A'.log b i = A.log b i) (h3 : A'.log b (A.len b) = x) (v : Nat) : hasb A' b v = (hasb A b v || decide (x = v)) := by
  apply Bool.eq_iff_iff.mpr
  rw [hasb_iff, Bool.or_eq_true, hasb_iff, decide_eq_true_eq]
  constructor
  · rintro ⟨i, hi, e⟩
    by_cases c : i < A.len b
    · exact Or.inl ⟨i, c, by rw [← h2 i c]; exact e⟩
    · have : i = A.len b := by omega
      subst this
      exact Or.inr (by rw [← h3]; exact e)
  · rintro (⟨i, hi, e⟩ | e)
    · exact ⟨i, by omega, by rw [h2 i hi]; exact e⟩
    · exact ⟨A.len b, by omega, by rw [h3]; exact e⟩
theorem hasb_lt {A : VA} (hk : AOK A) {b : Nat} (hb : b < 5) {v : Nat} (hv : A.V ≤ v) : hasb A b v = false := by
  cases h : hasb A b v
  · rfl
  · obtain ⟨i, hi, e⟩ := hasb_iff.mp h
    have := hk.logv b hb i hi
    omega
theorem hset_top {A : VA} (hk : AOK A) {v : Nat} (hv : A.V ≤ v) : hset A v = 0 :=
  q_ext5 hset_lt (by decide) (fun b hb => by rw [hset_b b hb, Nat.zero_testBit, hasb_lt hk hb hv])
theorem prop_hasb {A : VA} {b : Nat} (c v : Nat) : hasb (aProp b A) c v = (hasb A c v || (decide (c = b) && decide (A.V = v))) := by
  by_cases e : c = b
  · subst e
    rw [hasb_app (A := A) (A' := aProp c A) (b := c) (x := A.V) (by simp only [aProp, VA.mk_len, fu_s]) (fun i hi => by simp only [aProp, VA.mk_log, if_pos]; rw [fu_n (by omega)]) (by simp only [aProp, VA.mk_log, if_pos, fu_s])]
    simp
  · rw [hasb_eq (A := A) (A' := aProp b A) (by simp only [aProp, VA.mk_len, fu_n e]) (by simp only [aProp, VA.mk_log, if_neg e])]
    simp [e]
theorem prop_hset {A : VA} {b : Nat} (hb : b < 5) (v : Nat) : hset (aProp b A) v = if v = A.V then hset A v ||| 2 ^ b else hset A v := by
  by_cases e : v = A.V
  · subst e
    rw [if_pos rfl]
    refine q_ext5 hset_lt (q_orlt hset_lt hb) (fun c hc => ?_)
    rw [hset_b c hc, q_orb hset_lt hb hc, hset_b c hc, prop_hasb]
    simp
  · rw [if_neg e]
    refine q_ext5 hset_lt hset_lt (fun c hc => ?_)
    rw [hset_b c hc, hset_b c hc, prop_hasb, decide_eq_false (p := A.V = v) (fun q => e q.symm)]
    simp
theorem p5_one {b : Nat} (hb : b < 5) : p5 (0 ||| 2 ^ b) = 1 := by
  have key : ∀ b, b < 5 → p5 (0 ||| 2 ^ b) = 1 := by decide +kernel
  exact key b hb
theorem AOK_prop {A : VA} (hk : AOK A) {b : Nat} (hb : b < 5) (hl : A.len b < 20) (hV : A.V < 60) (hr : A.role b = 2) : AOK (aProp b A) := by
  refine AOK.mk hk.grp hk.term hk.role hk.rt hk.vote hk.sup ?_ (by simp only [aProp, VA.mk_V]; omega) ?_ ?_ ?_ ?_ ?_
  · intro c hc
    simp only [aProp, VA.mk_len, fu_e]
    split
    · omega
    · exact hk.len c hc
  · intro v hv
    simp only [aProp, VA.mk_V] at hv
    simp only [aProp, VA.mk_vt, fu_e]
    split
    · exact ⟨hk.rt b hb (by omega), hk.term b hb⟩
    · exact hk.vt v (by omega)
  · intro c hc i hi
    by_cases e : c = b
    · subst e
      simp only [aProp, VA.mk_len, fu_s] at hi
      simp only [aProp, VA.mk_log, VA.mk_V, if_pos, fu_e]
      split
      · omega
      · have := hk.logv c hc i (by omega); omega
    · simp only [aProp, VA.mk_len, fu_n e] at hi
      simp only [aProp, VA.mk_log, VA.mk_V, if_neg e]
      have := hk.logv c hc i hi; omega
  · intro c hc i j hi hj
    by_cases e : c = b
    · subst e
      simp only [aProp, VA.mk_len, fu_s] at hi hj
      simp only [aProp, VA.mk_log, if_pos, fu_e]
      by_cases c1 : i = A.len c <;> by_cases c2 : j = A.len c
      · intro _; omega
      · rw [if_pos c1, if_neg c2]; intro q; have := hk.logv c hc j (by omega); omega
      · rw [if_neg c1, if_pos c2]; intro q; have := hk.logv c hc i (by omega); omega
      · rw [if_neg c1, if_neg c2]; exact hk.logi c hc i j (by omega) (by omega)
    · simp only [aProp, VA.mk_len, fu_n e] at hi hj
      simp only [aProp, VA.mk_log, if_neg e]
      exact hk.logi c hc i j hi hj
  · intro v h
    apply hk.evh v
    unfold held at h ⊢
    rw [prop_hset hb] at h
    by_cases e : v = A.V
    · rw [if_pos e, hset_top hk (by omega), p5_one hb] at h; exact absurd h (by decide)
    · rw [if_neg e] at h; exact h
  · intro v hv
    simp only [aProp, VA.mk_V] at hv
    exact hk.ev0 v (by omega)
theorem c_addv (o N : Nat) {A : VA} {M : zMem} (hA : QA o A M) (hk : AOK A) {b : Nat} (hb : b < 5) (hl : A.len b < 20) (hV : A.V < 60) : ∃ M', fX0_addVersion o N (nI b) M = some (.inl (nI A.V), M') ∧ QA o (aProp b A) M' ∧ zfr o M M' := by
  unfold fX0_addVersion
  dsimp only [zv]
  rw [hA.1.ver]
  simp only [z5 hb, z60 hV, if_true, q_zl]
  rw [nI_clamp (by omega), nI_clamp (by omega), nI_1, zsI_n (show o + 1 ≠ o by omega), hA.1.trm b hb]
  obtain ⟨M', e1, e2, e3, e4, e5, e6, e7, e8⟩ := c_app o N (M := zsI (zsI (zsI M o 7 (nI (A.V + 1))) (o + 12) A.V (nI (A.term b))) (o + 13) A.V 0) (s := 0) hb hV hl (by decide) (by simp (disch := omega) only [zsI_n]; exact hA.1.len b hb) (by rw [zsI_s, pk_us, nI_0])
  rw [e1, q_zb]
  have q : ∀ a, a ≠ o + 5 + 1 + b → a ≠ o + 11 → a ≠ o + 12 → a ≠ o + 13 → a ≠ o → M'.1 a = M.1 a := fun a h1 h2 h3 h4 h5 => by
    rw [e5 a h1 h2 h4]; simp (disch := omega) only [zsI_n]
  have q2 : (zsI (zsI (zsI M o 7 (nI (A.V + 1))) (o + 12) A.V (nI (A.term b))) (o + 13) A.V 0).2 = M.2 := rfl
  refine ⟨M', rfl, ⟨QL.mk ?_ ?_ ?_ ?_ ?_ ?_ ?_ ?_ ?_, QS.mk ?_ ?_ ?_⟩, fun a ha => ⟨q a (by omega) (by omega) (by omega) (by omega) (by omega), by rw [e6 a (by omega), q2]⟩⟩
  · rw [e5 o (by omega) (by omega) (by omega)]; simp (disch := omega) only [zsI_n, zsI_s, pk_un]; exact hA.1.grp
  · rw [e5 o (by omega) (by omega) (by omega)]; simp (disch := omega) only [zsI_n, zsI_s, pk_us]; rfl
  · rw [q _ (by omega) (by omega) (by omega) (by omega) (by omega)]; exact hA.1.trm
  · rw [q _ (by omega) (by omega) (by omega) (by omega) (by omega)]; exact hA.1.rol
  · rw [q _ (by omega) (by omega) (by omega) (by omega) (by omega)]; exact hA.1.vot
  · rw [q _ (by omega) (by omega) (by omega) (by omega) (by omega)]; exact hA.1.sup
  · intro c hc
    rw [e3]
    simp (disch := omega) only [zsI_n]
    by_cases e : c = b
    · subst e; simp only [pk_us, aProp, VA.mk_len, fu_s]
    · simp only [pk_un e, aProp, VA.mk_len, fu_n e]; exact hA.1.len c hc
  · intro v hv
    rw [e5 _ (by omega) (by omega) (by omega)]
    simp (disch := omega) only [zsI_n, zsI_s]
    by_cases e : v = A.V
    · subst e; simp only [pk_us, aProp, VA.mk_vt, fu_s]
    · simp only [pk_un e, aProp, VA.mk_vt, fu_n e]; exact hA.1.vtm v (by simp only [aProp, VA.mk_V] at hv; omega)
  · intro c hc i hi
    by_cases e : c = b
    · subst e
      rw [e2]
      simp only [aProp, VA.mk_len, fu_s] at hi
      simp (disch := omega) only [zsI_n]
      by_cases e' : i = A.len c
      · subst e'; simp only [pk_us, aProp, VA.mk_log, if_pos, fu_s]
      · simp only [pk_un e', aProp, VA.mk_log, if_pos, fu_n e']; exact hA.1.log c hc i (by omega)
    · rw [q _ (by omega) (by omega) (by omega) (by omega) (by omega)]
      simp only [aProp, VA.mk_len, fu_n e] at hi
      simp only [aProp, VA.mk_log, if_neg e]
      exact hA.1.log c hc i hi
  · intro v hv
    simp only [aProp, VA.mk_V] at hv
    rw [e4, zsI_s, prop_hset hb]
    by_cases e : v = A.V
    · subst e; rw [pk_us, if_pos rfl, hset_top hk (Nat.le_refl _)]
    · rw [pk_un e, pk_un e, if_neg e]
      simp (disch := omega) only [zsI_n]
      exact hA.2.hs v (by omega)
  · intro v hv
    simp only [aProp, VA.mk_V] at hv
    rw [e7 v (by omega), prop_hset hb]
    by_cases e : v = A.V
    · subst e; rw [if_pos rfl, if_pos rfl, hset_top hk (Nat.le_refl _)]
    · rw [if_neg e, if_neg e, q2]
      exact hA.2.hd v (by omega)
  · intro v hv
    rw [e8 v hv, q2, hA.2.ev v hv, p5_one hb]
    simp [aProp, VA.mk_ev]
