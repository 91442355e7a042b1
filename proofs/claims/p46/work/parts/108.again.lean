/-! pure: the history told again to the Agreement at 15 -/
theorem lbit_0 (v : Nat) : lbit 0 v = false := by
  unfold lbit
  show (0#64).getLsbD v = false
  exact BitVec.getLsbD_zero
theorem c_part (o : Nat) {A : VA} {M : zMem} (hA : QA o A M) {g : Nat} : QA o (aPart g A) (zsI M o 0 (nI g)) ∧ zfr o M (zsI M o 0 (nI g)) := by
  refine ⟨⟨QL.mk ?_ ?_ ?_ ?_ ?_ ?_ ?_ ?_ ?_, ?_⟩, zfr.refl.sI (by omega)⟩
  · rw [zsI_s, pk_us]; rfl
  · rw [zsI_s, pk_un (by decide)]; exact hA.1.ver
  · simp (disch := omega) only [zsI_n]; exact hA.1.trm
  · simp (disch := omega) only [zsI_n]; exact hA.1.rol
  · simp (disch := omega) only [zsI_n]; exact hA.1.vot
  · simp (disch := omega) only [zsI_n]; exact hA.1.sup
  · simp (disch := omega) only [zsI_n]; exact hA.1.len
  · simp (disch := omega) only [zsI_n]; exact hA.1.vtm
  · intro c hc i hi
    simp (disch := omega) only [zsI_n]; exact hA.1.log c hc i hi
  · refine QS.off (hA.2.same (h' := hset (aPart g A)) (fun v _ => hset_eq (fun _ _ => rfl) (fun _ _ => rfl) v)) ?_ rfl
    simp (disch := omega) only [zsI_n]
theorem c_begin (o N : Nat) (hN : 5 < N) (M : zMem) : ∃ M', fX0_begin o N M = some (.inl 0, M') ∧ QA o A0 M' ∧ zfr o M M' := by
  obtain ⟨M', e1, e2, e3, e4, e5, e6, e7, e8, e9, e10⟩ := begin_spec o N M hN
  refine ⟨M', e1, ⟨QL.mk ?_ ?_ ?_ ?_ ?_ ?_ ?_ ?_ ?_, QS.mk ?_ ?_ ?_⟩, fun a ha => ⟨e6 a (by omega) (by omega) (by omega) (by omega) (by omega) (by omega), e10 a (by omega)⟩⟩
  · rw [e2]; rfl
  · rw [e3]; rfl
  · intro b hb; rw [(e5 b hb).1]; rfl
  · intro b hb; rw [(e5 b hb).2.1]; rfl
  · intro b hb; rw [(e5 b hb).2.2.1]; rfl
  · intro b hb q; exact absurd q (show ¬ (0 : Nat) = 1 by decide)
  · intro b hb; rw [(e5 b hb).2.2.2.2]; rfl
  · intro v hv; exact absurd hv (Nat.not_lt_zero _)
  · intro b hb i hi; exact absurd hi (Nat.not_lt_zero _)
  · intro v hv; exact absurd hv (Nat.not_lt_zero _)
  · intro v hv; exact absurd hv (Nat.not_lt_zero _)
  · intro v hv; rw [e8, lbit_0]; rfl
theorem c_step (N : Nat) (hN : 21 ≤ N) {A A' : VA} {M : zMem} (hA : QA 15 A M) (hk : AOK A) {k a b : Nat} (h : aStep k a b A A') : ∃ M', fX7_repeatCall N (nI k) (nI a) (nI b) M = some (.inl 0, M') ∧ QA 15 A' M' ∧ zfr 15 M M' := by
  unfold fX7_repeatCall
  rcases h with ⟨rfl, h1, rfl⟩ | ⟨rfl, h1, h2, rfl⟩ | ⟨rfl, h1, h2, h3, h4, rfl⟩ | ⟨rfl, h1, h2, h3, h4, rfl⟩ | ⟨rfl, h1, h2, h3, h4, rfl⟩
  · rw [if_pos (by decide), q_zl]
    exact ⟨_, rfl, c_part 15 hA⟩
  · rw [if_neg (by decide), if_pos (by decide)]
    obtain ⟨M', e1, e2⟩ := c_cand 15 N hA h1
    rw [e1, q_zb]
    exact ⟨_, rfl, e2⟩
  · rw [if_neg (by decide), if_neg (by decide), if_pos (by decide)]
    obtain ⟨M', e1, e2⟩ := c_ask 15 N hA hk h1 h2 h3 h4
    rw [e1, q_zb]
    exact ⟨_, rfl, e2⟩
  · rw [if_neg (by decide), if_neg (by decide), if_neg (by decide), if_pos (by decide)]
    obtain ⟨M', e1, e2⟩ := c_addv 15 N hA hk h1 h3 h4
    rw [e1, q_zb]
    exact ⟨_, rfl, e2⟩
  · rw [if_neg (by decide), if_neg (by decide), if_neg (by decide), if_neg (by decide), if_pos (by decide)]
    obtain ⟨M', e1, e2⟩ := c_tell 15 N hN hA hk h1 h2 h3
    rw [e1, q_zb]
    exact ⟨_, rfl, e2⟩
theorem hist_loop (N : Nat) (hN : 21 ≤ N) {ks ps qs : Nat → Nat} {As : Nat → VA} {hc : Nat} (h512 : hc ≤ 512) : ∀ k n i (M : zMem), i + k = hc → k < n → M.1 29 0 = nI hc → (∀ j, j < hc → M.1 30 j = nI (ks j) ∧ M.1 31 j = nI (ps j) ∧ M.1 32 j = nI (qs j) ∧ AOK (As j) ∧ aStep (ks j) (ps j) (qs j) (As j) (As (j + 1))) → QA 15 (As i) M →
    ∃ M', fX7_repeatHistory_B9 N n (nI i) M = some (.inl 0, M') ∧ QA 15 (As hc) M' ∧ zfr 15 M M' := by
  intro k
  induction k with
  | zero =>
    intro n i M h1 h2 h3 h4 h5
    obtain ⟨n, rfl⟩ : ∃ q, n = q + 1 := ⟨n - 1, by omega⟩
    rw [fX7_repeatHistory_B9, h3, if_pos (nI_le (by omega) (by omega))]
    have : i = hc := by omega
    subst this
    exact ⟨M, rfl, h5, zfr.refl⟩
  | succ k ih =>
    intro n i M h1 h2 h3 h4 h5
    obtain ⟨n, rfl⟩ : ∃ q, n = q + 1 := ⟨n - 1, by omega⟩
    obtain ⟨g1, g2, g3, g4, g5⟩ := h4 i (by omega)
    obtain ⟨M1, e1, e2, e3⟩ := c_step N hN h5 g4 g5
    have z : zin (nI i) 512 = true := zin_nI (by omega) (by decide)
    rw [fX7_repeatHistory_B9, h3, if_neg (nI_ge (by omega) (by omega)), if_pos z, if_pos z, if_pos z, nI_clamp (by omega), g1, g2, g3, e1, q_zb, nI_1]
    have q29 := (e3 29 (by omega)).1
    have q30 := (e3 30 (by omega)).1
    have q31 := (e3 31 (by omega)).1
    have q32 := (e3 32 (by omega)).1
    obtain ⟨M', f1, f2, f3⟩ := ih n (i + 1) M1 (by omega) (by omega) (by rw [q29]; exact h3) (by rw [q30, q31, q32]; exact h4) e2
    exact ⟨M', f1, f2, e3.trans f3⟩
theorem c_again (N : Nat) (hN : 600 ≤ N) {n : Nat} (hn : n ≤ 512) {A : VA} {M : zMem} (h : QT n A M) : ∃ M', fX7_repeatHistory N M = some (.inl 0, M') ∧ QA 15 A M' ∧ zfr 15 M M' := by
  obtain ⟨hc, ks, ps, qs, As, h1, h2, h3, h4, h5⟩ := h
  unfold fX7_repeatHistory
  obtain ⟨M1, e1, e2, e3⟩ := c_begin 15 N (by omega) M
  rw [e1, q_zb]
  have q29 := (e3 29 (by omega)).1
  have q30 := (e3 30 (by omega)).1
  have q31 := (e3 31 (by omega)).1
  have q32 := (e3 32 (by omega)).1
  obtain ⟨M', f1, f2, f3⟩ := hist_loop N (by omega) (ks := ks) (ps := ps) (qs := qs) (As := As) (hc := hc) (by omega) hc N 0 M1 (by omega) (by omega) (by rw [q29]; exact h2) (by rw [q30, q31, q32]; exact h5) (by rw [h3]; exact e2)
  rw [nI_0] at f1
  refine ⟨M', f1, ?_, e3.trans f3⟩
  rw [h4] at f2
  exact f2
/-- History.add -/
theorem c_hist (N : Nat) {n k a b : Nat} (hn : n < 512) {A A' : VA} {M : zMem} (h : QT n A M) (hk : AOK A) (hs : aStep k a b A A') : ∃ M', fX3_add N (nI k) (nI a) (nI b) M = some (.inl 0, M') ∧ QT (n + 1) A' M' ∧ ∀ z, (z < 29 ∨ 33 ≤ z) → M'.1 z = M.1 z ∧ M'.2 z = M.2 z := by
  obtain ⟨hc, ks, ps, qs, As, h1, h2, h3, h4, h5⟩ := h
  unfold fX3_add
  have z : zin (nI hc) 512 = true := zin_nI (by omega) (by decide)
  rw [h2, if_neg (show ¬ (512 : Int32) ≤ nI hc from nI_ge (b := 512) (by omega) (by decide))]
  simp only [z, if_true, q_zl]
  rw [nI_clamp (by omega), zsI_n (show 29 ≠ 30 by decide), h2, if_pos z, nI_clamp (by omega), zsI_n (show 29 ≠ 31 by decide), zsI_n (show 29 ≠ 30 by decide), h2, if_pos z, nI_clamp (by omega), zsI_n (show 29 ≠ 32 by decide), zsI_n (show 29 ≠ 31 by decide), zsI_n (show 29 ≠ 30 by decide), h2, nI_1]
  refine ⟨_, rfl, ⟨hc + 1, fu ks hc k, fu ps hc a, fu qs hc b, fun j => if j = hc + 1 then A' else As j, by omega, by rw [zsI_s, pk_us], (if_neg (by omega)).trans h3, if_pos rfl, fun j hj => ?_⟩, fun z hz => ⟨by simp (disch := omega) only [zsI_n], rfl⟩⟩
  show _ ∧ _ ∧ _ ∧ AOK (if j = hc + 1 then A' else As j) ∧ aStep _ _ _ (if j = hc + 1 then A' else As j) (if j + 1 = hc + 1 then A' else As (j + 1))
  simp (disch := omega) only [zsI_n, zsI_s]
  by_cases c : j = hc
  · subst c
    rw [pk_us, pk_us, pk_us, fu_s, fu_s, fu_s, if_neg (by omega), if_pos rfl, h4]
    exact ⟨rfl, rfl, rfl, hk, hs⟩
  · rw [pk_un c, pk_un c, pk_un c, fu_n c, fu_n c, fu_n c, if_neg (by omega), if_neg (by omega)]
    exact h5 j (by omega)
