/-! pure: sendLog -/
theorem aDiff_le {A : VA} {s r : Nat} : ∀ k i, i ≤ aDiff A s r k i ∧ aDiff A s r k i ≤ i + k := by
  intro k
  induction k with
  | zero => intro i; exact ⟨Nat.le_refl _, Nat.le_refl _⟩
  | succ k ih =>
    intro i
    unfold aDiff
    by_cases c : A.log s i = A.log r i
    · rw [if_pos c]; have := ih (i + 1); omega
    · rw [if_neg c]; omega
theorem aDiff_eq {A : VA} {s r : Nat} : ∀ k i j, i ≤ j → j < aDiff A s r k i → A.log s j = A.log r j := by
  intro k
  induction k with
  | zero => intro i j h1 h2; unfold aDiff at h2; omega
  | succ k ih =>
    intro i j h1 h2
    unfold aDiff at h2
    by_cases c : A.log s i = A.log r i
    · rw [if_pos c] at h2
      by_cases e : j = i
      · subst e; exact c
      · exact ih (i + 1) j (by omega) h2
    · rw [if_neg c] at h2; omega
theorem comm_loop (o N : Nat) {A : VA} {M : zMem} (hA : QL o A M) (hk : AOK A) {s r : Nat} (hs : s < 5) (hr : r < 5) {m : Nat} (m1 : m ≤ A.len s) (m2 : m ≤ A.len r) : ∀ k n i, i + k = m → k < n → fX0_commonLength_B19 o N n (nI s) (nI r) (nI m) (nI i) M = some (.inl (nI (if aDiff A s r k i < m then aDiff A s r k i else A.len r)), M) := by
  have l1 := hk.len s hs
  have l2 := hk.len r hr
  have lv := hk.ver
  intro k
  induction k with
  | zero =>
    intro n i h1 h2
    obtain ⟨n, rfl⟩ : ∃ q, n = q + 1 := ⟨n - 1, by omega⟩
    rw [fX0_commonLength_B19, if_pos (nI_le (by omega) (by omega)), if_pos (z5 hr), nI_clamp (by omega), hA.len r hr, if_neg (by unfold aDiff; omega)]
  | succ k ih =>
    intro n i h1 h2
    obtain ⟨n, rfl⟩ : ∃ q, n = q + 1 := ⟨n - 1, by omega⟩
    have v1 := hk.logv s hs i (by omega)
    have v2 := hk.logv r hr i (by omega)
    rw [fX0_commonLength_B19, if_neg (nI_ge (by omega) (by omega)), if_pos (z5 hs), if_pos (z20 (by omega)), if_pos (z5 hr), if_pos (z20 (by omega)), nI_clamp (by omega), nI_clamp (by omega), nI_clamp (by omega), hA.log s hs i (by omega), hA.log r hr i (by omega)]
    unfold aDiff
    by_cases c : A.log s i = A.log r i
    · rw [if_pos (by rw [c]), if_pos c, nI_1]
      exact ih n (i + 1) (by omega) (by omega)
    · rw [if_neg (fun q => c ((nI_eq (by omega) (by omega)).mp q)), if_neg c, if_pos (by omega)]
theorem aCut_le {A : VA} {s r : Nat} : aCut A s r ≤ A.len r := by
  unfold aCut
  split
  · omega
  · exact Nat.le_refl _
theorem c_comm (o N : Nat) (hN : 21 ≤ N) {A : VA} {M : zMem} (hA : QL o A M) (hk : AOK A) {s r : Nat} (hs : s < 5) (hr : r < 5) : fX0_commonLength o N (nI s) (nI r) M = some (.inl (nI (aCut A s r)), M) := by
  have l1 := hk.len s hs
  have l2 := hk.len r hr
  unfold fX0_commonLength
  dsimp only [zv]
  rw [if_pos (z5 hs), if_pos (z5 hr), nI_clamp (by omega), nI_clamp (by omega), hA.len s hs, hA.len r hr]
  have e : (if nI (A.len r) < nI (A.len s) then nI (A.len r) else nI (A.len s)) = nI (min (A.len s) (A.len r)) := by
    by_cases c : A.len r < A.len s
    · rw [if_pos (nI_lt c (by omega)), Nat.min_eq_right (by omega)]
    · rw [if_neg (nI_nlt (by omega) (by omega)), Nat.min_eq_left (by omega)]
  rw [e, ← nI_0]
  exact comm_loop o N hA hk hs hr (Nat.min_le_left _ _) (Nat.min_le_right _ _) _ N 0 (by omega) (by omega)
theorem q_clrlt' {s b : Nat} (h : s < 32) : pclr s b < 32 := Nat.lt_of_le_of_lt Nat.and_le_left h
theorem p5_clr {s b : Nat} (h : s < 32) (hb : b < 5) : p5 (pclr s b) ≤ p5 s := p5_mono (fun c hc e => by
  rw [q_clrb h hb hc, Bool.and_eq_true] at e; exact e.1)
theorem p5_or {s b : Nat} (h : s < 32) (hb : b < 5) : p5 s ≤ p5 (s ||| 2 ^ b) := p5_mono (fun c hc e => by
  rw [q_orb h hb hc, e, Bool.true_or])
theorem cut_loop (o N : Nat) {A : VA} (hk : AOK A) {r : Nat} (hr : r < 5) {ev : Nat → Bool} {cut : Nat} (hc : cut ≤ 20) : ∀ k i n (M : zMem) (h : Nat → Nat), i + k = A.len r → k < n → (∀ j, j < A.len r → M.1 (o + 5 + 1 + r) j = nI (A.log r j)) → M.1 (o + 11) r = nI (A.len r) → QS o A.V h ev M → (∀ v, v < A.V → h v < 32) → (∀ v, v < A.V → 3 ≤ p5 (h v) → ev v = true) →
    ∃ M' h', fX0_cutAt_B2 o N n (nI r) (nI cut) (nI i) M = some (.inl 0, M') ∧ QS o A.V h' ev M' ∧ (∀ v, v < A.V → h' v < 32) ∧ (∀ v, v < A.V → 3 ≤ p5 (h' v) → ev v = true) ∧ (∀ v, v < A.V → ∀ b, b < 5 → b ≠ r → (h' v).testBit b = (h v).testBit b) ∧ (∀ v, v < A.V → ((h' v).testBit r = true ↔ (h v).testBit r = true ∧ ¬ ∃ j, i ≤ j ∧ j < A.len r ∧ A.log r j = v)) ∧ M'.1 (o + 11) = upd (M.1 (o + 11)) r (nI cut) ∧ (∀ a, a ≠ o + 11 → a ≠ o + 13 → M'.1 a = M.1 a) ∧ (∀ a, a ≠ o → M'.2 a = M.2 a) := by
  have l2 := hk.len r hr
  have lv := hk.ver
  intro k
  induction k with
  | zero =>
    intro i n M h h1 h2 h3 h4 h5 h6 h7
    obtain ⟨n, rfl⟩ : ∃ q, n = q + 1 := ⟨n - 1, by omega⟩
    rw [fX0_cutAt_B2, if_pos (z5 hr), nI_clamp (by omega), h4, if_pos (nI_le (by omega) (by omega)), if_pos (z5 hr), q_zl]
    refine ⟨_, h, rfl, h5.off (by simp (disch := omega) only [zsI_n]) rfl, h6, h7, fun _ _ _ _ _ => rfl, fun v hv => ?_, zsI_s, fun a h1 h2 => zsI_n h1, fun _ _ => rfl⟩
    constructor
    · intro e; exact ⟨e, by rintro ⟨j, q1, q2, -⟩; omega⟩
    · exact fun e => e.1
  | succ k ih =>
    intro i n M h h1 h2 h3 h4 h5 h6 h7
    obtain ⟨n, rfl⟩ : ∃ q, n = q + 1 := ⟨n - 1, by omega⟩
    have v1 := hk.logv r hr i (by omega)
    have hx := h6 _ v1
    rw [fX0_cutAt_B2, if_pos (z5 hr), nI_clamp (by omega), h4, if_neg (nI_ge (by omega) (by omega)), if_pos (z5 hr), if_pos (z20 (by omega)), q_zv, nI_clamp (by omega), h3 i (by omega), if_pos (z60 (by omega)), if_pos (z60 (by omega)), q_zl, nI_clamp (by omega), h5.hs _ v1, q_clr hx hr]
    obtain ⟨M1, e1, e2, e3, e4, e5⟩ := c_judge o N (M := zsI M (o + 13) (A.log r i) (nI (pclr (h (A.log r i)) r))) (v := A.log r i) (s := pclr (h (A.log r i)) r) (by omega) (q_clrlt' hx) (by rw [zsI_s, pk_us])
    rw [e1, q_zb, nI_1]
    have hq : QS o A.V (fu h (A.log r i) (pclr (h (A.log r i)) r)) ev M1 := by
      refine QS.mk (fun v hv => ?_) (fun v hv => ?_) (fun v hv => ?_)
      · rw [e2, zsI_s]
        by_cases c : v = A.log r i
        · rw [c, pk_us, fu_s]
        · rw [pk_un c, fu_n c]; exact h5.hs v hv
      · rw [e4 v (by omega)]
        by_cases c : v = A.log r i
        · rw [if_pos c, c, fu_s]
        · rw [if_neg c, fu_n c]; exact h5.hd v hv
      · rw [e5 v hv]
        show (lbit (M.2 o 11) v || _) = _
        rw [h5.ev v hv]
        by_cases c : v = A.log r i
        · by_cases g : 3 ≤ p5 (pclr (h (A.log r i)) r)
          · have := h7 _ v1 (Nat.le_trans g (p5_clr hx hr))
            rw [c, this]; rfl
          · rw [decide_eq_false g]; simp
        · rw [decide_eq_false c]; simp
    obtain ⟨M', h', f1, f2, f3, f4, f5, f6, f7, f8, f9⟩ := ih (i + 1) n M1 (fu h (A.log r i) (pclr (h (A.log r i)) r)) (by omega) (by omega) (fun j hj => by rw [e2, zsI_n (by omega)]; exact h3 j hj) (by rw [e2, zsI_n (by omega)]; exact h4) hq (fun v hv => by
        simp only [fu_e]; split
        · exact q_clrlt' hx
        · exact h6 v hv) (fun v hv => by
        simp only [fu_e]; split
        · rename_i c; intro g; rw [c]; exact h7 _ v1 (Nat.le_trans g (p5_clr hx hr))
        · exact h7 v hv)
    refine ⟨M', h', f1, f2, f3, f4, fun v hv b hb hbr => ?_, fun v hv => ?_, ?_, fun a g1 g2 => ?_, fun a g1 => ?_⟩
    · rw [f5 v hv b hb hbr]
      simp only [fu_e]; split
      · rename_i c; rw [q_clrb hx hr hb, decide_eq_false hbr, ← c]; simp
      · rfl
    · rw [f6 v hv]
      by_cases c : v = A.log r i
      · rw [c, fu_s, q_clrb hx hr hr]
        simp only [decide_true, Bool.not_true, Bool.and_false, Bool.false_eq_true, false_and, false_iff, not_and, Classical.not_not]
        intro _; exact ⟨i, Nat.le_refl _, by omega, rfl⟩
      · rw [fu_n c]
        refine and_congr_right fun _ => not_congr ⟨?_, ?_⟩
        · rintro ⟨j, q1, q2, q3⟩; exact ⟨j, by omega, q2, q3⟩
        · rintro ⟨j, q1, q2, q3⟩
          refine ⟨j, ?_, q2, q3⟩
          by_cases cj : j = i
          · subst cj; exact absurd q3.symm c
          · omega
    · rw [f7, e2, zsI_n (by omega)]
    · rw [f8 a g1 g2, e2, zsI_n g2]
    · rw [f9 a g1, e3 a g1]; rfl
