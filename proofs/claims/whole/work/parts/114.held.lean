/-! pure: the reference counts the holders -/
def sb (s : Nat) : Nat → Nat → Nat
  | 0, _ => 0
  | k + 1, i => (s.testBit i).toNat + sb s k (i + 1)
theorem sb_5 (s : Nat) : sb s 5 0 = p5 s := by
  show (s.testBit 0).toNat + ((s.testBit 1).toNat + ((s.testBit 2).toNat + ((s.testBit 3).toNat + ((s.testBit 4).toNat + 0)))) = (s.testBit 0).toNat + (s.testBit 1).toNat + (s.testBit 2).toNat + (s.testBit 3).toNat + (s.testBit 4).toNat
  omega
theorem sb_le (s : Nat) : ∀ k i, sb s k i ≤ k := by
  intro k
  induction k with
  | zero => intro i; exact Nat.le_refl _
  | succ k ih => intro i; have := ih (i + 1); have := Bool.toNat_le (s.testBit i); simp only [sb]; omega
theorem held_loop (N : Nat) {s : Nat} (hs : s < 32) (M : zMem) : ∀ k n i c, i + k = 5 → k < n → c ≤ i → fX8_isHeldNow_B11 N n (nI s) (nI c) (nI i) M = some (.inl (nI (decide (3 ≤ c + sb s k i)).toNat), M) := by
  intro k
  induction k with
  | zero =>
    intro n i c h1 h2 h3
    obtain ⟨n, rfl⟩ : ∃ q, n = q + 1 := ⟨n - 1, by omega⟩
    rw [fX8_isHeldNow_B11, if_pos (show (5 : Int32) ≤ nI i from nI_le (a := 5) (by omega) (by omega))]
    show _ = some (Sum.inl (nI (decide (3 ≤ c)).toNat), M)
    by_cases g : c < 3
    · rw [if_pos (show nI c < 3 from nI_lt (b := 3) g (by decide)), decide_eq_false (by omega)]; rfl
    · rw [if_neg (show ¬ nI c < 3 from nI_nlt (b := 3) (by omega) (by omega)), decide_eq_true (by omega)]; rfl
  | succ k ih =>
    intro n i c h1 h2 h3
    obtain ⟨n, rfl⟩ : ∃ q, n = q + 1 := ⟨n - 1, by omega⟩
    have hb := Bool.toNat_le (s.testBit i)
    rw [fX8_isHeldNow_B11, if_neg (show ¬ (5 : Int32) ≤ nI i from nI_ge (b := 5) (by omega) (by decide)), q_bit (by omega) (by omega), nI_add, q_zv, nI_1, ih n (i + 1) _ (by omega) (by omega) (by omega), sb, Nat.add_assoc]
theorem hold_loop (N : Nat) {A : VA} {M : zMem} (hAlen : ∀ b, b < 5 → M.1 68 b = nI (A.len b)) (hAlog : ∀ b, b < 5 → ∀ i, i < A.len b → M.1 67 (20 * b + i) = nI (A.log b i)) (hk : AOK A) {v : Nat} (hv : v < 60) : ∀ k n i acc, i + k = 100 → k < n → acc < 32 → (∀ b, b < 5 → (acc.testBit b = true ↔ ∃ j, 20 * b + j < i ∧ j < A.len b ∧ A.log b j = v)) → fX8_holdersOf_B4 N n (nI v) (nI acc) (nI i) M = some (.inl (nI (hset A v)), M) := by
  have lv := hk.ver
  intro k
  induction k with
  | zero =>
    intro n i acc h1 h2 h3 h4
    obtain ⟨n, rfl⟩ : ∃ q, n = q + 1 := ⟨n - 1, by omega⟩
    rw [fX8_holdersOf_B4, if_pos (show (100 : Int32) ≤ nI i from nI_le (a := 100) (by omega) (by omega))]
    have : acc = hset A v := q_ext5 h3 hset_lt (fun b hb => by
      apply Bool.eq_iff_iff.mpr
      rw [h4 b hb, hset_b b hb, hasb_iff]
      constructor
      · rintro ⟨j, -, q⟩; exact ⟨j, q⟩
      · rintro ⟨j, q1, q2⟩; have := hk.len b hb; exact ⟨j, by omega, q1, q2⟩)
    rw [this]
  | succ k ih =>
    intro n i acc h1 h2 h3 h4
    obtain ⟨n, rfl⟩ : ∃ q, n = q + 1 := ⟨n - 1, by omega⟩
    have d5 : i / 20 < 5 := by omega
    have dm : 20 * (i / 20) + i % 20 = i := by omega
    have e1 : nI i / 20 = nI (i / 20) := pk_div (d := 20) (by omega) (by decide) (by decide)
    have e2 : nI i - nI (i / 20) * 20 = nI (i % 20) := by rw [← e1]; exact pk_rem (d := 20) (by omega) (by decide) (by decide)
    have hl := hk.len _ d5
    have z : zin (nI i) 100 = true := zin_nI (by omega) (by decide)
    rw [fX8_holdersOf_B4, if_neg (show ¬ (100 : Int32) ≤ nI i from nI_ge (b := 100) (by omega) (by decide)), e1, if_pos (z5 d5), nI_clamp (by omega), hAlen _ d5, e2]
    have same : (¬ (i % 20 < A.len (i / 20) ∧ A.log (i / 20) (i % 20) = v)) → fX8_holdersOf_B46 N (fX8_holdersOf_B4 N n) (nI v) (nI i) (nI acc) M = some (.inl (nI (hset A v)), M) := fun q => by
      unfold fX8_holdersOf_B46 fX8_holdersOf_B47
      rw [q_zv, ← nI_0, q_or, Nat.or_zero, nI_1]
      refine ih n (i + 1) acc (by omega) (by omega) h3 (fun b hb => ?_)
      rw [h4 b hb]
      constructor
      · rintro ⟨j, q1, q2, q3⟩; exact ⟨j, by omega, q2, q3⟩
      · rintro ⟨j, q1, q2, q3⟩
        refine ⟨j, ?_, q2, q3⟩
        have := hk.len b hb
        by_cases c : 20 * b + j = i
        · have eb : i / 20 = b := by omega
          have ej : i % 20 = j := by omega
          exact absurd ⟨by rw [eb, ej]; exact q2, by rw [eb, ej]; exact q3⟩ q
        · omega
    by_cases g : A.len (i / 20) ≤ i % 20
    · rw [if_pos (nI_le g (by omega))]
      exact same (by omega)
    · rw [if_neg (nI_ge (by omega) (by omega)), if_pos z, nI_clamp (by omega)]
      have hlog := hAlog _ d5 (i % 20) (by omega)
      rw [dm] at hlog
      have hlt := hk.logv _ d5 (i % 20) (by omega)
      rw [hlog]
      by_cases g2 : A.log (i / 20) (i % 20) = v
      · rw [if_pos (by rw [g2])]
        unfold fX8_holdersOf_B47
        rw [q_shl (by omega), q_zv, q_or, nI_1]
        refine ih n (i + 1) _ (by omega) (by omega) (q_orlt h3 d5) (fun b hb => ?_)
        rw [q_orb h3 d5 hb, Bool.or_eq_true, h4 b hb, decide_eq_true_eq]
        constructor
        · rintro (⟨j, q1, q2, q3⟩ | rfl)
          · exact ⟨j, by omega, q2, q3⟩
          · exact ⟨i % 20, by omega, by omega, g2⟩
        · rintro ⟨j, q1, q2, q3⟩
          have := hk.len b hb
          by_cases c : 20 * b + j = i
          · exact Or.inr (by omega)
          · exact Or.inl ⟨j, by omega, q2, q3⟩
      · rw [if_neg (fun q => g2 ((nI_eq (by omega) (by omega)).mp q))]
        exact same (fun q => g2 q.2)
theorem m_hold (N : Nat) (hN : 101 ≤ N) {A : VA} {M : zMem} (hA : QR A M) (hk : AOK A) {v : Nat} (hv : v < 60) : fX8_holdersOf N (nI v) M = some (.inl (nI (hset A v)), M) := by
  unfold fX8_holdersOf
  have := hold_loop N hA.len hA.log hk hv 100 N 0 0 (by omega) (by omega) (by decide) (fun b hb => by
    rw [Nat.zero_testBit]
    constructor
    · intro q; exact absurd q (by decide)
    · rintro ⟨j, q, -⟩; omega)
  rw [nI_0] at this
  exact this
theorem m_held (N : Nat) (hN : 101 ≤ N) {A : VA} {M : zMem} (hA : QR A M) (hk : AOK A) {v : Nat} (hv : v < 60) : fX8_isHeldNow N (nI v) M = some (.inl (nI (held A v).toNat), M) := by
  unfold fX8_isHeldNow
  rw [m_hold N hN hA hk hv, q_zb, ← nI_0, held_loop N hset_lt M 5 N 0 0 (by omega) (by omega) (by omega), sb_5, Nat.zero_add]
  rfl
theorem m_heldW (N : Nat) (hN : 101 ≤ N) {A : VA} {M : zMem} (hAlen : ∀ b, b < 5 → M.1 68 b = nI (A.len b)) (hAlog : ∀ b, b < 5 → ∀ i, i < A.len b → M.1 67 (20 * b + i) = nI (A.log b i)) (hk : AOK A) {v : Nat} (hv : v < 60) : fX8_isHeldNow N (nI v) M = some (.inl (nI (held A v).toNat), M) := by
  unfold fX8_isHeldNow fX8_holdersOf
  have := hold_loop N hAlen hAlog hk hv 100 N 0 0 (by omega) (by omega) (by decide) (fun b hb => by
    rw [Nat.zero_testBit]
    constructor
    · intro q; exact absurd q (by decide)
    · rintro ⟨j, q, -⟩; omega)
  rw [nI_0] at this
  rw [this, q_zb, ← nI_0, held_loop N hset_lt M 5 N 0 0 (by omega) (by omega) (by omega), sb_5, Nat.zero_add]
  rfl
