set_option maxRecDepth 20000 in
theorem runX0_init_1 : ∃ M2, fX0_init_B66 1 100 zMz = some (.inl 0, M2) ∧ ∀ (Z : zZ) (ad1 : Nat → Nat) (H : Heap), zW Z (zlv 1 14) ad1 M2 H → zW Z (zlv 1 14) ad1 zM0 H := by
  obtain ⟨M2, e, b0, b7, bj, br, ba, l10, l11, lj, la⟩ := begin_spec 1 100 zMz (by decide)
  refine ⟨M2, ?_, fun Z ad1 H hW => zW_same hW (fun k hk => ?_)⟩
  · unfold fX0_init_B66
    rw [e]
    rfl
  · simp only [zlv, Bool.and_eq_true, decide_eq_true_eq] at hk
    rcases (show k = 1 ∨ k = 2 ∨ k = 3 ∨ k = 4 ∨ k = 5 ∨ k = 6 ∨ k = 7 ∨ k = 8 ∨ k = 9 ∨ k = 10 ∨ k = 11 ∨ k = 12 ∨ k = 13 ∨ k = 14 by omega) with rfl | rfl | rfl | rfl | rfl | rfl | rfl | rfl | rfl | rfl | rfl | rfl | rfl | rfl
    · refine ⟨fun _ => ⟨fun j => ?_, fun j => ?_⟩, fun h => absurd h (by decide), fun h => absurd h (by decide)⟩
      · by_cases h0 : j = 0
        · subst h0; exact b0
        · by_cases h7 : j = 7
          · subst h7; exact b7
          · exact bj j h0 h7
      · by_cases h0 : j = 10
        · subst h0; exact l10
        · by_cases h7 : j = 11
          · subst h7; exact l11
          · exact lj j h0 h7
    · refine ⟨fun h => absurd h (by decide), fun _ j hj => ?_, fun h => absurd h (by decide)⟩
      have hj : j < 5 := hj
      exact (br j hj).1
    · refine ⟨fun h => absurd h (by decide), fun _ j hj => ?_, fun h => absurd h (by decide)⟩
      have hj : j < 5 := hj
      exact (br j hj).2.1
    · refine ⟨fun h => absurd h (by decide), fun _ j hj => ?_, fun h => absurd h (by decide)⟩
      have hj : j < 5 := hj
      exact ((br j hj).2.2.1).trans (if_pos hj).symm
    · refine ⟨fun h => absurd h (by decide), fun _ j hj => ?_, fun h => absurd h (by decide)⟩
      have hj : j < 5 := hj
      exact (br j hj).2.2.2.1
    · exact ⟨fun h => absurd h (by decide), fun h => absurd h (by decide), fun h => absurd h (by decide)⟩
    · refine ⟨fun h => absurd h (by decide), fun _ j hj => ?_, fun h => absurd h (by decide)⟩
      exact congrFun (ba 7 (by decide) (by decide) (by decide) (by decide) (by decide) (by decide)) j
    · refine ⟨fun h => absurd h (by decide), fun _ j hj => ?_, fun h => absurd h (by decide)⟩
      exact congrFun (ba 8 (by decide) (by decide) (by decide) (by decide) (by decide) (by decide)) j
    · refine ⟨fun h => absurd h (by decide), fun _ j hj => ?_, fun h => absurd h (by decide)⟩
      exact congrFun (ba 9 (by decide) (by decide) (by decide) (by decide) (by decide) (by decide)) j
    · refine ⟨fun h => absurd h (by decide), fun _ j hj => ?_, fun h => absurd h (by decide)⟩
      exact congrFun (ba 10 (by decide) (by decide) (by decide) (by decide) (by decide) (by decide)) j
    · refine ⟨fun h => absurd h (by decide), fun _ j hj => ?_, fun h => absurd h (by decide)⟩
      exact congrFun (ba 11 (by decide) (by decide) (by decide) (by decide) (by decide) (by decide)) j
    · refine ⟨fun h => absurd h (by decide), fun _ j hj => ?_, fun h => absurd h (by decide)⟩
      have hj : j < 5 := hj
      exact (br j hj).2.2.2.2
    · refine ⟨fun h => absurd h (by decide), fun _ j hj => ?_, fun h => absurd h (by decide)⟩
      exact congrFun (ba 13 (by decide) (by decide) (by decide) (by decide) (by decide) (by decide)) j
    · refine ⟨fun h => absurd h (by decide), fun _ j hj => ?_, fun h => absurd h (by decide)⟩
      exact congrFun (ba 14 (by decide) (by decide) (by decide) (by decide) (by decide) (by decide)) j

set_option maxRecDepth 20000 in
theorem runX0_init_15 : ∃ M2, fX0_init_B66 15 100 zMz = some (.inl 0, M2) ∧ ∀ (Z : zZ) (ad1 : Nat → Nat) (H : Heap), zW Z (zlv 15 14) ad1 M2 H → zW Z (zlv 15 14) ad1 zM0 H := by
  obtain ⟨M2, e, b0, b7, bj, br, ba, l10, l11, lj, la⟩ := begin_spec 15 100 zMz (by decide)
  refine ⟨M2, ?_, fun Z ad1 H hW => zW_same hW (fun k hk => ?_)⟩
  · unfold fX0_init_B66
    rw [e]
    rfl
  · simp only [zlv, Bool.and_eq_true, decide_eq_true_eq] at hk
    rcases (show k = 15 ∨ k = 16 ∨ k = 17 ∨ k = 18 ∨ k = 19 ∨ k = 20 ∨ k = 21 ∨ k = 22 ∨ k = 23 ∨ k = 24 ∨ k = 25 ∨ k = 26 ∨ k = 27 ∨ k = 28 by omega) with rfl | rfl | rfl | rfl | rfl | rfl | rfl | rfl | rfl | rfl | rfl | rfl | rfl | rfl
    · refine ⟨fun _ => ⟨fun j => ?_, fun j => ?_⟩, fun h => absurd h (by decide), fun h => absurd h (by decide)⟩
      · by_cases h0 : j = 0
        · subst h0; exact b0
        · by_cases h7 : j = 7
          · subst h7; exact b7
          · exact bj j h0 h7
      · by_cases h0 : j = 10
        · subst h0; exact l10
        · by_cases h7 : j = 11
          · subst h7; exact l11
          · exact lj j h0 h7
    · refine ⟨fun h => absurd h (by decide), fun _ j hj => ?_, fun h => absurd h (by decide)⟩
      have hj : j < 5 := hj
      exact (br j hj).1
    · refine ⟨fun h => absurd h (by decide), fun _ j hj => ?_, fun h => absurd h (by decide)⟩
      have hj : j < 5 := hj
      exact (br j hj).2.1
    · refine ⟨fun h => absurd h (by decide), fun _ j hj => ?_, fun h => absurd h (by decide)⟩
      have hj : j < 5 := hj
      exact ((br j hj).2.2.1).trans (if_pos hj).symm
    · refine ⟨fun h => absurd h (by decide), fun _ j hj => ?_, fun h => absurd h (by decide)⟩
      have hj : j < 5 := hj
      exact (br j hj).2.2.2.1
    · exact ⟨fun h => absurd h (by decide), fun h => absurd h (by decide), fun h => absurd h (by decide)⟩
    · refine ⟨fun h => absurd h (by decide), fun _ j hj => ?_, fun h => absurd h (by decide)⟩
      exact congrFun (ba 21 (by decide) (by decide) (by decide) (by decide) (by decide) (by decide)) j
    · refine ⟨fun h => absurd h (by decide), fun _ j hj => ?_, fun h => absurd h (by decide)⟩
      exact congrFun (ba 22 (by decide) (by decide) (by decide) (by decide) (by decide) (by decide)) j
    · refine ⟨fun h => absurd h (by decide), fun _ j hj => ?_, fun h => absurd h (by decide)⟩
      exact congrFun (ba 23 (by decide) (by decide) (by decide) (by decide) (by decide) (by decide)) j
    · refine ⟨fun h => absurd h (by decide), fun _ j hj => ?_, fun h => absurd h (by decide)⟩
      exact congrFun (ba 24 (by decide) (by decide) (by decide) (by decide) (by decide) (by decide)) j
    · refine ⟨fun h => absurd h (by decide), fun _ j hj => ?_, fun h => absurd h (by decide)⟩
      exact congrFun (ba 25 (by decide) (by decide) (by decide) (by decide) (by decide) (by decide)) j
    · refine ⟨fun h => absurd h (by decide), fun _ j hj => ?_, fun h => absurd h (by decide)⟩
      have hj : j < 5 := hj
      exact (br j hj).2.2.2.2
    · refine ⟨fun h => absurd h (by decide), fun _ j hj => ?_, fun h => absurd h (by decide)⟩
      exact congrFun (ba 27 (by decide) (by decide) (by decide) (by decide) (by decide) (by decide)) j
    · refine ⟨fun h => absurd h (by decide), fun _ j hj => ?_, fun h => absurd h (by decide)⟩
      exact congrFun (ba 28 (by decide) (by decide) (by decide) (by decide) (by decide) (by decide)) j

set_option maxRecDepth 20000 in
theorem runX4_loop : ∀ (n i : Nat) (M : zMem), i ≤ 5 → 5 < i + n → ∃ M', fX4_init_B24 100 n (nI i) M = some (.inl 0, M') ∧ (∀ r, i ≤ r → r < 5 → ∀ j, j < 51 → M'.1 (47 + r) j = -1) ∧ (∀ a, (∀ r, i ≤ r → r < 5 → a ≠ 47 + r) → M'.1 a = M.1 a) ∧ M'.2 = M.2 := by
  intro n
  induction n with
  | zero => intro i M h1 h2; omega
  | succ n ih =>
    intro i M h1 h2
    rw [fX4_init_B24]
    by_cases h : i = 5
    · subst h
      rw [if_pos (by decide)]
      exact ⟨M, rfl, fun r h3 h4 => by omega, fun a _ => rfl, rfl⟩
    · have hlt : i < 5 := by omega
      rw [if_neg (by rw [show (5 : Int32) = nI 5 from rfl]; exact nI_ge hlt (by decide)), if_pos (zin_nI hlt (by decide)), nI_clamp (by omega), nI_1]
      obtain ⟨M1, e1, a1, -, c1, d1⟩ := fill_spec (46 + 1 + i) 51 100 (-1) M (by decide) (by decide)
      rw [e1]
      dsimp only [zb]
      obtain ⟨M', e, g1, g2, g3⟩ := ih (i + 1) M1 (by omega) (by omega)
      refine ⟨M', e, fun r h3 h4 j hj => ?_, fun a ha => ?_, g3.trans d1⟩
      · by_cases hr : r = i
        · subst hr
          rw [g2 (47 + r) (fun r2 h5 h6 => by omega)]
          have := a1 j hj
          rwa [show 46 + 1 + r = 47 + r by omega] at this
        · exact g1 r (by omega) h4 j hj
      · rw [g2 a (fun r h3 h4 => ha r (by omega) h4), c1 a (by have := ha i (Nat.le_refl _) hlt; omega)]

set_option maxRecDepth 20000 in
theorem runX4_init : ∃ M2, fX4_init_B22 100 zMz = some (.inl 0, M2) ∧ ∀ (Z : zZ) (ad1 : Nat → Nat) (H : Heap), zW Z (zlv 45 8) ad1 M2 H → zW Z (zlv 45 8) ad1 zM0 H := by
  obtain ⟨M2, e, g1, g2, g3⟩ := runX4_loop 100 0 zMz (by decide) (by decide)
  refine ⟨M2, e, fun Z ad1 H hW => zW_same hW (fun k hk => ?_)⟩
  simp only [zlv, Bool.and_eq_true, decide_eq_true_eq] at hk
  rcases (show k = 45 ∨ k = 46 ∨ k = 47 ∨ k = 48 ∨ k = 49 ∨ k = 50 ∨ k = 51 ∨ k = 52 by omega) with rfl | rfl | rfl | rfl | rfl | rfl | rfl | rfl
  · exact ⟨fun _ => ⟨fun j => congrFun (g2 45 (fun r _ _ => by omega)) j, fun j => congrFun (congrFun g3 45) j⟩, fun h => absurd h (by decide), fun h => absurd h (by decide)⟩
  · exact ⟨fun h => absurd h (by decide), fun h => absurd h (by decide), fun h => absurd h (by decide)⟩
  · refine ⟨fun h => absurd h (by decide), fun _ j hj => ?_, fun h => absurd h (by decide)⟩
    have hj : j < 51 := hj
    exact (g1 0 (by decide) (by decide) j hj).trans (if_pos hj).symm
  · refine ⟨fun h => absurd h (by decide), fun _ j hj => ?_, fun h => absurd h (by decide)⟩
    have hj : j < 51 := hj
    exact (g1 1 (by decide) (by decide) j hj).trans (if_pos hj).symm
  · refine ⟨fun h => absurd h (by decide), fun _ j hj => ?_, fun h => absurd h (by decide)⟩
    have hj : j < 51 := hj
    exact (g1 2 (by decide) (by decide) j hj).trans (if_pos hj).symm
  · refine ⟨fun h => absurd h (by decide), fun _ j hj => ?_, fun h => absurd h (by decide)⟩
    have hj : j < 51 := hj
    exact (g1 3 (by decide) (by decide) j hj).trans (if_pos hj).symm
  · refine ⟨fun h => absurd h (by decide), fun _ j hj => ?_, fun h => absurd h (by decide)⟩
    have hj : j < 51 := hj
    exact (g1 4 (by decide) (by decide) j hj).trans (if_pos hj).symm
  · exact ⟨fun h => absurd h (by decide), fun _ j hj => congrFun (g2 52 (fun r _ h => by omega)) j, fun h => absurd h (by decide)⟩
