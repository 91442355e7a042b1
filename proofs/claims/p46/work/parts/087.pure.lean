/-! pure rows: the numbers of the worlds -/
theorem zsI_s {M : zMem} {k j : Nat} {x : Int32} : (zsI M k j x).1 k = upd (M.1 k) j x := if_pos rfl
theorem zsI_n {M : zMem} {k j a : Nat} {x : Int32} (h : a ≠ k) : (zsI M k j x).1 a = M.1 a := if_neg h
theorem zsI_2 {M : zMem} {k j : Nat} {x : Int32} : (zsI M k j x).2 = M.2 := rfl
theorem zsL_s {M : zMem} {k j : Nat} {x : Int64} : (zsL M k j x).2 k = vp_updL (M.2 k) j x := if_pos rfl
theorem zsL_n {M : zMem} {k j a : Nat} {x : Int64} (h : a ≠ k) : (zsL M k j x).2 a = M.2 a := if_neg h
theorem zsL_1 {M : zMem} {k j : Nat} {x : Int64} : (zsL M k j x).1 = M.1 := rfl
theorem zin_nI {i w : Nat} (h : i < w) (hw : w < 2 ^ 31) : zin (nI i) w = true := by
  have h1 : ¬ nI i < 0 := nI_pos (by omega)
  have h2 : (nI i).toNatClampNeg = i := nI_clamp (by omega)
  simp [zin, h1, h2, h]
theorem fill_loop (k w N : Nat) (v : Int32) (hw : w < 2 ^ 31) : ∀ (n i : Nat) (M : zMem), i ≤ w → w < i + n → ∃ M', fJ7_fill_53178_B5 k w N n v (nI i) (nI w) M = some (.inl 0, M') ∧ (∀ j, i ≤ j → j < w → M'.1 k j = v) ∧ (∀ j, j < i ∨ w ≤ j → M'.1 k j = M.1 k j) ∧ (∀ a, a ≠ k → M'.1 a = M.1 a) ∧ M'.2 = M.2 := by
  intro n
  induction n with
  | zero => intro i M h1 h2; omega
  | succ n ih =>
    intro i M h1 h2
    rw [fJ7_fill_53178_B5]
    by_cases h : i = w
    · subst h
      rw [if_pos (nI_le (Nat.le_refl i) hw)]
      exact ⟨M, rfl, fun j h3 h4 => by omega, fun j _ => rfl, fun _ _ => rfl, rfl⟩
    · have hlt : i < w := by omega
      rw [if_neg (nI_ge hlt hw), if_pos (zin_nI hlt hw)]
      unfold zl
      rw [nI_clamp (by omega), nI_1]
      obtain ⟨M', e, g1, g2, g3, g4⟩ := ih (i + 1) (zsI M k i v) (by omega) (by omega)
      refine ⟨M', e, fun j h3 h4 => ?_, fun j h3 => ?_, fun a ha => ?_, g4⟩
      · by_cases hj : j = i
        · subst hj
          rw [g2 j (Or.inl (by omega)), zsI_s, pk_us]
        · exact g1 j (by omega) h4
      · rw [g2 j (by omega), zsI_s, pk_un (by omega)]
      · rw [g3 a ha, zsI_n ha]
theorem fill_spec (k w N : Nat) (v : Int32) (M : zMem) (hw : w < 2 ^ 31) (hN : w < N) : ∃ M', fJ7_fill_53178 k w N v M = some (.inl 0, M') ∧ (∀ j, j < w → M'.1 k j = v) ∧ (∀ j, w ≤ j → M'.1 k j = M.1 k j) ∧ (∀ a, a ≠ k → M'.1 a = M.1 a) ∧ M'.2 = M.2 := by
  obtain ⟨M', e, g1, g2, g3, g4⟩ := fill_loop k w N v hw N 0 M (Nat.zero_le _) (by omega)
  exact ⟨M', e, fun j h => g1 j (Nat.zero_le _) h, fun j h => g2 j (Or.inr h), g3, g4⟩
theorem begin_spec (o N : Nat) (M : zMem) (hN : 5 < N) : ∃ M', fX0_begin o N M = some (.inl 0, M') ∧ M'.1 o 0 = 0 ∧ M'.1 o 7 = 0 ∧ (∀ j, j ≠ 0 → j ≠ 7 → M'.1 o j = M.1 o j) ∧ (∀ j, j < 5 → M'.1 (o + 1) j = 0 ∧ M'.1 (o + 2) j = 0 ∧ M'.1 (o + 3) j = -1 ∧ M'.1 (o + 4) j = 0 ∧ M'.1 (o + 11) j = 0) ∧
    (∀ a, a ≠ o → a ≠ o + 1 → a ≠ o + 2 → a ≠ o + 3 → a ≠ o + 4 → a ≠ o + 11 → M'.1 a = M.1 a) ∧ M'.2 o 10 = 0 ∧ M'.2 o 11 = 0 ∧ (∀ j, j ≠ 10 → j ≠ 11 → M'.2 o j = M.2 o j) ∧ ∀ a, a ≠ o → M'.2 a = M.2 a := by
  unfold fX0_begin
  obtain ⟨M1, e1, a1, -, c1, d1⟩ := fill_spec (o + 1) 5 N 0 (zsI M o 0 0) (by decide) hN
  obtain ⟨M2, e2, a2, -, c2, d2⟩ := fill_spec (o + 2) 5 N 0 M1 (by decide) hN
  obtain ⟨M3, e3, a3, -, c3, d3⟩ := fill_spec (o + 3) 5 N (-1) M2 (by decide) hN
  obtain ⟨M4, e4, a4, -, c4, d4⟩ := fill_spec (o + 4) 5 N 0 M3 (by decide) hN
  obtain ⟨M5, e5, a5, -, c5, d5⟩ := fill_spec (o + 11) 5 N 0 M4 (by decide) hN
  dsimp only [zl]
  rw [e1]
  dsimp only [zb]
  rw [e2]
  dsimp only
  rw [e3]
  dsimp only
  rw [e4]
  dsimp only
  rw [e5]
  dsimp only
  have ho : M5.1 o = upd (M.1 o) 0 0 := by rw [c5 o (by omega), c4 o (by omega), c3 o (by omega), c2 o (by omega), c1 o (by omega), zsI_s]
  have h2 : M5.2 = M.2 := by rw [d5, d4, d3, d2, d1, zsI_2]
  refine ⟨_, rfl, ?_, ?_, ?_, ?_, ?_, ?_, ?_, ?_, ?_⟩
  · rw [zsL_1, zsL_1, zsI_s, pk_un (by decide), ho, pk_us]
  · rw [zsL_1, zsL_1, zsI_s, pk_us]
  · intro j h0 h7
    rw [zsL_1, zsL_1, zsI_s, pk_un h7, ho, pk_un h0]
  · intro j hj
    rw [zsL_1, zsL_1, zsI_n (by omega), zsI_n (by omega), zsI_n (by omega), zsI_n (by omega), zsI_n (by omega)]
    refine ⟨?_, ?_, ?_, ?_, a5 j hj⟩
    · rw [c5 _ (by omega), c4 _ (by omega), c3 _ (by omega), c2 _ (by omega)]; exact a1 j hj
    · rw [c5 _ (by omega), c4 _ (by omega), c3 _ (by omega)]; exact a2 j hj
    · rw [c5 _ (by omega), c4 _ (by omega)]; exact a3 j hj
    · rw [c5 _ (by omega)]; exact a4 j hj
  · intro a h0 h1 h2 h3 h4 h5
    rw [zsL_1, zsL_1, zsI_n h0, c5 a h5, c4 a h4, c3 a h3, c2 a h2, c1 a h1, zsI_n h0]
  · rw [zsL_s, pk_uLn (by decide), zsL_s, pk_uLs]
  · rw [zsL_s, pk_uLs]
  · intro j h0 h1
    rw [zsL_s, pk_uLn h1, zsL_s, pk_uLn h0, zsI_2, h2]
  · intro a ha
    rw [zsL_n ha, zsL_n ha, zsI_2, h2]
theorem arrV_ext {c n : Nat} {f g : Nat → Value} (h : ∀ j, j < n → f j = g j) : arrV c n f = arrV c n g := by
  unfold arrV
  congr 1
  congr 1
  funext j
  exact h j.val j.isLt
/-- numbers that a cell can't tell apart -/
def zSame (k : Nat) (M M' : zMem) : Prop := ((zK k).1 = 0 → (∀ j, M.1 k j = M'.1 k j) ∧ ∀ j, M.2 k j = M'.2 k j) ∧ ((zK k).1 = 1 → ∀ j, j < (zK k).2 → M.1 k j = M'.1 k j) ∧ ((zK k).1 = 2 → ∀ j, j < (zK k).2 → M.2 k j = M'.2 k j)
theorem zW_same {Z : zZ} {lv : Nat → Bool} {ad : Nat → Nat} {M M' : zMem} {H : Heap} (h : zW Z lv ad M H) (hs : ∀ k, lv k = true → zSame k M M') : zW Z lv ad M' H := by
  refine ⟨fun k hk => ?_, h.2⟩
  have h1 := h.1 k hk
  obtain ⟨s0, s1, s2⟩ := hs k hk
  cases hq : zK k with
  | mk a b =>
    rw [hq] at s0 s1 s2
    match a, hq with
    | 0, hq =>
      rw [zE_0 hq] at h1 ⊢
      obtain ⟨t1, t2⟩ := s0 rfl
      rw [← funext t1, ← funext t2]
      exact h1
    | 1, hq =>
      rw [zE_1 hq] at h1 ⊢
      show H[ad k]? = some (vp_cell _ _)
      rw [vp_cell_i, ← arrV_ext (fun j hj => congrArg Value.int (s1 rfl j hj))]
      exact h1
    | 2, hq =>
      rw [zE_2 hq] at h1 ⊢
      show H[ad k]? = some (vp_cell _ _)
      rw [vp_cell_l, ← arrV_ext (fun j hj => congrArg Value.long (s2 rfl j hj))]
      exact h1
    | n + 3, hq =>
      have e : ∀ (M : zMem), zE Z ad k (M.1 k) (M.2 k) = .inl (Z.2.2.2, b, .inr (.inr (.inr (.inr (fun i => if i < b then some (ad (k + 1 + i)) else none))))) := fun M => by simp only [zE, hq]
      rw [e] at h1 ⊢
      exact h1
