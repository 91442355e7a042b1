/-! pure: versionAt -/
theorem b_versionAt (N n : Nat) {A : VA} {B : VB} {M : zMem} (h : JJ n A B M) (x y : Int32) : Both n (fL_versionAt N x y) (fX8_versionAt N x y) M := by
  have no1 : x < 0 ∨ nI 5 ≤ x → Both n (fL_versionAt N x y) (fX8_versionAt N x y) M := fun c => by
    refine Both.no h (r := 1) ?_ ?_ (by decide)
    · unfold fL_versionAt fX7_versionAt
      rw [x_bakn N c, q_zbr, q_zbxr, if_pos (by decide)]
    · unfold fX8_versionAt fX8_versionAt_B24 fX8_versionAt_B29
      rw [m_bakn N c, q_zb, if_pos rfl, q_zl, zsI_s, pk_us, if_neg (by decide)]
  rcases pk_ix x (n := 5) (by decide) with c | c | ⟨a, ha, rfl⟩
  · exact no1 (Or.inl c)
  · exact no1 (Or.inr c)
  have hl := h.aok.len a ha
  have no2 : y < 0 ∨ nI (A.len a) ≤ y → Both n (fL_versionAt N (nI a) y) (fX8_versionAt N (nI a) y) M := fun c => by
    refine Both.no h (r := 1) ?_ ?_ (by decide)
    · have e : fX7_versionAt N (nI a) y M = some (.inr 1, M) := by
        unfold fX7_versionAt
        rw [x_bak N ha, q_zb]
        by_cases d : y < 0
        · rw [if_pos d]
        · rw [if_neg d, if_pos (z5 ha), nI_clamp (by omega), h.ra.1.len a ha, if_neg]
          intro q
          rcases c with c | c
          · exact d c
          · have e1 := Int32.lt_iff_toInt_lt.mp q
            have e2 := Int32.le_iff_toInt_le.mp c
            omega
      unfold fL_versionAt
      rw [e, q_zbxr, if_pos (by decide)]
    · unfold fX8_versionAt fX8_versionAt_B24 fX8_versionAt_B29
      rw [m_bak N ha, q_zb, if_neg (by decide), if_pos (z5 ha), nI_clamp (by omega), h.rm.1.len a ha, m_inn N (by omega) c, q_zb, if_pos rfl, q_zl, zsI_s, pk_us, if_neg (by decide)]
  rcases pk_ix y (n := A.len a) (by omega) with c | c | ⟨i, hi, rfl⟩
  · exact no2 (Or.inl c)
  · exact no2 (Or.inr c)
  · have e20 : ((20 : Int32) * nI a) + nI i = nI (20 * a + i) := by
      rw [show (20 : Int32) = nI 20 from rfl, pk_mul, nI_add]
    have z : zin (nI (20 * a + i)) 100 = true := zin_nI (by omega) (by decide)
    refine Both.get h (v := nI (A.log a i)) ?_ ?_
    · unfold fL_versionAt fX7_versionAt
      rw [x_bak N ha, q_zb, if_neg (nI_pos (by omega)), if_pos (z5 ha), nI_clamp (by omega), h.ra.1.len a ha, if_pos (nI_lt hi (by omega)), if_pos (z5 ha), if_pos (z20 (by omega)), nI_clamp (by omega), show M.1 (6 + 1 + a) i = nI (A.log a i) from h.ra.1.log a ha i hi, q_zbx, if_pos z1, cl0]
      rfl
    · unfold fX8_versionAt fX8_versionAt_B29
      rw [m_bak N ha, q_zb, if_neg (by decide), if_pos (z5 ha), nI_clamp (by omega), zsL_1, h.rm.1.len a ha, m_in N (by omega) hi, q_zb, if_neg (by decide), q_zl, zsI_s, pk_us, if_pos rfl, e20, if_pos z, nI_clamp (by omega), zsI_n (show 67 ≠ 62 by decide), zsL_1, h.rm.1.log a ha i hi]
