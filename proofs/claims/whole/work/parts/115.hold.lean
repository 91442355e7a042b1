/-! pure: holders, isHeld, wasHeld -/
theorem bool_nI (b : Bool) : zbool (nI b.toNat) = true := by cases b <;> decide
theorem b_holders (N n : Nat) (hN : 101 ≤ N) {A : VA} {B : VB} {M : zMem} (h : JJ n A B M) (x : Int32) : Both n (fL_holders N x) (fX8_holders N x) M := by
  have hK : A.V ≤ 60 := h.aok.ver
  have no : x < 0 ∨ nI A.V ≤ x → Both n (fL_holders N x) (fX8_holders N x) M := fun c => by
    refine Both.no h (r := 1) ?_ ?_ (by decide)
    · unfold fL_holders fX7_holders
      rw [x_Version N h.ra.1.ver c, q_zbr, q_zbxr, if_pos (by decide)]
    · unfold fX8_holders
      rw [m_Version N h.rm.1.ver (by omega) c, q_zb, if_pos rfl]
  rcases pk_ix x (n := A.V) (by omega) with c | c | ⟨b, hb, rfl⟩
  · exact no (Or.inl c)
  · exact no (Or.inr c)
  · refine Both.get h (v := nI (hset A b)) ?_ ?_
    · unfold fL_holders fX7_holders
      rw [x_Version' N h.ra.1.ver (by omega) hb, q_zb, if_pos (z60 (by omega)), nI_clamp (by omega), h.ra.2.hs b hb, q_zbx, if_pos z1, cl0]
      rfl
    · unfold fX8_holders
      rw [m_Version' N (M := zsL M 87 0 _) h.rm.1.ver (by omega) hb, q_zb, if_neg (by decide), m_hold N hN h.rm.out.note.1 h.aok (by omega), q_zb]
theorem b_isHeld (N n : Nat) (hN : 101 ≤ N) {A : VA} {B : VB} {M : zMem} (h : JJ n A B M) (x : Int32) : Both n (fL_isHeld N x) (fX8_isHeld N x) M := by
  have hK : A.V ≤ 60 := h.aok.ver
  have no : x < 0 ∨ nI A.V ≤ x → Both n (fL_isHeld N x) (fX8_isHeld N x) M := fun c => by
    refine Both.no h (r := 1) ?_ ?_ (by decide)
    · unfold fL_isHeld fX7_isHeld
      rw [x_Version N h.ra.1.ver c, q_zbr, q_zbxr, if_pos (by decide)]
    · unfold fX8_isHeld
      rw [m_Version N h.rm.1.ver (by omega) c, q_zb, if_pos rfl]
  rcases pk_ix x (n := A.V) (by omega) with c | c | ⟨b, hb, rfl⟩
  · exact no (Or.inl c)
  · exact no (Or.inr c)
  · refine Both.get h (v := nI (held A b).toNat) ?_ ?_
    · unfold fL_isHeld fX7_isHeld
      rw [x_Version' N h.ra.1.ver (by omega) hb, q_zb, q_has N _ (by omega), q_zb, if_pos (bool_nI _), q_zbx, h.ra.2.hd b hb]
      show _ = some (Sum.inl 0, zsL M 87 0 (nI (decide (3 ≤ p5 (hset A b))).toNat).toInt64)
      cases decide (3 ≤ p5 (hset A b))
      · rw [if_pos (by decide)]; unfold fL_isHeld_B15; rw [if_pos z1, cl0]; rfl
      · rw [if_neg (by decide)]; unfold fL_isHeld_B15; rw [if_pos z1, cl0]; rfl
    · unfold fX8_isHeld
      rw [m_Version' N (M := zsL M 87 0 _) h.rm.1.ver (by omega) hb, q_zb, if_neg (by decide), m_held N hN h.rm.out.note.1 h.aok (by omega), q_zb]
      cases held A b
      · rw [if_pos (by decide)]; rfl
      · rw [if_neg (by decide)]; rfl
theorem b_wasHeld (N n : Nat) (hN : 101 ≤ N) {A : VA} {B : VB} {M : zMem} (h : JJ n A B M) (x : Int32) : Both n (fL_wasHeld N x) (fX8_wasHeld N x) M := by
  have hK : A.V ≤ 60 := h.aok.ver
  have no : x < 0 ∨ nI A.V ≤ x → Both n (fL_wasHeld N x) (fX8_wasHeld N x) M := fun c => by
    refine Both.no h (r := 1) ?_ ?_ (by decide)
    · unfold fL_wasHeld fX7_wasHeld
      rw [x_Version N h.ra.1.ver c, q_zbr, q_zbxr, if_pos (by decide)]
    · unfold fX8_wasHeld
      rw [m_Version N h.rm.1.ver (by omega) c, q_zb, if_pos rfl]
  rcases pk_ix x (n := A.V) (by omega) with c | c | ⟨b, hb, rfl⟩
  · exact no (Or.inl c)
  · exact no (Or.inr c)
  · refine Both.get h (v := nI (A.ev b).toNat) ?_ ?_
    · unfold fL_wasHeld fX7_wasHeld
      rw [x_Version' N h.ra.1.ver (by omega) hb, q_zb, q_has N _ (by omega), q_zb, if_pos (bool_nI _), q_zbx, h.ra.2.ev b (by omega)]
      cases A.ev b
      · rw [if_pos (by decide)]; unfold fL_wasHeld_B15; rw [if_pos z1, cl0]; rfl
      · rw [if_neg (by decide)]; unfold fL_wasHeld_B15; rw [if_pos z1, cl0]; rfl
    · unfold fX8_wasHeld fX8_wasHeld_B26
      rw [m_Version' N (M := zsL M 87 0 _) h.rm.1.ver (by omega) hb, q_zb, if_neg (by decide), if_pos (z60 (by omega)), nI_clamp (by omega), zsI_n (show 73 ≠ 62 by decide), zsL_1, h.rm.1.ev b (by omega)]
      cases he : A.ev b
      · rw [if_neg (by decide), m_held N hN h.rm.out.note.1 h.aok (by omega), q_zb]
        have : held A b = false := by
          cases hd : held A b
          · rfl
          · rw [h.aok.evh b hd] at he; exact absurd he (by decide)
        rw [this, if_pos (by decide)]; rfl
      · rw [if_pos (by decide)]; rfl
