/-! pure: the calls that only ask a bakery -/
theorem b_role (N n : Nat) {A : VA} {B : VB} {M : zMem} (h : JJ n A B M) (x : Int32) : Both n (fL_role N x) (fX8_role N x) M := by
  rcases pk_ix x (n := 5) (by decide) with c | c | ⟨b, hb, rfl⟩
  · refine Both.no h (r := 1) ?_ ?_ (by decide)
    · unfold fL_role fX7_role
      rw [x_bakn N (Or.inl c), q_zbr, q_zbxr, if_pos (by decide)]
    · unfold fX8_role fX8_isTold fX8_isTold_B13
      rw [m_bakn N (Or.inl c), q_zb, if_pos rfl, q_zl, zsI_s, pk_us, if_neg (by decide), q_zb, if_pos rfl]
  · refine Both.no h (r := 1) ?_ ?_ (by decide)
    · unfold fL_role fX7_role
      rw [x_bakn N (Or.inr c), q_zbr, q_zbxr, if_pos (by decide)]
    · unfold fX8_role fX8_isTold fX8_isTold_B13
      rw [m_bakn N (Or.inr c), q_zb, if_pos rfl, q_zl, zsI_s, pk_us, if_neg (by decide), q_zb, if_pos rfl]
  · refine Both.get h (v := nI (A.role b)) ?_ ?_
    · unfold fL_role fX7_role
      rw [x_bak N hb, q_zb, if_pos (z5 hb), nI_clamp (by omega), h.ra.1.rol b hb, q_zbx, if_pos z1, cl0]
      rfl
    · unfold fX8_role fX8_isTold fX8_isTold_B13
      rw [m_bak N hb, q_zb, if_neg (by decide), q_zl, zsI_s, pk_us, if_pos (by decide), q_zb, if_neg (by decide), if_pos (z5 hb), nI_clamp (by omega), zsI_n (show 64 ≠ 62 by decide), zsL_1, h.rm.1.rol b hb]
theorem b_votedFor (N n : Nat) {A : VA} {B : VB} {M : zMem} (h : JJ n A B M) (x : Int32) : Both n (fL_votedFor N x) (fX8_votedFor N x) M := by
  rcases pk_ix x (n := 5) (by decide) with c | c | ⟨b, hb, rfl⟩
  · refine Both.no h (r := 1) ?_ ?_ (by decide)
    · unfold fL_votedFor fX7_votedFor
      rw [x_bakn N (Or.inl c), q_zbr, q_zbxr, if_pos (by decide)]
    · unfold fX8_votedFor fX8_isTold fX8_isTold_B13
      rw [m_bakn N (Or.inl c), q_zb, if_pos rfl, q_zl, zsI_s, pk_us, if_neg (by decide), q_zb, if_pos rfl]
  · refine Both.no h (r := 1) ?_ ?_ (by decide)
    · unfold fL_votedFor fX7_votedFor
      rw [x_bakn N (Or.inr c), q_zbr, q_zbxr, if_pos (by decide)]
    · unfold fX8_votedFor fX8_isTold fX8_isTold_B13
      rw [m_bakn N (Or.inr c), q_zb, if_pos rfl, q_zl, zsI_s, pk_us, if_neg (by decide), q_zb, if_pos rfl]
  · refine Both.get h (v := nI (A.vote b) - 1) ?_ ?_
    · unfold fL_votedFor fX7_votedFor
      rw [x_bak N hb, q_zb, if_pos (z5 hb), nI_clamp (by omega), h.ra.1.vot b hb, q_zbx, if_pos z1, cl0]
      rfl
    · unfold fX8_votedFor fX8_isTold fX8_isTold_B13
      rw [m_bak N hb, q_zb, if_neg (by decide), q_zl, zsI_s, pk_us, if_pos (by decide), q_zb, if_neg (by decide), if_pos (z5 hb), nI_clamp (by omega), zsI_n (show 65 ≠ 62 by decide), zsL_1, h.rm.1.vot b hb]
theorem b_entries (N n : Nat) {A : VA} {B : VB} {M : zMem} (h : JJ n A B M) (x : Int32) : Both n (fL_entries N x) (fX8_entries N x) M := by
  rcases pk_ix x (n := 5) (by decide) with c | c | ⟨b, hb, rfl⟩
  · refine Both.no h (r := 1) ?_ ?_ (by decide)
    · unfold fL_entries fX7_entries
      rw [x_bakn N (Or.inl c), q_zbr, q_zbxr, if_pos (by decide)]
    · unfold fX8_entries fX8_isTold fX8_isTold_B13
      rw [m_bakn N (Or.inl c), q_zb, if_pos rfl, q_zl, zsI_s, pk_us, if_neg (by decide), q_zb, if_pos rfl]
  · refine Both.no h (r := 1) ?_ ?_ (by decide)
    · unfold fL_entries fX7_entries
      rw [x_bakn N (Or.inr c), q_zbr, q_zbxr, if_pos (by decide)]
    · unfold fX8_entries fX8_isTold fX8_isTold_B13
      rw [m_bakn N (Or.inr c), q_zb, if_pos rfl, q_zl, zsI_s, pk_us, if_neg (by decide), q_zb, if_pos rfl]
  · refine Both.get h (v := nI (A.len b)) ?_ ?_
    · unfold fL_entries fX7_entries
      rw [x_bak N hb, q_zb, if_pos (z5 hb), nI_clamp (by omega), h.ra.1.len b hb, q_zbx, if_pos z1, cl0]
      rfl
    · unfold fX8_entries fX8_isTold fX8_isTold_B13
      rw [m_bak N hb, q_zb, if_neg (by decide), q_zl, zsI_s, pk_us, if_pos (by decide), q_zb, if_neg (by decide), if_pos (z5 hb), nI_clamp (by omega), zsI_n (show 68 ≠ 62 by decide), zsL_1, h.rm.1.len b hb]
theorem b_store (N n : Nat) {A : VA} {B : VB} {M : zMem} (h : JJ n A B M) (x : Int32) : Both n (fL_store N x) (fX8_store N x) M := by
  rcases pk_ix x (n := 5) (by decide) with c | c | ⟨b, hb, rfl⟩
  · refine Both.no h (r := 1) ?_ ?_ (by decide)
    · unfold fL_store fX7_store
      rw [x_bakn N (Or.inl c), q_zbr, q_zbxr, if_pos (by decide)]
    · unfold fX8_store fX8_isTold fX8_isTold_B13
      rw [m_bakn N (Or.inl c), q_zb, if_pos rfl, q_zl, zsI_s, pk_us, if_neg (by decide), q_zb, if_pos rfl]
  · refine Both.no h (r := 1) ?_ ?_ (by decide)
    · unfold fL_store fX7_store
      rw [x_bakn N (Or.inr c), q_zbr, q_zbxr, if_pos (by decide)]
    · unfold fX8_store fX8_isTold fX8_isTold_B13
      rw [m_bakn N (Or.inr c), q_zb, if_pos rfl, q_zl, zsI_s, pk_us, if_neg (by decide), q_zb, if_pos rfl]
  · refine Both.get h (v := nI (B.cnt b)) ?_ ?_
    · unfold fL_store fX7_store
      rw [x_bak N hb, q_zb, if_pos (z5 hb), nI_clamp (by omega), h.rx.cnt b hb, q_zbx, if_pos z1, cl0]
      rfl
    · unfold fX8_store fX8_isTold fX8_isTold_B13
      rw [m_bak N hb, q_zb, if_neg (by decide), q_zl, zsI_s, pk_us, if_pos (by decide), q_zb, if_neg (by decide), if_pos (z5 hb), nI_clamp (by omega), zsI_n (show 78 ≠ 62 by decide), zsL_1, h.rm.2.cnt b hb]
theorem b_missed (N n : Nat) {A : VA} {B : VB} {M : zMem} (h : JJ n A B M) (x : Int32) : Both n (fL_missed N x) (fX8_missed N x) M := by
  rcases pk_ix x (n := 5) (by decide) with c | c | ⟨b, hb, rfl⟩
  · refine Both.no h (r := 1) ?_ ?_ (by decide)
    · unfold fL_missed fX7_missed
      rw [x_bakn N (Or.inl c), q_zbr, q_zbxr, if_pos (by decide)]
    · unfold fX8_missed fX8_isTold fX8_isTold_B13
      rw [m_bakn N (Or.inl c), q_zb, if_pos rfl, q_zl, zsI_s, pk_us, if_neg (by decide), q_zb, if_pos rfl]
  · refine Both.no h (r := 1) ?_ ?_ (by decide)
    · unfold fL_missed fX7_missed
      rw [x_bakn N (Or.inr c), q_zbr, q_zbxr, if_pos (by decide)]
    · unfold fX8_missed fX8_isTold fX8_isTold_B13
      rw [m_bakn N (Or.inr c), q_zb, if_pos rfl, q_zl, zsI_s, pk_us, if_neg (by decide), q_zb, if_pos rfl]
  · refine Both.get h (v := nI (B.mis b)) ?_ ?_
    · unfold fL_missed fX7_missed
      rw [x_bak N hb, q_zb, if_pos (z5 hb), nI_clamp (by omega), h.rx.mis b hb, q_zbx, if_pos z1, cl0]
      rfl
    · unfold fX8_missed fX8_isTold fX8_isTold_B13
      rw [m_bak N hb, q_zb, if_neg (by decide), q_zl, zsI_s, pk_us, if_pos (by decide), q_zb, if_neg (by decide), if_pos (z5 hb), nI_clamp (by omega), zsI_n (show 79 ≠ 62 by decide), zsL_1, h.rm.2.mis b hb]
