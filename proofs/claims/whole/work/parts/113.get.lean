/-! pure: the calls that only ask a version, a batch or a recall -/
theorem m_inn (N : Nat) {x : Int32} {K : Nat} (hK : K < 2 ^ 30) (h : x < 0 ∨ nI K ≤ x) (M : zMem) : fX8_in N x 0 (nI K - 1) M = some (.inl 0, M) := by
  unfold fX8_in
  by_cases c : x < 0
  · rw [if_pos c]
  · rw [if_neg c, if_pos]
    rcases h with h | h
    · exact absurd h c
    · have e1 : (nI K - 1).toInt = (K : Int) - 1 := pk_sub_toInt (b := 1) hK (by decide)
      have e2 := Int32.le_iff_toInt_le.mp h
      rw [nI_toInt (by omega)] at e2
      exact Int32.lt_iff_toInt_lt.mpr (by omega)
theorem m_in (N : Nat) {K j : Nat} (hK : K < 2 ^ 30) (h : j < K) (M : zMem) : fX8_in N (nI j) 0 (nI K - 1) M = some (.inl 1, M) := by
  unfold fX8_in
  rw [if_neg (nI_pos (by omega)), q_pred (by omega), if_neg (nI_nlt (by omega) (by omega))]
theorem x_chk {x : Int32} {K : Nat} {o : zRES} {M : zMem} (h : x < 0 ∨ nI K ≤ x) (ho : o = if x < 0 then some (.inr 1, M) else if x < nI K then some (.inl 0, M) else some (.inr 1, M)) : o = some (.inr 1, M) := by
  rw [ho]
  by_cases c : x < 0
  · rw [if_pos c]
  · rw [if_neg c, if_neg]
    intro q
    rcases h with h | h
    · exact c h
    · have e1 := Int32.lt_iff_toInt_lt.mp q
      have e2 := Int32.le_iff_toInt_le.mp h
      omega
theorem x_chk' {j K : Nat} {o : zRES} {M : zMem} (hK : K < 2 ^ 30) (h : j < K) (ho : o = if nI j < 0 then some (.inr 1, M) else if nI j < nI K then some (.inl 0, M) else some (.inr 1, M)) : o = some (.inl 0, M) := by
  rw [ho, if_neg (nI_pos (by omega)), if_pos (nI_lt h (by omega))]
theorem x_Version (N : Nat) {K : Nat} {M : zMem} (e : M.1 1 7 = nI K) {x : Int32} (h : x < 0 ∨ nI K ≤ x) : fX7_checkVersion N x M = some (.inr 1, M) := x_chk h (by unfold fX7_checkVersion; rw [e])
theorem x_Version' (N : Nat) {K : Nat} {M : zMem} (e : M.1 1 7 = nI K) (hK : K < 2 ^ 30) {j : Nat} (h : j < K) : fX7_checkVersion N (nI j) M = some (.inl 0, M) := x_chk' hK h (by unfold fX7_checkVersion; rw [e])
theorem m_Version (N : Nat) {K : Nat} {M : zMem} (e : M.1 62 7 = nI K) (hK : K < 2 ^ 30) {x : Int32} (h : x < 0 ∨ nI K ≤ x) : fX8_isVersion N x M = some (.inl 0, zsI M 62 30 1) := by
  unfold fX8_isVersion fX8_isVersion_B20
  rw [e, m_inn N hK h, q_zb, if_pos rfl, q_zl, zsI_s, pk_us, if_neg (by decide)]
theorem m_Version' (N : Nat) {K : Nat} {M : zMem} (e : M.1 62 7 = nI K) (hK : K < 2 ^ 30) {j : Nat} (h : j < K) : fX8_isVersion N (nI j) M = some (.inl 1, zsI M 62 30 0) := by
  unfold fX8_isVersion fX8_isVersion_B20
  rw [e, m_in N hK h, q_zb, if_neg (by decide), q_zl, zsI_s, pk_us, if_pos rfl]
theorem b_termOf (N n : Nat) (hn : n ≤ 512) {A : VA} {B : VB} {M : zMem} (h : JJ n A B M) (x : Int32) : Both n (fL_termOf N x) (fX8_termOf N x) M := by
  have hK : A.V ≤ 60 := h.aok.ver
  have no : x < 0 ∨ nI A.V ≤ x → Both n (fL_termOf N x) (fX8_termOf N x) M := fun c => by
    refine Both.no h (r := 1) ?_ ?_ (by decide)
    · unfold fL_termOf fX7_termOf
      rw [x_Version N h.ra.1.ver c, q_zbr, q_zbxr, if_pos (by decide)]
    · unfold fX8_termOf
      rw [m_Version N h.rm.1.ver (by omega) c, q_zb, if_pos rfl]
  rcases pk_ix x (n := A.V) (by omega) with c | c | ⟨b, hb, rfl⟩
  · exact no (Or.inl c)
  · exact no (Or.inr c)
  · have z : zin (nI b) 60 = true := zin_nI (by omega) (by decide)
    have z2 : zin (nI b) 60 = true := zin_nI (by omega) (by decide)
    refine Both.get h (v := nI (A.vt b)) ?_ ?_
    · unfold fL_termOf fX7_termOf
      rw [x_Version' N h.ra.1.ver (by omega) hb, q_zb, if_pos z, nI_clamp (by omega), h.ra.1.vtm b hb, q_zbx, if_pos z1, cl0]
      rfl
    · unfold fX8_termOf
      rw [m_Version' N (M := zsL M 87 0 _) h.rm.1.ver (by omega) hb, q_zb, if_neg (by decide), if_pos z2, nI_clamp (by omega), zsI_n (show 69 ≠ 62 by decide), zsL_1, h.rm.1.vtm b hb]
theorem x_Batch (N : Nat) {K : Nat} {M : zMem} (e : M.1 53 0 = nI K) {x : Int32} (h : x < 0 ∨ nI K ≤ x) : fX7_checkBatch N x M = some (.inr 1, M) := x_chk h (by unfold fX7_checkBatch; rw [e])
theorem x_Batch' (N : Nat) {K : Nat} {M : zMem} (e : M.1 53 0 = nI K) (hK : K < 2 ^ 30) {j : Nat} (h : j < K) : fX7_checkBatch N (nI j) M = some (.inl 0, M) := x_chk' hK h (by unfold fX7_checkBatch; rw [e])
theorem m_Batch (N : Nat) {K : Nat} {M : zMem} (e : M.1 62 21 = nI K) (hK : K < 2 ^ 30) {x : Int32} (h : x < 0 ∨ nI K ≤ x) : fX8_isBatch N x M = some (.inl 0, zsI M 62 30 1) := by
  unfold fX8_isBatch fX8_isBatch_B20
  rw [e, m_inn N hK h, q_zb, if_pos rfl, q_zl, zsI_s, pk_us, if_neg (by decide)]
theorem m_Batch' (N : Nat) {K : Nat} {M : zMem} (e : M.1 62 21 = nI K) (hK : K < 2 ^ 30) {j : Nat} (h : j < K) : fX8_isBatch N (nI j) M = some (.inl 1, zsI M 62 30 0) := by
  unfold fX8_isBatch fX8_isBatch_B20
  rw [e, m_in N hK h, q_zb, if_neg (by decide), q_zl, zsI_s, pk_us, if_pos rfl]
theorem b_versionOf (N n : Nat) (hn : n ≤ 512) {A : VA} {B : VB} {M : zMem} (h : JJ n A B M) (x : Int32) : Both n (fL_versionOf N x) (fX8_versionOf N x) M := by
  have hK : B.Bc ≤ 60 := h.bok.Bc
  have no : x < 0 ∨ nI B.Bc ≤ x → Both n (fL_versionOf N x) (fX8_versionOf N x) M := fun c => by
    refine Both.no h (r := 1) ?_ ?_ (by decide)
    · unfold fL_versionOf fX7_versionOf
      rw [x_Batch N h.rx.Bc c, q_zbr, q_zbxr, if_pos (by decide)]
    · unfold fX8_versionOf
      rw [m_Batch N h.rm.2.Bc (by omega) c, q_zb, if_pos rfl]
  rcases pk_ix x (n := B.Bc) (by omega) with c | c | ⟨b, hb, rfl⟩
  · exact no (Or.inl c)
  · exact no (Or.inr c)
  · have z : zin (nI b) 60 = true := zin_nI (by omega) (by decide)
    have z2 : zin (nI b) 60 = true := zin_nI (by omega) (by decide)
    refine Both.get h (v := nI (B.bver b)) ?_ ?_
    · unfold fL_versionOf fX7_versionOf
      rw [x_Batch' N h.rx.Bc (by omega) hb, q_zb, if_pos z, nI_clamp (by omega), h.rx.bver b hb, q_zbx, if_pos z1, cl0]
      rfl
    · unfold fX8_versionOf
      rw [m_Batch' N (M := zsL M 87 0 _) h.rm.2.Bc (by omega) hb, q_zb, if_neg (by decide), if_pos z2, nI_clamp (by omega), zsI_n (show 80 ≠ 62 by decide), zsL_1, h.rm.2.bver b hb]
theorem b_lotsOf (N n : Nat) (hn : n ≤ 512) {A : VA} {B : VB} {M : zMem} (h : JJ n A B M) (x : Int32) : Both n (fL_lotsOf N x) (fX8_lotsOf N x) M := by
  have hK : B.Bc ≤ 60 := h.bok.Bc
  have no : x < 0 ∨ nI B.Bc ≤ x → Both n (fL_lotsOf N x) (fX8_lotsOf N x) M := fun c => by
    refine Both.no h (r := 1) ?_ ?_ (by decide)
    · unfold fL_lotsOf fX7_lotsOf
      rw [x_Batch N h.rx.Bc c, q_zbr, q_zbxr, if_pos (by decide)]
    · unfold fX8_lotsOf
      rw [m_Batch N h.rm.2.Bc (by omega) c, q_zb, if_pos rfl]
  rcases pk_ix x (n := B.Bc) (by omega) with c | c | ⟨b, hb, rfl⟩
  · exact no (Or.inl c)
  · exact no (Or.inr c)
  · have z : zin (nI b) 60 = true := zin_nI (by omega) (by decide)
    have z2 : zin (nI b) 60 = true := zin_nI (by omega) (by decide)
    refine Both.get h (v := nI (B.blot b)) ?_ ?_
    · unfold fL_lotsOf fX7_lotsOf
      rw [x_Batch' N h.rx.Bc (by omega) hb, q_zb, if_pos z, nI_clamp (by omega), h.rx.blot b hb, q_zbx, if_pos z1, cl0]
      rfl
    · unfold fX8_lotsOf
      rw [m_Batch' N (M := zsL M 87 0 _) h.rm.2.Bc (by omega) hb, q_zb, if_neg (by decide), if_pos z2, nI_clamp (by omega), zsI_n (show 81 ≠ 62 by decide), zsL_1, h.rm.2.blot b hb]
theorem b_left (N n : Nat) (hn : n ≤ 512) {A : VA} {B : VB} {M : zMem} (h : JJ n A B M) (x : Int32) : Both n (fL_left N x) (fX8_left N x) M := by
  have hK : B.Bc ≤ 60 := h.bok.Bc
  have no : x < 0 ∨ nI B.Bc ≤ x → Both n (fL_left N x) (fX8_left N x) M := fun c => by
    refine Both.no h (r := 1) ?_ ?_ (by decide)
    · unfold fL_left fX7_left
      rw [x_Batch N h.rx.Bc c, q_zbr, q_zbxr, if_pos (by decide)]
    · unfold fX8_left
      rw [m_Batch N h.rm.2.Bc (by omega) c, q_zb, if_pos rfl]
  rcases pk_ix x (n := B.Bc) (by omega) with c | c | ⟨b, hb, rfl⟩
  · exact no (Or.inl c)
  · exact no (Or.inr c)
  · have z : zin (nI b) 60 = true := zin_nI (by omega) (by decide)
    have z2 : zin (nI b) 60 = true := zin_nI (by omega) (by decide)
    refine Both.get h (v := nI (B.left b)) ?_ ?_
    · unfold fL_left fX7_left
      rw [x_Batch' N h.rx.Bc (by omega) hb, q_zb, if_pos z, nI_clamp (by omega), h.rx.left b hb, q_zbx, if_pos z1, cl0]
      rfl
    · unfold fX8_left
      rw [m_Batch' N (M := zsL M 87 0 _) h.rm.2.Bc (by omega) hb, q_zb, if_neg (by decide), if_pos z2, nI_clamp (by omega), zsI_n (show 82 ≠ 62 by decide), zsL_1, h.rm.2.left b hb]
theorem x_Recall (N : Nat) {K : Nat} {M : zMem} (e : M.1 58 0 = nI K) {x : Int32} (h : x < 0 ∨ nI K ≤ x) : fX7_checkRecall N x M = some (.inr 1, M) := x_chk h (by unfold fX7_checkRecall; rw [e])
theorem x_Recall' (N : Nat) {K : Nat} {M : zMem} (e : M.1 58 0 = nI K) (hK : K < 2 ^ 30) {j : Nat} (h : j < K) : fX7_checkRecall N (nI j) M = some (.inl 0, M) := x_chk' hK h (by unfold fX7_checkRecall; rw [e])
theorem m_Recall (N : Nat) {K : Nat} {M : zMem} (e : M.1 62 26 = nI K) (hK : K < 2 ^ 30) {x : Int32} (h : x < 0 ∨ nI K ≤ x) : fX8_isRecall N x M = some (.inl 0, zsI M 62 30 1) := by
  unfold fX8_isRecall fX8_isRecall_B20
  rw [e, m_inn N hK h, q_zb, if_pos rfl, q_zl, zsI_s, pk_us, if_neg (by decide)]
theorem m_Recall' (N : Nat) {K : Nat} {M : zMem} (e : M.1 62 26 = nI K) (hK : K < 2 ^ 30) {j : Nat} (h : j < K) : fX8_isRecall N (nI j) M = some (.inl 1, zsI M 62 30 0) := by
  unfold fX8_isRecall fX8_isRecall_B20
  rw [e, m_in N hK h, q_zb, if_neg (by decide), q_zl, zsI_s, pk_us, if_pos rfl]
theorem b_recallOf (N n : Nat) (hn : n ≤ 512) {A : VA} {B : VB} {M : zMem} (h : JJ n A B M) (x : Int32) : Both n (fL_recallOf N x) (fX8_recallOf N x) M := by
  have hK : B.R ≤ 512 := Nat.le_trans (Nat.le_trans (Nat.le_add_right _ _) h.bok.R) hn
  have no : x < 0 ∨ nI B.R ≤ x → Both n (fL_recallOf N x) (fX8_recallOf N x) M := fun c => by
    refine Both.no h (r := 1) ?_ ?_ (by decide)
    · unfold fL_recallOf fX7_recallOf
      rw [x_Recall N h.rx.R c, q_zbr, q_zbxr, if_pos (by decide)]
    · unfold fX8_recallOf
      rw [m_Recall N h.rm.2.R (by omega) c, q_zb, if_pos rfl]
  rcases pk_ix x (n := B.R) (by omega) with c | c | ⟨b, hb, rfl⟩
  · exact no (Or.inl c)
  · exact no (Or.inr c)
  · have z : zin (nI b) 512 = true := zin_nI (by omega) (by decide)
    have z2 : zin (nI b) 2400 = true := zin_nI (by omega) (by decide)
    refine Both.get h (v := nI (B.rb b)) ?_ ?_
    · unfold fL_recallOf fX7_recallOf
      rw [x_Recall' N h.rx.R (by omega) hb, q_zb, if_pos z, nI_clamp (by omega), h.rx.rb b hb, q_zbx, if_pos z1, cl0]
      rfl
    · unfold fX8_recallOf
      rw [m_Recall' N (M := zsL M 87 0 _) h.rm.2.R (by omega) hb, q_zb, if_neg (by decide), if_pos z2, nI_clamp (by omega), zsI_n (show 84 ≠ 62 by decide), zsL_1, h.rm.2.rb b hb]
theorem b_calledBack (N n : Nat) (hn : n ≤ 512) {A : VA} {B : VB} {M : zMem} (h : JJ n A B M) (x : Int32) : Both n (fL_calledBack N x) (fX8_calledBack N x) M := by
  have hK : B.R ≤ 512 := Nat.le_trans (Nat.le_trans (Nat.le_add_right _ _) h.bok.R) hn
  have no : x < 0 ∨ nI B.R ≤ x → Both n (fL_calledBack N x) (fX8_calledBack N x) M := fun c => by
    refine Both.no h (r := 1) ?_ ?_ (by decide)
    · unfold fL_calledBack fX7_calledBack
      rw [x_Recall N h.rx.R c, q_zbr, q_zbxr, if_pos (by decide)]
    · unfold fX8_calledBack
      rw [m_Recall N h.rm.2.R (by omega) c, q_zb, if_pos rfl]
  rcases pk_ix x (n := B.R) (by omega) with c | c | ⟨b, hb, rfl⟩
  · exact no (Or.inl c)
  · exact no (Or.inr c)
  · have z : zin (nI b) 512 = true := zin_nI (by omega) (by decide)
    have z2 : zin (nI b) 2400 = true := zin_nI (by omega) (by decide)
    refine Both.get h (v := nI (B.rl b)) ?_ ?_
    · unfold fL_calledBack fX7_calledBack
      rw [x_Recall' N h.rx.R (by omega) hb, q_zb, if_pos z, nI_clamp (by omega), h.rx.rl b hb, q_zbx, if_pos z1, cl0]
      rfl
    · unfold fX8_calledBack
      rw [m_Recall' N (M := zsL M 87 0 _) h.rm.2.R (by omega) hb, q_zb, if_neg (by decide), if_pos z2, nI_clamp (by omega), zsI_n (show 85 ≠ 62 by decide), zsL_1, h.rm.2.rl b hb]
theorem b_why (N n : Nat) (hn : n ≤ 512) {A : VA} {B : VB} {M : zMem} (h : JJ n A B M) (x : Int32) : Both n (fL_why N x) (fX8_why N x) M := by
  have hK : B.R ≤ 512 := Nat.le_trans (Nat.le_trans (Nat.le_add_right _ _) h.bok.R) hn
  have no : x < 0 ∨ nI B.R ≤ x → Both n (fL_why N x) (fX8_why N x) M := fun c => by
    refine Both.no h (r := 1) ?_ ?_ (by decide)
    · unfold fL_why fX7_why
      rw [x_Recall N h.rx.R c, q_zbr, q_zbxr, if_pos (by decide)]
    · unfold fX8_why
      rw [m_Recall N h.rm.2.R (by omega) c, q_zb, if_pos rfl]
  rcases pk_ix x (n := B.R) (by omega) with c | c | ⟨b, hb, rfl⟩
  · exact no (Or.inl c)
  · exact no (Or.inr c)
  · have z : zin (nI b) 512 = true := zin_nI (by omega) (by decide)
    have z2 : zin (nI b) 2400 = true := zin_nI (by omega) (by decide)
    refine Both.get h (v := nI (B.rr b)) ?_ ?_
    · unfold fL_why fX7_why
      rw [x_Recall' N h.rx.R (by omega) hb, q_zb, if_pos z, nI_clamp (by omega), h.rx.rr b hb, q_zbx, if_pos z1, cl0]
      rfl
    · unfold fX8_why
      rw [m_Recall' N (M := zsL M 87 0 _) h.rm.2.R (by omega) hb, q_zb, if_neg (by decide), if_pos z2, nI_clamp (by omega), zsI_n (show 86 ≠ 62 by decide), zsL_1, h.rm.2.rr b hb]
