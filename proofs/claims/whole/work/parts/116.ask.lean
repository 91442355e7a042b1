/-! pure: the calls without a word, and reach, versionAt -/
def Both0 (n : Nat) (f g : zMem → zRES) (M : zMem) : Prop := ∃ A B M1 M2 v, f M = some (.inl v, M1) ∧ g M1 = some (.inl v, M2) ∧ JJ (n + 1) A B M2
theorem b_versions (N n : Nat) {A : VA} {B : VB} {M : zMem} (h : JJ n A B M) : Both0 n (fX7_versions N) (fX8_versions N) M :=
  ⟨A, B, M, _, nI A.V, by unfold fX7_versions; rw [h.ra.1.ver], by unfold fX8_versions; rw [q_zl, zsI_s, pk_un (by decide), h.rm.1.ver], h.note⟩
theorem b_time (N n : Nat) {A : VA} {B : VB} {M : zMem} (h : JJ n A B M) : Both0 n (fX7_time N) (fX8_time N) M :=
  ⟨A, B, M, _, nI B.T, by unfold fX7_time; rw [h.rx.T], by unfold fX8_time; rw [q_zl, zsI_s, pk_un (by decide), h.rm.2.T], h.note⟩
theorem b_batches (N n : Nat) {A : VA} {B : VB} {M : zMem} (h : JJ n A B M) : Both0 n (fX7_batches N) (fX8_batches N) M :=
  ⟨A, B, M, _, nI B.Bc, by unfold fX7_batches; rw [h.rx.Bc], by unfold fX8_batches; rw [q_zl, zsI_s, pk_un (by decide), h.rm.2.Bc], h.note⟩
theorem b_recalls (N n : Nat) {A : VA} {B : VB} {M : zMem} (h : JJ n A B M) : Both0 n (fX7_recalls N) (fX8_recalls N) M :=
  ⟨A, B, M, _, nI B.R, by unfold fX7_recalls; rw [h.rx.R], by unfold fX8_recalls; rw [q_zl, zsI_s, pk_un (by decide), h.rm.2.R], h.note⟩
theorem x_tog (o N : Nat) {A : VA} {M : zMem} (hA : QA o A M) (hk : AOK A) {a b : Nat} (ha : a < 5) (hb : b < 5) : fX0_areTogether o N (nI a) (nI b) M = some (.inl (nI (decide (A.grp.testBit a = A.grp.testBit b)).toNat), M) := by
  have hg := hk.grp
  unfold fX0_areTogether
  rw [hA.1.grp, q_has N _ (by omega), q_zb, hA.1.grp, q_has N _ (by omega), q_zb, q_lofI (by omega) (by omega), q_lofI (by omega) (by omega)]
  cases A.grp.testBit a <;> cases A.grp.testBit b <;> rfl
theorem m_tog (N : Nat) {A : VA} {M : zMem} (hA : QR A M) (hk : AOK A) {a b : Nat} (ha : a < 5) (hb : b < 5) : fX8_areTogether N (nI a) (nI b) M = some (.inl (nI (decide (A.grp.testBit a = A.grp.testBit b)).toNat), M) := by
  have hg := hk.grp
  unfold fX8_areTogether
  rw [hA.grp, q_bit (by omega) (by omega), q_bit (by omega) (by omega)]
  cases A.grp.testBit a <;> cases A.grp.testBit b <;> rfl
theorem b_reach (N n : Nat) {A : VA} {B : VB} {M : zMem} (h : JJ n A B M) (x y : Int32) : Both n (fL_reach N x y) (fX8_reach N x y) M := by
  have no1 : x < 0 ∨ nI 5 ≤ x → Both n (fL_reach N x y) (fX8_reach N x y) M := fun c => by
    refine Both.no h (r := 1) ?_ ?_ (by decide)
    · unfold fL_reach fX7_reach
      rw [x_bakn N c, q_zbr, q_zbxr, if_pos (by decide)]
    · unfold fX8_reach fX8_reach_B19 fX8_reach_B20
      rw [m_bakn N c, q_zb, if_pos rfl, q_zl, zsI_s, pk_us, if_neg (by decide)]
  rcases pk_ix x (n := 5) (by decide) with c | c | ⟨a, ha, rfl⟩
  · exact no1 (Or.inl c)
  · exact no1 (Or.inr c)
  have no2 : y < 0 ∨ nI 5 ≤ y → Both n (fL_reach N (nI a) y) (fX8_reach N (nI a) y) M := fun c => by
    refine Both.no h (r := 1) ?_ ?_ (by decide)
    · unfold fL_reach fX7_reach
      rw [x_bak N ha, q_zb, x_bakn N c, q_zbr, q_zbxr, if_pos (by decide)]
    · unfold fX8_reach fX8_reach_B19 fX8_reach_B20
      rw [m_bak N ha, q_zb, if_neg (by decide), m_bakn N c, q_zb, if_pos rfl, q_zl, zsI_s, pk_us, if_neg (by decide)]
  rcases pk_ix y (n := 5) (by decide) with c | c | ⟨b, hb, rfl⟩
  · exact no2 (Or.inl c)
  · exact no2 (Or.inr c)
  · refine Both.get h (v := nI (decide (A.grp.testBit a = A.grp.testBit b)).toNat) ?_ ?_
    · unfold fL_reach fX7_reach
      rw [x_bak N ha, q_zb, x_bak N hb, q_zb, x_tog 1 N h.ra h.aok ha hb, q_zb, if_pos (bool_nI _), q_zbx]
      cases decide (A.grp.testBit a = A.grp.testBit b)
      · rw [if_pos (by decide)]; rfl
      · rw [if_neg (by decide)]; rfl
    · unfold fX8_reach fX8_reach_B20
      rw [m_bak N ha, q_zb, if_neg (by decide), m_bak N hb, q_zb, if_neg (by decide), q_zl, zsI_s, pk_us, if_pos rfl, m_tog N h.rm.out.note.1 h.aok ha hb, q_zb]
      cases decide (A.grp.testBit a = A.grp.testBit b)
      · rw [if_pos (by decide)]; rfl
      · rw [if_neg (by decide)]; rfl
