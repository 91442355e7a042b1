/-! pure: the calls without a word, and reach, versionAt -/
def Both0 (n : Nat) (f g : zMem → zRES) (M : zMem) : Prop := ∃ A B M1 M2 v, f M = some (.inl v, M1) ∧ g M1 = some (.inl v, M2) ∧ JJ (n + 1) A B M2
theorem b_versions (N n : Nat) {A : VA} {B : VB} {M : zMem} (h : JJ n A B M) : Both0 n (fX7_versions N) (fX8_versions N) M :=
  ⟨A, B, M, _, nI A.V, by unfold fX7_versions; rw [h.ra.1.ver], by unfold fX8_versions; rw [q_zl, zsI_s, pk_un (by decide), h.rm.1.ver], h.note⟩
theorem b_time (N n : Nat) {A : VA} {B : VB} {M : zMem} (h : JJ n A B M) : Both0 n (fX7_time N) (fX8_time N) M :=
  ⟨A, B, M, _, nI B.T, by unfold fX7_time; rw [h.rx.T], by unfold fX8_time; rw [q_zl, zsI_s, pk_un (by decide), h.rm.2.T], h.note⟩
theorem b_batches (N n : Nat) {A : VA} {B : VB} {M : zMem} (h : JJ n A B M) : Both0 n (fX7_batches N) (fX8_batches N) M :=
  ⟨A, B, M, _, nI B.Bc, by unfold fX7_batches; rw [h.rx.Bc], by unfold fX8_batches; rw [q_zl, zsI_s, pk_un (by decide), h.rm.2.Bc], h.note⟩
theorem b_recalls (N n : Nat) {A : VA} {B : VB} {M : zMem} (h : JJ n A B M) : Both0 n (fX7_recalls N) (fX8_recalls N) M :=
  ⟨A, B, M, _, nI B.R, by unfold fX7_recalls; rw [h.rx.R], by unfold fX8_recalls; rw [q_zl, zsI_s, pk_un (by decide), h.rm.2.R], h.note⟩
theorem x_tog (o N : Nat) {A : VA} {M : zMem} (hA : QA o A M) (hk : AOK A) {a b : Nat} (ha : a < 5) (hb : b < 5) : fX0_areTogether o N (nI a) (nI b) M = some (.inl (nI (decide (A.grp.testBit a = A.grp.testBit b)).toNat), M) := by
  have hg := hk.grp
  unfold fX0_areTogether
  rw [hA.1.grp, q_has N _ (by omega), q_zb, hA.1.grp, q_has N _ (by omega), q_zb, q_lofI (by omega) (by omega), q_lofI (by omega) (by omega)]
  cases A.grp.testBit a <;> cases A.grp.testBit b <;> rfl
theorem m_tog (N : Nat) {A : VA} {M : zMem} (hA : QR A M) (hk : AOK A) {a b : Nat} (ha : a < 5) (hb : b < 5) : fX8_areTogether N (nI a) (nI b) M = some (.inl (nI (decide (A.grp.testBit a = A.grp.testBit b)).toNat), M) := by
  have hg := hk.grp
  unfold fX8_areTogether
  rw [hA.grp, q_bit (by omega) (by omega), q_bit (by omega) (by omega)]
  cases A.grp.testBit a <;> cases A.grp.testBit b <;> rfl
