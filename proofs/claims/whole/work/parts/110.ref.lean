/-! pure: the reference's agreement -/
theorem QR.to {A : VA} {M M' : zMem} (r : QR A M) (e0 : M'.1 62 0 = M.1 62 0) (e7 : M'.1 62 7 = M.1 62 7) (e : ∀ a, 63 ≤ a → a < 74 → M'.1 a = M.1 a) : QR A M' :=
  QR.mk (e0.trans r.grp) (e7.trans r.ver) (by rw [e 63 (by decide) (by decide)]; exact r.trm) (by rw [e 64 (by decide) (by decide)]; exact r.rol) (by rw [e 65 (by decide) (by decide)]; exact r.vot) (by rw [e 66 (by decide) (by decide)]; exact r.sup) (by rw [e 67 (by decide) (by decide)]; exact r.log) (by rw [e 68 (by decide) (by decide)]; exact r.len) (by rw [e 69 (by decide) (by decide)]; exact r.vtm) (by rw [e 73 (by decide) (by decide)]; exact r.ev)
theorem QF.to {V : Nat} {B : VB} {M M' : zMem} (r : QF V B M) (e14 : M'.1 62 14 = M.1 62 14) (e16 : M'.1 62 16 = M.1 62 16) (e21 : M'.1 62 21 = M.1 62 21) (e26 : M'.1 62 26 = M.1 62 26) (e : ∀ a, 70 ≤ a → a < 87 → a ≠ 73 → a ≠ 74 → M'.1 a = M.1 a) : QF V B M' :=
  QF.mk (e14.trans r.T) (e16.trans r.L) (e21.trans r.Bc) (e26.trans r.R) (by rw [e 70 (by decide) (by decide) (by decide) (by decide)]; exact r.rcp) (by rw [e 71 (by decide) (by decide) (by decide) (by decide)]; exact r.bag) (by rw [e 72 (by decide) (by decide) (by decide) (by decide)]; exact r.loa) (by rw [e 75 (by decide) (by decide) (by decide) (by decide)]; exact r.sl) (by rw [e 76 (by decide) (by decide) (by decide) (by decide)]; exact r.cond) (by rw [e 77 (by decide) (by decide) (by decide) (by decide)]; exact r.st) (by rw [e 78 (by decide) (by decide) (by decide) (by decide)]; exact r.cnt) (by rw [e 79 (by decide) (by decide) (by decide) (by decide)]; exact r.mis) (by rw [e 80 (by decide) (by decide) (by decide) (by decide)]; exact r.bver) (by rw [e 81 (by decide) (by decide) (by decide) (by decide)]; exact r.blot) (by rw [e 82 (by decide) (by decide) (by decide) (by decide)]; exact r.left) (by rw [e 83 (by decide) (by decide) (by decide) (by decide)]; exact r.out) (by rw [e 84 (by decide) (by decide) (by decide) (by decide)]; exact r.rb) (by rw [e 85 (by decide) (by decide) (by decide) (by decide)]; exact r.rl) (by rw [e 86 (by decide) (by decide) (by decide) (by decide)]; exact r.rr)
theorem r_take (N : Nat) {A : VA} {M : zMem} (hA : QR A M) {b t : Nat} (hb : b < 5) : ∃ M', fX8_takes N (nI b) (nI t) M = some (.inl 0, M') ∧ QR (aTake b t A) M' ∧ (∀ a, (a < 63 ∨ 67 ≤ a) → M'.1 a = M.1 a) ∧ M'.2 = M.2 ∧ M'.1 66 b = 0 ∧ ∀ c, c ≠ b → M'.1 66 c = M.1 66 c := by
  unfold fX8_takes
  simp only [z5 hb, if_true, q_zl]
  rw [nI_clamp (by omega)]
  refine ⟨_, rfl, QR.mk ?_ ?_ ?_ ?_ ?_ ?_ ?_ ?_ ?_ ?_, fun a ha => by simp (disch := omega) only [zsI_n], rfl, by rw [zsI_s, pk_us], fun c hc => by rw [zsI_s, pk_un hc]; simp (disch := omega) only [zsI_n]⟩
  · simp (disch := omega) only [zsI_n]; exact hA.grp
  · simp (disch := omega) only [zsI_n]; exact hA.ver
  · intro c hc
    by_cases e : c = b
    · subst e; simp (disch := omega) only [zsI_n, zsI_s, pk_us, aTake, VA.mk_term, fu_s]
    · simp (disch := omega) only [zsI_n, zsI_s, pk_un, aTake, VA.mk_term, fu_n]; exact hA.trm c hc
  · intro c hc
    by_cases e : c = b
    · subst e; simp (disch := omega) only [zsI_n, zsI_s, pk_us, aTake, VA.mk_role, fu_s, nI_0]
    · simp (disch := omega) only [zsI_n, zsI_s, pk_un, aTake, VA.mk_role, fu_n]; exact hA.rol c hc
  · intro c hc
    by_cases e : c = b
    · subst e; simp (disch := omega) only [zsI_n, zsI_s, pk_us, aTake, VA.mk_vote, fu_s, nI_0]
    · simp (disch := omega) only [zsI_n, zsI_s, pk_un, aTake, VA.mk_vote, fu_n]; exact hA.vot c hc
  · intro c hc h1
    by_cases e : c = b
    · subst e; simp only [aTake, VA.mk_role, fu_s] at h1; omega
    · simp only [aTake, VA.mk_role, fu_n e] at h1
      simp (disch := omega) only [zsI_n, zsI_s, pk_un]; exact hA.sup c hc h1
  · simp (disch := omega) only [zsI_n]; exact hA.log
  · simp (disch := omega) only [zsI_n]; exact hA.len
  · simp (disch := omega) only [zsI_n]; exact hA.vtm
  · simp (disch := omega) only [zsI_n]; exact hA.ev
