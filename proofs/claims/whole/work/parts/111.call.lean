/-! pure: a call of both, and what is left behind -/
def Both (n : Nat) (f g : zMem → zRES) (M : zMem) : Prop := ∃ A B M1 M2 r v, f M = some (.inl r, M1) ∧ g M1 = some (.inl v, M2) ∧ M2.1 62 30 = r ∧ (r = 0 → M2.2 87 0 = v.toInt64) ∧ JJ (n + 1) A B M2
theorem BOK.up {V n n' : Nat} {B : VB} (h : BOK V n B) (hn : n ≤ n') : BOK V n' B :=
  BOK.mk h.L h.T h.Bc (Nat.le_trans h.R hn) h.rcp h.cond h.cnt h.st h.sl h.sl0 h.bver h.blot h.left h.out0
theorem JJ.join {n : Nat} {A : VA} {B : VB} {M1 M2 : zMem} (ha : AOK A) (hb : BOK A.V n B) (ra : QA 1 A M1) (rx : QX A.V B M1) (rt : QT n A M1) (e : zeq 0 62 M1 M2) (rm : QM A B M2) : JJ n A B M2 :=
  JJ.mk ha hb (ra.to (e.sub (by omega) (by omega))) (rx.to (e.sub (by omega) (by omega))) rm (rt.to (e.sub (by omega) (by omega)))
/-- the reference notes what is thrown, and nothing else -/
theorem QM.note {A : VA} {B : VB} {M : zMem} (h : QM A B M) {x : Int32} : QM A B (zsI M 62 30 x) :=
  ⟨h.1.to (by rw [zsI_s, pk_un (by decide)]) (by rw [zsI_s, pk_un (by decide)]) (fun a h1 _ => zsI_n (by omega)), h.2.to (by rw [zsI_s, pk_un (by decide)]) (by rw [zsI_s, pk_un (by decide)]) (by rw [zsI_s, pk_un (by decide)]) (by rw [zsI_s, pk_un (by decide)]) (fun a h1 _ _ _ => zsI_n (by omega))⟩
theorem QM.out {A : VA} {B : VB} {M : zMem} (h : QM A B M) {x : Int64} : QM A B (zsL M 87 0 x) :=
  ⟨h.1.to rfl rfl (fun _ _ _ => rfl), h.2.to rfl rfl rfl rfl (fun _ _ _ _ _ => rfl)⟩
theorem JJ.note {n : Nat} {A : VA} {B : VB} {M : zMem} (h : JJ n A B M) {x : Int32} : JJ (n + 1) A B (zsI M 62 30 x) :=
  JJ.join h.aok (h.bok.up (Nat.le_succ n)) h.ra h.rx (h.rt.up (Nat.le_succ n)) (zeq_sI (by omega)) h.rm.note
theorem JJ.out {n : Nat} {A : VA} {B : VB} {M : zMem} (h : JJ n A B M) {x : Int64} : JJ n A B (zsL M 87 0 x) :=
  JJ.join h.aok h.bok h.ra h.rx h.rt (zeq_sL (by omega)) h.rm.out
theorem z1 : zin (0 : Int32) 1 = true := by decide
theorem cl0 : (0 : Int32).toNatClampNeg = 0 := by decide
/-- both refuse alike -/
theorem Both.no {n : Nat} {A : VA} {B : VB} {M : zMem} {f g : zMem → zRES} {r : Int32} (h : JJ n A B M) (hf : f M = some (.inl r, M)) (hg : g M = some (.inl 0, zsI M 62 30 r)) (hr : r ≠ 0) : Both n f g M :=
  ⟨A, B, M, _, r, 0, hf, hg, by rw [zsI_s, pk_us], fun q => absurd q hr, h.note⟩
/-- both only tell the same -/
theorem Both.get {n : Nat} {A : VA} {B : VB} {M : zMem} {f g : zMem → zRES} {v : Int32} (h : JJ n A B M) (hf : f M = some (.inl 0, zsL M 87 0 v.toInt64)) (hg : g (zsL M 87 0 v.toInt64) = some (.inl v, zsI (zsL M 87 0 v.toInt64) 62 30 0)) : Both n f g M :=
  ⟨A, B, _, _, 0, v, hf, hg, by rw [zsI_s, pk_us], fun _ => by rw [zsI_2, zsL_s, pk_uLs], h.out.note⟩
theorem x_bak (N : Nat) {b : Nat} (hb : b < 5) (M : zMem) : fX7_checkBakery N (nI b) M = some (.inl 0, M) := by
  unfold fX7_checkBakery
  rw [if_neg (nI_pos (by omega)), if_pos (show nI b < 5 from nI_lt (b := 5) hb (by decide))]
theorem x_bakn (N : Nat) {x : Int32} (h : x < 0 ∨ nI 5 ≤ x) (M : zMem) : fX7_checkBakery N x M = some (.inr 1, M) := by
  unfold fX7_checkBakery
  by_cases c : x < 0
  · rw [if_pos c]
  · rw [if_neg c, if_neg]
    intro q
    rcases h with h | h
    · exact c h
    · exact absurd (Int32.lt_iff_toInt_lt.mp q) (by have := Int32.le_iff_toInt_le.mp h; have e : (nI 5).toInt = (5 : Int32).toInt := rfl; omega)
theorem m_bak (N : Nat) {b : Nat} (hb : b < 5) (M : zMem) : fX8_isBakery N (nI b) M = some (.inl 1, M) := by
  unfold fX8_isBakery fX8_in
  rw [if_neg (nI_pos (by omega)), if_neg (show ¬ (4 : Int32) < nI b from nI_nlt (a := 4) (by omega) (by decide)), q_zb, if_pos (by decide)]
theorem m_bakn (N : Nat) {x : Int32} (h : x < 0 ∨ nI 5 ≤ x) (M : zMem) : fX8_isBakery N x M = some (.inl 0, M) := by
  unfold fX8_isBakery fX8_in
  by_cases c : x < 0
  · rw [if_pos c, q_zb, if_pos (by decide)]
  · rw [if_neg c, if_pos, q_zb, if_pos (by decide)]
    rcases h with h | h
    · exact absurd h c
    · exact Int32.lt_iff_toInt_lt.mpr (by have := Int32.le_iff_toInt_le.mp h; have e : (nI 5).toInt = 5 := rfl; have e2 : (4 : Int32).toInt = 4 := rfl; omega)
theorem b_term (N n : Nat) {A : VA} {B : VB} {M : zMem} (h : JJ n A B M) (x : Int32) : Both n (fL_term N x) (fX8_term N x) M := by
  rcases pk_ix x (n := 5) (by decide) with c | c | ⟨b, hb, rfl⟩
  · refine Both.no h (r := 1) ?_ ?_ (by decide)
    · unfold fL_term fX7_term
      rw [x_bakn N (Or.inl c), q_zbr, q_zbxr, if_pos (by decide)]
    · unfold fX8_term fX8_isTold fX8_isTold_B13
      rw [m_bakn N (Or.inl c), q_zb, if_pos rfl, q_zl, zsI_s, pk_us, if_neg (by decide), q_zb, if_pos rfl]
  · refine Both.no h (r := 1) ?_ ?_ (by decide)
    · unfold fL_term fX7_term
      rw [x_bakn N (Or.inr c), q_zbr, q_zbxr, if_pos (by decide)]
    · unfold fX8_term fX8_isTold fX8_isTold_B13
      rw [m_bakn N (Or.inr c), q_zb, if_pos rfl, q_zl, zsI_s, pk_us, if_neg (by decide), q_zb, if_pos rfl]
  · refine Both.get h (v := nI (A.term b)) ?_ ?_
    · unfold fL_term fX7_term
      rw [x_bak N hb, q_zb, if_pos (z5 hb), nI_clamp (by omega), h.ra.1.trm b hb, q_zbx, if_pos z1, cl0]
      rfl
    · unfold fX8_term fX8_isTold fX8_isTold_B13
      rw [m_bak N hb, q_zb, if_neg (by decide), q_zl, zsI_s, pk_us, if_pos (by decide), q_zb, if_neg (by decide), if_pos (z5 hb), nI_clamp (by omega), zsI_n (show 63 ≠ 62 by decide), zsL_1, h.rm.1.trm b hb]
