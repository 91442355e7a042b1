/-! pure: pass, both -/
theorem m_bakes (N : Nat) (hN : 300 ≤ N) {A : VA} {B : VB} {M : zMem} (hm : QM A B M) (hk : AOK A) {n0 : Nat} (hb : BOK A.V n0 B) {b v : Nat} (h5 : b < 5) (hv : v < A.V) : ∃ M', fX8_bakes N (nI b) (nI v) M = some (.inl (nI (pm A b (v + 1) B)), M') ∧ QM A (ph A b (v + 1) B) M' ∧ (∀ a, a < 62 → M'.1 a = M.1 a) ∧ M'.1 62 30 = M.1 62 30 ∧ M'.2 = M.2 := by
  have hV := hk.ver
  have hc := hb.cnt b h5
  have hBc := hb.Bc
  have hg := (hb.rcp v hv).2.2.1
  unfold fX8_bakes
  rw [m_held N (by omega) hm.1 hk (by omega), q_zb]
  have mis : ph A b (v + 1) B = uMis b B → pm A b (v + 1) B = 0 → ∃ M', fX8_bakes_B32 N (nI b) M = some (.inl (nI (pm A b (v + 1) B)), M') ∧ QM A (ph A b (v + 1) B) M' ∧ (∀ a, a < 62 → M'.1 a = M.1 a) ∧ M'.1 62 30 = M.1 62 30 ∧ M'.2 = M.2 := fun q1 q2 => by
    unfold fX8_bakes_B32
    simp only [z5 h5, if_true, q_zl]
    rw [nI_clamp (by omega), hm.2.mis b h5, nI_1, q1, q2]
    exact ⟨_, rfl, ⟨hm.1.w (by decide), hm.2.kMis⟩, fun a ha => zsI_n (by omega), by rw [zsI_n (by decide)], rfl⟩
  by_cases g1 : held A v = true
  · rw [g1, if_neg (by decide), if_pos (z5 h5), if_pos (z60 (by omega)), nI_clamp (by omega), nI_clamp (by omega), hm.2.cnt b h5, hm.2.bag v hv]
    by_cases g2 : B.bag v ≤ B.cnt b
    · rw [if_neg (nI_nlt (by omega) (by omega)), hm.2.Bc]
      by_cases g3 : B.Bc < 60
      · rw [if_neg (q_ne (y := 60) (b := 60) rfl (by omega) (by decide) (by omega))]
        obtain ⟨M1, e1, e2, e3, e4, e5⟩ := m_bake N hN hm.2 hb h5 hv hV g2 g3
        have q1 : ph A b (v + 1) B = bake b v B := by unfold ph; rw [if_neg (by omega), Nat.add_sub_cancel, if_pos g1, if_pos g2, if_pos g3]
        have q2 : pm A b (v + 1) B = 1 := by unfold pm; rw [if_neg (by omega), Nat.add_sub_cancel, if_pos g1, if_pos g2, if_pos g3]
        rw [e1, q1, q2]
        exact ⟨M1, rfl, ⟨hm.1.to (e4 0 (by decide)) (e4 7 (by decide)) (fun a h1 h2 => e3 a (by omega) (by omega)), e2⟩, fun a ha => e3 a (by omega) (by omega), e4 30 (by decide), e5⟩
      · rw [if_pos (by rw [show B.Bc = 60 by omega]; rfl)]
        exact mis (by unfold ph; rw [if_neg (by omega), Nat.add_sub_cancel, if_pos g1, if_pos g2, if_neg g3]) (by unfold pm; rw [if_neg (by omega), Nat.add_sub_cancel, if_pos g1, if_pos g2, if_neg g3])
    · rw [if_pos (nI_lt (by omega) (by omega))]
      exact mis (by unfold ph; rw [if_neg (by omega), Nat.add_sub_cancel, if_pos g1, if_neg g2]) (by unfold pm; rw [if_neg (by omega), Nat.add_sub_cancel, if_pos g1, if_neg g2])
  · rw [show held A v = false by rw [Bool.not_eq_true] at g1; exact g1, if_pos (by rfl)]
    exact mis (by unfold ph; rw [if_neg (by omega), Nat.add_sub_cancel, if_neg g1]) (by unfold pm; rw [if_neg (by omega), Nat.add_sub_cancel, if_neg g1])
def zpf (M M' : zMem) : Prop := (∀ a, a < 62 → M'.1 a = M.1 a) ∧ M'.1 62 30 = M.1 62 30 ∧ M'.2 = M.2
theorem m_hour (N : Nat) (hN : 300 ≤ N) {A : VA} (hk : AOK A) {n0 : Nat} {again : Int32 → Int32 → Int32 → zMem → zRES} {x z : Int32} : ∀ k n b t {B : VB} {M : zMem}, QM A B M → BOK A.V n0 B → b + k = 5 → k < n → ∃ M', fX8_pass_B54 N again n x (nI t) z (nI b) M = again x (nI (t + hCt A k b B)) (z + 1) (zsI M' 62 14 (nI (B.T + 1))) ∧ QM A (hDo A k b B) M' ∧ zpf M M' := by
  have hV := hk.ver
  intro k
  induction k with
  | zero =>
    intro n b t B M hm hb h1 h2
    obtain ⟨n, rfl⟩ : ∃ q, n = q + 1 := ⟨n - 1, by omega⟩
    rw [fX8_pass_B54, if_pos (show (5 : Int32) ≤ nI b from nI_le (a := 5) (by omega) (by omega)), q_zl, hm.2.T, nI_1]
    exact ⟨M, rfl, hm, ⟨fun _ _ => rfl, rfl, rfl⟩⟩
  | succ k ih =>
    intro n b t B M hm hb h1 h2
    obtain ⟨n, rfl⟩ : ∃ q, n = q + 1 := ⟨n - 1, by omega⟩
    have h5 : b < 5 := by omega
    have hT := hb.T
    have hs := hb.sl b h5 B.T (by omega)
    have hb1 : BOK A.V n0 (ph A b (B.sl b B.T) B) := hb.kPh h5 hs
    rw [fX8_pass_B54, if_neg (show ¬ (5 : Int32) ≤ nI b from nI_ge (b := 5) h5 (by decide)), hm.2.T, q_1051, if_pos (zin_nI (by omega) (by decide)), nI_clamp (by omega), hm.2.sl b h5 B.T (by omega), q_zv, hDo, hCt]
    by_cases g : B.sl b B.T = 0
    · have q1 : ph A b (B.sl b B.T) B = B := if_pos g
      have q2 : pm A b (B.sl b B.T) B = 0 := if_pos g
      rw [q1, q2, g, if_pos (by decide), Nat.zero_add]
      unfold fX8_pass_B101 fX8_pass_B102
      rw [← nI_0, nI_add, Nat.add_zero, q_zv, nI_1]
      exact ih n (b + 1) t hm hb (by omega) (by omega)
    · rw [if_neg (nI_nle (by omega) (by omega)), q_pred (by omega)]
      obtain ⟨M1, e1, e2, e3, e4, e5⟩ := m_bakes N hN hm hk hb h5 (v := B.sl b B.T - 1) (by omega)
      rw [Nat.sub_add_cancel (by omega)] at e1 e2
      obtain ⟨M2, f1, f2, f3⟩ := ih n (b + 1) (t + pm A b (B.sl b B.T) B) e2 hb1 (by omega) (by omega)
      rw [ph_T] at f1
      rw [Nat.add_assoc] at f1
      rw [e1, q_zb]
      refine ⟨M2, ?_, f2, ⟨fun a ha => (f3.1 a ha).trans (e3 a ha), f3.2.1.trans e4, f3.2.2.trans e5⟩⟩
      rw [← f1]
      unfold fX8_pass_B101 fX8_pass_B102
      have p01 : pm A b (B.sl b B.T) B = 0 ∨ pm A b (B.sl b B.T) B = 1 := by
        unfold pm
        split
        · exact Or.inl rfl
        · split
          · split
            · split
              · exact Or.inr rfl
              · exact Or.inl rfl
            · exact Or.inl rfl
          · exact Or.inl rfl
      rcases p01 with p | p
      · rw [p, if_pos (by rfl), ← nI_0, nI_add, q_zv, nI_1]
      · rw [p, if_neg (by decide), nI_1, q_zv, nI_1]
theorem QF.kT {V : Nat} {B : VB} {M : zMem} (hx : QF V B M) : QF V (uT B) (zsI M 62 14 (nI (B.T + 1))) :=
  (QF.mk ( by rw [zsI_s, pk_us]; rfl) (by simp (disch := omega) only [zsI_n, zsI_s, pk_un, zsL_1, zsI_2]; exact hx.L) (by simp (disch := omega) only [zsI_n, zsI_s, pk_un, zsL_1, zsI_2]; exact hx.Bc) (by simp (disch := omega) only [zsI_n, zsI_s, pk_un, zsL_1, zsI_2]; exact hx.R) (by simp (disch := omega) only [zsI_n, zsI_s, pk_un, zsL_1, zsI_2]; exact hx.rcp) (by simp (disch := omega) only [zsI_n, zsI_s, pk_un, zsL_1, zsI_2]; exact hx.bag) (by simp (disch := omega) only [zsI_n, zsI_s, pk_un, zsL_1, zsI_2]; exact hx.loa) (by simp (disch := omega) only [zsI_n, zsI_s, pk_un, zsL_1, zsI_2]; exact hx.sl) (by simp (disch := omega) only [zsI_n, zsI_s, pk_un, zsL_1, zsI_2]; exact hx.cond) (by simp (disch := omega) only [zsI_n, zsI_s, pk_un, zsL_1, zsI_2]; exact hx.st) (by simp (disch := omega) only [zsI_n, zsI_s, pk_un, zsL_1, zsI_2]; exact hx.cnt) (by simp (disch := omega) only [zsI_n, zsI_s, pk_un, zsL_1, zsI_2]; exact hx.mis) (by simp (disch := omega) only [zsI_n, zsI_s, pk_un, zsL_1, zsI_2]; exact hx.bver) (by simp (disch := omega) only [zsI_n, zsI_s, pk_un, zsL_1, zsI_2]; exact hx.blot) (by simp (disch := omega) only [zsI_n, zsI_s, pk_un, zsL_1, zsI_2]; exact hx.left) (by simp (disch := omega) only [zsI_n, zsI_s, pk_un, zsL_1, zsI_2]; exact hx.out) (by simp (disch := omega) only [zsI_n, zsI_s, pk_un, zsL_1, zsI_2]; exact hx.rb) (by simp (disch := omega) only [zsI_n, zsI_s, pk_un, zsL_1, zsI_2]; exact hx.rl) (by simp (disch := omega) only [zsI_n, zsI_s, pk_un, zsL_1, zsI_2]; exact hx.rr))
theorem m_pass (N : Nat) (hN : 300 ≤ N) {A : VA} (hk : AOK A) {n0 h : Nat} (hh : h ≤ 50) : ∀ k n i t {B : VB} {M : zMem}, QM A B M → BOK A.V n0 B → M.1 62 30 = 0 → i + k = h → B.T + k ≤ 1000 → k < n → ∃ M', fX8_pass_B39 N n (nI h) (nI t) (nI i) M = some (.inl (nI (t + pCt A k B)), M') ∧ QM A (pDo A k B) M' ∧ zpf M M' := by
  intro k
  induction k with
  | zero =>
    intro n i t B M hm hb h0 h1 h3 h2
    obtain ⟨n, rfl⟩ : ∃ q, n = q + 1 := ⟨n - 1, by omega⟩
    rw [fX8_pass_B39, if_pos (nI_le (by omega) (by omega))]
    exact ⟨M, rfl, hm, ⟨fun _ _ => rfl, rfl, rfl⟩⟩
  | succ k ih =>
    intro n i t B M hm hb h0 h1 h3 h2
    obtain ⟨n, rfl⟩ : ∃ q, n = q + 1 := ⟨n - 1, by omega⟩
    have e := hDo_T (A := A) 5 0 B
    have hb5 : BOK A.V n0 (hDo A 5 0 B) := hb.kHDo 5 0 (by omega)
    obtain ⟨M1, e1, e2, e3⟩ := m_hour N hN hk (n0 := n0) (again := fX8_pass_B39 N n) (x := nI h) (z := nI i) 5 N 0 t (B := B) (M := M) hm hb (by omega) (by omega)
    rw [nI_0] at e1
    rw [fX8_pass_B39, if_neg (nI_ge (by omega) (by omega)), h0, if_pos rfl, e1, nI_1]
    have hm2 : QM A (uT (hDo A 5 0 B)) (zsI M1 62 14 (nI (B.T + 1))) := by
      have q := QF.kT e2.2
      rw [e.1] at q
      exact ⟨e2.1.w62 (by decide), q⟩
    have fr : zpf M (zsI M1 62 14 (nI (B.T + 1))) := ⟨fun a ha => by rw [zsI_n (by omega), e3.1 a ha], by rw [zsI_s, pk_un (by decide), e3.2.1], by rw [zsI_2, e3.2.2]⟩
    obtain ⟨M2, f1, f2, f3⟩ := ih n (i + 1) (t + hCt A 5 0 B) hm2 (hb5.kT (by rw [e.1]; omega)) (by rw [fr.2.1]; exact h0) (by omega) (show (hDo A 5 0 B).T + 1 + k ≤ 1000 by rw [e.1]; omega) (by omega)
    exact ⟨M2, by rw [f1, pCt, Nat.add_assoc], f2, ⟨fun a ha => (f3.1 a ha).trans (fr.1 a ha), f3.2.1.trans fr.2.1, f3.2.2.trans fr.2.2⟩⟩
theorem b_pass (N n : Nat) (hN : 300 ≤ N) {A : VA} {B : VB} {M : zMem} (h : JJ n A B M) (x : Int32) : Both n (fL_pass N x) (fX8_pass N x) M := by
  have hT := h.bok.T
  have ref : ∀ {x r : Int32}, ¬ r = 0 → fX8_pass_B32 N x r M = some (.inl 0, zsI M 62 30 r) := fun {x r} q => by
    obtain ⟨N', e⟩ : ∃ q, N = q + 1 := ⟨N - 1, by omega⟩
    unfold fX8_pass_B32
    rw [q_zl]
    have : ∀ n0, n0 = N' + 1 → fX8_pass_B39 N n0 x 0 0 (zsI M 62 30 r) = some (.inl 0, zsI M 62 30 r) := fun n0 e0 => by
      subst e0
      rw [fX8_pass_B39, zsI_s, pk_us]
      by_cases g : x ≤ 0
      · rw [if_pos g]
      · rw [if_neg g, if_neg q]
    exact this N e
  have no1 : fX8_in N x 1 50 M = some (.inl 0, M) → (x < 1 ∨ ¬ x < 1 ∧ ¬ x ≤ 50) → Both n (fL_pass N x) (fX8_pass N x) M := fun e c => by
    refine Both.no h (r := 1) ?_ ?_ (by decide)
    · unfold fL_pass fX7_pass
      rcases c with c | ⟨c1, c2⟩
      · rw [if_pos c, q_zbxr, if_pos (by decide)]
      · rw [if_neg c1, if_neg c2, q_zbxr, if_pos (by decide)]
    · unfold fX8_pass
      rw [e, q_zb, if_pos rfl, ref (by decide)]
  rcases q_rng x 1 50 (by decide) (by decide) with c | c | ⟨t, t1, t2, rfl⟩
  · exact no1 (m_lo N c M) (Or.inl c)
  · refine no1 (m_hi N c M) (Or.inr ⟨fun q => ?_, q_gt c⟩)
    have e1 := Int32.lt_iff_toInt_lt.mp c
    have e2 := Int32.lt_iff_toInt_lt.mp q
    have e3 : (nI 50).toInt = 50 := rfl
    have e4 : (1 : Int32).toInt = 1 := rfl
    omega
  have u1 : ¬ nI t < 1 := nI_nlt (b := 1) t1 (by omega)
  have u2 : nI t ≤ 50 := nI_le (b := 50) t2 (by decide)
  have u3 : ¬ (50 : Int32) < nI t := nI_nlt (a := 50) t2 (by decide)
  by_cases g : B.T + t ≤ 1000
  · obtain ⟨M1, e1, e2, e3⟩ := x_pass N hN h.aok t2 (n0 := n) t N 0 0 h.ra h.rx h.bok (by omega) g (by omega)
    rw [nI_0, Nat.zero_add] at e1
    have hm0 : QM A B (zsL M1 87 0 (nI (pCt A t B)).toInt64) := h.rm.cong (fun a h1 h2 => by rw [zsL_1, e3.1 a (by omega)])
    obtain ⟨M2, f1, f2, f3⟩ := m_pass N hN h.aok t2 (n0 := n) t N 0 0 (M := zsI (zsL M1 87 0 (nI (pCt A t B)).toInt64) 62 30 0) hm0.note h.bok (by rw [zsI_s, pk_us]) (by omega) g (by omega)
    rw [nI_0, Nat.zero_add] at f1
    refine Both.go (A' := A) (B' := pDo A t B) (M1 := M1) (v := nI (pCt A t B)) h.aok ((h.bok.kPDo t g).up (Nat.le_succ n)) ?_ (h.ra.to (e3.to (by omega))) e2 ((h.rt.to (e3.to (by omega))).up (Nat.le_succ n)) ⟨M2, ?_, by rw [f3.2.1, zsI_s, pk_us], ⟨fun a ha => by rw [f3.1 a ha, zsI_n (by omega)], f3.2.2⟩, f2⟩
    · unfold fL_pass fX7_pass
      rw [if_neg u1, if_pos u2, h.rx.T, nI_add, if_pos (show nI (B.T + t) ≤ 1000 from nI_le (b := 1000) g (by decide)), e1, q_zbx, if_pos z1, cl0]
      rfl
    · unfold fX8_pass fX8_pass_B32
      rw [m_rin N u1 u3, q_zb, if_neg (by decide), hm0.2.T, nI_add, if_pos (show nI (B.T + t) ≤ 1000 from nI_le (b := 1000) g (by decide)), q_zl, f1]
  · refine Both.no h (r := 2) ?_ ?_ (by decide)
    · unfold fL_pass fX7_pass
      rw [if_neg u1, if_pos u2, h.rx.T, nI_add, if_neg (show ¬ nI (B.T + t) ≤ 1000 from nI_ge (a := 1000) (by omega) (by omega)), q_zbxr, if_neg (by decide), if_pos (by decide)]
    · unfold fX8_pass
      rw [m_rin N u1 u3, q_zb, if_neg (by decide), h.rm.2.T, nI_add, if_neg (show ¬ nI (B.T + t) ≤ 1000 from nI_ge (a := 1000) (by omega) (by omega)), ref (by decide)]
