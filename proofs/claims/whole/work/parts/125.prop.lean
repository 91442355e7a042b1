/-! pure: propose -/
def uProp (V q bg lv : Nat) (B : VB) : VB := (VB.mk B.L B.T B.Bc B.R (fu B.rcp V q) (fu B.bag V bg) (fu B.loa V lv) B.cond B.cnt B.mis B.st B.sl B.bver B.blot B.left B.out B.rb B.rl B.rr)
theorem BOK.uProp {V n : Nat} {B : VB} (hb : BOK V n B) {q bg lv : Nat} (h1 : q < 6) (h2 : 1 ≤ bg) (h3 : bg ≤ 9) (h4 : lv ≤ 40) : BOK (V + 1) (n + 1) (uProp V q bg lv B) :=
  (BOK.mk hb.L hb.T hb.Bc ( Nat.le_trans hb.R (Nat.le_succ n)) ( fun v hv => by
    show fu B.rcp V q v < 6 ∧ 1 ≤ fu B.bag V bg v ∧ fu B.bag V bg v ≤ 9 ∧ fu B.loa V lv v ≤ 40
    by_cases e : v = V
    · subst e; rw [fu_s, fu_s, fu_s]; exact ⟨h1, h2, h3, h4⟩
    · rw [fu_n e, fu_n e, fu_n e]; exact hb.rcp v (by omega)) hb.cond hb.cnt hb.st ( fun c hc i hi => Nat.le_trans (hb.sl c hc i hi) (Nat.le_succ V)) hb.sl0 ( fun i hi => Nat.lt_of_lt_of_le (hb.bver i hi) (Nat.le_succ V)) hb.blot hb.left hb.out0)
theorem QX.uProp {V : Nat} {B : VB} {M : zMem} (hx : QX V B M) {q bg lv : Nat} : QX (V + 1) (uProp V q bg lv B) (zsI (zsI (zsI M 34 V (nI q)) 35 V (nI bg)) 36 V (nI lv)) :=
  (QX.mk ( fun v hv => by
    show _ = nI (fu B.rcp V q v)
    rw [zsI_n (by decide), zsI_n (by decide), zsI_s]
    by_cases e : v = V
    · subst e; rw [pk_us, fu_s]
    · rw [pk_un e, fu_n e]; exact hx.rcp v (by omega)) ( fun v hv => by
    show _ = nI (fu B.bag V bg v)
    rw [zsI_n (by decide), zsI_s]
    by_cases e : v = V
    · subst e; rw [pk_us, fu_s]
    · rw [pk_un e, fu_n e, zsI_n (by decide)]; exact hx.bag v (by omega)) ( fun v hv => by
    show _ = nI (fu B.loa V lv v)
    rw [zsI_s]
    by_cases e : v = V
    · subst e; rw [pk_us, fu_s]
    · rw [pk_un e, fu_n e, zsI_n (by decide), zsI_n (by decide)]; exact hx.loa v (by omega)) (by simp (disch := omega) only [zsI_n, zsI_s, pk_un, zsL_1, zsI_2]; exact hx.L) (by simp (disch := omega) only [zsI_n, zsI_s, pk_un, zsL_1, zsI_2]; exact hx.cb) (fun c hc i hi => by simp (disch := omega) only [zsI_n, zsI_s, pk_un, zsL_1, zsI_2]; exact hx.st c hc i hi) (by simp (disch := omega) only [zsI_n, zsI_s, pk_un, zsL_1, zsI_2]; exact hx.cnt) (by simp (disch := omega) only [zsI_n, zsI_s, pk_un, zsL_1, zsI_2]; exact hx.T) (fun c hc i h1 h2 => by simp (disch := omega) only [zsI_n, zsI_s, pk_un, zsL_1, zsI_2]; exact hx.sl c hc i h1 h2) (by simp (disch := omega) only [zsI_n, zsI_s, pk_un, zsL_1, zsI_2]; exact hx.mis) (by simp (disch := omega) only [zsI_n, zsI_s, pk_un, zsL_1, zsI_2]; exact hx.Bc) (by simp (disch := omega) only [zsI_n, zsI_s, pk_un, zsL_1, zsI_2]; exact hx.bver) (by simp (disch := omega) only [zsI_n, zsI_s, pk_un, zsL_1, zsI_2]; exact hx.blot) (by simp (disch := omega) only [zsI_n, zsI_s, pk_un, zsL_1, zsI_2]; exact hx.left) (by simp (disch := omega) only [zsI_n, zsI_s, pk_un, zsL_1, zsI_2]; exact hx.out) (by simp (disch := omega) only [zsI_n, zsI_s, pk_un, zsL_1, zsI_2]; exact hx.R) (by simp (disch := omega) only [zsI_n, zsI_s, pk_un, zsL_1, zsI_2]; exact hx.rb) (by simp (disch := omega) only [zsI_n, zsI_s, pk_un, zsL_1, zsI_2]; exact hx.rl) (by simp (disch := omega) only [zsI_n, zsI_s, pk_un, zsL_1, zsI_2]; exact hx.rr))
def mProp (M : zMem) (V q bg lv b t l : Nat) : zMem := zsI (zsI (zsI (zsI (zsI (zsI (zsI M 69 V (nI t)) 70 V (nI q)) 71 V (nI bg)) 72 V (nI lv)) 67 (20 * b + l) (nI V)) 68 b (nI (l + 1))) 62 7 (nI (V + 1))
theorem QR.prop {A : VA} {M : zMem} (hA : QR A M) (hk : AOK A) {b q bg lv : Nat} (hb : b < 5) (hl : A.len b < 20) : QR (aProp b A) (mProp M A.V q bg lv b (A.term b) (A.len b)) := by
  have h20 := hk.len
  unfold mProp
  exact (QR.mk (by simp (disch := omega) only [zsI_n, zsI_s, pk_un, zsL_1, zsI_2]; exact hA.grp) ( by
    rw [zsI_s, pk_us]; rfl) (by simp (disch := omega) only [zsI_n, zsI_s, pk_un, zsL_1, zsI_2]; exact hA.trm) (by simp (disch := omega) only [zsI_n, zsI_s, pk_un, zsL_1, zsI_2]; exact hA.rol) (by simp (disch := omega) only [zsI_n, zsI_s, pk_un, zsL_1, zsI_2]; exact hA.vot) (by simp (disch := omega) only [zsI_n, zsI_s, pk_un, zsL_1, zsI_2]; exact hA.sup) ( fun c hc i hi => by
    have hi' : i < fu A.len b (A.len b + 1) c := hi
    show _ = nI ((if c = b then fu (A.log b) (A.len b) A.V else A.log c) i)
    have l1 := h20 c hc
    rw [zsI_n (by decide), zsI_n (by decide), zsI_s]
    by_cases e : c = b
    · subst e
      rw [fu_s] at hi'
      rw [if_pos rfl]
      by_cases e2 : i = A.len c
      · subst e2; rw [pk_us, fu_s]
      · rw [pk_un (by omega), fu_n e2, zsI_n (by decide), zsI_n (by decide), zsI_n (by decide), zsI_n (by decide)]; exact hA.log c hc i (by omega)
    · rw [fu_n e] at hi'
      rw [if_neg e, pk_un (by omega), zsI_n (by decide), zsI_n (by decide), zsI_n (by decide), zsI_n (by decide)]; exact hA.log c hc i hi') ( fun c hc => by
    show _ = nI (fu A.len b (A.len b + 1) c)
    rw [zsI_n (by decide), zsI_s]
    by_cases e : c = b
    · subst e; rw [pk_us, fu_s]
    · rw [pk_un e, fu_n e]; simp (disch := omega) only [zsI_n]; exact hA.len c hc) ( fun v hv => by
    have hv' : v < A.V + 1 := hv
    show _ = nI (fu A.vt A.V (A.term b) v)
    simp (disch := omega) only [zsI_n, zsI_s]
    by_cases e : v = A.V
    · subst e; rw [pk_us, fu_s]
    · rw [pk_un e, fu_n e]; exact hA.vtm v (by omega)) (by simp (disch := omega) only [zsI_n, zsI_s, pk_un, zsL_1, zsI_2]; exact hA.ev))
theorem QF.prop {V : Nat} {B : VB} {M : zMem} (hx : QF V B M) {q bg lv b t l : Nat} : QF (V + 1) (uProp V q bg lv B) (mProp M V q bg lv b t l) := by
  unfold mProp
  exact (QF.mk (by simp (disch := omega) only [zsI_n, zsI_s, pk_un, zsL_1, zsI_2]; exact hx.T) (by simp (disch := omega) only [zsI_n, zsI_s, pk_un, zsL_1, zsI_2]; exact hx.L) (by simp (disch := omega) only [zsI_n, zsI_s, pk_un, zsL_1, zsI_2]; exact hx.Bc) (by simp (disch := omega) only [zsI_n, zsI_s, pk_un, zsL_1, zsI_2]; exact hx.R) ( fun v hv => by
    show _ = nI (fu B.rcp V q v)
    simp (disch := omega) only [zsI_n, zsI_s]
    by_cases e : v = V
    · subst e; rw [pk_us, fu_s]
    · rw [pk_un e, fu_n e]; exact hx.rcp v (by omega)) ( fun v hv => by
    show _ = nI (fu B.bag V bg v)
    simp (disch := omega) only [zsI_n, zsI_s]
    by_cases e : v = V
    · subst e; rw [pk_us, fu_s]
    · rw [pk_un e, fu_n e]; exact hx.bag v (by omega)) ( fun v hv => by
    show _ = nI (fu B.loa V lv v)
    simp (disch := omega) only [zsI_n, zsI_s]
    by_cases e : v = V
    · subst e; rw [pk_us, fu_s]
    · rw [pk_un e, fu_n e]; exact hx.loa v (by omega)) (by simp (disch := omega) only [zsI_n, zsI_s, pk_un, zsL_1, zsI_2]; exact hx.sl) (by simp (disch := omega) only [zsI_n, zsI_s, pk_un, zsL_1, zsI_2]; exact hx.cond) (by simp (disch := omega) only [zsI_n, zsI_s, pk_un, zsL_1, zsI_2]; exact hx.st) (by simp (disch := omega) only [zsI_n, zsI_s, pk_un, zsL_1, zsI_2]; exact hx.cnt) (by simp (disch := omega) only [zsI_n, zsI_s, pk_un, zsL_1, zsI_2]; exact hx.mis) (by simp (disch := omega) only [zsI_n, zsI_s, pk_un, zsL_1, zsI_2]; exact hx.bver) (by simp (disch := omega) only [zsI_n, zsI_s, pk_un, zsL_1, zsI_2]; exact hx.blot) (by simp (disch := omega) only [zsI_n, zsI_s, pk_un, zsL_1, zsI_2]; exact hx.left) (by simp (disch := omega) only [zsI_n, zsI_s, pk_un, zsL_1, zsI_2]; exact hx.out) (by simp (disch := omega) only [zsI_n, zsI_s, pk_un, zsL_1, zsI_2]; exact hx.rb) (by simp (disch := omega) only [zsI_n, zsI_s, pk_un, zsL_1, zsI_2]; exact hx.rl) (by simp (disch := omega) only [zsI_n, zsI_s, pk_un, zsL_1, zsI_2]; exact hx.rr))
theorem x_lead (N : Nat) {A : VA} {M : zMem} (hA : QA 1 A M) (hk : AOK A) {b : Nat} (hb : b < 5) : fX7_checkLeader N (nI b) M = if A.role b = 2 then some (.inl 0, M) else some (.inr 3, M) := by
  have h2 := hk.role b hb
  unfold fX7_checkLeader
  rw [if_pos (z5 hb), nI_clamp (by omega), show M.1 3 b = nI (A.role b) from hA.1.rol b hb]
  by_cases g : A.role b = 2
  · rw [if_pos (by rw [g]; rfl), if_pos g]
  · rw [if_neg (q_ne (y := 2) (b := 2) rfl (by omega) (by decide) g), if_neg g]
theorem m_propn (N : Nat) {M : zMem} {x y z w r : Int32} (h0 : ¬ r ≤ 0) : fX8_propose_B81 N x y z w r M = some (.inl 0, zsI M 62 30 r) := by
  unfold fX8_propose_B81
  rw [q_zl, zsI_s, pk_us, if_neg h0]
theorem m_prop0 (N : Nat) {A : VA} {B : VB} {M : zMem} (hm : QM A B M) (hk : AOK A) {b q bg lv : Nat} (hb : b < 5) (hl : A.len b < 20) (hV : A.V < 60) : fX8_propose_B81 N (nI b) (nI q) (nI bg) (nI lv) 0 M = some (.inl (nI A.V), mProp (zsI M 62 30 0) A.V q bg lv b (A.term b) (A.len b)) := by
  have hn := hm.note (x := 0)
  unfold fX8_propose_B81 mProp
  simp only [z5 hb, if_true, q_zl]
  rw [show (zsI M 62 30 0).1 62 30 = 0 by rw [zsI_s, pk_us], if_pos (by decide), nI_clamp (by omega)]
  have e7 : (zsI M 62 30 0).1 62 7 = nI A.V := hn.1.ver
  generalize hM' : zsI M 62 30 0 = M' at hn e7 ⊢
  have e7' : ∀ k j (x : Int32), k ≠ 62 → ∀ M0 : zMem, (zsI M0 k j x).1 62 7 = M0.1 62 7 := fun k j x hk M0 => by rw [zsI_n (by omega)]
  simp (disch := omega) only [e7', e7, z60 hV, if_true, nI_clamp, zsI_n, hn.1.trm b hb, hn.1.len b hb, q_20, nI_1, zin_nI (show 20 * b + A.len b < 100 by omega) (by decide)]
  rw [zsI_s, pk_us, nI_pred]
theorem b_propose (N n : Nat) (hn : n < 512) {A : VA} {B : VB} {M : zMem} (h : JJ n A B M) (x y u w : Int32) : Both n (fL_propose N x y u w) (fX8_propose N x y u w) M := by
  have no1 : x < 0 ∨ nI 5 ≤ x → Both n (fL_propose N x y u w) (fX8_propose N x y u w) M := fun c => by
    refine Both.no h (r := 1) ?_ ?_ (by decide)
    · unfold fL_propose fX7_propose
      rw [x_bakn N c, q_zbr, q_zbxr, if_pos (by decide)]
    · unfold fX8_propose fX8_propose_B17
      rw [m_bakn N c, q_zb, if_pos rfl, m_propn N (by decide)]
  rcases pk_ix x (n := 5) (by decide) with c | c | ⟨b, hb, rfl⟩
  · exact no1 (Or.inl c)
  · exact no1 (Or.inr c)
  have no2 : y < 0 ∨ nI 6 ≤ y → Both n (fL_propose N (nI b) y u w) (fX8_propose N (nI b) y u w) M := fun c => by
    refine Both.no h (r := 1) ?_ ?_ (by decide)
    · unfold fL_propose fX7_propose
      rw [x_bak N hb, q_zb, x_recn N c, q_zbr, q_zbxr, if_pos (by decide)]
    · unfold fX8_propose fX8_propose_B17
      rw [m_bak N hb, q_zb, if_neg (by decide), m_recn N c, q_zb, if_pos rfl, m_propn N (by decide)]
  rcases pk_ix y (n := 6) (by decide) with c | c | ⟨q, hq, rfl⟩
  · exact no2 (Or.inl c)
  · exact no2 (Or.inr c)
  have lo : ∀ {x : Int32} {k : Nat}, 1 ≤ k → k < 2 ^ 30 → nI k < x → ¬ x < 1 := fun {x} {k} k1 k2 c q => by
    have e1 := Int32.lt_iff_toInt_lt.mp c
    have e2 := Int32.lt_iff_toInt_lt.mp q
    rw [nI_toInt (by omega)] at e1
    have e4 : (1 : Int32).toInt = 1 := rfl
    omega
  have no3 : fX8_in N u 1 9 M = some (.inl 0, M) → (u < 1 ∨ ¬ u < 1 ∧ (9 : Int32) < u) → Both n (fL_propose N (nI b) (nI q) u w) (fX8_propose N (nI b) (nI q) u w) M := fun e c => by
    refine Both.no h (r := 2) ?_ ?_ (by decide)
    · unfold fL_propose fX7_propose
      rw [x_bak N hb, q_zb, x_rec N hq, q_zb]
      rcases c with c | ⟨c1, c2⟩
      · rw [if_pos c, q_zbxr, if_neg (by decide), if_pos (by decide)]
      · rw [if_neg c1, if_pos c2, q_zbxr, if_neg (by decide), if_pos (by decide)]
    · unfold fX8_propose fX8_propose_B42
      rw [m_bak N hb, q_zb, if_neg (by decide), m_rec N hq, q_zb, if_neg (by decide), e, q_zb, if_pos rfl, m_propn N (by decide)]
  rcases q_rng u 1 9 (by decide) (by decide) with c | c | ⟨bg, g1, g2, rfl⟩
  · exact no3 (m_lo N c M) (Or.inl c)
  · exact no3 (m_hi N c M) (Or.inr ⟨lo (by decide) (by decide) c, c⟩)
  have u1 : ¬ nI bg < 1 := nI_nlt (b := 1) g1 (by omega)
  have u2 : ¬ (9 : Int32) < nI bg := nI_nlt (a := 9) g2 (by decide)
  have no4 : fX8_in N w 1 40 M = some (.inl 0, M) → (w < 1 ∨ ¬ w < 1 ∧ ¬ w ≤ 40) → Both n (fL_propose N (nI b) (nI q) (nI bg) w) (fX8_propose N (nI b) (nI q) (nI bg) w) M := fun e c => by
    refine Both.no h (r := 2) ?_ ?_ (by decide)
    · unfold fL_propose fX7_propose
      rw [x_bak N hb, q_zb, x_rec N hq, q_zb, if_neg u1, if_neg u2]
      rcases c with c | ⟨c1, c2⟩
      · rw [if_pos c, q_zbxr, if_neg (by decide), if_pos (by decide)]
      · rw [if_neg c1, if_neg c2, q_zbxr, if_neg (by decide), if_pos (by decide)]
    · unfold fX8_propose fX8_propose_B42
      rw [m_bak N hb, q_zb, if_neg (by decide), m_rec N hq, q_zb, if_neg (by decide), m_rin N u1 u2, q_zb, if_neg (by decide), e, q_zb, if_pos rfl, m_propn N (by decide)]
  rcases q_rng w 1 40 (by decide) (by decide) with c | c | ⟨lv, g3, g4, rfl⟩
  · exact no4 (m_lo N c M) (Or.inl c)
  · exact no4 (m_hi N c M) (Or.inr ⟨lo (by decide) (by decide) c, q_gt c⟩)
  have w1 : ¬ nI lv < 1 := nI_nlt (b := 1) g3 (by omega)
  have w2 : nI lv ≤ 40 := nI_le (b := 40) g4 (by decide)
  have w3 : ¬ (40 : Int32) < nI lv := nI_nlt (a := 40) g4 (by decide)
  have hl := h.aok.len b hb
  have hv := h.aok.ver
  have h2 := h.aok.role b hb
  have z := z5 hb
  by_cases g : A.role b = 2 ∧ A.len b < 20 ∧ A.V < 60
  · obtain ⟨k1, k2, k3⟩ := g
    obtain ⟨M1, f1, f2, f3⟩ := c_addv 1 N h.ra h.aok hb k2 k3
    have hx2 := (h.rx.to (f3.to (by omega))).uProp (q := q) (bg := bg) (lv := lv)
    have q0 : zeq 0 33 M1 (zsI (zsI (zsI M1 34 A.V (nI q)) 35 A.V (nI bg)) 36 A.V (nI lv)) := fun a _ ha => ⟨by rw [zsI_n (by omega), zsI_n (by omega), zsI_n (by omega)], rfl⟩
    obtain ⟨M2, e1, e2, e3⟩ := c_hist N (k := 3) (a := b) (b := 0) hn (M := zsI (zsI (zsI M1 34 A.V (nI q)) 35 A.V (nI bg)) 36 A.V (nI lv)) ((h.rt.to (f3.to (by omega))).to (q0.sub (by omega) (by omega))) h.aok (Or.inr (Or.inr (Or.inr (Or.inl ⟨rfl, hb, k1, k2, k3, rfl⟩))))
    rw [nI_0] at e1
    have q1 : zeq 0 29 (zsI (zsI (zsI M1 34 A.V (nI q)) 35 A.V (nI bg)) 36 A.V (nI lv)) M2 := fun a _ ha => e3 a (by omega)
    have q2 : zeq 33 90 (zsI (zsI (zsI M1 34 A.V (nI q)) 35 A.V (nI bg)) 36 A.V (nI lv)) M2 := fun a ha _ => e3 a (by omega)
    have hm : QM A B (zsL M2 87 0 (nI A.V).toInt64) := h.rm.cong (fun a h1 h2 => by rw [zsL_1, (q2 a (by omega) (by omega)).1, zsI_n (by omega), zsI_n (by omega), zsI_n (by omega), (f3 a (by omega)).1])
    refine Both.go (A' := aProp b A) (B' := uProp A.V q bg lv B) (M1 := M2) (v := nI A.V) (AOK_prop h.aok hb k2 k3 k1) (h.bok.uProp hq g1 g2 g4) ?_ ((f2.to (q0.sub (by omega) (by omega))).to (q1.sub (by omega) (by omega))) (hx2.to (q2.sub (by omega) (by omega))) e2 ⟨mProp (zsI (zsL M2 87 0 (nI A.V).toInt64) 62 30 0) A.V q bg lv b (A.term b) (A.len b), ?_, ?_, ?_, ⟨hm.note.1.prop h.aok hb k2, hm.note.2.prop⟩⟩
    · unfold fL_propose fX7_propose fX6_note
      rw [x_bak N hb, q_zb, x_rec N hq, q_zb, if_neg u1, if_neg u2, if_neg w1, if_pos w2, x_lead N h.ra h.aok hb, if_pos k1, q_zb, if_pos z, nI_clamp (by omega), show M.1 12 b = nI (A.len b) from h.ra.1.len b hb, if_neg (show ¬ (20 : Int32) ≤ nI (A.len b) from nI_ge (b := 20) k2 (by decide)), h.ra.1.ver, if_pos (show nI A.V < 60 from nI_lt (b := 60) k3 (by decide)), f1, q_zb]
      simp only [z60 k3, if_true, q_zl]
      rw [nI_clamp (by omega), q_zb, show (3 : Int32) = nI 3 from rfl, e1, q_zb, q_zbx, if_pos z1, cl0]
    · unfold fX8_propose
      rw [m_bak N hb, q_zb, if_neg (by decide), m_rec N hq, q_zb, if_neg (by decide), m_rin N u1 u2, q_zb, if_neg (by decide), m_rin N w1 w3, q_zb, if_neg (by decide), if_pos z, nI_clamp (by omega), hm.1.rol b hb, if_pos (by rw [k1]; rfl), if_pos z, hm.1.len b hb, if_neg (q_ne (y := 20) (b := 20) rfl (by omega) (by decide) (by omega)), hm.1.ver, if_neg (q_ne (y := 60) (b := 60) rfl (by omega) (by decide) (by omega)), m_prop0 N hm h.aok hb k2 k3]
    · unfold mProp
      simp (disch := omega) only [zsI_n, zsI_s, pk_un, pk_us]
    · unfold mProp
      exact (((((((zrf.refl.sI (by omega)).sI (by omega)).sI (by omega)).sI (by omega)).sI (by omega)).sI (by omega)).sI (by omega)).sI (by omega)
  · refine Both.no h (r := 3) ?_ ?_ (by decide)
    · unfold fL_propose fX7_propose
      rw [x_bak N hb, q_zb, x_rec N hq, q_zb, if_neg u1, if_neg u2, if_neg w1, if_pos w2, x_lead N h.ra h.aok hb]
      by_cases k1 : A.role b = 2
      · rw [if_pos k1, q_zb, if_pos z, nI_clamp (by omega), show M.1 12 b = nI (A.len b) from h.ra.1.len b hb]
        by_cases k2 : A.len b < 20
        · rw [if_neg (show ¬ (20 : Int32) ≤ nI (A.len b) from nI_ge (b := 20) k2 (by decide)), h.ra.1.ver, if_neg (show ¬ nI A.V < 60 from nI_nlt (b := 60) (by omega) (by omega)), q_zbxr, if_neg (by decide), if_neg (by decide), if_pos (by decide)]
        · rw [if_pos (show (20 : Int32) ≤ nI (A.len b) from nI_le (a := 20) (by omega) (by omega)), q_zbxr, if_neg (by decide), if_neg (by decide), if_pos (by decide)]
      · rw [if_neg k1, q_zbr, q_zbxr, if_neg (by decide), if_neg (by decide), if_pos (by decide)]
    · unfold fX8_propose fX8_propose_B76
      rw [m_bak N hb, q_zb, if_neg (by decide), m_rec N hq, q_zb, if_neg (by decide), m_rin N u1 u2, q_zb, if_neg (by decide), m_rin N w1 w3, q_zb, if_neg (by decide), if_pos z, nI_clamp (by omega), h.rm.1.rol b hb]
      by_cases k1 : A.role b = 2
      · rw [if_pos (by rw [k1]; rfl), if_pos z, h.rm.1.len b hb]
        by_cases k2 : A.len b < 20
        · rw [if_neg (q_ne (y := 20) (b := 20) rfl (by omega) (by decide) (by omega)), h.rm.1.ver, if_pos (by rw [show A.V = 60 by omega]; rfl), m_propn N (by decide)]
        · rw [if_pos (by rw [show A.len b = 20 by omega]; rfl), m_propn N (by decide)]
      · rw [if_neg (q_ne (y := 2) (b := 2) rfl (by omega) (by decide) k1), m_propn N (by decide)]
