/-! pure: stand, vote -/
theorem q_ne {a b : Nat} {y : Int32} (hy : y = nI b) (ha : a < 2 ^ 31) (hb : b < 2 ^ 31) (h : a ≠ b) : ¬ nI a = y := fun q => h ((nI_eq ha hb).mp (q.trans hy))
theorem QR.stand {A : VA} {M : zMem} {b : Nat} (hA : QR (aTake b (A.term b + 1) A) M) : QR (aStand b A) (zsI (zsI (zsI M 64 b 1) 65 b (nI (b + 1))) 66 b (nI (2 ^ b))) :=
  (QR.mk (by simp (disch := omega) only [zsI_n, zsI_s, pk_un, zsL_1, zsI_2]; exact hA.grp) (by simp (disch := omega) only [zsI_n, zsI_s, pk_un, zsL_1, zsI_2]; exact hA.ver) (by simp (disch := omega) only [zsI_n, zsI_s, pk_un, zsL_1, zsI_2]; exact hA.trm) ( fun c hc => by
    show _ = nI (fu A.role b 1 c)
    rw [zsI_n (by decide), zsI_n (by decide), zsI_s]
    by_cases e : c = b
    · subst e; rw [pk_us, fu_s]; rfl
    · have := hA.rol c hc
      rw [pk_un e, fu_n e, this]
      show nI (fu A.role b 0 c) = _
      rw [fu_n e]) ( fun c hc => by
    show _ = nI (fu A.vote b (b + 1) c)
    rw [zsI_n (by decide), zsI_s]
    by_cases e : c = b
    · subst e; rw [pk_us, fu_s]
    · have := hA.vot c hc
      rw [pk_un e, fu_n e, zsI_n (by decide), this]
      show nI (fu A.vote b 0 c) = _
      rw [fu_n e]) ( fun c hc q => by
    show _ = nI (fu A.sup b (2 ^ b) c)
    rw [zsI_s]
    by_cases e : c = b
    · subst e; rw [pk_us, fu_s]
    · rw [pk_un e, fu_n e, zsI_n (by decide), zsI_n (by decide)]
      refine hA.sup c hc ?_
      have q' : fu A.role b 1 c = 1 := q
      rw [fu_n e] at q'
      show fu A.role b 0 c = 1
      rw [fu_n e]; exact q') (by simp (disch := omega) only [zsI_n, zsI_s, pk_un, zsL_1, zsI_2]; exact hA.log) (by simp (disch := omega) only [zsI_n, zsI_s, pk_un, zsL_1, zsI_2]; exact hA.len) (by simp (disch := omega) only [zsI_n, zsI_s, pk_un, zsL_1, zsI_2]; exact hA.vtm) (by simp (disch := omega) only [zsI_n, zsI_s, pk_un, zsL_1, zsI_2]; exact hA.ev))
theorem QM.ag {A A' : VA} {B : VB} {M M' : zMem} (h : QM A B M) (hr : QR A' M') (hV : A'.V = A.V) (e : ∀ a, (a < 63 ∨ 70 ≤ a) → M'.1 a = M.1 a) : QM A' B M' :=
  ⟨hr, by rw [hV]; exact h.2.to (by rw [e 62 (by decide)]) (by rw [e 62 (by decide)]) (by rw [e 62 (by decide)]) (by rw [e 62 (by decide)]) (fun a h1 h2 _ _ => e a (by omega))⟩
theorem b_stand (N n : Nat) (hn : n < 512) {A : VA} {B : VB} {M : zMem} (h : JJ n A B M) (x : Int32) : Both n (fL_stand N x) (fX8_stand N x) M := by
  have no1 : x < 0 ∨ nI 5 ≤ x → Both n (fL_stand N x) (fX8_stand N x) M := fun c => by
    refine Both.no h (r := 1) ?_ ?_ (by decide)
    · unfold fL_stand fX7_stand
      rw [x_bakn N c, q_zbr, q_zbxr, if_pos (by decide)]
    · unfold fX8_stand fX8_stand_B28
      rw [m_bakn N c, q_zb, if_pos rfl, q_zl, zsI_s, pk_us, if_neg (by decide)]
  rcases pk_ix x (n := 5) (by decide) with c | c | ⟨b, hb, rfl⟩
  · exact no1 (Or.inl c)
  · exact no1 (Or.inr c)
  have ht := h.aok.term b hb
  have z := z5 hb
  by_cases g : A.term b = 100
  · refine Both.no h (r := 2) ?_ ?_ (by decide)
    · unfold fL_stand fX7_stand
      rw [x_bak N hb, q_zb, if_pos z, nI_clamp (by omega), show M.1 2 b = nI (A.term b) from h.ra.1.trm b hb, g, if_neg (by decide), q_zbxr, if_neg (by decide), if_pos (by decide)]
    · unfold fX8_stand fX8_stand_B28
      rw [m_bak N hb, q_zb, if_neg (by decide), if_pos z, nI_clamp (by omega), h.rm.1.trm b hb, g, if_pos (by decide), q_zl, zsI_s, pk_us, if_neg (by decide)]
  · obtain ⟨M1, f1, f2, f3⟩ := c_cand 1 N h.ra hb
    obtain ⟨M2, e1, e2, e3⟩ := c_hist N (k := 1) (a := b) (b := 0) hn (h.rt.to (f3.to (by omega))) h.aok (Or.inr (Or.inl ⟨rfl, hb, by omega, rfl⟩))
    rw [nI_0] at e1
    have q1 : zeq 0 29 M1 M2 := fun a _ ha => e3 a (by omega)
    have q2 : zeq 33 90 M1 M2 := fun a ha _ => e3 a (by omega)
    have ra2 : QA 1 (aStand b A) M2 := f2.to (q1.sub (by omega) (by omega))
    have t2 : M2.1 2 b = nI (A.term b + 1) := by
      have := ra2.1.trm b hb
      rw [show (aStand b A).term b = A.term b + 1 from fu_s] at this
      exact this
    have hm : QM A B (zsL M2 87 0 (nI (A.term b + 1)).toInt64) := h.rm.cong (fun a h1 h2 => by rw [zsL_1, (q2 a (by omega) (by omega)).1, (f3 a (by omega)).1])
    obtain ⟨M3, g1, g2, g3, g4, g5, g6⟩ := r_take N hm.note.1 (b := b) (t := A.term b + 1) hb (M := zsI (zsL M2 87 0 (nI (A.term b + 1)).toInt64) 62 30 0)
    refine Both.go (A' := aStand b A) (B' := B) (M1 := M2) (v := nI (A.term b + 1)) (AOK_stand h.aok hb (by omega)) (h.bok.up (Nat.le_succ n)) ?_ ra2 ((h.rx.to (f3.to (by omega))).to (q2.sub (by omega) (by omega))) e2 ⟨zsI (zsI (zsI M3 64 b 1) 65 b (nI (b + 1))) 66 b (nI (2 ^ b)), ?_, ?_, ⟨fun a ha => ?_, g4⟩, QM.ag (hm.note (x := 0)) g2.stand rfl (fun a ha => ?_)⟩
    · unfold fL_stand fX7_stand
      rw [x_bak N hb, q_zb, if_pos z, nI_clamp (by omega), show M.1 2 b = nI (A.term b) from h.ra.1.trm b hb, if_pos (show nI (A.term b) < 100 from nI_lt (b := 100) (by omega) (by decide)), f1, q_zb, show (1 : Int32) = nI 1 from rfl, e1, q_zb, if_pos z, t2, q_zbx, if_pos z1, cl0]
      rfl
    · unfold fX8_stand fX8_stand_B28
      rw [m_bak N hb, q_zb, if_neg (by decide)]
      simp only [z, if_true, q_zl]
      rw [nI_clamp (by omega), hm.1.trm b hb, if_neg (q_ne (y := 100) (b := 100) rfl (by omega) (by decide) g), zsI_s, pk_us, if_pos (by decide), hm.note.1.trm b hb, nI_1, g1, q_zb, nI_1, q_shl (by omega)]
      have := g2.stand.trm b hb
      rw [show (aStand b A).term b = A.term b + 1 from fu_s] at this
      rw [this]
    · rw [zsI_n (by decide), zsI_n (by decide), zsI_n (by decide), g3 62 (by decide), zsI_s, pk_us]
    · rw [zsI_n (by omega), zsI_n (by omega), zsI_n (by omega), g3 a (by omega), zsI_n (by omega)]
    · rw [zsI_n (by omega), zsI_n (by omega), zsI_n (by omega), g3 a (by omega)]
def lap (A : VA) (b : Nat) : Nat := if A.len b = 0 then 0 else aLast A b + 1
theorem m_last (N : Nat) {A : VA} {M : zMem} (hA : QR A M) (hk : AOK A) {b : Nat} (hb : b < 5) : fX8_lastTerm N (nI b) M = some (.inl (nI (lap A b) - 1), M) := by
  have hl := hk.len b hb
  have hv := hk.ver
  unfold fX8_lastTerm lap
  simp only [z5 hb, if_true]
  rw [nI_clamp (by omega), hA.len b hb]
  by_cases h0 : A.len b = 0
  · rw [h0, if_pos (by rfl), if_pos rfl]; rfl
  · have h1 := hk.logv b hb (A.len b - 1) (by omega)
    rw [if_neg (nI_ne0 (by omega) (by omega)), if_neg h0, q_20, q_pred (by omega), show 20 * b + A.len b - 1 = 20 * b + (A.len b - 1) by omega, if_pos (zin_nI (by omega) (by decide)), nI_clamp (by omega), hA.log b hb _ (by omega), if_pos (z60 (by omega)), nI_clamp (by omega), hA.vtm _ h1, nI_pred, aLast, if_neg h0]
theorem q_subm (a b : Int32) : (a - 1) - (b - 1) = a - b := by
  have h : ∀ x y : BitVec 32, (x - 1#32) - (y - 1#32) = x - y := by intro x y; bv_omega
  apply Int32.toBitVec_inj.mp
  exact h a.toBitVec b.toBitVec
theorem aLast_0 {A : VA} (hk : AOK A) {b : Nat} (hb : b < 5) : (A.len b = 0 → aLast A b = 0) ∧ (A.len b ≠ 0 → 1 ≤ aLast A b) := by
  unfold aLast
  by_cases h0 : A.len b = 0
  · rw [if_pos h0]; exact ⟨fun _ => rfl, fun q => absurd h0 q⟩
  · rw [if_neg h0]; exact ⟨fun q => absurd q h0, fun _ => (hk.vt _ (hk.logv b hb _ (by omega))).1⟩
theorem m_better (N : Nat) {A : VA} {M : zMem} (hA : QR A M) (hk : AOK A) {v c : Nat} (hv : v < 5) (hc : c < 5) : fX8_isBetter N (nI v) (nI c) M = some (.inl (nI (aBetter A v c).toNat), M) := by
  have h1 := aLast_le hk hv
  have h2 := aLast_le hk hc
  have h3 := hk.len v hv
  have h4 := hk.len c hc
  have h5 := aLast_0 hk hv
  have h6 := aLast_0 hk hc
  have l1 : lap A v ≤ 101 := by unfold lap; split <;> omega
  have l2 : lap A c ≤ 101 := by unfold lap; split <;> omega
  have k1 : lap A c < lap A v ↔ aLast A c < aLast A v := by unfold lap; split <;> split <;> omega
  have k2 : lap A v = lap A c ↔ aLast A v = aLast A c := by unfold lap; split <;> split <;> omega
  unfold fX8_isBetter fX8_isBetter_B35
  rw [m_last N hA hk hv, q_zb, m_last N hA hk hc, q_zb, q_subm, q_zv]
  simp only [z5 hv, z5 hc, if_true]
  rw [nI_clamp (by omega), nI_clamp (by omega), hA.len v hv, hA.len c hc]
  by_cases g1 : lap A c < lap A v
  · rw [pk_sub (by omega), if_pos (show (0 : Int32) < nI (lap A v - lap A c) from nI_lt (a := 0) (by omega) (by omega)), aBetter, decide_eq_true (Or.inl (k1.mp g1))]; rfl
  · have n1 : ¬ (0 : Int32) < nI (lap A v) - nI (lap A c) := fun q => by
      have e1 := Int32.lt_iff_toInt_lt.mp q
      rw [pk_sub_toInt (by omega) (by omega)] at e1
      have e0 : (0 : Int32).toInt = 0 := rfl
      omega
    rw [if_neg n1]
    by_cases g2 : lap A v = lap A c
    · rw [if_pos (by rw [g2, pk_sub (Nat.le_refl _), Nat.sub_self]; rfl)]
      by_cases g3 : A.len c < A.len v
      · rw [if_neg (nI_ge g3 (by omega)), aBetter, decide_eq_true (Or.inr ⟨k2.mp g2, g3⟩)]; rfl
      · rw [if_pos (nI_le (by omega) (by omega)), aBetter, decide_eq_false (by rw [← k1, ← k2]; omega)]; rfl
    · have n2 : ¬ nI (lap A v) - nI (lap A c) = 0 := fun q => by
        have e1 : (nI (lap A v) - nI (lap A c)).toInt = (0 : Int32).toInt := by rw [q]
        rw [pk_sub_toInt (by omega) (by omega)] at e1
        have e0 : (0 : Int32).toInt = 0 := rfl
        omega
      rw [if_neg n2, aBetter, decide_eq_false (by rw [← k1, ← k2]; omega)]; rfl
/-- the reference's test of two bakeries -/
theorem m_rc1 (N : Nat) {x y r : Int32} (h : x < 0 ∨ nI 5 ≤ x) (M : zMem) : fX8_reachCheck N x y r M = some (.inl 1, M) := by
  unfold fX8_reachCheck fX8_reachCheck_B14
  rw [m_bakn N h, q_zb, if_pos rfl]
theorem m_rc2 (N : Nat) {y r : Int32} {a : Nat} (ha : a < 5) (h : y < 0 ∨ nI 5 ≤ y) (M : zMem) : fX8_reachCheck N (nI a) y r M = some (.inl 1, M) := by
  unfold fX8_reachCheck fX8_reachCheck_B14
  rw [m_bak N ha, q_zb, if_neg (by decide), m_bakn N h, q_zb, if_pos rfl]
theorem m_rc3 (N : Nat) {r : Int32} {a : Nat} (ha : a < 5) (M : zMem) : fX8_reachCheck N (nI a) (nI a) r M = some (.inl 2, M) := by
  unfold fX8_reachCheck
  rw [m_bak N ha, q_zb, if_neg (by decide), m_bak N ha, q_zb, if_neg (by decide), if_pos rfl]
def tog (A : VA) (a b : Nat) : Bool := decide (A.grp.testBit a = A.grp.testBit b)
theorem tog_comm {A : VA} {a b : Nat} : tog A a b = tog A b a := by unfold tog; cases A.grp.testBit a <;> cases A.grp.testBit b <;> rfl
theorem m_rc (N : Nat) {A : VA} {M : zMem} (hA : QR A M) (hk : AOK A) {a b r : Nat} (ha : a < 5) (hb : b < 5) (hab : a ≠ b) (hr : r < 5) : fX8_reachCheck N (nI a) (nI b) (nI r) M = some (.inl (if A.role a = r ∧ tog A a b = true then 0 else 3), M) := by
  have h2 := hk.role a ha
  unfold fX8_reachCheck fX8_reachCheck_B46
  rw [m_bak N ha, q_zb, if_neg (by decide), m_bak N hb, q_zb, if_neg (by decide), if_neg (fun q => hab ((nI_eq (by omega) (by omega)).mp q)), if_pos (z5 ha), nI_clamp (by omega), hA.rol a ha]
  by_cases g : A.role a = r
  · rw [if_pos (by rw [g]), m_tog N hA hk ha hb, q_zb]
    have e : decide (A.grp.testBit a = A.grp.testBit b) = tog A a b := rfl
    rw [e]
    cases g2 : tog A a b
    · rw [if_pos (by rfl), if_neg (fun q => absurd q.2 (by decide))]
    · rw [if_neg (by decide), if_pos ⟨g, rfl⟩]
  · rw [if_neg (fun q => g ((nI_eq (by omega) (by omega)).mp q)), if_neg (fun q => g q.1)]
theorem x_pair1 (N : Nat) {x y : Int32} (h : x < 0 ∨ nI 5 ≤ x) (M : zMem) : fX7_checkPair N x y M = some (.inr 1, M) := by
  unfold fX7_checkPair
  rw [x_bakn N h, q_zbr]
theorem x_pair2 (N : Nat) {y : Int32} {a : Nat} (ha : a < 5) (h : y < 0 ∨ nI 5 ≤ y) (M : zMem) : fX7_checkPair N (nI a) y M = some (.inr 1, M) := by
  unfold fX7_checkPair
  rw [x_bak N ha, q_zb, x_bakn N h, q_zbr]
theorem x_pair3 (N : Nat) {a : Nat} (ha : a < 5) (M : zMem) : fX7_checkPair N (nI a) (nI a) M = some (.inr 2, M) := by
  unfold fX7_checkPair
  rw [x_bak N ha, q_zb, x_bak N ha, q_zb, if_pos rfl]
theorem x_pair (N : Nat) {a b : Nat} (ha : a < 5) (hb : b < 5) (hab : a ≠ b) (M : zMem) : fX7_checkPair N (nI a) (nI b) M = some (.inl 0, M) := by
  unfold fX7_checkPair
  rw [x_bak N ha, q_zb, x_bak N hb, q_zb, if_neg (fun q => hab ((nI_eq (by omega) (by omega)).mp q))]
theorem x_reach (N : Nat) {A : VA} {M : zMem} (hA : QA 1 A M) (hk : AOK A) {a b : Nat} (ha : a < 5) (hb : b < 5) : fX7_checkReach N (nI a) (nI b) M = if tog A a b = true then some (.inl 0, M) else some (.inr 3, M) := by
  unfold fX7_checkReach
  rw [x_tog 1 N hA hk ha hb, q_zb]
  have e : decide (A.grp.testBit a = A.grp.testBit b) = tog A a b := rfl
  rw [e]
  cases g2 : tog A a b
  · rw [if_pos (by rfl), if_neg (by decide)]
  · rw [if_neg (by decide), if_pos rfl]
theorem m_cnt (N : Nat) {M : zMem} {v c s : Nat} (hc : c < 5) (hs : s < 32) (e : M.1 66 c = nI s) : ∀ k n i t, i + k = 5 → k < n → t ≤ i → fX8_vote_B118 N n (nI v) (nI c) (nI t) (nI i) M = fX8_vote_B159 N (nI v) (nI c) (nI c) (if t + sb s k i < 3 then 1 else 2) M := by
  intro k
  induction k with
  | zero =>
    intro n i t h1 h2 h3
    obtain ⟨n, rfl⟩ : ∃ q, n = q + 1 := ⟨n - 1, by omega⟩
    rw [fX8_vote_B118, if_pos (show (5 : Int32) ≤ nI i from nI_le (a := 5) (by omega) (by omega))]
    show _ = fX8_vote_B159 N (nI v) (nI c) (nI c) (if t < 3 then 1 else 2) M
    by_cases g : t < 3
    · rw [if_pos (show nI t < 3 from nI_lt (b := 3) g (by decide)), if_pos g]
    · rw [if_neg (show ¬ nI t < 3 from nI_nlt (b := 3) (by omega) (by omega)), if_neg g]
  | succ k ih =>
    intro n i t h1 h2 h3
    obtain ⟨n, rfl⟩ : ∃ q, n = q + 1 := ⟨n - 1, by omega⟩
    have hb := Bool.toNat_le (s.testBit i)
    rw [fX8_vote_B118, if_neg (show ¬ (5 : Int32) ≤ nI i from nI_ge (b := 5) (by omega) (by decide)), if_pos (z5 hc), nI_clamp (by omega), e, q_bit (by omega) (by omega), nI_add, q_zv, nI_1, ih n (i + 1) _ (by omega) (by omega) (by omega), sb, Nat.add_assoc]
theorem QR.role1 {A : VA} {M : zMem} (hA : QR A M) {c : Nat} (hr : A.role c = 1) : QR A (zsI M 64 c 1) :=
  (QR.mk (by simp (disch := omega) only [zsI_n, zsI_s, pk_un, zsL_1, zsI_2]; exact hA.grp) (by simp (disch := omega) only [zsI_n, zsI_s, pk_un, zsL_1, zsI_2]; exact hA.ver) (by simp (disch := omega) only [zsI_n, zsI_s, pk_un, zsL_1, zsI_2]; exact hA.trm) ( fun d hd => by
    rw [zsI_s]
    by_cases e : d = c
    · subst e; rw [pk_us, hr]; rfl
    · rw [pk_un e]; exact hA.rol d hd) (by simp (disch := omega) only [zsI_n, zsI_s, pk_un, zsL_1, zsI_2]; exact hA.vot) (by simp (disch := omega) only [zsI_n, zsI_s, pk_un, zsL_1, zsI_2]; exact hA.sup) (by simp (disch := omega) only [zsI_n, zsI_s, pk_un, zsL_1, zsI_2]; exact hA.log) (by simp (disch := omega) only [zsI_n, zsI_s, pk_un, zsL_1, zsI_2]; exact hA.len) (by simp (disch := omega) only [zsI_n, zsI_s, pk_un, zsL_1, zsI_2]; exact hA.vtm) (by simp (disch := omega) only [zsI_n, zsI_s, pk_un, zsL_1, zsI_2]; exact hA.ev))
theorem QR.give {A : VA} {M : zMem} (hA : QR A M) {v c : Nat} {y : Int32} (hr : A.role c = 1) (hy : y = nI (if p5 (A.sup c ||| 2 ^ v) < 3 then A.role c else 2)) : QR (aGive v c A) (zsI (zsI (zsI M 65 v (nI (c + 1))) 66 c (nI (A.sup c ||| 2 ^ v))) 64 c y) :=
  (QR.mk (by simp (disch := omega) only [zsI_n, zsI_s, pk_un, zsL_1, zsI_2]; exact hA.grp) (by simp (disch := omega) only [zsI_n, zsI_s, pk_un, zsL_1, zsI_2]; exact hA.ver) (by simp (disch := omega) only [zsI_n, zsI_s, pk_un, zsL_1, zsI_2]; exact hA.trm) ( fun d hd => by
    show _ = nI (fu A.role c (if p5 (A.sup c ||| 2 ^ v) < 3 then A.role c else 2) d)
    rw [zsI_s]
    by_cases e : d = c
    · subst e; rw [pk_us, fu_s, hy]
    · rw [pk_un e, fu_n e, zsI_n (by decide), zsI_n (by decide)]; exact hA.rol d hd) ( fun d hd => by
    show _ = nI (fu A.vote v (c + 1) d)
    rw [zsI_n (by decide), zsI_n (by decide), zsI_s]
    by_cases e : d = v
    · subst e; rw [pk_us, fu_s]
    · rw [pk_un e, fu_n e]; exact hA.vot d hd) ( fun d hd q => by
    show _ = nI (fu A.sup c (A.sup c ||| 2 ^ v) d)
    rw [zsI_n (by decide), zsI_s]
    by_cases e : d = c
    · subst e; rw [pk_us, fu_s]
    · rw [pk_un e, fu_n e, zsI_n (by decide)]
      refine hA.sup d hd ?_
      have q' : fu A.role c (if p5 (A.sup c ||| 2 ^ v) < 3 then A.role c else 2) d = 1 := q
      rw [fu_n e] at q'
      exact q') (by simp (disch := omega) only [zsI_n, zsI_s, pk_un, zsL_1, zsI_2]; exact hA.log) (by simp (disch := omega) only [zsI_n, zsI_s, pk_un, zsL_1, zsI_2]; exact hA.len) (by simp (disch := omega) only [zsI_n, zsI_s, pk_un, zsL_1, zsI_2]; exact hA.vtm) (by simp (disch := omega) only [zsI_n, zsI_s, pk_un, zsL_1, zsI_2]; exact hA.ev))
theorem m_fin (N : Nat) {M : zMem} {v c s2 w : Nat} (hv : v < 5) (hc : c < 5) (hw : w ≤ 5) (e : M.1 65 v = nI w) {y : Int32} : fX8_vote_B159 N (nI v) (nI c) (nI c) y M = some (.inl (nI (decide (w = c + 1)).toNat), zsI M 64 c y) := by
  unfold fX8_vote_B159
  rw [if_pos (z5 hc), q_zl, if_pos (z5 hv), nI_clamp (by omega), nI_clamp (by omega), zsI_n (by decide), e, nI_1]
  by_cases g : w = c + 1
  · rw [if_pos (by rw [g]), decide_eq_true g]; rfl
  · rw [if_neg (fun q => g ((nI_eq (by omega) (by omega)).mp q)), decide_eq_false g]; rfl
theorem m_vote1 (N : Nat) (hN : 6 ≤ N) {A : VA} {M : zMem} (hA : QR A M) (hk : AOK A) {v c : Nat} (hv : v < 5) (hc : c < 5) (hr : A.role c = 1) : ∃ M', fX8_vote_B74 N (nI v) (nI c) M = some (.inl (nI (aVote1 v c A).1.toNat), M') ∧ QR (aVote1 v c A).2 M' ∧ (∀ a, (a < 63 ∨ 67 ≤ a) → M'.1 a = M.1 a) ∧ M'.2 = M.2 := by
  have h5 := hk.vote v hv
  obtain ⟨s1, s2⟩ := hk.sup c hc hr
  have c5 : ∀ M0 : zMem, M0.1 66 c = nI (A.sup c) → fX8_vote_B113 N (nI v) (nI c) M0 = fX8_vote_B159 N (nI v) (nI c) (nI c) 1 M0 := fun M0 e0 => by
    unfold fX8_vote_B113
    have := m_cnt N (v := v) hc s1 e0 5 N 0 0 (by omega) (by omega) (by omega)
    rw [nI_0, sb_5, Nat.zero_add, if_pos s2] at this
    exact this
  unfold fX8_vote_B74 aVote1
  rw [if_pos (z5 hv), nI_clamp (by omega), hA.vot v hv]
  by_cases g0 : A.vote v = 0
  · rw [if_pos (by rw [g0]; rfl), m_better N hA hk hv hc, q_zb, if_neg (show ¬ A.vote v = c + 1 by omega), if_pos g0]
    cases gb : aBetter A v c
    · rw [if_pos (show nI false.toNat = 0 from rfl), if_neg (show ¬ false = true by decide)]
      simp only [z5 hv, z5 hc, if_true, q_zl]
      rw [nI_clamp (by omega), nI_1, zsI_n (by decide), hA.sup c hc hr, q_shl (by omega), q_or]
      have n1 := q_orlt s1 hv
      unfold fX8_vote_B113
      have := m_cnt N (v := v) (M := zsI (zsI M 65 v (nI (c + 1))) 66 c (nI (A.sup c ||| 2 ^ v))) hc n1 (by rw [zsI_s, pk_us]) 5 N 0 0 (by omega) (by omega) (by omega)
      rw [nI_0, sb_5, Nat.zero_add] at this
      rw [this, m_fin N (s2 := 0) (w := c + 1) hv hc (by omega) (by rw [zsI_n (by decide), zsI_s, pk_us]), decide_eq_true rfl]
      refine ⟨_, rfl, hA.give hr ?_, fun a ha => by rw [zsI_n (by omega), zsI_n (by omega), zsI_n (by omega)], rfl⟩
      split
      · rw [hr]; rfl
      · rfl
    · rw [if_neg (show ¬ nI true.toNat = 0 by decide), if_pos (show true = true from rfl), c5 M (hA.sup c hc hr), m_fin N (s2 := 0) hv hc h5 (hA.vot v hv), decide_eq_false (by omega)]
      exact ⟨_, rfl, hA.role1 hr, fun a ha => zsI_n (by omega), rfl⟩
  · rw [if_neg (nI_ne0 (by omega) (by omega)), c5 M (hA.sup c hc hr), m_fin N (s2 := 0) hv hc h5 (hA.vot v hv)]
    by_cases g1 : A.vote v = c + 1
    · rw [if_pos g1, decide_eq_true g1]
      exact ⟨_, rfl, hA.role1 hr, fun a ha => zsI_n (by omega), rfl⟩
    · rw [if_neg g1, if_neg g0, decide_eq_false g1]
      exact ⟨_, rfl, hA.role1 hr, fun a ha => zsI_n (by omega), rfl⟩
theorem aVote_V {A : VA} {v c : Nat} : (aVote v c A).2.V = A.V := by
  unfold aVote aVote1
  split
  · rfl
  · split
    · split
      · rfl
      · split
        · split <;> rfl
        · rfl
    · split
      · rfl
      · split
        · split <;> rfl
        · rfl
theorem b_vote (N n : Nat) (hN : 6 ≤ N) (hn : n < 512) {A : VA} {B : VB} {M : zMem} (h : JJ n A B M) (x y : Int32) : Both n (fL_vote N x y) (fX8_vote N x y) M := by
  have no1 : x < 0 ∨ nI 5 ≤ x → ∀ y, Both n (fL_vote N x y) (fX8_vote N x y) M := fun c y => by
    have hx : fX8_reachCheck N y x 1 M = some (.inl 1, M) := by
      rcases pk_ix y (n := 5) (by decide) with d | d | ⟨a, ha, rfl⟩
      · exact m_rc1 N (Or.inl d) M
      · exact m_rc1 N (Or.inr d) M
      · exact m_rc2 N ha c M
    refine Both.no h (r := 1) ?_ ?_ (by decide)
    · unfold fL_vote fX7_vote
      rw [x_pair1 N c, q_zbr, q_zbxr, if_pos (by decide)]
    · unfold fX8_vote
      rw [hx, q_zb, q_zl, zsI_s, pk_us, if_neg (by decide)]
  rcases pk_ix x (n := 5) (by decide) with c | c | ⟨v, hv, rfl⟩
  · exact no1 (Or.inl c) y
  · exact no1 (Or.inr c) y
  have no2 : y < 0 ∨ nI 5 ≤ y → Both n (fL_vote N (nI v) y) (fX8_vote N (nI v) y) M := fun c => by
    refine Both.no h (r := 1) ?_ ?_ (by decide)
    · unfold fL_vote fX7_vote
      rw [x_pair2 N hv c, q_zbr, q_zbxr, if_pos (by decide)]
    · unfold fX8_vote
      rw [m_rc1 N c, q_zb, q_zl, zsI_s, pk_us, if_neg (by decide)]
  rcases pk_ix y (n := 5) (by decide) with c | c | ⟨c, hc, rfl⟩
  · exact no2 (Or.inl c)
  · exact no2 (Or.inr c)
  by_cases hvc : v = c
  · subst hvc
    refine Both.no h (r := 2) ?_ ?_ (by decide)
    · unfold fL_vote fX7_vote
      rw [x_pair3 N hv, q_zbr, q_zbxr, if_neg (by decide), if_pos (by decide)]
    · unfold fX8_vote
      rw [m_rc3 N hv, q_zb, q_zl, zsI_s, pk_us, if_neg (by decide)]
  have hrol := h.aok.role c hc
  by_cases g : A.role c = 1 ∧ tog A c v = true
  · obtain ⟨hr, htg⟩ := g
    have htg' : tog A v c = true := by rw [tog_comm]; exact htg
    obtain ⟨M1, e1, e2, e3⟩ := c_hist N (k := 2) (a := v) (b := c) hn h.rt h.aok (Or.inr (Or.inr (Or.inl ⟨rfl, hv, hc, hvc, hr, rfl⟩)))
    have q1 : zeq 0 29 M M1 := fun a _ ha => e3 a (by omega)
    have q2 : zeq 33 90 M M1 := fun a ha _ => e3 a (by omega)
    obtain ⟨M2, f1, f2, f3⟩ := c_ask 1 N (h.ra.to (q1.sub (by omega) (by omega))) h.aok hv hc hvc hr
    have hx2 : QX (aVote v c A).2.V B M2 := by
      rw [aVote_V]
      exact (h.rx.to (q2.sub (by omega) (by omega))).to (f3.to (by omega))
    have hm : QM A B (zsL M2 87 0 (nI (aVote v c A).1.toNat).toInt64) := h.rm.cong (fun a h1 h2 => by rw [zsL_1, (f3 a (by omega)).1, (q2 a (by omega) (by omega)).1])
    have t1 := h.aok.term v hv
    have t2 := h.aok.term c hc
    have main : ∃ M4, fX8_vote N (nI v) (nI c) (zsL M2 87 0 (nI (aVote v c A).1.toNat).toInt64) = some (.inl (nI (aVote v c A).1.toNat), M4) ∧ QR (aVote v c A).2 M4 ∧ (∀ a, (a < 63 ∨ 67 ≤ a) → M4.1 a = (zsI (zsL M2 87 0 (nI (aVote v c A).1.toNat).toInt64) 62 30 0).1 a) ∧ M4.2 = (zsL M2 87 0 (nI (aVote v c A).1.toNat).toInt64).2 := by
      generalize hM3 : zsL M2 87 0 (nI (aVote v c A).1.toNat).toInt64 = M3 at hm ⊢
      have hn1 := (hm.note (x := 0)).1
      unfold fX8_vote
      rw [show (1 : Int32) = nI 1 from rfl, m_rc N hm.1 h.aok hc hv (fun q => hvc q.symm) (by decide), if_pos ⟨hr, htg⟩, q_zb, q_zl]
      simp only [z5 hv, z5 hc, if_true]
      rw [zsI_s, pk_us, if_pos (by decide), nI_clamp (by omega), nI_clamp (by omega), zsI_n (by decide), hm.1.trm v hv, hm.1.trm c hc]
      unfold aVote
      by_cases g1 : A.term c < A.term v
      · rw [if_pos g1, if_neg (nI_ge g1 (by omega))]
        obtain ⟨M4, k1, k2, k3, k4, -, -⟩ := r_take N hn1 (b := c) (t := A.term v) hc
        rw [k1, q_zb]
        exact ⟨M4, rfl, k2, k3, k4⟩
      · rw [if_neg g1, if_pos (nI_le (by omega) (by omega))]
        by_cases g2 : A.term v < A.term c
        · rw [if_pos g2, if_neg (nI_ge g2 (by omega))]
          obtain ⟨M4, k1, k2, k3, k4, -, -⟩ := r_take N hn1 (b := v) (t := A.term c) hv
          rw [k1, q_zb]
          obtain ⟨M5, l1, l2, l3, l4⟩ := m_vote1 N hN k2 (AOK_take h.aok t2) hv hc (by simp only [aTake, VA.mk_role, fu_n (Ne.symm hvc)]; exact hr)
          exact ⟨M5, l1, l2, fun a ha => (l3 a ha).trans (k3 a ha), l4.trans k4⟩
        · rw [if_neg g2, if_pos (nI_le (by omega) (by omega))]
          exact m_vote1 N hN hn1 h.aok hv hc hr
    obtain ⟨M4, k1, k2, k3, k4⟩ := main
    refine Both.go (A' := (aVote v c A).2) (B' := B) (M1 := M2) (v := nI (aVote v c A).1.toNat) (AOK_vote h.aok hv hc hvc hr) (by rw [aVote_V]; exact h.bok.up (Nat.le_succ n)) ?_ f2 hx2 (e2.to (f3.to (by omega))) ⟨M4, k1, ?_, ⟨fun a ha => ?_, k4⟩, QM.ag (hm.note (x := 0)) k2 aVote_V (fun a ha => k3 a (by omega))⟩
    · unfold fL_vote fX7_vote
      rw [x_pair N hv hc hvc, q_zb, if_pos (z5 hc), nI_clamp (by omega), show M.1 3 c = nI (A.role c) from h.ra.1.rol c hc, hr, if_pos (by rfl), x_reach N h.ra h.aok hv hc, if_pos htg', q_zb, show (2 : Int32) = nI 2 from rfl, e1, q_zb, f1, q_zb, if_pos (bool_nI _), q_zbx]
      cases (aVote v c A).1
      · rw [if_pos (by rfl)]; unfold fL_vote_B16; rw [if_pos z1, cl0]; rfl
      · rw [if_neg (by decide)]; unfold fL_vote_B16; rw [if_pos z1, cl0]; rfl
    · rw [k3 62 (by decide), zsI_s, pk_us]
    · rw [k3 a (by omega), zsI_n (by omega)]
  · have g' : ¬ (A.role c = 1 ∧ tog A v c = true) := by rw [tog_comm]; exact g
    refine Both.no h (r := 3) ?_ ?_ (by decide)
    · unfold fL_vote fX7_vote
      rw [x_pair N hv hc hvc, q_zb, if_pos (z5 hc), nI_clamp (by omega), show M.1 3 c = nI (A.role c) from h.ra.1.rol c hc]
      by_cases g1 : A.role c = 1
      · rw [if_pos (by rw [g1]; rfl), x_reach N h.ra h.aok hv hc, if_neg (fun q => g' ⟨g1, q⟩), q_zbr, q_zbxr, if_neg (by decide), if_neg (by decide), if_pos (by decide)]
      · rw [if_neg (q_ne (y := 1) (b := 1) rfl (by omega) (by decide) g1), q_zbxr, if_neg (by decide), if_neg (by decide), if_pos (by decide)]
    · unfold fX8_vote
      rw [show (1 : Int32) = nI 1 from rfl, m_rc N h.rm.1 h.aok hc hv (fun q => hvc q.symm) (by decide), if_neg g, q_zb, q_zl, zsI_s, pk_us, if_neg (by decide)]
