/-! pure: barred, barredAnew, onSale -/
def badf (B : VB) (i : Nat) : Nat → Bool
  | 0 => false
  | k + 1 => badf B i k || (B.cond k && (B.blot i).testBit k)
def bar (A : VA) (B : VB) (i : Nat) : Nat := (if held A (B.bver i) = true then 0 else 1) + (if badf B i B.L = true then 2 else 0)
theorem bar_lt {A : VA} {B : VB} {i : Nat} : bar A B i < 4 := by
  unfold bar
  split <;> split <;> decide
theorem badf_iff {B : VB} {i : Nat} : ∀ k, badf B i k = true ↔ ∃ l, l < k ∧ B.cond l = true ∧ (B.blot i).testBit l = true := by
  intro k
  induction k with
  | zero => exact ⟨fun q => absurd q Bool.false_ne_true, fun ⟨l, q, _⟩ => absurd q (Nat.not_lt_zero _)⟩
  | succ k ih =>
    unfold badf
    rw [Bool.or_eq_true, Bool.and_eq_true, ih]
    constructor
    · rintro (⟨l, q1, q2⟩ | q)
      · exact ⟨l, by omega, q2⟩
      · exact ⟨k, by omega, q⟩
    · rintro ⟨l, q1, q2⟩
      by_cases e : l = k
      · subst e; exact Or.inr q2
      · exact Or.inl ⟨l, by omega, q2⟩
theorem bad_and {V n : Nat} {B : VB} (hb : BOK V n B) {i K : Nat} (hi : i < B.Bc) (hK : ∀ l, l < 16 → K.testBit l = B.cond l) : B.blot i &&& K = 0 ↔ badf B i B.L = false := by
  have h16 := hb.blot i hi
  have hL := hb.L
  constructor
  · intro e
    cases q : badf B i B.L
    · rfl
    · obtain ⟨l, q1, q2, q3⟩ := (badf_iff _).mp q
      have this : (B.blot i &&& K).testBit l = (0 : Nat).testBit l := by rw [e]
      rw [Nat.testBit_and, Nat.zero_testBit, hK l (by omega), q2, q3] at this
      exact absurd this (by decide)
  · intro e
    apply Nat.eq_of_testBit_eq
    intro l
    rw [Nat.testBit_and, Nat.zero_testBit]
    by_cases c : l < 16
    · rw [hK l c]
      cases q2 : B.cond l
      · exact Bool.and_false _
      · cases q3 : (B.blot i).testBit l
        · rfl
        · have : badf B i B.L = true := (badf_iff _).mpr ⟨l, Nat.lt_of_not_le (fun q => by rw [hb.cond l q] at q2; exact absurd q2 (by decide)), q2, q3⟩
          rw [this] at e; exact absurd e (by decide)
    · rw [Nat.testBit_lt_two_pow (Nat.lt_of_lt_of_le h16 (Nat.pow_le_pow_right (n := 2) (by decide) (by omega)))]
      rfl
theorem x_bar (o N : Nat) {n : Nat} {A : VA} {B : VB} {M : zMem} (ha : QA o A M) (hx : QX A.V B M) (hk : AOK A) (hb : BOK A.V n B) {i : Nat} (hi : i < B.Bc) : fX7_barredUnder o N (nI i) M = some (.inl (nI (bar A B i)), M) := by
  have hBc := hb.Bc
  have hv := hk.ver
  have lv := hb.bver i hi
  obtain ⟨K, k1, k2, k3⟩ := hx.cb
  have hand := bad_and hb hi k3
  have h16 := hb.blot i hi
  have hle : B.blot i &&& K ≤ B.blot i := Nat.and_le_left
  have eI : nI (B.blot i) &&& nI K = 0 ↔ badf B i B.L = false := by
    rw [q_and, ← hand]
    exact nI_eq (b := 0) (by omega) (by decide)
  have z : zin (nI i) 60 = true := z60 (by omega)
  unfold fX7_barredUnder fX7_barredUnder_B24 fX7_barredUnder_B50 bar
  simp only [z, if_true]
  rw [nI_clamp (by omega), hx.bver i hi, q_has N _ (by omega), q_zb, ha.held lv, hx.blot i hi, k2]
  cases g1 : held A (B.bver i)
  · rw [if_pos (by rfl)]
    cases g2 : badf B i B.L
    · rw [if_pos (eI.mpr g2)]; rfl
    · rw [if_neg (fun q => by rw [eI.mp q] at g2; exact absurd g2 (by decide))]; rfl
  · rw [if_neg (by decide)]
    cases g2 : badf B i B.L
    · rw [if_pos (eI.mpr g2)]; rfl
    · rw [if_neg (fun q => by rw [eI.mp q] at g2; exact absurd g2 (by decide))]; rfl
theorem m_bar_loop (N : Nat) (hN : 101 ≤ N) {n0 : Nat} {A : VA} {B : VB} {M : zMem} (hm : QM A B M) (hk : AOK A) (hb : BOK A.V n0 B) {i : Nat} (hi : i < B.Bc) : ∀ k n l, l + k = B.L → k < n → fX8_barredBy_B4 N n (nI i) (nI (badf B i l).toNat) (nI l) M = some (.inl (nI (bar A B i)), M) := by
  have hBc := hb.Bc
  have hL := hb.L
  have hv := hk.ver
  have lv := hb.bver i hi
  have h16 := hb.blot i hi
  intro k
  induction k with
  | zero =>
    intro n l h1 h2
    obtain ⟨n, rfl⟩ : ∃ q, n = q + 1 := ⟨n - 1, by omega⟩
    obtain rfl : l = B.L := by omega
    rw [fX8_barredBy_B4, hm.2.L, if_pos (nI_le (by omega) (by omega)), if_pos (z60 (by omega)), nI_clamp (by omega), hm.2.bver i hi, m_held N hN hm.1 hk (by omega), q_zb]
    unfold fX8_barredBy_B63 fX8_barredBy_B73 bar
    cases g1 : held A (B.bver i)
    · rw [if_pos (by rfl)]
      cases g2 : badf B i B.L
      · rw [if_neg (by decide)]; rfl
      · rw [if_pos (by rfl)]; rfl
    · rw [if_neg (by decide)]
      cases g2 : badf B i B.L
      · rw [if_neg (by decide)]; rfl
      · rw [if_pos (by rfl)]; rfl
  | succ k ih =>
    intro n l h1 h2
    obtain ⟨n, rfl⟩ : ∃ q, n = q + 1 := ⟨n - 1, by omega⟩
    have nx := ih n (l + 1) (by omega) (by omega)
    rw [fX8_barredBy_B4, hm.2.L, if_neg (nI_ge (by omega) (by omega)), if_pos (zin_nI (by omega) (by decide)), nI_clamp (by omega), hm.2.cond l (by omega)]
    rw [badf] at nx
    cases g : B.cond l
    · rw [if_neg (by decide)]
      unfold fX8_barredBy_B37
      rw [q_zv, nI_1]
      rw [g, Bool.false_and, Bool.or_false] at nx
      rw [← nI_0, q_or, Nat.or_zero]
      exact nx
    · rw [if_pos (by rfl), if_pos (z60 (by omega)), nI_clamp (by omega), hm.2.blot i hi, q_bit (by omega) (by omega)]
      unfold fX8_barredBy_B37
      rw [q_zv, nI_1, q_or]
      rw [g, Bool.true_and] at nx
      rw [show (badf B i l).toNat ||| ((B.blot i).testBit l).toNat = (badf B i l || (B.blot i).testBit l).toNat by cases badf B i l <;> cases (B.blot i).testBit l <;> rfl]
      exact nx
theorem m_bar (N : Nat) (hN : 101 ≤ N) {n0 : Nat} {A : VA} {B : VB} {M : zMem} (hm : QM A B M) (hk : AOK A) (hb : BOK A.V n0 B) {i : Nat} (hi : i < B.Bc) : fX8_barredBy N (nI i) M = some (.inl (nI (bar A B i)), M) := by
  have hL := hb.L
  exact m_bar_loop N hN hm hk hb hi B.L N 0 (by omega) (by omega)
theorem b_barred (N n : Nat) (hN : 101 ≤ N) {A : VA} {B : VB} {M : zMem} (h : JJ n A B M) (x : Int32) : Both n (fL_barred N x) (fX8_barred N x) M := by
  have hK : B.Bc ≤ 60 := h.bok.Bc
  have no : x < 0 ∨ nI B.Bc ≤ x → Both n (fL_barred N x) (fX8_barred N x) M := fun c => by
    refine Both.no h (r := 1) ?_ ?_ (by decide)
    · unfold fL_barred fX7_barred
      rw [x_Batch N h.rx.Bc c, q_zbr, q_zbxr, if_pos (by decide)]
    · unfold fX8_barred
      rw [m_Batch N h.rm.2.Bc (by omega) c, q_zb, if_pos rfl]
  rcases pk_ix x (n := B.Bc) (by omega) with c | c | ⟨b, hb, rfl⟩
  · exact no (Or.inl c)
  · exact no (Or.inr c)
  · refine Both.get h (v := nI (bar A B b)) ?_ ?_
    · unfold fL_barred fX7_barred
      rw [x_Batch' N h.rx.Bc (by omega) hb, q_zb, x_bar 1 N h.ra h.rx h.aok h.bok hb, q_zb, q_zbx, if_pos z1, cl0]
      rfl
    · unfold fX8_barred
      rw [m_Batch' N (M := zsL M 87 0 _) h.rm.2.Bc (by omega) hb, q_zb, if_neg (by decide), m_bar N hN h.rm.out.note h.aok h.bok hb, q_zb]
theorem b_barredAnew (N n : Nat) (hN : 600 ≤ N) (hn : n ≤ 512) {A : VA} {B : VB} {M : zMem} (h : JJ n A B M) (x : Int32) : Both n (fL_barredAnew N x) (fX8_barredAnew N x) M := by
  have hK : B.Bc ≤ 60 := h.bok.Bc
  have no : x < 0 ∨ nI B.Bc ≤ x → Both n (fL_barredAnew N x) (fX8_barredAnew N x) M := fun c => by
    refine Both.no h (r := 1) ?_ ?_ (by decide)
    · unfold fL_barredAnew fX7_barredAnew
      rw [x_Batch N h.rx.Bc c, q_zbr, q_zbxr, if_pos (by decide)]
    · unfold fX8_barredAnew fX8_barred
      rw [m_Batch N h.rm.2.Bc (by omega) c, q_zb, if_pos rfl, q_zb]
  rcases pk_ix x (n := B.Bc) (by omega) with c | c | ⟨b, hb, rfl⟩
  · exact no (Or.inl c)
  · exact no (Or.inr c)
  · obtain ⟨M', e1, e2, e3⟩ := c_again N hN hn h.rt
    have hm : QM A B M' := h.rm.cong (fun a h1 h2 => (e3 a (by omega)).1)
    have hx : QX A.V B M' := h.rx.to (e3.to (by omega))
    refine Both.go (A' := A) (B' := B) (M1 := M') (v := nI (bar A B b)) h.aok (h.bok.up (Nat.le_succ n)) ?_ (h.ra.to (e3.to (by omega))) hx ((h.rt.to (e3.to (by omega))).up (Nat.le_succ n)) ⟨zsI (zsL M' 87 0 (nI (bar A B b)).toInt64) 62 30 0, ?_, by rw [zsI_s, pk_us], zrf.refl.sI (by omega), hm.out.note⟩
    · unfold fL_barredAnew fX7_barredAnew
      rw [x_Batch' N h.rx.Bc (by omega) hb, q_zb, e1, q_zb, x_bar 15 N e2 hx h.aok h.bok hb, q_zb, q_zbx, if_pos z1, cl0]
      rfl
    · unfold fX8_barredAnew fX8_barred
      rw [m_Batch' N (M := zsL M' 87 0 _) hm.2.Bc (by omega) hb, q_zb, if_neg (by decide), m_bar N (by omega) hm.out.note h.aok h.bok hb, q_zb, q_zb]
def ons (A : VA) (B : VB) : Nat → Nat → Nat
  | 0, _ => 0
  | k + 1, i => (if bar A B i = 0 then B.left i else 0) + ons A B k (i + 1)
theorem x_ons_loop (N : Nat) {n0 : Nat} {A : VA} {B : VB} {M : zMem} (ha : QA 1 A M) (hx : QX A.V B M) (hk : AOK A) (hb : BOK A.V n0 B) : ∀ k n i s, i + k = B.Bc → k < n → fX7_onSale_B4 N n (nI s) (nI i) M = some (.inl (nI (s + ons A B k i)), M) := by
  have hBc := hb.Bc
  intro k
  induction k with
  | zero =>
    intro n i s h1 h2
    obtain ⟨n, rfl⟩ : ∃ q, n = q + 1 := ⟨n - 1, by omega⟩
    rw [fX7_onSale_B4, hx.Bc, if_pos (nI_le (by omega) (by omega))]
    rfl
  | succ k ih =>
    intro n i s h1 h2
    obtain ⟨n, rfl⟩ : ∃ q, n = q + 1 := ⟨n - 1, by omega⟩
    have h4 := bar_lt (A := A) (B := B) (i := i)
    rw [fX7_onSale_B4, hx.Bc, if_neg (nI_ge (by omega) (by omega)), x_bar 1 N ha hx hk hb (by omega), q_zb, ons]
    unfold fX7_onSale_B39
    by_cases g : bar A B i = 0
    · rw [g, if_pos (by rfl), if_pos (z60 (by omega)), nI_clamp (by omega), hx.left i (by omega), nI_add, q_zv, nI_1, ih n (i + 1) _ (by omega) (by omega), if_pos rfl, Nat.add_assoc]
    · rw [if_neg (nI_ne0 (by omega) (by omega)), if_neg g, nI_1, ih n (i + 1) _ (by omega) (by omega), Nat.zero_add]
theorem m_ons_loop (N : Nat) (hN : 101 ≤ N) {n0 : Nat} {A : VA} {B : VB} {M : zMem} (hm : QM A B M) (hk : AOK A) (hb : BOK A.V n0 B) : ∀ k n i s, i + k = B.Bc → k < n → fX8_onSale_B9 N n (nI s) (nI i) M = some (.inl (nI (s + ons A B k i)), M) := by
  have hBc := hb.Bc
  intro k
  induction k with
  | zero =>
    intro n i s h1 h2
    obtain ⟨n, rfl⟩ : ∃ q, n = q + 1 := ⟨n - 1, by omega⟩
    rw [fX8_onSale_B9, hm.2.Bc, if_pos (nI_le (by omega) (by omega))]
    rfl
  | succ k ih =>
    intro n i s h1 h2
    obtain ⟨n, rfl⟩ : ∃ q, n = q + 1 := ⟨n - 1, by omega⟩
    have h4 := bar_lt (A := A) (B := B) (i := i)
    rw [fX8_onSale_B9, hm.2.Bc, if_neg (nI_ge (by omega) (by omega)), m_bar N hN hm hk hb (by omega), q_zb, ons]
    unfold fX8_onSale_B36
    by_cases g : bar A B i = 0
    · rw [g, if_pos (by rfl), if_pos (z60 (by omega)), nI_clamp (by omega), hm.2.left i (by omega), nI_add, q_zv, nI_1, ih n (i + 1) _ (by omega) (by omega), if_pos rfl, Nat.add_assoc]
    · rw [if_neg (nI_ne0 (by omega) (by omega)), if_neg g, ← nI_0, nI_add, q_zv, nI_1, ih n (i + 1) _ (by omega) (by omega), Nat.add_zero, Nat.zero_add]
theorem b_onSale (N n : Nat) (hN : 101 ≤ N) {A : VA} {B : VB} {M : zMem} (h : JJ n A B M) : Both0 n (fX7_onSale N) (fX8_onSale N) M := by
  have hBc := h.bok.Bc
  refine ⟨A, B, M, zsI M 62 30 0, nI (0 + ons A B B.Bc 0), ?_, ?_, h.note⟩
  · exact x_ons_loop N h.ra h.rx h.aok h.bok B.Bc N 0 0 (by omega) (by omega)
  · unfold fX8_onSale
    rw [q_zl]
    exact m_ons_loop N hN h.rm.note h.aok h.bok B.Bc N 0 0 (by omega) (by omega)
