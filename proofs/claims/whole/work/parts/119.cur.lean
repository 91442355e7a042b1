/-! pure: numbers again; checks; current -/
theorem q_20 (a i : Nat) : ((20 : Int32) * nI a) + nI i = nI (20 * a + i) := by
  rw [show (20 : Int32) = nI 20 from rfl, pk_mul, nI_add]
theorem q_200 (a i : Nat) : ((200 : Int32) * nI a) + nI i = nI (200 * a + i) := by
  rw [show (200 : Int32) = nI 200 from rfl, pk_mul, nI_add]
theorem q_1051 (a i : Nat) : ((1051 : Int32) * nI a) + nI i = nI (1051 * a + i) := by
  rw [show (1051 : Int32) = nI 1051 from rfl, pk_mul, nI_add]
theorem q_m1 {v : Nat} (h : v < 2 ^ 30) : ¬ nI v = -1 := fun q => by
  have e : (nI v).toInt = (-1 : Int32).toInt := by rw [q]
  rw [nI_toInt (by omega)] at e
  have e2 : (-1 : Int32).toInt = -1 := by decide
  omega
theorem q_minus (x : Int32) : x + (-1) = x - 1 := (Int32.sub_eq_add_neg x 1).symm
theorem q_rng (x : Int32) (lo hi : Nat) (h1 : lo < 2 ^ 30) (h2 : hi < 2 ^ 30) : x < nI lo ∨ nI hi < x ∨ ∃ j : Nat, lo ≤ j ∧ j ≤ hi ∧ x = nI j := by
  by_cases c1 : x < nI lo
  · exact Or.inl c1
  · by_cases c2 : nI hi < x
    · exact Or.inr (Or.inl c2)
    · refine Or.inr (Or.inr ?_)
      have e1 : ¬ x.toInt < lo := fun q => c1 (Int32.lt_iff_toInt_lt.mpr (by rw [nI_toInt (by omega)]; exact q))
      have e2 : ¬ (hi : Int) < x.toInt := fun q => c2 (Int32.lt_iff_toInt_lt.mpr (by rw [nI_toInt (by omega)]; exact q))
      refine ⟨x.toInt.toNat, by omega, by omega, Int32.toInt_inj.mp ?_⟩
      rw [nI_toInt (by omega)]
      omega
theorem q_nlt_of {x y z : Int32} (h : z < x) (e : x ≤ y) : ¬ y ≤ z := fun q => by
  have := Int32.lt_iff_toInt_lt.mp h
  have := Int32.le_iff_toInt_le.mp e
  have := Int32.le_iff_toInt_le.mp q
  omega
theorem q_gt {x y : Int32} (h : y < x) : ¬ x ≤ y := fun q => by
  have := Int32.lt_iff_toInt_lt.mp h
  have := Int32.le_iff_toInt_le.mp q
  omega
theorem q_nle {x y : Int32} (h : ¬ x ≤ y) : y < x := Int32.lt_iff_toInt_lt.mpr (by have : ¬ x.toInt ≤ y.toInt := fun q => h (Int32.le_iff_toInt_le.mpr q); omega)
theorem zsI_twice {M : zMem} {k j : Nat} {x y : Int32} : zsI (zsI M k j x) k j y = zsI M k j y := by
  unfold zsI
  refine Prod.ext (funext fun a => ?_) rfl
  show (if a = k then upd (if a = k then upd (M.1 a) j x else M.1 a) j y else if a = k then upd (M.1 a) j x else M.1 a) = if a = k then upd (M.1 a) j y else M.1 a
  by_cases c : a = k
  · rw [if_pos c, if_pos c, if_pos c]
    funext i
    by_cases d : i = j
    · rw [d, pk_us, pk_us]
    · rw [pk_un d, pk_un d, pk_un d]
  · rw [if_neg c, if_neg c, if_neg c]
theorem x_rec (N : Nat) {q : Nat} (hq : q < 6) (M : zMem) : fX7_checkRecipe N (nI q) M = some (.inl 0, M) := x_chk' (K := 6) (by decide) hq rfl
theorem x_recn (N : Nat) {x : Int32} (h : x < 0 ∨ nI 6 ≤ x) (M : zMem) : fX7_checkRecipe N x M = some (.inr 1, M) := x_chk (K := 6) h rfl
theorem m_rec (N : Nat) {q : Nat} (hq : q < 6) (M : zMem) : fX8_in N (nI q) 0 5 M = some (.inl 1, M) := by
  have := m_in N (K := 6) (by decide) hq M
  rw [show (nI 6 - 1 : Int32) = 5 by decide] at this
  exact this
theorem m_recn (N : Nat) {x : Int32} (h : x < 0 ∨ nI 6 ≤ x) (M : zMem) : fX8_in N x 0 5 M = some (.inl 0, M) := by
  have := m_inn N (K := 6) (by decide) h M
  rw [show (nI 6 - 1 : Int32) = 5 by decide] at this
  exact this
theorem m_lo (N : Nat) {x y z : Int32} (h : x < y) (M : zMem) : fX8_in N x y z M = some (.inl 0, M) := by
  unfold fX8_in; rw [if_pos h]
theorem m_hi (N : Nat) {x y z : Int32} (h : z < x) (M : zMem) : fX8_in N x y z M = some (.inl 0, M) := by
  unfold fX8_in
  by_cases c : x < y
  · rw [if_pos c]
  · rw [if_neg c, if_pos h]
theorem m_rin (N : Nat) {x y z : Int32} (h : ¬ x < y) (h2 : ¬ z < x) (M : zMem) : fX8_in N x y z M = some (.inl 1, M) := by
  unfold fX8_in; rw [if_neg h, if_neg h2]
theorem QA.held {o : Nat} {A : VA} {M : zMem} (r : QA o A M) {v : Nat} (hv : v < A.V) : lbit (M.2 o 10) v = held A v := r.2.hd v hv
/-- the last of the first k versions in b's log that is of recipe q and held: its number and one; 0 for none -/
def cur (A : VA) (rc : Nat → Nat) (b q : Nat) : Nat → Nat
  | 0 => 0
  | k + 1 => if rc (A.log b k) = q ∧ held A (A.log b k) = true then A.log b k + 1 else cur A rc b q k
theorem cur_le {A : VA} (hk : AOK A) {rc : Nat → Nat} {b q : Nat} (hb : b < 5) : ∀ k, k ≤ A.len b → cur A rc b q k ≤ A.V := by
  intro k
  induction k with
  | zero => intro _; exact Nat.zero_le _
  | succ k ih =>
    intro h
    have := hk.logv b hb k (by omega)
    unfold cur
    split
    · omega
    · exact ih (by omega)
theorem x_cur_loop (N : Nat) {A : VA} {B : VB} {M : zMem} (ha : QA 1 A M) (hx : QX A.V B M) (hk : AOK A) (hr : ∀ v, v < A.V → B.rcp v < 6) {b q : Nat} (hb : b < 5) (hq : q < 6) : ∀ k n, k ≤ A.len b → k < n → fX7_findCurrent_B12 N n (nI b) (nI q) (nI k - 1) M = some (.inl (nI (cur A B.rcp b q k) - 1), M) := by
  have hl := hk.len b hb
  have hv := hk.ver
  intro k
  induction k with
  | zero =>
    intro n h1 h2
    obtain ⟨n, rfl⟩ : ∃ q, n = q + 1 := ⟨n - 1, by omega⟩
    rw [fX7_findCurrent_B12, if_pos (by decide)]
    rfl
  | succ k ih =>
    intro n h1 h2
    obtain ⟨n, rfl⟩ : ∃ q, n = q + 1 := ⟨n - 1, by omega⟩
    have lv := hk.logv b hb k (by omega)
    have r6 := hr _ lv
    rw [nI_pred, fX7_findCurrent_B12, if_neg (nI_pos (by omega)), if_pos (z5 hb), if_pos (z20 (by omega)), nI_clamp (by omega), nI_clamp (by omega), show M.1 (6 + 1 + b) k = nI (A.log b k) from ha.1.log b hb k (by omega), q_zv, if_pos (z60 (by omega)), nI_clamp (by omega), hx.rcp _ lv]
    have go : ¬ (B.rcp (A.log b k) = q ∧ held A (A.log b k) = true) → fX7_findCurrent_B61 N (fX7_findCurrent_B12 N n) (nI b) (nI q) (nI k) M = some (.inl (nI (cur A B.rcp b q (k + 1)) - 1), M) := fun g => by
      unfold fX7_findCurrent_B61 cur
      rw [if_neg g, q_minus]
      exact ih n (by omega) (by omega)
    by_cases g1 : B.rcp (A.log b k) = q
    · rw [if_pos (by rw [g1]), q_has N _ (by omega), q_zb, ha.held lv]
      cases g2 : held A (A.log b k)
      · rw [if_pos (by rfl)]
        exact go (fun g => by rw [g2] at g; exact absurd g.2 (by decide))
      · rw [if_neg (by decide)]
        unfold cur
        rw [if_pos ⟨g1, g2⟩, nI_pred]
    · rw [if_neg (fun e => g1 ((nI_eq (by omega) (by omega)).mp e))]
      exact go (fun g => g1 g.1)
theorem x_cur (N : Nat) (hN : 101 ≤ N) {A : VA} {B : VB} {M : zMem} (ha : QA 1 A M) (hx : QX A.V B M) (hk : AOK A) (hr : ∀ v, v < A.V → B.rcp v < 6) {b q : Nat} (hb : b < 5) (hq : q < 6) : fX7_findCurrent N (nI b) (nI q) M = some (.inl (nI (cur A B.rcp b q (A.len b)) - 1), M) := by
  have hl := hk.len b hb
  unfold fX7_findCurrent
  rw [if_pos (z5 hb), nI_clamp (by omega), show M.1 12 b = nI (A.len b) from ha.1.len b hb, q_zv]
  exact x_cur_loop N ha hx hk hr hb hq _ N (Nat.le_refl _) (by omega)
theorem m_cur_loop (N : Nat) (hN : 101 ≤ N) {A : VA} {B : VB} {M : zMem} (hm : QM A B M) (hk : AOK A) (hr : ∀ v, v < A.V → B.rcp v < 6) {b q : Nat} (hb : b < 5) (hq : q < 6) : ∀ k n i, i + k = A.len b → k < n → fX8_currentOf_B5 N n (nI b) (nI q) (nI (cur A B.rcp b q i) - 1) (nI i) M = some (.inl (nI (cur A B.rcp b q (A.len b)) - 1), M) := by
  have hl := hk.len b hb
  have hv := hk.ver
  intro k
  induction k with
  | zero =>
    intro n i h1 h2
    obtain ⟨n, rfl⟩ : ∃ q, n = q + 1 := ⟨n - 1, by omega⟩
    rw [fX8_currentOf_B5, if_pos (z5 hb), nI_clamp (by omega), hm.1.len b hb, if_pos (nI_le (by omega) (by omega)), show i = A.len b by omega]
  | succ k ih =>
    intro n i h1 h2
    obtain ⟨n, rfl⟩ : ∃ q, n = q + 1 := ⟨n - 1, by omega⟩
    have lv := hk.logv b hb i (by omega)
    have r6 := hr _ lv
    have z : zin (nI (20 * b + i)) 100 = true := zin_nI (by omega) (by decide)
    have nx := ih n (i + 1) (by omega) (by omega)
    rw [fX8_currentOf_B5, if_pos (z5 hb), nI_clamp (by omega), hm.1.len b hb, if_neg (nI_ge (by omega) (by omega)), q_20, if_pos z, nI_clamp (by omega), hm.1.log b hb i (by omega), q_zv, if_pos (z60 (by omega)), nI_clamp (by omega), hm.2.rcp _ lv]
    have go : ¬ (B.rcp (A.log b i) = q ∧ held A (A.log b i) = true) → fX8_currentOf_B55 N (fX8_currentOf_B5 N n) (nI b) (nI q) (nI (cur A B.rcp b q i) - 1) (nI i) M = some (.inl (nI (cur A B.rcp b q (A.len b)) - 1), M) := fun g => by
      unfold fX8_currentOf_B55 fX8_currentOf_B56
      rw [cur, if_neg g] at nx
      rw [nI_1]
      exact nx
    by_cases g1 : B.rcp (A.log b i) = q
    · rw [if_pos (by rw [g1]), m_held N hN hm.1 hk (by omega), q_zb]
      cases g2 : held A (A.log b i)
      · rw [if_pos (by rfl)]
        exact go (fun g => by rw [g2] at g; exact absurd g.2 (by decide))
      · rw [if_neg (by decide)]
        unfold fX8_currentOf_B56
        rw [cur, if_pos ⟨g1, g2⟩, nI_pred] at nx
        rw [nI_1]
        exact nx
    · rw [if_neg (fun e => g1 ((nI_eq (by omega) (by omega)).mp e))]
      exact go (fun g => g1 g.1)
theorem m_cur (N : Nat) (hN : 101 ≤ N) {A : VA} {B : VB} {M : zMem} (hm : QM A B M) (hk : AOK A) (hr : ∀ v, v < A.V → B.rcp v < 6) {b q : Nat} (hb : b < 5) (hq : q < 6) : fX8_currentOf N (nI b) (nI q) M = some (.inl (nI (cur A B.rcp b q (A.len b)) - 1), M) := by
  have hl := hk.len b hb
  unfold fX8_currentOf
  have := m_cur_loop N hN hm hk hr hb hq (A.len b) N 0 (by omega) (by omega)
  rw [nI_0] at this
  exact this
theorem BOK.r6 {V n : Nat} {B : VB} (h : BOK V n B) : ∀ v, v < V → B.rcp v < 6 := fun v hv => (h.rcp v hv).1
theorem b_current (N n : Nat) (hN : 101 ≤ N) {A : VA} {B : VB} {M : zMem} (h : JJ n A B M) (x y : Int32) : Both n (fL_current N x y) (fX8_current N x y) M := by
  have no1 : x < 0 ∨ nI 5 ≤ x → Both n (fL_current N x y) (fX8_current N x y) M := fun c => by
    refine Both.no h (r := 1) ?_ ?_ (by decide)
    · unfold fL_current fX7_current
      rw [x_bakn N c, q_zbr, q_zbxr, if_pos (by decide)]
    · unfold fX8_current fX8_current_B21 fX8_current_B22
      rw [m_bakn N c, q_zb, if_pos rfl, q_zl, zsI_s, pk_us, if_neg (by decide)]
  rcases pk_ix x (n := 5) (by decide) with c | c | ⟨a, ha, rfl⟩
  · exact no1 (Or.inl c)
  · exact no1 (Or.inr c)
  have no2 : y < 0 ∨ nI 6 ≤ y → Both n (fL_current N (nI a) y) (fX8_current N (nI a) y) M := fun c => by
    refine Both.no h (r := 1) ?_ ?_ (by decide)
    · unfold fL_current fX7_current
      rw [x_bak N ha, q_zb, x_recn N c, q_zbr, q_zbxr, if_pos (by decide)]
    · unfold fX8_current fX8_current_B21 fX8_current_B22
      rw [m_bak N ha, q_zb, if_neg (by decide), m_recn N c, q_zb, if_pos rfl, q_zl, zsI_s, pk_us, if_neg (by decide)]
  rcases pk_ix y (n := 6) (by decide) with c | c | ⟨b, hb, rfl⟩
  · exact no2 (Or.inl c)
  · exact no2 (Or.inr c)
  · refine Both.get h (v := nI (cur A B.rcp a b (A.len a)) - 1) ?_ ?_
    · unfold fL_current fX7_current
      rw [x_bak N ha, q_zb, x_rec N hb, q_zb, x_cur N hN h.ra h.rx h.aok h.bok.r6 ha hb, q_zb, q_zbx, if_pos z1, cl0]
      rfl
    · unfold fX8_current fX8_current_B22
      rw [m_bak N ha, q_zb, if_neg (by decide), m_rec N hb, q_zb, if_neg (by decide), q_zl, zsI_s, pk_us, if_pos rfl, m_cur N hN h.rm.out.note h.aok h.bok.r6 ha hb, q_zb]
