/-! pure: the class alone, out of the parts of the whole -/
theorem BOK.up {V n n' : Nat} {B : VB} (h : BOK V n B) (hn : n ≤ n') : BOK V n' B :=
  BOK.mk h.L h.T h.Bc (Nat.le_trans h.R hn) h.rcp h.cond h.cnt h.st h.sl h.sl0 h.bver h.blot h.left h.out0
theorem z1 : zin (0 : Int32) 1 = true := by decide
theorem cl0 : (0 : Int32).toNatClampNeg = 0 := by decide
theorem x_bak (N : Nat) {b : Nat} (hb : b < 5) (M : zMem) : fX7_checkBakery N (nI b) M = some (.inl 0, M) := by
  unfold fX7_checkBakery
  rw [if_neg (nI_pos (by omega)), if_pos (show nI b < 5 from nI_lt (b := 5) hb (by decide))]
theorem x_bakn (N : Nat) {x : Int32} (h : x < 0 ∨ nI 5 ≤ x) (M : zMem) : fX7_checkBakery N x M = some (.inr 1, M) := by
  unfold fX7_checkBakery
  by_cases c : x < 0
  · rw [if_pos c]
  · rw [if_neg c, if_neg]
    intro q
    rcases h with h | h
    · exact c h
    · exact absurd (Int32.lt_iff_toInt_lt.mp q) (by have := Int32.le_iff_toInt_le.mp h; have e : (nI 5).toInt = (5 : Int32).toInt := rfl; omega)
theorem x_chk {x : Int32} {K : Nat} {o : zRES} {M : zMem} (h : x < 0 ∨ nI K ≤ x) (ho : o = if x < 0 then some (.inr 1, M) else if x < nI K then some (.inl 0, M) else some (.inr 1, M)) : o = some (.inr 1, M) := by
  rw [ho]
  by_cases c : x < 0
  · rw [if_pos c]
  · rw [if_neg c, if_neg]
    intro q
    rcases h with h | h
    · exact c h
    · have e1 := Int32.lt_iff_toInt_lt.mp q
      have e2 := Int32.le_iff_toInt_le.mp h
      omega
theorem x_chk' {j K : Nat} {o : zRES} {M : zMem} (hK : K < 2 ^ 30) (h : j < K) (ho : o = if nI j < 0 then some (.inr 1, M) else if nI j < nI K then some (.inl 0, M) else some (.inr 1, M)) : o = some (.inl 0, M) := by
  rw [ho, if_neg (nI_pos (by omega)), if_pos (nI_lt h (by omega))]
theorem x_Version (N : Nat) {K : Nat} {M : zMem} (e : M.1 1 7 = nI K) {x : Int32} (h : x < 0 ∨ nI K ≤ x) : fX7_checkVersion N x M = some (.inr 1, M) := x_chk h (by unfold fX7_checkVersion; rw [e])
theorem x_Version' (N : Nat) {K : Nat} {M : zMem} (e : M.1 1 7 = nI K) (hK : K < 2 ^ 30) {j : Nat} (h : j < K) : fX7_checkVersion N (nI j) M = some (.inl 0, M) := x_chk' hK h (by unfold fX7_checkVersion; rw [e])
theorem x_Batch (N : Nat) {K : Nat} {M : zMem} (e : M.1 53 0 = nI K) {x : Int32} (h : x < 0 ∨ nI K ≤ x) : fX7_checkBatch N x M = some (.inr 1, M) := x_chk h (by unfold fX7_checkBatch; rw [e])
theorem x_Batch' (N : Nat) {K : Nat} {M : zMem} (e : M.1 53 0 = nI K) (hK : K < 2 ^ 30) {j : Nat} (h : j < K) : fX7_checkBatch N (nI j) M = some (.inl 0, M) := x_chk' hK h (by unfold fX7_checkBatch; rw [e])
theorem x_Recall (N : Nat) {K : Nat} {M : zMem} (e : M.1 58 0 = nI K) {x : Int32} (h : x < 0 ∨ nI K ≤ x) : fX7_checkRecall N x M = some (.inr 1, M) := x_chk h (by unfold fX7_checkRecall; rw [e])
theorem x_Recall' (N : Nat) {K : Nat} {M : zMem} (e : M.1 58 0 = nI K) (hK : K < 2 ^ 30) {j : Nat} (h : j < K) : fX7_checkRecall N (nI j) M = some (.inl 0, M) := x_chk' hK h (by unfold fX7_checkRecall; rw [e])
/-! pure: the reference counts the holders -/
def sb (s : Nat) : Nat → Nat → Nat
  | 0, _ => 0
  | k + 1, i => (s.testBit i).toNat + sb s k (i + 1)
theorem sb_5 (s : Nat) : sb s 5 0 = p5 s := by
  show (s.testBit 0).toNat + ((s.testBit 1).toNat + ((s.testBit 2).toNat + ((s.testBit 3).toNat + ((s.testBit 4).toNat + 0)))) = (s.testBit 0).toNat + (s.testBit 1).toNat + (s.testBit 2).toNat + (s.testBit 3).toNat + (s.testBit 4).toNat
  omega
theorem sb_le (s : Nat) : ∀ k i, sb s k i ≤ k := by
  intro k
  induction k with
  | zero => intro i; exact Nat.le_refl _
  | succ k ih => intro i; have := ih (i + 1); have := Bool.toNat_le (s.testBit i); simp only [sb]; omega
/-! pure: holders, isHeld, wasHeld -/
theorem bool_nI (b : Bool) : zbool (nI b.toNat) = true := by cases b <;> decide
theorem x_tog (o N : Nat) {A : VA} {M : zMem} (hA : QA o A M) (hk : AOK A) {a b : Nat} (ha : a < 5) (hb : b < 5) : fX0_areTogether o N (nI a) (nI b) M = some (.inl (nI (decide (A.grp.testBit a = A.grp.testBit b)).toNat), M) := by
  have hg := hk.grp
  unfold fX0_areTogether
  rw [hA.1.grp, q_has N _ (by omega), q_zb, hA.1.grp, q_has N _ (by omega), q_zb, q_lofI (by omega) (by omega), q_lofI (by omega) (by omega)]
  cases A.grp.testBit a <;> cases A.grp.testBit b <;> rfl
/-! pure: numbers again; checks; current -/
theorem q_20 (a i : Nat) : ((20 : Int32) * nI a) + nI i = nI (20 * a + i) := by
  rw [show (20 : Int32) = nI 20 from rfl, pk_mul, nI_add]
theorem q_200 (a i : Nat) : ((200 : Int32) * nI a) + nI i = nI (200 * a + i) := by
  rw [show (200 : Int32) = nI 200 from rfl, pk_mul, nI_add]
theorem q_1051 (a i : Nat) : ((1051 : Int32) * nI a) + nI i = nI (1051 * a + i) := by
  rw [show (1051 : Int32) = nI 1051 from rfl, pk_mul, nI_add]
theorem q_m1 {v : Nat} (h : v < 2 ^ 30) : ¬ nI v = -1 := fun q => by
  have e : (nI v).toInt = (-1 : Int32).toInt := by rw [q]
  rw [nI_toInt (by omega)] at e
  have e2 : (-1 : Int32).toInt = -1 := by decide
  omega
theorem q_minus (x : Int32) : x + (-1) = x - 1 := (Int32.sub_eq_add_neg x 1).symm
theorem q_rng (x : Int32) (lo hi : Nat) (h1 : lo < 2 ^ 30) (h2 : hi < 2 ^ 30) : x < nI lo ∨ nI hi < x ∨ ∃ j : Nat, lo ≤ j ∧ j ≤ hi ∧ x = nI j := by
  by_cases c1 : x < nI lo
  · exact Or.inl c1
  · by_cases c2 : nI hi < x
    · exact Or.inr (Or.inl c2)
    · refine Or.inr (Or.inr ?_)
      have e1 : ¬ x.toInt < lo := fun q => c1 (Int32.lt_iff_toInt_lt.mpr (by rw [nI_toInt (by omega)]; exact q))
      have e2 : ¬ (hi : Int) < x.toInt := fun q => c2 (Int32.lt_iff_toInt_lt.mpr (by rw [nI_toInt (by omega)]; exact q))
      refine ⟨x.toInt.toNat, by omega, by omega, Int32.toInt_inj.mp ?_⟩
      rw [nI_toInt (by omega)]
      omega
theorem q_nlt_of {x y z : Int32} (h : z < x) (e : x ≤ y) : ¬ y ≤ z := fun q => by
  have := Int32.lt_iff_toInt_lt.mp h
  have := Int32.le_iff_toInt_le.mp e
  have := Int32.le_iff_toInt_le.mp q
  omega
theorem q_gt {x y : Int32} (h : y < x) : ¬ x ≤ y := fun q => by
  have := Int32.lt_iff_toInt_lt.mp h
  have := Int32.le_iff_toInt_le.mp q
  omega
theorem q_nle {x y : Int32} (h : ¬ x ≤ y) : y < x := Int32.lt_iff_toInt_lt.mpr (by have : ¬ x.toInt ≤ y.toInt := fun q => h (Int32.le_iff_toInt_le.mpr q); omega)
theorem zsI_twice {M : zMem} {k j : Nat} {x y : Int32} : zsI (zsI M k j x) k j y = zsI M k j y := by
  unfold zsI
  refine Prod.ext (funext fun a => ?_) rfl
  show (if a = k then upd (if a = k then upd (M.1 a) j x else M.1 a) j y else if a = k then upd (M.1 a) j x else M.1 a) = if a = k then upd (M.1 a) j y else M.1 a
  by_cases c : a = k
  · rw [if_pos c, if_pos c, if_pos c]
    funext i
    by_cases d : i = j
    · rw [d, pk_us, pk_us]
    · rw [pk_un d, pk_un d, pk_un d]
  · rw [if_neg c, if_neg c, if_neg c]
theorem x_rec (N : Nat) {q : Nat} (hq : q < 6) (M : zMem) : fX7_checkRecipe N (nI q) M = some (.inl 0, M) := x_chk' (K := 6) (by decide) hq rfl
theorem x_recn (N : Nat) {x : Int32} (h : x < 0 ∨ nI 6 ≤ x) (M : zMem) : fX7_checkRecipe N x M = some (.inr 1, M) := x_chk (K := 6) h rfl
theorem QA.held {o : Nat} {A : VA} {M : zMem} (r : QA o A M) {v : Nat} (hv : v < A.V) : lbit (M.2 o 10) v = held A v := r.2.hd v hv
/-- the last of the first k versions in b's log that is of recipe q and held: its number and one; 0 for none -/
def cur (A : VA) (rc : Nat → Nat) (b q : Nat) : Nat → Nat
  | 0 => 0
  | k + 1 => if rc (A.log b k) = q ∧ held A (A.log b k) = true then A.log b k + 1 else cur A rc b q k
theorem cur_le {A : VA} (hk : AOK A) {rc : Nat → Nat} {b q : Nat} (hb : b < 5) : ∀ k, k ≤ A.len b → cur A rc b q k ≤ A.V := by
  intro k
  induction k with
  | zero => intro _; exact Nat.zero_le _
  | succ k ih =>
    intro h
    have := hk.logv b hb k (by omega)
    unfold cur
    split
    · omega
    · exact ih (by omega)
theorem x_cur_loop (N : Nat) {A : VA} {B : VB} {M : zMem} (ha : QA 1 A M) (hx : QX A.V B M) (hk : AOK A) (hr : ∀ v, v < A.V → B.rcp v < 6) {b q : Nat} (hb : b < 5) (hq : q < 6) : ∀ k n, k ≤ A.len b → k < n → fX7_findCurrent_B12 N n (nI b) (nI q) (nI k - 1) M = some (.inl (nI (cur A B.rcp b q k) - 1), M) := by
  have hl := hk.len b hb
  have hv := hk.ver
  intro k
  induction k with
  | zero =>
    intro n h1 h2
    obtain ⟨n, rfl⟩ : ∃ q, n = q + 1 := ⟨n - 1, by omega⟩
    rw [fX7_findCurrent_B12, if_pos (by decide)]
    rfl
  | succ k ih =>
    intro n h1 h2
    obtain ⟨n, rfl⟩ : ∃ q, n = q + 1 := ⟨n - 1, by omega⟩
    have lv := hk.logv b hb k (by omega)
    have r6 := hr _ lv
    rw [nI_pred, fX7_findCurrent_B12, if_neg (nI_pos (by omega)), if_pos (z5 hb), if_pos (z20 (by omega)), nI_clamp (by omega), nI_clamp (by omega), show M.1 (6 + 1 + b) k = nI (A.log b k) from ha.1.log b hb k (by omega), q_zv, if_pos (z60 (by omega)), nI_clamp (by omega), hx.rcp _ lv]
    have go : ¬ (B.rcp (A.log b k) = q ∧ held A (A.log b k) = true) → fX7_findCurrent_B61 N (fX7_findCurrent_B12 N n) (nI b) (nI q) (nI k) M = some (.inl (nI (cur A B.rcp b q (k + 1)) - 1), M) := fun g => by
      unfold fX7_findCurrent_B61 cur
      rw [if_neg g, q_minus]
      exact ih n (by omega) (by omega)
    by_cases g1 : B.rcp (A.log b k) = q
    · rw [if_pos (by rw [g1]), q_has N _ (by omega), q_zb, ha.held lv]
      cases g2 : held A (A.log b k)
      · rw [if_pos (by rfl)]
        exact go (fun g => by rw [g2] at g; exact absurd g.2 (by decide))
      · rw [if_neg (by decide)]
        unfold cur
        rw [if_pos ⟨g1, g2⟩, nI_pred]
    · rw [if_neg (fun e => g1 ((nI_eq (by omega) (by omega)).mp e))]
      exact go (fun g => g1 g.1)
theorem x_cur (N : Nat) (hN : 101 ≤ N) {A : VA} {B : VB} {M : zMem} (ha : QA 1 A M) (hx : QX A.V B M) (hk : AOK A) (hr : ∀ v, v < A.V → B.rcp v < 6) {b q : Nat} (hb : b < 5) (hq : q < 6) : fX7_findCurrent N (nI b) (nI q) M = some (.inl (nI (cur A B.rcp b q (A.len b)) - 1), M) := by
  have hl := hk.len b hb
  unfold fX7_findCurrent
  rw [if_pos (z5 hb), nI_clamp (by omega), show M.1 12 b = nI (A.len b) from ha.1.len b hb, q_zv]
  exact x_cur_loop N ha hx hk hr hb hq _ N (Nat.le_refl _) (by omega)
theorem BOK.r6 {V n : Nat} {B : VB} (h : BOK V n B) : ∀ v, v < V → B.rcp v < 6 := fun v hv => (h.rcp v hv).1
