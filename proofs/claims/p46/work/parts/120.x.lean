/-! pure: the class alone, out of the parts of the whole -/
/-! pure: calls that change something; slots -/
def zrf (M M' : zMem) : Prop := (∀ a, a < 62 → M'.1 a = M.1 a) ∧ M'.2 = M.2
theorem zrf.refl {M : zMem} : zrf M M := ⟨fun _ _ => rfl, rfl⟩
theorem zrf.trans {M M1 M2 : zMem} (h : zrf M M1) (g : zrf M1 M2) : zrf M M2 := ⟨fun a q => (g.1 a q).trans (h.1 a q), g.2.trans h.2⟩
theorem zrf.sI {M M1 : zMem} (h : zrf M M1) {k j : Nat} {x : Int32} (hk : 62 ≤ k) : zrf M (zsI M1 k j x) := ⟨fun a q => by rw [zsI_n (by omega)]; exact h.1 a q, h.2⟩
theorem q_r51 {h : Nat} (hh : h < 2 ^ 31) : nI h - nI h / 51 * 51 = nI (h % 51) := pk_rem (d := 51) hh (by decide) (by decide)
theorem x_slot (N : Nat) {V : Nat} {B : VB} {M : zMem} (hx : QX V B M) {b h : Nat} (hb : b < 5) (h1 : B.T ≤ h) (h2 : h ≤ B.T + 50) (hT : B.T ≤ 1000) : fX4_slotAt N (nI b) (nI h) M = some (.inl (nI (B.sl b h) - 1), M) := by
  unfold fX4_slotAt
  rw [if_pos (z5 hb), q_r51 (by omega), if_pos (zin_nI (by omega) (by decide)), nI_clamp (by omega), nI_clamp (by omega), hx.sl b hb h h1 h2]
theorem x_set (N : Nat) {M : zMem} {b h : Nat} (hb : b < 5) (hh : h < 2 ^ 31) {y : Int32} : fX4_setSlot N (nI b) (nI h) y M = some (.inl 0, zsI M (46 + 1 + b) (h % 51) y) := by
  unfold fX4_setSlot
  rw [if_pos (z5 hb), q_r51 hh, if_pos (zin_nI (by omega) (by decide)), nI_clamp (by omega), nI_clamp (by omega), q_zl]
theorem x_hourn (N : Nat) {T : Nat} {M : zMem} (e : M.1 45 0 = nI T) (hT : T ≤ 1000) {y : Int32} (c : y < nI T ∨ nI (T + 50) < y) : fX7_checkHour N y M = some (.inr 2, M) := by
  unfold fX7_checkHour
  rw [e, show nI T + 50 = nI (T + 50) from nI_add T 50]
  by_cases d : y < nI T
  · rw [if_pos d]
  · rw [if_neg d, if_neg (q_gt (c.resolve_left d))]
theorem x_hourk (N : Nat) {T : Nat} {M : zMem} (e : M.1 45 0 = nI T) (hT : T ≤ 1000) {t : Nat} (h1 : T ≤ t) (h2 : t ≤ T + 50) : fX7_checkHour N (nI t) M = some (.inl 0, M) := by
  unfold fX7_checkHour
  rw [e, show nI T + 50 = nI (T + 50) from nI_add T 50, if_neg (nI_nlt (by omega) (by omega)), if_pos (nI_le (by omega) (by omega))]
def uSl (b h x : Nat) (B : VB) : VB := (VB.mk B.L B.T B.Bc B.R B.rcp B.bag B.loa B.cond B.cnt B.mis B.st (fun c => if c = b then fu (B.sl b) h x else B.sl c) B.bver B.blot B.left B.out B.rb B.rl B.rr)
theorem QX.uSl {V : Nat} {B : VB} {M : zMem} (hx : QX V B M) (hT : B.T ≤ 1000) {b h x : Nat} (hb : b < 5) (h1 : B.T ≤ h) (h2 : h ≤ B.T + 50) {y : Int32} (hy : y = nI x - 1) : QX V (uSl b h x B) (zsI M (46 + 1 + b) (h % 51) y) :=
  (QX.mk (by simp (disch := omega) only [zsI_n, zsI_s, pk_un, zsL_1, zsI_2]; exact hx.rcp) (by simp (disch := omega) only [zsI_n, zsI_s, pk_un, zsL_1, zsI_2]; exact hx.bag) (by simp (disch := omega) only [zsI_n, zsI_s, pk_un, zsL_1, zsI_2]; exact hx.loa) (by simp (disch := omega) only [zsI_n, zsI_s, pk_un, zsL_1, zsI_2]; exact hx.L) (by simp (disch := omega) only [zsI_n, zsI_s, pk_un, zsL_1, zsI_2]; exact hx.cb) (fun c hc i hi => by simp (disch := omega) only [zsI_n, zsI_s, pk_un, zsL_1, zsI_2]; exact hx.st c hc i hi) (by simp (disch := omega) only [zsI_n, zsI_s, pk_un, zsL_1, zsI_2]; exact hx.cnt) (by simp (disch := omega) only [zsI_n, zsI_s, pk_un, zsL_1, zsI_2]; exact hx.T) ( fun c hc i q1 q2 => by
    have q1' : B.T ≤ i := q1
    have q2' : i ≤ B.T + 50 := q2
    show (zsI M (46 + 1 + b) (h % 51) y).1 (46 + 1 + c) (i % 51) = nI ((if c = b then fu (B.sl b) h x else B.sl c) i) - 1
    by_cases e : c = b
    · subst e
      rw [if_pos rfl, zsI_s]
      by_cases e2 : i = h
      · subst e2; rw [pk_us, fu_s, hy]
      · rw [pk_un (by omega), fu_n e2]; exact hx.sl c hc i q1' q2'
    · rw [if_neg e, zsI_n (by omega)]; exact hx.sl c hc i q1' q2') (by simp (disch := omega) only [zsI_n, zsI_s, pk_un, zsL_1, zsI_2]; exact hx.mis) (by simp (disch := omega) only [zsI_n, zsI_s, pk_un, zsL_1, zsI_2]; exact hx.Bc) (by simp (disch := omega) only [zsI_n, zsI_s, pk_un, zsL_1, zsI_2]; exact hx.bver) (by simp (disch := omega) only [zsI_n, zsI_s, pk_un, zsL_1, zsI_2]; exact hx.blot) (by simp (disch := omega) only [zsI_n, zsI_s, pk_un, zsL_1, zsI_2]; exact hx.left) (by simp (disch := omega) only [zsI_n, zsI_s, pk_un, zsL_1, zsI_2]; exact hx.out) (by simp (disch := omega) only [zsI_n, zsI_s, pk_un, zsL_1, zsI_2]; exact hx.R) (by simp (disch := omega) only [zsI_n, zsI_s, pk_un, zsL_1, zsI_2]; exact hx.rb) (by simp (disch := omega) only [zsI_n, zsI_s, pk_un, zsL_1, zsI_2]; exact hx.rl) (by simp (disch := omega) only [zsI_n, zsI_s, pk_un, zsL_1, zsI_2]; exact hx.rr))
theorem BOK.uSl {V n : Nat} {B : VB} (hb : BOK V n B) {b h x : Nat} (hx : x ≤ V) (h2 : h ≤ B.T + 50) : BOK V (n + 1) (uSl b h x B) :=
  (BOK.mk hb.L hb.T hb.Bc ( Nat.le_trans hb.R (Nat.le_succ n)) hb.rcp hb.cond hb.cnt hb.st ( fun c hc i hi => by
    show (if c = b then fu (B.sl b) h x else B.sl c) i ≤ V
    by_cases e : c = b
    · subst e; rw [if_pos rfl, fu_e]; split
      · exact hx
      · exact hb.sl c hc i hi
    · rw [if_neg e]; exact hb.sl c hc i hi) ( fun c hc i hi => by
    have hi' : B.T + 50 < i := hi
    show (if c = b then fu (B.sl b) h x else B.sl c) i = 0
    by_cases e : c = b
    · subst e; rw [if_pos rfl, fu_n (by omega)]; exact hb.sl0 c hc i hi'
    · rw [if_neg e]; exact hb.sl0 c hc i hi') hb.bver hb.blot hb.left hb.out0)
/-! pure: book, renew -/
theorem x_put (N : Nat) (hN : 101 ≤ N) {A : VA} {B : VB} {M : zMem} (ha : QA 1 A M) (hx : QX A.V B M) (hk : AOK A) (hr : ∀ v, v < A.V → B.rcp v < 6) {b q t : Nat} (hb : b < 5) (hq : q < 6) (ht : t < 2 ^ 31) : fX7_putCurrent N (nI b) (nI t) (nI q) M = if cur A B.rcp b q (A.len b) = 0 then some (.inr 3, M) else some (.inl (nI (cur A B.rcp b q (A.len b)) - 1), zsI M (46 + 1 + b) (t % 51) (nI (cur A B.rcp b q (A.len b)) - 1)) := by
  have hv := hk.ver
  have hc := cur_le (rc := B.rcp) (q := q) hk hb _ (Nat.le_refl _)
  unfold fX7_putCurrent
  rw [x_cur N hN ha hx hk hr hb hq, q_zb]
  by_cases g : cur A B.rcp b q (A.len b) = 0
  · rw [if_pos g, g, if_pos (by decide)]
  · rw [if_neg g, if_neg (by rw [q_pred (by omega)]; exact q_m1 (by omega)), x_set N hb ht, q_zb]
/-! pure: barred, barredAnew, onSale -/
def badf (B : VB) (i : Nat) : Nat → Bool
  | 0 => false
  | k + 1 => badf B i k || (B.cond k && (B.blot i).testBit k)
def bar (A : VA) (B : VB) (i : Nat) : Nat := (if held A (B.bver i) = true then 0 else 1) + (if badf B i B.L = true then 2 else 0)
theorem bar_lt {A : VA} {B : VB} {i : Nat} : bar A B i < 4 := by
  unfold bar
  split <;> split <;> decide
theorem badf_iff {B : VB} {i : Nat} : ∀ k, badf B i k = true ↔ ∃ l, l < k ∧ B.cond l = true ∧ (B.blot i).testBit l = true := by
  intro k
  induction k with
  | zero => exact ⟨fun q => absurd q Bool.false_ne_true, fun ⟨l, q, _⟩ => absurd q (Nat.not_lt_zero _)⟩
  | succ k ih =>
    unfold badf
    rw [Bool.or_eq_true, Bool.and_eq_true, ih]
    constructor
    · rintro (⟨l, q1, q2⟩ | q)
      · exact ⟨l, by omega, q2⟩
      · exact ⟨k, by omega, q⟩
    · rintro ⟨l, q1, q2⟩
      by_cases e : l = k
      · subst e; exact Or.inr q2
      · exact Or.inl ⟨l, by omega, q2⟩
theorem bad_and {V n : Nat} {B : VB} (hb : BOK V n B) {i K : Nat} (hi : i < B.Bc) (hK : ∀ l, l < 16 → K.testBit l = B.cond l) : B.blot i &&& K = 0 ↔ badf B i B.L = false := by
  have h16 := hb.blot i hi
  have hL := hb.L
  constructor
  · intro e
    cases q : badf B i B.L
    · rfl
    · obtain ⟨l, q1, q2, q3⟩ := (badf_iff _).mp q
      have this : (B.blot i &&& K).testBit l = (0 : Nat).testBit l := by rw [e]
      rw [Nat.testBit_and, Nat.zero_testBit, hK l (by omega), q2, q3] at this
      exact absurd this (by decide)
  · intro e
    apply Nat.eq_of_testBit_eq
    intro l
    rw [Nat.testBit_and, Nat.zero_testBit]
    by_cases c : l < 16
    · rw [hK l c]
      cases q2 : B.cond l
      · exact Bool.and_false _
      · cases q3 : (B.blot i).testBit l
        · rfl
        · have : badf B i B.L = true := (badf_iff _).mpr ⟨l, Nat.lt_of_not_le (fun q => by rw [hb.cond l q] at q2; exact absurd q2 (by decide)), q2, q3⟩
          rw [this] at e; exact absurd e (by decide)
    · rw [Nat.testBit_lt_two_pow (Nat.lt_of_lt_of_le h16 (Nat.pow_le_pow_right (n := 2) (by decide) (by omega)))]
      rfl
theorem x_bar (o N : Nat) {n : Nat} {A : VA} {B : VB} {M : zMem} (ha : QA o A M) (hx : QX A.V B M) (hk : AOK A) (hb : BOK A.V n B) {i : Nat} (hi : i < B.Bc) : fX7_barredUnder o N (nI i) M = some (.inl (nI (bar A B i)), M) := by
  have hBc := hb.Bc
  have hv := hk.ver
  have lv := hb.bver i hi
  obtain ⟨K, k1, k2, k3⟩ := hx.cb
  have hand := bad_and hb hi k3
  have h16 := hb.blot i hi
  have hle : B.blot i &&& K ≤ B.blot i := Nat.and_le_left
  have eI : nI (B.blot i) &&& nI K = 0 ↔ badf B i B.L = false := by
    rw [q_and, ← hand]
    exact nI_eq (b := 0) (by omega) (by decide)
  have z : zin (nI i) 60 = true := z60 (by omega)
  unfold fX7_barredUnder fX7_barredUnder_B24 fX7_barredUnder_B50 bar
  simp only [z, if_true]
  rw [nI_clamp (by omega), hx.bver i hi, q_has N _ (by omega), q_zb, ha.held lv, hx.blot i hi, k2]
  cases g1 : held A (B.bver i)
  · rw [if_pos (by rfl)]
    cases g2 : badf B i B.L
    · rw [if_pos (eI.mpr g2)]; rfl
    · rw [if_neg (fun q => by rw [eI.mp q] at g2; exact absurd g2 (by decide))]; rfl
  · rw [if_neg (by decide)]
    cases g2 : badf B i B.L
    · rw [if_pos (eI.mpr g2)]; rfl
    · rw [if_neg (fun q => by rw [eI.mp q] at g2; exact absurd g2 (by decide))]; rfl
def ons (A : VA) (B : VB) : Nat → Nat → Nat
  | 0, _ => 0
  | k + 1, i => (if bar A B i = 0 then B.left i else 0) + ons A B k (i + 1)
theorem x_ons_loop (N : Nat) {n0 : Nat} {A : VA} {B : VB} {M : zMem} (ha : QA 1 A M) (hx : QX A.V B M) (hk : AOK A) (hb : BOK A.V n0 B) : ∀ k n i s, i + k = B.Bc → k < n → fX7_onSale_B4 N n (nI s) (nI i) M = some (.inl (nI (s + ons A B k i)), M) := by
  have hBc := hb.Bc
  intro k
  induction k with
  | zero =>
    intro n i s h1 h2
    obtain ⟨n, rfl⟩ : ∃ q, n = q + 1 := ⟨n - 1, by omega⟩
    rw [fX7_onSale_B4, hx.Bc, if_pos (nI_le (by omega) (by omega))]
    rfl
  | succ k ih =>
    intro n i s h1 h2
    obtain ⟨n, rfl⟩ : ∃ q, n = q + 1 := ⟨n - 1, by omega⟩
    have h4 := bar_lt (A := A) (B := B) (i := i)
    rw [fX7_onSale_B4, hx.Bc, if_neg (nI_ge (by omega) (by omega)), x_bar 1 N ha hx hk hb (by omega), q_zb, ons]
    unfold fX7_onSale_B39
    by_cases g : bar A B i = 0
    · rw [g, if_pos (by rfl), if_pos (z60 (by omega)), nI_clamp (by omega), hx.left i (by omega), nI_add, q_zv, nI_1, ih n (i + 1) _ (by omega) (by omega), if_pos rfl, Nat.add_assoc]
    · rw [if_neg (nI_ne0 (by omega) (by omega)), if_neg g, nI_1, ih n (i + 1) _ (by omega) (by omega), Nat.zero_add]
/-! pure: sell, traced, tracedAt, stopped -/
theorem nz_fu {f : Nat → Nat} {i x : Nat} : ∀ k, nz (fu f i x) k + (if i < k ∧ 0 < f i then 1 else 0) = nz f k + (if i < k ∧ 0 < x then 1 else 0) := by
  intro k
  induction k with
  | zero => rw [if_neg (by omega), if_neg (by omega)]; rfl
  | succ k ih =>
    unfold nz
    by_cases e : k = i
    · subst e
      rw [fu_s]
      rw [if_neg (by omega), if_neg (by omega)] at ih
      by_cases c1 : 0 < f k <;> by_cases c2 : 0 < x <;> simp [c1, c2] <;> omega
    · rw [fu_n e]
      have q1 : (i < k + 1 ∧ 0 < f i) ↔ (i < k ∧ 0 < f i) := by omega
      have q2 : (i < k + 1 ∧ 0 < x) ↔ (i < k ∧ 0 < x) := by omega
      simp only [q1, q2]
      omega
theorem nz_le1 {f : Nat → Nat} {i x : Nat} (k : Nat) : nz (fu f i x) k ≤ nz f k + 1 := by
  have := nz_fu (f := f) (i := i) (x := x) k
  have h2 : (if i < k ∧ 0 < x then 1 else 0) ≤ 1 := by split <;> omega
  omega
def uSell (i c : Nat) (B : VB) : VB := (VB.mk B.L B.T B.Bc B.R B.rcp B.bag B.loa B.cond B.cnt B.mis B.st B.sl B.bver B.blot (fu B.left i (B.left i - c)) (fu B.out i (B.out i + c)) B.rb B.rl B.rr)
theorem BOK.uSell {V n : Nat} {B : VB} (hb : BOK V n B) {i c : Nat} (hi : i < B.Bc) (hc : c ≤ B.left i) : BOK V (n + 1) (uSell i c B) :=
  (BOK.mk hb.L hb.T hb.Bc ( by
    have h1 := hb.R
    have h2 := nz_le1 (f := B.out) (i := i) (x := B.out i + c) 60
    show B.R + nz (fu B.out i (B.out i + c)) 60 ≤ n + 1
    omega) hb.rcp hb.cond hb.cnt hb.st hb.sl hb.sl0 hb.bver hb.blot ( fun j hj => by
    show fu B.left i (B.left i - c) j + fu B.out i (B.out i + c) j ≤ 40
    have h1 := hb.left j hj
    by_cases e : j = i
    · subst e; rw [fu_s, fu_s]; omega
    · rw [fu_n e, fu_n e]; exact h1) ( fun j hj => by
    have hj' : B.Bc ≤ j := hj
    show fu B.out i (B.out i + c) j = 0
    rw [fu_n (by omega)]; exact hb.out0 j hj'))
theorem QX.uSell {V : Nat} {B : VB} {M : zMem} (hx : QX V B M) {i c : Nat} : QX V (uSell i c B) (zsI (zsI M 56 i (nI (B.left i - c))) 57 i (nI (B.out i + c))) :=
  (QX.mk (by simp (disch := omega) only [zsI_n, zsI_s, pk_un, zsL_1, zsI_2]; exact hx.rcp) (by simp (disch := omega) only [zsI_n, zsI_s, pk_un, zsL_1, zsI_2]; exact hx.bag) (by simp (disch := omega) only [zsI_n, zsI_s, pk_un, zsL_1, zsI_2]; exact hx.loa) (by simp (disch := omega) only [zsI_n, zsI_s, pk_un, zsL_1, zsI_2]; exact hx.L) (by simp (disch := omega) only [zsI_n, zsI_s, pk_un, zsL_1, zsI_2]; exact hx.cb) (fun c hc i hi => by simp (disch := omega) only [zsI_n, zsI_s, pk_un, zsL_1, zsI_2]; exact hx.st c hc i hi) (by simp (disch := omega) only [zsI_n, zsI_s, pk_un, zsL_1, zsI_2]; exact hx.cnt) (by simp (disch := omega) only [zsI_n, zsI_s, pk_un, zsL_1, zsI_2]; exact hx.T) (fun c hc i h1 h2 => by simp (disch := omega) only [zsI_n, zsI_s, pk_un, zsL_1, zsI_2]; exact hx.sl c hc i h1 h2) (by simp (disch := omega) only [zsI_n, zsI_s, pk_un, zsL_1, zsI_2]; exact hx.mis) (by simp (disch := omega) only [zsI_n, zsI_s, pk_un, zsL_1, zsI_2]; exact hx.Bc) (by simp (disch := omega) only [zsI_n, zsI_s, pk_un, zsL_1, zsI_2]; exact hx.bver) (by simp (disch := omega) only [zsI_n, zsI_s, pk_un, zsL_1, zsI_2]; exact hx.blot) ( fun j hj => by
    show _ = nI (fu B.left i (B.left i - c) j)
    rw [zsI_n (by decide), zsI_s]
    by_cases e : j = i
    · subst e; rw [pk_us, fu_s]
    · rw [pk_un e, fu_n e]; exact hx.left j hj) ( fun j hj => by
    show _ = nI (fu B.out i (B.out i + c) j)
    rw [zsI_s]
    by_cases e : j = i
    · subst e; rw [pk_us, fu_s]
    · rw [pk_un e, fu_n e, zsI_n (by decide)]; exact hx.out j hj) (by simp (disch := omega) only [zsI_n, zsI_s, pk_un, zsL_1, zsI_2]; exact hx.R) (by simp (disch := omega) only [zsI_n, zsI_s, pk_un, zsL_1, zsI_2]; exact hx.rb) (by simp (disch := omega) only [zsI_n, zsI_s, pk_un, zsL_1, zsI_2]; exact hx.rl) (by simp (disch := omega) only [zsI_n, zsI_s, pk_un, zsL_1, zsI_2]; exact hx.rr))
theorem x_Lot (N : Nat) {K : Nat} {M : zMem} (e : M.1 37 0 = nI K) {x : Int32} (h : x < 0 ∨ nI K ≤ x) : fX7_checkLot N x M = some (.inr 1, M) := x_chk h (by unfold fX7_checkLot; rw [e])
theorem x_Lot' (N : Nat) {K : Nat} {M : zMem} (e : M.1 37 0 = nI K) (hK : K < 2 ^ 30) {j : Nat} (h : j < K) : fX7_checkLot N (nI j) M = some (.inl 0, M) := x_chk' hK h (by unfold fX7_checkLot; rw [e])
def trc (B : VB) (l : Nat) : Nat → Nat → Nat
  | 0, _ => 0
  | k + 1, i => ((B.blot i).testBit l).toNat + trc B l k (i + 1)
theorem x_trc_loop (N : Nat) {V n0 : Nat} {B : VB} {M : zMem} (hx : QX V B M) (hb : BOK V n0 B) {l : Nat} (hl : l < 16) : ∀ k n i s, i + k = B.Bc → k < n → fX7_traced_B9 N n (nI l) (nI s) (nI i) M = some (.inl (nI (s + trc B l k i)), M) := by
  have hBc := hb.Bc
  intro k
  induction k with
  | zero =>
    intro n i s h1 h2
    obtain ⟨n, rfl⟩ : ∃ q, n = q + 1 := ⟨n - 1, by omega⟩
    rw [fX7_traced_B9, hx.Bc, if_pos (nI_le (by omega) (by omega))]
    rfl
  | succ k ih =>
    intro n i s h1 h2
    obtain ⟨n, rfl⟩ : ∃ q, n = q + 1 := ⟨n - 1, by omega⟩
    have h16 := hb.blot i (by omega)
    rw [fX7_traced_B9, hx.Bc, if_neg (nI_ge (by omega) (by omega)), if_pos (z60 (by omega)), nI_clamp (by omega), hx.blot i (by omega), q_has N _ (by omega), q_zb, q_lofI (by omega) (by omega), trc]
    unfold fX7_traced_B40
    cases (B.blot i).testBit l
    · rw [if_pos (by rfl), nI_1, ih n (i + 1) _ (by omega) (by omega)]
      show _ = some (Sum.inl (nI (s + (0 + trc B l k (i + 1)))), M)
      rw [Nat.zero_add]
    · rw [if_neg (by decide), nI_1, nI_1, ih n (i + 1) _ (by omega) (by omega)]
      show _ = some (Sum.inl (nI (s + (1 + trc B l k (i + 1)))), M)
      rw [Nat.add_assoc]
def tra (B : VB) (l : Nat) : Nat → Nat → Nat → Option Nat
  | 0, _, _ => none
  | k + 1, i, r => if (B.blot i).testBit l = true then (if r = 0 then some i else tra B l k (i + 1) (r - 1)) else tra B l k (i + 1) r
def traX (M : zMem) : Option Nat → zRES
  | none => some (.inr 1, M)
  | some j => some (.inl (nI j), M)
def traM (M : zMem) : Option Nat → zRES
  | none => some (.inl 0, zsI M 62 30 1)
  | some j => some (.inl (nI j), M)
theorem x_tra_loop (N : Nat) {V n0 : Nat} {B : VB} {M : zMem} (hx : QX V B M) (hb : BOK V n0 B) {l p : Nat} (hl : l < 16) (hp : p < 2 ^ 31) : ∀ k n i s, i + k = B.Bc → k < n → s ≤ i → s ≤ p → fX7_tracedAt_B10 N n (nI l) (nI p) (nI s) (nI i) M = traX M (tra B l k i (p - s)) := by
  have hBc := hb.Bc
  intro k
  induction k with
  | zero =>
    intro n i s h1 h2 h3 h4
    obtain ⟨n, rfl⟩ : ∃ q, n = q + 1 := ⟨n - 1, by omega⟩
    rw [fX7_tracedAt_B10, hx.Bc, if_pos (nI_le (by omega) (by omega))]
    rfl
  | succ k ih =>
    intro n i s h1 h2 h3 h4
    obtain ⟨n, rfl⟩ : ∃ q, n = q + 1 := ⟨n - 1, by omega⟩
    have h16 := hb.blot i (by omega)
    rw [fX7_tracedAt_B10, hx.Bc, if_neg (nI_ge (by omega) (by omega)), if_pos (z60 (by omega)), nI_clamp (by omega), hx.blot i (by omega), q_has N _ (by omega), q_zb, q_lofI (by omega) (by omega), tra]
    unfold fX7_tracedAt_B51
    cases (B.blot i).testBit l
    · rw [if_pos (by rfl), nI_1, ih n (i + 1) _ (by omega) (by omega) (by omega) h4, if_neg (by decide)]
    · rw [if_neg (by decide), if_pos rfl]
      by_cases g : s = p
      · rw [if_pos (by rw [g]), if_pos (by omega)]; rfl
      · rw [if_neg (fun q => g ((nI_eq (by omega) (by omega)).mp q)), if_neg (by omega), nI_1, nI_1, ih n (i + 1) _ (by omega) (by omega) (by omega) (by omega), show p - (s + 1) = p - s - 1 by omega]
theorem x_tra_neg (N : Nat) {V n0 : Nat} {B : VB} {M : zMem} (hx : QX V B M) (hb : BOK V n0 B) {l : Nat} {y : Int32} (hl : l < 16) (hy : y < 0) : ∀ k n i s, i + k = B.Bc → k < n → s ≤ i → fX7_tracedAt_B10 N n (nI l) y (nI s) (nI i) M = some (.inr 1, M) := by
  have hBc := hb.Bc
  intro k
  induction k with
  | zero =>
    intro n i s h1 h2 h3
    obtain ⟨n, rfl⟩ : ∃ q, n = q + 1 := ⟨n - 1, by omega⟩
    rw [fX7_tracedAt_B10, hx.Bc, if_pos (nI_le (by omega) (by omega))]
  | succ k ih =>
    intro n i s h1 h2 h3
    obtain ⟨n, rfl⟩ : ∃ q, n = q + 1 := ⟨n - 1, by omega⟩
    have h16 := hb.blot i (by omega)
    rw [fX7_tracedAt_B10, hx.Bc, if_neg (nI_ge (by omega) (by omega)), if_pos (z60 (by omega)), nI_clamp (by omega), hx.blot i (by omega), q_has N _ (by omega), q_zb, q_lofI (by omega) (by omega)]
    unfold fX7_tracedAt_B51
    cases (B.blot i).testBit l
    · rw [if_pos (by rfl), nI_1, ih n (i + 1) _ (by omega) (by omega) (by omega)]
    · rw [if_neg (by decide), if_neg (fun q => nI_pos (n := s) (by omega) (by rw [q]; exact hy)), nI_1, nI_1, ih n (i + 1) _ (by omega) (by omega) (by omega)]
def stp1 (A : VA) (B : VB) (b h : Nat) : Nat := if B.sl b h = 0 then 0 else if held A (B.sl b h - 1) = true then 0 else 1
def stp (A : VA) (B : VB) (b : Nat) : Nat → Nat → Nat
  | 0, _ => 0
  | k + 1, a => stp1 A B b (B.T + a) + stp A B b k (a + 1)
def stps (A : VA) (B : VB) : Nat → Nat → Nat
  | 0, _ => 0
  | k + 1, b => stp A B b 51 0 + stps A B k (b + 1)
theorem x_stp_loop (N : Nat) {n0 : Nat} {A : VA} {B : VB} {M : zMem} (ha : QA 1 A M) (hx : QX A.V B M) (hk : AOK A) (hb : BOK A.V n0 B) {b : Nat} (h5 : b < 5) {again : Int32 → Int32 → zMem → zRES} : ∀ k n i s, i + k = 51 → k < n → fX7_stopped_B11 N again n (nI s) (nI b) (nI i) M = again (nI (s + stp A B b k i)) (nI (b + 1)) M := by
  have hT := hb.T
  have hv := hk.ver
  intro k
  induction k with
  | zero =>
    intro n i s h1 h2
    obtain ⟨n, rfl⟩ : ∃ q, n = q + 1 := ⟨n - 1, by omega⟩
    rw [fX7_stopped_B11, if_pos (show (50 : Int32) < nI i from nI_lt (a := 50) (by omega) (by omega)), nI_1]
    rfl
  | succ k ih =>
    intro n i s h1 h2
    obtain ⟨n, rfl⟩ : ∃ q, n = q + 1 := ⟨n - 1, by omega⟩
    have hs := hb.sl b h5 (B.T + i) (by omega)
    rw [fX7_stopped_B11, if_neg (show ¬ (50 : Int32) < nI i from nI_nlt (a := 50) (by omega) (by omega)), hx.T, nI_add, x_slot N hx h5 (by omega) (by omega) hT, q_zb, stp, stp1]
    unfold fX7_stopped_B60
    by_cases g : B.sl b (B.T + i) = 0
    · rw [g, if_pos (by decide), if_pos rfl, nI_1, ih n (i + 1) _ (by omega) (by omega), Nat.zero_add]
    · rw [q_pred (by omega), if_neg (q_m1 (by omega)), q_has N _ (by omega), q_zb, ha.held (by omega), if_neg g]
      cases held A (B.sl b (B.T + i) - 1)
      · rw [if_pos (by rfl), if_neg (by decide), nI_1, nI_1, ih n (i + 1) _ (by omega) (by omega), Nat.add_assoc]
      · rw [if_neg (by decide), if_pos rfl, nI_1, ih n (i + 1) _ (by omega) (by omega), Nat.zero_add]
theorem x_stps_loop (N : Nat) (hN : 101 ≤ N) {n0 : Nat} {A : VA} {B : VB} {M : zMem} (ha : QA 1 A M) (hx : QX A.V B M) (hk : AOK A) (hb : BOK A.V n0 B) : ∀ k n b s, b + k = 5 → k < n → fX7_stopped_B4 N n (nI s) (nI b) M = some (.inl (nI (s + stps A B k b)), M) := by
  intro k
  induction k with
  | zero =>
    intro n b s h1 h2
    obtain ⟨n, rfl⟩ : ∃ q, n = q + 1 := ⟨n - 1, by omega⟩
    rw [fX7_stopped_B4, if_pos (show (5 : Int32) ≤ nI b from nI_le (a := 5) (by omega) (by omega))]
    rfl
  | succ k ih =>
    intro n b s h1 h2
    obtain ⟨n, rfl⟩ : ∃ q, n = q + 1 := ⟨n - 1, by omega⟩
    rw [fX7_stopped_B4, if_neg (show ¬ (5 : Int32) ≤ nI b from nI_ge (b := 5) (by omega) (by decide)), ← nI_0, x_stp_loop N ha hx hk hb (by omega) 51 N 0 s (by omega) (by omega), ih n (b + 1) _ (by omega) (by omega), stps, Nat.add_assoc]
/-! pure: stand, vote -/
theorem q_ne {a b : Nat} {y : Int32} (hy : y = nI b) (ha : a < 2 ^ 31) (hb : b < 2 ^ 31) (h : a ≠ b) : ¬ nI a = y := fun q => h ((nI_eq ha hb).mp (q.trans hy))
def lap (A : VA) (b : Nat) : Nat := if A.len b = 0 then 0 else aLast A b + 1
theorem q_subm (a b : Int32) : (a - 1) - (b - 1) = a - b := by
  have h : ∀ x y : BitVec 32, (x - 1#32) - (y - 1#32) = x - y := by intro x y; bv_omega
  apply Int32.toBitVec_inj.mp
  exact h a.toBitVec b.toBitVec
theorem aLast_0 {A : VA} (hk : AOK A) {b : Nat} (hb : b < 5) : (A.len b = 0 → aLast A b = 0) ∧ (A.len b ≠ 0 → 1 ≤ aLast A b) := by
  unfold aLast
  by_cases h0 : A.len b = 0
  · rw [if_pos h0]; exact ⟨fun _ => rfl, fun q => absurd h0 q⟩
  · rw [if_neg h0]; exact ⟨fun q => absurd q h0, fun _ => (hk.vt _ (hk.logv b hb _ (by omega))).1⟩
def tog (A : VA) (a b : Nat) : Bool := decide (A.grp.testBit a = A.grp.testBit b)
theorem tog_comm {A : VA} {a b : Nat} : tog A a b = tog A b a := by unfold tog; cases A.grp.testBit a <;> cases A.grp.testBit b <;> rfl
theorem x_pair1 (N : Nat) {x y : Int32} (h : x < 0 ∨ nI 5 ≤ x) (M : zMem) : fX7_checkPair N x y M = some (.inr 1, M) := by
  unfold fX7_checkPair
  rw [x_bakn N h, q_zbr]
theorem x_pair2 (N : Nat) {y : Int32} {a : Nat} (ha : a < 5) (h : y < 0 ∨ nI 5 ≤ y) (M : zMem) : fX7_checkPair N (nI a) y M = some (.inr 1, M) := by
  unfold fX7_checkPair
  rw [x_bak N ha, q_zb, x_bakn N h, q_zbr]
theorem x_pair3 (N : Nat) {a : Nat} (ha : a < 5) (M : zMem) : fX7_checkPair N (nI a) (nI a) M = some (.inr 2, M) := by
  unfold fX7_checkPair
  rw [x_bak N ha, q_zb, x_bak N ha, q_zb, if_pos rfl]
theorem x_pair (N : Nat) {a b : Nat} (ha : a < 5) (hb : b < 5) (hab : a ≠ b) (M : zMem) : fX7_checkPair N (nI a) (nI b) M = some (.inl 0, M) := by
  unfold fX7_checkPair
  rw [x_bak N ha, q_zb, x_bak N hb, q_zb, if_neg (fun q => hab ((nI_eq (by omega) (by omega)).mp q))]
theorem x_reach (N : Nat) {A : VA} {M : zMem} (hA : QA 1 A M) (hk : AOK A) {a b : Nat} (ha : a < 5) (hb : b < 5) : fX7_checkReach N (nI a) (nI b) M = if tog A a b = true then some (.inl 0, M) else some (.inr 3, M) := by
  unfold fX7_checkReach
  rw [x_tog 1 N hA hk ha hb, q_zb]
  have e : decide (A.grp.testBit a = A.grp.testBit b) = tog A a b := rfl
  rw [e]
  cases g2 : tog A a b
  · rw [if_pos (by rfl), if_neg (by decide)]
  · rw [if_neg (by decide), if_pos rfl]
theorem aVote_V {A : VA} {v c : Nat} : (aVote v c A).2.V = A.V := by
  unfold aVote aVote1
  split
  · rfl
  · split
    · split
      · rfl
      · split
        · split <;> rfl
        · rfl
    · split
      · rfl
      · split
        · split <;> rfl
        · rfl
/-! pure: propose -/
def uProp (V q bg lv : Nat) (B : VB) : VB := (VB.mk B.L B.T B.Bc B.R (fu B.rcp V q) (fu B.bag V bg) (fu B.loa V lv) B.cond B.cnt B.mis B.st B.sl B.bver B.blot B.left B.out B.rb B.rl B.rr)
theorem BOK.uProp {V n : Nat} {B : VB} (hb : BOK V n B) {q bg lv : Nat} (h1 : q < 6) (h2 : 1 ≤ bg) (h3 : bg ≤ 9) (h4 : lv ≤ 40) : BOK (V + 1) (n + 1) (uProp V q bg lv B) :=
  (BOK.mk hb.L hb.T hb.Bc ( Nat.le_trans hb.R (Nat.le_succ n)) ( fun v hv => by
    show fu B.rcp V q v < 6 ∧ 1 ≤ fu B.bag V bg v ∧ fu B.bag V bg v ≤ 9 ∧ fu B.loa V lv v ≤ 40
    by_cases e : v = V
    · subst e; rw [fu_s, fu_s, fu_s]; exact ⟨h1, h2, h3, h4⟩
    · rw [fu_n e, fu_n e, fu_n e]; exact hb.rcp v (by omega)) hb.cond hb.cnt hb.st ( fun c hc i hi => Nat.le_trans (hb.sl c hc i hi) (Nat.le_succ V)) hb.sl0 ( fun i hi => Nat.lt_of_lt_of_le (hb.bver i hi) (Nat.le_succ V)) hb.blot hb.left hb.out0)
theorem QX.uProp {V : Nat} {B : VB} {M : zMem} (hx : QX V B M) {q bg lv : Nat} : QX (V + 1) (uProp V q bg lv B) (zsI (zsI (zsI M 34 V (nI q)) 35 V (nI bg)) 36 V (nI lv)) :=
  (QX.mk ( fun v hv => by
    show _ = nI (fu B.rcp V q v)
    rw [zsI_n (by decide), zsI_n (by decide), zsI_s]
    by_cases e : v = V
    · subst e; rw [pk_us, fu_s]
    · rw [pk_un e, fu_n e]; exact hx.rcp v (by omega)) ( fun v hv => by
    show _ = nI (fu B.bag V bg v)
    rw [zsI_n (by decide), zsI_s]
    by_cases e : v = V
    · subst e; rw [pk_us, fu_s]
    · rw [pk_un e, fu_n e, zsI_n (by decide)]; exact hx.bag v (by omega)) ( fun v hv => by
    show _ = nI (fu B.loa V lv v)
    rw [zsI_s]
    by_cases e : v = V
    · subst e; rw [pk_us, fu_s]
    · rw [pk_un e, fu_n e, zsI_n (by decide), zsI_n (by decide)]; exact hx.loa v (by omega)) (by simp (disch := omega) only [zsI_n, zsI_s, pk_un, zsL_1, zsI_2]; exact hx.L) (by simp (disch := omega) only [zsI_n, zsI_s, pk_un, zsL_1, zsI_2]; exact hx.cb) (fun c hc i hi => by simp (disch := omega) only [zsI_n, zsI_s, pk_un, zsL_1, zsI_2]; exact hx.st c hc i hi) (by simp (disch := omega) only [zsI_n, zsI_s, pk_un, zsL_1, zsI_2]; exact hx.cnt) (by simp (disch := omega) only [zsI_n, zsI_s, pk_un, zsL_1, zsI_2]; exact hx.T) (fun c hc i h1 h2 => by simp (disch := omega) only [zsI_n, zsI_s, pk_un, zsL_1, zsI_2]; exact hx.sl c hc i h1 h2) (by simp (disch := omega) only [zsI_n, zsI_s, pk_un, zsL_1, zsI_2]; exact hx.mis) (by simp (disch := omega) only [zsI_n, zsI_s, pk_un, zsL_1, zsI_2]; exact hx.Bc) (by simp (disch := omega) only [zsI_n, zsI_s, pk_un, zsL_1, zsI_2]; exact hx.bver) (by simp (disch := omega) only [zsI_n, zsI_s, pk_un, zsL_1, zsI_2]; exact hx.blot) (by simp (disch := omega) only [zsI_n, zsI_s, pk_un, zsL_1, zsI_2]; exact hx.left) (by simp (disch := omega) only [zsI_n, zsI_s, pk_un, zsL_1, zsI_2]; exact hx.out) (by simp (disch := omega) only [zsI_n, zsI_s, pk_un, zsL_1, zsI_2]; exact hx.R) (by simp (disch := omega) only [zsI_n, zsI_s, pk_un, zsL_1, zsI_2]; exact hx.rb) (by simp (disch := omega) only [zsI_n, zsI_s, pk_un, zsL_1, zsI_2]; exact hx.rl) (by simp (disch := omega) only [zsI_n, zsI_s, pk_un, zsL_1, zsI_2]; exact hx.rr))
def mProp (M : zMem) (V q bg lv b t l : Nat) : zMem := zsI (zsI (zsI (zsI (zsI (zsI (zsI M 69 V (nI t)) 70 V (nI q)) 71 V (nI bg)) 72 V (nI lv)) 67 (20 * b + l) (nI V)) 68 b (nI (l + 1))) 62 7 (nI (V + 1))
theorem x_lead (N : Nat) {A : VA} {M : zMem} (hA : QA 1 A M) (hk : AOK A) {b : Nat} (hb : b < 5) : fX7_checkLeader N (nI b) M = if A.role b = 2 then some (.inl 0, M) else some (.inr 3, M) := by
  have h2 := hk.role b hb
  unfold fX7_checkLeader
  rw [if_pos (z5 hb), nI_clamp (by omega), show M.1 3 b = nI (A.role b) from hA.1.rol b hb]
  by_cases g : A.role b = 2
  · rw [if_pos (by rw [g]; rfl), if_pos g]
  · rw [if_neg (q_ne (y := 2) (b := 2) rfl (by omega) (by decide) g), if_neg g]
/-! pure: calling back -/
def uCb (i w : Nat) (B : VB) : VB := if B.out i = 0 then B else (VB.mk B.L B.T B.Bc (B.R + 1) B.rcp B.bag B.loa B.cond B.cnt B.mis B.st B.sl B.bver B.blot B.left (fu B.out i 0) (fu B.rb B.R i) (fu B.rl B.R (B.out i)) (fu B.rr B.R w))
theorem uCb_Bc {i w : Nat} {B : VB} : (uCb i w B).Bc = B.Bc := by unfold uCb; split <;> rfl
theorem uCb_bver {i w : Nat} {B : VB} : (uCb i w B).bver = B.bver := by unfold uCb; split <;> rfl
theorem uCb_blot {i w : Nat} {B : VB} : (uCb i w B).blot = B.blot := by unfold uCb; split <;> rfl
theorem nz_pos {f : Nat → Nat} {i : Nat} : ∀ k, i < k → 0 < f i → 1 ≤ nz f k := by
  intro k
  induction k with
  | zero => intro q; exact absurd q (Nat.not_lt_zero _)
  | succ k ih =>
    intro q1 q2
    unfold nz
    by_cases e : i = k
    · subst e; rw [if_pos q2]; omega
    · have := ih (by omega) q2; omega
theorem BOK.kCb {V n : Nat} {B : VB} (hb : BOK V n B) {i w : Nat} (hi : i < B.Bc) : BOK V n (uCb i w B) := by
  have hBc := hb.Bc
  unfold uCb
  by_cases g : B.out i = 0
  · rw [if_pos g]; exact hb
  · rw [if_neg g]
    exact (BOK.mk hb.L hb.T hb.Bc ( by
      have h1 := hb.R
      have h2 := nz_fu (f := B.out) (i := i) (x := 0) 60
      rw [if_pos (by omega), if_neg (by omega)] at h2
      show B.R + 1 + nz (fu B.out i 0) 60 ≤ n
      omega) hb.rcp hb.cond hb.cnt hb.st hb.sl hb.sl0 hb.bver hb.blot ( fun j hj => by
      show B.left j + fu B.out i 0 j ≤ 40
      have h1 := hb.left j hj
      rw [fu_e]; split <;> omega) ( fun j hj => by
      show fu B.out i 0 j = 0
      rw [fu_e]; split
      · rfl
      · exact hb.out0 j hj))
def zxf (M M' : zMem) : Prop := (∀ a, (a < 33 ∨ 62 ≤ a) → M'.1 a = M.1 a) ∧ M'.2 = M.2
theorem zxf.refl {M : zMem} : zxf M M := ⟨fun _ _ => rfl, rfl⟩
theorem zxf.trans {M M1 M2 : zMem} (h : zxf M M1) (g : zxf M1 M2) : zxf M M2 := ⟨fun a q => (g.1 a q).trans (h.1 a q), g.2.trans h.2⟩
theorem zxf.to {lo hi : Nat} {M M' : zMem} (h : zxf M M') (hk : hi ≤ 33 ∨ 62 ≤ lo) : zeq lo hi M M' := fun a h1 h2 => ⟨h.1 a (by omega), by rw [h.2]⟩
theorem x_cb (N : Nat) {V n : Nat} {B : VB} {M : zMem} (hx : QX V B M) (hb : BOK V n B) (hn : n ≤ 512) {i w : Nat} (hi : i < B.Bc) : ∃ M', fX7_callBackBatch N (nI i) (nI w) M = some (.inl (nI (B.out i)), M') ∧ QX V (uCb i w B) M' ∧ zxf M M' := by
  have hBc := hb.Bc
  have hR := hb.R
  have hl := hb.left i hi
  have z : zin (nI i) 60 = true := z60 (by omega)
  unfold fX7_callBackBatch uCb
  simp only [z, if_true, q_zl]
  rw [nI_clamp (by omega), hx.out i hi, q_zv]
  by_cases g : B.out i = 0
  · rw [if_pos g, g, if_pos (by decide)]
    exact ⟨M, rfl, hx, zxf.refl⟩
  · have np := nz_pos (f := B.out) (i := i) 60 (by omega) (by omega)
    have zR : zin (nI B.R) 512 = true := zin_nI (by omega) (by decide)
    rw [if_neg g, if_neg (nI_nle (by omega) (by omega))]
    unfold fX5_write
    have e58 : (zsI M 57 i 0).1 58 0 = nI B.R := by rw [zsI_n (by decide)]; exact hx.R
    rw [e58, if_neg (show ¬ (512 : Int32) ≤ nI B.R from nI_ge (b := 512) (by omega) (by decide))]
    simp (disch := omega) only [zR, if_true, q_zl, nI_clamp, zsI_n, hx.R, nI_1, q_zb]
    refine ⟨_, rfl, ?_, ⟨fun a ha => by simp (disch := omega) only [zsI_n], rfl⟩⟩
    exact (QX.mk (by simp (disch := omega) only [zsI_n, zsI_s, pk_un, zsL_1, zsI_2]; exact hx.rcp) (by simp (disch := omega) only [zsI_n, zsI_s, pk_un, zsL_1, zsI_2]; exact hx.bag) (by simp (disch := omega) only [zsI_n, zsI_s, pk_un, zsL_1, zsI_2]; exact hx.loa) (by simp (disch := omega) only [zsI_n, zsI_s, pk_un, zsL_1, zsI_2]; exact hx.L) (by simp (disch := omega) only [zsI_n, zsI_s, pk_un, zsL_1, zsI_2]; exact hx.cb) (fun c hc i hi => by simp (disch := omega) only [zsI_n, zsI_s, pk_un, zsL_1, zsI_2]; exact hx.st c hc i hi) (by simp (disch := omega) only [zsI_n, zsI_s, pk_un, zsL_1, zsI_2]; exact hx.cnt) (by simp (disch := omega) only [zsI_n, zsI_s, pk_un, zsL_1, zsI_2]; exact hx.T) (fun c hc i h1 h2 => by simp (disch := omega) only [zsI_n, zsI_s, pk_un, zsL_1, zsI_2]; exact hx.sl c hc i h1 h2) (by simp (disch := omega) only [zsI_n, zsI_s, pk_un, zsL_1, zsI_2]; exact hx.mis) (by simp (disch := omega) only [zsI_n, zsI_s, pk_un, zsL_1, zsI_2]; exact hx.Bc) (by simp (disch := omega) only [zsI_n, zsI_s, pk_un, zsL_1, zsI_2]; exact hx.bver) (by simp (disch := omega) only [zsI_n, zsI_s, pk_un, zsL_1, zsI_2]; exact hx.blot) (by simp (disch := omega) only [zsI_n, zsI_s, pk_un, zsL_1, zsI_2]; exact hx.left) ( fun j hj => by
      show _ = nI (fu B.out i 0 j)
      simp (disch := omega) only [zsI_n, zsI_s]
      by_cases e : j = i
      · subst e; rw [pk_us, fu_s]; rfl
      · rw [pk_un e, fu_n e]; exact hx.out j hj) ( by
      rw [zsI_s, pk_us]; rfl) ( fun j hj => by
      have hj' : j < B.R + 1 := hj
      show _ = nI (fu B.rb B.R i j)
      simp (disch := omega) only [zsI_n, zsI_s]
      by_cases e : j = B.R
      · subst e; rw [pk_us, fu_s]
      · rw [pk_un e, fu_n e]; exact hx.rb j (by omega)) ( fun j hj => by
      have hj' : j < B.R + 1 := hj
      show _ = nI (fu B.rl B.R (B.out i) j)
      simp (disch := omega) only [zsI_n, zsI_s]
      by_cases e : j = B.R
      · subst e; rw [pk_us, fu_s]
      · rw [pk_un e, fu_n e]; exact hx.rl j (by omega)) ( fun j hj => by
      have hj' : j < B.R + 1 := hj
      show _ = nI (fu B.rr B.R w j)
      simp (disch := omega) only [zsI_n, zsI_s]
      by_cases e : j = B.R
      · subst e; rw [pk_us, fu_s]
      · rw [pk_un e, fu_n e]; exact hx.rr j (by omega)))
def zmf (M M' : zMem) : Prop := (∀ a, a ≠ 62 → a ≤ 82 → M'.1 a = M.1 a) ∧ (∀ j, j ≠ 26 → M'.1 62 j = M.1 62 j) ∧ M'.2 = M.2
theorem zmf.refl {M : zMem} : zmf M M := ⟨fun _ _ _ => rfl, fun _ _ => rfl, rfl⟩
theorem zmf.trans {M M1 M2 : zMem} (h : zmf M M1) (g : zmf M1 M2) : zmf M M2 := ⟨fun a q1 q2 => (g.1 a q1 q2).trans (h.1 a q1 q2), fun j q => (g.2.1 j q).trans (h.2.1 j q), g.2.2.trans h.2.2⟩
theorem zmf.rf {M M' : zMem} (h : zmf M M') : zrf M M' := ⟨fun a q => h.1 a (by omega) (by omega), h.2.2⟩
/-- all of a version -/
def uCbV (v : Nat) : Nat → Nat → VB → VB
  | 0, _, B => B
  | k + 1, i, B => uCbV v k (i + 1) (if B.bver i = v then uCb i 1 B else B)
theorem uCbV_Bc {v : Nat} : ∀ k i B, (uCbV v k i B).Bc = B.Bc := by
  intro k
  induction k with
  | zero => intro i B; rfl
  | succ k ih =>
    intro i B
    rw [uCbV, ih]
    split
    · exact uCb_Bc
    · rfl
theorem BOK.kCbV {V n v : Nat} : ∀ k i {B : VB}, BOK V n B → i + k = B.Bc → BOK V n (uCbV v k i B) := by
  intro k
  induction k with
  | zero => intro i B h _; exact h
  | succ k ih =>
    intro i B h q
    have q0 : i < B.Bc := by omega
    rw [uCbV]
    split
    · exact ih (i + 1) (h.kCb q0) (by rw [uCb_Bc]; omega)
    · exact ih (i + 1) h (by omega)
theorem x_cbV (N : Nat) {V n0 v : Nat} (hn : n0 ≤ 512) (hV : V ≤ 60) (hv : v < V) : ∀ k n i {B : VB} {M : zMem}, QX V B M → BOK V n0 B → i + k = B.Bc → k < n → ∃ M', fX7_callBackVersion_B2 N n (nI v) (nI i) M = some (.inl 0, M') ∧ QX V (uCbV v k i B) M' ∧ zxf M M' := by
  intro k
  induction k with
  | zero =>
    intro n i B M hx hb h1 h2
    have hBc := hb.Bc
    obtain ⟨n, rfl⟩ : ∃ q, n = q + 1 := ⟨n - 1, by omega⟩
    rw [fX7_callBackVersion_B2, hx.Bc, if_pos (nI_le (by omega) (by omega))]
    exact ⟨M, rfl, hx, zxf.refl⟩
  | succ k ih =>
    intro n i B M hx hb h1 h2
    have hBc := hb.Bc
    obtain ⟨n, rfl⟩ : ∃ q, n = q + 1 := ⟨n - 1, by omega⟩
    have hi : i < B.Bc := by omega
    have lv := hb.bver i hi
    rw [fX7_callBackVersion_B2, hx.Bc, if_neg (nI_ge (by omega) (by omega)), if_pos (z60 (by omega)), nI_clamp (by omega), hx.bver i hi, uCbV]
    unfold fX7_callBackVersion_B33
    rw [nI_1]
    by_cases g : B.bver i = v
    · rw [if_pos (by rw [g]), if_pos g]
      obtain ⟨M1, e1, e2, e3⟩ := x_cb N hx hb hn (i := i) (w := 1) hi
      rw [show (1 : Int32) = nI 1 from rfl, e1, q_zb]
      obtain ⟨M2, f1, f2, f3⟩ := ih n (i + 1) e2 (hb.kCb hi) (by rw [uCb_Bc]; omega) (by omega)
      exact ⟨M2, f1, f2, e3.trans f3⟩
    · rw [if_neg (fun q => g ((nI_eq (by omega) (by omega)).mp q)), if_neg g]
      exact ih n (i + 1) hx hb (by omega) (by omega)
/-- all that is lost -/
def uCbU (lost : Nat → Bool) : Nat → Nat → VB → VB
  | 0, _, B => B
  | k + 1, v, B => uCbU lost k (v + 1) (if lost v = true then uCbV v B.Bc 0 B else B)
theorem BOK.kCbU {V n : Nat} {lost : Nat → Bool} : ∀ k v {B : VB}, BOK V n B → BOK V n (uCbU lost k v B) := by
  intro k
  induction k with
  | zero => intro v B h; exact h
  | succ k ih =>
    intro v B h
    rw [uCbU]
    split
    · exact ih (v + 1) (h.kCbV _ _ (by omega))
    · exact ih (v + 1) h
theorem uCbU_no {lost : Nat → Bool} (h : ∀ v, lost v = false) : ∀ k v B, uCbU lost k v B = B := by
  intro k
  induction k with
  | zero => intro v B; rfl
  | succ k ih => intro v B; rw [uCbU, h v, if_neg (by decide), ih]
theorem x_cbU (N : Nat) (hN : 101 ≤ N) {V n0 : Nat} (hn : n0 ≤ 512) (hV : V ≤ 60) {lost : Nat → Bool} {L : Int64} (hL : ∀ v, v < V → lbit L v = lost v) : ∀ k n v {B : VB} {M : zMem}, M.1 1 7 = nI V → QX V B M → BOK V n0 B → v + k = V → k < n → ∃ M', fX7_callBackUnheld_B2 N n L (nI v) M = some (.inl 0, M') ∧ QX V (uCbU lost k v B) M' ∧ zxf M M' := by
  intro k
  induction k with
  | zero =>
    intro n v B M hM hx hb h1 h2
    obtain ⟨n, rfl⟩ : ∃ q, n = q + 1 := ⟨n - 1, by omega⟩
    rw [fX7_callBackUnheld_B2, hM, if_pos (nI_le (by omega) (by omega))]
    exact ⟨M, rfl, hx, zxf.refl⟩
  | succ k ih =>
    intro n v B M hM hx hb h1 h2
    obtain ⟨n, rfl⟩ : ∃ q, n = q + 1 := ⟨n - 1, by omega⟩
    have hBc := hb.Bc
    rw [fX7_callBackUnheld_B2, hM, if_neg (nI_ge (by omega) (by omega)), q_has N _ (by omega), q_zb, hL v (by omega), uCbU]
    unfold fX7_callBackUnheld_B26 fX7_callBackVersion
    rw [nI_1]
    cases lost v
    · rw [if_pos (by rfl), if_neg (by decide)]
      exact ih n (v + 1) hM hx hb (by omega) (by omega)
    · rw [if_neg (by decide), if_pos rfl]
      obtain ⟨M1, e1, e2, e3⟩ := x_cbV N hn hV (v := v) (by omega) B.Bc N 0 hx hb (by omega) (by omega)
      rw [nI_0] at e1
      rw [e1, q_zb]
      obtain ⟨M2, f1, f2, f3⟩ := ih n (v + 1) (by rw [e3.1 1 (by decide)]; exact hM) e2 (hb.kCbV _ _ (by omega)) (by omega) (by omega)
      exact ⟨M2, f1, f2, e3.trans f3⟩

