/-! pure: sell, traced, tracedAt, stopped -/
theorem nz_fu {f : Nat → Nat} {i x : Nat} : ∀ k, nz (fu f i x) k + (if i < k ∧ 0 < f i then 1 else 0) = nz f k + (if i < k ∧ 0 < x then 1 else 0) := by
  intro k
  induction k with
  | zero => rw [if_neg (by omega), if_neg (by omega)]; rfl
  | succ k ih =>
    unfold nz
    by_cases e : k = i
    · subst e
      rw [fu_s]
      rw [if_neg (by omega), if_neg (by omega)] at ih
      by_cases c1 : 0 < f k <;> by_cases c2 : 0 < x <;> simp [c1, c2] <;> omega
    · rw [fu_n e]
      have q1 : (i < k + 1 ∧ 0 < f i) ↔ (i < k ∧ 0 < f i) := by omega
      have q2 : (i < k + 1 ∧ 0 < x) ↔ (i < k ∧ 0 < x) := by omega
      simp only [q1, q2]
      omega
theorem nz_le1 {f : Nat → Nat} {i x : Nat} (k : Nat) : nz (fu f i x) k ≤ nz f k + 1 := by
  have := nz_fu (f := f) (i := i) (x := x) k
  have h2 : (if i < k ∧ 0 < x then 1 else 0) ≤ 1 := by split <;> omega
  omega
def uSell (i c : Nat) (B : VB) : VB := (VB.mk B.L B.T B.Bc B.R B.rcp B.bag B.loa B.cond B.cnt B.mis B.st B.sl B.bver B.blot (fu B.left i (B.left i - c)) (fu B.out i (B.out i + c)) B.rb B.rl B.rr)
theorem BOK.uSell {V n : Nat} {B : VB} (hb : BOK V n B) {i c : Nat} (hi : i < B.Bc) (hc : c ≤ B.left i) : BOK V (n + 1) (uSell i c B) :=
  (BOK.mk hb.L hb.T hb.Bc ( by
    have h1 := hb.R
    have h2 := nz_le1 (f := B.out) (i := i) (x := B.out i + c) 60
    show B.R + nz (fu B.out i (B.out i + c)) 60 ≤ n + 1
    omega) hb.rcp hb.cond hb.cnt hb.st hb.sl hb.sl0 hb.bver hb.blot ( fun j hj => by
    show fu B.left i (B.left i - c) j + fu B.out i (B.out i + c) j ≤ 40
    have h1 := hb.left j hj
    by_cases e : j = i
    · subst e; rw [fu_s, fu_s]; omega
    · rw [fu_n e, fu_n e]; exact h1) ( fun j hj => by
    have hj' : B.Bc ≤ j := hj
    show fu B.out i (B.out i + c) j = 0
    rw [fu_n (by omega)]; exact hb.out0 j hj'))
theorem QX.uSell {V : Nat} {B : VB} {M : zMem} (hx : QX V B M) {i c : Nat} : QX V (uSell i c B) (zsI (zsI M 56 i (nI (B.left i - c))) 57 i (nI (B.out i + c))) :=
  (QX.mk (by simp (disch := omega) only [zsI_n, zsI_s, pk_un, zsL_1, zsI_2]; exact hx.rcp) (by simp (disch := omega) only [zsI_n, zsI_s, pk_un, zsL_1, zsI_2]; exact hx.bag) (by simp (disch := omega) only [zsI_n, zsI_s, pk_un, zsL_1, zsI_2]; exact hx.loa) (by simp (disch := omega) only [zsI_n, zsI_s, pk_un, zsL_1, zsI_2]; exact hx.L) (by simp (disch := omega) only [zsI_n, zsI_s, pk_un, zsL_1, zsI_2]; exact hx.cb) (fun c hc i hi => by simp (disch := omega) only [zsI_n, zsI_s, pk_un, zsL_1, zsI_2]; exact hx.st c hc i hi) (by simp (disch := omega) only [zsI_n, zsI_s, pk_un, zsL_1, zsI_2]; exact hx.cnt) (by simp (disch := omega) only [zsI_n, zsI_s, pk_un, zsL_1, zsI_2]; exact hx.T) (fun c hc i h1 h2 => by simp (disch := omega) only [zsI_n, zsI_s, pk_un, zsL_1, zsI_2]; exact hx.sl c hc i h1 h2) (by simp (disch := omega) only [zsI_n, zsI_s, pk_un, zsL_1, zsI_2]; exact hx.mis) (by simp (disch := omega) only [zsI_n, zsI_s, pk_un, zsL_1, zsI_2]; exact hx.Bc) (by simp (disch := omega) only [zsI_n, zsI_s, pk_un, zsL_1, zsI_2]; exact hx.bver) (by simp (disch := omega) only [zsI_n, zsI_s, pk_un, zsL_1, zsI_2]; exact hx.blot) ( fun j hj => by
    show _ = nI (fu B.left i (B.left i - c) j)
    rw [zsI_n (by decide), zsI_s]
    by_cases e : j = i
    · subst e; rw [pk_us, fu_s]
    · rw [pk_un e, fu_n e]; exact hx.left j hj) ( fun j hj => by
    show _ = nI (fu B.out i (B.out i + c) j)
    rw [zsI_s]
    by_cases e : j = i
    · subst e; rw [pk_us, fu_s]
    · rw [pk_un e, fu_n e, zsI_n (by decide)]; exact hx.out j hj) (by simp (disch := omega) only [zsI_n, zsI_s, pk_un, zsL_1, zsI_2]; exact hx.R) (by simp (disch := omega) only [zsI_n, zsI_s, pk_un, zsL_1, zsI_2]; exact hx.rb) (by simp (disch := omega) only [zsI_n, zsI_s, pk_un, zsL_1, zsI_2]; exact hx.rl) (by simp (disch := omega) only [zsI_n, zsI_s, pk_un, zsL_1, zsI_2]; exact hx.rr))
theorem QF.uSell {V : Nat} {B : VB} {M : zMem} (hx : QF V B M) {i c : Nat} : QF V (uSell i c B) (zsI (zsI M 82 i (nI (B.left i - c))) 83 i (nI (B.out i + c))) :=
  (QF.mk (by simp (disch := omega) only [zsI_n, zsI_s, pk_un, zsL_1, zsI_2]; exact hx.T) (by simp (disch := omega) only [zsI_n, zsI_s, pk_un, zsL_1, zsI_2]; exact hx.L) (by simp (disch := omega) only [zsI_n, zsI_s, pk_un, zsL_1, zsI_2]; exact hx.Bc) (by simp (disch := omega) only [zsI_n, zsI_s, pk_un, zsL_1, zsI_2]; exact hx.R) (by simp (disch := omega) only [zsI_n, zsI_s, pk_un, zsL_1, zsI_2]; exact hx.rcp) (by simp (disch := omega) only [zsI_n, zsI_s, pk_un, zsL_1, zsI_2]; exact hx.bag) (by simp (disch := omega) only [zsI_n, zsI_s, pk_un, zsL_1, zsI_2]; exact hx.loa) (by simp (disch := omega) only [zsI_n, zsI_s, pk_un, zsL_1, zsI_2]; exact hx.sl) (by simp (disch := omega) only [zsI_n, zsI_s, pk_un, zsL_1, zsI_2]; exact hx.cond) (by simp (disch := omega) only [zsI_n, zsI_s, pk_un, zsL_1, zsI_2]; exact hx.st) (by simp (disch := omega) only [zsI_n, zsI_s, pk_un, zsL_1, zsI_2]; exact hx.cnt) (by simp (disch := omega) only [zsI_n, zsI_s, pk_un, zsL_1, zsI_2]; exact hx.mis) (by simp (disch := omega) only [zsI_n, zsI_s, pk_un, zsL_1, zsI_2]; exact hx.bver) (by simp (disch := omega) only [zsI_n, zsI_s, pk_un, zsL_1, zsI_2]; exact hx.blot) ( fun j hj => by
    show _ = nI (fu B.left i (B.left i - c) j)
    rw [zsI_n (by decide), zsI_s]
    by_cases e : j = i
    · subst e; rw [pk_us, fu_s]
    · rw [pk_un e, fu_n e]; exact hx.left j hj) ( fun j hj => by
    show _ = nI (fu B.out i (B.out i + c) j)
    rw [zsI_s]
    by_cases e : j = i
    · subst e; rw [pk_us, fu_s]
    · rw [pk_un e, fu_n e, zsI_n (by decide)]; exact hx.out j hj) (by simp (disch := omega) only [zsI_n, zsI_s, pk_un, zsL_1, zsI_2]; exact hx.rb) (by simp (disch := omega) only [zsI_n, zsI_s, pk_un, zsL_1, zsI_2]; exact hx.rl) (by simp (disch := omega) only [zsI_n, zsI_s, pk_un, zsL_1, zsI_2]; exact hx.rr))
theorem b_sell (N n : Nat) (hN : 101 ≤ N) {A : VA} {B : VB} {M : zMem} (h : JJ n A B M) (x y : Int32) : Both n (fL_sell N x y) (fX8_sell N x y) M := by
  have hBc := h.bok.Bc
  have no1 : x < 0 ∨ nI B.Bc ≤ x → Both n (fL_sell N x y) (fX8_sell N x y) M := fun c => by
    refine Both.no h (r := 1) ?_ ?_ (by decide)
    · unfold fL_sell fX7_sell
      rw [x_Batch N h.rx.Bc c, q_zbr, q_zbxr, if_pos (by decide)]
    · unfold fX8_sell fX8_sell_B56
      rw [h.rm.2.Bc, m_inn N (by omega) c, q_zb, if_pos rfl, q_zl, zsI_s, pk_us, if_neg (by decide)]
  rcases pk_ix x (n := B.Bc) (by omega) with c | c | ⟨i, hi, rfl⟩
  · exact no1 (Or.inl c)
  · exact no1 (Or.inr c)
  have hl := h.bok.left i hi
  have h4 := bar_lt (A := A) (B := B) (i := i)
  have z : zin (nI i) 60 = true := z60 (by omega)
  rcases q_rng y 1 40 (by decide) (by decide) with c | c | ⟨t, t1, t2, rfl⟩
  · refine Both.no h (r := 2) ?_ ?_ (by decide)
    · unfold fL_sell fX7_sell
      rw [x_Batch' N h.rx.Bc (by omega) hi, q_zb, if_pos (show y < 1 from c), q_zbxr, if_neg (by decide), if_pos (by decide)]
    · unfold fX8_sell fX8_sell_B56
      rw [h.rm.2.Bc, m_in N (by omega) hi, q_zb, if_neg (by decide), m_lo N (show y < 1 from c), q_zb, if_pos rfl, q_zl, zsI_s, pk_us, if_neg (by decide)]
  · refine Both.no h (r := 2) ?_ ?_ (by decide)
    · unfold fL_sell fX7_sell
      have c1 : ¬ y < 1 := fun q => by
        have e1 := Int32.lt_iff_toInt_lt.mp c
        have e2 := Int32.lt_iff_toInt_lt.mp q
        have e3 : (nI 40).toInt = 40 := rfl
        have e4 : (1 : Int32).toInt = 1 := rfl
        omega
      rw [x_Batch' N h.rx.Bc (by omega) hi, q_zb, if_neg c1, if_neg (show ¬ y ≤ 40 from q_gt c), q_zbxr, if_neg (by decide), if_pos (by decide)]
    · unfold fX8_sell fX8_sell_B56
      rw [h.rm.2.Bc, m_in N (by omega) hi, q_zb, if_neg (by decide), m_hi N (show (40 : Int32) < y from c), q_zb, if_pos rfl, q_zl, zsI_s, pk_us, if_neg (by decide)]
  have y1 : ¬ nI t < 1 := nI_nlt (b := 1) t1 (by omega)
  have y2 : nI t ≤ 40 := nI_le (b := 40) t2 (by decide)
  have y3 : ¬ (40 : Int32) < nI t := nI_nlt (a := 40) t2 (by decide)
  by_cases g : bar A B i = 0 ∧ t ≤ B.left i
  · obtain ⟨g1, g2⟩ := g
    refine Both.go (A' := A) (B' := uSell i t B) (M1 := zsI (zsI M 56 i (nI (B.left i - t))) 57 i (nI (B.out i + t))) (v := nI (B.left i - t)) h.aok (h.bok.uSell hi g2) ?_ ((h.ra.to (zeq_sI (by omega))).to (zeq_sI (by omega))) h.rx.uSell (((h.rt.to (zeq_sI (by omega))).to (zeq_sI (by omega))).up (Nat.le_succ n)) ⟨zsI (zsI (zsI (zsL (zsI (zsI M 56 i (nI (B.left i - t))) 57 i (nI (B.out i + t))) 87 0 (nI (B.left i - t)).toInt64) 62 30 0) 82 i (nI (B.left i - t))) 83 i (nI (B.out i + t)), ?_, by rw [zsI_n (by decide), zsI_n (by decide), zsI_s, pk_us], ((zrf.refl.sI (by omega)).sI (by omega)).sI (by omega), ?_⟩
    · unfold fL_sell fX7_sell
      rw [x_Batch' N h.rx.Bc (by omega) hi, q_zb, if_neg y1, if_pos y2, x_bar 1 N h.ra h.rx h.aok h.bok hi, q_zb, g1, if_pos (by decide)]
      simp only [z, if_true, q_zl]
      rw [nI_clamp (by omega), h.rx.left i hi, if_pos (nI_le g2 (by omega)), zsI_n (show 57 ≠ 56 by decide), h.rx.out i hi, nI_add, pk_sub g2, zsI_n (show 56 ≠ 57 by decide), zsI_s, pk_us, q_zbx, if_pos z1, cl0]
    · have hm : QM A B (zsI (zsL (zsI (zsI M 56 i (nI (B.left i - t))) 57 i (nI (B.out i + t))) 87 0 (nI (B.left i - t)).toInt64) 62 30 0) := (h.rm.cong (fun a h1 h2 => by rw [zsL_1, zsI_n (by omega), zsI_n (by omega)])).note
      have hm0 : QM A B (zsL (zsI (zsI M 56 i (nI (B.left i - t))) 57 i (nI (B.out i + t))) 87 0 (nI (B.left i - t)).toInt64) := h.rm.cong (fun a h1 h2 => by rw [zsL_1, zsI_n (by omega), zsI_n (by omega)])
      unfold fX8_sell fX8_sell_B56
      rw [hm0.2.Bc, m_in N (by omega) hi, q_zb, if_neg (by decide), m_rin N y1 y3, q_zb, if_neg (by decide), m_bar N hN hm0 h.aok h.bok hi, q_zb, g1, if_neg (by decide)]
      simp only [z, if_true, q_zl]
      rw [nI_clamp (by omega), hm0.2.left i hi, if_pos (nI_le g2 (by omega)), zsI_s, pk_us, if_pos (by decide), hm.2.left i hi, zsI_n (show 83 ≠ 82 by decide), hm.2.out i (by omega), nI_add, pk_sub g2, zsI_n (show 82 ≠ 83 by decide), zsI_s, pk_us]
    · have hm : QM A B (zsI (zsL (zsI (zsI M 56 i (nI (B.left i - t))) 57 i (nI (B.out i + t))) 87 0 (nI (B.left i - t)).toInt64) 62 30 0) := (h.rm.cong (fun a h1 h2 => by rw [zsL_1, zsI_n (by omega), zsI_n (by omega)])).note
      exact ⟨(hm.1.w (by omega)).w (by omega), hm.2.uSell⟩
  · refine Both.no h (r := 3) ?_ ?_ (by decide)
    · unfold fL_sell fX7_sell
      rw [x_Batch' N h.rx.Bc (by omega) hi, q_zb, if_neg y1, if_pos y2, x_bar 1 N h.ra h.rx h.aok h.bok hi, q_zb]
      by_cases g1 : bar A B i = 0
      · rw [g1, if_pos (by decide), if_pos z, nI_clamp (by omega), h.rx.left i hi, if_neg (nI_ge (by omega) (by omega)), q_zbxr, if_neg (by decide), if_neg (by decide), if_pos (by decide)]
      · rw [if_neg (nI_ne0 (by omega) (by omega)), q_zbxr, if_neg (by decide), if_neg (by decide), if_pos (by decide)]
    · unfold fX8_sell fX8_sell_B51 fX8_sell_B56
      rw [h.rm.2.Bc, m_in N (by omega) hi, q_zb, if_neg (by decide), m_rin N y1 y3, q_zb, if_neg (by decide), m_bar N hN h.rm h.aok h.bok hi, q_zb]
      by_cases g1 : bar A B i = 0
      · rw [g1, if_neg (by decide), if_pos z, nI_clamp (by omega), h.rm.2.left i hi, if_neg (nI_ge (by omega) (by omega)), q_zl, zsI_s, pk_us, if_neg (by decide)]
      · rw [if_pos (show (0 : Int32) < nI (bar A B i) from nI_lt (a := 0) (by omega) (by omega)), q_zl, zsI_s, pk_us, if_neg (by decide)]
theorem x_Lot (N : Nat) {K : Nat} {M : zMem} (e : M.1 37 0 = nI K) {x : Int32} (h : x < 0 ∨ nI K ≤ x) : fX7_checkLot N x M = some (.inr 1, M) := x_chk h (by unfold fX7_checkLot; rw [e])
theorem x_Lot' (N : Nat) {K : Nat} {M : zMem} (e : M.1 37 0 = nI K) (hK : K < 2 ^ 30) {j : Nat} (h : j < K) : fX7_checkLot N (nI j) M = some (.inl 0, M) := x_chk' hK h (by unfold fX7_checkLot; rw [e])
theorem m_Lot (N : Nat) {K : Nat} {M : zMem} (e : M.1 62 16 = nI K) (hK : K < 2 ^ 30) {x : Int32} (h : x < 0 ∨ nI K ≤ x) : fX8_isLot N x M = some (.inl 0, M) := by
  unfold fX8_isLot
  rw [e, m_inn N hK h, q_zb, if_pos (by decide)]
theorem m_Lot' (N : Nat) {K : Nat} {M : zMem} (e : M.1 62 16 = nI K) (hK : K < 2 ^ 30) {j : Nat} (h : j < K) : fX8_isLot N (nI j) M = some (.inl 1, M) := by
  unfold fX8_isLot
  rw [e, m_in N hK h, q_zb, if_pos (by decide)]
def trc (B : VB) (l : Nat) : Nat → Nat → Nat
  | 0, _ => 0
  | k + 1, i => ((B.blot i).testBit l).toNat + trc B l k (i + 1)
theorem x_trc_loop (N : Nat) {V n0 : Nat} {B : VB} {M : zMem} (hx : QX V B M) (hb : BOK V n0 B) {l : Nat} (hl : l < 16) : ∀ k n i s, i + k = B.Bc → k < n → fX7_traced_B9 N n (nI l) (nI s) (nI i) M = some (.inl (nI (s + trc B l k i)), M) := by
  have hBc := hb.Bc
  intro k
  induction k with
  | zero =>
    intro n i s h1 h2
    obtain ⟨n, rfl⟩ : ∃ q, n = q + 1 := ⟨n - 1, by omega⟩
    rw [fX7_traced_B9, hx.Bc, if_pos (nI_le (by omega) (by omega))]
    rfl
  | succ k ih =>
    intro n i s h1 h2
    obtain ⟨n, rfl⟩ : ∃ q, n = q + 1 := ⟨n - 1, by omega⟩
    have h16 := hb.blot i (by omega)
    rw [fX7_traced_B9, hx.Bc, if_neg (nI_ge (by omega) (by omega)), if_pos (z60 (by omega)), nI_clamp (by omega), hx.blot i (by omega), q_has N _ (by omega), q_zb, q_lofI (by omega) (by omega), trc]
    unfold fX7_traced_B40
    cases (B.blot i).testBit l
    · rw [if_pos (by rfl), nI_1, ih n (i + 1) _ (by omega) (by omega)]
      show _ = some (Sum.inl (nI (s + (0 + trc B l k (i + 1)))), M)
      rw [Nat.zero_add]
    · rw [if_neg (by decide), nI_1, nI_1, ih n (i + 1) _ (by omega) (by omega)]
      show _ = some (Sum.inl (nI (s + (1 + trc B l k (i + 1)))), M)
      rw [Nat.add_assoc]
theorem m_trc_loop (N : Nat) {V n0 : Nat} {B : VB} {M : zMem} (hm : QF V B M) (hb : BOK V n0 B) {l : Nat} (hl : l < 16) (e0 : M.1 62 30 = 0) : ∀ k n i s, i + k = B.Bc → k < n → fX8_traced_B21 N n (nI l) (nI s) (nI i) M = some (.inl (nI (s + trc B l k i)), M) := by
  have hBc := hb.Bc
  intro k
  induction k with
  | zero =>
    intro n i s h1 h2
    obtain ⟨n, rfl⟩ : ∃ q, n = q + 1 := ⟨n - 1, by omega⟩
    rw [fX8_traced_B21, hm.Bc, if_pos (nI_le (by omega) (by omega))]
    rfl
  | succ k ih =>
    intro n i s h1 h2
    obtain ⟨n, rfl⟩ : ∃ q, n = q + 1 := ⟨n - 1, by omega⟩
    have h16 := hb.blot i (by omega)
    rw [fX8_traced_B21, hm.Bc, if_neg (nI_ge (by omega) (by omega)), e0, if_pos rfl, if_pos (z60 (by omega)), nI_clamp (by omega), hm.blot i (by omega), q_bit (by omega) (by omega), nI_add, q_zv, nI_1, ih n (i + 1) _ (by omega) (by omega), trc, Nat.add_assoc]
theorem b_traced (N n : Nat) (hN : 101 ≤ N) {A : VA} {B : VB} {M : zMem} (h : JJ n A B M) (x : Int32) : Both n (fL_traced N x) (fX8_traced N x) M := by
  have hBc := h.bok.Bc
  have hL := h.bok.L
  have no : x < 0 ∨ nI B.L ≤ x → Both n (fL_traced N x) (fX8_traced N x) M := fun c => by
    refine Both.no h (r := 1) ?_ ?_ (by decide)
    · unfold fL_traced fX7_traced
      rw [x_Lot N h.rx.L c, q_zbr, q_zbxr, if_pos (by decide)]
    · unfold fX8_traced fX8_traced_B14
      obtain ⟨N', rfl⟩ : ∃ q, N = q + 1 := ⟨N - 1, by omega⟩
      rw [m_Lot _ h.rm.2.L (by omega) c, q_zb, if_pos rfl, q_zl, fX8_traced_B21, zsI_s, pk_us]
      by_cases g : upd (M.1 62) 30 1 21 ≤ 0
      · rw [if_pos g]
      · rw [if_neg g, if_neg (by decide)]
  rcases pk_ix x (n := B.L) (by omega) with c | c | ⟨l, hl, rfl⟩
  · exact no (Or.inl c)
  · exact no (Or.inr c)
  · refine Both.get h (v := nI (0 + trc B l B.Bc 0)) ?_ ?_
    · unfold fL_traced fX7_traced
      rw [x_Lot' N h.rx.L (by omega) hl, q_zb]
      have := x_trc_loop N h.rx h.bok (l := l) (by omega) B.Bc N 0 0 (by omega) (by omega)
      rw [nI_0] at this
      rw [this, q_zbx, if_pos z1, cl0]
      rfl
    · unfold fX8_traced fX8_traced_B14
      rw [m_Lot' N (M := zsL M 87 0 _) h.rm.2.L (by omega) hl, q_zb, if_neg (by decide), q_zl]
      exact m_trc_loop N h.rm.out.note.2 h.bok (by omega) (by rw [zsI_s, pk_us]) B.Bc N 0 0 (by omega) (by omega)
def tra (B : VB) (l : Nat) : Nat → Nat → Nat → Option Nat
  | 0, _, _ => none
  | k + 1, i, r => if (B.blot i).testBit l = true then (if r = 0 then some i else tra B l k (i + 1) (r - 1)) else tra B l k (i + 1) r
def traX (M : zMem) : Option Nat → zRES
  | none => some (.inr 1, M)
  | some j => some (.inl (nI j), M)
def traM (M : zMem) : Option Nat → zRES
  | none => some (.inl 0, zsI M 62 30 1)
  | some j => some (.inl (nI j), M)
theorem x_tra_loop (N : Nat) {V n0 : Nat} {B : VB} {M : zMem} (hx : QX V B M) (hb : BOK V n0 B) {l p : Nat} (hl : l < 16) (hp : p < 2 ^ 31) : ∀ k n i s, i + k = B.Bc → k < n → s ≤ i → s ≤ p → fX7_tracedAt_B10 N n (nI l) (nI p) (nI s) (nI i) M = traX M (tra B l k i (p - s)) := by
  have hBc := hb.Bc
  intro k
  induction k with
  | zero =>
    intro n i s h1 h2 h3 h4
    obtain ⟨n, rfl⟩ : ∃ q, n = q + 1 := ⟨n - 1, by omega⟩
    rw [fX7_tracedAt_B10, hx.Bc, if_pos (nI_le (by omega) (by omega))]
    rfl
  | succ k ih =>
    intro n i s h1 h2 h3 h4
    obtain ⟨n, rfl⟩ : ∃ q, n = q + 1 := ⟨n - 1, by omega⟩
    have h16 := hb.blot i (by omega)
    rw [fX7_tracedAt_B10, hx.Bc, if_neg (nI_ge (by omega) (by omega)), if_pos (z60 (by omega)), nI_clamp (by omega), hx.blot i (by omega), q_has N _ (by omega), q_zb, q_lofI (by omega) (by omega), tra]
    unfold fX7_tracedAt_B51
    cases (B.blot i).testBit l
    · rw [if_pos (by rfl), nI_1, ih n (i + 1) _ (by omega) (by omega) (by omega) h4, if_neg (by decide)]
    · rw [if_neg (by decide), if_pos rfl]
      by_cases g : s = p
      · rw [if_pos (by rw [g]), if_pos (by omega)]; rfl
      · rw [if_neg (fun q => g ((nI_eq (by omega) (by omega)).mp q)), if_neg (by omega), nI_1, nI_1, ih n (i + 1) _ (by omega) (by omega) (by omega) (by omega), show p - (s + 1) = p - s - 1 by omega]
theorem x_tra_neg (N : Nat) {V n0 : Nat} {B : VB} {M : zMem} (hx : QX V B M) (hb : BOK V n0 B) {l : Nat} {y : Int32} (hl : l < 16) (hy : y < 0) : ∀ k n i s, i + k = B.Bc → k < n → s ≤ i → fX7_tracedAt_B10 N n (nI l) y (nI s) (nI i) M = some (.inr 1, M) := by
  have hBc := hb.Bc
  intro k
  induction k with
  | zero =>
    intro n i s h1 h2 h3
    obtain ⟨n, rfl⟩ : ∃ q, n = q + 1 := ⟨n - 1, by omega⟩
    rw [fX7_tracedAt_B10, hx.Bc, if_pos (nI_le (by omega) (by omega))]
  | succ k ih =>
    intro n i s h1 h2 h3
    obtain ⟨n, rfl⟩ : ∃ q, n = q + 1 := ⟨n - 1, by omega⟩
    have h16 := hb.blot i (by omega)
    rw [fX7_tracedAt_B10, hx.Bc, if_neg (nI_ge (by omega) (by omega)), if_pos (z60 (by omega)), nI_clamp (by omega), hx.blot i (by omega), q_has N _ (by omega), q_zb, q_lofI (by omega) (by omega)]
    unfold fX7_tracedAt_B51
    cases (B.blot i).testBit l
    · rw [if_pos (by rfl), nI_1, ih n (i + 1) _ (by omega) (by omega) (by omega)]
    · rw [if_neg (by decide), if_neg (fun q => nI_pos (n := s) (by omega) (by rw [q]; exact hy)), nI_1, nI_1, ih n (i + 1) _ (by omega) (by omega) (by omega)]
theorem m_tra_loop (N : Nat) {V n0 : Nat} {B : VB} {M : zMem} (hm : QF V B M) (hb : BOK V n0 B) {l : Nat} (hl : l < 16) (e0 : M.1 62 30 = 0) : ∀ k n i r, i + k = B.Bc → k < n → r < 2 ^ 31 → fX8_tracedAt_B26 N n (nI l) (nI r) (nI i) M = traM M (tra B l k i r) := by
  have hBc := hb.Bc
  intro k
  induction k with
  | zero =>
    intro n i r h1 h2 h3
    obtain ⟨n, rfl⟩ : ∃ q, n = q + 1 := ⟨n - 1, by omega⟩
    rw [fX8_tracedAt_B26, hm.Bc, if_pos (nI_le (by omega) (by omega))]
    rfl
  | succ k ih =>
    intro n i r h1 h2 h3
    obtain ⟨n, rfl⟩ : ∃ q, n = q + 1 := ⟨n - 1, by omega⟩
    have h16 := hb.blot i (by omega)
    rw [fX8_tracedAt_B26, hm.Bc, if_neg (nI_ge (by omega) (by omega)), e0, if_pos rfl, if_pos (z60 (by omega)), nI_clamp (by omega), hm.blot i (by omega), q_bit (by omega) (by omega), tra]
    unfold fX8_tracedAt_B67
    cases (B.blot i).testBit l
    · rw [if_neg (by decide), nI_1, ih n (i + 1) _ (by omega) (by omega) h3, if_neg (by decide)]
    · rw [if_pos (by rfl), if_pos rfl]
      by_cases g : r = 0
      · rw [g, if_pos (by rfl), if_pos rfl]; rfl
      · rw [if_neg (nI_ne0 (by omega) h3), if_neg g, q_minus, q_pred (by omega), nI_1, ih n (i + 1) _ (by omega) (by omega) (by omega)]
theorem b_tracedAt (N n : Nat) (hN : 101 ≤ N) {A : VA} {B : VB} {M : zMem} (h : JJ n A B M) (x y : Int32) : Both n (fL_tracedAt N x y) (fX8_tracedAt N x y) M := by
  have hBc := h.bok.Bc
  have hL := h.bok.L
  have far : ∀ l p : Int32, fX8_tracedAt_B26 N N l p 0 (zsI M 62 30 1) = some (.inl 0, zsI M 62 30 1) := fun l p => by
    obtain ⟨q, hq⟩ : ∃ q, N = q + 1 := ⟨N - 1, by omega⟩
    have : ∀ n0, n0 = q + 1 → fX8_tracedAt_B26 N n0 l p 0 (zsI M 62 30 1) = some (.inl 0, zsI M 62 30 1) := fun n0 e => by
      subst e
      rw [fX8_tracedAt_B26]
      unfold fX8_tracedAt_B73 fX8_fails
      rw [zsI_s, pk_us]
      have e0 : (1 : Int32) ≠ 0 := by decide
      by_cases g : upd (M.1 62) 30 1 21 ≤ 0
      · rw [if_pos g, q_zl, q_zb, zsI_twice]
      · rw [if_neg g, if_neg (by decide), q_zl, q_zb, zsI_twice]
    exact this N hq
  have no : x < 0 ∨ nI B.L ≤ x → Both n (fL_tracedAt N x y) (fX8_tracedAt N x y) M := fun c => by
    refine Both.no h (r := 1) ?_ ?_ (by decide)
    · unfold fL_tracedAt fX7_tracedAt
      rw [x_Lot N h.rx.L c, q_zbr, q_zbxr, if_pos (by decide)]
    · unfold fX8_tracedAt fX8_tracedAt_B17 fX8_tracedAt_B18
      rw [m_Lot _ h.rm.2.L (by omega) c, q_zb, if_pos rfl, q_zl, far]
  rcases pk_ix x (n := B.L) (by omega) with c | c | ⟨l, hl, rfl⟩
  · exact no (Or.inl c)
  · exact no (Or.inr c)
  by_cases hy : y < 0
  · refine Both.no h (r := 1) ?_ ?_ (by decide)
    · unfold fL_tracedAt fX7_tracedAt
      have := x_tra_neg N h.rx h.bok (l := l) (by omega) hy B.Bc N 0 0 (by omega) (by omega) (by omega)
      rw [nI_0] at this
      rw [x_Lot' N h.rx.L (by omega) hl, q_zb, this, q_zbxr, if_pos (by decide)]
    · unfold fX8_tracedAt fX8_tracedAt_B17 fX8_tracedAt_B18
      rw [m_Lot' _ h.rm.2.L (by omega) hl, q_zb, if_neg (by decide), if_pos hy, q_zl, far]
  · obtain ⟨p, hp, rfl⟩ := nI_of hy
    have ex := x_tra_loop N h.rx h.bok (l := l) (by omega) hp B.Bc N 0 0 (by omega) (by omega) (by omega) (by omega)
    rw [nI_0, Nat.sub_zero] at ex
    have hz : ∀ M0 : zMem, QF A.V B M0 → M0.1 62 30 = 0 → fX8_tracedAt_B26 N N (nI l) (nI p) 0 M0 = traM M0 (tra B l B.Bc 0 p) := fun M0 q1 q2 => by
      have := m_tra_loop N q1 h.bok (l := l) (by omega) q2 B.Bc N 0 p (by omega) (by omega) hp
      rw [nI_0] at this
      exact this
    cases g : tra B l B.Bc 0 p with
    | none =>
      refine Both.no h (r := 1) ?_ ?_ (by decide)
      · unfold fL_tracedAt fX7_tracedAt
        rw [x_Lot' N h.rx.L (by omega) hl, q_zb, ex, g, traX, q_zbxr, if_pos (by decide)]
      · unfold fX8_tracedAt fX8_tracedAt_B18
        rw [m_Lot' _ h.rm.2.L (by omega) hl, q_zb, if_neg (by decide), if_neg hy, q_zl, hz _ h.rm.note.2 (by rw [zsI_s, pk_us]), g, traM, zsI_twice]
    | some j =>
      refine Both.get h (v := nI j) ?_ ?_
      · unfold fL_tracedAt fX7_tracedAt
        rw [x_Lot' N h.rx.L (by omega) hl, q_zb, ex, g, traX, q_zbx, if_pos z1, cl0]
        rfl
      · unfold fX8_tracedAt fX8_tracedAt_B18
        rw [m_Lot' _ (M := zsL M 87 0 _) h.rm.2.L (by omega) hl, q_zb, if_neg (by decide), if_neg hy, q_zl, hz _ h.rm.out.note.2 (by rw [zsI_s, pk_us]), g, traM]
def stp1 (A : VA) (B : VB) (b h : Nat) : Nat := if B.sl b h = 0 then 0 else if held A (B.sl b h - 1) = true then 0 else 1
def stp (A : VA) (B : VB) (b : Nat) : Nat → Nat → Nat
  | 0, _ => 0
  | k + 1, a => stp1 A B b (B.T + a) + stp A B b k (a + 1)
def stps (A : VA) (B : VB) : Nat → Nat → Nat
  | 0, _ => 0
  | k + 1, b => stp A B b 51 0 + stps A B k (b + 1)
theorem x_stp_loop (N : Nat) {n0 : Nat} {A : VA} {B : VB} {M : zMem} (ha : QA 1 A M) (hx : QX A.V B M) (hk : AOK A) (hb : BOK A.V n0 B) {b : Nat} (h5 : b < 5) {again : Int32 → Int32 → zMem → zRES} : ∀ k n i s, i + k = 51 → k < n → fX7_stopped_B11 N again n (nI s) (nI b) (nI i) M = again (nI (s + stp A B b k i)) (nI (b + 1)) M := by
  have hT := hb.T
  have hv := hk.ver
  intro k
  induction k with
  | zero =>
    intro n i s h1 h2
    obtain ⟨n, rfl⟩ : ∃ q, n = q + 1 := ⟨n - 1, by omega⟩
    rw [fX7_stopped_B11, if_pos (show (50 : Int32) < nI i from nI_lt (a := 50) (by omega) (by omega)), nI_1]
    rfl
  | succ k ih =>
    intro n i s h1 h2
    obtain ⟨n, rfl⟩ : ∃ q, n = q + 1 := ⟨n - 1, by omega⟩
    have hs := hb.sl b h5 (B.T + i) (by omega)
    rw [fX7_stopped_B11, if_neg (show ¬ (50 : Int32) < nI i from nI_nlt (a := 50) (by omega) (by omega)), hx.T, nI_add, x_slot N hx h5 (by omega) (by omega) hT, q_zb, stp, stp1]
    unfold fX7_stopped_B60
    by_cases g : B.sl b (B.T + i) = 0
    · rw [g, if_pos (by decide), if_pos rfl, nI_1, ih n (i + 1) _ (by omega) (by omega), Nat.zero_add]
    · rw [q_pred (by omega), if_neg (q_m1 (by omega)), q_has N _ (by omega), q_zb, ha.held (by omega), if_neg g]
      cases held A (B.sl b (B.T + i) - 1)
      · rw [if_pos (by rfl), if_neg (by decide), nI_1, nI_1, ih n (i + 1) _ (by omega) (by omega), Nat.add_assoc]
      · rw [if_neg (by decide), if_pos rfl, nI_1, ih n (i + 1) _ (by omega) (by omega), Nat.zero_add]
theorem x_stps_loop (N : Nat) (hN : 101 ≤ N) {n0 : Nat} {A : VA} {B : VB} {M : zMem} (ha : QA 1 A M) (hx : QX A.V B M) (hk : AOK A) (hb : BOK A.V n0 B) : ∀ k n b s, b + k = 5 → k < n → fX7_stopped_B4 N n (nI s) (nI b) M = some (.inl (nI (s + stps A B k b)), M) := by
  intro k
  induction k with
  | zero =>
    intro n b s h1 h2
    obtain ⟨n, rfl⟩ : ∃ q, n = q + 1 := ⟨n - 1, by omega⟩
    rw [fX7_stopped_B4, if_pos (show (5 : Int32) ≤ nI b from nI_le (a := 5) (by omega) (by omega))]
    rfl
  | succ k ih =>
    intro n b s h1 h2
    obtain ⟨n, rfl⟩ : ∃ q, n = q + 1 := ⟨n - 1, by omega⟩
    rw [fX7_stopped_B4, if_neg (show ¬ (5 : Int32) ≤ nI b from nI_ge (b := 5) (by omega) (by decide)), ← nI_0, x_stp_loop N ha hx hk hb (by omega) 51 N 0 s (by omega) (by omega), ih n (b + 1) _ (by omega) (by omega), stps, Nat.add_assoc]
theorem m_stp_loop (N : Nat) (hN : 101 ≤ N) {n0 : Nat} {A : VA} {B : VB} {M : zMem} (hm : QM A B M) (hk : AOK A) (hb : BOK A.V n0 B) {b : Nat} (h5 : b < 5) {again : Int32 → Int32 → zMem → zRES} : ∀ k n i s, i + k = 51 → k < n → fX8_stopped_B19 N again n (nI s) (nI b) (nI (B.T + i)) M = again (nI (s + stp A B b k i)) (nI (b + 1)) M := by
  have hT := hb.T
  have hv := hk.ver
  intro k
  induction k with
  | zero =>
    intro n i s h1 h2
    obtain ⟨n, rfl⟩ : ∃ q, n = q + 1 := ⟨n - 1, by omega⟩
    rw [fX8_stopped_B19, hm.2.T, show nI B.T + 50 = nI (B.T + 50) from nI_add _ 50, if_pos (nI_lt (by omega) (by omega)), nI_1]
    rfl
  | succ k ih =>
    intro n i s h1 h2
    obtain ⟨n, rfl⟩ : ∃ q, n = q + 1 := ⟨n - 1, by omega⟩
    have hs := hb.sl b h5 (B.T + i) (by omega)
    have z : zin (nI (1051 * b + (B.T + i))) 5255 = true := zin_nI (by omega) (by decide)
    rw [fX8_stopped_B19, hm.2.T, show nI B.T + 50 = nI (B.T + 50) from nI_add _ 50, if_neg (nI_nlt (by omega) (by omega)), q_1051, if_pos z, nI_clamp (by omega), hm.2.sl b h5 _ (by omega), q_zv, stp, stp1]
    unfold fX8_stopped_B65 fX8_stopped_B66
    by_cases g : B.sl b (B.T + i) = 0
    · rw [g, if_pos (by decide), if_pos rfl, ← nI_0, nI_add, q_zv, nI_1, Nat.add_assoc B.T i 1, ih n (i + 1) _ (by omega) (by omega), Nat.add_zero, Nat.zero_add]
    · rw [if_neg (nI_nle (by omega) (by omega)), q_pred (by omega), m_held N hN hm.1 hk (by omega), q_zb, if_neg g]
      cases held A (B.sl b (B.T + i) - 1)
      · rw [if_pos (by rfl), if_neg (by decide), nI_1, q_zv, nI_1, Nat.add_assoc B.T i 1, ih n (i + 1) _ (by omega) (by omega), Nat.add_assoc]
      · rw [if_neg (by decide), if_pos rfl, ← nI_0, nI_add, q_zv, nI_1, Nat.add_assoc B.T i 1, ih n (i + 1) _ (by omega) (by omega), Nat.add_zero, Nat.zero_add]
theorem m_stps_loop (N : Nat) (hN : 101 ≤ N) {n0 : Nat} {A : VA} {B : VB} {M : zMem} (hm : QM A B M) (hk : AOK A) (hb : BOK A.V n0 B) : ∀ k n b s, b + k = 5 → k < n → fX8_stopped_B9 N n (nI s) (nI b) M = some (.inl (nI (s + stps A B k b)), M) := by
  intro k
  induction k with
  | zero =>
    intro n b s h1 h2
    obtain ⟨n, rfl⟩ : ∃ q, n = q + 1 := ⟨n - 1, by omega⟩
    rw [fX8_stopped_B9, if_pos (show (5 : Int32) ≤ nI b from nI_le (a := 5) (by omega) (by omega))]
    rfl
  | succ k ih =>
    intro n b s h1 h2
    obtain ⟨n, rfl⟩ : ∃ q, n = q + 1 := ⟨n - 1, by omega⟩
    have := m_stp_loop N hN hm hk hb (b := b) (by omega) (again := fX8_stopped_B9 N n) 51 N 0 s (by omega) (by omega)
    rw [Nat.add_zero] at this
    rw [fX8_stopped_B9, if_neg (show ¬ (5 : Int32) ≤ nI b from nI_ge (b := 5) (by omega) (by decide)), hm.2.T, q_zv, this, ih n (b + 1) _ (by omega) (by omega), stps, Nat.add_assoc]
theorem b_stopped (N n : Nat) (hN : 101 ≤ N) {A : VA} {B : VB} {M : zMem} (h : JJ n A B M) : Both0 n (fX7_stopped N) (fX8_stopped N) M := by
  refine ⟨A, B, M, zsI M 62 30 0, nI (0 + stps A B 5 0), ?_, ?_, h.note⟩
  · exact x_stps_loop N hN h.ra h.rx h.aok h.bok 5 N 0 0 (by omega) (by omega)
  · unfold fX8_stopped
    rw [q_zl]
    exact m_stps_loop N hN h.rm.note h.aok h.bok 5 N 0 0 (by omega) (by omega)
