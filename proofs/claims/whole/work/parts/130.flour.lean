/-! pure: addLot, deliver -/
def uLot (B : VB) : VB := (VB.mk (B.L + 1) B.T B.Bc B.R B.rcp B.bag B.loa B.cond B.cnt B.mis B.st B.sl B.bver B.blot B.left B.out B.rb B.rl B.rr)
theorem BOK.kLot {V n : Nat} {B : VB} (hb : BOK V n B) (h : B.L < 16) : BOK V (n + 1) (uLot B) :=
  (BOK.mk ( h) hb.T hb.Bc ( Nat.le_trans hb.R (Nat.le_succ n)) hb.rcp ( fun l hl => hb.cond l (Nat.le_trans (Nat.le_succ _) hl)) hb.cnt ( fun b h5 i hi => Nat.lt_of_lt_of_le (hb.st b h5 i hi) (Nat.le_succ _)) hb.sl hb.sl0 hb.bver hb.blot hb.left hb.out0)
theorem QX.kLot {V : Nat} {B : VB} {M : zMem} (hx : QX V B M) : QX V (uLot B) (zsI M 37 0 (nI (B.L + 1))) :=
  (QX.mk (by simp (disch := omega) only [zsI_n, zsI_s, pk_un, zsL_1, zsI_2]; exact hx.rcp) (by simp (disch := omega) only [zsI_n, zsI_s, pk_un, zsL_1, zsI_2]; exact hx.bag) (by simp (disch := omega) only [zsI_n, zsI_s, pk_un, zsL_1, zsI_2]; exact hx.loa) ( by rw [zsI_s, pk_us]; rfl) (by simp (disch := omega) only [zsI_n, zsI_s, pk_un, zsL_1, zsI_2]; exact hx.cb) (fun c hc i hi => by simp (disch := omega) only [zsI_n, zsI_s, pk_un, zsL_1, zsI_2]; exact hx.st c hc i hi) (by simp (disch := omega) only [zsI_n, zsI_s, pk_un, zsL_1, zsI_2]; exact hx.cnt) (by simp (disch := omega) only [zsI_n, zsI_s, pk_un, zsL_1, zsI_2]; exact hx.T) (fun c hc i h1 h2 => by simp (disch := omega) only [zsI_n, zsI_s, pk_un, zsL_1, zsI_2]; exact hx.sl c hc i h1 h2) (by simp (disch := omega) only [zsI_n, zsI_s, pk_un, zsL_1, zsI_2]; exact hx.mis) (by simp (disch := omega) only [zsI_n, zsI_s, pk_un, zsL_1, zsI_2]; exact hx.Bc) (by simp (disch := omega) only [zsI_n, zsI_s, pk_un, zsL_1, zsI_2]; exact hx.bver) (by simp (disch := omega) only [zsI_n, zsI_s, pk_un, zsL_1, zsI_2]; exact hx.blot) (by simp (disch := omega) only [zsI_n, zsI_s, pk_un, zsL_1, zsI_2]; exact hx.left) (by simp (disch := omega) only [zsI_n, zsI_s, pk_un, zsL_1, zsI_2]; exact hx.out) (by simp (disch := omega) only [zsI_n, zsI_s, pk_un, zsL_1, zsI_2]; exact hx.R) (by simp (disch := omega) only [zsI_n, zsI_s, pk_un, zsL_1, zsI_2]; exact hx.rb) (by simp (disch := omega) only [zsI_n, zsI_s, pk_un, zsL_1, zsI_2]; exact hx.rl) (by simp (disch := omega) only [zsI_n, zsI_s, pk_un, zsL_1, zsI_2]; exact hx.rr))
theorem QF.kLot {V : Nat} {B : VB} {M : zMem} (hx : QF V B M) : QF V (uLot B) (zsI M 62 16 (nI (B.L + 1))) :=
  (QF.mk (by simp (disch := omega) only [zsI_n, zsI_s, pk_un, zsL_1, zsI_2]; exact hx.T) ( by rw [zsI_s, pk_us]; rfl) (by simp (disch := omega) only [zsI_n, zsI_s, pk_un, zsL_1, zsI_2]; exact hx.Bc) (by simp (disch := omega) only [zsI_n, zsI_s, pk_un, zsL_1, zsI_2]; exact hx.R) (by simp (disch := omega) only [zsI_n, zsI_s, pk_un, zsL_1, zsI_2]; exact hx.rcp) (by simp (disch := omega) only [zsI_n, zsI_s, pk_un, zsL_1, zsI_2]; exact hx.bag) (by simp (disch := omega) only [zsI_n, zsI_s, pk_un, zsL_1, zsI_2]; exact hx.loa) (by simp (disch := omega) only [zsI_n, zsI_s, pk_un, zsL_1, zsI_2]; exact hx.sl) (by simp (disch := omega) only [zsI_n, zsI_s, pk_un, zsL_1, zsI_2]; exact hx.cond) (by simp (disch := omega) only [zsI_n, zsI_s, pk_un, zsL_1, zsI_2]; exact hx.st) (by simp (disch := omega) only [zsI_n, zsI_s, pk_un, zsL_1, zsI_2]; exact hx.cnt) (by simp (disch := omega) only [zsI_n, zsI_s, pk_un, zsL_1, zsI_2]; exact hx.mis) (by simp (disch := omega) only [zsI_n, zsI_s, pk_un, zsL_1, zsI_2]; exact hx.bver) (by simp (disch := omega) only [zsI_n, zsI_s, pk_un, zsL_1, zsI_2]; exact hx.blot) (by simp (disch := omega) only [zsI_n, zsI_s, pk_un, zsL_1, zsI_2]; exact hx.left) (by simp (disch := omega) only [zsI_n, zsI_s, pk_un, zsL_1, zsI_2]; exact hx.out) (by simp (disch := omega) only [zsI_n, zsI_s, pk_un, zsL_1, zsI_2]; exact hx.rb) (by simp (disch := omega) only [zsI_n, zsI_s, pk_un, zsL_1, zsI_2]; exact hx.rl) (by simp (disch := omega) only [zsI_n, zsI_s, pk_un, zsL_1, zsI_2]; exact hx.rr))
theorem b_addLot (N n : Nat) {A : VA} {B : VB} {M : zMem} (h : JJ n A B M) : Both n (fL_addLot N) (fX8_addLot N) M := by
  have hL := h.bok.L
  by_cases g : B.L = 16
  · refine Both.no h (r := 1) ?_ ?_ (by decide)
    · unfold fL_addLot fX7_addLot
      rw [h.rx.L, g, if_neg (by decide), q_zbxr, if_pos (by decide)]
    · unfold fX8_addLot fX8_addLot_B15
      rw [h.rm.2.L, g, if_pos (by decide), q_zl, zsI_s, pk_us, if_neg (by decide)]
  · have hm : QM A B (zsL (zsI M 37 0 (nI (B.L + 1))) 87 0 (nI B.L).toInt64) := h.rm.cong (fun a h1 h2 => by rw [zsL_1, zsI_n (by omega)])
    refine Both.go (A' := A) (B' := uLot B) (M1 := zsI M 37 0 (nI (B.L + 1))) (v := nI B.L) h.aok (h.bok.kLot (by omega)) ?_ (h.ra.to (zeq_sI (by omega))) h.rx.kLot ((h.rt.to (zeq_sI (by omega))).up (Nat.le_succ n)) ⟨zsI (zsI (zsL (zsI M 37 0 (nI (B.L + 1))) 87 0 (nI B.L).toInt64) 62 30 0) 62 16 (nI (B.L + 1)), ?_, by rw [zsI_s, pk_un (by decide), zsI_s, pk_us], (zrf.refl.sI (by omega)).sI (by omega), (hm.note (x := 0)).1.w62 (by decide), (hm.note (x := 0)).2.kLot⟩
    · unfold fL_addLot fX7_addLot
      rw [h.rx.L, if_pos (show nI B.L < 16 from nI_lt (b := 16) (by omega) (by decide)), nI_1, q_zl, zsI_s, pk_us, nI_pred, q_zbx, if_pos z1, cl0]
      rfl
    · unfold fX8_addLot fX8_addLot_B15
      rw [hm.2.L, if_neg (q_ne (y := 16) (b := 16) rfl (by omega) (by decide) g), q_zl, show (zsI (zsL (zsI M 37 0 (nI (B.L + 1))) 87 0 (nI B.L).toInt64) 62 30 0).1 62 30 = 0 by rw [zsI_s, pk_us], if_pos (by decide), q_zl, (hm.note (x := 0)).2.L, nI_1, zsI_s, pk_us, nI_pred]
theorem x_good (N : Nat) {V : Nat} {B : VB} {M : zMem} (hx : QX V B M) {l : Nat} (hl : l < 16) : fX7_checkGood N (nI l) M = if B.cond l = true then some (.inr 3, M) else some (.inl 0, M) := by
  obtain ⟨K, k1, k2, k3⟩ := hx.cb
  unfold fX7_checkGood
  rw [k2, q_has N _ (by omega), q_zb, q_lofI (by omega) (by omega), k3 l hl]
  cases B.cond l
  · rw [if_pos (by rfl), if_neg (by decide)]
  · rw [if_neg (by decide), if_pos rfl]
def uDel (b l k : Nat) (B : VB) : VB := (VB.mk B.L B.T B.Bc B.R B.rcp B.bag B.loa B.cond (fu B.cnt b (B.cnt b + k)) B.mis (fun c => if c = b then (fun i => if B.cnt b ≤ i then l else B.st b i) else B.st c) B.sl B.bver B.blot B.left B.out B.rb B.rl B.rr)
theorem BOK.kDel {V n : Nat} {B : VB} (hb : BOK V n B) {b l k : Nat} (hl : l < B.L) (hk : B.cnt b + k ≤ 200) : BOK V (n + 1) (uDel b l k B) :=
  (BOK.mk hb.L hb.T hb.Bc ( Nat.le_trans hb.R (Nat.le_succ n)) hb.rcp hb.cond ( fun c hc => by
    show fu B.cnt b (B.cnt b + k) c ≤ 200
    rw [fu_e]; split
    · exact hk
    · exact hb.cnt c hc) ( fun c hc i hi => by
    have hi' : i < fu B.cnt b (B.cnt b + k) c := hi
    show (if c = b then (fun i => if B.cnt b ≤ i then l else B.st b i) else B.st c) i < B.L
    by_cases e : c = b
    · subst e
      rw [if_pos rfl]
      by_cases e2 : B.cnt c ≤ i
      · rw [if_pos e2]; exact hl
      · rw [if_neg e2]; exact hb.st c hc i (by omega)
    · rw [if_neg e]; rw [fu_n e] at hi'; exact hb.st c hc i hi') hb.sl hb.sl0 hb.bver hb.blot hb.left hb.out0)
theorem x_bring (N : Nat) {b l e : Nat} (hb : b < 5) (he : e ≤ 200) : ∀ k n i {M : zMem}, i + k = e → k < n → ∃ M', fX2_bring_B18 N n (nI b) (nI l) (nI e) (nI i) M = some (.inl 0, M') ∧ M'.2 = M.2 ∧ (∀ a, a ≠ 38 + 1 + b → a ≠ 44 → M'.1 a = M.1 a) ∧ M'.1 44 = upd (M.1 44) b (nI e) ∧ ∀ j, M'.1 (38 + 1 + b) j = if i ≤ j ∧ j < e then nI l else M.1 (38 + 1 + b) j := by
  intro k
  induction k with
  | zero =>
    intro n i M h1 h2
    obtain ⟨n, rfl⟩ : ∃ q, n = q + 1 := ⟨n - 1, by omega⟩
    rw [fX2_bring_B18, if_pos (nI_le (by omega) (by omega)), if_pos (z5 hb), q_zl, nI_clamp (by omega)]
    exact ⟨_, rfl, rfl, fun a h1 h2 => zsI_n h2, zsI_s, fun j => by rw [zsI_n (by omega), if_neg (by omega)]⟩
  | succ k ih =>
    intro n i M h1 h2
    obtain ⟨n, rfl⟩ : ∃ q, n = q + 1 := ⟨n - 1, by omega⟩
    rw [fX2_bring_B18, if_neg (nI_ge (by omega) (by omega)), if_pos (z5 hb), if_pos (zin_nI (by omega) (by decide)), q_zl, nI_clamp (by omega), nI_clamp (by omega), nI_1]
    obtain ⟨M', e1, e2, e3, e4, e5⟩ := ih n (i + 1) (M := zsI M (38 + 1 + b) i (nI l)) (by omega) (by omega)
    refine ⟨M', e1, e2, fun a h1 h2 => by rw [e3 a h1 h2, zsI_n h1], by rw [e4, zsI_n (by omega)], fun j => ?_⟩
    rw [e5 j, zsI_s]
    by_cases c : j = i
    · subst c; rw [if_neg (by omega), pk_us, if_pos (by omega)]
    · rw [pk_un c]
      by_cases c2 : i + 1 ≤ j ∧ j < e
      · rw [if_pos c2, if_pos (by omega)]
      · rw [if_neg c2, if_neg (by omega)]
theorem m_del (N : Nat) {b l c k0 : Nat} (hb : b < 5) (hc : c + k0 ≤ 200) : ∀ k n i {M : zMem}, M.1 78 b = nI (c + i) → i + k = k0 → k < n → ∃ M', fX8_deliver_B78 N n (nI b) (nI l) (nI k0) (nI i) M = some (.inl (nI (c + k0)), M') ∧ M'.2 = M.2 ∧ (∀ a, a ≠ 77 → a ≠ 78 → M'.1 a = M.1 a) ∧ (∀ d, M'.1 78 d = if d = b then nI (c + k0) else M.1 78 d) ∧ ∀ d, d < 5 → ∀ j, j < 200 → M'.1 77 (200 * d + j) = if d = b ∧ c + i ≤ j ∧ j < c + k0 then nI l else M.1 77 (200 * d + j) := by
  intro k
  induction k with
  | zero =>
    intro n i M e78 h1 h2
    obtain ⟨n, rfl⟩ : ∃ q, n = q + 1 := ⟨n - 1, by omega⟩
    obtain rfl : i = k0 := by omega
    rw [fX8_deliver_B78, if_pos (nI_le (by omega) (by omega)), if_pos (z5 hb), nI_clamp (by omega), e78]
    refine ⟨M, rfl, rfl, fun _ _ _ => rfl, fun d => ?_, fun d hd j hj => by rw [if_neg (by omega)]⟩
    by_cases q : d = b
    · rw [if_pos q, q, e78]
    · rw [if_neg q]
  | succ k ih =>
    intro n i M e78 h1 h2
    obtain ⟨n, rfl⟩ : ∃ q, n = q + 1 := ⟨n - 1, by omega⟩
    have z : zin (nI (200 * b + (c + i))) 1000 = true := zin_nI (by omega) (by decide)
    rw [fX8_deliver_B78, if_neg (nI_ge (by omega) (by omega))]
    simp only [z5 hb, if_true, q_zl]
    rw [nI_clamp (n := b) (by omega), e78, q_200, if_pos z, nI_clamp (by omega), zsI_n (show 78 ≠ 77 by decide), e78, nI_1, nI_1]
    obtain ⟨M', e1, e2, e3, e4, e5⟩ := ih n (i + 1) (M := zsI (zsI M 77 (200 * b + (c + i)) (nI l)) 78 b (nI (c + i + 1))) (by rw [zsI_s, pk_us]; rfl) (by omega) (by omega)
    refine ⟨M', e1, e2, fun a h1 h2 => by rw [e3 a h1 h2, zsI_n h2, zsI_n h1], fun d => ?_, fun d hd j hj => ?_⟩
    · rw [e4 d]
      by_cases q : d = b
      · rw [if_pos q, if_pos q]
      · rw [if_neg q, if_neg q, zsI_s, pk_un q, zsI_n (by decide)]
    · rw [e5 d hd j hj, zsI_n (by decide), zsI_s]
      by_cases q : d = b ∧ c + (i + 1) ≤ j ∧ j < c + k0
      · rw [if_pos q, if_pos (by omega)]
      · rw [if_neg q]
        by_cases q2 : d = b ∧ j = c + i
        · rw [if_pos (by omega), q2.1, q2.2, pk_us]
        · rw [if_neg (by omega), pk_un (by omega)]
theorem b_deliver (N n : Nat) (hN : 101 ≤ N) {A : VA} {B : VB} {M : zMem} (h : JJ n A B M) (x y u : Int32) : Both n (fL_deliver N x y u) (fX8_deliver N x y u) M := by
  have hL := h.bok.L
  have ref : ∀ {M0 : zMem} {x y u r : Int32}, ¬ r ≤ 0 → fX8_deliver_B63 N x y u r M0 = some (.inl 0, zsI M0 62 30 r) := fun {M0 x y u r} q => by
    unfold fX8_deliver_B63
    rw [q_zl, zsI_s, pk_us, if_neg q]
  have no1 : x < 0 ∨ nI 5 ≤ x → Both n (fL_deliver N x y u) (fX8_deliver N x y u) M := fun c => by
    refine Both.no h (r := 1) ?_ ?_ (by decide)
    · unfold fL_deliver fX7_deliver
      rw [x_bakn N c, q_zbr, q_zbxr, if_pos (by decide)]
    · unfold fX8_deliver fX8_deliver_B16
      rw [m_bakn N c, q_zb, if_pos rfl, ref (by decide)]
  rcases pk_ix x (n := 5) (by decide) with c | c | ⟨b, hb, rfl⟩
  · exact no1 (Or.inl c)
  · exact no1 (Or.inr c)
  have no2 : y < 0 ∨ nI B.L ≤ y → Both n (fL_deliver N (nI b) y u) (fX8_deliver N (nI b) y u) M := fun c => by
    refine Both.no h (r := 1) ?_ ?_ (by decide)
    · unfold fL_deliver fX7_deliver
      rw [x_bak N hb, q_zb, x_Lot N h.rx.L c, q_zbr, q_zbxr, if_pos (by decide)]
    · unfold fX8_deliver fX8_deliver_B16
      rw [m_bak N hb, q_zb, if_neg (by decide), m_Lot N h.rm.2.L (by omega) c, q_zb, if_pos rfl, ref (by decide)]
  rcases pk_ix y (n := B.L) (by omega) with c | c | ⟨l, hl, rfl⟩
  · exact no2 (Or.inl c)
  · exact no2 (Or.inr c)
  have no3 : fX8_in N u 1 50 M = some (.inl 0, M) → (u < 1 ∨ ¬ u < 1 ∧ ¬ u ≤ 50) → Both n (fL_deliver N (nI b) (nI l) u) (fX8_deliver N (nI b) (nI l) u) M := fun e c => by
    refine Both.no h (r := 2) ?_ ?_ (by decide)
    · unfold fL_deliver fX7_deliver
      rw [x_bak N hb, q_zb, x_Lot' N h.rx.L (by omega) hl, q_zb]
      rcases c with c | ⟨c1, c2⟩
      · rw [if_pos c, q_zbxr, if_neg (by decide), if_pos (by decide)]
      · rw [if_neg c1, if_neg c2, q_zbxr, if_neg (by decide), if_pos (by decide)]
    · unfold fX8_deliver
      rw [m_bak N hb, q_zb, if_neg (by decide), m_Lot' N h.rm.2.L (by omega) hl, q_zb, if_neg (by decide), e, q_zb, if_pos rfl, ref (by decide)]
  rcases q_rng u 1 50 (by decide) (by decide) with c | c | ⟨t, t1, t2, rfl⟩
  · exact no3 (m_lo N c M) (Or.inl c)
  · refine no3 (m_hi N c M) (Or.inr ⟨fun q => ?_, q_gt c⟩)
    have e1 := Int32.lt_iff_toInt_lt.mp c
    have e2 := Int32.lt_iff_toInt_lt.mp q
    have e3 : (nI 50).toInt = 50 := rfl
    have e4 : (1 : Int32).toInt = 1 := rfl
    omega
  have u1 : ¬ nI t < 1 := nI_nlt (b := 1) t1 (by omega)
  have u2 : nI t ≤ 50 := nI_le (b := 50) t2 (by decide)
  have u3 : ¬ (50 : Int32) < nI t := nI_nlt (a := 50) t2 (by decide)
  have hcn := h.bok.cnt b hb
  have z := z5 hb
  by_cases g : B.cond l = false ∧ B.cnt b + t ≤ 200
  · obtain ⟨g1, g2⟩ := g
    obtain ⟨M1, e1, e2, e3, e4, e5⟩ := x_bring N (b := b) (l := l) (e := B.cnt b + t) hb g2 t N (B.cnt b) (M := M) rfl (by omega)
    have hx1 : QX A.V (uDel b l t B) M1 := by
      have r44 : ∀ c, c < 5 → M1.1 44 c = nI (fu B.cnt b (B.cnt b + t) c) := fun c hc => by
        rw [e4]
        by_cases e : c = b
        · subst e; rw [pk_us, fu_s]
        · rw [pk_un e, fu_n e]; exact h.rx.cnt c hc
      refine QX.mk ?_ ?_ ?_ ?_ ?_ ?_ r44 ?_ ?_ ?_ ?_ ?_ ?_ ?_ ?_ ?_ ?_ ?_ ?_
      · rw [e3 34 (by omega) (by decide)]; exact h.rx.rcp
      · rw [e3 35 (by omega) (by decide)]; exact h.rx.bag
      · rw [e3 36 (by omega) (by decide)]; exact h.rx.loa
      · rw [e3 37 (by omega) (by decide)]; exact h.rx.L
      · rw [e3 37 (by omega) (by decide)]; exact h.rx.cb
      · intro c hc i hi
        have hi' : i < fu B.cnt b (B.cnt b + t) c := hi
        show _ = nI ((if c = b then (fun i => if B.cnt b ≤ i then l else B.st b i) else B.st c) i)
        by_cases e : c = b
        · subst e
          rw [fu_s] at hi'
          rw [if_pos rfl, e5 i]
          by_cases q : B.cnt c ≤ i
          · rw [if_pos ⟨q, hi'⟩, if_pos q]
          · rw [if_neg (fun w => q w.1), if_neg q]; exact h.rx.st c hc i (by omega)
        · rw [fu_n e] at hi'
          rw [if_neg e, e3 _ (by omega) (by omega)]; exact h.rx.st c hc i hi'
      · rw [e3 45 (by omega) (by decide)]; exact h.rx.T
      · intro c hc i h1 h2
        rw [e3 _ (by omega) (by omega)]; exact h.rx.sl c hc i h1 h2
      · rw [e3 52 (by omega) (by decide)]; exact h.rx.mis
      · rw [e3 53 (by omega) (by decide)]; exact h.rx.Bc
      · rw [e3 54 (by omega) (by decide)]; exact h.rx.bver
      · rw [e3 55 (by omega) (by decide)]; exact h.rx.blot
      · rw [e3 56 (by omega) (by decide)]; exact h.rx.left
      · rw [e3 57 (by omega) (by decide)]; exact h.rx.out
      · rw [e3 58 (by omega) (by decide)]; exact h.rx.R
      · rw [e3 59 (by omega) (by decide)]; exact h.rx.rb
      · rw [e3 60 (by omega) (by decide)]; exact h.rx.rl
      · rw [e3 61 (by omega) (by decide)]; exact h.rx.rr
    have fr : ∀ a, (a < 33 ∨ 62 ≤ a) → M1.1 a = M.1 a ∧ M1.2 a = M.2 a := fun a ha => ⟨e3 a (by omega) (by omega), by rw [e2]⟩
    have hm : QM A B (zsI (zsL M1 87 0 (nI (B.cnt b + t)).toInt64) 62 30 0) := (h.rm.cong (fun a h1 h2 => by rw [zsL_1]; exact (fr a (by omega)).1)).note
    have hm0 : QM A B (zsL M1 87 0 (nI (B.cnt b + t)).toInt64) := h.rm.cong (fun a h1 h2 => by rw [zsL_1]; exact (fr a (by omega)).1)
    obtain ⟨M2, f1, f2, f3, f4, f5⟩ := m_del N (b := b) (l := l) (c := B.cnt b) (k0 := t) hb g2 t N 0 (M := zsI (zsL M1 87 0 (nI (B.cnt b + t)).toInt64) 62 30 0) (hm.2.cnt b hb) (by omega) (by omega)
    rw [nI_0] at f1
    refine Both.go (A' := A) (B' := uDel b l t B) (M1 := M1) (v := nI (B.cnt b + t)) h.aok (h.bok.kDel hl g2) ?_ (h.ra.to (fun a h1 h2 => fr a (by omega))) hx1 ((h.rt.to (fun a h1 h2 => fr a (by omega))).up (Nat.le_succ n)) ⟨M2, ?_, by rw [f3 62 (by decide) (by decide), zsI_s, pk_us], ⟨fun a ha => by rw [f3 a (by omega) (by omega), zsI_n (by omega)], f2⟩, hm.1.to (by rw [f3 62 (by decide) (by decide)]) (by rw [f3 62 (by decide) (by decide)]) (fun a h1 h2 => f3 a (by omega) (by omega)), ?_⟩
    · unfold fL_deliver fX7_deliver fX2_bring
      rw [x_bak N hb, q_zb, x_Lot' N h.rx.L (by omega) hl, q_zb, if_neg u1, if_pos u2, x_good N h.rx (by omega), if_neg (by rw [g1]; decide), q_zb]
      simp only [z, if_true]
      rw [nI_clamp (by omega), h.rx.cnt b hb, nI_add, if_pos (show nI (B.cnt b + t) ≤ 200 from nI_le (b := 200) g2 (by decide)), q_zv, q_zv, e1, q_zb, e4, pk_us, q_zbx, if_pos z1, cl0]
      rfl
    · unfold fX8_deliver fX8_deliver_B63
      rw [m_bak N hb, q_zb, if_neg (by decide), m_Lot' N hm0.2.L (by omega) hl, q_zb, if_neg (by decide), m_rin N u1 u3, q_zb, if_neg (by decide), if_pos (zin_nI (by omega) (by decide)), nI_clamp (n := l) (by omega), hm0.2.cond l (by omega), g1, if_neg (by decide), if_pos z, nI_clamp (by omega), hm0.2.cnt b hb, nI_add, if_pos (show nI (B.cnt b + t) ≤ 200 from nI_le (b := 200) g2 (by decide)), q_zl, zsI_s, pk_us, if_pos (by decide), f1]
    · refine QF.mk ?_ ?_ ?_ ?_ ?_ ?_ ?_ ?_ ?_ ?_ ?_ ?_ ?_ ?_ ?_ ?_ ?_ ?_ ?_
      · rw [f3 62 (by decide) (by decide)]; exact hm.2.T
      · rw [f3 62 (by decide) (by decide)]; exact hm.2.L
      · rw [f3 62 (by decide) (by decide)]; exact hm.2.Bc
      · rw [f3 62 (by decide) (by decide)]; exact hm.2.R
      · rw [f3 70 (by decide) (by decide)]; exact hm.2.rcp
      · rw [f3 71 (by decide) (by decide)]; exact hm.2.bag
      · rw [f3 72 (by decide) (by decide)]; exact hm.2.loa
      · rw [f3 75 (by decide) (by decide)]; exact hm.2.sl
      · rw [f3 76 (by decide) (by decide)]; exact hm.2.cond
      · intro c hc i hi
        have hi' : i < fu B.cnt b (B.cnt b + t) c := hi
        have hc2 := h.bok.cnt c hc
        show _ = nI ((if c = b then (fun i => if B.cnt b ≤ i then l else B.st b i) else B.st c) i)
        by_cases e : c = b
        · subst e
          rw [fu_s] at hi'
          rw [if_pos rfl, f5 c hc i (by omega)]
          by_cases q : B.cnt c ≤ i
          · rw [if_pos ⟨rfl, by omega, hi'⟩, if_pos q]
          · rw [if_neg (by omega), if_neg q]; exact hm.2.st c hc i (by omega)
        · rw [fu_n e] at hi'
          rw [if_neg e, f5 c hc i (by omega), if_neg (fun q => e q.1)]; exact hm.2.st c hc i hi'
      · intro c hc
        show _ = nI (fu B.cnt b (B.cnt b + t) c)
        rw [f4 c]
        by_cases e : c = b
        · subst e; rw [if_pos rfl, fu_s]
        · rw [if_neg e, fu_n e]; exact hm.2.cnt c hc
      · rw [f3 79 (by decide) (by decide)]; exact hm.2.mis
      · rw [f3 80 (by decide) (by decide)]; exact hm.2.bver
      · rw [f3 81 (by decide) (by decide)]; exact hm.2.blot
      · rw [f3 82 (by decide) (by decide)]; exact hm.2.left
      · rw [f3 83 (by decide) (by decide)]; exact hm.2.out
      · rw [f3 84 (by decide) (by decide)]; exact hm.2.rb
      · rw [f3 85 (by decide) (by decide)]; exact hm.2.rl
      · rw [f3 86 (by decide) (by decide)]; exact hm.2.rr
  · refine Both.no h (r := 3) ?_ ?_ (by decide)
    · unfold fL_deliver fX7_deliver
      rw [x_bak N hb, q_zb, x_Lot' N h.rx.L (by omega) hl, q_zb, if_neg u1, if_pos u2, x_good N h.rx (by omega)]
      cases g1 : B.cond l
      · rw [if_neg (by decide), q_zb, if_pos z, nI_clamp (by omega), h.rx.cnt b hb, nI_add, if_neg (show ¬ nI (B.cnt b + t) ≤ 200 from nI_ge (a := 200) (by have : ¬ B.cnt b + t ≤ 200 := fun q => g ⟨g1, q⟩; omega) (by omega)), q_zbxr, if_neg (by decide), if_neg (by decide), if_pos (by decide)]
      · rw [if_pos rfl, q_zbr, q_zbxr, if_neg (by decide), if_neg (by decide), if_pos (by decide)]
    · unfold fX8_deliver fX8_deliver_B58
      rw [m_bak N hb, q_zb, if_neg (by decide), m_Lot' N h.rm.2.L (by omega) hl, q_zb, if_neg (by decide), m_rin N u1 u3, q_zb, if_neg (by decide), if_pos (zin_nI (by omega) (by decide)), nI_clamp (by omega), h.rm.2.cond l (by omega)]
      cases g1 : B.cond l
      · rw [if_neg (by decide), if_pos z, nI_clamp (by omega), h.rm.2.cnt b hb, nI_add, if_neg (show ¬ nI (B.cnt b + t) ≤ 200 from nI_ge (a := 200) (by have : ¬ B.cnt b + t ≤ 200 := fun q => g ⟨g1, q⟩; omega) (by omega)), ref (by decide)]
      · rw [if_pos (by rfl), ref (by decide)]
