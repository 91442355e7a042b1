/-! pure: book, renew -/
theorem x_put (N : Nat) (hN : 101 ≤ N) {A : VA} {B : VB} {M : zMem} (ha : QA 1 A M) (hx : QX A.V B M) (hk : AOK A) (hr : ∀ v, v < A.V → B.rcp v < 6) {b q t : Nat} (hb : b < 5) (hq : q < 6) (ht : t < 2 ^ 31) : fX7_putCurrent N (nI b) (nI t) (nI q) M = if cur A B.rcp b q (A.len b) = 0 then some (.inr 3, M) else some (.inl (nI (cur A B.rcp b q (A.len b)) - 1), zsI M (46 + 1 + b) (t % 51) (nI (cur A B.rcp b q (A.len b)) - 1)) := by
  have hv := hk.ver
  have hc := cur_le (rc := B.rcp) (q := q) hk hb _ (Nat.le_refl _)
  unfold fX7_putCurrent
  rw [x_cur N hN ha hx hk hr hb hq, q_zb]
  by_cases g : cur A B.rcp b q (A.len b) = 0
  · rw [if_pos g, g, if_pos (by decide)]
  · rw [if_neg g, if_neg (by rw [q_pred (by omega)]; exact q_m1 (by omega)), x_set N hb ht, q_zb]
theorem b_book (N n : Nat) (hN : 101 ≤ N) {A : VA} {B : VB} {M : zMem} (h : JJ n A B M) (x y w : Int32) : Both n (fL_book N x y w) (fX8_book N x y w) M := by
  have hT := h.bok.T
  have no1 : x < 0 ∨ nI 5 ≤ x → Both n (fL_book N x y w) (fX8_book N x y w) M := fun c => by
    refine Both.no h (r := 1) ?_ ?_ (by decide)
    · unfold fL_book fX7_book
      rw [x_bakn N c, q_zbr, q_zbxr, if_pos (by decide)]
    · unfold fX8_book fX8_book_B17 fX8_book_B34
      rw [m_bakn N c, q_zb, if_pos rfl, q_zl, zsI_s, pk_us, if_neg (by decide)]
  rcases pk_ix x (n := 5) (by decide) with c | c | ⟨a, ha, rfl⟩
  · exact no1 (Or.inl c)
  · exact no1 (Or.inr c)
  have no2 : w < 0 ∨ nI 6 ≤ w → Both n (fL_book N (nI a) y w) (fX8_book N (nI a) y w) M := fun c => by
    refine Both.no h (r := 1) ?_ ?_ (by decide)
    · unfold fL_book fX7_book
      rw [x_bak N ha, q_zb, x_recn N c, q_zbr, q_zbxr, if_pos (by decide)]
    · unfold fX8_book fX8_book_B17 fX8_book_B34
      rw [m_bak N ha, q_zb, if_neg (by decide), m_recn N c, q_zb, if_pos rfl, q_zl, zsI_s, pk_us, if_neg (by decide)]
  rcases pk_ix w (n := 6) (by decide) with c | c | ⟨q, hq, rfl⟩
  · exact no2 (Or.inl c)
  · exact no2 (Or.inr c)
  have no3 : y < nI B.T ∨ nI (B.T + 50) < y → Both n (fL_book N (nI a) y (nI q)) (fX8_book N (nI a) y (nI q)) M := fun c => by
    refine Both.no h (r := 2) ?_ ?_ (by decide)
    · unfold fL_book fX7_book
      rw [x_bak N ha, q_zb, x_rec N hq, q_zb, x_hourn N h.rx.T hT c, q_zbr, q_zbxr, if_neg (by decide), if_pos (by decide)]
    · unfold fX8_book fX8_book_B34
      rw [m_bak N ha, q_zb, if_neg (by decide), m_rec N hq, q_zb, if_neg (by decide), m_hourn N h.rm.2.T hT c, q_zb, if_pos rfl, q_zl, zsI_s, pk_us, if_neg (by decide)]
  rcases q_rng y B.T (B.T + 50) (by omega) (by omega) with c | c | ⟨t, t1, t2, rfl⟩
  · exact no3 (Or.inl c)
  · exact no3 (Or.inr c)
  have z : zin (nI (1051 * a + t)) 5255 = true := zin_nI (by omega) (by decide)
  have hV := h.aok.ver
  have s1 := h.bok.sl a ha t (by omega)
  have m := h.rm.2.sl a ha t (by omega)
  have hc := cur_le (rc := B.rcp) (q := q) h.aok ha _ (Nat.le_refl _)
  by_cases g : B.sl a t = 0
  · by_cases g2 : cur A B.rcp a q (A.len a) = 0
    · refine Both.no h (r := 3) ?_ ?_ (by decide)
      · unfold fL_book fX7_book
        rw [x_bak N ha, q_zb, x_rec N hq, q_zb, x_hourk N h.rx.T hT t1 t2, q_zb, x_slot N h.rx ha t1 t2 hT, q_zb, g, if_pos (by decide), x_put N hN h.ra h.rx h.aok h.bok.r6 ha hq (by omega), if_pos g2, q_zbr, q_zbxr, if_neg (by decide), if_neg (by decide), if_pos (by decide)]
      · unfold fX8_book fX8_book_B34 fX8_book_B75 fX8_fails
        rw [m_bak N ha, q_zb, if_neg (by decide), m_rec N hq, q_zb, if_neg (by decide), m_hourk N h.rm.2.T hT t1 t2, q_zb, if_neg (by decide), q_zl, zsI_s, pk_us, if_pos (by decide), m_cur N hN h.rm.note h.aok h.bok.r6 ha hq, q_zb, q_1051, if_pos z, nI_clamp (by omega), zsI_n (show 75 ≠ 62 by decide), m, g, if_neg (by decide), g2, if_pos (by decide), q_zl, q_zb, zsI_twice]
    · refine Both.go (A' := A) (B' := uSl a t (cur A B.rcp a q (A.len a)) B) (M1 := zsI M (46 + 1 + a) (t % 51) (nI (cur A B.rcp a q (A.len a)) - 1)) (v := nI (cur A B.rcp a q (A.len a)) - 1) h.aok (h.bok.uSl hc t2) ?_ (h.ra.to (zeq_sI (by omega))) (h.rx.uSl hT ha t1 t2 rfl) ((h.rt.to (zeq_sI (by omega))).up (Nat.le_succ n)) ⟨zsI (zsI (zsL (zsI M (46 + 1 + a) (t % 51) (nI (cur A B.rcp a q (A.len a)) - 1)) 87 0 (nI (cur A B.rcp a q (A.len a)) - 1).toInt64) 62 30 0) 75 (1051 * a + t) (nI (cur A B.rcp a q (A.len a))), ?_, ?_, (zrf.refl.sI (by omega)).sI (by omega), QM.uSl (QM.cong h.rm (fun k h1 h2 => by rw [zsL_1, zsI_n (by omega)])).note ha (by omega)⟩
      · unfold fL_book fX7_book
        rw [x_bak N ha, q_zb, x_rec N hq, q_zb, x_hourk N h.rx.T hT t1 t2, q_zb, x_slot N h.rx ha t1 t2 hT, q_zb, g, if_pos (by decide), x_put N hN h.ra h.rx h.aok h.bok.r6 ha hq (by omega), if_neg g2, q_zb, q_zbx, if_pos z1, cl0]
        rfl
      · unfold fX8_book fX8_book_B34
        rw [m_bak N ha, q_zb, if_neg (by decide), m_rec N hq, q_zb, if_neg (by decide), m_hourk N (M := zsL _ 87 0 _) (T := B.T) (by rw [zsL_1, zsI_n (by omega)]; exact h.rm.2.T) hT t1 t2, q_zb, if_neg (by decide), q_zl, zsI_s, pk_us, if_pos (by decide), m_cur N hN (QM.cong h.rm (fun k h1 h2 => by rw [zsL_1, zsI_n (by omega)])).note h.aok h.bok.r6 ha hq, q_zb, q_1051, if_pos z, nI_clamp (by omega), zsI_n (show 75 ≠ 62 by decide), zsL_1, zsI_n (show 75 ≠ 46 + 1 + a by omega), m, g, if_neg (by decide), if_neg (by rw [q_pred (by omega)]; exact q_m1 (by omega)), if_pos z, q_zl, q_pred (by omega), nI_1, Nat.sub_add_cancel (by omega)]
      · rw [zsI_n (by omega), zsI_s, pk_us]
  · refine Both.no h (r := 3) ?_ ?_ (by decide)
    · unfold fL_book fX7_book
      rw [x_bak N ha, q_zb, x_rec N hq, q_zb, x_hourk N h.rx.T hT t1 t2, q_zb, x_slot N h.rx ha t1 t2 hT, q_zb, if_neg (by rw [q_pred (by omega)]; exact q_m1 (by omega)), q_zbxr, if_neg (by decide), if_neg (by decide), if_pos (by decide)]
    · unfold fX8_book fX8_book_B34 fX8_book_B75 fX8_fails
      rw [m_bak N ha, q_zb, if_neg (by decide), m_rec N hq, q_zb, if_neg (by decide), m_hourk N h.rm.2.T hT t1 t2, q_zb, if_neg (by decide), q_zl, zsI_s, pk_us, if_pos (by decide), m_cur N hN h.rm.note h.aok h.bok.r6 ha hq, q_zb, q_1051, if_pos z, nI_clamp (by omega), zsI_n (show 75 ≠ 62 by decide), m, if_pos (show (0 : Int32) < nI (B.sl a t) from nI_lt (a := 0) (by omega) (by omega)), q_zl, q_zb, zsI_twice]
theorem b_renew (N n : Nat) (hN : 101 ≤ N) {A : VA} {B : VB} {M : zMem} (h : JJ n A B M) (x y : Int32) : Both n (fL_renew N x y) (fX8_renew N x y) M := by
  have hT := h.bok.T
  have no1 : x < 0 ∨ nI 5 ≤ x → Both n (fL_renew N x y) (fX8_renew N x y) M := fun c => by
    refine Both.no h (r := 1) ?_ ?_ (by decide)
    · unfold fL_renew fX7_renew
      rw [x_bakn N c, q_zbr, q_zbxr, if_pos (by decide)]
    · unfold fX8_renew fX8_renew_B44
      rw [m_bakn N c, q_zb, if_pos rfl, q_zl, zsI_s, pk_us, if_neg (by decide)]
  rcases pk_ix x (n := 5) (by decide) with c | c | ⟨a, ha, rfl⟩
  · exact no1 (Or.inl c)
  · exact no1 (Or.inr c)
  have no2 : y < nI B.T ∨ nI (B.T + 50) < y → Both n (fL_renew N (nI a) y) (fX8_renew N (nI a) y) M := fun c => by
    refine Both.no h (r := 2) ?_ ?_ (by decide)
    · unfold fL_renew fX7_renew
      rw [x_bak N ha, q_zb, x_hourn N h.rx.T hT c, q_zbr, q_zbxr, if_neg (by decide), if_pos (by decide)]
    · unfold fX8_renew fX8_renew_B44
      rw [m_bak N ha, q_zb, if_neg (by decide), m_hourn N h.rm.2.T hT c, q_zb, if_pos rfl, q_zl, zsI_s, pk_us, if_neg (by decide)]
  rcases q_rng y B.T (B.T + 50) (by omega) (by omega) with c | c | ⟨t, t1, t2, rfl⟩
  · exact no2 (Or.inl c)
  · exact no2 (Or.inr c)
  have z : zin (nI (1051 * a + t)) 5255 = true := zin_nI (by omega) (by decide)
  have hV := h.aok.ver
  have s1 := h.bok.sl a ha t (by omega)
  have m := h.rm.2.sl a ha t (by omega)
  by_cases g : B.sl a t = 0
  · refine Both.no h (r := 3) ?_ ?_ (by decide)
    · unfold fL_renew fX7_renew fX7_checkBooked
      rw [x_bak N ha, q_zb, x_hourk N h.rx.T hT t1 t2, q_zb, x_slot N h.rx ha t1 t2 hT, q_zb, g, if_pos (by decide), q_zbr, q_zbxr, if_neg (by decide), if_neg (by decide), if_pos (by decide)]
    · unfold fX8_renew fX8_renew_B44
      rw [m_bak N ha, q_zb, if_neg (by decide), m_hourk N h.rm.2.T hT t1 t2, q_zb, if_neg (by decide), q_1051, if_pos z, nI_clamp (by omega), m, g, if_pos (by decide), q_zl, zsI_s, pk_us, if_neg (by decide)]
  · have hq := h.bok.r6 (B.sl a t - 1) (by omega)
    have hc := cur_le (rc := B.rcp) (q := B.rcp (B.sl a t - 1)) h.aok ha _ (Nat.le_refl _)
    have nm1 : ¬ nI (B.sl a t - 1) = -1 := q_m1 (by omega)
    by_cases g2 : cur A B.rcp a (B.rcp (B.sl a t - 1)) (A.len a) = 0
    · refine Both.no h (r := 3) ?_ ?_ (by decide)
      · unfold fL_renew fX7_renew fX7_checkBooked
        rw [x_bak N ha, q_zb, x_hourk N h.rx.T hT t1 t2, q_zb, x_slot N h.rx ha t1 t2 hT, q_zb, q_pred (by omega), if_neg nm1, q_zb, if_pos (z60 (by omega)), nI_clamp (by omega), h.rx.rcp _ (by omega), x_put N hN h.ra h.rx h.aok h.bok.r6 ha hq (by omega), if_pos g2, q_zbr, q_zbxr, if_neg (by decide), if_neg (by decide), if_pos (by decide)]
      · unfold fX8_renew fX8_renew_B44 fX8_fails
        rw [m_bak N ha, q_zb, if_neg (by decide), m_hourk N h.rm.2.T hT t1 t2, q_zb, if_neg (by decide), q_1051, if_pos z, nI_clamp (by omega), m, if_neg (nI_ne0 (by omega) (by omega)), q_zl, zsI_s, pk_us, if_pos (by decide), if_pos z, zsI_n (show 75 ≠ 62 by decide), m, q_pred (by omega), if_pos (z60 (by omega)), nI_clamp (by omega), zsI_n (show 70 ≠ 62 by decide), h.rm.2.rcp _ (by omega), m_cur N hN h.rm.note h.aok h.bok.r6 ha hq, q_zb, g2, if_pos (by decide), q_zl, q_zb, zsI_twice]
    · refine Both.go (A' := A) (B' := uSl a t (cur A B.rcp a (B.rcp (B.sl a t - 1)) (A.len a)) B) (M1 := zsI M (46 + 1 + a) (t % 51) (nI (cur A B.rcp a (B.rcp (B.sl a t - 1)) (A.len a)) - 1)) (v := nI (cur A B.rcp a (B.rcp (B.sl a t - 1)) (A.len a)) - 1) h.aok (h.bok.uSl hc t2) ?_ (h.ra.to (zeq_sI (by omega))) (h.rx.uSl hT ha t1 t2 rfl) ((h.rt.to (zeq_sI (by omega))).up (Nat.le_succ n)) ⟨zsI (zsI (zsL (zsI M (46 + 1 + a) (t % 51) (nI (cur A B.rcp a (B.rcp (B.sl a t - 1)) (A.len a)) - 1)) 87 0 (nI (cur A B.rcp a (B.rcp (B.sl a t - 1)) (A.len a)) - 1).toInt64) 62 30 0) 75 (1051 * a + t) (nI (cur A B.rcp a (B.rcp (B.sl a t - 1)) (A.len a))), ?_, ?_, (zrf.refl.sI (by omega)).sI (by omega), QM.uSl (QM.cong h.rm (fun k h1 h2 => by rw [zsL_1, zsI_n (by omega)])).note ha (by omega)⟩
      · unfold fL_renew fX7_renew fX7_checkBooked
        rw [x_bak N ha, q_zb, x_hourk N h.rx.T hT t1 t2, q_zb, x_slot N h.rx ha t1 t2 hT, q_zb, q_pred (n := B.sl a t) (by omega), if_neg nm1, q_zb, if_pos (z60 (by omega)), nI_clamp (by omega), h.rx.rcp _ (by omega), x_put N hN h.ra h.rx h.aok h.bok.r6 ha hq (by omega), if_neg g2, q_zb, q_zbx, if_pos z1, cl0]
        rfl
      · unfold fX8_renew fX8_renew_B44
        rw [m_bak N ha, q_zb, if_neg (by decide), m_hourk N (M := zsL _ 87 0 _) (T := B.T) (by rw [zsL_1, zsI_n (by omega)]; exact h.rm.2.T) hT t1 t2, q_zb, if_neg (by decide), q_1051, if_pos z, nI_clamp (by omega), zsL_1, zsI_n (show 75 ≠ 46 + 1 + a by omega), m, if_neg (nI_ne0 (by omega) (by omega)), q_zl, zsI_s, pk_us, if_pos (by decide), if_pos z, zsI_n (show 75 ≠ 62 by decide), zsL_1, zsI_n (show 75 ≠ 46 + 1 + a by omega), m, q_pred (n := B.sl a t) (by omega), if_pos (z60 (by omega)), nI_clamp (by omega), zsI_n (show 70 ≠ 62 by decide), zsL_1, zsI_n (show 70 ≠ 46 + 1 + a by omega), h.rm.2.rcp _ (by omega), m_cur N hN (QM.cong h.rm (fun k h1 h2 => by rw [zsL_1, zsI_n (by omega)])).note h.aok h.bok.r6 ha hq, q_zb, if_neg (by rw [q_pred (by omega)]; exact q_m1 (by omega)), if_pos z, q_zl, q_pred (by omega), nI_1, Nat.sub_add_cancel (by omega)]
      · rw [zsI_n (by omega), zsI_s, pk_us]
