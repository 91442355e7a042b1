/-! pure: calls that change something; slots -/
def zrf (M M' : zMem) : Prop := (∀ a, a < 62 → M'.1 a = M.1 a) ∧ M'.2 = M.2
theorem zrf.refl {M : zMem} : zrf M M := ⟨fun _ _ => rfl, rfl⟩
theorem zrf.trans {M M1 M2 : zMem} (h : zrf M M1) (g : zrf M1 M2) : zrf M M2 := ⟨fun a q => (g.1 a q).trans (h.1 a q), g.2.trans h.2⟩
theorem zrf.sI {M M1 : zMem} (h : zrf M M1) {k j : Nat} {x : Int32} (hk : 62 ≤ k) : zrf M (zsI M1 k j x) := ⟨fun a q => by rw [zsI_n (by omega)]; exact h.1 a q, h.2⟩
theorem QM.cong {A : VA} {B : VB} {M M' : zMem} (h : QM A B M) (e : ∀ a, 62 ≤ a → a < 87 → M'.1 a = M.1 a) : QM A B M' :=
  ⟨h.1.to (by rw [e 62 (by decide) (by decide)]) (by rw [e 62 (by decide) (by decide)]) (fun a h1 h2 => e a (by omega) (by omega)), h.2.to (by rw [e 62 (by decide) (by decide)]) (by rw [e 62 (by decide) (by decide)]) (by rw [e 62 (by decide) (by decide)]) (by rw [e 62 (by decide) (by decide)]) (fun a h1 h2 _ _ => e a (by omega) (by omega))⟩
theorem QR.w {A : VA} {M : zMem} (h : QR A M) {k j : Nat} {x : Int32} (hk : 74 ≤ k) : QR A (zsI M k j x) :=
  h.to (by rw [zsI_n (by omega)]) (by rw [zsI_n (by omega)]) (fun a h1 h2 => zsI_n (by omega))
theorem QR.w62 {A : VA} {M : zMem} (h : QR A M) {j : Nat} {x : Int32} (hj : 7 < j) : QR A (zsI M 62 j x) :=
  h.to (by rw [zsI_s, pk_un (by omega)]) (by rw [zsI_s, pk_un (by omega)]) (fun a h1 h2 => zsI_n (by omega))
theorem Both.go {n : Nat} {A' : VA} {B' : VB} {M M1 : zMem} {f g : zMem → zRES} {v : Int32} (ha : AOK A') (hb : BOK A'.V (n + 1) B') (hf : f M = some (.inl 0, zsL M1 87 0 v.toInt64)) (ra : QA 1 A' M1) (rx : QX A'.V B' M1) (rt : QT (n + 1) A' M1) (hg : ∃ M2, g (zsL M1 87 0 v.toInt64) = some (.inl v, M2) ∧ M2.1 62 30 = 0 ∧ zrf (zsL M1 87 0 v.toInt64) M2 ∧ QM A' B' M2) : Both n f g M := by
  obtain ⟨M2, e1, e2, e3, e4⟩ := hg
  exact ⟨A', B', _, M2, 0, v, hf, e1, e2, fun _ => by rw [e3.2, zsL_s, pk_uLs], JJ.join ha hb ra rx rt (fun a _ h => ⟨(e3.1 a h).trans (by rw [zsL_1]), by rw [e3.2, zsL_n (by omega)]⟩) e4⟩
theorem q_r51 {h : Nat} (hh : h < 2 ^ 31) : nI h - nI h / 51 * 51 = nI (h % 51) := pk_rem (d := 51) hh (by decide) (by decide)
theorem x_slot (N : Nat) {V : Nat} {B : VB} {M : zMem} (hx : QX V B M) {b h : Nat} (hb : b < 5) (h1 : B.T ≤ h) (h2 : h ≤ B.T + 50) (hT : B.T ≤ 1000) : fX4_slotAt N (nI b) (nI h) M = some (.inl (nI (B.sl b h) - 1), M) := by
  unfold fX4_slotAt
  rw [if_pos (z5 hb), q_r51 (by omega), if_pos (zin_nI (by omega) (by decide)), nI_clamp (by omega), nI_clamp (by omega), hx.sl b hb h h1 h2]
theorem x_set (N : Nat) {M : zMem} {b h : Nat} (hb : b < 5) (hh : h < 2 ^ 31) {y : Int32} : fX4_setSlot N (nI b) (nI h) y M = some (.inl 0, zsI M (46 + 1 + b) (h % 51) y) := by
  unfold fX4_setSlot
  rw [if_pos (z5 hb), q_r51 hh, if_pos (zin_nI (by omega) (by decide)), nI_clamp (by omega), nI_clamp (by omega), q_zl]
theorem x_hourn (N : Nat) {T : Nat} {M : zMem} (e : M.1 45 0 = nI T) (hT : T ≤ 1000) {y : Int32} (c : y < nI T ∨ nI (T + 50) < y) : fX7_checkHour N y M = some (.inr 2, M) := by
  unfold fX7_checkHour
  rw [e, show nI T + 50 = nI (T + 50) from nI_add T 50]
  by_cases d : y < nI T
  · rw [if_pos d]
  · rw [if_neg d, if_neg (q_gt (c.resolve_left d))]
theorem x_hourk (N : Nat) {T : Nat} {M : zMem} (e : M.1 45 0 = nI T) (hT : T ≤ 1000) {t : Nat} (h1 : T ≤ t) (h2 : t ≤ T + 50) : fX7_checkHour N (nI t) M = some (.inl 0, M) := by
  unfold fX7_checkHour
  rw [e, show nI T + 50 = nI (T + 50) from nI_add T 50, if_neg (nI_nlt (by omega) (by omega)), if_pos (nI_le (by omega) (by omega))]
theorem m_hourn (N : Nat) {T : Nat} {M : zMem} (e : M.1 62 14 = nI T) (hT : T ≤ 1000) {y : Int32} (c : y < nI T ∨ nI (T + 50) < y) : fX8_isHour N y M = some (.inl 0, M) := by
  unfold fX8_isHour
  rw [e]
  by_cases d : y < nI T
  · rw [if_pos d]
  · have e1 := Int32.lt_iff_toInt_lt.mp (c.resolve_left d)
    rw [nI_toInt (by omega)] at e1
    obtain ⟨j, hj, rfl⟩ := nI_of (x := y) (fun q => by have := Int32.lt_iff_toInt_lt.mp q; have e0 : (0 : Int32).toInt = 0 := rfl; omega)
    rw [nI_toInt (by omega)] at e1
    rw [if_neg d, pk_sub (by omega), if_pos (show (50 : Int32) < nI (j - T) from nI_lt (a := 50) (by omega) (by omega))]
theorem m_hourk (N : Nat) {T : Nat} {M : zMem} (e : M.1 62 14 = nI T) (hT : T ≤ 1000) {t : Nat} (h1 : T ≤ t) (h2 : t ≤ T + 50) : fX8_isHour N (nI t) M = some (.inl 1, M) := by
  unfold fX8_isHour
  rw [e, if_neg (nI_nlt (by omega) (by omega)), pk_sub (by omega), if_neg (show ¬ (50 : Int32) < nI (t - T) from nI_nlt (a := 50) (by omega) (by omega))]
def uSl (b h x : Nat) (B : VB) : VB := (VB.mk B.L B.T B.Bc B.R B.rcp B.bag B.loa B.cond B.cnt B.mis B.st (fun c => if c = b then fu (B.sl b) h x else B.sl c) B.bver B.blot B.left B.out B.rb B.rl B.rr)
theorem QX.uSl {V : Nat} {B : VB} {M : zMem} (hx : QX V B M) (hT : B.T ≤ 1000) {b h x : Nat} (hb : b < 5) (h1 : B.T ≤ h) (h2 : h ≤ B.T + 50) {y : Int32} (hy : y = nI x - 1) : QX V (uSl b h x B) (zsI M (46 + 1 + b) (h % 51) y) :=
  (QX.mk (by simp (disch := omega) only [zsI_n, zsI_s, pk_un, zsL_1, zsI_2]; exact hx.rcp) (by simp (disch := omega) only [zsI_n, zsI_s, pk_un, zsL_1, zsI_2]; exact hx.bag) (by simp (disch := omega) only [zsI_n, zsI_s, pk_un, zsL_1, zsI_2]; exact hx.loa) (by simp (disch := omega) only [zsI_n, zsI_s, pk_un, zsL_1, zsI_2]; exact hx.L) (by simp (disch := omega) only [zsI_n, zsI_s, pk_un, zsL_1, zsI_2]; exact hx.cb) (fun c hc i hi => by simp (disch := omega) only [zsI_n, zsI_s, pk_un, zsL_1, zsI_2]; exact hx.st c hc i hi) (by simp (disch := omega) only [zsI_n, zsI_s, pk_un, zsL_1, zsI_2]; exact hx.cnt) (by simp (disch := omega) only [zsI_n, zsI_s, pk_un, zsL_1, zsI_2]; exact hx.T) ( fun c hc i q1 q2 => by
    have q1' : B.T ≤ i := q1
    have q2' : i ≤ B.T + 50 := q2
    show (zsI M (46 + 1 + b) (h % 51) y).1 (46 + 1 + c) (i % 51) = nI ((if c = b then fu (B.sl b) h x else B.sl c) i) - 1
    by_cases e : c = b
    · subst e
      rw [if_pos rfl, zsI_s]
      by_cases e2 : i = h
      · subst e2; rw [pk_us, fu_s, hy]
      · rw [pk_un (by omega), fu_n e2]; exact hx.sl c hc i q1' q2'
    · rw [if_neg e, zsI_n (by omega)]; exact hx.sl c hc i q1' q2') (by simp (disch := omega) only [zsI_n, zsI_s, pk_un, zsL_1, zsI_2]; exact hx.mis) (by simp (disch := omega) only [zsI_n, zsI_s, pk_un, zsL_1, zsI_2]; exact hx.Bc) (by simp (disch := omega) only [zsI_n, zsI_s, pk_un, zsL_1, zsI_2]; exact hx.bver) (by simp (disch := omega) only [zsI_n, zsI_s, pk_un, zsL_1, zsI_2]; exact hx.blot) (by simp (disch := omega) only [zsI_n, zsI_s, pk_un, zsL_1, zsI_2]; exact hx.left) (by simp (disch := omega) only [zsI_n, zsI_s, pk_un, zsL_1, zsI_2]; exact hx.out) (by simp (disch := omega) only [zsI_n, zsI_s, pk_un, zsL_1, zsI_2]; exact hx.R) (by simp (disch := omega) only [zsI_n, zsI_s, pk_un, zsL_1, zsI_2]; exact hx.rb) (by simp (disch := omega) only [zsI_n, zsI_s, pk_un, zsL_1, zsI_2]; exact hx.rl) (by simp (disch := omega) only [zsI_n, zsI_s, pk_un, zsL_1, zsI_2]; exact hx.rr))
theorem QF.uSl {V : Nat} {B : VB} {M : zMem} (hx : QF V B M) {b h x : Nat} (hb : b < 5) (hh : h < 1051) : QF V (uSl b h x B) (zsI M 75 (1051 * b + h) (nI x)) :=
  (QF.mk (by simp (disch := omega) only [zsI_n, zsI_s, pk_un, zsL_1, zsI_2]; exact hx.T) (by simp (disch := omega) only [zsI_n, zsI_s, pk_un, zsL_1, zsI_2]; exact hx.L) (by simp (disch := omega) only [zsI_n, zsI_s, pk_un, zsL_1, zsI_2]; exact hx.Bc) (by simp (disch := omega) only [zsI_n, zsI_s, pk_un, zsL_1, zsI_2]; exact hx.R) (by simp (disch := omega) only [zsI_n, zsI_s, pk_un, zsL_1, zsI_2]; exact hx.rcp) (by simp (disch := omega) only [zsI_n, zsI_s, pk_un, zsL_1, zsI_2]; exact hx.bag) (by simp (disch := omega) only [zsI_n, zsI_s, pk_un, zsL_1, zsI_2]; exact hx.loa) ( fun c hc i hi => by
    show (zsI M 75 (1051 * b + h) (nI x)).1 75 (1051 * c + i) = nI ((if c = b then fu (B.sl b) h x else B.sl c) i)
    rw [zsI_s]
    by_cases e : c = b
    · subst e
      rw [if_pos rfl]
      by_cases e2 : i = h
      · subst e2; rw [pk_us, fu_s]
      · rw [pk_un (by omega), fu_n e2]; exact hx.sl c hc i hi
    · rw [if_neg e, pk_un (by omega)]; exact hx.sl c hc i hi) (by simp (disch := omega) only [zsI_n, zsI_s, pk_un, zsL_1, zsI_2]; exact hx.cond) (by simp (disch := omega) only [zsI_n, zsI_s, pk_un, zsL_1, zsI_2]; exact hx.st) (by simp (disch := omega) only [zsI_n, zsI_s, pk_un, zsL_1, zsI_2]; exact hx.cnt) (by simp (disch := omega) only [zsI_n, zsI_s, pk_un, zsL_1, zsI_2]; exact hx.mis) (by simp (disch := omega) only [zsI_n, zsI_s, pk_un, zsL_1, zsI_2]; exact hx.bver) (by simp (disch := omega) only [zsI_n, zsI_s, pk_un, zsL_1, zsI_2]; exact hx.blot) (by simp (disch := omega) only [zsI_n, zsI_s, pk_un, zsL_1, zsI_2]; exact hx.left) (by simp (disch := omega) only [zsI_n, zsI_s, pk_un, zsL_1, zsI_2]; exact hx.out) (by simp (disch := omega) only [zsI_n, zsI_s, pk_un, zsL_1, zsI_2]; exact hx.rb) (by simp (disch := omega) only [zsI_n, zsI_s, pk_un, zsL_1, zsI_2]; exact hx.rl) (by simp (disch := omega) only [zsI_n, zsI_s, pk_un, zsL_1, zsI_2]; exact hx.rr))
theorem BOK.uSl {V n : Nat} {B : VB} (hb : BOK V n B) {b h x : Nat} (hx : x ≤ V) (h2 : h ≤ B.T + 50) : BOK V (n + 1) (uSl b h x B) :=
  (BOK.mk hb.L hb.T hb.Bc ( Nat.le_trans hb.R (Nat.le_succ n)) hb.rcp hb.cond hb.cnt hb.st ( fun c hc i hi => by
    show (if c = b then fu (B.sl b) h x else B.sl c) i ≤ V
    by_cases e : c = b
    · subst e; rw [if_pos rfl, fu_e]; split
      · exact hx
      · exact hb.sl c hc i hi
    · rw [if_neg e]; exact hb.sl c hc i hi) ( fun c hc i hi => by
    have hi' : B.T + 50 < i := hi
    show (if c = b then fu (B.sl b) h x else B.sl c) i = 0
    by_cases e : c = b
    · subst e; rw [if_pos rfl, fu_n (by omega)]; exact hb.sl0 c hc i hi'
    · rw [if_neg e]; exact hb.sl0 c hc i hi') hb.bver hb.blot hb.left hb.out0)
theorem QM.uSl {A : VA} {B : VB} {M : zMem} (h : QM A B M) {b t x : Nat} (hb : b < 5) (hh : t < 1051) : QM A (uSl b t x B) (zsI M 75 (1051 * b + t) (nI x)) := ⟨h.1.w (by omega), h.2.uSl hb hh⟩
theorem b_booked (N n : Nat) {A : VA} {B : VB} {M : zMem} (h : JJ n A B M) (x y : Int32) : Both n (fL_booked N x y) (fX8_booked N x y) M := by
  have hT := h.bok.T
  have no1 : x < 0 ∨ nI 5 ≤ x → Both n (fL_booked N x y) (fX8_booked N x y) M := fun c => by
    refine Both.no h (r := 1) ?_ ?_ (by decide)
    · unfold fL_booked fX7_booked
      rw [x_bakn N c, q_zbr, q_zbxr, if_pos (by decide)]
    · unfold fX8_booked fX8_booked_B25
      rw [m_bakn N c, q_zb, if_pos rfl, q_zl, zsI_s, pk_us, if_neg (by decide)]
  rcases pk_ix x (n := 5) (by decide) with c | c | ⟨a, ha, rfl⟩
  · exact no1 (Or.inl c)
  · exact no1 (Or.inr c)
  have no2 : y < nI B.T ∨ nI (B.T + 50) < y → Both n (fL_booked N (nI a) y) (fX8_booked N (nI a) y) M := fun c => by
    refine Both.no h (r := 2) ?_ ?_ (by decide)
    · unfold fL_booked fX7_booked
      rw [x_bak N ha, q_zb, x_hourn N h.rx.T hT c, q_zbr, q_zbxr, if_neg (by decide), if_pos (by decide)]
    · unfold fX8_booked fX8_booked_B25
      rw [m_bak N ha, q_zb, if_neg (by decide), m_hourn N h.rm.2.T hT c, q_zb, if_pos rfl, q_zl, zsI_s, pk_us, if_neg (by decide)]
  rcases q_rng y B.T (B.T + 50) (by omega) (by omega) with c | c | ⟨t, t1, t2, rfl⟩
  · exact no2 (Or.inl c)
  · exact no2 (Or.inr c)
  have z : zin (nI (1051 * a + t)) 5255 = true := zin_nI (by omega) (by decide)
  refine Both.get h (v := nI (B.sl a t) - 1) ?_ ?_
  · unfold fL_booked fX7_booked
    rw [x_bak N ha, q_zb, x_hourk N h.rx.T hT t1 t2, q_zb, x_slot N h.rx ha t1 t2 hT, q_zb, q_zbx, if_pos z1, cl0]
    rfl
  · unfold fX8_booked fX8_booked_B25
    rw [m_bak N ha, q_zb, if_neg (by decide), m_hourk N (M := zsL M 87 0 _) h.rm.2.T hT t1 t2, q_zb, if_neg (by decide), q_zl, zsI_s, pk_us, if_pos rfl, q_1051, if_pos z, nI_clamp (by omega), zsI_n (show 75 ≠ 62 by decide), zsL_1, h.rm.2.sl a ha t (by omega)]
theorem b_free (N n : Nat) {A : VA} {B : VB} {M : zMem} (h : JJ n A B M) (x y : Int32) : Both n (fL_free N x y) (fX8_free N x y) M := by
  have hT := h.bok.T
  have no1 : x < 0 ∨ nI 5 ≤ x → Both n (fL_free N x y) (fX8_free N x y) M := fun c => by
    refine Both.no h (r := 1) ?_ ?_ (by decide)
    · unfold fL_free fX7_free
      rw [x_bakn N c, q_zbr, q_zbxr, if_pos (by decide)]
    · unfold fX8_free fX8_free_B44
      rw [m_bakn N c, q_zb, if_pos rfl, q_zl, zsI_s, pk_us, if_neg (by decide)]
  rcases pk_ix x (n := 5) (by decide) with c | c | ⟨a, ha, rfl⟩
  · exact no1 (Or.inl c)
  · exact no1 (Or.inr c)
  have no2 : y < nI B.T ∨ nI (B.T + 50) < y → Both n (fL_free N (nI a) y) (fX8_free N (nI a) y) M := fun c => by
    refine Both.no h (r := 2) ?_ ?_ (by decide)
    · unfold fL_free fX7_free
      rw [x_bak N ha, q_zb, x_hourn N h.rx.T hT c, q_zbr, q_zbxr, if_neg (by decide), if_pos (by decide)]
    · unfold fX8_free fX8_free_B44
      rw [m_bak N ha, q_zb, if_neg (by decide), m_hourn N h.rm.2.T hT c, q_zb, if_pos rfl, q_zl, zsI_s, pk_us, if_neg (by decide)]
  rcases q_rng y B.T (B.T + 50) (by omega) (by omega) with c | c | ⟨t, t1, t2, rfl⟩
  · exact no2 (Or.inl c)
  · exact no2 (Or.inr c)
  have z : zin (nI (1051 * a + t)) 5255 = true := zin_nI (by omega) (by decide)
  have hV := h.aok.ver
  have s1 := h.bok.sl a ha t (by omega)
  have m := h.rm.2.sl a ha t (by omega)
  by_cases g : B.sl a t = 0
  · refine Both.no h (r := 3) ?_ ?_ (by decide)
    · unfold fL_free fX7_free fX7_checkBooked
      rw [x_bak N ha, q_zb, x_hourk N h.rx.T hT t1 t2, q_zb, x_slot N h.rx ha t1 t2 hT, q_zb, g, if_pos (by decide), q_zbr, q_zbxr, if_neg (by decide), if_neg (by decide), if_pos (by decide)]
    · unfold fX8_free fX8_free_B44
      rw [m_bak N ha, q_zb, if_neg (by decide), m_hourk N h.rm.2.T hT t1 t2, q_zb, if_neg (by decide), q_1051, if_pos z, nI_clamp (by omega), m, g, if_pos (by decide), q_zl, zsI_s, pk_us, if_neg (by decide)]
  · refine Both.go (A' := A) (B' := uSl a t 0 B) (M1 := zsI M (46 + 1 + a) (t % 51) (-1)) (v := nI (B.sl a t) - 1) h.aok (h.bok.uSl (Nat.zero_le _) t2) ?_ (h.ra.to (zeq_sI (by omega))) (h.rx.uSl hT ha t1 t2 (by decide)) ((h.rt.to (zeq_sI (by omega))).up (Nat.le_succ n)) ⟨zsI (zsI (zsL (zsI M (46 + 1 + a) (t % 51) (-1)) 87 0 (nI (B.sl a t) - 1).toInt64) 62 30 0) 75 (1051 * a + t) (nI 0), ?_, ?_, (zrf.refl.sI (by omega)).sI (by omega), QM.uSl (QM.cong h.rm (fun k h1 h2 => by rw [zsL_1, zsI_n (by omega)])).note ha (by omega)⟩
    · unfold fL_free fX7_free fX7_checkBooked
      rw [x_bak N ha, q_zb, x_hourk N h.rx.T hT t1 t2, q_zb, x_slot N h.rx ha t1 t2 hT, q_zb, if_neg (by rw [q_pred (by omega)]; exact q_m1 (by omega)), q_zb, x_set N ha (by omega), q_zb, q_zbx, if_pos z1, cl0]
      rfl
    · unfold fX8_free fX8_free_B44
      rw [m_bak N ha, q_zb, if_neg (by decide), m_hourk N (M := zsL _ 87 0 _) (T := B.T) (by rw [zsL_1, zsI_n (by omega)]; exact h.rm.2.T) hT t1 t2, q_zb, if_neg (by decide), q_1051, if_pos z, nI_clamp (by omega), zsL_1, zsI_n (show 75 ≠ 46 + 1 + a by omega), m, if_neg (nI_ne0 (by omega) (by omega)), q_zl, zsI_s, pk_us, if_pos (by decide), if_pos z, zsI_n (show 75 ≠ 62 by decide), zsL_1, zsI_n (show 75 ≠ 46 + 1 + a by omega), m, q_zv, if_pos z, q_zl, nI_0]
    · rw [zsI_n (by omega), zsI_s, pk_us]
