/-! pure: baking -/
def lor (f : Nat → Nat) : Nat → Nat
  | 0 => 0
  | k + 1 => lor f k ||| 2 ^ f k
theorem lor_lt {f : Nat → Nat} : ∀ k, (∀ j, j < k → f j < 16) → lor f k < 2 ^ 16 := by
  intro k
  induction k with
  | zero => intro _; exact Nat.two_pow_pos 16
  | succ k ih =>
    intro h
    exact Nat.or_lt_two_pow (ih (fun j hj => h j (by omega))) (Nat.pow_lt_pow_right (by decide) (h k (by omega)))
def bake (b v : Nat) (B : VB) : VB := (VB.mk B.L B.T (B.Bc + 1) B.R B.rcp B.bag B.loa B.cond (fu B.cnt b (B.cnt b - B.bag v)) B.mis (fun c => if c = b then (fun i => B.st b (i + B.bag v)) else B.st c) B.sl (fu B.bver B.Bc v) (fu B.blot B.Bc (lor (B.st b) (B.bag v))) (fu B.left B.Bc (B.loa v)) B.out B.rb B.rl B.rr)
theorem BOK.kBake {V n : Nat} {B : VB} (hb : BOK V n B) {b v : Nat} (h5 : b < 5) (hv : v < V) (hbg : B.bag v ≤ B.cnt b) (h60 : B.Bc < 60) : BOK V n (bake b v B) :=
  (BOK.mk hb.L hb.T ( h60) hb.R hb.rcp hb.cond ( fun c hc => by
    show fu B.cnt b (B.cnt b - B.bag v) c ≤ 200
    have := hb.cnt c hc
    by_cases e : c = b
    · subst e; rw [fu_s]; omega
    · rw [fu_n e]; exact this) ( fun c hc i hi => by
    have hi' : i < fu B.cnt b (B.cnt b - B.bag v) c := hi
    show (if c = b then (fun i => B.st b (i + B.bag v)) else B.st c) i < B.L
    by_cases e : c = b
    · subst e
      rw [fu_s] at hi'
      rw [if_pos rfl]
      exact hb.st c hc (i + B.bag v) (by omega)
    · rw [fu_n e] at hi'; rw [if_neg e]; exact hb.st c hc i hi') hb.sl hb.sl0 ( fun i hi => by
    have hi' : i < B.Bc + 1 := hi
    show fu B.bver B.Bc v i < V
    by_cases e : i = B.Bc
    · subst e; rw [fu_s]; exact hv
    · rw [fu_n e]; exact hb.bver i (by omega)) ( fun i hi => by
    have hi' : i < B.Bc + 1 := hi
    show fu B.blot B.Bc (lor (B.st b) (B.bag v)) i < 2 ^ 16
    by_cases e : i = B.Bc
    · subst e; rw [fu_s]; exact lor_lt _ (fun j hj => Nat.lt_of_lt_of_le (hb.st b h5 j (by omega)) hb.L)
    · rw [fu_n e]; exact hb.blot i (by omega)) ( fun i hi => by
    have hi' : i < B.Bc + 1 := hi
    show fu B.left B.Bc (B.loa v) i + B.out i ≤ 40
    by_cases e : i = B.Bc
    · subst e; rw [fu_s, hb.out0 _ (Nat.le_refl _)]; exact (hb.rcp v hv).2.2.2
    · rw [fu_n e]; exact hb.left i (by omega)) ( fun i hi => hb.out0 i (Nat.le_trans (Nat.le_succ _) hi)))
theorem x_first (N : Nat) {b k c : Nat} (hb : b < 5) (hc : c ≤ 200) (hk : k ≤ c) {f : Nat → Nat} (hf : ∀ j, j < c → f j < 16) {M : zMem} (hr : ∀ j, j < c → M.1 (38 + 1 + b) j = nI (f j)) : ∀ q n i, i + q = k → q < n → fX2_takeFirst_B5 N n (nI b) (nI k) (nI (lor f i)) (nI i) M = fX2_takeFirst_B34 N N (nI b) (nI k) (nI (lor f k)) (nI k) M := by
  intro q
  induction q with
  | zero =>
    intro n i h1 h2
    obtain ⟨n, rfl⟩ : ∃ q, n = q + 1 := ⟨n - 1, by omega⟩
    obtain rfl : i = k := by omega
    rw [fX2_takeFirst_B5, if_pos (nI_le (by omega) (by omega))]
  | succ q ih =>
    intro n i h1 h2
    obtain ⟨n, rfl⟩ : ∃ q, n = q + 1 := ⟨n - 1, by omega⟩
    have h16 := hf i (by omega)
    rw [fX2_takeFirst_B5, if_neg (nI_ge (by omega) (by omega)), if_pos (z5 hb), if_pos (zin_nI (by omega) (by decide)), nI_clamp (by omega), nI_clamp (by omega), hr i (by omega), q_shl (by omega), q_or, q_zv, nI_1]
    exact ih n (i + 1) (by omega) (by omega)
theorem x_shift (N : Nat) {b k c : Nat} {y : Int32} (hb : b < 5) (hc : c ≤ 200) (hk : k ≤ c) {f : Nat → Nat} : ∀ q n i {M : zMem}, M.1 44 b = nI c → (∀ j, j < c → M.1 (38 + 1 + b) j = nI (if j + k < i then f (j + k) else f j)) → k ≤ i → i + q = c → q < n → ∃ M', fX2_takeFirst_B34 N n (nI b) (nI k) y (nI i) M = some (.inl y, M') ∧ M'.2 = M.2 ∧ (∀ a, a ≠ 38 + 1 + b → a ≠ 44 → M'.1 a = M.1 a) ∧ M'.1 44 = upd (M.1 44) b (nI (c - k)) ∧ ∀ j, j < c - k → M'.1 (38 + 1 + b) j = nI (f (j + k)) := by
  intro q
  induction q with
  | zero =>
    intro n i M e1 e2 h0 h1 h2
    obtain ⟨n, rfl⟩ : ∃ q, n = q + 1 := ⟨n - 1, by omega⟩
    obtain rfl : i = c := by omega
    rw [fX2_takeFirst_B34]
    simp only [z5 hb, if_true, q_zl]
    rw [nI_clamp (by omega), e1, if_pos (nI_le (by omega) (by omega)), pk_sub hk]
    exact ⟨_, rfl, rfl, fun a h1 h2 => zsI_n h2, zsI_s, fun j hj => by rw [zsI_n (by omega), e2 j (by omega), if_pos (by omega)]⟩
  | succ q ih =>
    intro n i M e1 e2 h0 h1 h2
    obtain ⟨n, rfl⟩ : ∃ q, n = q + 1 := ⟨n - 1, by omega⟩
    rw [fX2_takeFirst_B34]
    simp only [z5 hb, if_true, q_zl]
    rw [nI_clamp (n := b) (by omega), e1, if_neg (nI_ge (by omega) (by omega)), if_pos (zin_nI (by omega) (by decide)), pk_sub h0, if_pos (zin_nI (by omega) (by decide)), nI_clamp (by omega), nI_clamp (by omega), e2 i (by omega), if_neg (by omega), nI_1]
    obtain ⟨M', f1, f2, f3, f4, f5⟩ := ih n (i + 1) (M := zsI M (38 + 1 + b) (i - k) (nI (f i))) (by rw [zsI_n (by omega)]; exact e1) (fun j hj => by
      rw [zsI_s]
      by_cases w : j = i - k
      · rw [w, pk_us, if_pos (by omega), show i - k + k = i by omega]
      · rw [pk_un w, e2 j hj]
        by_cases w2 : j + k < i
        · rw [if_pos w2, if_pos (by omega)]
        · rw [if_neg w2, if_neg (by omega)]) (by omega) (by omega) (by omega)
    exact ⟨M', f1, f2, fun a h1 h2 => by rw [f3 a h1 h2, zsI_n h1], by rw [f4, zsI_n (by omega)], f5⟩
theorem x_bake (N : Nat) (hN : 300 ≤ N) {V n0 : Nat} {B : VB} {M : zMem} (hx : QX V B M) (hb : BOK V n0 B) {b v : Nat} (h5 : b < 5) (hv : v < V) (hV : V ≤ 60) (hc : B.bag v ≤ B.cnt b) (h60 : B.Bc < 60) : ∃ M', fX7_bake N (nI b) (nI v) M = some (.inl 0, M') ∧ QX V (bake b v B) M' ∧ zxf M M' := by
  have hcn := hb.cnt b h5
  have hL := hb.L
  have hf : ∀ j, j < B.cnt b → B.st b j < 16 := fun j hj => Nat.lt_of_lt_of_le (hb.st b h5 j hj) hL
  have p1 := x_first N (b := b) (k := B.bag v) (c := B.cnt b) h5 hcn hc hf (M := M) (fun j hj => hx.st b h5 j hj) (B.bag v) N 0 (by omega) (by omega)
  obtain ⟨M1, e1, e2, e3, e4, e5⟩ := x_shift N (b := b) (k := B.bag v) (c := B.cnt b) (y := nI (lor (B.st b) (B.bag v))) h5 hcn hc (f := B.st b) (B.cnt b - B.bag v) N (B.bag v) (M := M) (hx.cnt b h5) (fun j hj => by rw [if_neg (by omega)]; exact hx.st b h5 j hj) (Nat.le_refl _) (by omega) (by omega)
  have z60v : zin (nI v) 60 = true := z60 (by omega)
  have z60c : zin (nI B.Bc) 60 = true := z60 h60
  have eB : M1.1 53 0 = nI B.Bc := by rw [e3 53 (by omega) (by decide)]; exact hx.Bc
  have eL : M1.1 36 v = nI (B.loa v) := by rw [e3 36 (by omega) (by decide)]; exact hx.loa v hv
  rw [show lor (B.st b) 0 = 0 from rfl, nI_0] at p1
  unfold fX7_bake fX2_takeFirst fX1_add
  simp only [z60v, if_true]
  rw [nI_clamp (by omega), hx.bag v hv, p1, e1, q_zb, eL]
  simp (disch := omega) only [z60c, if_true, q_zl, nI_clamp, zsI_n, eB, nI_1, q_zb]
  refine ⟨_, rfl, ?_, ⟨fun a ha => by simp (disch := omega) only [zsI_n]; exact e3 a (by omega) (by omega), by simp only [zsI_2]; exact e2⟩⟩
  have r44 : ∀ c, c < 5 → M1.1 44 c = nI (fu B.cnt b (B.cnt b - B.bag v) c) := fun c hc => by
    rw [e4]
    by_cases e : c = b
    · subst e; rw [pk_us, fu_s]
    · rw [pk_un e, fu_n e]; exact hx.cnt c hc
  refine QX.mk ?_ ?_ ?_ ?_ ?_ ?_ ?_ ?_ ?_ ?_ ?_ ?_ ?_ ?_ ?_ ?_ ?_ ?_ ?_
  · simp (disch := omega) only [zsI_n]; rw [e3 34 (by omega) (by decide)]; exact hx.rcp
  · simp (disch := omega) only [zsI_n]; rw [e3 35 (by omega) (by decide)]; exact hx.bag
  · simp (disch := omega) only [zsI_n]; rw [e3 36 (by omega) (by decide)]; exact hx.loa
  · simp (disch := omega) only [zsI_n]; rw [e3 37 (by omega) (by decide)]; exact hx.L
  · simp (disch := omega) only [zsI_n]; rw [e3 37 (by omega) (by decide)]; exact hx.cb
  · intro c hc i hi
    have hi' : i < fu B.cnt b (B.cnt b - B.bag v) c := hi
    show _ = nI ((if c = b then (fun i => B.st b (i + B.bag v)) else B.st c) i)
    simp (disch := omega) only [zsI_n]
    by_cases e : c = b
    · subst e
      rw [fu_s] at hi'
      rw [if_pos rfl]
      exact e5 i hi'
    · rw [fu_n e] at hi'
      rw [if_neg e, e3 _ (by omega) (by omega)]; exact hx.st c hc i hi'
  · simp (disch := omega) only [zsI_n]; exact r44
  · simp (disch := omega) only [zsI_n]; rw [e3 45 (by omega) (by decide)]; exact hx.T
  · intro c hc i h1 h2
    simp (disch := omega) only [zsI_n]
    rw [e3 _ (by omega) (by omega)]; exact hx.sl c hc i h1 h2
  · simp (disch := omega) only [zsI_n]; rw [e3 52 (by omega) (by decide)]; exact hx.mis
  · rw [zsI_s, pk_us]; rfl
  · intro i hi
    have hi' : i < B.Bc + 1 := hi
    show _ = nI (fu B.bver B.Bc v i)
    simp (disch := omega) only [zsI_n, zsI_s]
    by_cases e : i = B.Bc
    · subst e; rw [pk_us, fu_s]
    · rw [pk_un e, fu_n e, e3 54 (by omega) (by decide)]; exact hx.bver i (by omega)
  · intro i hi
    have hi' : i < B.Bc + 1 := hi
    show _ = nI (fu B.blot B.Bc (lor (B.st b) (B.bag v)) i)
    simp (disch := omega) only [zsI_n, zsI_s]
    by_cases e : i = B.Bc
    · subst e; rw [pk_us, fu_s]
    · rw [pk_un e, fu_n e, e3 55 (by omega) (by decide)]; exact hx.blot i (by omega)
  · intro i hi
    have hi' : i < B.Bc + 1 := hi
    show _ = nI (fu B.left B.Bc (B.loa v) i)
    simp (disch := omega) only [zsI_n, zsI_s]
    by_cases e : i = B.Bc
    · subst e; rw [pk_us, fu_s]
    · rw [pk_un e, fu_n e, e3 56 (by omega) (by decide)]; exact hx.left i (by omega)
  · intro i hi
    have hi' : i < B.Bc + 1 := hi
    show _ = nI (B.out i)
    simp (disch := omega) only [zsI_n, zsI_s]
    by_cases e : i = B.Bc
    · subst e; rw [pk_us, hb.out0 _ (Nat.le_refl _)]; rfl
    · rw [pk_un e, e3 57 (by omega) (by decide)]; exact hx.out i (by omega)
  · simp (disch := omega) only [zsI_n]; rw [e3 58 (by omega) (by decide)]; exact hx.R
  · simp (disch := omega) only [zsI_n]; rw [e3 59 (by omega) (by decide)]; exact hx.rb
  · simp (disch := omega) only [zsI_n]; rw [e3 60 (by omega) (by decide)]; exact hx.rl
  · simp (disch := omega) only [zsI_n]; rw [e3 61 (by omega) (by decide)]; exact hx.rr
/-- the reference's loop, to its last writes -/
def mBake (M : zMem) (b v k c n lots lv : Nat) : zMem := zsI (zsI (zsI (zsI (zsI M 78 b (nI (c - k))) 80 n (nI v)) 81 n (nI lots)) 82 n (nI lv)) 62 21 (nI (n + 1))
theorem m_bloop (N : Nat) {b v k c n0 lv : Nat} (hb : b < 5) (hv : v < 60) (hc : c ≤ 200) (hk : k ≤ c) (hn0 : n0 < 60) {f : Nat → Nat} (hf : ∀ j, j < c → f j < 16) : ∀ q n i {M : zMem}, M.1 78 b = nI c → M.1 71 v = nI k → M.1 72 v = nI lv → M.1 62 21 = nI n0 → (∀ j, j < c → M.1 77 (200 * b + j) = nI (if j + k < i then f (j + k) else f j)) → i + q = c → q < n → ∃ M', fX8_bakes_B49 N n (nI b) (nI v) (nI (lor f (min i k))) (nI i) M = some (.inl 1, mBake M' b v k c n0 (lor f k) lv) ∧ M'.2 = M.2 ∧ (∀ a, a ≠ 77 → M'.1 a = M.1 a) ∧ (∀ j, j < c - k → M'.1 77 (200 * b + j) = nI (f (j + k))) ∧ ∀ d, d < 5 → d ≠ b → ∀ j, j < 200 → M'.1 77 (200 * d + j) = M.1 77 (200 * d + j) := by
  have z60v : zin (nI v) 60 = true := z60 hv
  have z60c : zin (nI n0) 60 = true := z60 hn0
  intro q
  induction q with
  | zero =>
    intro n i M e1 e2 e3 e4 e5 h1 h2
    obtain ⟨n, rfl⟩ : ∃ q, n = q + 1 := ⟨n - 1, by omega⟩
    obtain rfl : i = c := by omega
    rw [fX8_bakes_B49, Nat.min_eq_right hk]
    simp only [z5 hb, z60v, if_true, q_zl]
    rw [nI_clamp (n := b) (by omega), nI_clamp (n := v) (by omega), e1, if_pos (nI_le (by omega) (by omega)), e2, pk_sub hk]
    refine ⟨M, ?_, rfl, fun _ _ => rfl, fun j hj => by rw [e5 j (by omega), if_pos (by omega)], fun _ _ _ _ _ => rfl⟩
    unfold mBake
    simp (disch := omega) only [z60c, if_true, nI_clamp, zsI_n, e4, e3, nI_1]
  | succ q ih =>
    intro n i M e1 e2 e3 e4 e5 h1 h2
    obtain ⟨n, rfl⟩ : ∃ q, n = q + 1 := ⟨n - 1, by omega⟩
    have h16 := hf i (by omega)
    have zi : zin (nI (200 * b + i)) 1000 = true := zin_nI (by omega) (by decide)
    have e5i := e5 i (by omega)
    rw [if_neg (by omega)] at e5i
    rw [fX8_bakes_B49]
    unfold fX8_bakes_B125
    simp only [z5 hb, z60v, if_true, q_zl]
    rw [nI_clamp (n := b) (by omega), nI_clamp (n := v) (by omega), e1, if_neg (nI_ge (by omega) (by omega)), e2, q_200, if_pos zi, if_pos zi, nI_clamp (n := 200 * b + i) (by omega), e5i, nI_1]
    by_cases g : k ≤ i
    · rw [if_pos (nI_le g (by omega)), pk_sub (by omega), if_pos (zin_nI (by omega) (by decide)), nI_clamp (by omega)]
      obtain ⟨M', f1, f2, f3, f4, f5⟩ := ih n (i + 1) (M := zsI M 77 (200 * b + i - k) (nI (f i))) (by rw [zsI_n (by decide)]; exact e1) (by rw [zsI_n (by decide)]; exact e2) (by rw [zsI_n (by decide)]; exact e3) (by rw [zsI_n (by decide)]; exact e4) (fun j hj => by
        rw [zsI_s]
        by_cases w : j = i - k
        · rw [w, show 200 * b + i - k = 200 * b + (i - k) by omega, pk_us, if_pos (by omega), show i - k + k = i by omega]
        · rw [pk_un (by omega), e5 j hj]
          by_cases w2 : j + k < i
          · rw [if_pos w2, if_pos (by omega)]
          · rw [if_neg w2, if_neg (by omega)]) (by omega) (by omega)
      rw [Nat.min_eq_right (by omega)] at f1
      rw [Nat.min_eq_right g]
      exact ⟨M', f1, f2, fun a ha => by rw [f3 a ha, zsI_n ha], f4, fun d hd hdb j hj => by rw [f5 d hd hdb j hj, zsI_s, pk_un (by omega)]⟩
    · rw [if_neg (nI_ge (by omega) (by omega)), q_shl (by omega), q_or, q_zv]
      obtain ⟨M', f1, f2, f3, f4, f5⟩ := ih n (i + 1) (M := M) e1 e2 e3 e4 (fun j hj => by
        rw [e5 j hj, if_neg (by omega), if_neg (by omega)]) (by omega) (by omega)
      rw [Nat.min_eq_left (by omega)] at f1
      rw [Nat.min_eq_left (by omega)]
      exact ⟨M', f1, f2, f3, f4, f5⟩
theorem m_bake (N : Nat) (hN : 300 ≤ N) {V n0 : Nat} {B : VB} {M : zMem} (hx : QF V B M) (hb : BOK V n0 B) {b v : Nat} (h5 : b < 5) (hv : v < V) (hV : V ≤ 60) (hc : B.bag v ≤ B.cnt b) (h60 : B.Bc < 60) : ∃ M', fX8_bakes_B49 N N (nI b) (nI v) 0 0 M = some (.inl 1, M') ∧ QF V (bake b v B) M' ∧ (∀ a, a < 77 → a ≠ 62 → M'.1 a = M.1 a) ∧ (∀ j, j ≠ 21 → M'.1 62 j = M.1 62 j) ∧ M'.2 = M.2 := by
  have hcn := hb.cnt b h5
  have hL := hb.L
  have hf : ∀ j, j < B.cnt b → B.st b j < 16 := fun j hj => Nat.lt_of_lt_of_le (hb.st b h5 j hj) hL
  obtain ⟨M1, e1, e2, e3, e4, e5⟩ := m_bloop N (b := b) (v := v) (k := B.bag v) (c := B.cnt b) (n0 := B.Bc) (lv := B.loa v) h5 (by omega) hcn hc h60 hf (B.cnt b) N 0 (M := M) (hx.cnt b h5) (hx.bag v hv) (hx.loa v hv) hx.Bc (fun j hj => by rw [if_neg (by omega)]; exact hx.st b h5 j hj) (by omega) (by omega)
  rw [show lor (B.st b) (min 0 (B.bag v)) = 0 by rw [Nat.zero_min]; rfl, nI_0] at e1
  refine ⟨_, e1, ?_, fun a h1 h2 => ?_, fun j hj => ?_, ?_⟩
  · unfold mBake
    refine QF.mk ?_ ?_ ?_ ?_ ?_ ?_ ?_ ?_ ?_ ?_ ?_ ?_ ?_ ?_ ?_ ?_ ?_ ?_ ?_
    · simp (disch := omega) only [zsI_n, zsI_s, pk_un]; rw [e3 62 (by decide)]; exact hx.T
    · simp (disch := omega) only [zsI_n, zsI_s, pk_un]; rw [e3 62 (by decide)]; exact hx.L
    · rw [zsI_s, pk_us]; rfl
    · simp (disch := omega) only [zsI_n, zsI_s, pk_un]; rw [e3 62 (by decide)]; exact hx.R
    · simp (disch := omega) only [zsI_n]; rw [e3 70 (by decide)]; exact hx.rcp
    · simp (disch := omega) only [zsI_n]; rw [e3 71 (by decide)]; exact hx.bag
    · simp (disch := omega) only [zsI_n]; rw [e3 72 (by decide)]; exact hx.loa
    · simp (disch := omega) only [zsI_n]; rw [e3 75 (by decide)]; exact hx.sl
    · simp (disch := omega) only [zsI_n]; rw [e3 76 (by decide)]; exact hx.cond
    · intro c hc i hi
      have hi' : i < fu B.cnt b (B.cnt b - B.bag v) c := hi
      have hc2 := hb.cnt c hc
      show _ = nI ((if c = b then (fun i => B.st b (i + B.bag v)) else B.st c) i)
      simp (disch := omega) only [zsI_n]
      by_cases e : c = b
      · subst e
        rw [fu_s] at hi'
        rw [if_pos rfl]
        exact e4 i hi'
      · rw [fu_n e] at hi'
        rw [if_neg e, e5 c hc e i (by omega)]; exact hx.st c hc i hi'
    · intro c hc
      show _ = nI (fu B.cnt b (B.cnt b - B.bag v) c)
      simp (disch := omega) only [zsI_n, zsI_s]
      by_cases e : c = b
      · subst e; rw [pk_us, fu_s]
      · rw [pk_un e, fu_n e, e3 78 (by decide)]; exact hx.cnt c hc
    · simp (disch := omega) only [zsI_n]; rw [e3 79 (by decide)]; exact hx.mis
    · intro i hi
      have hi' : i < B.Bc + 1 := hi
      show _ = nI (fu B.bver B.Bc v i)
      simp (disch := omega) only [zsI_n, zsI_s]
      by_cases e : i = B.Bc
      · subst e; rw [pk_us, fu_s]
      · rw [pk_un e, fu_n e, e3 80 (by decide)]; exact hx.bver i (by omega)
    · intro i hi
      have hi' : i < B.Bc + 1 := hi
      show _ = nI (fu B.blot B.Bc (lor (B.st b) (B.bag v)) i)
      simp (disch := omega) only [zsI_n, zsI_s]
      by_cases e : i = B.Bc
      · subst e; rw [pk_us, fu_s]
      · rw [pk_un e, fu_n e, e3 81 (by decide)]; exact hx.blot i (by omega)
    · intro i hi
      have hi' : i < B.Bc + 1 := hi
      show _ = nI (fu B.left B.Bc (B.loa v) i)
      simp (disch := omega) only [zsI_n, zsI_s]
      by_cases e : i = B.Bc
      · subst e; rw [pk_us, fu_s]
      · rw [pk_un e, fu_n e, e3 82 (by decide)]; exact hx.left i (by omega)
    · simp (disch := omega) only [zsI_n]; rw [e3 83 (by decide)]; exact hx.out
    · simp (disch := omega) only [zsI_n]; rw [e3 84 (by decide)]; exact hx.rb
    · simp (disch := omega) only [zsI_n]; rw [e3 85 (by decide)]; exact hx.rl
    · simp (disch := omega) only [zsI_n]; rw [e3 86 (by decide)]; exact hx.rr
  · unfold mBake
    simp (disch := omega) only [zsI_n]; exact e3 a (by omega)
  · unfold mBake
    simp (disch := omega) only [zsI_n, zsI_s, pk_un]; rw [e3 62 (by decide)]
  · unfold mBake
    simp only [zsI_2]; exact e2
