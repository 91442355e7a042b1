/-! pure: tell -/
theorem held_eq {A A' : VA} (h1 : A'.len = A.len) (h2 : A'.log = A.log) (v : Nat) : held A' v = held A v := by
  unfold held
  rw [hset_eq (A' := A') (A := A) (fun b _ => by rw [h1]) (fun b _ => by rw [h2])]
theorem m_before (N : Nat) (hN : 101 ≤ N) {A : VA} (hk : AOK A) {s r : Int32} : ∀ k n v {M : zMem}, QR A M → v + k = A.V → k < n → ∃ M', fX8_tell_B83 N n s r (nI v) M = fX8_tell_B118 N N s r 0 M' ∧ (∀ a, a ≠ 74 → M'.1 a = M.1 a) ∧ M'.2 = M.2 ∧ ∀ w, w < A.V → M'.1 74 w = if v ≤ w then nI (held A w).toNat else M.1 74 w := by
  have hV := hk.ver
  intro k
  induction k with
  | zero =>
    intro n v M hA h1 h2
    obtain ⟨n, rfl⟩ : ∃ q, n = q + 1 := ⟨n - 1, by omega⟩
    rw [fX8_tell_B83, hA.ver, if_pos (nI_le (by omega) (by omega))]
    exact ⟨M, rfl, fun _ _ => rfl, rfl, fun w hw => by rw [if_neg (by omega)]⟩
  | succ k ih =>
    intro n v M hA h1 h2
    obtain ⟨n, rfl⟩ : ∃ q, n = q + 1 := ⟨n - 1, by omega⟩
    have step : ∀ x : Int32, x = nI (held A v).toNat → ∃ M', fX8_tell_B109 N (fX8_tell_B83 N n) s r (nI v) (nI v) x M = fX8_tell_B118 N N s r 0 M' ∧ (∀ a, a ≠ 74 → M'.1 a = M.1 a) ∧ M'.2 = M.2 ∧ ∀ w, w < A.V → M'.1 74 w = if v ≤ w then nI (held A w).toNat else M.1 74 w := fun x hx => by
      unfold fX8_tell_B109
      rw [if_pos (z60 (by omega)), q_zl, nI_clamp (by omega), nI_1]
      obtain ⟨M', e1, e2, e3, e4⟩ := ih n (v + 1) (M := zsI M 74 v x) (hA.w (by decide)) (by omega) (by omega)
      refine ⟨M', e1, fun a ha => by rw [e2 a ha, zsI_n ha], e3, fun w hw => ?_⟩
      rw [e4 w hw, zsI_s]
      by_cases c : w = v
      · subst c; rw [if_neg (by omega), pk_us, if_pos (Nat.le_refl _), hx]
      · rw [pk_un c]
        by_cases c2 : v ≤ w
        · rw [if_pos (by omega), if_pos c2]
        · rw [if_neg (by omega), if_neg c2]
    rw [fX8_tell_B83, hA.ver, if_neg (nI_ge (by omega) (by omega)), m_held N hN hA hk (by omega), q_zb]
    by_cases g : held A v = true
    · rw [g, if_neg (by decide)]
      exact step 1 (by rw [g]; rfl)
    · rw [Bool.not_eq_true] at g
      rw [g, if_pos (by rfl)]
      exact step 0 (by rw [g]; rfl)
theorem m_diff (N : Nat) {A : VA} {M : zMem} (hA : QR A M) (hk : AOK A) {s r : Nat} (hs : s < 5) (hr : r < 5) : ∀ k n i, i + k = min (A.len s) (A.len r) → k < n → fX8_tell_B118 N n (nI s) (nI r) (nI i) M = fX8_tell_B169 N (nI s) (nI r) (nI (aDiff A s r k i)) M := by
  have l1 := hk.len s hs
  have l2 := hk.len r hr
  have hv := hk.ver
  have m1 := Nat.min_le_left (A.len s) (A.len r)
  have m2 := Nat.min_le_right (A.len s) (A.len r)
  intro k
  induction k with
  | zero =>
    intro n i h1 h2
    obtain ⟨n, rfl⟩ : ∃ q, n = q + 1 := ⟨n - 1, by omega⟩
    rw [fX8_tell_B118, if_pos (z5 hs), nI_clamp (by omega), hA.len s hs]
    by_cases g : A.len s ≤ i
    · rw [if_pos (nI_le g (by omega))]; rfl
    · rw [if_neg (nI_ge (by omega) (by omega)), if_pos (z5 hr), nI_clamp (by omega), hA.len r hr, if_pos (nI_le (by omega) (by omega))]; rfl
  | succ k ih =>
    intro n i h1 h2
    obtain ⟨n, rfl⟩ : ∃ q, n = q + 1 := ⟨n - 1, by omega⟩
    have v1 := hk.logv s hs i (by omega)
    have v2 := hk.logv r hr i (by omega)
    rw [fX8_tell_B118, if_pos (z5 hs), nI_clamp (by omega), hA.len s hs, if_neg (nI_ge (by omega) (by omega)), if_pos (z5 hr), nI_clamp (by omega), hA.len r hr, if_neg (nI_ge (by omega) (by omega)), q_20, q_20, if_pos (zin_nI (by omega) (by decide)), if_pos (zin_nI (by omega) (by decide)), nI_clamp (by omega), nI_clamp (by omega), hA.log s hs i (by omega), hA.log r hr i (by omega), aDiff]
    by_cases c : A.log s i = A.log r i
    · rw [if_pos (by rw [c]), if_pos c, nI_1]
      exact ih n (i + 1) (by omega) (by omega)
    · rw [if_neg (fun q => c ((nI_eq (by omega) (by omega)).mp q)), if_neg c]
theorem m_cut (N : Nat) {A : VA} {M : zMem} (hA : QR A M) (hk : AOK A) {s r : Nat} (hs : s < 5) (hr : r < 5) : fX8_tell_B169 N (nI s) (nI r) (nI (aDiff A s r (min (A.len s) (A.len r)) 0)) M = fX8_tell_B208 N N (nI s) (nI r) 0 (zsI M 68 r (nI (aCut A s r))) := by
  have l1 := hk.len s hs
  have l2 := hk.len r hr
  have m1 := Nat.min_le_left (A.len s) (A.len r)
  have m2 := Nat.min_le_right (A.len s) (A.len r)
  have m3 : min (A.len s) (A.len r) = A.len s ∨ min (A.len s) (A.len r) = A.len r := by rcases Nat.le_total (A.len s) (A.len r) with q | q; exact Or.inl (Nat.min_eq_left q); exact Or.inr (Nat.min_eq_right q)
  have dl := aDiff_le (A := A) (s := s) (r := r) (min (A.len s) (A.len r)) 0
  unfold aCut
  generalize aDiff A s r (min (A.len s) (A.len r)) 0 = d at dl ⊢
  unfold fX8_tell_B169 fX8_tell_B198 fX8_tell_B204
  rw [if_pos (z5 hs), nI_clamp (by omega), hA.len s hs]
  simp only [z5 hr, if_true, q_zl]
  rw [nI_clamp (by omega), hA.len r hr]
  by_cases g : d < min (A.len s) (A.len r)
  · rw [if_neg (nI_ge (by omega) (by omega)), if_neg (nI_ge (by omega) (by omega)), if_pos g]
  · rw [if_neg g]
    by_cases g1 : A.len s ≤ d
    · rw [if_pos (nI_le g1 (by omega))]
    · rw [if_neg (nI_ge (by omega) (by omega)), if_pos (nI_le (by omega) (by omega))]
theorem m_copy (N : Nat) {A : VA} (hk : AOK A) {s r : Nat} (hs : s < 5) (hr : r < 5) (hsr : s ≠ r) : ∀ k n l t {M : zMem}, M.1 68 s = nI (A.len s) → M.1 68 r = nI l → l ≤ 20 → (∀ j, j < A.len s → M.1 67 (20 * s + j) = nI (A.log s j)) → (k = 0 ∧ A.len s ≤ l ∨ l + k = A.len s) → k < n →
    ∃ M', fX8_tell_B208 N n (nI s) (nI r) (nI t) M = zb (fX8_callsBackVersions N M') (fun _ M43 => some (.inl (nI (t + k)), M43)) ∧ (∀ a, a ≠ 67 → a ≠ 68 → M'.1 a = M.1 a) ∧ M'.2 = M.2 ∧ (∀ b, b < 5 → M'.1 68 b = if b = r then nI (l + k) else M.1 68 b) ∧ (∀ b, b < 5 → ∀ j, j < 20 → M'.1 67 (20 * b + j) = if b = r ∧ l ≤ j ∧ j < l + k then nI (A.log s j) else M.1 67 (20 * b + j)) := by
  have l1 := hk.len s hs
  intro k
  induction k with
  | zero =>
    intro n l t M e1 e2 e3 e4 h1 h2
    obtain ⟨n, rfl⟩ : ∃ q, n = q + 1 := ⟨n - 1, by omega⟩
    rw [fX8_tell_B208, if_pos (z5 hr), if_pos (z5 hs), nI_clamp (by omega), nI_clamp (by omega), e1, e2, if_pos (nI_le (by omega) (by omega))]
    refine ⟨M, rfl, fun _ _ _ => rfl, rfl, fun b hb => ?_, fun b hb j hj => ?_⟩
    · by_cases c : b = r
      · rw [if_pos c, c, e2]; rfl
      · rw [if_neg c]
    · rw [if_neg (by omega)]
  | succ k ih =>
    intro n l t M e1 e2 e3 e4 h1 h2
    obtain ⟨n, rfl⟩ : ∃ q, n = q + 1 := ⟨n - 1, by omega⟩
    have zs : zin (nI (20 * s + l)) 100 = true := zin_nI (by omega) (by decide)
    have zr : zin (nI (20 * r + l)) 100 = true := zin_nI (by omega) (by decide)
    rw [fX8_tell_B208]
    simp only [z5 hr, z5 hs, if_true, q_zl]
    rw [nI_clamp (n := r) (by omega), nI_clamp (n := s) (by omega), e1, e2, if_neg (nI_ge (by omega) (by omega)), q_20, q_20, if_pos zs, if_pos zr, nI_clamp (by omega), nI_clamp (by omega), e4 l (by omega), zsI_n (show 68 ≠ 67 by decide), e2, nI_1, nI_1]
    obtain ⟨M', f1, f2, f3, f4, f5⟩ := ih n (l + 1) (t + 1) (M := zsI (zsI M 67 (20 * r + l) (nI (A.log s l))) 68 r (nI (l + 1))) (by rw [zsI_s, pk_un hsr, zsI_n (by decide)]; exact e1) (by rw [zsI_s, pk_us]) (by omega) (fun j hj => by rw [zsI_n (by decide), zsI_s, pk_un (by omega)]; exact e4 j hj) (by omega) (by omega)
    refine ⟨M', ?_, fun a h1 h2 => by rw [f2 a h1 h2, zsI_n h2, zsI_n h1], f3, fun b hb => ?_, fun b hb j hj => ?_⟩
    · rw [f1, show t + 1 + k = t + (k + 1) by omega]
    · rw [f4 b hb]
      by_cases c : b = r
      · rw [if_pos c, if_pos c, show l + 1 + k = l + (k + 1) by omega]
      · rw [if_neg c, if_neg c, zsI_s, pk_un c, zsI_n (by decide)]
    · rw [f5 b hb j hj, zsI_n (by decide), zsI_s]
      by_cases c : b = r ∧ l + 1 ≤ j ∧ j < l + 1 + k
      · rw [if_pos c, if_pos (by omega)]
      · rw [if_neg c]
        by_cases c2 : b = r ∧ j = l
        · rw [if_pos (by omega), c2.1, c2.2, pk_us]
        · rw [if_neg (by omega), pk_un (by omega)]
theorem QF.w73 {V : Nat} {B : VB} {M : zMem} (h : QF V B M) {j : Nat} {x : Int32} : QF V B (zsI M 73 j x) :=
  h.to (by rw [zsI_n (by decide)]) (by rw [zsI_n (by decide)]) (by rw [zsI_n (by decide)]) (by rw [zsI_n (by decide)]) (fun a _ _ h3 _ => zsI_n h3)
theorem m_cbU (N : Nat) (hN : 101 ≤ N) {A : VA} (hk : AOK A) {n0 : Nat} (hn : n0 ≤ 512) {bef : Nat → Bool} : ∀ k n v {B : VB} {M : zMem}, (∀ b, b < 5 → M.1 68 b = nI (A.len b)) → (∀ b, b < 5 → ∀ i, i < A.len b → M.1 67 (20 * b + i) = nI (A.log b i)) → M.1 62 7 = nI A.V → (∀ w, w < A.V → M.1 74 w = nI (bef w).toNat) → QF A.V B M → BOK A.V n0 B → v + k = A.V → k < n →
    ∃ M', fX8_callsBackVersions_B2 N n (nI v) M = some (.inl 0, M') ∧ QF A.V (uCbU (fun w => bef w && !held A w) k v B) M' ∧ (∀ a, a ≠ 62 → a ≠ 73 → a ≤ 82 → M'.1 a = M.1 a) ∧ (∀ j, j ≠ 26 → M'.1 62 j = M.1 62 j) ∧ M'.2 = M.2 ∧ ∀ w, M'.1 73 w = if v ≤ w ∧ w < A.V ∧ held A w = true then 1 else M.1 73 w := by
  have hV := hk.ver
  intro k
  induction k with
  | zero =>
    intro n v B M e1 e2 e3 e4 hx hb h1 h2
    obtain ⟨n, rfl⟩ : ∃ q, n = q + 1 := ⟨n - 1, by omega⟩
    rw [fX8_callsBackVersions_B2, e3, if_pos (nI_le (by omega) (by omega))]
    exact ⟨M, rfl, hx, fun _ _ _ _ => rfl, fun _ _ => rfl, rfl, fun w => by rw [if_neg (by omega)]⟩
  | succ k ih =>
    intro n v B M e1 e2 e3 e4 hx hb h1 h2
    obtain ⟨n, rfl⟩ : ∃ q, n = q + 1 := ⟨n - 1, by omega⟩
    have hBc := hb.Bc
    have hv : v < A.V := by omega
    have zv' : zin (nI v) 60 = true := z60 (by omega)
    have h74 := e4 v hv
    rw [fX8_callsBackVersions_B2, e3, if_neg (nI_ge (by omega) (by omega)), m_heldW N hN e1 e2 hk (by omega), q_zb, uCbU]
    unfold fX8_callsBackVersions_B35
    simp only [zv', if_true, q_zl]
    rw [nI_clamp (by omega)]
    have go : ∀ (x : Int32) {B1 : VB} {M1 : zMem}, zmf (zsI M 73 v x) M1 → QF A.V B1 M1 → BOK A.V n0 B1 → x = (if held A v = true then 1 else M.1 73 v) → ∃ M', fX8_callsBackVersions_B2 N n (nI (v + 1)) M1 = some (.inl 0, M') ∧ QF A.V (uCbU (fun w => bef w && !held A w) k (v + 1) B1) M' ∧ (∀ a, a ≠ 62 → a ≠ 73 → a ≤ 82 → M'.1 a = M.1 a) ∧ (∀ j, j ≠ 26 → M'.1 62 j = M.1 62 j) ∧ M'.2 = M.2 ∧ ∀ w, M'.1 73 w = if v ≤ w ∧ w < A.V ∧ held A w = true then 1 else M.1 73 w := fun x B1 M1 z1' q1 q2 q3 => by
      have fr : ∀ a, a ≠ 62 → a ≠ 73 → a ≤ 82 → M1.1 a = M.1 a := fun a h1 h2 h3 => by rw [z1'.1 a h1 h3, zsI_n h2]
      have fr2 : ∀ j, j ≠ 26 → M1.1 62 j = M.1 62 j := fun j h1 => by rw [z1'.2.1 j h1, zsI_n (by decide)]
      obtain ⟨M', f1, f2, f3, f4, f5, f6⟩ := ih n (v + 1) (B := B1) (M := M1) (by rw [fr 68 (by decide) (by decide) (by decide)]; exact e1) (by rw [fr 67 (by decide) (by decide) (by decide)]; exact e2) (by rw [fr2 7 (by decide)]; exact e3) (by rw [fr 74 (by decide) (by decide) (by decide)]; exact e4) q1 q2 (by omega) (by omega)
      refine ⟨M', f1, f2, fun a h1 h2 h3 => (f3 a h1 h2 h3).trans (fr a h1 h2 h3), fun j h1 => (f4 j h1).trans (fr2 j h1), f5.trans z1'.2.2, fun w => ?_⟩
      rw [f6 w, z1'.1 73 (by decide) (by decide), zsI_s]
      by_cases c : w = v
      · subst c
        rw [if_neg (by omega), pk_us, q3]
        by_cases g : held A w = true
        · rw [if_pos g, if_pos ⟨Nat.le_refl _, hv, g⟩]
        · rw [if_neg g, if_neg (fun q => g q.2.2)]
      · rw [pk_un c]
        by_cases g : v + 1 ≤ w ∧ w < A.V ∧ held A w = true
        · rw [if_pos g, if_pos ⟨by omega, g.2⟩]
        · rw [if_neg g, if_neg (fun q => g ⟨by omega, q.2⟩)]
    have h74' : ∀ x : Int32, (zsI M 73 v x).1 74 v = nI (bef v).toNat := fun x => by rw [zsI_n (by decide)]; exact h74
    cases g : held A v
    · rw [if_pos (by rfl)]
      cases g2 : bef v
      · rw [if_neg (by decide), m_cbV0 N (V := A.V) hV hv (B := B) (M := zsI M 73 v (M.1 73 v)) hx.w73 hb (by rw [h74', g2]; decide) N (by omega)]
        exact go _ zmf.refl hx.w73 hb (by rw [g]; rfl)
      · rw [if_pos (by rfl)]
        obtain ⟨M1, k1, k2, k3⟩ := m_cbV N hn hV hv (again := fX8_callsBackVersions_B2 N n) B.Bc N 0 (B := B) (M := zsI M 73 v (M.1 73 v)) hx.w73 hb (by rw [h74', g2]; rfl) (by omega) (by omega)
        rw [nI_0] at k1
        rw [show nI false.toNat = (0 : Int32) from rfl, k1]
        exact go _ k3 k2 (hb.kCbV _ _ (by omega)) (by rw [g]; rfl)
    · rw [if_neg (by decide), m_cbV0 N (V := A.V) hV hv (B := B) (M := zsI M 73 v 1) hx.w73 hb (fun q => absurd q.2 (by decide)) N (by omega), Bool.not_true, Bool.and_false, if_neg (by decide)]
      exact go _ zmf.refl hx.w73 hb (by rw [g]; rfl)
