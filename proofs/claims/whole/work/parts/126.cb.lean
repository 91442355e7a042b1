/-! pure: calling back -/
def uCb (i w : Nat) (B : VB) : VB := if B.out i = 0 then B else (VB.mk B.L B.T B.Bc (B.R + 1) B.rcp B.bag B.loa B.cond B.cnt B.mis B.st B.sl B.bver B.blot B.left (fu B.out i 0) (fu B.rb B.R i) (fu B.rl B.R (B.out i)) (fu B.rr B.R w))
theorem uCb_Bc {i w : Nat} {B : VB} : (uCb i w B).Bc = B.Bc := by unfold uCb; split <;> rfl
theorem uCb_bver {i w : Nat} {B : VB} : (uCb i w B).bver = B.bver := by unfold uCb; split <;> rfl
theorem uCb_blot {i w : Nat} {B : VB} : (uCb i w B).blot = B.blot := by unfold uCb; split <;> rfl
theorem nz_pos {f : Nat → Nat} {i : Nat} : ∀ k, i < k → 0 < f i → 1 ≤ nz f k := by
  intro k
  induction k with
  | zero => intro q; exact absurd q (Nat.not_lt_zero _)
  | succ k ih =>
    intro q1 q2
    unfold nz
    by_cases e : i = k
    · subst e; rw [if_pos q2]; omega
    · have := ih (by omega) q2; omega
theorem BOK.kCb {V n : Nat} {B : VB} (hb : BOK V n B) {i w : Nat} (hi : i < B.Bc) : BOK V n (uCb i w B) := by
  have hBc := hb.Bc
  unfold uCb
  by_cases g : B.out i = 0
  · rw [if_pos g]; exact hb
  · rw [if_neg g]
    exact (BOK.mk hb.L hb.T hb.Bc ( by
      have h1 := hb.R
      have h2 := nz_fu (f := B.out) (i := i) (x := 0) 60
      rw [if_pos (by omega), if_neg (by omega)] at h2
      show B.R + 1 + nz (fu B.out i 0) 60 ≤ n
      omega) hb.rcp hb.cond hb.cnt hb.st hb.sl hb.sl0 hb.bver hb.blot ( fun j hj => by
      show B.left j + fu B.out i 0 j ≤ 40
      have h1 := hb.left j hj
      rw [fu_e]; split <;> omega) ( fun j hj => by
      show fu B.out i 0 j = 0
      rw [fu_e]; split
      · rfl
      · exact hb.out0 j hj))
def zxf (M M' : zMem) : Prop := (∀ a, (a < 33 ∨ 62 ≤ a) → M'.1 a = M.1 a) ∧ M'.2 = M.2
theorem zxf.refl {M : zMem} : zxf M M := ⟨fun _ _ => rfl, rfl⟩
theorem zxf.trans {M M1 M2 : zMem} (h : zxf M M1) (g : zxf M1 M2) : zxf M M2 := ⟨fun a q => (g.1 a q).trans (h.1 a q), g.2.trans h.2⟩
theorem zxf.to {lo hi : Nat} {M M' : zMem} (h : zxf M M') (hk : hi ≤ 33 ∨ 62 ≤ lo) : zeq lo hi M M' := fun a h1 h2 => ⟨h.1 a (by omega), by rw [h.2]⟩
theorem x_cb (N : Nat) {V n : Nat} {B : VB} {M : zMem} (hx : QX V B M) (hb : BOK V n B) (hn : n ≤ 512) {i w : Nat} (hi : i < B.Bc) : ∃ M', fX7_callBackBatch N (nI i) (nI w) M = some (.inl (nI (B.out i)), M') ∧ QX V (uCb i w B) M' ∧ zxf M M' := by
  have hBc := hb.Bc
  have hR := hb.R
  have hl := hb.left i hi
  have z : zin (nI i) 60 = true := z60 (by omega)
  unfold fX7_callBackBatch uCb
  simp only [z, if_true, q_zl]
  rw [nI_clamp (by omega), hx.out i hi, q_zv]
  by_cases g : B.out i = 0
  · rw [if_pos g, g, if_pos (by decide)]
    exact ⟨M, rfl, hx, zxf.refl⟩
  · have np := nz_pos (f := B.out) (i := i) 60 (by omega) (by omega)
    have zR : zin (nI B.R) 512 = true := zin_nI (by omega) (by decide)
    rw [if_neg g, if_neg (nI_nle (by omega) (by omega))]
    unfold fX5_write
    have e58 : (zsI M 57 i 0).1 58 0 = nI B.R := by rw [zsI_n (by decide)]; exact hx.R
    rw [e58, if_neg (show ¬ (512 : Int32) ≤ nI B.R from nI_ge (b := 512) (by omega) (by decide))]
    simp (disch := omega) only [zR, if_true, q_zl, nI_clamp, zsI_n, hx.R, nI_1, q_zb]
    refine ⟨_, rfl, ?_, ⟨fun a ha => by simp (disch := omega) only [zsI_n], rfl⟩⟩
    exact (QX.mk (by simp (disch := omega) only [zsI_n, zsI_s, pk_un, zsL_1, zsI_2]; exact hx.rcp) (by simp (disch := omega) only [zsI_n, zsI_s, pk_un, zsL_1, zsI_2]; exact hx.bag) (by simp (disch := omega) only [zsI_n, zsI_s, pk_un, zsL_1, zsI_2]; exact hx.loa) (by simp (disch := omega) only [zsI_n, zsI_s, pk_un, zsL_1, zsI_2]; exact hx.L) (by simp (disch := omega) only [zsI_n, zsI_s, pk_un, zsL_1, zsI_2]; exact hx.cb) (fun c hc i hi => by simp (disch := omega) only [zsI_n, zsI_s, pk_un, zsL_1, zsI_2]; exact hx.st c hc i hi) (by simp (disch := omega) only [zsI_n, zsI_s, pk_un, zsL_1, zsI_2]; exact hx.cnt) (by simp (disch := omega) only [zsI_n, zsI_s, pk_un, zsL_1, zsI_2]; exact hx.T) (fun c hc i h1 h2 => by simp (disch := omega) only [zsI_n, zsI_s, pk_un, zsL_1, zsI_2]; exact hx.sl c hc i h1 h2) (by simp (disch := omega) only [zsI_n, zsI_s, pk_un, zsL_1, zsI_2]; exact hx.mis) (by simp (disch := omega) only [zsI_n, zsI_s, pk_un, zsL_1, zsI_2]; exact hx.Bc) (by simp (disch := omega) only [zsI_n, zsI_s, pk_un, zsL_1, zsI_2]; exact hx.bver) (by simp (disch := omega) only [zsI_n, zsI_s, pk_un, zsL_1, zsI_2]; exact hx.blot) (by simp (disch := omega) only [zsI_n, zsI_s, pk_un, zsL_1, zsI_2]; exact hx.left) ( fun j hj => by
      show _ = nI (fu B.out i 0 j)
      simp (disch := omega) only [zsI_n, zsI_s]
      by_cases e : j = i
      · subst e; rw [pk_us, fu_s]; rfl
      · rw [pk_un e, fu_n e]; exact hx.out j hj) ( by
      rw [zsI_s, pk_us]; rfl) ( fun j hj => by
      have hj' : j < B.R + 1 := hj
      show _ = nI (fu B.rb B.R i j)
      simp (disch := omega) only [zsI_n, zsI_s]
      by_cases e : j = B.R
      · subst e; rw [pk_us, fu_s]
      · rw [pk_un e, fu_n e]; exact hx.rb j (by omega)) ( fun j hj => by
      have hj' : j < B.R + 1 := hj
      show _ = nI (fu B.rl B.R (B.out i) j)
      simp (disch := omega) only [zsI_n, zsI_s]
      by_cases e : j = B.R
      · subst e; rw [pk_us, fu_s]
      · rw [pk_un e, fu_n e]; exact hx.rl j (by omega)) ( fun j hj => by
      have hj' : j < B.R + 1 := hj
      show _ = nI (fu B.rr B.R w j)
      simp (disch := omega) only [zsI_n, zsI_s]
      by_cases e : j = B.R
      · subst e; rw [pk_us, fu_s]
      · rw [pk_un e, fu_n e]; exact hx.rr j (by omega)))
def zmf (M M' : zMem) : Prop := (∀ a, a ≠ 62 → a ≤ 82 → M'.1 a = M.1 a) ∧ (∀ j, j ≠ 26 → M'.1 62 j = M.1 62 j) ∧ M'.2 = M.2
theorem zmf.refl {M : zMem} : zmf M M := ⟨fun _ _ _ => rfl, fun _ _ => rfl, rfl⟩
theorem zmf.trans {M M1 M2 : zMem} (h : zmf M M1) (g : zmf M1 M2) : zmf M M2 := ⟨fun a q1 q2 => (g.1 a q1 q2).trans (h.1 a q1 q2), fun j q => (g.2.1 j q).trans (h.2.1 j q), g.2.2.trans h.2.2⟩
theorem zmf.rf {M M' : zMem} (h : zmf M M') : zrf M M' := ⟨fun a q => h.1 a (by omega) (by omega), h.2.2⟩
theorem QR.zmf {A : VA} {M M' : zMem} (h : QR A M) (g : zmf M M') : QR A M' := h.to (g.2.1 0 (by decide)) (g.2.1 7 (by decide)) (fun a h1 h2 => g.1 a (by omega) (by omega))
theorem m_cb (N : Nat) {V n : Nat} {B : VB} {M : zMem} (hx : QF V B M) (hb : BOK V n B) (hn : n ≤ 512) {i w : Nat} (hi : i < B.Bc) : ∃ M', fX8_callsBack N (nI i) (nI w) M = some (.inl (nI (B.out i)), M') ∧ QF V (uCb i w B) M' ∧ zmf M M' := by
  have hBc := hb.Bc
  have hR := hb.R
  have hl := hb.left i hi
  have z : zin (nI i) 60 = true := z60 (by omega)
  unfold fX8_callsBack fX8_callsBack_B51 uCb
  simp only [z, if_true, q_zl]
  rw [nI_clamp (by omega), hx.out i (by omega), q_zv]
  by_cases g : B.out i = 0
  · rw [if_pos g, g, if_pos (by decide)]
    refine ⟨_, rfl, ?_, ⟨fun a h1 h2 => zsI_n (by omega), fun j _ => by rw [zsI_n (by decide)], rfl⟩⟩
    exact (QF.mk (by simp (disch := omega) only [zsI_n, zsI_s, pk_un, zsL_1, zsI_2]; exact hx.T) (by simp (disch := omega) only [zsI_n, zsI_s, pk_un, zsL_1, zsI_2]; exact hx.L) (by simp (disch := omega) only [zsI_n, zsI_s, pk_un, zsL_1, zsI_2]; exact hx.Bc) (by simp (disch := omega) only [zsI_n, zsI_s, pk_un, zsL_1, zsI_2]; exact hx.R) (by simp (disch := omega) only [zsI_n, zsI_s, pk_un, zsL_1, zsI_2]; exact hx.rcp) (by simp (disch := omega) only [zsI_n, zsI_s, pk_un, zsL_1, zsI_2]; exact hx.bag) (by simp (disch := omega) only [zsI_n, zsI_s, pk_un, zsL_1, zsI_2]; exact hx.loa) (by simp (disch := omega) only [zsI_n, zsI_s, pk_un, zsL_1, zsI_2]; exact hx.sl) (by simp (disch := omega) only [zsI_n, zsI_s, pk_un, zsL_1, zsI_2]; exact hx.cond) (by simp (disch := omega) only [zsI_n, zsI_s, pk_un, zsL_1, zsI_2]; exact hx.st) (by simp (disch := omega) only [zsI_n, zsI_s, pk_un, zsL_1, zsI_2]; exact hx.cnt) (by simp (disch := omega) only [zsI_n, zsI_s, pk_un, zsL_1, zsI_2]; exact hx.mis) (by simp (disch := omega) only [zsI_n, zsI_s, pk_un, zsL_1, zsI_2]; exact hx.bver) (by simp (disch := omega) only [zsI_n, zsI_s, pk_un, zsL_1, zsI_2]; exact hx.blot) (by simp (disch := omega) only [zsI_n, zsI_s, pk_un, zsL_1, zsI_2]; exact hx.left) ( fun j hj => by
      rw [zsI_s]
      by_cases e : j = i
      · subst e; rw [pk_us, g]; rfl
      · rw [pk_un e]; exact hx.out j hj) (by simp (disch := omega) only [zsI_n, zsI_s, pk_un, zsL_1, zsI_2]; exact hx.rb) (by simp (disch := omega) only [zsI_n, zsI_s, pk_un, zsL_1, zsI_2]; exact hx.rl) (by simp (disch := omega) only [zsI_n, zsI_s, pk_un, zsL_1, zsI_2]; exact hx.rr))
  · have np := nz_pos (f := B.out) (i := i) 60 (by omega) (by omega)
    have zR : zin (nI B.R) 2400 = true := zin_nI (by omega) (by decide)
    rw [if_neg g, if_neg (nI_nle (by omega) (by omega))]
    simp (disch := omega) only [zR, if_true, q_zl, nI_clamp, zsI_n, hx.R, nI_1, q_zb]
    refine ⟨_, rfl, ?_, ⟨fun a h1 h2 => by simp (disch := omega) only [zsI_n], fun j hj => by simp (disch := omega) only [zsI_n, zsI_s, pk_un], rfl⟩⟩
    exact (QF.mk (by simp (disch := omega) only [zsI_n, zsI_s, pk_un, zsL_1, zsI_2]; exact hx.T) (by simp (disch := omega) only [zsI_n, zsI_s, pk_un, zsL_1, zsI_2]; exact hx.L) (by simp (disch := omega) only [zsI_n, zsI_s, pk_un, zsL_1, zsI_2]; exact hx.Bc) ( by
      rw [zsI_n (by decide), zsI_s, pk_us]; rfl) (by simp (disch := omega) only [zsI_n, zsI_s, pk_un, zsL_1, zsI_2]; exact hx.rcp) (by simp (disch := omega) only [zsI_n, zsI_s, pk_un, zsL_1, zsI_2]; exact hx.bag) (by simp (disch := omega) only [zsI_n, zsI_s, pk_un, zsL_1, zsI_2]; exact hx.loa) (by simp (disch := omega) only [zsI_n, zsI_s, pk_un, zsL_1, zsI_2]; exact hx.sl) (by simp (disch := omega) only [zsI_n, zsI_s, pk_un, zsL_1, zsI_2]; exact hx.cond) (by simp (disch := omega) only [zsI_n, zsI_s, pk_un, zsL_1, zsI_2]; exact hx.st) (by simp (disch := omega) only [zsI_n, zsI_s, pk_un, zsL_1, zsI_2]; exact hx.cnt) (by simp (disch := omega) only [zsI_n, zsI_s, pk_un, zsL_1, zsI_2]; exact hx.mis) (by simp (disch := omega) only [zsI_n, zsI_s, pk_un, zsL_1, zsI_2]; exact hx.bver) (by simp (disch := omega) only [zsI_n, zsI_s, pk_un, zsL_1, zsI_2]; exact hx.blot) (by simp (disch := omega) only [zsI_n, zsI_s, pk_un, zsL_1, zsI_2]; exact hx.left) ( fun j hj => by
      show _ = nI (fu B.out i 0 j)
      simp (disch := omega) only [zsI_n, zsI_s]
      by_cases e : j = i
      · subst e; rw [pk_us, fu_s]; rfl
      · rw [pk_un e, fu_n e]; exact hx.out j hj) ( fun j hj => by
      have hj' : j < B.R + 1 := hj
      show _ = nI (fu B.rb B.R i j)
      simp (disch := omega) only [zsI_n, zsI_s]
      by_cases e : j = B.R
      · subst e; rw [pk_us, fu_s]
      · rw [pk_un e, fu_n e]; exact hx.rb j (by omega)) ( fun j hj => by
      have hj' : j < B.R + 1 := hj
      show _ = nI (fu B.rl B.R (B.out i) j)
      simp (disch := omega) only [zsI_n, zsI_s]
      by_cases e : j = B.R
      · subst e; rw [pk_us, fu_s]
      · rw [pk_un e, fu_n e]; exact hx.rl j (by omega)) ( fun j hj => by
      have hj' : j < B.R + 1 := hj
      show _ = nI (fu B.rr B.R w j)
      simp (disch := omega) only [zsI_n, zsI_s]
      by_cases e : j = B.R
      · subst e; rw [pk_us, fu_s]
      · rw [pk_un e, fu_n e]; exact hx.rr j (by omega)))
/-- all of a version -/
def uCbV (v : Nat) : Nat → Nat → VB → VB
  | 0, _, B => B
  | k + 1, i, B => uCbV v k (i + 1) (if B.bver i = v then uCb i 1 B else B)
theorem uCbV_Bc {v : Nat} : ∀ k i B, (uCbV v k i B).Bc = B.Bc := by
  intro k
  induction k with
  | zero => intro i B; rfl
  | succ k ih =>
    intro i B
    rw [uCbV, ih]
    split
    · exact uCb_Bc
    · rfl
theorem BOK.kCbV {V n v : Nat} : ∀ k i {B : VB}, BOK V n B → i + k = B.Bc → BOK V n (uCbV v k i B) := by
  intro k
  induction k with
  | zero => intro i B h _; exact h
  | succ k ih =>
    intro i B h q
    have q0 : i < B.Bc := by omega
    rw [uCbV]
    split
    · exact ih (i + 1) (h.kCb q0) (by rw [uCb_Bc]; omega)
    · exact ih (i + 1) h (by omega)
theorem x_cbV (N : Nat) {V n0 v : Nat} (hn : n0 ≤ 512) (hV : V ≤ 60) (hv : v < V) : ∀ k n i {B : VB} {M : zMem}, QX V B M → BOK V n0 B → i + k = B.Bc → k < n → ∃ M', fX7_callBackVersion_B2 N n (nI v) (nI i) M = some (.inl 0, M') ∧ QX V (uCbV v k i B) M' ∧ zxf M M' := by
  intro k
  induction k with
  | zero =>
    intro n i B M hx hb h1 h2
    have hBc := hb.Bc
    obtain ⟨n, rfl⟩ : ∃ q, n = q + 1 := ⟨n - 1, by omega⟩
    rw [fX7_callBackVersion_B2, hx.Bc, if_pos (nI_le (by omega) (by omega))]
    exact ⟨M, rfl, hx, zxf.refl⟩
  | succ k ih =>
    intro n i B M hx hb h1 h2
    have hBc := hb.Bc
    obtain ⟨n, rfl⟩ : ∃ q, n = q + 1 := ⟨n - 1, by omega⟩
    have hi : i < B.Bc := by omega
    have lv := hb.bver i hi
    rw [fX7_callBackVersion_B2, hx.Bc, if_neg (nI_ge (by omega) (by omega)), if_pos (z60 (by omega)), nI_clamp (by omega), hx.bver i hi, uCbV]
    unfold fX7_callBackVersion_B33
    rw [nI_1]
    by_cases g : B.bver i = v
    · rw [if_pos (by rw [g]), if_pos g]
      obtain ⟨M1, e1, e2, e3⟩ := x_cb N hx hb hn (i := i) (w := 1) hi
      rw [show (1 : Int32) = nI 1 from rfl, e1, q_zb]
      obtain ⟨M2, f1, f2, f3⟩ := ih n (i + 1) e2 (hb.kCb hi) (by rw [uCb_Bc]; omega) (by omega)
      exact ⟨M2, f1, f2, e3.trans f3⟩
    · rw [if_neg (fun q => g ((nI_eq (by omega) (by omega)).mp q)), if_neg g]
      exact ih n (i + 1) hx hb (by omega) (by omega)
theorem m_cbV (N : Nat) {V n0 v : Nat} (hn : n0 ≤ 512) (hV : V ≤ 60) (hv : v < V) {again : Int32 → zMem → zRES} : ∀ k n i {B : VB} {M : zMem}, QF V B M → BOK V n0 B → M.1 74 v = 1 → i + k = B.Bc → k < n → ∃ M', fX8_callsBackVersions_B38 N again n (nI v) 0 (nI i) M = again (nI (v + 1)) M' ∧ QF V (uCbV v k i B) M' ∧ zmf M M' := by
  intro k
  induction k with
  | zero =>
    intro n i B M hx hb h74 h1 h2
    have hBc := hb.Bc
    obtain ⟨n, rfl⟩ : ∃ q, n = q + 1 := ⟨n - 1, by omega⟩
    rw [fX8_callsBackVersions_B38, hx.Bc, if_pos (nI_le (by omega) (by omega))]
    unfold fX8_callsBackVersions_B83
    rw [nI_1]
    exact ⟨M, rfl, hx, zmf.refl⟩
  | succ k ih =>
    intro n i B M hx hb h74 h1 h2
    have hBc := hb.Bc
    obtain ⟨n, rfl⟩ : ∃ q, n = q + 1 := ⟨n - 1, by omega⟩
    have hi : i < B.Bc := by omega
    have lv := hb.bver i hi
    rw [fX8_callsBackVersions_B38, hx.Bc, if_neg (nI_ge (by omega) (by omega)), if_pos (z60 (by omega)), nI_clamp (n := v) (by omega), h74, if_pos rfl, if_pos rfl, if_pos (z60 (by omega)), nI_clamp (by omega), hx.bver i hi, uCbV]
    unfold fX8_callsBackVersions_B77
    rw [nI_1]
    by_cases g : B.bver i = v
    · rw [if_pos (by rw [g]), if_pos g]
      obtain ⟨M1, e1, e2, e3⟩ := m_cb N hx hb hn (i := i) (w := 1) hi
      rw [show (1 : Int32) = nI 1 from rfl, e1, q_zb]
      obtain ⟨M2, f1, f2, f3⟩ := ih n (i + 1) e2 (hb.kCb hi) (by rw [e3.1 74 (by decide) (by decide)]; exact h74) (by rw [uCb_Bc]; omega) (by omega)
      exact ⟨M2, f1, f2, e3.trans f3⟩
    · rw [if_neg (fun q => g ((nI_eq (by omega) (by omega)).mp q)), if_neg g]
      exact ih n (i + 1) hx hb h74 (by omega) (by omega)
theorem m_cbV0 (N : Nat) {V n0 v : Nat} (hV : V ≤ 60) (hv : v < V) {again : Int32 → zMem → zRES} {B : VB} {M : zMem} {is : Int32} (hx : QF V B M) (hb : BOK V n0 B) (h : ¬ (M.1 74 v = 1 ∧ is = 0)) : ∀ n, 0 < n → fX8_callsBackVersions_B38 N again n (nI v) is 0 M = again (nI (v + 1)) M := by
  intro n hn
  have hBc := hb.Bc
  obtain ⟨n, rfl⟩ : ∃ q, n = q + 1 := ⟨n - 1, by omega⟩
  rw [fX8_callsBackVersions_B38, hx.Bc]
  unfold fX8_callsBackVersions_B83
  rw [nI_1]
  by_cases g : nI B.Bc ≤ 0
  · rw [if_pos g]
  · rw [if_neg g, if_pos (z60 (by omega)), nI_clamp (by omega)]
    by_cases g1 : M.1 74 v = 1
    · rw [if_pos g1, if_neg (fun q => h ⟨g1, q⟩)]
    · rw [if_neg g1]
/-- all that is lost -/
def uCbU (lost : Nat → Bool) : Nat → Nat → VB → VB
  | 0, _, B => B
  | k + 1, v, B => uCbU lost k (v + 1) (if lost v = true then uCbV v B.Bc 0 B else B)
theorem BOK.kCbU {V n : Nat} {lost : Nat → Bool} : ∀ k v {B : VB}, BOK V n B → BOK V n (uCbU lost k v B) := by
  intro k
  induction k with
  | zero => intro v B h; exact h
  | succ k ih =>
    intro v B h
    rw [uCbU]
    split
    · exact ih (v + 1) (h.kCbV _ _ (by omega))
    · exact ih (v + 1) h
theorem uCbU_no {lost : Nat → Bool} (h : ∀ v, lost v = false) : ∀ k v B, uCbU lost k v B = B := by
  intro k
  induction k with
  | zero => intro v B; rfl
  | succ k ih => intro v B; rw [uCbU, h v, if_neg (by decide), ih]
theorem x_cbU (N : Nat) (hN : 101 ≤ N) {V n0 : Nat} (hn : n0 ≤ 512) (hV : V ≤ 60) {lost : Nat → Bool} {L : Int64} (hL : ∀ v, v < V → lbit L v = lost v) : ∀ k n v {B : VB} {M : zMem}, M.1 1 7 = nI V → QX V B M → BOK V n0 B → v + k = V → k < n → ∃ M', fX7_callBackUnheld_B2 N n L (nI v) M = some (.inl 0, M') ∧ QX V (uCbU lost k v B) M' ∧ zxf M M' := by
  intro k
  induction k with
  | zero =>
    intro n v B M hM hx hb h1 h2
    obtain ⟨n, rfl⟩ : ∃ q, n = q + 1 := ⟨n - 1, by omega⟩
    rw [fX7_callBackUnheld_B2, hM, if_pos (nI_le (by omega) (by omega))]
    exact ⟨M, rfl, hx, zxf.refl⟩
  | succ k ih =>
    intro n v B M hM hx hb h1 h2
    obtain ⟨n, rfl⟩ : ∃ q, n = q + 1 := ⟨n - 1, by omega⟩
    have hBc := hb.Bc
    rw [fX7_callBackUnheld_B2, hM, if_neg (nI_ge (by omega) (by omega)), q_has N _ (by omega), q_zb, hL v (by omega), uCbU]
    unfold fX7_callBackUnheld_B26 fX7_callBackVersion
    rw [nI_1]
    cases lost v
    · rw [if_pos (by rfl), if_neg (by decide)]
      exact ih n (v + 1) hM hx hb (by omega) (by omega)
    · rw [if_neg (by decide), if_pos rfl]
      obtain ⟨M1, e1, e2, e3⟩ := x_cbV N hn hV (v := v) (by omega) B.Bc N 0 hx hb (by omega) (by omega)
      rw [nI_0] at e1
      rw [e1, q_zb]
      obtain ⟨M2, f1, f2, f3⟩ := ih n (v + 1) (by rw [e3.1 1 (by decide)]; exact hM) e2 (hb.kCbV _ _ (by omega)) (by omega) (by omega)
      exact ⟨M2, f1, f2, e3.trans f3⟩
