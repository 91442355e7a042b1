/-! pure: condemn -/
def kc (f : Nat → Nat) (l : Nat) : Nat → Nat
  | 0 => 0
  | k + 1 => if f k = l then kc f l k else kc f l k + 1
def kr (f : Nat → Nat) (l : Nat) : Nat → Nat → Nat
  | 0 => f
  | k + 1 => if f k = l then kr f l k else fu (kr f l k) (kc f l k) (f k)
theorem kc_le {f : Nat → Nat} {l : Nat} : ∀ k, kc f l k ≤ k := by
  intro k
  induction k with
  | zero => exact Nat.le_refl _
  | succ k ih => unfold kc; split <;> omega
theorem kr_ge {f : Nat → Nat} {l : Nat} : ∀ k j, k ≤ j → kr f l k j = f j := by
  intro k
  induction k with
  | zero => intro j _; rfl
  | succ k ih =>
    intro j hj
    have := kc_le (f := f) (l := l) k
    unfold kr
    split
    · exact ih j (by omega)
    · rw [fu_n (by omega)]; exact ih j (by omega)
theorem kr_lt {f : Nat → Nat} {l L m : Nat} (h : ∀ j, j < m → f j < L) : ∀ k, k ≤ m → ∀ j, j < m → kr f l k j < L := by
  intro k
  induction k with
  | zero => intro _ j hj; exact h j hj
  | succ k ih =>
    intro hk j hj
    unfold kr
    split
    · exact ih (by omega) j hj
    · rw [fu_e]; split
      · exact h k (by omega)
      · exact ih (by omega) j hj
theorem x_keep (N : Nat) {b l c : Nat} (hb : b < 5) (hl : l < 16) (hc : c ≤ 200) {f : Nat → Nat} (hf : ∀ j, j < c → f j < 16) : ∀ k n i {M : zMem}, M.1 44 b = nI c → (∀ j, j < c → M.1 (38 + 1 + b) j = nI (kr f l i j)) → i + k = c → k < n → ∃ M', fX2_throwOutOf_B5 N n (nI b) (nI l) (nI (kc f l i)) (nI i) M = some (.inl 0, M') ∧ M'.2 = M.2 ∧ (∀ a, a ≠ 38 + 1 + b → a ≠ 44 → M'.1 a = M.1 a) ∧ M'.1 44 = upd (M.1 44) b (nI (kc f l c)) ∧ ∀ j, j < c → M'.1 (38 + 1 + b) j = nI (kr f l c j) := by
  intro k
  induction k with
  | zero =>
    intro n i M e1 e2 h1 h2
    obtain ⟨n, rfl⟩ : ∃ q, n = q + 1 := ⟨n - 1, by omega⟩
    obtain rfl : i = c := by omega
    rw [fX2_throwOutOf_B5, if_pos (z5 hb), nI_clamp (by omega), e1, if_pos (nI_le (by omega) (by omega)), if_pos (z5 hb), q_zl]
    exact ⟨_, rfl, rfl, fun a h1 h2 => zsI_n h2, zsI_s, fun j hj => by rw [zsI_n (by omega)]; exact e2 j hj⟩
  | succ k ih =>
    intro n i M e1 e2 h1 h2
    obtain ⟨n, rfl⟩ : ∃ q, n = q + 1 := ⟨n - 1, by omega⟩
    have hf1 := hf i (by omega)
    have k1 := kc_le (f := f) (l := l) i
    have e3 := e2 i (by omega)
    rw [kr_ge i i (Nat.le_refl _)] at e3
    rw [fX2_throwOutOf_B5]
    unfold fX2_throwOutOf_B49
    simp only [z5 hb, if_true, q_zl]
    rw [nI_clamp (n := b) (by omega), e1, if_neg (nI_ge (by omega) (by omega)), if_pos (zin_nI (by omega) (by decide)), nI_clamp (by omega), e3, nI_1]
    by_cases g : f i = l
    · rw [if_pos (by rw [g])]
      have ek : kc f l (i + 1) = kc f l i := if_pos g
      have er : kr f l (i + 1) = kr f l i := if_pos g
      have nx := ih n (i + 1) (M := M) e1 (by rw [er]; exact e2) (by omega) (by omega)
      rw [ek] at nx
      exact nx
    · rw [if_neg (fun q => g ((nI_eq (by omega) (by omega)).mp q)), if_pos (zin_nI (by omega) (by decide)), if_pos (zin_nI (by omega) (by decide)), nI_clamp (by omega), nI_1]
      have ek : kc f l (i + 1) = kc f l i + 1 := if_neg g
      have er : kr f l (i + 1) = fu (kr f l i) (kc f l i) (f i) := if_neg g
      obtain ⟨M', q1, q2, q3, q4, q5⟩ := ih n (i + 1) (M := zsI M (38 + 1 + b) (kc f l i) (nI (f i))) (by rw [zsI_n (by omega)]; exact e1) (fun j hj => by
        rw [er, zsI_s]
        by_cases w : j = kc f l i
        · rw [w, pk_us, fu_s]
        · rw [pk_un w, fu_n w]; exact e2 j hj) (by omega) (by omega)
      rw [ek] at q1
      exact ⟨M', q1, q2, fun a h1 h2 => by rw [q3 a h1 h2, zsI_n h1], by rw [q4, zsI_n (by omega)], q5⟩
theorem m_keep (N : Nat) {b l c : Nat} (hb : b < 5) (hl : l < 16) (hc : c ≤ 200) {f : Nat → Nat} (hf : ∀ j, j < c → f j < 16) : ∀ k n i {M : zMem}, M.1 78 b = nI c → (∀ j, j < c → M.1 77 (200 * b + j) = nI (kr f l i j)) → i + k = c → k < n → ∃ M', fX8_throwsOut_B5 N n (nI b) (nI l) (nI (kc f l i)) (nI i) M = some (.inl 0, M') ∧ M'.2 = M.2 ∧ (∀ a, a ≠ 77 → a ≠ 78 → M'.1 a = M.1 a) ∧ M'.1 78 = upd (M.1 78) b (nI (kc f l c)) ∧ (∀ j, j < c → M'.1 77 (200 * b + j) = nI (kr f l c j)) ∧ ∀ d, d < 5 → d ≠ b → ∀ j, j < 200 → M'.1 77 (200 * d + j) = M.1 77 (200 * d + j) := by
  intro k
  induction k with
  | zero =>
    intro n i M e1 e2 h1 h2
    obtain ⟨n, rfl⟩ : ∃ q, n = q + 1 := ⟨n - 1, by omega⟩
    obtain rfl : i = c := by omega
    rw [fX8_throwsOut_B5, if_pos (z5 hb), nI_clamp (by omega), e1, if_pos (nI_le (by omega) (by omega)), if_pos (z5 hb), q_zl]
    exact ⟨_, rfl, rfl, fun a h1 h2 => zsI_n h2, zsI_s, fun j hj => by rw [zsI_n (by omega)]; exact e2 j hj, fun d _ _ j _ => by rw [zsI_n (by decide)]⟩
  | succ k ih =>
    intro n i M e1 e2 h1 h2
    obtain ⟨n, rfl⟩ : ∃ q, n = q + 1 := ⟨n - 1, by omega⟩
    have hf1 := hf i (by omega)
    have k1 := kc_le (f := f) (l := l) i
    have e3 := e2 i (by omega)
    have z1' : zin (nI (200 * b + i)) 1000 = true := zin_nI (by omega) (by decide)
    have z2' : zin (nI (200 * b + kc f l i)) 1000 = true := zin_nI (by omega) (by decide)
    rw [kr_ge i i (Nat.le_refl _)] at e3
    rw [fX8_throwsOut_B5]
    unfold fX8_throwsOut_B61
    simp only [z5 hb, if_true, q_zl]
    rw [nI_clamp (n := b) (by omega), e1, if_neg (nI_ge (by omega) (by omega)), q_200, if_pos z1', nI_clamp (by omega), e3, nI_1]
    by_cases g : f i = l
    · rw [if_pos (by rw [g])]
      have ek : kc f l (i + 1) = kc f l i := if_pos g
      have er : kr f l (i + 1) = kr f l i := if_pos g
      have nx := ih n (i + 1) (M := M) e1 (by rw [er]; exact e2) (by omega) (by omega)
      rw [ek] at nx
      exact nx
    · rw [if_neg (fun q => g ((nI_eq (by omega) (by omega)).mp q)), if_pos z1', q_200, if_pos z2', nI_clamp (by omega), nI_1]
      have ek : kc f l (i + 1) = kc f l i + 1 := if_neg g
      have er : kr f l (i + 1) = fu (kr f l i) (kc f l i) (f i) := if_neg g
      obtain ⟨M', q1, q2, q3, q4, q5, q6⟩ := ih n (i + 1) (M := zsI M 77 (200 * b + kc f l i) (nI (f i))) (by rw [zsI_n (by omega)]; exact e1) (fun j hj => by
        rw [er, zsI_s]
        by_cases w : j = kc f l i
        · rw [w, pk_us, fu_s]
        · rw [pk_un (by omega), fu_n w]; exact e2 j hj) (by omega) (by omega)
      rw [ek] at q1
      exact ⟨M', q1, q2, fun a h1 h2 => by rw [q3 a h1 h2, zsI_n h1], by rw [q4, zsI_n (by omega)], q5, fun d hd hdb j hj => by rw [q6 d hd hdb j hj, zsI_s, pk_un (by omega)]⟩
def thr1 (l b : Nat) (B : VB) : VB := (VB.mk B.L B.T B.Bc B.R B.rcp B.bag B.loa B.cond (fu B.cnt b (kc (B.st b) l (B.cnt b))) B.mis (fun c => if c = b then kr (B.st b) l (B.cnt b) else B.st c) B.sl B.bver B.blot B.left B.out B.rb B.rl B.rr)
theorem BOK.kThr1 {V n : Nat} {B : VB} (hb : BOK V n B) {b l : Nat} : BOK V n (thr1 l b B) :=
  (BOK.mk hb.L hb.T hb.Bc hb.R hb.rcp hb.cond ( fun c hc => by
    show fu B.cnt b (kc (B.st b) l (B.cnt b)) c ≤ 200
    have := hb.cnt c hc
    by_cases e : c = b
    · subst e; rw [fu_s]; have := kc_le (f := B.st c) (l := l) (B.cnt c); omega
    · rw [fu_n e]; exact this) ( fun c hc i hi => by
    have hi' : i < fu B.cnt b (kc (B.st b) l (B.cnt b)) c := hi
    show (if c = b then kr (B.st b) l (B.cnt b) else B.st c) i < B.L
    by_cases e : c = b
    · subst e
      rw [fu_s] at hi'
      rw [if_pos rfl]
      exact kr_lt (fun j hj => hb.st c hc j hj) _ (Nat.le_refl _) i (Nat.lt_of_lt_of_le hi' (kc_le _))
    · rw [fu_n e] at hi'; rw [if_neg e]; exact hb.st c hc i hi') hb.sl hb.sl0 hb.bver hb.blot hb.left hb.out0)
theorem x_thr1 (N : Nat) (hN : 300 ≤ N) {V n0 : Nat} {B : VB} {M : zMem} (hx : QX V B M) (hb : BOK V n0 B) {b l : Nat} (h5 : b < 5) (hl : l < 16) : ∃ M', fX2_throwOutOf N (nI b) (nI l) M = some (.inl 0, M') ∧ QX V (thr1 l b B) M' ∧ zxf M M' := by
  have hc := hb.cnt b h5
  have hL := hb.L
  obtain ⟨M', e1, e2, e3, e4, e5⟩ := x_keep N (b := b) (l := l) (c := B.cnt b) h5 hl hc (f := B.st b) (fun j hj => by have := hb.st b h5 j hj; omega) (B.cnt b) N 0 (M := M) (hx.cnt b h5) (fun j hj => hx.st b h5 j hj) (by omega) (by omega)
  refine ⟨M', e1, ?_, ⟨fun a ha => e3 a (by omega) (by omega), e2⟩⟩
  have r44 : ∀ c, c < 5 → M'.1 44 c = nI (fu B.cnt b (kc (B.st b) l (B.cnt b)) c) := fun c hc => by
    rw [e4]
    by_cases e : c = b
    · subst e; rw [pk_us, fu_s]
    · rw [pk_un e, fu_n e]; exact hx.cnt c hc
  refine QX.mk ?_ ?_ ?_ ?_ ?_ ?_ r44 ?_ ?_ ?_ ?_ ?_ ?_ ?_ ?_ ?_ ?_ ?_ ?_
  · rw [e3 34 (by omega) (by decide)]; exact hx.rcp
  · rw [e3 35 (by omega) (by decide)]; exact hx.bag
  · rw [e3 36 (by omega) (by decide)]; exact hx.loa
  · rw [e3 37 (by omega) (by decide)]; exact hx.L
  · rw [e3 37 (by omega) (by decide)]; exact hx.cb
  · intro c hc i hi
    have hi' : i < fu B.cnt b (kc (B.st b) l (B.cnt b)) c := hi
    show _ = nI ((if c = b then kr (B.st b) l (B.cnt b) else B.st c) i)
    by_cases e : c = b
    · subst e
      rw [fu_s] at hi'
      rw [if_pos rfl]
      exact e5 i (Nat.lt_of_lt_of_le hi' (kc_le _))
    · rw [fu_n e] at hi'
      rw [if_neg e, e3 _ (by omega) (by omega)]; exact hx.st c hc i hi'
  · rw [e3 45 (by omega) (by decide)]; exact hx.T
  · intro c hc i h1 h2
    rw [e3 _ (by omega) (by omega)]; exact hx.sl c hc i h1 h2
  · rw [e3 52 (by omega) (by decide)]; exact hx.mis
  · rw [e3 53 (by omega) (by decide)]; exact hx.Bc
  · rw [e3 54 (by omega) (by decide)]; exact hx.bver
  · rw [e3 55 (by omega) (by decide)]; exact hx.blot
  · rw [e3 56 (by omega) (by decide)]; exact hx.left
  · rw [e3 57 (by omega) (by decide)]; exact hx.out
  · rw [e3 58 (by omega) (by decide)]; exact hx.R
  · rw [e3 59 (by omega) (by decide)]; exact hx.rb
  · rw [e3 60 (by omega) (by decide)]; exact hx.rl
  · rw [e3 61 (by omega) (by decide)]; exact hx.rr
def zsf (M M' : zMem) : Prop := (∀ a, a ≠ 77 → a ≠ 78 → M'.1 a = M.1 a) ∧ M'.2 = M.2
theorem m_thr1 (N : Nat) (hN : 300 ≤ N) {V n0 : Nat} {B : VB} {M : zMem} (hx : QF V B M) (hb : BOK V n0 B) {b l : Nat} (h5 : b < 5) (hl : l < 16) : ∃ M', fX8_throwsOut N (nI b) (nI l) M = some (.inl 0, M') ∧ QF V (thr1 l b B) M' ∧ zsf M M' := by
  have hcn := hb.cnt b h5
  have hL := hb.L
  obtain ⟨M', e1, e2, e3, e4, e5, e6⟩ := m_keep N (b := b) (l := l) (c := B.cnt b) h5 hl hcn (f := B.st b) (fun j hj => by have := hb.st b h5 j hj; omega) (B.cnt b) N 0 (M := M) (hx.cnt b h5) (fun j hj => hx.st b h5 j hj) (by omega) (by omega)
  refine ⟨M', e1, ?_, ⟨e3, e2⟩⟩
  refine QF.mk ?_ ?_ ?_ ?_ ?_ ?_ ?_ ?_ ?_ ?_ ?_ ?_ ?_ ?_ ?_ ?_ ?_ ?_ ?_
  · rw [e3 62 (by decide) (by decide)]; exact hx.T
  · rw [e3 62 (by decide) (by decide)]; exact hx.L
  · rw [e3 62 (by decide) (by decide)]; exact hx.Bc
  · rw [e3 62 (by decide) (by decide)]; exact hx.R
  · rw [e3 70 (by decide) (by decide)]; exact hx.rcp
  · rw [e3 71 (by decide) (by decide)]; exact hx.bag
  · rw [e3 72 (by decide) (by decide)]; exact hx.loa
  · rw [e3 75 (by decide) (by decide)]; exact hx.sl
  · rw [e3 76 (by decide) (by decide)]; exact hx.cond
  · intro c hc i hi
    have hi' : i < fu B.cnt b (kc (B.st b) l (B.cnt b)) c := hi
    have hc2 := hb.cnt c hc
    show _ = nI ((if c = b then kr (B.st b) l (B.cnt b) else B.st c) i)
    by_cases e : c = b
    · subst e
      rw [fu_s] at hi'
      rw [if_pos rfl]
      exact e5 i (Nat.lt_of_lt_of_le hi' (kc_le _))
    · rw [fu_n e] at hi'
      rw [if_neg e, e6 c hc e i (by omega)]; exact hx.st c hc i hi'
  · intro c hc
    show _ = nI (fu B.cnt b (kc (B.st b) l (B.cnt b)) c)
    rw [e4]
    by_cases e : c = b
    · subst e; rw [pk_us, fu_s]
    · rw [pk_un e, fu_n e]; exact hx.cnt c hc
  · rw [e3 79 (by decide) (by decide)]; exact hx.mis
  · rw [e3 80 (by decide) (by decide)]; exact hx.bver
  · rw [e3 81 (by decide) (by decide)]; exact hx.blot
  · rw [e3 82 (by decide) (by decide)]; exact hx.left
  · rw [e3 83 (by decide) (by decide)]; exact hx.out
  · rw [e3 84 (by decide) (by decide)]; exact hx.rb
  · rw [e3 85 (by decide) (by decide)]; exact hx.rl
  · rw [e3 86 (by decide) (by decide)]; exact hx.rr
def thr (l : Nat) : Nat → Nat → VB → VB
  | 0, _, B => B
  | k + 1, b, B => thr l k (b + 1) (thr1 l b B)
theorem BOK.kThr {V n l : Nat} : ∀ k b {B : VB}, BOK V n B → BOK V n (thr l k b B) := by
  intro k
  induction k with
  | zero => intro b B h; exact h
  | succ k ih => intro b B h; exact ih (b + 1) h.kThr1
theorem x_thr (N : Nat) (hN : 300 ≤ N) {V n0 l : Nat} (hl : l < 16) : ∀ k n b {B : VB} {M : zMem}, QX V B M → BOK V n0 B → b + k = 5 → k < n → ∃ M', fX2_throwOut_B14 N n (nI l) (nI b) M = some (.inl 0, M') ∧ QX V (thr l k b B) M' ∧ zxf M M' := by
  intro k
  induction k with
  | zero =>
    intro n b B M hx hb h1 h2
    obtain ⟨n, rfl⟩ : ∃ q, n = q + 1 := ⟨n - 1, by omega⟩
    rw [fX2_throwOut_B14, if_pos (show (5 : Int32) ≤ nI b from nI_le (a := 5) (by omega) (by omega))]
    exact ⟨M, rfl, hx, zxf.refl⟩
  | succ k ih =>
    intro n b B M hx hb h1 h2
    obtain ⟨n, rfl⟩ : ∃ q, n = q + 1 := ⟨n - 1, by omega⟩
    obtain ⟨M1, e1, e2, e3⟩ := x_thr1 N hN hx hb (b := b) (by omega) hl
    obtain ⟨M2, f1, f2, f3⟩ := ih n (b + 1) e2 hb.kThr1 (by omega) (by omega)
    rw [fX2_throwOut_B14, if_neg (show ¬ (5 : Int32) ≤ nI b from nI_ge (b := 5) (by omega) (by decide)), e1, q_zb, nI_1]
    exact ⟨M2, f1, f2, e3.trans f3⟩
theorem m_thr (N : Nat) (hN : 300 ≤ N) {V n0 l : Nat} (hl : l < 16) : ∀ k n b {B : VB} {M : zMem}, QF V B M → BOK V n0 B → b + k = 5 → k < n → ∃ M', fX8_condemn_B49 N n (nI l) (nI b) M = fX8_condemn_B70 N N (nI l) 0 0 M' ∧ QF V (thr l k b B) M' ∧ zsf M M' := by
  intro k
  induction k with
  | zero =>
    intro n b B M hx hb h1 h2
    obtain ⟨n, rfl⟩ : ∃ q, n = q + 1 := ⟨n - 1, by omega⟩
    rw [fX8_condemn_B49, if_pos (show (5 : Int32) ≤ nI b from nI_le (a := 5) (by omega) (by omega))]
    exact ⟨M, rfl, hx, ⟨fun _ _ _ => rfl, rfl⟩⟩
  | succ k ih =>
    intro n b B M hx hb h1 h2
    obtain ⟨n, rfl⟩ : ∃ q, n = q + 1 := ⟨n - 1, by omega⟩
    obtain ⟨M1, e1, e2, e3⟩ := m_thr1 N hN hx hb (b := b) (by omega) hl
    obtain ⟨M2, f1, f2, f3⟩ := ih n (b + 1) e2 hb.kThr1 (by omega) (by omega)
    rw [fX8_condemn_B49, if_neg (show ¬ (5 : Int32) ≤ nI b from nI_ge (b := 5) (by omega) (by decide)), e1, q_zb, nI_1]
    exact ⟨M2, f1, f2, ⟨fun a h1 h2 => (f3.1 a h1 h2).trans (e3.1 a h1 h2), f3.2.trans e3.2⟩⟩
def uCond (l : Nat) (B : VB) : VB := (VB.mk B.L B.T B.Bc B.R B.rcp B.bag B.loa (fun j => B.cond j || decide (j = l)) B.cnt B.mis B.st B.sl B.bver B.blot B.left B.out B.rb B.rl B.rr)
theorem BOK.kCond {V n : Nat} {B : VB} (hb : BOK V n B) {l : Nat} (hl : l < B.L) : BOK V (n + 1) (uCond l B) :=
  (BOK.mk hb.L hb.T hb.Bc ( Nat.le_trans hb.R (Nat.le_succ n)) hb.rcp ( fun j hj => by
    have hj' : B.L ≤ j := hj
    show (B.cond j || decide (j = l)) = false
    rw [hb.cond j hj', decide_eq_false (by omega)]; rfl) hb.cnt hb.st hb.sl hb.sl0 hb.bver hb.blot hb.left hb.out0)
theorem QX.kCond {V : Nat} {B : VB} {M : zMem} (hx : QX V B M) {l : Nat} (hl : l < 16) : ∃ y, QX V (uCond l B) (zsI M 37 1 y) ∧ (M.1 37 1 ||| ((1 : Int32) <<< (nI l &&& 31))) = y := by
  obtain ⟨K, k1, k2, k3⟩ := hx.cb
  have hlt : 2 ^ l < 2 ^ 16 := Nat.pow_lt_pow_right (by decide) hl
  refine ⟨nI (K ||| 2 ^ l), ?_, by rw [k2, q_shl (by omega), q_or]⟩
  exact (QX.mk (by simp (disch := omega) only [zsI_n, zsI_s, pk_un, zsL_1, zsI_2]; exact hx.rcp) (by simp (disch := omega) only [zsI_n, zsI_s, pk_un, zsL_1, zsI_2]; exact hx.bag) (by simp (disch := omega) only [zsI_n, zsI_s, pk_un, zsL_1, zsI_2]; exact hx.loa) (by simp (disch := omega) only [zsI_n, zsI_s, pk_un, zsL_1, zsI_2]; exact hx.L) ( ⟨K ||| 2 ^ l, Nat.or_lt_two_pow k1 hlt, by rw [zsI_s, pk_us], fun j hj => by
    show _ = (B.cond j || decide (j = l))
    rw [Nat.testBit_or, k3 j hj, Nat.testBit_two_pow]
    by_cases e : j = l
    · subst e; rw [decide_eq_true rfl]
    · rw [decide_eq_false e, decide_eq_false (fun q => e q.symm)]⟩) (fun c hc i hi => by simp (disch := omega) only [zsI_n, zsI_s, pk_un, zsL_1, zsI_2]; exact hx.st c hc i hi) (by simp (disch := omega) only [zsI_n, zsI_s, pk_un, zsL_1, zsI_2]; exact hx.cnt) (by simp (disch := omega) only [zsI_n, zsI_s, pk_un, zsL_1, zsI_2]; exact hx.T) (fun c hc i h1 h2 => by simp (disch := omega) only [zsI_n, zsI_s, pk_un, zsL_1, zsI_2]; exact hx.sl c hc i h1 h2) (by simp (disch := omega) only [zsI_n, zsI_s, pk_un, zsL_1, zsI_2]; exact hx.mis) (by simp (disch := omega) only [zsI_n, zsI_s, pk_un, zsL_1, zsI_2]; exact hx.Bc) (by simp (disch := omega) only [zsI_n, zsI_s, pk_un, zsL_1, zsI_2]; exact hx.bver) (by simp (disch := omega) only [zsI_n, zsI_s, pk_un, zsL_1, zsI_2]; exact hx.blot) (by simp (disch := omega) only [zsI_n, zsI_s, pk_un, zsL_1, zsI_2]; exact hx.left) (by simp (disch := omega) only [zsI_n, zsI_s, pk_un, zsL_1, zsI_2]; exact hx.out) (by simp (disch := omega) only [zsI_n, zsI_s, pk_un, zsL_1, zsI_2]; exact hx.R) (by simp (disch := omega) only [zsI_n, zsI_s, pk_un, zsL_1, zsI_2]; exact hx.rb) (by simp (disch := omega) only [zsI_n, zsI_s, pk_un, zsL_1, zsI_2]; exact hx.rl) (by simp (disch := omega) only [zsI_n, zsI_s, pk_un, zsL_1, zsI_2]; exact hx.rr))
theorem QF.kCond {V : Nat} {B : VB} {M : zMem} (hx : QF V B M) {l : Nat} : QF V (uCond l B) (zsI M 76 l 1) :=
  (QF.mk (by simp (disch := omega) only [zsI_n, zsI_s, pk_un, zsL_1, zsI_2]; exact hx.T) (by simp (disch := omega) only [zsI_n, zsI_s, pk_un, zsL_1, zsI_2]; exact hx.L) (by simp (disch := omega) only [zsI_n, zsI_s, pk_un, zsL_1, zsI_2]; exact hx.Bc) (by simp (disch := omega) only [zsI_n, zsI_s, pk_un, zsL_1, zsI_2]; exact hx.R) (by simp (disch := omega) only [zsI_n, zsI_s, pk_un, zsL_1, zsI_2]; exact hx.rcp) (by simp (disch := omega) only [zsI_n, zsI_s, pk_un, zsL_1, zsI_2]; exact hx.bag) (by simp (disch := omega) only [zsI_n, zsI_s, pk_un, zsL_1, zsI_2]; exact hx.loa) (by simp (disch := omega) only [zsI_n, zsI_s, pk_un, zsL_1, zsI_2]; exact hx.sl) ( fun j hj => by
    show _ = nI (B.cond j || decide (j = l)).toNat
    rw [zsI_s]
    by_cases e : j = l
    · subst e; rw [pk_us, decide_eq_true rfl, Bool.or_true]; rfl
    · rw [pk_un e, decide_eq_false e, Bool.or_false]; exact hx.cond j hj) (by simp (disch := omega) only [zsI_n, zsI_s, pk_un, zsL_1, zsI_2]; exact hx.st) (by simp (disch := omega) only [zsI_n, zsI_s, pk_un, zsL_1, zsI_2]; exact hx.cnt) (by simp (disch := omega) only [zsI_n, zsI_s, pk_un, zsL_1, zsI_2]; exact hx.mis) (by simp (disch := omega) only [zsI_n, zsI_s, pk_un, zsL_1, zsI_2]; exact hx.bver) (by simp (disch := omega) only [zsI_n, zsI_s, pk_un, zsL_1, zsI_2]; exact hx.blot) (by simp (disch := omega) only [zsI_n, zsI_s, pk_un, zsL_1, zsI_2]; exact hx.left) (by simp (disch := omega) only [zsI_n, zsI_s, pk_un, zsL_1, zsI_2]; exact hx.out) (by simp (disch := omega) only [zsI_n, zsI_s, pk_un, zsL_1, zsI_2]; exact hx.rb) (by simp (disch := omega) only [zsI_n, zsI_s, pk_un, zsL_1, zsI_2]; exact hx.rl) (by simp (disch := omega) only [zsI_n, zsI_s, pk_un, zsL_1, zsI_2]; exact hx.rr))
def uCbL (l : Nat) : Nat → Nat → VB → VB
  | 0, _, B => B
  | k + 1, i, B => uCbL l k (i + 1) (if (B.blot i).testBit l = true then uCb i 2 B else B)
def sCbL (l : Nat) : Nat → Nat → VB → Nat
  | 0, _, _ => 0
  | k + 1, i, B => (if (B.blot i).testBit l = true then B.out i else 0) + sCbL l k (i + 1) (if (B.blot i).testBit l = true then uCb i 2 B else B)
theorem BOK.kCbL {V n l : Nat} : ∀ k i {B : VB}, BOK V n B → i + k = B.Bc → BOK V n (uCbL l k i B) := by
  intro k
  induction k with
  | zero => intro i B h _; exact h
  | succ k ih =>
    intro i B h q
    have q0 : i < B.Bc := by omega
    rw [uCbL]
    split
    · exact ih (i + 1) (h.kCb q0) (by rw [uCb_Bc]; omega)
    · exact ih (i + 1) h (by omega)
theorem x_cbL (N : Nat) {V n0 l : Nat} (hn : n0 ≤ 512) (hl : l < 16) : ∀ k n i s {B : VB} {M : zMem}, QX V B M → BOK V n0 B → i + k = B.Bc → k < n → ∃ M', fX7_callBackLot_B4 N n (nI l) (nI s) (nI i) M = some (.inl (nI (s + sCbL l k i B)), M') ∧ QX V (uCbL l k i B) M' ∧ zxf M M' := by
  intro k
  induction k with
  | zero =>
    intro n i s B M hx hb h1 h2
    have hBc := hb.Bc
    obtain ⟨n, rfl⟩ : ∃ q, n = q + 1 := ⟨n - 1, by omega⟩
    rw [fX7_callBackLot_B4, hx.Bc, if_pos (nI_le (by omega) (by omega))]
    exact ⟨M, rfl, hx, zxf.refl⟩
  | succ k ih =>
    intro n i s B M hx hb h1 h2
    have hBc := hb.Bc
    obtain ⟨n, rfl⟩ : ∃ q, n = q + 1 := ⟨n - 1, by omega⟩
    have hi : i < B.Bc := by omega
    have h16 := hb.blot i hi
    rw [fX7_callBackLot_B4, hx.Bc, if_neg (nI_ge (by omega) (by omega)), if_pos (z60 (by omega)), nI_clamp (by omega), hx.blot i hi, q_has N _ (by omega), q_zb, q_lofI (by omega) (by omega), uCbL, sCbL]
    unfold fX7_callBackLot_B41
    by_cases g : (B.blot i).testBit l = true
    · simp only [g, if_true]
      rw [if_neg (by decide)]
      obtain ⟨M1, e1, e2, e3⟩ := x_cb N hx hb hn (i := i) (w := 2) hi
      rw [show (2 : Int32) = nI 2 from rfl, e1, q_zb, nI_add, q_zv, nI_1]
      obtain ⟨M2, f1, f2, f3⟩ := ih n (i + 1) (s + B.out i) e2 (hb.kCb hi) (by rw [uCb_Bc]; omega) (by omega)
      exact ⟨M2, by rw [f1, Nat.add_assoc], f2, e3.trans f3⟩
    · rw [Bool.not_eq_true] at g
      simp only [g, if_false, Bool.false_eq_true]
      rw [if_pos (by rfl), nI_1, Nat.zero_add]
      exact ih n (i + 1) s hx hb (by omega) (by omega)
theorem m_cbL (N : Nat) {V n0 l : Nat} (hn : n0 ≤ 512) (hl : l < 16) : ∀ k n i s {B : VB} {M : zMem}, QF V B M → BOK V n0 B → i + k = B.Bc → k < n → ∃ M', fX8_condemn_B70 N n (nI l) (nI s) (nI i) M = some (.inl (nI (s + sCbL l k i B)), M') ∧ QF V (uCbL l k i B) M' ∧ zmf M M' := by
  intro k
  induction k with
  | zero =>
    intro n i s B M hx hb h1 h2
    have hBc := hb.Bc
    obtain ⟨n, rfl⟩ : ∃ q, n = q + 1 := ⟨n - 1, by omega⟩
    rw [fX8_condemn_B70, hx.Bc, if_pos (nI_le (by omega) (by omega))]
    exact ⟨M, rfl, hx, zmf.refl⟩
  | succ k ih =>
    intro n i s B M hx hb h1 h2
    have hBc := hb.Bc
    obtain ⟨n, rfl⟩ : ∃ q, n = q + 1 := ⟨n - 1, by omega⟩
    have hi : i < B.Bc := by omega
    have h16 := hb.blot i hi
    rw [fX8_condemn_B70, hx.Bc, if_neg (nI_ge (by omega) (by omega)), if_pos (z60 (by omega)), nI_clamp (by omega), hx.blot i hi, q_bit (by omega) (by omega), uCbL, sCbL]
    unfold fX8_condemn_B103
    by_cases g : (B.blot i).testBit l = true
    · simp only [g, if_true]
      rw [if_pos (by rfl)]
      obtain ⟨M1, e1, e2, e3⟩ := m_cb N hx hb hn (i := i) (w := 2) hi
      rw [show (2 : Int32) = nI 2 from rfl, e1, q_zb, nI_add, q_zv, nI_1]
      obtain ⟨M2, f1, f2, f3⟩ := ih n (i + 1) (s + B.out i) e2 (hb.kCb hi) (by rw [uCb_Bc]; omega) (by omega)
      exact ⟨M2, by rw [f1, Nat.add_assoc], f2, e3.trans f3⟩
    · rw [Bool.not_eq_true] at g
      simp only [g, if_false, Bool.false_eq_true]
      rw [if_neg (by decide), ← nI_0, nI_add, q_zv, nI_1, Nat.add_zero, Nat.zero_add]
      exact ih n (i + 1) s hx hb (by omega) (by omega)
theorem b_condemn (N n : Nat) (hN : 300 ≤ N) (hn : n < 512) {A : VA} {B : VB} {M : zMem} (h : JJ n A B M) (x : Int32) : Both n (fL_condemn N x) (fX8_condemn N x) M := by
  have hL := h.bok.L
  have ref : ∀ {M0 : zMem} {x r : Int32}, ¬ r ≤ 0 → fX8_condemn_B28 N x r M0 = some (.inl 0, zsI M0 62 30 r) := fun {M0 x r} q => by
    unfold fX8_condemn_B28
    rw [q_zl, zsI_s, pk_us, if_neg q]
  have no1 : x < 0 ∨ nI B.L ≤ x → Both n (fL_condemn N x) (fX8_condemn N x) M := fun c => by
    refine Both.no h (r := 1) ?_ ?_ (by decide)
    · unfold fL_condemn fX7_condemn
      rw [x_Lot N h.rx.L c, q_zbr, q_zbxr, if_pos (by decide)]
    · unfold fX8_condemn
      rw [m_Lot N h.rm.2.L (by omega) c, q_zb, if_pos rfl, ref (by decide)]
  rcases pk_ix x (n := B.L) (by omega) with c | c | ⟨l, hl, rfl⟩
  · exact no1 (Or.inl c)
  · exact no1 (Or.inr c)
  have h16 : l < 16 := by omega
  have z16 : zin (nI l) 16 = true := zin_nI h16 (by decide)
  cases g : B.cond l
  · obtain ⟨y, c1, c2⟩ := h.rx.kCond h16
    have hb1 := h.bok.kCond hl
    obtain ⟨M1, e1, e2, e3⟩ := x_thr N hN h16 5 N 0 c1 hb1 (by omega) (by omega)
    rw [nI_0] at e1
    have hb2 : BOK A.V (n + 1) (thr l 5 0 (uCond l B)) := hb1.kThr 5 0
    have hBc2 := hb2.Bc
    obtain ⟨M2, f1, f2, f3⟩ := x_cbL N (n0 := n + 1) (by omega) h16 (thr l 5 0 (uCond l B)).Bc N 0 0 e2 hb2 (by omega) (by omega)
    rw [nI_0, Nat.zero_add] at f1
    have fr : zxf (zsI M 37 1 y) M2 := e3.trans f3
    have fr2 : zeq 0 33 M M2 := fun a _ ha => ⟨by rw [fr.1 a (by omega), zsI_n (by omega)], by rw [fr.2, zsI_2]⟩
    have hm0 : QM A B (zsL M2 87 0 (nI (sCbL l (thr l 5 0 (uCond l B)).Bc 0 (thr l 5 0 (uCond l B)))).toInt64) := h.rm.cong (fun a h1 h2 => by rw [zsL_1, fr.1 a (by omega), zsI_n (by omega)])
    have hm1 := hm0.note (x := 0)
    obtain ⟨M3, g1, g2, g3⟩ := m_thr N hN h16 5 N 0 (hm1.2.kCond (l := l)) hb1 (by omega) (by omega)
    rw [nI_0] at g1
    obtain ⟨M4, k1, k2, k3⟩ := m_cbL N (n0 := n + 1) (by omega) h16 (thr l 5 0 (uCond l B)).Bc N 0 0 g2 hb2 (by omega) (by omega)
    rw [nI_0, Nat.zero_add] at k1
    have r3 : QR A M3 := (hm1.1.w (k := 76) (j := l) (x := 1) (by decide)).to (by rw [g3.1 62 (by decide) (by decide)]) (by rw [g3.1 62 (by decide) (by decide)]) (fun a h1 h2 => g3.1 a (by omega) (by omega))
    refine Both.go (A' := A) (B' := uCbL l (thr l 5 0 (uCond l B)).Bc 0 (thr l 5 0 (uCond l B))) (M1 := M2) (v := nI (sCbL l (thr l 5 0 (uCond l B)).Bc 0 (thr l 5 0 (uCond l B)))) h.aok (hb2.kCbL _ _ (by omega)) ?_ (h.ra.to (fr2.sub (by omega) (by omega))) f2 ((h.rt.to (fr2.sub (by omega) (by omega))).up (Nat.le_succ n)) ⟨M4, ?_, ?_, ⟨fun a ha => ?_, ?_⟩, r3.zmf k3, k2⟩
    · unfold fL_condemn fX7_condemn fX2_throwOut fX7_callBackLot
      rw [x_Lot' N h.rx.L (by omega) hl, q_zb, x_good N h.rx h16, if_neg (by rw [g]; decide), q_zb, q_zl, c2, e1, q_zb, f1, q_zb, q_zbx, if_pos z1, cl0]
      rfl
    · unfold fX8_condemn fX8_condemn_B28
      rw [m_Lot' N hm0.2.L (by omega) hl, q_zb, if_neg (by decide), if_pos z16, nI_clamp (by omega), hm0.2.cond l h16, g, if_neg (by decide), q_zl, zsI_s, pk_us, if_pos (by decide), if_pos z16, q_zl, g1, k1]
    · rw [k3.2.1 30 (by decide), g3.1 62 (by decide) (by decide), zsI_n (by decide), zsI_s, pk_us]
    · rw [k3.1 a (by omega) (by omega), g3.1 a (by omega) (by omega), zsI_n (by omega), zsI_n (by omega)]
    · rw [k3.2.2, g3.2]; rfl
  · refine Both.no h (r := 2) ?_ ?_ (by decide)
    · unfold fL_condemn fX7_condemn
      rw [x_Lot' N h.rx.L (by omega) hl, q_zb, x_good N h.rx h16, if_pos g, q_zbr, q_zbxr, if_neg (by decide), if_pos (by decide)]
    · unfold fX8_condemn
      rw [m_Lot' N h.rm.2.L (by omega) hl, q_zb, if_neg (by decide), if_pos z16, nI_clamp (by omega), h.rm.2.cond l h16, g, if_pos (by rfl), ref (by decide)]
