/-! pure: the class alone, out of the parts of the whole -/
/-! pure: tell -/
theorem held_eq {A A' : VA} (h1 : A'.len = A.len) (h2 : A'.log = A.log) (v : Nat) : held A' v = held A v := by
  unfold held
  rw [hset_eq (A' := A') (A := A) (fun b _ => by rw [h1]) (fun b _ => by rw [h2])]
theorem aTell_V {s r : Nat} {A : VA} : (aTell s r A).V = A.V := by
  unfold aTell aTell1
  split
  · rfl
  · split <;> rfl
/-! pure: addLot, deliver -/
def uLot (B : VB) : VB := (VB.mk (B.L + 1) B.T B.Bc B.R B.rcp B.bag B.loa B.cond B.cnt B.mis B.st B.sl B.bver B.blot B.left B.out B.rb B.rl B.rr)
theorem BOK.kLot {V n : Nat} {B : VB} (hb : BOK V n B) (h : B.L < 16) : BOK V (n + 1) (uLot B) :=
  (BOK.mk ( h) hb.T hb.Bc ( Nat.le_trans hb.R (Nat.le_succ n)) hb.rcp ( fun l hl => hb.cond l (Nat.le_trans (Nat.le_succ _) hl)) hb.cnt ( fun b h5 i hi => Nat.lt_of_lt_of_le (hb.st b h5 i hi) (Nat.le_succ _)) hb.sl hb.sl0 hb.bver hb.blot hb.left hb.out0)
theorem QX.kLot {V : Nat} {B : VB} {M : zMem} (hx : QX V B M) : QX V (uLot B) (zsI M 37 0 (nI (B.L + 1))) :=
  (QX.mk (by simp (disch := omega) only [zsI_n, zsI_s, pk_un, zsL_1, zsI_2]; exact hx.rcp) (by simp (disch := omega) only [zsI_n, zsI_s, pk_un, zsL_1, zsI_2]; exact hx.bag) (by simp (disch := omega) only [zsI_n, zsI_s, pk_un, zsL_1, zsI_2]; exact hx.loa) ( by rw [zsI_s, pk_us]; rfl) (by simp (disch := omega) only [zsI_n, zsI_s, pk_un, zsL_1, zsI_2]; exact hx.cb) (fun c hc i hi => by simp (disch := omega) only [zsI_n, zsI_s, pk_un, zsL_1, zsI_2]; exact hx.st c hc i hi) (by simp (disch := omega) only [zsI_n, zsI_s, pk_un, zsL_1, zsI_2]; exact hx.cnt) (by simp (disch := omega) only [zsI_n, zsI_s, pk_un, zsL_1, zsI_2]; exact hx.T) (fun c hc i h1 h2 => by simp (disch := omega) only [zsI_n, zsI_s, pk_un, zsL_1, zsI_2]; exact hx.sl c hc i h1 h2) (by simp (disch := omega) only [zsI_n, zsI_s, pk_un, zsL_1, zsI_2]; exact hx.mis) (by simp (disch := omega) only [zsI_n, zsI_s, pk_un, zsL_1, zsI_2]; exact hx.Bc) (by simp (disch := omega) only [zsI_n, zsI_s, pk_un, zsL_1, zsI_2]; exact hx.bver) (by simp (disch := omega) only [zsI_n, zsI_s, pk_un, zsL_1, zsI_2]; exact hx.blot) (by simp (disch := omega) only [zsI_n, zsI_s, pk_un, zsL_1, zsI_2]; exact hx.left) (by simp (disch := omega) only [zsI_n, zsI_s, pk_un, zsL_1, zsI_2]; exact hx.out) (by simp (disch := omega) only [zsI_n, zsI_s, pk_un, zsL_1, zsI_2]; exact hx.R) (by simp (disch := omega) only [zsI_n, zsI_s, pk_un, zsL_1, zsI_2]; exact hx.rb) (by simp (disch := omega) only [zsI_n, zsI_s, pk_un, zsL_1, zsI_2]; exact hx.rl) (by simp (disch := omega) only [zsI_n, zsI_s, pk_un, zsL_1, zsI_2]; exact hx.rr))
theorem x_good (N : Nat) {V : Nat} {B : VB} {M : zMem} (hx : QX V B M) {l : Nat} (hl : l < 16) : fX7_checkGood N (nI l) M = if B.cond l = true then some (.inr 3, M) else some (.inl 0, M) := by
  obtain ⟨K, k1, k2, k3⟩ := hx.cb
  unfold fX7_checkGood
  rw [k2, q_has N _ (by omega), q_zb, q_lofI (by omega) (by omega), k3 l hl]
  cases B.cond l
  · rw [if_pos (by rfl), if_neg (by decide)]
  · rw [if_neg (by decide), if_pos rfl]
def uDel (b l k : Nat) (B : VB) : VB := (VB.mk B.L B.T B.Bc B.R B.rcp B.bag B.loa B.cond (fu B.cnt b (B.cnt b + k)) B.mis (fun c => if c = b then (fun i => if B.cnt b ≤ i then l else B.st b i) else B.st c) B.sl B.bver B.blot B.left B.out B.rb B.rl B.rr)
theorem BOK.kDel {V n : Nat} {B : VB} (hb : BOK V n B) {b l k : Nat} (hl : l < B.L) (hk : B.cnt b + k ≤ 200) : BOK V (n + 1) (uDel b l k B) :=
  (BOK.mk hb.L hb.T hb.Bc ( Nat.le_trans hb.R (Nat.le_succ n)) hb.rcp hb.cond ( fun c hc => by
    show fu B.cnt b (B.cnt b + k) c ≤ 200
    rw [fu_e]; split
    · exact hk
    · exact hb.cnt c hc) ( fun c hc i hi => by
    have hi' : i < fu B.cnt b (B.cnt b + k) c := hi
    show (if c = b then (fun i => if B.cnt b ≤ i then l else B.st b i) else B.st c) i < B.L
    by_cases e : c = b
    · subst e
      rw [if_pos rfl]
      by_cases e2 : B.cnt c ≤ i
      · rw [if_pos e2]; exact hl
      · rw [if_neg e2]; exact hb.st c hc i (by omega)
    · rw [if_neg e]; rw [fu_n e] at hi'; exact hb.st c hc i hi') hb.sl hb.sl0 hb.bver hb.blot hb.left hb.out0)
theorem x_bring (N : Nat) {b l e : Nat} (hb : b < 5) (he : e ≤ 200) : ∀ k n i {M : zMem}, i + k = e → k < n → ∃ M', fX2_bring_B18 N n (nI b) (nI l) (nI e) (nI i) M = some (.inl 0, M') ∧ M'.2 = M.2 ∧ (∀ a, a ≠ 38 + 1 + b → a ≠ 44 → M'.1 a = M.1 a) ∧ M'.1 44 = upd (M.1 44) b (nI e) ∧ ∀ j, M'.1 (38 + 1 + b) j = if i ≤ j ∧ j < e then nI l else M.1 (38 + 1 + b) j := by
  intro k
  induction k with
  | zero =>
    intro n i M h1 h2
    obtain ⟨n, rfl⟩ : ∃ q, n = q + 1 := ⟨n - 1, by omega⟩
    rw [fX2_bring_B18, if_pos (nI_le (by omega) (by omega)), if_pos (z5 hb), q_zl, nI_clamp (by omega)]
    exact ⟨_, rfl, rfl, fun a h1 h2 => zsI_n h2, zsI_s, fun j => by rw [zsI_n (by omega), if_neg (by omega)]⟩
  | succ k ih =>
    intro n i M h1 h2
    obtain ⟨n, rfl⟩ : ∃ q, n = q + 1 := ⟨n - 1, by omega⟩
    rw [fX2_bring_B18, if_neg (nI_ge (by omega) (by omega)), if_pos (z5 hb), if_pos (zin_nI (by omega) (by decide)), q_zl, nI_clamp (by omega), nI_clamp (by omega), nI_1]
    obtain ⟨M', e1, e2, e3, e4, e5⟩ := ih n (i + 1) (M := zsI M (38 + 1 + b) i (nI l)) (by omega) (by omega)
    refine ⟨M', e1, e2, fun a h1 h2 => by rw [e3 a h1 h2, zsI_n h1], by rw [e4, zsI_n (by omega)], fun j => ?_⟩
    rw [e5 j, zsI_s]
    by_cases c : j = i
    · subst c; rw [if_neg (by omega), pk_us, if_pos (by omega)]
    · rw [pk_un c]
      by_cases c2 : i + 1 ≤ j ∧ j < e
      · rw [if_pos c2, if_pos (by omega)]
      · rw [if_neg c2, if_neg (by omega)]
/-! pure: condemn -/
def kc (f : Nat → Nat) (l : Nat) : Nat → Nat
  | 0 => 0
  | k + 1 => if f k = l then kc f l k else kc f l k + 1
def kr (f : Nat → Nat) (l : Nat) : Nat → Nat → Nat
  | 0 => f
  | k + 1 => if f k = l then kr f l k else fu (kr f l k) (kc f l k) (f k)
theorem kc_le {f : Nat → Nat} {l : Nat} : ∀ k, kc f l k ≤ k := by
  intro k
  induction k with
  | zero => exact Nat.le_refl _
  | succ k ih => unfold kc; split <;> omega
theorem kr_ge {f : Nat → Nat} {l : Nat} : ∀ k j, k ≤ j → kr f l k j = f j := by
  intro k
  induction k with
  | zero => intro j _; rfl
  | succ k ih =>
    intro j hj
    have := kc_le (f := f) (l := l) k
    unfold kr
    split
    · exact ih j (by omega)
    · rw [fu_n (by omega)]; exact ih j (by omega)
theorem kr_lt {f : Nat → Nat} {l L m : Nat} (h : ∀ j, j < m → f j < L) : ∀ k, k ≤ m → ∀ j, j < m → kr f l k j < L := by
  intro k
  induction k with
  | zero => intro _ j hj; exact h j hj
  | succ k ih =>
    intro hk j hj
    unfold kr
    split
    · exact ih (by omega) j hj
    · rw [fu_e]; split
      · exact h k (by omega)
      · exact ih (by omega) j hj
theorem x_keep (N : Nat) {b l c : Nat} (hb : b < 5) (hl : l < 16) (hc : c ≤ 200) {f : Nat → Nat} (hf : ∀ j, j < c → f j < 16) : ∀ k n i {M : zMem}, M.1 44 b = nI c → (∀ j, j < c → M.1 (38 + 1 + b) j = nI (kr f l i j)) → i + k = c → k < n → ∃ M', fX2_throwOutOf_B5 N n (nI b) (nI l) (nI (kc f l i)) (nI i) M = some (.inl 0, M') ∧ M'.2 = M.2 ∧ (∀ a, a ≠ 38 + 1 + b → a ≠ 44 → M'.1 a = M.1 a) ∧ M'.1 44 = upd (M.1 44) b (nI (kc f l c)) ∧ ∀ j, j < c → M'.1 (38 + 1 + b) j = nI (kr f l c j) := by
  intro k
  induction k with
  | zero =>
    intro n i M e1 e2 h1 h2
    obtain ⟨n, rfl⟩ : ∃ q, n = q + 1 := ⟨n - 1, by omega⟩
    obtain rfl : i = c := by omega
    rw [fX2_throwOutOf_B5, if_pos (z5 hb), nI_clamp (by omega), e1, if_pos (nI_le (by omega) (by omega)), if_pos (z5 hb), q_zl]
    exact ⟨_, rfl, rfl, fun a h1 h2 => zsI_n h2, zsI_s, fun j hj => by rw [zsI_n (by omega)]; exact e2 j hj⟩
  | succ k ih =>
    intro n i M e1 e2 h1 h2
    obtain ⟨n, rfl⟩ : ∃ q, n = q + 1 := ⟨n - 1, by omega⟩
    have hf1 := hf i (by omega)
    have k1 := kc_le (f := f) (l := l) i
    have e3 := e2 i (by omega)
    rw [kr_ge i i (Nat.le_refl _)] at e3
    rw [fX2_throwOutOf_B5]
    unfold fX2_throwOutOf_B49
    simp only [z5 hb, if_true, q_zl]
    rw [nI_clamp (n := b) (by omega), e1, if_neg (nI_ge (by omega) (by omega)), if_pos (zin_nI (by omega) (by decide)), nI_clamp (by omega), e3, nI_1]
    by_cases g : f i = l
    · rw [if_pos (by rw [g])]
      have ek : kc f l (i + 1) = kc f l i := if_pos g
      have er : kr f l (i + 1) = kr f l i := if_pos g
      have nx := ih n (i + 1) (M := M) e1 (by rw [er]; exact e2) (by omega) (by omega)
      rw [ek] at nx
      exact nx
    · rw [if_neg (fun q => g ((nI_eq (by omega) (by omega)).mp q)), if_pos (zin_nI (by omega) (by decide)), if_pos (zin_nI (by omega) (by decide)), nI_clamp (by omega), nI_1]
      have ek : kc f l (i + 1) = kc f l i + 1 := if_neg g
      have er : kr f l (i + 1) = fu (kr f l i) (kc f l i) (f i) := if_neg g
      obtain ⟨M', q1, q2, q3, q4, q5⟩ := ih n (i + 1) (M := zsI M (38 + 1 + b) (kc f l i) (nI (f i))) (by rw [zsI_n (by omega)]; exact e1) (fun j hj => by
        rw [er, zsI_s]
        by_cases w : j = kc f l i
        · rw [w, pk_us, fu_s]
        · rw [pk_un w, fu_n w]; exact e2 j hj) (by omega) (by omega)
      rw [ek] at q1
      exact ⟨M', q1, q2, fun a h1 h2 => by rw [q3 a h1 h2, zsI_n h1], by rw [q4, zsI_n (by omega)], q5⟩
def thr1 (l b : Nat) (B : VB) : VB := (VB.mk B.L B.T B.Bc B.R B.rcp B.bag B.loa B.cond (fu B.cnt b (kc (B.st b) l (B.cnt b))) B.mis (fun c => if c = b then kr (B.st b) l (B.cnt b) else B.st c) B.sl B.bver B.blot B.left B.out B.rb B.rl B.rr)
theorem BOK.kThr1 {V n : Nat} {B : VB} (hb : BOK V n B) {b l : Nat} : BOK V n (thr1 l b B) :=
  (BOK.mk hb.L hb.T hb.Bc hb.R hb.rcp hb.cond ( fun c hc => by
    show fu B.cnt b (kc (B.st b) l (B.cnt b)) c ≤ 200
    have := hb.cnt c hc
    by_cases e : c = b
    · subst e; rw [fu_s]; have := kc_le (f := B.st c) (l := l) (B.cnt c); omega
    · rw [fu_n e]; exact this) ( fun c hc i hi => by
    have hi' : i < fu B.cnt b (kc (B.st b) l (B.cnt b)) c := hi
    show (if c = b then kr (B.st b) l (B.cnt b) else B.st c) i < B.L
    by_cases e : c = b
    · subst e
      rw [fu_s] at hi'
      rw [if_pos rfl]
      exact kr_lt (fun j hj => hb.st c hc j hj) _ (Nat.le_refl _) i (Nat.lt_of_lt_of_le hi' (kc_le _))
    · rw [fu_n e] at hi'; rw [if_neg e]; exact hb.st c hc i hi') hb.sl hb.sl0 hb.bver hb.blot hb.left hb.out0)
theorem x_thr1 (N : Nat) (hN : 300 ≤ N) {V n0 : Nat} {B : VB} {M : zMem} (hx : QX V B M) (hb : BOK V n0 B) {b l : Nat} (h5 : b < 5) (hl : l < 16) : ∃ M', fX2_throwOutOf N (nI b) (nI l) M = some (.inl 0, M') ∧ QX V (thr1 l b B) M' ∧ zxf M M' := by
  have hc := hb.cnt b h5
  have hL := hb.L
  obtain ⟨M', e1, e2, e3, e4, e5⟩ := x_keep N (b := b) (l := l) (c := B.cnt b) h5 hl hc (f := B.st b) (fun j hj => by have := hb.st b h5 j hj; omega) (B.cnt b) N 0 (M := M) (hx.cnt b h5) (fun j hj => hx.st b h5 j hj) (by omega) (by omega)
  refine ⟨M', e1, ?_, ⟨fun a ha => e3 a (by omega) (by omega), e2⟩⟩
  have r44 : ∀ c, c < 5 → M'.1 44 c = nI (fu B.cnt b (kc (B.st b) l (B.cnt b)) c) := fun c hc => by
    rw [e4]
    by_cases e : c = b
    · subst e; rw [pk_us, fu_s]
    · rw [pk_un e, fu_n e]; exact hx.cnt c hc
  refine QX.mk ?_ ?_ ?_ ?_ ?_ ?_ r44 ?_ ?_ ?_ ?_ ?_ ?_ ?_ ?_ ?_ ?_ ?_ ?_
  · rw [e3 34 (by omega) (by decide)]; exact hx.rcp
  · rw [e3 35 (by omega) (by decide)]; exact hx.bag
  · rw [e3 36 (by omega) (by decide)]; exact hx.loa
  · rw [e3 37 (by omega) (by decide)]; exact hx.L
  · rw [e3 37 (by omega) (by decide)]; exact hx.cb
  · intro c hc i hi
    have hi' : i < fu B.cnt b (kc (B.st b) l (B.cnt b)) c := hi
    show _ = nI ((if c = b then kr (B.st b) l (B.cnt b) else B.st c) i)
    by_cases e : c = b
    · subst e
      rw [fu_s] at hi'
      rw [if_pos rfl]
      exact e5 i (Nat.lt_of_lt_of_le hi' (kc_le _))
    · rw [fu_n e] at hi'
      rw [if_neg e, e3 _ (by omega) (by omega)]; exact hx.st c hc i hi'
  · rw [e3 45 (by omega) (by decide)]; exact hx.T
  · intro c hc i h1 h2
    rw [e3 _ (by omega) (by omega)]; exact hx.sl c hc i h1 h2
  · rw [e3 52 (by omega) (by decide)]; exact hx.mis
  · rw [e3 53 (by omega) (by decide)]; exact hx.Bc
  · rw [e3 54 (by omega) (by decide)]; exact hx.bver
  · rw [e3 55 (by omega) (by decide)]; exact hx.blot
  · rw [e3 56 (by omega) (by decide)]; exact hx.left
  · rw [e3 57 (by omega) (by decide)]; exact hx.out
  · rw [e3 58 (by omega) (by decide)]; exact hx.R
  · rw [e3 59 (by omega) (by decide)]; exact hx.rb
  · rw [e3 60 (by omega) (by decide)]; exact hx.rl
  · rw [e3 61 (by omega) (by decide)]; exact hx.rr
def zsf (M M' : zMem) : Prop := (∀ a, a ≠ 77 → a ≠ 78 → M'.1 a = M.1 a) ∧ M'.2 = M.2
def thr (l : Nat) : Nat → Nat → VB → VB
  | 0, _, B => B
  | k + 1, b, B => thr l k (b + 1) (thr1 l b B)
theorem BOK.kThr {V n l : Nat} : ∀ k b {B : VB}, BOK V n B → BOK V n (thr l k b B) := by
  intro k
  induction k with
  | zero => intro b B h; exact h
  | succ k ih => intro b B h; exact ih (b + 1) h.kThr1
theorem x_thr (N : Nat) (hN : 300 ≤ N) {V n0 l : Nat} (hl : l < 16) : ∀ k n b {B : VB} {M : zMem}, QX V B M → BOK V n0 B → b + k = 5 → k < n → ∃ M', fX2_throwOut_B14 N n (nI l) (nI b) M = some (.inl 0, M') ∧ QX V (thr l k b B) M' ∧ zxf M M' := by
  intro k
  induction k with
  | zero =>
    intro n b B M hx hb h1 h2
    obtain ⟨n, rfl⟩ : ∃ q, n = q + 1 := ⟨n - 1, by omega⟩
    rw [fX2_throwOut_B14, if_pos (show (5 : Int32) ≤ nI b from nI_le (a := 5) (by omega) (by omega))]
    exact ⟨M, rfl, hx, zxf.refl⟩
  | succ k ih =>
    intro n b B M hx hb h1 h2
    obtain ⟨n, rfl⟩ : ∃ q, n = q + 1 := ⟨n - 1, by omega⟩
    obtain ⟨M1, e1, e2, e3⟩ := x_thr1 N hN hx hb (b := b) (by omega) hl
    obtain ⟨M2, f1, f2, f3⟩ := ih n (b + 1) e2 hb.kThr1 (by omega) (by omega)
    rw [fX2_throwOut_B14, if_neg (show ¬ (5 : Int32) ≤ nI b from nI_ge (b := 5) (by omega) (by decide)), e1, q_zb, nI_1]
    exact ⟨M2, f1, f2, e3.trans f3⟩
def uCond (l : Nat) (B : VB) : VB := (VB.mk B.L B.T B.Bc B.R B.rcp B.bag B.loa (fun j => B.cond j || decide (j = l)) B.cnt B.mis B.st B.sl B.bver B.blot B.left B.out B.rb B.rl B.rr)
theorem BOK.kCond {V n : Nat} {B : VB} (hb : BOK V n B) {l : Nat} (hl : l < B.L) : BOK V (n + 1) (uCond l B) :=
  (BOK.mk hb.L hb.T hb.Bc ( Nat.le_trans hb.R (Nat.le_succ n)) hb.rcp ( fun j hj => by
    have hj' : B.L ≤ j := hj
    show (B.cond j || decide (j = l)) = false
    rw [hb.cond j hj', decide_eq_false (by omega)]; rfl) hb.cnt hb.st hb.sl hb.sl0 hb.bver hb.blot hb.left hb.out0)
theorem QX.kCond {V : Nat} {B : VB} {M : zMem} (hx : QX V B M) {l : Nat} (hl : l < 16) : ∃ y, QX V (uCond l B) (zsI M 37 1 y) ∧ (M.1 37 1 ||| ((1 : Int32) <<< (nI l &&& 31))) = y := by
  obtain ⟨K, k1, k2, k3⟩ := hx.cb
  have hlt : 2 ^ l < 2 ^ 16 := Nat.pow_lt_pow_right (by decide) hl
  refine ⟨nI (K ||| 2 ^ l), ?_, by rw [k2, q_shl (by omega), q_or]⟩
  exact (QX.mk (by simp (disch := omega) only [zsI_n, zsI_s, pk_un, zsL_1, zsI_2]; exact hx.rcp) (by simp (disch := omega) only [zsI_n, zsI_s, pk_un, zsL_1, zsI_2]; exact hx.bag) (by simp (disch := omega) only [zsI_n, zsI_s, pk_un, zsL_1, zsI_2]; exact hx.loa) (by simp (disch := omega) only [zsI_n, zsI_s, pk_un, zsL_1, zsI_2]; exact hx.L) ( ⟨K ||| 2 ^ l, Nat.or_lt_two_pow k1 hlt, by rw [zsI_s, pk_us], fun j hj => by
    show _ = (B.cond j || decide (j = l))
    rw [Nat.testBit_or, k3 j hj, Nat.testBit_two_pow]
    by_cases e : j = l
    · subst e; rw [decide_eq_true rfl]
    · rw [decide_eq_false e, decide_eq_false (fun q => e q.symm)]⟩) (fun c hc i hi => by simp (disch := omega) only [zsI_n, zsI_s, pk_un, zsL_1, zsI_2]; exact hx.st c hc i hi) (by simp (disch := omega) only [zsI_n, zsI_s, pk_un, zsL_1, zsI_2]; exact hx.cnt) (by simp (disch := omega) only [zsI_n, zsI_s, pk_un, zsL_1, zsI_2]; exact hx.T) (fun c hc i h1 h2 => by simp (disch := omega) only [zsI_n, zsI_s, pk_un, zsL_1, zsI_2]; exact hx.sl c hc i h1 h2) (by simp (disch := omega) only [zsI_n, zsI_s, pk_un, zsL_1, zsI_2]; exact hx.mis) (by simp (disch := omega) only [zsI_n, zsI_s, pk_un, zsL_1, zsI_2]; exact hx.Bc) (by simp (disch := omega) only [zsI_n, zsI_s, pk_un, zsL_1, zsI_2]; exact hx.bver) (by simp (disch := omega) only [zsI_n, zsI_s, pk_un, zsL_1, zsI_2]; exact hx.blot) (by simp (disch := omega) only [zsI_n, zsI_s, pk_un, zsL_1, zsI_2]; exact hx.left) (by simp (disch := omega) only [zsI_n, zsI_s, pk_un, zsL_1, zsI_2]; exact hx.out) (by simp (disch := omega) only [zsI_n, zsI_s, pk_un, zsL_1, zsI_2]; exact hx.R) (by simp (disch := omega) only [zsI_n, zsI_s, pk_un, zsL_1, zsI_2]; exact hx.rb) (by simp (disch := omega) only [zsI_n, zsI_s, pk_un, zsL_1, zsI_2]; exact hx.rl) (by simp (disch := omega) only [zsI_n, zsI_s, pk_un, zsL_1, zsI_2]; exact hx.rr))
def uCbL (l : Nat) : Nat → Nat → VB → VB
  | 0, _, B => B
  | k + 1, i, B => uCbL l k (i + 1) (if (B.blot i).testBit l = true then uCb i 2 B else B)
def sCbL (l : Nat) : Nat → Nat → VB → Nat
  | 0, _, _ => 0
  | k + 1, i, B => (if (B.blot i).testBit l = true then B.out i else 0) + sCbL l k (i + 1) (if (B.blot i).testBit l = true then uCb i 2 B else B)
theorem BOK.kCbL {V n l : Nat} : ∀ k i {B : VB}, BOK V n B → i + k = B.Bc → BOK V n (uCbL l k i B) := by
  intro k
  induction k with
  | zero => intro i B h _; exact h
  | succ k ih =>
    intro i B h q
    have q0 : i < B.Bc := by omega
    rw [uCbL]
    split
    · exact ih (i + 1) (h.kCb q0) (by rw [uCb_Bc]; omega)
    · exact ih (i + 1) h (by omega)
theorem x_cbL (N : Nat) {V n0 l : Nat} (hn : n0 ≤ 512) (hl : l < 16) : ∀ k n i s {B : VB} {M : zMem}, QX V B M → BOK V n0 B → i + k = B.Bc → k < n → ∃ M', fX7_callBackLot_B4 N n (nI l) (nI s) (nI i) M = some (.inl (nI (s + sCbL l k i B)), M') ∧ QX V (uCbL l k i B) M' ∧ zxf M M' := by
  intro k
  induction k with
  | zero =>
    intro n i s B M hx hb h1 h2
    have hBc := hb.Bc
    obtain ⟨n, rfl⟩ : ∃ q, n = q + 1 := ⟨n - 1, by omega⟩
    rw [fX7_callBackLot_B4, hx.Bc, if_pos (nI_le (by omega) (by omega))]
    exact ⟨M, rfl, hx, zxf.refl⟩
  | succ k ih =>
    intro n i s B M hx hb h1 h2
    have hBc := hb.Bc
    obtain ⟨n, rfl⟩ : ∃ q, n = q + 1 := ⟨n - 1, by omega⟩
    have hi : i < B.Bc := by omega
    have h16 := hb.blot i hi
    rw [fX7_callBackLot_B4, hx.Bc, if_neg (nI_ge (by omega) (by omega)), if_pos (z60 (by omega)), nI_clamp (by omega), hx.blot i hi, q_has N _ (by omega), q_zb, q_lofI (by omega) (by omega), uCbL, sCbL]
    unfold fX7_callBackLot_B41
    by_cases g : (B.blot i).testBit l = true
    · simp only [g, if_true]
      rw [if_neg (by decide)]
      obtain ⟨M1, e1, e2, e3⟩ := x_cb N hx hb hn (i := i) (w := 2) hi
      rw [show (2 : Int32) = nI 2 from rfl, e1, q_zb, nI_add, q_zv, nI_1]
      obtain ⟨M2, f1, f2, f3⟩ := ih n (i + 1) (s + B.out i) e2 (hb.kCb hi) (by rw [uCb_Bc]; omega) (by omega)
      exact ⟨M2, by rw [f1, Nat.add_assoc], f2, e3.trans f3⟩
    · rw [Bool.not_eq_true] at g
      simp only [g, if_false, Bool.false_eq_true]
      rw [if_pos (by rfl), nI_1, Nat.zero_add]
      exact ih n (i + 1) s hx hb (by omega) (by omega)
/-! pure: baking -/
def lor (f : Nat → Nat) : Nat → Nat
  | 0 => 0
  | k + 1 => lor f k ||| 2 ^ f k
theorem lor_lt {f : Nat → Nat} : ∀ k, (∀ j, j < k → f j < 16) → lor f k < 2 ^ 16 := by
  intro k
  induction k with
  | zero => intro _; exact Nat.two_pow_pos 16
  | succ k ih =>
    intro h
    exact Nat.or_lt_two_pow (ih (fun j hj => h j (by omega))) (Nat.pow_lt_pow_right (by decide) (h k (by omega)))
def bake (b v : Nat) (B : VB) : VB := (VB.mk B.L B.T (B.Bc + 1) B.R B.rcp B.bag B.loa B.cond (fu B.cnt b (B.cnt b - B.bag v)) B.mis (fun c => if c = b then (fun i => B.st b (i + B.bag v)) else B.st c) B.sl (fu B.bver B.Bc v) (fu B.blot B.Bc (lor (B.st b) (B.bag v))) (fu B.left B.Bc (B.loa v)) B.out B.rb B.rl B.rr)
theorem BOK.kBake {V n : Nat} {B : VB} (hb : BOK V n B) {b v : Nat} (h5 : b < 5) (hv : v < V) (hbg : B.bag v ≤ B.cnt b) (h60 : B.Bc < 60) : BOK V n (bake b v B) :=
  (BOK.mk hb.L hb.T ( h60) hb.R hb.rcp hb.cond ( fun c hc => by
    show fu B.cnt b (B.cnt b - B.bag v) c ≤ 200
    have := hb.cnt c hc
    by_cases e : c = b
    · subst e; rw [fu_s]; omega
    · rw [fu_n e]; exact this) ( fun c hc i hi => by
    have hi' : i < fu B.cnt b (B.cnt b - B.bag v) c := hi
    show (if c = b then (fun i => B.st b (i + B.bag v)) else B.st c) i < B.L
    by_cases e : c = b
    · subst e
      rw [fu_s] at hi'
      rw [if_pos rfl]
      exact hb.st c hc (i + B.bag v) (by omega)
    · rw [fu_n e] at hi'; rw [if_neg e]; exact hb.st c hc i hi') hb.sl hb.sl0 ( fun i hi => by
    have hi' : i < B.Bc + 1 := hi
    show fu B.bver B.Bc v i < V
    by_cases e : i = B.Bc
    · subst e; rw [fu_s]; exact hv
    · rw [fu_n e]; exact hb.bver i (by omega)) ( fun i hi => by
    have hi' : i < B.Bc + 1 := hi
    show fu B.blot B.Bc (lor (B.st b) (B.bag v)) i < 2 ^ 16
    by_cases e : i = B.Bc
    · subst e; rw [fu_s]; exact lor_lt _ (fun j hj => Nat.lt_of_lt_of_le (hb.st b h5 j (by omega)) hb.L)
    · rw [fu_n e]; exact hb.blot i (by omega)) ( fun i hi => by
    have hi' : i < B.Bc + 1 := hi
    show fu B.left B.Bc (B.loa v) i + B.out i ≤ 40
    by_cases e : i = B.Bc
    · subst e; rw [fu_s, hb.out0 _ (Nat.le_refl _)]; exact (hb.rcp v hv).2.2.2
    · rw [fu_n e]; exact hb.left i (by omega)) ( fun i hi => hb.out0 i (Nat.le_trans (Nat.le_succ _) hi)))
theorem x_first (N : Nat) {b k c : Nat} (hb : b < 5) (hc : c ≤ 200) (hk : k ≤ c) {f : Nat → Nat} (hf : ∀ j, j < c → f j < 16) {M : zMem} (hr : ∀ j, j < c → M.1 (38 + 1 + b) j = nI (f j)) : ∀ q n i, i + q = k → q < n → fX2_takeFirst_B5 N n (nI b) (nI k) (nI (lor f i)) (nI i) M = fX2_takeFirst_B34 N N (nI b) (nI k) (nI (lor f k)) (nI k) M := by
  intro q
  induction q with
  | zero =>
    intro n i h1 h2
    obtain ⟨n, rfl⟩ : ∃ q, n = q + 1 := ⟨n - 1, by omega⟩
    obtain rfl : i = k := by omega
    rw [fX2_takeFirst_B5, if_pos (nI_le (by omega) (by omega))]
  | succ q ih =>
    intro n i h1 h2
    obtain ⟨n, rfl⟩ : ∃ q, n = q + 1 := ⟨n - 1, by omega⟩
    have h16 := hf i (by omega)
    rw [fX2_takeFirst_B5, if_neg (nI_ge (by omega) (by omega)), if_pos (z5 hb), if_pos (zin_nI (by omega) (by decide)), nI_clamp (by omega), nI_clamp (by omega), hr i (by omega), q_shl (by omega), q_or, q_zv, nI_1]
    exact ih n (i + 1) (by omega) (by omega)
theorem x_shift (N : Nat) {b k c : Nat} {y : Int32} (hb : b < 5) (hc : c ≤ 200) (hk : k ≤ c) {f : Nat → Nat} : ∀ q n i {M : zMem}, M.1 44 b = nI c → (∀ j, j < c → M.1 (38 + 1 + b) j = nI (if j + k < i then f (j + k) else f j)) → k ≤ i → i + q = c → q < n → ∃ M', fX2_takeFirst_B34 N n (nI b) (nI k) y (nI i) M = some (.inl y, M') ∧ M'.2 = M.2 ∧ (∀ a, a ≠ 38 + 1 + b → a ≠ 44 → M'.1 a = M.1 a) ∧ M'.1 44 = upd (M.1 44) b (nI (c - k)) ∧ ∀ j, j < c - k → M'.1 (38 + 1 + b) j = nI (f (j + k)) := by
  intro q
  induction q with
  | zero =>
    intro n i M e1 e2 h0 h1 h2
    obtain ⟨n, rfl⟩ : ∃ q, n = q + 1 := ⟨n - 1, by omega⟩
    obtain rfl : i = c := by omega
    rw [fX2_takeFirst_B34]
    simp only [z5 hb, if_true, q_zl]
    rw [nI_clamp (by omega), e1, if_pos (nI_le (by omega) (by omega)), pk_sub hk]
    exact ⟨_, rfl, rfl, fun a h1 h2 => zsI_n h2, zsI_s, fun j hj => by rw [zsI_n (by omega), e2 j (by omega), if_pos (by omega)]⟩
  | succ q ih =>
    intro n i M e1 e2 h0 h1 h2
    obtain ⟨n, rfl⟩ : ∃ q, n = q + 1 := ⟨n - 1, by omega⟩
    rw [fX2_takeFirst_B34]
    simp only [z5 hb, if_true, q_zl]
    rw [nI_clamp (n := b) (by omega), e1, if_neg (nI_ge (by omega) (by omega)), if_pos (zin_nI (by omega) (by decide)), pk_sub h0, if_pos (zin_nI (by omega) (by decide)), nI_clamp (by omega), nI_clamp (by omega), e2 i (by omega), if_neg (by omega), nI_1]
    obtain ⟨M', f1, f2, f3, f4, f5⟩ := ih n (i + 1) (M := zsI M (38 + 1 + b) (i - k) (nI (f i))) (by rw [zsI_n (by omega)]; exact e1) (fun j hj => by
      rw [zsI_s]
      by_cases w : j = i - k
      · rw [w, pk_us, if_pos (by omega), show i - k + k = i by omega]
      · rw [pk_un w, e2 j hj]
        by_cases w2 : j + k < i
        · rw [if_pos w2, if_pos (by omega)]
        · rw [if_neg w2, if_neg (by omega)]) (by omega) (by omega) (by omega)
    exact ⟨M', f1, f2, fun a h1 h2 => by rw [f3 a h1 h2, zsI_n h1], by rw [f4, zsI_n (by omega)], f5⟩
theorem x_bake (N : Nat) (hN : 300 ≤ N) {V n0 : Nat} {B : VB} {M : zMem} (hx : QX V B M) (hb : BOK V n0 B) {b v : Nat} (h5 : b < 5) (hv : v < V) (hV : V ≤ 60) (hc : B.bag v ≤ B.cnt b) (h60 : B.Bc < 60) : ∃ M', fX7_bake N (nI b) (nI v) M = some (.inl 0, M') ∧ QX V (bake b v B) M' ∧ zxf M M' := by
  have hcn := hb.cnt b h5
  have hL := hb.L
  have hf : ∀ j, j < B.cnt b → B.st b j < 16 := fun j hj => Nat.lt_of_lt_of_le (hb.st b h5 j hj) hL
  have p1 := x_first N (b := b) (k := B.bag v) (c := B.cnt b) h5 hcn hc hf (M := M) (fun j hj => hx.st b h5 j hj) (B.bag v) N 0 (by omega) (by omega)
  obtain ⟨M1, e1, e2, e3, e4, e5⟩ := x_shift N (b := b) (k := B.bag v) (c := B.cnt b) (y := nI (lor (B.st b) (B.bag v))) h5 hcn hc (f := B.st b) (B.cnt b - B.bag v) N (B.bag v) (M := M) (hx.cnt b h5) (fun j hj => by rw [if_neg (by omega)]; exact hx.st b h5 j hj) (Nat.le_refl _) (by omega) (by omega)
  have z60v : zin (nI v) 60 = true := z60 (by omega)
  have z60c : zin (nI B.Bc) 60 = true := z60 h60
  have eB : M1.1 53 0 = nI B.Bc := by rw [e3 53 (by omega) (by decide)]; exact hx.Bc
  have eL : M1.1 36 v = nI (B.loa v) := by rw [e3 36 (by omega) (by decide)]; exact hx.loa v hv
  rw [show lor (B.st b) 0 = 0 from rfl, nI_0] at p1
  unfold fX7_bake fX2_takeFirst fX1_add
  simp only [z60v, if_true]
  rw [nI_clamp (by omega), hx.bag v hv, p1, e1, q_zb, eL]
  simp (disch := omega) only [z60c, if_true, q_zl, nI_clamp, zsI_n, eB, nI_1, q_zb]
  refine ⟨_, rfl, ?_, ⟨fun a ha => by simp (disch := omega) only [zsI_n]; exact e3 a (by omega) (by omega), by simp only [zsI_2]; exact e2⟩⟩
  have r44 : ∀ c, c < 5 → M1.1 44 c = nI (fu B.cnt b (B.cnt b - B.bag v) c) := fun c hc => by
    rw [e4]
    by_cases e : c = b
    · subst e; rw [pk_us, fu_s]
    · rw [pk_un e, fu_n e]; exact hx.cnt c hc
  refine QX.mk ?_ ?_ ?_ ?_ ?_ ?_ ?_ ?_ ?_ ?_ ?_ ?_ ?_ ?_ ?_ ?_ ?_ ?_ ?_
  · simp (disch := omega) only [zsI_n]; rw [e3 34 (by omega) (by decide)]; exact hx.rcp
  · simp (disch := omega) only [zsI_n]; rw [e3 35 (by omega) (by decide)]; exact hx.bag
  · simp (disch := omega) only [zsI_n]; rw [e3 36 (by omega) (by decide)]; exact hx.loa
  · simp (disch := omega) only [zsI_n]; rw [e3 37 (by omega) (by decide)]; exact hx.L
  · simp (disch := omega) only [zsI_n]; rw [e3 37 (by omega) (by decide)]; exact hx.cb
  · intro c hc i hi
    have hi' : i < fu B.cnt b (B.cnt b - B.bag v) c := hi
    show _ = nI ((if c = b then (fun i => B.st b (i + B.bag v)) else B.st c) i)
    simp (disch := omega) only [zsI_n]
    by_cases e : c = b
    · subst e
      rw [fu_s] at hi'
      rw [if_pos rfl]
      exact e5 i hi'
    · rw [fu_n e] at hi'
      rw [if_neg e, e3 _ (by omega) (by omega)]; exact hx.st c hc i hi'
  · simp (disch := omega) only [zsI_n]; exact r44
  · simp (disch := omega) only [zsI_n]; rw [e3 45 (by omega) (by decide)]; exact hx.T
  · intro c hc i h1 h2
    simp (disch := omega) only [zsI_n]
    rw [e3 _ (by omega) (by omega)]; exact hx.sl c hc i h1 h2
  · simp (disch := omega) only [zsI_n]; rw [e3 52 (by omega) (by decide)]; exact hx.mis
  · rw [zsI_s, pk_us]; rfl
  · intro i hi
    have hi' : i < B.Bc + 1 := hi
    show _ = nI (fu B.bver B.Bc v i)
    simp (disch := omega) only [zsI_n, zsI_s]
    by_cases e : i = B.Bc
    · subst e; rw [pk_us, fu_s]
    · rw [pk_un e, fu_n e, e3 54 (by omega) (by decide)]; exact hx.bver i (by omega)
  · intro i hi
    have hi' : i < B.Bc + 1 := hi
    show _ = nI (fu B.blot B.Bc (lor (B.st b) (B.bag v)) i)
    simp (disch := omega) only [zsI_n, zsI_s]
    by_cases e : i = B.Bc
    · subst e; rw [pk_us, fu_s]
    · rw [pk_un e, fu_n e, e3 55 (by omega) (by decide)]; exact hx.blot i (by omega)
  · intro i hi
    have hi' : i < B.Bc + 1 := hi
    show _ = nI (fu B.left B.Bc (B.loa v) i)
    simp (disch := omega) only [zsI_n, zsI_s]
    by_cases e : i = B.Bc
    · subst e; rw [pk_us, fu_s]
    · rw [pk_un e, fu_n e, e3 56 (by omega) (by decide)]; exact hx.left i (by omega)
  · intro i hi
    have hi' : i < B.Bc + 1 := hi
    show _ = nI (B.out i)
    simp (disch := omega) only [zsI_n, zsI_s]
    by_cases e : i = B.Bc
    · subst e; rw [pk_us, hb.out0 _ (Nat.le_refl _)]; rfl
    · rw [pk_un e, e3 57 (by omega) (by decide)]; exact hx.out i (by omega)
  · simp (disch := omega) only [zsI_n]; rw [e3 58 (by omega) (by decide)]; exact hx.R
  · simp (disch := omega) only [zsI_n]; rw [e3 59 (by omega) (by decide)]; exact hx.rb
  · simp (disch := omega) only [zsI_n]; rw [e3 60 (by omega) (by decide)]; exact hx.rl
  · simp (disch := omega) only [zsI_n]; rw [e3 61 (by omega) (by decide)]; exact hx.rr
/-- the reference's loop, to its last writes -/
def mBake (M : zMem) (b v k c n lots lv : Nat) : zMem := zsI (zsI (zsI (zsI (zsI M 78 b (nI (c - k))) 80 n (nI v)) 81 n (nI lots)) 82 n (nI lv)) 62 21 (nI (n + 1))
/-! pure: pass -/
def goes (A : VA) (b v : Nat) (B : VB) : Prop := held A v = true ∧ B.bag v ≤ B.cnt b ∧ B.Bc < 60
def uMis (b : Nat) (B : VB) : VB := (VB.mk B.L B.T B.Bc B.R B.rcp B.bag B.loa B.cond B.cnt (fu B.mis b (B.mis b + 1)) B.st B.sl B.bver B.blot B.left B.out B.rb B.rl B.rr)
/-- what an hour makes of a slot -/
def ph (A : VA) (b s : Nat) (B : VB) : VB := if s = 0 then B else if held A (s - 1) = true then (if B.bag (s - 1) ≤ B.cnt b then (if B.Bc < 60 then bake b (s - 1) B else uMis b B) else uMis b B) else uMis b B
def pm (A : VA) (b s : Nat) (B : VB) : Nat := if s = 0 then 0 else if held A (s - 1) = true then (if B.bag (s - 1) ≤ B.cnt b then (if B.Bc < 60 then 1 else 0) else 0) else 0
theorem ph_T {A : VA} {b s : Nat} {B : VB} : (ph A b s B).T = B.T := by unfold ph; split; rfl; split; split; split; all_goals rfl
theorem ph_sl {A : VA} {b s : Nat} {B : VB} : (ph A b s B).sl = B.sl := by unfold ph; split; rfl; split; split; split; all_goals rfl
def sS (f : Nat → Nat → Nat) (B : VB) : VB := (VB.mk B.L B.T B.Bc B.R B.rcp B.bag B.loa B.cond B.cnt B.mis B.st (f) B.bver B.blot B.left B.out B.rb B.rl B.rr)
theorem ph_sS {A : VA} {b s : Nat} {f : Nat → Nat → Nat} {B : VB} : ph A b s (sS f B) = sS f (ph A b s B) := by
  unfold ph
  by_cases g : s = 0
  · rw [if_pos g, if_pos g]
  · rw [if_neg g, if_neg g]
    by_cases g1 : held A (s - 1) = true
    · rw [if_pos g1, if_pos g1]
      by_cases g2 : B.bag (s - 1) ≤ B.cnt b
      · rw [if_pos g2, if_pos (show (sS f B).bag (s - 1) ≤ (sS f B).cnt b from g2)]
        by_cases g3 : B.Bc < 60
        · rw [if_pos g3, if_pos (show (sS f B).Bc < 60 from g3)]; rfl
        · rw [if_neg g3, if_neg (show ¬ (sS f B).Bc < 60 from g3)]; rfl
      · rw [if_neg g2, if_neg (show ¬ (sS f B).bag (s - 1) ≤ (sS f B).cnt b from g2)]; rfl
    · rw [if_neg g1, if_neg g1]; rfl
theorem pm_sS {A : VA} {b s : Nat} {f : Nat → Nat → Nat} {B : VB} : pm A b s (sS f B) = pm A b s B := rfl
theorem BOK.kMis {V n : Nat} {B : VB} (hb : BOK V n B) {b : Nat} : BOK V n (uMis b B) :=
  BOK.mk hb.L hb.T hb.Bc hb.R hb.rcp hb.cond hb.cnt hb.st hb.sl hb.sl0 hb.bver hb.blot hb.left hb.out0
theorem BOK.kPh {V n : Nat} {A : VA} {B : VB} (hb : BOK V n B) {b s : Nat} (h5 : b < 5) (hs : s ≤ V) : BOK V n (ph A b s B) := by
  unfold ph
  split
  · exact hb
  · split
    · split
      · split
        · rename_i g0 g1 g2 g3
          exact hb.kBake h5 (by omega) g2 g3
        · exact hb.kMis
      · exact hb.kMis
    · exact hb.kMis
theorem BOK.kS {V n : Nat} {B : VB} (hb : BOK V n B) {f : Nat → Nat → Nat} (hf : ∀ c h, f c h = 0 ∨ f c h = B.sl c h) : BOK V n (sS f B) :=
  (BOK.mk hb.L hb.T hb.Bc hb.R hb.rcp hb.cond hb.cnt hb.st ( fun c hc i hi => by
    show f c i ≤ V
    have := hb.sl c hc i hi
    rcases hf c i with q | q <;> omega) ( fun c hc i hi => by
    show f c i = 0
    have := hb.sl0 c hc i hi
    rcases hf c i with q | q <;> omega) hb.bver hb.blot hb.left hb.out0)
theorem QX.kMis {V : Nat} {B : VB} {M : zMem} (hx : QX V B M) {b : Nat} : QX V (uMis b B) (zsI M 52 b (nI (B.mis b + 1))) :=
  (QX.mk (by simp (disch := omega) only [zsI_n, zsI_s, pk_un, zsL_1, zsI_2]; exact hx.rcp) (by simp (disch := omega) only [zsI_n, zsI_s, pk_un, zsL_1, zsI_2]; exact hx.bag) (by simp (disch := omega) only [zsI_n, zsI_s, pk_un, zsL_1, zsI_2]; exact hx.loa) (by simp (disch := omega) only [zsI_n, zsI_s, pk_un, zsL_1, zsI_2]; exact hx.L) (by simp (disch := omega) only [zsI_n, zsI_s, pk_un, zsL_1, zsI_2]; exact hx.cb) (fun c hc i hi => by simp (disch := omega) only [zsI_n, zsI_s, pk_un, zsL_1, zsI_2]; exact hx.st c hc i hi) (by simp (disch := omega) only [zsI_n, zsI_s, pk_un, zsL_1, zsI_2]; exact hx.cnt) (by simp (disch := omega) only [zsI_n, zsI_s, pk_un, zsL_1, zsI_2]; exact hx.T) (fun c hc i h1 h2 => by simp (disch := omega) only [zsI_n, zsI_s, pk_un, zsL_1, zsI_2]; exact hx.sl c hc i h1 h2) ( fun c hc => by
    show _ = nI (fu B.mis b (B.mis b + 1) c)
    rw [zsI_s]
    by_cases e : c = b
    · subst e; rw [pk_us, fu_s]
    · rw [pk_un e, fu_n e]; exact hx.mis c hc) (by simp (disch := omega) only [zsI_n, zsI_s, pk_un, zsL_1, zsI_2]; exact hx.Bc) (by simp (disch := omega) only [zsI_n, zsI_s, pk_un, zsL_1, zsI_2]; exact hx.bver) (by simp (disch := omega) only [zsI_n, zsI_s, pk_un, zsL_1, zsI_2]; exact hx.blot) (by simp (disch := omega) only [zsI_n, zsI_s, pk_un, zsL_1, zsI_2]; exact hx.left) (by simp (disch := omega) only [zsI_n, zsI_s, pk_un, zsL_1, zsI_2]; exact hx.out) (by simp (disch := omega) only [zsI_n, zsI_s, pk_un, zsL_1, zsI_2]; exact hx.R) (by simp (disch := omega) only [zsI_n, zsI_s, pk_un, zsL_1, zsI_2]; exact hx.rb) (by simp (disch := omega) only [zsI_n, zsI_s, pk_un, zsL_1, zsI_2]; exact hx.rl) (by simp (disch := omega) only [zsI_n, zsI_s, pk_un, zsL_1, zsI_2]; exact hx.rr))
theorem x_can (N : Nat) {A : VA} {B : VB} {M : zMem} (ha : QA 1 A M) (hx : QX A.V B M) (hk : AOK A) {n0 : Nat} (hb : BOK A.V n0 B) {b v : Nat} (h5 : b < 5) (hv : v < A.V) : fX7_canBake N (nI b) (nI v) M = some (.inl (if held A v = true then (if B.bag v ≤ B.cnt b then (if B.Bc < 60 then 1 else 0) else 0) else 0), M) := by
  have hV := hk.ver
  have hc := hb.cnt b h5
  have hBc := hb.Bc
  have hg := (hb.rcp v hv).2.2.1
  unfold fX7_canBake
  rw [q_has N _ (by omega), q_zb, ha.held hv]
  cases g : held A v
  · rw [if_pos (by rfl), if_neg (by decide)]
  · rw [if_neg (by decide), if_pos rfl, if_pos (z5 h5), if_pos (z60 (by omega)), nI_clamp (by omega), nI_clamp (by omega), hx.cnt b h5, hx.bag v hv]
    by_cases g1 : B.bag v ≤ B.cnt b
    · rw [if_neg (nI_nlt (by omega) (by omega)), if_pos g1, hx.Bc]
      by_cases g2 : B.Bc < 60
      · rw [if_neg (show ¬ (60 : Int32) ≤ nI B.Bc from nI_ge (b := 60) g2 (by decide)), if_pos g2]
      · rw [if_pos (show (60 : Int32) ≤ nI B.Bc from nI_le (a := 60) (by omega) (by omega)), if_neg g2]
    · rw [if_pos (nI_lt (by omega) (by omega)), if_neg g1]
/-- one slot of the class, up to the clearing -/
theorem x_one (N : Nat) (hN : 300 ≤ N) {A : VA} {B : VB} {M : zMem} (ha : QA 1 A M) (hx : QX A.V B M) (hk : AOK A) {n0 : Nat} (hb : BOK A.V n0 B) {b v : Nat} (h5 : b < 5) (hv : v < A.V) {again : Int32 → Int32 → zMem → zRES} {t : Nat} : ∃ M', (zb (fX7_canBake N (nI b) (nI v) M) fun r6 M7 =>
      if r6 = 0 then
        if zin (nI b) 5 = true then
        if zin (nI b) 5 = true then
        zl (zsI M7 52 (nI b).toNatClampNeg ((M7.1 52 (nI b).toNatClampNeg) + 1)) fun M11 =>
        fX7_passHour_B64 N again (nI t) (nI b) M11
        else none
        else none
      else
        zb (fX7_bake N (nI b) (nI v) M7) fun r12 M13 =>
        fX7_passHour_B64 N again (nI t + 1) (nI b) M13) = fX7_passHour_B64 N again (nI (t + pm A b (v + 1) B)) (nI b) M' ∧ QX A.V (ph A b (v + 1) B) M' ∧ zxf M M' := by
  have hV := hk.ver
  rw [x_can N ha hx hk hb h5 hv, q_zb]
  have mis : ph A b (v + 1) B = uMis b B → pm A b (v + 1) B = 0 → ∃ M', (if (0 : Int32) = 0 then
        if zin (nI b) 5 = true then
        if zin (nI b) 5 = true then
        zl (zsI M 52 (nI b).toNatClampNeg ((M.1 52 (nI b).toNatClampNeg) + 1)) fun M11 =>
        fX7_passHour_B64 N again (nI t) (nI b) M11
        else none
        else none
      else
        zb (fX7_bake N (nI b) (nI v) M) fun r12 M13 =>
        fX7_passHour_B64 N again (nI t + 1) (nI b) M13) = fX7_passHour_B64 N again (nI (t + pm A b (v + 1) B)) (nI b) M' ∧ QX A.V (ph A b (v + 1) B) M' ∧ zxf M M' := fun q1 q2 => by
    rw [if_pos rfl]
    simp only [z5 h5, if_true, q_zl]
    rw [nI_clamp (by omega), hx.mis b h5, nI_1, q1, q2, Nat.add_zero]
    exact ⟨_, rfl, hx.kMis, ⟨fun a ha => zsI_n (by omega), rfl⟩⟩
  by_cases g1 : held A v = true
  · rw [if_pos g1]
    by_cases g2 : B.bag v ≤ B.cnt b
    · rw [if_pos g2]
      by_cases g3 : B.Bc < 60
      · rw [if_pos g3, if_neg (by decide)]
        obtain ⟨M1, e1, e2, e3⟩ := x_bake N hN hx hb h5 hv hV g2 g3
        rw [e1, q_zb, nI_1]
        have q1 : ph A b (v + 1) B = bake b v B := by unfold ph; rw [if_neg (by omega), Nat.add_sub_cancel, if_pos g1, if_pos g2, if_pos g3]
        have q2 : pm A b (v + 1) B = 1 := by unfold pm; rw [if_neg (by omega), Nat.add_sub_cancel, if_pos g1, if_pos g2, if_pos g3]
        rw [q1, q2]
        exact ⟨M1, rfl, e2, e3⟩
      · rw [if_neg g3]
        exact mis (by unfold ph; rw [if_neg (by omega), Nat.add_sub_cancel, if_pos g1, if_pos g2, if_neg g3]) (by unfold pm; rw [if_neg (by omega), Nat.add_sub_cancel, if_pos g1, if_pos g2, if_neg g3])
    · rw [if_neg g2]
      exact mis (by unfold ph; rw [if_neg (by omega), Nat.add_sub_cancel, if_pos g1, if_neg g2]) (by unfold pm; rw [if_neg (by omega), Nat.add_sub_cancel, if_pos g1, if_neg g2])
  · rw [if_neg g1]
    exact mis (by unfold ph; rw [if_neg (by omega), Nat.add_sub_cancel, if_neg g1]) (by unfold pm; rw [if_neg (by omega), Nat.add_sub_cancel, if_neg g1])
/-- the slots of hour t, of the first b bakeries, cleared -/
def cl (b t : Nat) (f : Nat → Nat → Nat) : Nat → Nat → Nat := fun c h => if c < b ∧ h = t then 0 else f c h
theorem cl_0 {t : Nat} {f : Nat → Nat → Nat} : cl 0 t f = f := by
  funext c h
  unfold cl
  rw [if_neg (by omega)]
theorem cl_s {b t : Nat} {f : Nat → Nat → Nat} (h : f b t = 0) : cl (b + 1) t f = cl b t f := by
  funext c i
  unfold cl
  by_cases g : c < b ∧ i = t
  · rw [if_pos g, if_pos (by omega)]
  · rw [if_neg g]
    by_cases g2 : c < b + 1 ∧ i = t
    · rw [if_pos g2, show c = b by omega, g2.2, h]
    · rw [if_neg g2]
theorem cl_u {b t : Nat} {f : Nat → Nat → Nat} : (fun c => if c = b then fu (cl b t f b) t 0 else cl b t f c) = cl (b + 1) t f := by
  funext c i
  by_cases e : c = b
  · subst e
    show (if c = c then fu (cl c t f c) t 0 else cl c t f c) i = _
    rw [if_pos rfl, fu_e]
    unfold cl
    by_cases e2 : i = t
    · rw [if_pos e2, if_pos (by omega)]
    · rw [if_neg e2, if_neg (by omega), if_neg (by omega)]
  · show (if c = b then fu (cl b t f b) t 0 else cl b t f c) i = _
    rw [if_neg e]
    unfold cl
    by_cases g : c < b ∧ i = t
    · rw [if_pos g, if_pos (by omega)]
    · rw [if_neg g, if_neg (by omega)]
def hDo (A : VA) : Nat → Nat → VB → VB
  | 0, _, B => B
  | k + 1, b, B => hDo A k (b + 1) (ph A b (B.sl b B.T) B)
def hCt (A : VA) : Nat → Nat → VB → Nat
  | 0, _, _ => 0
  | k + 1, b, B => pm A b (B.sl b B.T) B + hCt A k (b + 1) (ph A b (B.sl b B.T) B)
theorem hDo_T {A : VA} : ∀ k b (B : VB), (hDo A k b B).T = B.T ∧ (hDo A k b B).sl = B.sl := by
  intro k
  induction k with
  | zero => intro b B; exact ⟨rfl, rfl⟩
  | succ k ih => intro b B; have := ih (b + 1) (ph A b (B.sl b B.T) B); rw [ph_T, ph_sl] at this; exact this
theorem BOK.kHDo {V n : Nat} {A : VA} : ∀ k b {B : VB}, BOK V n B → b + k = 5 → BOK V n (hDo A k b B) := by
  intro k
  induction k with
  | zero => intro b B h _; exact h
  | succ k ih =>
    intro b B h q
    have hT := h.T
    exact ih (b + 1) (h.kPh (by omega) (h.sl b (by omega) B.T (by omega))) (by omega)
theorem x_hour (N : Nat) (hN : 300 ≤ N) {A : VA} (hk : AOK A) {n0 : Nat} : ∀ k n b t {B : VB} {M : zMem}, QA 1 A M → QX A.V (sS (cl b B.T B.sl) B) M → BOK A.V n0 B → b + k = 5 → k < n → ∃ M', fX7_passHour_B4 N n (nI t) (nI b) M = some (.inl (nI (t + hCt A k b B)), zsI M' 45 0 (nI (B.T + 1))) ∧ QX A.V (sS (cl 5 B.T B.sl) (hDo A k b B)) M' ∧ zxf M M' := by
  have hV := hk.ver
  intro k
  induction k with
  | zero =>
    intro n b t B M ha hx hb h1 h2
    obtain ⟨n, rfl⟩ : ∃ q, n = q + 1 := ⟨n - 1, by omega⟩
    obtain rfl : b = 5 := by omega
    have eT : M.1 45 0 = nI B.T := hx.T
    rw [fX7_passHour_B4, if_pos (by decide), q_zl, eT, nI_1]
    exact ⟨M, rfl, hx, zxf.refl⟩
  | succ k ih =>
    intro n b t B M ha hx hb h1 h2
    obtain ⟨n, rfl⟩ : ∃ q, n = q + 1 := ⟨n - 1, by omega⟩
    have h5 : b < 5 := by omega
    have hT := hb.T
    have eT : M.1 45 0 = nI B.T := hx.T
    have hs := hb.sl b h5 B.T (by omega)
    have ecl : (sS (cl b B.T B.sl) B).sl b B.T = B.sl b B.T := by
      show cl b B.T B.sl b B.T = _
      unfold cl; rw [if_neg (by omega)]
    have es := x_slot N hx h5 (h := B.T) (Nat.le_refl _) (Nat.le_add_right _ _) hT
    rw [ecl] at es
    have hb1 : BOK A.V n0 (ph A b (B.sl b B.T) B) := hb.kPh h5 hs
    rw [fX7_passHour_B4, if_neg (show ¬ (5 : Int32) ≤ nI b from nI_ge (b := 5) h5 (by decide)), eT, es, q_zb, hDo, hCt]
    by_cases g : B.sl b B.T = 0
    · have q1 : ph A b (B.sl b B.T) B = B := if_pos g
      have q2 : pm A b (B.sl b B.T) B = 0 := if_pos g
      rw [q1, q2, g, if_pos (by decide), Nat.zero_add]
      unfold fX7_passHour_B80
      rw [nI_1]
      exact ih n (b + 1) t ha (by rw [cl_s g]; exact hx) hb (by omega) (by omega)
    · rw [q_pred (by omega), if_neg (q_m1 (by omega))]
      have hbS : BOK A.V n0 (sS (cl b B.T B.sl) B) := hb.kS (fun c h => by unfold cl; split; exact Or.inl rfl; exact Or.inr rfl)
      obtain ⟨M1, e1, e2, e3⟩ := x_one N hN ha hx hk hbS h5 (v := B.sl b B.T - 1) (by omega) (again := fX7_passHour_B4 N n) (t := t)
      rw [e1, Nat.sub_add_cancel (by omega), pm_sS]
      rw [Nat.sub_add_cancel (by omega), ph_sS] at e2
      have eT1 : M1.1 45 0 = nI B.T := by
        have := e2.T
        rw [show (sS (cl b B.T B.sl) (ph A b (B.sl b B.T) B)).T = (ph A b (B.sl b B.T) B).T from rfl, ph_T] at this
        exact this
      unfold fX7_passHour_B64 fX7_passHour_B80
      rw [eT1, x_set N h5 (by omega), q_zb, nI_1]
      have hx2 := e2.uSl (b := b) (h := B.T) (x := 0) (y := -1) (show (ph A b (B.sl b B.T) B).T ≤ 1000 by rw [ph_T]; exact hT) h5 (show (ph A b (B.sl b B.T) B).T ≤ B.T by rw [ph_T]; exact Nat.le_refl _) (show B.T ≤ (ph A b (B.sl b B.T) B).T + 50 by rw [ph_T]; omega) (by decide)
      have hu : uSl b B.T 0 (sS (cl b B.T B.sl) (ph A b (B.sl b B.T) B)) = sS (cl (b + 1) (ph A b (B.sl b B.T) B).T (ph A b (B.sl b B.T) B).sl) (ph A b (B.sl b B.T) B) := by
        rw [ph_T, ph_sl, ← cl_u]; rfl
      rw [hu] at hx2
      have ha2 : QA 1 A (zsI M1 (46 + 1 + b) (B.T % 51) (-1)) := ha.to (fun a h1 h2 => ⟨by rw [zsI_n (by omega), e3.1 a (by omega)], by rw [zsI_2, e3.2]⟩)
      obtain ⟨M2, f1, f2, f3⟩ := ih n (b + 1) (t + pm A b (B.sl b B.T) B) ha2 hx2 hb1 (by omega) (by omega)
      rw [ph_T] at f1 f2
      rw [ph_sl] at f2
      exact ⟨M2, by rw [f1, Nat.add_assoc], f2, ⟨fun a ha => by rw [f3.1 a ha, zsI_n (by omega), e3.1 a ha], by rw [f3.2, zsI_2, e3.2]⟩⟩
def uT (B : VB) : VB := (VB.mk B.L (B.T + 1) B.Bc B.R B.rcp B.bag B.loa B.cond B.cnt B.mis B.st B.sl B.bver B.blot B.left B.out B.rb B.rl B.rr)
theorem BOK.kT {V n : Nat} {B : VB} (hb : BOK V n B) (h : B.T < 1000) : BOK V n (uT B) :=
  (BOK.mk hb.L ( h) hb.Bc hb.R hb.rcp hb.cond hb.cnt hb.st hb.sl ( fun c hc i hi => by
    have hi' : B.T + 1 + 50 < i := hi
    exact hb.sl0 c hc i (by omega)) hb.bver hb.blot hb.left hb.out0)
theorem QX.kT {V n0 : Nat} {B : VB} {M : zMem} (hx : QX V (sS (cl 5 B.T B.sl) B) M) (hb : BOK V n0 B) : QX V (uT B) (zsI M 45 0 (nI (B.T + 1))) :=
  (QX.mk (by simp (disch := omega) only [zsI_n, zsI_s, pk_un, zsL_1, zsI_2]; exact hx.rcp) (by simp (disch := omega) only [zsI_n, zsI_s, pk_un, zsL_1, zsI_2]; exact hx.bag) (by simp (disch := omega) only [zsI_n, zsI_s, pk_un, zsL_1, zsI_2]; exact hx.loa) (by simp (disch := omega) only [zsI_n, zsI_s, pk_un, zsL_1, zsI_2]; exact hx.L) (by simp (disch := omega) only [zsI_n, zsI_s, pk_un, zsL_1, zsI_2]; exact hx.cb) (fun c hc i hi => by simp (disch := omega) only [zsI_n, zsI_s, pk_un, zsL_1, zsI_2]; exact hx.st c hc i hi) (by simp (disch := omega) only [zsI_n, zsI_s, pk_un, zsL_1, zsI_2]; exact hx.cnt) ( by rw [zsI_s, pk_us]; rfl) ( fun c hc i h1 h2 => by
    have h1' : B.T + 1 ≤ i := h1
    have h2' : i ≤ B.T + 1 + 50 := h2
    show _ = nI (B.sl c i) - 1
    rw [zsI_n (by omega)]
    by_cases e : i = B.T + 51
    · have q := hx.sl c hc B.T (Nat.le_refl _) (Nat.le_add_right _ _)
      have q2 : (sS (cl 5 B.T B.sl) B).sl c B.T = 0 := if_pos ⟨hc, rfl⟩
      rw [q2] at q
      rw [hb.sl0 c hc i (by omega), ← q, show i % 51 = B.T % 51 by omega]
    · have q := hx.sl c hc i (show B.T ≤ i by omega) (show i ≤ B.T + 50 by omega)
      have q2 : (sS (cl 5 B.T B.sl) B).sl c i = B.sl c i := if_neg (by omega)
      rw [q2] at q
      exact q) (by simp (disch := omega) only [zsI_n, zsI_s, pk_un, zsL_1, zsI_2]; exact hx.mis) (by simp (disch := omega) only [zsI_n, zsI_s, pk_un, zsL_1, zsI_2]; exact hx.Bc) (by simp (disch := omega) only [zsI_n, zsI_s, pk_un, zsL_1, zsI_2]; exact hx.bver) (by simp (disch := omega) only [zsI_n, zsI_s, pk_un, zsL_1, zsI_2]; exact hx.blot) (by simp (disch := omega) only [zsI_n, zsI_s, pk_un, zsL_1, zsI_2]; exact hx.left) (by simp (disch := omega) only [zsI_n, zsI_s, pk_un, zsL_1, zsI_2]; exact hx.out) (by simp (disch := omega) only [zsI_n, zsI_s, pk_un, zsL_1, zsI_2]; exact hx.R) (by simp (disch := omega) only [zsI_n, zsI_s, pk_un, zsL_1, zsI_2]; exact hx.rb) (by simp (disch := omega) only [zsI_n, zsI_s, pk_un, zsL_1, zsI_2]; exact hx.rl) (by simp (disch := omega) only [zsI_n, zsI_s, pk_un, zsL_1, zsI_2]; exact hx.rr))
def pDo (A : VA) : Nat → VB → VB
  | 0, B => B
  | k + 1, B => pDo A k (uT (hDo A 5 0 B))
def pCt (A : VA) : Nat → VB → Nat
  | 0, _ => 0
  | k + 1, B => hCt A 5 0 B + pCt A k (uT (hDo A 5 0 B))
theorem BOK.kPDo {V n : Nat} {A : VA} : ∀ k {B : VB}, BOK V n B → B.T + k ≤ 1000 → BOK V n (pDo A k B) := by
  intro k
  induction k with
  | zero => intro B h _; exact h
  | succ k ih =>
    intro B h q
    have e := (hDo_T (A := A) 5 0 B).1
    exact ih ((h.kHDo 5 0 (by omega)).kT (by rw [e]; omega)) (show (hDo A 5 0 B).T + 1 + k ≤ 1000 by rw [e]; omega)
theorem x_pass (N : Nat) (hN : 300 ≤ N) {A : VA} (hk : AOK A) {n0 h : Nat} (hh : h ≤ 50) : ∀ k n i t {B : VB} {M : zMem}, QA 1 A M → QX A.V B M → BOK A.V n0 B → i + k = h → B.T + k ≤ 1000 → k < n → ∃ M', fX7_pass_B50 N n (nI h) (nI t) (nI i) M = some (.inl (nI (t + pCt A k B)), M') ∧ QX A.V (pDo A k B) M' ∧ zxf M M' := by
  intro k
  induction k with
  | zero =>
    intro n i t B M ha hx hb h1 h3 h2
    obtain ⟨n, rfl⟩ : ∃ q, n = q + 1 := ⟨n - 1, by omega⟩
    rw [fX7_pass_B50, if_pos (nI_le (by omega) (by omega))]
    exact ⟨M, rfl, hx, zxf.refl⟩
  | succ k ih =>
    intro n i t B M ha hx hb h1 h3 h2
    obtain ⟨n, rfl⟩ : ∃ q, n = q + 1 := ⟨n - 1, by omega⟩
    have e := hDo_T (A := A) 5 0 B
    have hb5 : BOK A.V n0 (hDo A 5 0 B) := hb.kHDo 5 0 (by omega)
    obtain ⟨M1, e1, e2, e3⟩ := x_hour N hN hk (n0 := n0) 5 N 0 0 (B := B) (M := M) ha (by rw [cl_0]; exact hx) hb (by omega) (by omega)
    rw [nI_0, Nat.zero_add] at e1
    rw [fX7_pass_B50, if_neg (nI_ge (by omega) (by omega))]
    unfold fX7_passHour
    rw [e1, q_zb, nI_add, q_zv, nI_1]
    have hx2 : QX A.V (uT (hDo A 5 0 B)) (zsI M1 45 0 (nI (B.T + 1))) := by
      have q := QX.kT (B := hDo A 5 0 B) (M := M1) (by rw [e.1, e.2]; exact e2) hb5
      rw [e.1] at q
      exact q
    have fr : zxf M (zsI M1 45 0 (nI (B.T + 1))) := ⟨fun a ha => by rw [zsI_n (by omega), e3.1 a ha], by rw [zsI_2, e3.2]⟩
    obtain ⟨M2, f1, f2, f3⟩ := ih n (i + 1) (t + hCt A 5 0 B) (ha.to (fr.to (by omega))) hx2 (hb5.kT (by rw [e.1]; omega)) (by omega) (show (hDo A 5 0 B).T + 1 + k ≤ 1000 by rw [e.1]; omega) (by omega)
    exact ⟨M2, by rw [f1, pCt, Nat.add_assoc], f2, fr.trans f3⟩

