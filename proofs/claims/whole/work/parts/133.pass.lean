/-! pure: pass -/
def goes (A : VA) (b v : Nat) (B : VB) : Prop := held A v = true ∧ B.bag v ≤ B.cnt b ∧ B.Bc < 60
def uMis (b : Nat) (B : VB) : VB := (VB.mk B.L B.T B.Bc B.R B.rcp B.bag B.loa B.cond B.cnt (fu B.mis b (B.mis b + 1)) B.st B.sl B.bver B.blot B.left B.out B.rb B.rl B.rr)
/-- what an hour makes of a slot -/
def ph (A : VA) (b s : Nat) (B : VB) : VB := if s = 0 then B else if held A (s - 1) = true then (if B.bag (s - 1) ≤ B.cnt b then (if B.Bc < 60 then bake b (s - 1) B else uMis b B) else uMis b B) else uMis b B
def pm (A : VA) (b s : Nat) (B : VB) : Nat := if s = 0 then 0 else if held A (s - 1) = true then (if B.bag (s - 1) ≤ B.cnt b then (if B.Bc < 60 then 1 else 0) else 0) else 0
theorem ph_T {A : VA} {b s : Nat} {B : VB} : (ph A b s B).T = B.T := by unfold ph; split; rfl; split; split; split; all_goals rfl
theorem ph_sl {A : VA} {b s : Nat} {B : VB} : (ph A b s B).sl = B.sl := by unfold ph; split; rfl; split; split; split; all_goals rfl
def sS (f : Nat → Nat → Nat) (B : VB) : VB := (VB.mk B.L B.T B.Bc B.R B.rcp B.bag B.loa B.cond B.cnt B.mis B.st (f) B.bver B.blot B.left B.out B.rb B.rl B.rr)
theorem ph_sS {A : VA} {b s : Nat} {f : Nat → Nat → Nat} {B : VB} : ph A b s (sS f B) = sS f (ph A b s B) := by
  unfold ph
  by_cases g : s = 0
  · rw [if_pos g, if_pos g]
  · rw [if_neg g, if_neg g]
    by_cases g1 : held A (s - 1) = true
    · rw [if_pos g1, if_pos g1]
      by_cases g2 : B.bag (s - 1) ≤ B.cnt b
      · rw [if_pos g2, if_pos (show (sS f B).bag (s - 1) ≤ (sS f B).cnt b from g2)]
        by_cases g3 : B.Bc < 60
        · rw [if_pos g3, if_pos (show (sS f B).Bc < 60 from g3)]; rfl
        · rw [if_neg g3, if_neg (show ¬ (sS f B).Bc < 60 from g3)]; rfl
      · rw [if_neg g2, if_neg (show ¬ (sS f B).bag (s - 1) ≤ (sS f B).cnt b from g2)]; rfl
    · rw [if_neg g1, if_neg g1]; rfl
theorem pm_sS {A : VA} {b s : Nat} {f : Nat → Nat → Nat} {B : VB} : pm A b s (sS f B) = pm A b s B := rfl
theorem BOK.kMis {V n : Nat} {B : VB} (hb : BOK V n B) {b : Nat} : BOK V n (uMis b B) :=
  BOK.mk hb.L hb.T hb.Bc hb.R hb.rcp hb.cond hb.cnt hb.st hb.sl hb.sl0 hb.bver hb.blot hb.left hb.out0
theorem BOK.kPh {V n : Nat} {A : VA} {B : VB} (hb : BOK V n B) {b s : Nat} (h5 : b < 5) (hs : s ≤ V) : BOK V n (ph A b s B) := by
  unfold ph
  split
  · exact hb
  · split
    · split
      · split
        · rename_i g0 g1 g2 g3
          exact hb.kBake h5 (by omega) g2 g3
        · exact hb.kMis
      · exact hb.kMis
    · exact hb.kMis
theorem BOK.kS {V n : Nat} {B : VB} (hb : BOK V n B) {f : Nat → Nat → Nat} (hf : ∀ c h, f c h = 0 ∨ f c h = B.sl c h) : BOK V n (sS f B) :=
  (BOK.mk hb.L hb.T hb.Bc hb.R hb.rcp hb.cond hb.cnt hb.st ( fun c hc i hi => by
    show f c i ≤ V
    have := hb.sl c hc i hi
    rcases hf c i with q | q <;> omega) ( fun c hc i hi => by
    show f c i = 0
    have := hb.sl0 c hc i hi
    rcases hf c i with q | q <;> omega) hb.bver hb.blot hb.left hb.out0)
theorem QX.kMis {V : Nat} {B : VB} {M : zMem} (hx : QX V B M) {b : Nat} : QX V (uMis b B) (zsI M 52 b (nI (B.mis b + 1))) :=
  (QX.mk (by simp (disch := omega) only [zsI_n, zsI_s, pk_un, zsL_1, zsI_2]; exact hx.rcp) (by simp (disch := omega) only [zsI_n, zsI_s, pk_un, zsL_1, zsI_2]; exact hx.bag) (by simp (disch := omega) only [zsI_n, zsI_s, pk_un, zsL_1, zsI_2]; exact hx.loa) (by simp (disch := omega) only [zsI_n, zsI_s, pk_un, zsL_1, zsI_2]; exact hx.L) (by simp (disch := omega) only [zsI_n, zsI_s, pk_un, zsL_1, zsI_2]; exact hx.cb) (fun c hc i hi => by simp (disch := omega) only [zsI_n, zsI_s, pk_un, zsL_1, zsI_2]; exact hx.st c hc i hi) (by simp (disch := omega) only [zsI_n, zsI_s, pk_un, zsL_1, zsI_2]; exact hx.cnt) (by simp (disch := omega) only [zsI_n, zsI_s, pk_un, zsL_1, zsI_2]; exact hx.T) (fun c hc i h1 h2 => by simp (disch := omega) only [zsI_n, zsI_s, pk_un, zsL_1, zsI_2]; exact hx.sl c hc i h1 h2) ( fun c hc => by
    show _ = nI (fu B.mis b (B.mis b + 1) c)
    rw [zsI_s]
    by_cases e : c = b
    · subst e; rw [pk_us, fu_s]
    · rw [pk_un e, fu_n e]; exact hx.mis c hc) (by simp (disch := omega) only [zsI_n, zsI_s, pk_un, zsL_1, zsI_2]; exact hx.Bc) (by simp (disch := omega) only [zsI_n, zsI_s, pk_un, zsL_1, zsI_2]; exact hx.bver) (by simp (disch := omega) only [zsI_n, zsI_s, pk_un, zsL_1, zsI_2]; exact hx.blot) (by simp (disch := omega) only [zsI_n, zsI_s, pk_un, zsL_1, zsI_2]; exact hx.left) (by simp (disch := omega) only [zsI_n, zsI_s, pk_un, zsL_1, zsI_2]; exact hx.out) (by simp (disch := omega) only [zsI_n, zsI_s, pk_un, zsL_1, zsI_2]; exact hx.R) (by simp (disch := omega) only [zsI_n, zsI_s, pk_un, zsL_1, zsI_2]; exact hx.rb) (by simp (disch := omega) only [zsI_n, zsI_s, pk_un, zsL_1, zsI_2]; exact hx.rl) (by simp (disch := omega) only [zsI_n, zsI_s, pk_un, zsL_1, zsI_2]; exact hx.rr))
theorem QF.kMis {V : Nat} {B : VB} {M : zMem} (hx : QF V B M) {b : Nat} : QF V (uMis b B) (zsI M 79 b (nI (B.mis b + 1))) :=
  (QF.mk (by simp (disch := omega) only [zsI_n, zsI_s, pk_un, zsL_1, zsI_2]; exact hx.T) (by simp (disch := omega) only [zsI_n, zsI_s, pk_un, zsL_1, zsI_2]; exact hx.L) (by simp (disch := omega) only [zsI_n, zsI_s, pk_un, zsL_1, zsI_2]; exact hx.Bc) (by simp (disch := omega) only [zsI_n, zsI_s, pk_un, zsL_1, zsI_2]; exact hx.R) (by simp (disch := omega) only [zsI_n, zsI_s, pk_un, zsL_1, zsI_2]; exact hx.rcp) (by simp (disch := omega) only [zsI_n, zsI_s, pk_un, zsL_1, zsI_2]; exact hx.bag) (by simp (disch := omega) only [zsI_n, zsI_s, pk_un, zsL_1, zsI_2]; exact hx.loa) (by simp (disch := omega) only [zsI_n, zsI_s, pk_un, zsL_1, zsI_2]; exact hx.sl) (by simp (disch := omega) only [zsI_n, zsI_s, pk_un, zsL_1, zsI_2]; exact hx.cond) (by simp (disch := omega) only [zsI_n, zsI_s, pk_un, zsL_1, zsI_2]; exact hx.st) (by simp (disch := omega) only [zsI_n, zsI_s, pk_un, zsL_1, zsI_2]; exact hx.cnt) ( fun c hc => by
    show _ = nI (fu B.mis b (B.mis b + 1) c)
    rw [zsI_s]
    by_cases e : c = b
    · subst e; rw [pk_us, fu_s]
    · rw [pk_un e, fu_n e]; exact hx.mis c hc) (by simp (disch := omega) only [zsI_n, zsI_s, pk_un, zsL_1, zsI_2]; exact hx.bver) (by simp (disch := omega) only [zsI_n, zsI_s, pk_un, zsL_1, zsI_2]; exact hx.blot) (by simp (disch := omega) only [zsI_n, zsI_s, pk_un, zsL_1, zsI_2]; exact hx.left) (by simp (disch := omega) only [zsI_n, zsI_s, pk_un, zsL_1, zsI_2]; exact hx.out) (by simp (disch := omega) only [zsI_n, zsI_s, pk_un, zsL_1, zsI_2]; exact hx.rb) (by simp (disch := omega) only [zsI_n, zsI_s, pk_un, zsL_1, zsI_2]; exact hx.rl) (by simp (disch := omega) only [zsI_n, zsI_s, pk_un, zsL_1, zsI_2]; exact hx.rr))
theorem x_can (N : Nat) {A : VA} {B : VB} {M : zMem} (ha : QA 1 A M) (hx : QX A.V B M) (hk : AOK A) {n0 : Nat} (hb : BOK A.V n0 B) {b v : Nat} (h5 : b < 5) (hv : v < A.V) : fX7_canBake N (nI b) (nI v) M = some (.inl (if held A v = true then (if B.bag v ≤ B.cnt b then (if B.Bc < 60 then 1 else 0) else 0) else 0), M) := by
  have hV := hk.ver
  have hc := hb.cnt b h5
  have hBc := hb.Bc
  have hg := (hb.rcp v hv).2.2.1
  unfold fX7_canBake
  rw [q_has N _ (by omega), q_zb, ha.held hv]
  cases g : held A v
  · rw [if_pos (by rfl), if_neg (by decide)]
  · rw [if_neg (by decide), if_pos rfl, if_pos (z5 h5), if_pos (z60 (by omega)), nI_clamp (by omega), nI_clamp (by omega), hx.cnt b h5, hx.bag v hv]
    by_cases g1 : B.bag v ≤ B.cnt b
    · rw [if_neg (nI_nlt (by omega) (by omega)), if_pos g1, hx.Bc]
      by_cases g2 : B.Bc < 60
      · rw [if_neg (show ¬ (60 : Int32) ≤ nI B.Bc from nI_ge (b := 60) g2 (by decide)), if_pos g2]
      · rw [if_pos (show (60 : Int32) ≤ nI B.Bc from nI_le (a := 60) (by omega) (by omega)), if_neg g2]
    · rw [if_pos (nI_lt (by omega) (by omega)), if_neg g1]
/-- one slot of the class, up to the clearing -/
theorem x_one (N : Nat) (hN : 300 ≤ N) {A : VA} {B : VB} {M : zMem} (ha : QA 1 A M) (hx : QX A.V B M) (hk : AOK A) {n0 : Nat} (hb : BOK A.V n0 B) {b v : Nat} (h5 : b < 5) (hv : v < A.V) {again : Int32 → Int32 → zMem → zRES} {t : Nat} : ∃ M', (zb (fX7_canBake N (nI b) (nI v) M) fun r6 M7 =>
      if r6 = 0 then
        if zin (nI b) 5 = true then
        if zin (nI b) 5 = true then
        zl (zsI M7 52 (nI b).toNatClampNeg ((M7.1 52 (nI b).toNatClampNeg) + 1)) fun M11 =>
        fX7_passHour_B64 N again (nI t) (nI b) M11
        else none
        else none
      else
        zb (fX7_bake N (nI b) (nI v) M7) fun r12 M13 =>
        fX7_passHour_B64 N again (nI t + 1) (nI b) M13) = fX7_passHour_B64 N again (nI (t + pm A b (v + 1) B)) (nI b) M' ∧ QX A.V (ph A b (v + 1) B) M' ∧ zxf M M' := by
  have hV := hk.ver
  rw [x_can N ha hx hk hb h5 hv, q_zb]
  have mis : ph A b (v + 1) B = uMis b B → pm A b (v + 1) B = 0 → ∃ M', (if (0 : Int32) = 0 then
        if zin (nI b) 5 = true then
        if zin (nI b) 5 = true then
        zl (zsI M 52 (nI b).toNatClampNeg ((M.1 52 (nI b).toNatClampNeg) + 1)) fun M11 =>
        fX7_passHour_B64 N again (nI t) (nI b) M11
        else none
        else none
      else
        zb (fX7_bake N (nI b) (nI v) M) fun r12 M13 =>
        fX7_passHour_B64 N again (nI t + 1) (nI b) M13) = fX7_passHour_B64 N again (nI (t + pm A b (v + 1) B)) (nI b) M' ∧ QX A.V (ph A b (v + 1) B) M' ∧ zxf M M' := fun q1 q2 => by
    rw [if_pos rfl]
    simp only [z5 h5, if_true, q_zl]
    rw [nI_clamp (by omega), hx.mis b h5, nI_1, q1, q2, Nat.add_zero]
    exact ⟨_, rfl, hx.kMis, ⟨fun a ha => zsI_n (by omega), rfl⟩⟩
  by_cases g1 : held A v = true
  · rw [if_pos g1]
    by_cases g2 : B.bag v ≤ B.cnt b
    · rw [if_pos g2]
      by_cases g3 : B.Bc < 60
      · rw [if_pos g3, if_neg (by decide)]
        obtain ⟨M1, e1, e2, e3⟩ := x_bake N hN hx hb h5 hv hV g2 g3
        rw [e1, q_zb, nI_1]
        have q1 : ph A b (v + 1) B = bake b v B := by unfold ph; rw [if_neg (by omega), Nat.add_sub_cancel, if_pos g1, if_pos g2, if_pos g3]
        have q2 : pm A b (v + 1) B = 1 := by unfold pm; rw [if_neg (by omega), Nat.add_sub_cancel, if_pos g1, if_pos g2, if_pos g3]
        rw [q1, q2]
        exact ⟨M1, rfl, e2, e3⟩
      · rw [if_neg g3]
        exact mis (by unfold ph; rw [if_neg (by omega), Nat.add_sub_cancel, if_pos g1, if_pos g2, if_neg g3]) (by unfold pm; rw [if_neg (by omega), Nat.add_sub_cancel, if_pos g1, if_pos g2, if_neg g3])
    · rw [if_neg g2]
      exact mis (by unfold ph; rw [if_neg (by omega), Nat.add_sub_cancel, if_pos g1, if_neg g2]) (by unfold pm; rw [if_neg (by omega), Nat.add_sub_cancel, if_pos g1, if_neg g2])
  · rw [if_neg g1]
    exact mis (by unfold ph; rw [if_neg (by omega), Nat.add_sub_cancel, if_neg g1]) (by unfold pm; rw [if_neg (by omega), Nat.add_sub_cancel, if_neg g1])
/-- the slots of hour t, of the first b bakeries, cleared -/
def cl (b t : Nat) (f : Nat → Nat → Nat) : Nat → Nat → Nat := fun c h => if c < b ∧ h = t then 0 else f c h
theorem cl_0 {t : Nat} {f : Nat → Nat → Nat} : cl 0 t f = f := by
  funext c h
  unfold cl
  rw [if_neg (by omega)]
theorem cl_s {b t : Nat} {f : Nat → Nat → Nat} (h : f b t = 0) : cl (b + 1) t f = cl b t f := by
  funext c i
  unfold cl
  by_cases g : c < b ∧ i = t
  · rw [if_pos g, if_pos (by omega)]
  · rw [if_neg g]
    by_cases g2 : c < b + 1 ∧ i = t
    · rw [if_pos g2, show c = b by omega, g2.2, h]
    · rw [if_neg g2]
theorem cl_u {b t : Nat} {f : Nat → Nat → Nat} : (fun c => if c = b then fu (cl b t f b) t 0 else cl b t f c) = cl (b + 1) t f := by
  funext c i
  by_cases e : c = b
  · subst e
    show (if c = c then fu (cl c t f c) t 0 else cl c t f c) i = _
    rw [if_pos rfl, fu_e]
    unfold cl
    by_cases e2 : i = t
    · rw [if_pos e2, if_pos (by omega)]
    · rw [if_neg e2, if_neg (by omega), if_neg (by omega)]
  · show (if c = b then fu (cl b t f b) t 0 else cl b t f c) i = _
    rw [if_neg e]
    unfold cl
    by_cases g : c < b ∧ i = t
    · rw [if_pos g, if_pos (by omega)]
    · rw [if_neg g, if_neg (by omega)]
def hDo (A : VA) : Nat → Nat → VB → VB
  | 0, _, B => B
  | k + 1, b, B => hDo A k (b + 1) (ph A b (B.sl b B.T) B)
def hCt (A : VA) : Nat → Nat → VB → Nat
  | 0, _, _ => 0
  | k + 1, b, B => pm A b (B.sl b B.T) B + hCt A k (b + 1) (ph A b (B.sl b B.T) B)
theorem hDo_T {A : VA} : ∀ k b (B : VB), (hDo A k b B).T = B.T ∧ (hDo A k b B).sl = B.sl := by
  intro k
  induction k with
  | zero => intro b B; exact ⟨rfl, rfl⟩
  | succ k ih => intro b B; have := ih (b + 1) (ph A b (B.sl b B.T) B); rw [ph_T, ph_sl] at this; exact this
theorem BOK.kHDo {V n : Nat} {A : VA} : ∀ k b {B : VB}, BOK V n B → b + k = 5 → BOK V n (hDo A k b B) := by
  intro k
  induction k with
  | zero => intro b B h _; exact h
  | succ k ih =>
    intro b B h q
    have hT := h.T
    exact ih (b + 1) (h.kPh (by omega) (h.sl b (by omega) B.T (by omega))) (by omega)
theorem x_hour (N : Nat) (hN : 300 ≤ N) {A : VA} (hk : AOK A) {n0 : Nat} : ∀ k n b t {B : VB} {M : zMem}, QA 1 A M → QX A.V (sS (cl b B.T B.sl) B) M → BOK A.V n0 B → b + k = 5 → k < n → ∃ M', fX7_passHour_B4 N n (nI t) (nI b) M = some (.inl (nI (t + hCt A k b B)), zsI M' 45 0 (nI (B.T + 1))) ∧ QX A.V (sS (cl 5 B.T B.sl) (hDo A k b B)) M' ∧ zxf M M' := by
  have hV := hk.ver
  intro k
  induction k with
  | zero =>
    intro n b t B M ha hx hb h1 h2
    obtain ⟨n, rfl⟩ : ∃ q, n = q + 1 := ⟨n - 1, by omega⟩
    obtain rfl : b = 5 := by omega
    have eT : M.1 45 0 = nI B.T := hx.T
    rw [fX7_passHour_B4, if_pos (by decide), q_zl, eT, nI_1]
    exact ⟨M, rfl, hx, zxf.refl⟩
  | succ k ih =>
    intro n b t B M ha hx hb h1 h2
    obtain ⟨n, rfl⟩ : ∃ q, n = q + 1 := ⟨n - 1, by omega⟩
    have h5 : b < 5 := by omega
    have hT := hb.T
    have eT : M.1 45 0 = nI B.T := hx.T
    have hs := hb.sl b h5 B.T (by omega)
    have ecl : (sS (cl b B.T B.sl) B).sl b B.T = B.sl b B.T := by
      show cl b B.T B.sl b B.T = _
      unfold cl; rw [if_neg (by omega)]
    have es := x_slot N hx h5 (h := B.T) (Nat.le_refl _) (Nat.le_add_right _ _) hT
    rw [ecl] at es
    have hb1 : BOK A.V n0 (ph A b (B.sl b B.T) B) := hb.kPh h5 hs
    rw [fX7_passHour_B4, if_neg (show ¬ (5 : Int32) ≤ nI b from nI_ge (b := 5) h5 (by decide)), eT, es, q_zb, hDo, hCt]
    by_cases g : B.sl b B.T = 0
    · have q1 : ph A b (B.sl b B.T) B = B := if_pos g
      have q2 : pm A b (B.sl b B.T) B = 0 := if_pos g
      rw [q1, q2, g, if_pos (by decide), Nat.zero_add]
      unfold fX7_passHour_B80
      rw [nI_1]
      exact ih n (b + 1) t ha (by rw [cl_s g]; exact hx) hb (by omega) (by omega)
    · rw [q_pred (by omega), if_neg (q_m1 (by omega))]
      have hbS : BOK A.V n0 (sS (cl b B.T B.sl) B) := hb.kS (fun c h => by unfold cl; split; exact Or.inl rfl; exact Or.inr rfl)
      obtain ⟨M1, e1, e2, e3⟩ := x_one N hN ha hx hk hbS h5 (v := B.sl b B.T - 1) (by omega) (again := fX7_passHour_B4 N n) (t := t)
      rw [e1, Nat.sub_add_cancel (by omega), pm_sS]
      rw [Nat.sub_add_cancel (by omega), ph_sS] at e2
      have eT1 : M1.1 45 0 = nI B.T := by
        have := e2.T
        rw [show (sS (cl b B.T B.sl) (ph A b (B.sl b B.T) B)).T = (ph A b (B.sl b B.T) B).T from rfl, ph_T] at this
        exact this
      unfold fX7_passHour_B64 fX7_passHour_B80
      rw [eT1, x_set N h5 (by omega), q_zb, nI_1]
      have hx2 := e2.uSl (b := b) (h := B.T) (x := 0) (y := -1) (show (ph A b (B.sl b B.T) B).T ≤ 1000 by rw [ph_T]; exact hT) h5 (show (ph A b (B.sl b B.T) B).T ≤ B.T by rw [ph_T]; exact Nat.le_refl _) (show B.T ≤ (ph A b (B.sl b B.T) B).T + 50 by rw [ph_T]; omega) (by decide)
      have hu : uSl b B.T 0 (sS (cl b B.T B.sl) (ph A b (B.sl b B.T) B)) = sS (cl (b + 1) (ph A b (B.sl b B.T) B).T (ph A b (B.sl b B.T) B).sl) (ph A b (B.sl b B.T) B) := by
        rw [ph_T, ph_sl, ← cl_u]; rfl
      rw [hu] at hx2
      have ha2 : QA 1 A (zsI M1 (46 + 1 + b) (B.T % 51) (-1)) := ha.to (fun a h1 h2 => ⟨by rw [zsI_n (by omega), e3.1 a (by omega)], by rw [zsI_2, e3.2]⟩)
      obtain ⟨M2, f1, f2, f3⟩ := ih n (b + 1) (t + pm A b (B.sl b B.T) B) ha2 hx2 hb1 (by omega) (by omega)
      rw [ph_T] at f1 f2
      rw [ph_sl] at f2
      exact ⟨M2, by rw [f1, Nat.add_assoc], f2, ⟨fun a ha => by rw [f3.1 a ha, zsI_n (by omega), e3.1 a ha], by rw [f3.2, zsI_2, e3.2]⟩⟩
def uT (B : VB) : VB := (VB.mk B.L (B.T + 1) B.Bc B.R B.rcp B.bag B.loa B.cond B.cnt B.mis B.st B.sl B.bver B.blot B.left B.out B.rb B.rl B.rr)
theorem BOK.kT {V n : Nat} {B : VB} (hb : BOK V n B) (h : B.T < 1000) : BOK V n (uT B) :=
  (BOK.mk hb.L ( h) hb.Bc hb.R hb.rcp hb.cond hb.cnt hb.st hb.sl ( fun c hc i hi => by
    have hi' : B.T + 1 + 50 < i := hi
    exact hb.sl0 c hc i (by omega)) hb.bver hb.blot hb.left hb.out0)
theorem QX.kT {V n0 : Nat} {B : VB} {M : zMem} (hx : QX V (sS (cl 5 B.T B.sl) B) M) (hb : BOK V n0 B) : QX V (uT B) (zsI M 45 0 (nI (B.T + 1))) :=
  (QX.mk (by simp (disch := omega) only [zsI_n, zsI_s, pk_un, zsL_1, zsI_2]; exact hx.rcp) (by simp (disch := omega) only [zsI_n, zsI_s, pk_un, zsL_1, zsI_2]; exact hx.bag) (by simp (disch := omega) only [zsI_n, zsI_s, pk_un, zsL_1, zsI_2]; exact hx.loa) (by simp (disch := omega) only [zsI_n, zsI_s, pk_un, zsL_1, zsI_2]; exact hx.L) (by simp (disch := omega) only [zsI_n, zsI_s, pk_un, zsL_1, zsI_2]; exact hx.cb) (fun c hc i hi => by simp (disch := omega) only [zsI_n, zsI_s, pk_un, zsL_1, zsI_2]; exact hx.st c hc i hi) (by simp (disch := omega) only [zsI_n, zsI_s, pk_un, zsL_1, zsI_2]; exact hx.cnt) ( by rw [zsI_s, pk_us]; rfl) ( fun c hc i h1 h2 => by
    have h1' : B.T + 1 ≤ i := h1
    have h2' : i ≤ B.T + 1 + 50 := h2
    show _ = nI (B.sl c i) - 1
    rw [zsI_n (by omega)]
    by_cases e : i = B.T + 51
    · have q := hx.sl c hc B.T (Nat.le_refl _) (Nat.le_add_right _ _)
      have q2 : (sS (cl 5 B.T B.sl) B).sl c B.T = 0 := if_pos ⟨hc, rfl⟩
      rw [q2] at q
      rw [hb.sl0 c hc i (by omega), ← q, show i % 51 = B.T % 51 by omega]
    · have q := hx.sl c hc i (show B.T ≤ i by omega) (show i ≤ B.T + 50 by omega)
      have q2 : (sS (cl 5 B.T B.sl) B).sl c i = B.sl c i := if_neg (by omega)
      rw [q2] at q
      exact q) (by simp (disch := omega) only [zsI_n, zsI_s, pk_un, zsL_1, zsI_2]; exact hx.mis) (by simp (disch := omega) only [zsI_n, zsI_s, pk_un, zsL_1, zsI_2]; exact hx.Bc) (by simp (disch := omega) only [zsI_n, zsI_s, pk_un, zsL_1, zsI_2]; exact hx.bver) (by simp (disch := omega) only [zsI_n, zsI_s, pk_un, zsL_1, zsI_2]; exact hx.blot) (by simp (disch := omega) only [zsI_n, zsI_s, pk_un, zsL_1, zsI_2]; exact hx.left) (by simp (disch := omega) only [zsI_n, zsI_s, pk_un, zsL_1, zsI_2]; exact hx.out) (by simp (disch := omega) only [zsI_n, zsI_s, pk_un, zsL_1, zsI_2]; exact hx.R) (by simp (disch := omega) only [zsI_n, zsI_s, pk_un, zsL_1, zsI_2]; exact hx.rb) (by simp (disch := omega) only [zsI_n, zsI_s, pk_un, zsL_1, zsI_2]; exact hx.rl) (by simp (disch := omega) only [zsI_n, zsI_s, pk_un, zsL_1, zsI_2]; exact hx.rr))
def pDo (A : VA) : Nat → VB → VB
  | 0, B => B
  | k + 1, B => pDo A k (uT (hDo A 5 0 B))
def pCt (A : VA) : Nat → VB → Nat
  | 0, _ => 0
  | k + 1, B => hCt A 5 0 B + pCt A k (uT (hDo A 5 0 B))
theorem BOK.kPDo {V n : Nat} {A : VA} : ∀ k {B : VB}, BOK V n B → B.T + k ≤ 1000 → BOK V n (pDo A k B) := by
  intro k
  induction k with
  | zero => intro B h _; exact h
  | succ k ih =>
    intro B h q
    have e := (hDo_T (A := A) 5 0 B).1
    exact ih ((h.kHDo 5 0 (by omega)).kT (by rw [e]; omega)) (show (hDo A 5 0 B).T + 1 + k ≤ 1000 by rw [e]; omega)
theorem x_pass (N : Nat) (hN : 300 ≤ N) {A : VA} (hk : AOK A) {n0 h : Nat} (hh : h ≤ 50) : ∀ k n i t {B : VB} {M : zMem}, QA 1 A M → QX A.V B M → BOK A.V n0 B → i + k = h → B.T + k ≤ 1000 → k < n → ∃ M', fX7_pass_B50 N n (nI h) (nI t) (nI i) M = some (.inl (nI (t + pCt A k B)), M') ∧ QX A.V (pDo A k B) M' ∧ zxf M M' := by
  intro k
  induction k with
  | zero =>
    intro n i t B M ha hx hb h1 h3 h2
    obtain ⟨n, rfl⟩ : ∃ q, n = q + 1 := ⟨n - 1, by omega⟩
    rw [fX7_pass_B50, if_pos (nI_le (by omega) (by omega))]
    exact ⟨M, rfl, hx, zxf.refl⟩
  | succ k ih =>
    intro n i t B M ha hx hb h1 h3 h2
    obtain ⟨n, rfl⟩ : ∃ q, n = q + 1 := ⟨n - 1, by omega⟩
    have e := hDo_T (A := A) 5 0 B
    have hb5 : BOK A.V n0 (hDo A 5 0 B) := hb.kHDo 5 0 (by omega)
    obtain ⟨M1, e1, e2, e3⟩ := x_hour N hN hk (n0 := n0) 5 N 0 0 (B := B) (M := M) ha (by rw [cl_0]; exact hx) hb (by omega) (by omega)
    rw [nI_0, Nat.zero_add] at e1
    rw [fX7_pass_B50, if_neg (nI_ge (by omega) (by omega))]
    unfold fX7_passHour
    rw [e1, q_zb, nI_add, q_zv, nI_1]
    have hx2 : QX A.V (uT (hDo A 5 0 B)) (zsI M1 45 0 (nI (B.T + 1))) := by
      have q := QX.kT (B := hDo A 5 0 B) (M := M1) (by rw [e.1, e.2]; exact e2) hb5
      rw [e.1] at q
      exact q
    have fr : zxf M (zsI M1 45 0 (nI (B.T + 1))) := ⟨fun a ha => by rw [zsI_n (by omega), e3.1 a ha], by rw [zsI_2, e3.2]⟩
    obtain ⟨M2, f1, f2, f3⟩ := ih n (i + 1) (t + hCt A 5 0 B) (ha.to (fr.to (by omega))) hx2 (hb5.kT (by rw [e.1]; omega)) (by omega) (show (hDo A 5 0 B).T + 1 + k ≤ 1000 by rw [e.1]; omega) (by omega)
    exact ⟨M2, by rw [f1, pCt, Nat.add_assoc], f2, fr.trans f3⟩
