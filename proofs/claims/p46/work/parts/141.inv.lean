/-! p46: what the batches and recalls always are; the law's own invariants of the agreement -/
theorem RX46.kCb {V n : Nat} {B : VB} (h : RX46 B) (hb : BOK V n B) {i w : Nat} (hi : i < B.Bc) (hw : w = 1 ∨ w = 2) : RX46 (uCb i w B) := by
  have hl := hb.left i hi
  unfold uCb
  by_cases g : B.out i = 0
  · rw [if_pos g]; exact h
  · rw [if_neg g]
    refine ⟨h.1, fun k hk => ?_⟩
    have hk' : k < B.R + 1 := hk
    show 1 ≤ fu B.rl B.R (B.out i) k ∧ fu B.rl B.R (B.out i) k ≤ 40 ∧ (fu B.rr B.R w k = 1 ∨ fu B.rr B.R w k = 2) ∧ fu B.rb B.R i k < B.Bc
    by_cases e : k = B.R
    · subst e
      rw [fu_s, fu_s, fu_s]
      exact ⟨by omega, by omega, hw, hi⟩
    · rw [fu_n e, fu_n e, fu_n e]
      exact h.2 k (by omega)
theorem RX46.kCbV {V n v : Nat} : ∀ k i {B : VB}, RX46 B → BOK V n B → i + k = B.Bc → RX46 (uCbV v k i B) := by
  intro k
  induction k with
  | zero => intro i B h _ _; exact h
  | succ k ih =>
    intro i B h hb q
    have q0 : i < B.Bc := by omega
    rw [uCbV]
    split
    · exact ih (i + 1) (h.kCb hb q0 (Or.inl rfl)) (hb.kCb q0) (by rw [uCb_Bc]; omega)
    · exact ih (i + 1) h hb (by omega)
theorem RX46.kCbU {V n : Nat} {lost : Nat → Bool} : ∀ k v {B : VB}, RX46 B → BOK V n B → RX46 (uCbU lost k v B) := by
  intro k
  induction k with
  | zero => intro v B h _; exact h
  | succ k ih =>
    intro v B h hb
    rw [uCbU]
    split
    · exact ih (v + 1) (h.kCbV _ _ hb (by omega)) (hb.kCbV _ _ (by omega))
    · exact ih (v + 1) h hb
theorem RX46.kCbL {V n l : Nat} : ∀ k i {B : VB}, RX46 B → BOK V n B → i + k = B.Bc → RX46 (uCbL l k i B) := by
  intro k
  induction k with
  | zero => intro i B h _ _; exact h
  | succ k ih =>
    intro i B h hb q
    have q0 : i < B.Bc := by omega
    rw [uCbL]
    split
    · exact ih (i + 1) (h.kCb hb q0 (Or.inr rfl)) (hb.kCb q0) (by rw [uCb_Bc]; omega)
    · exact ih (i + 1) h hb (by omega)
theorem uCb_L {i w : Nat} {B : VB} : (uCb i w B).L = B.L := by unfold uCb; split <;> rfl
theorem uCb_cond {i w : Nat} {B : VB} : (uCb i w B).cond = B.cond := by unfold uCb; split <;> rfl
theorem uCbV_L {v : Nat} : ∀ k i B, (uCbV v k i B).L = B.L := by
  intro k
  induction k with
  | zero => intro i B; rfl
  | succ k ih =>
    intro i B
    rw [uCbV, ih]
    split
    · exact uCb_L
    · rfl
theorem uCbU_L {lost : Nat → Bool} : ∀ k v B, (uCbU lost k v B).L = B.L := by
  intro k
  induction k with
  | zero => intro v B; rfl
  | succ k ih =>
    intro v B
    rw [uCbU, ih]
    split
    · exact uCbV_L _ _ _
    · rfl
theorem uCbL_L {l : Nat} : ∀ k i B, (uCbL l k i B).L = B.L ∧ (uCbL l k i B).cond = B.cond := by
  intro k
  induction k with
  | zero => intro i B; exact ⟨rfl, rfl⟩
  | succ k ih =>
    intro i B
    rw [uCbL]
    split
    · rw [(ih _ _).1, (ih _ _).2]; exact ⟨uCb_L, uCb_cond⟩
    · exact ih _ _
theorem thr_e {l : Nat} : ∀ k b B, (thr l k b B).L = B.L ∧ (thr l k b B).cond = B.cond ∧ (RX46 B → RX46 (thr l k b B)) := by
  intro k
  induction k with
  | zero => intro b B; exact ⟨rfl, rfl, fun h => h⟩
  | succ k ih =>
    intro b B
    rw [thr]
    obtain ⟨h1, h2, h3⟩ := ih (b + 1) (thr1 l b B)
    exact ⟨h1.trans rfl, h2.trans rfl, fun h => h3 h⟩
theorem lor_ge {f : Nat → Nat} : ∀ k, 1 ≤ k → 1 ≤ lor f k := by
  intro k hk
  obtain ⟨j, rfl⟩ : ∃ j, k = j + 1 := ⟨k - 1, by omega⟩
  show 1 ≤ lor f j ||| 2 ^ f j
  have h1 : 2 ^ f j ≤ lor f j ||| 2 ^ f j := Nat.right_le_or
  have h2 : 1 ≤ 2 ^ f j := Nat.one_le_two_pow
  omega
theorem RX46.kBake {V n : Nat} {B : VB} (h : RX46 B) (hb : BOK V n B) {b v : Nat} (hv : v < V) : RX46 (bake b v B) := by
  have hg := (hb.rcp v hv).2.1
  refine ⟨fun i hi => ?_, fun k hk => ?_⟩
  · have hi' : i < B.Bc + 1 := hi
    show 1 ≤ fu B.blot B.Bc (lor (B.st b) (B.bag v)) i
    by_cases e : i = B.Bc
    · subst e; rw [fu_s]; exact lor_ge _ hg
    · rw [fu_n e]; exact h.1 i (by omega)
  · have q := h.2 k hk
    exact ⟨q.1, q.2.1, q.2.2.1, Nat.lt_succ_of_lt q.2.2.2⟩
theorem RX46.kPh {V n : Nat} {A : VA} {B : VB} (h : RX46 B) (hb : BOK V n B) {b s : Nat} (hs : s ≤ V) : RX46 (ph A b s B) := by
  unfold ph
  split
  · exact h
  · split
    · split
      · split
        · exact h.kBake hb (by omega)
        · exact h
      · exact h
    · exact h
theorem ph_L {A : VA} {b s : Nat} {B : VB} : (ph A b s B).L = B.L := by unfold ph; split; rfl; split; split; split; all_goals rfl
theorem ph_Bc {A : VA} {b s : Nat} {B : VB} : (ph A b s B).Bc = B.Bc + pm A b s B := by
  unfold ph pm
  split
  · rfl
  · split
    · split
      · split
        · rfl
        · rfl
      · rfl
    · rfl
theorem hDo_e {A : VA} : ∀ k b B, (hDo A k b B).L = B.L ∧ (hDo A k b B).Bc = B.Bc + hCt A k b B := by
  intro k
  induction k with
  | zero => intro b B; exact ⟨rfl, rfl⟩
  | succ k ih =>
    intro b B
    rw [hDo, hCt]
    obtain ⟨h1, h2⟩ := ih (b + 1) (ph A b (B.sl b B.T) B)
    exact ⟨h1.trans ph_L, by rw [h2, ph_Bc]; omega⟩
theorem uT_e {B : VB} : (uT B).L = B.L ∧ (uT B).Bc = B.Bc := ⟨rfl, rfl⟩
theorem RX46.kT {B : VB} (h : RX46 B) : RX46 (uT B) := h
theorem pDo_e {A : VA} : ∀ k B, (pDo A k B).L = B.L ∧ (pDo A k B).Bc = B.Bc + pCt A k B := by
  intro k
  induction k with
  | zero => intro B; exact ⟨rfl, rfl⟩
  | succ k ih =>
    intro B
    rw [pDo, pCt]
    obtain ⟨h1, h2⟩ := ih (uT (hDo A 5 0 B))
    obtain ⟨h3, h4⟩ := hDo_e (A := A) 5 0 B
    rw [h1, h2, uT_e.1, uT_e.2, h3, h4]
    exact ⟨rfl, Nat.add_assoc _ _ _⟩
theorem RX46.kHDo {V n : Nat} {A : VA} : ∀ k b {B : VB}, RX46 B → BOK V n B → b + k = 5 → RX46 (hDo A k b B) := by
  intro k
  induction k with
  | zero => intro b B h _ _; exact h
  | succ k ih =>
    intro b B h hb q
    have h5 : b < 5 := by omega
    have hT := hb.T
    have hs := hb.sl b h5 B.T (by omega)
    exact ih (b + 1) (h.kPh hb hs) (hb.kPh h5 hs) (by omega)
theorem RX46.kPDo {V n : Nat} {A : VA} : ∀ k {B : VB}, RX46 B → BOK V n B → B.T + k ≤ 1000 → RX46 (pDo A k B) := by
  intro k
  induction k with
  | zero => intro B h _ _; exact h
  | succ k ih =>
    intro B h hb q
    have e := (hDo_T (A := A) 5 0 B).1
    have h1 : RX46 (hDo A 5 0 B) := h.kHDo 5 0 hb (by omega)
    have h2 : BOK V n (hDo A 5 0 B) := hb.kHDo 5 0 (by omega)
    have h3 : BOK V n (uT (hDo A 5 0 B)) := h2.kT (by rw [e]; omega)
    rw [pDo]
    exact ih h1.kT h3 (show (hDo A 5 0 B).T + 1 + k ≤ 1000 by rw [e]; omega)
