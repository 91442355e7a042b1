/-! pure: the abstract state, and what the cells say of it -/
def fu (f : Nat → Nat) (b x : Nat) : Nat → Nat := fun j => if j = b then x else f j
theorem fu_s {f : Nat → Nat} {b x : Nat} : fu f b x b = x := if_pos rfl
theorem fu_n {f : Nat → Nat} {b x j : Nat} (h : j ≠ b) : fu f b x j = f j := if_neg h
theorem fu_e {f : Nat → Nat} {b x j : Nat} : fu f b x j = if j = b then x else f j := rfl
/-- the agreement: group, versions; per bakery term, role, vote (0 none), supporters, length of log; per version term, ever held; log rows -/
def VA : Type := (Nat) × (Nat) × (Nat → Nat) × (Nat → Nat) × (Nat → Nat) × (Nat → Nat) × (Nat → Nat) × (Nat → Nat) × (Nat → Bool) × (Nat → Nat → Nat)
def VA.mk (x0 : Nat) (x1 : Nat) (x2 : Nat → Nat) (x3 : Nat → Nat) (x4 : Nat → Nat) (x5 : Nat → Nat) (x6 : Nat → Nat) (x7 : Nat → Nat) (x8 : Nat → Bool) (x9 : Nat → Nat → Nat) : VA := (x0, x1, x2, x3, x4, x5, x6, x7, x8, x9)
def VA.grp (A : VA) : Nat := A.1
def VA.V (A : VA) : Nat := A.2.1
def VA.term (A : VA) : Nat → Nat := A.2.2.1
def VA.role (A : VA) : Nat → Nat := A.2.2.2.1
def VA.vote (A : VA) : Nat → Nat := A.2.2.2.2.1
def VA.sup (A : VA) : Nat → Nat := A.2.2.2.2.2.1
def VA.len (A : VA) : Nat → Nat := A.2.2.2.2.2.2.1
def VA.vt (A : VA) : Nat → Nat := A.2.2.2.2.2.2.2.1
def VA.ev (A : VA) : Nat → Bool := A.2.2.2.2.2.2.2.2.1
def VA.log (A : VA) : Nat → Nat → Nat := A.2.2.2.2.2.2.2.2.2
theorem VA.mk_grp {x0 : Nat} {x1 : Nat} {x2 : Nat → Nat} {x3 : Nat → Nat} {x4 : Nat → Nat} {x5 : Nat → Nat} {x6 : Nat → Nat} {x7 : Nat → Nat} {x8 : Nat → Bool} {x9 : Nat → Nat → Nat} : (VA.mk x0 x1 x2 x3 x4 x5 x6 x7 x8 x9).grp = x0 := rfl
theorem VA.mk_V {x0 : Nat} {x1 : Nat} {x2 : Nat → Nat} {x3 : Nat → Nat} {x4 : Nat → Nat} {x5 : Nat → Nat} {x6 : Nat → Nat} {x7 : Nat → Nat} {x8 : Nat → Bool} {x9 : Nat → Nat → Nat} : (VA.mk x0 x1 x2 x3 x4 x5 x6 x7 x8 x9).V = x1 := rfl
theorem VA.mk_term {x0 : Nat} {x1 : Nat} {x2 : Nat → Nat} {x3 : Nat → Nat} {x4 : Nat → Nat} {x5 : Nat → Nat} {x6 : Nat → Nat} {x7 : Nat → Nat} {x8 : Nat → Bool} {x9 : Nat → Nat → Nat} : (VA.mk x0 x1 x2 x3 x4 x5 x6 x7 x8 x9).term = x2 := rfl
theorem VA.mk_role {x0 : Nat} {x1 : Nat} {x2 : Nat → Nat} {x3 : Nat → Nat} {x4 : Nat → Nat} {x5 : Nat → Nat} {x6 : Nat → Nat} {x7 : Nat → Nat} {x8 : Nat → Bool} {x9 : Nat → Nat → Nat} : (VA.mk x0 x1 x2 x3 x4 x5 x6 x7 x8 x9).role = x3 := rfl
theorem VA.mk_vote {x0 : Nat} {x1 : Nat} {x2 : Nat → Nat} {x3 : Nat → Nat} {x4 : Nat → Nat} {x5 : Nat → Nat} {x6 : Nat → Nat} {x7 : Nat → Nat} {x8 : Nat → Bool} {x9 : Nat → Nat → Nat} : (VA.mk x0 x1 x2 x3 x4 x5 x6 x7 x8 x9).vote = x4 := rfl
theorem VA.mk_sup {x0 : Nat} {x1 : Nat} {x2 : Nat → Nat} {x3 : Nat → Nat} {x4 : Nat → Nat} {x5 : Nat → Nat} {x6 : Nat → Nat} {x7 : Nat → Nat} {x8 : Nat → Bool} {x9 : Nat → Nat → Nat} : (VA.mk x0 x1 x2 x3 x4 x5 x6 x7 x8 x9).sup = x5 := rfl
theorem VA.mk_len {x0 : Nat} {x1 : Nat} {x2 : Nat → Nat} {x3 : Nat → Nat} {x4 : Nat → Nat} {x5 : Nat → Nat} {x6 : Nat → Nat} {x7 : Nat → Nat} {x8 : Nat → Bool} {x9 : Nat → Nat → Nat} : (VA.mk x0 x1 x2 x3 x4 x5 x6 x7 x8 x9).len = x6 := rfl
theorem VA.mk_vt {x0 : Nat} {x1 : Nat} {x2 : Nat → Nat} {x3 : Nat → Nat} {x4 : Nat → Nat} {x5 : Nat → Nat} {x6 : Nat → Nat} {x7 : Nat → Nat} {x8 : Nat → Bool} {x9 : Nat → Nat → Nat} : (VA.mk x0 x1 x2 x3 x4 x5 x6 x7 x8 x9).vt = x7 := rfl
theorem VA.mk_ev {x0 : Nat} {x1 : Nat} {x2 : Nat → Nat} {x3 : Nat → Nat} {x4 : Nat → Nat} {x5 : Nat → Nat} {x6 : Nat → Nat} {x7 : Nat → Nat} {x8 : Nat → Bool} {x9 : Nat → Nat → Nat} : (VA.mk x0 x1 x2 x3 x4 x5 x6 x7 x8 x9).ev = x8 := rfl
theorem VA.mk_log {x0 : Nat} {x1 : Nat} {x2 : Nat → Nat} {x3 : Nat → Nat} {x4 : Nat → Nat} {x5 : Nat → Nat} {x6 : Nat → Nat} {x7 : Nat → Nat} {x8 : Nat → Bool} {x9 : Nat → Nat → Nat} : (VA.mk x0 x1 x2 x3 x4 x5 x6 x7 x8 x9).log = x9 := rfl
def A0 : VA := VA.mk 0 0 (fun _ => 0) (fun _ => 0) (fun _ => 0) (fun _ => 0) (fun _ => 0) (fun _ => 0) (fun _ => false) (fun _ _ => 0)
def hasb (A : VA) (b v : Nat) : Bool := (List.range (A.len b)).any (fun i => decide (A.log b i = v))
theorem hasb_iff {A : VA} {b v : Nat} : hasb A b v = true ↔ ∃ i, i < A.len b ∧ A.log b i = v := by
  simp only [hasb, List.any_eq_true, List.mem_range, decide_eq_true_eq]
def mk5 (a b c d e : Bool) : Nat := a.toNat + 2 * b.toNat + 4 * c.toNat + 8 * d.toNat + 16 * e.toNat
theorem mk5_lt (a b c d e : Bool) : mk5 a b c d e < 32 := by revert a b c d e; decide
theorem mk5_0 (a b c d e : Bool) : (mk5 a b c d e).testBit 0 = a := by revert a b c d e; decide
theorem mk5_1 (a b c d e : Bool) : (mk5 a b c d e).testBit 1 = b := by revert a b c d e; decide
theorem mk5_2 (a b c d e : Bool) : (mk5 a b c d e).testBit 2 = c := by revert a b c d e; decide
theorem mk5_3 (a b c d e : Bool) : (mk5 a b c d e).testBit 3 = d := by revert a b c d e; decide
theorem mk5_4 (a b c d e : Bool) : (mk5 a b c d e).testBit 4 = e := by revert a b c d e; decide
/-- the bakeries in whose log v lies -/
def hset (A : VA) (v : Nat) : Nat := mk5 (hasb A 0 v) (hasb A 1 v) (hasb A 2 v) (hasb A 3 v) (hasb A 4 v)
theorem hset_lt {A : VA} {v : Nat} : hset A v < 32 := mk5_lt _ _ _ _ _
theorem five {P : Nat → Prop} (h0 : P 0) (h1 : P 1) (h2 : P 2) (h3 : P 3) (h4 : P 4) : ∀ b, b < 5 → P b := by
  intro b hb
  match b, hb with
  | 0, _ => exact h0
  | 1, _ => exact h1
  | 2, _ => exact h2
  | 3, _ => exact h3
  | 4, _ => exact h4
theorem hset_b {A : VA} {v : Nat} : ∀ b, b < 5 → (hset A v).testBit b = hasb A b v := five (mk5_0 _ _ _ _ _) (mk5_1 _ _ _ _ _) (mk5_2 _ _ _ _ _) (mk5_3 _ _ _ _ _) (mk5_4 _ _ _ _ _)
def held (A : VA) (v : Nat) : Bool := decide (3 ≤ p5 (hset A v))
theorem p5_0 : p5 0 = 0 := by decide
theorem p5_le (s : Nat) : p5 s ≤ 5 := by
  unfold p5
  have := Bool.toNat_le (s.testBit 0); have := Bool.toNat_le (s.testBit 1); have := Bool.toNat_le (s.testBit 2); have := Bool.toNat_le (s.testBit 3); have := Bool.toNat_le (s.testBit 4)
  omega
theorem p5_mono {s t : Nat} (h : ∀ b, b < 5 → s.testBit b = true → t.testBit b = true) : p5 s ≤ p5 t := by
  unfold p5
  have k : ∀ b, b < 5 → (s.testBit b).toNat ≤ (t.testBit b).toNat := by
    intro b hb
    cases hs : s.testBit b
    · exact Nat.zero_le _
    · rw [h b hb hs]; exact Nat.le_refl _
  have := k 0 (by decide); have := k 1 (by decide); have := k 2 (by decide); have := k 3 (by decide); have := k 4 (by decide)
  omega
theorem held_some {A : VA} {v : Nat} (h : held A v = true) : ∃ b, b < 5 ∧ hasb A b v = true := by
  refine Classical.byContradiction fun hn => ?_
  have z : hset A v = 0 := q_ext5 hset_lt (by decide) (fun b hb => by
    rw [hset_b b hb, Nat.zero_testBit]
    cases hc : hasb A b v
    · rfl
    · exact absurd ⟨b, hb, hc⟩ hn)
  unfold held at h
  rw [z] at h
  exact absurd h (by decide)
/-- what always holds of an agreement -/
def AOK (A : VA) : Prop := (A.grp < 32) ∧ (∀ b, b < 5 → A.term b ≤ 100) ∧ (∀ b, b < 5 → A.role b ≤ 2) ∧ (∀ b, b < 5 → A.role b ≠ 0 → 1 ≤ A.term b) ∧ (∀ b, b < 5 → A.vote b ≤ 5) ∧ (∀ b, b < 5 → A.role b = 1 → A.sup b < 32 ∧ p5 (A.sup b) < 3) ∧ (∀ b, b < 5 → A.len b ≤ 20) ∧ (A.V ≤ 60) ∧ (∀ v, v < A.V → 1 ≤ A.vt v ∧ A.vt v ≤ 100) ∧ (∀ b, b < 5 → ∀ i, i < A.len b → A.log b i < A.V) ∧ (∀ b, b < 5 → ∀ i j, i < A.len b → j < A.len b → A.log b i = A.log b j → i = j) ∧ (∀ v, held A v = true → A.ev v = true) ∧ (∀ v, A.V ≤ v → A.ev v = false)
theorem AOK.grp {A : VA} (q0 : AOK A) : A.grp < 32 := q0.1
theorem AOK.term {A : VA} (q0 : AOK A) : ∀ b, b < 5 → A.term b ≤ 100 := q0.2.1
theorem AOK.role {A : VA} (q0 : AOK A) : ∀ b, b < 5 → A.role b ≤ 2 := q0.2.2.1
theorem AOK.rt {A : VA} (q0 : AOK A) : ∀ b, b < 5 → A.role b ≠ 0 → 1 ≤ A.term b := q0.2.2.2.1
theorem AOK.vote {A : VA} (q0 : AOK A) : ∀ b, b < 5 → A.vote b ≤ 5 := q0.2.2.2.2.1
theorem AOK.sup {A : VA} (q0 : AOK A) : ∀ b, b < 5 → A.role b = 1 → A.sup b < 32 ∧ p5 (A.sup b) < 3 := q0.2.2.2.2.2.1
theorem AOK.len {A : VA} (q0 : AOK A) : ∀ b, b < 5 → A.len b ≤ 20 := q0.2.2.2.2.2.2.1
theorem AOK.ver {A : VA} (q0 : AOK A) : A.V ≤ 60 := q0.2.2.2.2.2.2.2.1
theorem AOK.vt {A : VA} (q0 : AOK A) : ∀ v, v < A.V → 1 ≤ A.vt v ∧ A.vt v ≤ 100 := q0.2.2.2.2.2.2.2.2.1
theorem AOK.logv {A : VA} (q0 : AOK A) : ∀ b, b < 5 → ∀ i, i < A.len b → A.log b i < A.V := q0.2.2.2.2.2.2.2.2.2.1
theorem AOK.logi {A : VA} (q0 : AOK A) : ∀ b, b < 5 → ∀ i j, i < A.len b → j < A.len b → A.log b i = A.log b j → i = j := q0.2.2.2.2.2.2.2.2.2.2.1
theorem AOK.evh {A : VA} (q0 : AOK A) : ∀ v, held A v = true → A.ev v = true := q0.2.2.2.2.2.2.2.2.2.2.2.1
theorem AOK.ev0 {A : VA} (q0 : AOK A) : ∀ v, A.V ≤ v → A.ev v = false := q0.2.2.2.2.2.2.2.2.2.2.2.2
theorem AOK.mk {A : VA} (h0 : A.grp < 32) (h1 : ∀ b, b < 5 → A.term b ≤ 100) (h2 : ∀ b, b < 5 → A.role b ≤ 2) (h3 : ∀ b, b < 5 → A.role b ≠ 0 → 1 ≤ A.term b) (h4 : ∀ b, b < 5 → A.vote b ≤ 5) (h5 : ∀ b, b < 5 → A.role b = 1 → A.sup b < 32 ∧ p5 (A.sup b) < 3) (h6 : ∀ b, b < 5 → A.len b ≤ 20) (h7 : A.V ≤ 60) (h8 : ∀ v, v < A.V → 1 ≤ A.vt v ∧ A.vt v ≤ 100) (h9 : ∀ b, b < 5 → ∀ i, i < A.len b → A.log b i < A.V) (h10 : ∀ b, b < 5 → ∀ i j, i < A.len b → j < A.len b → A.log b i = A.log b j → i = j) (h11 : ∀ v, held A v = true → A.ev v = true) (h12 : ∀ v, A.V ≤ v → A.ev v = false) : AOK A := ⟨h0, h1, h2, h3, h4, h5, h6, h7, h8, h9, h10, h11, h12⟩
/-- holder sets, the held and the ever held of the Agreement at o -/
def QS (o V : Nat) (h : Nat → Nat) (ev : Nat → Bool) (M : zMem) : Prop := (∀ v, v < V → M.1 (o + 13) v = nI (h v)) ∧ (∀ v, v < V → lbit (M.2 o 10) v = decide (3 ≤ p5 (h v))) ∧ (∀ v, v < 60 → lbit (M.2 o 11) v = ev v)
theorem QS.hs {o V : Nat} {h : Nat → Nat} {ev : Nat → Bool} {M : zMem} (q0 : QS o V h ev M) : ∀ v, v < V → M.1 (o + 13) v = nI (h v) := q0.1
theorem QS.hd {o V : Nat} {h : Nat → Nat} {ev : Nat → Bool} {M : zMem} (q0 : QS o V h ev M) : ∀ v, v < V → lbit (M.2 o 10) v = decide (3 ≤ p5 (h v)) := q0.2.1
theorem QS.ev {o V : Nat} {h : Nat → Nat} {ev : Nat → Bool} {M : zMem} (q0 : QS o V h ev M) : ∀ v, v < 60 → lbit (M.2 o 11) v = ev v := q0.2.2
theorem QS.mk {o V : Nat} {h : Nat → Nat} {ev : Nat → Bool} {M : zMem} (h0 : ∀ v, v < V → M.1 (o + 13) v = nI (h v)) (h1 : ∀ v, v < V → lbit (M.2 o 10) v = decide (3 ≤ p5 (h v))) (h2 : ∀ v, v < 60 → lbit (M.2 o 11) v = ev v) : QS o V h ev M := ⟨h0, h1, h2⟩
/-- what the cells of the Agreement at o say, but the holder sets -/
def QL (o : Nat) (A : VA) (M : zMem) : Prop := (M.1 o 0 = nI A.grp) ∧ (M.1 o 7 = nI A.V) ∧ (∀ b, b < 5 → M.1 (o + 1) b = nI (A.term b)) ∧ (∀ b, b < 5 → M.1 (o + 2) b = nI (A.role b)) ∧ (∀ b, b < 5 → M.1 (o + 3) b = nI (A.vote b) - 1) ∧ (∀ b, b < 5 → A.role b = 1 → M.1 (o + 4) b = nI (A.sup b)) ∧ (∀ b, b < 5 → M.1 (o + 11) b = nI (A.len b)) ∧ (∀ v, v < A.V → M.1 (o + 12) v = nI (A.vt v)) ∧ (∀ b, b < 5 → ∀ i, i < A.len b → M.1 (o + 5 + 1 + b) i = nI (A.log b i))
theorem QL.grp {o : Nat} {A : VA} {M : zMem} (q0 : QL o A M) : M.1 o 0 = nI A.grp := q0.1
theorem QL.ver {o : Nat} {A : VA} {M : zMem} (q0 : QL o A M) : M.1 o 7 = nI A.V := q0.2.1
theorem QL.trm {o : Nat} {A : VA} {M : zMem} (q0 : QL o A M) : ∀ b, b < 5 → M.1 (o + 1) b = nI (A.term b) := q0.2.2.1
theorem QL.rol {o : Nat} {A : VA} {M : zMem} (q0 : QL o A M) : ∀ b, b < 5 → M.1 (o + 2) b = nI (A.role b) := q0.2.2.2.1
theorem QL.vot {o : Nat} {A : VA} {M : zMem} (q0 : QL o A M) : ∀ b, b < 5 → M.1 (o + 3) b = nI (A.vote b) - 1 := q0.2.2.2.2.1
theorem QL.sup {o : Nat} {A : VA} {M : zMem} (q0 : QL o A M) : ∀ b, b < 5 → A.role b = 1 → M.1 (o + 4) b = nI (A.sup b) := q0.2.2.2.2.2.1
theorem QL.len {o : Nat} {A : VA} {M : zMem} (q0 : QL o A M) : ∀ b, b < 5 → M.1 (o + 11) b = nI (A.len b) := q0.2.2.2.2.2.2.1
theorem QL.vtm {o : Nat} {A : VA} {M : zMem} (q0 : QL o A M) : ∀ v, v < A.V → M.1 (o + 12) v = nI (A.vt v) := q0.2.2.2.2.2.2.2.1
theorem QL.log {o : Nat} {A : VA} {M : zMem} (q0 : QL o A M) : ∀ b, b < 5 → ∀ i, i < A.len b → M.1 (o + 5 + 1 + b) i = nI (A.log b i) := q0.2.2.2.2.2.2.2.2
theorem QL.mk {o : Nat} {A : VA} {M : zMem} (h0 : M.1 o 0 = nI A.grp) (h1 : M.1 o 7 = nI A.V) (h2 : ∀ b, b < 5 → M.1 (o + 1) b = nI (A.term b)) (h3 : ∀ b, b < 5 → M.1 (o + 2) b = nI (A.role b)) (h4 : ∀ b, b < 5 → M.1 (o + 3) b = nI (A.vote b) - 1) (h5 : ∀ b, b < 5 → A.role b = 1 → M.1 (o + 4) b = nI (A.sup b)) (h6 : ∀ b, b < 5 → M.1 (o + 11) b = nI (A.len b)) (h7 : ∀ v, v < A.V → M.1 (o + 12) v = nI (A.vt v)) (h8 : ∀ b, b < 5 → ∀ i, i < A.len b → M.1 (o + 5 + 1 + b) i = nI (A.log b i)) : QL o A M := ⟨h0, h1, h2, h3, h4, h5, h6, h7, h8⟩
def QA (o : Nat) (A : VA) (M : zMem) : Prop := QL o A M ∧ QS o A.V (hset A) A.ev M
/-- the rest -/
def VB : Type := (Nat) × (Nat) × (Nat) × (Nat) × (Nat → Nat) × (Nat → Nat) × (Nat → Nat) × (Nat → Bool) × (Nat → Nat) × (Nat → Nat) × (Nat → Nat → Nat) × (Nat → Nat → Nat) × (Nat → Nat) × (Nat → Nat) × (Nat → Nat) × (Nat → Nat) × (Nat → Nat) × (Nat → Nat) × (Nat → Nat)
def VB.mk (x0 : Nat) (x1 : Nat) (x2 : Nat) (x3 : Nat) (x4 : Nat → Nat) (x5 : Nat → Nat) (x6 : Nat → Nat) (x7 : Nat → Bool) (x8 : Nat → Nat) (x9 : Nat → Nat) (x10 : Nat → Nat → Nat) (x11 : Nat → Nat → Nat) (x12 : Nat → Nat) (x13 : Nat → Nat) (x14 : Nat → Nat) (x15 : Nat → Nat) (x16 : Nat → Nat) (x17 : Nat → Nat) (x18 : Nat → Nat) : VB := (x0, x1, x2, x3, x4, x5, x6, x7, x8, x9, x10, x11, x12, x13, x14, x15, x16, x17, x18)
def VB.L (A : VB) : Nat := A.1
def VB.T (A : VB) : Nat := A.2.1
def VB.Bc (A : VB) : Nat := A.2.2.1
def VB.R (A : VB) : Nat := A.2.2.2.1
def VB.rcp (A : VB) : Nat → Nat := A.2.2.2.2.1
def VB.bag (A : VB) : Nat → Nat := A.2.2.2.2.2.1
def VB.loa (A : VB) : Nat → Nat := A.2.2.2.2.2.2.1
def VB.cond (A : VB) : Nat → Bool := A.2.2.2.2.2.2.2.1
def VB.cnt (A : VB) : Nat → Nat := A.2.2.2.2.2.2.2.2.1
def VB.mis (A : VB) : Nat → Nat := A.2.2.2.2.2.2.2.2.2.1
def VB.st (A : VB) : Nat → Nat → Nat := A.2.2.2.2.2.2.2.2.2.2.1
def VB.sl (A : VB) : Nat → Nat → Nat := A.2.2.2.2.2.2.2.2.2.2.2.1
def VB.bver (A : VB) : Nat → Nat := A.2.2.2.2.2.2.2.2.2.2.2.2.1
def VB.blot (A : VB) : Nat → Nat := A.2.2.2.2.2.2.2.2.2.2.2.2.2.1
def VB.left (A : VB) : Nat → Nat := A.2.2.2.2.2.2.2.2.2.2.2.2.2.2.1
def VB.out (A : VB) : Nat → Nat := A.2.2.2.2.2.2.2.2.2.2.2.2.2.2.2.1
def VB.rb (A : VB) : Nat → Nat := A.2.2.2.2.2.2.2.2.2.2.2.2.2.2.2.2.1
def VB.rl (A : VB) : Nat → Nat := A.2.2.2.2.2.2.2.2.2.2.2.2.2.2.2.2.2.1
def VB.rr (A : VB) : Nat → Nat := A.2.2.2.2.2.2.2.2.2.2.2.2.2.2.2.2.2.2
theorem VB.mk_L {x0 : Nat} {x1 : Nat} {x2 : Nat} {x3 : Nat} {x4 : Nat → Nat} {x5 : Nat → Nat} {x6 : Nat → Nat} {x7 : Nat → Bool} {x8 : Nat → Nat} {x9 : Nat → Nat} {x10 : Nat → Nat → Nat} {x11 : Nat → Nat → Nat} {x12 : Nat → Nat} {x13 : Nat → Nat} {x14 : Nat → Nat} {x15 : Nat → Nat} {x16 : Nat → Nat} {x17 : Nat → Nat} {x18 : Nat → Nat} : (VB.mk x0 x1 x2 x3 x4 x5 x6 x7 x8 x9 x10 x11 x12 x13 x14 x15 x16 x17 x18).L = x0 := rfl
theorem VB.mk_T {x0 : Nat} {x1 : Nat} {x2 : Nat} {x3 : Nat} {x4 : Nat → Nat} {x5 : Nat → Nat} {x6 : Nat → Nat} {x7 : Nat → Bool} {x8 : Nat → Nat} {x9 : Nat → Nat} {x10 : Nat → Nat → Nat} {x11 : Nat → Nat → Nat} {x12 : Nat → Nat} {x13 : Nat → Nat} {x14 : Nat → Nat} {x15 : Nat → Nat} {x16 : Nat → Nat} {x17 : Nat → Nat} {x18 : Nat → Nat} : (VB.mk x0 x1 x2 x3 x4 x5 x6 x7 x8 x9 x10 x11 x12 x13 x14 x15 x16 x17 x18).T = x1 := rfl
theorem VB.mk_Bc {x0 : Nat} {x1 : Nat} {x2 : Nat} {x3 : Nat} {x4 : Nat → Nat} {x5 : Nat → Nat} {x6 : Nat → Nat} {x7 : Nat → Bool} {x8 : Nat → Nat} {x9 : Nat → Nat} {x10 : Nat → Nat → Nat} {x11 : Nat → Nat → Nat} {x12 : Nat → Nat} {x13 : Nat → Nat} {x14 : Nat → Nat} {x15 : Nat → Nat} {x16 : Nat → Nat} {x17 : Nat → Nat} {x18 : Nat → Nat} : (VB.mk x0 x1 x2 x3 x4 x5 x6 x7 x8 x9 x10 x11 x12 x13 x14 x15 x16 x17 x18).Bc = x2 := rfl
theorem VB.mk_R {x0 : Nat} {x1 : Nat} {x2 : Nat} {x3 : Nat} {x4 : Nat → Nat} {x5 : Nat → Nat} {x6 : Nat → Nat} {x7 : Nat → Bool} {x8 : Nat → Nat} {x9 : Nat → Nat} {x10 : Nat → Nat → Nat} {x11 : Nat → Nat → Nat} {x12 : Nat → Nat} {x13 : Nat → Nat} {x14 : Nat → Nat} {x15 : Nat → Nat} {x16 : Nat → Nat} {x17 : Nat → Nat} {x18 : Nat → Nat} : (VB.mk x0 x1 x2 x3 x4 x5 x6 x7 x8 x9 x10 x11 x12 x13 x14 x15 x16 x17 x18).R = x3 := rfl
theorem VB.mk_rcp {x0 : Nat} {x1 : Nat} {x2 : Nat} {x3 : Nat} {x4 : Nat → Nat} {x5 : Nat → Nat} {x6 : Nat → Nat} {x7 : Nat → Bool} {x8 : Nat → Nat} {x9 : Nat → Nat} {x10 : Nat → Nat → Nat} {x11 : Nat → Nat → Nat} {x12 : Nat → Nat} {x13 : Nat → Nat} {x14 : Nat → Nat} {x15 : Nat → Nat} {x16 : Nat → Nat} {x17 : Nat → Nat} {x18 : Nat → Nat} : (VB.mk x0 x1 x2 x3 x4 x5 x6 x7 x8 x9 x10 x11 x12 x13 x14 x15 x16 x17 x18).rcp = x4 := rfl
theorem VB.mk_bag {x0 : Nat} {x1 : Nat} {x2 : Nat} {x3 : Nat} {x4 : Nat → Nat} {x5 : Nat → Nat} {x6 : Nat → Nat} {x7 : Nat → Bool} {x8 : Nat → Nat} {x9 : Nat → Nat} {x10 : Nat → Nat → Nat} {x11 : Nat → Nat → Nat} {x12 : Nat → Nat} {x13 : Nat → Nat} {x14 : Nat → Nat} {x15 : Nat → Nat} {x16 : Nat → Nat} {x17 : Nat → Nat} {x18 : Nat → Nat} : (VB.mk x0 x1 x2 x3 x4 x5 x6 x7 x8 x9 x10 x11 x12 x13 x14 x15 x16 x17 x18).bag = x5 := rfl
theorem VB.mk_loa {x0 : Nat} {x1 : Nat} {x2 : Nat} {x3 : Nat} {x4 : Nat → Nat} {x5 : Nat → Nat} {x6 : Nat → Nat} {x7 : Nat → Bool} {x8 : Nat → Nat} {x9 : Nat → Nat} {x10 : Nat → Nat → Nat} {x11 : Nat → Nat → Nat} {x12 : Nat → Nat} {x13 : Nat → Nat} {x14 : Nat → Nat} {x15 : Nat → Nat} {x16 : Nat → Nat} {x17 : Nat → Nat} {x18 : Nat → Nat} : (VB.mk x0 x1 x2 x3 x4 x5 x6 x7 x8 x9 x10 x11 x12 x13 x14 x15 x16 x17 x18).loa = x6 := rfl
theorem VB.mk_cond {x0 : Nat} {x1 : Nat} {x2 : Nat} {x3 : Nat} {x4 : Nat → Nat} {x5 : Nat → Nat} {x6 : Nat → Nat} {x7 : Nat → Bool} {x8 : Nat → Nat} {x9 : Nat → Nat} {x10 : Nat → Nat → Nat} {x11 : Nat → Nat → Nat} {x12 : Nat → Nat} {x13 : Nat → Nat} {x14 : Nat → Nat} {x15 : Nat → Nat} {x16 : Nat → Nat} {x17 : Nat → Nat} {x18 : Nat → Nat} : (VB.mk x0 x1 x2 x3 x4 x5 x6 x7 x8 x9 x10 x11 x12 x13 x14 x15 x16 x17 x18).cond = x7 := rfl
theorem VB.mk_cnt {x0 : Nat} {x1 : Nat} {x2 : Nat} {x3 : Nat} {x4 : Nat → Nat} {x5 : Nat → Nat} {x6 : Nat → Nat} {x7 : Nat → Bool} {x8 : Nat → Nat} {x9 : Nat → Nat} {x10 : Nat → Nat → Nat} {x11 : Nat → Nat → Nat} {x12 : Nat → Nat} {x13 : Nat → Nat} {x14 : Nat → Nat} {x15 : Nat → Nat} {x16 : Nat → Nat} {x17 : Nat → Nat} {x18 : Nat → Nat} : (VB.mk x0 x1 x2 x3 x4 x5 x6 x7 x8 x9 x10 x11 x12 x13 x14 x15 x16 x17 x18).cnt = x8 := rfl
theorem VB.mk_mis {x0 : Nat} {x1 : Nat} {x2 : Nat} {x3 : Nat} {x4 : Nat → Nat} {x5 : Nat → Nat} {x6 : Nat → Nat} {x7 : Nat → Bool} {x8 : Nat → Nat} {x9 : Nat → Nat} {x10 : Nat → Nat → Nat} {x11 : Nat → Nat → Nat} {x12 : Nat → Nat} {x13 : Nat → Nat} {x14 : Nat → Nat} {x15 : Nat → Nat} {x16 : Nat → Nat} {x17 : Nat → Nat} {x18 : Nat → Nat} : (VB.mk x0 x1 x2 x3 x4 x5 x6 x7 x8 x9 x10 x11 x12 x13 x14 x15 x16 x17 x18).mis = x9 := rfl
theorem VB.mk_st {x0 : Nat} {x1 : Nat} {x2 : Nat} {x3 : Nat} {x4 : Nat → Nat} {x5 : Nat → Nat} {x6 : Nat → Nat} {x7 : Nat → Bool} {x8 : Nat → Nat} {x9 : Nat → Nat} {x10 : Nat → Nat → Nat} {x11 : Nat → Nat → Nat} {x12 : Nat → Nat} {x13 : Nat → Nat} {x14 : Nat → Nat} {x15 : Nat → Nat} {x16 : Nat → Nat} {x17 : Nat → Nat} {x18 : Nat → Nat} : (VB.mk x0 x1 x2 x3 x4 x5 x6 x7 x8 x9 x10 x11 x12 x13 x14 x15 x16 x17 x18).st = x10 := rfl
theorem VB.mk_sl {x0 : Nat} {x1 : Nat} {x2 : Nat} {x3 : Nat} {x4 : Nat → Nat} {x5 : Nat → Nat} {x6 : Nat → Nat} {x7 : Nat → Bool} {x8 : Nat → Nat} {x9 : Nat → Nat} {x10 : Nat → Nat → Nat} {x11 : Nat → Nat → Nat} {x12 : Nat → Nat} {x13 : Nat → Nat} {x14 : Nat → Nat} {x15 : Nat → Nat} {x16 : Nat → Nat} {x17 : Nat → Nat} {x18 : Nat → Nat} : (VB.mk x0 x1 x2 x3 x4 x5 x6 x7 x8 x9 x10 x11 x12 x13 x14 x15 x16 x17 x18).sl = x11 := rfl
theorem VB.mk_bver {x0 : Nat} {x1 : Nat} {x2 : Nat} {x3 : Nat} {x4 : Nat → Nat} {x5 : Nat → Nat} {x6 : Nat → Nat} {x7 : Nat → Bool} {x8 : Nat → Nat} {x9 : Nat → Nat} {x10 : Nat → Nat → Nat} {x11 : Nat → Nat → Nat} {x12 : Nat → Nat} {x13 : Nat → Nat} {x14 : Nat → Nat} {x15 : Nat → Nat} {x16 : Nat → Nat} {x17 : Nat → Nat} {x18 : Nat → Nat} : (VB.mk x0 x1 x2 x3 x4 x5 x6 x7 x8 x9 x10 x11 x12 x13 x14 x15 x16 x17 x18).bver = x12 := rfl
theorem VB.mk_blot {x0 : Nat} {x1 : Nat} {x2 : Nat} {x3 : Nat} {x4 : Nat → Nat} {x5 : Nat → Nat} {x6 : Nat → Nat} {x7 : Nat → Bool} {x8 : Nat → Nat} {x9 : Nat → Nat} {x10 : Nat → Nat → Nat} {x11 : Nat → Nat → Nat} {x12 : Nat → Nat} {x13 : Nat → Nat} {x14 : Nat → Nat} {x15 : Nat → Nat} {x16 : Nat → Nat} {x17 : Nat → Nat} {x18 : Nat → Nat} : (VB.mk x0 x1 x2 x3 x4 x5 x6 x7 x8 x9 x10 x11 x12 x13 x14 x15 x16 x17 x18).blot = x13 := rfl
theorem VB.mk_left {x0 : Nat} {x1 : Nat} {x2 : Nat} {x3 : Nat} {x4 : Nat → Nat} {x5 : Nat → Nat} {x6 : Nat → Nat} {x7 : Nat → Bool} {x8 : Nat → Nat} {x9 : Nat → Nat} {x10 : Nat → Nat → Nat} {x11 : Nat → Nat → Nat} {x12 : Nat → Nat} {x13 : Nat → Nat} {x14 : Nat → Nat} {x15 : Nat → Nat} {x16 : Nat → Nat} {x17 : Nat → Nat} {x18 : Nat → Nat} : (VB.mk x0 x1 x2 x3 x4 x5 x6 x7 x8 x9 x10 x11 x12 x13 x14 x15 x16 x17 x18).left = x14 := rfl
theorem VB.mk_out {x0 : Nat} {x1 : Nat} {x2 : Nat} {x3 : Nat} {x4 : Nat → Nat} {x5 : Nat → Nat} {x6 : Nat → Nat} {x7 : Nat → Bool} {x8 : Nat → Nat} {x9 : Nat → Nat} {x10 : Nat → Nat → Nat} {x11 : Nat → Nat → Nat} {x12 : Nat → Nat} {x13 : Nat → Nat} {x14 : Nat → Nat} {x15 : Nat → Nat} {x16 : Nat → Nat} {x17 : Nat → Nat} {x18 : Nat → Nat} : (VB.mk x0 x1 x2 x3 x4 x5 x6 x7 x8 x9 x10 x11 x12 x13 x14 x15 x16 x17 x18).out = x15 := rfl
theorem VB.mk_rb {x0 : Nat} {x1 : Nat} {x2 : Nat} {x3 : Nat} {x4 : Nat → Nat} {x5 : Nat → Nat} {x6 : Nat → Nat} {x7 : Nat → Bool} {x8 : Nat → Nat} {x9 : Nat → Nat} {x10 : Nat → Nat → Nat} {x11 : Nat → Nat → Nat} {x12 : Nat → Nat} {x13 : Nat → Nat} {x14 : Nat → Nat} {x15 : Nat → Nat} {x16 : Nat → Nat} {x17 : Nat → Nat} {x18 : Nat → Nat} : (VB.mk x0 x1 x2 x3 x4 x5 x6 x7 x8 x9 x10 x11 x12 x13 x14 x15 x16 x17 x18).rb = x16 := rfl
theorem VB.mk_rl {x0 : Nat} {x1 : Nat} {x2 : Nat} {x3 : Nat} {x4 : Nat → Nat} {x5 : Nat → Nat} {x6 : Nat → Nat} {x7 : Nat → Bool} {x8 : Nat → Nat} {x9 : Nat → Nat} {x10 : Nat → Nat → Nat} {x11 : Nat → Nat → Nat} {x12 : Nat → Nat} {x13 : Nat → Nat} {x14 : Nat → Nat} {x15 : Nat → Nat} {x16 : Nat → Nat} {x17 : Nat → Nat} {x18 : Nat → Nat} : (VB.mk x0 x1 x2 x3 x4 x5 x6 x7 x8 x9 x10 x11 x12 x13 x14 x15 x16 x17 x18).rl = x17 := rfl
theorem VB.mk_rr {x0 : Nat} {x1 : Nat} {x2 : Nat} {x3 : Nat} {x4 : Nat → Nat} {x5 : Nat → Nat} {x6 : Nat → Nat} {x7 : Nat → Bool} {x8 : Nat → Nat} {x9 : Nat → Nat} {x10 : Nat → Nat → Nat} {x11 : Nat → Nat → Nat} {x12 : Nat → Nat} {x13 : Nat → Nat} {x14 : Nat → Nat} {x15 : Nat → Nat} {x16 : Nat → Nat} {x17 : Nat → Nat} {x18 : Nat → Nat} : (VB.mk x0 x1 x2 x3 x4 x5 x6 x7 x8 x9 x10 x11 x12 x13 x14 x15 x16 x17 x18).rr = x18 := rfl
def nz (f : Nat → Nat) : Nat → Nat
  | 0 => 0
  | k + 1 => nz f k + if 0 < f k then 1 else 0
def BOK (V n : Nat) (B : VB) : Prop := (B.L ≤ 16) ∧ (B.T ≤ 1000) ∧ (B.Bc ≤ 60) ∧ (B.R + nz B.out 60 ≤ n) ∧ (∀ v, v < V → B.rcp v < 6 ∧ 1 ≤ B.bag v ∧ B.bag v ≤ 9 ∧ B.loa v ≤ 40) ∧ (∀ l, B.L ≤ l → B.cond l = false) ∧ (∀ b, b < 5 → B.cnt b ≤ 200) ∧ (∀ b, b < 5 → ∀ i, i < B.cnt b → B.st b i < B.L) ∧ (∀ b, b < 5 → ∀ h, h < 1051 → B.sl b h ≤ V) ∧ (∀ b, b < 5 → ∀ h, B.T + 50 < h → B.sl b h = 0) ∧ (∀ i, i < B.Bc → B.bver i < V) ∧ (∀ i, i < B.Bc → B.blot i < 2 ^ 16) ∧ (∀ i, i < B.Bc → B.left i + B.out i ≤ 40) ∧ (∀ i, B.Bc ≤ i → B.out i = 0)
theorem BOK.L {V n : Nat} {B : VB} (q0 : BOK V n B) : B.L ≤ 16 := q0.1
theorem BOK.T {V n : Nat} {B : VB} (q0 : BOK V n B) : B.T ≤ 1000 := q0.2.1
theorem BOK.Bc {V n : Nat} {B : VB} (q0 : BOK V n B) : B.Bc ≤ 60 := q0.2.2.1
theorem BOK.R {V n : Nat} {B : VB} (q0 : BOK V n B) : B.R + nz B.out 60 ≤ n := q0.2.2.2.1
theorem BOK.rcp {V n : Nat} {B : VB} (q0 : BOK V n B) : ∀ v, v < V → B.rcp v < 6 ∧ 1 ≤ B.bag v ∧ B.bag v ≤ 9 ∧ B.loa v ≤ 40 := q0.2.2.2.2.1
theorem BOK.cond {V n : Nat} {B : VB} (q0 : BOK V n B) : ∀ l, B.L ≤ l → B.cond l = false := q0.2.2.2.2.2.1
theorem BOK.cnt {V n : Nat} {B : VB} (q0 : BOK V n B) : ∀ b, b < 5 → B.cnt b ≤ 200 := q0.2.2.2.2.2.2.1
theorem BOK.st {V n : Nat} {B : VB} (q0 : BOK V n B) : ∀ b, b < 5 → ∀ i, i < B.cnt b → B.st b i < B.L := q0.2.2.2.2.2.2.2.1
theorem BOK.sl {V n : Nat} {B : VB} (q0 : BOK V n B) : ∀ b, b < 5 → ∀ h, h < 1051 → B.sl b h ≤ V := q0.2.2.2.2.2.2.2.2.1
theorem BOK.sl0 {V n : Nat} {B : VB} (q0 : BOK V n B) : ∀ b, b < 5 → ∀ h, B.T + 50 < h → B.sl b h = 0 := q0.2.2.2.2.2.2.2.2.2.1
theorem BOK.bver {V n : Nat} {B : VB} (q0 : BOK V n B) : ∀ i, i < B.Bc → B.bver i < V := q0.2.2.2.2.2.2.2.2.2.2.1
theorem BOK.blot {V n : Nat} {B : VB} (q0 : BOK V n B) : ∀ i, i < B.Bc → B.blot i < 2 ^ 16 := q0.2.2.2.2.2.2.2.2.2.2.2.1
theorem BOK.left {V n : Nat} {B : VB} (q0 : BOK V n B) : ∀ i, i < B.Bc → B.left i + B.out i ≤ 40 := q0.2.2.2.2.2.2.2.2.2.2.2.2.1
theorem BOK.out0 {V n : Nat} {B : VB} (q0 : BOK V n B) : ∀ i, B.Bc ≤ i → B.out i = 0 := q0.2.2.2.2.2.2.2.2.2.2.2.2.2
theorem BOK.mk {V n : Nat} {B : VB} (h0 : B.L ≤ 16) (h1 : B.T ≤ 1000) (h2 : B.Bc ≤ 60) (h3 : B.R + nz B.out 60 ≤ n) (h4 : ∀ v, v < V → B.rcp v < 6 ∧ 1 ≤ B.bag v ∧ B.bag v ≤ 9 ∧ B.loa v ≤ 40) (h5 : ∀ l, B.L ≤ l → B.cond l = false) (h6 : ∀ b, b < 5 → B.cnt b ≤ 200) (h7 : ∀ b, b < 5 → ∀ i, i < B.cnt b → B.st b i < B.L) (h8 : ∀ b, b < 5 → ∀ h, h < 1051 → B.sl b h ≤ V) (h9 : ∀ b, b < 5 → ∀ h, B.T + 50 < h → B.sl b h = 0) (h10 : ∀ i, i < B.Bc → B.bver i < V) (h11 : ∀ i, i < B.Bc → B.blot i < 2 ^ 16) (h12 : ∀ i, i < B.Bc → B.left i + B.out i ≤ 40) (h13 : ∀ i, B.Bc ≤ i → B.out i = 0) : BOK V n B := ⟨h0, h1, h2, h3, h4, h5, h6, h7, h8, h9, h10, h11, h12, h13⟩
/-- the class's other cells -/
def QX (V : Nat) (B : VB) (M : zMem) : Prop := (∀ v, v < V → M.1 34 v = nI (B.rcp v)) ∧ (∀ v, v < V → M.1 35 v = nI (B.bag v)) ∧ (∀ v, v < V → M.1 36 v = nI (B.loa v)) ∧ (M.1 37 0 = nI B.L) ∧ (∃ K, K < 2 ^ 16 ∧ M.1 37 1 = nI K ∧ ∀ l, l < 16 → K.testBit l = B.cond l) ∧ (∀ b, b < 5 → ∀ i, i < B.cnt b → M.1 (38 + 1 + b) i = nI (B.st b i)) ∧ (∀ b, b < 5 → M.1 44 b = nI (B.cnt b)) ∧ (M.1 45 0 = nI B.T) ∧ (∀ b, b < 5 → ∀ h, B.T ≤ h → h ≤ B.T + 50 → M.1 (46 + 1 + b) (h % 51) = nI (B.sl b h) - 1) ∧ (∀ b, b < 5 → M.1 52 b = nI (B.mis b)) ∧ (M.1 53 0 = nI B.Bc) ∧ (∀ i, i < B.Bc → M.1 54 i = nI (B.bver i)) ∧ (∀ i, i < B.Bc → M.1 55 i = nI (B.blot i)) ∧ (∀ i, i < B.Bc → M.1 56 i = nI (B.left i)) ∧ (∀ i, i < B.Bc → M.1 57 i = nI (B.out i)) ∧ (M.1 58 0 = nI B.R) ∧ (∀ i, i < B.R → M.1 59 i = nI (B.rb i)) ∧ (∀ i, i < B.R → M.1 60 i = nI (B.rl i)) ∧ (∀ i, i < B.R → M.1 61 i = nI (B.rr i))
theorem QX.rcp {V : Nat} {B : VB} {M : zMem} (q0 : QX V B M) : ∀ v, v < V → M.1 34 v = nI (B.rcp v) := q0.1
theorem QX.bag {V : Nat} {B : VB} {M : zMem} (q0 : QX V B M) : ∀ v, v < V → M.1 35 v = nI (B.bag v) := q0.2.1
theorem QX.loa {V : Nat} {B : VB} {M : zMem} (q0 : QX V B M) : ∀ v, v < V → M.1 36 v = nI (B.loa v) := q0.2.2.1
theorem QX.L {V : Nat} {B : VB} {M : zMem} (q0 : QX V B M) : M.1 37 0 = nI B.L := q0.2.2.2.1
theorem QX.cb {V : Nat} {B : VB} {M : zMem} (q0 : QX V B M) : ∃ K, K < 2 ^ 16 ∧ M.1 37 1 = nI K ∧ ∀ l, l < 16 → K.testBit l = B.cond l := q0.2.2.2.2.1
theorem QX.st {V : Nat} {B : VB} {M : zMem} (q0 : QX V B M) : ∀ b, b < 5 → ∀ i, i < B.cnt b → M.1 (38 + 1 + b) i = nI (B.st b i) := q0.2.2.2.2.2.1
theorem QX.cnt {V : Nat} {B : VB} {M : zMem} (q0 : QX V B M) : ∀ b, b < 5 → M.1 44 b = nI (B.cnt b) := q0.2.2.2.2.2.2.1
theorem QX.T {V : Nat} {B : VB} {M : zMem} (q0 : QX V B M) : M.1 45 0 = nI B.T := q0.2.2.2.2.2.2.2.1
theorem QX.sl {V : Nat} {B : VB} {M : zMem} (q0 : QX V B M) : ∀ b, b < 5 → ∀ h, B.T ≤ h → h ≤ B.T + 50 → M.1 (46 + 1 + b) (h % 51) = nI (B.sl b h) - 1 := q0.2.2.2.2.2.2.2.2.1
theorem QX.mis {V : Nat} {B : VB} {M : zMem} (q0 : QX V B M) : ∀ b, b < 5 → M.1 52 b = nI (B.mis b) := q0.2.2.2.2.2.2.2.2.2.1
theorem QX.Bc {V : Nat} {B : VB} {M : zMem} (q0 : QX V B M) : M.1 53 0 = nI B.Bc := q0.2.2.2.2.2.2.2.2.2.2.1
theorem QX.bver {V : Nat} {B : VB} {M : zMem} (q0 : QX V B M) : ∀ i, i < B.Bc → M.1 54 i = nI (B.bver i) := q0.2.2.2.2.2.2.2.2.2.2.2.1
theorem QX.blot {V : Nat} {B : VB} {M : zMem} (q0 : QX V B M) : ∀ i, i < B.Bc → M.1 55 i = nI (B.blot i) := q0.2.2.2.2.2.2.2.2.2.2.2.2.1
theorem QX.left {V : Nat} {B : VB} {M : zMem} (q0 : QX V B M) : ∀ i, i < B.Bc → M.1 56 i = nI (B.left i) := q0.2.2.2.2.2.2.2.2.2.2.2.2.2.1
theorem QX.out {V : Nat} {B : VB} {M : zMem} (q0 : QX V B M) : ∀ i, i < B.Bc → M.1 57 i = nI (B.out i) := q0.2.2.2.2.2.2.2.2.2.2.2.2.2.2.1
theorem QX.R {V : Nat} {B : VB} {M : zMem} (q0 : QX V B M) : M.1 58 0 = nI B.R := q0.2.2.2.2.2.2.2.2.2.2.2.2.2.2.2.1
theorem QX.rb {V : Nat} {B : VB} {M : zMem} (q0 : QX V B M) : ∀ i, i < B.R → M.1 59 i = nI (B.rb i) := q0.2.2.2.2.2.2.2.2.2.2.2.2.2.2.2.2.1
theorem QX.rl {V : Nat} {B : VB} {M : zMem} (q0 : QX V B M) : ∀ i, i < B.R → M.1 60 i = nI (B.rl i) := q0.2.2.2.2.2.2.2.2.2.2.2.2.2.2.2.2.2.1
theorem QX.rr {V : Nat} {B : VB} {M : zMem} (q0 : QX V B M) : ∀ i, i < B.R → M.1 61 i = nI (B.rr i) := q0.2.2.2.2.2.2.2.2.2.2.2.2.2.2.2.2.2.2
theorem QX.mk {V : Nat} {B : VB} {M : zMem} (h0 : ∀ v, v < V → M.1 34 v = nI (B.rcp v)) (h1 : ∀ v, v < V → M.1 35 v = nI (B.bag v)) (h2 : ∀ v, v < V → M.1 36 v = nI (B.loa v)) (h3 : M.1 37 0 = nI B.L) (h4 : ∃ K, K < 2 ^ 16 ∧ M.1 37 1 = nI K ∧ ∀ l, l < 16 → K.testBit l = B.cond l) (h5 : ∀ b, b < 5 → ∀ i, i < B.cnt b → M.1 (38 + 1 + b) i = nI (B.st b i)) (h6 : ∀ b, b < 5 → M.1 44 b = nI (B.cnt b)) (h7 : M.1 45 0 = nI B.T) (h8 : ∀ b, b < 5 → ∀ h, B.T ≤ h → h ≤ B.T + 50 → M.1 (46 + 1 + b) (h % 51) = nI (B.sl b h) - 1) (h9 : ∀ b, b < 5 → M.1 52 b = nI (B.mis b)) (h10 : M.1 53 0 = nI B.Bc) (h11 : ∀ i, i < B.Bc → M.1 54 i = nI (B.bver i)) (h12 : ∀ i, i < B.Bc → M.1 55 i = nI (B.blot i)) (h13 : ∀ i, i < B.Bc → M.1 56 i = nI (B.left i)) (h14 : ∀ i, i < B.Bc → M.1 57 i = nI (B.out i)) (h15 : M.1 58 0 = nI B.R) (h16 : ∀ i, i < B.R → M.1 59 i = nI (B.rb i)) (h17 : ∀ i, i < B.R → M.1 60 i = nI (B.rl i)) (h18 : ∀ i, i < B.R → M.1 61 i = nI (B.rr i)) : QX V B M := ⟨h0, h1, h2, h3, h4, h5, h6, h7, h8, h9, h10, h11, h12, h13, h14, h15, h16, h17, h18⟩
/-- the reference's cells, of the agreement -/
def QR (A : VA) (M : zMem) : Prop := (M.1 62 0 = nI A.grp) ∧ (M.1 62 7 = nI A.V) ∧ (∀ b, b < 5 → M.1 63 b = nI (A.term b)) ∧ (∀ b, b < 5 → M.1 64 b = nI (A.role b)) ∧ (∀ b, b < 5 → M.1 65 b = nI (A.vote b)) ∧ (∀ b, b < 5 → A.role b = 1 → M.1 66 b = nI (A.sup b)) ∧ (∀ b, b < 5 → ∀ i, i < A.len b → M.1 67 (20 * b + i) = nI (A.log b i)) ∧ (∀ b, b < 5 → M.1 68 b = nI (A.len b)) ∧ (∀ v, v < A.V → M.1 69 v = nI (A.vt v)) ∧ (∀ v, v < 60 → M.1 73 v = nI (A.ev v).toNat)
theorem QR.grp {A : VA} {M : zMem} (q0 : QR A M) : M.1 62 0 = nI A.grp := q0.1
theorem QR.ver {A : VA} {M : zMem} (q0 : QR A M) : M.1 62 7 = nI A.V := q0.2.1
theorem QR.trm {A : VA} {M : zMem} (q0 : QR A M) : ∀ b, b < 5 → M.1 63 b = nI (A.term b) := q0.2.2.1
theorem QR.rol {A : VA} {M : zMem} (q0 : QR A M) : ∀ b, b < 5 → M.1 64 b = nI (A.role b) := q0.2.2.2.1
theorem QR.vot {A : VA} {M : zMem} (q0 : QR A M) : ∀ b, b < 5 → M.1 65 b = nI (A.vote b) := q0.2.2.2.2.1
theorem QR.sup {A : VA} {M : zMem} (q0 : QR A M) : ∀ b, b < 5 → A.role b = 1 → M.1 66 b = nI (A.sup b) := q0.2.2.2.2.2.1
theorem QR.log {A : VA} {M : zMem} (q0 : QR A M) : ∀ b, b < 5 → ∀ i, i < A.len b → M.1 67 (20 * b + i) = nI (A.log b i) := q0.2.2.2.2.2.2.1
theorem QR.len {A : VA} {M : zMem} (q0 : QR A M) : ∀ b, b < 5 → M.1 68 b = nI (A.len b) := q0.2.2.2.2.2.2.2.1
theorem QR.vtm {A : VA} {M : zMem} (q0 : QR A M) : ∀ v, v < A.V → M.1 69 v = nI (A.vt v) := q0.2.2.2.2.2.2.2.2.1
theorem QR.ev {A : VA} {M : zMem} (q0 : QR A M) : ∀ v, v < 60 → M.1 73 v = nI (A.ev v).toNat := q0.2.2.2.2.2.2.2.2.2
theorem QR.mk {A : VA} {M : zMem} (h0 : M.1 62 0 = nI A.grp) (h1 : M.1 62 7 = nI A.V) (h2 : ∀ b, b < 5 → M.1 63 b = nI (A.term b)) (h3 : ∀ b, b < 5 → M.1 64 b = nI (A.role b)) (h4 : ∀ b, b < 5 → M.1 65 b = nI (A.vote b)) (h5 : ∀ b, b < 5 → A.role b = 1 → M.1 66 b = nI (A.sup b)) (h6 : ∀ b, b < 5 → ∀ i, i < A.len b → M.1 67 (20 * b + i) = nI (A.log b i)) (h7 : ∀ b, b < 5 → M.1 68 b = nI (A.len b)) (h8 : ∀ v, v < A.V → M.1 69 v = nI (A.vt v)) (h9 : ∀ v, v < 60 → M.1 73 v = nI (A.ev v).toNat) : QR A M := ⟨h0, h1, h2, h3, h4, h5, h6, h7, h8, h9⟩
/-- the reference's cells, of the rest -/
def QF (V : Nat) (B : VB) (M : zMem) : Prop := (M.1 62 14 = nI B.T) ∧ (M.1 62 16 = nI B.L) ∧ (M.1 62 21 = nI B.Bc) ∧ (M.1 62 26 = nI B.R) ∧ (∀ v, v < V → M.1 70 v = nI (B.rcp v)) ∧ (∀ v, v < V → M.1 71 v = nI (B.bag v)) ∧ (∀ v, v < V → M.1 72 v = nI (B.loa v)) ∧ (∀ b, b < 5 → ∀ h, h < 1051 → M.1 75 (1051 * b + h) = nI (B.sl b h)) ∧ (∀ l, l < 16 → M.1 76 l = nI (B.cond l).toNat) ∧ (∀ b, b < 5 → ∀ i, i < B.cnt b → M.1 77 (200 * b + i) = nI (B.st b i)) ∧ (∀ b, b < 5 → M.1 78 b = nI (B.cnt b)) ∧ (∀ b, b < 5 → M.1 79 b = nI (B.mis b)) ∧ (∀ i, i < B.Bc → M.1 80 i = nI (B.bver i)) ∧ (∀ i, i < B.Bc → M.1 81 i = nI (B.blot i)) ∧ (∀ i, i < B.Bc → M.1 82 i = nI (B.left i)) ∧ (∀ i, i < 60 → M.1 83 i = nI (B.out i)) ∧ (∀ i, i < B.R → M.1 84 i = nI (B.rb i)) ∧ (∀ i, i < B.R → M.1 85 i = nI (B.rl i)) ∧ (∀ i, i < B.R → M.1 86 i = nI (B.rr i))
theorem QF.T {V : Nat} {B : VB} {M : zMem} (q0 : QF V B M) : M.1 62 14 = nI B.T := q0.1
theorem QF.L {V : Nat} {B : VB} {M : zMem} (q0 : QF V B M) : M.1 62 16 = nI B.L := q0.2.1
theorem QF.Bc {V : Nat} {B : VB} {M : zMem} (q0 : QF V B M) : M.1 62 21 = nI B.Bc := q0.2.2.1
theorem QF.R {V : Nat} {B : VB} {M : zMem} (q0 : QF V B M) : M.1 62 26 = nI B.R := q0.2.2.2.1
theorem QF.rcp {V : Nat} {B : VB} {M : zMem} (q0 : QF V B M) : ∀ v, v < V → M.1 70 v = nI (B.rcp v) := q0.2.2.2.2.1
theorem QF.bag {V : Nat} {B : VB} {M : zMem} (q0 : QF V B M) : ∀ v, v < V → M.1 71 v = nI (B.bag v) := q0.2.2.2.2.2.1
theorem QF.loa {V : Nat} {B : VB} {M : zMem} (q0 : QF V B M) : ∀ v, v < V → M.1 72 v = nI (B.loa v) := q0.2.2.2.2.2.2.1
theorem QF.sl {V : Nat} {B : VB} {M : zMem} (q0 : QF V B M) : ∀ b, b < 5 → ∀ h, h < 1051 → M.1 75 (1051 * b + h) = nI (B.sl b h) := q0.2.2.2.2.2.2.2.1
theorem QF.cond {V : Nat} {B : VB} {M : zMem} (q0 : QF V B M) : ∀ l, l < 16 → M.1 76 l = nI (B.cond l).toNat := q0.2.2.2.2.2.2.2.2.1
theorem QF.st {V : Nat} {B : VB} {M : zMem} (q0 : QF V B M) : ∀ b, b < 5 → ∀ i, i < B.cnt b → M.1 77 (200 * b + i) = nI (B.st b i) := q0.2.2.2.2.2.2.2.2.2.1
theorem QF.cnt {V : Nat} {B : VB} {M : zMem} (q0 : QF V B M) : ∀ b, b < 5 → M.1 78 b = nI (B.cnt b) := q0.2.2.2.2.2.2.2.2.2.2.1
theorem QF.mis {V : Nat} {B : VB} {M : zMem} (q0 : QF V B M) : ∀ b, b < 5 → M.1 79 b = nI (B.mis b) := q0.2.2.2.2.2.2.2.2.2.2.2.1
theorem QF.bver {V : Nat} {B : VB} {M : zMem} (q0 : QF V B M) : ∀ i, i < B.Bc → M.1 80 i = nI (B.bver i) := q0.2.2.2.2.2.2.2.2.2.2.2.2.1
theorem QF.blot {V : Nat} {B : VB} {M : zMem} (q0 : QF V B M) : ∀ i, i < B.Bc → M.1 81 i = nI (B.blot i) := q0.2.2.2.2.2.2.2.2.2.2.2.2.2.1
theorem QF.left {V : Nat} {B : VB} {M : zMem} (q0 : QF V B M) : ∀ i, i < B.Bc → M.1 82 i = nI (B.left i) := q0.2.2.2.2.2.2.2.2.2.2.2.2.2.2.1
theorem QF.out {V : Nat} {B : VB} {M : zMem} (q0 : QF V B M) : ∀ i, i < 60 → M.1 83 i = nI (B.out i) := q0.2.2.2.2.2.2.2.2.2.2.2.2.2.2.2.1
theorem QF.rb {V : Nat} {B : VB} {M : zMem} (q0 : QF V B M) : ∀ i, i < B.R → M.1 84 i = nI (B.rb i) := q0.2.2.2.2.2.2.2.2.2.2.2.2.2.2.2.2.1
theorem QF.rl {V : Nat} {B : VB} {M : zMem} (q0 : QF V B M) : ∀ i, i < B.R → M.1 85 i = nI (B.rl i) := q0.2.2.2.2.2.2.2.2.2.2.2.2.2.2.2.2.2.1
theorem QF.rr {V : Nat} {B : VB} {M : zMem} (q0 : QF V B M) : ∀ i, i < B.R → M.1 86 i = nI (B.rr i) := q0.2.2.2.2.2.2.2.2.2.2.2.2.2.2.2.2.2.2
theorem QF.mk {V : Nat} {B : VB} {M : zMem} (h0 : M.1 62 14 = nI B.T) (h1 : M.1 62 16 = nI B.L) (h2 : M.1 62 21 = nI B.Bc) (h3 : M.1 62 26 = nI B.R) (h4 : ∀ v, v < V → M.1 70 v = nI (B.rcp v)) (h5 : ∀ v, v < V → M.1 71 v = nI (B.bag v)) (h6 : ∀ v, v < V → M.1 72 v = nI (B.loa v)) (h7 : ∀ b, b < 5 → ∀ h, h < 1051 → M.1 75 (1051 * b + h) = nI (B.sl b h)) (h8 : ∀ l, l < 16 → M.1 76 l = nI (B.cond l).toNat) (h9 : ∀ b, b < 5 → ∀ i, i < B.cnt b → M.1 77 (200 * b + i) = nI (B.st b i)) (h10 : ∀ b, b < 5 → M.1 78 b = nI (B.cnt b)) (h11 : ∀ b, b < 5 → M.1 79 b = nI (B.mis b)) (h12 : ∀ i, i < B.Bc → M.1 80 i = nI (B.bver i)) (h13 : ∀ i, i < B.Bc → M.1 81 i = nI (B.blot i)) (h14 : ∀ i, i < B.Bc → M.1 82 i = nI (B.left i)) (h15 : ∀ i, i < 60 → M.1 83 i = nI (B.out i)) (h16 : ∀ i, i < B.R → M.1 84 i = nI (B.rb i)) (h17 : ∀ i, i < B.R → M.1 85 i = nI (B.rl i)) (h18 : ∀ i, i < B.R → M.1 86 i = nI (B.rr i)) : QF V B M := ⟨h0, h1, h2, h3, h4, h5, h6, h7, h8, h9, h10, h11, h12, h13, h14, h15, h16, h17, h18⟩
def QM (A : VA) (B : VB) (M : zMem) : Prop := QR A M ∧ QF A.V B M
/-- the same in the cells from lo to hi -/
def zeq (lo hi : Nat) (M M' : zMem) : Prop := ∀ a, lo ≤ a → a < hi → M'.1 a = M.1 a ∧ M'.2 a = M.2 a
theorem zeq.refl {lo hi : Nat} {M : zMem} : zeq lo hi M M := fun _ _ _ => ⟨rfl, rfl⟩
theorem zeq.trans {lo hi : Nat} {M M1 M2 : zMem} (h : zeq lo hi M M1) (g : zeq lo hi M1 M2) : zeq lo hi M M2 := fun a h1 h2 => ⟨(g a h1 h2).1.trans (h a h1 h2).1, (g a h1 h2).2.trans (h a h1 h2).2⟩
theorem zeq.sub {lo hi lo' hi' : Nat} {M M1 : zMem} (h : zeq lo hi M M1) (h1 : lo ≤ lo') (h2 : hi' ≤ hi) : zeq lo' hi' M M1 := fun a h3 h4 => h a (by omega) (by omega)
theorem zeq_sI {lo hi k j : Nat} {x : Int32} {M : zMem} (h : k < lo ∨ hi ≤ k) : zeq lo hi M (zsI M k j x) := fun a h1 h2 => ⟨zsI_n (by omega), rfl⟩
theorem zeq_sL {lo hi k j : Nat} {x : Int64} {M : zMem} (h : k < lo ∨ hi ≤ k) : zeq lo hi M (zsL M k j x) := fun a h1 h2 => ⟨rfl, zsL_n (by omega)⟩
theorem QS.to {o V : Nat} {h : Nat → Nat} {ev : Nat → Bool} {M M' : zMem} (r : QS o V h ev M) (e : zeq o (o + 14) M M') : QS o V h ev M' := by
  have e13 := (e (o + 13) (by omega) (by omega)).1
  have e0 := (e o (by omega) (by omega)).2
  exact QS.mk (by rw [e13]; exact r.hs) (by rw [e0]; exact r.hd) (by rw [e0]; exact r.ev)
theorem QL.to {o : Nat} {A : VA} {M M' : zMem} (r : QL o A M) (e : zeq o (o + 14) M M') : QL o A M' := by
  have e0 := (e o (by omega) (by omega)).1
  have e1 := (e (o + 1) (by omega) (by omega)).1
  have e2 := (e (o + 2) (by omega) (by omega)).1
  have e3 := (e (o + 3) (by omega) (by omega)).1
  have e4 := (e (o + 4) (by omega) (by omega)).1
  have e11 := (e (o + 11) (by omega) (by omega)).1
  have e12 := (e (o + 12) (by omega) (by omega)).1
  refine QL.mk (by rw [e0]; exact r.grp) (by rw [e0]; exact r.ver) (by rw [e1]; exact r.trm) (by rw [e2]; exact r.rol) (by rw [e3]; exact r.vot) (by rw [e4]; exact r.sup) (by rw [e11]; exact r.len) (by rw [e12]; exact r.vtm) (fun b hb i hi => ?_)
  rw [(e (o + 5 + 1 + b) (by omega) (by omega)).1]; exact r.log b hb i hi
theorem QA.to {o : Nat} {A : VA} {M M' : zMem} (r : QA o A M) (e : zeq o (o + 14) M M') : QA o A M' := ⟨r.1.to e, r.2.to e⟩
theorem QX.to {V : Nat} {B : VB} {M M' : zMem} (r : QX V B M) (e : zeq 33 62 M M') : QX V B M' := by
  have q : ∀ a, 33 ≤ a → a < 62 → M'.1 a = M.1 a := fun a h1 h2 => (e a h1 h2).1
  refine QX.mk (by rw [q 34 (by decide) (by decide)]; exact r.rcp) (by rw [q 35 (by decide) (by decide)]; exact r.bag) (by rw [q 36 (by decide) (by decide)]; exact r.loa) (by rw [q 37 (by decide) (by decide)]; exact r.L) (by rw [q 37 (by decide) (by decide)]; exact r.cb) (fun b hb i hi => ?_) (by rw [q 44 (by decide) (by decide)]; exact r.cnt) (by rw [q 45 (by decide) (by decide)]; exact r.T) (fun b hb h h1 h2 => ?_) (by rw [q 52 (by decide) (by decide)]; exact r.mis) (by rw [q 53 (by decide) (by decide)]; exact r.Bc) (by rw [q 54 (by decide) (by decide)]; exact r.bver) (by rw [q 55 (by decide) (by decide)]; exact r.blot) (by rw [q 56 (by decide) (by decide)]; exact r.left) (by rw [q 57 (by decide) (by decide)]; exact r.out) (by rw [q 58 (by decide) (by decide)]; exact r.R) (by rw [q 59 (by decide) (by decide)]; exact r.rb) (by rw [q 60 (by decide) (by decide)]; exact r.rl) (by rw [q 61 (by decide) (by decide)]; exact r.rr)
  · rw [q (38 + 1 + b) (by omega) (by omega)]; exact r.st b hb i hi
  · rw [q (46 + 1 + b) (by omega) (by omega)]; exact r.sl b hb h h1 h2
/-- what happened, step for step -/
def aPart (g : Nat) (A : VA) : VA := (VA.mk (g) A.V A.term A.role A.vote A.sup A.len A.vt A.ev A.log)
def aStand (b : Nat) (A : VA) : VA := (VA.mk A.grp A.V (fu A.term b (A.term b + 1)) (fu A.role b 1) (fu A.vote b (b + 1)) (fu A.sup b (2 ^ b)) A.len A.vt A.ev A.log)
def aTake (b t : Nat) (A : VA) : VA := (VA.mk A.grp A.V (fu A.term b t) (fu A.role b 0) (fu A.vote b 0) A.sup A.len A.vt A.ev A.log)
def aLast (A : VA) (b : Nat) : Nat := if A.len b = 0 then 0 else A.vt (A.log b (A.len b - 1))
def aBetter (A : VA) (v c : Nat) : Bool := decide (aLast A c < aLast A v ∨ aLast A v = aLast A c ∧ A.len c < A.len v)
def aGive (v c : Nat) (A : VA) : VA := (VA.mk A.grp A.V A.term (fu A.role c (if p5 (A.sup c ||| 2 ^ v) < 3 then A.role c else 2)) (fu A.vote v (c + 1)) (fu A.sup c (A.sup c ||| 2 ^ v)) A.len A.vt A.ev A.log)
def aVote1 (v c : Nat) (A : VA) : Bool × VA := if A.vote v = c + 1 then (true, A) else if A.vote v = 0 then (if aBetter A v c = true then (false, A) else (true, aGive v c A)) else (false, A)
def aVote (v c : Nat) (A : VA) : Bool × VA := if A.term c < A.term v then (false, aTake c (A.term v) A) else if A.term v < A.term c then aVote1 v c (aTake v (A.term c) A) else aVote1 v c A
def aProp (b : Nat) (A : VA) : VA := (VA.mk A.grp (A.V + 1) A.term A.role A.vote A.sup (fu A.len b (A.len b + 1)) (fu A.vt A.V (A.term b)) A.ev (fun c => if c = b then fu (A.log b) (A.len b) A.V else A.log c))
/-- the first place from i on (of k) where the two logs differ, or where one ends -/
def aDiff (A : VA) (s r : Nat) : Nat → Nat → Nat
  | 0, i => i
  | k + 1, i => if A.log s i = A.log r i then aDiff A s r k (i + 1) else i
/-- the length of r's log that stays -/
def aCut (A : VA) (s r : Nat) : Nat := if aDiff A s r (min (A.len s) (A.len r)) 0 < min (A.len s) (A.len r) then aDiff A s r (min (A.len s) (A.len r)) 0 else A.len r
def aSend1 (s r : Nat) (A : VA) : VA := (VA.mk A.grp A.V A.term A.role A.vote A.sup (fu A.len r (max (aCut A s r) (A.len s))) A.vt A.ev (fun c => if c = r then (fun i => if aCut A s r ≤ i then A.log s i else A.log r i) else A.log c))
def aSend (s r : Nat) (A : VA) : VA := (VA.mk (aSend1 s r A).grp (aSend1 s r A).V (aSend1 s r A).term (aSend1 s r A).role (aSend1 s r A).vote (aSend1 s r A).sup (aSend1 s r A).len (aSend1 s r A).vt (fun v => A.ev v || held (aSend1 s r A) v) (aSend1 s r A).log)
def aTell1 (s r : Nat) (A : VA) : VA := if A.term r < A.term s then aTake r (A.term s) A else (VA.mk A.grp A.V A.term (fu A.role r (if A.role r = 1 then 0 else A.role r)) A.vote A.sup A.len A.vt A.ev A.log)
/-- tell: none where the teller's term is older -/
def aTell (s r : Nat) (A : VA) : VA := if A.term s < A.term r then aTake s (A.term r) A else aSend s r (aTell1 s r A)
def aStep (k a b : Nat) (A A' : VA) : Prop :=
  (k = 0 ∧ a < 32 ∧ A' = aPart a A) ∨ (k = 1 ∧ a < 5 ∧ A.term a < 100 ∧ A' = aStand a A) ∨ (k = 2 ∧ a < 5 ∧ b < 5 ∧ a ≠ b ∧ A.role b = 1 ∧ A' = (aVote a b A).2) ∨ (k = 3 ∧ a < 5 ∧ A.role a = 2 ∧ A.len a < 20 ∧ A.V < 60 ∧ A' = aProp a A) ∨ (k = 4 ∧ a < 5 ∧ b < 5 ∧ a ≠ b ∧ A.role a = 2 ∧ A' = aTell a b A)
/-- the history tells how the agreement came to be -/
def QT (n : Nat) (A : VA) (M : zMem) : Prop := ∃ (hc : Nat) (ks ps qs : Nat → Nat) (As : Nat → VA), hc ≤ n ∧ M.1 29 0 = nI hc ∧ As 0 = A0 ∧ As hc = A ∧ ∀ j, j < hc → M.1 30 j = nI (ks j) ∧ M.1 31 j = nI (ps j) ∧ M.1 32 j = nI (qs j) ∧ AOK (As j) ∧ aStep (ks j) (ps j) (qs j) (As j) (As (j + 1))
theorem QT.to {n : Nat} {A : VA} {M M' : zMem} (r : QT n A M) (e : zeq 29 33 M M') : QT n A M' := by
  obtain ⟨hc, ks, ps, qs, As, h1, h2, h3, h4, h5⟩ := r
  refine ⟨hc, ks, ps, qs, As, h1, ?_, h3, h4, ?_⟩
  · rw [(e 29 (by decide) (by decide)).1]; exact h2
  · rw [(e 30 (by decide) (by decide)).1, (e 31 (by decide) (by decide)).1, (e 32 (by decide) (by decide)).1]; exact h5
theorem QT.up {n n' : Nat} {A : VA} {M : zMem} (r : QT n A M) (h : n ≤ n') : QT n' A M := by
  obtain ⟨hc, ks, ps, qs, As, h1, h2⟩ := r
  exact ⟨hc, ks, ps, qs, As, Nat.le_trans h1 h, h2⟩
/-- all -/
def JJ (n : Nat) (A : VA) (B : VB) (M : zMem) : Prop := (AOK A) ∧ (BOK A.V n B) ∧ (QA 1 A M) ∧ (QX A.V B M) ∧ (QM A B M) ∧ (QT n A M)
theorem JJ.aok {n : Nat} {A : VA} {B : VB} {M : zMem} (q0 : JJ n A B M) : AOK A := q0.1
theorem JJ.bok {n : Nat} {A : VA} {B : VB} {M : zMem} (q0 : JJ n A B M) : BOK A.V n B := q0.2.1
theorem JJ.ra {n : Nat} {A : VA} {B : VB} {M : zMem} (q0 : JJ n A B M) : QA 1 A M := q0.2.2.1
theorem JJ.rx {n : Nat} {A : VA} {B : VB} {M : zMem} (q0 : JJ n A B M) : QX A.V B M := q0.2.2.2.1
theorem JJ.rm {n : Nat} {A : VA} {B : VB} {M : zMem} (q0 : JJ n A B M) : QM A B M := q0.2.2.2.2.1
theorem JJ.rt {n : Nat} {A : VA} {B : VB} {M : zMem} (q0 : JJ n A B M) : QT n A M := q0.2.2.2.2.2
theorem JJ.mk {n : Nat} {A : VA} {B : VB} {M : zMem} (h0 : AOK A) (h1 : BOK A.V n B) (h2 : QA 1 A M) (h3 : QX A.V B M) (h4 : QM A B M) (h5 : QT n A M) : JJ n A B M := ⟨h0, h1, h2, h3, h4, h5⟩
