/-! pure: numbers and bits -/
theorem q_zb {x : Int32} {M : zMem} {k : Int32 → zMem → zRES} : zb (some (.inl x, M)) k = k x M := rfl
theorem q_zbr {x : Nat} {M : zMem} {k : Int32 → zMem → zRES} : zb (some (.inr x, M)) k = some (.inr x, M) := rfl
theorem q_zbl {x : Int32} {M : zMem} {k : Int32 → zMem → zRES} : zbl (some (.inl x, M)) k = k x M := rfl
theorem q_zbx {x : Int32} {M : zMem} {k : Int32 → zMem → zRES} {h : Nat → zMem → zRES} : zbx (some (.inl x, M)) k h = k x M := rfl
theorem q_zbxr {x : Nat} {M : zMem} {k : Int32 → zMem → zRES} {h : Nat → zMem → zRES} : zbx (some (.inr x, M)) k h = h x M := rfl
theorem q_zl {a : zMem} {k : zMem → zRES} : zl a k = k a := rfl
theorem q_zv {x : Int32} {k : Int32 → zRES} : zv x k = k x := rfl
/-- slot of a world after a write -/
theorem q_s1 {M : zMem} {k j a i : Nat} {x : Int32} : (zsI M k j x).1 a i = if a = k ∧ i = j then x else M.1 a i := by
  by_cases h : a = k
  · subst h
    rw [zsI_s]
    by_cases h2 : i = j
    · subst h2; rw [pk_us, if_pos ⟨rfl, rfl⟩]
    · rw [pk_un h2, if_neg (fun q => h2 q.2)]
  · rw [zsI_n h, if_neg (fun q => h q.1)]
theorem q_s2 {M : zMem} {k j a i : Nat} {x : Int64} : (zsL M k j x).2 a i = if a = k ∧ i = j then x else M.2 a i := by
  by_cases h : a = k
  · subst h
    rw [zsL_s]
    by_cases h2 : i = j
    · subst h2; rw [pk_uLs, if_pos ⟨rfl, rfl⟩]
    · rw [pk_uLn h2, if_neg (fun q => h2 q.2)]
  · rw [zsL_n h, if_neg (fun q => h q.1)]
theorem q_or (a b : Nat) : nI a ||| nI b = nI (a ||| b) := by
  apply Int32.toBitVec_inj.mp
  show BitVec.ofNat 32 a ||| BitVec.ofNat 32 b = BitVec.ofNat 32 (a ||| b)
  exact (BitVec.ofNat_or).symm
theorem q_and (a b : Nat) : nI a &&& nI b = nI (a &&& b) := by
  apply Int32.toBitVec_inj.mp
  show BitVec.ofNat 32 a &&& BitVec.ofNat 32 b = BitVec.ofNat 32 (a &&& b)
  exact (BitVec.ofNat_and).symm
theorem q_shl {v : Nat} (h : v < 32) : (1 : Int32) <<< (nI v &&& 31) = nI (2 ^ v) := by
  have key : ∀ v, v < 32 → (1 : Int32) <<< (nI v &&& 31) = nI (2 ^ v) := by decide +kernel
  exact key v h
theorem q_bit {n v : Nat} (hn : n < 2 ^ 31) (h : v < 32) : (nI n >>> (nI v &&& 31)) &&& 1 = nI (n.testBit v).toNat := by
  have key : ∀ v, v < 32 → ((nI v &&& 31).toBitVec.smod 32).toNat = v := by decide +kernel
  rw [pk_shrN hn _ v (key v h), pk_andN (by exact Nat.lt_of_le_of_lt (Nat.div_le_self _ _) (by omega)) 1 rfl, Nat.toNat_testBit, Nat.pow_one]
def lbit (x : Int64) (v : Nat) : Bool := x.toBitVec.getLsbD v
theorem q_cmp0 (x : Int64) : lg_cmp x 0 = 0 ↔ x = 0 := by
  unfold lg_cmp
  by_cases h1 : x = 0
  · subst h1
    exact iff_of_true (by decide) rfl
  · by_cases h2 : x > 0
    · rw [if_pos h2]; exact iff_of_false (by decide) h1
    · rw [if_neg h2, if_neg h1]; exact iff_of_false (by decide) h1
theorem q_cmp (x : Int64) : lg_cmp x x = 0 := by
  unfold lg_cmp
  rw [if_neg (by intro h; exact absurd (Int64.lt_iff_toInt_lt.mp h) (by omega)), if_pos rfl]
theorem q_has (N : Nat) (x : Int64) {v : Nat} (h : v < 64) (M : zMem) : fX7_contains N x (nI v) M = some (.inl (nI (lbit x v).toNat), M) := by
  have key : ∀ v, v < 64 → ((nI v).toInt64.toUInt64 &&& Int64.toUInt64 63).toBitVec % 64 = BitVec.ofNat 64 v := by decide +kernel
  have e : (((x.toUInt64 >>> ((nI v).toInt64.toUInt64 &&& Int64.toUInt64 63)).toInt64) &&& 1) = 0 ↔ lbit x v = false := by
    rw [← Int64.toBitVec_inj]
    show (x.toUInt64 >>> ((nI v).toInt64.toUInt64 &&& Int64.toUInt64 63)).toBitVec &&& 1#64 = 0#64 ↔ _
    rw [UInt64.toBitVec_shiftRight, key v h]
    show (x.toBitVec >>> BitVec.ofNat 64 v) &&& 1#64 = 0#64 ↔ _
    rw [BitVec.ushiftRight_eq', BitVec.toNat_ofNat, Nat.mod_eq_of_lt (by omega), BitVec.and_one_eq_setWidth_ofBool_getLsbD, BitVec.getLsbD_ushiftRight, Nat.add_zero]
    unfold lbit
    cases x.toBitVec.getLsbD v <;> decide
  unfold fX7_contains
  by_cases c : lbit x v = false
  · rw [if_pos ((q_cmp0 _).mpr (e.mpr c)), c]; rfl
  · rw [if_neg (fun q => c (e.mp ((q_cmp0 _).mp q)))]
    cases hb : lbit x v
    · exact absurd hb c
    · rfl
theorem q_lset (x : Int64) {v w : Nat} (h : v < 64) (hw : w < 64) : lbit (x ||| ((1 : Int64) <<< ((nI v).toInt64 &&& 63))) w = (lbit x w || decide (w = v)) := by
  have key : ∀ v, v < 64 → ∀ w, w < 64 → ((1 : Int64) <<< ((nI v).toInt64 &&& 63)).toBitVec.getLsbD w = decide (w = v) := by decide +kernel
  show (x.toBitVec ||| ((1 : Int64) <<< ((nI v).toInt64 &&& 63)).toBitVec).getLsbD w = _
  rw [BitVec.getLsbD_or, key v h w hw]
  rfl
theorem q_lclr (x : Int64) {v w : Nat} (h : v < 64) (hw : w < 64) : lbit (x &&& (((1 : Int64) <<< ((nI v).toInt64 &&& 63)) ^^^ (-1))) w = (lbit x w && !decide (w = v)) := by
  have key : ∀ v, v < 64 → ∀ w, w < 64 → (((1 : Int64) <<< ((nI v).toInt64 &&& 63)) ^^^ (-1)).toBitVec.getLsbD w = !decide (w = v) := by decide +kernel
  show (x.toBitVec &&& (((1 : Int64) <<< ((nI v).toInt64 &&& 63)) ^^^ (-1)).toBitVec).getLsbD w = _
  rw [BitVec.getLsbD_and, key v h w hw]
  rfl
theorem q_lnot (x y : Int64) {w : Nat} (hw : w < 64) : lbit (x &&& (y ^^^ (-1))) w = (lbit x w && !lbit y w) := by
  have key : ∀ w, w < 64 → ((-1 : Int64)).toBitVec.getLsbD w = true := by decide +kernel
  show (x.toBitVec &&& (y.toBitVec ^^^ ((-1 : Int64)).toBitVec)).getLsbD w = _
  rw [BitVec.getLsbD_and, BitVec.getLsbD_xor, key w hw]
  unfold lbit
  cases x.toBitVec.getLsbD w <;> cases y.toBitVec.getLsbD w <;> rfl
theorem q_lofI {n v : Nat} (hn : n < 2 ^ 31) (hv : v < 64) : lbit (nI n).toInt64 v = n.testBit v := by
  rw [nI_l hn]
  show (BitVec.ofNat 64 n).getLsbD v = _
  rw [BitVec.getLsbD_ofNat, decide_eq_true hv, Bool.true_and]
/-- the number of the five lowest bits that stand -/
def p5 (s : Nat) : Nat := (s.testBit 0).toNat + (s.testBit 1).toNat + (s.testBit 2).toNat + (s.testBit 3).toNat + (s.testBit 4).toNat
theorem q_count (N : Nat) {s : Nat} (h : s < 32) (M : zMem) : fJ6_bitCount_0f7a4 N (nI s) M = some (.inl (nI (p5 s)), M) := by
  have key : ∀ s, s < 32 → (fun (p1 : Int32) => (let x1 := (p1 - (((p1.toUInt32 >>> ((1 : Int32).toUInt32 &&& Int32.toUInt32 31)).toInt32) &&& 1431655765))
    let x2 := ((x1 &&& 858993459) + (((x1.toUInt32 >>> ((2 : Int32).toUInt32 &&& Int32.toUInt32 31)).toInt32) &&& 858993459))
    let x3 := ((x2 + ((x2.toUInt32 >>> ((4 : Int32).toUInt32 &&& Int32.toUInt32 31)).toInt32)) &&& 252645135)
    let x4 := (x3 + ((x3.toUInt32 >>> ((8 : Int32).toUInt32 &&& Int32.toUInt32 31)).toInt32))
    let x5 := (x4 + ((x4.toUInt32 >>> ((16 : Int32).toUInt32 &&& Int32.toUInt32 31)).toInt32))
    (x5 &&& 63))) (nI s) = nI (p5 s) := by decide +kernel
  have k2 := key s h
  unfold fJ6_bitCount_0f7a4
  dsimp only [zv]
  dsimp only at k2
  rw [k2]
/-- the set without b -/
def pclr (s b : Nat) : Nat := s &&& (31 ^^^ 2 ^ b)
theorem q_clr {s b : Nat} (hs : s < 32) (hb : b < 5) : nI s &&& (((1 : Int32) <<< (nI b &&& 31)) ^^^ (-1)) = nI (pclr s b) := by
  have key : ∀ s, s < 32 → ∀ b, b < 5 → nI s &&& (((1 : Int32) <<< (nI b &&& 31)) ^^^ (-1)) = nI (pclr s b) := by decide +kernel
  exact key s hs b hb
theorem q_clrlt {s b : Nat} : pclr s b < 32 ∨ ¬ s < 32 := by
  by_cases h : s < 32
  · exact Or.inl (Nat.lt_of_le_of_lt Nat.and_le_left h)
  · exact Or.inr h
theorem q_orlt {s b : Nat} (hs : s < 32) (hb : b < 5) : s ||| 2 ^ b < 32 := by
  have key : ∀ s, s < 32 → ∀ b, b < 5 → s ||| 2 ^ b < 32 := by decide +kernel
  exact key s hs b hb
theorem q_clrb {s b c : Nat} (hs : s < 32) (hb : b < 5) (hc : c < 5) : (pclr s b).testBit c = (s.testBit c && !decide (c = b)) := by
  have key : ∀ s, s < 32 → ∀ b, b < 5 → ∀ c, c < 5 → (pclr s b).testBit c = (s.testBit c && !decide (c = b)) := by decide +kernel
  exact key s hs b hb c hc
theorem q_orb {s b c : Nat} (hs : s < 32) (hb : b < 5) (hc : c < 5) : (s ||| 2 ^ b).testBit c = (s.testBit c || decide (c = b)) := by
  have key : ∀ s, s < 32 → ∀ b, b < 5 → ∀ c, c < 5 → (s ||| 2 ^ b).testBit c = (s.testBit c || decide (c = b)) := by decide +kernel
  exact key s hs b hb c hc
theorem q_ext5 {s t : Nat} (hs : s < 32) (ht : t < 32) (h : ∀ b, b < 5 → s.testBit b = t.testBit b) : s = t := by
  apply Nat.eq_of_testBit_eq
  intro i
  by_cases hi : i < 5
  · exact h i hi
  · have hp : (32 : Nat) ≤ 2 ^ i := Nat.pow_le_pow_right (n := 2) (by decide) (show 5 ≤ i by omega)
    rw [Nat.testBit_lt_two_pow (Nat.lt_of_lt_of_le hs hp), Nat.testBit_lt_two_pow (Nat.lt_of_lt_of_le ht hp)]
