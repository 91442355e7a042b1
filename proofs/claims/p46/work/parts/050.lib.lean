/-! THE ABSTRACT MACHINE: the heap as numbers (a cell by its index, a slot by its place), and the judgement zG over it -/
def zgd : Cond → Bool
  | .declares _ => true
  | .castable _ _ => true
  | .methodLinkNest _ _ _ _ => true
  | .stringRef _ _ _ => true
  | w => goodWord w
theorem zstr {own tx : String} {k : Nat} {s : State} {a : Array Value} (h : (Cond.stringRef own k tx).before a s = true) : ∃ q, vk_R own k tx q s := by
  have hcur : ∃ cur, s.vm.findClass own = some cur := by
    have h1 := h
    simp only [Cond.before, Cond.holds, Cond.value] at h1
    cases hc : s.vm.findClass own with
    | none => simp [hc] at h1
    | some cur => exact ⟨cur, rfl⟩
  obtain ⟨cur, hcur⟩ := hcur
  have h0 : (Cond.stringRef own k tx).before #[] s = true := h
  obtain ⟨_, _, _, q, -, -, -, -, -, hev⟩ := Cond.stringRef_spec hcur h0
  exact ⟨q, vk_R.of h0 hev⟩
theorem zstr_warm {own tx : String} {k : Nat} {s U : State} (hW : s.WarmedH U.vm) {a a' : Array Value} (h : (Cond.stringRef own k tx).before a s = true) : (Cond.stringRef own k tx).before a' U = true := by
  obtain ⟨q, hq⟩ := zstr h
  exact (vk_R.warm hW hq).1
theorem zgd_warm {w : Cond} (hg : zgd w = true) {s U : State} (hW : s.WarmedH U.vm) {a a' : Array Value} (h : w.before a s = true) : w.before a' U = true := by
  cases w <;> first
    | exact va_Nw.use rfl (va_Nw.warmD hW (va_Nw.of rfl h))
    | exact va_Nw.use rfl (va_Nw.warmC hW (va_Nw.of rfl h))
    | exact va_Nw.use rfl (va_Nw.warmM hW (va_Nw.of rfl h))
    | exact zstr_warm hW h
    | exact word_at hW (good_of_word hg) h
def zTs : List Cond := lw_tbl.filter zgd
theorem zTs_in {w : Cond} (h : w ∈ lw_tbl) (hg : zgd w = true) : w ∈ zTs := List.mem_filter.mpr ⟨h, hg⟩
theorem zTs_at (i : Nat) {w : Cond} (h : lw_tbl[i]? = some w) (hg : zgd w = true) : w ∈ zTs := zTs_in (List.mem_of_getElem? h) hg
abbrev zMem : Type := (Nat → Nat → Int32) × (Nat → Nat → Int64)
abbrev zR1 : Type := (Int32 ⊕ Nat) × zMem
abbrev zRES : Type := Option zR1
abbrev zZ : Type := va_G × ClassId × ClassId × ClassId
def zsI (M : zMem) (k j : Nat) (x : Int32) : zMem := (fun a => if a = k then upd (M.1 a) j x else M.1 a, M.2)
def zsL (M : zMem) (k j : Nat) (x : Int64) : zMem := (M.1, fun a => if a = k then vp_updL (M.2 a) j x else M.2 a)
/-- the index is in range -/
def zin (i : Int32) (n : Nat) : Bool := !(decide (i < 0)) && decide (i.toNatClampNeg < n)
theorem zin_in {i : Int32} {n : Nat} (h : zin i n = true) : vp_in i n := by
  simp only [zin, Bool.and_eq_true, Bool.not_eq_true', decide_eq_false_iff_not, decide_eq_true_eq] at h
  rintro (q | q)
  · exact h.1 q
  · omega
theorem zin_lt {i : Int32} {n : Nat} (h : zin i n = true) : i.toNatClampNeg < n := by
  simp only [zin, Bool.and_eq_true, Bool.not_eq_true', decide_eq_false_iff_not, decide_eq_true_eq] at h
  exact h.2
/-- which cell is what: (0, the class), (1, an int row of so many), (2, a long row of so many), (3, a row of so many int rows, which come behind it) -/
def zK : Nat → Nat × Nat := fun k => match k with
  | 0 => (0, 7)
  | 1 => (0, 0) | 2 => (1, 5) | 3 => (1, 5) | 4 => (1, 5) | 5 => (1, 5) | 6 => (3, 5) | 7 => (1, 20) | 8 => (1, 20) | 9 => (1, 20) | 10 => (1, 20) | 11 => (1, 20) | 12 => (1, 5) | 13 => (1, 60) | 14 => (1, 60)
  | 15 => (0, 0) | 16 => (1, 5) | 17 => (1, 5) | 18 => (1, 5) | 19 => (1, 5) | 20 => (3, 5) | 21 => (1, 20) | 22 => (1, 20) | 23 => (1, 20) | 24 => (1, 20) | 25 => (1, 20) | 26 => (1, 5) | 27 => (1, 60) | 28 => (1, 60)
  | 29 => (0, 3) | 30 => (1, 512) | 31 => (1, 512) | 32 => (1, 512)
  | 33 => (0, 6) | 34 => (1, 60) | 35 => (1, 60) | 36 => (1, 60)
  | 37 => (0, 2) | 38 => (3, 5) | 39 => (1, 200) | 40 => (1, 200) | 41 => (1, 200) | 42 => (1, 200) | 43 => (1, 200) | 44 => (1, 5)
  | 45 => (0, 4) | 46 => (3, 5) | 47 => (1, 51) | 48 => (1, 51) | 49 => (1, 51) | 50 => (1, 51) | 51 => (1, 51) | 52 => (1, 5)
  | 53 => (0, 1) | 54 => (1, 60) | 55 => (1, 60) | 56 => (1, 60) | 57 => (1, 60)
  | 58 => (0, 5) | 59 => (1, 512) | 60 => (1, 512) | 61 => (1, 512)
  | 62 => (0, 8) | 63 => (1, 5) | 64 => (1, 5) | 65 => (1, 5) | 66 => (1, 5) | 67 => (1, 100) | 68 => (1, 5) | 69 => (1, 60) | 70 => (1, 60) | 71 => (1, 60) | 72 => (1, 60) | 73 => (1, 60) | 74 => (1, 60)
  | 75 => (1, 5255) | 76 => (1, 16) | 77 => (1, 1000) | 78 => (1, 5) | 79 => (1, 5) | 80 => (1, 60) | 81 => (1, 60) | 82 => (1, 60) | 83 => (1, 60) | 84 => (1, 2400) | 85 => (1, 2400) | 86 => (1, 2400)
  | 87 => (2, 1)
  | _ => (9, 0)
def zfull : Nat → Bool := fun k => decide (k < 62)
/-- the fields of an object, by its class -/
def zF (ci : Nat) (ad : Nat → Nat) (k : Nat) (f : Nat → Int32) (g : Nat → Int64) : List Value := match ci with
  | 0 => [.int (f 0), .ref (ad (k + 1)), .ref (ad (k + 2)), .ref (ad (k + 3)), .ref (ad (k + 4)), .ref (ad (k + 5)), .ref (ad (k + 11)), .int (f 7), .ref (ad (k + 12)), .ref (ad (k + 13)), .long (g 10), .long (g 11)]
  | 1 => [.int (f 0), .ref (ad (k + 1)), .ref (ad (k + 2)), .ref (ad (k + 3)), .ref (ad (k + 4))]
  | 2 => [.int (f 0), .int (f 1), .ref (ad (k + 1)), .ref (ad (k + 7))]
  | 3 => [.int (f 0), .ref (ad (k + 1)), .ref (ad (k + 2)), .ref (ad (k + 3))]
  | 4 => [.int (f 0), .ref (ad (k + 1)), .ref (ad (k + 7))]
  | 5 => [.int (f 0), .ref (ad (k + 1)), .ref (ad (k + 2)), .ref (ad (k + 3))]
  | 6 => [.ref (ad (k + 1)), .ref (ad (k + 2)), .ref (ad (k + 3))]
  | 7 => [.ref (ad (k + 1)), .ref (ad (k + 15)), .ref (ad (k + 29)), .ref (ad (k + 33)), .ref (ad (k + 37)), .ref (ad (k + 45)), .ref (ad (k + 53)), .ref (ad (k + 58))]
  | 8 => [.int (f 0), .ref (ad (k + 1)), .ref (ad (k + 2)), .ref (ad (k + 3)), .ref (ad (k + 4)), .ref (ad (k + 5)), .ref (ad (k + 6)), .int (f 7), .ref (ad (k + 7)), .ref (ad (k + 8)), .ref (ad (k + 9)), .ref (ad (k + 10)), .ref (ad (k + 11)), .ref (ad (k + 12)), .int (f 14), .ref (ad (k + 13)), .int (f 16), .ref (ad (k + 14)), .ref (ad (k + 15)), .ref (ad (k + 16)), .ref (ad (k + 17)), .int (f 21), .ref (ad (k + 18)), .ref (ad (k + 19)), .ref (ad (k + 20)), .ref (ad (k + 21)), .int (f 26), .ref (ad (k + 22)), .ref (ad (k + 23)), .ref (ad (k + 24)), .int (f 30)]
  | _ => []
def zE (Z : zZ) (ad : Nat → Nat) (k : Nat) (f : Nat → Int32) (g : Nat → Int64) : va_E := match (zK k).1 with
  | 0 => .inr ((zK k).2, zF (zK k).2 ad k f g)
  | 1 => .inl (Z.2.1, (zK k).2, .inl f)
  | 2 => .inl (Z.2.2.1, (zK k).2, .inr (.inl g))
  | _ => .inl (Z.2.2.2, (zK k).2, .inr (.inr (.inr (.inr (fun i => if i < (zK k).2 then some (ad (k + 1 + i)) else none)))))
theorem zE_0 {Z : zZ} {ad : Nat → Nat} {k ci : Nat} {f : Nat → Int32} {g : Nat → Int64} (h : zK k = (0, ci)) : zE Z ad k f g = .inr (ci, zF ci ad k f g) := by simp only [zE, h]
theorem zE_1 {Z : zZ} {ad : Nat → Nat} {k n : Nat} {f : Nat → Int32} {g : Nat → Int64} (h : zK k = (1, n)) : zE Z ad k f g = .inl (Z.2.1, n, .inl f) := by simp only [zE, h]
theorem zE_2 {Z : zZ} {ad : Nat → Nat} {k n : Nat} {f : Nat → Int32} {g : Nat → Int64} (h : zK k = (2, n)) : zE Z ad k f g = .inl (Z.2.2.1, n, .inr (.inl g)) := by simp only [zE, h]
theorem zE_3 {Z : zZ} {ad : Nat → Nat} {k n : Nat} {f : Nat → Int32} {g : Nat → Int64} (h : zK k = (3, n)) : zE Z ad k f g = .inl (Z.2.2.2, n, .inr (.inr (.inr (.inr (fun i => if i < n then some (ad (k + 1 + i)) else none))))) := by simp only [zE, h]
/-- the world: every cell that lives holds what the numbers say, and the cells are apart -/
def zW (Z : zZ) (lv : Nat → Bool) (ad : Nat → Nat) (M : zMem) (H : Heap) : Prop := (∀ k, lv k = true → va_at Z.1 vwCl (ad k, zE Z ad k (M.1 k) (M.2 k)) H) ∧ ∀ i j, lv i = true → lv j = true → ad i = ad j → i = j
def zA (lv : Nat → Bool) (ad : Nat → Nat) (sz : Nat) : Nat → Prop := fun q => (∃ k, lv k = true ∧ q = ad k) ∨ sz ≤ q
theorem zW.kept {Z : zZ} {lv : Nat → Bool} {ad : Nat → Nat} {M : zMem} {H H1 : Heap} (h : zW Z lv ad M H) (hq : ∀ k, lv k = true → H1[ad k]? = H[ad k]?) : zW Z lv ad M H1 := ⟨fun k hk => (h.1 k hk).kept (hq k hk), h.2⟩
theorem zW.lt {Z : zZ} {lv : Nat → Bool} {ad : Nat → Nat} {M : zMem} {H : Heap} (h : zW Z lv ad M H) {k : Nat} (hk : lv k = true) : ad k < H.size := (h.1 k hk).lt
theorem zW.setI {Z : zZ} {lv : Nat → Bool} {ad : Nat → Nat} {M : zMem} {H H1 : Heap} (h : zW Z lv ad M H) {k j : Nat} {x : Int32} (hk : lv k = true) (he : va_at Z.1 vwCl (ad k, zE Z ad k (upd (M.1 k) j x) (M.2 k)) H1) (oq : ∀ q : Nat, q ≠ ad k → H1[q]? = H[q]?) : zW Z lv ad (zsI M k j x) H1 := by
  refine ⟨fun i hi => ?_, h.2⟩
  by_cases e : i = k
  · subst e
    have e1 : (zsI M i j x).1 i = upd (M.1 i) j x := if_pos rfl
    rw [e1]
    exact he
  · have e1 : (zsI M k j x).1 i = M.1 i := if_neg e
    rw [e1]
    exact (h.1 i hi).kept (oq _ (fun q => e (h.2 i k hi hk q)))
theorem zW.setL {Z : zZ} {lv : Nat → Bool} {ad : Nat → Nat} {M : zMem} {H H1 : Heap} (h : zW Z lv ad M H) {k j : Nat} {x : Int64} (hk : lv k = true) (he : va_at Z.1 vwCl (ad k, zE Z ad k (M.1 k) (vp_updL (M.2 k) j x)) H1) (oq : ∀ q : Nat, q ≠ ad k → H1[q]? = H[q]?) : zW Z lv ad (zsL M k j x) H1 := by
  refine ⟨fun i hi => ?_, h.2⟩
  by_cases e : i = k
  · subst e
    have e1 : (zsL M i j x).2 i = vp_updL (M.2 i) j x := if_pos rfl
    rw [e1]
    exact he
  · have e1 : (zsL M k j x).2 i = M.2 i := if_neg e
    rw [e1]
    exact (h.1 i hi).kept (oq _ (fun q => e (h.2 i k hi hk q)))
theorem zone {D : va_G} {cl : List vw_C} {q : Nat × va_E} {H : Heap} (h : va_at D cl q H) : va_P D cl [q] H := by
  intro i q' hq
  match i, hq with
  | 0, hq => cases hq; exact h
  | i + 1, hq => simp at hq
def zNcs : List (String × String) := [("java/lang/IndexOutOfBoundsException", "java/lang/IllegalStateException"), ("java/lang/IllegalArgumentException", "java/lang/IllegalStateException")]
def zty (Z : zZ) : List (ClassId × FieldType) := [(Z.2.1, .int), (Z.2.2.2, .array .int)]
/-- what holds of the machine's tables, all along -/
def zS (Z : zZ) (s : State) : Prop := (∀ w ∈ zTs, ∀ a, w.before a s = true) ∧ va_K Z.1 vwCl (zty Z) s ∧ ∀ q ∈ zNcs, va_Nc q.1 q.2 s
theorem zS.warm {Z : zZ} {s U : State} (h : zS Z s) (hW : s.WarmedH U.vm) : zS Z U :=
  ⟨fun w hw a => zgd_warm (List.mem_filter.mp hw).2 hW (h.1 w hw a), va_K.moved hW.alike h.2.1, fun q hq => va_Nc.moved hW.alike (h.2.2 q hq)⟩
/-- the two statics that a throw reads -/
def zQ (A : Nat → Prop) (U : State) (H : Heap) : Prop := vx_Zq Bundle.tN "UNASSIGNED_STACK" Bundle.steD A U H ∧ vx_Zq Bundle.tN "SUPPRESSED_SENTINEL" Bundle.listD A U H
theorem zQ.go {A B : Nat → Prop} {s U : State} {H0 H1 : Heap} (h : zQ A s H0) (hvm : s.vm.Alike U.vm) (hq : ∀ a : Nat, a < H0.size → ¬ A a → H1[a]? = H0[a]?) (hAB : ∀ q, B q → A q) : zQ B U H1 :=
  ⟨((h.1.moved hvm).kept hq).narrow hAB, ((h.2.moved hvm).kept hq).narrow hAB⟩
abbrev zX : Type := Program × Env × Room × State × MethodId × Array Value × List Frame × Method × Code × (Nat → Prop) × Nat × (zR1 → State → Prop)
/-- from the frame at pc, with these locals and this stack over the world M, the machine comes to the end that o tells (if o tells one) -/
def zG (l : Launch) (Z : zZ) (lv : Nat → Bool) (ad : Nat → Nat) (X : zX) (cs : Nat × Nat) (pc : Nat) (L : List (Nat × Value)) (S : List Value) (M : zMem) (o : zRES) : Prop := match X with
  | (p, e, R, s, m, args, below, meth, c, A, nL, Qf) => ∀ r : zR1, o = some r → ((∀ x, r.1 = .inr x → cs.1 + 1 ≤ R.cells ∧ cs.2 + 6 ≤ R.slots) ∧ cs.1 ≤ R.cells ∧ cs.2 ≤ R.slots) → ∀ (H : Heap) (locs : List Loc) (ls : Array Slot), zW Z lv ad M H → va_S A s.heap H locs → lv_has ls nL L →
      W p l e R s m args below meth c H locs cs.1 cs.2 (Qf r) (F0 m pc ls S)
def zC (l : Launch) (Z : zZ) (lv : Nat → Bool) (ad : Nat → Nat) (X : zX) (own : String) (cc : ByteArray) (nL : Nat) (ret : Option FieldType) (d : Nat) : Prop := match X with
  | (p, e, R, s, m, args, below, meth, c, A, nL', Qf) => p.tables.exec = Jvm.exec ∧ c.code = cc ∧ (nL' = nL ∧ c.maxLocals = nL) ∧ s.vm.findClass own = some m.cls ∧ zS Z s ∧ l.stackTraces = false ∧ meth.locks = false ∧ meth.sig.returnType = ret ∧ (d ≤ R.frames ∧ 34 * d + 22 ≤ R.locals) ∧ (∀ q, s.heap.size ≤ q → A q) ∧ (∀ k, lv k = true → A (ad k)) ∧ zQ A s s.heap
theorem zg_none {l : Launch} {Z : zZ} {lv : Nat → Bool} {ad : Nat → Nat} {X : zX} {cs : Nat × Nat} {pc : Nat} {L : List (Nat × Value)} {S : List Value} {M : zMem} : zG l Z lv ad X cs pc L S M none := by
  obtain ⟨p, e, R, s, m, args, below, meth, c, A, nL, Qf⟩ := X
  intro r h
  cases h
section ZG
variable {l : Launch} {Z : zZ} {lv : Nat → Bool} {ad : Nat → Nat} {X : zX} {cs : Nat × Nat} {own : String} {cc : ByteArray} {nL : Nat} {ret : Option FieldType} {d : Nat} {pc : Nat} {L L' : List (Nat × Value)} {S : List Value} {M : zMem} {o o1 o2 : zRES}
theorem zg_eq {o' : zRES} (h : o = o') (k : zG l Z lv ad X cs pc L S M o') : zG l Z lv ad X cs pc L S M o := h ▸ k
theorem zg_sub (ps : List Nat) (hl : lv_pick L ps = L') (k : zG l Z lv ad X cs pc L' S M o) : zG l Z lv ad X cs pc L S M o := by
  obtain ⟨p, e, R, s, m, args, below, meth, c, A, nL, Qf⟩ := X
  intro r hr hx H locs ls hW hS hL
  exact k r hr hx H locs ls hW hS (lv_sub hL ps hl)
theorem zg_iconst (hC : zC l Z lv ad X own cc nL ret d) {n : Int} {v : Int32} (hd : decode cc pc = .ok (.iconst n, 1)) (hv : Int32.ofInt n = v) (k : zG l Z lv ad X cs (pc + 1) L (.int v :: S) M o) : zG l Z lv ad X cs pc L S M o := by
  obtain ⟨p, e, R, s, m, args, below, meth, c, A, nL, Qf⟩ := X
  intro r hr hx H locs ls hW hS hL
  exact lv_iconst hC.1 hC.2.1 hd hv (k r hr hx H locs ls hW hS hL)
theorem zg_bipush (hC : zC l Z lv ad X own cc nL ret d) {n : Int} {v : Int32} (hd : decode cc pc = .ok (.bipush n, 2)) (hv : (Int8.ofInt n).toInt32 = v) (k : zG l Z lv ad X cs (pc + 2) L (.int v :: S) M o) : zG l Z lv ad X cs pc L S M o := by
  obtain ⟨p, e, R, s, m, args, below, meth, c, A, nL, Qf⟩ := X
  intro r hr hx H locs ls hW hS hL
  exact lv_bipush hC.1 hC.2.1 hd hv (k r hr hx H locs ls hW hS hL)
theorem zg_sipush (hC : zC l Z lv ad X own cc nL ret d) {n : Int} {v : Int32} (hd : decode cc pc = .ok (.sipush n, 3)) (hv : (Int16.ofInt n).toInt32 = v) (k : zG l Z lv ad X cs (pc + 3) L (.int v :: S) M o) : zG l Z lv ad X cs pc L S M o := by
  obtain ⟨p, e, R, s, m, args, below, meth, c, A, nL, Qf⟩ := X
  intro r hr hx H locs ls hW hS hL
  exact lv_sipush hC.1 hC.2.1 hd hv (k r hr hx H locs ls hW hS hL)
theorem zg_lconst (hC : zC l Z lv ad X own cc nL ret d) {n : Fin 2} {v : Int64} (hd : decode cc pc = .ok (.lconst n, 1)) (hv : Int64.ofNat (n : Nat) = v) (k : zG l Z lv ad X cs (pc + 1) L (.long v :: S) M o) : zG l Z lv ad X cs pc L S M o := by
  obtain ⟨p, e, R, s, m, args, below, meth, c, A, nL, Qf⟩ := X
  intro r hr hx H locs ls hW hS hL
  exact lv_lconst hC.1 hC.2.1 hd hv (k r hr hx H locs ls hW hS hL)
theorem zg_ldc (hC : zC l Z lv ad X own cc nL ret d) {i : Nat} {v : Int32} (hd : decode cc pc = .ok (.ldc i, 2)) (hw : Cond.constant own i v ∈ zTs) (k : zG l Z lv ad X cs (pc + 2) L (.int v :: S) M o) : zG l Z lv ad X cs pc L S M o := by
  obtain ⟨p, e, R, s, m, args, below, meth, c, A, nL, Qf⟩ := X
  intro r hr hx H locs ls hW hS hL
  exact lv_ldc hC.1 hC.2.1 hC.2.2.2.1 (hC.2.2.2.2.1.1 _ hw _) hd (k r hr hx H locs ls hW hS hL)
theorem zg_ldcw (hC : zC l Z lv ad X own cc nL ret d) {i : Nat} {v : Int32} (hd : decode cc pc = .ok (.ldc_w i, 3)) (hw : Cond.constant own i v ∈ zTs) (k : zG l Z lv ad X cs (pc + 3) L (.int v :: S) M o) : zG l Z lv ad X cs pc L S M o := by
  obtain ⟨p, e, R, s, m, args, below, meth, c, A, nL, Qf⟩ := X
  intro r hr hx H locs ls hW hS hL
  exact lv_ldcw hC.1 hC.2.1 hC.2.2.2.1 (hC.2.2.2.2.1.1 _ hw _) hd (k r hr hx H locs ls hW hS hL)
theorem zg_ldc2 (hC : zC l Z lv ad X own cc nL ret d) {i : Nat} {v : Int64} (hd : decode cc pc = .ok (.ldc2_w i, 3)) (hw : Cond.constantLong own i v ∈ zTs) (k : zG l Z lv ad X cs (pc + 3) L (.long v :: S) M o) : zG l Z lv ad X cs pc L S M o := by
  obtain ⟨p, e, R, s, m, args, below, meth, c, A, nL, Qf⟩ := X
  intro r hr hx H locs ls hW hS hL
  exact lv_ldc2 hC.1 hC.2.1 hC.2.2.2.1 (hC.2.2.2.2.1.1 _ hw _) hd (k r hr hx H locs ls hW hS hL)
theorem zg_iload_n (hC : zC l Z lv ad X own cc nL ret d) {j : Fin 4} {x : Int32} (n : Nat) (hd : decode cc pc = .ok (.iload_n j, 1)) (hl : L[n]? = some ((j : Nat), .int x)) (k : zG l Z lv ad X cs (pc + 1) L (.int x :: S) M o) : zG l Z lv ad X cs pc L S M o := by
  obtain ⟨p, e, R, s, m, args, below, meth, c, A, nL, Qf⟩ := X
  intro r hr hx H locs ls hW hS hL
  exact lv_iload_n hC.1 hC.2.1 hd rfl (lv_at hL n hl) (k r hr hx H locs ls hW hS hL)
theorem zg_iload (hC : zC l Z lv ad X own cc nL ret d) {j : Nat} {x : Int32} (n : Nat) (hd : decode cc pc = .ok (.iload j, 2)) (hl : L[n]? = some (j, .int x)) (k : zG l Z lv ad X cs (pc + 2) L (.int x :: S) M o) : zG l Z lv ad X cs pc L S M o := by
  obtain ⟨p, e, R, s, m, args, below, meth, c, A, nL, Qf⟩ := X
  intro r hr hx H locs ls hW hS hL
  exact lv_iload hC.1 hC.2.1 hd (lv_at hL n hl) (k r hr hx H locs ls hW hS hL)
theorem zg_lload_n (hC : zC l Z lv ad X own cc nL ret d) {j : Fin 4} {x : Int64} (n : Nat) (hd : decode cc pc = .ok (.lload_n j, 1)) (hl : L[n]? = some ((j : Nat), .long x)) (k : zG l Z lv ad X cs (pc + 1) L (.long x :: S) M o) : zG l Z lv ad X cs pc L S M o := by
  obtain ⟨p, e, R, s, m, args, below, meth, c, A, nL, Qf⟩ := X
  intro r hr hx H locs ls hW hS hL
  exact lv_lload_n hC.1 hC.2.1 hd rfl (lv_at hL n hl) (k r hr hx H locs ls hW hS hL)
theorem zg_aload_n (hC : zC l Z lv ad X own cc nL ret d) {j : Fin 4} {x : Nat} (n : Nat) (hd : decode cc pc = .ok (.aload_n j, 1)) (hl : L[n]? = some ((j : Nat), .ref x)) (k : zG l Z lv ad X cs (pc + 1) L (.ref x :: S) M o) : zG l Z lv ad X cs pc L S M o := by
  obtain ⟨p, e, R, s, m, args, below, meth, c, A, nL, Qf⟩ := X
  intro r hr hx H locs ls hW hS hL
  exact lv_aload_n hC.1 hC.2.1 hd rfl (lv_at hL n hl) (k r hr hx H locs ls hW hS hL)
theorem zg_aload (hC : zC l Z lv ad X own cc nL ret d) {j : Nat} {x : Nat} (n : Nat) (hd : decode cc pc = .ok (.aload j, 2)) (hl : L[n]? = some (j, .ref x)) (k : zG l Z lv ad X cs (pc + 2) L (.ref x :: S) M o) : zG l Z lv ad X cs pc L S M o := by
  obtain ⟨p, e, R, s, m, args, below, meth, c, A, nL, Qf⟩ := X
  intro r hr hx H locs ls hW hS hL
  exact lv_aload hC.1 hC.2.1 hd (lv_at hL n hl) (k r hr hx H locs ls hW hS hL)
theorem zg_istore_n (hC : zC l Z lv ad X own cc nL ret d) {j : Fin 4} {x : Int32} (hd : decode cc pc = .ok (.istore_n j, 1)) (hn : (j : Nat) < nL) (hl : ((j : Nat), Value.int x) :: L.filter (fun q => !(q.1 == (j : Nat)) && !(q.1 + 1 == (j : Nat) && q.2.category == 2)) = L') (k : zG l Z lv ad X cs (pc + 1) L' S M o) : zG l Z lv ad X cs pc L (.int x :: S) M o := by
  obtain ⟨p, e, R, s, m, args, below, meth, c, A, nL', Qf⟩ := X
  intro r hr hx H locs ls hW hS hL
  obtain ⟨rfl, hm⟩ := hC.2.2.1
  exact lv_istore_n hC.1 hC.2.1 hd rfl hL hn hl (fun ls hL => k r hr hx H locs ls hW hS hL)
theorem zg_istore (hC : zC l Z lv ad X own cc nL ret d) {j : Nat} {x : Int32} (hd : decode cc pc = .ok (.istore j, 2)) (hn : j < nL) (hl : (j, Value.int x) :: L.filter (fun q => !(q.1 == j) && !(q.1 + 1 == j && q.2.category == 2)) = L') (k : zG l Z lv ad X cs (pc + 2) L' S M o) : zG l Z lv ad X cs pc L (.int x :: S) M o := by
  obtain ⟨p, e, R, s, m, args, below, meth, c, A, nL', Qf⟩ := X
  intro r hr hx H locs ls hW hS hL
  obtain ⟨rfl, hm⟩ := hC.2.2.1
  exact lv_istore hC.1 hC.2.1 hd hL hn hl (fun ls hL => k r hr hx H locs ls hW hS hL)
theorem zg_ite {c : Prop} [Decidable c] (kt : c → zG l Z lv ad X cs pc L S M o1) (kf : ¬ c → zG l Z lv ad X cs pc L S M o2) : zG l Z lv ad X cs pc L S M (if c then o1 else o2) := by
  by_cases h : c
  · rw [if_pos h]; exact kt h
  · rw [if_neg h]; exact kf h
theorem zg_tswI (hC : zC l Z lv ad X own cc nL ret d) {dflt lo hi : Int} {offs : Array Int} {len : Nat} {x k : Int32} {off : Int} {tgt : Nat} (hx : x = k) (hd : decode cc pc = .ok (.tableswitch dflt lo hi offs, len)) (h1 : ¬ k.toInt < lo) (h2 : ¬ hi < k.toInt) (ho : offs[(k.toInt - lo).toNat]? = some off) (ht : (pc : Int) + off = (tgt : Int)) (kk : zG l Z lv ad X cs tgt L S M o) : zG l Z lv ad X cs pc L (.int x :: S) M o := by
  obtain ⟨p, e, R, s, m, args, below, meth, c, A, nL, Qf⟩ := X
  subst hx
  intro r hr hx H locs ls hW hS hL
  exact lv_tableIn hC.1 hC.2.1 hd h1 h2 ho ht (kk r hr hx H locs ls hW hS hL)
theorem zg_tswO (hC : zC l Z lv ad X own cc nL ret d) {dflt lo hi : Int} {offs : Array Int} {len : Nat} {x : Int32} {tgt : Nat} (hd : decode cc pc = .ok (.tableswitch dflt lo hi offs, len)) (h1 : x.toInt < lo ∨ hi < x.toInt) (ht : (pc : Int) + dflt = (tgt : Int)) (kk : zG l Z lv ad X cs tgt L S M o) : zG l Z lv ad X cs pc L (.int x :: S) M o := by
  obtain ⟨p, e, R, s, m, args, below, meth, c, A, nL, Qf⟩ := X
  intro r hr hx H locs ls hW hS hL
  exact lv_tableOut hC.1 hC.2.1 hd h1 ht (kk r hr hx H locs ls hW hS hL)
theorem zg_lstore_n (hC : zC l Z lv ad X own cc nL ret d) {j : Fin 4} {x : Int64} (hd : decode cc pc = .ok (.lstore_n j, 1)) (hn : (j : Nat) + 1 < nL) (hl : ((j : Nat), Value.long x) :: L.filter (fun q => !(q.1 == (j : Nat)) && (!(q.1 == (j : Nat) + 1) && !(q.1 + 1 == (j : Nat) && q.2.category == 2))) = L') (k : zG l Z lv ad X cs (pc + 1) L' S M o) : zG l Z lv ad X cs pc L (.long x :: S) M o := by
  obtain ⟨p, e, R, s, m, args, below, meth, c, A, nL', Qf⟩ := X
  intro r hr hx H locs ls hW hS hL
  obtain ⟨rfl, hm⟩ := hC.2.2.1
  exact lv_lstore_n hC.1 hC.2.1 hd rfl hL hn hl (fun ls hL => k r hr hx H locs ls hW hS hL)
theorem zg_astore_n (hC : zC l Z lv ad X own cc nL ret d) {j : Fin 4} {x : Nat} (hd : decode cc pc = .ok (.astore_n j, 1)) (hn : (j : Nat) < nL) (hl : ((j : Nat), Value.ref x) :: L.filter (fun q => !(q.1 == (j : Nat)) && !(q.1 + 1 == (j : Nat) && q.2.category == 2)) = L') (k : zG l Z lv ad X cs (pc + 1) L' S M o) : zG l Z lv ad X cs pc L (.ref x :: S) M o := by
  obtain ⟨p, e, R, s, m, args, below, meth, c, A, nL', Qf⟩ := X
  intro r hr hx H locs ls hW hS hL
  obtain ⟨rfl, hm⟩ := hC.2.2.1
  exact lv_astore_n hC.1 hC.2.1 hd rfl hL hn hl (fun ls hL => k r hr hx H locs ls hW hS hL)
theorem zg_astore (hC : zC l Z lv ad X own cc nL ret d) {j : Nat} {x : Nat} (hd : decode cc pc = .ok (.astore j, 2)) (hn : j < nL) (hl : (j, Value.ref x) :: L.filter (fun q => !(q.1 == j) && !(q.1 + 1 == j && q.2.category == 2)) = L') (k : zG l Z lv ad X cs (pc + 2) L' S M o) : zG l Z lv ad X cs pc L (.ref x :: S) M o := by
  obtain ⟨p, e, R, s, m, args, below, meth, c, A, nL', Qf⟩ := X
  intro r hr hx H locs ls hW hS hL
  obtain ⟨rfl, hm⟩ := hC.2.2.1
  exact lv_astore hC.1 hC.2.1 hd hL hn hl (fun ls hL => k r hr hx H locs ls hW hS hL)
theorem zg_iinc (hC : zC l Z lv ad X own cc nL ret d) {j : Nat} {n : Int} {x v : Int32} (q0 : Nat) (hd : decode cc pc = .ok (.iinc j n, 3)) (hk : L[q0]? = some (j, .int x)) (hv : x + Int32.ofInt n = v) (hn : j < nL) (hl : (j, Value.int v) :: L.filter (fun q => !(q.1 == j) && !(q.1 + 1 == j && q.2.category == 2)) = L') (k : zG l Z lv ad X cs (pc + 3) L' S M o) : zG l Z lv ad X cs pc L S M o := by
  obtain ⟨p, e, R, s, m, args, below, meth, c, A, nL', Qf⟩ := X
  intro r hr hx H locs ls hW hS hL
  obtain ⟨rfl, hm⟩ := hC.2.2.1
  exact lv_iinc hC.1 hC.2.1 hd hL hk hv hn hl (fun ls hL => k r hr hx H locs ls hW hS hL)
theorem zg_iadd (hC : zC l Z lv ad X own cc nL ret d) {x y : Int32} (hd : decode cc pc = .ok (.iadd, 1)) (k : zG l Z lv ad X cs (pc + 1) L (.int (x + y) :: S) M o) : zG l Z lv ad X cs pc L (.int y :: .int x :: S) M o := by
  obtain ⟨p, e, R, s, m, args, below, meth, c, A, nL, Qf⟩ := X
  intro r hr hx H locs ls hW hS hL
  exact lv_iadd hC.1 hC.2.1 hd (k r hr hx H locs ls hW hS hL)
theorem zg_isub (hC : zC l Z lv ad X own cc nL ret d) {x y : Int32} (hd : decode cc pc = .ok (.isub, 1)) (k : zG l Z lv ad X cs (pc + 1) L (.int (x - y) :: S) M o) : zG l Z lv ad X cs pc L (.int y :: .int x :: S) M o := by
  obtain ⟨p, e, R, s, m, args, below, meth, c, A, nL, Qf⟩ := X
  intro r hr hx H locs ls hW hS hL
  exact lv_isub hC.1 hC.2.1 hd (k r hr hx H locs ls hW hS hL)
theorem zg_imul (hC : zC l Z lv ad X own cc nL ret d) {x y : Int32} (hd : decode cc pc = .ok (.imul, 1)) (k : zG l Z lv ad X cs (pc + 1) L (.int (x * y) :: S) M o) : zG l Z lv ad X cs pc L (.int y :: .int x :: S) M o := by
  obtain ⟨p, e, R, s, m, args, below, meth, c, A, nL, Qf⟩ := X
  intro r hr hx H locs ls hW hS hL
  exact lv_imul hC.1 hC.2.1 hd (k r hr hx H locs ls hW hS hL)
theorem zg_iand (hC : zC l Z lv ad X own cc nL ret d) {x y : Int32} (hd : decode cc pc = .ok (.iand, 1)) (k : zG l Z lv ad X cs (pc + 1) L (.int (x &&& y) :: S) M o) : zG l Z lv ad X cs pc L (.int y :: .int x :: S) M o := by
  obtain ⟨p, e, R, s, m, args, below, meth, c, A, nL, Qf⟩ := X
  intro r hr hx H locs ls hW hS hL
  exact lv_iand hC.1 hC.2.1 hd (k r hr hx H locs ls hW hS hL)
theorem zg_ior (hC : zC l Z lv ad X own cc nL ret d) {x y : Int32} (hd : decode cc pc = .ok (.ior, 1)) (k : zG l Z lv ad X cs (pc + 1) L (.int (x ||| y) :: S) M o) : zG l Z lv ad X cs pc L (.int y :: .int x :: S) M o := by
  obtain ⟨p, e, R, s, m, args, below, meth, c, A, nL, Qf⟩ := X
  intro r hr hx H locs ls hW hS hL
  exact lv_ior hC.1 hC.2.1 hd (k r hr hx H locs ls hW hS hL)
theorem zg_ixor (hC : zC l Z lv ad X own cc nL ret d) {x y : Int32} (hd : decode cc pc = .ok (.ixor, 1)) (k : zG l Z lv ad X cs (pc + 1) L (.int (x ^^^ y) :: S) M o) : zG l Z lv ad X cs pc L (.int y :: .int x :: S) M o := by
  obtain ⟨p, e, R, s, m, args, below, meth, c, A, nL, Qf⟩ := X
  intro r hr hx H locs ls hW hS hL
  exact lv_ixor hC.1 hC.2.1 hd (k r hr hx H locs ls hW hS hL)
theorem zg_ishl (hC : zC l Z lv ad X own cc nL ret d) {x y : Int32} (hd : decode cc pc = .ok (.ishl, 1)) (k : zG l Z lv ad X cs (pc + 1) L (.int (x <<< (y &&& 31)) :: S) M o) : zG l Z lv ad X cs pc L (.int y :: .int x :: S) M o := by
  obtain ⟨p, e, R, s, m, args, below, meth, c, A, nL, Qf⟩ := X
  intro r hr hx H locs ls hW hS hL
  exact lv_ishl hC.1 hC.2.1 hd (k r hr hx H locs ls hW hS hL)
theorem zg_ishr (hC : zC l Z lv ad X own cc nL ret d) {x y : Int32} (hd : decode cc pc = .ok (.ishr, 1)) (k : zG l Z lv ad X cs (pc + 1) L (.int (x >>> (y &&& 31)) :: S) M o) : zG l Z lv ad X cs pc L (.int y :: .int x :: S) M o := by
  obtain ⟨p, e, R, s, m, args, below, meth, c, A, nL, Qf⟩ := X
  intro r hr hx H locs ls hW hS hL
  exact lv_ishr hC.1 hC.2.1 hd (k r hr hx H locs ls hW hS hL)
theorem zg_iushr (hC : zC l Z lv ad X own cc nL ret d) {x y : Int32} (hd : decode cc pc = .ok (.iushr, 1)) (k : zG l Z lv ad X cs (pc + 1) L (.int ((x.toUInt32 >>> (y.toUInt32 &&& Int32.toUInt32 31)).toInt32) :: S) M o) : zG l Z lv ad X cs pc L (.int y :: .int x :: S) M o := by
  obtain ⟨p, e, R, s, m, args, below, meth, c, A, nL, Qf⟩ := X
  intro r hr hx H locs ls hW hS hL
  exact lv_iushr hC.1 hC.2.1 hd rfl (k r hr hx H locs ls hW hS hL)
theorem zg_idiv (hC : zC l Z lv ad X own cc nL ret d) {x y : Int32} (hd : decode cc pc = .ok (.idiv, 1)) (hne : ¬ y = 0) (k : zG l Z lv ad X cs (pc + 1) L (.int (x / y) :: S) M o) : zG l Z lv ad X cs pc L (.int y :: .int x :: S) M o := by
  obtain ⟨p, e, R, s, m, args, below, meth, c, A, nL, Qf⟩ := X
  intro r hr hx H locs ls hW hS hL
  exact lv_idiv hC.1 hC.2.1 hd hne (k r hr hx H locs ls hW hS hL)
theorem zg_irem (hC : zC l Z lv ad X own cc nL ret d) {x y : Int32} (hd : decode cc pc = .ok (.irem, 1)) (hne : ¬ y = 0) (k : zG l Z lv ad X cs (pc + 1) L (.int (x - x / y * y) :: S) M o) : zG l Z lv ad X cs pc L (.int y :: .int x :: S) M o := by
  obtain ⟨p, e, R, s, m, args, below, meth, c, A, nL, Qf⟩ := X
  intro r hr hx H locs ls hW hS hL
  exact lv_irem hC.1 hC.2.1 hd hne (k r hr hx H locs ls hW hS hL)
theorem zg_land (hC : zC l Z lv ad X own cc nL ret d) {x y : Int64} (hd : decode cc pc = .ok (.land, 1)) (k : zG l Z lv ad X cs (pc + 1) L (.long (x &&& y) :: S) M o) : zG l Z lv ad X cs pc L (.long y :: .long x :: S) M o := by
  obtain ⟨p, e, R, s, m, args, below, meth, c, A, nL, Qf⟩ := X
  intro r hr hx H locs ls hW hS hL
  exact lv_land hC.1 hC.2.1 hd (k r hr hx H locs ls hW hS hL)
theorem zg_lor (hC : zC l Z lv ad X own cc nL ret d) {x y : Int64} (hd : decode cc pc = .ok (.lor, 1)) (k : zG l Z lv ad X cs (pc + 1) L (.long (x ||| y) :: S) M o) : zG l Z lv ad X cs pc L (.long y :: .long x :: S) M o := by
  obtain ⟨p, e, R, s, m, args, below, meth, c, A, nL, Qf⟩ := X
  intro r hr hx H locs ls hW hS hL
  exact lv_lor hC.1 hC.2.1 hd (k r hr hx H locs ls hW hS hL)
theorem zg_lxor (hC : zC l Z lv ad X own cc nL ret d) {x y : Int64} (hd : decode cc pc = .ok (.lxor, 1)) (k : zG l Z lv ad X cs (pc + 1) L (.long (x ^^^ y) :: S) M o) : zG l Z lv ad X cs pc L (.long y :: .long x :: S) M o := by
  obtain ⟨p, e, R, s, m, args, below, meth, c, A, nL, Qf⟩ := X
  intro r hr hx H locs ls hW hS hL
  exact lv_lxor hC.1 hC.2.1 hd (k r hr hx H locs ls hW hS hL)
theorem zg_i2l (hC : zC l Z lv ad X own cc nL ret d) {x : Int32} (hd : decode cc pc = .ok (.i2l, 1)) (k : zG l Z lv ad X cs (pc + 1) L (.long x.toInt64 :: S) M o) : zG l Z lv ad X cs pc L (.int x :: S) M o := by
  obtain ⟨p, e, R, s, m, args, below, meth, c, A, nL, Qf⟩ := X
  intro r hr hx H locs ls hW hS hL
  exact lv_i2l hC.1 hC.2.1 hd rfl (k r hr hx H locs ls hW hS hL)
theorem zg_lushr (hC : zC l Z lv ad X own cc nL ret d) {x : Int64} {y : Int32} (hd : decode cc pc = .ok (.lushr, 1)) (k : zG l Z lv ad X cs (pc + 1) L (.long ((x.toUInt64 >>> (y.toInt64.toUInt64 &&& Int64.toUInt64 63)).toInt64) :: S) M o) : zG l Z lv ad X cs pc L (.int y :: .long x :: S) M o := by
  obtain ⟨p, e, R, s, m, args, below, meth, c, A, nL, Qf⟩ := X
  intro r hr hx H locs ls hW hS hL
  exact lv_lushr hC.1 hC.2.1 hd rfl (k r hr hx H locs ls hW hS hL)
theorem zg_lshl (hC : zC l Z lv ad X own cc nL ret d) {x : Int64} {y : Int32} (hd : decode cc pc = .ok (.lshl, 1)) (k : zG l Z lv ad X cs (pc + 1) L (.long (x <<< (y.toInt64 &&& 63)) :: S) M o) : zG l Z lv ad X cs pc L (.int y :: .long x :: S) M o := by
  obtain ⟨p, e, R, s, m, args, below, meth, c, A, nL, Qf⟩ := X
  intro r hr hx H locs ls hW hS hL
  exact lv_lshl hC.1 hC.2.1 hd rfl (k r hr hx H locs ls hW hS hL)
theorem zg_dup (hC : zC l Z lv ad X own cc nL ret d) {va : Value} (hd : decode cc pc = .ok (.dup, 1)) (hc : va.category = 1) (k : zG l Z lv ad X cs (pc + 1) L (va :: va :: S) M o) : zG l Z lv ad X cs pc L (va :: S) M o := by
  obtain ⟨p, e, R, s, m, args, below, meth, c, A, nL, Qf⟩ := X
  intro r hr hx H locs ls hW hS hL
  exact lv_dup hC.1 hC.2.1 hd hc (k r hr hx H locs ls hW hS hL)
theorem zg_pop (hC : zC l Z lv ad X own cc nL ret d) {va : Value} (hd : decode cc pc = .ok (.pop, 1)) (hc : va.category = 1) (k : zG l Z lv ad X cs (pc + 1) L (S) M o) : zG l Z lv ad X cs pc L (va :: S) M o := by
  obtain ⟨p, e, R, s, m, args, below, meth, c, A, nL, Qf⟩ := X
  intro r hr hx H locs ls hW hS hL
  exact lv_pop hC.1 hC.2.1 hd hc (k r hr hx H locs ls hW hS hL)
theorem zg_dup_x1 (hC : zC l Z lv ad X own cc nL ret d) {va vb : Value} (hd : decode cc pc = .ok (.dup_x1, 1)) (h1 : va.category = 1) (h2 : vb.category = 1) (k : zG l Z lv ad X cs (pc + 1) L (va :: vb :: va :: S) M o) : zG l Z lv ad X cs pc L (va :: vb :: S) M o := by
  obtain ⟨p, e, R, s, m, args, below, meth, c, A, nL, Qf⟩ := X
  intro r hr hx H locs ls hW hS hL
  exact lv_dup_x1 hC.1 hC.2.1 hd h1 h2 (k r hr hx H locs ls hW hS hL)
theorem zg_dup_x2 (hC : zC l Z lv ad X own cc nL ret d) {va vb vd : Value} (hd : decode cc pc = .ok (.dup_x2, 1)) (h1 : va.category = 1) (h2 : vb.category = 1) (h3 : vd.category = 1) (k : zG l Z lv ad X cs (pc + 1) L (va :: vb :: vd :: va :: S) M o) : zG l Z lv ad X cs pc L (va :: vb :: vd :: S) M o := by
  obtain ⟨p, e, R, s, m, args, below, meth, c, A, nL, Qf⟩ := X
  intro r hr hx H locs ls hW hS hL
  exact lv_dup_x2 hC.1 hC.2.1 hd h1 h2 h3 (k r hr hx H locs ls hW hS hL)
theorem zg_dup2_11 (hC : zC l Z lv ad X own cc nL ret d) {va vb : Value} (hd : decode cc pc = .ok (.dup2, 1)) (h1 : va.category = 1) (h2 : vb.category = 1) (k : zG l Z lv ad X cs (pc + 1) L (va :: vb :: va :: vb :: S) M o) : zG l Z lv ad X cs pc L (va :: vb :: S) M o := by
  obtain ⟨p, e, R, s, m, args, below, meth, c, A, nL, Qf⟩ := X
  intro r hr hx H locs ls hW hS hL
  exact lv_dup2_11 hC.1 hC.2.1 hd h1 h2 (k r hr hx H locs ls hW hS hL)
theorem zg_lcmp (hC : zC l Z lv ad X own cc nL ret d) {x y : Int64} (hd : decode cc pc = .ok (.lcmp, 1)) (k : zG l Z lv ad X cs (pc + 1) L (.int (lg_cmp x y) :: S) M o) : zG l Z lv ad X cs pc L (.long y :: .long x :: S) M o := by
  obtain ⟨p, e, R, s, m, args, below, meth, c, A, nL, Qf⟩ := X
  intro r hr hx H locs ls hW hS hL
  exact W.lcmp hC.1 hC.2.1 hd (k r hr hx H locs ls hW hS hL)
theorem zg_if_eq (hC : zC l Z lv ad X own cc nL ret d) {x : Int32} {off : Int} {tgt : Nat} (hd : decode cc pc = .ok (.ifCond .eq off, 3)) (ht : (pc : Int) + off = (tgt : Int)) (kt : x = 0 → zG l Z lv ad X cs tgt L S M o1) (kf : ¬ x = 0 → zG l Z lv ad X cs (pc + 3) L S M o2) : zG l Z lv ad X cs pc L (.int x :: S) M (if x = 0 then o1 else o2) := by
  obtain ⟨p, e, R, s, m, args, below, meth, c, A, nL, Qf⟩ := X
  intro r hr hx H locs ls hW hS hL
  refine lv_if_eq hC.1 hC.2.1 hd ht (fun h => ?_) (fun h => ?_)
  · rw [if_pos h] at hr
    exact kt h r hr hx H locs ls hW hS hL
  · rw [if_neg h] at hr
    exact kf h r hr hx H locs ls hW hS hL
theorem zg_icmp_eq (hC : zC l Z lv ad X own cc nL ret d) {x y : Int32} {off : Int} {tgt : Nat} (hd : decode cc pc = .ok (.if_icmp .eq off, 3)) (ht : (pc : Int) + off = (tgt : Int)) (kt : x = y → zG l Z lv ad X cs tgt L S M o1) (kf : ¬ x = y → zG l Z lv ad X cs (pc + 3) L S M o2) : zG l Z lv ad X cs pc L (.int y :: .int x :: S) M (if x = y then o1 else o2) := by
  obtain ⟨p, e, R, s, m, args, below, meth, c, A, nL, Qf⟩ := X
  intro r hr hx H locs ls hW hS hL
  refine lv_icmp_eq hC.1 hC.2.1 hd ht (fun h => ?_) (fun h => ?_)
  · rw [if_pos h] at hr
    exact kt h r hr hx H locs ls hW hS hL
  · rw [if_neg h] at hr
    exact kf h r hr hx H locs ls hW hS hL
theorem zg_if_ne (hC : zC l Z lv ad X own cc nL ret d) {x : Int32} {off : Int} {tgt : Nat} (hd : decode cc pc = .ok (.ifCond .ne off, 3)) (ht : (pc : Int) + off = (tgt : Int)) (kf : x = 0 → zG l Z lv ad X cs (pc + 3) L S M o2) (kt : ¬ x = 0 → zG l Z lv ad X cs tgt L S M o1) : zG l Z lv ad X cs pc L (.int x :: S) M (if x = 0 then o2 else o1) := by
  obtain ⟨p, e, R, s, m, args, below, meth, c, A, nL, Qf⟩ := X
  intro r hr hx H locs ls hW hS hL
  refine lv_if_ne hC.1 hC.2.1 hd ht (fun h => ?_) (fun h => ?_)
  · rw [if_neg h] at hr
    exact kt h r hr hx H locs ls hW hS hL
  · rw [if_pos h] at hr
    exact kf h r hr hx H locs ls hW hS hL
theorem zg_icmp_ne (hC : zC l Z lv ad X own cc nL ret d) {x y : Int32} {off : Int} {tgt : Nat} (hd : decode cc pc = .ok (.if_icmp .ne off, 3)) (ht : (pc : Int) + off = (tgt : Int)) (kf : x = y → zG l Z lv ad X cs (pc + 3) L S M o2) (kt : ¬ x = y → zG l Z lv ad X cs tgt L S M o1) : zG l Z lv ad X cs pc L (.int y :: .int x :: S) M (if x = y then o2 else o1) := by
  obtain ⟨p, e, R, s, m, args, below, meth, c, A, nL, Qf⟩ := X
  intro r hr hx H locs ls hW hS hL
  refine lv_icmp_ne hC.1 hC.2.1 hd ht (fun h => ?_) (fun h => ?_)
  · rw [if_neg h] at hr
    exact kt h r hr hx H locs ls hW hS hL
  · rw [if_pos h] at hr
    exact kf h r hr hx H locs ls hW hS hL
theorem zg_if_lt (hC : zC l Z lv ad X own cc nL ret d) {x : Int32} {off : Int} {tgt : Nat} (hd : decode cc pc = .ok (.ifCond .lt off, 3)) (ht : (pc : Int) + off = (tgt : Int)) (kt : x < 0 → zG l Z lv ad X cs tgt L S M o1) (kf : ¬ x < 0 → zG l Z lv ad X cs (pc + 3) L S M o2) : zG l Z lv ad X cs pc L (.int x :: S) M (if x < 0 then o1 else o2) := by
  obtain ⟨p, e, R, s, m, args, below, meth, c, A, nL, Qf⟩ := X
  intro r hr hx H locs ls hW hS hL
  refine lv_if_lt hC.1 hC.2.1 hd ht (fun h => ?_) (fun h => ?_)
  · rw [if_pos h] at hr
    exact kt h r hr hx H locs ls hW hS hL
  · rw [if_neg h] at hr
    exact kf h r hr hx H locs ls hW hS hL
theorem zg_icmp_lt (hC : zC l Z lv ad X own cc nL ret d) {x y : Int32} {off : Int} {tgt : Nat} (hd : decode cc pc = .ok (.if_icmp .lt off, 3)) (ht : (pc : Int) + off = (tgt : Int)) (kt : x < y → zG l Z lv ad X cs tgt L S M o1) (kf : ¬ x < y → zG l Z lv ad X cs (pc + 3) L S M o2) : zG l Z lv ad X cs pc L (.int y :: .int x :: S) M (if x < y then o1 else o2) := by
  obtain ⟨p, e, R, s, m, args, below, meth, c, A, nL, Qf⟩ := X
  intro r hr hx H locs ls hW hS hL
  refine lv_icmp_lt hC.1 hC.2.1 hd ht (fun h => ?_) (fun h => ?_)
  · rw [if_pos h] at hr
    exact kt h r hr hx H locs ls hW hS hL
  · rw [if_neg h] at hr
    exact kf h r hr hx H locs ls hW hS hL
theorem zg_if_ge (hC : zC l Z lv ad X own cc nL ret d) {x : Int32} {off : Int} {tgt : Nat} (hd : decode cc pc = .ok (.ifCond .ge off, 3)) (ht : (pc : Int) + off = (tgt : Int)) (kt : 0 ≤ x → zG l Z lv ad X cs tgt L S M o1) (kf : ¬ 0 ≤ x → zG l Z lv ad X cs (pc + 3) L S M o2) : zG l Z lv ad X cs pc L (.int x :: S) M (if 0 ≤ x then o1 else o2) := by
  obtain ⟨p, e, R, s, m, args, below, meth, c, A, nL, Qf⟩ := X
  intro r hr hx H locs ls hW hS hL
  refine lv_if_ge hC.1 hC.2.1 hd ht (fun h => ?_) (fun h => ?_)
  · rw [if_pos h] at hr
    exact kt h r hr hx H locs ls hW hS hL
  · rw [if_neg h] at hr
    exact kf h r hr hx H locs ls hW hS hL
theorem zg_icmp_ge (hC : zC l Z lv ad X own cc nL ret d) {x y : Int32} {off : Int} {tgt : Nat} (hd : decode cc pc = .ok (.if_icmp .ge off, 3)) (ht : (pc : Int) + off = (tgt : Int)) (kt : y ≤ x → zG l Z lv ad X cs tgt L S M o1) (kf : ¬ y ≤ x → zG l Z lv ad X cs (pc + 3) L S M o2) : zG l Z lv ad X cs pc L (.int y :: .int x :: S) M (if y ≤ x then o1 else o2) := by
  obtain ⟨p, e, R, s, m, args, below, meth, c, A, nL, Qf⟩ := X
  intro r hr hx H locs ls hW hS hL
  refine lv_icmp_ge hC.1 hC.2.1 hd ht (fun h => ?_) (fun h => ?_)
  · rw [if_pos h] at hr
    exact kt h r hr hx H locs ls hW hS hL
  · rw [if_neg h] at hr
    exact kf h r hr hx H locs ls hW hS hL
theorem zg_if_gt (hC : zC l Z lv ad X own cc nL ret d) {x : Int32} {off : Int} {tgt : Nat} (hd : decode cc pc = .ok (.ifCond .gt off, 3)) (ht : (pc : Int) + off = (tgt : Int)) (kt : 0 < x → zG l Z lv ad X cs tgt L S M o1) (kf : ¬ 0 < x → zG l Z lv ad X cs (pc + 3) L S M o2) : zG l Z lv ad X cs pc L (.int x :: S) M (if 0 < x then o1 else o2) := by
  obtain ⟨p, e, R, s, m, args, below, meth, c, A, nL, Qf⟩ := X
  intro r hr hx H locs ls hW hS hL
  refine lv_if_gt hC.1 hC.2.1 hd ht (fun h => ?_) (fun h => ?_)
  · rw [if_pos h] at hr
    exact kt h r hr hx H locs ls hW hS hL
  · rw [if_neg h] at hr
    exact kf h r hr hx H locs ls hW hS hL
theorem zg_icmp_gt (hC : zC l Z lv ad X own cc nL ret d) {x y : Int32} {off : Int} {tgt : Nat} (hd : decode cc pc = .ok (.if_icmp .gt off, 3)) (ht : (pc : Int) + off = (tgt : Int)) (kt : y < x → zG l Z lv ad X cs tgt L S M o1) (kf : ¬ y < x → zG l Z lv ad X cs (pc + 3) L S M o2) : zG l Z lv ad X cs pc L (.int y :: .int x :: S) M (if y < x then o1 else o2) := by
  obtain ⟨p, e, R, s, m, args, below, meth, c, A, nL, Qf⟩ := X
  intro r hr hx H locs ls hW hS hL
  refine lv_icmp_gt hC.1 hC.2.1 hd ht (fun h => ?_) (fun h => ?_)
  · rw [if_pos h] at hr
    exact kt h r hr hx H locs ls hW hS hL
  · rw [if_neg h] at hr
    exact kf h r hr hx H locs ls hW hS hL
theorem zg_if_le (hC : zC l Z lv ad X own cc nL ret d) {x : Int32} {off : Int} {tgt : Nat} (hd : decode cc pc = .ok (.ifCond .le off, 3)) (ht : (pc : Int) + off = (tgt : Int)) (kt : x ≤ 0 → zG l Z lv ad X cs tgt L S M o1) (kf : ¬ x ≤ 0 → zG l Z lv ad X cs (pc + 3) L S M o2) : zG l Z lv ad X cs pc L (.int x :: S) M (if x ≤ 0 then o1 else o2) := by
  obtain ⟨p, e, R, s, m, args, below, meth, c, A, nL, Qf⟩ := X
  intro r hr hx H locs ls hW hS hL
  refine lv_if_le hC.1 hC.2.1 hd ht (fun h => ?_) (fun h => ?_)
  · rw [if_pos h] at hr
    exact kt h r hr hx H locs ls hW hS hL
  · rw [if_neg h] at hr
    exact kf h r hr hx H locs ls hW hS hL
theorem zg_icmp_le (hC : zC l Z lv ad X own cc nL ret d) {x y : Int32} {off : Int} {tgt : Nat} (hd : decode cc pc = .ok (.if_icmp .le off, 3)) (ht : (pc : Int) + off = (tgt : Int)) (kt : x ≤ y → zG l Z lv ad X cs tgt L S M o1) (kf : ¬ x ≤ y → zG l Z lv ad X cs (pc + 3) L S M o2) : zG l Z lv ad X cs pc L (.int y :: .int x :: S) M (if x ≤ y then o1 else o2) := by
  obtain ⟨p, e, R, s, m, args, below, meth, c, A, nL, Qf⟩ := X
  intro r hr hx H locs ls hW hS hL
  refine lv_icmp_le hC.1 hC.2.1 hd ht (fun h => ?_) (fun h => ?_)
  · rw [if_pos h] at hr
    exact kt h r hr hx H locs ls hW hS hL
  · rw [if_neg h] at hr
    exact kf h r hr hx H locs ls hW hS hL
theorem zg_goto (hC : zC l Z lv ad X own cc nL ret d) {off : Int} {tgt : Nat} (hd : decode cc pc = .ok (.goto off, 3)) (ht : (pc : Int) + off = (tgt : Int)) (k : zG l Z lv ad X cs tgt L S M o) : zG l Z lv ad X cs pc L S M o := by
  obtain ⟨p, e, R, s, m, args, below, meth, c, A, nL, Qf⟩ := X
  intro r hr hx H locs ls hW hS hL
  exact lv_goto hC.1 hC.2.1 hd ht (k r hr hx H locs ls hW hS hL)
/-- a field by a pool entry of a class's own -/
def zFL (own : String) (idx : Nat) (C : String) (T : u_T) (N ci j : Nat) : Prop := vwCl[ci]? = some (C, T, N) ∧ (∀ w ∈ u_ws C T N, w ∈ zTs) ∧ j < N ∧ Cond.fieldLink own idx (T j).1 (T j).2.1 (T j).2.2.1 ∈ zTs
def zFP (own : String) (idx : Nat) (C : String) (T : u_T) (N ci j : Nat) (ty : FieldType) : Prop := zFL own idx C T N ci j ∧ (∃ ty0 : Nat → FieldType, ∀ k, k < N → parseFieldDescriptor (T k).2.2.1 = some (ty0 k)) ∧ (∀ a, a < N → ∀ b, b < N → a ≠ b → (T a).2.1 ≠ (T b).2.1) ∧ (T j).2.2.2 = false ∧ parseFieldDescriptor (T j).2.2.1 = some ty
theorem zF_len {ci : Nat} {ad : Nat → Nat} {k : Nat} {f : Nat → Int32} {g : Nat → Int64} {C : String} {T : u_T} {N : Nat} (h : vwCl[ci]? = some (C, T, N)) : (zF ci ad k f g).length = N := by
  match ci, h with
  | 0, h => cases h; rfl
  | 1, h => cases h; rfl
  | 2, h => cases h; rfl
  | 3, h => cases h; rfl
  | 4, h => cases h; rfl
  | 5, h => cases h; rfl
  | 6, h => cases h; rfl
  | 7, h => cases h; rfl
  | n + 8, h => simp [vwCl] at h
theorem zg_get (hC : zC l Z lv ad X own cc nL ret d) {idx : Nat} {C : String} {T : u_T} {N ci j k : Nat} {v : Value} (hF : zFL own idx C T N ci j) (hd : decode cc pc = .ok (.getfield idx, 3)) (hl : lv k = true) (hz : zK k = (0, ci)) (hv : (zF ci ad k (M.1 k) (M.2 k))[j]? = some v)
    (kk : zG l Z lv ad X cs (pc + 3) L (v :: S) M o) : zG l Z lv ad X cs pc L (.ref (ad k) :: S) M o := by
  obtain ⟨p, e, R, s, m, args, below, meth, c, A, nL', Qf⟩ := X
  obtain ⟨hx0, hb, -, hown, hSS, -⟩ := hC
  obtain ⟨hc, hin, hj, hw⟩ := hF
  intro r hr hx H locs ls hW hS hL
  have h1 := hW.1 k hl
  rw [zE_0 hz] at h1
  exact va_get (D := Z.1) (cl := vwCl) (tys := zty Z) (Ts := zTs) hx0 hb (fun w hw => hSS.1 w hw _) hin hown hSS.2.1 (zone h1) 0 rfl hc j hj (hSS.1 _ hw _) (fun _ h9 => h9) hv hd (kk r hr hx H locs ls hW hS hL)
theorem zput {p : Program} {e : Env} {R : Room} {s : State} {m : MethodId} {args : Array Value} {below : List Frame} {meth : Method} {c : Code} {H : Heap} {locs : List Loc} {cells slots : Nat} {Q : State → Prop} {ls : Array Slot} {rest : List Value}
    (hexec : p.tables.exec = Jvm.exec) (hb : c.code = cc) (hown : s.vm.findClass own = some m.cls) (hSS : zS Z s) {idx : Nat} {C : String} {T : u_T} {N ci j k : Nat} {ty : FieldType} {v : Value} (hF : zFP own idx C T N ci j ty) (hW : zW Z lv ad M H) (hl : lv k = true) (hz : zK k = (0, ci)) (hn : narrow ty v = v) (hfit : fits ty v = true) (hdg : decode cc pc = .ok (.putfield idx, 3))
    (kk : ∀ (H1 : Heap) (n : Nat), (∃ r : vw_C, vwCl[ci]? = some r ∧ t_OB (ad k) (Z.1.1 ci) r.2.2 (Z.1.2 ci) H1 (vp_V ((zF ci ad k (M.1 k) (M.2 k)).set j v))) → H1.size = H.size → (∀ q : Nat, q ≠ ad k → H1[q]? = H[q]?) → W p l e R s m args below meth c H1 (locs ++ [⟨ad k, n⟩]) cells slots Q (F0 m (pc + 3) ls rest)) : W p l e R s m args below meth c H locs cells slots Q (F0 m pc ls (v :: .ref (ad k) :: rest)) := by
  obtain ⟨⟨hc, hin, hj, hw⟩, ⟨ty0, hty⟩, hnm, hfin, hd⟩ := hF
  have hts : ∀ w ∈ zTs, w.before args s = true := fun w hw => hSS.1 w hw _
  have hK : va_K Z.1 vwCl (zty Z) s := hSS.2.1
  have hap := va_apart (own := own) hts hin ty0 hty hnm hK hc
  have h0 := hW.1 k hl
  rw [zE_0 hz] at h0
  obtain ⟨r, h1, cell, q1, q2, q3, q4⟩ := h0
  have hr : r = (C, T, N) := Option.some.inj (h1.symm.trans hc)
  subst hr
  obtain ⟨hS, hfc, kC, hkC, hkind⟩ := hK.1 ci _ hc
  obtain ⟨cf, kf, fi, f, hi, hsl⟩ := hS j hj
  have hlay := hts _ (hin _ (u_in_lay hj))
  unfold u_lay at hlay
  rw [if_neg (by rw [hfin]; decide)] at hlay
  have hst := (u_facts hfc hkC (u_lays hts hin hj) hi).1
  have h6 := u_store hfc hkC hkind hlay hi hd hn hfit
  refine W.putK hexec hb (f := f) ⟨hown, hts _ hw, ⟨_, _, _, hi⟩, hst⟩ (by rw [q2]; exact h6) q1 q3 (by rw [hsl]; exact k2_hasslot (q4 j hj)) rfl rfl hdg fun H' e1 e2 e3 => ?_
  rw [hsl] at e1 ⊢
  exact kk H' _ ⟨_, hc, t_OB.to (V := updV (vp_V (zF ci ad k (M.1 k) (M.2 k))) j v) ⟨_, e1, q2, q3, t_set q4 hap hj v⟩ (fun i _ => vp_updV_set (by rw [zF_len hc]; exact hj) v i)⟩ e2 e3
/-- a world, an int named -/
def zl (a : zMem) (k : zMem → zRES) : zRES := k a
def zv (x : Int32) (k : Int32 → zRES) : zRES := k x
theorem zg_nm {x : Int32} {kf : Int32 → zRES} (kk : ∀ v, v = x → zG l Z lv ad X cs pc L (.int v :: S) M (kf v)) : zG l Z lv ad X cs pc L (.int x :: S) M (zv x kf) := kk x rfl
theorem zg_putI (hC : zC l Z lv ad X own cc nL ret d) {idx : Nat} {C : String} {T : u_T} {N ci j k : Nat} {x : Int32} (hF : zFP own idx C T N ci j .int) (hd : decode cc pc = .ok (.putfield idx, 3)) (hl : lv k = true) (hz : zK k = (0, ci)) (hs : zF ci ad k (upd (M.1 k) j x) (M.2 k) = (zF ci ad k (M.1 k) (M.2 k)).set j (.int x))
    {kf : zMem → zRES} (kk : ∀ M', M' = zsI M k j x → zG l Z lv ad X cs (pc + 3) L S M' (kf M')) : zG l Z lv ad X cs pc L (.int x :: .ref (ad k) :: S) M (zl (zsI M k j x) kf) := by
  obtain ⟨p, e, R, s, m, args, below, meth, c, A, nL', Qf⟩ := X
  obtain ⟨hx0, hb, -, hown, hSS, -, -, -, -, -, hAd, -⟩ := hC
  intro r hr hx H locs ls hW hS hL
  refine zput hx0 hb hown hSS hF hW hl hz rfl rfl hd (fun H1 n h1 z oq => ?_)
  refine kk _ rfl r hr hx H1 _ ls (hW.setI hl ?_ oq) (hS.put z oq (hAd k hl)) hL
  rw [zE_0 hz, hs]
  exact h1
theorem zg_putL (hC : zC l Z lv ad X own cc nL ret d) {idx : Nat} {C : String} {T : u_T} {N ci j k : Nat} {x : Int64} (hF : zFP own idx C T N ci j .long) (hd : decode cc pc = .ok (.putfield idx, 3)) (hl : lv k = true) (hz : zK k = (0, ci)) (hs : zF ci ad k (M.1 k) (vp_updL (M.2 k) j x) = (zF ci ad k (M.1 k) (M.2 k)).set j (.long x))
    {kf : zMem → zRES} (kk : ∀ M', M' = zsL M k j x → zG l Z lv ad X cs (pc + 3) L S M' (kf M')) : zG l Z lv ad X cs pc L (.long x :: .ref (ad k) :: S) M (zl (zsL M k j x) kf) := by
  obtain ⟨p, e, R, s, m, args, below, meth, c, A, nL', Qf⟩ := X
  obtain ⟨hx0, hb, -, hown, hSS, -, -, -, -, -, hAd, -⟩ := hC
  intro r hr hx H locs ls hW hS hL
  refine zput hx0 hb hown hSS hF hW hl hz rfl rfl hd (fun H1 n h1 z oq => ?_)
  refine kk _ rfl r hr hx H1 _ ls (hW.setL hl ?_ oq) (hS.put z oq (hAd k hl)) hL
  rw [zE_0 hz, hs]
  exact h1
theorem zif {c : Bool} {o : zRES} {r : zR1} (h : (if c = true then o else none) = some r) : c = true ∧ o = some r := by
  cases c with
  | true => exact ⟨rfl, by simpa using h⟩
  | false => simp at h
theorem zg_iald (hC : zC l Z lv ad X own cc nL ret d) {k n : Nat} {i : Int32} (hd : decode cc pc = .ok (.iaload, 1)) (hl : lv k = true) (hz : zK k = (1, n))
    (kk : zin i n = true → zG l Z lv ad X cs (pc + 1) L (.int (M.1 k i.toNatClampNeg) :: S) M o) : zG l Z lv ad X cs pc L (.int i :: .ref (ad k) :: S) M (if zin i n = true then o else none) := by
  obtain ⟨p, e, R, s, m, args, below, meth, c, A, nL', Qf⟩ := X
  obtain ⟨hx0, hb, -, hown, hSS, -⟩ := hC
  intro r hr hx H locs ls hW hS hL
  obtain ⟨hi, hr⟩ := zif hr
  have h1 := hW.1 k hl
  rw [zE_1 hz] at h1
  exact va_iald (D := Z.1) (cl := vwCl) (tys := zty Z) hx0 hb hSS.2.1 (zone h1) 0 0 rfl rfl (zin_in hi) hd (kk hi r hr hx H locs ls hW hS hL)
theorem zg_aald (hC : zC l Z lv ad X own cc nL ret d) {k n : Nat} {i : Int32} (hd : decode cc pc = .ok (.aaload, 1)) (hl : lv k = true) (hz : zK k = (3, n))
    (kk : zin i n = true → zG l Z lv ad X cs (pc + 1) L (.ref (ad (k + 1 + i.toNatClampNeg)) :: S) M o) : zG l Z lv ad X cs pc L (.int i :: .ref (ad k) :: S) M (if zin i n = true then o else none) := by
  obtain ⟨p, e, R, s, m, args, below, meth, c, A, nL', Qf⟩ := X
  obtain ⟨hx0, hb, -, hown, hSS, -⟩ := hC
  intro r hr hx H locs ls hW hS hL
  obtain ⟨hi, hr⟩ := zif hr
  have h1 := hW.1 k hl
  rw [zE_3 hz] at h1
  have hlt := zin_lt hi
  have hin := zin_in hi
  have hK := hSS.2.1
  have hv : va_rf (if i.toNatClampNeg < n then some (ad (k + 1 + i.toNatClampNeg)) else none) = .ref (ad (k + 1 + i.toNatClampNeg)) := by rw [if_pos hlt]; rfl
  exact W.aald (v := .ref (ad (k + 1 + i.toNatClampNeg))) (ty := .array .int) hx0 hb h1 ((hK.2 1 _ rfl).1 n (fun j => va_rf (if j < n then some (ad (k + 1 + j)) else none))) rfl (fun q => by cases q) (by show ¬ (i < 0 ∨ (arrV _ _ _).slots.size ≤ _); rw [arrV_size]; exact hin) (by show (arrV _ _ _).slots[_]? = _; rw [arrV_read _ _ hlt, hv]) rfl rfl hd (kk hi r hr hx H locs ls hW hS hL)
theorem zg_iast (hC : zC l Z lv ad X own cc nL ret d) {k n : Nat} {i x : Int32} (hd : decode cc pc = .ok (.iastore, 1)) (hl : lv k = true) (hz : zK k = (1, n))
    {kf : zMem → zRES} (kk : zin i n = true → ∀ M', M' = zsI M k i.toNatClampNeg x → zG l Z lv ad X cs (pc + 1) L S M' (kf M')) : zG l Z lv ad X cs pc L (.int x :: .int i :: .ref (ad k) :: S) M (if zin i n = true then zl (zsI M k i.toNatClampNeg x) kf else none) := by
  obtain ⟨p, e, R, s, m, args, below, meth, c, A, nL', Qf⟩ := X
  obtain ⟨hx0, hb, -, hown, hSS, -, -, -, -, -, hAd, -⟩ := hC
  intro r hr hx H locs ls hW hS hL
  obtain ⟨hi, hr⟩ := zif hr
  have h1 := hW.1 k hl
  rw [zE_1 hz] at h1
  have hin := zin_in hi
  have hK := hSS.2.1
  refine W.iast hx0 hb h1 ((hK.2 0 _ rfl).1 n (fun j => .int (M.1 k j))) (fun q => by cases q) (by show ¬ (i < 0 ∨ (arrV _ _ _).slots.size ≤ _); rw [arrV_size]; exact hin) rfl rfl hd fun H1 e1 z oq => ?_
  refine kk hi _ rfl r hr hx H1 _ ls (hW.setI hl ?_ oq) (hS.put z oq (hAd k hl)) hL
  rw [zE_1 hz]
  show H1[ad k]? = some (vp_cell _ _)
  rw [e1]
  show some ((vp_cell _ _).setSlot _ _) = _
  rw [vp_cell_i, vp_cell_i, arrV_store]
  congr 2
  funext q
  by_cases hq : q = i.toNatClampNeg
  · subst hq
    simp [updV, upd]
  · simp [updV, upd, hq]
theorem zg_alen (hC : zC l Z lv ad X own cc nL ret d) {k n : Nat} (hd : decode cc pc = .ok (.arraylength, 1)) (hl : lv k = true) (hz : zK k = (1, n))
    (kk : zG l Z lv ad X cs (pc + 1) L (.int (nI n) :: S) M o) : zG l Z lv ad X cs pc L (.ref (ad k) :: S) M o := by
  obtain ⟨p, e, R, s, m, args, below, meth, c, A, nL', Qf⟩ := X
  obtain ⟨hx0, hb, -, hown, hSS, -⟩ := hC
  intro r hr hx H locs ls hW hS hL
  have h1 := hW.1 k hl
  rw [zE_1 hz] at h1
  exact va_alen (D := Z.1) (cl := vwCl) (tys := zty Z) hx0 hb hSS.2.1 (zone h1) 0 0 rfl (ty := .int) rfl rfl hd (kk r hr hx H locs ls hW hS hL)
/-! contracts, ends, calls -/
def zRm (d mc ms : Nat) : Room := { frames := d, cells := mc, slots := ms, locals := 34 * d + 22 }
def zbn (r : zR1) : Nat × Nat := match r.1 with | .inl _ => (0, 0) | .inr _ => (1, 6)
def zbw (_ : zR1) : Nat × Nat := (1, 6)
def zex : Nat → String := fun e => match e with | 1 => "java/lang/IndexOutOfBoundsException" | 2 => "java/lang/IllegalArgumentException" | _ => "java/lang/IllegalStateException"
def zrv (vd : Bool) (v : Int32) : List Value := if vd = true then [] else [.int v]
def zPc (Z : zZ) (lv : Nat → Bool) (ad : Nat → Nat) (sz : Nat) (av : List Value) (M : zMem) : Array Value → State → Prop := fun a U => a = av.toArray ∧ U.heap.size = sz ∧ zS Z U ∧ zW Z lv ad M U.heap ∧ zQ (zA lv ad sz) U U.heap
def zQc (Z : zZ) (lv : Nat → Bool) (ad : Nat → Nat) (sz : Nat) (vd : Bool) (r : zR1) : Array Value → State → Outcome → State → Prop := fun _ st oc t => (∃ (v : Int32) (w : Option Value), r.1 = .inl v ∧ oc = .returned w ∧ w.toList = zrv vd v) ∧ zW Z lv ad r.2 t.heap ∧ va_F (zA lv ad sz) st t
def zXc (Z : zZ) (lv : Nat → Bool) (ad : Nat → Nat) (sz : Nat) (r : zR1) : String → State → State → Prop := fun E st t => (∃ e, r.1 = .inr e ∧ E = zex e) ∧ zW Z lv ad r.2 t.heap ∧ va_F (zA lv ad sz) st t
/-- a method's contract: called with av over the world M, it comes to what o tells -/
def zT (l : Launch) (Z : zZ) (lv : Nat → Bool) (ad : Nat → Nat) (w : Cond) (y : MethodName) (d : Nat) (vd : Bool) (bd : zR1 → Nat × Nat) (av : List Value) (M : zMem) (o : zRES) : Prop := ∀ (sz : Nat) (r : zR1), o = some r →
  vx_Met l y [w] (zRm d (bd r).1 (bd r).2) (zPc Z lv ad sz av M) (zQc Z lv ad sz vd r) (zXc Z lv ad sz r) (bd r).1 (bd r).2 (zA lv ad sz)
theorem zS.calling {U : State} {g : JFrame} {mk : MethodId} {a : Array Value} (h : zS Z U) : zS Z (U.calling g mk a) := h.warm (State.WarmedH.refl U)
theorem zPc_blind {sz : Nat} {av : List Value} : FrameBlind (zPc Z lv ad sz av M) := fun a U g mk h => ⟨h.1, h.2.1, h.2.2.1.calling, h.2.2.2.1, h.2.2.2.2.go (Vm.Alike.refl U.vm) (fun _ _ _ => rfl) (fun _ h => h)⟩
/-- what the end of a method's walk is -/
def zEnd (Z : zZ) (lv : Nat → Bool) (ad : Nat → Nat) (X : zX) (vd : Bool) : Prop := match X with
  | (_, _, R, s, _, args, below, _, _, A, _, Qf) => A = zA lv ad s.heap.size ∧ Qf = fun r => vx_MQ below (zQc Z lv ad s.heap.size vd r) (zXc Z lv ad s.heap.size r) args s R.cells R.slots (zA lv ad s.heap.size)
def zNoX (X : zX) : Prop := match X with
  | (_, _, _, _, _, _, _, _, c, _, _, _) => ∀ x ∈ c.exceptionTable.toList, False
theorem zT_of {y : MethodName} {vd : Bool} {av : List Value} (hl : l.stackTraces = false) (hy : plainName y.cls = true) (hn : (lg_sl av).length ≤ nL)
    (body : ∀ X : zX, zC l Z lv ad X y.cls cc nL ret d → zEnd Z lv ad X vd → zNoX X → zG l Z lv ad X (0, 0) 0 (lv_args 0 av) [] M o) : zT l Z lv ad (.code y cc nL ret) y d vd zbn av M o := by
  intro sz r hr
  refine vx_ofW (cc := cc) (maxL := nL) (ret := ret) (ws' := []) hy rfl ?_
  intro p e s m args below meth c s₁ B hml hnx hv
  obtain ⟨rfl, hsz, hSS, hW, hQ⟩ := hv
  subst hsz
  have hb := body (p, e, zRm d (zbn r).1 (zbn r).2, s, m, av.toArray, below, meth, c, zA lv ad s.heap.size, nL, fun r => vx_MQ below (zQc Z lv ad s.heap.size vd r) (zXc Z lv ad s.heap.size r) av.toArray s _ _ (zA lv ad s.heap.size))
    ⟨B.exec, B.bytes, ⟨rfl, hml⟩, findClass_of_methodNamed B.named, hSS, hl, B.notSynchronized, B.returns, ⟨Nat.le_refl d, Nat.le_refl (34 * d + 22)⟩, fun q h => Or.inr h, fun k h => Or.inl ⟨k, h, rfl⟩, hQ⟩ ⟨rfl, rfl⟩ hnx r hr
    ⟨fun x h => by
      show 0 + 1 ≤ (zbn r).1 ∧ 0 + 6 ≤ (zbn r).2
      simp [zbn, h], Nat.zero_le _, Nat.zero_le _⟩ s.heap []
  have hle := lv_entry av (n := nL) hn
  rw [lg_entry_eq]
  exact hb _ hW va_S.rf hle
theorem zg_ret (hC : zC l Z lv ad X own cc nL (some .int) d) (hE : zEnd Z lv ad X false) {v : Int32} (hd : decode cc pc = .ok (.ireturn, 1)) : zG l Z lv ad X cs pc L [.int v] M (some (.inl v, M)) := by
  obtain ⟨p, e, R, s, m, args, below, meth, c, A, nL', Qf⟩ := X
  obtain ⟨hx0, hb, -, hown, hSS, -, hlk, hret, -⟩ := hC
  obtain ⟨rfl, rfl⟩ := hE
  intro r hr hx H locs ls hW hS hL
  cases hr
  refine W.widen (k := R.cells) (n := R.slots) hx.2.1 hx.2.2 (vx_ret ?_)
  exact W.zret hx0 hb hret rfl (fun t ht hWm => ⟨⟨v, some (.int v), rfl, rfl, rfl⟩, by rw [ht]; exact hW, hS.F ht⟩) hS.2.2 hd hlk
theorem zg_retz (hC : zC l Z lv ad X own cc nL (some .boolean) d) (hE : zEnd Z lv ad X false) {v : Int32} (hv : v = 0 ∨ v = 1) (hd : decode cc pc = .ok (.ireturn, 1)) : zG l Z lv ad X cs pc L [.int v] M (some (.inl v, M)) := by
  obtain ⟨p, e, R, s, m, args, below, meth, c, A, nL', Qf⟩ := X
  obtain ⟨hx0, hb, -, hown, hSS, -, hlk, hret, -⟩ := hC
  obtain ⟨rfl, rfl⟩ := hE
  intro r hr hx H locs ls hW hS hL
  cases hr
  refine W.widen (k := R.cells) (n := R.slots) hx.2.1 hx.2.2 (vx_ret ?_)
  exact W.zret hx0 hb hret (by rcases hv with rfl | rfl <;> rfl) (fun t ht hWm => ⟨⟨v, some (.int v), rfl, rfl, rfl⟩, by rw [ht]; exact hW, hS.F ht⟩) hS.2.2 hd hlk
def zbool (v : Int32) : Bool := decide (v = 0 ∨ v = 1)
theorem zg_retb (hC : zC l Z lv ad X own cc nL (some .boolean) d) (hE : zEnd Z lv ad X false) {v : Int32} (hd : decode cc pc = .ok (.ireturn, 1)) : zG l Z lv ad X cs pc L [.int v] M (if zbool v = true then some (.inl v, M) else none) := by
  by_cases h : zbool v = true
  · rw [if_pos h]
    exact zg_retz hC hE (of_decide_eq_true h) hd
  · rw [if_neg h]
    exact zg_none
theorem zg_retv (hC : zC l Z lv ad X own cc nL none d) (hE : zEnd Z lv ad X true) (hd : decode cc pc = .ok (.return_, 1)) : zG l Z lv ad X cs pc L [] M (some (.inl 0, M)) := by
  obtain ⟨p, e, R, s, m, args, below, meth, c, A, nL', Qf⟩ := X
  obtain ⟨hx0, hb, -, hown, hSS, -, hlk, hret, -⟩ := hC
  obtain ⟨rfl, rfl⟩ := hE
  intro r hr hx H locs ls hW hS hL
  cases hr
  refine W.widen (k := R.cells) (n := R.slots) hx.2.1 hx.2.2 (vx_ret ?_)
  exact W.vret hx0 hb hret (fun t ht hWm => ⟨⟨0, none, rfl, rfl, rfl⟩, by rw [ht]; exact hW, hS.F ht⟩) hS.2.2 hd hlk
/-- one call after another: what was thrown goes on -/
def zb (o : zRES) (k : Int32 → zMem → zRES) : zRES := match o with
  | none => none
  | some (.inl v, M) => k v M
  | some (.inr e, M) => some (.inr e, M)
theorem zrun {p : Program} {e : Env} {R : Room} {s : State} {m : MethodId} {args : Array Value} {below : List Frame} {meth : Method} {c : Code} {A : Nat → Prop} {H : Heap} {locs : List Loc} {cells slots mc ms : Nat} {Q : State → Prop} {ls : Array Slot} {st0 rest : List Value} {r : zR1} {vd : Bool} {a : Array Value}
    (run : vx_Run p l e R s m args below meth c H locs cells slots mc ms (F0 m pc ls st0) rest (zQc Z lv ad H.size vd r a) (zXc Z lv ad H.size r) (zA lv ad H.size)) (hS : va_S A s.heap H locs) (hA : ∀ q, zA lv ad H.size q → A q)
    (kx : ∀ (x : Nat), r.1 = .inr x → ∀ (ce : Cell) (q : Addr) (H1 : Heap) (locs1 : List Loc), zW Z lv ad r.2 H1 → va_S A s.heap H1 locs1 → H1[q]? = some ce → ce.vm = .none → s.vm.findClass (zex x) = some ce.cls → vx_W p l e R s m args below meth c H1 locs1 (cells + mc) (slots + ms) Q (F0 m pc ls rest) q)
    (kk : ∀ (v : Int32), r.1 = .inl v → ∀ (H1 : Heap) (locs1 : List Loc), zW Z lv ad r.2 H1 → va_S A s.heap H1 locs1 → W p l e R s m args below meth c H1 locs1 (cells + mc) (slots + ms) Q (F0 m (pc + 3) ls (zrv vd v ++ rest))) : W p l e R s m args below meth c H locs cells slots Q (F0 m pc ls st0) := by
  intro T hT X
  rcases run T hT X with ⟨v, st₀, t, T', L, h0, X', hL, e1, e2, ⟨⟨w, u, hv, hu, hz⟩, hw, hF⟩, st⟩ | ⟨q, st₀, t, T', L, E, ce, h0, X', hL, e1, e2, ⟨⟨x, hx, rfl⟩, hw, hF⟩, hce, hcv, hcl, st⟩
  · cases hu
    obtain ⟨k1, k2, k3⟩ := vx_keep h0 e1 hS (fun q _ h => hA q h) hA hL hF
    obtain ⟨t2, a1, b1⟩ := kk w hv T'.heap (locs ++ L) (by rw [e1]; exact hw) k3 T' rfl X'
    refine ⟨t2, st t2 ?_, b1⟩
    show Steps p.tables e below (T'.setTop { (F0 m pc ls st0) with pc := pc + 3, stack := v.toList ++ rest }) t2
    rw [hz]
    exact a1
  · obtain ⟨k1, k2, k3⟩ := vx_keep h0 e1 hS (fun q _ h => hA q h) hA hL hF
    obtain ⟨t2, a1, b1⟩ := kx x hx ce q T'.heap (locs ++ L) (by rw [e1]; exact hw) k3 (by rw [e1]; exact hce) hcv hcl T' rfl X'
    exact ⟨t2, st.trans a1, b1⟩
def zLV (own : String) (idx : Nat) (y : MethodName) (bytes : ByteArray) (maxL : Nat) (ret : Option FieldType) (n : Nat) : Prop := Cond.methodLink own idx y ∈ zTs ∧ Cond.instanceMethod y ∈ zTs ∧ Cond.selects y.cls y y ∈ zTs ∧ Cond.initialized y.cls ∈ zTs ∧ Cond.code y bytes maxL ret ∈ zTs ∧ (y.cls ≠ "java/lang/invoke/MethodHandle" ∧ y.cls ≠ "java/lang/invoke/VarHandle" ∧ (parseMethodDescriptor y.desc).map (fun d => d.parameters.length) = some n) ∧ maxL ≤ 15
def zLS (own : String) (idx : Nat) (y : MethodName) (bytes : ByteArray) (maxL : Nat) (ret : Option FieldType) (n : Nat) : Prop := Cond.methodLink own idx y ∈ zTs ∧ Cond.static y ∈ zTs ∧ Cond.initialized y.cls ∈ zTs ∧ Cond.code y bytes maxL ret ∈ zTs ∧ (y.cls ≠ "java/lang/invoke/MethodHandle" ∧ y.cls ≠ "java/lang/invoke/VarHandle" ∧ (parseMethodDescriptor y.desc).map (fun d => d.parameters.length) = some n) ∧ maxL ≤ 15
def zLN (own host : String) (idx : Nat) (y : MethodName) (bytes : ByteArray) (maxL : Nat) (ret : Option FieldType) (n : Nat) : Prop := Cond.methodLinkNest own idx y host ∈ zTs ∧ Cond.static y ∈ zTs ∧ Cond.initialized y.cls ∈ zTs ∧ Cond.code y bytes maxL ret ∈ zTs ∧ (y.cls ≠ "java/lang/invoke/MethodHandle" ∧ y.cls ≠ "java/lang/invoke/VarHandle" ∧ (parseMethodDescriptor y.desc).map (fun d => d.parameters.length) = some n) ∧ maxL ≤ 15
theorem zlen {y : MethodName} {n : Nat} (h : (parseMethodDescriptor y.desc).map (fun d => d.parameters.length) = some n) : ∀ sig, parseMethodDescriptor y.desc = some sig → n = sig.parameters.length := by
  intro sig hs
  rw [hs] at h
  exact (Option.some.inj h).symm
theorem zcode {y : MethodName} {bytes : ByteArray} {maxL : Nat} {ret : Option FieldType} {s : State} {args : Array Value} (h : (Cond.code y bytes maxL ret).before args s = true) : ∀ w ∈ [Cond.code y bytes maxL ret], ∀ (a' : Array Value) (U : State), s.WarmedH U.vm → w.before a' U = true := by
  intro w hw a' U hW
  rw [List.mem_singleton.mp hw]
  exact word_at hW (Or.inl rfl) h
theorem zroom {R : Room} {d maxL : Nat} {b : Nat × Nat} (h : d + 1 ≤ R.frames ∧ 34 * (d + 1) + 22 ≤ R.locals) (hm : maxL ≤ 15) : (zRm d b.1 b.2).frames + 1 ≤ R.frames ∧ 8 + (maxL + 11) + (zRm d b.1 b.2).locals ≤ R.locals := by
  refine ⟨h.1, ?_⟩
  show 8 + (maxL + 11) + (34 * d + 22) ≤ R.locals
  omega
/-- what a call needs of the world, for the callee's start -/
theorem zpre {s : State} {A : Nat → Prop} {H : Heap} {locs : List Loc} (hSS : zS Z s) (hA : ∀ q, s.heap.size ≤ q → A q) (hAd : ∀ k, lv k = true → A (ad k)) (hQ : zQ A s s.heap) (hW : zW Z lv ad M H) (hS : va_S A s.heap H locs) (av : List Value) : (∀ q, zA lv ad H.size q → A q) ∧ ∀ U : State, U.heap = H → s.WarmedH U.vm → zPc Z lv ad H.size av M av.toArray U := by
  have hAB : ∀ q, zA lv ad H.size q → A q := by
    rintro q (⟨k, hk, rfl⟩ | h)
    · exact hAd k hk
    · exact hA q (Nat.le_trans hS.1 h)
  exact ⟨hAB, fun U hU hWm => ⟨rfl, by rw [hU], hSS.warm hWm, by rw [hU]; exact hW, hQ.go hWm.alike (fun a h1 h2 => by rw [hU]; exact hS.2.1 a h1 h2) hAB⟩⟩
/-- behind a call, in a method without handlers -/
theorem zback {p : Program} {e : Env} {R : Room} {s : State} {m : MethodId} {args : Array Value} {below : List Frame} {meth : Method} {c : Code} {A : Nat → Prop} {nL' : Nat} {Qf : zR1 → State → Prop} {H : Heap} {locs : List Loc} {ls : Array Slot} {st0 : List Value} {r r' : zR1} {vd : Bool} {vd' : Bool} {a : Array Value} {o' : zRES} {k : Int32 → zMem → zRES}
    (hE : zEnd Z lv ad (p, e, R, s, m, args, below, meth, c, A, nL', Qf) vd') (hNX : ∀ x ∈ c.exceptionTable.toList, False) (hlk : meth.locks = false) (ho : o' = some r') (hr : zb o' k = some r) (hx : (∀ x, r.1 = .inr x → cs.1 + 1 ≤ R.cells ∧ cs.2 + 6 ≤ R.slots) ∧ cs.1 ≤ R.cells ∧ cs.2 ≤ R.slots)
    (run : vx_Run p l e R s m args below meth c H locs cs.1 cs.2 (zbn r').1 (zbn r').2 (F0 m pc ls st0) S (zQc Z lv ad H.size vd r' a) (zXc Z lv ad H.size r') (zA lv ad H.size)) (hS : va_S A s.heap H locs) (hA : ∀ q, zA lv ad H.size q → A q) (hL : lv_has ls nL' L)
    (kk : ∀ (v : Int32) (M' : zMem), o' = some (.inl v, M') → zG l Z lv ad (p, e, R, s, m, args, below, meth, c, A, nL', Qf) cs (pc + 3) L (zrv vd v ++ S) M' (k v M')) : W p l e R s m args below meth c H locs cs.1 cs.2 (Qf r) (F0 m pc ls st0) := by
  obtain ⟨r1, M'⟩ := r'
  subst ho
  refine zrun run hS hA (fun x hx1 ce q H1 locs1 hw1 hS1 hce hcv hcl => ?_) (fun v hv H1 locs1 hw1 hS1 => ?_)
  · dsimp only at hx1
    subst hx1
    cases hr
    obtain ⟨rfl, rfl⟩ := hE
    obtain ⟨h1, h2⟩ := hx.1 x rfl
    exact vx_out (fun z hz => (hNX z hz).elim) hlk hce hcv hcl (fun t ht hal => ⟨⟨x, rfl, rfl⟩, by rw [ht]; exact hw1, hS1.F ht⟩) hS1.2.2 h1 h2
  · dsimp only at hv
    subst hv
    exact kk v M' rfl r hr hx H1 locs1 ls hw1 hS1 hL
theorem zbn_le {R : Room} {cs : Nat × Nat} {r r' : zR1} {o' : zRES} {k : Int32 → zMem → zRES} (ho : o' = some r') (hr : zb o' k = some r) (hx : (∀ x, r.1 = .inr x → cs.1 + 1 ≤ R.cells ∧ cs.2 + 6 ≤ R.slots) ∧ cs.1 ≤ R.cells ∧ cs.2 ≤ R.slots) : cs.1 + (zbn r').1 ≤ R.cells ∧ cs.2 + (zbn r').2 ≤ R.slots := by
  obtain ⟨r1, M'⟩ := r'
  subst ho
  cases r1 with
  | inl v => exact hx.2
  | inr x =>
    cases hr
    exact hx.1 x rfl
theorem zsome {o' : zRES} {k : Int32 → zMem → zRES} {r : zR1} (hr : zb o' k = some r) : ∃ r', o' = some r' := by
  cases o' with
  | none => cases hr
  | some r' => exact ⟨r', rfl⟩
theorem zg_callV (hC : zC l Z lv ad X own cc nL ret (d + 1)) {vd' : Bool} (hE : zEnd Z lv ad X vd') (hN : zNoX X) {idx n k ci maxL : Nat} {y : MethodName} {bytes : ByteArray} {rt : Option FieldType} {vd : Bool} {As : List Value} {o' : zRES} {kf : Int32 → zMem → zRES} {C : String} {T : u_T} {N : Nat}
    {St : List Value} (hst : St = As.reverse ++ .ref (ad k) :: S) (hT : zT l Z lv ad (.code y bytes maxL rt) y d vd zbn (.ref (ad k) :: As) M o') (hL0 : zLV own idx y bytes maxL rt n) (hn : As.length = n) (hd : decode cc pc = .ok (.invokevirtual idx, 3)) (hl : lv k = true) (hz : zK k = (0, ci)) (hc : vwCl[ci]? = some (C, T, N)) (hcl : y.cls = C) (hcat : (S.map fun v => v.category).sum ≤ 8)
    (kk : ∀ (v : Int32) (M' : zMem), o' = some (.inl v, M') → zG l Z lv ad X cs (pc + 3) L (zrv vd v ++ S) M' (kf v M')) : zG l Z lv ad X cs pc L St M (zb o' kf) := by
  subst hst
  obtain ⟨p, e, R, s, m, args, below, meth, c, A, nL', Qf⟩ := X
  obtain ⟨hx0, hb, ⟨rfl, hml⟩, hown, hSS, hst, hlk, hret, hroom, hA, hAd, hQ⟩ := id hC
  intro r hr hx H locs ls hW hS hL
  obtain ⟨r', ho⟩ := zsome hr
  obtain ⟨hAB, hpre⟩ := zpre hSS hA hAd hQ hW hS (.ref (ad k) :: As)
  obtain ⟨w1, w2, w3, w4, w5, w6, w7⟩ := hL0
  have hcb : ∀ w ∈ zTs, w.before args s = true := fun w hw => hSS.1 w hw _
  have h1 := hW.1 k hl
  rw [zE_0 hz] at h1
  refine zback hE hN hlk ho hr hx (vx_runV (nL := nL') (Ts := zTs) (own := own) (C := C) (index := idx) (n := n) ⟨hx0, hb, hml, hown, hcb⟩ (hT H.size r' ho) ⟨⟨rfl, rfl, (zroom hroom w7).1, (zroom hroom w7).2, zcode (hcb _ w5), List.mem_singleton.mpr rfl, hcb _ w5, hcb _ w4, ⟨w6.1, w6.2.1⟩, zlen w6.2.2, hcb _ w1⟩, hcb _ w2, by rw [← hcl]; exact hcb _ w3⟩
    ⟨zPc_blind, va_recv hSS.2.1 (zone h1) (q0 := 0) hc rfl, hpre⟩ rfl hn hL.1 rfl (lv_room hcat) hd (zbn_le ho hr hx)) hS hAB hL kk
theorem zg_callS (hC : zC l Z lv ad X own cc nL ret (d + 1)) {vd' : Bool} (hE : zEnd Z lv ad X vd') (hN : zNoX X) {idx n maxL : Nat} {y : MethodName} {bytes : ByteArray} {rt : Option FieldType} {vd : Bool} {As : List Value} {o' : zRES} {kf : Int32 → zMem → zRES}
    {St : List Value} (hst : St = As.reverse ++ S) (hT : zT l Z lv ad (.code y bytes maxL rt) y d vd zbn As M o') (hL0 : zLS own idx y bytes maxL rt n) (hn : As.length = n) (hd : decode cc pc = .ok (.invokestatic idx, 3)) (hcat : (S.map fun v => v.category).sum ≤ 8)
    (kk : ∀ (v : Int32) (M' : zMem), o' = some (.inl v, M') → zG l Z lv ad X cs (pc + 3) L (zrv vd v ++ S) M' (kf v M')) : zG l Z lv ad X cs pc L St M (zb o' kf) := by
  subst hst
  obtain ⟨p, e, R, s, m, args, below, meth, c, A, nL', Qf⟩ := X
  obtain ⟨hx0, hb, ⟨rfl, hml⟩, hown, hSS, hst, hlk, hret, hroom, hA, hAd, hQ⟩ := id hC
  intro r hr hx H locs ls hW hS hL
  obtain ⟨r', ho⟩ := zsome hr
  obtain ⟨hAB, hpre⟩ := zpre hSS hA hAd hQ hW hS As
  obtain ⟨w1, w2, w4, w5, w6, w7⟩ := hL0
  have hcb : ∀ w ∈ zTs, w.before args s = true := fun w hw => hSS.1 w hw _
  refine zback hE hN hlk ho hr hx (vx_runS (nL := nL') (Ts := zTs) (own := own) (index := idx) (n := n) ⟨hx0, hb, hml, hown, hcb⟩ (hT H.size r' ho) ⟨⟨rfl, rfl, (zroom hroom w7).1, (zroom hroom w7).2, zcode (hcb _ w5), List.mem_singleton.mpr rfl, hcb _ w5, hcb _ w4, ⟨w6.1, w6.2.1⟩, zlen w6.2.2, hcb _ w1⟩, hcb _ w2⟩
    ⟨zPc_blind, hpre⟩ rfl hn hL.1 rfl (lv_room hcat) hd (zbn_le ho hr hx)) hS hAB hL kk
theorem zg_callVi (hC : zC l Z lv ad X own cc nL ret (d + 1)) {vd' : Bool} (hE : zEnd Z lv ad X vd') (hN : zNoX X) {idx n k ci maxL : Nat} {y : MethodName} {bytes : ByteArray} {rt : Option FieldType} {As : List Value} {o' : zRES} {kf : Int32 → zMem → zRES} {C : String} {T : u_T} {N : Nat}
    {St : List Value} (hst : St = As.reverse ++ .ref (ad k) :: S) (hT : zT l Z lv ad (.code y bytes maxL rt) y d false zbn (.ref (ad k) :: As) M o') (hL0 : zLV own idx y bytes maxL rt n) (hn : As.length = n) (hd : decode cc pc = .ok (.invokevirtual idx, 3)) (hl : lv k = true) (hz : zK k = (0, ci)) (hc : vwCl[ci]? = some (C, T, N)) (hcl : y.cls = C) (hcat : (S.map fun v => v.category).sum ≤ 8)
    (kk : ∀ (v : Int32) (M' : zMem), o' = some (.inl v, M') → zG l Z lv ad X cs (pc + 3) L (.int v :: S) M' (kf v M')) : zG l Z lv ad X cs pc L St M (zb o' kf) := zg_callV hC hE hN hst hT hL0 hn hd hl hz hc hcl hcat kk
theorem zg_callSi (hC : zC l Z lv ad X own cc nL ret (d + 1)) {vd' : Bool} (hE : zEnd Z lv ad X vd') (hN : zNoX X) {idx n maxL : Nat} {y : MethodName} {bytes : ByteArray} {rt : Option FieldType} {As : List Value} {o' : zRES} {kf : Int32 → zMem → zRES}
    {St : List Value} (hst : St = As.reverse ++ S) (hT : zT l Z lv ad (.code y bytes maxL rt) y d false zbn As M o') (hL0 : zLS own idx y bytes maxL rt n) (hn : As.length = n) (hd : decode cc pc = .ok (.invokestatic idx, 3)) (hcat : (S.map fun v => v.category).sum ≤ 8)
    (kk : ∀ (v : Int32) (M' : zMem), o' = some (.inl v, M') → zG l Z lv ad X cs (pc + 3) L (.int v :: S) M' (kf v M')) : zG l Z lv ad X cs pc L St M (zb o' kf) := zg_callS hC hE hN hst hT hL0 hn hd hcat kk
theorem zg_callVv (hC : zC l Z lv ad X own cc nL ret (d + 1)) {vd' : Bool} (hE : zEnd Z lv ad X vd') (hN : zNoX X) {idx n k ci maxL : Nat} {y : MethodName} {bytes : ByteArray} {rt : Option FieldType} {As : List Value} {o' : zRES} {kf : Int32 → zMem → zRES} {C : String} {T : u_T} {N : Nat}
    {St : List Value} (hst : St = As.reverse ++ .ref (ad k) :: S) (hT : zT l Z lv ad (.code y bytes maxL rt) y d true zbn (.ref (ad k) :: As) M o') (hL0 : zLV own idx y bytes maxL rt n) (hn : As.length = n) (hd : decode cc pc = .ok (.invokevirtual idx, 3)) (hl : lv k = true) (hz : zK k = (0, ci)) (hc : vwCl[ci]? = some (C, T, N)) (hcl : y.cls = C) (hcat : (S.map fun v => v.category).sum ≤ 8)
    (kk : ∀ (v : Int32) (M' : zMem), o' = some (.inl v, M') → zG l Z lv ad X cs (pc + 3) L (S) M' (kf v M')) : zG l Z lv ad X cs pc L St M (zb o' kf) := zg_callV hC hE hN hst hT hL0 hn hd hl hz hc hcl hcat kk
theorem zg_callSv (hC : zC l Z lv ad X own cc nL ret (d + 1)) {vd' : Bool} (hE : zEnd Z lv ad X vd') (hN : zNoX X) {idx n maxL : Nat} {y : MethodName} {bytes : ByteArray} {rt : Option FieldType} {As : List Value} {o' : zRES} {kf : Int32 → zMem → zRES}
    {St : List Value} (hst : St = As.reverse ++ S) (hT : zT l Z lv ad (.code y bytes maxL rt) y d true zbn As M o') (hL0 : zLS own idx y bytes maxL rt n) (hn : As.length = n) (hd : decode cc pc = .ok (.invokestatic idx, 3)) (hcat : (S.map fun v => v.category).sum ≤ 8)
    (kk : ∀ (v : Int32) (M' : zMem), o' = some (.inl v, M') → zG l Z lv ad X cs (pc + 3) L (S) M' (kf v M')) : zG l Z lv ad X cs pc L St M (zb o' kf) := zg_callS hC hE hN hst hT hL0 hn hd hcat kk
def zLM (own : String) (idx : Nat) : Prop := Cond.methodLink own idx Lib.Math.min.name ∈ zTs ∧ Cond.static Lib.Math.min.name ∈ zTs ∧ Cond.initialized "java/lang/Math" ∈ zTs ∧ Cond.code Lib.Math.min.name Lib.Math.min.code 2 (some .int) ∈ zTs
theorem zg_mmin (hC : zC l Z lv ad X own cc nL ret (d + 1)) {idx : Nat} {x y : Int32} (hL0 : zLM own idx) (hd : decode cc pc = .ok (.invokestatic idx, 3)) (hcat : (S.map fun v => v.category).sum ≤ 8) (kk : zG l Z lv ad X cs (pc + 3) L (.int (if y < x then y else x) :: S) M o) : zG l Z lv ad X cs pc L (.int y :: .int x :: S) M o := by
  obtain ⟨p, e, R, s, m, args, below, meth, c, A, nL', Qf⟩ := X
  obtain ⟨hx0, hb, ⟨rfl, hml⟩, hown, hSS, hst, hlk, hret, hroom, hA, hAd, hQ⟩ := id hC
  intro r hr hx H locs ls hW hS hL
  obtain ⟨w1, w2, w3, w4⟩ := hL0
  have hcb : ∀ w ∈ zTs, w.before args s = true := fun w hw => hSS.1 w hw _
  exact va_mmin hx0 hb (hml.trans hL.1.symm) hown (hcb _ w1) (hcb _ w2) (hcb _ w3) (hcb _ w4) (by have := hroom.1; omega) (by have := hroom.2; omega) hx.2.1 hx.2.2 hd (kk r hr hx H locs ls hW hS hL)
theorem zflag (hC : zC l Z lv ad X own cc nL ret d) : l.stackTraces = false := by
  obtain ⟨p, e, R, s, m, args, below, meth, c, A, nL', Qf⟩ := X
  exact hC.2.2.2.2.2.1
end ZG
