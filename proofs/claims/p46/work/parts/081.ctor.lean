theorem zF_congr {ci k : Nat} {ad ad' : Nat → Nat} {f : Nat → Int32} {g : Nat → Int64} (hk : zK k = (0, ci)) (h : ∀ c ∈ zch k, ad c = ad' c) : zF ci ad k f g = zF ci ad' k f g := by
  unfold zch at h
  rw [hk] at h
  match ci with
  | 0 => simp only [List.forall_mem_cons, List.not_mem_nil, false_imp_iff, implies_true, and_true] at h; simp only [zF, h]
  | 1 => simp only [List.forall_mem_cons, List.not_mem_nil, false_imp_iff, implies_true, and_true] at h; simp only [zF, h]
  | 2 => simp only [List.forall_mem_cons, List.not_mem_nil, false_imp_iff, implies_true, and_true] at h; simp only [zF, h]
  | 3 => simp only [List.forall_mem_cons, List.not_mem_nil, false_imp_iff, implies_true, and_true] at h; simp only [zF, h]
  | 4 => simp only [List.forall_mem_cons, List.not_mem_nil, false_imp_iff, implies_true, and_true] at h; simp only [zF, h]
  | 5 => simp only [List.forall_mem_cons, List.not_mem_nil, false_imp_iff, implies_true, and_true] at h; simp only [zF, h]
  | 6 => simp only [List.forall_mem_cons, List.not_mem_nil, false_imp_iff, implies_true, and_true] at h; simp only [zF, h]
  | 7 => simp only [List.forall_mem_cons, List.not_mem_nil, false_imp_iff, implies_true, and_true] at h; simp only [zF, h]
  | 8 => simp only [List.forall_mem_cons, List.not_mem_nil, false_imp_iff, implies_true, and_true] at h; simp only [zF, h]
  | n + 9 => rfl
theorem zK_big {k : Nat} (h : 88 ≤ k) : zK k = (9, 0) := by
  obtain ⟨j, rfl⟩ : ∃ j, k = j + 88 := ⟨k - 88, by omega⟩
  rfl
theorem zK_ref : ∀ k, k < 88 → (zK k).1 = 3 → (zK k).2 = 5 := by decide
theorem zE_congr {Z : zZ} {k : Nat} {ad ad' : Nat → Nat} {f : Nat → Int32} {g : Nat → Int64} (hk : k < 88) (h : ∀ c ∈ zch k, ad c = ad' c) : zE Z ad k f g = zE Z ad' k f g := by
  have h9 := zK_ref k hk
  cases hq : zK k with
  | mk a b =>
    match a, hq with
    | 0, hq => rw [zE_0 hq, zE_0 hq, zF_congr hq h]
    | 1, hq => rw [zE_1 hq, zE_1 hq]
    | 2, hq => rw [zE_2 hq, zE_2 hq]
    | 3, hq =>
      have hb : b = 5 := by rw [hq] at h9; exact h9 rfl
      subst hb
      rw [zE_3 hq, zE_3 hq]
      unfold zch at h
      rw [hq] at h
      simp only [List.forall_mem_cons, List.not_mem_nil, false_imp_iff, implies_true, and_true] at h
      obtain ⟨h1, h2, h3, h4, h5⟩ := h
      congr 7
      funext i
      by_cases hi : i < 5
      · rw [if_pos hi, if_pos hi]
        rcases (show i = 0 ∨ i = 1 ∨ i = 2 ∨ i = 3 ∨ i = 4 by omega) with rfl | rfl | rfl | rfl | rfl
        · exact congrArg some h1
        · exact congrArg some h2
        · exact congrArg some h3
        · exact congrArg some h4
        · exact congrArg some h5
      · rw [if_neg hi, if_neg hi]
    | n + 4, hq =>
      exfalso
      have : ∀ k, k < 88 → (zK k).1 < 4 := by decide
      have h2 := this k hk
      rw [hq] at h2
      dsimp only at h2
      omega
/-- two worlds beside one another -/
theorem zW.union {Z : zZ} {l1 l2 : Nat → Bool} {a1 a2 : Nat → Nat} {M : zMem} {H : Heap} (h1 : zW Z l1 a1 M H) (h2 : zW Z l2 a2 M H) (c1 : zcl l1) (c2 : zcl l2) (b1 : ∀ k, l1 k = true → k < 88) (b2 : ∀ k, l2 k = true → k < 88) (hd : ∀ k, l2 k = true → l1 k = false) (ha : ∀ i j, l1 i = true → l2 j = true → a1 i ≠ a2 j) : zW Z (zor l1 l2) (zmg l1 a1 a2) M H := by
  have e1 : ∀ k, l1 k = true → zmg l1 a1 a2 k = a1 k := fun k hk => if_pos hk
  have e2 : ∀ k, l2 k = true → zmg l1 a1 a2 k = a2 k := fun k hk => if_neg (by rw [hd k hk]; decide)
  have or : ∀ k, zor l1 l2 k = true → l1 k = true ∨ l2 k = true := fun k hk => by simpa [zor] using hk
  refine ⟨fun k hk => ?_, fun i j hi hj hij => ?_⟩
  · rcases or k hk with h | h
    · rw [e1 k h, zE_congr (ad := zmg l1 a1 a2) (ad' := a1) (b1 k h) (fun c hc => e1 c (c1 k h c hc))]
      exact h1.1 k h
    · rw [e2 k h, zE_congr (ad := zmg l1 a1 a2) (ad' := a2) (b2 k h) (fun c hc => e2 c (c2 k h c hc))]
      exact h2.1 k h
  · rcases or i hi with hi | hi <;> rcases or j hj with hj | hj
    · rw [e1 i hi, e1 j hj] at hij; exact h1.2 i j hi hj hij
    · rw [e1 i hi, e2 j hj] at hij; exact absurd hij (ha i j hi hj)
    · rw [e2 i hi, e1 j hj] at hij; exact absurd hij.symm (ha j i hj hi)
    · rw [e2 i hi, e2 j hj] at hij; exact h2.2 i j hi hj hij
/-! a constructor's contract -/
def zIF (h0 sz : Nat) : Nat → Prop := fun q => q = h0 ∨ sz ≤ q
def zIP (Z : zZ) (ci h0 sz : Nat) : Array Value → State → Prop := fun a U => a = #[Value.ref h0] ∧ U.heap.size = sz ∧ zS Z U ∧ va_AOA .int U ∧ va_at Z.1 vwCl (h0, .inr (ci, zdf ci)) U.heap ∧ zQ (zIF h0 sz) U U.heap
def zIR (Z : zZ) (o n h0 sz : Nat) (H : Heap) : Prop := ∃ ad : Nat → Nat, ad o = h0 ∧ (∀ k, o < k → k < o + n → sz ≤ ad k) ∧ zW Z (zlv o n) ad zM0 H
def zIQ (Z : zZ) (o n h0 sz : Nat) : Array Value → State → Outcome → State → Prop := fun _ st oc t => (oc = .returned none ∧ zIR Z o n h0 sz t.heap) ∧ va_F (zIF h0 sz) st t
def zCt (l : Launch) (Z : zZ) (y : MethodName) (cc : ByteArray) (nL d mc ms ci o n : Nat) : Prop := ∀ h0 sz : Nat, Met l y [.code y cc nL none] (zRm d mc ms) (zIP Z ci h0 sz) (zIQ Z o n h0 sz) mc ms (zIF h0 sz)
theorem zIP_blind {Z : zZ} {ci h0 sz : Nat} : FrameBlind (zIP Z ci h0 sz) := fun a U g mk h => ⟨h.1, h.2.1, h.2.2.1.calling, va_AOA.moved (Vm.Alike.refl U.vm) h.2.2.2.1, h.2.2.2.2.1, h.2.2.2.2.2.go (Vm.Alike.refl U.vm) (fun _ _ _ => rfl) (fun _ h => h)⟩
def zIE (Z : zZ) (X : zX) (o n h0 mc ms : Nat) : State → Prop := match X with
  | (_, _, _, s, _, args, below, _, _, _, _, _) => MQ below (zIQ Z o n h0 s.heap.size) args s mc ms (zIF h0 s.heap.size)
def zIX (X : zX) (h0 mc ms : Nat) : Prop := match X with
  | (_, _, R, s, _, _, _, meth, _, A, _, _) => meth.name = "<init>" ∧ va_AOA .int s ∧ R.cells = mc ∧ R.slots = ms ∧ A = zIF h0 s.heap.size ∧ h0 < s.heap.size
section ZI
variable {l : Launch} {Z : zZ} {lv : Nat → Bool} {ad adC : Nat → Nat} {X : zX} {cs : Nat × Nat} {own : String} {cc : ByteArray} {nL : Nat} {ret : Option FieldType} {d : Nat} {pc : Nat} {L L' : List (Nat × Value)} {S : List Value} {ws ws' : va_W} {Q : State → Prop}
theorem zCt_of {y : MethodName} {mc ms ci o n : Nat} (hl : l.stackTraces = false) (hy : plainName y.cls = true) (hnm : y.name = "<init>") (hn : 1 ≤ nL)
    (body : ∀ (h0 : Nat) (X : zX), zC l Z zno ad X y.cls cc nL none d → zIX X h0 mc ms → zNoX X → zH l Z X [(h0, .inr (ci, zdf ci))] zno ad (0, 0) 0 [(0, .ref h0)] [] (zIE Z X o n h0 mc ms)) : zCt l Z y cc nL d mc ms ci o n := by
  intro h0 sz
  refine Met.ofW (cc := cc) (maxL := nL) (ret := none) (ws' := []) hy rfl ?_
  intro p e s m args below meth c s₁ B hml hv
  obtain ⟨rfl, hsz, hSS, hAO, hat, hQ⟩ := hv
  subst hsz
  have hlt : h0 < s.heap.size := hat.lt
  have hin : meth.name = "<init>" := (name_of_methodNamed B.named B.method).1.trans hnm
  have ht : ∀ x ∈ c.exceptionTable.toList, False := by
    obtain ⟨meth9, c9, h1, h2, -, -, -, -, h7, -⟩ := Cond.code_spec B.named (atoms_spec B.pre _ List.mem_cons_self)
    cases Option.some.inj (h1.symm.trans B.method)
    cases Option.some.inj (h2.symm.trans (Stand.of_body B).code)
    intro x hx
    rw [Array.isEmpty_iff.mp h7] at hx
    cases hx
  have hb := body h0 (p, e, zRm d mc ms, s, m, #[Value.ref h0], below, meth, c, zIF h0 s.heap.size, nL, fun _ _ => True)
    ⟨B.exec, B.bytes, ⟨rfl, hml⟩, findClass_of_methodNamed B.named, hSS, hl, B.notSynchronized, B.returns, ⟨Nat.le_refl d, Nat.le_refl (34 * d + 22)⟩, fun q h => Or.inr h, fun k h => (by cases h), hQ⟩ ⟨hin, hAO, rfl, rfl, rfl, hlt⟩ ht s.heap []
  have hle := lv_entry ([.ref h0]) (n := nL) hn
  show W p l e _ s m _ below meth c s.heap [] 0 0 _ (entryFrame m ([Value.ref h0] : List Value).toArray nL)
  rw [lg_entry_eq]
  refine hb _ ⟨zone hat, ⟨fun i j x y hi hj _ => ?_, fun k q hk => ?_⟩, ⟨fun k hk => (by cases hk), fun i j hi => (by cases hi)⟩, fun k hk => (by cases hk)⟩ va_S.rf hle
  · match i, j, hi, hj with
    | 0, 0, _, _ => rfl
    | 0, j + 1, _, hj => simp at hj
    | i + 1, _, hi, _ => simp at hi
  · match k, hk with
    | 0, hk => cases hk; exact Or.inl rfl
    | k + 1, hk => simp at hk
theorem zh_room {mc ms h0 : Nat} (hX : zIX X h0 mc ms) {a b : Nat} (h : a ≤ mc ∧ b ≤ ms) : ∀ X' : zX, X' = X → match X' with | (_, _, R, _, _, _, _, _, _, _, _, _) => a ≤ R.cells ∧ b ≤ R.slots := by
  obtain ⟨p, e, R, s, m, args, below, meth, c, A, nL', Qf⟩ := X
  rintro _ rfl
  obtain ⟨-, -, h1, h2, -⟩ := hX
  show a ≤ R.cells ∧ b ≤ R.slots
  rw [h1, h2]
  exact h
theorem zh_in {mc ms h0 : Nat} (hX : zIX X h0 mc ms) : zIn X := by
  obtain ⟨p, e, R, s, m, args, below, meth, c, A, nL', Qf⟩ := X
  exact hX.1
theorem zh_mna (hC : zC l Z zno adC X own cc nL ret d) {mc ms h0 : Nat} (hX : zIX X h0 mc ms) {idx : Nat} {k : Int32} {K' : Nat} (hd : decode cc pc = .ok (.multianewarray idx 2, 4)) (w1 : Cond.classLink own idx "[[I" ∈ zTs) (w2 : Cond.arrayClass .int ∈ zTs) (hk : ¬ k < 0) (hK : k.toNatClampNeg = K') (hb2 : K' * 4 ≤ 536870912) (hroom : cs.1 + 6 ≤ mc ∧ cs.2 + (5 + 5 * K') ≤ ms)
    (kk : ∀ (q : Nat) (r : Nat → Nat), zH l Z X (ws ++ [(q, .inl (Z.2.2.2, 5, .inr (.inr (.inr (.inr (fun i => if i < 5 then some (r i) else none)))))), (r 0, .inl (Z.2.1, K', .inl (fun _ => 0))), (r 1, .inl (Z.2.1, K', .inl (fun _ => 0))), (r 2, .inl (Z.2.1, K', .inl (fun _ => 0))), (r 3, .inl (Z.2.1, K', .inl (fun _ => 0))), (r 4, .inl (Z.2.1, K', .inl (fun _ => 0)))]) zno ad (cs.1 + 6, cs.2 + (5 + 5 * K')) (pc + 4) L (.ref q :: S) Q) : zH l Z X ws zno ad cs pc L (.int k :: .int 5 :: S) Q := by
  obtain ⟨p, e, R, s, m, args, below, meth, c, A, nL', Qf⟩ := X
  obtain ⟨hx0, hb, ⟨rfl, hml⟩, hown, hSS, hst, hlk, hret, hroom0, hA, hAd, hQ⟩ := id hC
  obtain ⟨g1, g2, g3, g4, g5, g6⟩ := hX
  intro H locs ls hW hS hL
  have hcb : ∀ w ∈ zTs, w.before args s = true := fun w hw => hSS.1 w hw _
  have hpl : va_pl ([] : List Nat) (fun _ => (Sum.inr (0, []) : va_E)) = [] := rfl
  have n1 : s.vm.findClass ("[" ++ FieldType.int.toString) = some Z.2.1 := (hSS.2.1.2 0 (Z.2.1, .int) rfl).2
  have n2 : s.vm.findClass ("[" ++ (FieldType.array .int).toString) = some Z.2.2.2 := (hSS.2.1.2 1 (Z.2.2.2, .array .int) rfl).2
  refine va_mna (X := ws) (L := []) (f := fun _ => .inr (0, [])) (ty := .int) (cy := Z.2.1) (D := Z.1) (cl := vwCl) (tys := zty Z) (N' := 5) (K' := K') (z := (K', .inl (fun _ => 0))) hx0 hb hown (hcb _ w1) g2 (hcb _ w2) n1 hSS.2.1 (by rw [hpl, List.append_nil]; exact hW.1) (by rw [hpl, List.append_nil]; exact hW.2.1) hS hA (by decide) hk (by decide) hK (by decide) hb2 (by omega) rfl rfl (by omega) (by omega) (fun c => arrV_new c K' (.int 0)) hd (fun q r cA H1 hinj hni hK1 hP1 hD1 hS1 => ?_)
  have hc : cA = Z.2.2.2 := by
    have h3 := (hK1.2 2 (cA, .array .int) rfl).2
    exact Option.some.inj (h3.symm.trans n2)
  subst hc
  have hl : (ws ++ [(q, (.inl (Z.2.2.2, 5, .inr (.inr (.inr (.inr (fun i => if i < 5 then some (r i) else none))))) : va_E))]) ++ va_pl ([] ++ (List.range 5).map r) (vr_up (fun _ => .inr (0, [])) ((List.range 5).map r) (.inl (Z.2.1, (K', .inl (fun _ => 0))))) = ws ++ [(q, .inl (Z.2.2.2, 5, .inr (.inr (.inr (.inr (fun i => if i < 5 then some (r i) else none)))))), (r 0, .inl (Z.2.1, K', .inl (fun _ => 0))), (r 1, .inl (Z.2.1, K', .inl (fun _ => 0))), (r 2, .inl (Z.2.1, K', .inl (fun _ => 0))), (r 3, .inl (Z.2.1, K', .inl (fun _ => 0))), (r 4, .inl (Z.2.1, K', .inl (fun _ => 0)))] := by
    have h5 : (List.range 5).map r = [r 0, r 1, r 2, r 3, r 4] := rfl
    rw [h5]
    simp [va_pl, vr_up]
  rw [hl] at hP1 hD1
  have e1 : cs.1 + 1 + 5 = cs.1 + 6 := rfl
  have e2 : cs.2 + 5 + 5 * K' = cs.2 + (5 + 5 * K') := by omega
  rw [e1, e2]
  exact kk q r H1 locs ls ⟨hP1, hD1, ⟨fun k hk => (by cases hk), fun i j hi => (by cases hi)⟩, fun k hk => (by cases hk)⟩ hS1 hL
end ZI
