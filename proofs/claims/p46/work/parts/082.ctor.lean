section ZJ
variable {l : Launch} {Z : zZ} {lv : Nat → Bool} {ad adC : Nat → Nat} {X : zX} {cs : Nat × Nat} {own : String} {cc : ByteArray} {nL : Nat} {ret : Option FieldType} {d : Nat} {pc : Nat} {L L' : List (Nat × Value)} {S : List Value} {ws ws' : va_W} {Q : State → Prop}
theorem zh_ret (hC : zC l Z zno adC X own cc nL none d) {mc ms h0 o n : Nat} (hX : zIX X h0 mc ms) (hd : decode cc pc = .ok (.return_, 1)) (hcs : cs = (mc, ms)) (hfin : ∀ (sz : Nat) (H : Heap), zHW Z ws lv ad (zIF h0 sz) H → h0 < sz → zIR Z o n h0 sz H) : zH l Z X ws lv ad cs pc L [] (zIE Z X o n h0 mc ms) := by
  obtain ⟨p, e, R, s, m, args, below, meth, c, A, nL', Qf⟩ := X
  obtain ⟨hx0, hb, ⟨rfl, hml⟩, hown, hSS, hst, hlk, hret, hroom0, hA, hAd, hQ⟩ := id hC
  obtain ⟨g1, g2, g3, g4, rfl, g6⟩ := hX
  subst hcs
  intro H locs ls hW hS hL
  exact W.vret hx0 hb hret (fun t ht hWm => ⟨⟨rfl, by rw [ht]; exact hfin _ H hW g6⟩, hS.F ht⟩) hS.2.2 hd hlk
/-- behind a constructor's call: the object is finished -/
theorem zh_back {p : Program} {e : Env} {R : Room} {s : State} {m : MethodId} {args : Array Value} {below : List Frame} {meth : Method} {c : Code} {A : Nat → Prop} {nL' : Nat} {Qf : zR1 → State → Prop} {H : Heap} {locs : List Loc} {ls : Array Slot} {st0 : List Value} {ws0 : va_W} {a ci o n mc ms : Nat} {aa : Array Value}
    (hA : ∀ q, s.heap.size ≤ q → A q) (hcl1 : zcl (zlv o n)) (hb1 : o + n ≤ 88) (hcl2 : zcl lv) (hb2 : ∀ k, lv k = true → k < 88) (hdj : ∀ k, lv k = true → zlv o n k = false) (hn : 0 < n)
    (run : va_Run p l e R s m args below meth c H locs cs.1 cs.2 mc ms (F0 m pc ls st0) S (zIQ Z o n a H.size aa) (zIF a H.size)) (hW : zHW Z (ws0 ++ [(a, .inr (ci, zdf ci))]) lv ad A H) (hS : va_S A s.heap H locs) (hL : lv_has ls nL' L)
    (kk : ∀ ad1 : Nat → Nat, ad1 o = a → zH l Z (p, e, R, s, m, args, below, meth, c, A, nL', Qf) ws0 (zor (zlv o n) lv) (zmg (zlv o n) ad1 ad) (cs.1 + mc, cs.2 + ms) (pc + 3) L S Q) : W p l e R s m args below meth c H locs cs.1 cs.2 Q (F0 m pc ls st0) := by
  have hla : (ws0 ++ [(a, (.inr (ci, zdf ci) : va_E))])[ws0.length]? = some (a, .inr (ci, zdf ci)) := by simp
  have hAa : A a := hW.2.1.2 _ _ hla
  have hf : ∀ q, zIF a H.size q → A q := by
    rintro q (rfl | h)
    · exact hAa
    · exact hA q (Nat.le_trans hS.1 h)
  intro T hT X
  obtain ⟨v, st₀, t, T', L9, h0, X', hL9, e1, e2, ⟨⟨hv, ad1, had, hnew, hw1⟩, hF⟩, st⟩ := run T hT X
  cases hv
  obtain ⟨k1, k2, k3⟩ := vx_keep h0 e1 hS (fun q _ h => hf q h) hf hL9 hF
  have hin0 : ∀ (i : Nat) (q : Nat × va_E), ws0[i]? = some q → q.1 < H.size ∧ q.1 ≠ a := by
    intro i q hi
    have hil := (List.getElem?_eq_some_iff.mp hi).1
    have hi2 : (ws0 ++ [(a, (.inr (ci, zdf ci) : va_E))])[i]? = some q := by rw [List.getElem?_append_left hil]; exact hi
    refine ⟨hW.lt hi2, fun h => ?_⟩
    have := hW.2.1.1 i ws0.length q _ hi2 hla h
    omega
  have hkeep : ∀ q, q < H.size → q ≠ a → T'.heap[q]? = H[q]? := fun q h1 h2 => k2 q h1 (fun h => by
    rcases h with h | h
    · exact h2 h
    · omega)
  have hlo : zlv o n o = true := by
    simp only [zlv, Bool.and_eq_true, decide_eq_true_eq]
    omega
  have had1 : ∀ k, zlv o n k = true → ad1 k = a ∨ H.size ≤ ad1 k := by
    intro k hk
    simp only [zlv, Bool.and_eq_true, decide_eq_true_eq] at hk
    by_cases h : k = o
    · subst h; exact Or.inl had
    · exact Or.inr (hnew k (by omega) hk.2)
  have hold : zW Z lv ad zM0 T'.heap := hW.2.2.1.kept (fun k hk => hkeep _ (hW.2.2.1.lt hk) (fun h => (hW.2.2.2 k hk).2 _ _ hla h.symm))
  have hw1 : zW Z (zlv o n) ad1 zM0 T'.heap := by rw [e1]; exact hw1
  have hU : zW Z (zor (zlv o n) lv) (zmg (zlv o n) ad1 ad) zM0 T'.heap := hw1.union hold hcl1 hcl2 (fun k hk => by
    simp only [zlv, Bool.and_eq_true, decide_eq_true_eq] at hk
    omega) hb2 hdj (fun i j hi hj h => by
      have h1 := hW.2.2.1.lt hj
      have h2 := (hW.2.2.2 j hj).2 _ _ hla
      dsimp only at h2
      rcases had1 i hi with h3 | h3
      · exact h2 (by rw [← h3, h])
      · omega)
  have hz : zHW Z ws0 (zor (zlv o n) lv) (zmg (zlv o n) ad1 ad) A T'.heap := by
    refine ⟨fun i q hi => ?_, ⟨fun i j x y hi hj h => ?_, fun i q hi => ?_⟩, hU, fun k hk => ?_⟩
    · have hil := (List.getElem?_eq_some_iff.mp hi).1
      exact (hW.1 i q (by rw [List.getElem?_append_left hil]; exact hi)).kept (hkeep _ (hin0 i q hi).1 (hin0 i q hi).2)
    · have h1 := (List.getElem?_eq_some_iff.mp hi).1
      have h2 := (List.getElem?_eq_some_iff.mp hj).1
      exact hW.2.1.1 i j x y (by rw [List.getElem?_append_left h1]; exact hi) (by rw [List.getElem?_append_left h2]; exact hj) h
    · have hil := (List.getElem?_eq_some_iff.mp hi).1
      exact hW.2.1.2 i q (by rw [List.getElem?_append_left hil]; exact hi)
    · have hk' : zlv o n k = true ∨ lv k = true := by simpa [zor] using hk
      by_cases h : zlv o n k = true
      · have e9 : zmg (zlv o n) ad1 ad k = ad1 k := if_pos h
        rw [e9]
        rcases had1 k h with h3 | h3
        · rw [h3]
          exact ⟨hAa, fun i q hi => (hin0 i q hi).2⟩
        · refine ⟨hA _ (Nat.le_trans hS.1 h3), fun i q hi => ?_⟩
          have := (hin0 i q hi).1
          omega
      · have e9 : zmg (zlv o n) ad1 ad k = ad k := if_neg h
        rw [e9]
        have hk2 : lv k = true := hk'.resolve_left h
        refine ⟨(hW.2.2.2 k hk2).1, fun i q hi => ?_⟩
        have hil := (List.getElem?_eq_some_iff.mp hi).1
        exact (hW.2.2.2 k hk2).2 i q (by rw [List.getElem?_append_left hil]; exact hi)
  obtain ⟨t2, a1, b1⟩ := kk ad1 had T'.heap (locs ++ L9) ls hz k3 hL T' rfl X'
  exact ⟨t2, st t2 a1, b1⟩
def zLI (own : String) (idx : Nat) (y : MethodName) (bytes : ByteArray) (maxL : Nat) : Prop := Cond.methodLink own idx y ∈ zTs ∧ Cond.instanceMethod y ∈ zTs ∧ Cond.initialized y.cls ∈ zTs ∧ Cond.code y bytes maxL none ∈ zTs ∧ (y.name = "<init>" ∧ y.cls ≠ "java/lang/invoke/MethodHandle" ∧ y.cls ≠ "java/lang/invoke/VarHandle" ∧ (parseMethodDescriptor y.desc).map (fun d => d.parameters.length) = some 0) ∧ maxL ≤ 15
def zLJ (own host : String) (idx : Nat) (y : MethodName) (bytes : ByteArray) (maxL : Nat) : Prop := Cond.methodLinkNest own idx y host ∈ zTs ∧ Cond.instanceMethod y ∈ zTs ∧ Cond.initialized y.cls ∈ zTs ∧ Cond.code y bytes maxL none ∈ zTs ∧ (y.name = "<init>" ∧ y.cls ≠ "java/lang/invoke/MethodHandle" ∧ y.cls ≠ "java/lang/invoke/VarHandle" ∧ (parseMethodDescriptor y.desc).map (fun d => d.parameters.length) = some 0) ∧ maxL ≤ 15
/-- what a constructor's call asks of the caller -/
def zAO (X : zX) : Prop := match X with
  | (_, _, _, s, _, _, _, _, _, _, _, _) => va_AOA .int s
theorem zh_pre {s : State} {A : Nat → Prop} {H : Heap} {locs : List Loc} {a ci : Nat} {ws0 : va_W} (hSS : zS Z s) (hAO : va_AOA .int s) (hA : ∀ q, s.heap.size ≤ q → A q) (hQ : zQ A s s.heap) (hW : zHW Z (ws0 ++ [(a, .inr (ci, zdf ci))]) lv ad A H) (hS : va_S A s.heap H locs) : ∀ U : State, U.heap = H → s.WarmedH U.vm → zIP Z ci a H.size ([Value.ref a] : List Value).toArray U := by
  have hla : (ws0 ++ [(a, (.inr (ci, zdf ci) : va_E))])[ws0.length]? = some (a, .inr (ci, zdf ci)) := by simp
  have hAa : A a := hW.2.1.2 _ _ hla
  intro U hU hWm
  refine ⟨rfl, by rw [hU], hSS.warm hWm, va_AOA.moved hWm.alike hAO, by rw [hU]; exact hW.1 _ _ hla, hQ.go hWm.alike (fun x h1 h2 => by rw [hU]; exact hS.2.1 x h1 h2) ?_⟩
  rintro q (rfl | h)
  · exact hAa
  · exact hA q (Nat.le_trans hS.1 h)
theorem zh_ctorI (hC : zC l Z zno adC X own cc nL ret (d + 1)) (hAO : zAO X) {idx : Nat} {y : MethodName} {bytes : ByteArray} {maxL mc ms a ci o n : Nat} {ws0 : va_W} (hT : zCt l Z y bytes maxL d mc ms ci o n) (hL0 : zLI own idx y bytes maxL) (hd : decode cc pc = .ok (.invokespecial idx, 3)) (hcat : (S.map fun v => v.category).sum ≤ 8) (hroom1 : ∀ X' : zX, X' = X → match X' with | (_, _, R, _, _, _, _, _, _, _, _, _) => cs.1 + mc ≤ R.cells ∧ cs.2 + ms ≤ R.slots)
    (hws : ws = ws0 ++ [(a, .inr (ci, zdf ci))]) (hcl1 : zcl (zlv o n)) (hb1 : o + n ≤ 88) (hcl2 : zcl lv) (hb2 : ∀ k, lv k = true → k < 88) (hdj : ∀ k, lv k = true → zlv o n k = false) (hn : 0 < n)
    (kk : ∀ ad1 : Nat → Nat, ad1 o = a → zH l Z X ws0 (zor (zlv o n) lv) (zmg (zlv o n) ad1 ad) (cs.1 + mc, cs.2 + ms) (pc + 3) L S Q) : zH l Z X ws lv ad cs pc L (.ref a :: S) Q := by
  subst hws
  obtain ⟨p, e, R, s, m, args, below, meth, c, A, nL', Qf⟩ := X
  obtain ⟨hx0, hb, ⟨rfl, hml⟩, hown, hSS, hst, hlk, hret, hroom, hA, hAd, hQ⟩ := id hC
  obtain ⟨w1, w2, w4, w5, w6, w7⟩ := hL0
  intro H locs ls hW hS hL
  have hcb : ∀ w ∈ zTs, w.before args s = true := fun w hw => hSS.1 w hw _
  have hr := hroom1 _ rfl
  exact zh_back hA hcl1 hb1 hcl2 hb2 hdj hn (va_runI (As := []) (nL := nL') (Ts := zTs) (own := own) (index := idx) (n := 0) ⟨hx0, hb, hml, hown, hcb⟩ (hT a H.size) ⟨⟨rfl, rfl, (zroom (b := (mc, ms)) hroom w7).1, (zroom (b := (mc, ms)) hroom w7).2, zcode (hcb _ w5), List.mem_singleton.mpr rfl, hcb _ w5, hcb _ w4, ⟨w6.2.1, w6.2.2.1⟩, zlen w6.2.2.2, hcb _ w1⟩, w6.1, hcb _ w2⟩ ⟨zIP_blind, zh_pre hSS hAO hA hQ hW hS⟩ rfl rfl hL.1 rfl (lv_room hcat) hd hr) hW hS hL kk
theorem zh_ctorN (hC : zC l Z zno adC X own cc nL ret (d + 1)) (hAO : zAO X) {idx : Nat} {host : String} {y : MethodName} {bytes : ByteArray} {maxL mc ms a ci o n : Nat} {ws0 : va_W} (hT : zCt l Z y bytes maxL d mc ms ci o n) (hL0 : zLJ own host idx y bytes maxL) (hd : decode cc pc = .ok (.invokespecial idx, 3)) (hcat : (S.map fun v => v.category).sum ≤ 8) (hroom1 : ∀ X' : zX, X' = X → match X' with | (_, _, R, _, _, _, _, _, _, _, _, _) => cs.1 + mc ≤ R.cells ∧ cs.2 + ms ≤ R.slots)
    (hws : ws = ws0 ++ [(a, .inr (ci, zdf ci))]) (hcl1 : zcl (zlv o n)) (hb1 : o + n ≤ 88) (hcl2 : zcl lv) (hb2 : ∀ k, lv k = true → k < 88) (hdj : ∀ k, lv k = true → zlv o n k = false) (hn : 0 < n)
    (kk : ∀ ad1 : Nat → Nat, ad1 o = a → zH l Z X ws0 (zor (zlv o n) lv) (zmg (zlv o n) ad1 ad) (cs.1 + mc, cs.2 + ms) (pc + 3) L S Q) : zH l Z X ws lv ad cs pc L (.ref a :: S) Q := by
  subst hws
  obtain ⟨p, e, R, s, m, args, below, meth, c, A, nL', Qf⟩ := X
  obtain ⟨hx0, hb, ⟨rfl, hml⟩, hown, hSS, hst, hlk, hret, hroom, hA, hAd, hQ⟩ := id hC
  obtain ⟨w1, w2, w4, w5, w6, w7⟩ := hL0
  intro H locs ls hW hS hL
  have hcb : ∀ w ∈ zTs, w.before args s = true := fun w hw => hSS.1 w hw _
  have hr := hroom1 _ rfl
  exact zh_back hA hcl1 hb1 hcl2 hb2 hdj hn (va_runIN (As := []) (nL := nL') (Ts := zTs) (own := own) (index := idx) (n := 0) (host := host) ⟨hx0, hb, hml, hown, hcb⟩ (hT a H.size) ⟨⟨⟨rfl, rfl, (zroom (b := (mc, ms)) hroom w7).1, (zroom (b := (mc, ms)) hroom w7).2, zcode (hcb _ w5), List.mem_singleton.mpr rfl⟩, hcb _ w5, hcb _ w4, ⟨w6.2.1, w6.2.2.1⟩, zlen w6.2.2.2, hcb _ w1⟩, w6.1, hcb _ w2⟩ ⟨zIP_blind, zh_pre hSS hAO hA hQ hW hS⟩ rfl rfl hL.1 rfl (lv_room hcat) hd hr) hW hS hL kk
/-- from the making to the running: the object stands, the rest of the constructor is a method's -/
theorem zh_run (hC : zC l Z zno adC X own cc nL none d) {mc ms h0 o n : Nat} (hX : zIX X h0 mc ms) (hcs : cs.1 ≤ mc ∧ cs.2 ≤ ms) (hn : 0 < n) {M1 M2 : zMem} {o' : zRES}
    (hst : ∀ (sz : Nat) (H : Heap), zHW Z ws lv ad (zIF h0 sz) H → h0 < sz → ∃ ad1 : Nat → Nat, ad1 o = h0 ∧ (∀ k, o < k → k < o + n → sz ≤ ad1 k) ∧ zW Z (zlv o n) ad1 M1 H) (ho : o' = some (.inl 0, M2)) (hfin : ∀ (ad1 : Nat → Nat) (H : Heap), zW Z (zlv o n) ad1 M2 H → zW Z (zlv o n) ad1 zM0 H)
    (hL9 : ∀ ls, lv_has ls nL L → lv_has ls nL [(0, .ref h0)])
    (kk : ∀ (ad1 : Nat → Nat) (X' : zX), zC l Z (zlv o n) ad1 X' own cc nL none d → zEnd Z (zlv o n) ad1 X' true → zNoX X' → zG l Z (zlv o n) ad1 X' cs pc [(0, .ref (ad1 o))] [] M1 o') (hnx : zNoX X) : zH l Z X ws lv ad cs pc L [] (zIE Z X o n h0 mc ms) := by
  obtain ⟨p, e, R, s, m, args, below, meth, c, A, nL', Qf⟩ := X
  obtain ⟨hx0, hb, ⟨rfl, hml⟩, hown, hSS, hst0, hlk, hret, hroom0, hA, hAd, hQ⟩ := id hC
  obtain ⟨g1, g2, g3, g4, rfl, g6⟩ := hX
  intro H locs ls hW hS hL
  obtain ⟨ad1, had, hnew, hw⟩ := hst _ H hW g6
  have hAB : ∀ q, zA (zlv o n) ad1 s.heap.size q ↔ zIF h0 s.heap.size q := by
    intro q
    constructor
    · rintro (⟨k, hk, rfl⟩ | h)
      · simp only [zlv, Bool.and_eq_true, decide_eq_true_eq] at hk
        by_cases h : k = o
        · subst h; exact Or.inl had
        · exact Or.inr (hnew k (by omega) hk.2)
      · exact Or.inr h
    · rintro (rfl | h)
      · refine Or.inl ⟨o, ?_, had.symm⟩
        simp only [zlv, Bool.and_eq_true, decide_eq_true_eq]
        omega
      · exact Or.inr h
  have K := kk ad1 (p, e, R, s, m, args, below, meth, c, zA (zlv o n) ad1 s.heap.size, nL', fun r => vx_MQ below (zQc Z (zlv o n) ad1 s.heap.size true r) (zXc Z (zlv o n) ad1 s.heap.size r) args s R.cells R.slots (zA (zlv o n) ad1 s.heap.size))
    ⟨hx0, hb, ⟨rfl, hml⟩, hown, hSS, hst0, hlk, hret, hroom0, fun q h => Or.inr h, fun k h => Or.inl ⟨k, h, rfl⟩, hQ.go (Vm.Alike.refl s.vm) (fun _ _ _ => rfl) (fun q h => (hAB q).mp h)⟩ ⟨rfl, rfl⟩ hnx (.inl 0, M2) ho ⟨fun x h => (by cases h), by rw [g3]; exact hcs.1, by rw [g4]; exact hcs.2⟩ H locs ls hw
    ⟨hS.1, fun q h1 h2 => hS.2.1 q h1 (fun h => h2 ((hAB q).mpr h)), fun q hq => (hAB _).mpr (hS.2.2 q hq)⟩ (by rw [had]; exact hL9 ls hL)
  intro T hT X0
  obtain ⟨t, a1, oc, b1, b2, b3⟩ := K T hT X0
  refine ⟨t, a1, oc, b1, b2, ?_⟩
  rw [g3, g4] at b3
  rcases b3 with ⟨⟨⟨v, w, hv, hoc, hwv⟩, hw2, hF⟩, L9, hfe, hL9⟩ | ⟨q, -, E, ce, L9, ⟨⟨x, hx, -⟩, -⟩, -⟩
  · have hw0 : w = none := by
      cases w with
      | none => rfl
      | some y => cases hwv
    subst hw0
    exact ⟨⟨⟨hoc, ad1, had, hnew, hfin ad1 _ hw2⟩, hF.1, fun q h1 h2 => hF.2 q h1 (fun h => h2 ((hAB q).mp h))⟩, L9, hfe, fun q hq => (hAB _).mp (hL9 q hq)⟩
  · cases hx
theorem zfresh {h0 sz : Nat} {H : Heap} {e0 : va_E} (hW : zHW Z ws lv ad (zIF h0 sz) H) (hz : ws[0]? = some (h0, e0)) {i : Nat} {q : Nat × va_E} (hi : 0 < i) (hq : ws[i]? = some q) : sz ≤ q.1 := by
  rcases hW.2.1.2 i q hq with h | h
  · have := hW.2.1.1 i 0 q _ hq hz h
    omega
  · exact h
theorem zIR_of {h0 sz o n : Nat} {H : Heap} {e0 : va_E} {M : zMem} (hW : zHW Z ws lv ad (zIF h0 sz) H) (hlen : ws.length = n) (hz : ws[0]? = some (h0, e0))
    (hc : ∀ i, i < n → va_at Z.1 vwCl ((ws.map (fun q => q.1)).getD i 0, zE Z (fun k => (ws.map (fun q => q.1)).getD (k - o) 0) (o + i) (M.1 (o + i)) (M.2 (o + i))) H) : ∃ ad1 : Nat → Nat, ad1 o = h0 ∧ (∀ k, o < k → k < o + n → sz ≤ ad1 k) ∧ zW Z (zlv o n) ad1 M H := by
  have get : ∀ i, i < n → ∃ q, ws[i]? = some q ∧ (ws.map (fun q => q.1)).getD i 0 = q.1 := by
    intro i hi
    have hl : i < ws.length := by omega
    refine ⟨ws[i], by simp [hl], ?_⟩
    simp [List.getD, hl]
  have hn : 0 < n := by
    have := (List.getElem?_eq_some_iff.mp hz).1
    omega
  have hlv : ∀ k, zlv o n k = true → ∃ i, i < n ∧ k = o + i := by
    intro k hk
    simp only [zlv, Bool.and_eq_true, decide_eq_true_eq] at hk
    exact ⟨k - o, by omega, by omega⟩
  refine ⟨fun k => (ws.map (fun q => q.1)).getD (k - o) 0, ?_, fun k h1 h2 => ?_, fun k hk => ?_, fun i j hi hj hij => ?_⟩
  · obtain ⟨q, h1, h2⟩ := get 0 hn
    show (ws.map (fun q => q.1)).getD (o - o) 0 = h0
    rw [Nat.sub_self, h2]
    rw [hz] at h1
    cases h1
    rfl
  · obtain ⟨q, h3, h4⟩ := get (k - o) (by omega)
    show sz ≤ (ws.map (fun q => q.1)).getD (k - o) 0
    rw [h4]
    exact zfresh hW hz (by omega) h3
  · obtain ⟨i, hi, rfl⟩ := hlv k hk
    have h := hc i hi
    have e : o + i - o = i := by omega
    show va_at Z.1 vwCl ((ws.map (fun q => q.1)).getD (o + i - o) 0, _) H
    rw [e]
    exact h
  · obtain ⟨a, ha, rfl⟩ := hlv i hi
    obtain ⟨b, hb, rfl⟩ := hlv j hj
    obtain ⟨q1, h1, h2⟩ := get a ha
    obtain ⟨q2, h3, h4⟩ := get b hb
    have e1 : o + a - o = a := by omega
    have e2 : o + b - o = b := by omega
    dsimp only at hij
    rw [e1, e2, h2, h4] at hij
    have := hW.2.1.1 a b q1 q2 h1 h3 hij
    omega
theorem zref {q c : Nat} {H : Heap} {f g : Nat → Option Nat} (h : va_at Z.1 vwCl (q, .inl (c, 5, .inr (.inr (.inr (.inr f))))) H) (he : ∀ i, i < 5 → f i = g i) (h2 : ∀ i, 5 ≤ i → f i = g i) : va_at Z.1 vwCl (q, .inl (c, 5, .inr (.inr (.inr (.inr g))))) H := by
  have e : f = g := funext fun i => by
    by_cases hi : i < 5
    · exact he i hi
    · exact h2 i (by omega)
  rw [← e]
  exact h
def zMz : zMem := (fun _ _ => 0, fun _ _ => 0)
end ZJ
