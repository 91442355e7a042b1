-- ===== end of PART A; then your names; then what follows =====
/-! THE CLAIM OUT OF ONE WALK OF THE LAW'S BODY. Your part is whole_start (and what it stands on); all else here is the same for every law, but numbers. -/
def R_law : String := "QuorumBakeryLaw"
def lw_P (b : Addr) (xs : List Int32) (args : Array Value) (s : State) : Prop := args = #[.ref b] ∧ s.IntsAt b xs ∧ xs.length ≤ 260 ∧ (Jvm.Cond.and given_1 narrow_1).before args s = true
def lw_Q (_ : Array Value) (s : State) (o : Outcome) (t : State) : Prop := o = .returned (some (.int 1)) ∧ Framed s o t [] 600104 7301314
def lw_Z (below : List Frame) (a : Array Value) (s : State) : State → Prop := fun t => ∃ o, t.status = .running ∧ Ended t below o ∧ lw_Q a s o t
/-- the law's own end, with 1 on the stack, nothing written that was there before, its room as the claim has it -/
theorem lw_ret {p : Program} {l : Launch} {e : Env} {s : State} {m : MethodId} {below : List Frame} {meth : Method} {c : Code} {b : Nat} (hx : p.tables.exec = Jvm.exec) (hb : c.code = code) (hr : meth.sig.returnType = ret) (hlocks : meth.locks = false) {pc : Nat} {H : Heap} {ls : Array Slot} (hdg : decode code pc = .ok (.ireturn, 1)) : W p l e room_1 s m #[Value.ref b] below meth c H [] 600104 7301314 (lw_Z below #[Value.ref b] s) (F0 m pc ls [.int 1]) := by
  intro T hT X
  obtain ⟨fs, hret, hrun, hended, hW, hframe⟩ := X.leave (v := some (.int 1)) (hlocks := hlocks) (fun h => by rw [hr] at h; cases h)
  have hmeth' : T.vm.method? m = some meth := X.method'
  refine ⟨T.setFrames fs, ?_, .returned (some (.int 1)), hrun, hended, rfl, ⟨_, rfl⟩, hW, hframe⟩
  jvm_step X.here [X.here.top, hx, hb, hdg, hmeth', hr, ret, narrow_b1]
  (try refine ⟨rfl, ?_⟩); (try refine ⟨rfl, ?_⟩)
  first | (intro acts; rw [hret _ acts rfl rfl rfl]) | rw [hret _ _ rfl rfl rfl]
  exact Steps.refl _
/-- what holds at the law's entry: the machine, the code, the tables' words (any of lw_tbl by 'hts w (by decide +kernel)'), the script of L ints xs at the cell b, what the Statement gives of the start (any of its parts by flat_of_before) -/
def lw_At (p : Program) (s : State) (m : MethodId) (meth : Method) (c : Code) (b L : Nat) (xs : Nat → Int32) : Prop :=
  p.tables.exec = Jvm.exec ∧ c.code = code ∧ meth.sig.returnType = ret ∧ c.maxLocals = 14 ∧ s.vm.findClass R_law = some m.cls ∧ (∀ w ∈ lw_tbl, w.before #[Value.ref b] s = true) ∧ va_X b L xs s s.heap ∧ b < s.heap.size ∧ meth.locks = false ∧ (Jvm.Cond.and given_1 narrow_1).before #[Value.ref b] s = true
/-! the law's own rows -/
def zScr (X : zX) (b L : Nat) (xs : Nat → Int32) : Prop := match X with
  | (_, _, _, s, _, _, _, _, _, A, _, _) => va_X b L xs s s.heap ∧ b < s.heap.size ∧ ¬ A b
def zLaw (X : zX) (b : Nat) : Prop := match X with
  | (_, _, R, s, _, args, below, _, _, A, _, Qf) => args = #[Value.ref b] ∧ R = room_1 ∧ (A = fun q : Nat => s.heap.size ≤ q) ∧ Qf = fun _ => lw_Z below #[Value.ref b] s
/-- room for n calls more -/
def zB (n : Nat) (cs : Nat × Nat) : Prop := cs.1 + n + 1 ≤ 600104 ∧ cs.2 + 6 * n + 6 ≤ 7301314
theorem zB_le {n : Nat} {cs : Nat × Nat} (h : zB (n + 1) cs) : zB n cs := by
  obtain ⟨h1, h2⟩ := h
  exact ⟨by omega, by omega⟩
theorem zB_step {n : Nat} {cs : Nat × Nat} (h : zB (n + 1) cs) : zB n (cs.1 + 1, cs.2 + 6) := by
  obtain ⟨h1, h2⟩ := h
  exact ⟨by show cs.1 + 1 + n + 1 ≤ _; omega, by show cs.2 + 6 + 6 * n + 6 ≤ _; omega⟩
theorem zB_w {m n : Nat} {cs : Nat × Nat} (h : zB m cs) (hn : n ≤ m) : zB n cs := by
  obtain ⟨h1, h2⟩ := h
  exact ⟨by omega, by omega⟩
/-- in the law no call throws -/
def zbl (o : zRES) (k : Int32 → zMem → zRES) : zRES := match o with
  | some (.inl v, M) => k v M
  | _ => none
theorem zbl_some {o : zRES} {k : Int32 → zMem → zRES} {r : zR1} (h : zbl o k = some r) : ∃ v M, o = some (.inl v, M) ∧ k v M = some r := by
  cases o with
  | none => cases h
  | some r' =>
    obtain ⟨r1, M⟩ := r'
    cases r1 with
    | inl v => exact ⟨v, M, rfl, h⟩
    | inr e => cases h
def zLX (own : String) (idx : Nat) (y : MethodName) (bytes : ByteArray) (maxL : Nat) (ret : Option FieldType) (hh : List (Nat × Nat × Nat × Nat)) (n : Nat) : Prop := Cond.methodLink own idx y ∈ zTs ∧ Cond.static y ∈ zTs ∧ Cond.initialized y.cls ∈ zTs ∧ Cond.codeWith y bytes maxL ret hh ∈ zTs ∧ (y.cls ≠ "java/lang/invoke/MethodHandle" ∧ y.cls ≠ "java/lang/invoke/VarHandle" ∧ (parseMethodDescriptor y.desc).map (fun d => d.parameters.length) = some n) ∧ maxL ≤ 15
section ZG7
variable {l : Launch} {Z : zZ} {lv : Nat → Bool} {ad : Nat → Nat} {X : zX} {cs : Nat × Nat} {own : String} {cc : ByteArray} {nL : Nat} {ret : Option FieldType} {d : Nat} {pc : Nat} {L L' : List (Nat × Value)} {S : List Value} {M : zMem} {o o1 o2 : zRES} {b Ls : Nat} {xs : Nat → Int32}
theorem zg_sld (hC : zC l Z lv ad X own cc nL ret d) (hX : zScr X b Ls xs) {i : Int32} (hd : decode cc pc = .ok (.iaload, 1))
    (kk : zin i Ls = true → zG l Z lv ad X cs (pc + 1) L (.int (xs i.toNatClampNeg) :: S) M o) : zG l Z lv ad X cs pc L (.int i :: .ref b :: S) M (if zin i Ls = true then o else none) := by
  obtain ⟨p, e, R, s, m, args, below, meth, c, A, nL', Qf⟩ := X
  obtain ⟨hx0, hb, -, hown, hSS, -⟩ := hC
  obtain ⟨h1, h2, h3⟩ := hX
  intro r hr hx H locs ls hW hS hL
  obtain ⟨hi, hr⟩ := zif hr
  exact va_sld hx0 hb h1 h2 h3 hS (zin_in hi) hd (kk hi r hr hx H locs ls hW hS hL)
theorem zg_slen (hC : zC l Z lv ad X own cc nL ret d) (hX : zScr X b Ls xs) (hd : decode cc pc = .ok (.arraylength, 1))
    (kk : zG l Z lv ad X cs (pc + 1) L (.int (nI Ls) :: S) M o) : zG l Z lv ad X cs pc L (.ref b :: S) M o := by
  obtain ⟨p, e, R, s, m, args, below, meth, c, A, nL', Qf⟩ := X
  obtain ⟨hx0, hb, -, hown, hSS, -⟩ := hC
  obtain ⟨h1, h2, h3⟩ := hX
  intro r hr hx H locs ls hW hS hL
  exact va_slen hx0 hb h1 h2 h3 hS hd (kk r hr hx H locs ls hW hS hL)
theorem zg_lawret (hC : zC l Z lv ad X own cL_law nL ret d) (hW0 : zLaw X b) (hret : ret = Jvm.Pilot.CQuorumBakeryLaw_law_r2318_ac60e3.ret) {n : Nat} (hB : zB n cs) (hd : decode cL_law pc = .ok (.ireturn, 1)) : zG l Z lv ad X cs pc L [.int 1] M (some (.inl 1, M)) := by
  obtain ⟨p, e, R, s, m, args, below, meth, c, A, nL', Qf⟩ := X
  obtain ⟨hx0, hb, -, hown, hSS, -, hlk, hr0, -⟩ := hC
  obtain ⟨rfl, rfl, rfl, rfl⟩ := hW0
  intro r hr hx H locs ls hW hS hL
  refine va_forget (fun q hq => hS.2.2 q hq) ?_
  refine W.widen (k := 600104) (n := 7301314) (by have := hB.1; omega) (by have := hB.2; omega) ?_
  exact lw_ret hx0 hb (hr0.trans hret) hlk hd
theorem zg_callWL (hC : zC l Z lv ad X own cc nL ret (d + 1)) (hW0 : zLaw X b) {nb : Nat} (hB : zB (nb + 1) cs) {idx n maxL : Nat} {y : MethodName} {bytes : ByteArray} {rt : Option FieldType} {hh : List (Nat × Nat × Nat × Nat)} {As : List Value} {o' : zRES} {kf : Int32 → zMem → zRES}
    {St : List Value} (hst : St = As.reverse ++ S) (hT : zT l Z lv ad (.codeWith y bytes maxL rt hh) y d false zbw As M o') (hL0 : zLX own idx y bytes maxL rt hh n) (hn : As.length = n) (hd : decode cc pc = .ok (.invokestatic idx, 3)) (hcat : (S.map fun v => v.category).sum ≤ 8)
    (kk : ∀ (v : Int32) (M' : zMem), o' = some (.inl v, M') → zG l Z lv ad X (cs.1 + 1, cs.2 + 6) (pc + 3) L (.int v :: S) M' (kf v M')) : zG l Z lv ad X cs pc L St M (zbl o' kf) := by
  subst hst
  obtain ⟨p, e, R, s, m, args, below, meth, c, A, nL', Qf⟩ := X
  obtain ⟨hx0, hb, ⟨rfl, hml⟩, hown, hSS, hst, hlk, hret, hroom, hA, hAd, hQ⟩ := id hC
  obtain ⟨h1, rfl, h3, h4⟩ := id hW0
  intro r hr hx H locs ls hW hS hL
  obtain ⟨v, M', ho, hr⟩ := zbl_some hr
  obtain ⟨hAB, hpre⟩ := zpre hSS hA hAd hQ hW hS As
  obtain ⟨w1, w2, w4, w5, w6, w7⟩ := hL0
  have hcb : ∀ w ∈ zTs, w.before args s = true := fun w hw => hSS.1 w hw _
  have hbl : cs.1 + 1 ≤ room_1.cells ∧ cs.2 + 6 ≤ room_1.slots := ⟨by have := hB.1; show _ ≤ 600104; omega, by have := hB.2; show _ ≤ 7301314; omega⟩
  refine zrun (vx_runSX (nL := nL') (Ts := zTs) (own := own) (index := idx) (n := n) ⟨hx0, hb, hml, hown, hcb⟩ (hT H.size _ ho) ⟨⟨rfl, rfl, (zroom hroom w7).1, (zroom hroom w7).2, ?_, List.mem_singleton.mpr rfl⟩, hcb _ w5, hcb _ w4, ⟨w6.1, w6.2.1⟩, zlen w6.2.2, hcb _ w1, hcb _ w2⟩
    ⟨zPc_blind, hpre⟩ rfl hn hL.1 rfl (lv_room hcat) hd hbl) hS hAB (fun x hx1 ce q H1 locs1 hw1 hS1 hce hcv hcl => ?_) (fun u hu H1 locs1 hw1 hS1 => ?_)
  · intro w hw a' U hWm
    rw [List.mem_singleton.mp hw]
    exact word_at hWm (Or.inl rfl) (hcb _ w5)
  · cases hx1
  · cases hu
    have h8 := zB_step hB
    refine kk v M' ho r hr ⟨fun x h => ?_, by have := h8.1; show _ ≤ 600104; dsimp only at this ⊢; omega, by have := h8.2; show _ ≤ 7301314; dsimp only at this ⊢; omega⟩ H1 locs1 ls hw1 hS1 hL
    exact ⟨by have := h8.1; show _ ≤ 600104; dsimp only at this ⊢; omega, by have := h8.2; show _ ≤ 7301314; dsimp only at this ⊢; omega⟩
theorem zg_callVL (hC : zC l Z lv ad X own cc nL ret (d + 1)) (hW0 : zLaw X b) {nb : Nat} (hB : zB nb cs) {idx n k ci maxL : Nat} {y : MethodName} {bytes : ByteArray} {rt : Option FieldType} {As : List Value} {o' : zRES} {kf : Int32 → zMem → zRES} {C : String} {T : u_T} {N : Nat}
    {St : List Value} (hst : St = As.reverse ++ .ref (ad k) :: S) (hT : zT l Z lv ad (.code y bytes maxL rt) y d false zbn (.ref (ad k) :: As) M o') (hL0 : zLV own idx y bytes maxL rt n) (hn : As.length = n) (hd : decode cc pc = .ok (.invokevirtual idx, 3)) (hl : lv k = true) (hz : zK k = (0, ci)) (hc : vwCl[ci]? = some (C, T, N)) (hcl : y.cls = C) (hcat : (S.map fun v => v.category).sum ≤ 8)
    (kk : ∀ (v : Int32) (M' : zMem), o' = some (.inl v, M') → zG l Z lv ad X cs (pc + 3) L (.int v :: S) M' (kf v M')) : zG l Z lv ad X cs pc L St M (zbl o' kf) := by
  subst hst
  obtain ⟨p, e, R, s, m, args, below, meth, c, A, nL', Qf⟩ := X
  obtain ⟨hx0, hb, ⟨rfl, hml⟩, hown, hSS, hst, hlk, hret, hroom, hA, hAd, hQ⟩ := id hC
  obtain ⟨h1, rfl, h3, h4⟩ := id hW0
  intro r hr hx H locs ls hW hS hL
  obtain ⟨v, M', ho, hr⟩ := zbl_some hr
  obtain ⟨hAB, hpre⟩ := zpre hSS hA hAd hQ hW hS (.ref (ad k) :: As)
  obtain ⟨w1, w2, w3, w4, w5, w6, w7⟩ := hL0
  have hcb : ∀ w ∈ zTs, w.before args s = true := fun w hw => hSS.1 w hw _
  have h1 := hW.1 k hl
  rw [zE_0 hz] at h1
  have hbl : cs.1 + 0 ≤ room_1.cells ∧ cs.2 + 0 ≤ room_1.slots := ⟨by have := hB.1; show _ ≤ 600104; omega, by have := hB.2; show _ ≤ 7301314; omega⟩
  refine zrun (vx_runV (nL := nL') (Ts := zTs) (own := own) (C := C) (index := idx) (n := n) ⟨hx0, hb, hml, hown, hcb⟩ (hT H.size _ ho) ⟨⟨rfl, rfl, (zroom hroom w7).1, (zroom hroom w7).2, zcode (hcb _ w5), List.mem_singleton.mpr rfl, hcb _ w5, hcb _ w4, ⟨w6.1, w6.2.1⟩, zlen w6.2.2, hcb _ w1⟩, hcb _ w2, by rw [← hcl]; exact hcb _ w3⟩
    ⟨zPc_blind, va_recv hSS.2.1 (zone h1) (q0 := 0) hc rfl, hpre⟩ rfl hn hL.1 rfl (lv_room hcat) hd hbl) hS hAB (fun x hx1 ce q H1 locs1 hw1 hS1 hce hcv hcl => ?_) (fun u hu H1 locs1 hw1 hS1 => ?_)
  · cases hx1
  · cases hu
    exact kk v M' ho r hr hx H1 locs1 ls hw1 hS1 hL
theorem zg_callSL (hC : zC l Z lv ad X own cc nL ret (d + 1)) (hW0 : zLaw X b) {nb : Nat} (hB : zB nb cs) {idx n maxL : Nat} {y : MethodName} {bytes : ByteArray} {rt : Option FieldType} {As : List Value} {o' : zRES} {kf : Int32 → zMem → zRES}
    {St : List Value} (hst : St = As.reverse ++ S) (hT : zT l Z lv ad (.code y bytes maxL rt) y d false zbn As M o') (hL0 : zLS own idx y bytes maxL rt n) (hn : As.length = n) (hd : decode cc pc = .ok (.invokestatic idx, 3)) (hcat : (S.map fun v => v.category).sum ≤ 8)
    (kk : ∀ (v : Int32) (M' : zMem), o' = some (.inl v, M') → zG l Z lv ad X cs (pc + 3) L (.int v :: S) M' (kf v M')) : zG l Z lv ad X cs pc L St M (zbl o' kf) := by
  subst hst
  obtain ⟨p, e, R, s, m, args, below, meth, c, A, nL', Qf⟩ := X
  obtain ⟨hx0, hb, ⟨rfl, hml⟩, hown, hSS, hst, hlk, hret, hroom, hA, hAd, hQ⟩ := id hC
  obtain ⟨h1, rfl, h3, h4⟩ := id hW0
  intro r hr hx H locs ls hW hS hL
  obtain ⟨v, M', ho, hr⟩ := zbl_some hr
  obtain ⟨hAB, hpre⟩ := zpre hSS hA hAd hQ hW hS As
  obtain ⟨w1, w2, w4, w5, w6, w7⟩ := hL0
  have hcb : ∀ w ∈ zTs, w.before args s = true := fun w hw => hSS.1 w hw _
  have hbl : cs.1 + 0 ≤ room_1.cells ∧ cs.2 + 0 ≤ room_1.slots := ⟨by have := hB.1; show _ ≤ 600104; omega, by have := hB.2; show _ ≤ 7301314; omega⟩
  refine zrun (vx_runS (nL := nL') (Ts := zTs) (own := own) (index := idx) (n := n) ⟨hx0, hb, hml, hown, hcb⟩ (hT H.size _ ho) ⟨⟨rfl, rfl, (zroom hroom w7).1, (zroom hroom w7).2, zcode (hcb _ w5), List.mem_singleton.mpr rfl, hcb _ w5, hcb _ w4, ⟨w6.1, w6.2.1⟩, zlen w6.2.2, hcb _ w1⟩, hcb _ w2⟩
    ⟨zPc_blind, hpre⟩ rfl hn hL.1 rfl (lv_room hcat) hd hbl) hS hAB (fun x hx1 ce q H1 locs1 hw1 hS1 hce hcv hcl => ?_) (fun u hu H1 locs1 hw1 hS1 => ?_)
  · cases hx1
  · cases hu
    exact kk v M' ho r hr hx H1 locs1 ls hw1 hS1 hL
/-! a method that reads the script -/
def zPs (Z : zZ) (lv : Nat → Bool) (ad : Nat → Nat) (sz : Nat) (av : List Value) (M : zMem) (b Ls : Nat) (xs : Nat → Int32) : Array Value → State → Prop := fun a U => zPc Z lv ad sz av M a U ∧ va_X b Ls xs U U.heap ∧ b < sz ∧ ¬ zA lv ad sz b
def zTsc (l : Launch) (Z : zZ) (lv : Nat → Bool) (ad : Nat → Nat) (w : Cond) (y : MethodName) (d : Nat) (av : List Value) (M : zMem) (b Ls : Nat) (xs : Nat → Int32) (o : zRES) : Prop := ∀ (sz : Nat) (r : zR1), o = some r →
  vx_Met l y [w] (zRm d (zbn r).1 (zbn r).2) (zPs Z lv ad sz av M b Ls xs) (zQc Z lv ad sz false r) (zXc Z lv ad sz r) (zbn r).1 (zbn r).2 (zA lv ad sz)
theorem zPs_blind {sz : Nat} {av : List Value} : FrameBlind (zPs Z lv ad sz av M b Ls xs) := fun a U g mk h => ⟨zPc_blind a U g mk h.1, va_X.moved (Vm.Alike.refl U.vm) h.2.1, h.2.2⟩
theorem zTsc_of {y : MethodName} {av : List Value} (hl : l.stackTraces = false) (hy : plainName y.cls = true) (hn : (lg_sl av).length ≤ nL)
    (body : ∀ X : zX, zC l Z lv ad X y.cls cc nL ret d → zEnd Z lv ad X false → zNoX X → zScr X b Ls xs → zG l Z lv ad X (0, 0) 0 (lv_args 0 av) [] M o) : zTsc l Z lv ad (.code y cc nL ret) y d av M b Ls xs o := by
  intro sz r hr
  refine vx_ofW (cc := cc) (maxL := nL) (ret := ret) (ws' := []) hy rfl ?_
  intro p e s m args below meth c s₁ B hml hnx hv
  obtain ⟨⟨rfl, hsz, hSS, hW, hQ⟩, hX, hbl, hbA⟩ := hv
  subst hsz
  have hb := body (p, e, zRm d (zbn r).1 (zbn r).2, s, m, av.toArray, below, meth, c, zA lv ad s.heap.size, nL, fun r => vx_MQ below (zQc Z lv ad s.heap.size false r) (zXc Z lv ad s.heap.size r) av.toArray s _ _ (zA lv ad s.heap.size))
    ⟨B.exec, B.bytes, ⟨rfl, hml⟩, findClass_of_methodNamed B.named, hSS, hl, B.notSynchronized, B.returns, ⟨Nat.le_refl d, Nat.le_refl (34 * d + 22)⟩, fun q h => Or.inr h, fun k h => Or.inl ⟨k, h, rfl⟩, hQ⟩ ⟨rfl, rfl⟩ hnx ⟨hX, hbl, hbA⟩ r hr
    ⟨fun x h => by
      show 0 + 1 ≤ (zbn r).1 ∧ 0 + 6 ≤ (zbn r).2
      simp [zbn, h], Nat.zero_le _, Nat.zero_le _⟩ s.heap []
  have hle := lv_entry av (n := nL) hn
  rw [lg_entry_eq]
  exact hb _ hW va_S.rf hle
theorem zg_callCL (hC : zC l Z lv ad X own cc nL ret (d + 1)) (hX : zScr X b Ls xs) (hW0 : zLaw X b) {nb : Nat} (hB : zB nb cs) {idx n maxL : Nat} {y : MethodName} {bytes : ByteArray} {rt : Option FieldType} {As : List Value} {o' : zRES} {kf : Int32 → zMem → zRES}
    {St : List Value} (hst : St = As.reverse ++ S) (hT : zTsc l Z lv ad (.code y bytes maxL rt) y d As M b Ls xs o') (hL0 : zLS own idx y bytes maxL rt n) (hn : As.length = n) (hd : decode cc pc = .ok (.invokestatic idx, 3)) (hcat : (S.map fun v => v.category).sum ≤ 8)
    (kk : ∀ (v : Int32) (M' : zMem), o' = some (.inl v, M') → zG l Z lv ad X cs (pc + 3) L (.int v :: S) M' (kf v M')) : zG l Z lv ad X cs pc L St M (zbl o' kf) := by
  subst hst
  obtain ⟨p, e, R, s, m, args, below, meth, c, A, nL', Qf⟩ := X
  obtain ⟨hx0, hb, ⟨rfl, hml⟩, hown, hSS, hst, hlk, hret, hroom, hA, hAd, hQ⟩ := id hC
  obtain ⟨h1, rfl, h3, h4⟩ := id hW0
  obtain ⟨x1, x2, x3⟩ := hX
  intro r hr hx H locs ls hW hS hL
  obtain ⟨v, M', ho, hr⟩ := zbl_some hr
  obtain ⟨hAB, hpre⟩ := zpre hSS hA hAd hQ hW hS As
  have hpre2 : ∀ U : State, U.heap = H → s.WarmedH U.vm → zPs Z lv ad H.size As M b Ls xs As.toArray U := fun U hU hWm => ⟨hpre U hU hWm, (va_X.moved hWm.alike x1).kept (by rw [hU]; exact hS.2.1 b x2 x3), Nat.lt_of_lt_of_le x2 hS.1, fun q => x3 (hAB b q)⟩
  obtain ⟨w1, w2, w4, w5, w6, w7⟩ := hL0
  have hcb : ∀ w ∈ zTs, w.before args s = true := fun w hw => hSS.1 w hw _
  have hbl : cs.1 + 0 ≤ room_1.cells ∧ cs.2 + 0 ≤ room_1.slots := ⟨by have := hB.1; show _ ≤ 600104; omega, by have := hB.2; show _ ≤ 7301314; omega⟩
  refine zrun (vx_runS (nL := nL') (Ts := zTs) (own := own) (index := idx) (n := n) ⟨hx0, hb, hml, hown, hcb⟩ (hT H.size _ ho) ⟨⟨rfl, rfl, (zroom hroom w7).1, (zroom hroom w7).2, zcode (hcb _ w5), List.mem_singleton.mpr rfl, hcb _ w5, hcb _ w4, ⟨w6.1, w6.2.1⟩, zlen w6.2.2, hcb _ w1⟩, hcb _ w2⟩
    ⟨zPs_blind, hpre2⟩ rfl hn hL.1 rfl (lv_room hcat) hd hbl) hS hAB (fun x hx1 ce q H1 locs1 hw1 hS1 hce hcv hcl => ?_) (fun u hu H1 locs1 hw1 hS1 => ?_)
  · cases hx1
  · cases hu
    exact kk v M' ho r hr hx H1 locs1 ls hw1 hS1 hL
end ZG7
