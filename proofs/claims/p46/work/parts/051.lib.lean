section ZG5
variable {l : Launch} {Z : zZ} {lv : Nat → Bool} {ad : Nat → Nat} {X : zX} {cs : Nat × Nat} {own : String} {cc : ByteArray} {nL : Nat} {ret : Option FieldType} {d : Nat} {pc : Nat} {L L' : List (Nat × Value)} {S : List Value} {M : zMem} {o o1 o2 : zRES}
/-- a contract of a run that doesn't throw, as the kit's Met -/
theorem zmet {y : MethodName} {w : Cond} {sz : Nat} {v : Int32} {M' : zMem} {vd : Bool} {rm : Room} {Pc : Array Value → State → Prop} {mc ms : Nat} {free : Addr → Prop} (h : vx_Met l y [w] rm Pc (zQc Z lv ad sz vd (.inl v, M')) (zXc Z lv ad sz (.inl v, M')) mc ms free) : Met l y [w] rm Pc (zQc Z lv ad sz vd (.inl v, M')) mc ms free := by
  refine MetFree.mono h (fun _ _ h => h) (fun _ _ _ _ _ h => h) (fun a st oc t _ hq => ?_)
  rcases hq with hq | ⟨q, -, E, ce, L, ⟨⟨e, h1, -⟩, -⟩, -⟩
  · exact hq
  · cases h1
theorem zxrun {p : Program} {e : Env} {R : Room} {s : State} {m : MethodId} {args : Array Value} {below : List Frame} {meth : Method} {c : Code} {H : Heap} {locs : List Loc} {cells slots mc ms : Nat} {g : JFrame} {rest : List Value} {Qa : State → Outcome → State → Prop} {XC : String → State → State → Prop} {free : Addr → Prop} (h : va_Run p l e R s m args below meth c H locs cells slots mc ms g rest Qa free) : vx_Run p l e R s m args below meth c H locs cells slots mc ms g rest Qa XC free := fun T hT X => Or.inl (h T hT X)
theorem zg_callN (hC : zC l Z lv ad X own cc nL ret (d + 1)) {vd' : Bool} (hE : zEnd Z lv ad X vd') (hN : zNoX X) {idx n maxL : Nat} {host : String} {y : MethodName} {bytes : ByteArray} {rt : Option FieldType} {vd : Bool} {As : List Value} {o' : zRES} {kf : Int32 → zMem → zRES} (hnx : ∀ r, o' = some r → ∃ v, r.1 = .inl v)
    {St : List Value} (hst : St = As.reverse ++ S) (hT : zT l Z lv ad (.code y bytes maxL rt) y d vd zbn As M o') (hL0 : zLN own host idx y bytes maxL rt n) (hn : As.length = n) (hd : decode cc pc = .ok (.invokestatic idx, 3)) (hcat : (S.map fun v => v.category).sum ≤ 8)
    (kk : ∀ (v : Int32) (M' : zMem), o' = some (.inl v, M') → zG l Z lv ad X cs (pc + 3) L (zrv vd v ++ S) M' (kf v M')) : zG l Z lv ad X cs pc L St M (zb o' kf) := by
  subst hst
  obtain ⟨p, e, R, s, m, args, below, meth, c, A, nL', Qf⟩ := X
  obtain ⟨hx0, hb, ⟨rfl, hml⟩, hown, hSS, hst, hlk, hret, hroom, hA, hAd, hQ⟩ := id hC
  intro r hr hx H locs ls hW hS hL
  obtain ⟨r', ho⟩ := zsome hr
  obtain ⟨hAB, hpre⟩ := zpre hSS hA hAd hQ hW hS As
  obtain ⟨w1, w2, w4, w5, w6, w7⟩ := hL0
  have hcb : ∀ w ∈ zTs, w.before args s = true := fun w hw => hSS.1 w hw _
  obtain ⟨v, hv⟩ := hnx r' ho
  obtain ⟨r1, M'⟩ := r'
  dsimp only at hv
  subst hv
  exact zback hE hN hlk ho hr hx (zxrun (va_runSN (nL := nL') (Ts := zTs) (own := own) (index := idx) (n := n) (host := host) ⟨hx0, hb, hml, hown, hcb⟩ (zmet (hT H.size _ ho)) ⟨⟨⟨rfl, rfl, (zroom hroom w7).1, (zroom hroom w7).2, zcode (hcb _ w5), List.mem_singleton.mpr rfl⟩, hcb _ w5, hcb _ w4, ⟨w6.1, w6.2.1⟩, zlen w6.2.2, hcb _ w1⟩, hcb _ w2, trivial⟩
    ⟨zPc_blind, hpre⟩ rfl hn hL.1 rfl (lv_room hcat) hd (zbn_le ho hr hx))) hS hAB hL kk
/-- a throw: new X; dup; ldc text; X.<init>; athrow -/
def znm : List String := ["java/lang/RuntimeException", "java/lang/Exception"]
def zTX (own : String) (ic x : Nat) : Prop := (∀ w ∈ vx_atS own ic (zex x) znm, w ∈ zTs) ∧ (∀ w ∈ vx_atS own ic (zex x) znm, vx_ot w = true) ∧ Bundle.fit (zex x) = true ∧ Cond.initialized (zex x) ∈ zTs
theorem zg_throw (hC : zC l Z lv ad X own cc nL ret d) {vd' : Bool} (hE : zEnd Z lv ad X vd') (hN : zNoX X) (h6 : 6 ≤ d) {x ik is ic : Nat} {text : String} (hX : zTX own ic x) (hk : Cond.classLink own ik (zex x) ∈ zTs) (hs : Cond.stringRef own is text ∈ zTs)
    (d0 : decode cc pc = .ok (.new ik, 3)) (d3 : decode cc (pc + 3) = .ok (.dup, 1)) (d4 : decode cc (pc + 4) = .ok (.ldc is, 2)) (d6 : decode cc (pc + 6) = .ok (.invokespecial ic, 3)) (d9 : decode cc (pc + 9) = .ok (.athrow, 1)) (hcat : (S.map fun v => v.category).sum ≤ 8) : zG l Z lv ad X (0, 0) pc L S M (some (.inr x, M)) := by
  obtain ⟨p, e, R, s, m, args, below, meth, c, A, nL', Qf⟩ := X
  obtain ⟨hx0, hb, ⟨rfl, hml⟩, hown, hSS, hst, hlk, hret, hroom, hA, hAd, hQ⟩ := id hC
  intro r hr hx H locs ls hW hS hL
  cases hr
  obtain ⟨rfl, rfl⟩ := hE
  obtain ⟨h1, h2⟩ := hx.1 x rfl
  have hcb : ∀ w ∈ zTs, w.before args s = true := fun w hw => hSS.1 w hw _
  obtain ⟨sa, hsa⟩ := zstr (hcb _ hs)
  obtain ⟨x1, x2, x3, x4⟩ := hX
  refine vx_throwS (names := znm) (ik := ik) (is := is) (ic := ic) (cls := zex x) hx0 hb hst hown x3 (by decide +kernel) (hcb _ hk) (hcb _ x4) hsa (fun w hw => hcb w (x1 w hw)) (fun w hw => ?_) hQ.1 hQ.2 hS (hL.1.trans hml.symm) d0 d3 d4 d6 d9 (fun z hz => (hN z hz).elim) ?_ ?_ h1 h2 hlk (fun t hal hz hk => ?_) hS.2.2 h1 h2
  · rcases List.mem_cons.mp hw with rfl | hw
    · rfl
    · rcases List.mem_cons.mp hw with rfl | hw
      · rfl
      · exact x2 w hw
  · show 2 + 3 < R.frames
    have := hroom.1
    omega
  · show _ + (13 * (2 + 1) + 43) ≤ R.locals
    have := hroom.2
    omega
  · refine ⟨⟨x, rfl, rfl⟩, hW.kept (fun k hk1 => hk _ (hW.lt hk1)), Nat.le_trans hS.1 hz, fun q h1 h2 => ?_⟩
    rw [hk q (Nat.lt_of_lt_of_le h1 hS.1)]
    exact hS.2.1 q h1 h2
theorem zg_throwW (hC : zC l Z lv ad X own cc nL ret d) {vd' : Bool} (hE : zEnd Z lv ad X vd') (hN : zNoX X) (h6 : 6 ≤ d) {x ik is ic : Nat} {text : String} (hX : zTX own ic x) (hk : Cond.classLink own ik (zex x) ∈ zTs) (hs : Cond.stringRef own is text ∈ zTs)
    (d0 : decode cc pc = .ok (.new ik, 3)) (d3 : decode cc (pc + 3) = .ok (.dup, 1)) (d4 : decode cc (pc + 4) = .ok (.ldc_w is, 3)) (d6 : decode cc (pc + 7) = .ok (.invokespecial ic, 3)) (d9 : decode cc (pc + 10) = .ok (.athrow, 1)) (hcat : (S.map fun v => v.category).sum ≤ 8) : zG l Z lv ad X (0, 0) pc L S M (some (.inr x, M)) := by
  obtain ⟨p, e, R, s, m, args, below, meth, c, A, nL', Qf⟩ := X
  obtain ⟨hx0, hb, ⟨rfl, hml⟩, hown, hSS, hst, hlk, hret, hroom, hA, hAd, hQ⟩ := id hC
  intro r hr hx H locs ls hW hS hL
  cases hr
  obtain ⟨rfl, rfl⟩ := hE
  obtain ⟨h1, h2⟩ := hx.1 x rfl
  have hcb : ∀ w ∈ zTs, w.before args s = true := fun w hw => hSS.1 w hw _
  obtain ⟨sa, hsa⟩ := zstr (hcb _ hs)
  obtain ⟨x1, x2, x3, x4⟩ := hX
  refine vx_throwSW (names := znm) (ik := ik) (is := is) (ic := ic) (cls := zex x) hx0 hb hst hown x3 (by decide +kernel) (hcb _ hk) (hcb _ x4) hsa (fun w hw => hcb w (x1 w hw)) (fun w hw => ?_) hQ.1 hQ.2 hS (hL.1.trans hml.symm) d0 d3 d4 d6 d9 (fun z hz => (hN z hz).elim) ?_ ?_ h1 h2 hlk (fun t hal hz hk => ?_) hS.2.2 h1 h2
  · rcases List.mem_cons.mp hw with rfl | hw
    · rfl
    · rcases List.mem_cons.mp hw with rfl | hw
      · rfl
      · exact x2 w hw
  · show 2 + 3 < R.frames
    have := hroom.1
    omega
  · show _ + (13 * (2 + 1) + 43) ≤ R.locals
    have := hroom.2
    omega
  · refine ⟨⟨x, rfl, rfl⟩, hW.kept (fun k hk1 => hk _ (hW.lt hk1)), Nat.le_trans hS.1 hz, fun q h1 h2 => ?_⟩
    rw [hk q (Nat.lt_of_lt_of_le h1 hS.1)]
    exact hS.2.1 q h1 h2
/-! handlers -/
def znx (x : Nat) : Nat := if x = 1 then 1 else if x = 2 then 2 else 3
theorem zex_nx (x : Nat) : zex (znx x) = zex x := by
  unfold znx
  by_cases h1 : x = 1
  · subst h1; rfl
  · by_cases h2 : x = 2
    · subst h2; rfl
    · rw [if_neg h1, if_neg h2]
      match x, h1, h2 with
      | 0, _, _ => rfl
      | 1, h, _ => exact absurd rfl h
      | 2, _, h => exact absurd rfl h
      | n + 3, _, _ => rfl
theorem znx_in (x : Nat) : znx x = 1 ∨ znx x = 2 ∨ znx x = 3 := by
  unfold znx
  by_cases h1 : x = 1
  · exact Or.inl (if_pos h1)
  · by_cases h2 : x = 2
    · rw [if_neg h1, if_pos h2]; exact Or.inr (Or.inl rfl)
    · rw [if_neg h1, if_neg h2]; exact Or.inr (Or.inr rfl)
theorem znc {x y : Nat} {s : State} (hSS : zS Z s) (hx : x = 1 ∨ x = 2 ∨ x = 3) (hy : y = 3) (h : x ≠ y) : va_Nc (zex x) (zex y) s := by
  subst hy
  refine hSS.2.2 (zex x, zex 3) ?_
  rcases hx with rfl | rfl | rfl <;> first | exact absurd rfl h | decide
def zhd : List (Nat × Nat × Nat) → Nat → Option Nat
  | [], _ => none
  | (y, h, _) :: r, x => if znx x = y then some h else zhd r x
def zent (st en : Nat) (q : Nat × Nat × Nat) : ExceptionTableEntry := ⟨st, en, q.2.1, q.2.2⟩
theorem zcatch {p : Program} {e : Env} {R : Room} {s : State} {m : MethodId} {args : Array Value} {below : List Frame} {meth : Method} {c : Code} {H : Heap} {locs : List Loc} {cells slots : Nat} {Q : State → Prop} {ls : Array Slot} {rest : List Value} {st en x : Nat} {ce : Cell} {q : Addr} {hp : Nat}
    (hown : s.vm.findClass own = some m.cls) (hSS : zS Z s) (hcv : st ≤ pc ∧ pc < en) (hcell : H[q]? = some ce) (hv : ce.vm = .none) (hcl : s.vm.findClass (zex x) = some ce.cls) (hself : Cond.castable (zex x) (zex x) ∈ zTs)
    (kk : W p l e R s m args below meth c H locs cells slots Q (F0 m hp ls [.ref q])) :
    ∀ (es : List (Nat × Nat × Nat)) (pre : List ExceptionTableEntry), c.exceptionTable.toList = pre ++ es.map (zent st en) → (∀ z ∈ pre, covers z pc = false ∨ (z.catchType ≠ 0 ∧ ∃ nm : String, (Cond.classLink own z.catchType nm).before args s = true ∧ va_Nc (zex x) nm s)) →
      (∀ z ∈ es, z.1 = 3 ∧ z.2.2 ≠ 0 ∧ Cond.classLink own z.2.2 (zex z.1) ∈ zTs) → zhd es x = some hp → vx_W p l e R s m args below meth c H locs cells slots Q (F0 m pc ls rest) q := by
  have hcb : ∀ w ∈ zTs, w.before args s = true := fun w hw => hSS.1 w hw _
  intro es
  induction es with
  | nil => intro pre _ _ _ h; cases h
  | cons z r ih =>
    obtain ⟨y, h, ct⟩ := z
    intro pre htab hpass hes hf
    obtain ⟨g1, g2, g3⟩ := hes (y, h, ct) List.mem_cons_self
    dsimp only at g1 g2 g3
    have hcov : covers (zent st en (y, h, ct)) pc = true := by simp [covers, zent, hcv.1, hcv.2]
    by_cases hxy : znx x = y
    · have hh : h = hp := by
        have : zhd ((y, h, ct) :: r) x = some h := if_pos hxy
        rw [this] at hf
        exact Option.some.inj hf
      subst hh
      refine vx_catch (name := zex y) hown pre (zent st en (y, h, ct)) (r.map (zent st en)) (by rw [htab]; rfl) hpass hcov g2 (hcb _ g3) ?_ hcell hv hcl kk
      rw [← hxy, zex_nx]
      exact hcb _ hself
    · refine ih (pre ++ [zent st en (y, h, ct)]) (by rw [htab]; simp) (fun z hz => ?_) (fun z hz => hes z (List.mem_cons_of_mem _ hz)) (by rw [← hf]; exact (if_neg hxy).symm)
      rcases List.mem_append.mp hz with hz | hz
      · exact hpass z hz
      · rw [List.mem_singleton.mp hz]
        refine Or.inr ⟨g2, zex y, hcb _ g3, ?_⟩
        rw [← zex_nx x]
        exact znc hSS (znx_in x) g1 hxy
def zbx (o : zRES) (k : Int32 → zMem → zRES) (h : Nat → zMem → zRES) : zRES := match o with
  | none => none
  | some (.inl v, M) => k v M
  | some (.inr e, M) => h e M
def zTab (X : zX) (st en : Nat) (es : List (Nat × Nat × Nat)) : Prop := match X with
  | (_, _, R, _, _, _, _, _, c, _, _, _) => c.exceptionTable.toList = es.map (zent st en) ∧ R.cells = 1 ∧ R.slots = 6
theorem zTh_of {y : MethodName} {vd : Bool} {av : List Value} {st en : Nat} {es : List (Nat × Nat × Nat)} (hl : l.stackTraces = false) (hy : plainName y.cls = true) (hn : (lg_sl av).length ≤ nL)
    (body : ∀ X : zX, zC l Z lv ad X y.cls cc nL ret d → zEnd Z lv ad X vd → zTab X st en es → zG l Z lv ad X (0, 0) 0 (lv_args 0 av) [] M o) : zT l Z lv ad (.codeWith y cc nL ret (es.map fun q => (st, en, q.2.1, q.2.2))) y d vd zbw av M o := by
  intro sz r hr
  refine vx_ofWH (cc := cc) (maxL := nL) (ret := ret) (ws' := []) hy rfl ?_
  intro p e s m args below meth c s₁ B hml hv
  obtain ⟨rfl, hsz, hSS, hW, hQ⟩ := hv
  subst hsz
  have hts := atoms_spec B.pre
  have htab := vx_table (x := y) B (hts _ (List.mem_singleton.mpr rfl))
  have hb := body (p, e, zRm d (zbw r).1 (zbw r).2, s, m, av.toArray, below, meth, c, zA lv ad s.heap.size, nL, fun r => vx_MQ below (zQc Z lv ad s.heap.size vd r) (zXc Z lv ad s.heap.size r) av.toArray s _ _ (zA lv ad s.heap.size))
    ⟨B.exec, B.bytes, ⟨rfl, hml⟩, findClass_of_methodNamed B.named, hSS, hl, B.notSynchronized, B.returns, ⟨Nat.le_refl d, Nat.le_refl (34 * d + 22)⟩, fun q h => Or.inr h, fun k h => Or.inl ⟨k, h, rfl⟩, hQ⟩ ⟨rfl, rfl⟩ ⟨by rw [htab]; simp [tableOf, zent], rfl, rfl⟩ r hr
    ⟨fun x h => ⟨Nat.le_refl 1, Nat.le_refl 6⟩, Nat.zero_le _, Nat.zero_le _⟩ s.heap []
  have hle := lv_entry av (n := nL) hn
  rw [lg_entry_eq]
  exact hb _ hW va_S.rf hle
theorem zg_callX (hC : zC l Z lv ad X own cc nL ret (d + 1)) {vd' : Bool} (hE : zEnd Z lv ad X vd') {st en : Nat} {es : List (Nat × Nat × Nat)} (hN : zTab X st en es) {idx n k ci maxL : Nat} {y : MethodName} {bytes : ByteArray} {rt : Option FieldType} {vd : Bool} {As : List Value} {o' : zRES} {kf : Int32 → zMem → zRES} {kh : Nat → zMem → zRES} {C : String} {T : u_T} {N : Nat}
    {St : List Value} (hst : St = As.reverse ++ .ref (ad k) :: S) (hT : zT l Z lv ad (.code y bytes maxL rt) y d vd zbn (.ref (ad k) :: As) M o') (hL0 : zLV own idx y bytes maxL rt n) (hn : As.length = n) (hd : decode cc pc = .ok (.invokevirtual idx, 3)) (hl : lv k = true) (hz : zK k = (0, ci)) (hc : vwCl[ci]? = some (C, T, N)) (hcl : y.cls = C) (hcat : (S.map fun v => v.category).sum ≤ 8)
    (hcv : st ≤ pc ∧ pc < en) (hes : ∀ z ∈ es, z.1 = 3 ∧ z.2.2 ≠ 0 ∧ Cond.classLink own z.2.2 (zex z.1) ∈ zTs) (hself : ∀ x, Cond.castable (zex x) (zex x) ∈ zTs)
    (kk : ∀ (v : Int32) (M' : zMem), o' = some (.inl v, M') → zG l Z lv ad X (0, 0) (pc + 3) L (zrv vd v ++ S) M' (kf v M'))
    (kx : ∀ (x : Nat) (M' : zMem), (zhd es x = none → kh x M' = none) ∧ (∀ r, kh x M' = some r → ∃ v, r.1 = .inl v) ∧ ∀ h, zhd es x = some h → ∀ q, zG l Z lv ad X (1, 6) h L [.ref q] M' (kh x M')) : zG l Z lv ad X (0, 0) pc L St M (zbx o' kf kh) := by
  subst hst
  obtain ⟨p, e, R, s, m, args, below, meth, c, A, nL', Qf⟩ := X
  obtain ⟨hx0, hb, ⟨rfl, hml⟩, hown, hSS, hst, hlk, hret, hroom, hA, hAd, hQ⟩ := id hC
  obtain ⟨htab, hr1, hr2⟩ := hN
  intro r hr hx H locs ls hW hS hL
  obtain ⟨r', ho⟩ : ∃ r', o' = some r' := by
    cases o' with
    | none => cases hr
    | some r' => exact ⟨r', rfl⟩
  obtain ⟨hAB, hpre⟩ := zpre hSS hA hAd hQ hW hS (.ref (ad k) :: As)
  obtain ⟨w1, w2, w3, w4, w5, w6, w7⟩ := hL0
  have hcb : ∀ w ∈ zTs, w.before args s = true := fun w hw => hSS.1 w hw _
  have h1 := hW.1 k hl
  rw [zE_0 hz] at h1
  obtain ⟨r1, M'⟩ := r'
  have hbl : 0 + (zbn (r1, M')).1 ≤ R.cells ∧ 0 + (zbn (r1, M')).2 ≤ R.slots := by
    rw [hr1, hr2]
    cases r1 <;> exact ⟨by simp [zbn], by simp [zbn]⟩
  refine zrun (vx_runV (nL := nL') (Ts := zTs) (own := own) (C := C) (index := idx) (n := n) ⟨hx0, hb, hml, hown, hcb⟩ (hT H.size _ ho) ⟨⟨rfl, rfl, (zroom hroom w7).1, (zroom hroom w7).2, zcode (hcb _ w5), List.mem_singleton.mpr rfl, hcb _ w5, hcb _ w4, ⟨w6.1, w6.2.1⟩, zlen w6.2.2, hcb _ w1⟩, hcb _ w2, by rw [← hcl]; exact hcb _ w3⟩
    ⟨zPc_blind, va_recv hSS.2.1 (zone h1) (q0 := 0) hc rfl, hpre⟩ rfl hn hL.1 rfl (lv_room hcat) hd hbl) hS hAB (fun x hx1 ce q H1 locs1 hw1 hS1 hce hcv1 hcl1 => ?_) (fun v hv H1 locs1 hw1 hS1 => ?_)
  · dsimp only at hx1
    subst hx1
    subst ho
    have hr9 : kh x M' = some r := hr
    cases hz9 : zhd es x with
    | none => rw [(kx x M').1 hz9] at hr9; cases hr9
    | some h =>
      refine zcatch hown hSS hcv hce hcv1 hcl1 (hself x) ?_ es [] htab (fun z hz => absurd hz List.not_mem_nil) hes hz9
      have hk := (kx x M').2.2 h hz9 q r hr9
      refine hk ⟨fun y hy => ?_, by rw [hr1]; exact Nat.le_refl 1, by rw [hr2]; exact Nat.le_refl 6⟩ H1 locs1 ls hw1 hS1 hL
      obtain ⟨v, hv⟩ := (kx x M').2.1 r hr9
      rw [hv] at hy
      cases hy
  · dsimp only at hv
    subst hv
    subst ho
    exact kk v M' rfl r hr hx H1 locs1 ls hw1 hS1 hL
theorem zg_retw (hC : zC l Z lv ad X own cc nL (some .int) d) (hE : zEnd Z lv ad X false) {st en : Nat} {es : List (Nat × Nat × Nat)} (hN : zTab X st en es) {v : Int32} (hd : decode cc pc = .ok (.ireturn, 1)) : zG l Z lv ad X (1, 6) pc L [.int v] M (some (.inl v, M)) := by
  obtain ⟨p, e, R, s, m, args, below, meth, c, A, nL', Qf⟩ := X
  obtain ⟨hx0, hb, -, hown, hSS, -, hlk, hret, -⟩ := hC
  obtain ⟨rfl, rfl⟩ := hE
  obtain ⟨-, hr1, hr2⟩ := hN
  intro r hr hx H locs ls hW hS hL
  cases hr
  refine W.widen (k := R.cells) (n := R.slots) (by rw [hr1]; exact Nat.le_refl 1) (by rw [hr2]; exact Nat.le_refl 6) (vx_ret ?_)
  exact W.zret hx0 hb hret rfl (fun t ht hWm => ⟨⟨v, some (.int v), rfl, rfl, rfl⟩, by rw [ht]; exact hW, hS.F ht⟩) hS.2.2 hd hlk
theorem zg_retwz (hC : zC l Z lv ad X own cc nL (some .boolean) d) (hE : zEnd Z lv ad X false) {st en : Nat} {es : List (Nat × Nat × Nat)} (hN : zTab X st en es) {v : Int32} (hv : v = 0 ∨ v = 1) (hd : decode cc pc = .ok (.ireturn, 1)) : zG l Z lv ad X (1, 6) pc L [.int v] M (some (.inl v, M)) := by
  obtain ⟨p, e, R, s, m, args, below, meth, c, A, nL', Qf⟩ := X
  obtain ⟨hx0, hb, -, hown, hSS, -, hlk, hret, -⟩ := hC
  obtain ⟨rfl, rfl⟩ := hE
  obtain ⟨-, hr1, hr2⟩ := hN
  intro r hr hx H locs ls hW hS hL
  cases hr
  refine W.widen (k := R.cells) (n := R.slots) (by rw [hr1]; exact Nat.le_refl 1) (by rw [hr2]; exact Nat.le_refl 6) (vx_ret ?_)
  exact W.zret hx0 hb hret (by rcases hv with rfl | rfl <;> rfl) (fun t ht hWm => ⟨⟨v, some (.int v), rfl, rfl, rfl⟩, by rw [ht]; exact hW, hS.F ht⟩) hS.2.2 hd hlk
theorem zg_iremV (hC : zC l Z lv ad X own cc nL ret d) {x y : Int32} (hd : decode cc pc = .ok (.irem, 1)) (k : ¬ y = 0 → zG l Z lv ad X cs (pc + 1) L (.int (x - x / y * y) :: S) M o) : zG l Z lv ad X cs pc L (.int y :: .int x :: S) M (if y = 0 then none else o) := by
  by_cases h : y = 0
  · rw [if_pos h]; exact zg_none
  · rw [if_neg h]; exact zg_irem hC hd h (k h)
theorem zg_callNi (hC : zC l Z lv ad X own cc nL ret (d + 1)) {vd' : Bool} (hE : zEnd Z lv ad X vd') (hN : zNoX X) {idx n maxL : Nat} {host : String} {y : MethodName} {bytes : ByteArray} {rt : Option FieldType} {As : List Value} {o' : zRES} {kf : Int32 → zMem → zRES} (hnx : ∀ r, o' = some r → ∃ v, r.1 = .inl v)
    {St : List Value} (hst : St = As.reverse ++ S) (hT : zT l Z lv ad (.code y bytes maxL rt) y d false zbn As M o') (hL0 : zLN own host idx y bytes maxL rt n) (hn : As.length = n) (hd : decode cc pc = .ok (.invokestatic idx, 3)) (hcat : (S.map fun v => v.category).sum ≤ 8)
    (kk : ∀ (v : Int32) (M' : zMem), o' = some (.inl v, M') → zG l Z lv ad X cs (pc + 3) L (.int v :: S) M' (kf v M')) : zG l Z lv ad X cs pc L St M (zb o' kf) := zg_callN hC hE hN hnx hst hT hL0 hn hd hcat kk
theorem zg_callXi (hC : zC l Z lv ad X own cc nL ret (d + 1)) {vd' : Bool} (hE : zEnd Z lv ad X vd') {st en : Nat} {es : List (Nat × Nat × Nat)} (hN : zTab X st en es) {idx n k ci maxL : Nat} {y : MethodName} {bytes : ByteArray} {rt : Option FieldType} {As : List Value} {o' : zRES} {kf : Int32 → zMem → zRES} {kh : Nat → zMem → zRES} {C : String} {T : u_T} {N : Nat}
    {St : List Value} (hst : St = As.reverse ++ .ref (ad k) :: S) (hT : zT l Z lv ad (.code y bytes maxL rt) y d false zbn (.ref (ad k) :: As) M o') (hL0 : zLV own idx y bytes maxL rt n) (hn : As.length = n) (hd : decode cc pc = .ok (.invokevirtual idx, 3)) (hl : lv k = true) (hz : zK k = (0, ci)) (hc : vwCl[ci]? = some (C, T, N)) (hcl : y.cls = C) (hcat : (S.map fun v => v.category).sum ≤ 8)
    (hcv : st ≤ pc ∧ pc < en) (hes : ∀ z ∈ es, z.1 = 3 ∧ z.2.2 ≠ 0 ∧ Cond.classLink own z.2.2 (zex z.1) ∈ zTs) (hself : ∀ x, Cond.castable (zex x) (zex x) ∈ zTs)
    (kk : ∀ (v : Int32) (M' : zMem), o' = some (.inl v, M') → zG l Z lv ad X (0, 0) (pc + 3) L (.int v :: S) M' (kf v M'))
    (kx : ∀ (x : Nat) (M' : zMem), (zhd es x = none → kh x M' = none) ∧ (∀ r, kh x M' = some r → ∃ v, r.1 = .inl v) ∧ ∀ h, zhd es x = some h → ∀ q, zG l Z lv ad X (1, 6) h L [.ref q] M' (kh x M')) : zG l Z lv ad X (0, 0) pc L St M (zbx o' kf kh) := zg_callX hC hE hN hst hT hL0 hn hd hl hz hc hcl hcat hcv hes hself kk kx
theorem zg_callNv (hC : zC l Z lv ad X own cc nL ret (d + 1)) {vd' : Bool} (hE : zEnd Z lv ad X vd') (hN : zNoX X) {idx n maxL : Nat} {host : String} {y : MethodName} {bytes : ByteArray} {rt : Option FieldType} {As : List Value} {o' : zRES} {kf : Int32 → zMem → zRES} (hnx : ∀ r, o' = some r → ∃ v, r.1 = .inl v)
    {St : List Value} (hst : St = As.reverse ++ S) (hT : zT l Z lv ad (.code y bytes maxL rt) y d true zbn As M o') (hL0 : zLN own host idx y bytes maxL rt n) (hn : As.length = n) (hd : decode cc pc = .ok (.invokestatic idx, 3)) (hcat : (S.map fun v => v.category).sum ≤ 8)
    (kk : ∀ (v : Int32) (M' : zMem), o' = some (.inl v, M') → zG l Z lv ad X cs (pc + 3) L (S) M' (kf v M')) : zG l Z lv ad X cs pc L St M (zb o' kf) := zg_callN hC hE hN hnx hst hT hL0 hn hd hcat kk
theorem zg_callXv (hC : zC l Z lv ad X own cc nL ret (d + 1)) {vd' : Bool} (hE : zEnd Z lv ad X vd') {st en : Nat} {es : List (Nat × Nat × Nat)} (hN : zTab X st en es) {idx n k ci maxL : Nat} {y : MethodName} {bytes : ByteArray} {rt : Option FieldType} {As : List Value} {o' : zRES} {kf : Int32 → zMem → zRES} {kh : Nat → zMem → zRES} {C : String} {T : u_T} {N : Nat}
    {St : List Value} (hst : St = As.reverse ++ .ref (ad k) :: S) (hT : zT l Z lv ad (.code y bytes maxL rt) y d true zbn (.ref (ad k) :: As) M o') (hL0 : zLV own idx y bytes maxL rt n) (hn : As.length = n) (hd : decode cc pc = .ok (.invokevirtual idx, 3)) (hl : lv k = true) (hz : zK k = (0, ci)) (hc : vwCl[ci]? = some (C, T, N)) (hcl : y.cls = C) (hcat : (S.map fun v => v.category).sum ≤ 8)
    (hcv : st ≤ pc ∧ pc < en) (hes : ∀ z ∈ es, z.1 = 3 ∧ z.2.2 ≠ 0 ∧ Cond.classLink own z.2.2 (zex z.1) ∈ zTs) (hself : ∀ x, Cond.castable (zex x) (zex x) ∈ zTs)
    (kk : ∀ (v : Int32) (M' : zMem), o' = some (.inl v, M') → zG l Z lv ad X (0, 0) (pc + 3) L (S) M' (kf v M'))
    (kx : ∀ (x : Nat) (M' : zMem), (zhd es x = none → kh x M' = none) ∧ (∀ r, kh x M' = some r → ∃ v, r.1 = .inl v) ∧ ∀ h, zhd es x = some h → ∀ q, zG l Z lv ad X (1, 6) h L [.ref q] M' (kh x M')) : zG l Z lv ad X (0, 0) pc L St M (zbx o' kf kh) := zg_callX hC hE hN hst hT hL0 hn hd hl hz hc hcl hcat hcv hes hself kk kx
end ZG5
