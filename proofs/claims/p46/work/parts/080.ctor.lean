/-! constructors: a list of cells being made (ws), and finished objects (lv, ad) at the start's numbers zM0 -/
def zM0 : zMem := (fun k => match k with
  | 4 => fun j => if j < 5 then -1 else 0
  | 18 => fun j => if j < 5 then -1 else 0
  | 47 => fun j => if j < 51 then -1 else 0
  | 48 => fun j => if j < 51 then -1 else 0
  | 49 => fun j => if j < 51 then -1 else 0
  | 50 => fun j => if j < 51 then -1 else 0
  | 51 => fun j => if j < 51 then -1 else 0
  | _ => fun _ => 0, fun _ _ => 0)
def zdf (ci : Nat) : List Value := match ci with
  | 0 => [.int 0, .null, .null, .null, .null, .null, .null, .int 0, .null, .null, .long 0, .long 0]
  | 1 => [.int 0, .null, .null, .null, .null]
  | 2 => [.int 0, .int 0, .null, .null]
  | 3 => [.int 0, .null, .null, .null]
  | 4 => [.int 0, .null, .null]
  | 5 => [.int 0, .null, .null, .null]
  | 6 => [.null, .null, .null]
  | 7 => [.null, .null, .null, .null, .null, .null, .null, .null]
  | 8 => [.int 0, .null, .null, .null, .null, .null, .null, .int 0, .null, .null, .null, .null, .null, .null, .int 0, .null, .int 0, .null, .null, .null, .null, .int 0, .null, .null, .null, .null, .int 0, .null, .null, .null, .int 0]
  | _ => []
def zno : Nat → Bool := fun _ => false
def zlv (o n : Nat) : Nat → Bool := fun k => decide (o ≤ k) && decide (k < o + n)
def zor (a b : Nat → Bool) : Nat → Bool := fun k => a k || b k
def zmg (lv : Nat → Bool) (ad1 ad : Nat → Nat) : Nat → Nat := fun k => if lv k = true then ad1 k else ad k
theorem va_AOA.moved {u U : State} (hvm : u.vm.Alike U.vm) (h : va_AOA .int u) : va_AOA .int U := by
  have h1 : (Cond.arrayOver (.array .int)).before #[] (u.setVm U.vm) = true := by
    rw [Cond.arrayOver_setVmC hvm]
    exact h
  exact h1
/-- which cells a cell names -/
def zch (k : Nat) : List Nat := match zK k with
  | (0, 0) => [k + 1, k + 2, k + 3, k + 4, k + 5, k + 11, k + 12, k + 13]
  | (0, 1) => [k + 1, k + 2, k + 3, k + 4]
  | (0, 2) => [k + 1, k + 7]
  | (0, 3) => [k + 1, k + 2, k + 3]
  | (0, 4) => [k + 1, k + 7]
  | (0, 5) => [k + 1, k + 2, k + 3]
  | (0, 6) => [k + 1, k + 2, k + 3]
  | (0, 7) => [k + 1, k + 15, k + 29, k + 33, k + 37, k + 45, k + 53, k + 58]
  | (0, 8) => [k + 1, k + 2, k + 3, k + 4, k + 5, k + 6, k + 7, k + 8, k + 9, k + 10, k + 11, k + 12, k + 13, k + 14, k + 15, k + 16, k + 17, k + 18, k + 19, k + 20, k + 21, k + 22, k + 23, k + 24]
  | (3, 5) => [k + 1, k + 2, k + 3, k + 4, k + 5]
  | _ => []
def zcl (lv : Nat → Bool) : Prop := ∀ k, lv k = true → ∀ c ∈ zch k, lv c = true
def zHW (Z : zZ) (ws : va_W) (lv : Nat → Bool) (ad : Nat → Nat) (A : Nat → Prop) (H : Heap) : Prop :=
  va_P Z.1 vwCl ws H ∧ va_D A ws ∧ zW Z lv ad zM0 H ∧ ∀ k, lv k = true → A (ad k) ∧ ∀ (i : Nat) (q : Nat × va_E), ws[i]? = some q → q.1 ≠ ad k
def zH (l : Launch) (Z : zZ) (X : zX) (ws : va_W) (lv : Nat → Bool) (ad : Nat → Nat) (cs : Nat × Nat) (pc : Nat) (L : List (Nat × Value)) (S : List Value) (Q : State → Prop) : Prop := match X with
  | (p, e, R, s, m, args, below, meth, c, A, nL, _) => ∀ (H : Heap) (locs : List Loc) (ls : Array Slot), zHW Z ws lv ad A H → va_S A s.heap H locs → lv_has ls nL L → W p l e R s m args below meth c H locs cs.1 cs.2 Q (F0 m pc ls S)
theorem zHW.lt {Z : zZ} {ws : va_W} {lv : Nat → Bool} {ad : Nat → Nat} {A : Nat → Prop} {H : Heap} (h : zHW Z ws lv ad A H) {i : Nat} {q : Nat × va_E} (hi : ws[i]? = some q) : q.1 < H.size := (h.1 i q hi).lt
/-- a new cell at the heap's end -/
theorem zHW.push {Z : zZ} {ws : va_W} {lv : Nat → Bool} {ad : Nat → Nat} {A : Nat → Prop} {H H1 : Heap} (h : zHW Z ws lv ad A H) {e : va_E} (hA : A H.size) (ho : ∀ q, q < H.size → H1[q]? = H[q]?) (he : va_at Z.1 vwCl (H.size, e) H1) : zHW Z (ws ++ [(H.size, e)]) lv ad A H1 := by
  obtain ⟨hP, hD, hW, hk⟩ := h
  refine ⟨(hP.kept (fun k q hq => ho q.1 (hP k q hq).lt)).app (zone he), hD.push hP rfl hA, hW.kept (fun k hk1 => ho _ (hW.lt hk1)), fun k hk1 => ⟨(hk k hk1).1, fun i q hi => ?_⟩⟩
  by_cases hl : i < ws.length
  · rw [List.getElem?_append_left hl] at hi
    exact (hk k hk1).2 i q hi
  · rw [List.getElem?_append_right (by omega)] at hi
    have hz : i - ws.length < 1 := (List.getElem?_eq_some_iff.mp hi).1
    rw [show i - ws.length = 0 by omega] at hi
    cases hi
    exact Nat.ne_of_gt (hW.lt hk1)
/-- a cell written -/
theorem zHW.set {Z : zZ} {ws : va_W} {lv : Nat → Bool} {ad : Nat → Nat} {A : Nat → Prop} {H H1 : Heap} (h : zHW Z ws lv ad A H) {p a : Nat} {e0 e : va_E} (hp : ws[p]? = some (a, e0)) (he : va_at Z.1 vwCl (a, e) H1) (oq : ∀ q : Nat, q ≠ a → H1[q]? = H[q]?) : zHW Z (ws.set p (a, e)) lv ad A H1 := by
  obtain ⟨hP, hD, hW, hk⟩ := h
  have hl := (List.getElem?_eq_some_iff.mp hp).1
  refine ⟨hP.set hD hp he oq, hD.set hp, hW.kept (fun k hk1 => oq _ (fun q => (hk k hk1).2 p _ hp q.symm)), fun k hk1 => ⟨(hk k hk1).1, fun i q hi => ?_⟩⟩
  by_cases hkp : i = p
  · subst hkp
    rw [List.getElem?_set_self hl] at hi
    cases hi
    show a ≠ ad k
    exact (hk k hk1).2 i (a, e0) hp
  · rw [List.getElem?_set_ne (Ne.symm hkp)] at hi
    exact (hk k hk1).2 i q hi
section ZH
variable {l : Launch} {Z : zZ} {lv : Nat → Bool} {ad adC : Nat → Nat} {X : zX} {cs : Nat × Nat} {own : String} {cc : ByteArray} {nL : Nat} {ret : Option FieldType} {d : Nat} {pc : Nat} {L L' : List (Nat × Value)} {S : List Value} {ws ws' : va_W} {Q : State → Prop}
def zIn (X : zX) : Prop := match X with
  | (_, _, _, _, _, _, _, meth, _, _, _, _) => meth.name = "<init>"
theorem zh_aload_n (hC : zC l Z zno adC X own cc nL ret d) {j : Fin 4} {x : Nat} (n : Nat) (hd : decode cc pc = .ok (.aload_n j, 1)) (hl : L[n]? = some ((j : Nat), .ref x)) (k : zH l Z X ws lv ad cs (pc + 1) L (.ref x :: S) Q) : zH l Z X ws lv ad cs pc L S Q := by
  obtain ⟨p, e, R, s, m, args, below, meth, c, A, nL, Qf⟩ := X
  intro H locs ls hW hS hL
  exact lv_aload_n hC.1 hC.2.1 hd rfl (lv_at hL n hl) (k H locs ls hW hS hL)
theorem zh_astore_n (hC : zC l Z zno adC X own cc nL ret d) {j : Fin 4} {x : Nat} (hd : decode cc pc = .ok (.astore_n j, 1)) (hn : (j : Nat) < nL) (hl : ((j : Nat), Value.ref x) :: L.filter (fun q => !(q.1 == (j : Nat)) && !(q.1 + 1 == (j : Nat) && q.2.category == 2)) = L') (k : zH l Z X ws lv ad cs (pc + 1) L' S Q) : zH l Z X ws lv ad cs pc L (.ref x :: S) Q := by
  obtain ⟨p, e, R, s, m, args, below, meth, c, A, nL', Qf⟩ := X
  intro H locs ls hW hS hL
  obtain ⟨rfl, hm⟩ := hC.2.2.1
  exact lv_astore_n hC.1 hC.2.1 hd rfl hL hn hl (fun ls hL => k H locs ls hW hS hL)
theorem zh_iconst (hC : zC l Z zno adC X own cc nL ret d) {n : Int} {v : Int32} (hd : decode cc pc = .ok (.iconst n, 1)) (hv : Int32.ofInt n = v) (k : zH l Z X ws lv ad cs (pc + 1) L (.int v :: S) Q) : zH l Z X ws lv ad cs pc L S Q := by
  obtain ⟨p, e, R, s, m, args, below, meth, c, A, nL, Qf⟩ := X
  intro H locs ls hW hS hL
  exact lv_iconst hC.1 hC.2.1 hd hv (k H locs ls hW hS hL)
theorem zh_bipush (hC : zC l Z zno adC X own cc nL ret d) {n : Int} {v : Int32} (hd : decode cc pc = .ok (.bipush n, 2)) (hv : (Int8.ofInt n).toInt32 = v) (k : zH l Z X ws lv ad cs (pc + 2) L (.int v :: S) Q) : zH l Z X ws lv ad cs pc L S Q := by
  obtain ⟨p, e, R, s, m, args, below, meth, c, A, nL, Qf⟩ := X
  intro H locs ls hW hS hL
  exact lv_bipush hC.1 hC.2.1 hd hv (k H locs ls hW hS hL)
theorem zh_sipush (hC : zC l Z zno adC X own cc nL ret d) {n : Int} {v : Int32} (hd : decode cc pc = .ok (.sipush n, 3)) (hv : (Int16.ofInt n).toInt32 = v) (k : zH l Z X ws lv ad cs (pc + 3) L (.int v :: S) Q) : zH l Z X ws lv ad cs pc L S Q := by
  obtain ⟨p, e, R, s, m, args, below, meth, c, A, nL, Qf⟩ := X
  intro H locs ls hW hS hL
  exact lv_sipush hC.1 hC.2.1 hd hv (k H locs ls hW hS hL)
theorem zh_dup (hC : zC l Z zno adC X own cc nL ret d) {va : Value} (hd : decode cc pc = .ok (.dup, 1)) (hc : va.category = 1) (k : zH l Z X ws lv ad cs (pc + 1) L (va :: va :: S) Q) : zH l Z X ws lv ad cs pc L (va :: S) Q := by
  obtain ⟨p, e, R, s, m, args, below, meth, c, A, nL, Qf⟩ := X
  intro H locs ls hW hS hL
  exact lv_dup hC.1 hC.2.1 hd hc (k H locs ls hW hS hL)
theorem zh_obj (hC : zC l Z zno adC X own cc nL ret (d + 1)) {idx a : Nat} (hd : decode cc pc = .ok (.invokespecial idx, 3)) (hl : Cond.methodLink own idx Lib.objectInit ∈ zTs) (hi : Cond.instanceMethod Lib.objectInit ∈ zTs) (hc : Cond.code Lib.objectInit ⟨#[0xb1]⟩ 1 none ∈ zTs) (hcat : (S.map fun v => v.category).sum ≤ 8) (k : zH l Z X ws lv ad cs (pc + 3) L S Q) : zH l Z X ws lv ad cs pc L (.ref a :: S) Q := by
  obtain ⟨p, e, R, s, m, args, below, meth, c, A, nL', Qf⟩ := X
  obtain ⟨hx0, hb, ⟨rfl, hml⟩, hown, hSS, hst, hlk, hret, hroom, hA, hAd, hQ⟩ := id hC
  intro H locs ls hW hS hL
  have hcb : ∀ w ∈ zTs, w.before args s = true := fun w hw => hSS.1 w hw _
  refine W.objInit hx0 hb hown (hcb _ hl) (hcb _ hi) (hcb _ hc) rfl (by rw [hml]; exact hL.1) rfl hd (by omega) ?_ ?_
  · have := lv_room (m := m) (pc := pc) (ls := ls) (rest := (.ref a :: S)) hcat
    have h2 := hroom.2
    omega
  · exact k H locs ls hW hS hL
theorem zh_newI (hC : zC l Z zno adC X own cc nL ret d) {n : Int32} {N' : Nat} (hd : decode cc pc = .ok (.newarray .int, 2)) (harr : Cond.arrayClass .int ∈ zTs) (hn : ¬ n < 0) (hN : n.toNatClampNeg = N') (hbytes : N' * 4 ≤ 536870912) (hcl : ∀ X' : zX, X' = X → match X' with | (_, _, R, _, _, _, _, _, _, _, _, _) => cs.1 + 1 ≤ R.cells ∧ cs.2 + N' ≤ R.slots)
    (k : ∀ q, zH l Z X (ws ++ [(q, .inl (Z.2.1, N', .inl (fun _ => 0)))]) lv ad (cs.1 + 1, cs.2 + N') (pc + 2) L (.ref q :: S) Q) : zH l Z X ws lv ad cs pc L (.int n :: S) Q := by
  obtain ⟨p, e, R, s, m, args, below, meth, c, A, nL', Qf⟩ := X
  obtain ⟨hx0, hb, ⟨rfl, hml⟩, hown, hSS, hst, hlk, hret, hroom, hA, hAd, hQ⟩ := id hC
  intro H locs ls hW hS hL
  have hcb : ∀ w ∈ zTs, w.before args s = true := fun w hw => hSS.1 w hw _
  obtain ⟨h1, h2⟩ := hcl _ rfl
  refine va_newaK (atype := .int) hx0 hb (hcb _ harr) rfl hd rfl hn hN hbytes h1 h2 rfl fun H1 cA e1 z1 o1 hAr hNm => ?_
  have hc : cA = Z.2.1 := by
    have h3 : s.vm.findClass ("[" ++ FieldType.int.toString) = some Z.2.1 := (hSS.2.1.2 0 (Z.2.1, .int) rfl).2
    exact Option.some.inj (hNm.symm.trans h3)
  subst hc
  refine k H.size H1 locs ls (hW.push (hA _ hS.1) (fun q hq => o1 q hq) ?_) ⟨Nat.le_trans hS.1 (by omega), fun x h1 h2 => (o1 x (Nat.lt_of_lt_of_le h1 hS.1)).trans (hS.2.1 x h1 h2), hS.2.2⟩ hL
  exact e1
theorem zh_put (hC : zC l Z zno adC X own cc nL ret d) (hI : zIn X) {idx : Nat} {C : String} {T : u_T} {N ci j a p0 : Nat} {fs : List Value} {v : Value} {ty : FieldType} (hF : zFL own idx C T N ci j) (hd : decode cc pc = .ok (.putfield idx, 3)) (hty : ∃ ty0 : Nat → FieldType, ∀ k, k < N → parseFieldDescriptor (T k).2.2.1 = some (ty0 k)) (hnm : ∀ a, a < N → ∀ b, b < N → a ≠ b → (T a).2.1 ≠ (T b).2.1) (hfin : (T j).2.2.2 = true) (hdecl : (T j).1 = own) (hpd : parseFieldDescriptor (T j).2.2.1 = some ty) (hn : narrow ty v = v) (hfit : fits ty v = true) (hlen : fs.length = N)
    (hp : ws[p0]? = some (a, .inr (ci, fs))) (hws : ws.set p0 (a, .inr (ci, fs.set j v)) = ws') (kk : zH l Z X ws' lv ad cs (pc + 3) L S Q) : zH l Z X ws lv ad cs pc L (v :: .ref a :: S) Q := by
  obtain ⟨p, e, R, s, m, args, below, meth, c, A, nL', Qf⟩ := X
  obtain ⟨hx0, hb, ⟨rfl, hml⟩, hown, hSS, hst, hlk, hret, hroom, hA, hAd, hQ⟩ := id hC
  obtain ⟨hc, hin, hj, hw⟩ := hF
  obtain ⟨ty0, hty⟩ := hty
  subst hws
  intro H locs ls hW hS hL
  have hts : ∀ w ∈ zTs, w.before args s = true := fun w hw => hSS.1 w hw _
  have hK : va_K Z.1 vwCl (zty Z) s := hSS.2.1
  have hap := va_apart (own := own) hts hin ty0 hty hnm hK hc
  obtain ⟨r, h1, cell, q1, q2, q3, q4⟩ := hW.1 p0 _ hp
  have hr : r = (C, T, N) := Option.some.inj (h1.symm.trans hc)
  subst hr
  obtain ⟨hSl, hfc, kC, hkC, hkind⟩ := hK.1 ci _ hc
  obtain ⟨cf, kf, fi, f, hi, hsl⟩ := hSl j hj
  have hlay := hts _ (hin _ (u_in_lay hj))
  unfold u_lay at hlay
  rw [if_pos hfin] at hlay
  have hst2 := (u_facts hfc hkC (u_lays hts hin hj) hi).1
  have hcf : m.cls = cf := by
    obtain ⟨_, _, c', _, _, _, -, -, hf', -, -, -, hown2, -⟩ := Cond.laysFinal_spec hlay
    have e1 : c' = cf := by have := hi.symm.trans hf'; simp at this; exact this.1.symm
    rw [hdecl] at hown2
    rw [← e1]; exact Option.some.inj (hown.symm.trans hown2)
  have h6 := u_fits hfc hkC hkind (Or.inr hlay) hi hpd hn hfit
  refine W.putFinK hx0 hb hown (hts _ hw) hi hst2 hcf hI (by rw [q2]; exact h6) q1 q3 (by rw [hsl]; exact k2_hasslot (q4 j hj)) rfl rfl hd fun H' e1 e2 e3 => ?_
  rw [hsl] at e1 ⊢
  refine kk H' _ ls (hW.set hp ?_ e3) (hS.put e2 e3 (hW.2.1.2 p0 _ hp)) hL
  exact ⟨_, hc, t_OB.to (V := updV (vp_V fs) j v) ⟨_, e1, q2, q3, t_set q4 hap hj v⟩ (fun i _ => vp_updV_set (by rw [hlen]; exact hj) v i)⟩
theorem zh_new (hC : zC l Z zno adC X own cc nL ret d) {idx : Nat} {C : String} {T : u_T} {N ci : Nat} (hd : decode cc pc = .ok (.new idx, 3)) (hc : vwCl[ci]? = some (C, T, N)) (hin : ∀ w ∈ u_ws C T N, w ∈ zTs) (ty : Nat → FieldType) (hty : ∀ k, k < N → parseFieldDescriptor (T k).2.2.1 = some (ty k)) (w1 : Cond.classLink own idx C ∈ zTs) (w2 : Cond.instantiable C N ∈ zTs) (w3 : Cond.initialized C ∈ zTs) (hfs : ∀ j, j < N → defaultValue (ty j) = vp_V (zdf ci) j)
    (hcl : ∀ X' : zX, X' = X → match X' with | (_, _, R, _, _, _, _, _, _, _, _, _) => cs.1 + 1 ≤ R.cells ∧ cs.2 + N ≤ R.slots)
    (k : ∀ q, zH l Z X (ws ++ [(q, .inr (ci, zdf ci))]) lv ad (cs.1 + 1, cs.2 + N) (pc + 3) L (.ref q :: S) Q) : zH l Z X ws lv ad cs pc L S Q := by
  obtain ⟨p, e, R, s, m, args, below, meth, c, A, nL', Qf⟩ := X
  obtain ⟨hx0, hb, ⟨rfl, hml⟩, hown, hSS, hst, hlk, hret, hroom, hA, hAd, hQ⟩ := id hC
  intro H locs ls hW hS hL
  have hts : ∀ w ∈ zTs, w.before args s = true := fun w hw => hSS.1 w hw _
  have hK : va_K Z.1 vwCl (zty Z) s := hSS.2.1
  have hKn := hK.1 ci _ hc
  obtain ⟨h1, h2⟩ := hcl _ rfl
  refine W.newcK hx0 hb hown (hts _ w1) (hts _ w2) (hts _ w3) rfl hd h1 h2 hKn.2.1 rfl fun H1 kC hkC e1 z1 o1 => ?_
  refine k H.size H1 locs ls (hW.push (hA _ hS.1) (fun q hq => o1 q hq) ?_) ⟨Nat.le_trans hS.1 (by omega), fun x h1 h2 => (o1 x (Nat.lt_of_lt_of_le h1 hS.1)).trans (hS.2.1 x h1 h2), hS.2.2⟩ hL
  exact ⟨_, hc, (u_born ty hts hin hKn hkC e1 hty).to hfs⟩
end ZH
