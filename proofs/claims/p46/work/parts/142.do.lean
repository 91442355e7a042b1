/-! p46: the calls that change something -/
section D46
variable {n : Nat} {A : VA} {B : VB} {M : zMem}
theorem v_stand (N : Nat) (hn : n < 512) (h : KK n A B M) {b : Nat} (hb : b < 5) (ht : A.term b < 100) : ∃ M', fX7_stand N (nI b) M = some (.inl (nI (A.term b + 1)), M') ∧ KK (n + 1) (aStand b A) B M' := by
  have z := z5 hb
  obtain ⟨M1, f1, f2, f3⟩ := c_cand 1 N h.ra hb
  obtain ⟨M2, e1, e2, e3⟩ := c_hist N (k := 1) (a := b) (b := 0) hn (h.rt.to (f3.to (by omega))) h.aok (Or.inr (Or.inl ⟨rfl, hb, ht, rfl⟩))
  rw [nI_0] at e1
  have q1 : zeq 0 29 M1 M2 := fun a _ ha => e3 a (by omega)
  have q2 : zeq 33 90 M1 M2 := fun a ha _ => e3 a (by omega)
  have ra2 : QA 1 (aStand b A) M2 := f2.to (q1.sub (by omega) (by omega))
  have t2 : M2.1 2 b = nI (A.term b + 1) := by
    have := ra2.1.trm b hb
    rw [show (aStand b A).term b = A.term b + 1 from fu_s] at this
    exact this
  refine ⟨M2, ?_, AOK_stand h.aok hb ht, h.bok.up (Nat.le_succ n), ra2, (h.rx.to (f3.to (by omega))).to (q2.sub (by omega) (by omega)), e2, h.re⟩
  unfold fX7_stand
  rw [x_bak N hb, q_zb, if_pos z, nI_clamp (by omega), show M.1 2 b = nI (A.term b) from h.ra.1.trm b hb, if_pos (show nI (A.term b) < 100 from nI_lt (b := 100) (by omega) (by decide)), f1, q_zb, show (1 : Int32) = nI 1 from rfl, e1, q_zb, if_pos z, t2]
theorem v_vote (N : Nat) (hn : n < 512) (h : KK n A B M) {v c : Nat} (hv : v < 5) (hc : c < 5) (hvc : v ≠ c) (hr : A.role c = 1) (ht : tog A v c = true) : ∃ M', fX7_vote N (nI v) (nI c) M = some (.inl (nI (aVote v c A).1.toNat), M') ∧ KK (n + 1) (aVote v c A).2 B M' := by
  obtain ⟨M1, e1, e2, e3⟩ := c_hist N (k := 2) (a := v) (b := c) hn h.rt h.aok (Or.inr (Or.inr (Or.inl ⟨rfl, hv, hc, hvc, hr, rfl⟩)))
  have q1 : zeq 0 29 M M1 := fun a _ ha => e3 a (by omega)
  have q2 : zeq 33 90 M M1 := fun a ha _ => e3 a (by omega)
  obtain ⟨M2, f1, f2, f3⟩ := c_ask 1 N (h.ra.to (q1.sub (by omega) (by omega))) h.aok hv hc hvc hr
  have hx2 : QX (aVote v c A).2.V B M2 := by
    rw [aVote_V]
    exact (h.rx.to (q2.sub (by omega) (by omega))).to (f3.to (by omega))
  refine ⟨M2, ?_, AOK_vote h.aok hv hc hvc hr, by rw [aVote_V]; exact h.bok.up (Nat.le_succ n), f2, hx2, e2.to (f3.to (by omega)), h.re⟩
  unfold fX7_vote
  rw [x_pair N hv hc hvc, q_zb, if_pos (z5 hc), nI_clamp (by omega), show M.1 3 c = nI (A.role c) from h.ra.1.rol c hc, hr, if_pos (by rfl), x_reach N h.ra h.aok hv hc, if_pos ht, q_zb, show (2 : Int32) = nI 2 from rfl, e1, q_zb, f1, q_zb, if_pos (bool_nI _)]
theorem v_voteN (N : Nat) (h : KK n A B M) {v c : Nat} (hv : v < 5) (hc : c < 5) (hvc : v ≠ c) (g : ¬ (A.role c = 1 ∧ tog A v c = true)) : fX7_vote N (nI v) (nI c) M = some (.inr 3, M) := by
  have hrol := h.aok.role c hc
  unfold fX7_vote
  rw [x_pair N hv hc hvc, q_zb, if_pos (z5 hc), nI_clamp (by omega), show M.1 3 c = nI (A.role c) from h.ra.1.rol c hc]
  by_cases g1 : A.role c = 1
  · rw [if_pos (by rw [g1]; rfl), x_reach N h.ra h.aok hv hc, if_neg (fun q => g ⟨g1, q⟩), q_zbr]
  · rw [if_neg (q_ne (y := 1) (b := 1) rfl (by omega) (by decide) g1)]
theorem v_part (N : Nat) (hn : n < 512) (h : KK n A B M) {g : Nat} (hg : g < 32) : ∃ M', fX7_part N (nI g) M = some (.inl (nI (p5 g * (5 - p5 g))), M') ∧ KK (n + 1) (aPart g A) B M' := by
  obtain ⟨c1, c2⟩ := c_part 1 h.ra (g := g)
  obtain ⟨M1, e1, e2, e3⟩ := c_hist N (b := 0) hn (M := zsI M 1 0 (nI g)) (h.rt.to (c2.to (by omega))) h.aok (Or.inl ⟨rfl, hg, rfl⟩)
  rw [nI_0] at e1
  have q1 : zeq 0 29 (zsI M 1 0 (nI g)) M1 := fun a _ ha => e3 a (by omega)
  have q2 : zeq 33 90 (zsI M 1 0 (nI g)) M1 := fun a ha _ => e3 a (by omega)
  have k5 := p5_le g
  refine ⟨M1, ?_, AOK_part h.aok hg, h.bok.up (Nat.le_succ n), c1.to (q1.sub (by omega) (by omega)), (h.rx.to (c2.to (by omega))).to (q2.sub (by omega) (by omega)), e2, h.re⟩
  unfold fX7_part
  rw [if_neg (nI_pos (by omega)), if_pos (show nI g < 32 from nI_lt (b := 32) hg (by decide)), q_zl, e1, q_zb, q_count N hg, q_zb, show (5 : Int32) = nI 5 from rfl, pk_sub k5, pk_mul]
theorem v_propose (N : Nat) (hn : n < 512) (h : KK n A B M) {b q bg lv : Nat} (hb : b < 5) (hq : q < 6) (g1 : 1 ≤ bg) (g2 : bg ≤ 9) (g3 : 1 ≤ lv) (g4 : lv ≤ 40) (k1 : A.role b = 2) (k2 : A.len b < 20) (k3 : A.V < 60) : ∃ M', fX7_propose N (nI b) (nI q) (nI bg) (nI lv) M = some (.inl (nI A.V), M') ∧ KK (n + 1) (aProp b A) (uProp A.V q bg lv B) M' := by
  have u1 : ¬ nI bg < 1 := nI_nlt (b := 1) g1 (by omega)
  have u2 : ¬ (9 : Int32) < nI bg := nI_nlt (a := 9) g2 (by decide)
  have w1 : ¬ nI lv < 1 := nI_nlt (b := 1) g3 (by omega)
  have w2 : nI lv ≤ 40 := nI_le (b := 40) g4 (by decide)
  have z := z5 hb
  obtain ⟨M1, f1, f2, f3⟩ := c_addv 1 N h.ra h.aok hb k2 k3
  have hx2 := (h.rx.to (f3.to (by omega))).uProp (q := q) (bg := bg) (lv := lv)
  have q0 : zeq 0 33 M1 (zsI (zsI (zsI M1 34 A.V (nI q)) 35 A.V (nI bg)) 36 A.V (nI lv)) := fun a _ ha => ⟨by rw [zsI_n (by omega), zsI_n (by omega), zsI_n (by omega)], rfl⟩
  obtain ⟨M2, e1, e2, e3⟩ := c_hist N (k := 3) (a := b) (b := 0) hn (M := zsI (zsI (zsI M1 34 A.V (nI q)) 35 A.V (nI bg)) 36 A.V (nI lv)) ((h.rt.to (f3.to (by omega))).to (q0.sub (by omega) (by omega))) h.aok (Or.inr (Or.inr (Or.inr (Or.inl ⟨rfl, hb, k1, k2, k3, rfl⟩))))
  rw [nI_0] at e1
  have q1 : zeq 0 29 (zsI (zsI (zsI M1 34 A.V (nI q)) 35 A.V (nI bg)) 36 A.V (nI lv)) M2 := fun a _ ha => e3 a (by omega)
  have q2 : zeq 33 90 (zsI (zsI (zsI M1 34 A.V (nI q)) 35 A.V (nI bg)) 36 A.V (nI lv)) M2 := fun a ha _ => e3 a (by omega)
  refine ⟨M2, ?_, AOK_prop h.aok hb k2 k3 k1, h.bok.uProp hq g1 g2 g4, (f2.to (q0.sub (by omega) (by omega))).to (q1.sub (by omega) (by omega)), hx2.to (q2.sub (by omega) (by omega)), e2, h.re⟩
  unfold fX7_propose fX6_note
  rw [x_bak N hb, q_zb, x_rec N hq, q_zb, if_neg u1, if_neg u2, if_neg w1, if_pos w2, x_lead N h.ra h.aok hb, if_pos k1, q_zb, if_pos z, nI_clamp (by omega), show M.1 12 b = nI (A.len b) from h.ra.1.len b hb, if_neg (show ¬ (20 : Int32) ≤ nI (A.len b) from nI_ge (b := 20) k2 (by decide)), h.ra.1.ver, if_pos (show nI A.V < 60 from nI_lt (b := 60) k3 (by decide)), f1, q_zb]
  simp only [z60 k3, if_true, q_zl]
  rw [nI_clamp (by omega), q_zb, show (3 : Int32) = nI 3 from rfl, e1, q_zb]
theorem v_proposeN (N : Nat) (h : KK n A B M) {b q bg lv : Nat} (hb : b < 5) (hq : q < 6) (g1 : 1 ≤ bg) (g2 : bg ≤ 9) (g3 : 1 ≤ lv) (g4 : lv ≤ 40) (g : ¬ (A.role b = 2 ∧ A.len b < 20 ∧ A.V < 60)) : fX7_propose N (nI b) (nI q) (nI bg) (nI lv) M = some (.inr 3, M) := by
  have u1 : ¬ nI bg < 1 := nI_nlt (b := 1) g1 (by omega)
  have u2 : ¬ (9 : Int32) < nI bg := nI_nlt (a := 9) g2 (by decide)
  have w1 : ¬ nI lv < 1 := nI_nlt (b := 1) g3 (by omega)
  have w2 : nI lv ≤ 40 := nI_le (b := 40) g4 (by decide)
  have z := z5 hb
  have hl := h.aok.len b hb
  have hv := h.aok.ver
  unfold fX7_propose
  rw [x_bak N hb, q_zb, x_rec N hq, q_zb, if_neg u1, if_neg u2, if_neg w1, if_pos w2, x_lead N h.ra h.aok hb]
  by_cases k1 : A.role b = 2
  · rw [if_pos k1, q_zb, if_pos z, nI_clamp (by omega), show M.1 12 b = nI (A.len b) from h.ra.1.len b hb]
    by_cases k2 : A.len b < 20
    · rw [if_neg (show ¬ (20 : Int32) ≤ nI (A.len b) from nI_ge (b := 20) k2 (by decide)), h.ra.1.ver, if_neg (show ¬ nI A.V < 60 from nI_nlt (b := 60) (by omega) (by omega))]
    · rw [if_pos (show (20 : Int32) ≤ nI (A.len b) from nI_le (a := 20) (by omega) (by omega))]
  · rw [if_neg k1, q_zbr]
theorem v_tell (N : Nat) (hN : 101 ≤ N) (hn : n < 512) (h : KK n A B M) {s r : Nat} (hs : s < 5) (hr : r < 5) (hsr : s ≠ r) (h2 : A.role s = 2) (ht : tog A s r = true) : ∃ M', fX7_tell N (nI s) (nI r) M = some (.inl (aTold s r A), M') ∧ KK (n + 1) (aTell s r A) (uCbU (fun v => held A v && !held (aTell s r A) v) A.V 0 B) M' := by
  have hV := h.aok.ver
  have hk2 := AOK_tell h.aok hs hr
  obtain ⟨M1, f1, f2, f3⟩ := c_tell 1 N (by omega) h.ra h.aok hs hr hsr
  obtain ⟨M2, e1, e2, e3⟩ := c_hist N (k := 4) (a := s) (b := r) hn (h.rt.to (f3.to (by omega))) h.aok (Or.inr (Or.inr (Or.inr (Or.inr ⟨rfl, hs, hr, hsr, h2, rfl⟩))))
  have q1 : zeq 0 29 M1 M2 := fun a _ ha => e3 a (by omega)
  have q2 : zeq 33 90 M1 M2 := fun a ha _ => e3 a (by omega)
  have ra2 : QA 1 (aTell s r A) M2 := f2.to (q1.sub (by omega) (by omega))
  have rx2 : QX A.V B M2 := (h.rx.to (f3.to (by omega))).to (q2.sub (by omega) (by omega))
  have v2 : M2.1 1 7 = nI A.V := by have := ra2.1.ver; rw [aTell_V] at this; exact this
  have hb2 : BOK A.V (n + 1) B := h.bok.up (Nat.le_succ n)
  obtain ⟨M3, g1, g2, g3⟩ := x_cbU N hN (n0 := n + 1) (V := A.V) (by omega) hV (lost := fun v => held A v && !held (aTell s r A) v) (L := (M.2 1 10) &&& ((M2.2 1 10) ^^^ (-1))) (fun v hv => by
    rw [q_lnot _ _ (by omega), h.ra.held hv, ra2.held (by rw [aTell_V]; exact hv)]) A.V N 0 v2 rx2 hb2 (by omega) (by omega)
  rw [nI_0] at g1
  refine ⟨M3, ?_, hk2, by rw [aTell_V]; exact hb2.kCbU _ _, ra2.to (g3.to (by omega)), by rw [aTell_V]; exact g2, e2.to (g3.to (by omega)), h.re.kCbU _ _ hb2⟩
  unfold fX7_tell
  rw [x_pair N hs hr hsr, q_zb, x_lead N h.ra h.aok hs, if_pos h2, q_zb, x_reach N h.ra h.aok hs hr, if_pos ht, q_zb, f1, q_zb, show (4 : Int32) = nI 4 from rfl, e1, q_zb]
  unfold fX7_callBackUnheld
  rw [g1, q_zb]
theorem v_tellN (N : Nat) (h : KK n A B M) {s r : Nat} (hs : s < 5) (hr : r < 5) (hsr : s ≠ r) (g : ¬ (A.role s = 2 ∧ tog A s r = true)) : fX7_tell N (nI s) (nI r) M = some (.inr 3, M) := by
  unfold fX7_tell
  rw [x_pair N hs hr hsr, q_zb, x_lead N h.ra h.aok hs]
  by_cases g1 : A.role s = 2
  · rw [if_pos g1, q_zb, x_reach N h.ra h.aok hs hr, if_neg (fun q => g ⟨g1, q⟩), q_zbr]
  · rw [if_neg g1, q_zbr]
theorem v_addLot (N : Nat) (h : KK n A B M) (hL : B.L < 16) : ∃ M', fX7_addLot N M = some (.inl (nI B.L), M') ∧ KK (n + 1) A (uLot B) M' := by
  refine ⟨zsI M 37 0 (nI (B.L + 1)), ?_, h.aok, h.bok.kLot hL, h.ra.to (zeq_sI (by omega)), h.rx.kLot, (h.rt.to (zeq_sI (by omega))).up (Nat.le_succ n), h.re⟩
  unfold fX7_addLot
  rw [h.rx.L, if_pos (show nI B.L < 16 from nI_lt (b := 16) hL (by decide)), nI_1, q_zl, zsI_s, pk_us, nI_pred]
theorem v_deliver (N : Nat) (hN : 101 ≤ N) (h : KK n A B M) {b l t : Nat} (hb : b < 5) (hl : l < B.L) (t1 : 1 ≤ t) (t2 : t ≤ 50) (g1 : B.cond l = false) (g2 : B.cnt b + t ≤ 200) : ∃ M', fX7_deliver N (nI b) (nI l) (nI t) M = some (.inl (nI (B.cnt b + t)), M') ∧ KK (n + 1) A (uDel b l t B) M' := by
  have hL := h.bok.L
  have u1 : ¬ nI t < 1 := nI_nlt (b := 1) t1 (by omega)
  have u2 : nI t ≤ 50 := nI_le (b := 50) t2 (by decide)
  have z := z5 hb
  obtain ⟨M1, e1, e2, e3, e4, e5⟩ := x_bring N (b := b) (l := l) (e := B.cnt b + t) hb g2 t N (B.cnt b) (M := M) rfl (by omega)
  have hx1 : QX A.V (uDel b l t B) M1 := by
    have r44 : ∀ c, c < 5 → M1.1 44 c = nI (fu B.cnt b (B.cnt b + t) c) := fun c hc => by
      rw [e4]
      by_cases e : c = b
      · subst e; rw [pk_us, fu_s]
      · rw [pk_un e, fu_n e]; exact h.rx.cnt c hc
    refine QX.mk ?_ ?_ ?_ ?_ ?_ ?_ r44 ?_ ?_ ?_ ?_ ?_ ?_ ?_ ?_ ?_ ?_ ?_ ?_
    · rw [e3 34 (by omega) (by decide)]; exact h.rx.rcp
    · rw [e3 35 (by omega) (by decide)]; exact h.rx.bag
    · rw [e3 36 (by omega) (by decide)]; exact h.rx.loa
    · rw [e3 37 (by omega) (by decide)]; exact h.rx.L
    · rw [e3 37 (by omega) (by decide)]; exact h.rx.cb
    · intro c hc i hi
      have hi' : i < fu B.cnt b (B.cnt b + t) c := hi
      show _ = nI ((if c = b then (fun i => if B.cnt b ≤ i then l else B.st b i) else B.st c) i)
      by_cases e : c = b
      · subst e
        rw [fu_s] at hi'
        rw [if_pos rfl, e5 i]
        by_cases q : B.cnt c ≤ i
        · rw [if_pos ⟨q, hi'⟩, if_pos q]
        · rw [if_neg (fun w => q w.1), if_neg q]; exact h.rx.st c hc i (by omega)
      · rw [fu_n e] at hi'
        rw [if_neg e, e3 _ (by omega) (by omega)]; exact h.rx.st c hc i hi'
    · rw [e3 45 (by omega) (by decide)]; exact h.rx.T
    · intro c hc i h1 h2
      rw [e3 _ (by omega) (by omega)]; exact h.rx.sl c hc i h1 h2
    · rw [e3 52 (by omega) (by decide)]; exact h.rx.mis
    · rw [e3 53 (by omega) (by decide)]; exact h.rx.Bc
    · rw [e3 54 (by omega) (by decide)]; exact h.rx.bver
    · rw [e3 55 (by omega) (by decide)]; exact h.rx.blot
    · rw [e3 56 (by omega) (by decide)]; exact h.rx.left
    · rw [e3 57 (by omega) (by decide)]; exact h.rx.out
    · rw [e3 58 (by omega) (by decide)]; exact h.rx.R
    · rw [e3 59 (by omega) (by decide)]; exact h.rx.rb
    · rw [e3 60 (by omega) (by decide)]; exact h.rx.rl
    · rw [e3 61 (by omega) (by decide)]; exact h.rx.rr
  have fr : ∀ a, (a < 33 ∨ 62 ≤ a) → M1.1 a = M.1 a ∧ M1.2 a = M.2 a := fun a ha => ⟨e3 a (by omega) (by omega), by rw [e2]⟩
  refine ⟨M1, ?_, h.aok, h.bok.kDel hl g2, h.ra.to (fun a h1 h2 => fr a (by omega)), hx1, (h.rt.to (fun a h1 h2 => fr a (by omega))).up (Nat.le_succ n), h.re⟩
  unfold fX7_deliver fX2_bring
  rw [x_bak N hb, q_zb, x_Lot' N h.rx.L (by omega) hl, q_zb, if_neg u1, if_pos u2, x_good N h.rx (by omega), if_neg (by rw [g1]; decide), q_zb]
  simp only [z, if_true]
  rw [nI_clamp (by omega), h.rx.cnt b hb, nI_add, if_pos (show nI (B.cnt b + t) ≤ 200 from nI_le (b := 200) g2 (by decide)), q_zv, q_zv, e1, q_zb, e4, pk_us]
theorem v_deliverN (N : Nat) (h : KK n A B M) {b l t : Nat} (hb : b < 5) (hl : l < B.L) (t1 : 1 ≤ t) (t2 : t ≤ 50) (g : ¬ (B.cond l = false ∧ B.cnt b + t ≤ 200)) : fX7_deliver N (nI b) (nI l) (nI t) M = some (.inr 3, M) := by
  have hL := h.bok.L
  have hcn := h.bok.cnt b hb
  have u1 : ¬ nI t < 1 := nI_nlt (b := 1) t1 (by omega)
  have u2 : nI t ≤ 50 := nI_le (b := 50) t2 (by decide)
  unfold fX7_deliver
  rw [x_bak N hb, q_zb, x_Lot' N h.rx.L (by omega) hl, q_zb, if_neg u1, if_pos u2, x_good N h.rx (by omega)]
  by_cases g1 : B.cond l = true
  · rw [if_pos g1, q_zbr]
  · rw [Bool.not_eq_true] at g1
    rw [if_neg (by rw [g1]; decide), q_zb, if_pos (z5 hb), nI_clamp (by omega), h.rx.cnt b hb, nI_add, if_neg (show ¬ nI (B.cnt b + t) ≤ 200 from nI_ge (a := 200) (Nat.lt_of_not_le (fun q => g ⟨g1, q⟩)) (by omega))]
theorem v_book (N : Nat) (hN : 101 ≤ N) (h : KK n A B M) {b q t : Nat} (hb : b < 5) (hq : q < 6) (t1 : B.T ≤ t) (t2 : t ≤ B.T + 50) (g : B.sl b t = 0) (g2 : cur A B.rcp b q (A.len b) ≠ 0) : ∃ M', fX7_book N (nI b) (nI t) (nI q) M = some (.inl (nI (cur A B.rcp b q (A.len b)) - 1), M') ∧ KK (n + 1) A (uSl b t (cur A B.rcp b q (A.len b)) B) M' := by
  have hT := h.bok.T
  have hc := cur_le (rc := B.rcp) (q := q) h.aok hb _ (Nat.le_refl _)
  refine ⟨zsI M (46 + 1 + b) (t % 51) (nI (cur A B.rcp b q (A.len b)) - 1), ?_, h.aok, h.bok.uSl hc t2, h.ra.to (zeq_sI (by omega)), h.rx.uSl hT hb t1 t2 rfl, (h.rt.to (zeq_sI (by omega))).up (Nat.le_succ n), h.re⟩
  unfold fX7_book
  rw [x_bak N hb, q_zb, x_rec N hq, q_zb, x_hourk N h.rx.T hT t1 t2, q_zb, x_slot N h.rx hb t1 t2 hT, q_zb, g, if_pos (by decide), x_put N hN h.ra h.rx h.aok h.bok.r6 hb hq (by omega), if_neg g2, q_zb]
theorem v_bookN (N : Nat) (hN : 101 ≤ N) (h : KK n A B M) {b q t : Nat} (hb : b < 5) (hq : q < 6) (t1 : B.T ≤ t) (t2 : t ≤ B.T + 50) (g : ¬ (B.sl b t = 0 ∧ cur A B.rcp b q (A.len b) ≠ 0)) : fX7_book N (nI b) (nI t) (nI q) M = some (.inr 3, M) := by
  have hT := h.bok.T
  have hV := h.aok.ver
  have s1 := h.bok.sl b hb t (by omega)
  unfold fX7_book
  rw [x_bak N hb, q_zb, x_rec N hq, q_zb, x_hourk N h.rx.T hT t1 t2, q_zb, x_slot N h.rx hb t1 t2 hT, q_zb]
  by_cases g1 : B.sl b t = 0
  · rw [g1, if_pos (by decide), x_put N hN h.ra h.rx h.aok h.bok.r6 hb hq (by omega), if_pos (Classical.byContradiction fun q => g ⟨g1, q⟩), q_zbr]
  · rw [if_neg (by rw [q_pred (by omega)]; exact q_m1 (by omega))]
theorem v_pass (N : Nat) (hN : 300 ≤ N) (h : KK n A B M) {t : Nat} (t1 : 1 ≤ t) (t2 : t ≤ 50) (g : B.T + t ≤ 1000) : ∃ M', fX7_pass N (nI t) M = some (.inl (nI (pCt A t B)), M') ∧ KK (n + 1) A (pDo A t B) M' := by
  have u1 : ¬ nI t < 1 := nI_nlt (b := 1) t1 (by omega)
  have u2 : nI t ≤ 50 := nI_le (b := 50) t2 (by decide)
  obtain ⟨M1, e1, e2, e3⟩ := x_pass N hN h.aok t2 (n0 := n) t N 0 0 h.ra h.rx h.bok (by omega) g (by omega)
  rw [nI_0, Nat.zero_add] at e1
  refine ⟨M1, ?_, h.aok, (h.bok.kPDo t g).up (Nat.le_succ n), h.ra.to (e3.to (by omega)), e2, (h.rt.to (e3.to (by omega))).up (Nat.le_succ n), h.re.kPDo t h.bok g⟩
  unfold fX7_pass
  rw [if_neg u1, if_pos u2, h.rx.T, nI_add, if_pos (show nI (B.T + t) ≤ 1000 from nI_le (b := 1000) g (by decide)), e1]
theorem v_sell (N : Nat) (hN : 101 ≤ N) (h : KK n A B M) {i t : Nat} (hi : i < B.Bc) (t1 : 1 ≤ t) (t2 : t ≤ 40) (g1 : bar A B i = 0) (g2 : t ≤ B.left i) : ∃ M', fX7_sell N (nI i) (nI t) M = some (.inl (nI (B.left i - t)), M') ∧ KK (n + 1) A (uSell i t B) M' := by
  have hBc := h.bok.Bc
  have hl := h.bok.left i hi
  have z : zin (nI i) 60 = true := z60 (by omega)
  have y1 : ¬ nI t < 1 := nI_nlt (b := 1) t1 (by omega)
  have y2 : nI t ≤ 40 := nI_le (b := 40) t2 (by decide)
  refine ⟨zsI (zsI M 56 i (nI (B.left i - t))) 57 i (nI (B.out i + t)), ?_, h.aok, h.bok.uSell hi g2, (h.ra.to (zeq_sI (by omega))).to (zeq_sI (by omega)), h.rx.uSell, ((h.rt.to (zeq_sI (by omega))).to (zeq_sI (by omega))).up (Nat.le_succ n), h.re⟩
  unfold fX7_sell
  rw [x_Batch' N h.rx.Bc (by omega) hi, q_zb, if_neg y1, if_pos y2, x_bar 1 N h.ra h.rx h.aok h.bok hi, q_zb, g1, if_pos (by decide)]
  simp only [z, if_true, q_zl]
  rw [nI_clamp (by omega), h.rx.left i hi, if_pos (nI_le g2 (by omega)), zsI_n (show 57 ≠ 56 by decide), h.rx.out i hi, nI_add, pk_sub g2, zsI_n (show 56 ≠ 57 by decide), zsI_s, pk_us]
theorem v_sellN (N : Nat) (hN : 101 ≤ N) (h : KK n A B M) {i t : Nat} (hi : i < B.Bc) (t1 : 1 ≤ t) (t2 : t ≤ 40) (g : ¬ (bar A B i = 0 ∧ t ≤ B.left i)) : fX7_sell N (nI i) (nI t) M = some (.inr 3, M) := by
  have hBc := h.bok.Bc
  have hl := h.bok.left i hi
  have h4 := bar_lt (A := A) (B := B) (i := i)
  have z : zin (nI i) 60 = true := z60 (by omega)
  have y1 : ¬ nI t < 1 := nI_nlt (b := 1) t1 (by omega)
  have y2 : nI t ≤ 40 := nI_le (b := 40) t2 (by decide)
  unfold fX7_sell
  rw [x_Batch' N h.rx.Bc (by omega) hi, q_zb, if_neg y1, if_pos y2, x_bar 1 N h.ra h.rx h.aok h.bok hi, q_zb]
  by_cases g1 : bar A B i = 0
  · rw [g1, if_pos (by decide), if_pos z, nI_clamp (by omega), h.rx.left i hi, if_neg (nI_ge (by omega) (by omega))]
  · rw [if_neg (nI_ne0 (by omega) (by omega))]
theorem v_condemn (N : Nat) (hN : 300 ≤ N) (hn : n < 512) (h : KK n A B M) {l : Nat} (hl : l < B.L) (g : B.cond l = false) : ∃ (M' : zMem) (B' : VB) (s : Nat), fX7_condemn N (nI l) M = some (.inl (nI s), M') ∧ KK (n + 1) A B' M' ∧ B'.L = B.L ∧ B'.cond l = true ∧ s < 2 ^ 31 := by
  have hL := h.bok.L
  have h16 : l < 16 := by omega
  obtain ⟨y, c1, c2⟩ := h.rx.kCond h16
  have hb1 := h.bok.kCond hl
  obtain ⟨M1, e1, e2, e3⟩ := x_thr N hN h16 5 N 0 c1 hb1 (by omega) (by omega)
  rw [nI_0] at e1
  have hb2 : BOK A.V (n + 1) (thr l 5 0 (uCond l B)) := hb1.kThr 5 0
  have hBc2 := hb2.Bc
  obtain ⟨M2, f1, f2, f3⟩ := x_cbL N (n0 := n + 1) (by omega) h16 (thr l 5 0 (uCond l B)).Bc N 0 0 e2 hb2 (by omega) (by omega)
  rw [nI_0, Nat.zero_add] at f1
  have fr : zxf (zsI M 37 1 y) M2 := e3.trans f3
  have fr2 : zeq 0 33 M M2 := fun a _ ha => ⟨by rw [fr.1 a (by omega), zsI_n (by omega)], by rw [fr.2, zsI_2]⟩
  have t0 := thr_e (l := l) 5 0 (uCond l B)
  have t1 := uCbL_L (l := l) (thr l 5 0 (uCond l B)).Bc 0 (thr l 5 0 (uCond l B))
  have sb : ∀ k i (B : VB), BOK A.V (n + 1) B → i + k = B.Bc → sCbL l k i B ≤ 40 * k := by
    intro k
    induction k with
    | zero => intro i B _ _; exact Nat.le_refl _
    | succ k ih =>
      intro i B hb q
      have q0 : i < B.Bc := by omega
      have ho := hb.left i q0
      rw [sCbL]
      split
      · have := ih (i + 1) (uCb i 2 B) (hb.kCb q0) (by rw [uCb_Bc]; omega)
        omega
      · have := ih (i + 1) B hb (by omega)
        omega
  have s1 := sb _ 0 _ hb2 (Nat.zero_add _)
  refine ⟨M2, _, _, ?_, ⟨h.aok, hb2.kCbL _ _ (Nat.zero_add _), h.ra.to (fr2.sub (by omega) (by omega)), f2, (h.rt.to (fr2.sub (by omega) (by omega))).up (Nat.le_succ n), (t0.2.2 h.re).kCbL _ _ hb2 (Nat.zero_add _)⟩, ?_, ?_, Nat.lt_of_le_of_lt s1 (by omega)⟩
  · unfold fX7_condemn fX2_throwOut fX7_callBackLot
    rw [x_Lot' N h.rx.L (by omega) hl, q_zb, x_good N h.rx h16, if_neg (by rw [g]; decide), q_zb, q_zl, c2, e1, q_zb, f1, q_zb]
  · rw [t1.1, t0.1]; rfl
  · rw [t1.2, t0.2.1]
    show (B.cond l || decide (l = l)) = true
    rw [decide_eq_true rfl, Bool.or_true]
theorem v_condemnN (N : Nat) (h : KK n A B M) {l : Nat} (hl : l < B.L) (g : B.cond l = true) : fX7_condemn N (nI l) M = some (.inr 3, M) := by
  have hL := h.bok.L
  unfold fX7_condemn
  rw [x_Lot' N h.rx.L (by omega) hl, q_zb, x_good N h.rx (by omega), if_pos g, q_zbr]
theorem v_barredAnew (N : Nat) (hN : 600 ≤ N) (hn : n ≤ 512) (h : KK n A B M) {i : Nat} (hi : i < B.Bc) : ∃ M', fX7_barredAnew N (nI i) M = some (.inl (nI (bar A B i)), M') ∧ KK n A B M' := by
  have hK := h.bok.Bc
  obtain ⟨M', e1, e2, e3⟩ := c_again N hN hn h.rt
  have hx : QX A.V B M' := h.rx.to (e3.to (by omega))
  refine ⟨M', ?_, h.aok, h.bok, h.ra.to (e3.to (by omega)), hx, h.rt.to (e3.to (by omega)), h.re⟩
  unfold fX7_barredAnew
  rw [x_Batch' N h.rx.Bc (by omega) hi, q_zb, e1, q_zb, x_bar 15 N e2 hx h.aok h.bok hi, q_zb]
end D46
