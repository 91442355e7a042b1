/-! pure: tell, both -/
theorem m_tell83 (N : Nat) (hN : 101 ≤ N) {A : VA} {B : VB} {M : zMem} (hm : QM A B M) (hk : AOK A) {n0 : Nat} (hn : n0 ≤ 512) (hb : BOK A.V n0 B) {s r : Nat} (hs : s < 5) (hr : r < 5) (hsr : s ≠ r) : ∃ M', fX8_tell_B83 N N (nI s) (nI r) 0 M = some (.inl (nI (A.len s - aCut A s r)), M') ∧ QM (aSend s r A) (uCbU (fun v => held A v && !held (aSend s r A) v) A.V 0 B) M' ∧ (∀ a, a < 62 → M'.1 a = M.1 a) ∧ M'.1 62 30 = M.1 62 30 ∧ M'.2 = M.2 := by
  have hV := hk.ver
  have l1 := hk.len s hs
  have l2 := hk.len r hr
  have hk2 := AOK_send hk hs hr
  have cl := aCut_le (A := A) (s := s) (r := r)
  have hh : ∀ v, held (aSend s r A) v = held (aSend1 s r A) v := held_eq rfl rfl
  obtain ⟨M1, e1, e2, e3, e4⟩ := m_before N hN hk (s := nI s) (r := nI r) A.V N 0 hm.1 (by omega) (by omega)
  have hR1 : QR A M1 := hm.1.to (by rw [e2 62 (by decide)]) (by rw [e2 62 (by decide)]) (fun a h1 h2 => e2 a (by omega))
  have hF1 : QF A.V B M1 := hm.2.to (by rw [e2 62 (by decide)]) (by rw [e2 62 (by decide)]) (by rw [e2 62 (by decide)]) (by rw [e2 62 (by decide)]) (fun a h1 h2 h3 h4 => e2 a h4)
  have d := m_diff N hR1 hk hs hr (min (A.len s) (A.len r)) N 0 (by omega) (by have := Nat.min_le_left (A.len s) (A.len r); omega)
  have c := m_cut N hR1 hk hs hr
  rw [nI_0] at e1 d
  have cc : (A.len s - aCut A s r = 0 ∧ A.len s ≤ aCut A s r ∨ aCut A s r + (A.len s - aCut A s r) = A.len s) := by omega
  obtain ⟨M2, f1, f2, f3, f4, f5⟩ := m_copy N hk hs hr hsr (A.len s - aCut A s r) N (aCut A s r) 0 (M := zsI M1 68 r (nI (aCut A s r))) (by rw [zsI_s, pk_un hsr]; exact hR1.len s hs) (by rw [zsI_s, pk_us]) (by omega) (fun j hj => by rw [zsI_n (by decide)]; exact hR1.log s hs j hj) cc (by omega)
  rw [nI_0] at f1
  have len2 : ∀ b, b < 5 → M2.1 68 b = nI ((aSend s r A).len b) := fun b hb5 => by
    show _ = nI (fu A.len r (max (aCut A s r) (A.len s)) b)
    rw [f4 b hb5]
    by_cases g : b = r
    · subst g; rw [if_pos rfl, fu_s, show aCut A s b + (A.len s - aCut A s b) = max (aCut A s b) (A.len s) by omega]
    · rw [if_neg g, fu_n g, zsI_s, pk_un g]; exact hR1.len b hb5
  have log2 : ∀ b, b < 5 → ∀ i, i < (aSend s r A).len b → M2.1 67 (20 * b + i) = nI ((aSend s r A).log b i) := fun b hb5 i hi => by
    have hi20 := hk2.len b hb5
    have hi' : i < fu A.len r (max (aCut A s r) (A.len s)) b := hi
    show _ = nI ((if b = r then (fun i => if aCut A s r ≤ i then A.log s i else A.log r i) else A.log b) i)
    rw [f5 b hb5 i (by omega), zsI_n (by decide)]
    by_cases g : b = r
    · subst g
      rw [fu_s] at hi'
      rw [if_pos rfl]
      by_cases g2 : aCut A s b ≤ i
      · rw [if_pos ⟨rfl, g2, by omega⟩, if_pos g2]
      · rw [if_neg (fun q => g2 q.2.1), if_neg g2]; exact hR1.log b hb5 i (by omega)
    · rw [fu_n g] at hi'
      rw [if_neg (fun q => g q.1), if_neg g]; exact hR1.log b hb5 i hi'
  have fr2 : ∀ a, a ≠ 67 → a ≠ 68 → M2.1 a = M1.1 a := fun a h1 h2 => by rw [f2 a h1 h2, zsI_n h2]
  have hF2 : QF A.V B M2 := hF1.to (by rw [fr2 62 (by decide) (by decide)]) (by rw [fr2 62 (by decide) (by decide)]) (by rw [fr2 62 (by decide) (by decide)]) (by rw [fr2 62 (by decide) (by decide)]) (fun a h1 h2 h3 h4 => fr2 a (by omega) (by omega))
  obtain ⟨M3, g1, g2, g3, g4, g5, g6⟩ := m_cbU N hN hk2 hn (bef := held A) A.V N 0 (B := B) (M := M2) len2 log2 (by rw [fr2 62 (by decide) (by decide)]; exact hR1.ver) (fun w hw => by rw [fr2 74 (by decide) (by decide), e4 w hw, if_pos (Nat.zero_le _)]) hF2 hb (show 0 + A.V = A.V by omega) (by omega)
  rw [nI_0] at g1
  have fr3 : ∀ a, a ≠ 62 → a ≠ 67 → a ≠ 68 → a ≠ 73 → a ≠ 74 → a ≤ 82 → M3.1 a = M.1 a := fun a h1 h2 h3 h4 h5 h6 => by rw [g3 a h1 h4 h6, fr2 a h2 h3, e2 a h5]
  have fr4 : ∀ j, j ≠ 26 → M3.1 62 j = M.1 62 j := fun j hj => by rw [g4 j hj, fr2 62 (by decide) (by decide), e2 62 (by decide)]
  refine ⟨M3, ?_, ⟨?_, g2⟩, fun a ha => fr3 a (by omega) (by omega) (by omega) (by omega) (by omega) (by omega), fr4 30 (by decide), by rw [g5, f3]; exact e3⟩
  · rw [e1, d, c, f1]
    unfold fX8_callsBackVersions
    rw [g1, q_zb, Nat.zero_add]
  · refine QR.mk ?_ ?_ ?_ ?_ ?_ ?_ ?_ ?_ ?_ ?_
    · rw [fr4 0 (by decide)]; exact hm.1.grp
    · rw [fr4 7 (by decide)]; exact hm.1.ver
    · rw [fr3 63 (by decide) (by decide) (by decide) (by decide) (by decide) (by decide)]; exact hm.1.trm
    · rw [fr3 64 (by decide) (by decide) (by decide) (by decide) (by decide) (by decide)]; exact hm.1.rol
    · rw [fr3 65 (by decide) (by decide) (by decide) (by decide) (by decide) (by decide)]; exact hm.1.vot
    · rw [fr3 66 (by decide) (by decide) (by decide) (by decide) (by decide) (by decide)]; exact hm.1.sup
    · rw [g3 67 (by decide) (by decide) (by decide)]; exact log2
    · rw [g3 68 (by decide) (by decide) (by decide)]; exact len2
    · rw [fr3 69 (by decide) (by decide) (by decide) (by decide) (by decide) (by decide)]; exact hm.1.vtm
    · intro w hw
      show _ = nI (A.ev w || held (aSend1 s r A) w).toNat
      rw [g6 w, fr2 73 (by decide) (by decide), e2 73 (by decide), hm.1.ev w hw, hh w]
      cases q : held (aSend1 s r A) w
      · rw [if_neg (fun q2 => absurd q2.2.2 (by decide)), Bool.or_false]
      · have hwV : w < A.V := by
          refine Nat.lt_of_not_le fun q2 => ?_
          have t := hset_top hk2 (v := w) q2
          rw [← hh w] at q
          unfold held at q
          rw [t] at q
          exact absurd q (by decide)
        rw [if_pos ⟨Nat.zero_le _, hwV, rfl⟩, Bool.or_true]; rfl
theorem QR.role0 {A : VA} {M : zMem} (hA : QR A M) {c : Nat} (hr : A.role c = 0) : QR A (zsI M 64 c 0) :=
  (QR.mk (by simp (disch := omega) only [zsI_n, zsI_s, pk_un, zsL_1, zsI_2]; exact hA.grp) (by simp (disch := omega) only [zsI_n, zsI_s, pk_un, zsL_1, zsI_2]; exact hA.ver) (by simp (disch := omega) only [zsI_n, zsI_s, pk_un, zsL_1, zsI_2]; exact hA.trm) ( fun d hd => by
    rw [zsI_s]
    by_cases e : d = c
    · subst e; rw [pk_us, hr]; rfl
    · rw [pk_un e]; exact hA.rol d hd) (by simp (disch := omega) only [zsI_n, zsI_s, pk_un, zsL_1, zsI_2]; exact hA.vot) (by simp (disch := omega) only [zsI_n, zsI_s, pk_un, zsL_1, zsI_2]; exact hA.sup) (by simp (disch := omega) only [zsI_n, zsI_s, pk_un, zsL_1, zsI_2]; exact hA.log) (by simp (disch := omega) only [zsI_n, zsI_s, pk_un, zsL_1, zsI_2]; exact hA.len) (by simp (disch := omega) only [zsI_n, zsI_s, pk_un, zsL_1, zsI_2]; exact hA.vtm) (by simp (disch := omega) only [zsI_n, zsI_s, pk_un, zsL_1, zsI_2]; exact hA.ev))
theorem QR.unrole {A : VA} {M : zMem} (hA : QR A M) {c : Nat} (h2 : A.role c ≤ 2) (hr : A.role c ≠ 2) : QR ((VA.mk A.grp A.V A.term (fu A.role c (if A.role c = 1 then 0 else A.role c)) A.vote A.sup A.len A.vt A.ev A.log)) (zsI M 64 c 0) :=
  (QR.mk (by simp (disch := omega) only [zsI_n, zsI_s, pk_un, zsL_1, zsI_2]; exact hA.grp) (by simp (disch := omega) only [zsI_n, zsI_s, pk_un, zsL_1, zsI_2]; exact hA.ver) (by simp (disch := omega) only [zsI_n, zsI_s, pk_un, zsL_1, zsI_2]; exact hA.trm) ( fun d hd => by
    show _ = nI (fu A.role c (if A.role c = 1 then 0 else A.role c) d)
    rw [zsI_s]
    by_cases e : d = c
    · subst e
      rw [pk_us, fu_s]
      by_cases g : A.role d = 1
      · rw [if_pos g]; rfl
      · rw [if_neg g, show A.role d = 0 by omega]; rfl
    · rw [pk_un e, fu_n e]; exact hA.rol d hd) (by simp (disch := omega) only [zsI_n, zsI_s, pk_un, zsL_1, zsI_2]; exact hA.vot) ( fun d hd q => by
    have q' : fu A.role c (if A.role c = 1 then 0 else A.role c) d = 1 := q
    rw [zsI_n (by decide)]
    refine hA.sup d hd ?_
    by_cases e : d = c
    · subst e
      rw [fu_s] at q'
      split at q' <;> omega
    · rw [fu_n e] at q'; exact q') (by simp (disch := omega) only [zsI_n, zsI_s, pk_un, zsL_1, zsI_2]; exact hA.log) (by simp (disch := omega) only [zsI_n, zsI_s, pk_un, zsL_1, zsI_2]; exact hA.len) (by simp (disch := omega) only [zsI_n, zsI_s, pk_un, zsL_1, zsI_2]; exact hA.vtm) (by simp (disch := omega) only [zsI_n, zsI_s, pk_un, zsL_1, zsI_2]; exact hA.ev))
theorem aTell_V {s r : Nat} {A : VA} : (aTell s r A).V = A.V := by
  unfold aTell aTell1
  split
  · rfl
  · split <;> rfl
theorem m_tell (N : Nat) (hN : 101 ≤ N) {A : VA} {B : VB} {M : zMem} (hm : QM A B M) (hk : AOK A) (he : ES A) {n0 : Nat} (hn : n0 ≤ 512) (hb : BOK A.V n0 B) {s r : Nat} (hs : s < 5) (hr : r < 5) (hsr : s ≠ r) (h2 : A.role s = 2) (ht : tog A s r = true) : ∃ M', fX8_tell N (nI s) (nI r) M = some (.inl (aTold s r A), M') ∧ QM (aTell s r A) (uCbU (fun v => held A v && !held (aTell s r A) v) A.V 0 B) M' ∧ (∀ a, a < 62 → M'.1 a = M.1 a) ∧ M'.1 62 30 = 0 ∧ M'.2 = M.2 := by
  have t1 := hk.term s hs
  have t2 := hk.term r hr
  have hn1 := hm.note (x := 0)
  have hr2 := hk.role r hr
  unfold fX8_tell
  rw [show (2 : Int32) = nI 2 from rfl, m_rc N hm.1 hk hs hr hsr (by decide), if_pos ⟨h2, ht⟩, q_zb, q_zl]
  simp only [z5 hs, z5 hr, if_true]
  rw [show (zsI M 62 30 0).1 62 30 = 0 by rw [zsI_s, pk_us], if_pos (by decide), nI_clamp (by omega), nI_clamp (by omega), hn1.1.trm s hs, hn1.1.trm r hr]
  unfold aTell aTold aTell1
  by_cases g1 : A.term s < A.term r
  · rw [if_pos g1, if_pos g1, if_neg (nI_ge g1 (by omega))]
    obtain ⟨M4, k1, k2, k3, k4, -, -⟩ := r_take N hn1.1 (b := s) (t := A.term r) hs
    rw [k1, q_zb]
    refine ⟨M4, rfl, ?_, fun a ha => by rw [k3 a (by omega), zsI_n (by omega)], by rw [k3 62 (by decide), zsI_s, pk_us], k4⟩
    rw [uCbU_no (fun v => by
      rw [held_eq (A := A) (A' := aTake s (A.term r) A) rfl rfl]
      cases held A v <;> rfl)]
    exact QM.ag hn1 k2 rfl (fun a ha => k3 a (by omega))
  · rw [if_neg g1, if_neg g1, if_pos (nI_le (by omega) (by omega))]
    by_cases g2 : A.term r < A.term s
    · rw [if_pos g2, if_neg (nI_ge g2 (by omega))]
      obtain ⟨M4, k1, k2, k3, k4, -, -⟩ := r_take N hn1.1 (b := r) (t := A.term s) hr
      rw [k1, q_zb]
      have hm4 : QM (aTake r (A.term s) A) B (zsI M4 64 r 0) := QM.ag hn1 (k2.role0 (show fu A.role r 0 r = 0 from fu_s)) rfl (fun a ha => by rw [zsI_n (by omega)]; exact k3 a (by omega))
      obtain ⟨M5, l1, l2, l3, l4, l5⟩ := m_tell83 N hN hm4 (AOK_take hk t1) hn hb hs hr hsr
      unfold fX8_tell_B74
      rw [if_pos (z5 hr), q_zl, nI_clamp (by omega), l1, aCut_same (A' := aTake r (A.term s) A) (A := A) rfl rfl]
      refine ⟨M5, rfl, ?_, fun a ha => by rw [l3 a ha, zsI_n (by omega), k3 a (by omega), zsI_n (by omega)], by rw [l4, zsI_n (by decide), k3 62 (by decide), zsI_s, pk_us], l5.trans k4⟩
      have e : held (aTake r (A.term s) A) = held A := funext fun v => held_eq rfl rfl v
      rw [e] at l2
      exact l2
    · rw [if_neg g2, if_pos (nI_le (by omega) (by omega))]
      have nr := ES_two he hs hr hsr h2 (by omega)
      have hm4 : QM ((VA.mk A.grp A.V A.term (fu A.role r (if A.role r = 1 then 0 else A.role r)) A.vote A.sup A.len A.vt A.ev A.log)) B (zsI (zsI M 62 30 0) 64 r 0) := QM.ag hn1 (hn1.1.unrole hr2 nr) rfl (fun a ha => by rw [zsI_n (by omega)])
      obtain ⟨M5, l1, l2, l3, l4, l5⟩ := m_tell83 N hN hm4 (AOK_unrole hk) hn hb hs hr hsr
      unfold fX8_tell_B74
      rw [if_pos (z5 hr), q_zl, nI_clamp (by omega), l1, aCut_same (A' := (VA.mk A.grp A.V A.term (fu A.role r (if A.role r = 1 then 0 else A.role r)) A.vote A.sup A.len A.vt A.ev A.log)) (A := A) rfl rfl]
      refine ⟨M5, rfl, ?_, fun a ha => by rw [l3 a ha, zsI_n (by omega), zsI_n (by omega)], by rw [l4, zsI_n (by decide), zsI_s, pk_us], l5⟩
      have e : held ((VA.mk A.grp A.V A.term (fu A.role r (if A.role r = 1 then 0 else A.role r)) A.vote A.sup A.len A.vt A.ev A.log)) = held A := funext fun v => held_eq rfl rfl v
      rw [e] at l2
      exact l2
theorem b_tell (N n : Nat) (hN : 101 ≤ N) (hn : n < 512) {A : VA} {B : VB} {M : zMem} (h : JJ n A B M) (x y : Int32) : Both n (fL_tell N x y) (fX8_tell N x y) M := by
  have no1 : x < 0 ∨ nI 5 ≤ x → ∀ y, Both n (fL_tell N x y) (fX8_tell N x y) M := fun c y => by
    refine Both.no h (r := 1) ?_ ?_ (by decide)
    · unfold fL_tell fX7_tell
      rw [x_pair1 N c, q_zbr, q_zbxr, if_pos (by decide)]
    · unfold fX8_tell
      rw [m_rc1 N c, q_zb, q_zl, zsI_s, pk_us, if_neg (by decide)]
  rcases pk_ix x (n := 5) (by decide) with c | c | ⟨s, hs, rfl⟩
  · exact no1 (Or.inl c) y
  · exact no1 (Or.inr c) y
  have no2 : y < 0 ∨ nI 5 ≤ y → Both n (fL_tell N (nI s) y) (fX8_tell N (nI s) y) M := fun c => by
    refine Both.no h (r := 1) ?_ ?_ (by decide)
    · unfold fL_tell fX7_tell
      rw [x_pair2 N hs c, q_zbr, q_zbxr, if_pos (by decide)]
    · unfold fX8_tell
      rw [m_rc2 N hs c, q_zb, q_zl, zsI_s, pk_us, if_neg (by decide)]
  rcases pk_ix y (n := 5) (by decide) with c | c | ⟨r, hr, rfl⟩
  · exact no2 (Or.inl c)
  · exact no2 (Or.inr c)
  by_cases hsr : s = r
  · subst hsr
    refine Both.no h (r := 2) ?_ ?_ (by decide)
    · unfold fL_tell fX7_tell
      rw [x_pair3 N hs, q_zbr, q_zbxr, if_neg (by decide), if_pos (by decide)]
    · unfold fX8_tell
      rw [m_rc3 N hs, q_zb, q_zl, zsI_s, pk_us, if_neg (by decide)]
  have hV := h.aok.ver
  by_cases g : A.role s = 2 ∧ tog A s r = true
  · obtain ⟨h2, htg⟩ := g
    have he := h.rt.es
    have hk2 := AOK_tell h.aok hs hr
    obtain ⟨M1, f1, f2, f3⟩ := c_tell 1 N (by omega) h.ra h.aok hs hr hsr
    obtain ⟨M2, e1, e2, e3⟩ := c_hist N (k := 4) (a := s) (b := r) hn (h.rt.to (f3.to (by omega))) h.aok (Or.inr (Or.inr (Or.inr (Or.inr ⟨rfl, hs, hr, hsr, h2, rfl⟩))))
    have q1 : zeq 0 29 M1 M2 := fun a _ ha => e3 a (by omega)
    have q2 : zeq 33 90 M1 M2 := fun a ha _ => e3 a (by omega)
    have ra2 : QA 1 (aTell s r A) M2 := f2.to (q1.sub (by omega) (by omega))
    have rx2 : QX A.V B M2 := (h.rx.to (f3.to (by omega))).to (q2.sub (by omega) (by omega))
    have v2 : M2.1 1 7 = nI A.V := by have := ra2.1.ver; rw [aTell_V] at this; exact this
    have hb2 : BOK A.V (n + 1) B := h.bok.up (Nat.le_succ n)
    obtain ⟨M3, g1, g2, g3⟩ := x_cbU N hN (n0 := n + 1) (V := A.V) (by omega) hV (lost := fun v => held A v && !held (aTell s r A) v) (L := (M.2 1 10) &&& ((M2.2 1 10) ^^^ (-1))) (fun v hv => by
      rw [q_lnot _ _ (by omega), h.ra.held hv, ra2.held (by rw [aTell_V]; exact hv)]) A.V N 0 v2 rx2 hb2 (by omega) (by omega)
    rw [nI_0] at g1
    have hm3 : QM A B M3 := h.rm.cong (fun a h1 h2 => by rw [g3.1 a (by omega), (q2 a (by omega) (by omega)).1, (f3 a (by omega)).1])
    obtain ⟨M4, k1, k2, k3, k4, k5⟩ := m_tell N hN (M := zsL M3 87 0 (aTold s r A).toInt64) hm3.out h.aok he (n0 := n + 1) (by omega) hb2 hs hr hsr h2 htg
    refine Both.go (A' := aTell s r A) (B' := uCbU (fun v => held A v && !held (aTell s r A) v) A.V 0 B) (M1 := M3) (v := aTold s r A) hk2 (by rw [aTell_V]; exact hb2.kCbU _ _) ?_ (ra2.to (g3.to (by omega))) (by rw [aTell_V]; exact g2) (e2.to (g3.to (by omega))) ⟨M4, k1, k4, ⟨k3, k5⟩, k2⟩
    unfold fL_tell fX7_tell
    rw [x_pair N hs hr hsr, q_zb, x_lead N h.ra h.aok hs, if_pos h2, q_zb, x_reach N h.ra h.aok hs hr, if_pos htg, q_zb, f1, q_zb, show (4 : Int32) = nI 4 from rfl, e1, q_zb]
    unfold fX7_callBackUnheld
    rw [g1, q_zb, q_zbx, if_pos z1, cl0]
    rfl
  · refine Both.no h (r := 3) ?_ ?_ (by decide)
    · unfold fL_tell fX7_tell
      rw [x_pair N hs hr hsr, q_zb, x_lead N h.ra h.aok hs]
      by_cases g1 : A.role s = 2
      · rw [if_pos g1, q_zb, x_reach N h.ra h.aok hs hr, if_neg (fun q => g ⟨g1, q⟩), q_zbr, q_zbxr, if_neg (by decide), if_neg (by decide), if_pos (by decide)]
      · rw [if_neg g1, q_zbr, q_zbxr, if_neg (by decide), if_neg (by decide), if_pos (by decide)]
    · unfold fX8_tell
      rw [show (2 : Int32) = nI 2 from rfl, m_rc N h.rm.1 h.aok hs hr hsr (by decide), if_neg g, q_zb, q_zl, zsI_s, pk_us, if_neg (by decide)]
