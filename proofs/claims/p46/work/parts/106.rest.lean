/-! pure: copyRest, and sendLog as a whole -/
theorem rest_loop (o N : Nat) {A : VA} (hk : AOK A) {s r : Nat} (hs : s < 5) (hr : r < 5) (hsr : s ≠ r) : ∀ k i n cnt (M : zMem) (h : Nat → Nat) (ev : Nat → Bool), i + k = A.len s → k < n → (∀ j, j < A.len s → M.1 (o + 5 + 1 + s) j = nI (A.log s j)) → M.1 (o + 11) s = nI (A.len s) → M.1 (o + 11) r = nI i → QS o A.V h ev M → (∀ v, v < A.V → h v < 32) → (∀ v, v < A.V → 3 ≤ p5 (h v) → ev v = true) →
    ∃ M' h' ev', fX0_copyRest_B10 o N n (nI s) (nI r) (nI cnt) (nI i) M = some (.inl (nI (cnt + k)), M') ∧ QS o A.V h' ev' M' ∧ (∀ v, v < A.V → h' v < 32) ∧ (∀ v, v < 60 → ev' v = (ev v || (decide (v < A.V) && decide (3 ≤ p5 (h' v))))) ∧ (∀ v, v < A.V → ∀ b, b < 5 → b ≠ r → (h' v).testBit b = (h v).testBit b) ∧ (∀ v, v < A.V → ((h' v).testBit r = true ↔ (h v).testBit r = true ∨ ∃ j, i ≤ j ∧ j < A.len s ∧ A.log s j = v)) ∧ M'.1 (o + 11) r = nI (i + k) ∧ (∀ b, b ≠ r → M'.1 (o + 11) b = M.1 (o + 11) b) ∧ (∀ j, M'.1 (o + 5 + 1 + r) j = if i ≤ j ∧ j < A.len s then nI (A.log s j) else M.1 (o + 5 + 1 + r) j) ∧ (∀ a, a ≠ o + 5 + 1 + r → a ≠ o + 11 → a ≠ o + 13 → M'.1 a = M.1 a) ∧ (∀ a, a ≠ o → M'.2 a = M.2 a) := by
  have l2 := hk.len s hs
  have lv := hk.ver
  intro k
  induction k with
  | zero =>
    intro i n cnt M h ev h1 h2 h3 h4 h4' h5 h6 h7
    obtain ⟨n, rfl⟩ : ∃ q, n = q + 1 := ⟨n - 1, by omega⟩
    rw [fX0_copyRest_B10, if_pos (z5 hs), nI_clamp (by omega), h4, if_pos (nI_le (by omega) (by omega))]
    refine ⟨M, h, ev, rfl, h5, h6, fun v hv => ?_, fun _ _ _ _ _ => rfl, fun v hv => ?_, h4', fun _ _ => rfl, fun j => ?_, fun _ _ _ _ => rfl, fun _ _ => rfl⟩
    · by_cases c : v < A.V
      · by_cases g : 3 ≤ p5 (h v)
        · rw [h7 v c g]; rfl
        · rw [decide_eq_false g]; simp
      · rw [decide_eq_false c]; simp
    · constructor
      · exact fun e => Or.inl e
      · rintro (e | ⟨j, q1, q2, -⟩)
        · exact e
        · omega
    · rw [if_neg (by omega)]
  | succ k ih =>
    intro i n cnt M h ev h1 h2 h3 h4 h4' h5 h6 h7
    obtain ⟨n, rfl⟩ : ∃ q, n = q + 1 := ⟨n - 1, by omega⟩
    have v1 := hk.logv s hs i (by omega)
    have hx := h6 _ v1
    rw [fX0_copyRest_B10, if_pos (z5 hs), nI_clamp (by omega), h4, if_neg (nI_ge (by omega) (by omega)), if_pos (z5 hs), if_pos (z20 (by omega)), nI_clamp (by omega), h3 i (by omega)]
    obtain ⟨M1, e1, e2, e3, e4, e5, e6, e7, e8⟩ := c_app o N (M := M) (b := r) (v := A.log s i) (l := i) hr (by omega) (by omega) hx h4' (h5.hs _ v1)
    rw [e1, q_zb, nI_1, nI_1]
    have hq : QS o A.V (fu h (A.log s i) (h (A.log s i) ||| 2 ^ r)) (fun w => ev w || (decide (w = A.log s i) && decide (3 ≤ p5 (h (A.log s i) ||| 2 ^ r)))) M1 := by
      refine QS.mk (fun v hv => ?_) (fun v hv => ?_) (fun v hv => ?_)
      · rw [e4]
        by_cases c : v = A.log s i
        · rw [c, pk_us, fu_s]
        · rw [pk_un c, fu_n c]; exact h5.hs v hv
      · rw [e7 v (by omega)]
        by_cases c : v = A.log s i
        · rw [if_pos c, c, fu_s]
        · rw [if_neg c, fu_n c]; exact h5.hd v hv
      · rw [e8 v hv, h5.ev v hv]
    obtain ⟨M', h', ev', f1, f2, f3, f4, f5, f6, f7, f8, f9, f10, f11⟩ := ih (i + 1) n (cnt + 1) M1 (fu h (A.log s i) (h (A.log s i) ||| 2 ^ r)) _ (by omega) (by omega) (fun j hj => by rw [e5 _ (by omega) (by omega) (by omega)]; exact h3 j hj) (by rw [e3, pk_un hsr]; exact h4) (by rw [e3, pk_us]) hq (fun v hv => by
        simp only [fu_e]; split
        · exact q_orlt hx hr
        · exact h6 v hv) (fun v hv => by
        simp only [fu_e]; split
        · rename_i c; intro g; rw [c]; simp [g]
        · intro g; rw [h7 v hv g]; rfl)
    have mono : ∀ v, v < A.V → p5 (fu h (A.log s i) (h (A.log s i) ||| 2 ^ r) v) ≤ p5 (h' v) := fun v hv => p5_mono (fun b hb e => by
      by_cases c : b = r
      · subst c; exact (f6 v hv).mpr (Or.inl e)
      · rw [f5 v hv b hb c]; exact e)
    refine ⟨M', h', ev', by rw [f1]; rw [show cnt + 1 + k = cnt + (k + 1) by omega], f2, f3, fun v hv => ?_, fun v hv b hb hbr => ?_, fun v hv => ?_, ?_, fun b hb => ?_, fun j => ?_, fun a g1 g2 g3 => ?_, fun a g1 => ?_⟩
    · rw [f4 v hv]
      by_cases c : v = A.log s i
      · by_cases g : 3 ≤ p5 (h (A.log s i) ||| 2 ^ r)
        · have := mono v (by rw [c]; exact v1)
          rw [c, fu_s] at this
          rw [decide_eq_true c, decide_eq_true g, c, decide_eq_true v1, decide_eq_true (Nat.le_trans g this)]; simp
        · rw [decide_eq_false g]; simp
      · rw [decide_eq_false c]; simp
    · rw [f5 v hv b hb hbr]
      simp only [fu_e]; split
      · rename_i c; rw [q_orb hx hr hb, decide_eq_false hbr, ← c]; simp
      · rfl
    · rw [f6 v hv]
      by_cases c : v = A.log s i
      · rw [c, fu_s, q_orb hx hr hr]
        simp only [decide_true, Bool.or_true, true_or, true_iff]
        exact Or.inr ⟨i, Nat.le_refl _, by omega, rfl⟩
      · rw [fu_n c]
        refine or_congr_right ⟨?_, ?_⟩
        · rintro ⟨j, q1, q2, q3⟩; exact ⟨j, by omega, q2, q3⟩
        · rintro ⟨j, q1, q2, q3⟩
          refine ⟨j, ?_, q2, q3⟩
          by_cases cj : j = i
          · subst cj; exact absurd q3.symm c
          · omega
    · rw [f7, show i + 1 + k = i + (k + 1) by omega]
    · rw [f8 b hb, e3, pk_un hb]
    · rw [f9 j, e2]
      by_cases cj : j = i
      · subst cj; rw [if_neg (by omega), pk_us, if_pos (by omega)]
      · rw [pk_un cj]
        by_cases c2 : i + 1 ≤ j ∧ j < A.len s
        · rw [if_pos c2, if_pos (by omega)]
        · rw [if_neg c2, if_neg (by omega)]
    · rw [f10 a g1 g2 g3, e5 a g1 g2 g3]
    · rw [f11 a g1, e6 a g1]
/-- the new log of r: s's own, or what it was -/
theorem send_row {A : VA} {s r : Nat} : ((aSend1 s r A).len r = A.len s ∧ ∀ j, j < A.len s → (aSend1 s r A).log r j = A.log s j) ∨ ((aSend1 s r A).len r = A.len r ∧ ∀ j, j < A.len r → (aSend1 s r A).log r j = A.log r j) := by
  have h1 := (aDiff_le (A := A) (s := s) (r := r) (min (A.len s) (A.len r)) 0).2
  have h2 := aDiff_eq (A := A) (s := s) (r := r) (min (A.len s) (A.len r)) 0
  simp only [aSend1, VA.mk_len, VA.mk_log, fu_s, if_pos]
  by_cases c : aDiff A s r (min (A.len s) (A.len r)) 0 < min (A.len s) (A.len r)
  · have e : aCut A s r = aDiff A s r (min (A.len s) (A.len r)) 0 := if_pos c
    refine Or.inl ⟨by omega, fun j hj => ?_⟩
    by_cases d : aCut A s r ≤ j
    · rw [if_pos d]
    · rw [if_neg d]; exact (h2 j (Nat.zero_le _) (by omega)).symm
  · have e : aCut A s r = A.len r := if_neg c
    by_cases d : A.len r < A.len s
    · refine Or.inl ⟨by omega, fun j hj => ?_⟩
      by_cases d : aCut A s r ≤ j
      · rw [if_pos d]
      · rw [if_neg d]; exact (h2 j (Nat.zero_le _) (by omega)).symm
    · exact Or.inr ⟨by omega, fun j hj => by rw [if_neg (by omega)]⟩
theorem AOK_send1 {A : VA} (hk : AOK A) {s r : Nat} (hs : s < 5) (hr : r < 5) : (∀ b, b < 5 → (aSend1 s r A).len b ≤ 20) ∧ (∀ b, b < 5 → ∀ i, i < (aSend1 s r A).len b → (aSend1 s r A).log b i < A.V) ∧ (∀ b, b < 5 → ∀ i j, i < (aSend1 s r A).len b → j < (aSend1 s r A).len b → (aSend1 s r A).log b i = (aSend1 s r A).log b j → i = j) := by
  have off : ∀ b, b ≠ r → (aSend1 s r A).len b = A.len b ∧ (aSend1 s r A).log b = A.log b := fun b hb => ⟨by simp only [aSend1, VA.mk_len, fu_n hb], by simp only [aSend1, VA.mk_log, if_neg hb]⟩
  refine ⟨fun b hb => ?_, fun b hb i hi => ?_, fun b hb i j hi hj => ?_⟩
  all_goals by_cases e : b = r
  · subst e
    rcases send_row (A := A) (s := s) (r := b) with ⟨q1, -⟩ | ⟨q1, -⟩
    · rw [q1]; exact hk.len s hs
    · rw [q1]; exact hk.len b hb
  · rw [(off b e).1]; exact hk.len b hb
  · subst e
    rcases send_row (A := A) (s := s) (r := b) with ⟨q1, q2⟩ | ⟨q1, q2⟩
    · rw [q1] at hi; rw [q2 i hi]; exact hk.logv s hs i hi
    · rw [q1] at hi; rw [q2 i hi]; exact hk.logv b hb i hi
  · rw [(off b e).1] at hi; rw [(off b e).2]; exact hk.logv b hb i hi
  · subst e
    rcases send_row (A := A) (s := s) (r := b) with ⟨q1, q2⟩ | ⟨q1, q2⟩
    · rw [q1] at hi hj; rw [q2 i hi, q2 j hj]; exact hk.logi s hs i j hi hj
    · rw [q1] at hi hj; rw [q2 i hi, q2 j hj]; exact hk.logi b hb i j hi hj
  · rw [(off b e).1] at hi hj; rw [(off b e).2]; exact hk.logi b hb i j hi hj
theorem AOK_send {A : VA} (hk : AOK A) {s r : Nat} (hs : s < 5) (hr : r < 5) : AOK (aSend s r A) := by
  obtain ⟨g1, g2, g3⟩ := AOK_send1 hk hs hr
  refine AOK.mk hk.grp hk.term hk.role hk.rt hk.vote hk.sup g1 hk.ver hk.vt g2 g3 ?_ ?_
  · intro v h
    show (A.ev v || held (aSend1 s r A) v) = true
    have : held (aSend1 s r A) v = true := h
    rw [this, Bool.or_true]
  · intro v hv
    show (A.ev v || held (aSend1 s r A) v) = false
    rw [hk.ev0 v hv, Bool.false_or]
    cases h : held (aSend1 s r A) v
    · rfl
    · obtain ⟨b, hb, q⟩ := held_some h
      obtain ⟨i, hi, e⟩ := hasb_iff.mp q
      have := g2 b hb i hi
      have : A.V ≤ v := hv
      omega
theorem c_send (o N : Nat) (hN : 21 ≤ N) {A : VA} {M : zMem} (hA : QA o A M) (hk : AOK A) {s r : Nat} (hs : s < 5) (hr : r < 5) (hsr : s ≠ r) : ∃ M', fX0_sendLog_B74 o N (nI s) (nI r) M = some (.inl (nI (A.len s - aCut A s r)), M') ∧ QA o (aSend s r A) M' ∧ zfr o M M' := by
  have l1 := hk.len s hs
  have l2 := hk.len r hr
  have lv := hk.ver
  have lc := aCut_le (A := A) (s := s) (r := r)
  unfold fX0_sendLog_B74
  rw [c_comm o N hN hA.1 hk hs hr, q_zb]
  unfold fX0_cutAt
  obtain ⟨M1, h1, e1, e2, e3, e4, e5, e6, e7, e8, e9⟩ := cut_loop o N hk hr (ev := A.ev) (cut := aCut A s r) (by omega) (A.len r - aCut A s r) (aCut A s r) N M (hset A) (by omega) (by omega) (hA.1.log r hr) (hA.1.len r hr) hA.2 (fun _ _ => hset_lt) (fun v _ g => hk.evh v (decide_eq_true g))
  rw [e1, q_zb]
  unfold fX0_copyRest
  rw [if_pos (z5 hr), q_zv, nI_clamp (by omega), e7, pk_us]
  have fin : ∀ (M' : zMem) (h' : Nat → Nat) (ev' : Nat → Bool), QS o A.V h' ev' M' → (∀ v, v < A.V → h' v < 32) → (∀ v, v < 60 → ev' v = (A.ev v || (decide (v < A.V) && decide (3 ≤ p5 (h' v))))) → (∀ v, v < A.V → ∀ b, b < 5 → b ≠ r → (h' v).testBit b = (h1 v).testBit b) → (∀ v, v < A.V → ((h' v).testBit r = true ↔ (h1 v).testBit r = true ∨ ∃ j, aCut A s r ≤ j ∧ j < A.len s ∧ A.log s j = v)) →
      M'.1 (o + 11) r = nI (max (aCut A s r) (A.len s)) → (∀ b, b ≠ r → M'.1 (o + 11) b = M.1 (o + 11) b) → (∀ j, M'.1 (o + 5 + 1 + r) j = if aCut A s r ≤ j ∧ j < A.len s then nI (A.log s j) else M.1 (o + 5 + 1 + r) j) → (∀ a, a ≠ o + 5 + 1 + r → a ≠ o + 11 → a ≠ o + 13 → M'.1 a = M.1 a) → (∀ a, a ≠ o → M'.2 a = M.2 a) → QA o (aSend s r A) M' ∧ zfr o M M' := by
    intro M' h' ev' f2 f3 f4 f5 f6 f7 f8 f9 f10 f11
    have hh : ∀ v, v < A.V → hset (aSend s r A) v = h' v := fun v hv => by
      refine q_ext5 hset_lt (f3 v hv) (fun b hb => ?_)
      rw [hset_b b hb]
      by_cases c : b = r
      · subst c
        apply Bool.eq_iff_iff.mpr
        rw [f6 v hv, e6 v hv, hset_b b hb, hasb_iff, hasb_iff]
        have eL : (aSend s b A).len b = max (aCut A s b) (A.len s) := by simp only [aSend, aSend1, VA.mk_len, fu_s]
        have eR : ∀ j, (aSend s b A).log b j = if aCut A s b ≤ j then A.log s j else A.log b j := fun j => by simp only [aSend, aSend1, VA.mk_log, if_pos]
        rw [eL]
        constructor
        · rintro ⟨j, q1, q2⟩
          rw [eR] at q2
          by_cases d : aCut A s b ≤ j
          · rw [if_pos d] at q2; exact Or.inr ⟨j, d, by omega, q2⟩
          · rw [if_neg d] at q2
            refine Or.inl ⟨⟨j, by omega, q2⟩, ?_⟩
            rintro ⟨j2, w1, w2, w3⟩
            have := hk.logi b hb j j2 (by omega) w2 (q2.trans w3.symm)
            omega
        · rintro (⟨⟨j, q1, q2⟩, q3⟩ | ⟨j, q1, q2, q3⟩)
          · have d : ¬ aCut A s b ≤ j := fun d => q3 ⟨j, d, q1, q2⟩
            exact ⟨j, by omega, by rw [eR, if_neg d]; exact q2⟩
          · exact ⟨j, by omega, by rw [eR, if_pos q1]; exact q3⟩
      · rw [f5 v hv b hb c, e5 v hv b hb c, hset_b b hb]
        exact hasb_eq (by simp only [aSend, aSend1, VA.mk_len, fu_n c]) (by simp only [aSend, aSend1, VA.mk_log, if_neg c]) v
    refine ⟨⟨QL.mk ?_ ?_ ?_ ?_ ?_ ?_ ?_ ?_ ?_, QS.mk ?_ ?_ ?_⟩, fun a ha => ⟨f10 a (by omega) (by omega) (by omega), f11 a (by omega)⟩⟩
    · rw [f10 _ (by omega) (by omega) (by omega)]; exact hA.1.grp
    · rw [f10 _ (by omega) (by omega) (by omega)]; exact hA.1.ver
    · rw [f10 _ (by omega) (by omega) (by omega)]; exact hA.1.trm
    · rw [f10 _ (by omega) (by omega) (by omega)]; exact hA.1.rol
    · rw [f10 _ (by omega) (by omega) (by omega)]; exact hA.1.vot
    · rw [f10 _ (by omega) (by omega) (by omega)]; exact hA.1.sup
    · intro c hc
      by_cases e : c = r
      · subst e; rw [f7]; simp only [aSend, aSend1, VA.mk_len, fu_s]
      · rw [f8 c e]; simp only [aSend, aSend1, VA.mk_len, fu_n e]; exact hA.1.len c hc
    · rw [f10 _ (by omega) (by omega) (by omega)]; exact hA.1.vtm
    · intro c hc i hi
      by_cases e : c = r
      · subst e
        simp only [aSend, aSend1, VA.mk_len, fu_s] at hi
        rw [f9]
        simp only [aSend, aSend1, VA.mk_log, if_pos]
        by_cases d : aCut A s c ≤ i
        · rw [if_pos d, if_pos (by omega)]
        · rw [if_neg d, if_neg (by omega)]; exact hA.1.log c hc i (by omega)
      · rw [f10 _ (by omega) (by omega) (by omega)]
        simp only [aSend, aSend1, VA.mk_len, fu_n e] at hi
        simp only [aSend, aSend1, VA.mk_log, if_neg e]
        exact hA.1.log c hc i hi
    · intro v hv; rw [hh v hv]; exact f2.hs v hv
    · intro v hv; rw [hh v hv]; exact f2.hd v hv
    · intro v hv
      rw [f2.ev v hv, f4 v hv]
      show _ = (A.ev v || decide (3 ≤ p5 (hset (aSend s r A) v)))
      by_cases c : v < A.V
      · rw [decide_eq_true c, hh v c, Bool.true_and]
      · have := hset_top (AOK_send hk hs hr) (v := v) (by show A.V ≤ v; omega)
        rw [this, decide_eq_false c, p5_0, Bool.false_and]
        rfl
  by_cases g : aCut A s r ≤ A.len s
  · obtain ⟨M', h', ev', f1, f2, f3, f4, f5, f6, f7, f8, f9, f10, f11⟩ := rest_loop o N hk hs hr hsr (A.len s - aCut A s r) (aCut A s r) N 0 M1 h1 A.ev (by omega) (by omega) (fun j hj => by rw [e8 _ (by omega) (by omega)]; exact hA.1.log s hs j hj) (by rw [e7, pk_un hsr]; exact hA.1.len s hs) (by rw [e7, pk_us]) e2 e3 e4
    rw [nI_0] at f1
    rw [f1, q_zb, Nat.zero_add]
    refine ⟨M', rfl, fin M' h' ev' f2 f3 f4 f5 f6 (by rw [f7]; congr 1; omega) (fun b hb => by rw [f8 b hb, e7, pk_un hb]) (fun j => by rw [f9 j, e8 _ (by omega) (by omega)]) (fun a g1 g2 g3 => by rw [f10 a g1 g2 g3, e8 a g2 g3]) (fun a g1 => by rw [f11 a g1, e9 a g1])⟩
  · obtain ⟨n, rfl⟩ : ∃ q, N = q + 1 := ⟨N - 1, by omega⟩
    rw [fX0_copyRest_B10, if_pos (z5 hs), nI_clamp (by omega), e7, pk_un hsr, hA.1.len s hs, if_pos (nI_le (by omega) (by omega)), q_zb]
    refine ⟨M1, by rw [show A.len s - aCut A s r = 0 by omega]; rfl, fin M1 h1 A.ev e2 e3 (fun v hv => ?_) (fun _ _ _ _ _ => rfl) (fun v hv => ?_) (by rw [e7, pk_us]; congr 1; omega) (fun b hb => by rw [e7, pk_un hb]) (fun j => by rw [if_neg (by omega), e8 _ (by omega) (by omega)]) (fun a g1 g2 g3 => e8 a g2 g3) e9⟩
    · by_cases c : v < A.V
      · by_cases g : 3 ≤ p5 (h1 v)
        · rw [e4 v c g]; rfl
        · rw [decide_eq_false g]; simp
      · rw [decide_eq_false c]; simp
    · constructor
      · exact fun e => Or.inl e
      · rintro (e | ⟨j, q1, q2, -⟩)
        · exact e
        · omega
