/-! p46: the law's checks hold; the calls that catch -/
section C46
variable {n : Nat} {A : VA} {B : VB} {M : zMem}
theorem c_rolesI (N : Nat) (h : KK n A B M) {k : Nat} (hk : k < 5) {again : Int32 → Int32 → zMem → zRES} : ∀ d f j, j + d = k → d < f → fL_roles_B41 N again f 1 (nI k) (nI (A.role k)) (nI j) M = again 1 (nI (k + 1)) M := by
  have r2 := h.aok.role k hk
  have es := h.rt.es
  intro d
  induction d with
  | zero =>
    intro f j h1 h2
    obtain ⟨f, rfl⟩ : ∃ q, f = q + 1 := ⟨f - 1, by omega⟩
    rw [fL_roles_B41, if_pos (nI_le (by omega) (by omega))]
    unfold fL_roles_B92
    rw [nI_1]
  | succ d ih =>
    intro f j h1 h2
    obtain ⟨f, rfl⟩ : ∃ q, f = q + 1 := ⟨f - 1, by omega⟩
    have hj : j < 5 := by omega
    have q2 := h.aok.role j hj
    have go : fL_roles_B80 N again (fL_roles_B41 N again f) (nI k) (nI (A.role k)) (nI j) M = again 1 (nI (k + 1)) M := by
      unfold fL_roles_B80 fL_roles_B85
      rw [nI_1]
      exact ih f (j + 1) (by omega) (by omega)
    rw [fL_roles_B41, if_neg (nI_ge (by omega) (by omega)), if_neg (by decide)]
    by_cases g1 : A.role k = 2
    · rw [if_pos (by rw [g1]; rfl), v_role N h hj, q_zb]
      by_cases g2 : A.role j = 2
      · have t1 := h.aok.term j hj
        have t2 := h.aok.term k hk
        have ne : ¬ nI (A.term j) = nI (A.term k) := fun q => ES_two es hk hj (by omega) g1 ((nI_eq (by omega) (by omega)).mp q).symm g2
        rw [if_pos (by rw [g2]; rfl), v_term N h hj, q_zb, v_term N h hk, q_zb, if_neg ne]
        exact go
      · rw [if_neg (q_ne (y := 2) (b := 2) rfl (by omega) (by decide) g2)]
        exact go
    · rw [if_neg (q_ne (y := 2) (b := 2) rfl (by omega) (by decide) g1)]
      exact go
theorem c_rolesO (N : Nat) (hN : 6 ≤ N) (h : KK n A B M) : ∀ d f k, k + d = 5 → d < f → fL_roles_B4 N f 1 (nI k) M = some (.inl 1, M) := by
  have ax := h.rt.ax
  intro d
  induction d with
  | zero =>
    intro f k h1 h2
    obtain ⟨f, rfl⟩ : ∃ q, f = q + 1 := ⟨f - 1, by omega⟩
    rw [fL_roles_B4, if_pos (show (5 : Int32) ≤ nI k from nI_le (a := 5) (by omega) (by omega)), if_pos (by decide)]
  | succ d ih =>
    intro f k h1 h2
    obtain ⟨f, rfl⟩ : ∃ q, f = q + 1 := ⟨f - 1, by omega⟩
    have hk : k < 5 := by omega
    have r2 := h.aok.role k hk
    have go : fL_roles_B32 N (fL_roles_B4 N f) (nI k) (nI (A.role k)) M = some (.inl 1, M) := by
      unfold fL_roles_B32 fL_roles_B37
      have := c_rolesI N h hk (again := fL_roles_B4 N f) k N 0 (by omega) (by omega)
      rw [nI_0] at this
      rw [this]
      exact ih f (k + 1) (by omega) (by omega)
    rw [fL_roles_B4, if_neg (show ¬ (5 : Int32) ≤ nI k from nI_ge (b := 5) hk (by decide)), if_neg (by decide), v_role N h hk, q_zb]
    by_cases g : A.role k = 0
    · rw [if_pos (by rw [g]; rfl)]
      exact go
    · rw [if_neg (nI_ne0 (by omega) (by omega)), v_voted N h hk, q_zb, ax.1 k hk g, nI_pred, if_pos rfl]
      exact go
theorem c_roles (N : Nat) (hN : 6 ≤ N) (h : KK n A B M) : fL_roles N M = some (.inl 1, M) := by
  unfold fL_roles
  have := c_rolesO N hN h 5 N 0 (by omega) (by omega)
  rw [nI_0] at this
  exact this
theorem c_logsL (N : Nat) (hN : 6 ≤ N) (h : KK n A B M) {b : Nat} (hb : b < 5) : ∀ d f i, i + d = A.len b → d < f → fL_logs_B11 N f (nI b) 1 (nI (A.len b)) (nI i) M = some (.inl 1, M) := by
  have ax := h.rt.ax
  have hl := h.aok.len b hb
  have hV := h.aok.ver
  have htb := h.aok.term b hb
  intro d
  induction d with
  | zero =>
    intro f i h1 h2
    obtain ⟨f, rfl⟩ : ∃ q, f = q + 1 := ⟨f - 1, by omega⟩
    rw [fL_logs_B11, if_pos (nI_le (by omega) (by omega)), if_pos (by decide)]
  | succ d ih =>
    intro f i h1 h2
    obtain ⟨f, rfl⟩ : ∃ q, f = q + 1 := ⟨f - 1, by omega⟩
    have hi : i < A.len b := by omega
    have hv := h.aok.logv b hb i hi
    have ht := h.aok.vt _ hv
    have hs := hset_lt (A := A) (v := A.log b i)
    have bit : (hset A (A.log b i)).testBit b = true := by rw [hset_b b hb, hasb_iff]; exact ⟨i, hi, rfl⟩
    have end1 : ∀ M0 : zMem, M0 = M → fL_logs_B145 N (fL_logs_B11 N f) (nI b) (nI (A.len b)) (nI i) 1 M0 = some (.inl 1, M0) := fun M0 e => by
      subst e
      unfold fL_logs_B145
      rw [nI_1]
      exact ih f (i + 1) (by omega) (by omega)
    have h119 : ∀ x : Int32, nI (held A (A.log b i)).toNat = x → fL_logs_B119 N (fL_logs_B11 N f) (nI b) (nI (A.len b)) (nI i) (nI (A.log b i)) (nI (held A (A.log b i)).toNat) x M = some (.inl 1, M) := fun x e => by
      unfold fL_logs_B119 fL_logs_B140
      rw [if_pos e, v_isHeld N h hv, q_zb]
      cases g : held A (A.log b i)
      · rw [if_pos (by rfl)]
        exact end1 M rfl
      · rw [if_neg (by decide), v_wasHeld N h hv, q_zb, h.aok.evh _ g, if_neg (by decide)]
        exact end1 M rfl
    have h90 : fL_logs_B90 N (fL_logs_B11 N f) (nI b) (nI (A.len b)) (nI i) (nI (A.log b i)) 1 M = some (.inl 1, M) := by
      have hp := p5_le (hset A (A.log b i))
      unfold fL_logs_B90
      rw [if_neg (by decide), v_isHeld N h hv, q_zb, v_holders N h hv, q_zb, v_bits N hN hs, q_zb]
      by_cases g : p5 (hset A (A.log b i)) ≤ 2
      · rw [if_pos (show nI (p5 (hset A (A.log b i))) ≤ 2 from nI_le (b := 2) g (by decide))]
        refine h119 0 ?_
        unfold held
        rw [decide_eq_false (by omega)]
        rfl
      · rw [if_neg (show ¬ nI (p5 (hset A (A.log b i))) ≤ 2 from nI_ge (a := 2) (by omega) (by omega))]
        refine h119 1 ?_
        unfold held
        rw [decide_eq_true (by omega)]
        rfl
    have h71 : fL_logs_B71 N (fL_logs_B11 N f) (nI b) (nI (A.len b)) (nI i) (nI (A.log b i)) M = some (.inl 1, M) := by
      have := ax.2.1 b hb i hi
      unfold fL_logs_B71
      rw [v_termOf N h hv, q_zb, v_term N h hb, q_zb, if_neg (nI_nlt (by omega) (by omega))]
      exact h90
    rw [fL_logs_B11, if_neg (nI_ge (by omega) (by omega)), if_neg (by decide), v_versionAt N h hb hi, q_zb, v_holders N h hv, q_zb, q_bit (by omega) (by omega), bit, if_pos (by rfl)]
    by_cases g : i = 0
    · rw [if_pos (by rw [g]; rfl)]
      exact h71
    · have hv2 := h.aok.logv b hb (i - 1) (by omega)
      have ht2 := h.aok.vt _ hv2
      have mo := ax.2.2 b hb (i - 1) (by omega)
      rw [Nat.sub_add_cancel (by omega)] at mo
      rw [if_neg (nI_ne0 (by omega) (by omega)), q_pred (by omega), v_versionAt N h hb (by omega), q_zb, v_termOf N h hv2, q_zb, v_termOf N h hv, q_zb, if_neg (nI_nlt (by omega) (by omega))]
      exact h71
theorem c_logs (N : Nat) (hN : 101 ≤ N) (h : KK n A B M) {b : Nat} (hb : b < 5) : fL_logs N (nI b) M = some (.inl 1, M) := by
  have hl := h.aok.len b hb
  unfold fL_logs
  have := c_logsL N (by omega) h hb (A.len b) N 0 (by omega) (by omega)
  rw [nI_0] at this
  rw [v_entries N h hb, q_zb, this]
theorem bar_and1 {i : Nat} : nI (bar A B i) &&& 1 = if held A (B.bver i) = true then 0 else 1 := by
  unfold bar
  split <;> split <;> decide
theorem c_batL (N : Nat) (hN : 101 ≤ N) (h : KK n A B M) : ∀ d f i s, i + d = B.Bc → d < f → fL_batches_B12 N f (nI s) (nI B.Bc) 1 (nI i) M = fL_batches_B114 N (nI (s + ons A B d i)) 1 M := by
  have hBc := h.bok.Bc
  intro d
  induction d with
  | zero =>
    intro f i s h1 h2
    obtain ⟨f, rfl⟩ : ∃ q, f = q + 1 := ⟨f - 1, by omega⟩
    rw [fL_batches_B12, if_pos (nI_le (by omega) (by omega))]
    rfl
  | succ d ih =>
    intro f i s h1 h2
    obtain ⟨f, rfl⟩ : ∃ q, f = q + 1 := ⟨f - 1, by omega⟩
    have hi : i < B.Bc := by omega
    have hv := h.bok.bver i hi
    have hl := h.bok.left i hi
    have h4 := bar_lt (A := A) (B := B) (i := i)
    have b1 := h.re.1 i hi
    have b2 := h.bok.blot i hi
    have h89 : fL_batches_B89 N (fL_batches_B12 N f) (nI s) (nI B.Bc) (nI i) (nI (bar A B i)) 1 M = fL_batches_B114 N (nI (s + ons A B (d + 1) i)) 1 M := by
      unfold fL_batches_B89 fL_batches_B106
      rw [ons]
      by_cases g : bar A B i = 0
      · rw [g, if_pos (by rfl), v_left N h hi, q_zb, nI_add, q_zv, nI_1, ih f (i + 1) _ (by omega) (by omega), if_pos rfl, Nat.add_assoc]
      · rw [if_neg (nI_ne0 (by omega) (by omega)), ← nI_0, nI_add, q_zv, nI_1, ih f (i + 1) _ (by omega) (by omega), if_neg g, Nat.add_zero, Nat.zero_add]
    have h52 : ∀ x : Int32, nI (bar A B i) &&& 1 = x → fL_batches_B52 N (fL_batches_B12 N f) (nI s) (nI B.Bc) (nI i) (nI (bar A B i)) (nI (bar A B i) &&& 1) x M = fL_batches_B114 N (nI (s + ons A B (d + 1) i)) 1 M := fun x e => by
      unfold fL_batches_B52
      rw [if_pos e, v_left N h hi, q_zb, if_neg (nI_pos (by omega)), v_left N h hi, q_zb, if_neg (show ¬ (40 : Int32) < nI (B.left i) from nI_nlt (a := 40) (by omega) (by decide)), v_lotsOf N h hi, q_zb, if_neg (nI_nle (by omega) (by omega))]
      exact h89
    rw [fL_batches_B12, if_neg (nI_ge (by omega) (by omega)), if_neg (by decide), v_barred N h hi, q_zb, v_versionOf N h hi, q_zb, v_isHeld N h hv, q_zb]
    cases g : held A (B.bver i)
    · rw [if_pos (by rfl)]
      exact h52 1 (by rw [bar_and1, g, if_neg (by decide)])
    · rw [if_neg (by decide)]
      exact h52 0 (by rw [bar_and1, g, if_pos rfl])
theorem c_batches (N : Nat) (hN : 101 ≤ N) (h : KK n A B M) : fL_batches N M = some (.inl 1, M) := by
  have hBc := h.bok.Bc
  unfold fL_batches
  have := c_batL N hN h B.Bc N 0 0 (by omega) (by omega)
  rw [nI_0, Nat.zero_add] at this
  rw [v_batches N h, q_zb, this]
  unfold fL_batches_B114
  rw [if_neg (by decide), v_onSale N hN h, q_zb, if_pos rfl]
/-- behind each turn -/
theorem t1019 {Ls : Nat} {xs : Nat → Int32} (N : Nat) (hN : 101 ≤ N) (h : KK n A B M) {again : Int32 → Int32 → Int32 → Int32 → Int32 → zMem → zRES} {v2 v3 v5 : Int32} {k b o : Nat} (hb : b < 5) (ho : o < 5) (hk : k < 2 ^ 30) : fL_law_B1019 Ls xs N again v2 v3 1 v5 (nI k) (nI b) (nI o) M = again v2 v3 1 v5 (nI (k + 1)) M := by
  unfold fL_law_B1019 fL_law_B1064 fL_law_B1069
  have n1 : ¬ (1 : Int32) = 0 := by decide
  rw [if_neg n1, c_roles N (by omega) h, q_zbl, if_neg n1, c_logs N hN h hb, q_zbl, if_neg n1, c_logs N hN h ho, q_zbl, if_neg n1, nI_1]
  split
  · rfl
  · rw [c_batches N hN h, q_zbl, if_neg n1]
/-! the calls that catch -/
theorem znx3 : znx 3 = 3 := rfl
theorem w_vote (N : Nat) (hn : n < 512) (h : KK n A B M) {v c : Nat} (hv : v < 5) (hc : c < 5) (hvc : v ≠ c) : (∃ M', fL_vote N (nI v) (nI c) M = some (.inl (nI (aVote v c A).1.toNat), M') ∧ A.role c = 1 ∧ KK (n + 1) (aVote v c A).2 B M') ∨ fL_vote N (nI v) (nI c) M = some (.inl 0, M) := by
  unfold fL_vote
  by_cases g : A.role c = 1 ∧ tog A v c = true
  · obtain ⟨M', e1, e2⟩ := v_vote N hn h hv hc hvc g.1 g.2
    exact Or.inl ⟨M', by rw [e1, q_zbx, if_pos (bool_nI _)], g.1, e2⟩
  · exact Or.inr (by rw [v_voteN N h hv hc hvc g, q_zbxr, if_pos znx3])
theorem w_propose (N : Nat) (hn : n < 512) (h : KK n A B M) {b q bg lv : Nat} (hb : b < 5) (hq : q < 6) (g1 : 1 ≤ bg) (g2 : bg ≤ 9) (g3 : 1 ≤ lv) (g4 : lv ≤ 40) : (∃ M', fL_propose N (nI b) (nI q) (nI bg) (nI lv) M = some (.inl (nI A.V), M') ∧ KK (n + 1) (aProp b A) (uProp A.V q bg lv B) M') ∨ fL_propose N (nI b) (nI q) (nI bg) (nI lv) M = some (.inl (-3), M) := by
  unfold fL_propose
  by_cases g : A.role b = 2 ∧ A.len b < 20 ∧ A.V < 60
  · obtain ⟨M', e1, e2⟩ := v_propose N hn h hb hq g1 g2 g3 g4 g.1 g.2.1 g.2.2
    exact Or.inl ⟨M', by rw [e1, q_zbx], e2⟩
  · exact Or.inr (by rw [v_proposeN N h hb hq g1 g2 g3 g4 g, q_zbxr, if_pos znx3])
theorem w_tell (N : Nat) (hN : 101 ≤ N) (hn : n < 512) (h : KK n A B M) {s r : Nat} (hs : s < 5) (hr : r < 5) (hsr : s ≠ r) (g : A.role s = 2 ∧ tog A s r = true) : ∃ M', fL_tell N (nI s) (nI r) M = some (.inl (aTold s r A), M') ∧ KK (n + 1) (aTell s r A) (uCbU (fun v => held A v && !held (aTell s r A) v) A.V 0 B) M' := by
  unfold fL_tell
  obtain ⟨M', e1, e2⟩ := v_tell N hN hn h hs hr hsr g.1 g.2
  exact ⟨M', by rw [e1, q_zbx], e2⟩
theorem w_tellN (N : Nat) (h : KK n A B M) {s r : Nat} (hs : s < 5) (hr : r < 5) (hsr : s ≠ r) (g : ¬ (A.role s = 2 ∧ tog A s r = true)) : fL_tell N (nI s) (nI r) M = some (.inl (-3), M) := by
  unfold fL_tell
  rw [v_tellN N h hs hr hsr g, q_zbxr, if_pos znx3]
theorem w_deliver (N : Nat) (hN : 101 ≤ N) (h : KK n A B M) {b l t : Nat} (hb : b < 5) (hl : l < B.L) (t1 : 1 ≤ t) (t2 : t ≤ 50) : (∃ M', fL_deliver N (nI b) (nI l) (nI t) M = some (.inl (nI (B.cnt b + t)), M') ∧ KK (n + 1) A (uDel b l t B) M' ∧ B.cnt b + t ≤ 200) ∨ fL_deliver N (nI b) (nI l) (nI t) M = some (.inl (-3), M) := by
  unfold fL_deliver
  by_cases g : B.cond l = false ∧ B.cnt b + t ≤ 200
  · obtain ⟨M', e1, e2⟩ := v_deliver N hN h hb hl t1 t2 g.1 g.2
    exact Or.inl ⟨M', by rw [e1, q_zbx], e2, g.2⟩
  · exact Or.inr (by rw [v_deliverN N h hb hl t1 t2 g, q_zbxr, if_pos znx3])
theorem w_book (N : Nat) (hN : 101 ≤ N) (h : KK n A B M) {b q t : Nat} (hb : b < 5) (hq : q < 6) (t1 : B.T ≤ t) (t2 : t ≤ B.T + 50) : (∃ M', fL_book N (nI b) (nI t) (nI q) M = some (.inl (nI (cur A B.rcp b q (A.len b)) - 1), M') ∧ KK (n + 1) A (uSl b t (cur A B.rcp b q (A.len b)) B) M' ∧ cur A B.rcp b q (A.len b) ≠ 0) ∨ fL_book N (nI b) (nI t) (nI q) M = some (.inl (-3), M) := by
  unfold fL_book
  by_cases g : B.sl b t = 0 ∧ cur A B.rcp b q (A.len b) ≠ 0
  · obtain ⟨M', e1, e2⟩ := v_book N hN h hb hq t1 t2 g.1 g.2
    exact Or.inl ⟨M', by rw [e1, q_zbx], e2, g.2⟩
  · exact Or.inr (by rw [v_bookN N hN h hb hq t1 t2 g, q_zbxr, if_pos znx3])
theorem w_sell (N : Nat) (hN : 101 ≤ N) (h : KK n A B M) {i t : Nat} (hi : i < B.Bc) (t1 : 1 ≤ t) (t2 : t ≤ 40) : (∃ M', fL_sell N (nI i) (nI t) M = some (.inl (nI (B.left i - t)), M') ∧ KK (n + 1) A (uSell i t B) M' ∧ bar A B i = 0 ∧ t ≤ B.left i) ∨ fL_sell N (nI i) (nI t) M = some (.inl (-3), M) := by
  unfold fL_sell
  by_cases g : bar A B i = 0 ∧ t ≤ B.left i
  · obtain ⟨M', e1, e2⟩ := v_sell N hN h hi t1 t2 g.1 g.2
    exact Or.inl ⟨M', by rw [e1, q_zbx], e2, g.1, g.2⟩
  · exact Or.inr (by rw [v_sellN N hN h hi t1 t2 g, q_zbxr, if_pos znx3])
/-- condemned, by this call or before: then it is, and a second call refuses -/
theorem w_condemn (N : Nat) (hN : 300 ≤ N) (hn : n < 512) (h : KK n A B M) {l : Nat} (hl : l < B.L) : ∃ (M' : zMem) (B' : VB) (x : Int32), fL_condemn N (nI l) M = some (.inl x, M') ∧ ¬ x < -3 ∧ KK (n + 1) A B' M' ∧ B'.L = B.L ∧ B'.cond l = true := by
  unfold fL_condemn
  cases g : B.cond l
  · obtain ⟨M', B', s, e1, e2, e3, e4, e5⟩ := v_condemn N hN hn h hl g
    refine ⟨M', B', nI s, by rw [e1, q_zbx], fun q => ?_, e2, e3, e4⟩
    have k1 := Int32.lt_iff_toInt_lt.mp q
    rw [nI_toInt e5] at k1
    have k2 : (-3 : Int32).toInt = -3 := by decide
    omega
  · exact ⟨M, B, -3, by rw [v_condemnN N h hl g, q_zbxr, if_pos znx3], by decide, h.up (Nat.le_succ n), rfl, g⟩
theorem w_condemnN (N : Nat) (h : KK n A B M) {l : Nat} (hl : l < B.L) (g : B.cond l = true) : fL_condemn N (nI l) M = some (.inl (-3), M) := by
  unfold fL_condemn
  rw [v_condemnN N h hl g, q_zbxr, if_pos znx3]
end C46
