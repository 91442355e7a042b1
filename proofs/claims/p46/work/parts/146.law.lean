/-! p46: the law's loop, its end, its start -/
section L46
variable {Ls : Nat} {xs : Nat → Int32} {n : Nat} {A : VA} {B : VB} {M : zMem}
theorem e_1214 (N : Nat) (hN : 101 ≤ N) (hn : n ≤ 512) (h : KK n A B M) {s sum : Nat} (hs : s < 2 ^ 31) (h1 : B.R ≤ sum) (h2 : sum < 2 ^ 31) : ∃ M', fL_law_B1214 Ls xs N (nI s) 1 (nI sum) M = some (.inl 1, M') := by
  have n1 : ¬ (1 : Int32) = 0 := by decide
  unfold fL_law_B1214
  rw [if_neg n1, c_batches N hN h, q_zbl, if_neg n1, v_recalls N h, q_zbl, if_neg (nI_nlt h1 h2), if_neg (nI_pos hs)]
  exact ⟨M, rfl⟩
theorem e_1134 (N : Nat) (hN : 101 ≤ N) (hn : n ≤ 512) (h : KK n A B M) {s : Nat} (hs : s < 2 ^ 31) : ∀ d f j sum, j + d = B.R → d < f → j ≤ sum → sum ≤ 40 * j → ∃ M', fL_law_B1134 Ls xs N f (nI s) 1 (nI sum) (nI j) M = some (.inl 1, M') := by
  have n1 : ¬ (1 : Int32) = 0 := by decide
  have hR := v_R h
  have hBc := h.bok.Bc
  intro d
  induction d with
  | zero =>
    intro f j sum h1 h2 h3 h4
    obtain ⟨f, rfl⟩ : ∃ q, f = q + 1 := ⟨f - 1, by omega⟩
    rw [fL_law_B1134, v_recalls N h, q_zbl, if_pos (nI_le (by omega) (by omega))]
    exact e_1214 N hN hn h hs (by omega) (by omega)
  | succ d ih =>
    intro f j sum h1 h2 h3 h4
    obtain ⟨f, rfl⟩ : ∃ q, f = q + 1 := ⟨f - 1, by omega⟩
    have hj : j < B.R := by omega
    obtain ⟨r1, r2, r3, r4⟩ := h.re.2 j hj
    have h1188 : ∃ M', fL_law_B1188 Ls xs N (fL_law_B1134 Ls xs N f) (nI s) (nI (sum + B.rl j)) (nI j) M = some (.inl 1, M') := by
      unfold fL_law_B1188 fL_law_B1206
      rw [v_recallOf N hn h hj, q_zbl, v_batches N h, q_zbl, if_neg (nI_ge r4 (by omega)), nI_1]
      exact ih f (j + 1) _ (by omega) (by omega) (by omega) (by omega)
    rw [fL_law_B1134, v_recalls N h, q_zbl, if_neg (nI_ge hj (by omega)), if_neg n1, v_calledBack N hn h hj, q_zbl, nI_add, q_zv, v_calledBack N hn h hj, q_zbl, if_neg (nI_nle (by omega) (by omega)), v_why N hn h hj, q_zbl]
    rcases r3 with q | q
    · rw [q, if_pos (by rfl)]
      exact h1188
    · rw [q, if_neg (by decide), v_why N hn h hj, q_zbl, q, if_pos (by rfl)]
      exact h1188
theorem e_1128 (N : Nat) (hN : 600 ≤ N) (hn : n ≤ 512) (h : KK n A B M) {s : Nat} (hs : s < 2 ^ 31) : ∃ M', fL_law_B1128 Ls xs N (nI s) 1 M = some (.inl 1, M') := by
  have hR := v_R h
  unfold fL_law_B1128
  have := e_1134 (Ls := Ls) (xs := xs) N (by omega) hn h hs B.R N 0 0 (by omega) (by omega) (by omega) (by omega)
  rw [nI_0] at this
  exact this
theorem e_1080 (N : Nat) (hN : 600 ≤ N) (hn : n ≤ 512) {s : Nat} (hs : s < 2 ^ 31) : ∀ d f j {M : zMem}, KK n A B M → j + d = 2 → d < f → ∃ M', fL_law_B1080 Ls xs N f (nI s) 1 (nI j) M = some (.inl 1, M') := by
  have n1 : ¬ (1 : Int32) = 0 := by decide
  intro d
  induction d with
  | zero =>
    intro f j M h h1 h2
    obtain ⟨f, rfl⟩ : ∃ q, f = q + 1 := ⟨f - 1, by omega⟩
    rw [fL_law_B1080, v_batches N h, q_zbl]
    split
    · exact e_1128 N hN hn h hs
    · rw [if_pos (show (2 : Int32) ≤ nI j from nI_le (a := 2) (by omega) (by omega))]
      exact e_1128 N hN hn h hs
  | succ d ih =>
    intro f j M h h1 h2
    obtain ⟨f, rfl⟩ : ∃ q, f = q + 1 := ⟨f - 1, by omega⟩
    have hBc := h.bok.Bc
    rw [fL_law_B1080, v_batches N h, q_zbl]
    by_cases g : j < B.Bc
    · obtain ⟨M1, e1, h'⟩ := v_barredAnew N hN hn h g
      rw [if_neg (nI_ge g (by omega)), if_neg (show ¬ (2 : Int32) ≤ nI j from nI_ge (b := 2) (by omega) (by decide)), if_neg n1, v_barred N h g, q_zbl, e1, q_zbl, if_pos rfl]
      unfold fL_law_B1120
      rw [nI_1]
      exact ih f (j + 1) h' (by omega) (by omega)
    · rw [if_pos (nI_le (by omega) (by omega))]
      exact e_1128 N hN hn h hs
theorem e_loop (N : Nat) (hN : 600 ≤ N) (hL : Ls ≤ 260) {t : Nat} (ht : t ≤ 60) : ∀ m f k c s {A : VA} {B : VB} {M : zMem}, k + m = t → m < f → KK c A B M → c ≤ 3 * k → s ≤ k → TB k A → ∃ M', fL_law_B65 Ls xs N f (nI B.L) (nI s) 1 (nI t) (nI k) M = some (.inl 1, M') := by
  have n1 : ¬ (1 : Int32) = 0 := by decide
  intro m
  induction m with
  | zero =>
    intro f k c s A B M h1 h2 h hc hs hT
    obtain ⟨f, rfl⟩ : ∃ q, f = q + 1 := ⟨f - 1, by omega⟩
    rw [fL_law_B65, if_pos (nI_le (by omega) (by omega))]
    unfold fL_law_B1077
    have := e_1080 (Ls := Ls) (xs := xs) (s := s) N hN (by omega) (by omega) 2 N 0 h (by omega) (by omega)
    rw [nI_0] at this
    exact this
  | succ m ih =>
    intro f k c s A B M h1 h2 h hc hs hT
    obtain ⟨f, rfl⟩ : ∃ q, f = q + 1 := ⟨f - 1, by omega⟩
    obtain ⟨v, ev⟩ := v_cell N (Ls := Ls) (k := 1 + k) (xs := xs) (by omega) (by omega) M
    have l1 := lo_lt (v := v >>> (3 &&& 31)) (m := 5) (by decide)
    have l2 := lo_lt (v := v >>> (6 &&& 31)) (m := 4) (by decide)
    have l3 := lo_lt (v := v >>> (20 &&& 31)) (m := 28) (by decide)
    rw [fL_law_B65, if_neg (nI_ge (by omega) (by omega)), if_neg n1, q_1p, ev, q_zbl, v_lw N _ (x := 5) (m := 5) rfl (by decide) (by decide), q_zbl, v_lw N _ (x := 4) (m := 4) rfl (by decide) (by decide), q_zbl, nI_1, nI_add, show (5 : Int32) = nI 5 from rfl, pk_rem (by omega) (by decide) (by decide), q_zv, v_lw N _ (x := 28) (m := 28) rfl (by decide) (by decide), q_zbl]
    obtain ⟨b, hbe⟩ : ∃ b, b = lo (v >>> (3 &&& 31)) 5 := ⟨_, rfl⟩
    obtain ⟨o, hoe⟩ : ∃ o, o = (lo (v >>> (3 &&& 31)) 5 + 1 + lo (v >>> (6 &&& 31)) 4) % 5 := ⟨_, rfl⟩
    rw [← hoe, ← hbe]
    have hb : b < 5 := by omega
    have ho : o < 5 := by omega
    have hbo : b ≠ o := by omega
    have go : Go Ls xs N (fL_law_B65 Ls xs N f) (nI t) c k s b o (fL_law_B127 Ls xs N (fL_law_B65 Ls xs N f) (nI B.L) (nI s) 1 (nI t) (nI k) v (nI b) (nI o) (nI (lo (v >>> (20 &&& 31)) 28)) M) := by
      generalize lo (v >>> (20 &&& 31)) 28 = q at l3
      have gt : ∀ {a : Nat}, a ≤ q → (nI a ≤ nI q) := fun h => nI_le h (by omega)
      have lt : ∀ {a : Nat}, q < a → a < 2 ^ 31 → ¬ (nI a ≤ nI q) := fun h h2 => nI_ge h h2
      unfold fL_law_B127
      by_cases g4 : 4 ≤ q
      · rw [if_pos (show (4 : Int32) ≤ nI q from gt (a := 4) g4)]
        by_cases g12 : 12 ≤ q
        · rw [if_pos (show (12 : Int32) ≤ nI q from gt (a := 12) g12)]
          by_cases g15 : 15 ≤ q
          · rw [if_pos (show (15 : Int32) ≤ nI q from gt (a := 15) g15)]
            by_cases g20 : 20 ≤ q
            · rw [if_pos (show (20 : Int32) ≤ nI q from gt (a := 20) g20)]
              by_cases g21 : 21 ≤ q
              · rw [if_pos (show (21 : Int32) ≤ nI q from gt (a := 21) g21)]
                by_cases g23 : 23 ≤ q
                · rw [if_pos (show (23 : Int32) ≤ nI q from gt (a := 23) g23)]
                  by_cases g25 : 25 ≤ q
                  · rw [if_pos (show (25 : Int32) ≤ nI q from gt (a := 25) g25)]
                    by_cases g26 : 26 ≤ q
                    · rw [if_pos (show (26 : Int32) ≤ nI q from gt (a := 26) g26)]
                      by_cases g27 : 27 ≤ q
                      · rw [if_pos (show (27 : Int32) ≤ nI q from gt (a := 27) g27)]
                        exact g_cond N (by omega) (by omega) h hT
                      · rw [if_neg (show ¬ (27 : Int32) ≤ nI q from lt (a := 27) (by omega) (by decide))]
                        exact g_sell N (by omega) (by omega) h hT
                    · rw [if_neg (show ¬ (26 : Int32) ≤ nI q from lt (a := 26) (by omega) (by decide))]
                      exact g_pass N (by omega) (by omega) h hT
                  · rw [if_neg (show ¬ (25 : Int32) ≤ nI q from lt (a := 25) (by omega) (by decide))]
                    exact g_book N (by omega) (by omega) h hT hb
                · rw [if_neg (show ¬ (23 : Int32) ≤ nI q from lt (a := 23) (by omega) (by decide))]
                  exact g_flour N (by omega) (by omega) h hT hb
              · rw [if_neg (show ¬ (21 : Int32) ≤ nI q from lt (a := 21) (by omega) (by decide))]
                exact g_part N (by omega) h hT hb
            · rw [if_neg (show ¬ (20 : Int32) ≤ nI q from lt (a := 20) (by omega) (by decide))]
              exact g_tell N (by omega) (by omega) h hT hb ho hbo
          · rw [if_neg (show ¬ (15 : Int32) ≤ nI q from lt (a := 15) (by omega) (by decide))]
            exact g_propose N (by omega) h hT hb
        · rw [if_neg (show ¬ (12 : Int32) ≤ nI q from lt (a := 12) (by omega) (by decide))]
          exact g_vote N (by omega) h hT hb ho hbo
      · rw [if_neg (show ¬ (4 : Int32) ≤ nI q from lt (a := 4) (by omega) (by decide))]
        exact g_stand N (by omega) h hT (by omega) hb
    obtain ⟨c', s', A', B', M', h', hc', hs', hT', e⟩ := go
    rw [e, t1019 N (by omega) h' hb ho (by omega)]
    exact ih f (k + 1) c' s' (by omega) (by omega) h' (by omega) (by omega) hT'
end L46
