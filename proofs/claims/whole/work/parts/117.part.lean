/-! pure: part -/
theorem part_loop (N : Nat) {s : Nat} (hs : s < 32) (M : zMem) : ∀ k n i c, i + k = 5 → k < n → fX8_part_B37 N n (nI s) (nI c) (nI i) M = some (.inl (nI (c + sb s k i) * (5 - nI (c + sb s k i))), M) := by
  intro k
  induction k with
  | zero =>
    intro n i c h1 h2
    obtain ⟨n, rfl⟩ : ∃ q, n = q + 1 := ⟨n - 1, by omega⟩
    rw [fX8_part_B37, if_pos (show (5 : Int32) ≤ nI i from nI_le (a := 5) (by omega) (by omega))]
    rfl
  | succ k ih =>
    intro n i c h1 h2
    obtain ⟨n, rfl⟩ : ∃ q, n = q + 1 := ⟨n - 1, by omega⟩
    rw [fX8_part_B37, if_neg (show ¬ (5 : Int32) ≤ nI i from nI_ge (b := 5) (by omega) (by decide)), q_bit (by omega) (by omega), nI_add, q_zv, nI_1, ih n (i + 1) _ (by omega) (by omega), sb, Nat.add_assoc]
theorem b_part (N n : Nat) (hN : 6 ≤ N) (hn : n < 512) {A : VA} {B : VB} {M : zMem} (h : JJ n A B M) (x : Int32) : Both n (fL_part N x) (fX8_part N x) M := by
  have no : x < 0 ∨ nI 32 ≤ x → Both n (fL_part N x) (fX8_part N x) M := fun c => by
    have m := m_inn N (K := 32) (by decide) c M
    have e31 : (nI 32 - 1 : Int32) = 31 := by decide
    rw [e31] at m
    refine Both.no h (r := 1) ?_ ?_ (by decide)
    · have e : fX7_part N x M = some (.inr 2, M) := by
        unfold fX7_part
        by_cases d : x < 0
        · rw [if_pos d]
        · rw [if_neg d, if_neg]
          intro q
          rcases c with c | c
          · exact d c
          · have e1 := Int32.lt_iff_toInt_lt.mp q
            have e2 := Int32.le_iff_toInt_le.mp c
            have e3 : (nI 32).toInt = (32 : Int32).toInt := rfl
            omega
      unfold fL_part
      rw [e, q_zbxr, if_pos (by decide)]
    · unfold fX8_part fX8_part_B16
      rw [m, q_zb, if_pos rfl, q_zl, zsI_s, pk_us, if_neg (by decide)]
  rcases pk_ix x (n := 32) (by decide) with c | c | ⟨g, hg, rfl⟩
  · exact no (Or.inl c)
  · exact no (Or.inr c)
  · obtain ⟨c1, c2⟩ := c_part 1 h.ra (g := g)
    obtain ⟨M1, e1, e2, e3⟩ := c_hist N (b := 0) hn (M := zsI M 1 0 (nI g)) (h.rt.to (c2.to (by omega))) h.aok (Or.inl ⟨rfl, hg, rfl⟩)
    rw [nI_0] at e1
    have q1 : zeq 0 29 (zsI M 1 0 (nI g)) M1 := fun a _ ha => e3 a (by omega)
    have q2 : zeq 33 90 (zsI M 1 0 (nI g)) M1 := fun a ha _ => e3 a (by omega)
    have k5 := p5_le g
    refine ⟨aPart g A, B, zsL M1 87 0 (nI (p5 g) * (5 - nI (p5 g))).toInt64, zsI (zsI (zsL M1 87 0 (nI (p5 g) * (5 - nI (p5 g))).toInt64) 62 30 0) 62 0 (nI g), 0, nI (p5 g) * (5 - nI (p5 g)), ?_, ?_, ?_, ?_, ?_⟩
    · unfold fL_part fX7_part
      rw [if_neg (nI_pos (by omega)), if_pos (show nI g < 32 from nI_lt (b := 32) hg (by decide)), q_zl, e1, q_zb, q_count N hg, q_zb, q_zbx, if_pos z1, cl0, q_zl]
    · unfold fX8_part fX8_part_B16
      have m := m_in N (K := 32) (by decide) hg (zsL M1 87 0 (nI (p5 g) * (5 - nI (p5 g))).toInt64)
      have e31 : (nI 32 - 1 : Int32) = 31 := by decide
      rw [e31] at m
      rw [m, q_zb, if_neg (by decide), q_zl, zsI_s, pk_us, if_pos (by decide), q_zl]
      have := part_loop N hg (zsI (zsI (zsL M1 87 0 (nI (p5 g) * (5 - nI (p5 g))).toInt64) 62 30 0) 62 0 (nI g)) 5 N 0 0 (by omega) (by omega)
      rw [sb_5, Nat.zero_add, nI_0] at this
      exact this
    · rw [zsI_s, pk_un (by decide), zsI_s, pk_us]
    · intro _; rw [zsI_2, zsI_2, zsL_s, pk_uLs]
    · refine JJ.join (M1 := M1) (AOK_part h.aok hg) (h.bok.up (Nat.le_succ n)) (c1.to (q1.sub (by omega) (by omega))) ((h.rx.to (c2.to (by omega))).to (q2.sub (by omega) (by omega))) e2 (fun a _ ha => ⟨by rw [zsI_n (by omega), zsI_n (by omega), zsL_1], by rw [zsI_2, zsI_2, zsL_n (by omega)]⟩) ?_
      have hm : ∀ a, 62 ≤ a → a < 87 → M1.1 a = M.1 a := fun a h1 h2 => by rw [(q2 a (by omega) (by omega)).1, zsI_n (by omega)]
      refine ⟨QR.mk ?_ ?_ ?_ ?_ ?_ ?_ ?_ ?_ ?_ ?_, ?_⟩
      · rw [zsI_s, pk_us]; rfl
      · rw [zsI_s, pk_un (by decide), zsI_s, pk_un (by decide), zsL_1, hm 62 (by omega) (by omega)]; exact h.rm.1.ver
      · rw [zsI_n (by omega), zsI_n (by omega), zsL_1, hm _ (by omega) (by omega)]; exact h.rm.1.trm
      · rw [zsI_n (by omega), zsI_n (by omega), zsL_1, hm _ (by omega) (by omega)]; exact h.rm.1.rol
      · rw [zsI_n (by omega), zsI_n (by omega), zsL_1, hm _ (by omega) (by omega)]; exact h.rm.1.vot
      · rw [zsI_n (by omega), zsI_n (by omega), zsL_1, hm _ (by omega) (by omega)]; exact h.rm.1.sup
      · rw [zsI_n (by omega), zsI_n (by omega), zsL_1, hm _ (by omega) (by omega)]; exact h.rm.1.log
      · rw [zsI_n (by omega), zsI_n (by omega), zsL_1, hm _ (by omega) (by omega)]; exact h.rm.1.len
      · rw [zsI_n (by omega), zsI_n (by omega), zsL_1, hm _ (by omega) (by omega)]; exact h.rm.1.vtm
      · rw [zsI_n (by omega), zsI_n (by omega), zsL_1, hm _ (by omega) (by omega)]; exact h.rm.1.ev
      · refine h.rm.2.to ?_ ?_ ?_ ?_ (fun a h1 h2 _ _ => by rw [zsI_n (by omega), zsI_n (by omega), zsL_1, hm _ (by omega) (by omega)])
        all_goals rw [zsI_s, pk_un (by decide), zsI_s, pk_un (by decide), zsL_1, hm 62 (by omega) (by omega)]
