/-! p46: the start -/
def B0 : VB := VB.mk 0 0 0 0 (fun _ => 0) (fun _ => 0) (fun _ => 0) (fun _ => false) (fun _ => 0) (fun _ => 0) (fun _ _ => 0) (fun _ _ => 0) (fun _ => 0) (fun _ => 0) (fun _ => 0) (fun _ => 0) (fun _ => 0) (fun _ => 0) (fun _ => 0)
theorem nz_zero : ∀ k, nz (fun _ => 0) k = 0 := by
  intro k
  induction k with
  | zero => rfl
  | succ k ih => unfold nz; rw [ih]; rfl
theorem BOK_0 : BOK 0 0 B0 := by
  refine BOK.mk (by decide) (by decide) (by decide) ?_ ?_ ?_ ?_ ?_ ?_ ?_ ?_ ?_ ?_ ?_
  · show 0 + nz (fun _ => 0) 60 ≤ 0
    rw [nz_zero]; exact Nat.le_refl _
  · intro v hv; exact absurd hv (Nat.not_lt_zero _)
  · intro l _; rfl
  · intro b _; exact Nat.zero_le _
  · intro b _ i hi; exact absurd hi (Nat.not_lt_zero _)
  · intro b _ i _; exact Nat.le_refl _
  · intro b _ i _; rfl
  · intro i hi; exact absurd hi (Nat.not_lt_zero _)
  · intro i hi; exact absurd hi (Nat.not_lt_zero _)
  · intro i hi; exact absurd hi (Nat.not_lt_zero _)
  · intro i _; rfl
theorem QA_0 : QA 1 A0 zM0 := by
  refine ⟨QL.mk rfl rfl (fun _ _ => rfl) (fun _ _ => rfl) ?_ (fun b _ q => absurd q (show ¬ (0 : Nat) = 1 by decide)) (fun _ _ => rfl) (fun v hv => absurd hv (Nat.not_lt_zero _)) (fun b _ i hi => absurd hi (Nat.not_lt_zero _)), QS.mk (fun v hv => absurd hv (Nat.not_lt_zero _)) (fun v hv => absurd hv (Nat.not_lt_zero _)) (fun v _ => lbit_0 v)⟩
  intro b hb
  show (if b < 5 then (-1 : Int32) else 0) = nI 0 - 1
  rw [if_pos hb]; decide
theorem QX_0 : QX 0 B0 zM0 := by
  refine QX.mk (fun v hv => absurd hv (Nat.not_lt_zero _)) (fun v hv => absurd hv (Nat.not_lt_zero _)) (fun v hv => absurd hv (Nat.not_lt_zero _)) rfl ⟨0, by decide, rfl, fun l _ => Nat.zero_testBit l⟩ (fun b _ i hi => absurd hi (Nat.not_lt_zero _)) (fun _ _ => rfl) rfl ?_ (fun _ _ => rfl) rfl (fun i hi => absurd hi (Nat.not_lt_zero _)) (fun i hi => absurd hi (Nat.not_lt_zero _)) (fun i hi => absurd hi (Nat.not_lt_zero _)) (fun i hi => absurd hi (Nat.not_lt_zero _)) rfl (fun i hi => absurd hi (Nat.not_lt_zero _)) (fun i hi => absurd hi (Nat.not_lt_zero _)) (fun i hi => absurd hi (Nat.not_lt_zero _))
  refine five ?_ ?_ ?_ ?_ ?_
  all_goals
    intro h _ _
    show (if h % 51 < 51 then (-1 : Int32) else 0) = nI 0 - 1
    rw [if_pos (Nat.mod_lt _ (by decide))]; decide
theorem QT_0 : QT 0 A0 zM0 := ⟨0, fun _ => 0, fun _ => 0, fun _ => 0, fun _ => A0, Nat.le_refl _, rfl, rfl, rfl, fun j hj => absurd hj (Nat.not_lt_zero _)⟩
theorem KK_0 : KK 0 A0 B0 zM0 := ⟨AOK_A0, BOK_0, QA_0, QX_0, QT_0, fun i hi => absurd hi (Nat.not_lt_zero _), fun k hk => absurd hk (Nat.not_lt_zero _)⟩
theorem stp_0 {A : VA} {b : Nat} : ∀ k a, stp A B0 b k a = 0 := by
  intro k
  induction k with
  | zero => intro a; rfl
  | succ k ih => intro a; rw [stp, ih]; rfl
theorem stps_0 {A : VA} : ∀ k b, stps A B0 k b = 0 := by
  intro k
  induction k with
  | zero => intro b; rfl
  | succ k ih => intro b; rw [stps, ih, stp_0]
theorem hpure : ∀ (L : Nat) (xs : Nat → Int32), L ≤ 260 → ∃ M', fL_law_B8 L xs 4000 zM0 = some (.inl 1, M') := by
  intro L xs hL
  have n1 : ¬ (1 : Int32) = 0 := by decide
  have h := KK_0
  obtain ⟨v, ev⟩ := v_cell 4000 (Ls := L) (k := 0) (xs := xs) (by omega) (by decide) zM0
  rw [nI_0] at ev
  have l1 := lo_lt (v := v) (m := 55) (by decide)
  unfold fL_law_B8 fL_law_B45
  rw [c_roles 4000 (by decide) h, q_zbl, if_neg n1, c_batches 4000 (by decide) h, q_zbl, if_neg n1, v_recalls 4000 h, q_zbl, if_pos (by rfl), v_stopped 4000 (by decide) h, q_zbl, stps_0, if_pos (by rfl), ev, q_zbl, v_lw 4000 v (x := 55) (m := 55) rfl (by decide) (by decide), q_zbl, show (6 : Int32) = nI 6 from rfl, nI_add, q_zv]
  have := e_loop (Ls := L) (xs := xs) 4000 (by decide) hL (t := 6 + lo v 55) (by omega) (6 + lo v 55) 61 0 0 0 (Nat.zero_add _) (by omega) h (Nat.zero_le _) (Nat.zero_le _) (fun b _ => Nat.zero_le _)
  exact this
