/-! pure: what the Agreement's methods do to the abstract state -/
def zfr (o : Nat) (M M' : zMem) : Prop := ∀ a, (a < o ∨ o + 14 ≤ a) → M'.1 a = M.1 a ∧ M'.2 a = M.2 a
theorem zfr.refl {o : Nat} {M : zMem} : zfr o M M := fun _ _ => ⟨rfl, rfl⟩
theorem zfr.trans {o : Nat} {M M1 M2 : zMem} (h : zfr o M M1) (g : zfr o M1 M2) : zfr o M M2 := fun a h1 => ⟨(g a h1).1.trans (h a h1).1, (g a h1).2.trans (h a h1).2⟩
theorem zfr.sI {o k j : Nat} {x : Int32} {M M' : zMem} (h : zfr o M M') (hk : o ≤ k ∧ k < o + 14) : zfr o M (zsI M' k j x) := fun a ha => ⟨by rw [zsI_n (by omega)]; exact (h a ha).1, (h a ha).2⟩
theorem zfr.sL {o k j : Nat} {x : Int64} {M M' : zMem} (h : zfr o M M') (hk : o ≤ k ∧ k < o + 14) : zfr o M (zsL M' k j x) := fun a ha => ⟨(h a ha).1, by rw [zsL_n (by omega)]; exact (h a ha).2⟩
theorem zfr.to {o lo hi : Nat} {M M' : zMem} (h : zfr o M M') (hk : hi ≤ o ∨ o + 14 ≤ lo) : zeq lo hi M M' := fun a h1 h2 => h a (by omega)
/-- only cells apart from the holder sets and the marks are written -/
theorem QS.off {o V : Nat} {h : Nat → Nat} {ev : Nat → Bool} {M M' : zMem} (r : QS o V h ev M) (e1 : M'.1 (o + 13) = M.1 (o + 13)) (e2 : M'.2 o = M.2 o) : QS o V h ev M' :=
  QS.mk (by rw [e1]; exact r.hs) (by rw [e2]; exact r.hd) (by rw [e2]; exact r.ev)
theorem QS.same {o V : Nat} {h h' : Nat → Nat} {ev : Nat → Bool} {M : zMem} (r : QS o V h ev M) (e : ∀ v, v < V → h' v = h v) : QS o V h' ev M :=
  QS.mk (fun v hv => by rw [e v hv]; exact r.hs v hv) (fun v hv => by rw [e v hv]; exact r.hd v hv) r.ev
theorem hasb_eq {A A' : VA} {b : Nat} (h1 : A'.len b = A.len b) (h2 : A'.log b = A.log b) (v : Nat) : hasb A' b v = hasb A b v := by
  unfold hasb; rw [h1, h2]
theorem hset_eq {A A' : VA} (h1 : ∀ b, b < 5 → A'.len b = A.len b) (h2 : ∀ b, b < 5 → A'.log b = A.log b) (v : Nat) : hset A' v = hset A v := by
  unfold hset
  rw [hasb_eq (h1 0 (by decide)) (h2 0 (by decide)), hasb_eq (h1 1 (by decide)) (h2 1 (by decide)), hasb_eq (h1 2 (by decide)) (h2 2 (by decide)), hasb_eq (h1 3 (by decide)) (h2 3 (by decide)), hasb_eq (h1 4 (by decide)) (h2 4 (by decide))]
theorem q_pred {n : Nat} (h : 1 ≤ n) : nI n - 1 = nI (n - 1) := by
  obtain ⟨m, rfl⟩ : ∃ m, n = m + 1 := ⟨n - 1, by omega⟩
  exact nI_pred m
theorem z5 {b : Nat} (h : b < 5) : zin (nI b) 5 = true := zin_nI h (by decide)
theorem z60 {b : Nat} (h : b < 60) : zin (nI b) 60 = true := zin_nI h (by decide)
theorem z20 {b : Nat} (h : b < 20) : zin (nI b) 20 = true := zin_nI h (by decide)
theorem c_take (o N : Nat) {A : VA} {M : zMem} (hA : QA o A M) {b t : Nat} (hb : b < 5) : ∃ M', fX0_takeTerm o N (nI b) (nI t) M = some (.inl 0, M') ∧ QA o (aTake b t A) M' ∧ zfr o M M' := by
  unfold fX0_takeTerm
  simp only [z5 hb, if_true, q_zl]
  rw [nI_clamp (by omega)]
  refine ⟨_, rfl, ⟨QL.mk ?_ ?_ ?_ ?_ ?_ ?_ ?_ ?_ ?_, ?_⟩, ((zfr.refl.sI (by omega)).sI (by omega)).sI (by omega)⟩
  · simp (disch := omega) only [zsI_n]; exact hA.1.grp
  · simp (disch := omega) only [zsI_n]; exact hA.1.ver
  · intro c hc
    by_cases e : c = b
    · subst e; simp (disch := omega) only [zsI_n, zsI_s, pk_us, aTake, VA.mk_term, fu_s]
    · simp (disch := omega) only [zsI_n, zsI_s, pk_un, aTake, VA.mk_term, fu_n]; exact hA.1.trm c hc
  · intro c hc
    by_cases e : c = b
    · subst e; simp (disch := omega) only [zsI_n, zsI_s, pk_us, aTake, VA.mk_role, fu_s, nI_0]
    · simp (disch := omega) only [zsI_n, zsI_s, pk_un, aTake, VA.mk_role, fu_n]; exact hA.1.rol c hc
  · intro c hc
    by_cases e : c = b
    · subst e; simp (disch := omega) only [zsI_n, zsI_s, pk_us, aTake, VA.mk_vote, fu_s, nI_0]; rfl
    · simp (disch := omega) only [zsI_n, zsI_s, pk_un, aTake, VA.mk_vote, fu_n]; exact hA.1.vot c hc
  · intro c hc h1
    by_cases e : c = b
    · subst e; simp only [aTake, VA.mk_role, fu_s] at h1; omega
    · simp only [aTake, VA.mk_role, fu_n e] at h1
      simp (disch := omega) only [zsI_n]; exact hA.1.sup c hc h1
  · simp (disch := omega) only [zsI_n]; exact hA.1.len
  · simp (disch := omega) only [zsI_n]; exact hA.1.vtm
  · intro c hc i hi
    simp (disch := omega) only [zsI_n]; exact hA.1.log c hc i hi
  · refine QS.off (hA.2.same (h' := hset (aTake b t A)) (fun v _ => hset_eq (fun _ _ => rfl) (fun _ _ => rfl) v)) ?_ rfl
    simp (disch := omega) only [zsI_n]
theorem c_cand (o N : Nat) {A : VA} {M : zMem} (hA : QA o A M) {b : Nat} (hb : b < 5) : ∃ M', fX0_becomeCandidate o N (nI b) M = some (.inl 0, M') ∧ QA o (aStand b A) M' ∧ zfr o M M' := by
  unfold fX0_becomeCandidate
  simp only [z5 hb, if_true, q_zl]
  rw [nI_clamp (by omega), hA.1.trm b hb, nI_1, q_shl (by omega)]
  refine ⟨_, rfl, ⟨QL.mk ?_ ?_ ?_ ?_ ?_ ?_ ?_ ?_ ?_, ?_⟩, (((zfr.refl.sI (by omega)).sI (by omega)).sI (by omega)).sI (by omega)⟩
  · simp (disch := omega) only [zsI_n]; exact hA.1.grp
  · simp (disch := omega) only [zsI_n]; exact hA.1.ver
  · intro c hc
    by_cases e : c = b
    · subst e; simp (disch := omega) only [zsI_n, zsI_s, pk_us, aStand, VA.mk_term, fu_s]
    · simp (disch := omega) only [zsI_n, zsI_s, pk_un, aStand, VA.mk_term, fu_n]; exact hA.1.trm c hc
  · intro c hc
    by_cases e : c = b
    · subst e; simp (disch := omega) only [zsI_n, zsI_s, pk_us, aStand, VA.mk_role, fu_s]; rfl
    · simp (disch := omega) only [zsI_n, zsI_s, pk_un, aStand, VA.mk_role, fu_n]; exact hA.1.rol c hc
  · intro c hc
    by_cases e : c = b
    · subst e; simp (disch := omega) only [zsI_n, zsI_s, pk_us, aStand, VA.mk_vote, fu_s]; exact (nI_pred c).symm
    · simp (disch := omega) only [zsI_n, zsI_s, pk_un, aStand, VA.mk_vote, fu_n]; exact hA.1.vot c hc
  · intro c hc h1
    by_cases e : c = b
    · subst e; simp (disch := omega) only [zsI_n, zsI_s, pk_us, aStand, VA.mk_sup, fu_s]
    · simp only [aStand, VA.mk_role, fu_n e] at h1
      simp (disch := omega) only [zsI_n, zsI_s, pk_un, aStand, VA.mk_sup, fu_n]; exact hA.1.sup c hc h1
  · simp (disch := omega) only [zsI_n]; exact hA.1.len
  · simp (disch := omega) only [zsI_n]; exact hA.1.vtm
  · intro c hc i hi
    simp (disch := omega) only [zsI_n]; exact hA.1.log c hc i hi
  · refine QS.off (hA.2.same (h' := hset (aStand b A)) (fun v _ => hset_eq (fun _ _ => rfl) (fun _ _ => rfl) v)) ?_ rfl
    simp (disch := omega) only [zsI_n]
theorem c_last (o N : Nat) {A : VA} {M : zMem} (hA : QA o A M) (hk : AOK A) {b : Nat} (hb : b < 5) : fX0_lastTerm o N (nI b) M = some (.inl (nI (aLast A b)), M) := by
  have hl := hk.len b hb
  have hv := hk.ver
  unfold fX0_lastTerm
  simp only [z5 hb, if_true]
  rw [nI_clamp (by omega), hA.1.len b hb]
  by_cases h0 : A.len b = 0
  · rw [h0, nI_0, if_pos rfl, aLast, if_pos h0, nI_0]
  · have h1 := hk.logv b hb (A.len b - 1) (by omega)
    rw [if_neg (nI_ne0 (by omega) (by omega)), q_pred (by omega : 1 ≤ A.len b), if_pos (z20 (by omega)), nI_clamp (by omega), hA.1.log b hb _ (by omega), if_pos (z60 (by omega)), nI_clamp (by omega), hA.1.vtm _ h1, aLast, if_neg h0]
theorem aLast_le {A : VA} (hk : AOK A) {b : Nat} (hb : b < 5) : aLast A b ≤ 100 := by
  unfold aLast
  by_cases h0 : A.len b = 0
  · rw [if_pos h0]; omega
  · rw [if_neg h0]; exact (hk.vt _ (hk.logv b hb _ (by omega))).2
theorem c_better (o N : Nat) {A : VA} {M : zMem} (hA : QA o A M) (hk : AOK A) {v c : Nat} (hv : v < 5) (hc : c < 5) : fX0_hasBetterLog o N (nI v) (nI c) M = some (.inl (nI (aBetter A v c).toNat), M) := by
  have h1 := aLast_le hk hv
  have h2 := aLast_le hk hc
  have h3 := hk.len v hv
  have h4 := hk.len c hc
  unfold fX0_hasBetterLog fX0_hasBetterLog_B40
  rw [c_last o N hA hk hv, q_zb, c_last o N hA hk hc, q_zb]
  simp only [z5 hv, z5 hc, if_true]
  rw [nI_clamp (by omega), nI_clamp (by omega), hA.1.len v hv, hA.1.len c hc]
  by_cases g1 : aLast A c < aLast A v
  · rw [if_pos (nI_lt g1 (by omega)), aBetter, decide_eq_true (Or.inl g1)]; rfl
  · rw [if_neg (nI_nlt (by omega) (by omega))]
    by_cases g2 : aLast A v = aLast A c
    · rw [if_pos (by rw [g2])]
      by_cases g3 : A.len c < A.len v
      · rw [if_neg (nI_ge g3 (by omega)), aBetter, decide_eq_true (Or.inr ⟨g2, g3⟩)]; rfl
      · rw [if_pos (nI_le (by omega) (by omega)), aBetter, decide_eq_false (by omega)]; rfl
    · rw [if_neg (fun q => g2 ((nI_eq (by omega) (by omega)).mp q)), aBetter, decide_eq_false (by omega)]; rfl
