/-! p46: the class's state as a whole; the calls that only ask -/
def RX46 (B : VB) : Prop := (∀ i, i < B.Bc → 1 ≤ B.blot i) ∧ ∀ k, k < B.R → 1 ≤ B.rl k ∧ B.rl k ≤ 40 ∧ (B.rr k = 1 ∨ B.rr k = 2) ∧ B.rb k < B.Bc
def KK (n : Nat) (A : VA) (B : VB) (M : zMem) : Prop := AOK A ∧ BOK A.V n B ∧ QA 1 A M ∧ QX A.V B M ∧ QT n A M ∧ RX46 B
theorem KK.aok {n : Nat} {A : VA} {B : VB} {M : zMem} (h : KK n A B M) : AOK A := h.1
theorem KK.bok {n : Nat} {A : VA} {B : VB} {M : zMem} (h : KK n A B M) : BOK A.V n B := h.2.1
theorem KK.ra {n : Nat} {A : VA} {B : VB} {M : zMem} (h : KK n A B M) : QA 1 A M := h.2.2.1
theorem KK.rx {n : Nat} {A : VA} {B : VB} {M : zMem} (h : KK n A B M) : QX A.V B M := h.2.2.2.1
theorem KK.rt {n : Nat} {A : VA} {B : VB} {M : zMem} (h : KK n A B M) : QT n A M := h.2.2.2.2.1
theorem KK.re {n : Nat} {A : VA} {B : VB} {M : zMem} (h : KK n A B M) : RX46 B := h.2.2.2.2.2
theorem KK.up {n n' : Nat} {A : VA} {B : VB} {M : zMem} (h : KK n A B M) (q : n ≤ n') : KK n' A B M := ⟨h.aok, h.bok.up q, h.ra, h.rx, h.rt.up q, h.re⟩
section G46
variable {n : Nat} {A : VA} {B : VB} {M : zMem}
theorem v_role (N : Nat) (h : KK n A B M) {b : Nat} (hb : b < 5) : fX7_role N (nI b) M = some (.inl (nI (A.role b)), M) := by
  unfold fX7_role
  rw [x_bak N hb, q_zb, if_pos (z5 hb), nI_clamp (by omega), h.ra.1.rol b hb]
theorem v_term (N : Nat) (h : KK n A B M) {b : Nat} (hb : b < 5) : fX7_term N (nI b) M = some (.inl (nI (A.term b)), M) := by
  unfold fX7_term
  rw [x_bak N hb, q_zb, if_pos (z5 hb), nI_clamp (by omega), h.ra.1.trm b hb]
theorem v_voted (N : Nat) (h : KK n A B M) {b : Nat} (hb : b < 5) : fX7_votedFor N (nI b) M = some (.inl (nI (A.vote b) - 1), M) := by
  unfold fX7_votedFor
  rw [x_bak N hb, q_zb, if_pos (z5 hb), nI_clamp (by omega), h.ra.1.vot b hb]
theorem v_entries (N : Nat) (h : KK n A B M) {b : Nat} (hb : b < 5) : fX7_entries N (nI b) M = some (.inl (nI (A.len b)), M) := by
  unfold fX7_entries
  rw [x_bak N hb, q_zb, if_pos (z5 hb), nI_clamp (by omega), h.ra.1.len b hb]
theorem v_store (N : Nat) (h : KK n A B M) {b : Nat} (hb : b < 5) : fX7_store N (nI b) M = some (.inl (nI (B.cnt b)), M) := by
  unfold fX7_store
  rw [x_bak N hb, q_zb, if_pos (z5 hb), nI_clamp (by omega), h.rx.cnt b hb]
theorem v_versions (N : Nat) (h : KK n A B M) : fX7_versions N M = some (.inl (nI A.V), M) := by
  unfold fX7_versions
  rw [h.ra.1.ver]
theorem v_time (N : Nat) (h : KK n A B M) : fX7_time N M = some (.inl (nI B.T), M) := by
  unfold fX7_time
  rw [h.rx.T]
theorem v_batches (N : Nat) (h : KK n A B M) : fX7_batches N M = some (.inl (nI B.Bc), M) := by
  unfold fX7_batches
  rw [h.rx.Bc]
theorem v_recalls (N : Nat) (h : KK n A B M) : fX7_recalls N M = some (.inl (nI B.R), M) := by
  unfold fX7_recalls
  rw [h.rx.R]
theorem v_versionAt (N : Nat) (h : KK n A B M) {b i : Nat} (hb : b < 5) (hi : i < A.len b) : fX7_versionAt N (nI b) (nI i) M = some (.inl (nI (A.log b i)), M) := by
  have hl := h.aok.len b hb
  unfold fX7_versionAt
  rw [x_bak N hb, q_zb, if_neg (nI_pos (by omega)), if_pos (z5 hb), nI_clamp (by omega), h.ra.1.len b hb, if_pos (nI_lt hi (by omega)), if_pos (z5 hb), if_pos (z20 (by omega)), nI_clamp (by omega), show M.1 (6 + 1 + b) i = nI (A.log b i) from h.ra.1.log b hb i hi]
theorem v_termOf (N : Nat) (h : KK n A B M) {v : Nat} (hv : v < A.V) : fX7_termOf N (nI v) M = some (.inl (nI (A.vt v)), M) := by
  have hV := h.aok.ver
  unfold fX7_termOf
  rw [x_Version' N h.ra.1.ver (by omega) hv, q_zb, if_pos (z60 (by omega)), nI_clamp (by omega), h.ra.1.vtm v hv]
theorem v_holders (N : Nat) (h : KK n A B M) {v : Nat} (hv : v < A.V) : fX7_holders N (nI v) M = some (.inl (nI (hset A v)), M) := by
  have hV := h.aok.ver
  unfold fX7_holders
  rw [x_Version' N h.ra.1.ver (by omega) hv, q_zb, if_pos (z60 (by omega)), nI_clamp (by omega), h.ra.2.hs v hv]
theorem v_isHeld (N : Nat) (h : KK n A B M) {v : Nat} (hv : v < A.V) : fX7_isHeld N (nI v) M = some (.inl (nI (held A v).toNat), M) := by
  have hV := h.aok.ver
  unfold fX7_isHeld
  rw [x_Version' N h.ra.1.ver (by omega) hv, q_zb, q_has N _ (by omega), q_zb, if_pos (bool_nI _), h.ra.2.hd v hv]
  rfl
theorem v_wasHeld (N : Nat) (h : KK n A B M) {v : Nat} (hv : v < A.V) : fX7_wasHeld N (nI v) M = some (.inl (nI (A.ev v).toNat), M) := by
  have hV := h.aok.ver
  unfold fX7_wasHeld
  rw [x_Version' N h.ra.1.ver (by omega) hv, q_zb, q_has N _ (by omega), q_zb, if_pos (bool_nI _), h.ra.2.ev v (by omega)]
theorem v_current (N : Nat) (hN : 101 ≤ N) (h : KK n A B M) {b q : Nat} (hb : b < 5) (hq : q < 6) : fX7_current N (nI b) (nI q) M = some (.inl (nI (cur A B.rcp b q (A.len b)) - 1), M) := by
  unfold fX7_current
  rw [x_bak N hb, q_zb, x_rec N hq, q_zb, x_cur N hN h.ra h.rx h.aok h.bok.r6 hb hq, q_zb]
theorem v_versionOf (N : Nat) (h : KK n A B M) {i : Nat} (hi : i < B.Bc) : fX7_versionOf N (nI i) M = some (.inl (nI (B.bver i)), M) := by
  have hK := h.bok.Bc
  unfold fX7_versionOf
  rw [x_Batch' N h.rx.Bc (by omega) hi, q_zb, if_pos (z60 (by omega)), nI_clamp (by omega), h.rx.bver i hi]
theorem v_lotsOf (N : Nat) (h : KK n A B M) {i : Nat} (hi : i < B.Bc) : fX7_lotsOf N (nI i) M = some (.inl (nI (B.blot i)), M) := by
  have hK := h.bok.Bc
  unfold fX7_lotsOf
  rw [x_Batch' N h.rx.Bc (by omega) hi, q_zb, if_pos (z60 (by omega)), nI_clamp (by omega), h.rx.blot i hi]
theorem v_left (N : Nat) (h : KK n A B M) {i : Nat} (hi : i < B.Bc) : fX7_left N (nI i) M = some (.inl (nI (B.left i)), M) := by
  have hK := h.bok.Bc
  unfold fX7_left
  rw [x_Batch' N h.rx.Bc (by omega) hi, q_zb, if_pos (z60 (by omega)), nI_clamp (by omega), h.rx.left i hi]
theorem v_barred (N : Nat) (h : KK n A B M) {i : Nat} (hi : i < B.Bc) : fX7_barred N (nI i) M = some (.inl (nI (bar A B i)), M) := by
  have hK := h.bok.Bc
  unfold fX7_barred
  rw [x_Batch' N h.rx.Bc (by omega) hi, q_zb, x_bar 1 N h.ra h.rx h.aok h.bok hi, q_zb]
theorem v_R (h : KK n A B M) : B.R ≤ n := Nat.le_trans (Nat.le_add_right _ _) h.bok.R
theorem v_recallOf (N : Nat) (hn : n ≤ 512) (h : KK n A B M) {k : Nat} (hk : k < B.R) : fX7_recallOf N (nI k) M = some (.inl (nI (B.rb k)), M) := by
  have hR := v_R h
  have z : zin (nI k) 512 = true := zin_nI (by omega) (by decide)
  unfold fX7_recallOf
  rw [x_Recall' N h.rx.R (by omega) hk, q_zb, if_pos z, nI_clamp (by omega), h.rx.rb k hk]
theorem v_calledBack (N : Nat) (hn : n ≤ 512) (h : KK n A B M) {k : Nat} (hk : k < B.R) : fX7_calledBack N (nI k) M = some (.inl (nI (B.rl k)), M) := by
  have hR := v_R h
  have z : zin (nI k) 512 = true := zin_nI (by omega) (by decide)
  unfold fX7_calledBack
  rw [x_Recall' N h.rx.R (by omega) hk, q_zb, if_pos z, nI_clamp (by omega), h.rx.rl k hk]
theorem v_why (N : Nat) (hn : n ≤ 512) (h : KK n A B M) {k : Nat} (hk : k < B.R) : fX7_why N (nI k) M = some (.inl (nI (B.rr k)), M) := by
  have hR := v_R h
  have z : zin (nI k) 512 = true := zin_nI (by omega) (by decide)
  unfold fX7_why
  rw [x_Recall' N h.rx.R (by omega) hk, q_zb, if_pos z, nI_clamp (by omega), h.rx.rr k hk]
theorem v_onSale (N : Nat) (hN : 101 ≤ N) (h : KK n A B M) : fX7_onSale N M = some (.inl (nI (ons A B B.Bc 0)), M) := by
  have hK := h.bok.Bc
  have := x_ons_loop N h.ra h.rx h.aok h.bok B.Bc N 0 0 (by omega) (by omega)
  rw [Nat.zero_add, nI_0] at this
  exact this
theorem v_stopped (N : Nat) (hN : 101 ≤ N) (h : KK n A B M) : fX7_stopped N M = some (.inl (nI (stps A B 5 0)), M) := by
  have := x_stps_loop N hN h.ra h.rx h.aok h.bok 5 N 0 0 (by omega) (by omega)
  rw [Nat.zero_add, nI_0] at this
  exact this
theorem v_booked (N : Nat) (h : KK n A B M) {b t : Nat} (hb : b < 5) (t1 : B.T ≤ t) (t2 : t ≤ B.T + 50) : fX7_booked N (nI b) (nI t) M = some (.inl (nI (B.sl b t) - 1), M) := by
  have hT := h.bok.T
  unfold fX7_booked
  rw [x_bak N hb, q_zb, x_hourk N h.rx.T hT t1 t2, q_zb, x_slot N h.rx hb t1 t2 hT, q_zb]
theorem v_reach (N : Nat) (h : KK n A B M) {a b : Nat} (ha : a < 5) (hb : b < 5) : fX7_reach N (nI a) (nI b) M = some (.inl (nI (tog A a b).toNat), M) := by
  unfold fX7_reach
  rw [x_bak N ha, q_zb, x_bak N hb, q_zb, x_tog 1 N h.ra h.aok ha hb, q_zb, if_pos (bool_nI _)]
  rfl
theorem v_traced (N : Nat) (hN : 101 ≤ N) (h : KK n A B M) {l : Nat} (hl : l < B.L) : fX7_traced N (nI l) M = some (.inl (nI (trc B l B.Bc 0)), M) := by
  have hBc := h.bok.Bc
  have hL := h.bok.L
  unfold fX7_traced
  have := x_trc_loop N h.rx h.bok (l := l) (by omega) B.Bc N 0 0 (by omega) (by omega)
  rw [Nat.zero_add, nI_0] at this
  rw [x_Lot' N h.rx.L (by omega) hl, q_zb, this]
theorem v_tracedAt (N : Nat) (hN : 101 ≤ N) (h : KK n A B M) {l p : Nat} (hl : l < B.L) (hp : p < 2 ^ 31) : fX7_tracedAt N (nI l) (nI p) M = traX M (tra B l B.Bc 0 p) := by
  have hBc := h.bok.Bc
  have hL := h.bok.L
  unfold fX7_tracedAt
  have := x_tra_loop N h.rx h.bok (l := l) (by omega) hp B.Bc N 0 0 (by omega) (by omega) (by omega) (by omega)
  rw [nI_0, Nat.sub_zero] at this
  rw [x_Lot' N h.rx.L (by omega) hl, q_zb, this]
end G46
/-- what the law draws of a number -/
def lo (v : Int32) (m : Nat) : Nat := v.toBitVec.toNat % 2 ^ 31 % m
theorem lo_lt {v : Int32} {m : Nat} (h : 0 < m) : lo v m < m := Nat.mod_lt _ h
theorem v_low (N : Nat) (v : Int32) {m : Nat} (h0 : 0 < m) (hm : m < 2 ^ 31) (M : zMem) : fL_low N v (nI m) M = some (.inl (nI (lo v m)), M) := by
  unfold fL_low
  rw [if_neg (nI_ne0 h0 hm), pk_and v (m := 2147483647) 31 (by decide), pk_rem (Nat.mod_lt _ (by decide)) h0 hm]
  rfl
theorem v_cell (N : Nat) {Ls k : Nat} {xs : Nat → Int32} (hL : Ls < 2 ^ 31) (hk : k < 2 ^ 31) (M : zMem) : ∃ v, fL_cell Ls xs N (nI k) M = some (.inl v, M) := by
  unfold fL_cell
  by_cases g : nI Ls ≤ nI k
  · rw [if_pos g]; exact ⟨_, rfl⟩
  · rw [if_neg g, if_pos (zin_nI (Nat.lt_of_not_le (fun q => g (nI_le q hk))) hL)]; exact ⟨_, rfl⟩
