theorem nwL_10 : Cond.classLink RL 10 RX7 ∈ zTs ∧ Cond.instantiable RX7 8 ∈ zTs ∧ Cond.initialized RX7 ∈ zTs := ⟨zTs_at 49 (by decide +kernel) rfl, zTs_at 50 (by decide +kernel) rfl, zTs_at 32 (by decide +kernel) rfl⟩
theorem lkIL91 : zLI RL 91 yX7_init cX7_init 1 := ⟨zTs_at 51 (by decide +kernel) rfl, zTs_at 52 (by decide +kernel) rfl, zTs_at 32 (by decide +kernel) rfl, zTs_at 53 (by decide +kernel) rfl, ⟨rfl, by decide +kernel, by decide +kernel, by decide +kernel⟩, by decide⟩
theorem aoW : Cond.arrayOver (.array .int) ∈ lw_tbl := List.mem_of_getElem? (i := 64) (by decide +kernel)
theorem lsW1 : Cond.laysStatic Bundle.tN "UNASSIGNED_STACK" Bundle.steD ∈ lw_tbl := List.mem_of_getElem? (i := 310) (by decide +kernel)
theorem lsW2 : Cond.laysStatic Bundle.tN "SUPPRESSED_SENTINEL" Bundle.listD ∈ lw_tbl := List.mem_of_getElem? (i := 312) (by decide +kernel)
theorem thW : Cond.initialized Bundle.tN ∈ lw_tbl := List.mem_of_getElem? (i := 41) (by decide +kernel)
section ZK
variable {l : Launch} {Z : zZ} {lv : Nat → Bool} {ad adC : Nat → Nat} {X : zX} {cs : Nat × Nat} {own : String} {cc : ByteArray} {nL : Nat} {ret : Option FieldType} {d : Nat} {pc : Nat} {L L' : List (Nat × Value)} {S : List Value} {ws ws' : va_W} {Q : State → Prop}
theorem zl_room {b a q : Nat} (hW0 : zLaw X b) (h : a ≤ 600104 ∧ q ≤ 7301314) : ∀ X' : zX, X' = X → match X' with | (_, _, R, _, _, _, _, _, _, _, _, _) => a ≤ R.cells ∧ q ≤ R.slots := by
  obtain ⟨p, e, R, s, m, args, below, meth, c, A, nL', Qf⟩ := X
  rintro _ rfl
  obtain ⟨-, rfl, -⟩ := hW0
  exact h
theorem zQ.sub {A B : Nat → Prop} {s : State} {H : Heap} (h : zQ A s H) (hAB : ∀ q, B q → A q) : zQ B s H := ⟨h.1.narrow hAB, h.2.narrow hAB⟩
/-- from the making to the law's loop -/
theorem zl_run (hC : zC l Z zno adC X own cc nL ret d) {b0 : Nat} (hW0 : zLaw X b0) (hlv : ∀ k, k < 62 → lv k = true) {o' : zRES} {r : zR1} (ho : o' = some r) (hr : ∃ v, r.1 = .inl v) {n : Nat} (hB : zB n cs)
    (kk : zC l Z zfull ad X own cc nL ret d → zG l Z zfull ad X cs pc L S zM0 o') (hQ0 : ∀ X' : zX, X' = X → match X' with | (_, _, _, s, _, _, below, _, _, _, _, _) => Q = lw_Z below #[Value.ref b0] s) : zH l Z X [] lv ad cs pc L S Q := by
  obtain ⟨p, e, R, s, m, args, below, meth, c, A, nL', Qf⟩ := X
  obtain ⟨hx0, hb1, ⟨rfl, hml⟩, hown, hSS, hst, hlk, hret, hroom, hA, hAd, hQ⟩ := id hC
  obtain ⟨h1, rfl, rfl, rfl⟩ := id hW0
  have hQ9 := hQ0 _ rfl
  dsimp only at hQ9
  subst hQ9
  intro H locs ls hW hS hL
  have hz : ∀ k, zfull k = true → k < 62 := fun k hk => of_decide_eq_true hk
  have K := kk ⟨hx0, hb1, ⟨rfl, hml⟩, hown, hSS, hst, hlk, hret, hroom, hA, fun k hk => (hW.2.2.2 k (hlv k (hz k hk))).1, hQ⟩
  obtain ⟨v, hv⟩ := hr
  exact K r ho ⟨fun x hx => (by rw [hv] at hx; cases hx), by have := hB.1; show cs.1 ≤ 600104; omega, by have := hB.2; show cs.2 ≤ 7301314; omega⟩ H locs ls ⟨fun k hk => hW.2.2.1.1 k (hlv k (hz k hk)), fun i j hi hj => hW.2.2.1.2 i j (hlv i (hz i hi)) (hlv j (hz j hj))⟩ hS hL
end ZK

set_option maxRecDepth 100000 in
set_option maxHeartbeats 4000000 in
/-- THE LAW, from its entry: what is left to show is of numbers alone -/
theorem whole_start_open (hpure : ∀ (L : Nat) (xs : Nat → Int32), L ≤ 260 → ∃ M', fL_law_B8 L xs 4000 zM0 = some (.inl 1, M')) {p : Program} {e : Env} {s : State} {m : MethodId} {below : List Frame} {meth : Method} {c : Code} (l : Launch) (hflags : l.flags = flags0) {b L : Nat} {xs : Nat → Int32} (hL : L ≤ 260) (C0 : lw_At p s m meth c b L xs) : W p l e room_1 s m #[Value.ref b] below meth c s.heap [] 0 0 (lw_Z below #[Value.ref b] s) (entryFrame m ([Value.ref b] : List Value).toArray 14) := by
  obtain ⟨hx, hb, hr, hml, hown, hts, hX, hbl, hlocks, hgv⟩ := id C0
  have hst : l.stackTraces = false := by unfold Launch.stackTraces; rw [hflags]; decide +kernel
  have hs := flat_of_before _ hgv
  obtain ⟨c0, s0, k0⟩ := u_known (C := RX0) (T := TX0) (N := 12) (n := 12) hts (fun w hw => (List.mem_filter.mp (zinX0 w hw)).1) (hts (.instantiable RX0 12) (List.mem_filter.mp (zTs_at 58 (by decide +kernel) rfl)).1)
  obtain ⟨c1, s1, k1⟩ := u_known (C := RX1) (T := TX1) (N := 5) (n := 5) hts (fun w hw => (List.mem_filter.mp (zinX1 w hw)).1) (hts (.instantiable RX1 5) (List.mem_filter.mp (zTs_at 205 (by decide +kernel) rfl)).1)
  obtain ⟨c2, s2, k2⟩ := u_known (C := RX2) (T := TX2) (N := 4) (n := 4) hts (fun w hw => (List.mem_filter.mp (zinX2 w hw)).1) (hts (.instantiable RX2 4) (List.mem_filter.mp (zTs_at 164 (by decide +kernel) rfl)).1)
  obtain ⟨c3, s3, k3⟩ := u_known (C := RX3) (T := TX3) (N := 4) (n := 4) hts (fun w hw => (List.mem_filter.mp (zinX3 w hw)).1) (hts (.instantiable RX3 4) (List.mem_filter.mp (zTs_at 122 (by decide +kernel) rfl)).1)
  obtain ⟨c4, s4, k4⟩ := u_known (C := RX4) (T := TX4) (N := 3) (n := 3) hts (fun w hw => (List.mem_filter.mp (zinX4 w hw)).1) (hts (.instantiable RX4 3) (List.mem_filter.mp (zTs_at 186 (by decide +kernel) rfl)).1)
  obtain ⟨c5, s5, k5⟩ := u_known (C := RX5) (T := TX5) (N := 4) (n := 4) hts (fun w hw => (List.mem_filter.mp (zinX5 w hw)).1) (hts (.instantiable RX5 4) (List.mem_filter.mp (zTs_at 232 (by decide +kernel) rfl)).1)
  obtain ⟨c6, s6, k6⟩ := u_known (C := RX6) (T := TX6) (N := 3) (n := 3) hts (fun w hw => (List.mem_filter.mp (zinX6 w hw)).1) (hts (.instantiable RX6 3) (List.mem_filter.mp (zTs_at 145 (by decide +kernel) rfl)).1)
  obtain ⟨c7, s7, k7⟩ := u_known (C := RX7) (T := TX7) (N := 8) (n := 8) hts (fun w hw => (List.mem_filter.mp (zinX7 w hw)).1) (hts (.instantiable RX7 8) (List.mem_filter.mp (zTs_at 50 (by decide +kernel) rfl)).1)
  obtain ⟨dC, dI, hKc⟩ : ∃ (dC : Nat → ClassId) (dI : Nat → Nat → Nat), ∀ (k : Nat) (q : vw_C), vwCl[k]? = some q → u_Kn s q.1 q.2.1 q.2.2 (dC k) (dI k) := by
    refine ⟨fun k => if k = 0 then c0 else if k = 1 then c1 else if k = 2 then c2 else if k = 3 then c3 else if k = 4 then c4 else if k = 5 then c5 else if k = 6 then c6 else c7, fun k => if k = 0 then s0 else if k = 1 then s1 else if k = 2 then s2 else if k = 3 then s3 else if k = 4 then s4 else if k = 5 then s5 else if k = 6 then s6 else s7, ?_⟩
    intro k q hq
    match k, hq with
    | 0, hq => cases hq; exact k0
    | 1, hq => cases hq; exact k1
    | 2, hq => cases hq; exact k2
    | 3, hq => cases hq; exact k3
    | 4, hq => cases hq; exact k4
    | 5, hq => cases hq; exact k5
    | 6, hq => cases hq; exact k6
    | 7, hq => cases hq; exact k7
    | k + 8, hq => simp [vwCl] at hq
  obtain ⟨cI, kI, mI, i1, i2, i3⟩ := Cond.arrayClass_spec (hts (.arrayClass .int) (List.mem_filter.mp arrI).1)
  obtain ⟨mG, cG, kG, g0, g2, g3, g1⟩ := Cond.arrayOver_specA (t := .int) (hts (.arrayOver (.array .int)) aoW)
  have hK : va_K (dC, dI) vwCl [(cI, .int), (cG, .array .int)] s := by
    refine ⟨hKc, fun k q hq => ?_⟩
    match k, hq with
    | 0, hq => cases hq; exact ⟨fun n z => ⟨fun k h => (by cases h), kI, i2, mI, i3⟩, i1⟩
    | 1, hq => cases hq; exact ⟨fun n z => ⟨fun k h => (by cases h), kG, g2, mG, g3⟩, g1⟩
    | k + 2, hq => simp at hq
  have hSS : zS ((dC, dI), cI, cI, cG) s := by
    refine ⟨fun w hw a => zgd_warm (List.mem_filter.mp hw).2 (State.WarmedH.refl s) (hts w (List.mem_filter.mp hw).1), hK, fun q hq => ?_⟩
    simp only [zNcs, List.mem_cons, List.not_mem_nil, or_false] at hq
    rcases hq with rfl | rfl
    · exact va_Nc.of (hs (.not (.castable "java/lang/IndexOutOfBoundsException" "java/lang/IllegalStateException")) (by decide +kernel))
    · exact va_Nc.of (hs (.not (.castable "java/lang/IllegalArgumentException" "java/lang/IllegalStateException")) (by decide +kernel))
  have hQ : zQ (fun q : Nat => s.heap.size ≤ q) s s.heap :=
    ⟨vx_Zqof (hts _ lsW1) (hts _ thW) (hs (.isRef (.static Bundle.tN "UNASSIGNED_STACK" Bundle.steD)) (by decide +kernel)) (fun a h => Nat.not_le.mpr h), vx_Zqof (hts _ lsW2) (hts _ thW) (hs (.isRef (.static Bundle.tN "SUPPRESSED_SENTINEL" Bundle.listD)) (by decide +kernel)) (fun a h => Nat.not_le.mpr h)⟩
  obtain ⟨X, hXe⟩ : ∃ X : zX, X = (p, e, room_1, s, m, #[Value.ref b], below, meth, c, fun q : Nat => s.heap.size ≤ q, 14, fun _ => lw_Z below #[Value.ref b] s) := ⟨_, rfl⟩
  have hC : zC l ((dC, dI), cI, cI, cG) zno (fun k => k) X RL cL_law 14 ret 11 := by
    rw [hXe]
    exact ⟨hx, hb, ⟨rfl, hml⟩, hown, hSS, hst, hlocks, hr, ⟨Nat.le_of_ble_eq_true rfl, Nat.le_of_ble_eq_true rfl⟩, fun q h => h, fun k h => (by cases h), hQ⟩
  have hW0 : zLaw X b := by rw [hXe]; exact ⟨rfl, rfl, rfl, rfl⟩
  have hSc : zScr X b L xs := by rw [hXe]; exact ⟨hX, hbl, Nat.not_le.mpr hbl⟩
  have hAO : zAO X := by rw [hXe]; exact hts (.arrayOver (.array .int)) aoW
  obtain ⟨M', hM'⟩ := hpure L xs hL
  have main : zH l ((dC, dI), cI, cI, cG) X [] zno (fun k => k) (0, 0) 0 [(0, .ref b)] [] (lw_Z below #[Value.ref b] s) := by
    refine zh_new hC (ci := 7) dL_law_0 rfl zinX7 tyX7 tyX7_ok nwL_10.1 nwL_10.2.1 nwL_10.2.2 zdfd7 (zl_room hW0 (by decide)) (fun q1 => ?_)
    refine zh_dup hC dL_law_3 rfl ?_
    refine zh_ctorI hC hAO (ws0 := []) (kX7_init hst 7) lkIL91 dL_law_4 (Nat.le_of_ble_eq_true rfl) (zl_room hW0 (by decide)) rfl zcl_0 (by decide) zcl_no (fun k hk => by cases hk) (fun k hk => by cases hk) (by decide) (fun a1 e1 => ?_)
    refine zh_astore_n hC (L' := [(1, _), (0, _)]) dL_law_7 (by decide) rfl ?_
    refine zl_run hC hW0 (fun k hk => by simp only [zor, zlv, zno, Bool.and_eq_true, Bool.or_eq_true, decide_eq_true_eq, Bool.false_eq_true, or_false]; omega) hM' ⟨1, rfl⟩ (n := 122) ⟨by decide, by decide⟩ (fun hC2 => ?_) (by rintro _ rfl; rw [hXe])
    refine zg_sub [1, 0] (L' := [(0, .ref b), (1, .ref (zmg (zlv 0 62) a1 (fun k => k) 0))]) ?_ ?_
    · rw [← e1]
      rfl
    · exact gL_law_B8 hC2 hSc hW0 4000 ⟨by decide, by decide⟩ zM0
  rw [hXe] at main
  have hl := lv_entry ([.ref b]) (n := 14) (Nat.le_of_ble_eq_true rfl)
  rw [lg_entry_eq]
  exact main s.heap [] _ ⟨fun k q h => by simp at h, ⟨fun i j p q h => by simp at h, fun k q h => by simp at h⟩, ⟨fun k hk => (by cases hk), fun i j hi => (by cases hi)⟩, fun k hk => (by cases hk)⟩ va_S.rf hl
