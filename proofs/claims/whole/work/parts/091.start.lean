theorem nwL_8 : Cond.classLink RL 8 RX7 ∈ zTs ∧ Cond.instantiable RX7 8 ∈ zTs ∧ Cond.initialized RX7 ∈ zTs := ⟨zTs_at 70 (by decide +kernel) rfl, zTs_at 71 (by decide +kernel) rfl, zTs_at 52 (by decide +kernel) rfl⟩
theorem nwL_134 : Cond.classLink RL 134 RX8 ∈ zTs ∧ Cond.instantiable RX8 31 ∈ zTs ∧ Cond.initialized RX8 ∈ zTs := ⟨zTs_at 915 (by decide +kernel) rfl, zTs_at 916 (by decide +kernel) rfl, zTs_at 61 (by decide +kernel) rfl⟩
theorem lkIL133 : zLI RL 133 yX7_init cX7_init 1 := ⟨zTs_at 72 (by decide +kernel) rfl, zTs_at 73 (by decide +kernel) rfl, zTs_at 52 (by decide +kernel) rfl, zTs_at 74 (by decide +kernel) rfl, ⟨rfl, by decide +kernel, by decide +kernel, by decide +kernel⟩, by decide⟩
theorem lkIL136 : zLI RL 136 yX8_init cX8_init 1 := ⟨zTs_at 917 (by decide +kernel) rfl, zTs_at 918 (by decide +kernel) rfl, zTs_at 61 (by decide +kernel) rfl, zTs_at 919 (by decide +kernel) rfl, ⟨rfl, by decide +kernel, by decide +kernel, by decide +kernel⟩, by decide⟩
theorem arrL : Cond.arrayClass .long ∈ zTs := zTs_at 1278 (by decide +kernel) rfl
theorem aoW : Cond.arrayOver (.array .int) ∈ lw_tbl := List.mem_of_getElem? (i := 85) (by decide +kernel)
theorem lsW1 : Cond.laysStatic Bundle.tN "UNASSIGNED_STACK" Bundle.steD ∈ lw_tbl := List.mem_of_getElem? (i := 370) (by decide +kernel)
theorem lsW2 : Cond.laysStatic Bundle.tN "SUPPRESSED_SENTINEL" Bundle.listD ∈ lw_tbl := List.mem_of_getElem? (i := 372) (by decide +kernel)
theorem thW : Cond.initialized Bundle.tN ∈ lw_tbl := List.mem_of_getElem? (i := 62) (by decide +kernel)
section ZK
variable {l : Launch} {Z : zZ} {lv : Nat → Bool} {ad adC : Nat → Nat} {X : zX} {cs : Nat × Nat} {own : String} {cc : ByteArray} {nL : Nat} {ret : Option FieldType} {d : Nat} {pc : Nat} {L L' : List (Nat × Value)} {S : List Value} {ws ws' : va_W} {Q : State → Prop}
theorem zh_newL (hC : zC l Z zno adC X own cc nL ret d) {n : Int32} {N' : Nat} (hd : decode cc pc = .ok (.newarray .long, 2)) (harr : Cond.arrayClass .long ∈ zTs) (hn : ¬ n < 0) (hN : n.toNatClampNeg = N') (hbytes : N' * 8 ≤ 536870912) (hcl : ∀ X' : zX, X' = X → match X' with | (_, _, R, _, _, _, _, _, _, _, _, _) => cs.1 + 1 ≤ R.cells ∧ cs.2 + N' ≤ R.slots)
    (k : ∀ q, zH l Z X (ws ++ [(q, .inl (Z.2.2.1, N', .inr (.inl (fun _ => 0))))]) lv ad (cs.1 + 1, cs.2 + N') (pc + 2) L (.ref q :: S) Q) : zH l Z X ws lv ad cs pc L (.int n :: S) Q := by
  obtain ⟨p, e, R, s, m, args, below, meth, c, A, nL', Qf⟩ := X
  obtain ⟨hx0, hb, ⟨rfl, hml⟩, hown, hSS, hst, hlk, hret, hroom, hA, hAd, hQ⟩ := id hC
  intro H locs ls hW hS hL
  have hcb : ∀ w ∈ zTs, w.before args s = true := fun w hw => hSS.1 w hw _
  obtain ⟨h1, h2⟩ := hcl _ rfl
  refine va_newaK (atype := .long) hx0 hb (hcb _ harr) rfl hd rfl hn hN hbytes h1 h2 rfl fun H1 cA e1 z1 o1 hAr hNm => ?_
  have hc : cA = Z.2.2.1 := by
    have h3 : s.vm.findClass ("[" ++ FieldType.long.toString) = some Z.2.2.1 := (hSS.2.1.2 1 (Z.2.2.1, .long) rfl).2
    exact Option.some.inj (hNm.symm.trans h3)
  subst hc
  refine k H.size H1 locs ls (hW.push (hA _ hS.1) (fun q hq => o1 q hq) ?_) ⟨Nat.le_trans hS.1 (by omega), fun x h1 h2 => (o1 x (Nat.lt_of_lt_of_le h1 hS.1)).trans (hS.2.1 x h1 h2), hS.2.2⟩ hL
  exact e1
theorem zl_room {b a q : Nat} (hW0 : zLaw X b) (h : a ≤ 601024 ∧ q ≤ 7293034) : ∀ X' : zX, X' = X → match X' with | (_, _, R, _, _, _, _, _, _, _, _, _) => a ≤ R.cells ∧ q ≤ R.slots := by
  obtain ⟨p, e, R, s, m, args, below, meth, c, A, nL', Qf⟩ := X
  rintro _ rfl
  obtain ⟨-, rfl, -⟩ := hW0
  exact h
theorem zch_87 : ∀ k, k < 87 → ∀ c ∈ zch k, c ≠ 87 := by decide +kernel
theorem zQ.sub {A B : Nat → Prop} {s : State} {H : Heap} (h : zQ A s H) (hAB : ∀ q, B q → A q) : zQ B s H := ⟨h.1.narrow hAB, h.2.narrow hAB⟩
/-- from the making to the law's loop -/
theorem zl_run (hC : zC l Z zno adC X own cc nL ret d) {b0 q : Nat} (hW0 : zLaw X b0) (hlv : ∀ k, k < 87 → lv k = true) (hb : ∀ k, lv k = true → k < 88) (h87 : lv 87 = false) {o' : zRES} {r : zR1} (ho : o' = some r) (hr : ∃ v, r.1 = .inl v) {n : Nat} (hB : zB n cs)
    (kk : zC l Z zfull (fun k => if k = 87 then q else ad k) X own cc nL ret d → zG l Z zfull (fun k => if k = 87 then q else ad k) X cs pc L S zM0 o') (hQ0 : ∀ X' : zX, X' = X → match X' with | (_, _, _, s, _, _, below, _, _, _, _, _) => Q = lw_Z below #[Value.ref b0] s) : zH l Z X [(q, .inl (Z.2.2.1, 1, .inr (.inl (fun _ => 0))))] lv ad cs pc L S Q := by
  obtain ⟨p, e, R, s, m, args, below, meth, c, A, nL', Qf⟩ := X
  obtain ⟨hx0, hb1, ⟨rfl, hml⟩, hown, hSS, hst, hlk, hret, hroom, hA, hAd, hQ⟩ := id hC
  obtain ⟨h1, rfl, rfl, rfl⟩ := id hW0
  have hQ9 := hQ0 _ rfl
  dsimp only at hQ9
  subst hQ9
  intro H locs ls hW hS hL
  have hz : ∀ k, zfull k = true → k < 88 := fun k hk => of_decide_eq_true hk
  have hA2 : ∀ k, zfull k = true → s.heap.size ≤ (if k = 87 then q else ad k) := by
    intro k hk
    by_cases h : k = 87
    · rw [if_pos h]
      exact hW.2.1.2 0 _ rfl
    · rw [if_neg h]
      exact (hW.2.2.2 k (hlv k (by have := hz k hk; omega))).1
  have K := kk ⟨hx0, hb1, ⟨rfl, hml⟩, hown, hSS, hst, hlk, hret, hroom, hA, hA2, hQ⟩
  obtain ⟨v, hv⟩ := hr
  refine K r ho ⟨fun x hx => (by rw [hv] at hx; cases hx), by have := hB.1; show cs.1 ≤ 601024; omega, by have := hB.2; show cs.2 ≤ 7293034; omega⟩ H locs ls ⟨fun k hk => ?_, fun i j hi hj hij => ?_⟩ hS hL
  · by_cases h : k = 87
    · subst h
      have := hW.1 0 _ rfl
      exact this
    · have hk8 := hz k hk
      show va_at Z.1 vwCl ((if k = 87 then q else ad k), _) H
      rw [if_neg h, zE_congr (ad' := ad) hk8 (fun c hc => if_neg (zch_87 k (by omega) c hc))]
      exact hW.2.2.1.1 k (hlv k (by omega))
  · have hi8 := hz i hi
    have hj8 := hz j hj
    by_cases h1 : i = 87 <;> by_cases h2 : j = 87
    · omega
    · dsimp only at hij
      rw [if_pos h1, if_neg h2] at hij
      exact absurd hij ((hW.2.2.2 j (hlv j (by omega))).2 0 _ rfl)
    · dsimp only at hij
      rw [if_neg h1, if_pos h2] at hij
      exact absurd hij.symm ((hW.2.2.2 i (hlv i (by omega))).2 0 _ rfl)
    · dsimp only at hij
      rw [if_neg h1, if_neg h2] at hij
      exact hW.2.2.1.2 i j (hlv i (by omega)) (hlv j (by omega)) hij
end ZK

set_option maxRecDepth 100000 in
set_option maxHeartbeats 4000000 in
/-- THE LAW, from its entry: what is left to show is of numbers alone -/
theorem whole_start_open (hpure : ∀ (L : Nat) (xs : Nat → Int32), L ≤ 2560 → ∃ M', fL_law_B23 4000 L xs 600 0 zM0 = some (.inl 1, M')) {p : Program} {e : Env} {s : State} {m : MethodId} {below : List Frame} {meth : Method} {c : Code} (l : Launch) (hflags : l.flags = flags0) {b L : Nat} {xs : Nat → Int32} (hL : L ≤ 2560) (C0 : lw_At p s m meth c b L xs) : W p l e room_1 s m #[Value.ref b] below meth c s.heap [] 0 0 (lw_Z below #[Value.ref b] s) (entryFrame m ([Value.ref b] : List Value).toArray 7) := by
  obtain ⟨hx, hb, hr, hml, hown, hts, hX, hbl, hlocks, hgv⟩ := id C0
  have hst : l.stackTraces = false := by unfold Launch.stackTraces; rw [hflags]; decide +kernel
  have hs := flat_of_before _ hgv
  obtain ⟨c0, s0, k0⟩ := u_known (C := RX0) (T := TX0) (N := 12) (n := 12) hts (fun w hw => (List.mem_filter.mp (zinX0 w hw)).1) (hts (.instantiable RX0 12) (List.mem_filter.mp (zTs_at 79 (by decide +kernel) rfl)).1)
  obtain ⟨c1, s1, k1⟩ := u_known (C := RX1) (T := TX1) (N := 5) (n := 5) hts (fun w hw => (List.mem_filter.mp (zinX1 w hw)).1) (hts (.instantiable RX1 5) (List.mem_filter.mp (zTs_at 226 (by decide +kernel) rfl)).1)
  obtain ⟨c2, s2, k2⟩ := u_known (C := RX2) (T := TX2) (N := 4) (n := 4) hts (fun w hw => (List.mem_filter.mp (zinX2 w hw)).1) (hts (.instantiable RX2 4) (List.mem_filter.mp (zTs_at 185 (by decide +kernel) rfl)).1)
  obtain ⟨c3, s3, k3⟩ := u_known (C := RX3) (T := TX3) (N := 4) (n := 4) hts (fun w hw => (List.mem_filter.mp (zinX3 w hw)).1) (hts (.instantiable RX3 4) (List.mem_filter.mp (zTs_at 143 (by decide +kernel) rfl)).1)
  obtain ⟨c4, s4, k4⟩ := u_known (C := RX4) (T := TX4) (N := 3) (n := 3) hts (fun w hw => (List.mem_filter.mp (zinX4 w hw)).1) (hts (.instantiable RX4 3) (List.mem_filter.mp (zTs_at 207 (by decide +kernel) rfl)).1)
  obtain ⟨c5, s5, k5⟩ := u_known (C := RX5) (T := TX5) (N := 4) (n := 4) hts (fun w hw => (List.mem_filter.mp (zinX5 w hw)).1) (hts (.instantiable RX5 4) (List.mem_filter.mp (zTs_at 253 (by decide +kernel) rfl)).1)
  obtain ⟨c6, s6, k6⟩ := u_known (C := RX6) (T := TX6) (N := 3) (n := 3) hts (fun w hw => (List.mem_filter.mp (zinX6 w hw)).1) (hts (.instantiable RX6 3) (List.mem_filter.mp (zTs_at 166 (by decide +kernel) rfl)).1)
  obtain ⟨c7, s7, k7⟩ := u_known (C := RX7) (T := TX7) (N := 8) (n := 8) hts (fun w hw => (List.mem_filter.mp (zinX7 w hw)).1) (hts (.instantiable RX7 8) (List.mem_filter.mp (zTs_at 71 (by decide +kernel) rfl)).1)
  obtain ⟨c8, s8, k8⟩ := u_known (C := RX8) (T := TX8) (N := 31) (n := 31) hts (fun w hw => (List.mem_filter.mp (zinX8 w hw)).1) (hts (.instantiable RX8 31) (List.mem_filter.mp (zTs_at 916 (by decide +kernel) rfl)).1)
  obtain ⟨dC, dI, hKc⟩ : ∃ (dC : Nat → ClassId) (dI : Nat → Nat → Nat), ∀ (k : Nat) (q : vw_C), vwCl[k]? = some q → u_Kn s q.1 q.2.1 q.2.2 (dC k) (dI k) := by
    refine ⟨fun k => if k = 0 then c0 else if k = 1 then c1 else if k = 2 then c2 else if k = 3 then c3 else if k = 4 then c4 else if k = 5 then c5 else if k = 6 then c6 else if k = 7 then c7 else c8, fun k => if k = 0 then s0 else if k = 1 then s1 else if k = 2 then s2 else if k = 3 then s3 else if k = 4 then s4 else if k = 5 then s5 else if k = 6 then s6 else if k = 7 then s7 else s8, ?_⟩
    intro k q hq
    match k, hq with
    | 0, hq => cases hq; exact k0
    | 1, hq => cases hq; exact k1
    | 2, hq => cases hq; exact k2
    | 3, hq => cases hq; exact k3
    | 4, hq => cases hq; exact k4
    | 5, hq => cases hq; exact k5
    | 6, hq => cases hq; exact k6
    | 7, hq => cases hq; exact k7
    | 8, hq => cases hq; exact k8
    | k + 9, hq => simp [vwCl] at hq
  obtain ⟨cI, kI, mI, i1, i2, i3⟩ := Cond.arrayClass_spec (hts (.arrayClass .int) (List.mem_filter.mp arrI).1)
  obtain ⟨cL, kL, mL, l1, l2, l3⟩ := Cond.arrayClass_spec (hts (.arrayClass .long) (List.mem_filter.mp arrL).1)
  obtain ⟨mG, cG, kG, g0, g2, g3, g1⟩ := Cond.arrayOver_specA (t := .int) (hts (.arrayOver (.array .int)) aoW)
  have hK : va_K (dC, dI) vwCl [(cI, .int), (cL, .long), (cG, .array .int)] s := by
    refine ⟨hKc, fun k q hq => ?_⟩
    match k, hq with
    | 0, hq => cases hq; exact ⟨fun n z => ⟨fun k h => (by cases h), kI, i2, mI, i3⟩, i1⟩
    | 1, hq => cases hq; exact ⟨fun n z => ⟨fun k h => (by cases h), kL, l2, mL, l3⟩, l1⟩
    | 2, hq => cases hq; exact ⟨fun n z => ⟨fun k h => (by cases h), kG, g2, mG, g3⟩, g1⟩
    | k + 3, hq => simp at hq
  have hSS : zS ((dC, dI), cI, cL, cG) s := by
    refine ⟨fun w hw a => zgd_warm (List.mem_filter.mp hw).2 (State.WarmedH.refl s) (hts w (List.mem_filter.mp hw).1), hK, fun q hq => ?_⟩
    simp only [zNcs, List.mem_cons, List.not_mem_nil, or_false] at hq
    rcases hq with rfl | rfl | rfl | rfl | rfl | rfl
    · exact va_Nc.of (hs (.not (.castable "java/lang/IndexOutOfBoundsException" "java/lang/IllegalArgumentException")) (by decide +kernel))
    · exact va_Nc.of (hs (.not (.castable "java/lang/IndexOutOfBoundsException" "java/lang/IllegalStateException")) (by decide +kernel))
    · exact va_Nc.of (hs (.not (.castable "java/lang/IllegalArgumentException" "java/lang/IndexOutOfBoundsException")) (by decide +kernel))
    · exact va_Nc.of (hs (.not (.castable "java/lang/IllegalArgumentException" "java/lang/IllegalStateException")) (by decide +kernel))
    · exact va_Nc.of (hs (.not (.castable "java/lang/IllegalStateException" "java/lang/IndexOutOfBoundsException")) (by decide +kernel))
    · exact va_Nc.of (hs (.not (.castable "java/lang/IllegalStateException" "java/lang/IllegalArgumentException")) (by decide +kernel))
  have hQ : zQ (fun q : Nat => s.heap.size ≤ q) s s.heap :=
    ⟨vx_Zqof (hts _ lsW1) (hts _ thW) (hs (.isRef (.static Bundle.tN "UNASSIGNED_STACK" Bundle.steD)) (by decide +kernel)) (fun a h => Nat.not_le.mpr h), vx_Zqof (hts _ lsW2) (hts _ thW) (hs (.isRef (.static Bundle.tN "SUPPRESSED_SENTINEL" Bundle.listD)) (by decide +kernel)) (fun a h => Nat.not_le.mpr h)⟩
  obtain ⟨X, hXe⟩ : ∃ X : zX, X = (p, e, room_1, s, m, #[Value.ref b], below, meth, c, fun q : Nat => s.heap.size ≤ q, 7, fun _ => lw_Z below #[Value.ref b] s) := ⟨_, rfl⟩
  have hC : zC l ((dC, dI), cI, cL, cG) zno (fun k => k) X RL cL_law 7 ret 12 := by
    rw [hXe]
    exact ⟨hx, hb, ⟨rfl, hml⟩, hown, hSS, hst, hlocks, hr, ⟨Nat.le_of_ble_eq_true rfl, Nat.le_of_ble_eq_true rfl⟩, fun q h => h, fun k h => (by cases h), hQ⟩
  have hW0 : zLaw X b := by rw [hXe]; exact ⟨rfl, rfl, rfl, rfl⟩
  have hSc : zScr X b L xs := by rw [hXe]; exact ⟨hX, hbl, Nat.not_le.mpr hbl⟩
  have hAO : zAO X := by rw [hXe]; exact hts (.arrayOver (.array .int)) aoW
  obtain ⟨M', hM'⟩ := hpure L xs hL
  have main : zH l ((dC, dI), cI, cL, cG) X [] zno (fun k => k) (0, 0) 0 [(0, .ref b)] [] (lw_Z below #[Value.ref b] s) := by
    refine zh_new hC (ci := 7) dL_law_0 rfl zinX7 tyX7 tyX7_ok nwL_8.1 nwL_8.2.1 nwL_8.2.2 zdfd7 (zl_room hW0 (by decide)) (fun q1 => ?_)
    refine zh_dup hC dL_law_3 rfl ?_
    refine zh_ctorI hC hAO (ws0 := []) (kX7_init hst 8) lkIL133 dL_law_4 (Nat.le_of_ble_eq_true rfl) (zl_room hW0 (by decide)) rfl zcl_0 (by decide) zcl_no (fun k hk => by cases hk) (fun k hk => by cases hk) (by decide) (fun a1 e1 => ?_)
    refine zh_astore_n hC (L' := [(1, _), (0, _)]) dL_law_7 (by decide) rfl ?_
    refine zh_new hC (ci := 8) dL_law_8 rfl zinX8 tyX8 tyX8_ok nwL_134.1 nwL_134.2.1 nwL_134.2.2 zdfd8 (zl_room hW0 (by decide)) (fun q2 => ?_)
    refine zh_dup hC dL_law_11 rfl ?_
    refine zh_ctorI hC hAO (ws0 := []) (kX8_init hst 10) lkIL136 dL_law_12 (Nat.le_of_ble_eq_true rfl) (zl_room hW0 (by decide)) rfl zcl_62 (by decide) (zcl_or zcl_0 zcl_no) (fun k hk => by simp only [zor, zlv, zno, Bool.and_eq_true, Bool.or_eq_true, decide_eq_true_eq, Bool.false_eq_true, or_false] at hk; omega) (fun k hk => by simp only [zor, zlv, zno, Bool.and_eq_true, Bool.or_eq_true, decide_eq_true_eq, Bool.false_eq_true, or_false] at hk; simp only [zlv, Bool.and_eq_false_iff, decide_eq_false_iff_not]; omega) (by decide) (fun a2 e2 => ?_)
    refine zh_astore_n hC (L' := [(2, _), (1, _), (0, _)]) dL_law_15 (by decide) rfl ?_
    refine zh_iconst hC (v := 1) dL_law_16 (by decide) ?_
    refine zh_newL hC (N' := 1) dL_law_17 arrL (by decide) (by decide) (by decide) (zl_room hW0 (by decide)) (fun q3 => ?_)
    refine zh_astore_n hC (L' := [(3, _), (2, _), (1, _), (0, _)]) dL_law_19 (by decide) rfl ?_
    refine zl_run hC hW0 (fun k hk => by simp only [zor, zlv, zno, Bool.and_eq_true, Bool.or_eq_true, decide_eq_true_eq, Bool.false_eq_true, or_false]; omega) (fun k hk => by simp only [zor, zlv, zno, Bool.and_eq_true, Bool.or_eq_true, decide_eq_true_eq, Bool.false_eq_true, or_false] at hk; omega) (by decide) hM' ⟨1, rfl⟩ (n := 600) ⟨by decide, by decide⟩ (fun hC2 => ?_) (by rintro _ rfl; rw [hXe])
    refine zg_iconst hC2 (v := 0) dL_law_20 (by decide) ?_
    refine zg_istore hC2 (L' := [(4, _), (3, _), (2, _), (1, _), (0, _)]) dL_law_21 (by decide) rfl ?_
    refine zg_sub [4, 3, 2, 1, 0] (L' := [(0, .ref b), (1, .ref (if (0 : Nat) = 87 then q3 else zmg (zlv 62 25) a2 (zmg (zlv 0 62) a1 (fun k => k)) 0)), (2, .ref (if (62 : Nat) = 87 then q3 else zmg (zlv 62 25) a2 (zmg (zlv 0 62) a1 (fun k => k)) 62)), (3, .ref (if (87 : Nat) = 87 then q3 else zmg (zlv 62 25) a2 (zmg (zlv 0 62) a1 (fun k => k)) 87)), (4, .int 0)]) ?_ ?_
    · rw [← e1, ← e2]
      rfl
    · exact gL_law_B23 hC2 hSc hW0 4000 600 _ ⟨by decide, by decide⟩ 0 zM0
  rw [hXe] at main
  have hl := lv_entry ([.ref b]) (n := 7) (Nat.le_of_ble_eq_true rfl)
  rw [lg_entry_eq]
  exact main s.heap [] _ ⟨fun k q h => by simp at h, ⟨fun i j p q h => by simp at h, fun k q h => by simp at h⟩, ⟨fun k hk => (by cases hk), fun i j hi => (by cases hi)⟩, fun k hk => (by cases hk)⟩ va_S.rf hl
