section
-- ===== PART A: goes FIRST, ahead of the names: the tables' words, and 'selects' of the private methods out of them =====
/-- a private method of a class that the tables say can be made, by its rows of tables_1 -/
def lw_okq (q : MethodName × Nat) : Prop := (q.1.cls ≠ "java/lang/invoke/MethodHandle" ∧ q.1.cls ≠ "java/lang/invoke/VarHandle") ∧ Cond.instantiable q.1.cls q.2 ∈ tables_1 ∧ Cond.privateMethod q.1 ∈ tables_1 ∧ Cond.instanceMethod q.1 ∈ tables_1
theorem lw_p0 : lw_okq (⟨"java/lang/Throwable", "fillInStackTrace", "(I)Ljava/lang/Throwable;"⟩, 6) := ⟨⟨by decide +kernel, by decide +kernel⟩, List.mem_of_getElem? (i := 291) (by decide +kernel), List.mem_of_getElem? (i := 289) (by decide +kernel), List.mem_of_getElem? (i := 290) (by decide +kernel)⟩
theorem lw_p1 : lw_okq (⟨"QuorumBakery", "checkVersion", "(I)V"⟩, 8) := ⟨⟨by decide +kernel, by decide +kernel⟩, List.mem_of_getElem? (i := 19) (by decide +kernel), List.mem_of_getElem? (i := 414) (by decide +kernel), List.mem_of_getElem? (i := 415) (by decide +kernel)⟩
theorem lw_p2 : lw_okq (⟨"QuorumBakery", "findCurrent", "(II)I"⟩, 8) := ⟨⟨by decide +kernel, by decide +kernel⟩, List.mem_of_getElem? (i := 19) (by decide +kernel), List.mem_of_getElem? (i := 432) (by decide +kernel), List.mem_of_getElem? (i := 433) (by decide +kernel)⟩
theorem lw_p3 : lw_okq (⟨"QuorumBakery", "checkHour", "(I)V"⟩, 8) := ⟨⟨by decide +kernel, by decide +kernel⟩, List.mem_of_getElem? (i := 19) (by decide +kernel), List.mem_of_getElem? (i := 449) (by decide +kernel), List.mem_of_getElem? (i := 450) (by decide +kernel)⟩
theorem lw_p4 : lw_okq (⟨"QuorumBakery", "passHour", "()I"⟩, 8) := ⟨⟨by decide +kernel, by decide +kernel⟩, List.mem_of_getElem? (i := 19) (by decide +kernel), List.mem_of_getElem? (i := 468) (by decide +kernel), List.mem_of_getElem? (i := 469) (by decide +kernel)⟩
theorem lw_p5 : lw_okq (⟨"QuorumBakery", "canBake", "(II)Z"⟩, 8) := ⟨⟨by decide +kernel, by decide +kernel⟩, List.mem_of_getElem? (i := 19) (by decide +kernel), List.mem_of_getElem? (i := 472) (by decide +kernel), List.mem_of_getElem? (i := 473) (by decide +kernel)⟩
theorem lw_p6 : lw_okq (⟨"QuorumBakery", "bake", "(II)V"⟩, 8) := ⟨⟨by decide +kernel, by decide +kernel⟩, List.mem_of_getElem? (i := 19) (by decide +kernel), List.mem_of_getElem? (i := 476) (by decide +kernel), List.mem_of_getElem? (i := 477) (by decide +kernel)⟩
theorem lw_p7 : lw_okq (⟨"QuorumBakery", "checkBatch", "(I)V"⟩, 8) := ⟨⟨by decide +kernel, by decide +kernel⟩, List.mem_of_getElem? (i := 19) (by decide +kernel), List.mem_of_getElem? (i := 504) (by decide +kernel), List.mem_of_getElem? (i := 505) (by decide +kernel)⟩
theorem lw_p8 : lw_okq (⟨"QuorumBakery", "barredUnder", "(LQuorumBakery$Agreement;I)I"⟩, 8) := ⟨⟨by decide +kernel, by decide +kernel⟩, List.mem_of_getElem? (i := 19) (by decide +kernel), List.mem_of_getElem? (i := 513) (by decide +kernel), List.mem_of_getElem? (i := 514) (by decide +kernel)⟩
theorem lw_p9 : lw_okq (⟨"QuorumBakery", "repeatHistory", "()V"⟩, 8) := ⟨⟨by decide +kernel, by decide +kernel⟩, List.mem_of_getElem? (i := 19) (by decide +kernel), List.mem_of_getElem? (i := 521) (by decide +kernel), List.mem_of_getElem? (i := 522) (by decide +kernel)⟩
theorem lw_p10 : lw_okq (⟨"QuorumBakery", "repeatCall", "(III)V"⟩, 8) := ⟨⟨by decide +kernel, by decide +kernel⟩, List.mem_of_getElem? (i := 19) (by decide +kernel), List.mem_of_getElem? (i := 526) (by decide +kernel), List.mem_of_getElem? (i := 527) (by decide +kernel)⟩
theorem lw_p11 : lw_okq (⟨"QuorumBakery$Agreement", "takeTerm", "(II)V"⟩, 12) := ⟨⟨by decide +kernel, by decide +kernel⟩, List.mem_of_getElem? (i := 27) (by decide +kernel), List.mem_of_getElem? (i := 534) (by decide +kernel), List.mem_of_getElem? (i := 535) (by decide +kernel)⟩
theorem lw_p12 : lw_okq (⟨"QuorumBakery$Agreement", "hasBetterLog", "(II)Z"⟩, 12) := ⟨⟨by decide +kernel, by decide +kernel⟩, List.mem_of_getElem? (i := 27) (by decide +kernel), List.mem_of_getElem? (i := 538) (by decide +kernel), List.mem_of_getElem? (i := 539) (by decide +kernel)⟩
theorem lw_p13 : lw_okq (⟨"QuorumBakery$Agreement", "lastTerm", "(I)I"⟩, 12) := ⟨⟨by decide +kernel, by decide +kernel⟩, List.mem_of_getElem? (i := 27) (by decide +kernel), List.mem_of_getElem? (i := 542) (by decide +kernel), List.mem_of_getElem? (i := 543) (by decide +kernel)⟩
theorem lw_p14 : lw_okq (⟨"QuorumBakery$Agreement", "giveVote", "(II)V"⟩, 12) := ⟨⟨by decide +kernel, by decide +kernel⟩, List.mem_of_getElem? (i := 27) (by decide +kernel), List.mem_of_getElem? (i := 546) (by decide +kernel), List.mem_of_getElem? (i := 547) (by decide +kernel)⟩
theorem lw_p15 : lw_okq (⟨"QuorumBakery$Agreement", "append", "(II)V"⟩, 12) := ⟨⟨by decide +kernel, by decide +kernel⟩, List.mem_of_getElem? (i := 27) (by decide +kernel), List.mem_of_getElem? (i := 555) (by decide +kernel), List.mem_of_getElem? (i := 556) (by decide +kernel)⟩
def lw_privs_1 : List (MethodName × Nat) := [(⟨"java/lang/Throwable", "fillInStackTrace", "(I)Ljava/lang/Throwable;"⟩, 6), (⟨"QuorumBakery", "checkVersion", "(I)V"⟩, 8), (⟨"QuorumBakery", "findCurrent", "(II)I"⟩, 8), (⟨"QuorumBakery", "checkHour", "(I)V"⟩, 8), (⟨"QuorumBakery", "passHour", "()I"⟩, 8), (⟨"QuorumBakery", "canBake", "(II)Z"⟩, 8), (⟨"QuorumBakery", "bake", "(II)V"⟩, 8), (⟨"QuorumBakery", "checkBatch", "(I)V"⟩, 8), (⟨"QuorumBakery", "barredUnder", "(LQuorumBakery$Agreement;I)I"⟩, 8), (⟨"QuorumBakery", "repeatHistory", "()V"⟩, 8), (⟨"QuorumBakery", "repeatCall", "(III)V"⟩, 8), (⟨"QuorumBakery$Agreement", "takeTerm", "(II)V"⟩, 12), (⟨"QuorumBakery$Agreement", "hasBetterLog", "(II)Z"⟩, 12), (⟨"QuorumBakery$Agreement", "lastTerm", "(I)I"⟩, 12), (⟨"QuorumBakery$Agreement", "giveVote", "(II)V"⟩, 12), (⟨"QuorumBakery$Agreement", "append", "(II)V"⟩, 12)]
theorem lw_r1 : ∀ q ∈ lw_privs_1, lw_okq q := List.forall_mem_cons.mpr ⟨lw_p0, List.forall_mem_cons.mpr ⟨lw_p1, List.forall_mem_cons.mpr ⟨lw_p2, List.forall_mem_cons.mpr ⟨lw_p3, List.forall_mem_cons.mpr ⟨lw_p4, List.forall_mem_cons.mpr ⟨lw_p5, List.forall_mem_cons.mpr ⟨lw_p6, List.forall_mem_cons.mpr ⟨lw_p7, List.forall_mem_cons.mpr ⟨lw_p8, List.forall_mem_cons.mpr ⟨lw_p9, List.forall_mem_cons.mpr ⟨lw_p10, List.forall_mem_cons.mpr ⟨lw_p11, List.forall_mem_cons.mpr ⟨lw_p12, List.forall_mem_cons.mpr ⟨lw_p13, List.forall_mem_cons.mpr ⟨lw_p14, List.forall_mem_cons.mpr ⟨lw_p15, fun _ h => absurd h List.not_mem_nil⟩⟩⟩⟩⟩⟩⟩⟩⟩⟩⟩⟩⟩⟩⟩⟩
theorem lw_p16 : lw_okq (⟨"QuorumBakery$Agreement", "judgeHeld", "(I)V"⟩, 12) := ⟨⟨by decide +kernel, by decide +kernel⟩, List.mem_of_getElem? (i := 27) (by decide +kernel), List.mem_of_getElem? (i := 559) (by decide +kernel), List.mem_of_getElem? (i := 560) (by decide +kernel)⟩
theorem lw_p17 : lw_okq (⟨"QuorumBakery$Agreement", "commonLength", "(II)I"⟩, 12) := ⟨⟨by decide +kernel, by decide +kernel⟩, List.mem_of_getElem? (i := 27) (by decide +kernel), List.mem_of_getElem? (i := 568) (by decide +kernel), List.mem_of_getElem? (i := 569) (by decide +kernel)⟩
theorem lw_p18 : lw_okq (⟨"QuorumBakery$Agreement", "cutAt", "(II)V"⟩, 12) := ⟨⟨by decide +kernel, by decide +kernel⟩, List.mem_of_getElem? (i := 27) (by decide +kernel), List.mem_of_getElem? (i := 575) (by decide +kernel), List.mem_of_getElem? (i := 576) (by decide +kernel)⟩
theorem lw_p19 : lw_okq (⟨"QuorumBakery$Agreement", "copyRest", "(II)I"⟩, 12) := ⟨⟨by decide +kernel, by decide +kernel⟩, List.mem_of_getElem? (i := 27) (by decide +kernel), List.mem_of_getElem? (i := 579) (by decide +kernel), List.mem_of_getElem? (i := 580) (by decide +kernel)⟩
theorem lw_p20 : lw_okq (⟨"QuorumBakery", "checkLot", "(I)V"⟩, 8) := ⟨⟨by decide +kernel, by decide +kernel⟩, List.mem_of_getElem? (i := 19) (by decide +kernel), List.mem_of_getElem? (i := 587) (by decide +kernel), List.mem_of_getElem? (i := 588) (by decide +kernel)⟩
theorem lw_p21 : lw_okq (⟨"QuorumBakery", "checkRecall", "(I)V"⟩, 8) := ⟨⟨by decide +kernel, by decide +kernel⟩, List.mem_of_getElem? (i := 19) (by decide +kernel), List.mem_of_getElem? (i := 604) (by decide +kernel), List.mem_of_getElem? (i := 605) (by decide +kernel)⟩
theorem lw_p22 : lw_okq (⟨"QuorumBakery", "checkReach", "(II)V"⟩, 8) := ⟨⟨by decide +kernel, by decide +kernel⟩, List.mem_of_getElem? (i := 19) (by decide +kernel), List.mem_of_getElem? (i := 638) (by decide +kernel), List.mem_of_getElem? (i := 639) (by decide +kernel)⟩
theorem lw_p23 : lw_okq (⟨"QuorumBakery", "checkLeader", "(I)V"⟩, 8) := ⟨⟨by decide +kernel, by decide +kernel⟩, List.mem_of_getElem? (i := 19) (by decide +kernel), List.mem_of_getElem? (i := 651) (by decide +kernel), List.mem_of_getElem? (i := 652) (by decide +kernel)⟩
theorem lw_p24 : lw_okq (⟨"QuorumBakery", "callBackUnheld", "(J)V"⟩, 8) := ⟨⟨by decide +kernel, by decide +kernel⟩, List.mem_of_getElem? (i := 19) (by decide +kernel), List.mem_of_getElem? (i := 669) (by decide +kernel), List.mem_of_getElem? (i := 670) (by decide +kernel)⟩
theorem lw_p25 : lw_okq (⟨"QuorumBakery", "callBackVersion", "(I)V"⟩, 8) := ⟨⟨by decide +kernel, by decide +kernel⟩, List.mem_of_getElem? (i := 19) (by decide +kernel), List.mem_of_getElem? (i := 673) (by decide +kernel), List.mem_of_getElem? (i := 674) (by decide +kernel)⟩
theorem lw_p26 : lw_okq (⟨"QuorumBakery", "callBackBatch", "(II)I"⟩, 8) := ⟨⟨by decide +kernel, by decide +kernel⟩, List.mem_of_getElem? (i := 19) (by decide +kernel), List.mem_of_getElem? (i := 677) (by decide +kernel), List.mem_of_getElem? (i := 678) (by decide +kernel)⟩
theorem lw_p27 : lw_okq (⟨"QuorumBakery", "checkGood", "(I)V"⟩, 8) := ⟨⟨by decide +kernel, by decide +kernel⟩, List.mem_of_getElem? (i := 19) (by decide +kernel), List.mem_of_getElem? (i := 693) (by decide +kernel), List.mem_of_getElem? (i := 694) (by decide +kernel)⟩
theorem lw_p28 : lw_okq (⟨"QuorumBakery", "putCurrent", "(III)I"⟩, 8) := ⟨⟨by decide +kernel, by decide +kernel⟩, List.mem_of_getElem? (i := 19) (by decide +kernel), List.mem_of_getElem? (i := 711) (by decide +kernel), List.mem_of_getElem? (i := 712) (by decide +kernel)⟩
theorem lw_p29 : lw_okq (⟨"QuorumBakery$Flour", "throwOutOf", "(II)V"⟩, 4) := ⟨⟨by decide +kernel, by decide +kernel⟩, List.mem_of_getElem? (i := 133) (by decide +kernel), List.mem_of_getElem? (i := 736) (by decide +kernel), List.mem_of_getElem? (i := 737) (by decide +kernel)⟩
theorem lw_p30 : lw_okq (⟨"QuorumBakery", "callBackLot", "(I)I"⟩, 8) := ⟨⟨by decide +kernel, by decide +kernel⟩, List.mem_of_getElem? (i := 19) (by decide +kernel), List.mem_of_getElem? (i := 740) (by decide +kernel), List.mem_of_getElem? (i := 741) (by decide +kernel)⟩
def lw_privs_2 : List (MethodName × Nat) := [(⟨"QuorumBakery$Agreement", "judgeHeld", "(I)V"⟩, 12), (⟨"QuorumBakery$Agreement", "commonLength", "(II)I"⟩, 12), (⟨"QuorumBakery$Agreement", "cutAt", "(II)V"⟩, 12), (⟨"QuorumBakery$Agreement", "copyRest", "(II)I"⟩, 12), (⟨"QuorumBakery", "checkLot", "(I)V"⟩, 8), (⟨"QuorumBakery", "checkRecall", "(I)V"⟩, 8), (⟨"QuorumBakery", "checkReach", "(II)V"⟩, 8), (⟨"QuorumBakery", "checkLeader", "(I)V"⟩, 8), (⟨"QuorumBakery", "callBackUnheld", "(J)V"⟩, 8), (⟨"QuorumBakery", "callBackVersion", "(I)V"⟩, 8), (⟨"QuorumBakery", "callBackBatch", "(II)I"⟩, 8), (⟨"QuorumBakery", "checkGood", "(I)V"⟩, 8), (⟨"QuorumBakery", "putCurrent", "(III)I"⟩, 8), (⟨"QuorumBakery$Flour", "throwOutOf", "(II)V"⟩, 4), (⟨"QuorumBakery", "callBackLot", "(I)I"⟩, 8)]
theorem lw_r2 : ∀ q ∈ lw_privs_2, lw_okq q := List.forall_mem_cons.mpr ⟨lw_p16, List.forall_mem_cons.mpr ⟨lw_p17, List.forall_mem_cons.mpr ⟨lw_p18, List.forall_mem_cons.mpr ⟨lw_p19, List.forall_mem_cons.mpr ⟨lw_p20, List.forall_mem_cons.mpr ⟨lw_p21, List.forall_mem_cons.mpr ⟨lw_p22, List.forall_mem_cons.mpr ⟨lw_p23, List.forall_mem_cons.mpr ⟨lw_p24, List.forall_mem_cons.mpr ⟨lw_p25, List.forall_mem_cons.mpr ⟨lw_p26, List.forall_mem_cons.mpr ⟨lw_p27, List.forall_mem_cons.mpr ⟨lw_p28, List.forall_mem_cons.mpr ⟨lw_p29, List.forall_mem_cons.mpr ⟨lw_p30, fun _ h => absurd h List.not_mem_nil⟩⟩⟩⟩⟩⟩⟩⟩⟩⟩⟩⟩⟩⟩⟩
def lw_privs : List (MethodName × Nat) := lw_privs_1 ++ (lw_privs_2)
def lw_tbl : List Cond := k2_sels lw_privs ++ tables_1
theorem lw_privs_ok : ∀ q ∈ lw_privs, lw_okq q := by
  show ∀ q ∈ lw_privs_1 ++ (lw_privs_2), lw_okq q
  exact List.forall_mem_append.mpr ⟨lw_r1, lw_r2⟩
end
section
/-- the printed va_mna names this; no file of the kit defines it -/
def va_AOA (ty : FieldType) (U : State) : Prop := (Cond.arrayOver (.array ty)).before #[] U = true
theorem va_AOA.use {ty : FieldType} {A : Array Value} {U : State} (h : va_AOA ty U) : (Cond.arrayOver (.array ty)).before A U = true := h
/-! ===== BEGIN words of one list among another's, by their places ===== -/
theorem goodIn_r {big : List Cond} (ws : List Cond) (ps : List Nat) (hp : ws = ps.filterMap (fun i => big[i]?)) (h : ws.all goodWord = true) : GoodIn big ws := by
  intro w hw
  have h1 := List.all_eq_true.mp h w hw
  rw [hp] at hw
  obtain ⟨i, -, hi⟩ := List.mem_filterMap.mp hw
  have hm : w ∈ big := by first | exact List.mem_of_getElem? hi | exact List.getElem?_mem hi
  exact ⟨hm, good_of_word h1⟩
theorem goodIn_app {big a b : List Cond} (ha : GoodIn big a) (hb : GoodIn big b) : GoodIn big (a ++ b) := fun w h => (List.mem_append.mp h).elim (ha w) (hb w)
theorem goodIn_ca {big a b : List Cond} {c : Cond} (ha : GoodIn big (c :: a)) (hb : GoodIn big b) : GoodIn big (c :: (a ++ b)) := fun w h => (List.mem_cons.mp h).elim (fun e => ha w (List.mem_cons.mpr (Or.inl e))) (fun h => (List.mem_append.mp h).elim (fun h => ha w (List.mem_cons.mpr (Or.inr h))) (hb w))
theorem goodIn_sub {big ws : List Cond} (hm : ∀ w ∈ ws, w ∈ big) (h : ws.all goodWord = true) : GoodIn big ws := fun w hw => ⟨hm w hw, good_of_word (List.all_eq_true.mp h w hw)⟩
/-! ===== END ===== -/

/-! ===== BEGIN new T[n][m]: the outer array a place, the inner ones among the pooled ===== -/
/-- f, but v at every address of l -/
def vr_up {α : Type} (f : Nat → α) (l : List Nat) (v : α) : Nat → α := fun a => if a ∈ l then v else f a
theorem vr_up_in {α : Type} {f : Nat → α} {l : List Nat} {v : α} {a : Nat} (h : a ∈ l) : vr_up f l v a = v := if_pos h
theorem vr_up_ne {α : Type} {f : Nat → α} {l : List Nat} {v : α} {a : Nat} (h : a ∉ l) : vr_up f l v a = f a := if_neg h
theorem vr_rows {L l : List Nat} {f : Nat → va_E} {e : va_E} (h : ∀ a, a ∈ l → a ∉ L) : va_pl L f ++ l.map (fun a => (a, e)) = va_pl (L ++ l) (vr_up f l e) := by
  unfold va_pl
  rw [List.map_append]
  congr 1
  · apply List.map_congr_left
    intro a ha
    rw [vr_up_ne (fun q => h a q ha)]
  · apply List.map_congr_left
    intro a ha
    rw [vr_up_in ha]
theorem vr_lay {X rows : va_W} {x : Nat × va_E} {pl : va_W} {D : va_G} {cl : List vw_C} {H : Heap} (hP : va_P D cl (((X ++ pl) ++ [x]) ++ rows) H) : va_P D cl ((X ++ [x]) ++ (pl ++ rows)) H := by
  rw [List.append_assoc (X ++ pl)] at hP
  have h := va_P.swap hP
  rw [← List.append_assoc X] at h
  have h2 := va_P.swap h
  rw [List.append_assoc (X ++ [x])] at h2
  exact h2
theorem vr_layD {X rows : va_W} {x : Nat × va_E} {pl : va_W} {A : Nat → Prop} (hD : va_D A (((X ++ pl) ++ [x]) ++ rows)) : va_D A ((X ++ [x]) ++ (pl ++ rows)) := by
  rw [List.append_assoc (X ++ pl)] at hD
  have h := va_D.swap hD
  rw [← List.append_assoc X] at h
  have h2 := va_D.swap h
  rw [List.append_assoc (X ++ [x])] at h2
  exact h2
theorem vr_outer (c : ClassId) (N h0 : Nat) : ∀ i : Nat, Jvm.Free.Multi.outerC c N h0 i = arrV c N (fun j => va_rf (if j < i then some (h0 + 1 + j) else none))
  | 0 => by
    show ({ cls := c, slots := Array.replicate N .null, vm := .none } : Cell) = _
    rw [arrV_new]
    refine congrArg (arrV c N) (funext fun j => ?_)
    simp [va_rf]
  | i + 1 => by
    show (Jvm.Free.Multi.outerC c N h0 i).setSlot i (.ref (h0 + 1 + i)) = _
    rw [vr_outer c N h0 i, arrV_store]
    refine congrArg (arrV c N) (funext fun j => ?_)
    by_cases e : j = i
    · subst e
      simp [updV, va_rf]
    · by_cases h : j < i
      · simp [updV, e, h, Nat.lt_succ_of_lt h]
      · simp [updV, e, h, show ¬ j < i + 1 by omega]
section VGM
variable {p : Program} {l : Launch} {e : Env} {R : Room} {s : State} {m : MethodId} {args : Array Value} {below : List Frame} {meth : Method} {c : Code} {H : Heap} {locs : List Loc} {cells slots : Nat} {Q : State → Prop}
variable {cc : ByteArray} {pc : Nat} {ls : Array Slot} {rest : List Value} {D : va_G} {cl : List vw_C} {A : Nat → Prop} {a : Nat} {tys : List (ClassId × FieldType)} {ws : va_W} {H0 : Heap}
theorem va_mna {X : va_W} {L : List Nat} {f : Nat → va_E} {cc : ByteArray} (hexec : p.tables.exec = Jvm.exec) (hb : c.code = cc) {own : String} {index : Nat} {ty : FieldType} {cy : ClassId} (hown : s.vm.findClass own = some m.cls) (hclink : (Cond.classLink own index ("[" ++ (FieldType.array ty).toString)).before args s = true) (hover : va_AOA ty s) (harr : (Cond.arrayClass ty).before args s = true) (hcy : s.vm.findClass (FieldType.array ty).toString = some cy)
    (hK : va_K D cl tys s) (hP : va_P D cl (X ++ va_pl L f) H) (hD : va_D A (X ++ va_pl L f)) (hS : va_S A H0 H locs) (hA : ∀ q, H0.size ≤ q → A q) {n k : Int32} {N' K' : Nat} {z : vp_A} (hn : ¬ n < 0) (hk : ¬ k < 0) (hN : n.toNatClampNeg = N') (hM : k.toNatClampNeg = K')
    (hb1 : N' * 4 ≤ 536870912) (hb2 : K' * componentBytes ty ≤ 536870912) (hb3 : K' ≤ 536870912) (hdf : fits ty (defaultValue ty) = true) (hdd : (defaultValue ty).isDefault = true) (hcells : cells + (1 + N') ≤ R.cells) (hslots : slots + (N' + N' * K') ≤ R.slots) (hz : ∀ c : ClassId, Jvm.Free.Multi.innerC c K' (defaultValue ty) = vp_cell c z) (hdg : decode cc pc = .ok (.multianewarray index 2, 4))
    (kk : ∀ (q : Nat) (r : Nat → Nat) (cA : ClassId) (H1 : Heap), (∀ i j : Nat, i < N' → j < N' → r i = r j → i = j) → (∀ i : Nat, i < N' → r i ∉ L) → va_K D cl (tys ++ [(cA, .array ty)]) s →
      va_P D cl ((X ++ [(q, .inl (cA, N', .inr (.inr (.inr (.inr (fun i => if i < N' then some (r i) else none))))))]) ++ va_pl (L ++ (List.range N').map r) (vr_up f ((List.range N').map r) (.inl (cy, z)))) H1 → va_D A ((X ++ [(q, .inl (cA, N', .inr (.inr (.inr (.inr (fun i => if i < N' then some (r i) else none))))))]) ++ va_pl (L ++ (List.range N').map r) (vr_up f ((List.range N').map r) (.inl (cy, z)))) → va_S A H0 H1 locs →
      W p l e R s m args below meth c H1 locs (cells + 1 + N') (slots + N' + N' * K') Q (F0 m (pc + 4) ls (.ref q :: rest))) : W p l e R s m args below meth c H locs cells slots Q (F0 m pc ls (.int k :: .int n :: rest)) := by
  subst hN
  subst hM
  intro T hT Xs
  obtain ⟨vm₁, cA, comp, -, fA, fC, hO, -, X', step⟩ := Xs.multianewarray2F hexec hown hclink (va_AOA.use hover) harr (g := F0 m pc ls (.int k :: .int n :: rest)) rfl (by rw [hb]; exact hdg) rfl hn hk hb1 hb2 hb3 hdf hdd hcells hslots
  have ec : some cy = some comp := hcy.symm.trans fC
  cases ec
  generalize hF : Jvm.Free.Multi.fill (T.setVm vm₁) cA cy n.toNatClampNeg k.toNatClampNeg (defaultValue ty) n.toNatClampNeg = F at X' step
  have hTh : (T.setVm vm₁).heap = H := hT
  obtain ⟨f1, f2, -, -⟩ := Jvm.Free.Multi.fill_facts (T.setVm vm₁) cA cy n.toNatClampNeg k.toNatClampNeg (defaultValue ty) n.toNatClampNeg
  rw [hF, hTh] at f1 f2
  have hold : ∀ x : Nat, x < H.size → F.heap[x]? = H[x]? := fun x hx => by
    have := Jvm.Free.Multi.fill_old (T.setVm vm₁) cA cy n.toNatClampNeg k.toNatClampNeg (defaultValue ty) (a := x) (by rw [hTh]; exact hx) n.toNatClampNeg
    rw [hF, hTh] at this
    exact this
  have hrow : ∀ j : Nat, j < n.toNatClampNeg → F.heap[H.size + 1 + j]? = some (vp_cell cy z) := fun j hj => by
    have := Jvm.Free.Multi.fill_inner (T.setVm vm₁) cA cy n.toNatClampNeg k.toNatClampNeg (defaultValue ty) n.toNatClampNeg j hj
    rw [hF, hTh, hz] at this
    exact this
  have hout : Jvm.Free.Multi.outerC cA n.toNatClampNeg H.size n.toNatClampNeg = vp_cell cA (n.toNatClampNeg, .inr (.inr (.inr (.inr (fun i => if i < n.toNatClampNeg then some (H.size + 1 + i) else none))))) := by
    rw [vp_cell_q]
    exact vr_outer cA n.toNatClampNeg H.size n.toNatClampNeg
  rw [hout] at f2
  have hlt : ∀ a, a ∈ L → a < H.size := fun a ha => by
    obtain ⟨k9, hk9⟩ := va_pl_get (X := X) (f := f) ha
    exact (hP k9 _ hk9).lt
  have hnl : ∀ i : Nat, i < n.toNatClampNeg → H.size + 1 + i ∉ L := fun i _ h => by
    have := hlt _ h
    omega
  have hnm : ∀ a, a ∈ (List.range n.toNatClampNeg).map (fun i => H.size + 1 + i) → a ∉ L := fun a ha h => by
    obtain ⟨i, -, rfl⟩ := List.mem_map.mp ha
    have := hlt _ h
    omega
  have hP0 : va_P D cl (X ++ va_pl L f) F.heap := hP.kept (fun k9 x hx => hold x.1 ((hP k9 x hx).lt))
  have hP1 : va_P D cl ((X ++ va_pl L f) ++ [(H.size, .inl (cA, n.toNatClampNeg, .inr (.inr (.inr (.inr (fun i => if i < n.toNatClampNeg then some (H.size + 1 + i) else none))))))]) F.heap := hP0.app (fun k9 x hx => by
    have h0 : k9 < 1 := (List.getElem?_eq_some_iff.mp hx).1
    rw [show k9 = 0 by omega] at hx
    cases hx
    exact f2)
  have hP2 : va_P D cl (((X ++ va_pl L f) ++ [(H.size, .inl (cA, n.toNatClampNeg, .inr (.inr (.inr (.inr (fun i => if i < n.toNatClampNeg then some (H.size + 1 + i) else none))))))]) ++ ((List.range n.toNatClampNeg).map (fun i => H.size + 1 + i)).map (fun a => (a, .inl (cy, z)))) F.heap := hP1.app (fun k9 x hx => by
    obtain ⟨a, ha, rfl⟩ := List.mem_map.mp (List.mem_of_getElem? hx)
    obtain ⟨i, hi, rfl⟩ := List.mem_map.mp ha
    exact hrow i (List.mem_range.mp hi))
  have hD2 : va_D A (((X ++ va_pl L f) ++ [(H.size, .inl (cA, n.toNatClampNeg, .inr (.inr (.inr (.inr (fun i => if i < n.toNatClampNeg then some (H.size + 1 + i) else none))))))]) ++ ((List.range n.toNatClampNeg).map (fun i => H.size + 1 + i)).map (fun a => (a, .inl (cy, z)))) := by
    have hD1 := hD.push (e := .inl (cA, n.toNatClampNeg, .inr (.inr (.inr (.inr (fun i => if i < n.toNatClampNeg then some (H.size + 1 + i) else none)))))) hP rfl (hA _ hS.1)
    generalize hW1 : (X ++ va_pl L f) ++ [(H.size, .inl (cA, n.toNatClampNeg, .inr (.inr (.inr (.inr (fun i => if i < n.toNatClampNeg then some (H.size + 1 + i) else none))))))] = W1 at hD1 hP1 ⊢
    have hle : ∀ (k9 : Nat) (x : Nat × va_E), W1[k9]? = some x → x.1 ≤ H.size := fun k9 x hx => by
      rw [← hW1] at hx
      by_cases hl : k9 < (X ++ va_pl L f).length
      · rw [List.getElem?_append_left hl] at hx
        exact Nat.le_of_lt ((hP k9 x hx).lt)
      · rw [List.getElem?_append_right (by omega)] at hx
        have h0 : k9 - (X ++ va_pl L f).length < 1 := (List.getElem?_eq_some_iff.mp hx).1
        rw [show k9 - (X ++ va_pl L f).length = 0 by omega] at hx
        cases hx
        exact Nat.le_refl _
    have hr : ∀ (k9 : Nat) (x : Nat × va_E), (((List.range n.toNatClampNeg).map (fun i => H.size + 1 + i)).map (fun a => ((a, .inl (cy, z)) : Nat × va_E)))[k9]? = some x → x.1 = H.size + 1 + k9 := fun k9 x hx => by
      rw [List.getElem?_map, List.getElem?_map] at hx
      by_cases h9 : k9 < n.toNatClampNeg
      · rw [List.getElem?_range h9] at hx
        cases hx
        rfl
      · have hn0 : (List.range n.toNatClampNeg)[k9]? = none := List.getElem?_eq_none (by rw [List.length_range]; omega)
        rw [hn0] at hx
        cases hx
    refine ⟨fun i j x y hi hj hxy => ?_, fun k9 x hx => ?_⟩
    · by_cases h1 : i < W1.length <;> by_cases h2 : j < W1.length
      · rw [List.getElem?_append_left h1] at hi
        rw [List.getElem?_append_left h2] at hj
        exact hD1.1 i j x y hi hj hxy
      · rw [List.getElem?_append_left h1] at hi
        rw [List.getElem?_append_right (by omega)] at hj
        have := hle _ _ hi
        have := hr _ _ hj
        omega
      · rw [List.getElem?_append_right (by omega)] at hi
        rw [List.getElem?_append_left h2] at hj
        have := hle _ _ hj
        have := hr _ _ hi
        omega
      · rw [List.getElem?_append_right (by omega)] at hi hj
        have := hr _ _ hi
        have := hr _ _ hj
        omega
    · by_cases h1 : k9 < W1.length
      · rw [List.getElem?_append_left h1] at hx
        exact hD1.2 k9 x hx
      · rw [List.getElem?_append_right (by omega)] at hx
        have := hr _ _ hx
        exact hA _ (by have := hS.1; omega)
  have hAr : ArrOfT s cA (.array ty) := fun N9 z9 => by
    obtain ⟨-, k9, hk9, cm9, hkk9⟩ := (hO 0 0 0).1
    exact ⟨(fun q hq => by cases hq), k9, hk9, cm9, hkk9⟩
  have hK2 : va_K D cl (tys ++ [(cA, .array ty)]) s := ⟨hK.1, fun k9 x hx => by
    by_cases hl : k9 < tys.length
    · rw [List.getElem?_append_left hl] at hx
      exact hK.2 k9 x hx
    · rw [List.getElem?_append_right (by omega)] at hx
      have h0 : k9 - tys.length < 1 := (List.getElem?_eq_some_iff.mp hx).1
      rw [show k9 - tys.length = 0 by omega] at hx
      cases hx
      exact ⟨hAr, fA⟩⟩
  obtain ⟨t, a1, b1⟩ := kk H.size (fun i => H.size + 1 + i) cA F.heap (fun i j _ _ h => by have h9 : H.size + 1 + i = H.size + 1 + j := h; omega) hnl hK2 (by rw [← vr_rows hnm]; exact vr_lay hP2) (by rw [← vr_rows hnm]; exact vr_layD hD2) ⟨by rw [f1]; have := hS.1; omega, fun x h1 h2 => (hold x (Nat.lt_of_lt_of_le h1 hS.1)).trans (hS.2.1 x h1 h2), hS.2.2⟩ F rfl X'
  refine ⟨t, step t ?_, b1⟩
  have e : T.heap.size = H.size := by rw [hT]
  rw [e]
  exact a1
end VGM
/-! ===== END ===== -/

/-! ===== BEGIN exceptions that leave a method, and their catching by the caller (launches without stack traces) ===== -/
section VXA
/-! The laws vx_back, vx_callV, vx_callS, vx_callSW, vx_throw0, vx_throwS follow proofs of the library, with one case more: JvmDerived/Free/Laws.lean (Back.of_free), Shelf42/LK1.lean (callV, callS), Shelf/KitTraced.lean (throwNew0V, throwNewS). -/
/-- where a method has thrown q: the class by its name, the cell, what was written, the world -/
def vx_T (XC : String → State → State → Prop) (st : State) (q : Addr) (t : State) (mc ms : Nat) (free : Addr → Prop) : Prop :=
  ∃ (E : String) (ce : Cell) (L : List Loc), XC E st t ∧ t.heap[q]? = some ce ∧ ce.vm = .none ∧ st.vm.findClass E = some ce.cls ∧ st.WarmedH t.vm ∧ st.sameButNew ({ t with vm := st.vm } : State) L mc ms ∧ ∀ z ∈ L, free z.base
def vx_Q (Qc : Array Value → State → Outcome → State → Prop) (XC : String → State → State → Prop) (mc ms : Nat) (free : Addr → Prop) : Array Value → State → Outcome → State → Prop := fun a st o t =>
  (Qc a st o t ∧ ∃ L, FrameEnd st o t L mc ms ∧ ∀ q ∈ L, free q.base) ∨ ∃ q, o = .threw q ∧ vx_T XC st q t mc ms free
/-- a callee that returns or throws -/
def vx_Met (l : Launch) (y : MethodName) (ws : List Cond) (rm : Room) (Pc : Array Value → State → Prop) (Qc : Array Value → State → Outcome → State → Prop) (XC : String → State → State → Prop) (mc ms : Nat) (free : Addr → Prop) : Prop :=
  MetFree l y (headSpec ws rm) Pc (fun _ _ _ _ _ => True) (vx_Q Qc XC mc ms free)
def vx_Post (XC : String → State → State → Prop) (mc ms : Nat) (free : Addr → Prop) : Pt → Array Value → Addr → Pt → Prop := fun A a q B =>
  ∃ (g : JFrame) (mk : MethodId) (t : State) (L : List Loc) (E : String) (ce : Cell), B.U.heap = t.heap ∧ B.U.vm = t.vm ∧ XC E (A.U.calling g mk a) t ∧ t.heap[q]? = some ce ∧ ce.vm = .none ∧ A.U.vm.findClass E = some ce.cls ∧ B.locs = A.locs ++ L ∧ (∀ z ∈ L, free z.base) ∧ B.cells = A.cells + mc ∧ B.slots = A.slots + ms
def vx_Back (l : Launch) (R : Room) (p : Program) (e : Env) (below : List Frame) (s : State) (sargs : Array Value) (y : MethodName) (len W9 : Nat)
    (Pre : Pt → Array Value → Prop) (Post : Pt → Array Value → Option Value → Pt → Prop) (PostX : Pt → Array Value → Addr → Pt → Prop) : Prop :=
  ∀ (m : MethodId) (meth : Method) (c : Code) (A : Pt) (g : JFrame) (ig : Instr) (mk : MethodId) (a : Array Value),
    Stand p l e R s m sargs below meth c A.U A.locs A.cells A.slots → g.method = m → g.locals.size = c.maxLocals → decode c.code g.pc = .ok (ig, len) →
    2 * g.monitorRoom + (g.stack.map fun v => v.category).sum ≤ W9 → A.U.methodNamed? y = some mk → Pre A a →
    (∃ (v : Option Value) (B : Pt), Stand p l e R s m sargs below meth c B.U B.locs B.cells B.slots ∧ Post A a v B ∧
      Steps p.tables e below (doInvoke e (A.U.setTop g) [] mk a).1 (B.U.setTop { g with pc := g.pc + len, stack := v.toList ++ g.stack })) ∨
    (∃ (q : Addr) (B : Pt), Stand p l e R s m sargs below meth c B.U B.locs B.cells B.slots ∧ PostX A a q B ∧
      Steps p.tables e below (doInvoke e (A.U.setTop g) [] mk a).1 ((B.U.setTop g).pushFrame (.throwing q)))
section Payer
variable {l : Launch} {R : Room} {p : Program} {e : Env} {below : List Frame} {s : State} {sargs : Array Value} {y : MethodName} {len W9 : Nat}
theorem vx_back {ws : List Cond} {rm : Room} {Pc : Array Value → State → Prop} {Qc : Array Value → State → Outcome → State → Prop} {XC : String → State → State → Prop} {mc ms : Nat} {free : Addr → Prop} {bytes : ByteArray} {maxL : Nat} {ret : Option FieldType}
    (hM : vx_Met l y ws rm Pc Qc XC mc ms free) (hblind : FrameBlind Pc) (hrc : rm.cells = mc) (hrs : rm.slots = ms)
    (hframes : rm.frames + 1 ≤ R.frames) (hlocals : W9 + (maxL + 11) + rm.locals ≤ R.locals)
    (hws : ∀ w ∈ ws, ∀ a' U, s.WarmedH U.vm → w.before a' U = true) (hcode : Cond.code y bytes maxL ret ∈ ws) (hinit : ∀ a' U, s.WarmedH U.vm → (Cond.initialized y.cls).before a' U = true) :
    vx_Back l R p e below s sargs y len W9 (PreOf R mc ms Pc) (PostOf Qc mc ms free) (vx_Post XC mc ms free) := by
  intro m meth c A g ig mk a X hg hsize hdg hW hn hp
  have h1 : (headSpec ws rm).pre.before a A.U = true := atoms_intro fun w hw => hws w hw _ _ X.warmed
  have h2 : (Cond.code y bytes maxL ret).before a A.U = true := hws _ hcode _ _ X.warmed
  have h3 : (Cond.initialized y.cls).before a A.U = true := hinit _ _ X.warmed
  have h4 : A.cells + (headSpec ws rm).room.cells ≤ R.cells := by rw [show (headSpec ws rm).room.cells = mc from hrc]; exact hp.1
  have h5 : A.slots + (headSpec ws rm).room.slots ≤ R.slots := by rw [show (headSpec ws rm).room.slots = ms from hrs]; exact hp.2.1
  have hPc : Pc a (A.U.calling g mk a) := hblind _ _ _ _ hp.2.2
  obtain ⟨U, Ls, c0, s0⟩ := A
  dsimp only [Pt.U, Pt.locs, Pt.cells, Pt.slots] at h1 h2 h3 h4 h5 X hn hPc ⊢
  obtain ⟨methY, cY, hmY, hcY, -, hlY, -, -, -, -⟩ := Cond.code_spec hn h2
  obtain ⟨kY, hkY, -⟩ := className_of_methodNamed hn
  have hinitY : kY.init = .initialized := Cond.initialized_spec (findClass_of_methodNamed hn) hkY h3
  have h : At U g.method c below := by rw [hg]; exact X.here
  have hlocals9 : W9 + (maxL + 11) + (headSpec ws rm).room.locals ≤ R.locals := hlocals
  have happ : (headSpec ws rm).appliesLoose y e.platform (U.calling g mk a) = true :=
    Spec.appliesLoose_calling (g := g) h hdg hn hkY hinitY
      (X.room_calling (g := g) (R' := (headSpec ws rm).room) hsize hmY hcY hframes (by rw [hlY]; omega) h4 h5) h1
  obtain ⟨mid, hmid⟩ := h.above
  have hfr : (U.setTop g).frames = (.java g :: mid) ++ below := by rw [State.frames_setTop' g h.top, hmid]; rfl
  obtain ⟨o, s₂, hsteps, -, hend, hq⟩ := Steps.callFree hM p X.admits X.cas X.clock (acts := []) hfr happ hPc trivial
  have hq' : vx_Q Qc XC mc ms free a (U.calling g mk a) o s₂ := hq
  rw [State.frames_setTop' g h.top] at hend
  obtain ⟨g₀, hg0⟩ := Option.isSome_iff_exists.mp h.top
  obtain ⟨r, hr⟩ := State.topJava?_eq_some.mp hg0
  have hr' : (({ U with heap := s₂.heap, slotsUsed := s₂.slotsUsed } : State).setVm s₂.vm).frames = .java g₀ :: r := hr
  rcases hq' with ⟨hqc, L, hfe, hL⟩ | ⟨q, rfl, E, ce, L, hx, hce, hcv, hcl, hW₂, hsm, hL⟩
  · obtain ⟨⟨v, rfl⟩, hW₂, e2, q2, q3, q4, q5, q6⟩ := id hfe
    have e3 : s₂ = ({ (U.calling g mk a).setFrames s₂.frames with heap := s₂.heap, slotsUsed := s₂.slotsUsed } : State).setVm s₂.vm := by
      have : s₂ = ({ s₂ with vm := (U.calling g mk a).vm } : State).setVm s₂.vm := rfl
      rw [e2] at this
      exact this
    obtain ⟨c₂, i₂, len₂, hc₂, hd₂, hf₂⟩ := hend
    have hW' : U.WarmedH s₂.vm := hW₂
    have hcc : c₂ = c := by
      have h1 : s₂.code? g.method = U.code? g.method := by
        rw [State.code?_eq, State.code?_eq, hW'.alike.method?]
      exact Option.some.inj (hc₂.symm.trans (h1.trans h.code))
    subst hcc
    have hlen : len₂ = len := by rw [hdg] at hd₂; cases hd₂; rfl
    subst hlen
    have hs₂ : s₂ = (({ U with heap := s₂.heap, slotsUsed := s₂.slotsUsed } : State).setVm s₂.vm).setTop { g with pc := g.pc + len₂, stack := v.toList ++ g.stack } := by
      refine e3.trans ?_
      rw [hf₂, State.calling_eq h.top, State.setFrames_setFrames, State.setTop_of_frames _ hr', hr]
      rfl
    have hsame : U.sameButNew ({ U with heap := s₂.heap, slotsUsed := s₂.slotsUsed } : State) L mc ms := by
      refine ⟨?_, q2, q3, q4, q5, q6⟩
      obtain ⟨t, ht, -⟩ := State.frames_cons hr
      show ({ U with heap := s₂.heap, slotsUsed := s₂.slotsUsed } : State) = { U.setFrames U.frames with heap := s₂.heap, slotsUsed := s₂.slotsUsed }
      rw [State.setFrames_self ht]
    subst hg
    refine Or.inl ⟨v, ⟨(({ U with heap := s₂.heap, slotsUsed := s₂.slotsUsed } : State).setVm s₂.vm), Ls ++ L, c0 + mc, s0 + ms⟩,
      ⟨X.admits, X.cas, X.clock, X.frames, X.room, X.hears, X.method, X.code, (X.here.setHeapUsed s₂.heap s₂.slotsUsed).setVm hW'.alike, X.tail, State.WarmedH.trans X.warmed hW', X.limits, X.bytes, X.same.trans (hsame.setVm s.vm)⟩,
      ⟨g, mk, s₂, L, rfl, rfl, hqc, rfl, hL, rfl, rfl⟩, ?_⟩
    show Steps p.tables e below _ ((({ U with heap := s₂.heap, slotsUsed := s₂.slotsUsed } : State).setVm s₂.vm).setTop { g with pc := g.pc + len₂, stack := v.toList ++ g.stack })
    rw [← hs₂]
    exact hsteps
  · obtain ⟨e2, q2, q3, q4, q5, q6⟩ := id hsm
    have e3 : s₂ = ({ (U.calling g mk a).setFrames s₂.frames with heap := s₂.heap, slotsUsed := s₂.slotsUsed } : State).setVm s₂.vm := by
      have : s₂ = ({ s₂ with vm := (U.calling g mk a).vm } : State).setVm s₂.vm := rfl
      rw [e2] at this
      exact this
    have hf₂ : s₂.frames = .throwing q :: .java g :: U.frames.tail := hend
    have hW' : U.WarmedH s₂.vm := hW₂
    have hs₂ : s₂ = ((({ U with heap := s₂.heap, slotsUsed := s₂.slotsUsed } : State).setVm s₂.vm).setTop g).pushFrame (.throwing q) := by
      refine e3.trans ?_
      rw [hf₂, State.calling_eq h.top, State.setFrames_setFrames, State.pushFrame, State.frames_setTop _ hr', State.setTop_of_frames _ hr', State.setFrames_setFrames, hr]
      rfl
    have hsame : U.sameButNew ({ U with heap := s₂.heap, slotsUsed := s₂.slotsUsed } : State) L mc ms := by
      refine ⟨?_, q2, q3, q4, q5, q6⟩
      obtain ⟨t, ht, -⟩ := State.frames_cons hr
      show ({ U with heap := s₂.heap, slotsUsed := s₂.slotsUsed } : State) = { U.setFrames U.frames with heap := s₂.heap, slotsUsed := s₂.slotsUsed }
      rw [State.setFrames_self ht]
    subst hg
    refine Or.inr ⟨q, ⟨(({ U with heap := s₂.heap, slotsUsed := s₂.slotsUsed } : State).setVm s₂.vm), Ls ++ L, c0 + mc, s0 + ms⟩,
      ⟨X.admits, X.cas, X.clock, X.frames, X.room, X.hears, X.method, X.code, (X.here.setHeapUsed s₂.heap s₂.slotsUsed).setVm hW'.alike, X.tail, State.WarmedH.trans X.warmed hW', X.limits, X.bytes, X.same.trans (hsame.setVm s.vm)⟩,
      ⟨g, mk, s₂, L, E, ce, rfl, rfl, hx, hce, hcv, hcl, rfl, hL, rfl, rfl⟩, ?_⟩
    show Steps p.tables e below _ (((({ U with heap := s₂.heap, slotsUsed := s₂.slotsUsed } : State).setVm s₂.vm).setTop g).pushFrame (.throwing q))
    rw [← hs₂]
    exact hsteps
end Payer
section Calls
variable {p : Program} {l : Launch} {e : Env} {R : Room} {s : State} {m : MethodId} {args : Array Value} {below : List Frame} {meth : Method} {c : Code} {T : State} {locs : List Loc} {cells slots : Nat}
theorem vx_callV (X : Stand p l e R s m args below meth c T locs cells slots) (hexec : p.tables.exec = Jvm.exec) {own C : String} {index : Nat} {y : MethodName} {bytes : ByteArray} {maxL : Nat} {ret : Option FieldType}
    (hown : s.vm.findClass own = some m.cls) (hlink : (Cond.methodLink own index y).before args s = true) (hinst : (Cond.instanceMethod y).before args s = true) (hsel : (Cond.selects C y y).before args s = true)
    (hcode : (Cond.code y bytes maxL ret).before args s = true) (hy : y.cls ≠ "java/lang/invoke/MethodHandle" ∧ y.cls ≠ "java/lang/invoke/VarHandle")
    {W9 : Nat} {Pre : Pt → Array Value → Prop} {Post : Pt → Array Value → Option Value → Pt → Prop} {PostX : Pt → Array Value → Addr → Pt → Prop} (hK : vx_Back l R p e below s args y 3 W9 Pre Post PostX)
    {b : Addr} {cellB : Cell} (hcell : T.heap[b]? = some cellB) (hobj : cellB.vm.isStatics = false) (hcls : s.vm.findClass C = some cellB.cls)
    {g : JFrame} (hg : g.method = m) (hsize : g.locals.size = c.maxLocals) {argsL rest : List Value} (hlen : ∀ sig, parseMethodDescriptor y.desc = some sig → argsL.length = sig.parameters.length)
    (hstack : g.stack = argsL.reverse ++ .ref b :: rest) (hW : 2 * g.monitorRoom + (rest.map fun v => v.category).sum ≤ W9) (hdg : decode c.code g.pc = .ok (.invokevirtual index, 3))
    (hpre : ∀ vm₁, s.WarmedH vm₁ → Pre ⟨T.setVm vm₁, locs, cells, slots⟩ (Value.ref b :: argsL).toArray) :
    (∃ (v : Option Value) (vm₁ : Vm) (B : Pt), s.WarmedH vm₁ ∧ Stand p l e R s m args below meth c B.U B.locs B.cells B.slots ∧ Post ⟨T.setVm vm₁, locs, cells, slots⟩ (Value.ref b :: argsL).toArray v B ∧
      ∀ target, Steps p.tables e below (B.U.setTop { g with pc := g.pc + 3, stack := v.toList ++ rest }) target → Steps p.tables e below (T.setTop g) target) ∨
    (∃ (q : Addr) (vm₁ : Vm) (B : Pt), s.WarmedH vm₁ ∧ Stand p l e R s m args below meth c B.U B.locs B.cells B.slots ∧ PostX ⟨T.setVm vm₁, locs, cells, slots⟩ (Value.ref b :: argsL).toArray q B ∧
      Steps p.tables e below (T.setTop g) ((B.U.setTop { g with stack := rest }).pushFrame (.throwing q))) := by
  obtain ⟨mk, methM, hnamed, hmethM, hstM, habM⟩ := Cond.instanceMethod_spec hinst
  obtain ⟨methM', cM, hmethM', -, -, -, -, -, -, hsigM⟩ := Cond.code_spec hnamed hcode
  cases hmethM.symm.trans hmethM'
  obtain ⟨c2, r2, m2, q1, q2, q3, q4, kP, hkP, hkPi⟩ := Cond.selects_spec hsel
  cases hcls.symm.trans q1
  cases (State.methodFound?_of_named hnamed hy).symm.trans q2
  cases hnamed.symm.trans q3
  have hselP : selectMethod e.platform s.vm cellB.cls mk = .method mk := by rw [Launch.admits_selectMethod X.admits]; exact q4
  obtain ⟨vm₁, X₁, hstep₁⟩ := X.invokevirtual hexec hown hlink hnamed hmethM hstM hkP hkPi hy (a := b) (cell := cellB) hcell
    (fun z h => by rw [h] at hobj; cases hobj) hselP hmethM habM hkP hkPi (g := g) hg (argsL := argsL) (rest := rest) (hlen _ hsigM) hstack hdg
  rcases hK m meth c ⟨T.setVm vm₁, locs, cells, slots⟩ { g with stack := rest } (.invokevirtual index) mk (Value.ref b :: argsL).toArray X₁ hg hsize hdg hW (X₁.named hnamed) (hpre vm₁ X₁.warmed) with ⟨v, B, X', hpost, hsteps⟩ | ⟨q, B, X', hpost, hsteps⟩
  · exact Or.inl ⟨v, vm₁, B, X₁.warmed, X', hpost, fun target h => hstep₁ _ fun acts => by rw [doInvoke_state]; exact hsteps.trans h⟩
  · exact Or.inr ⟨q, vm₁, B, X₁.warmed, X', hpost, hstep₁ _ fun acts => by rw [doInvoke_state]; exact hsteps⟩
theorem vx_callS (X : Stand p l e R s m args below meth c T locs cells slots) (hexec : p.tables.exec = Jvm.exec) {own : String} {index : Nat} {y : MethodName} {bytes : ByteArray} {maxL : Nat} {ret : Option FieldType}
    (hown : s.vm.findClass own = some m.cls) (hlink : (Cond.methodLink own index y).before args s = true) (hstat : (Cond.static y).before args s = true) (hinit : (Cond.initialized y.cls).before args s = true)
    (hcode : (Cond.code y bytes maxL ret).before args s = true) (hy : y.cls ≠ "java/lang/invoke/MethodHandle" ∧ y.cls ≠ "java/lang/invoke/VarHandle")
    {W9 : Nat} {Pre : Pt → Array Value → Prop} {Post : Pt → Array Value → Option Value → Pt → Prop} {PostX : Pt → Array Value → Addr → Pt → Prop} (hK : vx_Back l R p e below s args y 3 W9 Pre Post PostX)
    {g : JFrame} (hg : g.method = m) (hsize : g.locals.size = c.maxLocals) {argsL rest : List Value} (hlen : ∀ sig, parseMethodDescriptor y.desc = some sig → argsL.length = sig.parameters.length)
    (hstack : g.stack = argsL.reverse ++ rest) (hW : 2 * g.monitorRoom + (rest.map fun v => v.category).sum ≤ W9) (hdg : decode c.code g.pc = .ok (.invokestatic index, 3))
    (hpre : ∀ vm₁, s.WarmedH vm₁ → Pre ⟨T.setVm vm₁, locs, cells, slots⟩ argsL.toArray) :
    (∃ (v : Option Value) (vm₁ : Vm) (B : Pt), s.WarmedH vm₁ ∧ Stand p l e R s m args below meth c B.U B.locs B.cells B.slots ∧ Post ⟨T.setVm vm₁, locs, cells, slots⟩ argsL.toArray v B ∧
      ∀ target, Steps p.tables e below (B.U.setTop { g with pc := g.pc + 3, stack := v.toList ++ rest }) target → Steps p.tables e below (T.setTop g) target) ∨
    (∃ (q : Addr) (vm₁ : Vm) (B : Pt), s.WarmedH vm₁ ∧ Stand p l e R s m args below meth c B.U B.locs B.cells B.slots ∧ PostX ⟨T.setVm vm₁, locs, cells, slots⟩ argsL.toArray q B ∧
      Steps p.tables e below (T.setTop g) ((B.U.setTop { g with stack := rest }).pushFrame (.throwing q))) := by
  obtain ⟨mk, hnamed⟩ := Cond.code_named hcode
  obtain ⟨methM, cM, hmethM, -, -, -, -, -, -, hsigM⟩ := Cond.code_spec hnamed hcode
  have hstatic : methM.isStatic = true := Cond.static_spec hnamed hmethM hstat
  obtain ⟨kP, hkP, -⟩ := className_of_methodNamed hnamed
  have hinitP : kP.init = .initialized := Cond.initialized_spec (findClass_of_methodNamed hnamed) hkP hinit
  obtain ⟨vm₁, X₁, hstep₁⟩ := X.invokestatic hexec hown hlink hnamed hmethM hstatic hkP hinitP hy (g := g) hg (argsL := argsL) (rest := rest) (hlen _ hsigM) hstack hdg
  rcases hK m meth c ⟨T.setVm vm₁, locs, cells, slots⟩ { g with stack := rest } (.invokestatic index) mk argsL.toArray X₁ hg hsize hdg hW (X₁.named hnamed) (hpre vm₁ X₁.warmed) with ⟨v, B, X', hpost, hsteps⟩ | ⟨q, B, X', hpost, hsteps⟩
  · exact Or.inl ⟨v, vm₁, B, X₁.warmed, X', hpost, fun target h => hstep₁ _ fun acts => by rw [doInvoke_state]; exact hsteps.trans h⟩
  · exact Or.inr ⟨q, vm₁, B, X₁.warmed, X', hpost, hstep₁ _ fun acts => by rw [doInvoke_state]; exact hsteps⟩
end Calls
theorem vx_cls {s : State} {T : State} {vm₁ : Vm} {E : String} {k : ClassId} (hW : s.WarmedH vm₁) (h : (T.setVm vm₁).vm.findClass E = some k) : s.vm.findClass E = some k := by
  have h1 : vm₁.findClass E = some k := h
  rw [hW.alike.findClass] at h1
  exact h1
/-- the method's frame g, with q thrown over it -/
def vx_W (p : Program) (l : Launch) (e : Env) (R : Room) (s : State) (m : MethodId) (args : Array Value) (below : List Frame) (meth : Method) (c : Code) (H : Heap) (locs : List Loc) (cells slots : Nat) (Q : State → Prop) (g : JFrame) (q : Addr) : Prop :=
  ∀ T : State, T.heap = H → Stand p l e R s m args below meth c T locs cells slots → ∃ t, Steps p.tables e below ((T.setTop g).pushFrame (.throwing q)) t ∧ Q t
def vx_Run (p : Program) (l : Launch) (e : Env) (R : Room) (s : State) (m : MethodId) (args : Array Value) (below : List Frame) (meth : Method) (c : Code) (H : Heap) (locs : List Loc) (cells slots mc ms : Nat) (g : JFrame) (rest : List Value) (Qa : State → Outcome → State → Prop) (XC : String → State → State → Prop) (free : Addr → Prop) : Prop :=
  ∀ T : State, T.heap = H → Stand p l e R s m args below meth c T locs cells slots →
    (∃ (v : Option Value) (st₀ t T' : State) (L : List Loc), st₀.heap = H ∧ Stand p l e R s m args below meth c T' (locs ++ L) (cells + mc) (slots + ms) ∧ (∀ q ∈ L, free q.base) ∧ T'.heap = t.heap ∧ T'.vm = t.vm ∧ Qa st₀ (.returned v) t ∧
      Goes p e below T g T' { g with pc := g.pc + 3, stack := v.toList ++ rest }) ∨
    (∃ (q : Addr) (st₀ t T' : State) (L : List Loc) (E : String) (ce : Cell), st₀.heap = H ∧ Stand p l e R s m args below meth c T' (locs ++ L) (cells + mc) (slots + ms) ∧ (∀ z ∈ L, free z.base) ∧ T'.heap = t.heap ∧ T'.vm = t.vm ∧ XC E st₀ t ∧ t.heap[q]? = some ce ∧ ce.vm = .none ∧ s.vm.findClass E = some ce.cls ∧
      Steps p.tables e below (T.setTop g) ((T'.setTop { g with stack := rest }).pushFrame (.throwing q)))
def vx_X {S : Type} (px : S → Prop) (B : String → S → State → Prop) (A : Nat → Prop) : String → State → State → Prop := fun E st t => ∃ u : S, px u ∧ B E u t ∧ va_F A st t
section Runs
variable {p : Program} {l : Launch} {e : Env} {R : Room} {s : State} {m : MethodId} {args : Array Value} {below : List Frame} {meth : Method} {c : Code} {H : Heap} {locs : List Loc} {cells slots : Nat}
variable {y : MethodName} {bytes cc : ByteArray} {maxL nL mc ms n index : Nat} {ret : Option FieldType} {ws : List Cond} {rm : Room} {Pc : Array Value → State → Prop} {Qc : Array Value → State → Outcome → State → Prop} {XC : String → State → State → Prop} {free : Addr → Prop} {Ts : List Cond} {own C : String} {b : Addr} {As rest : List Value} {g : JFrame}
theorem vx_callBack (cb : CallB R s args own index y bytes maxL ret ws rm mc ms n) (hM : vx_Met l y ws rm Pc Qc XC mc ms free) (hbl : FrameBlind Pc) : vx_Back l R p e below s args y 3 8 (PreOf R mc ms Pc) (PostOf Qc mc ms free) (vx_Post XC mc ms free) := by
  obtain ⟨hrc, hrs, hfr, hlo, hws, hcw, -, hini, -⟩ := cb
  exact vx_back (bytes := bytes) (maxL := maxL) (ret := ret) hM hbl hrc hrs hfr hlo hws hcw (fun a' U hW => word_at hW (Or.inl (by first | rfl | simp [Cond.onTables, Cond.keeps, Cond.steady])) hini)
theorem vx_runV (S : CallFix p m c cc nL s args Ts own) (hM : vx_Met l y ws rm Pc Qc XC mc ms free) (cw : CallW R s args own C index y bytes maxL ret ws rm mc ms n) (hp : PreV s H C b Pc As)
    (hg : g.method = m) (hn : As.length = n) (hsize : g.locals.size = nL) (hstack : g.stack = As.reverse ++ .ref b :: rest) (hW : 2 * g.monitorRoom + (rest.map fun v => v.category).sum ≤ 8) (hdg : decode cc g.pc = .ok (.invokevirtual index, 3)) (hf : cells + mc ≤ R.cells ∧ slots + ms ≤ R.slots) :
    vx_Run p l e R s m args below meth c H locs cells slots mc ms g rest (Qc (Value.ref b :: As).toArray) XC free := by
  have hK : vx_Back l R p e below s args y 3 8 (PreOf R mc ms Pc) (PostOf Qc mc ms free) (vx_Post XC mc ms free) := vx_callBack cw.1 hM hp.1
  obtain ⟨⟨-, -, -, -, -, -, hcode, -, hy, hlen, hl⟩, hin, hse⟩ := cw
  obtain ⟨hx, hb, hml, ho, -⟩ := S
  obtain ⟨-, ⟨cellB, hcB, hoB, hclB⟩, hPc⟩ := hp
  intro T hT X
  rcases vx_callV X hx (C := C) (bytes := bytes) (maxL := maxL) (ret := ret) ho hl hin hse hcode hy hK (by rw [hT]; exact hcB) hoB hclB hg (hsize.trans hml.symm) (argsL := As) (rest := rest) (fun sig h => hn.trans (hlen sig h)) hstack hW (by rw [hb]; exact hdg)
    (fun vm₁ hW₁ => ⟨hf.1, hf.2, hPc (T.setVm vm₁) hT hW₁⟩) with ⟨v, vm₁, ⟨U', l2, c2, s2⟩, hW₁, X', ⟨g', mk, t, L, e1, e2, hq, h1, hL, h2, h3⟩, st⟩ | ⟨q, vm₁, ⟨U', l2, c2, s2⟩, hW₁, X', ⟨g', mk, t, L, E, ce, e1, e2, hq, hce, hcv, hcl, h1, hL, h2, h3⟩, st⟩
  · dsimp only [Pt.U, Pt.locs, Pt.cells, Pt.slots] at X' e1 e2 h1 h2 h3 st
    subst h1; subst h2; subst h3
    exact Or.inl ⟨v, (T.setVm vm₁).calling g' mk (Value.ref b :: As).toArray, t, U', L, hT, X', hL, e1, e2, hq, st⟩
  · dsimp only [Pt.U, Pt.locs, Pt.cells, Pt.slots] at X' e1 e2 h1 h2 h3 st hcl
    subst h1; subst h2; subst h3
    exact Or.inr ⟨q, (T.setVm vm₁).calling g' mk (Value.ref b :: As).toArray, t, U', L, E, ce, hT, X', hL, e1, e2, hq, hce, hcv, vx_cls hW₁ hcl, st⟩
theorem vx_runS (S : CallFix p m c cc nL s args Ts own) (hM : vx_Met l y ws rm Pc Qc XC mc ms free) (cw : CallB R s args own index y bytes maxL ret ws rm mc ms n ∧ (Cond.static y).before args s = true) (hp : PreS s H Pc As)
    (hg : g.method = m) (hn : As.length = n) (hsize : g.locals.size = nL) (hstack : g.stack = As.reverse ++ rest) (hW : 2 * g.monitorRoom + (rest.map fun v => v.category).sum ≤ 8) (hdg : decode cc g.pc = .ok (.invokestatic index, 3)) (hf : cells + mc ≤ R.cells ∧ slots + ms ≤ R.slots) :
    vx_Run p l e R s m args below meth c H locs cells slots mc ms g rest (Qc As.toArray) XC free := by
  have hK : vx_Back l R p e below s args y 3 8 (PreOf R mc ms Pc) (PostOf Qc mc ms free) (vx_Post XC mc ms free) := vx_callBack cw.1 hM hp.1
  obtain ⟨⟨-, -, -, -, -, -, hcode, hini, hy, hlen, hl⟩, hstt⟩ := cw
  obtain ⟨hx, hb, hml, ho, -⟩ := S
  intro T hT X
  rcases vx_callS X hx (bytes := bytes) (maxL := maxL) (ret := ret) ho hl hstt hini hcode hy hK hg (hsize.trans hml.symm) (argsL := As) (rest := rest) (fun sig h => hn.trans (hlen sig h)) hstack hW (by rw [hb]; exact hdg)
    (fun vm₁ hW₁ => ⟨hf.1, hf.2, hp.2 (T.setVm vm₁) hT hW₁⟩) with ⟨v, vm₁, ⟨U', l2, c2, s2⟩, hW₁, X', ⟨g', mk, t, L, e1, e2, hq, h1, hL, h2, h3⟩, st⟩ | ⟨q, vm₁, ⟨U', l2, c2, s2⟩, hW₁, X', ⟨g', mk, t, L, E, ce, e1, e2, hq, hce, hcv, hcl, h1, hL, h2, h3⟩, st⟩
  · dsimp only [Pt.U, Pt.locs, Pt.cells, Pt.slots] at X' e1 e2 h1 h2 h3 st
    subst h1; subst h2; subst h3
    exact Or.inl ⟨v, (T.setVm vm₁).calling g' mk As.toArray, t, U', L, hT, X', hL, e1, e2, hq, st⟩
  · dsimp only [Pt.U, Pt.locs, Pt.cells, Pt.slots] at X' e1 e2 h1 h2 h3 st hcl
    subst h1; subst h2; subst h3
    exact Or.inr ⟨q, (T.setVm vm₁).calling g' mk As.toArray, t, U', L, E, ce, hT, X', hL, e1, e2, hq, hce, hcv, vx_cls hW₁ hcl, st⟩
end Runs
section Rows
variable {p : Program} {l : Launch} {e : Env} {R : Room} {s : State} {m : MethodId} {args : Array Value} {below : List Frame} {meth : Method} {c : Code} {H : Heap} {locs : List Loc} {cells slots : Nat} {Q : State → Prop}
variable {mc ms : Nat} {free : Addr → Prop} {A0 A1 : Nat → Prop} {H0 : Heap} {a : Array Value} {pc : Nat} {ls : Array Slot} {st0 rest : List Value}
theorem vx_keep {st₀ t T' : State} {L : List Loc} (h0 : st₀.heap = H) (e1 : T'.heap = t.heap) (hS : va_S A0 H0 H locs) (hA : ∀ q, q < H.size → A1 q → A0 q) (hf : ∀ q, free q → A0 q) (hL : ∀ q ∈ L, free q.base) (hF : va_F A1 st₀ t) :
    H.size ≤ T'.heap.size ∧ (∀ q : Nat, q < H.size → ¬ A1 q → T'.heap[q]? = H[q]?) ∧ va_S A0 H0 T'.heap (locs ++ L) := by
  obtain ⟨hz, hk⟩ := hF
  rw [h0] at hz hk
  exact ⟨by rw [e1]; exact hz, fun q h1 h2 => by rw [e1]; exact hk q h1 h2,
    ⟨Nat.le_trans hS.1 (by rw [e1]; exact hz), fun q h1 h2 => by rw [e1, hk q (Nat.lt_of_lt_of_le h1 hS.1) (fun z => h2 (hA q (Nat.lt_of_lt_of_le h1 hS.1) z))]; exact hS.2.1 q h1 h2, fun q hq => by
      rcases List.mem_append.mp hq with h | h
      · exact hS.2.2 q h
      · exact hf _ (hL q h)⟩⟩
theorem vx_calli {S SX : Type} {post : Int32 → S → Prop} {px : SX → Prop} {B : S → State → Prop} {BX : String → SX → State → Prop} {AX : Nat → Prop} (hr : vx_Run p l e R s m args below meth c H locs cells slots mc ms (F0 m pc ls st0) rest (va_Qi post B A1 a) (vx_X px BX AX) free) (hS : va_S A0 H0 H locs) (hA : ∀ q, q < H.size → A1 q → A0 q) (hf : ∀ q, free q → A0 q) (hAX : ∀ q, q < H.size → AX q → A0 q)
    (kx : ∀ (E : String) (ce : Cell) (q9 : Addr) (u : SX) (t : State) (H1 : Heap) (locs1 : List Loc), t.heap = H1 → s.vm.Alike t.vm → px u → BX E u t → H.size ≤ H1.size → (∀ q : Nat, q < H.size → ¬ AX q → H1[q]? = H[q]?) → va_S A0 H0 H1 locs1 → H1[q9]? = some ce → ce.vm = .none → s.vm.findClass E = some ce.cls → vx_W p l e R s m args below meth c H1 locs1 (cells + mc) (slots + ms) Q (F0 m pc ls rest) q9)
    (kk : ∀ (r : Int32) (u : S) (t : State) (H1 : Heap) (locs1 : List Loc), t.heap = H1 → s.vm.Alike t.vm → post r u → B u t → H.size ≤ H1.size → (∀ q : Nat, q < H.size → ¬ A1 q → H1[q]? = H[q]?) → va_S A0 H0 H1 locs1 → W p l e R s m args below meth c H1 locs1 (cells + mc) (slots + ms) Q (F0 m (pc + 3) ls (.int r :: rest))) : W p l e R s m args below meth c H locs cells slots Q (F0 m pc ls st0) := by
  intro T hT X
  rcases hr T hT X with ⟨v, st₀, t, T', L, h0, X', hL, e1, e2, ⟨⟨r, u, hv, hp, hb⟩, hF⟩, st⟩ | ⟨q, st₀, t, T', L, E, ce, h0, X', hL, e1, e2, ⟨u, hp, hb, hF⟩, hce, hcv, hcl, st⟩
  · cases hv
    obtain ⟨k1, k2, k3⟩ := vx_keep h0 e1 hS hA hf hL hF
    obtain ⟨t2, a1, b1⟩ := kk r u t T'.heap (locs ++ L) e1.symm (by rw [← e2]; exact X'.warmed.alike) hp hb k1 k2 k3 T' rfl X'
    exact ⟨t2, st t2 a1, b1⟩
  · obtain ⟨k1, k2, k3⟩ := vx_keep h0 e1 hS hAX hf hL hF
    obtain ⟨t2, a1, b1⟩ := kx E ce q u t T'.heap (locs ++ L) e1.symm (by rw [← e2]; exact X'.warmed.alike) hp hb k1 k2 k3 (by rw [e1]; exact hce) hcv hcl T' rfl X'
    exact ⟨t2, st.trans a1, b1⟩
theorem vx_calll {S SX : Type} {post : Int64 → S → Prop} {px : SX → Prop} {B : S → State → Prop} {BX : String → SX → State → Prop} {AX : Nat → Prop} (hr : vx_Run p l e R s m args below meth c H locs cells slots mc ms (F0 m pc ls st0) rest (va_Ql post B A1 a) (vx_X px BX AX) free) (hS : va_S A0 H0 H locs) (hA : ∀ q, q < H.size → A1 q → A0 q) (hf : ∀ q, free q → A0 q) (hAX : ∀ q, q < H.size → AX q → A0 q)
    (kx : ∀ (E : String) (ce : Cell) (q9 : Addr) (u : SX) (t : State) (H1 : Heap) (locs1 : List Loc), t.heap = H1 → s.vm.Alike t.vm → px u → BX E u t → H.size ≤ H1.size → (∀ q : Nat, q < H.size → ¬ AX q → H1[q]? = H[q]?) → va_S A0 H0 H1 locs1 → H1[q9]? = some ce → ce.vm = .none → s.vm.findClass E = some ce.cls → vx_W p l e R s m args below meth c H1 locs1 (cells + mc) (slots + ms) Q (F0 m pc ls rest) q9)
    (kk : ∀ (r : Int64) (u : S) (t : State) (H1 : Heap) (locs1 : List Loc), t.heap = H1 → s.vm.Alike t.vm → post r u → B u t → H.size ≤ H1.size → (∀ q : Nat, q < H.size → ¬ A1 q → H1[q]? = H[q]?) → va_S A0 H0 H1 locs1 → W p l e R s m args below meth c H1 locs1 (cells + mc) (slots + ms) Q (F0 m (pc + 3) ls (.long r :: rest))) : W p l e R s m args below meth c H locs cells slots Q (F0 m pc ls st0) := by
  intro T hT X
  rcases hr T hT X with ⟨v, st₀, t, T', L, h0, X', hL, e1, e2, ⟨⟨r, u, hv, hp, hb⟩, hF⟩, st⟩ | ⟨q, st₀, t, T', L, E, ce, h0, X', hL, e1, e2, ⟨u, hp, hb, hF⟩, hce, hcv, hcl, st⟩
  · cases hv
    obtain ⟨k1, k2, k3⟩ := vx_keep h0 e1 hS hA hf hL hF
    obtain ⟨t2, a1, b1⟩ := kk r u t T'.heap (locs ++ L) e1.symm (by rw [← e2]; exact X'.warmed.alike) hp hb k1 k2 k3 T' rfl X'
    exact ⟨t2, st t2 a1, b1⟩
  · obtain ⟨k1, k2, k3⟩ := vx_keep h0 e1 hS hAX hf hL hF
    obtain ⟨t2, a1, b1⟩ := kx E ce q u t T'.heap (locs ++ L) e1.symm (by rw [← e2]; exact X'.warmed.alike) hp hb k1 k2 k3 (by rw [e1]; exact hce) hcv hcl T' rfl X'
    exact ⟨t2, st.trans a1, b1⟩
theorem vx_callf {S SX : Type} {post : UInt32 → S → Prop} {px : SX → Prop} {B : S → State → Prop} {BX : String → SX → State → Prop} {AX : Nat → Prop} (hr : vx_Run p l e R s m args below meth c H locs cells slots mc ms (F0 m pc ls st0) rest (va_Qf post B A1 a) (vx_X px BX AX) free) (hS : va_S A0 H0 H locs) (hA : ∀ q, q < H.size → A1 q → A0 q) (hf : ∀ q, free q → A0 q) (hAX : ∀ q, q < H.size → AX q → A0 q)
    (kx : ∀ (E : String) (ce : Cell) (q9 : Addr) (u : SX) (t : State) (H1 : Heap) (locs1 : List Loc), t.heap = H1 → s.vm.Alike t.vm → px u → BX E u t → H.size ≤ H1.size → (∀ q : Nat, q < H.size → ¬ AX q → H1[q]? = H[q]?) → va_S A0 H0 H1 locs1 → H1[q9]? = some ce → ce.vm = .none → s.vm.findClass E = some ce.cls → vx_W p l e R s m args below meth c H1 locs1 (cells + mc) (slots + ms) Q (F0 m pc ls rest) q9)
    (kk : ∀ (r : UInt32) (u : S) (t : State) (H1 : Heap) (locs1 : List Loc), t.heap = H1 → s.vm.Alike t.vm → post r u → B u t → H.size ≤ H1.size → (∀ q : Nat, q < H.size → ¬ A1 q → H1[q]? = H[q]?) → va_S A0 H0 H1 locs1 → W p l e R s m args below meth c H1 locs1 (cells + mc) (slots + ms) Q (F0 m (pc + 3) ls (.float r :: rest))) : W p l e R s m args below meth c H locs cells slots Q (F0 m pc ls st0) := by
  intro T hT X
  rcases hr T hT X with ⟨v, st₀, t, T', L, h0, X', hL, e1, e2, ⟨⟨r, u, hv, hp, hb⟩, hF⟩, st⟩ | ⟨q, st₀, t, T', L, E, ce, h0, X', hL, e1, e2, ⟨u, hp, hb, hF⟩, hce, hcv, hcl, st⟩
  · cases hv
    obtain ⟨k1, k2, k3⟩ := vx_keep h0 e1 hS hA hf hL hF
    obtain ⟨t2, a1, b1⟩ := kk r u t T'.heap (locs ++ L) e1.symm (by rw [← e2]; exact X'.warmed.alike) hp hb k1 k2 k3 T' rfl X'
    exact ⟨t2, st t2 a1, b1⟩
  · obtain ⟨k1, k2, k3⟩ := vx_keep h0 e1 hS hAX hf hL hF
    obtain ⟨t2, a1, b1⟩ := kx E ce q u t T'.heap (locs ++ L) e1.symm (by rw [← e2]; exact X'.warmed.alike) hp hb k1 k2 k3 (by rw [e1]; exact hce) hcv hcl T' rfl X'
    exact ⟨t2, st.trans a1, b1⟩
theorem vx_calld {S SX : Type} {post : UInt64 → S → Prop} {px : SX → Prop} {B : S → State → Prop} {BX : String → SX → State → Prop} {AX : Nat → Prop} (hr : vx_Run p l e R s m args below meth c H locs cells slots mc ms (F0 m pc ls st0) rest (va_Qd post B A1 a) (vx_X px BX AX) free) (hS : va_S A0 H0 H locs) (hA : ∀ q, q < H.size → A1 q → A0 q) (hf : ∀ q, free q → A0 q) (hAX : ∀ q, q < H.size → AX q → A0 q)
    (kx : ∀ (E : String) (ce : Cell) (q9 : Addr) (u : SX) (t : State) (H1 : Heap) (locs1 : List Loc), t.heap = H1 → s.vm.Alike t.vm → px u → BX E u t → H.size ≤ H1.size → (∀ q : Nat, q < H.size → ¬ AX q → H1[q]? = H[q]?) → va_S A0 H0 H1 locs1 → H1[q9]? = some ce → ce.vm = .none → s.vm.findClass E = some ce.cls → vx_W p l e R s m args below meth c H1 locs1 (cells + mc) (slots + ms) Q (F0 m pc ls rest) q9)
    (kk : ∀ (r : UInt64) (u : S) (t : State) (H1 : Heap) (locs1 : List Loc), t.heap = H1 → s.vm.Alike t.vm → post r u → B u t → H.size ≤ H1.size → (∀ q : Nat, q < H.size → ¬ A1 q → H1[q]? = H[q]?) → va_S A0 H0 H1 locs1 → W p l e R s m args below meth c H1 locs1 (cells + mc) (slots + ms) Q (F0 m (pc + 3) ls (.double r :: rest))) : W p l e R s m args below meth c H locs cells slots Q (F0 m pc ls st0) := by
  intro T hT X
  rcases hr T hT X with ⟨v, st₀, t, T', L, h0, X', hL, e1, e2, ⟨⟨r, u, hv, hp, hb⟩, hF⟩, st⟩ | ⟨q, st₀, t, T', L, E, ce, h0, X', hL, e1, e2, ⟨u, hp, hb, hF⟩, hce, hcv, hcl, st⟩
  · cases hv
    obtain ⟨k1, k2, k3⟩ := vx_keep h0 e1 hS hA hf hL hF
    obtain ⟨t2, a1, b1⟩ := kk r u t T'.heap (locs ++ L) e1.symm (by rw [← e2]; exact X'.warmed.alike) hp hb k1 k2 k3 T' rfl X'
    exact ⟨t2, st t2 a1, b1⟩
  · obtain ⟨k1, k2, k3⟩ := vx_keep h0 e1 hS hAX hf hL hF
    obtain ⟨t2, a1, b1⟩ := kx E ce q u t T'.heap (locs ++ L) e1.symm (by rw [← e2]; exact X'.warmed.alike) hp hb k1 k2 k3 (by rw [e1]; exact hce) hcv hcl T' rfl X'
    exact ⟨t2, st.trans a1, b1⟩
theorem vx_callv {S SX : Type} {post : S → Prop} {px : SX → Prop} {B : S → State → Prop} {BX : String → SX → State → Prop} {AX : Nat → Prop} (hr : vx_Run p l e R s m args below meth c H locs cells slots mc ms (F0 m pc ls st0) rest (va_Qv post B A1 a) (vx_X px BX AX) free) (hS : va_S A0 H0 H locs) (hA : ∀ q, q < H.size → A1 q → A0 q) (hf : ∀ q, free q → A0 q) (hAX : ∀ q, q < H.size → AX q → A0 q)
    (kx : ∀ (E : String) (ce : Cell) (q9 : Addr) (u : SX) (t : State) (H1 : Heap) (locs1 : List Loc), t.heap = H1 → s.vm.Alike t.vm → px u → BX E u t → H.size ≤ H1.size → (∀ q : Nat, q < H.size → ¬ AX q → H1[q]? = H[q]?) → va_S A0 H0 H1 locs1 → H1[q9]? = some ce → ce.vm = .none → s.vm.findClass E = some ce.cls → vx_W p l e R s m args below meth c H1 locs1 (cells + mc) (slots + ms) Q (F0 m pc ls rest) q9)
    (kk : ∀ (u : S) (t : State) (H1 : Heap) (locs1 : List Loc), t.heap = H1 → s.vm.Alike t.vm → post u → B u t → H.size ≤ H1.size → (∀ q : Nat, q < H.size → ¬ A1 q → H1[q]? = H[q]?) → va_S A0 H0 H1 locs1 → W p l e R s m args below meth c H1 locs1 (cells + mc) (slots + ms) Q (F0 m (pc + 3) ls (rest))) : W p l e R s m args below meth c H locs cells slots Q (F0 m pc ls st0) := by
  intro T hT X
  rcases hr T hT X with ⟨v, st₀, t, T', L, h0, X', hL, e1, e2, ⟨⟨u, hv, hp, hb⟩, hF⟩, st⟩ | ⟨q, st₀, t, T', L, E, ce, h0, X', hL, e1, e2, ⟨u, hp, hb, hF⟩, hce, hcv, hcl, st⟩
  · cases hv
    obtain ⟨k1, k2, k3⟩ := vx_keep h0 e1 hS hA hf hL hF
    obtain ⟨t2, a1, b1⟩ := kk u t T'.heap (locs ++ L) e1.symm (by rw [← e2]; exact X'.warmed.alike) hp hb k1 k2 k3 T' rfl X'
    exact ⟨t2, st t2 a1, b1⟩
  · obtain ⟨k1, k2, k3⟩ := vx_keep h0 e1 hS hAX hf hL hF
    obtain ⟨t2, a1, b1⟩ := kx E ce q u t T'.heap (locs ++ L) e1.symm (by rw [← e2]; exact X'.warmed.alike) hp hb k1 k2 k3 (by rw [e1]; exact hce) hcv hcl T' rfl X'
    exact ⟨t2, st.trans a1, b1⟩
/-- caught by the row x of this method's table; the rows ahead don't take it -/
theorem vx_catch {own name : String} {E : String} {ce : Cell} {q : Addr} (hown : s.vm.findClass own = some m.cls) (pre : List ExceptionTableEntry) (x : ExceptionTableEntry) (suf : List ExceptionTableEntry) (hsplit : c.exceptionTable.toList = pre ++ x :: suf)
    (hpass : ∀ z ∈ pre, covers z pc = false ∨ (z.catchType ≠ 0 ∧ ∃ nm : String, (Cond.classLink own z.catchType nm).before args s = true ∧ va_Nc E nm s)) (hx : covers x pc = true) (h0 : x.catchType ≠ 0)
    (hlink : (Cond.classLink own x.catchType name).before args s = true) (hcast : (Cond.castable E name).before args s = true) (hcell : H[q]? = some ce) (hv : ce.vm = .none) (hcl : s.vm.findClass E = some ce.cls)
    (kk : W p l e R s m args below meth c H locs cells slots Q (F0 m x.handlerPc ls [.ref q])) : vx_W p l e R s m args below meth c H locs cells slots Q (F0 m pc ls rest) q := by
  intro T hT X
  have hpl : e.platform.magicAccessors = ({} : Platform).magicAccessors := by rw [X.admits.platform]
  obtain ⟨c3, c4, hc3, hc4, hasg⟩ := Cond.castable_spec hcast
  cases Option.some.inj (hc3.symm.trans hcl)
  obtain ⟨c5, hc5, hcl5⟩ := Cond.classLink_spec hown hlink e.platform hpl
  cases Option.some.inj (hc4.symm.trans hc5)
  obtain ⟨vm', X', st⟩ := X.thenCaughtThrough q (g := F0 m pc ls rest) rfl (Steps.refl _) (by rw [hT]; exact hcell) (by rw [hv]; rfl) (by obtain ⟨k9, h9, -⟩ := Vm.findClass_spec hcl; exact ⟨k9, h9⟩) pre x suf hsplit
    (fun z hz => by
      rcases hpass z hz with h | ⟨hz0, nm, hl1, hn1⟩
      · exact Or.inl h
      · obtain ⟨c6, hc6, hcl6⟩ := Cond.classLink_spec hown hl1 e.platform hpl
        obtain ⟨a8, b8, h1, h2, h3⟩ := hn1
        cases Option.some.inj (h1.symm.trans hcl)
        cases Option.some.inj (h2.symm.trans hc6)
        exact Or.inr ⟨hz0, _, hcl6, h3⟩) hx (Or.inr ⟨h0, c4, hcl5, hasg⟩)
  obtain ⟨t, a1, b1⟩ := kk (T.setVm vm') hT X'
  exact ⟨t, st.trans a1, b1⟩
end Rows
section Ends
variable {p : Program} {l : Launch} {e : Env} {R : Room} {s : State} {m : MethodId} {args : Array Value} {below : List Frame} {meth : Method} {c : Code} {H : Heap} {locs : List Loc} {cells slots : Nat} {Q : State → Prop}
variable {mc ms : Nat} {free : Addr → Prop} {A0 A1 : Nat → Prop} {H0 : Heap} {a : Array Value} {ls : Array Slot} {st0 rest : List Value}
variable {Qc : Array Value → State → Outcome → State → Prop} {XC : String → State → State → Prop}
/-- what a body that may throw owes at its end -/
def vx_MQ (below : List Frame) (Qc : Array Value → State → Outcome → State → Prop) (XC : String → State → State → Prop) (a : Array Value) (s : State) (mc ms : Nat) (free : Addr → Prop) : State → Prop := fun t =>
  ∃ o, t.status = .running ∧ Ended t below o ∧ vx_Q Qc XC mc ms free a s o t
theorem vx_ret {g : JFrame} {mc ms : Nat} (k : W p l e R s m args below meth c H locs cells slots (MQ below Qc args s mc ms free) g) : W p l e R s m args below meth c H locs cells slots (vx_MQ below Qc XC args s mc ms free) g := by
  intro T hT X
  obtain ⟨t, a1, o, b1, b2, b3, b4⟩ := k T hT X
  exact ⟨t, a1, o, b1, b2, Or.inl ⟨b3, b4⟩⟩
/-- not caught here: it goes on to the caller -/
theorem vx_widen {g : JFrame} {q : Addr} {k n : Nat} (h1 : cells ≤ k) (h2 : slots ≤ n) (kk : vx_W p l e R s m args below meth c H locs k n Q g q) : vx_W p l e R s m args below meth c H locs cells slots Q g q := fun T hT X => kk T hT (stand_widen X h1 h2)
theorem vx_out {pc : Nat} {E : String} {ce : Cell} {q : Addr} {mc ms : Nat} (hout : ∀ x ∈ c.exceptionTable.toList, covers x pc = false) (hlocks : meth.locks = false) (hcell : H[q]? = some ce) (hv : ce.vm = .none) (hcl : s.vm.findClass E = some ce.cls)
    (hx : ∀ t : State, t.heap = H → s.vm.Alike t.vm → XC E s t) (hf : ∀ z ∈ locs, free z.base) (hc : cells ≤ mc) (hs : slots ≤ ms) :
    vx_W p l e R s m args below meth c H locs cells slots (vx_MQ below Qc XC args s mc ms free) (F0 m pc ls rest) q := by
  intro T hT X
  obtain ⟨st1, hrun, hend, hW, hsm⟩ := X.leaveThrown q (g := F0 m pc ls rest) rfl rfl rfl hout hlocks
  have hcell9 : (T.setFrames (.throwing q :: below)).heap[q]? = some ce := by
    show T.heap[q]? = some ce
    rw [hT]; exact hcell
  exact ⟨_, st1, .threw q, hrun, hend, Or.inr ⟨q, rfl, E, ce, locs, hx _ hT hW.alike, hcell9, hv, hcl, hW, hsm.mono hc hs, hf⟩⟩
theorem vx_frame {U : State} {k n : Nat} (h : s.sameButNew ({ U with vm := s.vm } : State) locs k n) : s.heap.size ≤ U.heap.size ∧ ∀ q : Nat, q < s.heap.size → (∀ z ∈ locs, z.base ≠ q) → U.heap[q]? = s.heap[q]? := by
  obtain ⟨-, h2, -, -, -, h6⟩ := h
  refine ⟨h2, fun q hq hz => ?_⟩
  obtain ⟨c9, e1, e2, e3, e4⟩ := h6 q _ (Array.getElem?_eq_getElem hq)
  have hs : c9.slots = (s.heap[q]).slots := Array.ext_getElem? fun i => e4 i fun hm => hz _ hm rfl
  have h9 : c9 = s.heap[q] := by
    rw [hs] at e2
    exact e2
  have e5 : U.heap[q]? = some c9 := e1
  rw [e5, h9, Array.getElem?_eq_getElem hq]
/-- the words of a throw but the four that speak of the heap -/
def vx_no (w : Cond) : Bool := decide (w ≠ .isRef (.static Bundle.tN "UNASSIGNED_STACK" Bundle.steD)) && decide (w ≠ .isRef (.static Bundle.tN "SUPPRESSED_SENTINEL" Bundle.listD)) && decide (w ≠ .laysStatic Bundle.tN "UNASSIGNED_STACK" Bundle.steD) && decide (w ≠ .laysStatic Bundle.tN "SUPPRESSED_SENTINEL" Bundle.listD)
def vx_at0 (own : String) (ic : Nat) (X : String) (names : List String) : List Cond := (Bundle.ownAtoms0 own ic X names).filter vx_no
def vx_atS (own : String) (ic : Nat) (X : String) (names : List String) : List Cond := (Bundle.ownAtoms own ic X names).filter vx_no
/-- a word that the tables alone decide, or a good one -/
def vx_ot (w : Cond) : Bool := w.onTables || goodWord w
theorem vx_ot_at {args a' : Array Value} {s U : State} {w : Cond} (hW : s.WarmedH U.vm) (hvm : s.vm = U.vm) (hg : vx_ot w = true) (h : w.before args s = true) : w.before a' U = true := by
  simp only [vx_ot, Bool.or_eq_true] at hg
  rcases hg with hg | hg
  · exact va_tabs hg hvm h
  · exact word_at hW (good_of_word hg) h
/-- a list's words: the good ones out of the method's own list, the others by premises of their own -/
theorem vx_hat {args : Array Value} {s : State} {L B : List Cond} (h1 : ∀ w ∈ L.filter goodWord, w.before args s = true) (h2 : ∀ w ∈ L.filter (fun w => !goodWord w), w ∈ B) (h3 : ∀ w ∈ B, w.before args s = true) : ∀ w ∈ L, w.before args s = true := by
  intro w hw
  by_cases g : goodWord w = true
  · exact h1 w (List.mem_filter.mpr ⟨hw, g⟩)
  · refine h3 w (h2 w (List.mem_filter.mpr ⟨hw, ?_⟩))
    show (!goodWord w) = true
    cases hgw : goodWord w
    · rfl
    · exact absurd hgw g
theorem vx_c {args : Array Value} {s : State} {w : Cond} {B : List Cond} (h : w.before args s = true) (t : ∀ w ∈ B, w.before args s = true) : ∀ w' ∈ w :: B, w'.before args s = true := fun w' h' => (List.mem_cons.mp h').elim (fun e => by rw [e]; exact h) (t w')
theorem vx_n {args : Array Value} {s : State} : ∀ w ∈ ([] : List Cond), w.before args s = true := fun _ h => nomatch h
theorem vx_own {args : Array Value} {s : State} {L : List Cond} (h1 : ∀ w ∈ L.filter vx_no, w.before args s = true)
    (hU : (Cond.isRef (.static Bundle.tN "UNASSIGNED_STACK" Bundle.steD)).before args s = true) (hN : (Cond.isRef (.static Bundle.tN "SUPPRESSED_SENTINEL" Bundle.listD)).before args s = true)
    (lU : (Cond.laysStatic Bundle.tN "UNASSIGNED_STACK" Bundle.steD).before args s = true) (lN : (Cond.laysStatic Bundle.tN "SUPPRESSED_SENTINEL" Bundle.listD).before args s = true) : ∀ w ∈ L, w.before args s = true := by
  intro w hw
  by_cases e1 : w = .isRef (.static Bundle.tN "UNASSIGNED_STACK" Bundle.steD)
  · rw [e1]; exact hU
  · by_cases e2 : w = .isRef (.static Bundle.tN "SUPPRESSED_SENTINEL" Bundle.listD)
    · rw [e2]; exact hN
    · by_cases e3 : w = .laysStatic Bundle.tN "UNASSIGNED_STACK" Bundle.steD
      · rw [e3]; exact lU
      · by_cases e4 : w = .laysStatic Bundle.tN "SUPPRESSED_SENTINEL" Bundle.listD
        · rw [e4]; exact lN
        · exact h1 w (List.mem_filter.mpr ⟨hw, by unfold vx_no; rw [decide_eq_true e1, decide_eq_true e2, decide_eq_true e3, decide_eq_true e4]; rfl⟩)
/-- where a static field lies, its class's statics cell in H -/
def vx_L (C n d : String) (A : Nat → Prop) (U : State) (H : Heap) : Prop := ∃ (c : ClassId) (k : Class) (i : Nat) (f : Field) (a : Nat) (cell : Cell), U.vm.findClass C = some c ∧ U.fieldFound? C n d = some (c, k, i, f) ∧ f.isStatic = true ∧ k.statics = some a ∧ H[a]? = some cell ∧ cell.vm.isStatics = true ∧ cell.cls = c ∧ f.slot < cell.slots.size ∧ k.staticTypes[f.slot]? = some f.type ∧ ¬ A a
theorem vx_L.moved {C n d : String} {A : Nat → Prop} {u U : State} {H : Heap} (hvm : u.vm.Alike U.vm) (h : vx_L C n d A u H) : vx_L C n d A U H := by
  obtain ⟨c, k, i, f, a, cell, h1, h2, h3, h4, h5, h6, h7, h8, h9, h10⟩ := h
  obtain ⟨k', hi', he⟩ := State.fieldFound?_setVm hvm h2
  exact ⟨c, k', i, f, a, cell, by rw [hvm.findClass]; exact h1, hi', h3, by rw [he]; exact h4, h5, h6, h7, h8, by rw [he]; exact h9, h10⟩
theorem vx_L.kept {C n d : String} {A : Nat → Prop} {U : State} {H H1 : Heap} (h : vx_L C n d A U H) (hq : ∀ a : Nat, a < H.size → ¬ A a → H1[a]? = H[a]?) : vx_L C n d A U H1 := by
  obtain ⟨c, k, i, f, a, cell, h1, h2, h3, h4, h5, h6, h7, h8, h9, h10⟩ := h
  exact ⟨c, k, i, f, a, cell, h1, h2, h3, h4, by rw [hq a (Array.getElem?_eq_some_iff.mp h5).1 h10]; exact h5, h6, h7, h8, h9, h10⟩
theorem vx_L.narrow {C n d : String} {A B : Nat → Prop} {U : State} {H : Heap} (h : vx_L C n d A U H) (hAB : ∀ q, B q → A q) : vx_L C n d B U H := by
  obtain ⟨c, k, i, f, a, cell, h1, h2, h3, h4, h5, h6, h7, h8, h9, h10⟩ := h
  exact ⟨c, k, i, f, a, cell, h1, h2, h3, h4, h5, h6, h7, h8, h9, fun z => h10 (hAB _ z)⟩
theorem vx_L.word {C n d : String} {A : Nat → Prop} {s : State} {args : Array Value} (h : vx_L C n d A s s.heap) : (Cond.laysStatic C n d).before args s = true := by
  obtain ⟨c, k, i, f, a, cell, h1, h2, h3, h4, h5, h6, h7, h8, h9, -⟩ := h
  show (Cond.laysStatic C n d).holds args s none s [] = true
  exact Cond.laysStatic_of h1 h2 h3 h4 h5 h6 h7 h8 h9
/-- .. and what it holds: null or some reference -/
def vx_Zq (C n d : String) (A : Nat → Prop) (U : State) (H : Heap) : Prop := va_Zq C n d A U H ∧ vx_L C n d A U H
theorem vx_Zq.moved {C n d : String} {A : Nat → Prop} {u U : State} {H : Heap} (hvm : u.vm.Alike U.vm) (h : vx_Zq C n d A u H) : vx_Zq C n d A U H := ⟨va_Zq.moved hvm h.1, vx_L.moved hvm h.2⟩
theorem vx_Zq.kept {C n d : String} {A : Nat → Prop} {U : State} {H H1 : Heap} (h : vx_Zq C n d A U H) (hq : ∀ a : Nat, a < H.size → ¬ A a → H1[a]? = H[a]?) : vx_Zq C n d A U H1 := ⟨va_Zq.kept h.1 hq, vx_L.kept h.2 hq⟩
theorem vx_Zq.narrow {C n d : String} {A B : Nat → Prop} {U : State} {H : Heap} (h : vx_Zq C n d A U H) (hAB : ∀ q, B q → A q) : vx_Zq C n d B U H := ⟨va_Zq.narrow h.1 hAB, vx_L.narrow h.2 hAB⟩
theorem vx_Zqof {args : Array Value} {s : State} {C n d : String} {A : Nat → Prop} (hl : (Cond.laysStatic C n d).before args s = true) (hini : (Cond.initialized C).before args s = true) (h : (Cond.isRef (.static C n d)).before args s = true) (hA : ∀ a : Nat, a < s.heap.size → ¬ A a) : vx_Zq C n d A s s.heap := by
  refine ⟨va_Zqof hl hini h hA, ?_⟩
  obtain ⟨c, k, i, f, a, cell, h1, h2, h3, h4, h5, h6, h7, h8, h9⟩ := Cond.laysStatic_spec hl
  exact ⟨c, k, i, f, a, cell, h1, h2, h3, h4, h5, h6, h7, h8, h9, hA a (Array.getElem?_eq_some_iff.mp h5).1⟩
theorem vx_isRef {C n d : String} {v : Value} {A : Nat → Prop} {s : State} {args : Array Value} (h : va_Z C n d v A s s.heap) (hv : v.isRef = true) : (Cond.isRef (.static C n d)).before args s = true := by
  obtain ⟨cf, kf, fi, f, a, cell, h1, h2, h3, h4, h5, h6, h7, -⟩ := h
  have he : (Term.static C n d).eval args s none [] s = some v := by
    simp [Term.eval, State.fieldNamed?, h1, h2, h4, h5, h6, h7]
  simp only [Cond.before, Cond.holds, Cond.value, he]
  cases v <;> simp_all [Value.isRef]
theorem vx_isRefq {C n d : String} {A : Nat → Prop} {s : State} {args : Array Value} (h : va_Zq C n d A s s.heap) : (Cond.isRef (.static C n d)).before args s = true := by
  rcases h with h | ⟨t, h⟩
  · exact vx_isRef h rfl
  · exact vx_isRef h rfl
/-- the same frame, seen from here: as if the method were called anew in this heap -/
theorem vx_rebase {T : State} (X : Stand p l e R s m args below meth c T locs cells slots) {R' : Room} (hf : R'.frames ≤ R.frames) (hl : R'.locals ≤ R.locals) (hc : cells + R'.cells ≤ R.cells) (hs : slots + R'.slots ≤ R.slots) :
    Stand p l e R' ((T.setVm s.vm).setFrames (.invoking m args :: below)) m args below meth c T [] 0 0 := by
  have htop : (T.setVm s.vm).topJava?.isSome := X.here.top
  have hF : ((T.setVm s.vm).setFrames (.invoking m args :: below)).frames = .invoking m args :: below := State.frames_setFrames _ (State.cur_lt_of_top htop)
  obtain ⟨g₀, hg0⟩ := Option.isSome_iff_exists.mp htop
  obtain ⟨r, hr⟩ := State.topJava?_eq_some.mp hg0
  have hl9 : e.platform.stackLimits (T.setVm s.vm).me = e.platform.stackLimits s.me := X.limits
  have hb9 : (T.setVm s.vm).me.stackBytes = s.me.stackBytes := X.bytes
  refine ⟨X.admits, X.cas, X.clock, hF, ?_, X.hears, X.method, X.code, X.here, X.tail, X.warmed, ?_, ?_, ?_⟩
  · have h := X.room
    have hU : ((T.setVm s.vm).setFrames (.invoking m args :: below)).localsInUse = s.localsInUse := by
      rw [State.localsInUse_invoking hF (meth := meth) (c := c) X.method X.code, State.localsInUse_invoking X.frames X.method X.code]
    simp only [State.hasRoom, Bool.and_eq_true, decide_eq_true_eq] at h ⊢
    obtain ⟨⟨⟨⟨h1, h2, h3, h4, h5, h6⟩, h7⟩, h8⟩, h9⟩ := h
    rw [X.frames, List.length_cons] at h2 h3
    have q1 := X.heapSize
    have q2 := X.used
    simp only [hF, hU, List.length_cons, State.stackLimits_setFrames, State.stackBytes_setFrames, hl9, hb9]
    refine ⟨⟨⟨⟨by omega, by omega, by omega, by omega, by omega, h6⟩, ?_⟩, ?_⟩, X.book⟩
    · show T.heap.size + R'.cells ≤ e.platform.maxCells
      omega
    · show T.slotsUsed + R'.slots ≤ e.platform.maxSlots
      omega
  · rw [State.stackLimits_setFrames]; rfl
  · rw [State.stackBytes_setFrames]; rfl
  · refine ⟨?_, Nat.le_refl _, Nat.le_refl _, ?_, ?_, fun a c9 h9 => ⟨c9, h9, rfl, rfl, fun _ _ => rfl⟩⟩
    · obtain ⟨t, ht, -⟩ := State.frames_cons hr
      show T.setVm s.vm = { ((T.setVm s.vm).setFrames (.invoking m args :: below)).setFrames (T.setVm s.vm).frames with heap := T.heap, slotsUsed := T.slotsUsed }
      rw [State.setFrames_setFrames, State.setFrames_self ht]
      rfl
    · show T.slotsUsed = T.slotsUsed + ((T.heap.toList.drop T.heap.size).map (·.slots.size)).sum
      rw [List.drop_eq_nil_of_le (Nat.le_of_eq Array.length_toList)]
      rfl
    · show ((T.heap.toList.drop T.heap.size).map (·.slots.size)).sum ≤ 0
      rw [List.drop_eq_nil_of_le (Nat.le_of_eq Array.length_toList)]
      exact Nat.le_refl _
/-- 'throw new E()': new; dup; invokespecial; athrow -/
theorem vx_throw0 {cc : ByteArray} {pc : Nat} (hexec : p.tables.exec = Jvm.exec) (hb : c.code = cc) (hl : l.stackTraces = false) {own cls : String} {names : List String} {ik ic mc ms : Nat} {A : Nat → Prop}
    (hown : s.vm.findClass own = some m.cls) (hcls : Bundle.fit cls = true) (hnames : ∀ n ∈ names, Bundle.fit n = true)
    (hk : (Cond.classLink own ik cls).before args s = true) (hini : (Cond.initialized cls).before args s = true) (hat : ∀ w ∈ vx_at0 own ic cls names, w.before args s = true)
    (hgood : ∀ w ∈ Cond.classLink own ik cls :: Cond.initialized cls :: vx_at0 own ic cls names, vx_ot w = true)
    (hU : vx_Zq Bundle.tN "UNASSIGNED_STACK" Bundle.steD A s s.heap) (hN : vx_Zq Bundle.tN "SUPPRESSED_SENTINEL" Bundle.listD A s s.heap) (hS : va_S A s.heap H locs) (hsize : ls.size = c.maxLocals)
    (d0 : decode cc pc = .ok (.new ik, 3)) (d3 : decode cc (pc + 3) = .ok (.dup, 1)) (d4 : decode cc (pc + 4) = .ok (.invokespecial ic, 3)) (d7 : decode cc (pc + 7) = .ok (.athrow, 1))
    (hout : ∀ x ∈ c.exceptionTable.toList, covers x (pc + 7) = false)
    (hRframes : names.length + 3 < R.frames) (hRlocals : (rest.map fun v => v.category).sum + (13 * (names.length + 1) + 42) ≤ R.locals) (hRcells : cells + 1 ≤ R.cells) (hRslots : slots + 6 ≤ R.slots) (hlocks : meth.locks = false)
    (hx : ∀ t : State, s.vm.Alike t.vm → H.size ≤ t.heap.size → (∀ q : Nat, q < H.size → t.heap[q]? = H[q]?) → XC cls s t)
    (hf : ∀ z ∈ locs, free z.base) (hc : cells + 1 ≤ mc) (hs : slots + 6 ≤ ms) :
    W p l e R s m args below meth c H locs cells slots (vx_MQ below Qc XC args s mc ms free) (F0 m pc ls rest) := by
  intro T hT X
  have htr : e.platform.stackTraces = false := (show e.platform.stackTraces = l.stackTraces by rw [X.admits.platform]).trans hl
  have Y := vx_rebase X (R' := { frames := R.frames, locals := R.locals, cells := 1, slots := 6 }) (Nat.le_refl _) (Nat.le_refl _) hRcells hRslots
  obtain ⟨s', hA⟩ : ∃ z, z = (T.setVm s.vm).setFrames (.invoking m args :: below) := ⟨_, rfl⟩
  rw [← hA] at Y
  have hvm : s'.vm = s.vm := by rw [hA]; rfl
  have hhp : s'.heap = H := by rw [hA]; exact hT
  have hW0 : s.WarmedH s'.vm := by rw [hvm]; exact State.WarmedH.refl s
  have hat' : ∀ w ∈ vx_at0 own ic cls names, w.before args s' = true := fun w hw => vx_ot_at hW0 hvm.symm (hgood w (List.mem_cons_of_mem _ (List.mem_cons_of_mem _ hw))) (hat w hw)
  have hk' : (Cond.classLink own ik cls).before args s' = true := vx_ot_at hW0 hvm.symm (hgood _ List.mem_cons_self) hk
  have hini' : (Cond.initialized cls).before args s' = true := vx_ot_at hW0 hvm.symm (hgood _ (List.mem_cons_of_mem _ List.mem_cons_self)) hini
  have hU' : vx_Zq Bundle.tN "UNASSIGNED_STACK" Bundle.steD A s' s'.heap := by rw [hhp]; exact vx_Zq.moved hW0.alike (hU.kept hS.2.1)
  have hN' : vx_Zq Bundle.tN "SUPPRESSED_SENTINEL" Bundle.listD A s' s'.heap := by rw [hhp]; exact vx_Zq.moved hW0.alike (hN.kept hS.2.1)
  have h : ∀ w ∈ Bundle.ownAtoms0 own ic cls names, w.before args s' = true := vx_own hat' (vx_isRefq hU'.1) (vx_isRefq hN'.1) hU'.2.word hN'.2.word
  have hown' : s'.vm.findClass own = some m.cls := by rw [hvm]; exact hown
  have hins : (Cond.instantiable cls 6).before args s' = true := h _ (by simp [Bundle.ownAtoms0])
  obtain ⟨vm₁, cX, kX, hfX, hkX, -, -, X₁, st1⟩ := Y.newCold hexec (own := own) (C := cls) (index := ik) (n := 6) hown' hk' hins hini'
    (g := F0 m pc ls rest) rfl (by rw [hb]; exact d0) (Nat.le_refl _) (Nat.le_refl _)
  generalize hT1 : (T.setVm vm₁).pushCell { cls := cX, slots := kX.instanceTypes.map defaultValue, vm := .none } = T1 at X₁ st1
  have hcat : (Value.ref T.heap.size).category = 1 := rfl
  have hcellA : T1.heap[T.heap.size]? = some (freshCell cX kX) := by rw [← hT1]; exact State.heap_pushCell_size _ _
  have d3' : decode c.code (pc + 3) = .ok (.dup, 1) := by rw [hb]; exact d3
  obtain ⟨U, hsteps, hrun, hend, hW, hsame, ce, hce, hO⟩ := X₁.ctorThrow0 hexec htr (own := own) (cls := cls) (names := names) (ic := ic) hown' hcls hnames h (fun x hx => nomatch hx) hfX hkX hcellA (by rw [hhp, hT]; exact Nat.le_refl _)
    (g := { method := m, pc := pc + 4, locals := ls, stack := .ref T.heap.size :: .ref T.heap.size :: rest, locked := none }) rfl hsize rfl rfl (rest := rest) rfl
    (by rw [hb]; exact d4) (by rw [hb]; exact d7) hout hRframes (by simp only [List.map_cons, List.sum_cons, hcat]; omega) hlocks
  obtain ⟨f1, f2⟩ := vx_frame hsame
  rw [hhp] at f1 f2
  have hWs : s.WarmedH U.vm := State.WarmedH.trans hW0 hW
  have hcl : s.vm.findClass cls = some ce.cls := by
    have h9 := hO.cls
    rw [hvm] at h9
    exact h9
  have hall : s.sameButNew ({ U with vm := s.vm } : State) locs mc ms := by
    subst hA
    obtain ⟨e1, e2⟩ := hsame
    rw [State.setFrames_setFrames] at e1
    have h2 : (T.setVm s.vm).sameButNew ({ U with vm := s.vm } : State) [] (0 + 1) (0 + 6) := ⟨e1, e2⟩
    have h3 := X.same.trans h2
    rw [List.append_nil] at h3
    exact h3.mono hc hs
  refine ⟨U, ?_, .threw T.heap.size, hrun, hend, Or.inr ⟨T.heap.size, rfl, cls, ce, locs, hx U hWs.alike f1 (fun q hq => f2 q hq (fun z hz => nomatch hz)), hce, hO.vm, hcl, hWs, hall, hf⟩⟩
  refine st1 _ ?_
  show Steps p.tables e below (T1.setTop { method := m, pc := pc + 3, locals := ls, stack := .ref T.heap.size :: rest, locked := none }) _
  jvm_step X₁.here [X₁.here.top, hexec, d3', Value.category]
  exact hsteps
/-- 'throw new E("text")': new; dup; ldc; invokespecial; athrow -/
theorem vx_throwS {cc : ByteArray} {pc : Nat} (hexec : p.tables.exec = Jvm.exec) (hb : c.code = cc) (hl : l.stackTraces = false) {own cls text : String} {names : List String} {ik is ic mc ms sa : Nat} {A : Nat → Prop}
    (hown : s.vm.findClass own = some m.cls) (hcls : Bundle.fit cls = true) (hnames : ∀ n ∈ names, Bundle.fit n = true)
    (hk : (Cond.classLink own ik cls).before args s = true) (hini : (Cond.initialized cls).before args s = true) (hstr : vk_R own is text sa s) (hat : ∀ w ∈ vx_atS own ic cls names, w.before args s = true)
    (hgood : ∀ w ∈ Cond.classLink own ik cls :: Cond.initialized cls :: vx_atS own ic cls names, vx_ot w = true)
    (hU : vx_Zq Bundle.tN "UNASSIGNED_STACK" Bundle.steD A s s.heap) (hN : vx_Zq Bundle.tN "SUPPRESSED_SENTINEL" Bundle.listD A s s.heap) (hS : va_S A s.heap H locs) (hsize : ls.size = c.maxLocals)
    (d0 : decode cc pc = .ok (.new ik, 3)) (d3 : decode cc (pc + 3) = .ok (.dup, 1)) (d4 : decode cc (pc + 4) = .ok (.ldc is, 2)) (d6 : decode cc (pc + 6) = .ok (.invokespecial ic, 3)) (d9 : decode cc (pc + 9) = .ok (.athrow, 1))
    (hout : ∀ x ∈ c.exceptionTable.toList, covers x (pc + 9) = false)
    (hRframes : names.length + 3 < R.frames) (hRlocals : (rest.map fun v => v.category).sum + (13 * (names.length + 1) + 43) ≤ R.locals) (hRcells : cells + 1 ≤ R.cells) (hRslots : slots + 6 ≤ R.slots) (hlocks : meth.locks = false)
    (hx : ∀ t : State, s.vm.Alike t.vm → H.size ≤ t.heap.size → (∀ q : Nat, q < H.size → t.heap[q]? = H[q]?) → XC cls s t)
    (hf : ∀ z ∈ locs, free z.base) (hc : cells + 1 ≤ mc) (hs : slots + 6 ≤ ms) :
    W p l e R s m args below meth c H locs cells slots (vx_MQ below Qc XC args s mc ms free) (F0 m pc ls rest) := by
  intro T hT X
  have htr : e.platform.stackTraces = false := (show e.platform.stackTraces = l.stackTraces by rw [X.admits.platform]).trans hl
  have Y := vx_rebase X (R' := { frames := R.frames, locals := R.locals, cells := 1, slots := 6 }) (Nat.le_refl _) (Nat.le_refl _) hRcells hRslots
  obtain ⟨s', hA⟩ : ∃ z, z = (T.setVm s.vm).setFrames (.invoking m args :: below) := ⟨_, rfl⟩
  rw [← hA] at Y
  have hvm : s'.vm = s.vm := by rw [hA]; rfl
  have hhp : s'.heap = H := by rw [hA]; exact hT
  have hW0 : s.WarmedH s'.vm := by rw [hvm]; exact State.WarmedH.refl s
  have hat' : ∀ w ∈ vx_atS own ic cls names, w.before args s' = true := fun w hw => vx_ot_at hW0 hvm.symm (hgood w (List.mem_cons_of_mem _ (List.mem_cons_of_mem _ hw))) (hat w hw)
  have hk' : (Cond.classLink own ik cls).before args s' = true := vx_ot_at hW0 hvm.symm (hgood _ List.mem_cons_self) hk
  have hini' : (Cond.initialized cls).before args s' = true := vx_ot_at hW0 hvm.symm (hgood _ (List.mem_cons_of_mem _ List.mem_cons_self)) hini
  have hU' : vx_Zq Bundle.tN "UNASSIGNED_STACK" Bundle.steD A s' s'.heap := by rw [hhp]; exact vx_Zq.moved hW0.alike (hU.kept hS.2.1)
  have hN' : vx_Zq Bundle.tN "SUPPRESSED_SENTINEL" Bundle.listD A s' s'.heap := by rw [hhp]; exact vx_Zq.moved hW0.alike (hN.kept hS.2.1)
  have h : ∀ w ∈ Bundle.ownAtoms own ic cls names, w.before args s' = true := vx_own hat' (vx_isRefq hU'.1) (vx_isRefq hN'.1) hU'.2.word hN'.2.word
  have hown' : s'.vm.findClass own = some m.cls := by rw [hvm]; exact hown
  have hins : (Cond.instantiable cls 6).before args s' = true := h _ (by simp [Bundle.ownAtoms])
  obtain ⟨vm₁, cX, kX, hfX, hkX, -, -, X₁, st1⟩ := Y.newCold hexec (own := own) (C := cls) (index := ik) (n := 6) hown' hk' hins hini'
    (g := F0 m pc ls rest) rfl (by rw [hb]; exact d0) (Nat.le_refl _) (Nat.le_refl _)
  generalize hT1 : (T.setVm vm₁).pushCell { cls := cX, slots := kX.instanceTypes.map defaultValue, vm := .none } = T1 at X₁ st1
  have hcat : (Value.ref T.heap.size).category = 1 := rfl
  have hcellA : T1.heap[T.heap.size]? = some (freshCell cX kX) := by rw [← hT1]; exact State.heap_pushCell_size _ _
  have d3' : decode c.code (pc + 3) = .ok (.dup, 1) := by rw [hb]; exact d3
  have d4' : decode c.code (pc + 4) = .ok (.ldc is, 2) := by rw [hb]; exact d4
  have hstr' : vk_R own is text sa s' := vk_R.warm hW0 hstr
  obtain ⟨U, hsteps, hrun, hend, hW, hsame, ce, hce, hO⟩ := X₁.ctorThrowS hexec htr (own := own) (cls := cls) (names := names) (ic := ic) hown' hcls hnames h (fun x hx => nomatch hx) hfX hkX hcellA (by rw [hhp, hT]; exact Nat.le_refl _) (msg := .ref sa) rfl
    (g := { method := m, pc := pc + 6, locals := ls, stack := .ref sa :: .ref T.heap.size :: .ref T.heap.size :: rest, locked := none }) rfl hsize rfl rfl (rest := rest) rfl
    (by rw [hb]; exact d6) (by rw [hb]; exact d9) hout hRframes (by simp only [List.map_cons, List.sum_cons, hcat]; omega) hlocks
  obtain ⟨f1, f2⟩ := vx_frame hsame
  rw [hhp] at f1 f2
  have hWs : s.WarmedH U.vm := State.WarmedH.trans hW0 hW
  have hcl : s.vm.findClass cls = some ce.cls := by
    have h9 := hO.cls
    rw [hvm] at h9
    exact h9
  have hall : s.sameButNew ({ U with vm := s.vm } : State) locs mc ms := by
    subst hA
    obtain ⟨e1, e2⟩ := hsame
    rw [State.setFrames_setFrames] at e1
    have h2 : (T.setVm s.vm).sameButNew ({ U with vm := s.vm } : State) [] (0 + 1) (0 + 6) := ⟨e1, e2⟩
    have h3 := X.same.trans h2
    rw [List.append_nil] at h3
    exact h3.mono hc hs
  refine ⟨U, ?_, .threw T.heap.size, hrun, hend, Or.inr ⟨T.heap.size, rfl, cls, ce, locs, hx U hWs.alike f1 (fun q hq => f2 q hq (fun z hz => nomatch hz)), hce, hO.vm, hcl, hWs, hall, hf⟩⟩
  refine st1 _ ?_
  show Steps p.tables e below (T1.setTop { method := m, pc := pc + 3, locals := ls, stack := .ref T.heap.size :: rest, locked := none }) _
  jvm_step X₁.here [X₁.here.top, hexec, d3', Value.category]
  exact X₁.ldcString hexec (own := own) (text := text) (index := is) (a := sa) hown' hstr'.1 hstr'.2
    (g := { method := m, pc := pc + 4, locals := ls, stack := .ref T.heap.size :: .ref T.heap.size :: rest, locked := none }) rfl d4' _ hsteps
/-- 'throw new E("text")', the text by a wide index -/
theorem vx_throwSW {cc : ByteArray} {pc : Nat} (hexec : p.tables.exec = Jvm.exec) (hb : c.code = cc) (hl : l.stackTraces = false) {own cls text : String} {names : List String} {ik is ic mc ms sa : Nat} {A : Nat → Prop}
    (hown : s.vm.findClass own = some m.cls) (hcls : Bundle.fit cls = true) (hnames : ∀ n ∈ names, Bundle.fit n = true)
    (hk : (Cond.classLink own ik cls).before args s = true) (hini : (Cond.initialized cls).before args s = true) (hstr : vk_R own is text sa s) (hat : ∀ w ∈ vx_atS own ic cls names, w.before args s = true)
    (hgood : ∀ w ∈ Cond.classLink own ik cls :: Cond.initialized cls :: vx_atS own ic cls names, vx_ot w = true)
    (hU : vx_Zq Bundle.tN "UNASSIGNED_STACK" Bundle.steD A s s.heap) (hN : vx_Zq Bundle.tN "SUPPRESSED_SENTINEL" Bundle.listD A s s.heap) (hS : va_S A s.heap H locs) (hsize : ls.size = c.maxLocals)
    (d0 : decode cc pc = .ok (.new ik, 3)) (d3 : decode cc (pc + 3) = .ok (.dup, 1)) (d4 : decode cc (pc + 4) = .ok (.ldc_w is, 3)) (d7 : decode cc (pc + 7) = .ok (.invokespecial ic, 3)) (d10 : decode cc (pc + 10) = .ok (.athrow, 1))
    (hout : ∀ x ∈ c.exceptionTable.toList, covers x (pc + 10) = false)
    (hRframes : names.length + 3 < R.frames) (hRlocals : (rest.map fun v => v.category).sum + (13 * (names.length + 1) + 43) ≤ R.locals) (hRcells : cells + 1 ≤ R.cells) (hRslots : slots + 6 ≤ R.slots) (hlocks : meth.locks = false)
    (hx : ∀ t : State, s.vm.Alike t.vm → H.size ≤ t.heap.size → (∀ q : Nat, q < H.size → t.heap[q]? = H[q]?) → XC cls s t)
    (hf : ∀ z ∈ locs, free z.base) (hc : cells + 1 ≤ mc) (hs : slots + 6 ≤ ms) :
    W p l e R s m args below meth c H locs cells slots (vx_MQ below Qc XC args s mc ms free) (F0 m pc ls rest) := by
  intro T hT X
  have htr : e.platform.stackTraces = false := (show e.platform.stackTraces = l.stackTraces by rw [X.admits.platform]).trans hl
  have Y := vx_rebase X (R' := { frames := R.frames, locals := R.locals, cells := 1, slots := 6 }) (Nat.le_refl _) (Nat.le_refl _) hRcells hRslots
  obtain ⟨s', hA⟩ : ∃ z, z = (T.setVm s.vm).setFrames (.invoking m args :: below) := ⟨_, rfl⟩
  rw [← hA] at Y
  have hvm : s'.vm = s.vm := by rw [hA]; rfl
  have hhp : s'.heap = H := by rw [hA]; exact hT
  have hW0 : s.WarmedH s'.vm := by rw [hvm]; exact State.WarmedH.refl s
  have hat' : ∀ w ∈ vx_atS own ic cls names, w.before args s' = true := fun w hw => vx_ot_at hW0 hvm.symm (hgood w (List.mem_cons_of_mem _ (List.mem_cons_of_mem _ hw))) (hat w hw)
  have hk' : (Cond.classLink own ik cls).before args s' = true := vx_ot_at hW0 hvm.symm (hgood _ List.mem_cons_self) hk
  have hini' : (Cond.initialized cls).before args s' = true := vx_ot_at hW0 hvm.symm (hgood _ (List.mem_cons_of_mem _ List.mem_cons_self)) hini
  have hU' : vx_Zq Bundle.tN "UNASSIGNED_STACK" Bundle.steD A s' s'.heap := by rw [hhp]; exact vx_Zq.moved hW0.alike (hU.kept hS.2.1)
  have hN' : vx_Zq Bundle.tN "SUPPRESSED_SENTINEL" Bundle.listD A s' s'.heap := by rw [hhp]; exact vx_Zq.moved hW0.alike (hN.kept hS.2.1)
  have h : ∀ w ∈ Bundle.ownAtoms own ic cls names, w.before args s' = true := vx_own hat' (vx_isRefq hU'.1) (vx_isRefq hN'.1) hU'.2.word hN'.2.word
  have hown' : s'.vm.findClass own = some m.cls := by rw [hvm]; exact hown
  have hins : (Cond.instantiable cls 6).before args s' = true := h _ (by simp [Bundle.ownAtoms])
  obtain ⟨vm₁, cX, kX, hfX, hkX, -, -, X₁, st1⟩ := Y.newCold hexec (own := own) (C := cls) (index := ik) (n := 6) hown' hk' hins hini'
    (g := F0 m pc ls rest) rfl (by rw [hb]; exact d0) (Nat.le_refl _) (Nat.le_refl _)
  generalize hT1 : (T.setVm vm₁).pushCell { cls := cX, slots := kX.instanceTypes.map defaultValue, vm := .none } = T1 at X₁ st1
  have hcat : (Value.ref T.heap.size).category = 1 := rfl
  have hcellA : T1.heap[T.heap.size]? = some (freshCell cX kX) := by rw [← hT1]; exact State.heap_pushCell_size _ _
  have d3' : decode c.code (pc + 3) = .ok (.dup, 1) := by rw [hb]; exact d3
  have d4' : decode c.code (pc + 4) = .ok (.ldc_w is, 3) := by rw [hb]; exact d4
  have hstr' : vk_R own is text sa s' := vk_R.warm hW0 hstr
  obtain ⟨U, hsteps, hrun, hend, hW, hsame, ce, hce, hO⟩ := X₁.ctorThrowS hexec htr (own := own) (cls := cls) (names := names) (ic := ic) hown' hcls hnames h (fun x hx => nomatch hx) hfX hkX hcellA (by rw [hhp, hT]; exact Nat.le_refl _) (msg := .ref sa) rfl
    (g := { method := m, pc := pc + 7, locals := ls, stack := .ref sa :: .ref T.heap.size :: .ref T.heap.size :: rest, locked := none }) rfl hsize rfl rfl (rest := rest) rfl
    (by rw [hb]; exact d7) (by rw [hb]; exact d10) hout hRframes (by simp only [List.map_cons, List.sum_cons, hcat]; omega) hlocks
  obtain ⟨f1, f2⟩ := vx_frame hsame
  rw [hhp] at f1 f2
  have hWs : s.WarmedH U.vm := State.WarmedH.trans hW0 hW
  have hcl : s.vm.findClass cls = some ce.cls := by
    have h9 := hO.cls
    rw [hvm] at h9
    exact h9
  have hall : s.sameButNew ({ U with vm := s.vm } : State) locs mc ms := by
    subst hA
    obtain ⟨e1, e2⟩ := hsame
    rw [State.setFrames_setFrames] at e1
    have h2 : (T.setVm s.vm).sameButNew ({ U with vm := s.vm } : State) [] (0 + 1) (0 + 6) := ⟨e1, e2⟩
    have h3 := X.same.trans h2
    rw [List.append_nil] at h3
    exact h3.mono hc hs
  refine ⟨U, ?_, .threw T.heap.size, hrun, hend, Or.inr ⟨T.heap.size, rfl, cls, ce, locs, hx U hWs.alike f1 (fun q hq => f2 q hq (fun z hz => nomatch hz)), hce, hO.vm, hcl, hWs, hall, hf⟩⟩
  refine st1 _ ?_
  show Steps p.tables e below (T1.setTop { method := m, pc := pc + 3, locals := ls, stack := .ref T.heap.size :: rest, locked := none }) _
  jvm_step X₁.here [X₁.here.top, hexec, d3', Value.category]
  exact X₁.ldcStringW hexec (own := own) (text := text) (index := is) (a := sa) hown' hstr'.1 hstr'.2
    (g := { method := m, pc := pc + 4, locals := ls, stack := .ref T.heap.size :: .ref T.heap.size :: rest, locked := none }) rfl d4' _ hsteps
end Ends
section Bodies
variable {l : Launch}
theorem vx_ofW {y : MethodName} {ws ws' : List Cond} {rm : Room} {Pc : Array Value → State → Prop} {Qc : Array Value → State → Outcome → State → Prop} {XC : String → State → State → Prop} {mc ms : Nat} {free : Addr → Prop} {cc : ByteArray} {maxL : Nat} {ret : Option FieldType}
    (hy : plainName y.cls = true) (hw : ws = Cond.code y cc maxL ret :: ws')
    (body : ∀ p e s m args below meth c s₁, BodyLoose p l y (headSpec ws rm) cc maxL ret e s m args below meth c s₁ → c.maxLocals = maxL → (∀ x ∈ c.exceptionTable.toList, False) → Pc args s →
      W p l e (headSpec ws rm).room s m args below meth c s.heap [] 0 0 (vx_MQ below Qc XC args s mc ms free) (entryFrame m args maxL)) : vx_Met l y ws rm Pc Qc XC mc ms free := by
  refine MetFree.of_bodyS (code := cc) (maxLocals := maxL) (ret := ret) hy ?_ ?_
  · intro args s m h hn
    obtain ⟨meth, c, h1, h2, h3, h4, h5, h6, -, -⟩ := Cond.code_spec hn (atoms_spec (ws := ws) h _ (by rw [hw]; exact List.mem_cons_self))
    exact ⟨meth, c, h1, h2, h3, h4, h5, h6⟩
  · intro p e s m args below meth c s₁ B hml hP _
    have hh0 : s₁.heap = s.heap := by rw [B.state]; rfl
    have ht : ∀ x ∈ c.exceptionTable.toList, False := by
      obtain ⟨meth9, c9, h1, h2, -, -, -, -, h7, -⟩ := Cond.code_spec B.named (atoms_spec (ws := ws) B.pre _ (by rw [hw]; exact List.mem_cons_self))
      cases Option.some.inj (h1.symm.trans B.method)
      cases Option.some.inj (h2.symm.trans (Stand.of_body B).code)
      intro x hx
      rw [Array.isEmpty_iff.mp h7] at hx
      cases hx
    obtain ⟨t, a1, o, b1, b2, b3⟩ := body p e s m args below meth c s₁ B hml ht hP s₁ hh0 (Stand.of_body B)
    exact ⟨t, o, a1, b1, b2, b3⟩
/-- the table of a body with handlers -/
theorem vx_table {p : Program} {x y : MethodName} {S : Spec} {cc bytes : ByteArray} {maxL maxL' : Nat} {ret ret' : Option FieldType} {e : Env} {s s₁ : State} {m : MethodId} {args : Array Value} {below : List Frame} {meth : Method} {c : Code} {hh : List (Nat × Nat × Nat × Nat)}
    (B : BodyLoose p l y S cc maxL ret e s m args below meth c s₁) (h : (Cond.codeWith y bytes maxL' ret' hh).before args s = true) : c.exceptionTable.toList = tableOf hh := by
  obtain ⟨m9, meth9, c9, hn9, h1, h2, -, -, h6, -⟩ := Cond.codeWith_spec h
  cases Option.some.inj (hn9.symm.trans B.named)
  cases Option.some.inj (h1.symm.trans B.method)
  cases Option.some.inj (h2.symm.trans (Stand.of_body B).code)
  rw [← h6, table_eq]
end Bodies
end VXA
/-! ===== END ===== -/
/-! ===== BEGIN a static call of a method with an exception table ===== -/
section VXS
variable {p : Program} {l : Launch} {e : Env} {R : Room} {s : State} {m : MethodId} {args : Array Value} {below : List Frame} {meth : Method} {c : Code} {T : State} {H : Heap} {locs : List Loc} {cells slots : Nat}
abbrev vx_CSW (R : Room) (s : State) (args : Array Value) (own : String) (index : Nat) (y : MethodName) (bytes : ByteArray) (maxL : Nat) (ret : Option FieldType) (hh : List (Nat × Nat × Nat × Nat)) (ws : List Cond) (rm : Room) (mc ms n : Nat) : Prop :=
  (rm.cells = mc ∧ rm.slots = ms ∧ rm.frames + 1 ≤ R.frames ∧ 8 + (maxL + 11) + rm.locals ≤ R.locals ∧ (∀ w ∈ ws, ∀ (a' : Array Value) (U : State), s.WarmedH U.vm → w.before a' U = true) ∧ Cond.codeWith y bytes maxL ret hh ∈ ws) ∧
  (Cond.codeWith y bytes maxL ret hh).before args s = true ∧ (Cond.initialized y.cls).before args s = true ∧ (y.cls ≠ "java/lang/invoke/MethodHandle" ∧ y.cls ≠ "java/lang/invoke/VarHandle") ∧
  (∀ sig, parseMethodDescriptor y.desc = some sig → n = sig.parameters.length) ∧ (Cond.methodLink own index y).before args s = true ∧ (Cond.static y).before args s = true
theorem vx_cwSW {own : String} {index maxL mc ms : Nat} {y : MethodName} {bytes : ByteArray} {ret : Option FieldType} {hh : List (Nat × Nat × Nat × Nat)} {Ts ws ws' : List Cond} {rm : Room} (n : Nat) (ht : ∀ w ∈ Ts, w.before args s = true) (hT : GoodIn Ts (va_wsS own index y ws)) (hw : ws = Cond.codeWith y bytes maxL ret hh :: ws') (hrc : rm.cells = mc) (hrs : rm.slots = ms)
    (hd : y.cls ≠ "java/lang/invoke/MethodHandle" ∧ y.cls ≠ "java/lang/invoke/VarHandle" ∧ (parseMethodDescriptor y.desc).map (fun d => d.parameters.length) = some n) (hR : rm.frames + 1 ≤ R.frames ∧ 8 + (maxL + 11) + rm.locals ≤ R.locals) :
    vx_CSW R s args own index y bytes maxL ret hh ws rm mc ms n := by
  have ok : ∀ w ∈ va_wsS own index y ws, w.before args s = true := fun w h => ht w (hT w h).1
  have hG : GoodIn Ts ws := fun w h => hT w (by unfold va_wsS; exact List.mem_append_right _ h)
  have hc : Cond.codeWith y bytes maxL ret hh ∈ ws := by rw [hw]; exact List.mem_cons_self
  refine ⟨⟨hrc, hrs, hR.1, hR.2, pay_in ht hG, hc⟩, ht _ (hG _ hc).1, ok _ (by simp [va_wsS]), ⟨hd.1, hd.2.1⟩, fun sig h => ?_, ok _ (by simp [va_wsS]), ok _ (by simp [va_wsS])⟩
  have h2 := hd.2.2
  rw [h] at h2
  exact (Option.some.inj h2).symm
theorem vx_callSW (X : Stand p l e R s m args below meth c T locs cells slots) (hexec : p.tables.exec = Jvm.exec) {own : String} {index : Nat} {y : MethodName} {bytes : ByteArray} {maxL : Nat} {ret : Option FieldType} {hh : List (Nat × Nat × Nat × Nat)}
    (hown : s.vm.findClass own = some m.cls) (hlink : (Cond.methodLink own index y).before args s = true) (hstat : (Cond.static y).before args s = true) (hinit : (Cond.initialized y.cls).before args s = true)
    (hcode : (Cond.codeWith y bytes maxL ret hh).before args s = true) (hy : y.cls ≠ "java/lang/invoke/MethodHandle" ∧ y.cls ≠ "java/lang/invoke/VarHandle")
    {W9 : Nat} {Pre : Pt → Array Value → Prop} {Post : Pt → Array Value → Option Value → Pt → Prop} (hK : Back l R p e below s args y 3 W9 Pre Post)
    {g : JFrame} (hg : g.method = m) (hsize : g.locals.size = c.maxLocals) {argsL rest : List Value} (hlen : ∀ sig, parseMethodDescriptor y.desc = some sig → argsL.length = sig.parameters.length)
    (hstack : g.stack = argsL.reverse ++ rest) (hW : 2 * g.monitorRoom + (rest.map fun v => v.category).sum ≤ W9) (hdg : decode c.code g.pc = .ok (.invokestatic index, 3))
    (hpre : ∀ vm₁, s.WarmedH vm₁ → Pre ⟨T.setVm vm₁, locs, cells, slots⟩ argsL.toArray) :
    ∃ (v : Option Value) (vm₁ : Vm) (B : Pt), s.WarmedH vm₁ ∧ Stand p l e R s m args below meth c B.U B.locs B.cells B.slots ∧ Post ⟨T.setVm vm₁, locs, cells, slots⟩ argsL.toArray v B ∧
      ∀ target, Steps p.tables e below (B.U.setTop { g with pc := g.pc + 3, stack := v.toList ++ rest }) target → Steps p.tables e below (T.setTop g) target := by
  obtain ⟨mk, methM, cM, hnamed, hmethM, -, -, -, -, -, -, hsigM⟩ := Cond.codeWith_spec hcode
  have hstatic : methM.isStatic = true := Cond.static_spec hnamed hmethM hstat
  obtain ⟨kP, hkP, -⟩ := className_of_methodNamed hnamed
  have hinitP : kP.init = .initialized := Cond.initialized_spec (findClass_of_methodNamed hnamed) hkP hinit
  obtain ⟨vm₁, X₁, hstep₁⟩ := X.invokestatic hexec hown hlink hnamed hmethM hstatic hkP hinitP hy (g := g) hg (argsL := argsL) (rest := rest) (hlen _ hsigM) hstack hdg
  obtain ⟨v, B, X', hpost, hsteps⟩ := hK m meth c ⟨T.setVm vm₁, locs, cells, slots⟩ { g with stack := rest } (.invokestatic index) mk argsL.toArray X₁ hg hsize hdg hW (X₁.named hnamed) (hpre vm₁ X₁.warmed)
  exact ⟨v, vm₁, B, X₁.warmed, X', hpost, fun target h => hstep₁ _ fun acts => by rw [doInvoke_state]; exact hsteps.trans h⟩
theorem vx_runSW {y : MethodName} {bytes cc : ByteArray} {maxL nL mc ms n index : Nat} {ret : Option FieldType} {hh : List (Nat × Nat × Nat × Nat)} {ws : List Cond} {rm : Room} {Pc : Array Value → State → Prop} {Qc : Array Value → State → Outcome → State → Prop} {free : Addr → Prop} {Ts : List Cond} {own : String} {As rest : List Value} {g : JFrame}
    (S : CallFix p m c cc nL s args Ts own) (hM : Met l y ws rm Pc Qc mc ms free) (cw : vx_CSW R s args own index y bytes maxL ret hh ws rm mc ms n) (hp : PreS s H Pc As)
    (hg : g.method = m) (hn : As.length = n) (hsize : g.locals.size = nL) (hstack : g.stack = As.reverse ++ rest) (hW : 2 * g.monitorRoom + (rest.map fun v => v.category).sum ≤ 8) (hdg : decode cc g.pc = .ok (.invokestatic index, 3)) (hf : cells + mc ≤ R.cells ∧ slots + ms ≤ R.slots) :
    va_Run p l e R s m args below meth c H locs cells slots mc ms g rest (Qc As.toArray) (free) := by
  obtain ⟨⟨hrc, hrs, hfr, hlo, hws, hcw⟩, hcode, hini, hy, hlen, hl, hstt⟩ := cw
  have hK : Back l R p e below s args y 3 8 (PreOf R mc ms Pc) (PostOf Qc mc ms free) := va_backW (hh := hh) (bytes := bytes) (maxL := maxL) (ret := ret) hM hp.1 hrc hrs hfr hlo hws hcw (fun a' U hW => word_at hW (Or.inl (by first | rfl | simp [Cond.onTables, Cond.keeps, Cond.steady])) hini)
  obtain ⟨hx, hb, hml, ho, -⟩ := S
  intro T hT X
  obtain ⟨v, vm₁, ⟨U', l2, c2, s2⟩, hW₁, X', ⟨g', mk, t, L, e1, e2, hq, h1, hL, h2, h3⟩, st⟩ := vx_callSW X hx (hh := hh) (bytes := bytes) (maxL := maxL) (ret := ret) ho hl hstt hini hcode hy hK hg (hsize.trans hml.symm) (argsL := As) (rest := rest) (fun sig h => hn.trans (hlen sig h)) hstack hW (by rw [hb]; exact hdg)
    (fun vm₁ hW₁ => ⟨hf.1, hf.2, hp.2 (T.setVm vm₁) hT hW₁⟩)
  dsimp only [Pt.U, Pt.locs, Pt.cells, Pt.slots] at X' e1 e2 h1 h2 h3 st
  subst h1; subst h2; subst h3
  exact ⟨v, (T.setVm vm₁).calling g' mk As.toArray, t, U', L, hT, X', hL, e1, e2, hq, st⟩
/-- not caught here, past rows that name other classes: it goes on to the caller -/
theorem vx_outP {p : Program} {l : Launch} {e : Env} {R : Room} {s : State} {m : MethodId} {args : Array Value} {below : List Frame} {meth : Method} {c : Code} {H : Heap} {locs : List Loc} {cells slots : Nat} {free : Addr → Prop} {ls : Array Slot} {rest : List Value} {Qc : Array Value → State → Outcome → State → Prop} {XC : String → State → State → Prop}
    {pc : Nat} {own E : String} {ce : Cell} {q : Addr} {mc ms : Nat} (hown : s.vm.findClass own = some m.cls) (hlocks : meth.locks = false)
    (hpass : ∀ z ∈ c.exceptionTable.toList, covers z pc = false ∨ (z.catchType ≠ 0 ∧ ∃ nm : String, (Cond.classLink own z.catchType nm).before args s = true ∧ va_Nc E nm s)) (hcell : H[q]? = some ce) (hv : ce.vm = .none) (hcl : s.vm.findClass E = some ce.cls)
    (hx : ∀ t : State, t.heap = H → s.vm.Alike t.vm → XC E s t) (hf : ∀ z ∈ locs, free z.base) (hc : cells ≤ mc) (hs : slots ≤ ms) :
    vx_W p l e R s m args below meth c H locs cells slots (vx_MQ below Qc XC args s mc ms free) (F0 m pc ls rest) q := by
  intro T hT X
  have hpl : e.platform.magicAccessors = ({} : Platform).magicAccessors := by rw [X.admits.platform]
  obtain ⟨vm', hW', X', st⟩ := X.outThrough hlocks q (g := F0 m pc ls rest) rfl rfl rfl (cell := ce) (by rw [hT]; exact hcell) (by rw [hv]; rfl)
    (by obtain ⟨k9, h9, -⟩ := Vm.findClass_spec hcl; exact ⟨k9, h9⟩) (fun z hz => by
      rcases hpass z hz with h | ⟨hz0, nm, hl1, hn1⟩
      · exact Or.inl h
      · obtain ⟨c6, hc6, hcl6⟩ := Cond.classLink_spec hown hl1 e.platform hpl
        obtain ⟨a8, b8, h1, h2, h3⟩ := hn1
        cases Option.some.inj (h1.symm.trans hcl)
        cases Option.some.inj (h2.symm.trans hc6)
        exact Or.inr ⟨hz0, _, hcl6, h3⟩)
  obtain ⟨g₀, hfr⟩ := X'.frames_eq
  have hcell9 : ((T.setVm vm').setFrames (.throwing q :: below)).heap[q]? = some ce := by
    show T.heap[q]? = some ce
    rw [hT]; exact hcell
  have hend : Ended ((T.setVm vm').setFrames (.throwing q :: below)) below (.threw q) := State.frames_setFrames _ (State.cur_lt_of_frames hfr)
  refine ⟨(T.setVm vm').setFrames (.throwing q :: below), ?_, .threw q, X'.here.running, hend, Or.inr ⟨q, rfl, E, ce, locs, hx _ hT (X'.ends _).1.alike, hcell9, hv, hcl, (X'.ends _).1, (X'.ends _).2.mono hc hs, hf⟩⟩
  rw [X.pushThrowing_eq]
  exact st
/-- a thing of a world lies in the heap -/
theorem vx_lt {D : va_G} {cl : List vw_C} {ws : va_W} {H1 : Heap} (h : va_P D cl ws H1) {k : Nat} {q : Nat × va_E} (hk : ws[k]? = some q) : q.1 < H1.size := (h k q hk).lt
end VXS
/-! ===== END ===== -/
/-! ===== BEGIN methods with a table of their own: called by a name, returning or throwing ===== -/
section VXH
/-! vx_backW, vx_callVX, vx_callSX, vx_callVW, vx_runVW, vx_runVX, vx_runSX, vx_ofWH follow the same proofs as their sisters above (Free/Laws.lean, Shelf42/LK1.lean); vx_outP calls Shelf42/NT130.lean (outThrough). -/
section
variable {l : Launch} {R : Room} {p : Program} {e : Env} {below : List Frame} {s : State} {sargs : Array Value} {y : MethodName} {len W9 : Nat}
theorem vx_backW {ws : List Cond} {rm : Room} {Pc : Array Value → State → Prop} {Qc : Array Value → State → Outcome → State → Prop} {XC : String → State → State → Prop} {mc ms : Nat} {free : Addr → Prop} {bytes : ByteArray} {maxL : Nat} {ret : Option FieldType} {hh : List (Nat × Nat × Nat × Nat)}
    (hM : vx_Met l y ws rm Pc Qc XC mc ms free) (hblind : FrameBlind Pc) (hrc : rm.cells = mc) (hrs : rm.slots = ms)
    (hframes : rm.frames + 1 ≤ R.frames) (hlocals : W9 + (maxL + 11) + rm.locals ≤ R.locals)
    (hws : ∀ w ∈ ws, ∀ a' U, s.WarmedH U.vm → w.before a' U = true) (hcode : Cond.codeWith y bytes maxL ret hh ∈ ws) (hinit : ∀ a' U, s.WarmedH U.vm → (Cond.initialized y.cls).before a' U = true) :
    vx_Back l R p e below s sargs y len W9 (PreOf R mc ms Pc) (PostOf Qc mc ms free) (vx_Post XC mc ms free) := by
  intro m meth c A g ig mk a X hg hsize hdg hW hn hp
  have h1 : (headSpec ws rm).pre.before a A.U = true := atoms_intro fun w hw => hws w hw _ _ X.warmed
  have h2 : (Cond.codeWith y bytes maxL ret hh).before a A.U = true := hws _ hcode _ _ X.warmed
  have h3 : (Cond.initialized y.cls).before a A.U = true := hinit _ _ X.warmed
  have h4 : A.cells + (headSpec ws rm).room.cells ≤ R.cells := by rw [show (headSpec ws rm).room.cells = mc from hrc]; exact hp.1
  have h5 : A.slots + (headSpec ws rm).room.slots ≤ R.slots := by rw [show (headSpec ws rm).room.slots = ms from hrs]; exact hp.2.1
  have hPc : Pc a (A.U.calling g mk a) := hblind _ _ _ _ hp.2.2
  obtain ⟨U, Ls, c0, s0⟩ := A
  dsimp only [Pt.U, Pt.locs, Pt.cells, Pt.slots] at h1 h2 h3 h4 h5 X hn hPc ⊢
  obtain ⟨m9, methY, cY, hn9, hmY, hcY, -, hlY, -⟩ := Cond.codeWith_spec h2
  cases Option.some.inj (hn9.symm.trans hn)
  obtain ⟨kY, hkY, -⟩ := className_of_methodNamed hn
  have hinitY : kY.init = .initialized := Cond.initialized_spec (findClass_of_methodNamed hn) hkY h3
  have h : At U g.method c below := by rw [hg]; exact X.here
  have hlocals9 : W9 + (maxL + 11) + (headSpec ws rm).room.locals ≤ R.locals := hlocals
  have happ : (headSpec ws rm).appliesLoose y e.platform (U.calling g mk a) = true :=
    Spec.appliesLoose_calling (g := g) h hdg hn hkY hinitY
      (X.room_calling (g := g) (R' := (headSpec ws rm).room) hsize hmY hcY hframes (by rw [hlY]; omega) h4 h5) h1
  obtain ⟨mid, hmid⟩ := h.above
  have hfr : (U.setTop g).frames = (.java g :: mid) ++ below := by rw [State.frames_setTop' g h.top, hmid]; rfl
  obtain ⟨o, s₂, hsteps, -, hend, hq⟩ := Steps.callFree hM p X.admits X.cas X.clock (acts := []) hfr happ hPc trivial
  have hq' : vx_Q Qc XC mc ms free a (U.calling g mk a) o s₂ := hq
  rw [State.frames_setTop' g h.top] at hend
  obtain ⟨g₀, hg0⟩ := Option.isSome_iff_exists.mp h.top
  obtain ⟨r, hr⟩ := State.topJava?_eq_some.mp hg0
  have hr' : (({ U with heap := s₂.heap, slotsUsed := s₂.slotsUsed } : State).setVm s₂.vm).frames = .java g₀ :: r := hr
  rcases hq' with ⟨hqc, L, hfe, hL⟩ | ⟨q, rfl, E, ce, L, hx, hce, hcv, hcl, hW₂, hsm, hL⟩
  · obtain ⟨⟨v, rfl⟩, hW₂, e2, q2, q3, q4, q5, q6⟩ := id hfe
    have e3 : s₂ = ({ (U.calling g mk a).setFrames s₂.frames with heap := s₂.heap, slotsUsed := s₂.slotsUsed } : State).setVm s₂.vm := by
      have : s₂ = ({ s₂ with vm := (U.calling g mk a).vm } : State).setVm s₂.vm := rfl
      rw [e2] at this
      exact this
    obtain ⟨c₂, i₂, len₂, hc₂, hd₂, hf₂⟩ := hend
    have hW' : U.WarmedH s₂.vm := hW₂
    have hcc : c₂ = c := by
      have h1 : s₂.code? g.method = U.code? g.method := by
        rw [State.code?_eq, State.code?_eq, hW'.alike.method?]
      exact Option.some.inj (hc₂.symm.trans (h1.trans h.code))
    subst hcc
    have hlen : len₂ = len := by rw [hdg] at hd₂; cases hd₂; rfl
    subst hlen
    have hs₂ : s₂ = (({ U with heap := s₂.heap, slotsUsed := s₂.slotsUsed } : State).setVm s₂.vm).setTop { g with pc := g.pc + len₂, stack := v.toList ++ g.stack } := by
      refine e3.trans ?_
      rw [hf₂, State.calling_eq h.top, State.setFrames_setFrames, State.setTop_of_frames _ hr', hr]
      rfl
    have hsame : U.sameButNew ({ U with heap := s₂.heap, slotsUsed := s₂.slotsUsed } : State) L mc ms := by
      refine ⟨?_, q2, q3, q4, q5, q6⟩
      obtain ⟨t, ht, -⟩ := State.frames_cons hr
      show ({ U with heap := s₂.heap, slotsUsed := s₂.slotsUsed } : State) = { U.setFrames U.frames with heap := s₂.heap, slotsUsed := s₂.slotsUsed }
      rw [State.setFrames_self ht]
    subst hg
    refine Or.inl ⟨v, ⟨(({ U with heap := s₂.heap, slotsUsed := s₂.slotsUsed } : State).setVm s₂.vm), Ls ++ L, c0 + mc, s0 + ms⟩,
      ⟨X.admits, X.cas, X.clock, X.frames, X.room, X.hears, X.method, X.code, (X.here.setHeapUsed s₂.heap s₂.slotsUsed).setVm hW'.alike, X.tail, State.WarmedH.trans X.warmed hW', X.limits, X.bytes, X.same.trans (hsame.setVm s.vm)⟩,
      ⟨g, mk, s₂, L, rfl, rfl, hqc, rfl, hL, rfl, rfl⟩, ?_⟩
    show Steps p.tables e below _ ((({ U with heap := s₂.heap, slotsUsed := s₂.slotsUsed } : State).setVm s₂.vm).setTop { g with pc := g.pc + len₂, stack := v.toList ++ g.stack })
    rw [← hs₂]
    exact hsteps
  · obtain ⟨e2, q2, q3, q4, q5, q6⟩ := id hsm
    have e3 : s₂ = ({ (U.calling g mk a).setFrames s₂.frames with heap := s₂.heap, slotsUsed := s₂.slotsUsed } : State).setVm s₂.vm := by
      have : s₂ = ({ s₂ with vm := (U.calling g mk a).vm } : State).setVm s₂.vm := rfl
      rw [e2] at this
      exact this
    have hf₂ : s₂.frames = .throwing q :: .java g :: U.frames.tail := hend
    have hW' : U.WarmedH s₂.vm := hW₂
    have hs₂ : s₂ = ((({ U with heap := s₂.heap, slotsUsed := s₂.slotsUsed } : State).setVm s₂.vm).setTop g).pushFrame (.throwing q) := by
      refine e3.trans ?_
      rw [hf₂, State.calling_eq h.top, State.setFrames_setFrames, State.pushFrame, State.frames_setTop _ hr', State.setTop_of_frames _ hr', State.setFrames_setFrames, hr]
      rfl
    have hsame : U.sameButNew ({ U with heap := s₂.heap, slotsUsed := s₂.slotsUsed } : State) L mc ms := by
      refine ⟨?_, q2, q3, q4, q5, q6⟩
      obtain ⟨t, ht, -⟩ := State.frames_cons hr
      show ({ U with heap := s₂.heap, slotsUsed := s₂.slotsUsed } : State) = { U.setFrames U.frames with heap := s₂.heap, slotsUsed := s₂.slotsUsed }
      rw [State.setFrames_self ht]
    subst hg
    refine Or.inr ⟨q, ⟨(({ U with heap := s₂.heap, slotsUsed := s₂.slotsUsed } : State).setVm s₂.vm), Ls ++ L, c0 + mc, s0 + ms⟩,
      ⟨X.admits, X.cas, X.clock, X.frames, X.room, X.hears, X.method, X.code, (X.here.setHeapUsed s₂.heap s₂.slotsUsed).setVm hW'.alike, X.tail, State.WarmedH.trans X.warmed hW', X.limits, X.bytes, X.same.trans (hsame.setVm s.vm)⟩,
      ⟨g, mk, s₂, L, E, ce, rfl, rfl, hx, hce, hcv, hcl, rfl, hL, rfl, rfl⟩, ?_⟩
    show Steps p.tables e below _ (((({ U with heap := s₂.heap, slotsUsed := s₂.slotsUsed } : State).setVm s₂.vm).setTop g).pushFrame (.throwing q))
    rw [← hs₂]
    exact hsteps
end
variable {p : Program} {l : Launch} {e : Env} {R : Room} {s : State} {m : MethodId} {args : Array Value} {below : List Frame} {meth : Method} {c : Code} {T : State} {H : Heap} {locs : List Loc} {cells slots : Nat}
theorem vx_callVX (X : Stand p l e R s m args below meth c T locs cells slots) (hexec : p.tables.exec = Jvm.exec) {own C : String} {index : Nat} {y : MethodName} {bytes : ByteArray} {maxL : Nat} {ret : Option FieldType} {hh : List (Nat × Nat × Nat × Nat)}
    (hown : s.vm.findClass own = some m.cls) (hlink : (Cond.methodLink own index y).before args s = true) (hinst : (Cond.instanceMethod y).before args s = true) (hsel : (Cond.selects C y y).before args s = true)
    (hcode : (Cond.codeWith y bytes maxL ret hh).before args s = true) (hy : y.cls ≠ "java/lang/invoke/MethodHandle" ∧ y.cls ≠ "java/lang/invoke/VarHandle")
    {W9 : Nat} {Pre : Pt → Array Value → Prop} {Post : Pt → Array Value → Option Value → Pt → Prop} {PostX : Pt → Array Value → Addr → Pt → Prop} (hK : vx_Back l R p e below s args y 3 W9 Pre Post PostX)
    {b : Addr} {cellB : Cell} (hcell : T.heap[b]? = some cellB) (hobj : cellB.vm.isStatics = false) (hcls : s.vm.findClass C = some cellB.cls)
    {g : JFrame} (hg : g.method = m) (hsize : g.locals.size = c.maxLocals) {argsL rest : List Value} (hlen : ∀ sig, parseMethodDescriptor y.desc = some sig → argsL.length = sig.parameters.length)
    (hstack : g.stack = argsL.reverse ++ .ref b :: rest) (hW : 2 * g.monitorRoom + (rest.map fun v => v.category).sum ≤ W9) (hdg : decode c.code g.pc = .ok (.invokevirtual index, 3))
    (hpre : ∀ vm₁, s.WarmedH vm₁ → Pre ⟨T.setVm vm₁, locs, cells, slots⟩ (Value.ref b :: argsL).toArray) :
    (∃ (v : Option Value) (vm₁ : Vm) (B : Pt), s.WarmedH vm₁ ∧ Stand p l e R s m args below meth c B.U B.locs B.cells B.slots ∧ Post ⟨T.setVm vm₁, locs, cells, slots⟩ (Value.ref b :: argsL).toArray v B ∧
      ∀ target, Steps p.tables e below (B.U.setTop { g with pc := g.pc + 3, stack := v.toList ++ rest }) target → Steps p.tables e below (T.setTop g) target) ∨
    (∃ (q : Addr) (vm₁ : Vm) (B : Pt), s.WarmedH vm₁ ∧ Stand p l e R s m args below meth c B.U B.locs B.cells B.slots ∧ PostX ⟨T.setVm vm₁, locs, cells, slots⟩ (Value.ref b :: argsL).toArray q B ∧
      Steps p.tables e below (T.setTop g) ((B.U.setTop { g with stack := rest }).pushFrame (.throwing q))) := by
  obtain ⟨mk, methM, hnamed, hmethM, hstM, habM⟩ := Cond.instanceMethod_spec hinst
  obtain ⟨m8, methM', cM, hn8, hmethM', -, -, -, -, -, -, hsigM⟩ := Cond.codeWith_spec hcode
  cases Option.some.inj (hn8.symm.trans hnamed)
  cases hmethM.symm.trans hmethM'
  obtain ⟨c2, r2, m2, q1, q2, q3, q4, kP, hkP, hkPi⟩ := Cond.selects_spec hsel
  cases hcls.symm.trans q1
  cases (State.methodFound?_of_named hnamed hy).symm.trans q2
  cases hnamed.symm.trans q3
  have hselP : selectMethod e.platform s.vm cellB.cls mk = .method mk := by rw [Launch.admits_selectMethod X.admits]; exact q4
  obtain ⟨vm₁, X₁, hstep₁⟩ := X.invokevirtual hexec hown hlink hnamed hmethM hstM hkP hkPi hy (a := b) (cell := cellB) hcell
    (fun z h => by rw [h] at hobj; cases hobj) hselP hmethM habM hkP hkPi (g := g) hg (argsL := argsL) (rest := rest) (hlen _ hsigM) hstack hdg
  rcases hK m meth c ⟨T.setVm vm₁, locs, cells, slots⟩ { g with stack := rest } (.invokevirtual index) mk (Value.ref b :: argsL).toArray X₁ hg hsize hdg hW (X₁.named hnamed) (hpre vm₁ X₁.warmed) with ⟨v, B, X', hpost, hsteps⟩ | ⟨q, B, X', hpost, hsteps⟩
  · exact Or.inl ⟨v, vm₁, B, X₁.warmed, X', hpost, fun target h => hstep₁ _ fun acts => by rw [doInvoke_state]; exact hsteps.trans h⟩
  · exact Or.inr ⟨q, vm₁, B, X₁.warmed, X', hpost, hstep₁ _ fun acts => by rw [doInvoke_state]; exact hsteps⟩
theorem vx_callSX (X : Stand p l e R s m args below meth c T locs cells slots) (hexec : p.tables.exec = Jvm.exec) {own : String} {index : Nat} {y : MethodName} {bytes : ByteArray} {maxL : Nat} {ret : Option FieldType} {hh : List (Nat × Nat × Nat × Nat)}
    (hown : s.vm.findClass own = some m.cls) (hlink : (Cond.methodLink own index y).before args s = true) (hstat : (Cond.static y).before args s = true) (hinit : (Cond.initialized y.cls).before args s = true)
    (hcode : (Cond.codeWith y bytes maxL ret hh).before args s = true) (hy : y.cls ≠ "java/lang/invoke/MethodHandle" ∧ y.cls ≠ "java/lang/invoke/VarHandle")
    {W9 : Nat} {Pre : Pt → Array Value → Prop} {Post : Pt → Array Value → Option Value → Pt → Prop} {PostX : Pt → Array Value → Addr → Pt → Prop} (hK : vx_Back l R p e below s args y 3 W9 Pre Post PostX)
    {g : JFrame} (hg : g.method = m) (hsize : g.locals.size = c.maxLocals) {argsL rest : List Value} (hlen : ∀ sig, parseMethodDescriptor y.desc = some sig → argsL.length = sig.parameters.length)
    (hstack : g.stack = argsL.reverse ++ rest) (hW : 2 * g.monitorRoom + (rest.map fun v => v.category).sum ≤ W9) (hdg : decode c.code g.pc = .ok (.invokestatic index, 3))
    (hpre : ∀ vm₁, s.WarmedH vm₁ → Pre ⟨T.setVm vm₁, locs, cells, slots⟩ argsL.toArray) :
    (∃ (v : Option Value) (vm₁ : Vm) (B : Pt), s.WarmedH vm₁ ∧ Stand p l e R s m args below meth c B.U B.locs B.cells B.slots ∧ Post ⟨T.setVm vm₁, locs, cells, slots⟩ argsL.toArray v B ∧
      ∀ target, Steps p.tables e below (B.U.setTop { g with pc := g.pc + 3, stack := v.toList ++ rest }) target → Steps p.tables e below (T.setTop g) target) ∨
    (∃ (q : Addr) (vm₁ : Vm) (B : Pt), s.WarmedH vm₁ ∧ Stand p l e R s m args below meth c B.U B.locs B.cells B.slots ∧ PostX ⟨T.setVm vm₁, locs, cells, slots⟩ argsL.toArray q B ∧
      Steps p.tables e below (T.setTop g) ((B.U.setTop { g with stack := rest }).pushFrame (.throwing q))) := by
  obtain ⟨mk, methM, cM, hnamed, hmethM, -, -, -, -, -, -, hsigM⟩ := Cond.codeWith_spec hcode
  have hstatic : methM.isStatic = true := Cond.static_spec hnamed hmethM hstat
  obtain ⟨kP, hkP, -⟩ := className_of_methodNamed hnamed
  have hinitP : kP.init = .initialized := Cond.initialized_spec (findClass_of_methodNamed hnamed) hkP hinit
  obtain ⟨vm₁, X₁, hstep₁⟩ := X.invokestatic hexec hown hlink hnamed hmethM hstatic hkP hinitP hy (g := g) hg (argsL := argsL) (rest := rest) (hlen _ hsigM) hstack hdg
  rcases hK m meth c ⟨T.setVm vm₁, locs, cells, slots⟩ { g with stack := rest } (.invokestatic index) mk argsL.toArray X₁ hg hsize hdg hW (X₁.named hnamed) (hpre vm₁ X₁.warmed) with ⟨v, B, X', hpost, hsteps⟩ | ⟨q, B, X', hpost, hsteps⟩
  · exact Or.inl ⟨v, vm₁, B, X₁.warmed, X', hpost, fun target h => hstep₁ _ fun acts => by rw [doInvoke_state]; exact hsteps.trans h⟩
  · exact Or.inr ⟨q, vm₁, B, X₁.warmed, X', hpost, hstep₁ _ fun acts => by rw [doInvoke_state]; exact hsteps⟩
theorem vx_callVW (X : Stand p l e R s m args below meth c T locs cells slots) (hexec : p.tables.exec = Jvm.exec) {own C : String} {index : Nat} {y : MethodName} {bytes : ByteArray} {maxL : Nat} {ret : Option FieldType} {hh : List (Nat × Nat × Nat × Nat)}
    (hown : s.vm.findClass own = some m.cls) (hlink : (Cond.methodLink own index y).before args s = true) (hinst : (Cond.instanceMethod y).before args s = true) (hsel : (Cond.selects C y y).before args s = true)
    (hcode : (Cond.codeWith y bytes maxL ret hh).before args s = true) (hy : y.cls ≠ "java/lang/invoke/MethodHandle" ∧ y.cls ≠ "java/lang/invoke/VarHandle")
    {W9 : Nat} {Pre : Pt → Array Value → Prop} {Post : Pt → Array Value → Option Value → Pt → Prop} (hK : Back l R p e below s args y 3 W9 Pre Post)
    {b : Addr} {cellB : Cell} (hcell : T.heap[b]? = some cellB) (hobj : cellB.vm.isStatics = false) (hcls : s.vm.findClass C = some cellB.cls)
    {g : JFrame} (hg : g.method = m) (hsize : g.locals.size = c.maxLocals) {argsL rest : List Value} (hlen : ∀ sig, parseMethodDescriptor y.desc = some sig → argsL.length = sig.parameters.length)
    (hstack : g.stack = argsL.reverse ++ .ref b :: rest) (hW : 2 * g.monitorRoom + (rest.map fun v => v.category).sum ≤ W9) (hdg : decode c.code g.pc = .ok (.invokevirtual index, 3))
    (hpre : ∀ vm₁, s.WarmedH vm₁ → Pre ⟨T.setVm vm₁, locs, cells, slots⟩ (Value.ref b :: argsL).toArray) :
    ∃ (v : Option Value) (vm₁ : Vm) (B : Pt), s.WarmedH vm₁ ∧ Stand p l e R s m args below meth c B.U B.locs B.cells B.slots ∧ Post ⟨T.setVm vm₁, locs, cells, slots⟩ (Value.ref b :: argsL).toArray v B ∧
      ∀ target, Steps p.tables e below (B.U.setTop { g with pc := g.pc + 3, stack := v.toList ++ rest }) target → Steps p.tables e below (T.setTop g) target := by
  obtain ⟨mk, methM, hnamed, hmethM, hstM, habM⟩ := Cond.instanceMethod_spec hinst
  obtain ⟨m8, methM', cM, hn8, hmethM', -, -, -, -, -, -, hsigM⟩ := Cond.codeWith_spec hcode
  cases Option.some.inj (hn8.symm.trans hnamed)
  cases hmethM.symm.trans hmethM'
  obtain ⟨c2, r2, m2, q1, q2, q3, q4, kP, hkP, hkPi⟩ := Cond.selects_spec hsel
  cases hcls.symm.trans q1
  cases (State.methodFound?_of_named hnamed hy).symm.trans q2
  cases hnamed.symm.trans q3
  have hselP : selectMethod e.platform s.vm cellB.cls mk = .method mk := by rw [Launch.admits_selectMethod X.admits]; exact q4
  obtain ⟨vm₁, X₁, hstep₁⟩ := X.invokevirtual hexec hown hlink hnamed hmethM hstM hkP hkPi hy (a := b) (cell := cellB) hcell
    (fun z h => by rw [h] at hobj; cases hobj) hselP hmethM habM hkP hkPi (g := g) hg (argsL := argsL) (rest := rest) (hlen _ hsigM) hstack hdg
  obtain ⟨v, B, X', hpost, hsteps⟩ := hK m meth c ⟨T.setVm vm₁, locs, cells, slots⟩ { g with stack := rest } (.invokevirtual index) mk (Value.ref b :: argsL).toArray X₁ hg hsize hdg hW (X₁.named hnamed) (hpre vm₁ X₁.warmed)
  exact ⟨v, vm₁, B, X₁.warmed, X', hpost, fun target h => hstep₁ _ fun acts => by rw [doInvoke_state]; exact hsteps.trans h⟩
abbrev vx_CVW (R : Room) (s : State) (args : Array Value) (own C : String) (index : Nat) (y : MethodName) (bytes : ByteArray) (maxL : Nat) (ret : Option FieldType) (hh : List (Nat × Nat × Nat × Nat)) (ws : List Cond) (rm : Room) (mc ms n : Nat) : Prop :=
  (rm.cells = mc ∧ rm.slots = ms ∧ rm.frames + 1 ≤ R.frames ∧ 8 + (maxL + 11) + rm.locals ≤ R.locals ∧ (∀ w ∈ ws, ∀ (a' : Array Value) (U : State), s.WarmedH U.vm → w.before a' U = true) ∧ Cond.codeWith y bytes maxL ret hh ∈ ws) ∧
  (Cond.codeWith y bytes maxL ret hh).before args s = true ∧ (Cond.initialized y.cls).before args s = true ∧ (y.cls ≠ "java/lang/invoke/MethodHandle" ∧ y.cls ≠ "java/lang/invoke/VarHandle") ∧
  (∀ sig, parseMethodDescriptor y.desc = some sig → n = sig.parameters.length) ∧ (Cond.methodLink own index y).before args s = true ∧ (Cond.instanceMethod y).before args s = true ∧ (Cond.selects C y y).before args s = true
theorem vx_cwVW {own C : String} {index maxL mc ms : Nat} {y : MethodName} {bytes : ByteArray} {ret : Option FieldType} {hh : List (Nat × Nat × Nat × Nat)} {Ts ws ws' : List Cond} {rm : Room} (n : Nat) (ht : ∀ w ∈ Ts, w.before args s = true) (hT : GoodIn Ts (wsV own index C y ws)) (hw : ws = Cond.codeWith y bytes maxL ret hh :: ws') (hrc : rm.cells = mc) (hrs : rm.slots = ms)
    (hd : y.cls = C ∧ y.cls ≠ "java/lang/invoke/MethodHandle" ∧ y.cls ≠ "java/lang/invoke/VarHandle" ∧ (parseMethodDescriptor y.desc).map (fun d => d.parameters.length) = some n) (hR : rm.frames + 1 ≤ R.frames ∧ 8 + (maxL + 11) + rm.locals ≤ R.locals) :
    vx_CVW R s args own C index y bytes maxL ret hh ws rm mc ms n := by
  obtain ⟨hC, hd⟩ := hd
  subst hC
  have ok : ∀ w ∈ wsV own index y.cls y ws, w.before args s = true := fun w h => ht w (hT w h).1
  have hG : GoodIn Ts ws := fun w h => hT w (by unfold wsV; exact List.mem_append_right _ h)
  have hc : Cond.codeWith y bytes maxL ret hh ∈ ws := by rw [hw]; exact List.mem_cons_self
  refine ⟨⟨hrc, hrs, hR.1, hR.2, pay_in ht hG, hc⟩, ht _ (hG _ hc).1, ok _ (by simp [wsV]), ⟨hd.1, hd.2.1⟩, fun sig h => ?_, ok _ (by simp [wsV]), ok _ (by simp [wsV]), ok _ (by simp [wsV])⟩
  have h2 := hd.2.2
  rw [h] at h2
  exact (Option.some.inj h2).symm
theorem vx_runVW {y : MethodName} {bytes cc : ByteArray} {maxL nL mc ms n index : Nat} {ret : Option FieldType} {hh : List (Nat × Nat × Nat × Nat)} {ws : List Cond} {rm : Room} {Pc : Array Value → State → Prop} {Qc : Array Value → State → Outcome → State → Prop} {free : Addr → Prop} {Ts : List Cond} {own C : String} {b : Addr} {As rest : List Value} {g : JFrame}
    (S : CallFix p m c cc nL s args Ts own) (hM : Met l y ws rm Pc Qc mc ms free) (cw : vx_CVW R s args own C index y bytes maxL ret hh ws rm mc ms n) (hp : PreV s H C b Pc As)
    (hg : g.method = m) (hn : As.length = n) (hsize : g.locals.size = nL) (hstack : g.stack = As.reverse ++ .ref b :: rest) (hW : 2 * g.monitorRoom + (rest.map fun v => v.category).sum ≤ 8) (hdg : decode cc g.pc = .ok (.invokevirtual index, 3)) (hf : cells + mc ≤ R.cells ∧ slots + ms ≤ R.slots) :
    va_Run p l e R s m args below meth c H locs cells slots mc ms g rest (Qc (Value.ref b :: As).toArray) free := by
  obtain ⟨⟨hrc, hrs, hfr, hlo, hws, hcw⟩, hcode, hini, hy, hlen, hl, hin, hse⟩ := cw
  have hK : Back l R p e below s args y 3 8 (PreOf R mc ms Pc) (PostOf Qc mc ms free) := va_backW (hh := hh) (bytes := bytes) (maxL := maxL) (ret := ret) hM hp.1 hrc hrs hfr hlo hws hcw (fun a' U hW => word_at hW (Or.inl (by first | rfl | simp [Cond.onTables, Cond.keeps, Cond.steady])) hini)
  obtain ⟨hx, hb, hml, ho, -⟩ := S
  obtain ⟨-, ⟨cellB, hcB, hoB, hclB⟩, hPc⟩ := hp
  intro T hT X
  obtain ⟨v, vm₁, ⟨U', l2, c2, s2⟩, hW₁, X', ⟨g', mk, t, L, e1, e2, hq, h1, hL, h2, h3⟩, st⟩ := vx_callVW X hx (C := C) (hh := hh) (bytes := bytes) (maxL := maxL) (ret := ret) ho hl hin hse hcode hy hK (by rw [hT]; exact hcB) hoB hclB hg (hsize.trans hml.symm) (argsL := As) (rest := rest) (fun sig h => hn.trans (hlen sig h)) hstack hW (by rw [hb]; exact hdg)
    (fun vm₁ hW₁ => ⟨hf.1, hf.2, hPc (T.setVm vm₁) hT hW₁⟩)
  dsimp only [Pt.U, Pt.locs, Pt.cells, Pt.slots] at X' e1 e2 h1 h2 h3 st
  subst h1; subst h2; subst h3
  exact ⟨v, (T.setVm vm₁).calling g' mk (Value.ref b :: As).toArray, t, U', L, hT, X', hL, e1, e2, hq, st⟩
section
variable {y : MethodName} {bytes cc : ByteArray} {maxL nL mc ms n index : Nat} {ret : Option FieldType} {ws : List Cond} {rm : Room} {Pc : Array Value → State → Prop} {Qc : Array Value → State → Outcome → State → Prop} {XC : String → State → State → Prop} {free : Addr → Prop} {Ts : List Cond} {own C : String} {b : Addr} {As rest : List Value} {g : JFrame}
theorem vx_runVX {hh : List (Nat × Nat × Nat × Nat)} (S : CallFix p m c cc nL s args Ts own) (hM : vx_Met l y ws rm Pc Qc XC mc ms free) (cw : vx_CVW R s args own C index y bytes maxL ret hh ws rm mc ms n) (hp : PreV s H C b Pc As)
    (hg : g.method = m) (hn : As.length = n) (hsize : g.locals.size = nL) (hstack : g.stack = As.reverse ++ .ref b :: rest) (hW : 2 * g.monitorRoom + (rest.map fun v => v.category).sum ≤ 8) (hdg : decode cc g.pc = .ok (.invokevirtual index, 3)) (hf : cells + mc ≤ R.cells ∧ slots + ms ≤ R.slots) :
    vx_Run p l e R s m args below meth c H locs cells slots mc ms g rest (Qc (Value.ref b :: As).toArray) XC free := by
  obtain ⟨⟨hrc, hrs, hfr, hlo, hws, hcw⟩, hcode, hini, hy, hlen, hl, hin, hse⟩ := cw
  have hK : vx_Back l R p e below s args y 3 8 (PreOf R mc ms Pc) (PostOf Qc mc ms free) (vx_Post XC mc ms free) := vx_backW (hh := hh) (bytes := bytes) (maxL := maxL) (ret := ret) hM hp.1 hrc hrs hfr hlo hws hcw (fun a' U hW => word_at hW (Or.inl (by first | rfl | simp [Cond.onTables, Cond.keeps, Cond.steady])) hini)
  obtain ⟨hx, hb, hml, ho, -⟩ := S
  obtain ⟨-, ⟨cellB, hcB, hoB, hclB⟩, hPc⟩ := hp
  intro T hT X
  rcases vx_callVX X hx (C := C) (hh := hh) (bytes := bytes) (maxL := maxL) (ret := ret) ho hl hin hse hcode hy hK (by rw [hT]; exact hcB) hoB hclB hg (hsize.trans hml.symm) (argsL := As) (rest := rest) (fun sig h => hn.trans (hlen sig h)) hstack hW (by rw [hb]; exact hdg)
    (fun vm₁ hW₁ => ⟨hf.1, hf.2, hPc (T.setVm vm₁) hT hW₁⟩) with ⟨v, vm₁, ⟨U', l2, c2, s2⟩, hW₁, X', ⟨g', mk, t, L, e1, e2, hq, h1, hL, h2, h3⟩, st⟩ | ⟨q, vm₁, ⟨U', l2, c2, s2⟩, hW₁, X', ⟨g', mk, t, L, E, ce, e1, e2, hq, hce, hcv, hcl, h1, hL, h2, h3⟩, st⟩
  · dsimp only [Pt.U, Pt.locs, Pt.cells, Pt.slots] at X' e1 e2 h1 h2 h3 st
    subst h1; subst h2; subst h3
    exact Or.inl ⟨v, (T.setVm vm₁).calling g' mk (Value.ref b :: As).toArray, t, U', L, hT, X', hL, e1, e2, hq, st⟩
  · dsimp only [Pt.U, Pt.locs, Pt.cells, Pt.slots] at X' e1 e2 h1 h2 h3 st hcl
    subst h1; subst h2; subst h3
    exact Or.inr ⟨q, (T.setVm vm₁).calling g' mk (Value.ref b :: As).toArray, t, U', L, E, ce, hT, X', hL, e1, e2, hq, hce, hcv, vx_cls hW₁ hcl, st⟩
theorem vx_runSX {hh : List (Nat × Nat × Nat × Nat)} (S : CallFix p m c cc nL s args Ts own) (hM : vx_Met l y ws rm Pc Qc XC mc ms free) (cw : vx_CSW R s args own index y bytes maxL ret hh ws rm mc ms n) (hp : PreS s H Pc As)
    (hg : g.method = m) (hn : As.length = n) (hsize : g.locals.size = nL) (hstack : g.stack = As.reverse ++ rest) (hW : 2 * g.monitorRoom + (rest.map fun v => v.category).sum ≤ 8) (hdg : decode cc g.pc = .ok (.invokestatic index, 3)) (hf : cells + mc ≤ R.cells ∧ slots + ms ≤ R.slots) :
    vx_Run p l e R s m args below meth c H locs cells slots mc ms g rest (Qc As.toArray) XC free := by
  obtain ⟨⟨hrc, hrs, hfr, hlo, hws, hcw⟩, hcode, hini, hy, hlen, hl, hstt⟩ := cw
  have hK : vx_Back l R p e below s args y 3 8 (PreOf R mc ms Pc) (PostOf Qc mc ms free) (vx_Post XC mc ms free) := vx_backW (hh := hh) (bytes := bytes) (maxL := maxL) (ret := ret) hM hp.1 hrc hrs hfr hlo hws hcw (fun a' U hW => word_at hW (Or.inl (by first | rfl | simp [Cond.onTables, Cond.keeps, Cond.steady])) hini)
  obtain ⟨hx, hb, hml, ho, -⟩ := S
  intro T hT X
  rcases vx_callSX X hx (hh := hh) (bytes := bytes) (maxL := maxL) (ret := ret) ho hl hstt hini hcode hy hK hg (hsize.trans hml.symm) (argsL := As) (rest := rest) (fun sig h => hn.trans (hlen sig h)) hstack hW (by rw [hb]; exact hdg)
    (fun vm₁ hW₁ => ⟨hf.1, hf.2, hp.2 (T.setVm vm₁) hT hW₁⟩) with ⟨v, vm₁, ⟨U', l2, c2, s2⟩, hW₁, X', ⟨g', mk, t, L, e1, e2, hq, h1, hL, h2, h3⟩, st⟩ | ⟨q, vm₁, ⟨U', l2, c2, s2⟩, hW₁, X', ⟨g', mk, t, L, E, ce, e1, e2, hq, hce, hcv, hcl, h1, hL, h2, h3⟩, st⟩
  · dsimp only [Pt.U, Pt.locs, Pt.cells, Pt.slots] at X' e1 e2 h1 h2 h3 st
    subst h1; subst h2; subst h3
    exact Or.inl ⟨v, (T.setVm vm₁).calling g' mk As.toArray, t, U', L, hT, X', hL, e1, e2, hq, st⟩
  · dsimp only [Pt.U, Pt.locs, Pt.cells, Pt.slots] at X' e1 e2 h1 h2 h3 st hcl
    subst h1; subst h2; subst h3
    exact Or.inr ⟨q, (T.setVm vm₁).calling g' mk As.toArray, t, U', L, E, ce, hT, X', hL, e1, e2, hq, hce, hcv, vx_cls hW₁ hcl, st⟩
end
end VXH
theorem vx_ofWH {l : Launch} {y : MethodName} {ws ws' : List Cond} {rm : Room} {Pc : Array Value → State → Prop} {Qc : Array Value → State → Outcome → State → Prop} {XC : String → State → State → Prop} {mc ms : Nat} {free : Addr → Prop} {cc : ByteArray} {maxL : Nat} {ret : Option FieldType} {hh : List (Nat × Nat × Nat × Nat)}
    (hy : plainName y.cls = true) (hw : ws = Cond.codeWith y cc maxL ret hh :: ws')
    (body : ∀ p e s m args below meth c s₁, BodyLoose p l y (headSpec ws rm) cc maxL ret e s m args below meth c s₁ → c.maxLocals = maxL → Pc args s →
      W p l e (headSpec ws rm).room s m args below meth c s.heap [] 0 0 (vx_MQ below Qc XC args s mc ms free) (entryFrame m args maxL)) : vx_Met l y ws rm Pc Qc XC mc ms free := by
  refine MetFree.of_bodyS (code := cc) (maxLocals := maxL) (ret := ret) hy ?_ ?_
  · intro args s m h hn
    obtain ⟨m9, meth, c, hn9, h1, h2, h3, h4, -, h5, h6, -⟩ := Cond.codeWith_spec (atoms_spec (ws := ws) h _ (by rw [hw]; exact List.mem_cons_self))
    cases hn.symm.trans hn9
    exact ⟨meth, c, h1, h2, h3, h4, h5, h6⟩
  · intro p e s m args below meth c s₁ B hml hP _
    have hh0 : s₁.heap = s.heap := by rw [B.state]; rfl
    obtain ⟨t, a1, o, b1, b2, b3⟩ := body p e s m args below meth c s₁ B hml hP s₁ hh0 (Stand.of_body B)
    exact ⟨t, o, a1, b1, b2, b3⟩
/-! ===== END ===== -/
end
section
def RX0 : String := "QuorumBakery$Agreement"
def TX0 : u_T := fun k => match k with
  | 0 => ("QuorumBakery$Agreement", "group", "I", false)
  | 1 => ("QuorumBakery$Agreement", "terms", "[I", true)
  | 2 => ("QuorumBakery$Agreement", "roles", "[I", true)
  | 3 => ("QuorumBakery$Agreement", "votes", "[I", true)
  | 4 => ("QuorumBakery$Agreement", "supporters", "[I", true)
  | 5 => ("QuorumBakery$Agreement", "logs", "[[I", true)
  | 6 => ("QuorumBakery$Agreement", "lengths", "[I", true)
  | 7 => ("QuorumBakery$Agreement", "versionCount", "I", false)
  | 8 => ("QuorumBakery$Agreement", "versionTerms", "[I", true)
  | 9 => ("QuorumBakery$Agreement", "holderSets", "[I", true)
  | 10 => ("QuorumBakery$Agreement", "held", "J", false)
  | _ => ("QuorumBakery$Agreement", "everHeld", "J", false)
def tyX0 : Nat → FieldType := fun k => match k with
  | 0 => .int
  | 1 => .array .int
  | 2 => .array .int
  | 3 => .array .int
  | 4 => .array .int
  | 5 => .array (.array .int)
  | 6 => .array .int
  | 7 => .int
  | 8 => .array .int
  | 9 => .array .int
  | 10 => .long
  | _ => .long
abbrev wsX00 : List Cond := u_ws RX0 TX0 12
theorem nmX0 : ∀ a, a < 12 → ∀ b, b < 12 → a ≠ b → (TX0 a).2.1 ≠ (TX0 b).2.1 := by decide +kernel
theorem tyX0_ok : ∀ k, k < 12 → parseFieldDescriptor (TX0 k).2.2.1 = some (tyX0 k) := by decide +kernel
abbrev cX0_init : ByteArray := prog_2_method_1_code
def yX0_init : MethodName := ⟨RX0, "<init>", "()V"⟩
abbrev cX0_begin : ByteArray := prog_2_method_2_code
def yX0_begin : MethodName := ⟨RX0, "begin", "()V"⟩
abbrev cX0_areTogether : ByteArray := prog_2_method_3_code
def yX0_areTogether : MethodName := ⟨RX0, "areTogether", "(II)Z"⟩
abbrev cX0_becomeCandidate : ByteArray := prog_2_method_4_code
def yX0_becomeCandidate : MethodName := ⟨RX0, "becomeCandidate", "(I)V"⟩
abbrev cX0_takeTerm : ByteArray := prog_2_method_5_code
def yX0_takeTerm : MethodName := ⟨RX0, "takeTerm", "(II)V"⟩
abbrev cX0_askForVote : ByteArray := prog_2_method_6_code
def yX0_askForVote : MethodName := ⟨RX0, "askForVote", "(II)Z"⟩
abbrev cX0_giveVote : ByteArray := prog_2_method_7_code
def yX0_giveVote : MethodName := ⟨RX0, "giveVote", "(II)V"⟩
abbrev cX0_hasBetterLog : ByteArray := prog_2_method_8_code
def yX0_hasBetterLog : MethodName := ⟨RX0, "hasBetterLog", "(II)Z"⟩
abbrev cX0_lastTerm : ByteArray := prog_2_method_9_code
def yX0_lastTerm : MethodName := ⟨RX0, "lastTerm", "(I)I"⟩
abbrev cX0_addVersion : ByteArray := prog_2_method_10_code
def yX0_addVersion : MethodName := ⟨RX0, "addVersion", "(I)I"⟩
abbrev cX0_sendLog : ByteArray := prog_2_method_11_code
def yX0_sendLog : MethodName := ⟨RX0, "sendLog", "(II)I"⟩
abbrev cX0_commonLength : ByteArray := prog_2_method_12_code
def yX0_commonLength : MethodName := ⟨RX0, "commonLength", "(II)I"⟩
abbrev cX0_cutAt : ByteArray := prog_2_method_13_code
def yX0_cutAt : MethodName := ⟨RX0, "cutAt", "(II)V"⟩
abbrev cX0_copyRest : ByteArray := prog_2_method_14_code
def yX0_copyRest : MethodName := ⟨RX0, "copyRest", "(II)I"⟩
abbrev cX0_append : ByteArray := prog_2_method_15_code
def yX0_append : MethodName := ⟨RX0, "append", "(II)V"⟩
abbrev cX0_judgeHeld : ByteArray := prog_2_method_16_code
def yX0_judgeHeld : MethodName := ⟨RX0, "judgeHeld", "(I)V"⟩
def RX1 : String := "QuorumBakery$Batches"
def TX1 : u_T := fun k => match k with
  | 0 => ("QuorumBakery$Batches", "count", "I", false)
  | 1 => ("QuorumBakery$Batches", "versionRow", "[I", true)
  | 2 => ("QuorumBakery$Batches", "lotSets", "[I", true)
  | 3 => ("QuorumBakery$Batches", "leftRow", "[I", true)
  | _ => ("QuorumBakery$Batches", "soldRow", "[I", true)
def tyX1 : Nat → FieldType := fun k => match k with
  | 0 => .int
  | 1 => .array .int
  | 2 => .array .int
  | 3 => .array .int
  | _ => .array .int
abbrev wsX10 : List Cond := u_ws RX1 TX1 5
theorem nmX1 : ∀ a, a < 5 → ∀ b, b < 5 → a ≠ b → (TX1 a).2.1 ≠ (TX1 b).2.1 := by decide +kernel
theorem tyX1_ok : ∀ k, k < 5 → parseFieldDescriptor (TX1 k).2.2.1 = some (tyX1 k) := by decide +kernel
abbrev cX1_init : ByteArray := prog_3_method_1_code
def yX1_init : MethodName := ⟨RX1, "<init>", "()V"⟩
abbrev cX1_add : ByteArray := prog_3_method_2_code
def yX1_add : MethodName := ⟨RX1, "add", "(III)V"⟩
def RX2 : String := "QuorumBakery$Flour"
def TX2 : u_T := fun k => match k with
  | 0 => ("QuorumBakery$Flour", "lotCount", "I", false)
  | 1 => ("QuorumBakery$Flour", "condemned", "I", false)
  | 2 => ("QuorumBakery$Flour", "stores", "[[I", true)
  | _ => ("QuorumBakery$Flour", "bagCounts", "[I", true)
def tyX2 : Nat → FieldType := fun k => match k with
  | 0 => .int
  | 1 => .int
  | 2 => .array (.array .int)
  | _ => .array .int
abbrev wsX20 : List Cond := u_ws RX2 TX2 4
theorem nmX2 : ∀ a, a < 4 → ∀ b, b < 4 → a ≠ b → (TX2 a).2.1 ≠ (TX2 b).2.1 := by decide +kernel
theorem tyX2_ok : ∀ k, k < 4 → parseFieldDescriptor (TX2 k).2.2.1 = some (tyX2 k) := by decide +kernel
abbrev cX2_init : ByteArray := prog_4_method_1_code
def yX2_init : MethodName := ⟨RX2, "<init>", "()V"⟩
abbrev cX2_bring : ByteArray := prog_4_method_2_code
def yX2_bring : MethodName := ⟨RX2, "bring", "(III)V"⟩
abbrev cX2_takeFirst : ByteArray := prog_4_method_3_code
def yX2_takeFirst : MethodName := ⟨RX2, "takeFirst", "(II)I"⟩
abbrev cX2_throwOut : ByteArray := prog_4_method_4_code
def yX2_throwOut : MethodName := ⟨RX2, "throwOut", "(I)V"⟩
abbrev cX2_throwOutOf : ByteArray := prog_4_method_5_code
def yX2_throwOutOf : MethodName := ⟨RX2, "throwOutOf", "(II)V"⟩
def RX3 : String := "QuorumBakery$History"
def TX3 : u_T := fun k => match k with
  | 0 => ("QuorumBakery$History", "count", "I", false)
  | 1 => ("QuorumBakery$History", "kinds", "[I", true)
  | 2 => ("QuorumBakery$History", "firsts", "[I", true)
  | _ => ("QuorumBakery$History", "seconds", "[I", true)
def tyX3 : Nat → FieldType := fun k => match k with
  | 0 => .int
  | 1 => .array .int
  | 2 => .array .int
  | _ => .array .int
abbrev wsX30 : List Cond := u_ws RX3 TX3 4
theorem nmX3 : ∀ a, a < 4 → ∀ b, b < 4 → a ≠ b → (TX3 a).2.1 ≠ (TX3 b).2.1 := by decide +kernel
theorem tyX3_ok : ∀ k, k < 4 → parseFieldDescriptor (TX3 k).2.2.1 = some (tyX3 k) := by decide +kernel
abbrev cX3_init : ByteArray := prog_5_method_1_code
def yX3_init : MethodName := ⟨RX3, "<init>", "()V"⟩
abbrev cX3_add : ByteArray := prog_5_method_2_code
def yX3_add : MethodName := ⟨RX3, "add", "(III)V"⟩
def RX4 : String := "QuorumBakery$Ovens"
def TX4 : u_T := fun k => match k with
  | 0 => ("QuorumBakery$Ovens", "now", "I", false)
  | 1 => ("QuorumBakery$Ovens", "slots", "[[I", true)
  | _ => ("QuorumBakery$Ovens", "missedCounts", "[I", true)
def tyX4 : Nat → FieldType := fun k => match k with
  | 0 => .int
  | 1 => .array (.array .int)
  | _ => .array .int
abbrev wsX40 : List Cond := u_ws RX4 TX4 3
theorem nmX4 : ∀ a, a < 3 → ∀ b, b < 3 → a ≠ b → (TX4 a).2.1 ≠ (TX4 b).2.1 := by decide +kernel
theorem tyX4_ok : ∀ k, k < 3 → parseFieldDescriptor (TX4 k).2.2.1 = some (tyX4 k) := by decide +kernel
abbrev cX4_init : ByteArray := prog_6_method_1_code
def yX4_init : MethodName := ⟨RX4, "<init>", "()V"⟩
abbrev cX4_slotAt : ByteArray := prog_6_method_2_code
def yX4_slotAt : MethodName := ⟨RX4, "slotAt", "(II)I"⟩
abbrev cX4_setSlot : ByteArray := prog_6_method_3_code
def yX4_setSlot : MethodName := ⟨RX4, "setSlot", "(III)V"⟩
def RX5 : String := "QuorumBakery$Recalls"
def TX5 : u_T := fun k => match k with
  | 0 => ("QuorumBakery$Recalls", "count", "I", false)
  | 1 => ("QuorumBakery$Recalls", "batchRow", "[I", true)
  | 2 => ("QuorumBakery$Recalls", "loafRow", "[I", true)
  | _ => ("QuorumBakery$Recalls", "reasonRow", "[I", true)
def tyX5 : Nat → FieldType := fun k => match k with
  | 0 => .int
  | 1 => .array .int
  | 2 => .array .int
  | _ => .array .int
abbrev wsX50 : List Cond := u_ws RX5 TX5 4
theorem nmX5 : ∀ a, a < 4 → ∀ b, b < 4 → a ≠ b → (TX5 a).2.1 ≠ (TX5 b).2.1 := by decide +kernel
theorem tyX5_ok : ∀ k, k < 4 → parseFieldDescriptor (TX5 k).2.2.1 = some (tyX5 k) := by decide +kernel
abbrev cX5_init : ByteArray := prog_7_method_1_code
def yX5_init : MethodName := ⟨RX5, "<init>", "()V"⟩
abbrev cX5_write : ByteArray := prog_7_method_2_code
def yX5_write : MethodName := ⟨RX5, "write", "(III)V"⟩
def RX6 : String := "QuorumBakery$Recipes"
def TX6 : u_T := fun k => match k with
  | 0 => ("QuorumBakery$Recipes", "recipeOf", "[I", true)
  | 1 => ("QuorumBakery$Recipes", "bagsOf", "[I", true)
  | _ => ("QuorumBakery$Recipes", "loavesOf", "[I", true)
def tyX6 : Nat → FieldType := fun k => match k with
  | 0 => .array .int
  | 1 => .array .int
  | _ => .array .int
abbrev wsX60 : List Cond := u_ws RX6 TX6 3
theorem nmX6 : ∀ a, a < 3 → ∀ b, b < 3 → a ≠ b → (TX6 a).2.1 ≠ (TX6 b).2.1 := by decide +kernel
theorem tyX6_ok : ∀ k, k < 3 → parseFieldDescriptor (TX6 k).2.2.1 = some (tyX6 k) := by decide +kernel
abbrev cX6_init : ByteArray := prog_8_method_1_code
def yX6_init : MethodName := ⟨RX6, "<init>", "()V"⟩
abbrev cX6_note : ByteArray := prog_8_method_2_code
def yX6_note : MethodName := ⟨RX6, "note", "(IIII)V"⟩
def RX7 : String := "QuorumBakery"
def TX7 : u_T := fun k => match k with
  | 0 => ("QuorumBakery", "agreement", "LQuorumBakery$Agreement;", true)
  | 1 => ("QuorumBakery", "anew", "LQuorumBakery$Agreement;", true)
  | 2 => ("QuorumBakery", "history", "LQuorumBakery$History;", true)
  | 3 => ("QuorumBakery", "recipes", "LQuorumBakery$Recipes;", true)
  | 4 => ("QuorumBakery", "flour", "LQuorumBakery$Flour;", true)
  | 5 => ("QuorumBakery", "ovens", "LQuorumBakery$Ovens;", true)
  | 6 => ("QuorumBakery", "batches", "LQuorumBakery$Batches;", true)
  | _ => ("QuorumBakery", "recalls", "LQuorumBakery$Recalls;", true)
def tyX7 : Nat → FieldType := fun k => match k with
  | 0 => .object "QuorumBakery$Agreement"
  | 1 => .object "QuorumBakery$Agreement"
  | 2 => .object "QuorumBakery$History"
  | 3 => .object "QuorumBakery$Recipes"
  | 4 => .object "QuorumBakery$Flour"
  | 5 => .object "QuorumBakery$Ovens"
  | 6 => .object "QuorumBakery$Batches"
  | _ => .object "QuorumBakery$Recalls"
abbrev wsX70 : List Cond := u_ws RX7 TX7 8
theorem nmX7 : ∀ a, a < 8 → ∀ b, b < 8 → a ≠ b → (TX7 a).2.1 ≠ (TX7 b).2.1 := by decide +kernel
theorem tyX7_ok : ∀ k, k < 8 → parseFieldDescriptor (TX7 k).2.2.1 = some (tyX7 k) := by decide +kernel
abbrev cX7_init : ByteArray := prog_1_method_1_code
def yX7_init : MethodName := ⟨RX7, "<init>", "()V"⟩
abbrev cX7_part : ByteArray := prog_1_method_2_code
def yX7_part : MethodName := ⟨RX7, "part", "(I)I"⟩
abbrev cX7_stand : ByteArray := prog_1_method_3_code
def yX7_stand : MethodName := ⟨RX7, "stand", "(I)I"⟩
abbrev cX7_vote : ByteArray := prog_1_method_4_code
def yX7_vote : MethodName := ⟨RX7, "vote", "(II)Z"⟩
abbrev cX7_propose : ByteArray := prog_1_method_5_code
def yX7_propose : MethodName := ⟨RX7, "propose", "(IIII)I"⟩
abbrev cX7_tell : ByteArray := prog_1_method_6_code
def yX7_tell : MethodName := ⟨RX7, "tell", "(II)I"⟩
abbrev cX7_role : ByteArray := prog_1_method_7_code
def yX7_role : MethodName := ⟨RX7, "role", "(I)I"⟩
abbrev cX7_term : ByteArray := prog_1_method_8_code
def yX7_term : MethodName := ⟨RX7, "term", "(I)I"⟩
abbrev cX7_votedFor : ByteArray := prog_1_method_9_code
def yX7_votedFor : MethodName := ⟨RX7, "votedFor", "(I)I"⟩
abbrev cX7_reach : ByteArray := prog_1_method_10_code
def yX7_reach : MethodName := ⟨RX7, "reach", "(II)Z"⟩
abbrev cX7_entries : ByteArray := prog_1_method_11_code
def yX7_entries : MethodName := ⟨RX7, "entries", "(I)I"⟩
abbrev cX7_versionAt : ByteArray := prog_1_method_12_code
def yX7_versionAt : MethodName := ⟨RX7, "versionAt", "(II)I"⟩
abbrev cX7_versions : ByteArray := prog_1_method_13_code
def yX7_versions : MethodName := ⟨RX7, "versions", "()I"⟩
abbrev cX7_termOf : ByteArray := prog_1_method_14_code
def yX7_termOf : MethodName := ⟨RX7, "termOf", "(I)I"⟩
abbrev cX7_holders : ByteArray := prog_1_method_15_code
def yX7_holders : MethodName := ⟨RX7, "holders", "(I)I"⟩
abbrev cX7_isHeld : ByteArray := prog_1_method_16_code
def yX7_isHeld : MethodName := ⟨RX7, "isHeld", "(I)Z"⟩
abbrev cX7_wasHeld : ByteArray := prog_1_method_17_code
def yX7_wasHeld : MethodName := ⟨RX7, "wasHeld", "(I)Z"⟩
abbrev cX7_current : ByteArray := prog_1_method_18_code
def yX7_current : MethodName := ⟨RX7, "current", "(II)I"⟩
abbrev cX7_addLot : ByteArray := prog_1_method_19_code
def yX7_addLot : MethodName := ⟨RX7, "addLot", "()I"⟩
abbrev cX7_deliver : ByteArray := prog_1_method_20_code
def yX7_deliver : MethodName := ⟨RX7, "deliver", "(III)I"⟩
abbrev cX7_condemn : ByteArray := prog_1_method_21_code
def yX7_condemn : MethodName := ⟨RX7, "condemn", "(I)I"⟩
abbrev cX7_store : ByteArray := prog_1_method_22_code
def yX7_store : MethodName := ⟨RX7, "store", "(I)I"⟩
abbrev cX7_book : ByteArray := prog_1_method_23_code
def yX7_book : MethodName := ⟨RX7, "book", "(III)I"⟩
abbrev cX7_booked : ByteArray := prog_1_method_26_code
def yX7_booked : MethodName := ⟨RX7, "booked", "(II)I"⟩
abbrev cX7_stopped : ByteArray := prog_1_method_27_code
def yX7_stopped : MethodName := ⟨RX7, "stopped", "()I"⟩
abbrev cX7_pass : ByteArray := prog_1_method_28_code
def yX7_pass : MethodName := ⟨RX7, "pass", "(I)I"⟩
abbrev cX7_time : ByteArray := prog_1_method_29_code
def yX7_time : MethodName := ⟨RX7, "time", "()I"⟩
abbrev cX7_batches : ByteArray := prog_1_method_31_code
def yX7_batches : MethodName := ⟨RX7, "batches", "()I"⟩
abbrev cX7_versionOf : ByteArray := prog_1_method_32_code
def yX7_versionOf : MethodName := ⟨RX7, "versionOf", "(I)I"⟩
abbrev cX7_lotsOf : ByteArray := prog_1_method_33_code
def yX7_lotsOf : MethodName := ⟨RX7, "lotsOf", "(I)I"⟩
abbrev cX7_left : ByteArray := prog_1_method_34_code
def yX7_left : MethodName := ⟨RX7, "left", "(I)I"⟩
abbrev cX7_barred : ByteArray := prog_1_method_35_code
def yX7_barred : MethodName := ⟨RX7, "barred", "(I)I"⟩
abbrev cX7_barredAnew : ByteArray := prog_1_method_36_code
def yX7_barredAnew : MethodName := ⟨RX7, "barredAnew", "(I)I"⟩
abbrev cX7_sell : ByteArray := prog_1_method_37_code
def yX7_sell : MethodName := ⟨RX7, "sell", "(II)I"⟩
abbrev cX7_onSale : ByteArray := prog_1_method_38_code
def yX7_onSale : MethodName := ⟨RX7, "onSale", "()I"⟩
abbrev cX7_traced : ByteArray := prog_1_method_39_code
def yX7_traced : MethodName := ⟨RX7, "traced", "(I)I"⟩
abbrev cX7_tracedAt : ByteArray := prog_1_method_40_code
def yX7_tracedAt : MethodName := ⟨RX7, "tracedAt", "(II)I"⟩
abbrev cX7_recalls : ByteArray := prog_1_method_41_code
def yX7_recalls : MethodName := ⟨RX7, "recalls", "()I"⟩
abbrev cX7_recallOf : ByteArray := prog_1_method_42_code
def yX7_recallOf : MethodName := ⟨RX7, "recallOf", "(I)I"⟩
abbrev cX7_calledBack : ByteArray := prog_1_method_43_code
def yX7_calledBack : MethodName := ⟨RX7, "calledBack", "(I)I"⟩
abbrev cX7_why : ByteArray := prog_1_method_44_code
def yX7_why : MethodName := ⟨RX7, "why", "(I)I"⟩
abbrev cX7_checkBakery : ByteArray := prog_1_method_45_code
def yX7_checkBakery : MethodName := ⟨RX7, "checkBakery", "(I)V"⟩
abbrev cX7_checkPair : ByteArray := prog_1_method_46_code
def yX7_checkPair : MethodName := ⟨RX7, "checkPair", "(II)V"⟩
abbrev cX7_checkReach : ByteArray := prog_1_method_47_code
def yX7_checkReach : MethodName := ⟨RX7, "checkReach", "(II)V"⟩
abbrev cX7_checkLeader : ByteArray := prog_1_method_48_code
def yX7_checkLeader : MethodName := ⟨RX7, "checkLeader", "(I)V"⟩
abbrev cX7_checkRecipe : ByteArray := prog_1_method_49_code
def yX7_checkRecipe : MethodName := ⟨RX7, "checkRecipe", "(I)V"⟩
abbrev cX7_checkVersion : ByteArray := prog_1_method_50_code
def yX7_checkVersion : MethodName := ⟨RX7, "checkVersion", "(I)V"⟩
abbrev cX7_checkLot : ByteArray := prog_1_method_51_code
def yX7_checkLot : MethodName := ⟨RX7, "checkLot", "(I)V"⟩
abbrev cX7_checkGood : ByteArray := prog_1_method_52_code
def yX7_checkGood : MethodName := ⟨RX7, "checkGood", "(I)V"⟩
abbrev cX7_checkHour : ByteArray := prog_1_method_53_code
def yX7_checkHour : MethodName := ⟨RX7, "checkHour", "(I)V"⟩
abbrev cX7_checkBatch : ByteArray := prog_1_method_55_code
def yX7_checkBatch : MethodName := ⟨RX7, "checkBatch", "(I)V"⟩
abbrev cX7_checkRecall : ByteArray := prog_1_method_56_code
def yX7_checkRecall : MethodName := ⟨RX7, "checkRecall", "(I)V"⟩
abbrev cX7_contains : ByteArray := prog_1_method_57_code
def yX7_contains : MethodName := ⟨RX7, "contains", "(JI)Z"⟩
abbrev cX7_findCurrent : ByteArray := prog_1_method_58_code
def yX7_findCurrent : MethodName := ⟨RX7, "findCurrent", "(II)I"⟩
abbrev cX7_putCurrent : ByteArray := prog_1_method_59_code
def yX7_putCurrent : MethodName := ⟨RX7, "putCurrent", "(III)I"⟩
abbrev cX7_passHour : ByteArray := prog_1_method_60_code
def yX7_passHour : MethodName := ⟨RX7, "passHour", "()I"⟩
abbrev cX7_canBake : ByteArray := prog_1_method_61_code
def yX7_canBake : MethodName := ⟨RX7, "canBake", "(II)Z"⟩
abbrev cX7_bake : ByteArray := prog_1_method_62_code
def yX7_bake : MethodName := ⟨RX7, "bake", "(II)V"⟩
abbrev cX7_barredUnder : ByteArray := prog_1_method_63_code
def yX7_barredUnder : MethodName := ⟨RX7, "barredUnder", "(LQuorumBakery$Agreement;I)I"⟩
abbrev cX7_callBackUnheld : ByteArray := prog_1_method_64_code
def yX7_callBackUnheld : MethodName := ⟨RX7, "callBackUnheld", "(J)V"⟩
abbrev cX7_callBackVersion : ByteArray := prog_1_method_65_code
def yX7_callBackVersion : MethodName := ⟨RX7, "callBackVersion", "(I)V"⟩
abbrev cX7_callBackLot : ByteArray := prog_1_method_66_code
def yX7_callBackLot : MethodName := ⟨RX7, "callBackLot", "(I)I"⟩
abbrev cX7_callBackBatch : ByteArray := prog_1_method_67_code
def yX7_callBackBatch : MethodName := ⟨RX7, "callBackBatch", "(II)I"⟩
abbrev cX7_repeatHistory : ByteArray := prog_1_method_68_code
def yX7_repeatHistory : MethodName := ⟨RX7, "repeatHistory", "()V"⟩
abbrev cX7_repeatCall : ByteArray := prog_1_method_69_code
def yX7_repeatCall : MethodName := ⟨RX7, "repeatCall", "(III)V"⟩
def RX8 : String := "QuorumBakeryModel"
def TX8 : u_T := fun k => match k with
  | _ => ("", "", "", false)
def tyX8 : Nat → FieldType := fun k => match k with
  | _ => .int
abbrev wsX80 : List Cond := u_ws RX8 TX8 0
theorem nmX8 : ∀ a, a < 0 → ∀ b, b < 0 → a ≠ b → (TX8 a).2.1 ≠ (TX8 b).2.1 := by decide +kernel
theorem tyX8_ok : ∀ k, k < 0 → parseFieldDescriptor (TX8 k).2.2.1 = some (tyX8 k) := by decide +kernel
def RJ6 : String := "java/lang/Integer"
def TJ6 : u_T := fun k => match k with
  | _ => ("", "", "", false)
def tyJ6 : Nat → FieldType := fun k => match k with
  | _ => .int
theorem nmJ6 : ∀ a, a < 0 → ∀ b, b < 0 → a ≠ b → (TJ6 a).2.1 ≠ (TJ6 b).2.1 := by decide +kernel
theorem tyJ6_ok : ∀ k, k < 0 → parseFieldDescriptor (TJ6 k).2.2.1 = some (tyJ6 k) := by decide +kernel
abbrev cJ6_bitCount_0f7a4 : ByteArray := prog_15_method_49_code
def yJ6_bitCount_0f7a4 : MethodName := ⟨RJ6, "bitCount", "(I)I"⟩
def RJ9 : String := "java/lang/Math"
def TJ9 : u_T := fun k => match k with
  | _ => ("", "", "", false)
def tyJ9 : Nat → FieldType := fun k => match k with
  | _ => .int
theorem nmJ9 : ∀ a, a < 0 → ∀ b, b < 0 → a ≠ b → (TJ9 a).2.1 ≠ (TJ9 b).2.1 := by decide +kernel
theorem tyJ9_ok : ∀ k, k < 0 → parseFieldDescriptor (TJ9 k).2.2.1 = some (tyJ9 k) := by decide +kernel
abbrev cJ9_min_7cf53 : ByteArray := prog_16_method_69_code
def yJ9_min_7cf53 : MethodName := ⟨RJ9, "min", "(II)I"⟩
def RJ0 : String := "java/lang/String"
def TJ0 : u_T := fun k => match k with
  | _ => ("", "", "", false)
def tyJ0 : Nat → FieldType := fun k => match k with
  | _ => .int
theorem nmJ0 : ∀ a, a < 0 → ∀ b, b < 0 → a ≠ b → (TJ0 a).2.1 ≠ (TJ0 b).2.1 := by decide +kernel
theorem tyJ0_ok : ∀ k, k < 0 → parseFieldDescriptor (TJ0 k).2.2.1 = some (tyJ0 k) := by decide +kernel
def RJ7 : String := "java/util/Arrays"
def TJ7 : u_T := fun k => match k with
  | _ => ("", "", "", false)
def tyJ7 : Nat → FieldType := fun k => match k with
  | _ => .int
theorem nmJ7 : ∀ a, a < 0 → ∀ b, b < 0 → a ≠ b → (TJ7 a).2.1 ≠ (TJ7 b).2.1 := by decide +kernel
theorem tyJ7_ok : ∀ k, k < 0 → parseFieldDescriptor (TJ7 k).2.2.1 = some (tyJ7 k) := by decide +kernel
abbrev cJ7_fill_53178 : ByteArray := prog_20_method_103_code
def yJ7_fill_53178 : MethodName := ⟨RJ7, "fill", "([II)V"⟩
def RL : String := "QuorumBakeryLaw"
abbrev cL_low : ByteArray := method_2_code
def yL_low : MethodName := ⟨RL, "low", "(II)I"⟩
abbrev cL_cell : ByteArray := method_3_code
def yL_cell : MethodName := ⟨RL, "cell", "([II)I"⟩
abbrev cL_vote : ByteArray := method_4_code
def yL_vote : MethodName := ⟨RL, "vote", "(LQuorumBakery;II)Z"⟩
abbrev cL_propose : ByteArray := method_5_code
def yL_propose : MethodName := ⟨RL, "propose", "(LQuorumBakery;IIII)I"⟩
abbrev cL_tell : ByteArray := method_6_code
def yL_tell : MethodName := ⟨RL, "tell", "(LQuorumBakery;II)I"⟩
abbrev cL_deliver : ByteArray := method_7_code
def yL_deliver : MethodName := ⟨RL, "deliver", "(LQuorumBakery;III)I"⟩
abbrev cL_book : ByteArray := method_8_code
def yL_book : MethodName := ⟨RL, "book", "(LQuorumBakery;III)I"⟩
abbrev cL_sell : ByteArray := method_9_code
def yL_sell : MethodName := ⟨RL, "sell", "(LQuorumBakery;II)I"⟩
abbrev cL_condemn : ByteArray := method_10_code
def yL_condemn : MethodName := ⟨RL, "condemn", "(LQuorumBakery;I)I"⟩
abbrev cL_bits : ByteArray := method_11_code
def yL_bits : MethodName := ⟨RL, "bits", "(I)I"⟩
abbrev cL_roles : ByteArray := method_12_code
def yL_roles : MethodName := ⟨RL, "roles", "(LQuorumBakery;)Z"⟩
abbrev cL_logs : ByteArray := method_13_code
def yL_logs : MethodName := ⟨RL, "logs", "(LQuorumBakery;I)Z"⟩
abbrev cL_batches : ByteArray := method_14_code
def yL_batches : MethodName := ⟨RL, "batches", "(LQuorumBakery;)Z"⟩
abbrev cL_law : ByteArray := code
def yL_law : MethodName := ⟨RL, "law", "([I)Z"⟩
abbrev vwCl : List vw_C := [(RX0, TX0, 12), (RX1, TX1, 5), (RX2, TX2, 4), (RX3, TX3, 4), (RX4, TX4, 3), (RX5, TX5, 4), (RX6, TX6, 3), (RX7, TX7, 8)]
end
section
theorem dX0_init_0 : decode cX0_init 0 = .ok (.aload_n 0, 1) := by decide +kernel
theorem dX0_init_1 : decode cX0_init 1 = .ok (.invokespecial 3, 3) := by decide +kernel
theorem dX0_init_4 : decode cX0_init 4 = .ok (.aload_n 0, 1) := by decide +kernel
theorem dX0_init_5 : decode cX0_init 5 = .ok (.iconst 5, 1) := by decide +kernel
theorem dX0_init_6 : decode cX0_init 6 = .ok (.newarray .int, 2) := by decide +kernel
theorem dX0_init_8 : decode cX0_init 8 = .ok (.putfield 9, 3) := by decide +kernel
theorem dX0_init_11 : decode cX0_init 11 = .ok (.aload_n 0, 1) := by decide +kernel
theorem dX0_init_12 : decode cX0_init 12 = .ok (.iconst 5, 1) := by decide +kernel
theorem dX0_init_13 : decode cX0_init 13 = .ok (.newarray .int, 2) := by decide +kernel
theorem dX0_init_15 : decode cX0_init 15 = .ok (.putfield 15, 3) := by decide +kernel
theorem dX0_init_18 : decode cX0_init 18 = .ok (.aload_n 0, 1) := by decide +kernel
theorem dX0_init_19 : decode cX0_init 19 = .ok (.iconst 5, 1) := by decide +kernel
theorem dX0_init_20 : decode cX0_init 20 = .ok (.newarray .int, 2) := by decide +kernel
theorem dX0_init_22 : decode cX0_init 22 = .ok (.putfield 18, 3) := by decide +kernel
theorem dX0_init_25 : decode cX0_init 25 = .ok (.aload_n 0, 1) := by decide +kernel
theorem dX0_init_26 : decode cX0_init 26 = .ok (.iconst 5, 1) := by decide +kernel
theorem dX0_init_27 : decode cX0_init 27 = .ok (.newarray .int, 2) := by decide +kernel
theorem dX0_init_29 : decode cX0_init 29 = .ok (.putfield 21, 3) := by decide +kernel
theorem dX0_init_32 : decode cX0_init 32 = .ok (.aload_n 0, 1) := by decide +kernel
theorem dX0_init_33 : decode cX0_init 33 = .ok (.iconst 5, 1) := by decide +kernel
theorem dX0_init_34 : decode cX0_init 34 = .ok (.bipush 20, 2) := by decide +kernel
theorem dX0_init_36 : decode cX0_init 36 = .ok (.multianewarray 24 2, 4) := by decide +kernel
theorem dX0_init_40 : decode cX0_init 40 = .ok (.putfield 26, 3) := by decide +kernel
theorem dX0_init_43 : decode cX0_init 43 = .ok (.aload_n 0, 1) := by decide +kernel
theorem dX0_init_44 : decode cX0_init 44 = .ok (.iconst 5, 1) := by decide +kernel
theorem dX0_init_45 : decode cX0_init 45 = .ok (.newarray .int, 2) := by decide +kernel
theorem dX0_init_47 : decode cX0_init 47 = .ok (.putfield 29, 3) := by decide +kernel
theorem dX0_init_50 : decode cX0_init 50 = .ok (.aload_n 0, 1) := by decide +kernel
theorem dX0_init_51 : decode cX0_init 51 = .ok (.bipush 60, 2) := by decide +kernel
theorem dX0_init_53 : decode cX0_init 53 = .ok (.newarray .int, 2) := by decide +kernel
theorem dX0_init_55 : decode cX0_init 55 = .ok (.putfield 32, 3) := by decide +kernel
theorem dX0_init_58 : decode cX0_init 58 = .ok (.aload_n 0, 1) := by decide +kernel
theorem dX0_init_59 : decode cX0_init 59 = .ok (.bipush 60, 2) := by decide +kernel
theorem dX0_init_61 : decode cX0_init 61 = .ok (.newarray .int, 2) := by decide +kernel
theorem dX0_init_63 : decode cX0_init 63 = .ok (.putfield 35, 3) := by decide +kernel
theorem dX0_init_66 : decode cX0_init 66 = .ok (.aload_n 0, 1) := by decide +kernel
theorem dX0_init_67 : decode cX0_init 67 = .ok (.invokevirtual 38, 3) := by decide +kernel
theorem dX0_init_70 : decode cX0_init 70 = .ok (.return_, 1) := by decide +kernel
theorem dX0_begin_0 : decode cX0_begin 0 = .ok (.aload_n 0, 1) := by decide +kernel
theorem dX0_begin_1 : decode cX0_begin 1 = .ok (.iconst 0, 1) := by decide +kernel
theorem dX0_begin_2 : decode cX0_begin 2 = .ok (.putfield 41, 3) := by decide +kernel
theorem dX0_begin_5 : decode cX0_begin 5 = .ok (.aload_n 0, 1) := by decide +kernel
theorem dX0_begin_6 : decode cX0_begin 6 = .ok (.getfield 9, 3) := by decide +kernel
theorem dX0_begin_9 : decode cX0_begin 9 = .ok (.iconst 0, 1) := by decide +kernel
theorem dX0_begin_10 : decode cX0_begin 10 = .ok (.invokestatic 45, 3) := by decide +kernel
theorem dX0_begin_13 : decode cX0_begin 13 = .ok (.aload_n 0, 1) := by decide +kernel
theorem dX0_begin_14 : decode cX0_begin 14 = .ok (.getfield 15, 3) := by decide +kernel
theorem dX0_begin_17 : decode cX0_begin 17 = .ok (.iconst 0, 1) := by decide +kernel
theorem dX0_begin_18 : decode cX0_begin 18 = .ok (.invokestatic 45, 3) := by decide +kernel
theorem dX0_begin_21 : decode cX0_begin 21 = .ok (.aload_n 0, 1) := by decide +kernel
theorem dX0_begin_22 : decode cX0_begin 22 = .ok (.getfield 18, 3) := by decide +kernel
theorem dX0_begin_25 : decode cX0_begin 25 = .ok (.iconst (-1), 1) := by decide +kernel
theorem dX0_begin_26 : decode cX0_begin 26 = .ok (.invokestatic 45, 3) := by decide +kernel
theorem dX0_begin_29 : decode cX0_begin 29 = .ok (.aload_n 0, 1) := by decide +kernel
theorem dX0_begin_30 : decode cX0_begin 30 = .ok (.getfield 21, 3) := by decide +kernel
theorem dX0_begin_33 : decode cX0_begin 33 = .ok (.iconst 0, 1) := by decide +kernel
theorem dX0_begin_34 : decode cX0_begin 34 = .ok (.invokestatic 45, 3) := by decide +kernel
theorem dX0_begin_37 : decode cX0_begin 37 = .ok (.aload_n 0, 1) := by decide +kernel
theorem dX0_begin_38 : decode cX0_begin 38 = .ok (.getfield 29, 3) := by decide +kernel
theorem dX0_begin_41 : decode cX0_begin 41 = .ok (.iconst 0, 1) := by decide +kernel
theorem dX0_begin_42 : decode cX0_begin 42 = .ok (.invokestatic 45, 3) := by decide +kernel
theorem dX0_begin_45 : decode cX0_begin 45 = .ok (.aload_n 0, 1) := by decide +kernel
theorem dX0_begin_46 : decode cX0_begin 46 = .ok (.iconst 0, 1) := by decide +kernel
theorem dX0_begin_47 : decode cX0_begin 47 = .ok (.putfield 51, 3) := by decide +kernel
theorem dX0_begin_50 : decode cX0_begin 50 = .ok (.aload_n 0, 1) := by decide +kernel
theorem dX0_begin_51 : decode cX0_begin 51 = .ok (.lconst 0, 1) := by decide +kernel
theorem dX0_begin_52 : decode cX0_begin 52 = .ok (.putfield 54, 3) := by decide +kernel
theorem dX0_begin_55 : decode cX0_begin 55 = .ok (.aload_n 0, 1) := by decide +kernel
theorem dX0_begin_56 : decode cX0_begin 56 = .ok (.lconst 0, 1) := by decide +kernel
theorem dX0_begin_57 : decode cX0_begin 57 = .ok (.putfield 58, 3) := by decide +kernel
theorem dX0_begin_60 : decode cX0_begin 60 = .ok (.return_, 1) := by decide +kernel
theorem dX0_areTogether_0 : decode cX0_areTogether 0 = .ok (.aload_n 0, 1) := by decide +kernel
theorem dX0_areTogether_1 : decode cX0_areTogether 1 = .ok (.getfield 41, 3) := by decide +kernel
theorem dX0_areTogether_4 : decode cX0_areTogether 4 = .ok (.i2l, 1) := by decide +kernel
theorem dX0_areTogether_5 : decode cX0_areTogether 5 = .ok (.iload_n 1, 1) := by decide +kernel
theorem dX0_areTogether_6 : decode cX0_areTogether 6 = .ok (.invokestatic 61, 3) := by decide +kernel
theorem dX0_areTogether_9 : decode cX0_areTogether 9 = .ok (.aload_n 0, 1) := by decide +kernel
theorem dX0_areTogether_10 : decode cX0_areTogether 10 = .ok (.getfield 41, 3) := by decide +kernel
theorem dX0_areTogether_13 : decode cX0_areTogether 13 = .ok (.i2l, 1) := by decide +kernel
theorem dX0_areTogether_14 : decode cX0_areTogether 14 = .ok (.iload_n 2, 1) := by decide +kernel
theorem dX0_areTogether_15 : decode cX0_areTogether 15 = .ok (.invokestatic 61, 3) := by decide +kernel
theorem dX0_areTogether_18 : decode cX0_areTogether 18 = .ok (.if_icmp .ne 7, 3) := by decide +kernel
theorem dX0_areTogether_21 : decode cX0_areTogether 21 = .ok (.iconst 1, 1) := by decide +kernel
theorem dX0_areTogether_22 : decode cX0_areTogether 22 = .ok (.goto 4, 3) := by decide +kernel
theorem dX0_areTogether_25 : decode cX0_areTogether 25 = .ok (.iconst 0, 1) := by decide +kernel
theorem dX0_areTogether_26 : decode cX0_areTogether 26 = .ok (.ireturn, 1) := by decide +kernel
theorem dX0_becomeCandidate_0 : decode cX0_becomeCandidate 0 = .ok (.aload_n 0, 1) := by decide +kernel
theorem dX0_becomeCandidate_1 : decode cX0_becomeCandidate 1 = .ok (.getfield 9, 3) := by decide +kernel
theorem dX0_becomeCandidate_4 : decode cX0_becomeCandidate 4 = .ok (.iload_n 1, 1) := by decide +kernel
theorem dX0_becomeCandidate_5 : decode cX0_becomeCandidate 5 = .ok (.dup2, 1) := by decide +kernel
theorem dX0_becomeCandidate_6 : decode cX0_becomeCandidate 6 = .ok (.iaload, 1) := by decide +kernel
theorem dX0_becomeCandidate_7 : decode cX0_becomeCandidate 7 = .ok (.iconst 1, 1) := by decide +kernel
theorem dX0_becomeCandidate_8 : decode cX0_becomeCandidate 8 = .ok (.iadd, 1) := by decide +kernel
theorem dX0_becomeCandidate_9 : decode cX0_becomeCandidate 9 = .ok (.iastore, 1) := by decide +kernel
theorem dX0_becomeCandidate_10 : decode cX0_becomeCandidate 10 = .ok (.aload_n 0, 1) := by decide +kernel
theorem dX0_becomeCandidate_11 : decode cX0_becomeCandidate 11 = .ok (.getfield 15, 3) := by decide +kernel
theorem dX0_becomeCandidate_14 : decode cX0_becomeCandidate 14 = .ok (.iload_n 1, 1) := by decide +kernel
theorem dX0_becomeCandidate_15 : decode cX0_becomeCandidate 15 = .ok (.iconst 1, 1) := by decide +kernel
theorem dX0_becomeCandidate_16 : decode cX0_becomeCandidate 16 = .ok (.iastore, 1) := by decide +kernel
theorem dX0_becomeCandidate_17 : decode cX0_becomeCandidate 17 = .ok (.aload_n 0, 1) := by decide +kernel
theorem dX0_becomeCandidate_18 : decode cX0_becomeCandidate 18 = .ok (.getfield 18, 3) := by decide +kernel
theorem dX0_becomeCandidate_21 : decode cX0_becomeCandidate 21 = .ok (.iload_n 1, 1) := by decide +kernel
theorem dX0_becomeCandidate_22 : decode cX0_becomeCandidate 22 = .ok (.iload_n 1, 1) := by decide +kernel
theorem dX0_becomeCandidate_23 : decode cX0_becomeCandidate 23 = .ok (.iastore, 1) := by decide +kernel
theorem dX0_becomeCandidate_24 : decode cX0_becomeCandidate 24 = .ok (.aload_n 0, 1) := by decide +kernel
theorem dX0_becomeCandidate_25 : decode cX0_becomeCandidate 25 = .ok (.getfield 21, 3) := by decide +kernel
theorem dX0_becomeCandidate_28 : decode cX0_becomeCandidate 28 = .ok (.iload_n 1, 1) := by decide +kernel
theorem dX0_becomeCandidate_29 : decode cX0_becomeCandidate 29 = .ok (.iconst 1, 1) := by decide +kernel
theorem dX0_becomeCandidate_30 : decode cX0_becomeCandidate 30 = .ok (.iload_n 1, 1) := by decide +kernel
theorem dX0_becomeCandidate_31 : decode cX0_becomeCandidate 31 = .ok (.ishl, 1) := by decide +kernel
theorem dX0_becomeCandidate_32 : decode cX0_becomeCandidate 32 = .ok (.iastore, 1) := by decide +kernel
theorem dX0_becomeCandidate_33 : decode cX0_becomeCandidate 33 = .ok (.return_, 1) := by decide +kernel
theorem dX0_takeTerm_0 : decode cX0_takeTerm 0 = .ok (.aload_n 0, 1) := by decide +kernel
theorem dX0_takeTerm_1 : decode cX0_takeTerm 1 = .ok (.getfield 9, 3) := by decide +kernel
theorem dX0_takeTerm_4 : decode cX0_takeTerm 4 = .ok (.iload_n 1, 1) := by decide +kernel
theorem dX0_takeTerm_5 : decode cX0_takeTerm 5 = .ok (.iload_n 2, 1) := by decide +kernel
theorem dX0_takeTerm_6 : decode cX0_takeTerm 6 = .ok (.iastore, 1) := by decide +kernel
theorem dX0_takeTerm_7 : decode cX0_takeTerm 7 = .ok (.aload_n 0, 1) := by decide +kernel
theorem dX0_takeTerm_8 : decode cX0_takeTerm 8 = .ok (.getfield 15, 3) := by decide +kernel
theorem dX0_takeTerm_11 : decode cX0_takeTerm 11 = .ok (.iload_n 1, 1) := by decide +kernel
theorem dX0_takeTerm_12 : decode cX0_takeTerm 12 = .ok (.iconst 0, 1) := by decide +kernel
theorem dX0_takeTerm_13 : decode cX0_takeTerm 13 = .ok (.iastore, 1) := by decide +kernel
theorem dX0_takeTerm_14 : decode cX0_takeTerm 14 = .ok (.aload_n 0, 1) := by decide +kernel
theorem dX0_takeTerm_15 : decode cX0_takeTerm 15 = .ok (.getfield 18, 3) := by decide +kernel
theorem dX0_takeTerm_18 : decode cX0_takeTerm 18 = .ok (.iload_n 1, 1) := by decide +kernel
theorem dX0_takeTerm_19 : decode cX0_takeTerm 19 = .ok (.iconst (-1), 1) := by decide +kernel
theorem dX0_takeTerm_20 : decode cX0_takeTerm 20 = .ok (.iastore, 1) := by decide +kernel
theorem dX0_takeTerm_21 : decode cX0_takeTerm 21 = .ok (.return_, 1) := by decide +kernel
theorem dX0_askForVote_0 : decode cX0_askForVote 0 = .ok (.aload_n 0, 1) := by decide +kernel
theorem dX0_askForVote_1 : decode cX0_askForVote 1 = .ok (.getfield 9, 3) := by decide +kernel
theorem dX0_askForVote_4 : decode cX0_askForVote 4 = .ok (.iload_n 1, 1) := by decide +kernel
theorem dX0_askForVote_5 : decode cX0_askForVote 5 = .ok (.iaload, 1) := by decide +kernel
theorem dX0_askForVote_6 : decode cX0_askForVote 6 = .ok (.aload_n 0, 1) := by decide +kernel
theorem dX0_askForVote_7 : decode cX0_askForVote 7 = .ok (.getfield 9, 3) := by decide +kernel
theorem dX0_askForVote_10 : decode cX0_askForVote 10 = .ok (.iload_n 2, 1) := by decide +kernel
theorem dX0_askForVote_11 : decode cX0_askForVote 11 = .ok (.iaload, 1) := by decide +kernel
theorem dX0_askForVote_12 : decode cX0_askForVote 12 = .ok (.if_icmp .le 16, 3) := by decide +kernel
theorem dX0_askForVote_15 : decode cX0_askForVote 15 = .ok (.aload_n 0, 1) := by decide +kernel
theorem dX0_askForVote_16 : decode cX0_askForVote 16 = .ok (.iload_n 2, 1) := by decide +kernel
theorem dX0_askForVote_17 : decode cX0_askForVote 17 = .ok (.aload_n 0, 1) := by decide +kernel
theorem dX0_askForVote_18 : decode cX0_askForVote 18 = .ok (.getfield 9, 3) := by decide +kernel
theorem dX0_askForVote_21 : decode cX0_askForVote 21 = .ok (.iload_n 1, 1) := by decide +kernel
theorem dX0_askForVote_22 : decode cX0_askForVote 22 = .ok (.iaload, 1) := by decide +kernel
theorem dX0_askForVote_23 : decode cX0_askForVote 23 = .ok (.invokevirtual 65, 3) := by decide +kernel
theorem dX0_askForVote_26 : decode cX0_askForVote 26 = .ok (.iconst 0, 1) := by decide +kernel
theorem dX0_askForVote_27 : decode cX0_askForVote 27 = .ok (.ireturn, 1) := by decide +kernel
theorem dX0_askForVote_28 : decode cX0_askForVote 28 = .ok (.aload_n 0, 1) := by decide +kernel
theorem dX0_askForVote_29 : decode cX0_askForVote 29 = .ok (.getfield 9, 3) := by decide +kernel
theorem dX0_askForVote_32 : decode cX0_askForVote 32 = .ok (.iload_n 1, 1) := by decide +kernel
theorem dX0_askForVote_33 : decode cX0_askForVote 33 = .ok (.iaload, 1) := by decide +kernel
theorem dX0_askForVote_34 : decode cX0_askForVote 34 = .ok (.aload_n 0, 1) := by decide +kernel
theorem dX0_askForVote_35 : decode cX0_askForVote 35 = .ok (.getfield 9, 3) := by decide +kernel
theorem dX0_askForVote_38 : decode cX0_askForVote 38 = .ok (.iload_n 2, 1) := by decide +kernel
theorem dX0_askForVote_39 : decode cX0_askForVote 39 = .ok (.iaload, 1) := by decide +kernel
theorem dX0_askForVote_40 : decode cX0_askForVote 40 = .ok (.if_icmp .ge 14, 3) := by decide +kernel
theorem dX0_askForVote_43 : decode cX0_askForVote 43 = .ok (.aload_n 0, 1) := by decide +kernel
theorem dX0_askForVote_44 : decode cX0_askForVote 44 = .ok (.iload_n 1, 1) := by decide +kernel
theorem dX0_askForVote_45 : decode cX0_askForVote 45 = .ok (.aload_n 0, 1) := by decide +kernel
theorem dX0_askForVote_46 : decode cX0_askForVote 46 = .ok (.getfield 9, 3) := by decide +kernel
theorem dX0_askForVote_49 : decode cX0_askForVote 49 = .ok (.iload_n 2, 1) := by decide +kernel
theorem dX0_askForVote_50 : decode cX0_askForVote 50 = .ok (.iaload, 1) := by decide +kernel
theorem dX0_askForVote_51 : decode cX0_askForVote 51 = .ok (.invokevirtual 65, 3) := by decide +kernel
theorem dX0_askForVote_54 : decode cX0_askForVote 54 = .ok (.aload_n 0, 1) := by decide +kernel
theorem dX0_askForVote_55 : decode cX0_askForVote 55 = .ok (.getfield 18, 3) := by decide +kernel
theorem dX0_askForVote_58 : decode cX0_askForVote 58 = .ok (.iload_n 1, 1) := by decide +kernel
theorem dX0_askForVote_59 : decode cX0_askForVote 59 = .ok (.iaload, 1) := by decide +kernel
theorem dX0_askForVote_60 : decode cX0_askForVote 60 = .ok (.iload_n 2, 1) := by decide +kernel
theorem dX0_askForVote_61 : decode cX0_askForVote 61 = .ok (.if_icmp .ne 5, 3) := by decide +kernel
theorem dX0_askForVote_64 : decode cX0_askForVote 64 = .ok (.iconst 1, 1) := by decide +kernel
theorem dX0_askForVote_65 : decode cX0_askForVote 65 = .ok (.ireturn, 1) := by decide +kernel
theorem dX0_askForVote_66 : decode cX0_askForVote 66 = .ok (.aload_n 0, 1) := by decide +kernel
theorem dX0_askForVote_67 : decode cX0_askForVote 67 = .ok (.getfield 18, 3) := by decide +kernel
theorem dX0_askForVote_70 : decode cX0_askForVote 70 = .ok (.iload_n 1, 1) := by decide +kernel
theorem dX0_askForVote_71 : decode cX0_askForVote 71 = .ok (.iaload, 1) := by decide +kernel
theorem dX0_askForVote_72 : decode cX0_askForVote 72 = .ok (.iconst (-1), 1) := by decide +kernel
theorem dX0_askForVote_73 : decode cX0_askForVote 73 = .ok (.if_icmp .ne 12, 3) := by decide +kernel
theorem dX0_askForVote_76 : decode cX0_askForVote 76 = .ok (.aload_n 0, 1) := by decide +kernel
theorem dX0_askForVote_77 : decode cX0_askForVote 77 = .ok (.iload_n 1, 1) := by decide +kernel
theorem dX0_askForVote_78 : decode cX0_askForVote 78 = .ok (.iload_n 2, 1) := by decide +kernel
theorem dX0_askForVote_79 : decode cX0_askForVote 79 = .ok (.invokevirtual 69, 3) := by decide +kernel
theorem dX0_askForVote_82 : decode cX0_askForVote 82 = .ok (.ifCond .eq 5, 3) := by decide +kernel
theorem dX0_askForVote_85 : decode cX0_askForVote 85 = .ok (.iconst 0, 1) := by decide +kernel
theorem dX0_askForVote_86 : decode cX0_askForVote 86 = .ok (.ireturn, 1) := by decide +kernel
theorem dX0_askForVote_87 : decode cX0_askForVote 87 = .ok (.aload_n 0, 1) := by decide +kernel
theorem dX0_askForVote_88 : decode cX0_askForVote 88 = .ok (.iload_n 1, 1) := by decide +kernel
theorem dX0_askForVote_89 : decode cX0_askForVote 89 = .ok (.iload_n 2, 1) := by decide +kernel
theorem dX0_askForVote_90 : decode cX0_askForVote 90 = .ok (.invokevirtual 73, 3) := by decide +kernel
theorem dX0_askForVote_93 : decode cX0_askForVote 93 = .ok (.iconst 1, 1) := by decide +kernel
theorem dX0_askForVote_94 : decode cX0_askForVote 94 = .ok (.ireturn, 1) := by decide +kernel
theorem dX0_giveVote_0 : decode cX0_giveVote 0 = .ok (.aload_n 0, 1) := by decide +kernel
theorem dX0_giveVote_1 : decode cX0_giveVote 1 = .ok (.getfield 18, 3) := by decide +kernel
theorem dX0_giveVote_4 : decode cX0_giveVote 4 = .ok (.iload_n 1, 1) := by decide +kernel
theorem dX0_giveVote_5 : decode cX0_giveVote 5 = .ok (.iload_n 2, 1) := by decide +kernel
theorem dX0_giveVote_6 : decode cX0_giveVote 6 = .ok (.iastore, 1) := by decide +kernel
theorem dX0_giveVote_7 : decode cX0_giveVote 7 = .ok (.aload_n 0, 1) := by decide +kernel
theorem dX0_giveVote_8 : decode cX0_giveVote 8 = .ok (.getfield 21, 3) := by decide +kernel
theorem dX0_giveVote_11 : decode cX0_giveVote 11 = .ok (.iload_n 2, 1) := by decide +kernel
theorem dX0_giveVote_12 : decode cX0_giveVote 12 = .ok (.dup2, 1) := by decide +kernel
theorem dX0_giveVote_13 : decode cX0_giveVote 13 = .ok (.iaload, 1) := by decide +kernel
theorem dX0_giveVote_14 : decode cX0_giveVote 14 = .ok (.iconst 1, 1) := by decide +kernel
theorem dX0_giveVote_15 : decode cX0_giveVote 15 = .ok (.iload_n 1, 1) := by decide +kernel
theorem dX0_giveVote_16 : decode cX0_giveVote 16 = .ok (.ishl, 1) := by decide +kernel
theorem dX0_giveVote_17 : decode cX0_giveVote 17 = .ok (.ior, 1) := by decide +kernel
theorem dX0_giveVote_18 : decode cX0_giveVote 18 = .ok (.iastore, 1) := by decide +kernel
theorem dX0_giveVote_19 : decode cX0_giveVote 19 = .ok (.aload_n 0, 1) := by decide +kernel
theorem dX0_giveVote_20 : decode cX0_giveVote 20 = .ok (.getfield 21, 3) := by decide +kernel
theorem dX0_giveVote_23 : decode cX0_giveVote 23 = .ok (.iload_n 2, 1) := by decide +kernel
theorem dX0_giveVote_24 : decode cX0_giveVote 24 = .ok (.iaload, 1) := by decide +kernel
theorem dX0_giveVote_25 : decode cX0_giveVote 25 = .ok (.invokestatic 76, 3) := by decide +kernel
theorem dX0_giveVote_28 : decode cX0_giveVote 28 = .ok (.iconst 3, 1) := by decide +kernel
theorem dX0_giveVote_29 : decode cX0_giveVote 29 = .ok (.if_icmp .lt 10, 3) := by decide +kernel
theorem dX0_giveVote_32 : decode cX0_giveVote 32 = .ok (.aload_n 0, 1) := by decide +kernel
theorem dX0_giveVote_33 : decode cX0_giveVote 33 = .ok (.getfield 15, 3) := by decide +kernel
theorem dX0_giveVote_36 : decode cX0_giveVote 36 = .ok (.iload_n 2, 1) := by decide +kernel
theorem dX0_giveVote_37 : decode cX0_giveVote 37 = .ok (.iconst 2, 1) := by decide +kernel
theorem dX0_giveVote_38 : decode cX0_giveVote 38 = .ok (.iastore, 1) := by decide +kernel
theorem dX0_giveVote_39 : decode cX0_giveVote 39 = .ok (.return_, 1) := by decide +kernel
theorem dX0_hasBetterLog_0 : decode cX0_hasBetterLog 0 = .ok (.aload_n 0, 1) := by decide +kernel
theorem dX0_hasBetterLog_1 : decode cX0_hasBetterLog 1 = .ok (.iload_n 1, 1) := by decide +kernel
theorem dX0_hasBetterLog_2 : decode cX0_hasBetterLog 2 = .ok (.invokevirtual 82, 3) := by decide +kernel
theorem dX0_hasBetterLog_5 : decode cX0_hasBetterLog 5 = .ok (.istore_n 3, 1) := by decide +kernel
theorem dX0_hasBetterLog_6 : decode cX0_hasBetterLog 6 = .ok (.aload_n 0, 1) := by decide +kernel
theorem dX0_hasBetterLog_7 : decode cX0_hasBetterLog 7 = .ok (.iload_n 2, 1) := by decide +kernel
theorem dX0_hasBetterLog_8 : decode cX0_hasBetterLog 8 = .ok (.invokevirtual 82, 3) := by decide +kernel
theorem dX0_hasBetterLog_11 : decode cX0_hasBetterLog 11 = .ok (.istore 4, 2) := by decide +kernel
theorem dX0_hasBetterLog_13 : decode cX0_hasBetterLog 13 = .ok (.iload_n 3, 1) := by decide +kernel
theorem dX0_hasBetterLog_14 : decode cX0_hasBetterLog 14 = .ok (.iload 4, 2) := by decide +kernel
theorem dX0_hasBetterLog_16 : decode cX0_hasBetterLog 16 = .ok (.if_icmp .gt 24, 3) := by decide +kernel
theorem dX0_hasBetterLog_19 : decode cX0_hasBetterLog 19 = .ok (.iload_n 3, 1) := by decide +kernel
theorem dX0_hasBetterLog_20 : decode cX0_hasBetterLog 20 = .ok (.iload 4, 2) := by decide +kernel
theorem dX0_hasBetterLog_22 : decode cX0_hasBetterLog 22 = .ok (.if_icmp .ne 22, 3) := by decide +kernel
theorem dX0_hasBetterLog_25 : decode cX0_hasBetterLog 25 = .ok (.aload_n 0, 1) := by decide +kernel
theorem dX0_hasBetterLog_26 : decode cX0_hasBetterLog 26 = .ok (.getfield 29, 3) := by decide +kernel
theorem dX0_hasBetterLog_29 : decode cX0_hasBetterLog 29 = .ok (.iload_n 1, 1) := by decide +kernel
theorem dX0_hasBetterLog_30 : decode cX0_hasBetterLog 30 = .ok (.iaload, 1) := by decide +kernel
theorem dX0_hasBetterLog_31 : decode cX0_hasBetterLog 31 = .ok (.aload_n 0, 1) := by decide +kernel
theorem dX0_hasBetterLog_32 : decode cX0_hasBetterLog 32 = .ok (.getfield 29, 3) := by decide +kernel
theorem dX0_hasBetterLog_35 : decode cX0_hasBetterLog 35 = .ok (.iload_n 2, 1) := by decide +kernel
theorem dX0_hasBetterLog_36 : decode cX0_hasBetterLog 36 = .ok (.iaload, 1) := by decide +kernel
theorem dX0_hasBetterLog_37 : decode cX0_hasBetterLog 37 = .ok (.if_icmp .le 7, 3) := by decide +kernel
theorem dX0_hasBetterLog_40 : decode cX0_hasBetterLog 40 = .ok (.iconst 1, 1) := by decide +kernel
theorem dX0_hasBetterLog_41 : decode cX0_hasBetterLog 41 = .ok (.goto 4, 3) := by decide +kernel
theorem dX0_hasBetterLog_44 : decode cX0_hasBetterLog 44 = .ok (.iconst 0, 1) := by decide +kernel
theorem dX0_hasBetterLog_45 : decode cX0_hasBetterLog 45 = .ok (.ireturn, 1) := by decide +kernel
theorem dX0_lastTerm_0 : decode cX0_lastTerm 0 = .ok (.aload_n 0, 1) := by decide +kernel
theorem dX0_lastTerm_1 : decode cX0_lastTerm 1 = .ok (.getfield 29, 3) := by decide +kernel
theorem dX0_lastTerm_4 : decode cX0_lastTerm 4 = .ok (.iload_n 1, 1) := by decide +kernel
theorem dX0_lastTerm_5 : decode cX0_lastTerm 5 = .ok (.iaload, 1) := by decide +kernel
theorem dX0_lastTerm_6 : decode cX0_lastTerm 6 = .ok (.ifCond .ne 7, 3) := by decide +kernel
theorem dX0_lastTerm_9 : decode cX0_lastTerm 9 = .ok (.iconst 0, 1) := by decide +kernel
theorem dX0_lastTerm_10 : decode cX0_lastTerm 10 = .ok (.goto 23, 3) := by decide +kernel
theorem dX0_lastTerm_13 : decode cX0_lastTerm 13 = .ok (.aload_n 0, 1) := by decide +kernel
theorem dX0_lastTerm_14 : decode cX0_lastTerm 14 = .ok (.getfield 32, 3) := by decide +kernel
theorem dX0_lastTerm_17 : decode cX0_lastTerm 17 = .ok (.aload_n 0, 1) := by decide +kernel
theorem dX0_lastTerm_18 : decode cX0_lastTerm 18 = .ok (.getfield 26, 3) := by decide +kernel
theorem dX0_lastTerm_21 : decode cX0_lastTerm 21 = .ok (.iload_n 1, 1) := by decide +kernel
theorem dX0_lastTerm_22 : decode cX0_lastTerm 22 = .ok (.aaload, 1) := by decide +kernel
theorem dX0_lastTerm_23 : decode cX0_lastTerm 23 = .ok (.aload_n 0, 1) := by decide +kernel
theorem dX0_lastTerm_24 : decode cX0_lastTerm 24 = .ok (.getfield 29, 3) := by decide +kernel
theorem dX0_lastTerm_27 : decode cX0_lastTerm 27 = .ok (.iload_n 1, 1) := by decide +kernel
theorem dX0_lastTerm_28 : decode cX0_lastTerm 28 = .ok (.iaload, 1) := by decide +kernel
theorem dX0_lastTerm_29 : decode cX0_lastTerm 29 = .ok (.iconst 1, 1) := by decide +kernel
theorem dX0_lastTerm_30 : decode cX0_lastTerm 30 = .ok (.isub, 1) := by decide +kernel
theorem dX0_lastTerm_31 : decode cX0_lastTerm 31 = .ok (.iaload, 1) := by decide +kernel
theorem dX0_lastTerm_32 : decode cX0_lastTerm 32 = .ok (.iaload, 1) := by decide +kernel
theorem dX0_lastTerm_33 : decode cX0_lastTerm 33 = .ok (.ireturn, 1) := by decide +kernel
theorem dX0_addVersion_0 : decode cX0_addVersion 0 = .ok (.aload_n 0, 1) := by decide +kernel
theorem dX0_addVersion_1 : decode cX0_addVersion 1 = .ok (.getfield 51, 3) := by decide +kernel
theorem dX0_addVersion_4 : decode cX0_addVersion 4 = .ok (.istore_n 2, 1) := by decide +kernel
theorem dX0_addVersion_5 : decode cX0_addVersion 5 = .ok (.aload_n 0, 1) := by decide +kernel
theorem dX0_addVersion_6 : decode cX0_addVersion 6 = .ok (.dup, 1) := by decide +kernel
theorem dX0_addVersion_7 : decode cX0_addVersion 7 = .ok (.getfield 51, 3) := by decide +kernel
theorem dX0_addVersion_10 : decode cX0_addVersion 10 = .ok (.iconst 1, 1) := by decide +kernel
theorem dX0_addVersion_11 : decode cX0_addVersion 11 = .ok (.iadd, 1) := by decide +kernel
theorem dX0_addVersion_12 : decode cX0_addVersion 12 = .ok (.putfield 51, 3) := by decide +kernel
theorem dX0_addVersion_15 : decode cX0_addVersion 15 = .ok (.aload_n 0, 1) := by decide +kernel
theorem dX0_addVersion_16 : decode cX0_addVersion 16 = .ok (.getfield 32, 3) := by decide +kernel
theorem dX0_addVersion_19 : decode cX0_addVersion 19 = .ok (.iload_n 2, 1) := by decide +kernel
theorem dX0_addVersion_20 : decode cX0_addVersion 20 = .ok (.aload_n 0, 1) := by decide +kernel
theorem dX0_addVersion_21 : decode cX0_addVersion 21 = .ok (.getfield 9, 3) := by decide +kernel
theorem dX0_addVersion_24 : decode cX0_addVersion 24 = .ok (.iload_n 1, 1) := by decide +kernel
theorem dX0_addVersion_25 : decode cX0_addVersion 25 = .ok (.iaload, 1) := by decide +kernel
theorem dX0_addVersion_26 : decode cX0_addVersion 26 = .ok (.iastore, 1) := by decide +kernel
theorem dX0_addVersion_27 : decode cX0_addVersion 27 = .ok (.aload_n 0, 1) := by decide +kernel
theorem dX0_addVersion_28 : decode cX0_addVersion 28 = .ok (.getfield 35, 3) := by decide +kernel
theorem dX0_addVersion_31 : decode cX0_addVersion 31 = .ok (.iload_n 2, 1) := by decide +kernel
theorem dX0_addVersion_32 : decode cX0_addVersion 32 = .ok (.iconst 0, 1) := by decide +kernel
theorem dX0_addVersion_33 : decode cX0_addVersion 33 = .ok (.iastore, 1) := by decide +kernel
theorem dX0_addVersion_34 : decode cX0_addVersion 34 = .ok (.aload_n 0, 1) := by decide +kernel
theorem dX0_addVersion_35 : decode cX0_addVersion 35 = .ok (.iload_n 1, 1) := by decide +kernel
theorem dX0_addVersion_36 : decode cX0_addVersion 36 = .ok (.iload_n 2, 1) := by decide +kernel
theorem dX0_addVersion_37 : decode cX0_addVersion 37 = .ok (.invokevirtual 85, 3) := by decide +kernel
theorem dX0_addVersion_40 : decode cX0_addVersion 40 = .ok (.iload_n 2, 1) := by decide +kernel
theorem dX0_addVersion_41 : decode cX0_addVersion 41 = .ok (.ireturn, 1) := by decide +kernel
theorem dX0_sendLog_0 : decode cX0_sendLog 0 = .ok (.aload_n 0, 1) := by decide +kernel
theorem dX0_sendLog_1 : decode cX0_sendLog 1 = .ok (.getfield 9, 3) := by decide +kernel
theorem dX0_sendLog_4 : decode cX0_sendLog 4 = .ok (.iload_n 2, 1) := by decide +kernel
theorem dX0_sendLog_5 : decode cX0_sendLog 5 = .ok (.iaload, 1) := by decide +kernel
theorem dX0_sendLog_6 : decode cX0_sendLog 6 = .ok (.aload_n 0, 1) := by decide +kernel
theorem dX0_sendLog_7 : decode cX0_sendLog 7 = .ok (.getfield 9, 3) := by decide +kernel
theorem dX0_sendLog_10 : decode cX0_sendLog 10 = .ok (.iload_n 1, 1) := by decide +kernel
theorem dX0_sendLog_11 : decode cX0_sendLog 11 = .ok (.iaload, 1) := by decide +kernel
theorem dX0_sendLog_12 : decode cX0_sendLog 12 = .ok (.if_icmp .le 16, 3) := by decide +kernel
theorem dX0_sendLog_15 : decode cX0_sendLog 15 = .ok (.aload_n 0, 1) := by decide +kernel
theorem dX0_sendLog_16 : decode cX0_sendLog 16 = .ok (.iload_n 1, 1) := by decide +kernel
theorem dX0_sendLog_17 : decode cX0_sendLog 17 = .ok (.aload_n 0, 1) := by decide +kernel
theorem dX0_sendLog_18 : decode cX0_sendLog 18 = .ok (.getfield 9, 3) := by decide +kernel
theorem dX0_sendLog_21 : decode cX0_sendLog 21 = .ok (.iload_n 2, 1) := by decide +kernel
theorem dX0_sendLog_22 : decode cX0_sendLog 22 = .ok (.iaload, 1) := by decide +kernel
theorem dX0_sendLog_23 : decode cX0_sendLog 23 = .ok (.invokevirtual 65, 3) := by decide +kernel
theorem dX0_sendLog_26 : decode cX0_sendLog 26 = .ok (.iconst (-1), 1) := by decide +kernel
theorem dX0_sendLog_27 : decode cX0_sendLog 27 = .ok (.ireturn, 1) := by decide +kernel
theorem dX0_sendLog_28 : decode cX0_sendLog 28 = .ok (.aload_n 0, 1) := by decide +kernel
theorem dX0_sendLog_29 : decode cX0_sendLog 29 = .ok (.getfield 9, 3) := by decide +kernel
theorem dX0_sendLog_32 : decode cX0_sendLog 32 = .ok (.iload_n 2, 1) := by decide +kernel
theorem dX0_sendLog_33 : decode cX0_sendLog 33 = .ok (.iaload, 1) := by decide +kernel
theorem dX0_sendLog_34 : decode cX0_sendLog 34 = .ok (.aload_n 0, 1) := by decide +kernel
theorem dX0_sendLog_35 : decode cX0_sendLog 35 = .ok (.getfield 9, 3) := by decide +kernel
theorem dX0_sendLog_38 : decode cX0_sendLog 38 = .ok (.iload_n 1, 1) := by decide +kernel
theorem dX0_sendLog_39 : decode cX0_sendLog 39 = .ok (.iaload, 1) := by decide +kernel
theorem dX0_sendLog_40 : decode cX0_sendLog 40 = .ok (.if_icmp .ge 17, 3) := by decide +kernel
theorem dX0_sendLog_43 : decode cX0_sendLog 43 = .ok (.aload_n 0, 1) := by decide +kernel
theorem dX0_sendLog_44 : decode cX0_sendLog 44 = .ok (.iload_n 2, 1) := by decide +kernel
theorem dX0_sendLog_45 : decode cX0_sendLog 45 = .ok (.aload_n 0, 1) := by decide +kernel
theorem dX0_sendLog_46 : decode cX0_sendLog 46 = .ok (.getfield 9, 3) := by decide +kernel
theorem dX0_sendLog_49 : decode cX0_sendLog 49 = .ok (.iload_n 1, 1) := by decide +kernel
theorem dX0_sendLog_50 : decode cX0_sendLog 50 = .ok (.iaload, 1) := by decide +kernel
theorem dX0_sendLog_51 : decode cX0_sendLog 51 = .ok (.invokevirtual 65, 3) := by decide +kernel
theorem dX0_sendLog_54 : decode cX0_sendLog 54 = .ok (.goto 20, 3) := by decide +kernel
theorem dX0_sendLog_57 : decode cX0_sendLog 57 = .ok (.aload_n 0, 1) := by decide +kernel
theorem dX0_sendLog_58 : decode cX0_sendLog 58 = .ok (.getfield 15, 3) := by decide +kernel
theorem dX0_sendLog_61 : decode cX0_sendLog 61 = .ok (.iload_n 2, 1) := by decide +kernel
theorem dX0_sendLog_62 : decode cX0_sendLog 62 = .ok (.iaload, 1) := by decide +kernel
theorem dX0_sendLog_63 : decode cX0_sendLog 63 = .ok (.iconst 1, 1) := by decide +kernel
theorem dX0_sendLog_64 : decode cX0_sendLog 64 = .ok (.if_icmp .ne 10, 3) := by decide +kernel
theorem dX0_sendLog_67 : decode cX0_sendLog 67 = .ok (.aload_n 0, 1) := by decide +kernel
theorem dX0_sendLog_68 : decode cX0_sendLog 68 = .ok (.getfield 15, 3) := by decide +kernel
theorem dX0_sendLog_71 : decode cX0_sendLog 71 = .ok (.iload_n 2, 1) := by decide +kernel
theorem dX0_sendLog_72 : decode cX0_sendLog 72 = .ok (.iconst 0, 1) := by decide +kernel
theorem dX0_sendLog_73 : decode cX0_sendLog 73 = .ok (.iastore, 1) := by decide +kernel
theorem dX0_sendLog_74 : decode cX0_sendLog 74 = .ok (.aload_n 0, 1) := by decide +kernel
theorem dX0_sendLog_75 : decode cX0_sendLog 75 = .ok (.iload_n 2, 1) := by decide +kernel
theorem dX0_sendLog_76 : decode cX0_sendLog 76 = .ok (.aload_n 0, 1) := by decide +kernel
theorem dX0_sendLog_77 : decode cX0_sendLog 77 = .ok (.iload_n 1, 1) := by decide +kernel
theorem dX0_sendLog_78 : decode cX0_sendLog 78 = .ok (.iload_n 2, 1) := by decide +kernel
theorem dX0_sendLog_79 : decode cX0_sendLog 79 = .ok (.invokevirtual 88, 3) := by decide +kernel
theorem dX0_sendLog_82 : decode cX0_sendLog 82 = .ok (.invokevirtual 92, 3) := by decide +kernel
theorem dX0_sendLog_85 : decode cX0_sendLog 85 = .ok (.aload_n 0, 1) := by decide +kernel
theorem dX0_sendLog_86 : decode cX0_sendLog 86 = .ok (.iload_n 1, 1) := by decide +kernel
theorem dX0_sendLog_87 : decode cX0_sendLog 87 = .ok (.iload_n 2, 1) := by decide +kernel
theorem dX0_sendLog_88 : decode cX0_sendLog 88 = .ok (.invokevirtual 95, 3) := by decide +kernel
theorem dX0_sendLog_91 : decode cX0_sendLog 91 = .ok (.ireturn, 1) := by decide +kernel
theorem dX0_commonLength_0 : decode cX0_commonLength 0 = .ok (.aload_n 0, 1) := by decide +kernel
theorem dX0_commonLength_1 : decode cX0_commonLength 1 = .ok (.getfield 29, 3) := by decide +kernel
theorem dX0_commonLength_4 : decode cX0_commonLength 4 = .ok (.iload_n 1, 1) := by decide +kernel
theorem dX0_commonLength_5 : decode cX0_commonLength 5 = .ok (.iaload, 1) := by decide +kernel
theorem dX0_commonLength_6 : decode cX0_commonLength 6 = .ok (.aload_n 0, 1) := by decide +kernel
theorem dX0_commonLength_7 : decode cX0_commonLength 7 = .ok (.getfield 29, 3) := by decide +kernel
theorem dX0_commonLength_10 : decode cX0_commonLength 10 = .ok (.iload_n 2, 1) := by decide +kernel
theorem dX0_commonLength_11 : decode cX0_commonLength 11 = .ok (.iaload, 1) := by decide +kernel
theorem dX0_commonLength_12 : decode cX0_commonLength 12 = .ok (.invokestatic 98, 3) := by decide +kernel
theorem dX0_commonLength_15 : decode cX0_commonLength 15 = .ok (.istore_n 3, 1) := by decide +kernel
theorem dX0_commonLength_16 : decode cX0_commonLength 16 = .ok (.iconst 0, 1) := by decide +kernel
theorem dX0_commonLength_17 : decode cX0_commonLength 17 = .ok (.istore 4, 2) := by decide +kernel
theorem dX0_commonLength_19 : decode cX0_commonLength 19 = .ok (.iload 4, 2) := by decide +kernel
theorem dX0_commonLength_21 : decode cX0_commonLength 21 = .ok (.iload_n 3, 1) := by decide +kernel
theorem dX0_commonLength_22 : decode cX0_commonLength 22 = .ok (.if_icmp .ge 33, 3) := by decide +kernel
theorem dX0_commonLength_25 : decode cX0_commonLength 25 = .ok (.aload_n 0, 1) := by decide +kernel
theorem dX0_commonLength_26 : decode cX0_commonLength 26 = .ok (.getfield 26, 3) := by decide +kernel
theorem dX0_commonLength_29 : decode cX0_commonLength 29 = .ok (.iload_n 1, 1) := by decide +kernel
theorem dX0_commonLength_30 : decode cX0_commonLength 30 = .ok (.aaload, 1) := by decide +kernel
theorem dX0_commonLength_31 : decode cX0_commonLength 31 = .ok (.iload 4, 2) := by decide +kernel
theorem dX0_commonLength_33 : decode cX0_commonLength 33 = .ok (.iaload, 1) := by decide +kernel
theorem dX0_commonLength_34 : decode cX0_commonLength 34 = .ok (.aload_n 0, 1) := by decide +kernel
theorem dX0_commonLength_35 : decode cX0_commonLength 35 = .ok (.getfield 26, 3) := by decide +kernel
theorem dX0_commonLength_38 : decode cX0_commonLength 38 = .ok (.iload_n 2, 1) := by decide +kernel
theorem dX0_commonLength_39 : decode cX0_commonLength 39 = .ok (.aaload, 1) := by decide +kernel
theorem dX0_commonLength_40 : decode cX0_commonLength 40 = .ok (.iload 4, 2) := by decide +kernel
theorem dX0_commonLength_42 : decode cX0_commonLength 42 = .ok (.iaload, 1) := by decide +kernel
theorem dX0_commonLength_43 : decode cX0_commonLength 43 = .ok (.if_icmp .eq 6, 3) := by decide +kernel
theorem dX0_commonLength_46 : decode cX0_commonLength 46 = .ok (.iload 4, 2) := by decide +kernel
theorem dX0_commonLength_48 : decode cX0_commonLength 48 = .ok (.ireturn, 1) := by decide +kernel
theorem dX0_commonLength_49 : decode cX0_commonLength 49 = .ok (.iinc 4 1, 3) := by decide +kernel
theorem dX0_commonLength_52 : decode cX0_commonLength 52 = .ok (.goto (-33), 3) := by decide +kernel
theorem dX0_commonLength_55 : decode cX0_commonLength 55 = .ok (.aload_n 0, 1) := by decide +kernel
theorem dX0_commonLength_56 : decode cX0_commonLength 56 = .ok (.getfield 29, 3) := by decide +kernel
theorem dX0_commonLength_59 : decode cX0_commonLength 59 = .ok (.iload_n 2, 1) := by decide +kernel
theorem dX0_commonLength_60 : decode cX0_commonLength 60 = .ok (.iaload, 1) := by decide +kernel
theorem dX0_commonLength_61 : decode cX0_commonLength 61 = .ok (.ireturn, 1) := by decide +kernel
theorem dX0_cutAt_0 : decode cX0_cutAt 0 = .ok (.iload_n 2, 1) := by decide +kernel
theorem dX0_cutAt_1 : decode cX0_cutAt 1 = .ok (.istore_n 3, 1) := by decide +kernel
theorem dX0_cutAt_2 : decode cX0_cutAt 2 = .ok (.iload_n 3, 1) := by decide +kernel
theorem dX0_cutAt_3 : decode cX0_cutAt 3 = .ok (.aload_n 0, 1) := by decide +kernel
theorem dX0_cutAt_4 : decode cX0_cutAt 4 = .ok (.getfield 29, 3) := by decide +kernel
theorem dX0_cutAt_7 : decode cX0_cutAt 7 = .ok (.iload_n 1, 1) := by decide +kernel
theorem dX0_cutAt_8 : decode cX0_cutAt 8 = .ok (.iaload, 1) := by decide +kernel
theorem dX0_cutAt_9 : decode cX0_cutAt 9 = .ok (.if_icmp .ge 40, 3) := by decide +kernel
theorem dX0_cutAt_12 : decode cX0_cutAt 12 = .ok (.aload_n 0, 1) := by decide +kernel
theorem dX0_cutAt_13 : decode cX0_cutAt 13 = .ok (.getfield 26, 3) := by decide +kernel
theorem dX0_cutAt_16 : decode cX0_cutAt 16 = .ok (.iload_n 1, 1) := by decide +kernel
theorem dX0_cutAt_17 : decode cX0_cutAt 17 = .ok (.aaload, 1) := by decide +kernel
theorem dX0_cutAt_18 : decode cX0_cutAt 18 = .ok (.iload_n 3, 1) := by decide +kernel
theorem dX0_cutAt_19 : decode cX0_cutAt 19 = .ok (.iaload, 1) := by decide +kernel
theorem dX0_cutAt_20 : decode cX0_cutAt 20 = .ok (.istore 4, 2) := by decide +kernel
theorem dX0_cutAt_22 : decode cX0_cutAt 22 = .ok (.aload_n 0, 1) := by decide +kernel
theorem dX0_cutAt_23 : decode cX0_cutAt 23 = .ok (.getfield 35, 3) := by decide +kernel
theorem dX0_cutAt_26 : decode cX0_cutAt 26 = .ok (.iload 4, 2) := by decide +kernel
theorem dX0_cutAt_28 : decode cX0_cutAt 28 = .ok (.dup2, 1) := by decide +kernel
theorem dX0_cutAt_29 : decode cX0_cutAt 29 = .ok (.iaload, 1) := by decide +kernel
theorem dX0_cutAt_30 : decode cX0_cutAt 30 = .ok (.iconst 1, 1) := by decide +kernel
theorem dX0_cutAt_31 : decode cX0_cutAt 31 = .ok (.iload_n 1, 1) := by decide +kernel
theorem dX0_cutAt_32 : decode cX0_cutAt 32 = .ok (.ishl, 1) := by decide +kernel
theorem dX0_cutAt_33 : decode cX0_cutAt 33 = .ok (.iconst (-1), 1) := by decide +kernel
theorem dX0_cutAt_34 : decode cX0_cutAt 34 = .ok (.ixor, 1) := by decide +kernel
theorem dX0_cutAt_35 : decode cX0_cutAt 35 = .ok (.iand, 1) := by decide +kernel
theorem dX0_cutAt_36 : decode cX0_cutAt 36 = .ok (.iastore, 1) := by decide +kernel
theorem dX0_cutAt_37 : decode cX0_cutAt 37 = .ok (.aload_n 0, 1) := by decide +kernel
theorem dX0_cutAt_38 : decode cX0_cutAt 38 = .ok (.iload 4, 2) := by decide +kernel
theorem dX0_cutAt_40 : decode cX0_cutAt 40 = .ok (.invokevirtual 103, 3) := by decide +kernel
theorem dX0_cutAt_43 : decode cX0_cutAt 43 = .ok (.iinc 3 1, 3) := by decide +kernel
theorem dX0_cutAt_46 : decode cX0_cutAt 46 = .ok (.goto (-44), 3) := by decide +kernel
theorem dX0_cutAt_49 : decode cX0_cutAt 49 = .ok (.aload_n 0, 1) := by decide +kernel
theorem dX0_cutAt_50 : decode cX0_cutAt 50 = .ok (.getfield 29, 3) := by decide +kernel
theorem dX0_cutAt_53 : decode cX0_cutAt 53 = .ok (.iload_n 1, 1) := by decide +kernel
theorem dX0_cutAt_54 : decode cX0_cutAt 54 = .ok (.iload_n 2, 1) := by decide +kernel
theorem dX0_cutAt_55 : decode cX0_cutAt 55 = .ok (.iastore, 1) := by decide +kernel
theorem dX0_cutAt_56 : decode cX0_cutAt 56 = .ok (.return_, 1) := by decide +kernel
theorem dX0_copyRest_0 : decode cX0_copyRest 0 = .ok (.iconst 0, 1) := by decide +kernel
theorem dX0_copyRest_1 : decode cX0_copyRest 1 = .ok (.istore_n 3, 1) := by decide +kernel
theorem dX0_copyRest_2 : decode cX0_copyRest 2 = .ok (.aload_n 0, 1) := by decide +kernel
theorem dX0_copyRest_3 : decode cX0_copyRest 3 = .ok (.getfield 29, 3) := by decide +kernel
theorem dX0_copyRest_6 : decode cX0_copyRest 6 = .ok (.iload_n 2, 1) := by decide +kernel
theorem dX0_copyRest_7 : decode cX0_copyRest 7 = .ok (.iaload, 1) := by decide +kernel
theorem dX0_copyRest_8 : decode cX0_copyRest 8 = .ok (.istore 4, 2) := by decide +kernel
theorem dX0_copyRest_10 : decode cX0_copyRest 10 = .ok (.iload 4, 2) := by decide +kernel
theorem dX0_copyRest_12 : decode cX0_copyRest 12 = .ok (.aload_n 0, 1) := by decide +kernel
theorem dX0_copyRest_13 : decode cX0_copyRest 13 = .ok (.getfield 29, 3) := by decide +kernel
theorem dX0_copyRest_16 : decode cX0_copyRest 16 = .ok (.iload_n 1, 1) := by decide +kernel
theorem dX0_copyRest_17 : decode cX0_copyRest 17 = .ok (.iaload, 1) := by decide +kernel
theorem dX0_copyRest_18 : decode cX0_copyRest 18 = .ok (.if_icmp .ge 26, 3) := by decide +kernel
theorem dX0_copyRest_21 : decode cX0_copyRest 21 = .ok (.aload_n 0, 1) := by decide +kernel
theorem dX0_copyRest_22 : decode cX0_copyRest 22 = .ok (.iload_n 2, 1) := by decide +kernel
theorem dX0_copyRest_23 : decode cX0_copyRest 23 = .ok (.aload_n 0, 1) := by decide +kernel
theorem dX0_copyRest_24 : decode cX0_copyRest 24 = .ok (.getfield 26, 3) := by decide +kernel
theorem dX0_copyRest_27 : decode cX0_copyRest 27 = .ok (.iload_n 1, 1) := by decide +kernel
theorem dX0_copyRest_28 : decode cX0_copyRest 28 = .ok (.aaload, 1) := by decide +kernel
theorem dX0_copyRest_29 : decode cX0_copyRest 29 = .ok (.iload 4, 2) := by decide +kernel
theorem dX0_copyRest_31 : decode cX0_copyRest 31 = .ok (.iaload, 1) := by decide +kernel
theorem dX0_copyRest_32 : decode cX0_copyRest 32 = .ok (.invokevirtual 85, 3) := by decide +kernel
theorem dX0_copyRest_35 : decode cX0_copyRest 35 = .ok (.iinc 3 1, 3) := by decide +kernel
theorem dX0_copyRest_38 : decode cX0_copyRest 38 = .ok (.iinc 4 1, 3) := by decide +kernel
theorem dX0_copyRest_41 : decode cX0_copyRest 41 = .ok (.goto (-31), 3) := by decide +kernel
theorem dX0_copyRest_44 : decode cX0_copyRest 44 = .ok (.iload_n 3, 1) := by decide +kernel
theorem dX0_copyRest_45 : decode cX0_copyRest 45 = .ok (.ireturn, 1) := by decide +kernel
theorem dX0_append_0 : decode cX0_append 0 = .ok (.aload_n 0, 1) := by decide +kernel
theorem dX0_append_1 : decode cX0_append 1 = .ok (.getfield 26, 3) := by decide +kernel
theorem dX0_append_4 : decode cX0_append 4 = .ok (.iload_n 1, 1) := by decide +kernel
theorem dX0_append_5 : decode cX0_append 5 = .ok (.aaload, 1) := by decide +kernel
theorem dX0_append_6 : decode cX0_append 6 = .ok (.aload_n 0, 1) := by decide +kernel
theorem dX0_append_7 : decode cX0_append 7 = .ok (.getfield 29, 3) := by decide +kernel
theorem dX0_append_10 : decode cX0_append 10 = .ok (.iload_n 1, 1) := by decide +kernel
theorem dX0_append_11 : decode cX0_append 11 = .ok (.iaload, 1) := by decide +kernel
theorem dX0_append_12 : decode cX0_append 12 = .ok (.iload_n 2, 1) := by decide +kernel
theorem dX0_append_13 : decode cX0_append 13 = .ok (.iastore, 1) := by decide +kernel
theorem dX0_append_14 : decode cX0_append 14 = .ok (.aload_n 0, 1) := by decide +kernel
theorem dX0_append_15 : decode cX0_append 15 = .ok (.getfield 29, 3) := by decide +kernel
theorem dX0_append_18 : decode cX0_append 18 = .ok (.iload_n 1, 1) := by decide +kernel
theorem dX0_append_19 : decode cX0_append 19 = .ok (.dup2, 1) := by decide +kernel
theorem dX0_append_20 : decode cX0_append 20 = .ok (.iaload, 1) := by decide +kernel
theorem dX0_append_21 : decode cX0_append 21 = .ok (.iconst 1, 1) := by decide +kernel
theorem dX0_append_22 : decode cX0_append 22 = .ok (.iadd, 1) := by decide +kernel
theorem dX0_append_23 : decode cX0_append 23 = .ok (.iastore, 1) := by decide +kernel
theorem dX0_append_24 : decode cX0_append 24 = .ok (.aload_n 0, 1) := by decide +kernel
theorem dX0_append_25 : decode cX0_append 25 = .ok (.getfield 35, 3) := by decide +kernel
theorem dX0_append_28 : decode cX0_append 28 = .ok (.iload_n 2, 1) := by decide +kernel
theorem dX0_append_29 : decode cX0_append 29 = .ok (.dup2, 1) := by decide +kernel
theorem dX0_append_30 : decode cX0_append 30 = .ok (.iaload, 1) := by decide +kernel
theorem dX0_append_31 : decode cX0_append 31 = .ok (.iconst 1, 1) := by decide +kernel
theorem dX0_append_32 : decode cX0_append 32 = .ok (.iload_n 1, 1) := by decide +kernel
theorem dX0_append_33 : decode cX0_append 33 = .ok (.ishl, 1) := by decide +kernel
theorem dX0_append_34 : decode cX0_append 34 = .ok (.ior, 1) := by decide +kernel
theorem dX0_append_35 : decode cX0_append 35 = .ok (.iastore, 1) := by decide +kernel
theorem dX0_append_36 : decode cX0_append 36 = .ok (.aload_n 0, 1) := by decide +kernel
theorem dX0_append_37 : decode cX0_append 37 = .ok (.iload_n 2, 1) := by decide +kernel
theorem dX0_append_38 : decode cX0_append 38 = .ok (.invokevirtual 103, 3) := by decide +kernel
theorem dX0_append_41 : decode cX0_append 41 = .ok (.return_, 1) := by decide +kernel
theorem dX0_judgeHeld_0 : decode cX0_judgeHeld 0 = .ok (.lconst 1, 1) := by decide +kernel
theorem dX0_judgeHeld_1 : decode cX0_judgeHeld 1 = .ok (.iload_n 1, 1) := by decide +kernel
theorem dX0_judgeHeld_2 : decode cX0_judgeHeld 2 = .ok (.lshl, 1) := by decide +kernel
theorem dX0_judgeHeld_3 : decode cX0_judgeHeld 3 = .ok (.lstore_n 2, 1) := by decide +kernel
theorem dX0_judgeHeld_4 : decode cX0_judgeHeld 4 = .ok (.aload_n 0, 1) := by decide +kernel
theorem dX0_judgeHeld_5 : decode cX0_judgeHeld 5 = .ok (.getfield 35, 3) := by decide +kernel
theorem dX0_judgeHeld_8 : decode cX0_judgeHeld 8 = .ok (.iload_n 1, 1) := by decide +kernel
theorem dX0_judgeHeld_9 : decode cX0_judgeHeld 9 = .ok (.iaload, 1) := by decide +kernel
theorem dX0_judgeHeld_10 : decode cX0_judgeHeld 10 = .ok (.invokestatic 76, 3) := by decide +kernel
theorem dX0_judgeHeld_13 : decode cX0_judgeHeld 13 = .ok (.iconst 3, 1) := by decide +kernel
theorem dX0_judgeHeld_14 : decode cX0_judgeHeld 14 = .ok (.if_icmp .lt 26, 3) := by decide +kernel
theorem dX0_judgeHeld_17 : decode cX0_judgeHeld 17 = .ok (.aload_n 0, 1) := by decide +kernel
theorem dX0_judgeHeld_18 : decode cX0_judgeHeld 18 = .ok (.dup, 1) := by decide +kernel
theorem dX0_judgeHeld_19 : decode cX0_judgeHeld 19 = .ok (.getfield 54, 3) := by decide +kernel
theorem dX0_judgeHeld_22 : decode cX0_judgeHeld 22 = .ok (.lload_n 2, 1) := by decide +kernel
theorem dX0_judgeHeld_23 : decode cX0_judgeHeld 23 = .ok (.lor, 1) := by decide +kernel
theorem dX0_judgeHeld_24 : decode cX0_judgeHeld 24 = .ok (.putfield 54, 3) := by decide +kernel
theorem dX0_judgeHeld_27 : decode cX0_judgeHeld 27 = .ok (.aload_n 0, 1) := by decide +kernel
theorem dX0_judgeHeld_28 : decode cX0_judgeHeld 28 = .ok (.dup, 1) := by decide +kernel
theorem dX0_judgeHeld_29 : decode cX0_judgeHeld 29 = .ok (.getfield 58, 3) := by decide +kernel
theorem dX0_judgeHeld_32 : decode cX0_judgeHeld 32 = .ok (.lload_n 2, 1) := by decide +kernel
theorem dX0_judgeHeld_33 : decode cX0_judgeHeld 33 = .ok (.lor, 1) := by decide +kernel
theorem dX0_judgeHeld_34 : decode cX0_judgeHeld 34 = .ok (.putfield 58, 3) := by decide +kernel
theorem dX0_judgeHeld_37 : decode cX0_judgeHeld 37 = .ok (.goto 17, 3) := by decide +kernel
theorem dX0_judgeHeld_40 : decode cX0_judgeHeld 40 = .ok (.aload_n 0, 1) := by decide +kernel
theorem dX0_judgeHeld_41 : decode cX0_judgeHeld 41 = .ok (.dup, 1) := by decide +kernel
theorem dX0_judgeHeld_42 : decode cX0_judgeHeld 42 = .ok (.getfield 54, 3) := by decide +kernel
theorem dX0_judgeHeld_45 : decode cX0_judgeHeld 45 = .ok (.lload_n 2, 1) := by decide +kernel
theorem dX0_judgeHeld_46 : decode cX0_judgeHeld 46 = .ok (.ldc2_w 107, 3) := by decide +kernel
theorem dX0_judgeHeld_49 : decode cX0_judgeHeld 49 = .ok (.lxor, 1) := by decide +kernel
theorem dX0_judgeHeld_50 : decode cX0_judgeHeld 50 = .ok (.land, 1) := by decide +kernel
theorem dX0_judgeHeld_51 : decode cX0_judgeHeld 51 = .ok (.putfield 54, 3) := by decide +kernel
theorem dX0_judgeHeld_54 : decode cX0_judgeHeld 54 = .ok (.return_, 1) := by decide +kernel
theorem dX1_init_0 : decode cX1_init 0 = .ok (.aload_n 0, 1) := by decide +kernel
theorem dX1_init_1 : decode cX1_init 1 = .ok (.invokespecial 3, 3) := by decide +kernel
theorem dX1_init_4 : decode cX1_init 4 = .ok (.aload_n 0, 1) := by decide +kernel
theorem dX1_init_5 : decode cX1_init 5 = .ok (.bipush 60, 2) := by decide +kernel
theorem dX1_init_7 : decode cX1_init 7 = .ok (.newarray .int, 2) := by decide +kernel
theorem dX1_init_9 : decode cX1_init 9 = .ok (.putfield 9, 3) := by decide +kernel
theorem dX1_init_12 : decode cX1_init 12 = .ok (.aload_n 0, 1) := by decide +kernel
theorem dX1_init_13 : decode cX1_init 13 = .ok (.bipush 60, 2) := by decide +kernel
theorem dX1_init_15 : decode cX1_init 15 = .ok (.newarray .int, 2) := by decide +kernel
theorem dX1_init_17 : decode cX1_init 17 = .ok (.putfield 15, 3) := by decide +kernel
theorem dX1_init_20 : decode cX1_init 20 = .ok (.aload_n 0, 1) := by decide +kernel
theorem dX1_init_21 : decode cX1_init 21 = .ok (.bipush 60, 2) := by decide +kernel
theorem dX1_init_23 : decode cX1_init 23 = .ok (.newarray .int, 2) := by decide +kernel
theorem dX1_init_25 : decode cX1_init 25 = .ok (.putfield 18, 3) := by decide +kernel
theorem dX1_init_28 : decode cX1_init 28 = .ok (.aload_n 0, 1) := by decide +kernel
theorem dX1_init_29 : decode cX1_init 29 = .ok (.bipush 60, 2) := by decide +kernel
theorem dX1_init_31 : decode cX1_init 31 = .ok (.newarray .int, 2) := by decide +kernel
theorem dX1_init_33 : decode cX1_init 33 = .ok (.putfield 21, 3) := by decide +kernel
theorem dX1_init_36 : decode cX1_init 36 = .ok (.return_, 1) := by decide +kernel
theorem dX1_add_0 : decode cX1_add 0 = .ok (.aload_n 0, 1) := by decide +kernel
theorem dX1_add_1 : decode cX1_add 1 = .ok (.getfield 9, 3) := by decide +kernel
theorem dX1_add_4 : decode cX1_add 4 = .ok (.aload_n 0, 1) := by decide +kernel
theorem dX1_add_5 : decode cX1_add 5 = .ok (.getfield 24, 3) := by decide +kernel
theorem dX1_add_8 : decode cX1_add 8 = .ok (.iload_n 1, 1) := by decide +kernel
theorem dX1_add_9 : decode cX1_add 9 = .ok (.iastore, 1) := by decide +kernel
theorem dX1_add_10 : decode cX1_add 10 = .ok (.aload_n 0, 1) := by decide +kernel
theorem dX1_add_11 : decode cX1_add 11 = .ok (.getfield 15, 3) := by decide +kernel
theorem dX1_add_14 : decode cX1_add 14 = .ok (.aload_n 0, 1) := by decide +kernel
theorem dX1_add_15 : decode cX1_add 15 = .ok (.getfield 24, 3) := by decide +kernel
theorem dX1_add_18 : decode cX1_add 18 = .ok (.iload_n 2, 1) := by decide +kernel
theorem dX1_add_19 : decode cX1_add 19 = .ok (.iastore, 1) := by decide +kernel
theorem dX1_add_20 : decode cX1_add 20 = .ok (.aload_n 0, 1) := by decide +kernel
theorem dX1_add_21 : decode cX1_add 21 = .ok (.getfield 18, 3) := by decide +kernel
theorem dX1_add_24 : decode cX1_add 24 = .ok (.aload_n 0, 1) := by decide +kernel
theorem dX1_add_25 : decode cX1_add 25 = .ok (.getfield 24, 3) := by decide +kernel
theorem dX1_add_28 : decode cX1_add 28 = .ok (.iload_n 3, 1) := by decide +kernel
theorem dX1_add_29 : decode cX1_add 29 = .ok (.iastore, 1) := by decide +kernel
theorem dX1_add_30 : decode cX1_add 30 = .ok (.aload_n 0, 1) := by decide +kernel
theorem dX1_add_31 : decode cX1_add 31 = .ok (.getfield 21, 3) := by decide +kernel
theorem dX1_add_34 : decode cX1_add 34 = .ok (.aload_n 0, 1) := by decide +kernel
theorem dX1_add_35 : decode cX1_add 35 = .ok (.getfield 24, 3) := by decide +kernel
theorem dX1_add_38 : decode cX1_add 38 = .ok (.iconst 0, 1) := by decide +kernel
theorem dX1_add_39 : decode cX1_add 39 = .ok (.iastore, 1) := by decide +kernel
theorem dX1_add_40 : decode cX1_add 40 = .ok (.aload_n 0, 1) := by decide +kernel
theorem dX1_add_41 : decode cX1_add 41 = .ok (.dup, 1) := by decide +kernel
theorem dX1_add_42 : decode cX1_add 42 = .ok (.getfield 24, 3) := by decide +kernel
theorem dX1_add_45 : decode cX1_add 45 = .ok (.iconst 1, 1) := by decide +kernel
theorem dX1_add_46 : decode cX1_add 46 = .ok (.iadd, 1) := by decide +kernel
theorem dX1_add_47 : decode cX1_add 47 = .ok (.putfield 24, 3) := by decide +kernel
theorem dX1_add_50 : decode cX1_add 50 = .ok (.return_, 1) := by decide +kernel
theorem dX2_init_0 : decode cX2_init 0 = .ok (.aload_n 0, 1) := by decide +kernel
theorem dX2_init_1 : decode cX2_init 1 = .ok (.invokespecial 3, 3) := by decide +kernel
theorem dX2_init_4 : decode cX2_init 4 = .ok (.aload_n 0, 1) := by decide +kernel
theorem dX2_init_5 : decode cX2_init 5 = .ok (.iconst 5, 1) := by decide +kernel
theorem dX2_init_6 : decode cX2_init 6 = .ok (.sipush 200, 3) := by decide +kernel
theorem dX2_init_9 : decode cX2_init 9 = .ok (.multianewarray 9 2, 4) := by decide +kernel
theorem dX2_init_13 : decode cX2_init 13 = .ok (.putfield 11, 3) := by decide +kernel
theorem dX2_init_16 : decode cX2_init 16 = .ok (.aload_n 0, 1) := by decide +kernel
theorem dX2_init_17 : decode cX2_init 17 = .ok (.iconst 5, 1) := by decide +kernel
theorem dX2_init_18 : decode cX2_init 18 = .ok (.newarray .int, 2) := by decide +kernel
theorem dX2_init_20 : decode cX2_init 20 = .ok (.putfield 16, 3) := by decide +kernel
theorem dX2_init_23 : decode cX2_init 23 = .ok (.return_, 1) := by decide +kernel
theorem dX2_bring_0 : decode cX2_bring 0 = .ok (.aload_n 0, 1) := by decide +kernel
theorem dX2_bring_1 : decode cX2_bring 1 = .ok (.getfield 16, 3) := by decide +kernel
theorem dX2_bring_4 : decode cX2_bring 4 = .ok (.iload_n 1, 1) := by decide +kernel
theorem dX2_bring_5 : decode cX2_bring 5 = .ok (.iaload, 1) := by decide +kernel
theorem dX2_bring_6 : decode cX2_bring 6 = .ok (.iload_n 3, 1) := by decide +kernel
theorem dX2_bring_7 : decode cX2_bring 7 = .ok (.iadd, 1) := by decide +kernel
theorem dX2_bring_8 : decode cX2_bring 8 = .ok (.istore 4, 2) := by decide +kernel
theorem dX2_bring_10 : decode cX2_bring 10 = .ok (.aload_n 0, 1) := by decide +kernel
theorem dX2_bring_11 : decode cX2_bring 11 = .ok (.getfield 16, 3) := by decide +kernel
theorem dX2_bring_14 : decode cX2_bring 14 = .ok (.iload_n 1, 1) := by decide +kernel
theorem dX2_bring_15 : decode cX2_bring 15 = .ok (.iaload, 1) := by decide +kernel
theorem dX2_bring_16 : decode cX2_bring 16 = .ok (.istore 5, 2) := by decide +kernel
theorem dX2_bring_18 : decode cX2_bring 18 = .ok (.iload 5, 2) := by decide +kernel
theorem dX2_bring_20 : decode cX2_bring 20 = .ok (.iload 4, 2) := by decide +kernel
theorem dX2_bring_22 : decode cX2_bring 22 = .ok (.if_icmp .ge 19, 3) := by decide +kernel
theorem dX2_bring_25 : decode cX2_bring 25 = .ok (.aload_n 0, 1) := by decide +kernel
theorem dX2_bring_26 : decode cX2_bring 26 = .ok (.getfield 11, 3) := by decide +kernel
theorem dX2_bring_29 : decode cX2_bring 29 = .ok (.iload_n 1, 1) := by decide +kernel
theorem dX2_bring_30 : decode cX2_bring 30 = .ok (.aaload, 1) := by decide +kernel
theorem dX2_bring_31 : decode cX2_bring 31 = .ok (.iload 5, 2) := by decide +kernel
theorem dX2_bring_33 : decode cX2_bring 33 = .ok (.iload_n 2, 1) := by decide +kernel
theorem dX2_bring_34 : decode cX2_bring 34 = .ok (.iastore, 1) := by decide +kernel
theorem dX2_bring_35 : decode cX2_bring 35 = .ok (.iinc 5 1, 3) := by decide +kernel
theorem dX2_bring_38 : decode cX2_bring 38 = .ok (.goto (-20), 3) := by decide +kernel
theorem dX2_bring_41 : decode cX2_bring 41 = .ok (.aload_n 0, 1) := by decide +kernel
theorem dX2_bring_42 : decode cX2_bring 42 = .ok (.getfield 16, 3) := by decide +kernel
theorem dX2_bring_45 : decode cX2_bring 45 = .ok (.iload_n 1, 1) := by decide +kernel
theorem dX2_bring_46 : decode cX2_bring 46 = .ok (.iload 4, 2) := by decide +kernel
theorem dX2_bring_48 : decode cX2_bring 48 = .ok (.iastore, 1) := by decide +kernel
theorem dX2_bring_49 : decode cX2_bring 49 = .ok (.return_, 1) := by decide +kernel
theorem dX2_takeFirst_0 : decode cX2_takeFirst 0 = .ok (.iconst 0, 1) := by decide +kernel
theorem dX2_takeFirst_1 : decode cX2_takeFirst 1 = .ok (.istore_n 3, 1) := by decide +kernel
theorem dX2_takeFirst_2 : decode cX2_takeFirst 2 = .ok (.iconst 0, 1) := by decide +kernel
theorem dX2_takeFirst_3 : decode cX2_takeFirst 3 = .ok (.istore 4, 2) := by decide +kernel
theorem dX2_takeFirst_5 : decode cX2_takeFirst 5 = .ok (.iload 4, 2) := by decide +kernel
theorem dX2_takeFirst_7 : decode cX2_takeFirst 7 = .ok (.iload_n 2, 1) := by decide +kernel
theorem dX2_takeFirst_8 : decode cX2_takeFirst 8 = .ok (.if_icmp .ge 23, 3) := by decide +kernel
theorem dX2_takeFirst_11 : decode cX2_takeFirst 11 = .ok (.iload_n 3, 1) := by decide +kernel
theorem dX2_takeFirst_12 : decode cX2_takeFirst 12 = .ok (.iconst 1, 1) := by decide +kernel
theorem dX2_takeFirst_13 : decode cX2_takeFirst 13 = .ok (.aload_n 0, 1) := by decide +kernel
theorem dX2_takeFirst_14 : decode cX2_takeFirst 14 = .ok (.getfield 11, 3) := by decide +kernel
theorem dX2_takeFirst_17 : decode cX2_takeFirst 17 = .ok (.iload_n 1, 1) := by decide +kernel
theorem dX2_takeFirst_18 : decode cX2_takeFirst 18 = .ok (.aaload, 1) := by decide +kernel
theorem dX2_takeFirst_19 : decode cX2_takeFirst 19 = .ok (.iload 4, 2) := by decide +kernel
theorem dX2_takeFirst_21 : decode cX2_takeFirst 21 = .ok (.iaload, 1) := by decide +kernel
theorem dX2_takeFirst_22 : decode cX2_takeFirst 22 = .ok (.ishl, 1) := by decide +kernel
theorem dX2_takeFirst_23 : decode cX2_takeFirst 23 = .ok (.ior, 1) := by decide +kernel
theorem dX2_takeFirst_24 : decode cX2_takeFirst 24 = .ok (.istore_n 3, 1) := by decide +kernel
theorem dX2_takeFirst_25 : decode cX2_takeFirst 25 = .ok (.iinc 4 1, 3) := by decide +kernel
theorem dX2_takeFirst_28 : decode cX2_takeFirst 28 = .ok (.goto (-23), 3) := by decide +kernel
theorem dX2_takeFirst_31 : decode cX2_takeFirst 31 = .ok (.iload_n 2, 1) := by decide +kernel
theorem dX2_takeFirst_32 : decode cX2_takeFirst 32 = .ok (.istore 4, 2) := by decide +kernel
theorem dX2_takeFirst_34 : decode cX2_takeFirst 34 = .ok (.iload 4, 2) := by decide +kernel
theorem dX2_takeFirst_36 : decode cX2_takeFirst 36 = .ok (.aload_n 0, 1) := by decide +kernel
theorem dX2_takeFirst_37 : decode cX2_takeFirst 37 = .ok (.getfield 16, 3) := by decide +kernel
theorem dX2_takeFirst_40 : decode cX2_takeFirst 40 = .ok (.iload_n 1, 1) := by decide +kernel
theorem dX2_takeFirst_41 : decode cX2_takeFirst 41 = .ok (.iaload, 1) := by decide +kernel
theorem dX2_takeFirst_42 : decode cX2_takeFirst 42 = .ok (.if_icmp .ge 29, 3) := by decide +kernel
theorem dX2_takeFirst_45 : decode cX2_takeFirst 45 = .ok (.aload_n 0, 1) := by decide +kernel
theorem dX2_takeFirst_46 : decode cX2_takeFirst 46 = .ok (.getfield 11, 3) := by decide +kernel
theorem dX2_takeFirst_49 : decode cX2_takeFirst 49 = .ok (.iload_n 1, 1) := by decide +kernel
theorem dX2_takeFirst_50 : decode cX2_takeFirst 50 = .ok (.aaload, 1) := by decide +kernel
theorem dX2_takeFirst_51 : decode cX2_takeFirst 51 = .ok (.iload 4, 2) := by decide +kernel
theorem dX2_takeFirst_53 : decode cX2_takeFirst 53 = .ok (.iload_n 2, 1) := by decide +kernel
theorem dX2_takeFirst_54 : decode cX2_takeFirst 54 = .ok (.isub, 1) := by decide +kernel
theorem dX2_takeFirst_55 : decode cX2_takeFirst 55 = .ok (.aload_n 0, 1) := by decide +kernel
theorem dX2_takeFirst_56 : decode cX2_takeFirst 56 = .ok (.getfield 11, 3) := by decide +kernel
theorem dX2_takeFirst_59 : decode cX2_takeFirst 59 = .ok (.iload_n 1, 1) := by decide +kernel
theorem dX2_takeFirst_60 : decode cX2_takeFirst 60 = .ok (.aaload, 1) := by decide +kernel
theorem dX2_takeFirst_61 : decode cX2_takeFirst 61 = .ok (.iload 4, 2) := by decide +kernel
theorem dX2_takeFirst_63 : decode cX2_takeFirst 63 = .ok (.iaload, 1) := by decide +kernel
theorem dX2_takeFirst_64 : decode cX2_takeFirst 64 = .ok (.iastore, 1) := by decide +kernel
theorem dX2_takeFirst_65 : decode cX2_takeFirst 65 = .ok (.iinc 4 1, 3) := by decide +kernel
theorem dX2_takeFirst_68 : decode cX2_takeFirst 68 = .ok (.goto (-34), 3) := by decide +kernel
theorem dX2_takeFirst_71 : decode cX2_takeFirst 71 = .ok (.aload_n 0, 1) := by decide +kernel
theorem dX2_takeFirst_72 : decode cX2_takeFirst 72 = .ok (.getfield 16, 3) := by decide +kernel
theorem dX2_takeFirst_75 : decode cX2_takeFirst 75 = .ok (.iload_n 1, 1) := by decide +kernel
theorem dX2_takeFirst_76 : decode cX2_takeFirst 76 = .ok (.dup2, 1) := by decide +kernel
theorem dX2_takeFirst_77 : decode cX2_takeFirst 77 = .ok (.iaload, 1) := by decide +kernel
theorem dX2_takeFirst_78 : decode cX2_takeFirst 78 = .ok (.iload_n 2, 1) := by decide +kernel
theorem dX2_takeFirst_79 : decode cX2_takeFirst 79 = .ok (.isub, 1) := by decide +kernel
theorem dX2_takeFirst_80 : decode cX2_takeFirst 80 = .ok (.iastore, 1) := by decide +kernel
theorem dX2_takeFirst_81 : decode cX2_takeFirst 81 = .ok (.iload_n 3, 1) := by decide +kernel
theorem dX2_takeFirst_82 : decode cX2_takeFirst 82 = .ok (.ireturn, 1) := by decide +kernel
theorem dX2_throwOut_0 : decode cX2_throwOut 0 = .ok (.aload_n 0, 1) := by decide +kernel
theorem dX2_throwOut_1 : decode cX2_throwOut 1 = .ok (.dup, 1) := by decide +kernel
theorem dX2_throwOut_2 : decode cX2_throwOut 2 = .ok (.getfield 20, 3) := by decide +kernel
theorem dX2_throwOut_5 : decode cX2_throwOut 5 = .ok (.iconst 1, 1) := by decide +kernel
theorem dX2_throwOut_6 : decode cX2_throwOut 6 = .ok (.iload_n 1, 1) := by decide +kernel
theorem dX2_throwOut_7 : decode cX2_throwOut 7 = .ok (.ishl, 1) := by decide +kernel
theorem dX2_throwOut_8 : decode cX2_throwOut 8 = .ok (.ior, 1) := by decide +kernel
theorem dX2_throwOut_9 : decode cX2_throwOut 9 = .ok (.putfield 20, 3) := by decide +kernel
theorem dX2_throwOut_12 : decode cX2_throwOut 12 = .ok (.iconst 0, 1) := by decide +kernel
theorem dX2_throwOut_13 : decode cX2_throwOut 13 = .ok (.istore_n 2, 1) := by decide +kernel
theorem dX2_throwOut_14 : decode cX2_throwOut 14 = .ok (.iload_n 2, 1) := by decide +kernel
theorem dX2_throwOut_15 : decode cX2_throwOut 15 = .ok (.iconst 5, 1) := by decide +kernel
theorem dX2_throwOut_16 : decode cX2_throwOut 16 = .ok (.if_icmp .ge 15, 3) := by decide +kernel
theorem dX2_throwOut_19 : decode cX2_throwOut 19 = .ok (.aload_n 0, 1) := by decide +kernel
theorem dX2_throwOut_20 : decode cX2_throwOut 20 = .ok (.iload_n 2, 1) := by decide +kernel
theorem dX2_throwOut_21 : decode cX2_throwOut 21 = .ok (.iload_n 1, 1) := by decide +kernel
theorem dX2_throwOut_22 : decode cX2_throwOut 22 = .ok (.invokevirtual 24, 3) := by decide +kernel
theorem dX2_throwOut_25 : decode cX2_throwOut 25 = .ok (.iinc 2 1, 3) := by decide +kernel
theorem dX2_throwOut_28 : decode cX2_throwOut 28 = .ok (.goto (-14), 3) := by decide +kernel
theorem dX2_throwOut_31 : decode cX2_throwOut 31 = .ok (.return_, 1) := by decide +kernel
theorem dX2_throwOutOf_0 : decode cX2_throwOutOf 0 = .ok (.iconst 0, 1) := by decide +kernel
theorem dX2_throwOutOf_1 : decode cX2_throwOutOf 1 = .ok (.istore_n 3, 1) := by decide +kernel
theorem dX2_throwOutOf_2 : decode cX2_throwOutOf 2 = .ok (.iconst 0, 1) := by decide +kernel
theorem dX2_throwOutOf_3 : decode cX2_throwOutOf 3 = .ok (.istore 4, 2) := by decide +kernel
theorem dX2_throwOutOf_5 : decode cX2_throwOutOf 5 = .ok (.iload 4, 2) := by decide +kernel
theorem dX2_throwOutOf_7 : decode cX2_throwOutOf 7 = .ok (.aload_n 0, 1) := by decide +kernel
theorem dX2_throwOutOf_8 : decode cX2_throwOutOf 8 = .ok (.getfield 16, 3) := by decide +kernel
theorem dX2_throwOutOf_11 : decode cX2_throwOutOf 11 = .ok (.iload_n 1, 1) := by decide +kernel
theorem dX2_throwOutOf_12 : decode cX2_throwOutOf 12 = .ok (.iaload, 1) := by decide +kernel
theorem dX2_throwOutOf_13 : decode cX2_throwOutOf 13 = .ok (.if_icmp .ge 42, 3) := by decide +kernel
theorem dX2_throwOutOf_16 : decode cX2_throwOutOf 16 = .ok (.aload_n 0, 1) := by decide +kernel
theorem dX2_throwOutOf_17 : decode cX2_throwOutOf 17 = .ok (.getfield 11, 3) := by decide +kernel
theorem dX2_throwOutOf_20 : decode cX2_throwOutOf 20 = .ok (.iload_n 1, 1) := by decide +kernel
theorem dX2_throwOutOf_21 : decode cX2_throwOutOf 21 = .ok (.aaload, 1) := by decide +kernel
theorem dX2_throwOutOf_22 : decode cX2_throwOutOf 22 = .ok (.iload 4, 2) := by decide +kernel
theorem dX2_throwOutOf_24 : decode cX2_throwOutOf 24 = .ok (.iaload, 1) := by decide +kernel
theorem dX2_throwOutOf_25 : decode cX2_throwOutOf 25 = .ok (.iload_n 2, 1) := by decide +kernel
theorem dX2_throwOutOf_26 : decode cX2_throwOutOf 26 = .ok (.if_icmp .eq 23, 3) := by decide +kernel
theorem dX2_throwOutOf_29 : decode cX2_throwOutOf 29 = .ok (.aload_n 0, 1) := by decide +kernel
theorem dX2_throwOutOf_30 : decode cX2_throwOutOf 30 = .ok (.getfield 11, 3) := by decide +kernel
theorem dX2_throwOutOf_33 : decode cX2_throwOutOf 33 = .ok (.iload_n 1, 1) := by decide +kernel
theorem dX2_throwOutOf_34 : decode cX2_throwOutOf 34 = .ok (.aaload, 1) := by decide +kernel
theorem dX2_throwOutOf_35 : decode cX2_throwOutOf 35 = .ok (.iload_n 3, 1) := by decide +kernel
theorem dX2_throwOutOf_36 : decode cX2_throwOutOf 36 = .ok (.aload_n 0, 1) := by decide +kernel
theorem dX2_throwOutOf_37 : decode cX2_throwOutOf 37 = .ok (.getfield 11, 3) := by decide +kernel
theorem dX2_throwOutOf_40 : decode cX2_throwOutOf 40 = .ok (.iload_n 1, 1) := by decide +kernel
theorem dX2_throwOutOf_41 : decode cX2_throwOutOf 41 = .ok (.aaload, 1) := by decide +kernel
theorem dX2_throwOutOf_42 : decode cX2_throwOutOf 42 = .ok (.iload 4, 2) := by decide +kernel
theorem dX2_throwOutOf_44 : decode cX2_throwOutOf 44 = .ok (.iaload, 1) := by decide +kernel
theorem dX2_throwOutOf_45 : decode cX2_throwOutOf 45 = .ok (.iastore, 1) := by decide +kernel
theorem dX2_throwOutOf_46 : decode cX2_throwOutOf 46 = .ok (.iinc 3 1, 3) := by decide +kernel
theorem dX2_throwOutOf_49 : decode cX2_throwOutOf 49 = .ok (.iinc 4 1, 3) := by decide +kernel
theorem dX2_throwOutOf_52 : decode cX2_throwOutOf 52 = .ok (.goto (-47), 3) := by decide +kernel
theorem dX2_throwOutOf_55 : decode cX2_throwOutOf 55 = .ok (.aload_n 0, 1) := by decide +kernel
theorem dX2_throwOutOf_56 : decode cX2_throwOutOf 56 = .ok (.getfield 16, 3) := by decide +kernel
theorem dX2_throwOutOf_59 : decode cX2_throwOutOf 59 = .ok (.iload_n 1, 1) := by decide +kernel
theorem dX2_throwOutOf_60 : decode cX2_throwOutOf 60 = .ok (.iload_n 3, 1) := by decide +kernel
theorem dX2_throwOutOf_61 : decode cX2_throwOutOf 61 = .ok (.iastore, 1) := by decide +kernel
theorem dX2_throwOutOf_62 : decode cX2_throwOutOf 62 = .ok (.return_, 1) := by decide +kernel
theorem dX3_init_0 : decode cX3_init 0 = .ok (.aload_n 0, 1) := by decide +kernel
theorem dX3_init_1 : decode cX3_init 1 = .ok (.invokespecial 3, 3) := by decide +kernel
theorem dX3_init_4 : decode cX3_init 4 = .ok (.aload_n 0, 1) := by decide +kernel
theorem dX3_init_5 : decode cX3_init 5 = .ok (.sipush 512, 3) := by decide +kernel
theorem dX3_init_8 : decode cX3_init 8 = .ok (.newarray .int, 2) := by decide +kernel
theorem dX3_init_10 : decode cX3_init 10 = .ok (.putfield 9, 3) := by decide +kernel
theorem dX3_init_13 : decode cX3_init 13 = .ok (.aload_n 0, 1) := by decide +kernel
theorem dX3_init_14 : decode cX3_init 14 = .ok (.sipush 512, 3) := by decide +kernel
theorem dX3_init_17 : decode cX3_init 17 = .ok (.newarray .int, 2) := by decide +kernel
theorem dX3_init_19 : decode cX3_init 19 = .ok (.putfield 15, 3) := by decide +kernel
theorem dX3_init_22 : decode cX3_init 22 = .ok (.aload_n 0, 1) := by decide +kernel
theorem dX3_init_23 : decode cX3_init 23 = .ok (.sipush 512, 3) := by decide +kernel
theorem dX3_init_26 : decode cX3_init 26 = .ok (.newarray .int, 2) := by decide +kernel
theorem dX3_init_28 : decode cX3_init 28 = .ok (.putfield 18, 3) := by decide +kernel
theorem dX3_init_31 : decode cX3_init 31 = .ok (.return_, 1) := by decide +kernel
theorem dX3_add_0 : decode cX3_add 0 = .ok (.aload_n 0, 1) := by decide +kernel
theorem dX3_add_1 : decode cX3_add 1 = .ok (.getfield 21, 3) := by decide +kernel
theorem dX3_add_4 : decode cX3_add 4 = .ok (.sipush 512, 3) := by decide +kernel
theorem dX3_add_7 : decode cX3_add 7 = .ok (.if_icmp .ge 43, 3) := by decide +kernel
theorem dX3_add_10 : decode cX3_add 10 = .ok (.aload_n 0, 1) := by decide +kernel
theorem dX3_add_11 : decode cX3_add 11 = .ok (.getfield 9, 3) := by decide +kernel
theorem dX3_add_14 : decode cX3_add 14 = .ok (.aload_n 0, 1) := by decide +kernel
theorem dX3_add_15 : decode cX3_add 15 = .ok (.getfield 21, 3) := by decide +kernel
theorem dX3_add_18 : decode cX3_add 18 = .ok (.iload_n 1, 1) := by decide +kernel
theorem dX3_add_19 : decode cX3_add 19 = .ok (.iastore, 1) := by decide +kernel
theorem dX3_add_20 : decode cX3_add 20 = .ok (.aload_n 0, 1) := by decide +kernel
theorem dX3_add_21 : decode cX3_add 21 = .ok (.getfield 15, 3) := by decide +kernel
theorem dX3_add_24 : decode cX3_add 24 = .ok (.aload_n 0, 1) := by decide +kernel
theorem dX3_add_25 : decode cX3_add 25 = .ok (.getfield 21, 3) := by decide +kernel
theorem dX3_add_28 : decode cX3_add 28 = .ok (.iload_n 2, 1) := by decide +kernel
theorem dX3_add_29 : decode cX3_add 29 = .ok (.iastore, 1) := by decide +kernel
theorem dX3_add_30 : decode cX3_add 30 = .ok (.aload_n 0, 1) := by decide +kernel
theorem dX3_add_31 : decode cX3_add 31 = .ok (.getfield 18, 3) := by decide +kernel
theorem dX3_add_34 : decode cX3_add 34 = .ok (.aload_n 0, 1) := by decide +kernel
theorem dX3_add_35 : decode cX3_add 35 = .ok (.getfield 21, 3) := by decide +kernel
theorem dX3_add_38 : decode cX3_add 38 = .ok (.iload_n 3, 1) := by decide +kernel
theorem dX3_add_39 : decode cX3_add 39 = .ok (.iastore, 1) := by decide +kernel
theorem dX3_add_40 : decode cX3_add 40 = .ok (.aload_n 0, 1) := by decide +kernel
theorem dX3_add_41 : decode cX3_add 41 = .ok (.dup, 1) := by decide +kernel
theorem dX3_add_42 : decode cX3_add 42 = .ok (.getfield 21, 3) := by decide +kernel
theorem dX3_add_45 : decode cX3_add 45 = .ok (.iconst 1, 1) := by decide +kernel
theorem dX3_add_46 : decode cX3_add 46 = .ok (.iadd, 1) := by decide +kernel
theorem dX3_add_47 : decode cX3_add 47 = .ok (.putfield 21, 3) := by decide +kernel
theorem dX3_add_50 : decode cX3_add 50 = .ok (.return_, 1) := by decide +kernel
theorem dX4_init_0 : decode cX4_init 0 = .ok (.aload_n 0, 1) := by decide +kernel
theorem dX4_init_1 : decode cX4_init 1 = .ok (.invokespecial 3, 3) := by decide +kernel
theorem dX4_init_4 : decode cX4_init 4 = .ok (.aload_n 0, 1) := by decide +kernel
theorem dX4_init_5 : decode cX4_init 5 = .ok (.iconst 5, 1) := by decide +kernel
theorem dX4_init_6 : decode cX4_init 6 = .ok (.bipush 51, 2) := by decide +kernel
theorem dX4_init_8 : decode cX4_init 8 = .ok (.multianewarray 9 2, 4) := by decide +kernel
theorem dX4_init_12 : decode cX4_init 12 = .ok (.putfield 11, 3) := by decide +kernel
theorem dX4_init_15 : decode cX4_init 15 = .ok (.aload_n 0, 1) := by decide +kernel
theorem dX4_init_16 : decode cX4_init 16 = .ok (.iconst 5, 1) := by decide +kernel
theorem dX4_init_17 : decode cX4_init 17 = .ok (.newarray .int, 2) := by decide +kernel
theorem dX4_init_19 : decode cX4_init 19 = .ok (.putfield 16, 3) := by decide +kernel
theorem dX4_init_22 : decode cX4_init 22 = .ok (.iconst 0, 1) := by decide +kernel
theorem dX4_init_23 : decode cX4_init 23 = .ok (.istore_n 1, 1) := by decide +kernel
theorem dX4_init_24 : decode cX4_init 24 = .ok (.iload_n 1, 1) := by decide +kernel
theorem dX4_init_25 : decode cX4_init 25 = .ok (.iconst 5, 1) := by decide +kernel
theorem dX4_init_26 : decode cX4_init 26 = .ok (.if_icmp .ge 19, 3) := by decide +kernel
theorem dX4_init_29 : decode cX4_init 29 = .ok (.aload_n 0, 1) := by decide +kernel
theorem dX4_init_30 : decode cX4_init 30 = .ok (.getfield 11, 3) := by decide +kernel
theorem dX4_init_33 : decode cX4_init 33 = .ok (.iload_n 1, 1) := by decide +kernel
theorem dX4_init_34 : decode cX4_init 34 = .ok (.aaload, 1) := by decide +kernel
theorem dX4_init_35 : decode cX4_init 35 = .ok (.iconst (-1), 1) := by decide +kernel
theorem dX4_init_36 : decode cX4_init 36 = .ok (.invokestatic 20, 3) := by decide +kernel
theorem dX4_init_39 : decode cX4_init 39 = .ok (.iinc 1 1, 3) := by decide +kernel
theorem dX4_init_42 : decode cX4_init 42 = .ok (.goto (-18), 3) := by decide +kernel
theorem dX4_init_45 : decode cX4_init 45 = .ok (.return_, 1) := by decide +kernel
theorem dX4_slotAt_0 : decode cX4_slotAt 0 = .ok (.aload_n 0, 1) := by decide +kernel
theorem dX4_slotAt_1 : decode cX4_slotAt 1 = .ok (.getfield 11, 3) := by decide +kernel
theorem dX4_slotAt_4 : decode cX4_slotAt 4 = .ok (.iload_n 1, 1) := by decide +kernel
theorem dX4_slotAt_5 : decode cX4_slotAt 5 = .ok (.aaload, 1) := by decide +kernel
theorem dX4_slotAt_6 : decode cX4_slotAt 6 = .ok (.iload_n 2, 1) := by decide +kernel
theorem dX4_slotAt_7 : decode cX4_slotAt 7 = .ok (.bipush 51, 2) := by decide +kernel
theorem dX4_slotAt_9 : decode cX4_slotAt 9 = .ok (.irem, 1) := by decide +kernel
theorem dX4_slotAt_10 : decode cX4_slotAt 10 = .ok (.iaload, 1) := by decide +kernel
theorem dX4_slotAt_11 : decode cX4_slotAt 11 = .ok (.ireturn, 1) := by decide +kernel
theorem dX4_setSlot_0 : decode cX4_setSlot 0 = .ok (.aload_n 0, 1) := by decide +kernel
theorem dX4_setSlot_1 : decode cX4_setSlot 1 = .ok (.getfield 11, 3) := by decide +kernel
theorem dX4_setSlot_4 : decode cX4_setSlot 4 = .ok (.iload_n 1, 1) := by decide +kernel
theorem dX4_setSlot_5 : decode cX4_setSlot 5 = .ok (.aaload, 1) := by decide +kernel
theorem dX4_setSlot_6 : decode cX4_setSlot 6 = .ok (.iload_n 2, 1) := by decide +kernel
theorem dX4_setSlot_7 : decode cX4_setSlot 7 = .ok (.bipush 51, 2) := by decide +kernel
theorem dX4_setSlot_9 : decode cX4_setSlot 9 = .ok (.irem, 1) := by decide +kernel
theorem dX4_setSlot_10 : decode cX4_setSlot 10 = .ok (.iload_n 3, 1) := by decide +kernel
theorem dX4_setSlot_11 : decode cX4_setSlot 11 = .ok (.iastore, 1) := by decide +kernel
theorem dX4_setSlot_12 : decode cX4_setSlot 12 = .ok (.return_, 1) := by decide +kernel
theorem dX5_init_0 : decode cX5_init 0 = .ok (.aload_n 0, 1) := by decide +kernel
theorem dX5_init_1 : decode cX5_init 1 = .ok (.invokespecial 3, 3) := by decide +kernel
theorem dX5_init_4 : decode cX5_init 4 = .ok (.aload_n 0, 1) := by decide +kernel
theorem dX5_init_5 : decode cX5_init 5 = .ok (.sipush 512, 3) := by decide +kernel
theorem dX5_init_8 : decode cX5_init 8 = .ok (.newarray .int, 2) := by decide +kernel
theorem dX5_init_10 : decode cX5_init 10 = .ok (.putfield 9, 3) := by decide +kernel
theorem dX5_init_13 : decode cX5_init 13 = .ok (.aload_n 0, 1) := by decide +kernel
theorem dX5_init_14 : decode cX5_init 14 = .ok (.sipush 512, 3) := by decide +kernel
theorem dX5_init_17 : decode cX5_init 17 = .ok (.newarray .int, 2) := by decide +kernel
theorem dX5_init_19 : decode cX5_init 19 = .ok (.putfield 15, 3) := by decide +kernel
theorem dX5_init_22 : decode cX5_init 22 = .ok (.aload_n 0, 1) := by decide +kernel
theorem dX5_init_23 : decode cX5_init 23 = .ok (.sipush 512, 3) := by decide +kernel
theorem dX5_init_26 : decode cX5_init 26 = .ok (.newarray .int, 2) := by decide +kernel
theorem dX5_init_28 : decode cX5_init 28 = .ok (.putfield 18, 3) := by decide +kernel
theorem dX5_init_31 : decode cX5_init 31 = .ok (.return_, 1) := by decide +kernel
theorem dX5_write_0 : decode cX5_write 0 = .ok (.aload_n 0, 1) := by decide +kernel
theorem dX5_write_1 : decode cX5_write 1 = .ok (.getfield 21, 3) := by decide +kernel
theorem dX5_write_4 : decode cX5_write 4 = .ok (.sipush 512, 3) := by decide +kernel
theorem dX5_write_7 : decode cX5_write 7 = .ok (.if_icmp .ge 43, 3) := by decide +kernel
theorem dX5_write_10 : decode cX5_write 10 = .ok (.aload_n 0, 1) := by decide +kernel
theorem dX5_write_11 : decode cX5_write 11 = .ok (.getfield 9, 3) := by decide +kernel
theorem dX5_write_14 : decode cX5_write 14 = .ok (.aload_n 0, 1) := by decide +kernel
theorem dX5_write_15 : decode cX5_write 15 = .ok (.getfield 21, 3) := by decide +kernel
theorem dX5_write_18 : decode cX5_write 18 = .ok (.iload_n 1, 1) := by decide +kernel
theorem dX5_write_19 : decode cX5_write 19 = .ok (.iastore, 1) := by decide +kernel
theorem dX5_write_20 : decode cX5_write 20 = .ok (.aload_n 0, 1) := by decide +kernel
theorem dX5_write_21 : decode cX5_write 21 = .ok (.getfield 15, 3) := by decide +kernel
theorem dX5_write_24 : decode cX5_write 24 = .ok (.aload_n 0, 1) := by decide +kernel
theorem dX5_write_25 : decode cX5_write 25 = .ok (.getfield 21, 3) := by decide +kernel
theorem dX5_write_28 : decode cX5_write 28 = .ok (.iload_n 2, 1) := by decide +kernel
theorem dX5_write_29 : decode cX5_write 29 = .ok (.iastore, 1) := by decide +kernel
theorem dX5_write_30 : decode cX5_write 30 = .ok (.aload_n 0, 1) := by decide +kernel
theorem dX5_write_31 : decode cX5_write 31 = .ok (.getfield 18, 3) := by decide +kernel
theorem dX5_write_34 : decode cX5_write 34 = .ok (.aload_n 0, 1) := by decide +kernel
theorem dX5_write_35 : decode cX5_write 35 = .ok (.getfield 21, 3) := by decide +kernel
theorem dX5_write_38 : decode cX5_write 38 = .ok (.iload_n 3, 1) := by decide +kernel
theorem dX5_write_39 : decode cX5_write 39 = .ok (.iastore, 1) := by decide +kernel
theorem dX5_write_40 : decode cX5_write 40 = .ok (.aload_n 0, 1) := by decide +kernel
theorem dX5_write_41 : decode cX5_write 41 = .ok (.dup, 1) := by decide +kernel
theorem dX5_write_42 : decode cX5_write 42 = .ok (.getfield 21, 3) := by decide +kernel
theorem dX5_write_45 : decode cX5_write 45 = .ok (.iconst 1, 1) := by decide +kernel
theorem dX5_write_46 : decode cX5_write 46 = .ok (.iadd, 1) := by decide +kernel
theorem dX5_write_47 : decode cX5_write 47 = .ok (.putfield 21, 3) := by decide +kernel
theorem dX5_write_50 : decode cX5_write 50 = .ok (.return_, 1) := by decide +kernel
theorem dX6_init_0 : decode cX6_init 0 = .ok (.aload_n 0, 1) := by decide +kernel
theorem dX6_init_1 : decode cX6_init 1 = .ok (.invokespecial 3, 3) := by decide +kernel
theorem dX6_init_4 : decode cX6_init 4 = .ok (.aload_n 0, 1) := by decide +kernel
theorem dX6_init_5 : decode cX6_init 5 = .ok (.bipush 60, 2) := by decide +kernel
theorem dX6_init_7 : decode cX6_init 7 = .ok (.newarray .int, 2) := by decide +kernel
theorem dX6_init_9 : decode cX6_init 9 = .ok (.putfield 9, 3) := by decide +kernel
theorem dX6_init_12 : decode cX6_init 12 = .ok (.aload_n 0, 1) := by decide +kernel
theorem dX6_init_13 : decode cX6_init 13 = .ok (.bipush 60, 2) := by decide +kernel
theorem dX6_init_15 : decode cX6_init 15 = .ok (.newarray .int, 2) := by decide +kernel
theorem dX6_init_17 : decode cX6_init 17 = .ok (.putfield 15, 3) := by decide +kernel
theorem dX6_init_20 : decode cX6_init 20 = .ok (.aload_n 0, 1) := by decide +kernel
theorem dX6_init_21 : decode cX6_init 21 = .ok (.bipush 60, 2) := by decide +kernel
theorem dX6_init_23 : decode cX6_init 23 = .ok (.newarray .int, 2) := by decide +kernel
theorem dX6_init_25 : decode cX6_init 25 = .ok (.putfield 18, 3) := by decide +kernel
theorem dX6_init_28 : decode cX6_init 28 = .ok (.return_, 1) := by decide +kernel
theorem dX6_note_0 : decode cX6_note 0 = .ok (.aload_n 0, 1) := by decide +kernel
theorem dX6_note_1 : decode cX6_note 1 = .ok (.getfield 9, 3) := by decide +kernel
theorem dX6_note_4 : decode cX6_note 4 = .ok (.iload_n 1, 1) := by decide +kernel
theorem dX6_note_5 : decode cX6_note 5 = .ok (.iload_n 2, 1) := by decide +kernel
theorem dX6_note_6 : decode cX6_note 6 = .ok (.iastore, 1) := by decide +kernel
theorem dX6_note_7 : decode cX6_note 7 = .ok (.aload_n 0, 1) := by decide +kernel
theorem dX6_note_8 : decode cX6_note 8 = .ok (.getfield 15, 3) := by decide +kernel
theorem dX6_note_11 : decode cX6_note 11 = .ok (.iload_n 1, 1) := by decide +kernel
theorem dX6_note_12 : decode cX6_note 12 = .ok (.iload_n 3, 1) := by decide +kernel
theorem dX6_note_13 : decode cX6_note 13 = .ok (.iastore, 1) := by decide +kernel
theorem dX6_note_14 : decode cX6_note 14 = .ok (.aload_n 0, 1) := by decide +kernel
theorem dX6_note_15 : decode cX6_note 15 = .ok (.getfield 18, 3) := by decide +kernel
theorem dX6_note_18 : decode cX6_note 18 = .ok (.iload_n 1, 1) := by decide +kernel
theorem dX6_note_19 : decode cX6_note 19 = .ok (.iload 4, 2) := by decide +kernel
theorem dX6_note_21 : decode cX6_note 21 = .ok (.iastore, 1) := by decide +kernel
theorem dX6_note_22 : decode cX6_note 22 = .ok (.return_, 1) := by decide +kernel
theorem dJ6_bitCount_0f7a4_0 : decode cJ6_bitCount_0f7a4 0 = .ok (.iload_n 0, 1) := by decide +kernel
theorem dJ6_bitCount_0f7a4_1 : decode cJ6_bitCount_0f7a4 1 = .ok (.iload_n 0, 1) := by decide +kernel
theorem dJ6_bitCount_0f7a4_2 : decode cJ6_bitCount_0f7a4 2 = .ok (.iconst 1, 1) := by decide +kernel
theorem dJ6_bitCount_0f7a4_3 : decode cJ6_bitCount_0f7a4 3 = .ok (.iushr, 1) := by decide +kernel
theorem dJ6_bitCount_0f7a4_4 : decode cJ6_bitCount_0f7a4 4 = .ok (.ldc_w 265, 3) := by decide +kernel
theorem dJ6_bitCount_0f7a4_7 : decode cJ6_bitCount_0f7a4 7 = .ok (.iand, 1) := by decide +kernel
theorem dJ6_bitCount_0f7a4_8 : decode cJ6_bitCount_0f7a4 8 = .ok (.isub, 1) := by decide +kernel
theorem dJ6_bitCount_0f7a4_9 : decode cJ6_bitCount_0f7a4 9 = .ok (.istore_n 0, 1) := by decide +kernel
theorem dJ6_bitCount_0f7a4_10 : decode cJ6_bitCount_0f7a4 10 = .ok (.iload_n 0, 1) := by decide +kernel
theorem dJ6_bitCount_0f7a4_11 : decode cJ6_bitCount_0f7a4 11 = .ok (.ldc_w 266, 3) := by decide +kernel
theorem dJ6_bitCount_0f7a4_14 : decode cJ6_bitCount_0f7a4 14 = .ok (.iand, 1) := by decide +kernel
theorem dJ6_bitCount_0f7a4_15 : decode cJ6_bitCount_0f7a4 15 = .ok (.iload_n 0, 1) := by decide +kernel
theorem dJ6_bitCount_0f7a4_16 : decode cJ6_bitCount_0f7a4 16 = .ok (.iconst 2, 1) := by decide +kernel
theorem dJ6_bitCount_0f7a4_17 : decode cJ6_bitCount_0f7a4 17 = .ok (.iushr, 1) := by decide +kernel
theorem dJ6_bitCount_0f7a4_18 : decode cJ6_bitCount_0f7a4 18 = .ok (.ldc_w 266, 3) := by decide +kernel
theorem dJ6_bitCount_0f7a4_21 : decode cJ6_bitCount_0f7a4 21 = .ok (.iand, 1) := by decide +kernel
theorem dJ6_bitCount_0f7a4_22 : decode cJ6_bitCount_0f7a4 22 = .ok (.iadd, 1) := by decide +kernel
theorem dJ6_bitCount_0f7a4_23 : decode cJ6_bitCount_0f7a4 23 = .ok (.istore_n 0, 1) := by decide +kernel
theorem dJ6_bitCount_0f7a4_24 : decode cJ6_bitCount_0f7a4 24 = .ok (.iload_n 0, 1) := by decide +kernel
theorem dJ6_bitCount_0f7a4_25 : decode cJ6_bitCount_0f7a4 25 = .ok (.iload_n 0, 1) := by decide +kernel
theorem dJ6_bitCount_0f7a4_26 : decode cJ6_bitCount_0f7a4 26 = .ok (.iconst 4, 1) := by decide +kernel
theorem dJ6_bitCount_0f7a4_27 : decode cJ6_bitCount_0f7a4 27 = .ok (.iushr, 1) := by decide +kernel
theorem dJ6_bitCount_0f7a4_28 : decode cJ6_bitCount_0f7a4 28 = .ok (.iadd, 1) := by decide +kernel
theorem dJ6_bitCount_0f7a4_29 : decode cJ6_bitCount_0f7a4 29 = .ok (.ldc_w 267, 3) := by decide +kernel
theorem dJ6_bitCount_0f7a4_32 : decode cJ6_bitCount_0f7a4 32 = .ok (.iand, 1) := by decide +kernel
theorem dJ6_bitCount_0f7a4_33 : decode cJ6_bitCount_0f7a4 33 = .ok (.istore_n 0, 1) := by decide +kernel
theorem dJ6_bitCount_0f7a4_34 : decode cJ6_bitCount_0f7a4 34 = .ok (.iload_n 0, 1) := by decide +kernel
theorem dJ6_bitCount_0f7a4_35 : decode cJ6_bitCount_0f7a4 35 = .ok (.iload_n 0, 1) := by decide +kernel
theorem dJ6_bitCount_0f7a4_36 : decode cJ6_bitCount_0f7a4 36 = .ok (.bipush 8, 2) := by decide +kernel
theorem dJ6_bitCount_0f7a4_38 : decode cJ6_bitCount_0f7a4 38 = .ok (.iushr, 1) := by decide +kernel
theorem dJ6_bitCount_0f7a4_39 : decode cJ6_bitCount_0f7a4 39 = .ok (.iadd, 1) := by decide +kernel
theorem dJ6_bitCount_0f7a4_40 : decode cJ6_bitCount_0f7a4 40 = .ok (.istore_n 0, 1) := by decide +kernel
theorem dJ6_bitCount_0f7a4_41 : decode cJ6_bitCount_0f7a4 41 = .ok (.iload_n 0, 1) := by decide +kernel
theorem dJ6_bitCount_0f7a4_42 : decode cJ6_bitCount_0f7a4 42 = .ok (.iload_n 0, 1) := by decide +kernel
theorem dJ6_bitCount_0f7a4_43 : decode cJ6_bitCount_0f7a4 43 = .ok (.bipush 16, 2) := by decide +kernel
theorem dJ6_bitCount_0f7a4_45 : decode cJ6_bitCount_0f7a4 45 = .ok (.iushr, 1) := by decide +kernel
theorem dJ6_bitCount_0f7a4_46 : decode cJ6_bitCount_0f7a4 46 = .ok (.iadd, 1) := by decide +kernel
theorem dJ6_bitCount_0f7a4_47 : decode cJ6_bitCount_0f7a4 47 = .ok (.istore_n 0, 1) := by decide +kernel
theorem dJ6_bitCount_0f7a4_48 : decode cJ6_bitCount_0f7a4 48 = .ok (.iload_n 0, 1) := by decide +kernel
theorem dJ6_bitCount_0f7a4_49 : decode cJ6_bitCount_0f7a4 49 = .ok (.bipush 63, 2) := by decide +kernel
theorem dJ6_bitCount_0f7a4_51 : decode cJ6_bitCount_0f7a4 51 = .ok (.iand, 1) := by decide +kernel
theorem dJ6_bitCount_0f7a4_52 : decode cJ6_bitCount_0f7a4 52 = .ok (.ireturn, 1) := by decide +kernel
theorem dJ9_min_7cf53_0 : decode cJ9_min_7cf53 0 = .ok (.iload_n 0, 1) := by decide +kernel
theorem dJ9_min_7cf53_1 : decode cJ9_min_7cf53 1 = .ok (.iload_n 1, 1) := by decide +kernel
theorem dJ9_min_7cf53_2 : decode cJ9_min_7cf53 2 = .ok (.if_icmp .gt 7, 3) := by decide +kernel
theorem dJ9_min_7cf53_5 : decode cJ9_min_7cf53 5 = .ok (.iload_n 0, 1) := by decide +kernel
theorem dJ9_min_7cf53_6 : decode cJ9_min_7cf53 6 = .ok (.goto 4, 3) := by decide +kernel
theorem dJ9_min_7cf53_9 : decode cJ9_min_7cf53 9 = .ok (.iload_n 1, 1) := by decide +kernel
theorem dJ9_min_7cf53_10 : decode cJ9_min_7cf53 10 = .ok (.ireturn, 1) := by decide +kernel
theorem dJ7_fill_53178_0 : decode cJ7_fill_53178 0 = .ok (.iconst 0, 1) := by decide +kernel
theorem dJ7_fill_53178_1 : decode cJ7_fill_53178 1 = .ok (.istore_n 2, 1) := by decide +kernel
theorem dJ7_fill_53178_2 : decode cJ7_fill_53178 2 = .ok (.aload_n 0, 1) := by decide +kernel
theorem dJ7_fill_53178_3 : decode cJ7_fill_53178 3 = .ok (.arraylength, 1) := by decide +kernel
theorem dJ7_fill_53178_4 : decode cJ7_fill_53178 4 = .ok (.istore_n 3, 1) := by decide +kernel
theorem dJ7_fill_53178_5 : decode cJ7_fill_53178 5 = .ok (.iload_n 2, 1) := by decide +kernel
theorem dJ7_fill_53178_6 : decode cJ7_fill_53178 6 = .ok (.iload_n 3, 1) := by decide +kernel
theorem dJ7_fill_53178_7 : decode cJ7_fill_53178 7 = .ok (.if_icmp .ge 13, 3) := by decide +kernel
theorem dJ7_fill_53178_10 : decode cJ7_fill_53178 10 = .ok (.aload_n 0, 1) := by decide +kernel
theorem dJ7_fill_53178_11 : decode cJ7_fill_53178 11 = .ok (.iload_n 2, 1) := by decide +kernel
theorem dJ7_fill_53178_12 : decode cJ7_fill_53178 12 = .ok (.iload_n 1, 1) := by decide +kernel
theorem dJ7_fill_53178_13 : decode cJ7_fill_53178 13 = .ok (.iastore, 1) := by decide +kernel
theorem dJ7_fill_53178_14 : decode cJ7_fill_53178 14 = .ok (.iinc 2 1, 3) := by decide +kernel
theorem dJ7_fill_53178_17 : decode cJ7_fill_53178 17 = .ok (.goto (-12), 3) := by decide +kernel
theorem dJ7_fill_53178_20 : decode cJ7_fill_53178 20 = .ok (.return_, 1) := by decide +kernel
end
section
theorem dX7_init_0 : decode cX7_init 0 = .ok (.aload_n 0, 1) := by decide +kernel
theorem dX7_init_1 : decode cX7_init 1 = .ok (.invokespecial 1, 3) := by decide +kernel
theorem dX7_init_4 : decode cX7_init 4 = .ok (.aload_n 0, 1) := by decide +kernel
theorem dX7_init_5 : decode cX7_init 5 = .ok (.new 7, 3) := by decide +kernel
theorem dX7_init_8 : decode cX7_init 8 = .ok (.dup, 1) := by decide +kernel
theorem dX7_init_9 : decode cX7_init 9 = .ok (.invokespecial 9, 3) := by decide +kernel
theorem dX7_init_12 : decode cX7_init 12 = .ok (.putfield 10, 3) := by decide +kernel
theorem dX7_init_15 : decode cX7_init 15 = .ok (.aload_n 0, 1) := by decide +kernel
theorem dX7_init_16 : decode cX7_init 16 = .ok (.new 7, 3) := by decide +kernel
theorem dX7_init_19 : decode cX7_init 19 = .ok (.dup, 1) := by decide +kernel
theorem dX7_init_20 : decode cX7_init 20 = .ok (.invokespecial 9, 3) := by decide +kernel
theorem dX7_init_23 : decode cX7_init 23 = .ok (.putfield 16, 3) := by decide +kernel
theorem dX7_init_26 : decode cX7_init 26 = .ok (.aload_n 0, 1) := by decide +kernel
theorem dX7_init_27 : decode cX7_init 27 = .ok (.new 19, 3) := by decide +kernel
theorem dX7_init_30 : decode cX7_init 30 = .ok (.dup, 1) := by decide +kernel
theorem dX7_init_31 : decode cX7_init 31 = .ok (.invokespecial 21, 3) := by decide +kernel
theorem dX7_init_34 : decode cX7_init 34 = .ok (.putfield 22, 3) := by decide +kernel
theorem dX7_init_37 : decode cX7_init 37 = .ok (.aload_n 0, 1) := by decide +kernel
theorem dX7_init_38 : decode cX7_init 38 = .ok (.new 26, 3) := by decide +kernel
theorem dX7_init_41 : decode cX7_init 41 = .ok (.dup, 1) := by decide +kernel
theorem dX7_init_42 : decode cX7_init 42 = .ok (.invokespecial 28, 3) := by decide +kernel
theorem dX7_init_45 : decode cX7_init 45 = .ok (.putfield 29, 3) := by decide +kernel
theorem dX7_init_48 : decode cX7_init 48 = .ok (.aload_n 0, 1) := by decide +kernel
theorem dX7_init_49 : decode cX7_init 49 = .ok (.new 33, 3) := by decide +kernel
theorem dX7_init_52 : decode cX7_init 52 = .ok (.dup, 1) := by decide +kernel
theorem dX7_init_53 : decode cX7_init 53 = .ok (.invokespecial 35, 3) := by decide +kernel
theorem dX7_init_56 : decode cX7_init 56 = .ok (.putfield 36, 3) := by decide +kernel
theorem dX7_init_59 : decode cX7_init 59 = .ok (.aload_n 0, 1) := by decide +kernel
theorem dX7_init_60 : decode cX7_init 60 = .ok (.new 40, 3) := by decide +kernel
theorem dX7_init_63 : decode cX7_init 63 = .ok (.dup, 1) := by decide +kernel
theorem dX7_init_64 : decode cX7_init 64 = .ok (.invokespecial 42, 3) := by decide +kernel
theorem dX7_init_67 : decode cX7_init 67 = .ok (.putfield 43, 3) := by decide +kernel
theorem dX7_init_70 : decode cX7_init 70 = .ok (.aload_n 0, 1) := by decide +kernel
theorem dX7_init_71 : decode cX7_init 71 = .ok (.new 47, 3) := by decide +kernel
theorem dX7_init_74 : decode cX7_init 74 = .ok (.dup, 1) := by decide +kernel
theorem dX7_init_75 : decode cX7_init 75 = .ok (.invokespecial 49, 3) := by decide +kernel
theorem dX7_init_78 : decode cX7_init 78 = .ok (.putfield 50, 3) := by decide +kernel
theorem dX7_init_81 : decode cX7_init 81 = .ok (.aload_n 0, 1) := by decide +kernel
theorem dX7_init_82 : decode cX7_init 82 = .ok (.new 54, 3) := by decide +kernel
theorem dX7_init_85 : decode cX7_init 85 = .ok (.dup, 1) := by decide +kernel
theorem dX7_init_86 : decode cX7_init 86 = .ok (.invokespecial 56, 3) := by decide +kernel
theorem dX7_init_89 : decode cX7_init 89 = .ok (.putfield 57, 3) := by decide +kernel
theorem dX7_init_92 : decode cX7_init 92 = .ok (.return_, 1) := by decide +kernel
theorem dX7_part_0 : decode cX7_part 0 = .ok (.iload_n 1, 1) := by decide +kernel
theorem dX7_part_1 : decode cX7_part 1 = .ok (.ifCond .lt 9, 3) := by decide +kernel
theorem dX7_part_4 : decode cX7_part 4 = .ok (.iload_n 1, 1) := by decide +kernel
theorem dX7_part_5 : decode cX7_part 5 = .ok (.bipush 32, 2) := by decide +kernel
theorem dX7_part_7 : decode cX7_part 7 = .ok (.if_icmp .lt 13, 3) := by decide +kernel
theorem dX7_part_10 : decode cX7_part 10 = .ok (.new 61, 3) := by decide +kernel
theorem dX7_part_13 : decode cX7_part 13 = .ok (.dup, 1) := by decide +kernel
theorem dX7_part_14 : decode cX7_part 14 = .ok (.ldc 63, 2) := by decide +kernel
theorem dX7_part_16 : decode cX7_part 16 = .ok (.invokespecial 65, 3) := by decide +kernel
theorem dX7_part_19 : decode cX7_part 19 = .ok (.athrow, 1) := by decide +kernel
theorem dX7_part_20 : decode cX7_part 20 = .ok (.aload_n 0, 1) := by decide +kernel
theorem dX7_part_21 : decode cX7_part 21 = .ok (.getfield 10, 3) := by decide +kernel
theorem dX7_part_24 : decode cX7_part 24 = .ok (.iload_n 1, 1) := by decide +kernel
theorem dX7_part_25 : decode cX7_part 25 = .ok (.putfield 68, 3) := by decide +kernel
theorem dX7_part_28 : decode cX7_part 28 = .ok (.aload_n 0, 1) := by decide +kernel
theorem dX7_part_29 : decode cX7_part 29 = .ok (.getfield 22, 3) := by decide +kernel
theorem dX7_part_32 : decode cX7_part 32 = .ok (.iconst 0, 1) := by decide +kernel
theorem dX7_part_33 : decode cX7_part 33 = .ok (.iload_n 1, 1) := by decide +kernel
theorem dX7_part_34 : decode cX7_part 34 = .ok (.iconst 0, 1) := by decide +kernel
theorem dX7_part_35 : decode cX7_part 35 = .ok (.invokevirtual 72, 3) := by decide +kernel
theorem dX7_part_38 : decode cX7_part 38 = .ok (.iload_n 1, 1) := by decide +kernel
theorem dX7_part_39 : decode cX7_part 39 = .ok (.invokestatic 76, 3) := by decide +kernel
theorem dX7_part_42 : decode cX7_part 42 = .ok (.istore_n 2, 1) := by decide +kernel
theorem dX7_part_43 : decode cX7_part 43 = .ok (.iload_n 2, 1) := by decide +kernel
theorem dX7_part_44 : decode cX7_part 44 = .ok (.iconst 5, 1) := by decide +kernel
theorem dX7_part_45 : decode cX7_part 45 = .ok (.iload_n 2, 1) := by decide +kernel
theorem dX7_part_46 : decode cX7_part 46 = .ok (.isub, 1) := by decide +kernel
theorem dX7_part_47 : decode cX7_part 47 = .ok (.imul, 1) := by decide +kernel
theorem dX7_part_48 : decode cX7_part 48 = .ok (.ireturn, 1) := by decide +kernel
theorem dX7_stand_0 : decode cX7_stand 0 = .ok (.iload_n 1, 1) := by decide +kernel
theorem dX7_stand_1 : decode cX7_stand 1 = .ok (.invokestatic 82, 3) := by decide +kernel
theorem dX7_stand_4 : decode cX7_stand 4 = .ok (.aload_n 0, 1) := by decide +kernel
theorem dX7_stand_5 : decode cX7_stand 5 = .ok (.getfield 10, 3) := by decide +kernel
theorem dX7_stand_8 : decode cX7_stand 8 = .ok (.getfield 86, 3) := by decide +kernel
theorem dX7_stand_11 : decode cX7_stand 11 = .ok (.iload_n 1, 1) := by decide +kernel
theorem dX7_stand_12 : decode cX7_stand 12 = .ok (.iaload, 1) := by decide +kernel
theorem dX7_stand_13 : decode cX7_stand 13 = .ok (.bipush 100, 2) := by decide +kernel
theorem dX7_stand_15 : decode cX7_stand 15 = .ok (.if_icmp .lt 13, 3) := by decide +kernel
theorem dX7_stand_18 : decode cX7_stand 18 = .ok (.new 90, 3) := by decide +kernel
theorem dX7_stand_21 : decode cX7_stand 21 = .ok (.dup, 1) := by decide +kernel
theorem dX7_stand_22 : decode cX7_stand 22 = .ok (.ldc 92, 2) := by decide +kernel
theorem dX7_stand_24 : decode cX7_stand 24 = .ok (.invokespecial 94, 3) := by decide +kernel
theorem dX7_stand_27 : decode cX7_stand 27 = .ok (.athrow, 1) := by decide +kernel
theorem dX7_stand_28 : decode cX7_stand 28 = .ok (.aload_n 0, 1) := by decide +kernel
theorem dX7_stand_29 : decode cX7_stand 29 = .ok (.getfield 10, 3) := by decide +kernel
theorem dX7_stand_32 : decode cX7_stand 32 = .ok (.iload_n 1, 1) := by decide +kernel
theorem dX7_stand_33 : decode cX7_stand 33 = .ok (.invokevirtual 95, 3) := by decide +kernel
theorem dX7_stand_36 : decode cX7_stand 36 = .ok (.aload_n 0, 1) := by decide +kernel
theorem dX7_stand_37 : decode cX7_stand 37 = .ok (.getfield 22, 3) := by decide +kernel
theorem dX7_stand_40 : decode cX7_stand 40 = .ok (.iconst 1, 1) := by decide +kernel
theorem dX7_stand_41 : decode cX7_stand 41 = .ok (.iload_n 1, 1) := by decide +kernel
theorem dX7_stand_42 : decode cX7_stand 42 = .ok (.iconst 0, 1) := by decide +kernel
theorem dX7_stand_43 : decode cX7_stand 43 = .ok (.invokevirtual 72, 3) := by decide +kernel
theorem dX7_stand_46 : decode cX7_stand 46 = .ok (.aload_n 0, 1) := by decide +kernel
theorem dX7_stand_47 : decode cX7_stand 47 = .ok (.getfield 10, 3) := by decide +kernel
theorem dX7_stand_50 : decode cX7_stand 50 = .ok (.getfield 86, 3) := by decide +kernel
theorem dX7_stand_53 : decode cX7_stand 53 = .ok (.iload_n 1, 1) := by decide +kernel
theorem dX7_stand_54 : decode cX7_stand 54 = .ok (.iaload, 1) := by decide +kernel
theorem dX7_stand_55 : decode cX7_stand 55 = .ok (.ireturn, 1) := by decide +kernel
theorem dX7_vote_0 : decode cX7_vote 0 = .ok (.iload_n 1, 1) := by decide +kernel
theorem dX7_vote_1 : decode cX7_vote 1 = .ok (.iload_n 2, 1) := by decide +kernel
theorem dX7_vote_2 : decode cX7_vote 2 = .ok (.invokestatic 98, 3) := by decide +kernel
theorem dX7_vote_5 : decode cX7_vote 5 = .ok (.aload_n 0, 1) := by decide +kernel
theorem dX7_vote_6 : decode cX7_vote 6 = .ok (.getfield 10, 3) := by decide +kernel
theorem dX7_vote_9 : decode cX7_vote 9 = .ok (.getfield 102, 3) := by decide +kernel
theorem dX7_vote_12 : decode cX7_vote 12 = .ok (.iload_n 2, 1) := by decide +kernel
theorem dX7_vote_13 : decode cX7_vote 13 = .ok (.iaload, 1) := by decide +kernel
theorem dX7_vote_14 : decode cX7_vote 14 = .ok (.iconst 1, 1) := by decide +kernel
theorem dX7_vote_15 : decode cX7_vote 15 = .ok (.if_icmp .eq 13, 3) := by decide +kernel
theorem dX7_vote_18 : decode cX7_vote 18 = .ok (.new 90, 3) := by decide +kernel
theorem dX7_vote_21 : decode cX7_vote 21 = .ok (.dup, 1) := by decide +kernel
theorem dX7_vote_22 : decode cX7_vote 22 = .ok (.ldc 105, 2) := by decide +kernel
theorem dX7_vote_24 : decode cX7_vote 24 = .ok (.invokespecial 94, 3) := by decide +kernel
theorem dX7_vote_27 : decode cX7_vote 27 = .ok (.athrow, 1) := by decide +kernel
theorem dX7_vote_28 : decode cX7_vote 28 = .ok (.aload_n 0, 1) := by decide +kernel
theorem dX7_vote_29 : decode cX7_vote 29 = .ok (.iload_n 1, 1) := by decide +kernel
theorem dX7_vote_30 : decode cX7_vote 30 = .ok (.iload_n 2, 1) := by decide +kernel
theorem dX7_vote_31 : decode cX7_vote 31 = .ok (.invokevirtual 107, 3) := by decide +kernel
theorem dX7_vote_34 : decode cX7_vote 34 = .ok (.aload_n 0, 1) := by decide +kernel
theorem dX7_vote_35 : decode cX7_vote 35 = .ok (.getfield 22, 3) := by decide +kernel
theorem dX7_vote_38 : decode cX7_vote 38 = .ok (.iconst 2, 1) := by decide +kernel
theorem dX7_vote_39 : decode cX7_vote 39 = .ok (.iload_n 1, 1) := by decide +kernel
theorem dX7_vote_40 : decode cX7_vote 40 = .ok (.iload_n 2, 1) := by decide +kernel
theorem dX7_vote_41 : decode cX7_vote 41 = .ok (.invokevirtual 72, 3) := by decide +kernel
theorem dX7_vote_44 : decode cX7_vote 44 = .ok (.aload_n 0, 1) := by decide +kernel
theorem dX7_vote_45 : decode cX7_vote 45 = .ok (.getfield 10, 3) := by decide +kernel
theorem dX7_vote_48 : decode cX7_vote 48 = .ok (.iload_n 1, 1) := by decide +kernel
theorem dX7_vote_49 : decode cX7_vote 49 = .ok (.iload_n 2, 1) := by decide +kernel
theorem dX7_vote_50 : decode cX7_vote 50 = .ok (.invokevirtual 110, 3) := by decide +kernel
theorem dX7_vote_53 : decode cX7_vote 53 = .ok (.ireturn, 1) := by decide +kernel
theorem dX7_propose_0 : decode cX7_propose 0 = .ok (.iload_n 1, 1) := by decide +kernel
theorem dX7_propose_1 : decode cX7_propose 1 = .ok (.invokestatic 82, 3) := by decide +kernel
theorem dX7_propose_4 : decode cX7_propose 4 = .ok (.iload_n 2, 1) := by decide +kernel
theorem dX7_propose_5 : decode cX7_propose 5 = .ok (.invokestatic 114, 3) := by decide +kernel
theorem dX7_propose_8 : decode cX7_propose 8 = .ok (.iload_n 3, 1) := by decide +kernel
theorem dX7_propose_9 : decode cX7_propose 9 = .ok (.iconst 1, 1) := by decide +kernel
theorem dX7_propose_10 : decode cX7_propose 10 = .ok (.if_icmp .lt 22, 3) := by decide +kernel
theorem dX7_propose_13 : decode cX7_propose 13 = .ok (.iload_n 3, 1) := by decide +kernel
theorem dX7_propose_14 : decode cX7_propose 14 = .ok (.bipush 9, 2) := by decide +kernel
theorem dX7_propose_16 : decode cX7_propose 16 = .ok (.if_icmp .gt 16, 3) := by decide +kernel
theorem dX7_propose_19 : decode cX7_propose 19 = .ok (.iload 4, 2) := by decide +kernel
theorem dX7_propose_21 : decode cX7_propose 21 = .ok (.iconst 1, 1) := by decide +kernel
theorem dX7_propose_22 : decode cX7_propose 22 = .ok (.if_icmp .lt 10, 3) := by decide +kernel
theorem dX7_propose_25 : decode cX7_propose 25 = .ok (.iload 4, 2) := by decide +kernel
theorem dX7_propose_27 : decode cX7_propose 27 = .ok (.bipush 40, 2) := by decide +kernel
theorem dX7_propose_29 : decode cX7_propose 29 = .ok (.if_icmp .le 13, 3) := by decide +kernel
theorem dX7_propose_32 : decode cX7_propose 32 = .ok (.new 61, 3) := by decide +kernel
theorem dX7_propose_35 : decode cX7_propose 35 = .ok (.dup, 1) := by decide +kernel
theorem dX7_propose_36 : decode cX7_propose 36 = .ok (.ldc 117, 2) := by decide +kernel
theorem dX7_propose_38 : decode cX7_propose 38 = .ok (.invokespecial 65, 3) := by decide +kernel
theorem dX7_propose_41 : decode cX7_propose 41 = .ok (.athrow, 1) := by decide +kernel
theorem dX7_propose_42 : decode cX7_propose 42 = .ok (.aload_n 0, 1) := by decide +kernel
theorem dX7_propose_43 : decode cX7_propose 43 = .ok (.iload_n 1, 1) := by decide +kernel
theorem dX7_propose_44 : decode cX7_propose 44 = .ok (.invokevirtual 119, 3) := by decide +kernel
theorem dX7_propose_47 : decode cX7_propose 47 = .ok (.aload_n 0, 1) := by decide +kernel
theorem dX7_propose_48 : decode cX7_propose 48 = .ok (.getfield 10, 3) := by decide +kernel
theorem dX7_propose_51 : decode cX7_propose 51 = .ok (.getfield 122, 3) := by decide +kernel
theorem dX7_propose_54 : decode cX7_propose 54 = .ok (.iload_n 1, 1) := by decide +kernel
theorem dX7_propose_55 : decode cX7_propose 55 = .ok (.iaload, 1) := by decide +kernel
theorem dX7_propose_56 : decode cX7_propose 56 = .ok (.bipush 20, 2) := by decide +kernel
theorem dX7_propose_58 : decode cX7_propose 58 = .ok (.if_icmp .ge 15, 3) := by decide +kernel
theorem dX7_propose_61 : decode cX7_propose 61 = .ok (.aload_n 0, 1) := by decide +kernel
theorem dX7_propose_62 : decode cX7_propose 62 = .ok (.getfield 10, 3) := by decide +kernel
theorem dX7_propose_65 : decode cX7_propose 65 = .ok (.getfield 125, 3) := by decide +kernel
theorem dX7_propose_68 : decode cX7_propose 68 = .ok (.bipush 60, 2) := by decide +kernel
theorem dX7_propose_70 : decode cX7_propose 70 = .ok (.if_icmp .lt 13, 3) := by decide +kernel
theorem dX7_propose_73 : decode cX7_propose 73 = .ok (.new 90, 3) := by decide +kernel
theorem dX7_propose_76 : decode cX7_propose 76 = .ok (.dup, 1) := by decide +kernel
theorem dX7_propose_77 : decode cX7_propose 77 = .ok (.ldc 128, 2) := by decide +kernel
theorem dX7_propose_79 : decode cX7_propose 79 = .ok (.invokespecial 94, 3) := by decide +kernel
theorem dX7_propose_82 : decode cX7_propose 82 = .ok (.athrow, 1) := by decide +kernel
theorem dX7_propose_83 : decode cX7_propose 83 = .ok (.aload_n 0, 1) := by decide +kernel
theorem dX7_propose_84 : decode cX7_propose 84 = .ok (.getfield 10, 3) := by decide +kernel
theorem dX7_propose_87 : decode cX7_propose 87 = .ok (.iload_n 1, 1) := by decide +kernel
theorem dX7_propose_88 : decode cX7_propose 88 = .ok (.invokevirtual 130, 3) := by decide +kernel
theorem dX7_propose_91 : decode cX7_propose 91 = .ok (.istore 5, 2) := by decide +kernel
theorem dX7_propose_93 : decode cX7_propose 93 = .ok (.aload_n 0, 1) := by decide +kernel
theorem dX7_propose_94 : decode cX7_propose 94 = .ok (.getfield 29, 3) := by decide +kernel
theorem dX7_propose_97 : decode cX7_propose 97 = .ok (.iload 5, 2) := by decide +kernel
theorem dX7_propose_99 : decode cX7_propose 99 = .ok (.iload_n 2, 1) := by decide +kernel
theorem dX7_propose_100 : decode cX7_propose 100 = .ok (.iload_n 3, 1) := by decide +kernel
theorem dX7_propose_101 : decode cX7_propose 101 = .ok (.iload 4, 2) := by decide +kernel
theorem dX7_propose_103 : decode cX7_propose 103 = .ok (.invokevirtual 133, 3) := by decide +kernel
theorem dX7_propose_106 : decode cX7_propose 106 = .ok (.aload_n 0, 1) := by decide +kernel
theorem dX7_propose_107 : decode cX7_propose 107 = .ok (.getfield 22, 3) := by decide +kernel
theorem dX7_propose_110 : decode cX7_propose 110 = .ok (.iconst 3, 1) := by decide +kernel
theorem dX7_propose_111 : decode cX7_propose 111 = .ok (.iload_n 1, 1) := by decide +kernel
theorem dX7_propose_112 : decode cX7_propose 112 = .ok (.iconst 0, 1) := by decide +kernel
theorem dX7_propose_113 : decode cX7_propose 113 = .ok (.invokevirtual 72, 3) := by decide +kernel
theorem dX7_propose_116 : decode cX7_propose 116 = .ok (.iload 5, 2) := by decide +kernel
theorem dX7_propose_118 : decode cX7_propose 118 = .ok (.ireturn, 1) := by decide +kernel
theorem dX7_tell_0 : decode cX7_tell 0 = .ok (.iload_n 1, 1) := by decide +kernel
theorem dX7_tell_1 : decode cX7_tell 1 = .ok (.iload_n 2, 1) := by decide +kernel
theorem dX7_tell_2 : decode cX7_tell 2 = .ok (.invokestatic 98, 3) := by decide +kernel
theorem dX7_tell_5 : decode cX7_tell 5 = .ok (.aload_n 0, 1) := by decide +kernel
theorem dX7_tell_6 : decode cX7_tell 6 = .ok (.iload_n 1, 1) := by decide +kernel
theorem dX7_tell_7 : decode cX7_tell 7 = .ok (.invokevirtual 119, 3) := by decide +kernel
theorem dX7_tell_10 : decode cX7_tell 10 = .ok (.aload_n 0, 1) := by decide +kernel
theorem dX7_tell_11 : decode cX7_tell 11 = .ok (.iload_n 1, 1) := by decide +kernel
theorem dX7_tell_12 : decode cX7_tell 12 = .ok (.iload_n 2, 1) := by decide +kernel
theorem dX7_tell_13 : decode cX7_tell 13 = .ok (.invokevirtual 107, 3) := by decide +kernel
theorem dX7_tell_16 : decode cX7_tell 16 = .ok (.aload_n 0, 1) := by decide +kernel
theorem dX7_tell_17 : decode cX7_tell 17 = .ok (.getfield 10, 3) := by decide +kernel
theorem dX7_tell_20 : decode cX7_tell 20 = .ok (.getfield 137, 3) := by decide +kernel
theorem dX7_tell_23 : decode cX7_tell 23 = .ok (.lstore_n 3, 1) := by decide +kernel
theorem dX7_tell_24 : decode cX7_tell 24 = .ok (.aload_n 0, 1) := by decide +kernel
theorem dX7_tell_25 : decode cX7_tell 25 = .ok (.getfield 10, 3) := by decide +kernel
theorem dX7_tell_28 : decode cX7_tell 28 = .ok (.iload_n 1, 1) := by decide +kernel
theorem dX7_tell_29 : decode cX7_tell 29 = .ok (.iload_n 2, 1) := by decide +kernel
theorem dX7_tell_30 : decode cX7_tell 30 = .ok (.invokevirtual 141, 3) := by decide +kernel
theorem dX7_tell_33 : decode cX7_tell 33 = .ok (.istore 5, 2) := by decide +kernel
theorem dX7_tell_35 : decode cX7_tell 35 = .ok (.aload_n 0, 1) := by decide +kernel
theorem dX7_tell_36 : decode cX7_tell 36 = .ok (.getfield 22, 3) := by decide +kernel
theorem dX7_tell_39 : decode cX7_tell 39 = .ok (.iconst 4, 1) := by decide +kernel
theorem dX7_tell_40 : decode cX7_tell 40 = .ok (.iload_n 1, 1) := by decide +kernel
theorem dX7_tell_41 : decode cX7_tell 41 = .ok (.iload_n 2, 1) := by decide +kernel
theorem dX7_tell_42 : decode cX7_tell 42 = .ok (.invokevirtual 72, 3) := by decide +kernel
theorem dX7_tell_45 : decode cX7_tell 45 = .ok (.aload_n 0, 1) := by decide +kernel
theorem dX7_tell_46 : decode cX7_tell 46 = .ok (.lload_n 3, 1) := by decide +kernel
theorem dX7_tell_47 : decode cX7_tell 47 = .ok (.aload_n 0, 1) := by decide +kernel
theorem dX7_tell_48 : decode cX7_tell 48 = .ok (.getfield 10, 3) := by decide +kernel
theorem dX7_tell_51 : decode cX7_tell 51 = .ok (.getfield 137, 3) := by decide +kernel
theorem dX7_tell_54 : decode cX7_tell 54 = .ok (.ldc2_w 145, 3) := by decide +kernel
theorem dX7_tell_57 : decode cX7_tell 57 = .ok (.lxor, 1) := by decide +kernel
theorem dX7_tell_58 : decode cX7_tell 58 = .ok (.land, 1) := by decide +kernel
theorem dX7_tell_59 : decode cX7_tell 59 = .ok (.invokevirtual 147, 3) := by decide +kernel
theorem dX7_tell_62 : decode cX7_tell 62 = .ok (.iload 5, 2) := by decide +kernel
theorem dX7_tell_64 : decode cX7_tell 64 = .ok (.ireturn, 1) := by decide +kernel
theorem dX7_role_0 : decode cX7_role 0 = .ok (.iload_n 1, 1) := by decide +kernel
theorem dX7_role_1 : decode cX7_role 1 = .ok (.invokestatic 82, 3) := by decide +kernel
theorem dX7_role_4 : decode cX7_role 4 = .ok (.aload_n 0, 1) := by decide +kernel
theorem dX7_role_5 : decode cX7_role 5 = .ok (.getfield 10, 3) := by decide +kernel
theorem dX7_role_8 : decode cX7_role 8 = .ok (.getfield 102, 3) := by decide +kernel
theorem dX7_role_11 : decode cX7_role 11 = .ok (.iload_n 1, 1) := by decide +kernel
theorem dX7_role_12 : decode cX7_role 12 = .ok (.iaload, 1) := by decide +kernel
theorem dX7_role_13 : decode cX7_role 13 = .ok (.ireturn, 1) := by decide +kernel
theorem dX7_term_0 : decode cX7_term 0 = .ok (.iload_n 1, 1) := by decide +kernel
theorem dX7_term_1 : decode cX7_term 1 = .ok (.invokestatic 82, 3) := by decide +kernel
theorem dX7_term_4 : decode cX7_term 4 = .ok (.aload_n 0, 1) := by decide +kernel
theorem dX7_term_5 : decode cX7_term 5 = .ok (.getfield 10, 3) := by decide +kernel
theorem dX7_term_8 : decode cX7_term 8 = .ok (.getfield 86, 3) := by decide +kernel
theorem dX7_term_11 : decode cX7_term 11 = .ok (.iload_n 1, 1) := by decide +kernel
theorem dX7_term_12 : decode cX7_term 12 = .ok (.iaload, 1) := by decide +kernel
theorem dX7_term_13 : decode cX7_term 13 = .ok (.ireturn, 1) := by decide +kernel
theorem dX7_votedFor_0 : decode cX7_votedFor 0 = .ok (.iload_n 1, 1) := by decide +kernel
theorem dX7_votedFor_1 : decode cX7_votedFor 1 = .ok (.invokestatic 82, 3) := by decide +kernel
theorem dX7_votedFor_4 : decode cX7_votedFor 4 = .ok (.aload_n 0, 1) := by decide +kernel
theorem dX7_votedFor_5 : decode cX7_votedFor 5 = .ok (.getfield 10, 3) := by decide +kernel
theorem dX7_votedFor_8 : decode cX7_votedFor 8 = .ok (.getfield 151, 3) := by decide +kernel
theorem dX7_votedFor_11 : decode cX7_votedFor 11 = .ok (.iload_n 1, 1) := by decide +kernel
theorem dX7_votedFor_12 : decode cX7_votedFor 12 = .ok (.iaload, 1) := by decide +kernel
theorem dX7_votedFor_13 : decode cX7_votedFor 13 = .ok (.ireturn, 1) := by decide +kernel
theorem dX7_reach_0 : decode cX7_reach 0 = .ok (.iload_n 1, 1) := by decide +kernel
theorem dX7_reach_1 : decode cX7_reach 1 = .ok (.invokestatic 82, 3) := by decide +kernel
theorem dX7_reach_4 : decode cX7_reach 4 = .ok (.iload_n 2, 1) := by decide +kernel
theorem dX7_reach_5 : decode cX7_reach 5 = .ok (.invokestatic 82, 3) := by decide +kernel
theorem dX7_reach_8 : decode cX7_reach 8 = .ok (.aload_n 0, 1) := by decide +kernel
theorem dX7_reach_9 : decode cX7_reach 9 = .ok (.getfield 10, 3) := by decide +kernel
theorem dX7_reach_12 : decode cX7_reach 12 = .ok (.iload_n 1, 1) := by decide +kernel
theorem dX7_reach_13 : decode cX7_reach 13 = .ok (.iload_n 2, 1) := by decide +kernel
theorem dX7_reach_14 : decode cX7_reach 14 = .ok (.invokevirtual 154, 3) := by decide +kernel
theorem dX7_reach_17 : decode cX7_reach 17 = .ok (.ireturn, 1) := by decide +kernel
theorem dX7_entries_0 : decode cX7_entries 0 = .ok (.iload_n 1, 1) := by decide +kernel
theorem dX7_entries_1 : decode cX7_entries 1 = .ok (.invokestatic 82, 3) := by decide +kernel
theorem dX7_entries_4 : decode cX7_entries 4 = .ok (.aload_n 0, 1) := by decide +kernel
theorem dX7_entries_5 : decode cX7_entries 5 = .ok (.getfield 10, 3) := by decide +kernel
theorem dX7_entries_8 : decode cX7_entries 8 = .ok (.getfield 122, 3) := by decide +kernel
theorem dX7_entries_11 : decode cX7_entries 11 = .ok (.iload_n 1, 1) := by decide +kernel
theorem dX7_entries_12 : decode cX7_entries 12 = .ok (.iaload, 1) := by decide +kernel
theorem dX7_entries_13 : decode cX7_entries 13 = .ok (.ireturn, 1) := by decide +kernel
theorem dX7_versionAt_0 : decode cX7_versionAt 0 = .ok (.iload_n 1, 1) := by decide +kernel
theorem dX7_versionAt_1 : decode cX7_versionAt 1 = .ok (.invokestatic 82, 3) := by decide +kernel
theorem dX7_versionAt_4 : decode cX7_versionAt 4 = .ok (.iload_n 2, 1) := by decide +kernel
theorem dX7_versionAt_5 : decode cX7_versionAt 5 = .ok (.ifCond .lt 16, 3) := by decide +kernel
theorem dX7_versionAt_8 : decode cX7_versionAt 8 = .ok (.iload_n 2, 1) := by decide +kernel
theorem dX7_versionAt_9 : decode cX7_versionAt 9 = .ok (.aload_n 0, 1) := by decide +kernel
theorem dX7_versionAt_10 : decode cX7_versionAt 10 = .ok (.getfield 10, 3) := by decide +kernel
theorem dX7_versionAt_13 : decode cX7_versionAt 13 = .ok (.getfield 122, 3) := by decide +kernel
theorem dX7_versionAt_16 : decode cX7_versionAt 16 = .ok (.iload_n 1, 1) := by decide +kernel
theorem dX7_versionAt_17 : decode cX7_versionAt 17 = .ok (.iaload, 1) := by decide +kernel
theorem dX7_versionAt_18 : decode cX7_versionAt 18 = .ok (.if_icmp .lt 13, 3) := by decide +kernel
theorem dX7_versionAt_21 : decode cX7_versionAt 21 = .ok (.new 157, 3) := by decide +kernel
theorem dX7_versionAt_24 : decode cX7_versionAt 24 = .ok (.dup, 1) := by decide +kernel
theorem dX7_versionAt_25 : decode cX7_versionAt 25 = .ok (.ldc 159, 2) := by decide +kernel
theorem dX7_versionAt_27 : decode cX7_versionAt 27 = .ok (.invokespecial 161, 3) := by decide +kernel
theorem dX7_versionAt_30 : decode cX7_versionAt 30 = .ok (.athrow, 1) := by decide +kernel
theorem dX7_versionAt_31 : decode cX7_versionAt 31 = .ok (.aload_n 0, 1) := by decide +kernel
theorem dX7_versionAt_32 : decode cX7_versionAt 32 = .ok (.getfield 10, 3) := by decide +kernel
theorem dX7_versionAt_35 : decode cX7_versionAt 35 = .ok (.getfield 162, 3) := by decide +kernel
theorem dX7_versionAt_38 : decode cX7_versionAt 38 = .ok (.iload_n 1, 1) := by decide +kernel
theorem dX7_versionAt_39 : decode cX7_versionAt 39 = .ok (.aaload, 1) := by decide +kernel
theorem dX7_versionAt_40 : decode cX7_versionAt 40 = .ok (.iload_n 2, 1) := by decide +kernel
theorem dX7_versionAt_41 : decode cX7_versionAt 41 = .ok (.iaload, 1) := by decide +kernel
theorem dX7_versionAt_42 : decode cX7_versionAt 42 = .ok (.ireturn, 1) := by decide +kernel
theorem dX7_versions_0 : decode cX7_versions 0 = .ok (.aload_n 0, 1) := by decide +kernel
theorem dX7_versions_1 : decode cX7_versions 1 = .ok (.getfield 10, 3) := by decide +kernel
theorem dX7_versions_4 : decode cX7_versions 4 = .ok (.getfield 125, 3) := by decide +kernel
theorem dX7_versions_7 : decode cX7_versions 7 = .ok (.ireturn, 1) := by decide +kernel
theorem dX7_termOf_0 : decode cX7_termOf 0 = .ok (.aload_n 0, 1) := by decide +kernel
theorem dX7_termOf_1 : decode cX7_termOf 1 = .ok (.iload_n 1, 1) := by decide +kernel
theorem dX7_termOf_2 : decode cX7_termOf 2 = .ok (.invokevirtual 166, 3) := by decide +kernel
theorem dX7_termOf_5 : decode cX7_termOf 5 = .ok (.aload_n 0, 1) := by decide +kernel
theorem dX7_termOf_6 : decode cX7_termOf 6 = .ok (.getfield 10, 3) := by decide +kernel
theorem dX7_termOf_9 : decode cX7_termOf 9 = .ok (.getfield 169, 3) := by decide +kernel
theorem dX7_termOf_12 : decode cX7_termOf 12 = .ok (.iload_n 1, 1) := by decide +kernel
theorem dX7_termOf_13 : decode cX7_termOf 13 = .ok (.iaload, 1) := by decide +kernel
theorem dX7_termOf_14 : decode cX7_termOf 14 = .ok (.ireturn, 1) := by decide +kernel
theorem dX7_holders_0 : decode cX7_holders 0 = .ok (.aload_n 0, 1) := by decide +kernel
theorem dX7_holders_1 : decode cX7_holders 1 = .ok (.iload_n 1, 1) := by decide +kernel
theorem dX7_holders_2 : decode cX7_holders 2 = .ok (.invokevirtual 166, 3) := by decide +kernel
theorem dX7_holders_5 : decode cX7_holders 5 = .ok (.aload_n 0, 1) := by decide +kernel
theorem dX7_holders_6 : decode cX7_holders 6 = .ok (.getfield 10, 3) := by decide +kernel
theorem dX7_holders_9 : decode cX7_holders 9 = .ok (.getfield 172, 3) := by decide +kernel
theorem dX7_holders_12 : decode cX7_holders 12 = .ok (.iload_n 1, 1) := by decide +kernel
theorem dX7_holders_13 : decode cX7_holders 13 = .ok (.iaload, 1) := by decide +kernel
theorem dX7_holders_14 : decode cX7_holders 14 = .ok (.ireturn, 1) := by decide +kernel
theorem dX7_isHeld_0 : decode cX7_isHeld 0 = .ok (.aload_n 0, 1) := by decide +kernel
theorem dX7_isHeld_1 : decode cX7_isHeld 1 = .ok (.iload_n 1, 1) := by decide +kernel
theorem dX7_isHeld_2 : decode cX7_isHeld 2 = .ok (.invokevirtual 166, 3) := by decide +kernel
theorem dX7_isHeld_5 : decode cX7_isHeld 5 = .ok (.aload_n 0, 1) := by decide +kernel
theorem dX7_isHeld_6 : decode cX7_isHeld 6 = .ok (.getfield 10, 3) := by decide +kernel
theorem dX7_isHeld_9 : decode cX7_isHeld 9 = .ok (.getfield 137, 3) := by decide +kernel
theorem dX7_isHeld_12 : decode cX7_isHeld 12 = .ok (.iload_n 1, 1) := by decide +kernel
theorem dX7_isHeld_13 : decode cX7_isHeld 13 = .ok (.invokestatic 175, 3) := by decide +kernel
theorem dX7_isHeld_16 : decode cX7_isHeld 16 = .ok (.ireturn, 1) := by decide +kernel
theorem dX7_wasHeld_0 : decode cX7_wasHeld 0 = .ok (.aload_n 0, 1) := by decide +kernel
theorem dX7_wasHeld_1 : decode cX7_wasHeld 1 = .ok (.iload_n 1, 1) := by decide +kernel
theorem dX7_wasHeld_2 : decode cX7_wasHeld 2 = .ok (.invokevirtual 166, 3) := by decide +kernel
theorem dX7_wasHeld_5 : decode cX7_wasHeld 5 = .ok (.aload_n 0, 1) := by decide +kernel
theorem dX7_wasHeld_6 : decode cX7_wasHeld 6 = .ok (.getfield 10, 3) := by decide +kernel
theorem dX7_wasHeld_9 : decode cX7_wasHeld 9 = .ok (.getfield 179, 3) := by decide +kernel
theorem dX7_wasHeld_12 : decode cX7_wasHeld 12 = .ok (.iload_n 1, 1) := by decide +kernel
theorem dX7_wasHeld_13 : decode cX7_wasHeld 13 = .ok (.invokestatic 175, 3) := by decide +kernel
theorem dX7_wasHeld_16 : decode cX7_wasHeld 16 = .ok (.ireturn, 1) := by decide +kernel
theorem dX7_current_0 : decode cX7_current 0 = .ok (.iload_n 1, 1) := by decide +kernel
theorem dX7_current_1 : decode cX7_current 1 = .ok (.invokestatic 82, 3) := by decide +kernel
theorem dX7_current_4 : decode cX7_current 4 = .ok (.iload_n 2, 1) := by decide +kernel
theorem dX7_current_5 : decode cX7_current 5 = .ok (.invokestatic 114, 3) := by decide +kernel
theorem dX7_current_8 : decode cX7_current 8 = .ok (.aload_n 0, 1) := by decide +kernel
theorem dX7_current_9 : decode cX7_current 9 = .ok (.iload_n 1, 1) := by decide +kernel
theorem dX7_current_10 : decode cX7_current 10 = .ok (.iload_n 2, 1) := by decide +kernel
theorem dX7_current_11 : decode cX7_current 11 = .ok (.invokevirtual 182, 3) := by decide +kernel
theorem dX7_current_14 : decode cX7_current 14 = .ok (.ireturn, 1) := by decide +kernel
theorem dX7_addLot_0 : decode cX7_addLot 0 = .ok (.aload_n 0, 1) := by decide +kernel
theorem dX7_addLot_1 : decode cX7_addLot 1 = .ok (.getfield 36, 3) := by decide +kernel
theorem dX7_addLot_4 : decode cX7_addLot 4 = .ok (.getfield 185, 3) := by decide +kernel
theorem dX7_addLot_7 : decode cX7_addLot 7 = .ok (.bipush 16, 2) := by decide +kernel
theorem dX7_addLot_9 : decode cX7_addLot 9 = .ok (.if_icmp .lt 13, 3) := by decide +kernel
theorem dX7_addLot_12 : decode cX7_addLot 12 = .ok (.new 90, 3) := by decide +kernel
theorem dX7_addLot_15 : decode cX7_addLot 15 = .ok (.dup, 1) := by decide +kernel
theorem dX7_addLot_16 : decode cX7_addLot 16 = .ok (.ldc 188, 2) := by decide +kernel
theorem dX7_addLot_18 : decode cX7_addLot 18 = .ok (.invokespecial 94, 3) := by decide +kernel
theorem dX7_addLot_21 : decode cX7_addLot 21 = .ok (.athrow, 1) := by decide +kernel
theorem dX7_addLot_22 : decode cX7_addLot 22 = .ok (.aload_n 0, 1) := by decide +kernel
theorem dX7_addLot_23 : decode cX7_addLot 23 = .ok (.getfield 36, 3) := by decide +kernel
theorem dX7_addLot_26 : decode cX7_addLot 26 = .ok (.dup, 1) := by decide +kernel
theorem dX7_addLot_27 : decode cX7_addLot 27 = .ok (.getfield 185, 3) := by decide +kernel
theorem dX7_addLot_30 : decode cX7_addLot 30 = .ok (.iconst 1, 1) := by decide +kernel
theorem dX7_addLot_31 : decode cX7_addLot 31 = .ok (.iadd, 1) := by decide +kernel
theorem dX7_addLot_32 : decode cX7_addLot 32 = .ok (.putfield 185, 3) := by decide +kernel
theorem dX7_addLot_35 : decode cX7_addLot 35 = .ok (.aload_n 0, 1) := by decide +kernel
theorem dX7_addLot_36 : decode cX7_addLot 36 = .ok (.getfield 36, 3) := by decide +kernel
theorem dX7_addLot_39 : decode cX7_addLot 39 = .ok (.getfield 185, 3) := by decide +kernel
theorem dX7_addLot_42 : decode cX7_addLot 42 = .ok (.iconst 1, 1) := by decide +kernel
theorem dX7_addLot_43 : decode cX7_addLot 43 = .ok (.isub, 1) := by decide +kernel
theorem dX7_addLot_44 : decode cX7_addLot 44 = .ok (.ireturn, 1) := by decide +kernel
theorem dX7_deliver_0 : decode cX7_deliver 0 = .ok (.iload_n 1, 1) := by decide +kernel
theorem dX7_deliver_1 : decode cX7_deliver 1 = .ok (.invokestatic 82, 3) := by decide +kernel
theorem dX7_deliver_4 : decode cX7_deliver 4 = .ok (.aload_n 0, 1) := by decide +kernel
theorem dX7_deliver_5 : decode cX7_deliver 5 = .ok (.iload_n 2, 1) := by decide +kernel
theorem dX7_deliver_6 : decode cX7_deliver 6 = .ok (.invokevirtual 190, 3) := by decide +kernel
theorem dX7_deliver_9 : decode cX7_deliver 9 = .ok (.iload_n 3, 1) := by decide +kernel
theorem dX7_deliver_10 : decode cX7_deliver 10 = .ok (.iconst 1, 1) := by decide +kernel
theorem dX7_deliver_11 : decode cX7_deliver 11 = .ok (.if_icmp .lt 9, 3) := by decide +kernel
theorem dX7_deliver_14 : decode cX7_deliver 14 = .ok (.iload_n 3, 1) := by decide +kernel
theorem dX7_deliver_15 : decode cX7_deliver 15 = .ok (.bipush 50, 2) := by decide +kernel
theorem dX7_deliver_17 : decode cX7_deliver 17 = .ok (.if_icmp .le 13, 3) := by decide +kernel
theorem dX7_deliver_20 : decode cX7_deliver 20 = .ok (.new 61, 3) := by decide +kernel
theorem dX7_deliver_23 : decode cX7_deliver 23 = .ok (.dup, 1) := by decide +kernel
theorem dX7_deliver_24 : decode cX7_deliver 24 = .ok (.ldc 193, 2) := by decide +kernel
theorem dX7_deliver_26 : decode cX7_deliver 26 = .ok (.invokespecial 65, 3) := by decide +kernel
theorem dX7_deliver_29 : decode cX7_deliver 29 = .ok (.athrow, 1) := by decide +kernel
theorem dX7_deliver_30 : decode cX7_deliver 30 = .ok (.aload_n 0, 1) := by decide +kernel
theorem dX7_deliver_31 : decode cX7_deliver 31 = .ok (.iload_n 2, 1) := by decide +kernel
theorem dX7_deliver_32 : decode cX7_deliver 32 = .ok (.invokevirtual 195, 3) := by decide +kernel
theorem dX7_deliver_35 : decode cX7_deliver 35 = .ok (.aload_n 0, 1) := by decide +kernel
theorem dX7_deliver_36 : decode cX7_deliver 36 = .ok (.getfield 36, 3) := by decide +kernel
theorem dX7_deliver_39 : decode cX7_deliver 39 = .ok (.getfield 198, 3) := by decide +kernel
theorem dX7_deliver_42 : decode cX7_deliver 42 = .ok (.iload_n 1, 1) := by decide +kernel
theorem dX7_deliver_43 : decode cX7_deliver 43 = .ok (.iaload, 1) := by decide +kernel
theorem dX7_deliver_44 : decode cX7_deliver 44 = .ok (.iload_n 3, 1) := by decide +kernel
theorem dX7_deliver_45 : decode cX7_deliver 45 = .ok (.iadd, 1) := by decide +kernel
theorem dX7_deliver_46 : decode cX7_deliver 46 = .ok (.sipush 200, 3) := by decide +kernel
theorem dX7_deliver_49 : decode cX7_deliver 49 = .ok (.if_icmp .le 13, 3) := by decide +kernel
theorem dX7_deliver_52 : decode cX7_deliver 52 = .ok (.new 90, 3) := by decide +kernel
theorem dX7_deliver_55 : decode cX7_deliver 55 = .ok (.dup, 1) := by decide +kernel
theorem dX7_deliver_56 : decode cX7_deliver 56 = .ok (.ldc 201, 2) := by decide +kernel
theorem dX7_deliver_58 : decode cX7_deliver 58 = .ok (.invokespecial 94, 3) := by decide +kernel
theorem dX7_deliver_61 : decode cX7_deliver 61 = .ok (.athrow, 1) := by decide +kernel
theorem dX7_deliver_62 : decode cX7_deliver 62 = .ok (.aload_n 0, 1) := by decide +kernel
theorem dX7_deliver_63 : decode cX7_deliver 63 = .ok (.getfield 36, 3) := by decide +kernel
theorem dX7_deliver_66 : decode cX7_deliver 66 = .ok (.iload_n 1, 1) := by decide +kernel
theorem dX7_deliver_67 : decode cX7_deliver 67 = .ok (.iload_n 2, 1) := by decide +kernel
theorem dX7_deliver_68 : decode cX7_deliver 68 = .ok (.iload_n 3, 1) := by decide +kernel
theorem dX7_deliver_69 : decode cX7_deliver 69 = .ok (.invokevirtual 203, 3) := by decide +kernel
theorem dX7_deliver_72 : decode cX7_deliver 72 = .ok (.aload_n 0, 1) := by decide +kernel
theorem dX7_deliver_73 : decode cX7_deliver 73 = .ok (.getfield 36, 3) := by decide +kernel
theorem dX7_deliver_76 : decode cX7_deliver 76 = .ok (.getfield 198, 3) := by decide +kernel
theorem dX7_deliver_79 : decode cX7_deliver 79 = .ok (.iload_n 1, 1) := by decide +kernel
theorem dX7_deliver_80 : decode cX7_deliver 80 = .ok (.iaload, 1) := by decide +kernel
theorem dX7_deliver_81 : decode cX7_deliver 81 = .ok (.ireturn, 1) := by decide +kernel
theorem dX7_condemn_0 : decode cX7_condemn 0 = .ok (.aload_n 0, 1) := by decide +kernel
theorem dX7_condemn_1 : decode cX7_condemn 1 = .ok (.iload_n 1, 1) := by decide +kernel
theorem dX7_condemn_2 : decode cX7_condemn 2 = .ok (.invokevirtual 190, 3) := by decide +kernel
theorem dX7_condemn_5 : decode cX7_condemn 5 = .ok (.aload_n 0, 1) := by decide +kernel
theorem dX7_condemn_6 : decode cX7_condemn 6 = .ok (.iload_n 1, 1) := by decide +kernel
theorem dX7_condemn_7 : decode cX7_condemn 7 = .ok (.invokevirtual 195, 3) := by decide +kernel
theorem dX7_condemn_10 : decode cX7_condemn 10 = .ok (.aload_n 0, 1) := by decide +kernel
theorem dX7_condemn_11 : decode cX7_condemn 11 = .ok (.getfield 36, 3) := by decide +kernel
theorem dX7_condemn_14 : decode cX7_condemn 14 = .ok (.iload_n 1, 1) := by decide +kernel
theorem dX7_condemn_15 : decode cX7_condemn 15 = .ok (.invokevirtual 206, 3) := by decide +kernel
theorem dX7_condemn_18 : decode cX7_condemn 18 = .ok (.aload_n 0, 1) := by decide +kernel
theorem dX7_condemn_19 : decode cX7_condemn 19 = .ok (.iload_n 1, 1) := by decide +kernel
theorem dX7_condemn_20 : decode cX7_condemn 20 = .ok (.invokevirtual 209, 3) := by decide +kernel
theorem dX7_condemn_23 : decode cX7_condemn 23 = .ok (.ireturn, 1) := by decide +kernel
theorem dX7_store_0 : decode cX7_store 0 = .ok (.iload_n 1, 1) := by decide +kernel
theorem dX7_store_1 : decode cX7_store 1 = .ok (.invokestatic 82, 3) := by decide +kernel
theorem dX7_store_4 : decode cX7_store 4 = .ok (.aload_n 0, 1) := by decide +kernel
theorem dX7_store_5 : decode cX7_store 5 = .ok (.getfield 36, 3) := by decide +kernel
theorem dX7_store_8 : decode cX7_store 8 = .ok (.getfield 198, 3) := by decide +kernel
theorem dX7_store_11 : decode cX7_store 11 = .ok (.iload_n 1, 1) := by decide +kernel
theorem dX7_store_12 : decode cX7_store 12 = .ok (.iaload, 1) := by decide +kernel
theorem dX7_store_13 : decode cX7_store 13 = .ok (.ireturn, 1) := by decide +kernel
theorem dX7_book_0 : decode cX7_book 0 = .ok (.iload_n 1, 1) := by decide +kernel
theorem dX7_book_1 : decode cX7_book 1 = .ok (.invokestatic 82, 3) := by decide +kernel
theorem dX7_book_4 : decode cX7_book 4 = .ok (.iload_n 3, 1) := by decide +kernel
theorem dX7_book_5 : decode cX7_book 5 = .ok (.invokestatic 114, 3) := by decide +kernel
theorem dX7_book_8 : decode cX7_book 8 = .ok (.aload_n 0, 1) := by decide +kernel
theorem dX7_book_9 : decode cX7_book 9 = .ok (.iload_n 2, 1) := by decide +kernel
theorem dX7_book_10 : decode cX7_book 10 = .ok (.invokevirtual 212, 3) := by decide +kernel
theorem dX7_book_13 : decode cX7_book 13 = .ok (.aload_n 0, 1) := by decide +kernel
theorem dX7_book_14 : decode cX7_book 14 = .ok (.getfield 43, 3) := by decide +kernel
theorem dX7_book_17 : decode cX7_book 17 = .ok (.iload_n 1, 1) := by decide +kernel
theorem dX7_book_18 : decode cX7_book 18 = .ok (.iload_n 2, 1) := by decide +kernel
theorem dX7_book_19 : decode cX7_book 19 = .ok (.invokevirtual 215, 3) := by decide +kernel
theorem dX7_book_22 : decode cX7_book 22 = .ok (.iconst (-1), 1) := by decide +kernel
theorem dX7_book_23 : decode cX7_book 23 = .ok (.if_icmp .eq 13, 3) := by decide +kernel
theorem dX7_book_26 : decode cX7_book 26 = .ok (.new 90, 3) := by decide +kernel
theorem dX7_book_29 : decode cX7_book 29 = .ok (.dup, 1) := by decide +kernel
theorem dX7_book_30 : decode cX7_book 30 = .ok (.ldc 218, 2) := by decide +kernel
theorem dX7_book_32 : decode cX7_book 32 = .ok (.invokespecial 94, 3) := by decide +kernel
theorem dX7_book_35 : decode cX7_book 35 = .ok (.athrow, 1) := by decide +kernel
theorem dX7_book_36 : decode cX7_book 36 = .ok (.aload_n 0, 1) := by decide +kernel
theorem dX7_book_37 : decode cX7_book 37 = .ok (.iload_n 1, 1) := by decide +kernel
theorem dX7_book_38 : decode cX7_book 38 = .ok (.iload_n 2, 1) := by decide +kernel
theorem dX7_book_39 : decode cX7_book 39 = .ok (.iload_n 3, 1) := by decide +kernel
theorem dX7_book_40 : decode cX7_book 40 = .ok (.invokevirtual 220, 3) := by decide +kernel
theorem dX7_book_43 : decode cX7_book 43 = .ok (.ireturn, 1) := by decide +kernel
theorem dX7_booked_0 : decode cX7_booked 0 = .ok (.iload_n 1, 1) := by decide +kernel
theorem dX7_booked_1 : decode cX7_booked 1 = .ok (.invokestatic 82, 3) := by decide +kernel
theorem dX7_booked_4 : decode cX7_booked 4 = .ok (.aload_n 0, 1) := by decide +kernel
theorem dX7_booked_5 : decode cX7_booked 5 = .ok (.iload_n 2, 1) := by decide +kernel
theorem dX7_booked_6 : decode cX7_booked 6 = .ok (.invokevirtual 212, 3) := by decide +kernel
theorem dX7_booked_9 : decode cX7_booked 9 = .ok (.aload_n 0, 1) := by decide +kernel
theorem dX7_booked_10 : decode cX7_booked 10 = .ok (.getfield 43, 3) := by decide +kernel
theorem dX7_booked_13 : decode cX7_booked 13 = .ok (.iload_n 1, 1) := by decide +kernel
theorem dX7_booked_14 : decode cX7_booked 14 = .ok (.iload_n 2, 1) := by decide +kernel
theorem dX7_booked_15 : decode cX7_booked 15 = .ok (.invokevirtual 215, 3) := by decide +kernel
theorem dX7_booked_18 : decode cX7_booked 18 = .ok (.ireturn, 1) := by decide +kernel
theorem dX7_stopped_0 : decode cX7_stopped 0 = .ok (.iconst 0, 1) := by decide +kernel
theorem dX7_stopped_1 : decode cX7_stopped 1 = .ok (.istore_n 1, 1) := by decide +kernel
theorem dX7_stopped_2 : decode cX7_stopped 2 = .ok (.iconst 0, 1) := by decide +kernel
theorem dX7_stopped_3 : decode cX7_stopped 3 = .ok (.istore_n 2, 1) := by decide +kernel
theorem dX7_stopped_4 : decode cX7_stopped 4 = .ok (.iload_n 2, 1) := by decide +kernel
theorem dX7_stopped_5 : decode cX7_stopped 5 = .ok (.iconst 5, 1) := by decide +kernel
theorem dX7_stopped_6 : decode cX7_stopped 6 = .ok (.if_icmp .ge 66, 3) := by decide +kernel
theorem dX7_stopped_9 : decode cX7_stopped 9 = .ok (.iconst 0, 1) := by decide +kernel
theorem dX7_stopped_10 : decode cX7_stopped 10 = .ok (.istore_n 3, 1) := by decide +kernel
theorem dX7_stopped_11 : decode cX7_stopped 11 = .ok (.iload_n 3, 1) := by decide +kernel
theorem dX7_stopped_12 : decode cX7_stopped 12 = .ok (.bipush 50, 2) := by decide +kernel
theorem dX7_stopped_14 : decode cX7_stopped 14 = .ok (.if_icmp .gt 52, 3) := by decide +kernel
theorem dX7_stopped_17 : decode cX7_stopped 17 = .ok (.aload_n 0, 1) := by decide +kernel
theorem dX7_stopped_18 : decode cX7_stopped 18 = .ok (.getfield 43, 3) := by decide +kernel
theorem dX7_stopped_21 : decode cX7_stopped 21 = .ok (.iload_n 2, 1) := by decide +kernel
theorem dX7_stopped_22 : decode cX7_stopped 22 = .ok (.aload_n 0, 1) := by decide +kernel
theorem dX7_stopped_23 : decode cX7_stopped 23 = .ok (.getfield 43, 3) := by decide +kernel
theorem dX7_stopped_26 : decode cX7_stopped 26 = .ok (.getfield 233, 3) := by decide +kernel
theorem dX7_stopped_29 : decode cX7_stopped 29 = .ok (.iload_n 3, 1) := by decide +kernel
theorem dX7_stopped_30 : decode cX7_stopped 30 = .ok (.iadd, 1) := by decide +kernel
theorem dX7_stopped_31 : decode cX7_stopped 31 = .ok (.invokevirtual 215, 3) := by decide +kernel
theorem dX7_stopped_34 : decode cX7_stopped 34 = .ok (.istore 4, 2) := by decide +kernel
theorem dX7_stopped_36 : decode cX7_stopped 36 = .ok (.iload 4, 2) := by decide +kernel
theorem dX7_stopped_38 : decode cX7_stopped 38 = .ok (.iconst (-1), 1) := by decide +kernel
theorem dX7_stopped_39 : decode cX7_stopped 39 = .ok (.if_icmp .eq 21, 3) := by decide +kernel
theorem dX7_stopped_42 : decode cX7_stopped 42 = .ok (.aload_n 0, 1) := by decide +kernel
theorem dX7_stopped_43 : decode cX7_stopped 43 = .ok (.getfield 10, 3) := by decide +kernel
theorem dX7_stopped_46 : decode cX7_stopped 46 = .ok (.getfield 137, 3) := by decide +kernel
theorem dX7_stopped_49 : decode cX7_stopped 49 = .ok (.iload 4, 2) := by decide +kernel
theorem dX7_stopped_51 : decode cX7_stopped 51 = .ok (.invokestatic 175, 3) := by decide +kernel
theorem dX7_stopped_54 : decode cX7_stopped 54 = .ok (.ifCond .ne 6, 3) := by decide +kernel
theorem dX7_stopped_57 : decode cX7_stopped 57 = .ok (.iinc 1 1, 3) := by decide +kernel
theorem dX7_stopped_60 : decode cX7_stopped 60 = .ok (.iinc 3 1, 3) := by decide +kernel
theorem dX7_stopped_63 : decode cX7_stopped 63 = .ok (.goto (-52), 3) := by decide +kernel
theorem dX7_stopped_66 : decode cX7_stopped 66 = .ok (.iinc 2 1, 3) := by decide +kernel
theorem dX7_stopped_69 : decode cX7_stopped 69 = .ok (.goto (-65), 3) := by decide +kernel
theorem dX7_stopped_72 : decode cX7_stopped 72 = .ok (.iload_n 1, 1) := by decide +kernel
theorem dX7_stopped_73 : decode cX7_stopped 73 = .ok (.ireturn, 1) := by decide +kernel
theorem dX7_pass_0 : decode cX7_pass 0 = .ok (.iload_n 1, 1) := by decide +kernel
theorem dX7_pass_1 : decode cX7_pass 1 = .ok (.iconst 1, 1) := by decide +kernel
theorem dX7_pass_2 : decode cX7_pass 2 = .ok (.if_icmp .lt 9, 3) := by decide +kernel
theorem dX7_pass_5 : decode cX7_pass 5 = .ok (.iload_n 1, 1) := by decide +kernel
theorem dX7_pass_6 : decode cX7_pass 6 = .ok (.bipush 50, 2) := by decide +kernel
theorem dX7_pass_8 : decode cX7_pass 8 = .ok (.if_icmp .le 13, 3) := by decide +kernel
theorem dX7_pass_11 : decode cX7_pass 11 = .ok (.new 61, 3) := by decide +kernel
theorem dX7_pass_14 : decode cX7_pass 14 = .ok (.dup, 1) := by decide +kernel
theorem dX7_pass_15 : decode cX7_pass 15 = .ok (.ldc 236, 2) := by decide +kernel
theorem dX7_pass_17 : decode cX7_pass 17 = .ok (.invokespecial 65, 3) := by decide +kernel
theorem dX7_pass_20 : decode cX7_pass 20 = .ok (.athrow, 1) := by decide +kernel
theorem dX7_pass_21 : decode cX7_pass 21 = .ok (.aload_n 0, 1) := by decide +kernel
theorem dX7_pass_22 : decode cX7_pass 22 = .ok (.getfield 43, 3) := by decide +kernel
theorem dX7_pass_25 : decode cX7_pass 25 = .ok (.getfield 233, 3) := by decide +kernel
theorem dX7_pass_28 : decode cX7_pass 28 = .ok (.iload_n 1, 1) := by decide +kernel
theorem dX7_pass_29 : decode cX7_pass 29 = .ok (.iadd, 1) := by decide +kernel
theorem dX7_pass_30 : decode cX7_pass 30 = .ok (.sipush 1000, 3) := by decide +kernel
theorem dX7_pass_33 : decode cX7_pass 33 = .ok (.if_icmp .le 13, 3) := by decide +kernel
theorem dX7_pass_36 : decode cX7_pass 36 = .ok (.new 90, 3) := by decide +kernel
theorem dX7_pass_39 : decode cX7_pass 39 = .ok (.dup, 1) := by decide +kernel
theorem dX7_pass_40 : decode cX7_pass 40 = .ok (.ldc 238, 2) := by decide +kernel
theorem dX7_pass_42 : decode cX7_pass 42 = .ok (.invokespecial 94, 3) := by decide +kernel
theorem dX7_pass_45 : decode cX7_pass 45 = .ok (.athrow, 1) := by decide +kernel
theorem dX7_pass_46 : decode cX7_pass 46 = .ok (.iconst 0, 1) := by decide +kernel
theorem dX7_pass_47 : decode cX7_pass 47 = .ok (.istore_n 2, 1) := by decide +kernel
theorem dX7_pass_48 : decode cX7_pass 48 = .ok (.iconst 0, 1) := by decide +kernel
theorem dX7_pass_49 : decode cX7_pass 49 = .ok (.istore_n 3, 1) := by decide +kernel
theorem dX7_pass_50 : decode cX7_pass 50 = .ok (.iload_n 3, 1) := by decide +kernel
theorem dX7_pass_51 : decode cX7_pass 51 = .ok (.iload_n 1, 1) := by decide +kernel
theorem dX7_pass_52 : decode cX7_pass 52 = .ok (.if_icmp .ge 16, 3) := by decide +kernel
theorem dX7_pass_55 : decode cX7_pass 55 = .ok (.iload_n 2, 1) := by decide +kernel
theorem dX7_pass_56 : decode cX7_pass 56 = .ok (.aload_n 0, 1) := by decide +kernel
theorem dX7_pass_57 : decode cX7_pass 57 = .ok (.invokevirtual 240, 3) := by decide +kernel
theorem dX7_pass_60 : decode cX7_pass 60 = .ok (.iadd, 1) := by decide +kernel
theorem dX7_pass_61 : decode cX7_pass 61 = .ok (.istore_n 2, 1) := by decide +kernel
theorem dX7_pass_62 : decode cX7_pass 62 = .ok (.iinc 3 1, 3) := by decide +kernel
theorem dX7_pass_65 : decode cX7_pass 65 = .ok (.goto (-15), 3) := by decide +kernel
theorem dX7_pass_68 : decode cX7_pass 68 = .ok (.iload_n 2, 1) := by decide +kernel
theorem dX7_pass_69 : decode cX7_pass 69 = .ok (.ireturn, 1) := by decide +kernel
theorem dX7_time_0 : decode cX7_time 0 = .ok (.aload_n 0, 1) := by decide +kernel
theorem dX7_time_1 : decode cX7_time 1 = .ok (.getfield 43, 3) := by decide +kernel
theorem dX7_time_4 : decode cX7_time 4 = .ok (.getfield 233, 3) := by decide +kernel
theorem dX7_time_7 : decode cX7_time 7 = .ok (.ireturn, 1) := by decide +kernel
theorem dX7_batches_0 : decode cX7_batches 0 = .ok (.aload_n 0, 1) := by decide +kernel
theorem dX7_batches_1 : decode cX7_batches 1 = .ok (.getfield 50, 3) := by decide +kernel
theorem dX7_batches_4 : decode cX7_batches 4 = .ok (.getfield 247, 3) := by decide +kernel
theorem dX7_batches_7 : decode cX7_batches 7 = .ok (.ireturn, 1) := by decide +kernel
theorem dX7_versionOf_0 : decode cX7_versionOf 0 = .ok (.aload_n 0, 1) := by decide +kernel
theorem dX7_versionOf_1 : decode cX7_versionOf 1 = .ok (.iload_n 1, 1) := by decide +kernel
theorem dX7_versionOf_2 : decode cX7_versionOf 2 = .ok (.invokevirtual 250, 3) := by decide +kernel
theorem dX7_versionOf_5 : decode cX7_versionOf 5 = .ok (.aload_n 0, 1) := by decide +kernel
theorem dX7_versionOf_6 : decode cX7_versionOf 6 = .ok (.getfield 50, 3) := by decide +kernel
theorem dX7_versionOf_9 : decode cX7_versionOf 9 = .ok (.getfield 253, 3) := by decide +kernel
theorem dX7_versionOf_12 : decode cX7_versionOf 12 = .ok (.iload_n 1, 1) := by decide +kernel
theorem dX7_versionOf_13 : decode cX7_versionOf 13 = .ok (.iaload, 1) := by decide +kernel
theorem dX7_versionOf_14 : decode cX7_versionOf 14 = .ok (.ireturn, 1) := by decide +kernel
theorem dX7_lotsOf_0 : decode cX7_lotsOf 0 = .ok (.aload_n 0, 1) := by decide +kernel
theorem dX7_lotsOf_1 : decode cX7_lotsOf 1 = .ok (.iload_n 1, 1) := by decide +kernel
theorem dX7_lotsOf_2 : decode cX7_lotsOf 2 = .ok (.invokevirtual 250, 3) := by decide +kernel
theorem dX7_lotsOf_5 : decode cX7_lotsOf 5 = .ok (.aload_n 0, 1) := by decide +kernel
theorem dX7_lotsOf_6 : decode cX7_lotsOf 6 = .ok (.getfield 50, 3) := by decide +kernel
theorem dX7_lotsOf_9 : decode cX7_lotsOf 9 = .ok (.getfield 256, 3) := by decide +kernel
theorem dX7_lotsOf_12 : decode cX7_lotsOf 12 = .ok (.iload_n 1, 1) := by decide +kernel
theorem dX7_lotsOf_13 : decode cX7_lotsOf 13 = .ok (.iaload, 1) := by decide +kernel
theorem dX7_lotsOf_14 : decode cX7_lotsOf 14 = .ok (.ireturn, 1) := by decide +kernel
theorem dX7_left_0 : decode cX7_left 0 = .ok (.aload_n 0, 1) := by decide +kernel
theorem dX7_left_1 : decode cX7_left 1 = .ok (.iload_n 1, 1) := by decide +kernel
theorem dX7_left_2 : decode cX7_left 2 = .ok (.invokevirtual 250, 3) := by decide +kernel
theorem dX7_left_5 : decode cX7_left 5 = .ok (.aload_n 0, 1) := by decide +kernel
theorem dX7_left_6 : decode cX7_left 6 = .ok (.getfield 50, 3) := by decide +kernel
theorem dX7_left_9 : decode cX7_left 9 = .ok (.getfield 259, 3) := by decide +kernel
theorem dX7_left_12 : decode cX7_left 12 = .ok (.iload_n 1, 1) := by decide +kernel
theorem dX7_left_13 : decode cX7_left 13 = .ok (.iaload, 1) := by decide +kernel
theorem dX7_left_14 : decode cX7_left 14 = .ok (.ireturn, 1) := by decide +kernel
theorem dX7_barred_0 : decode cX7_barred 0 = .ok (.aload_n 0, 1) := by decide +kernel
theorem dX7_barred_1 : decode cX7_barred 1 = .ok (.iload_n 1, 1) := by decide +kernel
theorem dX7_barred_2 : decode cX7_barred 2 = .ok (.invokevirtual 250, 3) := by decide +kernel
theorem dX7_barred_5 : decode cX7_barred 5 = .ok (.aload_n 0, 1) := by decide +kernel
theorem dX7_barred_6 : decode cX7_barred 6 = .ok (.aload_n 0, 1) := by decide +kernel
theorem dX7_barred_7 : decode cX7_barred 7 = .ok (.getfield 10, 3) := by decide +kernel
theorem dX7_barred_10 : decode cX7_barred 10 = .ok (.iload_n 1, 1) := by decide +kernel
theorem dX7_barred_11 : decode cX7_barred 11 = .ok (.invokevirtual 262, 3) := by decide +kernel
theorem dX7_barred_14 : decode cX7_barred 14 = .ok (.ireturn, 1) := by decide +kernel
theorem dX7_barredAnew_0 : decode cX7_barredAnew 0 = .ok (.aload_n 0, 1) := by decide +kernel
theorem dX7_barredAnew_1 : decode cX7_barredAnew 1 = .ok (.iload_n 1, 1) := by decide +kernel
theorem dX7_barredAnew_2 : decode cX7_barredAnew 2 = .ok (.invokevirtual 250, 3) := by decide +kernel
theorem dX7_barredAnew_5 : decode cX7_barredAnew 5 = .ok (.aload_n 0, 1) := by decide +kernel
theorem dX7_barredAnew_6 : decode cX7_barredAnew 6 = .ok (.invokevirtual 266, 3) := by decide +kernel
theorem dX7_barredAnew_9 : decode cX7_barredAnew 9 = .ok (.aload_n 0, 1) := by decide +kernel
theorem dX7_barredAnew_10 : decode cX7_barredAnew 10 = .ok (.aload_n 0, 1) := by decide +kernel
theorem dX7_barredAnew_11 : decode cX7_barredAnew 11 = .ok (.getfield 16, 3) := by decide +kernel
theorem dX7_barredAnew_14 : decode cX7_barredAnew 14 = .ok (.iload_n 1, 1) := by decide +kernel
theorem dX7_barredAnew_15 : decode cX7_barredAnew 15 = .ok (.invokevirtual 262, 3) := by decide +kernel
theorem dX7_barredAnew_18 : decode cX7_barredAnew 18 = .ok (.ireturn, 1) := by decide +kernel
theorem dX7_sell_0 : decode cX7_sell 0 = .ok (.aload_n 0, 1) := by decide +kernel
theorem dX7_sell_1 : decode cX7_sell 1 = .ok (.iload_n 1, 1) := by decide +kernel
theorem dX7_sell_2 : decode cX7_sell 2 = .ok (.invokevirtual 250, 3) := by decide +kernel
theorem dX7_sell_5 : decode cX7_sell 5 = .ok (.iload_n 2, 1) := by decide +kernel
theorem dX7_sell_6 : decode cX7_sell 6 = .ok (.iconst 1, 1) := by decide +kernel
theorem dX7_sell_7 : decode cX7_sell 7 = .ok (.if_icmp .lt 9, 3) := by decide +kernel
theorem dX7_sell_10 : decode cX7_sell 10 = .ok (.iload_n 2, 1) := by decide +kernel
theorem dX7_sell_11 : decode cX7_sell 11 = .ok (.bipush 40, 2) := by decide +kernel
theorem dX7_sell_13 : decode cX7_sell 13 = .ok (.if_icmp .le 14, 3) := by decide +kernel
theorem dX7_sell_16 : decode cX7_sell 16 = .ok (.new 61, 3) := by decide +kernel
theorem dX7_sell_19 : decode cX7_sell 19 = .ok (.dup, 1) := by decide +kernel
theorem dX7_sell_20 : decode cX7_sell 20 = .ok (.ldc_w 269, 3) := by decide +kernel
theorem dX7_sell_23 : decode cX7_sell 23 = .ok (.invokespecial 65, 3) := by decide +kernel
theorem dX7_sell_26 : decode cX7_sell 26 = .ok (.athrow, 1) := by decide +kernel
theorem dX7_sell_27 : decode cX7_sell 27 = .ok (.aload_n 0, 1) := by decide +kernel
theorem dX7_sell_28 : decode cX7_sell 28 = .ok (.aload_n 0, 1) := by decide +kernel
theorem dX7_sell_29 : decode cX7_sell 29 = .ok (.getfield 10, 3) := by decide +kernel
theorem dX7_sell_32 : decode cX7_sell 32 = .ok (.iload_n 1, 1) := by decide +kernel
theorem dX7_sell_33 : decode cX7_sell 33 = .ok (.invokevirtual 262, 3) := by decide +kernel
theorem dX7_sell_36 : decode cX7_sell 36 = .ok (.ifCond .ne 16, 3) := by decide +kernel
theorem dX7_sell_39 : decode cX7_sell 39 = .ok (.aload_n 0, 1) := by decide +kernel
theorem dX7_sell_40 : decode cX7_sell 40 = .ok (.getfield 50, 3) := by decide +kernel
theorem dX7_sell_43 : decode cX7_sell 43 = .ok (.getfield 259, 3) := by decide +kernel
theorem dX7_sell_46 : decode cX7_sell 46 = .ok (.iload_n 1, 1) := by decide +kernel
theorem dX7_sell_47 : decode cX7_sell 47 = .ok (.iaload, 1) := by decide +kernel
theorem dX7_sell_48 : decode cX7_sell 48 = .ok (.iload_n 2, 1) := by decide +kernel
theorem dX7_sell_49 : decode cX7_sell 49 = .ok (.if_icmp .ge 14, 3) := by decide +kernel
theorem dX7_sell_52 : decode cX7_sell 52 = .ok (.new 90, 3) := by decide +kernel
theorem dX7_sell_55 : decode cX7_sell 55 = .ok (.dup, 1) := by decide +kernel
theorem dX7_sell_56 : decode cX7_sell 56 = .ok (.ldc_w 271, 3) := by decide +kernel
theorem dX7_sell_59 : decode cX7_sell 59 = .ok (.invokespecial 94, 3) := by decide +kernel
theorem dX7_sell_62 : decode cX7_sell 62 = .ok (.athrow, 1) := by decide +kernel
theorem dX7_sell_63 : decode cX7_sell 63 = .ok (.aload_n 0, 1) := by decide +kernel
theorem dX7_sell_64 : decode cX7_sell 64 = .ok (.getfield 50, 3) := by decide +kernel
theorem dX7_sell_67 : decode cX7_sell 67 = .ok (.getfield 259, 3) := by decide +kernel
theorem dX7_sell_70 : decode cX7_sell 70 = .ok (.iload_n 1, 1) := by decide +kernel
theorem dX7_sell_71 : decode cX7_sell 71 = .ok (.dup2, 1) := by decide +kernel
theorem dX7_sell_72 : decode cX7_sell 72 = .ok (.iaload, 1) := by decide +kernel
theorem dX7_sell_73 : decode cX7_sell 73 = .ok (.iload_n 2, 1) := by decide +kernel
theorem dX7_sell_74 : decode cX7_sell 74 = .ok (.isub, 1) := by decide +kernel
theorem dX7_sell_75 : decode cX7_sell 75 = .ok (.iastore, 1) := by decide +kernel
theorem dX7_sell_76 : decode cX7_sell 76 = .ok (.aload_n 0, 1) := by decide +kernel
theorem dX7_sell_77 : decode cX7_sell 77 = .ok (.getfield 50, 3) := by decide +kernel
theorem dX7_sell_80 : decode cX7_sell 80 = .ok (.getfield 273, 3) := by decide +kernel
theorem dX7_sell_83 : decode cX7_sell 83 = .ok (.iload_n 1, 1) := by decide +kernel
theorem dX7_sell_84 : decode cX7_sell 84 = .ok (.dup2, 1) := by decide +kernel
theorem dX7_sell_85 : decode cX7_sell 85 = .ok (.iaload, 1) := by decide +kernel
theorem dX7_sell_86 : decode cX7_sell 86 = .ok (.iload_n 2, 1) := by decide +kernel
theorem dX7_sell_87 : decode cX7_sell 87 = .ok (.iadd, 1) := by decide +kernel
theorem dX7_sell_88 : decode cX7_sell 88 = .ok (.iastore, 1) := by decide +kernel
theorem dX7_sell_89 : decode cX7_sell 89 = .ok (.aload_n 0, 1) := by decide +kernel
theorem dX7_sell_90 : decode cX7_sell 90 = .ok (.getfield 50, 3) := by decide +kernel
theorem dX7_sell_93 : decode cX7_sell 93 = .ok (.getfield 259, 3) := by decide +kernel
theorem dX7_sell_96 : decode cX7_sell 96 = .ok (.iload_n 1, 1) := by decide +kernel
theorem dX7_sell_97 : decode cX7_sell 97 = .ok (.iaload, 1) := by decide +kernel
theorem dX7_sell_98 : decode cX7_sell 98 = .ok (.ireturn, 1) := by decide +kernel
theorem dX7_onSale_0 : decode cX7_onSale 0 = .ok (.iconst 0, 1) := by decide +kernel
theorem dX7_onSale_1 : decode cX7_onSale 1 = .ok (.istore_n 1, 1) := by decide +kernel
theorem dX7_onSale_2 : decode cX7_onSale 2 = .ok (.iconst 0, 1) := by decide +kernel
theorem dX7_onSale_3 : decode cX7_onSale 3 = .ok (.istore_n 2, 1) := by decide +kernel
theorem dX7_onSale_4 : decode cX7_onSale 4 = .ok (.iload_n 2, 1) := by decide +kernel
theorem dX7_onSale_5 : decode cX7_onSale 5 = .ok (.aload_n 0, 1) := by decide +kernel
theorem dX7_onSale_6 : decode cX7_onSale 6 = .ok (.getfield 50, 3) := by decide +kernel
theorem dX7_onSale_9 : decode cX7_onSale 9 = .ok (.getfield 247, 3) := by decide +kernel
theorem dX7_onSale_12 : decode cX7_onSale 12 = .ok (.if_icmp .ge 33, 3) := by decide +kernel
theorem dX7_onSale_15 : decode cX7_onSale 15 = .ok (.aload_n 0, 1) := by decide +kernel
theorem dX7_onSale_16 : decode cX7_onSale 16 = .ok (.aload_n 0, 1) := by decide +kernel
theorem dX7_onSale_17 : decode cX7_onSale 17 = .ok (.getfield 10, 3) := by decide +kernel
theorem dX7_onSale_20 : decode cX7_onSale 20 = .ok (.iload_n 2, 1) := by decide +kernel
theorem dX7_onSale_21 : decode cX7_onSale 21 = .ok (.invokevirtual 262, 3) := by decide +kernel
theorem dX7_onSale_24 : decode cX7_onSale 24 = .ok (.ifCond .ne 15, 3) := by decide +kernel
theorem dX7_onSale_27 : decode cX7_onSale 27 = .ok (.iload_n 1, 1) := by decide +kernel
theorem dX7_onSale_28 : decode cX7_onSale 28 = .ok (.aload_n 0, 1) := by decide +kernel
theorem dX7_onSale_29 : decode cX7_onSale 29 = .ok (.getfield 50, 3) := by decide +kernel
theorem dX7_onSale_32 : decode cX7_onSale 32 = .ok (.getfield 259, 3) := by decide +kernel
theorem dX7_onSale_35 : decode cX7_onSale 35 = .ok (.iload_n 2, 1) := by decide +kernel
theorem dX7_onSale_36 : decode cX7_onSale 36 = .ok (.iaload, 1) := by decide +kernel
theorem dX7_onSale_37 : decode cX7_onSale 37 = .ok (.iadd, 1) := by decide +kernel
theorem dX7_onSale_38 : decode cX7_onSale 38 = .ok (.istore_n 1, 1) := by decide +kernel
theorem dX7_onSale_39 : decode cX7_onSale 39 = .ok (.iinc 2 1, 3) := by decide +kernel
theorem dX7_onSale_42 : decode cX7_onSale 42 = .ok (.goto (-38), 3) := by decide +kernel
theorem dX7_onSale_45 : decode cX7_onSale 45 = .ok (.iload_n 1, 1) := by decide +kernel
theorem dX7_onSale_46 : decode cX7_onSale 46 = .ok (.ireturn, 1) := by decide +kernel
theorem dX7_traced_0 : decode cX7_traced 0 = .ok (.aload_n 0, 1) := by decide +kernel
theorem dX7_traced_1 : decode cX7_traced 1 = .ok (.iload_n 1, 1) := by decide +kernel
theorem dX7_traced_2 : decode cX7_traced 2 = .ok (.invokevirtual 190, 3) := by decide +kernel
theorem dX7_traced_5 : decode cX7_traced 5 = .ok (.iconst 0, 1) := by decide +kernel
theorem dX7_traced_6 : decode cX7_traced 6 = .ok (.istore_n 2, 1) := by decide +kernel
theorem dX7_traced_7 : decode cX7_traced 7 = .ok (.iconst 0, 1) := by decide +kernel
theorem dX7_traced_8 : decode cX7_traced 8 = .ok (.istore_n 3, 1) := by decide +kernel
theorem dX7_traced_9 : decode cX7_traced 9 = .ok (.iload_n 3, 1) := by decide +kernel
theorem dX7_traced_10 : decode cX7_traced 10 = .ok (.aload_n 0, 1) := by decide +kernel
theorem dX7_traced_11 : decode cX7_traced 11 = .ok (.getfield 50, 3) := by decide +kernel
theorem dX7_traced_14 : decode cX7_traced 14 = .ok (.getfield 247, 3) := by decide +kernel
theorem dX7_traced_17 : decode cX7_traced 17 = .ok (.if_icmp .ge 29, 3) := by decide +kernel
theorem dX7_traced_20 : decode cX7_traced 20 = .ok (.aload_n 0, 1) := by decide +kernel
theorem dX7_traced_21 : decode cX7_traced 21 = .ok (.getfield 50, 3) := by decide +kernel
theorem dX7_traced_24 : decode cX7_traced 24 = .ok (.getfield 256, 3) := by decide +kernel
theorem dX7_traced_27 : decode cX7_traced 27 = .ok (.iload_n 3, 1) := by decide +kernel
theorem dX7_traced_28 : decode cX7_traced 28 = .ok (.iaload, 1) := by decide +kernel
theorem dX7_traced_29 : decode cX7_traced 29 = .ok (.i2l, 1) := by decide +kernel
theorem dX7_traced_30 : decode cX7_traced 30 = .ok (.iload_n 1, 1) := by decide +kernel
theorem dX7_traced_31 : decode cX7_traced 31 = .ok (.invokestatic 175, 3) := by decide +kernel
theorem dX7_traced_34 : decode cX7_traced 34 = .ok (.ifCond .eq 6, 3) := by decide +kernel
theorem dX7_traced_37 : decode cX7_traced 37 = .ok (.iinc 2 1, 3) := by decide +kernel
theorem dX7_traced_40 : decode cX7_traced 40 = .ok (.iinc 3 1, 3) := by decide +kernel
theorem dX7_traced_43 : decode cX7_traced 43 = .ok (.goto (-34), 3) := by decide +kernel
theorem dX7_traced_46 : decode cX7_traced 46 = .ok (.iload_n 2, 1) := by decide +kernel
theorem dX7_traced_47 : decode cX7_traced 47 = .ok (.ireturn, 1) := by decide +kernel
theorem dX7_tracedAt_0 : decode cX7_tracedAt 0 = .ok (.aload_n 0, 1) := by decide +kernel
theorem dX7_tracedAt_1 : decode cX7_tracedAt 1 = .ok (.iload_n 1, 1) := by decide +kernel
theorem dX7_tracedAt_2 : decode cX7_tracedAt 2 = .ok (.invokevirtual 190, 3) := by decide +kernel
theorem dX7_tracedAt_5 : decode cX7_tracedAt 5 = .ok (.iconst 0, 1) := by decide +kernel
theorem dX7_tracedAt_6 : decode cX7_tracedAt 6 = .ok (.istore_n 3, 1) := by decide +kernel
theorem dX7_tracedAt_7 : decode cX7_tracedAt 7 = .ok (.iconst 0, 1) := by decide +kernel
theorem dX7_tracedAt_8 : decode cX7_tracedAt 8 = .ok (.istore 4, 2) := by decide +kernel
theorem dX7_tracedAt_10 : decode cX7_tracedAt 10 = .ok (.iload 4, 2) := by decide +kernel
theorem dX7_tracedAt_12 : decode cX7_tracedAt 12 = .ok (.aload_n 0, 1) := by decide +kernel
theorem dX7_tracedAt_13 : decode cX7_tracedAt 13 = .ok (.getfield 50, 3) := by decide +kernel
theorem dX7_tracedAt_16 : decode cX7_tracedAt 16 = .ok (.getfield 247, 3) := by decide +kernel
theorem dX7_tracedAt_19 : decode cX7_tracedAt 19 = .ok (.if_icmp .ge 38, 3) := by decide +kernel
theorem dX7_tracedAt_22 : decode cX7_tracedAt 22 = .ok (.aload_n 0, 1) := by decide +kernel
theorem dX7_tracedAt_23 : decode cX7_tracedAt 23 = .ok (.getfield 50, 3) := by decide +kernel
theorem dX7_tracedAt_26 : decode cX7_tracedAt 26 = .ok (.getfield 256, 3) := by decide +kernel
theorem dX7_tracedAt_29 : decode cX7_tracedAt 29 = .ok (.iload 4, 2) := by decide +kernel
theorem dX7_tracedAt_31 : decode cX7_tracedAt 31 = .ok (.iaload, 1) := by decide +kernel
theorem dX7_tracedAt_32 : decode cX7_tracedAt 32 = .ok (.i2l, 1) := by decide +kernel
theorem dX7_tracedAt_33 : decode cX7_tracedAt 33 = .ok (.iload_n 1, 1) := by decide +kernel
theorem dX7_tracedAt_34 : decode cX7_tracedAt 34 = .ok (.invokestatic 175, 3) := by decide +kernel
theorem dX7_tracedAt_37 : decode cX7_tracedAt 37 = .ok (.ifCond .eq 14, 3) := by decide +kernel
theorem dX7_tracedAt_40 : decode cX7_tracedAt 40 = .ok (.iload_n 3, 1) := by decide +kernel
theorem dX7_tracedAt_41 : decode cX7_tracedAt 41 = .ok (.iload_n 2, 1) := by decide +kernel
theorem dX7_tracedAt_42 : decode cX7_tracedAt 42 = .ok (.if_icmp .ne 6, 3) := by decide +kernel
theorem dX7_tracedAt_45 : decode cX7_tracedAt 45 = .ok (.iload 4, 2) := by decide +kernel
theorem dX7_tracedAt_47 : decode cX7_tracedAt 47 = .ok (.ireturn, 1) := by decide +kernel
theorem dX7_tracedAt_48 : decode cX7_tracedAt 48 = .ok (.iinc 3 1, 3) := by decide +kernel
theorem dX7_tracedAt_51 : decode cX7_tracedAt 51 = .ok (.iinc 4 1, 3) := by decide +kernel
theorem dX7_tracedAt_54 : decode cX7_tracedAt 54 = .ok (.goto (-44), 3) := by decide +kernel
theorem dX7_tracedAt_57 : decode cX7_tracedAt 57 = .ok (.new 157, 3) := by decide +kernel
theorem dX7_tracedAt_60 : decode cX7_tracedAt 60 = .ok (.dup, 1) := by decide +kernel
theorem dX7_tracedAt_61 : decode cX7_tracedAt 61 = .ok (.ldc 159, 2) := by decide +kernel
theorem dX7_tracedAt_63 : decode cX7_tracedAt 63 = .ok (.invokespecial 161, 3) := by decide +kernel
theorem dX7_tracedAt_66 : decode cX7_tracedAt 66 = .ok (.athrow, 1) := by decide +kernel
theorem dX7_recalls_0 : decode cX7_recalls 0 = .ok (.aload_n 0, 1) := by decide +kernel
theorem dX7_recalls_1 : decode cX7_recalls 1 = .ok (.getfield 57, 3) := by decide +kernel
theorem dX7_recalls_4 : decode cX7_recalls 4 = .ok (.getfield 276, 3) := by decide +kernel
theorem dX7_recalls_7 : decode cX7_recalls 7 = .ok (.ireturn, 1) := by decide +kernel
theorem dX7_recallOf_0 : decode cX7_recallOf 0 = .ok (.aload_n 0, 1) := by decide +kernel
theorem dX7_recallOf_1 : decode cX7_recallOf 1 = .ok (.iload_n 1, 1) := by decide +kernel
theorem dX7_recallOf_2 : decode cX7_recallOf 2 = .ok (.invokevirtual 277, 3) := by decide +kernel
theorem dX7_recallOf_5 : decode cX7_recallOf 5 = .ok (.aload_n 0, 1) := by decide +kernel
theorem dX7_recallOf_6 : decode cX7_recallOf 6 = .ok (.getfield 57, 3) := by decide +kernel
theorem dX7_recallOf_9 : decode cX7_recallOf 9 = .ok (.getfield 280, 3) := by decide +kernel
theorem dX7_recallOf_12 : decode cX7_recallOf 12 = .ok (.iload_n 1, 1) := by decide +kernel
theorem dX7_recallOf_13 : decode cX7_recallOf 13 = .ok (.iaload, 1) := by decide +kernel
theorem dX7_recallOf_14 : decode cX7_recallOf 14 = .ok (.ireturn, 1) := by decide +kernel
theorem dX7_calledBack_0 : decode cX7_calledBack 0 = .ok (.aload_n 0, 1) := by decide +kernel
theorem dX7_calledBack_1 : decode cX7_calledBack 1 = .ok (.iload_n 1, 1) := by decide +kernel
theorem dX7_calledBack_2 : decode cX7_calledBack 2 = .ok (.invokevirtual 277, 3) := by decide +kernel
theorem dX7_calledBack_5 : decode cX7_calledBack 5 = .ok (.aload_n 0, 1) := by decide +kernel
theorem dX7_calledBack_6 : decode cX7_calledBack 6 = .ok (.getfield 57, 3) := by decide +kernel
theorem dX7_calledBack_9 : decode cX7_calledBack 9 = .ok (.getfield 283, 3) := by decide +kernel
theorem dX7_calledBack_12 : decode cX7_calledBack 12 = .ok (.iload_n 1, 1) := by decide +kernel
theorem dX7_calledBack_13 : decode cX7_calledBack 13 = .ok (.iaload, 1) := by decide +kernel
theorem dX7_calledBack_14 : decode cX7_calledBack 14 = .ok (.ireturn, 1) := by decide +kernel
theorem dX7_why_0 : decode cX7_why 0 = .ok (.aload_n 0, 1) := by decide +kernel
theorem dX7_why_1 : decode cX7_why 1 = .ok (.iload_n 1, 1) := by decide +kernel
theorem dX7_why_2 : decode cX7_why 2 = .ok (.invokevirtual 277, 3) := by decide +kernel
theorem dX7_why_5 : decode cX7_why 5 = .ok (.aload_n 0, 1) := by decide +kernel
theorem dX7_why_6 : decode cX7_why 6 = .ok (.getfield 57, 3) := by decide +kernel
theorem dX7_why_9 : decode cX7_why 9 = .ok (.getfield 286, 3) := by decide +kernel
theorem dX7_why_12 : decode cX7_why 12 = .ok (.iload_n 1, 1) := by decide +kernel
theorem dX7_why_13 : decode cX7_why 13 = .ok (.iaload, 1) := by decide +kernel
theorem dX7_why_14 : decode cX7_why 14 = .ok (.ireturn, 1) := by decide +kernel
theorem dX7_checkBakery_0 : decode cX7_checkBakery 0 = .ok (.iload_n 0, 1) := by decide +kernel
theorem dX7_checkBakery_1 : decode cX7_checkBakery 1 = .ok (.ifCond .lt 8, 3) := by decide +kernel
theorem dX7_checkBakery_4 : decode cX7_checkBakery 4 = .ok (.iload_n 0, 1) := by decide +kernel
theorem dX7_checkBakery_5 : decode cX7_checkBakery 5 = .ok (.iconst 5, 1) := by decide +kernel
theorem dX7_checkBakery_6 : decode cX7_checkBakery 6 = .ok (.if_icmp .lt 14, 3) := by decide +kernel
theorem dX7_checkBakery_9 : decode cX7_checkBakery 9 = .ok (.new 157, 3) := by decide +kernel
theorem dX7_checkBakery_12 : decode cX7_checkBakery 12 = .ok (.dup, 1) := by decide +kernel
theorem dX7_checkBakery_13 : decode cX7_checkBakery 13 = .ok (.ldc_w 289, 3) := by decide +kernel
theorem dX7_checkBakery_16 : decode cX7_checkBakery 16 = .ok (.invokespecial 161, 3) := by decide +kernel
theorem dX7_checkBakery_19 : decode cX7_checkBakery 19 = .ok (.athrow, 1) := by decide +kernel
theorem dX7_checkBakery_20 : decode cX7_checkBakery 20 = .ok (.return_, 1) := by decide +kernel
theorem dX7_checkPair_0 : decode cX7_checkPair 0 = .ok (.iload_n 0, 1) := by decide +kernel
theorem dX7_checkPair_1 : decode cX7_checkPair 1 = .ok (.invokestatic 82, 3) := by decide +kernel
theorem dX7_checkPair_4 : decode cX7_checkPair 4 = .ok (.iload_n 1, 1) := by decide +kernel
theorem dX7_checkPair_5 : decode cX7_checkPair 5 = .ok (.invokestatic 82, 3) := by decide +kernel
theorem dX7_checkPair_8 : decode cX7_checkPair 8 = .ok (.iload_n 0, 1) := by decide +kernel
theorem dX7_checkPair_9 : decode cX7_checkPair 9 = .ok (.iload_n 1, 1) := by decide +kernel
theorem dX7_checkPair_10 : decode cX7_checkPair 10 = .ok (.if_icmp .ne 14, 3) := by decide +kernel
theorem dX7_checkPair_13 : decode cX7_checkPair 13 = .ok (.new 61, 3) := by decide +kernel
theorem dX7_checkPair_16 : decode cX7_checkPair 16 = .ok (.dup, 1) := by decide +kernel
theorem dX7_checkPair_17 : decode cX7_checkPair 17 = .ok (.ldc_w 291, 3) := by decide +kernel
theorem dX7_checkPair_20 : decode cX7_checkPair 20 = .ok (.invokespecial 65, 3) := by decide +kernel
theorem dX7_checkPair_23 : decode cX7_checkPair 23 = .ok (.athrow, 1) := by decide +kernel
theorem dX7_checkPair_24 : decode cX7_checkPair 24 = .ok (.return_, 1) := by decide +kernel
theorem dX7_checkReach_0 : decode cX7_checkReach 0 = .ok (.aload_n 0, 1) := by decide +kernel
theorem dX7_checkReach_1 : decode cX7_checkReach 1 = .ok (.getfield 10, 3) := by decide +kernel
theorem dX7_checkReach_4 : decode cX7_checkReach 4 = .ok (.iload_n 1, 1) := by decide +kernel
theorem dX7_checkReach_5 : decode cX7_checkReach 5 = .ok (.iload_n 2, 1) := by decide +kernel
theorem dX7_checkReach_6 : decode cX7_checkReach 6 = .ok (.invokevirtual 154, 3) := by decide +kernel
theorem dX7_checkReach_9 : decode cX7_checkReach 9 = .ok (.ifCond .ne 14, 3) := by decide +kernel
theorem dX7_checkReach_12 : decode cX7_checkReach 12 = .ok (.new 90, 3) := by decide +kernel
theorem dX7_checkReach_15 : decode cX7_checkReach 15 = .ok (.dup, 1) := by decide +kernel
theorem dX7_checkReach_16 : decode cX7_checkReach 16 = .ok (.ldc_w 293, 3) := by decide +kernel
theorem dX7_checkReach_19 : decode cX7_checkReach 19 = .ok (.invokespecial 94, 3) := by decide +kernel
theorem dX7_checkReach_22 : decode cX7_checkReach 22 = .ok (.athrow, 1) := by decide +kernel
theorem dX7_checkReach_23 : decode cX7_checkReach 23 = .ok (.return_, 1) := by decide +kernel
theorem dX7_checkLeader_0 : decode cX7_checkLeader 0 = .ok (.aload_n 0, 1) := by decide +kernel
theorem dX7_checkLeader_1 : decode cX7_checkLeader 1 = .ok (.getfield 10, 3) := by decide +kernel
theorem dX7_checkLeader_4 : decode cX7_checkLeader 4 = .ok (.getfield 102, 3) := by decide +kernel
theorem dX7_checkLeader_7 : decode cX7_checkLeader 7 = .ok (.iload_n 1, 1) := by decide +kernel
theorem dX7_checkLeader_8 : decode cX7_checkLeader 8 = .ok (.iaload, 1) := by decide +kernel
theorem dX7_checkLeader_9 : decode cX7_checkLeader 9 = .ok (.iconst 2, 1) := by decide +kernel
theorem dX7_checkLeader_10 : decode cX7_checkLeader 10 = .ok (.if_icmp .eq 14, 3) := by decide +kernel
theorem dX7_checkLeader_13 : decode cX7_checkLeader 13 = .ok (.new 90, 3) := by decide +kernel
theorem dX7_checkLeader_16 : decode cX7_checkLeader 16 = .ok (.dup, 1) := by decide +kernel
theorem dX7_checkLeader_17 : decode cX7_checkLeader 17 = .ok (.ldc_w 295, 3) := by decide +kernel
theorem dX7_checkLeader_20 : decode cX7_checkLeader 20 = .ok (.invokespecial 94, 3) := by decide +kernel
theorem dX7_checkLeader_23 : decode cX7_checkLeader 23 = .ok (.athrow, 1) := by decide +kernel
theorem dX7_checkLeader_24 : decode cX7_checkLeader 24 = .ok (.return_, 1) := by decide +kernel
theorem dX7_checkRecipe_0 : decode cX7_checkRecipe 0 = .ok (.iload_n 0, 1) := by decide +kernel
theorem dX7_checkRecipe_1 : decode cX7_checkRecipe 1 = .ok (.ifCond .lt 9, 3) := by decide +kernel
theorem dX7_checkRecipe_4 : decode cX7_checkRecipe 4 = .ok (.iload_n 0, 1) := by decide +kernel
theorem dX7_checkRecipe_5 : decode cX7_checkRecipe 5 = .ok (.bipush 6, 2) := by decide +kernel
theorem dX7_checkRecipe_7 : decode cX7_checkRecipe 7 = .ok (.if_icmp .lt 14, 3) := by decide +kernel
theorem dX7_checkRecipe_10 : decode cX7_checkRecipe 10 = .ok (.new 157, 3) := by decide +kernel
theorem dX7_checkRecipe_13 : decode cX7_checkRecipe 13 = .ok (.dup, 1) := by decide +kernel
theorem dX7_checkRecipe_14 : decode cX7_checkRecipe 14 = .ok (.ldc_w 297, 3) := by decide +kernel
theorem dX7_checkRecipe_17 : decode cX7_checkRecipe 17 = .ok (.invokespecial 161, 3) := by decide +kernel
theorem dX7_checkRecipe_20 : decode cX7_checkRecipe 20 = .ok (.athrow, 1) := by decide +kernel
theorem dX7_checkRecipe_21 : decode cX7_checkRecipe 21 = .ok (.return_, 1) := by decide +kernel
theorem dX7_checkVersion_0 : decode cX7_checkVersion 0 = .ok (.iload_n 1, 1) := by decide +kernel
theorem dX7_checkVersion_1 : decode cX7_checkVersion 1 = .ok (.ifCond .lt 14, 3) := by decide +kernel
theorem dX7_checkVersion_4 : decode cX7_checkVersion 4 = .ok (.iload_n 1, 1) := by decide +kernel
theorem dX7_checkVersion_5 : decode cX7_checkVersion 5 = .ok (.aload_n 0, 1) := by decide +kernel
theorem dX7_checkVersion_6 : decode cX7_checkVersion 6 = .ok (.getfield 10, 3) := by decide +kernel
theorem dX7_checkVersion_9 : decode cX7_checkVersion 9 = .ok (.getfield 125, 3) := by decide +kernel
theorem dX7_checkVersion_12 : decode cX7_checkVersion 12 = .ok (.if_icmp .lt 14, 3) := by decide +kernel
theorem dX7_checkVersion_15 : decode cX7_checkVersion 15 = .ok (.new 157, 3) := by decide +kernel
theorem dX7_checkVersion_18 : decode cX7_checkVersion 18 = .ok (.dup, 1) := by decide +kernel
theorem dX7_checkVersion_19 : decode cX7_checkVersion 19 = .ok (.ldc_w 299, 3) := by decide +kernel
theorem dX7_checkVersion_22 : decode cX7_checkVersion 22 = .ok (.invokespecial 161, 3) := by decide +kernel
theorem dX7_checkVersion_25 : decode cX7_checkVersion 25 = .ok (.athrow, 1) := by decide +kernel
theorem dX7_checkVersion_26 : decode cX7_checkVersion 26 = .ok (.return_, 1) := by decide +kernel
theorem dX7_checkLot_0 : decode cX7_checkLot 0 = .ok (.iload_n 1, 1) := by decide +kernel
theorem dX7_checkLot_1 : decode cX7_checkLot 1 = .ok (.ifCond .lt 14, 3) := by decide +kernel
theorem dX7_checkLot_4 : decode cX7_checkLot 4 = .ok (.iload_n 1, 1) := by decide +kernel
theorem dX7_checkLot_5 : decode cX7_checkLot 5 = .ok (.aload_n 0, 1) := by decide +kernel
theorem dX7_checkLot_6 : decode cX7_checkLot 6 = .ok (.getfield 36, 3) := by decide +kernel
theorem dX7_checkLot_9 : decode cX7_checkLot 9 = .ok (.getfield 185, 3) := by decide +kernel
theorem dX7_checkLot_12 : decode cX7_checkLot 12 = .ok (.if_icmp .lt 14, 3) := by decide +kernel
theorem dX7_checkLot_15 : decode cX7_checkLot 15 = .ok (.new 157, 3) := by decide +kernel
theorem dX7_checkLot_18 : decode cX7_checkLot 18 = .ok (.dup, 1) := by decide +kernel
theorem dX7_checkLot_19 : decode cX7_checkLot 19 = .ok (.ldc_w 301, 3) := by decide +kernel
theorem dX7_checkLot_22 : decode cX7_checkLot 22 = .ok (.invokespecial 161, 3) := by decide +kernel
theorem dX7_checkLot_25 : decode cX7_checkLot 25 = .ok (.athrow, 1) := by decide +kernel
theorem dX7_checkLot_26 : decode cX7_checkLot 26 = .ok (.return_, 1) := by decide +kernel
theorem dX7_checkGood_0 : decode cX7_checkGood 0 = .ok (.aload_n 0, 1) := by decide +kernel
theorem dX7_checkGood_1 : decode cX7_checkGood 1 = .ok (.getfield 36, 3) := by decide +kernel
theorem dX7_checkGood_4 : decode cX7_checkGood 4 = .ok (.getfield 303, 3) := by decide +kernel
theorem dX7_checkGood_7 : decode cX7_checkGood 7 = .ok (.i2l, 1) := by decide +kernel
theorem dX7_checkGood_8 : decode cX7_checkGood 8 = .ok (.iload_n 1, 1) := by decide +kernel
theorem dX7_checkGood_9 : decode cX7_checkGood 9 = .ok (.invokestatic 175, 3) := by decide +kernel
theorem dX7_checkGood_12 : decode cX7_checkGood 12 = .ok (.ifCond .eq 14, 3) := by decide +kernel
theorem dX7_checkGood_15 : decode cX7_checkGood 15 = .ok (.new 90, 3) := by decide +kernel
theorem dX7_checkGood_18 : decode cX7_checkGood 18 = .ok (.dup, 1) := by decide +kernel
theorem dX7_checkGood_19 : decode cX7_checkGood 19 = .ok (.ldc_w 306, 3) := by decide +kernel
theorem dX7_checkGood_22 : decode cX7_checkGood 22 = .ok (.invokespecial 94, 3) := by decide +kernel
theorem dX7_checkGood_25 : decode cX7_checkGood 25 = .ok (.athrow, 1) := by decide +kernel
theorem dX7_checkGood_26 : decode cX7_checkGood 26 = .ok (.return_, 1) := by decide +kernel
theorem dX7_checkHour_0 : decode cX7_checkHour 0 = .ok (.iload_n 1, 1) := by decide +kernel
theorem dX7_checkHour_1 : decode cX7_checkHour 1 = .ok (.aload_n 0, 1) := by decide +kernel
theorem dX7_checkHour_2 : decode cX7_checkHour 2 = .ok (.getfield 43, 3) := by decide +kernel
theorem dX7_checkHour_5 : decode cX7_checkHour 5 = .ok (.getfield 233, 3) := by decide +kernel
theorem dX7_checkHour_8 : decode cX7_checkHour 8 = .ok (.if_icmp .lt 17, 3) := by decide +kernel
theorem dX7_checkHour_11 : decode cX7_checkHour 11 = .ok (.iload_n 1, 1) := by decide +kernel
theorem dX7_checkHour_12 : decode cX7_checkHour 12 = .ok (.aload_n 0, 1) := by decide +kernel
theorem dX7_checkHour_13 : decode cX7_checkHour 13 = .ok (.getfield 43, 3) := by decide +kernel
theorem dX7_checkHour_16 : decode cX7_checkHour 16 = .ok (.getfield 233, 3) := by decide +kernel
theorem dX7_checkHour_19 : decode cX7_checkHour 19 = .ok (.bipush 50, 2) := by decide +kernel
theorem dX7_checkHour_21 : decode cX7_checkHour 21 = .ok (.iadd, 1) := by decide +kernel
theorem dX7_checkHour_22 : decode cX7_checkHour 22 = .ok (.if_icmp .le 14, 3) := by decide +kernel
theorem dX7_checkHour_25 : decode cX7_checkHour 25 = .ok (.new 61, 3) := by decide +kernel
theorem dX7_checkHour_28 : decode cX7_checkHour 28 = .ok (.dup, 1) := by decide +kernel
theorem dX7_checkHour_29 : decode cX7_checkHour 29 = .ok (.ldc_w 308, 3) := by decide +kernel
theorem dX7_checkHour_32 : decode cX7_checkHour 32 = .ok (.invokespecial 65, 3) := by decide +kernel
theorem dX7_checkHour_35 : decode cX7_checkHour 35 = .ok (.athrow, 1) := by decide +kernel
theorem dX7_checkHour_36 : decode cX7_checkHour 36 = .ok (.return_, 1) := by decide +kernel
theorem dX7_checkBatch_0 : decode cX7_checkBatch 0 = .ok (.iload_n 1, 1) := by decide +kernel
theorem dX7_checkBatch_1 : decode cX7_checkBatch 1 = .ok (.ifCond .lt 14, 3) := by decide +kernel
theorem dX7_checkBatch_4 : decode cX7_checkBatch 4 = .ok (.iload_n 1, 1) := by decide +kernel
theorem dX7_checkBatch_5 : decode cX7_checkBatch 5 = .ok (.aload_n 0, 1) := by decide +kernel
theorem dX7_checkBatch_6 : decode cX7_checkBatch 6 = .ok (.getfield 50, 3) := by decide +kernel
theorem dX7_checkBatch_9 : decode cX7_checkBatch 9 = .ok (.getfield 247, 3) := by decide +kernel
theorem dX7_checkBatch_12 : decode cX7_checkBatch 12 = .ok (.if_icmp .lt 14, 3) := by decide +kernel
theorem dX7_checkBatch_15 : decode cX7_checkBatch 15 = .ok (.new 157, 3) := by decide +kernel
theorem dX7_checkBatch_18 : decode cX7_checkBatch 18 = .ok (.dup, 1) := by decide +kernel
theorem dX7_checkBatch_19 : decode cX7_checkBatch 19 = .ok (.ldc_w 312, 3) := by decide +kernel
theorem dX7_checkBatch_22 : decode cX7_checkBatch 22 = .ok (.invokespecial 161, 3) := by decide +kernel
theorem dX7_checkBatch_25 : decode cX7_checkBatch 25 = .ok (.athrow, 1) := by decide +kernel
theorem dX7_checkBatch_26 : decode cX7_checkBatch 26 = .ok (.return_, 1) := by decide +kernel
theorem dX7_checkRecall_0 : decode cX7_checkRecall 0 = .ok (.iload_n 1, 1) := by decide +kernel
theorem dX7_checkRecall_1 : decode cX7_checkRecall 1 = .ok (.ifCond .lt 14, 3) := by decide +kernel
theorem dX7_checkRecall_4 : decode cX7_checkRecall 4 = .ok (.iload_n 1, 1) := by decide +kernel
theorem dX7_checkRecall_5 : decode cX7_checkRecall 5 = .ok (.aload_n 0, 1) := by decide +kernel
theorem dX7_checkRecall_6 : decode cX7_checkRecall 6 = .ok (.getfield 57, 3) := by decide +kernel
theorem dX7_checkRecall_9 : decode cX7_checkRecall 9 = .ok (.getfield 276, 3) := by decide +kernel
theorem dX7_checkRecall_12 : decode cX7_checkRecall 12 = .ok (.if_icmp .lt 14, 3) := by decide +kernel
theorem dX7_checkRecall_15 : decode cX7_checkRecall 15 = .ok (.new 157, 3) := by decide +kernel
theorem dX7_checkRecall_18 : decode cX7_checkRecall 18 = .ok (.dup, 1) := by decide +kernel
theorem dX7_checkRecall_19 : decode cX7_checkRecall 19 = .ok (.ldc_w 314, 3) := by decide +kernel
theorem dX7_checkRecall_22 : decode cX7_checkRecall 22 = .ok (.invokespecial 161, 3) := by decide +kernel
theorem dX7_checkRecall_25 : decode cX7_checkRecall 25 = .ok (.athrow, 1) := by decide +kernel
theorem dX7_checkRecall_26 : decode cX7_checkRecall 26 = .ok (.return_, 1) := by decide +kernel
theorem dX7_contains_0 : decode cX7_contains 0 = .ok (.lload_n 0, 1) := by decide +kernel
theorem dX7_contains_1 : decode cX7_contains 1 = .ok (.iload_n 2, 1) := by decide +kernel
theorem dX7_contains_2 : decode cX7_contains 2 = .ok (.lushr, 1) := by decide +kernel
theorem dX7_contains_3 : decode cX7_contains 3 = .ok (.lconst 1, 1) := by decide +kernel
theorem dX7_contains_4 : decode cX7_contains 4 = .ok (.land, 1) := by decide +kernel
theorem dX7_contains_5 : decode cX7_contains 5 = .ok (.lconst 0, 1) := by decide +kernel
theorem dX7_contains_6 : decode cX7_contains 6 = .ok (.lcmp, 1) := by decide +kernel
theorem dX7_contains_7 : decode cX7_contains 7 = .ok (.ifCond .eq 7, 3) := by decide +kernel
theorem dX7_contains_10 : decode cX7_contains 10 = .ok (.iconst 1, 1) := by decide +kernel
theorem dX7_contains_11 : decode cX7_contains 11 = .ok (.goto 4, 3) := by decide +kernel
theorem dX7_contains_14 : decode cX7_contains 14 = .ok (.iconst 0, 1) := by decide +kernel
theorem dX7_contains_15 : decode cX7_contains 15 = .ok (.ireturn, 1) := by decide +kernel
theorem dX7_findCurrent_0 : decode cX7_findCurrent 0 = .ok (.aload_n 0, 1) := by decide +kernel
theorem dX7_findCurrent_1 : decode cX7_findCurrent 1 = .ok (.getfield 10, 3) := by decide +kernel
theorem dX7_findCurrent_4 : decode cX7_findCurrent 4 = .ok (.getfield 122, 3) := by decide +kernel
theorem dX7_findCurrent_7 : decode cX7_findCurrent 7 = .ok (.iload_n 1, 1) := by decide +kernel
theorem dX7_findCurrent_8 : decode cX7_findCurrent 8 = .ok (.iaload, 1) := by decide +kernel
theorem dX7_findCurrent_9 : decode cX7_findCurrent 9 = .ok (.iconst 1, 1) := by decide +kernel
theorem dX7_findCurrent_10 : decode cX7_findCurrent 10 = .ok (.isub, 1) := by decide +kernel
theorem dX7_findCurrent_11 : decode cX7_findCurrent 11 = .ok (.istore_n 3, 1) := by decide +kernel
theorem dX7_findCurrent_12 : decode cX7_findCurrent 12 = .ok (.iload_n 3, 1) := by decide +kernel
theorem dX7_findCurrent_13 : decode cX7_findCurrent 13 = .ok (.ifCond .lt 54, 3) := by decide +kernel
theorem dX7_findCurrent_16 : decode cX7_findCurrent 16 = .ok (.aload_n 0, 1) := by decide +kernel
theorem dX7_findCurrent_17 : decode cX7_findCurrent 17 = .ok (.getfield 10, 3) := by decide +kernel
theorem dX7_findCurrent_20 : decode cX7_findCurrent 20 = .ok (.getfield 162, 3) := by decide +kernel
theorem dX7_findCurrent_23 : decode cX7_findCurrent 23 = .ok (.iload_n 1, 1) := by decide +kernel
theorem dX7_findCurrent_24 : decode cX7_findCurrent 24 = .ok (.aaload, 1) := by decide +kernel
theorem dX7_findCurrent_25 : decode cX7_findCurrent 25 = .ok (.iload_n 3, 1) := by decide +kernel
theorem dX7_findCurrent_26 : decode cX7_findCurrent 26 = .ok (.iaload, 1) := by decide +kernel
theorem dX7_findCurrent_27 : decode cX7_findCurrent 27 = .ok (.istore 4, 2) := by decide +kernel
theorem dX7_findCurrent_29 : decode cX7_findCurrent 29 = .ok (.aload_n 0, 1) := by decide +kernel
theorem dX7_findCurrent_30 : decode cX7_findCurrent 30 = .ok (.getfield 29, 3) := by decide +kernel
theorem dX7_findCurrent_33 : decode cX7_findCurrent 33 = .ok (.getfield 227, 3) := by decide +kernel
theorem dX7_findCurrent_36 : decode cX7_findCurrent 36 = .ok (.iload 4, 2) := by decide +kernel
theorem dX7_findCurrent_38 : decode cX7_findCurrent 38 = .ok (.iaload, 1) := by decide +kernel
theorem dX7_findCurrent_39 : decode cX7_findCurrent 39 = .ok (.iload_n 2, 1) := by decide +kernel
theorem dX7_findCurrent_40 : decode cX7_findCurrent 40 = .ok (.if_icmp .ne 21, 3) := by decide +kernel
theorem dX7_findCurrent_43 : decode cX7_findCurrent 43 = .ok (.aload_n 0, 1) := by decide +kernel
theorem dX7_findCurrent_44 : decode cX7_findCurrent 44 = .ok (.getfield 10, 3) := by decide +kernel
theorem dX7_findCurrent_47 : decode cX7_findCurrent 47 = .ok (.getfield 137, 3) := by decide +kernel
theorem dX7_findCurrent_50 : decode cX7_findCurrent 50 = .ok (.iload 4, 2) := by decide +kernel
theorem dX7_findCurrent_52 : decode cX7_findCurrent 52 = .ok (.invokestatic 175, 3) := by decide +kernel
theorem dX7_findCurrent_55 : decode cX7_findCurrent 55 = .ok (.ifCond .eq 6, 3) := by decide +kernel
theorem dX7_findCurrent_58 : decode cX7_findCurrent 58 = .ok (.iload 4, 2) := by decide +kernel
theorem dX7_findCurrent_60 : decode cX7_findCurrent 60 = .ok (.ireturn, 1) := by decide +kernel
theorem dX7_findCurrent_61 : decode cX7_findCurrent 61 = .ok (.iinc 3 (-1), 3) := by decide +kernel
theorem dX7_findCurrent_64 : decode cX7_findCurrent 64 = .ok (.goto (-52), 3) := by decide +kernel
theorem dX7_findCurrent_67 : decode cX7_findCurrent 67 = .ok (.iconst (-1), 1) := by decide +kernel
theorem dX7_findCurrent_68 : decode cX7_findCurrent 68 = .ok (.ireturn, 1) := by decide +kernel
theorem dX7_putCurrent_0 : decode cX7_putCurrent 0 = .ok (.aload_n 0, 1) := by decide +kernel
theorem dX7_putCurrent_1 : decode cX7_putCurrent 1 = .ok (.iload_n 1, 1) := by decide +kernel
theorem dX7_putCurrent_2 : decode cX7_putCurrent 2 = .ok (.iload_n 3, 1) := by decide +kernel
theorem dX7_putCurrent_3 : decode cX7_putCurrent 3 = .ok (.invokevirtual 182, 3) := by decide +kernel
theorem dX7_putCurrent_6 : decode cX7_putCurrent 6 = .ok (.istore 4, 2) := by decide +kernel
theorem dX7_putCurrent_8 : decode cX7_putCurrent 8 = .ok (.iload 4, 2) := by decide +kernel
theorem dX7_putCurrent_10 : decode cX7_putCurrent 10 = .ok (.iconst (-1), 1) := by decide +kernel
theorem dX7_putCurrent_11 : decode cX7_putCurrent 11 = .ok (.if_icmp .ne 14, 3) := by decide +kernel
theorem dX7_putCurrent_14 : decode cX7_putCurrent 14 = .ok (.new 90, 3) := by decide +kernel
theorem dX7_putCurrent_17 : decode cX7_putCurrent 17 = .ok (.dup, 1) := by decide +kernel
theorem dX7_putCurrent_18 : decode cX7_putCurrent 18 = .ok (.ldc_w 316, 3) := by decide +kernel
theorem dX7_putCurrent_21 : decode cX7_putCurrent 21 = .ok (.invokespecial 94, 3) := by decide +kernel
theorem dX7_putCurrent_24 : decode cX7_putCurrent 24 = .ok (.athrow, 1) := by decide +kernel
theorem dX7_putCurrent_25 : decode cX7_putCurrent 25 = .ok (.aload_n 0, 1) := by decide +kernel
theorem dX7_putCurrent_26 : decode cX7_putCurrent 26 = .ok (.getfield 43, 3) := by decide +kernel
theorem dX7_putCurrent_29 : decode cX7_putCurrent 29 = .ok (.iload_n 1, 1) := by decide +kernel
theorem dX7_putCurrent_30 : decode cX7_putCurrent 30 = .ok (.iload_n 2, 1) := by decide +kernel
theorem dX7_putCurrent_31 : decode cX7_putCurrent 31 = .ok (.iload 4, 2) := by decide +kernel
theorem dX7_putCurrent_33 : decode cX7_putCurrent 33 = .ok (.invokevirtual 230, 3) := by decide +kernel
theorem dX7_putCurrent_36 : decode cX7_putCurrent 36 = .ok (.iload 4, 2) := by decide +kernel
theorem dX7_putCurrent_38 : decode cX7_putCurrent 38 = .ok (.ireturn, 1) := by decide +kernel
theorem dX7_passHour_0 : decode cX7_passHour 0 = .ok (.iconst 0, 1) := by decide +kernel
theorem dX7_passHour_1 : decode cX7_passHour 1 = .ok (.istore_n 1, 1) := by decide +kernel
theorem dX7_passHour_2 : decode cX7_passHour 2 = .ok (.iconst 0, 1) := by decide +kernel
theorem dX7_passHour_3 : decode cX7_passHour 3 = .ok (.istore_n 2, 1) := by decide +kernel
theorem dX7_passHour_4 : decode cX7_passHour 4 = .ok (.iload_n 2, 1) := by decide +kernel
theorem dX7_passHour_5 : decode cX7_passHour 5 = .ok (.iconst 5, 1) := by decide +kernel
theorem dX7_passHour_6 : decode cX7_passHour 6 = .ok (.if_icmp .ge 80, 3) := by decide +kernel
theorem dX7_passHour_9 : decode cX7_passHour 9 = .ok (.aload_n 0, 1) := by decide +kernel
theorem dX7_passHour_10 : decode cX7_passHour 10 = .ok (.getfield 43, 3) := by decide +kernel
theorem dX7_passHour_13 : decode cX7_passHour 13 = .ok (.iload_n 2, 1) := by decide +kernel
theorem dX7_passHour_14 : decode cX7_passHour 14 = .ok (.aload_n 0, 1) := by decide +kernel
theorem dX7_passHour_15 : decode cX7_passHour 15 = .ok (.getfield 43, 3) := by decide +kernel
theorem dX7_passHour_18 : decode cX7_passHour 18 = .ok (.getfield 233, 3) := by decide +kernel
theorem dX7_passHour_21 : decode cX7_passHour 21 = .ok (.invokevirtual 215, 3) := by decide +kernel
theorem dX7_passHour_24 : decode cX7_passHour 24 = .ok (.istore_n 3, 1) := by decide +kernel
theorem dX7_passHour_25 : decode cX7_passHour 25 = .ok (.iload_n 3, 1) := by decide +kernel
theorem dX7_passHour_26 : decode cX7_passHour 26 = .ok (.iconst (-1), 1) := by decide +kernel
theorem dX7_passHour_27 : decode cX7_passHour 27 = .ok (.if_icmp .eq 53, 3) := by decide +kernel
theorem dX7_passHour_30 : decode cX7_passHour 30 = .ok (.aload_n 0, 1) := by decide +kernel
theorem dX7_passHour_31 : decode cX7_passHour 31 = .ok (.iload_n 2, 1) := by decide +kernel
theorem dX7_passHour_32 : decode cX7_passHour 32 = .ok (.iload_n 3, 1) := by decide +kernel
theorem dX7_passHour_33 : decode cX7_passHour 33 = .ok (.invokevirtual 318, 3) := by decide +kernel
theorem dX7_passHour_36 : decode cX7_passHour 36 = .ok (.ifCond .eq 15, 3) := by decide +kernel
theorem dX7_passHour_39 : decode cX7_passHour 39 = .ok (.aload_n 0, 1) := by decide +kernel
theorem dX7_passHour_40 : decode cX7_passHour 40 = .ok (.iload_n 2, 1) := by decide +kernel
theorem dX7_passHour_41 : decode cX7_passHour 41 = .ok (.iload_n 3, 1) := by decide +kernel
theorem dX7_passHour_42 : decode cX7_passHour 42 = .ok (.invokevirtual 321, 3) := by decide +kernel
theorem dX7_passHour_45 : decode cX7_passHour 45 = .ok (.iinc 1 1, 3) := by decide +kernel
theorem dX7_passHour_48 : decode cX7_passHour 48 = .ok (.goto 16, 3) := by decide +kernel
theorem dX7_passHour_51 : decode cX7_passHour 51 = .ok (.aload_n 0, 1) := by decide +kernel
theorem dX7_passHour_52 : decode cX7_passHour 52 = .ok (.getfield 43, 3) := by decide +kernel
theorem dX7_passHour_55 : decode cX7_passHour 55 = .ok (.getfield 244, 3) := by decide +kernel
theorem dX7_passHour_58 : decode cX7_passHour 58 = .ok (.iload_n 2, 1) := by decide +kernel
theorem dX7_passHour_59 : decode cX7_passHour 59 = .ok (.dup2, 1) := by decide +kernel
theorem dX7_passHour_60 : decode cX7_passHour 60 = .ok (.iaload, 1) := by decide +kernel
theorem dX7_passHour_61 : decode cX7_passHour 61 = .ok (.iconst 1, 1) := by decide +kernel
theorem dX7_passHour_62 : decode cX7_passHour 62 = .ok (.iadd, 1) := by decide +kernel
theorem dX7_passHour_63 : decode cX7_passHour 63 = .ok (.iastore, 1) := by decide +kernel
theorem dX7_passHour_64 : decode cX7_passHour 64 = .ok (.aload_n 0, 1) := by decide +kernel
theorem dX7_passHour_65 : decode cX7_passHour 65 = .ok (.getfield 43, 3) := by decide +kernel
theorem dX7_passHour_68 : decode cX7_passHour 68 = .ok (.iload_n 2, 1) := by decide +kernel
theorem dX7_passHour_69 : decode cX7_passHour 69 = .ok (.aload_n 0, 1) := by decide +kernel
theorem dX7_passHour_70 : decode cX7_passHour 70 = .ok (.getfield 43, 3) := by decide +kernel
theorem dX7_passHour_73 : decode cX7_passHour 73 = .ok (.getfield 233, 3) := by decide +kernel
theorem dX7_passHour_76 : decode cX7_passHour 76 = .ok (.iconst (-1), 1) := by decide +kernel
theorem dX7_passHour_77 : decode cX7_passHour 77 = .ok (.invokevirtual 230, 3) := by decide +kernel
theorem dX7_passHour_80 : decode cX7_passHour 80 = .ok (.iinc 2 1, 3) := by decide +kernel
theorem dX7_passHour_83 : decode cX7_passHour 83 = .ok (.goto (-79), 3) := by decide +kernel
theorem dX7_passHour_86 : decode cX7_passHour 86 = .ok (.aload_n 0, 1) := by decide +kernel
theorem dX7_passHour_87 : decode cX7_passHour 87 = .ok (.getfield 43, 3) := by decide +kernel
theorem dX7_passHour_90 : decode cX7_passHour 90 = .ok (.dup, 1) := by decide +kernel
theorem dX7_passHour_91 : decode cX7_passHour 91 = .ok (.getfield 233, 3) := by decide +kernel
theorem dX7_passHour_94 : decode cX7_passHour 94 = .ok (.iconst 1, 1) := by decide +kernel
theorem dX7_passHour_95 : decode cX7_passHour 95 = .ok (.iadd, 1) := by decide +kernel
theorem dX7_passHour_96 : decode cX7_passHour 96 = .ok (.putfield 233, 3) := by decide +kernel
theorem dX7_passHour_99 : decode cX7_passHour 99 = .ok (.iload_n 1, 1) := by decide +kernel
theorem dX7_passHour_100 : decode cX7_passHour 100 = .ok (.ireturn, 1) := by decide +kernel
theorem dX7_canBake_0 : decode cX7_canBake 0 = .ok (.aload_n 0, 1) := by decide +kernel
theorem dX7_canBake_1 : decode cX7_canBake 1 = .ok (.getfield 10, 3) := by decide +kernel
theorem dX7_canBake_4 : decode cX7_canBake 4 = .ok (.getfield 137, 3) := by decide +kernel
theorem dX7_canBake_7 : decode cX7_canBake 7 = .ok (.iload_n 2, 1) := by decide +kernel
theorem dX7_canBake_8 : decode cX7_canBake 8 = .ok (.invokestatic 175, 3) := by decide +kernel
theorem dX7_canBake_11 : decode cX7_canBake 11 = .ok (.ifCond .eq 40, 3) := by decide +kernel
theorem dX7_canBake_14 : decode cX7_canBake 14 = .ok (.aload_n 0, 1) := by decide +kernel
theorem dX7_canBake_15 : decode cX7_canBake 15 = .ok (.getfield 36, 3) := by decide +kernel
theorem dX7_canBake_18 : decode cX7_canBake 18 = .ok (.getfield 198, 3) := by decide +kernel
theorem dX7_canBake_21 : decode cX7_canBake 21 = .ok (.iload_n 1, 1) := by decide +kernel
theorem dX7_canBake_22 : decode cX7_canBake 22 = .ok (.iaload, 1) := by decide +kernel
theorem dX7_canBake_23 : decode cX7_canBake 23 = .ok (.aload_n 0, 1) := by decide +kernel
theorem dX7_canBake_24 : decode cX7_canBake 24 = .ok (.getfield 29, 3) := by decide +kernel
theorem dX7_canBake_27 : decode cX7_canBake 27 = .ok (.getfield 324, 3) := by decide +kernel
theorem dX7_canBake_30 : decode cX7_canBake 30 = .ok (.iload_n 2, 1) := by decide +kernel
theorem dX7_canBake_31 : decode cX7_canBake 31 = .ok (.iaload, 1) := by decide +kernel
theorem dX7_canBake_32 : decode cX7_canBake 32 = .ok (.if_icmp .lt 19, 3) := by decide +kernel
theorem dX7_canBake_35 : decode cX7_canBake 35 = .ok (.aload_n 0, 1) := by decide +kernel
theorem dX7_canBake_36 : decode cX7_canBake 36 = .ok (.getfield 50, 3) := by decide +kernel
theorem dX7_canBake_39 : decode cX7_canBake 39 = .ok (.getfield 247, 3) := by decide +kernel
theorem dX7_canBake_42 : decode cX7_canBake 42 = .ok (.bipush 60, 2) := by decide +kernel
theorem dX7_canBake_44 : decode cX7_canBake 44 = .ok (.if_icmp .ge 7, 3) := by decide +kernel
theorem dX7_canBake_47 : decode cX7_canBake 47 = .ok (.iconst 1, 1) := by decide +kernel
theorem dX7_canBake_48 : decode cX7_canBake 48 = .ok (.goto 4, 3) := by decide +kernel
theorem dX7_canBake_51 : decode cX7_canBake 51 = .ok (.iconst 0, 1) := by decide +kernel
theorem dX7_canBake_52 : decode cX7_canBake 52 = .ok (.ireturn, 1) := by decide +kernel
theorem dX7_bake_0 : decode cX7_bake 0 = .ok (.aload_n 0, 1) := by decide +kernel
theorem dX7_bake_1 : decode cX7_bake 1 = .ok (.getfield 36, 3) := by decide +kernel
theorem dX7_bake_4 : decode cX7_bake 4 = .ok (.iload_n 1, 1) := by decide +kernel
theorem dX7_bake_5 : decode cX7_bake 5 = .ok (.aload_n 0, 1) := by decide +kernel
theorem dX7_bake_6 : decode cX7_bake 6 = .ok (.getfield 29, 3) := by decide +kernel
theorem dX7_bake_9 : decode cX7_bake 9 = .ok (.getfield 324, 3) := by decide +kernel
theorem dX7_bake_12 : decode cX7_bake 12 = .ok (.iload_n 2, 1) := by decide +kernel
theorem dX7_bake_13 : decode cX7_bake 13 = .ok (.iaload, 1) := by decide +kernel
theorem dX7_bake_14 : decode cX7_bake 14 = .ok (.invokevirtual 327, 3) := by decide +kernel
theorem dX7_bake_17 : decode cX7_bake 17 = .ok (.istore_n 3, 1) := by decide +kernel
theorem dX7_bake_18 : decode cX7_bake 18 = .ok (.aload_n 0, 1) := by decide +kernel
theorem dX7_bake_19 : decode cX7_bake 19 = .ok (.getfield 50, 3) := by decide +kernel
theorem dX7_bake_22 : decode cX7_bake 22 = .ok (.iload_n 2, 1) := by decide +kernel
theorem dX7_bake_23 : decode cX7_bake 23 = .ok (.iload_n 3, 1) := by decide +kernel
theorem dX7_bake_24 : decode cX7_bake 24 = .ok (.aload_n 0, 1) := by decide +kernel
theorem dX7_bake_25 : decode cX7_bake 25 = .ok (.getfield 29, 3) := by decide +kernel
theorem dX7_bake_28 : decode cX7_bake 28 = .ok (.getfield 330, 3) := by decide +kernel
theorem dX7_bake_31 : decode cX7_bake 31 = .ok (.iload_n 2, 1) := by decide +kernel
theorem dX7_bake_32 : decode cX7_bake 32 = .ok (.iaload, 1) := by decide +kernel
theorem dX7_bake_33 : decode cX7_bake 33 = .ok (.invokevirtual 333, 3) := by decide +kernel
theorem dX7_bake_36 : decode cX7_bake 36 = .ok (.return_, 1) := by decide +kernel
theorem dX7_barredUnder_0 : decode cX7_barredUnder 0 = .ok (.aload_n 1, 1) := by decide +kernel
theorem dX7_barredUnder_1 : decode cX7_barredUnder 1 = .ok (.getfield 137, 3) := by decide +kernel
theorem dX7_barredUnder_4 : decode cX7_barredUnder 4 = .ok (.aload_n 0, 1) := by decide +kernel
theorem dX7_barredUnder_5 : decode cX7_barredUnder 5 = .ok (.getfield 50, 3) := by decide +kernel
theorem dX7_barredUnder_8 : decode cX7_barredUnder 8 = .ok (.getfield 253, 3) := by decide +kernel
theorem dX7_barredUnder_11 : decode cX7_barredUnder 11 = .ok (.iload_n 2, 1) := by decide +kernel
theorem dX7_barredUnder_12 : decode cX7_barredUnder 12 = .ok (.iaload, 1) := by decide +kernel
theorem dX7_barredUnder_13 : decode cX7_barredUnder 13 = .ok (.invokestatic 175, 3) := by decide +kernel
theorem dX7_barredUnder_16 : decode cX7_barredUnder 16 = .ok (.ifCond .eq 7, 3) := by decide +kernel
theorem dX7_barredUnder_19 : decode cX7_barredUnder 19 = .ok (.iconst 0, 1) := by decide +kernel
theorem dX7_barredUnder_20 : decode cX7_barredUnder 20 = .ok (.goto 4, 3) := by decide +kernel
theorem dX7_barredUnder_23 : decode cX7_barredUnder 23 = .ok (.iconst 1, 1) := by decide +kernel
theorem dX7_barredUnder_24 : decode cX7_barredUnder 24 = .ok (.istore_n 3, 1) := by decide +kernel
theorem dX7_barredUnder_25 : decode cX7_barredUnder 25 = .ok (.aload_n 0, 1) := by decide +kernel
theorem dX7_barredUnder_26 : decode cX7_barredUnder 26 = .ok (.getfield 50, 3) := by decide +kernel
theorem dX7_barredUnder_29 : decode cX7_barredUnder 29 = .ok (.getfield 256, 3) := by decide +kernel
theorem dX7_barredUnder_32 : decode cX7_barredUnder 32 = .ok (.iload_n 2, 1) := by decide +kernel
theorem dX7_barredUnder_33 : decode cX7_barredUnder 33 = .ok (.iaload, 1) := by decide +kernel
theorem dX7_barredUnder_34 : decode cX7_barredUnder 34 = .ok (.aload_n 0, 1) := by decide +kernel
theorem dX7_barredUnder_35 : decode cX7_barredUnder 35 = .ok (.getfield 36, 3) := by decide +kernel
theorem dX7_barredUnder_38 : decode cX7_barredUnder 38 = .ok (.getfield 303, 3) := by decide +kernel
theorem dX7_barredUnder_41 : decode cX7_barredUnder 41 = .ok (.iand, 1) := by decide +kernel
theorem dX7_barredUnder_42 : decode cX7_barredUnder 42 = .ok (.ifCond .ne 7, 3) := by decide +kernel
theorem dX7_barredUnder_45 : decode cX7_barredUnder 45 = .ok (.iconst 0, 1) := by decide +kernel
theorem dX7_barredUnder_46 : decode cX7_barredUnder 46 = .ok (.goto 4, 3) := by decide +kernel
theorem dX7_barredUnder_49 : decode cX7_barredUnder 49 = .ok (.iconst 2, 1) := by decide +kernel
theorem dX7_barredUnder_50 : decode cX7_barredUnder 50 = .ok (.istore 4, 2) := by decide +kernel
theorem dX7_barredUnder_52 : decode cX7_barredUnder 52 = .ok (.iload_n 3, 1) := by decide +kernel
theorem dX7_barredUnder_53 : decode cX7_barredUnder 53 = .ok (.iload 4, 2) := by decide +kernel
theorem dX7_barredUnder_55 : decode cX7_barredUnder 55 = .ok (.iadd, 1) := by decide +kernel
theorem dX7_barredUnder_56 : decode cX7_barredUnder 56 = .ok (.ireturn, 1) := by decide +kernel
theorem dX7_callBackUnheld_0 : decode cX7_callBackUnheld 0 = .ok (.iconst 0, 1) := by decide +kernel
theorem dX7_callBackUnheld_1 : decode cX7_callBackUnheld 1 = .ok (.istore_n 3, 1) := by decide +kernel
theorem dX7_callBackUnheld_2 : decode cX7_callBackUnheld 2 = .ok (.iload_n 3, 1) := by decide +kernel
theorem dX7_callBackUnheld_3 : decode cX7_callBackUnheld 3 = .ok (.aload_n 0, 1) := by decide +kernel
theorem dX7_callBackUnheld_4 : decode cX7_callBackUnheld 4 = .ok (.getfield 10, 3) := by decide +kernel
theorem dX7_callBackUnheld_7 : decode cX7_callBackUnheld 7 = .ok (.getfield 125, 3) := by decide +kernel
theorem dX7_callBackUnheld_10 : decode cX7_callBackUnheld 10 = .ok (.if_icmp .ge 22, 3) := by decide +kernel
theorem dX7_callBackUnheld_13 : decode cX7_callBackUnheld 13 = .ok (.lload_n 1, 1) := by decide +kernel
theorem dX7_callBackUnheld_14 : decode cX7_callBackUnheld 14 = .ok (.iload_n 3, 1) := by decide +kernel
theorem dX7_callBackUnheld_15 : decode cX7_callBackUnheld 15 = .ok (.invokestatic 175, 3) := by decide +kernel
theorem dX7_callBackUnheld_18 : decode cX7_callBackUnheld 18 = .ok (.ifCond .eq 8, 3) := by decide +kernel
theorem dX7_callBackUnheld_21 : decode cX7_callBackUnheld 21 = .ok (.aload_n 0, 1) := by decide +kernel
theorem dX7_callBackUnheld_22 : decode cX7_callBackUnheld 22 = .ok (.iload_n 3, 1) := by decide +kernel
theorem dX7_callBackUnheld_23 : decode cX7_callBackUnheld 23 = .ok (.invokevirtual 334, 3) := by decide +kernel
theorem dX7_callBackUnheld_26 : decode cX7_callBackUnheld 26 = .ok (.iinc 3 1, 3) := by decide +kernel
theorem dX7_callBackUnheld_29 : decode cX7_callBackUnheld 29 = .ok (.goto (-27), 3) := by decide +kernel
theorem dX7_callBackUnheld_32 : decode cX7_callBackUnheld 32 = .ok (.return_, 1) := by decide +kernel
theorem dX7_callBackVersion_0 : decode cX7_callBackVersion 0 = .ok (.iconst 0, 1) := by decide +kernel
theorem dX7_callBackVersion_1 : decode cX7_callBackVersion 1 = .ok (.istore_n 2, 1) := by decide +kernel
theorem dX7_callBackVersion_2 : decode cX7_callBackVersion 2 = .ok (.iload_n 2, 1) := by decide +kernel
theorem dX7_callBackVersion_3 : decode cX7_callBackVersion 3 = .ok (.aload_n 0, 1) := by decide +kernel
theorem dX7_callBackVersion_4 : decode cX7_callBackVersion 4 = .ok (.getfield 50, 3) := by decide +kernel
theorem dX7_callBackVersion_7 : decode cX7_callBackVersion 7 = .ok (.getfield 247, 3) := by decide +kernel
theorem dX7_callBackVersion_10 : decode cX7_callBackVersion 10 = .ok (.if_icmp .ge 29, 3) := by decide +kernel
theorem dX7_callBackVersion_13 : decode cX7_callBackVersion 13 = .ok (.aload_n 0, 1) := by decide +kernel
theorem dX7_callBackVersion_14 : decode cX7_callBackVersion 14 = .ok (.getfield 50, 3) := by decide +kernel
theorem dX7_callBackVersion_17 : decode cX7_callBackVersion 17 = .ok (.getfield 253, 3) := by decide +kernel
theorem dX7_callBackVersion_20 : decode cX7_callBackVersion 20 = .ok (.iload_n 2, 1) := by decide +kernel
theorem dX7_callBackVersion_21 : decode cX7_callBackVersion 21 = .ok (.iaload, 1) := by decide +kernel
theorem dX7_callBackVersion_22 : decode cX7_callBackVersion 22 = .ok (.iload_n 1, 1) := by decide +kernel
theorem dX7_callBackVersion_23 : decode cX7_callBackVersion 23 = .ok (.if_icmp .ne 10, 3) := by decide +kernel
theorem dX7_callBackVersion_26 : decode cX7_callBackVersion 26 = .ok (.aload_n 0, 1) := by decide +kernel
theorem dX7_callBackVersion_27 : decode cX7_callBackVersion 27 = .ok (.iload_n 2, 1) := by decide +kernel
theorem dX7_callBackVersion_28 : decode cX7_callBackVersion 28 = .ok (.iconst 1, 1) := by decide +kernel
theorem dX7_callBackVersion_29 : decode cX7_callBackVersion 29 = .ok (.invokevirtual 337, 3) := by decide +kernel
theorem dX7_callBackVersion_32 : decode cX7_callBackVersion 32 = .ok (.pop, 1) := by decide +kernel
theorem dX7_callBackVersion_33 : decode cX7_callBackVersion 33 = .ok (.iinc 2 1, 3) := by decide +kernel
theorem dX7_callBackVersion_36 : decode cX7_callBackVersion 36 = .ok (.goto (-34), 3) := by decide +kernel
theorem dX7_callBackVersion_39 : decode cX7_callBackVersion 39 = .ok (.return_, 1) := by decide +kernel
theorem dX7_callBackLot_0 : decode cX7_callBackLot 0 = .ok (.iconst 0, 1) := by decide +kernel
theorem dX7_callBackLot_1 : decode cX7_callBackLot 1 = .ok (.istore_n 2, 1) := by decide +kernel
theorem dX7_callBackLot_2 : decode cX7_callBackLot 2 = .ok (.iconst 0, 1) := by decide +kernel
theorem dX7_callBackLot_3 : decode cX7_callBackLot 3 = .ok (.istore_n 3, 1) := by decide +kernel
theorem dX7_callBackLot_4 : decode cX7_callBackLot 4 = .ok (.iload_n 3, 1) := by decide +kernel
theorem dX7_callBackLot_5 : decode cX7_callBackLot 5 = .ok (.aload_n 0, 1) := by decide +kernel
theorem dX7_callBackLot_6 : decode cX7_callBackLot 6 = .ok (.getfield 50, 3) := by decide +kernel
theorem dX7_callBackLot_9 : decode cX7_callBackLot 9 = .ok (.getfield 247, 3) := by decide +kernel
theorem dX7_callBackLot_12 : decode cX7_callBackLot 12 = .ok (.if_icmp .ge 35, 3) := by decide +kernel
theorem dX7_callBackLot_15 : decode cX7_callBackLot 15 = .ok (.aload_n 0, 1) := by decide +kernel
theorem dX7_callBackLot_16 : decode cX7_callBackLot 16 = .ok (.getfield 50, 3) := by decide +kernel
theorem dX7_callBackLot_19 : decode cX7_callBackLot 19 = .ok (.getfield 256, 3) := by decide +kernel
theorem dX7_callBackLot_22 : decode cX7_callBackLot 22 = .ok (.iload_n 3, 1) := by decide +kernel
theorem dX7_callBackLot_23 : decode cX7_callBackLot 23 = .ok (.iaload, 1) := by decide +kernel
theorem dX7_callBackLot_24 : decode cX7_callBackLot 24 = .ok (.i2l, 1) := by decide +kernel
theorem dX7_callBackLot_25 : decode cX7_callBackLot 25 = .ok (.iload_n 1, 1) := by decide +kernel
theorem dX7_callBackLot_26 : decode cX7_callBackLot 26 = .ok (.invokestatic 175, 3) := by decide +kernel
theorem dX7_callBackLot_29 : decode cX7_callBackLot 29 = .ok (.ifCond .eq 12, 3) := by decide +kernel
theorem dX7_callBackLot_32 : decode cX7_callBackLot 32 = .ok (.iload_n 2, 1) := by decide +kernel
theorem dX7_callBackLot_33 : decode cX7_callBackLot 33 = .ok (.aload_n 0, 1) := by decide +kernel
theorem dX7_callBackLot_34 : decode cX7_callBackLot 34 = .ok (.iload_n 3, 1) := by decide +kernel
theorem dX7_callBackLot_35 : decode cX7_callBackLot 35 = .ok (.iconst 2, 1) := by decide +kernel
theorem dX7_callBackLot_36 : decode cX7_callBackLot 36 = .ok (.invokevirtual 337, 3) := by decide +kernel
theorem dX7_callBackLot_39 : decode cX7_callBackLot 39 = .ok (.iadd, 1) := by decide +kernel
theorem dX7_callBackLot_40 : decode cX7_callBackLot 40 = .ok (.istore_n 2, 1) := by decide +kernel
theorem dX7_callBackLot_41 : decode cX7_callBackLot 41 = .ok (.iinc 3 1, 3) := by decide +kernel
theorem dX7_callBackLot_44 : decode cX7_callBackLot 44 = .ok (.goto (-40), 3) := by decide +kernel
theorem dX7_callBackLot_47 : decode cX7_callBackLot 47 = .ok (.iload_n 2, 1) := by decide +kernel
theorem dX7_callBackLot_48 : decode cX7_callBackLot 48 = .ok (.ireturn, 1) := by decide +kernel
theorem dX7_callBackBatch_0 : decode cX7_callBackBatch 0 = .ok (.aload_n 0, 1) := by decide +kernel
theorem dX7_callBackBatch_1 : decode cX7_callBackBatch 1 = .ok (.getfield 50, 3) := by decide +kernel
theorem dX7_callBackBatch_4 : decode cX7_callBackBatch 4 = .ok (.getfield 273, 3) := by decide +kernel
theorem dX7_callBackBatch_7 : decode cX7_callBackBatch 7 = .ok (.iload_n 1, 1) := by decide +kernel
theorem dX7_callBackBatch_8 : decode cX7_callBackBatch 8 = .ok (.iaload, 1) := by decide +kernel
theorem dX7_callBackBatch_9 : decode cX7_callBackBatch 9 = .ok (.istore_n 3, 1) := by decide +kernel
theorem dX7_callBackBatch_10 : decode cX7_callBackBatch 10 = .ok (.iload_n 3, 1) := by decide +kernel
theorem dX7_callBackBatch_11 : decode cX7_callBackBatch 11 = .ok (.ifCond .le 23, 3) := by decide +kernel
theorem dX7_callBackBatch_14 : decode cX7_callBackBatch 14 = .ok (.aload_n 0, 1) := by decide +kernel
theorem dX7_callBackBatch_15 : decode cX7_callBackBatch 15 = .ok (.getfield 50, 3) := by decide +kernel
theorem dX7_callBackBatch_18 : decode cX7_callBackBatch 18 = .ok (.getfield 273, 3) := by decide +kernel
theorem dX7_callBackBatch_21 : decode cX7_callBackBatch 21 = .ok (.iload_n 1, 1) := by decide +kernel
theorem dX7_callBackBatch_22 : decode cX7_callBackBatch 22 = .ok (.iconst 0, 1) := by decide +kernel
theorem dX7_callBackBatch_23 : decode cX7_callBackBatch 23 = .ok (.iastore, 1) := by decide +kernel
theorem dX7_callBackBatch_24 : decode cX7_callBackBatch 24 = .ok (.aload_n 0, 1) := by decide +kernel
theorem dX7_callBackBatch_25 : decode cX7_callBackBatch 25 = .ok (.getfield 57, 3) := by decide +kernel
theorem dX7_callBackBatch_28 : decode cX7_callBackBatch 28 = .ok (.iload_n 1, 1) := by decide +kernel
theorem dX7_callBackBatch_29 : decode cX7_callBackBatch 29 = .ok (.iload_n 3, 1) := by decide +kernel
theorem dX7_callBackBatch_30 : decode cX7_callBackBatch 30 = .ok (.iload_n 2, 1) := by decide +kernel
theorem dX7_callBackBatch_31 : decode cX7_callBackBatch 31 = .ok (.invokevirtual 340, 3) := by decide +kernel
theorem dX7_callBackBatch_34 : decode cX7_callBackBatch 34 = .ok (.iload_n 3, 1) := by decide +kernel
theorem dX7_callBackBatch_35 : decode cX7_callBackBatch 35 = .ok (.ireturn, 1) := by decide +kernel
theorem dX7_repeatHistory_0 : decode cX7_repeatHistory 0 = .ok (.aload_n 0, 1) := by decide +kernel
theorem dX7_repeatHistory_1 : decode cX7_repeatHistory 1 = .ok (.getfield 16, 3) := by decide +kernel
theorem dX7_repeatHistory_4 : decode cX7_repeatHistory 4 = .ok (.invokevirtual 343, 3) := by decide +kernel
theorem dX7_repeatHistory_7 : decode cX7_repeatHistory 7 = .ok (.iconst 0, 1) := by decide +kernel
theorem dX7_repeatHistory_8 : decode cX7_repeatHistory 8 = .ok (.istore_n 1, 1) := by decide +kernel
theorem dX7_repeatHistory_9 : decode cX7_repeatHistory 9 = .ok (.iload_n 1, 1) := by decide +kernel
theorem dX7_repeatHistory_10 : decode cX7_repeatHistory 10 = .ok (.aload_n 0, 1) := by decide +kernel
theorem dX7_repeatHistory_11 : decode cX7_repeatHistory 11 = .ok (.getfield 22, 3) := by decide +kernel
theorem dX7_repeatHistory_14 : decode cX7_repeatHistory 14 = .ok (.getfield 346, 3) := by decide +kernel
theorem dX7_repeatHistory_17 : decode cX7_repeatHistory 17 = .ok (.if_icmp .ge 40, 3) := by decide +kernel
theorem dX7_repeatHistory_20 : decode cX7_repeatHistory 20 = .ok (.aload_n 0, 1) := by decide +kernel
theorem dX7_repeatHistory_21 : decode cX7_repeatHistory 21 = .ok (.aload_n 0, 1) := by decide +kernel
theorem dX7_repeatHistory_22 : decode cX7_repeatHistory 22 = .ok (.getfield 22, 3) := by decide +kernel
theorem dX7_repeatHistory_25 : decode cX7_repeatHistory 25 = .ok (.getfield 347, 3) := by decide +kernel
theorem dX7_repeatHistory_28 : decode cX7_repeatHistory 28 = .ok (.iload_n 1, 1) := by decide +kernel
theorem dX7_repeatHistory_29 : decode cX7_repeatHistory 29 = .ok (.iaload, 1) := by decide +kernel
theorem dX7_repeatHistory_30 : decode cX7_repeatHistory 30 = .ok (.aload_n 0, 1) := by decide +kernel
theorem dX7_repeatHistory_31 : decode cX7_repeatHistory 31 = .ok (.getfield 22, 3) := by decide +kernel
theorem dX7_repeatHistory_34 : decode cX7_repeatHistory 34 = .ok (.getfield 350, 3) := by decide +kernel
theorem dX7_repeatHistory_37 : decode cX7_repeatHistory 37 = .ok (.iload_n 1, 1) := by decide +kernel
theorem dX7_repeatHistory_38 : decode cX7_repeatHistory 38 = .ok (.iaload, 1) := by decide +kernel
theorem dX7_repeatHistory_39 : decode cX7_repeatHistory 39 = .ok (.aload_n 0, 1) := by decide +kernel
theorem dX7_repeatHistory_40 : decode cX7_repeatHistory 40 = .ok (.getfield 22, 3) := by decide +kernel
theorem dX7_repeatHistory_43 : decode cX7_repeatHistory 43 = .ok (.getfield 353, 3) := by decide +kernel
theorem dX7_repeatHistory_46 : decode cX7_repeatHistory 46 = .ok (.iload_n 1, 1) := by decide +kernel
theorem dX7_repeatHistory_47 : decode cX7_repeatHistory 47 = .ok (.iaload, 1) := by decide +kernel
theorem dX7_repeatHistory_48 : decode cX7_repeatHistory 48 = .ok (.invokevirtual 356, 3) := by decide +kernel
theorem dX7_repeatHistory_51 : decode cX7_repeatHistory 51 = .ok (.iinc 1 1, 3) := by decide +kernel
theorem dX7_repeatHistory_54 : decode cX7_repeatHistory 54 = .ok (.goto (-45), 3) := by decide +kernel
theorem dX7_repeatHistory_57 : decode cX7_repeatHistory 57 = .ok (.return_, 1) := by decide +kernel
theorem dX7_repeatCall_0 : decode cX7_repeatCall 0 = .ok (.iload_n 1, 1) := by decide +kernel
theorem dX7_repeatCall_1 : decode cX7_repeatCall 1 = .ok (.tableswitch 95 0 4 #[35, 46, 57, 70, 82], 35) := by decide +kernel
theorem dX7_repeatCall_36 : decode cX7_repeatCall 36 = .ok (.aload_n 0, 1) := by decide +kernel
theorem dX7_repeatCall_37 : decode cX7_repeatCall 37 = .ok (.getfield 16, 3) := by decide +kernel
theorem dX7_repeatCall_40 : decode cX7_repeatCall 40 = .ok (.iload_n 2, 1) := by decide +kernel
theorem dX7_repeatCall_41 : decode cX7_repeatCall 41 = .ok (.putfield 68, 3) := by decide +kernel
theorem dX7_repeatCall_44 : decode cX7_repeatCall 44 = .ok (.goto 52, 3) := by decide +kernel
theorem dX7_repeatCall_47 : decode cX7_repeatCall 47 = .ok (.aload_n 0, 1) := by decide +kernel
theorem dX7_repeatCall_48 : decode cX7_repeatCall 48 = .ok (.getfield 16, 3) := by decide +kernel
theorem dX7_repeatCall_51 : decode cX7_repeatCall 51 = .ok (.iload_n 2, 1) := by decide +kernel
theorem dX7_repeatCall_52 : decode cX7_repeatCall 52 = .ok (.invokevirtual 95, 3) := by decide +kernel
theorem dX7_repeatCall_55 : decode cX7_repeatCall 55 = .ok (.goto 41, 3) := by decide +kernel
theorem dX7_repeatCall_58 : decode cX7_repeatCall 58 = .ok (.aload_n 0, 1) := by decide +kernel
theorem dX7_repeatCall_59 : decode cX7_repeatCall 59 = .ok (.getfield 16, 3) := by decide +kernel
theorem dX7_repeatCall_62 : decode cX7_repeatCall 62 = .ok (.iload_n 2, 1) := by decide +kernel
theorem dX7_repeatCall_63 : decode cX7_repeatCall 63 = .ok (.iload_n 3, 1) := by decide +kernel
theorem dX7_repeatCall_64 : decode cX7_repeatCall 64 = .ok (.invokevirtual 110, 3) := by decide +kernel
theorem dX7_repeatCall_67 : decode cX7_repeatCall 67 = .ok (.pop, 1) := by decide +kernel
theorem dX7_repeatCall_68 : decode cX7_repeatCall 68 = .ok (.goto 28, 3) := by decide +kernel
theorem dX7_repeatCall_71 : decode cX7_repeatCall 71 = .ok (.aload_n 0, 1) := by decide +kernel
theorem dX7_repeatCall_72 : decode cX7_repeatCall 72 = .ok (.getfield 16, 3) := by decide +kernel
theorem dX7_repeatCall_75 : decode cX7_repeatCall 75 = .ok (.iload_n 2, 1) := by decide +kernel
theorem dX7_repeatCall_76 : decode cX7_repeatCall 76 = .ok (.invokevirtual 130, 3) := by decide +kernel
theorem dX7_repeatCall_79 : decode cX7_repeatCall 79 = .ok (.pop, 1) := by decide +kernel
theorem dX7_repeatCall_80 : decode cX7_repeatCall 80 = .ok (.goto 16, 3) := by decide +kernel
theorem dX7_repeatCall_83 : decode cX7_repeatCall 83 = .ok (.aload_n 0, 1) := by decide +kernel
theorem dX7_repeatCall_84 : decode cX7_repeatCall 84 = .ok (.getfield 16, 3) := by decide +kernel
theorem dX7_repeatCall_87 : decode cX7_repeatCall 87 = .ok (.iload_n 2, 1) := by decide +kernel
theorem dX7_repeatCall_88 : decode cX7_repeatCall 88 = .ok (.iload_n 3, 1) := by decide +kernel
theorem dX7_repeatCall_89 : decode cX7_repeatCall 89 = .ok (.invokevirtual 141, 3) := by decide +kernel
theorem dX7_repeatCall_92 : decode cX7_repeatCall 92 = .ok (.pop, 1) := by decide +kernel
theorem dX7_repeatCall_93 : decode cX7_repeatCall 93 = .ok (.goto 3, 3) := by decide +kernel
theorem dX7_repeatCall_96 : decode cX7_repeatCall 96 = .ok (.return_, 1) := by decide +kernel
end
section
theorem dL_low_0 : decode cL_low 0 = .ok (.iload_n 0, 1) := by decide +kernel
theorem dL_low_1 : decode cL_low 1 = .ok (.ldc 7, 2) := by decide +kernel
theorem dL_low_3 : decode cL_low 3 = .ok (.iand, 1) := by decide +kernel
theorem dL_low_4 : decode cL_low 4 = .ok (.iload_n 1, 1) := by decide +kernel
theorem dL_low_5 : decode cL_low 5 = .ok (.irem, 1) := by decide +kernel
theorem dL_low_6 : decode cL_low 6 = .ok (.ireturn, 1) := by decide +kernel
theorem dL_cell_0 : decode cL_cell 0 = .ok (.iload_n 1, 1) := by decide +kernel
theorem dL_cell_1 : decode cL_cell 1 = .ok (.aload_n 0, 1) := by decide +kernel
theorem dL_cell_2 : decode cL_cell 2 = .ok (.arraylength, 1) := by decide +kernel
theorem dL_cell_3 : decode cL_cell 3 = .ok (.if_icmp .ge 9, 3) := by decide +kernel
theorem dL_cell_6 : decode cL_cell 6 = .ok (.aload_n 0, 1) := by decide +kernel
theorem dL_cell_7 : decode cL_cell 7 = .ok (.iload_n 1, 1) := by decide +kernel
theorem dL_cell_8 : decode cL_cell 8 = .ok (.iaload, 1) := by decide +kernel
theorem dL_cell_9 : decode cL_cell 9 = .ok (.goto 11, 3) := by decide +kernel
theorem dL_cell_12 : decode cL_cell 12 = .ok (.ldc 8, 2) := by decide +kernel
theorem dL_cell_14 : decode cL_cell 14 = .ok (.iload_n 1, 1) := by decide +kernel
theorem dL_cell_15 : decode cL_cell 15 = .ok (.imul, 1) := by decide +kernel
theorem dL_cell_16 : decode cL_cell 16 = .ok (.sipush 977, 3) := by decide +kernel
theorem dL_cell_19 : decode cL_cell 19 = .ok (.iadd, 1) := by decide +kernel
theorem dL_cell_20 : decode cL_cell 20 = .ok (.ireturn, 1) := by decide +kernel
theorem dL_vote_0 : decode cL_vote 0 = .ok (.aload_n 0, 1) := by decide +kernel
theorem dL_vote_1 : decode cL_vote 1 = .ok (.iload_n 1, 1) := by decide +kernel
theorem dL_vote_2 : decode cL_vote 2 = .ok (.iload_n 2, 1) := by decide +kernel
theorem dL_vote_3 : decode cL_vote 3 = .ok (.invokevirtual 9, 3) := by decide +kernel
theorem dL_vote_6 : decode cL_vote 6 = .ok (.ireturn, 1) := by decide +kernel
theorem dL_vote_7 : decode cL_vote 7 = .ok (.astore_n 3, 1) := by decide +kernel
theorem dL_vote_8 : decode cL_vote 8 = .ok (.iconst 0, 1) := by decide +kernel
theorem dL_vote_9 : decode cL_vote 9 = .ok (.ireturn, 1) := by decide +kernel
theorem dL_propose_0 : decode cL_propose 0 = .ok (.aload_n 0, 1) := by decide +kernel
theorem dL_propose_1 : decode cL_propose 1 = .ok (.iload_n 1, 1) := by decide +kernel
theorem dL_propose_2 : decode cL_propose 2 = .ok (.iload_n 2, 1) := by decide +kernel
theorem dL_propose_3 : decode cL_propose 3 = .ok (.iload_n 3, 1) := by decide +kernel
theorem dL_propose_4 : decode cL_propose 4 = .ok (.iload 4, 2) := by decide +kernel
theorem dL_propose_6 : decode cL_propose 6 = .ok (.invokevirtual 17, 3) := by decide +kernel
theorem dL_propose_9 : decode cL_propose 9 = .ok (.ireturn, 1) := by decide +kernel
theorem dL_propose_10 : decode cL_propose 10 = .ok (.astore 5, 2) := by decide +kernel
theorem dL_propose_12 : decode cL_propose 12 = .ok (.bipush (-3), 2) := by decide +kernel
theorem dL_propose_14 : decode cL_propose 14 = .ok (.ireturn, 1) := by decide +kernel
theorem dL_tell_0 : decode cL_tell 0 = .ok (.aload_n 0, 1) := by decide +kernel
theorem dL_tell_1 : decode cL_tell 1 = .ok (.iload_n 1, 1) := by decide +kernel
theorem dL_tell_2 : decode cL_tell 2 = .ok (.iload_n 2, 1) := by decide +kernel
theorem dL_tell_3 : decode cL_tell 3 = .ok (.invokevirtual 21, 3) := by decide +kernel
theorem dL_tell_6 : decode cL_tell 6 = .ok (.ireturn, 1) := by decide +kernel
theorem dL_tell_7 : decode cL_tell 7 = .ok (.astore_n 3, 1) := by decide +kernel
theorem dL_tell_8 : decode cL_tell 8 = .ok (.bipush (-3), 2) := by decide +kernel
theorem dL_tell_10 : decode cL_tell 10 = .ok (.ireturn, 1) := by decide +kernel
theorem dL_deliver_0 : decode cL_deliver 0 = .ok (.aload_n 0, 1) := by decide +kernel
theorem dL_deliver_1 : decode cL_deliver 1 = .ok (.iload_n 1, 1) := by decide +kernel
theorem dL_deliver_2 : decode cL_deliver 2 = .ok (.iload_n 2, 1) := by decide +kernel
theorem dL_deliver_3 : decode cL_deliver 3 = .ok (.iload_n 3, 1) := by decide +kernel
theorem dL_deliver_4 : decode cL_deliver 4 = .ok (.invokevirtual 25, 3) := by decide +kernel
theorem dL_deliver_7 : decode cL_deliver 7 = .ok (.ireturn, 1) := by decide +kernel
theorem dL_deliver_8 : decode cL_deliver 8 = .ok (.astore 4, 2) := by decide +kernel
theorem dL_deliver_10 : decode cL_deliver 10 = .ok (.bipush (-3), 2) := by decide +kernel
theorem dL_deliver_12 : decode cL_deliver 12 = .ok (.ireturn, 1) := by decide +kernel
theorem dL_book_0 : decode cL_book 0 = .ok (.aload_n 0, 1) := by decide +kernel
theorem dL_book_1 : decode cL_book 1 = .ok (.iload_n 1, 1) := by decide +kernel
theorem dL_book_2 : decode cL_book 2 = .ok (.iload_n 2, 1) := by decide +kernel
theorem dL_book_3 : decode cL_book 3 = .ok (.iload_n 3, 1) := by decide +kernel
theorem dL_book_4 : decode cL_book 4 = .ok (.invokevirtual 29, 3) := by decide +kernel
theorem dL_book_7 : decode cL_book 7 = .ok (.ireturn, 1) := by decide +kernel
theorem dL_book_8 : decode cL_book 8 = .ok (.astore 4, 2) := by decide +kernel
theorem dL_book_10 : decode cL_book 10 = .ok (.bipush (-3), 2) := by decide +kernel
theorem dL_book_12 : decode cL_book 12 = .ok (.ireturn, 1) := by decide +kernel
theorem dL_sell_0 : decode cL_sell 0 = .ok (.aload_n 0, 1) := by decide +kernel
theorem dL_sell_1 : decode cL_sell 1 = .ok (.iload_n 1, 1) := by decide +kernel
theorem dL_sell_2 : decode cL_sell 2 = .ok (.iload_n 2, 1) := by decide +kernel
theorem dL_sell_3 : decode cL_sell 3 = .ok (.invokevirtual 32, 3) := by decide +kernel
theorem dL_sell_6 : decode cL_sell 6 = .ok (.ireturn, 1) := by decide +kernel
theorem dL_sell_7 : decode cL_sell 7 = .ok (.astore_n 3, 1) := by decide +kernel
theorem dL_sell_8 : decode cL_sell 8 = .ok (.bipush (-3), 2) := by decide +kernel
theorem dL_sell_10 : decode cL_sell 10 = .ok (.ireturn, 1) := by decide +kernel
theorem dL_condemn_0 : decode cL_condemn 0 = .ok (.aload_n 0, 1) := by decide +kernel
theorem dL_condemn_1 : decode cL_condemn 1 = .ok (.iload_n 1, 1) := by decide +kernel
theorem dL_condemn_2 : decode cL_condemn 2 = .ok (.invokevirtual 35, 3) := by decide +kernel
theorem dL_condemn_5 : decode cL_condemn 5 = .ok (.ireturn, 1) := by decide +kernel
theorem dL_condemn_6 : decode cL_condemn 6 = .ok (.astore_n 2, 1) := by decide +kernel
theorem dL_condemn_7 : decode cL_condemn 7 = .ok (.bipush (-3), 2) := by decide +kernel
theorem dL_condemn_9 : decode cL_condemn 9 = .ok (.ireturn, 1) := by decide +kernel
theorem dL_bits_0 : decode cL_bits 0 = .ok (.iconst 0, 1) := by decide +kernel
theorem dL_bits_1 : decode cL_bits 1 = .ok (.istore_n 1, 1) := by decide +kernel
theorem dL_bits_2 : decode cL_bits 2 = .ok (.iload_n 0, 1) := by decide +kernel
theorem dL_bits_3 : decode cL_bits 3 = .ok (.istore_n 2, 1) := by decide +kernel
theorem dL_bits_4 : decode cL_bits 4 = .ok (.iload_n 2, 1) := by decide +kernel
theorem dL_bits_5 : decode cL_bits 5 = .ok (.ifCond .eq 15, 3) := by decide +kernel
theorem dL_bits_8 : decode cL_bits 8 = .ok (.iinc 1 1, 3) := by decide +kernel
theorem dL_bits_11 : decode cL_bits 11 = .ok (.iload_n 2, 1) := by decide +kernel
theorem dL_bits_12 : decode cL_bits 12 = .ok (.iload_n 2, 1) := by decide +kernel
theorem dL_bits_13 : decode cL_bits 13 = .ok (.iconst 1, 1) := by decide +kernel
theorem dL_bits_14 : decode cL_bits 14 = .ok (.isub, 1) := by decide +kernel
theorem dL_bits_15 : decode cL_bits 15 = .ok (.iand, 1) := by decide +kernel
theorem dL_bits_16 : decode cL_bits 16 = .ok (.istore_n 2, 1) := by decide +kernel
theorem dL_bits_17 : decode cL_bits 17 = .ok (.goto (-13), 3) := by decide +kernel
theorem dL_bits_20 : decode cL_bits 20 = .ok (.iload_n 1, 1) := by decide +kernel
theorem dL_bits_21 : decode cL_bits 21 = .ok (.ireturn, 1) := by decide +kernel
theorem dL_roles_0 : decode cL_roles 0 = .ok (.iconst 1, 1) := by decide +kernel
theorem dL_roles_1 : decode cL_roles 1 = .ok (.istore_n 1, 1) := by decide +kernel
theorem dL_roles_2 : decode cL_roles 2 = .ok (.iconst 0, 1) := by decide +kernel
theorem dL_roles_3 : decode cL_roles 3 = .ok (.istore_n 2, 1) := by decide +kernel
theorem dL_roles_4 : decode cL_roles 4 = .ok (.iload_n 2, 1) := by decide +kernel
theorem dL_roles_5 : decode cL_roles 5 = .ok (.iconst 5, 1) := by decide +kernel
theorem dL_roles_6 : decode cL_roles 6 = .ok (.if_icmp .ge 92, 3) := by decide +kernel
theorem dL_roles_9 : decode cL_roles 9 = .ok (.iload_n 1, 1) := by decide +kernel
theorem dL_roles_10 : decode cL_roles 10 = .ok (.ifCond .eq 88, 3) := by decide +kernel
theorem dL_roles_13 : decode cL_roles 13 = .ok (.aload_n 0, 1) := by decide +kernel
theorem dL_roles_14 : decode cL_roles 14 = .ok (.iload_n 2, 1) := by decide +kernel
theorem dL_roles_15 : decode cL_roles 15 = .ok (.invokevirtual 39, 3) := by decide +kernel
theorem dL_roles_18 : decode cL_roles 18 = .ok (.istore_n 3, 1) := by decide +kernel
theorem dL_roles_19 : decode cL_roles 19 = .ok (.iload_n 3, 1) := by decide +kernel
theorem dL_roles_20 : decode cL_roles 20 = .ok (.ifCond .eq 12, 3) := by decide +kernel
theorem dL_roles_23 : decode cL_roles 23 = .ok (.aload_n 0, 1) := by decide +kernel
theorem dL_roles_24 : decode cL_roles 24 = .ok (.iload_n 2, 1) := by decide +kernel
theorem dL_roles_25 : decode cL_roles 25 = .ok (.invokevirtual 42, 3) := by decide +kernel
theorem dL_roles_28 : decode cL_roles 28 = .ok (.iload_n 2, 1) := by decide +kernel
theorem dL_roles_29 : decode cL_roles 29 = .ok (.if_icmp .ne 7, 3) := by decide +kernel
theorem dL_roles_32 : decode cL_roles 32 = .ok (.iconst 1, 1) := by decide +kernel
theorem dL_roles_33 : decode cL_roles 33 = .ok (.goto 4, 3) := by decide +kernel
theorem dL_roles_36 : decode cL_roles 36 = .ok (.iconst 0, 1) := by decide +kernel
theorem dL_roles_37 : decode cL_roles 37 = .ok (.istore_n 1, 1) := by decide +kernel
theorem dL_roles_38 : decode cL_roles 38 = .ok (.iconst 0, 1) := by decide +kernel
theorem dL_roles_39 : decode cL_roles 39 = .ok (.istore 4, 2) := by decide +kernel
theorem dL_roles_41 : decode cL_roles 41 = .ok (.iload 4, 2) := by decide +kernel
theorem dL_roles_43 : decode cL_roles 43 = .ok (.iload_n 2, 1) := by decide +kernel
theorem dL_roles_44 : decode cL_roles 44 = .ok (.if_icmp .ge 48, 3) := by decide +kernel
theorem dL_roles_47 : decode cL_roles 47 = .ok (.iload_n 1, 1) := by decide +kernel
theorem dL_roles_48 : decode cL_roles 48 = .ok (.ifCond .eq 44, 3) := by decide +kernel
theorem dL_roles_51 : decode cL_roles 51 = .ok (.iload_n 3, 1) := by decide +kernel
theorem dL_roles_52 : decode cL_roles 52 = .ok (.iconst 2, 1) := by decide +kernel
theorem dL_roles_53 : decode cL_roles 53 = .ok (.if_icmp .ne 27, 3) := by decide +kernel
theorem dL_roles_56 : decode cL_roles 56 = .ok (.aload_n 0, 1) := by decide +kernel
theorem dL_roles_57 : decode cL_roles 57 = .ok (.iload 4, 2) := by decide +kernel
theorem dL_roles_59 : decode cL_roles 59 = .ok (.invokevirtual 39, 3) := by decide +kernel
theorem dL_roles_62 : decode cL_roles 62 = .ok (.iconst 2, 1) := by decide +kernel
theorem dL_roles_63 : decode cL_roles 63 = .ok (.if_icmp .ne 17, 3) := by decide +kernel
theorem dL_roles_66 : decode cL_roles 66 = .ok (.aload_n 0, 1) := by decide +kernel
theorem dL_roles_67 : decode cL_roles 67 = .ok (.iload 4, 2) := by decide +kernel
theorem dL_roles_69 : decode cL_roles 69 = .ok (.invokevirtual 45, 3) := by decide +kernel
theorem dL_roles_72 : decode cL_roles 72 = .ok (.aload_n 0, 1) := by decide +kernel
theorem dL_roles_73 : decode cL_roles 73 = .ok (.iload_n 2, 1) := by decide +kernel
theorem dL_roles_74 : decode cL_roles 74 = .ok (.invokevirtual 45, 3) := by decide +kernel
theorem dL_roles_77 : decode cL_roles 77 = .ok (.if_icmp .eq 7, 3) := by decide +kernel
theorem dL_roles_80 : decode cL_roles 80 = .ok (.iconst 1, 1) := by decide +kernel
theorem dL_roles_81 : decode cL_roles 81 = .ok (.goto 4, 3) := by decide +kernel
theorem dL_roles_84 : decode cL_roles 84 = .ok (.iconst 0, 1) := by decide +kernel
theorem dL_roles_85 : decode cL_roles 85 = .ok (.istore_n 1, 1) := by decide +kernel
theorem dL_roles_86 : decode cL_roles 86 = .ok (.iinc 4 1, 3) := by decide +kernel
theorem dL_roles_89 : decode cL_roles 89 = .ok (.goto (-48), 3) := by decide +kernel
theorem dL_roles_92 : decode cL_roles 92 = .ok (.iinc 2 1, 3) := by decide +kernel
theorem dL_roles_95 : decode cL_roles 95 = .ok (.goto (-91), 3) := by decide +kernel
theorem dL_roles_98 : decode cL_roles 98 = .ok (.iload_n 1, 1) := by decide +kernel
theorem dL_roles_99 : decode cL_roles 99 = .ok (.ireturn, 1) := by decide +kernel
theorem dL_logs_0 : decode cL_logs 0 = .ok (.iconst 1, 1) := by decide +kernel
theorem dL_logs_1 : decode cL_logs 1 = .ok (.istore_n 2, 1) := by decide +kernel
theorem dL_logs_2 : decode cL_logs 2 = .ok (.aload_n 0, 1) := by decide +kernel
theorem dL_logs_3 : decode cL_logs 3 = .ok (.iload_n 1, 1) := by decide +kernel
theorem dL_logs_4 : decode cL_logs 4 = .ok (.invokevirtual 48, 3) := by decide +kernel
theorem dL_logs_7 : decode cL_logs 7 = .ok (.istore_n 3, 1) := by decide +kernel
theorem dL_logs_8 : decode cL_logs 8 = .ok (.iconst 0, 1) := by decide +kernel
theorem dL_logs_9 : decode cL_logs 9 = .ok (.istore 4, 2) := by decide +kernel
theorem dL_logs_11 : decode cL_logs 11 = .ok (.iload 4, 2) := by decide +kernel
theorem dL_logs_13 : decode cL_logs 13 = .ok (.iload_n 3, 1) := by decide +kernel
theorem dL_logs_14 : decode cL_logs 14 = .ok (.if_icmp .ge 138, 3) := by decide +kernel
theorem dL_logs_17 : decode cL_logs 17 = .ok (.iload_n 2, 1) := by decide +kernel
theorem dL_logs_18 : decode cL_logs 18 = .ok (.ifCond .eq 134, 3) := by decide +kernel
theorem dL_logs_21 : decode cL_logs 21 = .ok (.aload_n 0, 1) := by decide +kernel
theorem dL_logs_22 : decode cL_logs 22 = .ok (.iload_n 1, 1) := by decide +kernel
theorem dL_logs_23 : decode cL_logs 23 = .ok (.iload 4, 2) := by decide +kernel
theorem dL_logs_25 : decode cL_logs 25 = .ok (.invokevirtual 51, 3) := by decide +kernel
theorem dL_logs_28 : decode cL_logs 28 = .ok (.istore 5, 2) := by decide +kernel
theorem dL_logs_30 : decode cL_logs 30 = .ok (.aload_n 0, 1) := by decide +kernel
theorem dL_logs_31 : decode cL_logs 31 = .ok (.iload 5, 2) := by decide +kernel
theorem dL_logs_33 : decode cL_logs 33 = .ok (.invokevirtual 54, 3) := by decide +kernel
theorem dL_logs_36 : decode cL_logs 36 = .ok (.iload_n 1, 1) := by decide +kernel
theorem dL_logs_37 : decode cL_logs 37 = .ok (.ishr, 1) := by decide +kernel
theorem dL_logs_38 : decode cL_logs 38 = .ok (.iconst 1, 1) := by decide +kernel
theorem dL_logs_39 : decode cL_logs 39 = .ok (.iand, 1) := by decide +kernel
theorem dL_logs_40 : decode cL_logs 40 = .ok (.iconst 1, 1) := by decide +kernel
theorem dL_logs_41 : decode cL_logs 41 = .ok (.if_icmp .ne 48, 3) := by decide +kernel
theorem dL_logs_44 : decode cL_logs 44 = .ok (.iload 4, 2) := by decide +kernel
theorem dL_logs_46 : decode cL_logs 46 = .ok (.ifCond .eq 25, 3) := by decide +kernel
theorem dL_logs_49 : decode cL_logs 49 = .ok (.aload_n 0, 1) := by decide +kernel
theorem dL_logs_50 : decode cL_logs 50 = .ok (.aload_n 0, 1) := by decide +kernel
theorem dL_logs_51 : decode cL_logs 51 = .ok (.iload_n 1, 1) := by decide +kernel
theorem dL_logs_52 : decode cL_logs 52 = .ok (.iload 4, 2) := by decide +kernel
theorem dL_logs_54 : decode cL_logs 54 = .ok (.iconst 1, 1) := by decide +kernel
theorem dL_logs_55 : decode cL_logs 55 = .ok (.isub, 1) := by decide +kernel
theorem dL_logs_56 : decode cL_logs 56 = .ok (.invokevirtual 51, 3) := by decide +kernel
theorem dL_logs_59 : decode cL_logs 59 = .ok (.invokevirtual 57, 3) := by decide +kernel
theorem dL_logs_62 : decode cL_logs 62 = .ok (.aload_n 0, 1) := by decide +kernel
theorem dL_logs_63 : decode cL_logs 63 = .ok (.iload 5, 2) := by decide +kernel
theorem dL_logs_65 : decode cL_logs 65 = .ok (.invokevirtual 57, 3) := by decide +kernel
theorem dL_logs_68 : decode cL_logs 68 = .ok (.if_icmp .gt 21, 3) := by decide +kernel
theorem dL_logs_71 : decode cL_logs 71 = .ok (.aload_n 0, 1) := by decide +kernel
theorem dL_logs_72 : decode cL_logs 72 = .ok (.iload 5, 2) := by decide +kernel
theorem dL_logs_74 : decode cL_logs 74 = .ok (.invokevirtual 57, 3) := by decide +kernel
theorem dL_logs_77 : decode cL_logs 77 = .ok (.aload_n 0, 1) := by decide +kernel
theorem dL_logs_78 : decode cL_logs 78 = .ok (.iload_n 1, 1) := by decide +kernel
theorem dL_logs_79 : decode cL_logs 79 = .ok (.invokevirtual 45, 3) := by decide +kernel
theorem dL_logs_82 : decode cL_logs 82 = .ok (.if_icmp .gt 7, 3) := by decide +kernel
theorem dL_logs_85 : decode cL_logs 85 = .ok (.iconst 1, 1) := by decide +kernel
theorem dL_logs_86 : decode cL_logs 86 = .ok (.goto 4, 3) := by decide +kernel
theorem dL_logs_89 : decode cL_logs 89 = .ok (.iconst 0, 1) := by decide +kernel
theorem dL_logs_90 : decode cL_logs 90 = .ok (.istore_n 2, 1) := by decide +kernel
theorem dL_logs_91 : decode cL_logs 91 = .ok (.iload_n 2, 1) := by decide +kernel
theorem dL_logs_92 : decode cL_logs 92 = .ok (.ifCond .eq 52, 3) := by decide +kernel
theorem dL_logs_95 : decode cL_logs 95 = .ok (.aload_n 0, 1) := by decide +kernel
theorem dL_logs_96 : decode cL_logs 96 = .ok (.iload 5, 2) := by decide +kernel
theorem dL_logs_98 : decode cL_logs 98 = .ok (.invokevirtual 60, 3) := by decide +kernel
theorem dL_logs_101 : decode cL_logs 101 = .ok (.aload_n 0, 1) := by decide +kernel
theorem dL_logs_102 : decode cL_logs 102 = .ok (.iload 5, 2) := by decide +kernel
theorem dL_logs_104 : decode cL_logs 104 = .ok (.invokevirtual 54, 3) := by decide +kernel
theorem dL_logs_107 : decode cL_logs 107 = .ok (.invokestatic 64, 3) := by decide +kernel
theorem dL_logs_110 : decode cL_logs 110 = .ok (.iconst 2, 1) := by decide +kernel
theorem dL_logs_111 : decode cL_logs 111 = .ok (.if_icmp .le 7, 3) := by decide +kernel
theorem dL_logs_114 : decode cL_logs 114 = .ok (.iconst 1, 1) := by decide +kernel
theorem dL_logs_115 : decode cL_logs 115 = .ok (.goto 4, 3) := by decide +kernel
theorem dL_logs_118 : decode cL_logs 118 = .ok (.iconst 0, 1) := by decide +kernel
theorem dL_logs_119 : decode cL_logs 119 = .ok (.if_icmp .ne 25, 3) := by decide +kernel
theorem dL_logs_122 : decode cL_logs 122 = .ok (.aload_n 0, 1) := by decide +kernel
theorem dL_logs_123 : decode cL_logs 123 = .ok (.iload 5, 2) := by decide +kernel
theorem dL_logs_125 : decode cL_logs 125 = .ok (.invokevirtual 60, 3) := by decide +kernel
theorem dL_logs_128 : decode cL_logs 128 = .ok (.ifCond .eq 12, 3) := by decide +kernel
theorem dL_logs_131 : decode cL_logs 131 = .ok (.aload_n 0, 1) := by decide +kernel
theorem dL_logs_132 : decode cL_logs 132 = .ok (.iload 5, 2) := by decide +kernel
theorem dL_logs_134 : decode cL_logs 134 = .ok (.invokevirtual 69, 3) := by decide +kernel
theorem dL_logs_137 : decode cL_logs 137 = .ok (.ifCond .eq 7, 3) := by decide +kernel
theorem dL_logs_140 : decode cL_logs 140 = .ok (.iconst 1, 1) := by decide +kernel
theorem dL_logs_141 : decode cL_logs 141 = .ok (.goto 4, 3) := by decide +kernel
theorem dL_logs_144 : decode cL_logs 144 = .ok (.iconst 0, 1) := by decide +kernel
theorem dL_logs_145 : decode cL_logs 145 = .ok (.istore_n 2, 1) := by decide +kernel
theorem dL_logs_146 : decode cL_logs 146 = .ok (.iinc 4 1, 3) := by decide +kernel
theorem dL_logs_149 : decode cL_logs 149 = .ok (.goto (-138), 3) := by decide +kernel
theorem dL_logs_152 : decode cL_logs 152 = .ok (.iload_n 2, 1) := by decide +kernel
theorem dL_logs_153 : decode cL_logs 153 = .ok (.ireturn, 1) := by decide +kernel
theorem dL_batches_0 : decode cL_batches 0 = .ok (.iconst 0, 1) := by decide +kernel
theorem dL_batches_1 : decode cL_batches 1 = .ok (.istore_n 1, 1) := by decide +kernel
theorem dL_batches_2 : decode cL_batches 2 = .ok (.aload_n 0, 1) := by decide +kernel
theorem dL_batches_3 : decode cL_batches 3 = .ok (.invokevirtual 72, 3) := by decide +kernel
theorem dL_batches_6 : decode cL_batches 6 = .ok (.istore_n 2, 1) := by decide +kernel
theorem dL_batches_7 : decode cL_batches 7 = .ok (.iconst 1, 1) := by decide +kernel
theorem dL_batches_8 : decode cL_batches 8 = .ok (.istore_n 3, 1) := by decide +kernel
theorem dL_batches_9 : decode cL_batches 9 = .ok (.iconst 0, 1) := by decide +kernel
theorem dL_batches_10 : decode cL_batches 10 = .ok (.istore 4, 2) := by decide +kernel
theorem dL_batches_12 : decode cL_batches 12 = .ok (.iload 4, 2) := by decide +kernel
theorem dL_batches_14 : decode cL_batches 14 = .ok (.iload_n 2, 1) := by decide +kernel
theorem dL_batches_15 : decode cL_batches 15 = .ok (.if_icmp .ge 99, 3) := by decide +kernel
theorem dL_batches_18 : decode cL_batches 18 = .ok (.iload_n 3, 1) := by decide +kernel
theorem dL_batches_19 : decode cL_batches 19 = .ok (.ifCond .eq 95, 3) := by decide +kernel
theorem dL_batches_22 : decode cL_batches 22 = .ok (.aload_n 0, 1) := by decide +kernel
theorem dL_batches_23 : decode cL_batches 23 = .ok (.iload 4, 2) := by decide +kernel
theorem dL_batches_25 : decode cL_batches 25 = .ok (.invokevirtual 76, 3) := by decide +kernel
theorem dL_batches_28 : decode cL_batches 28 = .ok (.istore 5, 2) := by decide +kernel
theorem dL_batches_30 : decode cL_batches 30 = .ok (.iload 5, 2) := by decide +kernel
theorem dL_batches_32 : decode cL_batches 32 = .ok (.iconst 1, 1) := by decide +kernel
theorem dL_batches_33 : decode cL_batches 33 = .ok (.iand, 1) := by decide +kernel
theorem dL_batches_34 : decode cL_batches 34 = .ok (.aload_n 0, 1) := by decide +kernel
theorem dL_batches_35 : decode cL_batches 35 = .ok (.aload_n 0, 1) := by decide +kernel
theorem dL_batches_36 : decode cL_batches 36 = .ok (.iload 4, 2) := by decide +kernel
theorem dL_batches_38 : decode cL_batches 38 = .ok (.invokevirtual 79, 3) := by decide +kernel
theorem dL_batches_41 : decode cL_batches 41 = .ok (.invokevirtual 60, 3) := by decide +kernel
theorem dL_batches_44 : decode cL_batches 44 = .ok (.ifCond .eq 7, 3) := by decide +kernel
theorem dL_batches_47 : decode cL_batches 47 = .ok (.iconst 0, 1) := by decide +kernel
theorem dL_batches_48 : decode cL_batches 48 = .ok (.goto 4, 3) := by decide +kernel
theorem dL_batches_51 : decode cL_batches 51 = .ok (.iconst 1, 1) := by decide +kernel
theorem dL_batches_52 : decode cL_batches 52 = .ok (.if_icmp .ne 36, 3) := by decide +kernel
theorem dL_batches_55 : decode cL_batches 55 = .ok (.aload_n 0, 1) := by decide +kernel
theorem dL_batches_56 : decode cL_batches 56 = .ok (.iload 4, 2) := by decide +kernel
theorem dL_batches_58 : decode cL_batches 58 = .ok (.invokevirtual 82, 3) := by decide +kernel
theorem dL_batches_61 : decode cL_batches 61 = .ok (.ifCond .lt 27, 3) := by decide +kernel
theorem dL_batches_64 : decode cL_batches 64 = .ok (.aload_n 0, 1) := by decide +kernel
theorem dL_batches_65 : decode cL_batches 65 = .ok (.iload 4, 2) := by decide +kernel
theorem dL_batches_67 : decode cL_batches 67 = .ok (.invokevirtual 82, 3) := by decide +kernel
theorem dL_batches_70 : decode cL_batches 70 = .ok (.bipush 40, 2) := by decide +kernel
theorem dL_batches_72 : decode cL_batches 72 = .ok (.if_icmp .gt 16, 3) := by decide +kernel
theorem dL_batches_75 : decode cL_batches 75 = .ok (.aload_n 0, 1) := by decide +kernel
theorem dL_batches_76 : decode cL_batches 76 = .ok (.iload 4, 2) := by decide +kernel
theorem dL_batches_78 : decode cL_batches 78 = .ok (.invokevirtual 85, 3) := by decide +kernel
theorem dL_batches_81 : decode cL_batches 81 = .ok (.ifCond .le 7, 3) := by decide +kernel
theorem dL_batches_84 : decode cL_batches 84 = .ok (.iconst 1, 1) := by decide +kernel
theorem dL_batches_85 : decode cL_batches 85 = .ok (.goto 4, 3) := by decide +kernel
theorem dL_batches_88 : decode cL_batches 88 = .ok (.iconst 0, 1) := by decide +kernel
theorem dL_batches_89 : decode cL_batches 89 = .ok (.istore_n 3, 1) := by decide +kernel
theorem dL_batches_90 : decode cL_batches 90 = .ok (.iload_n 1, 1) := by decide +kernel
theorem dL_batches_91 : decode cL_batches 91 = .ok (.iload 5, 2) := by decide +kernel
theorem dL_batches_93 : decode cL_batches 93 = .ok (.ifCond .ne 12, 3) := by decide +kernel
theorem dL_batches_96 : decode cL_batches 96 = .ok (.aload_n 0, 1) := by decide +kernel
theorem dL_batches_97 : decode cL_batches 97 = .ok (.iload 4, 2) := by decide +kernel
theorem dL_batches_99 : decode cL_batches 99 = .ok (.invokevirtual 82, 3) := by decide +kernel
theorem dL_batches_102 : decode cL_batches 102 = .ok (.goto 4, 3) := by decide +kernel
theorem dL_batches_105 : decode cL_batches 105 = .ok (.iconst 0, 1) := by decide +kernel
theorem dL_batches_106 : decode cL_batches 106 = .ok (.iadd, 1) := by decide +kernel
theorem dL_batches_107 : decode cL_batches 107 = .ok (.istore_n 1, 1) := by decide +kernel
theorem dL_batches_108 : decode cL_batches 108 = .ok (.iinc 4 1, 3) := by decide +kernel
theorem dL_batches_111 : decode cL_batches 111 = .ok (.goto (-99), 3) := by decide +kernel
theorem dL_batches_114 : decode cL_batches 114 = .ok (.iload_n 3, 1) := by decide +kernel
theorem dL_batches_115 : decode cL_batches 115 = .ok (.ifCond .eq 15, 3) := by decide +kernel
theorem dL_batches_118 : decode cL_batches 118 = .ok (.aload_n 0, 1) := by decide +kernel
theorem dL_batches_119 : decode cL_batches 119 = .ok (.invokevirtual 88, 3) := by decide +kernel
theorem dL_batches_122 : decode cL_batches 122 = .ok (.iload_n 1, 1) := by decide +kernel
theorem dL_batches_123 : decode cL_batches 123 = .ok (.if_icmp .ne 7, 3) := by decide +kernel
theorem dL_batches_126 : decode cL_batches 126 = .ok (.iconst 1, 1) := by decide +kernel
theorem dL_batches_127 : decode cL_batches 127 = .ok (.goto 4, 3) := by decide +kernel
theorem dL_batches_130 : decode cL_batches 130 = .ok (.iconst 0, 1) := by decide +kernel
theorem dL_batches_131 : decode cL_batches 131 = .ok (.ireturn, 1) := by decide +kernel
theorem dL_law_0 : decode cL_law 0 = .ok (.new 10, 3) := by decide +kernel
theorem dL_law_3 : decode cL_law 3 = .ok (.dup, 1) := by decide +kernel
theorem dL_law_4 : decode cL_law 4 = .ok (.invokespecial 91, 3) := by decide +kernel
theorem dL_law_7 : decode cL_law 7 = .ok (.astore_n 1, 1) := by decide +kernel
theorem dL_law_8 : decode cL_law 8 = .ok (.iconst 0, 1) := by decide +kernel
theorem dL_law_9 : decode cL_law 9 = .ok (.istore_n 2, 1) := by decide +kernel
theorem dL_law_10 : decode cL_law 10 = .ok (.iconst 0, 1) := by decide +kernel
theorem dL_law_11 : decode cL_law 11 = .ok (.istore_n 3, 1) := by decide +kernel
theorem dL_law_12 : decode cL_law 12 = .ok (.aload_n 1, 1) := by decide +kernel
theorem dL_law_13 : decode cL_law 13 = .ok (.invokestatic 92, 3) := by decide +kernel
theorem dL_law_16 : decode cL_law 16 = .ok (.ifCond .eq 28, 3) := by decide +kernel
theorem dL_law_19 : decode cL_law 19 = .ok (.aload_n 1, 1) := by decide +kernel
theorem dL_law_20 : decode cL_law 20 = .ok (.invokestatic 96, 3) := by decide +kernel
theorem dL_law_23 : decode cL_law 23 = .ok (.ifCond .eq 21, 3) := by decide +kernel
theorem dL_law_26 : decode cL_law 26 = .ok (.aload_n 1, 1) := by decide +kernel
theorem dL_law_27 : decode cL_law 27 = .ok (.invokevirtual 98, 3) := by decide +kernel
theorem dL_law_30 : decode cL_law 30 = .ok (.ifCond .ne 14, 3) := by decide +kernel
theorem dL_law_33 : decode cL_law 33 = .ok (.aload_n 1, 1) := by decide +kernel
theorem dL_law_34 : decode cL_law 34 = .ok (.invokevirtual 101, 3) := by decide +kernel
theorem dL_law_37 : decode cL_law 37 = .ok (.ifCond .ne 7, 3) := by decide +kernel
theorem dL_law_40 : decode cL_law 40 = .ok (.iconst 1, 1) := by decide +kernel
theorem dL_law_41 : decode cL_law 41 = .ok (.goto 4, 3) := by decide +kernel
theorem dL_law_44 : decode cL_law 44 = .ok (.iconst 0, 1) := by decide +kernel
theorem dL_law_45 : decode cL_law 45 = .ok (.istore 4, 2) := by decide +kernel
theorem dL_law_47 : decode cL_law 47 = .ok (.bipush 6, 2) := by decide +kernel
theorem dL_law_49 : decode cL_law 49 = .ok (.aload_n 0, 1) := by decide +kernel
theorem dL_law_50 : decode cL_law 50 = .ok (.iconst 0, 1) := by decide +kernel
theorem dL_law_51 : decode cL_law 51 = .ok (.invokestatic 104, 3) := by decide +kernel
theorem dL_law_54 : decode cL_law 54 = .ok (.bipush 55, 2) := by decide +kernel
theorem dL_law_56 : decode cL_law 56 = .ok (.invokestatic 108, 3) := by decide +kernel
theorem dL_law_59 : decode cL_law 59 = .ok (.iadd, 1) := by decide +kernel
theorem dL_law_60 : decode cL_law 60 = .ok (.istore 5, 2) := by decide +kernel
theorem dL_law_62 : decode cL_law 62 = .ok (.iconst 0, 1) := by decide +kernel
theorem dL_law_63 : decode cL_law 63 = .ok (.istore 6, 2) := by decide +kernel
theorem dL_law_65 : decode cL_law 65 = .ok (.iload 6, 2) := by decide +kernel
theorem dL_law_67 : decode cL_law 67 = .ok (.iload 5, 2) := by decide +kernel
theorem dL_law_69 : decode cL_law 69 = .ok (.if_icmp .ge 1008, 3) := by decide +kernel
theorem dL_law_72 : decode cL_law 72 = .ok (.iload 4, 2) := by decide +kernel
theorem dL_law_74 : decode cL_law 74 = .ok (.ifCond .eq 1003, 3) := by decide +kernel
theorem dL_law_77 : decode cL_law 77 = .ok (.aload_n 0, 1) := by decide +kernel
theorem dL_law_78 : decode cL_law 78 = .ok (.iconst 1, 1) := by decide +kernel
theorem dL_law_79 : decode cL_law 79 = .ok (.iload 6, 2) := by decide +kernel
theorem dL_law_81 : decode cL_law 81 = .ok (.iadd, 1) := by decide +kernel
theorem dL_law_82 : decode cL_law 82 = .ok (.invokestatic 104, 3) := by decide +kernel
theorem dL_law_85 : decode cL_law 85 = .ok (.istore 7, 2) := by decide +kernel
theorem dL_law_87 : decode cL_law 87 = .ok (.iload 7, 2) := by decide +kernel
theorem dL_law_89 : decode cL_law 89 = .ok (.iconst 3, 1) := by decide +kernel
theorem dL_law_90 : decode cL_law 90 = .ok (.ishr, 1) := by decide +kernel
theorem dL_law_91 : decode cL_law 91 = .ok (.iconst 5, 1) := by decide +kernel
theorem dL_law_92 : decode cL_law 92 = .ok (.invokestatic 108, 3) := by decide +kernel
theorem dL_law_95 : decode cL_law 95 = .ok (.istore 8, 2) := by decide +kernel
theorem dL_law_97 : decode cL_law 97 = .ok (.iload 8, 2) := by decide +kernel
theorem dL_law_99 : decode cL_law 99 = .ok (.iconst 1, 1) := by decide +kernel
theorem dL_law_100 : decode cL_law 100 = .ok (.iadd, 1) := by decide +kernel
theorem dL_law_101 : decode cL_law 101 = .ok (.iload 7, 2) := by decide +kernel
theorem dL_law_103 : decode cL_law 103 = .ok (.bipush 6, 2) := by decide +kernel
theorem dL_law_105 : decode cL_law 105 = .ok (.ishr, 1) := by decide +kernel
theorem dL_law_106 : decode cL_law 106 = .ok (.iconst 4, 1) := by decide +kernel
theorem dL_law_107 : decode cL_law 107 = .ok (.invokestatic 108, 3) := by decide +kernel
theorem dL_law_110 : decode cL_law 110 = .ok (.iadd, 1) := by decide +kernel
theorem dL_law_111 : decode cL_law 111 = .ok (.iconst 5, 1) := by decide +kernel
theorem dL_law_112 : decode cL_law 112 = .ok (.irem, 1) := by decide +kernel
theorem dL_law_113 : decode cL_law 113 = .ok (.istore 9, 2) := by decide +kernel
theorem dL_law_115 : decode cL_law 115 = .ok (.iload 7, 2) := by decide +kernel
theorem dL_law_117 : decode cL_law 117 = .ok (.bipush 20, 2) := by decide +kernel
theorem dL_law_119 : decode cL_law 119 = .ok (.ishr, 1) := by decide +kernel
theorem dL_law_120 : decode cL_law 120 = .ok (.bipush 28, 2) := by decide +kernel
theorem dL_law_122 : decode cL_law 122 = .ok (.invokestatic 108, 3) := by decide +kernel
theorem dL_law_125 : decode cL_law 125 = .ok (.istore 10, 2) := by decide +kernel
theorem dL_law_127 : decode cL_law 127 = .ok (.iload 10, 2) := by decide +kernel
theorem dL_law_129 : decode cL_law 129 = .ok (.iconst 4, 1) := by decide +kernel
theorem dL_law_130 : decode cL_law 130 = .ok (.if_icmp .ge 58, 3) := by decide +kernel
theorem dL_law_133 : decode cL_law 133 = .ok (.aload_n 1, 1) := by decide +kernel
theorem dL_law_134 : decode cL_law 134 = .ok (.iload 8, 2) := by decide +kernel
theorem dL_law_136 : decode cL_law 136 = .ok (.invokevirtual 45, 3) := by decide +kernel
theorem dL_law_139 : decode cL_law 139 = .ok (.istore 11, 2) := by decide +kernel
theorem dL_law_141 : decode cL_law 141 = .ok (.aload_n 1, 1) := by decide +kernel
theorem dL_law_142 : decode cL_law 142 = .ok (.iload 8, 2) := by decide +kernel
theorem dL_law_144 : decode cL_law 144 = .ok (.invokevirtual 111, 3) := by decide +kernel
theorem dL_law_147 : decode cL_law 147 = .ok (.iload 11, 2) := by decide +kernel
theorem dL_law_149 : decode cL_law 149 = .ok (.iconst 1, 1) := by decide +kernel
theorem dL_law_150 : decode cL_law 150 = .ok (.iadd, 1) := by decide +kernel
theorem dL_law_151 : decode cL_law 151 = .ok (.if_icmp .ne 28, 3) := by decide +kernel
theorem dL_law_154 : decode cL_law 154 = .ok (.aload_n 1, 1) := by decide +kernel
theorem dL_law_155 : decode cL_law 155 = .ok (.iload 8, 2) := by decide +kernel
theorem dL_law_157 : decode cL_law 157 = .ok (.invokevirtual 39, 3) := by decide +kernel
theorem dL_law_160 : decode cL_law 160 = .ok (.iconst 1, 1) := by decide +kernel
theorem dL_law_161 : decode cL_law 161 = .ok (.if_icmp .ne 18, 3) := by decide +kernel
theorem dL_law_164 : decode cL_law 164 = .ok (.aload_n 1, 1) := by decide +kernel
theorem dL_law_165 : decode cL_law 165 = .ok (.iload 8, 2) := by decide +kernel
theorem dL_law_167 : decode cL_law 167 = .ok (.invokevirtual 42, 3) := by decide +kernel
theorem dL_law_170 : decode cL_law 170 = .ok (.iload 8, 2) := by decide +kernel
theorem dL_law_172 : decode cL_law 172 = .ok (.if_icmp .ne 7, 3) := by decide +kernel
theorem dL_law_175 : decode cL_law 175 = .ok (.iconst 1, 1) := by decide +kernel
theorem dL_law_176 : decode cL_law 176 = .ok (.goto 4, 3) := by decide +kernel
theorem dL_law_179 : decode cL_law 179 = .ok (.iconst 0, 1) := by decide +kernel
theorem dL_law_180 : decode cL_law 180 = .ok (.istore 4, 2) := by decide +kernel
theorem dL_law_182 : decode cL_law 182 = .ok (.iinc 3 1, 3) := by decide +kernel
theorem dL_law_185 : decode cL_law 185 = .ok (.goto 834, 3) := by decide +kernel
theorem dL_law_188 : decode cL_law 188 = .ok (.iload 10, 2) := by decide +kernel
theorem dL_law_190 : decode cL_law 190 = .ok (.bipush 12, 2) := by decide +kernel
theorem dL_law_192 : decode cL_law 192 = .ok (.if_icmp .ge 68, 3) := by decide +kernel
theorem dL_law_195 : decode cL_law 195 = .ok (.aload_n 1, 1) := by decide +kernel
theorem dL_law_196 : decode cL_law 196 = .ok (.iload 9, 2) := by decide +kernel
theorem dL_law_198 : decode cL_law 198 = .ok (.invokevirtual 39, 3) := by decide +kernel
theorem dL_law_201 : decode cL_law 201 = .ok (.istore 11, 2) := by decide +kernel
theorem dL_law_203 : decode cL_law 203 = .ok (.aload_n 1, 1) := by decide +kernel
theorem dL_law_204 : decode cL_law 204 = .ok (.iload 8, 2) := by decide +kernel
theorem dL_law_206 : decode cL_law 206 = .ok (.iload 9, 2) := by decide +kernel
theorem dL_law_208 : decode cL_law 208 = .ok (.invokestatic 114, 3) := by decide +kernel
theorem dL_law_211 : decode cL_law 211 = .ok (.istore 12, 2) := by decide +kernel
theorem dL_law_213 : decode cL_law 213 = .ok (.iload 12, 2) := by decide +kernel
theorem dL_law_215 : decode cL_law 215 = .ok (.ifCond .eq 35, 3) := by decide +kernel
theorem dL_law_218 : decode cL_law 218 = .ok (.aload_n 1, 1) := by decide +kernel
theorem dL_law_219 : decode cL_law 219 = .ok (.iload 8, 2) := by decide +kernel
theorem dL_law_221 : decode cL_law 221 = .ok (.invokevirtual 42, 3) := by decide +kernel
theorem dL_law_224 : decode cL_law 224 = .ok (.iload 9, 2) := by decide +kernel
theorem dL_law_226 : decode cL_law 226 = .ok (.if_icmp .ne 28, 3) := by decide +kernel
theorem dL_law_229 : decode cL_law 229 = .ok (.aload_n 1, 1) := by decide +kernel
theorem dL_law_230 : decode cL_law 230 = .ok (.iload 8, 2) := by decide +kernel
theorem dL_law_232 : decode cL_law 232 = .ok (.invokevirtual 45, 3) := by decide +kernel
theorem dL_law_235 : decode cL_law 235 = .ok (.aload_n 1, 1) := by decide +kernel
theorem dL_law_236 : decode cL_law 236 = .ok (.iload 9, 2) := by decide +kernel
theorem dL_law_238 : decode cL_law 238 = .ok (.invokevirtual 45, 3) := by decide +kernel
theorem dL_law_241 : decode cL_law 241 = .ok (.if_icmp .ne 13, 3) := by decide +kernel
theorem dL_law_244 : decode cL_law 244 = .ok (.iload 11, 2) := by decide +kernel
theorem dL_law_246 : decode cL_law 246 = .ok (.iconst 1, 1) := by decide +kernel
theorem dL_law_247 : decode cL_law 247 = .ok (.if_icmp .ne 7, 3) := by decide +kernel
theorem dL_law_250 : decode cL_law 250 = .ok (.iconst 1, 1) := by decide +kernel
theorem dL_law_251 : decode cL_law 251 = .ok (.goto 4, 3) := by decide +kernel
theorem dL_law_254 : decode cL_law 254 = .ok (.iconst 0, 1) := by decide +kernel
theorem dL_law_255 : decode cL_law 255 = .ok (.istore 4, 2) := by decide +kernel
theorem dL_law_257 : decode cL_law 257 = .ok (.goto 762, 3) := by decide +kernel
theorem dL_law_260 : decode cL_law 260 = .ok (.iload 10, 2) := by decide +kernel
theorem dL_law_262 : decode cL_law 262 = .ok (.bipush 15, 2) := by decide +kernel
theorem dL_law_264 : decode cL_law 264 = .ok (.if_icmp .ge 118, 3) := by decide +kernel
theorem dL_law_267 : decode cL_law 267 = .ok (.aload_n 1, 1) := by decide +kernel
theorem dL_law_268 : decode cL_law 268 = .ok (.invokevirtual 117, 3) := by decide +kernel
theorem dL_law_271 : decode cL_law 271 = .ok (.istore 11, 2) := by decide +kernel
theorem dL_law_273 : decode cL_law 273 = .ok (.aload_n 1, 1) := by decide +kernel
theorem dL_law_274 : decode cL_law 274 = .ok (.iload 8, 2) := by decide +kernel
theorem dL_law_276 : decode cL_law 276 = .ok (.iload 7, 2) := by decide +kernel
theorem dL_law_278 : decode cL_law 278 = .ok (.iconst 2, 1) := by decide +kernel
theorem dL_law_279 : decode cL_law 279 = .ok (.invokestatic 108, 3) := by decide +kernel
theorem dL_law_282 : decode cL_law 282 = .ok (.iconst 1, 1) := by decide +kernel
theorem dL_law_283 : decode cL_law 283 = .ok (.iload 7, 2) := by decide +kernel
theorem dL_law_285 : decode cL_law 285 = .ok (.iconst 5, 1) := by decide +kernel
theorem dL_law_286 : decode cL_law 286 = .ok (.ishr, 1) := by decide +kernel
theorem dL_law_287 : decode cL_law 287 = .ok (.iconst 3, 1) := by decide +kernel
theorem dL_law_288 : decode cL_law 288 = .ok (.invokestatic 108, 3) := by decide +kernel
theorem dL_law_291 : decode cL_law 291 = .ok (.iadd, 1) := by decide +kernel
theorem dL_law_292 : decode cL_law 292 = .ok (.iconst 1, 1) := by decide +kernel
theorem dL_law_293 : decode cL_law 293 = .ok (.iload 7, 2) := by decide +kernel
theorem dL_law_295 : decode cL_law 295 = .ok (.bipush 8, 2) := by decide +kernel
end
section
theorem dL_law_297 : decode cL_law 297 = .ok (.ishr, 1) := by decide +kernel
theorem dL_law_298 : decode cL_law 298 = .ok (.bipush 40, 2) := by decide +kernel
theorem dL_law_300 : decode cL_law 300 = .ok (.invokestatic 108, 3) := by decide +kernel
theorem dL_law_303 : decode cL_law 303 = .ok (.iadd, 1) := by decide +kernel
theorem dL_law_304 : decode cL_law 304 = .ok (.invokestatic 120, 3) := by decide +kernel
theorem dL_law_307 : decode cL_law 307 = .ok (.istore 12, 2) := by decide +kernel
theorem dL_law_309 : decode cL_law 309 = .ok (.iload 12, 2) := by decide +kernel
theorem dL_law_311 : decode cL_law 311 = .ok (.bipush (-3), 2) := by decide +kernel
theorem dL_law_313 : decode cL_law 313 = .ok (.if_icmp .ne 20, 3) := by decide +kernel
theorem dL_law_316 : decode cL_law 316 = .ok (.aload_n 1, 1) := by decide +kernel
theorem dL_law_317 : decode cL_law 317 = .ok (.invokevirtual 117, 3) := by decide +kernel
theorem dL_law_320 : decode cL_law 320 = .ok (.iload 11, 2) := by decide +kernel
theorem dL_law_322 : decode cL_law 322 = .ok (.if_icmp .ne 7, 3) := by decide +kernel
theorem dL_law_325 : decode cL_law 325 = .ok (.iconst 1, 1) := by decide +kernel
theorem dL_law_326 : decode cL_law 326 = .ok (.goto 51, 3) := by decide +kernel
theorem dL_law_329 : decode cL_law 329 = .ok (.iconst 0, 1) := by decide +kernel
theorem dL_law_330 : decode cL_law 330 = .ok (.goto 47, 3) := by decide +kernel
theorem dL_law_333 : decode cL_law 333 = .ok (.iload 12, 2) := by decide +kernel
theorem dL_law_335 : decode cL_law 335 = .ok (.iload 11, 2) := by decide +kernel
theorem dL_law_337 : decode cL_law 337 = .ok (.if_icmp .ne 39, 3) := by decide +kernel
theorem dL_law_340 : decode cL_law 340 = .ok (.aload_n 1, 1) := by decide +kernel
theorem dL_law_341 : decode cL_law 341 = .ok (.iload 8, 2) := by decide +kernel
theorem dL_law_343 : decode cL_law 343 = .ok (.aload_n 1, 1) := by decide +kernel
theorem dL_law_344 : decode cL_law 344 = .ok (.iload 8, 2) := by decide +kernel
theorem dL_law_346 : decode cL_law 346 = .ok (.invokevirtual 48, 3) := by decide +kernel
theorem dL_law_349 : decode cL_law 349 = .ok (.iconst 1, 1) := by decide +kernel
theorem dL_law_350 : decode cL_law 350 = .ok (.isub, 1) := by decide +kernel
theorem dL_law_351 : decode cL_law 351 = .ok (.invokevirtual 51, 3) := by decide +kernel
theorem dL_law_354 : decode cL_law 354 = .ok (.iload 12, 2) := by decide +kernel
theorem dL_law_356 : decode cL_law 356 = .ok (.if_icmp .ne 20, 3) := by decide +kernel
theorem dL_law_359 : decode cL_law 359 = .ok (.aload_n 1, 1) := by decide +kernel
theorem dL_law_360 : decode cL_law 360 = .ok (.iload 12, 2) := by decide +kernel
theorem dL_law_362 : decode cL_law 362 = .ok (.invokevirtual 54, 3) := by decide +kernel
theorem dL_law_365 : decode cL_law 365 = .ok (.iconst 1, 1) := by decide +kernel
theorem dL_law_366 : decode cL_law 366 = .ok (.iload 8, 2) := by decide +kernel
theorem dL_law_368 : decode cL_law 368 = .ok (.ishl, 1) := by decide +kernel
theorem dL_law_369 : decode cL_law 369 = .ok (.if_icmp .ne 7, 3) := by decide +kernel
theorem dL_law_372 : decode cL_law 372 = .ok (.iconst 1, 1) := by decide +kernel
theorem dL_law_373 : decode cL_law 373 = .ok (.goto 4, 3) := by decide +kernel
theorem dL_law_376 : decode cL_law 376 = .ok (.iconst 0, 1) := by decide +kernel
theorem dL_law_377 : decode cL_law 377 = .ok (.istore 4, 2) := by decide +kernel
theorem dL_law_379 : decode cL_law 379 = .ok (.goto 640, 3) := by decide +kernel
theorem dL_law_382 : decode cL_law 382 = .ok (.iload 10, 2) := by decide +kernel
theorem dL_law_384 : decode cL_law 384 = .ok (.bipush 20, 2) := by decide +kernel
theorem dL_law_386 : decode cL_law 386 = .ok (.if_icmp .ge 54, 3) := by decide +kernel
theorem dL_law_389 : decode cL_law 389 = .ok (.aload_n 1, 1) := by decide +kernel
theorem dL_law_390 : decode cL_law 390 = .ok (.iload 8, 2) := by decide +kernel
theorem dL_law_392 : decode cL_law 392 = .ok (.iload 9, 2) := by decide +kernel
theorem dL_law_394 : decode cL_law 394 = .ok (.invokestatic 123, 3) := by decide +kernel
theorem dL_law_397 : decode cL_law 397 = .ok (.istore 11, 2) := by decide +kernel
theorem dL_law_399 : decode cL_law 399 = .ok (.iload 11, 2) := by decide +kernel
theorem dL_law_401 : decode cL_law 401 = .ok (.ifCond .lt 29, 3) := by decide +kernel
theorem dL_law_404 : decode cL_law 404 = .ok (.aload_n 1, 1) := by decide +kernel
theorem dL_law_405 : decode cL_law 405 = .ok (.iload 9, 2) := by decide +kernel
theorem dL_law_407 : decode cL_law 407 = .ok (.invokevirtual 48, 3) := by decide +kernel
theorem dL_law_410 : decode cL_law 410 = .ok (.aload_n 1, 1) := by decide +kernel
theorem dL_law_411 : decode cL_law 411 = .ok (.iload 8, 2) := by decide +kernel
theorem dL_law_413 : decode cL_law 413 = .ok (.invokevirtual 48, 3) := by decide +kernel
theorem dL_law_416 : decode cL_law 416 = .ok (.if_icmp .lt 18, 3) := by decide +kernel
theorem dL_law_419 : decode cL_law 419 = .ok (.aload_n 1, 1) := by decide +kernel
theorem dL_law_420 : decode cL_law 420 = .ok (.iload 8, 2) := by decide +kernel
theorem dL_law_422 : decode cL_law 422 = .ok (.iload 9, 2) := by decide +kernel
theorem dL_law_424 : decode cL_law 424 = .ok (.invokestatic 123, 3) := by decide +kernel
theorem dL_law_427 : decode cL_law 427 = .ok (.ifCond .ne 7, 3) := by decide +kernel
theorem dL_law_430 : decode cL_law 430 = .ok (.iconst 1, 1) := by decide +kernel
theorem dL_law_431 : decode cL_law 431 = .ok (.goto 4, 3) := by decide +kernel
theorem dL_law_434 : decode cL_law 434 = .ok (.iconst 0, 1) := by decide +kernel
theorem dL_law_435 : decode cL_law 435 = .ok (.istore 4, 2) := by decide +kernel
theorem dL_law_437 : decode cL_law 437 = .ok (.goto 582, 3) := by decide +kernel
theorem dL_law_440 : decode cL_law 440 = .ok (.iload 10, 2) := by decide +kernel
theorem dL_law_442 : decode cL_law 442 = .ok (.bipush 21, 2) := by decide +kernel
theorem dL_law_444 : decode cL_law 444 = .ok (.if_icmp .ge 58, 3) := by decide +kernel
theorem dL_law_447 : decode cL_law 447 = .ok (.iload 7, 2) := by decide +kernel
theorem dL_law_449 : decode cL_law 449 = .ok (.bipush 32, 2) := by decide +kernel
theorem dL_law_451 : decode cL_law 451 = .ok (.invokestatic 108, 3) := by decide +kernel
theorem dL_law_454 : decode cL_law 454 = .ok (.istore 11, 2) := by decide +kernel
theorem dL_law_456 : decode cL_law 456 = .ok (.aload_n 1, 1) := by decide +kernel
theorem dL_law_457 : decode cL_law 457 = .ok (.iload 7, 2) := by decide +kernel
theorem dL_law_459 : decode cL_law 459 = .ok (.bipush 9, 2) := by decide +kernel
theorem dL_law_461 : decode cL_law 461 = .ok (.ishr, 1) := by decide +kernel
theorem dL_law_462 : decode cL_law 462 = .ok (.iconst 3, 1) := by decide +kernel
theorem dL_law_463 : decode cL_law 463 = .ok (.invokestatic 108, 3) := by decide +kernel
theorem dL_law_466 : decode cL_law 466 = .ok (.ifCond .ne 8, 3) := by decide +kernel
theorem dL_law_469 : decode cL_law 469 = .ok (.iload 11, 2) := by decide +kernel
theorem dL_law_471 : decode cL_law 471 = .ok (.goto 4, 3) := by decide +kernel
theorem dL_law_474 : decode cL_law 474 = .ok (.iconst 0, 1) := by decide +kernel
theorem dL_law_475 : decode cL_law 475 = .ok (.invokevirtual 126, 3) := by decide +kernel
theorem dL_law_478 : decode cL_law 478 = .ok (.ifCond .lt 18, 3) := by decide +kernel
theorem dL_law_481 : decode cL_law 481 = .ok (.aload_n 1, 1) := by decide +kernel
theorem dL_law_482 : decode cL_law 482 = .ok (.iload 8, 2) := by decide +kernel
theorem dL_law_484 : decode cL_law 484 = .ok (.iload 8, 2) := by decide +kernel
theorem dL_law_486 : decode cL_law 486 = .ok (.invokevirtual 129, 3) := by decide +kernel
theorem dL_law_489 : decode cL_law 489 = .ok (.ifCond .eq 7, 3) := by decide +kernel
theorem dL_law_492 : decode cL_law 492 = .ok (.iconst 1, 1) := by decide +kernel
theorem dL_law_493 : decode cL_law 493 = .ok (.goto 4, 3) := by decide +kernel
theorem dL_law_496 : decode cL_law 496 = .ok (.iconst 0, 1) := by decide +kernel
theorem dL_law_497 : decode cL_law 497 = .ok (.istore 4, 2) := by decide +kernel
theorem dL_law_499 : decode cL_law 499 = .ok (.goto 520, 3) := by decide +kernel
theorem dL_law_502 : decode cL_law 502 = .ok (.iload 10, 2) := by decide +kernel
theorem dL_law_504 : decode cL_law 504 = .ok (.bipush 23, 2) := by decide +kernel
theorem dL_law_506 : decode cL_law 506 = .ok (.if_icmp .ge 138, 3) := by decide +kernel
theorem dL_law_509 : decode cL_law 509 = .ok (.iload_n 2, 1) := by decide +kernel
theorem dL_law_510 : decode cL_law 510 = .ok (.bipush 16, 2) := by decide +kernel
theorem dL_law_512 : decode cL_law 512 = .ok (.if_icmp .ge 34, 3) := by decide +kernel
theorem dL_law_515 : decode cL_law 515 = .ok (.iload_n 2, 1) := by decide +kernel
theorem dL_law_516 : decode cL_law 516 = .ok (.ifCond .eq 12, 3) := by decide +kernel
theorem dL_law_519 : decode cL_law 519 = .ok (.iload 7, 2) := by decide +kernel
theorem dL_law_521 : decode cL_law 521 = .ok (.iconst 4, 1) := by decide +kernel
theorem dL_law_522 : decode cL_law 522 = .ok (.invokestatic 108, 3) := by decide +kernel
theorem dL_law_525 : decode cL_law 525 = .ok (.ifCond .ne 21, 3) := by decide +kernel
theorem dL_law_528 : decode cL_law 528 = .ok (.aload_n 1, 1) := by decide +kernel
theorem dL_law_529 : decode cL_law 529 = .ok (.invokevirtual 132, 3) := by decide +kernel
theorem dL_law_532 : decode cL_law 532 = .ok (.iload_n 2, 1) := by decide +kernel
theorem dL_law_533 : decode cL_law 533 = .ok (.if_icmp .ne 7, 3) := by decide +kernel
theorem dL_law_536 : decode cL_law 536 = .ok (.iconst 1, 1) := by decide +kernel
theorem dL_law_537 : decode cL_law 537 = .ok (.goto 4, 3) := by decide +kernel
theorem dL_law_540 : decode cL_law 540 = .ok (.iconst 0, 1) := by decide +kernel
theorem dL_law_541 : decode cL_law 541 = .ok (.istore 4, 2) := by decide +kernel
theorem dL_law_543 : decode cL_law 543 = .ok (.iinc 2 1, 3) := by decide +kernel
theorem dL_law_546 : decode cL_law 546 = .ok (.aload_n 1, 1) := by decide +kernel
theorem dL_law_547 : decode cL_law 547 = .ok (.iload 8, 2) := by decide +kernel
theorem dL_law_549 : decode cL_law 549 = .ok (.invokevirtual 135, 3) := by decide +kernel
theorem dL_law_552 : decode cL_law 552 = .ok (.istore 11, 2) := by decide +kernel
theorem dL_law_554 : decode cL_law 554 = .ok (.aload_n 1, 1) := by decide +kernel
theorem dL_law_555 : decode cL_law 555 = .ok (.iload 8, 2) := by decide +kernel
theorem dL_law_557 : decode cL_law 557 = .ok (.iload 7, 2) := by decide +kernel
theorem dL_law_559 : decode cL_law 559 = .ok (.bipush 9, 2) := by decide +kernel
theorem dL_law_561 : decode cL_law 561 = .ok (.ishr, 1) := by decide +kernel
theorem dL_law_562 : decode cL_law 562 = .ok (.iload_n 2, 1) := by decide +kernel
theorem dL_law_563 : decode cL_law 563 = .ok (.invokestatic 108, 3) := by decide +kernel
theorem dL_law_566 : decode cL_law 566 = .ok (.iconst 1, 1) := by decide +kernel
theorem dL_law_567 : decode cL_law 567 = .ok (.iload 7, 2) := by decide +kernel
theorem dL_law_569 : decode cL_law 569 = .ok (.bipush 9, 2) := by decide +kernel
theorem dL_law_571 : decode cL_law 571 = .ok (.invokestatic 108, 3) := by decide +kernel
theorem dL_law_574 : decode cL_law 574 = .ok (.iadd, 1) := by decide +kernel
theorem dL_law_575 : decode cL_law 575 = .ok (.invokestatic 138, 3) := by decide +kernel
theorem dL_law_578 : decode cL_law 578 = .ok (.istore 12, 2) := by decide +kernel
theorem dL_law_580 : decode cL_law 580 = .ok (.iload 4, 2) := by decide +kernel
theorem dL_law_582 : decode cL_law 582 = .ok (.ifCond .eq 56, 3) := by decide +kernel
theorem dL_law_585 : decode cL_law 585 = .ok (.iload 12, 2) := by decide +kernel
theorem dL_law_587 : decode cL_law 587 = .ok (.bipush (-3), 2) := by decide +kernel
theorem dL_law_589 : decode cL_law 589 = .ok (.if_icmp .ne 17, 3) := by decide +kernel
theorem dL_law_592 : decode cL_law 592 = .ok (.aload_n 1, 1) := by decide +kernel
theorem dL_law_593 : decode cL_law 593 = .ok (.iload 8, 2) := by decide +kernel
theorem dL_law_595 : decode cL_law 595 = .ok (.invokevirtual 135, 3) := by decide +kernel
theorem dL_law_598 : decode cL_law 598 = .ok (.iload 11, 2) := by decide +kernel
theorem dL_law_600 : decode cL_law 600 = .ok (.if_icmp .ne 38, 3) := by decide +kernel
theorem dL_law_603 : decode cL_law 603 = .ok (.goto 31, 3) := by decide +kernel
theorem dL_law_606 : decode cL_law 606 = .ok (.aload_n 1, 1) := by decide +kernel
theorem dL_law_607 : decode cL_law 607 = .ok (.iload 8, 2) := by decide +kernel
theorem dL_law_609 : decode cL_law 609 = .ok (.invokevirtual 135, 3) := by decide +kernel
theorem dL_law_612 : decode cL_law 612 = .ok (.iload 12, 2) := by decide +kernel
theorem dL_law_614 : decode cL_law 614 = .ok (.if_icmp .ne 24, 3) := by decide +kernel
theorem dL_law_617 : decode cL_law 617 = .ok (.iload 12, 2) := by decide +kernel
theorem dL_law_619 : decode cL_law 619 = .ok (.iload 11, 2) := by decide +kernel
theorem dL_law_621 : decode cL_law 621 = .ok (.iconst 1, 1) := by decide +kernel
theorem dL_law_622 : decode cL_law 622 = .ok (.iadd, 1) := by decide +kernel
theorem dL_law_623 : decode cL_law 623 = .ok (.iload 7, 2) := by decide +kernel
theorem dL_law_625 : decode cL_law 625 = .ok (.bipush 9, 2) := by decide +kernel
theorem dL_law_627 : decode cL_law 627 = .ok (.invokestatic 108, 3) := by decide +kernel
theorem dL_law_630 : decode cL_law 630 = .ok (.iadd, 1) := by decide +kernel
theorem dL_law_631 : decode cL_law 631 = .ok (.if_icmp .ne 7, 3) := by decide +kernel
theorem dL_law_634 : decode cL_law 634 = .ok (.iconst 1, 1) := by decide +kernel
theorem dL_law_635 : decode cL_law 635 = .ok (.goto 4, 3) := by decide +kernel
theorem dL_law_638 : decode cL_law 638 = .ok (.iconst 0, 1) := by decide +kernel
theorem dL_law_639 : decode cL_law 639 = .ok (.istore 4, 2) := by decide +kernel
theorem dL_law_641 : decode cL_law 641 = .ok (.goto 378, 3) := by decide +kernel
theorem dL_law_644 : decode cL_law 644 = .ok (.iload 10, 2) := by decide +kernel
theorem dL_law_646 : decode cL_law 646 = .ok (.bipush 25, 2) := by decide +kernel
theorem dL_law_648 : decode cL_law 648 = .ok (.if_icmp .ge 91, 3) := by decide +kernel
theorem dL_law_651 : decode cL_law 651 = .ok (.aload_n 1, 1) := by decide +kernel
theorem dL_law_652 : decode cL_law 652 = .ok (.invokevirtual 141, 3) := by decide +kernel
theorem dL_law_655 : decode cL_law 655 = .ok (.iload 7, 2) := by decide +kernel
theorem dL_law_657 : decode cL_law 657 = .ok (.bipush 9, 2) := by decide +kernel
theorem dL_law_659 : decode cL_law 659 = .ok (.ishr, 1) := by decide +kernel
theorem dL_law_660 : decode cL_law 660 = .ok (.iconst 3, 1) := by decide +kernel
theorem dL_law_661 : decode cL_law 661 = .ok (.invokestatic 108, 3) := by decide +kernel
theorem dL_law_664 : decode cL_law 664 = .ok (.iadd, 1) := by decide +kernel
theorem dL_law_665 : decode cL_law 665 = .ok (.istore 11, 2) := by decide +kernel
theorem dL_law_667 : decode cL_law 667 = .ok (.aload_n 1, 1) := by decide +kernel
theorem dL_law_668 : decode cL_law 668 = .ok (.iload 8, 2) := by decide +kernel
theorem dL_law_670 : decode cL_law 670 = .ok (.iload 11, 2) := by decide +kernel
theorem dL_law_672 : decode cL_law 672 = .ok (.iload 7, 2) := by decide +kernel
theorem dL_law_674 : decode cL_law 674 = .ok (.iconst 2, 1) := by decide +kernel
theorem dL_law_675 : decode cL_law 675 = .ok (.invokestatic 108, 3) := by decide +kernel
theorem dL_law_678 : decode cL_law 678 = .ok (.invokestatic 144, 3) := by decide +kernel
theorem dL_law_681 : decode cL_law 681 = .ok (.istore 12, 2) := by decide +kernel
theorem dL_law_683 : decode cL_law 683 = .ok (.iload 12, 2) := by decide +kernel
theorem dL_law_685 : decode cL_law 685 = .ok (.bipush (-3), 2) := by decide +kernel
theorem dL_law_687 : decode cL_law 687 = .ok (.if_icmp .eq 42, 3) := by decide +kernel
theorem dL_law_690 : decode cL_law 690 = .ok (.aload_n 1, 1) := by decide +kernel
theorem dL_law_691 : decode cL_law 691 = .ok (.iload 8, 2) := by decide +kernel
theorem dL_law_693 : decode cL_law 693 = .ok (.iload 11, 2) := by decide +kernel
theorem dL_law_695 : decode cL_law 695 = .ok (.invokevirtual 146, 3) := by decide +kernel
theorem dL_law_698 : decode cL_law 698 = .ok (.iload 12, 2) := by decide +kernel
theorem dL_law_700 : decode cL_law 700 = .ok (.if_icmp .ne 33, 3) := by decide +kernel
theorem dL_law_703 : decode cL_law 703 = .ok (.aload_n 1, 1) := by decide +kernel
theorem dL_law_704 : decode cL_law 704 = .ok (.iload 12, 2) := by decide +kernel
theorem dL_law_706 : decode cL_law 706 = .ok (.invokevirtual 60, 3) := by decide +kernel
theorem dL_law_709 : decode cL_law 709 = .ok (.ifCond .eq 24, 3) := by decide +kernel
theorem dL_law_712 : decode cL_law 712 = .ok (.aload_n 1, 1) := by decide +kernel
theorem dL_law_713 : decode cL_law 713 = .ok (.iload 8, 2) := by decide +kernel
theorem dL_law_715 : decode cL_law 715 = .ok (.iload 7, 2) := by decide +kernel
theorem dL_law_717 : decode cL_law 717 = .ok (.iconst 2, 1) := by decide +kernel
theorem dL_law_718 : decode cL_law 718 = .ok (.invokestatic 108, 3) := by decide +kernel
theorem dL_law_721 : decode cL_law 721 = .ok (.invokevirtual 149, 3) := by decide +kernel
theorem dL_law_724 : decode cL_law 724 = .ok (.iload 12, 2) := by decide +kernel
theorem dL_law_726 : decode cL_law 726 = .ok (.if_icmp .ne 7, 3) := by decide +kernel
theorem dL_law_729 : decode cL_law 729 = .ok (.iconst 1, 1) := by decide +kernel
theorem dL_law_730 : decode cL_law 730 = .ok (.goto 4, 3) := by decide +kernel
theorem dL_law_733 : decode cL_law 733 = .ok (.iconst 0, 1) := by decide +kernel
theorem dL_law_734 : decode cL_law 734 = .ok (.istore 4, 2) := by decide +kernel
theorem dL_law_736 : decode cL_law 736 = .ok (.goto 283, 3) := by decide +kernel
theorem dL_law_739 : decode cL_law 739 = .ok (.iload 10, 2) := by decide +kernel
theorem dL_law_741 : decode cL_law 741 = .ok (.bipush 26, 2) := by decide +kernel
theorem dL_law_743 : decode cL_law 743 = .ok (.if_icmp .ge 51, 3) := by decide +kernel
theorem dL_law_746 : decode cL_law 746 = .ok (.aload_n 1, 1) := by decide +kernel
theorem dL_law_747 : decode cL_law 747 = .ok (.invokevirtual 72, 3) := by decide +kernel
theorem dL_law_750 : decode cL_law 750 = .ok (.istore 11, 2) := by decide +kernel
theorem dL_law_752 : decode cL_law 752 = .ok (.aload_n 1, 1) := by decide +kernel
theorem dL_law_753 : decode cL_law 753 = .ok (.invokevirtual 141, 3) := by decide +kernel
theorem dL_law_756 : decode cL_law 756 = .ok (.sipush 900, 3) := by decide +kernel
theorem dL_law_759 : decode cL_law 759 = .ok (.if_icmp .gt 25, 3) := by decide +kernel
theorem dL_law_762 : decode cL_law 762 = .ok (.aload_n 1, 1) := by decide +kernel
theorem dL_law_763 : decode cL_law 763 = .ok (.iconst 1, 1) := by decide +kernel
theorem dL_law_764 : decode cL_law 764 = .ok (.iload 7, 2) := by decide +kernel
theorem dL_law_766 : decode cL_law 766 = .ok (.iconst 3, 1) := by decide +kernel
theorem dL_law_767 : decode cL_law 767 = .ok (.invokestatic 108, 3) := by decide +kernel
theorem dL_law_770 : decode cL_law 770 = .ok (.iadd, 1) := by decide +kernel
theorem dL_law_771 : decode cL_law 771 = .ok (.invokevirtual 152, 3) := by decide +kernel
theorem dL_law_774 : decode cL_law 774 = .ok (.aload_n 1, 1) := by decide +kernel
theorem dL_law_775 : decode cL_law 775 = .ok (.invokevirtual 72, 3) := by decide +kernel
theorem dL_law_778 : decode cL_law 778 = .ok (.iload 11, 2) := by decide +kernel
theorem dL_law_780 : decode cL_law 780 = .ok (.isub, 1) := by decide +kernel
theorem dL_law_781 : decode cL_law 781 = .ok (.if_icmp .ne 7, 3) := by decide +kernel
theorem dL_law_784 : decode cL_law 784 = .ok (.iconst 1, 1) := by decide +kernel
theorem dL_law_785 : decode cL_law 785 = .ok (.goto 4, 3) := by decide +kernel
theorem dL_law_788 : decode cL_law 788 = .ok (.iconst 0, 1) := by decide +kernel
theorem dL_law_789 : decode cL_law 789 = .ok (.istore 4, 2) := by decide +kernel
theorem dL_law_791 : decode cL_law 791 = .ok (.goto 228, 3) := by decide +kernel
theorem dL_law_794 : decode cL_law 794 = .ok (.iload 10, 2) := by decide +kernel
theorem dL_law_796 : decode cL_law 796 = .ok (.bipush 27, 2) := by decide +kernel
theorem dL_law_798 : decode cL_law 798 = .ok (.if_icmp .ge 114, 3) := by decide +kernel
theorem dL_law_801 : decode cL_law 801 = .ok (.aload_n 1, 1) := by decide +kernel
theorem dL_law_802 : decode cL_law 802 = .ok (.invokevirtual 72, 3) := by decide +kernel
theorem dL_law_805 : decode cL_law 805 = .ok (.ifCond .le 107, 3) := by decide +kernel
theorem dL_law_808 : decode cL_law 808 = .ok (.iload 7, 2) := by decide +kernel
theorem dL_law_810 : decode cL_law 810 = .ok (.aload_n 1, 1) := by decide +kernel
theorem dL_law_811 : decode cL_law 811 = .ok (.invokevirtual 72, 3) := by decide +kernel
theorem dL_law_814 : decode cL_law 814 = .ok (.invokestatic 108, 3) := by decide +kernel
theorem dL_law_817 : decode cL_law 817 = .ok (.istore 11, 2) := by decide +kernel
theorem dL_law_819 : decode cL_law 819 = .ok (.aload_n 1, 1) := by decide +kernel
theorem dL_law_820 : decode cL_law 820 = .ok (.iload 11, 2) := by decide +kernel
theorem dL_law_822 : decode cL_law 822 = .ok (.invokevirtual 82, 3) := by decide +kernel
theorem dL_law_825 : decode cL_law 825 = .ok (.istore 12, 2) := by decide +kernel
theorem dL_law_827 : decode cL_law 827 = .ok (.aload_n 1, 1) := by decide +kernel
theorem dL_law_828 : decode cL_law 828 = .ok (.iload 11, 2) := by decide +kernel
theorem dL_law_830 : decode cL_law 830 = .ok (.iconst 1, 1) := by decide +kernel
theorem dL_law_831 : decode cL_law 831 = .ok (.iload 7, 2) := by decide +kernel
theorem dL_law_833 : decode cL_law 833 = .ok (.bipush 9, 2) := by decide +kernel
theorem dL_law_835 : decode cL_law 835 = .ok (.ishr, 1) := by decide +kernel
theorem dL_law_836 : decode cL_law 836 = .ok (.bipush 9, 2) := by decide +kernel
theorem dL_law_838 : decode cL_law 838 = .ok (.invokestatic 108, 3) := by decide +kernel
theorem dL_law_841 : decode cL_law 841 = .ok (.iadd, 1) := by decide +kernel
theorem dL_law_842 : decode cL_law 842 = .ok (.invokestatic 155, 3) := by decide +kernel
theorem dL_law_845 : decode cL_law 845 = .ok (.istore 13, 2) := by decide +kernel
theorem dL_law_847 : decode cL_law 847 = .ok (.iload 13, 2) := by decide +kernel
theorem dL_law_849 : decode cL_law 849 = .ok (.bipush (-3), 2) := by decide +kernel
theorem dL_law_851 : decode cL_law 851 = .ok (.if_icmp .ne 22, 3) := by decide +kernel
theorem dL_law_854 : decode cL_law 854 = .ok (.aload_n 1, 1) := by decide +kernel
theorem dL_law_855 : decode cL_law 855 = .ok (.iload 11, 2) := by decide +kernel
theorem dL_law_857 : decode cL_law 857 = .ok (.invokevirtual 82, 3) := by decide +kernel
theorem dL_law_860 : decode cL_law 860 = .ok (.iload 12, 2) := by decide +kernel
theorem dL_law_862 : decode cL_law 862 = .ok (.if_icmp .ne 7, 3) := by decide +kernel
theorem dL_law_865 : decode cL_law 865 = .ok (.iconst 1, 1) := by decide +kernel
theorem dL_law_866 : decode cL_law 866 = .ok (.goto 41, 3) := by decide +kernel
theorem dL_law_869 : decode cL_law 869 = .ok (.iconst 0, 1) := by decide +kernel
theorem dL_law_870 : decode cL_law 870 = .ok (.goto 37, 3) := by decide +kernel
theorem dL_law_873 : decode cL_law 873 = .ok (.iload 13, 2) := by decide +kernel
theorem dL_law_875 : decode cL_law 875 = .ok (.iload 12, 2) := by decide +kernel
theorem dL_law_877 : decode cL_law 877 = .ok (.iconst 1, 1) := by decide +kernel
theorem dL_law_878 : decode cL_law 878 = .ok (.isub, 1) := by decide +kernel
theorem dL_law_879 : decode cL_law 879 = .ok (.iload 7, 2) := by decide +kernel
theorem dL_law_881 : decode cL_law 881 = .ok (.bipush 9, 2) := by decide +kernel
theorem dL_law_883 : decode cL_law 883 = .ok (.ishr, 1) := by decide +kernel
theorem dL_law_884 : decode cL_law 884 = .ok (.bipush 9, 2) := by decide +kernel
theorem dL_law_886 : decode cL_law 886 = .ok (.invokestatic 108, 3) := by decide +kernel
theorem dL_law_889 : decode cL_law 889 = .ok (.isub, 1) := by decide +kernel
theorem dL_law_890 : decode cL_law 890 = .ok (.if_icmp .ne 16, 3) := by decide +kernel
theorem dL_law_893 : decode cL_law 893 = .ok (.aload_n 1, 1) := by decide +kernel
theorem dL_law_894 : decode cL_law 894 = .ok (.iload 11, 2) := by decide +kernel
theorem dL_law_896 : decode cL_law 896 = .ok (.invokevirtual 76, 3) := by decide +kernel
theorem dL_law_899 : decode cL_law 899 = .ok (.ifCond .ne 7, 3) := by decide +kernel
theorem dL_law_902 : decode cL_law 902 = .ok (.iconst 1, 1) := by decide +kernel
theorem dL_law_903 : decode cL_law 903 = .ok (.goto 4, 3) := by decide +kernel
theorem dL_law_906 : decode cL_law 906 = .ok (.iconst 0, 1) := by decide +kernel
theorem dL_law_907 : decode cL_law 907 = .ok (.istore 4, 2) := by decide +kernel
theorem dL_law_909 : decode cL_law 909 = .ok (.goto 110, 3) := by decide +kernel
theorem dL_law_912 : decode cL_law 912 = .ok (.iload_n 2, 1) := by decide +kernel
theorem dL_law_913 : decode cL_law 913 = .ok (.ifCond .le 106, 3) := by decide +kernel
theorem dL_law_916 : decode cL_law 916 = .ok (.iload 7, 2) := by decide +kernel
theorem dL_law_918 : decode cL_law 918 = .ok (.iconst 3, 1) := by decide +kernel
theorem dL_law_919 : decode cL_law 919 = .ok (.invokestatic 108, 3) := by decide +kernel
theorem dL_law_922 : decode cL_law 922 = .ok (.ifCond .ne 97, 3) := by decide +kernel
theorem dL_law_925 : decode cL_law 925 = .ok (.iload 7, 2) := by decide +kernel
theorem dL_law_927 : decode cL_law 927 = .ok (.bipush 9, 2) := by decide +kernel
theorem dL_law_929 : decode cL_law 929 = .ok (.ishr, 1) := by decide +kernel
theorem dL_law_930 : decode cL_law 930 = .ok (.iload_n 2, 1) := by decide +kernel
theorem dL_law_931 : decode cL_law 931 = .ok (.invokestatic 108, 3) := by decide +kernel
theorem dL_law_934 : decode cL_law 934 = .ok (.istore 11, 2) := by decide +kernel
theorem dL_law_936 : decode cL_law 936 = .ok (.aload_n 1, 1) := by decide +kernel
theorem dL_law_937 : decode cL_law 937 = .ok (.iload 11, 2) := by decide +kernel
theorem dL_law_939 : decode cL_law 939 = .ok (.invokestatic 157, 3) := by decide +kernel
theorem dL_law_942 : decode cL_law 942 = .ok (.istore 12, 2) := by decide +kernel
theorem dL_law_944 : decode cL_law 944 = .ok (.iload 12, 2) := by decide +kernel
theorem dL_law_946 : decode cL_law 946 = .ok (.bipush (-3), 2) := by decide +kernel
theorem dL_law_948 : decode cL_law 948 = .ok (.if_icmp .lt 18, 3) := by decide +kernel
theorem dL_law_951 : decode cL_law 951 = .ok (.aload_n 1, 1) := by decide +kernel
theorem dL_law_952 : decode cL_law 952 = .ok (.iload 11, 2) := by decide +kernel
theorem dL_law_954 : decode cL_law 954 = .ok (.invokestatic 157, 3) := by decide +kernel
theorem dL_law_957 : decode cL_law 957 = .ok (.bipush (-3), 2) := by decide +kernel
theorem dL_law_959 : decode cL_law 959 = .ok (.if_icmp .ne 7, 3) := by decide +kernel
theorem dL_law_962 : decode cL_law 962 = .ok (.iconst 1, 1) := by decide +kernel
theorem dL_law_963 : decode cL_law 963 = .ok (.goto 4, 3) := by decide +kernel
theorem dL_law_966 : decode cL_law 966 = .ok (.iconst 0, 1) := by decide +kernel
theorem dL_law_967 : decode cL_law 967 = .ok (.istore 4, 2) := by decide +kernel
theorem dL_law_969 : decode cL_law 969 = .ok (.iconst 0, 1) := by decide +kernel
theorem dL_law_970 : decode cL_law 970 = .ok (.istore 13, 2) := by decide +kernel
theorem dL_law_972 : decode cL_law 972 = .ok (.iload 13, 2) := by decide +kernel
theorem dL_law_974 : decode cL_law 974 = .ok (.aload_n 1, 1) := by decide +kernel
theorem dL_law_975 : decode cL_law 975 = .ok (.iload 11, 2) := by decide +kernel
theorem dL_law_977 : decode cL_law 977 = .ok (.invokevirtual 160, 3) := by decide +kernel
theorem dL_law_980 : decode cL_law 980 = .ok (.if_icmp .ge 39, 3) := by decide +kernel
theorem dL_law_983 : decode cL_law 983 = .ok (.iload 4, 2) := by decide +kernel
theorem dL_law_985 : decode cL_law 985 = .ok (.ifCond .eq 34, 3) := by decide +kernel
theorem dL_law_988 : decode cL_law 988 = .ok (.aload_n 1, 1) := by decide +kernel
theorem dL_law_989 : decode cL_law 989 = .ok (.aload_n 1, 1) := by decide +kernel
theorem dL_law_990 : decode cL_law 990 = .ok (.iload 11, 2) := by decide +kernel
theorem dL_law_992 : decode cL_law 992 = .ok (.iload 13, 2) := by decide +kernel
theorem dL_law_994 : decode cL_law 994 = .ok (.invokevirtual 163, 3) := by decide +kernel
theorem dL_law_997 : decode cL_law 997 = .ok (.invokevirtual 76, 3) := by decide +kernel
theorem dL_law_1000 : decode cL_law 1000 = .ok (.iconst 2, 1) := by decide +kernel
theorem dL_law_1001 : decode cL_law 1001 = .ok (.iand, 1) := by decide +kernel
theorem dL_law_1002 : decode cL_law 1002 = .ok (.iconst 2, 1) := by decide +kernel
theorem dL_law_1003 : decode cL_law 1003 = .ok (.if_icmp .ne 7, 3) := by decide +kernel
theorem dL_law_1006 : decode cL_law 1006 = .ok (.iconst 1, 1) := by decide +kernel
theorem dL_law_1007 : decode cL_law 1007 = .ok (.goto 4, 3) := by decide +kernel
theorem dL_law_1010 : decode cL_law 1010 = .ok (.iconst 0, 1) := by decide +kernel
theorem dL_law_1011 : decode cL_law 1011 = .ok (.istore 4, 2) := by decide +kernel
theorem dL_law_1013 : decode cL_law 1013 = .ok (.iinc 13 1, 3) := by decide +kernel
theorem dL_law_1016 : decode cL_law 1016 = .ok (.goto (-44), 3) := by decide +kernel
theorem dL_law_1019 : decode cL_law 1019 = .ok (.iload 4, 2) := by decide +kernel
theorem dL_law_1021 : decode cL_law 1021 = .ok (.ifCond .eq 47, 3) := by decide +kernel
theorem dL_law_1024 : decode cL_law 1024 = .ok (.aload_n 1, 1) := by decide +kernel
theorem dL_law_1025 : decode cL_law 1025 = .ok (.invokestatic 92, 3) := by decide +kernel
theorem dL_law_1028 : decode cL_law 1028 = .ok (.ifCond .eq 40, 3) := by decide +kernel
theorem dL_law_1031 : decode cL_law 1031 = .ok (.aload_n 1, 1) := by decide +kernel
theorem dL_law_1032 : decode cL_law 1032 = .ok (.iload 8, 2) := by decide +kernel
theorem dL_law_1034 : decode cL_law 1034 = .ok (.invokestatic 166, 3) := by decide +kernel
theorem dL_law_1037 : decode cL_law 1037 = .ok (.ifCond .eq 31, 3) := by decide +kernel
theorem dL_law_1040 : decode cL_law 1040 = .ok (.aload_n 1, 1) := by decide +kernel
theorem dL_law_1041 : decode cL_law 1041 = .ok (.iload 9, 2) := by decide +kernel
theorem dL_law_1043 : decode cL_law 1043 = .ok (.invokestatic 166, 3) := by decide +kernel
theorem dL_law_1046 : decode cL_law 1046 = .ok (.ifCond .eq 22, 3) := by decide +kernel
theorem dL_law_1049 : decode cL_law 1049 = .ok (.iload 6, 2) := by decide +kernel
theorem dL_law_1051 : decode cL_law 1051 = .ok (.iconst 4, 1) := by decide +kernel
theorem dL_law_1052 : decode cL_law 1052 = .ok (.irem, 1) := by decide +kernel
theorem dL_law_1053 : decode cL_law 1053 = .ok (.iconst 3, 1) := by decide +kernel
theorem dL_law_1054 : decode cL_law 1054 = .ok (.if_icmp .lt 10, 3) := by decide +kernel
theorem dL_law_1057 : decode cL_law 1057 = .ok (.aload_n 1, 1) := by decide +kernel
theorem dL_law_1058 : decode cL_law 1058 = .ok (.invokestatic 96, 3) := by decide +kernel
theorem dL_law_1061 : decode cL_law 1061 = .ok (.ifCond .eq 7, 3) := by decide +kernel
theorem dL_law_1064 : decode cL_law 1064 = .ok (.iconst 1, 1) := by decide +kernel
theorem dL_law_1065 : decode cL_law 1065 = .ok (.goto 4, 3) := by decide +kernel
theorem dL_law_1068 : decode cL_law 1068 = .ok (.iconst 0, 1) := by decide +kernel
theorem dL_law_1069 : decode cL_law 1069 = .ok (.istore 4, 2) := by decide +kernel
theorem dL_law_1071 : decode cL_law 1071 = .ok (.iinc 6 1, 3) := by decide +kernel
theorem dL_law_1074 : decode cL_law 1074 = .ok (.goto (-1009), 3) := by decide +kernel
theorem dL_law_1077 : decode cL_law 1077 = .ok (.iconst 0, 1) := by decide +kernel
theorem dL_law_1078 : decode cL_law 1078 = .ok (.istore 6, 2) := by decide +kernel
theorem dL_law_1080 : decode cL_law 1080 = .ok (.iload 6, 2) := by decide +kernel
theorem dL_law_1082 : decode cL_law 1082 = .ok (.aload_n 1, 1) := by decide +kernel
theorem dL_law_1083 : decode cL_law 1083 = .ok (.invokevirtual 72, 3) := by decide +kernel
theorem dL_law_1086 : decode cL_law 1086 = .ok (.if_icmp .ge 42, 3) := by decide +kernel
theorem dL_law_1089 : decode cL_law 1089 = .ok (.iload 6, 2) := by decide +kernel
theorem dL_law_1091 : decode cL_law 1091 = .ok (.iconst 2, 1) := by decide +kernel
theorem dL_law_1092 : decode cL_law 1092 = .ok (.if_icmp .ge 36, 3) := by decide +kernel
theorem dL_law_1095 : decode cL_law 1095 = .ok (.iload 4, 2) := by decide +kernel
theorem dL_law_1097 : decode cL_law 1097 = .ok (.ifCond .eq 31, 3) := by decide +kernel
theorem dL_law_1100 : decode cL_law 1100 = .ok (.aload_n 1, 1) := by decide +kernel
theorem dL_law_1101 : decode cL_law 1101 = .ok (.iload 6, 2) := by decide +kernel
theorem dL_law_1103 : decode cL_law 1103 = .ok (.invokevirtual 76, 3) := by decide +kernel
theorem dL_law_1106 : decode cL_law 1106 = .ok (.aload_n 1, 1) := by decide +kernel
theorem dL_law_1107 : decode cL_law 1107 = .ok (.iload 6, 2) := by decide +kernel
theorem dL_law_1109 : decode cL_law 1109 = .ok (.invokevirtual 170, 3) := by decide +kernel
theorem dL_law_1112 : decode cL_law 1112 = .ok (.if_icmp .ne 7, 3) := by decide +kernel
theorem dL_law_1115 : decode cL_law 1115 = .ok (.iconst 1, 1) := by decide +kernel
theorem dL_law_1116 : decode cL_law 1116 = .ok (.goto 4, 3) := by decide +kernel
theorem dL_law_1119 : decode cL_law 1119 = .ok (.iconst 0, 1) := by decide +kernel
theorem dL_law_1120 : decode cL_law 1120 = .ok (.istore 4, 2) := by decide +kernel
theorem dL_law_1122 : decode cL_law 1122 = .ok (.iinc 6 1, 3) := by decide +kernel
theorem dL_law_1125 : decode cL_law 1125 = .ok (.goto (-45), 3) := by decide +kernel
theorem dL_law_1128 : decode cL_law 1128 = .ok (.iconst 0, 1) := by decide +kernel
theorem dL_law_1129 : decode cL_law 1129 = .ok (.istore 6, 2) := by decide +kernel
theorem dL_law_1131 : decode cL_law 1131 = .ok (.iconst 0, 1) := by decide +kernel
theorem dL_law_1132 : decode cL_law 1132 = .ok (.istore 7, 2) := by decide +kernel
theorem dL_law_1134 : decode cL_law 1134 = .ok (.iload 7, 2) := by decide +kernel
theorem dL_law_1136 : decode cL_law 1136 = .ok (.aload_n 1, 1) := by decide +kernel
theorem dL_law_1137 : decode cL_law 1137 = .ok (.invokevirtual 98, 3) := by decide +kernel
theorem dL_law_1140 : decode cL_law 1140 = .ok (.if_icmp .ge 74, 3) := by decide +kernel
theorem dL_law_1143 : decode cL_law 1143 = .ok (.iload 4, 2) := by decide +kernel
theorem dL_law_1145 : decode cL_law 1145 = .ok (.ifCond .eq 69, 3) := by decide +kernel
theorem dL_law_1148 : decode cL_law 1148 = .ok (.iload 6, 2) := by decide +kernel
theorem dL_law_1150 : decode cL_law 1150 = .ok (.aload_n 1, 1) := by decide +kernel
theorem dL_law_1151 : decode cL_law 1151 = .ok (.iload 7, 2) := by decide +kernel
theorem dL_law_1153 : decode cL_law 1153 = .ok (.invokevirtual 173, 3) := by decide +kernel
theorem dL_law_1156 : decode cL_law 1156 = .ok (.iadd, 1) := by decide +kernel
theorem dL_law_1157 : decode cL_law 1157 = .ok (.istore 6, 2) := by decide +kernel
theorem dL_law_1159 : decode cL_law 1159 = .ok (.aload_n 1, 1) := by decide +kernel
theorem dL_law_1160 : decode cL_law 1160 = .ok (.iload 7, 2) := by decide +kernel
theorem dL_law_1162 : decode cL_law 1162 = .ok (.invokevirtual 173, 3) := by decide +kernel
theorem dL_law_1165 : decode cL_law 1165 = .ok (.ifCond .le 40, 3) := by decide +kernel
theorem dL_law_1168 : decode cL_law 1168 = .ok (.aload_n 1, 1) := by decide +kernel
theorem dL_law_1169 : decode cL_law 1169 = .ok (.iload 7, 2) := by decide +kernel
theorem dL_law_1171 : decode cL_law 1171 = .ok (.invokevirtual 176, 3) := by decide +kernel
theorem dL_law_1174 : decode cL_law 1174 = .ok (.iconst 1, 1) := by decide +kernel
theorem dL_law_1175 : decode cL_law 1175 = .ok (.if_icmp .eq 13, 3) := by decide +kernel
theorem dL_law_1178 : decode cL_law 1178 = .ok (.aload_n 1, 1) := by decide +kernel
theorem dL_law_1179 : decode cL_law 1179 = .ok (.iload 7, 2) := by decide +kernel
theorem dL_law_1181 : decode cL_law 1181 = .ok (.invokevirtual 176, 3) := by decide +kernel
theorem dL_law_1184 : decode cL_law 1184 = .ok (.iconst 2, 1) := by decide +kernel
theorem dL_law_1185 : decode cL_law 1185 = .ok (.if_icmp .ne 20, 3) := by decide +kernel
theorem dL_law_1188 : decode cL_law 1188 = .ok (.aload_n 1, 1) := by decide +kernel
theorem dL_law_1189 : decode cL_law 1189 = .ok (.iload 7, 2) := by decide +kernel
theorem dL_law_1191 : decode cL_law 1191 = .ok (.invokevirtual 179, 3) := by decide +kernel
theorem dL_law_1194 : decode cL_law 1194 = .ok (.aload_n 1, 1) := by decide +kernel
theorem dL_law_1195 : decode cL_law 1195 = .ok (.invokevirtual 72, 3) := by decide +kernel
theorem dL_law_1198 : decode cL_law 1198 = .ok (.if_icmp .ge 7, 3) := by decide +kernel
theorem dL_law_1201 : decode cL_law 1201 = .ok (.iconst 1, 1) := by decide +kernel
theorem dL_law_1202 : decode cL_law 1202 = .ok (.goto 4, 3) := by decide +kernel
theorem dL_law_1205 : decode cL_law 1205 = .ok (.iconst 0, 1) := by decide +kernel
theorem dL_law_1206 : decode cL_law 1206 = .ok (.istore 4, 2) := by decide +kernel
theorem dL_law_1208 : decode cL_law 1208 = .ok (.iinc 7 1, 3) := by decide +kernel
theorem dL_law_1211 : decode cL_law 1211 = .ok (.goto (-77), 3) := by decide +kernel
theorem dL_law_1214 : decode cL_law 1214 = .ok (.iload 4, 2) := by decide +kernel
theorem dL_law_1216 : decode cL_law 1216 = .ok (.ifCond .eq 27, 3) := by decide +kernel
theorem dL_law_1219 : decode cL_law 1219 = .ok (.aload_n 1, 1) := by decide +kernel
theorem dL_law_1220 : decode cL_law 1220 = .ok (.invokestatic 96, 3) := by decide +kernel
theorem dL_law_1223 : decode cL_law 1223 = .ok (.ifCond .eq 20, 3) := by decide +kernel
theorem dL_law_1226 : decode cL_law 1226 = .ok (.iload 6, 2) := by decide +kernel
theorem dL_law_1228 : decode cL_law 1228 = .ok (.aload_n 1, 1) := by decide +kernel
theorem dL_law_1229 : decode cL_law 1229 = .ok (.invokevirtual 98, 3) := by decide +kernel
theorem dL_law_1232 : decode cL_law 1232 = .ok (.if_icmp .lt 11, 3) := by decide +kernel
theorem dL_law_1235 : decode cL_law 1235 = .ok (.iload_n 3, 1) := by decide +kernel
theorem dL_law_1236 : decode cL_law 1236 = .ok (.ifCond .lt 7, 3) := by decide +kernel
theorem dL_law_1239 : decode cL_law 1239 = .ok (.iconst 1, 1) := by decide +kernel
theorem dL_law_1240 : decode cL_law 1240 = .ok (.goto 4, 3) := by decide +kernel
theorem dL_law_1243 : decode cL_law 1243 = .ok (.iconst 0, 1) := by decide +kernel
theorem dL_law_1244 : decode cL_law 1244 = .ok (.ireturn, 1) := by decide +kernel
end
