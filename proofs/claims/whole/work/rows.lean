section
-- ===== PART A: goes FIRST, ahead of the names: the tables' words, and 'selects' of the private methods out of them =====
/-- a private method of a class that the tables say can be made, by its rows of tables_1 -/
def lw_okq (q : MethodName × Nat) : Prop := (q.1.cls ≠ "java/lang/invoke/MethodHandle" ∧ q.1.cls ≠ "java/lang/invoke/VarHandle") ∧ Cond.instantiable q.1.cls q.2 ∈ tables_1 ∧ Cond.privateMethod q.1 ∈ tables_1 ∧ Cond.instanceMethod q.1 ∈ tables_1
theorem lw_p0 : lw_okq (⟨"java/lang/Throwable", "fillInStackTrace", "(I)Ljava/lang/Throwable;"⟩, 6) := ⟨⟨by decide +kernel, by decide +kernel⟩, List.mem_of_getElem? (i := 255) (by decide +kernel), List.mem_of_getElem? (i := 253) (by decide +kernel), List.mem_of_getElem? (i := 254) (by decide +kernel)⟩
theorem lw_p1 : lw_okq (⟨"JoinHouse$Tables", "put", "(III)V"⟩, 4) := ⟨⟨by decide +kernel, by decide +kernel⟩, List.mem_of_getElem? (i := 44) (by decide +kernel), List.mem_of_getElem? (i := 322) (by decide +kernel), List.mem_of_getElem? (i := 323) (by decide +kernel)⟩
theorem lw_p2 : lw_okq (⟨"JoinHouse$Tables", "hasValue", "(III)Z"⟩, 4) := ⟨⟨by decide +kernel, by decide +kernel⟩, List.mem_of_getElem? (i := 44) (by decide +kernel), List.mem_of_getElem? (i := 326) (by decide +kernel), List.mem_of_getElem? (i := 327) (by decide +kernel)⟩
theorem lw_p3 : lw_okq (⟨"JoinHouse", "checkSide", "(II)V"⟩, 4) := ⟨⟨by decide +kernel, by decide +kernel⟩, List.mem_of_getElem? (i := 18) (by decide +kernel), List.mem_of_getElem? (i := 353) (by decide +kernel), List.mem_of_getElem? (i := 354) (by decide +kernel)⟩
theorem lw_p4 : lw_okq (⟨"JoinHouse", "checkConditionsLeft", "()V"⟩, 4) := ⟨⟨by decide +kernel, by decide +kernel⟩, List.mem_of_getElem? (i := 18) (by decide +kernel), List.mem_of_getElem? (i := 358) (by decide +kernel), List.mem_of_getElem? (i := 359) (by decide +kernel)⟩
theorem lw_p5 : lw_okq (⟨"JoinHouse", "checkPlace", "(I)V"⟩, 4) := ⟨⟨by decide +kernel, by decide +kernel⟩, List.mem_of_getElem? (i := 18) (by decide +kernel), List.mem_of_getElem? (i := 389) (by decide +kernel), List.mem_of_getElem? (i := 390) (by decide +kernel)⟩
theorem lw_p6 : lw_okq (⟨"JoinHouse$Planner", "sizeOf", "(I)I"⟩, 4) := ⟨⟨by decide +kernel, by decide +kernel⟩, List.mem_of_getElem? (i := 32) (by decide +kernel), List.mem_of_getElem? (i := 413) (by decide +kernel), List.mem_of_getElem? (i := 414) (by decide +kernel)⟩
theorem lw_p7 : lw_okq (⟨"JoinHouse$Planner", "bestAfter", "(I)I"⟩, 4) := ⟨⟨by decide +kernel, by decide +kernel⟩, List.mem_of_getElem? (i := 32) (by decide +kernel), List.mem_of_getElem? (i := 444) (by decide +kernel), List.mem_of_getElem? (i := 445) (by decide +kernel)⟩
theorem lw_p8 : lw_okq (⟨"JoinHouse$Planner", "sumFrom", "(II)I"⟩, 4) := ⟨⟨by decide +kernel, by decide +kernel⟩, List.mem_of_getElem? (i := 32) (by decide +kernel), List.mem_of_getElem? (i := 448) (by decide +kernel), List.mem_of_getElem? (i := 449) (by decide +kernel)⟩
theorem lw_p9 : lw_okq (⟨"JoinHouse$Planner", "aheadOf", "(I)I"⟩, 4) := ⟨⟨by decide +kernel, by decide +kernel⟩, List.mem_of_getElem? (i := 32) (by decide +kernel), List.mem_of_getElem? (i := 463) (by decide +kernel), List.mem_of_getElem? (i := 464) (by decide +kernel)⟩
theorem lw_p10 : lw_okq (⟨"JoinHouse$Runner", "begin", "(I)V"⟩, 11) := ⟨⟨by decide +kernel, by decide +kernel⟩, List.mem_of_getElem? (i := 26) (by decide +kernel), List.mem_of_getElem? (i := 515) (by decide +kernel), List.mem_of_getElem? (i := 516) (by decide +kernel)⟩
theorem lw_p11 : lw_okq (⟨"JoinHouse$Sieve", "judge", "(LJoinHouse$Query;II)V"⟩, 5) := ⟨⟨by decide +kernel, by decide +kernel⟩, List.mem_of_getElem? (i := 120) (by decide +kernel), List.mem_of_getElem? (i := 525) (by decide +kernel), List.mem_of_getElem? (i := 526) (by decide +kernel)⟩
theorem lw_p12 : lw_okq (⟨"JoinHouse$Runner", "goTo", "(II)Z"⟩, 11) := ⟨⟨by decide +kernel, by decide +kernel⟩, List.mem_of_getElem? (i := 26) (by decide +kernel), List.mem_of_getElem? (i := 539) (by decide +kernel), List.mem_of_getElem? (i := 540) (by decide +kernel)⟩
theorem lw_p13 : lw_okq (⟨"JoinHouse$Runner", "extend", "(IIII)I"⟩, 11) := ⟨⟨by decide +kernel, by decide +kernel⟩, List.mem_of_getElem? (i := 26) (by decide +kernel), List.mem_of_getElem? (i := 563) (by decide +kernel), List.mem_of_getElem? (i := 564) (by decide +kernel)⟩
theorem lw_p14 : lw_okq (⟨"JoinHouse$Runner", "swap", "()V"⟩, 11) := ⟨⟨by decide +kernel, by decide +kernel⟩, List.mem_of_getElem? (i := 26) (by decide +kernel), List.mem_of_getElem? (i := 567) (by decide +kernel), List.mem_of_getElem? (i := 568) (by decide +kernel)⟩
theorem lw_p15 : lw_okq (⟨"JoinHouse$Runner", "sortBy", "(I)V"⟩, 11) := ⟨⟨by decide +kernel, by decide +kernel⟩, List.mem_of_getElem? (i := 26) (by decide +kernel), List.mem_of_getElem? (i := 571) (by decide +kernel), List.mem_of_getElem? (i := 572) (by decide +kernel)⟩
def lw_privs_1 : List (MethodName × Nat) := [(⟨"java/lang/Throwable", "fillInStackTrace", "(I)Ljava/lang/Throwable;"⟩, 6), (⟨"JoinHouse$Tables", "put", "(III)V"⟩, 4), (⟨"JoinHouse$Tables", "hasValue", "(III)Z"⟩, 4), (⟨"JoinHouse", "checkSide", "(II)V"⟩, 4), (⟨"JoinHouse", "checkConditionsLeft", "()V"⟩, 4), (⟨"JoinHouse", "checkPlace", "(I)V"⟩, 4), (⟨"JoinHouse$Planner", "sizeOf", "(I)I"⟩, 4), (⟨"JoinHouse$Planner", "bestAfter", "(I)I"⟩, 4), (⟨"JoinHouse$Planner", "sumFrom", "(II)I"⟩, 4), (⟨"JoinHouse$Planner", "aheadOf", "(I)I"⟩, 4), (⟨"JoinHouse$Runner", "begin", "(I)V"⟩, 11), (⟨"JoinHouse$Sieve", "judge", "(LJoinHouse$Query;II)V"⟩, 5), (⟨"JoinHouse$Runner", "goTo", "(II)Z"⟩, 11), (⟨"JoinHouse$Runner", "extend", "(IIII)I"⟩, 11), (⟨"JoinHouse$Runner", "swap", "()V"⟩, 11), (⟨"JoinHouse$Runner", "sortBy", "(I)V"⟩, 11)]
theorem lw_r1 : ∀ q ∈ lw_privs_1, lw_okq q := List.forall_mem_cons.mpr ⟨lw_p0, List.forall_mem_cons.mpr ⟨lw_p1, List.forall_mem_cons.mpr ⟨lw_p2, List.forall_mem_cons.mpr ⟨lw_p3, List.forall_mem_cons.mpr ⟨lw_p4, List.forall_mem_cons.mpr ⟨lw_p5, List.forall_mem_cons.mpr ⟨lw_p6, List.forall_mem_cons.mpr ⟨lw_p7, List.forall_mem_cons.mpr ⟨lw_p8, List.forall_mem_cons.mpr ⟨lw_p9, List.forall_mem_cons.mpr ⟨lw_p10, List.forall_mem_cons.mpr ⟨lw_p11, List.forall_mem_cons.mpr ⟨lw_p12, List.forall_mem_cons.mpr ⟨lw_p13, List.forall_mem_cons.mpr ⟨lw_p14, List.forall_mem_cons.mpr ⟨lw_p15, fun _ h => absurd h List.not_mem_nil⟩⟩⟩⟩⟩⟩⟩⟩⟩⟩⟩⟩⟩⟩⟩⟩
theorem lw_p16 : lw_okq (⟨"JoinHouse$Runner", "keep", "(I)V"⟩, 11) := ⟨⟨by decide +kernel, by decide +kernel⟩, List.mem_of_getElem? (i := 26) (by decide +kernel), List.mem_of_getElem? (i := 579) (by decide +kernel), List.mem_of_getElem? (i := 580) (by decide +kernel)⟩
theorem lw_p17 : lw_okq (⟨"JoinHouseModel", "isColumn", "(II)Z"⟩, 21) := ⟨⟨by decide +kernel, by decide +kernel⟩, List.mem_of_getElem? (i := 594) (by decide +kernel), List.mem_of_getElem? (i := 692) (by decide +kernel), List.mem_of_getElem? (i := 693) (by decide +kernel)⟩
theorem lw_p18 : lw_okq (⟨"JoinHouseModel", "condition", "(IIIIIZ)I"⟩, 21) := ⟨⟨by decide +kernel, by decide +kernel⟩, List.mem_of_getElem? (i := 594) (by decide +kernel), List.mem_of_getElem? (i := 696) (by decide +kernel), List.mem_of_getElem? (i := 697) (by decide +kernel)⟩
theorem lw_p19 : lw_okq (⟨"JoinHouseModel", "plansTo", "(I)Z"⟩, 21) := ⟨⟨by decide +kernel, by decide +kernel⟩, List.mem_of_getElem? (i := 594) (by decide +kernel), List.mem_of_getElem? (i := 712) (by decide +kernel), List.mem_of_getElem? (i := 713) (by decide +kernel)⟩
theorem lw_p20 : lw_okq (⟨"JoinHouseModel", "makePlan", "()V"⟩, 21) := ⟨⟨by decide +kernel, by decide +kernel⟩, List.mem_of_getElem? (i := 594) (by decide +kernel), List.mem_of_getElem? (i := 716) (by decide +kernel), List.mem_of_getElem? (i := 717) (by decide +kernel)⟩
theorem lw_p21 : lw_okq (⟨"JoinHouseModel", "sizeOf", "(I)J"⟩, 21) := ⟨⟨by decide +kernel, by decide +kernel⟩, List.mem_of_getElem? (i := 594) (by decide +kernel), List.mem_of_getElem? (i := 720) (by decide +kernel), List.mem_of_getElem? (i := 721) (by decide +kernel)⟩
theorem lw_p22 : lw_okq (⟨"JoinHouseModel", "isAmong", "(II)Z"⟩, 21) := ⟨⟨by decide +kernel, by decide +kernel⟩, List.mem_of_getElem? (i := 594) (by decide +kernel), List.mem_of_getElem? (i := 724) (by decide +kernel), List.mem_of_getElem? (i := 725) (by decide +kernel)⟩
theorem lw_p23 : lw_okq (⟨"JoinHouseModel", "divisor", "(I)I"⟩, 21) := ⟨⟨by decide +kernel, by decide +kernel⟩, List.mem_of_getElem? (i := 594) (by decide +kernel), List.mem_of_getElem? (i := 728) (by decide +kernel), List.mem_of_getElem? (i := 729) (by decide +kernel)⟩
theorem lw_p24 : lw_okq (⟨"JoinHouseModel", "spread", "(II)I"⟩, 21) := ⟨⟨by decide +kernel, by decide +kernel⟩, List.mem_of_getElem? (i := 594) (by decide +kernel), List.mem_of_getElem? (i := 732) (by decide +kernel), List.mem_of_getElem? (i := 733) (by decide +kernel)⟩
theorem lw_p25 : lw_okq (⟨"JoinHouseModel", "cell", "(III)I"⟩, 21) := ⟨⟨by decide +kernel, by decide +kernel⟩, List.mem_of_getElem? (i := 594) (by decide +kernel), List.mem_of_getElem? (i := 736) (by decide +kernel), List.mem_of_getElem? (i := 737) (by decide +kernel)⟩
theorem lw_p26 : lw_okq (⟨"JoinHouseModel", "sumOfOrder", "()J"⟩, 21) := ⟨⟨by decide +kernel, by decide +kernel⟩, List.mem_of_getElem? (i := 594) (by decide +kernel), List.mem_of_getElem? (i := 741) (by decide +kernel), List.mem_of_getElem? (i := 742) (by decide +kernel)⟩
theorem lw_p27 : lw_okq (⟨"JoinHouseModel", "nextOrder", "()Z"⟩, 21) := ⟨⟨by decide +kernel, by decide +kernel⟩, List.mem_of_getElem? (i := 594) (by decide +kernel), List.mem_of_getElem? (i := 745) (by decide +kernel), List.mem_of_getElem? (i := 746) (by decide +kernel)⟩
theorem lw_p28 : lw_okq (⟨"JoinHouseModel", "swap", "(II)V"⟩, 21) := ⟨⟨by decide +kernel, by decide +kernel⟩, List.mem_of_getElem? (i := 594) (by decide +kernel), List.mem_of_getElem? (i := 749) (by decide +kernel), List.mem_of_getElem? (i := 750) (by decide +kernel)⟩
theorem lw_p29 : lw_okq (⟨"JoinHouseModel", "methodAt", "(I)I"⟩, 21) := ⟨⟨by decide +kernel, by decide +kernel⟩, List.mem_of_getElem? (i := 594) (by decide +kernel), List.mem_of_getElem? (i := 757) (by decide +kernel), List.mem_of_getElem? (i := 758) (by decide +kernel)⟩
theorem lw_p30 : lw_okq (⟨"JoinHouseModel", "ahead", "(I)I"⟩, 21) := ⟨⟨by decide +kernel, by decide +kernel⟩, List.mem_of_getElem? (i := 594) (by decide +kernel), List.mem_of_getElem? (i := 761) (by decide +kernel), List.mem_of_getElem? (i := 762) (by decide +kernel)⟩
theorem lw_p31 : lw_okq (⟨"JoinHouseModel", "conditionFor", "(III)I"⟩, 21) := ⟨⟨by decide +kernel, by decide +kernel⟩, List.mem_of_getElem? (i := 594) (by decide +kernel), List.mem_of_getElem? (i := 765) (by decide +kernel), List.mem_of_getElem? (i := 766) (by decide +kernel)⟩
def lw_privs_2 : List (MethodName × Nat) := [(⟨"JoinHouse$Runner", "keep", "(I)V"⟩, 11), (⟨"JoinHouseModel", "isColumn", "(II)Z"⟩, 21), (⟨"JoinHouseModel", "condition", "(IIIIIZ)I"⟩, 21), (⟨"JoinHouseModel", "plansTo", "(I)Z"⟩, 21), (⟨"JoinHouseModel", "makePlan", "()V"⟩, 21), (⟨"JoinHouseModel", "sizeOf", "(I)J"⟩, 21), (⟨"JoinHouseModel", "isAmong", "(II)Z"⟩, 21), (⟨"JoinHouseModel", "divisor", "(I)I"⟩, 21), (⟨"JoinHouseModel", "spread", "(II)I"⟩, 21), (⟨"JoinHouseModel", "cell", "(III)I"⟩, 21), (⟨"JoinHouseModel", "sumOfOrder", "()J"⟩, 21), (⟨"JoinHouseModel", "nextOrder", "()Z"⟩, 21), (⟨"JoinHouseModel", "swap", "(II)V"⟩, 21), (⟨"JoinHouseModel", "methodAt", "(I)I"⟩, 21), (⟨"JoinHouseModel", "ahead", "(I)I"⟩, 21), (⟨"JoinHouseModel", "conditionFor", "(III)I"⟩, 21)]
theorem lw_r2 : ∀ q ∈ lw_privs_2, lw_okq q := List.forall_mem_cons.mpr ⟨lw_p16, List.forall_mem_cons.mpr ⟨lw_p17, List.forall_mem_cons.mpr ⟨lw_p18, List.forall_mem_cons.mpr ⟨lw_p19, List.forall_mem_cons.mpr ⟨lw_p20, List.forall_mem_cons.mpr ⟨lw_p21, List.forall_mem_cons.mpr ⟨lw_p22, List.forall_mem_cons.mpr ⟨lw_p23, List.forall_mem_cons.mpr ⟨lw_p24, List.forall_mem_cons.mpr ⟨lw_p25, List.forall_mem_cons.mpr ⟨lw_p26, List.forall_mem_cons.mpr ⟨lw_p27, List.forall_mem_cons.mpr ⟨lw_p28, List.forall_mem_cons.mpr ⟨lw_p29, List.forall_mem_cons.mpr ⟨lw_p30, List.forall_mem_cons.mpr ⟨lw_p31, fun _ h => absurd h List.not_mem_nil⟩⟩⟩⟩⟩⟩⟩⟩⟩⟩⟩⟩⟩⟩⟩⟩
theorem lw_p32 : lw_okq (⟨"JoinHouseModel", "tied", "(III)I"⟩, 21) := ⟨⟨by decide +kernel, by decide +kernel⟩, List.mem_of_getElem? (i := 594) (by decide +kernel), List.mem_of_getElem? (i := 769) (by decide +kernel), List.mem_of_getElem? (i := 770) (by decide +kernel)⟩
theorem lw_p33 : lw_okq (⟨"JoinHouseModel", "isLooked", "(IIIII)Z"⟩, 21) := ⟨⟨by decide +kernel, by decide +kernel⟩, List.mem_of_getElem? (i := 594) (by decide +kernel), List.mem_of_getElem? (i := 781) (by decide +kernel), List.mem_of_getElem? (i := 782) (by decide +kernel)⟩
theorem lw_p34 : lw_okq (⟨"JoinHouseModel", "valueIn", "(III)I"⟩, 21) := ⟨⟨by decide +kernel, by decide +kernel⟩, List.mem_of_getElem? (i := 594) (by decide +kernel), List.mem_of_getElem? (i := 785) (by decide +kernel), List.mem_of_getElem? (i := 786) (by decide +kernel)⟩
theorem lw_p35 : lw_okq (⟨"JoinHouseModel", "allHold", "(II)Z"⟩, 21) := ⟨⟨by decide +kernel, by decide +kernel⟩, List.mem_of_getElem? (i := 594) (by decide +kernel), List.mem_of_getElem? (i := 795) (by decide +kernel), List.mem_of_getElem? (i := 796) (by decide +kernel)⟩
theorem lw_p36 : lw_okq (⟨"JoinHouseModel", "holds", "(II)Z"⟩, 21) := ⟨⟨by decide +kernel, by decide +kernel⟩, List.mem_of_getElem? (i := 594) (by decide +kernel), List.mem_of_getElem? (i := 799) (by decide +kernel), List.mem_of_getElem? (i := 800) (by decide +kernel)⟩
theorem lw_p37 : lw_okq (⟨"JoinHouseModel", "sort", "(I)V"⟩, 21) := ⟨⟨by decide +kernel, by decide +kernel⟩, List.mem_of_getElem? (i := 594) (by decide +kernel), List.mem_of_getElem? (i := 803) (by decide +kernel), List.mem_of_getElem? (i := 804) (by decide +kernel)⟩
def lw_privs_3 : List (MethodName × Nat) := [(⟨"JoinHouseModel", "tied", "(III)I"⟩, 21), (⟨"JoinHouseModel", "isLooked", "(IIIII)Z"⟩, 21), (⟨"JoinHouseModel", "valueIn", "(III)I"⟩, 21), (⟨"JoinHouseModel", "allHold", "(II)Z"⟩, 21), (⟨"JoinHouseModel", "holds", "(II)Z"⟩, 21), (⟨"JoinHouseModel", "sort", "(I)V"⟩, 21)]
theorem lw_r3 : ∀ q ∈ lw_privs_3, lw_okq q := List.forall_mem_cons.mpr ⟨lw_p32, List.forall_mem_cons.mpr ⟨lw_p33, List.forall_mem_cons.mpr ⟨lw_p34, List.forall_mem_cons.mpr ⟨lw_p35, List.forall_mem_cons.mpr ⟨lw_p36, List.forall_mem_cons.mpr ⟨lw_p37, fun _ h => absurd h List.not_mem_nil⟩⟩⟩⟩⟩⟩
def lw_privs : List (MethodName × Nat) := lw_privs_1 ++ (lw_privs_2 ++ (lw_privs_3))
def lw_tbl : List Cond := k2_sels lw_privs ++ tables_1
theorem lw_privs_ok : ∀ q ∈ lw_privs, lw_okq q := by
  show ∀ q ∈ lw_privs_1 ++ (lw_privs_2 ++ (lw_privs_3)), lw_okq q
  exact List.forall_mem_append.mpr ⟨lw_r1, List.forall_mem_append.mpr ⟨lw_r2, lw_r3⟩⟩
end
section
/-! ===== BEGIN words of one list among another's, by their places ===== -/
theorem goodIn_r {big : List Cond} (ws : List Cond) (ps : List Nat) (hp : ws = ps.filterMap (fun i => big[i]?)) (h : ws.all goodWord = true) : GoodIn big ws := by
  intro w hw
  have h1 := List.all_eq_true.mp h w hw
  rw [hp] at hw
  obtain ⟨i, -, hi⟩ := List.mem_filterMap.mp hw
  have hm : w ∈ big := by first | exact List.mem_of_getElem? hi | exact List.getElem?_mem hi
  exact ⟨hm, good_of_word h1⟩
theorem goodIn_app {big a b : List Cond} (ha : GoodIn big a) (hb : GoodIn big b) : GoodIn big (a ++ b) := fun w h => (List.mem_append.mp h).elim (ha w) (hb w)
theorem goodIn_ca {big a b : List Cond} {c : Cond} (ha : GoodIn big (c :: a)) (hb : GoodIn big b) : GoodIn big (c :: (a ++ b)) := fun w h => (List.mem_cons.mp h).elim (fun e => ha w (List.mem_cons.mpr (Or.inl e))) (fun h => (List.mem_append.mp h).elim (fun h => ha w (List.mem_cons.mpr (Or.inr h))) (hb w))
theorem goodIn_sub {big ws : List Cond} (hm : ∀ w ∈ ws, w ∈ big) (h : ws.all goodWord = true) : GoodIn big ws := fun w hw => ⟨hm w hw, good_of_word (List.all_eq_true.mp h w hw)⟩
/-! ===== END ===== -/

/-! ===== BEGIN exceptions that leave a method, and their catching by the caller (launches without stack traces) ===== -/
section VXA
/-! The laws vx_back, vx_callV, vx_callS, vx_callSW, vx_throw0, vx_throwS follow proofs of the library, with one case more: JvmDerived/Free/Laws.lean (Back.of_free), Shelf42/LK1.lean (callV, callS), Shelf/KitTraced.lean (throwNew0V, throwNewS). -/
/-- where a method has thrown q: the class by its name, the cell, what was written, the world -/
def vx_T (XC : String → State → State → Prop) (st : State) (q : Addr) (t : State) (mc ms : Nat) (free : Addr → Prop) : Prop :=
  ∃ (E : String) (ce : Cell) (L : List Loc), XC E st t ∧ t.heap[q]? = some ce ∧ ce.vm = .none ∧ st.vm.findClass E = some ce.cls ∧ st.WarmedH t.vm ∧ st.sameButNew ({ t with vm := st.vm } : State) L mc ms ∧ ∀ z ∈ L, free z.base
def vx_Q (Qc : Array Value → State → Outcome → State → Prop) (XC : String → State → State → Prop) (mc ms : Nat) (free : Addr → Prop) : Array Value → State → Outcome → State → Prop := fun a st o t =>
  (Qc a st o t ∧ ∃ L, FrameEnd st o t L mc ms ∧ ∀ q ∈ L, free q.base) ∨ ∃ q, o = .threw q ∧ vx_T XC st q t mc ms free
/-- a callee that returns or throws -/
def vx_Met (l : Launch) (y : MethodName) (ws : List Cond) (rm : Room) (Pc : Array Value → State → Prop) (Qc : Array Value → State → Outcome → State → Prop) (XC : String → State → State → Prop) (mc ms : Nat) (free : Addr → Prop) : Prop :=
  MetFree l y (headSpec ws rm) Pc (fun _ _ _ _ _ => True) (vx_Q Qc XC mc ms free)
def vx_Post (XC : String → State → State → Prop) (mc ms : Nat) (free : Addr → Prop) : Pt → Array Value → Addr → Pt → Prop := fun A a q B =>
  ∃ (g : JFrame) (mk : MethodId) (t : State) (L : List Loc) (E : String) (ce : Cell), B.U.heap = t.heap ∧ B.U.vm = t.vm ∧ XC E (A.U.calling g mk a) t ∧ t.heap[q]? = some ce ∧ ce.vm = .none ∧ A.U.vm.findClass E = some ce.cls ∧ B.locs = A.locs ++ L ∧ (∀ z ∈ L, free z.base) ∧ B.cells = A.cells + mc ∧ B.slots = A.slots + ms
def vx_Back (l : Launch) (R : Room) (p : Program) (e : Env) (below : List Frame) (s : State) (sargs : Array Value) (y : MethodName) (len W9 : Nat)
    (Pre : Pt → Array Value → Prop) (Post : Pt → Array Value → Option Value → Pt → Prop) (PostX : Pt → Array Value → Addr → Pt → Prop) : Prop :=
  ∀ (m : MethodId) (meth : Method) (c : Code) (A : Pt) (g : JFrame) (ig : Instr) (mk : MethodId) (a : Array Value),
    Stand p l e R s m sargs below meth c A.U A.locs A.cells A.slots → g.method = m → g.locals.size = c.maxLocals → decode c.code g.pc = .ok (ig, len) →
    2 * g.monitorRoom + (g.stack.map fun v => v.category).sum ≤ W9 → A.U.methodNamed? y = some mk → Pre A a →
    (∃ (v : Option Value) (B : Pt), Stand p l e R s m sargs below meth c B.U B.locs B.cells B.slots ∧ Post A a v B ∧
      Steps p.tables e below (doInvoke e (A.U.setTop g) [] mk a).1 (B.U.setTop { g with pc := g.pc + len, stack := v.toList ++ g.stack })) ∨
    (∃ (q : Addr) (B : Pt), Stand p l e R s m sargs below meth c B.U B.locs B.cells B.slots ∧ PostX A a q B ∧
      Steps p.tables e below (doInvoke e (A.U.setTop g) [] mk a).1 ((B.U.setTop g).pushFrame (.throwing q)))
section Payer
variable {l : Launch} {R : Room} {p : Program} {e : Env} {below : List Frame} {s : State} {sargs : Array Value} {y : MethodName} {len W9 : Nat}
theorem vx_back {ws : List Cond} {rm : Room} {Pc : Array Value → State → Prop} {Qc : Array Value → State → Outcome → State → Prop} {XC : String → State → State → Prop} {mc ms : Nat} {free : Addr → Prop} {bytes : ByteArray} {maxL : Nat} {ret : Option FieldType}
    (hM : vx_Met l y ws rm Pc Qc XC mc ms free) (hblind : FrameBlind Pc) (hrc : rm.cells = mc) (hrs : rm.slots = ms)
    (hframes : rm.frames + 1 ≤ R.frames) (hlocals : W9 + (maxL + 11) + rm.locals ≤ R.locals)
    (hws : ∀ w ∈ ws, ∀ a' U, s.WarmedH U.vm → w.before a' U = true) (hcode : Cond.code y bytes maxL ret ∈ ws) (hinit : ∀ a' U, s.WarmedH U.vm → (Cond.initialized y.cls).before a' U = true) :
    vx_Back l R p e below s sargs y len W9 (PreOf R mc ms Pc) (PostOf Qc mc ms free) (vx_Post XC mc ms free) := by
  intro m meth c A g ig mk a X hg hsize hdg hW hn hp
  have h1 : (headSpec ws rm).pre.before a A.U = true := atoms_intro fun w hw => hws w hw _ _ X.warmed
  have h2 : (Cond.code y bytes maxL ret).before a A.U = true := hws _ hcode _ _ X.warmed
  have h3 : (Cond.initialized y.cls).before a A.U = true := hinit _ _ X.warmed
  have h4 : A.cells + (headSpec ws rm).room.cells ≤ R.cells := by rw [show (headSpec ws rm).room.cells = mc from hrc]; exact hp.1
  have h5 : A.slots + (headSpec ws rm).room.slots ≤ R.slots := by rw [show (headSpec ws rm).room.slots = ms from hrs]; exact hp.2.1
  have hPc : Pc a (A.U.calling g mk a) := hblind _ _ _ _ hp.2.2
  obtain ⟨U, Ls, c0, s0⟩ := A
  dsimp only [Pt.U, Pt.locs, Pt.cells, Pt.slots] at h1 h2 h3 h4 h5 X hn hPc ⊢
  obtain ⟨methY, cY, hmY, hcY, -, hlY, -, -, -, -⟩ := Cond.code_spec hn h2
  obtain ⟨kY, hkY, -⟩ := className_of_methodNamed hn
  have hinitY : kY.init = .initialized := Cond.initialized_spec (findClass_of_methodNamed hn) hkY h3
  have h : At U g.method c below := by rw [hg]; exact X.here
  have hlocals9 : W9 + (maxL + 11) + (headSpec ws rm).room.locals ≤ R.locals := hlocals
  have happ : (headSpec ws rm).appliesLoose y e.platform (U.calling g mk a) = true :=
    Spec.appliesLoose_calling (g := g) h hdg hn hkY hinitY
      (X.room_calling (g := g) (R' := (headSpec ws rm).room) hsize hmY hcY hframes (by rw [hlY]; omega) h4 h5) h1
  obtain ⟨mid, hmid⟩ := h.above
  have hfr : (U.setTop g).frames = (.java g :: mid) ++ below := by rw [State.frames_setTop' g h.top, hmid]; rfl
  obtain ⟨o, s₂, hsteps, -, hend, hq⟩ := Steps.callFree hM p X.admits X.cas X.clock (acts := []) hfr happ hPc trivial
  have hq' : vx_Q Qc XC mc ms free a (U.calling g mk a) o s₂ := hq
  rw [State.frames_setTop' g h.top] at hend
  obtain ⟨g₀, hg0⟩ := Option.isSome_iff_exists.mp h.top
  obtain ⟨r, hr⟩ := State.topJava?_eq_some.mp hg0
  have hr' : (({ U with heap := s₂.heap, slotsUsed := s₂.slotsUsed } : State).setVm s₂.vm).frames = .java g₀ :: r := hr
  rcases hq' with ⟨hqc, L, hfe, hL⟩ | ⟨q, rfl, E, ce, L, hx, hce, hcv, hcl, hW₂, hsm, hL⟩
  · obtain ⟨⟨v, rfl⟩, hW₂, e2, q2, q3, q4, q5, q6⟩ := id hfe
    have e3 : s₂ = ({ (U.calling g mk a).setFrames s₂.frames with heap := s₂.heap, slotsUsed := s₂.slotsUsed } : State).setVm s₂.vm := by
      have : s₂ = ({ s₂ with vm := (U.calling g mk a).vm } : State).setVm s₂.vm := rfl
      rw [e2] at this
      exact this
    obtain ⟨c₂, i₂, len₂, hc₂, hd₂, hf₂⟩ := hend
    have hW' : U.WarmedH s₂.vm := hW₂
    have hcc : c₂ = c := by
      have h1 : s₂.code? g.method = U.code? g.method := by
        rw [State.code?_eq, State.code?_eq, hW'.alike.method?]
      exact Option.some.inj (hc₂.symm.trans (h1.trans h.code))
    subst hcc
    have hlen : len₂ = len := by rw [hdg] at hd₂; cases hd₂; rfl
    subst hlen
    have hs₂ : s₂ = (({ U with heap := s₂.heap, slotsUsed := s₂.slotsUsed } : State).setVm s₂.vm).setTop { g with pc := g.pc + len₂, stack := v.toList ++ g.stack } := by
      refine e3.trans ?_
      rw [hf₂, State.calling_eq h.top, State.setFrames_setFrames, State.setTop_of_frames _ hr', hr]
      rfl
    have hsame : U.sameButNew ({ U with heap := s₂.heap, slotsUsed := s₂.slotsUsed } : State) L mc ms := by
      refine ⟨?_, q2, q3, q4, q5, q6⟩
      obtain ⟨t, ht, -⟩ := State.frames_cons hr
      show ({ U with heap := s₂.heap, slotsUsed := s₂.slotsUsed } : State) = { U.setFrames U.frames with heap := s₂.heap, slotsUsed := s₂.slotsUsed }
      rw [State.setFrames_self ht]
    subst hg
    refine Or.inl ⟨v, ⟨(({ U with heap := s₂.heap, slotsUsed := s₂.slotsUsed } : State).setVm s₂.vm), Ls ++ L, c0 + mc, s0 + ms⟩,
      ⟨X.admits, X.cas, X.clock, X.frames, X.room, X.hears, X.method, X.code, (X.here.setHeapUsed s₂.heap s₂.slotsUsed).setVm hW'.alike, X.tail, State.WarmedH.trans X.warmed hW', X.limits, X.bytes, X.same.trans (hsame.setVm s.vm)⟩,
      ⟨g, mk, s₂, L, rfl, rfl, hqc, rfl, hL, rfl, rfl⟩, ?_⟩
    show Steps p.tables e below _ ((({ U with heap := s₂.heap, slotsUsed := s₂.slotsUsed } : State).setVm s₂.vm).setTop { g with pc := g.pc + len₂, stack := v.toList ++ g.stack })
    rw [← hs₂]
    exact hsteps
  · obtain ⟨e2, q2, q3, q4, q5, q6⟩ := id hsm
    have e3 : s₂ = ({ (U.calling g mk a).setFrames s₂.frames with heap := s₂.heap, slotsUsed := s₂.slotsUsed } : State).setVm s₂.vm := by
      have : s₂ = ({ s₂ with vm := (U.calling g mk a).vm } : State).setVm s₂.vm := rfl
      rw [e2] at this
      exact this
    have hf₂ : s₂.frames = .throwing q :: .java g :: U.frames.tail := hend
    have hW' : U.WarmedH s₂.vm := hW₂
    have hs₂ : s₂ = ((({ U with heap := s₂.heap, slotsUsed := s₂.slotsUsed } : State).setVm s₂.vm).setTop g).pushFrame (.throwing q) := by
      refine e3.trans ?_
      rw [hf₂, State.calling_eq h.top, State.setFrames_setFrames, State.pushFrame, State.frames_setTop _ hr', State.setTop_of_frames _ hr', State.setFrames_setFrames, hr]
      rfl
    have hsame : U.sameButNew ({ U with heap := s₂.heap, slotsUsed := s₂.slotsUsed } : State) L mc ms := by
      refine ⟨?_, q2, q3, q4, q5, q6⟩
      obtain ⟨t, ht, -⟩ := State.frames_cons hr
      show ({ U with heap := s₂.heap, slotsUsed := s₂.slotsUsed } : State) = { U.setFrames U.frames with heap := s₂.heap, slotsUsed := s₂.slotsUsed }
      rw [State.setFrames_self ht]
    subst hg
    refine Or.inr ⟨q, ⟨(({ U with heap := s₂.heap, slotsUsed := s₂.slotsUsed } : State).setVm s₂.vm), Ls ++ L, c0 + mc, s0 + ms⟩,
      ⟨X.admits, X.cas, X.clock, X.frames, X.room, X.hears, X.method, X.code, (X.here.setHeapUsed s₂.heap s₂.slotsUsed).setVm hW'.alike, X.tail, State.WarmedH.trans X.warmed hW', X.limits, X.bytes, X.same.trans (hsame.setVm s.vm)⟩,
      ⟨g, mk, s₂, L, E, ce, rfl, rfl, hx, hce, hcv, hcl, rfl, hL, rfl, rfl⟩, ?_⟩
    show Steps p.tables e below _ (((({ U with heap := s₂.heap, slotsUsed := s₂.slotsUsed } : State).setVm s₂.vm).setTop g).pushFrame (.throwing q))
    rw [← hs₂]
    exact hsteps
end Payer
section Calls
variable {p : Program} {l : Launch} {e : Env} {R : Room} {s : State} {m : MethodId} {args : Array Value} {below : List Frame} {meth : Method} {c : Code} {T : State} {locs : List Loc} {cells slots : Nat}
theorem vx_callV (X : Stand p l e R s m args below meth c T locs cells slots) (hexec : p.tables.exec = Jvm.exec) {own C : String} {index : Nat} {y : MethodName} {bytes : ByteArray} {maxL : Nat} {ret : Option FieldType}
    (hown : s.vm.findClass own = some m.cls) (hlink : (Cond.methodLink own index y).before args s = true) (hinst : (Cond.instanceMethod y).before args s = true) (hsel : (Cond.selects C y y).before args s = true)
    (hcode : (Cond.code y bytes maxL ret).before args s = true) (hy : y.cls ≠ "java/lang/invoke/MethodHandle" ∧ y.cls ≠ "java/lang/invoke/VarHandle")
    {W9 : Nat} {Pre : Pt → Array Value → Prop} {Post : Pt → Array Value → Option Value → Pt → Prop} {PostX : Pt → Array Value → Addr → Pt → Prop} (hK : vx_Back l R p e below s args y 3 W9 Pre Post PostX)
    {b : Addr} {cellB : Cell} (hcell : T.heap[b]? = some cellB) (hobj : cellB.vm.isStatics = false) (hcls : s.vm.findClass C = some cellB.cls)
    {g : JFrame} (hg : g.method = m) (hsize : g.locals.size = c.maxLocals) {argsL rest : List Value} (hlen : ∀ sig, parseMethodDescriptor y.desc = some sig → argsL.length = sig.parameters.length)
    (hstack : g.stack = argsL.reverse ++ .ref b :: rest) (hW : 2 * g.monitorRoom + (rest.map fun v => v.category).sum ≤ W9) (hdg : decode c.code g.pc = .ok (.invokevirtual index, 3))
    (hpre : ∀ vm₁, s.WarmedH vm₁ → Pre ⟨T.setVm vm₁, locs, cells, slots⟩ (Value.ref b :: argsL).toArray) :
    (∃ (v : Option Value) (vm₁ : Vm) (B : Pt), s.WarmedH vm₁ ∧ Stand p l e R s m args below meth c B.U B.locs B.cells B.slots ∧ Post ⟨T.setVm vm₁, locs, cells, slots⟩ (Value.ref b :: argsL).toArray v B ∧
      ∀ target, Steps p.tables e below (B.U.setTop { g with pc := g.pc + 3, stack := v.toList ++ rest }) target → Steps p.tables e below (T.setTop g) target) ∨
    (∃ (q : Addr) (vm₁ : Vm) (B : Pt), s.WarmedH vm₁ ∧ Stand p l e R s m args below meth c B.U B.locs B.cells B.slots ∧ PostX ⟨T.setVm vm₁, locs, cells, slots⟩ (Value.ref b :: argsL).toArray q B ∧
      Steps p.tables e below (T.setTop g) ((B.U.setTop { g with stack := rest }).pushFrame (.throwing q))) := by
  obtain ⟨mk, methM, hnamed, hmethM, hstM, habM⟩ := Cond.instanceMethod_spec hinst
  obtain ⟨methM', cM, hmethM', -, -, -, -, -, -, hsigM⟩ := Cond.code_spec hnamed hcode
  cases hmethM.symm.trans hmethM'
  obtain ⟨c2, r2, m2, q1, q2, q3, q4, kP, hkP, hkPi⟩ := Cond.selects_spec hsel
  cases hcls.symm.trans q1
  cases (State.methodFound?_of_named hnamed hy).symm.trans q2
  cases hnamed.symm.trans q3
  have hselP : selectMethod e.platform s.vm cellB.cls mk = .method mk := by rw [Launch.admits_selectMethod X.admits]; exact q4
  obtain ⟨vm₁, X₁, hstep₁⟩ := X.invokevirtual hexec hown hlink hnamed hmethM hstM hkP hkPi hy (a := b) (cell := cellB) hcell
    (fun z h => by rw [h] at hobj; cases hobj) hselP hmethM habM hkP hkPi (g := g) hg (argsL := argsL) (rest := rest) (hlen _ hsigM) hstack hdg
  rcases hK m meth c ⟨T.setVm vm₁, locs, cells, slots⟩ { g with stack := rest } (.invokevirtual index) mk (Value.ref b :: argsL).toArray X₁ hg hsize hdg hW (X₁.named hnamed) (hpre vm₁ X₁.warmed) with ⟨v, B, X', hpost, hsteps⟩ | ⟨q, B, X', hpost, hsteps⟩
  · exact Or.inl ⟨v, vm₁, B, X₁.warmed, X', hpost, fun target h => hstep₁ _ fun acts => by rw [doInvoke_state]; exact hsteps.trans h⟩
  · exact Or.inr ⟨q, vm₁, B, X₁.warmed, X', hpost, hstep₁ _ fun acts => by rw [doInvoke_state]; exact hsteps⟩
theorem vx_callS (X : Stand p l e R s m args below meth c T locs cells slots) (hexec : p.tables.exec = Jvm.exec) {own : String} {index : Nat} {y : MethodName} {bytes : ByteArray} {maxL : Nat} {ret : Option FieldType}
    (hown : s.vm.findClass own = some m.cls) (hlink : (Cond.methodLink own index y).before args s = true) (hstat : (Cond.static y).before args s = true) (hinit : (Cond.initialized y.cls).before args s = true)
    (hcode : (Cond.code y bytes maxL ret).before args s = true) (hy : y.cls ≠ "java/lang/invoke/MethodHandle" ∧ y.cls ≠ "java/lang/invoke/VarHandle")
    {W9 : Nat} {Pre : Pt → Array Value → Prop} {Post : Pt → Array Value → Option Value → Pt → Prop} {PostX : Pt → Array Value → Addr → Pt → Prop} (hK : vx_Back l R p e below s args y 3 W9 Pre Post PostX)
    {g : JFrame} (hg : g.method = m) (hsize : g.locals.size = c.maxLocals) {argsL rest : List Value} (hlen : ∀ sig, parseMethodDescriptor y.desc = some sig → argsL.length = sig.parameters.length)
    (hstack : g.stack = argsL.reverse ++ rest) (hW : 2 * g.monitorRoom + (rest.map fun v => v.category).sum ≤ W9) (hdg : decode c.code g.pc = .ok (.invokestatic index, 3))
    (hpre : ∀ vm₁, s.WarmedH vm₁ → Pre ⟨T.setVm vm₁, locs, cells, slots⟩ argsL.toArray) :
    (∃ (v : Option Value) (vm₁ : Vm) (B : Pt), s.WarmedH vm₁ ∧ Stand p l e R s m args below meth c B.U B.locs B.cells B.slots ∧ Post ⟨T.setVm vm₁, locs, cells, slots⟩ argsL.toArray v B ∧
      ∀ target, Steps p.tables e below (B.U.setTop { g with pc := g.pc + 3, stack := v.toList ++ rest }) target → Steps p.tables e below (T.setTop g) target) ∨
    (∃ (q : Addr) (vm₁ : Vm) (B : Pt), s.WarmedH vm₁ ∧ Stand p l e R s m args below meth c B.U B.locs B.cells B.slots ∧ PostX ⟨T.setVm vm₁, locs, cells, slots⟩ argsL.toArray q B ∧
      Steps p.tables e below (T.setTop g) ((B.U.setTop { g with stack := rest }).pushFrame (.throwing q))) := by
  obtain ⟨mk, hnamed⟩ := Cond.code_named hcode
  obtain ⟨methM, cM, hmethM, -, -, -, -, -, -, hsigM⟩ := Cond.code_spec hnamed hcode
  have hstatic : methM.isStatic = true := Cond.static_spec hnamed hmethM hstat
  obtain ⟨kP, hkP, -⟩ := className_of_methodNamed hnamed
  have hinitP : kP.init = .initialized := Cond.initialized_spec (findClass_of_methodNamed hnamed) hkP hinit
  obtain ⟨vm₁, X₁, hstep₁⟩ := X.invokestatic hexec hown hlink hnamed hmethM hstatic hkP hinitP hy (g := g) hg (argsL := argsL) (rest := rest) (hlen _ hsigM) hstack hdg
  rcases hK m meth c ⟨T.setVm vm₁, locs, cells, slots⟩ { g with stack := rest } (.invokestatic index) mk argsL.toArray X₁ hg hsize hdg hW (X₁.named hnamed) (hpre vm₁ X₁.warmed) with ⟨v, B, X', hpost, hsteps⟩ | ⟨q, B, X', hpost, hsteps⟩
  · exact Or.inl ⟨v, vm₁, B, X₁.warmed, X', hpost, fun target h => hstep₁ _ fun acts => by rw [doInvoke_state]; exact hsteps.trans h⟩
  · exact Or.inr ⟨q, vm₁, B, X₁.warmed, X', hpost, hstep₁ _ fun acts => by rw [doInvoke_state]; exact hsteps⟩
end Calls
theorem vx_cls {s : State} {T : State} {vm₁ : Vm} {E : String} {k : ClassId} (hW : s.WarmedH vm₁) (h : (T.setVm vm₁).vm.findClass E = some k) : s.vm.findClass E = some k := by
  have h1 : vm₁.findClass E = some k := h
  rw [hW.alike.findClass] at h1
  exact h1
/-- the method's frame g, with q thrown over it -/
def vx_W (p : Program) (l : Launch) (e : Env) (R : Room) (s : State) (m : MethodId) (args : Array Value) (below : List Frame) (meth : Method) (c : Code) (H : Heap) (locs : List Loc) (cells slots : Nat) (Q : State → Prop) (g : JFrame) (q : Addr) : Prop :=
  ∀ T : State, T.heap = H → Stand p l e R s m args below meth c T locs cells slots → ∃ t, Steps p.tables e below ((T.setTop g).pushFrame (.throwing q)) t ∧ Q t
def vx_Run (p : Program) (l : Launch) (e : Env) (R : Room) (s : State) (m : MethodId) (args : Array Value) (below : List Frame) (meth : Method) (c : Code) (H : Heap) (locs : List Loc) (cells slots mc ms : Nat) (g : JFrame) (rest : List Value) (Qa : State → Outcome → State → Prop) (XC : String → State → State → Prop) (free : Addr → Prop) : Prop :=
  ∀ T : State, T.heap = H → Stand p l e R s m args below meth c T locs cells slots →
    (∃ (v : Option Value) (st₀ t T' : State) (L : List Loc), st₀.heap = H ∧ Stand p l e R s m args below meth c T' (locs ++ L) (cells + mc) (slots + ms) ∧ (∀ q ∈ L, free q.base) ∧ T'.heap = t.heap ∧ T'.vm = t.vm ∧ Qa st₀ (.returned v) t ∧
      Goes p e below T g T' { g with pc := g.pc + 3, stack := v.toList ++ rest }) ∨
    (∃ (q : Addr) (st₀ t T' : State) (L : List Loc) (E : String) (ce : Cell), st₀.heap = H ∧ Stand p l e R s m args below meth c T' (locs ++ L) (cells + mc) (slots + ms) ∧ (∀ z ∈ L, free z.base) ∧ T'.heap = t.heap ∧ T'.vm = t.vm ∧ XC E st₀ t ∧ t.heap[q]? = some ce ∧ ce.vm = .none ∧ s.vm.findClass E = some ce.cls ∧
      Steps p.tables e below (T.setTop g) ((T'.setTop { g with stack := rest }).pushFrame (.throwing q)))
def vx_X {S : Type} (px : S → Prop) (B : String → S → State → Prop) (A : Nat → Prop) : String → State → State → Prop := fun E st t => ∃ u : S, px u ∧ B E u t ∧ va_F A st t
section Runs
variable {p : Program} {l : Launch} {e : Env} {R : Room} {s : State} {m : MethodId} {args : Array Value} {below : List Frame} {meth : Method} {c : Code} {H : Heap} {locs : List Loc} {cells slots : Nat}
variable {y : MethodName} {bytes cc : ByteArray} {maxL nL mc ms n index : Nat} {ret : Option FieldType} {ws : List Cond} {rm : Room} {Pc : Array Value → State → Prop} {Qc : Array Value → State → Outcome → State → Prop} {XC : String → State → State → Prop} {free : Addr → Prop} {Ts : List Cond} {own C : String} {b : Addr} {As rest : List Value} {g : JFrame}
theorem vx_callBack (cb : CallB R s args own index y bytes maxL ret ws rm mc ms n) (hM : vx_Met l y ws rm Pc Qc XC mc ms free) (hbl : FrameBlind Pc) : vx_Back l R p e below s args y 3 8 (PreOf R mc ms Pc) (PostOf Qc mc ms free) (vx_Post XC mc ms free) := by
  obtain ⟨hrc, hrs, hfr, hlo, hws, hcw, -, hini, -⟩ := cb
  exact vx_back (bytes := bytes) (maxL := maxL) (ret := ret) hM hbl hrc hrs hfr hlo hws hcw (fun a' U hW => word_at hW (Or.inl (by first | rfl | simp [Cond.onTables, Cond.keeps, Cond.steady])) hini)
theorem vx_runV (S : CallFix p m c cc nL s args Ts own) (hM : vx_Met l y ws rm Pc Qc XC mc ms free) (cw : CallW R s args own C index y bytes maxL ret ws rm mc ms n) (hp : PreV s H C b Pc As)
    (hg : g.method = m) (hn : As.length = n) (hsize : g.locals.size = nL) (hstack : g.stack = As.reverse ++ .ref b :: rest) (hW : 2 * g.monitorRoom + (rest.map fun v => v.category).sum ≤ 8) (hdg : decode cc g.pc = .ok (.invokevirtual index, 3)) (hf : cells + mc ≤ R.cells ∧ slots + ms ≤ R.slots) :
    vx_Run p l e R s m args below meth c H locs cells slots mc ms g rest (Qc (Value.ref b :: As).toArray) XC free := by
  have hK : vx_Back l R p e below s args y 3 8 (PreOf R mc ms Pc) (PostOf Qc mc ms free) (vx_Post XC mc ms free) := vx_callBack cw.1 hM hp.1
  obtain ⟨⟨-, -, -, -, -, -, hcode, -, hy, hlen, hl⟩, hin, hse⟩ := cw
  obtain ⟨hx, hb, hml, ho, -⟩ := S
  obtain ⟨-, ⟨cellB, hcB, hoB, hclB⟩, hPc⟩ := hp
  intro T hT X
  rcases vx_callV X hx (C := C) (bytes := bytes) (maxL := maxL) (ret := ret) ho hl hin hse hcode hy hK (by rw [hT]; exact hcB) hoB hclB hg (hsize.trans hml.symm) (argsL := As) (rest := rest) (fun sig h => hn.trans (hlen sig h)) hstack hW (by rw [hb]; exact hdg)
    (fun vm₁ hW₁ => ⟨hf.1, hf.2, hPc (T.setVm vm₁) hT hW₁⟩) with ⟨v, vm₁, ⟨U', l2, c2, s2⟩, hW₁, X', ⟨g', mk, t, L, e1, e2, hq, h1, hL, h2, h3⟩, st⟩ | ⟨q, vm₁, ⟨U', l2, c2, s2⟩, hW₁, X', ⟨g', mk, t, L, E, ce, e1, e2, hq, hce, hcv, hcl, h1, hL, h2, h3⟩, st⟩
  · dsimp only [Pt.U, Pt.locs, Pt.cells, Pt.slots] at X' e1 e2 h1 h2 h3 st
    subst h1; subst h2; subst h3
    exact Or.inl ⟨v, (T.setVm vm₁).calling g' mk (Value.ref b :: As).toArray, t, U', L, hT, X', hL, e1, e2, hq, st⟩
  · dsimp only [Pt.U, Pt.locs, Pt.cells, Pt.slots] at X' e1 e2 h1 h2 h3 st hcl
    subst h1; subst h2; subst h3
    exact Or.inr ⟨q, (T.setVm vm₁).calling g' mk (Value.ref b :: As).toArray, t, U', L, E, ce, hT, X', hL, e1, e2, hq, hce, hcv, vx_cls hW₁ hcl, st⟩
theorem vx_runS (S : CallFix p m c cc nL s args Ts own) (hM : vx_Met l y ws rm Pc Qc XC mc ms free) (cw : CallB R s args own index y bytes maxL ret ws rm mc ms n ∧ (Cond.static y).before args s = true) (hp : PreS s H Pc As)
    (hg : g.method = m) (hn : As.length = n) (hsize : g.locals.size = nL) (hstack : g.stack = As.reverse ++ rest) (hW : 2 * g.monitorRoom + (rest.map fun v => v.category).sum ≤ 8) (hdg : decode cc g.pc = .ok (.invokestatic index, 3)) (hf : cells + mc ≤ R.cells ∧ slots + ms ≤ R.slots) :
    vx_Run p l e R s m args below meth c H locs cells slots mc ms g rest (Qc As.toArray) XC free := by
  have hK : vx_Back l R p e below s args y 3 8 (PreOf R mc ms Pc) (PostOf Qc mc ms free) (vx_Post XC mc ms free) := vx_callBack cw.1 hM hp.1
  obtain ⟨⟨-, -, -, -, -, -, hcode, hini, hy, hlen, hl⟩, hstt⟩ := cw
  obtain ⟨hx, hb, hml, ho, -⟩ := S
  intro T hT X
  rcases vx_callS X hx (bytes := bytes) (maxL := maxL) (ret := ret) ho hl hstt hini hcode hy hK hg (hsize.trans hml.symm) (argsL := As) (rest := rest) (fun sig h => hn.trans (hlen sig h)) hstack hW (by rw [hb]; exact hdg)
    (fun vm₁ hW₁ => ⟨hf.1, hf.2, hp.2 (T.setVm vm₁) hT hW₁⟩) with ⟨v, vm₁, ⟨U', l2, c2, s2⟩, hW₁, X', ⟨g', mk, t, L, e1, e2, hq, h1, hL, h2, h3⟩, st⟩ | ⟨q, vm₁, ⟨U', l2, c2, s2⟩, hW₁, X', ⟨g', mk, t, L, E, ce, e1, e2, hq, hce, hcv, hcl, h1, hL, h2, h3⟩, st⟩
  · dsimp only [Pt.U, Pt.locs, Pt.cells, Pt.slots] at X' e1 e2 h1 h2 h3 st
    subst h1; subst h2; subst h3
    exact Or.inl ⟨v, (T.setVm vm₁).calling g' mk As.toArray, t, U', L, hT, X', hL, e1, e2, hq, st⟩
  · dsimp only [Pt.U, Pt.locs, Pt.cells, Pt.slots] at X' e1 e2 h1 h2 h3 st hcl
    subst h1; subst h2; subst h3
    exact Or.inr ⟨q, (T.setVm vm₁).calling g' mk As.toArray, t, U', L, E, ce, hT, X', hL, e1, e2, hq, hce, hcv, vx_cls hW₁ hcl, st⟩
end Runs
section Rows
variable {p : Program} {l : Launch} {e : Env} {R : Room} {s : State} {m : MethodId} {args : Array Value} {below : List Frame} {meth : Method} {c : Code} {H : Heap} {locs : List Loc} {cells slots : Nat} {Q : State → Prop}
variable {mc ms : Nat} {free : Addr → Prop} {A0 A1 : Nat → Prop} {H0 : Heap} {a : Array Value} {pc : Nat} {ls : Array Slot} {st0 rest : List Value}
theorem vx_keep {st₀ t T' : State} {L : List Loc} (h0 : st₀.heap = H) (e1 : T'.heap = t.heap) (hS : va_S A0 H0 H locs) (hA : ∀ q, q < H.size → A1 q → A0 q) (hf : ∀ q, free q → A0 q) (hL : ∀ q ∈ L, free q.base) (hF : va_F A1 st₀ t) :
    H.size ≤ T'.heap.size ∧ (∀ q : Nat, q < H.size → ¬ A1 q → T'.heap[q]? = H[q]?) ∧ va_S A0 H0 T'.heap (locs ++ L) := by
  obtain ⟨hz, hk⟩ := hF
  rw [h0] at hz hk
  exact ⟨by rw [e1]; exact hz, fun q h1 h2 => by rw [e1]; exact hk q h1 h2,
    ⟨Nat.le_trans hS.1 (by rw [e1]; exact hz), fun q h1 h2 => by rw [e1, hk q (Nat.lt_of_lt_of_le h1 hS.1) (fun z => h2 (hA q (Nat.lt_of_lt_of_le h1 hS.1) z))]; exact hS.2.1 q h1 h2, fun q hq => by
      rcases List.mem_append.mp hq with h | h
      · exact hS.2.2 q h
      · exact hf _ (hL q h)⟩⟩
theorem vx_calli {S SX : Type} {post : Int32 → S → Prop} {px : SX → Prop} {B : S → State → Prop} {BX : String → SX → State → Prop} {AX : Nat → Prop} (hr : vx_Run p l e R s m args below meth c H locs cells slots mc ms (F0 m pc ls st0) rest (va_Qi post B A1 a) (vx_X px BX AX) free) (hS : va_S A0 H0 H locs) (hA : ∀ q, q < H.size → A1 q → A0 q) (hf : ∀ q, free q → A0 q) (hAX : ∀ q, q < H.size → AX q → A0 q)
    (kx : ∀ (E : String) (ce : Cell) (q9 : Addr) (u : SX) (t : State) (H1 : Heap) (locs1 : List Loc), t.heap = H1 → s.vm.Alike t.vm → px u → BX E u t → H.size ≤ H1.size → (∀ q : Nat, q < H.size → ¬ AX q → H1[q]? = H[q]?) → va_S A0 H0 H1 locs1 → H1[q9]? = some ce → ce.vm = .none → s.vm.findClass E = some ce.cls → vx_W p l e R s m args below meth c H1 locs1 (cells + mc) (slots + ms) Q (F0 m pc ls rest) q9)
    (kk : ∀ (r : Int32) (u : S) (t : State) (H1 : Heap) (locs1 : List Loc), t.heap = H1 → s.vm.Alike t.vm → post r u → B u t → H.size ≤ H1.size → (∀ q : Nat, q < H.size → ¬ A1 q → H1[q]? = H[q]?) → va_S A0 H0 H1 locs1 → W p l e R s m args below meth c H1 locs1 (cells + mc) (slots + ms) Q (F0 m (pc + 3) ls (.int r :: rest))) : W p l e R s m args below meth c H locs cells slots Q (F0 m pc ls st0) := by
  intro T hT X
  rcases hr T hT X with ⟨v, st₀, t, T', L, h0, X', hL, e1, e2, ⟨⟨r, u, hv, hp, hb⟩, hF⟩, st⟩ | ⟨q, st₀, t, T', L, E, ce, h0, X', hL, e1, e2, ⟨u, hp, hb, hF⟩, hce, hcv, hcl, st⟩
  · cases hv
    obtain ⟨k1, k2, k3⟩ := vx_keep h0 e1 hS hA hf hL hF
    obtain ⟨t2, a1, b1⟩ := kk r u t T'.heap (locs ++ L) e1.symm (by rw [← e2]; exact X'.warmed.alike) hp hb k1 k2 k3 T' rfl X'
    exact ⟨t2, st t2 a1, b1⟩
  · obtain ⟨k1, k2, k3⟩ := vx_keep h0 e1 hS hAX hf hL hF
    obtain ⟨t2, a1, b1⟩ := kx E ce q u t T'.heap (locs ++ L) e1.symm (by rw [← e2]; exact X'.warmed.alike) hp hb k1 k2 k3 (by rw [e1]; exact hce) hcv hcl T' rfl X'
    exact ⟨t2, st.trans a1, b1⟩
theorem vx_calll {S SX : Type} {post : Int64 → S → Prop} {px : SX → Prop} {B : S → State → Prop} {BX : String → SX → State → Prop} {AX : Nat → Prop} (hr : vx_Run p l e R s m args below meth c H locs cells slots mc ms (F0 m pc ls st0) rest (va_Ql post B A1 a) (vx_X px BX AX) free) (hS : va_S A0 H0 H locs) (hA : ∀ q, q < H.size → A1 q → A0 q) (hf : ∀ q, free q → A0 q) (hAX : ∀ q, q < H.size → AX q → A0 q)
    (kx : ∀ (E : String) (ce : Cell) (q9 : Addr) (u : SX) (t : State) (H1 : Heap) (locs1 : List Loc), t.heap = H1 → s.vm.Alike t.vm → px u → BX E u t → H.size ≤ H1.size → (∀ q : Nat, q < H.size → ¬ AX q → H1[q]? = H[q]?) → va_S A0 H0 H1 locs1 → H1[q9]? = some ce → ce.vm = .none → s.vm.findClass E = some ce.cls → vx_W p l e R s m args below meth c H1 locs1 (cells + mc) (slots + ms) Q (F0 m pc ls rest) q9)
    (kk : ∀ (r : Int64) (u : S) (t : State) (H1 : Heap) (locs1 : List Loc), t.heap = H1 → s.vm.Alike t.vm → post r u → B u t → H.size ≤ H1.size → (∀ q : Nat, q < H.size → ¬ A1 q → H1[q]? = H[q]?) → va_S A0 H0 H1 locs1 → W p l e R s m args below meth c H1 locs1 (cells + mc) (slots + ms) Q (F0 m (pc + 3) ls (.long r :: rest))) : W p l e R s m args below meth c H locs cells slots Q (F0 m pc ls st0) := by
  intro T hT X
  rcases hr T hT X with ⟨v, st₀, t, T', L, h0, X', hL, e1, e2, ⟨⟨r, u, hv, hp, hb⟩, hF⟩, st⟩ | ⟨q, st₀, t, T', L, E, ce, h0, X', hL, e1, e2, ⟨u, hp, hb, hF⟩, hce, hcv, hcl, st⟩
  · cases hv
    obtain ⟨k1, k2, k3⟩ := vx_keep h0 e1 hS hA hf hL hF
    obtain ⟨t2, a1, b1⟩ := kk r u t T'.heap (locs ++ L) e1.symm (by rw [← e2]; exact X'.warmed.alike) hp hb k1 k2 k3 T' rfl X'
    exact ⟨t2, st t2 a1, b1⟩
  · obtain ⟨k1, k2, k3⟩ := vx_keep h0 e1 hS hAX hf hL hF
    obtain ⟨t2, a1, b1⟩ := kx E ce q u t T'.heap (locs ++ L) e1.symm (by rw [← e2]; exact X'.warmed.alike) hp hb k1 k2 k3 (by rw [e1]; exact hce) hcv hcl T' rfl X'
    exact ⟨t2, st.trans a1, b1⟩
theorem vx_callf {S SX : Type} {post : UInt32 → S → Prop} {px : SX → Prop} {B : S → State → Prop} {BX : String → SX → State → Prop} {AX : Nat → Prop} (hr : vx_Run p l e R s m args below meth c H locs cells slots mc ms (F0 m pc ls st0) rest (va_Qf post B A1 a) (vx_X px BX AX) free) (hS : va_S A0 H0 H locs) (hA : ∀ q, q < H.size → A1 q → A0 q) (hf : ∀ q, free q → A0 q) (hAX : ∀ q, q < H.size → AX q → A0 q)
    (kx : ∀ (E : String) (ce : Cell) (q9 : Addr) (u : SX) (t : State) (H1 : Heap) (locs1 : List Loc), t.heap = H1 → s.vm.Alike t.vm → px u → BX E u t → H.size ≤ H1.size → (∀ q : Nat, q < H.size → ¬ AX q → H1[q]? = H[q]?) → va_S A0 H0 H1 locs1 → H1[q9]? = some ce → ce.vm = .none → s.vm.findClass E = some ce.cls → vx_W p l e R s m args below meth c H1 locs1 (cells + mc) (slots + ms) Q (F0 m pc ls rest) q9)
    (kk : ∀ (r : UInt32) (u : S) (t : State) (H1 : Heap) (locs1 : List Loc), t.heap = H1 → s.vm.Alike t.vm → post r u → B u t → H.size ≤ H1.size → (∀ q : Nat, q < H.size → ¬ A1 q → H1[q]? = H[q]?) → va_S A0 H0 H1 locs1 → W p l e R s m args below meth c H1 locs1 (cells + mc) (slots + ms) Q (F0 m (pc + 3) ls (.float r :: rest))) : W p l e R s m args below meth c H locs cells slots Q (F0 m pc ls st0) := by
  intro T hT X
  rcases hr T hT X with ⟨v, st₀, t, T', L, h0, X', hL, e1, e2, ⟨⟨r, u, hv, hp, hb⟩, hF⟩, st⟩ | ⟨q, st₀, t, T', L, E, ce, h0, X', hL, e1, e2, ⟨u, hp, hb, hF⟩, hce, hcv, hcl, st⟩
  · cases hv
    obtain ⟨k1, k2, k3⟩ := vx_keep h0 e1 hS hA hf hL hF
    obtain ⟨t2, a1, b1⟩ := kk r u t T'.heap (locs ++ L) e1.symm (by rw [← e2]; exact X'.warmed.alike) hp hb k1 k2 k3 T' rfl X'
    exact ⟨t2, st t2 a1, b1⟩
  · obtain ⟨k1, k2, k3⟩ := vx_keep h0 e1 hS hAX hf hL hF
    obtain ⟨t2, a1, b1⟩ := kx E ce q u t T'.heap (locs ++ L) e1.symm (by rw [← e2]; exact X'.warmed.alike) hp hb k1 k2 k3 (by rw [e1]; exact hce) hcv hcl T' rfl X'
    exact ⟨t2, st.trans a1, b1⟩
theorem vx_calld {S SX : Type} {post : UInt64 → S → Prop} {px : SX → Prop} {B : S → State → Prop} {BX : String → SX → State → Prop} {AX : Nat → Prop} (hr : vx_Run p l e R s m args below meth c H locs cells slots mc ms (F0 m pc ls st0) rest (va_Qd post B A1 a) (vx_X px BX AX) free) (hS : va_S A0 H0 H locs) (hA : ∀ q, q < H.size → A1 q → A0 q) (hf : ∀ q, free q → A0 q) (hAX : ∀ q, q < H.size → AX q → A0 q)
    (kx : ∀ (E : String) (ce : Cell) (q9 : Addr) (u : SX) (t : State) (H1 : Heap) (locs1 : List Loc), t.heap = H1 → s.vm.Alike t.vm → px u → BX E u t → H.size ≤ H1.size → (∀ q : Nat, q < H.size → ¬ AX q → H1[q]? = H[q]?) → va_S A0 H0 H1 locs1 → H1[q9]? = some ce → ce.vm = .none → s.vm.findClass E = some ce.cls → vx_W p l e R s m args below meth c H1 locs1 (cells + mc) (slots + ms) Q (F0 m pc ls rest) q9)
    (kk : ∀ (r : UInt64) (u : S) (t : State) (H1 : Heap) (locs1 : List Loc), t.heap = H1 → s.vm.Alike t.vm → post r u → B u t → H.size ≤ H1.size → (∀ q : Nat, q < H.size → ¬ A1 q → H1[q]? = H[q]?) → va_S A0 H0 H1 locs1 → W p l e R s m args below meth c H1 locs1 (cells + mc) (slots + ms) Q (F0 m (pc + 3) ls (.double r :: rest))) : W p l e R s m args below meth c H locs cells slots Q (F0 m pc ls st0) := by
  intro T hT X
  rcases hr T hT X with ⟨v, st₀, t, T', L, h0, X', hL, e1, e2, ⟨⟨r, u, hv, hp, hb⟩, hF⟩, st⟩ | ⟨q, st₀, t, T', L, E, ce, h0, X', hL, e1, e2, ⟨u, hp, hb, hF⟩, hce, hcv, hcl, st⟩
  · cases hv
    obtain ⟨k1, k2, k3⟩ := vx_keep h0 e1 hS hA hf hL hF
    obtain ⟨t2, a1, b1⟩ := kk r u t T'.heap (locs ++ L) e1.symm (by rw [← e2]; exact X'.warmed.alike) hp hb k1 k2 k3 T' rfl X'
    exact ⟨t2, st t2 a1, b1⟩
  · obtain ⟨k1, k2, k3⟩ := vx_keep h0 e1 hS hAX hf hL hF
    obtain ⟨t2, a1, b1⟩ := kx E ce q u t T'.heap (locs ++ L) e1.symm (by rw [← e2]; exact X'.warmed.alike) hp hb k1 k2 k3 (by rw [e1]; exact hce) hcv hcl T' rfl X'
    exact ⟨t2, st.trans a1, b1⟩
theorem vx_callv {S SX : Type} {post : S → Prop} {px : SX → Prop} {B : S → State → Prop} {BX : String → SX → State → Prop} {AX : Nat → Prop} (hr : vx_Run p l e R s m args below meth c H locs cells slots mc ms (F0 m pc ls st0) rest (va_Qv post B A1 a) (vx_X px BX AX) free) (hS : va_S A0 H0 H locs) (hA : ∀ q, q < H.size → A1 q → A0 q) (hf : ∀ q, free q → A0 q) (hAX : ∀ q, q < H.size → AX q → A0 q)
    (kx : ∀ (E : String) (ce : Cell) (q9 : Addr) (u : SX) (t : State) (H1 : Heap) (locs1 : List Loc), t.heap = H1 → s.vm.Alike t.vm → px u → BX E u t → H.size ≤ H1.size → (∀ q : Nat, q < H.size → ¬ AX q → H1[q]? = H[q]?) → va_S A0 H0 H1 locs1 → H1[q9]? = some ce → ce.vm = .none → s.vm.findClass E = some ce.cls → vx_W p l e R s m args below meth c H1 locs1 (cells + mc) (slots + ms) Q (F0 m pc ls rest) q9)
    (kk : ∀ (u : S) (t : State) (H1 : Heap) (locs1 : List Loc), t.heap = H1 → s.vm.Alike t.vm → post u → B u t → H.size ≤ H1.size → (∀ q : Nat, q < H.size → ¬ A1 q → H1[q]? = H[q]?) → va_S A0 H0 H1 locs1 → W p l e R s m args below meth c H1 locs1 (cells + mc) (slots + ms) Q (F0 m (pc + 3) ls (rest))) : W p l e R s m args below meth c H locs cells slots Q (F0 m pc ls st0) := by
  intro T hT X
  rcases hr T hT X with ⟨v, st₀, t, T', L, h0, X', hL, e1, e2, ⟨⟨u, hv, hp, hb⟩, hF⟩, st⟩ | ⟨q, st₀, t, T', L, E, ce, h0, X', hL, e1, e2, ⟨u, hp, hb, hF⟩, hce, hcv, hcl, st⟩
  · cases hv
    obtain ⟨k1, k2, k3⟩ := vx_keep h0 e1 hS hA hf hL hF
    obtain ⟨t2, a1, b1⟩ := kk u t T'.heap (locs ++ L) e1.symm (by rw [← e2]; exact X'.warmed.alike) hp hb k1 k2 k3 T' rfl X'
    exact ⟨t2, st t2 a1, b1⟩
  · obtain ⟨k1, k2, k3⟩ := vx_keep h0 e1 hS hAX hf hL hF
    obtain ⟨t2, a1, b1⟩ := kx E ce q u t T'.heap (locs ++ L) e1.symm (by rw [← e2]; exact X'.warmed.alike) hp hb k1 k2 k3 (by rw [e1]; exact hce) hcv hcl T' rfl X'
    exact ⟨t2, st.trans a1, b1⟩
/-- caught by the row x of this method's table; the rows ahead don't take it -/
theorem vx_catch {own name : String} {E : String} {ce : Cell} {q : Addr} (hown : s.vm.findClass own = some m.cls) (pre : List ExceptionTableEntry) (x : ExceptionTableEntry) (suf : List ExceptionTableEntry) (hsplit : c.exceptionTable.toList = pre ++ x :: suf)
    (hpass : ∀ z ∈ pre, covers z pc = false ∨ (z.catchType ≠ 0 ∧ ∃ nm : String, (Cond.classLink own z.catchType nm).before args s = true ∧ va_Nc E nm s)) (hx : covers x pc = true) (h0 : x.catchType ≠ 0)
    (hlink : (Cond.classLink own x.catchType name).before args s = true) (hcast : (Cond.castable E name).before args s = true) (hcell : H[q]? = some ce) (hv : ce.vm = .none) (hcl : s.vm.findClass E = some ce.cls)
    (kk : W p l e R s m args below meth c H locs cells slots Q (F0 m x.handlerPc ls [.ref q])) : vx_W p l e R s m args below meth c H locs cells slots Q (F0 m pc ls rest) q := by
  intro T hT X
  have hpl : e.platform.magicAccessors = ({} : Platform).magicAccessors := by rw [X.admits.platform]
  obtain ⟨c3, c4, hc3, hc4, hasg⟩ := Cond.castable_spec hcast
  cases Option.some.inj (hc3.symm.trans hcl)
  obtain ⟨c5, hc5, hcl5⟩ := Cond.classLink_spec hown hlink e.platform hpl
  cases Option.some.inj (hc4.symm.trans hc5)
  obtain ⟨vm', X', st⟩ := X.thenCaughtThrough q (g := F0 m pc ls rest) rfl (Steps.refl _) (by rw [hT]; exact hcell) (by rw [hv]; rfl) (by obtain ⟨k9, h9, -⟩ := Vm.findClass_spec hcl; exact ⟨k9, h9⟩) pre x suf hsplit
    (fun z hz => by
      rcases hpass z hz with h | ⟨hz0, nm, hl1, hn1⟩
      · exact Or.inl h
      · obtain ⟨c6, hc6, hcl6⟩ := Cond.classLink_spec hown hl1 e.platform hpl
        obtain ⟨a8, b8, h1, h2, h3⟩ := hn1
        cases Option.some.inj (h1.symm.trans hcl)
        cases Option.some.inj (h2.symm.trans hc6)
        exact Or.inr ⟨hz0, _, hcl6, h3⟩) hx (Or.inr ⟨h0, c4, hcl5, hasg⟩)
  obtain ⟨t, a1, b1⟩ := kk (T.setVm vm') hT X'
  exact ⟨t, st.trans a1, b1⟩
end Rows
section Ends
variable {p : Program} {l : Launch} {e : Env} {R : Room} {s : State} {m : MethodId} {args : Array Value} {below : List Frame} {meth : Method} {c : Code} {H : Heap} {locs : List Loc} {cells slots : Nat} {Q : State → Prop}
variable {mc ms : Nat} {free : Addr → Prop} {A0 A1 : Nat → Prop} {H0 : Heap} {a : Array Value} {ls : Array Slot} {st0 rest : List Value}
variable {Qc : Array Value → State → Outcome → State → Prop} {XC : String → State → State → Prop}
/-- what a body that may throw owes at its end -/
def vx_MQ (below : List Frame) (Qc : Array Value → State → Outcome → State → Prop) (XC : String → State → State → Prop) (a : Array Value) (s : State) (mc ms : Nat) (free : Addr → Prop) : State → Prop := fun t =>
  ∃ o, t.status = .running ∧ Ended t below o ∧ vx_Q Qc XC mc ms free a s o t
theorem vx_ret {g : JFrame} {mc ms : Nat} (k : W p l e R s m args below meth c H locs cells slots (MQ below Qc args s mc ms free) g) : W p l e R s m args below meth c H locs cells slots (vx_MQ below Qc XC args s mc ms free) g := by
  intro T hT X
  obtain ⟨t, a1, o, b1, b2, b3, b4⟩ := k T hT X
  exact ⟨t, a1, o, b1, b2, Or.inl ⟨b3, b4⟩⟩
/-- not caught here: it goes on to the caller -/
theorem vx_widen {g : JFrame} {q : Addr} {k n : Nat} (h1 : cells ≤ k) (h2 : slots ≤ n) (kk : vx_W p l e R s m args below meth c H locs k n Q g q) : vx_W p l e R s m args below meth c H locs cells slots Q g q := fun T hT X => kk T hT (stand_widen X h1 h2)
theorem vx_out {pc : Nat} {E : String} {ce : Cell} {q : Addr} {mc ms : Nat} (hout : ∀ x ∈ c.exceptionTable.toList, covers x pc = false) (hlocks : meth.locks = false) (hcell : H[q]? = some ce) (hv : ce.vm = .none) (hcl : s.vm.findClass E = some ce.cls)
    (hx : ∀ t : State, t.heap = H → s.vm.Alike t.vm → XC E s t) (hf : ∀ z ∈ locs, free z.base) (hc : cells ≤ mc) (hs : slots ≤ ms) :
    vx_W p l e R s m args below meth c H locs cells slots (vx_MQ below Qc XC args s mc ms free) (F0 m pc ls rest) q := by
  intro T hT X
  obtain ⟨st1, hrun, hend, hW, hsm⟩ := X.leaveThrown q (g := F0 m pc ls rest) rfl rfl rfl hout hlocks
  have hcell9 : (T.setFrames (.throwing q :: below)).heap[q]? = some ce := by
    show T.heap[q]? = some ce
    rw [hT]; exact hcell
  exact ⟨_, st1, .threw q, hrun, hend, Or.inr ⟨q, rfl, E, ce, locs, hx _ hT hW.alike, hcell9, hv, hcl, hW, hsm.mono hc hs, hf⟩⟩
theorem vx_frame {U : State} {k n : Nat} (h : s.sameButNew ({ U with vm := s.vm } : State) locs k n) : s.heap.size ≤ U.heap.size ∧ ∀ q : Nat, q < s.heap.size → (∀ z ∈ locs, z.base ≠ q) → U.heap[q]? = s.heap[q]? := by
  obtain ⟨-, h2, -, -, -, h6⟩ := h
  refine ⟨h2, fun q hq hz => ?_⟩
  obtain ⟨c9, e1, e2, e3, e4⟩ := h6 q _ (Array.getElem?_eq_getElem hq)
  have hs : c9.slots = (s.heap[q]).slots := Array.ext_getElem? fun i => e4 i fun hm => hz _ hm rfl
  have h9 : c9 = s.heap[q] := by
    rw [hs] at e2
    exact e2
  have e5 : U.heap[q]? = some c9 := e1
  rw [e5, h9, Array.getElem?_eq_getElem hq]
/-- the words of a throw but the four that speak of the heap -/
def vx_no (w : Cond) : Bool := decide (w ≠ .isRef (.static Bundle.tN "UNASSIGNED_STACK" Bundle.steD)) && decide (w ≠ .isRef (.static Bundle.tN "SUPPRESSED_SENTINEL" Bundle.listD)) && decide (w ≠ .laysStatic Bundle.tN "UNASSIGNED_STACK" Bundle.steD) && decide (w ≠ .laysStatic Bundle.tN "SUPPRESSED_SENTINEL" Bundle.listD)
def vx_at0 (own : String) (ic : Nat) (X : String) (names : List String) : List Cond := (Bundle.ownAtoms0 own ic X names).filter vx_no
def vx_atS (own : String) (ic : Nat) (X : String) (names : List String) : List Cond := (Bundle.ownAtoms own ic X names).filter vx_no
/-- a word that the tables alone decide, or a good one -/
def vx_ot (w : Cond) : Bool := w.onTables || goodWord w
theorem vx_ot_at {args a' : Array Value} {s U : State} {w : Cond} (hW : s.WarmedH U.vm) (hvm : s.vm = U.vm) (hg : vx_ot w = true) (h : w.before args s = true) : w.before a' U = true := by
  simp only [vx_ot, Bool.or_eq_true] at hg
  rcases hg with hg | hg
  · exact va_tabs hg hvm h
  · exact word_at hW (good_of_word hg) h
/-- a list's words: the good ones out of the method's own list, the others by premises of their own -/
theorem vx_hat {args : Array Value} {s : State} {L B : List Cond} (h1 : ∀ w ∈ L.filter goodWord, w.before args s = true) (h2 : ∀ w ∈ L.filter (fun w => !goodWord w), w ∈ B) (h3 : ∀ w ∈ B, w.before args s = true) : ∀ w ∈ L, w.before args s = true := by
  intro w hw
  by_cases g : goodWord w = true
  · exact h1 w (List.mem_filter.mpr ⟨hw, g⟩)
  · refine h3 w (h2 w (List.mem_filter.mpr ⟨hw, ?_⟩))
    show (!goodWord w) = true
    cases hgw : goodWord w
    · rfl
    · exact absurd hgw g
theorem vx_c {args : Array Value} {s : State} {w : Cond} {B : List Cond} (h : w.before args s = true) (t : ∀ w ∈ B, w.before args s = true) : ∀ w' ∈ w :: B, w'.before args s = true := fun w' h' => (List.mem_cons.mp h').elim (fun e => by rw [e]; exact h) (t w')
theorem vx_n {args : Array Value} {s : State} : ∀ w ∈ ([] : List Cond), w.before args s = true := fun _ h => nomatch h
theorem vx_own {args : Array Value} {s : State} {L : List Cond} (h1 : ∀ w ∈ L.filter vx_no, w.before args s = true)
    (hU : (Cond.isRef (.static Bundle.tN "UNASSIGNED_STACK" Bundle.steD)).before args s = true) (hN : (Cond.isRef (.static Bundle.tN "SUPPRESSED_SENTINEL" Bundle.listD)).before args s = true)
    (lU : (Cond.laysStatic Bundle.tN "UNASSIGNED_STACK" Bundle.steD).before args s = true) (lN : (Cond.laysStatic Bundle.tN "SUPPRESSED_SENTINEL" Bundle.listD).before args s = true) : ∀ w ∈ L, w.before args s = true := by
  intro w hw
  by_cases e1 : w = .isRef (.static Bundle.tN "UNASSIGNED_STACK" Bundle.steD)
  · rw [e1]; exact hU
  · by_cases e2 : w = .isRef (.static Bundle.tN "SUPPRESSED_SENTINEL" Bundle.listD)
    · rw [e2]; exact hN
    · by_cases e3 : w = .laysStatic Bundle.tN "UNASSIGNED_STACK" Bundle.steD
      · rw [e3]; exact lU
      · by_cases e4 : w = .laysStatic Bundle.tN "SUPPRESSED_SENTINEL" Bundle.listD
        · rw [e4]; exact lN
        · exact h1 w (List.mem_filter.mpr ⟨hw, by unfold vx_no; rw [decide_eq_true e1, decide_eq_true e2, decide_eq_true e3, decide_eq_true e4]; rfl⟩)
/-- where a static field lies, its class's statics cell in H -/
def vx_L (C n d : String) (A : Nat → Prop) (U : State) (H : Heap) : Prop := ∃ (c : ClassId) (k : Class) (i : Nat) (f : Field) (a : Nat) (cell : Cell), U.vm.findClass C = some c ∧ U.fieldFound? C n d = some (c, k, i, f) ∧ f.isStatic = true ∧ k.statics = some a ∧ H[a]? = some cell ∧ cell.vm.isStatics = true ∧ cell.cls = c ∧ f.slot < cell.slots.size ∧ k.staticTypes[f.slot]? = some f.type ∧ ¬ A a
theorem vx_L.moved {C n d : String} {A : Nat → Prop} {u U : State} {H : Heap} (hvm : u.vm.Alike U.vm) (h : vx_L C n d A u H) : vx_L C n d A U H := by
  obtain ⟨c, k, i, f, a, cell, h1, h2, h3, h4, h5, h6, h7, h8, h9, h10⟩ := h
  obtain ⟨k', hi', he⟩ := State.fieldFound?_setVm hvm h2
  exact ⟨c, k', i, f, a, cell, by rw [hvm.findClass]; exact h1, hi', h3, by rw [he]; exact h4, h5, h6, h7, h8, by rw [he]; exact h9, h10⟩
theorem vx_L.kept {C n d : String} {A : Nat → Prop} {U : State} {H H1 : Heap} (h : vx_L C n d A U H) (hq : ∀ a : Nat, a < H.size → ¬ A a → H1[a]? = H[a]?) : vx_L C n d A U H1 := by
  obtain ⟨c, k, i, f, a, cell, h1, h2, h3, h4, h5, h6, h7, h8, h9, h10⟩ := h
  exact ⟨c, k, i, f, a, cell, h1, h2, h3, h4, by rw [hq a (Array.getElem?_eq_some_iff.mp h5).1 h10]; exact h5, h6, h7, h8, h9, h10⟩
theorem vx_L.narrow {C n d : String} {A B : Nat → Prop} {U : State} {H : Heap} (h : vx_L C n d A U H) (hAB : ∀ q, B q → A q) : vx_L C n d B U H := by
  obtain ⟨c, k, i, f, a, cell, h1, h2, h3, h4, h5, h6, h7, h8, h9, h10⟩ := h
  exact ⟨c, k, i, f, a, cell, h1, h2, h3, h4, h5, h6, h7, h8, h9, fun z => h10 (hAB _ z)⟩
theorem vx_L.word {C n d : String} {A : Nat → Prop} {s : State} {args : Array Value} (h : vx_L C n d A s s.heap) : (Cond.laysStatic C n d).before args s = true := by
  obtain ⟨c, k, i, f, a, cell, h1, h2, h3, h4, h5, h6, h7, h8, h9, -⟩ := h
  show (Cond.laysStatic C n d).holds args s none s [] = true
  exact Cond.laysStatic_of h1 h2 h3 h4 h5 h6 h7 h8 h9
/-- .. and what it holds: null or some reference -/
def vx_Zq (C n d : String) (A : Nat → Prop) (U : State) (H : Heap) : Prop := va_Zq C n d A U H ∧ vx_L C n d A U H
theorem vx_Zq.moved {C n d : String} {A : Nat → Prop} {u U : State} {H : Heap} (hvm : u.vm.Alike U.vm) (h : vx_Zq C n d A u H) : vx_Zq C n d A U H := ⟨va_Zq.moved hvm h.1, vx_L.moved hvm h.2⟩
theorem vx_Zq.kept {C n d : String} {A : Nat → Prop} {U : State} {H H1 : Heap} (h : vx_Zq C n d A U H) (hq : ∀ a : Nat, a < H.size → ¬ A a → H1[a]? = H[a]?) : vx_Zq C n d A U H1 := ⟨va_Zq.kept h.1 hq, vx_L.kept h.2 hq⟩
theorem vx_Zq.narrow {C n d : String} {A B : Nat → Prop} {U : State} {H : Heap} (h : vx_Zq C n d A U H) (hAB : ∀ q, B q → A q) : vx_Zq C n d B U H := ⟨va_Zq.narrow h.1 hAB, vx_L.narrow h.2 hAB⟩
theorem vx_Zqof {args : Array Value} {s : State} {C n d : String} {A : Nat → Prop} (hl : (Cond.laysStatic C n d).before args s = true) (hini : (Cond.initialized C).before args s = true) (h : (Cond.isRef (.static C n d)).before args s = true) (hA : ∀ a : Nat, a < s.heap.size → ¬ A a) : vx_Zq C n d A s s.heap := by
  refine ⟨va_Zqof hl hini h hA, ?_⟩
  obtain ⟨c, k, i, f, a, cell, h1, h2, h3, h4, h5, h6, h7, h8, h9⟩ := Cond.laysStatic_spec hl
  exact ⟨c, k, i, f, a, cell, h1, h2, h3, h4, h5, h6, h7, h8, h9, hA a (Array.getElem?_eq_some_iff.mp h5).1⟩
theorem vx_isRef {C n d : String} {v : Value} {A : Nat → Prop} {s : State} {args : Array Value} (h : va_Z C n d v A s s.heap) (hv : v.isRef = true) : (Cond.isRef (.static C n d)).before args s = true := by
  obtain ⟨cf, kf, fi, f, a, cell, h1, h2, h3, h4, h5, h6, h7, -⟩ := h
  have he : (Term.static C n d).eval args s none [] s = some v := by
    simp [Term.eval, State.fieldNamed?, h1, h2, h4, h5, h6, h7]
  simp only [Cond.before, Cond.holds, Cond.value, he]
  cases v <;> simp_all [Value.isRef]
theorem vx_isRefq {C n d : String} {A : Nat → Prop} {s : State} {args : Array Value} (h : va_Zq C n d A s s.heap) : (Cond.isRef (.static C n d)).before args s = true := by
  rcases h with h | ⟨t, h⟩
  · exact vx_isRef h rfl
  · exact vx_isRef h rfl
/-- the same frame, seen from here: as if the method were called anew in this heap -/
theorem vx_rebase {T : State} (X : Stand p l e R s m args below meth c T locs cells slots) {R' : Room} (hf : R'.frames ≤ R.frames) (hl : R'.locals ≤ R.locals) (hc : cells + R'.cells ≤ R.cells) (hs : slots + R'.slots ≤ R.slots) :
    Stand p l e R' ((T.setVm s.vm).setFrames (.invoking m args :: below)) m args below meth c T [] 0 0 := by
  have htop : (T.setVm s.vm).topJava?.isSome := X.here.top
  have hF : ((T.setVm s.vm).setFrames (.invoking m args :: below)).frames = .invoking m args :: below := State.frames_setFrames _ (State.cur_lt_of_top htop)
  obtain ⟨g₀, hg0⟩ := Option.isSome_iff_exists.mp htop
  obtain ⟨r, hr⟩ := State.topJava?_eq_some.mp hg0
  have hl9 : e.platform.stackLimits (T.setVm s.vm).me = e.platform.stackLimits s.me := X.limits
  have hb9 : (T.setVm s.vm).me.stackBytes = s.me.stackBytes := X.bytes
  refine ⟨X.admits, X.cas, X.clock, hF, ?_, X.hears, X.method, X.code, X.here, X.tail, X.warmed, ?_, ?_, ?_⟩
  · have h := X.room
    have hU : ((T.setVm s.vm).setFrames (.invoking m args :: below)).localsInUse = s.localsInUse := by
      rw [State.localsInUse_invoking hF (meth := meth) (c := c) X.method X.code, State.localsInUse_invoking X.frames X.method X.code]
    simp only [State.hasRoom, Bool.and_eq_true, decide_eq_true_eq] at h ⊢
    obtain ⟨⟨⟨⟨h1, h2, h3, h4, h5, h6⟩, h7⟩, h8⟩, h9⟩ := h
    rw [X.frames, List.length_cons] at h2 h3
    have q1 := X.heapSize
    have q2 := X.used
    simp only [hF, hU, List.length_cons, State.stackLimits_setFrames, State.stackBytes_setFrames, hl9, hb9]
    refine ⟨⟨⟨⟨by omega, by omega, by omega, by omega, by omega, h6⟩, ?_⟩, ?_⟩, X.book⟩
    · show T.heap.size + R'.cells ≤ e.platform.maxCells
      omega
    · show T.slotsUsed + R'.slots ≤ e.platform.maxSlots
      omega
  · rw [State.stackLimits_setFrames]; rfl
  · rw [State.stackBytes_setFrames]; rfl
  · refine ⟨?_, Nat.le_refl _, Nat.le_refl _, ?_, ?_, fun a c9 h9 => ⟨c9, h9, rfl, rfl, fun _ _ => rfl⟩⟩
    · obtain ⟨t, ht, -⟩ := State.frames_cons hr
      show T.setVm s.vm = { ((T.setVm s.vm).setFrames (.invoking m args :: below)).setFrames (T.setVm s.vm).frames with heap := T.heap, slotsUsed := T.slotsUsed }
      rw [State.setFrames_setFrames, State.setFrames_self ht]
      rfl
    · show T.slotsUsed = T.slotsUsed + ((T.heap.toList.drop T.heap.size).map (·.slots.size)).sum
      rw [List.drop_eq_nil_of_le (Nat.le_of_eq Array.length_toList)]
      rfl
    · show ((T.heap.toList.drop T.heap.size).map (·.slots.size)).sum ≤ 0
      rw [List.drop_eq_nil_of_le (Nat.le_of_eq Array.length_toList)]
      exact Nat.le_refl _
/-- 'throw new E()': new; dup; invokespecial; athrow -/
theorem vx_throw0 {cc : ByteArray} {pc : Nat} (hexec : p.tables.exec = Jvm.exec) (hb : c.code = cc) (hl : l.stackTraces = false) {own cls : String} {names : List String} {ik ic mc ms : Nat} {A : Nat → Prop}
    (hown : s.vm.findClass own = some m.cls) (hcls : Bundle.fit cls = true) (hnames : ∀ n ∈ names, Bundle.fit n = true)
    (hk : (Cond.classLink own ik cls).before args s = true) (hini : (Cond.initialized cls).before args s = true) (hat : ∀ w ∈ vx_at0 own ic cls names, w.before args s = true)
    (hgood : ∀ w ∈ Cond.classLink own ik cls :: Cond.initialized cls :: vx_at0 own ic cls names, vx_ot w = true)
    (hU : vx_Zq Bundle.tN "UNASSIGNED_STACK" Bundle.steD A s s.heap) (hN : vx_Zq Bundle.tN "SUPPRESSED_SENTINEL" Bundle.listD A s s.heap) (hS : va_S A s.heap H locs) (hsize : ls.size = c.maxLocals)
    (d0 : decode cc pc = .ok (.new ik, 3)) (d3 : decode cc (pc + 3) = .ok (.dup, 1)) (d4 : decode cc (pc + 4) = .ok (.invokespecial ic, 3)) (d7 : decode cc (pc + 7) = .ok (.athrow, 1))
    (hout : ∀ x ∈ c.exceptionTable.toList, covers x (pc + 7) = false)
    (hRframes : names.length + 3 < R.frames) (hRlocals : (rest.map fun v => v.category).sum + (13 * (names.length + 1) + 42) ≤ R.locals) (hRcells : cells + 1 ≤ R.cells) (hRslots : slots + 6 ≤ R.slots) (hlocks : meth.locks = false)
    (hx : ∀ t : State, s.vm.Alike t.vm → H.size ≤ t.heap.size → (∀ q : Nat, q < H.size → t.heap[q]? = H[q]?) → XC cls s t)
    (hf : ∀ z ∈ locs, free z.base) (hc : cells + 1 ≤ mc) (hs : slots + 6 ≤ ms) :
    W p l e R s m args below meth c H locs cells slots (vx_MQ below Qc XC args s mc ms free) (F0 m pc ls rest) := by
  intro T hT X
  have htr : e.platform.stackTraces = false := (show e.platform.stackTraces = l.stackTraces by rw [X.admits.platform]).trans hl
  have Y := vx_rebase X (R' := { frames := R.frames, locals := R.locals, cells := 1, slots := 6 }) (Nat.le_refl _) (Nat.le_refl _) hRcells hRslots
  obtain ⟨s', hA⟩ : ∃ z, z = (T.setVm s.vm).setFrames (.invoking m args :: below) := ⟨_, rfl⟩
  rw [← hA] at Y
  have hvm : s'.vm = s.vm := by rw [hA]; rfl
  have hhp : s'.heap = H := by rw [hA]; exact hT
  have hW0 : s.WarmedH s'.vm := by rw [hvm]; exact State.WarmedH.refl s
  have hat' : ∀ w ∈ vx_at0 own ic cls names, w.before args s' = true := fun w hw => vx_ot_at hW0 hvm.symm (hgood w (List.mem_cons_of_mem _ (List.mem_cons_of_mem _ hw))) (hat w hw)
  have hk' : (Cond.classLink own ik cls).before args s' = true := vx_ot_at hW0 hvm.symm (hgood _ List.mem_cons_self) hk
  have hini' : (Cond.initialized cls).before args s' = true := vx_ot_at hW0 hvm.symm (hgood _ (List.mem_cons_of_mem _ List.mem_cons_self)) hini
  have hU' : vx_Zq Bundle.tN "UNASSIGNED_STACK" Bundle.steD A s' s'.heap := by rw [hhp]; exact vx_Zq.moved hW0.alike (hU.kept hS.2.1)
  have hN' : vx_Zq Bundle.tN "SUPPRESSED_SENTINEL" Bundle.listD A s' s'.heap := by rw [hhp]; exact vx_Zq.moved hW0.alike (hN.kept hS.2.1)
  have h : ∀ w ∈ Bundle.ownAtoms0 own ic cls names, w.before args s' = true := vx_own hat' (vx_isRefq hU'.1) (vx_isRefq hN'.1) hU'.2.word hN'.2.word
  have hown' : s'.vm.findClass own = some m.cls := by rw [hvm]; exact hown
  have hins : (Cond.instantiable cls 6).before args s' = true := h _ (by simp [Bundle.ownAtoms0])
  obtain ⟨vm₁, cX, kX, hfX, hkX, -, -, X₁, st1⟩ := Y.newCold hexec (own := own) (C := cls) (index := ik) (n := 6) hown' hk' hins hini'
    (g := F0 m pc ls rest) rfl (by rw [hb]; exact d0) (Nat.le_refl _) (Nat.le_refl _)
  generalize hT1 : (T.setVm vm₁).pushCell { cls := cX, slots := kX.instanceTypes.map defaultValue, vm := .none } = T1 at X₁ st1
  have hcat : (Value.ref T.heap.size).category = 1 := rfl
  have hcellA : T1.heap[T.heap.size]? = some (freshCell cX kX) := by rw [← hT1]; exact State.heap_pushCell_size _ _
  have d3' : decode c.code (pc + 3) = .ok (.dup, 1) := by rw [hb]; exact d3
  obtain ⟨U, hsteps, hrun, hend, hW, hsame, ce, hce, hO⟩ := X₁.ctorThrow0 hexec htr (own := own) (cls := cls) (names := names) (ic := ic) hown' hcls hnames h (fun x hx => nomatch hx) hfX hkX hcellA (by rw [hhp, hT]; exact Nat.le_refl _)
    (g := { method := m, pc := pc + 4, locals := ls, stack := .ref T.heap.size :: .ref T.heap.size :: rest, locked := none }) rfl hsize rfl rfl (rest := rest) rfl
    (by rw [hb]; exact d4) (by rw [hb]; exact d7) hout hRframes (by simp only [List.map_cons, List.sum_cons, hcat]; omega) hlocks
  obtain ⟨f1, f2⟩ := vx_frame hsame
  rw [hhp] at f1 f2
  have hWs : s.WarmedH U.vm := State.WarmedH.trans hW0 hW
  have hcl : s.vm.findClass cls = some ce.cls := by
    have h9 := hO.cls
    rw [hvm] at h9
    exact h9
  have hall : s.sameButNew ({ U with vm := s.vm } : State) locs mc ms := by
    subst hA
    obtain ⟨e1, e2⟩ := hsame
    rw [State.setFrames_setFrames] at e1
    have h2 : (T.setVm s.vm).sameButNew ({ U with vm := s.vm } : State) [] (0 + 1) (0 + 6) := ⟨e1, e2⟩
    have h3 := X.same.trans h2
    rw [List.append_nil] at h3
    exact h3.mono hc hs
  refine ⟨U, ?_, .threw T.heap.size, hrun, hend, Or.inr ⟨T.heap.size, rfl, cls, ce, locs, hx U hWs.alike f1 (fun q hq => f2 q hq (fun z hz => nomatch hz)), hce, hO.vm, hcl, hWs, hall, hf⟩⟩
  refine st1 _ ?_
  show Steps p.tables e below (T1.setTop { method := m, pc := pc + 3, locals := ls, stack := .ref T.heap.size :: rest, locked := none }) _
  jvm_step X₁.here [X₁.here.top, hexec, d3', Value.category]
  exact hsteps
/-- 'throw new E("text")': new; dup; ldc; invokespecial; athrow -/
theorem vx_throwS {cc : ByteArray} {pc : Nat} (hexec : p.tables.exec = Jvm.exec) (hb : c.code = cc) (hl : l.stackTraces = false) {own cls text : String} {names : List String} {ik is ic mc ms sa : Nat} {A : Nat → Prop}
    (hown : s.vm.findClass own = some m.cls) (hcls : Bundle.fit cls = true) (hnames : ∀ n ∈ names, Bundle.fit n = true)
    (hk : (Cond.classLink own ik cls).before args s = true) (hini : (Cond.initialized cls).before args s = true) (hstr : vk_R own is text sa s) (hat : ∀ w ∈ vx_atS own ic cls names, w.before args s = true)
    (hgood : ∀ w ∈ Cond.classLink own ik cls :: Cond.initialized cls :: vx_atS own ic cls names, vx_ot w = true)
    (hU : vx_Zq Bundle.tN "UNASSIGNED_STACK" Bundle.steD A s s.heap) (hN : vx_Zq Bundle.tN "SUPPRESSED_SENTINEL" Bundle.listD A s s.heap) (hS : va_S A s.heap H locs) (hsize : ls.size = c.maxLocals)
    (d0 : decode cc pc = .ok (.new ik, 3)) (d3 : decode cc (pc + 3) = .ok (.dup, 1)) (d4 : decode cc (pc + 4) = .ok (.ldc is, 2)) (d6 : decode cc (pc + 6) = .ok (.invokespecial ic, 3)) (d9 : decode cc (pc + 9) = .ok (.athrow, 1))
    (hout : ∀ x ∈ c.exceptionTable.toList, covers x (pc + 9) = false)
    (hRframes : names.length + 3 < R.frames) (hRlocals : (rest.map fun v => v.category).sum + (13 * (names.length + 1) + 43) ≤ R.locals) (hRcells : cells + 1 ≤ R.cells) (hRslots : slots + 6 ≤ R.slots) (hlocks : meth.locks = false)
    (hx : ∀ t : State, s.vm.Alike t.vm → H.size ≤ t.heap.size → (∀ q : Nat, q < H.size → t.heap[q]? = H[q]?) → XC cls s t)
    (hf : ∀ z ∈ locs, free z.base) (hc : cells + 1 ≤ mc) (hs : slots + 6 ≤ ms) :
    W p l e R s m args below meth c H locs cells slots (vx_MQ below Qc XC args s mc ms free) (F0 m pc ls rest) := by
  intro T hT X
  have htr : e.platform.stackTraces = false := (show e.platform.stackTraces = l.stackTraces by rw [X.admits.platform]).trans hl
  have Y := vx_rebase X (R' := { frames := R.frames, locals := R.locals, cells := 1, slots := 6 }) (Nat.le_refl _) (Nat.le_refl _) hRcells hRslots
  obtain ⟨s', hA⟩ : ∃ z, z = (T.setVm s.vm).setFrames (.invoking m args :: below) := ⟨_, rfl⟩
  rw [← hA] at Y
  have hvm : s'.vm = s.vm := by rw [hA]; rfl
  have hhp : s'.heap = H := by rw [hA]; exact hT
  have hW0 : s.WarmedH s'.vm := by rw [hvm]; exact State.WarmedH.refl s
  have hat' : ∀ w ∈ vx_atS own ic cls names, w.before args s' = true := fun w hw => vx_ot_at hW0 hvm.symm (hgood w (List.mem_cons_of_mem _ (List.mem_cons_of_mem _ hw))) (hat w hw)
  have hk' : (Cond.classLink own ik cls).before args s' = true := vx_ot_at hW0 hvm.symm (hgood _ List.mem_cons_self) hk
  have hini' : (Cond.initialized cls).before args s' = true := vx_ot_at hW0 hvm.symm (hgood _ (List.mem_cons_of_mem _ List.mem_cons_self)) hini
  have hU' : vx_Zq Bundle.tN "UNASSIGNED_STACK" Bundle.steD A s' s'.heap := by rw [hhp]; exact vx_Zq.moved hW0.alike (hU.kept hS.2.1)
  have hN' : vx_Zq Bundle.tN "SUPPRESSED_SENTINEL" Bundle.listD A s' s'.heap := by rw [hhp]; exact vx_Zq.moved hW0.alike (hN.kept hS.2.1)
  have h : ∀ w ∈ Bundle.ownAtoms own ic cls names, w.before args s' = true := vx_own hat' (vx_isRefq hU'.1) (vx_isRefq hN'.1) hU'.2.word hN'.2.word
  have hown' : s'.vm.findClass own = some m.cls := by rw [hvm]; exact hown
  have hins : (Cond.instantiable cls 6).before args s' = true := h _ (by simp [Bundle.ownAtoms])
  obtain ⟨vm₁, cX, kX, hfX, hkX, -, -, X₁, st1⟩ := Y.newCold hexec (own := own) (C := cls) (index := ik) (n := 6) hown' hk' hins hini'
    (g := F0 m pc ls rest) rfl (by rw [hb]; exact d0) (Nat.le_refl _) (Nat.le_refl _)
  generalize hT1 : (T.setVm vm₁).pushCell { cls := cX, slots := kX.instanceTypes.map defaultValue, vm := .none } = T1 at X₁ st1
  have hcat : (Value.ref T.heap.size).category = 1 := rfl
  have hcellA : T1.heap[T.heap.size]? = some (freshCell cX kX) := by rw [← hT1]; exact State.heap_pushCell_size _ _
  have d3' : decode c.code (pc + 3) = .ok (.dup, 1) := by rw [hb]; exact d3
  have d4' : decode c.code (pc + 4) = .ok (.ldc is, 2) := by rw [hb]; exact d4
  have hstr' : vk_R own is text sa s' := vk_R.warm hW0 hstr
  obtain ⟨U, hsteps, hrun, hend, hW, hsame, ce, hce, hO⟩ := X₁.ctorThrowS hexec htr (own := own) (cls := cls) (names := names) (ic := ic) hown' hcls hnames h (fun x hx => nomatch hx) hfX hkX hcellA (by rw [hhp, hT]; exact Nat.le_refl _) (msg := .ref sa) rfl
    (g := { method := m, pc := pc + 6, locals := ls, stack := .ref sa :: .ref T.heap.size :: .ref T.heap.size :: rest, locked := none }) rfl hsize rfl rfl (rest := rest) rfl
    (by rw [hb]; exact d6) (by rw [hb]; exact d9) hout hRframes (by simp only [List.map_cons, List.sum_cons, hcat]; omega) hlocks
  obtain ⟨f1, f2⟩ := vx_frame hsame
  rw [hhp] at f1 f2
  have hWs : s.WarmedH U.vm := State.WarmedH.trans hW0 hW
  have hcl : s.vm.findClass cls = some ce.cls := by
    have h9 := hO.cls
    rw [hvm] at h9
    exact h9
  have hall : s.sameButNew ({ U with vm := s.vm } : State) locs mc ms := by
    subst hA
    obtain ⟨e1, e2⟩ := hsame
    rw [State.setFrames_setFrames] at e1
    have h2 : (T.setVm s.vm).sameButNew ({ U with vm := s.vm } : State) [] (0 + 1) (0 + 6) := ⟨e1, e2⟩
    have h3 := X.same.trans h2
    rw [List.append_nil] at h3
    exact h3.mono hc hs
  refine ⟨U, ?_, .threw T.heap.size, hrun, hend, Or.inr ⟨T.heap.size, rfl, cls, ce, locs, hx U hWs.alike f1 (fun q hq => f2 q hq (fun z hz => nomatch hz)), hce, hO.vm, hcl, hWs, hall, hf⟩⟩
  refine st1 _ ?_
  show Steps p.tables e below (T1.setTop { method := m, pc := pc + 3, locals := ls, stack := .ref T.heap.size :: rest, locked := none }) _
  jvm_step X₁.here [X₁.here.top, hexec, d3', Value.category]
  exact X₁.ldcString hexec (own := own) (text := text) (index := is) (a := sa) hown' hstr'.1 hstr'.2
    (g := { method := m, pc := pc + 4, locals := ls, stack := .ref T.heap.size :: .ref T.heap.size :: rest, locked := none }) rfl d4' _ hsteps
/-- 'throw new E("text")', the text by a wide index -/
theorem vx_throwSW {cc : ByteArray} {pc : Nat} (hexec : p.tables.exec = Jvm.exec) (hb : c.code = cc) (hl : l.stackTraces = false) {own cls text : String} {names : List String} {ik is ic mc ms sa : Nat} {A : Nat → Prop}
    (hown : s.vm.findClass own = some m.cls) (hcls : Bundle.fit cls = true) (hnames : ∀ n ∈ names, Bundle.fit n = true)
    (hk : (Cond.classLink own ik cls).before args s = true) (hini : (Cond.initialized cls).before args s = true) (hstr : vk_R own is text sa s) (hat : ∀ w ∈ vx_atS own ic cls names, w.before args s = true)
    (hgood : ∀ w ∈ Cond.classLink own ik cls :: Cond.initialized cls :: vx_atS own ic cls names, vx_ot w = true)
    (hU : vx_Zq Bundle.tN "UNASSIGNED_STACK" Bundle.steD A s s.heap) (hN : vx_Zq Bundle.tN "SUPPRESSED_SENTINEL" Bundle.listD A s s.heap) (hS : va_S A s.heap H locs) (hsize : ls.size = c.maxLocals)
    (d0 : decode cc pc = .ok (.new ik, 3)) (d3 : decode cc (pc + 3) = .ok (.dup, 1)) (d4 : decode cc (pc + 4) = .ok (.ldc_w is, 3)) (d7 : decode cc (pc + 7) = .ok (.invokespecial ic, 3)) (d10 : decode cc (pc + 10) = .ok (.athrow, 1))
    (hout : ∀ x ∈ c.exceptionTable.toList, covers x (pc + 10) = false)
    (hRframes : names.length + 3 < R.frames) (hRlocals : (rest.map fun v => v.category).sum + (13 * (names.length + 1) + 43) ≤ R.locals) (hRcells : cells + 1 ≤ R.cells) (hRslots : slots + 6 ≤ R.slots) (hlocks : meth.locks = false)
    (hx : ∀ t : State, s.vm.Alike t.vm → H.size ≤ t.heap.size → (∀ q : Nat, q < H.size → t.heap[q]? = H[q]?) → XC cls s t)
    (hf : ∀ z ∈ locs, free z.base) (hc : cells + 1 ≤ mc) (hs : slots + 6 ≤ ms) :
    W p l e R s m args below meth c H locs cells slots (vx_MQ below Qc XC args s mc ms free) (F0 m pc ls rest) := by
  intro T hT X
  have htr : e.platform.stackTraces = false := (show e.platform.stackTraces = l.stackTraces by rw [X.admits.platform]).trans hl
  have Y := vx_rebase X (R' := { frames := R.frames, locals := R.locals, cells := 1, slots := 6 }) (Nat.le_refl _) (Nat.le_refl _) hRcells hRslots
  obtain ⟨s', hA⟩ : ∃ z, z = (T.setVm s.vm).setFrames (.invoking m args :: below) := ⟨_, rfl⟩
  rw [← hA] at Y
  have hvm : s'.vm = s.vm := by rw [hA]; rfl
  have hhp : s'.heap = H := by rw [hA]; exact hT
  have hW0 : s.WarmedH s'.vm := by rw [hvm]; exact State.WarmedH.refl s
  have hat' : ∀ w ∈ vx_atS own ic cls names, w.before args s' = true := fun w hw => vx_ot_at hW0 hvm.symm (hgood w (List.mem_cons_of_mem _ (List.mem_cons_of_mem _ hw))) (hat w hw)
  have hk' : (Cond.classLink own ik cls).before args s' = true := vx_ot_at hW0 hvm.symm (hgood _ List.mem_cons_self) hk
  have hini' : (Cond.initialized cls).before args s' = true := vx_ot_at hW0 hvm.symm (hgood _ (List.mem_cons_of_mem _ List.mem_cons_self)) hini
  have hU' : vx_Zq Bundle.tN "UNASSIGNED_STACK" Bundle.steD A s' s'.heap := by rw [hhp]; exact vx_Zq.moved hW0.alike (hU.kept hS.2.1)
  have hN' : vx_Zq Bundle.tN "SUPPRESSED_SENTINEL" Bundle.listD A s' s'.heap := by rw [hhp]; exact vx_Zq.moved hW0.alike (hN.kept hS.2.1)
  have h : ∀ w ∈ Bundle.ownAtoms own ic cls names, w.before args s' = true := vx_own hat' (vx_isRefq hU'.1) (vx_isRefq hN'.1) hU'.2.word hN'.2.word
  have hown' : s'.vm.findClass own = some m.cls := by rw [hvm]; exact hown
  have hins : (Cond.instantiable cls 6).before args s' = true := h _ (by simp [Bundle.ownAtoms])
  obtain ⟨vm₁, cX, kX, hfX, hkX, -, -, X₁, st1⟩ := Y.newCold hexec (own := own) (C := cls) (index := ik) (n := 6) hown' hk' hins hini'
    (g := F0 m pc ls rest) rfl (by rw [hb]; exact d0) (Nat.le_refl _) (Nat.le_refl _)
  generalize hT1 : (T.setVm vm₁).pushCell { cls := cX, slots := kX.instanceTypes.map defaultValue, vm := .none } = T1 at X₁ st1
  have hcat : (Value.ref T.heap.size).category = 1 := rfl
  have hcellA : T1.heap[T.heap.size]? = some (freshCell cX kX) := by rw [← hT1]; exact State.heap_pushCell_size _ _
  have d3' : decode c.code (pc + 3) = .ok (.dup, 1) := by rw [hb]; exact d3
  have d4' : decode c.code (pc + 4) = .ok (.ldc_w is, 3) := by rw [hb]; exact d4
  have hstr' : vk_R own is text sa s' := vk_R.warm hW0 hstr
  obtain ⟨U, hsteps, hrun, hend, hW, hsame, ce, hce, hO⟩ := X₁.ctorThrowS hexec htr (own := own) (cls := cls) (names := names) (ic := ic) hown' hcls hnames h (fun x hx => nomatch hx) hfX hkX hcellA (by rw [hhp, hT]; exact Nat.le_refl _) (msg := .ref sa) rfl
    (g := { method := m, pc := pc + 7, locals := ls, stack := .ref sa :: .ref T.heap.size :: .ref T.heap.size :: rest, locked := none }) rfl hsize rfl rfl (rest := rest) rfl
    (by rw [hb]; exact d7) (by rw [hb]; exact d10) hout hRframes (by simp only [List.map_cons, List.sum_cons, hcat]; omega) hlocks
  obtain ⟨f1, f2⟩ := vx_frame hsame
  rw [hhp] at f1 f2
  have hWs : s.WarmedH U.vm := State.WarmedH.trans hW0 hW
  have hcl : s.vm.findClass cls = some ce.cls := by
    have h9 := hO.cls
    rw [hvm] at h9
    exact h9
  have hall : s.sameButNew ({ U with vm := s.vm } : State) locs mc ms := by
    subst hA
    obtain ⟨e1, e2⟩ := hsame
    rw [State.setFrames_setFrames] at e1
    have h2 : (T.setVm s.vm).sameButNew ({ U with vm := s.vm } : State) [] (0 + 1) (0 + 6) := ⟨e1, e2⟩
    have h3 := X.same.trans h2
    rw [List.append_nil] at h3
    exact h3.mono hc hs
  refine ⟨U, ?_, .threw T.heap.size, hrun, hend, Or.inr ⟨T.heap.size, rfl, cls, ce, locs, hx U hWs.alike f1 (fun q hq => f2 q hq (fun z hz => nomatch hz)), hce, hO.vm, hcl, hWs, hall, hf⟩⟩
  refine st1 _ ?_
  show Steps p.tables e below (T1.setTop { method := m, pc := pc + 3, locals := ls, stack := .ref T.heap.size :: rest, locked := none }) _
  jvm_step X₁.here [X₁.here.top, hexec, d3', Value.category]
  exact X₁.ldcStringW hexec (own := own) (text := text) (index := is) (a := sa) hown' hstr'.1 hstr'.2
    (g := { method := m, pc := pc + 4, locals := ls, stack := .ref T.heap.size :: .ref T.heap.size :: rest, locked := none }) rfl d4' _ hsteps
end Ends
section Bodies
variable {l : Launch}
theorem vx_ofW {y : MethodName} {ws ws' : List Cond} {rm : Room} {Pc : Array Value → State → Prop} {Qc : Array Value → State → Outcome → State → Prop} {XC : String → State → State → Prop} {mc ms : Nat} {free : Addr → Prop} {cc : ByteArray} {maxL : Nat} {ret : Option FieldType}
    (hy : plainName y.cls = true) (hw : ws = Cond.code y cc maxL ret :: ws')
    (body : ∀ p e s m args below meth c s₁, BodyLoose p l y (headSpec ws rm) cc maxL ret e s m args below meth c s₁ → c.maxLocals = maxL → (∀ x ∈ c.exceptionTable.toList, False) → Pc args s →
      W p l e (headSpec ws rm).room s m args below meth c s.heap [] 0 0 (vx_MQ below Qc XC args s mc ms free) (entryFrame m args maxL)) : vx_Met l y ws rm Pc Qc XC mc ms free := by
  refine MetFree.of_bodyS (code := cc) (maxLocals := maxL) (ret := ret) hy ?_ ?_
  · intro args s m h hn
    obtain ⟨meth, c, h1, h2, h3, h4, h5, h6, -, -⟩ := Cond.code_spec hn (atoms_spec (ws := ws) h _ (by rw [hw]; exact List.mem_cons_self))
    exact ⟨meth, c, h1, h2, h3, h4, h5, h6⟩
  · intro p e s m args below meth c s₁ B hml hP _
    have hh0 : s₁.heap = s.heap := by rw [B.state]; rfl
    have ht : ∀ x ∈ c.exceptionTable.toList, False := by
      obtain ⟨meth9, c9, h1, h2, -, -, -, -, h7, -⟩ := Cond.code_spec B.named (atoms_spec (ws := ws) B.pre _ (by rw [hw]; exact List.mem_cons_self))
      cases Option.some.inj (h1.symm.trans B.method)
      cases Option.some.inj (h2.symm.trans (Stand.of_body B).code)
      intro x hx
      rw [Array.isEmpty_iff.mp h7] at hx
      cases hx
    obtain ⟨t, a1, o, b1, b2, b3⟩ := body p e s m args below meth c s₁ B hml ht hP s₁ hh0 (Stand.of_body B)
    exact ⟨t, o, a1, b1, b2, b3⟩
/-- the table of a body with handlers -/
theorem vx_table {p : Program} {x y : MethodName} {S : Spec} {cc bytes : ByteArray} {maxL maxL' : Nat} {ret ret' : Option FieldType} {e : Env} {s s₁ : State} {m : MethodId} {args : Array Value} {below : List Frame} {meth : Method} {c : Code} {hh : List (Nat × Nat × Nat × Nat)}
    (B : BodyLoose p l y S cc maxL ret e s m args below meth c s₁) (h : (Cond.codeWith y bytes maxL' ret' hh).before args s = true) : c.exceptionTable.toList = tableOf hh := by
  obtain ⟨m9, meth9, c9, hn9, h1, h2, -, -, h6, -⟩ := Cond.codeWith_spec h
  cases Option.some.inj (hn9.symm.trans B.named)
  cases Option.some.inj (h1.symm.trans B.method)
  cases Option.some.inj (h2.symm.trans (Stand.of_body B).code)
  rw [← h6, table_eq]
end Bodies
end VXA
/-! ===== END ===== -/
/-! ===== BEGIN a static call of a method with an exception table ===== -/
section VXS
variable {p : Program} {l : Launch} {e : Env} {R : Room} {s : State} {m : MethodId} {args : Array Value} {below : List Frame} {meth : Method} {c : Code} {T : State} {H : Heap} {locs : List Loc} {cells slots : Nat}
abbrev vx_CSW (R : Room) (s : State) (args : Array Value) (own : String) (index : Nat) (y : MethodName) (bytes : ByteArray) (maxL : Nat) (ret : Option FieldType) (hh : List (Nat × Nat × Nat × Nat)) (ws : List Cond) (rm : Room) (mc ms n : Nat) : Prop :=
  (rm.cells = mc ∧ rm.slots = ms ∧ rm.frames + 1 ≤ R.frames ∧ 8 + (maxL + 11) + rm.locals ≤ R.locals ∧ (∀ w ∈ ws, ∀ (a' : Array Value) (U : State), s.WarmedH U.vm → w.before a' U = true) ∧ Cond.codeWith y bytes maxL ret hh ∈ ws) ∧
  (Cond.codeWith y bytes maxL ret hh).before args s = true ∧ (Cond.initialized y.cls).before args s = true ∧ (y.cls ≠ "java/lang/invoke/MethodHandle" ∧ y.cls ≠ "java/lang/invoke/VarHandle") ∧
  (∀ sig, parseMethodDescriptor y.desc = some sig → n = sig.parameters.length) ∧ (Cond.methodLink own index y).before args s = true ∧ (Cond.static y).before args s = true
theorem vx_cwSW {own : String} {index maxL mc ms : Nat} {y : MethodName} {bytes : ByteArray} {ret : Option FieldType} {hh : List (Nat × Nat × Nat × Nat)} {Ts ws ws' : List Cond} {rm : Room} (n : Nat) (ht : ∀ w ∈ Ts, w.before args s = true) (hT : GoodIn Ts (va_wsS own index y ws)) (hw : ws = Cond.codeWith y bytes maxL ret hh :: ws') (hrc : rm.cells = mc) (hrs : rm.slots = ms)
    (hd : y.cls ≠ "java/lang/invoke/MethodHandle" ∧ y.cls ≠ "java/lang/invoke/VarHandle" ∧ (parseMethodDescriptor y.desc).map (fun d => d.parameters.length) = some n) (hR : rm.frames + 1 ≤ R.frames ∧ 8 + (maxL + 11) + rm.locals ≤ R.locals) :
    vx_CSW R s args own index y bytes maxL ret hh ws rm mc ms n := by
  have ok : ∀ w ∈ va_wsS own index y ws, w.before args s = true := fun w h => ht w (hT w h).1
  have hG : GoodIn Ts ws := fun w h => hT w (by unfold va_wsS; exact List.mem_append_right _ h)
  have hc : Cond.codeWith y bytes maxL ret hh ∈ ws := by rw [hw]; exact List.mem_cons_self
  refine ⟨⟨hrc, hrs, hR.1, hR.2, pay_in ht hG, hc⟩, ht _ (hG _ hc).1, ok _ (by simp [va_wsS]), ⟨hd.1, hd.2.1⟩, fun sig h => ?_, ok _ (by simp [va_wsS]), ok _ (by simp [va_wsS])⟩
  have h2 := hd.2.2
  rw [h] at h2
  exact (Option.some.inj h2).symm
theorem vx_callSW (X : Stand p l e R s m args below meth c T locs cells slots) (hexec : p.tables.exec = Jvm.exec) {own : String} {index : Nat} {y : MethodName} {bytes : ByteArray} {maxL : Nat} {ret : Option FieldType} {hh : List (Nat × Nat × Nat × Nat)}
    (hown : s.vm.findClass own = some m.cls) (hlink : (Cond.methodLink own index y).before args s = true) (hstat : (Cond.static y).before args s = true) (hinit : (Cond.initialized y.cls).before args s = true)
    (hcode : (Cond.codeWith y bytes maxL ret hh).before args s = true) (hy : y.cls ≠ "java/lang/invoke/MethodHandle" ∧ y.cls ≠ "java/lang/invoke/VarHandle")
    {W9 : Nat} {Pre : Pt → Array Value → Prop} {Post : Pt → Array Value → Option Value → Pt → Prop} (hK : Back l R p e below s args y 3 W9 Pre Post)
    {g : JFrame} (hg : g.method = m) (hsize : g.locals.size = c.maxLocals) {argsL rest : List Value} (hlen : ∀ sig, parseMethodDescriptor y.desc = some sig → argsL.length = sig.parameters.length)
    (hstack : g.stack = argsL.reverse ++ rest) (hW : 2 * g.monitorRoom + (rest.map fun v => v.category).sum ≤ W9) (hdg : decode c.code g.pc = .ok (.invokestatic index, 3))
    (hpre : ∀ vm₁, s.WarmedH vm₁ → Pre ⟨T.setVm vm₁, locs, cells, slots⟩ argsL.toArray) :
    ∃ (v : Option Value) (vm₁ : Vm) (B : Pt), s.WarmedH vm₁ ∧ Stand p l e R s m args below meth c B.U B.locs B.cells B.slots ∧ Post ⟨T.setVm vm₁, locs, cells, slots⟩ argsL.toArray v B ∧
      ∀ target, Steps p.tables e below (B.U.setTop { g with pc := g.pc + 3, stack := v.toList ++ rest }) target → Steps p.tables e below (T.setTop g) target := by
  obtain ⟨mk, methM, cM, hnamed, hmethM, -, -, -, -, -, -, hsigM⟩ := Cond.codeWith_spec hcode
  have hstatic : methM.isStatic = true := Cond.static_spec hnamed hmethM hstat
  obtain ⟨kP, hkP, -⟩ := className_of_methodNamed hnamed
  have hinitP : kP.init = .initialized := Cond.initialized_spec (findClass_of_methodNamed hnamed) hkP hinit
  obtain ⟨vm₁, X₁, hstep₁⟩ := X.invokestatic hexec hown hlink hnamed hmethM hstatic hkP hinitP hy (g := g) hg (argsL := argsL) (rest := rest) (hlen _ hsigM) hstack hdg
  obtain ⟨v, B, X', hpost, hsteps⟩ := hK m meth c ⟨T.setVm vm₁, locs, cells, slots⟩ { g with stack := rest } (.invokestatic index) mk argsL.toArray X₁ hg hsize hdg hW (X₁.named hnamed) (hpre vm₁ X₁.warmed)
  exact ⟨v, vm₁, B, X₁.warmed, X', hpost, fun target h => hstep₁ _ fun acts => by rw [doInvoke_state]; exact hsteps.trans h⟩
theorem vx_runSW {y : MethodName} {bytes cc : ByteArray} {maxL nL mc ms n index : Nat} {ret : Option FieldType} {hh : List (Nat × Nat × Nat × Nat)} {ws : List Cond} {rm : Room} {Pc : Array Value → State → Prop} {Qc : Array Value → State → Outcome → State → Prop} {free : Addr → Prop} {Ts : List Cond} {own : String} {As rest : List Value} {g : JFrame}
    (S : CallFix p m c cc nL s args Ts own) (hM : Met l y ws rm Pc Qc mc ms free) (cw : vx_CSW R s args own index y bytes maxL ret hh ws rm mc ms n) (hp : PreS s H Pc As)
    (hg : g.method = m) (hn : As.length = n) (hsize : g.locals.size = nL) (hstack : g.stack = As.reverse ++ rest) (hW : 2 * g.monitorRoom + (rest.map fun v => v.category).sum ≤ 8) (hdg : decode cc g.pc = .ok (.invokestatic index, 3)) (hf : cells + mc ≤ R.cells ∧ slots + ms ≤ R.slots) :
    va_Run p l e R s m args below meth c H locs cells slots mc ms g rest (Qc As.toArray) (free) := by
  obtain ⟨⟨hrc, hrs, hfr, hlo, hws, hcw⟩, hcode, hini, hy, hlen, hl, hstt⟩ := cw
  have hK : Back l R p e below s args y 3 8 (PreOf R mc ms Pc) (PostOf Qc mc ms free) := va_backW (hh := hh) (bytes := bytes) (maxL := maxL) (ret := ret) hM hp.1 hrc hrs hfr hlo hws hcw (fun a' U hW => word_at hW (Or.inl (by first | rfl | simp [Cond.onTables, Cond.keeps, Cond.steady])) hini)
  obtain ⟨hx, hb, hml, ho, -⟩ := S
  intro T hT X
  obtain ⟨v, vm₁, ⟨U', l2, c2, s2⟩, hW₁, X', ⟨g', mk, t, L, e1, e2, hq, h1, hL, h2, h3⟩, st⟩ := vx_callSW X hx (hh := hh) (bytes := bytes) (maxL := maxL) (ret := ret) ho hl hstt hini hcode hy hK hg (hsize.trans hml.symm) (argsL := As) (rest := rest) (fun sig h => hn.trans (hlen sig h)) hstack hW (by rw [hb]; exact hdg)
    (fun vm₁ hW₁ => ⟨hf.1, hf.2, hp.2 (T.setVm vm₁) hT hW₁⟩)
  dsimp only [Pt.U, Pt.locs, Pt.cells, Pt.slots] at X' e1 e2 h1 h2 h3 st
  subst h1; subst h2; subst h3
  exact ⟨v, (T.setVm vm₁).calling g' mk As.toArray, t, U', L, hT, X', hL, e1, e2, hq, st⟩
/-- not caught here, past rows that name other classes: it goes on to the caller -/
theorem vx_outP {p : Program} {l : Launch} {e : Env} {R : Room} {s : State} {m : MethodId} {args : Array Value} {below : List Frame} {meth : Method} {c : Code} {H : Heap} {locs : List Loc} {cells slots : Nat} {free : Addr → Prop} {ls : Array Slot} {rest : List Value} {Qc : Array Value → State → Outcome → State → Prop} {XC : String → State → State → Prop}
    {pc : Nat} {own E : String} {ce : Cell} {q : Addr} {mc ms : Nat} (hown : s.vm.findClass own = some m.cls) (hlocks : meth.locks = false)
    (hpass : ∀ z ∈ c.exceptionTable.toList, covers z pc = false ∨ (z.catchType ≠ 0 ∧ ∃ nm : String, (Cond.classLink own z.catchType nm).before args s = true ∧ va_Nc E nm s)) (hcell : H[q]? = some ce) (hv : ce.vm = .none) (hcl : s.vm.findClass E = some ce.cls)
    (hx : ∀ t : State, t.heap = H → s.vm.Alike t.vm → XC E s t) (hf : ∀ z ∈ locs, free z.base) (hc : cells ≤ mc) (hs : slots ≤ ms) :
    vx_W p l e R s m args below meth c H locs cells slots (vx_MQ below Qc XC args s mc ms free) (F0 m pc ls rest) q := by
  intro T hT X
  have hpl : e.platform.magicAccessors = ({} : Platform).magicAccessors := by rw [X.admits.platform]
  obtain ⟨vm', hW', X', st⟩ := X.outThrough hlocks q (g := F0 m pc ls rest) rfl rfl rfl (cell := ce) (by rw [hT]; exact hcell) (by rw [hv]; rfl)
    (by obtain ⟨k9, h9, -⟩ := Vm.findClass_spec hcl; exact ⟨k9, h9⟩) (fun z hz => by
      rcases hpass z hz with h | ⟨hz0, nm, hl1, hn1⟩
      · exact Or.inl h
      · obtain ⟨c6, hc6, hcl6⟩ := Cond.classLink_spec hown hl1 e.platform hpl
        obtain ⟨a8, b8, h1, h2, h3⟩ := hn1
        cases Option.some.inj (h1.symm.trans hcl)
        cases Option.some.inj (h2.symm.trans hc6)
        exact Or.inr ⟨hz0, _, hcl6, h3⟩)
  obtain ⟨g₀, hfr⟩ := X'.frames_eq
  have hcell9 : ((T.setVm vm').setFrames (.throwing q :: below)).heap[q]? = some ce := by
    show T.heap[q]? = some ce
    rw [hT]; exact hcell
  have hend : Ended ((T.setVm vm').setFrames (.throwing q :: below)) below (.threw q) := State.frames_setFrames _ (State.cur_lt_of_frames hfr)
  refine ⟨(T.setVm vm').setFrames (.throwing q :: below), ?_, .threw q, X'.here.running, hend, Or.inr ⟨q, rfl, E, ce, locs, hx _ hT (X'.ends _).1.alike, hcell9, hv, hcl, (X'.ends _).1, (X'.ends _).2.mono hc hs, hf⟩⟩
  rw [X.pushThrowing_eq]
  exact st
/-- a thing of a world lies in the heap -/
theorem vx_lt {D : va_G} {cl : List vw_C} {ws : va_W} {H1 : Heap} (h : va_P D cl ws H1) {k : Nat} {q : Nat × va_E} (hk : ws[k]? = some q) : q.1 < H1.size := (h k q hk).lt
end VXS
/-! ===== END ===== -/
/-! ===== BEGIN methods with a table of their own: called by a name, returning or throwing ===== -/
section VXH
/-! vx_backW, vx_callVX, vx_callSX, vx_callVW, vx_runVW, vx_runVX, vx_runSX, vx_ofWH follow the same proofs as their sisters above (Free/Laws.lean, Shelf42/LK1.lean); vx_outP calls Shelf42/NT130.lean (outThrough). -/
section
variable {l : Launch} {R : Room} {p : Program} {e : Env} {below : List Frame} {s : State} {sargs : Array Value} {y : MethodName} {len W9 : Nat}
theorem vx_backW {ws : List Cond} {rm : Room} {Pc : Array Value → State → Prop} {Qc : Array Value → State → Outcome → State → Prop} {XC : String → State → State → Prop} {mc ms : Nat} {free : Addr → Prop} {bytes : ByteArray} {maxL : Nat} {ret : Option FieldType} {hh : List (Nat × Nat × Nat × Nat)}
    (hM : vx_Met l y ws rm Pc Qc XC mc ms free) (hblind : FrameBlind Pc) (hrc : rm.cells = mc) (hrs : rm.slots = ms)
    (hframes : rm.frames + 1 ≤ R.frames) (hlocals : W9 + (maxL + 11) + rm.locals ≤ R.locals)
    (hws : ∀ w ∈ ws, ∀ a' U, s.WarmedH U.vm → w.before a' U = true) (hcode : Cond.codeWith y bytes maxL ret hh ∈ ws) (hinit : ∀ a' U, s.WarmedH U.vm → (Cond.initialized y.cls).before a' U = true) :
    vx_Back l R p e below s sargs y len W9 (PreOf R mc ms Pc) (PostOf Qc mc ms free) (vx_Post XC mc ms free) := by
  intro m meth c A g ig mk a X hg hsize hdg hW hn hp
  have h1 : (headSpec ws rm).pre.before a A.U = true := atoms_intro fun w hw => hws w hw _ _ X.warmed
  have h2 : (Cond.codeWith y bytes maxL ret hh).before a A.U = true := hws _ hcode _ _ X.warmed
  have h3 : (Cond.initialized y.cls).before a A.U = true := hinit _ _ X.warmed
  have h4 : A.cells + (headSpec ws rm).room.cells ≤ R.cells := by rw [show (headSpec ws rm).room.cells = mc from hrc]; exact hp.1
  have h5 : A.slots + (headSpec ws rm).room.slots ≤ R.slots := by rw [show (headSpec ws rm).room.slots = ms from hrs]; exact hp.2.1
  have hPc : Pc a (A.U.calling g mk a) := hblind _ _ _ _ hp.2.2
  obtain ⟨U, Ls, c0, s0⟩ := A
  dsimp only [Pt.U, Pt.locs, Pt.cells, Pt.slots] at h1 h2 h3 h4 h5 X hn hPc ⊢
  obtain ⟨m9, methY, cY, hn9, hmY, hcY, -, hlY, -⟩ := Cond.codeWith_spec h2
  cases Option.some.inj (hn9.symm.trans hn)
  obtain ⟨kY, hkY, -⟩ := className_of_methodNamed hn
  have hinitY : kY.init = .initialized := Cond.initialized_spec (findClass_of_methodNamed hn) hkY h3
  have h : At U g.method c below := by rw [hg]; exact X.here
  have hlocals9 : W9 + (maxL + 11) + (headSpec ws rm).room.locals ≤ R.locals := hlocals
  have happ : (headSpec ws rm).appliesLoose y e.platform (U.calling g mk a) = true :=
    Spec.appliesLoose_calling (g := g) h hdg hn hkY hinitY
      (X.room_calling (g := g) (R' := (headSpec ws rm).room) hsize hmY hcY hframes (by rw [hlY]; omega) h4 h5) h1
  obtain ⟨mid, hmid⟩ := h.above
  have hfr : (U.setTop g).frames = (.java g :: mid) ++ below := by rw [State.frames_setTop' g h.top, hmid]; rfl
  obtain ⟨o, s₂, hsteps, -, hend, hq⟩ := Steps.callFree hM p X.admits X.cas X.clock (acts := []) hfr happ hPc trivial
  have hq' : vx_Q Qc XC mc ms free a (U.calling g mk a) o s₂ := hq
  rw [State.frames_setTop' g h.top] at hend
  obtain ⟨g₀, hg0⟩ := Option.isSome_iff_exists.mp h.top
  obtain ⟨r, hr⟩ := State.topJava?_eq_some.mp hg0
  have hr' : (({ U with heap := s₂.heap, slotsUsed := s₂.slotsUsed } : State).setVm s₂.vm).frames = .java g₀ :: r := hr
  rcases hq' with ⟨hqc, L, hfe, hL⟩ | ⟨q, rfl, E, ce, L, hx, hce, hcv, hcl, hW₂, hsm, hL⟩
  · obtain ⟨⟨v, rfl⟩, hW₂, e2, q2, q3, q4, q5, q6⟩ := id hfe
    have e3 : s₂ = ({ (U.calling g mk a).setFrames s₂.frames with heap := s₂.heap, slotsUsed := s₂.slotsUsed } : State).setVm s₂.vm := by
      have : s₂ = ({ s₂ with vm := (U.calling g mk a).vm } : State).setVm s₂.vm := rfl
      rw [e2] at this
      exact this
    obtain ⟨c₂, i₂, len₂, hc₂, hd₂, hf₂⟩ := hend
    have hW' : U.WarmedH s₂.vm := hW₂
    have hcc : c₂ = c := by
      have h1 : s₂.code? g.method = U.code? g.method := by
        rw [State.code?_eq, State.code?_eq, hW'.alike.method?]
      exact Option.some.inj (hc₂.symm.trans (h1.trans h.code))
    subst hcc
    have hlen : len₂ = len := by rw [hdg] at hd₂; cases hd₂; rfl
    subst hlen
    have hs₂ : s₂ = (({ U with heap := s₂.heap, slotsUsed := s₂.slotsUsed } : State).setVm s₂.vm).setTop { g with pc := g.pc + len₂, stack := v.toList ++ g.stack } := by
      refine e3.trans ?_
      rw [hf₂, State.calling_eq h.top, State.setFrames_setFrames, State.setTop_of_frames _ hr', hr]
      rfl
    have hsame : U.sameButNew ({ U with heap := s₂.heap, slotsUsed := s₂.slotsUsed } : State) L mc ms := by
      refine ⟨?_, q2, q3, q4, q5, q6⟩
      obtain ⟨t, ht, -⟩ := State.frames_cons hr
      show ({ U with heap := s₂.heap, slotsUsed := s₂.slotsUsed } : State) = { U.setFrames U.frames with heap := s₂.heap, slotsUsed := s₂.slotsUsed }
      rw [State.setFrames_self ht]
    subst hg
    refine Or.inl ⟨v, ⟨(({ U with heap := s₂.heap, slotsUsed := s₂.slotsUsed } : State).setVm s₂.vm), Ls ++ L, c0 + mc, s0 + ms⟩,
      ⟨X.admits, X.cas, X.clock, X.frames, X.room, X.hears, X.method, X.code, (X.here.setHeapUsed s₂.heap s₂.slotsUsed).setVm hW'.alike, X.tail, State.WarmedH.trans X.warmed hW', X.limits, X.bytes, X.same.trans (hsame.setVm s.vm)⟩,
      ⟨g, mk, s₂, L, rfl, rfl, hqc, rfl, hL, rfl, rfl⟩, ?_⟩
    show Steps p.tables e below _ ((({ U with heap := s₂.heap, slotsUsed := s₂.slotsUsed } : State).setVm s₂.vm).setTop { g with pc := g.pc + len₂, stack := v.toList ++ g.stack })
    rw [← hs₂]
    exact hsteps
  · obtain ⟨e2, q2, q3, q4, q5, q6⟩ := id hsm
    have e3 : s₂ = ({ (U.calling g mk a).setFrames s₂.frames with heap := s₂.heap, slotsUsed := s₂.slotsUsed } : State).setVm s₂.vm := by
      have : s₂ = ({ s₂ with vm := (U.calling g mk a).vm } : State).setVm s₂.vm := rfl
      rw [e2] at this
      exact this
    have hf₂ : s₂.frames = .throwing q :: .java g :: U.frames.tail := hend
    have hW' : U.WarmedH s₂.vm := hW₂
    have hs₂ : s₂ = ((({ U with heap := s₂.heap, slotsUsed := s₂.slotsUsed } : State).setVm s₂.vm).setTop g).pushFrame (.throwing q) := by
      refine e3.trans ?_
      rw [hf₂, State.calling_eq h.top, State.setFrames_setFrames, State.pushFrame, State.frames_setTop _ hr', State.setTop_of_frames _ hr', State.setFrames_setFrames, hr]
      rfl
    have hsame : U.sameButNew ({ U with heap := s₂.heap, slotsUsed := s₂.slotsUsed } : State) L mc ms := by
      refine ⟨?_, q2, q3, q4, q5, q6⟩
      obtain ⟨t, ht, -⟩ := State.frames_cons hr
      show ({ U with heap := s₂.heap, slotsUsed := s₂.slotsUsed } : State) = { U.setFrames U.frames with heap := s₂.heap, slotsUsed := s₂.slotsUsed }
      rw [State.setFrames_self ht]
    subst hg
    refine Or.inr ⟨q, ⟨(({ U with heap := s₂.heap, slotsUsed := s₂.slotsUsed } : State).setVm s₂.vm), Ls ++ L, c0 + mc, s0 + ms⟩,
      ⟨X.admits, X.cas, X.clock, X.frames, X.room, X.hears, X.method, X.code, (X.here.setHeapUsed s₂.heap s₂.slotsUsed).setVm hW'.alike, X.tail, State.WarmedH.trans X.warmed hW', X.limits, X.bytes, X.same.trans (hsame.setVm s.vm)⟩,
      ⟨g, mk, s₂, L, E, ce, rfl, rfl, hx, hce, hcv, hcl, rfl, hL, rfl, rfl⟩, ?_⟩
    show Steps p.tables e below _ (((({ U with heap := s₂.heap, slotsUsed := s₂.slotsUsed } : State).setVm s₂.vm).setTop g).pushFrame (.throwing q))
    rw [← hs₂]
    exact hsteps
end
variable {p : Program} {l : Launch} {e : Env} {R : Room} {s : State} {m : MethodId} {args : Array Value} {below : List Frame} {meth : Method} {c : Code} {T : State} {H : Heap} {locs : List Loc} {cells slots : Nat}
theorem vx_callVX (X : Stand p l e R s m args below meth c T locs cells slots) (hexec : p.tables.exec = Jvm.exec) {own C : String} {index : Nat} {y : MethodName} {bytes : ByteArray} {maxL : Nat} {ret : Option FieldType} {hh : List (Nat × Nat × Nat × Nat)}
    (hown : s.vm.findClass own = some m.cls) (hlink : (Cond.methodLink own index y).before args s = true) (hinst : (Cond.instanceMethod y).before args s = true) (hsel : (Cond.selects C y y).before args s = true)
    (hcode : (Cond.codeWith y bytes maxL ret hh).before args s = true) (hy : y.cls ≠ "java/lang/invoke/MethodHandle" ∧ y.cls ≠ "java/lang/invoke/VarHandle")
    {W9 : Nat} {Pre : Pt → Array Value → Prop} {Post : Pt → Array Value → Option Value → Pt → Prop} {PostX : Pt → Array Value → Addr → Pt → Prop} (hK : vx_Back l R p e below s args y 3 W9 Pre Post PostX)
    {b : Addr} {cellB : Cell} (hcell : T.heap[b]? = some cellB) (hobj : cellB.vm.isStatics = false) (hcls : s.vm.findClass C = some cellB.cls)
    {g : JFrame} (hg : g.method = m) (hsize : g.locals.size = c.maxLocals) {argsL rest : List Value} (hlen : ∀ sig, parseMethodDescriptor y.desc = some sig → argsL.length = sig.parameters.length)
    (hstack : g.stack = argsL.reverse ++ .ref b :: rest) (hW : 2 * g.monitorRoom + (rest.map fun v => v.category).sum ≤ W9) (hdg : decode c.code g.pc = .ok (.invokevirtual index, 3))
    (hpre : ∀ vm₁, s.WarmedH vm₁ → Pre ⟨T.setVm vm₁, locs, cells, slots⟩ (Value.ref b :: argsL).toArray) :
    (∃ (v : Option Value) (vm₁ : Vm) (B : Pt), s.WarmedH vm₁ ∧ Stand p l e R s m args below meth c B.U B.locs B.cells B.slots ∧ Post ⟨T.setVm vm₁, locs, cells, slots⟩ (Value.ref b :: argsL).toArray v B ∧
      ∀ target, Steps p.tables e below (B.U.setTop { g with pc := g.pc + 3, stack := v.toList ++ rest }) target → Steps p.tables e below (T.setTop g) target) ∨
    (∃ (q : Addr) (vm₁ : Vm) (B : Pt), s.WarmedH vm₁ ∧ Stand p l e R s m args below meth c B.U B.locs B.cells B.slots ∧ PostX ⟨T.setVm vm₁, locs, cells, slots⟩ (Value.ref b :: argsL).toArray q B ∧
      Steps p.tables e below (T.setTop g) ((B.U.setTop { g with stack := rest }).pushFrame (.throwing q))) := by
  obtain ⟨mk, methM, hnamed, hmethM, hstM, habM⟩ := Cond.instanceMethod_spec hinst
  obtain ⟨m8, methM', cM, hn8, hmethM', -, -, -, -, -, -, hsigM⟩ := Cond.codeWith_spec hcode
  cases Option.some.inj (hn8.symm.trans hnamed)
  cases hmethM.symm.trans hmethM'
  obtain ⟨c2, r2, m2, q1, q2, q3, q4, kP, hkP, hkPi⟩ := Cond.selects_spec hsel
  cases hcls.symm.trans q1
  cases (State.methodFound?_of_named hnamed hy).symm.trans q2
  cases hnamed.symm.trans q3
  have hselP : selectMethod e.platform s.vm cellB.cls mk = .method mk := by rw [Launch.admits_selectMethod X.admits]; exact q4
  obtain ⟨vm₁, X₁, hstep₁⟩ := X.invokevirtual hexec hown hlink hnamed hmethM hstM hkP hkPi hy (a := b) (cell := cellB) hcell
    (fun z h => by rw [h] at hobj; cases hobj) hselP hmethM habM hkP hkPi (g := g) hg (argsL := argsL) (rest := rest) (hlen _ hsigM) hstack hdg
  rcases hK m meth c ⟨T.setVm vm₁, locs, cells, slots⟩ { g with stack := rest } (.invokevirtual index) mk (Value.ref b :: argsL).toArray X₁ hg hsize hdg hW (X₁.named hnamed) (hpre vm₁ X₁.warmed) with ⟨v, B, X', hpost, hsteps⟩ | ⟨q, B, X', hpost, hsteps⟩
  · exact Or.inl ⟨v, vm₁, B, X₁.warmed, X', hpost, fun target h => hstep₁ _ fun acts => by rw [doInvoke_state]; exact hsteps.trans h⟩
  · exact Or.inr ⟨q, vm₁, B, X₁.warmed, X', hpost, hstep₁ _ fun acts => by rw [doInvoke_state]; exact hsteps⟩
theorem vx_callSX (X : Stand p l e R s m args below meth c T locs cells slots) (hexec : p.tables.exec = Jvm.exec) {own : String} {index : Nat} {y : MethodName} {bytes : ByteArray} {maxL : Nat} {ret : Option FieldType} {hh : List (Nat × Nat × Nat × Nat)}
    (hown : s.vm.findClass own = some m.cls) (hlink : (Cond.methodLink own index y).before args s = true) (hstat : (Cond.static y).before args s = true) (hinit : (Cond.initialized y.cls).before args s = true)
    (hcode : (Cond.codeWith y bytes maxL ret hh).before args s = true) (hy : y.cls ≠ "java/lang/invoke/MethodHandle" ∧ y.cls ≠ "java/lang/invoke/VarHandle")
    {W9 : Nat} {Pre : Pt → Array Value → Prop} {Post : Pt → Array Value → Option Value → Pt → Prop} {PostX : Pt → Array Value → Addr → Pt → Prop} (hK : vx_Back l R p e below s args y 3 W9 Pre Post PostX)
    {g : JFrame} (hg : g.method = m) (hsize : g.locals.size = c.maxLocals) {argsL rest : List Value} (hlen : ∀ sig, parseMethodDescriptor y.desc = some sig → argsL.length = sig.parameters.length)
    (hstack : g.stack = argsL.reverse ++ rest) (hW : 2 * g.monitorRoom + (rest.map fun v => v.category).sum ≤ W9) (hdg : decode c.code g.pc = .ok (.invokestatic index, 3))
    (hpre : ∀ vm₁, s.WarmedH vm₁ → Pre ⟨T.setVm vm₁, locs, cells, slots⟩ argsL.toArray) :
    (∃ (v : Option Value) (vm₁ : Vm) (B : Pt), s.WarmedH vm₁ ∧ Stand p l e R s m args below meth c B.U B.locs B.cells B.slots ∧ Post ⟨T.setVm vm₁, locs, cells, slots⟩ argsL.toArray v B ∧
      ∀ target, Steps p.tables e below (B.U.setTop { g with pc := g.pc + 3, stack := v.toList ++ rest }) target → Steps p.tables e below (T.setTop g) target) ∨
    (∃ (q : Addr) (vm₁ : Vm) (B : Pt), s.WarmedH vm₁ ∧ Stand p l e R s m args below meth c B.U B.locs B.cells B.slots ∧ PostX ⟨T.setVm vm₁, locs, cells, slots⟩ argsL.toArray q B ∧
      Steps p.tables e below (T.setTop g) ((B.U.setTop { g with stack := rest }).pushFrame (.throwing q))) := by
  obtain ⟨mk, methM, cM, hnamed, hmethM, -, -, -, -, -, -, hsigM⟩ := Cond.codeWith_spec hcode
  have hstatic : methM.isStatic = true := Cond.static_spec hnamed hmethM hstat
  obtain ⟨kP, hkP, -⟩ := className_of_methodNamed hnamed
  have hinitP : kP.init = .initialized := Cond.initialized_spec (findClass_of_methodNamed hnamed) hkP hinit
  obtain ⟨vm₁, X₁, hstep₁⟩ := X.invokestatic hexec hown hlink hnamed hmethM hstatic hkP hinitP hy (g := g) hg (argsL := argsL) (rest := rest) (hlen _ hsigM) hstack hdg
  rcases hK m meth c ⟨T.setVm vm₁, locs, cells, slots⟩ { g with stack := rest } (.invokestatic index) mk argsL.toArray X₁ hg hsize hdg hW (X₁.named hnamed) (hpre vm₁ X₁.warmed) with ⟨v, B, X', hpost, hsteps⟩ | ⟨q, B, X', hpost, hsteps⟩
  · exact Or.inl ⟨v, vm₁, B, X₁.warmed, X', hpost, fun target h => hstep₁ _ fun acts => by rw [doInvoke_state]; exact hsteps.trans h⟩
  · exact Or.inr ⟨q, vm₁, B, X₁.warmed, X', hpost, hstep₁ _ fun acts => by rw [doInvoke_state]; exact hsteps⟩
theorem vx_callVW (X : Stand p l e R s m args below meth c T locs cells slots) (hexec : p.tables.exec = Jvm.exec) {own C : String} {index : Nat} {y : MethodName} {bytes : ByteArray} {maxL : Nat} {ret : Option FieldType} {hh : List (Nat × Nat × Nat × Nat)}
    (hown : s.vm.findClass own = some m.cls) (hlink : (Cond.methodLink own index y).before args s = true) (hinst : (Cond.instanceMethod y).before args s = true) (hsel : (Cond.selects C y y).before args s = true)
    (hcode : (Cond.codeWith y bytes maxL ret hh).before args s = true) (hy : y.cls ≠ "java/lang/invoke/MethodHandle" ∧ y.cls ≠ "java/lang/invoke/VarHandle")
    {W9 : Nat} {Pre : Pt → Array Value → Prop} {Post : Pt → Array Value → Option Value → Pt → Prop} (hK : Back l R p e below s args y 3 W9 Pre Post)
    {b : Addr} {cellB : Cell} (hcell : T.heap[b]? = some cellB) (hobj : cellB.vm.isStatics = false) (hcls : s.vm.findClass C = some cellB.cls)
    {g : JFrame} (hg : g.method = m) (hsize : g.locals.size = c.maxLocals) {argsL rest : List Value} (hlen : ∀ sig, parseMethodDescriptor y.desc = some sig → argsL.length = sig.parameters.length)
    (hstack : g.stack = argsL.reverse ++ .ref b :: rest) (hW : 2 * g.monitorRoom + (rest.map fun v => v.category).sum ≤ W9) (hdg : decode c.code g.pc = .ok (.invokevirtual index, 3))
    (hpre : ∀ vm₁, s.WarmedH vm₁ → Pre ⟨T.setVm vm₁, locs, cells, slots⟩ (Value.ref b :: argsL).toArray) :
    ∃ (v : Option Value) (vm₁ : Vm) (B : Pt), s.WarmedH vm₁ ∧ Stand p l e R s m args below meth c B.U B.locs B.cells B.slots ∧ Post ⟨T.setVm vm₁, locs, cells, slots⟩ (Value.ref b :: argsL).toArray v B ∧
      ∀ target, Steps p.tables e below (B.U.setTop { g with pc := g.pc + 3, stack := v.toList ++ rest }) target → Steps p.tables e below (T.setTop g) target := by
  obtain ⟨mk, methM, hnamed, hmethM, hstM, habM⟩ := Cond.instanceMethod_spec hinst
  obtain ⟨m8, methM', cM, hn8, hmethM', -, -, -, -, -, -, hsigM⟩ := Cond.codeWith_spec hcode
  cases Option.some.inj (hn8.symm.trans hnamed)
  cases hmethM.symm.trans hmethM'
  obtain ⟨c2, r2, m2, q1, q2, q3, q4, kP, hkP, hkPi⟩ := Cond.selects_spec hsel
  cases hcls.symm.trans q1
  cases (State.methodFound?_of_named hnamed hy).symm.trans q2
  cases hnamed.symm.trans q3
  have hselP : selectMethod e.platform s.vm cellB.cls mk = .method mk := by rw [Launch.admits_selectMethod X.admits]; exact q4
  obtain ⟨vm₁, X₁, hstep₁⟩ := X.invokevirtual hexec hown hlink hnamed hmethM hstM hkP hkPi hy (a := b) (cell := cellB) hcell
    (fun z h => by rw [h] at hobj; cases hobj) hselP hmethM habM hkP hkPi (g := g) hg (argsL := argsL) (rest := rest) (hlen _ hsigM) hstack hdg
  obtain ⟨v, B, X', hpost, hsteps⟩ := hK m meth c ⟨T.setVm vm₁, locs, cells, slots⟩ { g with stack := rest } (.invokevirtual index) mk (Value.ref b :: argsL).toArray X₁ hg hsize hdg hW (X₁.named hnamed) (hpre vm₁ X₁.warmed)
  exact ⟨v, vm₁, B, X₁.warmed, X', hpost, fun target h => hstep₁ _ fun acts => by rw [doInvoke_state]; exact hsteps.trans h⟩
abbrev vx_CVW (R : Room) (s : State) (args : Array Value) (own C : String) (index : Nat) (y : MethodName) (bytes : ByteArray) (maxL : Nat) (ret : Option FieldType) (hh : List (Nat × Nat × Nat × Nat)) (ws : List Cond) (rm : Room) (mc ms n : Nat) : Prop :=
  (rm.cells = mc ∧ rm.slots = ms ∧ rm.frames + 1 ≤ R.frames ∧ 8 + (maxL + 11) + rm.locals ≤ R.locals ∧ (∀ w ∈ ws, ∀ (a' : Array Value) (U : State), s.WarmedH U.vm → w.before a' U = true) ∧ Cond.codeWith y bytes maxL ret hh ∈ ws) ∧
  (Cond.codeWith y bytes maxL ret hh).before args s = true ∧ (Cond.initialized y.cls).before args s = true ∧ (y.cls ≠ "java/lang/invoke/MethodHandle" ∧ y.cls ≠ "java/lang/invoke/VarHandle") ∧
  (∀ sig, parseMethodDescriptor y.desc = some sig → n = sig.parameters.length) ∧ (Cond.methodLink own index y).before args s = true ∧ (Cond.instanceMethod y).before args s = true ∧ (Cond.selects C y y).before args s = true
theorem vx_cwVW {own C : String} {index maxL mc ms : Nat} {y : MethodName} {bytes : ByteArray} {ret : Option FieldType} {hh : List (Nat × Nat × Nat × Nat)} {Ts ws ws' : List Cond} {rm : Room} (n : Nat) (ht : ∀ w ∈ Ts, w.before args s = true) (hT : GoodIn Ts (wsV own index C y ws)) (hw : ws = Cond.codeWith y bytes maxL ret hh :: ws') (hrc : rm.cells = mc) (hrs : rm.slots = ms)
    (hd : y.cls = C ∧ y.cls ≠ "java/lang/invoke/MethodHandle" ∧ y.cls ≠ "java/lang/invoke/VarHandle" ∧ (parseMethodDescriptor y.desc).map (fun d => d.parameters.length) = some n) (hR : rm.frames + 1 ≤ R.frames ∧ 8 + (maxL + 11) + rm.locals ≤ R.locals) :
    vx_CVW R s args own C index y bytes maxL ret hh ws rm mc ms n := by
  obtain ⟨hC, hd⟩ := hd
  subst hC
  have ok : ∀ w ∈ wsV own index y.cls y ws, w.before args s = true := fun w h => ht w (hT w h).1
  have hG : GoodIn Ts ws := fun w h => hT w (by unfold wsV; exact List.mem_append_right _ h)
  have hc : Cond.codeWith y bytes maxL ret hh ∈ ws := by rw [hw]; exact List.mem_cons_self
  refine ⟨⟨hrc, hrs, hR.1, hR.2, pay_in ht hG, hc⟩, ht _ (hG _ hc).1, ok _ (by simp [wsV]), ⟨hd.1, hd.2.1⟩, fun sig h => ?_, ok _ (by simp [wsV]), ok _ (by simp [wsV]), ok _ (by simp [wsV])⟩
  have h2 := hd.2.2
  rw [h] at h2
  exact (Option.some.inj h2).symm
theorem vx_runVW {y : MethodName} {bytes cc : ByteArray} {maxL nL mc ms n index : Nat} {ret : Option FieldType} {hh : List (Nat × Nat × Nat × Nat)} {ws : List Cond} {rm : Room} {Pc : Array Value → State → Prop} {Qc : Array Value → State → Outcome → State → Prop} {free : Addr → Prop} {Ts : List Cond} {own C : String} {b : Addr} {As rest : List Value} {g : JFrame}
    (S : CallFix p m c cc nL s args Ts own) (hM : Met l y ws rm Pc Qc mc ms free) (cw : vx_CVW R s args own C index y bytes maxL ret hh ws rm mc ms n) (hp : PreV s H C b Pc As)
    (hg : g.method = m) (hn : As.length = n) (hsize : g.locals.size = nL) (hstack : g.stack = As.reverse ++ .ref b :: rest) (hW : 2 * g.monitorRoom + (rest.map fun v => v.category).sum ≤ 8) (hdg : decode cc g.pc = .ok (.invokevirtual index, 3)) (hf : cells + mc ≤ R.cells ∧ slots + ms ≤ R.slots) :
    va_Run p l e R s m args below meth c H locs cells slots mc ms g rest (Qc (Value.ref b :: As).toArray) free := by
  obtain ⟨⟨hrc, hrs, hfr, hlo, hws, hcw⟩, hcode, hini, hy, hlen, hl, hin, hse⟩ := cw
  have hK : Back l R p e below s args y 3 8 (PreOf R mc ms Pc) (PostOf Qc mc ms free) := va_backW (hh := hh) (bytes := bytes) (maxL := maxL) (ret := ret) hM hp.1 hrc hrs hfr hlo hws hcw (fun a' U hW => word_at hW (Or.inl (by first | rfl | simp [Cond.onTables, Cond.keeps, Cond.steady])) hini)
  obtain ⟨hx, hb, hml, ho, -⟩ := S
  obtain ⟨-, ⟨cellB, hcB, hoB, hclB⟩, hPc⟩ := hp
  intro T hT X
  obtain ⟨v, vm₁, ⟨U', l2, c2, s2⟩, hW₁, X', ⟨g', mk, t, L, e1, e2, hq, h1, hL, h2, h3⟩, st⟩ := vx_callVW X hx (C := C) (hh := hh) (bytes := bytes) (maxL := maxL) (ret := ret) ho hl hin hse hcode hy hK (by rw [hT]; exact hcB) hoB hclB hg (hsize.trans hml.symm) (argsL := As) (rest := rest) (fun sig h => hn.trans (hlen sig h)) hstack hW (by rw [hb]; exact hdg)
    (fun vm₁ hW₁ => ⟨hf.1, hf.2, hPc (T.setVm vm₁) hT hW₁⟩)
  dsimp only [Pt.U, Pt.locs, Pt.cells, Pt.slots] at X' e1 e2 h1 h2 h3 st
  subst h1; subst h2; subst h3
  exact ⟨v, (T.setVm vm₁).calling g' mk (Value.ref b :: As).toArray, t, U', L, hT, X', hL, e1, e2, hq, st⟩
section
variable {y : MethodName} {bytes cc : ByteArray} {maxL nL mc ms n index : Nat} {ret : Option FieldType} {ws : List Cond} {rm : Room} {Pc : Array Value → State → Prop} {Qc : Array Value → State → Outcome → State → Prop} {XC : String → State → State → Prop} {free : Addr → Prop} {Ts : List Cond} {own C : String} {b : Addr} {As rest : List Value} {g : JFrame}
theorem vx_runVX {hh : List (Nat × Nat × Nat × Nat)} (S : CallFix p m c cc nL s args Ts own) (hM : vx_Met l y ws rm Pc Qc XC mc ms free) (cw : vx_CVW R s args own C index y bytes maxL ret hh ws rm mc ms n) (hp : PreV s H C b Pc As)
    (hg : g.method = m) (hn : As.length = n) (hsize : g.locals.size = nL) (hstack : g.stack = As.reverse ++ .ref b :: rest) (hW : 2 * g.monitorRoom + (rest.map fun v => v.category).sum ≤ 8) (hdg : decode cc g.pc = .ok (.invokevirtual index, 3)) (hf : cells + mc ≤ R.cells ∧ slots + ms ≤ R.slots) :
    vx_Run p l e R s m args below meth c H locs cells slots mc ms g rest (Qc (Value.ref b :: As).toArray) XC free := by
  obtain ⟨⟨hrc, hrs, hfr, hlo, hws, hcw⟩, hcode, hini, hy, hlen, hl, hin, hse⟩ := cw
  have hK : vx_Back l R p e below s args y 3 8 (PreOf R mc ms Pc) (PostOf Qc mc ms free) (vx_Post XC mc ms free) := vx_backW (hh := hh) (bytes := bytes) (maxL := maxL) (ret := ret) hM hp.1 hrc hrs hfr hlo hws hcw (fun a' U hW => word_at hW (Or.inl (by first | rfl | simp [Cond.onTables, Cond.keeps, Cond.steady])) hini)
  obtain ⟨hx, hb, hml, ho, -⟩ := S
  obtain ⟨-, ⟨cellB, hcB, hoB, hclB⟩, hPc⟩ := hp
  intro T hT X
  rcases vx_callVX X hx (C := C) (hh := hh) (bytes := bytes) (maxL := maxL) (ret := ret) ho hl hin hse hcode hy hK (by rw [hT]; exact hcB) hoB hclB hg (hsize.trans hml.symm) (argsL := As) (rest := rest) (fun sig h => hn.trans (hlen sig h)) hstack hW (by rw [hb]; exact hdg)
    (fun vm₁ hW₁ => ⟨hf.1, hf.2, hPc (T.setVm vm₁) hT hW₁⟩) with ⟨v, vm₁, ⟨U', l2, c2, s2⟩, hW₁, X', ⟨g', mk, t, L, e1, e2, hq, h1, hL, h2, h3⟩, st⟩ | ⟨q, vm₁, ⟨U', l2, c2, s2⟩, hW₁, X', ⟨g', mk, t, L, E, ce, e1, e2, hq, hce, hcv, hcl, h1, hL, h2, h3⟩, st⟩
  · dsimp only [Pt.U, Pt.locs, Pt.cells, Pt.slots] at X' e1 e2 h1 h2 h3 st
    subst h1; subst h2; subst h3
    exact Or.inl ⟨v, (T.setVm vm₁).calling g' mk (Value.ref b :: As).toArray, t, U', L, hT, X', hL, e1, e2, hq, st⟩
  · dsimp only [Pt.U, Pt.locs, Pt.cells, Pt.slots] at X' e1 e2 h1 h2 h3 st hcl
    subst h1; subst h2; subst h3
    exact Or.inr ⟨q, (T.setVm vm₁).calling g' mk (Value.ref b :: As).toArray, t, U', L, E, ce, hT, X', hL, e1, e2, hq, hce, hcv, vx_cls hW₁ hcl, st⟩
theorem vx_runSX {hh : List (Nat × Nat × Nat × Nat)} (S : CallFix p m c cc nL s args Ts own) (hM : vx_Met l y ws rm Pc Qc XC mc ms free) (cw : vx_CSW R s args own index y bytes maxL ret hh ws rm mc ms n) (hp : PreS s H Pc As)
    (hg : g.method = m) (hn : As.length = n) (hsize : g.locals.size = nL) (hstack : g.stack = As.reverse ++ rest) (hW : 2 * g.monitorRoom + (rest.map fun v => v.category).sum ≤ 8) (hdg : decode cc g.pc = .ok (.invokestatic index, 3)) (hf : cells + mc ≤ R.cells ∧ slots + ms ≤ R.slots) :
    vx_Run p l e R s m args below meth c H locs cells slots mc ms g rest (Qc As.toArray) XC free := by
  obtain ⟨⟨hrc, hrs, hfr, hlo, hws, hcw⟩, hcode, hini, hy, hlen, hl, hstt⟩ := cw
  have hK : vx_Back l R p e below s args y 3 8 (PreOf R mc ms Pc) (PostOf Qc mc ms free) (vx_Post XC mc ms free) := vx_backW (hh := hh) (bytes := bytes) (maxL := maxL) (ret := ret) hM hp.1 hrc hrs hfr hlo hws hcw (fun a' U hW => word_at hW (Or.inl (by first | rfl | simp [Cond.onTables, Cond.keeps, Cond.steady])) hini)
  obtain ⟨hx, hb, hml, ho, -⟩ := S
  intro T hT X
  rcases vx_callSX X hx (hh := hh) (bytes := bytes) (maxL := maxL) (ret := ret) ho hl hstt hini hcode hy hK hg (hsize.trans hml.symm) (argsL := As) (rest := rest) (fun sig h => hn.trans (hlen sig h)) hstack hW (by rw [hb]; exact hdg)
    (fun vm₁ hW₁ => ⟨hf.1, hf.2, hp.2 (T.setVm vm₁) hT hW₁⟩) with ⟨v, vm₁, ⟨U', l2, c2, s2⟩, hW₁, X', ⟨g', mk, t, L, e1, e2, hq, h1, hL, h2, h3⟩, st⟩ | ⟨q, vm₁, ⟨U', l2, c2, s2⟩, hW₁, X', ⟨g', mk, t, L, E, ce, e1, e2, hq, hce, hcv, hcl, h1, hL, h2, h3⟩, st⟩
  · dsimp only [Pt.U, Pt.locs, Pt.cells, Pt.slots] at X' e1 e2 h1 h2 h3 st
    subst h1; subst h2; subst h3
    exact Or.inl ⟨v, (T.setVm vm₁).calling g' mk As.toArray, t, U', L, hT, X', hL, e1, e2, hq, st⟩
  · dsimp only [Pt.U, Pt.locs, Pt.cells, Pt.slots] at X' e1 e2 h1 h2 h3 st hcl
    subst h1; subst h2; subst h3
    exact Or.inr ⟨q, (T.setVm vm₁).calling g' mk As.toArray, t, U', L, E, ce, hT, X', hL, e1, e2, hq, hce, hcv, vx_cls hW₁ hcl, st⟩
end
end VXH
theorem vx_ofWH {l : Launch} {y : MethodName} {ws ws' : List Cond} {rm : Room} {Pc : Array Value → State → Prop} {Qc : Array Value → State → Outcome → State → Prop} {XC : String → State → State → Prop} {mc ms : Nat} {free : Addr → Prop} {cc : ByteArray} {maxL : Nat} {ret : Option FieldType} {hh : List (Nat × Nat × Nat × Nat)}
    (hy : plainName y.cls = true) (hw : ws = Cond.codeWith y cc maxL ret hh :: ws')
    (body : ∀ p e s m args below meth c s₁, BodyLoose p l y (headSpec ws rm) cc maxL ret e s m args below meth c s₁ → c.maxLocals = maxL → Pc args s →
      W p l e (headSpec ws rm).room s m args below meth c s.heap [] 0 0 (vx_MQ below Qc XC args s mc ms free) (entryFrame m args maxL)) : vx_Met l y ws rm Pc Qc XC mc ms free := by
  refine MetFree.of_bodyS (code := cc) (maxLocals := maxL) (ret := ret) hy ?_ ?_
  · intro args s m h hn
    obtain ⟨m9, meth, c, hn9, h1, h2, h3, h4, -, h5, h6, -⟩ := Cond.codeWith_spec (atoms_spec (ws := ws) h _ (by rw [hw]; exact List.mem_cons_self))
    cases hn.symm.trans hn9
    exact ⟨meth, c, h1, h2, h3, h4, h5, h6⟩
  · intro p e s m args below meth c s₁ B hml hP _
    have hh0 : s₁.heap = s.heap := by rw [B.state]; rfl
    obtain ⟨t, a1, o, b1, b2, b3⟩ := body p e s m args below meth c s₁ B hml hP s₁ hh0 (Stand.of_body B)
    exact ⟨t, o, a1, b1, b2, b3⟩
/-! ===== END ===== -/
end
section
/-! words: one list for all methods -/
def jw : List Cond := lw_tbl.filter goodWord
theorem jw_at {i : Nat} {w : Cond} (h : lw_tbl[i]? = some w) (g : goodWord w = true) : w ∈ jw := List.mem_filter.mpr ⟨List.mem_of_getElem? h, g⟩
theorem jw_ok {w : Cond} (h : w ∈ jw) : (w.onTables && w.keeps) = true ∨ ∃ ty, w = .arrayClass ty := good_of_word (List.mem_filter.mp h).2
theorem jw_in {w : Cond} (h : w ∈ jw) : w ∈ lw_tbl := (List.mem_filter.mp h).1
theorem jgood {c c2 : Cond} (hc : c2 ∈ jw) : GoodIn (c :: jw) (c2 :: jw) := fun w h => by
  have hw : w ∈ jw := by
    rcases List.mem_cons.mp h with e | h
    · rw [e]; exact hc
    · exact h
  exact ⟨List.mem_cons_of_mem _ hw, jw_ok hw⟩
theorem jgood_app {c : Cond} {a b : List Cond} (ha : ∀ w ∈ a, w ∈ jw) (hb : GoodIn (c :: jw) b) : GoodIn (c :: jw) (a ++ b) := fun w h => (List.mem_append.mp h).elim (fun h => ⟨List.mem_cons_of_mem _ (ha w h), jw_ok (ha w h)⟩) (hb w)
theorem jgoodV {c c2 : Cond} {own C : String} {i : Nat} {y : MethodName} (h1 : Cond.methodLink own i y ∈ jw) (h2 : Cond.instanceMethod y ∈ jw) (h3 : Cond.selects C y y ∈ jw) (h4 : Cond.initialized C ∈ jw) (hc : c2 ∈ jw) : GoodIn (c :: jw) (wsV own i C y (c2 :: jw)) := jgood_app (by
  intro w h
  simp only [List.mem_cons, List.not_mem_nil, or_false] at h
  rcases h with rfl | rfl | rfl | rfl <;> assumption) (jgood hc)
theorem jgoodS {c c2 : Cond} {own : String} {i : Nat} {y : MethodName} (h1 : Cond.methodLink own i y ∈ jw) (h2 : Cond.static y ∈ jw) (h4 : Cond.initialized y.cls ∈ jw) (hc : c2 ∈ jw) : GoodIn (c :: jw) (va_wsS own i y (c2 :: jw)) := jgood_app (by
  intro w h
  simp only [List.mem_cons, List.not_mem_nil, or_false] at h
  rcases h with rfl | rfl | rfl <;> assumption) (jgood hc)
/-! the words on nest mates: of a state -/
def jnw : List Cond := [(Jvm.Cond.methodLinkNest "JoinHouse" (11 : Nat) ({ cls := "JoinHouse$Runner", name := "<init>", desc := "()V" } : Jvm.MethodName) "JoinHouse"), (Jvm.Cond.methodLinkNest "JoinHouse$Runner" (11 : Nat) ({ cls := "JoinHouse$Planner", name := "<init>", desc := "()V" } : Jvm.MethodName) "JoinHouse"), (Jvm.Cond.methodLinkNest "JoinHouse$Planner" (11 : Nat) ({ cls := "JoinHouse$Query", name := "<init>", desc := "()V" } : Jvm.MethodName) "JoinHouse"), (Jvm.Cond.methodLinkNest "JoinHouse$Query" (11 : Nat) ({ cls := "JoinHouse$Tables", name := "<init>", desc := "()V" } : Jvm.MethodName) "JoinHouse"), (Jvm.Cond.fieldLinkNest "JoinHouse" (28 : Nat) "JoinHouse$Query" "tables" "LJoinHouse$Tables;" "JoinHouse"), (Jvm.Cond.fieldLinkNest "JoinHouse$Planner" (60 : Nat) "JoinHouse$Query" "kinds" "[I" "JoinHouse"), (Jvm.Cond.fieldLinkNest "JoinHouse$Planner" (28 : Nat) "JoinHouse$Query" "generators" "I" "JoinHouse"), (Jvm.Cond.fieldLinkNest "JoinHouse$Runner" (58 : Nat) "JoinHouse$Query" "generators" "I" "JoinHouse"), (Jvm.Cond.fieldLinkNest "JoinHouse" (69 : Nat) "JoinHouse$Query" "generators" "I" "JoinHouse"), (Jvm.Cond.fieldLinkNest "JoinHouse$Sieve" (34 : Nat) "JoinHouse$Query" "conditions" "I" "JoinHouse"), (Jvm.Cond.fieldLinkNest "JoinHouse$Planner" (53 : Nat) "JoinHouse$Query" "conditions" "I" "JoinHouse"), (Jvm.Cond.fieldLinkNest "JoinHouse" (135 : Nat) "JoinHouse$Query" "conditions" "I" "JoinHouse"), (Jvm.Cond.fieldLinkNest "JoinHouse" (21 : Nat) "JoinHouse$Planner" "query" "LJoinHouse$Query;" "JoinHouse"), (Jvm.Cond.fieldLinkNest "JoinHouse$Runner" (54 : Nat) "JoinHouse$Planner" "query" "LJoinHouse$Query;" "JoinHouse"), (Jvm.Cond.fieldLinkNest "JoinHouse$Runner" (70 : Nat) "JoinHouse$Planner" "order" "[I" "JoinHouse"), (Jvm.Cond.fieldLinkNest "JoinHouse" (94 : Nat) "JoinHouse$Planner" "order" "[I" "JoinHouse"), (Jvm.Cond.methodLinkNest "JoinHouse$Runner" (20 : Nat) ({ cls := "JoinHouse$Sieve", name := "<init>", desc := "()V" } : Jvm.MethodName) "JoinHouse"), (Jvm.Cond.fieldLinkNest "JoinHouse" (16 : Nat) "JoinHouse$Runner" "planner" "LJoinHouse$Planner;" "JoinHouse"), (Jvm.Cond.fieldLinkNest "JoinHouse" (126 : Nat) "JoinHouse$Runner" "kept" "[I" "JoinHouse"), (Jvm.Cond.fieldLinkNest "JoinHouse" (110 : Nat) "JoinHouse$Runner" "keptWays" "I" "JoinHouse"), (Jvm.Cond.fieldLinkNest "JoinHouse" (121 : Nat) "JoinHouse$Runner" "keptGenerators" "I" "JoinHouse"), (Jvm.Cond.fieldLinkNest "JoinHouse" (113 : Nat) "JoinHouse$Runner" "keptLooked" "I" "JoinHouse"), (Jvm.Cond.methodLinkNest "JoinHouse$Planner" (63 : Nat) ({ cls := "JoinHouse", name := "isIn", desc := "(II)Z" } : Jvm.MethodName) "JoinHouse"), (Jvm.Cond.methodLinkNest "JoinHouse$Sieve" (45 : Nat) ({ cls := "JoinHouse", name := "rowIn", desc := "(II)I" } : Jvm.MethodName) "JoinHouse"), (Jvm.Cond.methodLinkNest "JoinHouse$Runner" (122 : Nat) ({ cls := "JoinHouse", name := "rowIn", desc := "(II)I" } : Jvm.MethodName) "JoinHouse")]
def jN (U : State) : Prop := ∀ w ∈ jnw, va_Nw w U
theorem jN_same {u U : State} (h : u.vm = U.vm) (hN : jN u) : jN U := by
  intro w hw
  have h0 := hN w hw
  simp only [jnw, List.mem_cons, List.not_mem_nil, or_false] at hw
  rcases hw with rfl | rfl | rfl | rfl | rfl | rfl | rfl | rfl | rfl | rfl | rfl | rfl | rfl | rfl | rfl | rfl | rfl | rfl | rfl | rfl | rfl | rfl | rfl | rfl | rfl <;> exact va_Nw.same rfl h h0
theorem jN_warm {s U : State} (hW : s.WarmedH U.vm) (hN : jN s) : jN U := by
  intro w hw
  have h0 := hN w hw
  simp only [jnw, List.mem_cons, List.not_mem_nil, or_false] at hw
  rcases hw with rfl | rfl | rfl | rfl | rfl | rfl | rfl | rfl | rfl | rfl | rfl | rfl | rfl | rfl | rfl | rfl | rfl | rfl | rfl | rfl | rfl | rfl | rfl | rfl | rfl <;> first | exact va_Nw.warmF hW h0 | exact va_Nw.warmM hW h0
theorem jnw_0 : (Jvm.Cond.methodLinkNest "JoinHouse" (11 : Nat) ({ cls := "JoinHouse$Runner", name := "<init>", desc := "()V" } : Jvm.MethodName) "JoinHouse") ∈ jnw := List.mem_of_getElem? (i := 0) rfl
theorem jnw_1 : (Jvm.Cond.methodLinkNest "JoinHouse$Runner" (11 : Nat) ({ cls := "JoinHouse$Planner", name := "<init>", desc := "()V" } : Jvm.MethodName) "JoinHouse") ∈ jnw := List.mem_of_getElem? (i := 1) rfl
theorem jnw_2 : (Jvm.Cond.methodLinkNest "JoinHouse$Planner" (11 : Nat) ({ cls := "JoinHouse$Query", name := "<init>", desc := "()V" } : Jvm.MethodName) "JoinHouse") ∈ jnw := List.mem_of_getElem? (i := 2) rfl
theorem jnw_3 : (Jvm.Cond.methodLinkNest "JoinHouse$Query" (11 : Nat) ({ cls := "JoinHouse$Tables", name := "<init>", desc := "()V" } : Jvm.MethodName) "JoinHouse") ∈ jnw := List.mem_of_getElem? (i := 3) rfl
theorem jnw_4 : (Jvm.Cond.fieldLinkNest "JoinHouse" (28 : Nat) "JoinHouse$Query" "tables" "LJoinHouse$Tables;" "JoinHouse") ∈ jnw := List.mem_of_getElem? (i := 4) rfl
theorem jnw_5 : (Jvm.Cond.fieldLinkNest "JoinHouse$Planner" (60 : Nat) "JoinHouse$Query" "kinds" "[I" "JoinHouse") ∈ jnw := List.mem_of_getElem? (i := 5) rfl
theorem jnw_6 : (Jvm.Cond.fieldLinkNest "JoinHouse$Planner" (28 : Nat) "JoinHouse$Query" "generators" "I" "JoinHouse") ∈ jnw := List.mem_of_getElem? (i := 6) rfl
theorem jnw_7 : (Jvm.Cond.fieldLinkNest "JoinHouse$Runner" (58 : Nat) "JoinHouse$Query" "generators" "I" "JoinHouse") ∈ jnw := List.mem_of_getElem? (i := 7) rfl
theorem jnw_8 : (Jvm.Cond.fieldLinkNest "JoinHouse" (69 : Nat) "JoinHouse$Query" "generators" "I" "JoinHouse") ∈ jnw := List.mem_of_getElem? (i := 8) rfl
theorem jnw_9 : (Jvm.Cond.fieldLinkNest "JoinHouse$Sieve" (34 : Nat) "JoinHouse$Query" "conditions" "I" "JoinHouse") ∈ jnw := List.mem_of_getElem? (i := 9) rfl
theorem jnw_10 : (Jvm.Cond.fieldLinkNest "JoinHouse$Planner" (53 : Nat) "JoinHouse$Query" "conditions" "I" "JoinHouse") ∈ jnw := List.mem_of_getElem? (i := 10) rfl
theorem jnw_11 : (Jvm.Cond.fieldLinkNest "JoinHouse" (135 : Nat) "JoinHouse$Query" "conditions" "I" "JoinHouse") ∈ jnw := List.mem_of_getElem? (i := 11) rfl
theorem jnw_12 : (Jvm.Cond.fieldLinkNest "JoinHouse" (21 : Nat) "JoinHouse$Planner" "query" "LJoinHouse$Query;" "JoinHouse") ∈ jnw := List.mem_of_getElem? (i := 12) rfl
theorem jnw_13 : (Jvm.Cond.fieldLinkNest "JoinHouse$Runner" (54 : Nat) "JoinHouse$Planner" "query" "LJoinHouse$Query;" "JoinHouse") ∈ jnw := List.mem_of_getElem? (i := 13) rfl
theorem jnw_14 : (Jvm.Cond.fieldLinkNest "JoinHouse$Runner" (70 : Nat) "JoinHouse$Planner" "order" "[I" "JoinHouse") ∈ jnw := List.mem_of_getElem? (i := 14) rfl
theorem jnw_15 : (Jvm.Cond.fieldLinkNest "JoinHouse" (94 : Nat) "JoinHouse$Planner" "order" "[I" "JoinHouse") ∈ jnw := List.mem_of_getElem? (i := 15) rfl
theorem jnw_16 : (Jvm.Cond.methodLinkNest "JoinHouse$Runner" (20 : Nat) ({ cls := "JoinHouse$Sieve", name := "<init>", desc := "()V" } : Jvm.MethodName) "JoinHouse") ∈ jnw := List.mem_of_getElem? (i := 16) rfl
theorem jnw_17 : (Jvm.Cond.fieldLinkNest "JoinHouse" (16 : Nat) "JoinHouse$Runner" "planner" "LJoinHouse$Planner;" "JoinHouse") ∈ jnw := List.mem_of_getElem? (i := 17) rfl
theorem jnw_18 : (Jvm.Cond.fieldLinkNest "JoinHouse" (126 : Nat) "JoinHouse$Runner" "kept" "[I" "JoinHouse") ∈ jnw := List.mem_of_getElem? (i := 18) rfl
theorem jnw_19 : (Jvm.Cond.fieldLinkNest "JoinHouse" (110 : Nat) "JoinHouse$Runner" "keptWays" "I" "JoinHouse") ∈ jnw := List.mem_of_getElem? (i := 19) rfl
theorem jnw_20 : (Jvm.Cond.fieldLinkNest "JoinHouse" (121 : Nat) "JoinHouse$Runner" "keptGenerators" "I" "JoinHouse") ∈ jnw := List.mem_of_getElem? (i := 20) rfl
theorem jnw_21 : (Jvm.Cond.fieldLinkNest "JoinHouse" (113 : Nat) "JoinHouse$Runner" "keptLooked" "I" "JoinHouse") ∈ jnw := List.mem_of_getElem? (i := 21) rfl
theorem jnw_22 : (Jvm.Cond.methodLinkNest "JoinHouse$Planner" (63 : Nat) ({ cls := "JoinHouse", name := "isIn", desc := "(II)Z" } : Jvm.MethodName) "JoinHouse") ∈ jnw := List.mem_of_getElem? (i := 22) rfl
theorem jnw_23 : (Jvm.Cond.methodLinkNest "JoinHouse$Sieve" (45 : Nat) ({ cls := "JoinHouse", name := "rowIn", desc := "(II)I" } : Jvm.MethodName) "JoinHouse") ∈ jnw := List.mem_of_getElem? (i := 23) rfl
theorem jnw_24 : (Jvm.Cond.methodLinkNest "JoinHouse$Runner" (122 : Nat) ({ cls := "JoinHouse", name := "rowIn", desc := "(II)I" } : Jvm.MethodName) "JoinHouse") ∈ jnw := List.mem_of_getElem? (i := 24) rfl
theorem jnw_use {w : Cond} {args : Array Value} {s : State} (hN : jN s) (h : w ∈ jnw) : w.before args s = true := by
  have h0 := hN w h
  simp only [jnw, List.mem_cons, List.not_mem_nil, or_false] at h
  rcases h with rfl | rfl | rfl | rfl | rfl | rfl | rfl | rfl | rfl | rfl | rfl | rfl | rfl | rfl | rfl | rfl | rfl | rfl | rfl | rfl | rfl | rfl | rfl | rfl | rfl <;> exact va_Nw.use rfl h0
theorem jws_0 : Cond.selects "java/lang/Throwable" (⟨"java/lang/Throwable", "fillInStackTrace", "(I)Ljava/lang/Throwable;"⟩ : MethodName) (⟨"java/lang/Throwable", "fillInStackTrace", "(I)Ljava/lang/Throwable;"⟩ : MethodName) ∈ jw := jw_at (i := 0) (by decide +kernel) (by decide +kernel)
theorem jws_1 : Cond.selects "JoinHouse$Tables" (⟨"JoinHouse$Tables", "put", "(III)V"⟩ : MethodName) (⟨"JoinHouse$Tables", "put", "(III)V"⟩ : MethodName) ∈ jw := jw_at (i := 1) (by decide +kernel) (by decide +kernel)
theorem jws_2 : Cond.selects "JoinHouse$Tables" (⟨"JoinHouse$Tables", "hasValue", "(III)Z"⟩ : MethodName) (⟨"JoinHouse$Tables", "hasValue", "(III)Z"⟩ : MethodName) ∈ jw := jw_at (i := 2) (by decide +kernel) (by decide +kernel)
theorem jws_3 : Cond.selects "JoinHouse" (⟨"JoinHouse", "checkSide", "(II)V"⟩ : MethodName) (⟨"JoinHouse", "checkSide", "(II)V"⟩ : MethodName) ∈ jw := jw_at (i := 3) (by decide +kernel) (by decide +kernel)
theorem jws_4 : Cond.selects "JoinHouse" (⟨"JoinHouse", "checkConditionsLeft", "()V"⟩ : MethodName) (⟨"JoinHouse", "checkConditionsLeft", "()V"⟩ : MethodName) ∈ jw := jw_at (i := 4) (by decide +kernel) (by decide +kernel)
theorem jws_5 : Cond.selects "JoinHouse" (⟨"JoinHouse", "checkPlace", "(I)V"⟩ : MethodName) (⟨"JoinHouse", "checkPlace", "(I)V"⟩ : MethodName) ∈ jw := jw_at (i := 5) (by decide +kernel) (by decide +kernel)
theorem jws_6 : Cond.selects "JoinHouse$Planner" (⟨"JoinHouse$Planner", "sizeOf", "(I)I"⟩ : MethodName) (⟨"JoinHouse$Planner", "sizeOf", "(I)I"⟩ : MethodName) ∈ jw := jw_at (i := 6) (by decide +kernel) (by decide +kernel)
theorem jws_7 : Cond.selects "JoinHouse$Planner" (⟨"JoinHouse$Planner", "bestAfter", "(I)I"⟩ : MethodName) (⟨"JoinHouse$Planner", "bestAfter", "(I)I"⟩ : MethodName) ∈ jw := jw_at (i := 7) (by decide +kernel) (by decide +kernel)
theorem jws_8 : Cond.selects "JoinHouse$Planner" (⟨"JoinHouse$Planner", "sumFrom", "(II)I"⟩ : MethodName) (⟨"JoinHouse$Planner", "sumFrom", "(II)I"⟩ : MethodName) ∈ jw := jw_at (i := 8) (by decide +kernel) (by decide +kernel)
theorem jws_9 : Cond.selects "JoinHouse$Planner" (⟨"JoinHouse$Planner", "aheadOf", "(I)I"⟩ : MethodName) (⟨"JoinHouse$Planner", "aheadOf", "(I)I"⟩ : MethodName) ∈ jw := jw_at (i := 9) (by decide +kernel) (by decide +kernel)
theorem jws_10 : Cond.selects "JoinHouse$Runner" (⟨"JoinHouse$Runner", "begin", "(I)V"⟩ : MethodName) (⟨"JoinHouse$Runner", "begin", "(I)V"⟩ : MethodName) ∈ jw := jw_at (i := 10) (by decide +kernel) (by decide +kernel)
theorem jws_11 : Cond.selects "JoinHouse$Sieve" (⟨"JoinHouse$Sieve", "judge", "(LJoinHouse$Query;II)V"⟩ : MethodName) (⟨"JoinHouse$Sieve", "judge", "(LJoinHouse$Query;II)V"⟩ : MethodName) ∈ jw := jw_at (i := 11) (by decide +kernel) (by decide +kernel)
theorem jws_12 : Cond.selects "JoinHouse$Runner" (⟨"JoinHouse$Runner", "goTo", "(II)Z"⟩ : MethodName) (⟨"JoinHouse$Runner", "goTo", "(II)Z"⟩ : MethodName) ∈ jw := jw_at (i := 12) (by decide +kernel) (by decide +kernel)
theorem jws_13 : Cond.selects "JoinHouse$Runner" (⟨"JoinHouse$Runner", "extend", "(IIII)I"⟩ : MethodName) (⟨"JoinHouse$Runner", "extend", "(IIII)I"⟩ : MethodName) ∈ jw := jw_at (i := 13) (by decide +kernel) (by decide +kernel)
theorem jws_14 : Cond.selects "JoinHouse$Runner" (⟨"JoinHouse$Runner", "swap", "()V"⟩ : MethodName) (⟨"JoinHouse$Runner", "swap", "()V"⟩ : MethodName) ∈ jw := jw_at (i := 14) (by decide +kernel) (by decide +kernel)
theorem jws_15 : Cond.selects "JoinHouse$Runner" (⟨"JoinHouse$Runner", "sortBy", "(I)V"⟩ : MethodName) (⟨"JoinHouse$Runner", "sortBy", "(I)V"⟩ : MethodName) ∈ jw := jw_at (i := 15) (by decide +kernel) (by decide +kernel)
theorem jws_16 : Cond.selects "JoinHouse$Runner" (⟨"JoinHouse$Runner", "keep", "(I)V"⟩ : MethodName) (⟨"JoinHouse$Runner", "keep", "(I)V"⟩ : MethodName) ∈ jw := jw_at (i := 16) (by decide +kernel) (by decide +kernel)
theorem jws_17 : Cond.selects "JoinHouseModel" (⟨"JoinHouseModel", "isColumn", "(II)Z"⟩ : MethodName) (⟨"JoinHouseModel", "isColumn", "(II)Z"⟩ : MethodName) ∈ jw := jw_at (i := 17) (by decide +kernel) (by decide +kernel)
theorem jws_18 : Cond.selects "JoinHouseModel" (⟨"JoinHouseModel", "condition", "(IIIIIZ)I"⟩ : MethodName) (⟨"JoinHouseModel", "condition", "(IIIIIZ)I"⟩ : MethodName) ∈ jw := jw_at (i := 18) (by decide +kernel) (by decide +kernel)
theorem jws_19 : Cond.selects "JoinHouseModel" (⟨"JoinHouseModel", "plansTo", "(I)Z"⟩ : MethodName) (⟨"JoinHouseModel", "plansTo", "(I)Z"⟩ : MethodName) ∈ jw := jw_at (i := 19) (by decide +kernel) (by decide +kernel)
theorem jws_20 : Cond.selects "JoinHouseModel" (⟨"JoinHouseModel", "makePlan", "()V"⟩ : MethodName) (⟨"JoinHouseModel", "makePlan", "()V"⟩ : MethodName) ∈ jw := jw_at (i := 20) (by decide +kernel) (by decide +kernel)
theorem jws_21 : Cond.selects "JoinHouseModel" (⟨"JoinHouseModel", "sizeOf", "(I)J"⟩ : MethodName) (⟨"JoinHouseModel", "sizeOf", "(I)J"⟩ : MethodName) ∈ jw := jw_at (i := 21) (by decide +kernel) (by decide +kernel)
theorem jws_22 : Cond.selects "JoinHouseModel" (⟨"JoinHouseModel", "isAmong", "(II)Z"⟩ : MethodName) (⟨"JoinHouseModel", "isAmong", "(II)Z"⟩ : MethodName) ∈ jw := jw_at (i := 22) (by decide +kernel) (by decide +kernel)
theorem jws_23 : Cond.selects "JoinHouseModel" (⟨"JoinHouseModel", "divisor", "(I)I"⟩ : MethodName) (⟨"JoinHouseModel", "divisor", "(I)I"⟩ : MethodName) ∈ jw := jw_at (i := 23) (by decide +kernel) (by decide +kernel)
theorem jws_24 : Cond.selects "JoinHouseModel" (⟨"JoinHouseModel", "spread", "(II)I"⟩ : MethodName) (⟨"JoinHouseModel", "spread", "(II)I"⟩ : MethodName) ∈ jw := jw_at (i := 24) (by decide +kernel) (by decide +kernel)
theorem jws_25 : Cond.selects "JoinHouseModel" (⟨"JoinHouseModel", "cell", "(III)I"⟩ : MethodName) (⟨"JoinHouseModel", "cell", "(III)I"⟩ : MethodName) ∈ jw := jw_at (i := 25) (by decide +kernel) (by decide +kernel)
theorem jws_26 : Cond.selects "JoinHouseModel" (⟨"JoinHouseModel", "sumOfOrder", "()J"⟩ : MethodName) (⟨"JoinHouseModel", "sumOfOrder", "()J"⟩ : MethodName) ∈ jw := jw_at (i := 26) (by decide +kernel) (by decide +kernel)
theorem jws_27 : Cond.selects "JoinHouseModel" (⟨"JoinHouseModel", "nextOrder", "()Z"⟩ : MethodName) (⟨"JoinHouseModel", "nextOrder", "()Z"⟩ : MethodName) ∈ jw := jw_at (i := 27) (by decide +kernel) (by decide +kernel)
theorem jws_28 : Cond.selects "JoinHouseModel" (⟨"JoinHouseModel", "swap", "(II)V"⟩ : MethodName) (⟨"JoinHouseModel", "swap", "(II)V"⟩ : MethodName) ∈ jw := jw_at (i := 28) (by decide +kernel) (by decide +kernel)
theorem jws_29 : Cond.selects "JoinHouseModel" (⟨"JoinHouseModel", "methodAt", "(I)I"⟩ : MethodName) (⟨"JoinHouseModel", "methodAt", "(I)I"⟩ : MethodName) ∈ jw := jw_at (i := 29) (by decide +kernel) (by decide +kernel)
theorem jws_30 : Cond.selects "JoinHouseModel" (⟨"JoinHouseModel", "ahead", "(I)I"⟩ : MethodName) (⟨"JoinHouseModel", "ahead", "(I)I"⟩ : MethodName) ∈ jw := jw_at (i := 30) (by decide +kernel) (by decide +kernel)
theorem jws_31 : Cond.selects "JoinHouseModel" (⟨"JoinHouseModel", "conditionFor", "(III)I"⟩ : MethodName) (⟨"JoinHouseModel", "conditionFor", "(III)I"⟩ : MethodName) ∈ jw := jw_at (i := 31) (by decide +kernel) (by decide +kernel)
theorem jws_32 : Cond.selects "JoinHouseModel" (⟨"JoinHouseModel", "tied", "(III)I"⟩ : MethodName) (⟨"JoinHouseModel", "tied", "(III)I"⟩ : MethodName) ∈ jw := jw_at (i := 32) (by decide +kernel) (by decide +kernel)
theorem jws_33 : Cond.selects "JoinHouseModel" (⟨"JoinHouseModel", "isLooked", "(IIIII)Z"⟩ : MethodName) (⟨"JoinHouseModel", "isLooked", "(IIIII)Z"⟩ : MethodName) ∈ jw := jw_at (i := 33) (by decide +kernel) (by decide +kernel)
theorem jws_34 : Cond.selects "JoinHouseModel" (⟨"JoinHouseModel", "valueIn", "(III)I"⟩ : MethodName) (⟨"JoinHouseModel", "valueIn", "(III)I"⟩ : MethodName) ∈ jw := jw_at (i := 34) (by decide +kernel) (by decide +kernel)
theorem jws_35 : Cond.selects "JoinHouseModel" (⟨"JoinHouseModel", "allHold", "(II)Z"⟩ : MethodName) (⟨"JoinHouseModel", "allHold", "(II)Z"⟩ : MethodName) ∈ jw := jw_at (i := 35) (by decide +kernel) (by decide +kernel)
theorem jws_36 : Cond.selects "JoinHouseModel" (⟨"JoinHouseModel", "holds", "(II)Z"⟩ : MethodName) (⟨"JoinHouseModel", "holds", "(II)Z"⟩ : MethodName) ∈ jw := jw_at (i := 36) (by decide +kernel) (by decide +kernel)
theorem jws_37 : Cond.selects "JoinHouseModel" (⟨"JoinHouseModel", "sort", "(I)V"⟩ : MethodName) (⟨"JoinHouseModel", "sort", "(I)V"⟩ : MethodName) ∈ jw := jw_at (i := 37) (by decide +kernel) (by decide +kernel)
abbrev RJh : String := "JoinHouse"
def TJh : u_T := fun k => match k with
  | 0 => ("JoinHouse", "runner", "LJoinHouse$Runner;", true)
  | 1 => ("JoinHouse", "planner", "LJoinHouse$Planner;", true)
  | 2 => ("JoinHouse", "query", "LJoinHouse$Query;", true)
  | _ => ("JoinHouse", "tables", "LJoinHouse$Tables;", true)
def tJh : Nat → FieldType := fun k => match k with
  | 0 => .object "JoinHouse$Runner"
  | 1 => .object "JoinHouse$Planner"
  | 2 => .object "JoinHouse$Query"
  | _ => .object "JoinHouse$Tables"
theorem nJh : ∀ a, a < 4 → ∀ b, b < 4 → a ≠ b → (TJh a).2.1 ≠ (TJh b).2.1 := by decide +kernel
theorem tJh_ok : ∀ k, k < 4 → parseFieldDescriptor (TJh k).2.2.1 = some (tJh k) := by decide +kernel
theorem iJh : ∀ w ∈ u_ws RJh TJh 4, w ∈ jw := by decide +kernel
abbrev RRu : String := "JoinHouse$Runner"
def TRu : u_T := fun k => match k with
  | 0 => ("JoinHouse$Runner", "planner", "LJoinHouse$Planner;", true)
  | 1 => ("JoinHouse$Runner", "sieve", "LJoinHouse$Sieve;", true)
  | 2 => ("JoinHouse$Runner", "choices", "[I", false)
  | 3 => ("JoinHouse$Runner", "spare", "[I", false)
  | 4 => ("JoinHouse$Runner", "starts", "[I", true)
  | 5 => ("JoinHouse$Runner", "count", "I", false)
  | 6 => ("JoinHouse$Runner", "looked", "I", false)
  | 7 => ("JoinHouse$Runner", "kept", "[I", false)
  | 8 => ("JoinHouse$Runner", "keptWays", "I", false)
  | 9 => ("JoinHouse$Runner", "keptGenerators", "I", false)
  | _ => ("JoinHouse$Runner", "keptLooked", "I", false)
def tRu : Nat → FieldType := fun k => match k with
  | 0 => .object "JoinHouse$Planner"
  | 1 => .object "JoinHouse$Sieve"
  | 2 => .array .int
  | 3 => .array .int
  | 4 => .array .int
  | 5 => .int
  | 6 => .int
  | 7 => .array .int
  | 8 => .int
  | 9 => .int
  | _ => .int
theorem nRu : ∀ a, a < 11 → ∀ b, b < 11 → a ≠ b → (TRu a).2.1 ≠ (TRu b).2.1 := by decide +kernel
theorem tRu_ok : ∀ k, k < 11 → parseFieldDescriptor (TRu k).2.2.1 = some (tRu k) := by decide +kernel
theorem iRu : ∀ w ∈ u_ws RRu TRu 11, w ∈ jw := by decide +kernel
abbrev RPl : String := "JoinHouse$Planner"
def TPl : u_T := fun k => match k with
  | 0 => ("JoinHouse$Planner", "query", "LJoinHouse$Query;", true)
  | 1 => ("JoinHouse$Planner", "sizes", "[I", true)
  | 2 => ("JoinHouse$Planner", "leastAfter", "[I", true)
  | _ => ("JoinHouse$Planner", "order", "[I", true)
def tPl : Nat → FieldType := fun k => match k with
  | 0 => .object "JoinHouse$Query"
  | 1 => .array .int
  | 2 => .array .int
  | _ => .array .int
theorem nPl : ∀ a, a < 4 → ∀ b, b < 4 → a ≠ b → (TPl a).2.1 ≠ (TPl b).2.1 := by decide +kernel
theorem tPl_ok : ∀ k, k < 4 → parseFieldDescriptor (TPl k).2.2.1 = some (tPl k) := by decide +kernel
theorem iPl : ∀ w ∈ u_ws RPl TPl 4, w ∈ jw := by decide +kernel
abbrev RQu : String := "JoinHouse$Query"
def TQu : u_T := fun k => match k with
  | 0 => ("JoinHouse$Query", "tables", "LJoinHouse$Tables;", true)
  | 1 => ("JoinHouse$Query", "tableOf", "[I", true)
  | 2 => ("JoinHouse$Query", "kinds", "[I", true)
  | 3 => ("JoinHouse$Query", "firsts", "[I", true)
  | 4 => ("JoinHouse$Query", "firstColumns", "[I", true)
  | 5 => ("JoinHouse$Query", "seconds", "[I", true)
  | 6 => ("JoinHouse$Query", "secondColumns", "[I", true)
  | 7 => ("JoinHouse$Query", "needed", "[I", true)
  | 8 => ("JoinHouse$Query", "generators", "I", false)
  | _ => ("JoinHouse$Query", "conditions", "I", false)
def tQu : Nat → FieldType := fun k => match k with
  | 0 => .object "JoinHouse$Tables"
  | 1 => .array .int
  | 2 => .array .int
  | 3 => .array .int
  | 4 => .array .int
  | 5 => .array .int
  | 6 => .array .int
  | 7 => .array .int
  | 8 => .int
  | _ => .int
theorem nQu : ∀ a, a < 10 → ∀ b, b < 10 → a ≠ b → (TQu a).2.1 ≠ (TQu b).2.1 := by decide +kernel
theorem tQu_ok : ∀ k, k < 10 → parseFieldDescriptor (TQu k).2.2.1 = some (tQu k) := by decide +kernel
theorem iQu : ∀ w ∈ u_ws RQu TQu 10, w ∈ jw := by decide +kernel
abbrev RTa : String := "JoinHouse$Tables"
def TTa : u_T := fun k => match k with
  | 0 => ("JoinHouse$Tables", "cells", "[I", true)
  | 1 => ("JoinHouse$Tables", "counts", "[I", true)
  | 2 => ("JoinHouse$Tables", "indexed", "[I", true)
  | _ => ("JoinHouse$Tables", "unlike", "[I", true)
def tTa : Nat → FieldType := fun k => match k with
  | 0 => .array .int
  | 1 => .array .int
  | 2 => .array .int
  | _ => .array .int
theorem nTa : ∀ a, a < 4 → ∀ b, b < 4 → a ≠ b → (TTa a).2.1 ≠ (TTa b).2.1 := by decide +kernel
theorem tTa_ok : ∀ k, k < 4 → parseFieldDescriptor (TTa k).2.2.1 = some (tTa k) := by decide +kernel
theorem iTa : ∀ w ∈ u_ws RTa TTa 4, w ∈ jw := by decide +kernel
abbrev RSi : String := "JoinHouse$Sieve"
def TSi : u_T := fun k => match k with
  | 0 => ("JoinHouse$Sieve", "judged", "[I", true)
  | 1 => ("JoinHouse$Sieve", "partners", "[I", true)
  | 2 => ("JoinHouse$Sieve", "let", "[I", true)
  | 3 => ("JoinHouse$Sieve", "count", "I", false)
  | _ => ("JoinHouse$Sieve", "everyRow", "I", false)
def tSi : Nat → FieldType := fun k => match k with
  | 0 => .array .int
  | 1 => .array .int
  | 2 => .array .int
  | 3 => .int
  | _ => .int
theorem nSi : ∀ a, a < 5 → ∀ b, b < 5 → a ≠ b → (TSi a).2.1 ≠ (TSi b).2.1 := by decide +kernel
theorem tSi_ok : ∀ k, k < 5 → parseFieldDescriptor (TSi k).2.2.1 = some (tSi k) := by decide +kernel
theorem iSi : ∀ w ∈ u_ws RSi TSi 5, w ∈ jw := by decide +kernel
abbrev RMo : String := "JoinHouseModel"
def TMo : u_T := fun k => match k with
  | 0 => ("JoinHouseModel", "thrown", "I", false)
  | 1 => ("JoinHouseModel", "cells", "[I", true)
  | 2 => ("JoinHouseModel", "counts", "[I", true)
  | 3 => ("JoinHouseModel", "indexes", "[I", true)
  | 4 => ("JoinHouseModel", "generators", "I", false)
  | 5 => ("JoinHouseModel", "tables", "[I", true)
  | 6 => ("JoinHouseModel", "conditions", "I", false)
  | 7 => ("JoinHouseModel", "kinds", "[I", true)
  | 8 => ("JoinHouseModel", "firsts", "[I", true)
  | 9 => ("JoinHouseModel", "firstColumns", "[I", true)
  | 10 => ("JoinHouseModel", "seconds", "[I", true)
  | 11 => ("JoinHouseModel", "secondColumns", "[I", true)
  | 12 => ("JoinHouseModel", "sizes", "[J", true)
  | 13 => ("JoinHouseModel", "order", "[I", true)
  | 14 => ("JoinHouseModel", "best", "[I", true)
  | 15 => ("JoinHouseModel", "runGenerators", "I", false)
  | 16 => ("JoinHouseModel", "ways", "I", false)
  | 17 => ("JoinHouseModel", "looked", "I", false)
  | 18 => ("JoinHouseModel", "found", "[I", true)
  | 19 => ("JoinHouseModel", "choices", "[I", true)
  | _ => ("JoinHouseModel", "next", "[I", true)
def tMo : Nat → FieldType := fun k => match k with
  | 0 => .int
  | 1 => .array .int
  | 2 => .array .int
  | 3 => .array .int
  | 4 => .int
  | 5 => .array .int
  | 6 => .int
  | 7 => .array .int
  | 8 => .array .int
  | 9 => .array .int
  | 10 => .array .int
  | 11 => .array .int
  | 12 => .array .long
  | 13 => .array .int
  | 14 => .array .int
  | 15 => .int
  | 16 => .int
  | 17 => .int
  | 18 => .array .int
  | 19 => .array .int
  | _ => .array .int
theorem nMo : ∀ a, a < 21 → ∀ b, b < 21 → a ≠ b → (TMo a).2.1 ≠ (TMo b).2.1 := by decide +kernel
theorem tMo_ok : ∀ k, k < 21 → parseFieldDescriptor (TMo k).2.2.1 = some (tMo k) := by decide +kernel
theorem iMo : ∀ w ∈ u_ws RMo TMo 21, w ∈ jw := by decide +kernel
abbrev RLa : String := "JoinHouseLaw"
abbrev RIn : String := "java/lang/Integer"
abbrev RAr : String := "java/util/Arrays"
abbrev jCl : List vw_C := [(RJh, TJh, 4), (RRu, TRu, 11), (RPl, TPl, 4), (RQu, TQu, 10), (RTa, TTa, 4), (RSi, TSi, 5), (RMo, TMo, 21)]
end
section
/-! The pure side: arrays by place number, int fields by number; the functions that a program reads off the bytecode speak of these alone. -/
abbrev jM : Type := Nat → Nat → Int32
abbrev jF : Type := Nat → Int32
def jmu (M : jM) (k i : Nat) (x : Int32) : jM := fun j => if j = k then upd (M k) i x else M j
def jms (M : jM) (a b : Nat) : jM := fun j => if j = a then M b else if j = b then M a else M j
def jfu (F : jF) (k : Nat) (x : Int32) : jF := fun j => if j = k then x else F j
def jib (i : Int32) (n : Nat) : Bool := !(decide (i < 0) || decide (n ≤ i.toNatClampNeg))
def jus (x y : Int32) : Int32 := (x.toUInt32 >>> (y.toUInt32 &&& Int32.toUInt32 31)).toInt32
def jfuel : Nat := 4000
def jbo (x : Int32) : Bool := x == 0 || x == 1
def jbs (B : Nat → Nat) (i j : Nat) : Nat → Nat := fun k => if k = i then B j else if k = j then B i else B k
theorem jbo_h {x : Int32} {α : Type} {X : Option α} {r : α} (h : (if jbo x = true then X else none) = some r) : narrow .boolean (.int x) = .int x ∧ X = some r := by
  by_cases q : jbo x = true
  · rw [if_pos q] at h
    refine ⟨?_, h⟩
    unfold jbo at q
    simp only [Bool.or_eq_true, beq_iff_eq] at q
    rcases q with q | q <;> subst q <;> rfl
  · rw [if_neg q] at h; cases h
theorem jib_in {i : Int32} {n : Nat} (h : jib i n = true) : vp_in i n := by
  intro q
  unfold jib at h
  rcases q with q | q <;> simp [q] at h
theorem jib_h {i : Int32} {n : Nat} {α : Type} {X : Option α} {r : α} (h : (if jib i n = true then X else none) = some r) : vp_in i n ∧ X = some r := by
  by_cases q : jib i n = true
  · rw [if_pos q] at h; exact ⟨jib_in q, h⟩
  · rw [if_neg q] at h; cases h
theorem jbi_h {α β : Type} {x : Option α} {f : α → Option β} {r : β} (h : x.bind f = some r) : ∃ q, x = some q ∧ f q = some r := by
  cases x with
  | none => cases h
  | some a => exact ⟨a, rfl, h⟩
theorem jdz_h {y : Int32} {α : Type} {X : Option α} {r : α} (h : (if y = 0 then none else X) = some r) : ¬ y = 0 ∧ X = some r := by
  by_cases q : y = 0
  · rw [if_pos q] at h; cases h
  · rw [if_neg q] at h; exact ⟨q, h⟩
theorem jif_t {c : Prop} [Decidable c] {α : Type} {X Y : α} {r : α} (q : c) (h : (if c then X else Y) = r) : X = r := by rw [if_pos q] at h; exact h
theorem jif_f {c : Prop} [Decidable c] {α : Type} {X Y : α} {r : α} (q : ¬ c) (h : (if c then X else Y) = r) : Y = r := by rw [if_neg q] at h; exact h
/-! A method over a world of cells: what it starts from, what it leaves, where its walk stands. -/
abbrev jPre (D : va_G) (cl : List vw_C) (tys : List (ClassId × FieldType)) (w : va_W) (sz : Nat) : State → Prop := fun U => U.heap.size = sz ∧ va_P D cl w U.heap ∧ va_K D cl tys U ∧ va_D (fun _ => True) w ∧ jN U
abbrev jPost {β : Type} (D : va_G) (cl : List vw_C) (tys : List (ClassId × FieldType)) (w : β → va_W) (Ap : Nat → Prop) : β → State → Prop := fun u t => va_P D cl (w u) t.heap ∧ va_K D cl tys t ∧ va_D Ap (w u)
abbrev jH (D : va_G) (cl : List vw_C) (tys : List (ClassId × FieldType)) (w : va_W) (Ap : Nat → Prop) (s : State) (H : Heap) (locs : List Loc) : Prop := va_K D cl tys s ∧ va_P D cl w H ∧ va_D Ap w ∧ va_S Ap s.heap H locs
abbrev jAt (p : Program) (s : State) (m : MethodId) (args : Array Value) (meth : Method) (c : Code) (cc : ByteArray) (nL : Nat) (ret : Option FieldType) (ws : List Cond) (own : String) : Prop :=
  p.tables.exec = Jvm.exec ∧ c.code = cc ∧ c.maxLocals = nL ∧ meth.sig.returnType = ret ∧ (∀ w ∈ ws, w.before args s = true) ∧ s.vm.findClass own = some m.cls ∧ meth.locks = false ∧ jN s
abbrev jQi {β : Type} (below : List Frame) (D : va_G) (cl : List vw_C) (tys : List (ClassId × FieldType)) (w' : β → va_W) (Ap : Nat → Prop) (args : Array Value) (s : State) (r : Int32) : State → Prop := MQ below (va_Qi (fun q (_ : β) => q = r) (jPost D cl tys w' Ap) Ap) args s 0 0 Ap
abbrev jQv {β : Type} (below : List Frame) (D : va_G) (cl : List vw_C) (tys : List (ClassId × FieldType)) (w' : β → va_W) (Ap : Nat → Prop) (args : Array Value) (s : State) : State → Prop := MQ below (va_Qv (fun (_ : β) => True) (jPost D cl tys w' Ap) Ap) args s 0 0 Ap
/-- a method that answers an int (or a boolean) -/
abbrev jCi {β : Type} (l : Launch) (y : MethodName) (ws : List Cond) (rm : Room) (D : va_G) (cl : List vw_C) (tys : List (ClassId × FieldType)) (as : List Value) (w : va_W) (sz : Nat) (r : Int32) (w' : β → va_W) : Prop :=
  Met l y ws rm (va_Pc as (jPre D cl tys w sz)) (va_Qi (fun q (_ : β) => q = r) (jPost D cl tys w' (va_A w sz)) (va_A w sz)) 0 0 (va_A w sz)
/-- a method that answers nothing -/
abbrev jCv {β : Type} (l : Launch) (y : MethodName) (ws : List Cond) (rm : Room) (D : va_G) (cl : List vw_C) (tys : List (ClassId × FieldType)) (as : List Value) (w : va_W) (sz : Nat) (w' : β → va_W) : Prop :=
  Met l y ws rm (va_Pc as (jPre D cl tys w sz)) (va_Qv (fun (_ : β) => True) (jPost D cl tys w' (va_A w sz)) (va_A w sz)) 0 0 (va_A w sz)
section JOf
variable {β : Type} {l : Launch} {y : MethodName} {ws ws' : List Cond} {rm : Room} {D : va_G} {cl : List vw_C} {tys : List (ClassId × FieldType)} {as : List Value} {w : va_W} {sz : Nat} {r : Int32} {w' : β → va_W} {cc : ByteArray} {nL : Nat} {ret : Option FieldType}
theorem jOf {Qc : (Nat → Prop) → Array Value → State → Outcome → State → Prop} (hy : plainName y.cls = true) (hw : ws = Cond.code y cc nL ret :: ws') (hsl : (lg_sl as).length ≤ nL)
    (body : ∀ (p : Program) (e : Env) (s : State) (m : MethodId) (below : List Frame) (meth : Method) (c : Code) (Ap : Nat → Prop) (ls : Array Slot), jAt p s m as.toArray meth c cc nL ret ws y.cls → (∀ q : Nat, s.heap.size ≤ q → Ap q) → jH D cl tys w Ap s s.heap [] → lv_has ls nL (lv_args 0 as) →
      W p l e (headSpec ws rm).room s m as.toArray below meth c s.heap [] 0 0 (MQ below (Qc Ap) as.toArray s 0 0 Ap) (F0 m 0 ls [])) :
    Met l y ws rm (va_Pc as (jPre D cl tys w sz)) (Qc (va_A w sz)) 0 0 (va_A w sz) := by
  refine Met.ofW (cc := cc) (maxL := nL) (ret := ret) hy hw ?_
  intro p e s m args below meth c s₁ B hml hv
  obtain ⟨rfl, hsz, hP, hK, hD0, hN⟩ := hv
  have hown : s.vm.findClass y.cls = some m.cls := findClass_of_methodNamed B.named
  subst hsz
  have hl := lv_entry as (n := nL) hsl
  rw [lg_entry_eq]
  exact body p e s m below meth c (va_A w s.heap.size) _ ⟨B.exec, B.bytes, hml, B.returns, atoms_spec (ws := ws) B.pre, hown, B.notSynchronized, hN⟩ (fun q h => Or.inr h) ⟨hK, hP, hD0.self, va_S.rf⟩ hl
end JOf
section JCall
variable {p : Program} {l : Launch} {e : Env} {R : Room} {s : State} {m : MethodId} {args : Array Value} {below : List Frame} {meth : Method} {c : Code} {H : Heap} {locs : List Loc} {cells slots : Nat} {Q : State → Prop}
variable {β : Type} {D : va_G} {cl : List vw_C} {tys : List (ClassId × FieldType)} {w : va_W} {w' : β → va_W} {Ap : Nat → Prop} {pc : Nat} {ls : Array Slot} {st0 rest : List Value} {r : Int32} {a : Array Value}
theorem jfree (hA : ∀ q : Nat, s.heap.size ≤ q → Ap q) (hJ : jH D cl tys w Ap s H locs) : ∀ q : Nat, va_A w H.size q → Ap q := by
  intro q hq
  rcases hq with ⟨k, e, hk⟩ | hq
  · exact hJ.2.2.1.2 k _ hk
  · exact hA q (Nat.le_trans hJ.2.2.2.1 hq)
theorem jblind {as : List Value} {sz : Nat} : FrameBlind (va_Pc as (jPre D cl tys w sz)) := by
  intro a U g mk q
  obtain ⟨q0, q1, qP, qK, qD, qN⟩ := q
  exact ⟨q0, q1, qP, va_K.moved (u := U) (U := U.calling g mk a) (Vm.Alike.refl U.vm) qK, qD, jN_same (u := U) (U := U.calling g mk a) rfl qN⟩
theorem jpreS {as : List Value} (hN : jN s) (hJ : jH D cl tys w Ap s H locs) : PreS s H (va_Pc as (jPre D cl tys w H.size)) as :=
  ⟨jblind, fun U hU hW => ⟨rfl, by rw [hU], by rw [hU]; exact hJ.2.1, va_K.moved hW.alike hJ.1, hJ.2.2.1.weaken (fun _ _ _ _ => trivial), jN_warm hW hN⟩⟩
theorem jpreV {as : List Value} {b q0 ci : Nat} {q : vw_C} {fs : List Value} (hN : jN s) (hJ : jH D cl tys w Ap s H locs) (hc : cl[ci]? = some q) (he : w[q0]? = some (b, .inr (ci, fs))) : PreV s H q.1 b (va_Pc (.ref b :: as) (jPre D cl tys w H.size)) as :=
  ⟨jblind, va_recv hJ.1 hJ.2.1 hc he, fun U hU hW => ⟨rfl, by rw [hU], by rw [hU]; exact hJ.2.1, va_K.moved hW.alike hJ.1, hJ.2.2.1.weaken (fun _ _ _ _ => trivial), jN_warm hW hN⟩⟩
theorem jcalli (hr : va_Run p l e R s m args below meth c H locs cells slots 0 0 (F0 m pc ls st0) rest (va_Qi (fun q (_ : β) => q = r) (jPost D cl tys w' (va_A w H.size)) (va_A w H.size) a) (va_A w H.size)) (hA : ∀ q : Nat, s.heap.size ≤ q → Ap q) (hJ : jH D cl tys w Ap s H locs)
    (kk : ∀ (u : β) (H1 : Heap) (locs1 : List Loc), jH D cl tys (w' u) Ap s H1 locs1 → W p l e R s m args below meth c H1 locs1 cells slots Q (F0 m (pc + 3) ls (.int r :: rest))) : W p l e R s m args below meth c H locs cells slots Q (F0 m pc ls st0) := by
  refine va_calli hr hJ.2.2.2 (fun q _ h => jfree hA hJ q h) (jfree hA hJ) (fun r1 u t H1 locs1 ht hvm hw hB hz1 hk1 hS => ?_)
  subst hw
  obtain ⟨hP1, hK1, hD1⟩ := hB
  rw [ht] at hP1
  exact kk u H1 locs1 ⟨hJ.1, hP1, hD1.weaken (fun k q _ h => jfree hA hJ _ h), hS⟩
theorem jcallv (hr : va_Run p l e R s m args below meth c H locs cells slots 0 0 (F0 m pc ls st0) rest (va_Qv (fun (_ : β) => True) (jPost D cl tys w' (va_A w H.size)) (va_A w H.size) a) (va_A w H.size)) (hA : ∀ q : Nat, s.heap.size ≤ q → Ap q) (hJ : jH D cl tys w Ap s H locs)
    (kk : ∀ (u : β) (H1 : Heap) (locs1 : List Loc), jH D cl tys (w' u) Ap s H1 locs1 → W p l e R s m args below meth c H1 locs1 cells slots Q (F0 m (pc + 3) ls rest)) : W p l e R s m args below meth c H locs cells slots Q (F0 m pc ls st0) := by
  refine va_callv hr hJ.2.2.2 (fun q _ h => jfree hA hJ q h) (jfree hA hJ) (fun u t H1 locs1 ht hvm hw hB hz1 hk1 hS => ?_)
  obtain ⟨hP1, hK1, hD1⟩ := hB
  rw [ht] at hP1
  exact kk u H1 locs1 ⟨hJ.1, hP1, hD1.weaken (fun k q _ h => jfree hA hJ _ h), hS⟩
theorem jreti {cc : ByteArray} {ty : FieldType} {u : β} {v : Int32} (hexec : p.tables.exec = Jvm.exec) (hb : c.code = cc) (hr : meth.sig.returnType = some ty) (hn : narrow ty (.int v) = .int v) (hlocks : meth.locks = false) (hJ : jH D cl tys (w' u) Ap s H locs) (hdg : decode cc pc = .ok (.ireturn, 1)) (he : v = r) :
    W p l e R s m args below meth c H locs 0 0 (MQ below (va_Qi (fun q (_ : β) => q = r) (jPost D cl tys w' Ap) Ap) args s 0 0 Ap) (F0 m pc ls [.int v]) :=
  W.zret hexec hb hr hn (fun t ht hW => ⟨⟨v, u, rfl, he, by rw [ht]; exact hJ.2.1, va_K.moved hW.alike hJ.1, hJ.2.2.1⟩, hJ.2.2.2.F ht⟩) hJ.2.2.2.2.2 hdg
theorem jretv {cc : ByteArray} {u : β} (hexec : p.tables.exec = Jvm.exec) (hb : c.code = cc) (hr : meth.sig.returnType = none) (hlocks : meth.locks = false) (hJ : jH D cl tys (w' u) Ap s H locs) (hdg : decode cc pc = .ok (.return_, 1)) :
    W p l e R s m args below meth c H locs 0 0 (MQ below (va_Qv (fun (_ : β) => True) (jPost D cl tys w' Ap) Ap) args s 0 0 Ap) (F0 m pc ls []) :=
  W.vret hexec hb hr (fun t ht hW => ⟨⟨u, rfl, trivial, by rw [ht]; exact hJ.2.1, va_K.moved hW.alike hJ.1, hJ.2.2.1⟩, hJ.2.2.2.F ht⟩) hJ.2.2.2.2.2 hdg
end JCall
end
section
theorem jw_1 : (Jvm.Cond.initialized "JoinHouse") ∈ jw := jw_at (i := 39) (by decide +kernel) (by decide +kernel)
theorem jw_2 : (Jvm.Cond.initialized "JoinHouse$Runner") ∈ jw := jw_at (i := 40) (by decide +kernel) (by decide +kernel)
theorem jw_3 : (Jvm.Cond.initialized "JoinHouse$Planner") ∈ jw := jw_at (i := 41) (by decide +kernel) (by decide +kernel)
theorem jw_4 : (Jvm.Cond.initialized "JoinHouse$Query") ∈ jw := jw_at (i := 42) (by decide +kernel) (by decide +kernel)
theorem jw_5 : (Jvm.Cond.initialized "JoinHouse$Tables") ∈ jw := jw_at (i := 43) (by decide +kernel) (by decide +kernel)
theorem jw_6 : (Jvm.Cond.initialized "JoinHouse$Sieve") ∈ jw := jw_at (i := 44) (by decide +kernel) (by decide +kernel)
theorem jw_14 : (Jvm.Cond.initialized "java/lang/Math") ∈ jw := jw_at (i := 52) (by decide +kernel) (by decide +kernel)
theorem jw_15 : (Jvm.Cond.initialized "java/lang/Integer") ∈ jw := jw_at (i := 53) (by decide +kernel) (by decide +kernel)
theorem jw_16 : (Jvm.Cond.initialized "java/util/Arrays") ∈ jw := jw_at (i := 54) (by decide +kernel) (by decide +kernel)
theorem jw_49 : (Jvm.Cond.fieldLink "JoinHouse$Tables" (9 : Nat) "JoinHouse$Tables" "cells" "[I") ∈ jw := jw_at (i := 87) (by decide +kernel) (by decide +kernel)
theorem jw_50 : (Jvm.Cond.fieldLink "JoinHouse$Tables" (15 : Nat) "JoinHouse$Tables" "counts" "[I") ∈ jw := jw_at (i := 88) (by decide +kernel) (by decide +kernel)
theorem jw_51 : (Jvm.Cond.fieldLink "JoinHouse$Tables" (18 : Nat) "JoinHouse$Tables" "indexed" "[I") ∈ jw := jw_at (i := 89) (by decide +kernel) (by decide +kernel)
theorem jw_52 : (Jvm.Cond.fieldLink "JoinHouse$Tables" (21 : Nat) "JoinHouse$Tables" "unlike" "[I") ∈ jw := jw_at (i := 90) (by decide +kernel) (by decide +kernel)
theorem jw_63 : (Jvm.Cond.fieldLink "JoinHouse$Query" (12 : Nat) "JoinHouse$Query" "tables" "LJoinHouse$Tables;") ∈ jw := jw_at (i := 101) (by decide +kernel) (by decide +kernel)
theorem jw_65 : (Jvm.Cond.fieldLink "JoinHouse$Query" (18 : Nat) "JoinHouse$Query" "tableOf" "[I") ∈ jw := jw_at (i := 103) (by decide +kernel) (by decide +kernel)
theorem jw_66 : (Jvm.Cond.fieldLink "JoinHouse$Query" (22 : Nat) "JoinHouse$Query" "kinds" "[I") ∈ jw := jw_at (i := 104) (by decide +kernel) (by decide +kernel)
theorem jw_68 : (Jvm.Cond.fieldLink "JoinHouse$Query" (25 : Nat) "JoinHouse$Query" "firsts" "[I") ∈ jw := jw_at (i := 106) (by decide +kernel) (by decide +kernel)
theorem jw_69 : (Jvm.Cond.fieldLink "JoinHouse$Query" (28 : Nat) "JoinHouse$Query" "firstColumns" "[I") ∈ jw := jw_at (i := 107) (by decide +kernel) (by decide +kernel)
theorem jw_70 : (Jvm.Cond.fieldLink "JoinHouse$Query" (31 : Nat) "JoinHouse$Query" "seconds" "[I") ∈ jw := jw_at (i := 108) (by decide +kernel) (by decide +kernel)
theorem jw_71 : (Jvm.Cond.fieldLink "JoinHouse$Query" (34 : Nat) "JoinHouse$Query" "secondColumns" "[I") ∈ jw := jw_at (i := 109) (by decide +kernel) (by decide +kernel)
theorem jw_72 : (Jvm.Cond.fieldLink "JoinHouse$Query" (37 : Nat) "JoinHouse$Query" "needed" "[I") ∈ jw := jw_at (i := 110) (by decide +kernel) (by decide +kernel)
theorem jw_73 : (Jvm.Cond.fieldLink "JoinHouse$Query" (40 : Nat) "JoinHouse$Query" "generators" "I") ∈ jw := jw_at (i := 111) (by decide +kernel) (by decide +kernel)
theorem jw_77 : (Jvm.Cond.fieldLink "JoinHouse$Query" (44 : Nat) "JoinHouse$Query" "conditions" "I") ∈ jw := jw_at (i := 115) (by decide +kernel) (by decide +kernel)
theorem jw_102 : (Jvm.Cond.fieldLink "JoinHouse$Planner" (12 : Nat) "JoinHouse$Planner" "query" "LJoinHouse$Query;") ∈ jw := jw_at (i := 140) (by decide +kernel) (by decide +kernel)
theorem jw_105 : (Jvm.Cond.fieldLink "JoinHouse$Planner" (18 : Nat) "JoinHouse$Planner" "sizes" "[I") ∈ jw := jw_at (i := 143) (by decide +kernel) (by decide +kernel)
theorem jw_106 : (Jvm.Cond.fieldLink "JoinHouse$Planner" (22 : Nat) "JoinHouse$Planner" "leastAfter" "[I") ∈ jw := jw_at (i := 144) (by decide +kernel) (by decide +kernel)
theorem jw_107 : (Jvm.Cond.fieldLink "JoinHouse$Planner" (25 : Nat) "JoinHouse$Planner" "order" "[I") ∈ jw := jw_at (i := 145) (by decide +kernel) (by decide +kernel)
theorem jw_125 : (Jvm.Cond.fieldLink "JoinHouse$Sieve" (9 : Nat) "JoinHouse$Sieve" "judged" "[I") ∈ jw := jw_at (i := 163) (by decide +kernel) (by decide +kernel)
theorem jw_126 : (Jvm.Cond.fieldLink "JoinHouse$Sieve" (15 : Nat) "JoinHouse$Sieve" "partners" "[I") ∈ jw := jw_at (i := 164) (by decide +kernel) (by decide +kernel)
theorem jw_127 : (Jvm.Cond.fieldLink "JoinHouse$Sieve" (18 : Nat) "JoinHouse$Sieve" "let" "[I") ∈ jw := jw_at (i := 165) (by decide +kernel) (by decide +kernel)
theorem jw_128 : (Jvm.Cond.fieldLink "JoinHouse$Sieve" (21 : Nat) "JoinHouse$Sieve" "count" "I") ∈ jw := jw_at (i := 166) (by decide +kernel) (by decide +kernel)
theorem jw_129 : (Jvm.Cond.fieldLink "JoinHouse$Sieve" (25 : Nat) "JoinHouse$Sieve" "everyRow" "I") ∈ jw := jw_at (i := 167) (by decide +kernel) (by decide +kernel)
theorem jw_141 : (Jvm.Cond.fieldLink "JoinHouse$Runner" (12 : Nat) "JoinHouse$Runner" "planner" "LJoinHouse$Planner;") ∈ jw := jw_at (i := 179) (by decide +kernel) (by decide +kernel)
theorem jw_143 : (Jvm.Cond.fieldLink "JoinHouse$Runner" (21 : Nat) "JoinHouse$Runner" "sieve" "LJoinHouse$Sieve;") ∈ jw := jw_at (i := 181) (by decide +kernel) (by decide +kernel)
theorem jw_144 : (Jvm.Cond.fieldLink "JoinHouse$Runner" (25 : Nat) "JoinHouse$Runner" "choices" "[I") ∈ jw := jw_at (i := 182) (by decide +kernel) (by decide +kernel)
theorem jw_145 : (Jvm.Cond.fieldLink "JoinHouse$Runner" (29 : Nat) "JoinHouse$Runner" "spare" "[I") ∈ jw := jw_at (i := 183) (by decide +kernel) (by decide +kernel)
theorem jw_146 : (Jvm.Cond.fieldLink "JoinHouse$Runner" (32 : Nat) "JoinHouse$Runner" "starts" "[I") ∈ jw := jw_at (i := 184) (by decide +kernel) (by decide +kernel)
theorem jw_147 : (Jvm.Cond.fieldLink "JoinHouse$Runner" (35 : Nat) "JoinHouse$Runner" "count" "I") ∈ jw := jw_at (i := 185) (by decide +kernel) (by decide +kernel)
theorem jw_148 : (Jvm.Cond.fieldLink "JoinHouse$Runner" (39 : Nat) "JoinHouse$Runner" "looked" "I") ∈ jw := jw_at (i := 186) (by decide +kernel) (by decide +kernel)
theorem jw_149 : (Jvm.Cond.fieldLink "JoinHouse$Runner" (42 : Nat) "JoinHouse$Runner" "kept" "[I") ∈ jw := jw_at (i := 187) (by decide +kernel) (by decide +kernel)
theorem jw_151 : (Jvm.Cond.fieldLink "JoinHouse$Runner" (45 : Nat) "JoinHouse$Runner" "keptWays" "I") ∈ jw := jw_at (i := 189) (by decide +kernel) (by decide +kernel)
theorem jw_153 : (Jvm.Cond.fieldLink "JoinHouse$Runner" (48 : Nat) "JoinHouse$Runner" "keptGenerators" "I") ∈ jw := jw_at (i := 191) (by decide +kernel) (by decide +kernel)
theorem jw_155 : (Jvm.Cond.fieldLink "JoinHouse$Runner" (51 : Nat) "JoinHouse$Runner" "keptLooked" "I") ∈ jw := jw_at (i := 193) (by decide +kernel) (by decide +kernel)
theorem jw_180 : (Jvm.Cond.fieldLink "JoinHouse" (12 : Nat) "JoinHouse" "runner" "LJoinHouse$Runner;") ∈ jw := jw_at (i := 218) (by decide +kernel) (by decide +kernel)
theorem jw_181 : (Jvm.Cond.fieldLink "JoinHouse" (20 : Nat) "JoinHouse" "planner" "LJoinHouse$Planner;") ∈ jw := jw_at (i := 219) (by decide +kernel) (by decide +kernel)
theorem jw_182 : (Jvm.Cond.fieldLink "JoinHouse" (27 : Nat) "JoinHouse" "query" "LJoinHouse$Query;") ∈ jw := jw_at (i := 220) (by decide +kernel) (by decide +kernel)
theorem jw_183 : (Jvm.Cond.fieldLink "JoinHouse" (34 : Nat) "JoinHouse" "tables" "LJoinHouse$Tables;") ∈ jw := jw_at (i := 221) (by decide +kernel) (by decide +kernel)
theorem jw_197 : (Jvm.Cond.methodLink "JoinHouse" (67 : Nat) ({ cls := "JoinHouse$Query", name := "empty", desc := "()V" } : Jvm.MethodName)) ∈ jw := jw_at (i := 235) (by decide +kernel) (by decide +kernel)
theorem jw_198 : (Jvm.Cond.instanceMethod ({ cls := "JoinHouse$Query", name := "empty", desc := "()V" } : Jvm.MethodName)) ∈ jw := jw_at (i := 236) (by decide +kernel) (by decide +kernel)
theorem jw_199 : (Jvm.Cond.selects "JoinHouse$Query" ({ cls := "JoinHouse$Query", name := "empty", desc := "()V" } : Jvm.MethodName) ({ cls := "JoinHouse$Query", name := "empty", desc := "()V" } : Jvm.MethodName)) ∈ jw := jw_at (i := 237) (by decide +kernel) (by decide +kernel)
theorem jw_200 : (Jvm.Cond.code ({ cls := "JoinHouse$Query", name := "empty", desc := "()V" } : Jvm.MethodName) prog_3_method_2_code (1 : Nat) (Option.none : Option Jvm.ClassFile.FieldType)) ∈ jw := jw_at (i := 238) (by decide +kernel) (by decide +kernel)
theorem jw_213 : (Jvm.Cond.methodLink "JoinHouse" (35 : Nat) ({ cls := "JoinHouse", name := "isTable", desc := "(I)Z" } : Jvm.MethodName)) ∈ jw := jw_at (i := 251) (by decide +kernel) (by decide +kernel)
theorem jw_214 : (Jvm.Cond.static ({ cls := "JoinHouse", name := "isTable", desc := "(I)Z" } : Jvm.MethodName)) ∈ jw := jw_at (i := 252) (by decide +kernel) (by decide +kernel)
theorem jw_215 : (Jvm.Cond.code ({ cls := "JoinHouse", name := "isTable", desc := "(I)Z" } : Jvm.MethodName) prog_1_method_18_code (1 : Nat) (Option.some Jvm.ClassFile.FieldType.boolean)) ∈ jw := jw_at (i := 253) (by decide +kernel) (by decide +kernel)
theorem jw_285 : (Jvm.Cond.methodLink "JoinHouse" (48 : Nat) ({ cls := "JoinHouse$Tables", name := "empty", desc := "(II)V" } : Jvm.MethodName)) ∈ jw := jw_at (i := 323) (by decide +kernel) (by decide +kernel)
theorem jw_286 : (Jvm.Cond.instanceMethod ({ cls := "JoinHouse$Tables", name := "empty", desc := "(II)V" } : Jvm.MethodName)) ∈ jw := jw_at (i := 324) (by decide +kernel) (by decide +kernel)
theorem jw_287 : (Jvm.Cond.selects "JoinHouse$Tables" ({ cls := "JoinHouse$Tables", name := "empty", desc := "(II)V" } : Jvm.MethodName) ({ cls := "JoinHouse$Tables", name := "empty", desc := "(II)V" } : Jvm.MethodName)) ∈ jw := jw_at (i := 325) (by decide +kernel) (by decide +kernel)
theorem jw_288 : (Jvm.Cond.code ({ cls := "JoinHouse$Tables", name := "empty", desc := "(II)V" } : Jvm.MethodName) prog_6_method_2_code (4 : Nat) (Option.none : Option Jvm.ClassFile.FieldType)) ∈ jw := jw_at (i := 326) (by decide +kernel) (by decide +kernel)
theorem jw_297 : (Jvm.Cond.methodLink "JoinHouse" (54 : Nat) ({ cls := "JoinHouse$Tables", name := "rows", desc := "(I)I" } : Jvm.MethodName)) ∈ jw := jw_at (i := 335) (by decide +kernel) (by decide +kernel)
theorem jw_298 : (Jvm.Cond.instanceMethod ({ cls := "JoinHouse$Tables", name := "rows", desc := "(I)I" } : Jvm.MethodName)) ∈ jw := jw_at (i := 336) (by decide +kernel) (by decide +kernel)
theorem jw_299 : (Jvm.Cond.selects "JoinHouse$Tables" ({ cls := "JoinHouse$Tables", name := "rows", desc := "(I)I" } : Jvm.MethodName) ({ cls := "JoinHouse$Tables", name := "rows", desc := "(I)I" } : Jvm.MethodName)) ∈ jw := jw_at (i := 337) (by decide +kernel) (by decide +kernel)
theorem jw_300 : (Jvm.Cond.code ({ cls := "JoinHouse$Tables", name := "rows", desc := "(I)I" } : Jvm.MethodName) prog_6_method_4_code (2 : Nat) (Option.some Jvm.ClassFile.FieldType.int)) ∈ jw := jw_at (i := 338) (by decide +kernel) (by decide +kernel)
theorem jw_317 : (Jvm.Cond.methodLink "JoinHouse" (63 : Nat) ({ cls := "JoinHouse$Tables", name := "add", desc := "(IIIII)I" } : Jvm.MethodName)) ∈ jw := jw_at (i := 355) (by decide +kernel) (by decide +kernel)
theorem jw_318 : (Jvm.Cond.instanceMethod ({ cls := "JoinHouse$Tables", name := "add", desc := "(IIIII)I" } : Jvm.MethodName)) ∈ jw := jw_at (i := 356) (by decide +kernel) (by decide +kernel)
theorem jw_319 : (Jvm.Cond.selects "JoinHouse$Tables" ({ cls := "JoinHouse$Tables", name := "add", desc := "(IIIII)I" } : Jvm.MethodName) ({ cls := "JoinHouse$Tables", name := "add", desc := "(IIIII)I" } : Jvm.MethodName)) ∈ jw := jw_at (i := 357) (by decide +kernel) (by decide +kernel)
theorem jw_320 : (Jvm.Cond.code ({ cls := "JoinHouse$Tables", name := "add", desc := "(IIIII)I" } : Jvm.MethodName) prog_6_method_3_code (7 : Nat) (Option.some Jvm.ClassFile.FieldType.int)) ∈ jw := jw_at (i := 358) (by decide +kernel) (by decide +kernel)
theorem jw_321 : (Jvm.Cond.methodLink "JoinHouse$Tables" (24 : Nat) ({ cls := "JoinHouse$Tables", name := "put", desc := "(III)V" } : Jvm.MethodName)) ∈ jw := jw_at (i := 359) (by decide +kernel) (by decide +kernel)
theorem jw_323 : (Jvm.Cond.instanceMethod ({ cls := "JoinHouse$Tables", name := "put", desc := "(III)V" } : Jvm.MethodName)) ∈ jw := jw_at (i := 361) (by decide +kernel) (by decide +kernel)
theorem jw_324 : (Jvm.Cond.code ({ cls := "JoinHouse$Tables", name := "put", desc := "(III)V" } : Jvm.MethodName) prog_6_method_8_code (4 : Nat) (Option.none : Option Jvm.ClassFile.FieldType)) ∈ jw := jw_at (i := 362) (by decide +kernel) (by decide +kernel)
theorem jw_325 : (Jvm.Cond.methodLink "JoinHouse$Tables" (34 : Nat) ({ cls := "JoinHouse$Tables", name := "hasValue", desc := "(III)Z" } : Jvm.MethodName)) ∈ jw := jw_at (i := 363) (by decide +kernel) (by decide +kernel)
theorem jw_327 : (Jvm.Cond.instanceMethod ({ cls := "JoinHouse$Tables", name := "hasValue", desc := "(III)Z" } : Jvm.MethodName)) ∈ jw := jw_at (i := 365) (by decide +kernel) (by decide +kernel)
theorem jw_328 : (Jvm.Cond.code ({ cls := "JoinHouse$Tables", name := "hasValue", desc := "(III)Z" } : Jvm.MethodName) prog_6_method_9_code (5 : Nat) (Option.some Jvm.ClassFile.FieldType.boolean)) ∈ jw := jw_at (i := 366) (by decide +kernel) (by decide +kernel)
theorem jw_329 : (Jvm.Cond.methodLink "JoinHouse$Tables" (38 : Nat) ({ cls := "JoinHouse$Tables", name := "value", desc := "(III)I" } : Jvm.MethodName)) ∈ jw := jw_at (i := 367) (by decide +kernel) (by decide +kernel)
theorem jw_330 : (Jvm.Cond.instanceMethod ({ cls := "JoinHouse$Tables", name := "value", desc := "(III)I" } : Jvm.MethodName)) ∈ jw := jw_at (i := 368) (by decide +kernel) (by decide +kernel)
theorem jw_331 : (Jvm.Cond.selects "JoinHouse$Tables" ({ cls := "JoinHouse$Tables", name := "value", desc := "(III)I" } : Jvm.MethodName) ({ cls := "JoinHouse$Tables", name := "value", desc := "(III)I" } : Jvm.MethodName)) ∈ jw := jw_at (i := 369) (by decide +kernel) (by decide +kernel)
theorem jw_332 : (Jvm.Cond.code ({ cls := "JoinHouse$Tables", name := "value", desc := "(III)I" } : Jvm.MethodName) prog_6_method_5_code (4 : Nat) (Option.some Jvm.ClassFile.FieldType.int)) ∈ jw := jw_at (i := 370) (by decide +kernel) (by decide +kernel)
theorem jw_341 : (Jvm.Cond.methodLink "JoinHouse" (75 : Nat) ({ cls := "JoinHouse$Query", name := "addGenerator", desc := "(I)I" } : Jvm.MethodName)) ∈ jw := jw_at (i := 379) (by decide +kernel) (by decide +kernel)
theorem jw_342 : (Jvm.Cond.instanceMethod ({ cls := "JoinHouse$Query", name := "addGenerator", desc := "(I)I" } : Jvm.MethodName)) ∈ jw := jw_at (i := 380) (by decide +kernel) (by decide +kernel)
theorem jw_343 : (Jvm.Cond.selects "JoinHouse$Query" ({ cls := "JoinHouse$Query", name := "addGenerator", desc := "(I)I" } : Jvm.MethodName) ({ cls := "JoinHouse$Query", name := "addGenerator", desc := "(I)I" } : Jvm.MethodName)) ∈ jw := jw_at (i := 381) (by decide +kernel) (by decide +kernel)
theorem jw_344 : (Jvm.Cond.code ({ cls := "JoinHouse$Query", name := "addGenerator", desc := "(I)I" } : Jvm.MethodName) prog_3_method_3_code (3 : Nat) (Option.some Jvm.ClassFile.FieldType.int)) ∈ jw := jw_at (i := 382) (by decide +kernel) (by decide +kernel)
theorem jw_352 : (Jvm.Cond.methodLink "JoinHouse" (78 : Nat) ({ cls := "JoinHouse", name := "checkSide", desc := "(II)V" } : Jvm.MethodName)) ∈ jw := jw_at (i := 390) (by decide +kernel) (by decide +kernel)
theorem jw_354 : (Jvm.Cond.instanceMethod ({ cls := "JoinHouse", name := "checkSide", desc := "(II)V" } : Jvm.MethodName)) ∈ jw := jw_at (i := 392) (by decide +kernel) (by decide +kernel)
theorem jw_355 : (Jvm.Cond.code ({ cls := "JoinHouse", name := "checkSide", desc := "(II)V" } : Jvm.MethodName) prog_1_method_15_code (3 : Nat) (Option.none : Option Jvm.ClassFile.FieldType)) ∈ jw := jw_at (i := 393) (by decide +kernel) (by decide +kernel)
theorem jw_357 : (Jvm.Cond.methodLink "JoinHouse" (81 : Nat) ({ cls := "JoinHouse", name := "checkConditionsLeft", desc := "()V" } : Jvm.MethodName)) ∈ jw := jw_at (i := 395) (by decide +kernel) (by decide +kernel)
theorem jw_359 : (Jvm.Cond.instanceMethod ({ cls := "JoinHouse", name := "checkConditionsLeft", desc := "()V" } : Jvm.MethodName)) ∈ jw := jw_at (i := 397) (by decide +kernel) (by decide +kernel)
theorem jw_360 : (Jvm.Cond.code ({ cls := "JoinHouse", name := "checkConditionsLeft", desc := "()V" } : Jvm.MethodName) prog_1_method_16_code (1 : Nat) (Option.none : Option Jvm.ClassFile.FieldType)) ∈ jw := jw_at (i := 398) (by decide +kernel) (by decide +kernel)
theorem jw_362 : (Jvm.Cond.methodLink "JoinHouse" (84 : Nat) ({ cls := "JoinHouse$Query", name := "addCondition", desc := "(IIIII)I" } : Jvm.MethodName)) ∈ jw := jw_at (i := 400) (by decide +kernel) (by decide +kernel)
theorem jw_363 : (Jvm.Cond.instanceMethod ({ cls := "JoinHouse$Query", name := "addCondition", desc := "(IIIII)I" } : Jvm.MethodName)) ∈ jw := jw_at (i := 401) (by decide +kernel) (by decide +kernel)
theorem jw_364 : (Jvm.Cond.selects "JoinHouse$Query" ({ cls := "JoinHouse$Query", name := "addCondition", desc := "(IIIII)I" } : Jvm.MethodName) ({ cls := "JoinHouse$Query", name := "addCondition", desc := "(IIIII)I" } : Jvm.MethodName)) ∈ jw := jw_at (i := 402) (by decide +kernel) (by decide +kernel)
theorem jw_365 : (Jvm.Cond.code ({ cls := "JoinHouse$Query", name := "addCondition", desc := "(IIIII)I" } : Jvm.MethodName) prog_3_method_4_code (7 : Nat) (Option.some Jvm.ClassFile.FieldType.int)) ∈ jw := jw_at (i := 403) (by decide +kernel) (by decide +kernel)
theorem jw_388 : (Jvm.Cond.methodLink "JoinHouse" (87 : Nat) ({ cls := "JoinHouse", name := "checkPlace", desc := "(I)V" } : Jvm.MethodName)) ∈ jw := jw_at (i := 426) (by decide +kernel) (by decide +kernel)
theorem jw_390 : (Jvm.Cond.instanceMethod ({ cls := "JoinHouse", name := "checkPlace", desc := "(I)V" } : Jvm.MethodName)) ∈ jw := jw_at (i := 428) (by decide +kernel) (by decide +kernel)
theorem jw_391 : (Jvm.Cond.code ({ cls := "JoinHouse", name := "checkPlace", desc := "(I)V" } : Jvm.MethodName) prog_1_method_17_code (2 : Nat) (Option.none : Option Jvm.ClassFile.FieldType)) ∈ jw := jw_at (i := 429) (by decide +kernel) (by decide +kernel)
theorem jw_408 : (Jvm.Cond.methodLink "JoinHouse" (91 : Nat) ({ cls := "JoinHouse$Planner", name := "make", desc := "()V" } : Jvm.MethodName)) ∈ jw := jw_at (i := 446) (by decide +kernel) (by decide +kernel)
theorem jw_409 : (Jvm.Cond.instanceMethod ({ cls := "JoinHouse$Planner", name := "make", desc := "()V" } : Jvm.MethodName)) ∈ jw := jw_at (i := 447) (by decide +kernel) (by decide +kernel)
theorem jw_410 : (Jvm.Cond.selects "JoinHouse$Planner" ({ cls := "JoinHouse$Planner", name := "make", desc := "()V" } : Jvm.MethodName) ({ cls := "JoinHouse$Planner", name := "make", desc := "()V" } : Jvm.MethodName)) ∈ jw := jw_at (i := 448) (by decide +kernel) (by decide +kernel)
theorem jw_411 : (Jvm.Cond.code ({ cls := "JoinHouse$Planner", name := "make", desc := "()V" } : Jvm.MethodName) prog_2_method_2_code (4 : Nat) (Option.none : Option Jvm.ClassFile.FieldType)) ∈ jw := jw_at (i := 449) (by decide +kernel) (by decide +kernel)
theorem jw_412 : (Jvm.Cond.methodLink "JoinHouse$Planner" (32 : Nat) ({ cls := "JoinHouse$Planner", name := "sizeOf", desc := "(I)I" } : Jvm.MethodName)) ∈ jw := jw_at (i := 450) (by decide +kernel) (by decide +kernel)
theorem jw_414 : (Jvm.Cond.instanceMethod ({ cls := "JoinHouse$Planner", name := "sizeOf", desc := "(I)I" } : Jvm.MethodName)) ∈ jw := jw_at (i := 452) (by decide +kernel) (by decide +kernel)
theorem jw_415 : (Jvm.Cond.code ({ cls := "JoinHouse$Planner", name := "sizeOf", desc := "(I)I" } : Jvm.MethodName) prog_2_method_7_code (4 : Nat) (Option.some Jvm.ClassFile.FieldType.int)) ∈ jw := jw_at (i := 453) (by decide +kernel) (by decide +kernel)
theorem jw_417 : (Jvm.Cond.static ({ cls := "JoinHouse", name := "isIn", desc := "(II)Z" } : Jvm.MethodName)) ∈ jw := jw_at (i := 455) (by decide +kernel) (by decide +kernel)
theorem jw_418 : (Jvm.Cond.code ({ cls := "JoinHouse", name := "isIn", desc := "(II)Z" } : Jvm.MethodName) prog_1_method_19_code (2 : Nat) (Option.some Jvm.ClassFile.FieldType.boolean)) ∈ jw := jw_at (i := 456) (by decide +kernel) (by decide +kernel)
theorem jw_419 : (Jvm.Cond.methodLink "JoinHouse$Planner" (66 : Nat) ({ cls := "JoinHouse$Query", name := "rowsOf", desc := "(I)I" } : Jvm.MethodName)) ∈ jw := jw_at (i := 457) (by decide +kernel) (by decide +kernel)
theorem jw_420 : (Jvm.Cond.instanceMethod ({ cls := "JoinHouse$Query", name := "rowsOf", desc := "(I)I" } : Jvm.MethodName)) ∈ jw := jw_at (i := 458) (by decide +kernel) (by decide +kernel)
theorem jw_421 : (Jvm.Cond.selects "JoinHouse$Query" ({ cls := "JoinHouse$Query", name := "rowsOf", desc := "(I)I" } : Jvm.MethodName) ({ cls := "JoinHouse$Query", name := "rowsOf", desc := "(I)I" } : Jvm.MethodName)) ∈ jw := jw_at (i := 459) (by decide +kernel) (by decide +kernel)
theorem jw_422 : (Jvm.Cond.code ({ cls := "JoinHouse$Query", name := "rowsOf", desc := "(I)I" } : Jvm.MethodName) prog_3_method_5_code (2 : Nat) (Option.some Jvm.ClassFile.FieldType.int)) ∈ jw := jw_at (i := 460) (by decide +kernel) (by decide +kernel)
theorem jw_423 : (Jvm.Cond.methodLink "JoinHouse$Query" (47 : Nat) ({ cls := "JoinHouse$Tables", name := "rows", desc := "(I)I" } : Jvm.MethodName)) ∈ jw := jw_at (i := 461) (by decide +kernel) (by decide +kernel)
theorem jw_424 : (Jvm.Cond.methodLink "JoinHouse$Planner" (69 : Nat) ({ cls := "JoinHouse$Query", name := "isWithin", desc := "(II)Z" } : Jvm.MethodName)) ∈ jw := jw_at (i := 462) (by decide +kernel) (by decide +kernel)
theorem jw_425 : (Jvm.Cond.instanceMethod ({ cls := "JoinHouse$Query", name := "isWithin", desc := "(II)Z" } : Jvm.MethodName)) ∈ jw := jw_at (i := 463) (by decide +kernel) (by decide +kernel)
theorem jw_426 : (Jvm.Cond.selects "JoinHouse$Query" ({ cls := "JoinHouse$Query", name := "isWithin", desc := "(II)Z" } : Jvm.MethodName) ({ cls := "JoinHouse$Query", name := "isWithin", desc := "(II)Z" } : Jvm.MethodName)) ∈ jw := jw_at (i := 464) (by decide +kernel) (by decide +kernel)
theorem jw_427 : (Jvm.Cond.code ({ cls := "JoinHouse$Query", name := "isWithin", desc := "(II)Z" } : Jvm.MethodName) prog_3_method_6_code (3 : Nat) (Option.some Jvm.ClassFile.FieldType.boolean)) ∈ jw := jw_at (i := 465) (by decide +kernel) (by decide +kernel)
theorem jw_428 : (Jvm.Cond.methodLink "JoinHouse$Planner" (72 : Nat) ({ cls := "JoinHouse$Query", name := "divisor", desc := "(I)I" } : Jvm.MethodName)) ∈ jw := jw_at (i := 466) (by decide +kernel) (by decide +kernel)
theorem jw_429 : (Jvm.Cond.instanceMethod ({ cls := "JoinHouse$Query", name := "divisor", desc := "(I)I" } : Jvm.MethodName)) ∈ jw := jw_at (i := 467) (by decide +kernel) (by decide +kernel)
theorem jw_430 : (Jvm.Cond.selects "JoinHouse$Query" ({ cls := "JoinHouse$Query", name := "divisor", desc := "(I)I" } : Jvm.MethodName) ({ cls := "JoinHouse$Query", name := "divisor", desc := "(I)I" } : Jvm.MethodName)) ∈ jw := jw_at (i := 468) (by decide +kernel) (by decide +kernel)
theorem jw_431 : (Jvm.Cond.code ({ cls := "JoinHouse$Query", name := "divisor", desc := "(I)I" } : Jvm.MethodName) prog_3_method_11_code (3 : Nat) (Option.some Jvm.ClassFile.FieldType.int)) ∈ jw := jw_at (i := 469) (by decide +kernel) (by decide +kernel)
theorem jw_432 : (Jvm.Cond.methodLink "JoinHouse$Query" (66 : Nat) ({ cls := "JoinHouse$Tables", name := "spread", desc := "(II)I" } : Jvm.MethodName)) ∈ jw := jw_at (i := 470) (by decide +kernel) (by decide +kernel)
theorem jw_433 : (Jvm.Cond.instanceMethod ({ cls := "JoinHouse$Tables", name := "spread", desc := "(II)I" } : Jvm.MethodName)) ∈ jw := jw_at (i := 471) (by decide +kernel) (by decide +kernel)
theorem jw_434 : (Jvm.Cond.selects "JoinHouse$Tables" ({ cls := "JoinHouse$Tables", name := "spread", desc := "(II)I" } : Jvm.MethodName) ({ cls := "JoinHouse$Tables", name := "spread", desc := "(II)I" } : Jvm.MethodName)) ∈ jw := jw_at (i := 472) (by decide +kernel) (by decide +kernel)
theorem jw_435 : (Jvm.Cond.code ({ cls := "JoinHouse$Tables", name := "spread", desc := "(II)I" } : Jvm.MethodName) prog_6_method_6_code (3 : Nat) (Option.some Jvm.ClassFile.FieldType.int)) ∈ jw := jw_at (i := 473) (by decide +kernel) (by decide +kernel)
theorem jw_436 : (Jvm.Cond.methodLink "JoinHouse$Tables" (28 : Nat) ({ cls := "java/lang/Math", name := "max", desc := "(II)I" } : Jvm.MethodName)) ∈ jw := jw_at (i := 474) (by decide +kernel) (by decide +kernel)
theorem jw_437 : (Jvm.Cond.static ({ cls := "java/lang/Math", name := "max", desc := "(II)I" } : Jvm.MethodName)) ∈ jw := jw_at (i := 475) (by decide +kernel) (by decide +kernel)
theorem jw_438 : (Jvm.Cond.code ({ cls := "java/lang/Math", name := "max", desc := "(II)I" } : Jvm.MethodName) prog_12_method_65_code (2 : Nat) (Option.some Jvm.ClassFile.FieldType.int)) ∈ jw := jw_at (i := 476) (by decide +kernel) (by decide +kernel)
theorem jw_439 : (Jvm.Cond.methodLink "JoinHouse$Query" (69 : Nat) ({ cls := "java/lang/Math", name := "max", desc := "(II)I" } : Jvm.MethodName)) ∈ jw := jw_at (i := 477) (by decide +kernel) (by decide +kernel)
theorem jw_440 : (Jvm.Cond.methodLink "JoinHouse$Planner" (75 : Nat) ({ cls := "JoinHouse$Planner", name := "dividedUp", desc := "(II)I" } : Jvm.MethodName)) ∈ jw := jw_at (i := 478) (by decide +kernel) (by decide +kernel)
theorem jw_441 : (Jvm.Cond.static ({ cls := "JoinHouse$Planner", name := "dividedUp", desc := "(II)I" } : Jvm.MethodName)) ∈ jw := jw_at (i := 479) (by decide +kernel) (by decide +kernel)
theorem jw_442 : (Jvm.Cond.code ({ cls := "JoinHouse$Planner", name := "dividedUp", desc := "(II)I" } : Jvm.MethodName) prog_2_method_8_code (2 : Nat) (Option.some Jvm.ClassFile.FieldType.int)) ∈ jw := jw_at (i := 480) (by decide +kernel) (by decide +kernel)
theorem jw_443 : (Jvm.Cond.methodLink "JoinHouse$Planner" (36 : Nat) ({ cls := "JoinHouse$Planner", name := "bestAfter", desc := "(I)I" } : Jvm.MethodName)) ∈ jw := jw_at (i := 481) (by decide +kernel) (by decide +kernel)
theorem jw_445 : (Jvm.Cond.instanceMethod ({ cls := "JoinHouse$Planner", name := "bestAfter", desc := "(I)I" } : Jvm.MethodName)) ∈ jw := jw_at (i := 483) (by decide +kernel) (by decide +kernel)
theorem jw_446 : (Jvm.Cond.code ({ cls := "JoinHouse$Planner", name := "bestAfter", desc := "(I)I" } : Jvm.MethodName) prog_2_method_9_code (4 : Nat) (Option.some Jvm.ClassFile.FieldType.int)) ∈ jw := jw_at (i := 484) (by decide +kernel) (by decide +kernel)
theorem jw_447 : (Jvm.Cond.methodLink "JoinHouse$Planner" (39 : Nat) ({ cls := "JoinHouse$Planner", name := "sumFrom", desc := "(II)I" } : Jvm.MethodName)) ∈ jw := jw_at (i := 485) (by decide +kernel) (by decide +kernel)
theorem jw_449 : (Jvm.Cond.instanceMethod ({ cls := "JoinHouse$Planner", name := "sumFrom", desc := "(II)I" } : Jvm.MethodName)) ∈ jw := jw_at (i := 487) (by decide +kernel) (by decide +kernel)
theorem jw_450 : (Jvm.Cond.code ({ cls := "JoinHouse$Planner", name := "sumFrom", desc := "(II)I" } : Jvm.MethodName) prog_2_method_10_code (4 : Nat) (Option.some Jvm.ClassFile.FieldType.int)) ∈ jw := jw_at (i := 488) (by decide +kernel) (by decide +kernel)
theorem jw_458 : (Jvm.Cond.methodLink "JoinHouse" (98 : Nat) ({ cls := "JoinHouse$Planner", name := "methodAt", desc := "(I)I" } : Jvm.MethodName)) ∈ jw := jw_at (i := 496) (by decide +kernel) (by decide +kernel)
theorem jw_459 : (Jvm.Cond.instanceMethod ({ cls := "JoinHouse$Planner", name := "methodAt", desc := "(I)I" } : Jvm.MethodName)) ∈ jw := jw_at (i := 497) (by decide +kernel) (by decide +kernel)
theorem jw_460 : (Jvm.Cond.selects "JoinHouse$Planner" ({ cls := "JoinHouse$Planner", name := "methodAt", desc := "(I)I" } : Jvm.MethodName) ({ cls := "JoinHouse$Planner", name := "methodAt", desc := "(I)I" } : Jvm.MethodName)) ∈ jw := jw_at (i := 498) (by decide +kernel) (by decide +kernel)
theorem jw_461 : (Jvm.Cond.code ({ cls := "JoinHouse$Planner", name := "methodAt", desc := "(I)I" } : Jvm.MethodName) prog_2_method_4_code (4 : Nat) (Option.some Jvm.ClassFile.FieldType.int)) ∈ jw := jw_at (i := 499) (by decide +kernel) (by decide +kernel)
theorem jw_462 : (Jvm.Cond.methodLink "JoinHouse$Planner" (43 : Nat) ({ cls := "JoinHouse$Planner", name := "aheadOf", desc := "(I)I" } : Jvm.MethodName)) ∈ jw := jw_at (i := 500) (by decide +kernel) (by decide +kernel)
theorem jw_464 : (Jvm.Cond.instanceMethod ({ cls := "JoinHouse$Planner", name := "aheadOf", desc := "(I)I" } : Jvm.MethodName)) ∈ jw := jw_at (i := 502) (by decide +kernel) (by decide +kernel)
theorem jw_465 : (Jvm.Cond.code ({ cls := "JoinHouse$Planner", name := "aheadOf", desc := "(I)I" } : Jvm.MethodName) prog_2_method_6_code (4 : Nat) (Option.some Jvm.ClassFile.FieldType.int)) ∈ jw := jw_at (i := 503) (by decide +kernel) (by decide +kernel)
theorem jw_466 : (Jvm.Cond.methodLink "JoinHouse$Planner" (46 : Nat) ({ cls := "JoinHouse$Planner", name := "conditionFor", desc := "(II)I" } : Jvm.MethodName)) ∈ jw := jw_at (i := 504) (by decide +kernel) (by decide +kernel)
theorem jw_467 : (Jvm.Cond.instanceMethod ({ cls := "JoinHouse$Planner", name := "conditionFor", desc := "(II)I" } : Jvm.MethodName)) ∈ jw := jw_at (i := 505) (by decide +kernel) (by decide +kernel)
theorem jw_468 : (Jvm.Cond.selects "JoinHouse$Planner" ({ cls := "JoinHouse$Planner", name := "conditionFor", desc := "(II)I" } : Jvm.MethodName) ({ cls := "JoinHouse$Planner", name := "conditionFor", desc := "(II)I" } : Jvm.MethodName)) ∈ jw := jw_at (i := 506) (by decide +kernel) (by decide +kernel)
theorem jw_469 : (Jvm.Cond.code ({ cls := "JoinHouse$Planner", name := "conditionFor", desc := "(II)I" } : Jvm.MethodName) prog_2_method_5_code (5 : Nat) (Option.some Jvm.ClassFile.FieldType.int)) ∈ jw := jw_at (i := 507) (by decide +kernel) (by decide +kernel)
theorem jw_470 : (Jvm.Cond.methodLink "JoinHouse$Planner" (56 : Nat) ({ cls := "JoinHouse$Query", name := "tellsValue", desc := "(III)Z" } : Jvm.MethodName)) ∈ jw := jw_at (i := 508) (by decide +kernel) (by decide +kernel)
theorem jw_471 : (Jvm.Cond.instanceMethod ({ cls := "JoinHouse$Query", name := "tellsValue", desc := "(III)Z" } : Jvm.MethodName)) ∈ jw := jw_at (i := 509) (by decide +kernel) (by decide +kernel)
theorem jw_472 : (Jvm.Cond.selects "JoinHouse$Query" ({ cls := "JoinHouse$Query", name := "tellsValue", desc := "(III)Z" } : Jvm.MethodName) ({ cls := "JoinHouse$Query", name := "tellsValue", desc := "(III)Z" } : Jvm.MethodName)) ∈ jw := jw_at (i := 510) (by decide +kernel) (by decide +kernel)
theorem jw_473 : (Jvm.Cond.code ({ cls := "JoinHouse$Query", name := "tellsValue", desc := "(III)Z" } : Jvm.MethodName) prog_3_method_9_code (4 : Nat) (Option.some Jvm.ClassFile.FieldType.boolean)) ∈ jw := jw_at (i := 511) (by decide +kernel) (by decide +kernel)
theorem jw_474 : (Jvm.Cond.methodLink "JoinHouse$Query" (55 : Nat) ({ cls := "JoinHouse$Query", name := "isJudgedAt", desc := "(III)Z" } : Jvm.MethodName)) ∈ jw := jw_at (i := 512) (by decide +kernel) (by decide +kernel)
theorem jw_475 : (Jvm.Cond.instanceMethod ({ cls := "JoinHouse$Query", name := "isJudgedAt", desc := "(III)Z" } : Jvm.MethodName)) ∈ jw := jw_at (i := 513) (by decide +kernel) (by decide +kernel)
theorem jw_476 : (Jvm.Cond.selects "JoinHouse$Query" ({ cls := "JoinHouse$Query", name := "isJudgedAt", desc := "(III)Z" } : Jvm.MethodName) ({ cls := "JoinHouse$Query", name := "isJudgedAt", desc := "(III)Z" } : Jvm.MethodName)) ∈ jw := jw_at (i := 514) (by decide +kernel) (by decide +kernel)
theorem jw_477 : (Jvm.Cond.code ({ cls := "JoinHouse$Query", name := "isJudgedAt", desc := "(III)Z" } : Jvm.MethodName) prog_3_method_7_code (4 : Nat) (Option.some Jvm.ClassFile.FieldType.boolean)) ∈ jw := jw_at (i := 515) (by decide +kernel) (by decide +kernel)
theorem jw_478 : (Jvm.Cond.methodLink "JoinHouse$Query" (51 : Nat) ({ cls := "JoinHouse$Query", name := "isWithin", desc := "(II)Z" } : Jvm.MethodName)) ∈ jw := jw_at (i := 516) (by decide +kernel) (by decide +kernel)
theorem jw_479 : (Jvm.Cond.methodLink "JoinHouse$Query" (59 : Nat) ({ cls := "JoinHouse$Query", name := "partner", desc := "(II)I" } : Jvm.MethodName)) ∈ jw := jw_at (i := 517) (by decide +kernel) (by decide +kernel)
theorem jw_480 : (Jvm.Cond.instanceMethod ({ cls := "JoinHouse$Query", name := "partner", desc := "(II)I" } : Jvm.MethodName)) ∈ jw := jw_at (i := 518) (by decide +kernel) (by decide +kernel)
theorem jw_481 : (Jvm.Cond.selects "JoinHouse$Query" ({ cls := "JoinHouse$Query", name := "partner", desc := "(II)I" } : Jvm.MethodName) ({ cls := "JoinHouse$Query", name := "partner", desc := "(II)I" } : Jvm.MethodName)) ∈ jw := jw_at (i := 519) (by decide +kernel) (by decide +kernel)
theorem jw_482 : (Jvm.Cond.code ({ cls := "JoinHouse$Query", name := "partner", desc := "(II)I" } : Jvm.MethodName) prog_3_method_8_code (3 : Nat) (Option.some Jvm.ClassFile.FieldType.int)) ∈ jw := jw_at (i := 520) (by decide +kernel) (by decide +kernel)
theorem jw_483 : (Jvm.Cond.methodLink "JoinHouse$Planner" (49 : Nat) ({ cls := "JoinHouse$Query", name := "tellsByIndex", desc := "(II)Z" } : Jvm.MethodName)) ∈ jw := jw_at (i := 521) (by decide +kernel) (by decide +kernel)
theorem jw_484 : (Jvm.Cond.instanceMethod ({ cls := "JoinHouse$Query", name := "tellsByIndex", desc := "(II)Z" } : Jvm.MethodName)) ∈ jw := jw_at (i := 522) (by decide +kernel) (by decide +kernel)
theorem jw_485 : (Jvm.Cond.selects "JoinHouse$Query" ({ cls := "JoinHouse$Query", name := "tellsByIndex", desc := "(II)Z" } : Jvm.MethodName) ({ cls := "JoinHouse$Query", name := "tellsByIndex", desc := "(II)Z" } : Jvm.MethodName)) ∈ jw := jw_at (i := 523) (by decide +kernel) (by decide +kernel)
theorem jw_486 : (Jvm.Cond.code ({ cls := "JoinHouse$Query", name := "tellsByIndex", desc := "(II)Z" } : Jvm.MethodName) prog_3_method_10_code (4 : Nat) (Option.some Jvm.ClassFile.FieldType.boolean)) ∈ jw := jw_at (i := 524) (by decide +kernel) (by decide +kernel)
theorem jw_487 : (Jvm.Cond.methodLink "JoinHouse$Query" (63 : Nat) ({ cls := "JoinHouse$Tables", name := "hasIndex", desc := "(II)Z" } : Jvm.MethodName)) ∈ jw := jw_at (i := 525) (by decide +kernel) (by decide +kernel)
theorem jw_488 : (Jvm.Cond.instanceMethod ({ cls := "JoinHouse$Tables", name := "hasIndex", desc := "(II)Z" } : Jvm.MethodName)) ∈ jw := jw_at (i := 526) (by decide +kernel) (by decide +kernel)
theorem jw_489 : (Jvm.Cond.selects "JoinHouse$Tables" ({ cls := "JoinHouse$Tables", name := "hasIndex", desc := "(II)Z" } : Jvm.MethodName) ({ cls := "JoinHouse$Tables", name := "hasIndex", desc := "(II)Z" } : Jvm.MethodName)) ∈ jw := jw_at (i := 527) (by decide +kernel) (by decide +kernel)
theorem jw_490 : (Jvm.Cond.code ({ cls := "JoinHouse$Tables", name := "hasIndex", desc := "(II)Z" } : Jvm.MethodName) prog_6_method_7_code (3 : Nat) (Option.some Jvm.ClassFile.FieldType.boolean)) ∈ jw := jw_at (i := 528) (by decide +kernel) (by decide +kernel)
theorem jw_498 : (Jvm.Cond.methodLink "JoinHouse" (101 : Nat) ({ cls := "JoinHouse$Planner", name := "sizeAt", desc := "(I)I" } : Jvm.MethodName)) ∈ jw := jw_at (i := 536) (by decide +kernel) (by decide +kernel)
theorem jw_499 : (Jvm.Cond.instanceMethod ({ cls := "JoinHouse$Planner", name := "sizeAt", desc := "(I)I" } : Jvm.MethodName)) ∈ jw := jw_at (i := 537) (by decide +kernel) (by decide +kernel)
theorem jw_500 : (Jvm.Cond.selects "JoinHouse$Planner" ({ cls := "JoinHouse$Planner", name := "sizeAt", desc := "(I)I" } : Jvm.MethodName) ({ cls := "JoinHouse$Planner", name := "sizeAt", desc := "(I)I" } : Jvm.MethodName)) ∈ jw := jw_at (i := 538) (by decide +kernel) (by decide +kernel)
theorem jw_501 : (Jvm.Cond.code ({ cls := "JoinHouse$Planner", name := "sizeAt", desc := "(I)I" } : Jvm.MethodName) prog_2_method_3_code (2 : Nat) (Option.some Jvm.ClassFile.FieldType.int)) ∈ jw := jw_at (i := 539) (by decide +kernel) (by decide +kernel)
theorem jw_509 : (Jvm.Cond.methodLink "JoinHouse" (104 : Nat) ({ cls := "JoinHouse$Runner", name := "go", desc := "()Z" } : Jvm.MethodName)) ∈ jw := jw_at (i := 547) (by decide +kernel) (by decide +kernel)
theorem jw_510 : (Jvm.Cond.instanceMethod ({ cls := "JoinHouse$Runner", name := "go", desc := "()Z" } : Jvm.MethodName)) ∈ jw := jw_at (i := 548) (by decide +kernel) (by decide +kernel)
theorem jw_511 : (Jvm.Cond.selects "JoinHouse$Runner" ({ cls := "JoinHouse$Runner", name := "go", desc := "()Z" } : Jvm.MethodName) ({ cls := "JoinHouse$Runner", name := "go", desc := "()Z" } : Jvm.MethodName)) ∈ jw := jw_at (i := 549) (by decide +kernel) (by decide +kernel)
theorem jw_512 : (Jvm.Cond.code ({ cls := "JoinHouse$Runner", name := "go", desc := "()Z" } : Jvm.MethodName) prog_4_method_2_code (5 : Nat) (Option.some Jvm.ClassFile.FieldType.boolean)) ∈ jw := jw_at (i := 550) (by decide +kernel) (by decide +kernel)
theorem jw_513 : (Jvm.Cond.methodLink "JoinHouse$Runner" (63 : Nat) ({ cls := "JoinHouse$Planner", name := "make", desc := "()V" } : Jvm.MethodName)) ∈ jw := jw_at (i := 551) (by decide +kernel) (by decide +kernel)
theorem jw_514 : (Jvm.Cond.methodLink "JoinHouse$Runner" (66 : Nat) ({ cls := "JoinHouse$Runner", name := "begin", desc := "(I)V" } : Jvm.MethodName)) ∈ jw := jw_at (i := 552) (by decide +kernel) (by decide +kernel)
theorem jw_516 : (Jvm.Cond.instanceMethod ({ cls := "JoinHouse$Runner", name := "begin", desc := "(I)V" } : Jvm.MethodName)) ∈ jw := jw_at (i := 554) (by decide +kernel) (by decide +kernel)
theorem jw_517 : (Jvm.Cond.code ({ cls := "JoinHouse$Runner", name := "begin", desc := "(I)V" } : Jvm.MethodName) prog_4_method_3_code (2 : Nat) (Option.none : Option Jvm.ClassFile.FieldType)) ∈ jw := jw_at (i := 555) (by decide +kernel) (by decide +kernel)
theorem jw_518 : (Jvm.Cond.methodLink "JoinHouse$Runner" (73 : Nat) ({ cls := "JoinHouse$Sieve", name := "prepare", desc := "(LJoinHouse$Query;II)V" } : Jvm.MethodName)) ∈ jw := jw_at (i := 556) (by decide +kernel) (by decide +kernel)
theorem jw_519 : (Jvm.Cond.instanceMethod ({ cls := "JoinHouse$Sieve", name := "prepare", desc := "(LJoinHouse$Query;II)V" } : Jvm.MethodName)) ∈ jw := jw_at (i := 557) (by decide +kernel) (by decide +kernel)
theorem jw_520 : (Jvm.Cond.selects "JoinHouse$Sieve" ({ cls := "JoinHouse$Sieve", name := "prepare", desc := "(LJoinHouse$Query;II)V" } : Jvm.MethodName) ({ cls := "JoinHouse$Sieve", name := "prepare", desc := "(LJoinHouse$Query;II)V" } : Jvm.MethodName)) ∈ jw := jw_at (i := 558) (by decide +kernel) (by decide +kernel)
theorem jw_521 : (Jvm.Cond.code ({ cls := "JoinHouse$Sieve", name := "prepare", desc := "(LJoinHouse$Query;II)V" } : Jvm.MethodName) prog_5_method_2_code (5 : Nat) (Option.none : Option Jvm.ClassFile.FieldType)) ∈ jw := jw_at (i := 559) (by decide +kernel) (by decide +kernel)
theorem jw_522 : (Jvm.Cond.methodLink "JoinHouse$Sieve" (28 : Nat) ({ cls := "JoinHouse$Query", name := "rowsOf", desc := "(I)I" } : Jvm.MethodName)) ∈ jw := jw_at (i := 560) (by decide +kernel) (by decide +kernel)
theorem jw_523 : (Jvm.Cond.methodLink "JoinHouse$Sieve" (37 : Nat) ({ cls := "JoinHouse$Query", name := "isJudgedAt", desc := "(III)Z" } : Jvm.MethodName)) ∈ jw := jw_at (i := 561) (by decide +kernel) (by decide +kernel)
theorem jw_524 : (Jvm.Cond.methodLink "JoinHouse$Sieve" (41 : Nat) ({ cls := "JoinHouse$Sieve", name := "judge", desc := "(LJoinHouse$Query;II)V" } : Jvm.MethodName)) ∈ jw := jw_at (i := 562) (by decide +kernel) (by decide +kernel)
theorem jw_526 : (Jvm.Cond.instanceMethod ({ cls := "JoinHouse$Sieve", name := "judge", desc := "(LJoinHouse$Query;II)V" } : Jvm.MethodName)) ∈ jw := jw_at (i := 564) (by decide +kernel) (by decide +kernel)
theorem jw_527 : (Jvm.Cond.code ({ cls := "JoinHouse$Sieve", name := "judge", desc := "(LJoinHouse$Query;II)V" } : Jvm.MethodName) prog_5_method_5_code (7 : Nat) (Option.none : Option Jvm.ClassFile.FieldType)) ∈ jw := jw_at (i := 565) (by decide +kernel) (by decide +kernel)
theorem jw_528 : (Jvm.Cond.methodLink "JoinHouse$Sieve" (52 : Nat) ({ cls := "JoinHouse$Query", name := "partner", desc := "(II)I" } : Jvm.MethodName)) ∈ jw := jw_at (i := 566) (by decide +kernel) (by decide +kernel)
theorem jw_529 : (Jvm.Cond.methodLink "JoinHouse$Sieve" (55 : Nat) ({ cls := "JoinHouse$Sieve", name := "rowsThatHold", desc := "(LJoinHouse$Query;III)I" } : Jvm.MethodName)) ∈ jw := jw_at (i := 567) (by decide +kernel) (by decide +kernel)
theorem jw_530 : (Jvm.Cond.static ({ cls := "JoinHouse$Sieve", name := "rowsThatHold", desc := "(LJoinHouse$Query;III)I" } : Jvm.MethodName)) ∈ jw := jw_at (i := 568) (by decide +kernel) (by decide +kernel)
theorem jw_531 : (Jvm.Cond.code ({ cls := "JoinHouse$Sieve", name := "rowsThatHold", desc := "(LJoinHouse$Query;III)I" } : Jvm.MethodName) prog_5_method_6_code (7 : Nat) (Option.some Jvm.ClassFile.FieldType.int)) ∈ jw := jw_at (i := 569) (by decide +kernel) (by decide +kernel)
theorem jw_532 : (Jvm.Cond.methodLink "JoinHouse$Sieve" (59 : Nat) ({ cls := "JoinHouse$Query", name := "holds", desc := "(IIII)Z" } : Jvm.MethodName)) ∈ jw := jw_at (i := 570) (by decide +kernel) (by decide +kernel)
theorem jw_533 : (Jvm.Cond.instanceMethod ({ cls := "JoinHouse$Query", name := "holds", desc := "(IIII)Z" } : Jvm.MethodName)) ∈ jw := jw_at (i := 571) (by decide +kernel) (by decide +kernel)
theorem jw_534 : (Jvm.Cond.selects "JoinHouse$Query" ({ cls := "JoinHouse$Query", name := "holds", desc := "(IIII)Z" } : Jvm.MethodName) ({ cls := "JoinHouse$Query", name := "holds", desc := "(IIII)Z" } : Jvm.MethodName)) ∈ jw := jw_at (i := 572) (by decide +kernel) (by decide +kernel)
theorem jw_535 : (Jvm.Cond.code ({ cls := "JoinHouse$Query", name := "holds", desc := "(IIII)Z" } : Jvm.MethodName) prog_3_method_12_code (11 : Nat) (Option.some Jvm.ClassFile.FieldType.boolean)) ∈ jw := jw_at (i := 573) (by decide +kernel) (by decide +kernel)
theorem jw_536 : (Jvm.Cond.methodLink "JoinHouse$Query" (74 : Nat) ({ cls := "JoinHouse$Tables", name := "value", desc := "(III)I" } : Jvm.MethodName)) ∈ jw := jw_at (i := 574) (by decide +kernel) (by decide +kernel)
theorem jw_537 : (Jvm.Cond.methodLink "JoinHouse$Runner" (77 : Nat) ({ cls := "JoinHouse$Planner", name := "conditionFor", desc := "(II)I" } : Jvm.MethodName)) ∈ jw := jw_at (i := 575) (by decide +kernel) (by decide +kernel)
theorem jw_538 : (Jvm.Cond.methodLink "JoinHouse$Runner" (81 : Nat) ({ cls := "JoinHouse$Runner", name := "goTo", desc := "(II)Z" } : Jvm.MethodName)) ∈ jw := jw_at (i := 576) (by decide +kernel) (by decide +kernel)
theorem jw_540 : (Jvm.Cond.instanceMethod ({ cls := "JoinHouse$Runner", name := "goTo", desc := "(II)Z" } : Jvm.MethodName)) ∈ jw := jw_at (i := 578) (by decide +kernel) (by decide +kernel)
theorem jw_541 : (Jvm.Cond.code ({ cls := "JoinHouse$Runner", name := "goTo", desc := "(II)Z" } : Jvm.MethodName) prog_4_method_4_code (8 : Nat) (Option.some Jvm.ClassFile.FieldType.boolean)) ∈ jw := jw_at (i := 579) (by decide +kernel) (by decide +kernel)
theorem jw_542 : (Jvm.Cond.methodLink "JoinHouse$Runner" (91 : Nat) ({ cls := "JoinHouse$Query", name := "rowsOf", desc := "(I)I" } : Jvm.MethodName)) ∈ jw := jw_at (i := 580) (by decide +kernel) (by decide +kernel)
theorem jw_543 : (Jvm.Cond.methodLink "JoinHouse$Runner" (95 : Nat) ({ cls := "JoinHouse$Query", name := "tellsByIndex", desc := "(II)Z" } : Jvm.MethodName)) ∈ jw := jw_at (i := 581) (by decide +kernel) (by decide +kernel)
theorem jw_544 : (Jvm.Cond.methodLink "JoinHouse$Runner" (98 : Nat) ({ cls := "JoinHouse$Sieve", name := "letThroughBy", desc := "(II)I" } : Jvm.MethodName)) ∈ jw := jw_at (i := 582) (by decide +kernel) (by decide +kernel)
theorem jw_545 : (Jvm.Cond.instanceMethod ({ cls := "JoinHouse$Sieve", name := "letThroughBy", desc := "(II)I" } : Jvm.MethodName)) ∈ jw := jw_at (i := 583) (by decide +kernel) (by decide +kernel)
theorem jw_546 : (Jvm.Cond.selects "JoinHouse$Sieve" ({ cls := "JoinHouse$Sieve", name := "letThroughBy", desc := "(II)I" } : Jvm.MethodName) ({ cls := "JoinHouse$Sieve", name := "letThroughBy", desc := "(II)I" } : Jvm.MethodName)) ∈ jw := jw_at (i := 584) (by decide +kernel) (by decide +kernel)
theorem jw_547 : (Jvm.Cond.code ({ cls := "JoinHouse$Sieve", name := "letThroughBy", desc := "(II)I" } : Jvm.MethodName) prog_5_method_3_code (5 : Nat) (Option.some Jvm.ClassFile.FieldType.int)) ∈ jw := jw_at (i := 585) (by decide +kernel) (by decide +kernel)
theorem jw_549 : (Jvm.Cond.static ({ cls := "JoinHouse", name := "rowIn", desc := "(II)I" } : Jvm.MethodName)) ∈ jw := jw_at (i := 587) (by decide +kernel) (by decide +kernel)
theorem jw_550 : (Jvm.Cond.code ({ cls := "JoinHouse", name := "rowIn", desc := "(II)I" } : Jvm.MethodName) prog_1_method_20_code (2 : Nat) (Option.some Jvm.ClassFile.FieldType.int)) ∈ jw := jw_at (i := 588) (by decide +kernel) (by decide +kernel)
theorem jw_551 : (Jvm.Cond.methodLink "JoinHouse$Runner" (101 : Nat) ({ cls := "java/lang/Integer", name := "bitCount", desc := "(I)I" } : Jvm.MethodName)) ∈ jw := jw_at (i := 589) (by decide +kernel) (by decide +kernel)
theorem jw_552 : (Jvm.Cond.static ({ cls := "java/lang/Integer", name := "bitCount", desc := "(I)I" } : Jvm.MethodName)) ∈ jw := jw_at (i := 590) (by decide +kernel) (by decide +kernel)
theorem jw_553 : (Jvm.Cond.code ({ cls := "java/lang/Integer", name := "bitCount", desc := "(I)I" } : Jvm.MethodName) prog_11_method_49_code (1 : Nat) (Option.some Jvm.ClassFile.FieldType.int)) ∈ jw := jw_at (i := 591) (by decide +kernel) (by decide +kernel)
theorem jw_554 : (Jvm.Cond.constant "java/lang/Integer" (265 : Nat) (1431655765 : Int32)) ∈ jw := jw_at (i := 592) (by decide +kernel) (by decide +kernel)
theorem jw_555 : (Jvm.Cond.constant "java/lang/Integer" (266 : Nat) (858993459 : Int32)) ∈ jw := jw_at (i := 593) (by decide +kernel) (by decide +kernel)
theorem jw_556 : (Jvm.Cond.constant "java/lang/Integer" (267 : Nat) (252645135 : Int32)) ∈ jw := jw_at (i := 594) (by decide +kernel) (by decide +kernel)
theorem jw_557 : (Jvm.Cond.methodLink "JoinHouse$Runner" (106 : Nat) ({ cls := "JoinHouse$Sieve", name := "letThrough", desc := "(I)I" } : Jvm.MethodName)) ∈ jw := jw_at (i := 595) (by decide +kernel) (by decide +kernel)
theorem jw_558 : (Jvm.Cond.instanceMethod ({ cls := "JoinHouse$Sieve", name := "letThrough", desc := "(I)I" } : Jvm.MethodName)) ∈ jw := jw_at (i := 596) (by decide +kernel) (by decide +kernel)
theorem jw_559 : (Jvm.Cond.selects "JoinHouse$Sieve" ({ cls := "JoinHouse$Sieve", name := "letThrough", desc := "(I)I" } : Jvm.MethodName) ({ cls := "JoinHouse$Sieve", name := "letThrough", desc := "(I)I" } : Jvm.MethodName)) ∈ jw := jw_at (i := 597) (by decide +kernel) (by decide +kernel)
theorem jw_560 : (Jvm.Cond.code ({ cls := "JoinHouse$Sieve", name := "letThrough", desc := "(I)I" } : Jvm.MethodName) prog_5_method_4_code (4 : Nat) (Option.some Jvm.ClassFile.FieldType.int)) ∈ jw := jw_at (i := 598) (by decide +kernel) (by decide +kernel)
theorem jw_561 : (Jvm.Cond.methodLink "JoinHouse$Sieve" (49 : Nat) ({ cls := "JoinHouse$Sieve", name := "letThroughBy", desc := "(II)I" } : Jvm.MethodName)) ∈ jw := jw_at (i := 599) (by decide +kernel) (by decide +kernel)
theorem jw_562 : (Jvm.Cond.methodLink "JoinHouse$Runner" (109 : Nat) ({ cls := "JoinHouse$Runner", name := "extend", desc := "(IIII)I" } : Jvm.MethodName)) ∈ jw := jw_at (i := 600) (by decide +kernel) (by decide +kernel)
theorem jw_564 : (Jvm.Cond.instanceMethod ({ cls := "JoinHouse$Runner", name := "extend", desc := "(IIII)I" } : Jvm.MethodName)) ∈ jw := jw_at (i := 602) (by decide +kernel) (by decide +kernel)
theorem jw_565 : (Jvm.Cond.code ({ cls := "JoinHouse$Runner", name := "extend", desc := "(IIII)I" } : Jvm.MethodName) prog_4_method_5_code (7 : Nat) (Option.some Jvm.ClassFile.FieldType.int)) ∈ jw := jw_at (i := 603) (by decide +kernel) (by decide +kernel)
theorem jw_566 : (Jvm.Cond.methodLink "JoinHouse$Runner" (113 : Nat) ({ cls := "JoinHouse$Runner", name := "swap", desc := "()V" } : Jvm.MethodName)) ∈ jw := jw_at (i := 604) (by decide +kernel) (by decide +kernel)
theorem jw_568 : (Jvm.Cond.instanceMethod ({ cls := "JoinHouse$Runner", name := "swap", desc := "()V" } : Jvm.MethodName)) ∈ jw := jw_at (i := 606) (by decide +kernel) (by decide +kernel)
theorem jw_569 : (Jvm.Cond.code ({ cls := "JoinHouse$Runner", name := "swap", desc := "()V" } : Jvm.MethodName) prog_4_method_7_code (2 : Nat) (Option.none : Option Jvm.ClassFile.FieldType)) ∈ jw := jw_at (i := 607) (by decide +kernel) (by decide +kernel)
theorem jw_570 : (Jvm.Cond.methodLink "JoinHouse$Runner" (85 : Nat) ({ cls := "JoinHouse$Runner", name := "sortBy", desc := "(I)V" } : Jvm.MethodName)) ∈ jw := jw_at (i := 608) (by decide +kernel) (by decide +kernel)
theorem jw_572 : (Jvm.Cond.instanceMethod ({ cls := "JoinHouse$Runner", name := "sortBy", desc := "(I)V" } : Jvm.MethodName)) ∈ jw := jw_at (i := 610) (by decide +kernel) (by decide +kernel)
theorem jw_573 : (Jvm.Cond.code ({ cls := "JoinHouse$Runner", name := "sortBy", desc := "(I)V" } : Jvm.MethodName) prog_4_method_6_code (4 : Nat) (Option.none : Option Jvm.ClassFile.FieldType)) ∈ jw := jw_at (i := 611) (by decide +kernel) (by decide +kernel)
theorem jw_574 : (Jvm.Cond.methodLink "JoinHouse$Runner" (116 : Nat) ({ cls := "java/util/Arrays", name := "fill", desc := "([II)V" } : Jvm.MethodName)) ∈ jw := jw_at (i := 612) (by decide +kernel) (by decide +kernel)
theorem jw_575 : (Jvm.Cond.static ({ cls := "java/util/Arrays", name := "fill", desc := "([II)V" } : Jvm.MethodName)) ∈ jw := jw_at (i := 613) (by decide +kernel) (by decide +kernel)
theorem jw_576 : (Jvm.Cond.code ({ cls := "java/util/Arrays", name := "fill", desc := "([II)V" } : Jvm.MethodName) prog_17_method_103_code (4 : Nat) (Option.none : Option Jvm.ClassFile.FieldType)) ∈ jw := jw_at (i := 614) (by decide +kernel) (by decide +kernel)
theorem jw_578 : (Jvm.Cond.methodLink "JoinHouse$Runner" (88 : Nat) ({ cls := "JoinHouse$Runner", name := "keep", desc := "(I)V" } : Jvm.MethodName)) ∈ jw := jw_at (i := 616) (by decide +kernel) (by decide +kernel)
theorem jw_580 : (Jvm.Cond.instanceMethod ({ cls := "JoinHouse$Runner", name := "keep", desc := "(I)V" } : Jvm.MethodName)) ∈ jw := jw_at (i := 618) (by decide +kernel) (by decide +kernel)
theorem jw_581 : (Jvm.Cond.code ({ cls := "JoinHouse$Runner", name := "keep", desc := "(I)V" } : Jvm.MethodName) prog_4_method_8_code (3 : Nat) (Option.none : Option Jvm.ClassFile.FieldType)) ∈ jw := jw_at (i := 619) (by decide +kernel) (by decide +kernel)
theorem jw_592 : (Jvm.Cond.methodLink "JoinHouse" (129 : Nat) ({ cls := "JoinHouse", name := "rowIn", desc := "(II)I" } : Jvm.MethodName)) ∈ jw := jw_at (i := 630) (by decide +kernel) (by decide +kernel)
/-! the class: its cells as one world; functions read off its bytecode, and their certificates -/
def jWr (cA : ClassId) (A B : Nat → Nat) (M : jM) (F : jF) (b0 b1 b2 : Nat) : va_W := [(A 0, .inr (0, [.ref (A 1), .ref (A 2), .ref (A 3), .ref (A 4)])),
  (A 1, .inr (1, [.ref (A 2), .ref (A 5), .ref b0, .ref b1, .ref (A 25), .int (F 4), .int (F 5), .ref b2, .int (F 6), .int (F 7), .int (F 8)])),
  (A 2, .inr (2, [.ref (A 3), .ref (A 17), .ref (A 18), .ref (A 19)])),
  (A 3, .inr (3, [.ref (A 4), .ref (A 10), .ref (A 11), .ref (A 12), .ref (A 13), .ref (A 14), .ref (A 15), .ref (A 16), .int (F 0), .int (F 1)])),
  (A 4, .inr (4, [.ref (A 6), .ref (A 7), .ref (A 8), .ref (A 9)])),
  (A 5, .inr (5, [.ref (A 20), .ref (A 21), .ref (A 22), .int (F 2), .int (F 3)])),
  (A 6, .inl (cA, 720, .inl (M 6))),
  (A 7, .inl (cA, 6, .inl (M 7))),
  (A 8, .inl (cA, 6, .inl (M 8))),
  (A 9, .inl (cA, 24, .inl (M 9))),
  (A 10, .inl (cA, 6, .inl (M 10))),
  (A 11, .inl (cA, 12, .inl (M 11))),
  (A 12, .inl (cA, 12, .inl (M 12))),
  (A 13, .inl (cA, 12, .inl (M 13))),
  (A 14, .inl (cA, 12, .inl (M 14))),
  (A 15, .inl (cA, 12, .inl (M 15))),
  (A 16, .inl (cA, 12, .inl (M 16))),
  (A 17, .inl (cA, 64, .inl (M 17))),
  (A 18, .inl (cA, 64, .inl (M 18))),
  (A 19, .inl (cA, 6, .inl (M 19))),
  (A 20, .inl (cA, 12, .inl (M 20))),
  (A 21, .inl (cA, 12, .inl (M 21))),
  (A 22, .inl (cA, 384, .inl (M 22))),
  (B 0, .inl (cA, 3000, .inl (M 23))),
  (B 1, .inl (cA, 3000, .inl (M 24))),
  (A 25, .inl (cA, 33, .inl (M 25))),
  (B 2, .inl (cA, 3000, .inl (M 26)))]
abbrev jW (cA : ClassId) (A B : Nat → Nat) (M : jM) (F : jF) : va_W := jWr cA A B M F (B 0) (B 1) (B 2)
theorem jald_6 {p : Program} {l : Launch} {e : Env} {R : Room} {s : State} {m : MethodId} {args : Array Value} {below : List Frame} {meth : Method} {c : Code} {H : Heap} {locs : List Loc} {cells slots : Nat} {Q : State → Prop} {cc : ByteArray} {dC : Nat → ClassId} {dI : Nat → Nat → Nat} {cA : ClassId} {A B : Nat → Nat} {M : jM} {F : jF} {Ap : Nat → Prop} {pc : Nat} {ls : Array Slot} {rest : List Value} {i : Int32} (hexec : p.tables.exec = Jvm.exec) (hb : c.code = cc) (hJ : jH (dC, dI) jCl [(cA, .int)] (jW cA A B M F) Ap s H locs) (hin : vp_in i 720) (hdg : decode cc pc = .ok (.iaload, 1)) (kk : W p l e R s m args below meth c H locs cells slots Q (F0 m (pc + 1) ls (.int (M 6 i.toNatClampNeg) :: rest))) : W p l e R s m args below meth c H locs cells slots Q (F0 m pc ls (.int i :: .ref (A 6) :: rest)) :=
  va_iald hexec hb hJ.1 hJ.2.1 6 0 (f := M 6) rfl rfl hin hdg kk
theorem jast_6 {p : Program} {l : Launch} {e : Env} {R : Room} {s : State} {m : MethodId} {args : Array Value} {below : List Frame} {meth : Method} {c : Code} {H : Heap} {locs : List Loc} {cells slots : Nat} {Q : State → Prop} {cc : ByteArray} {dC : Nat → ClassId} {dI : Nat → Nat → Nat} {cA : ClassId} {A B : Nat → Nat} {M : jM} {F : jF} {Ap : Nat → Prop} {pc : Nat} {ls : Array Slot} {rest : List Value} {i x : Int32} (hexec : p.tables.exec = Jvm.exec) (hb : c.code = cc) (hJ : jH (dC, dI) jCl [(cA, .int)] (jW cA A B M F) Ap s H locs) (hin : vp_in i 720) (hdg : decode cc pc = .ok (.iastore, 1)) (kk : ∀ (H1 : Heap) (locs1 : List Loc), jH (dC, dI) jCl [(cA, .int)] (jW cA A B (jmu M 6 i.toNatClampNeg x) F) Ap s H1 locs1 → W p l e R s m args below meth c H1 locs1 cells slots Q (F0 m (pc + 1) ls rest)) : W p l e R s m args below meth c H locs cells slots Q (F0 m pc ls (.int x :: .int i :: .ref (A 6) :: rest)) :=
  va_iast hexec hb hJ.1 hJ.2.1 hJ.2.2.1 hJ.2.2.2 6 0 (f := M 6) rfl rfl hin hdg (fun H1 locs1 hP hD hS => kk H1 locs1 ⟨hJ.1, hP, hD, hS⟩)
theorem jald_7 {p : Program} {l : Launch} {e : Env} {R : Room} {s : State} {m : MethodId} {args : Array Value} {below : List Frame} {meth : Method} {c : Code} {H : Heap} {locs : List Loc} {cells slots : Nat} {Q : State → Prop} {cc : ByteArray} {dC : Nat → ClassId} {dI : Nat → Nat → Nat} {cA : ClassId} {A B : Nat → Nat} {M : jM} {F : jF} {Ap : Nat → Prop} {pc : Nat} {ls : Array Slot} {rest : List Value} {i : Int32} (hexec : p.tables.exec = Jvm.exec) (hb : c.code = cc) (hJ : jH (dC, dI) jCl [(cA, .int)] (jW cA A B M F) Ap s H locs) (hin : vp_in i 6) (hdg : decode cc pc = .ok (.iaload, 1)) (kk : W p l e R s m args below meth c H locs cells slots Q (F0 m (pc + 1) ls (.int (M 7 i.toNatClampNeg) :: rest))) : W p l e R s m args below meth c H locs cells slots Q (F0 m pc ls (.int i :: .ref (A 7) :: rest)) :=
  va_iald hexec hb hJ.1 hJ.2.1 7 0 (f := M 7) rfl rfl hin hdg kk
theorem jast_7 {p : Program} {l : Launch} {e : Env} {R : Room} {s : State} {m : MethodId} {args : Array Value} {below : List Frame} {meth : Method} {c : Code} {H : Heap} {locs : List Loc} {cells slots : Nat} {Q : State → Prop} {cc : ByteArray} {dC : Nat → ClassId} {dI : Nat → Nat → Nat} {cA : ClassId} {A B : Nat → Nat} {M : jM} {F : jF} {Ap : Nat → Prop} {pc : Nat} {ls : Array Slot} {rest : List Value} {i x : Int32} (hexec : p.tables.exec = Jvm.exec) (hb : c.code = cc) (hJ : jH (dC, dI) jCl [(cA, .int)] (jW cA A B M F) Ap s H locs) (hin : vp_in i 6) (hdg : decode cc pc = .ok (.iastore, 1)) (kk : ∀ (H1 : Heap) (locs1 : List Loc), jH (dC, dI) jCl [(cA, .int)] (jW cA A B (jmu M 7 i.toNatClampNeg x) F) Ap s H1 locs1 → W p l e R s m args below meth c H1 locs1 cells slots Q (F0 m (pc + 1) ls rest)) : W p l e R s m args below meth c H locs cells slots Q (F0 m pc ls (.int x :: .int i :: .ref (A 7) :: rest)) :=
  va_iast hexec hb hJ.1 hJ.2.1 hJ.2.2.1 hJ.2.2.2 7 0 (f := M 7) rfl rfl hin hdg (fun H1 locs1 hP hD hS => kk H1 locs1 ⟨hJ.1, hP, hD, hS⟩)
theorem jald_8 {p : Program} {l : Launch} {e : Env} {R : Room} {s : State} {m : MethodId} {args : Array Value} {below : List Frame} {meth : Method} {c : Code} {H : Heap} {locs : List Loc} {cells slots : Nat} {Q : State → Prop} {cc : ByteArray} {dC : Nat → ClassId} {dI : Nat → Nat → Nat} {cA : ClassId} {A B : Nat → Nat} {M : jM} {F : jF} {Ap : Nat → Prop} {pc : Nat} {ls : Array Slot} {rest : List Value} {i : Int32} (hexec : p.tables.exec = Jvm.exec) (hb : c.code = cc) (hJ : jH (dC, dI) jCl [(cA, .int)] (jW cA A B M F) Ap s H locs) (hin : vp_in i 6) (hdg : decode cc pc = .ok (.iaload, 1)) (kk : W p l e R s m args below meth c H locs cells slots Q (F0 m (pc + 1) ls (.int (M 8 i.toNatClampNeg) :: rest))) : W p l e R s m args below meth c H locs cells slots Q (F0 m pc ls (.int i :: .ref (A 8) :: rest)) :=
  va_iald hexec hb hJ.1 hJ.2.1 8 0 (f := M 8) rfl rfl hin hdg kk
theorem jast_8 {p : Program} {l : Launch} {e : Env} {R : Room} {s : State} {m : MethodId} {args : Array Value} {below : List Frame} {meth : Method} {c : Code} {H : Heap} {locs : List Loc} {cells slots : Nat} {Q : State → Prop} {cc : ByteArray} {dC : Nat → ClassId} {dI : Nat → Nat → Nat} {cA : ClassId} {A B : Nat → Nat} {M : jM} {F : jF} {Ap : Nat → Prop} {pc : Nat} {ls : Array Slot} {rest : List Value} {i x : Int32} (hexec : p.tables.exec = Jvm.exec) (hb : c.code = cc) (hJ : jH (dC, dI) jCl [(cA, .int)] (jW cA A B M F) Ap s H locs) (hin : vp_in i 6) (hdg : decode cc pc = .ok (.iastore, 1)) (kk : ∀ (H1 : Heap) (locs1 : List Loc), jH (dC, dI) jCl [(cA, .int)] (jW cA A B (jmu M 8 i.toNatClampNeg x) F) Ap s H1 locs1 → W p l e R s m args below meth c H1 locs1 cells slots Q (F0 m (pc + 1) ls rest)) : W p l e R s m args below meth c H locs cells slots Q (F0 m pc ls (.int x :: .int i :: .ref (A 8) :: rest)) :=
  va_iast hexec hb hJ.1 hJ.2.1 hJ.2.2.1 hJ.2.2.2 8 0 (f := M 8) rfl rfl hin hdg (fun H1 locs1 hP hD hS => kk H1 locs1 ⟨hJ.1, hP, hD, hS⟩)
theorem jald_9 {p : Program} {l : Launch} {e : Env} {R : Room} {s : State} {m : MethodId} {args : Array Value} {below : List Frame} {meth : Method} {c : Code} {H : Heap} {locs : List Loc} {cells slots : Nat} {Q : State → Prop} {cc : ByteArray} {dC : Nat → ClassId} {dI : Nat → Nat → Nat} {cA : ClassId} {A B : Nat → Nat} {M : jM} {F : jF} {Ap : Nat → Prop} {pc : Nat} {ls : Array Slot} {rest : List Value} {i : Int32} (hexec : p.tables.exec = Jvm.exec) (hb : c.code = cc) (hJ : jH (dC, dI) jCl [(cA, .int)] (jW cA A B M F) Ap s H locs) (hin : vp_in i 24) (hdg : decode cc pc = .ok (.iaload, 1)) (kk : W p l e R s m args below meth c H locs cells slots Q (F0 m (pc + 1) ls (.int (M 9 i.toNatClampNeg) :: rest))) : W p l e R s m args below meth c H locs cells slots Q (F0 m pc ls (.int i :: .ref (A 9) :: rest)) :=
  va_iald hexec hb hJ.1 hJ.2.1 9 0 (f := M 9) rfl rfl hin hdg kk
theorem jast_9 {p : Program} {l : Launch} {e : Env} {R : Room} {s : State} {m : MethodId} {args : Array Value} {below : List Frame} {meth : Method} {c : Code} {H : Heap} {locs : List Loc} {cells slots : Nat} {Q : State → Prop} {cc : ByteArray} {dC : Nat → ClassId} {dI : Nat → Nat → Nat} {cA : ClassId} {A B : Nat → Nat} {M : jM} {F : jF} {Ap : Nat → Prop} {pc : Nat} {ls : Array Slot} {rest : List Value} {i x : Int32} (hexec : p.tables.exec = Jvm.exec) (hb : c.code = cc) (hJ : jH (dC, dI) jCl [(cA, .int)] (jW cA A B M F) Ap s H locs) (hin : vp_in i 24) (hdg : decode cc pc = .ok (.iastore, 1)) (kk : ∀ (H1 : Heap) (locs1 : List Loc), jH (dC, dI) jCl [(cA, .int)] (jW cA A B (jmu M 9 i.toNatClampNeg x) F) Ap s H1 locs1 → W p l e R s m args below meth c H1 locs1 cells slots Q (F0 m (pc + 1) ls rest)) : W p l e R s m args below meth c H locs cells slots Q (F0 m pc ls (.int x :: .int i :: .ref (A 9) :: rest)) :=
  va_iast hexec hb hJ.1 hJ.2.1 hJ.2.2.1 hJ.2.2.2 9 0 (f := M 9) rfl rfl hin hdg (fun H1 locs1 hP hD hS => kk H1 locs1 ⟨hJ.1, hP, hD, hS⟩)
theorem jald_10 {p : Program} {l : Launch} {e : Env} {R : Room} {s : State} {m : MethodId} {args : Array Value} {below : List Frame} {meth : Method} {c : Code} {H : Heap} {locs : List Loc} {cells slots : Nat} {Q : State → Prop} {cc : ByteArray} {dC : Nat → ClassId} {dI : Nat → Nat → Nat} {cA : ClassId} {A B : Nat → Nat} {M : jM} {F : jF} {Ap : Nat → Prop} {pc : Nat} {ls : Array Slot} {rest : List Value} {i : Int32} (hexec : p.tables.exec = Jvm.exec) (hb : c.code = cc) (hJ : jH (dC, dI) jCl [(cA, .int)] (jW cA A B M F) Ap s H locs) (hin : vp_in i 6) (hdg : decode cc pc = .ok (.iaload, 1)) (kk : W p l e R s m args below meth c H locs cells slots Q (F0 m (pc + 1) ls (.int (M 10 i.toNatClampNeg) :: rest))) : W p l e R s m args below meth c H locs cells slots Q (F0 m pc ls (.int i :: .ref (A 10) :: rest)) :=
  va_iald hexec hb hJ.1 hJ.2.1 10 0 (f := M 10) rfl rfl hin hdg kk
theorem jast_10 {p : Program} {l : Launch} {e : Env} {R : Room} {s : State} {m : MethodId} {args : Array Value} {below : List Frame} {meth : Method} {c : Code} {H : Heap} {locs : List Loc} {cells slots : Nat} {Q : State → Prop} {cc : ByteArray} {dC : Nat → ClassId} {dI : Nat → Nat → Nat} {cA : ClassId} {A B : Nat → Nat} {M : jM} {F : jF} {Ap : Nat → Prop} {pc : Nat} {ls : Array Slot} {rest : List Value} {i x : Int32} (hexec : p.tables.exec = Jvm.exec) (hb : c.code = cc) (hJ : jH (dC, dI) jCl [(cA, .int)] (jW cA A B M F) Ap s H locs) (hin : vp_in i 6) (hdg : decode cc pc = .ok (.iastore, 1)) (kk : ∀ (H1 : Heap) (locs1 : List Loc), jH (dC, dI) jCl [(cA, .int)] (jW cA A B (jmu M 10 i.toNatClampNeg x) F) Ap s H1 locs1 → W p l e R s m args below meth c H1 locs1 cells slots Q (F0 m (pc + 1) ls rest)) : W p l e R s m args below meth c H locs cells slots Q (F0 m pc ls (.int x :: .int i :: .ref (A 10) :: rest)) :=
  va_iast hexec hb hJ.1 hJ.2.1 hJ.2.2.1 hJ.2.2.2 10 0 (f := M 10) rfl rfl hin hdg (fun H1 locs1 hP hD hS => kk H1 locs1 ⟨hJ.1, hP, hD, hS⟩)
theorem jald_11 {p : Program} {l : Launch} {e : Env} {R : Room} {s : State} {m : MethodId} {args : Array Value} {below : List Frame} {meth : Method} {c : Code} {H : Heap} {locs : List Loc} {cells slots : Nat} {Q : State → Prop} {cc : ByteArray} {dC : Nat → ClassId} {dI : Nat → Nat → Nat} {cA : ClassId} {A B : Nat → Nat} {M : jM} {F : jF} {Ap : Nat → Prop} {pc : Nat} {ls : Array Slot} {rest : List Value} {i : Int32} (hexec : p.tables.exec = Jvm.exec) (hb : c.code = cc) (hJ : jH (dC, dI) jCl [(cA, .int)] (jW cA A B M F) Ap s H locs) (hin : vp_in i 12) (hdg : decode cc pc = .ok (.iaload, 1)) (kk : W p l e R s m args below meth c H locs cells slots Q (F0 m (pc + 1) ls (.int (M 11 i.toNatClampNeg) :: rest))) : W p l e R s m args below meth c H locs cells slots Q (F0 m pc ls (.int i :: .ref (A 11) :: rest)) :=
  va_iald hexec hb hJ.1 hJ.2.1 11 0 (f := M 11) rfl rfl hin hdg kk
theorem jast_11 {p : Program} {l : Launch} {e : Env} {R : Room} {s : State} {m : MethodId} {args : Array Value} {below : List Frame} {meth : Method} {c : Code} {H : Heap} {locs : List Loc} {cells slots : Nat} {Q : State → Prop} {cc : ByteArray} {dC : Nat → ClassId} {dI : Nat → Nat → Nat} {cA : ClassId} {A B : Nat → Nat} {M : jM} {F : jF} {Ap : Nat → Prop} {pc : Nat} {ls : Array Slot} {rest : List Value} {i x : Int32} (hexec : p.tables.exec = Jvm.exec) (hb : c.code = cc) (hJ : jH (dC, dI) jCl [(cA, .int)] (jW cA A B M F) Ap s H locs) (hin : vp_in i 12) (hdg : decode cc pc = .ok (.iastore, 1)) (kk : ∀ (H1 : Heap) (locs1 : List Loc), jH (dC, dI) jCl [(cA, .int)] (jW cA A B (jmu M 11 i.toNatClampNeg x) F) Ap s H1 locs1 → W p l e R s m args below meth c H1 locs1 cells slots Q (F0 m (pc + 1) ls rest)) : W p l e R s m args below meth c H locs cells slots Q (F0 m pc ls (.int x :: .int i :: .ref (A 11) :: rest)) :=
  va_iast hexec hb hJ.1 hJ.2.1 hJ.2.2.1 hJ.2.2.2 11 0 (f := M 11) rfl rfl hin hdg (fun H1 locs1 hP hD hS => kk H1 locs1 ⟨hJ.1, hP, hD, hS⟩)
theorem jald_12 {p : Program} {l : Launch} {e : Env} {R : Room} {s : State} {m : MethodId} {args : Array Value} {below : List Frame} {meth : Method} {c : Code} {H : Heap} {locs : List Loc} {cells slots : Nat} {Q : State → Prop} {cc : ByteArray} {dC : Nat → ClassId} {dI : Nat → Nat → Nat} {cA : ClassId} {A B : Nat → Nat} {M : jM} {F : jF} {Ap : Nat → Prop} {pc : Nat} {ls : Array Slot} {rest : List Value} {i : Int32} (hexec : p.tables.exec = Jvm.exec) (hb : c.code = cc) (hJ : jH (dC, dI) jCl [(cA, .int)] (jW cA A B M F) Ap s H locs) (hin : vp_in i 12) (hdg : decode cc pc = .ok (.iaload, 1)) (kk : W p l e R s m args below meth c H locs cells slots Q (F0 m (pc + 1) ls (.int (M 12 i.toNatClampNeg) :: rest))) : W p l e R s m args below meth c H locs cells slots Q (F0 m pc ls (.int i :: .ref (A 12) :: rest)) :=
  va_iald hexec hb hJ.1 hJ.2.1 12 0 (f := M 12) rfl rfl hin hdg kk
theorem jast_12 {p : Program} {l : Launch} {e : Env} {R : Room} {s : State} {m : MethodId} {args : Array Value} {below : List Frame} {meth : Method} {c : Code} {H : Heap} {locs : List Loc} {cells slots : Nat} {Q : State → Prop} {cc : ByteArray} {dC : Nat → ClassId} {dI : Nat → Nat → Nat} {cA : ClassId} {A B : Nat → Nat} {M : jM} {F : jF} {Ap : Nat → Prop} {pc : Nat} {ls : Array Slot} {rest : List Value} {i x : Int32} (hexec : p.tables.exec = Jvm.exec) (hb : c.code = cc) (hJ : jH (dC, dI) jCl [(cA, .int)] (jW cA A B M F) Ap s H locs) (hin : vp_in i 12) (hdg : decode cc pc = .ok (.iastore, 1)) (kk : ∀ (H1 : Heap) (locs1 : List Loc), jH (dC, dI) jCl [(cA, .int)] (jW cA A B (jmu M 12 i.toNatClampNeg x) F) Ap s H1 locs1 → W p l e R s m args below meth c H1 locs1 cells slots Q (F0 m (pc + 1) ls rest)) : W p l e R s m args below meth c H locs cells slots Q (F0 m pc ls (.int x :: .int i :: .ref (A 12) :: rest)) :=
  va_iast hexec hb hJ.1 hJ.2.1 hJ.2.2.1 hJ.2.2.2 12 0 (f := M 12) rfl rfl hin hdg (fun H1 locs1 hP hD hS => kk H1 locs1 ⟨hJ.1, hP, hD, hS⟩)
theorem jald_13 {p : Program} {l : Launch} {e : Env} {R : Room} {s : State} {m : MethodId} {args : Array Value} {below : List Frame} {meth : Method} {c : Code} {H : Heap} {locs : List Loc} {cells slots : Nat} {Q : State → Prop} {cc : ByteArray} {dC : Nat → ClassId} {dI : Nat → Nat → Nat} {cA : ClassId} {A B : Nat → Nat} {M : jM} {F : jF} {Ap : Nat → Prop} {pc : Nat} {ls : Array Slot} {rest : List Value} {i : Int32} (hexec : p.tables.exec = Jvm.exec) (hb : c.code = cc) (hJ : jH (dC, dI) jCl [(cA, .int)] (jW cA A B M F) Ap s H locs) (hin : vp_in i 12) (hdg : decode cc pc = .ok (.iaload, 1)) (kk : W p l e R s m args below meth c H locs cells slots Q (F0 m (pc + 1) ls (.int (M 13 i.toNatClampNeg) :: rest))) : W p l e R s m args below meth c H locs cells slots Q (F0 m pc ls (.int i :: .ref (A 13) :: rest)) :=
  va_iald hexec hb hJ.1 hJ.2.1 13 0 (f := M 13) rfl rfl hin hdg kk
theorem jast_13 {p : Program} {l : Launch} {e : Env} {R : Room} {s : State} {m : MethodId} {args : Array Value} {below : List Frame} {meth : Method} {c : Code} {H : Heap} {locs : List Loc} {cells slots : Nat} {Q : State → Prop} {cc : ByteArray} {dC : Nat → ClassId} {dI : Nat → Nat → Nat} {cA : ClassId} {A B : Nat → Nat} {M : jM} {F : jF} {Ap : Nat → Prop} {pc : Nat} {ls : Array Slot} {rest : List Value} {i x : Int32} (hexec : p.tables.exec = Jvm.exec) (hb : c.code = cc) (hJ : jH (dC, dI) jCl [(cA, .int)] (jW cA A B M F) Ap s H locs) (hin : vp_in i 12) (hdg : decode cc pc = .ok (.iastore, 1)) (kk : ∀ (H1 : Heap) (locs1 : List Loc), jH (dC, dI) jCl [(cA, .int)] (jW cA A B (jmu M 13 i.toNatClampNeg x) F) Ap s H1 locs1 → W p l e R s m args below meth c H1 locs1 cells slots Q (F0 m (pc + 1) ls rest)) : W p l e R s m args below meth c H locs cells slots Q (F0 m pc ls (.int x :: .int i :: .ref (A 13) :: rest)) :=
  va_iast hexec hb hJ.1 hJ.2.1 hJ.2.2.1 hJ.2.2.2 13 0 (f := M 13) rfl rfl hin hdg (fun H1 locs1 hP hD hS => kk H1 locs1 ⟨hJ.1, hP, hD, hS⟩)
theorem jald_14 {p : Program} {l : Launch} {e : Env} {R : Room} {s : State} {m : MethodId} {args : Array Value} {below : List Frame} {meth : Method} {c : Code} {H : Heap} {locs : List Loc} {cells slots : Nat} {Q : State → Prop} {cc : ByteArray} {dC : Nat → ClassId} {dI : Nat → Nat → Nat} {cA : ClassId} {A B : Nat → Nat} {M : jM} {F : jF} {Ap : Nat → Prop} {pc : Nat} {ls : Array Slot} {rest : List Value} {i : Int32} (hexec : p.tables.exec = Jvm.exec) (hb : c.code = cc) (hJ : jH (dC, dI) jCl [(cA, .int)] (jW cA A B M F) Ap s H locs) (hin : vp_in i 12) (hdg : decode cc pc = .ok (.iaload, 1)) (kk : W p l e R s m args below meth c H locs cells slots Q (F0 m (pc + 1) ls (.int (M 14 i.toNatClampNeg) :: rest))) : W p l e R s m args below meth c H locs cells slots Q (F0 m pc ls (.int i :: .ref (A 14) :: rest)) :=
  va_iald hexec hb hJ.1 hJ.2.1 14 0 (f := M 14) rfl rfl hin hdg kk
theorem jast_14 {p : Program} {l : Launch} {e : Env} {R : Room} {s : State} {m : MethodId} {args : Array Value} {below : List Frame} {meth : Method} {c : Code} {H : Heap} {locs : List Loc} {cells slots : Nat} {Q : State → Prop} {cc : ByteArray} {dC : Nat → ClassId} {dI : Nat → Nat → Nat} {cA : ClassId} {A B : Nat → Nat} {M : jM} {F : jF} {Ap : Nat → Prop} {pc : Nat} {ls : Array Slot} {rest : List Value} {i x : Int32} (hexec : p.tables.exec = Jvm.exec) (hb : c.code = cc) (hJ : jH (dC, dI) jCl [(cA, .int)] (jW cA A B M F) Ap s H locs) (hin : vp_in i 12) (hdg : decode cc pc = .ok (.iastore, 1)) (kk : ∀ (H1 : Heap) (locs1 : List Loc), jH (dC, dI) jCl [(cA, .int)] (jW cA A B (jmu M 14 i.toNatClampNeg x) F) Ap s H1 locs1 → W p l e R s m args below meth c H1 locs1 cells slots Q (F0 m (pc + 1) ls rest)) : W p l e R s m args below meth c H locs cells slots Q (F0 m pc ls (.int x :: .int i :: .ref (A 14) :: rest)) :=
  va_iast hexec hb hJ.1 hJ.2.1 hJ.2.2.1 hJ.2.2.2 14 0 (f := M 14) rfl rfl hin hdg (fun H1 locs1 hP hD hS => kk H1 locs1 ⟨hJ.1, hP, hD, hS⟩)
theorem jald_15 {p : Program} {l : Launch} {e : Env} {R : Room} {s : State} {m : MethodId} {args : Array Value} {below : List Frame} {meth : Method} {c : Code} {H : Heap} {locs : List Loc} {cells slots : Nat} {Q : State → Prop} {cc : ByteArray} {dC : Nat → ClassId} {dI : Nat → Nat → Nat} {cA : ClassId} {A B : Nat → Nat} {M : jM} {F : jF} {Ap : Nat → Prop} {pc : Nat} {ls : Array Slot} {rest : List Value} {i : Int32} (hexec : p.tables.exec = Jvm.exec) (hb : c.code = cc) (hJ : jH (dC, dI) jCl [(cA, .int)] (jW cA A B M F) Ap s H locs) (hin : vp_in i 12) (hdg : decode cc pc = .ok (.iaload, 1)) (kk : W p l e R s m args below meth c H locs cells slots Q (F0 m (pc + 1) ls (.int (M 15 i.toNatClampNeg) :: rest))) : W p l e R s m args below meth c H locs cells slots Q (F0 m pc ls (.int i :: .ref (A 15) :: rest)) :=
  va_iald hexec hb hJ.1 hJ.2.1 15 0 (f := M 15) rfl rfl hin hdg kk
theorem jast_15 {p : Program} {l : Launch} {e : Env} {R : Room} {s : State} {m : MethodId} {args : Array Value} {below : List Frame} {meth : Method} {c : Code} {H : Heap} {locs : List Loc} {cells slots : Nat} {Q : State → Prop} {cc : ByteArray} {dC : Nat → ClassId} {dI : Nat → Nat → Nat} {cA : ClassId} {A B : Nat → Nat} {M : jM} {F : jF} {Ap : Nat → Prop} {pc : Nat} {ls : Array Slot} {rest : List Value} {i x : Int32} (hexec : p.tables.exec = Jvm.exec) (hb : c.code = cc) (hJ : jH (dC, dI) jCl [(cA, .int)] (jW cA A B M F) Ap s H locs) (hin : vp_in i 12) (hdg : decode cc pc = .ok (.iastore, 1)) (kk : ∀ (H1 : Heap) (locs1 : List Loc), jH (dC, dI) jCl [(cA, .int)] (jW cA A B (jmu M 15 i.toNatClampNeg x) F) Ap s H1 locs1 → W p l e R s m args below meth c H1 locs1 cells slots Q (F0 m (pc + 1) ls rest)) : W p l e R s m args below meth c H locs cells slots Q (F0 m pc ls (.int x :: .int i :: .ref (A 15) :: rest)) :=
  va_iast hexec hb hJ.1 hJ.2.1 hJ.2.2.1 hJ.2.2.2 15 0 (f := M 15) rfl rfl hin hdg (fun H1 locs1 hP hD hS => kk H1 locs1 ⟨hJ.1, hP, hD, hS⟩)
theorem jald_16 {p : Program} {l : Launch} {e : Env} {R : Room} {s : State} {m : MethodId} {args : Array Value} {below : List Frame} {meth : Method} {c : Code} {H : Heap} {locs : List Loc} {cells slots : Nat} {Q : State → Prop} {cc : ByteArray} {dC : Nat → ClassId} {dI : Nat → Nat → Nat} {cA : ClassId} {A B : Nat → Nat} {M : jM} {F : jF} {Ap : Nat → Prop} {pc : Nat} {ls : Array Slot} {rest : List Value} {i : Int32} (hexec : p.tables.exec = Jvm.exec) (hb : c.code = cc) (hJ : jH (dC, dI) jCl [(cA, .int)] (jW cA A B M F) Ap s H locs) (hin : vp_in i 12) (hdg : decode cc pc = .ok (.iaload, 1)) (kk : W p l e R s m args below meth c H locs cells slots Q (F0 m (pc + 1) ls (.int (M 16 i.toNatClampNeg) :: rest))) : W p l e R s m args below meth c H locs cells slots Q (F0 m pc ls (.int i :: .ref (A 16) :: rest)) :=
  va_iald hexec hb hJ.1 hJ.2.1 16 0 (f := M 16) rfl rfl hin hdg kk
theorem jast_16 {p : Program} {l : Launch} {e : Env} {R : Room} {s : State} {m : MethodId} {args : Array Value} {below : List Frame} {meth : Method} {c : Code} {H : Heap} {locs : List Loc} {cells slots : Nat} {Q : State → Prop} {cc : ByteArray} {dC : Nat → ClassId} {dI : Nat → Nat → Nat} {cA : ClassId} {A B : Nat → Nat} {M : jM} {F : jF} {Ap : Nat → Prop} {pc : Nat} {ls : Array Slot} {rest : List Value} {i x : Int32} (hexec : p.tables.exec = Jvm.exec) (hb : c.code = cc) (hJ : jH (dC, dI) jCl [(cA, .int)] (jW cA A B M F) Ap s H locs) (hin : vp_in i 12) (hdg : decode cc pc = .ok (.iastore, 1)) (kk : ∀ (H1 : Heap) (locs1 : List Loc), jH (dC, dI) jCl [(cA, .int)] (jW cA A B (jmu M 16 i.toNatClampNeg x) F) Ap s H1 locs1 → W p l e R s m args below meth c H1 locs1 cells slots Q (F0 m (pc + 1) ls rest)) : W p l e R s m args below meth c H locs cells slots Q (F0 m pc ls (.int x :: .int i :: .ref (A 16) :: rest)) :=
  va_iast hexec hb hJ.1 hJ.2.1 hJ.2.2.1 hJ.2.2.2 16 0 (f := M 16) rfl rfl hin hdg (fun H1 locs1 hP hD hS => kk H1 locs1 ⟨hJ.1, hP, hD, hS⟩)
theorem jald_17 {p : Program} {l : Launch} {e : Env} {R : Room} {s : State} {m : MethodId} {args : Array Value} {below : List Frame} {meth : Method} {c : Code} {H : Heap} {locs : List Loc} {cells slots : Nat} {Q : State → Prop} {cc : ByteArray} {dC : Nat → ClassId} {dI : Nat → Nat → Nat} {cA : ClassId} {A B : Nat → Nat} {M : jM} {F : jF} {Ap : Nat → Prop} {pc : Nat} {ls : Array Slot} {rest : List Value} {i : Int32} (hexec : p.tables.exec = Jvm.exec) (hb : c.code = cc) (hJ : jH (dC, dI) jCl [(cA, .int)] (jW cA A B M F) Ap s H locs) (hin : vp_in i 64) (hdg : decode cc pc = .ok (.iaload, 1)) (kk : W p l e R s m args below meth c H locs cells slots Q (F0 m (pc + 1) ls (.int (M 17 i.toNatClampNeg) :: rest))) : W p l e R s m args below meth c H locs cells slots Q (F0 m pc ls (.int i :: .ref (A 17) :: rest)) :=
  va_iald hexec hb hJ.1 hJ.2.1 17 0 (f := M 17) rfl rfl hin hdg kk
theorem jast_17 {p : Program} {l : Launch} {e : Env} {R : Room} {s : State} {m : MethodId} {args : Array Value} {below : List Frame} {meth : Method} {c : Code} {H : Heap} {locs : List Loc} {cells slots : Nat} {Q : State → Prop} {cc : ByteArray} {dC : Nat → ClassId} {dI : Nat → Nat → Nat} {cA : ClassId} {A B : Nat → Nat} {M : jM} {F : jF} {Ap : Nat → Prop} {pc : Nat} {ls : Array Slot} {rest : List Value} {i x : Int32} (hexec : p.tables.exec = Jvm.exec) (hb : c.code = cc) (hJ : jH (dC, dI) jCl [(cA, .int)] (jW cA A B M F) Ap s H locs) (hin : vp_in i 64) (hdg : decode cc pc = .ok (.iastore, 1)) (kk : ∀ (H1 : Heap) (locs1 : List Loc), jH (dC, dI) jCl [(cA, .int)] (jW cA A B (jmu M 17 i.toNatClampNeg x) F) Ap s H1 locs1 → W p l e R s m args below meth c H1 locs1 cells slots Q (F0 m (pc + 1) ls rest)) : W p l e R s m args below meth c H locs cells slots Q (F0 m pc ls (.int x :: .int i :: .ref (A 17) :: rest)) :=
  va_iast hexec hb hJ.1 hJ.2.1 hJ.2.2.1 hJ.2.2.2 17 0 (f := M 17) rfl rfl hin hdg (fun H1 locs1 hP hD hS => kk H1 locs1 ⟨hJ.1, hP, hD, hS⟩)
theorem jald_18 {p : Program} {l : Launch} {e : Env} {R : Room} {s : State} {m : MethodId} {args : Array Value} {below : List Frame} {meth : Method} {c : Code} {H : Heap} {locs : List Loc} {cells slots : Nat} {Q : State → Prop} {cc : ByteArray} {dC : Nat → ClassId} {dI : Nat → Nat → Nat} {cA : ClassId} {A B : Nat → Nat} {M : jM} {F : jF} {Ap : Nat → Prop} {pc : Nat} {ls : Array Slot} {rest : List Value} {i : Int32} (hexec : p.tables.exec = Jvm.exec) (hb : c.code = cc) (hJ : jH (dC, dI) jCl [(cA, .int)] (jW cA A B M F) Ap s H locs) (hin : vp_in i 64) (hdg : decode cc pc = .ok (.iaload, 1)) (kk : W p l e R s m args below meth c H locs cells slots Q (F0 m (pc + 1) ls (.int (M 18 i.toNatClampNeg) :: rest))) : W p l e R s m args below meth c H locs cells slots Q (F0 m pc ls (.int i :: .ref (A 18) :: rest)) :=
  va_iald hexec hb hJ.1 hJ.2.1 18 0 (f := M 18) rfl rfl hin hdg kk
theorem jast_18 {p : Program} {l : Launch} {e : Env} {R : Room} {s : State} {m : MethodId} {args : Array Value} {below : List Frame} {meth : Method} {c : Code} {H : Heap} {locs : List Loc} {cells slots : Nat} {Q : State → Prop} {cc : ByteArray} {dC : Nat → ClassId} {dI : Nat → Nat → Nat} {cA : ClassId} {A B : Nat → Nat} {M : jM} {F : jF} {Ap : Nat → Prop} {pc : Nat} {ls : Array Slot} {rest : List Value} {i x : Int32} (hexec : p.tables.exec = Jvm.exec) (hb : c.code = cc) (hJ : jH (dC, dI) jCl [(cA, .int)] (jW cA A B M F) Ap s H locs) (hin : vp_in i 64) (hdg : decode cc pc = .ok (.iastore, 1)) (kk : ∀ (H1 : Heap) (locs1 : List Loc), jH (dC, dI) jCl [(cA, .int)] (jW cA A B (jmu M 18 i.toNatClampNeg x) F) Ap s H1 locs1 → W p l e R s m args below meth c H1 locs1 cells slots Q (F0 m (pc + 1) ls rest)) : W p l e R s m args below meth c H locs cells slots Q (F0 m pc ls (.int x :: .int i :: .ref (A 18) :: rest)) :=
  va_iast hexec hb hJ.1 hJ.2.1 hJ.2.2.1 hJ.2.2.2 18 0 (f := M 18) rfl rfl hin hdg (fun H1 locs1 hP hD hS => kk H1 locs1 ⟨hJ.1, hP, hD, hS⟩)
theorem jald_19 {p : Program} {l : Launch} {e : Env} {R : Room} {s : State} {m : MethodId} {args : Array Value} {below : List Frame} {meth : Method} {c : Code} {H : Heap} {locs : List Loc} {cells slots : Nat} {Q : State → Prop} {cc : ByteArray} {dC : Nat → ClassId} {dI : Nat → Nat → Nat} {cA : ClassId} {A B : Nat → Nat} {M : jM} {F : jF} {Ap : Nat → Prop} {pc : Nat} {ls : Array Slot} {rest : List Value} {i : Int32} (hexec : p.tables.exec = Jvm.exec) (hb : c.code = cc) (hJ : jH (dC, dI) jCl [(cA, .int)] (jW cA A B M F) Ap s H locs) (hin : vp_in i 6) (hdg : decode cc pc = .ok (.iaload, 1)) (kk : W p l e R s m args below meth c H locs cells slots Q (F0 m (pc + 1) ls (.int (M 19 i.toNatClampNeg) :: rest))) : W p l e R s m args below meth c H locs cells slots Q (F0 m pc ls (.int i :: .ref (A 19) :: rest)) :=
  va_iald hexec hb hJ.1 hJ.2.1 19 0 (f := M 19) rfl rfl hin hdg kk
theorem jast_19 {p : Program} {l : Launch} {e : Env} {R : Room} {s : State} {m : MethodId} {args : Array Value} {below : List Frame} {meth : Method} {c : Code} {H : Heap} {locs : List Loc} {cells slots : Nat} {Q : State → Prop} {cc : ByteArray} {dC : Nat → ClassId} {dI : Nat → Nat → Nat} {cA : ClassId} {A B : Nat → Nat} {M : jM} {F : jF} {Ap : Nat → Prop} {pc : Nat} {ls : Array Slot} {rest : List Value} {i x : Int32} (hexec : p.tables.exec = Jvm.exec) (hb : c.code = cc) (hJ : jH (dC, dI) jCl [(cA, .int)] (jW cA A B M F) Ap s H locs) (hin : vp_in i 6) (hdg : decode cc pc = .ok (.iastore, 1)) (kk : ∀ (H1 : Heap) (locs1 : List Loc), jH (dC, dI) jCl [(cA, .int)] (jW cA A B (jmu M 19 i.toNatClampNeg x) F) Ap s H1 locs1 → W p l e R s m args below meth c H1 locs1 cells slots Q (F0 m (pc + 1) ls rest)) : W p l e R s m args below meth c H locs cells slots Q (F0 m pc ls (.int x :: .int i :: .ref (A 19) :: rest)) :=
  va_iast hexec hb hJ.1 hJ.2.1 hJ.2.2.1 hJ.2.2.2 19 0 (f := M 19) rfl rfl hin hdg (fun H1 locs1 hP hD hS => kk H1 locs1 ⟨hJ.1, hP, hD, hS⟩)
theorem jald_20 {p : Program} {l : Launch} {e : Env} {R : Room} {s : State} {m : MethodId} {args : Array Value} {below : List Frame} {meth : Method} {c : Code} {H : Heap} {locs : List Loc} {cells slots : Nat} {Q : State → Prop} {cc : ByteArray} {dC : Nat → ClassId} {dI : Nat → Nat → Nat} {cA : ClassId} {A B : Nat → Nat} {M : jM} {F : jF} {Ap : Nat → Prop} {pc : Nat} {ls : Array Slot} {rest : List Value} {i : Int32} (hexec : p.tables.exec = Jvm.exec) (hb : c.code = cc) (hJ : jH (dC, dI) jCl [(cA, .int)] (jW cA A B M F) Ap s H locs) (hin : vp_in i 12) (hdg : decode cc pc = .ok (.iaload, 1)) (kk : W p l e R s m args below meth c H locs cells slots Q (F0 m (pc + 1) ls (.int (M 20 i.toNatClampNeg) :: rest))) : W p l e R s m args below meth c H locs cells slots Q (F0 m pc ls (.int i :: .ref (A 20) :: rest)) :=
  va_iald hexec hb hJ.1 hJ.2.1 20 0 (f := M 20) rfl rfl hin hdg kk
theorem jast_20 {p : Program} {l : Launch} {e : Env} {R : Room} {s : State} {m : MethodId} {args : Array Value} {below : List Frame} {meth : Method} {c : Code} {H : Heap} {locs : List Loc} {cells slots : Nat} {Q : State → Prop} {cc : ByteArray} {dC : Nat → ClassId} {dI : Nat → Nat → Nat} {cA : ClassId} {A B : Nat → Nat} {M : jM} {F : jF} {Ap : Nat → Prop} {pc : Nat} {ls : Array Slot} {rest : List Value} {i x : Int32} (hexec : p.tables.exec = Jvm.exec) (hb : c.code = cc) (hJ : jH (dC, dI) jCl [(cA, .int)] (jW cA A B M F) Ap s H locs) (hin : vp_in i 12) (hdg : decode cc pc = .ok (.iastore, 1)) (kk : ∀ (H1 : Heap) (locs1 : List Loc), jH (dC, dI) jCl [(cA, .int)] (jW cA A B (jmu M 20 i.toNatClampNeg x) F) Ap s H1 locs1 → W p l e R s m args below meth c H1 locs1 cells slots Q (F0 m (pc + 1) ls rest)) : W p l e R s m args below meth c H locs cells slots Q (F0 m pc ls (.int x :: .int i :: .ref (A 20) :: rest)) :=
  va_iast hexec hb hJ.1 hJ.2.1 hJ.2.2.1 hJ.2.2.2 20 0 (f := M 20) rfl rfl hin hdg (fun H1 locs1 hP hD hS => kk H1 locs1 ⟨hJ.1, hP, hD, hS⟩)
theorem jald_21 {p : Program} {l : Launch} {e : Env} {R : Room} {s : State} {m : MethodId} {args : Array Value} {below : List Frame} {meth : Method} {c : Code} {H : Heap} {locs : List Loc} {cells slots : Nat} {Q : State → Prop} {cc : ByteArray} {dC : Nat → ClassId} {dI : Nat → Nat → Nat} {cA : ClassId} {A B : Nat → Nat} {M : jM} {F : jF} {Ap : Nat → Prop} {pc : Nat} {ls : Array Slot} {rest : List Value} {i : Int32} (hexec : p.tables.exec = Jvm.exec) (hb : c.code = cc) (hJ : jH (dC, dI) jCl [(cA, .int)] (jW cA A B M F) Ap s H locs) (hin : vp_in i 12) (hdg : decode cc pc = .ok (.iaload, 1)) (kk : W p l e R s m args below meth c H locs cells slots Q (F0 m (pc + 1) ls (.int (M 21 i.toNatClampNeg) :: rest))) : W p l e R s m args below meth c H locs cells slots Q (F0 m pc ls (.int i :: .ref (A 21) :: rest)) :=
  va_iald hexec hb hJ.1 hJ.2.1 21 0 (f := M 21) rfl rfl hin hdg kk
theorem jast_21 {p : Program} {l : Launch} {e : Env} {R : Room} {s : State} {m : MethodId} {args : Array Value} {below : List Frame} {meth : Method} {c : Code} {H : Heap} {locs : List Loc} {cells slots : Nat} {Q : State → Prop} {cc : ByteArray} {dC : Nat → ClassId} {dI : Nat → Nat → Nat} {cA : ClassId} {A B : Nat → Nat} {M : jM} {F : jF} {Ap : Nat → Prop} {pc : Nat} {ls : Array Slot} {rest : List Value} {i x : Int32} (hexec : p.tables.exec = Jvm.exec) (hb : c.code = cc) (hJ : jH (dC, dI) jCl [(cA, .int)] (jW cA A B M F) Ap s H locs) (hin : vp_in i 12) (hdg : decode cc pc = .ok (.iastore, 1)) (kk : ∀ (H1 : Heap) (locs1 : List Loc), jH (dC, dI) jCl [(cA, .int)] (jW cA A B (jmu M 21 i.toNatClampNeg x) F) Ap s H1 locs1 → W p l e R s m args below meth c H1 locs1 cells slots Q (F0 m (pc + 1) ls rest)) : W p l e R s m args below meth c H locs cells slots Q (F0 m pc ls (.int x :: .int i :: .ref (A 21) :: rest)) :=
  va_iast hexec hb hJ.1 hJ.2.1 hJ.2.2.1 hJ.2.2.2 21 0 (f := M 21) rfl rfl hin hdg (fun H1 locs1 hP hD hS => kk H1 locs1 ⟨hJ.1, hP, hD, hS⟩)
theorem jald_22 {p : Program} {l : Launch} {e : Env} {R : Room} {s : State} {m : MethodId} {args : Array Value} {below : List Frame} {meth : Method} {c : Code} {H : Heap} {locs : List Loc} {cells slots : Nat} {Q : State → Prop} {cc : ByteArray} {dC : Nat → ClassId} {dI : Nat → Nat → Nat} {cA : ClassId} {A B : Nat → Nat} {M : jM} {F : jF} {Ap : Nat → Prop} {pc : Nat} {ls : Array Slot} {rest : List Value} {i : Int32} (hexec : p.tables.exec = Jvm.exec) (hb : c.code = cc) (hJ : jH (dC, dI) jCl [(cA, .int)] (jW cA A B M F) Ap s H locs) (hin : vp_in i 384) (hdg : decode cc pc = .ok (.iaload, 1)) (kk : W p l e R s m args below meth c H locs cells slots Q (F0 m (pc + 1) ls (.int (M 22 i.toNatClampNeg) :: rest))) : W p l e R s m args below meth c H locs cells slots Q (F0 m pc ls (.int i :: .ref (A 22) :: rest)) :=
  va_iald hexec hb hJ.1 hJ.2.1 22 0 (f := M 22) rfl rfl hin hdg kk
theorem jast_22 {p : Program} {l : Launch} {e : Env} {R : Room} {s : State} {m : MethodId} {args : Array Value} {below : List Frame} {meth : Method} {c : Code} {H : Heap} {locs : List Loc} {cells slots : Nat} {Q : State → Prop} {cc : ByteArray} {dC : Nat → ClassId} {dI : Nat → Nat → Nat} {cA : ClassId} {A B : Nat → Nat} {M : jM} {F : jF} {Ap : Nat → Prop} {pc : Nat} {ls : Array Slot} {rest : List Value} {i x : Int32} (hexec : p.tables.exec = Jvm.exec) (hb : c.code = cc) (hJ : jH (dC, dI) jCl [(cA, .int)] (jW cA A B M F) Ap s H locs) (hin : vp_in i 384) (hdg : decode cc pc = .ok (.iastore, 1)) (kk : ∀ (H1 : Heap) (locs1 : List Loc), jH (dC, dI) jCl [(cA, .int)] (jW cA A B (jmu M 22 i.toNatClampNeg x) F) Ap s H1 locs1 → W p l e R s m args below meth c H1 locs1 cells slots Q (F0 m (pc + 1) ls rest)) : W p l e R s m args below meth c H locs cells slots Q (F0 m pc ls (.int x :: .int i :: .ref (A 22) :: rest)) :=
  va_iast hexec hb hJ.1 hJ.2.1 hJ.2.2.1 hJ.2.2.2 22 0 (f := M 22) rfl rfl hin hdg (fun H1 locs1 hP hD hS => kk H1 locs1 ⟨hJ.1, hP, hD, hS⟩)
theorem jald_23 {p : Program} {l : Launch} {e : Env} {R : Room} {s : State} {m : MethodId} {args : Array Value} {below : List Frame} {meth : Method} {c : Code} {H : Heap} {locs : List Loc} {cells slots : Nat} {Q : State → Prop} {cc : ByteArray} {dC : Nat → ClassId} {dI : Nat → Nat → Nat} {cA : ClassId} {A B : Nat → Nat} {M : jM} {F : jF} {Ap : Nat → Prop} {pc : Nat} {ls : Array Slot} {rest : List Value} {i : Int32} (hexec : p.tables.exec = Jvm.exec) (hb : c.code = cc) (hJ : jH (dC, dI) jCl [(cA, .int)] (jW cA A B M F) Ap s H locs) (hin : vp_in i 3000) (hdg : decode cc pc = .ok (.iaload, 1)) (kk : W p l e R s m args below meth c H locs cells slots Q (F0 m (pc + 1) ls (.int (M 23 i.toNatClampNeg) :: rest))) : W p l e R s m args below meth c H locs cells slots Q (F0 m pc ls (.int i :: .ref (B 0) :: rest)) :=
  va_iald hexec hb hJ.1 hJ.2.1 23 0 (f := M 23) rfl rfl hin hdg kk
theorem jast_23 {p : Program} {l : Launch} {e : Env} {R : Room} {s : State} {m : MethodId} {args : Array Value} {below : List Frame} {meth : Method} {c : Code} {H : Heap} {locs : List Loc} {cells slots : Nat} {Q : State → Prop} {cc : ByteArray} {dC : Nat → ClassId} {dI : Nat → Nat → Nat} {cA : ClassId} {A B : Nat → Nat} {M : jM} {F : jF} {Ap : Nat → Prop} {pc : Nat} {ls : Array Slot} {rest : List Value} {i x : Int32} (hexec : p.tables.exec = Jvm.exec) (hb : c.code = cc) (hJ : jH (dC, dI) jCl [(cA, .int)] (jW cA A B M F) Ap s H locs) (hin : vp_in i 3000) (hdg : decode cc pc = .ok (.iastore, 1)) (kk : ∀ (H1 : Heap) (locs1 : List Loc), jH (dC, dI) jCl [(cA, .int)] (jW cA A B (jmu M 23 i.toNatClampNeg x) F) Ap s H1 locs1 → W p l e R s m args below meth c H1 locs1 cells slots Q (F0 m (pc + 1) ls rest)) : W p l e R s m args below meth c H locs cells slots Q (F0 m pc ls (.int x :: .int i :: .ref (B 0) :: rest)) :=
  va_iast hexec hb hJ.1 hJ.2.1 hJ.2.2.1 hJ.2.2.2 23 0 (f := M 23) rfl rfl hin hdg (fun H1 locs1 hP hD hS => kk H1 locs1 ⟨hJ.1, hP, hD, hS⟩)
theorem jald_24 {p : Program} {l : Launch} {e : Env} {R : Room} {s : State} {m : MethodId} {args : Array Value} {below : List Frame} {meth : Method} {c : Code} {H : Heap} {locs : List Loc} {cells slots : Nat} {Q : State → Prop} {cc : ByteArray} {dC : Nat → ClassId} {dI : Nat → Nat → Nat} {cA : ClassId} {A B : Nat → Nat} {M : jM} {F : jF} {Ap : Nat → Prop} {pc : Nat} {ls : Array Slot} {rest : List Value} {i : Int32} (hexec : p.tables.exec = Jvm.exec) (hb : c.code = cc) (hJ : jH (dC, dI) jCl [(cA, .int)] (jW cA A B M F) Ap s H locs) (hin : vp_in i 3000) (hdg : decode cc pc = .ok (.iaload, 1)) (kk : W p l e R s m args below meth c H locs cells slots Q (F0 m (pc + 1) ls (.int (M 24 i.toNatClampNeg) :: rest))) : W p l e R s m args below meth c H locs cells slots Q (F0 m pc ls (.int i :: .ref (B 1) :: rest)) :=
  va_iald hexec hb hJ.1 hJ.2.1 24 0 (f := M 24) rfl rfl hin hdg kk
theorem jast_24 {p : Program} {l : Launch} {e : Env} {R : Room} {s : State} {m : MethodId} {args : Array Value} {below : List Frame} {meth : Method} {c : Code} {H : Heap} {locs : List Loc} {cells slots : Nat} {Q : State → Prop} {cc : ByteArray} {dC : Nat → ClassId} {dI : Nat → Nat → Nat} {cA : ClassId} {A B : Nat → Nat} {M : jM} {F : jF} {Ap : Nat → Prop} {pc : Nat} {ls : Array Slot} {rest : List Value} {i x : Int32} (hexec : p.tables.exec = Jvm.exec) (hb : c.code = cc) (hJ : jH (dC, dI) jCl [(cA, .int)] (jW cA A B M F) Ap s H locs) (hin : vp_in i 3000) (hdg : decode cc pc = .ok (.iastore, 1)) (kk : ∀ (H1 : Heap) (locs1 : List Loc), jH (dC, dI) jCl [(cA, .int)] (jW cA A B (jmu M 24 i.toNatClampNeg x) F) Ap s H1 locs1 → W p l e R s m args below meth c H1 locs1 cells slots Q (F0 m (pc + 1) ls rest)) : W p l e R s m args below meth c H locs cells slots Q (F0 m pc ls (.int x :: .int i :: .ref (B 1) :: rest)) :=
  va_iast hexec hb hJ.1 hJ.2.1 hJ.2.2.1 hJ.2.2.2 24 0 (f := M 24) rfl rfl hin hdg (fun H1 locs1 hP hD hS => kk H1 locs1 ⟨hJ.1, hP, hD, hS⟩)
theorem jald_25 {p : Program} {l : Launch} {e : Env} {R : Room} {s : State} {m : MethodId} {args : Array Value} {below : List Frame} {meth : Method} {c : Code} {H : Heap} {locs : List Loc} {cells slots : Nat} {Q : State → Prop} {cc : ByteArray} {dC : Nat → ClassId} {dI : Nat → Nat → Nat} {cA : ClassId} {A B : Nat → Nat} {M : jM} {F : jF} {Ap : Nat → Prop} {pc : Nat} {ls : Array Slot} {rest : List Value} {i : Int32} (hexec : p.tables.exec = Jvm.exec) (hb : c.code = cc) (hJ : jH (dC, dI) jCl [(cA, .int)] (jW cA A B M F) Ap s H locs) (hin : vp_in i 33) (hdg : decode cc pc = .ok (.iaload, 1)) (kk : W p l e R s m args below meth c H locs cells slots Q (F0 m (pc + 1) ls (.int (M 25 i.toNatClampNeg) :: rest))) : W p l e R s m args below meth c H locs cells slots Q (F0 m pc ls (.int i :: .ref (A 25) :: rest)) :=
  va_iald hexec hb hJ.1 hJ.2.1 25 0 (f := M 25) rfl rfl hin hdg kk
theorem jast_25 {p : Program} {l : Launch} {e : Env} {R : Room} {s : State} {m : MethodId} {args : Array Value} {below : List Frame} {meth : Method} {c : Code} {H : Heap} {locs : List Loc} {cells slots : Nat} {Q : State → Prop} {cc : ByteArray} {dC : Nat → ClassId} {dI : Nat → Nat → Nat} {cA : ClassId} {A B : Nat → Nat} {M : jM} {F : jF} {Ap : Nat → Prop} {pc : Nat} {ls : Array Slot} {rest : List Value} {i x : Int32} (hexec : p.tables.exec = Jvm.exec) (hb : c.code = cc) (hJ : jH (dC, dI) jCl [(cA, .int)] (jW cA A B M F) Ap s H locs) (hin : vp_in i 33) (hdg : decode cc pc = .ok (.iastore, 1)) (kk : ∀ (H1 : Heap) (locs1 : List Loc), jH (dC, dI) jCl [(cA, .int)] (jW cA A B (jmu M 25 i.toNatClampNeg x) F) Ap s H1 locs1 → W p l e R s m args below meth c H1 locs1 cells slots Q (F0 m (pc + 1) ls rest)) : W p l e R s m args below meth c H locs cells slots Q (F0 m pc ls (.int x :: .int i :: .ref (A 25) :: rest)) :=
  va_iast hexec hb hJ.1 hJ.2.1 hJ.2.2.1 hJ.2.2.2 25 0 (f := M 25) rfl rfl hin hdg (fun H1 locs1 hP hD hS => kk H1 locs1 ⟨hJ.1, hP, hD, hS⟩)
theorem jald_26 {p : Program} {l : Launch} {e : Env} {R : Room} {s : State} {m : MethodId} {args : Array Value} {below : List Frame} {meth : Method} {c : Code} {H : Heap} {locs : List Loc} {cells slots : Nat} {Q : State → Prop} {cc : ByteArray} {dC : Nat → ClassId} {dI : Nat → Nat → Nat} {cA : ClassId} {A B : Nat → Nat} {M : jM} {F : jF} {Ap : Nat → Prop} {pc : Nat} {ls : Array Slot} {rest : List Value} {i : Int32} (hexec : p.tables.exec = Jvm.exec) (hb : c.code = cc) (hJ : jH (dC, dI) jCl [(cA, .int)] (jW cA A B M F) Ap s H locs) (hin : vp_in i 3000) (hdg : decode cc pc = .ok (.iaload, 1)) (kk : W p l e R s m args below meth c H locs cells slots Q (F0 m (pc + 1) ls (.int (M 26 i.toNatClampNeg) :: rest))) : W p l e R s m args below meth c H locs cells slots Q (F0 m pc ls (.int i :: .ref (B 2) :: rest)) :=
  va_iald hexec hb hJ.1 hJ.2.1 26 0 (f := M 26) rfl rfl hin hdg kk
theorem jast_26 {p : Program} {l : Launch} {e : Env} {R : Room} {s : State} {m : MethodId} {args : Array Value} {below : List Frame} {meth : Method} {c : Code} {H : Heap} {locs : List Loc} {cells slots : Nat} {Q : State → Prop} {cc : ByteArray} {dC : Nat → ClassId} {dI : Nat → Nat → Nat} {cA : ClassId} {A B : Nat → Nat} {M : jM} {F : jF} {Ap : Nat → Prop} {pc : Nat} {ls : Array Slot} {rest : List Value} {i x : Int32} (hexec : p.tables.exec = Jvm.exec) (hb : c.code = cc) (hJ : jH (dC, dI) jCl [(cA, .int)] (jW cA A B M F) Ap s H locs) (hin : vp_in i 3000) (hdg : decode cc pc = .ok (.iastore, 1)) (kk : ∀ (H1 : Heap) (locs1 : List Loc), jH (dC, dI) jCl [(cA, .int)] (jW cA A B (jmu M 26 i.toNatClampNeg x) F) Ap s H1 locs1 → W p l e R s m args below meth c H1 locs1 cells slots Q (F0 m (pc + 1) ls rest)) : W p l e R s m args below meth c H locs cells slots Q (F0 m pc ls (.int x :: .int i :: .ref (B 2) :: rest)) :=
  va_iast hexec hb hJ.1 hJ.2.1 hJ.2.2.1 hJ.2.2.2 26 0 (f := M 26) rfl rfl hin hdg (fun H1 locs1 hP hD hS => kk H1 locs1 ⟨hJ.1, hP, hD, hS⟩)
end
section
abbrev bTa_empty : ByteArray := prog_6_method_2_code
abbrev yTa_empty : MethodName := ⟨RTa, "empty", "(II)V"⟩
abbrev wTa_empty : List Cond := .code yTa_empty bTa_empty 4 none :: jw
theorem dTa_empty_0 : decode bTa_empty 0 = .ok (.aload_n 0, 1) := by decide +kernel
theorem dTa_empty_1 : decode bTa_empty 1 = .ok (.getfield 15, 3) := by decide +kernel
theorem dTa_empty_4 : decode bTa_empty 4 = .ok (.iload_n 1, 1) := by decide +kernel
theorem dTa_empty_5 : decode bTa_empty 5 = .ok (.iconst 0, 1) := by decide +kernel
theorem dTa_empty_6 : decode bTa_empty 6 = .ok (.iastore, 1) := by decide +kernel
theorem dTa_empty_7 : decode bTa_empty 7 = .ok (.aload_n 0, 1) := by decide +kernel
theorem dTa_empty_8 : decode bTa_empty 8 = .ok (.getfield 18, 3) := by decide +kernel
theorem dTa_empty_11 : decode bTa_empty 11 = .ok (.iload_n 1, 1) := by decide +kernel
theorem dTa_empty_12 : decode bTa_empty 12 = .ok (.iload_n 2, 1) := by decide +kernel
theorem dTa_empty_13 : decode bTa_empty 13 = .ok (.iastore, 1) := by decide +kernel
theorem dTa_empty_14 : decode bTa_empty 14 = .ok (.iconst 0, 1) := by decide +kernel
theorem dTa_empty_15 : decode bTa_empty 15 = .ok (.istore_n 3, 1) := by decide +kernel
theorem dTa_empty_16 : decode bTa_empty 16 = .ok (.iload_n 3, 1) := by decide +kernel
theorem dTa_empty_17 : decode bTa_empty 17 = .ok (.iconst 4, 1) := by decide +kernel
theorem dTa_empty_18 : decode bTa_empty 18 = .ok (.if_icmp .ge 20, 3) := by decide +kernel
theorem dTa_empty_21 : decode bTa_empty 21 = .ok (.aload_n 0, 1) := by decide +kernel
theorem dTa_empty_22 : decode bTa_empty 22 = .ok (.getfield 21, 3) := by decide +kernel
theorem dTa_empty_25 : decode bTa_empty 25 = .ok (.iload_n 1, 1) := by decide +kernel
theorem dTa_empty_26 : decode bTa_empty 26 = .ok (.iconst 4, 1) := by decide +kernel
theorem dTa_empty_27 : decode bTa_empty 27 = .ok (.imul, 1) := by decide +kernel
theorem dTa_empty_28 : decode bTa_empty 28 = .ok (.iload_n 3, 1) := by decide +kernel
theorem dTa_empty_29 : decode bTa_empty 29 = .ok (.iadd, 1) := by decide +kernel
theorem dTa_empty_30 : decode bTa_empty 30 = .ok (.iconst 0, 1) := by decide +kernel
theorem dTa_empty_31 : decode bTa_empty 31 = .ok (.iastore, 1) := by decide +kernel
theorem dTa_empty_32 : decode bTa_empty 32 = .ok (.iinc 3 1, 3) := by decide +kernel
theorem dTa_empty_35 : decode bTa_empty 35 = .ok (.goto (-19), 3) := by decide +kernel
theorem dTa_empty_38 : decode bTa_empty 38 = .ok (.return_, 1) := by decide +kernel
abbrev rTa_empty : Room := { frames := 0, cells := 0, slots := 0, locals := 0 }
def fTa_empty_16 : Nat → Int32 → Int32 → jM → jF → Option (Int32 × jM × jF)
  | 0, _, _, _, _ => none
  | n + 1, x1, x3, M, F => (if 4 ≤ x3 then some (0, M, F) else (if jib ((x1 * 4) + x3) 24 then fTa_empty_16 n x1 (x3 + 1) (jmu M 9 ((x1 * 4) + x3).toNatClampNeg 0) F else none))
def fTa_empty_0 (x1 : Int32) (x2 : Int32) (M : jM) (F : jF) : Option (Int32 × jM × jF) := (if jib x1 6 then (if jib x1 6 then fTa_empty_16 jfuel x1 0 (jmu (jmu M 7 x1.toNatClampNeg 0) 8 x1.toNatClampNeg x2) F else none) else none)
abbrev fTa_empty (x1 : Int32) (x2 : Int32) (M : jM) (F : jF) : Option (Int32 × jM × jF) := fTa_empty_0 x1 x2 M F
set_option maxHeartbeats 4000000 in
set_option maxRecDepth 100000 in
theorem uTa_empty_16 {p : Program} {e : Env} {s : State} {m : MethodId} {args : Array Value} {below : List Frame} {meth : Method} {c : Code} (l : Launch) (dC : Nat → ClassId) (dI : Nat → Nat → Nat) (cA : ClassId) (A : Nat → Nat) (Ap : Nat → Prop) (hC : jAt p s m args meth c bTa_empty 4 none wTa_empty RTa) (hA : ∀ q : Nat, s.heap.size ≤ q → Ap q) {r : Int32} {M' : jM} {F' : jF} : ∀ (n : Nat) (x1 x3 : Int32) (M : jM) (F : jF) (B : Nat → Nat) (H : Heap) (locs : List Loc) (ls : Array Slot), jH (dC, dI) jCl [(cA, .int)] (jW cA A B M F) Ap s H locs → lv_has ls 4 [(0, .ref (A 4)), (1, .int x1), (3, .int x3)] → fTa_empty_16 n x1 x3 M F = some (r, M', F') → W p l e (headSpec wTa_empty rTa_empty).room s m args below meth c H locs 0 0 (jQv below (dC, dI) jCl [(cA, .int)] (fun B => jW cA A B (M') (F')) Ap args s) (F0 m 16 ls []) := by
  obtain ⟨hx, hb, hml, hr, hts, hown, hlocks, hN⟩ := id hC
  have hj : ∀ w ∈ jw, w.before args s = true := fun w h => hts w (List.mem_cons_of_mem _ h)
  intro n
  induction n with
  | zero =>
    intro x1 x3 M F B H locs ls hJ hl h
    rw [fTa_empty_16] at h
    cases h
  | succ n ih =>
    intro x1 x3 M F B H locs ls hJ hl h
    rw [fTa_empty_16] at h
    refine lv_iload_n hx hb dTa_empty_16 rfl (lv_at hl 2 rfl) ?_
    refine lv_iconst (v := 4) hx hb dTa_empty_17 (by decide) ?_
    refine lv_icmp_ge (tgt := 38) hx hb dTa_empty_18 (by decide) (fun c3 => ?_) (fun c3 => ?_)
    · replace h := jif_t c3 h
      cases h
      exact jretv (u := B) hx hb hr hlocks hJ dTa_empty_38
    · replace h := jif_f c3 h
      refine lv_aload_n hx hb dTa_empty_21 rfl (lv_at hl 0 rfl) ?_
      refine va_get (D := (dC, dI)) (ci := 4) (v := .ref (A 9)) (C := RTa) (T := TTa) (N := 4) hx hb hj iTa hown hJ.1 hJ.2.1 4 rfl rfl 3 (by decide) (hj _ jw_52) (fun _ h9 => h9) rfl dTa_empty_22 ?_
      refine lv_iload_n hx hb dTa_empty_25 rfl (lv_at hl 1 rfl) ?_
      refine lv_iconst (v := 4) hx hb dTa_empty_26 (by decide) ?_
      refine lv_imul hx hb dTa_empty_27 ?_
      refine lv_iload_n hx hb dTa_empty_28 rfl (lv_at hl 2 rfl) ?_
      refine lv_iadd hx hb dTa_empty_29 ?_
      refine lv_iconst (v := 0) hx hb dTa_empty_30 (by decide) ?_
      obtain ⟨hi4, h⟩ := jib_h h
      refine jast_9 hx hb hJ hi4 dTa_empty_31 (fun H locs hJ => ?_)
      refine lv_iinc (v := x3 + 1) (lv' := [(3, .int (x3 + 1)), (0, .ref (A 4)), (1, .int x1)]) hx hb dTa_empty_32 hl (k := 2) rfl rfl (by decide) rfl (fun ls hl => ?_)
      refine lv_goto (tgt := 16) hx hb dTa_empty_35 (by decide) ?_
      exact ih _ _ _ _ _ _ _ _ hJ (lv_sub hl [1, 2, 0] rfl) h
set_option maxHeartbeats 4000000 in
set_option maxRecDepth 100000 in
theorem uTa_empty_0 {p : Program} {e : Env} {s : State} {m : MethodId} {args : Array Value} {below : List Frame} {meth : Method} {c : Code} (l : Launch) (dC : Nat → ClassId) (dI : Nat → Nat → Nat) (cA : ClassId) (A : Nat → Nat) (Ap : Nat → Prop) (hC : jAt p s m args meth c bTa_empty 4 none wTa_empty RTa) (hA : ∀ q : Nat, s.heap.size ≤ q → Ap q) {r : Int32} {M' : jM} {F' : jF} : ∀ (x1 x2 : Int32) (M : jM) (F : jF) (B : Nat → Nat) (H : Heap) (locs : List Loc) (ls : Array Slot), jH (dC, dI) jCl [(cA, .int)] (jW cA A B M F) Ap s H locs → lv_has ls 4 [(0, .ref (A 4)), (1, .int x1), (2, .int x2)] → fTa_empty_0 x1 x2 M F = some (r, M', F') → W p l e (headSpec wTa_empty rTa_empty).room s m args below meth c H locs 0 0 (jQv below (dC, dI) jCl [(cA, .int)] (fun B => jW cA A B (M') (F')) Ap args s) (F0 m 0 ls []) := by
  obtain ⟨hx, hb, hml, hr, hts, hown, hlocks, hN⟩ := id hC
  have hj : ∀ w ∈ jw, w.before args s = true := fun w h => hts w (List.mem_cons_of_mem _ h)
  intro x1 x2 M F B H locs ls hJ hl h
  unfold fTa_empty_0 at h
  refine lv_aload_n hx hb dTa_empty_0 rfl (lv_at hl 0 rfl) ?_
  refine va_get (D := (dC, dI)) (ci := 4) (v := .ref (A 7)) (C := RTa) (T := TTa) (N := 4) hx hb hj iTa hown hJ.1 hJ.2.1 4 rfl rfl 1 (by decide) (hj _ jw_50) (fun _ h9 => h9) rfl dTa_empty_1 ?_
  refine lv_iload_n hx hb dTa_empty_4 rfl (lv_at hl 1 rfl) ?_
  refine lv_iconst (v := 0) hx hb dTa_empty_5 (by decide) ?_
  obtain ⟨hi1, h⟩ := jib_h h
  refine jast_7 hx hb hJ hi1 dTa_empty_6 (fun H locs hJ => ?_)
  refine lv_aload_n hx hb dTa_empty_7 rfl (lv_at hl 0 rfl) ?_
  refine va_get (D := (dC, dI)) (ci := 4) (v := .ref (A 8)) (C := RTa) (T := TTa) (N := 4) hx hb hj iTa hown hJ.1 hJ.2.1 4 rfl rfl 2 (by decide) (hj _ jw_51) (fun _ h9 => h9) rfl dTa_empty_8 ?_
  refine lv_iload_n hx hb dTa_empty_11 rfl (lv_at hl 1 rfl) ?_
  refine lv_iload_n hx hb dTa_empty_12 rfl (lv_at hl 2 rfl) ?_
  obtain ⟨hi2, h⟩ := jib_h h
  refine jast_8 hx hb hJ hi2 dTa_empty_13 (fun H locs hJ => ?_)
  refine lv_iconst (v := 0) hx hb dTa_empty_14 (by decide) ?_
  refine lv_istore_n (lv' := [(3, .int 0), (0, .ref (A 4)), (1, .int x1), (2, .int x2)]) hx hb dTa_empty_15 rfl hl (by decide) rfl (fun ls hl => ?_)
  exact uTa_empty_16 l dC dI cA A Ap hC hA jfuel _ _ _ _ _ _ _ _ hJ (lv_sub hl [1, 2, 0] rfl) h
set_option maxHeartbeats 4000000 in
set_option maxRecDepth 100000 in
theorem cTa_empty (l : Launch) (dC : Nat → ClassId) (dI : Nat → Nat → Nat) (cA : ClassId) (A : Nat → Nat) (x1 : Int32) (x2 : Int32) (M : jM) (F : jF) (B : Nat → Nat) (sz : Nat) {r : Int32} {M' : jM} {F' : jF} (h : fTa_empty x1 x2 M F = some (r, M', F')) : jCv l yTa_empty wTa_empty rTa_empty (dC, dI) jCl [(cA, .int)] [.ref (A 4), .int x1, .int x2] (jW cA A B M F) sz (fun B => jW cA A B (M') (F')) :=
  jOf (Qc := fun Ap => va_Qv (fun _ : Nat → Nat => True) (jPost (dC, dI) jCl [(cA, .int)] (fun B => jW cA A B (M') (F')) Ap) Ap) (by decide) rfl (Nat.le_of_ble_eq_true rfl) (fun p e s m below meth c Ap ls hC hA hJ hl => uTa_empty_0 l dC dI cA A Ap hC hA _ _ _ _ _ _ _ _ hJ (lv_sub hl [0, 1, 2] rfl) h)
abbrev bTa_value : ByteArray := prog_6_method_5_code
abbrev yTa_value : MethodName := ⟨RTa, "value", "(III)I"⟩
abbrev wTa_value : List Cond := .code yTa_value bTa_value 4 (some .int) :: jw
theorem dTa_value_0 : decode bTa_value 0 = .ok (.aload_n 0, 1) := by decide +kernel
theorem dTa_value_1 : decode bTa_value 1 = .ok (.getfield 9, 3) := by decide +kernel
theorem dTa_value_4 : decode bTa_value 4 = .ok (.iload_n 1, 1) := by decide +kernel
theorem dTa_value_5 : decode bTa_value 5 = .ok (.bipush 30, 2) := by decide +kernel
theorem dTa_value_7 : decode bTa_value 7 = .ok (.imul, 1) := by decide +kernel
theorem dTa_value_8 : decode bTa_value 8 = .ok (.iload_n 2, 1) := by decide +kernel
theorem dTa_value_9 : decode bTa_value 9 = .ok (.iadd, 1) := by decide +kernel
theorem dTa_value_10 : decode bTa_value 10 = .ok (.iconst 4, 1) := by decide +kernel
theorem dTa_value_11 : decode bTa_value 11 = .ok (.imul, 1) := by decide +kernel
theorem dTa_value_12 : decode bTa_value 12 = .ok (.iload_n 3, 1) := by decide +kernel
theorem dTa_value_13 : decode bTa_value 13 = .ok (.iadd, 1) := by decide +kernel
theorem dTa_value_14 : decode bTa_value 14 = .ok (.iaload, 1) := by decide +kernel
theorem dTa_value_15 : decode bTa_value 15 = .ok (.ireturn, 1) := by decide +kernel
abbrev rTa_value : Room := { frames := 0, cells := 0, slots := 0, locals := 0 }
def fTa_value_0 (x1 : Int32) (x2 : Int32) (x3 : Int32) (M : jM) (F : jF) : Option Int32 := (if jib ((((x1 * 30) + x2) * 4) + x3) 720 then some (M 6 ((((x1 * 30) + x2) * 4) + x3).toNatClampNeg) else none)
abbrev fTa_value (x1 : Int32) (x2 : Int32) (x3 : Int32) (M : jM) (F : jF) : Option Int32 := fTa_value_0 x1 x2 x3 M F
set_option maxHeartbeats 4000000 in
set_option maxRecDepth 100000 in
theorem uTa_value_0 {p : Program} {e : Env} {s : State} {m : MethodId} {args : Array Value} {below : List Frame} {meth : Method} {c : Code} (l : Launch) (dC : Nat → ClassId) (dI : Nat → Nat → Nat) (cA : ClassId) (A : Nat → Nat) (Ap : Nat → Prop) (hC : jAt p s m args meth c bTa_value 4 (some .int) wTa_value RTa) (hA : ∀ q : Nat, s.heap.size ≤ q → Ap q) {r : Int32} : ∀ (x1 x2 x3 : Int32) (M : jM) (F : jF) (B : Nat → Nat) (H : Heap) (locs : List Loc) (ls : Array Slot), jH (dC, dI) jCl [(cA, .int)] (jW cA A B M F) Ap s H locs → lv_has ls 4 [(0, .ref (A 4)), (1, .int x1), (2, .int x2), (3, .int x3)] → fTa_value_0 x1 x2 x3 M F = some r → W p l e (headSpec wTa_value rTa_value).room s m args below meth c H locs 0 0 (jQi below (dC, dI) jCl [(cA, .int)] (fun B => jW cA A B M F) Ap args s r) (F0 m 0 ls []) := by
  obtain ⟨hx, hb, hml, hr, hts, hown, hlocks, hN⟩ := id hC
  have hj : ∀ w ∈ jw, w.before args s = true := fun w h => hts w (List.mem_cons_of_mem _ h)
  intro x1 x2 x3 M F B H locs ls hJ hl h
  unfold fTa_value_0 at h
  refine lv_aload_n hx hb dTa_value_0 rfl (lv_at hl 0 rfl) ?_
  refine va_get (D := (dC, dI)) (ci := 4) (v := .ref (A 6)) (C := RTa) (T := TTa) (N := 4) hx hb hj iTa hown hJ.1 hJ.2.1 4 rfl rfl 0 (by decide) (hj _ jw_49) (fun _ h9 => h9) rfl dTa_value_1 ?_
  refine lv_iload_n hx hb dTa_value_4 rfl (lv_at hl 1 rfl) ?_
  refine lv_bipush (v := 30) hx hb dTa_value_5 (by decide) ?_
  refine lv_imul hx hb dTa_value_7 ?_
  refine lv_iload_n hx hb dTa_value_8 rfl (lv_at hl 2 rfl) ?_
  refine lv_iadd hx hb dTa_value_9 ?_
  refine lv_iconst (v := 4) hx hb dTa_value_10 (by decide) ?_
  refine lv_imul hx hb dTa_value_11 ?_
  refine lv_iload_n hx hb dTa_value_12 rfl (lv_at hl 3 rfl) ?_
  refine lv_iadd hx hb dTa_value_13 ?_
  obtain ⟨hi1, h⟩ := jib_h h
  refine jald_6 hx hb hJ hi1 dTa_value_14 ?_
  exact jreti (u := B) hx hb hr rfl hlocks hJ dTa_value_15 (Option.some.inj h)
set_option maxHeartbeats 4000000 in
set_option maxRecDepth 100000 in
theorem cTa_value (l : Launch) (dC : Nat → ClassId) (dI : Nat → Nat → Nat) (cA : ClassId) (A : Nat → Nat) (x1 : Int32) (x2 : Int32) (x3 : Int32) (M : jM) (F : jF) (B : Nat → Nat) (sz : Nat) {r : Int32} (h : fTa_value x1 x2 x3 M F = some r) : jCi l yTa_value wTa_value rTa_value (dC, dI) jCl [(cA, .int)] [.ref (A 4), .int x1, .int x2, .int x3] (jW cA A B M F) sz r (fun B => jW cA A B M F) :=
  jOf (Qc := fun Ap => va_Qi (fun q (_ : Nat → Nat) => q = r) (jPost (dC, dI) jCl [(cA, .int)] (fun B => jW cA A B M F) Ap) Ap) (by decide) rfl (Nat.le_of_ble_eq_true rfl) (fun p e s m below meth c Ap ls hC hA hJ hl => uTa_value_0 l dC dI cA A Ap hC hA _ _ _ _ _ _ _ _ _ hJ (lv_sub hl [0, 1, 2, 3] rfl) h)
abbrev bTa_hasValue : ByteArray := prog_6_method_9_code
abbrev yTa_hasValue : MethodName := ⟨RTa, "hasValue", "(III)Z"⟩
abbrev wTa_hasValue : List Cond := .code yTa_hasValue bTa_hasValue 5 (some .boolean) :: jw
theorem dTa_hasValue_0 : decode bTa_hasValue 0 = .ok (.iconst 0, 1) := by decide +kernel
theorem dTa_hasValue_1 : decode bTa_hasValue 1 = .ok (.istore 4, 2) := by decide +kernel
theorem dTa_hasValue_3 : decode bTa_hasValue 3 = .ok (.iload 4, 2) := by decide +kernel
theorem dTa_hasValue_5 : decode bTa_hasValue 5 = .ok (.aload_n 0, 1) := by decide +kernel
theorem dTa_hasValue_6 : decode bTa_hasValue 6 = .ok (.getfield 15, 3) := by decide +kernel
theorem dTa_hasValue_9 : decode bTa_hasValue 9 = .ok (.iload_n 1, 1) := by decide +kernel
theorem dTa_hasValue_10 : decode bTa_hasValue 10 = .ok (.iaload, 1) := by decide +kernel
theorem dTa_hasValue_11 : decode bTa_hasValue 11 = .ok (.if_icmp .ge 23, 3) := by decide +kernel
theorem dTa_hasValue_14 : decode bTa_hasValue 14 = .ok (.aload_n 0, 1) := by decide +kernel
theorem dTa_hasValue_15 : decode bTa_hasValue 15 = .ok (.iload_n 1, 1) := by decide +kernel
theorem dTa_hasValue_16 : decode bTa_hasValue 16 = .ok (.iload 4, 2) := by decide +kernel
theorem dTa_hasValue_18 : decode bTa_hasValue 18 = .ok (.iload_n 2, 1) := by decide +kernel
theorem dTa_hasValue_19 : decode bTa_hasValue 19 = .ok (.invokevirtual 38, 3) := by decide +kernel
theorem dTa_hasValue_22 : decode bTa_hasValue 22 = .ok (.iload_n 3, 1) := by decide +kernel
theorem dTa_hasValue_23 : decode bTa_hasValue 23 = .ok (.if_icmp .ne 5, 3) := by decide +kernel
theorem dTa_hasValue_26 : decode bTa_hasValue 26 = .ok (.iconst 1, 1) := by decide +kernel
theorem dTa_hasValue_27 : decode bTa_hasValue 27 = .ok (.ireturn, 1) := by decide +kernel
theorem dTa_hasValue_28 : decode bTa_hasValue 28 = .ok (.iinc 4 1, 3) := by decide +kernel
theorem dTa_hasValue_31 : decode bTa_hasValue 31 = .ok (.goto (-28), 3) := by decide +kernel
theorem dTa_hasValue_34 : decode bTa_hasValue 34 = .ok (.iconst 0, 1) := by decide +kernel
theorem dTa_hasValue_35 : decode bTa_hasValue 35 = .ok (.ireturn, 1) := by decide +kernel
abbrev rTa_hasValue : Room := { frames := 1, cells := 0, slots := 0, locals := 23 }
def fTa_hasValue_3 : Nat → Int32 → Int32 → Int32 → Int32 → jM → jF → Option Int32
  | 0, _, _, _, _, _, _ => none
  | n + 1, x1, x2, x3, x4, M, F => (if jib x1 6 then (if (M 7 x1.toNatClampNeg) ≤ x4 then some 0 else ((fTa_value x1 x4 x2 M F).bind fun q3 => (if q3 = x3 then some 1 else fTa_hasValue_3 n x1 x2 x3 (x4 + 1) M F))) else none)
def fTa_hasValue_0 (x1 : Int32) (x2 : Int32) (x3 : Int32) (M : jM) (F : jF) : Option Int32 := fTa_hasValue_3 jfuel x1 x2 x3 0 M F
abbrev fTa_hasValue (x1 : Int32) (x2 : Int32) (x3 : Int32) (M : jM) (F : jF) : Option Int32 := fTa_hasValue_0 x1 x2 x3 M F
set_option maxHeartbeats 4000000 in
set_option maxRecDepth 100000 in
theorem uTa_hasValue_3 {p : Program} {e : Env} {s : State} {m : MethodId} {args : Array Value} {below : List Frame} {meth : Method} {c : Code} (l : Launch) (dC : Nat → ClassId) (dI : Nat → Nat → Nat) (cA : ClassId) (A : Nat → Nat) (Ap : Nat → Prop) (hC : jAt p s m args meth c bTa_hasValue 5 (some .boolean) wTa_hasValue RTa) (hA : ∀ q : Nat, s.heap.size ≤ q → Ap q) {r : Int32} : ∀ (n : Nat) (x1 x2 x3 x4 : Int32) (M : jM) (F : jF) (B : Nat → Nat) (H : Heap) (locs : List Loc) (ls : Array Slot), jH (dC, dI) jCl [(cA, .int)] (jW cA A B M F) Ap s H locs → lv_has ls 5 [(0, .ref (A 4)), (1, .int x1), (2, .int x2), (3, .int x3), (4, .int x4)] → fTa_hasValue_3 n x1 x2 x3 x4 M F = some r → W p l e (headSpec wTa_hasValue rTa_hasValue).room s m args below meth c H locs 0 0 (jQi below (dC, dI) jCl [(cA, .int)] (fun B => jW cA A B M F) Ap args s r) (F0 m 3 ls []) := by
  obtain ⟨hx, hb, hml, hr, hts, hown, hlocks, hN⟩ := id hC
  have hj : ∀ w ∈ jw, w.before args s = true := fun w h => hts w (List.mem_cons_of_mem _ h)
  intro n
  induction n with
  | zero =>
    intro x1 x2 x3 x4 M F B H locs ls hJ hl h
    rw [fTa_hasValue_3] at h
    cases h
  | succ n ih =>
    intro x1 x2 x3 x4 M F B H locs ls hJ hl h
    rw [fTa_hasValue_3] at h
    refine lv_iload hx hb dTa_hasValue_3 (lv_at hl 4 rfl) ?_
    refine lv_aload_n hx hb dTa_hasValue_5 rfl (lv_at hl 0 rfl) ?_
    refine va_get (D := (dC, dI)) (ci := 4) (v := .ref (A 7)) (C := RTa) (T := TTa) (N := 4) hx hb hj iTa hown hJ.1 hJ.2.1 4 rfl rfl 1 (by decide) (hj _ jw_50) (fun _ h9 => h9) rfl dTa_hasValue_6 ?_
    refine lv_iload_n hx hb dTa_hasValue_9 rfl (lv_at hl 1 rfl) ?_
    obtain ⟨hi1, h⟩ := jib_h h
    refine jald_7 hx hb hJ hi1 dTa_hasValue_10 ?_
    refine lv_icmp_ge (tgt := 34) hx hb dTa_hasValue_11 (by decide) (fun c2 => ?_) (fun c2 => ?_)
    · replace h := jif_t c2 h
      refine lv_iconst (v := 0) hx hb dTa_hasValue_34 (by decide) ?_
      exact jreti (u := B) hx hb hr rfl hlocks hJ dTa_hasValue_35 (Option.some.inj h)
    · replace h := jif_f c2 h
      refine lv_aload_n hx hb dTa_hasValue_14 rfl (lv_at hl 0 rfl) ?_
      refine lv_iload_n hx hb dTa_hasValue_15 rfl (lv_at hl 1 rfl) ?_
      refine lv_iload hx hb dTa_hasValue_16 (lv_at hl 4 rfl) ?_
      refine lv_iload_n hx hb dTa_hasValue_18 rfl (lv_at hl 2 rfl) ?_
      obtain ⟨q3, hq3, h⟩ := jbi_h h
      refine jcalli (w' := fun B => jW cA A B M F) (va_runV (As := [.int x1, .int x4, .int x2]) (rest := []) ⟨hx, hb, hml, hown, hts⟩ (cTa_value l dC dI cA A x1 x4 x2 M F B H.size hq3) (cwV 3 hts (jgoodV jw_329 jw_330 jw_331 jw_5 jw_332) rfl rfl rfl (by decide +kernel) ⟨Nat.le_of_ble_eq_true rfl, Nat.le_of_ble_eq_true rfl⟩) (jpreV hN hJ (ci := 4) (q0 := 4) rfl rfl) rfl rfl hl.1 rfl (lv_room (Nat.le_of_ble_eq_true rfl)) dTa_hasValue_19 ⟨Nat.zero_le _, Nat.zero_le _⟩) hA hJ (fun B H locs hJ => ?_)
      refine lv_iload_n hx hb dTa_hasValue_22 rfl (lv_at hl 3 rfl) ?_
      refine lv_icmp_ne (tgt := 28) hx hb dTa_hasValue_23 (by decide) (fun c4 => ?_) (fun c4 => ?_)
      · replace h := jif_f c4 h
        refine lv_iinc (v := x4 + 1) (lv' := [(4, .int (x4 + 1)), (0, .ref (A 4)), (1, .int x1), (2, .int x2), (3, .int x3)]) hx hb dTa_hasValue_28 hl (k := 4) rfl rfl (by decide) rfl (fun ls hl => ?_)
        refine lv_goto (tgt := 3) hx hb dTa_hasValue_31 (by decide) ?_
        exact ih _ _ _ _ _ _ _ _ _ _ hJ (lv_sub hl [1, 2, 3, 4, 0] rfl) h
      · replace h := jif_t c4 h
        refine lv_iconst (v := 1) hx hb dTa_hasValue_26 (by decide) ?_
        exact jreti (u := B) hx hb hr rfl hlocks hJ dTa_hasValue_27 (Option.some.inj h)
set_option maxHeartbeats 4000000 in
set_option maxRecDepth 100000 in
theorem uTa_hasValue_0 {p : Program} {e : Env} {s : State} {m : MethodId} {args : Array Value} {below : List Frame} {meth : Method} {c : Code} (l : Launch) (dC : Nat → ClassId) (dI : Nat → Nat → Nat) (cA : ClassId) (A : Nat → Nat) (Ap : Nat → Prop) (hC : jAt p s m args meth c bTa_hasValue 5 (some .boolean) wTa_hasValue RTa) (hA : ∀ q : Nat, s.heap.size ≤ q → Ap q) {r : Int32} : ∀ (x1 x2 x3 : Int32) (M : jM) (F : jF) (B : Nat → Nat) (H : Heap) (locs : List Loc) (ls : Array Slot), jH (dC, dI) jCl [(cA, .int)] (jW cA A B M F) Ap s H locs → lv_has ls 5 [(0, .ref (A 4)), (1, .int x1), (2, .int x2), (3, .int x3)] → fTa_hasValue_0 x1 x2 x3 M F = some r → W p l e (headSpec wTa_hasValue rTa_hasValue).room s m args below meth c H locs 0 0 (jQi below (dC, dI) jCl [(cA, .int)] (fun B => jW cA A B M F) Ap args s r) (F0 m 0 ls []) := by
  obtain ⟨hx, hb, hml, hr, hts, hown, hlocks, hN⟩ := id hC
  have hj : ∀ w ∈ jw, w.before args s = true := fun w h => hts w (List.mem_cons_of_mem _ h)
  intro x1 x2 x3 M F B H locs ls hJ hl h
  unfold fTa_hasValue_0 at h
  refine lv_iconst (v := 0) hx hb dTa_hasValue_0 (by decide) ?_
  refine lv_istore (lv' := [(4, .int 0), (0, .ref (A 4)), (1, .int x1), (2, .int x2), (3, .int x3)]) hx hb dTa_hasValue_1 hl (by decide) rfl (fun ls hl => ?_)
  exact uTa_hasValue_3 l dC dI cA A Ap hC hA jfuel _ _ _ _ _ _ _ _ _ _ hJ (lv_sub hl [1, 2, 3, 4, 0] rfl) h
set_option maxHeartbeats 4000000 in
set_option maxRecDepth 100000 in
theorem cTa_hasValue (l : Launch) (dC : Nat → ClassId) (dI : Nat → Nat → Nat) (cA : ClassId) (A : Nat → Nat) (x1 : Int32) (x2 : Int32) (x3 : Int32) (M : jM) (F : jF) (B : Nat → Nat) (sz : Nat) {r : Int32} (h : fTa_hasValue x1 x2 x3 M F = some r) : jCi l yTa_hasValue wTa_hasValue rTa_hasValue (dC, dI) jCl [(cA, .int)] [.ref (A 4), .int x1, .int x2, .int x3] (jW cA A B M F) sz r (fun B => jW cA A B M F) :=
  jOf (Qc := fun Ap => va_Qi (fun q (_ : Nat → Nat) => q = r) (jPost (dC, dI) jCl [(cA, .int)] (fun B => jW cA A B M F) Ap) Ap) (by decide) rfl (Nat.le_of_ble_eq_true rfl) (fun p e s m below meth c Ap ls hC hA hJ hl => uTa_hasValue_0 l dC dI cA A Ap hC hA _ _ _ _ _ _ _ _ _ hJ (lv_sub hl [0, 1, 2, 3] rfl) h)
abbrev bTa_put : ByteArray := prog_6_method_8_code
abbrev yTa_put : MethodName := ⟨RTa, "put", "(III)V"⟩
abbrev wTa_put : List Cond := .code yTa_put bTa_put 4 none :: jw
theorem dTa_put_0 : decode bTa_put 0 = .ok (.aload_n 0, 1) := by decide +kernel
theorem dTa_put_1 : decode bTa_put 1 = .ok (.iload_n 1, 1) := by decide +kernel
theorem dTa_put_2 : decode bTa_put 2 = .ok (.iload_n 2, 1) := by decide +kernel
theorem dTa_put_3 : decode bTa_put 3 = .ok (.iload_n 3, 1) := by decide +kernel
theorem dTa_put_4 : decode bTa_put 4 = .ok (.invokevirtual 34, 3) := by decide +kernel
theorem dTa_put_7 : decode bTa_put 7 = .ok (.ifCond .ne 17, 3) := by decide +kernel
theorem dTa_put_10 : decode bTa_put 10 = .ok (.aload_n 0, 1) := by decide +kernel
theorem dTa_put_11 : decode bTa_put 11 = .ok (.getfield 21, 3) := by decide +kernel
theorem dTa_put_14 : decode bTa_put 14 = .ok (.iload_n 1, 1) := by decide +kernel
theorem dTa_put_15 : decode bTa_put 15 = .ok (.iconst 4, 1) := by decide +kernel
theorem dTa_put_16 : decode bTa_put 16 = .ok (.imul, 1) := by decide +kernel
theorem dTa_put_17 : decode bTa_put 17 = .ok (.iload_n 2, 1) := by decide +kernel
theorem dTa_put_18 : decode bTa_put 18 = .ok (.iadd, 1) := by decide +kernel
theorem dTa_put_19 : decode bTa_put 19 = .ok (.dup2, 1) := by decide +kernel
theorem dTa_put_20 : decode bTa_put 20 = .ok (.iaload, 1) := by decide +kernel
theorem dTa_put_21 : decode bTa_put 21 = .ok (.iconst 1, 1) := by decide +kernel
theorem dTa_put_22 : decode bTa_put 22 = .ok (.iadd, 1) := by decide +kernel
theorem dTa_put_23 : decode bTa_put 23 = .ok (.iastore, 1) := by decide +kernel
theorem dTa_put_24 : decode bTa_put 24 = .ok (.aload_n 0, 1) := by decide +kernel
theorem dTa_put_25 : decode bTa_put 25 = .ok (.getfield 9, 3) := by decide +kernel
theorem dTa_put_28 : decode bTa_put 28 = .ok (.iload_n 1, 1) := by decide +kernel
theorem dTa_put_29 : decode bTa_put 29 = .ok (.bipush 30, 2) := by decide +kernel
theorem dTa_put_31 : decode bTa_put 31 = .ok (.imul, 1) := by decide +kernel
theorem dTa_put_32 : decode bTa_put 32 = .ok (.aload_n 0, 1) := by decide +kernel
theorem dTa_put_33 : decode bTa_put 33 = .ok (.getfield 15, 3) := by decide +kernel
theorem dTa_put_36 : decode bTa_put 36 = .ok (.iload_n 1, 1) := by decide +kernel
theorem dTa_put_37 : decode bTa_put 37 = .ok (.iaload, 1) := by decide +kernel
theorem dTa_put_38 : decode bTa_put 38 = .ok (.iadd, 1) := by decide +kernel
theorem dTa_put_39 : decode bTa_put 39 = .ok (.iconst 4, 1) := by decide +kernel
theorem dTa_put_40 : decode bTa_put 40 = .ok (.imul, 1) := by decide +kernel
theorem dTa_put_41 : decode bTa_put 41 = .ok (.iload_n 2, 1) := by decide +kernel
theorem dTa_put_42 : decode bTa_put 42 = .ok (.iadd, 1) := by decide +kernel
theorem dTa_put_43 : decode bTa_put 43 = .ok (.iload_n 3, 1) := by decide +kernel
theorem dTa_put_44 : decode bTa_put 44 = .ok (.iastore, 1) := by decide +kernel
theorem dTa_put_45 : decode bTa_put 45 = .ok (.return_, 1) := by decide +kernel
abbrev rTa_put : Room := { frames := 2, cells := 0, slots := 0, locals := 47 }
def fTa_put_24 (x1 : Int32) (x2 : Int32) (x3 : Int32) (M : jM) (F : jF) : Option (Int32 × jM × jF) := (if jib x1 6 then (if jib ((((x1 * 30) + (M 7 x1.toNatClampNeg)) * 4) + x2) 720 then some (0, jmu M 6 ((((x1 * 30) + (M 7 x1.toNatClampNeg)) * 4) + x2).toNatClampNeg x3, F) else none) else none)
def fTa_put_0 (x1 : Int32) (x2 : Int32) (x3 : Int32) (M : jM) (F : jF) : Option (Int32 × jM × jF) := ((fTa_hasValue x1 x2 x3 M F).bind fun q1 => (if q1 = 0 then (if jib ((x1 * 4) + x2) 24 then (if jib ((x1 * 4) + x2) 24 then fTa_put_24 x1 x2 x3 (jmu M 9 ((x1 * 4) + x2).toNatClampNeg ((M 9 ((x1 * 4) + x2).toNatClampNeg) + 1)) F else none) else none) else fTa_put_24 x1 x2 x3 M F))
abbrev fTa_put (x1 : Int32) (x2 : Int32) (x3 : Int32) (M : jM) (F : jF) : Option (Int32 × jM × jF) := fTa_put_0 x1 x2 x3 M F
set_option maxHeartbeats 4000000 in
set_option maxRecDepth 100000 in
theorem uTa_put_24 {p : Program} {e : Env} {s : State} {m : MethodId} {args : Array Value} {below : List Frame} {meth : Method} {c : Code} (l : Launch) (dC : Nat → ClassId) (dI : Nat → Nat → Nat) (cA : ClassId) (A : Nat → Nat) (Ap : Nat → Prop) (hC : jAt p s m args meth c bTa_put 4 none wTa_put RTa) (hA : ∀ q : Nat, s.heap.size ≤ q → Ap q) {r : Int32} {M' : jM} {F' : jF} : ∀ (x1 x2 x3 : Int32) (M : jM) (F : jF) (B : Nat → Nat) (H : Heap) (locs : List Loc) (ls : Array Slot), jH (dC, dI) jCl [(cA, .int)] (jW cA A B M F) Ap s H locs → lv_has ls 4 [(0, .ref (A 4)), (1, .int x1), (2, .int x2), (3, .int x3)] → fTa_put_24 x1 x2 x3 M F = some (r, M', F') → W p l e (headSpec wTa_put rTa_put).room s m args below meth c H locs 0 0 (jQv below (dC, dI) jCl [(cA, .int)] (fun B => jW cA A B (M') (F')) Ap args s) (F0 m 24 ls []) := by
  obtain ⟨hx, hb, hml, hr, hts, hown, hlocks, hN⟩ := id hC
  have hj : ∀ w ∈ jw, w.before args s = true := fun w h => hts w (List.mem_cons_of_mem _ h)
  intro x1 x2 x3 M F B H locs ls hJ hl h
  unfold fTa_put_24 at h
  refine lv_aload_n hx hb dTa_put_24 rfl (lv_at hl 0 rfl) ?_
  refine va_get (D := (dC, dI)) (ci := 4) (v := .ref (A 6)) (C := RTa) (T := TTa) (N := 4) hx hb hj iTa hown hJ.1 hJ.2.1 4 rfl rfl 0 (by decide) (hj _ jw_49) (fun _ h9 => h9) rfl dTa_put_25 ?_
  refine lv_iload_n hx hb dTa_put_28 rfl (lv_at hl 1 rfl) ?_
  refine lv_bipush (v := 30) hx hb dTa_put_29 (by decide) ?_
  refine lv_imul hx hb dTa_put_31 ?_
  refine lv_aload_n hx hb dTa_put_32 rfl (lv_at hl 0 rfl) ?_
  refine va_get (D := (dC, dI)) (ci := 4) (v := .ref (A 7)) (C := RTa) (T := TTa) (N := 4) hx hb hj iTa hown hJ.1 hJ.2.1 4 rfl rfl 1 (by decide) (hj _ jw_50) (fun _ h9 => h9) rfl dTa_put_33 ?_
  refine lv_iload_n hx hb dTa_put_36 rfl (lv_at hl 1 rfl) ?_
  obtain ⟨hi3, h⟩ := jib_h h
  refine jald_7 hx hb hJ hi3 dTa_put_37 ?_
  refine lv_iadd hx hb dTa_put_38 ?_
  refine lv_iconst (v := 4) hx hb dTa_put_39 (by decide) ?_
  refine lv_imul hx hb dTa_put_40 ?_
  refine lv_iload_n hx hb dTa_put_41 rfl (lv_at hl 2 rfl) ?_
  refine lv_iadd hx hb dTa_put_42 ?_
  refine lv_iload_n hx hb dTa_put_43 rfl (lv_at hl 3 rfl) ?_
  obtain ⟨hi4, h⟩ := jib_h h
  refine jast_6 hx hb hJ hi4 dTa_put_44 (fun H locs hJ => ?_)
  cases h
  exact jretv (u := B) hx hb hr hlocks hJ dTa_put_45
set_option maxHeartbeats 4000000 in
set_option maxRecDepth 100000 in
theorem uTa_put_0 {p : Program} {e : Env} {s : State} {m : MethodId} {args : Array Value} {below : List Frame} {meth : Method} {c : Code} (l : Launch) (dC : Nat → ClassId) (dI : Nat → Nat → Nat) (cA : ClassId) (A : Nat → Nat) (Ap : Nat → Prop) (hC : jAt p s m args meth c bTa_put 4 none wTa_put RTa) (hA : ∀ q : Nat, s.heap.size ≤ q → Ap q) {r : Int32} {M' : jM} {F' : jF} : ∀ (x1 x2 x3 : Int32) (M : jM) (F : jF) (B : Nat → Nat) (H : Heap) (locs : List Loc) (ls : Array Slot), jH (dC, dI) jCl [(cA, .int)] (jW cA A B M F) Ap s H locs → lv_has ls 4 [(0, .ref (A 4)), (1, .int x1), (2, .int x2), (3, .int x3)] → fTa_put_0 x1 x2 x3 M F = some (r, M', F') → W p l e (headSpec wTa_put rTa_put).room s m args below meth c H locs 0 0 (jQv below (dC, dI) jCl [(cA, .int)] (fun B => jW cA A B (M') (F')) Ap args s) (F0 m 0 ls []) := by
  obtain ⟨hx, hb, hml, hr, hts, hown, hlocks, hN⟩ := id hC
  have hj : ∀ w ∈ jw, w.before args s = true := fun w h => hts w (List.mem_cons_of_mem _ h)
  intro x1 x2 x3 M F B H locs ls hJ hl h
  unfold fTa_put_0 at h
  refine lv_aload_n hx hb dTa_put_0 rfl (lv_at hl 0 rfl) ?_
  refine lv_iload_n hx hb dTa_put_1 rfl (lv_at hl 1 rfl) ?_
  refine lv_iload_n hx hb dTa_put_2 rfl (lv_at hl 2 rfl) ?_
  refine lv_iload_n hx hb dTa_put_3 rfl (lv_at hl 3 rfl) ?_
  obtain ⟨q1, hq1, h⟩ := jbi_h h
  refine jcalli (w' := fun B => jW cA A B M F) (va_runV (As := [.int x1, .int x2, .int x3]) (rest := []) ⟨hx, hb, hml, hown, hts⟩ (cTa_hasValue l dC dI cA A x1 x2 x3 M F B H.size hq1) (cwV 3 hts (jgoodV jw_325 jw_327 jws_2 jw_5 jw_328) rfl rfl rfl (by decide +kernel) ⟨Nat.le_of_ble_eq_true rfl, Nat.le_of_ble_eq_true rfl⟩) (jpreV hN hJ (ci := 4) (q0 := 4) rfl rfl) rfl rfl hl.1 rfl (lv_room (Nat.le_of_ble_eq_true rfl)) dTa_put_4 ⟨Nat.zero_le _, Nat.zero_le _⟩) hA hJ (fun B H locs hJ => ?_)
  refine lv_if_ne (tgt := 24) hx hb dTa_put_7 (by decide) (fun c2 => ?_) (fun c2 => ?_)
  · replace h := jif_f c2 h
    exact uTa_put_24 l dC dI cA A Ap hC hA _ _ _ _ _ _ _ _ _ hJ (lv_sub hl [0, 1, 2, 3] rfl) h
  · replace h := jif_t c2 h
    refine lv_aload_n hx hb dTa_put_10 rfl (lv_at hl 0 rfl) ?_
    refine va_get (D := (dC, dI)) (ci := 4) (v := .ref (A 9)) (C := RTa) (T := TTa) (N := 4) hx hb hj iTa hown hJ.1 hJ.2.1 4 rfl rfl 3 (by decide) (hj _ jw_52) (fun _ h9 => h9) rfl dTa_put_11 ?_
    refine lv_iload_n hx hb dTa_put_14 rfl (lv_at hl 1 rfl) ?_
    refine lv_iconst (v := 4) hx hb dTa_put_15 (by decide) ?_
    refine lv_imul hx hb dTa_put_16 ?_
    refine lv_iload_n hx hb dTa_put_17 rfl (lv_at hl 2 rfl) ?_
    refine lv_iadd hx hb dTa_put_18 ?_
    refine lv_dup2_11 hx hb dTa_put_19 rfl rfl ?_
    obtain ⟨hi5, h⟩ := jib_h h
    refine jald_9 hx hb hJ hi5 dTa_put_20 ?_
    refine lv_iconst (v := 1) hx hb dTa_put_21 (by decide) ?_
    refine lv_iadd hx hb dTa_put_22 ?_
    obtain ⟨hi6, h⟩ := jib_h h
    refine jast_9 hx hb hJ hi6 dTa_put_23 (fun H locs hJ => ?_)
    exact uTa_put_24 l dC dI cA A Ap hC hA _ _ _ _ _ _ _ _ _ hJ (lv_sub hl [0, 1, 2, 3] rfl) h
set_option maxHeartbeats 4000000 in
set_option maxRecDepth 100000 in
theorem cTa_put (l : Launch) (dC : Nat → ClassId) (dI : Nat → Nat → Nat) (cA : ClassId) (A : Nat → Nat) (x1 : Int32) (x2 : Int32) (x3 : Int32) (M : jM) (F : jF) (B : Nat → Nat) (sz : Nat) {r : Int32} {M' : jM} {F' : jF} (h : fTa_put x1 x2 x3 M F = some (r, M', F')) : jCv l yTa_put wTa_put rTa_put (dC, dI) jCl [(cA, .int)] [.ref (A 4), .int x1, .int x2, .int x3] (jW cA A B M F) sz (fun B => jW cA A B (M') (F')) :=
  jOf (Qc := fun Ap => va_Qv (fun _ : Nat → Nat => True) (jPost (dC, dI) jCl [(cA, .int)] (fun B => jW cA A B (M') (F')) Ap) Ap) (by decide) rfl (Nat.le_of_ble_eq_true rfl) (fun p e s m below meth c Ap ls hC hA hJ hl => uTa_put_0 l dC dI cA A Ap hC hA _ _ _ _ _ _ _ _ _ hJ (lv_sub hl [0, 1, 2, 3] rfl) h)
abbrev bTa_add : ByteArray := prog_6_method_3_code
abbrev yTa_add : MethodName := ⟨RTa, "add", "(IIIII)I"⟩
abbrev wTa_add : List Cond := .code yTa_add bTa_add 7 (some .int) :: jw
theorem dTa_add_0 : decode bTa_add 0 = .ok (.aload_n 0, 1) := by decide +kernel
theorem dTa_add_1 : decode bTa_add 1 = .ok (.iload_n 1, 1) := by decide +kernel
theorem dTa_add_2 : decode bTa_add 2 = .ok (.iconst 0, 1) := by decide +kernel
theorem dTa_add_3 : decode bTa_add 3 = .ok (.iload_n 2, 1) := by decide +kernel
theorem dTa_add_4 : decode bTa_add 4 = .ok (.invokevirtual 24, 3) := by decide +kernel
theorem dTa_add_7 : decode bTa_add 7 = .ok (.aload_n 0, 1) := by decide +kernel
theorem dTa_add_8 : decode bTa_add 8 = .ok (.iload_n 1, 1) := by decide +kernel
theorem dTa_add_9 : decode bTa_add 9 = .ok (.iconst 1, 1) := by decide +kernel
theorem dTa_add_10 : decode bTa_add 10 = .ok (.iload_n 3, 1) := by decide +kernel
theorem dTa_add_11 : decode bTa_add 11 = .ok (.invokevirtual 24, 3) := by decide +kernel
theorem dTa_add_14 : decode bTa_add 14 = .ok (.aload_n 0, 1) := by decide +kernel
theorem dTa_add_15 : decode bTa_add 15 = .ok (.iload_n 1, 1) := by decide +kernel
theorem dTa_add_16 : decode bTa_add 16 = .ok (.iconst 2, 1) := by decide +kernel
theorem dTa_add_17 : decode bTa_add 17 = .ok (.iload 4, 2) := by decide +kernel
theorem dTa_add_19 : decode bTa_add 19 = .ok (.invokevirtual 24, 3) := by decide +kernel
theorem dTa_add_22 : decode bTa_add 22 = .ok (.aload_n 0, 1) := by decide +kernel
theorem dTa_add_23 : decode bTa_add 23 = .ok (.iload_n 1, 1) := by decide +kernel
theorem dTa_add_24 : decode bTa_add 24 = .ok (.iconst 3, 1) := by decide +kernel
theorem dTa_add_25 : decode bTa_add 25 = .ok (.iload 5, 2) := by decide +kernel
theorem dTa_add_27 : decode bTa_add 27 = .ok (.invokevirtual 24, 3) := by decide +kernel
theorem dTa_add_30 : decode bTa_add 30 = .ok (.aload_n 0, 1) := by decide +kernel
theorem dTa_add_31 : decode bTa_add 31 = .ok (.getfield 15, 3) := by decide +kernel
theorem dTa_add_34 : decode bTa_add 34 = .ok (.iload_n 1, 1) := by decide +kernel
theorem dTa_add_35 : decode bTa_add 35 = .ok (.iaload, 1) := by decide +kernel
theorem dTa_add_36 : decode bTa_add 36 = .ok (.istore 6, 2) := by decide +kernel
theorem dTa_add_38 : decode bTa_add 38 = .ok (.aload_n 0, 1) := by decide +kernel
theorem dTa_add_39 : decode bTa_add 39 = .ok (.getfield 15, 3) := by decide +kernel
theorem dTa_add_42 : decode bTa_add 42 = .ok (.iload_n 1, 1) := by decide +kernel
theorem dTa_add_43 : decode bTa_add 43 = .ok (.iload 6, 2) := by decide +kernel
theorem dTa_add_45 : decode bTa_add 45 = .ok (.iconst 1, 1) := by decide +kernel
theorem dTa_add_46 : decode bTa_add 46 = .ok (.iadd, 1) := by decide +kernel
theorem dTa_add_47 : decode bTa_add 47 = .ok (.iastore, 1) := by decide +kernel
theorem dTa_add_48 : decode bTa_add 48 = .ok (.iload 6, 2) := by decide +kernel
theorem dTa_add_50 : decode bTa_add 50 = .ok (.ireturn, 1) := by decide +kernel
abbrev rTa_add : Room := { frames := 3, cells := 0, slots := 0, locals := 70 }
def fTa_add_0 (x1 : Int32) (x2 : Int32) (x3 : Int32) (x4 : Int32) (x5 : Int32) (M : jM) (F : jF) : Option (Int32 × jM × jF) := ((fTa_put x1 0 x2 M F).bind fun q1 => ((fTa_put x1 1 x3 q1.2.1 q1.2.2).bind fun q3 => ((fTa_put x1 2 x4 q3.2.1 q3.2.2).bind fun q5 => ((fTa_put x1 3 x5 q5.2.1 q5.2.2).bind fun q7 => (if jib x1 6 then (if jib x1 6 then some (q7.2.1 7 x1.toNatClampNeg, jmu q7.2.1 7 x1.toNatClampNeg ((q7.2.1 7 x1.toNatClampNeg) + 1), q7.2.2) else none) else none)))))
abbrev fTa_add (x1 : Int32) (x2 : Int32) (x3 : Int32) (x4 : Int32) (x5 : Int32) (M : jM) (F : jF) : Option (Int32 × jM × jF) := fTa_add_0 x1 x2 x3 x4 x5 M F
set_option maxHeartbeats 4000000 in
set_option maxRecDepth 100000 in
theorem uTa_add_0 {p : Program} {e : Env} {s : State} {m : MethodId} {args : Array Value} {below : List Frame} {meth : Method} {c : Code} (l : Launch) (dC : Nat → ClassId) (dI : Nat → Nat → Nat) (cA : ClassId) (A : Nat → Nat) (Ap : Nat → Prop) (hC : jAt p s m args meth c bTa_add 7 (some .int) wTa_add RTa) (hA : ∀ q : Nat, s.heap.size ≤ q → Ap q) {r : Int32} {M' : jM} {F' : jF} : ∀ (x1 x2 x3 x4 x5 : Int32) (M : jM) (F : jF) (B : Nat → Nat) (H : Heap) (locs : List Loc) (ls : Array Slot), jH (dC, dI) jCl [(cA, .int)] (jW cA A B M F) Ap s H locs → lv_has ls 7 [(0, .ref (A 4)), (1, .int x1), (2, .int x2), (3, .int x3), (4, .int x4), (5, .int x5)] → fTa_add_0 x1 x2 x3 x4 x5 M F = some (r, M', F') → W p l e (headSpec wTa_add rTa_add).room s m args below meth c H locs 0 0 (jQi below (dC, dI) jCl [(cA, .int)] (fun B => jW cA A B (M') (F')) Ap args s r) (F0 m 0 ls []) := by
  obtain ⟨hx, hb, hml, hr, hts, hown, hlocks, hN⟩ := id hC
  have hj : ∀ w ∈ jw, w.before args s = true := fun w h => hts w (List.mem_cons_of_mem _ h)
  intro x1 x2 x3 x4 x5 M F B H locs ls hJ hl h
  unfold fTa_add_0 at h
  refine lv_aload_n hx hb dTa_add_0 rfl (lv_at hl 0 rfl) ?_
  refine lv_iload_n hx hb dTa_add_1 rfl (lv_at hl 1 rfl) ?_
  refine lv_iconst (v := 0) hx hb dTa_add_2 (by decide) ?_
  refine lv_iload_n hx hb dTa_add_3 rfl (lv_at hl 2 rfl) ?_
  obtain ⟨q1, hq1, h⟩ := jbi_h h
  refine jcallv (w' := fun B => jW cA A B q1.2.1 q1.2.2) (va_runV (As := [.int x1, .int 0, .int x2]) (rest := []) ⟨hx, hb, hml, hown, hts⟩ (cTa_put l dC dI cA A x1 0 x2 M F B H.size hq1) (cwV 3 hts (jgoodV jw_321 jw_323 jws_1 jw_5 jw_324) rfl rfl rfl (by decide +kernel) ⟨Nat.le_of_ble_eq_true rfl, Nat.le_of_ble_eq_true rfl⟩) (jpreV hN hJ (ci := 4) (q0 := 4) rfl rfl) rfl rfl hl.1 rfl (lv_room (Nat.le_of_ble_eq_true rfl)) dTa_add_4 ⟨Nat.zero_le _, Nat.zero_le _⟩) hA hJ (fun B2 H locs hJ => ?_)
  refine lv_aload_n hx hb dTa_add_7 rfl (lv_at hl 0 rfl) ?_
  refine lv_iload_n hx hb dTa_add_8 rfl (lv_at hl 1 rfl) ?_
  refine lv_iconst (v := 1) hx hb dTa_add_9 (by decide) ?_
  refine lv_iload_n hx hb dTa_add_10 rfl (lv_at hl 3 rfl) ?_
  obtain ⟨q3, hq3, h⟩ := jbi_h h
  refine jcallv (w' := fun B => jW cA A B q3.2.1 q3.2.2) (va_runV (As := [.int x1, .int 1, .int x3]) (rest := []) ⟨hx, hb, hml, hown, hts⟩ (cTa_put l dC dI cA A x1 1 x3 q1.2.1 q1.2.2 B2 H.size hq3) (cwV 3 hts (jgoodV jw_321 jw_323 jws_1 jw_5 jw_324) rfl rfl rfl (by decide +kernel) ⟨Nat.le_of_ble_eq_true rfl, Nat.le_of_ble_eq_true rfl⟩) (jpreV hN hJ (ci := 4) (q0 := 4) rfl rfl) rfl rfl hl.1 rfl (lv_room (Nat.le_of_ble_eq_true rfl)) dTa_add_11 ⟨Nat.zero_le _, Nat.zero_le _⟩) hA hJ (fun B4 H locs hJ => ?_)
  refine lv_aload_n hx hb dTa_add_14 rfl (lv_at hl 0 rfl) ?_
  refine lv_iload_n hx hb dTa_add_15 rfl (lv_at hl 1 rfl) ?_
  refine lv_iconst (v := 2) hx hb dTa_add_16 (by decide) ?_
  refine lv_iload hx hb dTa_add_17 (lv_at hl 4 rfl) ?_
  obtain ⟨q5, hq5, h⟩ := jbi_h h
  refine jcallv (w' := fun B => jW cA A B q5.2.1 q5.2.2) (va_runV (As := [.int x1, .int 2, .int x4]) (rest := []) ⟨hx, hb, hml, hown, hts⟩ (cTa_put l dC dI cA A x1 2 x4 q3.2.1 q3.2.2 B4 H.size hq5) (cwV 3 hts (jgoodV jw_321 jw_323 jws_1 jw_5 jw_324) rfl rfl rfl (by decide +kernel) ⟨Nat.le_of_ble_eq_true rfl, Nat.le_of_ble_eq_true rfl⟩) (jpreV hN hJ (ci := 4) (q0 := 4) rfl rfl) rfl rfl hl.1 rfl (lv_room (Nat.le_of_ble_eq_true rfl)) dTa_add_19 ⟨Nat.zero_le _, Nat.zero_le _⟩) hA hJ (fun B6 H locs hJ => ?_)
  refine lv_aload_n hx hb dTa_add_22 rfl (lv_at hl 0 rfl) ?_
  refine lv_iload_n hx hb dTa_add_23 rfl (lv_at hl 1 rfl) ?_
  refine lv_iconst (v := 3) hx hb dTa_add_24 (by decide) ?_
  refine lv_iload hx hb dTa_add_25 (lv_at hl 5 rfl) ?_
  obtain ⟨q7, hq7, h⟩ := jbi_h h
  refine jcallv (w' := fun B => jW cA A B q7.2.1 q7.2.2) (va_runV (As := [.int x1, .int 3, .int x5]) (rest := []) ⟨hx, hb, hml, hown, hts⟩ (cTa_put l dC dI cA A x1 3 x5 q5.2.1 q5.2.2 B6 H.size hq7) (cwV 3 hts (jgoodV jw_321 jw_323 jws_1 jw_5 jw_324) rfl rfl rfl (by decide +kernel) ⟨Nat.le_of_ble_eq_true rfl, Nat.le_of_ble_eq_true rfl⟩) (jpreV hN hJ (ci := 4) (q0 := 4) rfl rfl) rfl rfl hl.1 rfl (lv_room (Nat.le_of_ble_eq_true rfl)) dTa_add_27 ⟨Nat.zero_le _, Nat.zero_le _⟩) hA hJ (fun B8 H locs hJ => ?_)
  refine lv_aload_n hx hb dTa_add_30 rfl (lv_at hl 0 rfl) ?_
  refine va_get (D := (dC, dI)) (ci := 4) (v := .ref (A 7)) (C := RTa) (T := TTa) (N := 4) hx hb hj iTa hown hJ.1 hJ.2.1 4 rfl rfl 1 (by decide) (hj _ jw_50) (fun _ h9 => h9) rfl dTa_add_31 ?_
  refine lv_iload_n hx hb dTa_add_34 rfl (lv_at hl 1 rfl) ?_
  obtain ⟨hi9, h⟩ := jib_h h
  refine jald_7 hx hb hJ hi9 dTa_add_35 ?_
  refine lv_istore (lv' := [(6, .int (q7.2.1 7 x1.toNatClampNeg)), (0, .ref (A 4)), (1, .int x1), (2, .int x2), (3, .int x3), (4, .int x4), (5, .int x5)]) hx hb dTa_add_36 hl (by decide) rfl (fun ls hl => ?_)
  refine lv_aload_n hx hb dTa_add_38 rfl (lv_at hl 1 rfl) ?_
  refine va_get (D := (dC, dI)) (ci := 4) (v := .ref (A 7)) (C := RTa) (T := TTa) (N := 4) hx hb hj iTa hown hJ.1 hJ.2.1 4 rfl rfl 1 (by decide) (hj _ jw_50) (fun _ h9 => h9) rfl dTa_add_39 ?_
  refine lv_iload_n hx hb dTa_add_42 rfl (lv_at hl 2 rfl) ?_
  refine lv_iload hx hb dTa_add_43 (lv_at hl 0 rfl) ?_
  refine lv_iconst (v := 1) hx hb dTa_add_45 (by decide) ?_
  refine lv_iadd hx hb dTa_add_46 ?_
  obtain ⟨hi10, h⟩ := jib_h h
  refine jast_7 hx hb hJ hi10 dTa_add_47 (fun H locs hJ => ?_)
  refine lv_iload hx hb dTa_add_48 (lv_at hl 0 rfl) ?_
  cases h
  exact jreti (u := B8) hx hb hr rfl hlocks hJ dTa_add_50 rfl
set_option maxHeartbeats 4000000 in
set_option maxRecDepth 100000 in
theorem cTa_add (l : Launch) (dC : Nat → ClassId) (dI : Nat → Nat → Nat) (cA : ClassId) (A : Nat → Nat) (x1 : Int32) (x2 : Int32) (x3 : Int32) (x4 : Int32) (x5 : Int32) (M : jM) (F : jF) (B : Nat → Nat) (sz : Nat) {r : Int32} {M' : jM} {F' : jF} (h : fTa_add x1 x2 x3 x4 x5 M F = some (r, M', F')) : jCi l yTa_add wTa_add rTa_add (dC, dI) jCl [(cA, .int)] [.ref (A 4), .int x1, .int x2, .int x3, .int x4, .int x5] (jW cA A B M F) sz r (fun B => jW cA A B (M') (F')) :=
  jOf (Qc := fun Ap => va_Qi (fun q (_ : Nat → Nat) => q = r) (jPost (dC, dI) jCl [(cA, .int)] (fun B => jW cA A B (M') (F')) Ap) Ap) (by decide) rfl (Nat.le_of_ble_eq_true rfl) (fun p e s m below meth c Ap ls hC hA hJ hl => uTa_add_0 l dC dI cA A Ap hC hA _ _ _ _ _ _ _ _ _ _ _ hJ (lv_sub hl [0, 1, 2, 3, 4, 5] rfl) h)
abbrev bTa_rows : ByteArray := prog_6_method_4_code
abbrev yTa_rows : MethodName := ⟨RTa, "rows", "(I)I"⟩
abbrev wTa_rows : List Cond := .code yTa_rows bTa_rows 2 (some .int) :: jw
theorem dTa_rows_0 : decode bTa_rows 0 = .ok (.aload_n 0, 1) := by decide +kernel
theorem dTa_rows_1 : decode bTa_rows 1 = .ok (.getfield 15, 3) := by decide +kernel
theorem dTa_rows_4 : decode bTa_rows 4 = .ok (.iload_n 1, 1) := by decide +kernel
theorem dTa_rows_5 : decode bTa_rows 5 = .ok (.iaload, 1) := by decide +kernel
theorem dTa_rows_6 : decode bTa_rows 6 = .ok (.ireturn, 1) := by decide +kernel
abbrev rTa_rows : Room := { frames := 0, cells := 0, slots := 0, locals := 0 }
def fTa_rows_0 (x1 : Int32) (M : jM) (F : jF) : Option Int32 := (if jib x1 6 then some (M 7 x1.toNatClampNeg) else none)
abbrev fTa_rows (x1 : Int32) (M : jM) (F : jF) : Option Int32 := fTa_rows_0 x1 M F
set_option maxHeartbeats 4000000 in
set_option maxRecDepth 100000 in
theorem uTa_rows_0 {p : Program} {e : Env} {s : State} {m : MethodId} {args : Array Value} {below : List Frame} {meth : Method} {c : Code} (l : Launch) (dC : Nat → ClassId) (dI : Nat → Nat → Nat) (cA : ClassId) (A : Nat → Nat) (Ap : Nat → Prop) (hC : jAt p s m args meth c bTa_rows 2 (some .int) wTa_rows RTa) (hA : ∀ q : Nat, s.heap.size ≤ q → Ap q) {r : Int32} : ∀ (x1 : Int32) (M : jM) (F : jF) (B : Nat → Nat) (H : Heap) (locs : List Loc) (ls : Array Slot), jH (dC, dI) jCl [(cA, .int)] (jW cA A B M F) Ap s H locs → lv_has ls 2 [(0, .ref (A 4)), (1, .int x1)] → fTa_rows_0 x1 M F = some r → W p l e (headSpec wTa_rows rTa_rows).room s m args below meth c H locs 0 0 (jQi below (dC, dI) jCl [(cA, .int)] (fun B => jW cA A B M F) Ap args s r) (F0 m 0 ls []) := by
  obtain ⟨hx, hb, hml, hr, hts, hown, hlocks, hN⟩ := id hC
  have hj : ∀ w ∈ jw, w.before args s = true := fun w h => hts w (List.mem_cons_of_mem _ h)
  intro x1 M F B H locs ls hJ hl h
  unfold fTa_rows_0 at h
  refine lv_aload_n hx hb dTa_rows_0 rfl (lv_at hl 0 rfl) ?_
  refine va_get (D := (dC, dI)) (ci := 4) (v := .ref (A 7)) (C := RTa) (T := TTa) (N := 4) hx hb hj iTa hown hJ.1 hJ.2.1 4 rfl rfl 1 (by decide) (hj _ jw_50) (fun _ h9 => h9) rfl dTa_rows_1 ?_
  refine lv_iload_n hx hb dTa_rows_4 rfl (lv_at hl 1 rfl) ?_
  obtain ⟨hi1, h⟩ := jib_h h
  refine jald_7 hx hb hJ hi1 dTa_rows_5 ?_
  exact jreti (u := B) hx hb hr rfl hlocks hJ dTa_rows_6 (Option.some.inj h)
set_option maxHeartbeats 4000000 in
set_option maxRecDepth 100000 in
theorem cTa_rows (l : Launch) (dC : Nat → ClassId) (dI : Nat → Nat → Nat) (cA : ClassId) (A : Nat → Nat) (x1 : Int32) (M : jM) (F : jF) (B : Nat → Nat) (sz : Nat) {r : Int32} (h : fTa_rows x1 M F = some r) : jCi l yTa_rows wTa_rows rTa_rows (dC, dI) jCl [(cA, .int)] [.ref (A 4), .int x1] (jW cA A B M F) sz r (fun B => jW cA A B M F) :=
  jOf (Qc := fun Ap => va_Qi (fun q (_ : Nat → Nat) => q = r) (jPost (dC, dI) jCl [(cA, .int)] (fun B => jW cA A B M F) Ap) Ap) (by decide) rfl (Nat.le_of_ble_eq_true rfl) (fun p e s m below meth c Ap ls hC hA hJ hl => uTa_rows_0 l dC dI cA A Ap hC hA _ _ _ _ _ _ _ hJ (lv_sub hl [0, 1] rfl) h)
abbrev bTa_spread : ByteArray := prog_6_method_6_code
abbrev yTa_spread : MethodName := ⟨RTa, "spread", "(II)I"⟩
abbrev wTa_spread : List Cond := .code yTa_spread bTa_spread 3 (some .int) :: jw
theorem dTa_spread_0 : decode bTa_spread 0 = .ok (.iconst 1, 1) := by decide +kernel
theorem dTa_spread_1 : decode bTa_spread 1 = .ok (.aload_n 0, 1) := by decide +kernel
theorem dTa_spread_2 : decode bTa_spread 2 = .ok (.getfield 21, 3) := by decide +kernel
theorem dTa_spread_5 : decode bTa_spread 5 = .ok (.iload_n 1, 1) := by decide +kernel
theorem dTa_spread_6 : decode bTa_spread 6 = .ok (.iconst 4, 1) := by decide +kernel
theorem dTa_spread_7 : decode bTa_spread 7 = .ok (.imul, 1) := by decide +kernel
theorem dTa_spread_8 : decode bTa_spread 8 = .ok (.iload_n 2, 1) := by decide +kernel
theorem dTa_spread_9 : decode bTa_spread 9 = .ok (.iadd, 1) := by decide +kernel
theorem dTa_spread_10 : decode bTa_spread 10 = .ok (.iaload, 1) := by decide +kernel
theorem dTa_spread_11 : decode bTa_spread 11 = .ok (.invokestatic 28, 3) := by decide +kernel
theorem dTa_spread_14 : decode bTa_spread 14 = .ok (.ireturn, 1) := by decide +kernel
abbrev rTa_spread : Room := { frames := 1, cells := 0, slots := 0, locals := 21 }
def fTa_spread_0 (x1 : Int32) (x2 : Int32) (M : jM) (F : jF) : Option Int32 := (if jib ((x1 * 4) + x2) 24 then some (if 1 < (M 9 ((x1 * 4) + x2).toNatClampNeg) then (M 9 ((x1 * 4) + x2).toNatClampNeg) else 1) else none)
abbrev fTa_spread (x1 : Int32) (x2 : Int32) (M : jM) (F : jF) : Option Int32 := fTa_spread_0 x1 x2 M F
set_option maxHeartbeats 4000000 in
set_option maxRecDepth 100000 in
theorem uTa_spread_0 {p : Program} {e : Env} {s : State} {m : MethodId} {args : Array Value} {below : List Frame} {meth : Method} {c : Code} (l : Launch) (dC : Nat → ClassId) (dI : Nat → Nat → Nat) (cA : ClassId) (A : Nat → Nat) (Ap : Nat → Prop) (hC : jAt p s m args meth c bTa_spread 3 (some .int) wTa_spread RTa) (hA : ∀ q : Nat, s.heap.size ≤ q → Ap q) {r : Int32} : ∀ (x1 x2 : Int32) (M : jM) (F : jF) (B : Nat → Nat) (H : Heap) (locs : List Loc) (ls : Array Slot), jH (dC, dI) jCl [(cA, .int)] (jW cA A B M F) Ap s H locs → lv_has ls 3 [(0, .ref (A 4)), (1, .int x1), (2, .int x2)] → fTa_spread_0 x1 x2 M F = some r → W p l e (headSpec wTa_spread rTa_spread).room s m args below meth c H locs 0 0 (jQi below (dC, dI) jCl [(cA, .int)] (fun B => jW cA A B M F) Ap args s r) (F0 m 0 ls []) := by
  obtain ⟨hx, hb, hml, hr, hts, hown, hlocks, hN⟩ := id hC
  have hj : ∀ w ∈ jw, w.before args s = true := fun w h => hts w (List.mem_cons_of_mem _ h)
  intro x1 x2 M F B H locs ls hJ hl h
  unfold fTa_spread_0 at h
  refine lv_iconst (v := 1) hx hb dTa_spread_0 (by decide) ?_
  refine lv_aload_n hx hb dTa_spread_1 rfl (lv_at hl 0 rfl) ?_
  refine va_get (D := (dC, dI)) (ci := 4) (v := .ref (A 9)) (C := RTa) (T := TTa) (N := 4) hx hb hj iTa hown hJ.1 hJ.2.1 4 rfl rfl 3 (by decide) (hj _ jw_52) (fun _ h9 => h9) rfl dTa_spread_2 ?_
  refine lv_iload_n hx hb dTa_spread_5 rfl (lv_at hl 1 rfl) ?_
  refine lv_iconst (v := 4) hx hb dTa_spread_6 (by decide) ?_
  refine lv_imul hx hb dTa_spread_7 ?_
  refine lv_iload_n hx hb dTa_spread_8 rfl (lv_at hl 2 rfl) ?_
  refine lv_iadd hx hb dTa_spread_9 ?_
  obtain ⟨hi1, h⟩ := jib_h h
  refine jald_9 hx hb hJ hi1 dTa_spread_10 ?_
  refine va_mmax hx hb (hml.trans hl.1.symm) hown (hj _ jw_436) (hj _ jw_437) (hj _ jw_14) (hj _ jw_438) (Nat.le_of_ble_eq_true rfl) (Nat.le_of_ble_eq_true rfl) (Nat.zero_le _) (Nat.zero_le _) dTa_spread_11 ?_
  exact jreti (u := B) hx hb hr rfl hlocks hJ dTa_spread_14 (Option.some.inj h)
set_option maxHeartbeats 4000000 in
set_option maxRecDepth 100000 in
theorem cTa_spread (l : Launch) (dC : Nat → ClassId) (dI : Nat → Nat → Nat) (cA : ClassId) (A : Nat → Nat) (x1 : Int32) (x2 : Int32) (M : jM) (F : jF) (B : Nat → Nat) (sz : Nat) {r : Int32} (h : fTa_spread x1 x2 M F = some r) : jCi l yTa_spread wTa_spread rTa_spread (dC, dI) jCl [(cA, .int)] [.ref (A 4), .int x1, .int x2] (jW cA A B M F) sz r (fun B => jW cA A B M F) :=
  jOf (Qc := fun Ap => va_Qi (fun q (_ : Nat → Nat) => q = r) (jPost (dC, dI) jCl [(cA, .int)] (fun B => jW cA A B M F) Ap) Ap) (by decide) rfl (Nat.le_of_ble_eq_true rfl) (fun p e s m below meth c Ap ls hC hA hJ hl => uTa_spread_0 l dC dI cA A Ap hC hA _ _ _ _ _ _ _ _ hJ (lv_sub hl [0, 1, 2] rfl) h)
abbrev bTa_hasIndex : ByteArray := prog_6_method_7_code
abbrev yTa_hasIndex : MethodName := ⟨RTa, "hasIndex", "(II)Z"⟩
abbrev wTa_hasIndex : List Cond := .code yTa_hasIndex bTa_hasIndex 3 (some .boolean) :: jw
theorem dTa_hasIndex_0 : decode bTa_hasIndex 0 = .ok (.aload_n 0, 1) := by decide +kernel
theorem dTa_hasIndex_1 : decode bTa_hasIndex 1 = .ok (.getfield 18, 3) := by decide +kernel
theorem dTa_hasIndex_4 : decode bTa_hasIndex 4 = .ok (.iload_n 1, 1) := by decide +kernel
theorem dTa_hasIndex_5 : decode bTa_hasIndex 5 = .ok (.iaload, 1) := by decide +kernel
theorem dTa_hasIndex_6 : decode bTa_hasIndex 6 = .ok (.iload_n 2, 1) := by decide +kernel
theorem dTa_hasIndex_7 : decode bTa_hasIndex 7 = .ok (.iushr, 1) := by decide +kernel
theorem dTa_hasIndex_8 : decode bTa_hasIndex 8 = .ok (.iconst 1, 1) := by decide +kernel
theorem dTa_hasIndex_9 : decode bTa_hasIndex 9 = .ok (.iand, 1) := by decide +kernel
theorem dTa_hasIndex_10 : decode bTa_hasIndex 10 = .ok (.ifCond .eq 7, 3) := by decide +kernel
theorem dTa_hasIndex_13 : decode bTa_hasIndex 13 = .ok (.iconst 1, 1) := by decide +kernel
theorem dTa_hasIndex_14 : decode bTa_hasIndex 14 = .ok (.goto 4, 3) := by decide +kernel
theorem dTa_hasIndex_17 : decode bTa_hasIndex 17 = .ok (.iconst 0, 1) := by decide +kernel
theorem dTa_hasIndex_18 : decode bTa_hasIndex 18 = .ok (.ireturn, 1) := by decide +kernel
abbrev rTa_hasIndex : Room := { frames := 0, cells := 0, slots := 0, locals := 0 }
def fTa_hasIndex_0 (x1 : Int32) (x2 : Int32) (M : jM) (F : jF) : Option Int32 := (if jib x1 6 then (if ((jus (M 8 x1.toNatClampNeg) x2) &&& 1) = 0 then some 0 else some 1) else none)
abbrev fTa_hasIndex (x1 : Int32) (x2 : Int32) (M : jM) (F : jF) : Option Int32 := fTa_hasIndex_0 x1 x2 M F
set_option maxHeartbeats 4000000 in
set_option maxRecDepth 100000 in
theorem uTa_hasIndex_0 {p : Program} {e : Env} {s : State} {m : MethodId} {args : Array Value} {below : List Frame} {meth : Method} {c : Code} (l : Launch) (dC : Nat → ClassId) (dI : Nat → Nat → Nat) (cA : ClassId) (A : Nat → Nat) (Ap : Nat → Prop) (hC : jAt p s m args meth c bTa_hasIndex 3 (some .boolean) wTa_hasIndex RTa) (hA : ∀ q : Nat, s.heap.size ≤ q → Ap q) {r : Int32} : ∀ (x1 x2 : Int32) (M : jM) (F : jF) (B : Nat → Nat) (H : Heap) (locs : List Loc) (ls : Array Slot), jH (dC, dI) jCl [(cA, .int)] (jW cA A B M F) Ap s H locs → lv_has ls 3 [(0, .ref (A 4)), (1, .int x1), (2, .int x2)] → fTa_hasIndex_0 x1 x2 M F = some r → W p l e (headSpec wTa_hasIndex rTa_hasIndex).room s m args below meth c H locs 0 0 (jQi below (dC, dI) jCl [(cA, .int)] (fun B => jW cA A B M F) Ap args s r) (F0 m 0 ls []) := by
  obtain ⟨hx, hb, hml, hr, hts, hown, hlocks, hN⟩ := id hC
  have hj : ∀ w ∈ jw, w.before args s = true := fun w h => hts w (List.mem_cons_of_mem _ h)
  intro x1 x2 M F B H locs ls hJ hl h
  unfold fTa_hasIndex_0 at h
  refine lv_aload_n hx hb dTa_hasIndex_0 rfl (lv_at hl 0 rfl) ?_
  refine va_get (D := (dC, dI)) (ci := 4) (v := .ref (A 8)) (C := RTa) (T := TTa) (N := 4) hx hb hj iTa hown hJ.1 hJ.2.1 4 rfl rfl 2 (by decide) (hj _ jw_51) (fun _ h9 => h9) rfl dTa_hasIndex_1 ?_
  refine lv_iload_n hx hb dTa_hasIndex_4 rfl (lv_at hl 1 rfl) ?_
  obtain ⟨hi1, h⟩ := jib_h h
  refine jald_8 hx hb hJ hi1 dTa_hasIndex_5 ?_
  refine lv_iload_n hx hb dTa_hasIndex_6 rfl (lv_at hl 2 rfl) ?_
  refine lv_iushr (v := jus (M 8 x1.toNatClampNeg) x2) hx hb dTa_hasIndex_7 rfl ?_
  refine lv_iconst (v := 1) hx hb dTa_hasIndex_8 (by decide) ?_
  refine lv_iand hx hb dTa_hasIndex_9 ?_
  refine lv_if_eq (tgt := 17) hx hb dTa_hasIndex_10 (by decide) (fun c2 => ?_) (fun c2 => ?_)
  · replace h := jif_t c2 h
    refine lv_iconst (v := 0) hx hb dTa_hasIndex_17 (by decide) ?_
    exact jreti (u := B) hx hb hr rfl hlocks hJ dTa_hasIndex_18 (Option.some.inj h)
  · replace h := jif_f c2 h
    refine lv_iconst (v := 1) hx hb dTa_hasIndex_13 (by decide) ?_
    refine lv_goto (tgt := 18) hx hb dTa_hasIndex_14 (by decide) ?_
    exact jreti (u := B) hx hb hr rfl hlocks hJ dTa_hasIndex_18 (Option.some.inj h)
set_option maxHeartbeats 4000000 in
set_option maxRecDepth 100000 in
theorem cTa_hasIndex (l : Launch) (dC : Nat → ClassId) (dI : Nat → Nat → Nat) (cA : ClassId) (A : Nat → Nat) (x1 : Int32) (x2 : Int32) (M : jM) (F : jF) (B : Nat → Nat) (sz : Nat) {r : Int32} (h : fTa_hasIndex x1 x2 M F = some r) : jCi l yTa_hasIndex wTa_hasIndex rTa_hasIndex (dC, dI) jCl [(cA, .int)] [.ref (A 4), .int x1, .int x2] (jW cA A B M F) sz r (fun B => jW cA A B M F) :=
  jOf (Qc := fun Ap => va_Qi (fun q (_ : Nat → Nat) => q = r) (jPost (dC, dI) jCl [(cA, .int)] (fun B => jW cA A B M F) Ap) Ap) (by decide) rfl (Nat.le_of_ble_eq_true rfl) (fun p e s m below meth c Ap ls hC hA hJ hl => uTa_hasIndex_0 l dC dI cA A Ap hC hA _ _ _ _ _ _ _ _ hJ (lv_sub hl [0, 1, 2] rfl) h)
end
section
abbrev bQu_empty : ByteArray := prog_3_method_2_code
abbrev yQu_empty : MethodName := ⟨RQu, "empty", "()V"⟩
abbrev wQu_empty : List Cond := .code yQu_empty bQu_empty 1 none :: jw
theorem dQu_empty_0 : decode bQu_empty 0 = .ok (.aload_n 0, 1) := by decide +kernel
theorem dQu_empty_1 : decode bQu_empty 1 = .ok (.iconst 0, 1) := by decide +kernel
theorem dQu_empty_2 : decode bQu_empty 2 = .ok (.putfield 40, 3) := by decide +kernel
theorem dQu_empty_5 : decode bQu_empty 5 = .ok (.aload_n 0, 1) := by decide +kernel
theorem dQu_empty_6 : decode bQu_empty 6 = .ok (.iconst 0, 1) := by decide +kernel
theorem dQu_empty_7 : decode bQu_empty 7 = .ok (.putfield 44, 3) := by decide +kernel
theorem dQu_empty_10 : decode bQu_empty 10 = .ok (.return_, 1) := by decide +kernel
abbrev rQu_empty : Room := { frames := 0, cells := 0, slots := 0, locals := 0 }
def fQu_empty_0 (M : jM) (F : jF) : Option (Int32 × jM × jF) := some (0, M, jfu (jfu F 0 0) 1 0)
abbrev fQu_empty (M : jM) (F : jF) : Option (Int32 × jM × jF) := fQu_empty_0  M F
set_option maxHeartbeats 4000000 in
set_option maxRecDepth 100000 in
theorem uQu_empty_0 {p : Program} {e : Env} {s : State} {m : MethodId} {args : Array Value} {below : List Frame} {meth : Method} {c : Code} (l : Launch) (dC : Nat → ClassId) (dI : Nat → Nat → Nat) (cA : ClassId) (A : Nat → Nat) (Ap : Nat → Prop) (hC : jAt p s m args meth c bQu_empty 1 none wQu_empty RQu) (hA : ∀ q : Nat, s.heap.size ≤ q → Ap q) {r : Int32} {M' : jM} {F' : jF} : ∀ (M : jM) (F : jF) (B : Nat → Nat) (H : Heap) (locs : List Loc) (ls : Array Slot), jH (dC, dI) jCl [(cA, .int)] (jW cA A B M F) Ap s H locs → lv_has ls 1 [(0, .ref (A 3))] → fQu_empty_0 M F = some (r, M', F') → W p l e (headSpec wQu_empty rQu_empty).room s m args below meth c H locs 0 0 (jQv below (dC, dI) jCl [(cA, .int)] (fun B => jW cA A B (M') (F')) Ap args s) (F0 m 0 ls []) := by
  obtain ⟨hx, hb, hml, hr, hts, hown, hlocks, hN⟩ := id hC
  have hj : ∀ w ∈ jw, w.before args s = true := fun w h => hts w (List.mem_cons_of_mem _ h)
  intro  M F B H locs ls hJ hl h
  unfold fQu_empty_0 at h
  refine lv_aload_n hx hb dQu_empty_0 rfl (lv_at hl 0 rfl) ?_
  refine lv_iconst (v := 0) hx hb dQu_empty_1 (by decide) ?_
  refine va_put (D := (dC, dI)) (ci := 3) (v := .int 0) (ty := .int) (C := RQu) (T := TQu) (N := 10) hx hb hj iQu tQu tQu_ok nQu hown hJ.1 hJ.2.1 hJ.2.2.1 hJ.2.2.2 3 rfl rfl 8 (by decide) (hj _ jw_73) (fun _ h9 => h9) rfl (by decide +kernel) rfl rfl (Nat.le_of_ble_eq_true rfl) dQu_empty_2 (fun H locs hP hD hS => ?_)
  replace hJ : jH (dC, dI) jCl [(cA, .int)] (jW cA A B M (jfu F 0 0)) Ap s H locs := ⟨hJ.1, hP, hD, hS⟩
  refine lv_aload_n hx hb dQu_empty_5 rfl (lv_at hl 0 rfl) ?_
  refine lv_iconst (v := 0) hx hb dQu_empty_6 (by decide) ?_
  refine va_put (D := (dC, dI)) (ci := 3) (v := .int 0) (ty := .int) (C := RQu) (T := TQu) (N := 10) hx hb hj iQu tQu tQu_ok nQu hown hJ.1 hJ.2.1 hJ.2.2.1 hJ.2.2.2 3 rfl rfl 9 (by decide) (hj _ jw_77) (fun _ h9 => h9) rfl (by decide +kernel) rfl rfl (Nat.le_of_ble_eq_true rfl) dQu_empty_7 (fun H locs hP hD hS => ?_)
  replace hJ : jH (dC, dI) jCl [(cA, .int)] (jW cA A B M (jfu (jfu F 0 0) 1 0)) Ap s H locs := ⟨hJ.1, hP, hD, hS⟩
  cases h
  exact jretv (u := B) hx hb hr hlocks hJ dQu_empty_10
set_option maxHeartbeats 4000000 in
set_option maxRecDepth 100000 in
theorem cQu_empty (l : Launch) (dC : Nat → ClassId) (dI : Nat → Nat → Nat) (cA : ClassId) (A : Nat → Nat) (M : jM) (F : jF) (B : Nat → Nat) (sz : Nat) {r : Int32} {M' : jM} {F' : jF} (h : fQu_empty M F = some (r, M', F')) : jCv l yQu_empty wQu_empty rQu_empty (dC, dI) jCl [(cA, .int)] [.ref (A 3)] (jW cA A B M F) sz (fun B => jW cA A B (M') (F')) :=
  jOf (Qc := fun Ap => va_Qv (fun _ : Nat → Nat => True) (jPost (dC, dI) jCl [(cA, .int)] (fun B => jW cA A B (M') (F')) Ap) Ap) (by decide) rfl (Nat.le_of_ble_eq_true rfl) (fun p e s m below meth c Ap ls hC hA hJ hl => uQu_empty_0 l dC dI cA A Ap hC hA _ _ _ _ _ _ hJ (lv_sub hl [0] rfl) h)
abbrev bQu_addGenerator : ByteArray := prog_3_method_3_code
abbrev yQu_addGenerator : MethodName := ⟨RQu, "addGenerator", "(I)I"⟩
abbrev wQu_addGenerator : List Cond := .code yQu_addGenerator bQu_addGenerator 3 (some .int) :: jw
theorem dQu_addGenerator_0 : decode bQu_addGenerator 0 = .ok (.aload_n 0, 1) := by decide +kernel
theorem dQu_addGenerator_1 : decode bQu_addGenerator 1 = .ok (.getfield 40, 3) := by decide +kernel
theorem dQu_addGenerator_4 : decode bQu_addGenerator 4 = .ok (.istore_n 2, 1) := by decide +kernel
theorem dQu_addGenerator_5 : decode bQu_addGenerator 5 = .ok (.aload_n 0, 1) := by decide +kernel
theorem dQu_addGenerator_6 : decode bQu_addGenerator 6 = .ok (.getfield 18, 3) := by decide +kernel
theorem dQu_addGenerator_9 : decode bQu_addGenerator 9 = .ok (.iload_n 2, 1) := by decide +kernel
theorem dQu_addGenerator_10 : decode bQu_addGenerator 10 = .ok (.iload_n 1, 1) := by decide +kernel
theorem dQu_addGenerator_11 : decode bQu_addGenerator 11 = .ok (.iastore, 1) := by decide +kernel
theorem dQu_addGenerator_12 : decode bQu_addGenerator 12 = .ok (.aload_n 0, 1) := by decide +kernel
theorem dQu_addGenerator_13 : decode bQu_addGenerator 13 = .ok (.iload_n 2, 1) := by decide +kernel
theorem dQu_addGenerator_14 : decode bQu_addGenerator 14 = .ok (.iconst 1, 1) := by decide +kernel
theorem dQu_addGenerator_15 : decode bQu_addGenerator 15 = .ok (.iadd, 1) := by decide +kernel
theorem dQu_addGenerator_16 : decode bQu_addGenerator 16 = .ok (.putfield 40, 3) := by decide +kernel
theorem dQu_addGenerator_19 : decode bQu_addGenerator 19 = .ok (.iload_n 2, 1) := by decide +kernel
theorem dQu_addGenerator_20 : decode bQu_addGenerator 20 = .ok (.ireturn, 1) := by decide +kernel
abbrev rQu_addGenerator : Room := { frames := 0, cells := 0, slots := 0, locals := 0 }
def fQu_addGenerator_0 (x1 : Int32) (M : jM) (F : jF) : Option (Int32 × jM × jF) := (if jib (F 0) 6 then some (F 0, jmu M 10 (F 0).toNatClampNeg x1, jfu F 0 ((F 0) + 1)) else none)
abbrev fQu_addGenerator (x1 : Int32) (M : jM) (F : jF) : Option (Int32 × jM × jF) := fQu_addGenerator_0 x1 M F
set_option maxHeartbeats 4000000 in
set_option maxRecDepth 100000 in
theorem uQu_addGenerator_0 {p : Program} {e : Env} {s : State} {m : MethodId} {args : Array Value} {below : List Frame} {meth : Method} {c : Code} (l : Launch) (dC : Nat → ClassId) (dI : Nat → Nat → Nat) (cA : ClassId) (A : Nat → Nat) (Ap : Nat → Prop) (hC : jAt p s m args meth c bQu_addGenerator 3 (some .int) wQu_addGenerator RQu) (hA : ∀ q : Nat, s.heap.size ≤ q → Ap q) {r : Int32} {M' : jM} {F' : jF} : ∀ (x1 : Int32) (M : jM) (F : jF) (B : Nat → Nat) (H : Heap) (locs : List Loc) (ls : Array Slot), jH (dC, dI) jCl [(cA, .int)] (jW cA A B M F) Ap s H locs → lv_has ls 3 [(0, .ref (A 3)), (1, .int x1)] → fQu_addGenerator_0 x1 M F = some (r, M', F') → W p l e (headSpec wQu_addGenerator rQu_addGenerator).room s m args below meth c H locs 0 0 (jQi below (dC, dI) jCl [(cA, .int)] (fun B => jW cA A B (M') (F')) Ap args s r) (F0 m 0 ls []) := by
  obtain ⟨hx, hb, hml, hr, hts, hown, hlocks, hN⟩ := id hC
  have hj : ∀ w ∈ jw, w.before args s = true := fun w h => hts w (List.mem_cons_of_mem _ h)
  intro x1 M F B H locs ls hJ hl h
  unfold fQu_addGenerator_0 at h
  refine lv_aload_n hx hb dQu_addGenerator_0 rfl (lv_at hl 0 rfl) ?_
  refine va_get (D := (dC, dI)) (ci := 3) (v := .int (F 0)) (C := RQu) (T := TQu) (N := 10) hx hb hj iQu hown hJ.1 hJ.2.1 3 rfl rfl 8 (by decide) (hj _ jw_73) (fun _ h9 => h9) rfl dQu_addGenerator_1 ?_
  refine lv_istore_n (lv' := [(2, .int (F 0)), (0, .ref (A 3)), (1, .int x1)]) hx hb dQu_addGenerator_4 rfl hl (by decide) rfl (fun ls hl => ?_)
  refine lv_aload_n hx hb dQu_addGenerator_5 rfl (lv_at hl 1 rfl) ?_
  refine va_get (D := (dC, dI)) (ci := 3) (v := .ref (A 10)) (C := RQu) (T := TQu) (N := 10) hx hb hj iQu hown hJ.1 hJ.2.1 3 rfl rfl 1 (by decide) (hj _ jw_65) (fun _ h9 => h9) rfl dQu_addGenerator_6 ?_
  refine lv_iload_n hx hb dQu_addGenerator_9 rfl (lv_at hl 0 rfl) ?_
  refine lv_iload_n hx hb dQu_addGenerator_10 rfl (lv_at hl 2 rfl) ?_
  obtain ⟨hi1, h⟩ := jib_h h
  refine jast_10 hx hb hJ hi1 dQu_addGenerator_11 (fun H locs hJ => ?_)
  refine lv_aload_n hx hb dQu_addGenerator_12 rfl (lv_at hl 1 rfl) ?_
  refine lv_iload_n hx hb dQu_addGenerator_13 rfl (lv_at hl 0 rfl) ?_
  refine lv_iconst (v := 1) hx hb dQu_addGenerator_14 (by decide) ?_
  refine lv_iadd hx hb dQu_addGenerator_15 ?_
  refine va_put (D := (dC, dI)) (ci := 3) (v := .int ((F 0) + 1)) (ty := .int) (C := RQu) (T := TQu) (N := 10) hx hb hj iQu tQu tQu_ok nQu hown hJ.1 hJ.2.1 hJ.2.2.1 hJ.2.2.2 3 rfl rfl 8 (by decide) (hj _ jw_73) (fun _ h9 => h9) rfl (by decide +kernel) rfl rfl (Nat.le_of_ble_eq_true rfl) dQu_addGenerator_16 (fun H locs hP hD hS => ?_)
  replace hJ : jH (dC, dI) jCl [(cA, .int)] (jW cA A B (jmu M 10 (F 0).toNatClampNeg x1) (jfu F 0 ((F 0) + 1))) Ap s H locs := ⟨hJ.1, hP, hD, hS⟩
  refine lv_iload_n hx hb dQu_addGenerator_19 rfl (lv_at hl 0 rfl) ?_
  cases h
  exact jreti (u := B) hx hb hr rfl hlocks hJ dQu_addGenerator_20 rfl
set_option maxHeartbeats 4000000 in
set_option maxRecDepth 100000 in
theorem cQu_addGenerator (l : Launch) (dC : Nat → ClassId) (dI : Nat → Nat → Nat) (cA : ClassId) (A : Nat → Nat) (x1 : Int32) (M : jM) (F : jF) (B : Nat → Nat) (sz : Nat) {r : Int32} {M' : jM} {F' : jF} (h : fQu_addGenerator x1 M F = some (r, M', F')) : jCi l yQu_addGenerator wQu_addGenerator rQu_addGenerator (dC, dI) jCl [(cA, .int)] [.ref (A 3), .int x1] (jW cA A B M F) sz r (fun B => jW cA A B (M') (F')) :=
  jOf (Qc := fun Ap => va_Qi (fun q (_ : Nat → Nat) => q = r) (jPost (dC, dI) jCl [(cA, .int)] (fun B => jW cA A B (M') (F')) Ap) Ap) (by decide) rfl (Nat.le_of_ble_eq_true rfl) (fun p e s m below meth c Ap ls hC hA hJ hl => uQu_addGenerator_0 l dC dI cA A Ap hC hA _ _ _ _ _ _ _ hJ (lv_sub hl [0, 1] rfl) h)
abbrev bQu_addCondition : ByteArray := prog_3_method_4_code
abbrev yQu_addCondition : MethodName := ⟨RQu, "addCondition", "(IIIII)I"⟩
abbrev wQu_addCondition : List Cond := .code yQu_addCondition bQu_addCondition 7 (some .int) :: jw
theorem dQu_addCondition_0 : decode bQu_addCondition 0 = .ok (.aload_n 0, 1) := by decide +kernel
theorem dQu_addCondition_1 : decode bQu_addCondition 1 = .ok (.getfield 44, 3) := by decide +kernel
theorem dQu_addCondition_4 : decode bQu_addCondition 4 = .ok (.istore 6, 2) := by decide +kernel
theorem dQu_addCondition_6 : decode bQu_addCondition 6 = .ok (.aload_n 0, 1) := by decide +kernel
theorem dQu_addCondition_7 : decode bQu_addCondition 7 = .ok (.getfield 22, 3) := by decide +kernel
theorem dQu_addCondition_10 : decode bQu_addCondition 10 = .ok (.iload 6, 2) := by decide +kernel
theorem dQu_addCondition_12 : decode bQu_addCondition 12 = .ok (.iload_n 1, 1) := by decide +kernel
theorem dQu_addCondition_13 : decode bQu_addCondition 13 = .ok (.iastore, 1) := by decide +kernel
theorem dQu_addCondition_14 : decode bQu_addCondition 14 = .ok (.aload_n 0, 1) := by decide +kernel
theorem dQu_addCondition_15 : decode bQu_addCondition 15 = .ok (.getfield 25, 3) := by decide +kernel
theorem dQu_addCondition_18 : decode bQu_addCondition 18 = .ok (.iload 6, 2) := by decide +kernel
theorem dQu_addCondition_20 : decode bQu_addCondition 20 = .ok (.iload_n 2, 1) := by decide +kernel
theorem dQu_addCondition_21 : decode bQu_addCondition 21 = .ok (.iastore, 1) := by decide +kernel
theorem dQu_addCondition_22 : decode bQu_addCondition 22 = .ok (.aload_n 0, 1) := by decide +kernel
theorem dQu_addCondition_23 : decode bQu_addCondition 23 = .ok (.getfield 28, 3) := by decide +kernel
theorem dQu_addCondition_26 : decode bQu_addCondition 26 = .ok (.iload 6, 2) := by decide +kernel
theorem dQu_addCondition_28 : decode bQu_addCondition 28 = .ok (.iload_n 3, 1) := by decide +kernel
theorem dQu_addCondition_29 : decode bQu_addCondition 29 = .ok (.iastore, 1) := by decide +kernel
theorem dQu_addCondition_30 : decode bQu_addCondition 30 = .ok (.aload_n 0, 1) := by decide +kernel
theorem dQu_addCondition_31 : decode bQu_addCondition 31 = .ok (.getfield 31, 3) := by decide +kernel
theorem dQu_addCondition_34 : decode bQu_addCondition 34 = .ok (.iload 6, 2) := by decide +kernel
theorem dQu_addCondition_36 : decode bQu_addCondition 36 = .ok (.iload 4, 2) := by decide +kernel
theorem dQu_addCondition_38 : decode bQu_addCondition 38 = .ok (.iastore, 1) := by decide +kernel
theorem dQu_addCondition_39 : decode bQu_addCondition 39 = .ok (.aload_n 0, 1) := by decide +kernel
theorem dQu_addCondition_40 : decode bQu_addCondition 40 = .ok (.getfield 34, 3) := by decide +kernel
theorem dQu_addCondition_43 : decode bQu_addCondition 43 = .ok (.iload 6, 2) := by decide +kernel
theorem dQu_addCondition_45 : decode bQu_addCondition 45 = .ok (.iload 5, 2) := by decide +kernel
theorem dQu_addCondition_47 : decode bQu_addCondition 47 = .ok (.iastore, 1) := by decide +kernel
theorem dQu_addCondition_48 : decode bQu_addCondition 48 = .ok (.aload_n 0, 1) := by decide +kernel
theorem dQu_addCondition_49 : decode bQu_addCondition 49 = .ok (.getfield 37, 3) := by decide +kernel
theorem dQu_addCondition_52 : decode bQu_addCondition 52 = .ok (.iload 6, 2) := by decide +kernel
theorem dQu_addCondition_54 : decode bQu_addCondition 54 = .ok (.iload 4, 2) := by decide +kernel
theorem dQu_addCondition_56 : decode bQu_addCondition 56 = .ok (.iconst (-1), 1) := by decide +kernel
theorem dQu_addCondition_57 : decode bQu_addCondition 57 = .ok (.if_icmp .ne 9, 3) := by decide +kernel
theorem dQu_addCondition_60 : decode bQu_addCondition 60 = .ok (.iconst 1, 1) := by decide +kernel
theorem dQu_addCondition_61 : decode bQu_addCondition 61 = .ok (.iload_n 2, 1) := by decide +kernel
theorem dQu_addCondition_62 : decode bQu_addCondition 62 = .ok (.ishl, 1) := by decide +kernel
theorem dQu_addCondition_63 : decode bQu_addCondition 63 = .ok (.goto 11, 3) := by decide +kernel
theorem dQu_addCondition_66 : decode bQu_addCondition 66 = .ok (.iconst 1, 1) := by decide +kernel
theorem dQu_addCondition_67 : decode bQu_addCondition 67 = .ok (.iload_n 2, 1) := by decide +kernel
theorem dQu_addCondition_68 : decode bQu_addCondition 68 = .ok (.ishl, 1) := by decide +kernel
theorem dQu_addCondition_69 : decode bQu_addCondition 69 = .ok (.iconst 1, 1) := by decide +kernel
theorem dQu_addCondition_70 : decode bQu_addCondition 70 = .ok (.iload 4, 2) := by decide +kernel
theorem dQu_addCondition_72 : decode bQu_addCondition 72 = .ok (.ishl, 1) := by decide +kernel
theorem dQu_addCondition_73 : decode bQu_addCondition 73 = .ok (.ior, 1) := by decide +kernel
theorem dQu_addCondition_74 : decode bQu_addCondition 74 = .ok (.iastore, 1) := by decide +kernel
theorem dQu_addCondition_75 : decode bQu_addCondition 75 = .ok (.aload_n 0, 1) := by decide +kernel
theorem dQu_addCondition_76 : decode bQu_addCondition 76 = .ok (.iload 6, 2) := by decide +kernel
theorem dQu_addCondition_78 : decode bQu_addCondition 78 = .ok (.iconst 1, 1) := by decide +kernel
theorem dQu_addCondition_79 : decode bQu_addCondition 79 = .ok (.iadd, 1) := by decide +kernel
theorem dQu_addCondition_80 : decode bQu_addCondition 80 = .ok (.putfield 44, 3) := by decide +kernel
theorem dQu_addCondition_83 : decode bQu_addCondition 83 = .ok (.iload 6, 2) := by decide +kernel
theorem dQu_addCondition_85 : decode bQu_addCondition 85 = .ok (.ireturn, 1) := by decide +kernel
abbrev rQu_addCondition : Room := { frames := 0, cells := 0, slots := 0, locals := 0 }
def fQu_addCondition_74 (x6 : Int32) (s1 : Int32) (s2 : Int32) (M : jM) (F : jF) : Option (Int32 × jM × jF) := (if jib s1 12 then some (x6, jmu M 16 s1.toNatClampNeg s2, jfu F 1 (x6 + 1)) else none)
def fQu_addCondition_0 (x1 : Int32) (x2 : Int32) (x3 : Int32) (x4 : Int32) (x5 : Int32) (M : jM) (F : jF) : Option (Int32 × jM × jF) := (if jib (F 1) 12 then (if jib (F 1) 12 then (if jib (F 1) 12 then (if jib (F 1) 12 then (if jib (F 1) 12 then (if x4 = (-1) then fQu_addCondition_74 (F 1) (F 1) (1 <<< (x2 &&& 31)) (jmu (jmu (jmu (jmu (jmu M 11 (F 1).toNatClampNeg x1) 12 (F 1).toNatClampNeg x2) 13 (F 1).toNatClampNeg x3) 14 (F 1).toNatClampNeg x4) 15 (F 1).toNatClampNeg x5) F else fQu_addCondition_74 (F 1) (F 1) ((1 <<< (x2 &&& 31)) ||| (1 <<< (x4 &&& 31))) (jmu (jmu (jmu (jmu (jmu M 11 (F 1).toNatClampNeg x1) 12 (F 1).toNatClampNeg x2) 13 (F 1).toNatClampNeg x3) 14 (F 1).toNatClampNeg x4) 15 (F 1).toNatClampNeg x5) F) else none) else none) else none) else none) else none)
abbrev fQu_addCondition (x1 : Int32) (x2 : Int32) (x3 : Int32) (x4 : Int32) (x5 : Int32) (M : jM) (F : jF) : Option (Int32 × jM × jF) := fQu_addCondition_0 x1 x2 x3 x4 x5 M F
set_option maxHeartbeats 4000000 in
set_option maxRecDepth 100000 in
theorem uQu_addCondition_74 {p : Program} {e : Env} {s : State} {m : MethodId} {args : Array Value} {below : List Frame} {meth : Method} {c : Code} (l : Launch) (dC : Nat → ClassId) (dI : Nat → Nat → Nat) (cA : ClassId) (A : Nat → Nat) (Ap : Nat → Prop) (hC : jAt p s m args meth c bQu_addCondition 7 (some .int) wQu_addCondition RQu) (hA : ∀ q : Nat, s.heap.size ≤ q → Ap q) {r : Int32} {M' : jM} {F' : jF} : ∀ (x6 s1 s2 : Int32) (M : jM) (F : jF) (B : Nat → Nat) (H : Heap) (locs : List Loc) (ls : Array Slot), jH (dC, dI) jCl [(cA, .int)] (jW cA A B M F) Ap s H locs → lv_has ls 7 [(0, .ref (A 3)), (6, .int x6)] → fQu_addCondition_74 x6 s1 s2 M F = some (r, M', F') → W p l e (headSpec wQu_addCondition rQu_addCondition).room s m args below meth c H locs 0 0 (jQi below (dC, dI) jCl [(cA, .int)] (fun B => jW cA A B (M') (F')) Ap args s r) (F0 m 74 ls [.int s2, .int s1, .ref (A 16)]) := by
  obtain ⟨hx, hb, hml, hr, hts, hown, hlocks, hN⟩ := id hC
  have hj : ∀ w ∈ jw, w.before args s = true := fun w h => hts w (List.mem_cons_of_mem _ h)
  intro x6 s1 s2 M F B H locs ls hJ hl h
  unfold fQu_addCondition_74 at h
  obtain ⟨hi7, h⟩ := jib_h h
  refine jast_16 hx hb hJ hi7 dQu_addCondition_74 (fun H locs hJ => ?_)
  refine lv_aload_n hx hb dQu_addCondition_75 rfl (lv_at hl 0 rfl) ?_
  refine lv_iload hx hb dQu_addCondition_76 (lv_at hl 1 rfl) ?_
  refine lv_iconst (v := 1) hx hb dQu_addCondition_78 (by decide) ?_
  refine lv_iadd hx hb dQu_addCondition_79 ?_
  refine va_put (D := (dC, dI)) (ci := 3) (v := .int (x6 + 1)) (ty := .int) (C := RQu) (T := TQu) (N := 10) hx hb hj iQu tQu tQu_ok nQu hown hJ.1 hJ.2.1 hJ.2.2.1 hJ.2.2.2 3 rfl rfl 9 (by decide) (hj _ jw_77) (fun _ h9 => h9) rfl (by decide +kernel) rfl rfl (Nat.le_of_ble_eq_true rfl) dQu_addCondition_80 (fun H locs hP hD hS => ?_)
  replace hJ : jH (dC, dI) jCl [(cA, .int)] (jW cA A B (jmu M 16 s1.toNatClampNeg s2) (jfu F 1 (x6 + 1))) Ap s H locs := ⟨hJ.1, hP, hD, hS⟩
  refine lv_iload hx hb dQu_addCondition_83 (lv_at hl 1 rfl) ?_
  cases h
  exact jreti (u := B) hx hb hr rfl hlocks hJ dQu_addCondition_85 rfl
set_option maxHeartbeats 4000000 in
set_option maxRecDepth 100000 in
theorem uQu_addCondition_0 {p : Program} {e : Env} {s : State} {m : MethodId} {args : Array Value} {below : List Frame} {meth : Method} {c : Code} (l : Launch) (dC : Nat → ClassId) (dI : Nat → Nat → Nat) (cA : ClassId) (A : Nat → Nat) (Ap : Nat → Prop) (hC : jAt p s m args meth c bQu_addCondition 7 (some .int) wQu_addCondition RQu) (hA : ∀ q : Nat, s.heap.size ≤ q → Ap q) {r : Int32} {M' : jM} {F' : jF} : ∀ (x1 x2 x3 x4 x5 : Int32) (M : jM) (F : jF) (B : Nat → Nat) (H : Heap) (locs : List Loc) (ls : Array Slot), jH (dC, dI) jCl [(cA, .int)] (jW cA A B M F) Ap s H locs → lv_has ls 7 [(0, .ref (A 3)), (1, .int x1), (2, .int x2), (3, .int x3), (4, .int x4), (5, .int x5)] → fQu_addCondition_0 x1 x2 x3 x4 x5 M F = some (r, M', F') → W p l e (headSpec wQu_addCondition rQu_addCondition).room s m args below meth c H locs 0 0 (jQi below (dC, dI) jCl [(cA, .int)] (fun B => jW cA A B (M') (F')) Ap args s r) (F0 m 0 ls []) := by
  obtain ⟨hx, hb, hml, hr, hts, hown, hlocks, hN⟩ := id hC
  have hj : ∀ w ∈ jw, w.before args s = true := fun w h => hts w (List.mem_cons_of_mem _ h)
  intro x1 x2 x3 x4 x5 M F B H locs ls hJ hl h
  unfold fQu_addCondition_0 at h
  refine lv_aload_n hx hb dQu_addCondition_0 rfl (lv_at hl 0 rfl) ?_
  refine va_get (D := (dC, dI)) (ci := 3) (v := .int (F 1)) (C := RQu) (T := TQu) (N := 10) hx hb hj iQu hown hJ.1 hJ.2.1 3 rfl rfl 9 (by decide) (hj _ jw_77) (fun _ h9 => h9) rfl dQu_addCondition_1 ?_
  refine lv_istore (lv' := [(6, .int (F 1)), (0, .ref (A 3)), (1, .int x1), (2, .int x2), (3, .int x3), (4, .int x4), (5, .int x5)]) hx hb dQu_addCondition_4 hl (by decide) rfl (fun ls hl => ?_)
  refine lv_aload_n hx hb dQu_addCondition_6 rfl (lv_at hl 1 rfl) ?_
  refine va_get (D := (dC, dI)) (ci := 3) (v := .ref (A 11)) (C := RQu) (T := TQu) (N := 10) hx hb hj iQu hown hJ.1 hJ.2.1 3 rfl rfl 2 (by decide) (hj _ jw_66) (fun _ h9 => h9) rfl dQu_addCondition_7 ?_
  refine lv_iload hx hb dQu_addCondition_10 (lv_at hl 0 rfl) ?_
  refine lv_iload_n hx hb dQu_addCondition_12 rfl (lv_at hl 2 rfl) ?_
  obtain ⟨hi1, h⟩ := jib_h h
  refine jast_11 hx hb hJ hi1 dQu_addCondition_13 (fun H locs hJ => ?_)
  refine lv_aload_n hx hb dQu_addCondition_14 rfl (lv_at hl 1 rfl) ?_
  refine va_get (D := (dC, dI)) (ci := 3) (v := .ref (A 12)) (C := RQu) (T := TQu) (N := 10) hx hb hj iQu hown hJ.1 hJ.2.1 3 rfl rfl 3 (by decide) (hj _ jw_68) (fun _ h9 => h9) rfl dQu_addCondition_15 ?_
  refine lv_iload hx hb dQu_addCondition_18 (lv_at hl 0 rfl) ?_
  refine lv_iload_n hx hb dQu_addCondition_20 rfl (lv_at hl 3 rfl) ?_
  obtain ⟨hi2, h⟩ := jib_h h
  refine jast_12 hx hb hJ hi2 dQu_addCondition_21 (fun H locs hJ => ?_)
  refine lv_aload_n hx hb dQu_addCondition_22 rfl (lv_at hl 1 rfl) ?_
  refine va_get (D := (dC, dI)) (ci := 3) (v := .ref (A 13)) (C := RQu) (T := TQu) (N := 10) hx hb hj iQu hown hJ.1 hJ.2.1 3 rfl rfl 4 (by decide) (hj _ jw_69) (fun _ h9 => h9) rfl dQu_addCondition_23 ?_
  refine lv_iload hx hb dQu_addCondition_26 (lv_at hl 0 rfl) ?_
  refine lv_iload_n hx hb dQu_addCondition_28 rfl (lv_at hl 4 rfl) ?_
  obtain ⟨hi3, h⟩ := jib_h h
  refine jast_13 hx hb hJ hi3 dQu_addCondition_29 (fun H locs hJ => ?_)
  refine lv_aload_n hx hb dQu_addCondition_30 rfl (lv_at hl 1 rfl) ?_
  refine va_get (D := (dC, dI)) (ci := 3) (v := .ref (A 14)) (C := RQu) (T := TQu) (N := 10) hx hb hj iQu hown hJ.1 hJ.2.1 3 rfl rfl 5 (by decide) (hj _ jw_70) (fun _ h9 => h9) rfl dQu_addCondition_31 ?_
  refine lv_iload hx hb dQu_addCondition_34 (lv_at hl 0 rfl) ?_
  refine lv_iload hx hb dQu_addCondition_36 (lv_at hl 5 rfl) ?_
  obtain ⟨hi4, h⟩ := jib_h h
  refine jast_14 hx hb hJ hi4 dQu_addCondition_38 (fun H locs hJ => ?_)
  refine lv_aload_n hx hb dQu_addCondition_39 rfl (lv_at hl 1 rfl) ?_
  refine va_get (D := (dC, dI)) (ci := 3) (v := .ref (A 15)) (C := RQu) (T := TQu) (N := 10) hx hb hj iQu hown hJ.1 hJ.2.1 3 rfl rfl 6 (by decide) (hj _ jw_71) (fun _ h9 => h9) rfl dQu_addCondition_40 ?_
  refine lv_iload hx hb dQu_addCondition_43 (lv_at hl 0 rfl) ?_
  refine lv_iload hx hb dQu_addCondition_45 (lv_at hl 6 rfl) ?_
  obtain ⟨hi5, h⟩ := jib_h h
  refine jast_15 hx hb hJ hi5 dQu_addCondition_47 (fun H locs hJ => ?_)
  refine lv_aload_n hx hb dQu_addCondition_48 rfl (lv_at hl 1 rfl) ?_
  refine va_get (D := (dC, dI)) (ci := 3) (v := .ref (A 16)) (C := RQu) (T := TQu) (N := 10) hx hb hj iQu hown hJ.1 hJ.2.1 3 rfl rfl 7 (by decide) (hj _ jw_72) (fun _ h9 => h9) rfl dQu_addCondition_49 ?_
  refine lv_iload hx hb dQu_addCondition_52 (lv_at hl 0 rfl) ?_
  refine lv_iload hx hb dQu_addCondition_54 (lv_at hl 5 rfl) ?_
  refine lv_iconst (v := (-1)) hx hb dQu_addCondition_56 (by decide) ?_
  refine lv_icmp_ne (tgt := 66) hx hb dQu_addCondition_57 (by decide) (fun c6 => ?_) (fun c6 => ?_)
  · replace h := jif_f c6 h
    refine lv_iconst (v := 1) hx hb dQu_addCondition_66 (by decide) ?_
    refine lv_iload_n hx hb dQu_addCondition_67 rfl (lv_at hl 3 rfl) ?_
    refine lv_ishl hx hb dQu_addCondition_68 ?_
    refine lv_iconst (v := 1) hx hb dQu_addCondition_69 (by decide) ?_
    refine lv_iload hx hb dQu_addCondition_70 (lv_at hl 5 rfl) ?_
    refine lv_ishl hx hb dQu_addCondition_72 ?_
    refine lv_ior hx hb dQu_addCondition_73 ?_
    exact uQu_addCondition_74 l dC dI cA A Ap hC hA _ _ _ _ _ _ _ _ _ hJ (lv_sub hl [1, 0] rfl) h
  · replace h := jif_t c6 h
    refine lv_iconst (v := 1) hx hb dQu_addCondition_60 (by decide) ?_
    refine lv_iload_n hx hb dQu_addCondition_61 rfl (lv_at hl 3 rfl) ?_
    refine lv_ishl hx hb dQu_addCondition_62 ?_
    refine lv_goto (tgt := 74) hx hb dQu_addCondition_63 (by decide) ?_
    exact uQu_addCondition_74 l dC dI cA A Ap hC hA _ _ _ _ _ _ _ _ _ hJ (lv_sub hl [1, 0] rfl) h
set_option maxHeartbeats 4000000 in
set_option maxRecDepth 100000 in
theorem cQu_addCondition (l : Launch) (dC : Nat → ClassId) (dI : Nat → Nat → Nat) (cA : ClassId) (A : Nat → Nat) (x1 : Int32) (x2 : Int32) (x3 : Int32) (x4 : Int32) (x5 : Int32) (M : jM) (F : jF) (B : Nat → Nat) (sz : Nat) {r : Int32} {M' : jM} {F' : jF} (h : fQu_addCondition x1 x2 x3 x4 x5 M F = some (r, M', F')) : jCi l yQu_addCondition wQu_addCondition rQu_addCondition (dC, dI) jCl [(cA, .int)] [.ref (A 3), .int x1, .int x2, .int x3, .int x4, .int x5] (jW cA A B M F) sz r (fun B => jW cA A B (M') (F')) :=
  jOf (Qc := fun Ap => va_Qi (fun q (_ : Nat → Nat) => q = r) (jPost (dC, dI) jCl [(cA, .int)] (fun B => jW cA A B (M') (F')) Ap) Ap) (by decide) rfl (Nat.le_of_ble_eq_true rfl) (fun p e s m below meth c Ap ls hC hA hJ hl => uQu_addCondition_0 l dC dI cA A Ap hC hA _ _ _ _ _ _ _ _ _ _ _ hJ (lv_sub hl [0, 1, 2, 3, 4, 5] rfl) h)
abbrev bQu_rowsOf : ByteArray := prog_3_method_5_code
abbrev yQu_rowsOf : MethodName := ⟨RQu, "rowsOf", "(I)I"⟩
abbrev wQu_rowsOf : List Cond := .code yQu_rowsOf bQu_rowsOf 2 (some .int) :: jw
theorem dQu_rowsOf_0 : decode bQu_rowsOf 0 = .ok (.aload_n 0, 1) := by decide +kernel
theorem dQu_rowsOf_1 : decode bQu_rowsOf 1 = .ok (.getfield 12, 3) := by decide +kernel
theorem dQu_rowsOf_4 : decode bQu_rowsOf 4 = .ok (.aload_n 0, 1) := by decide +kernel
theorem dQu_rowsOf_5 : decode bQu_rowsOf 5 = .ok (.getfield 18, 3) := by decide +kernel
theorem dQu_rowsOf_8 : decode bQu_rowsOf 8 = .ok (.iload_n 1, 1) := by decide +kernel
theorem dQu_rowsOf_9 : decode bQu_rowsOf 9 = .ok (.iaload, 1) := by decide +kernel
theorem dQu_rowsOf_10 : decode bQu_rowsOf 10 = .ok (.invokevirtual 47, 3) := by decide +kernel
theorem dQu_rowsOf_13 : decode bQu_rowsOf 13 = .ok (.ireturn, 1) := by decide +kernel
abbrev rQu_rowsOf : Room := { frames := 1, cells := 0, slots := 0, locals := 21 }
def fQu_rowsOf_0 (x1 : Int32) (M : jM) (F : jF) : Option Int32 := (if jib x1 6 then ((fTa_rows (M 10 x1.toNatClampNeg) M F).bind fun q2 => some q2) else none)
abbrev fQu_rowsOf (x1 : Int32) (M : jM) (F : jF) : Option Int32 := fQu_rowsOf_0 x1 M F
set_option maxHeartbeats 4000000 in
set_option maxRecDepth 100000 in
theorem uQu_rowsOf_0 {p : Program} {e : Env} {s : State} {m : MethodId} {args : Array Value} {below : List Frame} {meth : Method} {c : Code} (l : Launch) (dC : Nat → ClassId) (dI : Nat → Nat → Nat) (cA : ClassId) (A : Nat → Nat) (Ap : Nat → Prop) (hC : jAt p s m args meth c bQu_rowsOf 2 (some .int) wQu_rowsOf RQu) (hA : ∀ q : Nat, s.heap.size ≤ q → Ap q) {r : Int32} : ∀ (x1 : Int32) (M : jM) (F : jF) (B : Nat → Nat) (H : Heap) (locs : List Loc) (ls : Array Slot), jH (dC, dI) jCl [(cA, .int)] (jW cA A B M F) Ap s H locs → lv_has ls 2 [(0, .ref (A 3)), (1, .int x1)] → fQu_rowsOf_0 x1 M F = some r → W p l e (headSpec wQu_rowsOf rQu_rowsOf).room s m args below meth c H locs 0 0 (jQi below (dC, dI) jCl [(cA, .int)] (fun B => jW cA A B M F) Ap args s r) (F0 m 0 ls []) := by
  obtain ⟨hx, hb, hml, hr, hts, hown, hlocks, hN⟩ := id hC
  have hj : ∀ w ∈ jw, w.before args s = true := fun w h => hts w (List.mem_cons_of_mem _ h)
  intro x1 M F B H locs ls hJ hl h
  unfold fQu_rowsOf_0 at h
  refine lv_aload_n hx hb dQu_rowsOf_0 rfl (lv_at hl 0 rfl) ?_
  refine va_get (D := (dC, dI)) (ci := 3) (v := .ref (A 4)) (C := RQu) (T := TQu) (N := 10) hx hb hj iQu hown hJ.1 hJ.2.1 3 rfl rfl 0 (by decide) (hj _ jw_63) (fun _ h9 => h9) rfl dQu_rowsOf_1 ?_
  refine lv_aload_n hx hb dQu_rowsOf_4 rfl (lv_at hl 0 rfl) ?_
  refine va_get (D := (dC, dI)) (ci := 3) (v := .ref (A 10)) (C := RQu) (T := TQu) (N := 10) hx hb hj iQu hown hJ.1 hJ.2.1 3 rfl rfl 1 (by decide) (hj _ jw_65) (fun _ h9 => h9) rfl dQu_rowsOf_5 ?_
  refine lv_iload_n hx hb dQu_rowsOf_8 rfl (lv_at hl 1 rfl) ?_
  obtain ⟨hi1, h⟩ := jib_h h
  refine jald_10 hx hb hJ hi1 dQu_rowsOf_9 ?_
  obtain ⟨q2, hq2, h⟩ := jbi_h h
  refine jcalli (w' := fun B => jW cA A B M F) (va_runV (As := [.int (M 10 x1.toNatClampNeg)]) (rest := []) ⟨hx, hb, hml, hown, hts⟩ (cTa_rows l dC dI cA A (M 10 x1.toNatClampNeg) M F B H.size hq2) (cwV 1 hts (jgoodV jw_423 jw_298 jw_299 jw_5 jw_300) rfl rfl rfl (by decide +kernel) ⟨Nat.le_of_ble_eq_true rfl, Nat.le_of_ble_eq_true rfl⟩) (jpreV hN hJ (ci := 4) (q0 := 4) rfl rfl) rfl rfl hl.1 rfl (lv_room (Nat.le_of_ble_eq_true rfl)) dQu_rowsOf_10 ⟨Nat.zero_le _, Nat.zero_le _⟩) hA hJ (fun B H locs hJ => ?_)
  exact jreti (u := B) hx hb hr rfl hlocks hJ dQu_rowsOf_13 (Option.some.inj h)
set_option maxHeartbeats 4000000 in
set_option maxRecDepth 100000 in
theorem cQu_rowsOf (l : Launch) (dC : Nat → ClassId) (dI : Nat → Nat → Nat) (cA : ClassId) (A : Nat → Nat) (x1 : Int32) (M : jM) (F : jF) (B : Nat → Nat) (sz : Nat) {r : Int32} (h : fQu_rowsOf x1 M F = some r) : jCi l yQu_rowsOf wQu_rowsOf rQu_rowsOf (dC, dI) jCl [(cA, .int)] [.ref (A 3), .int x1] (jW cA A B M F) sz r (fun B => jW cA A B M F) :=
  jOf (Qc := fun Ap => va_Qi (fun q (_ : Nat → Nat) => q = r) (jPost (dC, dI) jCl [(cA, .int)] (fun B => jW cA A B M F) Ap) Ap) (by decide) rfl (Nat.le_of_ble_eq_true rfl) (fun p e s m below meth c Ap ls hC hA hJ hl => uQu_rowsOf_0 l dC dI cA A Ap hC hA _ _ _ _ _ _ _ hJ (lv_sub hl [0, 1] rfl) h)
abbrev bQu_isWithin : ByteArray := prog_3_method_6_code
abbrev yQu_isWithin : MethodName := ⟨RQu, "isWithin", "(II)Z"⟩
abbrev wQu_isWithin : List Cond := .code yQu_isWithin bQu_isWithin 3 (some .boolean) :: jw
theorem dQu_isWithin_0 : decode bQu_isWithin 0 = .ok (.aload_n 0, 1) := by decide +kernel
theorem dQu_isWithin_1 : decode bQu_isWithin 1 = .ok (.getfield 37, 3) := by decide +kernel
theorem dQu_isWithin_4 : decode bQu_isWithin 4 = .ok (.iload_n 1, 1) := by decide +kernel
theorem dQu_isWithin_5 : decode bQu_isWithin 5 = .ok (.iaload, 1) := by decide +kernel
theorem dQu_isWithin_6 : decode bQu_isWithin 6 = .ok (.iload_n 2, 1) := by decide +kernel
theorem dQu_isWithin_7 : decode bQu_isWithin 7 = .ok (.iconst (-1), 1) := by decide +kernel
theorem dQu_isWithin_8 : decode bQu_isWithin 8 = .ok (.ixor, 1) := by decide +kernel
theorem dQu_isWithin_9 : decode bQu_isWithin 9 = .ok (.iand, 1) := by decide +kernel
theorem dQu_isWithin_10 : decode bQu_isWithin 10 = .ok (.ifCond .ne 7, 3) := by decide +kernel
theorem dQu_isWithin_13 : decode bQu_isWithin 13 = .ok (.iconst 1, 1) := by decide +kernel
theorem dQu_isWithin_14 : decode bQu_isWithin 14 = .ok (.goto 4, 3) := by decide +kernel
theorem dQu_isWithin_17 : decode bQu_isWithin 17 = .ok (.iconst 0, 1) := by decide +kernel
theorem dQu_isWithin_18 : decode bQu_isWithin 18 = .ok (.ireturn, 1) := by decide +kernel
abbrev rQu_isWithin : Room := { frames := 0, cells := 0, slots := 0, locals := 0 }
def fQu_isWithin_0 (x1 : Int32) (x2 : Int32) (M : jM) (F : jF) : Option Int32 := (if jib x1 12 then (if ((M 16 x1.toNatClampNeg) &&& (x2 ^^^ (-1))) = 0 then some 1 else some 0) else none)
abbrev fQu_isWithin (x1 : Int32) (x2 : Int32) (M : jM) (F : jF) : Option Int32 := fQu_isWithin_0 x1 x2 M F
set_option maxHeartbeats 4000000 in
set_option maxRecDepth 100000 in
theorem uQu_isWithin_0 {p : Program} {e : Env} {s : State} {m : MethodId} {args : Array Value} {below : List Frame} {meth : Method} {c : Code} (l : Launch) (dC : Nat → ClassId) (dI : Nat → Nat → Nat) (cA : ClassId) (A : Nat → Nat) (Ap : Nat → Prop) (hC : jAt p s m args meth c bQu_isWithin 3 (some .boolean) wQu_isWithin RQu) (hA : ∀ q : Nat, s.heap.size ≤ q → Ap q) {r : Int32} : ∀ (x1 x2 : Int32) (M : jM) (F : jF) (B : Nat → Nat) (H : Heap) (locs : List Loc) (ls : Array Slot), jH (dC, dI) jCl [(cA, .int)] (jW cA A B M F) Ap s H locs → lv_has ls 3 [(0, .ref (A 3)), (1, .int x1), (2, .int x2)] → fQu_isWithin_0 x1 x2 M F = some r → W p l e (headSpec wQu_isWithin rQu_isWithin).room s m args below meth c H locs 0 0 (jQi below (dC, dI) jCl [(cA, .int)] (fun B => jW cA A B M F) Ap args s r) (F0 m 0 ls []) := by
  obtain ⟨hx, hb, hml, hr, hts, hown, hlocks, hN⟩ := id hC
  have hj : ∀ w ∈ jw, w.before args s = true := fun w h => hts w (List.mem_cons_of_mem _ h)
  intro x1 x2 M F B H locs ls hJ hl h
  unfold fQu_isWithin_0 at h
  refine lv_aload_n hx hb dQu_isWithin_0 rfl (lv_at hl 0 rfl) ?_
  refine va_get (D := (dC, dI)) (ci := 3) (v := .ref (A 16)) (C := RQu) (T := TQu) (N := 10) hx hb hj iQu hown hJ.1 hJ.2.1 3 rfl rfl 7 (by decide) (hj _ jw_72) (fun _ h9 => h9) rfl dQu_isWithin_1 ?_
  refine lv_iload_n hx hb dQu_isWithin_4 rfl (lv_at hl 1 rfl) ?_
  obtain ⟨hi1, h⟩ := jib_h h
  refine jald_16 hx hb hJ hi1 dQu_isWithin_5 ?_
  refine lv_iload_n hx hb dQu_isWithin_6 rfl (lv_at hl 2 rfl) ?_
  refine lv_iconst (v := (-1)) hx hb dQu_isWithin_7 (by decide) ?_
  refine lv_ixor hx hb dQu_isWithin_8 ?_
  refine lv_iand hx hb dQu_isWithin_9 ?_
  refine lv_if_ne (tgt := 17) hx hb dQu_isWithin_10 (by decide) (fun c2 => ?_) (fun c2 => ?_)
  · replace h := jif_f c2 h
    refine lv_iconst (v := 0) hx hb dQu_isWithin_17 (by decide) ?_
    exact jreti (u := B) hx hb hr rfl hlocks hJ dQu_isWithin_18 (Option.some.inj h)
  · replace h := jif_t c2 h
    refine lv_iconst (v := 1) hx hb dQu_isWithin_13 (by decide) ?_
    refine lv_goto (tgt := 18) hx hb dQu_isWithin_14 (by decide) ?_
    exact jreti (u := B) hx hb hr rfl hlocks hJ dQu_isWithin_18 (Option.some.inj h)
set_option maxHeartbeats 4000000 in
set_option maxRecDepth 100000 in
theorem cQu_isWithin (l : Launch) (dC : Nat → ClassId) (dI : Nat → Nat → Nat) (cA : ClassId) (A : Nat → Nat) (x1 : Int32) (x2 : Int32) (M : jM) (F : jF) (B : Nat → Nat) (sz : Nat) {r : Int32} (h : fQu_isWithin x1 x2 M F = some r) : jCi l yQu_isWithin wQu_isWithin rQu_isWithin (dC, dI) jCl [(cA, .int)] [.ref (A 3), .int x1, .int x2] (jW cA A B M F) sz r (fun B => jW cA A B M F) :=
  jOf (Qc := fun Ap => va_Qi (fun q (_ : Nat → Nat) => q = r) (jPost (dC, dI) jCl [(cA, .int)] (fun B => jW cA A B M F) Ap) Ap) (by decide) rfl (Nat.le_of_ble_eq_true rfl) (fun p e s m below meth c Ap ls hC hA hJ hl => uQu_isWithin_0 l dC dI cA A Ap hC hA _ _ _ _ _ _ _ _ hJ (lv_sub hl [0, 1, 2] rfl) h)
abbrev bQu_isJudgedAt : ByteArray := prog_3_method_7_code
abbrev yQu_isJudgedAt : MethodName := ⟨RQu, "isJudgedAt", "(III)Z"⟩
abbrev wQu_isJudgedAt : List Cond := .code yQu_isJudgedAt bQu_isJudgedAt 4 (some .boolean) :: jw
theorem dQu_isJudgedAt_0 : decode bQu_isJudgedAt 0 = .ok (.aload_n 0, 1) := by decide +kernel
theorem dQu_isJudgedAt_1 : decode bQu_isJudgedAt 1 = .ok (.iload_n 1, 1) := by decide +kernel
theorem dQu_isJudgedAt_2 : decode bQu_isJudgedAt 2 = .ok (.iload_n 3, 1) := by decide +kernel
theorem dQu_isJudgedAt_3 : decode bQu_isJudgedAt 3 = .ok (.iconst 1, 1) := by decide +kernel
theorem dQu_isJudgedAt_4 : decode bQu_isJudgedAt 4 = .ok (.iload_n 2, 1) := by decide +kernel
theorem dQu_isJudgedAt_5 : decode bQu_isJudgedAt 5 = .ok (.ishl, 1) := by decide +kernel
theorem dQu_isJudgedAt_6 : decode bQu_isJudgedAt 6 = .ok (.ior, 1) := by decide +kernel
theorem dQu_isJudgedAt_7 : decode bQu_isJudgedAt 7 = .ok (.invokevirtual 51, 3) := by decide +kernel
theorem dQu_isJudgedAt_10 : decode bQu_isJudgedAt 10 = .ok (.ifCond .eq 16, 3) := by decide +kernel
theorem dQu_isJudgedAt_13 : decode bQu_isJudgedAt 13 = .ok (.aload_n 0, 1) := by decide +kernel
theorem dQu_isJudgedAt_14 : decode bQu_isJudgedAt 14 = .ok (.iload_n 1, 1) := by decide +kernel
theorem dQu_isJudgedAt_15 : decode bQu_isJudgedAt 15 = .ok (.iload_n 3, 1) := by decide +kernel
theorem dQu_isJudgedAt_16 : decode bQu_isJudgedAt 16 = .ok (.invokevirtual 51, 3) := by decide +kernel
theorem dQu_isJudgedAt_19 : decode bQu_isJudgedAt 19 = .ok (.ifCond .ne 7, 3) := by decide +kernel
theorem dQu_isJudgedAt_22 : decode bQu_isJudgedAt 22 = .ok (.iconst 1, 1) := by decide +kernel
theorem dQu_isJudgedAt_23 : decode bQu_isJudgedAt 23 = .ok (.goto 4, 3) := by decide +kernel
theorem dQu_isJudgedAt_26 : decode bQu_isJudgedAt 26 = .ok (.iconst 0, 1) := by decide +kernel
theorem dQu_isJudgedAt_27 : decode bQu_isJudgedAt 27 = .ok (.ireturn, 1) := by decide +kernel
abbrev rQu_isJudgedAt : Room := { frames := 1, cells := 0, slots := 0, locals := 22 }
def fQu_isJudgedAt_0 (x1 : Int32) (x2 : Int32) (x3 : Int32) (M : jM) (F : jF) : Option Int32 := ((fQu_isWithin x1 (x3 ||| (1 <<< (x2 &&& 31))) M F).bind fun q1 => (if q1 = 0 then some 0 else ((fQu_isWithin x1 x3 M F).bind fun q3 => (if q3 = 0 then some 1 else some 0))))
abbrev fQu_isJudgedAt (x1 : Int32) (x2 : Int32) (x3 : Int32) (M : jM) (F : jF) : Option Int32 := fQu_isJudgedAt_0 x1 x2 x3 M F
set_option maxHeartbeats 4000000 in
set_option maxRecDepth 100000 in
theorem uQu_isJudgedAt_0 {p : Program} {e : Env} {s : State} {m : MethodId} {args : Array Value} {below : List Frame} {meth : Method} {c : Code} (l : Launch) (dC : Nat → ClassId) (dI : Nat → Nat → Nat) (cA : ClassId) (A : Nat → Nat) (Ap : Nat → Prop) (hC : jAt p s m args meth c bQu_isJudgedAt 4 (some .boolean) wQu_isJudgedAt RQu) (hA : ∀ q : Nat, s.heap.size ≤ q → Ap q) {r : Int32} : ∀ (x1 x2 x3 : Int32) (M : jM) (F : jF) (B : Nat → Nat) (H : Heap) (locs : List Loc) (ls : Array Slot), jH (dC, dI) jCl [(cA, .int)] (jW cA A B M F) Ap s H locs → lv_has ls 4 [(0, .ref (A 3)), (1, .int x1), (2, .int x2), (3, .int x3)] → fQu_isJudgedAt_0 x1 x2 x3 M F = some r → W p l e (headSpec wQu_isJudgedAt rQu_isJudgedAt).room s m args below meth c H locs 0 0 (jQi below (dC, dI) jCl [(cA, .int)] (fun B => jW cA A B M F) Ap args s r) (F0 m 0 ls []) := by
  obtain ⟨hx, hb, hml, hr, hts, hown, hlocks, hN⟩ := id hC
  have hj : ∀ w ∈ jw, w.before args s = true := fun w h => hts w (List.mem_cons_of_mem _ h)
  intro x1 x2 x3 M F B H locs ls hJ hl h
  unfold fQu_isJudgedAt_0 at h
  refine lv_aload_n hx hb dQu_isJudgedAt_0 rfl (lv_at hl 0 rfl) ?_
  refine lv_iload_n hx hb dQu_isJudgedAt_1 rfl (lv_at hl 1 rfl) ?_
  refine lv_iload_n hx hb dQu_isJudgedAt_2 rfl (lv_at hl 3 rfl) ?_
  refine lv_iconst (v := 1) hx hb dQu_isJudgedAt_3 (by decide) ?_
  refine lv_iload_n hx hb dQu_isJudgedAt_4 rfl (lv_at hl 2 rfl) ?_
  refine lv_ishl hx hb dQu_isJudgedAt_5 ?_
  refine lv_ior hx hb dQu_isJudgedAt_6 ?_
  obtain ⟨q1, hq1, h⟩ := jbi_h h
  refine jcalli (w' := fun B => jW cA A B M F) (va_runV (As := [.int x1, .int (x3 ||| (1 <<< (x2 &&& 31)))]) (rest := []) ⟨hx, hb, hml, hown, hts⟩ (cQu_isWithin l dC dI cA A x1 (x3 ||| (1 <<< (x2 &&& 31))) M F B H.size hq1) (cwV 2 hts (jgoodV jw_478 jw_425 jw_426 jw_4 jw_427) rfl rfl rfl (by decide +kernel) ⟨Nat.le_of_ble_eq_true rfl, Nat.le_of_ble_eq_true rfl⟩) (jpreV hN hJ (ci := 3) (q0 := 3) rfl rfl) rfl rfl hl.1 rfl (lv_room (Nat.le_of_ble_eq_true rfl)) dQu_isJudgedAt_7 ⟨Nat.zero_le _, Nat.zero_le _⟩) hA hJ (fun B H locs hJ => ?_)
  refine lv_if_eq (tgt := 26) hx hb dQu_isJudgedAt_10 (by decide) (fun c2 => ?_) (fun c2 => ?_)
  · replace h := jif_t c2 h
    refine lv_iconst (v := 0) hx hb dQu_isJudgedAt_26 (by decide) ?_
    exact jreti (u := B) hx hb hr rfl hlocks hJ dQu_isJudgedAt_27 (Option.some.inj h)
  · replace h := jif_f c2 h
    refine lv_aload_n hx hb dQu_isJudgedAt_13 rfl (lv_at hl 0 rfl) ?_
    refine lv_iload_n hx hb dQu_isJudgedAt_14 rfl (lv_at hl 1 rfl) ?_
    refine lv_iload_n hx hb dQu_isJudgedAt_15 rfl (lv_at hl 3 rfl) ?_
    obtain ⟨q3, hq3, h⟩ := jbi_h h
    refine jcalli (w' := fun B => jW cA A B M F) (va_runV (As := [.int x1, .int x3]) (rest := []) ⟨hx, hb, hml, hown, hts⟩ (cQu_isWithin l dC dI cA A x1 x3 M F B H.size hq3) (cwV 2 hts (jgoodV jw_478 jw_425 jw_426 jw_4 jw_427) rfl rfl rfl (by decide +kernel) ⟨Nat.le_of_ble_eq_true rfl, Nat.le_of_ble_eq_true rfl⟩) (jpreV hN hJ (ci := 3) (q0 := 3) rfl rfl) rfl rfl hl.1 rfl (lv_room (Nat.le_of_ble_eq_true rfl)) dQu_isJudgedAt_16 ⟨Nat.zero_le _, Nat.zero_le _⟩) hA hJ (fun B H locs hJ => ?_)
    refine lv_if_ne (tgt := 26) hx hb dQu_isJudgedAt_19 (by decide) (fun c4 => ?_) (fun c4 => ?_)
    · replace h := jif_f c4 h
      refine lv_iconst (v := 0) hx hb dQu_isJudgedAt_26 (by decide) ?_
      exact jreti (u := B) hx hb hr rfl hlocks hJ dQu_isJudgedAt_27 (Option.some.inj h)
    · replace h := jif_t c4 h
      refine lv_iconst (v := 1) hx hb dQu_isJudgedAt_22 (by decide) ?_
      refine lv_goto (tgt := 27) hx hb dQu_isJudgedAt_23 (by decide) ?_
      exact jreti (u := B) hx hb hr rfl hlocks hJ dQu_isJudgedAt_27 (Option.some.inj h)
set_option maxHeartbeats 4000000 in
set_option maxRecDepth 100000 in
theorem cQu_isJudgedAt (l : Launch) (dC : Nat → ClassId) (dI : Nat → Nat → Nat) (cA : ClassId) (A : Nat → Nat) (x1 : Int32) (x2 : Int32) (x3 : Int32) (M : jM) (F : jF) (B : Nat → Nat) (sz : Nat) {r : Int32} (h : fQu_isJudgedAt x1 x2 x3 M F = some r) : jCi l yQu_isJudgedAt wQu_isJudgedAt rQu_isJudgedAt (dC, dI) jCl [(cA, .int)] [.ref (A 3), .int x1, .int x2, .int x3] (jW cA A B M F) sz r (fun B => jW cA A B M F) :=
  jOf (Qc := fun Ap => va_Qi (fun q (_ : Nat → Nat) => q = r) (jPost (dC, dI) jCl [(cA, .int)] (fun B => jW cA A B M F) Ap) Ap) (by decide) rfl (Nat.le_of_ble_eq_true rfl) (fun p e s m below meth c Ap ls hC hA hJ hl => uQu_isJudgedAt_0 l dC dI cA A Ap hC hA _ _ _ _ _ _ _ _ _ hJ (lv_sub hl [0, 1, 2, 3] rfl) h)
abbrev bQu_partner : ByteArray := prog_3_method_8_code
abbrev yQu_partner : MethodName := ⟨RQu, "partner", "(II)I"⟩
abbrev wQu_partner : List Cond := .code yQu_partner bQu_partner 3 (some .int) :: jw
theorem dQu_partner_0 : decode bQu_partner 0 = .ok (.aload_n 0, 1) := by decide +kernel
theorem dQu_partner_1 : decode bQu_partner 1 = .ok (.getfield 25, 3) := by decide +kernel
theorem dQu_partner_4 : decode bQu_partner 4 = .ok (.iload_n 1, 1) := by decide +kernel
theorem dQu_partner_5 : decode bQu_partner 5 = .ok (.iaload, 1) := by decide +kernel
theorem dQu_partner_6 : decode bQu_partner 6 = .ok (.aload_n 0, 1) := by decide +kernel
theorem dQu_partner_7 : decode bQu_partner 7 = .ok (.getfield 31, 3) := by decide +kernel
theorem dQu_partner_10 : decode bQu_partner 10 = .ok (.iload_n 1, 1) := by decide +kernel
theorem dQu_partner_11 : decode bQu_partner 11 = .ok (.iaload, 1) := by decide +kernel
theorem dQu_partner_12 : decode bQu_partner 12 = .ok (.if_icmp .ne 5, 3) := by decide +kernel
theorem dQu_partner_15 : decode bQu_partner 15 = .ok (.iconst (-1), 1) := by decide +kernel
theorem dQu_partner_16 : decode bQu_partner 16 = .ok (.ireturn, 1) := by decide +kernel
theorem dQu_partner_17 : decode bQu_partner 17 = .ok (.aload_n 0, 1) := by decide +kernel
theorem dQu_partner_18 : decode bQu_partner 18 = .ok (.getfield 25, 3) := by decide +kernel
theorem dQu_partner_21 : decode bQu_partner 21 = .ok (.iload_n 1, 1) := by decide +kernel
theorem dQu_partner_22 : decode bQu_partner 22 = .ok (.iaload, 1) := by decide +kernel
theorem dQu_partner_23 : decode bQu_partner 23 = .ok (.iload_n 2, 1) := by decide +kernel
theorem dQu_partner_24 : decode bQu_partner 24 = .ok (.if_icmp .ne 12, 3) := by decide +kernel
theorem dQu_partner_27 : decode bQu_partner 27 = .ok (.aload_n 0, 1) := by decide +kernel
theorem dQu_partner_28 : decode bQu_partner 28 = .ok (.getfield 31, 3) := by decide +kernel
theorem dQu_partner_31 : decode bQu_partner 31 = .ok (.iload_n 1, 1) := by decide +kernel
theorem dQu_partner_32 : decode bQu_partner 32 = .ok (.iaload, 1) := by decide +kernel
theorem dQu_partner_33 : decode bQu_partner 33 = .ok (.goto 9, 3) := by decide +kernel
theorem dQu_partner_36 : decode bQu_partner 36 = .ok (.aload_n 0, 1) := by decide +kernel
theorem dQu_partner_37 : decode bQu_partner 37 = .ok (.getfield 25, 3) := by decide +kernel
theorem dQu_partner_40 : decode bQu_partner 40 = .ok (.iload_n 1, 1) := by decide +kernel
theorem dQu_partner_41 : decode bQu_partner 41 = .ok (.iaload, 1) := by decide +kernel
theorem dQu_partner_42 : decode bQu_partner 42 = .ok (.ireturn, 1) := by decide +kernel
abbrev rQu_partner : Room := { frames := 0, cells := 0, slots := 0, locals := 0 }
def fQu_partner_0 (x1 : Int32) (x2 : Int32) (M : jM) (F : jF) : Option Int32 := (if jib x1 12 then (if jib x1 12 then (if (M 12 x1.toNatClampNeg) = (M 14 x1.toNatClampNeg) then some (-1) else (if jib x1 12 then (if (M 12 x1.toNatClampNeg) = x2 then (if jib x1 12 then some (M 14 x1.toNatClampNeg) else none) else (if jib x1 12 then some (M 12 x1.toNatClampNeg) else none)) else none)) else none) else none)
abbrev fQu_partner (x1 : Int32) (x2 : Int32) (M : jM) (F : jF) : Option Int32 := fQu_partner_0 x1 x2 M F
set_option maxHeartbeats 4000000 in
set_option maxRecDepth 100000 in
theorem uQu_partner_0 {p : Program} {e : Env} {s : State} {m : MethodId} {args : Array Value} {below : List Frame} {meth : Method} {c : Code} (l : Launch) (dC : Nat → ClassId) (dI : Nat → Nat → Nat) (cA : ClassId) (A : Nat → Nat) (Ap : Nat → Prop) (hC : jAt p s m args meth c bQu_partner 3 (some .int) wQu_partner RQu) (hA : ∀ q : Nat, s.heap.size ≤ q → Ap q) {r : Int32} : ∀ (x1 x2 : Int32) (M : jM) (F : jF) (B : Nat → Nat) (H : Heap) (locs : List Loc) (ls : Array Slot), jH (dC, dI) jCl [(cA, .int)] (jW cA A B M F) Ap s H locs → lv_has ls 3 [(0, .ref (A 3)), (1, .int x1), (2, .int x2)] → fQu_partner_0 x1 x2 M F = some r → W p l e (headSpec wQu_partner rQu_partner).room s m args below meth c H locs 0 0 (jQi below (dC, dI) jCl [(cA, .int)] (fun B => jW cA A B M F) Ap args s r) (F0 m 0 ls []) := by
  obtain ⟨hx, hb, hml, hr, hts, hown, hlocks, hN⟩ := id hC
  have hj : ∀ w ∈ jw, w.before args s = true := fun w h => hts w (List.mem_cons_of_mem _ h)
  intro x1 x2 M F B H locs ls hJ hl h
  unfold fQu_partner_0 at h
  refine lv_aload_n hx hb dQu_partner_0 rfl (lv_at hl 0 rfl) ?_
  refine va_get (D := (dC, dI)) (ci := 3) (v := .ref (A 12)) (C := RQu) (T := TQu) (N := 10) hx hb hj iQu hown hJ.1 hJ.2.1 3 rfl rfl 3 (by decide) (hj _ jw_68) (fun _ h9 => h9) rfl dQu_partner_1 ?_
  refine lv_iload_n hx hb dQu_partner_4 rfl (lv_at hl 1 rfl) ?_
  obtain ⟨hi1, h⟩ := jib_h h
  refine jald_12 hx hb hJ hi1 dQu_partner_5 ?_
  refine lv_aload_n hx hb dQu_partner_6 rfl (lv_at hl 0 rfl) ?_
  refine va_get (D := (dC, dI)) (ci := 3) (v := .ref (A 14)) (C := RQu) (T := TQu) (N := 10) hx hb hj iQu hown hJ.1 hJ.2.1 3 rfl rfl 5 (by decide) (hj _ jw_70) (fun _ h9 => h9) rfl dQu_partner_7 ?_
  refine lv_iload_n hx hb dQu_partner_10 rfl (lv_at hl 1 rfl) ?_
  obtain ⟨hi2, h⟩ := jib_h h
  refine jald_14 hx hb hJ hi2 dQu_partner_11 ?_
  refine lv_icmp_ne (tgt := 17) hx hb dQu_partner_12 (by decide) (fun c3 => ?_) (fun c3 => ?_)
  · replace h := jif_f c3 h
    refine lv_aload_n hx hb dQu_partner_17 rfl (lv_at hl 0 rfl) ?_
    refine va_get (D := (dC, dI)) (ci := 3) (v := .ref (A 12)) (C := RQu) (T := TQu) (N := 10) hx hb hj iQu hown hJ.1 hJ.2.1 3 rfl rfl 3 (by decide) (hj _ jw_68) (fun _ h9 => h9) rfl dQu_partner_18 ?_
    refine lv_iload_n hx hb dQu_partner_21 rfl (lv_at hl 1 rfl) ?_
    obtain ⟨hi4, h⟩ := jib_h h
    refine jald_12 hx hb hJ hi4 dQu_partner_22 ?_
    refine lv_iload_n hx hb dQu_partner_23 rfl (lv_at hl 2 rfl) ?_
    refine lv_icmp_ne (tgt := 36) hx hb dQu_partner_24 (by decide) (fun c5 => ?_) (fun c5 => ?_)
    · replace h := jif_f c5 h
      refine lv_aload_n hx hb dQu_partner_36 rfl (lv_at hl 0 rfl) ?_
      refine va_get (D := (dC, dI)) (ci := 3) (v := .ref (A 12)) (C := RQu) (T := TQu) (N := 10) hx hb hj iQu hown hJ.1 hJ.2.1 3 rfl rfl 3 (by decide) (hj _ jw_68) (fun _ h9 => h9) rfl dQu_partner_37 ?_
      refine lv_iload_n hx hb dQu_partner_40 rfl (lv_at hl 1 rfl) ?_
      obtain ⟨hi6, h⟩ := jib_h h
      refine jald_12 hx hb hJ hi6 dQu_partner_41 ?_
      exact jreti (u := B) hx hb hr rfl hlocks hJ dQu_partner_42 (Option.some.inj h)
    · replace h := jif_t c5 h
      refine lv_aload_n hx hb dQu_partner_27 rfl (lv_at hl 0 rfl) ?_
      refine va_get (D := (dC, dI)) (ci := 3) (v := .ref (A 14)) (C := RQu) (T := TQu) (N := 10) hx hb hj iQu hown hJ.1 hJ.2.1 3 rfl rfl 5 (by decide) (hj _ jw_70) (fun _ h9 => h9) rfl dQu_partner_28 ?_
      refine lv_iload_n hx hb dQu_partner_31 rfl (lv_at hl 1 rfl) ?_
      obtain ⟨hi7, h⟩ := jib_h h
      refine jald_14 hx hb hJ hi7 dQu_partner_32 ?_
      refine lv_goto (tgt := 42) hx hb dQu_partner_33 (by decide) ?_
      exact jreti (u := B) hx hb hr rfl hlocks hJ dQu_partner_42 (Option.some.inj h)
  · replace h := jif_t c3 h
    refine lv_iconst (v := (-1)) hx hb dQu_partner_15 (by decide) ?_
    exact jreti (u := B) hx hb hr rfl hlocks hJ dQu_partner_16 (Option.some.inj h)
set_option maxHeartbeats 4000000 in
set_option maxRecDepth 100000 in
theorem cQu_partner (l : Launch) (dC : Nat → ClassId) (dI : Nat → Nat → Nat) (cA : ClassId) (A : Nat → Nat) (x1 : Int32) (x2 : Int32) (M : jM) (F : jF) (B : Nat → Nat) (sz : Nat) {r : Int32} (h : fQu_partner x1 x2 M F = some r) : jCi l yQu_partner wQu_partner rQu_partner (dC, dI) jCl [(cA, .int)] [.ref (A 3), .int x1, .int x2] (jW cA A B M F) sz r (fun B => jW cA A B M F) :=
  jOf (Qc := fun Ap => va_Qi (fun q (_ : Nat → Nat) => q = r) (jPost (dC, dI) jCl [(cA, .int)] (fun B => jW cA A B M F) Ap) Ap) (by decide) rfl (Nat.le_of_ble_eq_true rfl) (fun p e s m below meth c Ap ls hC hA hJ hl => uQu_partner_0 l dC dI cA A Ap hC hA _ _ _ _ _ _ _ _ hJ (lv_sub hl [0, 1, 2] rfl) h)
abbrev bQu_tellsValue : ByteArray := prog_3_method_9_code
abbrev yQu_tellsValue : MethodName := ⟨RQu, "tellsValue", "(III)Z"⟩
abbrev wQu_tellsValue : List Cond := .code yQu_tellsValue bQu_tellsValue 4 (some .boolean) :: jw
theorem dQu_tellsValue_0 : decode bQu_tellsValue 0 = .ok (.aload_n 0, 1) := by decide +kernel
theorem dQu_tellsValue_1 : decode bQu_tellsValue 1 = .ok (.iload_n 1, 1) := by decide +kernel
theorem dQu_tellsValue_2 : decode bQu_tellsValue 2 = .ok (.iload_n 2, 1) := by decide +kernel
theorem dQu_tellsValue_3 : decode bQu_tellsValue 3 = .ok (.iload_n 3, 1) := by decide +kernel
theorem dQu_tellsValue_4 : decode bQu_tellsValue 4 = .ok (.invokevirtual 55, 3) := by decide +kernel
theorem dQu_tellsValue_7 : decode bQu_tellsValue 7 = .ok (.ifCond .ne 5, 3) := by decide +kernel
theorem dQu_tellsValue_10 : decode bQu_tellsValue 10 = .ok (.iconst 0, 1) := by decide +kernel
theorem dQu_tellsValue_11 : decode bQu_tellsValue 11 = .ok (.ireturn, 1) := by decide +kernel
theorem dQu_tellsValue_12 : decode bQu_tellsValue 12 = .ok (.aload_n 0, 1) := by decide +kernel
theorem dQu_tellsValue_13 : decode bQu_tellsValue 13 = .ok (.getfield 22, 3) := by decide +kernel
theorem dQu_tellsValue_16 : decode bQu_tellsValue 16 = .ok (.iload_n 1, 1) := by decide +kernel
theorem dQu_tellsValue_17 : decode bQu_tellsValue 17 = .ok (.iaload, 1) := by decide +kernel
theorem dQu_tellsValue_18 : decode bQu_tellsValue 18 = .ok (.iconst 1, 1) := by decide +kernel
theorem dQu_tellsValue_19 : decode bQu_tellsValue 19 = .ok (.if_icmp .eq 22, 3) := by decide +kernel
theorem dQu_tellsValue_22 : decode bQu_tellsValue 22 = .ok (.aload_n 0, 1) := by decide +kernel
theorem dQu_tellsValue_23 : decode bQu_tellsValue 23 = .ok (.getfield 22, 3) := by decide +kernel
theorem dQu_tellsValue_26 : decode bQu_tellsValue 26 = .ok (.iload_n 1, 1) := by decide +kernel
theorem dQu_tellsValue_27 : decode bQu_tellsValue 27 = .ok (.iaload, 1) := by decide +kernel
theorem dQu_tellsValue_28 : decode bQu_tellsValue 28 = .ok (.ifCond .ne 17, 3) := by decide +kernel
theorem dQu_tellsValue_31 : decode bQu_tellsValue 31 = .ok (.aload_n 0, 1) := by decide +kernel
theorem dQu_tellsValue_32 : decode bQu_tellsValue 32 = .ok (.iload_n 1, 1) := by decide +kernel
theorem dQu_tellsValue_33 : decode bQu_tellsValue 33 = .ok (.iload_n 2, 1) := by decide +kernel
theorem dQu_tellsValue_34 : decode bQu_tellsValue 34 = .ok (.invokevirtual 59, 3) := by decide +kernel
theorem dQu_tellsValue_37 : decode bQu_tellsValue 37 = .ok (.iconst (-1), 1) := by decide +kernel
theorem dQu_tellsValue_38 : decode bQu_tellsValue 38 = .ok (.if_icmp .eq 7, 3) := by decide +kernel
theorem dQu_tellsValue_41 : decode bQu_tellsValue 41 = .ok (.iconst 1, 1) := by decide +kernel
theorem dQu_tellsValue_42 : decode bQu_tellsValue 42 = .ok (.goto 4, 3) := by decide +kernel
theorem dQu_tellsValue_45 : decode bQu_tellsValue 45 = .ok (.iconst 0, 1) := by decide +kernel
theorem dQu_tellsValue_46 : decode bQu_tellsValue 46 = .ok (.ireturn, 1) := by decide +kernel
abbrev rQu_tellsValue : Room := { frames := 2, cells := 0, slots := 0, locals := 45 }
def fQu_tellsValue_41 (M : jM) (F : jF) : Option Int32 := some 1
def fQu_tellsValue_0 (x1 : Int32) (x2 : Int32) (x3 : Int32) (M : jM) (F : jF) : Option Int32 := ((fQu_isJudgedAt x1 x2 x3 M F).bind fun q1 => (if q1 = 0 then some 0 else (if jib x1 12 then (if (M 11 x1.toNatClampNeg) = 1 then fQu_tellsValue_41  M F else (if jib x1 12 then (if (M 11 x1.toNatClampNeg) = 0 then ((fQu_partner x1 x2 M F).bind fun q7 => (if q7 = (-1) then some 0 else fQu_tellsValue_41  M F)) else some 0) else none)) else none)))
abbrev fQu_tellsValue (x1 : Int32) (x2 : Int32) (x3 : Int32) (M : jM) (F : jF) : Option Int32 := fQu_tellsValue_0 x1 x2 x3 M F
set_option maxHeartbeats 4000000 in
set_option maxRecDepth 100000 in
theorem uQu_tellsValue_41 {p : Program} {e : Env} {s : State} {m : MethodId} {args : Array Value} {below : List Frame} {meth : Method} {c : Code} (l : Launch) (dC : Nat → ClassId) (dI : Nat → Nat → Nat) (cA : ClassId) (A : Nat → Nat) (Ap : Nat → Prop) (hC : jAt p s m args meth c bQu_tellsValue 4 (some .boolean) wQu_tellsValue RQu) (hA : ∀ q : Nat, s.heap.size ≤ q → Ap q) {r : Int32} : ∀ (M : jM) (F : jF) (B : Nat → Nat) (H : Heap) (locs : List Loc) (ls : Array Slot), jH (dC, dI) jCl [(cA, .int)] (jW cA A B M F) Ap s H locs → lv_has ls 4 [] → fQu_tellsValue_41 M F = some r → W p l e (headSpec wQu_tellsValue rQu_tellsValue).room s m args below meth c H locs 0 0 (jQi below (dC, dI) jCl [(cA, .int)] (fun B => jW cA A B M F) Ap args s r) (F0 m 41 ls []) := by
  obtain ⟨hx, hb, hml, hr, hts, hown, hlocks, hN⟩ := id hC
  have hj : ∀ w ∈ jw, w.before args s = true := fun w h => hts w (List.mem_cons_of_mem _ h)
  intro  M F B H locs ls hJ hl h
  unfold fQu_tellsValue_41 at h
  refine lv_iconst (v := 1) hx hb dQu_tellsValue_41 (by decide) ?_
  refine lv_goto (tgt := 46) hx hb dQu_tellsValue_42 (by decide) ?_
  exact jreti (u := B) hx hb hr rfl hlocks hJ dQu_tellsValue_46 (Option.some.inj h)
set_option maxHeartbeats 4000000 in
set_option maxRecDepth 100000 in
theorem uQu_tellsValue_0 {p : Program} {e : Env} {s : State} {m : MethodId} {args : Array Value} {below : List Frame} {meth : Method} {c : Code} (l : Launch) (dC : Nat → ClassId) (dI : Nat → Nat → Nat) (cA : ClassId) (A : Nat → Nat) (Ap : Nat → Prop) (hC : jAt p s m args meth c bQu_tellsValue 4 (some .boolean) wQu_tellsValue RQu) (hA : ∀ q : Nat, s.heap.size ≤ q → Ap q) {r : Int32} : ∀ (x1 x2 x3 : Int32) (M : jM) (F : jF) (B : Nat → Nat) (H : Heap) (locs : List Loc) (ls : Array Slot), jH (dC, dI) jCl [(cA, .int)] (jW cA A B M F) Ap s H locs → lv_has ls 4 [(0, .ref (A 3)), (1, .int x1), (2, .int x2), (3, .int x3)] → fQu_tellsValue_0 x1 x2 x3 M F = some r → W p l e (headSpec wQu_tellsValue rQu_tellsValue).room s m args below meth c H locs 0 0 (jQi below (dC, dI) jCl [(cA, .int)] (fun B => jW cA A B M F) Ap args s r) (F0 m 0 ls []) := by
  obtain ⟨hx, hb, hml, hr, hts, hown, hlocks, hN⟩ := id hC
  have hj : ∀ w ∈ jw, w.before args s = true := fun w h => hts w (List.mem_cons_of_mem _ h)
  intro x1 x2 x3 M F B H locs ls hJ hl h
  unfold fQu_tellsValue_0 at h
  refine lv_aload_n hx hb dQu_tellsValue_0 rfl (lv_at hl 0 rfl) ?_
  refine lv_iload_n hx hb dQu_tellsValue_1 rfl (lv_at hl 1 rfl) ?_
  refine lv_iload_n hx hb dQu_tellsValue_2 rfl (lv_at hl 2 rfl) ?_
  refine lv_iload_n hx hb dQu_tellsValue_3 rfl (lv_at hl 3 rfl) ?_
  obtain ⟨q1, hq1, h⟩ := jbi_h h
  refine jcalli (w' := fun B => jW cA A B M F) (va_runV (As := [.int x1, .int x2, .int x3]) (rest := []) ⟨hx, hb, hml, hown, hts⟩ (cQu_isJudgedAt l dC dI cA A x1 x2 x3 M F B H.size hq1) (cwV 3 hts (jgoodV jw_474 jw_475 jw_476 jw_4 jw_477) rfl rfl rfl (by decide +kernel) ⟨Nat.le_of_ble_eq_true rfl, Nat.le_of_ble_eq_true rfl⟩) (jpreV hN hJ (ci := 3) (q0 := 3) rfl rfl) rfl rfl hl.1 rfl (lv_room (Nat.le_of_ble_eq_true rfl)) dQu_tellsValue_4 ⟨Nat.zero_le _, Nat.zero_le _⟩) hA hJ (fun B H locs hJ => ?_)
  refine lv_if_ne (tgt := 12) hx hb dQu_tellsValue_7 (by decide) (fun c2 => ?_) (fun c2 => ?_)
  · replace h := jif_f c2 h
    refine lv_aload_n hx hb dQu_tellsValue_12 rfl (lv_at hl 0 rfl) ?_
    refine va_get (D := (dC, dI)) (ci := 3) (v := .ref (A 11)) (C := RQu) (T := TQu) (N := 10) hx hb hj iQu hown hJ.1 hJ.2.1 3 rfl rfl 2 (by decide) (hj _ jw_66) (fun _ h9 => h9) rfl dQu_tellsValue_13 ?_
    refine lv_iload_n hx hb dQu_tellsValue_16 rfl (lv_at hl 1 rfl) ?_
    obtain ⟨hi3, h⟩ := jib_h h
    refine jald_11 hx hb hJ hi3 dQu_tellsValue_17 ?_
    refine lv_iconst (v := 1) hx hb dQu_tellsValue_18 (by decide) ?_
    refine lv_icmp_eq (tgt := 41) hx hb dQu_tellsValue_19 (by decide) (fun c4 => ?_) (fun c4 => ?_)
    · replace h := jif_t c4 h
      exact uQu_tellsValue_41 l dC dI cA A Ap hC hA _ _ _ _ _ _ hJ (lv_sub hl [] rfl) h
    · replace h := jif_f c4 h
      refine lv_aload_n hx hb dQu_tellsValue_22 rfl (lv_at hl 0 rfl) ?_
      refine va_get (D := (dC, dI)) (ci := 3) (v := .ref (A 11)) (C := RQu) (T := TQu) (N := 10) hx hb hj iQu hown hJ.1 hJ.2.1 3 rfl rfl 2 (by decide) (hj _ jw_66) (fun _ h9 => h9) rfl dQu_tellsValue_23 ?_
      refine lv_iload_n hx hb dQu_tellsValue_26 rfl (lv_at hl 1 rfl) ?_
      obtain ⟨hi5, h⟩ := jib_h h
      refine jald_11 hx hb hJ hi5 dQu_tellsValue_27 ?_
      refine lv_if_ne (tgt := 45) hx hb dQu_tellsValue_28 (by decide) (fun c6 => ?_) (fun c6 => ?_)
      · replace h := jif_f c6 h
        refine lv_iconst (v := 0) hx hb dQu_tellsValue_45 (by decide) ?_
        exact jreti (u := B) hx hb hr rfl hlocks hJ dQu_tellsValue_46 (Option.some.inj h)
      · replace h := jif_t c6 h
        refine lv_aload_n hx hb dQu_tellsValue_31 rfl (lv_at hl 0 rfl) ?_
        refine lv_iload_n hx hb dQu_tellsValue_32 rfl (lv_at hl 1 rfl) ?_
        refine lv_iload_n hx hb dQu_tellsValue_33 rfl (lv_at hl 2 rfl) ?_
        obtain ⟨q7, hq7, h⟩ := jbi_h h
        refine jcalli (w' := fun B => jW cA A B M F) (va_runV (As := [.int x1, .int x2]) (rest := []) ⟨hx, hb, hml, hown, hts⟩ (cQu_partner l dC dI cA A x1 x2 M F B H.size hq7) (cwV 2 hts (jgoodV jw_479 jw_480 jw_481 jw_4 jw_482) rfl rfl rfl (by decide +kernel) ⟨Nat.le_of_ble_eq_true rfl, Nat.le_of_ble_eq_true rfl⟩) (jpreV hN hJ (ci := 3) (q0 := 3) rfl rfl) rfl rfl hl.1 rfl (lv_room (Nat.le_of_ble_eq_true rfl)) dQu_tellsValue_34 ⟨Nat.zero_le _, Nat.zero_le _⟩) hA hJ (fun B H locs hJ => ?_)
        refine lv_iconst (v := (-1)) hx hb dQu_tellsValue_37 (by decide) ?_
        refine lv_icmp_eq (tgt := 45) hx hb dQu_tellsValue_38 (by decide) (fun c8 => ?_) (fun c8 => ?_)
        · replace h := jif_t c8 h
          refine lv_iconst (v := 0) hx hb dQu_tellsValue_45 (by decide) ?_
          exact jreti (u := B) hx hb hr rfl hlocks hJ dQu_tellsValue_46 (Option.some.inj h)
        · replace h := jif_f c8 h
          exact uQu_tellsValue_41 l dC dI cA A Ap hC hA _ _ _ _ _ _ hJ (lv_sub hl [] rfl) h
  · replace h := jif_t c2 h
    refine lv_iconst (v := 0) hx hb dQu_tellsValue_10 (by decide) ?_
    exact jreti (u := B) hx hb hr rfl hlocks hJ dQu_tellsValue_11 (Option.some.inj h)
set_option maxHeartbeats 4000000 in
set_option maxRecDepth 100000 in
theorem cQu_tellsValue (l : Launch) (dC : Nat → ClassId) (dI : Nat → Nat → Nat) (cA : ClassId) (A : Nat → Nat) (x1 : Int32) (x2 : Int32) (x3 : Int32) (M : jM) (F : jF) (B : Nat → Nat) (sz : Nat) {r : Int32} (h : fQu_tellsValue x1 x2 x3 M F = some r) : jCi l yQu_tellsValue wQu_tellsValue rQu_tellsValue (dC, dI) jCl [(cA, .int)] [.ref (A 3), .int x1, .int x2, .int x3] (jW cA A B M F) sz r (fun B => jW cA A B M F) :=
  jOf (Qc := fun Ap => va_Qi (fun q (_ : Nat → Nat) => q = r) (jPost (dC, dI) jCl [(cA, .int)] (fun B => jW cA A B M F) Ap) Ap) (by decide) rfl (Nat.le_of_ble_eq_true rfl) (fun p e s m below meth c Ap ls hC hA hJ hl => uQu_tellsValue_0 l dC dI cA A Ap hC hA _ _ _ _ _ _ _ _ _ hJ (lv_sub hl [0, 1, 2, 3] rfl) h)
abbrev bQu_tellsByIndex : ByteArray := prog_3_method_10_code
abbrev yQu_tellsByIndex : MethodName := ⟨RQu, "tellsByIndex", "(II)Z"⟩
abbrev wQu_tellsByIndex : List Cond := .code yQu_tellsByIndex bQu_tellsByIndex 4 (some .boolean) :: jw
theorem dQu_tellsByIndex_0 : decode bQu_tellsByIndex 0 = .ok (.aload_n 0, 1) := by decide +kernel
theorem dQu_tellsByIndex_1 : decode bQu_tellsByIndex 1 = .ok (.getfield 25, 3) := by decide +kernel
theorem dQu_tellsByIndex_4 : decode bQu_tellsByIndex 4 = .ok (.iload_n 1, 1) := by decide +kernel
theorem dQu_tellsByIndex_5 : decode bQu_tellsByIndex 5 = .ok (.iaload, 1) := by decide +kernel
theorem dQu_tellsByIndex_6 : decode bQu_tellsByIndex 6 = .ok (.iload_n 2, 1) := by decide +kernel
theorem dQu_tellsByIndex_7 : decode bQu_tellsByIndex 7 = .ok (.if_icmp .ne 12, 3) := by decide +kernel
theorem dQu_tellsByIndex_10 : decode bQu_tellsByIndex 10 = .ok (.aload_n 0, 1) := by decide +kernel
theorem dQu_tellsByIndex_11 : decode bQu_tellsByIndex 11 = .ok (.getfield 28, 3) := by decide +kernel
theorem dQu_tellsByIndex_14 : decode bQu_tellsByIndex 14 = .ok (.iload_n 1, 1) := by decide +kernel
theorem dQu_tellsByIndex_15 : decode bQu_tellsByIndex 15 = .ok (.iaload, 1) := by decide +kernel
theorem dQu_tellsByIndex_16 : decode bQu_tellsByIndex 16 = .ok (.goto 9, 3) := by decide +kernel
theorem dQu_tellsByIndex_19 : decode bQu_tellsByIndex 19 = .ok (.aload_n 0, 1) := by decide +kernel
theorem dQu_tellsByIndex_20 : decode bQu_tellsByIndex 20 = .ok (.getfield 34, 3) := by decide +kernel
theorem dQu_tellsByIndex_23 : decode bQu_tellsByIndex 23 = .ok (.iload_n 1, 1) := by decide +kernel
theorem dQu_tellsByIndex_24 : decode bQu_tellsByIndex 24 = .ok (.iaload, 1) := by decide +kernel
theorem dQu_tellsByIndex_25 : decode bQu_tellsByIndex 25 = .ok (.istore_n 3, 1) := by decide +kernel
theorem dQu_tellsByIndex_26 : decode bQu_tellsByIndex 26 = .ok (.aload_n 0, 1) := by decide +kernel
theorem dQu_tellsByIndex_27 : decode bQu_tellsByIndex 27 = .ok (.getfield 12, 3) := by decide +kernel
theorem dQu_tellsByIndex_30 : decode bQu_tellsByIndex 30 = .ok (.aload_n 0, 1) := by decide +kernel
theorem dQu_tellsByIndex_31 : decode bQu_tellsByIndex 31 = .ok (.getfield 18, 3) := by decide +kernel
theorem dQu_tellsByIndex_34 : decode bQu_tellsByIndex 34 = .ok (.iload_n 2, 1) := by decide +kernel
theorem dQu_tellsByIndex_35 : decode bQu_tellsByIndex 35 = .ok (.iaload, 1) := by decide +kernel
theorem dQu_tellsByIndex_36 : decode bQu_tellsByIndex 36 = .ok (.iload_n 3, 1) := by decide +kernel
theorem dQu_tellsByIndex_37 : decode bQu_tellsByIndex 37 = .ok (.invokevirtual 63, 3) := by decide +kernel
theorem dQu_tellsByIndex_40 : decode bQu_tellsByIndex 40 = .ok (.ireturn, 1) := by decide +kernel
abbrev rQu_tellsByIndex : Room := { frames := 1, cells := 0, slots := 0, locals := 22 }
def fQu_tellsByIndex_25 (x2 : Int32) (s0 : Int32) (M : jM) (F : jF) : Option Int32 := (if jib x2 6 then ((fTa_hasIndex (M 10 x2.toNatClampNeg) s0 M F).bind fun q5 => (if jbo q5 then some q5 else none)) else none)
def fQu_tellsByIndex_0 (x1 : Int32) (x2 : Int32) (M : jM) (F : jF) : Option Int32 := (if jib x1 12 then (if (M 12 x1.toNatClampNeg) = x2 then (if jib x1 12 then fQu_tellsByIndex_25 x2 (M 13 x1.toNatClampNeg) M F else none) else (if jib x1 12 then fQu_tellsByIndex_25 x2 (M 15 x1.toNatClampNeg) M F else none)) else none)
abbrev fQu_tellsByIndex (x1 : Int32) (x2 : Int32) (M : jM) (F : jF) : Option Int32 := fQu_tellsByIndex_0 x1 x2 M F
set_option maxHeartbeats 4000000 in
set_option maxRecDepth 100000 in
theorem uQu_tellsByIndex_25 {p : Program} {e : Env} {s : State} {m : MethodId} {args : Array Value} {below : List Frame} {meth : Method} {c : Code} (l : Launch) (dC : Nat → ClassId) (dI : Nat → Nat → Nat) (cA : ClassId) (A : Nat → Nat) (Ap : Nat → Prop) (hC : jAt p s m args meth c bQu_tellsByIndex 4 (some .boolean) wQu_tellsByIndex RQu) (hA : ∀ q : Nat, s.heap.size ≤ q → Ap q) {r : Int32} : ∀ (x2 s0 : Int32) (M : jM) (F : jF) (B : Nat → Nat) (H : Heap) (locs : List Loc) (ls : Array Slot), jH (dC, dI) jCl [(cA, .int)] (jW cA A B M F) Ap s H locs → lv_has ls 4 [(0, .ref (A 3)), (2, .int x2)] → fQu_tellsByIndex_25 x2 s0 M F = some r → W p l e (headSpec wQu_tellsByIndex rQu_tellsByIndex).room s m args below meth c H locs 0 0 (jQi below (dC, dI) jCl [(cA, .int)] (fun B => jW cA A B M F) Ap args s r) (F0 m 25 ls [.int s0]) := by
  obtain ⟨hx, hb, hml, hr, hts, hown, hlocks, hN⟩ := id hC
  have hj : ∀ w ∈ jw, w.before args s = true := fun w h => hts w (List.mem_cons_of_mem _ h)
  intro x2 s0 M F B H locs ls hJ hl h
  unfold fQu_tellsByIndex_25 at h
  refine lv_istore_n (lv' := [(3, .int s0), (0, .ref (A 3)), (2, .int x2)]) hx hb dQu_tellsByIndex_25 rfl hl (by decide) rfl (fun ls hl => ?_)
  refine lv_aload_n hx hb dQu_tellsByIndex_26 rfl (lv_at hl 1 rfl) ?_
  refine va_get (D := (dC, dI)) (ci := 3) (v := .ref (A 4)) (C := RQu) (T := TQu) (N := 10) hx hb hj iQu hown hJ.1 hJ.2.1 3 rfl rfl 0 (by decide) (hj _ jw_63) (fun _ h9 => h9) rfl dQu_tellsByIndex_27 ?_
  refine lv_aload_n hx hb dQu_tellsByIndex_30 rfl (lv_at hl 1 rfl) ?_
  refine va_get (D := (dC, dI)) (ci := 3) (v := .ref (A 10)) (C := RQu) (T := TQu) (N := 10) hx hb hj iQu hown hJ.1 hJ.2.1 3 rfl rfl 1 (by decide) (hj _ jw_65) (fun _ h9 => h9) rfl dQu_tellsByIndex_31 ?_
  refine lv_iload_n hx hb dQu_tellsByIndex_34 rfl (lv_at hl 2 rfl) ?_
  obtain ⟨hi4, h⟩ := jib_h h
  refine jald_10 hx hb hJ hi4 dQu_tellsByIndex_35 ?_
  refine lv_iload_n hx hb dQu_tellsByIndex_36 rfl (lv_at hl 0 rfl) ?_
  obtain ⟨q5, hq5, h⟩ := jbi_h h
  refine jcalli (w' := fun B => jW cA A B M F) (va_runV (As := [.int (M 10 x2.toNatClampNeg), .int s0]) (rest := []) ⟨hx, hb, hml, hown, hts⟩ (cTa_hasIndex l dC dI cA A (M 10 x2.toNatClampNeg) s0 M F B H.size hq5) (cwV 2 hts (jgoodV jw_487 jw_488 jw_489 jw_5 jw_490) rfl rfl rfl (by decide +kernel) ⟨Nat.le_of_ble_eq_true rfl, Nat.le_of_ble_eq_true rfl⟩) (jpreV hN hJ (ci := 4) (q0 := 4) rfl rfl) rfl rfl hl.1 rfl (lv_room (Nat.le_of_ble_eq_true rfl)) dQu_tellsByIndex_37 ⟨Nat.zero_le _, Nat.zero_le _⟩) hA hJ (fun B H locs hJ => ?_)
  obtain ⟨hnb, h⟩ := jbo_h h
  exact jreti (u := B) hx hb hr hnb hlocks hJ dQu_tellsByIndex_40 (Option.some.inj h)
set_option maxHeartbeats 4000000 in
set_option maxRecDepth 100000 in
theorem uQu_tellsByIndex_0 {p : Program} {e : Env} {s : State} {m : MethodId} {args : Array Value} {below : List Frame} {meth : Method} {c : Code} (l : Launch) (dC : Nat → ClassId) (dI : Nat → Nat → Nat) (cA : ClassId) (A : Nat → Nat) (Ap : Nat → Prop) (hC : jAt p s m args meth c bQu_tellsByIndex 4 (some .boolean) wQu_tellsByIndex RQu) (hA : ∀ q : Nat, s.heap.size ≤ q → Ap q) {r : Int32} : ∀ (x1 x2 : Int32) (M : jM) (F : jF) (B : Nat → Nat) (H : Heap) (locs : List Loc) (ls : Array Slot), jH (dC, dI) jCl [(cA, .int)] (jW cA A B M F) Ap s H locs → lv_has ls 4 [(0, .ref (A 3)), (1, .int x1), (2, .int x2)] → fQu_tellsByIndex_0 x1 x2 M F = some r → W p l e (headSpec wQu_tellsByIndex rQu_tellsByIndex).room s m args below meth c H locs 0 0 (jQi below (dC, dI) jCl [(cA, .int)] (fun B => jW cA A B M F) Ap args s r) (F0 m 0 ls []) := by
  obtain ⟨hx, hb, hml, hr, hts, hown, hlocks, hN⟩ := id hC
  have hj : ∀ w ∈ jw, w.before args s = true := fun w h => hts w (List.mem_cons_of_mem _ h)
  intro x1 x2 M F B H locs ls hJ hl h
  unfold fQu_tellsByIndex_0 at h
  refine lv_aload_n hx hb dQu_tellsByIndex_0 rfl (lv_at hl 0 rfl) ?_
  refine va_get (D := (dC, dI)) (ci := 3) (v := .ref (A 12)) (C := RQu) (T := TQu) (N := 10) hx hb hj iQu hown hJ.1 hJ.2.1 3 rfl rfl 3 (by decide) (hj _ jw_68) (fun _ h9 => h9) rfl dQu_tellsByIndex_1 ?_
  refine lv_iload_n hx hb dQu_tellsByIndex_4 rfl (lv_at hl 1 rfl) ?_
  obtain ⟨hi1, h⟩ := jib_h h
  refine jald_12 hx hb hJ hi1 dQu_tellsByIndex_5 ?_
  refine lv_iload_n hx hb dQu_tellsByIndex_6 rfl (lv_at hl 2 rfl) ?_
  refine lv_icmp_ne (tgt := 19) hx hb dQu_tellsByIndex_7 (by decide) (fun c2 => ?_) (fun c2 => ?_)
  · replace h := jif_f c2 h
    refine lv_aload_n hx hb dQu_tellsByIndex_19 rfl (lv_at hl 0 rfl) ?_
    refine va_get (D := (dC, dI)) (ci := 3) (v := .ref (A 15)) (C := RQu) (T := TQu) (N := 10) hx hb hj iQu hown hJ.1 hJ.2.1 3 rfl rfl 6 (by decide) (hj _ jw_71) (fun _ h9 => h9) rfl dQu_tellsByIndex_20 ?_
    refine lv_iload_n hx hb dQu_tellsByIndex_23 rfl (lv_at hl 1 rfl) ?_
    obtain ⟨hi3, h⟩ := jib_h h
    refine jald_15 hx hb hJ hi3 dQu_tellsByIndex_24 ?_
    exact uQu_tellsByIndex_25 l dC dI cA A Ap hC hA _ _ _ _ _ _ _ _ hJ (lv_sub hl [0, 2] rfl) h
  · replace h := jif_t c2 h
    refine lv_aload_n hx hb dQu_tellsByIndex_10 rfl (lv_at hl 0 rfl) ?_
    refine va_get (D := (dC, dI)) (ci := 3) (v := .ref (A 13)) (C := RQu) (T := TQu) (N := 10) hx hb hj iQu hown hJ.1 hJ.2.1 3 rfl rfl 4 (by decide) (hj _ jw_69) (fun _ h9 => h9) rfl dQu_tellsByIndex_11 ?_
    refine lv_iload_n hx hb dQu_tellsByIndex_14 rfl (lv_at hl 1 rfl) ?_
    obtain ⟨hi6, h⟩ := jib_h h
    refine jald_13 hx hb hJ hi6 dQu_tellsByIndex_15 ?_
    refine lv_goto (tgt := 25) hx hb dQu_tellsByIndex_16 (by decide) ?_
    exact uQu_tellsByIndex_25 l dC dI cA A Ap hC hA _ _ _ _ _ _ _ _ hJ (lv_sub hl [0, 2] rfl) h
set_option maxHeartbeats 4000000 in
set_option maxRecDepth 100000 in
theorem cQu_tellsByIndex (l : Launch) (dC : Nat → ClassId) (dI : Nat → Nat → Nat) (cA : ClassId) (A : Nat → Nat) (x1 : Int32) (x2 : Int32) (M : jM) (F : jF) (B : Nat → Nat) (sz : Nat) {r : Int32} (h : fQu_tellsByIndex x1 x2 M F = some r) : jCi l yQu_tellsByIndex wQu_tellsByIndex rQu_tellsByIndex (dC, dI) jCl [(cA, .int)] [.ref (A 3), .int x1, .int x2] (jW cA A B M F) sz r (fun B => jW cA A B M F) :=
  jOf (Qc := fun Ap => va_Qi (fun q (_ : Nat → Nat) => q = r) (jPost (dC, dI) jCl [(cA, .int)] (fun B => jW cA A B M F) Ap) Ap) (by decide) rfl (Nat.le_of_ble_eq_true rfl) (fun p e s m below meth c Ap ls hC hA hJ hl => uQu_tellsByIndex_0 l dC dI cA A Ap hC hA _ _ _ _ _ _ _ _ hJ (lv_sub hl [0, 1, 2] rfl) h)
abbrev bQu_divisor : ByteArray := prog_3_method_11_code
abbrev yQu_divisor : MethodName := ⟨RQu, "divisor", "(I)I"⟩
abbrev wQu_divisor : List Cond := .code yQu_divisor bQu_divisor 3 (some .int) :: jw
theorem dQu_divisor_0 : decode bQu_divisor 0 = .ok (.aload_n 0, 1) := by decide +kernel
theorem dQu_divisor_1 : decode bQu_divisor 1 = .ok (.getfield 22, 3) := by decide +kernel
theorem dQu_divisor_4 : decode bQu_divisor 4 = .ok (.iload_n 1, 1) := by decide +kernel
theorem dQu_divisor_5 : decode bQu_divisor 5 = .ok (.iaload, 1) := by decide +kernel
theorem dQu_divisor_6 : decode bQu_divisor 6 = .ok (.iconst 2, 1) := by decide +kernel
theorem dQu_divisor_7 : decode bQu_divisor 7 = .ok (.if_icmp .ne 5, 3) := by decide +kernel
theorem dQu_divisor_10 : decode bQu_divisor 10 = .ok (.iconst 3, 1) := by decide +kernel
theorem dQu_divisor_11 : decode bQu_divisor 11 = .ok (.ireturn, 1) := by decide +kernel
theorem dQu_divisor_12 : decode bQu_divisor 12 = .ok (.aload_n 0, 1) := by decide +kernel
theorem dQu_divisor_13 : decode bQu_divisor 13 = .ok (.getfield 12, 3) := by decide +kernel
theorem dQu_divisor_16 : decode bQu_divisor 16 = .ok (.aload_n 0, 1) := by decide +kernel
theorem dQu_divisor_17 : decode bQu_divisor 17 = .ok (.getfield 18, 3) := by decide +kernel
theorem dQu_divisor_20 : decode bQu_divisor 20 = .ok (.aload_n 0, 1) := by decide +kernel
theorem dQu_divisor_21 : decode bQu_divisor 21 = .ok (.getfield 25, 3) := by decide +kernel
theorem dQu_divisor_24 : decode bQu_divisor 24 = .ok (.iload_n 1, 1) := by decide +kernel
theorem dQu_divisor_25 : decode bQu_divisor 25 = .ok (.iaload, 1) := by decide +kernel
theorem dQu_divisor_26 : decode bQu_divisor 26 = .ok (.iaload, 1) := by decide +kernel
theorem dQu_divisor_27 : decode bQu_divisor 27 = .ok (.aload_n 0, 1) := by decide +kernel
theorem dQu_divisor_28 : decode bQu_divisor 28 = .ok (.getfield 28, 3) := by decide +kernel
theorem dQu_divisor_31 : decode bQu_divisor 31 = .ok (.iload_n 1, 1) := by decide +kernel
theorem dQu_divisor_32 : decode bQu_divisor 32 = .ok (.iaload, 1) := by decide +kernel
theorem dQu_divisor_33 : decode bQu_divisor 33 = .ok (.invokevirtual 66, 3) := by decide +kernel
theorem dQu_divisor_36 : decode bQu_divisor 36 = .ok (.istore_n 2, 1) := by decide +kernel
theorem dQu_divisor_37 : decode bQu_divisor 37 = .ok (.aload_n 0, 1) := by decide +kernel
theorem dQu_divisor_38 : decode bQu_divisor 38 = .ok (.getfield 22, 3) := by decide +kernel
theorem dQu_divisor_41 : decode bQu_divisor 41 = .ok (.iload_n 1, 1) := by decide +kernel
theorem dQu_divisor_42 : decode bQu_divisor 42 = .ok (.iaload, 1) := by decide +kernel
theorem dQu_divisor_43 : decode bQu_divisor 43 = .ok (.iconst 1, 1) := by decide +kernel
theorem dQu_divisor_44 : decode bQu_divisor 44 = .ok (.if_icmp .ne 5, 3) := by decide +kernel
theorem dQu_divisor_47 : decode bQu_divisor 47 = .ok (.iload_n 2, 1) := by decide +kernel
theorem dQu_divisor_48 : decode bQu_divisor 48 = .ok (.ireturn, 1) := by decide +kernel
theorem dQu_divisor_49 : decode bQu_divisor 49 = .ok (.iload_n 2, 1) := by decide +kernel
theorem dQu_divisor_50 : decode bQu_divisor 50 = .ok (.aload_n 0, 1) := by decide +kernel
theorem dQu_divisor_51 : decode bQu_divisor 51 = .ok (.getfield 12, 3) := by decide +kernel
theorem dQu_divisor_54 : decode bQu_divisor 54 = .ok (.aload_n 0, 1) := by decide +kernel
theorem dQu_divisor_55 : decode bQu_divisor 55 = .ok (.getfield 18, 3) := by decide +kernel
theorem dQu_divisor_58 : decode bQu_divisor 58 = .ok (.aload_n 0, 1) := by decide +kernel
theorem dQu_divisor_59 : decode bQu_divisor 59 = .ok (.getfield 31, 3) := by decide +kernel
theorem dQu_divisor_62 : decode bQu_divisor 62 = .ok (.iload_n 1, 1) := by decide +kernel
theorem dQu_divisor_63 : decode bQu_divisor 63 = .ok (.iaload, 1) := by decide +kernel
theorem dQu_divisor_64 : decode bQu_divisor 64 = .ok (.iaload, 1) := by decide +kernel
theorem dQu_divisor_65 : decode bQu_divisor 65 = .ok (.aload_n 0, 1) := by decide +kernel
theorem dQu_divisor_66 : decode bQu_divisor 66 = .ok (.getfield 34, 3) := by decide +kernel
theorem dQu_divisor_69 : decode bQu_divisor 69 = .ok (.iload_n 1, 1) := by decide +kernel
theorem dQu_divisor_70 : decode bQu_divisor 70 = .ok (.iaload, 1) := by decide +kernel
theorem dQu_divisor_71 : decode bQu_divisor 71 = .ok (.invokevirtual 66, 3) := by decide +kernel
theorem dQu_divisor_74 : decode bQu_divisor 74 = .ok (.invokestatic 69, 3) := by decide +kernel
theorem dQu_divisor_77 : decode bQu_divisor 77 = .ok (.ireturn, 1) := by decide +kernel
abbrev rQu_divisor : Room := { frames := 2, cells := 0, slots := 0, locals := 43 }
def fQu_divisor_0 (x1 : Int32) (M : jM) (F : jF) : Option Int32 := (if jib x1 12 then (if (M 11 x1.toNatClampNeg) = 2 then some 3 else (if jib x1 12 then (if jib (M 12 x1.toNatClampNeg) 6 then (if jib x1 12 then ((fTa_spread (M 10 (M 12 x1.toNatClampNeg).toNatClampNeg) (M 13 x1.toNatClampNeg) M F).bind fun q6 => (if jib x1 12 then (if (M 11 x1.toNatClampNeg) = 1 then some q6 else (if jib x1 12 then (if jib (M 14 x1.toNatClampNeg) 6 then (if jib x1 12 then ((fTa_spread (M 10 (M 14 x1.toNatClampNeg).toNatClampNeg) (M 15 x1.toNatClampNeg) M F).bind fun q12 => some (if q6 < q12 then q12 else q6)) else none) else none) else none)) else none)) else none) else none) else none)) else none)
abbrev fQu_divisor (x1 : Int32) (M : jM) (F : jF) : Option Int32 := fQu_divisor_0 x1 M F
set_option maxHeartbeats 4000000 in
set_option maxRecDepth 100000 in
theorem uQu_divisor_0 {p : Program} {e : Env} {s : State} {m : MethodId} {args : Array Value} {below : List Frame} {meth : Method} {c : Code} (l : Launch) (dC : Nat → ClassId) (dI : Nat → Nat → Nat) (cA : ClassId) (A : Nat → Nat) (Ap : Nat → Prop) (hC : jAt p s m args meth c bQu_divisor 3 (some .int) wQu_divisor RQu) (hA : ∀ q : Nat, s.heap.size ≤ q → Ap q) {r : Int32} : ∀ (x1 : Int32) (M : jM) (F : jF) (B : Nat → Nat) (H : Heap) (locs : List Loc) (ls : Array Slot), jH (dC, dI) jCl [(cA, .int)] (jW cA A B M F) Ap s H locs → lv_has ls 3 [(0, .ref (A 3)), (1, .int x1)] → fQu_divisor_0 x1 M F = some r → W p l e (headSpec wQu_divisor rQu_divisor).room s m args below meth c H locs 0 0 (jQi below (dC, dI) jCl [(cA, .int)] (fun B => jW cA A B M F) Ap args s r) (F0 m 0 ls []) := by
  obtain ⟨hx, hb, hml, hr, hts, hown, hlocks, hN⟩ := id hC
  have hj : ∀ w ∈ jw, w.before args s = true := fun w h => hts w (List.mem_cons_of_mem _ h)
  intro x1 M F B H locs ls hJ hl h
  unfold fQu_divisor_0 at h
  refine lv_aload_n hx hb dQu_divisor_0 rfl (lv_at hl 0 rfl) ?_
  refine va_get (D := (dC, dI)) (ci := 3) (v := .ref (A 11)) (C := RQu) (T := TQu) (N := 10) hx hb hj iQu hown hJ.1 hJ.2.1 3 rfl rfl 2 (by decide) (hj _ jw_66) (fun _ h9 => h9) rfl dQu_divisor_1 ?_
  refine lv_iload_n hx hb dQu_divisor_4 rfl (lv_at hl 1 rfl) ?_
  obtain ⟨hi1, h⟩ := jib_h h
  refine jald_11 hx hb hJ hi1 dQu_divisor_5 ?_
  refine lv_iconst (v := 2) hx hb dQu_divisor_6 (by decide) ?_
  refine lv_icmp_ne (tgt := 12) hx hb dQu_divisor_7 (by decide) (fun c2 => ?_) (fun c2 => ?_)
  · replace h := jif_f c2 h
    refine lv_aload_n hx hb dQu_divisor_12 rfl (lv_at hl 0 rfl) ?_
    refine va_get (D := (dC, dI)) (ci := 3) (v := .ref (A 4)) (C := RQu) (T := TQu) (N := 10) hx hb hj iQu hown hJ.1 hJ.2.1 3 rfl rfl 0 (by decide) (hj _ jw_63) (fun _ h9 => h9) rfl dQu_divisor_13 ?_
    refine lv_aload_n hx hb dQu_divisor_16 rfl (lv_at hl 0 rfl) ?_
    refine va_get (D := (dC, dI)) (ci := 3) (v := .ref (A 10)) (C := RQu) (T := TQu) (N := 10) hx hb hj iQu hown hJ.1 hJ.2.1 3 rfl rfl 1 (by decide) (hj _ jw_65) (fun _ h9 => h9) rfl dQu_divisor_17 ?_
    refine lv_aload_n hx hb dQu_divisor_20 rfl (lv_at hl 0 rfl) ?_
    refine va_get (D := (dC, dI)) (ci := 3) (v := .ref (A 12)) (C := RQu) (T := TQu) (N := 10) hx hb hj iQu hown hJ.1 hJ.2.1 3 rfl rfl 3 (by decide) (hj _ jw_68) (fun _ h9 => h9) rfl dQu_divisor_21 ?_
    refine lv_iload_n hx hb dQu_divisor_24 rfl (lv_at hl 1 rfl) ?_
    obtain ⟨hi3, h⟩ := jib_h h
    refine jald_12 hx hb hJ hi3 dQu_divisor_25 ?_
    obtain ⟨hi4, h⟩ := jib_h h
    refine jald_10 hx hb hJ hi4 dQu_divisor_26 ?_
    refine lv_aload_n hx hb dQu_divisor_27 rfl (lv_at hl 0 rfl) ?_
    refine va_get (D := (dC, dI)) (ci := 3) (v := .ref (A 13)) (C := RQu) (T := TQu) (N := 10) hx hb hj iQu hown hJ.1 hJ.2.1 3 rfl rfl 4 (by decide) (hj _ jw_69) (fun _ h9 => h9) rfl dQu_divisor_28 ?_
    refine lv_iload_n hx hb dQu_divisor_31 rfl (lv_at hl 1 rfl) ?_
    obtain ⟨hi5, h⟩ := jib_h h
    refine jald_13 hx hb hJ hi5 dQu_divisor_32 ?_
    obtain ⟨q6, hq6, h⟩ := jbi_h h
    refine jcalli (w' := fun B => jW cA A B M F) (va_runV (As := [.int (M 10 (M 12 x1.toNatClampNeg).toNatClampNeg), .int (M 13 x1.toNatClampNeg)]) (rest := []) ⟨hx, hb, hml, hown, hts⟩ (cTa_spread l dC dI cA A (M 10 (M 12 x1.toNatClampNeg).toNatClampNeg) (M 13 x1.toNatClampNeg) M F B H.size hq6) (cwV 2 hts (jgoodV jw_432 jw_433 jw_434 jw_5 jw_435) rfl rfl rfl (by decide +kernel) ⟨Nat.le_of_ble_eq_true rfl, Nat.le_of_ble_eq_true rfl⟩) (jpreV hN hJ (ci := 4) (q0 := 4) rfl rfl) rfl rfl hl.1 rfl (lv_room (Nat.le_of_ble_eq_true rfl)) dQu_divisor_33 ⟨Nat.zero_le _, Nat.zero_le _⟩) hA hJ (fun B H locs hJ => ?_)
    refine lv_istore_n (lv' := [(2, .int q6), (0, .ref (A 3)), (1, .int x1)]) hx hb dQu_divisor_36 rfl hl (by decide) rfl (fun ls hl => ?_)
    refine lv_aload_n hx hb dQu_divisor_37 rfl (lv_at hl 1 rfl) ?_
    refine va_get (D := (dC, dI)) (ci := 3) (v := .ref (A 11)) (C := RQu) (T := TQu) (N := 10) hx hb hj iQu hown hJ.1 hJ.2.1 3 rfl rfl 2 (by decide) (hj _ jw_66) (fun _ h9 => h9) rfl dQu_divisor_38 ?_
    refine lv_iload_n hx hb dQu_divisor_41 rfl (lv_at hl 2 rfl) ?_
    obtain ⟨hi7, h⟩ := jib_h h
    refine jald_11 hx hb hJ hi7 dQu_divisor_42 ?_
    refine lv_iconst (v := 1) hx hb dQu_divisor_43 (by decide) ?_
    refine lv_icmp_ne (tgt := 49) hx hb dQu_divisor_44 (by decide) (fun c8 => ?_) (fun c8 => ?_)
    · replace h := jif_f c8 h
      refine lv_iload_n hx hb dQu_divisor_49 rfl (lv_at hl 0 rfl) ?_
      refine lv_aload_n hx hb dQu_divisor_50 rfl (lv_at hl 1 rfl) ?_
      refine va_get (D := (dC, dI)) (ci := 3) (v := .ref (A 4)) (C := RQu) (T := TQu) (N := 10) hx hb hj iQu hown hJ.1 hJ.2.1 3 rfl rfl 0 (by decide) (hj _ jw_63) (fun _ h9 => h9) rfl dQu_divisor_51 ?_
      refine lv_aload_n hx hb dQu_divisor_54 rfl (lv_at hl 1 rfl) ?_
      refine va_get (D := (dC, dI)) (ci := 3) (v := .ref (A 10)) (C := RQu) (T := TQu) (N := 10) hx hb hj iQu hown hJ.1 hJ.2.1 3 rfl rfl 1 (by decide) (hj _ jw_65) (fun _ h9 => h9) rfl dQu_divisor_55 ?_
      refine lv_aload_n hx hb dQu_divisor_58 rfl (lv_at hl 1 rfl) ?_
      refine va_get (D := (dC, dI)) (ci := 3) (v := .ref (A 14)) (C := RQu) (T := TQu) (N := 10) hx hb hj iQu hown hJ.1 hJ.2.1 3 rfl rfl 5 (by decide) (hj _ jw_70) (fun _ h9 => h9) rfl dQu_divisor_59 ?_
      refine lv_iload_n hx hb dQu_divisor_62 rfl (lv_at hl 2 rfl) ?_
      obtain ⟨hi9, h⟩ := jib_h h
      refine jald_14 hx hb hJ hi9 dQu_divisor_63 ?_
      obtain ⟨hi10, h⟩ := jib_h h
      refine jald_10 hx hb hJ hi10 dQu_divisor_64 ?_
      refine lv_aload_n hx hb dQu_divisor_65 rfl (lv_at hl 1 rfl) ?_
      refine va_get (D := (dC, dI)) (ci := 3) (v := .ref (A 15)) (C := RQu) (T := TQu) (N := 10) hx hb hj iQu hown hJ.1 hJ.2.1 3 rfl rfl 6 (by decide) (hj _ jw_71) (fun _ h9 => h9) rfl dQu_divisor_66 ?_
      refine lv_iload_n hx hb dQu_divisor_69 rfl (lv_at hl 2 rfl) ?_
      obtain ⟨hi11, h⟩ := jib_h h
      refine jald_15 hx hb hJ hi11 dQu_divisor_70 ?_
      obtain ⟨q12, hq12, h⟩ := jbi_h h
      refine jcalli (w' := fun B => jW cA A B M F) (va_runV (As := [.int (M 10 (M 14 x1.toNatClampNeg).toNatClampNeg), .int (M 15 x1.toNatClampNeg)]) (rest := [.int q6]) ⟨hx, hb, hml, hown, hts⟩ (cTa_spread l dC dI cA A (M 10 (M 14 x1.toNatClampNeg).toNatClampNeg) (M 15 x1.toNatClampNeg) M F B H.size hq12) (cwV 2 hts (jgoodV jw_432 jw_433 jw_434 jw_5 jw_435) rfl rfl rfl (by decide +kernel) ⟨Nat.le_of_ble_eq_true rfl, Nat.le_of_ble_eq_true rfl⟩) (jpreV hN hJ (ci := 4) (q0 := 4) rfl rfl) rfl rfl hl.1 rfl (lv_room (Nat.le_of_ble_eq_true rfl)) dQu_divisor_71 ⟨Nat.zero_le _, Nat.zero_le _⟩) hA hJ (fun B H locs hJ => ?_)
      refine va_mmax hx hb (hml.trans hl.1.symm) hown (hj _ jw_439) (hj _ jw_437) (hj _ jw_14) (hj _ jw_438) (Nat.le_of_ble_eq_true rfl) (Nat.le_of_ble_eq_true rfl) (Nat.zero_le _) (Nat.zero_le _) dQu_divisor_74 ?_
      exact jreti (u := B) hx hb hr rfl hlocks hJ dQu_divisor_77 (Option.some.inj h)
    · replace h := jif_t c8 h
      refine lv_iload_n hx hb dQu_divisor_47 rfl (lv_at hl 0 rfl) ?_
      exact jreti (u := B) hx hb hr rfl hlocks hJ dQu_divisor_48 (Option.some.inj h)
  · replace h := jif_t c2 h
    refine lv_iconst (v := 3) hx hb dQu_divisor_10 (by decide) ?_
    exact jreti (u := B) hx hb hr rfl hlocks hJ dQu_divisor_11 (Option.some.inj h)
set_option maxHeartbeats 4000000 in
set_option maxRecDepth 100000 in
theorem cQu_divisor (l : Launch) (dC : Nat → ClassId) (dI : Nat → Nat → Nat) (cA : ClassId) (A : Nat → Nat) (x1 : Int32) (M : jM) (F : jF) (B : Nat → Nat) (sz : Nat) {r : Int32} (h : fQu_divisor x1 M F = some r) : jCi l yQu_divisor wQu_divisor rQu_divisor (dC, dI) jCl [(cA, .int)] [.ref (A 3), .int x1] (jW cA A B M F) sz r (fun B => jW cA A B M F) :=
  jOf (Qc := fun Ap => va_Qi (fun q (_ : Nat → Nat) => q = r) (jPost (dC, dI) jCl [(cA, .int)] (fun B => jW cA A B M F) Ap) Ap) (by decide) rfl (Nat.le_of_ble_eq_true rfl) (fun p e s m below meth c Ap ls hC hA hJ hl => uQu_divisor_0 l dC dI cA A Ap hC hA _ _ _ _ _ _ _ hJ (lv_sub hl [0, 1] rfl) h)
abbrev bQu_holds : ByteArray := prog_3_method_12_code
abbrev yQu_holds : MethodName := ⟨RQu, "holds", "(IIII)Z"⟩
abbrev wQu_holds : List Cond := .code yQu_holds bQu_holds 11 (some .boolean) :: jw
theorem dQu_holds_0 : decode bQu_holds 0 = .ok (.aload_n 0, 1) := by decide +kernel
theorem dQu_holds_1 : decode bQu_holds 1 = .ok (.getfield 25, 3) := by decide +kernel
theorem dQu_holds_4 : decode bQu_holds 4 = .ok (.iload_n 1, 1) := by decide +kernel
theorem dQu_holds_5 : decode bQu_holds 5 = .ok (.iaload, 1) := by decide +kernel
theorem dQu_holds_6 : decode bQu_holds 6 = .ok (.istore 5, 2) := by decide +kernel
theorem dQu_holds_8 : decode bQu_holds 8 = .ok (.iload 5, 2) := by decide +kernel
theorem dQu_holds_10 : decode bQu_holds 10 = .ok (.iload_n 2, 1) := by decide +kernel
theorem dQu_holds_11 : decode bQu_holds 11 = .ok (.if_icmp .ne 7, 3) := by decide +kernel
theorem dQu_holds_14 : decode bQu_holds 14 = .ok (.iload_n 3, 1) := by decide +kernel
theorem dQu_holds_15 : decode bQu_holds 15 = .ok (.goto 5, 3) := by decide +kernel
theorem dQu_holds_18 : decode bQu_holds 18 = .ok (.iload 4, 2) := by decide +kernel
theorem dQu_holds_20 : decode bQu_holds 20 = .ok (.istore 6, 2) := by decide +kernel
theorem dQu_holds_22 : decode bQu_holds 22 = .ok (.aload_n 0, 1) := by decide +kernel
theorem dQu_holds_23 : decode bQu_holds 23 = .ok (.getfield 12, 3) := by decide +kernel
theorem dQu_holds_26 : decode bQu_holds 26 = .ok (.aload_n 0, 1) := by decide +kernel
theorem dQu_holds_27 : decode bQu_holds 27 = .ok (.getfield 18, 3) := by decide +kernel
theorem dQu_holds_30 : decode bQu_holds 30 = .ok (.iload 5, 2) := by decide +kernel
theorem dQu_holds_32 : decode bQu_holds 32 = .ok (.iaload, 1) := by decide +kernel
theorem dQu_holds_33 : decode bQu_holds 33 = .ok (.iload 6, 2) := by decide +kernel
theorem dQu_holds_35 : decode bQu_holds 35 = .ok (.aload_n 0, 1) := by decide +kernel
theorem dQu_holds_36 : decode bQu_holds 36 = .ok (.getfield 28, 3) := by decide +kernel
theorem dQu_holds_39 : decode bQu_holds 39 = .ok (.iload_n 1, 1) := by decide +kernel
theorem dQu_holds_40 : decode bQu_holds 40 = .ok (.iaload, 1) := by decide +kernel
theorem dQu_holds_41 : decode bQu_holds 41 = .ok (.invokevirtual 74, 3) := by decide +kernel
theorem dQu_holds_44 : decode bQu_holds 44 = .ok (.istore 7, 2) := by decide +kernel
theorem dQu_holds_46 : decode bQu_holds 46 = .ok (.aload_n 0, 1) := by decide +kernel
theorem dQu_holds_47 : decode bQu_holds 47 = .ok (.getfield 22, 3) := by decide +kernel
theorem dQu_holds_50 : decode bQu_holds 50 = .ok (.iload_n 1, 1) := by decide +kernel
theorem dQu_holds_51 : decode bQu_holds 51 = .ok (.iaload, 1) := by decide +kernel
theorem dQu_holds_52 : decode bQu_holds 52 = .ok (.iconst 1, 1) := by decide +kernel
theorem dQu_holds_53 : decode bQu_holds 53 = .ok (.if_icmp .ne 20, 3) := by decide +kernel
theorem dQu_holds_56 : decode bQu_holds 56 = .ok (.iload 7, 2) := by decide +kernel
theorem dQu_holds_58 : decode bQu_holds 58 = .ok (.aload_n 0, 1) := by decide +kernel
theorem dQu_holds_59 : decode bQu_holds 59 = .ok (.getfield 34, 3) := by decide +kernel
theorem dQu_holds_62 : decode bQu_holds 62 = .ok (.iload_n 1, 1) := by decide +kernel
theorem dQu_holds_63 : decode bQu_holds 63 = .ok (.iaload, 1) := by decide +kernel
theorem dQu_holds_64 : decode bQu_holds 64 = .ok (.if_icmp .ne 7, 3) := by decide +kernel
theorem dQu_holds_67 : decode bQu_holds 67 = .ok (.iconst 1, 1) := by decide +kernel
theorem dQu_holds_68 : decode bQu_holds 68 = .ok (.goto 4, 3) := by decide +kernel
theorem dQu_holds_71 : decode bQu_holds 71 = .ok (.iconst 0, 1) := by decide +kernel
theorem dQu_holds_72 : decode bQu_holds 72 = .ok (.ireturn, 1) := by decide +kernel
theorem dQu_holds_73 : decode bQu_holds 73 = .ok (.aload_n 0, 1) := by decide +kernel
theorem dQu_holds_74 : decode bQu_holds 74 = .ok (.getfield 31, 3) := by decide +kernel
theorem dQu_holds_77 : decode bQu_holds 77 = .ok (.iload_n 1, 1) := by decide +kernel
theorem dQu_holds_78 : decode bQu_holds 78 = .ok (.iaload, 1) := by decide +kernel
theorem dQu_holds_79 : decode bQu_holds 79 = .ok (.istore 8, 2) := by decide +kernel
theorem dQu_holds_81 : decode bQu_holds 81 = .ok (.iload 8, 2) := by decide +kernel
theorem dQu_holds_83 : decode bQu_holds 83 = .ok (.iload_n 2, 1) := by decide +kernel
theorem dQu_holds_84 : decode bQu_holds 84 = .ok (.if_icmp .ne 7, 3) := by decide +kernel
theorem dQu_holds_87 : decode bQu_holds 87 = .ok (.iload_n 3, 1) := by decide +kernel
theorem dQu_holds_88 : decode bQu_holds 88 = .ok (.goto 5, 3) := by decide +kernel
theorem dQu_holds_91 : decode bQu_holds 91 = .ok (.iload 4, 2) := by decide +kernel
theorem dQu_holds_93 : decode bQu_holds 93 = .ok (.istore 9, 2) := by decide +kernel
theorem dQu_holds_95 : decode bQu_holds 95 = .ok (.aload_n 0, 1) := by decide +kernel
theorem dQu_holds_96 : decode bQu_holds 96 = .ok (.getfield 12, 3) := by decide +kernel
theorem dQu_holds_99 : decode bQu_holds 99 = .ok (.aload_n 0, 1) := by decide +kernel
theorem dQu_holds_100 : decode bQu_holds 100 = .ok (.getfield 18, 3) := by decide +kernel
theorem dQu_holds_103 : decode bQu_holds 103 = .ok (.iload 8, 2) := by decide +kernel
theorem dQu_holds_105 : decode bQu_holds 105 = .ok (.iaload, 1) := by decide +kernel
theorem dQu_holds_106 : decode bQu_holds 106 = .ok (.iload 9, 2) := by decide +kernel
theorem dQu_holds_108 : decode bQu_holds 108 = .ok (.aload_n 0, 1) := by decide +kernel
theorem dQu_holds_109 : decode bQu_holds 109 = .ok (.getfield 34, 3) := by decide +kernel
theorem dQu_holds_112 : decode bQu_holds 112 = .ok (.iload_n 1, 1) := by decide +kernel
theorem dQu_holds_113 : decode bQu_holds 113 = .ok (.iaload, 1) := by decide +kernel
theorem dQu_holds_114 : decode bQu_holds 114 = .ok (.invokevirtual 74, 3) := by decide +kernel
theorem dQu_holds_117 : decode bQu_holds 117 = .ok (.istore 10, 2) := by decide +kernel
theorem dQu_holds_119 : decode bQu_holds 119 = .ok (.aload_n 0, 1) := by decide +kernel
theorem dQu_holds_120 : decode bQu_holds 120 = .ok (.getfield 22, 3) := by decide +kernel
theorem dQu_holds_123 : decode bQu_holds 123 = .ok (.iload_n 1, 1) := by decide +kernel
theorem dQu_holds_124 : decode bQu_holds 124 = .ok (.iaload, 1) := by decide +kernel
theorem dQu_holds_125 : decode bQu_holds 125 = .ok (.iconst 2, 1) := by decide +kernel
theorem dQu_holds_126 : decode bQu_holds 126 = .ok (.if_icmp .ne 18, 3) := by decide +kernel
theorem dQu_holds_129 : decode bQu_holds 129 = .ok (.iload 7, 2) := by decide +kernel
theorem dQu_holds_131 : decode bQu_holds 131 = .ok (.iload 10, 2) := by decide +kernel
theorem dQu_holds_133 : decode bQu_holds 133 = .ok (.if_icmp .ge 7, 3) := by decide +kernel
theorem dQu_holds_136 : decode bQu_holds 136 = .ok (.iconst 1, 1) := by decide +kernel
theorem dQu_holds_137 : decode bQu_holds 137 = .ok (.goto 19, 3) := by decide +kernel
theorem dQu_holds_140 : decode bQu_holds 140 = .ok (.iconst 0, 1) := by decide +kernel
theorem dQu_holds_141 : decode bQu_holds 141 = .ok (.goto 15, 3) := by decide +kernel
theorem dQu_holds_144 : decode bQu_holds 144 = .ok (.iload 7, 2) := by decide +kernel
theorem dQu_holds_146 : decode bQu_holds 146 = .ok (.iload 10, 2) := by decide +kernel
theorem dQu_holds_148 : decode bQu_holds 148 = .ok (.if_icmp .ne 7, 3) := by decide +kernel
theorem dQu_holds_151 : decode bQu_holds 151 = .ok (.iconst 1, 1) := by decide +kernel
theorem dQu_holds_152 : decode bQu_holds 152 = .ok (.goto 4, 3) := by decide +kernel
theorem dQu_holds_155 : decode bQu_holds 155 = .ok (.iconst 0, 1) := by decide +kernel
theorem dQu_holds_156 : decode bQu_holds 156 = .ok (.ireturn, 1) := by decide +kernel
abbrev rQu_holds : Room := { frames := 1, cells := 0, slots := 0, locals := 23 }
def fQu_holds_93 (x1 : Int32) (x7 : Int32) (x8 : Int32) (s0 : Int32) (M : jM) (F : jF) : Option Int32 := (if jib x8 6 then (if jib x1 12 then ((fTa_value (M 10 x8.toNatClampNeg) s0 (M 15 x1.toNatClampNeg) M F).bind fun q12 => (if jib x1 12 then (if (M 11 x1.toNatClampNeg) = 2 then (if q12 ≤ x7 then some 0 else some 1) else (if x7 = q12 then some 1 else some 0)) else none)) else none) else none)
def fQu_holds_20 (x1 : Int32) (x2 : Int32) (x3 : Int32) (x4 : Int32) (x5 : Int32) (s0 : Int32) (M : jM) (F : jF) : Option Int32 := (if jib x5 6 then (if jib x1 12 then ((fTa_value (M 10 x5.toNatClampNeg) s0 (M 13 x1.toNatClampNeg) M F).bind fun q5 => (if jib x1 12 then (if (M 11 x1.toNatClampNeg) = 1 then (if jib x1 12 then (if q5 = (M 15 x1.toNatClampNeg) then some 1 else some 0) else none) else (if jib x1 12 then (if (M 14 x1.toNatClampNeg) = x2 then fQu_holds_93 x1 q5 (M 14 x1.toNatClampNeg) x3 M F else fQu_holds_93 x1 q5 (M 14 x1.toNatClampNeg) x4 M F) else none)) else none)) else none) else none)
def fQu_holds_0 (x1 : Int32) (x2 : Int32) (x3 : Int32) (x4 : Int32) (M : jM) (F : jF) : Option Int32 := (if jib x1 12 then (if (M 12 x1.toNatClampNeg) = x2 then fQu_holds_20 x1 x2 x3 x4 (M 12 x1.toNatClampNeg) x3 M F else fQu_holds_20 x1 x2 x3 x4 (M 12 x1.toNatClampNeg) x4 M F) else none)
abbrev fQu_holds (x1 : Int32) (x2 : Int32) (x3 : Int32) (x4 : Int32) (M : jM) (F : jF) : Option Int32 := fQu_holds_0 x1 x2 x3 x4 M F
set_option maxHeartbeats 4000000 in
set_option maxRecDepth 100000 in
theorem uQu_holds_93 {p : Program} {e : Env} {s : State} {m : MethodId} {args : Array Value} {below : List Frame} {meth : Method} {c : Code} (l : Launch) (dC : Nat → ClassId) (dI : Nat → Nat → Nat) (cA : ClassId) (A : Nat → Nat) (Ap : Nat → Prop) (hC : jAt p s m args meth c bQu_holds 11 (some .boolean) wQu_holds RQu) (hA : ∀ q : Nat, s.heap.size ≤ q → Ap q) {r : Int32} : ∀ (x1 x7 x8 s0 : Int32) (M : jM) (F : jF) (B : Nat → Nat) (H : Heap) (locs : List Loc) (ls : Array Slot), jH (dC, dI) jCl [(cA, .int)] (jW cA A B M F) Ap s H locs → lv_has ls 11 [(0, .ref (A 3)), (1, .int x1), (7, .int x7), (8, .int x8)] → fQu_holds_93 x1 x7 x8 s0 M F = some r → W p l e (headSpec wQu_holds rQu_holds).room s m args below meth c H locs 0 0 (jQi below (dC, dI) jCl [(cA, .int)] (fun B => jW cA A B M F) Ap args s r) (F0 m 93 ls [.int s0]) := by
  obtain ⟨hx, hb, hml, hr, hts, hown, hlocks, hN⟩ := id hC
  have hj : ∀ w ∈ jw, w.before args s = true := fun w h => hts w (List.mem_cons_of_mem _ h)
  intro x1 x7 x8 s0 M F B H locs ls hJ hl h
  unfold fQu_holds_93 at h
  refine lv_istore (lv' := [(9, .int s0), (0, .ref (A 3)), (1, .int x1), (7, .int x7), (8, .int x8)]) hx hb dQu_holds_93 hl (by decide) rfl (fun ls hl => ?_)
  refine lv_aload_n hx hb dQu_holds_95 rfl (lv_at hl 1 rfl) ?_
  refine va_get (D := (dC, dI)) (ci := 3) (v := .ref (A 4)) (C := RQu) (T := TQu) (N := 10) hx hb hj iQu hown hJ.1 hJ.2.1 3 rfl rfl 0 (by decide) (hj _ jw_63) (fun _ h9 => h9) rfl dQu_holds_96 ?_
  refine lv_aload_n hx hb dQu_holds_99 rfl (lv_at hl 1 rfl) ?_
  refine va_get (D := (dC, dI)) (ci := 3) (v := .ref (A 10)) (C := RQu) (T := TQu) (N := 10) hx hb hj iQu hown hJ.1 hJ.2.1 3 rfl rfl 1 (by decide) (hj _ jw_65) (fun _ h9 => h9) rfl dQu_holds_100 ?_
  refine lv_iload hx hb dQu_holds_103 (lv_at hl 4 rfl) ?_
  obtain ⟨hi10, h⟩ := jib_h h
  refine jald_10 hx hb hJ hi10 dQu_holds_105 ?_
  refine lv_iload hx hb dQu_holds_106 (lv_at hl 0 rfl) ?_
  refine lv_aload_n hx hb dQu_holds_108 rfl (lv_at hl 1 rfl) ?_
  refine va_get (D := (dC, dI)) (ci := 3) (v := .ref (A 15)) (C := RQu) (T := TQu) (N := 10) hx hb hj iQu hown hJ.1 hJ.2.1 3 rfl rfl 6 (by decide) (hj _ jw_71) (fun _ h9 => h9) rfl dQu_holds_109 ?_
  refine lv_iload_n hx hb dQu_holds_112 rfl (lv_at hl 2 rfl) ?_
  obtain ⟨hi11, h⟩ := jib_h h
  refine jald_15 hx hb hJ hi11 dQu_holds_113 ?_
  obtain ⟨q12, hq12, h⟩ := jbi_h h
  refine jcalli (w' := fun B => jW cA A B M F) (va_runV (As := [.int (M 10 x8.toNatClampNeg), .int s0, .int (M 15 x1.toNatClampNeg)]) (rest := []) ⟨hx, hb, hml, hown, hts⟩ (cTa_value l dC dI cA A (M 10 x8.toNatClampNeg) s0 (M 15 x1.toNatClampNeg) M F B H.size hq12) (cwV 3 hts (jgoodV jw_536 jw_330 jw_331 jw_5 jw_332) rfl rfl rfl (by decide +kernel) ⟨Nat.le_of_ble_eq_true rfl, Nat.le_of_ble_eq_true rfl⟩) (jpreV hN hJ (ci := 4) (q0 := 4) rfl rfl) rfl rfl hl.1 rfl (lv_room (Nat.le_of_ble_eq_true rfl)) dQu_holds_114 ⟨Nat.zero_le _, Nat.zero_le _⟩) hA hJ (fun B H locs hJ => ?_)
  refine lv_istore (lv' := [(10, .int q12), (9, .int s0), (0, .ref (A 3)), (1, .int x1), (7, .int x7), (8, .int x8)]) hx hb dQu_holds_117 hl (by decide) rfl (fun ls hl => ?_)
  refine lv_aload_n hx hb dQu_holds_119 rfl (lv_at hl 2 rfl) ?_
  refine va_get (D := (dC, dI)) (ci := 3) (v := .ref (A 11)) (C := RQu) (T := TQu) (N := 10) hx hb hj iQu hown hJ.1 hJ.2.1 3 rfl rfl 2 (by decide) (hj _ jw_66) (fun _ h9 => h9) rfl dQu_holds_120 ?_
  refine lv_iload_n hx hb dQu_holds_123 rfl (lv_at hl 3 rfl) ?_
  obtain ⟨hi13, h⟩ := jib_h h
  refine jald_11 hx hb hJ hi13 dQu_holds_124 ?_
  refine lv_iconst (v := 2) hx hb dQu_holds_125 (by decide) ?_
  refine lv_icmp_ne (tgt := 144) hx hb dQu_holds_126 (by decide) (fun c14 => ?_) (fun c14 => ?_)
  · replace h := jif_f c14 h
    refine lv_iload hx hb dQu_holds_144 (lv_at hl 4 rfl) ?_
    refine lv_iload hx hb dQu_holds_146 (lv_at hl 0 rfl) ?_
    refine lv_icmp_ne (tgt := 155) hx hb dQu_holds_148 (by decide) (fun c15 => ?_) (fun c15 => ?_)
    · replace h := jif_f c15 h
      refine lv_iconst (v := 0) hx hb dQu_holds_155 (by decide) ?_
      exact jreti (u := B) hx hb hr rfl hlocks hJ dQu_holds_156 (Option.some.inj h)
    · replace h := jif_t c15 h
      refine lv_iconst (v := 1) hx hb dQu_holds_151 (by decide) ?_
      refine lv_goto (tgt := 156) hx hb dQu_holds_152 (by decide) ?_
      exact jreti (u := B) hx hb hr rfl hlocks hJ dQu_holds_156 (Option.some.inj h)
  · replace h := jif_t c14 h
    refine lv_iload hx hb dQu_holds_129 (lv_at hl 4 rfl) ?_
    refine lv_iload hx hb dQu_holds_131 (lv_at hl 0 rfl) ?_
    refine lv_icmp_ge (tgt := 140) hx hb dQu_holds_133 (by decide) (fun c16 => ?_) (fun c16 => ?_)
    · replace h := jif_t c16 h
      refine lv_iconst (v := 0) hx hb dQu_holds_140 (by decide) ?_
      refine lv_goto (tgt := 156) hx hb dQu_holds_141 (by decide) ?_
      exact jreti (u := B) hx hb hr rfl hlocks hJ dQu_holds_156 (Option.some.inj h)
    · replace h := jif_f c16 h
      refine lv_iconst (v := 1) hx hb dQu_holds_136 (by decide) ?_
      refine lv_goto (tgt := 156) hx hb dQu_holds_137 (by decide) ?_
      exact jreti (u := B) hx hb hr rfl hlocks hJ dQu_holds_156 (Option.some.inj h)
set_option maxHeartbeats 4000000 in
set_option maxRecDepth 100000 in
theorem uQu_holds_20 {p : Program} {e : Env} {s : State} {m : MethodId} {args : Array Value} {below : List Frame} {meth : Method} {c : Code} (l : Launch) (dC : Nat → ClassId) (dI : Nat → Nat → Nat) (cA : ClassId) (A : Nat → Nat) (Ap : Nat → Prop) (hC : jAt p s m args meth c bQu_holds 11 (some .boolean) wQu_holds RQu) (hA : ∀ q : Nat, s.heap.size ≤ q → Ap q) {r : Int32} : ∀ (x1 x2 x3 x4 x5 s0 : Int32) (M : jM) (F : jF) (B : Nat → Nat) (H : Heap) (locs : List Loc) (ls : Array Slot), jH (dC, dI) jCl [(cA, .int)] (jW cA A B M F) Ap s H locs → lv_has ls 11 [(0, .ref (A 3)), (1, .int x1), (2, .int x2), (3, .int x3), (4, .int x4), (5, .int x5)] → fQu_holds_20 x1 x2 x3 x4 x5 s0 M F = some r → W p l e (headSpec wQu_holds rQu_holds).room s m args below meth c H locs 0 0 (jQi below (dC, dI) jCl [(cA, .int)] (fun B => jW cA A B M F) Ap args s r) (F0 m 20 ls [.int s0]) := by
  obtain ⟨hx, hb, hml, hr, hts, hown, hlocks, hN⟩ := id hC
  have hj : ∀ w ∈ jw, w.before args s = true := fun w h => hts w (List.mem_cons_of_mem _ h)
  intro x1 x2 x3 x4 x5 s0 M F B H locs ls hJ hl h
  unfold fQu_holds_20 at h
  refine lv_istore (lv' := [(6, .int s0), (0, .ref (A 3)), (1, .int x1), (2, .int x2), (3, .int x3), (4, .int x4), (5, .int x5)]) hx hb dQu_holds_20 hl (by decide) rfl (fun ls hl => ?_)
  refine lv_aload_n hx hb dQu_holds_22 rfl (lv_at hl 1 rfl) ?_
  refine va_get (D := (dC, dI)) (ci := 3) (v := .ref (A 4)) (C := RQu) (T := TQu) (N := 10) hx hb hj iQu hown hJ.1 hJ.2.1 3 rfl rfl 0 (by decide) (hj _ jw_63) (fun _ h9 => h9) rfl dQu_holds_23 ?_
  refine lv_aload_n hx hb dQu_holds_26 rfl (lv_at hl 1 rfl) ?_
  refine va_get (D := (dC, dI)) (ci := 3) (v := .ref (A 10)) (C := RQu) (T := TQu) (N := 10) hx hb hj iQu hown hJ.1 hJ.2.1 3 rfl rfl 1 (by decide) (hj _ jw_65) (fun _ h9 => h9) rfl dQu_holds_27 ?_
  refine lv_iload hx hb dQu_holds_30 (lv_at hl 6 rfl) ?_
  obtain ⟨hi3, h⟩ := jib_h h
  refine jald_10 hx hb hJ hi3 dQu_holds_32 ?_
  refine lv_iload hx hb dQu_holds_33 (lv_at hl 0 rfl) ?_
  refine lv_aload_n hx hb dQu_holds_35 rfl (lv_at hl 1 rfl) ?_
  refine va_get (D := (dC, dI)) (ci := 3) (v := .ref (A 13)) (C := RQu) (T := TQu) (N := 10) hx hb hj iQu hown hJ.1 hJ.2.1 3 rfl rfl 4 (by decide) (hj _ jw_69) (fun _ h9 => h9) rfl dQu_holds_36 ?_
  refine lv_iload_n hx hb dQu_holds_39 rfl (lv_at hl 2 rfl) ?_
  obtain ⟨hi4, h⟩ := jib_h h
  refine jald_13 hx hb hJ hi4 dQu_holds_40 ?_
  obtain ⟨q5, hq5, h⟩ := jbi_h h
  refine jcalli (w' := fun B => jW cA A B M F) (va_runV (As := [.int (M 10 x5.toNatClampNeg), .int s0, .int (M 13 x1.toNatClampNeg)]) (rest := []) ⟨hx, hb, hml, hown, hts⟩ (cTa_value l dC dI cA A (M 10 x5.toNatClampNeg) s0 (M 13 x1.toNatClampNeg) M F B H.size hq5) (cwV 3 hts (jgoodV jw_536 jw_330 jw_331 jw_5 jw_332) rfl rfl rfl (by decide +kernel) ⟨Nat.le_of_ble_eq_true rfl, Nat.le_of_ble_eq_true rfl⟩) (jpreV hN hJ (ci := 4) (q0 := 4) rfl rfl) rfl rfl hl.1 rfl (lv_room (Nat.le_of_ble_eq_true rfl)) dQu_holds_41 ⟨Nat.zero_le _, Nat.zero_le _⟩) hA hJ (fun B H locs hJ => ?_)
  refine lv_istore (lv' := [(7, .int q5), (6, .int s0), (0, .ref (A 3)), (1, .int x1), (2, .int x2), (3, .int x3), (4, .int x4), (5, .int x5)]) hx hb dQu_holds_44 hl (by decide) rfl (fun ls hl => ?_)
  refine lv_aload_n hx hb dQu_holds_46 rfl (lv_at hl 2 rfl) ?_
  refine va_get (D := (dC, dI)) (ci := 3) (v := .ref (A 11)) (C := RQu) (T := TQu) (N := 10) hx hb hj iQu hown hJ.1 hJ.2.1 3 rfl rfl 2 (by decide) (hj _ jw_66) (fun _ h9 => h9) rfl dQu_holds_47 ?_
  refine lv_iload_n hx hb dQu_holds_50 rfl (lv_at hl 3 rfl) ?_
  obtain ⟨hi6, h⟩ := jib_h h
  refine jald_11 hx hb hJ hi6 dQu_holds_51 ?_
  refine lv_iconst (v := 1) hx hb dQu_holds_52 (by decide) ?_
  refine lv_icmp_ne (tgt := 73) hx hb dQu_holds_53 (by decide) (fun c7 => ?_) (fun c7 => ?_)
  · replace h := jif_f c7 h
    refine lv_aload_n hx hb dQu_holds_73 rfl (lv_at hl 2 rfl) ?_
    refine va_get (D := (dC, dI)) (ci := 3) (v := .ref (A 14)) (C := RQu) (T := TQu) (N := 10) hx hb hj iQu hown hJ.1 hJ.2.1 3 rfl rfl 5 (by decide) (hj _ jw_70) (fun _ h9 => h9) rfl dQu_holds_74 ?_
    refine lv_iload_n hx hb dQu_holds_77 rfl (lv_at hl 3 rfl) ?_
    obtain ⟨hi8, h⟩ := jib_h h
    refine jald_14 hx hb hJ hi8 dQu_holds_78 ?_
    refine lv_istore (lv' := [(8, .int (M 14 x1.toNatClampNeg)), (7, .int q5), (6, .int s0), (0, .ref (A 3)), (1, .int x1), (2, .int x2), (3, .int x3), (4, .int x4), (5, .int x5)]) hx hb dQu_holds_79 hl (by decide) rfl (fun ls hl => ?_)
    refine lv_iload hx hb dQu_holds_81 (lv_at hl 0 rfl) ?_
    refine lv_iload_n hx hb dQu_holds_83 rfl (lv_at hl 5 rfl) ?_
    refine lv_icmp_ne (tgt := 91) hx hb dQu_holds_84 (by decide) (fun c9 => ?_) (fun c9 => ?_)
    · replace h := jif_f c9 h
      refine lv_iload hx hb dQu_holds_91 (lv_at hl 7 rfl) ?_
      exact uQu_holds_93 l dC dI cA A Ap hC hA _ _ _ _ _ _ _ _ _ _ hJ (lv_sub hl [3, 4, 1, 0] rfl) h
    · replace h := jif_t c9 h
      refine lv_iload_n hx hb dQu_holds_87 rfl (lv_at hl 6 rfl) ?_
      refine lv_goto (tgt := 93) hx hb dQu_holds_88 (by decide) ?_
      exact uQu_holds_93 l dC dI cA A Ap hC hA _ _ _ _ _ _ _ _ _ _ hJ (lv_sub hl [3, 4, 1, 0] rfl) h
  · replace h := jif_t c7 h
    refine lv_iload hx hb dQu_holds_56 (lv_at hl 0 rfl) ?_
    refine lv_aload_n hx hb dQu_holds_58 rfl (lv_at hl 2 rfl) ?_
    refine va_get (D := (dC, dI)) (ci := 3) (v := .ref (A 15)) (C := RQu) (T := TQu) (N := 10) hx hb hj iQu hown hJ.1 hJ.2.1 3 rfl rfl 6 (by decide) (hj _ jw_71) (fun _ h9 => h9) rfl dQu_holds_59 ?_
    refine lv_iload_n hx hb dQu_holds_62 rfl (lv_at hl 3 rfl) ?_
    obtain ⟨hi17, h⟩ := jib_h h
    refine jald_15 hx hb hJ hi17 dQu_holds_63 ?_
    refine lv_icmp_ne (tgt := 71) hx hb dQu_holds_64 (by decide) (fun c18 => ?_) (fun c18 => ?_)
    · replace h := jif_f c18 h
      refine lv_iconst (v := 0) hx hb dQu_holds_71 (by decide) ?_
      exact jreti (u := B) hx hb hr rfl hlocks hJ dQu_holds_72 (Option.some.inj h)
    · replace h := jif_t c18 h
      refine lv_iconst (v := 1) hx hb dQu_holds_67 (by decide) ?_
      refine lv_goto (tgt := 72) hx hb dQu_holds_68 (by decide) ?_
      exact jreti (u := B) hx hb hr rfl hlocks hJ dQu_holds_72 (Option.some.inj h)
set_option maxHeartbeats 4000000 in
set_option maxRecDepth 100000 in
theorem uQu_holds_0 {p : Program} {e : Env} {s : State} {m : MethodId} {args : Array Value} {below : List Frame} {meth : Method} {c : Code} (l : Launch) (dC : Nat → ClassId) (dI : Nat → Nat → Nat) (cA : ClassId) (A : Nat → Nat) (Ap : Nat → Prop) (hC : jAt p s m args meth c bQu_holds 11 (some .boolean) wQu_holds RQu) (hA : ∀ q : Nat, s.heap.size ≤ q → Ap q) {r : Int32} : ∀ (x1 x2 x3 x4 : Int32) (M : jM) (F : jF) (B : Nat → Nat) (H : Heap) (locs : List Loc) (ls : Array Slot), jH (dC, dI) jCl [(cA, .int)] (jW cA A B M F) Ap s H locs → lv_has ls 11 [(0, .ref (A 3)), (1, .int x1), (2, .int x2), (3, .int x3), (4, .int x4)] → fQu_holds_0 x1 x2 x3 x4 M F = some r → W p l e (headSpec wQu_holds rQu_holds).room s m args below meth c H locs 0 0 (jQi below (dC, dI) jCl [(cA, .int)] (fun B => jW cA A B M F) Ap args s r) (F0 m 0 ls []) := by
  obtain ⟨hx, hb, hml, hr, hts, hown, hlocks, hN⟩ := id hC
  have hj : ∀ w ∈ jw, w.before args s = true := fun w h => hts w (List.mem_cons_of_mem _ h)
  intro x1 x2 x3 x4 M F B H locs ls hJ hl h
  unfold fQu_holds_0 at h
  refine lv_aload_n hx hb dQu_holds_0 rfl (lv_at hl 0 rfl) ?_
  refine va_get (D := (dC, dI)) (ci := 3) (v := .ref (A 12)) (C := RQu) (T := TQu) (N := 10) hx hb hj iQu hown hJ.1 hJ.2.1 3 rfl rfl 3 (by decide) (hj _ jw_68) (fun _ h9 => h9) rfl dQu_holds_1 ?_
  refine lv_iload_n hx hb dQu_holds_4 rfl (lv_at hl 1 rfl) ?_
  obtain ⟨hi1, h⟩ := jib_h h
  refine jald_12 hx hb hJ hi1 dQu_holds_5 ?_
  refine lv_istore (lv' := [(5, .int (M 12 x1.toNatClampNeg)), (0, .ref (A 3)), (1, .int x1), (2, .int x2), (3, .int x3), (4, .int x4)]) hx hb dQu_holds_6 hl (by decide) rfl (fun ls hl => ?_)
  refine lv_iload hx hb dQu_holds_8 (lv_at hl 0 rfl) ?_
  refine lv_iload_n hx hb dQu_holds_10 rfl (lv_at hl 3 rfl) ?_
  refine lv_icmp_ne (tgt := 18) hx hb dQu_holds_11 (by decide) (fun c2 => ?_) (fun c2 => ?_)
  · replace h := jif_f c2 h
    refine lv_iload hx hb dQu_holds_18 (lv_at hl 5 rfl) ?_
    exact uQu_holds_20 l dC dI cA A Ap hC hA _ _ _ _ _ _ _ _ _ _ _ _ hJ (lv_sub hl [1, 2, 3, 4, 5, 0] rfl) h
  · replace h := jif_t c2 h
    refine lv_iload_n hx hb dQu_holds_14 rfl (lv_at hl 4 rfl) ?_
    refine lv_goto (tgt := 20) hx hb dQu_holds_15 (by decide) ?_
    exact uQu_holds_20 l dC dI cA A Ap hC hA _ _ _ _ _ _ _ _ _ _ _ _ hJ (lv_sub hl [1, 2, 3, 4, 5, 0] rfl) h
set_option maxHeartbeats 4000000 in
set_option maxRecDepth 100000 in
theorem cQu_holds (l : Launch) (dC : Nat → ClassId) (dI : Nat → Nat → Nat) (cA : ClassId) (A : Nat → Nat) (x1 : Int32) (x2 : Int32) (x3 : Int32) (x4 : Int32) (M : jM) (F : jF) (B : Nat → Nat) (sz : Nat) {r : Int32} (h : fQu_holds x1 x2 x3 x4 M F = some r) : jCi l yQu_holds wQu_holds rQu_holds (dC, dI) jCl [(cA, .int)] [.ref (A 3), .int x1, .int x2, .int x3, .int x4] (jW cA A B M F) sz r (fun B => jW cA A B M F) :=
  jOf (Qc := fun Ap => va_Qi (fun q (_ : Nat → Nat) => q = r) (jPost (dC, dI) jCl [(cA, .int)] (fun B => jW cA A B M F) Ap) Ap) (by decide) rfl (Nat.le_of_ble_eq_true rfl) (fun p e s m below meth c Ap ls hC hA hJ hl => uQu_holds_0 l dC dI cA A Ap hC hA _ _ _ _ _ _ _ _ _ _ hJ (lv_sub hl [0, 1, 2, 3, 4] rfl) h)
end
section
abbrev bJh_isTable : ByteArray := prog_1_method_18_code
abbrev yJh_isTable : MethodName := ⟨RJh, "isTable", "(I)Z"⟩
abbrev wJh_isTable : List Cond := .code yJh_isTable bJh_isTable 1 (some .boolean) :: jw
theorem dJh_isTable_0 : decode bJh_isTable 0 = .ok (.iload_n 0, 1) := by decide +kernel
theorem dJh_isTable_1 : decode bJh_isTable 1 = .ok (.ifCond .lt 13, 3) := by decide +kernel
theorem dJh_isTable_4 : decode bJh_isTable 4 = .ok (.iload_n 0, 1) := by decide +kernel
theorem dJh_isTable_5 : decode bJh_isTable 5 = .ok (.bipush 6, 2) := by decide +kernel
theorem dJh_isTable_7 : decode bJh_isTable 7 = .ok (.if_icmp .ge 7, 3) := by decide +kernel
theorem dJh_isTable_10 : decode bJh_isTable 10 = .ok (.iconst 1, 1) := by decide +kernel
theorem dJh_isTable_11 : decode bJh_isTable 11 = .ok (.goto 4, 3) := by decide +kernel
theorem dJh_isTable_14 : decode bJh_isTable 14 = .ok (.iconst 0, 1) := by decide +kernel
theorem dJh_isTable_15 : decode bJh_isTable 15 = .ok (.ireturn, 1) := by decide +kernel
abbrev rJh_isTable : Room := { frames := 0, cells := 0, slots := 0, locals := 0 }
def fJh_isTable_0 (x0 : Int32) (M : jM) (F : jF) : Option Int32 := (if x0 < 0 then some 0 else (if 6 ≤ x0 then some 0 else some 1))
abbrev fJh_isTable (x0 : Int32) (M : jM) (F : jF) : Option Int32 := fJh_isTable_0 x0 M F
set_option maxHeartbeats 4000000 in
set_option maxRecDepth 100000 in
theorem uJh_isTable_0 {p : Program} {e : Env} {s : State} {m : MethodId} {args : Array Value} {below : List Frame} {meth : Method} {c : Code} (l : Launch) (dC : Nat → ClassId) (dI : Nat → Nat → Nat) (cA : ClassId) (A : Nat → Nat) (Ap : Nat → Prop) (hC : jAt p s m args meth c bJh_isTable 1 (some .boolean) wJh_isTable RJh) (hA : ∀ q : Nat, s.heap.size ≤ q → Ap q) {r : Int32} : ∀ (x0 : Int32) (M : jM) (F : jF) (B : Nat → Nat) (H : Heap) (locs : List Loc) (ls : Array Slot), jH (dC, dI) jCl [(cA, .int)] (jW cA A B M F) Ap s H locs → lv_has ls 1 [(0, .int x0)] → fJh_isTable_0 x0 M F = some r → W p l e (headSpec wJh_isTable rJh_isTable).room s m args below meth c H locs 0 0 (jQi below (dC, dI) jCl [(cA, .int)] (fun B => jW cA A B M F) Ap args s r) (F0 m 0 ls []) := by
  obtain ⟨hx, hb, hml, hr, hts, hown, hlocks, hN⟩ := id hC
  have hj : ∀ w ∈ jw, w.before args s = true := fun w h => hts w (List.mem_cons_of_mem _ h)
  intro x0 M F B H locs ls hJ hl h
  unfold fJh_isTable_0 at h
  refine lv_iload_n hx hb dJh_isTable_0 rfl (lv_at hl 0 rfl) ?_
  refine lv_if_lt (tgt := 14) hx hb dJh_isTable_1 (by decide) (fun c1 => ?_) (fun c1 => ?_)
  · replace h := jif_t c1 h
    refine lv_iconst (v := 0) hx hb dJh_isTable_14 (by decide) ?_
    exact jreti (u := B) hx hb hr rfl hlocks hJ dJh_isTable_15 (Option.some.inj h)
  · replace h := jif_f c1 h
    refine lv_iload_n hx hb dJh_isTable_4 rfl (lv_at hl 0 rfl) ?_
    refine lv_bipush (v := 6) hx hb dJh_isTable_5 (by decide) ?_
    refine lv_icmp_ge (tgt := 14) hx hb dJh_isTable_7 (by decide) (fun c2 => ?_) (fun c2 => ?_)
    · replace h := jif_t c2 h
      refine lv_iconst (v := 0) hx hb dJh_isTable_14 (by decide) ?_
      exact jreti (u := B) hx hb hr rfl hlocks hJ dJh_isTable_15 (Option.some.inj h)
    · replace h := jif_f c2 h
      refine lv_iconst (v := 1) hx hb dJh_isTable_10 (by decide) ?_
      refine lv_goto (tgt := 15) hx hb dJh_isTable_11 (by decide) ?_
      exact jreti (u := B) hx hb hr rfl hlocks hJ dJh_isTable_15 (Option.some.inj h)
set_option maxHeartbeats 4000000 in
set_option maxRecDepth 100000 in
theorem cJh_isTable (l : Launch) (dC : Nat → ClassId) (dI : Nat → Nat → Nat) (cA : ClassId) (A : Nat → Nat) (x0 : Int32) (M : jM) (F : jF) (B : Nat → Nat) (sz : Nat) {r : Int32} (h : fJh_isTable x0 M F = some r) : jCi l yJh_isTable wJh_isTable rJh_isTable (dC, dI) jCl [(cA, .int)] [.int x0] (jW cA A B M F) sz r (fun B => jW cA A B M F) :=
  jOf (Qc := fun Ap => va_Qi (fun q (_ : Nat → Nat) => q = r) (jPost (dC, dI) jCl [(cA, .int)] (fun B => jW cA A B M F) Ap) Ap) (by decide) rfl (Nat.le_of_ble_eq_true rfl) (fun p e s m below meth c Ap ls hC hA hJ hl => uJh_isTable_0 l dC dI cA A Ap hC hA _ _ _ _ _ _ _ hJ (lv_sub hl [0] rfl) h)
abbrev bJh_isIn : ByteArray := prog_1_method_19_code
abbrev yJh_isIn : MethodName := ⟨RJh, "isIn", "(II)Z"⟩
abbrev wJh_isIn : List Cond := .code yJh_isIn bJh_isIn 2 (some .boolean) :: jw
theorem dJh_isIn_0 : decode bJh_isIn 0 = .ok (.iload_n 0, 1) := by decide +kernel
theorem dJh_isIn_1 : decode bJh_isIn 1 = .ok (.iload_n 1, 1) := by decide +kernel
theorem dJh_isIn_2 : decode bJh_isIn 2 = .ok (.iushr, 1) := by decide +kernel
theorem dJh_isIn_3 : decode bJh_isIn 3 = .ok (.iconst 1, 1) := by decide +kernel
theorem dJh_isIn_4 : decode bJh_isIn 4 = .ok (.iand, 1) := by decide +kernel
theorem dJh_isIn_5 : decode bJh_isIn 5 = .ok (.ifCond .eq 7, 3) := by decide +kernel
theorem dJh_isIn_8 : decode bJh_isIn 8 = .ok (.iconst 1, 1) := by decide +kernel
theorem dJh_isIn_9 : decode bJh_isIn 9 = .ok (.goto 4, 3) := by decide +kernel
theorem dJh_isIn_12 : decode bJh_isIn 12 = .ok (.iconst 0, 1) := by decide +kernel
theorem dJh_isIn_13 : decode bJh_isIn 13 = .ok (.ireturn, 1) := by decide +kernel
abbrev rJh_isIn : Room := { frames := 0, cells := 0, slots := 0, locals := 0 }
def fJh_isIn_0 (x0 : Int32) (x1 : Int32) (M : jM) (F : jF) : Option Int32 := (if ((jus x0 x1) &&& 1) = 0 then some 0 else some 1)
abbrev fJh_isIn (x0 : Int32) (x1 : Int32) (M : jM) (F : jF) : Option Int32 := fJh_isIn_0 x0 x1 M F
set_option maxHeartbeats 4000000 in
set_option maxRecDepth 100000 in
theorem uJh_isIn_0 {p : Program} {e : Env} {s : State} {m : MethodId} {args : Array Value} {below : List Frame} {meth : Method} {c : Code} (l : Launch) (dC : Nat → ClassId) (dI : Nat → Nat → Nat) (cA : ClassId) (A : Nat → Nat) (Ap : Nat → Prop) (hC : jAt p s m args meth c bJh_isIn 2 (some .boolean) wJh_isIn RJh) (hA : ∀ q : Nat, s.heap.size ≤ q → Ap q) {r : Int32} : ∀ (x0 x1 : Int32) (M : jM) (F : jF) (B : Nat → Nat) (H : Heap) (locs : List Loc) (ls : Array Slot), jH (dC, dI) jCl [(cA, .int)] (jW cA A B M F) Ap s H locs → lv_has ls 2 [(0, .int x0), (1, .int x1)] → fJh_isIn_0 x0 x1 M F = some r → W p l e (headSpec wJh_isIn rJh_isIn).room s m args below meth c H locs 0 0 (jQi below (dC, dI) jCl [(cA, .int)] (fun B => jW cA A B M F) Ap args s r) (F0 m 0 ls []) := by
  obtain ⟨hx, hb, hml, hr, hts, hown, hlocks, hN⟩ := id hC
  have hj : ∀ w ∈ jw, w.before args s = true := fun w h => hts w (List.mem_cons_of_mem _ h)
  intro x0 x1 M F B H locs ls hJ hl h
  unfold fJh_isIn_0 at h
  refine lv_iload_n hx hb dJh_isIn_0 rfl (lv_at hl 0 rfl) ?_
  refine lv_iload_n hx hb dJh_isIn_1 rfl (lv_at hl 1 rfl) ?_
  refine lv_iushr (v := jus x0 x1) hx hb dJh_isIn_2 rfl ?_
  refine lv_iconst (v := 1) hx hb dJh_isIn_3 (by decide) ?_
  refine lv_iand hx hb dJh_isIn_4 ?_
  refine lv_if_eq (tgt := 12) hx hb dJh_isIn_5 (by decide) (fun c1 => ?_) (fun c1 => ?_)
  · replace h := jif_t c1 h
    refine lv_iconst (v := 0) hx hb dJh_isIn_12 (by decide) ?_
    exact jreti (u := B) hx hb hr rfl hlocks hJ dJh_isIn_13 (Option.some.inj h)
  · replace h := jif_f c1 h
    refine lv_iconst (v := 1) hx hb dJh_isIn_8 (by decide) ?_
    refine lv_goto (tgt := 13) hx hb dJh_isIn_9 (by decide) ?_
    exact jreti (u := B) hx hb hr rfl hlocks hJ dJh_isIn_13 (Option.some.inj h)
set_option maxHeartbeats 4000000 in
set_option maxRecDepth 100000 in
theorem cJh_isIn (l : Launch) (dC : Nat → ClassId) (dI : Nat → Nat → Nat) (cA : ClassId) (A : Nat → Nat) (x0 : Int32) (x1 : Int32) (M : jM) (F : jF) (B : Nat → Nat) (sz : Nat) {r : Int32} (h : fJh_isIn x0 x1 M F = some r) : jCi l yJh_isIn wJh_isIn rJh_isIn (dC, dI) jCl [(cA, .int)] [.int x0, .int x1] (jW cA A B M F) sz r (fun B => jW cA A B M F) :=
  jOf (Qc := fun Ap => va_Qi (fun q (_ : Nat → Nat) => q = r) (jPost (dC, dI) jCl [(cA, .int)] (fun B => jW cA A B M F) Ap) Ap) (by decide) rfl (Nat.le_of_ble_eq_true rfl) (fun p e s m below meth c Ap ls hC hA hJ hl => uJh_isIn_0 l dC dI cA A Ap hC hA _ _ _ _ _ _ _ _ hJ (lv_sub hl [0, 1] rfl) h)
abbrev bJh_rowIn : ByteArray := prog_1_method_20_code
abbrev yJh_rowIn : MethodName := ⟨RJh, "rowIn", "(II)I"⟩
abbrev wJh_rowIn : List Cond := .code yJh_rowIn bJh_rowIn 2 (some .int) :: jw
theorem dJh_rowIn_0 : decode bJh_rowIn 0 = .ok (.iload_n 0, 1) := by decide +kernel
theorem dJh_rowIn_1 : decode bJh_rowIn 1 = .ok (.iload_n 1, 1) := by decide +kernel
theorem dJh_rowIn_2 : decode bJh_rowIn 2 = .ok (.iconst 5, 1) := by decide +kernel
theorem dJh_rowIn_3 : decode bJh_rowIn 3 = .ok (.imul, 1) := by decide +kernel
theorem dJh_rowIn_4 : decode bJh_rowIn 4 = .ok (.iushr, 1) := by decide +kernel
theorem dJh_rowIn_5 : decode bJh_rowIn 5 = .ok (.bipush 31, 2) := by decide +kernel
theorem dJh_rowIn_7 : decode bJh_rowIn 7 = .ok (.iand, 1) := by decide +kernel
theorem dJh_rowIn_8 : decode bJh_rowIn 8 = .ok (.ireturn, 1) := by decide +kernel
abbrev rJh_rowIn : Room := { frames := 0, cells := 0, slots := 0, locals := 0 }
def fJh_rowIn_0 (x0 : Int32) (x1 : Int32) (M : jM) (F : jF) : Option Int32 := some ((jus x0 (x1 * 5)) &&& 31)
abbrev fJh_rowIn (x0 : Int32) (x1 : Int32) (M : jM) (F : jF) : Option Int32 := fJh_rowIn_0 x0 x1 M F
set_option maxHeartbeats 4000000 in
set_option maxRecDepth 100000 in
theorem uJh_rowIn_0 {p : Program} {e : Env} {s : State} {m : MethodId} {args : Array Value} {below : List Frame} {meth : Method} {c : Code} (l : Launch) (dC : Nat → ClassId) (dI : Nat → Nat → Nat) (cA : ClassId) (A : Nat → Nat) (Ap : Nat → Prop) (hC : jAt p s m args meth c bJh_rowIn 2 (some .int) wJh_rowIn RJh) (hA : ∀ q : Nat, s.heap.size ≤ q → Ap q) {r : Int32} : ∀ (x0 x1 : Int32) (M : jM) (F : jF) (B : Nat → Nat) (H : Heap) (locs : List Loc) (ls : Array Slot), jH (dC, dI) jCl [(cA, .int)] (jW cA A B M F) Ap s H locs → lv_has ls 2 [(0, .int x0), (1, .int x1)] → fJh_rowIn_0 x0 x1 M F = some r → W p l e (headSpec wJh_rowIn rJh_rowIn).room s m args below meth c H locs 0 0 (jQi below (dC, dI) jCl [(cA, .int)] (fun B => jW cA A B M F) Ap args s r) (F0 m 0 ls []) := by
  obtain ⟨hx, hb, hml, hr, hts, hown, hlocks, hN⟩ := id hC
  have hj : ∀ w ∈ jw, w.before args s = true := fun w h => hts w (List.mem_cons_of_mem _ h)
  intro x0 x1 M F B H locs ls hJ hl h
  unfold fJh_rowIn_0 at h
  refine lv_iload_n hx hb dJh_rowIn_0 rfl (lv_at hl 0 rfl) ?_
  refine lv_iload_n hx hb dJh_rowIn_1 rfl (lv_at hl 1 rfl) ?_
  refine lv_iconst (v := 5) hx hb dJh_rowIn_2 (by decide) ?_
  refine lv_imul hx hb dJh_rowIn_3 ?_
  refine lv_iushr (v := jus x0 (x1 * 5)) hx hb dJh_rowIn_4 rfl ?_
  refine lv_bipush (v := 31) hx hb dJh_rowIn_5 (by decide) ?_
  refine lv_iand hx hb dJh_rowIn_7 ?_
  exact jreti (u := B) hx hb hr rfl hlocks hJ dJh_rowIn_8 (Option.some.inj h)
set_option maxHeartbeats 4000000 in
set_option maxRecDepth 100000 in
theorem cJh_rowIn (l : Launch) (dC : Nat → ClassId) (dI : Nat → Nat → Nat) (cA : ClassId) (A : Nat → Nat) (x0 : Int32) (x1 : Int32) (M : jM) (F : jF) (B : Nat → Nat) (sz : Nat) {r : Int32} (h : fJh_rowIn x0 x1 M F = some r) : jCi l yJh_rowIn wJh_rowIn rJh_rowIn (dC, dI) jCl [(cA, .int)] [.int x0, .int x1] (jW cA A B M F) sz r (fun B => jW cA A B M F) :=
  jOf (Qc := fun Ap => va_Qi (fun q (_ : Nat → Nat) => q = r) (jPost (dC, dI) jCl [(cA, .int)] (fun B => jW cA A B M F) Ap) Ap) (by decide) rfl (Nat.le_of_ble_eq_true rfl) (fun p e s m below meth c Ap ls hC hA hJ hl => uJh_rowIn_0 l dC dI cA A Ap hC hA _ _ _ _ _ _ _ _ hJ (lv_sub hl [0, 1] rfl) h)
abbrev bIn_bitCount : ByteArray := prog_11_method_49_code
abbrev yIn_bitCount : MethodName := ⟨RIn, "bitCount", "(I)I"⟩
abbrev wIn_bitCount : List Cond := .code yIn_bitCount bIn_bitCount 1 (some .int) :: jw
theorem dIn_bitCount_0 : decode bIn_bitCount 0 = .ok (.iload_n 0, 1) := by decide +kernel
theorem dIn_bitCount_1 : decode bIn_bitCount 1 = .ok (.iload_n 0, 1) := by decide +kernel
theorem dIn_bitCount_2 : decode bIn_bitCount 2 = .ok (.iconst 1, 1) := by decide +kernel
theorem dIn_bitCount_3 : decode bIn_bitCount 3 = .ok (.iushr, 1) := by decide +kernel
theorem dIn_bitCount_4 : decode bIn_bitCount 4 = .ok (.ldc_w 265, 3) := by decide +kernel
theorem dIn_bitCount_7 : decode bIn_bitCount 7 = .ok (.iand, 1) := by decide +kernel
theorem dIn_bitCount_8 : decode bIn_bitCount 8 = .ok (.isub, 1) := by decide +kernel
theorem dIn_bitCount_9 : decode bIn_bitCount 9 = .ok (.istore_n 0, 1) := by decide +kernel
theorem dIn_bitCount_10 : decode bIn_bitCount 10 = .ok (.iload_n 0, 1) := by decide +kernel
theorem dIn_bitCount_11 : decode bIn_bitCount 11 = .ok (.ldc_w 266, 3) := by decide +kernel
theorem dIn_bitCount_14 : decode bIn_bitCount 14 = .ok (.iand, 1) := by decide +kernel
theorem dIn_bitCount_15 : decode bIn_bitCount 15 = .ok (.iload_n 0, 1) := by decide +kernel
theorem dIn_bitCount_16 : decode bIn_bitCount 16 = .ok (.iconst 2, 1) := by decide +kernel
theorem dIn_bitCount_17 : decode bIn_bitCount 17 = .ok (.iushr, 1) := by decide +kernel
theorem dIn_bitCount_18 : decode bIn_bitCount 18 = .ok (.ldc_w 266, 3) := by decide +kernel
theorem dIn_bitCount_21 : decode bIn_bitCount 21 = .ok (.iand, 1) := by decide +kernel
theorem dIn_bitCount_22 : decode bIn_bitCount 22 = .ok (.iadd, 1) := by decide +kernel
theorem dIn_bitCount_23 : decode bIn_bitCount 23 = .ok (.istore_n 0, 1) := by decide +kernel
theorem dIn_bitCount_24 : decode bIn_bitCount 24 = .ok (.iload_n 0, 1) := by decide +kernel
theorem dIn_bitCount_25 : decode bIn_bitCount 25 = .ok (.iload_n 0, 1) := by decide +kernel
theorem dIn_bitCount_26 : decode bIn_bitCount 26 = .ok (.iconst 4, 1) := by decide +kernel
theorem dIn_bitCount_27 : decode bIn_bitCount 27 = .ok (.iushr, 1) := by decide +kernel
theorem dIn_bitCount_28 : decode bIn_bitCount 28 = .ok (.iadd, 1) := by decide +kernel
theorem dIn_bitCount_29 : decode bIn_bitCount 29 = .ok (.ldc_w 267, 3) := by decide +kernel
theorem dIn_bitCount_32 : decode bIn_bitCount 32 = .ok (.iand, 1) := by decide +kernel
theorem dIn_bitCount_33 : decode bIn_bitCount 33 = .ok (.istore_n 0, 1) := by decide +kernel
theorem dIn_bitCount_34 : decode bIn_bitCount 34 = .ok (.iload_n 0, 1) := by decide +kernel
theorem dIn_bitCount_35 : decode bIn_bitCount 35 = .ok (.iload_n 0, 1) := by decide +kernel
theorem dIn_bitCount_36 : decode bIn_bitCount 36 = .ok (.bipush 8, 2) := by decide +kernel
theorem dIn_bitCount_38 : decode bIn_bitCount 38 = .ok (.iushr, 1) := by decide +kernel
theorem dIn_bitCount_39 : decode bIn_bitCount 39 = .ok (.iadd, 1) := by decide +kernel
theorem dIn_bitCount_40 : decode bIn_bitCount 40 = .ok (.istore_n 0, 1) := by decide +kernel
theorem dIn_bitCount_41 : decode bIn_bitCount 41 = .ok (.iload_n 0, 1) := by decide +kernel
theorem dIn_bitCount_42 : decode bIn_bitCount 42 = .ok (.iload_n 0, 1) := by decide +kernel
theorem dIn_bitCount_43 : decode bIn_bitCount 43 = .ok (.bipush 16, 2) := by decide +kernel
theorem dIn_bitCount_45 : decode bIn_bitCount 45 = .ok (.iushr, 1) := by decide +kernel
theorem dIn_bitCount_46 : decode bIn_bitCount 46 = .ok (.iadd, 1) := by decide +kernel
theorem dIn_bitCount_47 : decode bIn_bitCount 47 = .ok (.istore_n 0, 1) := by decide +kernel
theorem dIn_bitCount_48 : decode bIn_bitCount 48 = .ok (.iload_n 0, 1) := by decide +kernel
theorem dIn_bitCount_49 : decode bIn_bitCount 49 = .ok (.bipush 63, 2) := by decide +kernel
theorem dIn_bitCount_51 : decode bIn_bitCount 51 = .ok (.iand, 1) := by decide +kernel
theorem dIn_bitCount_52 : decode bIn_bitCount 52 = .ok (.ireturn, 1) := by decide +kernel
abbrev rIn_bitCount : Room := { frames := 0, cells := 0, slots := 0, locals := 0 }
def fIn_bitCount_0 (x0 : Int32) (M : jM) (F : jF) : Option Int32 := some ((((((((x0 - ((jus x0 1) &&& 1431655765)) &&& 858993459) + ((jus (x0 - ((jus x0 1) &&& 1431655765)) 2) &&& 858993459)) + (jus (((x0 - ((jus x0 1) &&& 1431655765)) &&& 858993459) + ((jus (x0 - ((jus x0 1) &&& 1431655765)) 2) &&& 858993459)) 4)) &&& 252645135) + (jus (((((x0 - ((jus x0 1) &&& 1431655765)) &&& 858993459) + ((jus (x0 - ((jus x0 1) &&& 1431655765)) 2) &&& 858993459)) + (jus (((x0 - ((jus x0 1) &&& 1431655765)) &&& 858993459) + ((jus (x0 - ((jus x0 1) &&& 1431655765)) 2) &&& 858993459)) 4)) &&& 252645135) 8)) + (jus ((((((x0 - ((jus x0 1) &&& 1431655765)) &&& 858993459) + ((jus (x0 - ((jus x0 1) &&& 1431655765)) 2) &&& 858993459)) + (jus (((x0 - ((jus x0 1) &&& 1431655765)) &&& 858993459) + ((jus (x0 - ((jus x0 1) &&& 1431655765)) 2) &&& 858993459)) 4)) &&& 252645135) + (jus (((((x0 - ((jus x0 1) &&& 1431655765)) &&& 858993459) + ((jus (x0 - ((jus x0 1) &&& 1431655765)) 2) &&& 858993459)) + (jus (((x0 - ((jus x0 1) &&& 1431655765)) &&& 858993459) + ((jus (x0 - ((jus x0 1) &&& 1431655765)) 2) &&& 858993459)) 4)) &&& 252645135) 8)) 16)) &&& 63)
abbrev fIn_bitCount (x0 : Int32) (M : jM) (F : jF) : Option Int32 := fIn_bitCount_0 x0 M F
set_option maxHeartbeats 4000000 in
set_option maxRecDepth 100000 in
theorem uIn_bitCount_0 {p : Program} {e : Env} {s : State} {m : MethodId} {args : Array Value} {below : List Frame} {meth : Method} {c : Code} (l : Launch) (dC : Nat → ClassId) (dI : Nat → Nat → Nat) (cA : ClassId) (A : Nat → Nat) (Ap : Nat → Prop) (hC : jAt p s m args meth c bIn_bitCount 1 (some .int) wIn_bitCount RIn) (hA : ∀ q : Nat, s.heap.size ≤ q → Ap q) {r : Int32} : ∀ (x0 : Int32) (M : jM) (F : jF) (B : Nat → Nat) (H : Heap) (locs : List Loc) (ls : Array Slot), jH (dC, dI) jCl [(cA, .int)] (jW cA A B M F) Ap s H locs → lv_has ls 1 [(0, .int x0)] → fIn_bitCount_0 x0 M F = some r → W p l e (headSpec wIn_bitCount rIn_bitCount).room s m args below meth c H locs 0 0 (jQi below (dC, dI) jCl [(cA, .int)] (fun B => jW cA A B M F) Ap args s r) (F0 m 0 ls []) := by
  obtain ⟨hx, hb, hml, hr, hts, hown, hlocks, hN⟩ := id hC
  have hj : ∀ w ∈ jw, w.before args s = true := fun w h => hts w (List.mem_cons_of_mem _ h)
  intro x0 M F B H locs ls hJ hl h
  unfold fIn_bitCount_0 at h
  refine lv_iload_n hx hb dIn_bitCount_0 rfl (lv_at hl 0 rfl) ?_
  refine lv_iload_n hx hb dIn_bitCount_1 rfl (lv_at hl 0 rfl) ?_
  refine lv_iconst (v := 1) hx hb dIn_bitCount_2 (by decide) ?_
  refine lv_iushr (v := jus x0 1) hx hb dIn_bitCount_3 rfl ?_
  refine lv_ldcw (v := 1431655765) hx hb hown (hj _ jw_554) dIn_bitCount_4 ?_
  refine lv_iand hx hb dIn_bitCount_7 ?_
  refine lv_isub hx hb dIn_bitCount_8 ?_
  refine lv_istore_n (lv' := [(0, .int (x0 - ((jus x0 1) &&& 1431655765)))]) hx hb dIn_bitCount_9 rfl hl (by decide) rfl (fun ls hl => ?_)
  refine lv_iload_n hx hb dIn_bitCount_10 rfl (lv_at hl 0 rfl) ?_
  refine lv_ldcw (v := 858993459) hx hb hown (hj _ jw_555) dIn_bitCount_11 ?_
  refine lv_iand hx hb dIn_bitCount_14 ?_
  refine lv_iload_n hx hb dIn_bitCount_15 rfl (lv_at hl 0 rfl) ?_
  refine lv_iconst (v := 2) hx hb dIn_bitCount_16 (by decide) ?_
  refine lv_iushr (v := jus (x0 - ((jus x0 1) &&& 1431655765)) 2) hx hb dIn_bitCount_17 rfl ?_
  refine lv_ldcw (v := 858993459) hx hb hown (hj _ jw_555) dIn_bitCount_18 ?_
  refine lv_iand hx hb dIn_bitCount_21 ?_
  refine lv_iadd hx hb dIn_bitCount_22 ?_
  refine lv_istore_n (lv' := [(0, .int (((x0 - ((jus x0 1) &&& 1431655765)) &&& 858993459) + ((jus (x0 - ((jus x0 1) &&& 1431655765)) 2) &&& 858993459)))]) hx hb dIn_bitCount_23 rfl hl (by decide) rfl (fun ls hl => ?_)
  refine lv_iload_n hx hb dIn_bitCount_24 rfl (lv_at hl 0 rfl) ?_
  refine lv_iload_n hx hb dIn_bitCount_25 rfl (lv_at hl 0 rfl) ?_
  refine lv_iconst (v := 4) hx hb dIn_bitCount_26 (by decide) ?_
  refine lv_iushr (v := jus (((x0 - ((jus x0 1) &&& 1431655765)) &&& 858993459) + ((jus (x0 - ((jus x0 1) &&& 1431655765)) 2) &&& 858993459)) 4) hx hb dIn_bitCount_27 rfl ?_
  refine lv_iadd hx hb dIn_bitCount_28 ?_
  refine lv_ldcw (v := 252645135) hx hb hown (hj _ jw_556) dIn_bitCount_29 ?_
  refine lv_iand hx hb dIn_bitCount_32 ?_
  refine lv_istore_n (lv' := [(0, .int (((((x0 - ((jus x0 1) &&& 1431655765)) &&& 858993459) + ((jus (x0 - ((jus x0 1) &&& 1431655765)) 2) &&& 858993459)) + (jus (((x0 - ((jus x0 1) &&& 1431655765)) &&& 858993459) + ((jus (x0 - ((jus x0 1) &&& 1431655765)) 2) &&& 858993459)) 4)) &&& 252645135))]) hx hb dIn_bitCount_33 rfl hl (by decide) rfl (fun ls hl => ?_)
  refine lv_iload_n hx hb dIn_bitCount_34 rfl (lv_at hl 0 rfl) ?_
  refine lv_iload_n hx hb dIn_bitCount_35 rfl (lv_at hl 0 rfl) ?_
  refine lv_bipush (v := 8) hx hb dIn_bitCount_36 (by decide) ?_
  refine lv_iushr (v := jus (((((x0 - ((jus x0 1) &&& 1431655765)) &&& 858993459) + ((jus (x0 - ((jus x0 1) &&& 1431655765)) 2) &&& 858993459)) + (jus (((x0 - ((jus x0 1) &&& 1431655765)) &&& 858993459) + ((jus (x0 - ((jus x0 1) &&& 1431655765)) 2) &&& 858993459)) 4)) &&& 252645135) 8) hx hb dIn_bitCount_38 rfl ?_
  refine lv_iadd hx hb dIn_bitCount_39 ?_
  refine lv_istore_n (lv' := [(0, .int ((((((x0 - ((jus x0 1) &&& 1431655765)) &&& 858993459) + ((jus (x0 - ((jus x0 1) &&& 1431655765)) 2) &&& 858993459)) + (jus (((x0 - ((jus x0 1) &&& 1431655765)) &&& 858993459) + ((jus (x0 - ((jus x0 1) &&& 1431655765)) 2) &&& 858993459)) 4)) &&& 252645135) + (jus (((((x0 - ((jus x0 1) &&& 1431655765)) &&& 858993459) + ((jus (x0 - ((jus x0 1) &&& 1431655765)) 2) &&& 858993459)) + (jus (((x0 - ((jus x0 1) &&& 1431655765)) &&& 858993459) + ((jus (x0 - ((jus x0 1) &&& 1431655765)) 2) &&& 858993459)) 4)) &&& 252645135) 8)))]) hx hb dIn_bitCount_40 rfl hl (by decide) rfl (fun ls hl => ?_)
  refine lv_iload_n hx hb dIn_bitCount_41 rfl (lv_at hl 0 rfl) ?_
  refine lv_iload_n hx hb dIn_bitCount_42 rfl (lv_at hl 0 rfl) ?_
  refine lv_bipush (v := 16) hx hb dIn_bitCount_43 (by decide) ?_
  refine lv_iushr (v := jus ((((((x0 - ((jus x0 1) &&& 1431655765)) &&& 858993459) + ((jus (x0 - ((jus x0 1) &&& 1431655765)) 2) &&& 858993459)) + (jus (((x0 - ((jus x0 1) &&& 1431655765)) &&& 858993459) + ((jus (x0 - ((jus x0 1) &&& 1431655765)) 2) &&& 858993459)) 4)) &&& 252645135) + (jus (((((x0 - ((jus x0 1) &&& 1431655765)) &&& 858993459) + ((jus (x0 - ((jus x0 1) &&& 1431655765)) 2) &&& 858993459)) + (jus (((x0 - ((jus x0 1) &&& 1431655765)) &&& 858993459) + ((jus (x0 - ((jus x0 1) &&& 1431655765)) 2) &&& 858993459)) 4)) &&& 252645135) 8)) 16) hx hb dIn_bitCount_45 rfl ?_
  refine lv_iadd hx hb dIn_bitCount_46 ?_
  refine lv_istore_n (lv' := [(0, .int (((((((x0 - ((jus x0 1) &&& 1431655765)) &&& 858993459) + ((jus (x0 - ((jus x0 1) &&& 1431655765)) 2) &&& 858993459)) + (jus (((x0 - ((jus x0 1) &&& 1431655765)) &&& 858993459) + ((jus (x0 - ((jus x0 1) &&& 1431655765)) 2) &&& 858993459)) 4)) &&& 252645135) + (jus (((((x0 - ((jus x0 1) &&& 1431655765)) &&& 858993459) + ((jus (x0 - ((jus x0 1) &&& 1431655765)) 2) &&& 858993459)) + (jus (((x0 - ((jus x0 1) &&& 1431655765)) &&& 858993459) + ((jus (x0 - ((jus x0 1) &&& 1431655765)) 2) &&& 858993459)) 4)) &&& 252645135) 8)) + (jus ((((((x0 - ((jus x0 1) &&& 1431655765)) &&& 858993459) + ((jus (x0 - ((jus x0 1) &&& 1431655765)) 2) &&& 858993459)) + (jus (((x0 - ((jus x0 1) &&& 1431655765)) &&& 858993459) + ((jus (x0 - ((jus x0 1) &&& 1431655765)) 2) &&& 858993459)) 4)) &&& 252645135) + (jus (((((x0 - ((jus x0 1) &&& 1431655765)) &&& 858993459) + ((jus (x0 - ((jus x0 1) &&& 1431655765)) 2) &&& 858993459)) + (jus (((x0 - ((jus x0 1) &&& 1431655765)) &&& 858993459) + ((jus (x0 - ((jus x0 1) &&& 1431655765)) 2) &&& 858993459)) 4)) &&& 252645135) 8)) 16)))]) hx hb dIn_bitCount_47 rfl hl (by decide) rfl (fun ls hl => ?_)
  refine lv_iload_n hx hb dIn_bitCount_48 rfl (lv_at hl 0 rfl) ?_
  refine lv_bipush (v := 63) hx hb dIn_bitCount_49 (by decide) ?_
  refine lv_iand hx hb dIn_bitCount_51 ?_
  exact jreti (u := B) hx hb hr rfl hlocks hJ dIn_bitCount_52 (Option.some.inj h)
set_option maxHeartbeats 4000000 in
set_option maxRecDepth 100000 in
theorem cIn_bitCount (l : Launch) (dC : Nat → ClassId) (dI : Nat → Nat → Nat) (cA : ClassId) (A : Nat → Nat) (x0 : Int32) (M : jM) (F : jF) (B : Nat → Nat) (sz : Nat) {r : Int32} (h : fIn_bitCount x0 M F = some r) : jCi l yIn_bitCount wIn_bitCount rIn_bitCount (dC, dI) jCl [(cA, .int)] [.int x0] (jW cA A B M F) sz r (fun B => jW cA A B M F) :=
  jOf (Qc := fun Ap => va_Qi (fun q (_ : Nat → Nat) => q = r) (jPost (dC, dI) jCl [(cA, .int)] (fun B => jW cA A B M F) Ap) Ap) (by decide) rfl (Nat.le_of_ble_eq_true rfl) (fun p e s m below meth c Ap ls hC hA hJ hl => uIn_bitCount_0 l dC dI cA A Ap hC hA _ _ _ _ _ _ _ hJ (lv_sub hl [0] rfl) h)
abbrev bAr_fill : ByteArray := prog_17_method_103_code
abbrev yAr_fill : MethodName := ⟨RAr, "fill", "([II)V"⟩
abbrev wAr_fill : List Cond := .code yAr_fill bAr_fill 4 none :: jw
theorem dAr_fill_0 : decode bAr_fill 0 = .ok (.iconst 0, 1) := by decide +kernel
theorem dAr_fill_1 : decode bAr_fill 1 = .ok (.istore_n 2, 1) := by decide +kernel
theorem dAr_fill_2 : decode bAr_fill 2 = .ok (.aload_n 0, 1) := by decide +kernel
theorem dAr_fill_3 : decode bAr_fill 3 = .ok (.arraylength, 1) := by decide +kernel
theorem dAr_fill_4 : decode bAr_fill 4 = .ok (.istore_n 3, 1) := by decide +kernel
theorem dAr_fill_5 : decode bAr_fill 5 = .ok (.iload_n 2, 1) := by decide +kernel
theorem dAr_fill_6 : decode bAr_fill 6 = .ok (.iload_n 3, 1) := by decide +kernel
theorem dAr_fill_7 : decode bAr_fill 7 = .ok (.if_icmp .ge 13, 3) := by decide +kernel
theorem dAr_fill_10 : decode bAr_fill 10 = .ok (.aload_n 0, 1) := by decide +kernel
theorem dAr_fill_11 : decode bAr_fill 11 = .ok (.iload_n 2, 1) := by decide +kernel
theorem dAr_fill_12 : decode bAr_fill 12 = .ok (.iload_n 1, 1) := by decide +kernel
theorem dAr_fill_13 : decode bAr_fill 13 = .ok (.iastore, 1) := by decide +kernel
theorem dAr_fill_14 : decode bAr_fill 14 = .ok (.iinc 2 1, 3) := by decide +kernel
theorem dAr_fill_17 : decode bAr_fill 17 = .ok (.goto (-12), 3) := by decide +kernel
theorem dAr_fill_20 : decode bAr_fill 20 = .ok (.return_, 1) := by decide +kernel
abbrev rAr_fill : Room := { frames := 0, cells := 0, slots := 0, locals := 0 }
def fAr_fill_5 : Nat → Int32 → Int32 → Int32 → jM → jF → Option (Int32 × jM × jF)
  | 0, _, _, _, _, _ => none
  | n + 1, x1, x2, x3, M, F => (if x3 ≤ x2 then some (0, M, F) else (if jib x2 33 then fAr_fill_5 n x1 (x2 + 1) x3 (jmu M 25 x2.toNatClampNeg x1) F else none))
def fAr_fill_0 (x1 : Int32) (M : jM) (F : jF) : Option (Int32 × jM × jF) := fAr_fill_5 jfuel x1 0 33 M F
abbrev fAr_fill (x1 : Int32) (M : jM) (F : jF) : Option (Int32 × jM × jF) := fAr_fill_0 x1 M F
set_option maxHeartbeats 4000000 in
set_option maxRecDepth 100000 in
theorem uAr_fill_5 {p : Program} {e : Env} {s : State} {m : MethodId} {args : Array Value} {below : List Frame} {meth : Method} {c : Code} (l : Launch) (dC : Nat → ClassId) (dI : Nat → Nat → Nat) (cA : ClassId) (A : Nat → Nat) (Ap : Nat → Prop) (hC : jAt p s m args meth c bAr_fill 4 none wAr_fill RAr) (hA : ∀ q : Nat, s.heap.size ≤ q → Ap q) {r : Int32} {M' : jM} {F' : jF} : ∀ (n : Nat) (x1 x2 x3 : Int32) (M : jM) (F : jF) (B : Nat → Nat) (H : Heap) (locs : List Loc) (ls : Array Slot), jH (dC, dI) jCl [(cA, .int)] (jW cA A B M F) Ap s H locs → lv_has ls 4 [(0, .ref (A 25)), (1, .int x1), (2, .int x2), (3, .int x3)] → fAr_fill_5 n x1 x2 x3 M F = some (r, M', F') → W p l e (headSpec wAr_fill rAr_fill).room s m args below meth c H locs 0 0 (jQv below (dC, dI) jCl [(cA, .int)] (fun B => jW cA A B (M') (F')) Ap args s) (F0 m 5 ls []) := by
  obtain ⟨hx, hb, hml, hr, hts, hown, hlocks, hN⟩ := id hC
  have hj : ∀ w ∈ jw, w.before args s = true := fun w h => hts w (List.mem_cons_of_mem _ h)
  intro n
  induction n with
  | zero =>
    intro x1 x2 x3 M F B H locs ls hJ hl h
    rw [fAr_fill_5] at h
    cases h
  | succ n ih =>
    intro x1 x2 x3 M F B H locs ls hJ hl h
    rw [fAr_fill_5] at h
    refine lv_iload_n hx hb dAr_fill_5 rfl (lv_at hl 2 rfl) ?_
    refine lv_iload_n hx hb dAr_fill_6 rfl (lv_at hl 3 rfl) ?_
    refine lv_icmp_ge (tgt := 20) hx hb dAr_fill_7 (by decide) (fun c1 => ?_) (fun c1 => ?_)
    · replace h := jif_t c1 h
      cases h
      exact jretv (u := B) hx hb hr hlocks hJ dAr_fill_20
    · replace h := jif_f c1 h
      refine lv_aload_n hx hb dAr_fill_10 rfl (lv_at hl 0 rfl) ?_
      refine lv_iload_n hx hb dAr_fill_11 rfl (lv_at hl 2 rfl) ?_
      refine lv_iload_n hx hb dAr_fill_12 rfl (lv_at hl 1 rfl) ?_
      obtain ⟨hi2, h⟩ := jib_h h
      refine jast_25 hx hb hJ hi2 dAr_fill_13 (fun H locs hJ => ?_)
      refine lv_iinc (v := x2 + 1) (lv' := [(2, .int (x2 + 1)), (0, .ref (A 25)), (1, .int x1), (3, .int x3)]) hx hb dAr_fill_14 hl (k := 2) rfl rfl (by decide) rfl (fun ls hl => ?_)
      refine lv_goto (tgt := 5) hx hb dAr_fill_17 (by decide) ?_
      exact ih _ _ _ _ _ _ _ _ _ hJ (lv_sub hl [1, 2, 0, 3] rfl) h
set_option maxHeartbeats 4000000 in
set_option maxRecDepth 100000 in
theorem uAr_fill_0 {p : Program} {e : Env} {s : State} {m : MethodId} {args : Array Value} {below : List Frame} {meth : Method} {c : Code} (l : Launch) (dC : Nat → ClassId) (dI : Nat → Nat → Nat) (cA : ClassId) (A : Nat → Nat) (Ap : Nat → Prop) (hC : jAt p s m args meth c bAr_fill 4 none wAr_fill RAr) (hA : ∀ q : Nat, s.heap.size ≤ q → Ap q) {r : Int32} {M' : jM} {F' : jF} : ∀ (x1 : Int32) (M : jM) (F : jF) (B : Nat → Nat) (H : Heap) (locs : List Loc) (ls : Array Slot), jH (dC, dI) jCl [(cA, .int)] (jW cA A B M F) Ap s H locs → lv_has ls 4 [(0, .ref (A 25)), (1, .int x1)] → fAr_fill_0 x1 M F = some (r, M', F') → W p l e (headSpec wAr_fill rAr_fill).room s m args below meth c H locs 0 0 (jQv below (dC, dI) jCl [(cA, .int)] (fun B => jW cA A B (M') (F')) Ap args s) (F0 m 0 ls []) := by
  obtain ⟨hx, hb, hml, hr, hts, hown, hlocks, hN⟩ := id hC
  have hj : ∀ w ∈ jw, w.before args s = true := fun w h => hts w (List.mem_cons_of_mem _ h)
  intro x1 M F B H locs ls hJ hl h
  unfold fAr_fill_0 at h
  refine lv_iconst (v := 0) hx hb dAr_fill_0 (by decide) ?_
  refine lv_istore_n (lv' := [(2, .int 0), (0, .ref (A 25)), (1, .int x1)]) hx hb dAr_fill_1 rfl hl (by decide) rfl (fun ls hl => ?_)
  refine lv_aload_n hx hb dAr_fill_2 rfl (lv_at hl 1 rfl) ?_
  refine va_alen (v := 33) hx hb hJ.1 hJ.2.1 25 0 rfl rfl (show Int32.ofNat 33 = 33 by decide) dAr_fill_3 ?_
  refine lv_istore_n (lv' := [(3, .int 33), (2, .int 0), (0, .ref (A 25)), (1, .int x1)]) hx hb dAr_fill_4 rfl hl (by decide) rfl (fun ls hl => ?_)
  exact uAr_fill_5 l dC dI cA A Ap hC hA jfuel _ _ _ _ _ _ _ _ _ hJ (lv_sub hl [2, 3, 1, 0] rfl) h
set_option maxHeartbeats 4000000 in
set_option maxRecDepth 100000 in
theorem cAr_fill (l : Launch) (dC : Nat → ClassId) (dI : Nat → Nat → Nat) (cA : ClassId) (A : Nat → Nat) (x1 : Int32) (M : jM) (F : jF) (B : Nat → Nat) (sz : Nat) {r : Int32} {M' : jM} {F' : jF} (h : fAr_fill x1 M F = some (r, M', F')) : jCv l yAr_fill wAr_fill rAr_fill (dC, dI) jCl [(cA, .int)] [.ref (A 25), .int x1] (jW cA A B M F) sz (fun B => jW cA A B (M') (F')) :=
  jOf (Qc := fun Ap => va_Qv (fun _ : Nat → Nat => True) (jPost (dC, dI) jCl [(cA, .int)] (fun B => jW cA A B (M') (F')) Ap) Ap) (by decide) rfl (Nat.le_of_ble_eq_true rfl) (fun p e s m below meth c Ap ls hC hA hJ hl => uAr_fill_0 l dC dI cA A Ap hC hA _ _ _ _ _ _ _ hJ (lv_sub hl [0, 1] rfl) h)
end
section
abbrev bPl_dividedUp : ByteArray := prog_2_method_8_code
abbrev yPl_dividedUp : MethodName := ⟨RPl, "dividedUp", "(II)I"⟩
abbrev wPl_dividedUp : List Cond := .code yPl_dividedUp bPl_dividedUp 2 (some .int) :: jw
theorem dPl_dividedUp_0 : decode bPl_dividedUp 0 = .ok (.iload_n 1, 1) := by decide +kernel
theorem dPl_dividedUp_1 : decode bPl_dividedUp 1 = .ok (.iconst 1, 1) := by decide +kernel
theorem dPl_dividedUp_2 : decode bPl_dividedUp 2 = .ok (.if_icmp .le 13, 3) := by decide +kernel
theorem dPl_dividedUp_5 : decode bPl_dividedUp 5 = .ok (.iload_n 0, 1) := by decide +kernel
theorem dPl_dividedUp_6 : decode bPl_dividedUp 6 = .ok (.iload_n 1, 1) := by decide +kernel
theorem dPl_dividedUp_7 : decode bPl_dividedUp 7 = .ok (.iadd, 1) := by decide +kernel
theorem dPl_dividedUp_8 : decode bPl_dividedUp 8 = .ok (.iconst 1, 1) := by decide +kernel
theorem dPl_dividedUp_9 : decode bPl_dividedUp 9 = .ok (.isub, 1) := by decide +kernel
theorem dPl_dividedUp_10 : decode bPl_dividedUp 10 = .ok (.iload_n 1, 1) := by decide +kernel
theorem dPl_dividedUp_11 : decode bPl_dividedUp 11 = .ok (.idiv, 1) := by decide +kernel
theorem dPl_dividedUp_12 : decode bPl_dividedUp 12 = .ok (.goto 4, 3) := by decide +kernel
theorem dPl_dividedUp_15 : decode bPl_dividedUp 15 = .ok (.iload_n 0, 1) := by decide +kernel
theorem dPl_dividedUp_16 : decode bPl_dividedUp 16 = .ok (.ireturn, 1) := by decide +kernel
abbrev rPl_dividedUp : Room := { frames := 0, cells := 0, slots := 0, locals := 0 }
def fPl_dividedUp_0 (x0 : Int32) (x1 : Int32) (M : jM) (F : jF) : Option Int32 := (if x1 ≤ 1 then some x0 else if x1 = 0 then none else some (((x0 + x1) - 1) / x1))
abbrev fPl_dividedUp (x0 : Int32) (x1 : Int32) (M : jM) (F : jF) : Option Int32 := fPl_dividedUp_0 x0 x1 M F
set_option maxHeartbeats 4000000 in
set_option maxRecDepth 100000 in
theorem uPl_dividedUp_0 {p : Program} {e : Env} {s : State} {m : MethodId} {args : Array Value} {below : List Frame} {meth : Method} {c : Code} (l : Launch) (dC : Nat → ClassId) (dI : Nat → Nat → Nat) (cA : ClassId) (A : Nat → Nat) (Ap : Nat → Prop) (hC : jAt p s m args meth c bPl_dividedUp 2 (some .int) wPl_dividedUp RPl) (hA : ∀ q : Nat, s.heap.size ≤ q → Ap q) {r : Int32} : ∀ (x0 x1 : Int32) (M : jM) (F : jF) (B : Nat → Nat) (H : Heap) (locs : List Loc) (ls : Array Slot), jH (dC, dI) jCl [(cA, .int)] (jW cA A B M F) Ap s H locs → lv_has ls 2 [(0, .int x0), (1, .int x1)] → fPl_dividedUp_0 x0 x1 M F = some r → W p l e (headSpec wPl_dividedUp rPl_dividedUp).room s m args below meth c H locs 0 0 (jQi below (dC, dI) jCl [(cA, .int)] (fun B => jW cA A B M F) Ap args s r) (F0 m 0 ls []) := by
  obtain ⟨hx, hb, hml, hr, hts, hown, hlocks, hN⟩ := id hC
  have hj : ∀ w ∈ jw, w.before args s = true := fun w h => hts w (List.mem_cons_of_mem _ h)
  intro x0 x1 M F B H locs ls hJ hl h
  unfold fPl_dividedUp_0 at h
  refine lv_iload_n hx hb dPl_dividedUp_0 rfl (lv_at hl 1 rfl) ?_
  refine lv_iconst (v := 1) hx hb dPl_dividedUp_1 (by decide) ?_
  refine lv_icmp_le (tgt := 15) hx hb dPl_dividedUp_2 (by decide) (fun c1 => ?_) (fun c1 => ?_)
  · replace h := jif_t c1 h
    refine lv_iload_n hx hb dPl_dividedUp_15 rfl (lv_at hl 0 rfl) ?_
    exact jreti (u := B) hx hb hr rfl hlocks hJ dPl_dividedUp_16 (Option.some.inj h)
  · replace h := jif_f c1 h
    refine lv_iload_n hx hb dPl_dividedUp_5 rfl (lv_at hl 0 rfl) ?_
    refine lv_iload_n hx hb dPl_dividedUp_6 rfl (lv_at hl 1 rfl) ?_
    refine lv_iadd hx hb dPl_dividedUp_7 ?_
    refine lv_iconst (v := 1) hx hb dPl_dividedUp_8 (by decide) ?_
    refine lv_isub hx hb dPl_dividedUp_9 ?_
    refine lv_iload_n hx hb dPl_dividedUp_10 rfl (lv_at hl 1 rfl) ?_
    obtain ⟨hz, h⟩ := jdz_h h
    refine lv_idiv hx hb dPl_dividedUp_11 hz ?_
    refine lv_goto (tgt := 16) hx hb dPl_dividedUp_12 (by decide) ?_
    exact jreti (u := B) hx hb hr rfl hlocks hJ dPl_dividedUp_16 (Option.some.inj h)
set_option maxHeartbeats 4000000 in
set_option maxRecDepth 100000 in
theorem cPl_dividedUp (l : Launch) (dC : Nat → ClassId) (dI : Nat → Nat → Nat) (cA : ClassId) (A : Nat → Nat) (x0 : Int32) (x1 : Int32) (M : jM) (F : jF) (B : Nat → Nat) (sz : Nat) {r : Int32} (h : fPl_dividedUp x0 x1 M F = some r) : jCi l yPl_dividedUp wPl_dividedUp rPl_dividedUp (dC, dI) jCl [(cA, .int)] [.int x0, .int x1] (jW cA A B M F) sz r (fun B => jW cA A B M F) :=
  jOf (Qc := fun Ap => va_Qi (fun q (_ : Nat → Nat) => q = r) (jPost (dC, dI) jCl [(cA, .int)] (fun B => jW cA A B M F) Ap) Ap) (by decide) rfl (Nat.le_of_ble_eq_true rfl) (fun p e s m below meth c Ap ls hC hA hJ hl => uPl_dividedUp_0 l dC dI cA A Ap hC hA _ _ _ _ _ _ _ _ hJ (lv_sub hl [0, 1] rfl) h)
abbrev bPl_sizeOf : ByteArray := prog_2_method_7_code
abbrev yPl_sizeOf : MethodName := ⟨RPl, "sizeOf", "(I)I"⟩
abbrev wPl_sizeOf : List Cond := .code yPl_sizeOf bPl_sizeOf 4 (some .int) :: jw
theorem dPl_sizeOf_0 : decode bPl_sizeOf 0 = .ok (.iconst 1, 1) := by decide +kernel
theorem dPl_sizeOf_1 : decode bPl_sizeOf 1 = .ok (.istore_n 2, 1) := by decide +kernel
theorem dPl_sizeOf_2 : decode bPl_sizeOf 2 = .ok (.iconst 0, 1) := by decide +kernel
theorem dPl_sizeOf_3 : decode bPl_sizeOf 3 = .ok (.istore_n 3, 1) := by decide +kernel
theorem dPl_sizeOf_4 : decode bPl_sizeOf 4 = .ok (.iload_n 3, 1) := by decide +kernel
theorem dPl_sizeOf_5 : decode bPl_sizeOf 5 = .ok (.aload_n 0, 1) := by decide +kernel
theorem dPl_sizeOf_6 : decode bPl_sizeOf 6 = .ok (.getfield 12, 3) := by decide +kernel
theorem dPl_sizeOf_9 : decode bPl_sizeOf 9 = .ok (.getfield 28, 3) := by decide +kernel
theorem dPl_sizeOf_12 : decode bPl_sizeOf 12 = .ok (.if_icmp .ge 28, 3) := by decide +kernel
theorem dPl_sizeOf_15 : decode bPl_sizeOf 15 = .ok (.iload_n 1, 1) := by decide +kernel
theorem dPl_sizeOf_16 : decode bPl_sizeOf 16 = .ok (.iload_n 3, 1) := by decide +kernel
theorem dPl_sizeOf_17 : decode bPl_sizeOf 17 = .ok (.invokestatic 63, 3) := by decide +kernel
theorem dPl_sizeOf_20 : decode bPl_sizeOf 20 = .ok (.ifCond .eq 14, 3) := by decide +kernel
theorem dPl_sizeOf_23 : decode bPl_sizeOf 23 = .ok (.iload_n 2, 1) := by decide +kernel
theorem dPl_sizeOf_24 : decode bPl_sizeOf 24 = .ok (.aload_n 0, 1) := by decide +kernel
theorem dPl_sizeOf_25 : decode bPl_sizeOf 25 = .ok (.getfield 12, 3) := by decide +kernel
theorem dPl_sizeOf_28 : decode bPl_sizeOf 28 = .ok (.iload_n 3, 1) := by decide +kernel
theorem dPl_sizeOf_29 : decode bPl_sizeOf 29 = .ok (.invokevirtual 66, 3) := by decide +kernel
theorem dPl_sizeOf_32 : decode bPl_sizeOf 32 = .ok (.imul, 1) := by decide +kernel
theorem dPl_sizeOf_33 : decode bPl_sizeOf 33 = .ok (.istore_n 2, 1) := by decide +kernel
theorem dPl_sizeOf_34 : decode bPl_sizeOf 34 = .ok (.iinc 3 1, 3) := by decide +kernel
theorem dPl_sizeOf_37 : decode bPl_sizeOf 37 = .ok (.goto (-33), 3) := by decide +kernel
theorem dPl_sizeOf_40 : decode bPl_sizeOf 40 = .ok (.iconst 0, 1) := by decide +kernel
theorem dPl_sizeOf_41 : decode bPl_sizeOf 41 = .ok (.istore_n 3, 1) := by decide +kernel
theorem dPl_sizeOf_42 : decode bPl_sizeOf 42 = .ok (.iload_n 3, 1) := by decide +kernel
theorem dPl_sizeOf_43 : decode bPl_sizeOf 43 = .ok (.aload_n 0, 1) := by decide +kernel
theorem dPl_sizeOf_44 : decode bPl_sizeOf 44 = .ok (.getfield 12, 3) := by decide +kernel
theorem dPl_sizeOf_47 : decode bPl_sizeOf 47 = .ok (.getfield 53, 3) := by decide +kernel
theorem dPl_sizeOf_50 : decode bPl_sizeOf 50 = .ok (.if_icmp .ge 34, 3) := by decide +kernel
theorem dPl_sizeOf_53 : decode bPl_sizeOf 53 = .ok (.aload_n 0, 1) := by decide +kernel
theorem dPl_sizeOf_54 : decode bPl_sizeOf 54 = .ok (.getfield 12, 3) := by decide +kernel
theorem dPl_sizeOf_57 : decode bPl_sizeOf 57 = .ok (.iload_n 3, 1) := by decide +kernel
theorem dPl_sizeOf_58 : decode bPl_sizeOf 58 = .ok (.iload_n 1, 1) := by decide +kernel
theorem dPl_sizeOf_59 : decode bPl_sizeOf 59 = .ok (.invokevirtual 69, 3) := by decide +kernel
theorem dPl_sizeOf_62 : decode bPl_sizeOf 62 = .ok (.ifCond .eq 16, 3) := by decide +kernel
theorem dPl_sizeOf_65 : decode bPl_sizeOf 65 = .ok (.iload_n 2, 1) := by decide +kernel
theorem dPl_sizeOf_66 : decode bPl_sizeOf 66 = .ok (.aload_n 0, 1) := by decide +kernel
theorem dPl_sizeOf_67 : decode bPl_sizeOf 67 = .ok (.getfield 12, 3) := by decide +kernel
theorem dPl_sizeOf_70 : decode bPl_sizeOf 70 = .ok (.iload_n 3, 1) := by decide +kernel
theorem dPl_sizeOf_71 : decode bPl_sizeOf 71 = .ok (.invokevirtual 72, 3) := by decide +kernel
theorem dPl_sizeOf_74 : decode bPl_sizeOf 74 = .ok (.invokestatic 75, 3) := by decide +kernel
theorem dPl_sizeOf_77 : decode bPl_sizeOf 77 = .ok (.istore_n 2, 1) := by decide +kernel
theorem dPl_sizeOf_78 : decode bPl_sizeOf 78 = .ok (.iinc 3 1, 3) := by decide +kernel
theorem dPl_sizeOf_81 : decode bPl_sizeOf 81 = .ok (.goto (-39), 3) := by decide +kernel
theorem dPl_sizeOf_84 : decode bPl_sizeOf 84 = .ok (.iload_n 2, 1) := by decide +kernel
theorem dPl_sizeOf_85 : decode bPl_sizeOf 85 = .ok (.ireturn, 1) := by decide +kernel
abbrev rPl_sizeOf : Room := { frames := 3, cells := 0, slots := 0, locals := 65 }
def fPl_sizeOf_42 : Nat → Int32 → Int32 → Int32 → jM → jF → Option Int32
  | 0, _, _, _, _, _ => none
  | n + 1, x1, x2, x3, M, F => (if (F 1) ≤ x3 then some x2 else ((fQu_isWithin x3 x1 M F).bind fun q3 => (if q3 = 0 then fPl_sizeOf_42 n x1 x2 (x3 + 1) M F else ((fQu_divisor x3 M F).bind fun q5 => ((fPl_dividedUp x2 q5 M F).bind fun q6 => fPl_sizeOf_42 n x1 q6 (x3 + 1) M F)))))
def fPl_sizeOf_4 : Nat → Int32 → Int32 → Int32 → jM → jF → Option Int32
  | 0, _, _, _, _, _ => none
  | n + 1, x1, x2, x3, M, F => (if (F 0) ≤ x3 then fPl_sizeOf_42 jfuel x1 x2 0 M F else ((fJh_isIn x1 x3 M F).bind fun q7 => (if q7 = 0 then fPl_sizeOf_4 n x1 x2 (x3 + 1) M F else ((fQu_rowsOf x3 M F).bind fun q9 => fPl_sizeOf_4 n x1 (x2 * q9) (x3 + 1) M F))))
def fPl_sizeOf_0 (x1 : Int32) (M : jM) (F : jF) : Option Int32 := fPl_sizeOf_4 jfuel x1 1 0 M F
abbrev fPl_sizeOf (x1 : Int32) (M : jM) (F : jF) : Option Int32 := fPl_sizeOf_0 x1 M F
set_option maxHeartbeats 4000000 in
set_option maxRecDepth 100000 in
theorem uPl_sizeOf_42 {p : Program} {e : Env} {s : State} {m : MethodId} {args : Array Value} {below : List Frame} {meth : Method} {c : Code} (l : Launch) (dC : Nat → ClassId) (dI : Nat → Nat → Nat) (cA : ClassId) (A : Nat → Nat) (Ap : Nat → Prop) (hC : jAt p s m args meth c bPl_sizeOf 4 (some .int) wPl_sizeOf RPl) (hA : ∀ q : Nat, s.heap.size ≤ q → Ap q) {r : Int32} : ∀ (n : Nat) (x1 x2 x3 : Int32) (M : jM) (F : jF) (B : Nat → Nat) (H : Heap) (locs : List Loc) (ls : Array Slot), jH (dC, dI) jCl [(cA, .int)] (jW cA A B M F) Ap s H locs → lv_has ls 4 [(0, .ref (A 2)), (1, .int x1), (2, .int x2), (3, .int x3)] → fPl_sizeOf_42 n x1 x2 x3 M F = some r → W p l e (headSpec wPl_sizeOf rPl_sizeOf).room s m args below meth c H locs 0 0 (jQi below (dC, dI) jCl [(cA, .int)] (fun B => jW cA A B M F) Ap args s r) (F0 m 42 ls []) := by
  obtain ⟨hx, hb, hml, hr, hts, hown, hlocks, hN⟩ := id hC
  have hj : ∀ w ∈ jw, w.before args s = true := fun w h => hts w (List.mem_cons_of_mem _ h)
  intro n
  induction n with
  | zero =>
    intro x1 x2 x3 M F B H locs ls hJ hl h
    rw [fPl_sizeOf_42] at h
    cases h
  | succ n ih =>
    intro x1 x2 x3 M F B H locs ls hJ hl h
    rw [fPl_sizeOf_42] at h
    refine lv_iload_n hx hb dPl_sizeOf_42 rfl (lv_at hl 3 rfl) ?_
    refine lv_aload_n hx hb dPl_sizeOf_43 rfl (lv_at hl 0 rfl) ?_
    refine va_get (D := (dC, dI)) (ci := 2) (v := .ref (A 3)) (C := RPl) (T := TPl) (N := 4) hx hb hj iPl hown hJ.1 hJ.2.1 2 rfl rfl 0 (by decide) (hj _ jw_102) (fun _ h9 => h9) rfl dPl_sizeOf_44 ?_
    refine va_getN (D := (dC, dI)) (ci := 3) (v := .int (F 1)) (C := RQu) (T := TQu) (N := 10) hx hb hj iQu hown hJ.1 hJ.2.1 3 rfl rfl 9 (by decide) (jnw_use hN jnw_10) (fun _ h9 => h9) rfl dPl_sizeOf_47 ?_
    refine lv_icmp_ge (tgt := 84) hx hb dPl_sizeOf_50 (by decide) (fun c2 => ?_) (fun c2 => ?_)
    · replace h := jif_t c2 h
      refine lv_iload_n hx hb dPl_sizeOf_84 rfl (lv_at hl 2 rfl) ?_
      exact jreti (u := B) hx hb hr rfl hlocks hJ dPl_sizeOf_85 (Option.some.inj h)
    · replace h := jif_f c2 h
      refine lv_aload_n hx hb dPl_sizeOf_53 rfl (lv_at hl 0 rfl) ?_
      refine va_get (D := (dC, dI)) (ci := 2) (v := .ref (A 3)) (C := RPl) (T := TPl) (N := 4) hx hb hj iPl hown hJ.1 hJ.2.1 2 rfl rfl 0 (by decide) (hj _ jw_102) (fun _ h9 => h9) rfl dPl_sizeOf_54 ?_
      refine lv_iload_n hx hb dPl_sizeOf_57 rfl (lv_at hl 3 rfl) ?_
      refine lv_iload_n hx hb dPl_sizeOf_58 rfl (lv_at hl 1 rfl) ?_
      obtain ⟨q3, hq3, h⟩ := jbi_h h
      refine jcalli (w' := fun B => jW cA A B M F) (va_runV (As := [.int x3, .int x1]) (rest := []) ⟨hx, hb, hml, hown, hts⟩ (cQu_isWithin l dC dI cA A x3 x1 M F B H.size hq3) (cwV 2 hts (jgoodV jw_424 jw_425 jw_426 jw_4 jw_427) rfl rfl rfl (by decide +kernel) ⟨Nat.le_of_ble_eq_true rfl, Nat.le_of_ble_eq_true rfl⟩) (jpreV hN hJ (ci := 3) (q0 := 3) rfl rfl) rfl rfl hl.1 rfl (lv_room (Nat.le_of_ble_eq_true rfl)) dPl_sizeOf_59 ⟨Nat.zero_le _, Nat.zero_le _⟩) hA hJ (fun B H locs hJ => ?_)
      refine lv_if_eq (tgt := 78) hx hb dPl_sizeOf_62 (by decide) (fun c4 => ?_) (fun c4 => ?_)
      · replace h := jif_t c4 h
        refine lv_iinc (v := x3 + 1) (lv' := [(3, .int (x3 + 1)), (0, .ref (A 2)), (1, .int x1), (2, .int x2)]) hx hb dPl_sizeOf_78 hl (k := 3) rfl rfl (by decide) rfl (fun ls hl => ?_)
        refine lv_goto (tgt := 42) hx hb dPl_sizeOf_81 (by decide) ?_
        exact ih _ _ _ _ _ _ _ _ _ hJ (lv_sub hl [1, 2, 3, 0] rfl) h
      · replace h := jif_f c4 h
        refine lv_iload_n hx hb dPl_sizeOf_65 rfl (lv_at hl 2 rfl) ?_
        refine lv_aload_n hx hb dPl_sizeOf_66 rfl (lv_at hl 0 rfl) ?_
        refine va_get (D := (dC, dI)) (ci := 2) (v := .ref (A 3)) (C := RPl) (T := TPl) (N := 4) hx hb hj iPl hown hJ.1 hJ.2.1 2 rfl rfl 0 (by decide) (hj _ jw_102) (fun _ h9 => h9) rfl dPl_sizeOf_67 ?_
        refine lv_iload_n hx hb dPl_sizeOf_70 rfl (lv_at hl 3 rfl) ?_
        obtain ⟨q5, hq5, h⟩ := jbi_h h
        refine jcalli (w' := fun B => jW cA A B M F) (va_runV (As := [.int x3]) (rest := [.int x2]) ⟨hx, hb, hml, hown, hts⟩ (cQu_divisor l dC dI cA A x3 M F B H.size hq5) (cwV 1 hts (jgoodV jw_428 jw_429 jw_430 jw_4 jw_431) rfl rfl rfl (by decide +kernel) ⟨Nat.le_of_ble_eq_true rfl, Nat.le_of_ble_eq_true rfl⟩) (jpreV hN hJ (ci := 3) (q0 := 3) rfl rfl) rfl rfl hl.1 rfl (lv_room (Nat.le_of_ble_eq_true rfl)) dPl_sizeOf_71 ⟨Nat.zero_le _, Nat.zero_le _⟩) hA hJ (fun B H locs hJ => ?_)
        obtain ⟨q6, hq6, h⟩ := jbi_h h
        refine jcalli (w' := fun B => jW cA A B M F) (va_runS (As := [.int x2, .int q5]) (rest := []) ⟨hx, hb, hml, hown, hts⟩ (cPl_dividedUp l dC dI cA A x2 q5 M F B H.size hq6) (va_cwS 2 hts (jgoodS jw_440 jw_441 jw_3 jw_442) rfl rfl rfl (by decide +kernel) ⟨Nat.le_of_ble_eq_true rfl, Nat.le_of_ble_eq_true rfl⟩) (jpreS hN hJ) rfl rfl hl.1 rfl (lv_room (Nat.le_of_ble_eq_true rfl)) dPl_sizeOf_74 ⟨Nat.zero_le _, Nat.zero_le _⟩) hA hJ (fun B H locs hJ => ?_)
        refine lv_istore_n (lv' := [(2, .int q6), (0, .ref (A 2)), (1, .int x1), (3, .int x3)]) hx hb dPl_sizeOf_77 rfl hl (by decide) rfl (fun ls hl => ?_)
        refine lv_iinc (v := x3 + 1) (lv' := [(3, .int (x3 + 1)), (2, .int q6), (0, .ref (A 2)), (1, .int x1)]) hx hb dPl_sizeOf_78 hl (k := 3) rfl rfl (by decide) rfl (fun ls hl => ?_)
        refine lv_goto (tgt := 42) hx hb dPl_sizeOf_81 (by decide) ?_
        exact ih _ _ _ _ _ _ _ _ _ hJ (lv_sub hl [2, 3, 1, 0] rfl) h
set_option maxHeartbeats 4000000 in
set_option maxRecDepth 100000 in
theorem uPl_sizeOf_4 {p : Program} {e : Env} {s : State} {m : MethodId} {args : Array Value} {below : List Frame} {meth : Method} {c : Code} (l : Launch) (dC : Nat → ClassId) (dI : Nat → Nat → Nat) (cA : ClassId) (A : Nat → Nat) (Ap : Nat → Prop) (hC : jAt p s m args meth c bPl_sizeOf 4 (some .int) wPl_sizeOf RPl) (hA : ∀ q : Nat, s.heap.size ≤ q → Ap q) {r : Int32} : ∀ (n : Nat) (x1 x2 x3 : Int32) (M : jM) (F : jF) (B : Nat → Nat) (H : Heap) (locs : List Loc) (ls : Array Slot), jH (dC, dI) jCl [(cA, .int)] (jW cA A B M F) Ap s H locs → lv_has ls 4 [(0, .ref (A 2)), (1, .int x1), (2, .int x2), (3, .int x3)] → fPl_sizeOf_4 n x1 x2 x3 M F = some r → W p l e (headSpec wPl_sizeOf rPl_sizeOf).room s m args below meth c H locs 0 0 (jQi below (dC, dI) jCl [(cA, .int)] (fun B => jW cA A B M F) Ap args s r) (F0 m 4 ls []) := by
  obtain ⟨hx, hb, hml, hr, hts, hown, hlocks, hN⟩ := id hC
  have hj : ∀ w ∈ jw, w.before args s = true := fun w h => hts w (List.mem_cons_of_mem _ h)
  intro n
  induction n with
  | zero =>
    intro x1 x2 x3 M F B H locs ls hJ hl h
    rw [fPl_sizeOf_4] at h
    cases h
  | succ n ih =>
    intro x1 x2 x3 M F B H locs ls hJ hl h
    rw [fPl_sizeOf_4] at h
    refine lv_iload_n hx hb dPl_sizeOf_4 rfl (lv_at hl 3 rfl) ?_
    refine lv_aload_n hx hb dPl_sizeOf_5 rfl (lv_at hl 0 rfl) ?_
    refine va_get (D := (dC, dI)) (ci := 2) (v := .ref (A 3)) (C := RPl) (T := TPl) (N := 4) hx hb hj iPl hown hJ.1 hJ.2.1 2 rfl rfl 0 (by decide) (hj _ jw_102) (fun _ h9 => h9) rfl dPl_sizeOf_6 ?_
    refine va_getN (D := (dC, dI)) (ci := 3) (v := .int (F 0)) (C := RQu) (T := TQu) (N := 10) hx hb hj iQu hown hJ.1 hJ.2.1 3 rfl rfl 8 (by decide) (jnw_use hN jnw_6) (fun _ h9 => h9) rfl dPl_sizeOf_9 ?_
    refine lv_icmp_ge (tgt := 40) hx hb dPl_sizeOf_12 (by decide) (fun c1 => ?_) (fun c1 => ?_)
    · replace h := jif_t c1 h
      refine lv_iconst (v := 0) hx hb dPl_sizeOf_40 (by decide) ?_
      refine lv_istore_n (lv' := [(3, .int 0), (0, .ref (A 2)), (1, .int x1), (2, .int x2)]) hx hb dPl_sizeOf_41 rfl hl (by decide) rfl (fun ls hl => ?_)
      exact uPl_sizeOf_42 l dC dI cA A Ap hC hA jfuel _ _ _ _ _ _ _ _ _ hJ (lv_sub hl [1, 2, 3, 0] rfl) h
    · replace h := jif_f c1 h
      refine lv_iload_n hx hb dPl_sizeOf_15 rfl (lv_at hl 1 rfl) ?_
      refine lv_iload_n hx hb dPl_sizeOf_16 rfl (lv_at hl 3 rfl) ?_
      obtain ⟨q7, hq7, h⟩ := jbi_h h
      refine jcalli (w' := fun B => jW cA A B M F) (va_runSN (As := [.int x1, .int x3]) (rest := []) ⟨hx, hb, hml, hown, hts⟩ (cJh_isIn l dC dI cA A x1 x3 M F B H.size hq7) ⟨va_cnB 2 hts (jgood jw_418) rfl rfl rfl (hN _ jnw_22) (hj _ jw_1) (by decide +kernel) ⟨Nat.le_of_ble_eq_true rfl, Nat.le_of_ble_eq_true rfl⟩, hj _ jw_417, trivial⟩ (jpreS hN hJ) rfl rfl hl.1 rfl (lv_room (Nat.le_of_ble_eq_true rfl)) dPl_sizeOf_17 ⟨Nat.zero_le _, Nat.zero_le _⟩) hA hJ (fun B H locs hJ => ?_)
      refine lv_if_eq (tgt := 34) hx hb dPl_sizeOf_20 (by decide) (fun c8 => ?_) (fun c8 => ?_)
      · replace h := jif_t c8 h
        refine lv_iinc (v := x3 + 1) (lv' := [(3, .int (x3 + 1)), (0, .ref (A 2)), (1, .int x1), (2, .int x2)]) hx hb dPl_sizeOf_34 hl (k := 3) rfl rfl (by decide) rfl (fun ls hl => ?_)
        refine lv_goto (tgt := 4) hx hb dPl_sizeOf_37 (by decide) ?_
        exact ih _ _ _ _ _ _ _ _ _ hJ (lv_sub hl [1, 2, 3, 0] rfl) h
      · replace h := jif_f c8 h
        refine lv_iload_n hx hb dPl_sizeOf_23 rfl (lv_at hl 2 rfl) ?_
        refine lv_aload_n hx hb dPl_sizeOf_24 rfl (lv_at hl 0 rfl) ?_
        refine va_get (D := (dC, dI)) (ci := 2) (v := .ref (A 3)) (C := RPl) (T := TPl) (N := 4) hx hb hj iPl hown hJ.1 hJ.2.1 2 rfl rfl 0 (by decide) (hj _ jw_102) (fun _ h9 => h9) rfl dPl_sizeOf_25 ?_
        refine lv_iload_n hx hb dPl_sizeOf_28 rfl (lv_at hl 3 rfl) ?_
        obtain ⟨q9, hq9, h⟩ := jbi_h h
        refine jcalli (w' := fun B => jW cA A B M F) (va_runV (As := [.int x3]) (rest := [.int x2]) ⟨hx, hb, hml, hown, hts⟩ (cQu_rowsOf l dC dI cA A x3 M F B H.size hq9) (cwV 1 hts (jgoodV jw_419 jw_420 jw_421 jw_4 jw_422) rfl rfl rfl (by decide +kernel) ⟨Nat.le_of_ble_eq_true rfl, Nat.le_of_ble_eq_true rfl⟩) (jpreV hN hJ (ci := 3) (q0 := 3) rfl rfl) rfl rfl hl.1 rfl (lv_room (Nat.le_of_ble_eq_true rfl)) dPl_sizeOf_29 ⟨Nat.zero_le _, Nat.zero_le _⟩) hA hJ (fun B H locs hJ => ?_)
        refine lv_imul hx hb dPl_sizeOf_32 ?_
        refine lv_istore_n (lv' := [(2, .int (x2 * q9)), (0, .ref (A 2)), (1, .int x1), (3, .int x3)]) hx hb dPl_sizeOf_33 rfl hl (by decide) rfl (fun ls hl => ?_)
        refine lv_iinc (v := x3 + 1) (lv' := [(3, .int (x3 + 1)), (2, .int (x2 * q9)), (0, .ref (A 2)), (1, .int x1)]) hx hb dPl_sizeOf_34 hl (k := 3) rfl rfl (by decide) rfl (fun ls hl => ?_)
        refine lv_goto (tgt := 4) hx hb dPl_sizeOf_37 (by decide) ?_
        exact ih _ _ _ _ _ _ _ _ _ hJ (lv_sub hl [2, 3, 1, 0] rfl) h
set_option maxHeartbeats 4000000 in
set_option maxRecDepth 100000 in
theorem uPl_sizeOf_0 {p : Program} {e : Env} {s : State} {m : MethodId} {args : Array Value} {below : List Frame} {meth : Method} {c : Code} (l : Launch) (dC : Nat → ClassId) (dI : Nat → Nat → Nat) (cA : ClassId) (A : Nat → Nat) (Ap : Nat → Prop) (hC : jAt p s m args meth c bPl_sizeOf 4 (some .int) wPl_sizeOf RPl) (hA : ∀ q : Nat, s.heap.size ≤ q → Ap q) {r : Int32} : ∀ (x1 : Int32) (M : jM) (F : jF) (B : Nat → Nat) (H : Heap) (locs : List Loc) (ls : Array Slot), jH (dC, dI) jCl [(cA, .int)] (jW cA A B M F) Ap s H locs → lv_has ls 4 [(0, .ref (A 2)), (1, .int x1)] → fPl_sizeOf_0 x1 M F = some r → W p l e (headSpec wPl_sizeOf rPl_sizeOf).room s m args below meth c H locs 0 0 (jQi below (dC, dI) jCl [(cA, .int)] (fun B => jW cA A B M F) Ap args s r) (F0 m 0 ls []) := by
  obtain ⟨hx, hb, hml, hr, hts, hown, hlocks, hN⟩ := id hC
  have hj : ∀ w ∈ jw, w.before args s = true := fun w h => hts w (List.mem_cons_of_mem _ h)
  intro x1 M F B H locs ls hJ hl h
  unfold fPl_sizeOf_0 at h
  refine lv_iconst (v := 1) hx hb dPl_sizeOf_0 (by decide) ?_
  refine lv_istore_n (lv' := [(2, .int 1), (0, .ref (A 2)), (1, .int x1)]) hx hb dPl_sizeOf_1 rfl hl (by decide) rfl (fun ls hl => ?_)
  refine lv_iconst (v := 0) hx hb dPl_sizeOf_2 (by decide) ?_
  refine lv_istore_n (lv' := [(3, .int 0), (2, .int 1), (0, .ref (A 2)), (1, .int x1)]) hx hb dPl_sizeOf_3 rfl hl (by decide) rfl (fun ls hl => ?_)
  exact uPl_sizeOf_4 l dC dI cA A Ap hC hA jfuel _ _ _ _ _ _ _ _ _ hJ (lv_sub hl [2, 3, 1, 0] rfl) h
set_option maxHeartbeats 4000000 in
set_option maxRecDepth 100000 in
theorem cPl_sizeOf (l : Launch) (dC : Nat → ClassId) (dI : Nat → Nat → Nat) (cA : ClassId) (A : Nat → Nat) (x1 : Int32) (M : jM) (F : jF) (B : Nat → Nat) (sz : Nat) {r : Int32} (h : fPl_sizeOf x1 M F = some r) : jCi l yPl_sizeOf wPl_sizeOf rPl_sizeOf (dC, dI) jCl [(cA, .int)] [.ref (A 2), .int x1] (jW cA A B M F) sz r (fun B => jW cA A B M F) :=
  jOf (Qc := fun Ap => va_Qi (fun q (_ : Nat → Nat) => q = r) (jPost (dC, dI) jCl [(cA, .int)] (fun B => jW cA A B M F) Ap) Ap) (by decide) rfl (Nat.le_of_ble_eq_true rfl) (fun p e s m below meth c Ap ls hC hA hJ hl => uPl_sizeOf_0 l dC dI cA A Ap hC hA _ _ _ _ _ _ _ hJ (lv_sub hl [0, 1] rfl) h)
abbrev bPl_sumFrom : ByteArray := prog_2_method_10_code
abbrev yPl_sumFrom : MethodName := ⟨RPl, "sumFrom", "(II)I"⟩
abbrev wPl_sumFrom : List Cond := .code yPl_sumFrom bPl_sumFrom 4 (some .int) :: jw
theorem dPl_sumFrom_0 : decode bPl_sumFrom 0 = .ok (.iload_n 1, 1) := by decide +kernel
theorem dPl_sumFrom_1 : decode bPl_sumFrom 1 = .ok (.iconst 1, 1) := by decide +kernel
theorem dPl_sumFrom_2 : decode bPl_sumFrom 2 = .ok (.iload_n 2, 1) := by decide +kernel
theorem dPl_sumFrom_3 : decode bPl_sumFrom 3 = .ok (.ishl, 1) := by decide +kernel
theorem dPl_sumFrom_4 : decode bPl_sumFrom 4 = .ok (.ior, 1) := by decide +kernel
theorem dPl_sumFrom_5 : decode bPl_sumFrom 5 = .ok (.istore_n 3, 1) := by decide +kernel
theorem dPl_sumFrom_6 : decode bPl_sumFrom 6 = .ok (.aload_n 0, 1) := by decide +kernel
theorem dPl_sumFrom_7 : decode bPl_sumFrom 7 = .ok (.getfield 18, 3) := by decide +kernel
theorem dPl_sumFrom_10 : decode bPl_sumFrom 10 = .ok (.iload_n 3, 1) := by decide +kernel
theorem dPl_sumFrom_11 : decode bPl_sumFrom 11 = .ok (.iaload, 1) := by decide +kernel
theorem dPl_sumFrom_12 : decode bPl_sumFrom 12 = .ok (.aload_n 0, 1) := by decide +kernel
theorem dPl_sumFrom_13 : decode bPl_sumFrom 13 = .ok (.getfield 22, 3) := by decide +kernel
theorem dPl_sumFrom_16 : decode bPl_sumFrom 16 = .ok (.iload_n 3, 1) := by decide +kernel
theorem dPl_sumFrom_17 : decode bPl_sumFrom 17 = .ok (.iaload, 1) := by decide +kernel
theorem dPl_sumFrom_18 : decode bPl_sumFrom 18 = .ok (.iadd, 1) := by decide +kernel
theorem dPl_sumFrom_19 : decode bPl_sumFrom 19 = .ok (.ireturn, 1) := by decide +kernel
abbrev rPl_sumFrom : Room := { frames := 0, cells := 0, slots := 0, locals := 0 }
def fPl_sumFrom_0 (x1 : Int32) (x2 : Int32) (M : jM) (F : jF) : Option Int32 := (if jib (x1 ||| (1 <<< (x2 &&& 31))) 64 then (if jib (x1 ||| (1 <<< (x2 &&& 31))) 64 then some ((M 17 (x1 ||| (1 <<< (x2 &&& 31))).toNatClampNeg) + (M 18 (x1 ||| (1 <<< (x2 &&& 31))).toNatClampNeg)) else none) else none)
abbrev fPl_sumFrom (x1 : Int32) (x2 : Int32) (M : jM) (F : jF) : Option Int32 := fPl_sumFrom_0 x1 x2 M F
set_option maxHeartbeats 4000000 in
set_option maxRecDepth 100000 in
theorem uPl_sumFrom_0 {p : Program} {e : Env} {s : State} {m : MethodId} {args : Array Value} {below : List Frame} {meth : Method} {c : Code} (l : Launch) (dC : Nat → ClassId) (dI : Nat → Nat → Nat) (cA : ClassId) (A : Nat → Nat) (Ap : Nat → Prop) (hC : jAt p s m args meth c bPl_sumFrom 4 (some .int) wPl_sumFrom RPl) (hA : ∀ q : Nat, s.heap.size ≤ q → Ap q) {r : Int32} : ∀ (x1 x2 : Int32) (M : jM) (F : jF) (B : Nat → Nat) (H : Heap) (locs : List Loc) (ls : Array Slot), jH (dC, dI) jCl [(cA, .int)] (jW cA A B M F) Ap s H locs → lv_has ls 4 [(0, .ref (A 2)), (1, .int x1), (2, .int x2)] → fPl_sumFrom_0 x1 x2 M F = some r → W p l e (headSpec wPl_sumFrom rPl_sumFrom).room s m args below meth c H locs 0 0 (jQi below (dC, dI) jCl [(cA, .int)] (fun B => jW cA A B M F) Ap args s r) (F0 m 0 ls []) := by
  obtain ⟨hx, hb, hml, hr, hts, hown, hlocks, hN⟩ := id hC
  have hj : ∀ w ∈ jw, w.before args s = true := fun w h => hts w (List.mem_cons_of_mem _ h)
  intro x1 x2 M F B H locs ls hJ hl h
  unfold fPl_sumFrom_0 at h
  refine lv_iload_n hx hb dPl_sumFrom_0 rfl (lv_at hl 1 rfl) ?_
  refine lv_iconst (v := 1) hx hb dPl_sumFrom_1 (by decide) ?_
  refine lv_iload_n hx hb dPl_sumFrom_2 rfl (lv_at hl 2 rfl) ?_
  refine lv_ishl hx hb dPl_sumFrom_3 ?_
  refine lv_ior hx hb dPl_sumFrom_4 ?_
  refine lv_istore_n (lv' := [(3, .int (x1 ||| (1 <<< (x2 &&& 31)))), (0, .ref (A 2)), (1, .int x1), (2, .int x2)]) hx hb dPl_sumFrom_5 rfl hl (by decide) rfl (fun ls hl => ?_)
  refine lv_aload_n hx hb dPl_sumFrom_6 rfl (lv_at hl 1 rfl) ?_
  refine va_get (D := (dC, dI)) (ci := 2) (v := .ref (A 17)) (C := RPl) (T := TPl) (N := 4) hx hb hj iPl hown hJ.1 hJ.2.1 2 rfl rfl 1 (by decide) (hj _ jw_105) (fun _ h9 => h9) rfl dPl_sumFrom_7 ?_
  refine lv_iload_n hx hb dPl_sumFrom_10 rfl (lv_at hl 0 rfl) ?_
  obtain ⟨hi1, h⟩ := jib_h h
  refine jald_17 hx hb hJ hi1 dPl_sumFrom_11 ?_
  refine lv_aload_n hx hb dPl_sumFrom_12 rfl (lv_at hl 1 rfl) ?_
  refine va_get (D := (dC, dI)) (ci := 2) (v := .ref (A 18)) (C := RPl) (T := TPl) (N := 4) hx hb hj iPl hown hJ.1 hJ.2.1 2 rfl rfl 2 (by decide) (hj _ jw_106) (fun _ h9 => h9) rfl dPl_sumFrom_13 ?_
  refine lv_iload_n hx hb dPl_sumFrom_16 rfl (lv_at hl 0 rfl) ?_
  obtain ⟨hi2, h⟩ := jib_h h
  refine jald_18 hx hb hJ hi2 dPl_sumFrom_17 ?_
  refine lv_iadd hx hb dPl_sumFrom_18 ?_
  exact jreti (u := B) hx hb hr rfl hlocks hJ dPl_sumFrom_19 (Option.some.inj h)
set_option maxHeartbeats 4000000 in
set_option maxRecDepth 100000 in
theorem cPl_sumFrom (l : Launch) (dC : Nat → ClassId) (dI : Nat → Nat → Nat) (cA : ClassId) (A : Nat → Nat) (x1 : Int32) (x2 : Int32) (M : jM) (F : jF) (B : Nat → Nat) (sz : Nat) {r : Int32} (h : fPl_sumFrom x1 x2 M F = some r) : jCi l yPl_sumFrom wPl_sumFrom rPl_sumFrom (dC, dI) jCl [(cA, .int)] [.ref (A 2), .int x1, .int x2] (jW cA A B M F) sz r (fun B => jW cA A B M F) :=
  jOf (Qc := fun Ap => va_Qi (fun q (_ : Nat → Nat) => q = r) (jPost (dC, dI) jCl [(cA, .int)] (fun B => jW cA A B M F) Ap) Ap) (by decide) rfl (Nat.le_of_ble_eq_true rfl) (fun p e s m below meth c Ap ls hC hA hJ hl => uPl_sumFrom_0 l dC dI cA A Ap hC hA _ _ _ _ _ _ _ _ hJ (lv_sub hl [0, 1, 2] rfl) h)
abbrev bPl_bestAfter : ByteArray := prog_2_method_9_code
abbrev yPl_bestAfter : MethodName := ⟨RPl, "bestAfter", "(I)I"⟩
abbrev wPl_bestAfter : List Cond := .code yPl_bestAfter bPl_bestAfter 4 (some .int) :: jw
theorem dPl_bestAfter_0 : decode bPl_bestAfter 0 = .ok (.iconst (-1), 1) := by decide +kernel
theorem dPl_bestAfter_1 : decode bPl_bestAfter 1 = .ok (.istore_n 2, 1) := by decide +kernel
theorem dPl_bestAfter_2 : decode bPl_bestAfter 2 = .ok (.iconst 0, 1) := by decide +kernel
theorem dPl_bestAfter_3 : decode bPl_bestAfter 3 = .ok (.istore_n 3, 1) := by decide +kernel
theorem dPl_bestAfter_4 : decode bPl_bestAfter 4 = .ok (.iload_n 3, 1) := by decide +kernel
theorem dPl_bestAfter_5 : decode bPl_bestAfter 5 = .ok (.aload_n 0, 1) := by decide +kernel
theorem dPl_bestAfter_6 : decode bPl_bestAfter 6 = .ok (.getfield 12, 3) := by decide +kernel
theorem dPl_bestAfter_9 : decode bPl_bestAfter 9 = .ok (.getfield 28, 3) := by decide +kernel
theorem dPl_bestAfter_12 : decode bPl_bestAfter 12 = .ok (.if_icmp .ge 42, 3) := by decide +kernel
theorem dPl_bestAfter_15 : decode bPl_bestAfter 15 = .ok (.iload_n 1, 1) := by decide +kernel
theorem dPl_bestAfter_16 : decode bPl_bestAfter 16 = .ok (.iload_n 3, 1) := by decide +kernel
theorem dPl_bestAfter_17 : decode bPl_bestAfter 17 = .ok (.invokestatic 63, 3) := by decide +kernel
theorem dPl_bestAfter_20 : decode bPl_bestAfter 20 = .ok (.ifCond .eq 6, 3) := by decide +kernel
theorem dPl_bestAfter_23 : decode bPl_bestAfter 23 = .ok (.goto 25, 3) := by decide +kernel
theorem dPl_bestAfter_26 : decode bPl_bestAfter 26 = .ok (.iload_n 2, 1) := by decide +kernel
theorem dPl_bestAfter_27 : decode bPl_bestAfter 27 = .ok (.iconst (-1), 1) := by decide +kernel
theorem dPl_bestAfter_28 : decode bPl_bestAfter 28 = .ok (.if_icmp .eq 18, 3) := by decide +kernel
theorem dPl_bestAfter_31 : decode bPl_bestAfter 31 = .ok (.aload_n 0, 1) := by decide +kernel
theorem dPl_bestAfter_32 : decode bPl_bestAfter 32 = .ok (.iload_n 1, 1) := by decide +kernel
theorem dPl_bestAfter_33 : decode bPl_bestAfter 33 = .ok (.iload_n 3, 1) := by decide +kernel
theorem dPl_bestAfter_34 : decode bPl_bestAfter 34 = .ok (.invokevirtual 39, 3) := by decide +kernel
theorem dPl_bestAfter_37 : decode bPl_bestAfter 37 = .ok (.aload_n 0, 1) := by decide +kernel
theorem dPl_bestAfter_38 : decode bPl_bestAfter 38 = .ok (.iload_n 1, 1) := by decide +kernel
theorem dPl_bestAfter_39 : decode bPl_bestAfter 39 = .ok (.iload_n 2, 1) := by decide +kernel
theorem dPl_bestAfter_40 : decode bPl_bestAfter 40 = .ok (.invokevirtual 39, 3) := by decide +kernel
theorem dPl_bestAfter_43 : decode bPl_bestAfter 43 = .ok (.if_icmp .ge 5, 3) := by decide +kernel
theorem dPl_bestAfter_46 : decode bPl_bestAfter 46 = .ok (.iload_n 3, 1) := by decide +kernel
theorem dPl_bestAfter_47 : decode bPl_bestAfter 47 = .ok (.istore_n 2, 1) := by decide +kernel
theorem dPl_bestAfter_48 : decode bPl_bestAfter 48 = .ok (.iinc 3 1, 3) := by decide +kernel
theorem dPl_bestAfter_51 : decode bPl_bestAfter 51 = .ok (.goto (-47), 3) := by decide +kernel
theorem dPl_bestAfter_54 : decode bPl_bestAfter 54 = .ok (.iload_n 2, 1) := by decide +kernel
theorem dPl_bestAfter_55 : decode bPl_bestAfter 55 = .ok (.ireturn, 1) := by decide +kernel
abbrev rPl_bestAfter : Room := { frames := 1, cells := 0, slots := 0, locals := 23 }
def fPl_bestAfter_4 : Nat → Int32 → Int32 → Int32 → jM → jF → Option Int32
  | 0, _, _, _, _, _ => none
  | n + 1, x1, x2, x3, M, F => (if (F 0) ≤ x3 then some x2 else ((fJh_isIn x1 x3 M F).bind fun q2 => (if q2 = 0 then (if x2 = (-1) then fPl_bestAfter_4 n x1 x3 (x3 + 1) M F else ((fPl_sumFrom x1 x3 M F).bind fun q5 => ((fPl_sumFrom x1 x2 M F).bind fun q6 => (if q6 ≤ q5 then fPl_bestAfter_4 n x1 x2 (x3 + 1) M F else fPl_bestAfter_4 n x1 x3 (x3 + 1) M F)))) else fPl_bestAfter_4 n x1 x2 (x3 + 1) M F)))
def fPl_bestAfter_0 (x1 : Int32) (M : jM) (F : jF) : Option Int32 := fPl_bestAfter_4 jfuel x1 (-1) 0 M F
abbrev fPl_bestAfter (x1 : Int32) (M : jM) (F : jF) : Option Int32 := fPl_bestAfter_0 x1 M F
set_option maxHeartbeats 4000000 in
set_option maxRecDepth 100000 in
theorem uPl_bestAfter_4 {p : Program} {e : Env} {s : State} {m : MethodId} {args : Array Value} {below : List Frame} {meth : Method} {c : Code} (l : Launch) (dC : Nat → ClassId) (dI : Nat → Nat → Nat) (cA : ClassId) (A : Nat → Nat) (Ap : Nat → Prop) (hC : jAt p s m args meth c bPl_bestAfter 4 (some .int) wPl_bestAfter RPl) (hA : ∀ q : Nat, s.heap.size ≤ q → Ap q) {r : Int32} : ∀ (n : Nat) (x1 x2 x3 : Int32) (M : jM) (F : jF) (B : Nat → Nat) (H : Heap) (locs : List Loc) (ls : Array Slot), jH (dC, dI) jCl [(cA, .int)] (jW cA A B M F) Ap s H locs → lv_has ls 4 [(0, .ref (A 2)), (1, .int x1), (2, .int x2), (3, .int x3)] → fPl_bestAfter_4 n x1 x2 x3 M F = some r → W p l e (headSpec wPl_bestAfter rPl_bestAfter).room s m args below meth c H locs 0 0 (jQi below (dC, dI) jCl [(cA, .int)] (fun B => jW cA A B M F) Ap args s r) (F0 m 4 ls []) := by
  obtain ⟨hx, hb, hml, hr, hts, hown, hlocks, hN⟩ := id hC
  have hj : ∀ w ∈ jw, w.before args s = true := fun w h => hts w (List.mem_cons_of_mem _ h)
  intro n
  induction n with
  | zero =>
    intro x1 x2 x3 M F B H locs ls hJ hl h
    rw [fPl_bestAfter_4] at h
    cases h
  | succ n ih =>
    intro x1 x2 x3 M F B H locs ls hJ hl h
    rw [fPl_bestAfter_4] at h
    refine lv_iload_n hx hb dPl_bestAfter_4 rfl (lv_at hl 3 rfl) ?_
    refine lv_aload_n hx hb dPl_bestAfter_5 rfl (lv_at hl 0 rfl) ?_
    refine va_get (D := (dC, dI)) (ci := 2) (v := .ref (A 3)) (C := RPl) (T := TPl) (N := 4) hx hb hj iPl hown hJ.1 hJ.2.1 2 rfl rfl 0 (by decide) (hj _ jw_102) (fun _ h9 => h9) rfl dPl_bestAfter_6 ?_
    refine va_getN (D := (dC, dI)) (ci := 3) (v := .int (F 0)) (C := RQu) (T := TQu) (N := 10) hx hb hj iQu hown hJ.1 hJ.2.1 3 rfl rfl 8 (by decide) (jnw_use hN jnw_6) (fun _ h9 => h9) rfl dPl_bestAfter_9 ?_
    refine lv_icmp_ge (tgt := 54) hx hb dPl_bestAfter_12 (by decide) (fun c1 => ?_) (fun c1 => ?_)
    · replace h := jif_t c1 h
      refine lv_iload_n hx hb dPl_bestAfter_54 rfl (lv_at hl 2 rfl) ?_
      exact jreti (u := B) hx hb hr rfl hlocks hJ dPl_bestAfter_55 (Option.some.inj h)
    · replace h := jif_f c1 h
      refine lv_iload_n hx hb dPl_bestAfter_15 rfl (lv_at hl 1 rfl) ?_
      refine lv_iload_n hx hb dPl_bestAfter_16 rfl (lv_at hl 3 rfl) ?_
      obtain ⟨q2, hq2, h⟩ := jbi_h h
      refine jcalli (w' := fun B => jW cA A B M F) (va_runSN (As := [.int x1, .int x3]) (rest := []) ⟨hx, hb, hml, hown, hts⟩ (cJh_isIn l dC dI cA A x1 x3 M F B H.size hq2) ⟨va_cnB 2 hts (jgood jw_418) rfl rfl rfl (hN _ jnw_22) (hj _ jw_1) (by decide +kernel) ⟨Nat.le_of_ble_eq_true rfl, Nat.le_of_ble_eq_true rfl⟩, hj _ jw_417, trivial⟩ (jpreS hN hJ) rfl rfl hl.1 rfl (lv_room (Nat.le_of_ble_eq_true rfl)) dPl_bestAfter_17 ⟨Nat.zero_le _, Nat.zero_le _⟩) hA hJ (fun B H locs hJ => ?_)
      refine lv_if_eq (tgt := 26) hx hb dPl_bestAfter_20 (by decide) (fun c3 => ?_) (fun c3 => ?_)
      · replace h := jif_t c3 h
        refine lv_iload_n hx hb dPl_bestAfter_26 rfl (lv_at hl 2 rfl) ?_
        refine lv_iconst (v := (-1)) hx hb dPl_bestAfter_27 (by decide) ?_
        refine lv_icmp_eq (tgt := 46) hx hb dPl_bestAfter_28 (by decide) (fun c4 => ?_) (fun c4 => ?_)
        · replace h := jif_t c4 h
          refine lv_iload_n hx hb dPl_bestAfter_46 rfl (lv_at hl 3 rfl) ?_
          refine lv_istore_n (lv' := [(2, .int x3), (0, .ref (A 2)), (1, .int x1), (3, .int x3)]) hx hb dPl_bestAfter_47 rfl hl (by decide) rfl (fun ls hl => ?_)
          refine lv_iinc (v := x3 + 1) (lv' := [(3, .int (x3 + 1)), (2, .int x3), (0, .ref (A 2)), (1, .int x1)]) hx hb dPl_bestAfter_48 hl (k := 3) rfl rfl (by decide) rfl (fun ls hl => ?_)
          refine lv_goto (tgt := 4) hx hb dPl_bestAfter_51 (by decide) ?_
          exact ih _ _ _ _ _ _ _ _ _ hJ (lv_sub hl [2, 3, 1, 0] rfl) h
        · replace h := jif_f c4 h
          refine lv_aload_n hx hb dPl_bestAfter_31 rfl (lv_at hl 0 rfl) ?_
          refine lv_iload_n hx hb dPl_bestAfter_32 rfl (lv_at hl 1 rfl) ?_
          refine lv_iload_n hx hb dPl_bestAfter_33 rfl (lv_at hl 3 rfl) ?_
          obtain ⟨q5, hq5, h⟩ := jbi_h h
          refine jcalli (w' := fun B => jW cA A B M F) (va_runV (As := [.int x1, .int x3]) (rest := []) ⟨hx, hb, hml, hown, hts⟩ (cPl_sumFrom l dC dI cA A x1 x3 M F B H.size hq5) (cwV 2 hts (jgoodV jw_447 jw_449 jws_8 jw_3 jw_450) rfl rfl rfl (by decide +kernel) ⟨Nat.le_of_ble_eq_true rfl, Nat.le_of_ble_eq_true rfl⟩) (jpreV hN hJ (ci := 2) (q0 := 2) rfl rfl) rfl rfl hl.1 rfl (lv_room (Nat.le_of_ble_eq_true rfl)) dPl_bestAfter_34 ⟨Nat.zero_le _, Nat.zero_le _⟩) hA hJ (fun B H locs hJ => ?_)
          refine lv_aload_n hx hb dPl_bestAfter_37 rfl (lv_at hl 0 rfl) ?_
          refine lv_iload_n hx hb dPl_bestAfter_38 rfl (lv_at hl 1 rfl) ?_
          refine lv_iload_n hx hb dPl_bestAfter_39 rfl (lv_at hl 2 rfl) ?_
          obtain ⟨q6, hq6, h⟩ := jbi_h h
          refine jcalli (w' := fun B => jW cA A B M F) (va_runV (As := [.int x1, .int x2]) (rest := [.int q5]) ⟨hx, hb, hml, hown, hts⟩ (cPl_sumFrom l dC dI cA A x1 x2 M F B H.size hq6) (cwV 2 hts (jgoodV jw_447 jw_449 jws_8 jw_3 jw_450) rfl rfl rfl (by decide +kernel) ⟨Nat.le_of_ble_eq_true rfl, Nat.le_of_ble_eq_true rfl⟩) (jpreV hN hJ (ci := 2) (q0 := 2) rfl rfl) rfl rfl hl.1 rfl (lv_room (Nat.le_of_ble_eq_true rfl)) dPl_bestAfter_40 ⟨Nat.zero_le _, Nat.zero_le _⟩) hA hJ (fun B H locs hJ => ?_)
          refine lv_icmp_ge (tgt := 48) hx hb dPl_bestAfter_43 (by decide) (fun c7 => ?_) (fun c7 => ?_)
          · replace h := jif_t c7 h
            refine lv_iinc (v := x3 + 1) (lv' := [(3, .int (x3 + 1)), (0, .ref (A 2)), (1, .int x1), (2, .int x2)]) hx hb dPl_bestAfter_48 hl (k := 3) rfl rfl (by decide) rfl (fun ls hl => ?_)
            refine lv_goto (tgt := 4) hx hb dPl_bestAfter_51 (by decide) ?_
            exact ih _ _ _ _ _ _ _ _ _ hJ (lv_sub hl [1, 2, 3, 0] rfl) h
          · replace h := jif_f c7 h
            refine lv_iload_n hx hb dPl_bestAfter_46 rfl (lv_at hl 3 rfl) ?_
            refine lv_istore_n (lv' := [(2, .int x3), (0, .ref (A 2)), (1, .int x1), (3, .int x3)]) hx hb dPl_bestAfter_47 rfl hl (by decide) rfl (fun ls hl => ?_)
            refine lv_iinc (v := x3 + 1) (lv' := [(3, .int (x3 + 1)), (2, .int x3), (0, .ref (A 2)), (1, .int x1)]) hx hb dPl_bestAfter_48 hl (k := 3) rfl rfl (by decide) rfl (fun ls hl => ?_)
            refine lv_goto (tgt := 4) hx hb dPl_bestAfter_51 (by decide) ?_
            exact ih _ _ _ _ _ _ _ _ _ hJ (lv_sub hl [2, 3, 1, 0] rfl) h
      · replace h := jif_f c3 h
        refine lv_goto (tgt := 48) hx hb dPl_bestAfter_23 (by decide) ?_
        refine lv_iinc (v := x3 + 1) (lv' := [(3, .int (x3 + 1)), (0, .ref (A 2)), (1, .int x1), (2, .int x2)]) hx hb dPl_bestAfter_48 hl (k := 3) rfl rfl (by decide) rfl (fun ls hl => ?_)
        refine lv_goto (tgt := 4) hx hb dPl_bestAfter_51 (by decide) ?_
        exact ih _ _ _ _ _ _ _ _ _ hJ (lv_sub hl [1, 2, 3, 0] rfl) h
set_option maxHeartbeats 4000000 in
set_option maxRecDepth 100000 in
theorem uPl_bestAfter_0 {p : Program} {e : Env} {s : State} {m : MethodId} {args : Array Value} {below : List Frame} {meth : Method} {c : Code} (l : Launch) (dC : Nat → ClassId) (dI : Nat → Nat → Nat) (cA : ClassId) (A : Nat → Nat) (Ap : Nat → Prop) (hC : jAt p s m args meth c bPl_bestAfter 4 (some .int) wPl_bestAfter RPl) (hA : ∀ q : Nat, s.heap.size ≤ q → Ap q) {r : Int32} : ∀ (x1 : Int32) (M : jM) (F : jF) (B : Nat → Nat) (H : Heap) (locs : List Loc) (ls : Array Slot), jH (dC, dI) jCl [(cA, .int)] (jW cA A B M F) Ap s H locs → lv_has ls 4 [(0, .ref (A 2)), (1, .int x1)] → fPl_bestAfter_0 x1 M F = some r → W p l e (headSpec wPl_bestAfter rPl_bestAfter).room s m args below meth c H locs 0 0 (jQi below (dC, dI) jCl [(cA, .int)] (fun B => jW cA A B M F) Ap args s r) (F0 m 0 ls []) := by
  obtain ⟨hx, hb, hml, hr, hts, hown, hlocks, hN⟩ := id hC
  have hj : ∀ w ∈ jw, w.before args s = true := fun w h => hts w (List.mem_cons_of_mem _ h)
  intro x1 M F B H locs ls hJ hl h
  unfold fPl_bestAfter_0 at h
  refine lv_iconst (v := (-1)) hx hb dPl_bestAfter_0 (by decide) ?_
  refine lv_istore_n (lv' := [(2, .int (-1)), (0, .ref (A 2)), (1, .int x1)]) hx hb dPl_bestAfter_1 rfl hl (by decide) rfl (fun ls hl => ?_)
  refine lv_iconst (v := 0) hx hb dPl_bestAfter_2 (by decide) ?_
  refine lv_istore_n (lv' := [(3, .int 0), (2, .int (-1)), (0, .ref (A 2)), (1, .int x1)]) hx hb dPl_bestAfter_3 rfl hl (by decide) rfl (fun ls hl => ?_)
  exact uPl_bestAfter_4 l dC dI cA A Ap hC hA jfuel _ _ _ _ _ _ _ _ _ hJ (lv_sub hl [2, 3, 1, 0] rfl) h
set_option maxHeartbeats 4000000 in
set_option maxRecDepth 100000 in
theorem cPl_bestAfter (l : Launch) (dC : Nat → ClassId) (dI : Nat → Nat → Nat) (cA : ClassId) (A : Nat → Nat) (x1 : Int32) (M : jM) (F : jF) (B : Nat → Nat) (sz : Nat) {r : Int32} (h : fPl_bestAfter x1 M F = some r) : jCi l yPl_bestAfter wPl_bestAfter rPl_bestAfter (dC, dI) jCl [(cA, .int)] [.ref (A 2), .int x1] (jW cA A B M F) sz r (fun B => jW cA A B M F) :=
  jOf (Qc := fun Ap => va_Qi (fun q (_ : Nat → Nat) => q = r) (jPost (dC, dI) jCl [(cA, .int)] (fun B => jW cA A B M F) Ap) Ap) (by decide) rfl (Nat.le_of_ble_eq_true rfl) (fun p e s m below meth c Ap ls hC hA hJ hl => uPl_bestAfter_0 l dC dI cA A Ap hC hA _ _ _ _ _ _ _ hJ (lv_sub hl [0, 1] rfl) h)
abbrev bPl_make : ByteArray := prog_2_method_2_code
abbrev yPl_make : MethodName := ⟨RPl, "make", "()V"⟩
abbrev wPl_make : List Cond := .code yPl_make bPl_make 4 none :: jw
theorem dPl_make_0 : decode bPl_make 0 = .ok (.iconst 1, 1) := by decide +kernel
theorem dPl_make_1 : decode bPl_make 1 = .ok (.aload_n 0, 1) := by decide +kernel
theorem dPl_make_2 : decode bPl_make 2 = .ok (.getfield 12, 3) := by decide +kernel
theorem dPl_make_5 : decode bPl_make 5 = .ok (.getfield 28, 3) := by decide +kernel
theorem dPl_make_8 : decode bPl_make 8 = .ok (.ishl, 1) := by decide +kernel
theorem dPl_make_9 : decode bPl_make 9 = .ok (.iconst 1, 1) := by decide +kernel
theorem dPl_make_10 : decode bPl_make 10 = .ok (.isub, 1) := by decide +kernel
theorem dPl_make_11 : decode bPl_make 11 = .ok (.istore_n 1, 1) := by decide +kernel
theorem dPl_make_12 : decode bPl_make 12 = .ok (.iconst 0, 1) := by decide +kernel
theorem dPl_make_13 : decode bPl_make 13 = .ok (.istore_n 2, 1) := by decide +kernel
theorem dPl_make_14 : decode bPl_make 14 = .ok (.iload_n 2, 1) := by decide +kernel
theorem dPl_make_15 : decode bPl_make 15 = .ok (.iload_n 1, 1) := by decide +kernel
theorem dPl_make_16 : decode bPl_make 16 = .ok (.if_icmp .gt 20, 3) := by decide +kernel
theorem dPl_make_19 : decode bPl_make 19 = .ok (.aload_n 0, 1) := by decide +kernel
theorem dPl_make_20 : decode bPl_make 20 = .ok (.getfield 18, 3) := by decide +kernel
theorem dPl_make_23 : decode bPl_make 23 = .ok (.iload_n 2, 1) := by decide +kernel
theorem dPl_make_24 : decode bPl_make 24 = .ok (.aload_n 0, 1) := by decide +kernel
theorem dPl_make_25 : decode bPl_make 25 = .ok (.iload_n 2, 1) := by decide +kernel
theorem dPl_make_26 : decode bPl_make 26 = .ok (.invokevirtual 32, 3) := by decide +kernel
theorem dPl_make_29 : decode bPl_make 29 = .ok (.iastore, 1) := by decide +kernel
theorem dPl_make_30 : decode bPl_make 30 = .ok (.iinc 2 1, 3) := by decide +kernel
theorem dPl_make_33 : decode bPl_make 33 = .ok (.goto (-19), 3) := by decide +kernel
theorem dPl_make_36 : decode bPl_make 36 = .ok (.aload_n 0, 1) := by decide +kernel
theorem dPl_make_37 : decode bPl_make 37 = .ok (.getfield 22, 3) := by decide +kernel
theorem dPl_make_40 : decode bPl_make 40 = .ok (.iload_n 1, 1) := by decide +kernel
theorem dPl_make_41 : decode bPl_make 41 = .ok (.iconst 0, 1) := by decide +kernel
theorem dPl_make_42 : decode bPl_make 42 = .ok (.iastore, 1) := by decide +kernel
theorem dPl_make_43 : decode bPl_make 43 = .ok (.iload_n 1, 1) := by decide +kernel
theorem dPl_make_44 : decode bPl_make 44 = .ok (.iconst 1, 1) := by decide +kernel
theorem dPl_make_45 : decode bPl_make 45 = .ok (.isub, 1) := by decide +kernel
theorem dPl_make_46 : decode bPl_make 46 = .ok (.istore_n 2, 1) := by decide +kernel
theorem dPl_make_47 : decode bPl_make 47 = .ok (.iload_n 2, 1) := by decide +kernel
theorem dPl_make_48 : decode bPl_make 48 = .ok (.ifCond .lt 25, 3) := by decide +kernel
theorem dPl_make_51 : decode bPl_make 51 = .ok (.aload_n 0, 1) := by decide +kernel
theorem dPl_make_52 : decode bPl_make 52 = .ok (.getfield 22, 3) := by decide +kernel
theorem dPl_make_55 : decode bPl_make 55 = .ok (.iload_n 2, 1) := by decide +kernel
theorem dPl_make_56 : decode bPl_make 56 = .ok (.aload_n 0, 1) := by decide +kernel
theorem dPl_make_57 : decode bPl_make 57 = .ok (.iload_n 2, 1) := by decide +kernel
theorem dPl_make_58 : decode bPl_make 58 = .ok (.aload_n 0, 1) := by decide +kernel
theorem dPl_make_59 : decode bPl_make 59 = .ok (.iload_n 2, 1) := by decide +kernel
theorem dPl_make_60 : decode bPl_make 60 = .ok (.invokevirtual 36, 3) := by decide +kernel
theorem dPl_make_63 : decode bPl_make 63 = .ok (.invokevirtual 39, 3) := by decide +kernel
theorem dPl_make_66 : decode bPl_make 66 = .ok (.iastore, 1) := by decide +kernel
theorem dPl_make_67 : decode bPl_make 67 = .ok (.iinc 2 (-1), 3) := by decide +kernel
theorem dPl_make_70 : decode bPl_make 70 = .ok (.goto (-23), 3) := by decide +kernel
theorem dPl_make_73 : decode bPl_make 73 = .ok (.iconst 0, 1) := by decide +kernel
theorem dPl_make_74 : decode bPl_make 74 = .ok (.istore_n 2, 1) := by decide +kernel
theorem dPl_make_75 : decode bPl_make 75 = .ok (.iconst 0, 1) := by decide +kernel
theorem dPl_make_76 : decode bPl_make 76 = .ok (.istore_n 3, 1) := by decide +kernel
theorem dPl_make_77 : decode bPl_make 77 = .ok (.iload_n 3, 1) := by decide +kernel
theorem dPl_make_78 : decode bPl_make 78 = .ok (.aload_n 0, 1) := by decide +kernel
theorem dPl_make_79 : decode bPl_make 79 = .ok (.getfield 12, 3) := by decide +kernel
theorem dPl_make_82 : decode bPl_make 82 = .ok (.getfield 28, 3) := by decide +kernel
theorem dPl_make_85 : decode bPl_make 85 = .ok (.if_icmp .ge 31, 3) := by decide +kernel
theorem dPl_make_88 : decode bPl_make 88 = .ok (.aload_n 0, 1) := by decide +kernel
theorem dPl_make_89 : decode bPl_make 89 = .ok (.getfield 25, 3) := by decide +kernel
theorem dPl_make_92 : decode bPl_make 92 = .ok (.iload_n 3, 1) := by decide +kernel
theorem dPl_make_93 : decode bPl_make 93 = .ok (.aload_n 0, 1) := by decide +kernel
theorem dPl_make_94 : decode bPl_make 94 = .ok (.iload_n 2, 1) := by decide +kernel
theorem dPl_make_95 : decode bPl_make 95 = .ok (.invokevirtual 36, 3) := by decide +kernel
theorem dPl_make_98 : decode bPl_make 98 = .ok (.iastore, 1) := by decide +kernel
theorem dPl_make_99 : decode bPl_make 99 = .ok (.iload_n 2, 1) := by decide +kernel
theorem dPl_make_100 : decode bPl_make 100 = .ok (.iconst 1, 1) := by decide +kernel
theorem dPl_make_101 : decode bPl_make 101 = .ok (.aload_n 0, 1) := by decide +kernel
theorem dPl_make_102 : decode bPl_make 102 = .ok (.getfield 25, 3) := by decide +kernel
theorem dPl_make_105 : decode bPl_make 105 = .ok (.iload_n 3, 1) := by decide +kernel
theorem dPl_make_106 : decode bPl_make 106 = .ok (.iaload, 1) := by decide +kernel
theorem dPl_make_107 : decode bPl_make 107 = .ok (.ishl, 1) := by decide +kernel
theorem dPl_make_108 : decode bPl_make 108 = .ok (.ior, 1) := by decide +kernel
theorem dPl_make_109 : decode bPl_make 109 = .ok (.istore_n 2, 1) := by decide +kernel
theorem dPl_make_110 : decode bPl_make 110 = .ok (.iinc 3 1, 3) := by decide +kernel
theorem dPl_make_113 : decode bPl_make 113 = .ok (.goto (-36), 3) := by decide +kernel
theorem dPl_make_116 : decode bPl_make 116 = .ok (.return_, 1) := by decide +kernel
abbrev rPl_make : Room := { frames := 4, cells := 0, slots := 0, locals := 88 }
def fPl_make_77 : Nat → Int32 → Int32 → jM → jF → Option (Int32 × jM × jF)
  | 0, _, _, _, _ => none
  | n + 1, x2, x3, M, F => (if (F 0) ≤ x3 then some (0, M, F) else ((fPl_bestAfter x2 M F).bind fun q5 => (if jib x3 6 then (if jib x3 6 then fPl_make_77 n (x2 ||| (1 <<< (((jmu M 19 x3.toNatClampNeg q5) 19 x3.toNatClampNeg) &&& 31))) (x3 + 1) (jmu M 19 x3.toNatClampNeg q5) F else none) else none)))
def fPl_make_47 : Nat → Int32 → jM → jF → Option (Int32 × jM × jF)
  | 0, _, _, _ => none
  | n + 1, x2, M, F => (if x2 < 0 then fPl_make_77 jfuel 0 0 M F else ((fPl_bestAfter x2 M F).bind fun q8 => ((fPl_sumFrom x2 q8 M F).bind fun q9 => (if jib x2 64 then fPl_make_47 n (x2 + (-1)) (jmu M 18 x2.toNatClampNeg q9) F else none))))
def fPl_make_14 : Nat → Int32 → Int32 → jM → jF → Option (Int32 × jM × jF)
  | 0, _, _, _, _ => none
  | n + 1, x1, x2, M, F => (if x1 < x2 then (if jib x1 64 then fPl_make_47 jfuel (x1 - 1) (jmu M 18 x1.toNatClampNeg 0) F else none) else ((fPl_sizeOf x2 M F).bind fun q11 => (if jib x2 64 then fPl_make_14 n x1 (x2 + 1) (jmu M 17 x2.toNatClampNeg q11) F else none)))
def fPl_make_0 (M : jM) (F : jF) : Option (Int32 × jM × jF) := fPl_make_14 jfuel ((1 <<< ((F 0) &&& 31)) - 1) 0 M F
abbrev fPl_make (M : jM) (F : jF) : Option (Int32 × jM × jF) := fPl_make_0  M F
set_option maxHeartbeats 4000000 in
set_option maxRecDepth 100000 in
theorem uPl_make_77 {p : Program} {e : Env} {s : State} {m : MethodId} {args : Array Value} {below : List Frame} {meth : Method} {c : Code} (l : Launch) (dC : Nat → ClassId) (dI : Nat → Nat → Nat) (cA : ClassId) (A : Nat → Nat) (Ap : Nat → Prop) (hC : jAt p s m args meth c bPl_make 4 none wPl_make RPl) (hA : ∀ q : Nat, s.heap.size ≤ q → Ap q) {r : Int32} {M' : jM} {F' : jF} : ∀ (n : Nat) (x2 x3 : Int32) (M : jM) (F : jF) (B : Nat → Nat) (H : Heap) (locs : List Loc) (ls : Array Slot), jH (dC, dI) jCl [(cA, .int)] (jW cA A B M F) Ap s H locs → lv_has ls 4 [(0, .ref (A 2)), (2, .int x2), (3, .int x3)] → fPl_make_77 n x2 x3 M F = some (r, M', F') → W p l e (headSpec wPl_make rPl_make).room s m args below meth c H locs 0 0 (jQv below (dC, dI) jCl [(cA, .int)] (fun B => jW cA A B (M') (F')) Ap args s) (F0 m 77 ls []) := by
  obtain ⟨hx, hb, hml, hr, hts, hown, hlocks, hN⟩ := id hC
  have hj : ∀ w ∈ jw, w.before args s = true := fun w h => hts w (List.mem_cons_of_mem _ h)
  intro n
  induction n with
  | zero =>
    intro x2 x3 M F B H locs ls hJ hl h
    rw [fPl_make_77] at h
    cases h
  | succ n ih =>
    intro x2 x3 M F B H locs ls hJ hl h
    rw [fPl_make_77] at h
    refine lv_iload_n hx hb dPl_make_77 rfl (lv_at hl 2 rfl) ?_
    refine lv_aload_n hx hb dPl_make_78 rfl (lv_at hl 0 rfl) ?_
    refine va_get (D := (dC, dI)) (ci := 2) (v := .ref (A 3)) (C := RPl) (T := TPl) (N := 4) hx hb hj iPl hown hJ.1 hJ.2.1 2 rfl rfl 0 (by decide) (hj _ jw_102) (fun _ h9 => h9) rfl dPl_make_79 ?_
    refine va_getN (D := (dC, dI)) (ci := 3) (v := .int (F 0)) (C := RQu) (T := TQu) (N := 10) hx hb hj iQu hown hJ.1 hJ.2.1 3 rfl rfl 8 (by decide) (jnw_use hN jnw_6) (fun _ h9 => h9) rfl dPl_make_82 ?_
    refine lv_icmp_ge (tgt := 116) hx hb dPl_make_85 (by decide) (fun c4 => ?_) (fun c4 => ?_)
    · replace h := jif_t c4 h
      cases h
      exact jretv (u := B) hx hb hr hlocks hJ dPl_make_116
    · replace h := jif_f c4 h
      refine lv_aload_n hx hb dPl_make_88 rfl (lv_at hl 0 rfl) ?_
      refine va_get (D := (dC, dI)) (ci := 2) (v := .ref (A 19)) (C := RPl) (T := TPl) (N := 4) hx hb hj iPl hown hJ.1 hJ.2.1 2 rfl rfl 3 (by decide) (hj _ jw_107) (fun _ h9 => h9) rfl dPl_make_89 ?_
      refine lv_iload_n hx hb dPl_make_92 rfl (lv_at hl 2 rfl) ?_
      refine lv_aload_n hx hb dPl_make_93 rfl (lv_at hl 0 rfl) ?_
      refine lv_iload_n hx hb dPl_make_94 rfl (lv_at hl 1 rfl) ?_
      obtain ⟨q5, hq5, h⟩ := jbi_h h
      refine jcalli (w' := fun B => jW cA A B M F) (va_runV (As := [.int x2]) (rest := [.int x3, .ref (A 19)]) ⟨hx, hb, hml, hown, hts⟩ (cPl_bestAfter l dC dI cA A x2 M F B H.size hq5) (cwV 1 hts (jgoodV jw_443 jw_445 jws_7 jw_3 jw_446) rfl rfl rfl (by decide +kernel) ⟨Nat.le_of_ble_eq_true rfl, Nat.le_of_ble_eq_true rfl⟩) (jpreV hN hJ (ci := 2) (q0 := 2) rfl rfl) rfl rfl hl.1 rfl (lv_room (Nat.le_of_ble_eq_true rfl)) dPl_make_95 ⟨Nat.zero_le _, Nat.zero_le _⟩) hA hJ (fun B H locs hJ => ?_)
      obtain ⟨hi6, h⟩ := jib_h h
      refine jast_19 hx hb hJ hi6 dPl_make_98 (fun H locs hJ => ?_)
      refine lv_iload_n hx hb dPl_make_99 rfl (lv_at hl 1 rfl) ?_
      refine lv_iconst (v := 1) hx hb dPl_make_100 (by decide) ?_
      refine lv_aload_n hx hb dPl_make_101 rfl (lv_at hl 0 rfl) ?_
      refine va_get (D := (dC, dI)) (ci := 2) (v := .ref (A 19)) (C := RPl) (T := TPl) (N := 4) hx hb hj iPl hown hJ.1 hJ.2.1 2 rfl rfl 3 (by decide) (hj _ jw_107) (fun _ h9 => h9) rfl dPl_make_102 ?_
      refine lv_iload_n hx hb dPl_make_105 rfl (lv_at hl 2 rfl) ?_
      obtain ⟨hi7, h⟩ := jib_h h
      refine jald_19 hx hb hJ hi7 dPl_make_106 ?_
      refine lv_ishl hx hb dPl_make_107 ?_
      refine lv_ior hx hb dPl_make_108 ?_
      refine lv_istore_n (lv' := [(2, .int (x2 ||| (1 <<< (((jmu M 19 x3.toNatClampNeg q5) 19 x3.toNatClampNeg) &&& 31)))), (0, .ref (A 2)), (3, .int x3)]) hx hb dPl_make_109 rfl hl (by decide) rfl (fun ls hl => ?_)
      refine lv_iinc (v := x3 + 1) (lv' := [(3, .int (x3 + 1)), (2, .int (x2 ||| (1 <<< (((jmu M 19 x3.toNatClampNeg q5) 19 x3.toNatClampNeg) &&& 31)))), (0, .ref (A 2))]) hx hb dPl_make_110 hl (k := 2) rfl rfl (by decide) rfl (fun ls hl => ?_)
      refine lv_goto (tgt := 77) hx hb dPl_make_113 (by decide) ?_
      exact ih _ _ _ _ _ _ _ _ hJ (lv_sub hl [2, 1, 0] rfl) h
set_option maxHeartbeats 4000000 in
set_option maxRecDepth 100000 in
theorem uPl_make_47 {p : Program} {e : Env} {s : State} {m : MethodId} {args : Array Value} {below : List Frame} {meth : Method} {c : Code} (l : Launch) (dC : Nat → ClassId) (dI : Nat → Nat → Nat) (cA : ClassId) (A : Nat → Nat) (Ap : Nat → Prop) (hC : jAt p s m args meth c bPl_make 4 none wPl_make RPl) (hA : ∀ q : Nat, s.heap.size ≤ q → Ap q) {r : Int32} {M' : jM} {F' : jF} : ∀ (n : Nat) (x2 : Int32) (M : jM) (F : jF) (B : Nat → Nat) (H : Heap) (locs : List Loc) (ls : Array Slot), jH (dC, dI) jCl [(cA, .int)] (jW cA A B M F) Ap s H locs → lv_has ls 4 [(0, .ref (A 2)), (2, .int x2)] → fPl_make_47 n x2 M F = some (r, M', F') → W p l e (headSpec wPl_make rPl_make).room s m args below meth c H locs 0 0 (jQv below (dC, dI) jCl [(cA, .int)] (fun B => jW cA A B (M') (F')) Ap args s) (F0 m 47 ls []) := by
  obtain ⟨hx, hb, hml, hr, hts, hown, hlocks, hN⟩ := id hC
  have hj : ∀ w ∈ jw, w.before args s = true := fun w h => hts w (List.mem_cons_of_mem _ h)
  intro n
  induction n with
  | zero =>
    intro x2 M F B H locs ls hJ hl h
    rw [fPl_make_47] at h
    cases h
  | succ n ih =>
    intro x2 M F B H locs ls hJ hl h
    rw [fPl_make_47] at h
    refine lv_iload_n hx hb dPl_make_47 rfl (lv_at hl 1 rfl) ?_
    refine lv_if_lt (tgt := 73) hx hb dPl_make_48 (by decide) (fun c3 => ?_) (fun c3 => ?_)
    · replace h := jif_t c3 h
      refine lv_iconst (v := 0) hx hb dPl_make_73 (by decide) ?_
      refine lv_istore_n (lv' := [(2, .int 0), (0, .ref (A 2))]) hx hb dPl_make_74 rfl hl (by decide) rfl (fun ls hl => ?_)
      refine lv_iconst (v := 0) hx hb dPl_make_75 (by decide) ?_
      refine lv_istore_n (lv' := [(3, .int 0), (2, .int 0), (0, .ref (A 2))]) hx hb dPl_make_76 rfl hl (by decide) rfl (fun ls hl => ?_)
      exact uPl_make_77 l dC dI cA A Ap hC hA jfuel _ _ _ _ _ _ _ _ hJ (lv_sub hl [2, 1, 0] rfl) h
    · replace h := jif_f c3 h
      refine lv_aload_n hx hb dPl_make_51 rfl (lv_at hl 0 rfl) ?_
      refine va_get (D := (dC, dI)) (ci := 2) (v := .ref (A 18)) (C := RPl) (T := TPl) (N := 4) hx hb hj iPl hown hJ.1 hJ.2.1 2 rfl rfl 2 (by decide) (hj _ jw_106) (fun _ h9 => h9) rfl dPl_make_52 ?_
      refine lv_iload_n hx hb dPl_make_55 rfl (lv_at hl 1 rfl) ?_
      refine lv_aload_n hx hb dPl_make_56 rfl (lv_at hl 0 rfl) ?_
      refine lv_iload_n hx hb dPl_make_57 rfl (lv_at hl 1 rfl) ?_
      refine lv_aload_n hx hb dPl_make_58 rfl (lv_at hl 0 rfl) ?_
      refine lv_iload_n hx hb dPl_make_59 rfl (lv_at hl 1 rfl) ?_
      obtain ⟨q8, hq8, h⟩ := jbi_h h
      refine jcalli (w' := fun B => jW cA A B M F) (va_runV (As := [.int x2]) (rest := [.int x2, .ref (A 2), .int x2, .ref (A 18)]) ⟨hx, hb, hml, hown, hts⟩ (cPl_bestAfter l dC dI cA A x2 M F B H.size hq8) (cwV 1 hts (jgoodV jw_443 jw_445 jws_7 jw_3 jw_446) rfl rfl rfl (by decide +kernel) ⟨Nat.le_of_ble_eq_true rfl, Nat.le_of_ble_eq_true rfl⟩) (jpreV hN hJ (ci := 2) (q0 := 2) rfl rfl) rfl rfl hl.1 rfl (lv_room (Nat.le_of_ble_eq_true rfl)) dPl_make_60 ⟨Nat.zero_le _, Nat.zero_le _⟩) hA hJ (fun B H locs hJ => ?_)
      obtain ⟨q9, hq9, h⟩ := jbi_h h
      refine jcalli (w' := fun B => jW cA A B M F) (va_runV (As := [.int x2, .int q8]) (rest := [.int x2, .ref (A 18)]) ⟨hx, hb, hml, hown, hts⟩ (cPl_sumFrom l dC dI cA A x2 q8 M F B H.size hq9) (cwV 2 hts (jgoodV jw_447 jw_449 jws_8 jw_3 jw_450) rfl rfl rfl (by decide +kernel) ⟨Nat.le_of_ble_eq_true rfl, Nat.le_of_ble_eq_true rfl⟩) (jpreV hN hJ (ci := 2) (q0 := 2) rfl rfl) rfl rfl hl.1 rfl (lv_room (Nat.le_of_ble_eq_true rfl)) dPl_make_63 ⟨Nat.zero_le _, Nat.zero_le _⟩) hA hJ (fun B H locs hJ => ?_)
      obtain ⟨hi10, h⟩ := jib_h h
      refine jast_18 hx hb hJ hi10 dPl_make_66 (fun H locs hJ => ?_)
      refine lv_iinc (v := x2 + (-1)) (lv' := [(2, .int (x2 + (-1))), (0, .ref (A 2))]) hx hb dPl_make_67 hl (k := 1) rfl (congrArg (fun z => x2 + z) (by decide)) (by decide) rfl (fun ls hl => ?_)
      refine lv_goto (tgt := 47) hx hb dPl_make_70 (by decide) ?_
      exact ih _ _ _ _ _ _ _ hJ (lv_sub hl [1, 0] rfl) h
set_option maxHeartbeats 4000000 in
set_option maxRecDepth 100000 in
theorem uPl_make_14 {p : Program} {e : Env} {s : State} {m : MethodId} {args : Array Value} {below : List Frame} {meth : Method} {c : Code} (l : Launch) (dC : Nat → ClassId) (dI : Nat → Nat → Nat) (cA : ClassId) (A : Nat → Nat) (Ap : Nat → Prop) (hC : jAt p s m args meth c bPl_make 4 none wPl_make RPl) (hA : ∀ q : Nat, s.heap.size ≤ q → Ap q) {r : Int32} {M' : jM} {F' : jF} : ∀ (n : Nat) (x1 x2 : Int32) (M : jM) (F : jF) (B : Nat → Nat) (H : Heap) (locs : List Loc) (ls : Array Slot), jH (dC, dI) jCl [(cA, .int)] (jW cA A B M F) Ap s H locs → lv_has ls 4 [(0, .ref (A 2)), (1, .int x1), (2, .int x2)] → fPl_make_14 n x1 x2 M F = some (r, M', F') → W p l e (headSpec wPl_make rPl_make).room s m args below meth c H locs 0 0 (jQv below (dC, dI) jCl [(cA, .int)] (fun B => jW cA A B (M') (F')) Ap args s) (F0 m 14 ls []) := by
  obtain ⟨hx, hb, hml, hr, hts, hown, hlocks, hN⟩ := id hC
  have hj : ∀ w ∈ jw, w.before args s = true := fun w h => hts w (List.mem_cons_of_mem _ h)
  intro n
  induction n with
  | zero =>
    intro x1 x2 M F B H locs ls hJ hl h
    rw [fPl_make_14] at h
    cases h
  | succ n ih =>
    intro x1 x2 M F B H locs ls hJ hl h
    rw [fPl_make_14] at h
    refine lv_iload_n hx hb dPl_make_14 rfl (lv_at hl 2 rfl) ?_
    refine lv_iload_n hx hb dPl_make_15 rfl (lv_at hl 1 rfl) ?_
    refine lv_icmp_gt (tgt := 36) hx hb dPl_make_16 (by decide) (fun c1 => ?_) (fun c1 => ?_)
    · replace h := jif_t c1 h
      refine lv_aload_n hx hb dPl_make_36 rfl (lv_at hl 0 rfl) ?_
      refine va_get (D := (dC, dI)) (ci := 2) (v := .ref (A 18)) (C := RPl) (T := TPl) (N := 4) hx hb hj iPl hown hJ.1 hJ.2.1 2 rfl rfl 2 (by decide) (hj _ jw_106) (fun _ h9 => h9) rfl dPl_make_37 ?_
      refine lv_iload_n hx hb dPl_make_40 rfl (lv_at hl 1 rfl) ?_
      refine lv_iconst (v := 0) hx hb dPl_make_41 (by decide) ?_
      obtain ⟨hi2, h⟩ := jib_h h
      refine jast_18 hx hb hJ hi2 dPl_make_42 (fun H locs hJ => ?_)
      refine lv_iload_n hx hb dPl_make_43 rfl (lv_at hl 1 rfl) ?_
      refine lv_iconst (v := 1) hx hb dPl_make_44 (by decide) ?_
      refine lv_isub hx hb dPl_make_45 ?_
      refine lv_istore_n (lv' := [(2, .int (x1 - 1)), (0, .ref (A 2)), (1, .int x1)]) hx hb dPl_make_46 rfl hl (by decide) rfl (fun ls hl => ?_)
      exact uPl_make_47 l dC dI cA A Ap hC hA jfuel _ _ _ _ _ _ _ hJ (lv_sub hl [1, 0] rfl) h
    · replace h := jif_f c1 h
      refine lv_aload_n hx hb dPl_make_19 rfl (lv_at hl 0 rfl) ?_
      refine va_get (D := (dC, dI)) (ci := 2) (v := .ref (A 17)) (C := RPl) (T := TPl) (N := 4) hx hb hj iPl hown hJ.1 hJ.2.1 2 rfl rfl 1 (by decide) (hj _ jw_105) (fun _ h9 => h9) rfl dPl_make_20 ?_
      refine lv_iload_n hx hb dPl_make_23 rfl (lv_at hl 2 rfl) ?_
      refine lv_aload_n hx hb dPl_make_24 rfl (lv_at hl 0 rfl) ?_
      refine lv_iload_n hx hb dPl_make_25 rfl (lv_at hl 2 rfl) ?_
      obtain ⟨q11, hq11, h⟩ := jbi_h h
      refine jcalli (w' := fun B => jW cA A B M F) (va_runV (As := [.int x2]) (rest := [.int x2, .ref (A 17)]) ⟨hx, hb, hml, hown, hts⟩ (cPl_sizeOf l dC dI cA A x2 M F B H.size hq11) (cwV 1 hts (jgoodV jw_412 jw_414 jws_6 jw_3 jw_415) rfl rfl rfl (by decide +kernel) ⟨Nat.le_of_ble_eq_true rfl, Nat.le_of_ble_eq_true rfl⟩) (jpreV hN hJ (ci := 2) (q0 := 2) rfl rfl) rfl rfl hl.1 rfl (lv_room (Nat.le_of_ble_eq_true rfl)) dPl_make_26 ⟨Nat.zero_le _, Nat.zero_le _⟩) hA hJ (fun B H locs hJ => ?_)
      obtain ⟨hi12, h⟩ := jib_h h
      refine jast_17 hx hb hJ hi12 dPl_make_29 (fun H locs hJ => ?_)
      refine lv_iinc (v := x2 + 1) (lv' := [(2, .int (x2 + 1)), (0, .ref (A 2)), (1, .int x1)]) hx hb dPl_make_30 hl (k := 2) rfl rfl (by decide) rfl (fun ls hl => ?_)
      refine lv_goto (tgt := 14) hx hb dPl_make_33 (by decide) ?_
      exact ih _ _ _ _ _ _ _ _ hJ (lv_sub hl [1, 2, 0] rfl) h
set_option maxHeartbeats 4000000 in
set_option maxRecDepth 100000 in
theorem uPl_make_0 {p : Program} {e : Env} {s : State} {m : MethodId} {args : Array Value} {below : List Frame} {meth : Method} {c : Code} (l : Launch) (dC : Nat → ClassId) (dI : Nat → Nat → Nat) (cA : ClassId) (A : Nat → Nat) (Ap : Nat → Prop) (hC : jAt p s m args meth c bPl_make 4 none wPl_make RPl) (hA : ∀ q : Nat, s.heap.size ≤ q → Ap q) {r : Int32} {M' : jM} {F' : jF} : ∀ (M : jM) (F : jF) (B : Nat → Nat) (H : Heap) (locs : List Loc) (ls : Array Slot), jH (dC, dI) jCl [(cA, .int)] (jW cA A B M F) Ap s H locs → lv_has ls 4 [(0, .ref (A 2))] → fPl_make_0 M F = some (r, M', F') → W p l e (headSpec wPl_make rPl_make).room s m args below meth c H locs 0 0 (jQv below (dC, dI) jCl [(cA, .int)] (fun B => jW cA A B (M') (F')) Ap args s) (F0 m 0 ls []) := by
  obtain ⟨hx, hb, hml, hr, hts, hown, hlocks, hN⟩ := id hC
  have hj : ∀ w ∈ jw, w.before args s = true := fun w h => hts w (List.mem_cons_of_mem _ h)
  intro  M F B H locs ls hJ hl h
  unfold fPl_make_0 at h
  refine lv_iconst (v := 1) hx hb dPl_make_0 (by decide) ?_
  refine lv_aload_n hx hb dPl_make_1 rfl (lv_at hl 0 rfl) ?_
  refine va_get (D := (dC, dI)) (ci := 2) (v := .ref (A 3)) (C := RPl) (T := TPl) (N := 4) hx hb hj iPl hown hJ.1 hJ.2.1 2 rfl rfl 0 (by decide) (hj _ jw_102) (fun _ h9 => h9) rfl dPl_make_2 ?_
  refine va_getN (D := (dC, dI)) (ci := 3) (v := .int (F 0)) (C := RQu) (T := TQu) (N := 10) hx hb hj iQu hown hJ.1 hJ.2.1 3 rfl rfl 8 (by decide) (jnw_use hN jnw_6) (fun _ h9 => h9) rfl dPl_make_5 ?_
  refine lv_ishl hx hb dPl_make_8 ?_
  refine lv_iconst (v := 1) hx hb dPl_make_9 (by decide) ?_
  refine lv_isub hx hb dPl_make_10 ?_
  refine lv_istore_n (lv' := [(1, .int ((1 <<< ((F 0) &&& 31)) - 1)), (0, .ref (A 2))]) hx hb dPl_make_11 rfl hl (by decide) rfl (fun ls hl => ?_)
  refine lv_iconst (v := 0) hx hb dPl_make_12 (by decide) ?_
  refine lv_istore_n (lv' := [(2, .int 0), (1, .int ((1 <<< ((F 0) &&& 31)) - 1)), (0, .ref (A 2))]) hx hb dPl_make_13 rfl hl (by decide) rfl (fun ls hl => ?_)
  exact uPl_make_14 l dC dI cA A Ap hC hA jfuel _ _ _ _ _ _ _ _ hJ (lv_sub hl [2, 1, 0] rfl) h
set_option maxHeartbeats 4000000 in
set_option maxRecDepth 100000 in
theorem cPl_make (l : Launch) (dC : Nat → ClassId) (dI : Nat → Nat → Nat) (cA : ClassId) (A : Nat → Nat) (M : jM) (F : jF) (B : Nat → Nat) (sz : Nat) {r : Int32} {M' : jM} {F' : jF} (h : fPl_make M F = some (r, M', F')) : jCv l yPl_make wPl_make rPl_make (dC, dI) jCl [(cA, .int)] [.ref (A 2)] (jW cA A B M F) sz (fun B => jW cA A B (M') (F')) :=
  jOf (Qc := fun Ap => va_Qv (fun _ : Nat → Nat => True) (jPost (dC, dI) jCl [(cA, .int)] (fun B => jW cA A B (M') (F')) Ap) Ap) (by decide) rfl (Nat.le_of_ble_eq_true rfl) (fun p e s m below meth c Ap ls hC hA hJ hl => uPl_make_0 l dC dI cA A Ap hC hA _ _ _ _ _ _ hJ (lv_sub hl [0] rfl) h)
abbrev bPl_aheadOf : ByteArray := prog_2_method_6_code
abbrev yPl_aheadOf : MethodName := ⟨RPl, "aheadOf", "(I)I"⟩
abbrev wPl_aheadOf : List Cond := .code yPl_aheadOf bPl_aheadOf 4 (some .int) :: jw
theorem dPl_aheadOf_0 : decode bPl_aheadOf 0 = .ok (.iconst 0, 1) := by decide +kernel
theorem dPl_aheadOf_1 : decode bPl_aheadOf 1 = .ok (.istore_n 2, 1) := by decide +kernel
theorem dPl_aheadOf_2 : decode bPl_aheadOf 2 = .ok (.iconst 0, 1) := by decide +kernel
theorem dPl_aheadOf_3 : decode bPl_aheadOf 3 = .ok (.istore_n 3, 1) := by decide +kernel
theorem dPl_aheadOf_4 : decode bPl_aheadOf 4 = .ok (.iload_n 3, 1) := by decide +kernel
theorem dPl_aheadOf_5 : decode bPl_aheadOf 5 = .ok (.iload_n 1, 1) := by decide +kernel
theorem dPl_aheadOf_6 : decode bPl_aheadOf 6 = .ok (.if_icmp .ge 20, 3) := by decide +kernel
theorem dPl_aheadOf_9 : decode bPl_aheadOf 9 = .ok (.iload_n 2, 1) := by decide +kernel
theorem dPl_aheadOf_10 : decode bPl_aheadOf 10 = .ok (.iconst 1, 1) := by decide +kernel
theorem dPl_aheadOf_11 : decode bPl_aheadOf 11 = .ok (.aload_n 0, 1) := by decide +kernel
theorem dPl_aheadOf_12 : decode bPl_aheadOf 12 = .ok (.getfield 25, 3) := by decide +kernel
theorem dPl_aheadOf_15 : decode bPl_aheadOf 15 = .ok (.iload_n 3, 1) := by decide +kernel
theorem dPl_aheadOf_16 : decode bPl_aheadOf 16 = .ok (.iaload, 1) := by decide +kernel
theorem dPl_aheadOf_17 : decode bPl_aheadOf 17 = .ok (.ishl, 1) := by decide +kernel
theorem dPl_aheadOf_18 : decode bPl_aheadOf 18 = .ok (.ior, 1) := by decide +kernel
theorem dPl_aheadOf_19 : decode bPl_aheadOf 19 = .ok (.istore_n 2, 1) := by decide +kernel
theorem dPl_aheadOf_20 : decode bPl_aheadOf 20 = .ok (.iinc 3 1, 3) := by decide +kernel
theorem dPl_aheadOf_23 : decode bPl_aheadOf 23 = .ok (.goto (-19), 3) := by decide +kernel
theorem dPl_aheadOf_26 : decode bPl_aheadOf 26 = .ok (.iload_n 2, 1) := by decide +kernel
theorem dPl_aheadOf_27 : decode bPl_aheadOf 27 = .ok (.ireturn, 1) := by decide +kernel
abbrev rPl_aheadOf : Room := { frames := 0, cells := 0, slots := 0, locals := 0 }
def fPl_aheadOf_4 : Nat → Int32 → Int32 → Int32 → jM → jF → Option Int32
  | 0, _, _, _, _, _ => none
  | n + 1, x1, x2, x3, M, F => (if x1 ≤ x3 then some x2 else (if jib x3 6 then fPl_aheadOf_4 n x1 (x2 ||| (1 <<< ((M 19 x3.toNatClampNeg) &&& 31))) (x3 + 1) M F else none))
def fPl_aheadOf_0 (x1 : Int32) (M : jM) (F : jF) : Option Int32 := fPl_aheadOf_4 jfuel x1 0 0 M F
abbrev fPl_aheadOf (x1 : Int32) (M : jM) (F : jF) : Option Int32 := fPl_aheadOf_0 x1 M F
set_option maxHeartbeats 4000000 in
set_option maxRecDepth 100000 in
theorem uPl_aheadOf_4 {p : Program} {e : Env} {s : State} {m : MethodId} {args : Array Value} {below : List Frame} {meth : Method} {c : Code} (l : Launch) (dC : Nat → ClassId) (dI : Nat → Nat → Nat) (cA : ClassId) (A : Nat → Nat) (Ap : Nat → Prop) (hC : jAt p s m args meth c bPl_aheadOf 4 (some .int) wPl_aheadOf RPl) (hA : ∀ q : Nat, s.heap.size ≤ q → Ap q) {r : Int32} : ∀ (n : Nat) (x1 x2 x3 : Int32) (M : jM) (F : jF) (B : Nat → Nat) (H : Heap) (locs : List Loc) (ls : Array Slot), jH (dC, dI) jCl [(cA, .int)] (jW cA A B M F) Ap s H locs → lv_has ls 4 [(0, .ref (A 2)), (1, .int x1), (2, .int x2), (3, .int x3)] → fPl_aheadOf_4 n x1 x2 x3 M F = some r → W p l e (headSpec wPl_aheadOf rPl_aheadOf).room s m args below meth c H locs 0 0 (jQi below (dC, dI) jCl [(cA, .int)] (fun B => jW cA A B M F) Ap args s r) (F0 m 4 ls []) := by
  obtain ⟨hx, hb, hml, hr, hts, hown, hlocks, hN⟩ := id hC
  have hj : ∀ w ∈ jw, w.before args s = true := fun w h => hts w (List.mem_cons_of_mem _ h)
  intro n
  induction n with
  | zero =>
    intro x1 x2 x3 M F B H locs ls hJ hl h
    rw [fPl_aheadOf_4] at h
    cases h
  | succ n ih =>
    intro x1 x2 x3 M F B H locs ls hJ hl h
    rw [fPl_aheadOf_4] at h
    refine lv_iload_n hx hb dPl_aheadOf_4 rfl (lv_at hl 3 rfl) ?_
    refine lv_iload_n hx hb dPl_aheadOf_5 rfl (lv_at hl 1 rfl) ?_
    refine lv_icmp_ge (tgt := 26) hx hb dPl_aheadOf_6 (by decide) (fun c1 => ?_) (fun c1 => ?_)
    · replace h := jif_t c1 h
      refine lv_iload_n hx hb dPl_aheadOf_26 rfl (lv_at hl 2 rfl) ?_
      exact jreti (u := B) hx hb hr rfl hlocks hJ dPl_aheadOf_27 (Option.some.inj h)
    · replace h := jif_f c1 h
      refine lv_iload_n hx hb dPl_aheadOf_9 rfl (lv_at hl 2 rfl) ?_
      refine lv_iconst (v := 1) hx hb dPl_aheadOf_10 (by decide) ?_
      refine lv_aload_n hx hb dPl_aheadOf_11 rfl (lv_at hl 0 rfl) ?_
      refine va_get (D := (dC, dI)) (ci := 2) (v := .ref (A 19)) (C := RPl) (T := TPl) (N := 4) hx hb hj iPl hown hJ.1 hJ.2.1 2 rfl rfl 3 (by decide) (hj _ jw_107) (fun _ h9 => h9) rfl dPl_aheadOf_12 ?_
      refine lv_iload_n hx hb dPl_aheadOf_15 rfl (lv_at hl 3 rfl) ?_
      obtain ⟨hi2, h⟩ := jib_h h
      refine jald_19 hx hb hJ hi2 dPl_aheadOf_16 ?_
      refine lv_ishl hx hb dPl_aheadOf_17 ?_
      refine lv_ior hx hb dPl_aheadOf_18 ?_
      refine lv_istore_n (lv' := [(2, .int (x2 ||| (1 <<< ((M 19 x3.toNatClampNeg) &&& 31)))), (0, .ref (A 2)), (1, .int x1), (3, .int x3)]) hx hb dPl_aheadOf_19 rfl hl (by decide) rfl (fun ls hl => ?_)
      refine lv_iinc (v := x3 + 1) (lv' := [(3, .int (x3 + 1)), (2, .int (x2 ||| (1 <<< ((M 19 x3.toNatClampNeg) &&& 31)))), (0, .ref (A 2)), (1, .int x1)]) hx hb dPl_aheadOf_20 hl (k := 3) rfl rfl (by decide) rfl (fun ls hl => ?_)
      refine lv_goto (tgt := 4) hx hb dPl_aheadOf_23 (by decide) ?_
      exact ih _ _ _ _ _ _ _ _ _ hJ (lv_sub hl [2, 3, 1, 0] rfl) h
set_option maxHeartbeats 4000000 in
set_option maxRecDepth 100000 in
theorem uPl_aheadOf_0 {p : Program} {e : Env} {s : State} {m : MethodId} {args : Array Value} {below : List Frame} {meth : Method} {c : Code} (l : Launch) (dC : Nat → ClassId) (dI : Nat → Nat → Nat) (cA : ClassId) (A : Nat → Nat) (Ap : Nat → Prop) (hC : jAt p s m args meth c bPl_aheadOf 4 (some .int) wPl_aheadOf RPl) (hA : ∀ q : Nat, s.heap.size ≤ q → Ap q) {r : Int32} : ∀ (x1 : Int32) (M : jM) (F : jF) (B : Nat → Nat) (H : Heap) (locs : List Loc) (ls : Array Slot), jH (dC, dI) jCl [(cA, .int)] (jW cA A B M F) Ap s H locs → lv_has ls 4 [(0, .ref (A 2)), (1, .int x1)] → fPl_aheadOf_0 x1 M F = some r → W p l e (headSpec wPl_aheadOf rPl_aheadOf).room s m args below meth c H locs 0 0 (jQi below (dC, dI) jCl [(cA, .int)] (fun B => jW cA A B M F) Ap args s r) (F0 m 0 ls []) := by
  obtain ⟨hx, hb, hml, hr, hts, hown, hlocks, hN⟩ := id hC
  have hj : ∀ w ∈ jw, w.before args s = true := fun w h => hts w (List.mem_cons_of_mem _ h)
  intro x1 M F B H locs ls hJ hl h
  unfold fPl_aheadOf_0 at h
  refine lv_iconst (v := 0) hx hb dPl_aheadOf_0 (by decide) ?_
  refine lv_istore_n (lv' := [(2, .int 0), (0, .ref (A 2)), (1, .int x1)]) hx hb dPl_aheadOf_1 rfl hl (by decide) rfl (fun ls hl => ?_)
  refine lv_iconst (v := 0) hx hb dPl_aheadOf_2 (by decide) ?_
  refine lv_istore_n (lv' := [(3, .int 0), (2, .int 0), (0, .ref (A 2)), (1, .int x1)]) hx hb dPl_aheadOf_3 rfl hl (by decide) rfl (fun ls hl => ?_)
  exact uPl_aheadOf_4 l dC dI cA A Ap hC hA jfuel _ _ _ _ _ _ _ _ _ hJ (lv_sub hl [2, 3, 1, 0] rfl) h
set_option maxHeartbeats 4000000 in
set_option maxRecDepth 100000 in
theorem cPl_aheadOf (l : Launch) (dC : Nat → ClassId) (dI : Nat → Nat → Nat) (cA : ClassId) (A : Nat → Nat) (x1 : Int32) (M : jM) (F : jF) (B : Nat → Nat) (sz : Nat) {r : Int32} (h : fPl_aheadOf x1 M F = some r) : jCi l yPl_aheadOf wPl_aheadOf rPl_aheadOf (dC, dI) jCl [(cA, .int)] [.ref (A 2), .int x1] (jW cA A B M F) sz r (fun B => jW cA A B M F) :=
  jOf (Qc := fun Ap => va_Qi (fun q (_ : Nat → Nat) => q = r) (jPost (dC, dI) jCl [(cA, .int)] (fun B => jW cA A B M F) Ap) Ap) (by decide) rfl (Nat.le_of_ble_eq_true rfl) (fun p e s m below meth c Ap ls hC hA hJ hl => uPl_aheadOf_0 l dC dI cA A Ap hC hA _ _ _ _ _ _ _ hJ (lv_sub hl [0, 1] rfl) h)
abbrev bPl_sizeAt : ByteArray := prog_2_method_3_code
abbrev yPl_sizeAt : MethodName := ⟨RPl, "sizeAt", "(I)I"⟩
abbrev wPl_sizeAt : List Cond := .code yPl_sizeAt bPl_sizeAt 2 (some .int) :: jw
theorem dPl_sizeAt_0 : decode bPl_sizeAt 0 = .ok (.aload_n 0, 1) := by decide +kernel
theorem dPl_sizeAt_1 : decode bPl_sizeAt 1 = .ok (.getfield 18, 3) := by decide +kernel
theorem dPl_sizeAt_4 : decode bPl_sizeAt 4 = .ok (.aload_n 0, 1) := by decide +kernel
theorem dPl_sizeAt_5 : decode bPl_sizeAt 5 = .ok (.iload_n 1, 1) := by decide +kernel
theorem dPl_sizeAt_6 : decode bPl_sizeAt 6 = .ok (.invokevirtual 43, 3) := by decide +kernel
theorem dPl_sizeAt_9 : decode bPl_sizeAt 9 = .ok (.iconst 1, 1) := by decide +kernel
theorem dPl_sizeAt_10 : decode bPl_sizeAt 10 = .ok (.aload_n 0, 1) := by decide +kernel
theorem dPl_sizeAt_11 : decode bPl_sizeAt 11 = .ok (.getfield 25, 3) := by decide +kernel
theorem dPl_sizeAt_14 : decode bPl_sizeAt 14 = .ok (.iload_n 1, 1) := by decide +kernel
theorem dPl_sizeAt_15 : decode bPl_sizeAt 15 = .ok (.iaload, 1) := by decide +kernel
theorem dPl_sizeAt_16 : decode bPl_sizeAt 16 = .ok (.ishl, 1) := by decide +kernel
theorem dPl_sizeAt_17 : decode bPl_sizeAt 17 = .ok (.ior, 1) := by decide +kernel
theorem dPl_sizeAt_18 : decode bPl_sizeAt 18 = .ok (.iaload, 1) := by decide +kernel
theorem dPl_sizeAt_19 : decode bPl_sizeAt 19 = .ok (.ireturn, 1) := by decide +kernel
abbrev rPl_sizeAt : Room := { frames := 1, cells := 0, slots := 0, locals := 23 }
def fPl_sizeAt_0 (x1 : Int32) (M : jM) (F : jF) : Option Int32 := ((fPl_aheadOf x1 M F).bind fun q1 => (if jib x1 6 then (if jib (q1 ||| (1 <<< ((M 19 x1.toNatClampNeg) &&& 31))) 64 then some (M 17 (q1 ||| (1 <<< ((M 19 x1.toNatClampNeg) &&& 31))).toNatClampNeg) else none) else none))
abbrev fPl_sizeAt (x1 : Int32) (M : jM) (F : jF) : Option Int32 := fPl_sizeAt_0 x1 M F
set_option maxHeartbeats 4000000 in
set_option maxRecDepth 100000 in
theorem uPl_sizeAt_0 {p : Program} {e : Env} {s : State} {m : MethodId} {args : Array Value} {below : List Frame} {meth : Method} {c : Code} (l : Launch) (dC : Nat → ClassId) (dI : Nat → Nat → Nat) (cA : ClassId) (A : Nat → Nat) (Ap : Nat → Prop) (hC : jAt p s m args meth c bPl_sizeAt 2 (some .int) wPl_sizeAt RPl) (hA : ∀ q : Nat, s.heap.size ≤ q → Ap q) {r : Int32} : ∀ (x1 : Int32) (M : jM) (F : jF) (B : Nat → Nat) (H : Heap) (locs : List Loc) (ls : Array Slot), jH (dC, dI) jCl [(cA, .int)] (jW cA A B M F) Ap s H locs → lv_has ls 2 [(0, .ref (A 2)), (1, .int x1)] → fPl_sizeAt_0 x1 M F = some r → W p l e (headSpec wPl_sizeAt rPl_sizeAt).room s m args below meth c H locs 0 0 (jQi below (dC, dI) jCl [(cA, .int)] (fun B => jW cA A B M F) Ap args s r) (F0 m 0 ls []) := by
  obtain ⟨hx, hb, hml, hr, hts, hown, hlocks, hN⟩ := id hC
  have hj : ∀ w ∈ jw, w.before args s = true := fun w h => hts w (List.mem_cons_of_mem _ h)
  intro x1 M F B H locs ls hJ hl h
  unfold fPl_sizeAt_0 at h
  refine lv_aload_n hx hb dPl_sizeAt_0 rfl (lv_at hl 0 rfl) ?_
  refine va_get (D := (dC, dI)) (ci := 2) (v := .ref (A 17)) (C := RPl) (T := TPl) (N := 4) hx hb hj iPl hown hJ.1 hJ.2.1 2 rfl rfl 1 (by decide) (hj _ jw_105) (fun _ h9 => h9) rfl dPl_sizeAt_1 ?_
  refine lv_aload_n hx hb dPl_sizeAt_4 rfl (lv_at hl 0 rfl) ?_
  refine lv_iload_n hx hb dPl_sizeAt_5 rfl (lv_at hl 1 rfl) ?_
  obtain ⟨q1, hq1, h⟩ := jbi_h h
  refine jcalli (w' := fun B => jW cA A B M F) (va_runV (As := [.int x1]) (rest := [.ref (A 17)]) ⟨hx, hb, hml, hown, hts⟩ (cPl_aheadOf l dC dI cA A x1 M F B H.size hq1) (cwV 1 hts (jgoodV jw_462 jw_464 jws_9 jw_3 jw_465) rfl rfl rfl (by decide +kernel) ⟨Nat.le_of_ble_eq_true rfl, Nat.le_of_ble_eq_true rfl⟩) (jpreV hN hJ (ci := 2) (q0 := 2) rfl rfl) rfl rfl hl.1 rfl (lv_room (Nat.le_of_ble_eq_true rfl)) dPl_sizeAt_6 ⟨Nat.zero_le _, Nat.zero_le _⟩) hA hJ (fun B H locs hJ => ?_)
  refine lv_iconst (v := 1) hx hb dPl_sizeAt_9 (by decide) ?_
  refine lv_aload_n hx hb dPl_sizeAt_10 rfl (lv_at hl 0 rfl) ?_
  refine va_get (D := (dC, dI)) (ci := 2) (v := .ref (A 19)) (C := RPl) (T := TPl) (N := 4) hx hb hj iPl hown hJ.1 hJ.2.1 2 rfl rfl 3 (by decide) (hj _ jw_107) (fun _ h9 => h9) rfl dPl_sizeAt_11 ?_
  refine lv_iload_n hx hb dPl_sizeAt_14 rfl (lv_at hl 1 rfl) ?_
  obtain ⟨hi2, h⟩ := jib_h h
  refine jald_19 hx hb hJ hi2 dPl_sizeAt_15 ?_
  refine lv_ishl hx hb dPl_sizeAt_16 ?_
  refine lv_ior hx hb dPl_sizeAt_17 ?_
  obtain ⟨hi3, h⟩ := jib_h h
  refine jald_17 hx hb hJ hi3 dPl_sizeAt_18 ?_
  exact jreti (u := B) hx hb hr rfl hlocks hJ dPl_sizeAt_19 (Option.some.inj h)
set_option maxHeartbeats 4000000 in
set_option maxRecDepth 100000 in
theorem cPl_sizeAt (l : Launch) (dC : Nat → ClassId) (dI : Nat → Nat → Nat) (cA : ClassId) (A : Nat → Nat) (x1 : Int32) (M : jM) (F : jF) (B : Nat → Nat) (sz : Nat) {r : Int32} (h : fPl_sizeAt x1 M F = some r) : jCi l yPl_sizeAt wPl_sizeAt rPl_sizeAt (dC, dI) jCl [(cA, .int)] [.ref (A 2), .int x1] (jW cA A B M F) sz r (fun B => jW cA A B M F) :=
  jOf (Qc := fun Ap => va_Qi (fun q (_ : Nat → Nat) => q = r) (jPost (dC, dI) jCl [(cA, .int)] (fun B => jW cA A B M F) Ap) Ap) (by decide) rfl (Nat.le_of_ble_eq_true rfl) (fun p e s m below meth c Ap ls hC hA hJ hl => uPl_sizeAt_0 l dC dI cA A Ap hC hA _ _ _ _ _ _ _ hJ (lv_sub hl [0, 1] rfl) h)
abbrev bPl_conditionFor : ByteArray := prog_2_method_5_code
abbrev yPl_conditionFor : MethodName := ⟨RPl, "conditionFor", "(II)I"⟩
abbrev wPl_conditionFor : List Cond := .code yPl_conditionFor bPl_conditionFor 5 (some .int) :: jw
theorem dPl_conditionFor_0 : decode bPl_conditionFor 0 = .ok (.iconst (-1), 1) := by decide +kernel
theorem dPl_conditionFor_1 : decode bPl_conditionFor 1 = .ok (.istore_n 3, 1) := by decide +kernel
theorem dPl_conditionFor_2 : decode bPl_conditionFor 2 = .ok (.iconst 0, 1) := by decide +kernel
theorem dPl_conditionFor_3 : decode bPl_conditionFor 3 = .ok (.istore 4, 2) := by decide +kernel
theorem dPl_conditionFor_5 : decode bPl_conditionFor 5 = .ok (.iload 4, 2) := by decide +kernel
theorem dPl_conditionFor_7 : decode bPl_conditionFor 7 = .ok (.aload_n 0, 1) := by decide +kernel
theorem dPl_conditionFor_8 : decode bPl_conditionFor 8 = .ok (.getfield 12, 3) := by decide +kernel
theorem dPl_conditionFor_11 : decode bPl_conditionFor 11 = .ok (.getfield 53, 3) := by decide +kernel
theorem dPl_conditionFor_14 : decode bPl_conditionFor 14 = .ok (.if_icmp .ge 63, 3) := by decide +kernel
theorem dPl_conditionFor_17 : decode bPl_conditionFor 17 = .ok (.aload_n 0, 1) := by decide +kernel
theorem dPl_conditionFor_18 : decode bPl_conditionFor 18 = .ok (.getfield 12, 3) := by decide +kernel
theorem dPl_conditionFor_21 : decode bPl_conditionFor 21 = .ok (.iload 4, 2) := by decide +kernel
theorem dPl_conditionFor_23 : decode bPl_conditionFor 23 = .ok (.iload_n 1, 1) := by decide +kernel
theorem dPl_conditionFor_24 : decode bPl_conditionFor 24 = .ok (.iload_n 2, 1) := by decide +kernel
theorem dPl_conditionFor_25 : decode bPl_conditionFor 25 = .ok (.invokevirtual 56, 3) := by decide +kernel
theorem dPl_conditionFor_28 : decode bPl_conditionFor 28 = .ok (.ifCond .ne 6, 3) := by decide +kernel
theorem dPl_conditionFor_31 : decode bPl_conditionFor 31 = .ok (.goto 40, 3) := by decide +kernel
theorem dPl_conditionFor_34 : decode bPl_conditionFor 34 = .ok (.aload_n 0, 1) := by decide +kernel
theorem dPl_conditionFor_35 : decode bPl_conditionFor 35 = .ok (.getfield 12, 3) := by decide +kernel
theorem dPl_conditionFor_38 : decode bPl_conditionFor 38 = .ok (.iload 4, 2) := by decide +kernel
theorem dPl_conditionFor_40 : decode bPl_conditionFor 40 = .ok (.iload_n 1, 1) := by decide +kernel
theorem dPl_conditionFor_41 : decode bPl_conditionFor 41 = .ok (.invokevirtual 49, 3) := by decide +kernel
theorem dPl_conditionFor_44 : decode bPl_conditionFor 44 = .ok (.ifCond .eq 6, 3) := by decide +kernel
theorem dPl_conditionFor_47 : decode bPl_conditionFor 47 = .ok (.iload 4, 2) := by decide +kernel
theorem dPl_conditionFor_49 : decode bPl_conditionFor 49 = .ok (.ireturn, 1) := by decide +kernel
theorem dPl_conditionFor_50 : decode bPl_conditionFor 50 = .ok (.iload_n 3, 1) := by decide +kernel
theorem dPl_conditionFor_51 : decode bPl_conditionFor 51 = .ok (.iconst (-1), 1) := by decide +kernel
theorem dPl_conditionFor_52 : decode bPl_conditionFor 52 = .ok (.if_icmp .ne 19, 3) := by decide +kernel
theorem dPl_conditionFor_55 : decode bPl_conditionFor 55 = .ok (.aload_n 0, 1) := by decide +kernel
theorem dPl_conditionFor_56 : decode bPl_conditionFor 56 = .ok (.getfield 12, 3) := by decide +kernel
theorem dPl_conditionFor_59 : decode bPl_conditionFor 59 = .ok (.getfield 60, 3) := by decide +kernel
theorem dPl_conditionFor_62 : decode bPl_conditionFor 62 = .ok (.iload 4, 2) := by decide +kernel
theorem dPl_conditionFor_64 : decode bPl_conditionFor 64 = .ok (.iaload, 1) := by decide +kernel
theorem dPl_conditionFor_65 : decode bPl_conditionFor 65 = .ok (.ifCond .ne 6, 3) := by decide +kernel
theorem dPl_conditionFor_68 : decode bPl_conditionFor 68 = .ok (.iload 4, 2) := by decide +kernel
theorem dPl_conditionFor_70 : decode bPl_conditionFor 70 = .ok (.istore_n 3, 1) := by decide +kernel
theorem dPl_conditionFor_71 : decode bPl_conditionFor 71 = .ok (.iinc 4 1, 3) := by decide +kernel
theorem dPl_conditionFor_74 : decode bPl_conditionFor 74 = .ok (.goto (-69), 3) := by decide +kernel
theorem dPl_conditionFor_77 : decode bPl_conditionFor 77 = .ok (.iload_n 3, 1) := by decide +kernel
theorem dPl_conditionFor_78 : decode bPl_conditionFor 78 = .ok (.ireturn, 1) := by decide +kernel
abbrev rPl_conditionFor : Room := { frames := 3, cells := 0, slots := 0, locals := 68 }
def fPl_conditionFor_5 : Nat → Int32 → Int32 → Int32 → Int32 → jM → jF → Option Int32
  | 0, _, _, _, _, _, _ => none
  | n + 1, x1, x2, x3, x4, M, F => (if (F 1) ≤ x4 then some x3 else ((fQu_tellsValue x4 x1 x2 M F).bind fun q2 => (if q2 = 0 then fPl_conditionFor_5 n x1 x2 x3 (x4 + 1) M F else ((fQu_tellsByIndex x4 x1 M F).bind fun q4 => (if q4 = 0 then (if x3 = (-1) then (if jib x4 12 then (if (M 11 x4.toNatClampNeg) = 0 then fPl_conditionFor_5 n x1 x2 x4 (x4 + 1) M F else fPl_conditionFor_5 n x1 x2 x3 (x4 + 1) M F) else none) else fPl_conditionFor_5 n x1 x2 x3 (x4 + 1) M F) else some x4)))))
def fPl_conditionFor_0 (x1 : Int32) (x2 : Int32) (M : jM) (F : jF) : Option Int32 := fPl_conditionFor_5 jfuel x1 x2 (-1) 0 M F
abbrev fPl_conditionFor (x1 : Int32) (x2 : Int32) (M : jM) (F : jF) : Option Int32 := fPl_conditionFor_0 x1 x2 M F
set_option maxHeartbeats 4000000 in
set_option maxRecDepth 100000 in
theorem uPl_conditionFor_5 {p : Program} {e : Env} {s : State} {m : MethodId} {args : Array Value} {below : List Frame} {meth : Method} {c : Code} (l : Launch) (dC : Nat → ClassId) (dI : Nat → Nat → Nat) (cA : ClassId) (A : Nat → Nat) (Ap : Nat → Prop) (hC : jAt p s m args meth c bPl_conditionFor 5 (some .int) wPl_conditionFor RPl) (hA : ∀ q : Nat, s.heap.size ≤ q → Ap q) {r : Int32} : ∀ (n : Nat) (x1 x2 x3 x4 : Int32) (M : jM) (F : jF) (B : Nat → Nat) (H : Heap) (locs : List Loc) (ls : Array Slot), jH (dC, dI) jCl [(cA, .int)] (jW cA A B M F) Ap s H locs → lv_has ls 5 [(0, .ref (A 2)), (1, .int x1), (2, .int x2), (3, .int x3), (4, .int x4)] → fPl_conditionFor_5 n x1 x2 x3 x4 M F = some r → W p l e (headSpec wPl_conditionFor rPl_conditionFor).room s m args below meth c H locs 0 0 (jQi below (dC, dI) jCl [(cA, .int)] (fun B => jW cA A B M F) Ap args s r) (F0 m 5 ls []) := by
  obtain ⟨hx, hb, hml, hr, hts, hown, hlocks, hN⟩ := id hC
  have hj : ∀ w ∈ jw, w.before args s = true := fun w h => hts w (List.mem_cons_of_mem _ h)
  intro n
  induction n with
  | zero =>
    intro x1 x2 x3 x4 M F B H locs ls hJ hl h
    rw [fPl_conditionFor_5] at h
    cases h
  | succ n ih =>
    intro x1 x2 x3 x4 M F B H locs ls hJ hl h
    rw [fPl_conditionFor_5] at h
    refine lv_iload hx hb dPl_conditionFor_5 (lv_at hl 4 rfl) ?_
    refine lv_aload_n hx hb dPl_conditionFor_7 rfl (lv_at hl 0 rfl) ?_
    refine va_get (D := (dC, dI)) (ci := 2) (v := .ref (A 3)) (C := RPl) (T := TPl) (N := 4) hx hb hj iPl hown hJ.1 hJ.2.1 2 rfl rfl 0 (by decide) (hj _ jw_102) (fun _ h9 => h9) rfl dPl_conditionFor_8 ?_
    refine va_getN (D := (dC, dI)) (ci := 3) (v := .int (F 1)) (C := RQu) (T := TQu) (N := 10) hx hb hj iQu hown hJ.1 hJ.2.1 3 rfl rfl 9 (by decide) (jnw_use hN jnw_10) (fun _ h9 => h9) rfl dPl_conditionFor_11 ?_
    refine lv_icmp_ge (tgt := 77) hx hb dPl_conditionFor_14 (by decide) (fun c1 => ?_) (fun c1 => ?_)
    · replace h := jif_t c1 h
      refine lv_iload_n hx hb dPl_conditionFor_77 rfl (lv_at hl 3 rfl) ?_
      exact jreti (u := B) hx hb hr rfl hlocks hJ dPl_conditionFor_78 (Option.some.inj h)
    · replace h := jif_f c1 h
      refine lv_aload_n hx hb dPl_conditionFor_17 rfl (lv_at hl 0 rfl) ?_
      refine va_get (D := (dC, dI)) (ci := 2) (v := .ref (A 3)) (C := RPl) (T := TPl) (N := 4) hx hb hj iPl hown hJ.1 hJ.2.1 2 rfl rfl 0 (by decide) (hj _ jw_102) (fun _ h9 => h9) rfl dPl_conditionFor_18 ?_
      refine lv_iload hx hb dPl_conditionFor_21 (lv_at hl 4 rfl) ?_
      refine lv_iload_n hx hb dPl_conditionFor_23 rfl (lv_at hl 1 rfl) ?_
      refine lv_iload_n hx hb dPl_conditionFor_24 rfl (lv_at hl 2 rfl) ?_
      obtain ⟨q2, hq2, h⟩ := jbi_h h
      refine jcalli (w' := fun B => jW cA A B M F) (va_runV (As := [.int x4, .int x1, .int x2]) (rest := []) ⟨hx, hb, hml, hown, hts⟩ (cQu_tellsValue l dC dI cA A x4 x1 x2 M F B H.size hq2) (cwV 3 hts (jgoodV jw_470 jw_471 jw_472 jw_4 jw_473) rfl rfl rfl (by decide +kernel) ⟨Nat.le_of_ble_eq_true rfl, Nat.le_of_ble_eq_true rfl⟩) (jpreV hN hJ (ci := 3) (q0 := 3) rfl rfl) rfl rfl hl.1 rfl (lv_room (Nat.le_of_ble_eq_true rfl)) dPl_conditionFor_25 ⟨Nat.zero_le _, Nat.zero_le _⟩) hA hJ (fun B H locs hJ => ?_)
      refine lv_if_ne (tgt := 34) hx hb dPl_conditionFor_28 (by decide) (fun c3 => ?_) (fun c3 => ?_)
      · replace h := jif_f c3 h
        refine lv_aload_n hx hb dPl_conditionFor_34 rfl (lv_at hl 0 rfl) ?_
        refine va_get (D := (dC, dI)) (ci := 2) (v := .ref (A 3)) (C := RPl) (T := TPl) (N := 4) hx hb hj iPl hown hJ.1 hJ.2.1 2 rfl rfl 0 (by decide) (hj _ jw_102) (fun _ h9 => h9) rfl dPl_conditionFor_35 ?_
        refine lv_iload hx hb dPl_conditionFor_38 (lv_at hl 4 rfl) ?_
        refine lv_iload_n hx hb dPl_conditionFor_40 rfl (lv_at hl 1 rfl) ?_
        obtain ⟨q4, hq4, h⟩ := jbi_h h
        refine jcalli (w' := fun B => jW cA A B M F) (va_runV (As := [.int x4, .int x1]) (rest := []) ⟨hx, hb, hml, hown, hts⟩ (cQu_tellsByIndex l dC dI cA A x4 x1 M F B H.size hq4) (cwV 2 hts (jgoodV jw_483 jw_484 jw_485 jw_4 jw_486) rfl rfl rfl (by decide +kernel) ⟨Nat.le_of_ble_eq_true rfl, Nat.le_of_ble_eq_true rfl⟩) (jpreV hN hJ (ci := 3) (q0 := 3) rfl rfl) rfl rfl hl.1 rfl (lv_room (Nat.le_of_ble_eq_true rfl)) dPl_conditionFor_41 ⟨Nat.zero_le _, Nat.zero_le _⟩) hA hJ (fun B H locs hJ => ?_)
        refine lv_if_eq (tgt := 50) hx hb dPl_conditionFor_44 (by decide) (fun c5 => ?_) (fun c5 => ?_)
        · replace h := jif_t c5 h
          refine lv_iload_n hx hb dPl_conditionFor_50 rfl (lv_at hl 3 rfl) ?_
          refine lv_iconst (v := (-1)) hx hb dPl_conditionFor_51 (by decide) ?_
          refine lv_icmp_ne (tgt := 71) hx hb dPl_conditionFor_52 (by decide) (fun c6 => ?_) (fun c6 => ?_)
          · replace h := jif_f c6 h
            refine lv_iinc (v := x4 + 1) (lv' := [(4, .int (x4 + 1)), (0, .ref (A 2)), (1, .int x1), (2, .int x2), (3, .int x3)]) hx hb dPl_conditionFor_71 hl (k := 4) rfl rfl (by decide) rfl (fun ls hl => ?_)
            refine lv_goto (tgt := 5) hx hb dPl_conditionFor_74 (by decide) ?_
            exact ih _ _ _ _ _ _ _ _ _ _ hJ (lv_sub hl [1, 2, 3, 4, 0] rfl) h
          · replace h := jif_t c6 h
            refine lv_aload_n hx hb dPl_conditionFor_55 rfl (lv_at hl 0 rfl) ?_
            refine va_get (D := (dC, dI)) (ci := 2) (v := .ref (A 3)) (C := RPl) (T := TPl) (N := 4) hx hb hj iPl hown hJ.1 hJ.2.1 2 rfl rfl 0 (by decide) (hj _ jw_102) (fun _ h9 => h9) rfl dPl_conditionFor_56 ?_
            refine va_getN (D := (dC, dI)) (ci := 3) (v := .ref (A 11)) (C := RQu) (T := TQu) (N := 10) hx hb hj iQu hown hJ.1 hJ.2.1 3 rfl rfl 2 (by decide) (jnw_use hN jnw_5) (fun _ h9 => h9) rfl dPl_conditionFor_59 ?_
            refine lv_iload hx hb dPl_conditionFor_62 (lv_at hl 4 rfl) ?_
            obtain ⟨hi7, h⟩ := jib_h h
            refine jald_11 hx hb hJ hi7 dPl_conditionFor_64 ?_
            refine lv_if_ne (tgt := 71) hx hb dPl_conditionFor_65 (by decide) (fun c8 => ?_) (fun c8 => ?_)
            · replace h := jif_f c8 h
              refine lv_iinc (v := x4 + 1) (lv' := [(4, .int (x4 + 1)), (0, .ref (A 2)), (1, .int x1), (2, .int x2), (3, .int x3)]) hx hb dPl_conditionFor_71 hl (k := 4) rfl rfl (by decide) rfl (fun ls hl => ?_)
              refine lv_goto (tgt := 5) hx hb dPl_conditionFor_74 (by decide) ?_
              exact ih _ _ _ _ _ _ _ _ _ _ hJ (lv_sub hl [1, 2, 3, 4, 0] rfl) h
            · replace h := jif_t c8 h
              refine lv_iload hx hb dPl_conditionFor_68 (lv_at hl 4 rfl) ?_
              refine lv_istore_n (lv' := [(3, .int x4), (0, .ref (A 2)), (1, .int x1), (2, .int x2), (4, .int x4)]) hx hb dPl_conditionFor_70 rfl hl (by decide) rfl (fun ls hl => ?_)
              refine lv_iinc (v := x4 + 1) (lv' := [(4, .int (x4 + 1)), (3, .int x4), (0, .ref (A 2)), (1, .int x1), (2, .int x2)]) hx hb dPl_conditionFor_71 hl (k := 4) rfl rfl (by decide) rfl (fun ls hl => ?_)
              refine lv_goto (tgt := 5) hx hb dPl_conditionFor_74 (by decide) ?_
              exact ih _ _ _ _ _ _ _ _ _ _ hJ (lv_sub hl [2, 3, 4, 1, 0] rfl) h
        · replace h := jif_f c5 h
          refine lv_iload hx hb dPl_conditionFor_47 (lv_at hl 4 rfl) ?_
          exact jreti (u := B) hx hb hr rfl hlocks hJ dPl_conditionFor_49 (Option.some.inj h)
      · replace h := jif_t c3 h
        refine lv_goto (tgt := 71) hx hb dPl_conditionFor_31 (by decide) ?_
        refine lv_iinc (v := x4 + 1) (lv' := [(4, .int (x4 + 1)), (0, .ref (A 2)), (1, .int x1), (2, .int x2), (3, .int x3)]) hx hb dPl_conditionFor_71 hl (k := 4) rfl rfl (by decide) rfl (fun ls hl => ?_)
        refine lv_goto (tgt := 5) hx hb dPl_conditionFor_74 (by decide) ?_
        exact ih _ _ _ _ _ _ _ _ _ _ hJ (lv_sub hl [1, 2, 3, 4, 0] rfl) h
set_option maxHeartbeats 4000000 in
set_option maxRecDepth 100000 in
theorem uPl_conditionFor_0 {p : Program} {e : Env} {s : State} {m : MethodId} {args : Array Value} {below : List Frame} {meth : Method} {c : Code} (l : Launch) (dC : Nat → ClassId) (dI : Nat → Nat → Nat) (cA : ClassId) (A : Nat → Nat) (Ap : Nat → Prop) (hC : jAt p s m args meth c bPl_conditionFor 5 (some .int) wPl_conditionFor RPl) (hA : ∀ q : Nat, s.heap.size ≤ q → Ap q) {r : Int32} : ∀ (x1 x2 : Int32) (M : jM) (F : jF) (B : Nat → Nat) (H : Heap) (locs : List Loc) (ls : Array Slot), jH (dC, dI) jCl [(cA, .int)] (jW cA A B M F) Ap s H locs → lv_has ls 5 [(0, .ref (A 2)), (1, .int x1), (2, .int x2)] → fPl_conditionFor_0 x1 x2 M F = some r → W p l e (headSpec wPl_conditionFor rPl_conditionFor).room s m args below meth c H locs 0 0 (jQi below (dC, dI) jCl [(cA, .int)] (fun B => jW cA A B M F) Ap args s r) (F0 m 0 ls []) := by
  obtain ⟨hx, hb, hml, hr, hts, hown, hlocks, hN⟩ := id hC
  have hj : ∀ w ∈ jw, w.before args s = true := fun w h => hts w (List.mem_cons_of_mem _ h)
  intro x1 x2 M F B H locs ls hJ hl h
  unfold fPl_conditionFor_0 at h
  refine lv_iconst (v := (-1)) hx hb dPl_conditionFor_0 (by decide) ?_
  refine lv_istore_n (lv' := [(3, .int (-1)), (0, .ref (A 2)), (1, .int x1), (2, .int x2)]) hx hb dPl_conditionFor_1 rfl hl (by decide) rfl (fun ls hl => ?_)
  refine lv_iconst (v := 0) hx hb dPl_conditionFor_2 (by decide) ?_
  refine lv_istore (lv' := [(4, .int 0), (3, .int (-1)), (0, .ref (A 2)), (1, .int x1), (2, .int x2)]) hx hb dPl_conditionFor_3 hl (by decide) rfl (fun ls hl => ?_)
  exact uPl_conditionFor_5 l dC dI cA A Ap hC hA jfuel _ _ _ _ _ _ _ _ _ _ hJ (lv_sub hl [2, 3, 4, 1, 0] rfl) h
set_option maxHeartbeats 4000000 in
set_option maxRecDepth 100000 in
theorem cPl_conditionFor (l : Launch) (dC : Nat → ClassId) (dI : Nat → Nat → Nat) (cA : ClassId) (A : Nat → Nat) (x1 : Int32) (x2 : Int32) (M : jM) (F : jF) (B : Nat → Nat) (sz : Nat) {r : Int32} (h : fPl_conditionFor x1 x2 M F = some r) : jCi l yPl_conditionFor wPl_conditionFor rPl_conditionFor (dC, dI) jCl [(cA, .int)] [.ref (A 2), .int x1, .int x2] (jW cA A B M F) sz r (fun B => jW cA A B M F) :=
  jOf (Qc := fun Ap => va_Qi (fun q (_ : Nat → Nat) => q = r) (jPost (dC, dI) jCl [(cA, .int)] (fun B => jW cA A B M F) Ap) Ap) (by decide) rfl (Nat.le_of_ble_eq_true rfl) (fun p e s m below meth c Ap ls hC hA hJ hl => uPl_conditionFor_0 l dC dI cA A Ap hC hA _ _ _ _ _ _ _ _ hJ (lv_sub hl [0, 1, 2] rfl) h)
abbrev bPl_methodAt : ByteArray := prog_2_method_4_code
abbrev yPl_methodAt : MethodName := ⟨RPl, "methodAt", "(I)I"⟩
abbrev wPl_methodAt : List Cond := .code yPl_methodAt bPl_methodAt 4 (some .int) :: jw
theorem dPl_methodAt_0 : decode bPl_methodAt 0 = .ok (.aload_n 0, 1) := by decide +kernel
theorem dPl_methodAt_1 : decode bPl_methodAt 1 = .ok (.getfield 25, 3) := by decide +kernel
theorem dPl_methodAt_4 : decode bPl_methodAt 4 = .ok (.iload_n 1, 1) := by decide +kernel
theorem dPl_methodAt_5 : decode bPl_methodAt 5 = .ok (.iaload, 1) := by decide +kernel
theorem dPl_methodAt_6 : decode bPl_methodAt 6 = .ok (.istore_n 2, 1) := by decide +kernel
theorem dPl_methodAt_7 : decode bPl_methodAt 7 = .ok (.aload_n 0, 1) := by decide +kernel
theorem dPl_methodAt_8 : decode bPl_methodAt 8 = .ok (.iload_n 2, 1) := by decide +kernel
theorem dPl_methodAt_9 : decode bPl_methodAt 9 = .ok (.aload_n 0, 1) := by decide +kernel
theorem dPl_methodAt_10 : decode bPl_methodAt 10 = .ok (.iload_n 1, 1) := by decide +kernel
theorem dPl_methodAt_11 : decode bPl_methodAt 11 = .ok (.invokevirtual 43, 3) := by decide +kernel
theorem dPl_methodAt_14 : decode bPl_methodAt 14 = .ok (.invokevirtual 46, 3) := by decide +kernel
theorem dPl_methodAt_17 : decode bPl_methodAt 17 = .ok (.istore_n 3, 1) := by decide +kernel
theorem dPl_methodAt_18 : decode bPl_methodAt 18 = .ok (.iload_n 3, 1) := by decide +kernel
theorem dPl_methodAt_19 : decode bPl_methodAt 19 = .ok (.iconst (-1), 1) := by decide +kernel
theorem dPl_methodAt_20 : decode bPl_methodAt 20 = .ok (.if_icmp .ne 5, 3) := by decide +kernel
theorem dPl_methodAt_23 : decode bPl_methodAt 23 = .ok (.iconst 3, 1) := by decide +kernel
theorem dPl_methodAt_24 : decode bPl_methodAt 24 = .ok (.ireturn, 1) := by decide +kernel
theorem dPl_methodAt_25 : decode bPl_methodAt 25 = .ok (.aload_n 0, 1) := by decide +kernel
theorem dPl_methodAt_26 : decode bPl_methodAt 26 = .ok (.getfield 12, 3) := by decide +kernel
theorem dPl_methodAt_29 : decode bPl_methodAt 29 = .ok (.iload_n 3, 1) := by decide +kernel
theorem dPl_methodAt_30 : decode bPl_methodAt 30 = .ok (.iload_n 2, 1) := by decide +kernel
theorem dPl_methodAt_31 : decode bPl_methodAt 31 = .ok (.invokevirtual 49, 3) := by decide +kernel
theorem dPl_methodAt_34 : decode bPl_methodAt 34 = .ok (.ifCond .eq 7, 3) := by decide +kernel
theorem dPl_methodAt_37 : decode bPl_methodAt 37 = .ok (.iconst 1, 1) := by decide +kernel
theorem dPl_methodAt_38 : decode bPl_methodAt 38 = .ok (.goto 4, 3) := by decide +kernel
theorem dPl_methodAt_41 : decode bPl_methodAt 41 = .ok (.iconst 2, 1) := by decide +kernel
theorem dPl_methodAt_42 : decode bPl_methodAt 42 = .ok (.ireturn, 1) := by decide +kernel
abbrev rPl_methodAt : Room := { frames := 4, cells := 0, slots := 0, locals := 92 }
def fPl_methodAt_0 (x1 : Int32) (M : jM) (F : jF) : Option Int32 := (if jib x1 6 then ((fPl_aheadOf x1 M F).bind fun q2 => ((fPl_conditionFor (M 19 x1.toNatClampNeg) q2 M F).bind fun q3 => (if q3 = (-1) then some 3 else ((fQu_tellsByIndex q3 (M 19 x1.toNatClampNeg) M F).bind fun q5 => (if q5 = 0 then some 2 else some 1))))) else none)
abbrev fPl_methodAt (x1 : Int32) (M : jM) (F : jF) : Option Int32 := fPl_methodAt_0 x1 M F
set_option maxHeartbeats 4000000 in
set_option maxRecDepth 100000 in
theorem uPl_methodAt_0 {p : Program} {e : Env} {s : State} {m : MethodId} {args : Array Value} {below : List Frame} {meth : Method} {c : Code} (l : Launch) (dC : Nat → ClassId) (dI : Nat → Nat → Nat) (cA : ClassId) (A : Nat → Nat) (Ap : Nat → Prop) (hC : jAt p s m args meth c bPl_methodAt 4 (some .int) wPl_methodAt RPl) (hA : ∀ q : Nat, s.heap.size ≤ q → Ap q) {r : Int32} : ∀ (x1 : Int32) (M : jM) (F : jF) (B : Nat → Nat) (H : Heap) (locs : List Loc) (ls : Array Slot), jH (dC, dI) jCl [(cA, .int)] (jW cA A B M F) Ap s H locs → lv_has ls 4 [(0, .ref (A 2)), (1, .int x1)] → fPl_methodAt_0 x1 M F = some r → W p l e (headSpec wPl_methodAt rPl_methodAt).room s m args below meth c H locs 0 0 (jQi below (dC, dI) jCl [(cA, .int)] (fun B => jW cA A B M F) Ap args s r) (F0 m 0 ls []) := by
  obtain ⟨hx, hb, hml, hr, hts, hown, hlocks, hN⟩ := id hC
  have hj : ∀ w ∈ jw, w.before args s = true := fun w h => hts w (List.mem_cons_of_mem _ h)
  intro x1 M F B H locs ls hJ hl h
  unfold fPl_methodAt_0 at h
  refine lv_aload_n hx hb dPl_methodAt_0 rfl (lv_at hl 0 rfl) ?_
  refine va_get (D := (dC, dI)) (ci := 2) (v := .ref (A 19)) (C := RPl) (T := TPl) (N := 4) hx hb hj iPl hown hJ.1 hJ.2.1 2 rfl rfl 3 (by decide) (hj _ jw_107) (fun _ h9 => h9) rfl dPl_methodAt_1 ?_
  refine lv_iload_n hx hb dPl_methodAt_4 rfl (lv_at hl 1 rfl) ?_
  obtain ⟨hi1, h⟩ := jib_h h
  refine jald_19 hx hb hJ hi1 dPl_methodAt_5 ?_
  refine lv_istore_n (lv' := [(2, .int (M 19 x1.toNatClampNeg)), (0, .ref (A 2)), (1, .int x1)]) hx hb dPl_methodAt_6 rfl hl (by decide) rfl (fun ls hl => ?_)
  refine lv_aload_n hx hb dPl_methodAt_7 rfl (lv_at hl 1 rfl) ?_
  refine lv_iload_n hx hb dPl_methodAt_8 rfl (lv_at hl 0 rfl) ?_
  refine lv_aload_n hx hb dPl_methodAt_9 rfl (lv_at hl 1 rfl) ?_
  refine lv_iload_n hx hb dPl_methodAt_10 rfl (lv_at hl 2 rfl) ?_
  obtain ⟨q2, hq2, h⟩ := jbi_h h
  refine jcalli (w' := fun B => jW cA A B M F) (va_runV (As := [.int x1]) (rest := [.int (M 19 x1.toNatClampNeg), .ref (A 2)]) ⟨hx, hb, hml, hown, hts⟩ (cPl_aheadOf l dC dI cA A x1 M F B H.size hq2) (cwV 1 hts (jgoodV jw_462 jw_464 jws_9 jw_3 jw_465) rfl rfl rfl (by decide +kernel) ⟨Nat.le_of_ble_eq_true rfl, Nat.le_of_ble_eq_true rfl⟩) (jpreV hN hJ (ci := 2) (q0 := 2) rfl rfl) rfl rfl hl.1 rfl (lv_room (Nat.le_of_ble_eq_true rfl)) dPl_methodAt_11 ⟨Nat.zero_le _, Nat.zero_le _⟩) hA hJ (fun B H locs hJ => ?_)
  obtain ⟨q3, hq3, h⟩ := jbi_h h
  refine jcalli (w' := fun B => jW cA A B M F) (va_runV (As := [.int (M 19 x1.toNatClampNeg), .int q2]) (rest := []) ⟨hx, hb, hml, hown, hts⟩ (cPl_conditionFor l dC dI cA A (M 19 x1.toNatClampNeg) q2 M F B H.size hq3) (cwV 2 hts (jgoodV jw_466 jw_467 jw_468 jw_3 jw_469) rfl rfl rfl (by decide +kernel) ⟨Nat.le_of_ble_eq_true rfl, Nat.le_of_ble_eq_true rfl⟩) (jpreV hN hJ (ci := 2) (q0 := 2) rfl rfl) rfl rfl hl.1 rfl (lv_room (Nat.le_of_ble_eq_true rfl)) dPl_methodAt_14 ⟨Nat.zero_le _, Nat.zero_le _⟩) hA hJ (fun B H locs hJ => ?_)
  refine lv_istore_n (lv' := [(3, .int q3), (2, .int (M 19 x1.toNatClampNeg)), (0, .ref (A 2)), (1, .int x1)]) hx hb dPl_methodAt_17 rfl hl (by decide) rfl (fun ls hl => ?_)
  refine lv_iload_n hx hb dPl_methodAt_18 rfl (lv_at hl 0 rfl) ?_
  refine lv_iconst (v := (-1)) hx hb dPl_methodAt_19 (by decide) ?_
  refine lv_icmp_ne (tgt := 25) hx hb dPl_methodAt_20 (by decide) (fun c4 => ?_) (fun c4 => ?_)
  · replace h := jif_f c4 h
    refine lv_aload_n hx hb dPl_methodAt_25 rfl (lv_at hl 2 rfl) ?_
    refine va_get (D := (dC, dI)) (ci := 2) (v := .ref (A 3)) (C := RPl) (T := TPl) (N := 4) hx hb hj iPl hown hJ.1 hJ.2.1 2 rfl rfl 0 (by decide) (hj _ jw_102) (fun _ h9 => h9) rfl dPl_methodAt_26 ?_
    refine lv_iload_n hx hb dPl_methodAt_29 rfl (lv_at hl 0 rfl) ?_
    refine lv_iload_n hx hb dPl_methodAt_30 rfl (lv_at hl 1 rfl) ?_
    obtain ⟨q5, hq5, h⟩ := jbi_h h
    refine jcalli (w' := fun B => jW cA A B M F) (va_runV (As := [.int q3, .int (M 19 x1.toNatClampNeg)]) (rest := []) ⟨hx, hb, hml, hown, hts⟩ (cQu_tellsByIndex l dC dI cA A q3 (M 19 x1.toNatClampNeg) M F B H.size hq5) (cwV 2 hts (jgoodV jw_483 jw_484 jw_485 jw_4 jw_486) rfl rfl rfl (by decide +kernel) ⟨Nat.le_of_ble_eq_true rfl, Nat.le_of_ble_eq_true rfl⟩) (jpreV hN hJ (ci := 3) (q0 := 3) rfl rfl) rfl rfl hl.1 rfl (lv_room (Nat.le_of_ble_eq_true rfl)) dPl_methodAt_31 ⟨Nat.zero_le _, Nat.zero_le _⟩) hA hJ (fun B H locs hJ => ?_)
    refine lv_if_eq (tgt := 41) hx hb dPl_methodAt_34 (by decide) (fun c6 => ?_) (fun c6 => ?_)
    · replace h := jif_t c6 h
      refine lv_iconst (v := 2) hx hb dPl_methodAt_41 (by decide) ?_
      exact jreti (u := B) hx hb hr rfl hlocks hJ dPl_methodAt_42 (Option.some.inj h)
    · replace h := jif_f c6 h
      refine lv_iconst (v := 1) hx hb dPl_methodAt_37 (by decide) ?_
      refine lv_goto (tgt := 42) hx hb dPl_methodAt_38 (by decide) ?_
      exact jreti (u := B) hx hb hr rfl hlocks hJ dPl_methodAt_42 (Option.some.inj h)
  · replace h := jif_t c4 h
    refine lv_iconst (v := 3) hx hb dPl_methodAt_23 (by decide) ?_
    exact jreti (u := B) hx hb hr rfl hlocks hJ dPl_methodAt_24 (Option.some.inj h)
set_option maxHeartbeats 4000000 in
set_option maxRecDepth 100000 in
theorem cPl_methodAt (l : Launch) (dC : Nat → ClassId) (dI : Nat → Nat → Nat) (cA : ClassId) (A : Nat → Nat) (x1 : Int32) (M : jM) (F : jF) (B : Nat → Nat) (sz : Nat) {r : Int32} (h : fPl_methodAt x1 M F = some r) : jCi l yPl_methodAt wPl_methodAt rPl_methodAt (dC, dI) jCl [(cA, .int)] [.ref (A 2), .int x1] (jW cA A B M F) sz r (fun B => jW cA A B M F) :=
  jOf (Qc := fun Ap => va_Qi (fun q (_ : Nat → Nat) => q = r) (jPost (dC, dI) jCl [(cA, .int)] (fun B => jW cA A B M F) Ap) Ap) (by decide) rfl (Nat.le_of_ble_eq_true rfl) (fun p e s m below meth c Ap ls hC hA hJ hl => uPl_methodAt_0 l dC dI cA A Ap hC hA _ _ _ _ _ _ _ hJ (lv_sub hl [0, 1] rfl) h)
end
section
abbrev bSi_rowsThatHold : ByteArray := prog_5_method_6_code
abbrev ySi_rowsThatHold : MethodName := ⟨RSi, "rowsThatHold", "(LJoinHouse$Query;III)I"⟩
abbrev wSi_rowsThatHold : List Cond := .code ySi_rowsThatHold bSi_rowsThatHold 7 (some .int) :: jw
theorem dSi_rowsThatHold_0 : decode bSi_rowsThatHold 0 = .ok (.iconst 0, 1) := by decide +kernel
theorem dSi_rowsThatHold_1 : decode bSi_rowsThatHold 1 = .ok (.istore 4, 2) := by decide +kernel
theorem dSi_rowsThatHold_3 : decode bSi_rowsThatHold 3 = .ok (.aload_n 0, 1) := by decide +kernel
theorem dSi_rowsThatHold_4 : decode bSi_rowsThatHold 4 = .ok (.iload_n 2, 1) := by decide +kernel
theorem dSi_rowsThatHold_5 : decode bSi_rowsThatHold 5 = .ok (.invokevirtual 28, 3) := by decide +kernel
theorem dSi_rowsThatHold_8 : decode bSi_rowsThatHold 8 = .ok (.istore 5, 2) := by decide +kernel
theorem dSi_rowsThatHold_10 : decode bSi_rowsThatHold 10 = .ok (.iconst 0, 1) := by decide +kernel
theorem dSi_rowsThatHold_11 : decode bSi_rowsThatHold 11 = .ok (.istore 6, 2) := by decide +kernel
theorem dSi_rowsThatHold_13 : decode bSi_rowsThatHold 13 = .ok (.iload 6, 2) := by decide +kernel
theorem dSi_rowsThatHold_15 : decode bSi_rowsThatHold 15 = .ok (.iload 5, 2) := by decide +kernel
theorem dSi_rowsThatHold_17 : decode bSi_rowsThatHold 17 = .ok (.if_icmp .ge 30, 3) := by decide +kernel
theorem dSi_rowsThatHold_20 : decode bSi_rowsThatHold 20 = .ok (.aload_n 0, 1) := by decide +kernel
theorem dSi_rowsThatHold_21 : decode bSi_rowsThatHold 21 = .ok (.iload_n 1, 1) := by decide +kernel
theorem dSi_rowsThatHold_22 : decode bSi_rowsThatHold 22 = .ok (.iload_n 2, 1) := by decide +kernel
theorem dSi_rowsThatHold_23 : decode bSi_rowsThatHold 23 = .ok (.iload 6, 2) := by decide +kernel
theorem dSi_rowsThatHold_25 : decode bSi_rowsThatHold 25 = .ok (.iload_n 3, 1) := by decide +kernel
theorem dSi_rowsThatHold_26 : decode bSi_rowsThatHold 26 = .ok (.invokevirtual 59, 3) := by decide +kernel
theorem dSi_rowsThatHold_29 : decode bSi_rowsThatHold 29 = .ok (.ifCond .eq 12, 3) := by decide +kernel
theorem dSi_rowsThatHold_32 : decode bSi_rowsThatHold 32 = .ok (.iload 4, 2) := by decide +kernel
theorem dSi_rowsThatHold_34 : decode bSi_rowsThatHold 34 = .ok (.iconst 1, 1) := by decide +kernel
theorem dSi_rowsThatHold_35 : decode bSi_rowsThatHold 35 = .ok (.iload 6, 2) := by decide +kernel
theorem dSi_rowsThatHold_37 : decode bSi_rowsThatHold 37 = .ok (.ishl, 1) := by decide +kernel
theorem dSi_rowsThatHold_38 : decode bSi_rowsThatHold 38 = .ok (.ior, 1) := by decide +kernel
theorem dSi_rowsThatHold_39 : decode bSi_rowsThatHold 39 = .ok (.istore 4, 2) := by decide +kernel
theorem dSi_rowsThatHold_41 : decode bSi_rowsThatHold 41 = .ok (.iinc 6 1, 3) := by decide +kernel
theorem dSi_rowsThatHold_44 : decode bSi_rowsThatHold 44 = .ok (.goto (-31), 3) := by decide +kernel
theorem dSi_rowsThatHold_47 : decode bSi_rowsThatHold 47 = .ok (.iload 4, 2) := by decide +kernel
theorem dSi_rowsThatHold_49 : decode bSi_rowsThatHold 49 = .ok (.ireturn, 1) := by decide +kernel
abbrev rSi_rowsThatHold : Room := { frames := 2, cells := 0, slots := 0, locals := 53 }
def fSi_rowsThatHold_13 : Nat → Int32 → Int32 → Int32 → Int32 → Int32 → Int32 → jM → jF → Option Int32
  | 0, _, _, _, _, _, _, _, _ => none
  | n + 1, x1, x2, x3, x4, x5, x6, M, F => (if x5 ≤ x6 then some x4 else ((fQu_holds x1 x2 x6 x3 M F).bind fun q3 => (if q3 = 0 then fSi_rowsThatHold_13 n x1 x2 x3 x4 x5 (x6 + 1) M F else fSi_rowsThatHold_13 n x1 x2 x3 (x4 ||| (1 <<< (x6 &&& 31))) x5 (x6 + 1) M F)))
def fSi_rowsThatHold_0 (x1 : Int32) (x2 : Int32) (x3 : Int32) (M : jM) (F : jF) : Option Int32 := ((fQu_rowsOf x2 M F).bind fun q1 => fSi_rowsThatHold_13 jfuel x1 x2 x3 0 q1 0 M F)
abbrev fSi_rowsThatHold (x1 : Int32) (x2 : Int32) (x3 : Int32) (M : jM) (F : jF) : Option Int32 := fSi_rowsThatHold_0 x1 x2 x3 M F
set_option maxHeartbeats 4000000 in
set_option maxRecDepth 100000 in
theorem uSi_rowsThatHold_13 {p : Program} {e : Env} {s : State} {m : MethodId} {args : Array Value} {below : List Frame} {meth : Method} {c : Code} (l : Launch) (dC : Nat → ClassId) (dI : Nat → Nat → Nat) (cA : ClassId) (A : Nat → Nat) (Ap : Nat → Prop) (hC : jAt p s m args meth c bSi_rowsThatHold 7 (some .int) wSi_rowsThatHold RSi) (hA : ∀ q : Nat, s.heap.size ≤ q → Ap q) {r : Int32} : ∀ (n : Nat) (x1 x2 x3 x4 x5 x6 : Int32) (M : jM) (F : jF) (B : Nat → Nat) (H : Heap) (locs : List Loc) (ls : Array Slot), jH (dC, dI) jCl [(cA, .int)] (jW cA A B M F) Ap s H locs → lv_has ls 7 [(0, .ref (A 3)), (1, .int x1), (2, .int x2), (3, .int x3), (4, .int x4), (5, .int x5), (6, .int x6)] → fSi_rowsThatHold_13 n x1 x2 x3 x4 x5 x6 M F = some r → W p l e (headSpec wSi_rowsThatHold rSi_rowsThatHold).room s m args below meth c H locs 0 0 (jQi below (dC, dI) jCl [(cA, .int)] (fun B => jW cA A B M F) Ap args s r) (F0 m 13 ls []) := by
  obtain ⟨hx, hb, hml, hr, hts, hown, hlocks, hN⟩ := id hC
  have hj : ∀ w ∈ jw, w.before args s = true := fun w h => hts w (List.mem_cons_of_mem _ h)
  intro n
  induction n with
  | zero =>
    intro x1 x2 x3 x4 x5 x6 M F B H locs ls hJ hl h
    rw [fSi_rowsThatHold_13] at h
    cases h
  | succ n ih =>
    intro x1 x2 x3 x4 x5 x6 M F B H locs ls hJ hl h
    rw [fSi_rowsThatHold_13] at h
    refine lv_iload hx hb dSi_rowsThatHold_13 (lv_at hl 6 rfl) ?_
    refine lv_iload hx hb dSi_rowsThatHold_15 (lv_at hl 5 rfl) ?_
    refine lv_icmp_ge (tgt := 47) hx hb dSi_rowsThatHold_17 (by decide) (fun c2 => ?_) (fun c2 => ?_)
    · replace h := jif_t c2 h
      refine lv_iload hx hb dSi_rowsThatHold_47 (lv_at hl 4 rfl) ?_
      exact jreti (u := B) hx hb hr rfl hlocks hJ dSi_rowsThatHold_49 (Option.some.inj h)
    · replace h := jif_f c2 h
      refine lv_aload_n hx hb dSi_rowsThatHold_20 rfl (lv_at hl 0 rfl) ?_
      refine lv_iload_n hx hb dSi_rowsThatHold_21 rfl (lv_at hl 1 rfl) ?_
      refine lv_iload_n hx hb dSi_rowsThatHold_22 rfl (lv_at hl 2 rfl) ?_
      refine lv_iload hx hb dSi_rowsThatHold_23 (lv_at hl 6 rfl) ?_
      refine lv_iload_n hx hb dSi_rowsThatHold_25 rfl (lv_at hl 3 rfl) ?_
      obtain ⟨q3, hq3, h⟩ := jbi_h h
      refine jcalli (w' := fun B => jW cA A B M F) (va_runV (As := [.int x1, .int x2, .int x6, .int x3]) (rest := []) ⟨hx, hb, hml, hown, hts⟩ (cQu_holds l dC dI cA A x1 x2 x6 x3 M F B H.size hq3) (cwV 4 hts (jgoodV jw_532 jw_533 jw_534 jw_4 jw_535) rfl rfl rfl (by decide +kernel) ⟨Nat.le_of_ble_eq_true rfl, Nat.le_of_ble_eq_true rfl⟩) (jpreV hN hJ (ci := 3) (q0 := 3) rfl rfl) rfl rfl hl.1 rfl (lv_room (Nat.le_of_ble_eq_true rfl)) dSi_rowsThatHold_26 ⟨Nat.zero_le _, Nat.zero_le _⟩) hA hJ (fun B H locs hJ => ?_)
      refine lv_if_eq (tgt := 41) hx hb dSi_rowsThatHold_29 (by decide) (fun c4 => ?_) (fun c4 => ?_)
      · replace h := jif_t c4 h
        refine lv_iinc (v := x6 + 1) (lv' := [(6, .int (x6 + 1)), (0, .ref (A 3)), (1, .int x1), (2, .int x2), (3, .int x3), (4, .int x4), (5, .int x5)]) hx hb dSi_rowsThatHold_41 hl (k := 6) rfl rfl (by decide) rfl (fun ls hl => ?_)
        refine lv_goto (tgt := 13) hx hb dSi_rowsThatHold_44 (by decide) ?_
        exact ih _ _ _ _ _ _ _ _ _ _ _ _ hJ (lv_sub hl [1, 2, 3, 4, 5, 6, 0] rfl) h
      · replace h := jif_f c4 h
        refine lv_iload hx hb dSi_rowsThatHold_32 (lv_at hl 4 rfl) ?_
        refine lv_iconst (v := 1) hx hb dSi_rowsThatHold_34 (by decide) ?_
        refine lv_iload hx hb dSi_rowsThatHold_35 (lv_at hl 6 rfl) ?_
        refine lv_ishl hx hb dSi_rowsThatHold_37 ?_
        refine lv_ior hx hb dSi_rowsThatHold_38 ?_
        refine lv_istore (lv' := [(4, .int (x4 ||| (1 <<< (x6 &&& 31)))), (0, .ref (A 3)), (1, .int x1), (2, .int x2), (3, .int x3), (5, .int x5), (6, .int x6)]) hx hb dSi_rowsThatHold_39 hl (by decide) rfl (fun ls hl => ?_)
        refine lv_iinc (v := x6 + 1) (lv' := [(6, .int (x6 + 1)), (4, .int (x4 ||| (1 <<< (x6 &&& 31)))), (0, .ref (A 3)), (1, .int x1), (2, .int x2), (3, .int x3), (5, .int x5)]) hx hb dSi_rowsThatHold_41 hl (k := 6) rfl rfl (by decide) rfl (fun ls hl => ?_)
        refine lv_goto (tgt := 13) hx hb dSi_rowsThatHold_44 (by decide) ?_
        exact ih _ _ _ _ _ _ _ _ _ _ _ _ hJ (lv_sub hl [2, 3, 4, 5, 1, 6, 0] rfl) h
set_option maxHeartbeats 4000000 in
set_option maxRecDepth 100000 in
theorem uSi_rowsThatHold_0 {p : Program} {e : Env} {s : State} {m : MethodId} {args : Array Value} {below : List Frame} {meth : Method} {c : Code} (l : Launch) (dC : Nat → ClassId) (dI : Nat → Nat → Nat) (cA : ClassId) (A : Nat → Nat) (Ap : Nat → Prop) (hC : jAt p s m args meth c bSi_rowsThatHold 7 (some .int) wSi_rowsThatHold RSi) (hA : ∀ q : Nat, s.heap.size ≤ q → Ap q) {r : Int32} : ∀ (x1 x2 x3 : Int32) (M : jM) (F : jF) (B : Nat → Nat) (H : Heap) (locs : List Loc) (ls : Array Slot), jH (dC, dI) jCl [(cA, .int)] (jW cA A B M F) Ap s H locs → lv_has ls 7 [(0, .ref (A 3)), (1, .int x1), (2, .int x2), (3, .int x3)] → fSi_rowsThatHold_0 x1 x2 x3 M F = some r → W p l e (headSpec wSi_rowsThatHold rSi_rowsThatHold).room s m args below meth c H locs 0 0 (jQi below (dC, dI) jCl [(cA, .int)] (fun B => jW cA A B M F) Ap args s r) (F0 m 0 ls []) := by
  obtain ⟨hx, hb, hml, hr, hts, hown, hlocks, hN⟩ := id hC
  have hj : ∀ w ∈ jw, w.before args s = true := fun w h => hts w (List.mem_cons_of_mem _ h)
  intro x1 x2 x3 M F B H locs ls hJ hl h
  unfold fSi_rowsThatHold_0 at h
  refine lv_iconst (v := 0) hx hb dSi_rowsThatHold_0 (by decide) ?_
  refine lv_istore (lv' := [(4, .int 0), (0, .ref (A 3)), (1, .int x1), (2, .int x2), (3, .int x3)]) hx hb dSi_rowsThatHold_1 hl (by decide) rfl (fun ls hl => ?_)
  refine lv_aload_n hx hb dSi_rowsThatHold_3 rfl (lv_at hl 1 rfl) ?_
  refine lv_iload_n hx hb dSi_rowsThatHold_4 rfl (lv_at hl 3 rfl) ?_
  obtain ⟨q1, hq1, h⟩ := jbi_h h
  refine jcalli (w' := fun B => jW cA A B M F) (va_runV (As := [.int x2]) (rest := []) ⟨hx, hb, hml, hown, hts⟩ (cQu_rowsOf l dC dI cA A x2 M F B H.size hq1) (cwV 1 hts (jgoodV jw_522 jw_420 jw_421 jw_4 jw_422) rfl rfl rfl (by decide +kernel) ⟨Nat.le_of_ble_eq_true rfl, Nat.le_of_ble_eq_true rfl⟩) (jpreV hN hJ (ci := 3) (q0 := 3) rfl rfl) rfl rfl hl.1 rfl (lv_room (Nat.le_of_ble_eq_true rfl)) dSi_rowsThatHold_5 ⟨Nat.zero_le _, Nat.zero_le _⟩) hA hJ (fun B H locs hJ => ?_)
  refine lv_istore (lv' := [(5, .int q1), (4, .int 0), (0, .ref (A 3)), (1, .int x1), (2, .int x2), (3, .int x3)]) hx hb dSi_rowsThatHold_8 hl (by decide) rfl (fun ls hl => ?_)
  refine lv_iconst (v := 0) hx hb dSi_rowsThatHold_10 (by decide) ?_
  refine lv_istore (lv' := [(6, .int 0), (5, .int q1), (4, .int 0), (0, .ref (A 3)), (1, .int x1), (2, .int x2), (3, .int x3)]) hx hb dSi_rowsThatHold_11 hl (by decide) rfl (fun ls hl => ?_)
  exact uSi_rowsThatHold_13 l dC dI cA A Ap hC hA jfuel _ _ _ _ _ _ _ _ _ _ _ _ hJ (lv_sub hl [3, 4, 5, 6, 2, 1, 0] rfl) h
set_option maxHeartbeats 4000000 in
set_option maxRecDepth 100000 in
theorem cSi_rowsThatHold (l : Launch) (dC : Nat → ClassId) (dI : Nat → Nat → Nat) (cA : ClassId) (A : Nat → Nat) (x1 : Int32) (x2 : Int32) (x3 : Int32) (M : jM) (F : jF) (B : Nat → Nat) (sz : Nat) {r : Int32} (h : fSi_rowsThatHold x1 x2 x3 M F = some r) : jCi l ySi_rowsThatHold wSi_rowsThatHold rSi_rowsThatHold (dC, dI) jCl [(cA, .int)] [.ref (A 3), .int x1, .int x2, .int x3] (jW cA A B M F) sz r (fun B => jW cA A B M F) :=
  jOf (Qc := fun Ap => va_Qi (fun q (_ : Nat → Nat) => q = r) (jPost (dC, dI) jCl [(cA, .int)] (fun B => jW cA A B M F) Ap) Ap) (by decide) rfl (Nat.le_of_ble_eq_true rfl) (fun p e s m below meth c Ap ls hC hA hJ hl => uSi_rowsThatHold_0 l dC dI cA A Ap hC hA _ _ _ _ _ _ _ _ _ hJ (lv_sub hl [0, 1, 2, 3] rfl) h)
abbrev bSi_judge : ByteArray := prog_5_method_5_code
abbrev ySi_judge : MethodName := ⟨RSi, "judge", "(LJoinHouse$Query;II)V"⟩
abbrev wSi_judge : List Cond := .code ySi_judge bSi_judge 7 none :: jw
theorem dSi_judge_0 : decode bSi_judge 0 = .ok (.aload_n 1, 1) := by decide +kernel
theorem dSi_judge_1 : decode bSi_judge 1 = .ok (.iload_n 2, 1) := by decide +kernel
theorem dSi_judge_2 : decode bSi_judge 2 = .ok (.iload_n 3, 1) := by decide +kernel
theorem dSi_judge_3 : decode bSi_judge 3 = .ok (.invokevirtual 52, 3) := by decide +kernel
theorem dSi_judge_6 : decode bSi_judge 6 = .ok (.istore 4, 2) := by decide +kernel
theorem dSi_judge_8 : decode bSi_judge 8 = .ok (.iload 4, 2) := by decide +kernel
theorem dSi_judge_10 : decode bSi_judge 10 = .ok (.iconst (-1), 1) := by decide +kernel
theorem dSi_judge_11 : decode bSi_judge 11 = .ok (.if_icmp .ne 7, 3) := by decide +kernel
theorem dSi_judge_14 : decode bSi_judge 14 = .ok (.iconst 1, 1) := by decide +kernel
theorem dSi_judge_15 : decode bSi_judge 15 = .ok (.goto 9, 3) := by decide +kernel
theorem dSi_judge_18 : decode bSi_judge 18 = .ok (.aload_n 1, 1) := by decide +kernel
theorem dSi_judge_19 : decode bSi_judge 19 = .ok (.iload 4, 2) := by decide +kernel
theorem dSi_judge_21 : decode bSi_judge 21 = .ok (.invokevirtual 28, 3) := by decide +kernel
theorem dSi_judge_24 : decode bSi_judge 24 = .ok (.istore 5, 2) := by decide +kernel
theorem dSi_judge_26 : decode bSi_judge 26 = .ok (.aload_n 0, 1) := by decide +kernel
theorem dSi_judge_27 : decode bSi_judge 27 = .ok (.getfield 15, 3) := by decide +kernel
theorem dSi_judge_30 : decode bSi_judge 30 = .ok (.iload_n 2, 1) := by decide +kernel
theorem dSi_judge_31 : decode bSi_judge 31 = .ok (.iload 4, 2) := by decide +kernel
theorem dSi_judge_33 : decode bSi_judge 33 = .ok (.iastore, 1) := by decide +kernel
theorem dSi_judge_34 : decode bSi_judge 34 = .ok (.iconst 0, 1) := by decide +kernel
theorem dSi_judge_35 : decode bSi_judge 35 = .ok (.istore 6, 2) := by decide +kernel
theorem dSi_judge_37 : decode bSi_judge 37 = .ok (.iload 6, 2) := by decide +kernel
theorem dSi_judge_39 : decode bSi_judge 39 = .ok (.iload 5, 2) := by decide +kernel
theorem dSi_judge_41 : decode bSi_judge 41 = .ok (.if_icmp .ge 29, 3) := by decide +kernel
theorem dSi_judge_44 : decode bSi_judge 44 = .ok (.aload_n 0, 1) := by decide +kernel
theorem dSi_judge_45 : decode bSi_judge 45 = .ok (.getfield 18, 3) := by decide +kernel
theorem dSi_judge_48 : decode bSi_judge 48 = .ok (.iload_n 2, 1) := by decide +kernel
theorem dSi_judge_49 : decode bSi_judge 49 = .ok (.bipush 32, 2) := by decide +kernel
theorem dSi_judge_51 : decode bSi_judge 51 = .ok (.imul, 1) := by decide +kernel
theorem dSi_judge_52 : decode bSi_judge 52 = .ok (.iload 6, 2) := by decide +kernel
theorem dSi_judge_54 : decode bSi_judge 54 = .ok (.iadd, 1) := by decide +kernel
theorem dSi_judge_55 : decode bSi_judge 55 = .ok (.aload_n 1, 1) := by decide +kernel
theorem dSi_judge_56 : decode bSi_judge 56 = .ok (.iload_n 2, 1) := by decide +kernel
theorem dSi_judge_57 : decode bSi_judge 57 = .ok (.iload_n 3, 1) := by decide +kernel
theorem dSi_judge_58 : decode bSi_judge 58 = .ok (.iload 6, 2) := by decide +kernel
theorem dSi_judge_60 : decode bSi_judge 60 = .ok (.invokestatic 55, 3) := by decide +kernel
theorem dSi_judge_63 : decode bSi_judge 63 = .ok (.iastore, 1) := by decide +kernel
theorem dSi_judge_64 : decode bSi_judge 64 = .ok (.iinc 6 1, 3) := by decide +kernel
theorem dSi_judge_67 : decode bSi_judge 67 = .ok (.goto (-30), 3) := by decide +kernel
theorem dSi_judge_70 : decode bSi_judge 70 = .ok (.return_, 1) := by decide +kernel
abbrev rSi_judge : Room := { frames := 3, cells := 0, slots := 0, locals := 79 }
def fSi_judge_37 : Nat → Int32 → Int32 → Int32 → Int32 → jM → jF → Option (Int32 × jM × jF)
  | 0, _, _, _, _, _, _ => none
  | n + 1, x2, x3, x5, x6, M, F => (if x5 ≤ x6 then some (0, M, F) else ((fSi_rowsThatHold x2 x3 x6 M F).bind fun q6 => (if jib ((x2 * 32) + x6) 384 then fSi_judge_37 n x2 x3 x5 (x6 + 1) (jmu M 22 ((x2 * 32) + x6).toNatClampNeg q6) F else none)))
def fSi_judge_24 (x2 : Int32) (x3 : Int32) (x4 : Int32) (s0 : Int32) (M : jM) (F : jF) : Option (Int32 × jM × jF) := (if jib x2 12 then fSi_judge_37 jfuel x2 x3 s0 0 (jmu M 21 x2.toNatClampNeg x4) F else none)
def fSi_judge_0 (x2 : Int32) (x3 : Int32) (M : jM) (F : jF) : Option (Int32 × jM × jF) := ((fQu_partner x2 x3 M F).bind fun q1 => (if q1 = (-1) then fSi_judge_24 x2 x3 q1 1 M F else ((fQu_rowsOf q1 M F).bind fun q3 => fSi_judge_24 x2 x3 q1 q3 M F)))
abbrev fSi_judge (x2 : Int32) (x3 : Int32) (M : jM) (F : jF) : Option (Int32 × jM × jF) := fSi_judge_0 x2 x3 M F
set_option maxHeartbeats 4000000 in
set_option maxRecDepth 100000 in
theorem uSi_judge_37 {p : Program} {e : Env} {s : State} {m : MethodId} {args : Array Value} {below : List Frame} {meth : Method} {c : Code} (l : Launch) (dC : Nat → ClassId) (dI : Nat → Nat → Nat) (cA : ClassId) (A : Nat → Nat) (Ap : Nat → Prop) (hC : jAt p s m args meth c bSi_judge 7 none wSi_judge RSi) (hA : ∀ q : Nat, s.heap.size ≤ q → Ap q) {r : Int32} {M' : jM} {F' : jF} : ∀ (n : Nat) (x2 x3 x5 x6 : Int32) (M : jM) (F : jF) (B : Nat → Nat) (H : Heap) (locs : List Loc) (ls : Array Slot), jH (dC, dI) jCl [(cA, .int)] (jW cA A B M F) Ap s H locs → lv_has ls 7 [(0, .ref (A 5)), (1, .ref (A 3)), (2, .int x2), (3, .int x3), (5, .int x5), (6, .int x6)] → fSi_judge_37 n x2 x3 x5 x6 M F = some (r, M', F') → W p l e (headSpec wSi_judge rSi_judge).room s m args below meth c H locs 0 0 (jQv below (dC, dI) jCl [(cA, .int)] (fun B => jW cA A B (M') (F')) Ap args s) (F0 m 37 ls []) := by
  obtain ⟨hx, hb, hml, hr, hts, hown, hlocks, hN⟩ := id hC
  have hj : ∀ w ∈ jw, w.before args s = true := fun w h => hts w (List.mem_cons_of_mem _ h)
  intro n
  induction n with
  | zero =>
    intro x2 x3 x5 x6 M F B H locs ls hJ hl h
    rw [fSi_judge_37] at h
    cases h
  | succ n ih =>
    intro x2 x3 x5 x6 M F B H locs ls hJ hl h
    rw [fSi_judge_37] at h
    refine lv_iload hx hb dSi_judge_37 (lv_at hl 5 rfl) ?_
    refine lv_iload hx hb dSi_judge_39 (lv_at hl 4 rfl) ?_
    refine lv_icmp_ge (tgt := 70) hx hb dSi_judge_41 (by decide) (fun c5 => ?_) (fun c5 => ?_)
    · replace h := jif_t c5 h
      cases h
      exact jretv (u := B) hx hb hr hlocks hJ dSi_judge_70
    · replace h := jif_f c5 h
      refine lv_aload_n hx hb dSi_judge_44 rfl (lv_at hl 0 rfl) ?_
      refine va_get (D := (dC, dI)) (ci := 5) (v := .ref (A 22)) (C := RSi) (T := TSi) (N := 5) hx hb hj iSi hown hJ.1 hJ.2.1 5 rfl rfl 2 (by decide) (hj _ jw_127) (fun _ h9 => h9) rfl dSi_judge_45 ?_
      refine lv_iload_n hx hb dSi_judge_48 rfl (lv_at hl 2 rfl) ?_
      refine lv_bipush (v := 32) hx hb dSi_judge_49 (by decide) ?_
      refine lv_imul hx hb dSi_judge_51 ?_
      refine lv_iload hx hb dSi_judge_52 (lv_at hl 5 rfl) ?_
      refine lv_iadd hx hb dSi_judge_54 ?_
      refine lv_aload_n hx hb dSi_judge_55 rfl (lv_at hl 1 rfl) ?_
      refine lv_iload_n hx hb dSi_judge_56 rfl (lv_at hl 2 rfl) ?_
      refine lv_iload_n hx hb dSi_judge_57 rfl (lv_at hl 3 rfl) ?_
      refine lv_iload hx hb dSi_judge_58 (lv_at hl 5 rfl) ?_
      obtain ⟨q6, hq6, h⟩ := jbi_h h
      refine jcalli (w' := fun B => jW cA A B M F) (va_runS (As := [.ref (A 3), .int x2, .int x3, .int x6]) (rest := [.int ((x2 * 32) + x6), .ref (A 22)]) ⟨hx, hb, hml, hown, hts⟩ (cSi_rowsThatHold l dC dI cA A x2 x3 x6 M F B H.size hq6) (va_cwS 4 hts (jgoodS jw_529 jw_530 jw_6 jw_531) rfl rfl rfl (by decide +kernel) ⟨Nat.le_of_ble_eq_true rfl, Nat.le_of_ble_eq_true rfl⟩) (jpreS hN hJ) rfl rfl hl.1 rfl (lv_room (Nat.le_of_ble_eq_true rfl)) dSi_judge_60 ⟨Nat.zero_le _, Nat.zero_le _⟩) hA hJ (fun B H locs hJ => ?_)
      obtain ⟨hi7, h⟩ := jib_h h
      refine jast_22 hx hb hJ hi7 dSi_judge_63 (fun H locs hJ => ?_)
      refine lv_iinc (v := x6 + 1) (lv' := [(6, .int (x6 + 1)), (0, .ref (A 5)), (1, .ref (A 3)), (2, .int x2), (3, .int x3), (5, .int x5)]) hx hb dSi_judge_64 hl (k := 5) rfl rfl (by decide) rfl (fun ls hl => ?_)
      refine lv_goto (tgt := 37) hx hb dSi_judge_67 (by decide) ?_
      exact ih _ _ _ _ _ _ _ _ _ _ hJ (lv_sub hl [1, 2, 3, 4, 5, 0] rfl) h
set_option maxHeartbeats 4000000 in
set_option maxRecDepth 100000 in
theorem uSi_judge_24 {p : Program} {e : Env} {s : State} {m : MethodId} {args : Array Value} {below : List Frame} {meth : Method} {c : Code} (l : Launch) (dC : Nat → ClassId) (dI : Nat → Nat → Nat) (cA : ClassId) (A : Nat → Nat) (Ap : Nat → Prop) (hC : jAt p s m args meth c bSi_judge 7 none wSi_judge RSi) (hA : ∀ q : Nat, s.heap.size ≤ q → Ap q) {r : Int32} {M' : jM} {F' : jF} : ∀ (x2 x3 x4 s0 : Int32) (M : jM) (F : jF) (B : Nat → Nat) (H : Heap) (locs : List Loc) (ls : Array Slot), jH (dC, dI) jCl [(cA, .int)] (jW cA A B M F) Ap s H locs → lv_has ls 7 [(0, .ref (A 5)), (1, .ref (A 3)), (2, .int x2), (3, .int x3), (4, .int x4)] → fSi_judge_24 x2 x3 x4 s0 M F = some (r, M', F') → W p l e (headSpec wSi_judge rSi_judge).room s m args below meth c H locs 0 0 (jQv below (dC, dI) jCl [(cA, .int)] (fun B => jW cA A B (M') (F')) Ap args s) (F0 m 24 ls [.int s0]) := by
  obtain ⟨hx, hb, hml, hr, hts, hown, hlocks, hN⟩ := id hC
  have hj : ∀ w ∈ jw, w.before args s = true := fun w h => hts w (List.mem_cons_of_mem _ h)
  intro x2 x3 x4 s0 M F B H locs ls hJ hl h
  unfold fSi_judge_24 at h
  refine lv_istore (lv' := [(5, .int s0), (0, .ref (A 5)), (1, .ref (A 3)), (2, .int x2), (3, .int x3), (4, .int x4)]) hx hb dSi_judge_24 hl (by decide) rfl (fun ls hl => ?_)
  refine lv_aload_n hx hb dSi_judge_26 rfl (lv_at hl 1 rfl) ?_
  refine va_get (D := (dC, dI)) (ci := 5) (v := .ref (A 21)) (C := RSi) (T := TSi) (N := 5) hx hb hj iSi hown hJ.1 hJ.2.1 5 rfl rfl 1 (by decide) (hj _ jw_126) (fun _ h9 => h9) rfl dSi_judge_27 ?_
  refine lv_iload_n hx hb dSi_judge_30 rfl (lv_at hl 3 rfl) ?_
  refine lv_iload hx hb dSi_judge_31 (lv_at hl 5 rfl) ?_
  obtain ⟨hi4, h⟩ := jib_h h
  refine jast_21 hx hb hJ hi4 dSi_judge_33 (fun H locs hJ => ?_)
  refine lv_iconst (v := 0) hx hb dSi_judge_34 (by decide) ?_
  refine lv_istore (lv' := [(6, .int 0), (5, .int s0), (0, .ref (A 5)), (1, .ref (A 3)), (2, .int x2), (3, .int x3), (4, .int x4)]) hx hb dSi_judge_35 hl (by decide) rfl (fun ls hl => ?_)
  exact uSi_judge_37 l dC dI cA A Ap hC hA jfuel _ _ _ _ _ _ _ _ _ _ hJ (lv_sub hl [2, 3, 4, 5, 1, 0] rfl) h
set_option maxHeartbeats 4000000 in
set_option maxRecDepth 100000 in
theorem uSi_judge_0 {p : Program} {e : Env} {s : State} {m : MethodId} {args : Array Value} {below : List Frame} {meth : Method} {c : Code} (l : Launch) (dC : Nat → ClassId) (dI : Nat → Nat → Nat) (cA : ClassId) (A : Nat → Nat) (Ap : Nat → Prop) (hC : jAt p s m args meth c bSi_judge 7 none wSi_judge RSi) (hA : ∀ q : Nat, s.heap.size ≤ q → Ap q) {r : Int32} {M' : jM} {F' : jF} : ∀ (x2 x3 : Int32) (M : jM) (F : jF) (B : Nat → Nat) (H : Heap) (locs : List Loc) (ls : Array Slot), jH (dC, dI) jCl [(cA, .int)] (jW cA A B M F) Ap s H locs → lv_has ls 7 [(0, .ref (A 5)), (1, .ref (A 3)), (2, .int x2), (3, .int x3)] → fSi_judge_0 x2 x3 M F = some (r, M', F') → W p l e (headSpec wSi_judge rSi_judge).room s m args below meth c H locs 0 0 (jQv below (dC, dI) jCl [(cA, .int)] (fun B => jW cA A B (M') (F')) Ap args s) (F0 m 0 ls []) := by
  obtain ⟨hx, hb, hml, hr, hts, hown, hlocks, hN⟩ := id hC
  have hj : ∀ w ∈ jw, w.before args s = true := fun w h => hts w (List.mem_cons_of_mem _ h)
  intro x2 x3 M F B H locs ls hJ hl h
  unfold fSi_judge_0 at h
  refine lv_aload_n hx hb dSi_judge_0 rfl (lv_at hl 1 rfl) ?_
  refine lv_iload_n hx hb dSi_judge_1 rfl (lv_at hl 2 rfl) ?_
  refine lv_iload_n hx hb dSi_judge_2 rfl (lv_at hl 3 rfl) ?_
  obtain ⟨q1, hq1, h⟩ := jbi_h h
  refine jcalli (w' := fun B => jW cA A B M F) (va_runV (As := [.int x2, .int x3]) (rest := []) ⟨hx, hb, hml, hown, hts⟩ (cQu_partner l dC dI cA A x2 x3 M F B H.size hq1) (cwV 2 hts (jgoodV jw_528 jw_480 jw_481 jw_4 jw_482) rfl rfl rfl (by decide +kernel) ⟨Nat.le_of_ble_eq_true rfl, Nat.le_of_ble_eq_true rfl⟩) (jpreV hN hJ (ci := 3) (q0 := 3) rfl rfl) rfl rfl hl.1 rfl (lv_room (Nat.le_of_ble_eq_true rfl)) dSi_judge_3 ⟨Nat.zero_le _, Nat.zero_le _⟩) hA hJ (fun B H locs hJ => ?_)
  refine lv_istore (lv' := [(4, .int q1), (0, .ref (A 5)), (1, .ref (A 3)), (2, .int x2), (3, .int x3)]) hx hb dSi_judge_6 hl (by decide) rfl (fun ls hl => ?_)
  refine lv_iload hx hb dSi_judge_8 (lv_at hl 0 rfl) ?_
  refine lv_iconst (v := (-1)) hx hb dSi_judge_10 (by decide) ?_
  refine lv_icmp_ne (tgt := 18) hx hb dSi_judge_11 (by decide) (fun c2 => ?_) (fun c2 => ?_)
  · replace h := jif_f c2 h
    refine lv_aload_n hx hb dSi_judge_18 rfl (lv_at hl 2 rfl) ?_
    refine lv_iload hx hb dSi_judge_19 (lv_at hl 0 rfl) ?_
    obtain ⟨q3, hq3, h⟩ := jbi_h h
    refine jcalli (w' := fun B => jW cA A B M F) (va_runV (As := [.int q1]) (rest := []) ⟨hx, hb, hml, hown, hts⟩ (cQu_rowsOf l dC dI cA A q1 M F B H.size hq3) (cwV 1 hts (jgoodV jw_522 jw_420 jw_421 jw_4 jw_422) rfl rfl rfl (by decide +kernel) ⟨Nat.le_of_ble_eq_true rfl, Nat.le_of_ble_eq_true rfl⟩) (jpreV hN hJ (ci := 3) (q0 := 3) rfl rfl) rfl rfl hl.1 rfl (lv_room (Nat.le_of_ble_eq_true rfl)) dSi_judge_21 ⟨Nat.zero_le _, Nat.zero_le _⟩) hA hJ (fun B H locs hJ => ?_)
    exact uSi_judge_24 l dC dI cA A Ap hC hA _ _ _ _ _ _ _ _ _ _ hJ (lv_sub hl [1, 2, 3, 4, 0] rfl) h
  · replace h := jif_t c2 h
    refine lv_iconst (v := 1) hx hb dSi_judge_14 (by decide) ?_
    refine lv_goto (tgt := 24) hx hb dSi_judge_15 (by decide) ?_
    exact uSi_judge_24 l dC dI cA A Ap hC hA _ _ _ _ _ _ _ _ _ _ hJ (lv_sub hl [1, 2, 3, 4, 0] rfl) h
set_option maxHeartbeats 4000000 in
set_option maxRecDepth 100000 in
theorem cSi_judge (l : Launch) (dC : Nat → ClassId) (dI : Nat → Nat → Nat) (cA : ClassId) (A : Nat → Nat) (x2 : Int32) (x3 : Int32) (M : jM) (F : jF) (B : Nat → Nat) (sz : Nat) {r : Int32} {M' : jM} {F' : jF} (h : fSi_judge x2 x3 M F = some (r, M', F')) : jCv l ySi_judge wSi_judge rSi_judge (dC, dI) jCl [(cA, .int)] [.ref (A 5), .ref (A 3), .int x2, .int x3] (jW cA A B M F) sz (fun B => jW cA A B (M') (F')) :=
  jOf (Qc := fun Ap => va_Qv (fun _ : Nat → Nat => True) (jPost (dC, dI) jCl [(cA, .int)] (fun B => jW cA A B (M') (F')) Ap) Ap) (by decide) rfl (Nat.le_of_ble_eq_true rfl) (fun p e s m below meth c Ap ls hC hA hJ hl => uSi_judge_0 l dC dI cA A Ap hC hA _ _ _ _ _ _ _ _ hJ (lv_sub hl [0, 1, 2, 3] rfl) h)
abbrev bSi_prepare : ByteArray := prog_5_method_2_code
abbrev ySi_prepare : MethodName := ⟨RSi, "prepare", "(LJoinHouse$Query;II)V"⟩
abbrev wSi_prepare : List Cond := .code ySi_prepare bSi_prepare 5 none :: jw
theorem dSi_prepare_0 : decode bSi_prepare 0 = .ok (.aload_n 0, 1) := by decide +kernel
theorem dSi_prepare_1 : decode bSi_prepare 1 = .ok (.iconst 0, 1) := by decide +kernel
theorem dSi_prepare_2 : decode bSi_prepare 2 = .ok (.putfield 21, 3) := by decide +kernel
theorem dSi_prepare_5 : decode bSi_prepare 5 = .ok (.aload_n 0, 1) := by decide +kernel
theorem dSi_prepare_6 : decode bSi_prepare 6 = .ok (.iconst 1, 1) := by decide +kernel
theorem dSi_prepare_7 : decode bSi_prepare 7 = .ok (.aload_n 1, 1) := by decide +kernel
theorem dSi_prepare_8 : decode bSi_prepare 8 = .ok (.iload_n 2, 1) := by decide +kernel
theorem dSi_prepare_9 : decode bSi_prepare 9 = .ok (.invokevirtual 28, 3) := by decide +kernel
theorem dSi_prepare_12 : decode bSi_prepare 12 = .ok (.ishl, 1) := by decide +kernel
theorem dSi_prepare_13 : decode bSi_prepare 13 = .ok (.iconst 1, 1) := by decide +kernel
theorem dSi_prepare_14 : decode bSi_prepare 14 = .ok (.isub, 1) := by decide +kernel
theorem dSi_prepare_15 : decode bSi_prepare 15 = .ok (.putfield 25, 3) := by decide +kernel
theorem dSi_prepare_18 : decode bSi_prepare 18 = .ok (.iconst 0, 1) := by decide +kernel
theorem dSi_prepare_19 : decode bSi_prepare 19 = .ok (.istore 4, 2) := by decide +kernel
theorem dSi_prepare_21 : decode bSi_prepare 21 = .ok (.iload 4, 2) := by decide +kernel
theorem dSi_prepare_23 : decode bSi_prepare 23 = .ok (.aload_n 1, 1) := by decide +kernel
theorem dSi_prepare_24 : decode bSi_prepare 24 = .ok (.getfield 34, 3) := by decide +kernel
theorem dSi_prepare_27 : decode bSi_prepare 27 = .ok (.if_icmp .ge 49, 3) := by decide +kernel
theorem dSi_prepare_30 : decode bSi_prepare 30 = .ok (.aload_n 1, 1) := by decide +kernel
theorem dSi_prepare_31 : decode bSi_prepare 31 = .ok (.iload 4, 2) := by decide +kernel
theorem dSi_prepare_33 : decode bSi_prepare 33 = .ok (.iload_n 2, 1) := by decide +kernel
theorem dSi_prepare_34 : decode bSi_prepare 34 = .ok (.iload_n 3, 1) := by decide +kernel
theorem dSi_prepare_35 : decode bSi_prepare 35 = .ok (.invokevirtual 37, 3) := by decide +kernel
theorem dSi_prepare_38 : decode bSi_prepare 38 = .ok (.ifCond .eq 32, 3) := by decide +kernel
theorem dSi_prepare_41 : decode bSi_prepare 41 = .ok (.aload_n 0, 1) := by decide +kernel
theorem dSi_prepare_42 : decode bSi_prepare 42 = .ok (.getfield 9, 3) := by decide +kernel
theorem dSi_prepare_45 : decode bSi_prepare 45 = .ok (.aload_n 0, 1) := by decide +kernel
theorem dSi_prepare_46 : decode bSi_prepare 46 = .ok (.getfield 21, 3) := by decide +kernel
theorem dSi_prepare_49 : decode bSi_prepare 49 = .ok (.iload 4, 2) := by decide +kernel
theorem dSi_prepare_51 : decode bSi_prepare 51 = .ok (.iastore, 1) := by decide +kernel
theorem dSi_prepare_52 : decode bSi_prepare 52 = .ok (.aload_n 0, 1) := by decide +kernel
theorem dSi_prepare_53 : decode bSi_prepare 53 = .ok (.dup, 1) := by decide +kernel
theorem dSi_prepare_54 : decode bSi_prepare 54 = .ok (.getfield 21, 3) := by decide +kernel
theorem dSi_prepare_57 : decode bSi_prepare 57 = .ok (.iconst 1, 1) := by decide +kernel
theorem dSi_prepare_58 : decode bSi_prepare 58 = .ok (.iadd, 1) := by decide +kernel
theorem dSi_prepare_59 : decode bSi_prepare 59 = .ok (.putfield 21, 3) := by decide +kernel
theorem dSi_prepare_62 : decode bSi_prepare 62 = .ok (.aload_n 0, 1) := by decide +kernel
theorem dSi_prepare_63 : decode bSi_prepare 63 = .ok (.aload_n 1, 1) := by decide +kernel
theorem dSi_prepare_64 : decode bSi_prepare 64 = .ok (.iload 4, 2) := by decide +kernel
theorem dSi_prepare_66 : decode bSi_prepare 66 = .ok (.iload_n 2, 1) := by decide +kernel
theorem dSi_prepare_67 : decode bSi_prepare 67 = .ok (.invokevirtual 41, 3) := by decide +kernel
theorem dSi_prepare_70 : decode bSi_prepare 70 = .ok (.iinc 4 1, 3) := by decide +kernel
theorem dSi_prepare_73 : decode bSi_prepare 73 = .ok (.goto (-52), 3) := by decide +kernel
theorem dSi_prepare_76 : decode bSi_prepare 76 = .ok (.return_, 1) := by decide +kernel
abbrev rSi_prepare : Room := { frames := 4, cells := 0, slots := 0, locals := 105 }
def fSi_prepare_21 : Nat → Int32 → Int32 → Int32 → jM → jF → Option (Int32 × jM × jF)
  | 0, _, _, _, _, _ => none
  | n + 1, x2, x3, x4, M, F => (if (F 1) ≤ x4 then some (0, M, F) else ((fQu_isJudgedAt x4 x2 x3 M F).bind fun q3 => (if q3 = 0 then fSi_prepare_21 n x2 x3 (x4 + 1) M F else (if jib (F 2) 12 then ((fSi_judge x4 x2 (jmu M 20 (F 2).toNatClampNeg x4) (jfu F 2 ((F 2) + 1))).bind fun q6 => fSi_prepare_21 n x2 x3 (x4 + 1) q6.2.1 q6.2.2) else none))))
def fSi_prepare_0 (x2 : Int32) (x3 : Int32) (M : jM) (F : jF) : Option (Int32 × jM × jF) := ((fQu_rowsOf x2 M (jfu F 2 0)).bind fun q1 => fSi_prepare_21 jfuel x2 x3 0 M (jfu (jfu F 2 0) 3 ((1 <<< (q1 &&& 31)) - 1)))
abbrev fSi_prepare (x2 : Int32) (x3 : Int32) (M : jM) (F : jF) : Option (Int32 × jM × jF) := fSi_prepare_0 x2 x3 M F
set_option maxHeartbeats 4000000 in
set_option maxRecDepth 100000 in
theorem uSi_prepare_21 {p : Program} {e : Env} {s : State} {m : MethodId} {args : Array Value} {below : List Frame} {meth : Method} {c : Code} (l : Launch) (dC : Nat → ClassId) (dI : Nat → Nat → Nat) (cA : ClassId) (A : Nat → Nat) (Ap : Nat → Prop) (hC : jAt p s m args meth c bSi_prepare 5 none wSi_prepare RSi) (hA : ∀ q : Nat, s.heap.size ≤ q → Ap q) {r : Int32} {M' : jM} {F' : jF} : ∀ (n : Nat) (x2 x3 x4 : Int32) (M : jM) (F : jF) (B : Nat → Nat) (H : Heap) (locs : List Loc) (ls : Array Slot), jH (dC, dI) jCl [(cA, .int)] (jW cA A B M F) Ap s H locs → lv_has ls 5 [(0, .ref (A 5)), (1, .ref (A 3)), (2, .int x2), (3, .int x3), (4, .int x4)] → fSi_prepare_21 n x2 x3 x4 M F = some (r, M', F') → W p l e (headSpec wSi_prepare rSi_prepare).room s m args below meth c H locs 0 0 (jQv below (dC, dI) jCl [(cA, .int)] (fun B => jW cA A B (M') (F')) Ap args s) (F0 m 21 ls []) := by
  obtain ⟨hx, hb, hml, hr, hts, hown, hlocks, hN⟩ := id hC
  have hj : ∀ w ∈ jw, w.before args s = true := fun w h => hts w (List.mem_cons_of_mem _ h)
  intro n
  induction n with
  | zero =>
    intro x2 x3 x4 M F B H locs ls hJ hl h
    rw [fSi_prepare_21] at h
    cases h
  | succ n ih =>
    intro x2 x3 x4 M F B H locs ls hJ hl h
    rw [fSi_prepare_21] at h
    refine lv_iload hx hb dSi_prepare_21 (lv_at hl 4 rfl) ?_
    refine lv_aload_n hx hb dSi_prepare_23 rfl (lv_at hl 1 rfl) ?_
    refine va_getN (D := (dC, dI)) (ci := 3) (v := .int (F 1)) (C := RQu) (T := TQu) (N := 10) hx hb hj iQu hown hJ.1 hJ.2.1 3 rfl rfl 9 (by decide) (jnw_use hN jnw_9) (fun _ h9 => h9) rfl dSi_prepare_24 ?_
    refine lv_icmp_ge (tgt := 76) hx hb dSi_prepare_27 (by decide) (fun c2 => ?_) (fun c2 => ?_)
    · replace h := jif_t c2 h
      cases h
      exact jretv (u := B) hx hb hr hlocks hJ dSi_prepare_76
    · replace h := jif_f c2 h
      refine lv_aload_n hx hb dSi_prepare_30 rfl (lv_at hl 1 rfl) ?_
      refine lv_iload hx hb dSi_prepare_31 (lv_at hl 4 rfl) ?_
      refine lv_iload_n hx hb dSi_prepare_33 rfl (lv_at hl 2 rfl) ?_
      refine lv_iload_n hx hb dSi_prepare_34 rfl (lv_at hl 3 rfl) ?_
      obtain ⟨q3, hq3, h⟩ := jbi_h h
      refine jcalli (w' := fun B => jW cA A B M F) (va_runV (As := [.int x4, .int x2, .int x3]) (rest := []) ⟨hx, hb, hml, hown, hts⟩ (cQu_isJudgedAt l dC dI cA A x4 x2 x3 M F B H.size hq3) (cwV 3 hts (jgoodV jw_523 jw_475 jw_476 jw_4 jw_477) rfl rfl rfl (by decide +kernel) ⟨Nat.le_of_ble_eq_true rfl, Nat.le_of_ble_eq_true rfl⟩) (jpreV hN hJ (ci := 3) (q0 := 3) rfl rfl) rfl rfl hl.1 rfl (lv_room (Nat.le_of_ble_eq_true rfl)) dSi_prepare_35 ⟨Nat.zero_le _, Nat.zero_le _⟩) hA hJ (fun B H locs hJ => ?_)
      refine lv_if_eq (tgt := 70) hx hb dSi_prepare_38 (by decide) (fun c4 => ?_) (fun c4 => ?_)
      · replace h := jif_t c4 h
        refine lv_iinc (v := x4 + 1) (lv' := [(4, .int (x4 + 1)), (0, .ref (A 5)), (1, .ref (A 3)), (2, .int x2), (3, .int x3)]) hx hb dSi_prepare_70 hl (k := 4) rfl rfl (by decide) rfl (fun ls hl => ?_)
        refine lv_goto (tgt := 21) hx hb dSi_prepare_73 (by decide) ?_
        exact ih _ _ _ _ _ _ _ _ _ hJ (lv_sub hl [1, 2, 3, 4, 0] rfl) h
      · replace h := jif_f c4 h
        refine lv_aload_n hx hb dSi_prepare_41 rfl (lv_at hl 0 rfl) ?_
        refine va_get (D := (dC, dI)) (ci := 5) (v := .ref (A 20)) (C := RSi) (T := TSi) (N := 5) hx hb hj iSi hown hJ.1 hJ.2.1 5 rfl rfl 0 (by decide) (hj _ jw_125) (fun _ h9 => h9) rfl dSi_prepare_42 ?_
        refine lv_aload_n hx hb dSi_prepare_45 rfl (lv_at hl 0 rfl) ?_
        refine va_get (D := (dC, dI)) (ci := 5) (v := .int (F 2)) (C := RSi) (T := TSi) (N := 5) hx hb hj iSi hown hJ.1 hJ.2.1 5 rfl rfl 3 (by decide) (hj _ jw_128) (fun _ h9 => h9) rfl dSi_prepare_46 ?_
        refine lv_iload hx hb dSi_prepare_49 (lv_at hl 4 rfl) ?_
        obtain ⟨hi5, h⟩ := jib_h h
        refine jast_20 hx hb hJ hi5 dSi_prepare_51 (fun H locs hJ => ?_)
        refine lv_aload_n hx hb dSi_prepare_52 rfl (lv_at hl 0 rfl) ?_
        refine lv_dup hx hb dSi_prepare_53 rfl ?_
        refine va_get (D := (dC, dI)) (ci := 5) (v := .int (F 2)) (C := RSi) (T := TSi) (N := 5) hx hb hj iSi hown hJ.1 hJ.2.1 5 rfl rfl 3 (by decide) (hj _ jw_128) (fun _ h9 => h9) rfl dSi_prepare_54 ?_
        refine lv_iconst (v := 1) hx hb dSi_prepare_57 (by decide) ?_
        refine lv_iadd hx hb dSi_prepare_58 ?_
        refine va_put (D := (dC, dI)) (ci := 5) (v := .int ((F 2) + 1)) (ty := .int) (C := RSi) (T := TSi) (N := 5) hx hb hj iSi tSi tSi_ok nSi hown hJ.1 hJ.2.1 hJ.2.2.1 hJ.2.2.2 5 rfl rfl 3 (by decide) (hj _ jw_128) (fun _ h9 => h9) rfl (by decide +kernel) rfl rfl (Nat.le_of_ble_eq_true rfl) dSi_prepare_59 (fun H locs hP hD hS => ?_)
        replace hJ : jH (dC, dI) jCl [(cA, .int)] (jW cA A B (jmu M 20 (F 2).toNatClampNeg x4) (jfu F 2 ((F 2) + 1))) Ap s H locs := ⟨hJ.1, hP, hD, hS⟩
        refine lv_aload_n hx hb dSi_prepare_62 rfl (lv_at hl 0 rfl) ?_
        refine lv_aload_n hx hb dSi_prepare_63 rfl (lv_at hl 1 rfl) ?_
        refine lv_iload hx hb dSi_prepare_64 (lv_at hl 4 rfl) ?_
        refine lv_iload_n hx hb dSi_prepare_66 rfl (lv_at hl 2 rfl) ?_
        obtain ⟨q6, hq6, h⟩ := jbi_h h
        refine jcallv (w' := fun B => jW cA A B q6.2.1 q6.2.2) (va_runV (As := [.ref (A 3), .int x4, .int x2]) (rest := []) ⟨hx, hb, hml, hown, hts⟩ (cSi_judge l dC dI cA A x4 x2 (jmu M 20 (F 2).toNatClampNeg x4) (jfu F 2 ((F 2) + 1)) B H.size hq6) (cwV 3 hts (jgoodV jw_524 jw_526 jws_11 jw_6 jw_527) rfl rfl rfl (by decide +kernel) ⟨Nat.le_of_ble_eq_true rfl, Nat.le_of_ble_eq_true rfl⟩) (jpreV hN hJ (ci := 5) (q0 := 5) rfl rfl) rfl rfl hl.1 rfl (lv_room (Nat.le_of_ble_eq_true rfl)) dSi_prepare_67 ⟨Nat.zero_le _, Nat.zero_le _⟩) hA hJ (fun B7 H locs hJ => ?_)
        refine lv_iinc (v := x4 + 1) (lv' := [(4, .int (x4 + 1)), (0, .ref (A 5)), (1, .ref (A 3)), (2, .int x2), (3, .int x3)]) hx hb dSi_prepare_70 hl (k := 4) rfl rfl (by decide) rfl (fun ls hl => ?_)
        refine lv_goto (tgt := 21) hx hb dSi_prepare_73 (by decide) ?_
        exact ih _ _ _ _ _ _ _ _ _ hJ (lv_sub hl [1, 2, 3, 4, 0] rfl) h
set_option maxHeartbeats 4000000 in
set_option maxRecDepth 100000 in
theorem uSi_prepare_0 {p : Program} {e : Env} {s : State} {m : MethodId} {args : Array Value} {below : List Frame} {meth : Method} {c : Code} (l : Launch) (dC : Nat → ClassId) (dI : Nat → Nat → Nat) (cA : ClassId) (A : Nat → Nat) (Ap : Nat → Prop) (hC : jAt p s m args meth c bSi_prepare 5 none wSi_prepare RSi) (hA : ∀ q : Nat, s.heap.size ≤ q → Ap q) {r : Int32} {M' : jM} {F' : jF} : ∀ (x2 x3 : Int32) (M : jM) (F : jF) (B : Nat → Nat) (H : Heap) (locs : List Loc) (ls : Array Slot), jH (dC, dI) jCl [(cA, .int)] (jW cA A B M F) Ap s H locs → lv_has ls 5 [(0, .ref (A 5)), (1, .ref (A 3)), (2, .int x2), (3, .int x3)] → fSi_prepare_0 x2 x3 M F = some (r, M', F') → W p l e (headSpec wSi_prepare rSi_prepare).room s m args below meth c H locs 0 0 (jQv below (dC, dI) jCl [(cA, .int)] (fun B => jW cA A B (M') (F')) Ap args s) (F0 m 0 ls []) := by
  obtain ⟨hx, hb, hml, hr, hts, hown, hlocks, hN⟩ := id hC
  have hj : ∀ w ∈ jw, w.before args s = true := fun w h => hts w (List.mem_cons_of_mem _ h)
  intro x2 x3 M F B H locs ls hJ hl h
  unfold fSi_prepare_0 at h
  refine lv_aload_n hx hb dSi_prepare_0 rfl (lv_at hl 0 rfl) ?_
  refine lv_iconst (v := 0) hx hb dSi_prepare_1 (by decide) ?_
  refine va_put (D := (dC, dI)) (ci := 5) (v := .int 0) (ty := .int) (C := RSi) (T := TSi) (N := 5) hx hb hj iSi tSi tSi_ok nSi hown hJ.1 hJ.2.1 hJ.2.2.1 hJ.2.2.2 5 rfl rfl 3 (by decide) (hj _ jw_128) (fun _ h9 => h9) rfl (by decide +kernel) rfl rfl (Nat.le_of_ble_eq_true rfl) dSi_prepare_2 (fun H locs hP hD hS => ?_)
  replace hJ : jH (dC, dI) jCl [(cA, .int)] (jW cA A B M (jfu F 2 0)) Ap s H locs := ⟨hJ.1, hP, hD, hS⟩
  refine lv_aload_n hx hb dSi_prepare_5 rfl (lv_at hl 0 rfl) ?_
  refine lv_iconst (v := 1) hx hb dSi_prepare_6 (by decide) ?_
  refine lv_aload_n hx hb dSi_prepare_7 rfl (lv_at hl 1 rfl) ?_
  refine lv_iload_n hx hb dSi_prepare_8 rfl (lv_at hl 2 rfl) ?_
  obtain ⟨q1, hq1, h⟩ := jbi_h h
  refine jcalli (w' := fun B => jW cA A B M (jfu F 2 0)) (va_runV (As := [.int x2]) (rest := [.int 1, .ref (A 5)]) ⟨hx, hb, hml, hown, hts⟩ (cQu_rowsOf l dC dI cA A x2 M (jfu F 2 0) B H.size hq1) (cwV 1 hts (jgoodV jw_522 jw_420 jw_421 jw_4 jw_422) rfl rfl rfl (by decide +kernel) ⟨Nat.le_of_ble_eq_true rfl, Nat.le_of_ble_eq_true rfl⟩) (jpreV hN hJ (ci := 3) (q0 := 3) rfl rfl) rfl rfl hl.1 rfl (lv_room (Nat.le_of_ble_eq_true rfl)) dSi_prepare_9 ⟨Nat.zero_le _, Nat.zero_le _⟩) hA hJ (fun B H locs hJ => ?_)
  refine lv_ishl hx hb dSi_prepare_12 ?_
  refine lv_iconst (v := 1) hx hb dSi_prepare_13 (by decide) ?_
  refine lv_isub hx hb dSi_prepare_14 ?_
  refine va_put (D := (dC, dI)) (ci := 5) (v := .int ((1 <<< (q1 &&& 31)) - 1)) (ty := .int) (C := RSi) (T := TSi) (N := 5) hx hb hj iSi tSi tSi_ok nSi hown hJ.1 hJ.2.1 hJ.2.2.1 hJ.2.2.2 5 rfl rfl 4 (by decide) (hj _ jw_129) (fun _ h9 => h9) rfl (by decide +kernel) rfl rfl (Nat.le_of_ble_eq_true rfl) dSi_prepare_15 (fun H locs hP hD hS => ?_)
  replace hJ : jH (dC, dI) jCl [(cA, .int)] (jW cA A B M (jfu (jfu F 2 0) 3 ((1 <<< (q1 &&& 31)) - 1))) Ap s H locs := ⟨hJ.1, hP, hD, hS⟩
  refine lv_iconst (v := 0) hx hb dSi_prepare_18 (by decide) ?_
  refine lv_istore (lv' := [(4, .int 0), (0, .ref (A 5)), (1, .ref (A 3)), (2, .int x2), (3, .int x3)]) hx hb dSi_prepare_19 hl (by decide) rfl (fun ls hl => ?_)
  exact uSi_prepare_21 l dC dI cA A Ap hC hA jfuel _ _ _ _ _ _ _ _ _ hJ (lv_sub hl [1, 2, 3, 4, 0] rfl) h
set_option maxHeartbeats 4000000 in
set_option maxRecDepth 100000 in
theorem cSi_prepare (l : Launch) (dC : Nat → ClassId) (dI : Nat → Nat → Nat) (cA : ClassId) (A : Nat → Nat) (x2 : Int32) (x3 : Int32) (M : jM) (F : jF) (B : Nat → Nat) (sz : Nat) {r : Int32} {M' : jM} {F' : jF} (h : fSi_prepare x2 x3 M F = some (r, M', F')) : jCv l ySi_prepare wSi_prepare rSi_prepare (dC, dI) jCl [(cA, .int)] [.ref (A 5), .ref (A 3), .int x2, .int x3] (jW cA A B M F) sz (fun B => jW cA A B (M') (F')) :=
  jOf (Qc := fun Ap => va_Qv (fun _ : Nat → Nat => True) (jPost (dC, dI) jCl [(cA, .int)] (fun B => jW cA A B (M') (F')) Ap) Ap) (by decide) rfl (Nat.le_of_ble_eq_true rfl) (fun p e s m below meth c Ap ls hC hA hJ hl => uSi_prepare_0 l dC dI cA A Ap hC hA _ _ _ _ _ _ _ _ hJ (lv_sub hl [0, 1, 2, 3] rfl) h)
abbrev bSi_letThroughBy : ByteArray := prog_5_method_3_code
abbrev ySi_letThroughBy : MethodName := ⟨RSi, "letThroughBy", "(II)I"⟩
abbrev wSi_letThroughBy : List Cond := .code ySi_letThroughBy bSi_letThroughBy 5 (some .int) :: jw
theorem dSi_letThroughBy_0 : decode bSi_letThroughBy 0 = .ok (.aload_n 0, 1) := by decide +kernel
theorem dSi_letThroughBy_1 : decode bSi_letThroughBy 1 = .ok (.getfield 15, 3) := by decide +kernel
theorem dSi_letThroughBy_4 : decode bSi_letThroughBy 4 = .ok (.iload_n 1, 1) := by decide +kernel
theorem dSi_letThroughBy_5 : decode bSi_letThroughBy 5 = .ok (.iaload, 1) := by decide +kernel
theorem dSi_letThroughBy_6 : decode bSi_letThroughBy 6 = .ok (.istore_n 3, 1) := by decide +kernel
theorem dSi_letThroughBy_7 : decode bSi_letThroughBy 7 = .ok (.iload_n 3, 1) := by decide +kernel
theorem dSi_letThroughBy_8 : decode bSi_letThroughBy 8 = .ok (.iconst (-1), 1) := by decide +kernel
theorem dSi_letThroughBy_9 : decode bSi_letThroughBy 9 = .ok (.if_icmp .ne 7, 3) := by decide +kernel
theorem dSi_letThroughBy_12 : decode bSi_letThroughBy 12 = .ok (.iconst 0, 1) := by decide +kernel
theorem dSi_letThroughBy_13 : decode bSi_letThroughBy 13 = .ok (.goto 8, 3) := by decide +kernel
theorem dSi_letThroughBy_16 : decode bSi_letThroughBy 16 = .ok (.iload_n 2, 1) := by decide +kernel
theorem dSi_letThroughBy_17 : decode bSi_letThroughBy 17 = .ok (.iload_n 3, 1) := by decide +kernel
theorem dSi_letThroughBy_18 : decode bSi_letThroughBy 18 = .ok (.invokestatic 45, 3) := by decide +kernel
theorem dSi_letThroughBy_21 : decode bSi_letThroughBy 21 = .ok (.istore 4, 2) := by decide +kernel
theorem dSi_letThroughBy_23 : decode bSi_letThroughBy 23 = .ok (.aload_n 0, 1) := by decide +kernel
theorem dSi_letThroughBy_24 : decode bSi_letThroughBy 24 = .ok (.getfield 18, 3) := by decide +kernel
theorem dSi_letThroughBy_27 : decode bSi_letThroughBy 27 = .ok (.iload_n 1, 1) := by decide +kernel
theorem dSi_letThroughBy_28 : decode bSi_letThroughBy 28 = .ok (.bipush 32, 2) := by decide +kernel
theorem dSi_letThroughBy_30 : decode bSi_letThroughBy 30 = .ok (.imul, 1) := by decide +kernel
theorem dSi_letThroughBy_31 : decode bSi_letThroughBy 31 = .ok (.iload 4, 2) := by decide +kernel
theorem dSi_letThroughBy_33 : decode bSi_letThroughBy 33 = .ok (.iadd, 1) := by decide +kernel
theorem dSi_letThroughBy_34 : decode bSi_letThroughBy 34 = .ok (.iaload, 1) := by decide +kernel
theorem dSi_letThroughBy_35 : decode bSi_letThroughBy 35 = .ok (.ireturn, 1) := by decide +kernel
abbrev rSi_letThroughBy : Room := { frames := 1, cells := 0, slots := 0, locals := 21 }
def fSi_letThroughBy_21 (x1 : Int32) (s0 : Int32) (M : jM) (F : jF) : Option Int32 := (if jib ((x1 * 32) + s0) 384 then some (M 22 ((x1 * 32) + s0).toNatClampNeg) else none)
def fSi_letThroughBy_0 (x1 : Int32) (x2 : Int32) (M : jM) (F : jF) : Option Int32 := (if jib x1 12 then (if (M 21 x1.toNatClampNeg) = (-1) then fSi_letThroughBy_21 x1 0 M F else ((fJh_rowIn x2 (M 21 x1.toNatClampNeg) M F).bind fun q3 => fSi_letThroughBy_21 x1 q3 M F)) else none)
abbrev fSi_letThroughBy (x1 : Int32) (x2 : Int32) (M : jM) (F : jF) : Option Int32 := fSi_letThroughBy_0 x1 x2 M F
set_option maxHeartbeats 4000000 in
set_option maxRecDepth 100000 in
theorem uSi_letThroughBy_21 {p : Program} {e : Env} {s : State} {m : MethodId} {args : Array Value} {below : List Frame} {meth : Method} {c : Code} (l : Launch) (dC : Nat → ClassId) (dI : Nat → Nat → Nat) (cA : ClassId) (A : Nat → Nat) (Ap : Nat → Prop) (hC : jAt p s m args meth c bSi_letThroughBy 5 (some .int) wSi_letThroughBy RSi) (hA : ∀ q : Nat, s.heap.size ≤ q → Ap q) {r : Int32} : ∀ (x1 s0 : Int32) (M : jM) (F : jF) (B : Nat → Nat) (H : Heap) (locs : List Loc) (ls : Array Slot), jH (dC, dI) jCl [(cA, .int)] (jW cA A B M F) Ap s H locs → lv_has ls 5 [(0, .ref (A 5)), (1, .int x1)] → fSi_letThroughBy_21 x1 s0 M F = some r → W p l e (headSpec wSi_letThroughBy rSi_letThroughBy).room s m args below meth c H locs 0 0 (jQi below (dC, dI) jCl [(cA, .int)] (fun B => jW cA A B M F) Ap args s r) (F0 m 21 ls [.int s0]) := by
  obtain ⟨hx, hb, hml, hr, hts, hown, hlocks, hN⟩ := id hC
  have hj : ∀ w ∈ jw, w.before args s = true := fun w h => hts w (List.mem_cons_of_mem _ h)
  intro x1 s0 M F B H locs ls hJ hl h
  unfold fSi_letThroughBy_21 at h
  refine lv_istore (lv' := [(4, .int s0), (0, .ref (A 5)), (1, .int x1)]) hx hb dSi_letThroughBy_21 hl (by decide) rfl (fun ls hl => ?_)
  refine lv_aload_n hx hb dSi_letThroughBy_23 rfl (lv_at hl 1 rfl) ?_
  refine va_get (D := (dC, dI)) (ci := 5) (v := .ref (A 22)) (C := RSi) (T := TSi) (N := 5) hx hb hj iSi hown hJ.1 hJ.2.1 5 rfl rfl 2 (by decide) (hj _ jw_127) (fun _ h9 => h9) rfl dSi_letThroughBy_24 ?_
  refine lv_iload_n hx hb dSi_letThroughBy_27 rfl (lv_at hl 2 rfl) ?_
  refine lv_bipush (v := 32) hx hb dSi_letThroughBy_28 (by decide) ?_
  refine lv_imul hx hb dSi_letThroughBy_30 ?_
  refine lv_iload hx hb dSi_letThroughBy_31 (lv_at hl 0 rfl) ?_
  refine lv_iadd hx hb dSi_letThroughBy_33 ?_
  obtain ⟨hi4, h⟩ := jib_h h
  refine jald_22 hx hb hJ hi4 dSi_letThroughBy_34 ?_
  exact jreti (u := B) hx hb hr rfl hlocks hJ dSi_letThroughBy_35 (Option.some.inj h)
set_option maxHeartbeats 4000000 in
set_option maxRecDepth 100000 in
theorem uSi_letThroughBy_0 {p : Program} {e : Env} {s : State} {m : MethodId} {args : Array Value} {below : List Frame} {meth : Method} {c : Code} (l : Launch) (dC : Nat → ClassId) (dI : Nat → Nat → Nat) (cA : ClassId) (A : Nat → Nat) (Ap : Nat → Prop) (hC : jAt p s m args meth c bSi_letThroughBy 5 (some .int) wSi_letThroughBy RSi) (hA : ∀ q : Nat, s.heap.size ≤ q → Ap q) {r : Int32} : ∀ (x1 x2 : Int32) (M : jM) (F : jF) (B : Nat → Nat) (H : Heap) (locs : List Loc) (ls : Array Slot), jH (dC, dI) jCl [(cA, .int)] (jW cA A B M F) Ap s H locs → lv_has ls 5 [(0, .ref (A 5)), (1, .int x1), (2, .int x2)] → fSi_letThroughBy_0 x1 x2 M F = some r → W p l e (headSpec wSi_letThroughBy rSi_letThroughBy).room s m args below meth c H locs 0 0 (jQi below (dC, dI) jCl [(cA, .int)] (fun B => jW cA A B M F) Ap args s r) (F0 m 0 ls []) := by
  obtain ⟨hx, hb, hml, hr, hts, hown, hlocks, hN⟩ := id hC
  have hj : ∀ w ∈ jw, w.before args s = true := fun w h => hts w (List.mem_cons_of_mem _ h)
  intro x1 x2 M F B H locs ls hJ hl h
  unfold fSi_letThroughBy_0 at h
  refine lv_aload_n hx hb dSi_letThroughBy_0 rfl (lv_at hl 0 rfl) ?_
  refine va_get (D := (dC, dI)) (ci := 5) (v := .ref (A 21)) (C := RSi) (T := TSi) (N := 5) hx hb hj iSi hown hJ.1 hJ.2.1 5 rfl rfl 1 (by decide) (hj _ jw_126) (fun _ h9 => h9) rfl dSi_letThroughBy_1 ?_
  refine lv_iload_n hx hb dSi_letThroughBy_4 rfl (lv_at hl 1 rfl) ?_
  obtain ⟨hi1, h⟩ := jib_h h
  refine jald_21 hx hb hJ hi1 dSi_letThroughBy_5 ?_
  refine lv_istore_n (lv' := [(3, .int (M 21 x1.toNatClampNeg)), (0, .ref (A 5)), (1, .int x1), (2, .int x2)]) hx hb dSi_letThroughBy_6 rfl hl (by decide) rfl (fun ls hl => ?_)
  refine lv_iload_n hx hb dSi_letThroughBy_7 rfl (lv_at hl 0 rfl) ?_
  refine lv_iconst (v := (-1)) hx hb dSi_letThroughBy_8 (by decide) ?_
  refine lv_icmp_ne (tgt := 16) hx hb dSi_letThroughBy_9 (by decide) (fun c2 => ?_) (fun c2 => ?_)
  · replace h := jif_f c2 h
    refine lv_iload_n hx hb dSi_letThroughBy_16 rfl (lv_at hl 3 rfl) ?_
    refine lv_iload_n hx hb dSi_letThroughBy_17 rfl (lv_at hl 0 rfl) ?_
    obtain ⟨q3, hq3, h⟩ := jbi_h h
    refine jcalli (w' := fun B => jW cA A B M F) (va_runSN (As := [.int x2, .int (M 21 x1.toNatClampNeg)]) (rest := []) ⟨hx, hb, hml, hown, hts⟩ (cJh_rowIn l dC dI cA A x2 (M 21 x1.toNatClampNeg) M F B H.size hq3) ⟨va_cnB 2 hts (jgood jw_550) rfl rfl rfl (hN _ jnw_23) (hj _ jw_1) (by decide +kernel) ⟨Nat.le_of_ble_eq_true rfl, Nat.le_of_ble_eq_true rfl⟩, hj _ jw_549, trivial⟩ (jpreS hN hJ) rfl rfl hl.1 rfl (lv_room (Nat.le_of_ble_eq_true rfl)) dSi_letThroughBy_18 ⟨Nat.zero_le _, Nat.zero_le _⟩) hA hJ (fun B H locs hJ => ?_)
    exact uSi_letThroughBy_21 l dC dI cA A Ap hC hA _ _ _ _ _ _ _ _ hJ (lv_sub hl [1, 2] rfl) h
  · replace h := jif_t c2 h
    refine lv_iconst (v := 0) hx hb dSi_letThroughBy_12 (by decide) ?_
    refine lv_goto (tgt := 21) hx hb dSi_letThroughBy_13 (by decide) ?_
    exact uSi_letThroughBy_21 l dC dI cA A Ap hC hA _ _ _ _ _ _ _ _ hJ (lv_sub hl [1, 2] rfl) h
set_option maxHeartbeats 4000000 in
set_option maxRecDepth 100000 in
theorem cSi_letThroughBy (l : Launch) (dC : Nat → ClassId) (dI : Nat → Nat → Nat) (cA : ClassId) (A : Nat → Nat) (x1 : Int32) (x2 : Int32) (M : jM) (F : jF) (B : Nat → Nat) (sz : Nat) {r : Int32} (h : fSi_letThroughBy x1 x2 M F = some r) : jCi l ySi_letThroughBy wSi_letThroughBy rSi_letThroughBy (dC, dI) jCl [(cA, .int)] [.ref (A 5), .int x1, .int x2] (jW cA A B M F) sz r (fun B => jW cA A B M F) :=
  jOf (Qc := fun Ap => va_Qi (fun q (_ : Nat → Nat) => q = r) (jPost (dC, dI) jCl [(cA, .int)] (fun B => jW cA A B M F) Ap) Ap) (by decide) rfl (Nat.le_of_ble_eq_true rfl) (fun p e s m below meth c Ap ls hC hA hJ hl => uSi_letThroughBy_0 l dC dI cA A Ap hC hA _ _ _ _ _ _ _ _ hJ (lv_sub hl [0, 1, 2] rfl) h)
abbrev bSi_letThrough : ByteArray := prog_5_method_4_code
abbrev ySi_letThrough : MethodName := ⟨RSi, "letThrough", "(I)I"⟩
abbrev wSi_letThrough : List Cond := .code ySi_letThrough bSi_letThrough 4 (some .int) :: jw
theorem dSi_letThrough_0 : decode bSi_letThrough 0 = .ok (.aload_n 0, 1) := by decide +kernel
theorem dSi_letThrough_1 : decode bSi_letThrough 1 = .ok (.getfield 25, 3) := by decide +kernel
theorem dSi_letThrough_4 : decode bSi_letThrough 4 = .ok (.istore_n 2, 1) := by decide +kernel
theorem dSi_letThrough_5 : decode bSi_letThrough 5 = .ok (.iconst 0, 1) := by decide +kernel
theorem dSi_letThrough_6 : decode bSi_letThrough 6 = .ok (.istore_n 3, 1) := by decide +kernel
theorem dSi_letThrough_7 : decode bSi_letThrough 7 = .ok (.iload_n 3, 1) := by decide +kernel
theorem dSi_letThrough_8 : decode bSi_letThrough 8 = .ok (.aload_n 0, 1) := by decide +kernel
theorem dSi_letThrough_9 : decode bSi_letThrough 9 = .ok (.getfield 21, 3) := by decide +kernel
theorem dSi_letThrough_12 : decode bSi_letThrough 12 = .ok (.if_icmp .ge 23, 3) := by decide +kernel
theorem dSi_letThrough_15 : decode bSi_letThrough 15 = .ok (.iload_n 2, 1) := by decide +kernel
theorem dSi_letThrough_16 : decode bSi_letThrough 16 = .ok (.aload_n 0, 1) := by decide +kernel
theorem dSi_letThrough_17 : decode bSi_letThrough 17 = .ok (.aload_n 0, 1) := by decide +kernel
theorem dSi_letThrough_18 : decode bSi_letThrough 18 = .ok (.getfield 9, 3) := by decide +kernel
theorem dSi_letThrough_21 : decode bSi_letThrough 21 = .ok (.iload_n 3, 1) := by decide +kernel
theorem dSi_letThrough_22 : decode bSi_letThrough 22 = .ok (.iaload, 1) := by decide +kernel
theorem dSi_letThrough_23 : decode bSi_letThrough 23 = .ok (.iload_n 1, 1) := by decide +kernel
theorem dSi_letThrough_24 : decode bSi_letThrough 24 = .ok (.invokevirtual 49, 3) := by decide +kernel
theorem dSi_letThrough_27 : decode bSi_letThrough 27 = .ok (.iand, 1) := by decide +kernel
theorem dSi_letThrough_28 : decode bSi_letThrough 28 = .ok (.istore_n 2, 1) := by decide +kernel
theorem dSi_letThrough_29 : decode bSi_letThrough 29 = .ok (.iinc 3 1, 3) := by decide +kernel
theorem dSi_letThrough_32 : decode bSi_letThrough 32 = .ok (.goto (-25), 3) := by decide +kernel
theorem dSi_letThrough_35 : decode bSi_letThrough 35 = .ok (.iload_n 2, 1) := by decide +kernel
theorem dSi_letThrough_36 : decode bSi_letThrough 36 = .ok (.ireturn, 1) := by decide +kernel
abbrev rSi_letThrough : Room := { frames := 2, cells := 0, slots := 0, locals := 45 }
def fSi_letThrough_7 : Nat → Int32 → Int32 → Int32 → jM → jF → Option Int32
  | 0, _, _, _, _, _ => none
  | n + 1, x1, x2, x3, M, F => (if (F 2) ≤ x3 then some x2 else (if jib x3 12 then ((fSi_letThroughBy (M 20 x3.toNatClampNeg) x1 M F).bind fun q3 => fSi_letThrough_7 n x1 (x2 &&& q3) (x3 + 1) M F) else none))
def fSi_letThrough_0 (x1 : Int32) (M : jM) (F : jF) : Option Int32 := fSi_letThrough_7 jfuel x1 (F 3) 0 M F
abbrev fSi_letThrough (x1 : Int32) (M : jM) (F : jF) : Option Int32 := fSi_letThrough_0 x1 M F
set_option maxHeartbeats 4000000 in
set_option maxRecDepth 100000 in
theorem uSi_letThrough_7 {p : Program} {e : Env} {s : State} {m : MethodId} {args : Array Value} {below : List Frame} {meth : Method} {c : Code} (l : Launch) (dC : Nat → ClassId) (dI : Nat → Nat → Nat) (cA : ClassId) (A : Nat → Nat) (Ap : Nat → Prop) (hC : jAt p s m args meth c bSi_letThrough 4 (some .int) wSi_letThrough RSi) (hA : ∀ q : Nat, s.heap.size ≤ q → Ap q) {r : Int32} : ∀ (n : Nat) (x1 x2 x3 : Int32) (M : jM) (F : jF) (B : Nat → Nat) (H : Heap) (locs : List Loc) (ls : Array Slot), jH (dC, dI) jCl [(cA, .int)] (jW cA A B M F) Ap s H locs → lv_has ls 4 [(0, .ref (A 5)), (1, .int x1), (2, .int x2), (3, .int x3)] → fSi_letThrough_7 n x1 x2 x3 M F = some r → W p l e (headSpec wSi_letThrough rSi_letThrough).room s m args below meth c H locs 0 0 (jQi below (dC, dI) jCl [(cA, .int)] (fun B => jW cA A B M F) Ap args s r) (F0 m 7 ls []) := by
  obtain ⟨hx, hb, hml, hr, hts, hown, hlocks, hN⟩ := id hC
  have hj : ∀ w ∈ jw, w.before args s = true := fun w h => hts w (List.mem_cons_of_mem _ h)
  intro n
  induction n with
  | zero =>
    intro x1 x2 x3 M F B H locs ls hJ hl h
    rw [fSi_letThrough_7] at h
    cases h
  | succ n ih =>
    intro x1 x2 x3 M F B H locs ls hJ hl h
    rw [fSi_letThrough_7] at h
    refine lv_iload_n hx hb dSi_letThrough_7 rfl (lv_at hl 3 rfl) ?_
    refine lv_aload_n hx hb dSi_letThrough_8 rfl (lv_at hl 0 rfl) ?_
    refine va_get (D := (dC, dI)) (ci := 5) (v := .int (F 2)) (C := RSi) (T := TSi) (N := 5) hx hb hj iSi hown hJ.1 hJ.2.1 5 rfl rfl 3 (by decide) (hj _ jw_128) (fun _ h9 => h9) rfl dSi_letThrough_9 ?_
    refine lv_icmp_ge (tgt := 35) hx hb dSi_letThrough_12 (by decide) (fun c1 => ?_) (fun c1 => ?_)
    · replace h := jif_t c1 h
      refine lv_iload_n hx hb dSi_letThrough_35 rfl (lv_at hl 2 rfl) ?_
      exact jreti (u := B) hx hb hr rfl hlocks hJ dSi_letThrough_36 (Option.some.inj h)
    · replace h := jif_f c1 h
      refine lv_iload_n hx hb dSi_letThrough_15 rfl (lv_at hl 2 rfl) ?_
      refine lv_aload_n hx hb dSi_letThrough_16 rfl (lv_at hl 0 rfl) ?_
      refine lv_aload_n hx hb dSi_letThrough_17 rfl (lv_at hl 0 rfl) ?_
      refine va_get (D := (dC, dI)) (ci := 5) (v := .ref (A 20)) (C := RSi) (T := TSi) (N := 5) hx hb hj iSi hown hJ.1 hJ.2.1 5 rfl rfl 0 (by decide) (hj _ jw_125) (fun _ h9 => h9) rfl dSi_letThrough_18 ?_
      refine lv_iload_n hx hb dSi_letThrough_21 rfl (lv_at hl 3 rfl) ?_
      obtain ⟨hi2, h⟩ := jib_h h
      refine jald_20 hx hb hJ hi2 dSi_letThrough_22 ?_
      refine lv_iload_n hx hb dSi_letThrough_23 rfl (lv_at hl 1 rfl) ?_
      obtain ⟨q3, hq3, h⟩ := jbi_h h
      refine jcalli (w' := fun B => jW cA A B M F) (va_runV (As := [.int (M 20 x3.toNatClampNeg), .int x1]) (rest := [.int x2]) ⟨hx, hb, hml, hown, hts⟩ (cSi_letThroughBy l dC dI cA A (M 20 x3.toNatClampNeg) x1 M F B H.size hq3) (cwV 2 hts (jgoodV jw_561 jw_545 jw_546 jw_6 jw_547) rfl rfl rfl (by decide +kernel) ⟨Nat.le_of_ble_eq_true rfl, Nat.le_of_ble_eq_true rfl⟩) (jpreV hN hJ (ci := 5) (q0 := 5) rfl rfl) rfl rfl hl.1 rfl (lv_room (Nat.le_of_ble_eq_true rfl)) dSi_letThrough_24 ⟨Nat.zero_le _, Nat.zero_le _⟩) hA hJ (fun B H locs hJ => ?_)
      refine lv_iand hx hb dSi_letThrough_27 ?_
      refine lv_istore_n (lv' := [(2, .int (x2 &&& q3)), (0, .ref (A 5)), (1, .int x1), (3, .int x3)]) hx hb dSi_letThrough_28 rfl hl (by decide) rfl (fun ls hl => ?_)
      refine lv_iinc (v := x3 + 1) (lv' := [(3, .int (x3 + 1)), (2, .int (x2 &&& q3)), (0, .ref (A 5)), (1, .int x1)]) hx hb dSi_letThrough_29 hl (k := 3) rfl rfl (by decide) rfl (fun ls hl => ?_)
      refine lv_goto (tgt := 7) hx hb dSi_letThrough_32 (by decide) ?_
      exact ih _ _ _ _ _ _ _ _ _ hJ (lv_sub hl [2, 3, 1, 0] rfl) h
set_option maxHeartbeats 4000000 in
set_option maxRecDepth 100000 in
theorem uSi_letThrough_0 {p : Program} {e : Env} {s : State} {m : MethodId} {args : Array Value} {below : List Frame} {meth : Method} {c : Code} (l : Launch) (dC : Nat → ClassId) (dI : Nat → Nat → Nat) (cA : ClassId) (A : Nat → Nat) (Ap : Nat → Prop) (hC : jAt p s m args meth c bSi_letThrough 4 (some .int) wSi_letThrough RSi) (hA : ∀ q : Nat, s.heap.size ≤ q → Ap q) {r : Int32} : ∀ (x1 : Int32) (M : jM) (F : jF) (B : Nat → Nat) (H : Heap) (locs : List Loc) (ls : Array Slot), jH (dC, dI) jCl [(cA, .int)] (jW cA A B M F) Ap s H locs → lv_has ls 4 [(0, .ref (A 5)), (1, .int x1)] → fSi_letThrough_0 x1 M F = some r → W p l e (headSpec wSi_letThrough rSi_letThrough).room s m args below meth c H locs 0 0 (jQi below (dC, dI) jCl [(cA, .int)] (fun B => jW cA A B M F) Ap args s r) (F0 m 0 ls []) := by
  obtain ⟨hx, hb, hml, hr, hts, hown, hlocks, hN⟩ := id hC
  have hj : ∀ w ∈ jw, w.before args s = true := fun w h => hts w (List.mem_cons_of_mem _ h)
  intro x1 M F B H locs ls hJ hl h
  unfold fSi_letThrough_0 at h
  refine lv_aload_n hx hb dSi_letThrough_0 rfl (lv_at hl 0 rfl) ?_
  refine va_get (D := (dC, dI)) (ci := 5) (v := .int (F 3)) (C := RSi) (T := TSi) (N := 5) hx hb hj iSi hown hJ.1 hJ.2.1 5 rfl rfl 4 (by decide) (hj _ jw_129) (fun _ h9 => h9) rfl dSi_letThrough_1 ?_
  refine lv_istore_n (lv' := [(2, .int (F 3)), (0, .ref (A 5)), (1, .int x1)]) hx hb dSi_letThrough_4 rfl hl (by decide) rfl (fun ls hl => ?_)
  refine lv_iconst (v := 0) hx hb dSi_letThrough_5 (by decide) ?_
  refine lv_istore_n (lv' := [(3, .int 0), (2, .int (F 3)), (0, .ref (A 5)), (1, .int x1)]) hx hb dSi_letThrough_6 rfl hl (by decide) rfl (fun ls hl => ?_)
  exact uSi_letThrough_7 l dC dI cA A Ap hC hA jfuel _ _ _ _ _ _ _ _ _ hJ (lv_sub hl [2, 3, 1, 0] rfl) h
set_option maxHeartbeats 4000000 in
set_option maxRecDepth 100000 in
theorem cSi_letThrough (l : Launch) (dC : Nat → ClassId) (dI : Nat → Nat → Nat) (cA : ClassId) (A : Nat → Nat) (x1 : Int32) (M : jM) (F : jF) (B : Nat → Nat) (sz : Nat) {r : Int32} (h : fSi_letThrough x1 M F = some r) : jCi l ySi_letThrough wSi_letThrough rSi_letThrough (dC, dI) jCl [(cA, .int)] [.ref (A 5), .int x1] (jW cA A B M F) sz r (fun B => jW cA A B M F) :=
  jOf (Qc := fun Ap => va_Qi (fun q (_ : Nat → Nat) => q = r) (jPost (dC, dI) jCl [(cA, .int)] (fun B => jW cA A B M F) Ap) Ap) (by decide) rfl (Nat.le_of_ble_eq_true rfl) (fun p e s m below meth c Ap ls hC hA hJ hl => uSi_letThrough_0 l dC dI cA A Ap hC hA _ _ _ _ _ _ _ hJ (lv_sub hl [0, 1] rfl) h)
end
section
abbrev bRu_begin : ByteArray := prog_4_method_3_code
abbrev yRu_begin : MethodName := ⟨RRu, "begin", "(I)V"⟩
abbrev wRu_begin : List Cond := .code yRu_begin bRu_begin 2 none :: jw
theorem dRu_begin_0 : decode bRu_begin 0 = .ok (.aload_n 0, 1) := by decide +kernel
theorem dRu_begin_1 : decode bRu_begin 1 = .ok (.getfield 25, 3) := by decide +kernel
theorem dRu_begin_4 : decode bRu_begin 4 = .ok (.iconst 0, 1) := by decide +kernel
theorem dRu_begin_5 : decode bRu_begin 5 = .ok (.iconst 0, 1) := by decide +kernel
theorem dRu_begin_6 : decode bRu_begin 6 = .ok (.iastore, 1) := by decide +kernel
theorem dRu_begin_7 : decode bRu_begin 7 = .ok (.aload_n 0, 1) := by decide +kernel
theorem dRu_begin_8 : decode bRu_begin 8 = .ok (.iload_n 1, 1) := by decide +kernel
theorem dRu_begin_9 : decode bRu_begin 9 = .ok (.ifCond .ne 7, 3) := by decide +kernel
theorem dRu_begin_12 : decode bRu_begin 12 = .ok (.iconst 0, 1) := by decide +kernel
theorem dRu_begin_13 : decode bRu_begin 13 = .ok (.goto 4, 3) := by decide +kernel
theorem dRu_begin_16 : decode bRu_begin 16 = .ok (.iconst 1, 1) := by decide +kernel
theorem dRu_begin_17 : decode bRu_begin 17 = .ok (.putfield 35, 3) := by decide +kernel
theorem dRu_begin_20 : decode bRu_begin 20 = .ok (.aload_n 0, 1) := by decide +kernel
theorem dRu_begin_21 : decode bRu_begin 21 = .ok (.iconst 0, 1) := by decide +kernel
theorem dRu_begin_22 : decode bRu_begin 22 = .ok (.putfield 39, 3) := by decide +kernel
theorem dRu_begin_25 : decode bRu_begin 25 = .ok (.return_, 1) := by decide +kernel
abbrev rRu_begin : Room := { frames := 0, cells := 0, slots := 0, locals := 0 }
def fRu_begin_17 (s1 : Int32) (M : jM) (F : jF) : Option (Int32 × jM × jF) := some (0, M, jfu (jfu F 4 s1) 5 0)
def fRu_begin_0 (x1 : Int32) (M : jM) (F : jF) : Option (Int32 × jM × jF) := (if jib 0 3000 then (if x1 = 0 then fRu_begin_17 0 (jmu M 23 (0 : Int32).toNatClampNeg 0) F else fRu_begin_17 1 (jmu M 23 (0 : Int32).toNatClampNeg 0) F) else none)
abbrev fRu_begin (x1 : Int32) (M : jM) (F : jF) : Option (Int32 × jM × jF) := fRu_begin_0 x1 M F
set_option maxHeartbeats 4000000 in
set_option maxRecDepth 100000 in
theorem uRu_begin_17 {p : Program} {e : Env} {s : State} {m : MethodId} {args : Array Value} {below : List Frame} {meth : Method} {c : Code} (l : Launch) (dC : Nat → ClassId) (dI : Nat → Nat → Nat) (cA : ClassId) (A : Nat → Nat) (Ap : Nat → Prop) (hC : jAt p s m args meth c bRu_begin 2 none wRu_begin RRu) (hA : ∀ q : Nat, s.heap.size ≤ q → Ap q) {r : Int32} {M' : jM} {F' : jF} : ∀ (s1 : Int32) (M : jM) (F : jF) (B : Nat → Nat) (H : Heap) (locs : List Loc) (ls : Array Slot), jH (dC, dI) jCl [(cA, .int)] (jW cA A B M F) Ap s H locs → lv_has ls 2 [(0, .ref (A 1))] → fRu_begin_17 s1 M F = some (r, M', F') → W p l e (headSpec wRu_begin rRu_begin).room s m args below meth c H locs 0 0 (jQv below (dC, dI) jCl [(cA, .int)] (fun B => jW cA A B (M') (F')) Ap args s) (F0 m 17 ls [.int s1, .ref (A 1)]) := by
  obtain ⟨hx, hb, hml, hr, hts, hown, hlocks, hN⟩ := id hC
  have hj : ∀ w ∈ jw, w.before args s = true := fun w h => hts w (List.mem_cons_of_mem _ h)
  intro s1 M F B H locs ls hJ hl h
  unfold fRu_begin_17 at h
  refine va_put (D := (dC, dI)) (ci := 1) (v := .int s1) (ty := .int) (C := RRu) (T := TRu) (N := 11) hx hb hj iRu tRu tRu_ok nRu hown hJ.1 hJ.2.1 hJ.2.2.1 hJ.2.2.2 1 rfl rfl 5 (by decide) (hj _ jw_147) (fun _ h9 => h9) rfl (by decide +kernel) rfl rfl (Nat.le_of_ble_eq_true rfl) dRu_begin_17 (fun H locs hP hD hS => ?_)
  replace hJ : jH (dC, dI) jCl [(cA, .int)] (jW cA A B M (jfu F 4 s1)) Ap s H locs := ⟨hJ.1, hP, hD, hS⟩
  refine lv_aload_n hx hb dRu_begin_20 rfl (lv_at hl 0 rfl) ?_
  refine lv_iconst (v := 0) hx hb dRu_begin_21 (by decide) ?_
  refine va_put (D := (dC, dI)) (ci := 1) (v := .int 0) (ty := .int) (C := RRu) (T := TRu) (N := 11) hx hb hj iRu tRu tRu_ok nRu hown hJ.1 hJ.2.1 hJ.2.2.1 hJ.2.2.2 1 rfl rfl 6 (by decide) (hj _ jw_148) (fun _ h9 => h9) rfl (by decide +kernel) rfl rfl (Nat.le_of_ble_eq_true rfl) dRu_begin_22 (fun H locs hP hD hS => ?_)
  replace hJ : jH (dC, dI) jCl [(cA, .int)] (jW cA A B M (jfu (jfu F 4 s1) 5 0)) Ap s H locs := ⟨hJ.1, hP, hD, hS⟩
  cases h
  exact jretv (u := B) hx hb hr hlocks hJ dRu_begin_25
set_option maxHeartbeats 4000000 in
set_option maxRecDepth 100000 in
theorem uRu_begin_0 {p : Program} {e : Env} {s : State} {m : MethodId} {args : Array Value} {below : List Frame} {meth : Method} {c : Code} (l : Launch) (dC : Nat → ClassId) (dI : Nat → Nat → Nat) (cA : ClassId) (A : Nat → Nat) (Ap : Nat → Prop) (hC : jAt p s m args meth c bRu_begin 2 none wRu_begin RRu) (hA : ∀ q : Nat, s.heap.size ≤ q → Ap q) {r : Int32} {M' : jM} {F' : jF} : ∀ (x1 : Int32) (M : jM) (F : jF) (B : Nat → Nat) (H : Heap) (locs : List Loc) (ls : Array Slot), jH (dC, dI) jCl [(cA, .int)] (jW cA A B M F) Ap s H locs → lv_has ls 2 [(0, .ref (A 1)), (1, .int x1)] → fRu_begin_0 x1 M F = some (r, M', F') → W p l e (headSpec wRu_begin rRu_begin).room s m args below meth c H locs 0 0 (jQv below (dC, dI) jCl [(cA, .int)] (fun B => jW cA A B (M') (F')) Ap args s) (F0 m 0 ls []) := by
  obtain ⟨hx, hb, hml, hr, hts, hown, hlocks, hN⟩ := id hC
  have hj : ∀ w ∈ jw, w.before args s = true := fun w h => hts w (List.mem_cons_of_mem _ h)
  intro x1 M F B H locs ls hJ hl h
  unfold fRu_begin_0 at h
  refine lv_aload_n hx hb dRu_begin_0 rfl (lv_at hl 0 rfl) ?_
  refine va_get (D := (dC, dI)) (ci := 1) (v := .ref (B 0)) (C := RRu) (T := TRu) (N := 11) hx hb hj iRu hown hJ.1 hJ.2.1 1 rfl rfl 2 (by decide) (hj _ jw_144) (fun _ h9 => h9) rfl dRu_begin_1 ?_
  refine lv_iconst (v := 0) hx hb dRu_begin_4 (by decide) ?_
  refine lv_iconst (v := 0) hx hb dRu_begin_5 (by decide) ?_
  obtain ⟨hi1, h⟩ := jib_h h
  refine jast_23 hx hb hJ hi1 dRu_begin_6 (fun H locs hJ => ?_)
  refine lv_aload_n hx hb dRu_begin_7 rfl (lv_at hl 0 rfl) ?_
  refine lv_iload_n hx hb dRu_begin_8 rfl (lv_at hl 1 rfl) ?_
  refine lv_if_ne (tgt := 16) hx hb dRu_begin_9 (by decide) (fun c2 => ?_) (fun c2 => ?_)
  · replace h := jif_f c2 h
    refine lv_iconst (v := 1) hx hb dRu_begin_16 (by decide) ?_
    exact uRu_begin_17 l dC dI cA A Ap hC hA _ _ _ _ _ _ _ hJ (lv_sub hl [0] rfl) h
  · replace h := jif_t c2 h
    refine lv_iconst (v := 0) hx hb dRu_begin_12 (by decide) ?_
    refine lv_goto (tgt := 17) hx hb dRu_begin_13 (by decide) ?_
    exact uRu_begin_17 l dC dI cA A Ap hC hA _ _ _ _ _ _ _ hJ (lv_sub hl [0] rfl) h
set_option maxHeartbeats 4000000 in
set_option maxRecDepth 100000 in
theorem cRu_begin (l : Launch) (dC : Nat → ClassId) (dI : Nat → Nat → Nat) (cA : ClassId) (A : Nat → Nat) (x1 : Int32) (M : jM) (F : jF) (B : Nat → Nat) (sz : Nat) {r : Int32} {M' : jM} {F' : jF} (h : fRu_begin x1 M F = some (r, M', F')) : jCv l yRu_begin wRu_begin rRu_begin (dC, dI) jCl [(cA, .int)] [.ref (A 1), .int x1] (jW cA A B M F) sz (fun B => jW cA A B (M') (F')) :=
  jOf (Qc := fun Ap => va_Qv (fun _ : Nat → Nat => True) (jPost (dC, dI) jCl [(cA, .int)] (fun B => jW cA A B (M') (F')) Ap) Ap) (by decide) rfl (Nat.le_of_ble_eq_true rfl) (fun p e s m below meth c Ap ls hC hA hJ hl => uRu_begin_0 l dC dI cA A Ap hC hA _ _ _ _ _ _ _ hJ (lv_sub hl [0, 1] rfl) h)
abbrev bRu_extend : ByteArray := prog_4_method_5_code
abbrev yRu_extend : MethodName := ⟨RRu, "extend", "(IIII)I"⟩
abbrev wRu_extend : List Cond := .code yRu_extend bRu_extend 7 (some .int) :: jw
theorem dRu_extend_0 : decode bRu_extend 0 = .ok (.iload 4, 2) := by decide +kernel
theorem dRu_extend_2 : decode bRu_extend 2 = .ok (.istore 5, 2) := by decide +kernel
theorem dRu_extend_4 : decode bRu_extend 4 = .ok (.iconst 0, 1) := by decide +kernel
theorem dRu_extend_5 : decode bRu_extend 5 = .ok (.istore 6, 2) := by decide +kernel
theorem dRu_extend_7 : decode bRu_extend 7 = .ok (.iload 6, 2) := by decide +kernel
theorem dRu_extend_9 : decode bRu_extend 9 = .ok (.bipush 30, 2) := by decide +kernel
theorem dRu_extend_11 : decode bRu_extend 11 = .ok (.if_icmp .ge 43, 3) := by decide +kernel
theorem dRu_extend_14 : decode bRu_extend 14 = .ok (.iload_n 3, 1) := by decide +kernel
theorem dRu_extend_15 : decode bRu_extend 15 = .ok (.iload 6, 2) := by decide +kernel
theorem dRu_extend_17 : decode bRu_extend 17 = .ok (.iushr, 1) := by decide +kernel
theorem dRu_extend_18 : decode bRu_extend 18 = .ok (.ifCond .eq 36, 3) := by decide +kernel
theorem dRu_extend_21 : decode bRu_extend 21 = .ok (.iload_n 3, 1) := by decide +kernel
theorem dRu_extend_22 : decode bRu_extend 22 = .ok (.iload 6, 2) := by decide +kernel
theorem dRu_extend_24 : decode bRu_extend 24 = .ok (.iushr, 1) := by decide +kernel
theorem dRu_extend_25 : decode bRu_extend 25 = .ok (.iconst 1, 1) := by decide +kernel
theorem dRu_extend_26 : decode bRu_extend 26 = .ok (.iand, 1) := by decide +kernel
theorem dRu_extend_27 : decode bRu_extend 27 = .ok (.ifCond .eq 21, 3) := by decide +kernel
theorem dRu_extend_30 : decode bRu_extend 30 = .ok (.aload_n 0, 1) := by decide +kernel
theorem dRu_extend_31 : decode bRu_extend 31 = .ok (.getfield 29, 3) := by decide +kernel
theorem dRu_extend_34 : decode bRu_extend 34 = .ok (.iload 5, 2) := by decide +kernel
theorem dRu_extend_36 : decode bRu_extend 36 = .ok (.iload_n 1, 1) := by decide +kernel
theorem dRu_extend_37 : decode bRu_extend 37 = .ok (.iload 6, 2) := by decide +kernel
theorem dRu_extend_39 : decode bRu_extend 39 = .ok (.iload_n 2, 1) := by decide +kernel
theorem dRu_extend_40 : decode bRu_extend 40 = .ok (.iconst 5, 1) := by decide +kernel
theorem dRu_extend_41 : decode bRu_extend 41 = .ok (.imul, 1) := by decide +kernel
theorem dRu_extend_42 : decode bRu_extend 42 = .ok (.ishl, 1) := by decide +kernel
theorem dRu_extend_43 : decode bRu_extend 43 = .ok (.ior, 1) := by decide +kernel
theorem dRu_extend_44 : decode bRu_extend 44 = .ok (.iastore, 1) := by decide +kernel
theorem dRu_extend_45 : decode bRu_extend 45 = .ok (.iinc 5 1, 3) := by decide +kernel
theorem dRu_extend_48 : decode bRu_extend 48 = .ok (.iinc 6 1, 3) := by decide +kernel
theorem dRu_extend_51 : decode bRu_extend 51 = .ok (.goto (-44), 3) := by decide +kernel
theorem dRu_extend_54 : decode bRu_extend 54 = .ok (.iload 5, 2) := by decide +kernel
theorem dRu_extend_56 : decode bRu_extend 56 = .ok (.ireturn, 1) := by decide +kernel
abbrev rRu_extend : Room := { frames := 0, cells := 0, slots := 0, locals := 0 }
def fRu_extend_7 : Nat → Int32 → Int32 → Int32 → Int32 → Int32 → jM → jF → Option (Int32 × jM × jF)
  | 0, _, _, _, _, _, _, _ => none
  | n + 1, x1, x2, x3, x5, x6, M, F => (if 30 ≤ x6 then some (x5, M, F) else (if (jus x3 x6) = 0 then some (x5, M, F) else (if ((jus x3 x6) &&& 1) = 0 then fRu_extend_7 n x1 x2 x3 x5 (x6 + 1) M F else (if jib x5 3000 then fRu_extend_7 n x1 x2 x3 (x5 + 1) (x6 + 1) (jmu M 24 x5.toNatClampNeg (x1 ||| (x6 <<< ((x2 * 5) &&& 31)))) F else none))))
def fRu_extend_0 (x1 : Int32) (x2 : Int32) (x3 : Int32) (x4 : Int32) (M : jM) (F : jF) : Option (Int32 × jM × jF) := fRu_extend_7 jfuel x1 x2 x3 x4 0 M F
abbrev fRu_extend (x1 : Int32) (x2 : Int32) (x3 : Int32) (x4 : Int32) (M : jM) (F : jF) : Option (Int32 × jM × jF) := fRu_extend_0 x1 x2 x3 x4 M F
set_option maxHeartbeats 4000000 in
set_option maxRecDepth 100000 in
theorem uRu_extend_7 {p : Program} {e : Env} {s : State} {m : MethodId} {args : Array Value} {below : List Frame} {meth : Method} {c : Code} (l : Launch) (dC : Nat → ClassId) (dI : Nat → Nat → Nat) (cA : ClassId) (A : Nat → Nat) (Ap : Nat → Prop) (hC : jAt p s m args meth c bRu_extend 7 (some .int) wRu_extend RRu) (hA : ∀ q : Nat, s.heap.size ≤ q → Ap q) {r : Int32} {M' : jM} {F' : jF} : ∀ (n : Nat) (x1 x2 x3 x5 x6 : Int32) (M : jM) (F : jF) (B : Nat → Nat) (H : Heap) (locs : List Loc) (ls : Array Slot), jH (dC, dI) jCl [(cA, .int)] (jW cA A B M F) Ap s H locs → lv_has ls 7 [(0, .ref (A 1)), (1, .int x1), (2, .int x2), (3, .int x3), (5, .int x5), (6, .int x6)] → fRu_extend_7 n x1 x2 x3 x5 x6 M F = some (r, M', F') → W p l e (headSpec wRu_extend rRu_extend).room s m args below meth c H locs 0 0 (jQi below (dC, dI) jCl [(cA, .int)] (fun B => jW cA A B (M') (F')) Ap args s r) (F0 m 7 ls []) := by
  obtain ⟨hx, hb, hml, hr, hts, hown, hlocks, hN⟩ := id hC
  have hj : ∀ w ∈ jw, w.before args s = true := fun w h => hts w (List.mem_cons_of_mem _ h)
  intro n
  induction n with
  | zero =>
    intro x1 x2 x3 x5 x6 M F B H locs ls hJ hl h
    rw [fRu_extend_7] at h
    cases h
  | succ n ih =>
    intro x1 x2 x3 x5 x6 M F B H locs ls hJ hl h
    rw [fRu_extend_7] at h
    refine lv_iload hx hb dRu_extend_7 (lv_at hl 5 rfl) ?_
    refine lv_bipush (v := 30) hx hb dRu_extend_9 (by decide) ?_
    refine lv_icmp_ge (tgt := 54) hx hb dRu_extend_11 (by decide) (fun c1 => ?_) (fun c1 => ?_)
    · replace h := jif_t c1 h
      refine lv_iload hx hb dRu_extend_54 (lv_at hl 4 rfl) ?_
      cases h
      exact jreti (u := B) hx hb hr rfl hlocks hJ dRu_extend_56 rfl
    · replace h := jif_f c1 h
      refine lv_iload_n hx hb dRu_extend_14 rfl (lv_at hl 3 rfl) ?_
      refine lv_iload hx hb dRu_extend_15 (lv_at hl 5 rfl) ?_
      refine lv_iushr (v := jus x3 x6) hx hb dRu_extend_17 rfl ?_
      refine lv_if_eq (tgt := 54) hx hb dRu_extend_18 (by decide) (fun c2 => ?_) (fun c2 => ?_)
      · replace h := jif_t c2 h
        refine lv_iload hx hb dRu_extend_54 (lv_at hl 4 rfl) ?_
        cases h
        exact jreti (u := B) hx hb hr rfl hlocks hJ dRu_extend_56 rfl
      · replace h := jif_f c2 h
        refine lv_iload_n hx hb dRu_extend_21 rfl (lv_at hl 3 rfl) ?_
        refine lv_iload hx hb dRu_extend_22 (lv_at hl 5 rfl) ?_
        refine lv_iushr (v := jus x3 x6) hx hb dRu_extend_24 rfl ?_
        refine lv_iconst (v := 1) hx hb dRu_extend_25 (by decide) ?_
        refine lv_iand hx hb dRu_extend_26 ?_
        refine lv_if_eq (tgt := 48) hx hb dRu_extend_27 (by decide) (fun c3 => ?_) (fun c3 => ?_)
        · replace h := jif_t c3 h
          refine lv_iinc (v := x6 + 1) (lv' := [(6, .int (x6 + 1)), (0, .ref (A 1)), (1, .int x1), (2, .int x2), (3, .int x3), (5, .int x5)]) hx hb dRu_extend_48 hl (k := 5) rfl rfl (by decide) rfl (fun ls hl => ?_)
          refine lv_goto (tgt := 7) hx hb dRu_extend_51 (by decide) ?_
          exact ih _ _ _ _ _ _ _ _ _ _ _ hJ (lv_sub hl [1, 2, 3, 4, 5, 0] rfl) h
        · replace h := jif_f c3 h
          refine lv_aload_n hx hb dRu_extend_30 rfl (lv_at hl 0 rfl) ?_
          refine va_get (D := (dC, dI)) (ci := 1) (v := .ref (B 1)) (C := RRu) (T := TRu) (N := 11) hx hb hj iRu hown hJ.1 hJ.2.1 1 rfl rfl 3 (by decide) (hj _ jw_145) (fun _ h9 => h9) rfl dRu_extend_31 ?_
          refine lv_iload hx hb dRu_extend_34 (lv_at hl 4 rfl) ?_
          refine lv_iload_n hx hb dRu_extend_36 rfl (lv_at hl 1 rfl) ?_
          refine lv_iload hx hb dRu_extend_37 (lv_at hl 5 rfl) ?_
          refine lv_iload_n hx hb dRu_extend_39 rfl (lv_at hl 2 rfl) ?_
          refine lv_iconst (v := 5) hx hb dRu_extend_40 (by decide) ?_
          refine lv_imul hx hb dRu_extend_41 ?_
          refine lv_ishl hx hb dRu_extend_42 ?_
          refine lv_ior hx hb dRu_extend_43 ?_
          obtain ⟨hi4, h⟩ := jib_h h
          refine jast_24 hx hb hJ hi4 dRu_extend_44 (fun H locs hJ => ?_)
          refine lv_iinc (v := x5 + 1) (lv' := [(5, .int (x5 + 1)), (0, .ref (A 1)), (1, .int x1), (2, .int x2), (3, .int x3), (6, .int x6)]) hx hb dRu_extend_45 hl (k := 4) rfl rfl (by decide) rfl (fun ls hl => ?_)
          refine lv_iinc (v := x6 + 1) (lv' := [(6, .int (x6 + 1)), (5, .int (x5 + 1)), (0, .ref (A 1)), (1, .int x1), (2, .int x2), (3, .int x3)]) hx hb dRu_extend_48 hl (k := 5) rfl rfl (by decide) rfl (fun ls hl => ?_)
          refine lv_goto (tgt := 7) hx hb dRu_extend_51 (by decide) ?_
          exact ih _ _ _ _ _ _ _ _ _ _ _ hJ (lv_sub hl [2, 3, 4, 5, 1, 0] rfl) h
set_option maxHeartbeats 4000000 in
set_option maxRecDepth 100000 in
theorem uRu_extend_0 {p : Program} {e : Env} {s : State} {m : MethodId} {args : Array Value} {below : List Frame} {meth : Method} {c : Code} (l : Launch) (dC : Nat → ClassId) (dI : Nat → Nat → Nat) (cA : ClassId) (A : Nat → Nat) (Ap : Nat → Prop) (hC : jAt p s m args meth c bRu_extend 7 (some .int) wRu_extend RRu) (hA : ∀ q : Nat, s.heap.size ≤ q → Ap q) {r : Int32} {M' : jM} {F' : jF} : ∀ (x1 x2 x3 x4 : Int32) (M : jM) (F : jF) (B : Nat → Nat) (H : Heap) (locs : List Loc) (ls : Array Slot), jH (dC, dI) jCl [(cA, .int)] (jW cA A B M F) Ap s H locs → lv_has ls 7 [(0, .ref (A 1)), (1, .int x1), (2, .int x2), (3, .int x3), (4, .int x4)] → fRu_extend_0 x1 x2 x3 x4 M F = some (r, M', F') → W p l e (headSpec wRu_extend rRu_extend).room s m args below meth c H locs 0 0 (jQi below (dC, dI) jCl [(cA, .int)] (fun B => jW cA A B (M') (F')) Ap args s r) (F0 m 0 ls []) := by
  obtain ⟨hx, hb, hml, hr, hts, hown, hlocks, hN⟩ := id hC
  have hj : ∀ w ∈ jw, w.before args s = true := fun w h => hts w (List.mem_cons_of_mem _ h)
  intro x1 x2 x3 x4 M F B H locs ls hJ hl h
  unfold fRu_extend_0 at h
  refine lv_iload hx hb dRu_extend_0 (lv_at hl 4 rfl) ?_
  refine lv_istore (lv' := [(5, .int x4), (0, .ref (A 1)), (1, .int x1), (2, .int x2), (3, .int x3), (4, .int x4)]) hx hb dRu_extend_2 hl (by decide) rfl (fun ls hl => ?_)
  refine lv_iconst (v := 0) hx hb dRu_extend_4 (by decide) ?_
  refine lv_istore (lv' := [(6, .int 0), (5, .int x4), (0, .ref (A 1)), (1, .int x1), (2, .int x2), (3, .int x3), (4, .int x4)]) hx hb dRu_extend_5 hl (by decide) rfl (fun ls hl => ?_)
  exact uRu_extend_7 l dC dI cA A Ap hC hA jfuel _ _ _ _ _ _ _ _ _ _ _ hJ (lv_sub hl [2, 3, 4, 5, 1, 0] rfl) h
set_option maxHeartbeats 4000000 in
set_option maxRecDepth 100000 in
theorem cRu_extend (l : Launch) (dC : Nat → ClassId) (dI : Nat → Nat → Nat) (cA : ClassId) (A : Nat → Nat) (x1 : Int32) (x2 : Int32) (x3 : Int32) (x4 : Int32) (M : jM) (F : jF) (B : Nat → Nat) (sz : Nat) {r : Int32} {M' : jM} {F' : jF} (h : fRu_extend x1 x2 x3 x4 M F = some (r, M', F')) : jCi l yRu_extend wRu_extend rRu_extend (dC, dI) jCl [(cA, .int)] [.ref (A 1), .int x1, .int x2, .int x3, .int x4] (jW cA A B M F) sz r (fun B => jW cA A B (M') (F')) :=
  jOf (Qc := fun Ap => va_Qi (fun q (_ : Nat → Nat) => q = r) (jPost (dC, dI) jCl [(cA, .int)] (fun B => jW cA A B (M') (F')) Ap) Ap) (by decide) rfl (Nat.le_of_ble_eq_true rfl) (fun p e s m below meth c Ap ls hC hA hJ hl => uRu_extend_0 l dC dI cA A Ap hC hA _ _ _ _ _ _ _ _ _ _ hJ (lv_sub hl [0, 1, 2, 3, 4] rfl) h)
abbrev bRu_swap : ByteArray := prog_4_method_7_code
abbrev yRu_swap : MethodName := ⟨RRu, "swap", "()V"⟩
abbrev wRu_swap : List Cond := .code yRu_swap bRu_swap 2 none :: jw
theorem dRu_swap_0 : decode bRu_swap 0 = .ok (.aload_n 0, 1) := by decide +kernel
theorem dRu_swap_1 : decode bRu_swap 1 = .ok (.getfield 29, 3) := by decide +kernel
theorem dRu_swap_4 : decode bRu_swap 4 = .ok (.astore_n 1, 1) := by decide +kernel
theorem dRu_swap_5 : decode bRu_swap 5 = .ok (.aload_n 0, 1) := by decide +kernel
theorem dRu_swap_6 : decode bRu_swap 6 = .ok (.aload_n 0, 1) := by decide +kernel
theorem dRu_swap_7 : decode bRu_swap 7 = .ok (.getfield 25, 3) := by decide +kernel
theorem dRu_swap_10 : decode bRu_swap 10 = .ok (.putfield 29, 3) := by decide +kernel
theorem dRu_swap_13 : decode bRu_swap 13 = .ok (.aload_n 0, 1) := by decide +kernel
theorem dRu_swap_14 : decode bRu_swap 14 = .ok (.aload_n 1, 1) := by decide +kernel
theorem dRu_swap_15 : decode bRu_swap 15 = .ok (.putfield 25, 3) := by decide +kernel
theorem dRu_swap_18 : decode bRu_swap 18 = .ok (.return_, 1) := by decide +kernel
abbrev rRu_swap : Room := { frames := 0, cells := 0, slots := 0, locals := 0 }
def fRu_swap_0 (M : jM) (F : jF) : Option (Int32 × jM × jF) := some (0, jms M 23 24, F)
abbrev fRu_swap (M : jM) (F : jF) : Option (Int32 × jM × jF) := fRu_swap_0  M F
set_option maxHeartbeats 4000000 in
set_option maxRecDepth 100000 in
theorem uRu_swap_0 {p : Program} {e : Env} {s : State} {m : MethodId} {args : Array Value} {below : List Frame} {meth : Method} {c : Code} (l : Launch) (dC : Nat → ClassId) (dI : Nat → Nat → Nat) (cA : ClassId) (A : Nat → Nat) (Ap : Nat → Prop) (hC : jAt p s m args meth c bRu_swap 2 none wRu_swap RRu) (hA : ∀ q : Nat, s.heap.size ≤ q → Ap q) {r : Int32} {M' : jM} {F' : jF} : ∀ (M : jM) (F : jF) (B : Nat → Nat) (H : Heap) (locs : List Loc) (ls : Array Slot), jH (dC, dI) jCl [(cA, .int)] (jW cA A B M F) Ap s H locs → lv_has ls 2 [(0, .ref (A 1))] → fRu_swap_0 M F = some (r, M', F') → W p l e (headSpec wRu_swap rRu_swap).room s m args below meth c H locs 0 0 (jQv below (dC, dI) jCl [(cA, .int)] (fun B => jW cA A B (M') (F')) Ap args s) (F0 m 0 ls []) := by
  obtain ⟨hx, hb, hml, hr, hts, hown, hlocks, hN⟩ := id hC
  have hj : ∀ w ∈ jw, w.before args s = true := fun w h => hts w (List.mem_cons_of_mem _ h)
  intro  M F B H locs ls hJ hl h
  unfold fRu_swap_0 at h
  refine lv_aload_n hx hb dRu_swap_0 rfl (lv_at hl 0 rfl) ?_
  refine va_get (D := (dC, dI)) (ci := 1) (v := .ref (B 1)) (C := RRu) (T := TRu) (N := 11) hx hb hj iRu hown hJ.1 hJ.2.1 1 rfl rfl 3 (by decide) (hj _ jw_145) (fun _ h9 => h9) rfl dRu_swap_1 ?_
  refine lv_astore_n (lv' := [(1, .ref (B 1)), (0, .ref (A 1))]) hx hb dRu_swap_4 rfl hl (by decide) rfl (fun ls hl => ?_)
  refine lv_aload_n hx hb dRu_swap_5 rfl (lv_at hl 1 rfl) ?_
  refine lv_aload_n hx hb dRu_swap_6 rfl (lv_at hl 1 rfl) ?_
  refine va_get (D := (dC, dI)) (ci := 1) (v := .ref (B 0)) (C := RRu) (T := TRu) (N := 11) hx hb hj iRu hown hJ.1 hJ.2.1 1 rfl rfl 2 (by decide) (hj _ jw_144) (fun _ h9 => h9) rfl dRu_swap_7 ?_
  refine va_put (D := (dC, dI)) (ci := 1) (v := .ref (B 0)) (ty := (.array .int)) (C := RRu) (T := TRu) (N := 11) hx hb hj iRu tRu tRu_ok nRu hown hJ.1 hJ.2.1 hJ.2.2.1 hJ.2.2.2 1 rfl rfl 3 (by decide) (hj _ jw_145) (fun _ h9 => h9) rfl (by decide +kernel) rfl rfl (Nat.le_of_ble_eq_true rfl) dRu_swap_10 (fun H locs hP hD hS => ?_)
  replace hJ : jH (dC, dI) jCl [(cA, .int)] (jWr cA A B M F (B 0) (B 0) (B 2)) Ap s H locs := ⟨hJ.1, hP, hD, hS⟩
  refine lv_aload_n hx hb dRu_swap_13 rfl (lv_at hl 1 rfl) ?_
  refine lv_aload_n hx hb dRu_swap_14 rfl (lv_at hl 0 rfl) ?_
  refine va_put (D := (dC, dI)) (ci := 1) (v := .ref (B 1)) (ty := (.array .int)) (C := RRu) (T := TRu) (N := 11) hx hb hj iRu tRu tRu_ok nRu hown hJ.1 hJ.2.1 hJ.2.2.1 hJ.2.2.2 1 rfl rfl 2 (by decide) (hj _ jw_144) (fun _ h9 => h9) rfl (by decide +kernel) rfl rfl (Nat.le_of_ble_eq_true rfl) dRu_swap_15 (fun H locs hP hD hS => ?_)
  replace hJ : jH (dC, dI) jCl [(cA, .int)] (jWr cA A B M F (B 1) (B 0) (B 2)) Ap s H locs := ⟨hJ.1, hP, hD, hS⟩
  replace hJ : jH (dC, dI) jCl [(cA, .int)] (jW cA A (jbs B 0 1) (jms M 23 24) F) Ap s H locs := ⟨hJ.1, hJ.2.1.sub [0, 1, 2, 3, 4, 5, 6, 7, 8, 9, 10, 11, 12, 13, 14, 15, 16, 17, 18, 19, 20, 21, 22, 24, 23, 25, 26] rfl, hJ.2.2.1.sub [0, 1, 2, 3, 4, 5, 6, 7, 8, 9, 10, 11, 12, 13, 14, 15, 16, 17, 18, 19, 20, 21, 22, 24, 23, 25, 26] (by decide) rfl, hJ.2.2.2⟩
  cases h
  exact jretv (u := (jbs B 0 1)) hx hb hr hlocks hJ dRu_swap_18
set_option maxHeartbeats 4000000 in
set_option maxRecDepth 100000 in
theorem cRu_swap (l : Launch) (dC : Nat → ClassId) (dI : Nat → Nat → Nat) (cA : ClassId) (A : Nat → Nat) (M : jM) (F : jF) (B : Nat → Nat) (sz : Nat) {r : Int32} {M' : jM} {F' : jF} (h : fRu_swap M F = some (r, M', F')) : jCv l yRu_swap wRu_swap rRu_swap (dC, dI) jCl [(cA, .int)] [.ref (A 1)] (jW cA A B M F) sz (fun B => jW cA A B (M') (F')) :=
  jOf (Qc := fun Ap => va_Qv (fun _ : Nat → Nat => True) (jPost (dC, dI) jCl [(cA, .int)] (fun B => jW cA A B (M') (F')) Ap) Ap) (by decide) rfl (Nat.le_of_ble_eq_true rfl) (fun p e s m below meth c Ap ls hC hA hJ hl => uRu_swap_0 l dC dI cA A Ap hC hA _ _ _ _ _ _ hJ (lv_sub hl [0] rfl) h)
abbrev bRu_goTo : ByteArray := prog_4_method_4_code
abbrev yRu_goTo : MethodName := ⟨RRu, "goTo", "(II)Z"⟩
abbrev wRu_goTo : List Cond := .code yRu_goTo bRu_goTo 8 (some .boolean) :: jw
theorem dRu_goTo_0 : decode bRu_goTo 0 = .ok (.aload_n 0, 1) := by decide +kernel
theorem dRu_goTo_1 : decode bRu_goTo 1 = .ok (.getfield 12, 3) := by decide +kernel
theorem dRu_goTo_4 : decode bRu_goTo 4 = .ok (.getfield 54, 3) := by decide +kernel
theorem dRu_goTo_7 : decode bRu_goTo 7 = .ok (.iload_n 1, 1) := by decide +kernel
theorem dRu_goTo_8 : decode bRu_goTo 8 = .ok (.invokevirtual 91, 3) := by decide +kernel
theorem dRu_goTo_11 : decode bRu_goTo 11 = .ok (.istore_n 3, 1) := by decide +kernel
theorem dRu_goTo_12 : decode bRu_goTo 12 = .ok (.iload_n 2, 1) := by decide +kernel
theorem dRu_goTo_13 : decode bRu_goTo 13 = .ok (.iconst (-1), 1) := by decide +kernel
theorem dRu_goTo_14 : decode bRu_goTo 14 = .ok (.if_icmp .eq 28, 3) := by decide +kernel
theorem dRu_goTo_17 : decode bRu_goTo 17 = .ok (.aload_n 0, 1) := by decide +kernel
theorem dRu_goTo_18 : decode bRu_goTo 18 = .ok (.getfield 12, 3) := by decide +kernel
theorem dRu_goTo_21 : decode bRu_goTo 21 = .ok (.getfield 54, 3) := by decide +kernel
theorem dRu_goTo_24 : decode bRu_goTo 24 = .ok (.iload_n 2, 1) := by decide +kernel
theorem dRu_goTo_25 : decode bRu_goTo 25 = .ok (.iload_n 1, 1) := by decide +kernel
theorem dRu_goTo_26 : decode bRu_goTo 26 = .ok (.invokevirtual 95, 3) := by decide +kernel
theorem dRu_goTo_29 : decode bRu_goTo 29 = .ok (.ifCond .ne 13, 3) := by decide +kernel
theorem dRu_goTo_32 : decode bRu_goTo 32 = .ok (.aload_n 0, 1) := by decide +kernel
theorem dRu_goTo_33 : decode bRu_goTo 33 = .ok (.dup, 1) := by decide +kernel
theorem dRu_goTo_34 : decode bRu_goTo 34 = .ok (.getfield 39, 3) := by decide +kernel
theorem dRu_goTo_37 : decode bRu_goTo 37 = .ok (.iload_n 3, 1) := by decide +kernel
theorem dRu_goTo_38 : decode bRu_goTo 38 = .ok (.iadd, 1) := by decide +kernel
theorem dRu_goTo_39 : decode bRu_goTo 39 = .ok (.putfield 39, 3) := by decide +kernel
theorem dRu_goTo_42 : decode bRu_goTo 42 = .ok (.iconst 0, 1) := by decide +kernel
theorem dRu_goTo_43 : decode bRu_goTo 43 = .ok (.istore 4, 2) := by decide +kernel
theorem dRu_goTo_45 : decode bRu_goTo 45 = .ok (.iconst 0, 1) := by decide +kernel
theorem dRu_goTo_46 : decode bRu_goTo 46 = .ok (.istore 5, 2) := by decide +kernel
theorem dRu_goTo_48 : decode bRu_goTo 48 = .ok (.iload 5, 2) := by decide +kernel
theorem dRu_goTo_50 : decode bRu_goTo 50 = .ok (.aload_n 0, 1) := by decide +kernel
theorem dRu_goTo_51 : decode bRu_goTo 51 = .ok (.getfield 35, 3) := by decide +kernel
theorem dRu_goTo_54 : decode bRu_goTo 54 = .ok (.if_icmp .ge 89, 3) := by decide +kernel
theorem dRu_goTo_57 : decode bRu_goTo 57 = .ok (.aload_n 0, 1) := by decide +kernel
theorem dRu_goTo_58 : decode bRu_goTo 58 = .ok (.getfield 25, 3) := by decide +kernel
theorem dRu_goTo_61 : decode bRu_goTo 61 = .ok (.iload 5, 2) := by decide +kernel
theorem dRu_goTo_63 : decode bRu_goTo 63 = .ok (.iaload, 1) := by decide +kernel
theorem dRu_goTo_64 : decode bRu_goTo 64 = .ok (.istore 6, 2) := by decide +kernel
theorem dRu_goTo_66 : decode bRu_goTo 66 = .ok (.aload_n 0, 1) := by decide +kernel
theorem dRu_goTo_67 : decode bRu_goTo 67 = .ok (.dup, 1) := by decide +kernel
theorem dRu_goTo_68 : decode bRu_goTo 68 = .ok (.getfield 39, 3) := by decide +kernel
theorem dRu_goTo_71 : decode bRu_goTo 71 = .ok (.iload_n 2, 1) := by decide +kernel
theorem dRu_goTo_72 : decode bRu_goTo 72 = .ok (.iconst (-1), 1) := by decide +kernel
theorem dRu_goTo_73 : decode bRu_goTo 73 = .ok (.if_icmp .ne 7, 3) := by decide +kernel
theorem dRu_goTo_76 : decode bRu_goTo 76 = .ok (.iload_n 3, 1) := by decide +kernel
theorem dRu_goTo_77 : decode bRu_goTo 77 = .ok (.goto 16, 3) := by decide +kernel
theorem dRu_goTo_80 : decode bRu_goTo 80 = .ok (.aload_n 0, 1) := by decide +kernel
theorem dRu_goTo_81 : decode bRu_goTo 81 = .ok (.getfield 21, 3) := by decide +kernel
theorem dRu_goTo_84 : decode bRu_goTo 84 = .ok (.iload_n 2, 1) := by decide +kernel
theorem dRu_goTo_85 : decode bRu_goTo 85 = .ok (.iload 6, 2) := by decide +kernel
theorem dRu_goTo_87 : decode bRu_goTo 87 = .ok (.invokevirtual 98, 3) := by decide +kernel
theorem dRu_goTo_90 : decode bRu_goTo 90 = .ok (.invokestatic 101, 3) := by decide +kernel
theorem dRu_goTo_93 : decode bRu_goTo 93 = .ok (.iadd, 1) := by decide +kernel
theorem dRu_goTo_94 : decode bRu_goTo 94 = .ok (.putfield 39, 3) := by decide +kernel
theorem dRu_goTo_97 : decode bRu_goTo 97 = .ok (.aload_n 0, 1) := by decide +kernel
theorem dRu_goTo_98 : decode bRu_goTo 98 = .ok (.getfield 21, 3) := by decide +kernel
theorem dRu_goTo_101 : decode bRu_goTo 101 = .ok (.iload 6, 2) := by decide +kernel
theorem dRu_goTo_103 : decode bRu_goTo 103 = .ok (.invokevirtual 106, 3) := by decide +kernel
theorem dRu_goTo_106 : decode bRu_goTo 106 = .ok (.istore 7, 2) := by decide +kernel
theorem dRu_goTo_108 : decode bRu_goTo 108 = .ok (.iload 4, 2) := by decide +kernel
theorem dRu_goTo_110 : decode bRu_goTo 110 = .ok (.iload 7, 2) := by decide +kernel
theorem dRu_goTo_112 : decode bRu_goTo 112 = .ok (.invokestatic 101, 3) := by decide +kernel
theorem dRu_goTo_115 : decode bRu_goTo 115 = .ok (.iadd, 1) := by decide +kernel
theorem dRu_goTo_116 : decode bRu_goTo 116 = .ok (.sipush 3000, 3) := by decide +kernel
theorem dRu_goTo_119 : decode bRu_goTo 119 = .ok (.if_icmp .le 5, 3) := by decide +kernel
theorem dRu_goTo_122 : decode bRu_goTo 122 = .ok (.iconst 0, 1) := by decide +kernel
theorem dRu_goTo_123 : decode bRu_goTo 123 = .ok (.ireturn, 1) := by decide +kernel
theorem dRu_goTo_124 : decode bRu_goTo 124 = .ok (.aload_n 0, 1) := by decide +kernel
theorem dRu_goTo_125 : decode bRu_goTo 125 = .ok (.iload 6, 2) := by decide +kernel
theorem dRu_goTo_127 : decode bRu_goTo 127 = .ok (.iload_n 1, 1) := by decide +kernel
theorem dRu_goTo_128 : decode bRu_goTo 128 = .ok (.iload 7, 2) := by decide +kernel
theorem dRu_goTo_130 : decode bRu_goTo 130 = .ok (.iload 4, 2) := by decide +kernel
theorem dRu_goTo_132 : decode bRu_goTo 132 = .ok (.invokevirtual 109, 3) := by decide +kernel
theorem dRu_goTo_135 : decode bRu_goTo 135 = .ok (.istore 4, 2) := by decide +kernel
theorem dRu_goTo_137 : decode bRu_goTo 137 = .ok (.iinc 5 1, 3) := by decide +kernel
theorem dRu_goTo_140 : decode bRu_goTo 140 = .ok (.goto (-92), 3) := by decide +kernel
theorem dRu_goTo_143 : decode bRu_goTo 143 = .ok (.aload_n 0, 1) := by decide +kernel
theorem dRu_goTo_144 : decode bRu_goTo 144 = .ok (.invokevirtual 113, 3) := by decide +kernel
theorem dRu_goTo_147 : decode bRu_goTo 147 = .ok (.aload_n 0, 1) := by decide +kernel
theorem dRu_goTo_148 : decode bRu_goTo 148 = .ok (.iload 4, 2) := by decide +kernel
theorem dRu_goTo_150 : decode bRu_goTo 150 = .ok (.putfield 35, 3) := by decide +kernel
theorem dRu_goTo_153 : decode bRu_goTo 153 = .ok (.iconst 1, 1) := by decide +kernel
theorem dRu_goTo_154 : decode bRu_goTo 154 = .ok (.ireturn, 1) := by decide +kernel
abbrev rRu_goTo : Room := { frames := 3, cells := 0, slots := 0, locals := 68 }
def fRu_goTo_48 : Nat → Int32 → Int32 → Int32 → Int32 → Int32 → jM → jF → Option (Int32 × jM × jF)
  | 0, _, _, _, _, _, _, _ => none
  | n + 1, x1, x2, x3, x4, x5, M, F => (if (F 4) ≤ x5 then ((fRu_swap M F).bind fun q4 => some (1, q4.2.1, jfu q4.2.2 4 x4)) else (if jib x5 3000 then (if x2 = (-1) then ((fSi_letThrough (M 23 x5.toNatClampNeg) M (jfu F 5 ((F 5) + x3))).bind fun q15 => ((fIn_bitCount q15 M (jfu F 5 ((F 5) + x3))).bind fun q16 => (if (x4 + q16) ≤ 3000 then ((fRu_extend (M 23 x5.toNatClampNeg) x1 q15 x4 M (jfu F 5 ((F 5) + x3))).bind fun q18 => fRu_goTo_48 n x1 x2 x3 q18.1 (x5 + 1) q18.2.1 q18.2.2) else some (0, M, jfu F 5 ((F 5) + x3))))) else ((fSi_letThroughBy x2 (M 23 x5.toNatClampNeg) M F).bind fun q8 => ((fIn_bitCount q8 M F).bind fun q9 => ((fSi_letThrough (M 23 x5.toNatClampNeg) M (jfu F 5 ((F 5) + q9))).bind fun q10 => ((fIn_bitCount q10 M (jfu F 5 ((F 5) + q9))).bind fun q11 => (if (x4 + q11) ≤ 3000 then ((fRu_extend (M 23 x5.toNatClampNeg) x1 q10 x4 M (jfu F 5 ((F 5) + q9))).bind fun q13 => fRu_goTo_48 n x1 x2 x3 q13.1 (x5 + 1) q13.2.1 q13.2.2) else some (0, M, jfu F 5 ((F 5) + q9)))))))) else none))
def fRu_goTo_42 (x1 : Int32) (x2 : Int32) (x3 : Int32) (M : jM) (F : jF) : Option (Int32 × jM × jF) := fRu_goTo_48 jfuel x1 x2 x3 0 0 M F
def fRu_goTo_0 (x1 : Int32) (x2 : Int32) (M : jM) (F : jF) : Option (Int32 × jM × jF) := ((fQu_rowsOf x1 M F).bind fun q1 => (if x2 = (-1) then fRu_goTo_42 x1 x2 q1 M F else ((fQu_tellsByIndex x2 x1 M F).bind fun q20 => (if q20 = 0 then fRu_goTo_42 x1 x2 q1 M (jfu F 5 ((F 5) + q1)) else fRu_goTo_42 x1 x2 q1 M F))))
abbrev fRu_goTo (x1 : Int32) (x2 : Int32) (M : jM) (F : jF) : Option (Int32 × jM × jF) := fRu_goTo_0 x1 x2 M F
set_option maxHeartbeats 4000000 in
set_option maxRecDepth 100000 in
theorem uRu_goTo_48 {p : Program} {e : Env} {s : State} {m : MethodId} {args : Array Value} {below : List Frame} {meth : Method} {c : Code} (l : Launch) (dC : Nat → ClassId) (dI : Nat → Nat → Nat) (cA : ClassId) (A : Nat → Nat) (Ap : Nat → Prop) (hC : jAt p s m args meth c bRu_goTo 8 (some .boolean) wRu_goTo RRu) (hA : ∀ q : Nat, s.heap.size ≤ q → Ap q) {r : Int32} {M' : jM} {F' : jF} : ∀ (n : Nat) (x1 x2 x3 x4 x5 : Int32) (M : jM) (F : jF) (B : Nat → Nat) (H : Heap) (locs : List Loc) (ls : Array Slot), jH (dC, dI) jCl [(cA, .int)] (jW cA A B M F) Ap s H locs → lv_has ls 8 [(0, .ref (A 1)), (1, .int x1), (2, .int x2), (3, .int x3), (4, .int x4), (5, .int x5)] → fRu_goTo_48 n x1 x2 x3 x4 x5 M F = some (r, M', F') → W p l e (headSpec wRu_goTo rRu_goTo).room s m args below meth c H locs 0 0 (jQi below (dC, dI) jCl [(cA, .int)] (fun B => jW cA A B (M') (F')) Ap args s r) (F0 m 48 ls []) := by
  obtain ⟨hx, hb, hml, hr, hts, hown, hlocks, hN⟩ := id hC
  have hj : ∀ w ∈ jw, w.before args s = true := fun w h => hts w (List.mem_cons_of_mem _ h)
  intro n
  induction n with
  | zero =>
    intro x1 x2 x3 x4 x5 M F B H locs ls hJ hl h
    rw [fRu_goTo_48] at h
    cases h
  | succ n ih =>
    intro x1 x2 x3 x4 x5 M F B H locs ls hJ hl h
    rw [fRu_goTo_48] at h
    refine lv_iload hx hb dRu_goTo_48 (lv_at hl 5 rfl) ?_
    refine lv_aload_n hx hb dRu_goTo_50 rfl (lv_at hl 0 rfl) ?_
    refine va_get (D := (dC, dI)) (ci := 1) (v := .int (F 4)) (C := RRu) (T := TRu) (N := 11) hx hb hj iRu hown hJ.1 hJ.2.1 1 rfl rfl 5 (by decide) (hj _ jw_147) (fun _ h9 => h9) rfl dRu_goTo_51 ?_
    refine lv_icmp_ge (tgt := 143) hx hb dRu_goTo_54 (by decide) (fun c3 => ?_) (fun c3 => ?_)
    · replace h := jif_t c3 h
      refine lv_aload_n hx hb dRu_goTo_143 rfl (lv_at hl 0 rfl) ?_
      obtain ⟨q4, hq4, h⟩ := jbi_h h
      refine jcallv (w' := fun B => jW cA A B q4.2.1 q4.2.2) (va_runV (As := []) (rest := []) ⟨hx, hb, hml, hown, hts⟩ (cRu_swap l dC dI cA A M F B H.size hq4) (cwV 0 hts (jgoodV jw_566 jw_568 jws_14 jw_2 jw_569) rfl rfl rfl (by decide +kernel) ⟨Nat.le_of_ble_eq_true rfl, Nat.le_of_ble_eq_true rfl⟩) (jpreV hN hJ (ci := 1) (q0 := 1) rfl rfl) rfl rfl hl.1 rfl (lv_room (Nat.le_of_ble_eq_true rfl)) dRu_goTo_144 ⟨Nat.zero_le _, Nat.zero_le _⟩) hA hJ (fun B5 H locs hJ => ?_)
      refine lv_aload_n hx hb dRu_goTo_147 rfl (lv_at hl 0 rfl) ?_
      refine lv_iload hx hb dRu_goTo_148 (lv_at hl 4 rfl) ?_
      refine va_put (D := (dC, dI)) (ci := 1) (v := .int x4) (ty := .int) (C := RRu) (T := TRu) (N := 11) hx hb hj iRu tRu tRu_ok nRu hown hJ.1 hJ.2.1 hJ.2.2.1 hJ.2.2.2 1 rfl rfl 5 (by decide) (hj _ jw_147) (fun _ h9 => h9) rfl (by decide +kernel) rfl rfl (Nat.le_of_ble_eq_true rfl) dRu_goTo_150 (fun H locs hP hD hS => ?_)
      replace hJ : jH (dC, dI) jCl [(cA, .int)] (jW cA A B5 q4.2.1 (jfu q4.2.2 4 x4)) Ap s H locs := ⟨hJ.1, hP, hD, hS⟩
      refine lv_iconst (v := 1) hx hb dRu_goTo_153 (by decide) ?_
      cases h
      exact jreti (u := B5) hx hb hr rfl hlocks hJ dRu_goTo_154 rfl
    · replace h := jif_f c3 h
      refine lv_aload_n hx hb dRu_goTo_57 rfl (lv_at hl 0 rfl) ?_
      refine va_get (D := (dC, dI)) (ci := 1) (v := .ref (B 0)) (C := RRu) (T := TRu) (N := 11) hx hb hj iRu hown hJ.1 hJ.2.1 1 rfl rfl 2 (by decide) (hj _ jw_144) (fun _ h9 => h9) rfl dRu_goTo_58 ?_
      refine lv_iload hx hb dRu_goTo_61 (lv_at hl 5 rfl) ?_
      obtain ⟨hi6, h⟩ := jib_h h
      refine jald_23 hx hb hJ hi6 dRu_goTo_63 ?_
      refine lv_istore (lv' := [(6, .int (M 23 x5.toNatClampNeg)), (0, .ref (A 1)), (1, .int x1), (2, .int x2), (3, .int x3), (4, .int x4), (5, .int x5)]) hx hb dRu_goTo_64 hl (by decide) rfl (fun ls hl => ?_)
      refine lv_aload_n hx hb dRu_goTo_66 rfl (lv_at hl 1 rfl) ?_
      refine lv_dup hx hb dRu_goTo_67 rfl ?_
      refine va_get (D := (dC, dI)) (ci := 1) (v := .int (F 5)) (C := RRu) (T := TRu) (N := 11) hx hb hj iRu hown hJ.1 hJ.2.1 1 rfl rfl 6 (by decide) (hj _ jw_148) (fun _ h9 => h9) rfl dRu_goTo_68 ?_
      refine lv_iload_n hx hb dRu_goTo_71 rfl (lv_at hl 3 rfl) ?_
      refine lv_iconst (v := (-1)) hx hb dRu_goTo_72 (by decide) ?_
      refine lv_icmp_ne (tgt := 80) hx hb dRu_goTo_73 (by decide) (fun c7 => ?_) (fun c7 => ?_)
      · replace h := jif_f c7 h
        refine lv_aload_n hx hb dRu_goTo_80 rfl (lv_at hl 1 rfl) ?_
        refine va_get (D := (dC, dI)) (ci := 1) (v := .ref (A 5)) (C := RRu) (T := TRu) (N := 11) hx hb hj iRu hown hJ.1 hJ.2.1 1 rfl rfl 1 (by decide) (hj _ jw_143) (fun _ h9 => h9) rfl dRu_goTo_81 ?_
        refine lv_iload_n hx hb dRu_goTo_84 rfl (lv_at hl 3 rfl) ?_
        refine lv_iload hx hb dRu_goTo_85 (lv_at hl 0 rfl) ?_
        obtain ⟨q8, hq8, h⟩ := jbi_h h
        refine jcalli (w' := fun B => jW cA A B M F) (va_runV (As := [.int x2, .int (M 23 x5.toNatClampNeg)]) (rest := [.int (F 5), .ref (A 1)]) ⟨hx, hb, hml, hown, hts⟩ (cSi_letThroughBy l dC dI cA A x2 (M 23 x5.toNatClampNeg) M F B H.size hq8) (cwV 2 hts (jgoodV jw_544 jw_545 jw_546 jw_6 jw_547) rfl rfl rfl (by decide +kernel) ⟨Nat.le_of_ble_eq_true rfl, Nat.le_of_ble_eq_true rfl⟩) (jpreV hN hJ (ci := 5) (q0 := 5) rfl rfl) rfl rfl hl.1 rfl (lv_room (Nat.le_of_ble_eq_true rfl)) dRu_goTo_87 ⟨Nat.zero_le _, Nat.zero_le _⟩) hA hJ (fun B H locs hJ => ?_)
        obtain ⟨q9, hq9, h⟩ := jbi_h h
        refine jcalli (w' := fun B => jW cA A B M F) (va_runS (As := [.int q8]) (rest := [.int (F 5), .ref (A 1)]) ⟨hx, hb, hml, hown, hts⟩ (cIn_bitCount l dC dI cA A q8 M F B H.size hq9) (va_cwS 1 hts (jgoodS jw_551 jw_552 jw_15 jw_553) rfl rfl rfl (by decide +kernel) ⟨Nat.le_of_ble_eq_true rfl, Nat.le_of_ble_eq_true rfl⟩) (jpreS hN hJ) rfl rfl hl.1 rfl (lv_room (Nat.le_of_ble_eq_true rfl)) dRu_goTo_90 ⟨Nat.zero_le _, Nat.zero_le _⟩) hA hJ (fun B H locs hJ => ?_)
        refine lv_iadd hx hb dRu_goTo_93 ?_
        refine va_put (D := (dC, dI)) (ci := 1) (v := .int ((F 5) + q9)) (ty := .int) (C := RRu) (T := TRu) (N := 11) hx hb hj iRu tRu tRu_ok nRu hown hJ.1 hJ.2.1 hJ.2.2.1 hJ.2.2.2 1 rfl rfl 6 (by decide) (hj _ jw_148) (fun _ h9 => h9) rfl (by decide +kernel) rfl rfl (Nat.le_of_ble_eq_true rfl) dRu_goTo_94 (fun H locs hP hD hS => ?_)
        replace hJ : jH (dC, dI) jCl [(cA, .int)] (jW cA A B M (jfu F 5 ((F 5) + q9))) Ap s H locs := ⟨hJ.1, hP, hD, hS⟩
        refine lv_aload_n hx hb dRu_goTo_97 rfl (lv_at hl 1 rfl) ?_
        refine va_get (D := (dC, dI)) (ci := 1) (v := .ref (A 5)) (C := RRu) (T := TRu) (N := 11) hx hb hj iRu hown hJ.1 hJ.2.1 1 rfl rfl 1 (by decide) (hj _ jw_143) (fun _ h9 => h9) rfl dRu_goTo_98 ?_
        refine lv_iload hx hb dRu_goTo_101 (lv_at hl 0 rfl) ?_
        obtain ⟨q10, hq10, h⟩ := jbi_h h
        refine jcalli (w' := fun B => jW cA A B M (jfu F 5 ((F 5) + q9))) (va_runV (As := [.int (M 23 x5.toNatClampNeg)]) (rest := []) ⟨hx, hb, hml, hown, hts⟩ (cSi_letThrough l dC dI cA A (M 23 x5.toNatClampNeg) M (jfu F 5 ((F 5) + q9)) B H.size hq10) (cwV 1 hts (jgoodV jw_557 jw_558 jw_559 jw_6 jw_560) rfl rfl rfl (by decide +kernel) ⟨Nat.le_of_ble_eq_true rfl, Nat.le_of_ble_eq_true rfl⟩) (jpreV hN hJ (ci := 5) (q0 := 5) rfl rfl) rfl rfl hl.1 rfl (lv_room (Nat.le_of_ble_eq_true rfl)) dRu_goTo_103 ⟨Nat.zero_le _, Nat.zero_le _⟩) hA hJ (fun B H locs hJ => ?_)
        refine lv_istore (lv' := [(7, .int q10), (6, .int (M 23 x5.toNatClampNeg)), (0, .ref (A 1)), (1, .int x1), (2, .int x2), (3, .int x3), (4, .int x4), (5, .int x5)]) hx hb dRu_goTo_106 hl (by decide) rfl (fun ls hl => ?_)
        refine lv_iload hx hb dRu_goTo_108 (lv_at hl 6 rfl) ?_
        refine lv_iload hx hb dRu_goTo_110 (lv_at hl 0 rfl) ?_
        obtain ⟨q11, hq11, h⟩ := jbi_h h
        refine jcalli (w' := fun B => jW cA A B M (jfu F 5 ((F 5) + q9))) (va_runS (As := [.int q10]) (rest := [.int x4]) ⟨hx, hb, hml, hown, hts⟩ (cIn_bitCount l dC dI cA A q10 M (jfu F 5 ((F 5) + q9)) B H.size hq11) (va_cwS 1 hts (jgoodS jw_551 jw_552 jw_15 jw_553) rfl rfl rfl (by decide +kernel) ⟨Nat.le_of_ble_eq_true rfl, Nat.le_of_ble_eq_true rfl⟩) (jpreS hN hJ) rfl rfl hl.1 rfl (lv_room (Nat.le_of_ble_eq_true rfl)) dRu_goTo_112 ⟨Nat.zero_le _, Nat.zero_le _⟩) hA hJ (fun B H locs hJ => ?_)
        refine lv_iadd hx hb dRu_goTo_115 ?_
        refine lv_sipush (v := 3000) hx hb dRu_goTo_116 (by decide) ?_
        refine lv_icmp_le (tgt := 124) hx hb dRu_goTo_119 (by decide) (fun c12 => ?_) (fun c12 => ?_)
        · replace h := jif_t c12 h
          refine lv_aload_n hx hb dRu_goTo_124 rfl (lv_at hl 2 rfl) ?_
          refine lv_iload hx hb dRu_goTo_125 (lv_at hl 1 rfl) ?_
          refine lv_iload_n hx hb dRu_goTo_127 rfl (lv_at hl 3 rfl) ?_
          refine lv_iload hx hb dRu_goTo_128 (lv_at hl 0 rfl) ?_
          refine lv_iload hx hb dRu_goTo_130 (lv_at hl 6 rfl) ?_
          obtain ⟨q13, hq13, h⟩ := jbi_h h
          refine jcalli (w' := fun B => jW cA A B q13.2.1 q13.2.2) (va_runV (As := [.int (M 23 x5.toNatClampNeg), .int x1, .int q10, .int x4]) (rest := []) ⟨hx, hb, hml, hown, hts⟩ (cRu_extend l dC dI cA A (M 23 x5.toNatClampNeg) x1 q10 x4 M (jfu F 5 ((F 5) + q9)) B H.size hq13) (cwV 4 hts (jgoodV jw_562 jw_564 jws_13 jw_2 jw_565) rfl rfl rfl (by decide +kernel) ⟨Nat.le_of_ble_eq_true rfl, Nat.le_of_ble_eq_true rfl⟩) (jpreV hN hJ (ci := 1) (q0 := 1) rfl rfl) rfl rfl hl.1 rfl (lv_room (Nat.le_of_ble_eq_true rfl)) dRu_goTo_132 ⟨Nat.zero_le _, Nat.zero_le _⟩) hA hJ (fun B14 H locs hJ => ?_)
          refine lv_istore (lv' := [(4, .int q13.1), (7, .int q10), (6, .int (M 23 x5.toNatClampNeg)), (0, .ref (A 1)), (1, .int x1), (2, .int x2), (3, .int x3), (5, .int x5)]) hx hb dRu_goTo_135 hl (by decide) rfl (fun ls hl => ?_)
          refine lv_iinc (v := x5 + 1) (lv' := [(5, .int (x5 + 1)), (4, .int q13.1), (7, .int q10), (6, .int (M 23 x5.toNatClampNeg)), (0, .ref (A 1)), (1, .int x1), (2, .int x2), (3, .int x3)]) hx hb dRu_goTo_137 hl (k := 7) rfl rfl (by decide) rfl (fun ls hl => ?_)
          refine lv_goto (tgt := 48) hx hb dRu_goTo_140 (by decide) ?_
          exact ih _ _ _ _ _ _ _ _ _ _ _ hJ (lv_sub hl [4, 5, 6, 7, 1, 0] rfl) h
        · replace h := jif_f c12 h
          refine lv_iconst (v := 0) hx hb dRu_goTo_122 (by decide) ?_
          cases h
          exact jreti (u := B) hx hb hr rfl hlocks hJ dRu_goTo_123 rfl
      · replace h := jif_t c7 h
        refine lv_iload_n hx hb dRu_goTo_76 rfl (lv_at hl 4 rfl) ?_
        refine lv_goto (tgt := 93) hx hb dRu_goTo_77 (by decide) ?_
        refine lv_iadd hx hb dRu_goTo_93 ?_
        refine va_put (D := (dC, dI)) (ci := 1) (v := .int ((F 5) + x3)) (ty := .int) (C := RRu) (T := TRu) (N := 11) hx hb hj iRu tRu tRu_ok nRu hown hJ.1 hJ.2.1 hJ.2.2.1 hJ.2.2.2 1 rfl rfl 6 (by decide) (hj _ jw_148) (fun _ h9 => h9) rfl (by decide +kernel) rfl rfl (Nat.le_of_ble_eq_true rfl) dRu_goTo_94 (fun H locs hP hD hS => ?_)
        replace hJ : jH (dC, dI) jCl [(cA, .int)] (jW cA A B M (jfu F 5 ((F 5) + x3))) Ap s H locs := ⟨hJ.1, hP, hD, hS⟩
        refine lv_aload_n hx hb dRu_goTo_97 rfl (lv_at hl 1 rfl) ?_
        refine va_get (D := (dC, dI)) (ci := 1) (v := .ref (A 5)) (C := RRu) (T := TRu) (N := 11) hx hb hj iRu hown hJ.1 hJ.2.1 1 rfl rfl 1 (by decide) (hj _ jw_143) (fun _ h9 => h9) rfl dRu_goTo_98 ?_
        refine lv_iload hx hb dRu_goTo_101 (lv_at hl 0 rfl) ?_
        obtain ⟨q15, hq15, h⟩ := jbi_h h
        refine jcalli (w' := fun B => jW cA A B M (jfu F 5 ((F 5) + x3))) (va_runV (As := [.int (M 23 x5.toNatClampNeg)]) (rest := []) ⟨hx, hb, hml, hown, hts⟩ (cSi_letThrough l dC dI cA A (M 23 x5.toNatClampNeg) M (jfu F 5 ((F 5) + x3)) B H.size hq15) (cwV 1 hts (jgoodV jw_557 jw_558 jw_559 jw_6 jw_560) rfl rfl rfl (by decide +kernel) ⟨Nat.le_of_ble_eq_true rfl, Nat.le_of_ble_eq_true rfl⟩) (jpreV hN hJ (ci := 5) (q0 := 5) rfl rfl) rfl rfl hl.1 rfl (lv_room (Nat.le_of_ble_eq_true rfl)) dRu_goTo_103 ⟨Nat.zero_le _, Nat.zero_le _⟩) hA hJ (fun B H locs hJ => ?_)
        refine lv_istore (lv' := [(7, .int q15), (6, .int (M 23 x5.toNatClampNeg)), (0, .ref (A 1)), (1, .int x1), (2, .int x2), (3, .int x3), (4, .int x4), (5, .int x5)]) hx hb dRu_goTo_106 hl (by decide) rfl (fun ls hl => ?_)
        refine lv_iload hx hb dRu_goTo_108 (lv_at hl 6 rfl) ?_
        refine lv_iload hx hb dRu_goTo_110 (lv_at hl 0 rfl) ?_
        obtain ⟨q16, hq16, h⟩ := jbi_h h
        refine jcalli (w' := fun B => jW cA A B M (jfu F 5 ((F 5) + x3))) (va_runS (As := [.int q15]) (rest := [.int x4]) ⟨hx, hb, hml, hown, hts⟩ (cIn_bitCount l dC dI cA A q15 M (jfu F 5 ((F 5) + x3)) B H.size hq16) (va_cwS 1 hts (jgoodS jw_551 jw_552 jw_15 jw_553) rfl rfl rfl (by decide +kernel) ⟨Nat.le_of_ble_eq_true rfl, Nat.le_of_ble_eq_true rfl⟩) (jpreS hN hJ) rfl rfl hl.1 rfl (lv_room (Nat.le_of_ble_eq_true rfl)) dRu_goTo_112 ⟨Nat.zero_le _, Nat.zero_le _⟩) hA hJ (fun B H locs hJ => ?_)
        refine lv_iadd hx hb dRu_goTo_115 ?_
        refine lv_sipush (v := 3000) hx hb dRu_goTo_116 (by decide) ?_
        refine lv_icmp_le (tgt := 124) hx hb dRu_goTo_119 (by decide) (fun c17 => ?_) (fun c17 => ?_)
        · replace h := jif_t c17 h
          refine lv_aload_n hx hb dRu_goTo_124 rfl (lv_at hl 2 rfl) ?_
          refine lv_iload hx hb dRu_goTo_125 (lv_at hl 1 rfl) ?_
          refine lv_iload_n hx hb dRu_goTo_127 rfl (lv_at hl 3 rfl) ?_
          refine lv_iload hx hb dRu_goTo_128 (lv_at hl 0 rfl) ?_
          refine lv_iload hx hb dRu_goTo_130 (lv_at hl 6 rfl) ?_
          obtain ⟨q18, hq18, h⟩ := jbi_h h
          refine jcalli (w' := fun B => jW cA A B q18.2.1 q18.2.2) (va_runV (As := [.int (M 23 x5.toNatClampNeg), .int x1, .int q15, .int x4]) (rest := []) ⟨hx, hb, hml, hown, hts⟩ (cRu_extend l dC dI cA A (M 23 x5.toNatClampNeg) x1 q15 x4 M (jfu F 5 ((F 5) + x3)) B H.size hq18) (cwV 4 hts (jgoodV jw_562 jw_564 jws_13 jw_2 jw_565) rfl rfl rfl (by decide +kernel) ⟨Nat.le_of_ble_eq_true rfl, Nat.le_of_ble_eq_true rfl⟩) (jpreV hN hJ (ci := 1) (q0 := 1) rfl rfl) rfl rfl hl.1 rfl (lv_room (Nat.le_of_ble_eq_true rfl)) dRu_goTo_132 ⟨Nat.zero_le _, Nat.zero_le _⟩) hA hJ (fun B19 H locs hJ => ?_)
          refine lv_istore (lv' := [(4, .int q18.1), (7, .int q15), (6, .int (M 23 x5.toNatClampNeg)), (0, .ref (A 1)), (1, .int x1), (2, .int x2), (3, .int x3), (5, .int x5)]) hx hb dRu_goTo_135 hl (by decide) rfl (fun ls hl => ?_)
          refine lv_iinc (v := x5 + 1) (lv' := [(5, .int (x5 + 1)), (4, .int q18.1), (7, .int q15), (6, .int (M 23 x5.toNatClampNeg)), (0, .ref (A 1)), (1, .int x1), (2, .int x2), (3, .int x3)]) hx hb dRu_goTo_137 hl (k := 7) rfl rfl (by decide) rfl (fun ls hl => ?_)
          refine lv_goto (tgt := 48) hx hb dRu_goTo_140 (by decide) ?_
          exact ih _ _ _ _ _ _ _ _ _ _ _ hJ (lv_sub hl [4, 5, 6, 7, 1, 0] rfl) h
        · replace h := jif_f c17 h
          refine lv_iconst (v := 0) hx hb dRu_goTo_122 (by decide) ?_
          cases h
          exact jreti (u := B) hx hb hr rfl hlocks hJ dRu_goTo_123 rfl
set_option maxHeartbeats 4000000 in
set_option maxRecDepth 100000 in
theorem uRu_goTo_42 {p : Program} {e : Env} {s : State} {m : MethodId} {args : Array Value} {below : List Frame} {meth : Method} {c : Code} (l : Launch) (dC : Nat → ClassId) (dI : Nat → Nat → Nat) (cA : ClassId) (A : Nat → Nat) (Ap : Nat → Prop) (hC : jAt p s m args meth c bRu_goTo 8 (some .boolean) wRu_goTo RRu) (hA : ∀ q : Nat, s.heap.size ≤ q → Ap q) {r : Int32} {M' : jM} {F' : jF} : ∀ (x1 x2 x3 : Int32) (M : jM) (F : jF) (B : Nat → Nat) (H : Heap) (locs : List Loc) (ls : Array Slot), jH (dC, dI) jCl [(cA, .int)] (jW cA A B M F) Ap s H locs → lv_has ls 8 [(0, .ref (A 1)), (1, .int x1), (2, .int x2), (3, .int x3)] → fRu_goTo_42 x1 x2 x3 M F = some (r, M', F') → W p l e (headSpec wRu_goTo rRu_goTo).room s m args below meth c H locs 0 0 (jQi below (dC, dI) jCl [(cA, .int)] (fun B => jW cA A B (M') (F')) Ap args s r) (F0 m 42 ls []) := by
  obtain ⟨hx, hb, hml, hr, hts, hown, hlocks, hN⟩ := id hC
  have hj : ∀ w ∈ jw, w.before args s = true := fun w h => hts w (List.mem_cons_of_mem _ h)
  intro x1 x2 x3 M F B H locs ls hJ hl h
  unfold fRu_goTo_42 at h
  refine lv_iconst (v := 0) hx hb dRu_goTo_42 (by decide) ?_
  refine lv_istore (lv' := [(4, .int 0), (0, .ref (A 1)), (1, .int x1), (2, .int x2), (3, .int x3)]) hx hb dRu_goTo_43 hl (by decide) rfl (fun ls hl => ?_)
  refine lv_iconst (v := 0) hx hb dRu_goTo_45 (by decide) ?_
  refine lv_istore (lv' := [(5, .int 0), (4, .int 0), (0, .ref (A 1)), (1, .int x1), (2, .int x2), (3, .int x3)]) hx hb dRu_goTo_46 hl (by decide) rfl (fun ls hl => ?_)
  exact uRu_goTo_48 l dC dI cA A Ap hC hA jfuel _ _ _ _ _ _ _ _ _ _ _ hJ (lv_sub hl [2, 3, 4, 5, 1, 0] rfl) h
set_option maxHeartbeats 4000000 in
set_option maxRecDepth 100000 in
theorem uRu_goTo_0 {p : Program} {e : Env} {s : State} {m : MethodId} {args : Array Value} {below : List Frame} {meth : Method} {c : Code} (l : Launch) (dC : Nat → ClassId) (dI : Nat → Nat → Nat) (cA : ClassId) (A : Nat → Nat) (Ap : Nat → Prop) (hC : jAt p s m args meth c bRu_goTo 8 (some .boolean) wRu_goTo RRu) (hA : ∀ q : Nat, s.heap.size ≤ q → Ap q) {r : Int32} {M' : jM} {F' : jF} : ∀ (x1 x2 : Int32) (M : jM) (F : jF) (B : Nat → Nat) (H : Heap) (locs : List Loc) (ls : Array Slot), jH (dC, dI) jCl [(cA, .int)] (jW cA A B M F) Ap s H locs → lv_has ls 8 [(0, .ref (A 1)), (1, .int x1), (2, .int x2)] → fRu_goTo_0 x1 x2 M F = some (r, M', F') → W p l e (headSpec wRu_goTo rRu_goTo).room s m args below meth c H locs 0 0 (jQi below (dC, dI) jCl [(cA, .int)] (fun B => jW cA A B (M') (F')) Ap args s r) (F0 m 0 ls []) := by
  obtain ⟨hx, hb, hml, hr, hts, hown, hlocks, hN⟩ := id hC
  have hj : ∀ w ∈ jw, w.before args s = true := fun w h => hts w (List.mem_cons_of_mem _ h)
  intro x1 x2 M F B H locs ls hJ hl h
  unfold fRu_goTo_0 at h
  refine lv_aload_n hx hb dRu_goTo_0 rfl (lv_at hl 0 rfl) ?_
  refine va_get (D := (dC, dI)) (ci := 1) (v := .ref (A 2)) (C := RRu) (T := TRu) (N := 11) hx hb hj iRu hown hJ.1 hJ.2.1 1 rfl rfl 0 (by decide) (hj _ jw_141) (fun _ h9 => h9) rfl dRu_goTo_1 ?_
  refine va_getN (D := (dC, dI)) (ci := 2) (v := .ref (A 3)) (C := RPl) (T := TPl) (N := 4) hx hb hj iPl hown hJ.1 hJ.2.1 2 rfl rfl 0 (by decide) (jnw_use hN jnw_13) (fun _ h9 => h9) rfl dRu_goTo_4 ?_
  refine lv_iload_n hx hb dRu_goTo_7 rfl (lv_at hl 1 rfl) ?_
  obtain ⟨q1, hq1, h⟩ := jbi_h h
  refine jcalli (w' := fun B => jW cA A B M F) (va_runV (As := [.int x1]) (rest := []) ⟨hx, hb, hml, hown, hts⟩ (cQu_rowsOf l dC dI cA A x1 M F B H.size hq1) (cwV 1 hts (jgoodV jw_542 jw_420 jw_421 jw_4 jw_422) rfl rfl rfl (by decide +kernel) ⟨Nat.le_of_ble_eq_true rfl, Nat.le_of_ble_eq_true rfl⟩) (jpreV hN hJ (ci := 3) (q0 := 3) rfl rfl) rfl rfl hl.1 rfl (lv_room (Nat.le_of_ble_eq_true rfl)) dRu_goTo_8 ⟨Nat.zero_le _, Nat.zero_le _⟩) hA hJ (fun B H locs hJ => ?_)
  refine lv_istore_n (lv' := [(3, .int q1), (0, .ref (A 1)), (1, .int x1), (2, .int x2)]) hx hb dRu_goTo_11 rfl hl (by decide) rfl (fun ls hl => ?_)
  refine lv_iload_n hx hb dRu_goTo_12 rfl (lv_at hl 3 rfl) ?_
  refine lv_iconst (v := (-1)) hx hb dRu_goTo_13 (by decide) ?_
  refine lv_icmp_eq (tgt := 42) hx hb dRu_goTo_14 (by decide) (fun c2 => ?_) (fun c2 => ?_)
  · replace h := jif_t c2 h
    exact uRu_goTo_42 l dC dI cA A Ap hC hA _ _ _ _ _ _ _ _ _ hJ (lv_sub hl [1, 2, 3, 0] rfl) h
  · replace h := jif_f c2 h
    refine lv_aload_n hx hb dRu_goTo_17 rfl (lv_at hl 1 rfl) ?_
    refine va_get (D := (dC, dI)) (ci := 1) (v := .ref (A 2)) (C := RRu) (T := TRu) (N := 11) hx hb hj iRu hown hJ.1 hJ.2.1 1 rfl rfl 0 (by decide) (hj _ jw_141) (fun _ h9 => h9) rfl dRu_goTo_18 ?_
    refine va_getN (D := (dC, dI)) (ci := 2) (v := .ref (A 3)) (C := RPl) (T := TPl) (N := 4) hx hb hj iPl hown hJ.1 hJ.2.1 2 rfl rfl 0 (by decide) (jnw_use hN jnw_13) (fun _ h9 => h9) rfl dRu_goTo_21 ?_
    refine lv_iload_n hx hb dRu_goTo_24 rfl (lv_at hl 3 rfl) ?_
    refine lv_iload_n hx hb dRu_goTo_25 rfl (lv_at hl 2 rfl) ?_
    obtain ⟨q20, hq20, h⟩ := jbi_h h
    refine jcalli (w' := fun B => jW cA A B M F) (va_runV (As := [.int x2, .int x1]) (rest := []) ⟨hx, hb, hml, hown, hts⟩ (cQu_tellsByIndex l dC dI cA A x2 x1 M F B H.size hq20) (cwV 2 hts (jgoodV jw_543 jw_484 jw_485 jw_4 jw_486) rfl rfl rfl (by decide +kernel) ⟨Nat.le_of_ble_eq_true rfl, Nat.le_of_ble_eq_true rfl⟩) (jpreV hN hJ (ci := 3) (q0 := 3) rfl rfl) rfl rfl hl.1 rfl (lv_room (Nat.le_of_ble_eq_true rfl)) dRu_goTo_26 ⟨Nat.zero_le _, Nat.zero_le _⟩) hA hJ (fun B H locs hJ => ?_)
    refine lv_if_ne (tgt := 42) hx hb dRu_goTo_29 (by decide) (fun c21 => ?_) (fun c21 => ?_)
    · replace h := jif_f c21 h
      exact uRu_goTo_42 l dC dI cA A Ap hC hA _ _ _ _ _ _ _ _ _ hJ (lv_sub hl [1, 2, 3, 0] rfl) h
    · replace h := jif_t c21 h
      refine lv_aload_n hx hb dRu_goTo_32 rfl (lv_at hl 1 rfl) ?_
      refine lv_dup hx hb dRu_goTo_33 rfl ?_
      refine va_get (D := (dC, dI)) (ci := 1) (v := .int (F 5)) (C := RRu) (T := TRu) (N := 11) hx hb hj iRu hown hJ.1 hJ.2.1 1 rfl rfl 6 (by decide) (hj _ jw_148) (fun _ h9 => h9) rfl dRu_goTo_34 ?_
      refine lv_iload_n hx hb dRu_goTo_37 rfl (lv_at hl 0 rfl) ?_
      refine lv_iadd hx hb dRu_goTo_38 ?_
      refine va_put (D := (dC, dI)) (ci := 1) (v := .int ((F 5) + q1)) (ty := .int) (C := RRu) (T := TRu) (N := 11) hx hb hj iRu tRu tRu_ok nRu hown hJ.1 hJ.2.1 hJ.2.2.1 hJ.2.2.2 1 rfl rfl 6 (by decide) (hj _ jw_148) (fun _ h9 => h9) rfl (by decide +kernel) rfl rfl (Nat.le_of_ble_eq_true rfl) dRu_goTo_39 (fun H locs hP hD hS => ?_)
      replace hJ : jH (dC, dI) jCl [(cA, .int)] (jW cA A B M (jfu F 5 ((F 5) + q1))) Ap s H locs := ⟨hJ.1, hP, hD, hS⟩
      exact uRu_goTo_42 l dC dI cA A Ap hC hA _ _ _ _ _ _ _ _ _ hJ (lv_sub hl [1, 2, 3, 0] rfl) h
set_option maxHeartbeats 4000000 in
set_option maxRecDepth 100000 in
theorem cRu_goTo (l : Launch) (dC : Nat → ClassId) (dI : Nat → Nat → Nat) (cA : ClassId) (A : Nat → Nat) (x1 : Int32) (x2 : Int32) (M : jM) (F : jF) (B : Nat → Nat) (sz : Nat) {r : Int32} {M' : jM} {F' : jF} (h : fRu_goTo x1 x2 M F = some (r, M', F')) : jCi l yRu_goTo wRu_goTo rRu_goTo (dC, dI) jCl [(cA, .int)] [.ref (A 1), .int x1, .int x2] (jW cA A B M F) sz r (fun B => jW cA A B (M') (F')) :=
  jOf (Qc := fun Ap => va_Qi (fun q (_ : Nat → Nat) => q = r) (jPost (dC, dI) jCl [(cA, .int)] (fun B => jW cA A B (M') (F')) Ap) Ap) (by decide) rfl (Nat.le_of_ble_eq_true rfl) (fun p e s m below meth c Ap ls hC hA hJ hl => uRu_goTo_0 l dC dI cA A Ap hC hA _ _ _ _ _ _ _ _ hJ (lv_sub hl [0, 1, 2] rfl) h)
abbrev bRu_sortBy : ByteArray := prog_4_method_6_code
abbrev yRu_sortBy : MethodName := ⟨RRu, "sortBy", "(I)V"⟩
abbrev wRu_sortBy : List Cond := .code yRu_sortBy bRu_sortBy 4 none :: jw
theorem dRu_sortBy_0 : decode bRu_sortBy 0 = .ok (.aload_n 0, 1) := by decide +kernel
theorem dRu_sortBy_1 : decode bRu_sortBy 1 = .ok (.getfield 32, 3) := by decide +kernel
theorem dRu_sortBy_4 : decode bRu_sortBy 4 = .ok (.iconst 0, 1) := by decide +kernel
theorem dRu_sortBy_5 : decode bRu_sortBy 5 = .ok (.invokestatic 116, 3) := by decide +kernel
theorem dRu_sortBy_8 : decode bRu_sortBy 8 = .ok (.iconst 0, 1) := by decide +kernel
theorem dRu_sortBy_9 : decode bRu_sortBy 9 = .ok (.istore_n 2, 1) := by decide +kernel
theorem dRu_sortBy_10 : decode bRu_sortBy 10 = .ok (.iload_n 2, 1) := by decide +kernel
theorem dRu_sortBy_11 : decode bRu_sortBy 11 = .ok (.aload_n 0, 1) := by decide +kernel
theorem dRu_sortBy_12 : decode bRu_sortBy 12 = .ok (.getfield 35, 3) := by decide +kernel
theorem dRu_sortBy_15 : decode bRu_sortBy 15 = .ok (.if_icmp .ge 30, 3) := by decide +kernel
theorem dRu_sortBy_18 : decode bRu_sortBy 18 = .ok (.aload_n 0, 1) := by decide +kernel
theorem dRu_sortBy_19 : decode bRu_sortBy 19 = .ok (.getfield 32, 3) := by decide +kernel
theorem dRu_sortBy_22 : decode bRu_sortBy 22 = .ok (.aload_n 0, 1) := by decide +kernel
theorem dRu_sortBy_23 : decode bRu_sortBy 23 = .ok (.getfield 25, 3) := by decide +kernel
theorem dRu_sortBy_26 : decode bRu_sortBy 26 = .ok (.iload_n 2, 1) := by decide +kernel
theorem dRu_sortBy_27 : decode bRu_sortBy 27 = .ok (.iaload, 1) := by decide +kernel
theorem dRu_sortBy_28 : decode bRu_sortBy 28 = .ok (.iload_n 1, 1) := by decide +kernel
theorem dRu_sortBy_29 : decode bRu_sortBy 29 = .ok (.invokestatic 122, 3) := by decide +kernel
theorem dRu_sortBy_32 : decode bRu_sortBy 32 = .ok (.iconst 1, 1) := by decide +kernel
theorem dRu_sortBy_33 : decode bRu_sortBy 33 = .ok (.iadd, 1) := by decide +kernel
theorem dRu_sortBy_34 : decode bRu_sortBy 34 = .ok (.dup2, 1) := by decide +kernel
theorem dRu_sortBy_35 : decode bRu_sortBy 35 = .ok (.iaload, 1) := by decide +kernel
theorem dRu_sortBy_36 : decode bRu_sortBy 36 = .ok (.iconst 1, 1) := by decide +kernel
theorem dRu_sortBy_37 : decode bRu_sortBy 37 = .ok (.iadd, 1) := by decide +kernel
theorem dRu_sortBy_38 : decode bRu_sortBy 38 = .ok (.iastore, 1) := by decide +kernel
theorem dRu_sortBy_39 : decode bRu_sortBy 39 = .ok (.iinc 2 1, 3) := by decide +kernel
theorem dRu_sortBy_42 : decode bRu_sortBy 42 = .ok (.goto (-32), 3) := by decide +kernel
theorem dRu_sortBy_45 : decode bRu_sortBy 45 = .ok (.iconst 0, 1) := by decide +kernel
theorem dRu_sortBy_46 : decode bRu_sortBy 46 = .ok (.istore_n 2, 1) := by decide +kernel
theorem dRu_sortBy_47 : decode bRu_sortBy 47 = .ok (.iload_n 2, 1) := by decide +kernel
theorem dRu_sortBy_48 : decode bRu_sortBy 48 = .ok (.bipush 32, 2) := by decide +kernel
theorem dRu_sortBy_50 : decode bRu_sortBy 50 = .ok (.if_icmp .ge 26, 3) := by decide +kernel
theorem dRu_sortBy_53 : decode bRu_sortBy 53 = .ok (.aload_n 0, 1) := by decide +kernel
theorem dRu_sortBy_54 : decode bRu_sortBy 54 = .ok (.getfield 32, 3) := by decide +kernel
theorem dRu_sortBy_57 : decode bRu_sortBy 57 = .ok (.iload_n 2, 1) := by decide +kernel
theorem dRu_sortBy_58 : decode bRu_sortBy 58 = .ok (.iconst 1, 1) := by decide +kernel
theorem dRu_sortBy_59 : decode bRu_sortBy 59 = .ok (.iadd, 1) := by decide +kernel
theorem dRu_sortBy_60 : decode bRu_sortBy 60 = .ok (.dup2, 1) := by decide +kernel
theorem dRu_sortBy_61 : decode bRu_sortBy 61 = .ok (.iaload, 1) := by decide +kernel
theorem dRu_sortBy_62 : decode bRu_sortBy 62 = .ok (.aload_n 0, 1) := by decide +kernel
theorem dRu_sortBy_63 : decode bRu_sortBy 63 = .ok (.getfield 32, 3) := by decide +kernel
theorem dRu_sortBy_66 : decode bRu_sortBy 66 = .ok (.iload_n 2, 1) := by decide +kernel
theorem dRu_sortBy_67 : decode bRu_sortBy 67 = .ok (.iaload, 1) := by decide +kernel
theorem dRu_sortBy_68 : decode bRu_sortBy 68 = .ok (.iadd, 1) := by decide +kernel
theorem dRu_sortBy_69 : decode bRu_sortBy 69 = .ok (.iastore, 1) := by decide +kernel
theorem dRu_sortBy_70 : decode bRu_sortBy 70 = .ok (.iinc 2 1, 3) := by decide +kernel
theorem dRu_sortBy_73 : decode bRu_sortBy 73 = .ok (.goto (-26), 3) := by decide +kernel
theorem dRu_sortBy_76 : decode bRu_sortBy 76 = .ok (.iconst 0, 1) := by decide +kernel
theorem dRu_sortBy_77 : decode bRu_sortBy 77 = .ok (.istore_n 2, 1) := by decide +kernel
theorem dRu_sortBy_78 : decode bRu_sortBy 78 = .ok (.iload_n 2, 1) := by decide +kernel
theorem dRu_sortBy_79 : decode bRu_sortBy 79 = .ok (.aload_n 0, 1) := by decide +kernel
theorem dRu_sortBy_80 : decode bRu_sortBy 80 = .ok (.getfield 35, 3) := by decide +kernel
theorem dRu_sortBy_83 : decode bRu_sortBy 83 = .ok (.if_icmp .ge 47, 3) := by decide +kernel
theorem dRu_sortBy_86 : decode bRu_sortBy 86 = .ok (.aload_n 0, 1) := by decide +kernel
theorem dRu_sortBy_87 : decode bRu_sortBy 87 = .ok (.getfield 25, 3) := by decide +kernel
theorem dRu_sortBy_90 : decode bRu_sortBy 90 = .ok (.iload_n 2, 1) := by decide +kernel
theorem dRu_sortBy_91 : decode bRu_sortBy 91 = .ok (.iaload, 1) := by decide +kernel
theorem dRu_sortBy_92 : decode bRu_sortBy 92 = .ok (.iload_n 1, 1) := by decide +kernel
theorem dRu_sortBy_93 : decode bRu_sortBy 93 = .ok (.invokestatic 122, 3) := by decide +kernel
theorem dRu_sortBy_96 : decode bRu_sortBy 96 = .ok (.istore_n 3, 1) := by decide +kernel
theorem dRu_sortBy_97 : decode bRu_sortBy 97 = .ok (.aload_n 0, 1) := by decide +kernel
theorem dRu_sortBy_98 : decode bRu_sortBy 98 = .ok (.getfield 29, 3) := by decide +kernel
theorem dRu_sortBy_101 : decode bRu_sortBy 101 = .ok (.aload_n 0, 1) := by decide +kernel
theorem dRu_sortBy_102 : decode bRu_sortBy 102 = .ok (.getfield 32, 3) := by decide +kernel
theorem dRu_sortBy_105 : decode bRu_sortBy 105 = .ok (.iload_n 3, 1) := by decide +kernel
theorem dRu_sortBy_106 : decode bRu_sortBy 106 = .ok (.iaload, 1) := by decide +kernel
theorem dRu_sortBy_107 : decode bRu_sortBy 107 = .ok (.aload_n 0, 1) := by decide +kernel
theorem dRu_sortBy_108 : decode bRu_sortBy 108 = .ok (.getfield 25, 3) := by decide +kernel
theorem dRu_sortBy_111 : decode bRu_sortBy 111 = .ok (.iload_n 2, 1) := by decide +kernel
theorem dRu_sortBy_112 : decode bRu_sortBy 112 = .ok (.iaload, 1) := by decide +kernel
theorem dRu_sortBy_113 : decode bRu_sortBy 113 = .ok (.iastore, 1) := by decide +kernel
theorem dRu_sortBy_114 : decode bRu_sortBy 114 = .ok (.aload_n 0, 1) := by decide +kernel
theorem dRu_sortBy_115 : decode bRu_sortBy 115 = .ok (.getfield 32, 3) := by decide +kernel
theorem dRu_sortBy_118 : decode bRu_sortBy 118 = .ok (.iload_n 3, 1) := by decide +kernel
theorem dRu_sortBy_119 : decode bRu_sortBy 119 = .ok (.dup2, 1) := by decide +kernel
theorem dRu_sortBy_120 : decode bRu_sortBy 120 = .ok (.iaload, 1) := by decide +kernel
theorem dRu_sortBy_121 : decode bRu_sortBy 121 = .ok (.iconst 1, 1) := by decide +kernel
theorem dRu_sortBy_122 : decode bRu_sortBy 122 = .ok (.iadd, 1) := by decide +kernel
theorem dRu_sortBy_123 : decode bRu_sortBy 123 = .ok (.iastore, 1) := by decide +kernel
theorem dRu_sortBy_124 : decode bRu_sortBy 124 = .ok (.iinc 2 1, 3) := by decide +kernel
theorem dRu_sortBy_127 : decode bRu_sortBy 127 = .ok (.goto (-49), 3) := by decide +kernel
theorem dRu_sortBy_130 : decode bRu_sortBy 130 = .ok (.aload_n 0, 1) := by decide +kernel
theorem dRu_sortBy_131 : decode bRu_sortBy 131 = .ok (.invokevirtual 113, 3) := by decide +kernel
theorem dRu_sortBy_134 : decode bRu_sortBy 134 = .ok (.return_, 1) := by decide +kernel
abbrev rRu_sortBy : Room := { frames := 1, cells := 0, slots := 0, locals := 23 }
def fRu_sortBy_78 : Nat → Int32 → Int32 → jM → jF → Option (Int32 × jM × jF)
  | 0, _, _, _, _ => none
  | n + 1, x1, x2, M, F => (if (F 4) ≤ x2 then ((fRu_swap M F).bind fun q6 => some (0, q6.2.1, q6.2.2)) else (if jib x2 3000 then ((fJh_rowIn (M 23 x2.toNatClampNeg) x1 M F).bind fun q9 => (if jib q9 33 then (if jib x2 3000 then (if jib (M 25 q9.toNatClampNeg) 3000 then (if jib q9 33 then (if jib q9 33 then fRu_sortBy_78 n x1 (x2 + 1) (jmu (jmu M 24 (M 25 q9.toNatClampNeg).toNatClampNeg (M 23 x2.toNatClampNeg)) 25 q9.toNatClampNeg (((jmu M 24 (M 25 q9.toNatClampNeg).toNatClampNeg (M 23 x2.toNatClampNeg)) 25 q9.toNatClampNeg) + 1)) F else none) else none) else none) else none) else none)) else none))
def fRu_sortBy_47 : Nat → Int32 → Int32 → jM → jF → Option (Int32 × jM × jF)
  | 0, _, _, _, _ => none
  | n + 1, x1, x2, M, F => (if 32 ≤ x2 then fRu_sortBy_78 jfuel x1 0 M F else (if jib (x2 + 1) 33 then (if jib x2 33 then (if jib (x2 + 1) 33 then fRu_sortBy_47 n x1 (x2 + 1) (jmu M 25 (x2 + 1).toNatClampNeg ((M 25 (x2 + 1).toNatClampNeg) + (M 25 x2.toNatClampNeg))) F else none) else none) else none))
def fRu_sortBy_10 : Nat → Int32 → Int32 → jM → jF → Option (Int32 × jM × jF)
  | 0, _, _, _, _ => none
  | n + 1, x1, x2, M, F => (if (F 4) ≤ x2 then fRu_sortBy_47 jfuel x1 0 M F else (if jib x2 3000 then ((fJh_rowIn (M 23 x2.toNatClampNeg) x1 M F).bind fun q19 => (if jib (q19 + 1) 33 then (if jib (q19 + 1) 33 then fRu_sortBy_10 n x1 (x2 + 1) (jmu M 25 (q19 + 1).toNatClampNeg ((M 25 (q19 + 1).toNatClampNeg) + 1)) F else none) else none)) else none))
def fRu_sortBy_0 (x1 : Int32) (M : jM) (F : jF) : Option (Int32 × jM × jF) := ((fAr_fill 0 M F).bind fun q1 => fRu_sortBy_10 jfuel x1 0 q1.2.1 q1.2.2)
abbrev fRu_sortBy (x1 : Int32) (M : jM) (F : jF) : Option (Int32 × jM × jF) := fRu_sortBy_0 x1 M F
set_option maxHeartbeats 4000000 in
set_option maxRecDepth 100000 in
theorem uRu_sortBy_78 {p : Program} {e : Env} {s : State} {m : MethodId} {args : Array Value} {below : List Frame} {meth : Method} {c : Code} (l : Launch) (dC : Nat → ClassId) (dI : Nat → Nat → Nat) (cA : ClassId) (A : Nat → Nat) (Ap : Nat → Prop) (hC : jAt p s m args meth c bRu_sortBy 4 none wRu_sortBy RRu) (hA : ∀ q : Nat, s.heap.size ≤ q → Ap q) {r : Int32} {M' : jM} {F' : jF} : ∀ (n : Nat) (x1 x2 : Int32) (M : jM) (F : jF) (B : Nat → Nat) (H : Heap) (locs : List Loc) (ls : Array Slot), jH (dC, dI) jCl [(cA, .int)] (jW cA A B M F) Ap s H locs → lv_has ls 4 [(0, .ref (A 1)), (1, .int x1), (2, .int x2)] → fRu_sortBy_78 n x1 x2 M F = some (r, M', F') → W p l e (headSpec wRu_sortBy rRu_sortBy).room s m args below meth c H locs 0 0 (jQv below (dC, dI) jCl [(cA, .int)] (fun B => jW cA A B (M') (F')) Ap args s) (F0 m 78 ls []) := by
  obtain ⟨hx, hb, hml, hr, hts, hown, hlocks, hN⟩ := id hC
  have hj : ∀ w ∈ jw, w.before args s = true := fun w h => hts w (List.mem_cons_of_mem _ h)
  intro n
  induction n with
  | zero =>
    intro x1 x2 M F B H locs ls hJ hl h
    rw [fRu_sortBy_78] at h
    cases h
  | succ n ih =>
    intro x1 x2 M F B H locs ls hJ hl h
    rw [fRu_sortBy_78] at h
    refine lv_iload_n hx hb dRu_sortBy_78 rfl (lv_at hl 2 rfl) ?_
    refine lv_aload_n hx hb dRu_sortBy_79 rfl (lv_at hl 0 rfl) ?_
    refine va_get (D := (dC, dI)) (ci := 1) (v := .int (F 4)) (C := RRu) (T := TRu) (N := 11) hx hb hj iRu hown hJ.1 hJ.2.1 1 rfl rfl 5 (by decide) (hj _ jw_147) (fun _ h9 => h9) rfl dRu_sortBy_80 ?_
    refine lv_icmp_ge (tgt := 130) hx hb dRu_sortBy_83 (by decide) (fun c5 => ?_) (fun c5 => ?_)
    · replace h := jif_t c5 h
      refine lv_aload_n hx hb dRu_sortBy_130 rfl (lv_at hl 0 rfl) ?_
      obtain ⟨q6, hq6, h⟩ := jbi_h h
      refine jcallv (w' := fun B => jW cA A B q6.2.1 q6.2.2) (va_runV (As := []) (rest := []) ⟨hx, hb, hml, hown, hts⟩ (cRu_swap l dC dI cA A M F B H.size hq6) (cwV 0 hts (jgoodV jw_566 jw_568 jws_14 jw_2 jw_569) rfl rfl rfl (by decide +kernel) ⟨Nat.le_of_ble_eq_true rfl, Nat.le_of_ble_eq_true rfl⟩) (jpreV hN hJ (ci := 1) (q0 := 1) rfl rfl) rfl rfl hl.1 rfl (lv_room (Nat.le_of_ble_eq_true rfl)) dRu_sortBy_131 ⟨Nat.zero_le _, Nat.zero_le _⟩) hA hJ (fun B7 H locs hJ => ?_)
      cases h
      exact jretv (u := B7) hx hb hr hlocks hJ dRu_sortBy_134
    · replace h := jif_f c5 h
      refine lv_aload_n hx hb dRu_sortBy_86 rfl (lv_at hl 0 rfl) ?_
      refine va_get (D := (dC, dI)) (ci := 1) (v := .ref (B 0)) (C := RRu) (T := TRu) (N := 11) hx hb hj iRu hown hJ.1 hJ.2.1 1 rfl rfl 2 (by decide) (hj _ jw_144) (fun _ h9 => h9) rfl dRu_sortBy_87 ?_
      refine lv_iload_n hx hb dRu_sortBy_90 rfl (lv_at hl 2 rfl) ?_
      obtain ⟨hi8, h⟩ := jib_h h
      refine jald_23 hx hb hJ hi8 dRu_sortBy_91 ?_
      refine lv_iload_n hx hb dRu_sortBy_92 rfl (lv_at hl 1 rfl) ?_
      obtain ⟨q9, hq9, h⟩ := jbi_h h
      refine jcalli (w' := fun B => jW cA A B M F) (va_runSN (As := [.int (M 23 x2.toNatClampNeg), .int x1]) (rest := []) ⟨hx, hb, hml, hown, hts⟩ (cJh_rowIn l dC dI cA A (M 23 x2.toNatClampNeg) x1 M F B H.size hq9) ⟨va_cnB 2 hts (jgood jw_550) rfl rfl rfl (hN _ jnw_24) (hj _ jw_1) (by decide +kernel) ⟨Nat.le_of_ble_eq_true rfl, Nat.le_of_ble_eq_true rfl⟩, hj _ jw_549, trivial⟩ (jpreS hN hJ) rfl rfl hl.1 rfl (lv_room (Nat.le_of_ble_eq_true rfl)) dRu_sortBy_93 ⟨Nat.zero_le _, Nat.zero_le _⟩) hA hJ (fun B H locs hJ => ?_)
      refine lv_istore_n (lv' := [(3, .int q9), (0, .ref (A 1)), (1, .int x1), (2, .int x2)]) hx hb dRu_sortBy_96 rfl hl (by decide) rfl (fun ls hl => ?_)
      refine lv_aload_n hx hb dRu_sortBy_97 rfl (lv_at hl 1 rfl) ?_
      refine va_get (D := (dC, dI)) (ci := 1) (v := .ref (B 1)) (C := RRu) (T := TRu) (N := 11) hx hb hj iRu hown hJ.1 hJ.2.1 1 rfl rfl 3 (by decide) (hj _ jw_145) (fun _ h9 => h9) rfl dRu_sortBy_98 ?_
      refine lv_aload_n hx hb dRu_sortBy_101 rfl (lv_at hl 1 rfl) ?_
      refine va_get (D := (dC, dI)) (ci := 1) (v := .ref (A 25)) (C := RRu) (T := TRu) (N := 11) hx hb hj iRu hown hJ.1 hJ.2.1 1 rfl rfl 4 (by decide) (hj _ jw_146) (fun _ h9 => h9) rfl dRu_sortBy_102 ?_
      refine lv_iload_n hx hb dRu_sortBy_105 rfl (lv_at hl 0 rfl) ?_
      obtain ⟨hi10, h⟩ := jib_h h
      refine jald_25 hx hb hJ hi10 dRu_sortBy_106 ?_
      refine lv_aload_n hx hb dRu_sortBy_107 rfl (lv_at hl 1 rfl) ?_
      refine va_get (D := (dC, dI)) (ci := 1) (v := .ref (B 0)) (C := RRu) (T := TRu) (N := 11) hx hb hj iRu hown hJ.1 hJ.2.1 1 rfl rfl 2 (by decide) (hj _ jw_144) (fun _ h9 => h9) rfl dRu_sortBy_108 ?_
      refine lv_iload_n hx hb dRu_sortBy_111 rfl (lv_at hl 3 rfl) ?_
      obtain ⟨hi11, h⟩ := jib_h h
      refine jald_23 hx hb hJ hi11 dRu_sortBy_112 ?_
      obtain ⟨hi12, h⟩ := jib_h h
      refine jast_24 hx hb hJ hi12 dRu_sortBy_113 (fun H locs hJ => ?_)
      refine lv_aload_n hx hb dRu_sortBy_114 rfl (lv_at hl 1 rfl) ?_
      refine va_get (D := (dC, dI)) (ci := 1) (v := .ref (A 25)) (C := RRu) (T := TRu) (N := 11) hx hb hj iRu hown hJ.1 hJ.2.1 1 rfl rfl 4 (by decide) (hj _ jw_146) (fun _ h9 => h9) rfl dRu_sortBy_115 ?_
      refine lv_iload_n hx hb dRu_sortBy_118 rfl (lv_at hl 0 rfl) ?_
      refine lv_dup2_11 hx hb dRu_sortBy_119 rfl rfl ?_
      obtain ⟨hi13, h⟩ := jib_h h
      refine jald_25 hx hb hJ hi13 dRu_sortBy_120 ?_
      refine lv_iconst (v := 1) hx hb dRu_sortBy_121 (by decide) ?_
      refine lv_iadd hx hb dRu_sortBy_122 ?_
      obtain ⟨hi14, h⟩ := jib_h h
      refine jast_25 hx hb hJ hi14 dRu_sortBy_123 (fun H locs hJ => ?_)
      refine lv_iinc (v := x2 + 1) (lv' := [(2, .int (x2 + 1)), (3, .int q9), (0, .ref (A 1)), (1, .int x1)]) hx hb dRu_sortBy_124 hl (k := 3) rfl rfl (by decide) rfl (fun ls hl => ?_)
      refine lv_goto (tgt := 78) hx hb dRu_sortBy_127 (by decide) ?_
      exact ih _ _ _ _ _ _ _ _ hJ (lv_sub hl [2, 3, 0] rfl) h
set_option maxHeartbeats 4000000 in
set_option maxRecDepth 100000 in
theorem uRu_sortBy_47 {p : Program} {e : Env} {s : State} {m : MethodId} {args : Array Value} {below : List Frame} {meth : Method} {c : Code} (l : Launch) (dC : Nat → ClassId) (dI : Nat → Nat → Nat) (cA : ClassId) (A : Nat → Nat) (Ap : Nat → Prop) (hC : jAt p s m args meth c bRu_sortBy 4 none wRu_sortBy RRu) (hA : ∀ q : Nat, s.heap.size ≤ q → Ap q) {r : Int32} {M' : jM} {F' : jF} : ∀ (n : Nat) (x1 x2 : Int32) (M : jM) (F : jF) (B : Nat → Nat) (H : Heap) (locs : List Loc) (ls : Array Slot), jH (dC, dI) jCl [(cA, .int)] (jW cA A B M F) Ap s H locs → lv_has ls 4 [(0, .ref (A 1)), (1, .int x1), (2, .int x2)] → fRu_sortBy_47 n x1 x2 M F = some (r, M', F') → W p l e (headSpec wRu_sortBy rRu_sortBy).room s m args below meth c H locs 0 0 (jQv below (dC, dI) jCl [(cA, .int)] (fun B => jW cA A B (M') (F')) Ap args s) (F0 m 47 ls []) := by
  obtain ⟨hx, hb, hml, hr, hts, hown, hlocks, hN⟩ := id hC
  have hj : ∀ w ∈ jw, w.before args s = true := fun w h => hts w (List.mem_cons_of_mem _ h)
  intro n
  induction n with
  | zero =>
    intro x1 x2 M F B H locs ls hJ hl h
    rw [fRu_sortBy_47] at h
    cases h
  | succ n ih =>
    intro x1 x2 M F B H locs ls hJ hl h
    rw [fRu_sortBy_47] at h
    refine lv_iload_n hx hb dRu_sortBy_47 rfl (lv_at hl 2 rfl) ?_
    refine lv_bipush (v := 32) hx hb dRu_sortBy_48 (by decide) ?_
    refine lv_icmp_ge (tgt := 76) hx hb dRu_sortBy_50 (by decide) (fun c4 => ?_) (fun c4 => ?_)
    · replace h := jif_t c4 h
      refine lv_iconst (v := 0) hx hb dRu_sortBy_76 (by decide) ?_
      refine lv_istore_n (lv' := [(2, .int 0), (0, .ref (A 1)), (1, .int x1)]) hx hb dRu_sortBy_77 rfl hl (by decide) rfl (fun ls hl => ?_)
      exact uRu_sortBy_78 l dC dI cA A Ap hC hA jfuel _ _ _ _ _ _ _ _ hJ (lv_sub hl [1, 2, 0] rfl) h
    · replace h := jif_f c4 h
      refine lv_aload_n hx hb dRu_sortBy_53 rfl (lv_at hl 0 rfl) ?_
      refine va_get (D := (dC, dI)) (ci := 1) (v := .ref (A 25)) (C := RRu) (T := TRu) (N := 11) hx hb hj iRu hown hJ.1 hJ.2.1 1 rfl rfl 4 (by decide) (hj _ jw_146) (fun _ h9 => h9) rfl dRu_sortBy_54 ?_
      refine lv_iload_n hx hb dRu_sortBy_57 rfl (lv_at hl 2 rfl) ?_
      refine lv_iconst (v := 1) hx hb dRu_sortBy_58 (by decide) ?_
      refine lv_iadd hx hb dRu_sortBy_59 ?_
      refine lv_dup2_11 hx hb dRu_sortBy_60 rfl rfl ?_
      obtain ⟨hi15, h⟩ := jib_h h
      refine jald_25 hx hb hJ hi15 dRu_sortBy_61 ?_
      refine lv_aload_n hx hb dRu_sortBy_62 rfl (lv_at hl 0 rfl) ?_
      refine va_get (D := (dC, dI)) (ci := 1) (v := .ref (A 25)) (C := RRu) (T := TRu) (N := 11) hx hb hj iRu hown hJ.1 hJ.2.1 1 rfl rfl 4 (by decide) (hj _ jw_146) (fun _ h9 => h9) rfl dRu_sortBy_63 ?_
      refine lv_iload_n hx hb dRu_sortBy_66 rfl (lv_at hl 2 rfl) ?_
      obtain ⟨hi16, h⟩ := jib_h h
      refine jald_25 hx hb hJ hi16 dRu_sortBy_67 ?_
      refine lv_iadd hx hb dRu_sortBy_68 ?_
      obtain ⟨hi17, h⟩ := jib_h h
      refine jast_25 hx hb hJ hi17 dRu_sortBy_69 (fun H locs hJ => ?_)
      refine lv_iinc (v := x2 + 1) (lv' := [(2, .int (x2 + 1)), (0, .ref (A 1)), (1, .int x1)]) hx hb dRu_sortBy_70 hl (k := 2) rfl rfl (by decide) rfl (fun ls hl => ?_)
      refine lv_goto (tgt := 47) hx hb dRu_sortBy_73 (by decide) ?_
      exact ih _ _ _ _ _ _ _ _ hJ (lv_sub hl [1, 2, 0] rfl) h
set_option maxHeartbeats 4000000 in
set_option maxRecDepth 100000 in
theorem uRu_sortBy_10 {p : Program} {e : Env} {s : State} {m : MethodId} {args : Array Value} {below : List Frame} {meth : Method} {c : Code} (l : Launch) (dC : Nat → ClassId) (dI : Nat → Nat → Nat) (cA : ClassId) (A : Nat → Nat) (Ap : Nat → Prop) (hC : jAt p s m args meth c bRu_sortBy 4 none wRu_sortBy RRu) (hA : ∀ q : Nat, s.heap.size ≤ q → Ap q) {r : Int32} {M' : jM} {F' : jF} : ∀ (n : Nat) (x1 x2 : Int32) (M : jM) (F : jF) (B : Nat → Nat) (H : Heap) (locs : List Loc) (ls : Array Slot), jH (dC, dI) jCl [(cA, .int)] (jW cA A B M F) Ap s H locs → lv_has ls 4 [(0, .ref (A 1)), (1, .int x1), (2, .int x2)] → fRu_sortBy_10 n x1 x2 M F = some (r, M', F') → W p l e (headSpec wRu_sortBy rRu_sortBy).room s m args below meth c H locs 0 0 (jQv below (dC, dI) jCl [(cA, .int)] (fun B => jW cA A B (M') (F')) Ap args s) (F0 m 10 ls []) := by
  obtain ⟨hx, hb, hml, hr, hts, hown, hlocks, hN⟩ := id hC
  have hj : ∀ w ∈ jw, w.before args s = true := fun w h => hts w (List.mem_cons_of_mem _ h)
  intro n
  induction n with
  | zero =>
    intro x1 x2 M F B H locs ls hJ hl h
    rw [fRu_sortBy_10] at h
    cases h
  | succ n ih =>
    intro x1 x2 M F B H locs ls hJ hl h
    rw [fRu_sortBy_10] at h
    refine lv_iload_n hx hb dRu_sortBy_10 rfl (lv_at hl 2 rfl) ?_
    refine lv_aload_n hx hb dRu_sortBy_11 rfl (lv_at hl 0 rfl) ?_
    refine va_get (D := (dC, dI)) (ci := 1) (v := .int (F 4)) (C := RRu) (T := TRu) (N := 11) hx hb hj iRu hown hJ.1 hJ.2.1 1 rfl rfl 5 (by decide) (hj _ jw_147) (fun _ h9 => h9) rfl dRu_sortBy_12 ?_
    refine lv_icmp_ge (tgt := 45) hx hb dRu_sortBy_15 (by decide) (fun c3 => ?_) (fun c3 => ?_)
    · replace h := jif_t c3 h
      refine lv_iconst (v := 0) hx hb dRu_sortBy_45 (by decide) ?_
      refine lv_istore_n (lv' := [(2, .int 0), (0, .ref (A 1)), (1, .int x1)]) hx hb dRu_sortBy_46 rfl hl (by decide) rfl (fun ls hl => ?_)
      exact uRu_sortBy_47 l dC dI cA A Ap hC hA jfuel _ _ _ _ _ _ _ _ hJ (lv_sub hl [1, 2, 0] rfl) h
    · replace h := jif_f c3 h
      refine lv_aload_n hx hb dRu_sortBy_18 rfl (lv_at hl 0 rfl) ?_
      refine va_get (D := (dC, dI)) (ci := 1) (v := .ref (A 25)) (C := RRu) (T := TRu) (N := 11) hx hb hj iRu hown hJ.1 hJ.2.1 1 rfl rfl 4 (by decide) (hj _ jw_146) (fun _ h9 => h9) rfl dRu_sortBy_19 ?_
      refine lv_aload_n hx hb dRu_sortBy_22 rfl (lv_at hl 0 rfl) ?_
      refine va_get (D := (dC, dI)) (ci := 1) (v := .ref (B 0)) (C := RRu) (T := TRu) (N := 11) hx hb hj iRu hown hJ.1 hJ.2.1 1 rfl rfl 2 (by decide) (hj _ jw_144) (fun _ h9 => h9) rfl dRu_sortBy_23 ?_
      refine lv_iload_n hx hb dRu_sortBy_26 rfl (lv_at hl 2 rfl) ?_
      obtain ⟨hi18, h⟩ := jib_h h
      refine jald_23 hx hb hJ hi18 dRu_sortBy_27 ?_
      refine lv_iload_n hx hb dRu_sortBy_28 rfl (lv_at hl 1 rfl) ?_
      obtain ⟨q19, hq19, h⟩ := jbi_h h
      refine jcalli (w' := fun B => jW cA A B M F) (va_runSN (As := [.int (M 23 x2.toNatClampNeg), .int x1]) (rest := [.ref (A 25)]) ⟨hx, hb, hml, hown, hts⟩ (cJh_rowIn l dC dI cA A (M 23 x2.toNatClampNeg) x1 M F B H.size hq19) ⟨va_cnB 2 hts (jgood jw_550) rfl rfl rfl (hN _ jnw_24) (hj _ jw_1) (by decide +kernel) ⟨Nat.le_of_ble_eq_true rfl, Nat.le_of_ble_eq_true rfl⟩, hj _ jw_549, trivial⟩ (jpreS hN hJ) rfl rfl hl.1 rfl (lv_room (Nat.le_of_ble_eq_true rfl)) dRu_sortBy_29 ⟨Nat.zero_le _, Nat.zero_le _⟩) hA hJ (fun B H locs hJ => ?_)
      refine lv_iconst (v := 1) hx hb dRu_sortBy_32 (by decide) ?_
      refine lv_iadd hx hb dRu_sortBy_33 ?_
      refine lv_dup2_11 hx hb dRu_sortBy_34 rfl rfl ?_
      obtain ⟨hi20, h⟩ := jib_h h
      refine jald_25 hx hb hJ hi20 dRu_sortBy_35 ?_
      refine lv_iconst (v := 1) hx hb dRu_sortBy_36 (by decide) ?_
      refine lv_iadd hx hb dRu_sortBy_37 ?_
      obtain ⟨hi21, h⟩ := jib_h h
      refine jast_25 hx hb hJ hi21 dRu_sortBy_38 (fun H locs hJ => ?_)
      refine lv_iinc (v := x2 + 1) (lv' := [(2, .int (x2 + 1)), (0, .ref (A 1)), (1, .int x1)]) hx hb dRu_sortBy_39 hl (k := 2) rfl rfl (by decide) rfl (fun ls hl => ?_)
      refine lv_goto (tgt := 10) hx hb dRu_sortBy_42 (by decide) ?_
      exact ih _ _ _ _ _ _ _ _ hJ (lv_sub hl [1, 2, 0] rfl) h
set_option maxHeartbeats 4000000 in
set_option maxRecDepth 100000 in
theorem uRu_sortBy_0 {p : Program} {e : Env} {s : State} {m : MethodId} {args : Array Value} {below : List Frame} {meth : Method} {c : Code} (l : Launch) (dC : Nat → ClassId) (dI : Nat → Nat → Nat) (cA : ClassId) (A : Nat → Nat) (Ap : Nat → Prop) (hC : jAt p s m args meth c bRu_sortBy 4 none wRu_sortBy RRu) (hA : ∀ q : Nat, s.heap.size ≤ q → Ap q) {r : Int32} {M' : jM} {F' : jF} : ∀ (x1 : Int32) (M : jM) (F : jF) (B : Nat → Nat) (H : Heap) (locs : List Loc) (ls : Array Slot), jH (dC, dI) jCl [(cA, .int)] (jW cA A B M F) Ap s H locs → lv_has ls 4 [(0, .ref (A 1)), (1, .int x1)] → fRu_sortBy_0 x1 M F = some (r, M', F') → W p l e (headSpec wRu_sortBy rRu_sortBy).room s m args below meth c H locs 0 0 (jQv below (dC, dI) jCl [(cA, .int)] (fun B => jW cA A B (M') (F')) Ap args s) (F0 m 0 ls []) := by
  obtain ⟨hx, hb, hml, hr, hts, hown, hlocks, hN⟩ := id hC
  have hj : ∀ w ∈ jw, w.before args s = true := fun w h => hts w (List.mem_cons_of_mem _ h)
  intro x1 M F B H locs ls hJ hl h
  unfold fRu_sortBy_0 at h
  refine lv_aload_n hx hb dRu_sortBy_0 rfl (lv_at hl 0 rfl) ?_
  refine va_get (D := (dC, dI)) (ci := 1) (v := .ref (A 25)) (C := RRu) (T := TRu) (N := 11) hx hb hj iRu hown hJ.1 hJ.2.1 1 rfl rfl 4 (by decide) (hj _ jw_146) (fun _ h9 => h9) rfl dRu_sortBy_1 ?_
  refine lv_iconst (v := 0) hx hb dRu_sortBy_4 (by decide) ?_
  obtain ⟨q1, hq1, h⟩ := jbi_h h
  refine jcallv (w' := fun B => jW cA A B q1.2.1 q1.2.2) (va_runS (As := [.ref (A 25), .int 0]) (rest := []) ⟨hx, hb, hml, hown, hts⟩ (cAr_fill l dC dI cA A 0 M F B H.size hq1) (va_cwS 2 hts (jgoodS jw_574 jw_575 jw_16 jw_576) rfl rfl rfl (by decide +kernel) ⟨Nat.le_of_ble_eq_true rfl, Nat.le_of_ble_eq_true rfl⟩) (jpreS hN hJ) rfl rfl hl.1 rfl (lv_room (Nat.le_of_ble_eq_true rfl)) dRu_sortBy_5 ⟨Nat.zero_le _, Nat.zero_le _⟩) hA hJ (fun B2 H locs hJ => ?_)
  refine lv_iconst (v := 0) hx hb dRu_sortBy_8 (by decide) ?_
  refine lv_istore_n (lv' := [(2, .int 0), (0, .ref (A 1)), (1, .int x1)]) hx hb dRu_sortBy_9 rfl hl (by decide) rfl (fun ls hl => ?_)
  exact uRu_sortBy_10 l dC dI cA A Ap hC hA jfuel _ _ _ _ _ _ _ _ hJ (lv_sub hl [1, 2, 0] rfl) h
set_option maxHeartbeats 4000000 in
set_option maxRecDepth 100000 in
theorem cRu_sortBy (l : Launch) (dC : Nat → ClassId) (dI : Nat → Nat → Nat) (cA : ClassId) (A : Nat → Nat) (x1 : Int32) (M : jM) (F : jF) (B : Nat → Nat) (sz : Nat) {r : Int32} {M' : jM} {F' : jF} (h : fRu_sortBy x1 M F = some (r, M', F')) : jCv l yRu_sortBy wRu_sortBy rRu_sortBy (dC, dI) jCl [(cA, .int)] [.ref (A 1), .int x1] (jW cA A B M F) sz (fun B => jW cA A B (M') (F')) :=
  jOf (Qc := fun Ap => va_Qv (fun _ : Nat → Nat => True) (jPost (dC, dI) jCl [(cA, .int)] (fun B => jW cA A B (M') (F')) Ap) Ap) (by decide) rfl (Nat.le_of_ble_eq_true rfl) (fun p e s m below meth c Ap ls hC hA hJ hl => uRu_sortBy_0 l dC dI cA A Ap hC hA _ _ _ _ _ _ _ hJ (lv_sub hl [0, 1] rfl) h)
abbrev bRu_keep : ByteArray := prog_4_method_8_code
abbrev yRu_keep : MethodName := ⟨RRu, "keep", "(I)V"⟩
abbrev wRu_keep : List Cond := .code yRu_keep bRu_keep 3 none :: jw
theorem dRu_keep_0 : decode bRu_keep 0 = .ok (.aload_n 0, 1) := by decide +kernel
theorem dRu_keep_1 : decode bRu_keep 1 = .ok (.getfield 42, 3) := by decide +kernel
theorem dRu_keep_4 : decode bRu_keep 4 = .ok (.astore_n 2, 1) := by decide +kernel
theorem dRu_keep_5 : decode bRu_keep 5 = .ok (.aload_n 0, 1) := by decide +kernel
theorem dRu_keep_6 : decode bRu_keep 6 = .ok (.aload_n 0, 1) := by decide +kernel
theorem dRu_keep_7 : decode bRu_keep 7 = .ok (.getfield 25, 3) := by decide +kernel
theorem dRu_keep_10 : decode bRu_keep 10 = .ok (.putfield 42, 3) := by decide +kernel
theorem dRu_keep_13 : decode bRu_keep 13 = .ok (.aload_n 0, 1) := by decide +kernel
theorem dRu_keep_14 : decode bRu_keep 14 = .ok (.aload_n 2, 1) := by decide +kernel
theorem dRu_keep_15 : decode bRu_keep 15 = .ok (.putfield 25, 3) := by decide +kernel
theorem dRu_keep_18 : decode bRu_keep 18 = .ok (.aload_n 0, 1) := by decide +kernel
theorem dRu_keep_19 : decode bRu_keep 19 = .ok (.aload_n 0, 1) := by decide +kernel
theorem dRu_keep_20 : decode bRu_keep 20 = .ok (.getfield 35, 3) := by decide +kernel
theorem dRu_keep_23 : decode bRu_keep 23 = .ok (.putfield 45, 3) := by decide +kernel
theorem dRu_keep_26 : decode bRu_keep 26 = .ok (.aload_n 0, 1) := by decide +kernel
theorem dRu_keep_27 : decode bRu_keep 27 = .ok (.iload_n 1, 1) := by decide +kernel
theorem dRu_keep_28 : decode bRu_keep 28 = .ok (.putfield 48, 3) := by decide +kernel
theorem dRu_keep_31 : decode bRu_keep 31 = .ok (.aload_n 0, 1) := by decide +kernel
theorem dRu_keep_32 : decode bRu_keep 32 = .ok (.aload_n 0, 1) := by decide +kernel
theorem dRu_keep_33 : decode bRu_keep 33 = .ok (.getfield 39, 3) := by decide +kernel
theorem dRu_keep_36 : decode bRu_keep 36 = .ok (.putfield 51, 3) := by decide +kernel
theorem dRu_keep_39 : decode bRu_keep 39 = .ok (.return_, 1) := by decide +kernel
abbrev rRu_keep : Room := { frames := 0, cells := 0, slots := 0, locals := 0 }
def fRu_keep_0 (x1 : Int32) (M : jM) (F : jF) : Option (Int32 × jM × jF) := some (0, jms M 23 26, jfu (jfu (jfu F 6 (F 4)) 7 x1) 8 (F 5))
abbrev fRu_keep (x1 : Int32) (M : jM) (F : jF) : Option (Int32 × jM × jF) := fRu_keep_0 x1 M F
set_option maxHeartbeats 4000000 in
set_option maxRecDepth 100000 in
theorem uRu_keep_0 {p : Program} {e : Env} {s : State} {m : MethodId} {args : Array Value} {below : List Frame} {meth : Method} {c : Code} (l : Launch) (dC : Nat → ClassId) (dI : Nat → Nat → Nat) (cA : ClassId) (A : Nat → Nat) (Ap : Nat → Prop) (hC : jAt p s m args meth c bRu_keep 3 none wRu_keep RRu) (hA : ∀ q : Nat, s.heap.size ≤ q → Ap q) {r : Int32} {M' : jM} {F' : jF} : ∀ (x1 : Int32) (M : jM) (F : jF) (B : Nat → Nat) (H : Heap) (locs : List Loc) (ls : Array Slot), jH (dC, dI) jCl [(cA, .int)] (jW cA A B M F) Ap s H locs → lv_has ls 3 [(0, .ref (A 1)), (1, .int x1)] → fRu_keep_0 x1 M F = some (r, M', F') → W p l e (headSpec wRu_keep rRu_keep).room s m args below meth c H locs 0 0 (jQv below (dC, dI) jCl [(cA, .int)] (fun B => jW cA A B (M') (F')) Ap args s) (F0 m 0 ls []) := by
  obtain ⟨hx, hb, hml, hr, hts, hown, hlocks, hN⟩ := id hC
  have hj : ∀ w ∈ jw, w.before args s = true := fun w h => hts w (List.mem_cons_of_mem _ h)
  intro x1 M F B H locs ls hJ hl h
  unfold fRu_keep_0 at h
  refine lv_aload_n hx hb dRu_keep_0 rfl (lv_at hl 0 rfl) ?_
  refine va_get (D := (dC, dI)) (ci := 1) (v := .ref (B 2)) (C := RRu) (T := TRu) (N := 11) hx hb hj iRu hown hJ.1 hJ.2.1 1 rfl rfl 7 (by decide) (hj _ jw_149) (fun _ h9 => h9) rfl dRu_keep_1 ?_
  refine lv_astore_n (lv' := [(2, .ref (B 2)), (0, .ref (A 1)), (1, .int x1)]) hx hb dRu_keep_4 rfl hl (by decide) rfl (fun ls hl => ?_)
  refine lv_aload_n hx hb dRu_keep_5 rfl (lv_at hl 1 rfl) ?_
  refine lv_aload_n hx hb dRu_keep_6 rfl (lv_at hl 1 rfl) ?_
  refine va_get (D := (dC, dI)) (ci := 1) (v := .ref (B 0)) (C := RRu) (T := TRu) (N := 11) hx hb hj iRu hown hJ.1 hJ.2.1 1 rfl rfl 2 (by decide) (hj _ jw_144) (fun _ h9 => h9) rfl dRu_keep_7 ?_
  refine va_put (D := (dC, dI)) (ci := 1) (v := .ref (B 0)) (ty := (.array .int)) (C := RRu) (T := TRu) (N := 11) hx hb hj iRu tRu tRu_ok nRu hown hJ.1 hJ.2.1 hJ.2.2.1 hJ.2.2.2 1 rfl rfl 7 (by decide) (hj _ jw_149) (fun _ h9 => h9) rfl (by decide +kernel) rfl rfl (Nat.le_of_ble_eq_true rfl) dRu_keep_10 (fun H locs hP hD hS => ?_)
  replace hJ : jH (dC, dI) jCl [(cA, .int)] (jWr cA A B M F (B 0) (B 1) (B 0)) Ap s H locs := ⟨hJ.1, hP, hD, hS⟩
  refine lv_aload_n hx hb dRu_keep_13 rfl (lv_at hl 1 rfl) ?_
  refine lv_aload_n hx hb dRu_keep_14 rfl (lv_at hl 0 rfl) ?_
  refine va_put (D := (dC, dI)) (ci := 1) (v := .ref (B 2)) (ty := (.array .int)) (C := RRu) (T := TRu) (N := 11) hx hb hj iRu tRu tRu_ok nRu hown hJ.1 hJ.2.1 hJ.2.2.1 hJ.2.2.2 1 rfl rfl 2 (by decide) (hj _ jw_144) (fun _ h9 => h9) rfl (by decide +kernel) rfl rfl (Nat.le_of_ble_eq_true rfl) dRu_keep_15 (fun H locs hP hD hS => ?_)
  replace hJ : jH (dC, dI) jCl [(cA, .int)] (jWr cA A B M F (B 2) (B 1) (B 0)) Ap s H locs := ⟨hJ.1, hP, hD, hS⟩
  refine lv_aload_n hx hb dRu_keep_18 rfl (lv_at hl 1 rfl) ?_
  refine lv_aload_n hx hb dRu_keep_19 rfl (lv_at hl 1 rfl) ?_
  refine va_get (D := (dC, dI)) (ci := 1) (v := .int (F 4)) (C := RRu) (T := TRu) (N := 11) hx hb hj iRu hown hJ.1 hJ.2.1 1 rfl rfl 5 (by decide) (hj _ jw_147) (fun _ h9 => h9) rfl dRu_keep_20 ?_
  refine va_put (D := (dC, dI)) (ci := 1) (v := .int (F 4)) (ty := .int) (C := RRu) (T := TRu) (N := 11) hx hb hj iRu tRu tRu_ok nRu hown hJ.1 hJ.2.1 hJ.2.2.1 hJ.2.2.2 1 rfl rfl 8 (by decide) (hj _ jw_151) (fun _ h9 => h9) rfl (by decide +kernel) rfl rfl (Nat.le_of_ble_eq_true rfl) dRu_keep_23 (fun H locs hP hD hS => ?_)
  replace hJ : jH (dC, dI) jCl [(cA, .int)] (jWr cA A B M (jfu F 6 (F 4)) (B 2) (B 1) (B 0)) Ap s H locs := ⟨hJ.1, hP, hD, hS⟩
  refine lv_aload_n hx hb dRu_keep_26 rfl (lv_at hl 1 rfl) ?_
  refine lv_iload_n hx hb dRu_keep_27 rfl (lv_at hl 2 rfl) ?_
  refine va_put (D := (dC, dI)) (ci := 1) (v := .int x1) (ty := .int) (C := RRu) (T := TRu) (N := 11) hx hb hj iRu tRu tRu_ok nRu hown hJ.1 hJ.2.1 hJ.2.2.1 hJ.2.2.2 1 rfl rfl 9 (by decide) (hj _ jw_153) (fun _ h9 => h9) rfl (by decide +kernel) rfl rfl (Nat.le_of_ble_eq_true rfl) dRu_keep_28 (fun H locs hP hD hS => ?_)
  replace hJ : jH (dC, dI) jCl [(cA, .int)] (jWr cA A B M (jfu (jfu F 6 (F 4)) 7 x1) (B 2) (B 1) (B 0)) Ap s H locs := ⟨hJ.1, hP, hD, hS⟩
  refine lv_aload_n hx hb dRu_keep_31 rfl (lv_at hl 1 rfl) ?_
  refine lv_aload_n hx hb dRu_keep_32 rfl (lv_at hl 1 rfl) ?_
  refine va_get (D := (dC, dI)) (ci := 1) (v := .int (F 5)) (C := RRu) (T := TRu) (N := 11) hx hb hj iRu hown hJ.1 hJ.2.1 1 rfl rfl 6 (by decide) (hj _ jw_148) (fun _ h9 => h9) rfl dRu_keep_33 ?_
  refine va_put (D := (dC, dI)) (ci := 1) (v := .int (F 5)) (ty := .int) (C := RRu) (T := TRu) (N := 11) hx hb hj iRu tRu tRu_ok nRu hown hJ.1 hJ.2.1 hJ.2.2.1 hJ.2.2.2 1 rfl rfl 10 (by decide) (hj _ jw_155) (fun _ h9 => h9) rfl (by decide +kernel) rfl rfl (Nat.le_of_ble_eq_true rfl) dRu_keep_36 (fun H locs hP hD hS => ?_)
  replace hJ : jH (dC, dI) jCl [(cA, .int)] (jWr cA A B M (jfu (jfu (jfu F 6 (F 4)) 7 x1) 8 (F 5)) (B 2) (B 1) (B 0)) Ap s H locs := ⟨hJ.1, hP, hD, hS⟩
  replace hJ : jH (dC, dI) jCl [(cA, .int)] (jW cA A (jbs B 0 2) (jms M 23 26) (jfu (jfu (jfu F 6 (F 4)) 7 x1) 8 (F 5))) Ap s H locs := ⟨hJ.1, hJ.2.1.sub [0, 1, 2, 3, 4, 5, 6, 7, 8, 9, 10, 11, 12, 13, 14, 15, 16, 17, 18, 19, 20, 21, 22, 26, 24, 25, 23] rfl, hJ.2.2.1.sub [0, 1, 2, 3, 4, 5, 6, 7, 8, 9, 10, 11, 12, 13, 14, 15, 16, 17, 18, 19, 20, 21, 22, 26, 24, 25, 23] (by decide) rfl, hJ.2.2.2⟩
  cases h
  exact jretv (u := (jbs B 0 2)) hx hb hr hlocks hJ dRu_keep_39
set_option maxHeartbeats 4000000 in
set_option maxRecDepth 100000 in
theorem cRu_keep (l : Launch) (dC : Nat → ClassId) (dI : Nat → Nat → Nat) (cA : ClassId) (A : Nat → Nat) (x1 : Int32) (M : jM) (F : jF) (B : Nat → Nat) (sz : Nat) {r : Int32} {M' : jM} {F' : jF} (h : fRu_keep x1 M F = some (r, M', F')) : jCv l yRu_keep wRu_keep rRu_keep (dC, dI) jCl [(cA, .int)] [.ref (A 1), .int x1] (jW cA A B M F) sz (fun B => jW cA A B (M') (F')) :=
  jOf (Qc := fun Ap => va_Qv (fun _ : Nat → Nat => True) (jPost (dC, dI) jCl [(cA, .int)] (fun B => jW cA A B (M') (F')) Ap) Ap) (by decide) rfl (Nat.le_of_ble_eq_true rfl) (fun p e s m below meth c Ap ls hC hA hJ hl => uRu_keep_0 l dC dI cA A Ap hC hA _ _ _ _ _ _ _ hJ (lv_sub hl [0, 1] rfl) h)
abbrev bRu_go : ByteArray := prog_4_method_2_code
abbrev yRu_go : MethodName := ⟨RRu, "go", "()Z"⟩
abbrev wRu_go : List Cond := .code yRu_go bRu_go 5 (some .boolean) :: jw
theorem dRu_go_0 : decode bRu_go 0 = .ok (.aload_n 0, 1) := by decide +kernel
theorem dRu_go_1 : decode bRu_go 1 = .ok (.getfield 12, 3) := by decide +kernel
theorem dRu_go_4 : decode bRu_go 4 = .ok (.getfield 54, 3) := by decide +kernel
theorem dRu_go_7 : decode bRu_go 7 = .ok (.getfield 58, 3) := by decide +kernel
theorem dRu_go_10 : decode bRu_go 10 = .ok (.istore_n 1, 1) := by decide +kernel
theorem dRu_go_11 : decode bRu_go 11 = .ok (.aload_n 0, 1) := by decide +kernel
theorem dRu_go_12 : decode bRu_go 12 = .ok (.getfield 12, 3) := by decide +kernel
theorem dRu_go_15 : decode bRu_go 15 = .ok (.invokevirtual 63, 3) := by decide +kernel
theorem dRu_go_18 : decode bRu_go 18 = .ok (.aload_n 0, 1) := by decide +kernel
theorem dRu_go_19 : decode bRu_go 19 = .ok (.iload_n 1, 1) := by decide +kernel
theorem dRu_go_20 : decode bRu_go 20 = .ok (.invokevirtual 66, 3) := by decide +kernel
theorem dRu_go_23 : decode bRu_go 23 = .ok (.iconst 0, 1) := by decide +kernel
theorem dRu_go_24 : decode bRu_go 24 = .ok (.istore_n 2, 1) := by decide +kernel
theorem dRu_go_25 : decode bRu_go 25 = .ok (.iconst 0, 1) := by decide +kernel
theorem dRu_go_26 : decode bRu_go 26 = .ok (.istore_n 3, 1) := by decide +kernel
theorem dRu_go_27 : decode bRu_go 27 = .ok (.iload_n 3, 1) := by decide +kernel
theorem dRu_go_28 : decode bRu_go 28 = .ok (.iload_n 1, 1) := by decide +kernel
theorem dRu_go_29 : decode bRu_go 29 = .ok (.if_icmp .ge 65, 3) := by decide +kernel
theorem dRu_go_32 : decode bRu_go 32 = .ok (.aload_n 0, 1) := by decide +kernel
theorem dRu_go_33 : decode bRu_go 33 = .ok (.getfield 12, 3) := by decide +kernel
theorem dRu_go_36 : decode bRu_go 36 = .ok (.getfield 70, 3) := by decide +kernel
theorem dRu_go_39 : decode bRu_go 39 = .ok (.iload_n 3, 1) := by decide +kernel
theorem dRu_go_40 : decode bRu_go 40 = .ok (.iaload, 1) := by decide +kernel
theorem dRu_go_41 : decode bRu_go 41 = .ok (.istore 4, 2) := by decide +kernel
theorem dRu_go_43 : decode bRu_go 43 = .ok (.aload_n 0, 1) := by decide +kernel
theorem dRu_go_44 : decode bRu_go 44 = .ok (.getfield 21, 3) := by decide +kernel
theorem dRu_go_47 : decode bRu_go 47 = .ok (.aload_n 0, 1) := by decide +kernel
theorem dRu_go_48 : decode bRu_go 48 = .ok (.getfield 12, 3) := by decide +kernel
theorem dRu_go_51 : decode bRu_go 51 = .ok (.getfield 54, 3) := by decide +kernel
theorem dRu_go_54 : decode bRu_go 54 = .ok (.iload 4, 2) := by decide +kernel
theorem dRu_go_56 : decode bRu_go 56 = .ok (.iload_n 2, 1) := by decide +kernel
theorem dRu_go_57 : decode bRu_go 57 = .ok (.invokevirtual 73, 3) := by decide +kernel
theorem dRu_go_60 : decode bRu_go 60 = .ok (.aload_n 0, 1) := by decide +kernel
theorem dRu_go_61 : decode bRu_go 61 = .ok (.iload 4, 2) := by decide +kernel
theorem dRu_go_63 : decode bRu_go 63 = .ok (.aload_n 0, 1) := by decide +kernel
theorem dRu_go_64 : decode bRu_go 64 = .ok (.getfield 12, 3) := by decide +kernel
theorem dRu_go_67 : decode bRu_go 67 = .ok (.iload 4, 2) := by decide +kernel
theorem dRu_go_69 : decode bRu_go 69 = .ok (.iload_n 2, 1) := by decide +kernel
theorem dRu_go_70 : decode bRu_go 70 = .ok (.invokevirtual 77, 3) := by decide +kernel
theorem dRu_go_73 : decode bRu_go 73 = .ok (.invokevirtual 81, 3) := by decide +kernel
theorem dRu_go_76 : decode bRu_go 76 = .ok (.ifCond .ne 5, 3) := by decide +kernel
theorem dRu_go_79 : decode bRu_go 79 = .ok (.iconst 0, 1) := by decide +kernel
theorem dRu_go_80 : decode bRu_go 80 = .ok (.ireturn, 1) := by decide +kernel
theorem dRu_go_81 : decode bRu_go 81 = .ok (.iload_n 2, 1) := by decide +kernel
theorem dRu_go_82 : decode bRu_go 82 = .ok (.iconst 1, 1) := by decide +kernel
theorem dRu_go_83 : decode bRu_go 83 = .ok (.iload 4, 2) := by decide +kernel
theorem dRu_go_85 : decode bRu_go 85 = .ok (.ishl, 1) := by decide +kernel
theorem dRu_go_86 : decode bRu_go 86 = .ok (.ior, 1) := by decide +kernel
theorem dRu_go_87 : decode bRu_go 87 = .ok (.istore_n 2, 1) := by decide +kernel
theorem dRu_go_88 : decode bRu_go 88 = .ok (.iinc 3 1, 3) := by decide +kernel
theorem dRu_go_91 : decode bRu_go 91 = .ok (.goto (-64), 3) := by decide +kernel
theorem dRu_go_94 : decode bRu_go 94 = .ok (.iload_n 1, 1) := by decide +kernel
theorem dRu_go_95 : decode bRu_go 95 = .ok (.iconst 1, 1) := by decide +kernel
theorem dRu_go_96 : decode bRu_go 96 = .ok (.isub, 1) := by decide +kernel
theorem dRu_go_97 : decode bRu_go 97 = .ok (.istore_n 3, 1) := by decide +kernel
theorem dRu_go_98 : decode bRu_go 98 = .ok (.iload_n 3, 1) := by decide +kernel
theorem dRu_go_99 : decode bRu_go 99 = .ok (.ifCond .lt 14, 3) := by decide +kernel
theorem dRu_go_102 : decode bRu_go 102 = .ok (.aload_n 0, 1) := by decide +kernel
theorem dRu_go_103 : decode bRu_go 103 = .ok (.iload_n 3, 1) := by decide +kernel
theorem dRu_go_104 : decode bRu_go 104 = .ok (.invokevirtual 85, 3) := by decide +kernel
theorem dRu_go_107 : decode bRu_go 107 = .ok (.iinc 3 (-1), 3) := by decide +kernel
theorem dRu_go_110 : decode bRu_go 110 = .ok (.goto (-12), 3) := by decide +kernel
theorem dRu_go_113 : decode bRu_go 113 = .ok (.aload_n 0, 1) := by decide +kernel
theorem dRu_go_114 : decode bRu_go 114 = .ok (.iload_n 1, 1) := by decide +kernel
theorem dRu_go_115 : decode bRu_go 115 = .ok (.invokevirtual 88, 3) := by decide +kernel
theorem dRu_go_118 : decode bRu_go 118 = .ok (.iconst 1, 1) := by decide +kernel
theorem dRu_go_119 : decode bRu_go 119 = .ok (.ireturn, 1) := by decide +kernel
abbrev rRu_go : Room := { frames := 5, cells := 0, slots := 0, locals := 129 }
def fRu_go_98 : Nat → Int32 → Int32 → jM → jF → Option (Int32 × jM × jF)
  | 0, _, _, _, _ => none
  | n + 1, x1, x3, M, F => (if x3 < 0 then ((fRu_keep x1 M F).bind fun q7 => some (1, q7.2.1, q7.2.2)) else ((fRu_sortBy x3 M F).bind fun q9 => fRu_go_98 n x1 (x3 + (-1)) q9.2.1 q9.2.2))
def fRu_go_27 : Nat → Int32 → Int32 → Int32 → jM → jF → Option (Int32 × jM × jF)
  | 0, _, _, _, _, _ => none
  | n + 1, x1, x2, x3, M, F => (if x1 ≤ x3 then fRu_go_98 jfuel x1 (x1 - 1) M F else (if jib x3 6 then ((fSi_prepare (M 19 x3.toNatClampNeg) x2 M F).bind fun q12 => ((fPl_conditionFor (M 19 x3.toNatClampNeg) x2 q12.2.1 q12.2.2).bind fun q14 => ((fRu_goTo (M 19 x3.toNatClampNeg) q14 q12.2.1 q12.2.2).bind fun q15 => (if q15.1 = 0 then some (0, q15.2.1, q15.2.2) else fRu_go_27 n x1 (x2 ||| (1 <<< ((M 19 x3.toNatClampNeg) &&& 31))) (x3 + 1) q15.2.1 q15.2.2)))) else none))
def fRu_go_0 (M : jM) (F : jF) : Option (Int32 × jM × jF) := ((fPl_make M F).bind fun q1 => ((fRu_begin (F 0) q1.2.1 q1.2.2).bind fun q3 => fRu_go_27 jfuel (F 0) 0 0 q3.2.1 q3.2.2))
abbrev fRu_go (M : jM) (F : jF) : Option (Int32 × jM × jF) := fRu_go_0  M F
set_option maxHeartbeats 4000000 in
set_option maxRecDepth 100000 in
theorem uRu_go_98 {p : Program} {e : Env} {s : State} {m : MethodId} {args : Array Value} {below : List Frame} {meth : Method} {c : Code} (l : Launch) (dC : Nat → ClassId) (dI : Nat → Nat → Nat) (cA : ClassId) (A : Nat → Nat) (Ap : Nat → Prop) (hC : jAt p s m args meth c bRu_go 5 (some .boolean) wRu_go RRu) (hA : ∀ q : Nat, s.heap.size ≤ q → Ap q) {r : Int32} {M' : jM} {F' : jF} : ∀ (n : Nat) (x1 x3 : Int32) (M : jM) (F : jF) (B : Nat → Nat) (H : Heap) (locs : List Loc) (ls : Array Slot), jH (dC, dI) jCl [(cA, .int)] (jW cA A B M F) Ap s H locs → lv_has ls 5 [(0, .ref (A 1)), (1, .int x1), (3, .int x3)] → fRu_go_98 n x1 x3 M F = some (r, M', F') → W p l e (headSpec wRu_go rRu_go).room s m args below meth c H locs 0 0 (jQi below (dC, dI) jCl [(cA, .int)] (fun B => jW cA A B (M') (F')) Ap args s r) (F0 m 98 ls []) := by
  obtain ⟨hx, hb, hml, hr, hts, hown, hlocks, hN⟩ := id hC
  have hj : ∀ w ∈ jw, w.before args s = true := fun w h => hts w (List.mem_cons_of_mem _ h)
  intro n
  induction n with
  | zero =>
    intro x1 x3 M F B H locs ls hJ hl h
    rw [fRu_go_98] at h
    cases h
  | succ n ih =>
    intro x1 x3 M F B H locs ls hJ hl h
    rw [fRu_go_98] at h
    refine lv_iload_n hx hb dRu_go_98 rfl (lv_at hl 2 rfl) ?_
    refine lv_if_lt (tgt := 113) hx hb dRu_go_99 (by decide) (fun c6 => ?_) (fun c6 => ?_)
    · replace h := jif_t c6 h
      refine lv_aload_n hx hb dRu_go_113 rfl (lv_at hl 0 rfl) ?_
      refine lv_iload_n hx hb dRu_go_114 rfl (lv_at hl 1 rfl) ?_
      obtain ⟨q7, hq7, h⟩ := jbi_h h
      refine jcallv (w' := fun B => jW cA A B q7.2.1 q7.2.2) (va_runV (As := [.int x1]) (rest := []) ⟨hx, hb, hml, hown, hts⟩ (cRu_keep l dC dI cA A x1 M F B H.size hq7) (cwV 1 hts (jgoodV jw_578 jw_580 jws_16 jw_2 jw_581) rfl rfl rfl (by decide +kernel) ⟨Nat.le_of_ble_eq_true rfl, Nat.le_of_ble_eq_true rfl⟩) (jpreV hN hJ (ci := 1) (q0 := 1) rfl rfl) rfl rfl hl.1 rfl (lv_room (Nat.le_of_ble_eq_true rfl)) dRu_go_115 ⟨Nat.zero_le _, Nat.zero_le _⟩) hA hJ (fun B8 H locs hJ => ?_)
      refine lv_iconst (v := 1) hx hb dRu_go_118 (by decide) ?_
      cases h
      exact jreti (u := B8) hx hb hr rfl hlocks hJ dRu_go_119 rfl
    · replace h := jif_f c6 h
      refine lv_aload_n hx hb dRu_go_102 rfl (lv_at hl 0 rfl) ?_
      refine lv_iload_n hx hb dRu_go_103 rfl (lv_at hl 2 rfl) ?_
      obtain ⟨q9, hq9, h⟩ := jbi_h h
      refine jcallv (w' := fun B => jW cA A B q9.2.1 q9.2.2) (va_runV (As := [.int x3]) (rest := []) ⟨hx, hb, hml, hown, hts⟩ (cRu_sortBy l dC dI cA A x3 M F B H.size hq9) (cwV 1 hts (jgoodV jw_570 jw_572 jws_15 jw_2 jw_573) rfl rfl rfl (by decide +kernel) ⟨Nat.le_of_ble_eq_true rfl, Nat.le_of_ble_eq_true rfl⟩) (jpreV hN hJ (ci := 1) (q0 := 1) rfl rfl) rfl rfl hl.1 rfl (lv_room (Nat.le_of_ble_eq_true rfl)) dRu_go_104 ⟨Nat.zero_le _, Nat.zero_le _⟩) hA hJ (fun B10 H locs hJ => ?_)
      refine lv_iinc (v := x3 + (-1)) (lv' := [(3, .int (x3 + (-1))), (0, .ref (A 1)), (1, .int x1)]) hx hb dRu_go_107 hl (k := 2) rfl (congrArg (fun z => x3 + z) (by decide)) (by decide) rfl (fun ls hl => ?_)
      refine lv_goto (tgt := 98) hx hb dRu_go_110 (by decide) ?_
      exact ih _ _ _ _ _ _ _ _ hJ (lv_sub hl [1, 2, 0] rfl) h
set_option maxHeartbeats 4000000 in
set_option maxRecDepth 100000 in
theorem uRu_go_27 {p : Program} {e : Env} {s : State} {m : MethodId} {args : Array Value} {below : List Frame} {meth : Method} {c : Code} (l : Launch) (dC : Nat → ClassId) (dI : Nat → Nat → Nat) (cA : ClassId) (A : Nat → Nat) (Ap : Nat → Prop) (hC : jAt p s m args meth c bRu_go 5 (some .boolean) wRu_go RRu) (hA : ∀ q : Nat, s.heap.size ≤ q → Ap q) {r : Int32} {M' : jM} {F' : jF} : ∀ (n : Nat) (x1 x2 x3 : Int32) (M : jM) (F : jF) (B : Nat → Nat) (H : Heap) (locs : List Loc) (ls : Array Slot), jH (dC, dI) jCl [(cA, .int)] (jW cA A B M F) Ap s H locs → lv_has ls 5 [(0, .ref (A 1)), (1, .int x1), (2, .int x2), (3, .int x3)] → fRu_go_27 n x1 x2 x3 M F = some (r, M', F') → W p l e (headSpec wRu_go rRu_go).room s m args below meth c H locs 0 0 (jQi below (dC, dI) jCl [(cA, .int)] (fun B => jW cA A B (M') (F')) Ap args s r) (F0 m 27 ls []) := by
  obtain ⟨hx, hb, hml, hr, hts, hown, hlocks, hN⟩ := id hC
  have hj : ∀ w ∈ jw, w.before args s = true := fun w h => hts w (List.mem_cons_of_mem _ h)
  intro n
  induction n with
  | zero =>
    intro x1 x2 x3 M F B H locs ls hJ hl h
    rw [fRu_go_27] at h
    cases h
  | succ n ih =>
    intro x1 x2 x3 M F B H locs ls hJ hl h
    rw [fRu_go_27] at h
    refine lv_iload_n hx hb dRu_go_27 rfl (lv_at hl 3 rfl) ?_
    refine lv_iload_n hx hb dRu_go_28 rfl (lv_at hl 1 rfl) ?_
    refine lv_icmp_ge (tgt := 94) hx hb dRu_go_29 (by decide) (fun c5 => ?_) (fun c5 => ?_)
    · replace h := jif_t c5 h
      refine lv_iload_n hx hb dRu_go_94 rfl (lv_at hl 1 rfl) ?_
      refine lv_iconst (v := 1) hx hb dRu_go_95 (by decide) ?_
      refine lv_isub hx hb dRu_go_96 ?_
      refine lv_istore_n (lv' := [(3, .int (x1 - 1)), (0, .ref (A 1)), (1, .int x1), (2, .int x2)]) hx hb dRu_go_97 rfl hl (by decide) rfl (fun ls hl => ?_)
      exact uRu_go_98 l dC dI cA A Ap hC hA jfuel _ _ _ _ _ _ _ _ hJ (lv_sub hl [1, 2, 0] rfl) h
    · replace h := jif_f c5 h
      refine lv_aload_n hx hb dRu_go_32 rfl (lv_at hl 0 rfl) ?_
      refine va_get (D := (dC, dI)) (ci := 1) (v := .ref (A 2)) (C := RRu) (T := TRu) (N := 11) hx hb hj iRu hown hJ.1 hJ.2.1 1 rfl rfl 0 (by decide) (hj _ jw_141) (fun _ h9 => h9) rfl dRu_go_33 ?_
      refine va_getN (D := (dC, dI)) (ci := 2) (v := .ref (A 19)) (C := RPl) (T := TPl) (N := 4) hx hb hj iPl hown hJ.1 hJ.2.1 2 rfl rfl 3 (by decide) (jnw_use hN jnw_14) (fun _ h9 => h9) rfl dRu_go_36 ?_
      refine lv_iload_n hx hb dRu_go_39 rfl (lv_at hl 3 rfl) ?_
      obtain ⟨hi11, h⟩ := jib_h h
      refine jald_19 hx hb hJ hi11 dRu_go_40 ?_
      refine lv_istore (lv' := [(4, .int (M 19 x3.toNatClampNeg)), (0, .ref (A 1)), (1, .int x1), (2, .int x2), (3, .int x3)]) hx hb dRu_go_41 hl (by decide) rfl (fun ls hl => ?_)
      refine lv_aload_n hx hb dRu_go_43 rfl (lv_at hl 1 rfl) ?_
      refine va_get (D := (dC, dI)) (ci := 1) (v := .ref (A 5)) (C := RRu) (T := TRu) (N := 11) hx hb hj iRu hown hJ.1 hJ.2.1 1 rfl rfl 1 (by decide) (hj _ jw_143) (fun _ h9 => h9) rfl dRu_go_44 ?_
      refine lv_aload_n hx hb dRu_go_47 rfl (lv_at hl 1 rfl) ?_
      refine va_get (D := (dC, dI)) (ci := 1) (v := .ref (A 2)) (C := RRu) (T := TRu) (N := 11) hx hb hj iRu hown hJ.1 hJ.2.1 1 rfl rfl 0 (by decide) (hj _ jw_141) (fun _ h9 => h9) rfl dRu_go_48 ?_
      refine va_getN (D := (dC, dI)) (ci := 2) (v := .ref (A 3)) (C := RPl) (T := TPl) (N := 4) hx hb hj iPl hown hJ.1 hJ.2.1 2 rfl rfl 0 (by decide) (jnw_use hN jnw_13) (fun _ h9 => h9) rfl dRu_go_51 ?_
      refine lv_iload hx hb dRu_go_54 (lv_at hl 0 rfl) ?_
      refine lv_iload_n hx hb dRu_go_56 rfl (lv_at hl 3 rfl) ?_
      obtain ⟨q12, hq12, h⟩ := jbi_h h
      refine jcallv (w' := fun B => jW cA A B q12.2.1 q12.2.2) (va_runV (As := [.ref (A 3), .int (M 19 x3.toNatClampNeg), .int x2]) (rest := []) ⟨hx, hb, hml, hown, hts⟩ (cSi_prepare l dC dI cA A (M 19 x3.toNatClampNeg) x2 M F B H.size hq12) (cwV 3 hts (jgoodV jw_518 jw_519 jw_520 jw_6 jw_521) rfl rfl rfl (by decide +kernel) ⟨Nat.le_of_ble_eq_true rfl, Nat.le_of_ble_eq_true rfl⟩) (jpreV hN hJ (ci := 5) (q0 := 5) rfl rfl) rfl rfl hl.1 rfl (lv_room (Nat.le_of_ble_eq_true rfl)) dRu_go_57 ⟨Nat.zero_le _, Nat.zero_le _⟩) hA hJ (fun B13 H locs hJ => ?_)
      refine lv_aload_n hx hb dRu_go_60 rfl (lv_at hl 1 rfl) ?_
      refine lv_iload hx hb dRu_go_61 (lv_at hl 0 rfl) ?_
      refine lv_aload_n hx hb dRu_go_63 rfl (lv_at hl 1 rfl) ?_
      refine va_get (D := (dC, dI)) (ci := 1) (v := .ref (A 2)) (C := RRu) (T := TRu) (N := 11) hx hb hj iRu hown hJ.1 hJ.2.1 1 rfl rfl 0 (by decide) (hj _ jw_141) (fun _ h9 => h9) rfl dRu_go_64 ?_
      refine lv_iload hx hb dRu_go_67 (lv_at hl 0 rfl) ?_
      refine lv_iload_n hx hb dRu_go_69 rfl (lv_at hl 3 rfl) ?_
      obtain ⟨q14, hq14, h⟩ := jbi_h h
      refine jcalli (w' := fun B => jW cA A B q12.2.1 q12.2.2) (va_runV (As := [.int (M 19 x3.toNatClampNeg), .int x2]) (rest := [.int (M 19 x3.toNatClampNeg), .ref (A 1)]) ⟨hx, hb, hml, hown, hts⟩ (cPl_conditionFor l dC dI cA A (M 19 x3.toNatClampNeg) x2 q12.2.1 q12.2.2 B13 H.size hq14) (cwV 2 hts (jgoodV jw_537 jw_467 jw_468 jw_3 jw_469) rfl rfl rfl (by decide +kernel) ⟨Nat.le_of_ble_eq_true rfl, Nat.le_of_ble_eq_true rfl⟩) (jpreV hN hJ (ci := 2) (q0 := 2) rfl rfl) rfl rfl hl.1 rfl (lv_room (Nat.le_of_ble_eq_true rfl)) dRu_go_70 ⟨Nat.zero_le _, Nat.zero_le _⟩) hA hJ (fun B13 H locs hJ => ?_)
      obtain ⟨q15, hq15, h⟩ := jbi_h h
      refine jcalli (w' := fun B => jW cA A B q15.2.1 q15.2.2) (va_runV (As := [.int (M 19 x3.toNatClampNeg), .int q14]) (rest := []) ⟨hx, hb, hml, hown, hts⟩ (cRu_goTo l dC dI cA A (M 19 x3.toNatClampNeg) q14 q12.2.1 q12.2.2 B13 H.size hq15) (cwV 2 hts (jgoodV jw_538 jw_540 jws_12 jw_2 jw_541) rfl rfl rfl (by decide +kernel) ⟨Nat.le_of_ble_eq_true rfl, Nat.le_of_ble_eq_true rfl⟩) (jpreV hN hJ (ci := 1) (q0 := 1) rfl rfl) rfl rfl hl.1 rfl (lv_room (Nat.le_of_ble_eq_true rfl)) dRu_go_73 ⟨Nat.zero_le _, Nat.zero_le _⟩) hA hJ (fun B16 H locs hJ => ?_)
      refine lv_if_ne (tgt := 81) hx hb dRu_go_76 (by decide) (fun c17 => ?_) (fun c17 => ?_)
      · replace h := jif_f c17 h
        refine lv_iload_n hx hb dRu_go_81 rfl (lv_at hl 3 rfl) ?_
        refine lv_iconst (v := 1) hx hb dRu_go_82 (by decide) ?_
        refine lv_iload hx hb dRu_go_83 (lv_at hl 0 rfl) ?_
        refine lv_ishl hx hb dRu_go_85 ?_
        refine lv_ior hx hb dRu_go_86 ?_
        refine lv_istore_n (lv' := [(2, .int (x2 ||| (1 <<< ((M 19 x3.toNatClampNeg) &&& 31)))), (4, .int (M 19 x3.toNatClampNeg)), (0, .ref (A 1)), (1, .int x1), (3, .int x3)]) hx hb dRu_go_87 rfl hl (by decide) rfl (fun ls hl => ?_)
        refine lv_iinc (v := x3 + 1) (lv' := [(3, .int (x3 + 1)), (2, .int (x2 ||| (1 <<< ((M 19 x3.toNatClampNeg) &&& 31)))), (4, .int (M 19 x3.toNatClampNeg)), (0, .ref (A 1)), (1, .int x1)]) hx hb dRu_go_88 hl (k := 4) rfl rfl (by decide) rfl (fun ls hl => ?_)
        refine lv_goto (tgt := 27) hx hb dRu_go_91 (by decide) ?_
        exact ih _ _ _ _ _ _ _ _ _ hJ (lv_sub hl [3, 4, 1, 0] rfl) h
      · replace h := jif_t c17 h
        refine lv_iconst (v := 0) hx hb dRu_go_79 (by decide) ?_
        cases h
        exact jreti (u := B16) hx hb hr rfl hlocks hJ dRu_go_80 rfl
set_option maxHeartbeats 4000000 in
set_option maxRecDepth 100000 in
theorem uRu_go_0 {p : Program} {e : Env} {s : State} {m : MethodId} {args : Array Value} {below : List Frame} {meth : Method} {c : Code} (l : Launch) (dC : Nat → ClassId) (dI : Nat → Nat → Nat) (cA : ClassId) (A : Nat → Nat) (Ap : Nat → Prop) (hC : jAt p s m args meth c bRu_go 5 (some .boolean) wRu_go RRu) (hA : ∀ q : Nat, s.heap.size ≤ q → Ap q) {r : Int32} {M' : jM} {F' : jF} : ∀ (M : jM) (F : jF) (B : Nat → Nat) (H : Heap) (locs : List Loc) (ls : Array Slot), jH (dC, dI) jCl [(cA, .int)] (jW cA A B M F) Ap s H locs → lv_has ls 5 [(0, .ref (A 1))] → fRu_go_0 M F = some (r, M', F') → W p l e (headSpec wRu_go rRu_go).room s m args below meth c H locs 0 0 (jQi below (dC, dI) jCl [(cA, .int)] (fun B => jW cA A B (M') (F')) Ap args s r) (F0 m 0 ls []) := by
  obtain ⟨hx, hb, hml, hr, hts, hown, hlocks, hN⟩ := id hC
  have hj : ∀ w ∈ jw, w.before args s = true := fun w h => hts w (List.mem_cons_of_mem _ h)
  intro  M F B H locs ls hJ hl h
  unfold fRu_go_0 at h
  refine lv_aload_n hx hb dRu_go_0 rfl (lv_at hl 0 rfl) ?_
  refine va_get (D := (dC, dI)) (ci := 1) (v := .ref (A 2)) (C := RRu) (T := TRu) (N := 11) hx hb hj iRu hown hJ.1 hJ.2.1 1 rfl rfl 0 (by decide) (hj _ jw_141) (fun _ h9 => h9) rfl dRu_go_1 ?_
  refine va_getN (D := (dC, dI)) (ci := 2) (v := .ref (A 3)) (C := RPl) (T := TPl) (N := 4) hx hb hj iPl hown hJ.1 hJ.2.1 2 rfl rfl 0 (by decide) (jnw_use hN jnw_13) (fun _ h9 => h9) rfl dRu_go_4 ?_
  refine va_getN (D := (dC, dI)) (ci := 3) (v := .int (F 0)) (C := RQu) (T := TQu) (N := 10) hx hb hj iQu hown hJ.1 hJ.2.1 3 rfl rfl 8 (by decide) (jnw_use hN jnw_7) (fun _ h9 => h9) rfl dRu_go_7 ?_
  refine lv_istore_n (lv' := [(1, .int (F 0)), (0, .ref (A 1))]) hx hb dRu_go_10 rfl hl (by decide) rfl (fun ls hl => ?_)
  refine lv_aload_n hx hb dRu_go_11 rfl (lv_at hl 1 rfl) ?_
  refine va_get (D := (dC, dI)) (ci := 1) (v := .ref (A 2)) (C := RRu) (T := TRu) (N := 11) hx hb hj iRu hown hJ.1 hJ.2.1 1 rfl rfl 0 (by decide) (hj _ jw_141) (fun _ h9 => h9) rfl dRu_go_12 ?_
  obtain ⟨q1, hq1, h⟩ := jbi_h h
  refine jcallv (w' := fun B => jW cA A B q1.2.1 q1.2.2) (va_runV (As := []) (rest := []) ⟨hx, hb, hml, hown, hts⟩ (cPl_make l dC dI cA A M F B H.size hq1) (cwV 0 hts (jgoodV jw_513 jw_409 jw_410 jw_3 jw_411) rfl rfl rfl (by decide +kernel) ⟨Nat.le_of_ble_eq_true rfl, Nat.le_of_ble_eq_true rfl⟩) (jpreV hN hJ (ci := 2) (q0 := 2) rfl rfl) rfl rfl hl.1 rfl (lv_room (Nat.le_of_ble_eq_true rfl)) dRu_go_15 ⟨Nat.zero_le _, Nat.zero_le _⟩) hA hJ (fun B2 H locs hJ => ?_)
  refine lv_aload_n hx hb dRu_go_18 rfl (lv_at hl 1 rfl) ?_
  refine lv_iload_n hx hb dRu_go_19 rfl (lv_at hl 0 rfl) ?_
  obtain ⟨q3, hq3, h⟩ := jbi_h h
  refine jcallv (w' := fun B => jW cA A B q3.2.1 q3.2.2) (va_runV (As := [.int (F 0)]) (rest := []) ⟨hx, hb, hml, hown, hts⟩ (cRu_begin l dC dI cA A (F 0) q1.2.1 q1.2.2 B2 H.size hq3) (cwV 1 hts (jgoodV jw_514 jw_516 jws_10 jw_2 jw_517) rfl rfl rfl (by decide +kernel) ⟨Nat.le_of_ble_eq_true rfl, Nat.le_of_ble_eq_true rfl⟩) (jpreV hN hJ (ci := 1) (q0 := 1) rfl rfl) rfl rfl hl.1 rfl (lv_room (Nat.le_of_ble_eq_true rfl)) dRu_go_20 ⟨Nat.zero_le _, Nat.zero_le _⟩) hA hJ (fun B4 H locs hJ => ?_)
  refine lv_iconst (v := 0) hx hb dRu_go_23 (by decide) ?_
  refine lv_istore_n (lv' := [(2, .int 0), (1, .int (F 0)), (0, .ref (A 1))]) hx hb dRu_go_24 rfl hl (by decide) rfl (fun ls hl => ?_)
  refine lv_iconst (v := 0) hx hb dRu_go_25 (by decide) ?_
  refine lv_istore_n (lv' := [(3, .int 0), (2, .int 0), (1, .int (F 0)), (0, .ref (A 1))]) hx hb dRu_go_26 rfl hl (by decide) rfl (fun ls hl => ?_)
  exact uRu_go_27 l dC dI cA A Ap hC hA jfuel _ _ _ _ _ _ _ _ _ hJ (lv_sub hl [3, 2, 1, 0] rfl) h
set_option maxHeartbeats 4000000 in
set_option maxRecDepth 100000 in
theorem cRu_go (l : Launch) (dC : Nat → ClassId) (dI : Nat → Nat → Nat) (cA : ClassId) (A : Nat → Nat) (M : jM) (F : jF) (B : Nat → Nat) (sz : Nat) {r : Int32} {M' : jM} {F' : jF} (h : fRu_go M F = some (r, M', F')) : jCi l yRu_go wRu_go rRu_go (dC, dI) jCl [(cA, .int)] [.ref (A 1)] (jW cA A B M F) sz r (fun B => jW cA A B (M') (F')) :=
  jOf (Qc := fun Ap => va_Qi (fun q (_ : Nat → Nat) => q = r) (jPost (dC, dI) jCl [(cA, .int)] (fun B => jW cA A B (M') (F')) Ap) Ap) (by decide) rfl (Nat.le_of_ble_eq_true rfl) (fun p e s m below meth c Ap ls hC hA hJ hl => uRu_go_0 l dC dI cA A Ap hC hA _ _ _ _ _ _ hJ (lv_sub hl [0] rfl) h)
end
section
/-! what a throw needs of the state -/
def jdw : List Cond := [(Jvm.Cond.castable "java/lang/IllegalArgumentException" "java/lang/IllegalArgumentException"), (Jvm.Cond.castable "java/lang/UnsupportedOperationException" "java/lang/UnsupportedOperationException"), (Jvm.Cond.castable "java/util/NoSuchElementException" "java/util/NoSuchElementException"), (Jvm.Cond.declares ({ cls := "java/lang/RuntimeException", name := "<init>", desc := "(Ljava/lang/String;)V" } : Jvm.MethodName)), (Jvm.Cond.declares ({ cls := "java/lang/Exception", name := "<init>", desc := "(Ljava/lang/String;)V" } : Jvm.MethodName)), (Jvm.Cond.declares ({ cls := "java/lang/Throwable", name := "<init>", desc := "(Ljava/lang/String;)V" } : Jvm.MethodName))]
theorem jdw_moved {w : Cond} {u U : State} (hvm : u.vm.Alike U.vm) (hw : w ∈ jdw) (h : va_Nw w u) : va_Nw w U := by
  have tr : ∀ {c : Cond}, c.onTables = true → c.before #[] (u.setVm U.vm) = true → c.before #[] U = true := by
    intro c hc h
    have e := Cond.onTables_vm (A := #[]) (A' := #[]) (U := u) (U' := U) U.vm c hc
    have hU : U.setVm U.vm = U := rfl
    rw [hU] at e
    rw [← e]
    exact h
  simp only [jdw, List.mem_cons, List.not_mem_nil, or_false] at hw
  rcases hw with rfl | rfl | rfl | rfl | rfl | rfl
  · exact tr rfl (by rw [Cond.castable_setVm hvm]; exact h)
  · exact tr rfl (by rw [Cond.castable_setVm hvm]; exact h)
  · exact tr rfl (by rw [Cond.castable_setVm hvm]; exact h)
  · exact tr rfl (by rw [Cond.declares_setVm hvm]; exact h)
  · exact tr rfl (by rw [Cond.declares_setVm hvm]; exact h)
  · exact tr rfl (by rw [Cond.declares_setVm hvm]; exact h)
theorem jdw_use {w : Cond} {args : Array Value} {s : State} (hw : w ∈ jdw) (h : va_Nw w s) : w.before args s = true := by
  simp only [jdw, List.mem_cons, List.not_mem_nil, or_false] at hw
  rcases hw with rfl | rfl | rfl | rfl | rfl | rfl <;> exact va_Nw.use rfl h
def jstr : List (Nat × String) := [(41, "no such table"), (46, "no such column"), (60, "the table has 30 rows"), (73, "there are six generators"), (133, "no such generator"), (138, "there are twelve conditions"), (140, "no such place"), (108, "more than 3000 choices at a generator"), (118, "no such way"), (124, "the run had no such generator")]
def jX (A : Nat → Prop) (U : State) (H : Heap) : Prop := (∀ w ∈ jdw, va_Nw w U) ∧ (∀ q ∈ jstr, ∃ a : Nat, vk_R RJh q.1 q.2 a U) ∧ vx_Zq Bundle.tN "UNASSIGNED_STACK" Bundle.steD A U H ∧ vx_Zq Bundle.tN "SUPPRESSED_SENTINEL" Bundle.listD A U H
theorem jX_warm {A : Nat → Prop} {s U : State} {H : Heap} (hW : s.WarmedH U.vm) (h : jX A s H) : jX A U H :=
  ⟨fun w hw => jdw_moved hW.alike hw (h.1 w hw), fun q hq => by obtain ⟨a, ha⟩ := h.2.1 q hq; exact ⟨a, vk_R.warm hW ha⟩, h.2.2.1.moved hW.alike, h.2.2.2.moved hW.alike⟩
theorem jX_same {A : Nat → Prop} {u U : State} {H : Heap} (hv : U.vm = u.vm) (h : jX A u H) : jX A U H :=
  ⟨fun w hw => jdw_moved (by rw [hv]; exact Vm.Alike.refl u.vm) hw (h.1 w hw), fun q hq => by obtain ⟨a, ha⟩ := h.2.1 q hq; exact ⟨a, vk_R.same hv ha⟩, h.2.2.1.moved (by rw [hv]; exact Vm.Alike.refl u.vm), h.2.2.2.moved (by rw [hv]; exact Vm.Alike.refl u.vm)⟩
theorem jX_kept {A B : Nat → Prop} {U : State} {H H1 : Heap} (h : jX A U H) (hq : ∀ a : Nat, a < H.size → ¬ A a → H1[a]? = H[a]?) (hAB : ∀ q, B q → A q) : jX B U H1 :=
  ⟨h.1, h.2.1, (h.2.2.1.kept hq).narrow hAB, (h.2.2.2.kept hq).narrow hAB⟩
/-- the thrown classes by number -/
def jxn (k : Nat) : String := match k with
  | 1 => "java/lang/IllegalArgumentException"
  | 2 => "java/lang/UnsupportedOperationException"
  | _ => "java/util/NoSuchElementException"
theorem jk_no {k : Nat} {α : Type} {a b : α} (h : some (k + 1, a) = some (0, b)) : False := by
  have := congrArg (fun z => z.map Prod.fst) h
  simp at this
theorem jk_no2 {k : Nat} {α : Type} {a b : α} (h : some (0, a) = some (k + 1, b)) : False := jk_no h.symm
theorem jk_no3 {k : Nat} {α : Type} {a b : α} (hk : ¬ k = 0) (h : some (k, a) = some (0, b)) : False := by
  have := congrArg (fun z => z.map Prod.fst) h
  simp at this
  exact hk this
abbrev jPreX (D : va_G) (cl : List vw_C) (tys : List (ClassId × FieldType)) (w : va_W) (sz : Nat) : State → Prop := fun U => jPre D cl tys w sz U ∧ jX (va_A w sz) U U.heap
abbrev jXC {β : Type} (D : va_G) (cl : List vw_C) (tys : List (ClassId × FieldType)) (w' : β → va_W) (Ap : Nat → Prop) (k : Nat) : String → State → State → Prop := vx_X (fun _ : β => True) (fun E u t => E = jxn k ∧ jPost D cl tys w' Ap u t) Ap
abbrev jQx {β : Type} (below : List Frame) (D : va_G) (cl : List vw_C) (tys : List (ClassId × FieldType)) (w' : β → va_W) (Ap : Nat → Prop) (args : Array Value) (s : State) (k : Nat) : State → Prop := vx_MQ below (fun _ _ _ _ => False) (jXC D cl tys w' Ap k) args s 1 6 Ap
/-- a method that throws -/
abbrev jCx {β : Type} (l : Launch) (y : MethodName) (ws : List Cond) (rm : Room) (D : va_G) (cl : List vw_C) (tys : List (ClassId × FieldType)) (as : List Value) (w : va_W) (sz k : Nat) (w' : β → va_W) : Prop :=
  vx_Met l y ws rm (va_Pc as (jPreX D cl tys w sz)) (fun _ _ _ _ => False) (jXC D cl tys w' (va_A w sz) k) 1 6 (va_A w sz)
abbrev jAtX (l : Launch) (Ap : Nat → Prop) (s : State) (c : Code) : Prop := l.stackTraces = false ∧ jX Ap s s.heap ∧ ∀ x ∈ c.exceptionTable.toList, False
theorem jOfX {β : Type} {l : Launch} {y : MethodName} {ws ws' : List Cond} {rm : Room} {D : va_G} {cl : List vw_C} {tys : List (ClassId × FieldType)} {as : List Value} {w : va_W} {sz k : Nat} {w' : β → va_W} {cc : ByteArray} {nL : Nat} {ret : Option FieldType} (hl0 : l.stackTraces = false) (hy : plainName y.cls = true) (hw : ws = Cond.code y cc nL ret :: ws') (hsl : (lg_sl as).length ≤ nL)
    (body : ∀ (p : Program) (e : Env) (s : State) (m : MethodId) (below : List Frame) (meth : Method) (c : Code) (Ap : Nat → Prop) (ls : Array Slot), jAt p s m as.toArray meth c cc nL ret ws y.cls → jAtX l Ap s c → (∀ q : Nat, s.heap.size ≤ q → Ap q) → jH D cl tys w Ap s s.heap [] → lv_has ls nL (lv_args 0 as) →
      W p l e (headSpec ws rm).room s m as.toArray below meth c s.heap [] 0 0 (jQx below D cl tys w' Ap as.toArray s k) (F0 m 0 ls [])) :
    jCx l y ws rm D cl tys as w sz k w' := by
  refine vx_ofW (cc := cc) (maxL := nL) (ret := ret) hy hw ?_
  intro p e s m args below meth c s₁ B hml hnt hv
  obtain ⟨rfl, ⟨hsz, hP, hK, hD0, hN⟩, hX⟩ := hv
  have hown : s.vm.findClass y.cls = some m.cls := findClass_of_methodNamed B.named
  subst hsz
  have hl := lv_entry as (n := nL) hsl
  rw [lg_entry_eq]
  exact body p e s m below meth c (va_A w s.heap.size) _ ⟨B.exec, B.bytes, hml, B.returns, atoms_spec (ws := ws) B.pre, hown, B.notSynchronized, hN⟩ ⟨hl0, hX, hnt⟩ (fun q h => Or.inr h) ⟨hK, hP, hD0.self, va_S.rf⟩ hl
section JXCall
variable {p : Program} {l : Launch} {e : Env} {R : Room} {s : State} {m : MethodId} {args : Array Value} {below : List Frame} {meth : Method} {c : Code} {H : Heap} {locs : List Loc} {Q : State → Prop}
variable {β : Type} {D : va_G} {cl : List vw_C} {tys : List (ClassId × FieldType)} {w : va_W} {w' : β → va_W} {Ap : Nat → Prop} {pc : Nat} {ls : Array Slot} {st0 rest : List Value} {k : Nat}
theorem jXat (hX : jX Ap s s.heap) (hA : ∀ q : Nat, s.heap.size ≤ q → Ap q) (hJ : jH D cl tys w Ap s H locs) {U : State} (hU : U.heap = H) (hW : s.WarmedH U.vm) : jX (va_A w H.size) U U.heap := by
  have h1 := jX_kept (B := va_A w H.size) hX hJ.2.2.2.2.1 (jfree hA hJ)
  rw [hU]
  exact jX_warm hW h1
theorem jblindX {as : List Value} {sz : Nat} : FrameBlind (va_Pc as (jPreX D cl tys w sz)) := by
  intro a U g mk q
  obtain ⟨q0, ⟨q1, qP, qK, qD, qN⟩, qX⟩ := q
  exact ⟨q0, ⟨q1, qP, va_K.moved (u := U) (U := U.calling g mk a) (Vm.Alike.refl U.vm) qK, qD, jN_same (u := U) (U := U.calling g mk a) rfl qN⟩, jX_same (u := U) (U := U.calling g mk a) rfl qX⟩
theorem jpreVX {as : List Value} {b q0 ci : Nat} {q : vw_C} {fs : List Value} (hX : jX Ap s s.heap) (hA : ∀ q : Nat, s.heap.size ≤ q → Ap q) (hN : jN s) (hJ : jH D cl tys w Ap s H locs) (hc : cl[ci]? = some q) (he : w[q0]? = some (b, .inr (ci, fs))) : PreV s H q.1 b (va_Pc (.ref b :: as) (jPreX D cl tys w H.size)) as :=
  ⟨jblindX, va_recv hJ.1 hJ.2.1 hc he, fun U hU hW => ⟨rfl, ⟨by rw [hU], by rw [hU]; exact hJ.2.1, va_K.moved hW.alike hJ.1, hJ.2.2.1.weaken (fun _ _ _ _ => trivial), jN_warm hW hN⟩, jXat hX hA hJ hU hW⟩⟩
theorem jxcall (hr : vx_Run p l e R s m args below meth c H locs 0 0 1 6 (F0 m pc ls st0) rest (fun _ _ _ => False) (jXC D cl tys w' (va_A w H.size) k) (va_A w H.size)) (hA : ∀ q : Nat, s.heap.size ≤ q → Ap q) (hJ : jH D cl tys w Ap s H locs) (ht : ∀ x ∈ c.exceptionTable.toList, False) (hlocks : meth.locks = false) :
    W p l e R s m args below meth c H locs 0 0 (jQx below D cl tys w' Ap args s k) (F0 m pc ls st0) := by
  intro T hT X
  rcases hr T hT X with ⟨v, st₀, t, T', L, h0, X', hL, e1, e2, hq, st⟩ | ⟨q, st₀, t, T', L, E, ce, h0, X', hL, e1, e2, ⟨u, -, ⟨hE, hP1, hK1, hD1⟩, hF⟩, hce, hcv, hcl, st⟩
  · exact hq.elim
  · obtain ⟨k1, k2, k3⟩ := vx_keep h0 e1 hJ.2.2.2 (fun q _ h => jfree hA hJ q h) (jfree hA hJ) hL hF
    obtain ⟨t2, a1, b1⟩ := vx_out (pc := pc) (ls := ls) (rest := rest) (E := E) (ce := ce) (q := q) (mc := 1) (ms := 6) (Qc := fun _ _ _ _ => False) (XC := jXC D cl tys w' Ap k) (free := Ap) (H := T'.heap) (locs := locs ++ L) (cells := 0 + 1) (slots := 0 + 6) (p := p) (l := l) (e := e) (R := R) (s := s) (m := m) (args := args) (below := below) (meth := meth) (c := c)
      (fun x hx => (ht x hx).elim) hlocks (by rw [e1]; exact hce) hcv hcl (fun t2 ht2 hal => ⟨u, trivial, ⟨hE, by rw [ht2, e1]; exact hP1, va_K.moved hal hJ.1, hD1.weaken (fun _ _ _ h => jfree hA hJ _ h)⟩, k3.F ht2⟩) k3.2.2 (Nat.le_refl _) (Nat.le_refl _) T' rfl X'
    exact ⟨t2, st.trans a1, b1⟩
theorem jthrow {cc : ByteArray} {nL ik is ic : Nat} {cls text : String} {u : β} (hexec : p.tables.exec = Jvm.exec) (hb : c.code = cc) (hml : c.maxLocals = nL) (hown : s.vm.findClass RJh = some m.cls) (hj : ∀ w ∈ jw, w.before args s = true) (hX : jAtX l Ap s c) (hlocks : meth.locks = false) (hll : ls.size = nL) (hJ : jH D cl tys (w' u) Ap s H locs)
    (hkind : jxn k = cls) (hfit : Bundle.fit cls = true) (hk : Cond.classLink RJh ik cls ∈ jw) (hini : Cond.initialized cls ∈ jw) (hs : (is, text) ∈ jstr)
    (hg : ∀ w ∈ (vx_atS RJh ic cls ["java/lang/RuntimeException", "java/lang/Exception"]).filter goodWord, w ∈ jw) (hng : ∀ w ∈ (vx_atS RJh ic cls ["java/lang/RuntimeException", "java/lang/Exception"]).filter (fun w => !goodWord w), w ∈ jdw) (hgood : ∀ w ∈ Cond.classLink RJh ik cls :: Cond.initialized cls :: vx_atS RJh ic cls ["java/lang/RuntimeException", "java/lang/Exception"], vx_ot w = true)
    (d0 : decode cc pc = .ok (.new ik, 3)) (d3 : decode cc (pc + 3) = .ok (.dup, 1)) (d4 : decode cc (pc + 4) = .ok (.ldc is, 2)) (d6 : decode cc (pc + 6) = .ok (.invokespecial ic, 3)) (d9 : decode cc (pc + 9) = .ok (.athrow, 1))
    (hRf : 5 < R.frames) (hRl : (rest.map fun v => v.category).sum + 82 ≤ R.locals) (hRc : 1 ≤ R.cells) (hRs : 6 ≤ R.slots) :
    W p l e R s m args below meth c H locs 0 0 (jQx below D cl tys w' Ap args s k) (F0 m pc ls rest) := by
  obtain ⟨hl0, hX0, ht⟩ := hX
  obtain ⟨sa, hsa⟩ := hX0.2.1 _ hs
  refine vx_throwS (sa := sa) (text := text) (names := ["java/lang/RuntimeException", "java/lang/Exception"]) (A := Ap) hexec hb hl0 hown hfit (by decide +kernel) (hj _ hk) (hj _ hini) hsa (vx_hat (B := jdw) (fun w hw => hj w (hg w hw)) hng (fun w hw => jdw_use hw (hX0.1 w hw))) hgood hX0.2.2.1 hX0.2.2.2 hJ.2.2.2 (hll.trans hml.symm) d0 d3 d4 d6 d9 (fun x hx => (ht x hx).elim) hRf hRl (by simpa using hRc) (by simpa using hRs) hlocks ?_ hJ.2.2.2.2.2 (Nat.le_refl _) (Nat.le_refl _)
  intro t hal hsz hk2
  refine ⟨u, trivial, ⟨hkind.symm, hJ.2.1.kept (fun k q hk => hk2 q.1 (vx_lt hJ.2.1 hk)), va_K.moved hal hJ.1, hJ.2.2.1⟩, Nat.le_trans hJ.2.2.2.1 hsz, fun q h1 h2 => ?_⟩
  rw [hk2 q (Nat.lt_of_lt_of_le h1 hJ.2.2.2.1)]
  exact hJ.2.2.2.2.1 q h1 h2
end JXCall
theorem jtk_1 : Cond.classLink RJh 39 "java/lang/IllegalArgumentException" ∈ jw := by decide +kernel
theorem jti_1 : Cond.initialized "java/lang/IllegalArgumentException" ∈ jw := by decide +kernel
theorem jtg_1 : ∀ w ∈ (vx_atS RJh 43 "java/lang/IllegalArgumentException" ["java/lang/RuntimeException", "java/lang/Exception"]).filter goodWord, w ∈ jw := by decide +kernel
theorem jtn_1 : ∀ w ∈ (vx_atS RJh 43 "java/lang/IllegalArgumentException" ["java/lang/RuntimeException", "java/lang/Exception"]).filter (fun w => !goodWord w), w ∈ jdw := by decide +kernel
theorem jto_1 : ∀ w ∈ Cond.classLink RJh 39 "java/lang/IllegalArgumentException" :: Cond.initialized "java/lang/IllegalArgumentException" :: vx_atS RJh 43 "java/lang/IllegalArgumentException" ["java/lang/RuntimeException", "java/lang/Exception"], vx_ot w = true := by decide +kernel
theorem jthrow_1 {p : Program} {l : Launch} {e : Env} {R : Room} {s : State} {m : MethodId} {args : Array Value} {below : List Frame} {meth : Method} {c : Code} {H : Heap} {locs : List Loc} {β : Type} {D : va_G} {cl : List vw_C} {tys : List (ClassId × FieldType)} {w' : β → va_W} {Ap : Nat → Prop} {pc : Nat} {ls : Array Slot} {rest : List Value} {cc : ByteArray} {nL is : Nat} {text : String} {u : β} (hexec : p.tables.exec = Jvm.exec) (hb : c.code = cc) (hml : c.maxLocals = nL) (hown : s.vm.findClass RJh = some m.cls) (hj : ∀ w ∈ jw, w.before args s = true) (hX : jAtX l Ap s c) (hlocks : meth.locks = false) (hll : ls.size = nL) (hJ : jH D cl tys (w' u) Ap s H locs) (hs : (is, text) ∈ jstr)
    (d0 : decode cc pc = .ok (.new 39, 3)) (d3 : decode cc (pc + 3) = .ok (.dup, 1)) (d4 : decode cc (pc + 4) = .ok (.ldc is, 2)) (d6 : decode cc (pc + 6) = .ok (.invokespecial 43, 3)) (d9 : decode cc (pc + 9) = .ok (.athrow, 1))
    (hRf : 5 < R.frames) (hRl : (rest.map fun v => v.category).sum + 82 ≤ R.locals) (hRc : 1 ≤ R.cells) (hRs : 6 ≤ R.slots) :
    W p l e R s m args below meth c H locs 0 0 (jQx below D cl tys w' Ap args s 1) (F0 m pc ls rest) := 
  jthrow hexec hb hml hown hj hX hlocks hll hJ rfl (by decide +kernel) jtk_1 jti_1 hs jtg_1 jtn_1 jto_1 d0 d3 d4 d6 d9 hRf hRl hRc hRs
theorem jtk_2 : Cond.classLink RJh 58 "java/lang/UnsupportedOperationException" ∈ jw := by decide +kernel
theorem jti_2 : Cond.initialized "java/lang/UnsupportedOperationException" ∈ jw := by decide +kernel
theorem jtg_2 : ∀ w ∈ (vx_atS RJh 62 "java/lang/UnsupportedOperationException" ["java/lang/RuntimeException", "java/lang/Exception"]).filter goodWord, w ∈ jw := by decide +kernel
theorem jtn_2 : ∀ w ∈ (vx_atS RJh 62 "java/lang/UnsupportedOperationException" ["java/lang/RuntimeException", "java/lang/Exception"]).filter (fun w => !goodWord w), w ∈ jdw := by decide +kernel
theorem jto_2 : ∀ w ∈ Cond.classLink RJh 58 "java/lang/UnsupportedOperationException" :: Cond.initialized "java/lang/UnsupportedOperationException" :: vx_atS RJh 62 "java/lang/UnsupportedOperationException" ["java/lang/RuntimeException", "java/lang/Exception"], vx_ot w = true := by decide +kernel
theorem jthrow_2 {p : Program} {l : Launch} {e : Env} {R : Room} {s : State} {m : MethodId} {args : Array Value} {below : List Frame} {meth : Method} {c : Code} {H : Heap} {locs : List Loc} {β : Type} {D : va_G} {cl : List vw_C} {tys : List (ClassId × FieldType)} {w' : β → va_W} {Ap : Nat → Prop} {pc : Nat} {ls : Array Slot} {rest : List Value} {cc : ByteArray} {nL is : Nat} {text : String} {u : β} (hexec : p.tables.exec = Jvm.exec) (hb : c.code = cc) (hml : c.maxLocals = nL) (hown : s.vm.findClass RJh = some m.cls) (hj : ∀ w ∈ jw, w.before args s = true) (hX : jAtX l Ap s c) (hlocks : meth.locks = false) (hll : ls.size = nL) (hJ : jH D cl tys (w' u) Ap s H locs) (hs : (is, text) ∈ jstr)
    (d0 : decode cc pc = .ok (.new 58, 3)) (d3 : decode cc (pc + 3) = .ok (.dup, 1)) (d4 : decode cc (pc + 4) = .ok (.ldc is, 2)) (d6 : decode cc (pc + 6) = .ok (.invokespecial 62, 3)) (d9 : decode cc (pc + 9) = .ok (.athrow, 1))
    (hRf : 5 < R.frames) (hRl : (rest.map fun v => v.category).sum + 82 ≤ R.locals) (hRc : 1 ≤ R.cells) (hRs : 6 ≤ R.slots) :
    W p l e R s m args below meth c H locs 0 0 (jQx below D cl tys w' Ap args s 2) (F0 m pc ls rest) := 
  jthrow hexec hb hml hown hj hX hlocks hll hJ rfl (by decide +kernel) jtk_2 jti_2 hs jtg_2 jtn_2 jto_2 d0 d3 d4 d6 d9 hRf hRl hRc hRs
theorem jtk_3 : Cond.classLink RJh 116 "java/util/NoSuchElementException" ∈ jw := by decide +kernel
theorem jti_3 : Cond.initialized "java/util/NoSuchElementException" ∈ jw := by decide +kernel
theorem jthrow_3 {p : Program} {l : Launch} {e : Env} {R : Room} {s : State} {m : MethodId} {args : Array Value} {below : List Frame} {meth : Method} {c : Code} {H : Heap} {locs : List Loc} {β : Type} {D : va_G} {cl : List vw_C} {tys : List (ClassId × FieldType)} {w' : β → va_W} {Ap : Nat → Prop} {pc : Nat} {ls : Array Slot} {rest : List Value} {cc : ByteArray} {nL is : Nat} {text : String} {u : β} (hexec : p.tables.exec = Jvm.exec) (hb : c.code = cc) (hml : c.maxLocals = nL) (hown : s.vm.findClass RJh = some m.cls) (hj : ∀ w ∈ jw, w.before args s = true) (hX : jAtX l Ap s c) (hlocks : meth.locks = false) (hll : ls.size = nL) (hJ : jH D cl tys (w' u) Ap s H locs) (hs : (is, text) ∈ jstr)
    (d0 : decode cc pc = .ok (.new 116, 3)) (d3 : decode cc (pc + 3) = .ok (.dup, 1)) (d4 : decode cc (pc + 4) = .ok (.ldc is, 2)) (d6 : decode cc (pc + 6) = .ok (.invokespecial 120, 3)) (d9 : decode cc (pc + 9) = .ok (.athrow, 1))
    (hRf : 5 < R.frames) (hRl : (rest.map fun v => v.category).sum + 82 ≤ R.locals) (hRc : 1 ≤ R.cells) (hRs : 6 ≤ R.slots) :
    W p l e R s m args below meth c H locs 0 0 (jQx below D cl tys w' Ap args s 3) (F0 m pc ls rest) := by
  sorry
end
section
abbrev bJh_table : ByteArray := prog_1_method_2_code
abbrev yJh_table : MethodName := ⟨RJh, "table", "(II)V"⟩
abbrev wJh_table : List Cond := .code yJh_table bJh_table 3 none :: jw
theorem dJh_table_0 : decode bJh_table 0 = .ok (.iload_n 1, 1) := by decide +kernel
theorem dJh_table_1 : decode bJh_table 1 = .ok (.invokestatic 35, 3) := by decide +kernel
theorem dJh_table_4 : decode bJh_table 4 = .ok (.ifCond .ne 13, 3) := by decide +kernel
theorem dJh_table_7 : decode bJh_table 7 = .ok (.new 39, 3) := by decide +kernel
theorem dJh_table_10 : decode bJh_table 10 = .ok (.dup, 1) := by decide +kernel
theorem dJh_table_11 : decode bJh_table 11 = .ok (.ldc 41, 2) := by decide +kernel
theorem dJh_table_13 : decode bJh_table 13 = .ok (.invokespecial 43, 3) := by decide +kernel
theorem dJh_table_16 : decode bJh_table 16 = .ok (.athrow, 1) := by decide +kernel
theorem dJh_table_17 : decode bJh_table 17 = .ok (.iload_n 2, 1) := by decide +kernel
theorem dJh_table_18 : decode bJh_table 18 = .ok (.ifCond .lt 9, 3) := by decide +kernel
theorem dJh_table_21 : decode bJh_table 21 = .ok (.iload_n 2, 1) := by decide +kernel
theorem dJh_table_22 : decode bJh_table 22 = .ok (.bipush 16, 2) := by decide +kernel
theorem dJh_table_24 : decode bJh_table 24 = .ok (.if_icmp .lt 13, 3) := by decide +kernel
theorem dJh_table_27 : decode bJh_table 27 = .ok (.new 39, 3) := by decide +kernel
theorem dJh_table_30 : decode bJh_table 30 = .ok (.dup, 1) := by decide +kernel
theorem dJh_table_31 : decode bJh_table 31 = .ok (.ldc 46, 2) := by decide +kernel
theorem dJh_table_33 : decode bJh_table 33 = .ok (.invokespecial 43, 3) := by decide +kernel
theorem dJh_table_36 : decode bJh_table 36 = .ok (.athrow, 1) := by decide +kernel
theorem dJh_table_37 : decode bJh_table 37 = .ok (.aload_n 0, 1) := by decide +kernel
theorem dJh_table_38 : decode bJh_table 38 = .ok (.getfield 34, 3) := by decide +kernel
theorem dJh_table_41 : decode bJh_table 41 = .ok (.iload_n 1, 1) := by decide +kernel
theorem dJh_table_42 : decode bJh_table 42 = .ok (.iload_n 2, 1) := by decide +kernel
theorem dJh_table_43 : decode bJh_table 43 = .ok (.invokevirtual 48, 3) := by decide +kernel
theorem dJh_table_46 : decode bJh_table 46 = .ok (.return_, 1) := by decide +kernel
abbrev rJh_table : Room := { frames := 1, cells := 0, slots := 0, locals := 23 }
abbrev rxJh_table : Room := { frames := 6, cells := 1, slots := 6, locals := 90 }
def fJh_table_27 (M : jM) (F : jF) : Option (Nat × Int32 × jM × jF) := some (1, 0, M, F)
def fJh_table_0 (x1 : Int32) (x2 : Int32) (M : jM) (F : jF) : Option (Nat × Int32 × jM × jF) := ((fJh_isTable x1 M F).bind fun q1 => (if q1 = 0 then some (1, 0, M, F) else (if x2 < 0 then fJh_table_27  M F else (if x2 < 16 then ((fTa_empty x1 x2 M F).bind fun q5 => some (0, 0, q5.2.1, q5.2.2)) else fJh_table_27  M F))))
abbrev fJh_table (x1 : Int32) (x2 : Int32) (M : jM) (F : jF) : Option (Nat × Int32 × jM × jF) := fJh_table_0 x1 x2 M F
set_option maxHeartbeats 4000000 in
set_option maxRecDepth 100000 in
theorem uJh_table_27 {p : Program} {e : Env} {s : State} {m : MethodId} {args : Array Value} {below : List Frame} {meth : Method} {c : Code} (l : Launch) (dC : Nat → ClassId) (dI : Nat → Nat → Nat) (cA : ClassId) (A : Nat → Nat) (Ap : Nat → Prop) (hC : jAt p s m args meth c bJh_table 3 none wJh_table RJh) (hA : ∀ q : Nat, s.heap.size ≤ q → Ap q) {r : Int32} {M' : jM} {F' : jF} : ∀ (M : jM) (F : jF) (B : Nat → Nat) (H : Heap) (locs : List Loc) (ls : Array Slot), jH (dC, dI) jCl [(cA, .int)] (jW cA A B M F) Ap s H locs → lv_has ls 3 [] → fJh_table_27 M F = some (0, r, M', F') → W p l e (headSpec wJh_table rJh_table).room s m args below meth c H locs 0 0 (jQv below (dC, dI) jCl [(cA, .int)] (fun B => jW cA A B (M') (F')) Ap args s) (F0 m 27 ls []) := by
  obtain ⟨hx, hb, hml, hr, hts, hown, hlocks, hN⟩ := id hC
  have hj : ∀ w ∈ jw, w.before args s = true := fun w h => hts w (List.mem_cons_of_mem _ h)
  intro  M F B H locs ls hJ hl h
  unfold fJh_table_27 at h
  exact (jk_no h).elim
set_option maxHeartbeats 4000000 in
set_option maxRecDepth 100000 in
theorem uJh_table_0 {p : Program} {e : Env} {s : State} {m : MethodId} {args : Array Value} {below : List Frame} {meth : Method} {c : Code} (l : Launch) (dC : Nat → ClassId) (dI : Nat → Nat → Nat) (cA : ClassId) (A : Nat → Nat) (Ap : Nat → Prop) (hC : jAt p s m args meth c bJh_table 3 none wJh_table RJh) (hA : ∀ q : Nat, s.heap.size ≤ q → Ap q) {r : Int32} {M' : jM} {F' : jF} : ∀ (x1 x2 : Int32) (M : jM) (F : jF) (B : Nat → Nat) (H : Heap) (locs : List Loc) (ls : Array Slot), jH (dC, dI) jCl [(cA, .int)] (jW cA A B M F) Ap s H locs → lv_has ls 3 [(0, .ref (A 0)), (1, .int x1), (2, .int x2)] → fJh_table_0 x1 x2 M F = some (0, r, M', F') → W p l e (headSpec wJh_table rJh_table).room s m args below meth c H locs 0 0 (jQv below (dC, dI) jCl [(cA, .int)] (fun B => jW cA A B (M') (F')) Ap args s) (F0 m 0 ls []) := by
  obtain ⟨hx, hb, hml, hr, hts, hown, hlocks, hN⟩ := id hC
  have hj : ∀ w ∈ jw, w.before args s = true := fun w h => hts w (List.mem_cons_of_mem _ h)
  intro x1 x2 M F B H locs ls hJ hl h
  unfold fJh_table_0 at h
  refine lv_iload_n hx hb dJh_table_0 rfl (lv_at hl 1 rfl) ?_
  obtain ⟨q1, hq1, h⟩ := jbi_h h
  refine jcalli (w' := fun B => jW cA A B M F) (va_runS (As := [.int x1]) (rest := []) ⟨hx, hb, hml, hown, hts⟩ (cJh_isTable l dC dI cA A x1 M F B H.size hq1) (va_cwS 1 hts (jgoodS jw_213 jw_214 jw_1 jw_215) rfl rfl rfl (by decide +kernel) ⟨Nat.le_of_ble_eq_true rfl, Nat.le_of_ble_eq_true rfl⟩) (jpreS hN hJ) rfl rfl hl.1 rfl (lv_room (Nat.le_of_ble_eq_true rfl)) dJh_table_1 ⟨Nat.zero_le _, Nat.zero_le _⟩) hA hJ (fun B H locs hJ => ?_)
  refine lv_if_ne (tgt := 17) hx hb dJh_table_4 (by decide) (fun c2 => ?_) (fun c2 => ?_)
  · replace h := jif_f c2 h
    refine lv_iload_n hx hb dJh_table_17 rfl (lv_at hl 2 rfl) ?_
    refine lv_if_lt (tgt := 27) hx hb dJh_table_18 (by decide) (fun c3 => ?_) (fun c3 => ?_)
    · replace h := jif_t c3 h
      exact uJh_table_27 l dC dI cA A Ap hC hA _ _ _ _ _ _ hJ (lv_sub hl [] rfl) h
    · replace h := jif_f c3 h
      refine lv_iload_n hx hb dJh_table_21 rfl (lv_at hl 2 rfl) ?_
      refine lv_bipush (v := 16) hx hb dJh_table_22 (by decide) ?_
      refine lv_icmp_lt (tgt := 37) hx hb dJh_table_24 (by decide) (fun c4 => ?_) (fun c4 => ?_)
      · replace h := jif_t c4 h
        refine lv_aload_n hx hb dJh_table_37 rfl (lv_at hl 0 rfl) ?_
        refine va_get (D := (dC, dI)) (ci := 0) (v := .ref (A 4)) (C := RJh) (T := TJh) (N := 4) hx hb hj iJh hown hJ.1 hJ.2.1 0 rfl rfl 3 (by decide) (hj _ jw_183) (fun _ h9 => h9) rfl dJh_table_38 ?_
        refine lv_iload_n hx hb dJh_table_41 rfl (lv_at hl 1 rfl) ?_
        refine lv_iload_n hx hb dJh_table_42 rfl (lv_at hl 2 rfl) ?_
        obtain ⟨q5, hq5, h⟩ := jbi_h h
        refine jcallv (w' := fun B => jW cA A B q5.2.1 q5.2.2) (va_runV (As := [.int x1, .int x2]) (rest := []) ⟨hx, hb, hml, hown, hts⟩ (cTa_empty l dC dI cA A x1 x2 M F B H.size hq5) (cwV 2 hts (jgoodV jw_285 jw_286 jw_287 jw_5 jw_288) rfl rfl rfl (by decide +kernel) ⟨Nat.le_of_ble_eq_true rfl, Nat.le_of_ble_eq_true rfl⟩) (jpreV hN hJ (ci := 4) (q0 := 4) rfl rfl) rfl rfl hl.1 rfl (lv_room (Nat.le_of_ble_eq_true rfl)) dJh_table_43 ⟨Nat.zero_le _, Nat.zero_le _⟩) hA hJ (fun B6 H locs hJ => ?_)
        cases h
        exact jretv (u := B6) hx hb hr hlocks hJ dJh_table_46
      · replace h := jif_f c4 h
        exact uJh_table_27 l dC dI cA A Ap hC hA _ _ _ _ _ _ hJ (lv_sub hl [] rfl) h
  · replace h := jif_t c2 h
    exact (jk_no h).elim
set_option maxHeartbeats 4000000 in
set_option maxRecDepth 100000 in
theorem cJh_table (l : Launch) (dC : Nat → ClassId) (dI : Nat → Nat → Nat) (cA : ClassId) (A : Nat → Nat) (x1 : Int32) (x2 : Int32) (M : jM) (F : jF) (B : Nat → Nat) (sz : Nat) {r : Int32} {M' : jM} {F' : jF} (h : fJh_table x1 x2 M F = some (0, r, M', F')) : jCv l yJh_table wJh_table rJh_table (dC, dI) jCl [(cA, .int)] [.ref (A 0), .int x1, .int x2] (jW cA A B M F) sz (fun B => jW cA A B (M') (F')) :=
  jOf (Qc := fun Ap => va_Qv (fun _ : Nat → Nat => True) (jPost (dC, dI) jCl [(cA, .int)] (fun B => jW cA A B (M') (F')) Ap) Ap) (by decide) rfl (Nat.le_of_ble_eq_true rfl) (fun p e s m below meth c Ap ls hC hA hJ hl => uJh_table_0 l dC dI cA A Ap hC hA _ _ _ _ _ _ _ _ hJ (lv_sub hl [0, 1, 2] rfl) h)
set_option maxHeartbeats 4000000 in
set_option maxRecDepth 100000 in
theorem uxJh_table_27 {p : Program} {e : Env} {s : State} {m : MethodId} {args : Array Value} {below : List Frame} {meth : Method} {c : Code} (l : Launch) (dC : Nat → ClassId) (dI : Nat → Nat → Nat) (cA : ClassId) (A : Nat → Nat) (Ap : Nat → Prop) (hX : jAtX l Ap s c) (hC : jAt p s m args meth c bJh_table 3 none wJh_table RJh) (hA : ∀ q : Nat, s.heap.size ≤ q → Ap q) {k : Nat} (hk : ¬ k = 0) {r : Int32} {M' : jM} {F' : jF} : ∀ (M : jM) (F : jF) (B : Nat → Nat) (H : Heap) (locs : List Loc) (ls : Array Slot), jH (dC, dI) jCl [(cA, .int)] (jW cA A B M F) Ap s H locs → lv_has ls 3 [] → fJh_table_27 M F = some (k, r, M', F') → W p l e (headSpec wJh_table rxJh_table).room s m args below meth c H locs 0 0 (jQx below (dC, dI) jCl [(cA, .int)] (fun B => jW cA A B (M') (F')) Ap args s k) (F0 m 27 ls []) := by
  obtain ⟨hx, hb, hml, hr, hts, hown, hlocks, hN⟩ := id hC
  have hj : ∀ w ∈ jw, w.before args s = true := fun w h => hts w (List.mem_cons_of_mem _ h)
  intro  M F B H locs ls hJ hl h
  unfold fJh_table_27 at h
  cases h
  exact jthrow_1 (text := "no such column") (u := B) hx hb hml hown hj hX hlocks hl.1 hJ (by decide) dJh_table_27 dJh_table_30 dJh_table_31 dJh_table_33 dJh_table_36 (Nat.le_of_ble_eq_true rfl) (Nat.le_of_ble_eq_true rfl) (Nat.le_of_ble_eq_true rfl) (Nat.le_of_ble_eq_true rfl)
set_option maxHeartbeats 4000000 in
set_option maxRecDepth 100000 in
theorem uxJh_table_0 {p : Program} {e : Env} {s : State} {m : MethodId} {args : Array Value} {below : List Frame} {meth : Method} {c : Code} (l : Launch) (dC : Nat → ClassId) (dI : Nat → Nat → Nat) (cA : ClassId) (A : Nat → Nat) (Ap : Nat → Prop) (hX : jAtX l Ap s c) (hC : jAt p s m args meth c bJh_table 3 none wJh_table RJh) (hA : ∀ q : Nat, s.heap.size ≤ q → Ap q) {k : Nat} (hk : ¬ k = 0) {r : Int32} {M' : jM} {F' : jF} : ∀ (x1 x2 : Int32) (M : jM) (F : jF) (B : Nat → Nat) (H : Heap) (locs : List Loc) (ls : Array Slot), jH (dC, dI) jCl [(cA, .int)] (jW cA A B M F) Ap s H locs → lv_has ls 3 [(0, .ref (A 0)), (1, .int x1), (2, .int x2)] → fJh_table_0 x1 x2 M F = some (k, r, M', F') → W p l e (headSpec wJh_table rxJh_table).room s m args below meth c H locs 0 0 (jQx below (dC, dI) jCl [(cA, .int)] (fun B => jW cA A B (M') (F')) Ap args s k) (F0 m 0 ls []) := by
  obtain ⟨hx, hb, hml, hr, hts, hown, hlocks, hN⟩ := id hC
  have hj : ∀ w ∈ jw, w.before args s = true := fun w h => hts w (List.mem_cons_of_mem _ h)
  intro x1 x2 M F B H locs ls hJ hl h
  unfold fJh_table_0 at h
  refine lv_iload_n hx hb dJh_table_0 rfl (lv_at hl 1 rfl) ?_
  obtain ⟨q1, hq1, h⟩ := jbi_h h
  refine jcalli (w' := fun B => jW cA A B M F) (va_runS (As := [.int x1]) (rest := []) ⟨hx, hb, hml, hown, hts⟩ (cJh_isTable l dC dI cA A x1 M F B H.size hq1) (va_cwS 1 hts (jgoodS jw_213 jw_214 jw_1 jw_215) rfl rfl rfl (by decide +kernel) ⟨Nat.le_of_ble_eq_true rfl, Nat.le_of_ble_eq_true rfl⟩) (jpreS hN hJ) rfl rfl hl.1 rfl (lv_room (Nat.le_of_ble_eq_true rfl)) dJh_table_1 ⟨Nat.zero_le _, Nat.zero_le _⟩) hA hJ (fun B H locs hJ => ?_)
  refine lv_if_ne (tgt := 17) hx hb dJh_table_4 (by decide) (fun c2 => ?_) (fun c2 => ?_)
  · replace h := jif_f c2 h
    refine lv_iload_n hx hb dJh_table_17 rfl (lv_at hl 2 rfl) ?_
    refine lv_if_lt (tgt := 27) hx hb dJh_table_18 (by decide) (fun c3 => ?_) (fun c3 => ?_)
    · replace h := jif_t c3 h
      exact uxJh_table_27 l dC dI cA A Ap hX hC hA hk _ _ _ _ _ _ hJ (lv_sub hl [] rfl) h
    · replace h := jif_f c3 h
      refine lv_iload_n hx hb dJh_table_21 rfl (lv_at hl 2 rfl) ?_
      refine lv_bipush (v := 16) hx hb dJh_table_22 (by decide) ?_
      refine lv_icmp_lt (tgt := 37) hx hb dJh_table_24 (by decide) (fun c4 => ?_) (fun c4 => ?_)
      · replace h := jif_t c4 h
        refine lv_aload_n hx hb dJh_table_37 rfl (lv_at hl 0 rfl) ?_
        refine va_get (D := (dC, dI)) (ci := 0) (v := .ref (A 4)) (C := RJh) (T := TJh) (N := 4) hx hb hj iJh hown hJ.1 hJ.2.1 0 rfl rfl 3 (by decide) (hj _ jw_183) (fun _ h9 => h9) rfl dJh_table_38 ?_
        refine lv_iload_n hx hb dJh_table_41 rfl (lv_at hl 1 rfl) ?_
        refine lv_iload_n hx hb dJh_table_42 rfl (lv_at hl 2 rfl) ?_
        obtain ⟨q5, hq5, h⟩ := jbi_h h
        refine jcallv (w' := fun B => jW cA A B q5.2.1 q5.2.2) (va_runV (As := [.int x1, .int x2]) (rest := []) ⟨hx, hb, hml, hown, hts⟩ (cTa_empty l dC dI cA A x1 x2 M F B H.size hq5) (cwV 2 hts (jgoodV jw_285 jw_286 jw_287 jw_5 jw_288) rfl rfl rfl (by decide +kernel) ⟨Nat.le_of_ble_eq_true rfl, Nat.le_of_ble_eq_true rfl⟩) (jpreV hN hJ (ci := 4) (q0 := 4) rfl rfl) rfl rfl hl.1 rfl (lv_room (Nat.le_of_ble_eq_true rfl)) dJh_table_43 ⟨Nat.zero_le _, Nat.zero_le _⟩) hA hJ (fun B6 H locs hJ => ?_)
        exact (jk_no3 hk h.symm).elim
      · replace h := jif_f c4 h
        exact uxJh_table_27 l dC dI cA A Ap hX hC hA hk _ _ _ _ _ _ hJ (lv_sub hl [] rfl) h
  · replace h := jif_t c2 h
    cases h
    exact jthrow_1 (text := "no such table") (u := B) hx hb hml hown hj hX hlocks hl.1 hJ (by decide) dJh_table_7 dJh_table_10 dJh_table_11 dJh_table_13 dJh_table_16 (Nat.le_of_ble_eq_true rfl) (Nat.le_of_ble_eq_true rfl) (Nat.le_of_ble_eq_true rfl) (Nat.le_of_ble_eq_true rfl)
set_option maxHeartbeats 4000000 in
set_option maxRecDepth 100000 in
theorem cxJh_table (l : Launch) (dC : Nat → ClassId) (dI : Nat → Nat → Nat) (cA : ClassId) (A : Nat → Nat) (hl0 : l.stackTraces = false) (x1 : Int32) (x2 : Int32) (M : jM) (F : jF) (B : Nat → Nat) (sz : Nat) {k : Nat} (hk : ¬ k = 0) {r : Int32} {M' : jM} {F' : jF} (h : fJh_table x1 x2 M F = some (k, r, M', F')) : jCx l yJh_table wJh_table rxJh_table (dC, dI) jCl [(cA, .int)] [.ref (A 0), .int x1, .int x2] (jW cA A B M F) sz k (fun B => jW cA A B (M') (F')) :=
  jOfX hl0 (by decide) rfl (Nat.le_of_ble_eq_true rfl) (fun p e s m below meth c Ap ls hC hX hA hJ hl => uxJh_table_0 l dC dI cA A Ap hX hC hA hk _ _ _ _ _ _ _ _ hJ (lv_sub hl [0, 1, 2] rfl) h)
abbrev bJh_row : ByteArray := prog_1_method_3_code
abbrev yJh_row : MethodName := ⟨RJh, "row", "(IIIII)I"⟩
abbrev wJh_row : List Cond := .code yJh_row bJh_row 6 (some .int) :: jw
theorem dJh_row_0 : decode bJh_row 0 = .ok (.iload_n 1, 1) := by decide +kernel
theorem dJh_row_1 : decode bJh_row 1 = .ok (.invokestatic 35, 3) := by decide +kernel
theorem dJh_row_4 : decode bJh_row 4 = .ok (.ifCond .ne 13, 3) := by decide +kernel
theorem dJh_row_7 : decode bJh_row 7 = .ok (.new 39, 3) := by decide +kernel
theorem dJh_row_10 : decode bJh_row 10 = .ok (.dup, 1) := by decide +kernel
theorem dJh_row_11 : decode bJh_row 11 = .ok (.ldc 41, 2) := by decide +kernel
theorem dJh_row_13 : decode bJh_row 13 = .ok (.invokespecial 43, 3) := by decide +kernel
theorem dJh_row_16 : decode bJh_row 16 = .ok (.athrow, 1) := by decide +kernel
theorem dJh_row_17 : decode bJh_row 17 = .ok (.aload_n 0, 1) := by decide +kernel
theorem dJh_row_18 : decode bJh_row 18 = .ok (.getfield 34, 3) := by decide +kernel
theorem dJh_row_21 : decode bJh_row 21 = .ok (.iload_n 1, 1) := by decide +kernel
theorem dJh_row_22 : decode bJh_row 22 = .ok (.invokevirtual 54, 3) := by decide +kernel
theorem dJh_row_25 : decode bJh_row 25 = .ok (.bipush 30, 2) := by decide +kernel
theorem dJh_row_27 : decode bJh_row 27 = .ok (.if_icmp .lt 13, 3) := by decide +kernel
theorem dJh_row_30 : decode bJh_row 30 = .ok (.new 58, 3) := by decide +kernel
theorem dJh_row_33 : decode bJh_row 33 = .ok (.dup, 1) := by decide +kernel
theorem dJh_row_34 : decode bJh_row 34 = .ok (.ldc 60, 2) := by decide +kernel
theorem dJh_row_36 : decode bJh_row 36 = .ok (.invokespecial 62, 3) := by decide +kernel
theorem dJh_row_39 : decode bJh_row 39 = .ok (.athrow, 1) := by decide +kernel
theorem dJh_row_40 : decode bJh_row 40 = .ok (.aload_n 0, 1) := by decide +kernel
theorem dJh_row_41 : decode bJh_row 41 = .ok (.getfield 34, 3) := by decide +kernel
theorem dJh_row_44 : decode bJh_row 44 = .ok (.iload_n 1, 1) := by decide +kernel
theorem dJh_row_45 : decode bJh_row 45 = .ok (.iload_n 2, 1) := by decide +kernel
theorem dJh_row_46 : decode bJh_row 46 = .ok (.iload_n 3, 1) := by decide +kernel
theorem dJh_row_47 : decode bJh_row 47 = .ok (.iload 4, 2) := by decide +kernel
theorem dJh_row_49 : decode bJh_row 49 = .ok (.iload 5, 2) := by decide +kernel
theorem dJh_row_51 : decode bJh_row 51 = .ok (.invokevirtual 63, 3) := by decide +kernel
theorem dJh_row_54 : decode bJh_row 54 = .ok (.ireturn, 1) := by decide +kernel
abbrev rJh_row : Room := { frames := 4, cells := 0, slots := 0, locals := 96 }
abbrev rxJh_row : Room := { frames := 6, cells := 1, slots := 6, locals := 96 }
def fJh_row_0 (x1 : Int32) (x2 : Int32) (x3 : Int32) (x4 : Int32) (x5 : Int32) (M : jM) (F : jF) : Option (Nat × Int32 × jM × jF) := ((fJh_isTable x1 M F).bind fun q1 => (if q1 = 0 then some (1, 0, M, F) else ((fTa_rows x1 M F).bind fun q3 => (if q3 < 30 then ((fTa_add x1 x2 x3 x4 x5 M F).bind fun q5 => some (0, q5.1, q5.2.1, q5.2.2)) else some (2, 0, M, F)))))
abbrev fJh_row (x1 : Int32) (x2 : Int32) (x3 : Int32) (x4 : Int32) (x5 : Int32) (M : jM) (F : jF) : Option (Nat × Int32 × jM × jF) := fJh_row_0 x1 x2 x3 x4 x5 M F
set_option maxHeartbeats 4000000 in
set_option maxRecDepth 100000 in
theorem uJh_row_0 {p : Program} {e : Env} {s : State} {m : MethodId} {args : Array Value} {below : List Frame} {meth : Method} {c : Code} (l : Launch) (dC : Nat → ClassId) (dI : Nat → Nat → Nat) (cA : ClassId) (A : Nat → Nat) (Ap : Nat → Prop) (hC : jAt p s m args meth c bJh_row 6 (some .int) wJh_row RJh) (hA : ∀ q : Nat, s.heap.size ≤ q → Ap q) {r : Int32} {M' : jM} {F' : jF} : ∀ (x1 x2 x3 x4 x5 : Int32) (M : jM) (F : jF) (B : Nat → Nat) (H : Heap) (locs : List Loc) (ls : Array Slot), jH (dC, dI) jCl [(cA, .int)] (jW cA A B M F) Ap s H locs → lv_has ls 6 [(0, .ref (A 0)), (1, .int x1), (2, .int x2), (3, .int x3), (4, .int x4), (5, .int x5)] → fJh_row_0 x1 x2 x3 x4 x5 M F = some (0, r, M', F') → W p l e (headSpec wJh_row rJh_row).room s m args below meth c H locs 0 0 (jQi below (dC, dI) jCl [(cA, .int)] (fun B => jW cA A B (M') (F')) Ap args s r) (F0 m 0 ls []) := by
  obtain ⟨hx, hb, hml, hr, hts, hown, hlocks, hN⟩ := id hC
  have hj : ∀ w ∈ jw, w.before args s = true := fun w h => hts w (List.mem_cons_of_mem _ h)
  intro x1 x2 x3 x4 x5 M F B H locs ls hJ hl h
  unfold fJh_row_0 at h
  refine lv_iload_n hx hb dJh_row_0 rfl (lv_at hl 1 rfl) ?_
  obtain ⟨q1, hq1, h⟩ := jbi_h h
  refine jcalli (w' := fun B => jW cA A B M F) (va_runS (As := [.int x1]) (rest := []) ⟨hx, hb, hml, hown, hts⟩ (cJh_isTable l dC dI cA A x1 M F B H.size hq1) (va_cwS 1 hts (jgoodS jw_213 jw_214 jw_1 jw_215) rfl rfl rfl (by decide +kernel) ⟨Nat.le_of_ble_eq_true rfl, Nat.le_of_ble_eq_true rfl⟩) (jpreS hN hJ) rfl rfl hl.1 rfl (lv_room (Nat.le_of_ble_eq_true rfl)) dJh_row_1 ⟨Nat.zero_le _, Nat.zero_le _⟩) hA hJ (fun B H locs hJ => ?_)
  refine lv_if_ne (tgt := 17) hx hb dJh_row_4 (by decide) (fun c2 => ?_) (fun c2 => ?_)
  · replace h := jif_f c2 h
    refine lv_aload_n hx hb dJh_row_17 rfl (lv_at hl 0 rfl) ?_
    refine va_get (D := (dC, dI)) (ci := 0) (v := .ref (A 4)) (C := RJh) (T := TJh) (N := 4) hx hb hj iJh hown hJ.1 hJ.2.1 0 rfl rfl 3 (by decide) (hj _ jw_183) (fun _ h9 => h9) rfl dJh_row_18 ?_
    refine lv_iload_n hx hb dJh_row_21 rfl (lv_at hl 1 rfl) ?_
    obtain ⟨q3, hq3, h⟩ := jbi_h h
    refine jcalli (w' := fun B => jW cA A B M F) (va_runV (As := [.int x1]) (rest := []) ⟨hx, hb, hml, hown, hts⟩ (cTa_rows l dC dI cA A x1 M F B H.size hq3) (cwV 1 hts (jgoodV jw_297 jw_298 jw_299 jw_5 jw_300) rfl rfl rfl (by decide +kernel) ⟨Nat.le_of_ble_eq_true rfl, Nat.le_of_ble_eq_true rfl⟩) (jpreV hN hJ (ci := 4) (q0 := 4) rfl rfl) rfl rfl hl.1 rfl (lv_room (Nat.le_of_ble_eq_true rfl)) dJh_row_22 ⟨Nat.zero_le _, Nat.zero_le _⟩) hA hJ (fun B H locs hJ => ?_)
    refine lv_bipush (v := 30) hx hb dJh_row_25 (by decide) ?_
    refine lv_icmp_lt (tgt := 40) hx hb dJh_row_27 (by decide) (fun c4 => ?_) (fun c4 => ?_)
    · replace h := jif_t c4 h
      refine lv_aload_n hx hb dJh_row_40 rfl (lv_at hl 0 rfl) ?_
      refine va_get (D := (dC, dI)) (ci := 0) (v := .ref (A 4)) (C := RJh) (T := TJh) (N := 4) hx hb hj iJh hown hJ.1 hJ.2.1 0 rfl rfl 3 (by decide) (hj _ jw_183) (fun _ h9 => h9) rfl dJh_row_41 ?_
      refine lv_iload_n hx hb dJh_row_44 rfl (lv_at hl 1 rfl) ?_
      refine lv_iload_n hx hb dJh_row_45 rfl (lv_at hl 2 rfl) ?_
      refine lv_iload_n hx hb dJh_row_46 rfl (lv_at hl 3 rfl) ?_
      refine lv_iload hx hb dJh_row_47 (lv_at hl 4 rfl) ?_
      refine lv_iload hx hb dJh_row_49 (lv_at hl 5 rfl) ?_
      obtain ⟨q5, hq5, h⟩ := jbi_h h
      refine jcalli (w' := fun B => jW cA A B q5.2.1 q5.2.2) (va_runV (As := [.int x1, .int x2, .int x3, .int x4, .int x5]) (rest := []) ⟨hx, hb, hml, hown, hts⟩ (cTa_add l dC dI cA A x1 x2 x3 x4 x5 M F B H.size hq5) (cwV 5 hts (jgoodV jw_317 jw_318 jw_319 jw_5 jw_320) rfl rfl rfl (by decide +kernel) ⟨Nat.le_of_ble_eq_true rfl, Nat.le_of_ble_eq_true rfl⟩) (jpreV hN hJ (ci := 4) (q0 := 4) rfl rfl) rfl rfl hl.1 rfl (lv_room (Nat.le_of_ble_eq_true rfl)) dJh_row_51 ⟨Nat.zero_le _, Nat.zero_le _⟩) hA hJ (fun B6 H locs hJ => ?_)
      cases h
      exact jreti (u := B6) hx hb hr rfl hlocks hJ dJh_row_54 rfl
    · replace h := jif_f c4 h
      exact (jk_no h).elim
  · replace h := jif_t c2 h
    exact (jk_no h).elim
set_option maxHeartbeats 4000000 in
set_option maxRecDepth 100000 in
theorem cJh_row (l : Launch) (dC : Nat → ClassId) (dI : Nat → Nat → Nat) (cA : ClassId) (A : Nat → Nat) (x1 : Int32) (x2 : Int32) (x3 : Int32) (x4 : Int32) (x5 : Int32) (M : jM) (F : jF) (B : Nat → Nat) (sz : Nat) {r : Int32} {M' : jM} {F' : jF} (h : fJh_row x1 x2 x3 x4 x5 M F = some (0, r, M', F')) : jCi l yJh_row wJh_row rJh_row (dC, dI) jCl [(cA, .int)] [.ref (A 0), .int x1, .int x2, .int x3, .int x4, .int x5] (jW cA A B M F) sz r (fun B => jW cA A B (M') (F')) :=
  jOf (Qc := fun Ap => va_Qi (fun q (_ : Nat → Nat) => q = r) (jPost (dC, dI) jCl [(cA, .int)] (fun B => jW cA A B (M') (F')) Ap) Ap) (by decide) rfl (Nat.le_of_ble_eq_true rfl) (fun p e s m below meth c Ap ls hC hA hJ hl => uJh_row_0 l dC dI cA A Ap hC hA _ _ _ _ _ _ _ _ _ _ _ hJ (lv_sub hl [0, 1, 2, 3, 4, 5] rfl) h)
set_option maxHeartbeats 4000000 in
set_option maxRecDepth 100000 in
theorem uxJh_row_0 {p : Program} {e : Env} {s : State} {m : MethodId} {args : Array Value} {below : List Frame} {meth : Method} {c : Code} (l : Launch) (dC : Nat → ClassId) (dI : Nat → Nat → Nat) (cA : ClassId) (A : Nat → Nat) (Ap : Nat → Prop) (hX : jAtX l Ap s c) (hC : jAt p s m args meth c bJh_row 6 (some .int) wJh_row RJh) (hA : ∀ q : Nat, s.heap.size ≤ q → Ap q) {k : Nat} (hk : ¬ k = 0) {r : Int32} {M' : jM} {F' : jF} : ∀ (x1 x2 x3 x4 x5 : Int32) (M : jM) (F : jF) (B : Nat → Nat) (H : Heap) (locs : List Loc) (ls : Array Slot), jH (dC, dI) jCl [(cA, .int)] (jW cA A B M F) Ap s H locs → lv_has ls 6 [(0, .ref (A 0)), (1, .int x1), (2, .int x2), (3, .int x3), (4, .int x4), (5, .int x5)] → fJh_row_0 x1 x2 x3 x4 x5 M F = some (k, r, M', F') → W p l e (headSpec wJh_row rxJh_row).room s m args below meth c H locs 0 0 (jQx below (dC, dI) jCl [(cA, .int)] (fun B => jW cA A B (M') (F')) Ap args s k) (F0 m 0 ls []) := by
  obtain ⟨hx, hb, hml, hr, hts, hown, hlocks, hN⟩ := id hC
  have hj : ∀ w ∈ jw, w.before args s = true := fun w h => hts w (List.mem_cons_of_mem _ h)
  intro x1 x2 x3 x4 x5 M F B H locs ls hJ hl h
  unfold fJh_row_0 at h
  refine lv_iload_n hx hb dJh_row_0 rfl (lv_at hl 1 rfl) ?_
  obtain ⟨q1, hq1, h⟩ := jbi_h h
  refine jcalli (w' := fun B => jW cA A B M F) (va_runS (As := [.int x1]) (rest := []) ⟨hx, hb, hml, hown, hts⟩ (cJh_isTable l dC dI cA A x1 M F B H.size hq1) (va_cwS 1 hts (jgoodS jw_213 jw_214 jw_1 jw_215) rfl rfl rfl (by decide +kernel) ⟨Nat.le_of_ble_eq_true rfl, Nat.le_of_ble_eq_true rfl⟩) (jpreS hN hJ) rfl rfl hl.1 rfl (lv_room (Nat.le_of_ble_eq_true rfl)) dJh_row_1 ⟨Nat.zero_le _, Nat.zero_le _⟩) hA hJ (fun B H locs hJ => ?_)
  refine lv_if_ne (tgt := 17) hx hb dJh_row_4 (by decide) (fun c2 => ?_) (fun c2 => ?_)
  · replace h := jif_f c2 h
    refine lv_aload_n hx hb dJh_row_17 rfl (lv_at hl 0 rfl) ?_
    refine va_get (D := (dC, dI)) (ci := 0) (v := .ref (A 4)) (C := RJh) (T := TJh) (N := 4) hx hb hj iJh hown hJ.1 hJ.2.1 0 rfl rfl 3 (by decide) (hj _ jw_183) (fun _ h9 => h9) rfl dJh_row_18 ?_
    refine lv_iload_n hx hb dJh_row_21 rfl (lv_at hl 1 rfl) ?_
    obtain ⟨q3, hq3, h⟩ := jbi_h h
    refine jcalli (w' := fun B => jW cA A B M F) (va_runV (As := [.int x1]) (rest := []) ⟨hx, hb, hml, hown, hts⟩ (cTa_rows l dC dI cA A x1 M F B H.size hq3) (cwV 1 hts (jgoodV jw_297 jw_298 jw_299 jw_5 jw_300) rfl rfl rfl (by decide +kernel) ⟨Nat.le_of_ble_eq_true rfl, Nat.le_of_ble_eq_true rfl⟩) (jpreV hN hJ (ci := 4) (q0 := 4) rfl rfl) rfl rfl hl.1 rfl (lv_room (Nat.le_of_ble_eq_true rfl)) dJh_row_22 ⟨Nat.zero_le _, Nat.zero_le _⟩) hA hJ (fun B H locs hJ => ?_)
    refine lv_bipush (v := 30) hx hb dJh_row_25 (by decide) ?_
    refine lv_icmp_lt (tgt := 40) hx hb dJh_row_27 (by decide) (fun c4 => ?_) (fun c4 => ?_)
    · replace h := jif_t c4 h
      refine lv_aload_n hx hb dJh_row_40 rfl (lv_at hl 0 rfl) ?_
      refine va_get (D := (dC, dI)) (ci := 0) (v := .ref (A 4)) (C := RJh) (T := TJh) (N := 4) hx hb hj iJh hown hJ.1 hJ.2.1 0 rfl rfl 3 (by decide) (hj _ jw_183) (fun _ h9 => h9) rfl dJh_row_41 ?_
      refine lv_iload_n hx hb dJh_row_44 rfl (lv_at hl 1 rfl) ?_
      refine lv_iload_n hx hb dJh_row_45 rfl (lv_at hl 2 rfl) ?_
      refine lv_iload_n hx hb dJh_row_46 rfl (lv_at hl 3 rfl) ?_
      refine lv_iload hx hb dJh_row_47 (lv_at hl 4 rfl) ?_
      refine lv_iload hx hb dJh_row_49 (lv_at hl 5 rfl) ?_
      obtain ⟨q5, hq5, h⟩ := jbi_h h
      refine jcalli (w' := fun B => jW cA A B q5.2.1 q5.2.2) (va_runV (As := [.int x1, .int x2, .int x3, .int x4, .int x5]) (rest := []) ⟨hx, hb, hml, hown, hts⟩ (cTa_add l dC dI cA A x1 x2 x3 x4 x5 M F B H.size hq5) (cwV 5 hts (jgoodV jw_317 jw_318 jw_319 jw_5 jw_320) rfl rfl rfl (by decide +kernel) ⟨Nat.le_of_ble_eq_true rfl, Nat.le_of_ble_eq_true rfl⟩) (jpreV hN hJ (ci := 4) (q0 := 4) rfl rfl) rfl rfl hl.1 rfl (lv_room (Nat.le_of_ble_eq_true rfl)) dJh_row_51 ⟨Nat.zero_le _, Nat.zero_le _⟩) hA hJ (fun B6 H locs hJ => ?_)
      exact (jk_no3 hk h.symm).elim
    · replace h := jif_f c4 h
      cases h
      exact jthrow_2 (text := "the table has 30 rows") (u := B) hx hb hml hown hj hX hlocks hl.1 hJ (by decide) dJh_row_30 dJh_row_33 dJh_row_34 dJh_row_36 dJh_row_39 (Nat.le_of_ble_eq_true rfl) (Nat.le_of_ble_eq_true rfl) (Nat.le_of_ble_eq_true rfl) (Nat.le_of_ble_eq_true rfl)
  · replace h := jif_t c2 h
    cases h
    exact jthrow_1 (text := "no such table") (u := B) hx hb hml hown hj hX hlocks hl.1 hJ (by decide) dJh_row_7 dJh_row_10 dJh_row_11 dJh_row_13 dJh_row_16 (Nat.le_of_ble_eq_true rfl) (Nat.le_of_ble_eq_true rfl) (Nat.le_of_ble_eq_true rfl) (Nat.le_of_ble_eq_true rfl)
set_option maxHeartbeats 4000000 in
set_option maxRecDepth 100000 in
theorem cxJh_row (l : Launch) (dC : Nat → ClassId) (dI : Nat → Nat → Nat) (cA : ClassId) (A : Nat → Nat) (hl0 : l.stackTraces = false) (x1 : Int32) (x2 : Int32) (x3 : Int32) (x4 : Int32) (x5 : Int32) (M : jM) (F : jF) (B : Nat → Nat) (sz : Nat) {k : Nat} (hk : ¬ k = 0) {r : Int32} {M' : jM} {F' : jF} (h : fJh_row x1 x2 x3 x4 x5 M F = some (k, r, M', F')) : jCx l yJh_row wJh_row rxJh_row (dC, dI) jCl [(cA, .int)] [.ref (A 0), .int x1, .int x2, .int x3, .int x4, .int x5] (jW cA A B M F) sz k (fun B => jW cA A B (M') (F')) :=
  jOfX hl0 (by decide) rfl (Nat.le_of_ble_eq_true rfl) (fun p e s m below meth c Ap ls hC hX hA hJ hl => uxJh_row_0 l dC dI cA A Ap hX hC hA hk _ _ _ _ _ _ _ _ _ _ _ hJ (lv_sub hl [0, 1, 2, 3, 4, 5] rfl) h)
abbrev bJh_clear : ByteArray := prog_1_method_4_code
abbrev yJh_clear : MethodName := ⟨RJh, "clear", "()V"⟩
abbrev wJh_clear : List Cond := .code yJh_clear bJh_clear 1 none :: jw
theorem dJh_clear_0 : decode bJh_clear 0 = .ok (.aload_n 0, 1) := by decide +kernel
theorem dJh_clear_1 : decode bJh_clear 1 = .ok (.getfield 27, 3) := by decide +kernel
theorem dJh_clear_4 : decode bJh_clear 4 = .ok (.invokevirtual 67, 3) := by decide +kernel
theorem dJh_clear_7 : decode bJh_clear 7 = .ok (.return_, 1) := by decide +kernel
abbrev rJh_clear : Room := { frames := 1, cells := 0, slots := 0, locals := 20 }
def fJh_clear_0 (M : jM) (F : jF) : Option (Int32 × jM × jF) := ((fQu_empty M F).bind fun q1 => some (0, q1.2.1, q1.2.2))
abbrev fJh_clear (M : jM) (F : jF) : Option (Int32 × jM × jF) := fJh_clear_0  M F
set_option maxHeartbeats 4000000 in
set_option maxRecDepth 100000 in
theorem uJh_clear_0 {p : Program} {e : Env} {s : State} {m : MethodId} {args : Array Value} {below : List Frame} {meth : Method} {c : Code} (l : Launch) (dC : Nat → ClassId) (dI : Nat → Nat → Nat) (cA : ClassId) (A : Nat → Nat) (Ap : Nat → Prop) (hC : jAt p s m args meth c bJh_clear 1 none wJh_clear RJh) (hA : ∀ q : Nat, s.heap.size ≤ q → Ap q) {r : Int32} {M' : jM} {F' : jF} : ∀ (M : jM) (F : jF) (B : Nat → Nat) (H : Heap) (locs : List Loc) (ls : Array Slot), jH (dC, dI) jCl [(cA, .int)] (jW cA A B M F) Ap s H locs → lv_has ls 1 [(0, .ref (A 0))] → fJh_clear_0 M F = some (r, M', F') → W p l e (headSpec wJh_clear rJh_clear).room s m args below meth c H locs 0 0 (jQv below (dC, dI) jCl [(cA, .int)] (fun B => jW cA A B (M') (F')) Ap args s) (F0 m 0 ls []) := by
  obtain ⟨hx, hb, hml, hr, hts, hown, hlocks, hN⟩ := id hC
  have hj : ∀ w ∈ jw, w.before args s = true := fun w h => hts w (List.mem_cons_of_mem _ h)
  intro  M F B H locs ls hJ hl h
  unfold fJh_clear_0 at h
  refine lv_aload_n hx hb dJh_clear_0 rfl (lv_at hl 0 rfl) ?_
  refine va_get (D := (dC, dI)) (ci := 0) (v := .ref (A 3)) (C := RJh) (T := TJh) (N := 4) hx hb hj iJh hown hJ.1 hJ.2.1 0 rfl rfl 2 (by decide) (hj _ jw_182) (fun _ h9 => h9) rfl dJh_clear_1 ?_
  obtain ⟨q1, hq1, h⟩ := jbi_h h
  refine jcallv (w' := fun B => jW cA A B q1.2.1 q1.2.2) (va_runV (As := []) (rest := []) ⟨hx, hb, hml, hown, hts⟩ (cQu_empty l dC dI cA A M F B H.size hq1) (cwV 0 hts (jgoodV jw_197 jw_198 jw_199 jw_4 jw_200) rfl rfl rfl (by decide +kernel) ⟨Nat.le_of_ble_eq_true rfl, Nat.le_of_ble_eq_true rfl⟩) (jpreV hN hJ (ci := 3) (q0 := 3) rfl rfl) rfl rfl hl.1 rfl (lv_room (Nat.le_of_ble_eq_true rfl)) dJh_clear_4 ⟨Nat.zero_le _, Nat.zero_le _⟩) hA hJ (fun B2 H locs hJ => ?_)
  cases h
  exact jretv (u := B2) hx hb hr hlocks hJ dJh_clear_7
set_option maxHeartbeats 4000000 in
set_option maxRecDepth 100000 in
theorem cJh_clear (l : Launch) (dC : Nat → ClassId) (dI : Nat → Nat → Nat) (cA : ClassId) (A : Nat → Nat) (M : jM) (F : jF) (B : Nat → Nat) (sz : Nat) {r : Int32} {M' : jM} {F' : jF} (h : fJh_clear M F = some (r, M', F')) : jCv l yJh_clear wJh_clear rJh_clear (dC, dI) jCl [(cA, .int)] [.ref (A 0)] (jW cA A B M F) sz (fun B => jW cA A B (M') (F')) :=
  jOf (Qc := fun Ap => va_Qv (fun _ : Nat → Nat => True) (jPost (dC, dI) jCl [(cA, .int)] (fun B => jW cA A B (M') (F')) Ap) Ap) (by decide) rfl (Nat.le_of_ble_eq_true rfl) (fun p e s m below meth c Ap ls hC hA hJ hl => uJh_clear_0 l dC dI cA A Ap hC hA _ _ _ _ _ _ hJ (lv_sub hl [0] rfl) h)
abbrev bJh_generator : ByteArray := prog_1_method_5_code
abbrev yJh_generator : MethodName := ⟨RJh, "generator", "(I)I"⟩
abbrev wJh_generator : List Cond := .code yJh_generator bJh_generator 2 (some .int) :: jw
theorem dJh_generator_0 : decode bJh_generator 0 = .ok (.iload_n 1, 1) := by decide +kernel
theorem dJh_generator_1 : decode bJh_generator 1 = .ok (.invokestatic 35, 3) := by decide +kernel
theorem dJh_generator_4 : decode bJh_generator 4 = .ok (.ifCond .ne 13, 3) := by decide +kernel
theorem dJh_generator_7 : decode bJh_generator 7 = .ok (.new 39, 3) := by decide +kernel
theorem dJh_generator_10 : decode bJh_generator 10 = .ok (.dup, 1) := by decide +kernel
theorem dJh_generator_11 : decode bJh_generator 11 = .ok (.ldc 41, 2) := by decide +kernel
theorem dJh_generator_13 : decode bJh_generator 13 = .ok (.invokespecial 43, 3) := by decide +kernel
theorem dJh_generator_16 : decode bJh_generator 16 = .ok (.athrow, 1) := by decide +kernel
theorem dJh_generator_17 : decode bJh_generator 17 = .ok (.aload_n 0, 1) := by decide +kernel
theorem dJh_generator_18 : decode bJh_generator 18 = .ok (.getfield 27, 3) := by decide +kernel
theorem dJh_generator_21 : decode bJh_generator 21 = .ok (.getfield 69, 3) := by decide +kernel
theorem dJh_generator_24 : decode bJh_generator 24 = .ok (.bipush 6, 2) := by decide +kernel
theorem dJh_generator_26 : decode bJh_generator 26 = .ok (.if_icmp .lt 13, 3) := by decide +kernel
theorem dJh_generator_29 : decode bJh_generator 29 = .ok (.new 58, 3) := by decide +kernel
theorem dJh_generator_32 : decode bJh_generator 32 = .ok (.dup, 1) := by decide +kernel
theorem dJh_generator_33 : decode bJh_generator 33 = .ok (.ldc 73, 2) := by decide +kernel
theorem dJh_generator_35 : decode bJh_generator 35 = .ok (.invokespecial 62, 3) := by decide +kernel
theorem dJh_generator_38 : decode bJh_generator 38 = .ok (.athrow, 1) := by decide +kernel
theorem dJh_generator_39 : decode bJh_generator 39 = .ok (.aload_n 0, 1) := by decide +kernel
theorem dJh_generator_40 : decode bJh_generator 40 = .ok (.getfield 27, 3) := by decide +kernel
theorem dJh_generator_43 : decode bJh_generator 43 = .ok (.iload_n 1, 1) := by decide +kernel
theorem dJh_generator_44 : decode bJh_generator 44 = .ok (.invokevirtual 75, 3) := by decide +kernel
theorem dJh_generator_47 : decode bJh_generator 47 = .ok (.ireturn, 1) := by decide +kernel
abbrev rJh_generator : Room := { frames := 1, cells := 0, slots := 0, locals := 22 }
abbrev rxJh_generator : Room := { frames := 6, cells := 1, slots := 6, locals := 90 }
def fJh_generator_0 (x1 : Int32) (M : jM) (F : jF) : Option (Nat × Int32 × jM × jF) := ((fJh_isTable x1 M F).bind fun q1 => (if q1 = 0 then some (1, 0, M, F) else (if (F 0) < 6 then ((fQu_addGenerator x1 M F).bind fun q4 => some (0, q4.1, q4.2.1, q4.2.2)) else some (2, 0, M, F))))
abbrev fJh_generator (x1 : Int32) (M : jM) (F : jF) : Option (Nat × Int32 × jM × jF) := fJh_generator_0 x1 M F
set_option maxHeartbeats 4000000 in
set_option maxRecDepth 100000 in
theorem uJh_generator_0 {p : Program} {e : Env} {s : State} {m : MethodId} {args : Array Value} {below : List Frame} {meth : Method} {c : Code} (l : Launch) (dC : Nat → ClassId) (dI : Nat → Nat → Nat) (cA : ClassId) (A : Nat → Nat) (Ap : Nat → Prop) (hC : jAt p s m args meth c bJh_generator 2 (some .int) wJh_generator RJh) (hA : ∀ q : Nat, s.heap.size ≤ q → Ap q) {r : Int32} {M' : jM} {F' : jF} : ∀ (x1 : Int32) (M : jM) (F : jF) (B : Nat → Nat) (H : Heap) (locs : List Loc) (ls : Array Slot), jH (dC, dI) jCl [(cA, .int)] (jW cA A B M F) Ap s H locs → lv_has ls 2 [(0, .ref (A 0)), (1, .int x1)] → fJh_generator_0 x1 M F = some (0, r, M', F') → W p l e (headSpec wJh_generator rJh_generator).room s m args below meth c H locs 0 0 (jQi below (dC, dI) jCl [(cA, .int)] (fun B => jW cA A B (M') (F')) Ap args s r) (F0 m 0 ls []) := by
  obtain ⟨hx, hb, hml, hr, hts, hown, hlocks, hN⟩ := id hC
  have hj : ∀ w ∈ jw, w.before args s = true := fun w h => hts w (List.mem_cons_of_mem _ h)
  intro x1 M F B H locs ls hJ hl h
  unfold fJh_generator_0 at h
  refine lv_iload_n hx hb dJh_generator_0 rfl (lv_at hl 1 rfl) ?_
  obtain ⟨q1, hq1, h⟩ := jbi_h h
  refine jcalli (w' := fun B => jW cA A B M F) (va_runS (As := [.int x1]) (rest := []) ⟨hx, hb, hml, hown, hts⟩ (cJh_isTable l dC dI cA A x1 M F B H.size hq1) (va_cwS 1 hts (jgoodS jw_213 jw_214 jw_1 jw_215) rfl rfl rfl (by decide +kernel) ⟨Nat.le_of_ble_eq_true rfl, Nat.le_of_ble_eq_true rfl⟩) (jpreS hN hJ) rfl rfl hl.1 rfl (lv_room (Nat.le_of_ble_eq_true rfl)) dJh_generator_1 ⟨Nat.zero_le _, Nat.zero_le _⟩) hA hJ (fun B H locs hJ => ?_)
  refine lv_if_ne (tgt := 17) hx hb dJh_generator_4 (by decide) (fun c2 => ?_) (fun c2 => ?_)
  · replace h := jif_f c2 h
    refine lv_aload_n hx hb dJh_generator_17 rfl (lv_at hl 0 rfl) ?_
    refine va_get (D := (dC, dI)) (ci := 0) (v := .ref (A 3)) (C := RJh) (T := TJh) (N := 4) hx hb hj iJh hown hJ.1 hJ.2.1 0 rfl rfl 2 (by decide) (hj _ jw_182) (fun _ h9 => h9) rfl dJh_generator_18 ?_
    refine va_getN (D := (dC, dI)) (ci := 3) (v := .int (F 0)) (C := RQu) (T := TQu) (N := 10) hx hb hj iQu hown hJ.1 hJ.2.1 3 rfl rfl 8 (by decide) (jnw_use hN jnw_8) (fun _ h9 => h9) rfl dJh_generator_21 ?_
    refine lv_bipush (v := 6) hx hb dJh_generator_24 (by decide) ?_
    refine lv_icmp_lt (tgt := 39) hx hb dJh_generator_26 (by decide) (fun c3 => ?_) (fun c3 => ?_)
    · replace h := jif_t c3 h
      refine lv_aload_n hx hb dJh_generator_39 rfl (lv_at hl 0 rfl) ?_
      refine va_get (D := (dC, dI)) (ci := 0) (v := .ref (A 3)) (C := RJh) (T := TJh) (N := 4) hx hb hj iJh hown hJ.1 hJ.2.1 0 rfl rfl 2 (by decide) (hj _ jw_182) (fun _ h9 => h9) rfl dJh_generator_40 ?_
      refine lv_iload_n hx hb dJh_generator_43 rfl (lv_at hl 1 rfl) ?_
      obtain ⟨q4, hq4, h⟩ := jbi_h h
      refine jcalli (w' := fun B => jW cA A B q4.2.1 q4.2.2) (va_runV (As := [.int x1]) (rest := []) ⟨hx, hb, hml, hown, hts⟩ (cQu_addGenerator l dC dI cA A x1 M F B H.size hq4) (cwV 1 hts (jgoodV jw_341 jw_342 jw_343 jw_4 jw_344) rfl rfl rfl (by decide +kernel) ⟨Nat.le_of_ble_eq_true rfl, Nat.le_of_ble_eq_true rfl⟩) (jpreV hN hJ (ci := 3) (q0 := 3) rfl rfl) rfl rfl hl.1 rfl (lv_room (Nat.le_of_ble_eq_true rfl)) dJh_generator_44 ⟨Nat.zero_le _, Nat.zero_le _⟩) hA hJ (fun B5 H locs hJ => ?_)
      cases h
      exact jreti (u := B5) hx hb hr rfl hlocks hJ dJh_generator_47 rfl
    · replace h := jif_f c3 h
      exact (jk_no h).elim
  · replace h := jif_t c2 h
    exact (jk_no h).elim
set_option maxHeartbeats 4000000 in
set_option maxRecDepth 100000 in
theorem cJh_generator (l : Launch) (dC : Nat → ClassId) (dI : Nat → Nat → Nat) (cA : ClassId) (A : Nat → Nat) (x1 : Int32) (M : jM) (F : jF) (B : Nat → Nat) (sz : Nat) {r : Int32} {M' : jM} {F' : jF} (h : fJh_generator x1 M F = some (0, r, M', F')) : jCi l yJh_generator wJh_generator rJh_generator (dC, dI) jCl [(cA, .int)] [.ref (A 0), .int x1] (jW cA A B M F) sz r (fun B => jW cA A B (M') (F')) :=
  jOf (Qc := fun Ap => va_Qi (fun q (_ : Nat → Nat) => q = r) (jPost (dC, dI) jCl [(cA, .int)] (fun B => jW cA A B (M') (F')) Ap) Ap) (by decide) rfl (Nat.le_of_ble_eq_true rfl) (fun p e s m below meth c Ap ls hC hA hJ hl => uJh_generator_0 l dC dI cA A Ap hC hA _ _ _ _ _ _ _ hJ (lv_sub hl [0, 1] rfl) h)
set_option maxHeartbeats 4000000 in
set_option maxRecDepth 100000 in
theorem uxJh_generator_0 {p : Program} {e : Env} {s : State} {m : MethodId} {args : Array Value} {below : List Frame} {meth : Method} {c : Code} (l : Launch) (dC : Nat → ClassId) (dI : Nat → Nat → Nat) (cA : ClassId) (A : Nat → Nat) (Ap : Nat → Prop) (hX : jAtX l Ap s c) (hC : jAt p s m args meth c bJh_generator 2 (some .int) wJh_generator RJh) (hA : ∀ q : Nat, s.heap.size ≤ q → Ap q) {k : Nat} (hk : ¬ k = 0) {r : Int32} {M' : jM} {F' : jF} : ∀ (x1 : Int32) (M : jM) (F : jF) (B : Nat → Nat) (H : Heap) (locs : List Loc) (ls : Array Slot), jH (dC, dI) jCl [(cA, .int)] (jW cA A B M F) Ap s H locs → lv_has ls 2 [(0, .ref (A 0)), (1, .int x1)] → fJh_generator_0 x1 M F = some (k, r, M', F') → W p l e (headSpec wJh_generator rxJh_generator).room s m args below meth c H locs 0 0 (jQx below (dC, dI) jCl [(cA, .int)] (fun B => jW cA A B (M') (F')) Ap args s k) (F0 m 0 ls []) := by
  obtain ⟨hx, hb, hml, hr, hts, hown, hlocks, hN⟩ := id hC
  have hj : ∀ w ∈ jw, w.before args s = true := fun w h => hts w (List.mem_cons_of_mem _ h)
  intro x1 M F B H locs ls hJ hl h
  unfold fJh_generator_0 at h
  refine lv_iload_n hx hb dJh_generator_0 rfl (lv_at hl 1 rfl) ?_
  obtain ⟨q1, hq1, h⟩ := jbi_h h
  refine jcalli (w' := fun B => jW cA A B M F) (va_runS (As := [.int x1]) (rest := []) ⟨hx, hb, hml, hown, hts⟩ (cJh_isTable l dC dI cA A x1 M F B H.size hq1) (va_cwS 1 hts (jgoodS jw_213 jw_214 jw_1 jw_215) rfl rfl rfl (by decide +kernel) ⟨Nat.le_of_ble_eq_true rfl, Nat.le_of_ble_eq_true rfl⟩) (jpreS hN hJ) rfl rfl hl.1 rfl (lv_room (Nat.le_of_ble_eq_true rfl)) dJh_generator_1 ⟨Nat.zero_le _, Nat.zero_le _⟩) hA hJ (fun B H locs hJ => ?_)
  refine lv_if_ne (tgt := 17) hx hb dJh_generator_4 (by decide) (fun c2 => ?_) (fun c2 => ?_)
  · replace h := jif_f c2 h
    refine lv_aload_n hx hb dJh_generator_17 rfl (lv_at hl 0 rfl) ?_
    refine va_get (D := (dC, dI)) (ci := 0) (v := .ref (A 3)) (C := RJh) (T := TJh) (N := 4) hx hb hj iJh hown hJ.1 hJ.2.1 0 rfl rfl 2 (by decide) (hj _ jw_182) (fun _ h9 => h9) rfl dJh_generator_18 ?_
    refine va_getN (D := (dC, dI)) (ci := 3) (v := .int (F 0)) (C := RQu) (T := TQu) (N := 10) hx hb hj iQu hown hJ.1 hJ.2.1 3 rfl rfl 8 (by decide) (jnw_use hN jnw_8) (fun _ h9 => h9) rfl dJh_generator_21 ?_
    refine lv_bipush (v := 6) hx hb dJh_generator_24 (by decide) ?_
    refine lv_icmp_lt (tgt := 39) hx hb dJh_generator_26 (by decide) (fun c3 => ?_) (fun c3 => ?_)
    · replace h := jif_t c3 h
      refine lv_aload_n hx hb dJh_generator_39 rfl (lv_at hl 0 rfl) ?_
      refine va_get (D := (dC, dI)) (ci := 0) (v := .ref (A 3)) (C := RJh) (T := TJh) (N := 4) hx hb hj iJh hown hJ.1 hJ.2.1 0 rfl rfl 2 (by decide) (hj _ jw_182) (fun _ h9 => h9) rfl dJh_generator_40 ?_
      refine lv_iload_n hx hb dJh_generator_43 rfl (lv_at hl 1 rfl) ?_
      obtain ⟨q4, hq4, h⟩ := jbi_h h
      refine jcalli (w' := fun B => jW cA A B q4.2.1 q4.2.2) (va_runV (As := [.int x1]) (rest := []) ⟨hx, hb, hml, hown, hts⟩ (cQu_addGenerator l dC dI cA A x1 M F B H.size hq4) (cwV 1 hts (jgoodV jw_341 jw_342 jw_343 jw_4 jw_344) rfl rfl rfl (by decide +kernel) ⟨Nat.le_of_ble_eq_true rfl, Nat.le_of_ble_eq_true rfl⟩) (jpreV hN hJ (ci := 3) (q0 := 3) rfl rfl) rfl rfl hl.1 rfl (lv_room (Nat.le_of_ble_eq_true rfl)) dJh_generator_44 ⟨Nat.zero_le _, Nat.zero_le _⟩) hA hJ (fun B5 H locs hJ => ?_)
      exact (jk_no3 hk h.symm).elim
    · replace h := jif_f c3 h
      cases h
      exact jthrow_2 (text := "there are six generators") (u := B) hx hb hml hown hj hX hlocks hl.1 hJ (by decide) dJh_generator_29 dJh_generator_32 dJh_generator_33 dJh_generator_35 dJh_generator_38 (Nat.le_of_ble_eq_true rfl) (Nat.le_of_ble_eq_true rfl) (Nat.le_of_ble_eq_true rfl) (Nat.le_of_ble_eq_true rfl)
  · replace h := jif_t c2 h
    cases h
    exact jthrow_1 (text := "no such table") (u := B) hx hb hml hown hj hX hlocks hl.1 hJ (by decide) dJh_generator_7 dJh_generator_10 dJh_generator_11 dJh_generator_13 dJh_generator_16 (Nat.le_of_ble_eq_true rfl) (Nat.le_of_ble_eq_true rfl) (Nat.le_of_ble_eq_true rfl) (Nat.le_of_ble_eq_true rfl)
set_option maxHeartbeats 4000000 in
set_option maxRecDepth 100000 in
theorem cxJh_generator (l : Launch) (dC : Nat → ClassId) (dI : Nat → Nat → Nat) (cA : ClassId) (A : Nat → Nat) (hl0 : l.stackTraces = false) (x1 : Int32) (M : jM) (F : jF) (B : Nat → Nat) (sz : Nat) {k : Nat} (hk : ¬ k = 0) {r : Int32} {M' : jM} {F' : jF} (h : fJh_generator x1 M F = some (k, r, M', F')) : jCx l yJh_generator wJh_generator rxJh_generator (dC, dI) jCl [(cA, .int)] [.ref (A 0), .int x1] (jW cA A B M F) sz k (fun B => jW cA A B (M') (F')) :=
  jOfX hl0 (by decide) rfl (Nat.le_of_ble_eq_true rfl) (fun p e s m below meth c Ap ls hC hX hA hJ hl => uxJh_generator_0 l dC dI cA A Ap hX hC hA hk _ _ _ _ _ _ _ hJ (lv_sub hl [0, 1] rfl) h)
abbrev bJh_checkSide : ByteArray := prog_1_method_15_code
abbrev yJh_checkSide : MethodName := ⟨RJh, "checkSide", "(II)V"⟩
abbrev wJh_checkSide : List Cond := .code yJh_checkSide bJh_checkSide 3 none :: jw
theorem dJh_checkSide_0 : decode bJh_checkSide 0 = .ok (.iload_n 1, 1) := by decide +kernel
theorem dJh_checkSide_1 : decode bJh_checkSide 1 = .ok (.ifCond .lt 14, 3) := by decide +kernel
theorem dJh_checkSide_4 : decode bJh_checkSide 4 = .ok (.iload_n 1, 1) := by decide +kernel
theorem dJh_checkSide_5 : decode bJh_checkSide 5 = .ok (.aload_n 0, 1) := by decide +kernel
theorem dJh_checkSide_6 : decode bJh_checkSide 6 = .ok (.getfield 27, 3) := by decide +kernel
theorem dJh_checkSide_9 : decode bJh_checkSide 9 = .ok (.getfield 69, 3) := by decide +kernel
theorem dJh_checkSide_12 : decode bJh_checkSide 12 = .ok (.if_icmp .lt 13, 3) := by decide +kernel
theorem dJh_checkSide_15 : decode bJh_checkSide 15 = .ok (.new 39, 3) := by decide +kernel
theorem dJh_checkSide_18 : decode bJh_checkSide 18 = .ok (.dup, 1) := by decide +kernel
theorem dJh_checkSide_19 : decode bJh_checkSide 19 = .ok (.ldc 133, 2) := by decide +kernel
theorem dJh_checkSide_21 : decode bJh_checkSide 21 = .ok (.invokespecial 43, 3) := by decide +kernel
theorem dJh_checkSide_24 : decode bJh_checkSide 24 = .ok (.athrow, 1) := by decide +kernel
theorem dJh_checkSide_25 : decode bJh_checkSide 25 = .ok (.iload_n 2, 1) := by decide +kernel
theorem dJh_checkSide_26 : decode bJh_checkSide 26 = .ok (.ifCond .lt 8, 3) := by decide +kernel
theorem dJh_checkSide_29 : decode bJh_checkSide 29 = .ok (.iload_n 2, 1) := by decide +kernel
theorem dJh_checkSide_30 : decode bJh_checkSide 30 = .ok (.iconst 4, 1) := by decide +kernel
theorem dJh_checkSide_31 : decode bJh_checkSide 31 = .ok (.if_icmp .lt 13, 3) := by decide +kernel
theorem dJh_checkSide_34 : decode bJh_checkSide 34 = .ok (.new 39, 3) := by decide +kernel
theorem dJh_checkSide_37 : decode bJh_checkSide 37 = .ok (.dup, 1) := by decide +kernel
theorem dJh_checkSide_38 : decode bJh_checkSide 38 = .ok (.ldc 46, 2) := by decide +kernel
theorem dJh_checkSide_40 : decode bJh_checkSide 40 = .ok (.invokespecial 43, 3) := by decide +kernel
theorem dJh_checkSide_43 : decode bJh_checkSide 43 = .ok (.athrow, 1) := by decide +kernel
theorem dJh_checkSide_44 : decode bJh_checkSide 44 = .ok (.return_, 1) := by decide +kernel
abbrev rJh_checkSide : Room := { frames := 0, cells := 0, slots := 0, locals := 0 }
abbrev rxJh_checkSide : Room := { frames := 6, cells := 1, slots := 6, locals := 90 }
def fJh_checkSide_15 (M : jM) (F : jF) : Option (Nat × Int32 × jM × jF) := some (1, 0, M, F)
def fJh_checkSide_34 (M : jM) (F : jF) : Option (Nat × Int32 × jM × jF) := some (1, 0, M, F)
def fJh_checkSide_0 (x1 : Int32) (x2 : Int32) (M : jM) (F : jF) : Option (Nat × Int32 × jM × jF) := (if x1 < 0 then fJh_checkSide_15  M F else (if x1 < (F 0) then (if x2 < 0 then fJh_checkSide_34  M F else (if x2 < 4 then some (0, 0, M, F) else fJh_checkSide_34  M F)) else fJh_checkSide_15  M F))
abbrev fJh_checkSide (x1 : Int32) (x2 : Int32) (M : jM) (F : jF) : Option (Nat × Int32 × jM × jF) := fJh_checkSide_0 x1 x2 M F
set_option maxHeartbeats 4000000 in
set_option maxRecDepth 100000 in
theorem uJh_checkSide_15 {p : Program} {e : Env} {s : State} {m : MethodId} {args : Array Value} {below : List Frame} {meth : Method} {c : Code} (l : Launch) (dC : Nat → ClassId) (dI : Nat → Nat → Nat) (cA : ClassId) (A : Nat → Nat) (Ap : Nat → Prop) (hC : jAt p s m args meth c bJh_checkSide 3 none wJh_checkSide RJh) (hA : ∀ q : Nat, s.heap.size ≤ q → Ap q) {r : Int32} {M' : jM} {F' : jF} : ∀ (M : jM) (F : jF) (B : Nat → Nat) (H : Heap) (locs : List Loc) (ls : Array Slot), jH (dC, dI) jCl [(cA, .int)] (jW cA A B M F) Ap s H locs → lv_has ls 3 [] → fJh_checkSide_15 M F = some (0, r, M', F') → W p l e (headSpec wJh_checkSide rJh_checkSide).room s m args below meth c H locs 0 0 (jQv below (dC, dI) jCl [(cA, .int)] (fun B => jW cA A B (M') (F')) Ap args s) (F0 m 15 ls []) := by
  obtain ⟨hx, hb, hml, hr, hts, hown, hlocks, hN⟩ := id hC
  have hj : ∀ w ∈ jw, w.before args s = true := fun w h => hts w (List.mem_cons_of_mem _ h)
  intro  M F B H locs ls hJ hl h
  unfold fJh_checkSide_15 at h
  exact (jk_no h).elim
set_option maxHeartbeats 4000000 in
set_option maxRecDepth 100000 in
theorem uJh_checkSide_34 {p : Program} {e : Env} {s : State} {m : MethodId} {args : Array Value} {below : List Frame} {meth : Method} {c : Code} (l : Launch) (dC : Nat → ClassId) (dI : Nat → Nat → Nat) (cA : ClassId) (A : Nat → Nat) (Ap : Nat → Prop) (hC : jAt p s m args meth c bJh_checkSide 3 none wJh_checkSide RJh) (hA : ∀ q : Nat, s.heap.size ≤ q → Ap q) {r : Int32} {M' : jM} {F' : jF} : ∀ (M : jM) (F : jF) (B : Nat → Nat) (H : Heap) (locs : List Loc) (ls : Array Slot), jH (dC, dI) jCl [(cA, .int)] (jW cA A B M F) Ap s H locs → lv_has ls 3 [] → fJh_checkSide_34 M F = some (0, r, M', F') → W p l e (headSpec wJh_checkSide rJh_checkSide).room s m args below meth c H locs 0 0 (jQv below (dC, dI) jCl [(cA, .int)] (fun B => jW cA A B (M') (F')) Ap args s) (F0 m 34 ls []) := by
  obtain ⟨hx, hb, hml, hr, hts, hown, hlocks, hN⟩ := id hC
  have hj : ∀ w ∈ jw, w.before args s = true := fun w h => hts w (List.mem_cons_of_mem _ h)
  intro  M F B H locs ls hJ hl h
  unfold fJh_checkSide_34 at h
  exact (jk_no h).elim
set_option maxHeartbeats 4000000 in
set_option maxRecDepth 100000 in
theorem uJh_checkSide_0 {p : Program} {e : Env} {s : State} {m : MethodId} {args : Array Value} {below : List Frame} {meth : Method} {c : Code} (l : Launch) (dC : Nat → ClassId) (dI : Nat → Nat → Nat) (cA : ClassId) (A : Nat → Nat) (Ap : Nat → Prop) (hC : jAt p s m args meth c bJh_checkSide 3 none wJh_checkSide RJh) (hA : ∀ q : Nat, s.heap.size ≤ q → Ap q) {r : Int32} {M' : jM} {F' : jF} : ∀ (x1 x2 : Int32) (M : jM) (F : jF) (B : Nat → Nat) (H : Heap) (locs : List Loc) (ls : Array Slot), jH (dC, dI) jCl [(cA, .int)] (jW cA A B M F) Ap s H locs → lv_has ls 3 [(0, .ref (A 0)), (1, .int x1), (2, .int x2)] → fJh_checkSide_0 x1 x2 M F = some (0, r, M', F') → W p l e (headSpec wJh_checkSide rJh_checkSide).room s m args below meth c H locs 0 0 (jQv below (dC, dI) jCl [(cA, .int)] (fun B => jW cA A B (M') (F')) Ap args s) (F0 m 0 ls []) := by
  obtain ⟨hx, hb, hml, hr, hts, hown, hlocks, hN⟩ := id hC
  have hj : ∀ w ∈ jw, w.before args s = true := fun w h => hts w (List.mem_cons_of_mem _ h)
  intro x1 x2 M F B H locs ls hJ hl h
  unfold fJh_checkSide_0 at h
  refine lv_iload_n hx hb dJh_checkSide_0 rfl (lv_at hl 1 rfl) ?_
  refine lv_if_lt (tgt := 15) hx hb dJh_checkSide_1 (by decide) (fun c1 => ?_) (fun c1 => ?_)
  · replace h := jif_t c1 h
    exact uJh_checkSide_15 l dC dI cA A Ap hC hA _ _ _ _ _ _ hJ (lv_sub hl [] rfl) h
  · replace h := jif_f c1 h
    refine lv_iload_n hx hb dJh_checkSide_4 rfl (lv_at hl 1 rfl) ?_
    refine lv_aload_n hx hb dJh_checkSide_5 rfl (lv_at hl 0 rfl) ?_
    refine va_get (D := (dC, dI)) (ci := 0) (v := .ref (A 3)) (C := RJh) (T := TJh) (N := 4) hx hb hj iJh hown hJ.1 hJ.2.1 0 rfl rfl 2 (by decide) (hj _ jw_182) (fun _ h9 => h9) rfl dJh_checkSide_6 ?_
    refine va_getN (D := (dC, dI)) (ci := 3) (v := .int (F 0)) (C := RQu) (T := TQu) (N := 10) hx hb hj iQu hown hJ.1 hJ.2.1 3 rfl rfl 8 (by decide) (jnw_use hN jnw_8) (fun _ h9 => h9) rfl dJh_checkSide_9 ?_
    refine lv_icmp_lt (tgt := 25) hx hb dJh_checkSide_12 (by decide) (fun c2 => ?_) (fun c2 => ?_)
    · replace h := jif_t c2 h
      refine lv_iload_n hx hb dJh_checkSide_25 rfl (lv_at hl 2 rfl) ?_
      refine lv_if_lt (tgt := 34) hx hb dJh_checkSide_26 (by decide) (fun c3 => ?_) (fun c3 => ?_)
      · replace h := jif_t c3 h
        exact uJh_checkSide_34 l dC dI cA A Ap hC hA _ _ _ _ _ _ hJ (lv_sub hl [] rfl) h
      · replace h := jif_f c3 h
        refine lv_iload_n hx hb dJh_checkSide_29 rfl (lv_at hl 2 rfl) ?_
        refine lv_iconst (v := 4) hx hb dJh_checkSide_30 (by decide) ?_
        refine lv_icmp_lt (tgt := 44) hx hb dJh_checkSide_31 (by decide) (fun c4 => ?_) (fun c4 => ?_)
        · replace h := jif_t c4 h
          cases h
          exact jretv (u := B) hx hb hr hlocks hJ dJh_checkSide_44
        · replace h := jif_f c4 h
          exact uJh_checkSide_34 l dC dI cA A Ap hC hA _ _ _ _ _ _ hJ (lv_sub hl [] rfl) h
    · replace h := jif_f c2 h
      exact uJh_checkSide_15 l dC dI cA A Ap hC hA _ _ _ _ _ _ hJ (lv_sub hl [] rfl) h
set_option maxHeartbeats 4000000 in
set_option maxRecDepth 100000 in
theorem cJh_checkSide (l : Launch) (dC : Nat → ClassId) (dI : Nat → Nat → Nat) (cA : ClassId) (A : Nat → Nat) (x1 : Int32) (x2 : Int32) (M : jM) (F : jF) (B : Nat → Nat) (sz : Nat) {r : Int32} {M' : jM} {F' : jF} (h : fJh_checkSide x1 x2 M F = some (0, r, M', F')) : jCv l yJh_checkSide wJh_checkSide rJh_checkSide (dC, dI) jCl [(cA, .int)] [.ref (A 0), .int x1, .int x2] (jW cA A B M F) sz (fun B => jW cA A B (M') (F')) :=
  jOf (Qc := fun Ap => va_Qv (fun _ : Nat → Nat => True) (jPost (dC, dI) jCl [(cA, .int)] (fun B => jW cA A B (M') (F')) Ap) Ap) (by decide) rfl (Nat.le_of_ble_eq_true rfl) (fun p e s m below meth c Ap ls hC hA hJ hl => uJh_checkSide_0 l dC dI cA A Ap hC hA _ _ _ _ _ _ _ _ hJ (lv_sub hl [0, 1, 2] rfl) h)
set_option maxHeartbeats 4000000 in
set_option maxRecDepth 100000 in
theorem uxJh_checkSide_15 {p : Program} {e : Env} {s : State} {m : MethodId} {args : Array Value} {below : List Frame} {meth : Method} {c : Code} (l : Launch) (dC : Nat → ClassId) (dI : Nat → Nat → Nat) (cA : ClassId) (A : Nat → Nat) (Ap : Nat → Prop) (hX : jAtX l Ap s c) (hC : jAt p s m args meth c bJh_checkSide 3 none wJh_checkSide RJh) (hA : ∀ q : Nat, s.heap.size ≤ q → Ap q) {k : Nat} (hk : ¬ k = 0) {r : Int32} {M' : jM} {F' : jF} : ∀ (M : jM) (F : jF) (B : Nat → Nat) (H : Heap) (locs : List Loc) (ls : Array Slot), jH (dC, dI) jCl [(cA, .int)] (jW cA A B M F) Ap s H locs → lv_has ls 3 [] → fJh_checkSide_15 M F = some (k, r, M', F') → W p l e (headSpec wJh_checkSide rxJh_checkSide).room s m args below meth c H locs 0 0 (jQx below (dC, dI) jCl [(cA, .int)] (fun B => jW cA A B (M') (F')) Ap args s k) (F0 m 15 ls []) := by
  obtain ⟨hx, hb, hml, hr, hts, hown, hlocks, hN⟩ := id hC
  have hj : ∀ w ∈ jw, w.before args s = true := fun w h => hts w (List.mem_cons_of_mem _ h)
  intro  M F B H locs ls hJ hl h
  unfold fJh_checkSide_15 at h
  cases h
  exact jthrow_1 (text := "no such generator") (u := B) hx hb hml hown hj hX hlocks hl.1 hJ (by decide) dJh_checkSide_15 dJh_checkSide_18 dJh_checkSide_19 dJh_checkSide_21 dJh_checkSide_24 (Nat.le_of_ble_eq_true rfl) (Nat.le_of_ble_eq_true rfl) (Nat.le_of_ble_eq_true rfl) (Nat.le_of_ble_eq_true rfl)
set_option maxHeartbeats 4000000 in
set_option maxRecDepth 100000 in
theorem uxJh_checkSide_34 {p : Program} {e : Env} {s : State} {m : MethodId} {args : Array Value} {below : List Frame} {meth : Method} {c : Code} (l : Launch) (dC : Nat → ClassId) (dI : Nat → Nat → Nat) (cA : ClassId) (A : Nat → Nat) (Ap : Nat → Prop) (hX : jAtX l Ap s c) (hC : jAt p s m args meth c bJh_checkSide 3 none wJh_checkSide RJh) (hA : ∀ q : Nat, s.heap.size ≤ q → Ap q) {k : Nat} (hk : ¬ k = 0) {r : Int32} {M' : jM} {F' : jF} : ∀ (M : jM) (F : jF) (B : Nat → Nat) (H : Heap) (locs : List Loc) (ls : Array Slot), jH (dC, dI) jCl [(cA, .int)] (jW cA A B M F) Ap s H locs → lv_has ls 3 [] → fJh_checkSide_34 M F = some (k, r, M', F') → W p l e (headSpec wJh_checkSide rxJh_checkSide).room s m args below meth c H locs 0 0 (jQx below (dC, dI) jCl [(cA, .int)] (fun B => jW cA A B (M') (F')) Ap args s k) (F0 m 34 ls []) := by
  obtain ⟨hx, hb, hml, hr, hts, hown, hlocks, hN⟩ := id hC
  have hj : ∀ w ∈ jw, w.before args s = true := fun w h => hts w (List.mem_cons_of_mem _ h)
  intro  M F B H locs ls hJ hl h
  unfold fJh_checkSide_34 at h
  cases h
  exact jthrow_1 (text := "no such column") (u := B) hx hb hml hown hj hX hlocks hl.1 hJ (by decide) dJh_checkSide_34 dJh_checkSide_37 dJh_checkSide_38 dJh_checkSide_40 dJh_checkSide_43 (Nat.le_of_ble_eq_true rfl) (Nat.le_of_ble_eq_true rfl) (Nat.le_of_ble_eq_true rfl) (Nat.le_of_ble_eq_true rfl)
set_option maxHeartbeats 4000000 in
set_option maxRecDepth 100000 in
theorem uxJh_checkSide_0 {p : Program} {e : Env} {s : State} {m : MethodId} {args : Array Value} {below : List Frame} {meth : Method} {c : Code} (l : Launch) (dC : Nat → ClassId) (dI : Nat → Nat → Nat) (cA : ClassId) (A : Nat → Nat) (Ap : Nat → Prop) (hX : jAtX l Ap s c) (hC : jAt p s m args meth c bJh_checkSide 3 none wJh_checkSide RJh) (hA : ∀ q : Nat, s.heap.size ≤ q → Ap q) {k : Nat} (hk : ¬ k = 0) {r : Int32} {M' : jM} {F' : jF} : ∀ (x1 x2 : Int32) (M : jM) (F : jF) (B : Nat → Nat) (H : Heap) (locs : List Loc) (ls : Array Slot), jH (dC, dI) jCl [(cA, .int)] (jW cA A B M F) Ap s H locs → lv_has ls 3 [(0, .ref (A 0)), (1, .int x1), (2, .int x2)] → fJh_checkSide_0 x1 x2 M F = some (k, r, M', F') → W p l e (headSpec wJh_checkSide rxJh_checkSide).room s m args below meth c H locs 0 0 (jQx below (dC, dI) jCl [(cA, .int)] (fun B => jW cA A B (M') (F')) Ap args s k) (F0 m 0 ls []) := by
  obtain ⟨hx, hb, hml, hr, hts, hown, hlocks, hN⟩ := id hC
  have hj : ∀ w ∈ jw, w.before args s = true := fun w h => hts w (List.mem_cons_of_mem _ h)
  intro x1 x2 M F B H locs ls hJ hl h
  unfold fJh_checkSide_0 at h
  refine lv_iload_n hx hb dJh_checkSide_0 rfl (lv_at hl 1 rfl) ?_
  refine lv_if_lt (tgt := 15) hx hb dJh_checkSide_1 (by decide) (fun c1 => ?_) (fun c1 => ?_)
  · replace h := jif_t c1 h
    exact uxJh_checkSide_15 l dC dI cA A Ap hX hC hA hk _ _ _ _ _ _ hJ (lv_sub hl [] rfl) h
  · replace h := jif_f c1 h
    refine lv_iload_n hx hb dJh_checkSide_4 rfl (lv_at hl 1 rfl) ?_
    refine lv_aload_n hx hb dJh_checkSide_5 rfl (lv_at hl 0 rfl) ?_
    refine va_get (D := (dC, dI)) (ci := 0) (v := .ref (A 3)) (C := RJh) (T := TJh) (N := 4) hx hb hj iJh hown hJ.1 hJ.2.1 0 rfl rfl 2 (by decide) (hj _ jw_182) (fun _ h9 => h9) rfl dJh_checkSide_6 ?_
    refine va_getN (D := (dC, dI)) (ci := 3) (v := .int (F 0)) (C := RQu) (T := TQu) (N := 10) hx hb hj iQu hown hJ.1 hJ.2.1 3 rfl rfl 8 (by decide) (jnw_use hN jnw_8) (fun _ h9 => h9) rfl dJh_checkSide_9 ?_
    refine lv_icmp_lt (tgt := 25) hx hb dJh_checkSide_12 (by decide) (fun c2 => ?_) (fun c2 => ?_)
    · replace h := jif_t c2 h
      refine lv_iload_n hx hb dJh_checkSide_25 rfl (lv_at hl 2 rfl) ?_
      refine lv_if_lt (tgt := 34) hx hb dJh_checkSide_26 (by decide) (fun c3 => ?_) (fun c3 => ?_)
      · replace h := jif_t c3 h
        exact uxJh_checkSide_34 l dC dI cA A Ap hX hC hA hk _ _ _ _ _ _ hJ (lv_sub hl [] rfl) h
      · replace h := jif_f c3 h
        refine lv_iload_n hx hb dJh_checkSide_29 rfl (lv_at hl 2 rfl) ?_
        refine lv_iconst (v := 4) hx hb dJh_checkSide_30 (by decide) ?_
        refine lv_icmp_lt (tgt := 44) hx hb dJh_checkSide_31 (by decide) (fun c4 => ?_) (fun c4 => ?_)
        · replace h := jif_t c4 h
          exact (jk_no3 hk h.symm).elim
        · replace h := jif_f c4 h
          exact uxJh_checkSide_34 l dC dI cA A Ap hX hC hA hk _ _ _ _ _ _ hJ (lv_sub hl [] rfl) h
    · replace h := jif_f c2 h
      exact uxJh_checkSide_15 l dC dI cA A Ap hX hC hA hk _ _ _ _ _ _ hJ (lv_sub hl [] rfl) h
set_option maxHeartbeats 4000000 in
set_option maxRecDepth 100000 in
theorem cxJh_checkSide (l : Launch) (dC : Nat → ClassId) (dI : Nat → Nat → Nat) (cA : ClassId) (A : Nat → Nat) (hl0 : l.stackTraces = false) (x1 : Int32) (x2 : Int32) (M : jM) (F : jF) (B : Nat → Nat) (sz : Nat) {k : Nat} (hk : ¬ k = 0) {r : Int32} {M' : jM} {F' : jF} (h : fJh_checkSide x1 x2 M F = some (k, r, M', F')) : jCx l yJh_checkSide wJh_checkSide rxJh_checkSide (dC, dI) jCl [(cA, .int)] [.ref (A 0), .int x1, .int x2] (jW cA A B M F) sz k (fun B => jW cA A B (M') (F')) :=
  jOfX hl0 (by decide) rfl (Nat.le_of_ble_eq_true rfl) (fun p e s m below meth c Ap ls hC hX hA hJ hl => uxJh_checkSide_0 l dC dI cA A Ap hX hC hA hk _ _ _ _ _ _ _ _ hJ (lv_sub hl [0, 1, 2] rfl) h)
abbrev bJh_checkConditionsLeft : ByteArray := prog_1_method_16_code
abbrev yJh_checkConditionsLeft : MethodName := ⟨RJh, "checkConditionsLeft", "()V"⟩
abbrev wJh_checkConditionsLeft : List Cond := .code yJh_checkConditionsLeft bJh_checkConditionsLeft 1 none :: jw
theorem dJh_checkConditionsLeft_0 : decode bJh_checkConditionsLeft 0 = .ok (.aload_n 0, 1) := by decide +kernel
theorem dJh_checkConditionsLeft_1 : decode bJh_checkConditionsLeft 1 = .ok (.getfield 27, 3) := by decide +kernel
theorem dJh_checkConditionsLeft_4 : decode bJh_checkConditionsLeft 4 = .ok (.getfield 135, 3) := by decide +kernel
theorem dJh_checkConditionsLeft_7 : decode bJh_checkConditionsLeft 7 = .ok (.bipush 12, 2) := by decide +kernel
theorem dJh_checkConditionsLeft_9 : decode bJh_checkConditionsLeft 9 = .ok (.if_icmp .lt 13, 3) := by decide +kernel
theorem dJh_checkConditionsLeft_12 : decode bJh_checkConditionsLeft 12 = .ok (.new 58, 3) := by decide +kernel
theorem dJh_checkConditionsLeft_15 : decode bJh_checkConditionsLeft 15 = .ok (.dup, 1) := by decide +kernel
theorem dJh_checkConditionsLeft_16 : decode bJh_checkConditionsLeft 16 = .ok (.ldc 138, 2) := by decide +kernel
theorem dJh_checkConditionsLeft_18 : decode bJh_checkConditionsLeft 18 = .ok (.invokespecial 62, 3) := by decide +kernel
theorem dJh_checkConditionsLeft_21 : decode bJh_checkConditionsLeft 21 = .ok (.athrow, 1) := by decide +kernel
theorem dJh_checkConditionsLeft_22 : decode bJh_checkConditionsLeft 22 = .ok (.return_, 1) := by decide +kernel
abbrev rJh_checkConditionsLeft : Room := { frames := 0, cells := 0, slots := 0, locals := 0 }
abbrev rxJh_checkConditionsLeft : Room := { frames := 6, cells := 1, slots := 6, locals := 90 }
def fJh_checkConditionsLeft_0 (M : jM) (F : jF) : Option (Nat × Int32 × jM × jF) := (if (F 1) < 12 then some (0, 0, M, F) else some (2, 0, M, F))
abbrev fJh_checkConditionsLeft (M : jM) (F : jF) : Option (Nat × Int32 × jM × jF) := fJh_checkConditionsLeft_0  M F
set_option maxHeartbeats 4000000 in
set_option maxRecDepth 100000 in
theorem uJh_checkConditionsLeft_0 {p : Program} {e : Env} {s : State} {m : MethodId} {args : Array Value} {below : List Frame} {meth : Method} {c : Code} (l : Launch) (dC : Nat → ClassId) (dI : Nat → Nat → Nat) (cA : ClassId) (A : Nat → Nat) (Ap : Nat → Prop) (hC : jAt p s m args meth c bJh_checkConditionsLeft 1 none wJh_checkConditionsLeft RJh) (hA : ∀ q : Nat, s.heap.size ≤ q → Ap q) {r : Int32} {M' : jM} {F' : jF} : ∀ (M : jM) (F : jF) (B : Nat → Nat) (H : Heap) (locs : List Loc) (ls : Array Slot), jH (dC, dI) jCl [(cA, .int)] (jW cA A B M F) Ap s H locs → lv_has ls 1 [(0, .ref (A 0))] → fJh_checkConditionsLeft_0 M F = some (0, r, M', F') → W p l e (headSpec wJh_checkConditionsLeft rJh_checkConditionsLeft).room s m args below meth c H locs 0 0 (jQv below (dC, dI) jCl [(cA, .int)] (fun B => jW cA A B (M') (F')) Ap args s) (F0 m 0 ls []) := by
  obtain ⟨hx, hb, hml, hr, hts, hown, hlocks, hN⟩ := id hC
  have hj : ∀ w ∈ jw, w.before args s = true := fun w h => hts w (List.mem_cons_of_mem _ h)
  intro  M F B H locs ls hJ hl h
  unfold fJh_checkConditionsLeft_0 at h
  refine lv_aload_n hx hb dJh_checkConditionsLeft_0 rfl (lv_at hl 0 rfl) ?_
  refine va_get (D := (dC, dI)) (ci := 0) (v := .ref (A 3)) (C := RJh) (T := TJh) (N := 4) hx hb hj iJh hown hJ.1 hJ.2.1 0 rfl rfl 2 (by decide) (hj _ jw_182) (fun _ h9 => h9) rfl dJh_checkConditionsLeft_1 ?_
  refine va_getN (D := (dC, dI)) (ci := 3) (v := .int (F 1)) (C := RQu) (T := TQu) (N := 10) hx hb hj iQu hown hJ.1 hJ.2.1 3 rfl rfl 9 (by decide) (jnw_use hN jnw_11) (fun _ h9 => h9) rfl dJh_checkConditionsLeft_4 ?_
  refine lv_bipush (v := 12) hx hb dJh_checkConditionsLeft_7 (by decide) ?_
  refine lv_icmp_lt (tgt := 22) hx hb dJh_checkConditionsLeft_9 (by decide) (fun c1 => ?_) (fun c1 => ?_)
  · replace h := jif_t c1 h
    cases h
    exact jretv (u := B) hx hb hr hlocks hJ dJh_checkConditionsLeft_22
  · replace h := jif_f c1 h
    exact (jk_no h).elim
set_option maxHeartbeats 4000000 in
set_option maxRecDepth 100000 in
theorem cJh_checkConditionsLeft (l : Launch) (dC : Nat → ClassId) (dI : Nat → Nat → Nat) (cA : ClassId) (A : Nat → Nat) (M : jM) (F : jF) (B : Nat → Nat) (sz : Nat) {r : Int32} {M' : jM} {F' : jF} (h : fJh_checkConditionsLeft M F = some (0, r, M', F')) : jCv l yJh_checkConditionsLeft wJh_checkConditionsLeft rJh_checkConditionsLeft (dC, dI) jCl [(cA, .int)] [.ref (A 0)] (jW cA A B M F) sz (fun B => jW cA A B (M') (F')) :=
  jOf (Qc := fun Ap => va_Qv (fun _ : Nat → Nat => True) (jPost (dC, dI) jCl [(cA, .int)] (fun B => jW cA A B (M') (F')) Ap) Ap) (by decide) rfl (Nat.le_of_ble_eq_true rfl) (fun p e s m below meth c Ap ls hC hA hJ hl => uJh_checkConditionsLeft_0 l dC dI cA A Ap hC hA _ _ _ _ _ _ hJ (lv_sub hl [0] rfl) h)
set_option maxHeartbeats 4000000 in
set_option maxRecDepth 100000 in
theorem uxJh_checkConditionsLeft_0 {p : Program} {e : Env} {s : State} {m : MethodId} {args : Array Value} {below : List Frame} {meth : Method} {c : Code} (l : Launch) (dC : Nat → ClassId) (dI : Nat → Nat → Nat) (cA : ClassId) (A : Nat → Nat) (Ap : Nat → Prop) (hX : jAtX l Ap s c) (hC : jAt p s m args meth c bJh_checkConditionsLeft 1 none wJh_checkConditionsLeft RJh) (hA : ∀ q : Nat, s.heap.size ≤ q → Ap q) {k : Nat} (hk : ¬ k = 0) {r : Int32} {M' : jM} {F' : jF} : ∀ (M : jM) (F : jF) (B : Nat → Nat) (H : Heap) (locs : List Loc) (ls : Array Slot), jH (dC, dI) jCl [(cA, .int)] (jW cA A B M F) Ap s H locs → lv_has ls 1 [(0, .ref (A 0))] → fJh_checkConditionsLeft_0 M F = some (k, r, M', F') → W p l e (headSpec wJh_checkConditionsLeft rxJh_checkConditionsLeft).room s m args below meth c H locs 0 0 (jQx below (dC, dI) jCl [(cA, .int)] (fun B => jW cA A B (M') (F')) Ap args s k) (F0 m 0 ls []) := by
  obtain ⟨hx, hb, hml, hr, hts, hown, hlocks, hN⟩ := id hC
  have hj : ∀ w ∈ jw, w.before args s = true := fun w h => hts w (List.mem_cons_of_mem _ h)
  intro  M F B H locs ls hJ hl h
  unfold fJh_checkConditionsLeft_0 at h
  refine lv_aload_n hx hb dJh_checkConditionsLeft_0 rfl (lv_at hl 0 rfl) ?_
  refine va_get (D := (dC, dI)) (ci := 0) (v := .ref (A 3)) (C := RJh) (T := TJh) (N := 4) hx hb hj iJh hown hJ.1 hJ.2.1 0 rfl rfl 2 (by decide) (hj _ jw_182) (fun _ h9 => h9) rfl dJh_checkConditionsLeft_1 ?_
  refine va_getN (D := (dC, dI)) (ci := 3) (v := .int (F 1)) (C := RQu) (T := TQu) (N := 10) hx hb hj iQu hown hJ.1 hJ.2.1 3 rfl rfl 9 (by decide) (jnw_use hN jnw_11) (fun _ h9 => h9) rfl dJh_checkConditionsLeft_4 ?_
  refine lv_bipush (v := 12) hx hb dJh_checkConditionsLeft_7 (by decide) ?_
  refine lv_icmp_lt (tgt := 22) hx hb dJh_checkConditionsLeft_9 (by decide) (fun c1 => ?_) (fun c1 => ?_)
  · replace h := jif_t c1 h
    exact (jk_no3 hk h.symm).elim
  · replace h := jif_f c1 h
    cases h
    exact jthrow_2 (text := "there are twelve conditions") (u := B) hx hb hml hown hj hX hlocks hl.1 hJ (by decide) dJh_checkConditionsLeft_12 dJh_checkConditionsLeft_15 dJh_checkConditionsLeft_16 dJh_checkConditionsLeft_18 dJh_checkConditionsLeft_21 (Nat.le_of_ble_eq_true rfl) (Nat.le_of_ble_eq_true rfl) (Nat.le_of_ble_eq_true rfl) (Nat.le_of_ble_eq_true rfl)
set_option maxHeartbeats 4000000 in
set_option maxRecDepth 100000 in
theorem cxJh_checkConditionsLeft (l : Launch) (dC : Nat → ClassId) (dI : Nat → Nat → Nat) (cA : ClassId) (A : Nat → Nat) (hl0 : l.stackTraces = false) (M : jM) (F : jF) (B : Nat → Nat) (sz : Nat) {k : Nat} (hk : ¬ k = 0) {r : Int32} {M' : jM} {F' : jF} (h : fJh_checkConditionsLeft M F = some (k, r, M', F')) : jCx l yJh_checkConditionsLeft wJh_checkConditionsLeft rxJh_checkConditionsLeft (dC, dI) jCl [(cA, .int)] [.ref (A 0)] (jW cA A B M F) sz k (fun B => jW cA A B (M') (F')) :=
  jOfX hl0 (by decide) rfl (Nat.le_of_ble_eq_true rfl) (fun p e s m below meth c Ap ls hC hX hA hJ hl => uxJh_checkConditionsLeft_0 l dC dI cA A Ap hX hC hA hk _ _ _ _ _ _ hJ (lv_sub hl [0] rfl) h)
abbrev bJh_equal : ByteArray := prog_1_method_6_code
abbrev yJh_equal : MethodName := ⟨RJh, "equal", "(IIII)I"⟩
abbrev wJh_equal : List Cond := .code yJh_equal bJh_equal 5 (some .int) :: jw
theorem dJh_equal_0 : decode bJh_equal 0 = .ok (.aload_n 0, 1) := by decide +kernel
theorem dJh_equal_1 : decode bJh_equal 1 = .ok (.iload_n 1, 1) := by decide +kernel
theorem dJh_equal_2 : decode bJh_equal 2 = .ok (.iload_n 2, 1) := by decide +kernel
theorem dJh_equal_3 : decode bJh_equal 3 = .ok (.invokevirtual 78, 3) := by decide +kernel
theorem dJh_equal_6 : decode bJh_equal 6 = .ok (.aload_n 0, 1) := by decide +kernel
theorem dJh_equal_7 : decode bJh_equal 7 = .ok (.iload_n 3, 1) := by decide +kernel
theorem dJh_equal_8 : decode bJh_equal 8 = .ok (.iload 4, 2) := by decide +kernel
theorem dJh_equal_10 : decode bJh_equal 10 = .ok (.invokevirtual 78, 3) := by decide +kernel
theorem dJh_equal_13 : decode bJh_equal 13 = .ok (.aload_n 0, 1) := by decide +kernel
theorem dJh_equal_14 : decode bJh_equal 14 = .ok (.invokevirtual 81, 3) := by decide +kernel
theorem dJh_equal_17 : decode bJh_equal 17 = .ok (.aload_n 0, 1) := by decide +kernel
theorem dJh_equal_18 : decode bJh_equal 18 = .ok (.getfield 27, 3) := by decide +kernel
theorem dJh_equal_21 : decode bJh_equal 21 = .ok (.iconst 0, 1) := by decide +kernel
theorem dJh_equal_22 : decode bJh_equal 22 = .ok (.iload_n 1, 1) := by decide +kernel
theorem dJh_equal_23 : decode bJh_equal 23 = .ok (.iload_n 2, 1) := by decide +kernel
theorem dJh_equal_24 : decode bJh_equal 24 = .ok (.iload_n 3, 1) := by decide +kernel
theorem dJh_equal_25 : decode bJh_equal 25 = .ok (.iload 4, 2) := by decide +kernel
theorem dJh_equal_27 : decode bJh_equal 27 = .ok (.invokevirtual 84, 3) := by decide +kernel
theorem dJh_equal_30 : decode bJh_equal 30 = .ok (.ireturn, 1) := by decide +kernel
abbrev rJh_equal : Room := { frames := 1, cells := 0, slots := 0, locals := 26 }
abbrev rxJh_equal : Room := { frames := 7, cells := 1, slots := 6, locals := 112 }
def fJh_equal_0 (x1 : Int32) (x2 : Int32) (x3 : Int32) (x4 : Int32) (M : jM) (F : jF) : Option (Nat × Int32 × jM × jF) := ((fJh_checkSide x1 x2 M F).bind fun q1 => if q1.1 = 0 then ((fJh_checkSide x3 x4 q1.2.2.1 q1.2.2.2).bind fun q3 => if q3.1 = 0 then ((fJh_checkConditionsLeft q3.2.2.1 q3.2.2.2).bind fun q5 => if q5.1 = 0 then ((fQu_addCondition 0 x1 x2 x3 x4 q5.2.2.1 q5.2.2.2).bind fun q7 => some (0, q7.1, q7.2.1, q7.2.2)) else some (q5.1, 0, q5.2.2.1, q5.2.2.2)) else some (q3.1, 0, q3.2.2.1, q3.2.2.2)) else some (q1.1, 0, q1.2.2.1, q1.2.2.2))
abbrev fJh_equal (x1 : Int32) (x2 : Int32) (x3 : Int32) (x4 : Int32) (M : jM) (F : jF) : Option (Nat × Int32 × jM × jF) := fJh_equal_0 x1 x2 x3 x4 M F
set_option maxHeartbeats 4000000 in
set_option maxRecDepth 100000 in
theorem uJh_equal_0 {p : Program} {e : Env} {s : State} {m : MethodId} {args : Array Value} {below : List Frame} {meth : Method} {c : Code} (l : Launch) (dC : Nat → ClassId) (dI : Nat → Nat → Nat) (cA : ClassId) (A : Nat → Nat) (Ap : Nat → Prop) (hC : jAt p s m args meth c bJh_equal 5 (some .int) wJh_equal RJh) (hA : ∀ q : Nat, s.heap.size ≤ q → Ap q) {r : Int32} {M' : jM} {F' : jF} : ∀ (x1 x2 x3 x4 : Int32) (M : jM) (F : jF) (B : Nat → Nat) (H : Heap) (locs : List Loc) (ls : Array Slot), jH (dC, dI) jCl [(cA, .int)] (jW cA A B M F) Ap s H locs → lv_has ls 5 [(0, .ref (A 0)), (1, .int x1), (2, .int x2), (3, .int x3), (4, .int x4)] → fJh_equal_0 x1 x2 x3 x4 M F = some (0, r, M', F') → W p l e (headSpec wJh_equal rJh_equal).room s m args below meth c H locs 0 0 (jQi below (dC, dI) jCl [(cA, .int)] (fun B => jW cA A B (M') (F')) Ap args s r) (F0 m 0 ls []) := by
  obtain ⟨hx, hb, hml, hr, hts, hown, hlocks, hN⟩ := id hC
  have hj : ∀ w ∈ jw, w.before args s = true := fun w h => hts w (List.mem_cons_of_mem _ h)
  intro x1 x2 x3 x4 M F B H locs ls hJ hl h
  unfold fJh_equal_0 at h
  refine lv_aload_n hx hb dJh_equal_0 rfl (lv_at hl 0 rfl) ?_
  refine lv_iload_n hx hb dJh_equal_1 rfl (lv_at hl 1 rfl) ?_
  refine lv_iload_n hx hb dJh_equal_2 rfl (lv_at hl 2 rfl) ?_
  obtain ⟨q1, hq1, h⟩ := jbi_h h
  by_cases cq1 : q1.1 = 0
  · replace h := jif_t cq1 h
    refine jcallv (w' := fun B => jW cA A B q1.2.2.1 q1.2.2.2) (va_runV (As := [.int x1, .int x2]) (rest := []) ⟨hx, hb, hml, hown, hts⟩ (cJh_checkSide l dC dI cA A x1 x2 M F B H.size (hq1.trans (congrArg some (Prod.ext cq1 rfl)))) (cwV 2 hts (jgoodV jw_352 jw_354 jws_3 jw_1 jw_355) rfl rfl rfl (by decide +kernel) ⟨Nat.le_of_ble_eq_true rfl, Nat.le_of_ble_eq_true rfl⟩) (jpreV hN hJ (ci := 0) (q0 := 0) rfl rfl) rfl rfl hl.1 rfl (lv_room (Nat.le_of_ble_eq_true rfl)) dJh_equal_3 ⟨Nat.zero_le _, Nat.zero_le _⟩) hA hJ (fun B2 H locs hJ => ?_)
    refine lv_aload_n hx hb dJh_equal_6 rfl (lv_at hl 0 rfl) ?_
    refine lv_iload_n hx hb dJh_equal_7 rfl (lv_at hl 3 rfl) ?_
    refine lv_iload hx hb dJh_equal_8 (lv_at hl 4 rfl) ?_
    obtain ⟨q3, hq3, h⟩ := jbi_h h
    by_cases cq3 : q3.1 = 0
    · replace h := jif_t cq3 h
      refine jcallv (w' := fun B => jW cA A B q3.2.2.1 q3.2.2.2) (va_runV (As := [.int x3, .int x4]) (rest := []) ⟨hx, hb, hml, hown, hts⟩ (cJh_checkSide l dC dI cA A x3 x4 q1.2.2.1 q1.2.2.2 B2 H.size (hq3.trans (congrArg some (Prod.ext cq3 rfl)))) (cwV 2 hts (jgoodV jw_352 jw_354 jws_3 jw_1 jw_355) rfl rfl rfl (by decide +kernel) ⟨Nat.le_of_ble_eq_true rfl, Nat.le_of_ble_eq_true rfl⟩) (jpreV hN hJ (ci := 0) (q0 := 0) rfl rfl) rfl rfl hl.1 rfl (lv_room (Nat.le_of_ble_eq_true rfl)) dJh_equal_10 ⟨Nat.zero_le _, Nat.zero_le _⟩) hA hJ (fun B4 H locs hJ => ?_)
      refine lv_aload_n hx hb dJh_equal_13 rfl (lv_at hl 0 rfl) ?_
      obtain ⟨q5, hq5, h⟩ := jbi_h h
      by_cases cq5 : q5.1 = 0
      · replace h := jif_t cq5 h
        refine jcallv (w' := fun B => jW cA A B q5.2.2.1 q5.2.2.2) (va_runV (As := []) (rest := []) ⟨hx, hb, hml, hown, hts⟩ (cJh_checkConditionsLeft l dC dI cA A q3.2.2.1 q3.2.2.2 B4 H.size (hq5.trans (congrArg some (Prod.ext cq5 rfl)))) (cwV 0 hts (jgoodV jw_357 jw_359 jws_4 jw_1 jw_360) rfl rfl rfl (by decide +kernel) ⟨Nat.le_of_ble_eq_true rfl, Nat.le_of_ble_eq_true rfl⟩) (jpreV hN hJ (ci := 0) (q0 := 0) rfl rfl) rfl rfl hl.1 rfl (lv_room (Nat.le_of_ble_eq_true rfl)) dJh_equal_14 ⟨Nat.zero_le _, Nat.zero_le _⟩) hA hJ (fun B6 H locs hJ => ?_)
        refine lv_aload_n hx hb dJh_equal_17 rfl (lv_at hl 0 rfl) ?_
        refine va_get (D := (dC, dI)) (ci := 0) (v := .ref (A 3)) (C := RJh) (T := TJh) (N := 4) hx hb hj iJh hown hJ.1 hJ.2.1 0 rfl rfl 2 (by decide) (hj _ jw_182) (fun _ h9 => h9) rfl dJh_equal_18 ?_
        refine lv_iconst (v := 0) hx hb dJh_equal_21 (by decide) ?_
        refine lv_iload_n hx hb dJh_equal_22 rfl (lv_at hl 1 rfl) ?_
        refine lv_iload_n hx hb dJh_equal_23 rfl (lv_at hl 2 rfl) ?_
        refine lv_iload_n hx hb dJh_equal_24 rfl (lv_at hl 3 rfl) ?_
        refine lv_iload hx hb dJh_equal_25 (lv_at hl 4 rfl) ?_
        obtain ⟨q7, hq7, h⟩ := jbi_h h
        refine jcalli (w' := fun B => jW cA A B q7.2.1 q7.2.2) (va_runV (As := [.int 0, .int x1, .int x2, .int x3, .int x4]) (rest := []) ⟨hx, hb, hml, hown, hts⟩ (cQu_addCondition l dC dI cA A 0 x1 x2 x3 x4 q5.2.2.1 q5.2.2.2 B6 H.size hq7) (cwV 5 hts (jgoodV jw_362 jw_363 jw_364 jw_4 jw_365) rfl rfl rfl (by decide +kernel) ⟨Nat.le_of_ble_eq_true rfl, Nat.le_of_ble_eq_true rfl⟩) (jpreV hN hJ (ci := 3) (q0 := 3) rfl rfl) rfl rfl hl.1 rfl (lv_room (Nat.le_of_ble_eq_true rfl)) dJh_equal_27 ⟨Nat.zero_le _, Nat.zero_le _⟩) hA hJ (fun B8 H locs hJ => ?_)
        cases h
        exact jreti (u := B8) hx hb hr rfl hlocks hJ dJh_equal_30 rfl
      · replace h := jif_f cq5 h
        exact (jk_no3 cq5 h).elim
    · replace h := jif_f cq3 h
      exact (jk_no3 cq3 h).elim
  · replace h := jif_f cq1 h
    exact (jk_no3 cq1 h).elim
set_option maxHeartbeats 4000000 in
set_option maxRecDepth 100000 in
theorem cJh_equal (l : Launch) (dC : Nat → ClassId) (dI : Nat → Nat → Nat) (cA : ClassId) (A : Nat → Nat) (x1 : Int32) (x2 : Int32) (x3 : Int32) (x4 : Int32) (M : jM) (F : jF) (B : Nat → Nat) (sz : Nat) {r : Int32} {M' : jM} {F' : jF} (h : fJh_equal x1 x2 x3 x4 M F = some (0, r, M', F')) : jCi l yJh_equal wJh_equal rJh_equal (dC, dI) jCl [(cA, .int)] [.ref (A 0), .int x1, .int x2, .int x3, .int x4] (jW cA A B M F) sz r (fun B => jW cA A B (M') (F')) :=
  jOf (Qc := fun Ap => va_Qi (fun q (_ : Nat → Nat) => q = r) (jPost (dC, dI) jCl [(cA, .int)] (fun B => jW cA A B (M') (F')) Ap) Ap) (by decide) rfl (Nat.le_of_ble_eq_true rfl) (fun p e s m below meth c Ap ls hC hA hJ hl => uJh_equal_0 l dC dI cA A Ap hC hA _ _ _ _ _ _ _ _ _ _ hJ (lv_sub hl [0, 1, 2, 3, 4] rfl) h)
set_option maxHeartbeats 4000000 in
set_option maxRecDepth 100000 in
theorem uxJh_equal_0 {p : Program} {e : Env} {s : State} {m : MethodId} {args : Array Value} {below : List Frame} {meth : Method} {c : Code} (l : Launch) (dC : Nat → ClassId) (dI : Nat → Nat → Nat) (cA : ClassId) (A : Nat → Nat) (Ap : Nat → Prop) (hX : jAtX l Ap s c) (hC : jAt p s m args meth c bJh_equal 5 (some .int) wJh_equal RJh) (hA : ∀ q : Nat, s.heap.size ≤ q → Ap q) {k : Nat} (hk : ¬ k = 0) {r : Int32} {M' : jM} {F' : jF} : ∀ (x1 x2 x3 x4 : Int32) (M : jM) (F : jF) (B : Nat → Nat) (H : Heap) (locs : List Loc) (ls : Array Slot), jH (dC, dI) jCl [(cA, .int)] (jW cA A B M F) Ap s H locs → lv_has ls 5 [(0, .ref (A 0)), (1, .int x1), (2, .int x2), (3, .int x3), (4, .int x4)] → fJh_equal_0 x1 x2 x3 x4 M F = some (k, r, M', F') → W p l e (headSpec wJh_equal rxJh_equal).room s m args below meth c H locs 0 0 (jQx below (dC, dI) jCl [(cA, .int)] (fun B => jW cA A B (M') (F')) Ap args s k) (F0 m 0 ls []) := by
  obtain ⟨hx, hb, hml, hr, hts, hown, hlocks, hN⟩ := id hC
  have hj : ∀ w ∈ jw, w.before args s = true := fun w h => hts w (List.mem_cons_of_mem _ h)
  intro x1 x2 x3 x4 M F B H locs ls hJ hl h
  unfold fJh_equal_0 at h
  refine lv_aload_n hx hb dJh_equal_0 rfl (lv_at hl 0 rfl) ?_
  refine lv_iload_n hx hb dJh_equal_1 rfl (lv_at hl 1 rfl) ?_
  refine lv_iload_n hx hb dJh_equal_2 rfl (lv_at hl 2 rfl) ?_
  obtain ⟨q1, hq1, h⟩ := jbi_h h
  by_cases cq1 : q1.1 = 0
  · replace h := jif_t cq1 h
    refine jcallv (w' := fun B => jW cA A B q1.2.2.1 q1.2.2.2) (va_runV (As := [.int x1, .int x2]) (rest := []) ⟨hx, hb, hml, hown, hts⟩ (cJh_checkSide l dC dI cA A x1 x2 M F B H.size (hq1.trans (congrArg some (Prod.ext cq1 rfl)))) (cwV 2 hts (jgoodV jw_352 jw_354 jws_3 jw_1 jw_355) rfl rfl rfl (by decide +kernel) ⟨Nat.le_of_ble_eq_true rfl, Nat.le_of_ble_eq_true rfl⟩) (jpreV hN hJ (ci := 0) (q0 := 0) rfl rfl) rfl rfl hl.1 rfl (lv_room (Nat.le_of_ble_eq_true rfl)) dJh_equal_3 ⟨Nat.zero_le _, Nat.zero_le _⟩) hA hJ (fun B2 H locs hJ => ?_)
    refine lv_aload_n hx hb dJh_equal_6 rfl (lv_at hl 0 rfl) ?_
    refine lv_iload_n hx hb dJh_equal_7 rfl (lv_at hl 3 rfl) ?_
    refine lv_iload hx hb dJh_equal_8 (lv_at hl 4 rfl) ?_
    obtain ⟨q3, hq3, h⟩ := jbi_h h
    by_cases cq3 : q3.1 = 0
    · replace h := jif_t cq3 h
      refine jcallv (w' := fun B => jW cA A B q3.2.2.1 q3.2.2.2) (va_runV (As := [.int x3, .int x4]) (rest := []) ⟨hx, hb, hml, hown, hts⟩ (cJh_checkSide l dC dI cA A x3 x4 q1.2.2.1 q1.2.2.2 B2 H.size (hq3.trans (congrArg some (Prod.ext cq3 rfl)))) (cwV 2 hts (jgoodV jw_352 jw_354 jws_3 jw_1 jw_355) rfl rfl rfl (by decide +kernel) ⟨Nat.le_of_ble_eq_true rfl, Nat.le_of_ble_eq_true rfl⟩) (jpreV hN hJ (ci := 0) (q0 := 0) rfl rfl) rfl rfl hl.1 rfl (lv_room (Nat.le_of_ble_eq_true rfl)) dJh_equal_10 ⟨Nat.zero_le _, Nat.zero_le _⟩) hA hJ (fun B4 H locs hJ => ?_)
      refine lv_aload_n hx hb dJh_equal_13 rfl (lv_at hl 0 rfl) ?_
      obtain ⟨q5, hq5, h⟩ := jbi_h h
      by_cases cq5 : q5.1 = 0
      · replace h := jif_t cq5 h
        refine jcallv (w' := fun B => jW cA A B q5.2.2.1 q5.2.2.2) (va_runV (As := []) (rest := []) ⟨hx, hb, hml, hown, hts⟩ (cJh_checkConditionsLeft l dC dI cA A q3.2.2.1 q3.2.2.2 B4 H.size (hq5.trans (congrArg some (Prod.ext cq5 rfl)))) (cwV 0 hts (jgoodV jw_357 jw_359 jws_4 jw_1 jw_360) rfl rfl rfl (by decide +kernel) ⟨Nat.le_of_ble_eq_true rfl, Nat.le_of_ble_eq_true rfl⟩) (jpreV hN hJ (ci := 0) (q0 := 0) rfl rfl) rfl rfl hl.1 rfl (lv_room (Nat.le_of_ble_eq_true rfl)) dJh_equal_14 ⟨Nat.zero_le _, Nat.zero_le _⟩) hA hJ (fun B6 H locs hJ => ?_)
        refine lv_aload_n hx hb dJh_equal_17 rfl (lv_at hl 0 rfl) ?_
        refine va_get (D := (dC, dI)) (ci := 0) (v := .ref (A 3)) (C := RJh) (T := TJh) (N := 4) hx hb hj iJh hown hJ.1 hJ.2.1 0 rfl rfl 2 (by decide) (hj _ jw_182) (fun _ h9 => h9) rfl dJh_equal_18 ?_
        refine lv_iconst (v := 0) hx hb dJh_equal_21 (by decide) ?_
        refine lv_iload_n hx hb dJh_equal_22 rfl (lv_at hl 1 rfl) ?_
        refine lv_iload_n hx hb dJh_equal_23 rfl (lv_at hl 2 rfl) ?_
        refine lv_iload_n hx hb dJh_equal_24 rfl (lv_at hl 3 rfl) ?_
        refine lv_iload hx hb dJh_equal_25 (lv_at hl 4 rfl) ?_
        obtain ⟨q7, hq7, h⟩ := jbi_h h
        refine jcalli (w' := fun B => jW cA A B q7.2.1 q7.2.2) (va_runV (As := [.int 0, .int x1, .int x2, .int x3, .int x4]) (rest := []) ⟨hx, hb, hml, hown, hts⟩ (cQu_addCondition l dC dI cA A 0 x1 x2 x3 x4 q5.2.2.1 q5.2.2.2 B6 H.size hq7) (cwV 5 hts (jgoodV jw_362 jw_363 jw_364 jw_4 jw_365) rfl rfl rfl (by decide +kernel) ⟨Nat.le_of_ble_eq_true rfl, Nat.le_of_ble_eq_true rfl⟩) (jpreV hN hJ (ci := 3) (q0 := 3) rfl rfl) rfl rfl hl.1 rfl (lv_room (Nat.le_of_ble_eq_true rfl)) dJh_equal_27 ⟨Nat.zero_le _, Nat.zero_le _⟩) hA hJ (fun B8 H locs hJ => ?_)
        exact (jk_no3 hk h.symm).elim
      · replace h := jif_f cq5 h
        cases h
        exact jxcall (vx_runV (As := []) (rest := []) ⟨hx, hb, hml, hown, hts⟩ (cxJh_checkConditionsLeft l dC dI cA A hX.1 q3.2.2.1 q3.2.2.2 B4 H.size cq5 hq5) (cwV 0 hts (jgoodV jw_357 jw_359 jws_4 jw_1 jw_360) rfl rfl rfl (by decide +kernel) ⟨Nat.le_of_ble_eq_true rfl, Nat.le_of_ble_eq_true rfl⟩) (jpreVX hX.2.1 hA hN hJ (ci := 0) (q0 := 0) rfl rfl) rfl rfl hl.1 rfl (lv_room (Nat.le_of_ble_eq_true rfl)) dJh_equal_14 ⟨Nat.le_of_ble_eq_true rfl, Nat.le_of_ble_eq_true rfl⟩) hA hJ hX.2.2 hlocks
    · replace h := jif_f cq3 h
      cases h
      exact jxcall (vx_runV (As := [.int x3, .int x4]) (rest := []) ⟨hx, hb, hml, hown, hts⟩ (cxJh_checkSide l dC dI cA A hX.1 x3 x4 q1.2.2.1 q1.2.2.2 B2 H.size cq3 hq3) (cwV 2 hts (jgoodV jw_352 jw_354 jws_3 jw_1 jw_355) rfl rfl rfl (by decide +kernel) ⟨Nat.le_of_ble_eq_true rfl, Nat.le_of_ble_eq_true rfl⟩) (jpreVX hX.2.1 hA hN hJ (ci := 0) (q0 := 0) rfl rfl) rfl rfl hl.1 rfl (lv_room (Nat.le_of_ble_eq_true rfl)) dJh_equal_10 ⟨Nat.le_of_ble_eq_true rfl, Nat.le_of_ble_eq_true rfl⟩) hA hJ hX.2.2 hlocks
  · replace h := jif_f cq1 h
    cases h
    exact jxcall (vx_runV (As := [.int x1, .int x2]) (rest := []) ⟨hx, hb, hml, hown, hts⟩ (cxJh_checkSide l dC dI cA A hX.1 x1 x2 M F B H.size cq1 hq1) (cwV 2 hts (jgoodV jw_352 jw_354 jws_3 jw_1 jw_355) rfl rfl rfl (by decide +kernel) ⟨Nat.le_of_ble_eq_true rfl, Nat.le_of_ble_eq_true rfl⟩) (jpreVX hX.2.1 hA hN hJ (ci := 0) (q0 := 0) rfl rfl) rfl rfl hl.1 rfl (lv_room (Nat.le_of_ble_eq_true rfl)) dJh_equal_3 ⟨Nat.le_of_ble_eq_true rfl, Nat.le_of_ble_eq_true rfl⟩) hA hJ hX.2.2 hlocks
set_option maxHeartbeats 4000000 in
set_option maxRecDepth 100000 in
theorem cxJh_equal (l : Launch) (dC : Nat → ClassId) (dI : Nat → Nat → Nat) (cA : ClassId) (A : Nat → Nat) (hl0 : l.stackTraces = false) (x1 : Int32) (x2 : Int32) (x3 : Int32) (x4 : Int32) (M : jM) (F : jF) (B : Nat → Nat) (sz : Nat) {k : Nat} (hk : ¬ k = 0) {r : Int32} {M' : jM} {F' : jF} (h : fJh_equal x1 x2 x3 x4 M F = some (k, r, M', F')) : jCx l yJh_equal wJh_equal rxJh_equal (dC, dI) jCl [(cA, .int)] [.ref (A 0), .int x1, .int x2, .int x3, .int x4] (jW cA A B M F) sz k (fun B => jW cA A B (M') (F')) :=
  jOfX hl0 (by decide) rfl (Nat.le_of_ble_eq_true rfl) (fun p e s m below meth c Ap ls hC hX hA hJ hl => uxJh_equal_0 l dC dI cA A Ap hX hC hA hk _ _ _ _ _ _ _ _ _ _ hJ (lv_sub hl [0, 1, 2, 3, 4] rfl) h)
abbrev bJh_number : ByteArray := prog_1_method_7_code
abbrev yJh_number : MethodName := ⟨RJh, "number", "(III)I"⟩
abbrev wJh_number : List Cond := .code yJh_number bJh_number 4 (some .int) :: jw
theorem dJh_number_0 : decode bJh_number 0 = .ok (.aload_n 0, 1) := by decide +kernel
theorem dJh_number_1 : decode bJh_number 1 = .ok (.iload_n 1, 1) := by decide +kernel
theorem dJh_number_2 : decode bJh_number 2 = .ok (.iload_n 2, 1) := by decide +kernel
theorem dJh_number_3 : decode bJh_number 3 = .ok (.invokevirtual 78, 3) := by decide +kernel
theorem dJh_number_6 : decode bJh_number 6 = .ok (.aload_n 0, 1) := by decide +kernel
theorem dJh_number_7 : decode bJh_number 7 = .ok (.invokevirtual 81, 3) := by decide +kernel
theorem dJh_number_10 : decode bJh_number 10 = .ok (.aload_n 0, 1) := by decide +kernel
theorem dJh_number_11 : decode bJh_number 11 = .ok (.getfield 27, 3) := by decide +kernel
theorem dJh_number_14 : decode bJh_number 14 = .ok (.iconst 1, 1) := by decide +kernel
theorem dJh_number_15 : decode bJh_number 15 = .ok (.iload_n 1, 1) := by decide +kernel
theorem dJh_number_16 : decode bJh_number 16 = .ok (.iload_n 2, 1) := by decide +kernel
theorem dJh_number_17 : decode bJh_number 17 = .ok (.iconst (-1), 1) := by decide +kernel
theorem dJh_number_18 : decode bJh_number 18 = .ok (.iload_n 3, 1) := by decide +kernel
theorem dJh_number_19 : decode bJh_number 19 = .ok (.invokevirtual 84, 3) := by decide +kernel
theorem dJh_number_22 : decode bJh_number 22 = .ok (.ireturn, 1) := by decide +kernel
abbrev rJh_number : Room := { frames := 1, cells := 0, slots := 0, locals := 26 }
abbrev rxJh_number : Room := { frames := 7, cells := 1, slots := 6, locals := 112 }
def fJh_number_0 (x1 : Int32) (x2 : Int32) (x3 : Int32) (M : jM) (F : jF) : Option (Nat × Int32 × jM × jF) := ((fJh_checkSide x1 x2 M F).bind fun q1 => if q1.1 = 0 then ((fJh_checkConditionsLeft q1.2.2.1 q1.2.2.2).bind fun q3 => if q3.1 = 0 then ((fQu_addCondition 1 x1 x2 (-1) x3 q3.2.2.1 q3.2.2.2).bind fun q5 => some (0, q5.1, q5.2.1, q5.2.2)) else some (q3.1, 0, q3.2.2.1, q3.2.2.2)) else some (q1.1, 0, q1.2.2.1, q1.2.2.2))
abbrev fJh_number (x1 : Int32) (x2 : Int32) (x3 : Int32) (M : jM) (F : jF) : Option (Nat × Int32 × jM × jF) := fJh_number_0 x1 x2 x3 M F
set_option maxHeartbeats 4000000 in
set_option maxRecDepth 100000 in
theorem uJh_number_0 {p : Program} {e : Env} {s : State} {m : MethodId} {args : Array Value} {below : List Frame} {meth : Method} {c : Code} (l : Launch) (dC : Nat → ClassId) (dI : Nat → Nat → Nat) (cA : ClassId) (A : Nat → Nat) (Ap : Nat → Prop) (hC : jAt p s m args meth c bJh_number 4 (some .int) wJh_number RJh) (hA : ∀ q : Nat, s.heap.size ≤ q → Ap q) {r : Int32} {M' : jM} {F' : jF} : ∀ (x1 x2 x3 : Int32) (M : jM) (F : jF) (B : Nat → Nat) (H : Heap) (locs : List Loc) (ls : Array Slot), jH (dC, dI) jCl [(cA, .int)] (jW cA A B M F) Ap s H locs → lv_has ls 4 [(0, .ref (A 0)), (1, .int x1), (2, .int x2), (3, .int x3)] → fJh_number_0 x1 x2 x3 M F = some (0, r, M', F') → W p l e (headSpec wJh_number rJh_number).room s m args below meth c H locs 0 0 (jQi below (dC, dI) jCl [(cA, .int)] (fun B => jW cA A B (M') (F')) Ap args s r) (F0 m 0 ls []) := by
  obtain ⟨hx, hb, hml, hr, hts, hown, hlocks, hN⟩ := id hC
  have hj : ∀ w ∈ jw, w.before args s = true := fun w h => hts w (List.mem_cons_of_mem _ h)
  intro x1 x2 x3 M F B H locs ls hJ hl h
  unfold fJh_number_0 at h
  refine lv_aload_n hx hb dJh_number_0 rfl (lv_at hl 0 rfl) ?_
  refine lv_iload_n hx hb dJh_number_1 rfl (lv_at hl 1 rfl) ?_
  refine lv_iload_n hx hb dJh_number_2 rfl (lv_at hl 2 rfl) ?_
  obtain ⟨q1, hq1, h⟩ := jbi_h h
  by_cases cq1 : q1.1 = 0
  · replace h := jif_t cq1 h
    refine jcallv (w' := fun B => jW cA A B q1.2.2.1 q1.2.2.2) (va_runV (As := [.int x1, .int x2]) (rest := []) ⟨hx, hb, hml, hown, hts⟩ (cJh_checkSide l dC dI cA A x1 x2 M F B H.size (hq1.trans (congrArg some (Prod.ext cq1 rfl)))) (cwV 2 hts (jgoodV jw_352 jw_354 jws_3 jw_1 jw_355) rfl rfl rfl (by decide +kernel) ⟨Nat.le_of_ble_eq_true rfl, Nat.le_of_ble_eq_true rfl⟩) (jpreV hN hJ (ci := 0) (q0 := 0) rfl rfl) rfl rfl hl.1 rfl (lv_room (Nat.le_of_ble_eq_true rfl)) dJh_number_3 ⟨Nat.zero_le _, Nat.zero_le _⟩) hA hJ (fun B2 H locs hJ => ?_)
    refine lv_aload_n hx hb dJh_number_6 rfl (lv_at hl 0 rfl) ?_
    obtain ⟨q3, hq3, h⟩ := jbi_h h
    by_cases cq3 : q3.1 = 0
    · replace h := jif_t cq3 h
      refine jcallv (w' := fun B => jW cA A B q3.2.2.1 q3.2.2.2) (va_runV (As := []) (rest := []) ⟨hx, hb, hml, hown, hts⟩ (cJh_checkConditionsLeft l dC dI cA A q1.2.2.1 q1.2.2.2 B2 H.size (hq3.trans (congrArg some (Prod.ext cq3 rfl)))) (cwV 0 hts (jgoodV jw_357 jw_359 jws_4 jw_1 jw_360) rfl rfl rfl (by decide +kernel) ⟨Nat.le_of_ble_eq_true rfl, Nat.le_of_ble_eq_true rfl⟩) (jpreV hN hJ (ci := 0) (q0 := 0) rfl rfl) rfl rfl hl.1 rfl (lv_room (Nat.le_of_ble_eq_true rfl)) dJh_number_7 ⟨Nat.zero_le _, Nat.zero_le _⟩) hA hJ (fun B4 H locs hJ => ?_)
      refine lv_aload_n hx hb dJh_number_10 rfl (lv_at hl 0 rfl) ?_
      refine va_get (D := (dC, dI)) (ci := 0) (v := .ref (A 3)) (C := RJh) (T := TJh) (N := 4) hx hb hj iJh hown hJ.1 hJ.2.1 0 rfl rfl 2 (by decide) (hj _ jw_182) (fun _ h9 => h9) rfl dJh_number_11 ?_
      refine lv_iconst (v := 1) hx hb dJh_number_14 (by decide) ?_
      refine lv_iload_n hx hb dJh_number_15 rfl (lv_at hl 1 rfl) ?_
      refine lv_iload_n hx hb dJh_number_16 rfl (lv_at hl 2 rfl) ?_
      refine lv_iconst (v := (-1)) hx hb dJh_number_17 (by decide) ?_
      refine lv_iload_n hx hb dJh_number_18 rfl (lv_at hl 3 rfl) ?_
      obtain ⟨q5, hq5, h⟩ := jbi_h h
      refine jcalli (w' := fun B => jW cA A B q5.2.1 q5.2.2) (va_runV (As := [.int 1, .int x1, .int x2, .int (-1), .int x3]) (rest := []) ⟨hx, hb, hml, hown, hts⟩ (cQu_addCondition l dC dI cA A 1 x1 x2 (-1) x3 q3.2.2.1 q3.2.2.2 B4 H.size hq5) (cwV 5 hts (jgoodV jw_362 jw_363 jw_364 jw_4 jw_365) rfl rfl rfl (by decide +kernel) ⟨Nat.le_of_ble_eq_true rfl, Nat.le_of_ble_eq_true rfl⟩) (jpreV hN hJ (ci := 3) (q0 := 3) rfl rfl) rfl rfl hl.1 rfl (lv_room (Nat.le_of_ble_eq_true rfl)) dJh_number_19 ⟨Nat.zero_le _, Nat.zero_le _⟩) hA hJ (fun B6 H locs hJ => ?_)
      cases h
      exact jreti (u := B6) hx hb hr rfl hlocks hJ dJh_number_22 rfl
    · replace h := jif_f cq3 h
      exact (jk_no3 cq3 h).elim
  · replace h := jif_f cq1 h
    exact (jk_no3 cq1 h).elim
set_option maxHeartbeats 4000000 in
set_option maxRecDepth 100000 in
theorem cJh_number (l : Launch) (dC : Nat → ClassId) (dI : Nat → Nat → Nat) (cA : ClassId) (A : Nat → Nat) (x1 : Int32) (x2 : Int32) (x3 : Int32) (M : jM) (F : jF) (B : Nat → Nat) (sz : Nat) {r : Int32} {M' : jM} {F' : jF} (h : fJh_number x1 x2 x3 M F = some (0, r, M', F')) : jCi l yJh_number wJh_number rJh_number (dC, dI) jCl [(cA, .int)] [.ref (A 0), .int x1, .int x2, .int x3] (jW cA A B M F) sz r (fun B => jW cA A B (M') (F')) :=
  jOf (Qc := fun Ap => va_Qi (fun q (_ : Nat → Nat) => q = r) (jPost (dC, dI) jCl [(cA, .int)] (fun B => jW cA A B (M') (F')) Ap) Ap) (by decide) rfl (Nat.le_of_ble_eq_true rfl) (fun p e s m below meth c Ap ls hC hA hJ hl => uJh_number_0 l dC dI cA A Ap hC hA _ _ _ _ _ _ _ _ _ hJ (lv_sub hl [0, 1, 2, 3] rfl) h)
set_option maxHeartbeats 4000000 in
set_option maxRecDepth 100000 in
theorem uxJh_number_0 {p : Program} {e : Env} {s : State} {m : MethodId} {args : Array Value} {below : List Frame} {meth : Method} {c : Code} (l : Launch) (dC : Nat → ClassId) (dI : Nat → Nat → Nat) (cA : ClassId) (A : Nat → Nat) (Ap : Nat → Prop) (hX : jAtX l Ap s c) (hC : jAt p s m args meth c bJh_number 4 (some .int) wJh_number RJh) (hA : ∀ q : Nat, s.heap.size ≤ q → Ap q) {k : Nat} (hk : ¬ k = 0) {r : Int32} {M' : jM} {F' : jF} : ∀ (x1 x2 x3 : Int32) (M : jM) (F : jF) (B : Nat → Nat) (H : Heap) (locs : List Loc) (ls : Array Slot), jH (dC, dI) jCl [(cA, .int)] (jW cA A B M F) Ap s H locs → lv_has ls 4 [(0, .ref (A 0)), (1, .int x1), (2, .int x2), (3, .int x3)] → fJh_number_0 x1 x2 x3 M F = some (k, r, M', F') → W p l e (headSpec wJh_number rxJh_number).room s m args below meth c H locs 0 0 (jQx below (dC, dI) jCl [(cA, .int)] (fun B => jW cA A B (M') (F')) Ap args s k) (F0 m 0 ls []) := by
  obtain ⟨hx, hb, hml, hr, hts, hown, hlocks, hN⟩ := id hC
  have hj : ∀ w ∈ jw, w.before args s = true := fun w h => hts w (List.mem_cons_of_mem _ h)
  intro x1 x2 x3 M F B H locs ls hJ hl h
  unfold fJh_number_0 at h
  refine lv_aload_n hx hb dJh_number_0 rfl (lv_at hl 0 rfl) ?_
  refine lv_iload_n hx hb dJh_number_1 rfl (lv_at hl 1 rfl) ?_
  refine lv_iload_n hx hb dJh_number_2 rfl (lv_at hl 2 rfl) ?_
  obtain ⟨q1, hq1, h⟩ := jbi_h h
  by_cases cq1 : q1.1 = 0
  · replace h := jif_t cq1 h
    refine jcallv (w' := fun B => jW cA A B q1.2.2.1 q1.2.2.2) (va_runV (As := [.int x1, .int x2]) (rest := []) ⟨hx, hb, hml, hown, hts⟩ (cJh_checkSide l dC dI cA A x1 x2 M F B H.size (hq1.trans (congrArg some (Prod.ext cq1 rfl)))) (cwV 2 hts (jgoodV jw_352 jw_354 jws_3 jw_1 jw_355) rfl rfl rfl (by decide +kernel) ⟨Nat.le_of_ble_eq_true rfl, Nat.le_of_ble_eq_true rfl⟩) (jpreV hN hJ (ci := 0) (q0 := 0) rfl rfl) rfl rfl hl.1 rfl (lv_room (Nat.le_of_ble_eq_true rfl)) dJh_number_3 ⟨Nat.zero_le _, Nat.zero_le _⟩) hA hJ (fun B2 H locs hJ => ?_)
    refine lv_aload_n hx hb dJh_number_6 rfl (lv_at hl 0 rfl) ?_
    obtain ⟨q3, hq3, h⟩ := jbi_h h
    by_cases cq3 : q3.1 = 0
    · replace h := jif_t cq3 h
      refine jcallv (w' := fun B => jW cA A B q3.2.2.1 q3.2.2.2) (va_runV (As := []) (rest := []) ⟨hx, hb, hml, hown, hts⟩ (cJh_checkConditionsLeft l dC dI cA A q1.2.2.1 q1.2.2.2 B2 H.size (hq3.trans (congrArg some (Prod.ext cq3 rfl)))) (cwV 0 hts (jgoodV jw_357 jw_359 jws_4 jw_1 jw_360) rfl rfl rfl (by decide +kernel) ⟨Nat.le_of_ble_eq_true rfl, Nat.le_of_ble_eq_true rfl⟩) (jpreV hN hJ (ci := 0) (q0 := 0) rfl rfl) rfl rfl hl.1 rfl (lv_room (Nat.le_of_ble_eq_true rfl)) dJh_number_7 ⟨Nat.zero_le _, Nat.zero_le _⟩) hA hJ (fun B4 H locs hJ => ?_)
      refine lv_aload_n hx hb dJh_number_10 rfl (lv_at hl 0 rfl) ?_
      refine va_get (D := (dC, dI)) (ci := 0) (v := .ref (A 3)) (C := RJh) (T := TJh) (N := 4) hx hb hj iJh hown hJ.1 hJ.2.1 0 rfl rfl 2 (by decide) (hj _ jw_182) (fun _ h9 => h9) rfl dJh_number_11 ?_
      refine lv_iconst (v := 1) hx hb dJh_number_14 (by decide) ?_
      refine lv_iload_n hx hb dJh_number_15 rfl (lv_at hl 1 rfl) ?_
      refine lv_iload_n hx hb dJh_number_16 rfl (lv_at hl 2 rfl) ?_
      refine lv_iconst (v := (-1)) hx hb dJh_number_17 (by decide) ?_
      refine lv_iload_n hx hb dJh_number_18 rfl (lv_at hl 3 rfl) ?_
      obtain ⟨q5, hq5, h⟩ := jbi_h h
      refine jcalli (w' := fun B => jW cA A B q5.2.1 q5.2.2) (va_runV (As := [.int 1, .int x1, .int x2, .int (-1), .int x3]) (rest := []) ⟨hx, hb, hml, hown, hts⟩ (cQu_addCondition l dC dI cA A 1 x1 x2 (-1) x3 q3.2.2.1 q3.2.2.2 B4 H.size hq5) (cwV 5 hts (jgoodV jw_362 jw_363 jw_364 jw_4 jw_365) rfl rfl rfl (by decide +kernel) ⟨Nat.le_of_ble_eq_true rfl, Nat.le_of_ble_eq_true rfl⟩) (jpreV hN hJ (ci := 3) (q0 := 3) rfl rfl) rfl rfl hl.1 rfl (lv_room (Nat.le_of_ble_eq_true rfl)) dJh_number_19 ⟨Nat.zero_le _, Nat.zero_le _⟩) hA hJ (fun B6 H locs hJ => ?_)
      exact (jk_no3 hk h.symm).elim
    · replace h := jif_f cq3 h
      cases h
      exact jxcall (vx_runV (As := []) (rest := []) ⟨hx, hb, hml, hown, hts⟩ (cxJh_checkConditionsLeft l dC dI cA A hX.1 q1.2.2.1 q1.2.2.2 B2 H.size cq3 hq3) (cwV 0 hts (jgoodV jw_357 jw_359 jws_4 jw_1 jw_360) rfl rfl rfl (by decide +kernel) ⟨Nat.le_of_ble_eq_true rfl, Nat.le_of_ble_eq_true rfl⟩) (jpreVX hX.2.1 hA hN hJ (ci := 0) (q0 := 0) rfl rfl) rfl rfl hl.1 rfl (lv_room (Nat.le_of_ble_eq_true rfl)) dJh_number_7 ⟨Nat.le_of_ble_eq_true rfl, Nat.le_of_ble_eq_true rfl⟩) hA hJ hX.2.2 hlocks
  · replace h := jif_f cq1 h
    cases h
    exact jxcall (vx_runV (As := [.int x1, .int x2]) (rest := []) ⟨hx, hb, hml, hown, hts⟩ (cxJh_checkSide l dC dI cA A hX.1 x1 x2 M F B H.size cq1 hq1) (cwV 2 hts (jgoodV jw_352 jw_354 jws_3 jw_1 jw_355) rfl rfl rfl (by decide +kernel) ⟨Nat.le_of_ble_eq_true rfl, Nat.le_of_ble_eq_true rfl⟩) (jpreVX hX.2.1 hA hN hJ (ci := 0) (q0 := 0) rfl rfl) rfl rfl hl.1 rfl (lv_room (Nat.le_of_ble_eq_true rfl)) dJh_number_3 ⟨Nat.le_of_ble_eq_true rfl, Nat.le_of_ble_eq_true rfl⟩) hA hJ hX.2.2 hlocks
set_option maxHeartbeats 4000000 in
set_option maxRecDepth 100000 in
theorem cxJh_number (l : Launch) (dC : Nat → ClassId) (dI : Nat → Nat → Nat) (cA : ClassId) (A : Nat → Nat) (hl0 : l.stackTraces = false) (x1 : Int32) (x2 : Int32) (x3 : Int32) (M : jM) (F : jF) (B : Nat → Nat) (sz : Nat) {k : Nat} (hk : ¬ k = 0) {r : Int32} {M' : jM} {F' : jF} (h : fJh_number x1 x2 x3 M F = some (k, r, M', F')) : jCx l yJh_number wJh_number rxJh_number (dC, dI) jCl [(cA, .int)] [.ref (A 0), .int x1, .int x2, .int x3] (jW cA A B M F) sz k (fun B => jW cA A B (M') (F')) :=
  jOfX hl0 (by decide) rfl (Nat.le_of_ble_eq_true rfl) (fun p e s m below meth c Ap ls hC hX hA hJ hl => uxJh_number_0 l dC dI cA A Ap hX hC hA hk _ _ _ _ _ _ _ _ _ hJ (lv_sub hl [0, 1, 2, 3] rfl) h)
abbrev bJh_less : ByteArray := prog_1_method_8_code
abbrev yJh_less : MethodName := ⟨RJh, "less", "(IIII)I"⟩
abbrev wJh_less : List Cond := .code yJh_less bJh_less 5 (some .int) :: jw
theorem dJh_less_0 : decode bJh_less 0 = .ok (.aload_n 0, 1) := by decide +kernel
theorem dJh_less_1 : decode bJh_less 1 = .ok (.iload_n 1, 1) := by decide +kernel
theorem dJh_less_2 : decode bJh_less 2 = .ok (.iload_n 2, 1) := by decide +kernel
theorem dJh_less_3 : decode bJh_less 3 = .ok (.invokevirtual 78, 3) := by decide +kernel
theorem dJh_less_6 : decode bJh_less 6 = .ok (.aload_n 0, 1) := by decide +kernel
theorem dJh_less_7 : decode bJh_less 7 = .ok (.iload_n 3, 1) := by decide +kernel
theorem dJh_less_8 : decode bJh_less 8 = .ok (.iload 4, 2) := by decide +kernel
theorem dJh_less_10 : decode bJh_less 10 = .ok (.invokevirtual 78, 3) := by decide +kernel
theorem dJh_less_13 : decode bJh_less 13 = .ok (.aload_n 0, 1) := by decide +kernel
theorem dJh_less_14 : decode bJh_less 14 = .ok (.invokevirtual 81, 3) := by decide +kernel
theorem dJh_less_17 : decode bJh_less 17 = .ok (.aload_n 0, 1) := by decide +kernel
theorem dJh_less_18 : decode bJh_less 18 = .ok (.getfield 27, 3) := by decide +kernel
theorem dJh_less_21 : decode bJh_less 21 = .ok (.iconst 2, 1) := by decide +kernel
theorem dJh_less_22 : decode bJh_less 22 = .ok (.iload_n 1, 1) := by decide +kernel
theorem dJh_less_23 : decode bJh_less 23 = .ok (.iload_n 2, 1) := by decide +kernel
theorem dJh_less_24 : decode bJh_less 24 = .ok (.iload_n 3, 1) := by decide +kernel
theorem dJh_less_25 : decode bJh_less 25 = .ok (.iload 4, 2) := by decide +kernel
theorem dJh_less_27 : decode bJh_less 27 = .ok (.invokevirtual 84, 3) := by decide +kernel
theorem dJh_less_30 : decode bJh_less 30 = .ok (.ireturn, 1) := by decide +kernel
abbrev rJh_less : Room := { frames := 1, cells := 0, slots := 0, locals := 26 }
abbrev rxJh_less : Room := { frames := 7, cells := 1, slots := 6, locals := 112 }
def fJh_less_0 (x1 : Int32) (x2 : Int32) (x3 : Int32) (x4 : Int32) (M : jM) (F : jF) : Option (Nat × Int32 × jM × jF) := ((fJh_checkSide x1 x2 M F).bind fun q1 => if q1.1 = 0 then ((fJh_checkSide x3 x4 q1.2.2.1 q1.2.2.2).bind fun q3 => if q3.1 = 0 then ((fJh_checkConditionsLeft q3.2.2.1 q3.2.2.2).bind fun q5 => if q5.1 = 0 then ((fQu_addCondition 2 x1 x2 x3 x4 q5.2.2.1 q5.2.2.2).bind fun q7 => some (0, q7.1, q7.2.1, q7.2.2)) else some (q5.1, 0, q5.2.2.1, q5.2.2.2)) else some (q3.1, 0, q3.2.2.1, q3.2.2.2)) else some (q1.1, 0, q1.2.2.1, q1.2.2.2))
abbrev fJh_less (x1 : Int32) (x2 : Int32) (x3 : Int32) (x4 : Int32) (M : jM) (F : jF) : Option (Nat × Int32 × jM × jF) := fJh_less_0 x1 x2 x3 x4 M F
set_option maxHeartbeats 4000000 in
set_option maxRecDepth 100000 in
theorem uJh_less_0 {p : Program} {e : Env} {s : State} {m : MethodId} {args : Array Value} {below : List Frame} {meth : Method} {c : Code} (l : Launch) (dC : Nat → ClassId) (dI : Nat → Nat → Nat) (cA : ClassId) (A : Nat → Nat) (Ap : Nat → Prop) (hC : jAt p s m args meth c bJh_less 5 (some .int) wJh_less RJh) (hA : ∀ q : Nat, s.heap.size ≤ q → Ap q) {r : Int32} {M' : jM} {F' : jF} : ∀ (x1 x2 x3 x4 : Int32) (M : jM) (F : jF) (B : Nat → Nat) (H : Heap) (locs : List Loc) (ls : Array Slot), jH (dC, dI) jCl [(cA, .int)] (jW cA A B M F) Ap s H locs → lv_has ls 5 [(0, .ref (A 0)), (1, .int x1), (2, .int x2), (3, .int x3), (4, .int x4)] → fJh_less_0 x1 x2 x3 x4 M F = some (0, r, M', F') → W p l e (headSpec wJh_less rJh_less).room s m args below meth c H locs 0 0 (jQi below (dC, dI) jCl [(cA, .int)] (fun B => jW cA A B (M') (F')) Ap args s r) (F0 m 0 ls []) := by
  obtain ⟨hx, hb, hml, hr, hts, hown, hlocks, hN⟩ := id hC
  have hj : ∀ w ∈ jw, w.before args s = true := fun w h => hts w (List.mem_cons_of_mem _ h)
  intro x1 x2 x3 x4 M F B H locs ls hJ hl h
  unfold fJh_less_0 at h
  refine lv_aload_n hx hb dJh_less_0 rfl (lv_at hl 0 rfl) ?_
  refine lv_iload_n hx hb dJh_less_1 rfl (lv_at hl 1 rfl) ?_
  refine lv_iload_n hx hb dJh_less_2 rfl (lv_at hl 2 rfl) ?_
  obtain ⟨q1, hq1, h⟩ := jbi_h h
  by_cases cq1 : q1.1 = 0
  · replace h := jif_t cq1 h
    refine jcallv (w' := fun B => jW cA A B q1.2.2.1 q1.2.2.2) (va_runV (As := [.int x1, .int x2]) (rest := []) ⟨hx, hb, hml, hown, hts⟩ (cJh_checkSide l dC dI cA A x1 x2 M F B H.size (hq1.trans (congrArg some (Prod.ext cq1 rfl)))) (cwV 2 hts (jgoodV jw_352 jw_354 jws_3 jw_1 jw_355) rfl rfl rfl (by decide +kernel) ⟨Nat.le_of_ble_eq_true rfl, Nat.le_of_ble_eq_true rfl⟩) (jpreV hN hJ (ci := 0) (q0 := 0) rfl rfl) rfl rfl hl.1 rfl (lv_room (Nat.le_of_ble_eq_true rfl)) dJh_less_3 ⟨Nat.zero_le _, Nat.zero_le _⟩) hA hJ (fun B2 H locs hJ => ?_)
    refine lv_aload_n hx hb dJh_less_6 rfl (lv_at hl 0 rfl) ?_
    refine lv_iload_n hx hb dJh_less_7 rfl (lv_at hl 3 rfl) ?_
    refine lv_iload hx hb dJh_less_8 (lv_at hl 4 rfl) ?_
    obtain ⟨q3, hq3, h⟩ := jbi_h h
    by_cases cq3 : q3.1 = 0
    · replace h := jif_t cq3 h
      refine jcallv (w' := fun B => jW cA A B q3.2.2.1 q3.2.2.2) (va_runV (As := [.int x3, .int x4]) (rest := []) ⟨hx, hb, hml, hown, hts⟩ (cJh_checkSide l dC dI cA A x3 x4 q1.2.2.1 q1.2.2.2 B2 H.size (hq3.trans (congrArg some (Prod.ext cq3 rfl)))) (cwV 2 hts (jgoodV jw_352 jw_354 jws_3 jw_1 jw_355) rfl rfl rfl (by decide +kernel) ⟨Nat.le_of_ble_eq_true rfl, Nat.le_of_ble_eq_true rfl⟩) (jpreV hN hJ (ci := 0) (q0 := 0) rfl rfl) rfl rfl hl.1 rfl (lv_room (Nat.le_of_ble_eq_true rfl)) dJh_less_10 ⟨Nat.zero_le _, Nat.zero_le _⟩) hA hJ (fun B4 H locs hJ => ?_)
      refine lv_aload_n hx hb dJh_less_13 rfl (lv_at hl 0 rfl) ?_
      obtain ⟨q5, hq5, h⟩ := jbi_h h
      by_cases cq5 : q5.1 = 0
      · replace h := jif_t cq5 h
        refine jcallv (w' := fun B => jW cA A B q5.2.2.1 q5.2.2.2) (va_runV (As := []) (rest := []) ⟨hx, hb, hml, hown, hts⟩ (cJh_checkConditionsLeft l dC dI cA A q3.2.2.1 q3.2.2.2 B4 H.size (hq5.trans (congrArg some (Prod.ext cq5 rfl)))) (cwV 0 hts (jgoodV jw_357 jw_359 jws_4 jw_1 jw_360) rfl rfl rfl (by decide +kernel) ⟨Nat.le_of_ble_eq_true rfl, Nat.le_of_ble_eq_true rfl⟩) (jpreV hN hJ (ci := 0) (q0 := 0) rfl rfl) rfl rfl hl.1 rfl (lv_room (Nat.le_of_ble_eq_true rfl)) dJh_less_14 ⟨Nat.zero_le _, Nat.zero_le _⟩) hA hJ (fun B6 H locs hJ => ?_)
        refine lv_aload_n hx hb dJh_less_17 rfl (lv_at hl 0 rfl) ?_
        refine va_get (D := (dC, dI)) (ci := 0) (v := .ref (A 3)) (C := RJh) (T := TJh) (N := 4) hx hb hj iJh hown hJ.1 hJ.2.1 0 rfl rfl 2 (by decide) (hj _ jw_182) (fun _ h9 => h9) rfl dJh_less_18 ?_
        refine lv_iconst (v := 2) hx hb dJh_less_21 (by decide) ?_
        refine lv_iload_n hx hb dJh_less_22 rfl (lv_at hl 1 rfl) ?_
        refine lv_iload_n hx hb dJh_less_23 rfl (lv_at hl 2 rfl) ?_
        refine lv_iload_n hx hb dJh_less_24 rfl (lv_at hl 3 rfl) ?_
        refine lv_iload hx hb dJh_less_25 (lv_at hl 4 rfl) ?_
        obtain ⟨q7, hq7, h⟩ := jbi_h h
        refine jcalli (w' := fun B => jW cA A B q7.2.1 q7.2.2) (va_runV (As := [.int 2, .int x1, .int x2, .int x3, .int x4]) (rest := []) ⟨hx, hb, hml, hown, hts⟩ (cQu_addCondition l dC dI cA A 2 x1 x2 x3 x4 q5.2.2.1 q5.2.2.2 B6 H.size hq7) (cwV 5 hts (jgoodV jw_362 jw_363 jw_364 jw_4 jw_365) rfl rfl rfl (by decide +kernel) ⟨Nat.le_of_ble_eq_true rfl, Nat.le_of_ble_eq_true rfl⟩) (jpreV hN hJ (ci := 3) (q0 := 3) rfl rfl) rfl rfl hl.1 rfl (lv_room (Nat.le_of_ble_eq_true rfl)) dJh_less_27 ⟨Nat.zero_le _, Nat.zero_le _⟩) hA hJ (fun B8 H locs hJ => ?_)
        cases h
        exact jreti (u := B8) hx hb hr rfl hlocks hJ dJh_less_30 rfl
      · replace h := jif_f cq5 h
        exact (jk_no3 cq5 h).elim
    · replace h := jif_f cq3 h
      exact (jk_no3 cq3 h).elim
  · replace h := jif_f cq1 h
    exact (jk_no3 cq1 h).elim
set_option maxHeartbeats 4000000 in
set_option maxRecDepth 100000 in
theorem cJh_less (l : Launch) (dC : Nat → ClassId) (dI : Nat → Nat → Nat) (cA : ClassId) (A : Nat → Nat) (x1 : Int32) (x2 : Int32) (x3 : Int32) (x4 : Int32) (M : jM) (F : jF) (B : Nat → Nat) (sz : Nat) {r : Int32} {M' : jM} {F' : jF} (h : fJh_less x1 x2 x3 x4 M F = some (0, r, M', F')) : jCi l yJh_less wJh_less rJh_less (dC, dI) jCl [(cA, .int)] [.ref (A 0), .int x1, .int x2, .int x3, .int x4] (jW cA A B M F) sz r (fun B => jW cA A B (M') (F')) :=
  jOf (Qc := fun Ap => va_Qi (fun q (_ : Nat → Nat) => q = r) (jPost (dC, dI) jCl [(cA, .int)] (fun B => jW cA A B (M') (F')) Ap) Ap) (by decide) rfl (Nat.le_of_ble_eq_true rfl) (fun p e s m below meth c Ap ls hC hA hJ hl => uJh_less_0 l dC dI cA A Ap hC hA _ _ _ _ _ _ _ _ _ _ hJ (lv_sub hl [0, 1, 2, 3, 4] rfl) h)
set_option maxHeartbeats 4000000 in
set_option maxRecDepth 100000 in
theorem uxJh_less_0 {p : Program} {e : Env} {s : State} {m : MethodId} {args : Array Value} {below : List Frame} {meth : Method} {c : Code} (l : Launch) (dC : Nat → ClassId) (dI : Nat → Nat → Nat) (cA : ClassId) (A : Nat → Nat) (Ap : Nat → Prop) (hX : jAtX l Ap s c) (hC : jAt p s m args meth c bJh_less 5 (some .int) wJh_less RJh) (hA : ∀ q : Nat, s.heap.size ≤ q → Ap q) {k : Nat} (hk : ¬ k = 0) {r : Int32} {M' : jM} {F' : jF} : ∀ (x1 x2 x3 x4 : Int32) (M : jM) (F : jF) (B : Nat → Nat) (H : Heap) (locs : List Loc) (ls : Array Slot), jH (dC, dI) jCl [(cA, .int)] (jW cA A B M F) Ap s H locs → lv_has ls 5 [(0, .ref (A 0)), (1, .int x1), (2, .int x2), (3, .int x3), (4, .int x4)] → fJh_less_0 x1 x2 x3 x4 M F = some (k, r, M', F') → W p l e (headSpec wJh_less rxJh_less).room s m args below meth c H locs 0 0 (jQx below (dC, dI) jCl [(cA, .int)] (fun B => jW cA A B (M') (F')) Ap args s k) (F0 m 0 ls []) := by
  obtain ⟨hx, hb, hml, hr, hts, hown, hlocks, hN⟩ := id hC
  have hj : ∀ w ∈ jw, w.before args s = true := fun w h => hts w (List.mem_cons_of_mem _ h)
  intro x1 x2 x3 x4 M F B H locs ls hJ hl h
  unfold fJh_less_0 at h
  refine lv_aload_n hx hb dJh_less_0 rfl (lv_at hl 0 rfl) ?_
  refine lv_iload_n hx hb dJh_less_1 rfl (lv_at hl 1 rfl) ?_
  refine lv_iload_n hx hb dJh_less_2 rfl (lv_at hl 2 rfl) ?_
  obtain ⟨q1, hq1, h⟩ := jbi_h h
  by_cases cq1 : q1.1 = 0
  · replace h := jif_t cq1 h
    refine jcallv (w' := fun B => jW cA A B q1.2.2.1 q1.2.2.2) (va_runV (As := [.int x1, .int x2]) (rest := []) ⟨hx, hb, hml, hown, hts⟩ (cJh_checkSide l dC dI cA A x1 x2 M F B H.size (hq1.trans (congrArg some (Prod.ext cq1 rfl)))) (cwV 2 hts (jgoodV jw_352 jw_354 jws_3 jw_1 jw_355) rfl rfl rfl (by decide +kernel) ⟨Nat.le_of_ble_eq_true rfl, Nat.le_of_ble_eq_true rfl⟩) (jpreV hN hJ (ci := 0) (q0 := 0) rfl rfl) rfl rfl hl.1 rfl (lv_room (Nat.le_of_ble_eq_true rfl)) dJh_less_3 ⟨Nat.zero_le _, Nat.zero_le _⟩) hA hJ (fun B2 H locs hJ => ?_)
    refine lv_aload_n hx hb dJh_less_6 rfl (lv_at hl 0 rfl) ?_
    refine lv_iload_n hx hb dJh_less_7 rfl (lv_at hl 3 rfl) ?_
    refine lv_iload hx hb dJh_less_8 (lv_at hl 4 rfl) ?_
    obtain ⟨q3, hq3, h⟩ := jbi_h h
    by_cases cq3 : q3.1 = 0
    · replace h := jif_t cq3 h
      refine jcallv (w' := fun B => jW cA A B q3.2.2.1 q3.2.2.2) (va_runV (As := [.int x3, .int x4]) (rest := []) ⟨hx, hb, hml, hown, hts⟩ (cJh_checkSide l dC dI cA A x3 x4 q1.2.2.1 q1.2.2.2 B2 H.size (hq3.trans (congrArg some (Prod.ext cq3 rfl)))) (cwV 2 hts (jgoodV jw_352 jw_354 jws_3 jw_1 jw_355) rfl rfl rfl (by decide +kernel) ⟨Nat.le_of_ble_eq_true rfl, Nat.le_of_ble_eq_true rfl⟩) (jpreV hN hJ (ci := 0) (q0 := 0) rfl rfl) rfl rfl hl.1 rfl (lv_room (Nat.le_of_ble_eq_true rfl)) dJh_less_10 ⟨Nat.zero_le _, Nat.zero_le _⟩) hA hJ (fun B4 H locs hJ => ?_)
      refine lv_aload_n hx hb dJh_less_13 rfl (lv_at hl 0 rfl) ?_
      obtain ⟨q5, hq5, h⟩ := jbi_h h
      by_cases cq5 : q5.1 = 0
      · replace h := jif_t cq5 h
        refine jcallv (w' := fun B => jW cA A B q5.2.2.1 q5.2.2.2) (va_runV (As := []) (rest := []) ⟨hx, hb, hml, hown, hts⟩ (cJh_checkConditionsLeft l dC dI cA A q3.2.2.1 q3.2.2.2 B4 H.size (hq5.trans (congrArg some (Prod.ext cq5 rfl)))) (cwV 0 hts (jgoodV jw_357 jw_359 jws_4 jw_1 jw_360) rfl rfl rfl (by decide +kernel) ⟨Nat.le_of_ble_eq_true rfl, Nat.le_of_ble_eq_true rfl⟩) (jpreV hN hJ (ci := 0) (q0 := 0) rfl rfl) rfl rfl hl.1 rfl (lv_room (Nat.le_of_ble_eq_true rfl)) dJh_less_14 ⟨Nat.zero_le _, Nat.zero_le _⟩) hA hJ (fun B6 H locs hJ => ?_)
        refine lv_aload_n hx hb dJh_less_17 rfl (lv_at hl 0 rfl) ?_
        refine va_get (D := (dC, dI)) (ci := 0) (v := .ref (A 3)) (C := RJh) (T := TJh) (N := 4) hx hb hj iJh hown hJ.1 hJ.2.1 0 rfl rfl 2 (by decide) (hj _ jw_182) (fun _ h9 => h9) rfl dJh_less_18 ?_
        refine lv_iconst (v := 2) hx hb dJh_less_21 (by decide) ?_
        refine lv_iload_n hx hb dJh_less_22 rfl (lv_at hl 1 rfl) ?_
        refine lv_iload_n hx hb dJh_less_23 rfl (lv_at hl 2 rfl) ?_
        refine lv_iload_n hx hb dJh_less_24 rfl (lv_at hl 3 rfl) ?_
        refine lv_iload hx hb dJh_less_25 (lv_at hl 4 rfl) ?_
        obtain ⟨q7, hq7, h⟩ := jbi_h h
        refine jcalli (w' := fun B => jW cA A B q7.2.1 q7.2.2) (va_runV (As := [.int 2, .int x1, .int x2, .int x3, .int x4]) (rest := []) ⟨hx, hb, hml, hown, hts⟩ (cQu_addCondition l dC dI cA A 2 x1 x2 x3 x4 q5.2.2.1 q5.2.2.2 B6 H.size hq7) (cwV 5 hts (jgoodV jw_362 jw_363 jw_364 jw_4 jw_365) rfl rfl rfl (by decide +kernel) ⟨Nat.le_of_ble_eq_true rfl, Nat.le_of_ble_eq_true rfl⟩) (jpreV hN hJ (ci := 3) (q0 := 3) rfl rfl) rfl rfl hl.1 rfl (lv_room (Nat.le_of_ble_eq_true rfl)) dJh_less_27 ⟨Nat.zero_le _, Nat.zero_le _⟩) hA hJ (fun B8 H locs hJ => ?_)
        exact (jk_no3 hk h.symm).elim
      · replace h := jif_f cq5 h
        cases h
        exact jxcall (vx_runV (As := []) (rest := []) ⟨hx, hb, hml, hown, hts⟩ (cxJh_checkConditionsLeft l dC dI cA A hX.1 q3.2.2.1 q3.2.2.2 B4 H.size cq5 hq5) (cwV 0 hts (jgoodV jw_357 jw_359 jws_4 jw_1 jw_360) rfl rfl rfl (by decide +kernel) ⟨Nat.le_of_ble_eq_true rfl, Nat.le_of_ble_eq_true rfl⟩) (jpreVX hX.2.1 hA hN hJ (ci := 0) (q0 := 0) rfl rfl) rfl rfl hl.1 rfl (lv_room (Nat.le_of_ble_eq_true rfl)) dJh_less_14 ⟨Nat.le_of_ble_eq_true rfl, Nat.le_of_ble_eq_true rfl⟩) hA hJ hX.2.2 hlocks
    · replace h := jif_f cq3 h
      cases h
      exact jxcall (vx_runV (As := [.int x3, .int x4]) (rest := []) ⟨hx, hb, hml, hown, hts⟩ (cxJh_checkSide l dC dI cA A hX.1 x3 x4 q1.2.2.1 q1.2.2.2 B2 H.size cq3 hq3) (cwV 2 hts (jgoodV jw_352 jw_354 jws_3 jw_1 jw_355) rfl rfl rfl (by decide +kernel) ⟨Nat.le_of_ble_eq_true rfl, Nat.le_of_ble_eq_true rfl⟩) (jpreVX hX.2.1 hA hN hJ (ci := 0) (q0 := 0) rfl rfl) rfl rfl hl.1 rfl (lv_room (Nat.le_of_ble_eq_true rfl)) dJh_less_10 ⟨Nat.le_of_ble_eq_true rfl, Nat.le_of_ble_eq_true rfl⟩) hA hJ hX.2.2 hlocks
  · replace h := jif_f cq1 h
    cases h
    exact jxcall (vx_runV (As := [.int x1, .int x2]) (rest := []) ⟨hx, hb, hml, hown, hts⟩ (cxJh_checkSide l dC dI cA A hX.1 x1 x2 M F B H.size cq1 hq1) (cwV 2 hts (jgoodV jw_352 jw_354 jws_3 jw_1 jw_355) rfl rfl rfl (by decide +kernel) ⟨Nat.le_of_ble_eq_true rfl, Nat.le_of_ble_eq_true rfl⟩) (jpreVX hX.2.1 hA hN hJ (ci := 0) (q0 := 0) rfl rfl) rfl rfl hl.1 rfl (lv_room (Nat.le_of_ble_eq_true rfl)) dJh_less_3 ⟨Nat.le_of_ble_eq_true rfl, Nat.le_of_ble_eq_true rfl⟩) hA hJ hX.2.2 hlocks
set_option maxHeartbeats 4000000 in
set_option maxRecDepth 100000 in
theorem cxJh_less (l : Launch) (dC : Nat → ClassId) (dI : Nat → Nat → Nat) (cA : ClassId) (A : Nat → Nat) (hl0 : l.stackTraces = false) (x1 : Int32) (x2 : Int32) (x3 : Int32) (x4 : Int32) (M : jM) (F : jF) (B : Nat → Nat) (sz : Nat) {k : Nat} (hk : ¬ k = 0) {r : Int32} {M' : jM} {F' : jF} (h : fJh_less x1 x2 x3 x4 M F = some (k, r, M', F')) : jCx l yJh_less wJh_less rxJh_less (dC, dI) jCl [(cA, .int)] [.ref (A 0), .int x1, .int x2, .int x3, .int x4] (jW cA A B M F) sz k (fun B => jW cA A B (M') (F')) :=
  jOfX hl0 (by decide) rfl (Nat.le_of_ble_eq_true rfl) (fun p e s m below meth c Ap ls hC hX hA hJ hl => uxJh_less_0 l dC dI cA A Ap hX hC hA hk _ _ _ _ _ _ _ _ _ _ hJ (lv_sub hl [0, 1, 2, 3, 4] rfl) h)
abbrev bJh_checkPlace : ByteArray := prog_1_method_17_code
abbrev yJh_checkPlace : MethodName := ⟨RJh, "checkPlace", "(I)V"⟩
abbrev wJh_checkPlace : List Cond := .code yJh_checkPlace bJh_checkPlace 2 none :: jw
theorem dJh_checkPlace_0 : decode bJh_checkPlace 0 = .ok (.iload_n 1, 1) := by decide +kernel
theorem dJh_checkPlace_1 : decode bJh_checkPlace 1 = .ok (.ifCond .lt 14, 3) := by decide +kernel
theorem dJh_checkPlace_4 : decode bJh_checkPlace 4 = .ok (.iload_n 1, 1) := by decide +kernel
theorem dJh_checkPlace_5 : decode bJh_checkPlace 5 = .ok (.aload_n 0, 1) := by decide +kernel
theorem dJh_checkPlace_6 : decode bJh_checkPlace 6 = .ok (.getfield 27, 3) := by decide +kernel
theorem dJh_checkPlace_9 : decode bJh_checkPlace 9 = .ok (.getfield 69, 3) := by decide +kernel
theorem dJh_checkPlace_12 : decode bJh_checkPlace 12 = .ok (.if_icmp .lt 13, 3) := by decide +kernel
theorem dJh_checkPlace_15 : decode bJh_checkPlace 15 = .ok (.new 116, 3) := by decide +kernel
theorem dJh_checkPlace_18 : decode bJh_checkPlace 18 = .ok (.dup, 1) := by decide +kernel
theorem dJh_checkPlace_19 : decode bJh_checkPlace 19 = .ok (.ldc 140, 2) := by decide +kernel
theorem dJh_checkPlace_21 : decode bJh_checkPlace 21 = .ok (.invokespecial 120, 3) := by decide +kernel
theorem dJh_checkPlace_24 : decode bJh_checkPlace 24 = .ok (.athrow, 1) := by decide +kernel
theorem dJh_checkPlace_25 : decode bJh_checkPlace 25 = .ok (.return_, 1) := by decide +kernel
abbrev rJh_checkPlace : Room := { frames := 0, cells := 0, slots := 0, locals := 0 }
abbrev rxJh_checkPlace : Room := { frames := 6, cells := 1, slots := 6, locals := 90 }
def fJh_checkPlace_15 (M : jM) (F : jF) : Option (Nat × Int32 × jM × jF) := some (3, 0, M, F)
def fJh_checkPlace_0 (x1 : Int32) (M : jM) (F : jF) : Option (Nat × Int32 × jM × jF) := (if x1 < 0 then fJh_checkPlace_15  M F else (if x1 < (F 0) then some (0, 0, M, F) else fJh_checkPlace_15  M F))
abbrev fJh_checkPlace (x1 : Int32) (M : jM) (F : jF) : Option (Nat × Int32 × jM × jF) := fJh_checkPlace_0 x1 M F
set_option maxHeartbeats 4000000 in
set_option maxRecDepth 100000 in
theorem uJh_checkPlace_15 {p : Program} {e : Env} {s : State} {m : MethodId} {args : Array Value} {below : List Frame} {meth : Method} {c : Code} (l : Launch) (dC : Nat → ClassId) (dI : Nat → Nat → Nat) (cA : ClassId) (A : Nat → Nat) (Ap : Nat → Prop) (hC : jAt p s m args meth c bJh_checkPlace 2 none wJh_checkPlace RJh) (hA : ∀ q : Nat, s.heap.size ≤ q → Ap q) {r : Int32} {M' : jM} {F' : jF} : ∀ (M : jM) (F : jF) (B : Nat → Nat) (H : Heap) (locs : List Loc) (ls : Array Slot), jH (dC, dI) jCl [(cA, .int)] (jW cA A B M F) Ap s H locs → lv_has ls 2 [] → fJh_checkPlace_15 M F = some (0, r, M', F') → W p l e (headSpec wJh_checkPlace rJh_checkPlace).room s m args below meth c H locs 0 0 (jQv below (dC, dI) jCl [(cA, .int)] (fun B => jW cA A B (M') (F')) Ap args s) (F0 m 15 ls []) := by
  obtain ⟨hx, hb, hml, hr, hts, hown, hlocks, hN⟩ := id hC
  have hj : ∀ w ∈ jw, w.before args s = true := fun w h => hts w (List.mem_cons_of_mem _ h)
  intro  M F B H locs ls hJ hl h
  unfold fJh_checkPlace_15 at h
  exact (jk_no h).elim
set_option maxHeartbeats 4000000 in
set_option maxRecDepth 100000 in
theorem uJh_checkPlace_0 {p : Program} {e : Env} {s : State} {m : MethodId} {args : Array Value} {below : List Frame} {meth : Method} {c : Code} (l : Launch) (dC : Nat → ClassId) (dI : Nat → Nat → Nat) (cA : ClassId) (A : Nat → Nat) (Ap : Nat → Prop) (hC : jAt p s m args meth c bJh_checkPlace 2 none wJh_checkPlace RJh) (hA : ∀ q : Nat, s.heap.size ≤ q → Ap q) {r : Int32} {M' : jM} {F' : jF} : ∀ (x1 : Int32) (M : jM) (F : jF) (B : Nat → Nat) (H : Heap) (locs : List Loc) (ls : Array Slot), jH (dC, dI) jCl [(cA, .int)] (jW cA A B M F) Ap s H locs → lv_has ls 2 [(0, .ref (A 0)), (1, .int x1)] → fJh_checkPlace_0 x1 M F = some (0, r, M', F') → W p l e (headSpec wJh_checkPlace rJh_checkPlace).room s m args below meth c H locs 0 0 (jQv below (dC, dI) jCl [(cA, .int)] (fun B => jW cA A B (M') (F')) Ap args s) (F0 m 0 ls []) := by
  obtain ⟨hx, hb, hml, hr, hts, hown, hlocks, hN⟩ := id hC
  have hj : ∀ w ∈ jw, w.before args s = true := fun w h => hts w (List.mem_cons_of_mem _ h)
  intro x1 M F B H locs ls hJ hl h
  unfold fJh_checkPlace_0 at h
  refine lv_iload_n hx hb dJh_checkPlace_0 rfl (lv_at hl 1 rfl) ?_
  refine lv_if_lt (tgt := 15) hx hb dJh_checkPlace_1 (by decide) (fun c1 => ?_) (fun c1 => ?_)
  · replace h := jif_t c1 h
    exact uJh_checkPlace_15 l dC dI cA A Ap hC hA _ _ _ _ _ _ hJ (lv_sub hl [] rfl) h
  · replace h := jif_f c1 h
    refine lv_iload_n hx hb dJh_checkPlace_4 rfl (lv_at hl 1 rfl) ?_
    refine lv_aload_n hx hb dJh_checkPlace_5 rfl (lv_at hl 0 rfl) ?_
    refine va_get (D := (dC, dI)) (ci := 0) (v := .ref (A 3)) (C := RJh) (T := TJh) (N := 4) hx hb hj iJh hown hJ.1 hJ.2.1 0 rfl rfl 2 (by decide) (hj _ jw_182) (fun _ h9 => h9) rfl dJh_checkPlace_6 ?_
    refine va_getN (D := (dC, dI)) (ci := 3) (v := .int (F 0)) (C := RQu) (T := TQu) (N := 10) hx hb hj iQu hown hJ.1 hJ.2.1 3 rfl rfl 8 (by decide) (jnw_use hN jnw_8) (fun _ h9 => h9) rfl dJh_checkPlace_9 ?_
    refine lv_icmp_lt (tgt := 25) hx hb dJh_checkPlace_12 (by decide) (fun c2 => ?_) (fun c2 => ?_)
    · replace h := jif_t c2 h
      cases h
      exact jretv (u := B) hx hb hr hlocks hJ dJh_checkPlace_25
    · replace h := jif_f c2 h
      exact uJh_checkPlace_15 l dC dI cA A Ap hC hA _ _ _ _ _ _ hJ (lv_sub hl [] rfl) h
set_option maxHeartbeats 4000000 in
set_option maxRecDepth 100000 in
theorem cJh_checkPlace (l : Launch) (dC : Nat → ClassId) (dI : Nat → Nat → Nat) (cA : ClassId) (A : Nat → Nat) (x1 : Int32) (M : jM) (F : jF) (B : Nat → Nat) (sz : Nat) {r : Int32} {M' : jM} {F' : jF} (h : fJh_checkPlace x1 M F = some (0, r, M', F')) : jCv l yJh_checkPlace wJh_checkPlace rJh_checkPlace (dC, dI) jCl [(cA, .int)] [.ref (A 0), .int x1] (jW cA A B M F) sz (fun B => jW cA A B (M') (F')) :=
  jOf (Qc := fun Ap => va_Qv (fun _ : Nat → Nat => True) (jPost (dC, dI) jCl [(cA, .int)] (fun B => jW cA A B (M') (F')) Ap) Ap) (by decide) rfl (Nat.le_of_ble_eq_true rfl) (fun p e s m below meth c Ap ls hC hA hJ hl => uJh_checkPlace_0 l dC dI cA A Ap hC hA _ _ _ _ _ _ _ hJ (lv_sub hl [0, 1] rfl) h)
set_option maxHeartbeats 4000000 in
set_option maxRecDepth 100000 in
theorem uxJh_checkPlace_15 {p : Program} {e : Env} {s : State} {m : MethodId} {args : Array Value} {below : List Frame} {meth : Method} {c : Code} (l : Launch) (dC : Nat → ClassId) (dI : Nat → Nat → Nat) (cA : ClassId) (A : Nat → Nat) (Ap : Nat → Prop) (hX : jAtX l Ap s c) (hC : jAt p s m args meth c bJh_checkPlace 2 none wJh_checkPlace RJh) (hA : ∀ q : Nat, s.heap.size ≤ q → Ap q) {k : Nat} (hk : ¬ k = 0) {r : Int32} {M' : jM} {F' : jF} : ∀ (M : jM) (F : jF) (B : Nat → Nat) (H : Heap) (locs : List Loc) (ls : Array Slot), jH (dC, dI) jCl [(cA, .int)] (jW cA A B M F) Ap s H locs → lv_has ls 2 [] → fJh_checkPlace_15 M F = some (k, r, M', F') → W p l e (headSpec wJh_checkPlace rxJh_checkPlace).room s m args below meth c H locs 0 0 (jQx below (dC, dI) jCl [(cA, .int)] (fun B => jW cA A B (M') (F')) Ap args s k) (F0 m 15 ls []) := by
  obtain ⟨hx, hb, hml, hr, hts, hown, hlocks, hN⟩ := id hC
  have hj : ∀ w ∈ jw, w.before args s = true := fun w h => hts w (List.mem_cons_of_mem _ h)
  intro  M F B H locs ls hJ hl h
  unfold fJh_checkPlace_15 at h
  cases h
  exact jthrow_3 (text := "no such place") (u := B) hx hb hml hown hj hX hlocks hl.1 hJ (by decide) dJh_checkPlace_15 dJh_checkPlace_18 dJh_checkPlace_19 dJh_checkPlace_21 dJh_checkPlace_24 (Nat.le_of_ble_eq_true rfl) (Nat.le_of_ble_eq_true rfl) (Nat.le_of_ble_eq_true rfl) (Nat.le_of_ble_eq_true rfl)
set_option maxHeartbeats 4000000 in
set_option maxRecDepth 100000 in
theorem uxJh_checkPlace_0 {p : Program} {e : Env} {s : State} {m : MethodId} {args : Array Value} {below : List Frame} {meth : Method} {c : Code} (l : Launch) (dC : Nat → ClassId) (dI : Nat → Nat → Nat) (cA : ClassId) (A : Nat → Nat) (Ap : Nat → Prop) (hX : jAtX l Ap s c) (hC : jAt p s m args meth c bJh_checkPlace 2 none wJh_checkPlace RJh) (hA : ∀ q : Nat, s.heap.size ≤ q → Ap q) {k : Nat} (hk : ¬ k = 0) {r : Int32} {M' : jM} {F' : jF} : ∀ (x1 : Int32) (M : jM) (F : jF) (B : Nat → Nat) (H : Heap) (locs : List Loc) (ls : Array Slot), jH (dC, dI) jCl [(cA, .int)] (jW cA A B M F) Ap s H locs → lv_has ls 2 [(0, .ref (A 0)), (1, .int x1)] → fJh_checkPlace_0 x1 M F = some (k, r, M', F') → W p l e (headSpec wJh_checkPlace rxJh_checkPlace).room s m args below meth c H locs 0 0 (jQx below (dC, dI) jCl [(cA, .int)] (fun B => jW cA A B (M') (F')) Ap args s k) (F0 m 0 ls []) := by
  obtain ⟨hx, hb, hml, hr, hts, hown, hlocks, hN⟩ := id hC
  have hj : ∀ w ∈ jw, w.before args s = true := fun w h => hts w (List.mem_cons_of_mem _ h)
  intro x1 M F B H locs ls hJ hl h
  unfold fJh_checkPlace_0 at h
  refine lv_iload_n hx hb dJh_checkPlace_0 rfl (lv_at hl 1 rfl) ?_
  refine lv_if_lt (tgt := 15) hx hb dJh_checkPlace_1 (by decide) (fun c1 => ?_) (fun c1 => ?_)
  · replace h := jif_t c1 h
    exact uxJh_checkPlace_15 l dC dI cA A Ap hX hC hA hk _ _ _ _ _ _ hJ (lv_sub hl [] rfl) h
  · replace h := jif_f c1 h
    refine lv_iload_n hx hb dJh_checkPlace_4 rfl (lv_at hl 1 rfl) ?_
    refine lv_aload_n hx hb dJh_checkPlace_5 rfl (lv_at hl 0 rfl) ?_
    refine va_get (D := (dC, dI)) (ci := 0) (v := .ref (A 3)) (C := RJh) (T := TJh) (N := 4) hx hb hj iJh hown hJ.1 hJ.2.1 0 rfl rfl 2 (by decide) (hj _ jw_182) (fun _ h9 => h9) rfl dJh_checkPlace_6 ?_
    refine va_getN (D := (dC, dI)) (ci := 3) (v := .int (F 0)) (C := RQu) (T := TQu) (N := 10) hx hb hj iQu hown hJ.1 hJ.2.1 3 rfl rfl 8 (by decide) (jnw_use hN jnw_8) (fun _ h9 => h9) rfl dJh_checkPlace_9 ?_
    refine lv_icmp_lt (tgt := 25) hx hb dJh_checkPlace_12 (by decide) (fun c2 => ?_) (fun c2 => ?_)
    · replace h := jif_t c2 h
      exact (jk_no3 hk h.symm).elim
    · replace h := jif_f c2 h
      exact uxJh_checkPlace_15 l dC dI cA A Ap hX hC hA hk _ _ _ _ _ _ hJ (lv_sub hl [] rfl) h
set_option maxHeartbeats 4000000 in
set_option maxRecDepth 100000 in
theorem cxJh_checkPlace (l : Launch) (dC : Nat → ClassId) (dI : Nat → Nat → Nat) (cA : ClassId) (A : Nat → Nat) (hl0 : l.stackTraces = false) (x1 : Int32) (M : jM) (F : jF) (B : Nat → Nat) (sz : Nat) {k : Nat} (hk : ¬ k = 0) {r : Int32} {M' : jM} {F' : jF} (h : fJh_checkPlace x1 M F = some (k, r, M', F')) : jCx l yJh_checkPlace wJh_checkPlace rxJh_checkPlace (dC, dI) jCl [(cA, .int)] [.ref (A 0), .int x1] (jW cA A B M F) sz k (fun B => jW cA A B (M') (F')) :=
  jOfX hl0 (by decide) rfl (Nat.le_of_ble_eq_true rfl) (fun p e s m below meth c Ap ls hC hX hA hJ hl => uxJh_checkPlace_0 l dC dI cA A Ap hX hC hA hk _ _ _ _ _ _ _ hJ (lv_sub hl [0, 1] rfl) h)
abbrev bJh_plan : ByteArray := prog_1_method_9_code
abbrev yJh_plan : MethodName := ⟨RJh, "plan", "(I)I"⟩
abbrev wJh_plan : List Cond := .code yJh_plan bJh_plan 2 (some .int) :: jw
theorem dJh_plan_0 : decode bJh_plan 0 = .ok (.aload_n 0, 1) := by decide +kernel
theorem dJh_plan_1 : decode bJh_plan 1 = .ok (.iload_n 1, 1) := by decide +kernel
theorem dJh_plan_2 : decode bJh_plan 2 = .ok (.invokevirtual 87, 3) := by decide +kernel
theorem dJh_plan_5 : decode bJh_plan 5 = .ok (.aload_n 0, 1) := by decide +kernel
theorem dJh_plan_6 : decode bJh_plan 6 = .ok (.getfield 20, 3) := by decide +kernel
theorem dJh_plan_9 : decode bJh_plan 9 = .ok (.invokevirtual 91, 3) := by decide +kernel
theorem dJh_plan_12 : decode bJh_plan 12 = .ok (.aload_n 0, 1) := by decide +kernel
theorem dJh_plan_13 : decode bJh_plan 13 = .ok (.getfield 20, 3) := by decide +kernel
theorem dJh_plan_16 : decode bJh_plan 16 = .ok (.getfield 94, 3) := by decide +kernel
theorem dJh_plan_19 : decode bJh_plan 19 = .ok (.iload_n 1, 1) := by decide +kernel
theorem dJh_plan_20 : decode bJh_plan 20 = .ok (.iaload, 1) := by decide +kernel
theorem dJh_plan_21 : decode bJh_plan 21 = .ok (.ireturn, 1) := by decide +kernel
abbrev rJh_plan : Room := { frames := 5, cells := 0, slots := 0, locals := 111 }
abbrev rxJh_plan : Room := { frames := 7, cells := 1, slots := 6, locals := 111 }
def fJh_plan_0 (x1 : Int32) (M : jM) (F : jF) : Option (Nat × Int32 × jM × jF) := ((fJh_checkPlace x1 M F).bind fun q1 => if q1.1 = 0 then ((fPl_make q1.2.2.1 q1.2.2.2).bind fun q3 => (if jib x1 6 then some (0, q3.2.1 19 x1.toNatClampNeg, q3.2.1, q3.2.2) else none)) else some (q1.1, 0, q1.2.2.1, q1.2.2.2))
abbrev fJh_plan (x1 : Int32) (M : jM) (F : jF) : Option (Nat × Int32 × jM × jF) := fJh_plan_0 x1 M F
set_option maxHeartbeats 4000000 in
set_option maxRecDepth 100000 in
theorem uJh_plan_0 {p : Program} {e : Env} {s : State} {m : MethodId} {args : Array Value} {below : List Frame} {meth : Method} {c : Code} (l : Launch) (dC : Nat → ClassId) (dI : Nat → Nat → Nat) (cA : ClassId) (A : Nat → Nat) (Ap : Nat → Prop) (hC : jAt p s m args meth c bJh_plan 2 (some .int) wJh_plan RJh) (hA : ∀ q : Nat, s.heap.size ≤ q → Ap q) {r : Int32} {M' : jM} {F' : jF} : ∀ (x1 : Int32) (M : jM) (F : jF) (B : Nat → Nat) (H : Heap) (locs : List Loc) (ls : Array Slot), jH (dC, dI) jCl [(cA, .int)] (jW cA A B M F) Ap s H locs → lv_has ls 2 [(0, .ref (A 0)), (1, .int x1)] → fJh_plan_0 x1 M F = some (0, r, M', F') → W p l e (headSpec wJh_plan rJh_plan).room s m args below meth c H locs 0 0 (jQi below (dC, dI) jCl [(cA, .int)] (fun B => jW cA A B (M') (F')) Ap args s r) (F0 m 0 ls []) := by
  obtain ⟨hx, hb, hml, hr, hts, hown, hlocks, hN⟩ := id hC
  have hj : ∀ w ∈ jw, w.before args s = true := fun w h => hts w (List.mem_cons_of_mem _ h)
  intro x1 M F B H locs ls hJ hl h
  unfold fJh_plan_0 at h
  refine lv_aload_n hx hb dJh_plan_0 rfl (lv_at hl 0 rfl) ?_
  refine lv_iload_n hx hb dJh_plan_1 rfl (lv_at hl 1 rfl) ?_
  obtain ⟨q1, hq1, h⟩ := jbi_h h
  by_cases cq1 : q1.1 = 0
  · replace h := jif_t cq1 h
    refine jcallv (w' := fun B => jW cA A B q1.2.2.1 q1.2.2.2) (va_runV (As := [.int x1]) (rest := []) ⟨hx, hb, hml, hown, hts⟩ (cJh_checkPlace l dC dI cA A x1 M F B H.size (hq1.trans (congrArg some (Prod.ext cq1 rfl)))) (cwV 1 hts (jgoodV jw_388 jw_390 jws_5 jw_1 jw_391) rfl rfl rfl (by decide +kernel) ⟨Nat.le_of_ble_eq_true rfl, Nat.le_of_ble_eq_true rfl⟩) (jpreV hN hJ (ci := 0) (q0 := 0) rfl rfl) rfl rfl hl.1 rfl (lv_room (Nat.le_of_ble_eq_true rfl)) dJh_plan_2 ⟨Nat.zero_le _, Nat.zero_le _⟩) hA hJ (fun B2 H locs hJ => ?_)
    refine lv_aload_n hx hb dJh_plan_5 rfl (lv_at hl 0 rfl) ?_
    refine va_get (D := (dC, dI)) (ci := 0) (v := .ref (A 2)) (C := RJh) (T := TJh) (N := 4) hx hb hj iJh hown hJ.1 hJ.2.1 0 rfl rfl 1 (by decide) (hj _ jw_181) (fun _ h9 => h9) rfl dJh_plan_6 ?_
    obtain ⟨q3, hq3, h⟩ := jbi_h h
    refine jcallv (w' := fun B => jW cA A B q3.2.1 q3.2.2) (va_runV (As := []) (rest := []) ⟨hx, hb, hml, hown, hts⟩ (cPl_make l dC dI cA A q1.2.2.1 q1.2.2.2 B2 H.size hq3) (cwV 0 hts (jgoodV jw_408 jw_409 jw_410 jw_3 jw_411) rfl rfl rfl (by decide +kernel) ⟨Nat.le_of_ble_eq_true rfl, Nat.le_of_ble_eq_true rfl⟩) (jpreV hN hJ (ci := 2) (q0 := 2) rfl rfl) rfl rfl hl.1 rfl (lv_room (Nat.le_of_ble_eq_true rfl)) dJh_plan_9 ⟨Nat.zero_le _, Nat.zero_le _⟩) hA hJ (fun B4 H locs hJ => ?_)
    refine lv_aload_n hx hb dJh_plan_12 rfl (lv_at hl 0 rfl) ?_
    refine va_get (D := (dC, dI)) (ci := 0) (v := .ref (A 2)) (C := RJh) (T := TJh) (N := 4) hx hb hj iJh hown hJ.1 hJ.2.1 0 rfl rfl 1 (by decide) (hj _ jw_181) (fun _ h9 => h9) rfl dJh_plan_13 ?_
    refine va_getN (D := (dC, dI)) (ci := 2) (v := .ref (A 19)) (C := RPl) (T := TPl) (N := 4) hx hb hj iPl hown hJ.1 hJ.2.1 2 rfl rfl 3 (by decide) (jnw_use hN jnw_15) (fun _ h9 => h9) rfl dJh_plan_16 ?_
    refine lv_iload_n hx hb dJh_plan_19 rfl (lv_at hl 1 rfl) ?_
    obtain ⟨hi5, h⟩ := jib_h h
    refine jald_19 hx hb hJ hi5 dJh_plan_20 ?_
    cases h
    exact jreti (u := B4) hx hb hr rfl hlocks hJ dJh_plan_21 rfl
  · replace h := jif_f cq1 h
    exact (jk_no3 cq1 h).elim
set_option maxHeartbeats 4000000 in
set_option maxRecDepth 100000 in
theorem cJh_plan (l : Launch) (dC : Nat → ClassId) (dI : Nat → Nat → Nat) (cA : ClassId) (A : Nat → Nat) (x1 : Int32) (M : jM) (F : jF) (B : Nat → Nat) (sz : Nat) {r : Int32} {M' : jM} {F' : jF} (h : fJh_plan x1 M F = some (0, r, M', F')) : jCi l yJh_plan wJh_plan rJh_plan (dC, dI) jCl [(cA, .int)] [.ref (A 0), .int x1] (jW cA A B M F) sz r (fun B => jW cA A B (M') (F')) :=
  jOf (Qc := fun Ap => va_Qi (fun q (_ : Nat → Nat) => q = r) (jPost (dC, dI) jCl [(cA, .int)] (fun B => jW cA A B (M') (F')) Ap) Ap) (by decide) rfl (Nat.le_of_ble_eq_true rfl) (fun p e s m below meth c Ap ls hC hA hJ hl => uJh_plan_0 l dC dI cA A Ap hC hA _ _ _ _ _ _ _ hJ (lv_sub hl [0, 1] rfl) h)
set_option maxHeartbeats 4000000 in
set_option maxRecDepth 100000 in
theorem uxJh_plan_0 {p : Program} {e : Env} {s : State} {m : MethodId} {args : Array Value} {below : List Frame} {meth : Method} {c : Code} (l : Launch) (dC : Nat → ClassId) (dI : Nat → Nat → Nat) (cA : ClassId) (A : Nat → Nat) (Ap : Nat → Prop) (hX : jAtX l Ap s c) (hC : jAt p s m args meth c bJh_plan 2 (some .int) wJh_plan RJh) (hA : ∀ q : Nat, s.heap.size ≤ q → Ap q) {k : Nat} (hk : ¬ k = 0) {r : Int32} {M' : jM} {F' : jF} : ∀ (x1 : Int32) (M : jM) (F : jF) (B : Nat → Nat) (H : Heap) (locs : List Loc) (ls : Array Slot), jH (dC, dI) jCl [(cA, .int)] (jW cA A B M F) Ap s H locs → lv_has ls 2 [(0, .ref (A 0)), (1, .int x1)] → fJh_plan_0 x1 M F = some (k, r, M', F') → W p l e (headSpec wJh_plan rxJh_plan).room s m args below meth c H locs 0 0 (jQx below (dC, dI) jCl [(cA, .int)] (fun B => jW cA A B (M') (F')) Ap args s k) (F0 m 0 ls []) := by
  obtain ⟨hx, hb, hml, hr, hts, hown, hlocks, hN⟩ := id hC
  have hj : ∀ w ∈ jw, w.before args s = true := fun w h => hts w (List.mem_cons_of_mem _ h)
  intro x1 M F B H locs ls hJ hl h
  unfold fJh_plan_0 at h
  refine lv_aload_n hx hb dJh_plan_0 rfl (lv_at hl 0 rfl) ?_
  refine lv_iload_n hx hb dJh_plan_1 rfl (lv_at hl 1 rfl) ?_
  obtain ⟨q1, hq1, h⟩ := jbi_h h
  by_cases cq1 : q1.1 = 0
  · replace h := jif_t cq1 h
    refine jcallv (w' := fun B => jW cA A B q1.2.2.1 q1.2.2.2) (va_runV (As := [.int x1]) (rest := []) ⟨hx, hb, hml, hown, hts⟩ (cJh_checkPlace l dC dI cA A x1 M F B H.size (hq1.trans (congrArg some (Prod.ext cq1 rfl)))) (cwV 1 hts (jgoodV jw_388 jw_390 jws_5 jw_1 jw_391) rfl rfl rfl (by decide +kernel) ⟨Nat.le_of_ble_eq_true rfl, Nat.le_of_ble_eq_true rfl⟩) (jpreV hN hJ (ci := 0) (q0 := 0) rfl rfl) rfl rfl hl.1 rfl (lv_room (Nat.le_of_ble_eq_true rfl)) dJh_plan_2 ⟨Nat.zero_le _, Nat.zero_le _⟩) hA hJ (fun B2 H locs hJ => ?_)
    refine lv_aload_n hx hb dJh_plan_5 rfl (lv_at hl 0 rfl) ?_
    refine va_get (D := (dC, dI)) (ci := 0) (v := .ref (A 2)) (C := RJh) (T := TJh) (N := 4) hx hb hj iJh hown hJ.1 hJ.2.1 0 rfl rfl 1 (by decide) (hj _ jw_181) (fun _ h9 => h9) rfl dJh_plan_6 ?_
    obtain ⟨q3, hq3, h⟩ := jbi_h h
    refine jcallv (w' := fun B => jW cA A B q3.2.1 q3.2.2) (va_runV (As := []) (rest := []) ⟨hx, hb, hml, hown, hts⟩ (cPl_make l dC dI cA A q1.2.2.1 q1.2.2.2 B2 H.size hq3) (cwV 0 hts (jgoodV jw_408 jw_409 jw_410 jw_3 jw_411) rfl rfl rfl (by decide +kernel) ⟨Nat.le_of_ble_eq_true rfl, Nat.le_of_ble_eq_true rfl⟩) (jpreV hN hJ (ci := 2) (q0 := 2) rfl rfl) rfl rfl hl.1 rfl (lv_room (Nat.le_of_ble_eq_true rfl)) dJh_plan_9 ⟨Nat.zero_le _, Nat.zero_le _⟩) hA hJ (fun B4 H locs hJ => ?_)
    refine lv_aload_n hx hb dJh_plan_12 rfl (lv_at hl 0 rfl) ?_
    refine va_get (D := (dC, dI)) (ci := 0) (v := .ref (A 2)) (C := RJh) (T := TJh) (N := 4) hx hb hj iJh hown hJ.1 hJ.2.1 0 rfl rfl 1 (by decide) (hj _ jw_181) (fun _ h9 => h9) rfl dJh_plan_13 ?_
    refine va_getN (D := (dC, dI)) (ci := 2) (v := .ref (A 19)) (C := RPl) (T := TPl) (N := 4) hx hb hj iPl hown hJ.1 hJ.2.1 2 rfl rfl 3 (by decide) (jnw_use hN jnw_15) (fun _ h9 => h9) rfl dJh_plan_16 ?_
    refine lv_iload_n hx hb dJh_plan_19 rfl (lv_at hl 1 rfl) ?_
    obtain ⟨hi5, h⟩ := jib_h h
    refine jald_19 hx hb hJ hi5 dJh_plan_20 ?_
    exact (jk_no3 hk h.symm).elim
  · replace h := jif_f cq1 h
    cases h
    exact jxcall (vx_runV (As := [.int x1]) (rest := []) ⟨hx, hb, hml, hown, hts⟩ (cxJh_checkPlace l dC dI cA A hX.1 x1 M F B H.size cq1 hq1) (cwV 1 hts (jgoodV jw_388 jw_390 jws_5 jw_1 jw_391) rfl rfl rfl (by decide +kernel) ⟨Nat.le_of_ble_eq_true rfl, Nat.le_of_ble_eq_true rfl⟩) (jpreVX hX.2.1 hA hN hJ (ci := 0) (q0 := 0) rfl rfl) rfl rfl hl.1 rfl (lv_room (Nat.le_of_ble_eq_true rfl)) dJh_plan_2 ⟨Nat.le_of_ble_eq_true rfl, Nat.le_of_ble_eq_true rfl⟩) hA hJ hX.2.2 hlocks
set_option maxHeartbeats 4000000 in
set_option maxRecDepth 100000 in
theorem cxJh_plan (l : Launch) (dC : Nat → ClassId) (dI : Nat → Nat → Nat) (cA : ClassId) (A : Nat → Nat) (hl0 : l.stackTraces = false) (x1 : Int32) (M : jM) (F : jF) (B : Nat → Nat) (sz : Nat) {k : Nat} (hk : ¬ k = 0) {r : Int32} {M' : jM} {F' : jF} (h : fJh_plan x1 M F = some (k, r, M', F')) : jCx l yJh_plan wJh_plan rxJh_plan (dC, dI) jCl [(cA, .int)] [.ref (A 0), .int x1] (jW cA A B M F) sz k (fun B => jW cA A B (M') (F')) :=
  jOfX hl0 (by decide) rfl (Nat.le_of_ble_eq_true rfl) (fun p e s m below meth c Ap ls hC hX hA hJ hl => uxJh_plan_0 l dC dI cA A Ap hX hC hA hk _ _ _ _ _ _ _ hJ (lv_sub hl [0, 1] rfl) h)
abbrev bJh_method : ByteArray := prog_1_method_10_code
abbrev yJh_method : MethodName := ⟨RJh, "method", "(I)I"⟩
abbrev wJh_method : List Cond := .code yJh_method bJh_method 2 (some .int) :: jw
theorem dJh_method_0 : decode bJh_method 0 = .ok (.aload_n 0, 1) := by decide +kernel
theorem dJh_method_1 : decode bJh_method 1 = .ok (.iload_n 1, 1) := by decide +kernel
theorem dJh_method_2 : decode bJh_method 2 = .ok (.invokevirtual 87, 3) := by decide +kernel
theorem dJh_method_5 : decode bJh_method 5 = .ok (.aload_n 0, 1) := by decide +kernel
theorem dJh_method_6 : decode bJh_method 6 = .ok (.getfield 20, 3) := by decide +kernel
theorem dJh_method_9 : decode bJh_method 9 = .ok (.invokevirtual 91, 3) := by decide +kernel
theorem dJh_method_12 : decode bJh_method 12 = .ok (.aload_n 0, 1) := by decide +kernel
theorem dJh_method_13 : decode bJh_method 13 = .ok (.getfield 20, 3) := by decide +kernel
theorem dJh_method_16 : decode bJh_method 16 = .ok (.iload_n 1, 1) := by decide +kernel
theorem dJh_method_17 : decode bJh_method 17 = .ok (.invokevirtual 98, 3) := by decide +kernel
theorem dJh_method_20 : decode bJh_method 20 = .ok (.ireturn, 1) := by decide +kernel
abbrev rJh_method : Room := { frames := 5, cells := 0, slots := 0, locals := 115 }
abbrev rxJh_method : Room := { frames := 7, cells := 1, slots := 6, locals := 115 }
def fJh_method_0 (x1 : Int32) (M : jM) (F : jF) : Option (Nat × Int32 × jM × jF) := ((fJh_checkPlace x1 M F).bind fun q1 => if q1.1 = 0 then ((fPl_make q1.2.2.1 q1.2.2.2).bind fun q3 => ((fPl_methodAt x1 q3.2.1 q3.2.2).bind fun q5 => some (0, q5, q3.2.1, q3.2.2))) else some (q1.1, 0, q1.2.2.1, q1.2.2.2))
abbrev fJh_method (x1 : Int32) (M : jM) (F : jF) : Option (Nat × Int32 × jM × jF) := fJh_method_0 x1 M F
set_option maxHeartbeats 4000000 in
set_option maxRecDepth 100000 in
theorem uJh_method_0 {p : Program} {e : Env} {s : State} {m : MethodId} {args : Array Value} {below : List Frame} {meth : Method} {c : Code} (l : Launch) (dC : Nat → ClassId) (dI : Nat → Nat → Nat) (cA : ClassId) (A : Nat → Nat) (Ap : Nat → Prop) (hC : jAt p s m args meth c bJh_method 2 (some .int) wJh_method RJh) (hA : ∀ q : Nat, s.heap.size ≤ q → Ap q) {r : Int32} {M' : jM} {F' : jF} : ∀ (x1 : Int32) (M : jM) (F : jF) (B : Nat → Nat) (H : Heap) (locs : List Loc) (ls : Array Slot), jH (dC, dI) jCl [(cA, .int)] (jW cA A B M F) Ap s H locs → lv_has ls 2 [(0, .ref (A 0)), (1, .int x1)] → fJh_method_0 x1 M F = some (0, r, M', F') → W p l e (headSpec wJh_method rJh_method).room s m args below meth c H locs 0 0 (jQi below (dC, dI) jCl [(cA, .int)] (fun B => jW cA A B (M') (F')) Ap args s r) (F0 m 0 ls []) := by
  obtain ⟨hx, hb, hml, hr, hts, hown, hlocks, hN⟩ := id hC
  have hj : ∀ w ∈ jw, w.before args s = true := fun w h => hts w (List.mem_cons_of_mem _ h)
  intro x1 M F B H locs ls hJ hl h
  unfold fJh_method_0 at h
  refine lv_aload_n hx hb dJh_method_0 rfl (lv_at hl 0 rfl) ?_
  refine lv_iload_n hx hb dJh_method_1 rfl (lv_at hl 1 rfl) ?_
  obtain ⟨q1, hq1, h⟩ := jbi_h h
  by_cases cq1 : q1.1 = 0
  · replace h := jif_t cq1 h
    refine jcallv (w' := fun B => jW cA A B q1.2.2.1 q1.2.2.2) (va_runV (As := [.int x1]) (rest := []) ⟨hx, hb, hml, hown, hts⟩ (cJh_checkPlace l dC dI cA A x1 M F B H.size (hq1.trans (congrArg some (Prod.ext cq1 rfl)))) (cwV 1 hts (jgoodV jw_388 jw_390 jws_5 jw_1 jw_391) rfl rfl rfl (by decide +kernel) ⟨Nat.le_of_ble_eq_true rfl, Nat.le_of_ble_eq_true rfl⟩) (jpreV hN hJ (ci := 0) (q0 := 0) rfl rfl) rfl rfl hl.1 rfl (lv_room (Nat.le_of_ble_eq_true rfl)) dJh_method_2 ⟨Nat.zero_le _, Nat.zero_le _⟩) hA hJ (fun B2 H locs hJ => ?_)
    refine lv_aload_n hx hb dJh_method_5 rfl (lv_at hl 0 rfl) ?_
    refine va_get (D := (dC, dI)) (ci := 0) (v := .ref (A 2)) (C := RJh) (T := TJh) (N := 4) hx hb hj iJh hown hJ.1 hJ.2.1 0 rfl rfl 1 (by decide) (hj _ jw_181) (fun _ h9 => h9) rfl dJh_method_6 ?_
    obtain ⟨q3, hq3, h⟩ := jbi_h h
    refine jcallv (w' := fun B => jW cA A B q3.2.1 q3.2.2) (va_runV (As := []) (rest := []) ⟨hx, hb, hml, hown, hts⟩ (cPl_make l dC dI cA A q1.2.2.1 q1.2.2.2 B2 H.size hq3) (cwV 0 hts (jgoodV jw_408 jw_409 jw_410 jw_3 jw_411) rfl rfl rfl (by decide +kernel) ⟨Nat.le_of_ble_eq_true rfl, Nat.le_of_ble_eq_true rfl⟩) (jpreV hN hJ (ci := 2) (q0 := 2) rfl rfl) rfl rfl hl.1 rfl (lv_room (Nat.le_of_ble_eq_true rfl)) dJh_method_9 ⟨Nat.zero_le _, Nat.zero_le _⟩) hA hJ (fun B4 H locs hJ => ?_)
    refine lv_aload_n hx hb dJh_method_12 rfl (lv_at hl 0 rfl) ?_
    refine va_get (D := (dC, dI)) (ci := 0) (v := .ref (A 2)) (C := RJh) (T := TJh) (N := 4) hx hb hj iJh hown hJ.1 hJ.2.1 0 rfl rfl 1 (by decide) (hj _ jw_181) (fun _ h9 => h9) rfl dJh_method_13 ?_
    refine lv_iload_n hx hb dJh_method_16 rfl (lv_at hl 1 rfl) ?_
    obtain ⟨q5, hq5, h⟩ := jbi_h h
    refine jcalli (w' := fun B => jW cA A B q3.2.1 q3.2.2) (va_runV (As := [.int x1]) (rest := []) ⟨hx, hb, hml, hown, hts⟩ (cPl_methodAt l dC dI cA A x1 q3.2.1 q3.2.2 B4 H.size hq5) (cwV 1 hts (jgoodV jw_458 jw_459 jw_460 jw_3 jw_461) rfl rfl rfl (by decide +kernel) ⟨Nat.le_of_ble_eq_true rfl, Nat.le_of_ble_eq_true rfl⟩) (jpreV hN hJ (ci := 2) (q0 := 2) rfl rfl) rfl rfl hl.1 rfl (lv_room (Nat.le_of_ble_eq_true rfl)) dJh_method_17 ⟨Nat.zero_le _, Nat.zero_le _⟩) hA hJ (fun B4 H locs hJ => ?_)
    cases h
    exact jreti (u := B4) hx hb hr rfl hlocks hJ dJh_method_20 rfl
  · replace h := jif_f cq1 h
    exact (jk_no3 cq1 h).elim
set_option maxHeartbeats 4000000 in
set_option maxRecDepth 100000 in
theorem cJh_method (l : Launch) (dC : Nat → ClassId) (dI : Nat → Nat → Nat) (cA : ClassId) (A : Nat → Nat) (x1 : Int32) (M : jM) (F : jF) (B : Nat → Nat) (sz : Nat) {r : Int32} {M' : jM} {F' : jF} (h : fJh_method x1 M F = some (0, r, M', F')) : jCi l yJh_method wJh_method rJh_method (dC, dI) jCl [(cA, .int)] [.ref (A 0), .int x1] (jW cA A B M F) sz r (fun B => jW cA A B (M') (F')) :=
  jOf (Qc := fun Ap => va_Qi (fun q (_ : Nat → Nat) => q = r) (jPost (dC, dI) jCl [(cA, .int)] (fun B => jW cA A B (M') (F')) Ap) Ap) (by decide) rfl (Nat.le_of_ble_eq_true rfl) (fun p e s m below meth c Ap ls hC hA hJ hl => uJh_method_0 l dC dI cA A Ap hC hA _ _ _ _ _ _ _ hJ (lv_sub hl [0, 1] rfl) h)
set_option maxHeartbeats 4000000 in
set_option maxRecDepth 100000 in
theorem uxJh_method_0 {p : Program} {e : Env} {s : State} {m : MethodId} {args : Array Value} {below : List Frame} {meth : Method} {c : Code} (l : Launch) (dC : Nat → ClassId) (dI : Nat → Nat → Nat) (cA : ClassId) (A : Nat → Nat) (Ap : Nat → Prop) (hX : jAtX l Ap s c) (hC : jAt p s m args meth c bJh_method 2 (some .int) wJh_method RJh) (hA : ∀ q : Nat, s.heap.size ≤ q → Ap q) {k : Nat} (hk : ¬ k = 0) {r : Int32} {M' : jM} {F' : jF} : ∀ (x1 : Int32) (M : jM) (F : jF) (B : Nat → Nat) (H : Heap) (locs : List Loc) (ls : Array Slot), jH (dC, dI) jCl [(cA, .int)] (jW cA A B M F) Ap s H locs → lv_has ls 2 [(0, .ref (A 0)), (1, .int x1)] → fJh_method_0 x1 M F = some (k, r, M', F') → W p l e (headSpec wJh_method rxJh_method).room s m args below meth c H locs 0 0 (jQx below (dC, dI) jCl [(cA, .int)] (fun B => jW cA A B (M') (F')) Ap args s k) (F0 m 0 ls []) := by
  obtain ⟨hx, hb, hml, hr, hts, hown, hlocks, hN⟩ := id hC
  have hj : ∀ w ∈ jw, w.before args s = true := fun w h => hts w (List.mem_cons_of_mem _ h)
  intro x1 M F B H locs ls hJ hl h
  unfold fJh_method_0 at h
  refine lv_aload_n hx hb dJh_method_0 rfl (lv_at hl 0 rfl) ?_
  refine lv_iload_n hx hb dJh_method_1 rfl (lv_at hl 1 rfl) ?_
  obtain ⟨q1, hq1, h⟩ := jbi_h h
  by_cases cq1 : q1.1 = 0
  · replace h := jif_t cq1 h
    refine jcallv (w' := fun B => jW cA A B q1.2.2.1 q1.2.2.2) (va_runV (As := [.int x1]) (rest := []) ⟨hx, hb, hml, hown, hts⟩ (cJh_checkPlace l dC dI cA A x1 M F B H.size (hq1.trans (congrArg some (Prod.ext cq1 rfl)))) (cwV 1 hts (jgoodV jw_388 jw_390 jws_5 jw_1 jw_391) rfl rfl rfl (by decide +kernel) ⟨Nat.le_of_ble_eq_true rfl, Nat.le_of_ble_eq_true rfl⟩) (jpreV hN hJ (ci := 0) (q0 := 0) rfl rfl) rfl rfl hl.1 rfl (lv_room (Nat.le_of_ble_eq_true rfl)) dJh_method_2 ⟨Nat.zero_le _, Nat.zero_le _⟩) hA hJ (fun B2 H locs hJ => ?_)
    refine lv_aload_n hx hb dJh_method_5 rfl (lv_at hl 0 rfl) ?_
    refine va_get (D := (dC, dI)) (ci := 0) (v := .ref (A 2)) (C := RJh) (T := TJh) (N := 4) hx hb hj iJh hown hJ.1 hJ.2.1 0 rfl rfl 1 (by decide) (hj _ jw_181) (fun _ h9 => h9) rfl dJh_method_6 ?_
    obtain ⟨q3, hq3, h⟩ := jbi_h h
    refine jcallv (w' := fun B => jW cA A B q3.2.1 q3.2.2) (va_runV (As := []) (rest := []) ⟨hx, hb, hml, hown, hts⟩ (cPl_make l dC dI cA A q1.2.2.1 q1.2.2.2 B2 H.size hq3) (cwV 0 hts (jgoodV jw_408 jw_409 jw_410 jw_3 jw_411) rfl rfl rfl (by decide +kernel) ⟨Nat.le_of_ble_eq_true rfl, Nat.le_of_ble_eq_true rfl⟩) (jpreV hN hJ (ci := 2) (q0 := 2) rfl rfl) rfl rfl hl.1 rfl (lv_room (Nat.le_of_ble_eq_true rfl)) dJh_method_9 ⟨Nat.zero_le _, Nat.zero_le _⟩) hA hJ (fun B4 H locs hJ => ?_)
    refine lv_aload_n hx hb dJh_method_12 rfl (lv_at hl 0 rfl) ?_
    refine va_get (D := (dC, dI)) (ci := 0) (v := .ref (A 2)) (C := RJh) (T := TJh) (N := 4) hx hb hj iJh hown hJ.1 hJ.2.1 0 rfl rfl 1 (by decide) (hj _ jw_181) (fun _ h9 => h9) rfl dJh_method_13 ?_
    refine lv_iload_n hx hb dJh_method_16 rfl (lv_at hl 1 rfl) ?_
    obtain ⟨q5, hq5, h⟩ := jbi_h h
    refine jcalli (w' := fun B => jW cA A B q3.2.1 q3.2.2) (va_runV (As := [.int x1]) (rest := []) ⟨hx, hb, hml, hown, hts⟩ (cPl_methodAt l dC dI cA A x1 q3.2.1 q3.2.2 B4 H.size hq5) (cwV 1 hts (jgoodV jw_458 jw_459 jw_460 jw_3 jw_461) rfl rfl rfl (by decide +kernel) ⟨Nat.le_of_ble_eq_true rfl, Nat.le_of_ble_eq_true rfl⟩) (jpreV hN hJ (ci := 2) (q0 := 2) rfl rfl) rfl rfl hl.1 rfl (lv_room (Nat.le_of_ble_eq_true rfl)) dJh_method_17 ⟨Nat.zero_le _, Nat.zero_le _⟩) hA hJ (fun B4 H locs hJ => ?_)
    exact (jk_no3 hk h.symm).elim
  · replace h := jif_f cq1 h
    cases h
    exact jxcall (vx_runV (As := [.int x1]) (rest := []) ⟨hx, hb, hml, hown, hts⟩ (cxJh_checkPlace l dC dI cA A hX.1 x1 M F B H.size cq1 hq1) (cwV 1 hts (jgoodV jw_388 jw_390 jws_5 jw_1 jw_391) rfl rfl rfl (by decide +kernel) ⟨Nat.le_of_ble_eq_true rfl, Nat.le_of_ble_eq_true rfl⟩) (jpreVX hX.2.1 hA hN hJ (ci := 0) (q0 := 0) rfl rfl) rfl rfl hl.1 rfl (lv_room (Nat.le_of_ble_eq_true rfl)) dJh_method_2 ⟨Nat.le_of_ble_eq_true rfl, Nat.le_of_ble_eq_true rfl⟩) hA hJ hX.2.2 hlocks
set_option maxHeartbeats 4000000 in
set_option maxRecDepth 100000 in
theorem cxJh_method (l : Launch) (dC : Nat → ClassId) (dI : Nat → Nat → Nat) (cA : ClassId) (A : Nat → Nat) (hl0 : l.stackTraces = false) (x1 : Int32) (M : jM) (F : jF) (B : Nat → Nat) (sz : Nat) {k : Nat} (hk : ¬ k = 0) {r : Int32} {M' : jM} {F' : jF} (h : fJh_method x1 M F = some (k, r, M', F')) : jCx l yJh_method wJh_method rxJh_method (dC, dI) jCl [(cA, .int)] [.ref (A 0), .int x1] (jW cA A B M F) sz k (fun B => jW cA A B (M') (F')) :=
  jOfX hl0 (by decide) rfl (Nat.le_of_ble_eq_true rfl) (fun p e s m below meth c Ap ls hC hX hA hJ hl => uxJh_method_0 l dC dI cA A Ap hX hC hA hk _ _ _ _ _ _ _ hJ (lv_sub hl [0, 1] rfl) h)
abbrev bJh_size : ByteArray := prog_1_method_11_code
abbrev yJh_size : MethodName := ⟨RJh, "size", "(I)I"⟩
abbrev wJh_size : List Cond := .code yJh_size bJh_size 2 (some .int) :: jw
theorem dJh_size_0 : decode bJh_size 0 = .ok (.aload_n 0, 1) := by decide +kernel
theorem dJh_size_1 : decode bJh_size 1 = .ok (.iload_n 1, 1) := by decide +kernel
theorem dJh_size_2 : decode bJh_size 2 = .ok (.invokevirtual 87, 3) := by decide +kernel
theorem dJh_size_5 : decode bJh_size 5 = .ok (.aload_n 0, 1) := by decide +kernel
theorem dJh_size_6 : decode bJh_size 6 = .ok (.getfield 20, 3) := by decide +kernel
theorem dJh_size_9 : decode bJh_size 9 = .ok (.invokevirtual 91, 3) := by decide +kernel
theorem dJh_size_12 : decode bJh_size 12 = .ok (.aload_n 0, 1) := by decide +kernel
theorem dJh_size_13 : decode bJh_size 13 = .ok (.getfield 20, 3) := by decide +kernel
theorem dJh_size_16 : decode bJh_size 16 = .ok (.iload_n 1, 1) := by decide +kernel
theorem dJh_size_17 : decode bJh_size 17 = .ok (.invokevirtual 101, 3) := by decide +kernel
theorem dJh_size_20 : decode bJh_size 20 = .ok (.ireturn, 1) := by decide +kernel
abbrev rJh_size : Room := { frames := 5, cells := 0, slots := 0, locals := 111 }
abbrev rxJh_size : Room := { frames := 7, cells := 1, slots := 6, locals := 111 }
def fJh_size_0 (x1 : Int32) (M : jM) (F : jF) : Option (Nat × Int32 × jM × jF) := ((fJh_checkPlace x1 M F).bind fun q1 => if q1.1 = 0 then ((fPl_make q1.2.2.1 q1.2.2.2).bind fun q3 => ((fPl_sizeAt x1 q3.2.1 q3.2.2).bind fun q5 => some (0, q5, q3.2.1, q3.2.2))) else some (q1.1, 0, q1.2.2.1, q1.2.2.2))
abbrev fJh_size (x1 : Int32) (M : jM) (F : jF) : Option (Nat × Int32 × jM × jF) := fJh_size_0 x1 M F
set_option maxHeartbeats 4000000 in
set_option maxRecDepth 100000 in
theorem uJh_size_0 {p : Program} {e : Env} {s : State} {m : MethodId} {args : Array Value} {below : List Frame} {meth : Method} {c : Code} (l : Launch) (dC : Nat → ClassId) (dI : Nat → Nat → Nat) (cA : ClassId) (A : Nat → Nat) (Ap : Nat → Prop) (hC : jAt p s m args meth c bJh_size 2 (some .int) wJh_size RJh) (hA : ∀ q : Nat, s.heap.size ≤ q → Ap q) {r : Int32} {M' : jM} {F' : jF} : ∀ (x1 : Int32) (M : jM) (F : jF) (B : Nat → Nat) (H : Heap) (locs : List Loc) (ls : Array Slot), jH (dC, dI) jCl [(cA, .int)] (jW cA A B M F) Ap s H locs → lv_has ls 2 [(0, .ref (A 0)), (1, .int x1)] → fJh_size_0 x1 M F = some (0, r, M', F') → W p l e (headSpec wJh_size rJh_size).room s m args below meth c H locs 0 0 (jQi below (dC, dI) jCl [(cA, .int)] (fun B => jW cA A B (M') (F')) Ap args s r) (F0 m 0 ls []) := by
  obtain ⟨hx, hb, hml, hr, hts, hown, hlocks, hN⟩ := id hC
  have hj : ∀ w ∈ jw, w.before args s = true := fun w h => hts w (List.mem_cons_of_mem _ h)
  intro x1 M F B H locs ls hJ hl h
  unfold fJh_size_0 at h
  refine lv_aload_n hx hb dJh_size_0 rfl (lv_at hl 0 rfl) ?_
  refine lv_iload_n hx hb dJh_size_1 rfl (lv_at hl 1 rfl) ?_
  obtain ⟨q1, hq1, h⟩ := jbi_h h
  by_cases cq1 : q1.1 = 0
  · replace h := jif_t cq1 h
    refine jcallv (w' := fun B => jW cA A B q1.2.2.1 q1.2.2.2) (va_runV (As := [.int x1]) (rest := []) ⟨hx, hb, hml, hown, hts⟩ (cJh_checkPlace l dC dI cA A x1 M F B H.size (hq1.trans (congrArg some (Prod.ext cq1 rfl)))) (cwV 1 hts (jgoodV jw_388 jw_390 jws_5 jw_1 jw_391) rfl rfl rfl (by decide +kernel) ⟨Nat.le_of_ble_eq_true rfl, Nat.le_of_ble_eq_true rfl⟩) (jpreV hN hJ (ci := 0) (q0 := 0) rfl rfl) rfl rfl hl.1 rfl (lv_room (Nat.le_of_ble_eq_true rfl)) dJh_size_2 ⟨Nat.zero_le _, Nat.zero_le _⟩) hA hJ (fun B2 H locs hJ => ?_)
    refine lv_aload_n hx hb dJh_size_5 rfl (lv_at hl 0 rfl) ?_
    refine va_get (D := (dC, dI)) (ci := 0) (v := .ref (A 2)) (C := RJh) (T := TJh) (N := 4) hx hb hj iJh hown hJ.1 hJ.2.1 0 rfl rfl 1 (by decide) (hj _ jw_181) (fun _ h9 => h9) rfl dJh_size_6 ?_
    obtain ⟨q3, hq3, h⟩ := jbi_h h
    refine jcallv (w' := fun B => jW cA A B q3.2.1 q3.2.2) (va_runV (As := []) (rest := []) ⟨hx, hb, hml, hown, hts⟩ (cPl_make l dC dI cA A q1.2.2.1 q1.2.2.2 B2 H.size hq3) (cwV 0 hts (jgoodV jw_408 jw_409 jw_410 jw_3 jw_411) rfl rfl rfl (by decide +kernel) ⟨Nat.le_of_ble_eq_true rfl, Nat.le_of_ble_eq_true rfl⟩) (jpreV hN hJ (ci := 2) (q0 := 2) rfl rfl) rfl rfl hl.1 rfl (lv_room (Nat.le_of_ble_eq_true rfl)) dJh_size_9 ⟨Nat.zero_le _, Nat.zero_le _⟩) hA hJ (fun B4 H locs hJ => ?_)
    refine lv_aload_n hx hb dJh_size_12 rfl (lv_at hl 0 rfl) ?_
    refine va_get (D := (dC, dI)) (ci := 0) (v := .ref (A 2)) (C := RJh) (T := TJh) (N := 4) hx hb hj iJh hown hJ.1 hJ.2.1 0 rfl rfl 1 (by decide) (hj _ jw_181) (fun _ h9 => h9) rfl dJh_size_13 ?_
    refine lv_iload_n hx hb dJh_size_16 rfl (lv_at hl 1 rfl) ?_
    obtain ⟨q5, hq5, h⟩ := jbi_h h
    refine jcalli (w' := fun B => jW cA A B q3.2.1 q3.2.2) (va_runV (As := [.int x1]) (rest := []) ⟨hx, hb, hml, hown, hts⟩ (cPl_sizeAt l dC dI cA A x1 q3.2.1 q3.2.2 B4 H.size hq5) (cwV 1 hts (jgoodV jw_498 jw_499 jw_500 jw_3 jw_501) rfl rfl rfl (by decide +kernel) ⟨Nat.le_of_ble_eq_true rfl, Nat.le_of_ble_eq_true rfl⟩) (jpreV hN hJ (ci := 2) (q0 := 2) rfl rfl) rfl rfl hl.1 rfl (lv_room (Nat.le_of_ble_eq_true rfl)) dJh_size_17 ⟨Nat.zero_le _, Nat.zero_le _⟩) hA hJ (fun B4 H locs hJ => ?_)
    cases h
    exact jreti (u := B4) hx hb hr rfl hlocks hJ dJh_size_20 rfl
  · replace h := jif_f cq1 h
    exact (jk_no3 cq1 h).elim
set_option maxHeartbeats 4000000 in
set_option maxRecDepth 100000 in
theorem cJh_size (l : Launch) (dC : Nat → ClassId) (dI : Nat → Nat → Nat) (cA : ClassId) (A : Nat → Nat) (x1 : Int32) (M : jM) (F : jF) (B : Nat → Nat) (sz : Nat) {r : Int32} {M' : jM} {F' : jF} (h : fJh_size x1 M F = some (0, r, M', F')) : jCi l yJh_size wJh_size rJh_size (dC, dI) jCl [(cA, .int)] [.ref (A 0), .int x1] (jW cA A B M F) sz r (fun B => jW cA A B (M') (F')) :=
  jOf (Qc := fun Ap => va_Qi (fun q (_ : Nat → Nat) => q = r) (jPost (dC, dI) jCl [(cA, .int)] (fun B => jW cA A B (M') (F')) Ap) Ap) (by decide) rfl (Nat.le_of_ble_eq_true rfl) (fun p e s m below meth c Ap ls hC hA hJ hl => uJh_size_0 l dC dI cA A Ap hC hA _ _ _ _ _ _ _ hJ (lv_sub hl [0, 1] rfl) h)
set_option maxHeartbeats 4000000 in
set_option maxRecDepth 100000 in
theorem uxJh_size_0 {p : Program} {e : Env} {s : State} {m : MethodId} {args : Array Value} {below : List Frame} {meth : Method} {c : Code} (l : Launch) (dC : Nat → ClassId) (dI : Nat → Nat → Nat) (cA : ClassId) (A : Nat → Nat) (Ap : Nat → Prop) (hX : jAtX l Ap s c) (hC : jAt p s m args meth c bJh_size 2 (some .int) wJh_size RJh) (hA : ∀ q : Nat, s.heap.size ≤ q → Ap q) {k : Nat} (hk : ¬ k = 0) {r : Int32} {M' : jM} {F' : jF} : ∀ (x1 : Int32) (M : jM) (F : jF) (B : Nat → Nat) (H : Heap) (locs : List Loc) (ls : Array Slot), jH (dC, dI) jCl [(cA, .int)] (jW cA A B M F) Ap s H locs → lv_has ls 2 [(0, .ref (A 0)), (1, .int x1)] → fJh_size_0 x1 M F = some (k, r, M', F') → W p l e (headSpec wJh_size rxJh_size).room s m args below meth c H locs 0 0 (jQx below (dC, dI) jCl [(cA, .int)] (fun B => jW cA A B (M') (F')) Ap args s k) (F0 m 0 ls []) := by
  obtain ⟨hx, hb, hml, hr, hts, hown, hlocks, hN⟩ := id hC
  have hj : ∀ w ∈ jw, w.before args s = true := fun w h => hts w (List.mem_cons_of_mem _ h)
  intro x1 M F B H locs ls hJ hl h
  unfold fJh_size_0 at h
  refine lv_aload_n hx hb dJh_size_0 rfl (lv_at hl 0 rfl) ?_
  refine lv_iload_n hx hb dJh_size_1 rfl (lv_at hl 1 rfl) ?_
  obtain ⟨q1, hq1, h⟩ := jbi_h h
  by_cases cq1 : q1.1 = 0
  · replace h := jif_t cq1 h
    refine jcallv (w' := fun B => jW cA A B q1.2.2.1 q1.2.2.2) (va_runV (As := [.int x1]) (rest := []) ⟨hx, hb, hml, hown, hts⟩ (cJh_checkPlace l dC dI cA A x1 M F B H.size (hq1.trans (congrArg some (Prod.ext cq1 rfl)))) (cwV 1 hts (jgoodV jw_388 jw_390 jws_5 jw_1 jw_391) rfl rfl rfl (by decide +kernel) ⟨Nat.le_of_ble_eq_true rfl, Nat.le_of_ble_eq_true rfl⟩) (jpreV hN hJ (ci := 0) (q0 := 0) rfl rfl) rfl rfl hl.1 rfl (lv_room (Nat.le_of_ble_eq_true rfl)) dJh_size_2 ⟨Nat.zero_le _, Nat.zero_le _⟩) hA hJ (fun B2 H locs hJ => ?_)
    refine lv_aload_n hx hb dJh_size_5 rfl (lv_at hl 0 rfl) ?_
    refine va_get (D := (dC, dI)) (ci := 0) (v := .ref (A 2)) (C := RJh) (T := TJh) (N := 4) hx hb hj iJh hown hJ.1 hJ.2.1 0 rfl rfl 1 (by decide) (hj _ jw_181) (fun _ h9 => h9) rfl dJh_size_6 ?_
    obtain ⟨q3, hq3, h⟩ := jbi_h h
    refine jcallv (w' := fun B => jW cA A B q3.2.1 q3.2.2) (va_runV (As := []) (rest := []) ⟨hx, hb, hml, hown, hts⟩ (cPl_make l dC dI cA A q1.2.2.1 q1.2.2.2 B2 H.size hq3) (cwV 0 hts (jgoodV jw_408 jw_409 jw_410 jw_3 jw_411) rfl rfl rfl (by decide +kernel) ⟨Nat.le_of_ble_eq_true rfl, Nat.le_of_ble_eq_true rfl⟩) (jpreV hN hJ (ci := 2) (q0 := 2) rfl rfl) rfl rfl hl.1 rfl (lv_room (Nat.le_of_ble_eq_true rfl)) dJh_size_9 ⟨Nat.zero_le _, Nat.zero_le _⟩) hA hJ (fun B4 H locs hJ => ?_)
    refine lv_aload_n hx hb dJh_size_12 rfl (lv_at hl 0 rfl) ?_
    refine va_get (D := (dC, dI)) (ci := 0) (v := .ref (A 2)) (C := RJh) (T := TJh) (N := 4) hx hb hj iJh hown hJ.1 hJ.2.1 0 rfl rfl 1 (by decide) (hj _ jw_181) (fun _ h9 => h9) rfl dJh_size_13 ?_
    refine lv_iload_n hx hb dJh_size_16 rfl (lv_at hl 1 rfl) ?_
    obtain ⟨q5, hq5, h⟩ := jbi_h h
    refine jcalli (w' := fun B => jW cA A B q3.2.1 q3.2.2) (va_runV (As := [.int x1]) (rest := []) ⟨hx, hb, hml, hown, hts⟩ (cPl_sizeAt l dC dI cA A x1 q3.2.1 q3.2.2 B4 H.size hq5) (cwV 1 hts (jgoodV jw_498 jw_499 jw_500 jw_3 jw_501) rfl rfl rfl (by decide +kernel) ⟨Nat.le_of_ble_eq_true rfl, Nat.le_of_ble_eq_true rfl⟩) (jpreV hN hJ (ci := 2) (q0 := 2) rfl rfl) rfl rfl hl.1 rfl (lv_room (Nat.le_of_ble_eq_true rfl)) dJh_size_17 ⟨Nat.zero_le _, Nat.zero_le _⟩) hA hJ (fun B4 H locs hJ => ?_)
    exact (jk_no3 hk h.symm).elim
  · replace h := jif_f cq1 h
    cases h
    exact jxcall (vx_runV (As := [.int x1]) (rest := []) ⟨hx, hb, hml, hown, hts⟩ (cxJh_checkPlace l dC dI cA A hX.1 x1 M F B H.size cq1 hq1) (cwV 1 hts (jgoodV jw_388 jw_390 jws_5 jw_1 jw_391) rfl rfl rfl (by decide +kernel) ⟨Nat.le_of_ble_eq_true rfl, Nat.le_of_ble_eq_true rfl⟩) (jpreVX hX.2.1 hA hN hJ (ci := 0) (q0 := 0) rfl rfl) rfl rfl hl.1 rfl (lv_room (Nat.le_of_ble_eq_true rfl)) dJh_size_2 ⟨Nat.le_of_ble_eq_true rfl, Nat.le_of_ble_eq_true rfl⟩) hA hJ hX.2.2 hlocks
set_option maxHeartbeats 4000000 in
set_option maxRecDepth 100000 in
theorem cxJh_size (l : Launch) (dC : Nat → ClassId) (dI : Nat → Nat → Nat) (cA : ClassId) (A : Nat → Nat) (hl0 : l.stackTraces = false) (x1 : Int32) (M : jM) (F : jF) (B : Nat → Nat) (sz : Nat) {k : Nat} (hk : ¬ k = 0) {r : Int32} {M' : jM} {F' : jF} (h : fJh_size x1 M F = some (k, r, M', F')) : jCx l yJh_size wJh_size rxJh_size (dC, dI) jCl [(cA, .int)] [.ref (A 0), .int x1] (jW cA A B M F) sz k (fun B => jW cA A B (M') (F')) :=
  jOfX hl0 (by decide) rfl (Nat.le_of_ble_eq_true rfl) (fun p e s m below meth c Ap ls hC hX hA hJ hl => uxJh_size_0 l dC dI cA A Ap hX hC hA hk _ _ _ _ _ _ _ hJ (lv_sub hl [0, 1] rfl) h)
abbrev bJh_run : ByteArray := prog_1_method_12_code
abbrev yJh_run : MethodName := ⟨RJh, "run", "()I"⟩
abbrev wJh_run : List Cond := .code yJh_run bJh_run 1 (some .int) :: jw
theorem dJh_run_0 : decode bJh_run 0 = .ok (.aload_n 0, 1) := by decide +kernel
theorem dJh_run_1 : decode bJh_run 1 = .ok (.getfield 12, 3) := by decide +kernel
theorem dJh_run_4 : decode bJh_run 4 = .ok (.invokevirtual 104, 3) := by decide +kernel
theorem dJh_run_7 : decode bJh_run 7 = .ok (.ifCond .ne 13, 3) := by decide +kernel
theorem dJh_run_10 : decode bJh_run 10 = .ok (.new 58, 3) := by decide +kernel
theorem dJh_run_13 : decode bJh_run 13 = .ok (.dup, 1) := by decide +kernel
theorem dJh_run_14 : decode bJh_run 14 = .ok (.ldc 108, 2) := by decide +kernel
theorem dJh_run_16 : decode bJh_run 16 = .ok (.invokespecial 62, 3) := by decide +kernel
theorem dJh_run_19 : decode bJh_run 19 = .ok (.athrow, 1) := by decide +kernel
theorem dJh_run_20 : decode bJh_run 20 = .ok (.aload_n 0, 1) := by decide +kernel
theorem dJh_run_21 : decode bJh_run 21 = .ok (.getfield 12, 3) := by decide +kernel
theorem dJh_run_24 : decode bJh_run 24 = .ok (.getfield 110, 3) := by decide +kernel
theorem dJh_run_27 : decode bJh_run 27 = .ok (.ireturn, 1) := by decide +kernel
abbrev rJh_run : Room := { frames := 6, cells := 0, slots := 0, locals := 153 }
abbrev rxJh_run : Room := { frames := 6, cells := 1, slots := 6, locals := 153 }
def fJh_run_0 (M : jM) (F : jF) : Option (Nat × Int32 × jM × jF) := ((fRu_go M F).bind fun q1 => (if q1.1 = 0 then some (2, 0, q1.2.1, q1.2.2) else some (0, q1.2.2 6, q1.2.1, q1.2.2)))
abbrev fJh_run (M : jM) (F : jF) : Option (Nat × Int32 × jM × jF) := fJh_run_0  M F
set_option maxHeartbeats 4000000 in
set_option maxRecDepth 100000 in
theorem uJh_run_0 {p : Program} {e : Env} {s : State} {m : MethodId} {args : Array Value} {below : List Frame} {meth : Method} {c : Code} (l : Launch) (dC : Nat → ClassId) (dI : Nat → Nat → Nat) (cA : ClassId) (A : Nat → Nat) (Ap : Nat → Prop) (hC : jAt p s m args meth c bJh_run 1 (some .int) wJh_run RJh) (hA : ∀ q : Nat, s.heap.size ≤ q → Ap q) {r : Int32} {M' : jM} {F' : jF} : ∀ (M : jM) (F : jF) (B : Nat → Nat) (H : Heap) (locs : List Loc) (ls : Array Slot), jH (dC, dI) jCl [(cA, .int)] (jW cA A B M F) Ap s H locs → lv_has ls 1 [(0, .ref (A 0))] → fJh_run_0 M F = some (0, r, M', F') → W p l e (headSpec wJh_run rJh_run).room s m args below meth c H locs 0 0 (jQi below (dC, dI) jCl [(cA, .int)] (fun B => jW cA A B (M') (F')) Ap args s r) (F0 m 0 ls []) := by
  obtain ⟨hx, hb, hml, hr, hts, hown, hlocks, hN⟩ := id hC
  have hj : ∀ w ∈ jw, w.before args s = true := fun w h => hts w (List.mem_cons_of_mem _ h)
  intro  M F B H locs ls hJ hl h
  unfold fJh_run_0 at h
  refine lv_aload_n hx hb dJh_run_0 rfl (lv_at hl 0 rfl) ?_
  refine va_get (D := (dC, dI)) (ci := 0) (v := .ref (A 1)) (C := RJh) (T := TJh) (N := 4) hx hb hj iJh hown hJ.1 hJ.2.1 0 rfl rfl 0 (by decide) (hj _ jw_180) (fun _ h9 => h9) rfl dJh_run_1 ?_
  obtain ⟨q1, hq1, h⟩ := jbi_h h
  refine jcalli (w' := fun B => jW cA A B q1.2.1 q1.2.2) (va_runV (As := []) (rest := []) ⟨hx, hb, hml, hown, hts⟩ (cRu_go l dC dI cA A M F B H.size hq1) (cwV 0 hts (jgoodV jw_509 jw_510 jw_511 jw_2 jw_512) rfl rfl rfl (by decide +kernel) ⟨Nat.le_of_ble_eq_true rfl, Nat.le_of_ble_eq_true rfl⟩) (jpreV hN hJ (ci := 1) (q0 := 1) rfl rfl) rfl rfl hl.1 rfl (lv_room (Nat.le_of_ble_eq_true rfl)) dJh_run_4 ⟨Nat.zero_le _, Nat.zero_le _⟩) hA hJ (fun B2 H locs hJ => ?_)
  refine lv_if_ne (tgt := 20) hx hb dJh_run_7 (by decide) (fun c3 => ?_) (fun c3 => ?_)
  · replace h := jif_f c3 h
    refine lv_aload_n hx hb dJh_run_20 rfl (lv_at hl 0 rfl) ?_
    refine va_get (D := (dC, dI)) (ci := 0) (v := .ref (A 1)) (C := RJh) (T := TJh) (N := 4) hx hb hj iJh hown hJ.1 hJ.2.1 0 rfl rfl 0 (by decide) (hj _ jw_180) (fun _ h9 => h9) rfl dJh_run_21 ?_
    refine va_getN (D := (dC, dI)) (ci := 1) (v := .int (q1.2.2 6)) (C := RRu) (T := TRu) (N := 11) hx hb hj iRu hown hJ.1 hJ.2.1 1 rfl rfl 8 (by decide) (jnw_use hN jnw_19) (fun _ h9 => h9) rfl dJh_run_24 ?_
    cases h
    exact jreti (u := B2) hx hb hr rfl hlocks hJ dJh_run_27 rfl
  · replace h := jif_t c3 h
    exact (jk_no h).elim
set_option maxHeartbeats 4000000 in
set_option maxRecDepth 100000 in
theorem cJh_run (l : Launch) (dC : Nat → ClassId) (dI : Nat → Nat → Nat) (cA : ClassId) (A : Nat → Nat) (M : jM) (F : jF) (B : Nat → Nat) (sz : Nat) {r : Int32} {M' : jM} {F' : jF} (h : fJh_run M F = some (0, r, M', F')) : jCi l yJh_run wJh_run rJh_run (dC, dI) jCl [(cA, .int)] [.ref (A 0)] (jW cA A B M F) sz r (fun B => jW cA A B (M') (F')) :=
  jOf (Qc := fun Ap => va_Qi (fun q (_ : Nat → Nat) => q = r) (jPost (dC, dI) jCl [(cA, .int)] (fun B => jW cA A B (M') (F')) Ap) Ap) (by decide) rfl (Nat.le_of_ble_eq_true rfl) (fun p e s m below meth c Ap ls hC hA hJ hl => uJh_run_0 l dC dI cA A Ap hC hA _ _ _ _ _ _ hJ (lv_sub hl [0] rfl) h)
set_option maxHeartbeats 4000000 in
set_option maxRecDepth 100000 in
theorem uxJh_run_0 {p : Program} {e : Env} {s : State} {m : MethodId} {args : Array Value} {below : List Frame} {meth : Method} {c : Code} (l : Launch) (dC : Nat → ClassId) (dI : Nat → Nat → Nat) (cA : ClassId) (A : Nat → Nat) (Ap : Nat → Prop) (hX : jAtX l Ap s c) (hC : jAt p s m args meth c bJh_run 1 (some .int) wJh_run RJh) (hA : ∀ q : Nat, s.heap.size ≤ q → Ap q) {k : Nat} (hk : ¬ k = 0) {r : Int32} {M' : jM} {F' : jF} : ∀ (M : jM) (F : jF) (B : Nat → Nat) (H : Heap) (locs : List Loc) (ls : Array Slot), jH (dC, dI) jCl [(cA, .int)] (jW cA A B M F) Ap s H locs → lv_has ls 1 [(0, .ref (A 0))] → fJh_run_0 M F = some (k, r, M', F') → W p l e (headSpec wJh_run rxJh_run).room s m args below meth c H locs 0 0 (jQx below (dC, dI) jCl [(cA, .int)] (fun B => jW cA A B (M') (F')) Ap args s k) (F0 m 0 ls []) := by
  obtain ⟨hx, hb, hml, hr, hts, hown, hlocks, hN⟩ := id hC
  have hj : ∀ w ∈ jw, w.before args s = true := fun w h => hts w (List.mem_cons_of_mem _ h)
  intro  M F B H locs ls hJ hl h
  unfold fJh_run_0 at h
  refine lv_aload_n hx hb dJh_run_0 rfl (lv_at hl 0 rfl) ?_
  refine va_get (D := (dC, dI)) (ci := 0) (v := .ref (A 1)) (C := RJh) (T := TJh) (N := 4) hx hb hj iJh hown hJ.1 hJ.2.1 0 rfl rfl 0 (by decide) (hj _ jw_180) (fun _ h9 => h9) rfl dJh_run_1 ?_
  obtain ⟨q1, hq1, h⟩ := jbi_h h
  refine jcalli (w' := fun B => jW cA A B q1.2.1 q1.2.2) (va_runV (As := []) (rest := []) ⟨hx, hb, hml, hown, hts⟩ (cRu_go l dC dI cA A M F B H.size hq1) (cwV 0 hts (jgoodV jw_509 jw_510 jw_511 jw_2 jw_512) rfl rfl rfl (by decide +kernel) ⟨Nat.le_of_ble_eq_true rfl, Nat.le_of_ble_eq_true rfl⟩) (jpreV hN hJ (ci := 1) (q0 := 1) rfl rfl) rfl rfl hl.1 rfl (lv_room (Nat.le_of_ble_eq_true rfl)) dJh_run_4 ⟨Nat.zero_le _, Nat.zero_le _⟩) hA hJ (fun B2 H locs hJ => ?_)
  refine lv_if_ne (tgt := 20) hx hb dJh_run_7 (by decide) (fun c3 => ?_) (fun c3 => ?_)
  · replace h := jif_f c3 h
    refine lv_aload_n hx hb dJh_run_20 rfl (lv_at hl 0 rfl) ?_
    refine va_get (D := (dC, dI)) (ci := 0) (v := .ref (A 1)) (C := RJh) (T := TJh) (N := 4) hx hb hj iJh hown hJ.1 hJ.2.1 0 rfl rfl 0 (by decide) (hj _ jw_180) (fun _ h9 => h9) rfl dJh_run_21 ?_
    refine va_getN (D := (dC, dI)) (ci := 1) (v := .int (q1.2.2 6)) (C := RRu) (T := TRu) (N := 11) hx hb hj iRu hown hJ.1 hJ.2.1 1 rfl rfl 8 (by decide) (jnw_use hN jnw_19) (fun _ h9 => h9) rfl dJh_run_24 ?_
    exact (jk_no3 hk h.symm).elim
  · replace h := jif_t c3 h
    cases h
    exact jthrow_2 (text := "more than 3000 choices at a generator") (u := B2) hx hb hml hown hj hX hlocks hl.1 hJ (by decide) dJh_run_10 dJh_run_13 dJh_run_14 dJh_run_16 dJh_run_19 (Nat.le_of_ble_eq_true rfl) (Nat.le_of_ble_eq_true rfl) (Nat.le_of_ble_eq_true rfl) (Nat.le_of_ble_eq_true rfl)
set_option maxHeartbeats 4000000 in
set_option maxRecDepth 100000 in
theorem cxJh_run (l : Launch) (dC : Nat → ClassId) (dI : Nat → Nat → Nat) (cA : ClassId) (A : Nat → Nat) (hl0 : l.stackTraces = false) (M : jM) (F : jF) (B : Nat → Nat) (sz : Nat) {k : Nat} (hk : ¬ k = 0) {r : Int32} {M' : jM} {F' : jF} (h : fJh_run M F = some (k, r, M', F')) : jCx l yJh_run wJh_run rxJh_run (dC, dI) jCl [(cA, .int)] [.ref (A 0)] (jW cA A B M F) sz k (fun B => jW cA A B (M') (F')) :=
  jOfX hl0 (by decide) rfl (Nat.le_of_ble_eq_true rfl) (fun p e s m below meth c Ap ls hC hX hA hJ hl => uxJh_run_0 l dC dI cA A Ap hX hC hA hk _ _ _ _ _ _ hJ (lv_sub hl [0] rfl) h)
abbrev bJh_looks : ByteArray := prog_1_method_13_code
abbrev yJh_looks : MethodName := ⟨RJh, "looks", "()I"⟩
abbrev wJh_looks : List Cond := .code yJh_looks bJh_looks 1 (some .int) :: jw
theorem dJh_looks_0 : decode bJh_looks 0 = .ok (.aload_n 0, 1) := by decide +kernel
theorem dJh_looks_1 : decode bJh_looks 1 = .ok (.getfield 12, 3) := by decide +kernel
theorem dJh_looks_4 : decode bJh_looks 4 = .ok (.getfield 113, 3) := by decide +kernel
theorem dJh_looks_7 : decode bJh_looks 7 = .ok (.ireturn, 1) := by decide +kernel
abbrev rJh_looks : Room := { frames := 0, cells := 0, slots := 0, locals := 0 }
def fJh_looks_0 (M : jM) (F : jF) : Option Int32 := some (F 8)
abbrev fJh_looks (M : jM) (F : jF) : Option Int32 := fJh_looks_0  M F
set_option maxHeartbeats 4000000 in
set_option maxRecDepth 100000 in
theorem uJh_looks_0 {p : Program} {e : Env} {s : State} {m : MethodId} {args : Array Value} {below : List Frame} {meth : Method} {c : Code} (l : Launch) (dC : Nat → ClassId) (dI : Nat → Nat → Nat) (cA : ClassId) (A : Nat → Nat) (Ap : Nat → Prop) (hC : jAt p s m args meth c bJh_looks 1 (some .int) wJh_looks RJh) (hA : ∀ q : Nat, s.heap.size ≤ q → Ap q) {r : Int32} : ∀ (M : jM) (F : jF) (B : Nat → Nat) (H : Heap) (locs : List Loc) (ls : Array Slot), jH (dC, dI) jCl [(cA, .int)] (jW cA A B M F) Ap s H locs → lv_has ls 1 [(0, .ref (A 0))] → fJh_looks_0 M F = some r → W p l e (headSpec wJh_looks rJh_looks).room s m args below meth c H locs 0 0 (jQi below (dC, dI) jCl [(cA, .int)] (fun B => jW cA A B M F) Ap args s r) (F0 m 0 ls []) := by
  obtain ⟨hx, hb, hml, hr, hts, hown, hlocks, hN⟩ := id hC
  have hj : ∀ w ∈ jw, w.before args s = true := fun w h => hts w (List.mem_cons_of_mem _ h)
  intro  M F B H locs ls hJ hl h
  unfold fJh_looks_0 at h
  refine lv_aload_n hx hb dJh_looks_0 rfl (lv_at hl 0 rfl) ?_
  refine va_get (D := (dC, dI)) (ci := 0) (v := .ref (A 1)) (C := RJh) (T := TJh) (N := 4) hx hb hj iJh hown hJ.1 hJ.2.1 0 rfl rfl 0 (by decide) (hj _ jw_180) (fun _ h9 => h9) rfl dJh_looks_1 ?_
  refine va_getN (D := (dC, dI)) (ci := 1) (v := .int (F 8)) (C := RRu) (T := TRu) (N := 11) hx hb hj iRu hown hJ.1 hJ.2.1 1 rfl rfl 10 (by decide) (jnw_use hN jnw_21) (fun _ h9 => h9) rfl dJh_looks_4 ?_
  exact jreti (u := B) hx hb hr rfl hlocks hJ dJh_looks_7 (Option.some.inj h)
set_option maxHeartbeats 4000000 in
set_option maxRecDepth 100000 in
theorem cJh_looks (l : Launch) (dC : Nat → ClassId) (dI : Nat → Nat → Nat) (cA : ClassId) (A : Nat → Nat) (M : jM) (F : jF) (B : Nat → Nat) (sz : Nat) {r : Int32} (h : fJh_looks M F = some r) : jCi l yJh_looks wJh_looks rJh_looks (dC, dI) jCl [(cA, .int)] [.ref (A 0)] (jW cA A B M F) sz r (fun B => jW cA A B M F) :=
  jOf (Qc := fun Ap => va_Qi (fun q (_ : Nat → Nat) => q = r) (jPost (dC, dI) jCl [(cA, .int)] (fun B => jW cA A B M F) Ap) Ap) (by decide) rfl (Nat.le_of_ble_eq_true rfl) (fun p e s m below meth c Ap ls hC hA hJ hl => uJh_looks_0 l dC dI cA A Ap hC hA _ _ _ _ _ _ hJ (lv_sub hl [0] rfl) h)
abbrev bJh_way : ByteArray := prog_1_method_14_code
abbrev yJh_way : MethodName := ⟨RJh, "way", "(II)I"⟩
abbrev wJh_way : List Cond := .code yJh_way bJh_way 3 (some .int) :: jw
theorem dJh_way_0 : decode bJh_way 0 = .ok (.iload_n 1, 1) := by decide +kernel
theorem dJh_way_1 : decode bJh_way 1 = .ok (.ifCond .lt 14, 3) := by decide +kernel
theorem dJh_way_4 : decode bJh_way 4 = .ok (.iload_n 1, 1) := by decide +kernel
theorem dJh_way_5 : decode bJh_way 5 = .ok (.aload_n 0, 1) := by decide +kernel
theorem dJh_way_6 : decode bJh_way 6 = .ok (.getfield 12, 3) := by decide +kernel
theorem dJh_way_9 : decode bJh_way 9 = .ok (.getfield 110, 3) := by decide +kernel
theorem dJh_way_12 : decode bJh_way 12 = .ok (.if_icmp .lt 13, 3) := by decide +kernel
theorem dJh_way_15 : decode bJh_way 15 = .ok (.new 116, 3) := by decide +kernel
theorem dJh_way_18 : decode bJh_way 18 = .ok (.dup, 1) := by decide +kernel
theorem dJh_way_19 : decode bJh_way 19 = .ok (.ldc 118, 2) := by decide +kernel
theorem dJh_way_21 : decode bJh_way 21 = .ok (.invokespecial 120, 3) := by decide +kernel
theorem dJh_way_24 : decode bJh_way 24 = .ok (.athrow, 1) := by decide +kernel
theorem dJh_way_25 : decode bJh_way 25 = .ok (.iload_n 2, 1) := by decide +kernel
theorem dJh_way_26 : decode bJh_way 26 = .ok (.ifCond .lt 14, 3) := by decide +kernel
theorem dJh_way_29 : decode bJh_way 29 = .ok (.iload_n 2, 1) := by decide +kernel
theorem dJh_way_30 : decode bJh_way 30 = .ok (.aload_n 0, 1) := by decide +kernel
theorem dJh_way_31 : decode bJh_way 31 = .ok (.getfield 12, 3) := by decide +kernel
theorem dJh_way_34 : decode bJh_way 34 = .ok (.getfield 121, 3) := by decide +kernel
theorem dJh_way_37 : decode bJh_way 37 = .ok (.if_icmp .lt 13, 3) := by decide +kernel
theorem dJh_way_40 : decode bJh_way 40 = .ok (.new 116, 3) := by decide +kernel
theorem dJh_way_43 : decode bJh_way 43 = .ok (.dup, 1) := by decide +kernel
theorem dJh_way_44 : decode bJh_way 44 = .ok (.ldc 124, 2) := by decide +kernel
theorem dJh_way_46 : decode bJh_way 46 = .ok (.invokespecial 120, 3) := by decide +kernel
theorem dJh_way_49 : decode bJh_way 49 = .ok (.athrow, 1) := by decide +kernel
theorem dJh_way_50 : decode bJh_way 50 = .ok (.aload_n 0, 1) := by decide +kernel
theorem dJh_way_51 : decode bJh_way 51 = .ok (.getfield 12, 3) := by decide +kernel
theorem dJh_way_54 : decode bJh_way 54 = .ok (.getfield 126, 3) := by decide +kernel
theorem dJh_way_57 : decode bJh_way 57 = .ok (.iload_n 1, 1) := by decide +kernel
theorem dJh_way_58 : decode bJh_way 58 = .ok (.iaload, 1) := by decide +kernel
theorem dJh_way_59 : decode bJh_way 59 = .ok (.iload_n 2, 1) := by decide +kernel
theorem dJh_way_60 : decode bJh_way 60 = .ok (.invokestatic 129, 3) := by decide +kernel
theorem dJh_way_63 : decode bJh_way 63 = .ok (.ireturn, 1) := by decide +kernel
abbrev rJh_way : Room := { frames := 1, cells := 0, slots := 0, locals := 21 }
abbrev rxJh_way : Room := { frames := 6, cells := 1, slots := 6, locals := 90 }
def fJh_way_15 (M : jM) (F : jF) : Option (Nat × Int32 × jM × jF) := some (3, 0, M, F)
def fJh_way_40 (M : jM) (F : jF) : Option (Nat × Int32 × jM × jF) := some (3, 0, M, F)
def fJh_way_0 (x1 : Int32) (x2 : Int32) (M : jM) (F : jF) : Option (Nat × Int32 × jM × jF) := (if x1 < 0 then fJh_way_15  M F else (if x1 < (F 6) then (if x2 < 0 then fJh_way_40  M F else (if x2 < (F 7) then (if jib x1 3000 then ((fJh_rowIn (M 26 x1.toNatClampNeg) x2 M F).bind fun q6 => some (0, q6, M, F)) else none) else fJh_way_40  M F)) else fJh_way_15  M F))
abbrev fJh_way (x1 : Int32) (x2 : Int32) (M : jM) (F : jF) : Option (Nat × Int32 × jM × jF) := fJh_way_0 x1 x2 M F
set_option maxHeartbeats 4000000 in
set_option maxRecDepth 100000 in
theorem uJh_way_15 {p : Program} {e : Env} {s : State} {m : MethodId} {args : Array Value} {below : List Frame} {meth : Method} {c : Code} (l : Launch) (dC : Nat → ClassId) (dI : Nat → Nat → Nat) (cA : ClassId) (A : Nat → Nat) (Ap : Nat → Prop) (hC : jAt p s m args meth c bJh_way 3 (some .int) wJh_way RJh) (hA : ∀ q : Nat, s.heap.size ≤ q → Ap q) {r : Int32} {M' : jM} {F' : jF} : ∀ (M : jM) (F : jF) (B : Nat → Nat) (H : Heap) (locs : List Loc) (ls : Array Slot), jH (dC, dI) jCl [(cA, .int)] (jW cA A B M F) Ap s H locs → lv_has ls 3 [] → fJh_way_15 M F = some (0, r, M', F') → W p l e (headSpec wJh_way rJh_way).room s m args below meth c H locs 0 0 (jQi below (dC, dI) jCl [(cA, .int)] (fun B => jW cA A B (M') (F')) Ap args s r) (F0 m 15 ls []) := by
  obtain ⟨hx, hb, hml, hr, hts, hown, hlocks, hN⟩ := id hC
  have hj : ∀ w ∈ jw, w.before args s = true := fun w h => hts w (List.mem_cons_of_mem _ h)
  intro  M F B H locs ls hJ hl h
  unfold fJh_way_15 at h
  exact (jk_no h).elim
set_option maxHeartbeats 4000000 in
set_option maxRecDepth 100000 in
theorem uJh_way_40 {p : Program} {e : Env} {s : State} {m : MethodId} {args : Array Value} {below : List Frame} {meth : Method} {c : Code} (l : Launch) (dC : Nat → ClassId) (dI : Nat → Nat → Nat) (cA : ClassId) (A : Nat → Nat) (Ap : Nat → Prop) (hC : jAt p s m args meth c bJh_way 3 (some .int) wJh_way RJh) (hA : ∀ q : Nat, s.heap.size ≤ q → Ap q) {r : Int32} {M' : jM} {F' : jF} : ∀ (M : jM) (F : jF) (B : Nat → Nat) (H : Heap) (locs : List Loc) (ls : Array Slot), jH (dC, dI) jCl [(cA, .int)] (jW cA A B M F) Ap s H locs → lv_has ls 3 [] → fJh_way_40 M F = some (0, r, M', F') → W p l e (headSpec wJh_way rJh_way).room s m args below meth c H locs 0 0 (jQi below (dC, dI) jCl [(cA, .int)] (fun B => jW cA A B (M') (F')) Ap args s r) (F0 m 40 ls []) := by
  obtain ⟨hx, hb, hml, hr, hts, hown, hlocks, hN⟩ := id hC
  have hj : ∀ w ∈ jw, w.before args s = true := fun w h => hts w (List.mem_cons_of_mem _ h)
  intro  M F B H locs ls hJ hl h
  unfold fJh_way_40 at h
  exact (jk_no h).elim
set_option maxHeartbeats 4000000 in
set_option maxRecDepth 100000 in
theorem uJh_way_0 {p : Program} {e : Env} {s : State} {m : MethodId} {args : Array Value} {below : List Frame} {meth : Method} {c : Code} (l : Launch) (dC : Nat → ClassId) (dI : Nat → Nat → Nat) (cA : ClassId) (A : Nat → Nat) (Ap : Nat → Prop) (hC : jAt p s m args meth c bJh_way 3 (some .int) wJh_way RJh) (hA : ∀ q : Nat, s.heap.size ≤ q → Ap q) {r : Int32} {M' : jM} {F' : jF} : ∀ (x1 x2 : Int32) (M : jM) (F : jF) (B : Nat → Nat) (H : Heap) (locs : List Loc) (ls : Array Slot), jH (dC, dI) jCl [(cA, .int)] (jW cA A B M F) Ap s H locs → lv_has ls 3 [(0, .ref (A 0)), (1, .int x1), (2, .int x2)] → fJh_way_0 x1 x2 M F = some (0, r, M', F') → W p l e (headSpec wJh_way rJh_way).room s m args below meth c H locs 0 0 (jQi below (dC, dI) jCl [(cA, .int)] (fun B => jW cA A B (M') (F')) Ap args s r) (F0 m 0 ls []) := by
  obtain ⟨hx, hb, hml, hr, hts, hown, hlocks, hN⟩ := id hC
  have hj : ∀ w ∈ jw, w.before args s = true := fun w h => hts w (List.mem_cons_of_mem _ h)
  intro x1 x2 M F B H locs ls hJ hl h
  unfold fJh_way_0 at h
  refine lv_iload_n hx hb dJh_way_0 rfl (lv_at hl 1 rfl) ?_
  refine lv_if_lt (tgt := 15) hx hb dJh_way_1 (by decide) (fun c1 => ?_) (fun c1 => ?_)
  · replace h := jif_t c1 h
    exact uJh_way_15 l dC dI cA A Ap hC hA _ _ _ _ _ _ hJ (lv_sub hl [] rfl) h
  · replace h := jif_f c1 h
    refine lv_iload_n hx hb dJh_way_4 rfl (lv_at hl 1 rfl) ?_
    refine lv_aload_n hx hb dJh_way_5 rfl (lv_at hl 0 rfl) ?_
    refine va_get (D := (dC, dI)) (ci := 0) (v := .ref (A 1)) (C := RJh) (T := TJh) (N := 4) hx hb hj iJh hown hJ.1 hJ.2.1 0 rfl rfl 0 (by decide) (hj _ jw_180) (fun _ h9 => h9) rfl dJh_way_6 ?_
    refine va_getN (D := (dC, dI)) (ci := 1) (v := .int (F 6)) (C := RRu) (T := TRu) (N := 11) hx hb hj iRu hown hJ.1 hJ.2.1 1 rfl rfl 8 (by decide) (jnw_use hN jnw_19) (fun _ h9 => h9) rfl dJh_way_9 ?_
    refine lv_icmp_lt (tgt := 25) hx hb dJh_way_12 (by decide) (fun c2 => ?_) (fun c2 => ?_)
    · replace h := jif_t c2 h
      refine lv_iload_n hx hb dJh_way_25 rfl (lv_at hl 2 rfl) ?_
      refine lv_if_lt (tgt := 40) hx hb dJh_way_26 (by decide) (fun c3 => ?_) (fun c3 => ?_)
      · replace h := jif_t c3 h
        exact uJh_way_40 l dC dI cA A Ap hC hA _ _ _ _ _ _ hJ (lv_sub hl [] rfl) h
      · replace h := jif_f c3 h
        refine lv_iload_n hx hb dJh_way_29 rfl (lv_at hl 2 rfl) ?_
        refine lv_aload_n hx hb dJh_way_30 rfl (lv_at hl 0 rfl) ?_
        refine va_get (D := (dC, dI)) (ci := 0) (v := .ref (A 1)) (C := RJh) (T := TJh) (N := 4) hx hb hj iJh hown hJ.1 hJ.2.1 0 rfl rfl 0 (by decide) (hj _ jw_180) (fun _ h9 => h9) rfl dJh_way_31 ?_
        refine va_getN (D := (dC, dI)) (ci := 1) (v := .int (F 7)) (C := RRu) (T := TRu) (N := 11) hx hb hj iRu hown hJ.1 hJ.2.1 1 rfl rfl 9 (by decide) (jnw_use hN jnw_20) (fun _ h9 => h9) rfl dJh_way_34 ?_
        refine lv_icmp_lt (tgt := 50) hx hb dJh_way_37 (by decide) (fun c4 => ?_) (fun c4 => ?_)
        · replace h := jif_t c4 h
          refine lv_aload_n hx hb dJh_way_50 rfl (lv_at hl 0 rfl) ?_
          refine va_get (D := (dC, dI)) (ci := 0) (v := .ref (A 1)) (C := RJh) (T := TJh) (N := 4) hx hb hj iJh hown hJ.1 hJ.2.1 0 rfl rfl 0 (by decide) (hj _ jw_180) (fun _ h9 => h9) rfl dJh_way_51 ?_
          refine va_getN (D := (dC, dI)) (ci := 1) (v := .ref (B 2)) (C := RRu) (T := TRu) (N := 11) hx hb hj iRu hown hJ.1 hJ.2.1 1 rfl rfl 7 (by decide) (jnw_use hN jnw_18) (fun _ h9 => h9) rfl dJh_way_54 ?_
          refine lv_iload_n hx hb dJh_way_57 rfl (lv_at hl 1 rfl) ?_
          obtain ⟨hi5, h⟩ := jib_h h
          refine jald_26 hx hb hJ hi5 dJh_way_58 ?_
          refine lv_iload_n hx hb dJh_way_59 rfl (lv_at hl 2 rfl) ?_
          obtain ⟨q6, hq6, h⟩ := jbi_h h
          refine jcalli (w' := fun B => jW cA A B M F) (va_runS (As := [.int (M 26 x1.toNatClampNeg), .int x2]) (rest := []) ⟨hx, hb, hml, hown, hts⟩ (cJh_rowIn l dC dI cA A (M 26 x1.toNatClampNeg) x2 M F B H.size hq6) (va_cwS 2 hts (jgoodS jw_592 jw_549 jw_1 jw_550) rfl rfl rfl (by decide +kernel) ⟨Nat.le_of_ble_eq_true rfl, Nat.le_of_ble_eq_true rfl⟩) (jpreS hN hJ) rfl rfl hl.1 rfl (lv_room (Nat.le_of_ble_eq_true rfl)) dJh_way_60 ⟨Nat.zero_le _, Nat.zero_le _⟩) hA hJ (fun B H locs hJ => ?_)
          cases h
          exact jreti (u := B) hx hb hr rfl hlocks hJ dJh_way_63 rfl
        · replace h := jif_f c4 h
          exact uJh_way_40 l dC dI cA A Ap hC hA _ _ _ _ _ _ hJ (lv_sub hl [] rfl) h
    · replace h := jif_f c2 h
      exact uJh_way_15 l dC dI cA A Ap hC hA _ _ _ _ _ _ hJ (lv_sub hl [] rfl) h
set_option maxHeartbeats 4000000 in
set_option maxRecDepth 100000 in
theorem cJh_way (l : Launch) (dC : Nat → ClassId) (dI : Nat → Nat → Nat) (cA : ClassId) (A : Nat → Nat) (x1 : Int32) (x2 : Int32) (M : jM) (F : jF) (B : Nat → Nat) (sz : Nat) {r : Int32} {M' : jM} {F' : jF} (h : fJh_way x1 x2 M F = some (0, r, M', F')) : jCi l yJh_way wJh_way rJh_way (dC, dI) jCl [(cA, .int)] [.ref (A 0), .int x1, .int x2] (jW cA A B M F) sz r (fun B => jW cA A B (M') (F')) :=
  jOf (Qc := fun Ap => va_Qi (fun q (_ : Nat → Nat) => q = r) (jPost (dC, dI) jCl [(cA, .int)] (fun B => jW cA A B (M') (F')) Ap) Ap) (by decide) rfl (Nat.le_of_ble_eq_true rfl) (fun p e s m below meth c Ap ls hC hA hJ hl => uJh_way_0 l dC dI cA A Ap hC hA _ _ _ _ _ _ _ _ hJ (lv_sub hl [0, 1, 2] rfl) h)
set_option maxHeartbeats 4000000 in
set_option maxRecDepth 100000 in
theorem uxJh_way_15 {p : Program} {e : Env} {s : State} {m : MethodId} {args : Array Value} {below : List Frame} {meth : Method} {c : Code} (l : Launch) (dC : Nat → ClassId) (dI : Nat → Nat → Nat) (cA : ClassId) (A : Nat → Nat) (Ap : Nat → Prop) (hX : jAtX l Ap s c) (hC : jAt p s m args meth c bJh_way 3 (some .int) wJh_way RJh) (hA : ∀ q : Nat, s.heap.size ≤ q → Ap q) {k : Nat} (hk : ¬ k = 0) {r : Int32} {M' : jM} {F' : jF} : ∀ (M : jM) (F : jF) (B : Nat → Nat) (H : Heap) (locs : List Loc) (ls : Array Slot), jH (dC, dI) jCl [(cA, .int)] (jW cA A B M F) Ap s H locs → lv_has ls 3 [] → fJh_way_15 M F = some (k, r, M', F') → W p l e (headSpec wJh_way rxJh_way).room s m args below meth c H locs 0 0 (jQx below (dC, dI) jCl [(cA, .int)] (fun B => jW cA A B (M') (F')) Ap args s k) (F0 m 15 ls []) := by
  obtain ⟨hx, hb, hml, hr, hts, hown, hlocks, hN⟩ := id hC
  have hj : ∀ w ∈ jw, w.before args s = true := fun w h => hts w (List.mem_cons_of_mem _ h)
  intro  M F B H locs ls hJ hl h
  unfold fJh_way_15 at h
  cases h
  exact jthrow_3 (text := "no such way") (u := B) hx hb hml hown hj hX hlocks hl.1 hJ (by decide) dJh_way_15 dJh_way_18 dJh_way_19 dJh_way_21 dJh_way_24 (Nat.le_of_ble_eq_true rfl) (Nat.le_of_ble_eq_true rfl) (Nat.le_of_ble_eq_true rfl) (Nat.le_of_ble_eq_true rfl)
set_option maxHeartbeats 4000000 in
set_option maxRecDepth 100000 in
theorem uxJh_way_40 {p : Program} {e : Env} {s : State} {m : MethodId} {args : Array Value} {below : List Frame} {meth : Method} {c : Code} (l : Launch) (dC : Nat → ClassId) (dI : Nat → Nat → Nat) (cA : ClassId) (A : Nat → Nat) (Ap : Nat → Prop) (hX : jAtX l Ap s c) (hC : jAt p s m args meth c bJh_way 3 (some .int) wJh_way RJh) (hA : ∀ q : Nat, s.heap.size ≤ q → Ap q) {k : Nat} (hk : ¬ k = 0) {r : Int32} {M' : jM} {F' : jF} : ∀ (M : jM) (F : jF) (B : Nat → Nat) (H : Heap) (locs : List Loc) (ls : Array Slot), jH (dC, dI) jCl [(cA, .int)] (jW cA A B M F) Ap s H locs → lv_has ls 3 [] → fJh_way_40 M F = some (k, r, M', F') → W p l e (headSpec wJh_way rxJh_way).room s m args below meth c H locs 0 0 (jQx below (dC, dI) jCl [(cA, .int)] (fun B => jW cA A B (M') (F')) Ap args s k) (F0 m 40 ls []) := by
  obtain ⟨hx, hb, hml, hr, hts, hown, hlocks, hN⟩ := id hC
  have hj : ∀ w ∈ jw, w.before args s = true := fun w h => hts w (List.mem_cons_of_mem _ h)
  intro  M F B H locs ls hJ hl h
  unfold fJh_way_40 at h
  cases h
  exact jthrow_3 (text := "the run had no such generator") (u := B) hx hb hml hown hj hX hlocks hl.1 hJ (by decide) dJh_way_40 dJh_way_43 dJh_way_44 dJh_way_46 dJh_way_49 (Nat.le_of_ble_eq_true rfl) (Nat.le_of_ble_eq_true rfl) (Nat.le_of_ble_eq_true rfl) (Nat.le_of_ble_eq_true rfl)
set_option maxHeartbeats 4000000 in
set_option maxRecDepth 100000 in
theorem uxJh_way_0 {p : Program} {e : Env} {s : State} {m : MethodId} {args : Array Value} {below : List Frame} {meth : Method} {c : Code} (l : Launch) (dC : Nat → ClassId) (dI : Nat → Nat → Nat) (cA : ClassId) (A : Nat → Nat) (Ap : Nat → Prop) (hX : jAtX l Ap s c) (hC : jAt p s m args meth c bJh_way 3 (some .int) wJh_way RJh) (hA : ∀ q : Nat, s.heap.size ≤ q → Ap q) {k : Nat} (hk : ¬ k = 0) {r : Int32} {M' : jM} {F' : jF} : ∀ (x1 x2 : Int32) (M : jM) (F : jF) (B : Nat → Nat) (H : Heap) (locs : List Loc) (ls : Array Slot), jH (dC, dI) jCl [(cA, .int)] (jW cA A B M F) Ap s H locs → lv_has ls 3 [(0, .ref (A 0)), (1, .int x1), (2, .int x2)] → fJh_way_0 x1 x2 M F = some (k, r, M', F') → W p l e (headSpec wJh_way rxJh_way).room s m args below meth c H locs 0 0 (jQx below (dC, dI) jCl [(cA, .int)] (fun B => jW cA A B (M') (F')) Ap args s k) (F0 m 0 ls []) := by
  obtain ⟨hx, hb, hml, hr, hts, hown, hlocks, hN⟩ := id hC
  have hj : ∀ w ∈ jw, w.before args s = true := fun w h => hts w (List.mem_cons_of_mem _ h)
  intro x1 x2 M F B H locs ls hJ hl h
  unfold fJh_way_0 at h
  refine lv_iload_n hx hb dJh_way_0 rfl (lv_at hl 1 rfl) ?_
  refine lv_if_lt (tgt := 15) hx hb dJh_way_1 (by decide) (fun c1 => ?_) (fun c1 => ?_)
  · replace h := jif_t c1 h
    exact uxJh_way_15 l dC dI cA A Ap hX hC hA hk _ _ _ _ _ _ hJ (lv_sub hl [] rfl) h
  · replace h := jif_f c1 h
    refine lv_iload_n hx hb dJh_way_4 rfl (lv_at hl 1 rfl) ?_
    refine lv_aload_n hx hb dJh_way_5 rfl (lv_at hl 0 rfl) ?_
    refine va_get (D := (dC, dI)) (ci := 0) (v := .ref (A 1)) (C := RJh) (T := TJh) (N := 4) hx hb hj iJh hown hJ.1 hJ.2.1 0 rfl rfl 0 (by decide) (hj _ jw_180) (fun _ h9 => h9) rfl dJh_way_6 ?_
    refine va_getN (D := (dC, dI)) (ci := 1) (v := .int (F 6)) (C := RRu) (T := TRu) (N := 11) hx hb hj iRu hown hJ.1 hJ.2.1 1 rfl rfl 8 (by decide) (jnw_use hN jnw_19) (fun _ h9 => h9) rfl dJh_way_9 ?_
    refine lv_icmp_lt (tgt := 25) hx hb dJh_way_12 (by decide) (fun c2 => ?_) (fun c2 => ?_)
    · replace h := jif_t c2 h
      refine lv_iload_n hx hb dJh_way_25 rfl (lv_at hl 2 rfl) ?_
      refine lv_if_lt (tgt := 40) hx hb dJh_way_26 (by decide) (fun c3 => ?_) (fun c3 => ?_)
      · replace h := jif_t c3 h
        exact uxJh_way_40 l dC dI cA A Ap hX hC hA hk _ _ _ _ _ _ hJ (lv_sub hl [] rfl) h
      · replace h := jif_f c3 h
        refine lv_iload_n hx hb dJh_way_29 rfl (lv_at hl 2 rfl) ?_
        refine lv_aload_n hx hb dJh_way_30 rfl (lv_at hl 0 rfl) ?_
        refine va_get (D := (dC, dI)) (ci := 0) (v := .ref (A 1)) (C := RJh) (T := TJh) (N := 4) hx hb hj iJh hown hJ.1 hJ.2.1 0 rfl rfl 0 (by decide) (hj _ jw_180) (fun _ h9 => h9) rfl dJh_way_31 ?_
        refine va_getN (D := (dC, dI)) (ci := 1) (v := .int (F 7)) (C := RRu) (T := TRu) (N := 11) hx hb hj iRu hown hJ.1 hJ.2.1 1 rfl rfl 9 (by decide) (jnw_use hN jnw_20) (fun _ h9 => h9) rfl dJh_way_34 ?_
        refine lv_icmp_lt (tgt := 50) hx hb dJh_way_37 (by decide) (fun c4 => ?_) (fun c4 => ?_)
        · replace h := jif_t c4 h
          refine lv_aload_n hx hb dJh_way_50 rfl (lv_at hl 0 rfl) ?_
          refine va_get (D := (dC, dI)) (ci := 0) (v := .ref (A 1)) (C := RJh) (T := TJh) (N := 4) hx hb hj iJh hown hJ.1 hJ.2.1 0 rfl rfl 0 (by decide) (hj _ jw_180) (fun _ h9 => h9) rfl dJh_way_51 ?_
          refine va_getN (D := (dC, dI)) (ci := 1) (v := .ref (B 2)) (C := RRu) (T := TRu) (N := 11) hx hb hj iRu hown hJ.1 hJ.2.1 1 rfl rfl 7 (by decide) (jnw_use hN jnw_18) (fun _ h9 => h9) rfl dJh_way_54 ?_
          refine lv_iload_n hx hb dJh_way_57 rfl (lv_at hl 1 rfl) ?_
          obtain ⟨hi5, h⟩ := jib_h h
          refine jald_26 hx hb hJ hi5 dJh_way_58 ?_
          refine lv_iload_n hx hb dJh_way_59 rfl (lv_at hl 2 rfl) ?_
          obtain ⟨q6, hq6, h⟩ := jbi_h h
          refine jcalli (w' := fun B => jW cA A B M F) (va_runS (As := [.int (M 26 x1.toNatClampNeg), .int x2]) (rest := []) ⟨hx, hb, hml, hown, hts⟩ (cJh_rowIn l dC dI cA A (M 26 x1.toNatClampNeg) x2 M F B H.size hq6) (va_cwS 2 hts (jgoodS jw_592 jw_549 jw_1 jw_550) rfl rfl rfl (by decide +kernel) ⟨Nat.le_of_ble_eq_true rfl, Nat.le_of_ble_eq_true rfl⟩) (jpreS hN hJ) rfl rfl hl.1 rfl (lv_room (Nat.le_of_ble_eq_true rfl)) dJh_way_60 ⟨Nat.zero_le _, Nat.zero_le _⟩) hA hJ (fun B H locs hJ => ?_)
          exact (jk_no3 hk h.symm).elim
        · replace h := jif_f c4 h
          exact uxJh_way_40 l dC dI cA A Ap hX hC hA hk _ _ _ _ _ _ hJ (lv_sub hl [] rfl) h
    · replace h := jif_f c2 h
      exact uxJh_way_15 l dC dI cA A Ap hX hC hA hk _ _ _ _ _ _ hJ (lv_sub hl [] rfl) h
set_option maxHeartbeats 4000000 in
set_option maxRecDepth 100000 in
theorem cxJh_way (l : Launch) (dC : Nat → ClassId) (dI : Nat → Nat → Nat) (cA : ClassId) (A : Nat → Nat) (hl0 : l.stackTraces = false) (x1 : Int32) (x2 : Int32) (M : jM) (F : jF) (B : Nat → Nat) (sz : Nat) {k : Nat} (hk : ¬ k = 0) {r : Int32} {M' : jM} {F' : jF} (h : fJh_way x1 x2 M F = some (k, r, M', F')) : jCx l yJh_way wJh_way rxJh_way (dC, dI) jCl [(cA, .int)] [.ref (A 0), .int x1, .int x2] (jW cA A B M F) sz k (fun B => jW cA A B (M') (F')) :=
  jOfX hl0 (by decide) rfl (Nat.le_of_ble_eq_true rfl) (fun p e s m below meth c Ap ls hC hX hA hJ hl => uxJh_way_0 l dC dI cA A Ap hX hC hA hk _ _ _ _ _ _ _ _ hJ (lv_sub hl [0, 1, 2] rfl) h)
end
