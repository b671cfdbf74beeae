/-! words: one list for all methods -/
def jw : List Cond := lw_tbl.filter goodWord
theorem jw_at {i : Nat} {w : Cond} (h : lw_tbl[i]? = some w) (g : goodWord w = true) : w ∈ jw := List.mem_filter.mpr ⟨List.mem_of_getElem? h, g⟩
theorem jw_ok {w : Cond} (h : w ∈ jw) : (w.onTables && w.keeps) = true ∨ ∃ ty, w = .arrayClass ty := good_of_word (List.mem_filter.mp h).2
theorem jw_in {w : Cond} (h : w ∈ jw) : w ∈ lw_tbl := (List.mem_filter.mp h).1
theorem jgood {c c2 : Cond} (hc : c2 ∈ jw) : GoodIn (c :: jw) (c2 :: jw) := fun w h => by
  have hw : w ∈ jw := by
    rcases List.mem_cons.mp h with e | h
    · rw [e]; exact hc
    · exact h
  exact ⟨List.mem_cons_of_mem _ hw, jw_ok hw⟩
theorem jgood_app {c : Cond} {a b : List Cond} (ha : ∀ w ∈ a, w ∈ jw) (hb : GoodIn (c :: jw) b) : GoodIn (c :: jw) (a ++ b) := fun w h => (List.mem_append.mp h).elim (fun h => ⟨List.mem_cons_of_mem _ (ha w h), jw_ok (ha w h)⟩) (hb w)
theorem jgoodV {c c2 : Cond} {own C : String} {i : Nat} {y : MethodName} (h1 : Cond.methodLink own i y ∈ jw) (h2 : Cond.instanceMethod y ∈ jw) (h3 : Cond.selects C y y ∈ jw) (h4 : Cond.initialized C ∈ jw) (hc : c2 ∈ jw) : GoodIn (c :: jw) (wsV own i C y (c2 :: jw)) := jgood_app (by
  intro w h
  simp only [List.mem_cons, List.not_mem_nil, or_false] at h
  rcases h with rfl | rfl | rfl | rfl <;> assumption) (jgood hc)
theorem jgoodS {c c2 : Cond} {own : String} {i : Nat} {y : MethodName} (h1 : Cond.methodLink own i y ∈ jw) (h2 : Cond.static y ∈ jw) (h4 : Cond.initialized y.cls ∈ jw) (hc : c2 ∈ jw) : GoodIn (c :: jw) (va_wsS own i y (c2 :: jw)) := jgood_app (by
  intro w h
  simp only [List.mem_cons, List.not_mem_nil, or_false] at h
  rcases h with rfl | rfl | rfl <;> assumption) (jgood hc)
/-! the words on nest mates: of a state -/
def jnw : List Cond := [(Jvm.Cond.methodLinkNest "JoinHouse" (11 : Nat) ({ cls := "JoinHouse$Runner", name := "<init>", desc := "()V" } : Jvm.MethodName) "JoinHouse"), (Jvm.Cond.methodLinkNest "JoinHouse$Runner" (11 : Nat) ({ cls := "JoinHouse$Planner", name := "<init>", desc := "()V" } : Jvm.MethodName) "JoinHouse"), (Jvm.Cond.methodLinkNest "JoinHouse$Planner" (11 : Nat) ({ cls := "JoinHouse$Query", name := "<init>", desc := "()V" } : Jvm.MethodName) "JoinHouse"), (Jvm.Cond.methodLinkNest "JoinHouse$Query" (11 : Nat) ({ cls := "JoinHouse$Tables", name := "<init>", desc := "()V" } : Jvm.MethodName) "JoinHouse"), (Jvm.Cond.fieldLinkNest "JoinHouse" (28 : Nat) "JoinHouse$Query" "tables" "LJoinHouse$Tables;" "JoinHouse"), (Jvm.Cond.fieldLinkNest "JoinHouse$Planner" (60 : Nat) "JoinHouse$Query" "kinds" "[I" "JoinHouse"), (Jvm.Cond.fieldLinkNest "JoinHouse$Planner" (28 : Nat) "JoinHouse$Query" "generators" "I" "JoinHouse"), (Jvm.Cond.fieldLinkNest "JoinHouse$Runner" (58 : Nat) "JoinHouse$Query" "generators" "I" "JoinHouse"), (Jvm.Cond.fieldLinkNest "JoinHouse" (69 : Nat) "JoinHouse$Query" "generators" "I" "JoinHouse"), (Jvm.Cond.fieldLinkNest "JoinHouse$Sieve" (34 : Nat) "JoinHouse$Query" "conditions" "I" "JoinHouse"), (Jvm.Cond.fieldLinkNest "JoinHouse$Planner" (53 : Nat) "JoinHouse$Query" "conditions" "I" "JoinHouse"), (Jvm.Cond.fieldLinkNest "JoinHouse" (135 : Nat) "JoinHouse$Query" "conditions" "I" "JoinHouse"), (Jvm.Cond.fieldLinkNest "JoinHouse" (21 : Nat) "JoinHouse$Planner" "query" "LJoinHouse$Query;" "JoinHouse"), (Jvm.Cond.fieldLinkNest "JoinHouse$Runner" (54 : Nat) "JoinHouse$Planner" "query" "LJoinHouse$Query;" "JoinHouse"), (Jvm.Cond.fieldLinkNest "JoinHouse$Runner" (70 : Nat) "JoinHouse$Planner" "order" "[I" "JoinHouse"), (Jvm.Cond.fieldLinkNest "JoinHouse" (94 : Nat) "JoinHouse$Planner" "order" "[I" "JoinHouse"), (Jvm.Cond.methodLinkNest "JoinHouse$Runner" (20 : Nat) ({ cls := "JoinHouse$Sieve", name := "<init>", desc := "()V" } : Jvm.MethodName) "JoinHouse"), (Jvm.Cond.fieldLinkNest "JoinHouse" (16 : Nat) "JoinHouse$Runner" "planner" "LJoinHouse$Planner;" "JoinHouse"), (Jvm.Cond.fieldLinkNest "JoinHouse" (126 : Nat) "JoinHouse$Runner" "kept" "[I" "JoinHouse"), (Jvm.Cond.fieldLinkNest "JoinHouse" (110 : Nat) "JoinHouse$Runner" "keptWays" "I" "JoinHouse"), (Jvm.Cond.fieldLinkNest "JoinHouse" (121 : Nat) "JoinHouse$Runner" "keptGenerators" "I" "JoinHouse"), (Jvm.Cond.fieldLinkNest "JoinHouse" (113 : Nat) "JoinHouse$Runner" "keptLooked" "I" "JoinHouse"), (Jvm.Cond.methodLinkNest "JoinHouse$Planner" (63 : Nat) ({ cls := "JoinHouse", name := "isIn", desc := "(II)Z" } : Jvm.MethodName) "JoinHouse"), (Jvm.Cond.methodLinkNest "JoinHouse$Sieve" (45 : Nat) ({ cls := "JoinHouse", name := "rowIn", desc := "(II)I" } : Jvm.MethodName) "JoinHouse"), (Jvm.Cond.methodLinkNest "JoinHouse$Runner" (122 : Nat) ({ cls := "JoinHouse", name := "rowIn", desc := "(II)I" } : Jvm.MethodName) "JoinHouse")]
def jN (U : State) : Prop := ∀ w ∈ jnw, va_Nw w U
theorem jN_same {u U : State} (h : u.vm = U.vm) (hN : jN u) : jN U := by
  intro w hw
  have h0 := hN w hw
  simp only [jnw, List.mem_cons, List.not_mem_nil, or_false] at hw
  rcases hw with rfl | rfl | rfl | rfl | rfl | rfl | rfl | rfl | rfl | rfl | rfl | rfl | rfl | rfl | rfl | rfl | rfl | rfl | rfl | rfl | rfl | rfl | rfl | rfl | rfl <;> exact va_Nw.same rfl h h0
theorem jN_warm {s U : State} (hW : s.WarmedH U.vm) (hN : jN s) : jN U := by
  intro w hw
  have h0 := hN w hw
  simp only [jnw, List.mem_cons, List.not_mem_nil, or_false] at hw
  rcases hw with rfl | rfl | rfl | rfl | rfl | rfl | rfl | rfl | rfl | rfl | rfl | rfl | rfl | rfl | rfl | rfl | rfl | rfl | rfl | rfl | rfl | rfl | rfl | rfl | rfl <;> first | exact va_Nw.warmF hW h0 | exact va_Nw.warmM hW h0
theorem jnw_0 : (Jvm.Cond.methodLinkNest "JoinHouse" (11 : Nat) ({ cls := "JoinHouse$Runner", name := "<init>", desc := "()V" } : Jvm.MethodName) "JoinHouse") ∈ jnw := List.mem_of_getElem? (i := 0) rfl
theorem jnw_1 : (Jvm.Cond.methodLinkNest "JoinHouse$Runner" (11 : Nat) ({ cls := "JoinHouse$Planner", name := "<init>", desc := "()V" } : Jvm.MethodName) "JoinHouse") ∈ jnw := List.mem_of_getElem? (i := 1) rfl
theorem jnw_2 : (Jvm.Cond.methodLinkNest "JoinHouse$Planner" (11 : Nat) ({ cls := "JoinHouse$Query", name := "<init>", desc := "()V" } : Jvm.MethodName) "JoinHouse") ∈ jnw := List.mem_of_getElem? (i := 2) rfl
theorem jnw_3 : (Jvm.Cond.methodLinkNest "JoinHouse$Query" (11 : Nat) ({ cls := "JoinHouse$Tables", name := "<init>", desc := "()V" } : Jvm.MethodName) "JoinHouse") ∈ jnw := List.mem_of_getElem? (i := 3) rfl
theorem jnw_4 : (Jvm.Cond.fieldLinkNest "JoinHouse" (28 : Nat) "JoinHouse$Query" "tables" "LJoinHouse$Tables;" "JoinHouse") ∈ jnw := List.mem_of_getElem? (i := 4) rfl
theorem jnw_5 : (Jvm.Cond.fieldLinkNest "JoinHouse$Planner" (60 : Nat) "JoinHouse$Query" "kinds" "[I" "JoinHouse") ∈ jnw := List.mem_of_getElem? (i := 5) rfl
theorem jnw_6 : (Jvm.Cond.fieldLinkNest "JoinHouse$Planner" (28 : Nat) "JoinHouse$Query" "generators" "I" "JoinHouse") ∈ jnw := List.mem_of_getElem? (i := 6) rfl
theorem jnw_7 : (Jvm.Cond.fieldLinkNest "JoinHouse$Runner" (58 : Nat) "JoinHouse$Query" "generators" "I" "JoinHouse") ∈ jnw := List.mem_of_getElem? (i := 7) rfl
theorem jnw_8 : (Jvm.Cond.fieldLinkNest "JoinHouse" (69 : Nat) "JoinHouse$Query" "generators" "I" "JoinHouse") ∈ jnw := List.mem_of_getElem? (i := 8) rfl
theorem jnw_9 : (Jvm.Cond.fieldLinkNest "JoinHouse$Sieve" (34 : Nat) "JoinHouse$Query" "conditions" "I" "JoinHouse") ∈ jnw := List.mem_of_getElem? (i := 9) rfl
theorem jnw_10 : (Jvm.Cond.fieldLinkNest "JoinHouse$Planner" (53 : Nat) "JoinHouse$Query" "conditions" "I" "JoinHouse") ∈ jnw := List.mem_of_getElem? (i := 10) rfl
theorem jnw_11 : (Jvm.Cond.fieldLinkNest "JoinHouse" (135 : Nat) "JoinHouse$Query" "conditions" "I" "JoinHouse") ∈ jnw := List.mem_of_getElem? (i := 11) rfl
theorem jnw_12 : (Jvm.Cond.fieldLinkNest "JoinHouse" (21 : Nat) "JoinHouse$Planner" "query" "LJoinHouse$Query;" "JoinHouse") ∈ jnw := List.mem_of_getElem? (i := 12) rfl
theorem jnw_13 : (Jvm.Cond.fieldLinkNest "JoinHouse$Runner" (54 : Nat) "JoinHouse$Planner" "query" "LJoinHouse$Query;" "JoinHouse") ∈ jnw := List.mem_of_getElem? (i := 13) rfl
theorem jnw_14 : (Jvm.Cond.fieldLinkNest "JoinHouse$Runner" (70 : Nat) "JoinHouse$Planner" "order" "[I" "JoinHouse") ∈ jnw := List.mem_of_getElem? (i := 14) rfl
theorem jnw_15 : (Jvm.Cond.fieldLinkNest "JoinHouse" (94 : Nat) "JoinHouse$Planner" "order" "[I" "JoinHouse") ∈ jnw := List.mem_of_getElem? (i := 15) rfl
theorem jnw_16 : (Jvm.Cond.methodLinkNest "JoinHouse$Runner" (20 : Nat) ({ cls := "JoinHouse$Sieve", name := "<init>", desc := "()V" } : Jvm.MethodName) "JoinHouse") ∈ jnw := List.mem_of_getElem? (i := 16) rfl
theorem jnw_17 : (Jvm.Cond.fieldLinkNest "JoinHouse" (16 : Nat) "JoinHouse$Runner" "planner" "LJoinHouse$Planner;" "JoinHouse") ∈ jnw := List.mem_of_getElem? (i := 17) rfl
theorem jnw_18 : (Jvm.Cond.fieldLinkNest "JoinHouse" (126 : Nat) "JoinHouse$Runner" "kept" "[I" "JoinHouse") ∈ jnw := List.mem_of_getElem? (i := 18) rfl
theorem jnw_19 : (Jvm.Cond.fieldLinkNest "JoinHouse" (110 : Nat) "JoinHouse$Runner" "keptWays" "I" "JoinHouse") ∈ jnw := List.mem_of_getElem? (i := 19) rfl
theorem jnw_20 : (Jvm.Cond.fieldLinkNest "JoinHouse" (121 : Nat) "JoinHouse$Runner" "keptGenerators" "I" "JoinHouse") ∈ jnw := List.mem_of_getElem? (i := 20) rfl
theorem jnw_21 : (Jvm.Cond.fieldLinkNest "JoinHouse" (113 : Nat) "JoinHouse$Runner" "keptLooked" "I" "JoinHouse") ∈ jnw := List.mem_of_getElem? (i := 21) rfl
theorem jnw_22 : (Jvm.Cond.methodLinkNest "JoinHouse$Planner" (63 : Nat) ({ cls := "JoinHouse", name := "isIn", desc := "(II)Z" } : Jvm.MethodName) "JoinHouse") ∈ jnw := List.mem_of_getElem? (i := 22) rfl
theorem jnw_23 : (Jvm.Cond.methodLinkNest "JoinHouse$Sieve" (45 : Nat) ({ cls := "JoinHouse", name := "rowIn", desc := "(II)I" } : Jvm.MethodName) "JoinHouse") ∈ jnw := List.mem_of_getElem? (i := 23) rfl
theorem jnw_24 : (Jvm.Cond.methodLinkNest "JoinHouse$Runner" (122 : Nat) ({ cls := "JoinHouse", name := "rowIn", desc := "(II)I" } : Jvm.MethodName) "JoinHouse") ∈ jnw := List.mem_of_getElem? (i := 24) rfl
theorem jnw_use {w : Cond} {args : Array Value} {s : State} (hN : jN s) (h : w ∈ jnw) : w.before args s = true := by
  have h0 := hN w h
  simp only [jnw, List.mem_cons, List.not_mem_nil, or_false] at h
  rcases h with rfl | rfl | rfl | rfl | rfl | rfl | rfl | rfl | rfl | rfl | rfl | rfl | rfl | rfl | rfl | rfl | rfl | rfl | rfl | rfl | rfl | rfl | rfl | rfl | rfl <;> exact va_Nw.use rfl h0
theorem jws_0 : Cond.selects "java/lang/Throwable" (⟨"java/lang/Throwable", "fillInStackTrace", "(I)Ljava/lang/Throwable;"⟩ : MethodName) (⟨"java/lang/Throwable", "fillInStackTrace", "(I)Ljava/lang/Throwable;"⟩ : MethodName) ∈ jw := jw_at (i := 0) (by decide +kernel) (by decide +kernel)
theorem jws_1 : Cond.selects "JoinHouse$Tables" (⟨"JoinHouse$Tables", "put", "(III)V"⟩ : MethodName) (⟨"JoinHouse$Tables", "put", "(III)V"⟩ : MethodName) ∈ jw := jw_at (i := 1) (by decide +kernel) (by decide +kernel)
theorem jws_2 : Cond.selects "JoinHouse$Tables" (⟨"JoinHouse$Tables", "hasValue", "(III)Z"⟩ : MethodName) (⟨"JoinHouse$Tables", "hasValue", "(III)Z"⟩ : MethodName) ∈ jw := jw_at (i := 2) (by decide +kernel) (by decide +kernel)
theorem jws_3 : Cond.selects "JoinHouse" (⟨"JoinHouse", "checkSide", "(II)V"⟩ : MethodName) (⟨"JoinHouse", "checkSide", "(II)V"⟩ : MethodName) ∈ jw := jw_at (i := 3) (by decide +kernel) (by decide +kernel)
theorem jws_4 : Cond.selects "JoinHouse" (⟨"JoinHouse", "checkConditionsLeft", "()V"⟩ : MethodName) (⟨"JoinHouse", "checkConditionsLeft", "()V"⟩ : MethodName) ∈ jw := jw_at (i := 4) (by decide +kernel) (by decide +kernel)
theorem jws_5 : Cond.selects "JoinHouse" (⟨"JoinHouse", "checkPlace", "(I)V"⟩ : MethodName) (⟨"JoinHouse", "checkPlace", "(I)V"⟩ : MethodName) ∈ jw := jw_at (i := 5) (by decide +kernel) (by decide +kernel)
theorem jws_6 : Cond.selects "JoinHouse$Planner" (⟨"JoinHouse$Planner", "sizeOf", "(I)I"⟩ : MethodName) (⟨"JoinHouse$Planner", "sizeOf", "(I)I"⟩ : MethodName) ∈ jw := jw_at (i := 6) (by decide +kernel) (by decide +kernel)
theorem jws_7 : Cond.selects "JoinHouse$Planner" (⟨"JoinHouse$Planner", "bestAfter", "(I)I"⟩ : MethodName) (⟨"JoinHouse$Planner", "bestAfter", "(I)I"⟩ : MethodName) ∈ jw := jw_at (i := 7) (by decide +kernel) (by decide +kernel)
theorem jws_8 : Cond.selects "JoinHouse$Planner" (⟨"JoinHouse$Planner", "sumFrom", "(II)I"⟩ : MethodName) (⟨"JoinHouse$Planner", "sumFrom", "(II)I"⟩ : MethodName) ∈ jw := jw_at (i := 8) (by decide +kernel) (by decide +kernel)
theorem jws_9 : Cond.selects "JoinHouse$Planner" (⟨"JoinHouse$Planner", "aheadOf", "(I)I"⟩ : MethodName) (⟨"JoinHouse$Planner", "aheadOf", "(I)I"⟩ : MethodName) ∈ jw := jw_at (i := 9) (by decide +kernel) (by decide +kernel)
theorem jws_10 : Cond.selects "JoinHouse$Runner" (⟨"JoinHouse$Runner", "begin", "(I)V"⟩ : MethodName) (⟨"JoinHouse$Runner", "begin", "(I)V"⟩ : MethodName) ∈ jw := jw_at (i := 10) (by decide +kernel) (by decide +kernel)
theorem jws_11 : Cond.selects "JoinHouse$Sieve" (⟨"JoinHouse$Sieve", "judge", "(LJoinHouse$Query;II)V"⟩ : MethodName) (⟨"JoinHouse$Sieve", "judge", "(LJoinHouse$Query;II)V"⟩ : MethodName) ∈ jw := jw_at (i := 11) (by decide +kernel) (by decide +kernel)
theorem jws_12 : Cond.selects "JoinHouse$Runner" (⟨"JoinHouse$Runner", "goTo", "(II)Z"⟩ : MethodName) (⟨"JoinHouse$Runner", "goTo", "(II)Z"⟩ : MethodName) ∈ jw := jw_at (i := 12) (by decide +kernel) (by decide +kernel)
theorem jws_13 : Cond.selects "JoinHouse$Runner" (⟨"JoinHouse$Runner", "extend", "(IIII)I"⟩ : MethodName) (⟨"JoinHouse$Runner", "extend", "(IIII)I"⟩ : MethodName) ∈ jw := jw_at (i := 13) (by decide +kernel) (by decide +kernel)
theorem jws_14 : Cond.selects "JoinHouse$Runner" (⟨"JoinHouse$Runner", "swap", "()V"⟩ : MethodName) (⟨"JoinHouse$Runner", "swap", "()V"⟩ : MethodName) ∈ jw := jw_at (i := 14) (by decide +kernel) (by decide +kernel)
theorem jws_15 : Cond.selects "JoinHouse$Runner" (⟨"JoinHouse$Runner", "sortBy", "(I)V"⟩ : MethodName) (⟨"JoinHouse$Runner", "sortBy", "(I)V"⟩ : MethodName) ∈ jw := jw_at (i := 15) (by decide +kernel) (by decide +kernel)
theorem jws_16 : Cond.selects "JoinHouse$Runner" (⟨"JoinHouse$Runner", "keep", "(I)V"⟩ : MethodName) (⟨"JoinHouse$Runner", "keep", "(I)V"⟩ : MethodName) ∈ jw := jw_at (i := 16) (by decide +kernel) (by decide +kernel)
theorem jws_17 : Cond.selects "JoinHouseModel" (⟨"JoinHouseModel", "isColumn", "(II)Z"⟩ : MethodName) (⟨"JoinHouseModel", "isColumn", "(II)Z"⟩ : MethodName) ∈ jw := jw_at (i := 17) (by decide +kernel) (by decide +kernel)
theorem jws_18 : Cond.selects "JoinHouseModel" (⟨"JoinHouseModel", "condition", "(IIIIIZ)I"⟩ : MethodName) (⟨"JoinHouseModel", "condition", "(IIIIIZ)I"⟩ : MethodName) ∈ jw := jw_at (i := 18) (by decide +kernel) (by decide +kernel)
theorem jws_19 : Cond.selects "JoinHouseModel" (⟨"JoinHouseModel", "plansTo", "(I)Z"⟩ : MethodName) (⟨"JoinHouseModel", "plansTo", "(I)Z"⟩ : MethodName) ∈ jw := jw_at (i := 19) (by decide +kernel) (by decide +kernel)
theorem jws_20 : Cond.selects "JoinHouseModel" (⟨"JoinHouseModel", "makePlan", "()V"⟩ : MethodName) (⟨"JoinHouseModel", "makePlan", "()V"⟩ : MethodName) ∈ jw := jw_at (i := 20) (by decide +kernel) (by decide +kernel)
theorem jws_21 : Cond.selects "JoinHouseModel" (⟨"JoinHouseModel", "sizeOf", "(I)J"⟩ : MethodName) (⟨"JoinHouseModel", "sizeOf", "(I)J"⟩ : MethodName) ∈ jw := jw_at (i := 21) (by decide +kernel) (by decide +kernel)
theorem jws_22 : Cond.selects "JoinHouseModel" (⟨"JoinHouseModel", "isAmong", "(II)Z"⟩ : MethodName) (⟨"JoinHouseModel", "isAmong", "(II)Z"⟩ : MethodName) ∈ jw := jw_at (i := 22) (by decide +kernel) (by decide +kernel)
theorem jws_23 : Cond.selects "JoinHouseModel" (⟨"JoinHouseModel", "divisor", "(I)I"⟩ : MethodName) (⟨"JoinHouseModel", "divisor", "(I)I"⟩ : MethodName) ∈ jw := jw_at (i := 23) (by decide +kernel) (by decide +kernel)
theorem jws_24 : Cond.selects "JoinHouseModel" (⟨"JoinHouseModel", "spread", "(II)I"⟩ : MethodName) (⟨"JoinHouseModel", "spread", "(II)I"⟩ : MethodName) ∈ jw := jw_at (i := 24) (by decide +kernel) (by decide +kernel)
theorem jws_25 : Cond.selects "JoinHouseModel" (⟨"JoinHouseModel", "cell", "(III)I"⟩ : MethodName) (⟨"JoinHouseModel", "cell", "(III)I"⟩ : MethodName) ∈ jw := jw_at (i := 25) (by decide +kernel) (by decide +kernel)
theorem jws_26 : Cond.selects "JoinHouseModel" (⟨"JoinHouseModel", "sumOfOrder", "()J"⟩ : MethodName) (⟨"JoinHouseModel", "sumOfOrder", "()J"⟩ : MethodName) ∈ jw := jw_at (i := 26) (by decide +kernel) (by decide +kernel)
theorem jws_27 : Cond.selects "JoinHouseModel" (⟨"JoinHouseModel", "nextOrder", "()Z"⟩ : MethodName) (⟨"JoinHouseModel", "nextOrder", "()Z"⟩ : MethodName) ∈ jw := jw_at (i := 27) (by decide +kernel) (by decide +kernel)
theorem jws_28 : Cond.selects "JoinHouseModel" (⟨"JoinHouseModel", "swap", "(II)V"⟩ : MethodName) (⟨"JoinHouseModel", "swap", "(II)V"⟩ : MethodName) ∈ jw := jw_at (i := 28) (by decide +kernel) (by decide +kernel)
theorem jws_29 : Cond.selects "JoinHouseModel" (⟨"JoinHouseModel", "methodAt", "(I)I"⟩ : MethodName) (⟨"JoinHouseModel", "methodAt", "(I)I"⟩ : MethodName) ∈ jw := jw_at (i := 29) (by decide +kernel) (by decide +kernel)
theorem jws_30 : Cond.selects "JoinHouseModel" (⟨"JoinHouseModel", "ahead", "(I)I"⟩ : MethodName) (⟨"JoinHouseModel", "ahead", "(I)I"⟩ : MethodName) ∈ jw := jw_at (i := 30) (by decide +kernel) (by decide +kernel)
theorem jws_31 : Cond.selects "JoinHouseModel" (⟨"JoinHouseModel", "conditionFor", "(III)I"⟩ : MethodName) (⟨"JoinHouseModel", "conditionFor", "(III)I"⟩ : MethodName) ∈ jw := jw_at (i := 31) (by decide +kernel) (by decide +kernel)
theorem jws_32 : Cond.selects "JoinHouseModel" (⟨"JoinHouseModel", "tied", "(III)I"⟩ : MethodName) (⟨"JoinHouseModel", "tied", "(III)I"⟩ : MethodName) ∈ jw := jw_at (i := 32) (by decide +kernel) (by decide +kernel)
theorem jws_33 : Cond.selects "JoinHouseModel" (⟨"JoinHouseModel", "isLooked", "(IIIII)Z"⟩ : MethodName) (⟨"JoinHouseModel", "isLooked", "(IIIII)Z"⟩ : MethodName) ∈ jw := jw_at (i := 33) (by decide +kernel) (by decide +kernel)
theorem jws_34 : Cond.selects "JoinHouseModel" (⟨"JoinHouseModel", "valueIn", "(III)I"⟩ : MethodName) (⟨"JoinHouseModel", "valueIn", "(III)I"⟩ : MethodName) ∈ jw := jw_at (i := 34) (by decide +kernel) (by decide +kernel)
theorem jws_35 : Cond.selects "JoinHouseModel" (⟨"JoinHouseModel", "allHold", "(II)Z"⟩ : MethodName) (⟨"JoinHouseModel", "allHold", "(II)Z"⟩ : MethodName) ∈ jw := jw_at (i := 35) (by decide +kernel) (by decide +kernel)
theorem jws_36 : Cond.selects "JoinHouseModel" (⟨"JoinHouseModel", "holds", "(II)Z"⟩ : MethodName) (⟨"JoinHouseModel", "holds", "(II)Z"⟩ : MethodName) ∈ jw := jw_at (i := 36) (by decide +kernel) (by decide +kernel)
theorem jws_37 : Cond.selects "JoinHouseModel" (⟨"JoinHouseModel", "sort", "(I)V"⟩ : MethodName) (⟨"JoinHouseModel", "sort", "(I)V"⟩ : MethodName) ∈ jw := jw_at (i := 37) (by decide +kernel) (by decide +kernel)
abbrev RJh : String := "JoinHouse"
def TJh : u_T := fun k => match k with
  | 0 => ("JoinHouse", "runner", "LJoinHouse$Runner;", true)
  | 1 => ("JoinHouse", "planner", "LJoinHouse$Planner;", true)
  | 2 => ("JoinHouse", "query", "LJoinHouse$Query;", true)
  | _ => ("JoinHouse", "tables", "LJoinHouse$Tables;", true)
def tJh : Nat → FieldType := fun k => match k with
  | 0 => .object "JoinHouse$Runner"
  | 1 => .object "JoinHouse$Planner"
  | 2 => .object "JoinHouse$Query"
  | _ => .object "JoinHouse$Tables"
theorem nJh : ∀ a, a < 4 → ∀ b, b < 4 → a ≠ b → (TJh a).2.1 ≠ (TJh b).2.1 := by decide +kernel
theorem tJh_ok : ∀ k, k < 4 → parseFieldDescriptor (TJh k).2.2.1 = some (tJh k) := by decide +kernel
theorem iJh : ∀ w ∈ u_ws RJh TJh 4, w ∈ jw := by decide +kernel
abbrev RRu : String := "JoinHouse$Runner"
def TRu : u_T := fun k => match k with
  | 0 => ("JoinHouse$Runner", "planner", "LJoinHouse$Planner;", true)
  | 1 => ("JoinHouse$Runner", "sieve", "LJoinHouse$Sieve;", true)
  | 2 => ("JoinHouse$Runner", "choices", "[I", false)
  | 3 => ("JoinHouse$Runner", "spare", "[I", false)
  | 4 => ("JoinHouse$Runner", "starts", "[I", true)
  | 5 => ("JoinHouse$Runner", "count", "I", false)
  | 6 => ("JoinHouse$Runner", "looked", "I", false)
  | 7 => ("JoinHouse$Runner", "kept", "[I", false)
  | 8 => ("JoinHouse$Runner", "keptWays", "I", false)
  | 9 => ("JoinHouse$Runner", "keptGenerators", "I", false)
  | _ => ("JoinHouse$Runner", "keptLooked", "I", false)
def tRu : Nat → FieldType := fun k => match k with
  | 0 => .object "JoinHouse$Planner"
  | 1 => .object "JoinHouse$Sieve"
  | 2 => .array .int
  | 3 => .array .int
  | 4 => .array .int
  | 5 => .int
  | 6 => .int
  | 7 => .array .int
  | 8 => .int
  | 9 => .int
  | _ => .int
theorem nRu : ∀ a, a < 11 → ∀ b, b < 11 → a ≠ b → (TRu a).2.1 ≠ (TRu b).2.1 := by decide +kernel
theorem tRu_ok : ∀ k, k < 11 → parseFieldDescriptor (TRu k).2.2.1 = some (tRu k) := by decide +kernel
theorem iRu : ∀ w ∈ u_ws RRu TRu 11, w ∈ jw := by decide +kernel
abbrev RPl : String := "JoinHouse$Planner"
def TPl : u_T := fun k => match k with
  | 0 => ("JoinHouse$Planner", "query", "LJoinHouse$Query;", true)
  | 1 => ("JoinHouse$Planner", "sizes", "[I", true)
  | 2 => ("JoinHouse$Planner", "leastAfter", "[I", true)
  | _ => ("JoinHouse$Planner", "order", "[I", true)
def tPl : Nat → FieldType := fun k => match k with
  | 0 => .object "JoinHouse$Query"
  | 1 => .array .int
  | 2 => .array .int
  | _ => .array .int
theorem nPl : ∀ a, a < 4 → ∀ b, b < 4 → a ≠ b → (TPl a).2.1 ≠ (TPl b).2.1 := by decide +kernel
theorem tPl_ok : ∀ k, k < 4 → parseFieldDescriptor (TPl k).2.2.1 = some (tPl k) := by decide +kernel
theorem iPl : ∀ w ∈ u_ws RPl TPl 4, w ∈ jw := by decide +kernel
abbrev RQu : String := "JoinHouse$Query"
def TQu : u_T := fun k => match k with
  | 0 => ("JoinHouse$Query", "tables", "LJoinHouse$Tables;", true)
  | 1 => ("JoinHouse$Query", "tableOf", "[I", true)
  | 2 => ("JoinHouse$Query", "kinds", "[I", true)
  | 3 => ("JoinHouse$Query", "firsts", "[I", true)
  | 4 => ("JoinHouse$Query", "firstColumns", "[I", true)
  | 5 => ("JoinHouse$Query", "seconds", "[I", true)
  | 6 => ("JoinHouse$Query", "secondColumns", "[I", true)
  | 7 => ("JoinHouse$Query", "needed", "[I", true)
  | 8 => ("JoinHouse$Query", "generators", "I", false)
  | _ => ("JoinHouse$Query", "conditions", "I", false)
def tQu : Nat → FieldType := fun k => match k with
  | 0 => .object "JoinHouse$Tables"
  | 1 => .array .int
  | 2 => .array .int
  | 3 => .array .int
  | 4 => .array .int
  | 5 => .array .int
  | 6 => .array .int
  | 7 => .array .int
  | 8 => .int
  | _ => .int
theorem nQu : ∀ a, a < 10 → ∀ b, b < 10 → a ≠ b → (TQu a).2.1 ≠ (TQu b).2.1 := by decide +kernel
theorem tQu_ok : ∀ k, k < 10 → parseFieldDescriptor (TQu k).2.2.1 = some (tQu k) := by decide +kernel
theorem iQu : ∀ w ∈ u_ws RQu TQu 10, w ∈ jw := by decide +kernel
abbrev RTa : String := "JoinHouse$Tables"
def TTa : u_T := fun k => match k with
  | 0 => ("JoinHouse$Tables", "cells", "[I", true)
  | 1 => ("JoinHouse$Tables", "counts", "[I", true)
  | 2 => ("JoinHouse$Tables", "indexed", "[I", true)
  | _ => ("JoinHouse$Tables", "unlike", "[I", true)
def tTa : Nat → FieldType := fun k => match k with
  | 0 => .array .int
  | 1 => .array .int
  | 2 => .array .int
  | _ => .array .int
theorem nTa : ∀ a, a < 4 → ∀ b, b < 4 → a ≠ b → (TTa a).2.1 ≠ (TTa b).2.1 := by decide +kernel
theorem tTa_ok : ∀ k, k < 4 → parseFieldDescriptor (TTa k).2.2.1 = some (tTa k) := by decide +kernel
theorem iTa : ∀ w ∈ u_ws RTa TTa 4, w ∈ jw := by decide +kernel
abbrev RSi : String := "JoinHouse$Sieve"
def TSi : u_T := fun k => match k with
  | 0 => ("JoinHouse$Sieve", "judged", "[I", true)
  | 1 => ("JoinHouse$Sieve", "partners", "[I", true)
  | 2 => ("JoinHouse$Sieve", "let", "[I", true)
  | 3 => ("JoinHouse$Sieve", "count", "I", false)
  | _ => ("JoinHouse$Sieve", "everyRow", "I", false)
def tSi : Nat → FieldType := fun k => match k with
  | 0 => .array .int
  | 1 => .array .int
  | 2 => .array .int
  | 3 => .int
  | _ => .int
theorem nSi : ∀ a, a < 5 → ∀ b, b < 5 → a ≠ b → (TSi a).2.1 ≠ (TSi b).2.1 := by decide +kernel
theorem tSi_ok : ∀ k, k < 5 → parseFieldDescriptor (TSi k).2.2.1 = some (tSi k) := by decide +kernel
theorem iSi : ∀ w ∈ u_ws RSi TSi 5, w ∈ jw := by decide +kernel
abbrev RMo : String := "JoinHouseModel"
def TMo : u_T := fun k => match k with
  | 0 => ("JoinHouseModel", "thrown", "I", false)
  | 1 => ("JoinHouseModel", "cells", "[I", true)
  | 2 => ("JoinHouseModel", "counts", "[I", true)
  | 3 => ("JoinHouseModel", "indexes", "[I", true)
  | 4 => ("JoinHouseModel", "generators", "I", false)
  | 5 => ("JoinHouseModel", "tables", "[I", true)
  | 6 => ("JoinHouseModel", "conditions", "I", false)
  | 7 => ("JoinHouseModel", "kinds", "[I", true)
  | 8 => ("JoinHouseModel", "firsts", "[I", true)
  | 9 => ("JoinHouseModel", "firstColumns", "[I", true)
  | 10 => ("JoinHouseModel", "seconds", "[I", true)
  | 11 => ("JoinHouseModel", "secondColumns", "[I", true)
  | 12 => ("JoinHouseModel", "sizes", "[J", true)
  | 13 => ("JoinHouseModel", "order", "[I", true)
  | 14 => ("JoinHouseModel", "best", "[I", true)
  | 15 => ("JoinHouseModel", "runGenerators", "I", false)
  | 16 => ("JoinHouseModel", "ways", "I", false)
  | 17 => ("JoinHouseModel", "looked", "I", false)
  | 18 => ("JoinHouseModel", "found", "[I", true)
  | 19 => ("JoinHouseModel", "choices", "[I", true)
  | _ => ("JoinHouseModel", "next", "[I", true)
def tMo : Nat → FieldType := fun k => match k with
  | 0 => .int
  | 1 => .array .int
  | 2 => .array .int
  | 3 => .array .int
  | 4 => .int
  | 5 => .array .int
  | 6 => .int
  | 7 => .array .int
  | 8 => .array .int
  | 9 => .array .int
  | 10 => .array .int
  | 11 => .array .int
  | 12 => .array .long
  | 13 => .array .int
  | 14 => .array .int
  | 15 => .int
  | 16 => .int
  | 17 => .int
  | 18 => .array .int
  | 19 => .array .int
  | _ => .array .int
theorem nMo : ∀ a, a < 21 → ∀ b, b < 21 → a ≠ b → (TMo a).2.1 ≠ (TMo b).2.1 := by decide +kernel
theorem tMo_ok : ∀ k, k < 21 → parseFieldDescriptor (TMo k).2.2.1 = some (tMo k) := by decide +kernel
theorem iMo : ∀ w ∈ u_ws RMo TMo 21, w ∈ jw := by decide +kernel
abbrev RLa : String := "JoinHouseLaw"
abbrev RIn : String := "java/lang/Integer"
abbrev RAr : String := "java/util/Arrays"
abbrev jCl : List vw_C := [(RJh, TJh, 4), (RRu, TRu, 11), (RPl, TPl, 4), (RQu, TQu, 10), (RTa, TTa, 4), (RSi, TSi, 5), (RMo, TMo, 21)]
