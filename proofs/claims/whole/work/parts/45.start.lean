/-! the entry of the law -/
theorem jK0 {b : Nat} {s : State} (hts : ∀ w ∈ lw_tbl, w.before #[Value.ref b] s = true) : ∃ (dC : Nat → ClassId) (dI : Nat → Nat → Nat) (cA cL : ClassId), va_K (dC, dI) jCl [(cA, .int), (cL, .long)] s ∧ jFA cA cL s := by
  obtain ⟨c0, iS0, hKn0⟩ := u_known (C := RJh) (T := TJh) (N := 4) (n := 4) hts (fun w h => jw_in (iJh w h)) (hts (.instantiable RJh 4) (by decide +kernel))
  obtain ⟨c1, iS1, hKn1⟩ := u_known (C := RRu) (T := TRu) (N := 11) (n := 11) hts (fun w h => jw_in (iRu w h)) (hts (.instantiable RRu 11) (by decide +kernel))
  obtain ⟨c2, iS2, hKn2⟩ := u_known (C := RPl) (T := TPl) (N := 4) (n := 4) hts (fun w h => jw_in (iPl w h)) (hts (.instantiable RPl 4) (by decide +kernel))
  obtain ⟨c3, iS3, hKn3⟩ := u_known (C := RQu) (T := TQu) (N := 10) (n := 10) hts (fun w h => jw_in (iQu w h)) (hts (.instantiable RQu 10) (by decide +kernel))
  obtain ⟨c4, iS4, hKn4⟩ := u_known (C := RTa) (T := TTa) (N := 4) (n := 4) hts (fun w h => jw_in (iTa w h)) (hts (.instantiable RTa 4) (by decide +kernel))
  obtain ⟨c5, iS5, hKn5⟩ := u_known (C := RSi) (T := TSi) (N := 5) (n := 5) hts (fun w h => jw_in (iSi w h)) (hts (.instantiable RSi 5) (by decide +kernel))
  obtain ⟨c6, iS6, hKn6⟩ := u_known (C := RMo) (T := TMo) (N := 21) (n := 21) hts (fun w h => jw_in (iMo w h)) (hts (.instantiable RMo 21) (by decide +kernel))
  obtain ⟨cA, kA, qA, hA1, hA2, hA3⟩ := Cond.arrayClass_spec (hts (.arrayClass .int) (by decide +kernel))
  obtain ⟨cL, kL, qL, hL1, hL2, hL3⟩ := Cond.arrayClass_spec (hts (.arrayClass .long) (by decide +kernel))
  refine ⟨fun k => if k = 0 then c0 else if k = 1 then c1 else if k = 2 then c2 else if k = 3 then c3 else if k = 4 then c4 else if k = 5 then c5 else c6, fun k => if k = 0 then iS0 else if k = 1 then iS1 else if k = 2 then iS2 else if k = 3 then iS3 else if k = 4 then iS4 else if k = 5 then iS5 else iS6, cA, cL, ⟨?_, ?_⟩, ⟨hA1, hL1⟩⟩
  · intro k q hq
    match k, hq with
    | 0, hq => cases hq; exact hKn0
    | 1, hq => cases hq; exact hKn1
    | 2, hq => cases hq; exact hKn2
    | 3, hq => cases hq; exact hKn3
    | 4, hq => cases hq; exact hKn4
    | 5, hq => cases hq; exact hKn5
    | 6, hq => cases hq; exact hKn6
    | k + 7, hq => simp [jCl] at hq
  · intro k q hq
    match k, hq with
    | 0, hq => cases hq; exact ⟨fun n z => ⟨fun _ h => (by cases h), kA, hA2, qA, hA3⟩, hA1⟩
    | 1, hq => cases hq; exact ⟨fun n z => ⟨fun _ h => (by cases h), kL, hL2, qL, hL3⟩, hL1⟩
    | k + 2, hq => simp at hq

theorem jnw_in : ∀ w ∈ jnw, w ∈ lw_tbl := by decide +kernel
theorem jdw_in : ∀ w ∈ jdw, w ∈ lw_tbl := by decide +kernel
theorem jN0 {b : Nat} {s : State} (hts : ∀ w ∈ lw_tbl, w.before #[Value.ref b] s = true) : jN s := by
  intro w hw
  have h0 := hts w (jnw_in w hw)
  simp only [jnw, List.mem_cons, List.not_mem_nil, or_false] at hw
  rcases hw with rfl | rfl | rfl | rfl | rfl | rfl | rfl | rfl | rfl | rfl | rfl | rfl | rfl | rfl | rfl | rfl | rfl | rfl | rfl | rfl | rfl | rfl | rfl | rfl | rfl <;> exact va_Nw.of rfl h0
theorem jX0 {b : Nat} {s : State} (hts : ∀ w ∈ lw_tbl, w.before #[Value.ref b] s = true) (hgv : (Jvm.Cond.and given_1 narrow_1).before #[Value.ref b] s = true) : jX (lAp s) s s.heap := by
  refine ⟨?_, ?_, ?_, ?_⟩
  · intro w hw
    have h0 := hts w (jdw_in w hw)
    simp only [jdw, List.mem_cons, List.not_mem_nil, or_false] at hw
    rcases hw with rfl | rfl | rfl | rfl | rfl | rfl <;> exact va_Nw.of rfl h0
  · intro q hq
    simp only [jstr, List.mem_cons, List.not_mem_nil, or_false] at hq
    rcases hq with rfl | rfl | rfl | rfl | rfl | rfl | rfl | rfl | rfl | rfl
    · obtain ⟨a2, -, -, -, q1, -⟩ := Cond.exactly_spec (flat_of_before _ hgv (.exactly (.string "JoinHouse" 41) "java/lang/String") (by decide +kernel))
      exact ⟨a2, vk_R.of (hts (.stringRef "JoinHouse" 41 "no such table") (by decide +kernel)) q1⟩
    · obtain ⟨a2, -, -, -, q1, -⟩ := Cond.exactly_spec (flat_of_before _ hgv (.exactly (.string "JoinHouse" 46) "java/lang/String") (by decide +kernel))
      exact ⟨a2, vk_R.of (hts (.stringRef "JoinHouse" 46 "no such column") (by decide +kernel)) q1⟩
    · obtain ⟨a2, -, -, -, q1, -⟩ := Cond.exactly_spec (flat_of_before _ hgv (.exactly (.string "JoinHouse" 60) "java/lang/String") (by decide +kernel))
      exact ⟨a2, vk_R.of (hts (.stringRef "JoinHouse" 60 "the table has 30 rows") (by decide +kernel)) q1⟩
    · obtain ⟨a2, -, -, -, q1, -⟩ := Cond.exactly_spec (flat_of_before _ hgv (.exactly (.string "JoinHouse" 73) "java/lang/String") (by decide +kernel))
      exact ⟨a2, vk_R.of (hts (.stringRef "JoinHouse" 73 "there are six generators") (by decide +kernel)) q1⟩
    · obtain ⟨a2, -, -, -, q1, -⟩ := Cond.exactly_spec (flat_of_before _ hgv (.exactly (.string "JoinHouse" 133) "java/lang/String") (by decide +kernel))
      exact ⟨a2, vk_R.of (hts (.stringRef "JoinHouse" 133 "no such generator") (by decide +kernel)) q1⟩
    · obtain ⟨a2, -, -, -, q1, -⟩ := Cond.exactly_spec (flat_of_before _ hgv (.exactly (.string "JoinHouse" 138) "java/lang/String") (by decide +kernel))
      exact ⟨a2, vk_R.of (hts (.stringRef "JoinHouse" 138 "there are twelve conditions") (by decide +kernel)) q1⟩
    · obtain ⟨a2, -, -, -, q1, -⟩ := Cond.exactly_spec (flat_of_before _ hgv (.exactly (.string "JoinHouse" 140) "java/lang/String") (by decide +kernel))
      exact ⟨a2, vk_R.of (hts (.stringRef "JoinHouse" 140 "no such place") (by decide +kernel)) q1⟩
    · obtain ⟨a2, -, -, -, q1, -⟩ := Cond.exactly_spec (flat_of_before _ hgv (.exactly (.string "JoinHouse" 108) "java/lang/String") (by decide +kernel))
      exact ⟨a2, vk_R.of (hts (.stringRef "JoinHouse" 108 "more than 3000 choices at a generator") (by decide +kernel)) q1⟩
    · obtain ⟨a2, -, -, -, q1, -⟩ := Cond.exactly_spec (flat_of_before _ hgv (.exactly (.string "JoinHouse" 118) "java/lang/String") (by decide +kernel))
      exact ⟨a2, vk_R.of (hts (.stringRef "JoinHouse" 118 "no such way") (by decide +kernel)) q1⟩
    · obtain ⟨a2, -, -, -, q1, -⟩ := Cond.exactly_spec (flat_of_before _ hgv (.exactly (.string "JoinHouse" 124) "java/lang/String") (by decide +kernel))
      exact ⟨a2, vk_R.of (hts (.stringRef "JoinHouse" 124 "the run had no such generator") (by decide +kernel)) q1⟩
  · exact vx_Zqof (hts (.laysStatic "java/lang/Throwable" "UNASSIGNED_STACK" "[Ljava/lang/StackTraceElement;") (by decide +kernel)) (hts (.initialized "java/lang/Throwable") (by decide +kernel)) (flat_of_before _ hgv (.isRef (.static "java/lang/Throwable" "UNASSIGNED_STACK" "[Ljava/lang/StackTraceElement;")) (by decide +kernel)) (fun a h => Nat.not_le.mpr h)
  · exact vx_Zqof (hts (.laysStatic "java/lang/Throwable" "SUPPRESSED_SENTINEL" "Ljava/util/List;") (by decide +kernel)) (hts (.initialized "java/lang/Throwable") (by decide +kernel)) (flat_of_before _ hgv (.isRef (.static "java/lang/Throwable" "SUPPRESSED_SENTINEL" "Ljava/util/List;")) (by decide +kernel)) (fun a h => Nat.not_le.mpr h)
theorem jnc0 {b : Nat} {s : State} (hgv : (Jvm.Cond.and given_1 narrow_1).before #[Value.ref b] s = true) : va_Nc "java/lang/UnsupportedOperationException" "java/lang/IllegalArgumentException" s :=
  va_Nc.of (flat_of_before _ hgv (.not (.castable "java/lang/UnsupportedOperationException" "java/lang/IllegalArgumentException")) (by decide +kernel))
