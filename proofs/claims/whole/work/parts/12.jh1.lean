abbrev bJh_isTable : ByteArray := prog_1_method_18_code
abbrev yJh_isTable : MethodName := ⟨RJh, "isTable", "(I)Z"⟩
abbrev wJh_isTable : List Cond := .code yJh_isTable bJh_isTable 1 (some .boolean) :: jw
theorem dJh_isTable_0 : decode bJh_isTable 0 = .ok (.iload_n 0, 1) := by decide +kernel
theorem dJh_isTable_1 : decode bJh_isTable 1 = .ok (.ifCond .lt 13, 3) := by decide +kernel
theorem dJh_isTable_4 : decode bJh_isTable 4 = .ok (.iload_n 0, 1) := by decide +kernel
theorem dJh_isTable_5 : decode bJh_isTable 5 = .ok (.bipush 6, 2) := by decide +kernel
theorem dJh_isTable_7 : decode bJh_isTable 7 = .ok (.if_icmp .ge 7, 3) := by decide +kernel
theorem dJh_isTable_10 : decode bJh_isTable 10 = .ok (.iconst 1, 1) := by decide +kernel
theorem dJh_isTable_11 : decode bJh_isTable 11 = .ok (.goto 4, 3) := by decide +kernel
theorem dJh_isTable_14 : decode bJh_isTable 14 = .ok (.iconst 0, 1) := by decide +kernel
theorem dJh_isTable_15 : decode bJh_isTable 15 = .ok (.ireturn, 1) := by decide +kernel
abbrev rJh_isTable : Room := { frames := 0, cells := 0, slots := 0, locals := 0 }
def fJh_isTable_0 (x0 : Int32) (M : jM) (F : jF) : Option Int32 := (if x0 < 0 then some 0 else (if 6 ≤ x0 then some 0 else some 1))
abbrev fJh_isTable (x0 : Int32) (M : jM) (F : jF) : Option Int32 := fJh_isTable_0 x0 M F
set_option maxHeartbeats 4000000 in
set_option maxRecDepth 100000 in
theorem uJh_isTable_0 {p : Program} {e : Env} {s : State} {m : MethodId} {args : Array Value} {below : List Frame} {meth : Method} {c : Code} (l : Launch) (dC : Nat → ClassId) (dI : Nat → Nat → Nat) (cA : ClassId) (A : Nat → Nat) (Ap : Nat → Prop) (hC : jAt p s m args meth c bJh_isTable 1 (some .boolean) wJh_isTable RJh) (hA : ∀ q : Nat, s.heap.size ≤ q → Ap q) {r : Int32} : ∀ (x0 : Int32) (M : jM) (F : jF) (B : Nat → Nat) (H : Heap) (locs : List Loc) (ls : Array Slot), jH (dC, dI) jCl [(cA, .int)] (jW cA A B M F) Ap s H locs → lv_has ls 1 [(0, .int x0)] → fJh_isTable_0 x0 M F = some r → W p l e (headSpec wJh_isTable rJh_isTable).room s m args below meth c H locs 0 0 (jQi below (dC, dI) jCl [(cA, .int)] (fun B => jW cA A B M F) Ap args s r) (F0 m 0 ls []) := by
  obtain ⟨hx, hb, hml, hr, hts, hown, hlocks, hN⟩ := id hC
  have hj : ∀ w ∈ jw, w.before args s = true := fun w h => hts w (List.mem_cons_of_mem _ h)
  intro x0 M F B H locs ls hJ hl h
  unfold fJh_isTable_0 at h
  refine lv_iload_n hx hb dJh_isTable_0 rfl (lv_at hl 0 rfl) ?_
  refine lv_if_lt (tgt := 14) hx hb dJh_isTable_1 (by decide) (fun c1 => ?_) (fun c1 => ?_)
  · replace h := jif_t c1 h
    refine lv_iconst (v := 0) hx hb dJh_isTable_14 (by decide) ?_
    exact jreti (u := B) hx hb hr rfl hlocks hJ dJh_isTable_15 (Option.some.inj h)
  · replace h := jif_f c1 h
    refine lv_iload_n hx hb dJh_isTable_4 rfl (lv_at hl 0 rfl) ?_
    refine lv_bipush (v := 6) hx hb dJh_isTable_5 (by decide) ?_
    refine lv_icmp_ge (tgt := 14) hx hb dJh_isTable_7 (by decide) (fun c2 => ?_) (fun c2 => ?_)
    · replace h := jif_t c2 h
      refine lv_iconst (v := 0) hx hb dJh_isTable_14 (by decide) ?_
      exact jreti (u := B) hx hb hr rfl hlocks hJ dJh_isTable_15 (Option.some.inj h)
    · replace h := jif_f c2 h
      refine lv_iconst (v := 1) hx hb dJh_isTable_10 (by decide) ?_
      refine lv_goto (tgt := 15) hx hb dJh_isTable_11 (by decide) ?_
      exact jreti (u := B) hx hb hr rfl hlocks hJ dJh_isTable_15 (Option.some.inj h)
set_option maxHeartbeats 4000000 in
set_option maxRecDepth 100000 in
theorem cJh_isTable (l : Launch) (dC : Nat → ClassId) (dI : Nat → Nat → Nat) (cA : ClassId) (A : Nat → Nat) (x0 : Int32) (M : jM) (F : jF) (B : Nat → Nat) (sz : Nat) {r : Int32} (h : fJh_isTable x0 M F = some r) : jCi l yJh_isTable wJh_isTable rJh_isTable (dC, dI) jCl [(cA, .int)] [.int x0] (jW cA A B M F) sz r (fun B => jW cA A B M F) :=
  jOf (Qc := fun Ap => va_Qi (fun q (_ : Nat → Nat) => q = r) (jPost (dC, dI) jCl [(cA, .int)] (fun B => jW cA A B M F) Ap) Ap) (by decide) rfl (Nat.le_of_ble_eq_true rfl) (fun p e s m below meth c Ap ls hC hA hJ hl => uJh_isTable_0 l dC dI cA A Ap hC hA _ _ _ _ _ _ _ hJ (lv_sub hl [0] rfl) h)
abbrev bJh_isIn : ByteArray := prog_1_method_19_code
abbrev yJh_isIn : MethodName := ⟨RJh, "isIn", "(II)Z"⟩
abbrev wJh_isIn : List Cond := .code yJh_isIn bJh_isIn 2 (some .boolean) :: jw
theorem dJh_isIn_0 : decode bJh_isIn 0 = .ok (.iload_n 0, 1) := by decide +kernel
theorem dJh_isIn_1 : decode bJh_isIn 1 = .ok (.iload_n 1, 1) := by decide +kernel
theorem dJh_isIn_2 : decode bJh_isIn 2 = .ok (.iushr, 1) := by decide +kernel
theorem dJh_isIn_3 : decode bJh_isIn 3 = .ok (.iconst 1, 1) := by decide +kernel
theorem dJh_isIn_4 : decode bJh_isIn 4 = .ok (.iand, 1) := by decide +kernel
theorem dJh_isIn_5 : decode bJh_isIn 5 = .ok (.ifCond .eq 7, 3) := by decide +kernel
theorem dJh_isIn_8 : decode bJh_isIn 8 = .ok (.iconst 1, 1) := by decide +kernel
theorem dJh_isIn_9 : decode bJh_isIn 9 = .ok (.goto 4, 3) := by decide +kernel
theorem dJh_isIn_12 : decode bJh_isIn 12 = .ok (.iconst 0, 1) := by decide +kernel
theorem dJh_isIn_13 : decode bJh_isIn 13 = .ok (.ireturn, 1) := by decide +kernel
abbrev rJh_isIn : Room := { frames := 0, cells := 0, slots := 0, locals := 0 }
def fJh_isIn_0 (x0 : Int32) (x1 : Int32) (M : jM) (F : jF) : Option Int32 := (if ((jus x0 x1) &&& 1) = 0 then some 0 else some 1)
abbrev fJh_isIn (x0 : Int32) (x1 : Int32) (M : jM) (F : jF) : Option Int32 := fJh_isIn_0 x0 x1 M F
set_option maxHeartbeats 4000000 in
set_option maxRecDepth 100000 in
theorem uJh_isIn_0 {p : Program} {e : Env} {s : State} {m : MethodId} {args : Array Value} {below : List Frame} {meth : Method} {c : Code} (l : Launch) (dC : Nat → ClassId) (dI : Nat → Nat → Nat) (cA : ClassId) (A : Nat → Nat) (Ap : Nat → Prop) (hC : jAt p s m args meth c bJh_isIn 2 (some .boolean) wJh_isIn RJh) (hA : ∀ q : Nat, s.heap.size ≤ q → Ap q) {r : Int32} : ∀ (x0 x1 : Int32) (M : jM) (F : jF) (B : Nat → Nat) (H : Heap) (locs : List Loc) (ls : Array Slot), jH (dC, dI) jCl [(cA, .int)] (jW cA A B M F) Ap s H locs → lv_has ls 2 [(0, .int x0), (1, .int x1)] → fJh_isIn_0 x0 x1 M F = some r → W p l e (headSpec wJh_isIn rJh_isIn).room s m args below meth c H locs 0 0 (jQi below (dC, dI) jCl [(cA, .int)] (fun B => jW cA A B M F) Ap args s r) (F0 m 0 ls []) := by
  obtain ⟨hx, hb, hml, hr, hts, hown, hlocks, hN⟩ := id hC
  have hj : ∀ w ∈ jw, w.before args s = true := fun w h => hts w (List.mem_cons_of_mem _ h)
  intro x0 x1 M F B H locs ls hJ hl h
  unfold fJh_isIn_0 at h
  refine lv_iload_n hx hb dJh_isIn_0 rfl (lv_at hl 0 rfl) ?_
  refine lv_iload_n hx hb dJh_isIn_1 rfl (lv_at hl 1 rfl) ?_
  refine lv_iushr (v := jus x0 x1) hx hb dJh_isIn_2 rfl ?_
  refine lv_iconst (v := 1) hx hb dJh_isIn_3 (by decide) ?_
  refine lv_iand hx hb dJh_isIn_4 ?_
  refine lv_if_eq (tgt := 12) hx hb dJh_isIn_5 (by decide) (fun c1 => ?_) (fun c1 => ?_)
  · replace h := jif_t c1 h
    refine lv_iconst (v := 0) hx hb dJh_isIn_12 (by decide) ?_
    exact jreti (u := B) hx hb hr rfl hlocks hJ dJh_isIn_13 (Option.some.inj h)
  · replace h := jif_f c1 h
    refine lv_iconst (v := 1) hx hb dJh_isIn_8 (by decide) ?_
    refine lv_goto (tgt := 13) hx hb dJh_isIn_9 (by decide) ?_
    exact jreti (u := B) hx hb hr rfl hlocks hJ dJh_isIn_13 (Option.some.inj h)
set_option maxHeartbeats 4000000 in
set_option maxRecDepth 100000 in
theorem cJh_isIn (l : Launch) (dC : Nat → ClassId) (dI : Nat → Nat → Nat) (cA : ClassId) (A : Nat → Nat) (x0 : Int32) (x1 : Int32) (M : jM) (F : jF) (B : Nat → Nat) (sz : Nat) {r : Int32} (h : fJh_isIn x0 x1 M F = some r) : jCi l yJh_isIn wJh_isIn rJh_isIn (dC, dI) jCl [(cA, .int)] [.int x0, .int x1] (jW cA A B M F) sz r (fun B => jW cA A B M F) :=
  jOf (Qc := fun Ap => va_Qi (fun q (_ : Nat → Nat) => q = r) (jPost (dC, dI) jCl [(cA, .int)] (fun B => jW cA A B M F) Ap) Ap) (by decide) rfl (Nat.le_of_ble_eq_true rfl) (fun p e s m below meth c Ap ls hC hA hJ hl => uJh_isIn_0 l dC dI cA A Ap hC hA _ _ _ _ _ _ _ _ hJ (lv_sub hl [0, 1] rfl) h)
abbrev bJh_rowIn : ByteArray := prog_1_method_20_code
abbrev yJh_rowIn : MethodName := ⟨RJh, "rowIn", "(II)I"⟩
abbrev wJh_rowIn : List Cond := .code yJh_rowIn bJh_rowIn 2 (some .int) :: jw
theorem dJh_rowIn_0 : decode bJh_rowIn 0 = .ok (.iload_n 0, 1) := by decide +kernel
theorem dJh_rowIn_1 : decode bJh_rowIn 1 = .ok (.iload_n 1, 1) := by decide +kernel
theorem dJh_rowIn_2 : decode bJh_rowIn 2 = .ok (.iconst 5, 1) := by decide +kernel
theorem dJh_rowIn_3 : decode bJh_rowIn 3 = .ok (.imul, 1) := by decide +kernel
theorem dJh_rowIn_4 : decode bJh_rowIn 4 = .ok (.iushr, 1) := by decide +kernel
theorem dJh_rowIn_5 : decode bJh_rowIn 5 = .ok (.bipush 31, 2) := by decide +kernel
theorem dJh_rowIn_7 : decode bJh_rowIn 7 = .ok (.iand, 1) := by decide +kernel
theorem dJh_rowIn_8 : decode bJh_rowIn 8 = .ok (.ireturn, 1) := by decide +kernel
abbrev rJh_rowIn : Room := { frames := 0, cells := 0, slots := 0, locals := 0 }
def fJh_rowIn_0 (x0 : Int32) (x1 : Int32) (M : jM) (F : jF) : Option Int32 := some ((jus x0 (x1 * 5)) &&& 31)
abbrev fJh_rowIn (x0 : Int32) (x1 : Int32) (M : jM) (F : jF) : Option Int32 := fJh_rowIn_0 x0 x1 M F
set_option maxHeartbeats 4000000 in
set_option maxRecDepth 100000 in
theorem uJh_rowIn_0 {p : Program} {e : Env} {s : State} {m : MethodId} {args : Array Value} {below : List Frame} {meth : Method} {c : Code} (l : Launch) (dC : Nat → ClassId) (dI : Nat → Nat → Nat) (cA : ClassId) (A : Nat → Nat) (Ap : Nat → Prop) (hC : jAt p s m args meth c bJh_rowIn 2 (some .int) wJh_rowIn RJh) (hA : ∀ q : Nat, s.heap.size ≤ q → Ap q) {r : Int32} : ∀ (x0 x1 : Int32) (M : jM) (F : jF) (B : Nat → Nat) (H : Heap) (locs : List Loc) (ls : Array Slot), jH (dC, dI) jCl [(cA, .int)] (jW cA A B M F) Ap s H locs → lv_has ls 2 [(0, .int x0), (1, .int x1)] → fJh_rowIn_0 x0 x1 M F = some r → W p l e (headSpec wJh_rowIn rJh_rowIn).room s m args below meth c H locs 0 0 (jQi below (dC, dI) jCl [(cA, .int)] (fun B => jW cA A B M F) Ap args s r) (F0 m 0 ls []) := by
  obtain ⟨hx, hb, hml, hr, hts, hown, hlocks, hN⟩ := id hC
  have hj : ∀ w ∈ jw, w.before args s = true := fun w h => hts w (List.mem_cons_of_mem _ h)
  intro x0 x1 M F B H locs ls hJ hl h
  unfold fJh_rowIn_0 at h
  refine lv_iload_n hx hb dJh_rowIn_0 rfl (lv_at hl 0 rfl) ?_
  refine lv_iload_n hx hb dJh_rowIn_1 rfl (lv_at hl 1 rfl) ?_
  refine lv_iconst (v := 5) hx hb dJh_rowIn_2 (by decide) ?_
  refine lv_imul hx hb dJh_rowIn_3 ?_
  refine lv_iushr (v := jus x0 (x1 * 5)) hx hb dJh_rowIn_4 rfl ?_
  refine lv_bipush (v := 31) hx hb dJh_rowIn_5 (by decide) ?_
  refine lv_iand hx hb dJh_rowIn_7 ?_
  exact jreti (u := B) hx hb hr rfl hlocks hJ dJh_rowIn_8 (Option.some.inj h)
set_option maxHeartbeats 4000000 in
set_option maxRecDepth 100000 in
theorem cJh_rowIn (l : Launch) (dC : Nat → ClassId) (dI : Nat → Nat → Nat) (cA : ClassId) (A : Nat → Nat) (x0 : Int32) (x1 : Int32) (M : jM) (F : jF) (B : Nat → Nat) (sz : Nat) {r : Int32} (h : fJh_rowIn x0 x1 M F = some r) : jCi l yJh_rowIn wJh_rowIn rJh_rowIn (dC, dI) jCl [(cA, .int)] [.int x0, .int x1] (jW cA A B M F) sz r (fun B => jW cA A B M F) :=
  jOf (Qc := fun Ap => va_Qi (fun q (_ : Nat → Nat) => q = r) (jPost (dC, dI) jCl [(cA, .int)] (fun B => jW cA A B M F) Ap) Ap) (by decide) rfl (Nat.le_of_ble_eq_true rfl) (fun p e s m below meth c Ap ls hC hA hJ hl => uJh_rowIn_0 l dC dI cA A Ap hC hA _ _ _ _ _ _ _ _ hJ (lv_sub hl [0, 1] rfl) h)
abbrev bIn_bitCount : ByteArray := prog_11_method_49_code
abbrev yIn_bitCount : MethodName := ⟨RIn, "bitCount", "(I)I"⟩
abbrev wIn_bitCount : List Cond := .code yIn_bitCount bIn_bitCount 1 (some .int) :: jw
theorem dIn_bitCount_0 : decode bIn_bitCount 0 = .ok (.iload_n 0, 1) := by decide +kernel
theorem dIn_bitCount_1 : decode bIn_bitCount 1 = .ok (.iload_n 0, 1) := by decide +kernel
theorem dIn_bitCount_2 : decode bIn_bitCount 2 = .ok (.iconst 1, 1) := by decide +kernel
theorem dIn_bitCount_3 : decode bIn_bitCount 3 = .ok (.iushr, 1) := by decide +kernel
theorem dIn_bitCount_4 : decode bIn_bitCount 4 = .ok (.ldc_w 265, 3) := by decide +kernel
theorem dIn_bitCount_7 : decode bIn_bitCount 7 = .ok (.iand, 1) := by decide +kernel
theorem dIn_bitCount_8 : decode bIn_bitCount 8 = .ok (.isub, 1) := by decide +kernel
theorem dIn_bitCount_9 : decode bIn_bitCount 9 = .ok (.istore_n 0, 1) := by decide +kernel
theorem dIn_bitCount_10 : decode bIn_bitCount 10 = .ok (.iload_n 0, 1) := by decide +kernel
theorem dIn_bitCount_11 : decode bIn_bitCount 11 = .ok (.ldc_w 266, 3) := by decide +kernel
theorem dIn_bitCount_14 : decode bIn_bitCount 14 = .ok (.iand, 1) := by decide +kernel
theorem dIn_bitCount_15 : decode bIn_bitCount 15 = .ok (.iload_n 0, 1) := by decide +kernel
theorem dIn_bitCount_16 : decode bIn_bitCount 16 = .ok (.iconst 2, 1) := by decide +kernel
theorem dIn_bitCount_17 : decode bIn_bitCount 17 = .ok (.iushr, 1) := by decide +kernel
theorem dIn_bitCount_18 : decode bIn_bitCount 18 = .ok (.ldc_w 266, 3) := by decide +kernel
theorem dIn_bitCount_21 : decode bIn_bitCount 21 = .ok (.iand, 1) := by decide +kernel
theorem dIn_bitCount_22 : decode bIn_bitCount 22 = .ok (.iadd, 1) := by decide +kernel
theorem dIn_bitCount_23 : decode bIn_bitCount 23 = .ok (.istore_n 0, 1) := by decide +kernel
theorem dIn_bitCount_24 : decode bIn_bitCount 24 = .ok (.iload_n 0, 1) := by decide +kernel
theorem dIn_bitCount_25 : decode bIn_bitCount 25 = .ok (.iload_n 0, 1) := by decide +kernel
theorem dIn_bitCount_26 : decode bIn_bitCount 26 = .ok (.iconst 4, 1) := by decide +kernel
theorem dIn_bitCount_27 : decode bIn_bitCount 27 = .ok (.iushr, 1) := by decide +kernel
theorem dIn_bitCount_28 : decode bIn_bitCount 28 = .ok (.iadd, 1) := by decide +kernel
theorem dIn_bitCount_29 : decode bIn_bitCount 29 = .ok (.ldc_w 267, 3) := by decide +kernel
theorem dIn_bitCount_32 : decode bIn_bitCount 32 = .ok (.iand, 1) := by decide +kernel
theorem dIn_bitCount_33 : decode bIn_bitCount 33 = .ok (.istore_n 0, 1) := by decide +kernel
theorem dIn_bitCount_34 : decode bIn_bitCount 34 = .ok (.iload_n 0, 1) := by decide +kernel
theorem dIn_bitCount_35 : decode bIn_bitCount 35 = .ok (.iload_n 0, 1) := by decide +kernel
theorem dIn_bitCount_36 : decode bIn_bitCount 36 = .ok (.bipush 8, 2) := by decide +kernel
theorem dIn_bitCount_38 : decode bIn_bitCount 38 = .ok (.iushr, 1) := by decide +kernel
theorem dIn_bitCount_39 : decode bIn_bitCount 39 = .ok (.iadd, 1) := by decide +kernel
theorem dIn_bitCount_40 : decode bIn_bitCount 40 = .ok (.istore_n 0, 1) := by decide +kernel
theorem dIn_bitCount_41 : decode bIn_bitCount 41 = .ok (.iload_n 0, 1) := by decide +kernel
theorem dIn_bitCount_42 : decode bIn_bitCount 42 = .ok (.iload_n 0, 1) := by decide +kernel
theorem dIn_bitCount_43 : decode bIn_bitCount 43 = .ok (.bipush 16, 2) := by decide +kernel
theorem dIn_bitCount_45 : decode bIn_bitCount 45 = .ok (.iushr, 1) := by decide +kernel
theorem dIn_bitCount_46 : decode bIn_bitCount 46 = .ok (.iadd, 1) := by decide +kernel
theorem dIn_bitCount_47 : decode bIn_bitCount 47 = .ok (.istore_n 0, 1) := by decide +kernel
theorem dIn_bitCount_48 : decode bIn_bitCount 48 = .ok (.iload_n 0, 1) := by decide +kernel
theorem dIn_bitCount_49 : decode bIn_bitCount 49 = .ok (.bipush 63, 2) := by decide +kernel
theorem dIn_bitCount_51 : decode bIn_bitCount 51 = .ok (.iand, 1) := by decide +kernel
theorem dIn_bitCount_52 : decode bIn_bitCount 52 = .ok (.ireturn, 1) := by decide +kernel
abbrev rIn_bitCount : Room := { frames := 0, cells := 0, slots := 0, locals := 0 }
def fIn_bitCount_0 (x0 : Int32) (M : jM) (F : jF) : Option Int32 := some ((((((((x0 - ((jus x0 1) &&& 1431655765)) &&& 858993459) + ((jus (x0 - ((jus x0 1) &&& 1431655765)) 2) &&& 858993459)) + (jus (((x0 - ((jus x0 1) &&& 1431655765)) &&& 858993459) + ((jus (x0 - ((jus x0 1) &&& 1431655765)) 2) &&& 858993459)) 4)) &&& 252645135) + (jus (((((x0 - ((jus x0 1) &&& 1431655765)) &&& 858993459) + ((jus (x0 - ((jus x0 1) &&& 1431655765)) 2) &&& 858993459)) + (jus (((x0 - ((jus x0 1) &&& 1431655765)) &&& 858993459) + ((jus (x0 - ((jus x0 1) &&& 1431655765)) 2) &&& 858993459)) 4)) &&& 252645135) 8)) + (jus ((((((x0 - ((jus x0 1) &&& 1431655765)) &&& 858993459) + ((jus (x0 - ((jus x0 1) &&& 1431655765)) 2) &&& 858993459)) + (jus (((x0 - ((jus x0 1) &&& 1431655765)) &&& 858993459) + ((jus (x0 - ((jus x0 1) &&& 1431655765)) 2) &&& 858993459)) 4)) &&& 252645135) + (jus (((((x0 - ((jus x0 1) &&& 1431655765)) &&& 858993459) + ((jus (x0 - ((jus x0 1) &&& 1431655765)) 2) &&& 858993459)) + (jus (((x0 - ((jus x0 1) &&& 1431655765)) &&& 858993459) + ((jus (x0 - ((jus x0 1) &&& 1431655765)) 2) &&& 858993459)) 4)) &&& 252645135) 8)) 16)) &&& 63)
abbrev fIn_bitCount (x0 : Int32) (M : jM) (F : jF) : Option Int32 := fIn_bitCount_0 x0 M F
set_option maxHeartbeats 4000000 in
set_option maxRecDepth 100000 in
theorem uIn_bitCount_0 {p : Program} {e : Env} {s : State} {m : MethodId} {args : Array Value} {below : List Frame} {meth : Method} {c : Code} (l : Launch) (dC : Nat → ClassId) (dI : Nat → Nat → Nat) (cA : ClassId) (A : Nat → Nat) (Ap : Nat → Prop) (hC : jAt p s m args meth c bIn_bitCount 1 (some .int) wIn_bitCount RIn) (hA : ∀ q : Nat, s.heap.size ≤ q → Ap q) {r : Int32} : ∀ (x0 : Int32) (M : jM) (F : jF) (B : Nat → Nat) (H : Heap) (locs : List Loc) (ls : Array Slot), jH (dC, dI) jCl [(cA, .int)] (jW cA A B M F) Ap s H locs → lv_has ls 1 [(0, .int x0)] → fIn_bitCount_0 x0 M F = some r → W p l e (headSpec wIn_bitCount rIn_bitCount).room s m args below meth c H locs 0 0 (jQi below (dC, dI) jCl [(cA, .int)] (fun B => jW cA A B M F) Ap args s r) (F0 m 0 ls []) := by
  obtain ⟨hx, hb, hml, hr, hts, hown, hlocks, hN⟩ := id hC
  have hj : ∀ w ∈ jw, w.before args s = true := fun w h => hts w (List.mem_cons_of_mem _ h)
  intro x0 M F B H locs ls hJ hl h
  unfold fIn_bitCount_0 at h
  refine lv_iload_n hx hb dIn_bitCount_0 rfl (lv_at hl 0 rfl) ?_
  refine lv_iload_n hx hb dIn_bitCount_1 rfl (lv_at hl 0 rfl) ?_
  refine lv_iconst (v := 1) hx hb dIn_bitCount_2 (by decide) ?_
  refine lv_iushr (v := jus x0 1) hx hb dIn_bitCount_3 rfl ?_
  refine lv_ldcw (v := 1431655765) hx hb hown (hj _ jw_554) dIn_bitCount_4 ?_
  refine lv_iand hx hb dIn_bitCount_7 ?_
  refine lv_isub hx hb dIn_bitCount_8 ?_
  refine lv_istore_n (lv' := [(0, .int (x0 - ((jus x0 1) &&& 1431655765)))]) hx hb dIn_bitCount_9 rfl hl (by decide) rfl (fun ls hl => ?_)
  refine lv_iload_n hx hb dIn_bitCount_10 rfl (lv_at hl 0 rfl) ?_
  refine lv_ldcw (v := 858993459) hx hb hown (hj _ jw_555) dIn_bitCount_11 ?_
  refine lv_iand hx hb dIn_bitCount_14 ?_
  refine lv_iload_n hx hb dIn_bitCount_15 rfl (lv_at hl 0 rfl) ?_
  refine lv_iconst (v := 2) hx hb dIn_bitCount_16 (by decide) ?_
  refine lv_iushr (v := jus (x0 - ((jus x0 1) &&& 1431655765)) 2) hx hb dIn_bitCount_17 rfl ?_
  refine lv_ldcw (v := 858993459) hx hb hown (hj _ jw_555) dIn_bitCount_18 ?_
  refine lv_iand hx hb dIn_bitCount_21 ?_
  refine lv_iadd hx hb dIn_bitCount_22 ?_
  refine lv_istore_n (lv' := [(0, .int (((x0 - ((jus x0 1) &&& 1431655765)) &&& 858993459) + ((jus (x0 - ((jus x0 1) &&& 1431655765)) 2) &&& 858993459)))]) hx hb dIn_bitCount_23 rfl hl (by decide) rfl (fun ls hl => ?_)
  refine lv_iload_n hx hb dIn_bitCount_24 rfl (lv_at hl 0 rfl) ?_
  refine lv_iload_n hx hb dIn_bitCount_25 rfl (lv_at hl 0 rfl) ?_
  refine lv_iconst (v := 4) hx hb dIn_bitCount_26 (by decide) ?_
  refine lv_iushr (v := jus (((x0 - ((jus x0 1) &&& 1431655765)) &&& 858993459) + ((jus (x0 - ((jus x0 1) &&& 1431655765)) 2) &&& 858993459)) 4) hx hb dIn_bitCount_27 rfl ?_
  refine lv_iadd hx hb dIn_bitCount_28 ?_
  refine lv_ldcw (v := 252645135) hx hb hown (hj _ jw_556) dIn_bitCount_29 ?_
  refine lv_iand hx hb dIn_bitCount_32 ?_
  refine lv_istore_n (lv' := [(0, .int (((((x0 - ((jus x0 1) &&& 1431655765)) &&& 858993459) + ((jus (x0 - ((jus x0 1) &&& 1431655765)) 2) &&& 858993459)) + (jus (((x0 - ((jus x0 1) &&& 1431655765)) &&& 858993459) + ((jus (x0 - ((jus x0 1) &&& 1431655765)) 2) &&& 858993459)) 4)) &&& 252645135))]) hx hb dIn_bitCount_33 rfl hl (by decide) rfl (fun ls hl => ?_)
  refine lv_iload_n hx hb dIn_bitCount_34 rfl (lv_at hl 0 rfl) ?_
  refine lv_iload_n hx hb dIn_bitCount_35 rfl (lv_at hl 0 rfl) ?_
  refine lv_bipush (v := 8) hx hb dIn_bitCount_36 (by decide) ?_
  refine lv_iushr (v := jus (((((x0 - ((jus x0 1) &&& 1431655765)) &&& 858993459) + ((jus (x0 - ((jus x0 1) &&& 1431655765)) 2) &&& 858993459)) + (jus (((x0 - ((jus x0 1) &&& 1431655765)) &&& 858993459) + ((jus (x0 - ((jus x0 1) &&& 1431655765)) 2) &&& 858993459)) 4)) &&& 252645135) 8) hx hb dIn_bitCount_38 rfl ?_
  refine lv_iadd hx hb dIn_bitCount_39 ?_
  refine lv_istore_n (lv' := [(0, .int ((((((x0 - ((jus x0 1) &&& 1431655765)) &&& 858993459) + ((jus (x0 - ((jus x0 1) &&& 1431655765)) 2) &&& 858993459)) + (jus (((x0 - ((jus x0 1) &&& 1431655765)) &&& 858993459) + ((jus (x0 - ((jus x0 1) &&& 1431655765)) 2) &&& 858993459)) 4)) &&& 252645135) + (jus (((((x0 - ((jus x0 1) &&& 1431655765)) &&& 858993459) + ((jus (x0 - ((jus x0 1) &&& 1431655765)) 2) &&& 858993459)) + (jus (((x0 - ((jus x0 1) &&& 1431655765)) &&& 858993459) + ((jus (x0 - ((jus x0 1) &&& 1431655765)) 2) &&& 858993459)) 4)) &&& 252645135) 8)))]) hx hb dIn_bitCount_40 rfl hl (by decide) rfl (fun ls hl => ?_)
  refine lv_iload_n hx hb dIn_bitCount_41 rfl (lv_at hl 0 rfl) ?_
  refine lv_iload_n hx hb dIn_bitCount_42 rfl (lv_at hl 0 rfl) ?_
  refine lv_bipush (v := 16) hx hb dIn_bitCount_43 (by decide) ?_
  refine lv_iushr (v := jus ((((((x0 - ((jus x0 1) &&& 1431655765)) &&& 858993459) + ((jus (x0 - ((jus x0 1) &&& 1431655765)) 2) &&& 858993459)) + (jus (((x0 - ((jus x0 1) &&& 1431655765)) &&& 858993459) + ((jus (x0 - ((jus x0 1) &&& 1431655765)) 2) &&& 858993459)) 4)) &&& 252645135) + (jus (((((x0 - ((jus x0 1) &&& 1431655765)) &&& 858993459) + ((jus (x0 - ((jus x0 1) &&& 1431655765)) 2) &&& 858993459)) + (jus (((x0 - ((jus x0 1) &&& 1431655765)) &&& 858993459) + ((jus (x0 - ((jus x0 1) &&& 1431655765)) 2) &&& 858993459)) 4)) &&& 252645135) 8)) 16) hx hb dIn_bitCount_45 rfl ?_
  refine lv_iadd hx hb dIn_bitCount_46 ?_
  refine lv_istore_n (lv' := [(0, .int (((((((x0 - ((jus x0 1) &&& 1431655765)) &&& 858993459) + ((jus (x0 - ((jus x0 1) &&& 1431655765)) 2) &&& 858993459)) + (jus (((x0 - ((jus x0 1) &&& 1431655765)) &&& 858993459) + ((jus (x0 - ((jus x0 1) &&& 1431655765)) 2) &&& 858993459)) 4)) &&& 252645135) + (jus (((((x0 - ((jus x0 1) &&& 1431655765)) &&& 858993459) + ((jus (x0 - ((jus x0 1) &&& 1431655765)) 2) &&& 858993459)) + (jus (((x0 - ((jus x0 1) &&& 1431655765)) &&& 858993459) + ((jus (x0 - ((jus x0 1) &&& 1431655765)) 2) &&& 858993459)) 4)) &&& 252645135) 8)) + (jus ((((((x0 - ((jus x0 1) &&& 1431655765)) &&& 858993459) + ((jus (x0 - ((jus x0 1) &&& 1431655765)) 2) &&& 858993459)) + (jus (((x0 - ((jus x0 1) &&& 1431655765)) &&& 858993459) + ((jus (x0 - ((jus x0 1) &&& 1431655765)) 2) &&& 858993459)) 4)) &&& 252645135) + (jus (((((x0 - ((jus x0 1) &&& 1431655765)) &&& 858993459) + ((jus (x0 - ((jus x0 1) &&& 1431655765)) 2) &&& 858993459)) + (jus (((x0 - ((jus x0 1) &&& 1431655765)) &&& 858993459) + ((jus (x0 - ((jus x0 1) &&& 1431655765)) 2) &&& 858993459)) 4)) &&& 252645135) 8)) 16)))]) hx hb dIn_bitCount_47 rfl hl (by decide) rfl (fun ls hl => ?_)
  refine lv_iload_n hx hb dIn_bitCount_48 rfl (lv_at hl 0 rfl) ?_
  refine lv_bipush (v := 63) hx hb dIn_bitCount_49 (by decide) ?_
  refine lv_iand hx hb dIn_bitCount_51 ?_
  exact jreti (u := B) hx hb hr rfl hlocks hJ dIn_bitCount_52 (Option.some.inj h)
set_option maxHeartbeats 4000000 in
set_option maxRecDepth 100000 in
theorem cIn_bitCount (l : Launch) (dC : Nat → ClassId) (dI : Nat → Nat → Nat) (cA : ClassId) (A : Nat → Nat) (x0 : Int32) (M : jM) (F : jF) (B : Nat → Nat) (sz : Nat) {r : Int32} (h : fIn_bitCount x0 M F = some r) : jCi l yIn_bitCount wIn_bitCount rIn_bitCount (dC, dI) jCl [(cA, .int)] [.int x0] (jW cA A B M F) sz r (fun B => jW cA A B M F) :=
  jOf (Qc := fun Ap => va_Qi (fun q (_ : Nat → Nat) => q = r) (jPost (dC, dI) jCl [(cA, .int)] (fun B => jW cA A B M F) Ap) Ap) (by decide) rfl (Nat.le_of_ble_eq_true rfl) (fun p e s m below meth c Ap ls hC hA hJ hl => uIn_bitCount_0 l dC dI cA A Ap hC hA _ _ _ _ _ _ _ hJ (lv_sub hl [0] rfl) h)
abbrev bAr_fill : ByteArray := prog_17_method_103_code
abbrev yAr_fill : MethodName := ⟨RAr, "fill", "([II)V"⟩
abbrev wAr_fill : List Cond := .code yAr_fill bAr_fill 4 none :: jw
theorem dAr_fill_0 : decode bAr_fill 0 = .ok (.iconst 0, 1) := by decide +kernel
theorem dAr_fill_1 : decode bAr_fill 1 = .ok (.istore_n 2, 1) := by decide +kernel
theorem dAr_fill_2 : decode bAr_fill 2 = .ok (.aload_n 0, 1) := by decide +kernel
theorem dAr_fill_3 : decode bAr_fill 3 = .ok (.arraylength, 1) := by decide +kernel
theorem dAr_fill_4 : decode bAr_fill 4 = .ok (.istore_n 3, 1) := by decide +kernel
theorem dAr_fill_5 : decode bAr_fill 5 = .ok (.iload_n 2, 1) := by decide +kernel
theorem dAr_fill_6 : decode bAr_fill 6 = .ok (.iload_n 3, 1) := by decide +kernel
theorem dAr_fill_7 : decode bAr_fill 7 = .ok (.if_icmp .ge 13, 3) := by decide +kernel
theorem dAr_fill_10 : decode bAr_fill 10 = .ok (.aload_n 0, 1) := by decide +kernel
theorem dAr_fill_11 : decode bAr_fill 11 = .ok (.iload_n 2, 1) := by decide +kernel
theorem dAr_fill_12 : decode bAr_fill 12 = .ok (.iload_n 1, 1) := by decide +kernel
theorem dAr_fill_13 : decode bAr_fill 13 = .ok (.iastore, 1) := by decide +kernel
theorem dAr_fill_14 : decode bAr_fill 14 = .ok (.iinc 2 1, 3) := by decide +kernel
theorem dAr_fill_17 : decode bAr_fill 17 = .ok (.goto (-12), 3) := by decide +kernel
theorem dAr_fill_20 : decode bAr_fill 20 = .ok (.return_, 1) := by decide +kernel
abbrev rAr_fill : Room := { frames := 0, cells := 0, slots := 0, locals := 0 }
def fAr_fill_5 : Nat → Int32 → Int32 → Int32 → jM → jF → Option (Int32 × jM × jF)
  | 0, _, _, _, _, _ => none
  | n + 1, x1, x2, x3, M, F => (if x3 ≤ x2 then some (0, M, F) else (if jib x2 33 then fAr_fill_5 n x1 (x2 + 1) x3 (jmu M 25 x2.toNatClampNeg x1) F else none))
def fAr_fill_0 (x1 : Int32) (M : jM) (F : jF) : Option (Int32 × jM × jF) := fAr_fill_5 jfuel x1 0 33 M F
abbrev fAr_fill (x1 : Int32) (M : jM) (F : jF) : Option (Int32 × jM × jF) := fAr_fill_0 x1 M F
set_option maxHeartbeats 4000000 in
set_option maxRecDepth 100000 in
theorem uAr_fill_5 {p : Program} {e : Env} {s : State} {m : MethodId} {args : Array Value} {below : List Frame} {meth : Method} {c : Code} (l : Launch) (dC : Nat → ClassId) (dI : Nat → Nat → Nat) (cA : ClassId) (A : Nat → Nat) (Ap : Nat → Prop) (hC : jAt p s m args meth c bAr_fill 4 none wAr_fill RAr) (hA : ∀ q : Nat, s.heap.size ≤ q → Ap q) {r : Int32} {M' : jM} {F' : jF} : ∀ (n : Nat) (x1 x2 x3 : Int32) (M : jM) (F : jF) (B : Nat → Nat) (H : Heap) (locs : List Loc) (ls : Array Slot), jH (dC, dI) jCl [(cA, .int)] (jW cA A B M F) Ap s H locs → lv_has ls 4 [(0, .ref (A 25)), (1, .int x1), (2, .int x2), (3, .int x3)] → fAr_fill_5 n x1 x2 x3 M F = some (r, M', F') → W p l e (headSpec wAr_fill rAr_fill).room s m args below meth c H locs 0 0 (jQv below (dC, dI) jCl [(cA, .int)] (fun B => jW cA A B (M') (F')) Ap args s) (F0 m 5 ls []) := by
  obtain ⟨hx, hb, hml, hr, hts, hown, hlocks, hN⟩ := id hC
  have hj : ∀ w ∈ jw, w.before args s = true := fun w h => hts w (List.mem_cons_of_mem _ h)
  intro n
  induction n with
  | zero =>
    intro x1 x2 x3 M F B H locs ls hJ hl h
    rw [fAr_fill_5] at h
    cases h
  | succ n ih =>
    intro x1 x2 x3 M F B H locs ls hJ hl h
    rw [fAr_fill_5] at h
    refine lv_iload_n hx hb dAr_fill_5 rfl (lv_at hl 2 rfl) ?_
    refine lv_iload_n hx hb dAr_fill_6 rfl (lv_at hl 3 rfl) ?_
    refine lv_icmp_ge (tgt := 20) hx hb dAr_fill_7 (by decide) (fun c1 => ?_) (fun c1 => ?_)
    · replace h := jif_t c1 h
      cases h
      exact jretv (u := B) hx hb hr hlocks hJ dAr_fill_20
    · replace h := jif_f c1 h
      refine lv_aload_n hx hb dAr_fill_10 rfl (lv_at hl 0 rfl) ?_
      refine lv_iload_n hx hb dAr_fill_11 rfl (lv_at hl 2 rfl) ?_
      refine lv_iload_n hx hb dAr_fill_12 rfl (lv_at hl 1 rfl) ?_
      obtain ⟨hi2, h⟩ := jib_h h
      refine jast_25 hx hb hJ hi2 dAr_fill_13 (fun H locs hJ => ?_)
      refine lv_iinc (v := x2 + 1) (lv' := [(2, .int (x2 + 1)), (0, .ref (A 25)), (1, .int x1), (3, .int x3)]) hx hb dAr_fill_14 hl (k := 2) rfl rfl (by decide) rfl (fun ls hl => ?_)
      refine lv_goto (tgt := 5) hx hb dAr_fill_17 (by decide) ?_
      exact ih _ _ _ _ _ _ _ _ _ hJ (lv_sub hl [1, 2, 0, 3] rfl) h
set_option maxHeartbeats 4000000 in
set_option maxRecDepth 100000 in
theorem uAr_fill_0 {p : Program} {e : Env} {s : State} {m : MethodId} {args : Array Value} {below : List Frame} {meth : Method} {c : Code} (l : Launch) (dC : Nat → ClassId) (dI : Nat → Nat → Nat) (cA : ClassId) (A : Nat → Nat) (Ap : Nat → Prop) (hC : jAt p s m args meth c bAr_fill 4 none wAr_fill RAr) (hA : ∀ q : Nat, s.heap.size ≤ q → Ap q) {r : Int32} {M' : jM} {F' : jF} : ∀ (x1 : Int32) (M : jM) (F : jF) (B : Nat → Nat) (H : Heap) (locs : List Loc) (ls : Array Slot), jH (dC, dI) jCl [(cA, .int)] (jW cA A B M F) Ap s H locs → lv_has ls 4 [(0, .ref (A 25)), (1, .int x1)] → fAr_fill_0 x1 M F = some (r, M', F') → W p l e (headSpec wAr_fill rAr_fill).room s m args below meth c H locs 0 0 (jQv below (dC, dI) jCl [(cA, .int)] (fun B => jW cA A B (M') (F')) Ap args s) (F0 m 0 ls []) := by
  obtain ⟨hx, hb, hml, hr, hts, hown, hlocks, hN⟩ := id hC
  have hj : ∀ w ∈ jw, w.before args s = true := fun w h => hts w (List.mem_cons_of_mem _ h)
  intro x1 M F B H locs ls hJ hl h
  unfold fAr_fill_0 at h
  refine lv_iconst (v := 0) hx hb dAr_fill_0 (by decide) ?_
  refine lv_istore_n (lv' := [(2, .int 0), (0, .ref (A 25)), (1, .int x1)]) hx hb dAr_fill_1 rfl hl (by decide) rfl (fun ls hl => ?_)
  refine lv_aload_n hx hb dAr_fill_2 rfl (lv_at hl 1 rfl) ?_
  refine va_alen (v := 33) hx hb hJ.1 hJ.2.1 25 0 rfl rfl (show Int32.ofNat 33 = 33 by decide) dAr_fill_3 ?_
  refine lv_istore_n (lv' := [(3, .int 33), (2, .int 0), (0, .ref (A 25)), (1, .int x1)]) hx hb dAr_fill_4 rfl hl (by decide) rfl (fun ls hl => ?_)
  exact uAr_fill_5 l dC dI cA A Ap hC hA jfuel _ _ _ _ _ _ _ _ _ hJ (lv_sub hl [2, 3, 1, 0] rfl) h
set_option maxHeartbeats 4000000 in
set_option maxRecDepth 100000 in
theorem cAr_fill (l : Launch) (dC : Nat → ClassId) (dI : Nat → Nat → Nat) (cA : ClassId) (A : Nat → Nat) (x1 : Int32) (M : jM) (F : jF) (B : Nat → Nat) (sz : Nat) {r : Int32} {M' : jM} {F' : jF} (h : fAr_fill x1 M F = some (r, M', F')) : jCv l yAr_fill wAr_fill rAr_fill (dC, dI) jCl [(cA, .int)] [.ref (A 25), .int x1] (jW cA A B M F) sz (fun B => jW cA A B (M') (F')) :=
  jOf (Qc := fun Ap => va_Qv (fun _ : Nat → Nat => True) (jPost (dC, dI) jCl [(cA, .int)] (fun B => jW cA A B (M') (F')) Ap) Ap) (by decide) rfl (Nat.le_of_ble_eq_true rfl) (fun p e s m below meth c Ap ls hC hA hJ hl => uAr_fill_0 l dC dI cA A Ap hC hA _ _ _ _ _ _ _ hJ (lv_sub hl [0, 1] rfl) h)
