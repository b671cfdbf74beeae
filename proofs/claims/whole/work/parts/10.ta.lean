abbrev bTa_empty : ByteArray := prog_6_method_2_code
abbrev yTa_empty : MethodName := ⟨RTa, "empty", "(II)V"⟩
abbrev wTa_empty : List Cond := .code yTa_empty bTa_empty 4 none :: jw
theorem dTa_empty_0 : decode bTa_empty 0 = .ok (.aload_n 0, 1) := by decide +kernel
theorem dTa_empty_1 : decode bTa_empty 1 = .ok (.getfield 15, 3) := by decide +kernel
theorem dTa_empty_4 : decode bTa_empty 4 = .ok (.iload_n 1, 1) := by decide +kernel
theorem dTa_empty_5 : decode bTa_empty 5 = .ok (.iconst 0, 1) := by decide +kernel
theorem dTa_empty_6 : decode bTa_empty 6 = .ok (.iastore, 1) := by decide +kernel
theorem dTa_empty_7 : decode bTa_empty 7 = .ok (.aload_n 0, 1) := by decide +kernel
theorem dTa_empty_8 : decode bTa_empty 8 = .ok (.getfield 18, 3) := by decide +kernel
theorem dTa_empty_11 : decode bTa_empty 11 = .ok (.iload_n 1, 1) := by decide +kernel
theorem dTa_empty_12 : decode bTa_empty 12 = .ok (.iload_n 2, 1) := by decide +kernel
theorem dTa_empty_13 : decode bTa_empty 13 = .ok (.iastore, 1) := by decide +kernel
theorem dTa_empty_14 : decode bTa_empty 14 = .ok (.iconst 0, 1) := by decide +kernel
theorem dTa_empty_15 : decode bTa_empty 15 = .ok (.istore_n 3, 1) := by decide +kernel
theorem dTa_empty_16 : decode bTa_empty 16 = .ok (.iload_n 3, 1) := by decide +kernel
theorem dTa_empty_17 : decode bTa_empty 17 = .ok (.iconst 4, 1) := by decide +kernel
theorem dTa_empty_18 : decode bTa_empty 18 = .ok (.if_icmp .ge 20, 3) := by decide +kernel
theorem dTa_empty_21 : decode bTa_empty 21 = .ok (.aload_n 0, 1) := by decide +kernel
theorem dTa_empty_22 : decode bTa_empty 22 = .ok (.getfield 21, 3) := by decide +kernel
theorem dTa_empty_25 : decode bTa_empty 25 = .ok (.iload_n 1, 1) := by decide +kernel
theorem dTa_empty_26 : decode bTa_empty 26 = .ok (.iconst 4, 1) := by decide +kernel
theorem dTa_empty_27 : decode bTa_empty 27 = .ok (.imul, 1) := by decide +kernel
theorem dTa_empty_28 : decode bTa_empty 28 = .ok (.iload_n 3, 1) := by decide +kernel
theorem dTa_empty_29 : decode bTa_empty 29 = .ok (.iadd, 1) := by decide +kernel
theorem dTa_empty_30 : decode bTa_empty 30 = .ok (.iconst 0, 1) := by decide +kernel
theorem dTa_empty_31 : decode bTa_empty 31 = .ok (.iastore, 1) := by decide +kernel
theorem dTa_empty_32 : decode bTa_empty 32 = .ok (.iinc 3 1, 3) := by decide +kernel
theorem dTa_empty_35 : decode bTa_empty 35 = .ok (.goto (-19), 3) := by decide +kernel
theorem dTa_empty_38 : decode bTa_empty 38 = .ok (.return_, 1) := by decide +kernel
abbrev rTa_empty : Room := { frames := 0, cells := 0, slots := 0, locals := 0 }
def fTa_empty_16 : Nat → Int32 → Int32 → jM → jF → Option (Int32 × jM × jF)
  | 0, _, _, _, _ => none
  | n + 1, x1, x3, M, F => (if 4 ≤ x3 then some (0, M, F) else (if jib ((x1 * 4) + x3) 24 then fTa_empty_16 n x1 (x3 + 1) (jmu M 9 ((x1 * 4) + x3).toNatClampNeg 0) F else none))
def fTa_empty_0 (x1 : Int32) (x2 : Int32) (M : jM) (F : jF) : Option (Int32 × jM × jF) := (if jib x1 6 then (if jib x1 6 then fTa_empty_16 jfuel x1 0 (jmu (jmu M 7 x1.toNatClampNeg 0) 8 x1.toNatClampNeg x2) F else none) else none)
abbrev fTa_empty (x1 : Int32) (x2 : Int32) (M : jM) (F : jF) : Option (Int32 × jM × jF) := fTa_empty_0 x1 x2 M F
set_option maxHeartbeats 4000000 in
set_option maxRecDepth 100000 in
theorem uTa_empty_16 {p : Program} {e : Env} {s : State} {m : MethodId} {args : Array Value} {below : List Frame} {meth : Method} {c : Code} (l : Launch) (dC : Nat → ClassId) (dI : Nat → Nat → Nat) (cA : ClassId) (A : Nat → Nat) (Ap : Nat → Prop) (hC : jAt p s m args meth c bTa_empty 4 none wTa_empty RTa) (hA : ∀ q : Nat, s.heap.size ≤ q → Ap q) {r : Int32} {M' : jM} {F' : jF} : ∀ (n : Nat) (x1 x3 : Int32) (M : jM) (F : jF) (B : Nat → Nat) (H : Heap) (locs : List Loc) (ls : Array Slot), jH (dC, dI) jCl [(cA, .int)] (jW cA A B M F) Ap s H locs → lv_has ls 4 [(0, .ref (A 4)), (1, .int x1), (3, .int x3)] → fTa_empty_16 n x1 x3 M F = some (r, M', F') → W p l e (headSpec wTa_empty rTa_empty).room s m args below meth c H locs 0 0 (jQv below (dC, dI) jCl [(cA, .int)] (fun B => jW cA A B (M') (F')) Ap args s) (F0 m 16 ls []) := by
  obtain ⟨hx, hb, hml, hr, hts, hown, hlocks, hN⟩ := id hC
  have hj : ∀ w ∈ jw, w.before args s = true := fun w h => hts w (List.mem_cons_of_mem _ h)
  intro n
  induction n with
  | zero =>
    intro x1 x3 M F B H locs ls hJ hl h
    rw [fTa_empty_16] at h
    cases h
  | succ n ih =>
    intro x1 x3 M F B H locs ls hJ hl h
    rw [fTa_empty_16] at h
    refine lv_iload_n hx hb dTa_empty_16 rfl (lv_at hl 2 rfl) ?_
    refine lv_iconst (v := 4) hx hb dTa_empty_17 (by decide) ?_
    refine lv_icmp_ge (tgt := 38) hx hb dTa_empty_18 (by decide) (fun c3 => ?_) (fun c3 => ?_)
    · replace h := jif_t c3 h
      cases h
      exact jretv (u := B) hx hb hr hlocks hJ dTa_empty_38
    · replace h := jif_f c3 h
      refine lv_aload_n hx hb dTa_empty_21 rfl (lv_at hl 0 rfl) ?_
      refine va_get (D := (dC, dI)) (ci := 4) (v := .ref (A 9)) (C := RTa) (T := TTa) (N := 4) hx hb hj iTa hown hJ.1 hJ.2.1 4 rfl rfl 3 (by decide) (hj _ jw_52) (fun _ h9 => h9) rfl dTa_empty_22 ?_
      refine lv_iload_n hx hb dTa_empty_25 rfl (lv_at hl 1 rfl) ?_
      refine lv_iconst (v := 4) hx hb dTa_empty_26 (by decide) ?_
      refine lv_imul hx hb dTa_empty_27 ?_
      refine lv_iload_n hx hb dTa_empty_28 rfl (lv_at hl 2 rfl) ?_
      refine lv_iadd hx hb dTa_empty_29 ?_
      refine lv_iconst (v := 0) hx hb dTa_empty_30 (by decide) ?_
      obtain ⟨hi4, h⟩ := jib_h h
      refine jast_9 hx hb hJ hi4 dTa_empty_31 (fun H locs hJ => ?_)
      refine lv_iinc (v := x3 + 1) (lv' := [(3, .int (x3 + 1)), (0, .ref (A 4)), (1, .int x1)]) hx hb dTa_empty_32 hl (k := 2) rfl rfl (by decide) rfl (fun ls hl => ?_)
      refine lv_goto (tgt := 16) hx hb dTa_empty_35 (by decide) ?_
      exact ih _ _ _ _ _ _ _ _ hJ (lv_sub hl [1, 2, 0] rfl) h
set_option maxHeartbeats 4000000 in
set_option maxRecDepth 100000 in
theorem uTa_empty_0 {p : Program} {e : Env} {s : State} {m : MethodId} {args : Array Value} {below : List Frame} {meth : Method} {c : Code} (l : Launch) (dC : Nat → ClassId) (dI : Nat → Nat → Nat) (cA : ClassId) (A : Nat → Nat) (Ap : Nat → Prop) (hC : jAt p s m args meth c bTa_empty 4 none wTa_empty RTa) (hA : ∀ q : Nat, s.heap.size ≤ q → Ap q) {r : Int32} {M' : jM} {F' : jF} : ∀ (x1 x2 : Int32) (M : jM) (F : jF) (B : Nat → Nat) (H : Heap) (locs : List Loc) (ls : Array Slot), jH (dC, dI) jCl [(cA, .int)] (jW cA A B M F) Ap s H locs → lv_has ls 4 [(0, .ref (A 4)), (1, .int x1), (2, .int x2)] → fTa_empty_0 x1 x2 M F = some (r, M', F') → W p l e (headSpec wTa_empty rTa_empty).room s m args below meth c H locs 0 0 (jQv below (dC, dI) jCl [(cA, .int)] (fun B => jW cA A B (M') (F')) Ap args s) (F0 m 0 ls []) := by
  obtain ⟨hx, hb, hml, hr, hts, hown, hlocks, hN⟩ := id hC
  have hj : ∀ w ∈ jw, w.before args s = true := fun w h => hts w (List.mem_cons_of_mem _ h)
  intro x1 x2 M F B H locs ls hJ hl h
  unfold fTa_empty_0 at h
  refine lv_aload_n hx hb dTa_empty_0 rfl (lv_at hl 0 rfl) ?_
  refine va_get (D := (dC, dI)) (ci := 4) (v := .ref (A 7)) (C := RTa) (T := TTa) (N := 4) hx hb hj iTa hown hJ.1 hJ.2.1 4 rfl rfl 1 (by decide) (hj _ jw_50) (fun _ h9 => h9) rfl dTa_empty_1 ?_
  refine lv_iload_n hx hb dTa_empty_4 rfl (lv_at hl 1 rfl) ?_
  refine lv_iconst (v := 0) hx hb dTa_empty_5 (by decide) ?_
  obtain ⟨hi1, h⟩ := jib_h h
  refine jast_7 hx hb hJ hi1 dTa_empty_6 (fun H locs hJ => ?_)
  refine lv_aload_n hx hb dTa_empty_7 rfl (lv_at hl 0 rfl) ?_
  refine va_get (D := (dC, dI)) (ci := 4) (v := .ref (A 8)) (C := RTa) (T := TTa) (N := 4) hx hb hj iTa hown hJ.1 hJ.2.1 4 rfl rfl 2 (by decide) (hj _ jw_51) (fun _ h9 => h9) rfl dTa_empty_8 ?_
  refine lv_iload_n hx hb dTa_empty_11 rfl (lv_at hl 1 rfl) ?_
  refine lv_iload_n hx hb dTa_empty_12 rfl (lv_at hl 2 rfl) ?_
  obtain ⟨hi2, h⟩ := jib_h h
  refine jast_8 hx hb hJ hi2 dTa_empty_13 (fun H locs hJ => ?_)
  refine lv_iconst (v := 0) hx hb dTa_empty_14 (by decide) ?_
  refine lv_istore_n (lv' := [(3, .int 0), (0, .ref (A 4)), (1, .int x1), (2, .int x2)]) hx hb dTa_empty_15 rfl hl (by decide) rfl (fun ls hl => ?_)
  exact uTa_empty_16 l dC dI cA A Ap hC hA jfuel _ _ _ _ _ _ _ _ hJ (lv_sub hl [1, 2, 0] rfl) h
set_option maxHeartbeats 4000000 in
set_option maxRecDepth 100000 in
theorem cTa_empty (l : Launch) (dC : Nat → ClassId) (dI : Nat → Nat → Nat) (cA : ClassId) (A : Nat → Nat) (x1 : Int32) (x2 : Int32) (M : jM) (F : jF) (B : Nat → Nat) (sz : Nat) {r : Int32} {M' : jM} {F' : jF} (h : fTa_empty x1 x2 M F = some (r, M', F')) : jCv l yTa_empty wTa_empty rTa_empty (dC, dI) jCl [(cA, .int)] [.ref (A 4), .int x1, .int x2] (jW cA A B M F) sz (fun B => jW cA A B (M') (F')) :=
  jOf (Qc := fun Ap => va_Qv (fun _ : Nat → Nat => True) (jPost (dC, dI) jCl [(cA, .int)] (fun B => jW cA A B (M') (F')) Ap) Ap) (by decide) rfl (Nat.le_of_ble_eq_true rfl) (fun p e s m below meth c Ap ls hC hA hJ hl => uTa_empty_0 l dC dI cA A Ap hC hA _ _ _ _ _ _ _ _ hJ (lv_sub hl [0, 1, 2] rfl) h)
abbrev bTa_value : ByteArray := prog_6_method_5_code
abbrev yTa_value : MethodName := ⟨RTa, "value", "(III)I"⟩
abbrev wTa_value : List Cond := .code yTa_value bTa_value 4 (some .int) :: jw
theorem dTa_value_0 : decode bTa_value 0 = .ok (.aload_n 0, 1) := by decide +kernel
theorem dTa_value_1 : decode bTa_value 1 = .ok (.getfield 9, 3) := by decide +kernel
theorem dTa_value_4 : decode bTa_value 4 = .ok (.iload_n 1, 1) := by decide +kernel
theorem dTa_value_5 : decode bTa_value 5 = .ok (.bipush 30, 2) := by decide +kernel
theorem dTa_value_7 : decode bTa_value 7 = .ok (.imul, 1) := by decide +kernel
theorem dTa_value_8 : decode bTa_value 8 = .ok (.iload_n 2, 1) := by decide +kernel
theorem dTa_value_9 : decode bTa_value 9 = .ok (.iadd, 1) := by decide +kernel
theorem dTa_value_10 : decode bTa_value 10 = .ok (.iconst 4, 1) := by decide +kernel
theorem dTa_value_11 : decode bTa_value 11 = .ok (.imul, 1) := by decide +kernel
theorem dTa_value_12 : decode bTa_value 12 = .ok (.iload_n 3, 1) := by decide +kernel
theorem dTa_value_13 : decode bTa_value 13 = .ok (.iadd, 1) := by decide +kernel
theorem dTa_value_14 : decode bTa_value 14 = .ok (.iaload, 1) := by decide +kernel
theorem dTa_value_15 : decode bTa_value 15 = .ok (.ireturn, 1) := by decide +kernel
abbrev rTa_value : Room := { frames := 0, cells := 0, slots := 0, locals := 0 }
def fTa_value_0 (x1 : Int32) (x2 : Int32) (x3 : Int32) (M : jM) (F : jF) : Option Int32 := (if jib ((((x1 * 30) + x2) * 4) + x3) 720 then some (M 6 ((((x1 * 30) + x2) * 4) + x3).toNatClampNeg) else none)
abbrev fTa_value (x1 : Int32) (x2 : Int32) (x3 : Int32) (M : jM) (F : jF) : Option Int32 := fTa_value_0 x1 x2 x3 M F
set_option maxHeartbeats 4000000 in
set_option maxRecDepth 100000 in
theorem uTa_value_0 {p : Program} {e : Env} {s : State} {m : MethodId} {args : Array Value} {below : List Frame} {meth : Method} {c : Code} (l : Launch) (dC : Nat → ClassId) (dI : Nat → Nat → Nat) (cA : ClassId) (A : Nat → Nat) (Ap : Nat → Prop) (hC : jAt p s m args meth c bTa_value 4 (some .int) wTa_value RTa) (hA : ∀ q : Nat, s.heap.size ≤ q → Ap q) {r : Int32} : ∀ (x1 x2 x3 : Int32) (M : jM) (F : jF) (B : Nat → Nat) (H : Heap) (locs : List Loc) (ls : Array Slot), jH (dC, dI) jCl [(cA, .int)] (jW cA A B M F) Ap s H locs → lv_has ls 4 [(0, .ref (A 4)), (1, .int x1), (2, .int x2), (3, .int x3)] → fTa_value_0 x1 x2 x3 M F = some r → W p l e (headSpec wTa_value rTa_value).room s m args below meth c H locs 0 0 (jQi below (dC, dI) jCl [(cA, .int)] (fun B => jW cA A B M F) Ap args s r) (F0 m 0 ls []) := by
  obtain ⟨hx, hb, hml, hr, hts, hown, hlocks, hN⟩ := id hC
  have hj : ∀ w ∈ jw, w.before args s = true := fun w h => hts w (List.mem_cons_of_mem _ h)
  intro x1 x2 x3 M F B H locs ls hJ hl h
  unfold fTa_value_0 at h
  refine lv_aload_n hx hb dTa_value_0 rfl (lv_at hl 0 rfl) ?_
  refine va_get (D := (dC, dI)) (ci := 4) (v := .ref (A 6)) (C := RTa) (T := TTa) (N := 4) hx hb hj iTa hown hJ.1 hJ.2.1 4 rfl rfl 0 (by decide) (hj _ jw_49) (fun _ h9 => h9) rfl dTa_value_1 ?_
  refine lv_iload_n hx hb dTa_value_4 rfl (lv_at hl 1 rfl) ?_
  refine lv_bipush (v := 30) hx hb dTa_value_5 (by decide) ?_
  refine lv_imul hx hb dTa_value_7 ?_
  refine lv_iload_n hx hb dTa_value_8 rfl (lv_at hl 2 rfl) ?_
  refine lv_iadd hx hb dTa_value_9 ?_
  refine lv_iconst (v := 4) hx hb dTa_value_10 (by decide) ?_
  refine lv_imul hx hb dTa_value_11 ?_
  refine lv_iload_n hx hb dTa_value_12 rfl (lv_at hl 3 rfl) ?_
  refine lv_iadd hx hb dTa_value_13 ?_
  obtain ⟨hi1, h⟩ := jib_h h
  refine jald_6 hx hb hJ hi1 dTa_value_14 ?_
  exact jreti (u := B) hx hb hr rfl hlocks hJ dTa_value_15 (Option.some.inj h)
set_option maxHeartbeats 4000000 in
set_option maxRecDepth 100000 in
theorem cTa_value (l : Launch) (dC : Nat → ClassId) (dI : Nat → Nat → Nat) (cA : ClassId) (A : Nat → Nat) (x1 : Int32) (x2 : Int32) (x3 : Int32) (M : jM) (F : jF) (B : Nat → Nat) (sz : Nat) {r : Int32} (h : fTa_value x1 x2 x3 M F = some r) : jCi l yTa_value wTa_value rTa_value (dC, dI) jCl [(cA, .int)] [.ref (A 4), .int x1, .int x2, .int x3] (jW cA A B M F) sz r (fun B => jW cA A B M F) :=
  jOf (Qc := fun Ap => va_Qi (fun q (_ : Nat → Nat) => q = r) (jPost (dC, dI) jCl [(cA, .int)] (fun B => jW cA A B M F) Ap) Ap) (by decide) rfl (Nat.le_of_ble_eq_true rfl) (fun p e s m below meth c Ap ls hC hA hJ hl => uTa_value_0 l dC dI cA A Ap hC hA _ _ _ _ _ _ _ _ _ hJ (lv_sub hl [0, 1, 2, 3] rfl) h)
abbrev bTa_hasValue : ByteArray := prog_6_method_9_code
abbrev yTa_hasValue : MethodName := ⟨RTa, "hasValue", "(III)Z"⟩
abbrev wTa_hasValue : List Cond := .code yTa_hasValue bTa_hasValue 5 (some .boolean) :: jw
theorem dTa_hasValue_0 : decode bTa_hasValue 0 = .ok (.iconst 0, 1) := by decide +kernel
theorem dTa_hasValue_1 : decode bTa_hasValue 1 = .ok (.istore 4, 2) := by decide +kernel
theorem dTa_hasValue_3 : decode bTa_hasValue 3 = .ok (.iload 4, 2) := by decide +kernel
theorem dTa_hasValue_5 : decode bTa_hasValue 5 = .ok (.aload_n 0, 1) := by decide +kernel
theorem dTa_hasValue_6 : decode bTa_hasValue 6 = .ok (.getfield 15, 3) := by decide +kernel
theorem dTa_hasValue_9 : decode bTa_hasValue 9 = .ok (.iload_n 1, 1) := by decide +kernel
theorem dTa_hasValue_10 : decode bTa_hasValue 10 = .ok (.iaload, 1) := by decide +kernel
theorem dTa_hasValue_11 : decode bTa_hasValue 11 = .ok (.if_icmp .ge 23, 3) := by decide +kernel
theorem dTa_hasValue_14 : decode bTa_hasValue 14 = .ok (.aload_n 0, 1) := by decide +kernel
theorem dTa_hasValue_15 : decode bTa_hasValue 15 = .ok (.iload_n 1, 1) := by decide +kernel
theorem dTa_hasValue_16 : decode bTa_hasValue 16 = .ok (.iload 4, 2) := by decide +kernel
theorem dTa_hasValue_18 : decode bTa_hasValue 18 = .ok (.iload_n 2, 1) := by decide +kernel
theorem dTa_hasValue_19 : decode bTa_hasValue 19 = .ok (.invokevirtual 38, 3) := by decide +kernel
theorem dTa_hasValue_22 : decode bTa_hasValue 22 = .ok (.iload_n 3, 1) := by decide +kernel
theorem dTa_hasValue_23 : decode bTa_hasValue 23 = .ok (.if_icmp .ne 5, 3) := by decide +kernel
theorem dTa_hasValue_26 : decode bTa_hasValue 26 = .ok (.iconst 1, 1) := by decide +kernel
theorem dTa_hasValue_27 : decode bTa_hasValue 27 = .ok (.ireturn, 1) := by decide +kernel
theorem dTa_hasValue_28 : decode bTa_hasValue 28 = .ok (.iinc 4 1, 3) := by decide +kernel
theorem dTa_hasValue_31 : decode bTa_hasValue 31 = .ok (.goto (-28), 3) := by decide +kernel
theorem dTa_hasValue_34 : decode bTa_hasValue 34 = .ok (.iconst 0, 1) := by decide +kernel
theorem dTa_hasValue_35 : decode bTa_hasValue 35 = .ok (.ireturn, 1) := by decide +kernel
abbrev rTa_hasValue : Room := { frames := 1, cells := 0, slots := 0, locals := 23 }
def fTa_hasValue_3 : Nat → Int32 → Int32 → Int32 → Int32 → jM → jF → Option Int32
  | 0, _, _, _, _, _, _ => none
  | n + 1, x1, x2, x3, x4, M, F => (if jib x1 6 then (if (M 7 x1.toNatClampNeg) ≤ x4 then some 0 else ((fTa_value x1 x4 x2 M F).bind fun q3 => (if q3 = x3 then some 1 else fTa_hasValue_3 n x1 x2 x3 (x4 + 1) M F))) else none)
def fTa_hasValue_0 (x1 : Int32) (x2 : Int32) (x3 : Int32) (M : jM) (F : jF) : Option Int32 := fTa_hasValue_3 jfuel x1 x2 x3 0 M F
abbrev fTa_hasValue (x1 : Int32) (x2 : Int32) (x3 : Int32) (M : jM) (F : jF) : Option Int32 := fTa_hasValue_0 x1 x2 x3 M F
set_option maxHeartbeats 4000000 in
set_option maxRecDepth 100000 in
theorem uTa_hasValue_3 {p : Program} {e : Env} {s : State} {m : MethodId} {args : Array Value} {below : List Frame} {meth : Method} {c : Code} (l : Launch) (dC : Nat → ClassId) (dI : Nat → Nat → Nat) (cA : ClassId) (A : Nat → Nat) (Ap : Nat → Prop) (hC : jAt p s m args meth c bTa_hasValue 5 (some .boolean) wTa_hasValue RTa) (hA : ∀ q : Nat, s.heap.size ≤ q → Ap q) {r : Int32} : ∀ (n : Nat) (x1 x2 x3 x4 : Int32) (M : jM) (F : jF) (B : Nat → Nat) (H : Heap) (locs : List Loc) (ls : Array Slot), jH (dC, dI) jCl [(cA, .int)] (jW cA A B M F) Ap s H locs → lv_has ls 5 [(0, .ref (A 4)), (1, .int x1), (2, .int x2), (3, .int x3), (4, .int x4)] → fTa_hasValue_3 n x1 x2 x3 x4 M F = some r → W p l e (headSpec wTa_hasValue rTa_hasValue).room s m args below meth c H locs 0 0 (jQi below (dC, dI) jCl [(cA, .int)] (fun B => jW cA A B M F) Ap args s r) (F0 m 3 ls []) := by
  obtain ⟨hx, hb, hml, hr, hts, hown, hlocks, hN⟩ := id hC
  have hj : ∀ w ∈ jw, w.before args s = true := fun w h => hts w (List.mem_cons_of_mem _ h)
  intro n
  induction n with
  | zero =>
    intro x1 x2 x3 x4 M F B H locs ls hJ hl h
    rw [fTa_hasValue_3] at h
    cases h
  | succ n ih =>
    intro x1 x2 x3 x4 M F B H locs ls hJ hl h
    rw [fTa_hasValue_3] at h
    refine lv_iload hx hb dTa_hasValue_3 (lv_at hl 4 rfl) ?_
    refine lv_aload_n hx hb dTa_hasValue_5 rfl (lv_at hl 0 rfl) ?_
    refine va_get (D := (dC, dI)) (ci := 4) (v := .ref (A 7)) (C := RTa) (T := TTa) (N := 4) hx hb hj iTa hown hJ.1 hJ.2.1 4 rfl rfl 1 (by decide) (hj _ jw_50) (fun _ h9 => h9) rfl dTa_hasValue_6 ?_
    refine lv_iload_n hx hb dTa_hasValue_9 rfl (lv_at hl 1 rfl) ?_
    obtain ⟨hi1, h⟩ := jib_h h
    refine jald_7 hx hb hJ hi1 dTa_hasValue_10 ?_
    refine lv_icmp_ge (tgt := 34) hx hb dTa_hasValue_11 (by decide) (fun c2 => ?_) (fun c2 => ?_)
    · replace h := jif_t c2 h
      refine lv_iconst (v := 0) hx hb dTa_hasValue_34 (by decide) ?_
      exact jreti (u := B) hx hb hr rfl hlocks hJ dTa_hasValue_35 (Option.some.inj h)
    · replace h := jif_f c2 h
      refine lv_aload_n hx hb dTa_hasValue_14 rfl (lv_at hl 0 rfl) ?_
      refine lv_iload_n hx hb dTa_hasValue_15 rfl (lv_at hl 1 rfl) ?_
      refine lv_iload hx hb dTa_hasValue_16 (lv_at hl 4 rfl) ?_
      refine lv_iload_n hx hb dTa_hasValue_18 rfl (lv_at hl 2 rfl) ?_
      obtain ⟨q3, hq3, h⟩ := jbi_h h
      refine jcalli (w' := fun B => jW cA A B M F) (va_runV (As := [.int x1, .int x4, .int x2]) (rest := []) ⟨hx, hb, hml, hown, hts⟩ (cTa_value l dC dI cA A x1 x4 x2 M F B H.size hq3) (cwV 3 hts (jgoodV jw_329 jw_330 jw_331 jw_5 jw_332) rfl rfl rfl (by decide +kernel) ⟨Nat.le_of_ble_eq_true rfl, Nat.le_of_ble_eq_true rfl⟩) (jpreV hN hJ (ci := 4) (q0 := 4) rfl rfl) rfl rfl hl.1 rfl (lv_room (Nat.le_of_ble_eq_true rfl)) dTa_hasValue_19 ⟨Nat.zero_le _, Nat.zero_le _⟩) hA hJ (fun B H locs hJ => ?_)
      refine lv_iload_n hx hb dTa_hasValue_22 rfl (lv_at hl 3 rfl) ?_
      refine lv_icmp_ne (tgt := 28) hx hb dTa_hasValue_23 (by decide) (fun c4 => ?_) (fun c4 => ?_)
      · replace h := jif_f c4 h
        refine lv_iinc (v := x4 + 1) (lv' := [(4, .int (x4 + 1)), (0, .ref (A 4)), (1, .int x1), (2, .int x2), (3, .int x3)]) hx hb dTa_hasValue_28 hl (k := 4) rfl rfl (by decide) rfl (fun ls hl => ?_)
        refine lv_goto (tgt := 3) hx hb dTa_hasValue_31 (by decide) ?_
        exact ih _ _ _ _ _ _ _ _ _ _ hJ (lv_sub hl [1, 2, 3, 4, 0] rfl) h
      · replace h := jif_t c4 h
        refine lv_iconst (v := 1) hx hb dTa_hasValue_26 (by decide) ?_
        exact jreti (u := B) hx hb hr rfl hlocks hJ dTa_hasValue_27 (Option.some.inj h)
set_option maxHeartbeats 4000000 in
set_option maxRecDepth 100000 in
theorem uTa_hasValue_0 {p : Program} {e : Env} {s : State} {m : MethodId} {args : Array Value} {below : List Frame} {meth : Method} {c : Code} (l : Launch) (dC : Nat → ClassId) (dI : Nat → Nat → Nat) (cA : ClassId) (A : Nat → Nat) (Ap : Nat → Prop) (hC : jAt p s m args meth c bTa_hasValue 5 (some .boolean) wTa_hasValue RTa) (hA : ∀ q : Nat, s.heap.size ≤ q → Ap q) {r : Int32} : ∀ (x1 x2 x3 : Int32) (M : jM) (F : jF) (B : Nat → Nat) (H : Heap) (locs : List Loc) (ls : Array Slot), jH (dC, dI) jCl [(cA, .int)] (jW cA A B M F) Ap s H locs → lv_has ls 5 [(0, .ref (A 4)), (1, .int x1), (2, .int x2), (3, .int x3)] → fTa_hasValue_0 x1 x2 x3 M F = some r → W p l e (headSpec wTa_hasValue rTa_hasValue).room s m args below meth c H locs 0 0 (jQi below (dC, dI) jCl [(cA, .int)] (fun B => jW cA A B M F) Ap args s r) (F0 m 0 ls []) := by
  obtain ⟨hx, hb, hml, hr, hts, hown, hlocks, hN⟩ := id hC
  have hj : ∀ w ∈ jw, w.before args s = true := fun w h => hts w (List.mem_cons_of_mem _ h)
  intro x1 x2 x3 M F B H locs ls hJ hl h
  unfold fTa_hasValue_0 at h
  refine lv_iconst (v := 0) hx hb dTa_hasValue_0 (by decide) ?_
  refine lv_istore (lv' := [(4, .int 0), (0, .ref (A 4)), (1, .int x1), (2, .int x2), (3, .int x3)]) hx hb dTa_hasValue_1 hl (by decide) rfl (fun ls hl => ?_)
  exact uTa_hasValue_3 l dC dI cA A Ap hC hA jfuel _ _ _ _ _ _ _ _ _ _ hJ (lv_sub hl [1, 2, 3, 4, 0] rfl) h
set_option maxHeartbeats 4000000 in
set_option maxRecDepth 100000 in
theorem cTa_hasValue (l : Launch) (dC : Nat → ClassId) (dI : Nat → Nat → Nat) (cA : ClassId) (A : Nat → Nat) (x1 : Int32) (x2 : Int32) (x3 : Int32) (M : jM) (F : jF) (B : Nat → Nat) (sz : Nat) {r : Int32} (h : fTa_hasValue x1 x2 x3 M F = some r) : jCi l yTa_hasValue wTa_hasValue rTa_hasValue (dC, dI) jCl [(cA, .int)] [.ref (A 4), .int x1, .int x2, .int x3] (jW cA A B M F) sz r (fun B => jW cA A B M F) :=
  jOf (Qc := fun Ap => va_Qi (fun q (_ : Nat → Nat) => q = r) (jPost (dC, dI) jCl [(cA, .int)] (fun B => jW cA A B M F) Ap) Ap) (by decide) rfl (Nat.le_of_ble_eq_true rfl) (fun p e s m below meth c Ap ls hC hA hJ hl => uTa_hasValue_0 l dC dI cA A Ap hC hA _ _ _ _ _ _ _ _ _ hJ (lv_sub hl [0, 1, 2, 3] rfl) h)
abbrev bTa_put : ByteArray := prog_6_method_8_code
abbrev yTa_put : MethodName := ⟨RTa, "put", "(III)V"⟩
abbrev wTa_put : List Cond := .code yTa_put bTa_put 4 none :: jw
theorem dTa_put_0 : decode bTa_put 0 = .ok (.aload_n 0, 1) := by decide +kernel
theorem dTa_put_1 : decode bTa_put 1 = .ok (.iload_n 1, 1) := by decide +kernel
theorem dTa_put_2 : decode bTa_put 2 = .ok (.iload_n 2, 1) := by decide +kernel
theorem dTa_put_3 : decode bTa_put 3 = .ok (.iload_n 3, 1) := by decide +kernel
theorem dTa_put_4 : decode bTa_put 4 = .ok (.invokevirtual 34, 3) := by decide +kernel
theorem dTa_put_7 : decode bTa_put 7 = .ok (.ifCond .ne 17, 3) := by decide +kernel
theorem dTa_put_10 : decode bTa_put 10 = .ok (.aload_n 0, 1) := by decide +kernel
theorem dTa_put_11 : decode bTa_put 11 = .ok (.getfield 21, 3) := by decide +kernel
theorem dTa_put_14 : decode bTa_put 14 = .ok (.iload_n 1, 1) := by decide +kernel
theorem dTa_put_15 : decode bTa_put 15 = .ok (.iconst 4, 1) := by decide +kernel
theorem dTa_put_16 : decode bTa_put 16 = .ok (.imul, 1) := by decide +kernel
theorem dTa_put_17 : decode bTa_put 17 = .ok (.iload_n 2, 1) := by decide +kernel
theorem dTa_put_18 : decode bTa_put 18 = .ok (.iadd, 1) := by decide +kernel
theorem dTa_put_19 : decode bTa_put 19 = .ok (.dup2, 1) := by decide +kernel
theorem dTa_put_20 : decode bTa_put 20 = .ok (.iaload, 1) := by decide +kernel
theorem dTa_put_21 : decode bTa_put 21 = .ok (.iconst 1, 1) := by decide +kernel
theorem dTa_put_22 : decode bTa_put 22 = .ok (.iadd, 1) := by decide +kernel
theorem dTa_put_23 : decode bTa_put 23 = .ok (.iastore, 1) := by decide +kernel
theorem dTa_put_24 : decode bTa_put 24 = .ok (.aload_n 0, 1) := by decide +kernel
theorem dTa_put_25 : decode bTa_put 25 = .ok (.getfield 9, 3) := by decide +kernel
theorem dTa_put_28 : decode bTa_put 28 = .ok (.iload_n 1, 1) := by decide +kernel
theorem dTa_put_29 : decode bTa_put 29 = .ok (.bipush 30, 2) := by decide +kernel
theorem dTa_put_31 : decode bTa_put 31 = .ok (.imul, 1) := by decide +kernel
theorem dTa_put_32 : decode bTa_put 32 = .ok (.aload_n 0, 1) := by decide +kernel
theorem dTa_put_33 : decode bTa_put 33 = .ok (.getfield 15, 3) := by decide +kernel
theorem dTa_put_36 : decode bTa_put 36 = .ok (.iload_n 1, 1) := by decide +kernel
theorem dTa_put_37 : decode bTa_put 37 = .ok (.iaload, 1) := by decide +kernel
theorem dTa_put_38 : decode bTa_put 38 = .ok (.iadd, 1) := by decide +kernel
theorem dTa_put_39 : decode bTa_put 39 = .ok (.iconst 4, 1) := by decide +kernel
theorem dTa_put_40 : decode bTa_put 40 = .ok (.imul, 1) := by decide +kernel
theorem dTa_put_41 : decode bTa_put 41 = .ok (.iload_n 2, 1) := by decide +kernel
theorem dTa_put_42 : decode bTa_put 42 = .ok (.iadd, 1) := by decide +kernel
theorem dTa_put_43 : decode bTa_put 43 = .ok (.iload_n 3, 1) := by decide +kernel
theorem dTa_put_44 : decode bTa_put 44 = .ok (.iastore, 1) := by decide +kernel
theorem dTa_put_45 : decode bTa_put 45 = .ok (.return_, 1) := by decide +kernel
abbrev rTa_put : Room := { frames := 2, cells := 0, slots := 0, locals := 47 }
def fTa_put_24 (x1 : Int32) (x2 : Int32) (x3 : Int32) (M : jM) (F : jF) : Option (Int32 × jM × jF) := (if jib x1 6 then (if jib ((((x1 * 30) + (M 7 x1.toNatClampNeg)) * 4) + x2) 720 then some (0, jmu M 6 ((((x1 * 30) + (M 7 x1.toNatClampNeg)) * 4) + x2).toNatClampNeg x3, F) else none) else none)
def fTa_put_0 (x1 : Int32) (x2 : Int32) (x3 : Int32) (M : jM) (F : jF) : Option (Int32 × jM × jF) := ((fTa_hasValue x1 x2 x3 M F).bind fun q1 => (if q1 = 0 then (if jib ((x1 * 4) + x2) 24 then (if jib ((x1 * 4) + x2) 24 then fTa_put_24 x1 x2 x3 (jmu M 9 ((x1 * 4) + x2).toNatClampNeg ((M 9 ((x1 * 4) + x2).toNatClampNeg) + 1)) F else none) else none) else fTa_put_24 x1 x2 x3 M F))
abbrev fTa_put (x1 : Int32) (x2 : Int32) (x3 : Int32) (M : jM) (F : jF) : Option (Int32 × jM × jF) := fTa_put_0 x1 x2 x3 M F
set_option maxHeartbeats 4000000 in
set_option maxRecDepth 100000 in
theorem uTa_put_24 {p : Program} {e : Env} {s : State} {m : MethodId} {args : Array Value} {below : List Frame} {meth : Method} {c : Code} (l : Launch) (dC : Nat → ClassId) (dI : Nat → Nat → Nat) (cA : ClassId) (A : Nat → Nat) (Ap : Nat → Prop) (hC : jAt p s m args meth c bTa_put 4 none wTa_put RTa) (hA : ∀ q : Nat, s.heap.size ≤ q → Ap q) {r : Int32} {M' : jM} {F' : jF} : ∀ (x1 x2 x3 : Int32) (M : jM) (F : jF) (B : Nat → Nat) (H : Heap) (locs : List Loc) (ls : Array Slot), jH (dC, dI) jCl [(cA, .int)] (jW cA A B M F) Ap s H locs → lv_has ls 4 [(0, .ref (A 4)), (1, .int x1), (2, .int x2), (3, .int x3)] → fTa_put_24 x1 x2 x3 M F = some (r, M', F') → W p l e (headSpec wTa_put rTa_put).room s m args below meth c H locs 0 0 (jQv below (dC, dI) jCl [(cA, .int)] (fun B => jW cA A B (M') (F')) Ap args s) (F0 m 24 ls []) := by
  obtain ⟨hx, hb, hml, hr, hts, hown, hlocks, hN⟩ := id hC
  have hj : ∀ w ∈ jw, w.before args s = true := fun w h => hts w (List.mem_cons_of_mem _ h)
  intro x1 x2 x3 M F B H locs ls hJ hl h
  unfold fTa_put_24 at h
  refine lv_aload_n hx hb dTa_put_24 rfl (lv_at hl 0 rfl) ?_
  refine va_get (D := (dC, dI)) (ci := 4) (v := .ref (A 6)) (C := RTa) (T := TTa) (N := 4) hx hb hj iTa hown hJ.1 hJ.2.1 4 rfl rfl 0 (by decide) (hj _ jw_49) (fun _ h9 => h9) rfl dTa_put_25 ?_
  refine lv_iload_n hx hb dTa_put_28 rfl (lv_at hl 1 rfl) ?_
  refine lv_bipush (v := 30) hx hb dTa_put_29 (by decide) ?_
  refine lv_imul hx hb dTa_put_31 ?_
  refine lv_aload_n hx hb dTa_put_32 rfl (lv_at hl 0 rfl) ?_
  refine va_get (D := (dC, dI)) (ci := 4) (v := .ref (A 7)) (C := RTa) (T := TTa) (N := 4) hx hb hj iTa hown hJ.1 hJ.2.1 4 rfl rfl 1 (by decide) (hj _ jw_50) (fun _ h9 => h9) rfl dTa_put_33 ?_
  refine lv_iload_n hx hb dTa_put_36 rfl (lv_at hl 1 rfl) ?_
  obtain ⟨hi3, h⟩ := jib_h h
  refine jald_7 hx hb hJ hi3 dTa_put_37 ?_
  refine lv_iadd hx hb dTa_put_38 ?_
  refine lv_iconst (v := 4) hx hb dTa_put_39 (by decide) ?_
  refine lv_imul hx hb dTa_put_40 ?_
  refine lv_iload_n hx hb dTa_put_41 rfl (lv_at hl 2 rfl) ?_
  refine lv_iadd hx hb dTa_put_42 ?_
  refine lv_iload_n hx hb dTa_put_43 rfl (lv_at hl 3 rfl) ?_
  obtain ⟨hi4, h⟩ := jib_h h
  refine jast_6 hx hb hJ hi4 dTa_put_44 (fun H locs hJ => ?_)
  cases h
  exact jretv (u := B) hx hb hr hlocks hJ dTa_put_45
set_option maxHeartbeats 4000000 in
set_option maxRecDepth 100000 in
theorem uTa_put_0 {p : Program} {e : Env} {s : State} {m : MethodId} {args : Array Value} {below : List Frame} {meth : Method} {c : Code} (l : Launch) (dC : Nat → ClassId) (dI : Nat → Nat → Nat) (cA : ClassId) (A : Nat → Nat) (Ap : Nat → Prop) (hC : jAt p s m args meth c bTa_put 4 none wTa_put RTa) (hA : ∀ q : Nat, s.heap.size ≤ q → Ap q) {r : Int32} {M' : jM} {F' : jF} : ∀ (x1 x2 x3 : Int32) (M : jM) (F : jF) (B : Nat → Nat) (H : Heap) (locs : List Loc) (ls : Array Slot), jH (dC, dI) jCl [(cA, .int)] (jW cA A B M F) Ap s H locs → lv_has ls 4 [(0, .ref (A 4)), (1, .int x1), (2, .int x2), (3, .int x3)] → fTa_put_0 x1 x2 x3 M F = some (r, M', F') → W p l e (headSpec wTa_put rTa_put).room s m args below meth c H locs 0 0 (jQv below (dC, dI) jCl [(cA, .int)] (fun B => jW cA A B (M') (F')) Ap args s) (F0 m 0 ls []) := by
  obtain ⟨hx, hb, hml, hr, hts, hown, hlocks, hN⟩ := id hC
  have hj : ∀ w ∈ jw, w.before args s = true := fun w h => hts w (List.mem_cons_of_mem _ h)
  intro x1 x2 x3 M F B H locs ls hJ hl h
  unfold fTa_put_0 at h
  refine lv_aload_n hx hb dTa_put_0 rfl (lv_at hl 0 rfl) ?_
  refine lv_iload_n hx hb dTa_put_1 rfl (lv_at hl 1 rfl) ?_
  refine lv_iload_n hx hb dTa_put_2 rfl (lv_at hl 2 rfl) ?_
  refine lv_iload_n hx hb dTa_put_3 rfl (lv_at hl 3 rfl) ?_
  obtain ⟨q1, hq1, h⟩ := jbi_h h
  refine jcalli (w' := fun B => jW cA A B M F) (va_runV (As := [.int x1, .int x2, .int x3]) (rest := []) ⟨hx, hb, hml, hown, hts⟩ (cTa_hasValue l dC dI cA A x1 x2 x3 M F B H.size hq1) (cwV 3 hts (jgoodV jw_325 jw_327 jws_2 jw_5 jw_328) rfl rfl rfl (by decide +kernel) ⟨Nat.le_of_ble_eq_true rfl, Nat.le_of_ble_eq_true rfl⟩) (jpreV hN hJ (ci := 4) (q0 := 4) rfl rfl) rfl rfl hl.1 rfl (lv_room (Nat.le_of_ble_eq_true rfl)) dTa_put_4 ⟨Nat.zero_le _, Nat.zero_le _⟩) hA hJ (fun B H locs hJ => ?_)
  refine lv_if_ne (tgt := 24) hx hb dTa_put_7 (by decide) (fun c2 => ?_) (fun c2 => ?_)
  · replace h := jif_f c2 h
    exact uTa_put_24 l dC dI cA A Ap hC hA _ _ _ _ _ _ _ _ _ hJ (lv_sub hl [0, 1, 2, 3] rfl) h
  · replace h := jif_t c2 h
    refine lv_aload_n hx hb dTa_put_10 rfl (lv_at hl 0 rfl) ?_
    refine va_get (D := (dC, dI)) (ci := 4) (v := .ref (A 9)) (C := RTa) (T := TTa) (N := 4) hx hb hj iTa hown hJ.1 hJ.2.1 4 rfl rfl 3 (by decide) (hj _ jw_52) (fun _ h9 => h9) rfl dTa_put_11 ?_
    refine lv_iload_n hx hb dTa_put_14 rfl (lv_at hl 1 rfl) ?_
    refine lv_iconst (v := 4) hx hb dTa_put_15 (by decide) ?_
    refine lv_imul hx hb dTa_put_16 ?_
    refine lv_iload_n hx hb dTa_put_17 rfl (lv_at hl 2 rfl) ?_
    refine lv_iadd hx hb dTa_put_18 ?_
    refine lv_dup2_11 hx hb dTa_put_19 rfl rfl ?_
    obtain ⟨hi5, h⟩ := jib_h h
    refine jald_9 hx hb hJ hi5 dTa_put_20 ?_
    refine lv_iconst (v := 1) hx hb dTa_put_21 (by decide) ?_
    refine lv_iadd hx hb dTa_put_22 ?_
    obtain ⟨hi6, h⟩ := jib_h h
    refine jast_9 hx hb hJ hi6 dTa_put_23 (fun H locs hJ => ?_)
    exact uTa_put_24 l dC dI cA A Ap hC hA _ _ _ _ _ _ _ _ _ hJ (lv_sub hl [0, 1, 2, 3] rfl) h
set_option maxHeartbeats 4000000 in
set_option maxRecDepth 100000 in
theorem cTa_put (l : Launch) (dC : Nat → ClassId) (dI : Nat → Nat → Nat) (cA : ClassId) (A : Nat → Nat) (x1 : Int32) (x2 : Int32) (x3 : Int32) (M : jM) (F : jF) (B : Nat → Nat) (sz : Nat) {r : Int32} {M' : jM} {F' : jF} (h : fTa_put x1 x2 x3 M F = some (r, M', F')) : jCv l yTa_put wTa_put rTa_put (dC, dI) jCl [(cA, .int)] [.ref (A 4), .int x1, .int x2, .int x3] (jW cA A B M F) sz (fun B => jW cA A B (M') (F')) :=
  jOf (Qc := fun Ap => va_Qv (fun _ : Nat → Nat => True) (jPost (dC, dI) jCl [(cA, .int)] (fun B => jW cA A B (M') (F')) Ap) Ap) (by decide) rfl (Nat.le_of_ble_eq_true rfl) (fun p e s m below meth c Ap ls hC hA hJ hl => uTa_put_0 l dC dI cA A Ap hC hA _ _ _ _ _ _ _ _ _ hJ (lv_sub hl [0, 1, 2, 3] rfl) h)
abbrev bTa_add : ByteArray := prog_6_method_3_code
abbrev yTa_add : MethodName := ⟨RTa, "add", "(IIIII)I"⟩
abbrev wTa_add : List Cond := .code yTa_add bTa_add 7 (some .int) :: jw
theorem dTa_add_0 : decode bTa_add 0 = .ok (.aload_n 0, 1) := by decide +kernel
theorem dTa_add_1 : decode bTa_add 1 = .ok (.iload_n 1, 1) := by decide +kernel
theorem dTa_add_2 : decode bTa_add 2 = .ok (.iconst 0, 1) := by decide +kernel
theorem dTa_add_3 : decode bTa_add 3 = .ok (.iload_n 2, 1) := by decide +kernel
theorem dTa_add_4 : decode bTa_add 4 = .ok (.invokevirtual 24, 3) := by decide +kernel
theorem dTa_add_7 : decode bTa_add 7 = .ok (.aload_n 0, 1) := by decide +kernel
theorem dTa_add_8 : decode bTa_add 8 = .ok (.iload_n 1, 1) := by decide +kernel
theorem dTa_add_9 : decode bTa_add 9 = .ok (.iconst 1, 1) := by decide +kernel
theorem dTa_add_10 : decode bTa_add 10 = .ok (.iload_n 3, 1) := by decide +kernel
theorem dTa_add_11 : decode bTa_add 11 = .ok (.invokevirtual 24, 3) := by decide +kernel
theorem dTa_add_14 : decode bTa_add 14 = .ok (.aload_n 0, 1) := by decide +kernel
theorem dTa_add_15 : decode bTa_add 15 = .ok (.iload_n 1, 1) := by decide +kernel
theorem dTa_add_16 : decode bTa_add 16 = .ok (.iconst 2, 1) := by decide +kernel
theorem dTa_add_17 : decode bTa_add 17 = .ok (.iload 4, 2) := by decide +kernel
theorem dTa_add_19 : decode bTa_add 19 = .ok (.invokevirtual 24, 3) := by decide +kernel
theorem dTa_add_22 : decode bTa_add 22 = .ok (.aload_n 0, 1) := by decide +kernel
theorem dTa_add_23 : decode bTa_add 23 = .ok (.iload_n 1, 1) := by decide +kernel
theorem dTa_add_24 : decode bTa_add 24 = .ok (.iconst 3, 1) := by decide +kernel
theorem dTa_add_25 : decode bTa_add 25 = .ok (.iload 5, 2) := by decide +kernel
theorem dTa_add_27 : decode bTa_add 27 = .ok (.invokevirtual 24, 3) := by decide +kernel
theorem dTa_add_30 : decode bTa_add 30 = .ok (.aload_n 0, 1) := by decide +kernel
theorem dTa_add_31 : decode bTa_add 31 = .ok (.getfield 15, 3) := by decide +kernel
theorem dTa_add_34 : decode bTa_add 34 = .ok (.iload_n 1, 1) := by decide +kernel
theorem dTa_add_35 : decode bTa_add 35 = .ok (.iaload, 1) := by decide +kernel
theorem dTa_add_36 : decode bTa_add 36 = .ok (.istore 6, 2) := by decide +kernel
theorem dTa_add_38 : decode bTa_add 38 = .ok (.aload_n 0, 1) := by decide +kernel
theorem dTa_add_39 : decode bTa_add 39 = .ok (.getfield 15, 3) := by decide +kernel
theorem dTa_add_42 : decode bTa_add 42 = .ok (.iload_n 1, 1) := by decide +kernel
theorem dTa_add_43 : decode bTa_add 43 = .ok (.iload 6, 2) := by decide +kernel
theorem dTa_add_45 : decode bTa_add 45 = .ok (.iconst 1, 1) := by decide +kernel
theorem dTa_add_46 : decode bTa_add 46 = .ok (.iadd, 1) := by decide +kernel
theorem dTa_add_47 : decode bTa_add 47 = .ok (.iastore, 1) := by decide +kernel
theorem dTa_add_48 : decode bTa_add 48 = .ok (.iload 6, 2) := by decide +kernel
theorem dTa_add_50 : decode bTa_add 50 = .ok (.ireturn, 1) := by decide +kernel
abbrev rTa_add : Room := { frames := 3, cells := 0, slots := 0, locals := 70 }
def fTa_add_0 (x1 : Int32) (x2 : Int32) (x3 : Int32) (x4 : Int32) (x5 : Int32) (M : jM) (F : jF) : Option (Int32 × jM × jF) := ((fTa_put x1 0 x2 M F).bind fun q1 => ((fTa_put x1 1 x3 q1.2.1 q1.2.2).bind fun q3 => ((fTa_put x1 2 x4 q3.2.1 q3.2.2).bind fun q5 => ((fTa_put x1 3 x5 q5.2.1 q5.2.2).bind fun q7 => (if jib x1 6 then (if jib x1 6 then some (q7.2.1 7 x1.toNatClampNeg, jmu q7.2.1 7 x1.toNatClampNeg ((q7.2.1 7 x1.toNatClampNeg) + 1), q7.2.2) else none) else none)))))
abbrev fTa_add (x1 : Int32) (x2 : Int32) (x3 : Int32) (x4 : Int32) (x5 : Int32) (M : jM) (F : jF) : Option (Int32 × jM × jF) := fTa_add_0 x1 x2 x3 x4 x5 M F
set_option maxHeartbeats 4000000 in
set_option maxRecDepth 100000 in
theorem uTa_add_0 {p : Program} {e : Env} {s : State} {m : MethodId} {args : Array Value} {below : List Frame} {meth : Method} {c : Code} (l : Launch) (dC : Nat → ClassId) (dI : Nat → Nat → Nat) (cA : ClassId) (A : Nat → Nat) (Ap : Nat → Prop) (hC : jAt p s m args meth c bTa_add 7 (some .int) wTa_add RTa) (hA : ∀ q : Nat, s.heap.size ≤ q → Ap q) {r : Int32} {M' : jM} {F' : jF} : ∀ (x1 x2 x3 x4 x5 : Int32) (M : jM) (F : jF) (B : Nat → Nat) (H : Heap) (locs : List Loc) (ls : Array Slot), jH (dC, dI) jCl [(cA, .int)] (jW cA A B M F) Ap s H locs → lv_has ls 7 [(0, .ref (A 4)), (1, .int x1), (2, .int x2), (3, .int x3), (4, .int x4), (5, .int x5)] → fTa_add_0 x1 x2 x3 x4 x5 M F = some (r, M', F') → W p l e (headSpec wTa_add rTa_add).room s m args below meth c H locs 0 0 (jQi below (dC, dI) jCl [(cA, .int)] (fun B => jW cA A B (M') (F')) Ap args s r) (F0 m 0 ls []) := by
  obtain ⟨hx, hb, hml, hr, hts, hown, hlocks, hN⟩ := id hC
  have hj : ∀ w ∈ jw, w.before args s = true := fun w h => hts w (List.mem_cons_of_mem _ h)
  intro x1 x2 x3 x4 x5 M F B H locs ls hJ hl h
  unfold fTa_add_0 at h
  refine lv_aload_n hx hb dTa_add_0 rfl (lv_at hl 0 rfl) ?_
  refine lv_iload_n hx hb dTa_add_1 rfl (lv_at hl 1 rfl) ?_
  refine lv_iconst (v := 0) hx hb dTa_add_2 (by decide) ?_
  refine lv_iload_n hx hb dTa_add_3 rfl (lv_at hl 2 rfl) ?_
  obtain ⟨q1, hq1, h⟩ := jbi_h h
  refine jcallv (w' := fun B => jW cA A B q1.2.1 q1.2.2) (va_runV (As := [.int x1, .int 0, .int x2]) (rest := []) ⟨hx, hb, hml, hown, hts⟩ (cTa_put l dC dI cA A x1 0 x2 M F B H.size hq1) (cwV 3 hts (jgoodV jw_321 jw_323 jws_1 jw_5 jw_324) rfl rfl rfl (by decide +kernel) ⟨Nat.le_of_ble_eq_true rfl, Nat.le_of_ble_eq_true rfl⟩) (jpreV hN hJ (ci := 4) (q0 := 4) rfl rfl) rfl rfl hl.1 rfl (lv_room (Nat.le_of_ble_eq_true rfl)) dTa_add_4 ⟨Nat.zero_le _, Nat.zero_le _⟩) hA hJ (fun B2 H locs hJ => ?_)
  refine lv_aload_n hx hb dTa_add_7 rfl (lv_at hl 0 rfl) ?_
  refine lv_iload_n hx hb dTa_add_8 rfl (lv_at hl 1 rfl) ?_
  refine lv_iconst (v := 1) hx hb dTa_add_9 (by decide) ?_
  refine lv_iload_n hx hb dTa_add_10 rfl (lv_at hl 3 rfl) ?_
  obtain ⟨q3, hq3, h⟩ := jbi_h h
  refine jcallv (w' := fun B => jW cA A B q3.2.1 q3.2.2) (va_runV (As := [.int x1, .int 1, .int x3]) (rest := []) ⟨hx, hb, hml, hown, hts⟩ (cTa_put l dC dI cA A x1 1 x3 q1.2.1 q1.2.2 B2 H.size hq3) (cwV 3 hts (jgoodV jw_321 jw_323 jws_1 jw_5 jw_324) rfl rfl rfl (by decide +kernel) ⟨Nat.le_of_ble_eq_true rfl, Nat.le_of_ble_eq_true rfl⟩) (jpreV hN hJ (ci := 4) (q0 := 4) rfl rfl) rfl rfl hl.1 rfl (lv_room (Nat.le_of_ble_eq_true rfl)) dTa_add_11 ⟨Nat.zero_le _, Nat.zero_le _⟩) hA hJ (fun B4 H locs hJ => ?_)
  refine lv_aload_n hx hb dTa_add_14 rfl (lv_at hl 0 rfl) ?_
  refine lv_iload_n hx hb dTa_add_15 rfl (lv_at hl 1 rfl) ?_
  refine lv_iconst (v := 2) hx hb dTa_add_16 (by decide) ?_
  refine lv_iload hx hb dTa_add_17 (lv_at hl 4 rfl) ?_
  obtain ⟨q5, hq5, h⟩ := jbi_h h
  refine jcallv (w' := fun B => jW cA A B q5.2.1 q5.2.2) (va_runV (As := [.int x1, .int 2, .int x4]) (rest := []) ⟨hx, hb, hml, hown, hts⟩ (cTa_put l dC dI cA A x1 2 x4 q3.2.1 q3.2.2 B4 H.size hq5) (cwV 3 hts (jgoodV jw_321 jw_323 jws_1 jw_5 jw_324) rfl rfl rfl (by decide +kernel) ⟨Nat.le_of_ble_eq_true rfl, Nat.le_of_ble_eq_true rfl⟩) (jpreV hN hJ (ci := 4) (q0 := 4) rfl rfl) rfl rfl hl.1 rfl (lv_room (Nat.le_of_ble_eq_true rfl)) dTa_add_19 ⟨Nat.zero_le _, Nat.zero_le _⟩) hA hJ (fun B6 H locs hJ => ?_)
  refine lv_aload_n hx hb dTa_add_22 rfl (lv_at hl 0 rfl) ?_
  refine lv_iload_n hx hb dTa_add_23 rfl (lv_at hl 1 rfl) ?_
  refine lv_iconst (v := 3) hx hb dTa_add_24 (by decide) ?_
  refine lv_iload hx hb dTa_add_25 (lv_at hl 5 rfl) ?_
  obtain ⟨q7, hq7, h⟩ := jbi_h h
  refine jcallv (w' := fun B => jW cA A B q7.2.1 q7.2.2) (va_runV (As := [.int x1, .int 3, .int x5]) (rest := []) ⟨hx, hb, hml, hown, hts⟩ (cTa_put l dC dI cA A x1 3 x5 q5.2.1 q5.2.2 B6 H.size hq7) (cwV 3 hts (jgoodV jw_321 jw_323 jws_1 jw_5 jw_324) rfl rfl rfl (by decide +kernel) ⟨Nat.le_of_ble_eq_true rfl, Nat.le_of_ble_eq_true rfl⟩) (jpreV hN hJ (ci := 4) (q0 := 4) rfl rfl) rfl rfl hl.1 rfl (lv_room (Nat.le_of_ble_eq_true rfl)) dTa_add_27 ⟨Nat.zero_le _, Nat.zero_le _⟩) hA hJ (fun B8 H locs hJ => ?_)
  refine lv_aload_n hx hb dTa_add_30 rfl (lv_at hl 0 rfl) ?_
  refine va_get (D := (dC, dI)) (ci := 4) (v := .ref (A 7)) (C := RTa) (T := TTa) (N := 4) hx hb hj iTa hown hJ.1 hJ.2.1 4 rfl rfl 1 (by decide) (hj _ jw_50) (fun _ h9 => h9) rfl dTa_add_31 ?_
  refine lv_iload_n hx hb dTa_add_34 rfl (lv_at hl 1 rfl) ?_
  obtain ⟨hi9, h⟩ := jib_h h
  refine jald_7 hx hb hJ hi9 dTa_add_35 ?_
  refine lv_istore (lv' := [(6, .int (q7.2.1 7 x1.toNatClampNeg)), (0, .ref (A 4)), (1, .int x1), (2, .int x2), (3, .int x3), (4, .int x4), (5, .int x5)]) hx hb dTa_add_36 hl (by decide) rfl (fun ls hl => ?_)
  refine lv_aload_n hx hb dTa_add_38 rfl (lv_at hl 1 rfl) ?_
  refine va_get (D := (dC, dI)) (ci := 4) (v := .ref (A 7)) (C := RTa) (T := TTa) (N := 4) hx hb hj iTa hown hJ.1 hJ.2.1 4 rfl rfl 1 (by decide) (hj _ jw_50) (fun _ h9 => h9) rfl dTa_add_39 ?_
  refine lv_iload_n hx hb dTa_add_42 rfl (lv_at hl 2 rfl) ?_
  refine lv_iload hx hb dTa_add_43 (lv_at hl 0 rfl) ?_
  refine lv_iconst (v := 1) hx hb dTa_add_45 (by decide) ?_
  refine lv_iadd hx hb dTa_add_46 ?_
  obtain ⟨hi10, h⟩ := jib_h h
  refine jast_7 hx hb hJ hi10 dTa_add_47 (fun H locs hJ => ?_)
  refine lv_iload hx hb dTa_add_48 (lv_at hl 0 rfl) ?_
  cases h
  exact jreti (u := B8) hx hb hr rfl hlocks hJ dTa_add_50 rfl
set_option maxHeartbeats 4000000 in
set_option maxRecDepth 100000 in
theorem cTa_add (l : Launch) (dC : Nat → ClassId) (dI : Nat → Nat → Nat) (cA : ClassId) (A : Nat → Nat) (x1 : Int32) (x2 : Int32) (x3 : Int32) (x4 : Int32) (x5 : Int32) (M : jM) (F : jF) (B : Nat → Nat) (sz : Nat) {r : Int32} {M' : jM} {F' : jF} (h : fTa_add x1 x2 x3 x4 x5 M F = some (r, M', F')) : jCi l yTa_add wTa_add rTa_add (dC, dI) jCl [(cA, .int)] [.ref (A 4), .int x1, .int x2, .int x3, .int x4, .int x5] (jW cA A B M F) sz r (fun B => jW cA A B (M') (F')) :=
  jOf (Qc := fun Ap => va_Qi (fun q (_ : Nat → Nat) => q = r) (jPost (dC, dI) jCl [(cA, .int)] (fun B => jW cA A B (M') (F')) Ap) Ap) (by decide) rfl (Nat.le_of_ble_eq_true rfl) (fun p e s m below meth c Ap ls hC hA hJ hl => uTa_add_0 l dC dI cA A Ap hC hA _ _ _ _ _ _ _ _ _ _ _ hJ (lv_sub hl [0, 1, 2, 3, 4, 5] rfl) h)
abbrev bTa_rows : ByteArray := prog_6_method_4_code
abbrev yTa_rows : MethodName := ⟨RTa, "rows", "(I)I"⟩
abbrev wTa_rows : List Cond := .code yTa_rows bTa_rows 2 (some .int) :: jw
theorem dTa_rows_0 : decode bTa_rows 0 = .ok (.aload_n 0, 1) := by decide +kernel
theorem dTa_rows_1 : decode bTa_rows 1 = .ok (.getfield 15, 3) := by decide +kernel
theorem dTa_rows_4 : decode bTa_rows 4 = .ok (.iload_n 1, 1) := by decide +kernel
theorem dTa_rows_5 : decode bTa_rows 5 = .ok (.iaload, 1) := by decide +kernel
theorem dTa_rows_6 : decode bTa_rows 6 = .ok (.ireturn, 1) := by decide +kernel
abbrev rTa_rows : Room := { frames := 0, cells := 0, slots := 0, locals := 0 }
def fTa_rows_0 (x1 : Int32) (M : jM) (F : jF) : Option Int32 := (if jib x1 6 then some (M 7 x1.toNatClampNeg) else none)
abbrev fTa_rows (x1 : Int32) (M : jM) (F : jF) : Option Int32 := fTa_rows_0 x1 M F
set_option maxHeartbeats 4000000 in
set_option maxRecDepth 100000 in
theorem uTa_rows_0 {p : Program} {e : Env} {s : State} {m : MethodId} {args : Array Value} {below : List Frame} {meth : Method} {c : Code} (l : Launch) (dC : Nat → ClassId) (dI : Nat → Nat → Nat) (cA : ClassId) (A : Nat → Nat) (Ap : Nat → Prop) (hC : jAt p s m args meth c bTa_rows 2 (some .int) wTa_rows RTa) (hA : ∀ q : Nat, s.heap.size ≤ q → Ap q) {r : Int32} : ∀ (x1 : Int32) (M : jM) (F : jF) (B : Nat → Nat) (H : Heap) (locs : List Loc) (ls : Array Slot), jH (dC, dI) jCl [(cA, .int)] (jW cA A B M F) Ap s H locs → lv_has ls 2 [(0, .ref (A 4)), (1, .int x1)] → fTa_rows_0 x1 M F = some r → W p l e (headSpec wTa_rows rTa_rows).room s m args below meth c H locs 0 0 (jQi below (dC, dI) jCl [(cA, .int)] (fun B => jW cA A B M F) Ap args s r) (F0 m 0 ls []) := by
  obtain ⟨hx, hb, hml, hr, hts, hown, hlocks, hN⟩ := id hC
  have hj : ∀ w ∈ jw, w.before args s = true := fun w h => hts w (List.mem_cons_of_mem _ h)
  intro x1 M F B H locs ls hJ hl h
  unfold fTa_rows_0 at h
  refine lv_aload_n hx hb dTa_rows_0 rfl (lv_at hl 0 rfl) ?_
  refine va_get (D := (dC, dI)) (ci := 4) (v := .ref (A 7)) (C := RTa) (T := TTa) (N := 4) hx hb hj iTa hown hJ.1 hJ.2.1 4 rfl rfl 1 (by decide) (hj _ jw_50) (fun _ h9 => h9) rfl dTa_rows_1 ?_
  refine lv_iload_n hx hb dTa_rows_4 rfl (lv_at hl 1 rfl) ?_
  obtain ⟨hi1, h⟩ := jib_h h
  refine jald_7 hx hb hJ hi1 dTa_rows_5 ?_
  exact jreti (u := B) hx hb hr rfl hlocks hJ dTa_rows_6 (Option.some.inj h)
set_option maxHeartbeats 4000000 in
set_option maxRecDepth 100000 in
theorem cTa_rows (l : Launch) (dC : Nat → ClassId) (dI : Nat → Nat → Nat) (cA : ClassId) (A : Nat → Nat) (x1 : Int32) (M : jM) (F : jF) (B : Nat → Nat) (sz : Nat) {r : Int32} (h : fTa_rows x1 M F = some r) : jCi l yTa_rows wTa_rows rTa_rows (dC, dI) jCl [(cA, .int)] [.ref (A 4), .int x1] (jW cA A B M F) sz r (fun B => jW cA A B M F) :=
  jOf (Qc := fun Ap => va_Qi (fun q (_ : Nat → Nat) => q = r) (jPost (dC, dI) jCl [(cA, .int)] (fun B => jW cA A B M F) Ap) Ap) (by decide) rfl (Nat.le_of_ble_eq_true rfl) (fun p e s m below meth c Ap ls hC hA hJ hl => uTa_rows_0 l dC dI cA A Ap hC hA _ _ _ _ _ _ _ hJ (lv_sub hl [0, 1] rfl) h)
abbrev bTa_spread : ByteArray := prog_6_method_6_code
abbrev yTa_spread : MethodName := ⟨RTa, "spread", "(II)I"⟩
abbrev wTa_spread : List Cond := .code yTa_spread bTa_spread 3 (some .int) :: jw
theorem dTa_spread_0 : decode bTa_spread 0 = .ok (.iconst 1, 1) := by decide +kernel
theorem dTa_spread_1 : decode bTa_spread 1 = .ok (.aload_n 0, 1) := by decide +kernel
theorem dTa_spread_2 : decode bTa_spread 2 = .ok (.getfield 21, 3) := by decide +kernel
theorem dTa_spread_5 : decode bTa_spread 5 = .ok (.iload_n 1, 1) := by decide +kernel
theorem dTa_spread_6 : decode bTa_spread 6 = .ok (.iconst 4, 1) := by decide +kernel
theorem dTa_spread_7 : decode bTa_spread 7 = .ok (.imul, 1) := by decide +kernel
theorem dTa_spread_8 : decode bTa_spread 8 = .ok (.iload_n 2, 1) := by decide +kernel
theorem dTa_spread_9 : decode bTa_spread 9 = .ok (.iadd, 1) := by decide +kernel
theorem dTa_spread_10 : decode bTa_spread 10 = .ok (.iaload, 1) := by decide +kernel
theorem dTa_spread_11 : decode bTa_spread 11 = .ok (.invokestatic 28, 3) := by decide +kernel
theorem dTa_spread_14 : decode bTa_spread 14 = .ok (.ireturn, 1) := by decide +kernel
abbrev rTa_spread : Room := { frames := 1, cells := 0, slots := 0, locals := 21 }
def fTa_spread_0 (x1 : Int32) (x2 : Int32) (M : jM) (F : jF) : Option Int32 := (if jib ((x1 * 4) + x2) 24 then some (if 1 < (M 9 ((x1 * 4) + x2).toNatClampNeg) then (M 9 ((x1 * 4) + x2).toNatClampNeg) else 1) else none)
abbrev fTa_spread (x1 : Int32) (x2 : Int32) (M : jM) (F : jF) : Option Int32 := fTa_spread_0 x1 x2 M F
set_option maxHeartbeats 4000000 in
set_option maxRecDepth 100000 in
theorem uTa_spread_0 {p : Program} {e : Env} {s : State} {m : MethodId} {args : Array Value} {below : List Frame} {meth : Method} {c : Code} (l : Launch) (dC : Nat → ClassId) (dI : Nat → Nat → Nat) (cA : ClassId) (A : Nat → Nat) (Ap : Nat → Prop) (hC : jAt p s m args meth c bTa_spread 3 (some .int) wTa_spread RTa) (hA : ∀ q : Nat, s.heap.size ≤ q → Ap q) {r : Int32} : ∀ (x1 x2 : Int32) (M : jM) (F : jF) (B : Nat → Nat) (H : Heap) (locs : List Loc) (ls : Array Slot), jH (dC, dI) jCl [(cA, .int)] (jW cA A B M F) Ap s H locs → lv_has ls 3 [(0, .ref (A 4)), (1, .int x1), (2, .int x2)] → fTa_spread_0 x1 x2 M F = some r → W p l e (headSpec wTa_spread rTa_spread).room s m args below meth c H locs 0 0 (jQi below (dC, dI) jCl [(cA, .int)] (fun B => jW cA A B M F) Ap args s r) (F0 m 0 ls []) := by
  obtain ⟨hx, hb, hml, hr, hts, hown, hlocks, hN⟩ := id hC
  have hj : ∀ w ∈ jw, w.before args s = true := fun w h => hts w (List.mem_cons_of_mem _ h)
  intro x1 x2 M F B H locs ls hJ hl h
  unfold fTa_spread_0 at h
  refine lv_iconst (v := 1) hx hb dTa_spread_0 (by decide) ?_
  refine lv_aload_n hx hb dTa_spread_1 rfl (lv_at hl 0 rfl) ?_
  refine va_get (D := (dC, dI)) (ci := 4) (v := .ref (A 9)) (C := RTa) (T := TTa) (N := 4) hx hb hj iTa hown hJ.1 hJ.2.1 4 rfl rfl 3 (by decide) (hj _ jw_52) (fun _ h9 => h9) rfl dTa_spread_2 ?_
  refine lv_iload_n hx hb dTa_spread_5 rfl (lv_at hl 1 rfl) ?_
  refine lv_iconst (v := 4) hx hb dTa_spread_6 (by decide) ?_
  refine lv_imul hx hb dTa_spread_7 ?_
  refine lv_iload_n hx hb dTa_spread_8 rfl (lv_at hl 2 rfl) ?_
  refine lv_iadd hx hb dTa_spread_9 ?_
  obtain ⟨hi1, h⟩ := jib_h h
  refine jald_9 hx hb hJ hi1 dTa_spread_10 ?_
  refine va_mmax hx hb (hml.trans hl.1.symm) hown (hj _ jw_436) (hj _ jw_437) (hj _ jw_14) (hj _ jw_438) (Nat.le_of_ble_eq_true rfl) (Nat.le_of_ble_eq_true rfl) (Nat.zero_le _) (Nat.zero_le _) dTa_spread_11 ?_
  exact jreti (u := B) hx hb hr rfl hlocks hJ dTa_spread_14 (Option.some.inj h)
set_option maxHeartbeats 4000000 in
set_option maxRecDepth 100000 in
theorem cTa_spread (l : Launch) (dC : Nat → ClassId) (dI : Nat → Nat → Nat) (cA : ClassId) (A : Nat → Nat) (x1 : Int32) (x2 : Int32) (M : jM) (F : jF) (B : Nat → Nat) (sz : Nat) {r : Int32} (h : fTa_spread x1 x2 M F = some r) : jCi l yTa_spread wTa_spread rTa_spread (dC, dI) jCl [(cA, .int)] [.ref (A 4), .int x1, .int x2] (jW cA A B M F) sz r (fun B => jW cA A B M F) :=
  jOf (Qc := fun Ap => va_Qi (fun q (_ : Nat → Nat) => q = r) (jPost (dC, dI) jCl [(cA, .int)] (fun B => jW cA A B M F) Ap) Ap) (by decide) rfl (Nat.le_of_ble_eq_true rfl) (fun p e s m below meth c Ap ls hC hA hJ hl => uTa_spread_0 l dC dI cA A Ap hC hA _ _ _ _ _ _ _ _ hJ (lv_sub hl [0, 1, 2] rfl) h)
abbrev bTa_hasIndex : ByteArray := prog_6_method_7_code
abbrev yTa_hasIndex : MethodName := ⟨RTa, "hasIndex", "(II)Z"⟩
abbrev wTa_hasIndex : List Cond := .code yTa_hasIndex bTa_hasIndex 3 (some .boolean) :: jw
theorem dTa_hasIndex_0 : decode bTa_hasIndex 0 = .ok (.aload_n 0, 1) := by decide +kernel
theorem dTa_hasIndex_1 : decode bTa_hasIndex 1 = .ok (.getfield 18, 3) := by decide +kernel
theorem dTa_hasIndex_4 : decode bTa_hasIndex 4 = .ok (.iload_n 1, 1) := by decide +kernel
theorem dTa_hasIndex_5 : decode bTa_hasIndex 5 = .ok (.iaload, 1) := by decide +kernel
theorem dTa_hasIndex_6 : decode bTa_hasIndex 6 = .ok (.iload_n 2, 1) := by decide +kernel
theorem dTa_hasIndex_7 : decode bTa_hasIndex 7 = .ok (.iushr, 1) := by decide +kernel
theorem dTa_hasIndex_8 : decode bTa_hasIndex 8 = .ok (.iconst 1, 1) := by decide +kernel
theorem dTa_hasIndex_9 : decode bTa_hasIndex 9 = .ok (.iand, 1) := by decide +kernel
theorem dTa_hasIndex_10 : decode bTa_hasIndex 10 = .ok (.ifCond .eq 7, 3) := by decide +kernel
theorem dTa_hasIndex_13 : decode bTa_hasIndex 13 = .ok (.iconst 1, 1) := by decide +kernel
theorem dTa_hasIndex_14 : decode bTa_hasIndex 14 = .ok (.goto 4, 3) := by decide +kernel
theorem dTa_hasIndex_17 : decode bTa_hasIndex 17 = .ok (.iconst 0, 1) := by decide +kernel
theorem dTa_hasIndex_18 : decode bTa_hasIndex 18 = .ok (.ireturn, 1) := by decide +kernel
abbrev rTa_hasIndex : Room := { frames := 0, cells := 0, slots := 0, locals := 0 }
def fTa_hasIndex_0 (x1 : Int32) (x2 : Int32) (M : jM) (F : jF) : Option Int32 := (if jib x1 6 then (if ((jus (M 8 x1.toNatClampNeg) x2) &&& 1) = 0 then some 0 else some 1) else none)
abbrev fTa_hasIndex (x1 : Int32) (x2 : Int32) (M : jM) (F : jF) : Option Int32 := fTa_hasIndex_0 x1 x2 M F
set_option maxHeartbeats 4000000 in
set_option maxRecDepth 100000 in
theorem uTa_hasIndex_0 {p : Program} {e : Env} {s : State} {m : MethodId} {args : Array Value} {below : List Frame} {meth : Method} {c : Code} (l : Launch) (dC : Nat → ClassId) (dI : Nat → Nat → Nat) (cA : ClassId) (A : Nat → Nat) (Ap : Nat → Prop) (hC : jAt p s m args meth c bTa_hasIndex 3 (some .boolean) wTa_hasIndex RTa) (hA : ∀ q : Nat, s.heap.size ≤ q → Ap q) {r : Int32} : ∀ (x1 x2 : Int32) (M : jM) (F : jF) (B : Nat → Nat) (H : Heap) (locs : List Loc) (ls : Array Slot), jH (dC, dI) jCl [(cA, .int)] (jW cA A B M F) Ap s H locs → lv_has ls 3 [(0, .ref (A 4)), (1, .int x1), (2, .int x2)] → fTa_hasIndex_0 x1 x2 M F = some r → W p l e (headSpec wTa_hasIndex rTa_hasIndex).room s m args below meth c H locs 0 0 (jQi below (dC, dI) jCl [(cA, .int)] (fun B => jW cA A B M F) Ap args s r) (F0 m 0 ls []) := by
  obtain ⟨hx, hb, hml, hr, hts, hown, hlocks, hN⟩ := id hC
  have hj : ∀ w ∈ jw, w.before args s = true := fun w h => hts w (List.mem_cons_of_mem _ h)
  intro x1 x2 M F B H locs ls hJ hl h
  unfold fTa_hasIndex_0 at h
  refine lv_aload_n hx hb dTa_hasIndex_0 rfl (lv_at hl 0 rfl) ?_
  refine va_get (D := (dC, dI)) (ci := 4) (v := .ref (A 8)) (C := RTa) (T := TTa) (N := 4) hx hb hj iTa hown hJ.1 hJ.2.1 4 rfl rfl 2 (by decide) (hj _ jw_51) (fun _ h9 => h9) rfl dTa_hasIndex_1 ?_
  refine lv_iload_n hx hb dTa_hasIndex_4 rfl (lv_at hl 1 rfl) ?_
  obtain ⟨hi1, h⟩ := jib_h h
  refine jald_8 hx hb hJ hi1 dTa_hasIndex_5 ?_
  refine lv_iload_n hx hb dTa_hasIndex_6 rfl (lv_at hl 2 rfl) ?_
  refine lv_iushr (v := jus (M 8 x1.toNatClampNeg) x2) hx hb dTa_hasIndex_7 rfl ?_
  refine lv_iconst (v := 1) hx hb dTa_hasIndex_8 (by decide) ?_
  refine lv_iand hx hb dTa_hasIndex_9 ?_
  refine lv_if_eq (tgt := 17) hx hb dTa_hasIndex_10 (by decide) (fun c2 => ?_) (fun c2 => ?_)
  · replace h := jif_t c2 h
    refine lv_iconst (v := 0) hx hb dTa_hasIndex_17 (by decide) ?_
    exact jreti (u := B) hx hb hr rfl hlocks hJ dTa_hasIndex_18 (Option.some.inj h)
  · replace h := jif_f c2 h
    refine lv_iconst (v := 1) hx hb dTa_hasIndex_13 (by decide) ?_
    refine lv_goto (tgt := 18) hx hb dTa_hasIndex_14 (by decide) ?_
    exact jreti (u := B) hx hb hr rfl hlocks hJ dTa_hasIndex_18 (Option.some.inj h)
set_option maxHeartbeats 4000000 in
set_option maxRecDepth 100000 in
theorem cTa_hasIndex (l : Launch) (dC : Nat → ClassId) (dI : Nat → Nat → Nat) (cA : ClassId) (A : Nat → Nat) (x1 : Int32) (x2 : Int32) (M : jM) (F : jF) (B : Nat → Nat) (sz : Nat) {r : Int32} (h : fTa_hasIndex x1 x2 M F = some r) : jCi l yTa_hasIndex wTa_hasIndex rTa_hasIndex (dC, dI) jCl [(cA, .int)] [.ref (A 4), .int x1, .int x2] (jW cA A B M F) sz r (fun B => jW cA A B M F) :=
  jOf (Qc := fun Ap => va_Qi (fun q (_ : Nat → Nat) => q = r) (jPost (dC, dI) jCl [(cA, .int)] (fun B => jW cA A B M F) Ap) Ap) (by decide) rfl (Nat.le_of_ble_eq_true rfl) (fun p e s m below meth c Ap ls hC hA hJ hl => uTa_hasIndex_0 l dC dI cA A Ap hC hA _ _ _ _ _ _ _ _ hJ (lv_sub hl [0, 1, 2] rfl) h)
