abbrev bQu_empty : ByteArray := prog_3_method_2_code
abbrev yQu_empty : MethodName := ⟨RQu, "empty", "()V"⟩
abbrev wQu_empty : List Cond := .code yQu_empty bQu_empty 1 none :: jw
theorem dQu_empty_0 : decode bQu_empty 0 = .ok (.aload_n 0, 1) := by decide +kernel
theorem dQu_empty_1 : decode bQu_empty 1 = .ok (.iconst 0, 1) := by decide +kernel
theorem dQu_empty_2 : decode bQu_empty 2 = .ok (.putfield 40, 3) := by decide +kernel
theorem dQu_empty_5 : decode bQu_empty 5 = .ok (.aload_n 0, 1) := by decide +kernel
theorem dQu_empty_6 : decode bQu_empty 6 = .ok (.iconst 0, 1) := by decide +kernel
theorem dQu_empty_7 : decode bQu_empty 7 = .ok (.putfield 44, 3) := by decide +kernel
theorem dQu_empty_10 : decode bQu_empty 10 = .ok (.return_, 1) := by decide +kernel
abbrev rQu_empty : Room := { frames := 0, cells := 0, slots := 0, locals := 0 }
def fQu_empty_0 (M : jM) (F : jF) : Option (Int32 × jM × jF) := some (0, M, jfu (jfu F 0 0) 1 0)
abbrev fQu_empty (M : jM) (F : jF) : Option (Int32 × jM × jF) := fQu_empty_0  M F
set_option maxHeartbeats 4000000 in
set_option maxRecDepth 100000 in
theorem uQu_empty_0 {p : Program} {e : Env} {s : State} {m : MethodId} {args : Array Value} {below : List Frame} {meth : Method} {c : Code} (l : Launch) (dC : Nat → ClassId) (dI : Nat → Nat → Nat) (cA : ClassId) (A : Nat → Nat) (Ap : Nat → Prop) (hC : jAt p s m args meth c bQu_empty 1 none wQu_empty RQu) (hA : ∀ q : Nat, s.heap.size ≤ q → Ap q) {r : Int32} {M' : jM} {F' : jF} : ∀ (M : jM) (F : jF) (B : Nat → Nat) (H : Heap) (locs : List Loc) (ls : Array Slot), jH (dC, dI) jCl [(cA, .int)] (jW cA A B M F) Ap s H locs → lv_has ls 1 [(0, .ref (A 3))] → fQu_empty_0 M F = some (r, M', F') → W p l e (headSpec wQu_empty rQu_empty).room s m args below meth c H locs 0 0 (jQv below (dC, dI) jCl [(cA, .int)] (fun B => jW cA A B (M') (F')) Ap args s) (F0 m 0 ls []) := by
  obtain ⟨hx, hb, hml, hr, hts, hown, hlocks, hN⟩ := id hC
  have hj : ∀ w ∈ jw, w.before args s = true := fun w h => hts w (List.mem_cons_of_mem _ h)
  intro  M F B H locs ls hJ hl h
  unfold fQu_empty_0 at h
  refine lv_aload_n hx hb dQu_empty_0 rfl (lv_at hl 0 rfl) ?_
  refine lv_iconst (v := 0) hx hb dQu_empty_1 (by decide) ?_
  refine va_put (D := (dC, dI)) (ci := 3) (v := .int 0) (ty := .int) (C := RQu) (T := TQu) (N := 10) hx hb hj iQu tQu tQu_ok nQu hown hJ.1 hJ.2.1 hJ.2.2.1 hJ.2.2.2 3 rfl rfl 8 (by decide) (hj _ jw_73) (fun _ h9 => h9) rfl (by decide +kernel) rfl rfl (Nat.le_of_ble_eq_true rfl) dQu_empty_2 (fun H locs hP hD hS => ?_)
  replace hJ : jH (dC, dI) jCl [(cA, .int)] (jW cA A B M (jfu F 0 0)) Ap s H locs := ⟨hJ.1, hP, hD, hS⟩
  refine lv_aload_n hx hb dQu_empty_5 rfl (lv_at hl 0 rfl) ?_
  refine lv_iconst (v := 0) hx hb dQu_empty_6 (by decide) ?_
  refine va_put (D := (dC, dI)) (ci := 3) (v := .int 0) (ty := .int) (C := RQu) (T := TQu) (N := 10) hx hb hj iQu tQu tQu_ok nQu hown hJ.1 hJ.2.1 hJ.2.2.1 hJ.2.2.2 3 rfl rfl 9 (by decide) (hj _ jw_77) (fun _ h9 => h9) rfl (by decide +kernel) rfl rfl (Nat.le_of_ble_eq_true rfl) dQu_empty_7 (fun H locs hP hD hS => ?_)
  replace hJ : jH (dC, dI) jCl [(cA, .int)] (jW cA A B M (jfu (jfu F 0 0) 1 0)) Ap s H locs := ⟨hJ.1, hP, hD, hS⟩
  cases h
  exact jretv (u := B) hx hb hr hlocks hJ dQu_empty_10
set_option maxHeartbeats 4000000 in
set_option maxRecDepth 100000 in
theorem cQu_empty (l : Launch) (dC : Nat → ClassId) (dI : Nat → Nat → Nat) (cA : ClassId) (A : Nat → Nat) (M : jM) (F : jF) (B : Nat → Nat) (sz : Nat) {r : Int32} {M' : jM} {F' : jF} (h : fQu_empty M F = some (r, M', F')) : jCv l yQu_empty wQu_empty rQu_empty (dC, dI) jCl [(cA, .int)] [.ref (A 3)] (jW cA A B M F) sz (fun B => jW cA A B (M') (F')) :=
  jOf (Qc := fun Ap => va_Qv (fun _ : Nat → Nat => True) (jPost (dC, dI) jCl [(cA, .int)] (fun B => jW cA A B (M') (F')) Ap) Ap) (by decide) rfl (Nat.le_of_ble_eq_true rfl) (fun p e s m below meth c Ap ls hC hA hJ hl => uQu_empty_0 l dC dI cA A Ap hC hA _ _ _ _ _ _ hJ (lv_sub hl [0] rfl) h)
abbrev bQu_addGenerator : ByteArray := prog_3_method_3_code
abbrev yQu_addGenerator : MethodName := ⟨RQu, "addGenerator", "(I)I"⟩
abbrev wQu_addGenerator : List Cond := .code yQu_addGenerator bQu_addGenerator 3 (some .int) :: jw
theorem dQu_addGenerator_0 : decode bQu_addGenerator 0 = .ok (.aload_n 0, 1) := by decide +kernel
theorem dQu_addGenerator_1 : decode bQu_addGenerator 1 = .ok (.getfield 40, 3) := by decide +kernel
theorem dQu_addGenerator_4 : decode bQu_addGenerator 4 = .ok (.istore_n 2, 1) := by decide +kernel
theorem dQu_addGenerator_5 : decode bQu_addGenerator 5 = .ok (.aload_n 0, 1) := by decide +kernel
theorem dQu_addGenerator_6 : decode bQu_addGenerator 6 = .ok (.getfield 18, 3) := by decide +kernel
theorem dQu_addGenerator_9 : decode bQu_addGenerator 9 = .ok (.iload_n 2, 1) := by decide +kernel
theorem dQu_addGenerator_10 : decode bQu_addGenerator 10 = .ok (.iload_n 1, 1) := by decide +kernel
theorem dQu_addGenerator_11 : decode bQu_addGenerator 11 = .ok (.iastore, 1) := by decide +kernel
theorem dQu_addGenerator_12 : decode bQu_addGenerator 12 = .ok (.aload_n 0, 1) := by decide +kernel
theorem dQu_addGenerator_13 : decode bQu_addGenerator 13 = .ok (.iload_n 2, 1) := by decide +kernel
theorem dQu_addGenerator_14 : decode bQu_addGenerator 14 = .ok (.iconst 1, 1) := by decide +kernel
theorem dQu_addGenerator_15 : decode bQu_addGenerator 15 = .ok (.iadd, 1) := by decide +kernel
theorem dQu_addGenerator_16 : decode bQu_addGenerator 16 = .ok (.putfield 40, 3) := by decide +kernel
theorem dQu_addGenerator_19 : decode bQu_addGenerator 19 = .ok (.iload_n 2, 1) := by decide +kernel
theorem dQu_addGenerator_20 : decode bQu_addGenerator 20 = .ok (.ireturn, 1) := by decide +kernel
abbrev rQu_addGenerator : Room := { frames := 0, cells := 0, slots := 0, locals := 0 }
def fQu_addGenerator_0 (x1 : Int32) (M : jM) (F : jF) : Option (Int32 × jM × jF) := (if jib (F 0) 6 then some (F 0, jmu M 10 (F 0).toNatClampNeg x1, jfu F 0 ((F 0) + 1)) else none)
abbrev fQu_addGenerator (x1 : Int32) (M : jM) (F : jF) : Option (Int32 × jM × jF) := fQu_addGenerator_0 x1 M F
set_option maxHeartbeats 4000000 in
set_option maxRecDepth 100000 in
theorem uQu_addGenerator_0 {p : Program} {e : Env} {s : State} {m : MethodId} {args : Array Value} {below : List Frame} {meth : Method} {c : Code} (l : Launch) (dC : Nat → ClassId) (dI : Nat → Nat → Nat) (cA : ClassId) (A : Nat → Nat) (Ap : Nat → Prop) (hC : jAt p s m args meth c bQu_addGenerator 3 (some .int) wQu_addGenerator RQu) (hA : ∀ q : Nat, s.heap.size ≤ q → Ap q) {r : Int32} {M' : jM} {F' : jF} : ∀ (x1 : Int32) (M : jM) (F : jF) (B : Nat → Nat) (H : Heap) (locs : List Loc) (ls : Array Slot), jH (dC, dI) jCl [(cA, .int)] (jW cA A B M F) Ap s H locs → lv_has ls 3 [(0, .ref (A 3)), (1, .int x1)] → fQu_addGenerator_0 x1 M F = some (r, M', F') → W p l e (headSpec wQu_addGenerator rQu_addGenerator).room s m args below meth c H locs 0 0 (jQi below (dC, dI) jCl [(cA, .int)] (fun B => jW cA A B (M') (F')) Ap args s r) (F0 m 0 ls []) := by
  obtain ⟨hx, hb, hml, hr, hts, hown, hlocks, hN⟩ := id hC
  have hj : ∀ w ∈ jw, w.before args s = true := fun w h => hts w (List.mem_cons_of_mem _ h)
  intro x1 M F B H locs ls hJ hl h
  unfold fQu_addGenerator_0 at h
  refine lv_aload_n hx hb dQu_addGenerator_0 rfl (lv_at hl 0 rfl) ?_
  refine va_get (D := (dC, dI)) (ci := 3) (v := .int (F 0)) (C := RQu) (T := TQu) (N := 10) hx hb hj iQu hown hJ.1 hJ.2.1 3 rfl rfl 8 (by decide) (hj _ jw_73) (fun _ h9 => h9) rfl dQu_addGenerator_1 ?_
  refine lv_istore_n (lv' := [(2, .int (F 0)), (0, .ref (A 3)), (1, .int x1)]) hx hb dQu_addGenerator_4 rfl hl (by decide) rfl (fun ls hl => ?_)
  refine lv_aload_n hx hb dQu_addGenerator_5 rfl (lv_at hl 1 rfl) ?_
  refine va_get (D := (dC, dI)) (ci := 3) (v := .ref (A 10)) (C := RQu) (T := TQu) (N := 10) hx hb hj iQu hown hJ.1 hJ.2.1 3 rfl rfl 1 (by decide) (hj _ jw_65) (fun _ h9 => h9) rfl dQu_addGenerator_6 ?_
  refine lv_iload_n hx hb dQu_addGenerator_9 rfl (lv_at hl 0 rfl) ?_
  refine lv_iload_n hx hb dQu_addGenerator_10 rfl (lv_at hl 2 rfl) ?_
  obtain ⟨hi1, h⟩ := jib_h h
  refine jast_10 hx hb hJ hi1 dQu_addGenerator_11 (fun H locs hJ => ?_)
  refine lv_aload_n hx hb dQu_addGenerator_12 rfl (lv_at hl 1 rfl) ?_
  refine lv_iload_n hx hb dQu_addGenerator_13 rfl (lv_at hl 0 rfl) ?_
  refine lv_iconst (v := 1) hx hb dQu_addGenerator_14 (by decide) ?_
  refine lv_iadd hx hb dQu_addGenerator_15 ?_
  refine va_put (D := (dC, dI)) (ci := 3) (v := .int ((F 0) + 1)) (ty := .int) (C := RQu) (T := TQu) (N := 10) hx hb hj iQu tQu tQu_ok nQu hown hJ.1 hJ.2.1 hJ.2.2.1 hJ.2.2.2 3 rfl rfl 8 (by decide) (hj _ jw_73) (fun _ h9 => h9) rfl (by decide +kernel) rfl rfl (Nat.le_of_ble_eq_true rfl) dQu_addGenerator_16 (fun H locs hP hD hS => ?_)
  replace hJ : jH (dC, dI) jCl [(cA, .int)] (jW cA A B (jmu M 10 (F 0).toNatClampNeg x1) (jfu F 0 ((F 0) + 1))) Ap s H locs := ⟨hJ.1, hP, hD, hS⟩
  refine lv_iload_n hx hb dQu_addGenerator_19 rfl (lv_at hl 0 rfl) ?_
  cases h
  exact jreti (u := B) hx hb hr rfl hlocks hJ dQu_addGenerator_20 rfl
set_option maxHeartbeats 4000000 in
set_option maxRecDepth 100000 in
theorem cQu_addGenerator (l : Launch) (dC : Nat → ClassId) (dI : Nat → Nat → Nat) (cA : ClassId) (A : Nat → Nat) (x1 : Int32) (M : jM) (F : jF) (B : Nat → Nat) (sz : Nat) {r : Int32} {M' : jM} {F' : jF} (h : fQu_addGenerator x1 M F = some (r, M', F')) : jCi l yQu_addGenerator wQu_addGenerator rQu_addGenerator (dC, dI) jCl [(cA, .int)] [.ref (A 3), .int x1] (jW cA A B M F) sz r (fun B => jW cA A B (M') (F')) :=
  jOf (Qc := fun Ap => va_Qi (fun q (_ : Nat → Nat) => q = r) (jPost (dC, dI) jCl [(cA, .int)] (fun B => jW cA A B (M') (F')) Ap) Ap) (by decide) rfl (Nat.le_of_ble_eq_true rfl) (fun p e s m below meth c Ap ls hC hA hJ hl => uQu_addGenerator_0 l dC dI cA A Ap hC hA _ _ _ _ _ _ _ hJ (lv_sub hl [0, 1] rfl) h)
abbrev bQu_addCondition : ByteArray := prog_3_method_4_code
abbrev yQu_addCondition : MethodName := ⟨RQu, "addCondition", "(IIIII)I"⟩
abbrev wQu_addCondition : List Cond := .code yQu_addCondition bQu_addCondition 7 (some .int) :: jw
theorem dQu_addCondition_0 : decode bQu_addCondition 0 = .ok (.aload_n 0, 1) := by decide +kernel
theorem dQu_addCondition_1 : decode bQu_addCondition 1 = .ok (.getfield 44, 3) := by decide +kernel
theorem dQu_addCondition_4 : decode bQu_addCondition 4 = .ok (.istore 6, 2) := by decide +kernel
theorem dQu_addCondition_6 : decode bQu_addCondition 6 = .ok (.aload_n 0, 1) := by decide +kernel
theorem dQu_addCondition_7 : decode bQu_addCondition 7 = .ok (.getfield 22, 3) := by decide +kernel
theorem dQu_addCondition_10 : decode bQu_addCondition 10 = .ok (.iload 6, 2) := by decide +kernel
theorem dQu_addCondition_12 : decode bQu_addCondition 12 = .ok (.iload_n 1, 1) := by decide +kernel
theorem dQu_addCondition_13 : decode bQu_addCondition 13 = .ok (.iastore, 1) := by decide +kernel
theorem dQu_addCondition_14 : decode bQu_addCondition 14 = .ok (.aload_n 0, 1) := by decide +kernel
theorem dQu_addCondition_15 : decode bQu_addCondition 15 = .ok (.getfield 25, 3) := by decide +kernel
theorem dQu_addCondition_18 : decode bQu_addCondition 18 = .ok (.iload 6, 2) := by decide +kernel
theorem dQu_addCondition_20 : decode bQu_addCondition 20 = .ok (.iload_n 2, 1) := by decide +kernel
theorem dQu_addCondition_21 : decode bQu_addCondition 21 = .ok (.iastore, 1) := by decide +kernel
theorem dQu_addCondition_22 : decode bQu_addCondition 22 = .ok (.aload_n 0, 1) := by decide +kernel
theorem dQu_addCondition_23 : decode bQu_addCondition 23 = .ok (.getfield 28, 3) := by decide +kernel
theorem dQu_addCondition_26 : decode bQu_addCondition 26 = .ok (.iload 6, 2) := by decide +kernel
theorem dQu_addCondition_28 : decode bQu_addCondition 28 = .ok (.iload_n 3, 1) := by decide +kernel
theorem dQu_addCondition_29 : decode bQu_addCondition 29 = .ok (.iastore, 1) := by decide +kernel
theorem dQu_addCondition_30 : decode bQu_addCondition 30 = .ok (.aload_n 0, 1) := by decide +kernel
theorem dQu_addCondition_31 : decode bQu_addCondition 31 = .ok (.getfield 31, 3) := by decide +kernel
theorem dQu_addCondition_34 : decode bQu_addCondition 34 = .ok (.iload 6, 2) := by decide +kernel
theorem dQu_addCondition_36 : decode bQu_addCondition 36 = .ok (.iload 4, 2) := by decide +kernel
theorem dQu_addCondition_38 : decode bQu_addCondition 38 = .ok (.iastore, 1) := by decide +kernel
theorem dQu_addCondition_39 : decode bQu_addCondition 39 = .ok (.aload_n 0, 1) := by decide +kernel
theorem dQu_addCondition_40 : decode bQu_addCondition 40 = .ok (.getfield 34, 3) := by decide +kernel
theorem dQu_addCondition_43 : decode bQu_addCondition 43 = .ok (.iload 6, 2) := by decide +kernel
theorem dQu_addCondition_45 : decode bQu_addCondition 45 = .ok (.iload 5, 2) := by decide +kernel
theorem dQu_addCondition_47 : decode bQu_addCondition 47 = .ok (.iastore, 1) := by decide +kernel
theorem dQu_addCondition_48 : decode bQu_addCondition 48 = .ok (.aload_n 0, 1) := by decide +kernel
theorem dQu_addCondition_49 : decode bQu_addCondition 49 = .ok (.getfield 37, 3) := by decide +kernel
theorem dQu_addCondition_52 : decode bQu_addCondition 52 = .ok (.iload 6, 2) := by decide +kernel
theorem dQu_addCondition_54 : decode bQu_addCondition 54 = .ok (.iload 4, 2) := by decide +kernel
theorem dQu_addCondition_56 : decode bQu_addCondition 56 = .ok (.iconst (-1), 1) := by decide +kernel
theorem dQu_addCondition_57 : decode bQu_addCondition 57 = .ok (.if_icmp .ne 9, 3) := by decide +kernel
theorem dQu_addCondition_60 : decode bQu_addCondition 60 = .ok (.iconst 1, 1) := by decide +kernel
theorem dQu_addCondition_61 : decode bQu_addCondition 61 = .ok (.iload_n 2, 1) := by decide +kernel
theorem dQu_addCondition_62 : decode bQu_addCondition 62 = .ok (.ishl, 1) := by decide +kernel
theorem dQu_addCondition_63 : decode bQu_addCondition 63 = .ok (.goto 11, 3) := by decide +kernel
theorem dQu_addCondition_66 : decode bQu_addCondition 66 = .ok (.iconst 1, 1) := by decide +kernel
theorem dQu_addCondition_67 : decode bQu_addCondition 67 = .ok (.iload_n 2, 1) := by decide +kernel
theorem dQu_addCondition_68 : decode bQu_addCondition 68 = .ok (.ishl, 1) := by decide +kernel
theorem dQu_addCondition_69 : decode bQu_addCondition 69 = .ok (.iconst 1, 1) := by decide +kernel
theorem dQu_addCondition_70 : decode bQu_addCondition 70 = .ok (.iload 4, 2) := by decide +kernel
theorem dQu_addCondition_72 : decode bQu_addCondition 72 = .ok (.ishl, 1) := by decide +kernel
theorem dQu_addCondition_73 : decode bQu_addCondition 73 = .ok (.ior, 1) := by decide +kernel
theorem dQu_addCondition_74 : decode bQu_addCondition 74 = .ok (.iastore, 1) := by decide +kernel
theorem dQu_addCondition_75 : decode bQu_addCondition 75 = .ok (.aload_n 0, 1) := by decide +kernel
theorem dQu_addCondition_76 : decode bQu_addCondition 76 = .ok (.iload 6, 2) := by decide +kernel
theorem dQu_addCondition_78 : decode bQu_addCondition 78 = .ok (.iconst 1, 1) := by decide +kernel
theorem dQu_addCondition_79 : decode bQu_addCondition 79 = .ok (.iadd, 1) := by decide +kernel
theorem dQu_addCondition_80 : decode bQu_addCondition 80 = .ok (.putfield 44, 3) := by decide +kernel
theorem dQu_addCondition_83 : decode bQu_addCondition 83 = .ok (.iload 6, 2) := by decide +kernel
theorem dQu_addCondition_85 : decode bQu_addCondition 85 = .ok (.ireturn, 1) := by decide +kernel
abbrev rQu_addCondition : Room := { frames := 0, cells := 0, slots := 0, locals := 0 }
def fQu_addCondition_74 (x6 : Int32) (s1 : Int32) (s2 : Int32) (M : jM) (F : jF) : Option (Int32 × jM × jF) := (if jib s1 12 then some (x6, jmu M 16 s1.toNatClampNeg s2, jfu F 1 (x6 + 1)) else none)
def fQu_addCondition_0 (x1 : Int32) (x2 : Int32) (x3 : Int32) (x4 : Int32) (x5 : Int32) (M : jM) (F : jF) : Option (Int32 × jM × jF) := (if jib (F 1) 12 then (if jib (F 1) 12 then (if jib (F 1) 12 then (if jib (F 1) 12 then (if jib (F 1) 12 then (if x4 = (-1) then fQu_addCondition_74 (F 1) (F 1) (1 <<< (x2 &&& 31)) (jmu (jmu (jmu (jmu (jmu M 11 (F 1).toNatClampNeg x1) 12 (F 1).toNatClampNeg x2) 13 (F 1).toNatClampNeg x3) 14 (F 1).toNatClampNeg x4) 15 (F 1).toNatClampNeg x5) F else fQu_addCondition_74 (F 1) (F 1) ((1 <<< (x2 &&& 31)) ||| (1 <<< (x4 &&& 31))) (jmu (jmu (jmu (jmu (jmu M 11 (F 1).toNatClampNeg x1) 12 (F 1).toNatClampNeg x2) 13 (F 1).toNatClampNeg x3) 14 (F 1).toNatClampNeg x4) 15 (F 1).toNatClampNeg x5) F) else none) else none) else none) else none) else none)
abbrev fQu_addCondition (x1 : Int32) (x2 : Int32) (x3 : Int32) (x4 : Int32) (x5 : Int32) (M : jM) (F : jF) : Option (Int32 × jM × jF) := fQu_addCondition_0 x1 x2 x3 x4 x5 M F
set_option maxHeartbeats 4000000 in
set_option maxRecDepth 100000 in
theorem uQu_addCondition_74 {p : Program} {e : Env} {s : State} {m : MethodId} {args : Array Value} {below : List Frame} {meth : Method} {c : Code} (l : Launch) (dC : Nat → ClassId) (dI : Nat → Nat → Nat) (cA : ClassId) (A : Nat → Nat) (Ap : Nat → Prop) (hC : jAt p s m args meth c bQu_addCondition 7 (some .int) wQu_addCondition RQu) (hA : ∀ q : Nat, s.heap.size ≤ q → Ap q) {r : Int32} {M' : jM} {F' : jF} : ∀ (x6 s1 s2 : Int32) (M : jM) (F : jF) (B : Nat → Nat) (H : Heap) (locs : List Loc) (ls : Array Slot), jH (dC, dI) jCl [(cA, .int)] (jW cA A B M F) Ap s H locs → lv_has ls 7 [(0, .ref (A 3)), (6, .int x6)] → fQu_addCondition_74 x6 s1 s2 M F = some (r, M', F') → W p l e (headSpec wQu_addCondition rQu_addCondition).room s m args below meth c H locs 0 0 (jQi below (dC, dI) jCl [(cA, .int)] (fun B => jW cA A B (M') (F')) Ap args s r) (F0 m 74 ls [.int s2, .int s1, .ref (A 16)]) := by
  obtain ⟨hx, hb, hml, hr, hts, hown, hlocks, hN⟩ := id hC
  have hj : ∀ w ∈ jw, w.before args s = true := fun w h => hts w (List.mem_cons_of_mem _ h)
  intro x6 s1 s2 M F B H locs ls hJ hl h
  unfold fQu_addCondition_74 at h
  obtain ⟨hi7, h⟩ := jib_h h
  refine jast_16 hx hb hJ hi7 dQu_addCondition_74 (fun H locs hJ => ?_)
  refine lv_aload_n hx hb dQu_addCondition_75 rfl (lv_at hl 0 rfl) ?_
  refine lv_iload hx hb dQu_addCondition_76 (lv_at hl 1 rfl) ?_
  refine lv_iconst (v := 1) hx hb dQu_addCondition_78 (by decide) ?_
  refine lv_iadd hx hb dQu_addCondition_79 ?_
  refine va_put (D := (dC, dI)) (ci := 3) (v := .int (x6 + 1)) (ty := .int) (C := RQu) (T := TQu) (N := 10) hx hb hj iQu tQu tQu_ok nQu hown hJ.1 hJ.2.1 hJ.2.2.1 hJ.2.2.2 3 rfl rfl 9 (by decide) (hj _ jw_77) (fun _ h9 => h9) rfl (by decide +kernel) rfl rfl (Nat.le_of_ble_eq_true rfl) dQu_addCondition_80 (fun H locs hP hD hS => ?_)
  replace hJ : jH (dC, dI) jCl [(cA, .int)] (jW cA A B (jmu M 16 s1.toNatClampNeg s2) (jfu F 1 (x6 + 1))) Ap s H locs := ⟨hJ.1, hP, hD, hS⟩
  refine lv_iload hx hb dQu_addCondition_83 (lv_at hl 1 rfl) ?_
  cases h
  exact jreti (u := B) hx hb hr rfl hlocks hJ dQu_addCondition_85 rfl
set_option maxHeartbeats 4000000 in
set_option maxRecDepth 100000 in
theorem uQu_addCondition_0 {p : Program} {e : Env} {s : State} {m : MethodId} {args : Array Value} {below : List Frame} {meth : Method} {c : Code} (l : Launch) (dC : Nat → ClassId) (dI : Nat → Nat → Nat) (cA : ClassId) (A : Nat → Nat) (Ap : Nat → Prop) (hC : jAt p s m args meth c bQu_addCondition 7 (some .int) wQu_addCondition RQu) (hA : ∀ q : Nat, s.heap.size ≤ q → Ap q) {r : Int32} {M' : jM} {F' : jF} : ∀ (x1 x2 x3 x4 x5 : Int32) (M : jM) (F : jF) (B : Nat → Nat) (H : Heap) (locs : List Loc) (ls : Array Slot), jH (dC, dI) jCl [(cA, .int)] (jW cA A B M F) Ap s H locs → lv_has ls 7 [(0, .ref (A 3)), (1, .int x1), (2, .int x2), (3, .int x3), (4, .int x4), (5, .int x5)] → fQu_addCondition_0 x1 x2 x3 x4 x5 M F = some (r, M', F') → W p l e (headSpec wQu_addCondition rQu_addCondition).room s m args below meth c H locs 0 0 (jQi below (dC, dI) jCl [(cA, .int)] (fun B => jW cA A B (M') (F')) Ap args s r) (F0 m 0 ls []) := by
  obtain ⟨hx, hb, hml, hr, hts, hown, hlocks, hN⟩ := id hC
  have hj : ∀ w ∈ jw, w.before args s = true := fun w h => hts w (List.mem_cons_of_mem _ h)
  intro x1 x2 x3 x4 x5 M F B H locs ls hJ hl h
  unfold fQu_addCondition_0 at h
  refine lv_aload_n hx hb dQu_addCondition_0 rfl (lv_at hl 0 rfl) ?_
  refine va_get (D := (dC, dI)) (ci := 3) (v := .int (F 1)) (C := RQu) (T := TQu) (N := 10) hx hb hj iQu hown hJ.1 hJ.2.1 3 rfl rfl 9 (by decide) (hj _ jw_77) (fun _ h9 => h9) rfl dQu_addCondition_1 ?_
  refine lv_istore (lv' := [(6, .int (F 1)), (0, .ref (A 3)), (1, .int x1), (2, .int x2), (3, .int x3), (4, .int x4), (5, .int x5)]) hx hb dQu_addCondition_4 hl (by decide) rfl (fun ls hl => ?_)
  refine lv_aload_n hx hb dQu_addCondition_6 rfl (lv_at hl 1 rfl) ?_
  refine va_get (D := (dC, dI)) (ci := 3) (v := .ref (A 11)) (C := RQu) (T := TQu) (N := 10) hx hb hj iQu hown hJ.1 hJ.2.1 3 rfl rfl 2 (by decide) (hj _ jw_66) (fun _ h9 => h9) rfl dQu_addCondition_7 ?_
  refine lv_iload hx hb dQu_addCondition_10 (lv_at hl 0 rfl) ?_
  refine lv_iload_n hx hb dQu_addCondition_12 rfl (lv_at hl 2 rfl) ?_
  obtain ⟨hi1, h⟩ := jib_h h
  refine jast_11 hx hb hJ hi1 dQu_addCondition_13 (fun H locs hJ => ?_)
  refine lv_aload_n hx hb dQu_addCondition_14 rfl (lv_at hl 1 rfl) ?_
  refine va_get (D := (dC, dI)) (ci := 3) (v := .ref (A 12)) (C := RQu) (T := TQu) (N := 10) hx hb hj iQu hown hJ.1 hJ.2.1 3 rfl rfl 3 (by decide) (hj _ jw_68) (fun _ h9 => h9) rfl dQu_addCondition_15 ?_
  refine lv_iload hx hb dQu_addCondition_18 (lv_at hl 0 rfl) ?_
  refine lv_iload_n hx hb dQu_addCondition_20 rfl (lv_at hl 3 rfl) ?_
  obtain ⟨hi2, h⟩ := jib_h h
  refine jast_12 hx hb hJ hi2 dQu_addCondition_21 (fun H locs hJ => ?_)
  refine lv_aload_n hx hb dQu_addCondition_22 rfl (lv_at hl 1 rfl) ?_
  refine va_get (D := (dC, dI)) (ci := 3) (v := .ref (A 13)) (C := RQu) (T := TQu) (N := 10) hx hb hj iQu hown hJ.1 hJ.2.1 3 rfl rfl 4 (by decide) (hj _ jw_69) (fun _ h9 => h9) rfl dQu_addCondition_23 ?_
  refine lv_iload hx hb dQu_addCondition_26 (lv_at hl 0 rfl) ?_
  refine lv_iload_n hx hb dQu_addCondition_28 rfl (lv_at hl 4 rfl) ?_
  obtain ⟨hi3, h⟩ := jib_h h
  refine jast_13 hx hb hJ hi3 dQu_addCondition_29 (fun H locs hJ => ?_)
  refine lv_aload_n hx hb dQu_addCondition_30 rfl (lv_at hl 1 rfl) ?_
  refine va_get (D := (dC, dI)) (ci := 3) (v := .ref (A 14)) (C := RQu) (T := TQu) (N := 10) hx hb hj iQu hown hJ.1 hJ.2.1 3 rfl rfl 5 (by decide) (hj _ jw_70) (fun _ h9 => h9) rfl dQu_addCondition_31 ?_
  refine lv_iload hx hb dQu_addCondition_34 (lv_at hl 0 rfl) ?_
  refine lv_iload hx hb dQu_addCondition_36 (lv_at hl 5 rfl) ?_
  obtain ⟨hi4, h⟩ := jib_h h
  refine jast_14 hx hb hJ hi4 dQu_addCondition_38 (fun H locs hJ => ?_)
  refine lv_aload_n hx hb dQu_addCondition_39 rfl (lv_at hl 1 rfl) ?_
  refine va_get (D := (dC, dI)) (ci := 3) (v := .ref (A 15)) (C := RQu) (T := TQu) (N := 10) hx hb hj iQu hown hJ.1 hJ.2.1 3 rfl rfl 6 (by decide) (hj _ jw_71) (fun _ h9 => h9) rfl dQu_addCondition_40 ?_
  refine lv_iload hx hb dQu_addCondition_43 (lv_at hl 0 rfl) ?_
  refine lv_iload hx hb dQu_addCondition_45 (lv_at hl 6 rfl) ?_
  obtain ⟨hi5, h⟩ := jib_h h
  refine jast_15 hx hb hJ hi5 dQu_addCondition_47 (fun H locs hJ => ?_)
  refine lv_aload_n hx hb dQu_addCondition_48 rfl (lv_at hl 1 rfl) ?_
  refine va_get (D := (dC, dI)) (ci := 3) (v := .ref (A 16)) (C := RQu) (T := TQu) (N := 10) hx hb hj iQu hown hJ.1 hJ.2.1 3 rfl rfl 7 (by decide) (hj _ jw_72) (fun _ h9 => h9) rfl dQu_addCondition_49 ?_
  refine lv_iload hx hb dQu_addCondition_52 (lv_at hl 0 rfl) ?_
  refine lv_iload hx hb dQu_addCondition_54 (lv_at hl 5 rfl) ?_
  refine lv_iconst (v := (-1)) hx hb dQu_addCondition_56 (by decide) ?_
  refine lv_icmp_ne (tgt := 66) hx hb dQu_addCondition_57 (by decide) (fun c6 => ?_) (fun c6 => ?_)
  · replace h := jif_f c6 h
    refine lv_iconst (v := 1) hx hb dQu_addCondition_66 (by decide) ?_
    refine lv_iload_n hx hb dQu_addCondition_67 rfl (lv_at hl 3 rfl) ?_
    refine lv_ishl hx hb dQu_addCondition_68 ?_
    refine lv_iconst (v := 1) hx hb dQu_addCondition_69 (by decide) ?_
    refine lv_iload hx hb dQu_addCondition_70 (lv_at hl 5 rfl) ?_
    refine lv_ishl hx hb dQu_addCondition_72 ?_
    refine lv_ior hx hb dQu_addCondition_73 ?_
    exact uQu_addCondition_74 l dC dI cA A Ap hC hA _ _ _ _ _ _ _ _ _ hJ (lv_sub hl [1, 0] rfl) h
  · replace h := jif_t c6 h
    refine lv_iconst (v := 1) hx hb dQu_addCondition_60 (by decide) ?_
    refine lv_iload_n hx hb dQu_addCondition_61 rfl (lv_at hl 3 rfl) ?_
    refine lv_ishl hx hb dQu_addCondition_62 ?_
    refine lv_goto (tgt := 74) hx hb dQu_addCondition_63 (by decide) ?_
    exact uQu_addCondition_74 l dC dI cA A Ap hC hA _ _ _ _ _ _ _ _ _ hJ (lv_sub hl [1, 0] rfl) h
set_option maxHeartbeats 4000000 in
set_option maxRecDepth 100000 in
theorem cQu_addCondition (l : Launch) (dC : Nat → ClassId) (dI : Nat → Nat → Nat) (cA : ClassId) (A : Nat → Nat) (x1 : Int32) (x2 : Int32) (x3 : Int32) (x4 : Int32) (x5 : Int32) (M : jM) (F : jF) (B : Nat → Nat) (sz : Nat) {r : Int32} {M' : jM} {F' : jF} (h : fQu_addCondition x1 x2 x3 x4 x5 M F = some (r, M', F')) : jCi l yQu_addCondition wQu_addCondition rQu_addCondition (dC, dI) jCl [(cA, .int)] [.ref (A 3), .int x1, .int x2, .int x3, .int x4, .int x5] (jW cA A B M F) sz r (fun B => jW cA A B (M') (F')) :=
  jOf (Qc := fun Ap => va_Qi (fun q (_ : Nat → Nat) => q = r) (jPost (dC, dI) jCl [(cA, .int)] (fun B => jW cA A B (M') (F')) Ap) Ap) (by decide) rfl (Nat.le_of_ble_eq_true rfl) (fun p e s m below meth c Ap ls hC hA hJ hl => uQu_addCondition_0 l dC dI cA A Ap hC hA _ _ _ _ _ _ _ _ _ _ _ hJ (lv_sub hl [0, 1, 2, 3, 4, 5] rfl) h)
abbrev bQu_rowsOf : ByteArray := prog_3_method_5_code
abbrev yQu_rowsOf : MethodName := ⟨RQu, "rowsOf", "(I)I"⟩
abbrev wQu_rowsOf : List Cond := .code yQu_rowsOf bQu_rowsOf 2 (some .int) :: jw
theorem dQu_rowsOf_0 : decode bQu_rowsOf 0 = .ok (.aload_n 0, 1) := by decide +kernel
theorem dQu_rowsOf_1 : decode bQu_rowsOf 1 = .ok (.getfield 12, 3) := by decide +kernel
theorem dQu_rowsOf_4 : decode bQu_rowsOf 4 = .ok (.aload_n 0, 1) := by decide +kernel
theorem dQu_rowsOf_5 : decode bQu_rowsOf 5 = .ok (.getfield 18, 3) := by decide +kernel
theorem dQu_rowsOf_8 : decode bQu_rowsOf 8 = .ok (.iload_n 1, 1) := by decide +kernel
theorem dQu_rowsOf_9 : decode bQu_rowsOf 9 = .ok (.iaload, 1) := by decide +kernel
theorem dQu_rowsOf_10 : decode bQu_rowsOf 10 = .ok (.invokevirtual 47, 3) := by decide +kernel
theorem dQu_rowsOf_13 : decode bQu_rowsOf 13 = .ok (.ireturn, 1) := by decide +kernel
abbrev rQu_rowsOf : Room := { frames := 1, cells := 0, slots := 0, locals := 21 }
def fQu_rowsOf_0 (x1 : Int32) (M : jM) (F : jF) : Option Int32 := (if jib x1 6 then ((fTa_rows (M 10 x1.toNatClampNeg) M F).bind fun q2 => some q2) else none)
abbrev fQu_rowsOf (x1 : Int32) (M : jM) (F : jF) : Option Int32 := fQu_rowsOf_0 x1 M F
set_option maxHeartbeats 4000000 in
set_option maxRecDepth 100000 in
theorem uQu_rowsOf_0 {p : Program} {e : Env} {s : State} {m : MethodId} {args : Array Value} {below : List Frame} {meth : Method} {c : Code} (l : Launch) (dC : Nat → ClassId) (dI : Nat → Nat → Nat) (cA : ClassId) (A : Nat → Nat) (Ap : Nat → Prop) (hC : jAt p s m args meth c bQu_rowsOf 2 (some .int) wQu_rowsOf RQu) (hA : ∀ q : Nat, s.heap.size ≤ q → Ap q) {r : Int32} : ∀ (x1 : Int32) (M : jM) (F : jF) (B : Nat → Nat) (H : Heap) (locs : List Loc) (ls : Array Slot), jH (dC, dI) jCl [(cA, .int)] (jW cA A B M F) Ap s H locs → lv_has ls 2 [(0, .ref (A 3)), (1, .int x1)] → fQu_rowsOf_0 x1 M F = some r → W p l e (headSpec wQu_rowsOf rQu_rowsOf).room s m args below meth c H locs 0 0 (jQi below (dC, dI) jCl [(cA, .int)] (fun B => jW cA A B M F) Ap args s r) (F0 m 0 ls []) := by
  obtain ⟨hx, hb, hml, hr, hts, hown, hlocks, hN⟩ := id hC
  have hj : ∀ w ∈ jw, w.before args s = true := fun w h => hts w (List.mem_cons_of_mem _ h)
  intro x1 M F B H locs ls hJ hl h
  unfold fQu_rowsOf_0 at h
  refine lv_aload_n hx hb dQu_rowsOf_0 rfl (lv_at hl 0 rfl) ?_
  refine va_get (D := (dC, dI)) (ci := 3) (v := .ref (A 4)) (C := RQu) (T := TQu) (N := 10) hx hb hj iQu hown hJ.1 hJ.2.1 3 rfl rfl 0 (by decide) (hj _ jw_63) (fun _ h9 => h9) rfl dQu_rowsOf_1 ?_
  refine lv_aload_n hx hb dQu_rowsOf_4 rfl (lv_at hl 0 rfl) ?_
  refine va_get (D := (dC, dI)) (ci := 3) (v := .ref (A 10)) (C := RQu) (T := TQu) (N := 10) hx hb hj iQu hown hJ.1 hJ.2.1 3 rfl rfl 1 (by decide) (hj _ jw_65) (fun _ h9 => h9) rfl dQu_rowsOf_5 ?_
  refine lv_iload_n hx hb dQu_rowsOf_8 rfl (lv_at hl 1 rfl) ?_
  obtain ⟨hi1, h⟩ := jib_h h
  refine jald_10 hx hb hJ hi1 dQu_rowsOf_9 ?_
  obtain ⟨q2, hq2, h⟩ := jbi_h h
  refine jcalli (w' := fun B => jW cA A B M F) (va_runV (As := [.int (M 10 x1.toNatClampNeg)]) (rest := []) ⟨hx, hb, hml, hown, hts⟩ (cTa_rows l dC dI cA A (M 10 x1.toNatClampNeg) M F B H.size hq2) (cwV 1 hts (jgoodV jw_423 jw_298 jw_299 jw_5 jw_300) rfl rfl rfl (by decide +kernel) ⟨Nat.le_of_ble_eq_true rfl, Nat.le_of_ble_eq_true rfl⟩) (jpreV hN hJ (ci := 4) (q0 := 4) rfl rfl) rfl rfl hl.1 rfl (lv_room (Nat.le_of_ble_eq_true rfl)) dQu_rowsOf_10 ⟨Nat.zero_le _, Nat.zero_le _⟩) hA hJ (fun B H locs hJ => ?_)
  exact jreti (u := B) hx hb hr rfl hlocks hJ dQu_rowsOf_13 (Option.some.inj h)
set_option maxHeartbeats 4000000 in
set_option maxRecDepth 100000 in
theorem cQu_rowsOf (l : Launch) (dC : Nat → ClassId) (dI : Nat → Nat → Nat) (cA : ClassId) (A : Nat → Nat) (x1 : Int32) (M : jM) (F : jF) (B : Nat → Nat) (sz : Nat) {r : Int32} (h : fQu_rowsOf x1 M F = some r) : jCi l yQu_rowsOf wQu_rowsOf rQu_rowsOf (dC, dI) jCl [(cA, .int)] [.ref (A 3), .int x1] (jW cA A B M F) sz r (fun B => jW cA A B M F) :=
  jOf (Qc := fun Ap => va_Qi (fun q (_ : Nat → Nat) => q = r) (jPost (dC, dI) jCl [(cA, .int)] (fun B => jW cA A B M F) Ap) Ap) (by decide) rfl (Nat.le_of_ble_eq_true rfl) (fun p e s m below meth c Ap ls hC hA hJ hl => uQu_rowsOf_0 l dC dI cA A Ap hC hA _ _ _ _ _ _ _ hJ (lv_sub hl [0, 1] rfl) h)
abbrev bQu_isWithin : ByteArray := prog_3_method_6_code
abbrev yQu_isWithin : MethodName := ⟨RQu, "isWithin", "(II)Z"⟩
abbrev wQu_isWithin : List Cond := .code yQu_isWithin bQu_isWithin 3 (some .boolean) :: jw
theorem dQu_isWithin_0 : decode bQu_isWithin 0 = .ok (.aload_n 0, 1) := by decide +kernel
theorem dQu_isWithin_1 : decode bQu_isWithin 1 = .ok (.getfield 37, 3) := by decide +kernel
theorem dQu_isWithin_4 : decode bQu_isWithin 4 = .ok (.iload_n 1, 1) := by decide +kernel
theorem dQu_isWithin_5 : decode bQu_isWithin 5 = .ok (.iaload, 1) := by decide +kernel
theorem dQu_isWithin_6 : decode bQu_isWithin 6 = .ok (.iload_n 2, 1) := by decide +kernel
theorem dQu_isWithin_7 : decode bQu_isWithin 7 = .ok (.iconst (-1), 1) := by decide +kernel
theorem dQu_isWithin_8 : decode bQu_isWithin 8 = .ok (.ixor, 1) := by decide +kernel
theorem dQu_isWithin_9 : decode bQu_isWithin 9 = .ok (.iand, 1) := by decide +kernel
theorem dQu_isWithin_10 : decode bQu_isWithin 10 = .ok (.ifCond .ne 7, 3) := by decide +kernel
theorem dQu_isWithin_13 : decode bQu_isWithin 13 = .ok (.iconst 1, 1) := by decide +kernel
theorem dQu_isWithin_14 : decode bQu_isWithin 14 = .ok (.goto 4, 3) := by decide +kernel
theorem dQu_isWithin_17 : decode bQu_isWithin 17 = .ok (.iconst 0, 1) := by decide +kernel
theorem dQu_isWithin_18 : decode bQu_isWithin 18 = .ok (.ireturn, 1) := by decide +kernel
abbrev rQu_isWithin : Room := { frames := 0, cells := 0, slots := 0, locals := 0 }
def fQu_isWithin_0 (x1 : Int32) (x2 : Int32) (M : jM) (F : jF) : Option Int32 := (if jib x1 12 then (if ((M 16 x1.toNatClampNeg) &&& (x2 ^^^ (-1))) = 0 then some 1 else some 0) else none)
abbrev fQu_isWithin (x1 : Int32) (x2 : Int32) (M : jM) (F : jF) : Option Int32 := fQu_isWithin_0 x1 x2 M F
set_option maxHeartbeats 4000000 in
set_option maxRecDepth 100000 in
theorem uQu_isWithin_0 {p : Program} {e : Env} {s : State} {m : MethodId} {args : Array Value} {below : List Frame} {meth : Method} {c : Code} (l : Launch) (dC : Nat → ClassId) (dI : Nat → Nat → Nat) (cA : ClassId) (A : Nat → Nat) (Ap : Nat → Prop) (hC : jAt p s m args meth c bQu_isWithin 3 (some .boolean) wQu_isWithin RQu) (hA : ∀ q : Nat, s.heap.size ≤ q → Ap q) {r : Int32} : ∀ (x1 x2 : Int32) (M : jM) (F : jF) (B : Nat → Nat) (H : Heap) (locs : List Loc) (ls : Array Slot), jH (dC, dI) jCl [(cA, .int)] (jW cA A B M F) Ap s H locs → lv_has ls 3 [(0, .ref (A 3)), (1, .int x1), (2, .int x2)] → fQu_isWithin_0 x1 x2 M F = some r → W p l e (headSpec wQu_isWithin rQu_isWithin).room s m args below meth c H locs 0 0 (jQi below (dC, dI) jCl [(cA, .int)] (fun B => jW cA A B M F) Ap args s r) (F0 m 0 ls []) := by
  obtain ⟨hx, hb, hml, hr, hts, hown, hlocks, hN⟩ := id hC
  have hj : ∀ w ∈ jw, w.before args s = true := fun w h => hts w (List.mem_cons_of_mem _ h)
  intro x1 x2 M F B H locs ls hJ hl h
  unfold fQu_isWithin_0 at h
  refine lv_aload_n hx hb dQu_isWithin_0 rfl (lv_at hl 0 rfl) ?_
  refine va_get (D := (dC, dI)) (ci := 3) (v := .ref (A 16)) (C := RQu) (T := TQu) (N := 10) hx hb hj iQu hown hJ.1 hJ.2.1 3 rfl rfl 7 (by decide) (hj _ jw_72) (fun _ h9 => h9) rfl dQu_isWithin_1 ?_
  refine lv_iload_n hx hb dQu_isWithin_4 rfl (lv_at hl 1 rfl) ?_
  obtain ⟨hi1, h⟩ := jib_h h
  refine jald_16 hx hb hJ hi1 dQu_isWithin_5 ?_
  refine lv_iload_n hx hb dQu_isWithin_6 rfl (lv_at hl 2 rfl) ?_
  refine lv_iconst (v := (-1)) hx hb dQu_isWithin_7 (by decide) ?_
  refine lv_ixor hx hb dQu_isWithin_8 ?_
  refine lv_iand hx hb dQu_isWithin_9 ?_
  refine lv_if_ne (tgt := 17) hx hb dQu_isWithin_10 (by decide) (fun c2 => ?_) (fun c2 => ?_)
  · replace h := jif_f c2 h
    refine lv_iconst (v := 0) hx hb dQu_isWithin_17 (by decide) ?_
    exact jreti (u := B) hx hb hr rfl hlocks hJ dQu_isWithin_18 (Option.some.inj h)
  · replace h := jif_t c2 h
    refine lv_iconst (v := 1) hx hb dQu_isWithin_13 (by decide) ?_
    refine lv_goto (tgt := 18) hx hb dQu_isWithin_14 (by decide) ?_
    exact jreti (u := B) hx hb hr rfl hlocks hJ dQu_isWithin_18 (Option.some.inj h)
set_option maxHeartbeats 4000000 in
set_option maxRecDepth 100000 in
theorem cQu_isWithin (l : Launch) (dC : Nat → ClassId) (dI : Nat → Nat → Nat) (cA : ClassId) (A : Nat → Nat) (x1 : Int32) (x2 : Int32) (M : jM) (F : jF) (B : Nat → Nat) (sz : Nat) {r : Int32} (h : fQu_isWithin x1 x2 M F = some r) : jCi l yQu_isWithin wQu_isWithin rQu_isWithin (dC, dI) jCl [(cA, .int)] [.ref (A 3), .int x1, .int x2] (jW cA A B M F) sz r (fun B => jW cA A B M F) :=
  jOf (Qc := fun Ap => va_Qi (fun q (_ : Nat → Nat) => q = r) (jPost (dC, dI) jCl [(cA, .int)] (fun B => jW cA A B M F) Ap) Ap) (by decide) rfl (Nat.le_of_ble_eq_true rfl) (fun p e s m below meth c Ap ls hC hA hJ hl => uQu_isWithin_0 l dC dI cA A Ap hC hA _ _ _ _ _ _ _ _ hJ (lv_sub hl [0, 1, 2] rfl) h)
abbrev bQu_isJudgedAt : ByteArray := prog_3_method_7_code
abbrev yQu_isJudgedAt : MethodName := ⟨RQu, "isJudgedAt", "(III)Z"⟩
abbrev wQu_isJudgedAt : List Cond := .code yQu_isJudgedAt bQu_isJudgedAt 4 (some .boolean) :: jw
theorem dQu_isJudgedAt_0 : decode bQu_isJudgedAt 0 = .ok (.aload_n 0, 1) := by decide +kernel
theorem dQu_isJudgedAt_1 : decode bQu_isJudgedAt 1 = .ok (.iload_n 1, 1) := by decide +kernel
theorem dQu_isJudgedAt_2 : decode bQu_isJudgedAt 2 = .ok (.iload_n 3, 1) := by decide +kernel
theorem dQu_isJudgedAt_3 : decode bQu_isJudgedAt 3 = .ok (.iconst 1, 1) := by decide +kernel
theorem dQu_isJudgedAt_4 : decode bQu_isJudgedAt 4 = .ok (.iload_n 2, 1) := by decide +kernel
theorem dQu_isJudgedAt_5 : decode bQu_isJudgedAt 5 = .ok (.ishl, 1) := by decide +kernel
theorem dQu_isJudgedAt_6 : decode bQu_isJudgedAt 6 = .ok (.ior, 1) := by decide +kernel
theorem dQu_isJudgedAt_7 : decode bQu_isJudgedAt 7 = .ok (.invokevirtual 51, 3) := by decide +kernel
theorem dQu_isJudgedAt_10 : decode bQu_isJudgedAt 10 = .ok (.ifCond .eq 16, 3) := by decide +kernel
theorem dQu_isJudgedAt_13 : decode bQu_isJudgedAt 13 = .ok (.aload_n 0, 1) := by decide +kernel
theorem dQu_isJudgedAt_14 : decode bQu_isJudgedAt 14 = .ok (.iload_n 1, 1) := by decide +kernel
theorem dQu_isJudgedAt_15 : decode bQu_isJudgedAt 15 = .ok (.iload_n 3, 1) := by decide +kernel
theorem dQu_isJudgedAt_16 : decode bQu_isJudgedAt 16 = .ok (.invokevirtual 51, 3) := by decide +kernel
theorem dQu_isJudgedAt_19 : decode bQu_isJudgedAt 19 = .ok (.ifCond .ne 7, 3) := by decide +kernel
theorem dQu_isJudgedAt_22 : decode bQu_isJudgedAt 22 = .ok (.iconst 1, 1) := by decide +kernel
theorem dQu_isJudgedAt_23 : decode bQu_isJudgedAt 23 = .ok (.goto 4, 3) := by decide +kernel
theorem dQu_isJudgedAt_26 : decode bQu_isJudgedAt 26 = .ok (.iconst 0, 1) := by decide +kernel
theorem dQu_isJudgedAt_27 : decode bQu_isJudgedAt 27 = .ok (.ireturn, 1) := by decide +kernel
abbrev rQu_isJudgedAt : Room := { frames := 1, cells := 0, slots := 0, locals := 22 }
def fQu_isJudgedAt_0 (x1 : Int32) (x2 : Int32) (x3 : Int32) (M : jM) (F : jF) : Option Int32 := ((fQu_isWithin x1 (x3 ||| (1 <<< (x2 &&& 31))) M F).bind fun q1 => (if q1 = 0 then some 0 else ((fQu_isWithin x1 x3 M F).bind fun q3 => (if q3 = 0 then some 1 else some 0))))
abbrev fQu_isJudgedAt (x1 : Int32) (x2 : Int32) (x3 : Int32) (M : jM) (F : jF) : Option Int32 := fQu_isJudgedAt_0 x1 x2 x3 M F
set_option maxHeartbeats 4000000 in
set_option maxRecDepth 100000 in
theorem uQu_isJudgedAt_0 {p : Program} {e : Env} {s : State} {m : MethodId} {args : Array Value} {below : List Frame} {meth : Method} {c : Code} (l : Launch) (dC : Nat → ClassId) (dI : Nat → Nat → Nat) (cA : ClassId) (A : Nat → Nat) (Ap : Nat → Prop) (hC : jAt p s m args meth c bQu_isJudgedAt 4 (some .boolean) wQu_isJudgedAt RQu) (hA : ∀ q : Nat, s.heap.size ≤ q → Ap q) {r : Int32} : ∀ (x1 x2 x3 : Int32) (M : jM) (F : jF) (B : Nat → Nat) (H : Heap) (locs : List Loc) (ls : Array Slot), jH (dC, dI) jCl [(cA, .int)] (jW cA A B M F) Ap s H locs → lv_has ls 4 [(0, .ref (A 3)), (1, .int x1), (2, .int x2), (3, .int x3)] → fQu_isJudgedAt_0 x1 x2 x3 M F = some r → W p l e (headSpec wQu_isJudgedAt rQu_isJudgedAt).room s m args below meth c H locs 0 0 (jQi below (dC, dI) jCl [(cA, .int)] (fun B => jW cA A B M F) Ap args s r) (F0 m 0 ls []) := by
  obtain ⟨hx, hb, hml, hr, hts, hown, hlocks, hN⟩ := id hC
  have hj : ∀ w ∈ jw, w.before args s = true := fun w h => hts w (List.mem_cons_of_mem _ h)
  intro x1 x2 x3 M F B H locs ls hJ hl h
  unfold fQu_isJudgedAt_0 at h
  refine lv_aload_n hx hb dQu_isJudgedAt_0 rfl (lv_at hl 0 rfl) ?_
  refine lv_iload_n hx hb dQu_isJudgedAt_1 rfl (lv_at hl 1 rfl) ?_
  refine lv_iload_n hx hb dQu_isJudgedAt_2 rfl (lv_at hl 3 rfl) ?_
  refine lv_iconst (v := 1) hx hb dQu_isJudgedAt_3 (by decide) ?_
  refine lv_iload_n hx hb dQu_isJudgedAt_4 rfl (lv_at hl 2 rfl) ?_
  refine lv_ishl hx hb dQu_isJudgedAt_5 ?_
  refine lv_ior hx hb dQu_isJudgedAt_6 ?_
  obtain ⟨q1, hq1, h⟩ := jbi_h h
  refine jcalli (w' := fun B => jW cA A B M F) (va_runV (As := [.int x1, .int (x3 ||| (1 <<< (x2 &&& 31)))]) (rest := []) ⟨hx, hb, hml, hown, hts⟩ (cQu_isWithin l dC dI cA A x1 (x3 ||| (1 <<< (x2 &&& 31))) M F B H.size hq1) (cwV 2 hts (jgoodV jw_478 jw_425 jw_426 jw_4 jw_427) rfl rfl rfl (by decide +kernel) ⟨Nat.le_of_ble_eq_true rfl, Nat.le_of_ble_eq_true rfl⟩) (jpreV hN hJ (ci := 3) (q0 := 3) rfl rfl) rfl rfl hl.1 rfl (lv_room (Nat.le_of_ble_eq_true rfl)) dQu_isJudgedAt_7 ⟨Nat.zero_le _, Nat.zero_le _⟩) hA hJ (fun B H locs hJ => ?_)
  refine lv_if_eq (tgt := 26) hx hb dQu_isJudgedAt_10 (by decide) (fun c2 => ?_) (fun c2 => ?_)
  · replace h := jif_t c2 h
    refine lv_iconst (v := 0) hx hb dQu_isJudgedAt_26 (by decide) ?_
    exact jreti (u := B) hx hb hr rfl hlocks hJ dQu_isJudgedAt_27 (Option.some.inj h)
  · replace h := jif_f c2 h
    refine lv_aload_n hx hb dQu_isJudgedAt_13 rfl (lv_at hl 0 rfl) ?_
    refine lv_iload_n hx hb dQu_isJudgedAt_14 rfl (lv_at hl 1 rfl) ?_
    refine lv_iload_n hx hb dQu_isJudgedAt_15 rfl (lv_at hl 3 rfl) ?_
    obtain ⟨q3, hq3, h⟩ := jbi_h h
    refine jcalli (w' := fun B => jW cA A B M F) (va_runV (As := [.int x1, .int x3]) (rest := []) ⟨hx, hb, hml, hown, hts⟩ (cQu_isWithin l dC dI cA A x1 x3 M F B H.size hq3) (cwV 2 hts (jgoodV jw_478 jw_425 jw_426 jw_4 jw_427) rfl rfl rfl (by decide +kernel) ⟨Nat.le_of_ble_eq_true rfl, Nat.le_of_ble_eq_true rfl⟩) (jpreV hN hJ (ci := 3) (q0 := 3) rfl rfl) rfl rfl hl.1 rfl (lv_room (Nat.le_of_ble_eq_true rfl)) dQu_isJudgedAt_16 ⟨Nat.zero_le _, Nat.zero_le _⟩) hA hJ (fun B H locs hJ => ?_)
    refine lv_if_ne (tgt := 26) hx hb dQu_isJudgedAt_19 (by decide) (fun c4 => ?_) (fun c4 => ?_)
    · replace h := jif_f c4 h
      refine lv_iconst (v := 0) hx hb dQu_isJudgedAt_26 (by decide) ?_
      exact jreti (u := B) hx hb hr rfl hlocks hJ dQu_isJudgedAt_27 (Option.some.inj h)
    · replace h := jif_t c4 h
      refine lv_iconst (v := 1) hx hb dQu_isJudgedAt_22 (by decide) ?_
      refine lv_goto (tgt := 27) hx hb dQu_isJudgedAt_23 (by decide) ?_
      exact jreti (u := B) hx hb hr rfl hlocks hJ dQu_isJudgedAt_27 (Option.some.inj h)
set_option maxHeartbeats 4000000 in
set_option maxRecDepth 100000 in
theorem cQu_isJudgedAt (l : Launch) (dC : Nat → ClassId) (dI : Nat → Nat → Nat) (cA : ClassId) (A : Nat → Nat) (x1 : Int32) (x2 : Int32) (x3 : Int32) (M : jM) (F : jF) (B : Nat → Nat) (sz : Nat) {r : Int32} (h : fQu_isJudgedAt x1 x2 x3 M F = some r) : jCi l yQu_isJudgedAt wQu_isJudgedAt rQu_isJudgedAt (dC, dI) jCl [(cA, .int)] [.ref (A 3), .int x1, .int x2, .int x3] (jW cA A B M F) sz r (fun B => jW cA A B M F) :=
  jOf (Qc := fun Ap => va_Qi (fun q (_ : Nat → Nat) => q = r) (jPost (dC, dI) jCl [(cA, .int)] (fun B => jW cA A B M F) Ap) Ap) (by decide) rfl (Nat.le_of_ble_eq_true rfl) (fun p e s m below meth c Ap ls hC hA hJ hl => uQu_isJudgedAt_0 l dC dI cA A Ap hC hA _ _ _ _ _ _ _ _ _ hJ (lv_sub hl [0, 1, 2, 3] rfl) h)
abbrev bQu_partner : ByteArray := prog_3_method_8_code
abbrev yQu_partner : MethodName := ⟨RQu, "partner", "(II)I"⟩
abbrev wQu_partner : List Cond := .code yQu_partner bQu_partner 3 (some .int) :: jw
theorem dQu_partner_0 : decode bQu_partner 0 = .ok (.aload_n 0, 1) := by decide +kernel
theorem dQu_partner_1 : decode bQu_partner 1 = .ok (.getfield 25, 3) := by decide +kernel
theorem dQu_partner_4 : decode bQu_partner 4 = .ok (.iload_n 1, 1) := by decide +kernel
theorem dQu_partner_5 : decode bQu_partner 5 = .ok (.iaload, 1) := by decide +kernel
theorem dQu_partner_6 : decode bQu_partner 6 = .ok (.aload_n 0, 1) := by decide +kernel
theorem dQu_partner_7 : decode bQu_partner 7 = .ok (.getfield 31, 3) := by decide +kernel
theorem dQu_partner_10 : decode bQu_partner 10 = .ok (.iload_n 1, 1) := by decide +kernel
theorem dQu_partner_11 : decode bQu_partner 11 = .ok (.iaload, 1) := by decide +kernel
theorem dQu_partner_12 : decode bQu_partner 12 = .ok (.if_icmp .ne 5, 3) := by decide +kernel
theorem dQu_partner_15 : decode bQu_partner 15 = .ok (.iconst (-1), 1) := by decide +kernel
theorem dQu_partner_16 : decode bQu_partner 16 = .ok (.ireturn, 1) := by decide +kernel
theorem dQu_partner_17 : decode bQu_partner 17 = .ok (.aload_n 0, 1) := by decide +kernel
theorem dQu_partner_18 : decode bQu_partner 18 = .ok (.getfield 25, 3) := by decide +kernel
theorem dQu_partner_21 : decode bQu_partner 21 = .ok (.iload_n 1, 1) := by decide +kernel
theorem dQu_partner_22 : decode bQu_partner 22 = .ok (.iaload, 1) := by decide +kernel
theorem dQu_partner_23 : decode bQu_partner 23 = .ok (.iload_n 2, 1) := by decide +kernel
theorem dQu_partner_24 : decode bQu_partner 24 = .ok (.if_icmp .ne 12, 3) := by decide +kernel
theorem dQu_partner_27 : decode bQu_partner 27 = .ok (.aload_n 0, 1) := by decide +kernel
theorem dQu_partner_28 : decode bQu_partner 28 = .ok (.getfield 31, 3) := by decide +kernel
theorem dQu_partner_31 : decode bQu_partner 31 = .ok (.iload_n 1, 1) := by decide +kernel
theorem dQu_partner_32 : decode bQu_partner 32 = .ok (.iaload, 1) := by decide +kernel
theorem dQu_partner_33 : decode bQu_partner 33 = .ok (.goto 9, 3) := by decide +kernel
theorem dQu_partner_36 : decode bQu_partner 36 = .ok (.aload_n 0, 1) := by decide +kernel
theorem dQu_partner_37 : decode bQu_partner 37 = .ok (.getfield 25, 3) := by decide +kernel
theorem dQu_partner_40 : decode bQu_partner 40 = .ok (.iload_n 1, 1) := by decide +kernel
theorem dQu_partner_41 : decode bQu_partner 41 = .ok (.iaload, 1) := by decide +kernel
theorem dQu_partner_42 : decode bQu_partner 42 = .ok (.ireturn, 1) := by decide +kernel
abbrev rQu_partner : Room := { frames := 0, cells := 0, slots := 0, locals := 0 }
def fQu_partner_0 (x1 : Int32) (x2 : Int32) (M : jM) (F : jF) : Option Int32 := (if jib x1 12 then (if jib x1 12 then (if (M 12 x1.toNatClampNeg) = (M 14 x1.toNatClampNeg) then some (-1) else (if jib x1 12 then (if (M 12 x1.toNatClampNeg) = x2 then (if jib x1 12 then some (M 14 x1.toNatClampNeg) else none) else (if jib x1 12 then some (M 12 x1.toNatClampNeg) else none)) else none)) else none) else none)
abbrev fQu_partner (x1 : Int32) (x2 : Int32) (M : jM) (F : jF) : Option Int32 := fQu_partner_0 x1 x2 M F
set_option maxHeartbeats 4000000 in
set_option maxRecDepth 100000 in
theorem uQu_partner_0 {p : Program} {e : Env} {s : State} {m : MethodId} {args : Array Value} {below : List Frame} {meth : Method} {c : Code} (l : Launch) (dC : Nat → ClassId) (dI : Nat → Nat → Nat) (cA : ClassId) (A : Nat → Nat) (Ap : Nat → Prop) (hC : jAt p s m args meth c bQu_partner 3 (some .int) wQu_partner RQu) (hA : ∀ q : Nat, s.heap.size ≤ q → Ap q) {r : Int32} : ∀ (x1 x2 : Int32) (M : jM) (F : jF) (B : Nat → Nat) (H : Heap) (locs : List Loc) (ls : Array Slot), jH (dC, dI) jCl [(cA, .int)] (jW cA A B M F) Ap s H locs → lv_has ls 3 [(0, .ref (A 3)), (1, .int x1), (2, .int x2)] → fQu_partner_0 x1 x2 M F = some r → W p l e (headSpec wQu_partner rQu_partner).room s m args below meth c H locs 0 0 (jQi below (dC, dI) jCl [(cA, .int)] (fun B => jW cA A B M F) Ap args s r) (F0 m 0 ls []) := by
  obtain ⟨hx, hb, hml, hr, hts, hown, hlocks, hN⟩ := id hC
  have hj : ∀ w ∈ jw, w.before args s = true := fun w h => hts w (List.mem_cons_of_mem _ h)
  intro x1 x2 M F B H locs ls hJ hl h
  unfold fQu_partner_0 at h
  refine lv_aload_n hx hb dQu_partner_0 rfl (lv_at hl 0 rfl) ?_
  refine va_get (D := (dC, dI)) (ci := 3) (v := .ref (A 12)) (C := RQu) (T := TQu) (N := 10) hx hb hj iQu hown hJ.1 hJ.2.1 3 rfl rfl 3 (by decide) (hj _ jw_68) (fun _ h9 => h9) rfl dQu_partner_1 ?_
  refine lv_iload_n hx hb dQu_partner_4 rfl (lv_at hl 1 rfl) ?_
  obtain ⟨hi1, h⟩ := jib_h h
  refine jald_12 hx hb hJ hi1 dQu_partner_5 ?_
  refine lv_aload_n hx hb dQu_partner_6 rfl (lv_at hl 0 rfl) ?_
  refine va_get (D := (dC, dI)) (ci := 3) (v := .ref (A 14)) (C := RQu) (T := TQu) (N := 10) hx hb hj iQu hown hJ.1 hJ.2.1 3 rfl rfl 5 (by decide) (hj _ jw_70) (fun _ h9 => h9) rfl dQu_partner_7 ?_
  refine lv_iload_n hx hb dQu_partner_10 rfl (lv_at hl 1 rfl) ?_
  obtain ⟨hi2, h⟩ := jib_h h
  refine jald_14 hx hb hJ hi2 dQu_partner_11 ?_
  refine lv_icmp_ne (tgt := 17) hx hb dQu_partner_12 (by decide) (fun c3 => ?_) (fun c3 => ?_)
  · replace h := jif_f c3 h
    refine lv_aload_n hx hb dQu_partner_17 rfl (lv_at hl 0 rfl) ?_
    refine va_get (D := (dC, dI)) (ci := 3) (v := .ref (A 12)) (C := RQu) (T := TQu) (N := 10) hx hb hj iQu hown hJ.1 hJ.2.1 3 rfl rfl 3 (by decide) (hj _ jw_68) (fun _ h9 => h9) rfl dQu_partner_18 ?_
    refine lv_iload_n hx hb dQu_partner_21 rfl (lv_at hl 1 rfl) ?_
    obtain ⟨hi4, h⟩ := jib_h h
    refine jald_12 hx hb hJ hi4 dQu_partner_22 ?_
    refine lv_iload_n hx hb dQu_partner_23 rfl (lv_at hl 2 rfl) ?_
    refine lv_icmp_ne (tgt := 36) hx hb dQu_partner_24 (by decide) (fun c5 => ?_) (fun c5 => ?_)
    · replace h := jif_f c5 h
      refine lv_aload_n hx hb dQu_partner_36 rfl (lv_at hl 0 rfl) ?_
      refine va_get (D := (dC, dI)) (ci := 3) (v := .ref (A 12)) (C := RQu) (T := TQu) (N := 10) hx hb hj iQu hown hJ.1 hJ.2.1 3 rfl rfl 3 (by decide) (hj _ jw_68) (fun _ h9 => h9) rfl dQu_partner_37 ?_
      refine lv_iload_n hx hb dQu_partner_40 rfl (lv_at hl 1 rfl) ?_
      obtain ⟨hi6, h⟩ := jib_h h
      refine jald_12 hx hb hJ hi6 dQu_partner_41 ?_
      exact jreti (u := B) hx hb hr rfl hlocks hJ dQu_partner_42 (Option.some.inj h)
    · replace h := jif_t c5 h
      refine lv_aload_n hx hb dQu_partner_27 rfl (lv_at hl 0 rfl) ?_
      refine va_get (D := (dC, dI)) (ci := 3) (v := .ref (A 14)) (C := RQu) (T := TQu) (N := 10) hx hb hj iQu hown hJ.1 hJ.2.1 3 rfl rfl 5 (by decide) (hj _ jw_70) (fun _ h9 => h9) rfl dQu_partner_28 ?_
      refine lv_iload_n hx hb dQu_partner_31 rfl (lv_at hl 1 rfl) ?_
      obtain ⟨hi7, h⟩ := jib_h h
      refine jald_14 hx hb hJ hi7 dQu_partner_32 ?_
      refine lv_goto (tgt := 42) hx hb dQu_partner_33 (by decide) ?_
      exact jreti (u := B) hx hb hr rfl hlocks hJ dQu_partner_42 (Option.some.inj h)
  · replace h := jif_t c3 h
    refine lv_iconst (v := (-1)) hx hb dQu_partner_15 (by decide) ?_
    exact jreti (u := B) hx hb hr rfl hlocks hJ dQu_partner_16 (Option.some.inj h)
set_option maxHeartbeats 4000000 in
set_option maxRecDepth 100000 in
theorem cQu_partner (l : Launch) (dC : Nat → ClassId) (dI : Nat → Nat → Nat) (cA : ClassId) (A : Nat → Nat) (x1 : Int32) (x2 : Int32) (M : jM) (F : jF) (B : Nat → Nat) (sz : Nat) {r : Int32} (h : fQu_partner x1 x2 M F = some r) : jCi l yQu_partner wQu_partner rQu_partner (dC, dI) jCl [(cA, .int)] [.ref (A 3), .int x1, .int x2] (jW cA A B M F) sz r (fun B => jW cA A B M F) :=
  jOf (Qc := fun Ap => va_Qi (fun q (_ : Nat → Nat) => q = r) (jPost (dC, dI) jCl [(cA, .int)] (fun B => jW cA A B M F) Ap) Ap) (by decide) rfl (Nat.le_of_ble_eq_true rfl) (fun p e s m below meth c Ap ls hC hA hJ hl => uQu_partner_0 l dC dI cA A Ap hC hA _ _ _ _ _ _ _ _ hJ (lv_sub hl [0, 1, 2] rfl) h)
abbrev bQu_tellsValue : ByteArray := prog_3_method_9_code
abbrev yQu_tellsValue : MethodName := ⟨RQu, "tellsValue", "(III)Z"⟩
abbrev wQu_tellsValue : List Cond := .code yQu_tellsValue bQu_tellsValue 4 (some .boolean) :: jw
theorem dQu_tellsValue_0 : decode bQu_tellsValue 0 = .ok (.aload_n 0, 1) := by decide +kernel
theorem dQu_tellsValue_1 : decode bQu_tellsValue 1 = .ok (.iload_n 1, 1) := by decide +kernel
theorem dQu_tellsValue_2 : decode bQu_tellsValue 2 = .ok (.iload_n 2, 1) := by decide +kernel
theorem dQu_tellsValue_3 : decode bQu_tellsValue 3 = .ok (.iload_n 3, 1) := by decide +kernel
theorem dQu_tellsValue_4 : decode bQu_tellsValue 4 = .ok (.invokevirtual 55, 3) := by decide +kernel
theorem dQu_tellsValue_7 : decode bQu_tellsValue 7 = .ok (.ifCond .ne 5, 3) := by decide +kernel
theorem dQu_tellsValue_10 : decode bQu_tellsValue 10 = .ok (.iconst 0, 1) := by decide +kernel
theorem dQu_tellsValue_11 : decode bQu_tellsValue 11 = .ok (.ireturn, 1) := by decide +kernel
theorem dQu_tellsValue_12 : decode bQu_tellsValue 12 = .ok (.aload_n 0, 1) := by decide +kernel
theorem dQu_tellsValue_13 : decode bQu_tellsValue 13 = .ok (.getfield 22, 3) := by decide +kernel
theorem dQu_tellsValue_16 : decode bQu_tellsValue 16 = .ok (.iload_n 1, 1) := by decide +kernel
theorem dQu_tellsValue_17 : decode bQu_tellsValue 17 = .ok (.iaload, 1) := by decide +kernel
theorem dQu_tellsValue_18 : decode bQu_tellsValue 18 = .ok (.iconst 1, 1) := by decide +kernel
theorem dQu_tellsValue_19 : decode bQu_tellsValue 19 = .ok (.if_icmp .eq 22, 3) := by decide +kernel
theorem dQu_tellsValue_22 : decode bQu_tellsValue 22 = .ok (.aload_n 0, 1) := by decide +kernel
theorem dQu_tellsValue_23 : decode bQu_tellsValue 23 = .ok (.getfield 22, 3) := by decide +kernel
theorem dQu_tellsValue_26 : decode bQu_tellsValue 26 = .ok (.iload_n 1, 1) := by decide +kernel
theorem dQu_tellsValue_27 : decode bQu_tellsValue 27 = .ok (.iaload, 1) := by decide +kernel
theorem dQu_tellsValue_28 : decode bQu_tellsValue 28 = .ok (.ifCond .ne 17, 3) := by decide +kernel
theorem dQu_tellsValue_31 : decode bQu_tellsValue 31 = .ok (.aload_n 0, 1) := by decide +kernel
theorem dQu_tellsValue_32 : decode bQu_tellsValue 32 = .ok (.iload_n 1, 1) := by decide +kernel
theorem dQu_tellsValue_33 : decode bQu_tellsValue 33 = .ok (.iload_n 2, 1) := by decide +kernel
theorem dQu_tellsValue_34 : decode bQu_tellsValue 34 = .ok (.invokevirtual 59, 3) := by decide +kernel
theorem dQu_tellsValue_37 : decode bQu_tellsValue 37 = .ok (.iconst (-1), 1) := by decide +kernel
theorem dQu_tellsValue_38 : decode bQu_tellsValue 38 = .ok (.if_icmp .eq 7, 3) := by decide +kernel
theorem dQu_tellsValue_41 : decode bQu_tellsValue 41 = .ok (.iconst 1, 1) := by decide +kernel
theorem dQu_tellsValue_42 : decode bQu_tellsValue 42 = .ok (.goto 4, 3) := by decide +kernel
theorem dQu_tellsValue_45 : decode bQu_tellsValue 45 = .ok (.iconst 0, 1) := by decide +kernel
theorem dQu_tellsValue_46 : decode bQu_tellsValue 46 = .ok (.ireturn, 1) := by decide +kernel
abbrev rQu_tellsValue : Room := { frames := 2, cells := 0, slots := 0, locals := 45 }
def fQu_tellsValue_41 (M : jM) (F : jF) : Option Int32 := some 1
def fQu_tellsValue_0 (x1 : Int32) (x2 : Int32) (x3 : Int32) (M : jM) (F : jF) : Option Int32 := ((fQu_isJudgedAt x1 x2 x3 M F).bind fun q1 => (if q1 = 0 then some 0 else (if jib x1 12 then (if (M 11 x1.toNatClampNeg) = 1 then fQu_tellsValue_41  M F else (if jib x1 12 then (if (M 11 x1.toNatClampNeg) = 0 then ((fQu_partner x1 x2 M F).bind fun q7 => (if q7 = (-1) then some 0 else fQu_tellsValue_41  M F)) else some 0) else none)) else none)))
abbrev fQu_tellsValue (x1 : Int32) (x2 : Int32) (x3 : Int32) (M : jM) (F : jF) : Option Int32 := fQu_tellsValue_0 x1 x2 x3 M F
set_option maxHeartbeats 4000000 in
set_option maxRecDepth 100000 in
theorem uQu_tellsValue_41 {p : Program} {e : Env} {s : State} {m : MethodId} {args : Array Value} {below : List Frame} {meth : Method} {c : Code} (l : Launch) (dC : Nat → ClassId) (dI : Nat → Nat → Nat) (cA : ClassId) (A : Nat → Nat) (Ap : Nat → Prop) (hC : jAt p s m args meth c bQu_tellsValue 4 (some .boolean) wQu_tellsValue RQu) (hA : ∀ q : Nat, s.heap.size ≤ q → Ap q) {r : Int32} : ∀ (M : jM) (F : jF) (B : Nat → Nat) (H : Heap) (locs : List Loc) (ls : Array Slot), jH (dC, dI) jCl [(cA, .int)] (jW cA A B M F) Ap s H locs → lv_has ls 4 [] → fQu_tellsValue_41 M F = some r → W p l e (headSpec wQu_tellsValue rQu_tellsValue).room s m args below meth c H locs 0 0 (jQi below (dC, dI) jCl [(cA, .int)] (fun B => jW cA A B M F) Ap args s r) (F0 m 41 ls []) := by
  obtain ⟨hx, hb, hml, hr, hts, hown, hlocks, hN⟩ := id hC
  have hj : ∀ w ∈ jw, w.before args s = true := fun w h => hts w (List.mem_cons_of_mem _ h)
  intro  M F B H locs ls hJ hl h
  unfold fQu_tellsValue_41 at h
  refine lv_iconst (v := 1) hx hb dQu_tellsValue_41 (by decide) ?_
  refine lv_goto (tgt := 46) hx hb dQu_tellsValue_42 (by decide) ?_
  exact jreti (u := B) hx hb hr rfl hlocks hJ dQu_tellsValue_46 (Option.some.inj h)
set_option maxHeartbeats 4000000 in
set_option maxRecDepth 100000 in
theorem uQu_tellsValue_0 {p : Program} {e : Env} {s : State} {m : MethodId} {args : Array Value} {below : List Frame} {meth : Method} {c : Code} (l : Launch) (dC : Nat → ClassId) (dI : Nat → Nat → Nat) (cA : ClassId) (A : Nat → Nat) (Ap : Nat → Prop) (hC : jAt p s m args meth c bQu_tellsValue 4 (some .boolean) wQu_tellsValue RQu) (hA : ∀ q : Nat, s.heap.size ≤ q → Ap q) {r : Int32} : ∀ (x1 x2 x3 : Int32) (M : jM) (F : jF) (B : Nat → Nat) (H : Heap) (locs : List Loc) (ls : Array Slot), jH (dC, dI) jCl [(cA, .int)] (jW cA A B M F) Ap s H locs → lv_has ls 4 [(0, .ref (A 3)), (1, .int x1), (2, .int x2), (3, .int x3)] → fQu_tellsValue_0 x1 x2 x3 M F = some r → W p l e (headSpec wQu_tellsValue rQu_tellsValue).room s m args below meth c H locs 0 0 (jQi below (dC, dI) jCl [(cA, .int)] (fun B => jW cA A B M F) Ap args s r) (F0 m 0 ls []) := by
  obtain ⟨hx, hb, hml, hr, hts, hown, hlocks, hN⟩ := id hC
  have hj : ∀ w ∈ jw, w.before args s = true := fun w h => hts w (List.mem_cons_of_mem _ h)
  intro x1 x2 x3 M F B H locs ls hJ hl h
  unfold fQu_tellsValue_0 at h
  refine lv_aload_n hx hb dQu_tellsValue_0 rfl (lv_at hl 0 rfl) ?_
  refine lv_iload_n hx hb dQu_tellsValue_1 rfl (lv_at hl 1 rfl) ?_
  refine lv_iload_n hx hb dQu_tellsValue_2 rfl (lv_at hl 2 rfl) ?_
  refine lv_iload_n hx hb dQu_tellsValue_3 rfl (lv_at hl 3 rfl) ?_
  obtain ⟨q1, hq1, h⟩ := jbi_h h
  refine jcalli (w' := fun B => jW cA A B M F) (va_runV (As := [.int x1, .int x2, .int x3]) (rest := []) ⟨hx, hb, hml, hown, hts⟩ (cQu_isJudgedAt l dC dI cA A x1 x2 x3 M F B H.size hq1) (cwV 3 hts (jgoodV jw_474 jw_475 jw_476 jw_4 jw_477) rfl rfl rfl (by decide +kernel) ⟨Nat.le_of_ble_eq_true rfl, Nat.le_of_ble_eq_true rfl⟩) (jpreV hN hJ (ci := 3) (q0 := 3) rfl rfl) rfl rfl hl.1 rfl (lv_room (Nat.le_of_ble_eq_true rfl)) dQu_tellsValue_4 ⟨Nat.zero_le _, Nat.zero_le _⟩) hA hJ (fun B H locs hJ => ?_)
  refine lv_if_ne (tgt := 12) hx hb dQu_tellsValue_7 (by decide) (fun c2 => ?_) (fun c2 => ?_)
  · replace h := jif_f c2 h
    refine lv_aload_n hx hb dQu_tellsValue_12 rfl (lv_at hl 0 rfl) ?_
    refine va_get (D := (dC, dI)) (ci := 3) (v := .ref (A 11)) (C := RQu) (T := TQu) (N := 10) hx hb hj iQu hown hJ.1 hJ.2.1 3 rfl rfl 2 (by decide) (hj _ jw_66) (fun _ h9 => h9) rfl dQu_tellsValue_13 ?_
    refine lv_iload_n hx hb dQu_tellsValue_16 rfl (lv_at hl 1 rfl) ?_
    obtain ⟨hi3, h⟩ := jib_h h
    refine jald_11 hx hb hJ hi3 dQu_tellsValue_17 ?_
    refine lv_iconst (v := 1) hx hb dQu_tellsValue_18 (by decide) ?_
    refine lv_icmp_eq (tgt := 41) hx hb dQu_tellsValue_19 (by decide) (fun c4 => ?_) (fun c4 => ?_)
    · replace h := jif_t c4 h
      exact uQu_tellsValue_41 l dC dI cA A Ap hC hA _ _ _ _ _ _ hJ (lv_sub hl [] rfl) h
    · replace h := jif_f c4 h
      refine lv_aload_n hx hb dQu_tellsValue_22 rfl (lv_at hl 0 rfl) ?_
      refine va_get (D := (dC, dI)) (ci := 3) (v := .ref (A 11)) (C := RQu) (T := TQu) (N := 10) hx hb hj iQu hown hJ.1 hJ.2.1 3 rfl rfl 2 (by decide) (hj _ jw_66) (fun _ h9 => h9) rfl dQu_tellsValue_23 ?_
      refine lv_iload_n hx hb dQu_tellsValue_26 rfl (lv_at hl 1 rfl) ?_
      obtain ⟨hi5, h⟩ := jib_h h
      refine jald_11 hx hb hJ hi5 dQu_tellsValue_27 ?_
      refine lv_if_ne (tgt := 45) hx hb dQu_tellsValue_28 (by decide) (fun c6 => ?_) (fun c6 => ?_)
      · replace h := jif_f c6 h
        refine lv_iconst (v := 0) hx hb dQu_tellsValue_45 (by decide) ?_
        exact jreti (u := B) hx hb hr rfl hlocks hJ dQu_tellsValue_46 (Option.some.inj h)
      · replace h := jif_t c6 h
        refine lv_aload_n hx hb dQu_tellsValue_31 rfl (lv_at hl 0 rfl) ?_
        refine lv_iload_n hx hb dQu_tellsValue_32 rfl (lv_at hl 1 rfl) ?_
        refine lv_iload_n hx hb dQu_tellsValue_33 rfl (lv_at hl 2 rfl) ?_
        obtain ⟨q7, hq7, h⟩ := jbi_h h
        refine jcalli (w' := fun B => jW cA A B M F) (va_runV (As := [.int x1, .int x2]) (rest := []) ⟨hx, hb, hml, hown, hts⟩ (cQu_partner l dC dI cA A x1 x2 M F B H.size hq7) (cwV 2 hts (jgoodV jw_479 jw_480 jw_481 jw_4 jw_482) rfl rfl rfl (by decide +kernel) ⟨Nat.le_of_ble_eq_true rfl, Nat.le_of_ble_eq_true rfl⟩) (jpreV hN hJ (ci := 3) (q0 := 3) rfl rfl) rfl rfl hl.1 rfl (lv_room (Nat.le_of_ble_eq_true rfl)) dQu_tellsValue_34 ⟨Nat.zero_le _, Nat.zero_le _⟩) hA hJ (fun B H locs hJ => ?_)
        refine lv_iconst (v := (-1)) hx hb dQu_tellsValue_37 (by decide) ?_
        refine lv_icmp_eq (tgt := 45) hx hb dQu_tellsValue_38 (by decide) (fun c8 => ?_) (fun c8 => ?_)
        · replace h := jif_t c8 h
          refine lv_iconst (v := 0) hx hb dQu_tellsValue_45 (by decide) ?_
          exact jreti (u := B) hx hb hr rfl hlocks hJ dQu_tellsValue_46 (Option.some.inj h)
        · replace h := jif_f c8 h
          exact uQu_tellsValue_41 l dC dI cA A Ap hC hA _ _ _ _ _ _ hJ (lv_sub hl [] rfl) h
  · replace h := jif_t c2 h
    refine lv_iconst (v := 0) hx hb dQu_tellsValue_10 (by decide) ?_
    exact jreti (u := B) hx hb hr rfl hlocks hJ dQu_tellsValue_11 (Option.some.inj h)
set_option maxHeartbeats 4000000 in
set_option maxRecDepth 100000 in
theorem cQu_tellsValue (l : Launch) (dC : Nat → ClassId) (dI : Nat → Nat → Nat) (cA : ClassId) (A : Nat → Nat) (x1 : Int32) (x2 : Int32) (x3 : Int32) (M : jM) (F : jF) (B : Nat → Nat) (sz : Nat) {r : Int32} (h : fQu_tellsValue x1 x2 x3 M F = some r) : jCi l yQu_tellsValue wQu_tellsValue rQu_tellsValue (dC, dI) jCl [(cA, .int)] [.ref (A 3), .int x1, .int x2, .int x3] (jW cA A B M F) sz r (fun B => jW cA A B M F) :=
  jOf (Qc := fun Ap => va_Qi (fun q (_ : Nat → Nat) => q = r) (jPost (dC, dI) jCl [(cA, .int)] (fun B => jW cA A B M F) Ap) Ap) (by decide) rfl (Nat.le_of_ble_eq_true rfl) (fun p e s m below meth c Ap ls hC hA hJ hl => uQu_tellsValue_0 l dC dI cA A Ap hC hA _ _ _ _ _ _ _ _ _ hJ (lv_sub hl [0, 1, 2, 3] rfl) h)
abbrev bQu_tellsByIndex : ByteArray := prog_3_method_10_code
abbrev yQu_tellsByIndex : MethodName := ⟨RQu, "tellsByIndex", "(II)Z"⟩
abbrev wQu_tellsByIndex : List Cond := .code yQu_tellsByIndex bQu_tellsByIndex 4 (some .boolean) :: jw
theorem dQu_tellsByIndex_0 : decode bQu_tellsByIndex 0 = .ok (.aload_n 0, 1) := by decide +kernel
theorem dQu_tellsByIndex_1 : decode bQu_tellsByIndex 1 = .ok (.getfield 25, 3) := by decide +kernel
theorem dQu_tellsByIndex_4 : decode bQu_tellsByIndex 4 = .ok (.iload_n 1, 1) := by decide +kernel
theorem dQu_tellsByIndex_5 : decode bQu_tellsByIndex 5 = .ok (.iaload, 1) := by decide +kernel
theorem dQu_tellsByIndex_6 : decode bQu_tellsByIndex 6 = .ok (.iload_n 2, 1) := by decide +kernel
theorem dQu_tellsByIndex_7 : decode bQu_tellsByIndex 7 = .ok (.if_icmp .ne 12, 3) := by decide +kernel
theorem dQu_tellsByIndex_10 : decode bQu_tellsByIndex 10 = .ok (.aload_n 0, 1) := by decide +kernel
theorem dQu_tellsByIndex_11 : decode bQu_tellsByIndex 11 = .ok (.getfield 28, 3) := by decide +kernel
theorem dQu_tellsByIndex_14 : decode bQu_tellsByIndex 14 = .ok (.iload_n 1, 1) := by decide +kernel
theorem dQu_tellsByIndex_15 : decode bQu_tellsByIndex 15 = .ok (.iaload, 1) := by decide +kernel
theorem dQu_tellsByIndex_16 : decode bQu_tellsByIndex 16 = .ok (.goto 9, 3) := by decide +kernel
theorem dQu_tellsByIndex_19 : decode bQu_tellsByIndex 19 = .ok (.aload_n 0, 1) := by decide +kernel
theorem dQu_tellsByIndex_20 : decode bQu_tellsByIndex 20 = .ok (.getfield 34, 3) := by decide +kernel
theorem dQu_tellsByIndex_23 : decode bQu_tellsByIndex 23 = .ok (.iload_n 1, 1) := by decide +kernel
theorem dQu_tellsByIndex_24 : decode bQu_tellsByIndex 24 = .ok (.iaload, 1) := by decide +kernel
theorem dQu_tellsByIndex_25 : decode bQu_tellsByIndex 25 = .ok (.istore_n 3, 1) := by decide +kernel
theorem dQu_tellsByIndex_26 : decode bQu_tellsByIndex 26 = .ok (.aload_n 0, 1) := by decide +kernel
theorem dQu_tellsByIndex_27 : decode bQu_tellsByIndex 27 = .ok (.getfield 12, 3) := by decide +kernel
theorem dQu_tellsByIndex_30 : decode bQu_tellsByIndex 30 = .ok (.aload_n 0, 1) := by decide +kernel
theorem dQu_tellsByIndex_31 : decode bQu_tellsByIndex 31 = .ok (.getfield 18, 3) := by decide +kernel
theorem dQu_tellsByIndex_34 : decode bQu_tellsByIndex 34 = .ok (.iload_n 2, 1) := by decide +kernel
theorem dQu_tellsByIndex_35 : decode bQu_tellsByIndex 35 = .ok (.iaload, 1) := by decide +kernel
theorem dQu_tellsByIndex_36 : decode bQu_tellsByIndex 36 = .ok (.iload_n 3, 1) := by decide +kernel
theorem dQu_tellsByIndex_37 : decode bQu_tellsByIndex 37 = .ok (.invokevirtual 63, 3) := by decide +kernel
theorem dQu_tellsByIndex_40 : decode bQu_tellsByIndex 40 = .ok (.ireturn, 1) := by decide +kernel
abbrev rQu_tellsByIndex : Room := { frames := 1, cells := 0, slots := 0, locals := 22 }
def fQu_tellsByIndex_25 (x2 : Int32) (s0 : Int32) (M : jM) (F : jF) : Option Int32 := (if jib x2 6 then ((fTa_hasIndex (M 10 x2.toNatClampNeg) s0 M F).bind fun q5 => (if jbo q5 then some q5 else none)) else none)
def fQu_tellsByIndex_0 (x1 : Int32) (x2 : Int32) (M : jM) (F : jF) : Option Int32 := (if jib x1 12 then (if (M 12 x1.toNatClampNeg) = x2 then (if jib x1 12 then fQu_tellsByIndex_25 x2 (M 13 x1.toNatClampNeg) M F else none) else (if jib x1 12 then fQu_tellsByIndex_25 x2 (M 15 x1.toNatClampNeg) M F else none)) else none)
abbrev fQu_tellsByIndex (x1 : Int32) (x2 : Int32) (M : jM) (F : jF) : Option Int32 := fQu_tellsByIndex_0 x1 x2 M F
set_option maxHeartbeats 4000000 in
set_option maxRecDepth 100000 in
theorem uQu_tellsByIndex_25 {p : Program} {e : Env} {s : State} {m : MethodId} {args : Array Value} {below : List Frame} {meth : Method} {c : Code} (l : Launch) (dC : Nat → ClassId) (dI : Nat → Nat → Nat) (cA : ClassId) (A : Nat → Nat) (Ap : Nat → Prop) (hC : jAt p s m args meth c bQu_tellsByIndex 4 (some .boolean) wQu_tellsByIndex RQu) (hA : ∀ q : Nat, s.heap.size ≤ q → Ap q) {r : Int32} : ∀ (x2 s0 : Int32) (M : jM) (F : jF) (B : Nat → Nat) (H : Heap) (locs : List Loc) (ls : Array Slot), jH (dC, dI) jCl [(cA, .int)] (jW cA A B M F) Ap s H locs → lv_has ls 4 [(0, .ref (A 3)), (2, .int x2)] → fQu_tellsByIndex_25 x2 s0 M F = some r → W p l e (headSpec wQu_tellsByIndex rQu_tellsByIndex).room s m args below meth c H locs 0 0 (jQi below (dC, dI) jCl [(cA, .int)] (fun B => jW cA A B M F) Ap args s r) (F0 m 25 ls [.int s0]) := by
  obtain ⟨hx, hb, hml, hr, hts, hown, hlocks, hN⟩ := id hC
  have hj : ∀ w ∈ jw, w.before args s = true := fun w h => hts w (List.mem_cons_of_mem _ h)
  intro x2 s0 M F B H locs ls hJ hl h
  unfold fQu_tellsByIndex_25 at h
  refine lv_istore_n (lv' := [(3, .int s0), (0, .ref (A 3)), (2, .int x2)]) hx hb dQu_tellsByIndex_25 rfl hl (by decide) rfl (fun ls hl => ?_)
  refine lv_aload_n hx hb dQu_tellsByIndex_26 rfl (lv_at hl 1 rfl) ?_
  refine va_get (D := (dC, dI)) (ci := 3) (v := .ref (A 4)) (C := RQu) (T := TQu) (N := 10) hx hb hj iQu hown hJ.1 hJ.2.1 3 rfl rfl 0 (by decide) (hj _ jw_63) (fun _ h9 => h9) rfl dQu_tellsByIndex_27 ?_
  refine lv_aload_n hx hb dQu_tellsByIndex_30 rfl (lv_at hl 1 rfl) ?_
  refine va_get (D := (dC, dI)) (ci := 3) (v := .ref (A 10)) (C := RQu) (T := TQu) (N := 10) hx hb hj iQu hown hJ.1 hJ.2.1 3 rfl rfl 1 (by decide) (hj _ jw_65) (fun _ h9 => h9) rfl dQu_tellsByIndex_31 ?_
  refine lv_iload_n hx hb dQu_tellsByIndex_34 rfl (lv_at hl 2 rfl) ?_
  obtain ⟨hi4, h⟩ := jib_h h
  refine jald_10 hx hb hJ hi4 dQu_tellsByIndex_35 ?_
  refine lv_iload_n hx hb dQu_tellsByIndex_36 rfl (lv_at hl 0 rfl) ?_
  obtain ⟨q5, hq5, h⟩ := jbi_h h
  refine jcalli (w' := fun B => jW cA A B M F) (va_runV (As := [.int (M 10 x2.toNatClampNeg), .int s0]) (rest := []) ⟨hx, hb, hml, hown, hts⟩ (cTa_hasIndex l dC dI cA A (M 10 x2.toNatClampNeg) s0 M F B H.size hq5) (cwV 2 hts (jgoodV jw_487 jw_488 jw_489 jw_5 jw_490) rfl rfl rfl (by decide +kernel) ⟨Nat.le_of_ble_eq_true rfl, Nat.le_of_ble_eq_true rfl⟩) (jpreV hN hJ (ci := 4) (q0 := 4) rfl rfl) rfl rfl hl.1 rfl (lv_room (Nat.le_of_ble_eq_true rfl)) dQu_tellsByIndex_37 ⟨Nat.zero_le _, Nat.zero_le _⟩) hA hJ (fun B H locs hJ => ?_)
  obtain ⟨hnb, h⟩ := jbo_h h
  exact jreti (u := B) hx hb hr hnb hlocks hJ dQu_tellsByIndex_40 (Option.some.inj h)
set_option maxHeartbeats 4000000 in
set_option maxRecDepth 100000 in
theorem uQu_tellsByIndex_0 {p : Program} {e : Env} {s : State} {m : MethodId} {args : Array Value} {below : List Frame} {meth : Method} {c : Code} (l : Launch) (dC : Nat → ClassId) (dI : Nat → Nat → Nat) (cA : ClassId) (A : Nat → Nat) (Ap : Nat → Prop) (hC : jAt p s m args meth c bQu_tellsByIndex 4 (some .boolean) wQu_tellsByIndex RQu) (hA : ∀ q : Nat, s.heap.size ≤ q → Ap q) {r : Int32} : ∀ (x1 x2 : Int32) (M : jM) (F : jF) (B : Nat → Nat) (H : Heap) (locs : List Loc) (ls : Array Slot), jH (dC, dI) jCl [(cA, .int)] (jW cA A B M F) Ap s H locs → lv_has ls 4 [(0, .ref (A 3)), (1, .int x1), (2, .int x2)] → fQu_tellsByIndex_0 x1 x2 M F = some r → W p l e (headSpec wQu_tellsByIndex rQu_tellsByIndex).room s m args below meth c H locs 0 0 (jQi below (dC, dI) jCl [(cA, .int)] (fun B => jW cA A B M F) Ap args s r) (F0 m 0 ls []) := by
  obtain ⟨hx, hb, hml, hr, hts, hown, hlocks, hN⟩ := id hC
  have hj : ∀ w ∈ jw, w.before args s = true := fun w h => hts w (List.mem_cons_of_mem _ h)
  intro x1 x2 M F B H locs ls hJ hl h
  unfold fQu_tellsByIndex_0 at h
  refine lv_aload_n hx hb dQu_tellsByIndex_0 rfl (lv_at hl 0 rfl) ?_
  refine va_get (D := (dC, dI)) (ci := 3) (v := .ref (A 12)) (C := RQu) (T := TQu) (N := 10) hx hb hj iQu hown hJ.1 hJ.2.1 3 rfl rfl 3 (by decide) (hj _ jw_68) (fun _ h9 => h9) rfl dQu_tellsByIndex_1 ?_
  refine lv_iload_n hx hb dQu_tellsByIndex_4 rfl (lv_at hl 1 rfl) ?_
  obtain ⟨hi1, h⟩ := jib_h h
  refine jald_12 hx hb hJ hi1 dQu_tellsByIndex_5 ?_
  refine lv_iload_n hx hb dQu_tellsByIndex_6 rfl (lv_at hl 2 rfl) ?_
  refine lv_icmp_ne (tgt := 19) hx hb dQu_tellsByIndex_7 (by decide) (fun c2 => ?_) (fun c2 => ?_)
  · replace h := jif_f c2 h
    refine lv_aload_n hx hb dQu_tellsByIndex_19 rfl (lv_at hl 0 rfl) ?_
    refine va_get (D := (dC, dI)) (ci := 3) (v := .ref (A 15)) (C := RQu) (T := TQu) (N := 10) hx hb hj iQu hown hJ.1 hJ.2.1 3 rfl rfl 6 (by decide) (hj _ jw_71) (fun _ h9 => h9) rfl dQu_tellsByIndex_20 ?_
    refine lv_iload_n hx hb dQu_tellsByIndex_23 rfl (lv_at hl 1 rfl) ?_
    obtain ⟨hi3, h⟩ := jib_h h
    refine jald_15 hx hb hJ hi3 dQu_tellsByIndex_24 ?_
    exact uQu_tellsByIndex_25 l dC dI cA A Ap hC hA _ _ _ _ _ _ _ _ hJ (lv_sub hl [0, 2] rfl) h
  · replace h := jif_t c2 h
    refine lv_aload_n hx hb dQu_tellsByIndex_10 rfl (lv_at hl 0 rfl) ?_
    refine va_get (D := (dC, dI)) (ci := 3) (v := .ref (A 13)) (C := RQu) (T := TQu) (N := 10) hx hb hj iQu hown hJ.1 hJ.2.1 3 rfl rfl 4 (by decide) (hj _ jw_69) (fun _ h9 => h9) rfl dQu_tellsByIndex_11 ?_
    refine lv_iload_n hx hb dQu_tellsByIndex_14 rfl (lv_at hl 1 rfl) ?_
    obtain ⟨hi6, h⟩ := jib_h h
    refine jald_13 hx hb hJ hi6 dQu_tellsByIndex_15 ?_
    refine lv_goto (tgt := 25) hx hb dQu_tellsByIndex_16 (by decide) ?_
    exact uQu_tellsByIndex_25 l dC dI cA A Ap hC hA _ _ _ _ _ _ _ _ hJ (lv_sub hl [0, 2] rfl) h
set_option maxHeartbeats 4000000 in
set_option maxRecDepth 100000 in
theorem cQu_tellsByIndex (l : Launch) (dC : Nat → ClassId) (dI : Nat → Nat → Nat) (cA : ClassId) (A : Nat → Nat) (x1 : Int32) (x2 : Int32) (M : jM) (F : jF) (B : Nat → Nat) (sz : Nat) {r : Int32} (h : fQu_tellsByIndex x1 x2 M F = some r) : jCi l yQu_tellsByIndex wQu_tellsByIndex rQu_tellsByIndex (dC, dI) jCl [(cA, .int)] [.ref (A 3), .int x1, .int x2] (jW cA A B M F) sz r (fun B => jW cA A B M F) :=
  jOf (Qc := fun Ap => va_Qi (fun q (_ : Nat → Nat) => q = r) (jPost (dC, dI) jCl [(cA, .int)] (fun B => jW cA A B M F) Ap) Ap) (by decide) rfl (Nat.le_of_ble_eq_true rfl) (fun p e s m below meth c Ap ls hC hA hJ hl => uQu_tellsByIndex_0 l dC dI cA A Ap hC hA _ _ _ _ _ _ _ _ hJ (lv_sub hl [0, 1, 2] rfl) h)
abbrev bQu_divisor : ByteArray := prog_3_method_11_code
abbrev yQu_divisor : MethodName := ⟨RQu, "divisor", "(I)I"⟩
abbrev wQu_divisor : List Cond := .code yQu_divisor bQu_divisor 3 (some .int) :: jw
theorem dQu_divisor_0 : decode bQu_divisor 0 = .ok (.aload_n 0, 1) := by decide +kernel
theorem dQu_divisor_1 : decode bQu_divisor 1 = .ok (.getfield 22, 3) := by decide +kernel
theorem dQu_divisor_4 : decode bQu_divisor 4 = .ok (.iload_n 1, 1) := by decide +kernel
theorem dQu_divisor_5 : decode bQu_divisor 5 = .ok (.iaload, 1) := by decide +kernel
theorem dQu_divisor_6 : decode bQu_divisor 6 = .ok (.iconst 2, 1) := by decide +kernel
theorem dQu_divisor_7 : decode bQu_divisor 7 = .ok (.if_icmp .ne 5, 3) := by decide +kernel
theorem dQu_divisor_10 : decode bQu_divisor 10 = .ok (.iconst 3, 1) := by decide +kernel
theorem dQu_divisor_11 : decode bQu_divisor 11 = .ok (.ireturn, 1) := by decide +kernel
theorem dQu_divisor_12 : decode bQu_divisor 12 = .ok (.aload_n 0, 1) := by decide +kernel
theorem dQu_divisor_13 : decode bQu_divisor 13 = .ok (.getfield 12, 3) := by decide +kernel
theorem dQu_divisor_16 : decode bQu_divisor 16 = .ok (.aload_n 0, 1) := by decide +kernel
theorem dQu_divisor_17 : decode bQu_divisor 17 = .ok (.getfield 18, 3) := by decide +kernel
theorem dQu_divisor_20 : decode bQu_divisor 20 = .ok (.aload_n 0, 1) := by decide +kernel
theorem dQu_divisor_21 : decode bQu_divisor 21 = .ok (.getfield 25, 3) := by decide +kernel
theorem dQu_divisor_24 : decode bQu_divisor 24 = .ok (.iload_n 1, 1) := by decide +kernel
theorem dQu_divisor_25 : decode bQu_divisor 25 = .ok (.iaload, 1) := by decide +kernel
theorem dQu_divisor_26 : decode bQu_divisor 26 = .ok (.iaload, 1) := by decide +kernel
theorem dQu_divisor_27 : decode bQu_divisor 27 = .ok (.aload_n 0, 1) := by decide +kernel
theorem dQu_divisor_28 : decode bQu_divisor 28 = .ok (.getfield 28, 3) := by decide +kernel
theorem dQu_divisor_31 : decode bQu_divisor 31 = .ok (.iload_n 1, 1) := by decide +kernel
theorem dQu_divisor_32 : decode bQu_divisor 32 = .ok (.iaload, 1) := by decide +kernel
theorem dQu_divisor_33 : decode bQu_divisor 33 = .ok (.invokevirtual 66, 3) := by decide +kernel
theorem dQu_divisor_36 : decode bQu_divisor 36 = .ok (.istore_n 2, 1) := by decide +kernel
theorem dQu_divisor_37 : decode bQu_divisor 37 = .ok (.aload_n 0, 1) := by decide +kernel
theorem dQu_divisor_38 : decode bQu_divisor 38 = .ok (.getfield 22, 3) := by decide +kernel
theorem dQu_divisor_41 : decode bQu_divisor 41 = .ok (.iload_n 1, 1) := by decide +kernel
theorem dQu_divisor_42 : decode bQu_divisor 42 = .ok (.iaload, 1) := by decide +kernel
theorem dQu_divisor_43 : decode bQu_divisor 43 = .ok (.iconst 1, 1) := by decide +kernel
theorem dQu_divisor_44 : decode bQu_divisor 44 = .ok (.if_icmp .ne 5, 3) := by decide +kernel
theorem dQu_divisor_47 : decode bQu_divisor 47 = .ok (.iload_n 2, 1) := by decide +kernel
theorem dQu_divisor_48 : decode bQu_divisor 48 = .ok (.ireturn, 1) := by decide +kernel
theorem dQu_divisor_49 : decode bQu_divisor 49 = .ok (.iload_n 2, 1) := by decide +kernel
theorem dQu_divisor_50 : decode bQu_divisor 50 = .ok (.aload_n 0, 1) := by decide +kernel
theorem dQu_divisor_51 : decode bQu_divisor 51 = .ok (.getfield 12, 3) := by decide +kernel
theorem dQu_divisor_54 : decode bQu_divisor 54 = .ok (.aload_n 0, 1) := by decide +kernel
theorem dQu_divisor_55 : decode bQu_divisor 55 = .ok (.getfield 18, 3) := by decide +kernel
theorem dQu_divisor_58 : decode bQu_divisor 58 = .ok (.aload_n 0, 1) := by decide +kernel
theorem dQu_divisor_59 : decode bQu_divisor 59 = .ok (.getfield 31, 3) := by decide +kernel
theorem dQu_divisor_62 : decode bQu_divisor 62 = .ok (.iload_n 1, 1) := by decide +kernel
theorem dQu_divisor_63 : decode bQu_divisor 63 = .ok (.iaload, 1) := by decide +kernel
theorem dQu_divisor_64 : decode bQu_divisor 64 = .ok (.iaload, 1) := by decide +kernel
theorem dQu_divisor_65 : decode bQu_divisor 65 = .ok (.aload_n 0, 1) := by decide +kernel
theorem dQu_divisor_66 : decode bQu_divisor 66 = .ok (.getfield 34, 3) := by decide +kernel
theorem dQu_divisor_69 : decode bQu_divisor 69 = .ok (.iload_n 1, 1) := by decide +kernel
theorem dQu_divisor_70 : decode bQu_divisor 70 = .ok (.iaload, 1) := by decide +kernel
theorem dQu_divisor_71 : decode bQu_divisor 71 = .ok (.invokevirtual 66, 3) := by decide +kernel
theorem dQu_divisor_74 : decode bQu_divisor 74 = .ok (.invokestatic 69, 3) := by decide +kernel
theorem dQu_divisor_77 : decode bQu_divisor 77 = .ok (.ireturn, 1) := by decide +kernel
abbrev rQu_divisor : Room := { frames := 2, cells := 0, slots := 0, locals := 43 }
def fQu_divisor_0 (x1 : Int32) (M : jM) (F : jF) : Option Int32 := (if jib x1 12 then (if (M 11 x1.toNatClampNeg) = 2 then some 3 else (if jib x1 12 then (if jib (M 12 x1.toNatClampNeg) 6 then (if jib x1 12 then ((fTa_spread (M 10 (M 12 x1.toNatClampNeg).toNatClampNeg) (M 13 x1.toNatClampNeg) M F).bind fun q6 => (if jib x1 12 then (if (M 11 x1.toNatClampNeg) = 1 then some q6 else (if jib x1 12 then (if jib (M 14 x1.toNatClampNeg) 6 then (if jib x1 12 then ((fTa_spread (M 10 (M 14 x1.toNatClampNeg).toNatClampNeg) (M 15 x1.toNatClampNeg) M F).bind fun q12 => some (if q6 < q12 then q12 else q6)) else none) else none) else none)) else none)) else none) else none) else none)) else none)
abbrev fQu_divisor (x1 : Int32) (M : jM) (F : jF) : Option Int32 := fQu_divisor_0 x1 M F
set_option maxHeartbeats 4000000 in
set_option maxRecDepth 100000 in
theorem uQu_divisor_0 {p : Program} {e : Env} {s : State} {m : MethodId} {args : Array Value} {below : List Frame} {meth : Method} {c : Code} (l : Launch) (dC : Nat → ClassId) (dI : Nat → Nat → Nat) (cA : ClassId) (A : Nat → Nat) (Ap : Nat → Prop) (hC : jAt p s m args meth c bQu_divisor 3 (some .int) wQu_divisor RQu) (hA : ∀ q : Nat, s.heap.size ≤ q → Ap q) {r : Int32} : ∀ (x1 : Int32) (M : jM) (F : jF) (B : Nat → Nat) (H : Heap) (locs : List Loc) (ls : Array Slot), jH (dC, dI) jCl [(cA, .int)] (jW cA A B M F) Ap s H locs → lv_has ls 3 [(0, .ref (A 3)), (1, .int x1)] → fQu_divisor_0 x1 M F = some r → W p l e (headSpec wQu_divisor rQu_divisor).room s m args below meth c H locs 0 0 (jQi below (dC, dI) jCl [(cA, .int)] (fun B => jW cA A B M F) Ap args s r) (F0 m 0 ls []) := by
  obtain ⟨hx, hb, hml, hr, hts, hown, hlocks, hN⟩ := id hC
  have hj : ∀ w ∈ jw, w.before args s = true := fun w h => hts w (List.mem_cons_of_mem _ h)
  intro x1 M F B H locs ls hJ hl h
  unfold fQu_divisor_0 at h
  refine lv_aload_n hx hb dQu_divisor_0 rfl (lv_at hl 0 rfl) ?_
  refine va_get (D := (dC, dI)) (ci := 3) (v := .ref (A 11)) (C := RQu) (T := TQu) (N := 10) hx hb hj iQu hown hJ.1 hJ.2.1 3 rfl rfl 2 (by decide) (hj _ jw_66) (fun _ h9 => h9) rfl dQu_divisor_1 ?_
  refine lv_iload_n hx hb dQu_divisor_4 rfl (lv_at hl 1 rfl) ?_
  obtain ⟨hi1, h⟩ := jib_h h
  refine jald_11 hx hb hJ hi1 dQu_divisor_5 ?_
  refine lv_iconst (v := 2) hx hb dQu_divisor_6 (by decide) ?_
  refine lv_icmp_ne (tgt := 12) hx hb dQu_divisor_7 (by decide) (fun c2 => ?_) (fun c2 => ?_)
  · replace h := jif_f c2 h
    refine lv_aload_n hx hb dQu_divisor_12 rfl (lv_at hl 0 rfl) ?_
    refine va_get (D := (dC, dI)) (ci := 3) (v := .ref (A 4)) (C := RQu) (T := TQu) (N := 10) hx hb hj iQu hown hJ.1 hJ.2.1 3 rfl rfl 0 (by decide) (hj _ jw_63) (fun _ h9 => h9) rfl dQu_divisor_13 ?_
    refine lv_aload_n hx hb dQu_divisor_16 rfl (lv_at hl 0 rfl) ?_
    refine va_get (D := (dC, dI)) (ci := 3) (v := .ref (A 10)) (C := RQu) (T := TQu) (N := 10) hx hb hj iQu hown hJ.1 hJ.2.1 3 rfl rfl 1 (by decide) (hj _ jw_65) (fun _ h9 => h9) rfl dQu_divisor_17 ?_
    refine lv_aload_n hx hb dQu_divisor_20 rfl (lv_at hl 0 rfl) ?_
    refine va_get (D := (dC, dI)) (ci := 3) (v := .ref (A 12)) (C := RQu) (T := TQu) (N := 10) hx hb hj iQu hown hJ.1 hJ.2.1 3 rfl rfl 3 (by decide) (hj _ jw_68) (fun _ h9 => h9) rfl dQu_divisor_21 ?_
    refine lv_iload_n hx hb dQu_divisor_24 rfl (lv_at hl 1 rfl) ?_
    obtain ⟨hi3, h⟩ := jib_h h
    refine jald_12 hx hb hJ hi3 dQu_divisor_25 ?_
    obtain ⟨hi4, h⟩ := jib_h h
    refine jald_10 hx hb hJ hi4 dQu_divisor_26 ?_
    refine lv_aload_n hx hb dQu_divisor_27 rfl (lv_at hl 0 rfl) ?_
    refine va_get (D := (dC, dI)) (ci := 3) (v := .ref (A 13)) (C := RQu) (T := TQu) (N := 10) hx hb hj iQu hown hJ.1 hJ.2.1 3 rfl rfl 4 (by decide) (hj _ jw_69) (fun _ h9 => h9) rfl dQu_divisor_28 ?_
    refine lv_iload_n hx hb dQu_divisor_31 rfl (lv_at hl 1 rfl) ?_
    obtain ⟨hi5, h⟩ := jib_h h
    refine jald_13 hx hb hJ hi5 dQu_divisor_32 ?_
    obtain ⟨q6, hq6, h⟩ := jbi_h h
    refine jcalli (w' := fun B => jW cA A B M F) (va_runV (As := [.int (M 10 (M 12 x1.toNatClampNeg).toNatClampNeg), .int (M 13 x1.toNatClampNeg)]) (rest := []) ⟨hx, hb, hml, hown, hts⟩ (cTa_spread l dC dI cA A (M 10 (M 12 x1.toNatClampNeg).toNatClampNeg) (M 13 x1.toNatClampNeg) M F B H.size hq6) (cwV 2 hts (jgoodV jw_432 jw_433 jw_434 jw_5 jw_435) rfl rfl rfl (by decide +kernel) ⟨Nat.le_of_ble_eq_true rfl, Nat.le_of_ble_eq_true rfl⟩) (jpreV hN hJ (ci := 4) (q0 := 4) rfl rfl) rfl rfl hl.1 rfl (lv_room (Nat.le_of_ble_eq_true rfl)) dQu_divisor_33 ⟨Nat.zero_le _, Nat.zero_le _⟩) hA hJ (fun B H locs hJ => ?_)
    refine lv_istore_n (lv' := [(2, .int q6), (0, .ref (A 3)), (1, .int x1)]) hx hb dQu_divisor_36 rfl hl (by decide) rfl (fun ls hl => ?_)
    refine lv_aload_n hx hb dQu_divisor_37 rfl (lv_at hl 1 rfl) ?_
    refine va_get (D := (dC, dI)) (ci := 3) (v := .ref (A 11)) (C := RQu) (T := TQu) (N := 10) hx hb hj iQu hown hJ.1 hJ.2.1 3 rfl rfl 2 (by decide) (hj _ jw_66) (fun _ h9 => h9) rfl dQu_divisor_38 ?_
    refine lv_iload_n hx hb dQu_divisor_41 rfl (lv_at hl 2 rfl) ?_
    obtain ⟨hi7, h⟩ := jib_h h
    refine jald_11 hx hb hJ hi7 dQu_divisor_42 ?_
    refine lv_iconst (v := 1) hx hb dQu_divisor_43 (by decide) ?_
    refine lv_icmp_ne (tgt := 49) hx hb dQu_divisor_44 (by decide) (fun c8 => ?_) (fun c8 => ?_)
    · replace h := jif_f c8 h
      refine lv_iload_n hx hb dQu_divisor_49 rfl (lv_at hl 0 rfl) ?_
      refine lv_aload_n hx hb dQu_divisor_50 rfl (lv_at hl 1 rfl) ?_
      refine va_get (D := (dC, dI)) (ci := 3) (v := .ref (A 4)) (C := RQu) (T := TQu) (N := 10) hx hb hj iQu hown hJ.1 hJ.2.1 3 rfl rfl 0 (by decide) (hj _ jw_63) (fun _ h9 => h9) rfl dQu_divisor_51 ?_
      refine lv_aload_n hx hb dQu_divisor_54 rfl (lv_at hl 1 rfl) ?_
      refine va_get (D := (dC, dI)) (ci := 3) (v := .ref (A 10)) (C := RQu) (T := TQu) (N := 10) hx hb hj iQu hown hJ.1 hJ.2.1 3 rfl rfl 1 (by decide) (hj _ jw_65) (fun _ h9 => h9) rfl dQu_divisor_55 ?_
      refine lv_aload_n hx hb dQu_divisor_58 rfl (lv_at hl 1 rfl) ?_
      refine va_get (D := (dC, dI)) (ci := 3) (v := .ref (A 14)) (C := RQu) (T := TQu) (N := 10) hx hb hj iQu hown hJ.1 hJ.2.1 3 rfl rfl 5 (by decide) (hj _ jw_70) (fun _ h9 => h9) rfl dQu_divisor_59 ?_
      refine lv_iload_n hx hb dQu_divisor_62 rfl (lv_at hl 2 rfl) ?_
      obtain ⟨hi9, h⟩ := jib_h h
      refine jald_14 hx hb hJ hi9 dQu_divisor_63 ?_
      obtain ⟨hi10, h⟩ := jib_h h
      refine jald_10 hx hb hJ hi10 dQu_divisor_64 ?_
      refine lv_aload_n hx hb dQu_divisor_65 rfl (lv_at hl 1 rfl) ?_
      refine va_get (D := (dC, dI)) (ci := 3) (v := .ref (A 15)) (C := RQu) (T := TQu) (N := 10) hx hb hj iQu hown hJ.1 hJ.2.1 3 rfl rfl 6 (by decide) (hj _ jw_71) (fun _ h9 => h9) rfl dQu_divisor_66 ?_
      refine lv_iload_n hx hb dQu_divisor_69 rfl (lv_at hl 2 rfl) ?_
      obtain ⟨hi11, h⟩ := jib_h h
      refine jald_15 hx hb hJ hi11 dQu_divisor_70 ?_
      obtain ⟨q12, hq12, h⟩ := jbi_h h
      refine jcalli (w' := fun B => jW cA A B M F) (va_runV (As := [.int (M 10 (M 14 x1.toNatClampNeg).toNatClampNeg), .int (M 15 x1.toNatClampNeg)]) (rest := [.int q6]) ⟨hx, hb, hml, hown, hts⟩ (cTa_spread l dC dI cA A (M 10 (M 14 x1.toNatClampNeg).toNatClampNeg) (M 15 x1.toNatClampNeg) M F B H.size hq12) (cwV 2 hts (jgoodV jw_432 jw_433 jw_434 jw_5 jw_435) rfl rfl rfl (by decide +kernel) ⟨Nat.le_of_ble_eq_true rfl, Nat.le_of_ble_eq_true rfl⟩) (jpreV hN hJ (ci := 4) (q0 := 4) rfl rfl) rfl rfl hl.1 rfl (lv_room (Nat.le_of_ble_eq_true rfl)) dQu_divisor_71 ⟨Nat.zero_le _, Nat.zero_le _⟩) hA hJ (fun B H locs hJ => ?_)
      refine va_mmax hx hb (hml.trans hl.1.symm) hown (hj _ jw_439) (hj _ jw_437) (hj _ jw_14) (hj _ jw_438) (Nat.le_of_ble_eq_true rfl) (Nat.le_of_ble_eq_true rfl) (Nat.zero_le _) (Nat.zero_le _) dQu_divisor_74 ?_
      exact jreti (u := B) hx hb hr rfl hlocks hJ dQu_divisor_77 (Option.some.inj h)
    · replace h := jif_t c8 h
      refine lv_iload_n hx hb dQu_divisor_47 rfl (lv_at hl 0 rfl) ?_
      exact jreti (u := B) hx hb hr rfl hlocks hJ dQu_divisor_48 (Option.some.inj h)
  · replace h := jif_t c2 h
    refine lv_iconst (v := 3) hx hb dQu_divisor_10 (by decide) ?_
    exact jreti (u := B) hx hb hr rfl hlocks hJ dQu_divisor_11 (Option.some.inj h)
set_option maxHeartbeats 4000000 in
set_option maxRecDepth 100000 in
theorem cQu_divisor (l : Launch) (dC : Nat → ClassId) (dI : Nat → Nat → Nat) (cA : ClassId) (A : Nat → Nat) (x1 : Int32) (M : jM) (F : jF) (B : Nat → Nat) (sz : Nat) {r : Int32} (h : fQu_divisor x1 M F = some r) : jCi l yQu_divisor wQu_divisor rQu_divisor (dC, dI) jCl [(cA, .int)] [.ref (A 3), .int x1] (jW cA A B M F) sz r (fun B => jW cA A B M F) :=
  jOf (Qc := fun Ap => va_Qi (fun q (_ : Nat → Nat) => q = r) (jPost (dC, dI) jCl [(cA, .int)] (fun B => jW cA A B M F) Ap) Ap) (by decide) rfl (Nat.le_of_ble_eq_true rfl) (fun p e s m below meth c Ap ls hC hA hJ hl => uQu_divisor_0 l dC dI cA A Ap hC hA _ _ _ _ _ _ _ hJ (lv_sub hl [0, 1] rfl) h)
abbrev bQu_holds : ByteArray := prog_3_method_12_code
abbrev yQu_holds : MethodName := ⟨RQu, "holds", "(IIII)Z"⟩
abbrev wQu_holds : List Cond := .code yQu_holds bQu_holds 11 (some .boolean) :: jw
theorem dQu_holds_0 : decode bQu_holds 0 = .ok (.aload_n 0, 1) := by decide +kernel
theorem dQu_holds_1 : decode bQu_holds 1 = .ok (.getfield 25, 3) := by decide +kernel
theorem dQu_holds_4 : decode bQu_holds 4 = .ok (.iload_n 1, 1) := by decide +kernel
theorem dQu_holds_5 : decode bQu_holds 5 = .ok (.iaload, 1) := by decide +kernel
theorem dQu_holds_6 : decode bQu_holds 6 = .ok (.istore 5, 2) := by decide +kernel
theorem dQu_holds_8 : decode bQu_holds 8 = .ok (.iload 5, 2) := by decide +kernel
theorem dQu_holds_10 : decode bQu_holds 10 = .ok (.iload_n 2, 1) := by decide +kernel
theorem dQu_holds_11 : decode bQu_holds 11 = .ok (.if_icmp .ne 7, 3) := by decide +kernel
theorem dQu_holds_14 : decode bQu_holds 14 = .ok (.iload_n 3, 1) := by decide +kernel
theorem dQu_holds_15 : decode bQu_holds 15 = .ok (.goto 5, 3) := by decide +kernel
theorem dQu_holds_18 : decode bQu_holds 18 = .ok (.iload 4, 2) := by decide +kernel
theorem dQu_holds_20 : decode bQu_holds 20 = .ok (.istore 6, 2) := by decide +kernel
theorem dQu_holds_22 : decode bQu_holds 22 = .ok (.aload_n 0, 1) := by decide +kernel
theorem dQu_holds_23 : decode bQu_holds 23 = .ok (.getfield 12, 3) := by decide +kernel
theorem dQu_holds_26 : decode bQu_holds 26 = .ok (.aload_n 0, 1) := by decide +kernel
theorem dQu_holds_27 : decode bQu_holds 27 = .ok (.getfield 18, 3) := by decide +kernel
theorem dQu_holds_30 : decode bQu_holds 30 = .ok (.iload 5, 2) := by decide +kernel
theorem dQu_holds_32 : decode bQu_holds 32 = .ok (.iaload, 1) := by decide +kernel
theorem dQu_holds_33 : decode bQu_holds 33 = .ok (.iload 6, 2) := by decide +kernel
theorem dQu_holds_35 : decode bQu_holds 35 = .ok (.aload_n 0, 1) := by decide +kernel
theorem dQu_holds_36 : decode bQu_holds 36 = .ok (.getfield 28, 3) := by decide +kernel
theorem dQu_holds_39 : decode bQu_holds 39 = .ok (.iload_n 1, 1) := by decide +kernel
theorem dQu_holds_40 : decode bQu_holds 40 = .ok (.iaload, 1) := by decide +kernel
theorem dQu_holds_41 : decode bQu_holds 41 = .ok (.invokevirtual 74, 3) := by decide +kernel
theorem dQu_holds_44 : decode bQu_holds 44 = .ok (.istore 7, 2) := by decide +kernel
theorem dQu_holds_46 : decode bQu_holds 46 = .ok (.aload_n 0, 1) := by decide +kernel
theorem dQu_holds_47 : decode bQu_holds 47 = .ok (.getfield 22, 3) := by decide +kernel
theorem dQu_holds_50 : decode bQu_holds 50 = .ok (.iload_n 1, 1) := by decide +kernel
theorem dQu_holds_51 : decode bQu_holds 51 = .ok (.iaload, 1) := by decide +kernel
theorem dQu_holds_52 : decode bQu_holds 52 = .ok (.iconst 1, 1) := by decide +kernel
theorem dQu_holds_53 : decode bQu_holds 53 = .ok (.if_icmp .ne 20, 3) := by decide +kernel
theorem dQu_holds_56 : decode bQu_holds 56 = .ok (.iload 7, 2) := by decide +kernel
theorem dQu_holds_58 : decode bQu_holds 58 = .ok (.aload_n 0, 1) := by decide +kernel
theorem dQu_holds_59 : decode bQu_holds 59 = .ok (.getfield 34, 3) := by decide +kernel
theorem dQu_holds_62 : decode bQu_holds 62 = .ok (.iload_n 1, 1) := by decide +kernel
theorem dQu_holds_63 : decode bQu_holds 63 = .ok (.iaload, 1) := by decide +kernel
theorem dQu_holds_64 : decode bQu_holds 64 = .ok (.if_icmp .ne 7, 3) := by decide +kernel
theorem dQu_holds_67 : decode bQu_holds 67 = .ok (.iconst 1, 1) := by decide +kernel
theorem dQu_holds_68 : decode bQu_holds 68 = .ok (.goto 4, 3) := by decide +kernel
theorem dQu_holds_71 : decode bQu_holds 71 = .ok (.iconst 0, 1) := by decide +kernel
theorem dQu_holds_72 : decode bQu_holds 72 = .ok (.ireturn, 1) := by decide +kernel
theorem dQu_holds_73 : decode bQu_holds 73 = .ok (.aload_n 0, 1) := by decide +kernel
theorem dQu_holds_74 : decode bQu_holds 74 = .ok (.getfield 31, 3) := by decide +kernel
theorem dQu_holds_77 : decode bQu_holds 77 = .ok (.iload_n 1, 1) := by decide +kernel
theorem dQu_holds_78 : decode bQu_holds 78 = .ok (.iaload, 1) := by decide +kernel
theorem dQu_holds_79 : decode bQu_holds 79 = .ok (.istore 8, 2) := by decide +kernel
theorem dQu_holds_81 : decode bQu_holds 81 = .ok (.iload 8, 2) := by decide +kernel
theorem dQu_holds_83 : decode bQu_holds 83 = .ok (.iload_n 2, 1) := by decide +kernel
theorem dQu_holds_84 : decode bQu_holds 84 = .ok (.if_icmp .ne 7, 3) := by decide +kernel
theorem dQu_holds_87 : decode bQu_holds 87 = .ok (.iload_n 3, 1) := by decide +kernel
theorem dQu_holds_88 : decode bQu_holds 88 = .ok (.goto 5, 3) := by decide +kernel
theorem dQu_holds_91 : decode bQu_holds 91 = .ok (.iload 4, 2) := by decide +kernel
theorem dQu_holds_93 : decode bQu_holds 93 = .ok (.istore 9, 2) := by decide +kernel
theorem dQu_holds_95 : decode bQu_holds 95 = .ok (.aload_n 0, 1) := by decide +kernel
theorem dQu_holds_96 : decode bQu_holds 96 = .ok (.getfield 12, 3) := by decide +kernel
theorem dQu_holds_99 : decode bQu_holds 99 = .ok (.aload_n 0, 1) := by decide +kernel
theorem dQu_holds_100 : decode bQu_holds 100 = .ok (.getfield 18, 3) := by decide +kernel
theorem dQu_holds_103 : decode bQu_holds 103 = .ok (.iload 8, 2) := by decide +kernel
theorem dQu_holds_105 : decode bQu_holds 105 = .ok (.iaload, 1) := by decide +kernel
theorem dQu_holds_106 : decode bQu_holds 106 = .ok (.iload 9, 2) := by decide +kernel
theorem dQu_holds_108 : decode bQu_holds 108 = .ok (.aload_n 0, 1) := by decide +kernel
theorem dQu_holds_109 : decode bQu_holds 109 = .ok (.getfield 34, 3) := by decide +kernel
theorem dQu_holds_112 : decode bQu_holds 112 = .ok (.iload_n 1, 1) := by decide +kernel
theorem dQu_holds_113 : decode bQu_holds 113 = .ok (.iaload, 1) := by decide +kernel
theorem dQu_holds_114 : decode bQu_holds 114 = .ok (.invokevirtual 74, 3) := by decide +kernel
theorem dQu_holds_117 : decode bQu_holds 117 = .ok (.istore 10, 2) := by decide +kernel
theorem dQu_holds_119 : decode bQu_holds 119 = .ok (.aload_n 0, 1) := by decide +kernel
theorem dQu_holds_120 : decode bQu_holds 120 = .ok (.getfield 22, 3) := by decide +kernel
theorem dQu_holds_123 : decode bQu_holds 123 = .ok (.iload_n 1, 1) := by decide +kernel
theorem dQu_holds_124 : decode bQu_holds 124 = .ok (.iaload, 1) := by decide +kernel
theorem dQu_holds_125 : decode bQu_holds 125 = .ok (.iconst 2, 1) := by decide +kernel
theorem dQu_holds_126 : decode bQu_holds 126 = .ok (.if_icmp .ne 18, 3) := by decide +kernel
theorem dQu_holds_129 : decode bQu_holds 129 = .ok (.iload 7, 2) := by decide +kernel
theorem dQu_holds_131 : decode bQu_holds 131 = .ok (.iload 10, 2) := by decide +kernel
theorem dQu_holds_133 : decode bQu_holds 133 = .ok (.if_icmp .ge 7, 3) := by decide +kernel
theorem dQu_holds_136 : decode bQu_holds 136 = .ok (.iconst 1, 1) := by decide +kernel
theorem dQu_holds_137 : decode bQu_holds 137 = .ok (.goto 19, 3) := by decide +kernel
theorem dQu_holds_140 : decode bQu_holds 140 = .ok (.iconst 0, 1) := by decide +kernel
theorem dQu_holds_141 : decode bQu_holds 141 = .ok (.goto 15, 3) := by decide +kernel
theorem dQu_holds_144 : decode bQu_holds 144 = .ok (.iload 7, 2) := by decide +kernel
theorem dQu_holds_146 : decode bQu_holds 146 = .ok (.iload 10, 2) := by decide +kernel
theorem dQu_holds_148 : decode bQu_holds 148 = .ok (.if_icmp .ne 7, 3) := by decide +kernel
theorem dQu_holds_151 : decode bQu_holds 151 = .ok (.iconst 1, 1) := by decide +kernel
theorem dQu_holds_152 : decode bQu_holds 152 = .ok (.goto 4, 3) := by decide +kernel
theorem dQu_holds_155 : decode bQu_holds 155 = .ok (.iconst 0, 1) := by decide +kernel
theorem dQu_holds_156 : decode bQu_holds 156 = .ok (.ireturn, 1) := by decide +kernel
abbrev rQu_holds : Room := { frames := 1, cells := 0, slots := 0, locals := 23 }
def fQu_holds_93 (x1 : Int32) (x7 : Int32) (x8 : Int32) (s0 : Int32) (M : jM) (F : jF) : Option Int32 := (if jib x8 6 then (if jib x1 12 then ((fTa_value (M 10 x8.toNatClampNeg) s0 (M 15 x1.toNatClampNeg) M F).bind fun q12 => (if jib x1 12 then (if (M 11 x1.toNatClampNeg) = 2 then (if q12 ≤ x7 then some 0 else some 1) else (if x7 = q12 then some 1 else some 0)) else none)) else none) else none)
def fQu_holds_20 (x1 : Int32) (x2 : Int32) (x3 : Int32) (x4 : Int32) (x5 : Int32) (s0 : Int32) (M : jM) (F : jF) : Option Int32 := (if jib x5 6 then (if jib x1 12 then ((fTa_value (M 10 x5.toNatClampNeg) s0 (M 13 x1.toNatClampNeg) M F).bind fun q5 => (if jib x1 12 then (if (M 11 x1.toNatClampNeg) = 1 then (if jib x1 12 then (if q5 = (M 15 x1.toNatClampNeg) then some 1 else some 0) else none) else (if jib x1 12 then (if (M 14 x1.toNatClampNeg) = x2 then fQu_holds_93 x1 q5 (M 14 x1.toNatClampNeg) x3 M F else fQu_holds_93 x1 q5 (M 14 x1.toNatClampNeg) x4 M F) else none)) else none)) else none) else none)
def fQu_holds_0 (x1 : Int32) (x2 : Int32) (x3 : Int32) (x4 : Int32) (M : jM) (F : jF) : Option Int32 := (if jib x1 12 then (if (M 12 x1.toNatClampNeg) = x2 then fQu_holds_20 x1 x2 x3 x4 (M 12 x1.toNatClampNeg) x3 M F else fQu_holds_20 x1 x2 x3 x4 (M 12 x1.toNatClampNeg) x4 M F) else none)
abbrev fQu_holds (x1 : Int32) (x2 : Int32) (x3 : Int32) (x4 : Int32) (M : jM) (F : jF) : Option Int32 := fQu_holds_0 x1 x2 x3 x4 M F
set_option maxHeartbeats 4000000 in
set_option maxRecDepth 100000 in
theorem uQu_holds_93 {p : Program} {e : Env} {s : State} {m : MethodId} {args : Array Value} {below : List Frame} {meth : Method} {c : Code} (l : Launch) (dC : Nat → ClassId) (dI : Nat → Nat → Nat) (cA : ClassId) (A : Nat → Nat) (Ap : Nat → Prop) (hC : jAt p s m args meth c bQu_holds 11 (some .boolean) wQu_holds RQu) (hA : ∀ q : Nat, s.heap.size ≤ q → Ap q) {r : Int32} : ∀ (x1 x7 x8 s0 : Int32) (M : jM) (F : jF) (B : Nat → Nat) (H : Heap) (locs : List Loc) (ls : Array Slot), jH (dC, dI) jCl [(cA, .int)] (jW cA A B M F) Ap s H locs → lv_has ls 11 [(0, .ref (A 3)), (1, .int x1), (7, .int x7), (8, .int x8)] → fQu_holds_93 x1 x7 x8 s0 M F = some r → W p l e (headSpec wQu_holds rQu_holds).room s m args below meth c H locs 0 0 (jQi below (dC, dI) jCl [(cA, .int)] (fun B => jW cA A B M F) Ap args s r) (F0 m 93 ls [.int s0]) := by
  obtain ⟨hx, hb, hml, hr, hts, hown, hlocks, hN⟩ := id hC
  have hj : ∀ w ∈ jw, w.before args s = true := fun w h => hts w (List.mem_cons_of_mem _ h)
  intro x1 x7 x8 s0 M F B H locs ls hJ hl h
  unfold fQu_holds_93 at h
  refine lv_istore (lv' := [(9, .int s0), (0, .ref (A 3)), (1, .int x1), (7, .int x7), (8, .int x8)]) hx hb dQu_holds_93 hl (by decide) rfl (fun ls hl => ?_)
  refine lv_aload_n hx hb dQu_holds_95 rfl (lv_at hl 1 rfl) ?_
  refine va_get (D := (dC, dI)) (ci := 3) (v := .ref (A 4)) (C := RQu) (T := TQu) (N := 10) hx hb hj iQu hown hJ.1 hJ.2.1 3 rfl rfl 0 (by decide) (hj _ jw_63) (fun _ h9 => h9) rfl dQu_holds_96 ?_
  refine lv_aload_n hx hb dQu_holds_99 rfl (lv_at hl 1 rfl) ?_
  refine va_get (D := (dC, dI)) (ci := 3) (v := .ref (A 10)) (C := RQu) (T := TQu) (N := 10) hx hb hj iQu hown hJ.1 hJ.2.1 3 rfl rfl 1 (by decide) (hj _ jw_65) (fun _ h9 => h9) rfl dQu_holds_100 ?_
  refine lv_iload hx hb dQu_holds_103 (lv_at hl 4 rfl) ?_
  obtain ⟨hi10, h⟩ := jib_h h
  refine jald_10 hx hb hJ hi10 dQu_holds_105 ?_
  refine lv_iload hx hb dQu_holds_106 (lv_at hl 0 rfl) ?_
  refine lv_aload_n hx hb dQu_holds_108 rfl (lv_at hl 1 rfl) ?_
  refine va_get (D := (dC, dI)) (ci := 3) (v := .ref (A 15)) (C := RQu) (T := TQu) (N := 10) hx hb hj iQu hown hJ.1 hJ.2.1 3 rfl rfl 6 (by decide) (hj _ jw_71) (fun _ h9 => h9) rfl dQu_holds_109 ?_
  refine lv_iload_n hx hb dQu_holds_112 rfl (lv_at hl 2 rfl) ?_
  obtain ⟨hi11, h⟩ := jib_h h
  refine jald_15 hx hb hJ hi11 dQu_holds_113 ?_
  obtain ⟨q12, hq12, h⟩ := jbi_h h
  refine jcalli (w' := fun B => jW cA A B M F) (va_runV (As := [.int (M 10 x8.toNatClampNeg), .int s0, .int (M 15 x1.toNatClampNeg)]) (rest := []) ⟨hx, hb, hml, hown, hts⟩ (cTa_value l dC dI cA A (M 10 x8.toNatClampNeg) s0 (M 15 x1.toNatClampNeg) M F B H.size hq12) (cwV 3 hts (jgoodV jw_536 jw_330 jw_331 jw_5 jw_332) rfl rfl rfl (by decide +kernel) ⟨Nat.le_of_ble_eq_true rfl, Nat.le_of_ble_eq_true rfl⟩) (jpreV hN hJ (ci := 4) (q0 := 4) rfl rfl) rfl rfl hl.1 rfl (lv_room (Nat.le_of_ble_eq_true rfl)) dQu_holds_114 ⟨Nat.zero_le _, Nat.zero_le _⟩) hA hJ (fun B H locs hJ => ?_)
  refine lv_istore (lv' := [(10, .int q12), (9, .int s0), (0, .ref (A 3)), (1, .int x1), (7, .int x7), (8, .int x8)]) hx hb dQu_holds_117 hl (by decide) rfl (fun ls hl => ?_)
  refine lv_aload_n hx hb dQu_holds_119 rfl (lv_at hl 2 rfl) ?_
  refine va_get (D := (dC, dI)) (ci := 3) (v := .ref (A 11)) (C := RQu) (T := TQu) (N := 10) hx hb hj iQu hown hJ.1 hJ.2.1 3 rfl rfl 2 (by decide) (hj _ jw_66) (fun _ h9 => h9) rfl dQu_holds_120 ?_
  refine lv_iload_n hx hb dQu_holds_123 rfl (lv_at hl 3 rfl) ?_
  obtain ⟨hi13, h⟩ := jib_h h
  refine jald_11 hx hb hJ hi13 dQu_holds_124 ?_
  refine lv_iconst (v := 2) hx hb dQu_holds_125 (by decide) ?_
  refine lv_icmp_ne (tgt := 144) hx hb dQu_holds_126 (by decide) (fun c14 => ?_) (fun c14 => ?_)
  · replace h := jif_f c14 h
    refine lv_iload hx hb dQu_holds_144 (lv_at hl 4 rfl) ?_
    refine lv_iload hx hb dQu_holds_146 (lv_at hl 0 rfl) ?_
    refine lv_icmp_ne (tgt := 155) hx hb dQu_holds_148 (by decide) (fun c15 => ?_) (fun c15 => ?_)
    · replace h := jif_f c15 h
      refine lv_iconst (v := 0) hx hb dQu_holds_155 (by decide) ?_
      exact jreti (u := B) hx hb hr rfl hlocks hJ dQu_holds_156 (Option.some.inj h)
    · replace h := jif_t c15 h
      refine lv_iconst (v := 1) hx hb dQu_holds_151 (by decide) ?_
      refine lv_goto (tgt := 156) hx hb dQu_holds_152 (by decide) ?_
      exact jreti (u := B) hx hb hr rfl hlocks hJ dQu_holds_156 (Option.some.inj h)
  · replace h := jif_t c14 h
    refine lv_iload hx hb dQu_holds_129 (lv_at hl 4 rfl) ?_
    refine lv_iload hx hb dQu_holds_131 (lv_at hl 0 rfl) ?_
    refine lv_icmp_ge (tgt := 140) hx hb dQu_holds_133 (by decide) (fun c16 => ?_) (fun c16 => ?_)
    · replace h := jif_t c16 h
      refine lv_iconst (v := 0) hx hb dQu_holds_140 (by decide) ?_
      refine lv_goto (tgt := 156) hx hb dQu_holds_141 (by decide) ?_
      exact jreti (u := B) hx hb hr rfl hlocks hJ dQu_holds_156 (Option.some.inj h)
    · replace h := jif_f c16 h
      refine lv_iconst (v := 1) hx hb dQu_holds_136 (by decide) ?_
      refine lv_goto (tgt := 156) hx hb dQu_holds_137 (by decide) ?_
      exact jreti (u := B) hx hb hr rfl hlocks hJ dQu_holds_156 (Option.some.inj h)
set_option maxHeartbeats 4000000 in
set_option maxRecDepth 100000 in
theorem uQu_holds_20 {p : Program} {e : Env} {s : State} {m : MethodId} {args : Array Value} {below : List Frame} {meth : Method} {c : Code} (l : Launch) (dC : Nat → ClassId) (dI : Nat → Nat → Nat) (cA : ClassId) (A : Nat → Nat) (Ap : Nat → Prop) (hC : jAt p s m args meth c bQu_holds 11 (some .boolean) wQu_holds RQu) (hA : ∀ q : Nat, s.heap.size ≤ q → Ap q) {r : Int32} : ∀ (x1 x2 x3 x4 x5 s0 : Int32) (M : jM) (F : jF) (B : Nat → Nat) (H : Heap) (locs : List Loc) (ls : Array Slot), jH (dC, dI) jCl [(cA, .int)] (jW cA A B M F) Ap s H locs → lv_has ls 11 [(0, .ref (A 3)), (1, .int x1), (2, .int x2), (3, .int x3), (4, .int x4), (5, .int x5)] → fQu_holds_20 x1 x2 x3 x4 x5 s0 M F = some r → W p l e (headSpec wQu_holds rQu_holds).room s m args below meth c H locs 0 0 (jQi below (dC, dI) jCl [(cA, .int)] (fun B => jW cA A B M F) Ap args s r) (F0 m 20 ls [.int s0]) := by
  obtain ⟨hx, hb, hml, hr, hts, hown, hlocks, hN⟩ := id hC
  have hj : ∀ w ∈ jw, w.before args s = true := fun w h => hts w (List.mem_cons_of_mem _ h)
  intro x1 x2 x3 x4 x5 s0 M F B H locs ls hJ hl h
  unfold fQu_holds_20 at h
  refine lv_istore (lv' := [(6, .int s0), (0, .ref (A 3)), (1, .int x1), (2, .int x2), (3, .int x3), (4, .int x4), (5, .int x5)]) hx hb dQu_holds_20 hl (by decide) rfl (fun ls hl => ?_)
  refine lv_aload_n hx hb dQu_holds_22 rfl (lv_at hl 1 rfl) ?_
  refine va_get (D := (dC, dI)) (ci := 3) (v := .ref (A 4)) (C := RQu) (T := TQu) (N := 10) hx hb hj iQu hown hJ.1 hJ.2.1 3 rfl rfl 0 (by decide) (hj _ jw_63) (fun _ h9 => h9) rfl dQu_holds_23 ?_
  refine lv_aload_n hx hb dQu_holds_26 rfl (lv_at hl 1 rfl) ?_
  refine va_get (D := (dC, dI)) (ci := 3) (v := .ref (A 10)) (C := RQu) (T := TQu) (N := 10) hx hb hj iQu hown hJ.1 hJ.2.1 3 rfl rfl 1 (by decide) (hj _ jw_65) (fun _ h9 => h9) rfl dQu_holds_27 ?_
  refine lv_iload hx hb dQu_holds_30 (lv_at hl 6 rfl) ?_
  obtain ⟨hi3, h⟩ := jib_h h
  refine jald_10 hx hb hJ hi3 dQu_holds_32 ?_
  refine lv_iload hx hb dQu_holds_33 (lv_at hl 0 rfl) ?_
  refine lv_aload_n hx hb dQu_holds_35 rfl (lv_at hl 1 rfl) ?_
  refine va_get (D := (dC, dI)) (ci := 3) (v := .ref (A 13)) (C := RQu) (T := TQu) (N := 10) hx hb hj iQu hown hJ.1 hJ.2.1 3 rfl rfl 4 (by decide) (hj _ jw_69) (fun _ h9 => h9) rfl dQu_holds_36 ?_
  refine lv_iload_n hx hb dQu_holds_39 rfl (lv_at hl 2 rfl) ?_
  obtain ⟨hi4, h⟩ := jib_h h
  refine jald_13 hx hb hJ hi4 dQu_holds_40 ?_
  obtain ⟨q5, hq5, h⟩ := jbi_h h
  refine jcalli (w' := fun B => jW cA A B M F) (va_runV (As := [.int (M 10 x5.toNatClampNeg), .int s0, .int (M 13 x1.toNatClampNeg)]) (rest := []) ⟨hx, hb, hml, hown, hts⟩ (cTa_value l dC dI cA A (M 10 x5.toNatClampNeg) s0 (M 13 x1.toNatClampNeg) M F B H.size hq5) (cwV 3 hts (jgoodV jw_536 jw_330 jw_331 jw_5 jw_332) rfl rfl rfl (by decide +kernel) ⟨Nat.le_of_ble_eq_true rfl, Nat.le_of_ble_eq_true rfl⟩) (jpreV hN hJ (ci := 4) (q0 := 4) rfl rfl) rfl rfl hl.1 rfl (lv_room (Nat.le_of_ble_eq_true rfl)) dQu_holds_41 ⟨Nat.zero_le _, Nat.zero_le _⟩) hA hJ (fun B H locs hJ => ?_)
  refine lv_istore (lv' := [(7, .int q5), (6, .int s0), (0, .ref (A 3)), (1, .int x1), (2, .int x2), (3, .int x3), (4, .int x4), (5, .int x5)]) hx hb dQu_holds_44 hl (by decide) rfl (fun ls hl => ?_)
  refine lv_aload_n hx hb dQu_holds_46 rfl (lv_at hl 2 rfl) ?_
  refine va_get (D := (dC, dI)) (ci := 3) (v := .ref (A 11)) (C := RQu) (T := TQu) (N := 10) hx hb hj iQu hown hJ.1 hJ.2.1 3 rfl rfl 2 (by decide) (hj _ jw_66) (fun _ h9 => h9) rfl dQu_holds_47 ?_
  refine lv_iload_n hx hb dQu_holds_50 rfl (lv_at hl 3 rfl) ?_
  obtain ⟨hi6, h⟩ := jib_h h
  refine jald_11 hx hb hJ hi6 dQu_holds_51 ?_
  refine lv_iconst (v := 1) hx hb dQu_holds_52 (by decide) ?_
  refine lv_icmp_ne (tgt := 73) hx hb dQu_holds_53 (by decide) (fun c7 => ?_) (fun c7 => ?_)
  · replace h := jif_f c7 h
    refine lv_aload_n hx hb dQu_holds_73 rfl (lv_at hl 2 rfl) ?_
    refine va_get (D := (dC, dI)) (ci := 3) (v := .ref (A 14)) (C := RQu) (T := TQu) (N := 10) hx hb hj iQu hown hJ.1 hJ.2.1 3 rfl rfl 5 (by decide) (hj _ jw_70) (fun _ h9 => h9) rfl dQu_holds_74 ?_
    refine lv_iload_n hx hb dQu_holds_77 rfl (lv_at hl 3 rfl) ?_
    obtain ⟨hi8, h⟩ := jib_h h
    refine jald_14 hx hb hJ hi8 dQu_holds_78 ?_
    refine lv_istore (lv' := [(8, .int (M 14 x1.toNatClampNeg)), (7, .int q5), (6, .int s0), (0, .ref (A 3)), (1, .int x1), (2, .int x2), (3, .int x3), (4, .int x4), (5, .int x5)]) hx hb dQu_holds_79 hl (by decide) rfl (fun ls hl => ?_)
    refine lv_iload hx hb dQu_holds_81 (lv_at hl 0 rfl) ?_
    refine lv_iload_n hx hb dQu_holds_83 rfl (lv_at hl 5 rfl) ?_
    refine lv_icmp_ne (tgt := 91) hx hb dQu_holds_84 (by decide) (fun c9 => ?_) (fun c9 => ?_)
    · replace h := jif_f c9 h
      refine lv_iload hx hb dQu_holds_91 (lv_at hl 7 rfl) ?_
      exact uQu_holds_93 l dC dI cA A Ap hC hA _ _ _ _ _ _ _ _ _ _ hJ (lv_sub hl [3, 4, 1, 0] rfl) h
    · replace h := jif_t c9 h
      refine lv_iload_n hx hb dQu_holds_87 rfl (lv_at hl 6 rfl) ?_
      refine lv_goto (tgt := 93) hx hb dQu_holds_88 (by decide) ?_
      exact uQu_holds_93 l dC dI cA A Ap hC hA _ _ _ _ _ _ _ _ _ _ hJ (lv_sub hl [3, 4, 1, 0] rfl) h
  · replace h := jif_t c7 h
    refine lv_iload hx hb dQu_holds_56 (lv_at hl 0 rfl) ?_
    refine lv_aload_n hx hb dQu_holds_58 rfl (lv_at hl 2 rfl) ?_
    refine va_get (D := (dC, dI)) (ci := 3) (v := .ref (A 15)) (C := RQu) (T := TQu) (N := 10) hx hb hj iQu hown hJ.1 hJ.2.1 3 rfl rfl 6 (by decide) (hj _ jw_71) (fun _ h9 => h9) rfl dQu_holds_59 ?_
    refine lv_iload_n hx hb dQu_holds_62 rfl (lv_at hl 3 rfl) ?_
    obtain ⟨hi17, h⟩ := jib_h h
    refine jald_15 hx hb hJ hi17 dQu_holds_63 ?_
    refine lv_icmp_ne (tgt := 71) hx hb dQu_holds_64 (by decide) (fun c18 => ?_) (fun c18 => ?_)
    · replace h := jif_f c18 h
      refine lv_iconst (v := 0) hx hb dQu_holds_71 (by decide) ?_
      exact jreti (u := B) hx hb hr rfl hlocks hJ dQu_holds_72 (Option.some.inj h)
    · replace h := jif_t c18 h
      refine lv_iconst (v := 1) hx hb dQu_holds_67 (by decide) ?_
      refine lv_goto (tgt := 72) hx hb dQu_holds_68 (by decide) ?_
      exact jreti (u := B) hx hb hr rfl hlocks hJ dQu_holds_72 (Option.some.inj h)
set_option maxHeartbeats 4000000 in
set_option maxRecDepth 100000 in
theorem uQu_holds_0 {p : Program} {e : Env} {s : State} {m : MethodId} {args : Array Value} {below : List Frame} {meth : Method} {c : Code} (l : Launch) (dC : Nat → ClassId) (dI : Nat → Nat → Nat) (cA : ClassId) (A : Nat → Nat) (Ap : Nat → Prop) (hC : jAt p s m args meth c bQu_holds 11 (some .boolean) wQu_holds RQu) (hA : ∀ q : Nat, s.heap.size ≤ q → Ap q) {r : Int32} : ∀ (x1 x2 x3 x4 : Int32) (M : jM) (F : jF) (B : Nat → Nat) (H : Heap) (locs : List Loc) (ls : Array Slot), jH (dC, dI) jCl [(cA, .int)] (jW cA A B M F) Ap s H locs → lv_has ls 11 [(0, .ref (A 3)), (1, .int x1), (2, .int x2), (3, .int x3), (4, .int x4)] → fQu_holds_0 x1 x2 x3 x4 M F = some r → W p l e (headSpec wQu_holds rQu_holds).room s m args below meth c H locs 0 0 (jQi below (dC, dI) jCl [(cA, .int)] (fun B => jW cA A B M F) Ap args s r) (F0 m 0 ls []) := by
  obtain ⟨hx, hb, hml, hr, hts, hown, hlocks, hN⟩ := id hC
  have hj : ∀ w ∈ jw, w.before args s = true := fun w h => hts w (List.mem_cons_of_mem _ h)
  intro x1 x2 x3 x4 M F B H locs ls hJ hl h
  unfold fQu_holds_0 at h
  refine lv_aload_n hx hb dQu_holds_0 rfl (lv_at hl 0 rfl) ?_
  refine va_get (D := (dC, dI)) (ci := 3) (v := .ref (A 12)) (C := RQu) (T := TQu) (N := 10) hx hb hj iQu hown hJ.1 hJ.2.1 3 rfl rfl 3 (by decide) (hj _ jw_68) (fun _ h9 => h9) rfl dQu_holds_1 ?_
  refine lv_iload_n hx hb dQu_holds_4 rfl (lv_at hl 1 rfl) ?_
  obtain ⟨hi1, h⟩ := jib_h h
  refine jald_12 hx hb hJ hi1 dQu_holds_5 ?_
  refine lv_istore (lv' := [(5, .int (M 12 x1.toNatClampNeg)), (0, .ref (A 3)), (1, .int x1), (2, .int x2), (3, .int x3), (4, .int x4)]) hx hb dQu_holds_6 hl (by decide) rfl (fun ls hl => ?_)
  refine lv_iload hx hb dQu_holds_8 (lv_at hl 0 rfl) ?_
  refine lv_iload_n hx hb dQu_holds_10 rfl (lv_at hl 3 rfl) ?_
  refine lv_icmp_ne (tgt := 18) hx hb dQu_holds_11 (by decide) (fun c2 => ?_) (fun c2 => ?_)
  · replace h := jif_f c2 h
    refine lv_iload hx hb dQu_holds_18 (lv_at hl 5 rfl) ?_
    exact uQu_holds_20 l dC dI cA A Ap hC hA _ _ _ _ _ _ _ _ _ _ _ _ hJ (lv_sub hl [1, 2, 3, 4, 5, 0] rfl) h
  · replace h := jif_t c2 h
    refine lv_iload_n hx hb dQu_holds_14 rfl (lv_at hl 4 rfl) ?_
    refine lv_goto (tgt := 20) hx hb dQu_holds_15 (by decide) ?_
    exact uQu_holds_20 l dC dI cA A Ap hC hA _ _ _ _ _ _ _ _ _ _ _ _ hJ (lv_sub hl [1, 2, 3, 4, 5, 0] rfl) h
set_option maxHeartbeats 4000000 in
set_option maxRecDepth 100000 in
theorem cQu_holds (l : Launch) (dC : Nat → ClassId) (dI : Nat → Nat → Nat) (cA : ClassId) (A : Nat → Nat) (x1 : Int32) (x2 : Int32) (x3 : Int32) (x4 : Int32) (M : jM) (F : jF) (B : Nat → Nat) (sz : Nat) {r : Int32} (h : fQu_holds x1 x2 x3 x4 M F = some r) : jCi l yQu_holds wQu_holds rQu_holds (dC, dI) jCl [(cA, .int)] [.ref (A 3), .int x1, .int x2, .int x3, .int x4] (jW cA A B M F) sz r (fun B => jW cA A B M F) :=
  jOf (Qc := fun Ap => va_Qi (fun q (_ : Nat → Nat) => q = r) (jPost (dC, dI) jCl [(cA, .int)] (fun B => jW cA A B M F) Ap) Ap) (by decide) rfl (Nat.le_of_ble_eq_true rfl) (fun p e s m below meth c Ap ls hC hA hJ hl => uQu_holds_0 l dC dI cA A Ap hC hA _ _ _ _ _ _ _ _ _ _ hJ (lv_sub hl [0, 1, 2, 3, 4] rfl) h)
