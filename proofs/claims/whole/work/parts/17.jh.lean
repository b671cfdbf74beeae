abbrev bJh_table : ByteArray := prog_1_method_2_code
abbrev yJh_table : MethodName := ⟨RJh, "table", "(II)V"⟩
abbrev wJh_table : List Cond := .code yJh_table bJh_table 3 none :: jw
theorem dJh_table_0 : decode bJh_table 0 = .ok (.iload_n 1, 1) := by decide +kernel
theorem dJh_table_1 : decode bJh_table 1 = .ok (.invokestatic 35, 3) := by decide +kernel
theorem dJh_table_4 : decode bJh_table 4 = .ok (.ifCond .ne 13, 3) := by decide +kernel
theorem dJh_table_7 : decode bJh_table 7 = .ok (.new 39, 3) := by decide +kernel
theorem dJh_table_10 : decode bJh_table 10 = .ok (.dup, 1) := by decide +kernel
theorem dJh_table_11 : decode bJh_table 11 = .ok (.ldc 41, 2) := by decide +kernel
theorem dJh_table_13 : decode bJh_table 13 = .ok (.invokespecial 43, 3) := by decide +kernel
theorem dJh_table_16 : decode bJh_table 16 = .ok (.athrow, 1) := by decide +kernel
theorem dJh_table_17 : decode bJh_table 17 = .ok (.iload_n 2, 1) := by decide +kernel
theorem dJh_table_18 : decode bJh_table 18 = .ok (.ifCond .lt 9, 3) := by decide +kernel
theorem dJh_table_21 : decode bJh_table 21 = .ok (.iload_n 2, 1) := by decide +kernel
theorem dJh_table_22 : decode bJh_table 22 = .ok (.bipush 16, 2) := by decide +kernel
theorem dJh_table_24 : decode bJh_table 24 = .ok (.if_icmp .lt 13, 3) := by decide +kernel
theorem dJh_table_27 : decode bJh_table 27 = .ok (.new 39, 3) := by decide +kernel
theorem dJh_table_30 : decode bJh_table 30 = .ok (.dup, 1) := by decide +kernel
theorem dJh_table_31 : decode bJh_table 31 = .ok (.ldc 46, 2) := by decide +kernel
theorem dJh_table_33 : decode bJh_table 33 = .ok (.invokespecial 43, 3) := by decide +kernel
theorem dJh_table_36 : decode bJh_table 36 = .ok (.athrow, 1) := by decide +kernel
theorem dJh_table_37 : decode bJh_table 37 = .ok (.aload_n 0, 1) := by decide +kernel
theorem dJh_table_38 : decode bJh_table 38 = .ok (.getfield 34, 3) := by decide +kernel
theorem dJh_table_41 : decode bJh_table 41 = .ok (.iload_n 1, 1) := by decide +kernel
theorem dJh_table_42 : decode bJh_table 42 = .ok (.iload_n 2, 1) := by decide +kernel
theorem dJh_table_43 : decode bJh_table 43 = .ok (.invokevirtual 48, 3) := by decide +kernel
theorem dJh_table_46 : decode bJh_table 46 = .ok (.return_, 1) := by decide +kernel
abbrev rJh_table : Room := { frames := 1, cells := 0, slots := 0, locals := 23 }
abbrev rxJh_table : Room := { frames := 6, cells := 1, slots := 6, locals := 90 }
def fJh_table_27 (M : jM) (F : jF) : Option (Nat × Int32 × jM × jF) := some (1, 0, M, F)
def fJh_table_0 (x1 : Int32) (x2 : Int32) (M : jM) (F : jF) : Option (Nat × Int32 × jM × jF) := ((fJh_isTable x1 M F).bind fun q1 => (if q1 = 0 then some (1, 0, M, F) else (if x2 < 0 then fJh_table_27  M F else (if x2 < 16 then ((fTa_empty x1 x2 M F).bind fun q5 => some (0, 0, q5.2.1, q5.2.2)) else fJh_table_27  M F))))
abbrev fJh_table (x1 : Int32) (x2 : Int32) (M : jM) (F : jF) : Option (Nat × Int32 × jM × jF) := fJh_table_0 x1 x2 M F
set_option maxHeartbeats 4000000 in
set_option maxRecDepth 100000 in
theorem uJh_table_27 {p : Program} {e : Env} {s : State} {m : MethodId} {args : Array Value} {below : List Frame} {meth : Method} {c : Code} (l : Launch) (dC : Nat → ClassId) (dI : Nat → Nat → Nat) (cA : ClassId) (A : Nat → Nat) (Ap : Nat → Prop) (hC : jAt p s m args meth c bJh_table 3 none wJh_table RJh) (hA : ∀ q : Nat, s.heap.size ≤ q → Ap q) {r : Int32} {M' : jM} {F' : jF} : ∀ (M : jM) (F : jF) (B : Nat → Nat) (H : Heap) (locs : List Loc) (ls : Array Slot), jH (dC, dI) jCl [(cA, .int)] (jW cA A B M F) Ap s H locs → lv_has ls 3 [] → fJh_table_27 M F = some (0, r, M', F') → W p l e (headSpec wJh_table rJh_table).room s m args below meth c H locs 0 0 (jQv below (dC, dI) jCl [(cA, .int)] (fun B => jW cA A B (M') (F')) Ap args s) (F0 m 27 ls []) := by
  obtain ⟨hx, hb, hml, hr, hts, hown, hlocks, hN⟩ := id hC
  have hj : ∀ w ∈ jw, w.before args s = true := fun w h => hts w (List.mem_cons_of_mem _ h)
  intro  M F B H locs ls hJ hl h
  unfold fJh_table_27 at h
  exact (jk_no h).elim
set_option maxHeartbeats 4000000 in
set_option maxRecDepth 100000 in
theorem uJh_table_0 {p : Program} {e : Env} {s : State} {m : MethodId} {args : Array Value} {below : List Frame} {meth : Method} {c : Code} (l : Launch) (dC : Nat → ClassId) (dI : Nat → Nat → Nat) (cA : ClassId) (A : Nat → Nat) (Ap : Nat → Prop) (hC : jAt p s m args meth c bJh_table 3 none wJh_table RJh) (hA : ∀ q : Nat, s.heap.size ≤ q → Ap q) {r : Int32} {M' : jM} {F' : jF} : ∀ (x1 x2 : Int32) (M : jM) (F : jF) (B : Nat → Nat) (H : Heap) (locs : List Loc) (ls : Array Slot), jH (dC, dI) jCl [(cA, .int)] (jW cA A B M F) Ap s H locs → lv_has ls 3 [(0, .ref (A 0)), (1, .int x1), (2, .int x2)] → fJh_table_0 x1 x2 M F = some (0, r, M', F') → W p l e (headSpec wJh_table rJh_table).room s m args below meth c H locs 0 0 (jQv below (dC, dI) jCl [(cA, .int)] (fun B => jW cA A B (M') (F')) Ap args s) (F0 m 0 ls []) := by
  obtain ⟨hx, hb, hml, hr, hts, hown, hlocks, hN⟩ := id hC
  have hj : ∀ w ∈ jw, w.before args s = true := fun w h => hts w (List.mem_cons_of_mem _ h)
  intro x1 x2 M F B H locs ls hJ hl h
  unfold fJh_table_0 at h
  refine lv_iload_n hx hb dJh_table_0 rfl (lv_at hl 1 rfl) ?_
  obtain ⟨q1, hq1, h⟩ := jbi_h h
  refine jcalli (w' := fun B => jW cA A B M F) (va_runS (As := [.int x1]) (rest := []) ⟨hx, hb, hml, hown, hts⟩ (cJh_isTable l dC dI cA A x1 M F B H.size hq1) (va_cwS 1 hts (jgoodS jw_213 jw_214 jw_1 jw_215) rfl rfl rfl (by decide +kernel) ⟨Nat.le_of_ble_eq_true rfl, Nat.le_of_ble_eq_true rfl⟩) (jpreS hN hJ) rfl rfl hl.1 rfl (lv_room (Nat.le_of_ble_eq_true rfl)) dJh_table_1 ⟨Nat.zero_le _, Nat.zero_le _⟩) hA hJ (fun B H locs hJ => ?_)
  refine lv_if_ne (tgt := 17) hx hb dJh_table_4 (by decide) (fun c2 => ?_) (fun c2 => ?_)
  · replace h := jif_f c2 h
    refine lv_iload_n hx hb dJh_table_17 rfl (lv_at hl 2 rfl) ?_
    refine lv_if_lt (tgt := 27) hx hb dJh_table_18 (by decide) (fun c3 => ?_) (fun c3 => ?_)
    · replace h := jif_t c3 h
      exact uJh_table_27 l dC dI cA A Ap hC hA _ _ _ _ _ _ hJ (lv_sub hl [] rfl) h
    · replace h := jif_f c3 h
      refine lv_iload_n hx hb dJh_table_21 rfl (lv_at hl 2 rfl) ?_
      refine lv_bipush (v := 16) hx hb dJh_table_22 (by decide) ?_
      refine lv_icmp_lt (tgt := 37) hx hb dJh_table_24 (by decide) (fun c4 => ?_) (fun c4 => ?_)
      · replace h := jif_t c4 h
        refine lv_aload_n hx hb dJh_table_37 rfl (lv_at hl 0 rfl) ?_
        refine va_get (D := (dC, dI)) (ci := 0) (v := .ref (A 4)) (C := RJh) (T := TJh) (N := 4) hx hb hj iJh hown hJ.1 hJ.2.1 0 rfl rfl 3 (by decide) (hj _ jw_183) (fun _ h9 => h9) rfl dJh_table_38 ?_
        refine lv_iload_n hx hb dJh_table_41 rfl (lv_at hl 1 rfl) ?_
        refine lv_iload_n hx hb dJh_table_42 rfl (lv_at hl 2 rfl) ?_
        obtain ⟨q5, hq5, h⟩ := jbi_h h
        refine jcallv (w' := fun B => jW cA A B q5.2.1 q5.2.2) (va_runV (As := [.int x1, .int x2]) (rest := []) ⟨hx, hb, hml, hown, hts⟩ (cTa_empty l dC dI cA A x1 x2 M F B H.size hq5) (cwV 2 hts (jgoodV jw_285 jw_286 jw_287 jw_5 jw_288) rfl rfl rfl (by decide +kernel) ⟨Nat.le_of_ble_eq_true rfl, Nat.le_of_ble_eq_true rfl⟩) (jpreV hN hJ (ci := 4) (q0 := 4) rfl rfl) rfl rfl hl.1 rfl (lv_room (Nat.le_of_ble_eq_true rfl)) dJh_table_43 ⟨Nat.zero_le _, Nat.zero_le _⟩) hA hJ (fun B6 H locs hJ => ?_)
        cases h
        exact jretv (u := B6) hx hb hr hlocks hJ dJh_table_46
      · replace h := jif_f c4 h
        exact uJh_table_27 l dC dI cA A Ap hC hA _ _ _ _ _ _ hJ (lv_sub hl [] rfl) h
  · replace h := jif_t c2 h
    exact (jk_no h).elim
set_option maxHeartbeats 4000000 in
set_option maxRecDepth 100000 in
theorem cJh_table (l : Launch) (dC : Nat → ClassId) (dI : Nat → Nat → Nat) (cA : ClassId) (A : Nat → Nat) (x1 : Int32) (x2 : Int32) (M : jM) (F : jF) (B : Nat → Nat) (sz : Nat) {r : Int32} {M' : jM} {F' : jF} (h : fJh_table x1 x2 M F = some (0, r, M', F')) : jCv l yJh_table wJh_table rJh_table (dC, dI) jCl [(cA, .int)] [.ref (A 0), .int x1, .int x2] (jW cA A B M F) sz (fun B => jW cA A B (M') (F')) :=
  jOf (Qc := fun Ap => va_Qv (fun _ : Nat → Nat => True) (jPost (dC, dI) jCl [(cA, .int)] (fun B => jW cA A B (M') (F')) Ap) Ap) (by decide) rfl (Nat.le_of_ble_eq_true rfl) (fun p e s m below meth c Ap ls hC hA hJ hl => uJh_table_0 l dC dI cA A Ap hC hA _ _ _ _ _ _ _ _ hJ (lv_sub hl [0, 1, 2] rfl) h)
set_option maxHeartbeats 4000000 in
set_option maxRecDepth 100000 in
theorem uxJh_table_27 {p : Program} {e : Env} {s : State} {m : MethodId} {args : Array Value} {below : List Frame} {meth : Method} {c : Code} (l : Launch) (dC : Nat → ClassId) (dI : Nat → Nat → Nat) (cA : ClassId) (A : Nat → Nat) (Ap : Nat → Prop) (hX : jAtX l Ap s c) (hC : jAt p s m args meth c bJh_table 3 none wJh_table RJh) (hA : ∀ q : Nat, s.heap.size ≤ q → Ap q) {k : Nat} (hk : ¬ k = 0) {r : Int32} {M' : jM} {F' : jF} : ∀ (M : jM) (F : jF) (B : Nat → Nat) (H : Heap) (locs : List Loc) (ls : Array Slot), jH (dC, dI) jCl [(cA, .int)] (jW cA A B M F) Ap s H locs → lv_has ls 3 [] → fJh_table_27 M F = some (k, r, M', F') → W p l e (headSpec wJh_table rxJh_table).room s m args below meth c H locs 0 0 (jQx below (dC, dI) jCl [(cA, .int)] (fun B => jW cA A B (M') (F')) Ap args s k) (F0 m 27 ls []) := by
  obtain ⟨hx, hb, hml, hr, hts, hown, hlocks, hN⟩ := id hC
  have hj : ∀ w ∈ jw, w.before args s = true := fun w h => hts w (List.mem_cons_of_mem _ h)
  intro  M F B H locs ls hJ hl h
  unfold fJh_table_27 at h
  cases h
  exact jthrow_1 (text := "no such column") (u := B) hx hb hml hown hj hX hlocks hl.1 hJ (by decide) dJh_table_27 dJh_table_30 dJh_table_31 dJh_table_33 dJh_table_36 (Nat.le_of_ble_eq_true rfl) (Nat.le_of_ble_eq_true rfl) (Nat.le_of_ble_eq_true rfl) (Nat.le_of_ble_eq_true rfl)
set_option maxHeartbeats 4000000 in
set_option maxRecDepth 100000 in
theorem uxJh_table_0 {p : Program} {e : Env} {s : State} {m : MethodId} {args : Array Value} {below : List Frame} {meth : Method} {c : Code} (l : Launch) (dC : Nat → ClassId) (dI : Nat → Nat → Nat) (cA : ClassId) (A : Nat → Nat) (Ap : Nat → Prop) (hX : jAtX l Ap s c) (hC : jAt p s m args meth c bJh_table 3 none wJh_table RJh) (hA : ∀ q : Nat, s.heap.size ≤ q → Ap q) {k : Nat} (hk : ¬ k = 0) {r : Int32} {M' : jM} {F' : jF} : ∀ (x1 x2 : Int32) (M : jM) (F : jF) (B : Nat → Nat) (H : Heap) (locs : List Loc) (ls : Array Slot), jH (dC, dI) jCl [(cA, .int)] (jW cA A B M F) Ap s H locs → lv_has ls 3 [(0, .ref (A 0)), (1, .int x1), (2, .int x2)] → fJh_table_0 x1 x2 M F = some (k, r, M', F') → W p l e (headSpec wJh_table rxJh_table).room s m args below meth c H locs 0 0 (jQx below (dC, dI) jCl [(cA, .int)] (fun B => jW cA A B (M') (F')) Ap args s k) (F0 m 0 ls []) := by
  obtain ⟨hx, hb, hml, hr, hts, hown, hlocks, hN⟩ := id hC
  have hj : ∀ w ∈ jw, w.before args s = true := fun w h => hts w (List.mem_cons_of_mem _ h)
  intro x1 x2 M F B H locs ls hJ hl h
  unfold fJh_table_0 at h
  refine lv_iload_n hx hb dJh_table_0 rfl (lv_at hl 1 rfl) ?_
  obtain ⟨q1, hq1, h⟩ := jbi_h h
  refine jcalli (w' := fun B => jW cA A B M F) (va_runS (As := [.int x1]) (rest := []) ⟨hx, hb, hml, hown, hts⟩ (cJh_isTable l dC dI cA A x1 M F B H.size hq1) (va_cwS 1 hts (jgoodS jw_213 jw_214 jw_1 jw_215) rfl rfl rfl (by decide +kernel) ⟨Nat.le_of_ble_eq_true rfl, Nat.le_of_ble_eq_true rfl⟩) (jpreS hN hJ) rfl rfl hl.1 rfl (lv_room (Nat.le_of_ble_eq_true rfl)) dJh_table_1 ⟨Nat.zero_le _, Nat.zero_le _⟩) hA hJ (fun B H locs hJ => ?_)
  refine lv_if_ne (tgt := 17) hx hb dJh_table_4 (by decide) (fun c2 => ?_) (fun c2 => ?_)
  · replace h := jif_f c2 h
    refine lv_iload_n hx hb dJh_table_17 rfl (lv_at hl 2 rfl) ?_
    refine lv_if_lt (tgt := 27) hx hb dJh_table_18 (by decide) (fun c3 => ?_) (fun c3 => ?_)
    · replace h := jif_t c3 h
      exact uxJh_table_27 l dC dI cA A Ap hX hC hA hk _ _ _ _ _ _ hJ (lv_sub hl [] rfl) h
    · replace h := jif_f c3 h
      refine lv_iload_n hx hb dJh_table_21 rfl (lv_at hl 2 rfl) ?_
      refine lv_bipush (v := 16) hx hb dJh_table_22 (by decide) ?_
      refine lv_icmp_lt (tgt := 37) hx hb dJh_table_24 (by decide) (fun c4 => ?_) (fun c4 => ?_)
      · replace h := jif_t c4 h
        refine lv_aload_n hx hb dJh_table_37 rfl (lv_at hl 0 rfl) ?_
        refine va_get (D := (dC, dI)) (ci := 0) (v := .ref (A 4)) (C := RJh) (T := TJh) (N := 4) hx hb hj iJh hown hJ.1 hJ.2.1 0 rfl rfl 3 (by decide) (hj _ jw_183) (fun _ h9 => h9) rfl dJh_table_38 ?_
        refine lv_iload_n hx hb dJh_table_41 rfl (lv_at hl 1 rfl) ?_
        refine lv_iload_n hx hb dJh_table_42 rfl (lv_at hl 2 rfl) ?_
        obtain ⟨q5, hq5, h⟩ := jbi_h h
        refine jcallv (w' := fun B => jW cA A B q5.2.1 q5.2.2) (va_runV (As := [.int x1, .int x2]) (rest := []) ⟨hx, hb, hml, hown, hts⟩ (cTa_empty l dC dI cA A x1 x2 M F B H.size hq5) (cwV 2 hts (jgoodV jw_285 jw_286 jw_287 jw_5 jw_288) rfl rfl rfl (by decide +kernel) ⟨Nat.le_of_ble_eq_true rfl, Nat.le_of_ble_eq_true rfl⟩) (jpreV hN hJ (ci := 4) (q0 := 4) rfl rfl) rfl rfl hl.1 rfl (lv_room (Nat.le_of_ble_eq_true rfl)) dJh_table_43 ⟨Nat.zero_le _, Nat.zero_le _⟩) hA hJ (fun B6 H locs hJ => ?_)
        exact (jk_no3 hk h.symm).elim
      · replace h := jif_f c4 h
        exact uxJh_table_27 l dC dI cA A Ap hX hC hA hk _ _ _ _ _ _ hJ (lv_sub hl [] rfl) h
  · replace h := jif_t c2 h
    cases h
    exact jthrow_1 (text := "no such table") (u := B) hx hb hml hown hj hX hlocks hl.1 hJ (by decide) dJh_table_7 dJh_table_10 dJh_table_11 dJh_table_13 dJh_table_16 (Nat.le_of_ble_eq_true rfl) (Nat.le_of_ble_eq_true rfl) (Nat.le_of_ble_eq_true rfl) (Nat.le_of_ble_eq_true rfl)
set_option maxHeartbeats 4000000 in
set_option maxRecDepth 100000 in
theorem cxJh_table (l : Launch) (dC : Nat → ClassId) (dI : Nat → Nat → Nat) (cA : ClassId) (A : Nat → Nat) (hl0 : l.stackTraces = false) (x1 : Int32) (x2 : Int32) (M : jM) (F : jF) (B : Nat → Nat) (sz : Nat) {k : Nat} (hk : ¬ k = 0) {r : Int32} {M' : jM} {F' : jF} (h : fJh_table x1 x2 M F = some (k, r, M', F')) : jCx l yJh_table wJh_table rxJh_table (dC, dI) jCl [(cA, .int)] [.ref (A 0), .int x1, .int x2] (jW cA A B M F) sz k (fun B => jW cA A B (M') (F')) :=
  jOfX hl0 (by decide) rfl (Nat.le_of_ble_eq_true rfl) (fun p e s m below meth c Ap ls hC hX hA hJ hl => uxJh_table_0 l dC dI cA A Ap hX hC hA hk _ _ _ _ _ _ _ _ hJ (lv_sub hl [0, 1, 2] rfl) h)
abbrev bJh_row : ByteArray := prog_1_method_3_code
abbrev yJh_row : MethodName := ⟨RJh, "row", "(IIIII)I"⟩
abbrev wJh_row : List Cond := .code yJh_row bJh_row 6 (some .int) :: jw
theorem dJh_row_0 : decode bJh_row 0 = .ok (.iload_n 1, 1) := by decide +kernel
theorem dJh_row_1 : decode bJh_row 1 = .ok (.invokestatic 35, 3) := by decide +kernel
theorem dJh_row_4 : decode bJh_row 4 = .ok (.ifCond .ne 13, 3) := by decide +kernel
theorem dJh_row_7 : decode bJh_row 7 = .ok (.new 39, 3) := by decide +kernel
theorem dJh_row_10 : decode bJh_row 10 = .ok (.dup, 1) := by decide +kernel
theorem dJh_row_11 : decode bJh_row 11 = .ok (.ldc 41, 2) := by decide +kernel
theorem dJh_row_13 : decode bJh_row 13 = .ok (.invokespecial 43, 3) := by decide +kernel
theorem dJh_row_16 : decode bJh_row 16 = .ok (.athrow, 1) := by decide +kernel
theorem dJh_row_17 : decode bJh_row 17 = .ok (.aload_n 0, 1) := by decide +kernel
theorem dJh_row_18 : decode bJh_row 18 = .ok (.getfield 34, 3) := by decide +kernel
theorem dJh_row_21 : decode bJh_row 21 = .ok (.iload_n 1, 1) := by decide +kernel
theorem dJh_row_22 : decode bJh_row 22 = .ok (.invokevirtual 54, 3) := by decide +kernel
theorem dJh_row_25 : decode bJh_row 25 = .ok (.bipush 30, 2) := by decide +kernel
theorem dJh_row_27 : decode bJh_row 27 = .ok (.if_icmp .lt 13, 3) := by decide +kernel
theorem dJh_row_30 : decode bJh_row 30 = .ok (.new 58, 3) := by decide +kernel
theorem dJh_row_33 : decode bJh_row 33 = .ok (.dup, 1) := by decide +kernel
theorem dJh_row_34 : decode bJh_row 34 = .ok (.ldc 60, 2) := by decide +kernel
theorem dJh_row_36 : decode bJh_row 36 = .ok (.invokespecial 62, 3) := by decide +kernel
theorem dJh_row_39 : decode bJh_row 39 = .ok (.athrow, 1) := by decide +kernel
theorem dJh_row_40 : decode bJh_row 40 = .ok (.aload_n 0, 1) := by decide +kernel
theorem dJh_row_41 : decode bJh_row 41 = .ok (.getfield 34, 3) := by decide +kernel
theorem dJh_row_44 : decode bJh_row 44 = .ok (.iload_n 1, 1) := by decide +kernel
theorem dJh_row_45 : decode bJh_row 45 = .ok (.iload_n 2, 1) := by decide +kernel
theorem dJh_row_46 : decode bJh_row 46 = .ok (.iload_n 3, 1) := by decide +kernel
theorem dJh_row_47 : decode bJh_row 47 = .ok (.iload 4, 2) := by decide +kernel
theorem dJh_row_49 : decode bJh_row 49 = .ok (.iload 5, 2) := by decide +kernel
theorem dJh_row_51 : decode bJh_row 51 = .ok (.invokevirtual 63, 3) := by decide +kernel
theorem dJh_row_54 : decode bJh_row 54 = .ok (.ireturn, 1) := by decide +kernel
abbrev rJh_row : Room := { frames := 4, cells := 0, slots := 0, locals := 96 }
abbrev rxJh_row : Room := { frames := 6, cells := 1, slots := 6, locals := 96 }
def fJh_row_0 (x1 : Int32) (x2 : Int32) (x3 : Int32) (x4 : Int32) (x5 : Int32) (M : jM) (F : jF) : Option (Nat × Int32 × jM × jF) := ((fJh_isTable x1 M F).bind fun q1 => (if q1 = 0 then some (1, 0, M, F) else ((fTa_rows x1 M F).bind fun q3 => (if q3 < 30 then ((fTa_add x1 x2 x3 x4 x5 M F).bind fun q5 => some (0, q5.1, q5.2.1, q5.2.2)) else some (2, 0, M, F)))))
abbrev fJh_row (x1 : Int32) (x2 : Int32) (x3 : Int32) (x4 : Int32) (x5 : Int32) (M : jM) (F : jF) : Option (Nat × Int32 × jM × jF) := fJh_row_0 x1 x2 x3 x4 x5 M F
set_option maxHeartbeats 4000000 in
set_option maxRecDepth 100000 in
theorem uJh_row_0 {p : Program} {e : Env} {s : State} {m : MethodId} {args : Array Value} {below : List Frame} {meth : Method} {c : Code} (l : Launch) (dC : Nat → ClassId) (dI : Nat → Nat → Nat) (cA : ClassId) (A : Nat → Nat) (Ap : Nat → Prop) (hC : jAt p s m args meth c bJh_row 6 (some .int) wJh_row RJh) (hA : ∀ q : Nat, s.heap.size ≤ q → Ap q) {r : Int32} {M' : jM} {F' : jF} : ∀ (x1 x2 x3 x4 x5 : Int32) (M : jM) (F : jF) (B : Nat → Nat) (H : Heap) (locs : List Loc) (ls : Array Slot), jH (dC, dI) jCl [(cA, .int)] (jW cA A B M F) Ap s H locs → lv_has ls 6 [(0, .ref (A 0)), (1, .int x1), (2, .int x2), (3, .int x3), (4, .int x4), (5, .int x5)] → fJh_row_0 x1 x2 x3 x4 x5 M F = some (0, r, M', F') → W p l e (headSpec wJh_row rJh_row).room s m args below meth c H locs 0 0 (jQi below (dC, dI) jCl [(cA, .int)] (fun B => jW cA A B (M') (F')) Ap args s r) (F0 m 0 ls []) := by
  obtain ⟨hx, hb, hml, hr, hts, hown, hlocks, hN⟩ := id hC
  have hj : ∀ w ∈ jw, w.before args s = true := fun w h => hts w (List.mem_cons_of_mem _ h)
  intro x1 x2 x3 x4 x5 M F B H locs ls hJ hl h
  unfold fJh_row_0 at h
  refine lv_iload_n hx hb dJh_row_0 rfl (lv_at hl 1 rfl) ?_
  obtain ⟨q1, hq1, h⟩ := jbi_h h
  refine jcalli (w' := fun B => jW cA A B M F) (va_runS (As := [.int x1]) (rest := []) ⟨hx, hb, hml, hown, hts⟩ (cJh_isTable l dC dI cA A x1 M F B H.size hq1) (va_cwS 1 hts (jgoodS jw_213 jw_214 jw_1 jw_215) rfl rfl rfl (by decide +kernel) ⟨Nat.le_of_ble_eq_true rfl, Nat.le_of_ble_eq_true rfl⟩) (jpreS hN hJ) rfl rfl hl.1 rfl (lv_room (Nat.le_of_ble_eq_true rfl)) dJh_row_1 ⟨Nat.zero_le _, Nat.zero_le _⟩) hA hJ (fun B H locs hJ => ?_)
  refine lv_if_ne (tgt := 17) hx hb dJh_row_4 (by decide) (fun c2 => ?_) (fun c2 => ?_)
  · replace h := jif_f c2 h
    refine lv_aload_n hx hb dJh_row_17 rfl (lv_at hl 0 rfl) ?_
    refine va_get (D := (dC, dI)) (ci := 0) (v := .ref (A 4)) (C := RJh) (T := TJh) (N := 4) hx hb hj iJh hown hJ.1 hJ.2.1 0 rfl rfl 3 (by decide) (hj _ jw_183) (fun _ h9 => h9) rfl dJh_row_18 ?_
    refine lv_iload_n hx hb dJh_row_21 rfl (lv_at hl 1 rfl) ?_
    obtain ⟨q3, hq3, h⟩ := jbi_h h
    refine jcalli (w' := fun B => jW cA A B M F) (va_runV (As := [.int x1]) (rest := []) ⟨hx, hb, hml, hown, hts⟩ (cTa_rows l dC dI cA A x1 M F B H.size hq3) (cwV 1 hts (jgoodV jw_297 jw_298 jw_299 jw_5 jw_300) rfl rfl rfl (by decide +kernel) ⟨Nat.le_of_ble_eq_true rfl, Nat.le_of_ble_eq_true rfl⟩) (jpreV hN hJ (ci := 4) (q0 := 4) rfl rfl) rfl rfl hl.1 rfl (lv_room (Nat.le_of_ble_eq_true rfl)) dJh_row_22 ⟨Nat.zero_le _, Nat.zero_le _⟩) hA hJ (fun B H locs hJ => ?_)
    refine lv_bipush (v := 30) hx hb dJh_row_25 (by decide) ?_
    refine lv_icmp_lt (tgt := 40) hx hb dJh_row_27 (by decide) (fun c4 => ?_) (fun c4 => ?_)
    · replace h := jif_t c4 h
      refine lv_aload_n hx hb dJh_row_40 rfl (lv_at hl 0 rfl) ?_
      refine va_get (D := (dC, dI)) (ci := 0) (v := .ref (A 4)) (C := RJh) (T := TJh) (N := 4) hx hb hj iJh hown hJ.1 hJ.2.1 0 rfl rfl 3 (by decide) (hj _ jw_183) (fun _ h9 => h9) rfl dJh_row_41 ?_
      refine lv_iload_n hx hb dJh_row_44 rfl (lv_at hl 1 rfl) ?_
      refine lv_iload_n hx hb dJh_row_45 rfl (lv_at hl 2 rfl) ?_
      refine lv_iload_n hx hb dJh_row_46 rfl (lv_at hl 3 rfl) ?_
      refine lv_iload hx hb dJh_row_47 (lv_at hl 4 rfl) ?_
      refine lv_iload hx hb dJh_row_49 (lv_at hl 5 rfl) ?_
      obtain ⟨q5, hq5, h⟩ := jbi_h h
      refine jcalli (w' := fun B => jW cA A B q5.2.1 q5.2.2) (va_runV (As := [.int x1, .int x2, .int x3, .int x4, .int x5]) (rest := []) ⟨hx, hb, hml, hown, hts⟩ (cTa_add l dC dI cA A x1 x2 x3 x4 x5 M F B H.size hq5) (cwV 5 hts (jgoodV jw_317 jw_318 jw_319 jw_5 jw_320) rfl rfl rfl (by decide +kernel) ⟨Nat.le_of_ble_eq_true rfl, Nat.le_of_ble_eq_true rfl⟩) (jpreV hN hJ (ci := 4) (q0 := 4) rfl rfl) rfl rfl hl.1 rfl (lv_room (Nat.le_of_ble_eq_true rfl)) dJh_row_51 ⟨Nat.zero_le _, Nat.zero_le _⟩) hA hJ (fun B6 H locs hJ => ?_)
      cases h
      exact jreti (u := B6) hx hb hr rfl hlocks hJ dJh_row_54 rfl
    · replace h := jif_f c4 h
      exact (jk_no h).elim
  · replace h := jif_t c2 h
    exact (jk_no h).elim
set_option maxHeartbeats 4000000 in
set_option maxRecDepth 100000 in
theorem cJh_row (l : Launch) (dC : Nat → ClassId) (dI : Nat → Nat → Nat) (cA : ClassId) (A : Nat → Nat) (x1 : Int32) (x2 : Int32) (x3 : Int32) (x4 : Int32) (x5 : Int32) (M : jM) (F : jF) (B : Nat → Nat) (sz : Nat) {r : Int32} {M' : jM} {F' : jF} (h : fJh_row x1 x2 x3 x4 x5 M F = some (0, r, M', F')) : jCi l yJh_row wJh_row rJh_row (dC, dI) jCl [(cA, .int)] [.ref (A 0), .int x1, .int x2, .int x3, .int x4, .int x5] (jW cA A B M F) sz r (fun B => jW cA A B (M') (F')) :=
  jOf (Qc := fun Ap => va_Qi (fun q (_ : Nat → Nat) => q = r) (jPost (dC, dI) jCl [(cA, .int)] (fun B => jW cA A B (M') (F')) Ap) Ap) (by decide) rfl (Nat.le_of_ble_eq_true rfl) (fun p e s m below meth c Ap ls hC hA hJ hl => uJh_row_0 l dC dI cA A Ap hC hA _ _ _ _ _ _ _ _ _ _ _ hJ (lv_sub hl [0, 1, 2, 3, 4, 5] rfl) h)
set_option maxHeartbeats 4000000 in
set_option maxRecDepth 100000 in
theorem uxJh_row_0 {p : Program} {e : Env} {s : State} {m : MethodId} {args : Array Value} {below : List Frame} {meth : Method} {c : Code} (l : Launch) (dC : Nat → ClassId) (dI : Nat → Nat → Nat) (cA : ClassId) (A : Nat → Nat) (Ap : Nat → Prop) (hX : jAtX l Ap s c) (hC : jAt p s m args meth c bJh_row 6 (some .int) wJh_row RJh) (hA : ∀ q : Nat, s.heap.size ≤ q → Ap q) {k : Nat} (hk : ¬ k = 0) {r : Int32} {M' : jM} {F' : jF} : ∀ (x1 x2 x3 x4 x5 : Int32) (M : jM) (F : jF) (B : Nat → Nat) (H : Heap) (locs : List Loc) (ls : Array Slot), jH (dC, dI) jCl [(cA, .int)] (jW cA A B M F) Ap s H locs → lv_has ls 6 [(0, .ref (A 0)), (1, .int x1), (2, .int x2), (3, .int x3), (4, .int x4), (5, .int x5)] → fJh_row_0 x1 x2 x3 x4 x5 M F = some (k, r, M', F') → W p l e (headSpec wJh_row rxJh_row).room s m args below meth c H locs 0 0 (jQx below (dC, dI) jCl [(cA, .int)] (fun B => jW cA A B (M') (F')) Ap args s k) (F0 m 0 ls []) := by
  obtain ⟨hx, hb, hml, hr, hts, hown, hlocks, hN⟩ := id hC
  have hj : ∀ w ∈ jw, w.before args s = true := fun w h => hts w (List.mem_cons_of_mem _ h)
  intro x1 x2 x3 x4 x5 M F B H locs ls hJ hl h
  unfold fJh_row_0 at h
  refine lv_iload_n hx hb dJh_row_0 rfl (lv_at hl 1 rfl) ?_
  obtain ⟨q1, hq1, h⟩ := jbi_h h
  refine jcalli (w' := fun B => jW cA A B M F) (va_runS (As := [.int x1]) (rest := []) ⟨hx, hb, hml, hown, hts⟩ (cJh_isTable l dC dI cA A x1 M F B H.size hq1) (va_cwS 1 hts (jgoodS jw_213 jw_214 jw_1 jw_215) rfl rfl rfl (by decide +kernel) ⟨Nat.le_of_ble_eq_true rfl, Nat.le_of_ble_eq_true rfl⟩) (jpreS hN hJ) rfl rfl hl.1 rfl (lv_room (Nat.le_of_ble_eq_true rfl)) dJh_row_1 ⟨Nat.zero_le _, Nat.zero_le _⟩) hA hJ (fun B H locs hJ => ?_)
  refine lv_if_ne (tgt := 17) hx hb dJh_row_4 (by decide) (fun c2 => ?_) (fun c2 => ?_)
  · replace h := jif_f c2 h
    refine lv_aload_n hx hb dJh_row_17 rfl (lv_at hl 0 rfl) ?_
    refine va_get (D := (dC, dI)) (ci := 0) (v := .ref (A 4)) (C := RJh) (T := TJh) (N := 4) hx hb hj iJh hown hJ.1 hJ.2.1 0 rfl rfl 3 (by decide) (hj _ jw_183) (fun _ h9 => h9) rfl dJh_row_18 ?_
    refine lv_iload_n hx hb dJh_row_21 rfl (lv_at hl 1 rfl) ?_
    obtain ⟨q3, hq3, h⟩ := jbi_h h
    refine jcalli (w' := fun B => jW cA A B M F) (va_runV (As := [.int x1]) (rest := []) ⟨hx, hb, hml, hown, hts⟩ (cTa_rows l dC dI cA A x1 M F B H.size hq3) (cwV 1 hts (jgoodV jw_297 jw_298 jw_299 jw_5 jw_300) rfl rfl rfl (by decide +kernel) ⟨Nat.le_of_ble_eq_true rfl, Nat.le_of_ble_eq_true rfl⟩) (jpreV hN hJ (ci := 4) (q0 := 4) rfl rfl) rfl rfl hl.1 rfl (lv_room (Nat.le_of_ble_eq_true rfl)) dJh_row_22 ⟨Nat.zero_le _, Nat.zero_le _⟩) hA hJ (fun B H locs hJ => ?_)
    refine lv_bipush (v := 30) hx hb dJh_row_25 (by decide) ?_
    refine lv_icmp_lt (tgt := 40) hx hb dJh_row_27 (by decide) (fun c4 => ?_) (fun c4 => ?_)
    · replace h := jif_t c4 h
      refine lv_aload_n hx hb dJh_row_40 rfl (lv_at hl 0 rfl) ?_
      refine va_get (D := (dC, dI)) (ci := 0) (v := .ref (A 4)) (C := RJh) (T := TJh) (N := 4) hx hb hj iJh hown hJ.1 hJ.2.1 0 rfl rfl 3 (by decide) (hj _ jw_183) (fun _ h9 => h9) rfl dJh_row_41 ?_
      refine lv_iload_n hx hb dJh_row_44 rfl (lv_at hl 1 rfl) ?_
      refine lv_iload_n hx hb dJh_row_45 rfl (lv_at hl 2 rfl) ?_
      refine lv_iload_n hx hb dJh_row_46 rfl (lv_at hl 3 rfl) ?_
      refine lv_iload hx hb dJh_row_47 (lv_at hl 4 rfl) ?_
      refine lv_iload hx hb dJh_row_49 (lv_at hl 5 rfl) ?_
      obtain ⟨q5, hq5, h⟩ := jbi_h h
      refine jcalli (w' := fun B => jW cA A B q5.2.1 q5.2.2) (va_runV (As := [.int x1, .int x2, .int x3, .int x4, .int x5]) (rest := []) ⟨hx, hb, hml, hown, hts⟩ (cTa_add l dC dI cA A x1 x2 x3 x4 x5 M F B H.size hq5) (cwV 5 hts (jgoodV jw_317 jw_318 jw_319 jw_5 jw_320) rfl rfl rfl (by decide +kernel) ⟨Nat.le_of_ble_eq_true rfl, Nat.le_of_ble_eq_true rfl⟩) (jpreV hN hJ (ci := 4) (q0 := 4) rfl rfl) rfl rfl hl.1 rfl (lv_room (Nat.le_of_ble_eq_true rfl)) dJh_row_51 ⟨Nat.zero_le _, Nat.zero_le _⟩) hA hJ (fun B6 H locs hJ => ?_)
      exact (jk_no3 hk h.symm).elim
    · replace h := jif_f c4 h
      cases h
      exact jthrow_2 (text := "the table has 30 rows") (u := B) hx hb hml hown hj hX hlocks hl.1 hJ (by decide) dJh_row_30 dJh_row_33 dJh_row_34 dJh_row_36 dJh_row_39 (Nat.le_of_ble_eq_true rfl) (Nat.le_of_ble_eq_true rfl) (Nat.le_of_ble_eq_true rfl) (Nat.le_of_ble_eq_true rfl)
  · replace h := jif_t c2 h
    cases h
    exact jthrow_1 (text := "no such table") (u := B) hx hb hml hown hj hX hlocks hl.1 hJ (by decide) dJh_row_7 dJh_row_10 dJh_row_11 dJh_row_13 dJh_row_16 (Nat.le_of_ble_eq_true rfl) (Nat.le_of_ble_eq_true rfl) (Nat.le_of_ble_eq_true rfl) (Nat.le_of_ble_eq_true rfl)
set_option maxHeartbeats 4000000 in
set_option maxRecDepth 100000 in
theorem cxJh_row (l : Launch) (dC : Nat → ClassId) (dI : Nat → Nat → Nat) (cA : ClassId) (A : Nat → Nat) (hl0 : l.stackTraces = false) (x1 : Int32) (x2 : Int32) (x3 : Int32) (x4 : Int32) (x5 : Int32) (M : jM) (F : jF) (B : Nat → Nat) (sz : Nat) {k : Nat} (hk : ¬ k = 0) {r : Int32} {M' : jM} {F' : jF} (h : fJh_row x1 x2 x3 x4 x5 M F = some (k, r, M', F')) : jCx l yJh_row wJh_row rxJh_row (dC, dI) jCl [(cA, .int)] [.ref (A 0), .int x1, .int x2, .int x3, .int x4, .int x5] (jW cA A B M F) sz k (fun B => jW cA A B (M') (F')) :=
  jOfX hl0 (by decide) rfl (Nat.le_of_ble_eq_true rfl) (fun p e s m below meth c Ap ls hC hX hA hJ hl => uxJh_row_0 l dC dI cA A Ap hX hC hA hk _ _ _ _ _ _ _ _ _ _ _ hJ (lv_sub hl [0, 1, 2, 3, 4, 5] rfl) h)
abbrev bJh_clear : ByteArray := prog_1_method_4_code
abbrev yJh_clear : MethodName := ⟨RJh, "clear", "()V"⟩
abbrev wJh_clear : List Cond := .code yJh_clear bJh_clear 1 none :: jw
theorem dJh_clear_0 : decode bJh_clear 0 = .ok (.aload_n 0, 1) := by decide +kernel
theorem dJh_clear_1 : decode bJh_clear 1 = .ok (.getfield 27, 3) := by decide +kernel
theorem dJh_clear_4 : decode bJh_clear 4 = .ok (.invokevirtual 67, 3) := by decide +kernel
theorem dJh_clear_7 : decode bJh_clear 7 = .ok (.return_, 1) := by decide +kernel
abbrev rJh_clear : Room := { frames := 1, cells := 0, slots := 0, locals := 20 }
def fJh_clear_0 (M : jM) (F : jF) : Option (Int32 × jM × jF) := ((fQu_empty M F).bind fun q1 => some (0, q1.2.1, q1.2.2))
abbrev fJh_clear (M : jM) (F : jF) : Option (Int32 × jM × jF) := fJh_clear_0  M F
set_option maxHeartbeats 4000000 in
set_option maxRecDepth 100000 in
theorem uJh_clear_0 {p : Program} {e : Env} {s : State} {m : MethodId} {args : Array Value} {below : List Frame} {meth : Method} {c : Code} (l : Launch) (dC : Nat → ClassId) (dI : Nat → Nat → Nat) (cA : ClassId) (A : Nat → Nat) (Ap : Nat → Prop) (hC : jAt p s m args meth c bJh_clear 1 none wJh_clear RJh) (hA : ∀ q : Nat, s.heap.size ≤ q → Ap q) {r : Int32} {M' : jM} {F' : jF} : ∀ (M : jM) (F : jF) (B : Nat → Nat) (H : Heap) (locs : List Loc) (ls : Array Slot), jH (dC, dI) jCl [(cA, .int)] (jW cA A B M F) Ap s H locs → lv_has ls 1 [(0, .ref (A 0))] → fJh_clear_0 M F = some (r, M', F') → W p l e (headSpec wJh_clear rJh_clear).room s m args below meth c H locs 0 0 (jQv below (dC, dI) jCl [(cA, .int)] (fun B => jW cA A B (M') (F')) Ap args s) (F0 m 0 ls []) := by
  obtain ⟨hx, hb, hml, hr, hts, hown, hlocks, hN⟩ := id hC
  have hj : ∀ w ∈ jw, w.before args s = true := fun w h => hts w (List.mem_cons_of_mem _ h)
  intro  M F B H locs ls hJ hl h
  unfold fJh_clear_0 at h
  refine lv_aload_n hx hb dJh_clear_0 rfl (lv_at hl 0 rfl) ?_
  refine va_get (D := (dC, dI)) (ci := 0) (v := .ref (A 3)) (C := RJh) (T := TJh) (N := 4) hx hb hj iJh hown hJ.1 hJ.2.1 0 rfl rfl 2 (by decide) (hj _ jw_182) (fun _ h9 => h9) rfl dJh_clear_1 ?_
  obtain ⟨q1, hq1, h⟩ := jbi_h h
  refine jcallv (w' := fun B => jW cA A B q1.2.1 q1.2.2) (va_runV (As := []) (rest := []) ⟨hx, hb, hml, hown, hts⟩ (cQu_empty l dC dI cA A M F B H.size hq1) (cwV 0 hts (jgoodV jw_197 jw_198 jw_199 jw_4 jw_200) rfl rfl rfl (by decide +kernel) ⟨Nat.le_of_ble_eq_true rfl, Nat.le_of_ble_eq_true rfl⟩) (jpreV hN hJ (ci := 3) (q0 := 3) rfl rfl) rfl rfl hl.1 rfl (lv_room (Nat.le_of_ble_eq_true rfl)) dJh_clear_4 ⟨Nat.zero_le _, Nat.zero_le _⟩) hA hJ (fun B2 H locs hJ => ?_)
  cases h
  exact jretv (u := B2) hx hb hr hlocks hJ dJh_clear_7
set_option maxHeartbeats 4000000 in
set_option maxRecDepth 100000 in
theorem cJh_clear (l : Launch) (dC : Nat → ClassId) (dI : Nat → Nat → Nat) (cA : ClassId) (A : Nat → Nat) (M : jM) (F : jF) (B : Nat → Nat) (sz : Nat) {r : Int32} {M' : jM} {F' : jF} (h : fJh_clear M F = some (r, M', F')) : jCv l yJh_clear wJh_clear rJh_clear (dC, dI) jCl [(cA, .int)] [.ref (A 0)] (jW cA A B M F) sz (fun B => jW cA A B (M') (F')) :=
  jOf (Qc := fun Ap => va_Qv (fun _ : Nat → Nat => True) (jPost (dC, dI) jCl [(cA, .int)] (fun B => jW cA A B (M') (F')) Ap) Ap) (by decide) rfl (Nat.le_of_ble_eq_true rfl) (fun p e s m below meth c Ap ls hC hA hJ hl => uJh_clear_0 l dC dI cA A Ap hC hA _ _ _ _ _ _ hJ (lv_sub hl [0] rfl) h)
abbrev bJh_generator : ByteArray := prog_1_method_5_code
abbrev yJh_generator : MethodName := ⟨RJh, "generator", "(I)I"⟩
abbrev wJh_generator : List Cond := .code yJh_generator bJh_generator 2 (some .int) :: jw
theorem dJh_generator_0 : decode bJh_generator 0 = .ok (.iload_n 1, 1) := by decide +kernel
theorem dJh_generator_1 : decode bJh_generator 1 = .ok (.invokestatic 35, 3) := by decide +kernel
theorem dJh_generator_4 : decode bJh_generator 4 = .ok (.ifCond .ne 13, 3) := by decide +kernel
theorem dJh_generator_7 : decode bJh_generator 7 = .ok (.new 39, 3) := by decide +kernel
theorem dJh_generator_10 : decode bJh_generator 10 = .ok (.dup, 1) := by decide +kernel
theorem dJh_generator_11 : decode bJh_generator 11 = .ok (.ldc 41, 2) := by decide +kernel
theorem dJh_generator_13 : decode bJh_generator 13 = .ok (.invokespecial 43, 3) := by decide +kernel
theorem dJh_generator_16 : decode bJh_generator 16 = .ok (.athrow, 1) := by decide +kernel
theorem dJh_generator_17 : decode bJh_generator 17 = .ok (.aload_n 0, 1) := by decide +kernel
theorem dJh_generator_18 : decode bJh_generator 18 = .ok (.getfield 27, 3) := by decide +kernel
theorem dJh_generator_21 : decode bJh_generator 21 = .ok (.getfield 69, 3) := by decide +kernel
theorem dJh_generator_24 : decode bJh_generator 24 = .ok (.bipush 6, 2) := by decide +kernel
theorem dJh_generator_26 : decode bJh_generator 26 = .ok (.if_icmp .lt 13, 3) := by decide +kernel
theorem dJh_generator_29 : decode bJh_generator 29 = .ok (.new 58, 3) := by decide +kernel
theorem dJh_generator_32 : decode bJh_generator 32 = .ok (.dup, 1) := by decide +kernel
theorem dJh_generator_33 : decode bJh_generator 33 = .ok (.ldc 73, 2) := by decide +kernel
theorem dJh_generator_35 : decode bJh_generator 35 = .ok (.invokespecial 62, 3) := by decide +kernel
theorem dJh_generator_38 : decode bJh_generator 38 = .ok (.athrow, 1) := by decide +kernel
theorem dJh_generator_39 : decode bJh_generator 39 = .ok (.aload_n 0, 1) := by decide +kernel
theorem dJh_generator_40 : decode bJh_generator 40 = .ok (.getfield 27, 3) := by decide +kernel
theorem dJh_generator_43 : decode bJh_generator 43 = .ok (.iload_n 1, 1) := by decide +kernel
theorem dJh_generator_44 : decode bJh_generator 44 = .ok (.invokevirtual 75, 3) := by decide +kernel
theorem dJh_generator_47 : decode bJh_generator 47 = .ok (.ireturn, 1) := by decide +kernel
abbrev rJh_generator : Room := { frames := 1, cells := 0, slots := 0, locals := 22 }
abbrev rxJh_generator : Room := { frames := 6, cells := 1, slots := 6, locals := 90 }
def fJh_generator_0 (x1 : Int32) (M : jM) (F : jF) : Option (Nat × Int32 × jM × jF) := ((fJh_isTable x1 M F).bind fun q1 => (if q1 = 0 then some (1, 0, M, F) else (if (F 0) < 6 then ((fQu_addGenerator x1 M F).bind fun q4 => some (0, q4.1, q4.2.1, q4.2.2)) else some (2, 0, M, F))))
abbrev fJh_generator (x1 : Int32) (M : jM) (F : jF) : Option (Nat × Int32 × jM × jF) := fJh_generator_0 x1 M F
set_option maxHeartbeats 4000000 in
set_option maxRecDepth 100000 in
theorem uJh_generator_0 {p : Program} {e : Env} {s : State} {m : MethodId} {args : Array Value} {below : List Frame} {meth : Method} {c : Code} (l : Launch) (dC : Nat → ClassId) (dI : Nat → Nat → Nat) (cA : ClassId) (A : Nat → Nat) (Ap : Nat → Prop) (hC : jAt p s m args meth c bJh_generator 2 (some .int) wJh_generator RJh) (hA : ∀ q : Nat, s.heap.size ≤ q → Ap q) {r : Int32} {M' : jM} {F' : jF} : ∀ (x1 : Int32) (M : jM) (F : jF) (B : Nat → Nat) (H : Heap) (locs : List Loc) (ls : Array Slot), jH (dC, dI) jCl [(cA, .int)] (jW cA A B M F) Ap s H locs → lv_has ls 2 [(0, .ref (A 0)), (1, .int x1)] → fJh_generator_0 x1 M F = some (0, r, M', F') → W p l e (headSpec wJh_generator rJh_generator).room s m args below meth c H locs 0 0 (jQi below (dC, dI) jCl [(cA, .int)] (fun B => jW cA A B (M') (F')) Ap args s r) (F0 m 0 ls []) := by
  obtain ⟨hx, hb, hml, hr, hts, hown, hlocks, hN⟩ := id hC
  have hj : ∀ w ∈ jw, w.before args s = true := fun w h => hts w (List.mem_cons_of_mem _ h)
  intro x1 M F B H locs ls hJ hl h
  unfold fJh_generator_0 at h
  refine lv_iload_n hx hb dJh_generator_0 rfl (lv_at hl 1 rfl) ?_
  obtain ⟨q1, hq1, h⟩ := jbi_h h
  refine jcalli (w' := fun B => jW cA A B M F) (va_runS (As := [.int x1]) (rest := []) ⟨hx, hb, hml, hown, hts⟩ (cJh_isTable l dC dI cA A x1 M F B H.size hq1) (va_cwS 1 hts (jgoodS jw_213 jw_214 jw_1 jw_215) rfl rfl rfl (by decide +kernel) ⟨Nat.le_of_ble_eq_true rfl, Nat.le_of_ble_eq_true rfl⟩) (jpreS hN hJ) rfl rfl hl.1 rfl (lv_room (Nat.le_of_ble_eq_true rfl)) dJh_generator_1 ⟨Nat.zero_le _, Nat.zero_le _⟩) hA hJ (fun B H locs hJ => ?_)
  refine lv_if_ne (tgt := 17) hx hb dJh_generator_4 (by decide) (fun c2 => ?_) (fun c2 => ?_)
  · replace h := jif_f c2 h
    refine lv_aload_n hx hb dJh_generator_17 rfl (lv_at hl 0 rfl) ?_
    refine va_get (D := (dC, dI)) (ci := 0) (v := .ref (A 3)) (C := RJh) (T := TJh) (N := 4) hx hb hj iJh hown hJ.1 hJ.2.1 0 rfl rfl 2 (by decide) (hj _ jw_182) (fun _ h9 => h9) rfl dJh_generator_18 ?_
    refine va_getN (D := (dC, dI)) (ci := 3) (v := .int (F 0)) (C := RQu) (T := TQu) (N := 10) hx hb hj iQu hown hJ.1 hJ.2.1 3 rfl rfl 8 (by decide) (jnw_use hN jnw_8) (fun _ h9 => h9) rfl dJh_generator_21 ?_
    refine lv_bipush (v := 6) hx hb dJh_generator_24 (by decide) ?_
    refine lv_icmp_lt (tgt := 39) hx hb dJh_generator_26 (by decide) (fun c3 => ?_) (fun c3 => ?_)
    · replace h := jif_t c3 h
      refine lv_aload_n hx hb dJh_generator_39 rfl (lv_at hl 0 rfl) ?_
      refine va_get (D := (dC, dI)) (ci := 0) (v := .ref (A 3)) (C := RJh) (T := TJh) (N := 4) hx hb hj iJh hown hJ.1 hJ.2.1 0 rfl rfl 2 (by decide) (hj _ jw_182) (fun _ h9 => h9) rfl dJh_generator_40 ?_
      refine lv_iload_n hx hb dJh_generator_43 rfl (lv_at hl 1 rfl) ?_
      obtain ⟨q4, hq4, h⟩ := jbi_h h
      refine jcalli (w' := fun B => jW cA A B q4.2.1 q4.2.2) (va_runV (As := [.int x1]) (rest := []) ⟨hx, hb, hml, hown, hts⟩ (cQu_addGenerator l dC dI cA A x1 M F B H.size hq4) (cwV 1 hts (jgoodV jw_341 jw_342 jw_343 jw_4 jw_344) rfl rfl rfl (by decide +kernel) ⟨Nat.le_of_ble_eq_true rfl, Nat.le_of_ble_eq_true rfl⟩) (jpreV hN hJ (ci := 3) (q0 := 3) rfl rfl) rfl rfl hl.1 rfl (lv_room (Nat.le_of_ble_eq_true rfl)) dJh_generator_44 ⟨Nat.zero_le _, Nat.zero_le _⟩) hA hJ (fun B5 H locs hJ => ?_)
      cases h
      exact jreti (u := B5) hx hb hr rfl hlocks hJ dJh_generator_47 rfl
    · replace h := jif_f c3 h
      exact (jk_no h).elim
  · replace h := jif_t c2 h
    exact (jk_no h).elim
set_option maxHeartbeats 4000000 in
set_option maxRecDepth 100000 in
theorem cJh_generator (l : Launch) (dC : Nat → ClassId) (dI : Nat → Nat → Nat) (cA : ClassId) (A : Nat → Nat) (x1 : Int32) (M : jM) (F : jF) (B : Nat → Nat) (sz : Nat) {r : Int32} {M' : jM} {F' : jF} (h : fJh_generator x1 M F = some (0, r, M', F')) : jCi l yJh_generator wJh_generator rJh_generator (dC, dI) jCl [(cA, .int)] [.ref (A 0), .int x1] (jW cA A B M F) sz r (fun B => jW cA A B (M') (F')) :=
  jOf (Qc := fun Ap => va_Qi (fun q (_ : Nat → Nat) => q = r) (jPost (dC, dI) jCl [(cA, .int)] (fun B => jW cA A B (M') (F')) Ap) Ap) (by decide) rfl (Nat.le_of_ble_eq_true rfl) (fun p e s m below meth c Ap ls hC hA hJ hl => uJh_generator_0 l dC dI cA A Ap hC hA _ _ _ _ _ _ _ hJ (lv_sub hl [0, 1] rfl) h)
set_option maxHeartbeats 4000000 in
set_option maxRecDepth 100000 in
theorem uxJh_generator_0 {p : Program} {e : Env} {s : State} {m : MethodId} {args : Array Value} {below : List Frame} {meth : Method} {c : Code} (l : Launch) (dC : Nat → ClassId) (dI : Nat → Nat → Nat) (cA : ClassId) (A : Nat → Nat) (Ap : Nat → Prop) (hX : jAtX l Ap s c) (hC : jAt p s m args meth c bJh_generator 2 (some .int) wJh_generator RJh) (hA : ∀ q : Nat, s.heap.size ≤ q → Ap q) {k : Nat} (hk : ¬ k = 0) {r : Int32} {M' : jM} {F' : jF} : ∀ (x1 : Int32) (M : jM) (F : jF) (B : Nat → Nat) (H : Heap) (locs : List Loc) (ls : Array Slot), jH (dC, dI) jCl [(cA, .int)] (jW cA A B M F) Ap s H locs → lv_has ls 2 [(0, .ref (A 0)), (1, .int x1)] → fJh_generator_0 x1 M F = some (k, r, M', F') → W p l e (headSpec wJh_generator rxJh_generator).room s m args below meth c H locs 0 0 (jQx below (dC, dI) jCl [(cA, .int)] (fun B => jW cA A B (M') (F')) Ap args s k) (F0 m 0 ls []) := by
  obtain ⟨hx, hb, hml, hr, hts, hown, hlocks, hN⟩ := id hC
  have hj : ∀ w ∈ jw, w.before args s = true := fun w h => hts w (List.mem_cons_of_mem _ h)
  intro x1 M F B H locs ls hJ hl h
  unfold fJh_generator_0 at h
  refine lv_iload_n hx hb dJh_generator_0 rfl (lv_at hl 1 rfl) ?_
  obtain ⟨q1, hq1, h⟩ := jbi_h h
  refine jcalli (w' := fun B => jW cA A B M F) (va_runS (As := [.int x1]) (rest := []) ⟨hx, hb, hml, hown, hts⟩ (cJh_isTable l dC dI cA A x1 M F B H.size hq1) (va_cwS 1 hts (jgoodS jw_213 jw_214 jw_1 jw_215) rfl rfl rfl (by decide +kernel) ⟨Nat.le_of_ble_eq_true rfl, Nat.le_of_ble_eq_true rfl⟩) (jpreS hN hJ) rfl rfl hl.1 rfl (lv_room (Nat.le_of_ble_eq_true rfl)) dJh_generator_1 ⟨Nat.zero_le _, Nat.zero_le _⟩) hA hJ (fun B H locs hJ => ?_)
  refine lv_if_ne (tgt := 17) hx hb dJh_generator_4 (by decide) (fun c2 => ?_) (fun c2 => ?_)
  · replace h := jif_f c2 h
    refine lv_aload_n hx hb dJh_generator_17 rfl (lv_at hl 0 rfl) ?_
    refine va_get (D := (dC, dI)) (ci := 0) (v := .ref (A 3)) (C := RJh) (T := TJh) (N := 4) hx hb hj iJh hown hJ.1 hJ.2.1 0 rfl rfl 2 (by decide) (hj _ jw_182) (fun _ h9 => h9) rfl dJh_generator_18 ?_
    refine va_getN (D := (dC, dI)) (ci := 3) (v := .int (F 0)) (C := RQu) (T := TQu) (N := 10) hx hb hj iQu hown hJ.1 hJ.2.1 3 rfl rfl 8 (by decide) (jnw_use hN jnw_8) (fun _ h9 => h9) rfl dJh_generator_21 ?_
    refine lv_bipush (v := 6) hx hb dJh_generator_24 (by decide) ?_
    refine lv_icmp_lt (tgt := 39) hx hb dJh_generator_26 (by decide) (fun c3 => ?_) (fun c3 => ?_)
    · replace h := jif_t c3 h
      refine lv_aload_n hx hb dJh_generator_39 rfl (lv_at hl 0 rfl) ?_
      refine va_get (D := (dC, dI)) (ci := 0) (v := .ref (A 3)) (C := RJh) (T := TJh) (N := 4) hx hb hj iJh hown hJ.1 hJ.2.1 0 rfl rfl 2 (by decide) (hj _ jw_182) (fun _ h9 => h9) rfl dJh_generator_40 ?_
      refine lv_iload_n hx hb dJh_generator_43 rfl (lv_at hl 1 rfl) ?_
      obtain ⟨q4, hq4, h⟩ := jbi_h h
      refine jcalli (w' := fun B => jW cA A B q4.2.1 q4.2.2) (va_runV (As := [.int x1]) (rest := []) ⟨hx, hb, hml, hown, hts⟩ (cQu_addGenerator l dC dI cA A x1 M F B H.size hq4) (cwV 1 hts (jgoodV jw_341 jw_342 jw_343 jw_4 jw_344) rfl rfl rfl (by decide +kernel) ⟨Nat.le_of_ble_eq_true rfl, Nat.le_of_ble_eq_true rfl⟩) (jpreV hN hJ (ci := 3) (q0 := 3) rfl rfl) rfl rfl hl.1 rfl (lv_room (Nat.le_of_ble_eq_true rfl)) dJh_generator_44 ⟨Nat.zero_le _, Nat.zero_le _⟩) hA hJ (fun B5 H locs hJ => ?_)
      exact (jk_no3 hk h.symm).elim
    · replace h := jif_f c3 h
      cases h
      exact jthrow_2 (text := "there are six generators") (u := B) hx hb hml hown hj hX hlocks hl.1 hJ (by decide) dJh_generator_29 dJh_generator_32 dJh_generator_33 dJh_generator_35 dJh_generator_38 (Nat.le_of_ble_eq_true rfl) (Nat.le_of_ble_eq_true rfl) (Nat.le_of_ble_eq_true rfl) (Nat.le_of_ble_eq_true rfl)
  · replace h := jif_t c2 h
    cases h
    exact jthrow_1 (text := "no such table") (u := B) hx hb hml hown hj hX hlocks hl.1 hJ (by decide) dJh_generator_7 dJh_generator_10 dJh_generator_11 dJh_generator_13 dJh_generator_16 (Nat.le_of_ble_eq_true rfl) (Nat.le_of_ble_eq_true rfl) (Nat.le_of_ble_eq_true rfl) (Nat.le_of_ble_eq_true rfl)
set_option maxHeartbeats 4000000 in
set_option maxRecDepth 100000 in
theorem cxJh_generator (l : Launch) (dC : Nat → ClassId) (dI : Nat → Nat → Nat) (cA : ClassId) (A : Nat → Nat) (hl0 : l.stackTraces = false) (x1 : Int32) (M : jM) (F : jF) (B : Nat → Nat) (sz : Nat) {k : Nat} (hk : ¬ k = 0) {r : Int32} {M' : jM} {F' : jF} (h : fJh_generator x1 M F = some (k, r, M', F')) : jCx l yJh_generator wJh_generator rxJh_generator (dC, dI) jCl [(cA, .int)] [.ref (A 0), .int x1] (jW cA A B M F) sz k (fun B => jW cA A B (M') (F')) :=
  jOfX hl0 (by decide) rfl (Nat.le_of_ble_eq_true rfl) (fun p e s m below meth c Ap ls hC hX hA hJ hl => uxJh_generator_0 l dC dI cA A Ap hX hC hA hk _ _ _ _ _ _ _ hJ (lv_sub hl [0, 1] rfl) h)
abbrev bJh_checkSide : ByteArray := prog_1_method_15_code
abbrev yJh_checkSide : MethodName := ⟨RJh, "checkSide", "(II)V"⟩
abbrev wJh_checkSide : List Cond := .code yJh_checkSide bJh_checkSide 3 none :: jw
theorem dJh_checkSide_0 : decode bJh_checkSide 0 = .ok (.iload_n 1, 1) := by decide +kernel
theorem dJh_checkSide_1 : decode bJh_checkSide 1 = .ok (.ifCond .lt 14, 3) := by decide +kernel
theorem dJh_checkSide_4 : decode bJh_checkSide 4 = .ok (.iload_n 1, 1) := by decide +kernel
theorem dJh_checkSide_5 : decode bJh_checkSide 5 = .ok (.aload_n 0, 1) := by decide +kernel
theorem dJh_checkSide_6 : decode bJh_checkSide 6 = .ok (.getfield 27, 3) := by decide +kernel
theorem dJh_checkSide_9 : decode bJh_checkSide 9 = .ok (.getfield 69, 3) := by decide +kernel
theorem dJh_checkSide_12 : decode bJh_checkSide 12 = .ok (.if_icmp .lt 13, 3) := by decide +kernel
theorem dJh_checkSide_15 : decode bJh_checkSide 15 = .ok (.new 39, 3) := by decide +kernel
theorem dJh_checkSide_18 : decode bJh_checkSide 18 = .ok (.dup, 1) := by decide +kernel
theorem dJh_checkSide_19 : decode bJh_checkSide 19 = .ok (.ldc 133, 2) := by decide +kernel
theorem dJh_checkSide_21 : decode bJh_checkSide 21 = .ok (.invokespecial 43, 3) := by decide +kernel
theorem dJh_checkSide_24 : decode bJh_checkSide 24 = .ok (.athrow, 1) := by decide +kernel
theorem dJh_checkSide_25 : decode bJh_checkSide 25 = .ok (.iload_n 2, 1) := by decide +kernel
theorem dJh_checkSide_26 : decode bJh_checkSide 26 = .ok (.ifCond .lt 8, 3) := by decide +kernel
theorem dJh_checkSide_29 : decode bJh_checkSide 29 = .ok (.iload_n 2, 1) := by decide +kernel
theorem dJh_checkSide_30 : decode bJh_checkSide 30 = .ok (.iconst 4, 1) := by decide +kernel
theorem dJh_checkSide_31 : decode bJh_checkSide 31 = .ok (.if_icmp .lt 13, 3) := by decide +kernel
theorem dJh_checkSide_34 : decode bJh_checkSide 34 = .ok (.new 39, 3) := by decide +kernel
theorem dJh_checkSide_37 : decode bJh_checkSide 37 = .ok (.dup, 1) := by decide +kernel
theorem dJh_checkSide_38 : decode bJh_checkSide 38 = .ok (.ldc 46, 2) := by decide +kernel
theorem dJh_checkSide_40 : decode bJh_checkSide 40 = .ok (.invokespecial 43, 3) := by decide +kernel
theorem dJh_checkSide_43 : decode bJh_checkSide 43 = .ok (.athrow, 1) := by decide +kernel
theorem dJh_checkSide_44 : decode bJh_checkSide 44 = .ok (.return_, 1) := by decide +kernel
abbrev rJh_checkSide : Room := { frames := 0, cells := 0, slots := 0, locals := 0 }
abbrev rxJh_checkSide : Room := { frames := 6, cells := 1, slots := 6, locals := 90 }
def fJh_checkSide_15 (M : jM) (F : jF) : Option (Nat × Int32 × jM × jF) := some (1, 0, M, F)
def fJh_checkSide_34 (M : jM) (F : jF) : Option (Nat × Int32 × jM × jF) := some (1, 0, M, F)
def fJh_checkSide_0 (x1 : Int32) (x2 : Int32) (M : jM) (F : jF) : Option (Nat × Int32 × jM × jF) := (if x1 < 0 then fJh_checkSide_15  M F else (if x1 < (F 0) then (if x2 < 0 then fJh_checkSide_34  M F else (if x2 < 4 then some (0, 0, M, F) else fJh_checkSide_34  M F)) else fJh_checkSide_15  M F))
abbrev fJh_checkSide (x1 : Int32) (x2 : Int32) (M : jM) (F : jF) : Option (Nat × Int32 × jM × jF) := fJh_checkSide_0 x1 x2 M F
set_option maxHeartbeats 4000000 in
set_option maxRecDepth 100000 in
theorem uJh_checkSide_15 {p : Program} {e : Env} {s : State} {m : MethodId} {args : Array Value} {below : List Frame} {meth : Method} {c : Code} (l : Launch) (dC : Nat → ClassId) (dI : Nat → Nat → Nat) (cA : ClassId) (A : Nat → Nat) (Ap : Nat → Prop) (hC : jAt p s m args meth c bJh_checkSide 3 none wJh_checkSide RJh) (hA : ∀ q : Nat, s.heap.size ≤ q → Ap q) {r : Int32} {M' : jM} {F' : jF} : ∀ (M : jM) (F : jF) (B : Nat → Nat) (H : Heap) (locs : List Loc) (ls : Array Slot), jH (dC, dI) jCl [(cA, .int)] (jW cA A B M F) Ap s H locs → lv_has ls 3 [] → fJh_checkSide_15 M F = some (0, r, M', F') → W p l e (headSpec wJh_checkSide rJh_checkSide).room s m args below meth c H locs 0 0 (jQv below (dC, dI) jCl [(cA, .int)] (fun B => jW cA A B (M') (F')) Ap args s) (F0 m 15 ls []) := by
  obtain ⟨hx, hb, hml, hr, hts, hown, hlocks, hN⟩ := id hC
  have hj : ∀ w ∈ jw, w.before args s = true := fun w h => hts w (List.mem_cons_of_mem _ h)
  intro  M F B H locs ls hJ hl h
  unfold fJh_checkSide_15 at h
  exact (jk_no h).elim
set_option maxHeartbeats 4000000 in
set_option maxRecDepth 100000 in
theorem uJh_checkSide_34 {p : Program} {e : Env} {s : State} {m : MethodId} {args : Array Value} {below : List Frame} {meth : Method} {c : Code} (l : Launch) (dC : Nat → ClassId) (dI : Nat → Nat → Nat) (cA : ClassId) (A : Nat → Nat) (Ap : Nat → Prop) (hC : jAt p s m args meth c bJh_checkSide 3 none wJh_checkSide RJh) (hA : ∀ q : Nat, s.heap.size ≤ q → Ap q) {r : Int32} {M' : jM} {F' : jF} : ∀ (M : jM) (F : jF) (B : Nat → Nat) (H : Heap) (locs : List Loc) (ls : Array Slot), jH (dC, dI) jCl [(cA, .int)] (jW cA A B M F) Ap s H locs → lv_has ls 3 [] → fJh_checkSide_34 M F = some (0, r, M', F') → W p l e (headSpec wJh_checkSide rJh_checkSide).room s m args below meth c H locs 0 0 (jQv below (dC, dI) jCl [(cA, .int)] (fun B => jW cA A B (M') (F')) Ap args s) (F0 m 34 ls []) := by
  obtain ⟨hx, hb, hml, hr, hts, hown, hlocks, hN⟩ := id hC
  have hj : ∀ w ∈ jw, w.before args s = true := fun w h => hts w (List.mem_cons_of_mem _ h)
  intro  M F B H locs ls hJ hl h
  unfold fJh_checkSide_34 at h
  exact (jk_no h).elim
set_option maxHeartbeats 4000000 in
set_option maxRecDepth 100000 in
theorem uJh_checkSide_0 {p : Program} {e : Env} {s : State} {m : MethodId} {args : Array Value} {below : List Frame} {meth : Method} {c : Code} (l : Launch) (dC : Nat → ClassId) (dI : Nat → Nat → Nat) (cA : ClassId) (A : Nat → Nat) (Ap : Nat → Prop) (hC : jAt p s m args meth c bJh_checkSide 3 none wJh_checkSide RJh) (hA : ∀ q : Nat, s.heap.size ≤ q → Ap q) {r : Int32} {M' : jM} {F' : jF} : ∀ (x1 x2 : Int32) (M : jM) (F : jF) (B : Nat → Nat) (H : Heap) (locs : List Loc) (ls : Array Slot), jH (dC, dI) jCl [(cA, .int)] (jW cA A B M F) Ap s H locs → lv_has ls 3 [(0, .ref (A 0)), (1, .int x1), (2, .int x2)] → fJh_checkSide_0 x1 x2 M F = some (0, r, M', F') → W p l e (headSpec wJh_checkSide rJh_checkSide).room s m args below meth c H locs 0 0 (jQv below (dC, dI) jCl [(cA, .int)] (fun B => jW cA A B (M') (F')) Ap args s) (F0 m 0 ls []) := by
  obtain ⟨hx, hb, hml, hr, hts, hown, hlocks, hN⟩ := id hC
  have hj : ∀ w ∈ jw, w.before args s = true := fun w h => hts w (List.mem_cons_of_mem _ h)
  intro x1 x2 M F B H locs ls hJ hl h
  unfold fJh_checkSide_0 at h
  refine lv_iload_n hx hb dJh_checkSide_0 rfl (lv_at hl 1 rfl) ?_
  refine lv_if_lt (tgt := 15) hx hb dJh_checkSide_1 (by decide) (fun c1 => ?_) (fun c1 => ?_)
  · replace h := jif_t c1 h
    exact uJh_checkSide_15 l dC dI cA A Ap hC hA _ _ _ _ _ _ hJ (lv_sub hl [] rfl) h
  · replace h := jif_f c1 h
    refine lv_iload_n hx hb dJh_checkSide_4 rfl (lv_at hl 1 rfl) ?_
    refine lv_aload_n hx hb dJh_checkSide_5 rfl (lv_at hl 0 rfl) ?_
    refine va_get (D := (dC, dI)) (ci := 0) (v := .ref (A 3)) (C := RJh) (T := TJh) (N := 4) hx hb hj iJh hown hJ.1 hJ.2.1 0 rfl rfl 2 (by decide) (hj _ jw_182) (fun _ h9 => h9) rfl dJh_checkSide_6 ?_
    refine va_getN (D := (dC, dI)) (ci := 3) (v := .int (F 0)) (C := RQu) (T := TQu) (N := 10) hx hb hj iQu hown hJ.1 hJ.2.1 3 rfl rfl 8 (by decide) (jnw_use hN jnw_8) (fun _ h9 => h9) rfl dJh_checkSide_9 ?_
    refine lv_icmp_lt (tgt := 25) hx hb dJh_checkSide_12 (by decide) (fun c2 => ?_) (fun c2 => ?_)
    · replace h := jif_t c2 h
      refine lv_iload_n hx hb dJh_checkSide_25 rfl (lv_at hl 2 rfl) ?_
      refine lv_if_lt (tgt := 34) hx hb dJh_checkSide_26 (by decide) (fun c3 => ?_) (fun c3 => ?_)
      · replace h := jif_t c3 h
        exact uJh_checkSide_34 l dC dI cA A Ap hC hA _ _ _ _ _ _ hJ (lv_sub hl [] rfl) h
      · replace h := jif_f c3 h
        refine lv_iload_n hx hb dJh_checkSide_29 rfl (lv_at hl 2 rfl) ?_
        refine lv_iconst (v := 4) hx hb dJh_checkSide_30 (by decide) ?_
        refine lv_icmp_lt (tgt := 44) hx hb dJh_checkSide_31 (by decide) (fun c4 => ?_) (fun c4 => ?_)
        · replace h := jif_t c4 h
          cases h
          exact jretv (u := B) hx hb hr hlocks hJ dJh_checkSide_44
        · replace h := jif_f c4 h
          exact uJh_checkSide_34 l dC dI cA A Ap hC hA _ _ _ _ _ _ hJ (lv_sub hl [] rfl) h
    · replace h := jif_f c2 h
      exact uJh_checkSide_15 l dC dI cA A Ap hC hA _ _ _ _ _ _ hJ (lv_sub hl [] rfl) h
set_option maxHeartbeats 4000000 in
set_option maxRecDepth 100000 in
theorem cJh_checkSide (l : Launch) (dC : Nat → ClassId) (dI : Nat → Nat → Nat) (cA : ClassId) (A : Nat → Nat) (x1 : Int32) (x2 : Int32) (M : jM) (F : jF) (B : Nat → Nat) (sz : Nat) {r : Int32} {M' : jM} {F' : jF} (h : fJh_checkSide x1 x2 M F = some (0, r, M', F')) : jCv l yJh_checkSide wJh_checkSide rJh_checkSide (dC, dI) jCl [(cA, .int)] [.ref (A 0), .int x1, .int x2] (jW cA A B M F) sz (fun B => jW cA A B (M') (F')) :=
  jOf (Qc := fun Ap => va_Qv (fun _ : Nat → Nat => True) (jPost (dC, dI) jCl [(cA, .int)] (fun B => jW cA A B (M') (F')) Ap) Ap) (by decide) rfl (Nat.le_of_ble_eq_true rfl) (fun p e s m below meth c Ap ls hC hA hJ hl => uJh_checkSide_0 l dC dI cA A Ap hC hA _ _ _ _ _ _ _ _ hJ (lv_sub hl [0, 1, 2] rfl) h)
set_option maxHeartbeats 4000000 in
set_option maxRecDepth 100000 in
theorem uxJh_checkSide_15 {p : Program} {e : Env} {s : State} {m : MethodId} {args : Array Value} {below : List Frame} {meth : Method} {c : Code} (l : Launch) (dC : Nat → ClassId) (dI : Nat → Nat → Nat) (cA : ClassId) (A : Nat → Nat) (Ap : Nat → Prop) (hX : jAtX l Ap s c) (hC : jAt p s m args meth c bJh_checkSide 3 none wJh_checkSide RJh) (hA : ∀ q : Nat, s.heap.size ≤ q → Ap q) {k : Nat} (hk : ¬ k = 0) {r : Int32} {M' : jM} {F' : jF} : ∀ (M : jM) (F : jF) (B : Nat → Nat) (H : Heap) (locs : List Loc) (ls : Array Slot), jH (dC, dI) jCl [(cA, .int)] (jW cA A B M F) Ap s H locs → lv_has ls 3 [] → fJh_checkSide_15 M F = some (k, r, M', F') → W p l e (headSpec wJh_checkSide rxJh_checkSide).room s m args below meth c H locs 0 0 (jQx below (dC, dI) jCl [(cA, .int)] (fun B => jW cA A B (M') (F')) Ap args s k) (F0 m 15 ls []) := by
  obtain ⟨hx, hb, hml, hr, hts, hown, hlocks, hN⟩ := id hC
  have hj : ∀ w ∈ jw, w.before args s = true := fun w h => hts w (List.mem_cons_of_mem _ h)
  intro  M F B H locs ls hJ hl h
  unfold fJh_checkSide_15 at h
  cases h
  exact jthrow_1 (text := "no such generator") (u := B) hx hb hml hown hj hX hlocks hl.1 hJ (by decide) dJh_checkSide_15 dJh_checkSide_18 dJh_checkSide_19 dJh_checkSide_21 dJh_checkSide_24 (Nat.le_of_ble_eq_true rfl) (Nat.le_of_ble_eq_true rfl) (Nat.le_of_ble_eq_true rfl) (Nat.le_of_ble_eq_true rfl)
set_option maxHeartbeats 4000000 in
set_option maxRecDepth 100000 in
theorem uxJh_checkSide_34 {p : Program} {e : Env} {s : State} {m : MethodId} {args : Array Value} {below : List Frame} {meth : Method} {c : Code} (l : Launch) (dC : Nat → ClassId) (dI : Nat → Nat → Nat) (cA : ClassId) (A : Nat → Nat) (Ap : Nat → Prop) (hX : jAtX l Ap s c) (hC : jAt p s m args meth c bJh_checkSide 3 none wJh_checkSide RJh) (hA : ∀ q : Nat, s.heap.size ≤ q → Ap q) {k : Nat} (hk : ¬ k = 0) {r : Int32} {M' : jM} {F' : jF} : ∀ (M : jM) (F : jF) (B : Nat → Nat) (H : Heap) (locs : List Loc) (ls : Array Slot), jH (dC, dI) jCl [(cA, .int)] (jW cA A B M F) Ap s H locs → lv_has ls 3 [] → fJh_checkSide_34 M F = some (k, r, M', F') → W p l e (headSpec wJh_checkSide rxJh_checkSide).room s m args below meth c H locs 0 0 (jQx below (dC, dI) jCl [(cA, .int)] (fun B => jW cA A B (M') (F')) Ap args s k) (F0 m 34 ls []) := by
  obtain ⟨hx, hb, hml, hr, hts, hown, hlocks, hN⟩ := id hC
  have hj : ∀ w ∈ jw, w.before args s = true := fun w h => hts w (List.mem_cons_of_mem _ h)
  intro  M F B H locs ls hJ hl h
  unfold fJh_checkSide_34 at h
  cases h
  exact jthrow_1 (text := "no such column") (u := B) hx hb hml hown hj hX hlocks hl.1 hJ (by decide) dJh_checkSide_34 dJh_checkSide_37 dJh_checkSide_38 dJh_checkSide_40 dJh_checkSide_43 (Nat.le_of_ble_eq_true rfl) (Nat.le_of_ble_eq_true rfl) (Nat.le_of_ble_eq_true rfl) (Nat.le_of_ble_eq_true rfl)
set_option maxHeartbeats 4000000 in
set_option maxRecDepth 100000 in
theorem uxJh_checkSide_0 {p : Program} {e : Env} {s : State} {m : MethodId} {args : Array Value} {below : List Frame} {meth : Method} {c : Code} (l : Launch) (dC : Nat → ClassId) (dI : Nat → Nat → Nat) (cA : ClassId) (A : Nat → Nat) (Ap : Nat → Prop) (hX : jAtX l Ap s c) (hC : jAt p s m args meth c bJh_checkSide 3 none wJh_checkSide RJh) (hA : ∀ q : Nat, s.heap.size ≤ q → Ap q) {k : Nat} (hk : ¬ k = 0) {r : Int32} {M' : jM} {F' : jF} : ∀ (x1 x2 : Int32) (M : jM) (F : jF) (B : Nat → Nat) (H : Heap) (locs : List Loc) (ls : Array Slot), jH (dC, dI) jCl [(cA, .int)] (jW cA A B M F) Ap s H locs → lv_has ls 3 [(0, .ref (A 0)), (1, .int x1), (2, .int x2)] → fJh_checkSide_0 x1 x2 M F = some (k, r, M', F') → W p l e (headSpec wJh_checkSide rxJh_checkSide).room s m args below meth c H locs 0 0 (jQx below (dC, dI) jCl [(cA, .int)] (fun B => jW cA A B (M') (F')) Ap args s k) (F0 m 0 ls []) := by
  obtain ⟨hx, hb, hml, hr, hts, hown, hlocks, hN⟩ := id hC
  have hj : ∀ w ∈ jw, w.before args s = true := fun w h => hts w (List.mem_cons_of_mem _ h)
  intro x1 x2 M F B H locs ls hJ hl h
  unfold fJh_checkSide_0 at h
  refine lv_iload_n hx hb dJh_checkSide_0 rfl (lv_at hl 1 rfl) ?_
  refine lv_if_lt (tgt := 15) hx hb dJh_checkSide_1 (by decide) (fun c1 => ?_) (fun c1 => ?_)
  · replace h := jif_t c1 h
    exact uxJh_checkSide_15 l dC dI cA A Ap hX hC hA hk _ _ _ _ _ _ hJ (lv_sub hl [] rfl) h
  · replace h := jif_f c1 h
    refine lv_iload_n hx hb dJh_checkSide_4 rfl (lv_at hl 1 rfl) ?_
    refine lv_aload_n hx hb dJh_checkSide_5 rfl (lv_at hl 0 rfl) ?_
    refine va_get (D := (dC, dI)) (ci := 0) (v := .ref (A 3)) (C := RJh) (T := TJh) (N := 4) hx hb hj iJh hown hJ.1 hJ.2.1 0 rfl rfl 2 (by decide) (hj _ jw_182) (fun _ h9 => h9) rfl dJh_checkSide_6 ?_
    refine va_getN (D := (dC, dI)) (ci := 3) (v := .int (F 0)) (C := RQu) (T := TQu) (N := 10) hx hb hj iQu hown hJ.1 hJ.2.1 3 rfl rfl 8 (by decide) (jnw_use hN jnw_8) (fun _ h9 => h9) rfl dJh_checkSide_9 ?_
    refine lv_icmp_lt (tgt := 25) hx hb dJh_checkSide_12 (by decide) (fun c2 => ?_) (fun c2 => ?_)
    · replace h := jif_t c2 h
      refine lv_iload_n hx hb dJh_checkSide_25 rfl (lv_at hl 2 rfl) ?_
      refine lv_if_lt (tgt := 34) hx hb dJh_checkSide_26 (by decide) (fun c3 => ?_) (fun c3 => ?_)
      · replace h := jif_t c3 h
        exact uxJh_checkSide_34 l dC dI cA A Ap hX hC hA hk _ _ _ _ _ _ hJ (lv_sub hl [] rfl) h
      · replace h := jif_f c3 h
        refine lv_iload_n hx hb dJh_checkSide_29 rfl (lv_at hl 2 rfl) ?_
        refine lv_iconst (v := 4) hx hb dJh_checkSide_30 (by decide) ?_
        refine lv_icmp_lt (tgt := 44) hx hb dJh_checkSide_31 (by decide) (fun c4 => ?_) (fun c4 => ?_)
        · replace h := jif_t c4 h
          exact (jk_no3 hk h.symm).elim
        · replace h := jif_f c4 h
          exact uxJh_checkSide_34 l dC dI cA A Ap hX hC hA hk _ _ _ _ _ _ hJ (lv_sub hl [] rfl) h
    · replace h := jif_f c2 h
      exact uxJh_checkSide_15 l dC dI cA A Ap hX hC hA hk _ _ _ _ _ _ hJ (lv_sub hl [] rfl) h
set_option maxHeartbeats 4000000 in
set_option maxRecDepth 100000 in
theorem cxJh_checkSide (l : Launch) (dC : Nat → ClassId) (dI : Nat → Nat → Nat) (cA : ClassId) (A : Nat → Nat) (hl0 : l.stackTraces = false) (x1 : Int32) (x2 : Int32) (M : jM) (F : jF) (B : Nat → Nat) (sz : Nat) {k : Nat} (hk : ¬ k = 0) {r : Int32} {M' : jM} {F' : jF} (h : fJh_checkSide x1 x2 M F = some (k, r, M', F')) : jCx l yJh_checkSide wJh_checkSide rxJh_checkSide (dC, dI) jCl [(cA, .int)] [.ref (A 0), .int x1, .int x2] (jW cA A B M F) sz k (fun B => jW cA A B (M') (F')) :=
  jOfX hl0 (by decide) rfl (Nat.le_of_ble_eq_true rfl) (fun p e s m below meth c Ap ls hC hX hA hJ hl => uxJh_checkSide_0 l dC dI cA A Ap hX hC hA hk _ _ _ _ _ _ _ _ hJ (lv_sub hl [0, 1, 2] rfl) h)
abbrev bJh_checkConditionsLeft : ByteArray := prog_1_method_16_code
abbrev yJh_checkConditionsLeft : MethodName := ⟨RJh, "checkConditionsLeft", "()V"⟩
abbrev wJh_checkConditionsLeft : List Cond := .code yJh_checkConditionsLeft bJh_checkConditionsLeft 1 none :: jw
theorem dJh_checkConditionsLeft_0 : decode bJh_checkConditionsLeft 0 = .ok (.aload_n 0, 1) := by decide +kernel
theorem dJh_checkConditionsLeft_1 : decode bJh_checkConditionsLeft 1 = .ok (.getfield 27, 3) := by decide +kernel
theorem dJh_checkConditionsLeft_4 : decode bJh_checkConditionsLeft 4 = .ok (.getfield 135, 3) := by decide +kernel
theorem dJh_checkConditionsLeft_7 : decode bJh_checkConditionsLeft 7 = .ok (.bipush 12, 2) := by decide +kernel
theorem dJh_checkConditionsLeft_9 : decode bJh_checkConditionsLeft 9 = .ok (.if_icmp .lt 13, 3) := by decide +kernel
theorem dJh_checkConditionsLeft_12 : decode bJh_checkConditionsLeft 12 = .ok (.new 58, 3) := by decide +kernel
theorem dJh_checkConditionsLeft_15 : decode bJh_checkConditionsLeft 15 = .ok (.dup, 1) := by decide +kernel
theorem dJh_checkConditionsLeft_16 : decode bJh_checkConditionsLeft 16 = .ok (.ldc 138, 2) := by decide +kernel
theorem dJh_checkConditionsLeft_18 : decode bJh_checkConditionsLeft 18 = .ok (.invokespecial 62, 3) := by decide +kernel
theorem dJh_checkConditionsLeft_21 : decode bJh_checkConditionsLeft 21 = .ok (.athrow, 1) := by decide +kernel
theorem dJh_checkConditionsLeft_22 : decode bJh_checkConditionsLeft 22 = .ok (.return_, 1) := by decide +kernel
abbrev rJh_checkConditionsLeft : Room := { frames := 0, cells := 0, slots := 0, locals := 0 }
abbrev rxJh_checkConditionsLeft : Room := { frames := 6, cells := 1, slots := 6, locals := 90 }
def fJh_checkConditionsLeft_0 (M : jM) (F : jF) : Option (Nat × Int32 × jM × jF) := (if (F 1) < 12 then some (0, 0, M, F) else some (2, 0, M, F))
abbrev fJh_checkConditionsLeft (M : jM) (F : jF) : Option (Nat × Int32 × jM × jF) := fJh_checkConditionsLeft_0  M F
set_option maxHeartbeats 4000000 in
set_option maxRecDepth 100000 in
theorem uJh_checkConditionsLeft_0 {p : Program} {e : Env} {s : State} {m : MethodId} {args : Array Value} {below : List Frame} {meth : Method} {c : Code} (l : Launch) (dC : Nat → ClassId) (dI : Nat → Nat → Nat) (cA : ClassId) (A : Nat → Nat) (Ap : Nat → Prop) (hC : jAt p s m args meth c bJh_checkConditionsLeft 1 none wJh_checkConditionsLeft RJh) (hA : ∀ q : Nat, s.heap.size ≤ q → Ap q) {r : Int32} {M' : jM} {F' : jF} : ∀ (M : jM) (F : jF) (B : Nat → Nat) (H : Heap) (locs : List Loc) (ls : Array Slot), jH (dC, dI) jCl [(cA, .int)] (jW cA A B M F) Ap s H locs → lv_has ls 1 [(0, .ref (A 0))] → fJh_checkConditionsLeft_0 M F = some (0, r, M', F') → W p l e (headSpec wJh_checkConditionsLeft rJh_checkConditionsLeft).room s m args below meth c H locs 0 0 (jQv below (dC, dI) jCl [(cA, .int)] (fun B => jW cA A B (M') (F')) Ap args s) (F0 m 0 ls []) := by
  obtain ⟨hx, hb, hml, hr, hts, hown, hlocks, hN⟩ := id hC
  have hj : ∀ w ∈ jw, w.before args s = true := fun w h => hts w (List.mem_cons_of_mem _ h)
  intro  M F B H locs ls hJ hl h
  unfold fJh_checkConditionsLeft_0 at h
  refine lv_aload_n hx hb dJh_checkConditionsLeft_0 rfl (lv_at hl 0 rfl) ?_
  refine va_get (D := (dC, dI)) (ci := 0) (v := .ref (A 3)) (C := RJh) (T := TJh) (N := 4) hx hb hj iJh hown hJ.1 hJ.2.1 0 rfl rfl 2 (by decide) (hj _ jw_182) (fun _ h9 => h9) rfl dJh_checkConditionsLeft_1 ?_
  refine va_getN (D := (dC, dI)) (ci := 3) (v := .int (F 1)) (C := RQu) (T := TQu) (N := 10) hx hb hj iQu hown hJ.1 hJ.2.1 3 rfl rfl 9 (by decide) (jnw_use hN jnw_11) (fun _ h9 => h9) rfl dJh_checkConditionsLeft_4 ?_
  refine lv_bipush (v := 12) hx hb dJh_checkConditionsLeft_7 (by decide) ?_
  refine lv_icmp_lt (tgt := 22) hx hb dJh_checkConditionsLeft_9 (by decide) (fun c1 => ?_) (fun c1 => ?_)
  · replace h := jif_t c1 h
    cases h
    exact jretv (u := B) hx hb hr hlocks hJ dJh_checkConditionsLeft_22
  · replace h := jif_f c1 h
    exact (jk_no h).elim
set_option maxHeartbeats 4000000 in
set_option maxRecDepth 100000 in
theorem cJh_checkConditionsLeft (l : Launch) (dC : Nat → ClassId) (dI : Nat → Nat → Nat) (cA : ClassId) (A : Nat → Nat) (M : jM) (F : jF) (B : Nat → Nat) (sz : Nat) {r : Int32} {M' : jM} {F' : jF} (h : fJh_checkConditionsLeft M F = some (0, r, M', F')) : jCv l yJh_checkConditionsLeft wJh_checkConditionsLeft rJh_checkConditionsLeft (dC, dI) jCl [(cA, .int)] [.ref (A 0)] (jW cA A B M F) sz (fun B => jW cA A B (M') (F')) :=
  jOf (Qc := fun Ap => va_Qv (fun _ : Nat → Nat => True) (jPost (dC, dI) jCl [(cA, .int)] (fun B => jW cA A B (M') (F')) Ap) Ap) (by decide) rfl (Nat.le_of_ble_eq_true rfl) (fun p e s m below meth c Ap ls hC hA hJ hl => uJh_checkConditionsLeft_0 l dC dI cA A Ap hC hA _ _ _ _ _ _ hJ (lv_sub hl [0] rfl) h)
set_option maxHeartbeats 4000000 in
set_option maxRecDepth 100000 in
theorem uxJh_checkConditionsLeft_0 {p : Program} {e : Env} {s : State} {m : MethodId} {args : Array Value} {below : List Frame} {meth : Method} {c : Code} (l : Launch) (dC : Nat → ClassId) (dI : Nat → Nat → Nat) (cA : ClassId) (A : Nat → Nat) (Ap : Nat → Prop) (hX : jAtX l Ap s c) (hC : jAt p s m args meth c bJh_checkConditionsLeft 1 none wJh_checkConditionsLeft RJh) (hA : ∀ q : Nat, s.heap.size ≤ q → Ap q) {k : Nat} (hk : ¬ k = 0) {r : Int32} {M' : jM} {F' : jF} : ∀ (M : jM) (F : jF) (B : Nat → Nat) (H : Heap) (locs : List Loc) (ls : Array Slot), jH (dC, dI) jCl [(cA, .int)] (jW cA A B M F) Ap s H locs → lv_has ls 1 [(0, .ref (A 0))] → fJh_checkConditionsLeft_0 M F = some (k, r, M', F') → W p l e (headSpec wJh_checkConditionsLeft rxJh_checkConditionsLeft).room s m args below meth c H locs 0 0 (jQx below (dC, dI) jCl [(cA, .int)] (fun B => jW cA A B (M') (F')) Ap args s k) (F0 m 0 ls []) := by
  obtain ⟨hx, hb, hml, hr, hts, hown, hlocks, hN⟩ := id hC
  have hj : ∀ w ∈ jw, w.before args s = true := fun w h => hts w (List.mem_cons_of_mem _ h)
  intro  M F B H locs ls hJ hl h
  unfold fJh_checkConditionsLeft_0 at h
  refine lv_aload_n hx hb dJh_checkConditionsLeft_0 rfl (lv_at hl 0 rfl) ?_
  refine va_get (D := (dC, dI)) (ci := 0) (v := .ref (A 3)) (C := RJh) (T := TJh) (N := 4) hx hb hj iJh hown hJ.1 hJ.2.1 0 rfl rfl 2 (by decide) (hj _ jw_182) (fun _ h9 => h9) rfl dJh_checkConditionsLeft_1 ?_
  refine va_getN (D := (dC, dI)) (ci := 3) (v := .int (F 1)) (C := RQu) (T := TQu) (N := 10) hx hb hj iQu hown hJ.1 hJ.2.1 3 rfl rfl 9 (by decide) (jnw_use hN jnw_11) (fun _ h9 => h9) rfl dJh_checkConditionsLeft_4 ?_
  refine lv_bipush (v := 12) hx hb dJh_checkConditionsLeft_7 (by decide) ?_
  refine lv_icmp_lt (tgt := 22) hx hb dJh_checkConditionsLeft_9 (by decide) (fun c1 => ?_) (fun c1 => ?_)
  · replace h := jif_t c1 h
    exact (jk_no3 hk h.symm).elim
  · replace h := jif_f c1 h
    cases h
    exact jthrow_2 (text := "there are twelve conditions") (u := B) hx hb hml hown hj hX hlocks hl.1 hJ (by decide) dJh_checkConditionsLeft_12 dJh_checkConditionsLeft_15 dJh_checkConditionsLeft_16 dJh_checkConditionsLeft_18 dJh_checkConditionsLeft_21 (Nat.le_of_ble_eq_true rfl) (Nat.le_of_ble_eq_true rfl) (Nat.le_of_ble_eq_true rfl) (Nat.le_of_ble_eq_true rfl)
set_option maxHeartbeats 4000000 in
set_option maxRecDepth 100000 in
theorem cxJh_checkConditionsLeft (l : Launch) (dC : Nat → ClassId) (dI : Nat → Nat → Nat) (cA : ClassId) (A : Nat → Nat) (hl0 : l.stackTraces = false) (M : jM) (F : jF) (B : Nat → Nat) (sz : Nat) {k : Nat} (hk : ¬ k = 0) {r : Int32} {M' : jM} {F' : jF} (h : fJh_checkConditionsLeft M F = some (k, r, M', F')) : jCx l yJh_checkConditionsLeft wJh_checkConditionsLeft rxJh_checkConditionsLeft (dC, dI) jCl [(cA, .int)] [.ref (A 0)] (jW cA A B M F) sz k (fun B => jW cA A B (M') (F')) :=
  jOfX hl0 (by decide) rfl (Nat.le_of_ble_eq_true rfl) (fun p e s m below meth c Ap ls hC hX hA hJ hl => uxJh_checkConditionsLeft_0 l dC dI cA A Ap hX hC hA hk _ _ _ _ _ _ hJ (lv_sub hl [0] rfl) h)
abbrev bJh_equal : ByteArray := prog_1_method_6_code
abbrev yJh_equal : MethodName := ⟨RJh, "equal", "(IIII)I"⟩
abbrev wJh_equal : List Cond := .code yJh_equal bJh_equal 5 (some .int) :: jw
theorem dJh_equal_0 : decode bJh_equal 0 = .ok (.aload_n 0, 1) := by decide +kernel
theorem dJh_equal_1 : decode bJh_equal 1 = .ok (.iload_n 1, 1) := by decide +kernel
theorem dJh_equal_2 : decode bJh_equal 2 = .ok (.iload_n 2, 1) := by decide +kernel
theorem dJh_equal_3 : decode bJh_equal 3 = .ok (.invokevirtual 78, 3) := by decide +kernel
theorem dJh_equal_6 : decode bJh_equal 6 = .ok (.aload_n 0, 1) := by decide +kernel
theorem dJh_equal_7 : decode bJh_equal 7 = .ok (.iload_n 3, 1) := by decide +kernel
theorem dJh_equal_8 : decode bJh_equal 8 = .ok (.iload 4, 2) := by decide +kernel
theorem dJh_equal_10 : decode bJh_equal 10 = .ok (.invokevirtual 78, 3) := by decide +kernel
theorem dJh_equal_13 : decode bJh_equal 13 = .ok (.aload_n 0, 1) := by decide +kernel
theorem dJh_equal_14 : decode bJh_equal 14 = .ok (.invokevirtual 81, 3) := by decide +kernel
theorem dJh_equal_17 : decode bJh_equal 17 = .ok (.aload_n 0, 1) := by decide +kernel
theorem dJh_equal_18 : decode bJh_equal 18 = .ok (.getfield 27, 3) := by decide +kernel
theorem dJh_equal_21 : decode bJh_equal 21 = .ok (.iconst 0, 1) := by decide +kernel
theorem dJh_equal_22 : decode bJh_equal 22 = .ok (.iload_n 1, 1) := by decide +kernel
theorem dJh_equal_23 : decode bJh_equal 23 = .ok (.iload_n 2, 1) := by decide +kernel
theorem dJh_equal_24 : decode bJh_equal 24 = .ok (.iload_n 3, 1) := by decide +kernel
theorem dJh_equal_25 : decode bJh_equal 25 = .ok (.iload 4, 2) := by decide +kernel
theorem dJh_equal_27 : decode bJh_equal 27 = .ok (.invokevirtual 84, 3) := by decide +kernel
theorem dJh_equal_30 : decode bJh_equal 30 = .ok (.ireturn, 1) := by decide +kernel
abbrev rJh_equal : Room := { frames := 1, cells := 0, slots := 0, locals := 26 }
abbrev rxJh_equal : Room := { frames := 7, cells := 1, slots := 6, locals := 112 }
def fJh_equal_0 (x1 : Int32) (x2 : Int32) (x3 : Int32) (x4 : Int32) (M : jM) (F : jF) : Option (Nat × Int32 × jM × jF) := ((fJh_checkSide x1 x2 M F).bind fun q1 => if q1.1 = 0 then ((fJh_checkSide x3 x4 q1.2.2.1 q1.2.2.2).bind fun q3 => if q3.1 = 0 then ((fJh_checkConditionsLeft q3.2.2.1 q3.2.2.2).bind fun q5 => if q5.1 = 0 then ((fQu_addCondition 0 x1 x2 x3 x4 q5.2.2.1 q5.2.2.2).bind fun q7 => some (0, q7.1, q7.2.1, q7.2.2)) else some (q5.1, 0, q5.2.2.1, q5.2.2.2)) else some (q3.1, 0, q3.2.2.1, q3.2.2.2)) else some (q1.1, 0, q1.2.2.1, q1.2.2.2))
abbrev fJh_equal (x1 : Int32) (x2 : Int32) (x3 : Int32) (x4 : Int32) (M : jM) (F : jF) : Option (Nat × Int32 × jM × jF) := fJh_equal_0 x1 x2 x3 x4 M F
set_option maxHeartbeats 4000000 in
set_option maxRecDepth 100000 in
theorem uJh_equal_0 {p : Program} {e : Env} {s : State} {m : MethodId} {args : Array Value} {below : List Frame} {meth : Method} {c : Code} (l : Launch) (dC : Nat → ClassId) (dI : Nat → Nat → Nat) (cA : ClassId) (A : Nat → Nat) (Ap : Nat → Prop) (hC : jAt p s m args meth c bJh_equal 5 (some .int) wJh_equal RJh) (hA : ∀ q : Nat, s.heap.size ≤ q → Ap q) {r : Int32} {M' : jM} {F' : jF} : ∀ (x1 x2 x3 x4 : Int32) (M : jM) (F : jF) (B : Nat → Nat) (H : Heap) (locs : List Loc) (ls : Array Slot), jH (dC, dI) jCl [(cA, .int)] (jW cA A B M F) Ap s H locs → lv_has ls 5 [(0, .ref (A 0)), (1, .int x1), (2, .int x2), (3, .int x3), (4, .int x4)] → fJh_equal_0 x1 x2 x3 x4 M F = some (0, r, M', F') → W p l e (headSpec wJh_equal rJh_equal).room s m args below meth c H locs 0 0 (jQi below (dC, dI) jCl [(cA, .int)] (fun B => jW cA A B (M') (F')) Ap args s r) (F0 m 0 ls []) := by
  obtain ⟨hx, hb, hml, hr, hts, hown, hlocks, hN⟩ := id hC
  have hj : ∀ w ∈ jw, w.before args s = true := fun w h => hts w (List.mem_cons_of_mem _ h)
  intro x1 x2 x3 x4 M F B H locs ls hJ hl h
  unfold fJh_equal_0 at h
  refine lv_aload_n hx hb dJh_equal_0 rfl (lv_at hl 0 rfl) ?_
  refine lv_iload_n hx hb dJh_equal_1 rfl (lv_at hl 1 rfl) ?_
  refine lv_iload_n hx hb dJh_equal_2 rfl (lv_at hl 2 rfl) ?_
  obtain ⟨q1, hq1, h⟩ := jbi_h h
  by_cases cq1 : q1.1 = 0
  · replace h := jif_t cq1 h
    refine jcallv (w' := fun B => jW cA A B q1.2.2.1 q1.2.2.2) (va_runV (As := [.int x1, .int x2]) (rest := []) ⟨hx, hb, hml, hown, hts⟩ (cJh_checkSide l dC dI cA A x1 x2 M F B H.size (hq1.trans (congrArg some (Prod.ext cq1 rfl)))) (cwV 2 hts (jgoodV jw_352 jw_354 jws_3 jw_1 jw_355) rfl rfl rfl (by decide +kernel) ⟨Nat.le_of_ble_eq_true rfl, Nat.le_of_ble_eq_true rfl⟩) (jpreV hN hJ (ci := 0) (q0 := 0) rfl rfl) rfl rfl hl.1 rfl (lv_room (Nat.le_of_ble_eq_true rfl)) dJh_equal_3 ⟨Nat.zero_le _, Nat.zero_le _⟩) hA hJ (fun B2 H locs hJ => ?_)
    refine lv_aload_n hx hb dJh_equal_6 rfl (lv_at hl 0 rfl) ?_
    refine lv_iload_n hx hb dJh_equal_7 rfl (lv_at hl 3 rfl) ?_
    refine lv_iload hx hb dJh_equal_8 (lv_at hl 4 rfl) ?_
    obtain ⟨q3, hq3, h⟩ := jbi_h h
    by_cases cq3 : q3.1 = 0
    · replace h := jif_t cq3 h
      refine jcallv (w' := fun B => jW cA A B q3.2.2.1 q3.2.2.2) (va_runV (As := [.int x3, .int x4]) (rest := []) ⟨hx, hb, hml, hown, hts⟩ (cJh_checkSide l dC dI cA A x3 x4 q1.2.2.1 q1.2.2.2 B2 H.size (hq3.trans (congrArg some (Prod.ext cq3 rfl)))) (cwV 2 hts (jgoodV jw_352 jw_354 jws_3 jw_1 jw_355) rfl rfl rfl (by decide +kernel) ⟨Nat.le_of_ble_eq_true rfl, Nat.le_of_ble_eq_true rfl⟩) (jpreV hN hJ (ci := 0) (q0 := 0) rfl rfl) rfl rfl hl.1 rfl (lv_room (Nat.le_of_ble_eq_true rfl)) dJh_equal_10 ⟨Nat.zero_le _, Nat.zero_le _⟩) hA hJ (fun B4 H locs hJ => ?_)
      refine lv_aload_n hx hb dJh_equal_13 rfl (lv_at hl 0 rfl) ?_
      obtain ⟨q5, hq5, h⟩ := jbi_h h
      by_cases cq5 : q5.1 = 0
      · replace h := jif_t cq5 h
        refine jcallv (w' := fun B => jW cA A B q5.2.2.1 q5.2.2.2) (va_runV (As := []) (rest := []) ⟨hx, hb, hml, hown, hts⟩ (cJh_checkConditionsLeft l dC dI cA A q3.2.2.1 q3.2.2.2 B4 H.size (hq5.trans (congrArg some (Prod.ext cq5 rfl)))) (cwV 0 hts (jgoodV jw_357 jw_359 jws_4 jw_1 jw_360) rfl rfl rfl (by decide +kernel) ⟨Nat.le_of_ble_eq_true rfl, Nat.le_of_ble_eq_true rfl⟩) (jpreV hN hJ (ci := 0) (q0 := 0) rfl rfl) rfl rfl hl.1 rfl (lv_room (Nat.le_of_ble_eq_true rfl)) dJh_equal_14 ⟨Nat.zero_le _, Nat.zero_le _⟩) hA hJ (fun B6 H locs hJ => ?_)
        refine lv_aload_n hx hb dJh_equal_17 rfl (lv_at hl 0 rfl) ?_
        refine va_get (D := (dC, dI)) (ci := 0) (v := .ref (A 3)) (C := RJh) (T := TJh) (N := 4) hx hb hj iJh hown hJ.1 hJ.2.1 0 rfl rfl 2 (by decide) (hj _ jw_182) (fun _ h9 => h9) rfl dJh_equal_18 ?_
        refine lv_iconst (v := 0) hx hb dJh_equal_21 (by decide) ?_
        refine lv_iload_n hx hb dJh_equal_22 rfl (lv_at hl 1 rfl) ?_
        refine lv_iload_n hx hb dJh_equal_23 rfl (lv_at hl 2 rfl) ?_
        refine lv_iload_n hx hb dJh_equal_24 rfl (lv_at hl 3 rfl) ?_
        refine lv_iload hx hb dJh_equal_25 (lv_at hl 4 rfl) ?_
        obtain ⟨q7, hq7, h⟩ := jbi_h h
        refine jcalli (w' := fun B => jW cA A B q7.2.1 q7.2.2) (va_runV (As := [.int 0, .int x1, .int x2, .int x3, .int x4]) (rest := []) ⟨hx, hb, hml, hown, hts⟩ (cQu_addCondition l dC dI cA A 0 x1 x2 x3 x4 q5.2.2.1 q5.2.2.2 B6 H.size hq7) (cwV 5 hts (jgoodV jw_362 jw_363 jw_364 jw_4 jw_365) rfl rfl rfl (by decide +kernel) ⟨Nat.le_of_ble_eq_true rfl, Nat.le_of_ble_eq_true rfl⟩) (jpreV hN hJ (ci := 3) (q0 := 3) rfl rfl) rfl rfl hl.1 rfl (lv_room (Nat.le_of_ble_eq_true rfl)) dJh_equal_27 ⟨Nat.zero_le _, Nat.zero_le _⟩) hA hJ (fun B8 H locs hJ => ?_)
        cases h
        exact jreti (u := B8) hx hb hr rfl hlocks hJ dJh_equal_30 rfl
      · replace h := jif_f cq5 h
        exact (jk_no3 cq5 h).elim
    · replace h := jif_f cq3 h
      exact (jk_no3 cq3 h).elim
  · replace h := jif_f cq1 h
    exact (jk_no3 cq1 h).elim
set_option maxHeartbeats 4000000 in
set_option maxRecDepth 100000 in
theorem cJh_equal (l : Launch) (dC : Nat → ClassId) (dI : Nat → Nat → Nat) (cA : ClassId) (A : Nat → Nat) (x1 : Int32) (x2 : Int32) (x3 : Int32) (x4 : Int32) (M : jM) (F : jF) (B : Nat → Nat) (sz : Nat) {r : Int32} {M' : jM} {F' : jF} (h : fJh_equal x1 x2 x3 x4 M F = some (0, r, M', F')) : jCi l yJh_equal wJh_equal rJh_equal (dC, dI) jCl [(cA, .int)] [.ref (A 0), .int x1, .int x2, .int x3, .int x4] (jW cA A B M F) sz r (fun B => jW cA A B (M') (F')) :=
  jOf (Qc := fun Ap => va_Qi (fun q (_ : Nat → Nat) => q = r) (jPost (dC, dI) jCl [(cA, .int)] (fun B => jW cA A B (M') (F')) Ap) Ap) (by decide) rfl (Nat.le_of_ble_eq_true rfl) (fun p e s m below meth c Ap ls hC hA hJ hl => uJh_equal_0 l dC dI cA A Ap hC hA _ _ _ _ _ _ _ _ _ _ hJ (lv_sub hl [0, 1, 2, 3, 4] rfl) h)
set_option maxHeartbeats 4000000 in
set_option maxRecDepth 100000 in
theorem uxJh_equal_0 {p : Program} {e : Env} {s : State} {m : MethodId} {args : Array Value} {below : List Frame} {meth : Method} {c : Code} (l : Launch) (dC : Nat → ClassId) (dI : Nat → Nat → Nat) (cA : ClassId) (A : Nat → Nat) (Ap : Nat → Prop) (hX : jAtX l Ap s c) (hC : jAt p s m args meth c bJh_equal 5 (some .int) wJh_equal RJh) (hA : ∀ q : Nat, s.heap.size ≤ q → Ap q) {k : Nat} (hk : ¬ k = 0) {r : Int32} {M' : jM} {F' : jF} : ∀ (x1 x2 x3 x4 : Int32) (M : jM) (F : jF) (B : Nat → Nat) (H : Heap) (locs : List Loc) (ls : Array Slot), jH (dC, dI) jCl [(cA, .int)] (jW cA A B M F) Ap s H locs → lv_has ls 5 [(0, .ref (A 0)), (1, .int x1), (2, .int x2), (3, .int x3), (4, .int x4)] → fJh_equal_0 x1 x2 x3 x4 M F = some (k, r, M', F') → W p l e (headSpec wJh_equal rxJh_equal).room s m args below meth c H locs 0 0 (jQx below (dC, dI) jCl [(cA, .int)] (fun B => jW cA A B (M') (F')) Ap args s k) (F0 m 0 ls []) := by
  obtain ⟨hx, hb, hml, hr, hts, hown, hlocks, hN⟩ := id hC
  have hj : ∀ w ∈ jw, w.before args s = true := fun w h => hts w (List.mem_cons_of_mem _ h)
  intro x1 x2 x3 x4 M F B H locs ls hJ hl h
  unfold fJh_equal_0 at h
  refine lv_aload_n hx hb dJh_equal_0 rfl (lv_at hl 0 rfl) ?_
  refine lv_iload_n hx hb dJh_equal_1 rfl (lv_at hl 1 rfl) ?_
  refine lv_iload_n hx hb dJh_equal_2 rfl (lv_at hl 2 rfl) ?_
  obtain ⟨q1, hq1, h⟩ := jbi_h h
  by_cases cq1 : q1.1 = 0
  · replace h := jif_t cq1 h
    refine jcallv (w' := fun B => jW cA A B q1.2.2.1 q1.2.2.2) (va_runV (As := [.int x1, .int x2]) (rest := []) ⟨hx, hb, hml, hown, hts⟩ (cJh_checkSide l dC dI cA A x1 x2 M F B H.size (hq1.trans (congrArg some (Prod.ext cq1 rfl)))) (cwV 2 hts (jgoodV jw_352 jw_354 jws_3 jw_1 jw_355) rfl rfl rfl (by decide +kernel) ⟨Nat.le_of_ble_eq_true rfl, Nat.le_of_ble_eq_true rfl⟩) (jpreV hN hJ (ci := 0) (q0 := 0) rfl rfl) rfl rfl hl.1 rfl (lv_room (Nat.le_of_ble_eq_true rfl)) dJh_equal_3 ⟨Nat.zero_le _, Nat.zero_le _⟩) hA hJ (fun B2 H locs hJ => ?_)
    refine lv_aload_n hx hb dJh_equal_6 rfl (lv_at hl 0 rfl) ?_
    refine lv_iload_n hx hb dJh_equal_7 rfl (lv_at hl 3 rfl) ?_
    refine lv_iload hx hb dJh_equal_8 (lv_at hl 4 rfl) ?_
    obtain ⟨q3, hq3, h⟩ := jbi_h h
    by_cases cq3 : q3.1 = 0
    · replace h := jif_t cq3 h
      refine jcallv (w' := fun B => jW cA A B q3.2.2.1 q3.2.2.2) (va_runV (As := [.int x3, .int x4]) (rest := []) ⟨hx, hb, hml, hown, hts⟩ (cJh_checkSide l dC dI cA A x3 x4 q1.2.2.1 q1.2.2.2 B2 H.size (hq3.trans (congrArg some (Prod.ext cq3 rfl)))) (cwV 2 hts (jgoodV jw_352 jw_354 jws_3 jw_1 jw_355) rfl rfl rfl (by decide +kernel) ⟨Nat.le_of_ble_eq_true rfl, Nat.le_of_ble_eq_true rfl⟩) (jpreV hN hJ (ci := 0) (q0 := 0) rfl rfl) rfl rfl hl.1 rfl (lv_room (Nat.le_of_ble_eq_true rfl)) dJh_equal_10 ⟨Nat.zero_le _, Nat.zero_le _⟩) hA hJ (fun B4 H locs hJ => ?_)
      refine lv_aload_n hx hb dJh_equal_13 rfl (lv_at hl 0 rfl) ?_
      obtain ⟨q5, hq5, h⟩ := jbi_h h
      by_cases cq5 : q5.1 = 0
      · replace h := jif_t cq5 h
        refine jcallv (w' := fun B => jW cA A B q5.2.2.1 q5.2.2.2) (va_runV (As := []) (rest := []) ⟨hx, hb, hml, hown, hts⟩ (cJh_checkConditionsLeft l dC dI cA A q3.2.2.1 q3.2.2.2 B4 H.size (hq5.trans (congrArg some (Prod.ext cq5 rfl)))) (cwV 0 hts (jgoodV jw_357 jw_359 jws_4 jw_1 jw_360) rfl rfl rfl (by decide +kernel) ⟨Nat.le_of_ble_eq_true rfl, Nat.le_of_ble_eq_true rfl⟩) (jpreV hN hJ (ci := 0) (q0 := 0) rfl rfl) rfl rfl hl.1 rfl (lv_room (Nat.le_of_ble_eq_true rfl)) dJh_equal_14 ⟨Nat.zero_le _, Nat.zero_le _⟩) hA hJ (fun B6 H locs hJ => ?_)
        refine lv_aload_n hx hb dJh_equal_17 rfl (lv_at hl 0 rfl) ?_
        refine va_get (D := (dC, dI)) (ci := 0) (v := .ref (A 3)) (C := RJh) (T := TJh) (N := 4) hx hb hj iJh hown hJ.1 hJ.2.1 0 rfl rfl 2 (by decide) (hj _ jw_182) (fun _ h9 => h9) rfl dJh_equal_18 ?_
        refine lv_iconst (v := 0) hx hb dJh_equal_21 (by decide) ?_
        refine lv_iload_n hx hb dJh_equal_22 rfl (lv_at hl 1 rfl) ?_
        refine lv_iload_n hx hb dJh_equal_23 rfl (lv_at hl 2 rfl) ?_
        refine lv_iload_n hx hb dJh_equal_24 rfl (lv_at hl 3 rfl) ?_
        refine lv_iload hx hb dJh_equal_25 (lv_at hl 4 rfl) ?_
        obtain ⟨q7, hq7, h⟩ := jbi_h h
        refine jcalli (w' := fun B => jW cA A B q7.2.1 q7.2.2) (va_runV (As := [.int 0, .int x1, .int x2, .int x3, .int x4]) (rest := []) ⟨hx, hb, hml, hown, hts⟩ (cQu_addCondition l dC dI cA A 0 x1 x2 x3 x4 q5.2.2.1 q5.2.2.2 B6 H.size hq7) (cwV 5 hts (jgoodV jw_362 jw_363 jw_364 jw_4 jw_365) rfl rfl rfl (by decide +kernel) ⟨Nat.le_of_ble_eq_true rfl, Nat.le_of_ble_eq_true rfl⟩) (jpreV hN hJ (ci := 3) (q0 := 3) rfl rfl) rfl rfl hl.1 rfl (lv_room (Nat.le_of_ble_eq_true rfl)) dJh_equal_27 ⟨Nat.zero_le _, Nat.zero_le _⟩) hA hJ (fun B8 H locs hJ => ?_)
        exact (jk_no3 hk h.symm).elim
      · replace h := jif_f cq5 h
        cases h
        exact jxcall (vx_runV (As := []) (rest := []) ⟨hx, hb, hml, hown, hts⟩ (cxJh_checkConditionsLeft l dC dI cA A hX.1 q3.2.2.1 q3.2.2.2 B4 H.size cq5 hq5) (cwV 0 hts (jgoodV jw_357 jw_359 jws_4 jw_1 jw_360) rfl rfl rfl (by decide +kernel) ⟨Nat.le_of_ble_eq_true rfl, Nat.le_of_ble_eq_true rfl⟩) (jpreVX hX.2.1 hA hN hJ (ci := 0) (q0 := 0) rfl rfl) rfl rfl hl.1 rfl (lv_room (Nat.le_of_ble_eq_true rfl)) dJh_equal_14 ⟨Nat.le_of_ble_eq_true rfl, Nat.le_of_ble_eq_true rfl⟩) hA hJ hX.2.2 hlocks
    · replace h := jif_f cq3 h
      cases h
      exact jxcall (vx_runV (As := [.int x3, .int x4]) (rest := []) ⟨hx, hb, hml, hown, hts⟩ (cxJh_checkSide l dC dI cA A hX.1 x3 x4 q1.2.2.1 q1.2.2.2 B2 H.size cq3 hq3) (cwV 2 hts (jgoodV jw_352 jw_354 jws_3 jw_1 jw_355) rfl rfl rfl (by decide +kernel) ⟨Nat.le_of_ble_eq_true rfl, Nat.le_of_ble_eq_true rfl⟩) (jpreVX hX.2.1 hA hN hJ (ci := 0) (q0 := 0) rfl rfl) rfl rfl hl.1 rfl (lv_room (Nat.le_of_ble_eq_true rfl)) dJh_equal_10 ⟨Nat.le_of_ble_eq_true rfl, Nat.le_of_ble_eq_true rfl⟩) hA hJ hX.2.2 hlocks
  · replace h := jif_f cq1 h
    cases h
    exact jxcall (vx_runV (As := [.int x1, .int x2]) (rest := []) ⟨hx, hb, hml, hown, hts⟩ (cxJh_checkSide l dC dI cA A hX.1 x1 x2 M F B H.size cq1 hq1) (cwV 2 hts (jgoodV jw_352 jw_354 jws_3 jw_1 jw_355) rfl rfl rfl (by decide +kernel) ⟨Nat.le_of_ble_eq_true rfl, Nat.le_of_ble_eq_true rfl⟩) (jpreVX hX.2.1 hA hN hJ (ci := 0) (q0 := 0) rfl rfl) rfl rfl hl.1 rfl (lv_room (Nat.le_of_ble_eq_true rfl)) dJh_equal_3 ⟨Nat.le_of_ble_eq_true rfl, Nat.le_of_ble_eq_true rfl⟩) hA hJ hX.2.2 hlocks
set_option maxHeartbeats 4000000 in
set_option maxRecDepth 100000 in
theorem cxJh_equal (l : Launch) (dC : Nat → ClassId) (dI : Nat → Nat → Nat) (cA : ClassId) (A : Nat → Nat) (hl0 : l.stackTraces = false) (x1 : Int32) (x2 : Int32) (x3 : Int32) (x4 : Int32) (M : jM) (F : jF) (B : Nat → Nat) (sz : Nat) {k : Nat} (hk : ¬ k = 0) {r : Int32} {M' : jM} {F' : jF} (h : fJh_equal x1 x2 x3 x4 M F = some (k, r, M', F')) : jCx l yJh_equal wJh_equal rxJh_equal (dC, dI) jCl [(cA, .int)] [.ref (A 0), .int x1, .int x2, .int x3, .int x4] (jW cA A B M F) sz k (fun B => jW cA A B (M') (F')) :=
  jOfX hl0 (by decide) rfl (Nat.le_of_ble_eq_true rfl) (fun p e s m below meth c Ap ls hC hX hA hJ hl => uxJh_equal_0 l dC dI cA A Ap hX hC hA hk _ _ _ _ _ _ _ _ _ _ hJ (lv_sub hl [0, 1, 2, 3, 4] rfl) h)
abbrev bJh_number : ByteArray := prog_1_method_7_code
abbrev yJh_number : MethodName := ⟨RJh, "number", "(III)I"⟩
abbrev wJh_number : List Cond := .code yJh_number bJh_number 4 (some .int) :: jw
theorem dJh_number_0 : decode bJh_number 0 = .ok (.aload_n 0, 1) := by decide +kernel
theorem dJh_number_1 : decode bJh_number 1 = .ok (.iload_n 1, 1) := by decide +kernel
theorem dJh_number_2 : decode bJh_number 2 = .ok (.iload_n 2, 1) := by decide +kernel
theorem dJh_number_3 : decode bJh_number 3 = .ok (.invokevirtual 78, 3) := by decide +kernel
theorem dJh_number_6 : decode bJh_number 6 = .ok (.aload_n 0, 1) := by decide +kernel
theorem dJh_number_7 : decode bJh_number 7 = .ok (.invokevirtual 81, 3) := by decide +kernel
theorem dJh_number_10 : decode bJh_number 10 = .ok (.aload_n 0, 1) := by decide +kernel
theorem dJh_number_11 : decode bJh_number 11 = .ok (.getfield 27, 3) := by decide +kernel
theorem dJh_number_14 : decode bJh_number 14 = .ok (.iconst 1, 1) := by decide +kernel
theorem dJh_number_15 : decode bJh_number 15 = .ok (.iload_n 1, 1) := by decide +kernel
theorem dJh_number_16 : decode bJh_number 16 = .ok (.iload_n 2, 1) := by decide +kernel
theorem dJh_number_17 : decode bJh_number 17 = .ok (.iconst (-1), 1) := by decide +kernel
theorem dJh_number_18 : decode bJh_number 18 = .ok (.iload_n 3, 1) := by decide +kernel
theorem dJh_number_19 : decode bJh_number 19 = .ok (.invokevirtual 84, 3) := by decide +kernel
theorem dJh_number_22 : decode bJh_number 22 = .ok (.ireturn, 1) := by decide +kernel
abbrev rJh_number : Room := { frames := 1, cells := 0, slots := 0, locals := 26 }
abbrev rxJh_number : Room := { frames := 7, cells := 1, slots := 6, locals := 112 }
def fJh_number_0 (x1 : Int32) (x2 : Int32) (x3 : Int32) (M : jM) (F : jF) : Option (Nat × Int32 × jM × jF) := ((fJh_checkSide x1 x2 M F).bind fun q1 => if q1.1 = 0 then ((fJh_checkConditionsLeft q1.2.2.1 q1.2.2.2).bind fun q3 => if q3.1 = 0 then ((fQu_addCondition 1 x1 x2 (-1) x3 q3.2.2.1 q3.2.2.2).bind fun q5 => some (0, q5.1, q5.2.1, q5.2.2)) else some (q3.1, 0, q3.2.2.1, q3.2.2.2)) else some (q1.1, 0, q1.2.2.1, q1.2.2.2))
abbrev fJh_number (x1 : Int32) (x2 : Int32) (x3 : Int32) (M : jM) (F : jF) : Option (Nat × Int32 × jM × jF) := fJh_number_0 x1 x2 x3 M F
set_option maxHeartbeats 4000000 in
set_option maxRecDepth 100000 in
theorem uJh_number_0 {p : Program} {e : Env} {s : State} {m : MethodId} {args : Array Value} {below : List Frame} {meth : Method} {c : Code} (l : Launch) (dC : Nat → ClassId) (dI : Nat → Nat → Nat) (cA : ClassId) (A : Nat → Nat) (Ap : Nat → Prop) (hC : jAt p s m args meth c bJh_number 4 (some .int) wJh_number RJh) (hA : ∀ q : Nat, s.heap.size ≤ q → Ap q) {r : Int32} {M' : jM} {F' : jF} : ∀ (x1 x2 x3 : Int32) (M : jM) (F : jF) (B : Nat → Nat) (H : Heap) (locs : List Loc) (ls : Array Slot), jH (dC, dI) jCl [(cA, .int)] (jW cA A B M F) Ap s H locs → lv_has ls 4 [(0, .ref (A 0)), (1, .int x1), (2, .int x2), (3, .int x3)] → fJh_number_0 x1 x2 x3 M F = some (0, r, M', F') → W p l e (headSpec wJh_number rJh_number).room s m args below meth c H locs 0 0 (jQi below (dC, dI) jCl [(cA, .int)] (fun B => jW cA A B (M') (F')) Ap args s r) (F0 m 0 ls []) := by
  obtain ⟨hx, hb, hml, hr, hts, hown, hlocks, hN⟩ := id hC
  have hj : ∀ w ∈ jw, w.before args s = true := fun w h => hts w (List.mem_cons_of_mem _ h)
  intro x1 x2 x3 M F B H locs ls hJ hl h
  unfold fJh_number_0 at h
  refine lv_aload_n hx hb dJh_number_0 rfl (lv_at hl 0 rfl) ?_
  refine lv_iload_n hx hb dJh_number_1 rfl (lv_at hl 1 rfl) ?_
  refine lv_iload_n hx hb dJh_number_2 rfl (lv_at hl 2 rfl) ?_
  obtain ⟨q1, hq1, h⟩ := jbi_h h
  by_cases cq1 : q1.1 = 0
  · replace h := jif_t cq1 h
    refine jcallv (w' := fun B => jW cA A B q1.2.2.1 q1.2.2.2) (va_runV (As := [.int x1, .int x2]) (rest := []) ⟨hx, hb, hml, hown, hts⟩ (cJh_checkSide l dC dI cA A x1 x2 M F B H.size (hq1.trans (congrArg some (Prod.ext cq1 rfl)))) (cwV 2 hts (jgoodV jw_352 jw_354 jws_3 jw_1 jw_355) rfl rfl rfl (by decide +kernel) ⟨Nat.le_of_ble_eq_true rfl, Nat.le_of_ble_eq_true rfl⟩) (jpreV hN hJ (ci := 0) (q0 := 0) rfl rfl) rfl rfl hl.1 rfl (lv_room (Nat.le_of_ble_eq_true rfl)) dJh_number_3 ⟨Nat.zero_le _, Nat.zero_le _⟩) hA hJ (fun B2 H locs hJ => ?_)
    refine lv_aload_n hx hb dJh_number_6 rfl (lv_at hl 0 rfl) ?_
    obtain ⟨q3, hq3, h⟩ := jbi_h h
    by_cases cq3 : q3.1 = 0
    · replace h := jif_t cq3 h
      refine jcallv (w' := fun B => jW cA A B q3.2.2.1 q3.2.2.2) (va_runV (As := []) (rest := []) ⟨hx, hb, hml, hown, hts⟩ (cJh_checkConditionsLeft l dC dI cA A q1.2.2.1 q1.2.2.2 B2 H.size (hq3.trans (congrArg some (Prod.ext cq3 rfl)))) (cwV 0 hts (jgoodV jw_357 jw_359 jws_4 jw_1 jw_360) rfl rfl rfl (by decide +kernel) ⟨Nat.le_of_ble_eq_true rfl, Nat.le_of_ble_eq_true rfl⟩) (jpreV hN hJ (ci := 0) (q0 := 0) rfl rfl) rfl rfl hl.1 rfl (lv_room (Nat.le_of_ble_eq_true rfl)) dJh_number_7 ⟨Nat.zero_le _, Nat.zero_le _⟩) hA hJ (fun B4 H locs hJ => ?_)
      refine lv_aload_n hx hb dJh_number_10 rfl (lv_at hl 0 rfl) ?_
      refine va_get (D := (dC, dI)) (ci := 0) (v := .ref (A 3)) (C := RJh) (T := TJh) (N := 4) hx hb hj iJh hown hJ.1 hJ.2.1 0 rfl rfl 2 (by decide) (hj _ jw_182) (fun _ h9 => h9) rfl dJh_number_11 ?_
      refine lv_iconst (v := 1) hx hb dJh_number_14 (by decide) ?_
      refine lv_iload_n hx hb dJh_number_15 rfl (lv_at hl 1 rfl) ?_
      refine lv_iload_n hx hb dJh_number_16 rfl (lv_at hl 2 rfl) ?_
      refine lv_iconst (v := (-1)) hx hb dJh_number_17 (by decide) ?_
      refine lv_iload_n hx hb dJh_number_18 rfl (lv_at hl 3 rfl) ?_
      obtain ⟨q5, hq5, h⟩ := jbi_h h
      refine jcalli (w' := fun B => jW cA A B q5.2.1 q5.2.2) (va_runV (As := [.int 1, .int x1, .int x2, .int (-1), .int x3]) (rest := []) ⟨hx, hb, hml, hown, hts⟩ (cQu_addCondition l dC dI cA A 1 x1 x2 (-1) x3 q3.2.2.1 q3.2.2.2 B4 H.size hq5) (cwV 5 hts (jgoodV jw_362 jw_363 jw_364 jw_4 jw_365) rfl rfl rfl (by decide +kernel) ⟨Nat.le_of_ble_eq_true rfl, Nat.le_of_ble_eq_true rfl⟩) (jpreV hN hJ (ci := 3) (q0 := 3) rfl rfl) rfl rfl hl.1 rfl (lv_room (Nat.le_of_ble_eq_true rfl)) dJh_number_19 ⟨Nat.zero_le _, Nat.zero_le _⟩) hA hJ (fun B6 H locs hJ => ?_)
      cases h
      exact jreti (u := B6) hx hb hr rfl hlocks hJ dJh_number_22 rfl
    · replace h := jif_f cq3 h
      exact (jk_no3 cq3 h).elim
  · replace h := jif_f cq1 h
    exact (jk_no3 cq1 h).elim
set_option maxHeartbeats 4000000 in
set_option maxRecDepth 100000 in
theorem cJh_number (l : Launch) (dC : Nat → ClassId) (dI : Nat → Nat → Nat) (cA : ClassId) (A : Nat → Nat) (x1 : Int32) (x2 : Int32) (x3 : Int32) (M : jM) (F : jF) (B : Nat → Nat) (sz : Nat) {r : Int32} {M' : jM} {F' : jF} (h : fJh_number x1 x2 x3 M F = some (0, r, M', F')) : jCi l yJh_number wJh_number rJh_number (dC, dI) jCl [(cA, .int)] [.ref (A 0), .int x1, .int x2, .int x3] (jW cA A B M F) sz r (fun B => jW cA A B (M') (F')) :=
  jOf (Qc := fun Ap => va_Qi (fun q (_ : Nat → Nat) => q = r) (jPost (dC, dI) jCl [(cA, .int)] (fun B => jW cA A B (M') (F')) Ap) Ap) (by decide) rfl (Nat.le_of_ble_eq_true rfl) (fun p e s m below meth c Ap ls hC hA hJ hl => uJh_number_0 l dC dI cA A Ap hC hA _ _ _ _ _ _ _ _ _ hJ (lv_sub hl [0, 1, 2, 3] rfl) h)
set_option maxHeartbeats 4000000 in
set_option maxRecDepth 100000 in
theorem uxJh_number_0 {p : Program} {e : Env} {s : State} {m : MethodId} {args : Array Value} {below : List Frame} {meth : Method} {c : Code} (l : Launch) (dC : Nat → ClassId) (dI : Nat → Nat → Nat) (cA : ClassId) (A : Nat → Nat) (Ap : Nat → Prop) (hX : jAtX l Ap s c) (hC : jAt p s m args meth c bJh_number 4 (some .int) wJh_number RJh) (hA : ∀ q : Nat, s.heap.size ≤ q → Ap q) {k : Nat} (hk : ¬ k = 0) {r : Int32} {M' : jM} {F' : jF} : ∀ (x1 x2 x3 : Int32) (M : jM) (F : jF) (B : Nat → Nat) (H : Heap) (locs : List Loc) (ls : Array Slot), jH (dC, dI) jCl [(cA, .int)] (jW cA A B M F) Ap s H locs → lv_has ls 4 [(0, .ref (A 0)), (1, .int x1), (2, .int x2), (3, .int x3)] → fJh_number_0 x1 x2 x3 M F = some (k, r, M', F') → W p l e (headSpec wJh_number rxJh_number).room s m args below meth c H locs 0 0 (jQx below (dC, dI) jCl [(cA, .int)] (fun B => jW cA A B (M') (F')) Ap args s k) (F0 m 0 ls []) := by
  obtain ⟨hx, hb, hml, hr, hts, hown, hlocks, hN⟩ := id hC
  have hj : ∀ w ∈ jw, w.before args s = true := fun w h => hts w (List.mem_cons_of_mem _ h)
  intro x1 x2 x3 M F B H locs ls hJ hl h
  unfold fJh_number_0 at h
  refine lv_aload_n hx hb dJh_number_0 rfl (lv_at hl 0 rfl) ?_
  refine lv_iload_n hx hb dJh_number_1 rfl (lv_at hl 1 rfl) ?_
  refine lv_iload_n hx hb dJh_number_2 rfl (lv_at hl 2 rfl) ?_
  obtain ⟨q1, hq1, h⟩ := jbi_h h
  by_cases cq1 : q1.1 = 0
  · replace h := jif_t cq1 h
    refine jcallv (w' := fun B => jW cA A B q1.2.2.1 q1.2.2.2) (va_runV (As := [.int x1, .int x2]) (rest := []) ⟨hx, hb, hml, hown, hts⟩ (cJh_checkSide l dC dI cA A x1 x2 M F B H.size (hq1.trans (congrArg some (Prod.ext cq1 rfl)))) (cwV 2 hts (jgoodV jw_352 jw_354 jws_3 jw_1 jw_355) rfl rfl rfl (by decide +kernel) ⟨Nat.le_of_ble_eq_true rfl, Nat.le_of_ble_eq_true rfl⟩) (jpreV hN hJ (ci := 0) (q0 := 0) rfl rfl) rfl rfl hl.1 rfl (lv_room (Nat.le_of_ble_eq_true rfl)) dJh_number_3 ⟨Nat.zero_le _, Nat.zero_le _⟩) hA hJ (fun B2 H locs hJ => ?_)
    refine lv_aload_n hx hb dJh_number_6 rfl (lv_at hl 0 rfl) ?_
    obtain ⟨q3, hq3, h⟩ := jbi_h h
    by_cases cq3 : q3.1 = 0
    · replace h := jif_t cq3 h
      refine jcallv (w' := fun B => jW cA A B q3.2.2.1 q3.2.2.2) (va_runV (As := []) (rest := []) ⟨hx, hb, hml, hown, hts⟩ (cJh_checkConditionsLeft l dC dI cA A q1.2.2.1 q1.2.2.2 B2 H.size (hq3.trans (congrArg some (Prod.ext cq3 rfl)))) (cwV 0 hts (jgoodV jw_357 jw_359 jws_4 jw_1 jw_360) rfl rfl rfl (by decide +kernel) ⟨Nat.le_of_ble_eq_true rfl, Nat.le_of_ble_eq_true rfl⟩) (jpreV hN hJ (ci := 0) (q0 := 0) rfl rfl) rfl rfl hl.1 rfl (lv_room (Nat.le_of_ble_eq_true rfl)) dJh_number_7 ⟨Nat.zero_le _, Nat.zero_le _⟩) hA hJ (fun B4 H locs hJ => ?_)
      refine lv_aload_n hx hb dJh_number_10 rfl (lv_at hl 0 rfl) ?_
      refine va_get (D := (dC, dI)) (ci := 0) (v := .ref (A 3)) (C := RJh) (T := TJh) (N := 4) hx hb hj iJh hown hJ.1 hJ.2.1 0 rfl rfl 2 (by decide) (hj _ jw_182) (fun _ h9 => h9) rfl dJh_number_11 ?_
      refine lv_iconst (v := 1) hx hb dJh_number_14 (by decide) ?_
      refine lv_iload_n hx hb dJh_number_15 rfl (lv_at hl 1 rfl) ?_
      refine lv_iload_n hx hb dJh_number_16 rfl (lv_at hl 2 rfl) ?_
      refine lv_iconst (v := (-1)) hx hb dJh_number_17 (by decide) ?_
      refine lv_iload_n hx hb dJh_number_18 rfl (lv_at hl 3 rfl) ?_
      obtain ⟨q5, hq5, h⟩ := jbi_h h
      refine jcalli (w' := fun B => jW cA A B q5.2.1 q5.2.2) (va_runV (As := [.int 1, .int x1, .int x2, .int (-1), .int x3]) (rest := []) ⟨hx, hb, hml, hown, hts⟩ (cQu_addCondition l dC dI cA A 1 x1 x2 (-1) x3 q3.2.2.1 q3.2.2.2 B4 H.size hq5) (cwV 5 hts (jgoodV jw_362 jw_363 jw_364 jw_4 jw_365) rfl rfl rfl (by decide +kernel) ⟨Nat.le_of_ble_eq_true rfl, Nat.le_of_ble_eq_true rfl⟩) (jpreV hN hJ (ci := 3) (q0 := 3) rfl rfl) rfl rfl hl.1 rfl (lv_room (Nat.le_of_ble_eq_true rfl)) dJh_number_19 ⟨Nat.zero_le _, Nat.zero_le _⟩) hA hJ (fun B6 H locs hJ => ?_)
      exact (jk_no3 hk h.symm).elim
    · replace h := jif_f cq3 h
      cases h
      exact jxcall (vx_runV (As := []) (rest := []) ⟨hx, hb, hml, hown, hts⟩ (cxJh_checkConditionsLeft l dC dI cA A hX.1 q1.2.2.1 q1.2.2.2 B2 H.size cq3 hq3) (cwV 0 hts (jgoodV jw_357 jw_359 jws_4 jw_1 jw_360) rfl rfl rfl (by decide +kernel) ⟨Nat.le_of_ble_eq_true rfl, Nat.le_of_ble_eq_true rfl⟩) (jpreVX hX.2.1 hA hN hJ (ci := 0) (q0 := 0) rfl rfl) rfl rfl hl.1 rfl (lv_room (Nat.le_of_ble_eq_true rfl)) dJh_number_7 ⟨Nat.le_of_ble_eq_true rfl, Nat.le_of_ble_eq_true rfl⟩) hA hJ hX.2.2 hlocks
  · replace h := jif_f cq1 h
    cases h
    exact jxcall (vx_runV (As := [.int x1, .int x2]) (rest := []) ⟨hx, hb, hml, hown, hts⟩ (cxJh_checkSide l dC dI cA A hX.1 x1 x2 M F B H.size cq1 hq1) (cwV 2 hts (jgoodV jw_352 jw_354 jws_3 jw_1 jw_355) rfl rfl rfl (by decide +kernel) ⟨Nat.le_of_ble_eq_true rfl, Nat.le_of_ble_eq_true rfl⟩) (jpreVX hX.2.1 hA hN hJ (ci := 0) (q0 := 0) rfl rfl) rfl rfl hl.1 rfl (lv_room (Nat.le_of_ble_eq_true rfl)) dJh_number_3 ⟨Nat.le_of_ble_eq_true rfl, Nat.le_of_ble_eq_true rfl⟩) hA hJ hX.2.2 hlocks
set_option maxHeartbeats 4000000 in
set_option maxRecDepth 100000 in
theorem cxJh_number (l : Launch) (dC : Nat → ClassId) (dI : Nat → Nat → Nat) (cA : ClassId) (A : Nat → Nat) (hl0 : l.stackTraces = false) (x1 : Int32) (x2 : Int32) (x3 : Int32) (M : jM) (F : jF) (B : Nat → Nat) (sz : Nat) {k : Nat} (hk : ¬ k = 0) {r : Int32} {M' : jM} {F' : jF} (h : fJh_number x1 x2 x3 M F = some (k, r, M', F')) : jCx l yJh_number wJh_number rxJh_number (dC, dI) jCl [(cA, .int)] [.ref (A 0), .int x1, .int x2, .int x3] (jW cA A B M F) sz k (fun B => jW cA A B (M') (F')) :=
  jOfX hl0 (by decide) rfl (Nat.le_of_ble_eq_true rfl) (fun p e s m below meth c Ap ls hC hX hA hJ hl => uxJh_number_0 l dC dI cA A Ap hX hC hA hk _ _ _ _ _ _ _ _ _ hJ (lv_sub hl [0, 1, 2, 3] rfl) h)
abbrev bJh_less : ByteArray := prog_1_method_8_code
abbrev yJh_less : MethodName := ⟨RJh, "less", "(IIII)I"⟩
abbrev wJh_less : List Cond := .code yJh_less bJh_less 5 (some .int) :: jw
theorem dJh_less_0 : decode bJh_less 0 = .ok (.aload_n 0, 1) := by decide +kernel
theorem dJh_less_1 : decode bJh_less 1 = .ok (.iload_n 1, 1) := by decide +kernel
theorem dJh_less_2 : decode bJh_less 2 = .ok (.iload_n 2, 1) := by decide +kernel
theorem dJh_less_3 : decode bJh_less 3 = .ok (.invokevirtual 78, 3) := by decide +kernel
theorem dJh_less_6 : decode bJh_less 6 = .ok (.aload_n 0, 1) := by decide +kernel
theorem dJh_less_7 : decode bJh_less 7 = .ok (.iload_n 3, 1) := by decide +kernel
theorem dJh_less_8 : decode bJh_less 8 = .ok (.iload 4, 2) := by decide +kernel
theorem dJh_less_10 : decode bJh_less 10 = .ok (.invokevirtual 78, 3) := by decide +kernel
theorem dJh_less_13 : decode bJh_less 13 = .ok (.aload_n 0, 1) := by decide +kernel
theorem dJh_less_14 : decode bJh_less 14 = .ok (.invokevirtual 81, 3) := by decide +kernel
theorem dJh_less_17 : decode bJh_less 17 = .ok (.aload_n 0, 1) := by decide +kernel
theorem dJh_less_18 : decode bJh_less 18 = .ok (.getfield 27, 3) := by decide +kernel
theorem dJh_less_21 : decode bJh_less 21 = .ok (.iconst 2, 1) := by decide +kernel
theorem dJh_less_22 : decode bJh_less 22 = .ok (.iload_n 1, 1) := by decide +kernel
theorem dJh_less_23 : decode bJh_less 23 = .ok (.iload_n 2, 1) := by decide +kernel
theorem dJh_less_24 : decode bJh_less 24 = .ok (.iload_n 3, 1) := by decide +kernel
theorem dJh_less_25 : decode bJh_less 25 = .ok (.iload 4, 2) := by decide +kernel
theorem dJh_less_27 : decode bJh_less 27 = .ok (.invokevirtual 84, 3) := by decide +kernel
theorem dJh_less_30 : decode bJh_less 30 = .ok (.ireturn, 1) := by decide +kernel
abbrev rJh_less : Room := { frames := 1, cells := 0, slots := 0, locals := 26 }
abbrev rxJh_less : Room := { frames := 7, cells := 1, slots := 6, locals := 112 }
def fJh_less_0 (x1 : Int32) (x2 : Int32) (x3 : Int32) (x4 : Int32) (M : jM) (F : jF) : Option (Nat × Int32 × jM × jF) := ((fJh_checkSide x1 x2 M F).bind fun q1 => if q1.1 = 0 then ((fJh_checkSide x3 x4 q1.2.2.1 q1.2.2.2).bind fun q3 => if q3.1 = 0 then ((fJh_checkConditionsLeft q3.2.2.1 q3.2.2.2).bind fun q5 => if q5.1 = 0 then ((fQu_addCondition 2 x1 x2 x3 x4 q5.2.2.1 q5.2.2.2).bind fun q7 => some (0, q7.1, q7.2.1, q7.2.2)) else some (q5.1, 0, q5.2.2.1, q5.2.2.2)) else some (q3.1, 0, q3.2.2.1, q3.2.2.2)) else some (q1.1, 0, q1.2.2.1, q1.2.2.2))
abbrev fJh_less (x1 : Int32) (x2 : Int32) (x3 : Int32) (x4 : Int32) (M : jM) (F : jF) : Option (Nat × Int32 × jM × jF) := fJh_less_0 x1 x2 x3 x4 M F
set_option maxHeartbeats 4000000 in
set_option maxRecDepth 100000 in
theorem uJh_less_0 {p : Program} {e : Env} {s : State} {m : MethodId} {args : Array Value} {below : List Frame} {meth : Method} {c : Code} (l : Launch) (dC : Nat → ClassId) (dI : Nat → Nat → Nat) (cA : ClassId) (A : Nat → Nat) (Ap : Nat → Prop) (hC : jAt p s m args meth c bJh_less 5 (some .int) wJh_less RJh) (hA : ∀ q : Nat, s.heap.size ≤ q → Ap q) {r : Int32} {M' : jM} {F' : jF} : ∀ (x1 x2 x3 x4 : Int32) (M : jM) (F : jF) (B : Nat → Nat) (H : Heap) (locs : List Loc) (ls : Array Slot), jH (dC, dI) jCl [(cA, .int)] (jW cA A B M F) Ap s H locs → lv_has ls 5 [(0, .ref (A 0)), (1, .int x1), (2, .int x2), (3, .int x3), (4, .int x4)] → fJh_less_0 x1 x2 x3 x4 M F = some (0, r, M', F') → W p l e (headSpec wJh_less rJh_less).room s m args below meth c H locs 0 0 (jQi below (dC, dI) jCl [(cA, .int)] (fun B => jW cA A B (M') (F')) Ap args s r) (F0 m 0 ls []) := by
  obtain ⟨hx, hb, hml, hr, hts, hown, hlocks, hN⟩ := id hC
  have hj : ∀ w ∈ jw, w.before args s = true := fun w h => hts w (List.mem_cons_of_mem _ h)
  intro x1 x2 x3 x4 M F B H locs ls hJ hl h
  unfold fJh_less_0 at h
  refine lv_aload_n hx hb dJh_less_0 rfl (lv_at hl 0 rfl) ?_
  refine lv_iload_n hx hb dJh_less_1 rfl (lv_at hl 1 rfl) ?_
  refine lv_iload_n hx hb dJh_less_2 rfl (lv_at hl 2 rfl) ?_
  obtain ⟨q1, hq1, h⟩ := jbi_h h
  by_cases cq1 : q1.1 = 0
  · replace h := jif_t cq1 h
    refine jcallv (w' := fun B => jW cA A B q1.2.2.1 q1.2.2.2) (va_runV (As := [.int x1, .int x2]) (rest := []) ⟨hx, hb, hml, hown, hts⟩ (cJh_checkSide l dC dI cA A x1 x2 M F B H.size (hq1.trans (congrArg some (Prod.ext cq1 rfl)))) (cwV 2 hts (jgoodV jw_352 jw_354 jws_3 jw_1 jw_355) rfl rfl rfl (by decide +kernel) ⟨Nat.le_of_ble_eq_true rfl, Nat.le_of_ble_eq_true rfl⟩) (jpreV hN hJ (ci := 0) (q0 := 0) rfl rfl) rfl rfl hl.1 rfl (lv_room (Nat.le_of_ble_eq_true rfl)) dJh_less_3 ⟨Nat.zero_le _, Nat.zero_le _⟩) hA hJ (fun B2 H locs hJ => ?_)
    refine lv_aload_n hx hb dJh_less_6 rfl (lv_at hl 0 rfl) ?_
    refine lv_iload_n hx hb dJh_less_7 rfl (lv_at hl 3 rfl) ?_
    refine lv_iload hx hb dJh_less_8 (lv_at hl 4 rfl) ?_
    obtain ⟨q3, hq3, h⟩ := jbi_h h
    by_cases cq3 : q3.1 = 0
    · replace h := jif_t cq3 h
      refine jcallv (w' := fun B => jW cA A B q3.2.2.1 q3.2.2.2) (va_runV (As := [.int x3, .int x4]) (rest := []) ⟨hx, hb, hml, hown, hts⟩ (cJh_checkSide l dC dI cA A x3 x4 q1.2.2.1 q1.2.2.2 B2 H.size (hq3.trans (congrArg some (Prod.ext cq3 rfl)))) (cwV 2 hts (jgoodV jw_352 jw_354 jws_3 jw_1 jw_355) rfl rfl rfl (by decide +kernel) ⟨Nat.le_of_ble_eq_true rfl, Nat.le_of_ble_eq_true rfl⟩) (jpreV hN hJ (ci := 0) (q0 := 0) rfl rfl) rfl rfl hl.1 rfl (lv_room (Nat.le_of_ble_eq_true rfl)) dJh_less_10 ⟨Nat.zero_le _, Nat.zero_le _⟩) hA hJ (fun B4 H locs hJ => ?_)
      refine lv_aload_n hx hb dJh_less_13 rfl (lv_at hl 0 rfl) ?_
      obtain ⟨q5, hq5, h⟩ := jbi_h h
      by_cases cq5 : q5.1 = 0
      · replace h := jif_t cq5 h
        refine jcallv (w' := fun B => jW cA A B q5.2.2.1 q5.2.2.2) (va_runV (As := []) (rest := []) ⟨hx, hb, hml, hown, hts⟩ (cJh_checkConditionsLeft l dC dI cA A q3.2.2.1 q3.2.2.2 B4 H.size (hq5.trans (congrArg some (Prod.ext cq5 rfl)))) (cwV 0 hts (jgoodV jw_357 jw_359 jws_4 jw_1 jw_360) rfl rfl rfl (by decide +kernel) ⟨Nat.le_of_ble_eq_true rfl, Nat.le_of_ble_eq_true rfl⟩) (jpreV hN hJ (ci := 0) (q0 := 0) rfl rfl) rfl rfl hl.1 rfl (lv_room (Nat.le_of_ble_eq_true rfl)) dJh_less_14 ⟨Nat.zero_le _, Nat.zero_le _⟩) hA hJ (fun B6 H locs hJ => ?_)
        refine lv_aload_n hx hb dJh_less_17 rfl (lv_at hl 0 rfl) ?_
        refine va_get (D := (dC, dI)) (ci := 0) (v := .ref (A 3)) (C := RJh) (T := TJh) (N := 4) hx hb hj iJh hown hJ.1 hJ.2.1 0 rfl rfl 2 (by decide) (hj _ jw_182) (fun _ h9 => h9) rfl dJh_less_18 ?_
        refine lv_iconst (v := 2) hx hb dJh_less_21 (by decide) ?_
        refine lv_iload_n hx hb dJh_less_22 rfl (lv_at hl 1 rfl) ?_
        refine lv_iload_n hx hb dJh_less_23 rfl (lv_at hl 2 rfl) ?_
        refine lv_iload_n hx hb dJh_less_24 rfl (lv_at hl 3 rfl) ?_
        refine lv_iload hx hb dJh_less_25 (lv_at hl 4 rfl) ?_
        obtain ⟨q7, hq7, h⟩ := jbi_h h
        refine jcalli (w' := fun B => jW cA A B q7.2.1 q7.2.2) (va_runV (As := [.int 2, .int x1, .int x2, .int x3, .int x4]) (rest := []) ⟨hx, hb, hml, hown, hts⟩ (cQu_addCondition l dC dI cA A 2 x1 x2 x3 x4 q5.2.2.1 q5.2.2.2 B6 H.size hq7) (cwV 5 hts (jgoodV jw_362 jw_363 jw_364 jw_4 jw_365) rfl rfl rfl (by decide +kernel) ⟨Nat.le_of_ble_eq_true rfl, Nat.le_of_ble_eq_true rfl⟩) (jpreV hN hJ (ci := 3) (q0 := 3) rfl rfl) rfl rfl hl.1 rfl (lv_room (Nat.le_of_ble_eq_true rfl)) dJh_less_27 ⟨Nat.zero_le _, Nat.zero_le _⟩) hA hJ (fun B8 H locs hJ => ?_)
        cases h
        exact jreti (u := B8) hx hb hr rfl hlocks hJ dJh_less_30 rfl
      · replace h := jif_f cq5 h
        exact (jk_no3 cq5 h).elim
    · replace h := jif_f cq3 h
      exact (jk_no3 cq3 h).elim
  · replace h := jif_f cq1 h
    exact (jk_no3 cq1 h).elim
set_option maxHeartbeats 4000000 in
set_option maxRecDepth 100000 in
theorem cJh_less (l : Launch) (dC : Nat → ClassId) (dI : Nat → Nat → Nat) (cA : ClassId) (A : Nat → Nat) (x1 : Int32) (x2 : Int32) (x3 : Int32) (x4 : Int32) (M : jM) (F : jF) (B : Nat → Nat) (sz : Nat) {r : Int32} {M' : jM} {F' : jF} (h : fJh_less x1 x2 x3 x4 M F = some (0, r, M', F')) : jCi l yJh_less wJh_less rJh_less (dC, dI) jCl [(cA, .int)] [.ref (A 0), .int x1, .int x2, .int x3, .int x4] (jW cA A B M F) sz r (fun B => jW cA A B (M') (F')) :=
  jOf (Qc := fun Ap => va_Qi (fun q (_ : Nat → Nat) => q = r) (jPost (dC, dI) jCl [(cA, .int)] (fun B => jW cA A B (M') (F')) Ap) Ap) (by decide) rfl (Nat.le_of_ble_eq_true rfl) (fun p e s m below meth c Ap ls hC hA hJ hl => uJh_less_0 l dC dI cA A Ap hC hA _ _ _ _ _ _ _ _ _ _ hJ (lv_sub hl [0, 1, 2, 3, 4] rfl) h)
set_option maxHeartbeats 4000000 in
set_option maxRecDepth 100000 in
theorem uxJh_less_0 {p : Program} {e : Env} {s : State} {m : MethodId} {args : Array Value} {below : List Frame} {meth : Method} {c : Code} (l : Launch) (dC : Nat → ClassId) (dI : Nat → Nat → Nat) (cA : ClassId) (A : Nat → Nat) (Ap : Nat → Prop) (hX : jAtX l Ap s c) (hC : jAt p s m args meth c bJh_less 5 (some .int) wJh_less RJh) (hA : ∀ q : Nat, s.heap.size ≤ q → Ap q) {k : Nat} (hk : ¬ k = 0) {r : Int32} {M' : jM} {F' : jF} : ∀ (x1 x2 x3 x4 : Int32) (M : jM) (F : jF) (B : Nat → Nat) (H : Heap) (locs : List Loc) (ls : Array Slot), jH (dC, dI) jCl [(cA, .int)] (jW cA A B M F) Ap s H locs → lv_has ls 5 [(0, .ref (A 0)), (1, .int x1), (2, .int x2), (3, .int x3), (4, .int x4)] → fJh_less_0 x1 x2 x3 x4 M F = some (k, r, M', F') → W p l e (headSpec wJh_less rxJh_less).room s m args below meth c H locs 0 0 (jQx below (dC, dI) jCl [(cA, .int)] (fun B => jW cA A B (M') (F')) Ap args s k) (F0 m 0 ls []) := by
  obtain ⟨hx, hb, hml, hr, hts, hown, hlocks, hN⟩ := id hC
  have hj : ∀ w ∈ jw, w.before args s = true := fun w h => hts w (List.mem_cons_of_mem _ h)
  intro x1 x2 x3 x4 M F B H locs ls hJ hl h
  unfold fJh_less_0 at h
  refine lv_aload_n hx hb dJh_less_0 rfl (lv_at hl 0 rfl) ?_
  refine lv_iload_n hx hb dJh_less_1 rfl (lv_at hl 1 rfl) ?_
  refine lv_iload_n hx hb dJh_less_2 rfl (lv_at hl 2 rfl) ?_
  obtain ⟨q1, hq1, h⟩ := jbi_h h
  by_cases cq1 : q1.1 = 0
  · replace h := jif_t cq1 h
    refine jcallv (w' := fun B => jW cA A B q1.2.2.1 q1.2.2.2) (va_runV (As := [.int x1, .int x2]) (rest := []) ⟨hx, hb, hml, hown, hts⟩ (cJh_checkSide l dC dI cA A x1 x2 M F B H.size (hq1.trans (congrArg some (Prod.ext cq1 rfl)))) (cwV 2 hts (jgoodV jw_352 jw_354 jws_3 jw_1 jw_355) rfl rfl rfl (by decide +kernel) ⟨Nat.le_of_ble_eq_true rfl, Nat.le_of_ble_eq_true rfl⟩) (jpreV hN hJ (ci := 0) (q0 := 0) rfl rfl) rfl rfl hl.1 rfl (lv_room (Nat.le_of_ble_eq_true rfl)) dJh_less_3 ⟨Nat.zero_le _, Nat.zero_le _⟩) hA hJ (fun B2 H locs hJ => ?_)
    refine lv_aload_n hx hb dJh_less_6 rfl (lv_at hl 0 rfl) ?_
    refine lv_iload_n hx hb dJh_less_7 rfl (lv_at hl 3 rfl) ?_
    refine lv_iload hx hb dJh_less_8 (lv_at hl 4 rfl) ?_
    obtain ⟨q3, hq3, h⟩ := jbi_h h
    by_cases cq3 : q3.1 = 0
    · replace h := jif_t cq3 h
      refine jcallv (w' := fun B => jW cA A B q3.2.2.1 q3.2.2.2) (va_runV (As := [.int x3, .int x4]) (rest := []) ⟨hx, hb, hml, hown, hts⟩ (cJh_checkSide l dC dI cA A x3 x4 q1.2.2.1 q1.2.2.2 B2 H.size (hq3.trans (congrArg some (Prod.ext cq3 rfl)))) (cwV 2 hts (jgoodV jw_352 jw_354 jws_3 jw_1 jw_355) rfl rfl rfl (by decide +kernel) ⟨Nat.le_of_ble_eq_true rfl, Nat.le_of_ble_eq_true rfl⟩) (jpreV hN hJ (ci := 0) (q0 := 0) rfl rfl) rfl rfl hl.1 rfl (lv_room (Nat.le_of_ble_eq_true rfl)) dJh_less_10 ⟨Nat.zero_le _, Nat.zero_le _⟩) hA hJ (fun B4 H locs hJ => ?_)
      refine lv_aload_n hx hb dJh_less_13 rfl (lv_at hl 0 rfl) ?_
      obtain ⟨q5, hq5, h⟩ := jbi_h h
      by_cases cq5 : q5.1 = 0
      · replace h := jif_t cq5 h
        refine jcallv (w' := fun B => jW cA A B q5.2.2.1 q5.2.2.2) (va_runV (As := []) (rest := []) ⟨hx, hb, hml, hown, hts⟩ (cJh_checkConditionsLeft l dC dI cA A q3.2.2.1 q3.2.2.2 B4 H.size (hq5.trans (congrArg some (Prod.ext cq5 rfl)))) (cwV 0 hts (jgoodV jw_357 jw_359 jws_4 jw_1 jw_360) rfl rfl rfl (by decide +kernel) ⟨Nat.le_of_ble_eq_true rfl, Nat.le_of_ble_eq_true rfl⟩) (jpreV hN hJ (ci := 0) (q0 := 0) rfl rfl) rfl rfl hl.1 rfl (lv_room (Nat.le_of_ble_eq_true rfl)) dJh_less_14 ⟨Nat.zero_le _, Nat.zero_le _⟩) hA hJ (fun B6 H locs hJ => ?_)
        refine lv_aload_n hx hb dJh_less_17 rfl (lv_at hl 0 rfl) ?_
        refine va_get (D := (dC, dI)) (ci := 0) (v := .ref (A 3)) (C := RJh) (T := TJh) (N := 4) hx hb hj iJh hown hJ.1 hJ.2.1 0 rfl rfl 2 (by decide) (hj _ jw_182) (fun _ h9 => h9) rfl dJh_less_18 ?_
        refine lv_iconst (v := 2) hx hb dJh_less_21 (by decide) ?_
        refine lv_iload_n hx hb dJh_less_22 rfl (lv_at hl 1 rfl) ?_
        refine lv_iload_n hx hb dJh_less_23 rfl (lv_at hl 2 rfl) ?_
        refine lv_iload_n hx hb dJh_less_24 rfl (lv_at hl 3 rfl) ?_
        refine lv_iload hx hb dJh_less_25 (lv_at hl 4 rfl) ?_
        obtain ⟨q7, hq7, h⟩ := jbi_h h
        refine jcalli (w' := fun B => jW cA A B q7.2.1 q7.2.2) (va_runV (As := [.int 2, .int x1, .int x2, .int x3, .int x4]) (rest := []) ⟨hx, hb, hml, hown, hts⟩ (cQu_addCondition l dC dI cA A 2 x1 x2 x3 x4 q5.2.2.1 q5.2.2.2 B6 H.size hq7) (cwV 5 hts (jgoodV jw_362 jw_363 jw_364 jw_4 jw_365) rfl rfl rfl (by decide +kernel) ⟨Nat.le_of_ble_eq_true rfl, Nat.le_of_ble_eq_true rfl⟩) (jpreV hN hJ (ci := 3) (q0 := 3) rfl rfl) rfl rfl hl.1 rfl (lv_room (Nat.le_of_ble_eq_true rfl)) dJh_less_27 ⟨Nat.zero_le _, Nat.zero_le _⟩) hA hJ (fun B8 H locs hJ => ?_)
        exact (jk_no3 hk h.symm).elim
      · replace h := jif_f cq5 h
        cases h
        exact jxcall (vx_runV (As := []) (rest := []) ⟨hx, hb, hml, hown, hts⟩ (cxJh_checkConditionsLeft l dC dI cA A hX.1 q3.2.2.1 q3.2.2.2 B4 H.size cq5 hq5) (cwV 0 hts (jgoodV jw_357 jw_359 jws_4 jw_1 jw_360) rfl rfl rfl (by decide +kernel) ⟨Nat.le_of_ble_eq_true rfl, Nat.le_of_ble_eq_true rfl⟩) (jpreVX hX.2.1 hA hN hJ (ci := 0) (q0 := 0) rfl rfl) rfl rfl hl.1 rfl (lv_room (Nat.le_of_ble_eq_true rfl)) dJh_less_14 ⟨Nat.le_of_ble_eq_true rfl, Nat.le_of_ble_eq_true rfl⟩) hA hJ hX.2.2 hlocks
    · replace h := jif_f cq3 h
      cases h
      exact jxcall (vx_runV (As := [.int x3, .int x4]) (rest := []) ⟨hx, hb, hml, hown, hts⟩ (cxJh_checkSide l dC dI cA A hX.1 x3 x4 q1.2.2.1 q1.2.2.2 B2 H.size cq3 hq3) (cwV 2 hts (jgoodV jw_352 jw_354 jws_3 jw_1 jw_355) rfl rfl rfl (by decide +kernel) ⟨Nat.le_of_ble_eq_true rfl, Nat.le_of_ble_eq_true rfl⟩) (jpreVX hX.2.1 hA hN hJ (ci := 0) (q0 := 0) rfl rfl) rfl rfl hl.1 rfl (lv_room (Nat.le_of_ble_eq_true rfl)) dJh_less_10 ⟨Nat.le_of_ble_eq_true rfl, Nat.le_of_ble_eq_true rfl⟩) hA hJ hX.2.2 hlocks
  · replace h := jif_f cq1 h
    cases h
    exact jxcall (vx_runV (As := [.int x1, .int x2]) (rest := []) ⟨hx, hb, hml, hown, hts⟩ (cxJh_checkSide l dC dI cA A hX.1 x1 x2 M F B H.size cq1 hq1) (cwV 2 hts (jgoodV jw_352 jw_354 jws_3 jw_1 jw_355) rfl rfl rfl (by decide +kernel) ⟨Nat.le_of_ble_eq_true rfl, Nat.le_of_ble_eq_true rfl⟩) (jpreVX hX.2.1 hA hN hJ (ci := 0) (q0 := 0) rfl rfl) rfl rfl hl.1 rfl (lv_room (Nat.le_of_ble_eq_true rfl)) dJh_less_3 ⟨Nat.le_of_ble_eq_true rfl, Nat.le_of_ble_eq_true rfl⟩) hA hJ hX.2.2 hlocks
set_option maxHeartbeats 4000000 in
set_option maxRecDepth 100000 in
theorem cxJh_less (l : Launch) (dC : Nat → ClassId) (dI : Nat → Nat → Nat) (cA : ClassId) (A : Nat → Nat) (hl0 : l.stackTraces = false) (x1 : Int32) (x2 : Int32) (x3 : Int32) (x4 : Int32) (M : jM) (F : jF) (B : Nat → Nat) (sz : Nat) {k : Nat} (hk : ¬ k = 0) {r : Int32} {M' : jM} {F' : jF} (h : fJh_less x1 x2 x3 x4 M F = some (k, r, M', F')) : jCx l yJh_less wJh_less rxJh_less (dC, dI) jCl [(cA, .int)] [.ref (A 0), .int x1, .int x2, .int x3, .int x4] (jW cA A B M F) sz k (fun B => jW cA A B (M') (F')) :=
  jOfX hl0 (by decide) rfl (Nat.le_of_ble_eq_true rfl) (fun p e s m below meth c Ap ls hC hX hA hJ hl => uxJh_less_0 l dC dI cA A Ap hX hC hA hk _ _ _ _ _ _ _ _ _ _ hJ (lv_sub hl [0, 1, 2, 3, 4] rfl) h)
abbrev bJh_checkPlace : ByteArray := prog_1_method_17_code
abbrev yJh_checkPlace : MethodName := ⟨RJh, "checkPlace", "(I)V"⟩
abbrev wJh_checkPlace : List Cond := .code yJh_checkPlace bJh_checkPlace 2 none :: jw
theorem dJh_checkPlace_0 : decode bJh_checkPlace 0 = .ok (.iload_n 1, 1) := by decide +kernel
theorem dJh_checkPlace_1 : decode bJh_checkPlace 1 = .ok (.ifCond .lt 14, 3) := by decide +kernel
theorem dJh_checkPlace_4 : decode bJh_checkPlace 4 = .ok (.iload_n 1, 1) := by decide +kernel
theorem dJh_checkPlace_5 : decode bJh_checkPlace 5 = .ok (.aload_n 0, 1) := by decide +kernel
theorem dJh_checkPlace_6 : decode bJh_checkPlace 6 = .ok (.getfield 27, 3) := by decide +kernel
theorem dJh_checkPlace_9 : decode bJh_checkPlace 9 = .ok (.getfield 69, 3) := by decide +kernel
theorem dJh_checkPlace_12 : decode bJh_checkPlace 12 = .ok (.if_icmp .lt 13, 3) := by decide +kernel
theorem dJh_checkPlace_15 : decode bJh_checkPlace 15 = .ok (.new 116, 3) := by decide +kernel
theorem dJh_checkPlace_18 : decode bJh_checkPlace 18 = .ok (.dup, 1) := by decide +kernel
theorem dJh_checkPlace_19 : decode bJh_checkPlace 19 = .ok (.ldc 140, 2) := by decide +kernel
theorem dJh_checkPlace_21 : decode bJh_checkPlace 21 = .ok (.invokespecial 120, 3) := by decide +kernel
theorem dJh_checkPlace_24 : decode bJh_checkPlace 24 = .ok (.athrow, 1) := by decide +kernel
theorem dJh_checkPlace_25 : decode bJh_checkPlace 25 = .ok (.return_, 1) := by decide +kernel
abbrev rJh_checkPlace : Room := { frames := 0, cells := 0, slots := 0, locals := 0 }
abbrev rxJh_checkPlace : Room := { frames := 6, cells := 1, slots := 6, locals := 90 }
def fJh_checkPlace_15 (M : jM) (F : jF) : Option (Nat × Int32 × jM × jF) := some (3, 0, M, F)
def fJh_checkPlace_0 (x1 : Int32) (M : jM) (F : jF) : Option (Nat × Int32 × jM × jF) := (if x1 < 0 then fJh_checkPlace_15  M F else (if x1 < (F 0) then some (0, 0, M, F) else fJh_checkPlace_15  M F))
abbrev fJh_checkPlace (x1 : Int32) (M : jM) (F : jF) : Option (Nat × Int32 × jM × jF) := fJh_checkPlace_0 x1 M F
set_option maxHeartbeats 4000000 in
set_option maxRecDepth 100000 in
theorem uJh_checkPlace_15 {p : Program} {e : Env} {s : State} {m : MethodId} {args : Array Value} {below : List Frame} {meth : Method} {c : Code} (l : Launch) (dC : Nat → ClassId) (dI : Nat → Nat → Nat) (cA : ClassId) (A : Nat → Nat) (Ap : Nat → Prop) (hC : jAt p s m args meth c bJh_checkPlace 2 none wJh_checkPlace RJh) (hA : ∀ q : Nat, s.heap.size ≤ q → Ap q) {r : Int32} {M' : jM} {F' : jF} : ∀ (M : jM) (F : jF) (B : Nat → Nat) (H : Heap) (locs : List Loc) (ls : Array Slot), jH (dC, dI) jCl [(cA, .int)] (jW cA A B M F) Ap s H locs → lv_has ls 2 [] → fJh_checkPlace_15 M F = some (0, r, M', F') → W p l e (headSpec wJh_checkPlace rJh_checkPlace).room s m args below meth c H locs 0 0 (jQv below (dC, dI) jCl [(cA, .int)] (fun B => jW cA A B (M') (F')) Ap args s) (F0 m 15 ls []) := by
  obtain ⟨hx, hb, hml, hr, hts, hown, hlocks, hN⟩ := id hC
  have hj : ∀ w ∈ jw, w.before args s = true := fun w h => hts w (List.mem_cons_of_mem _ h)
  intro  M F B H locs ls hJ hl h
  unfold fJh_checkPlace_15 at h
  exact (jk_no h).elim
set_option maxHeartbeats 4000000 in
set_option maxRecDepth 100000 in
theorem uJh_checkPlace_0 {p : Program} {e : Env} {s : State} {m : MethodId} {args : Array Value} {below : List Frame} {meth : Method} {c : Code} (l : Launch) (dC : Nat → ClassId) (dI : Nat → Nat → Nat) (cA : ClassId) (A : Nat → Nat) (Ap : Nat → Prop) (hC : jAt p s m args meth c bJh_checkPlace 2 none wJh_checkPlace RJh) (hA : ∀ q : Nat, s.heap.size ≤ q → Ap q) {r : Int32} {M' : jM} {F' : jF} : ∀ (x1 : Int32) (M : jM) (F : jF) (B : Nat → Nat) (H : Heap) (locs : List Loc) (ls : Array Slot), jH (dC, dI) jCl [(cA, .int)] (jW cA A B M F) Ap s H locs → lv_has ls 2 [(0, .ref (A 0)), (1, .int x1)] → fJh_checkPlace_0 x1 M F = some (0, r, M', F') → W p l e (headSpec wJh_checkPlace rJh_checkPlace).room s m args below meth c H locs 0 0 (jQv below (dC, dI) jCl [(cA, .int)] (fun B => jW cA A B (M') (F')) Ap args s) (F0 m 0 ls []) := by
  obtain ⟨hx, hb, hml, hr, hts, hown, hlocks, hN⟩ := id hC
  have hj : ∀ w ∈ jw, w.before args s = true := fun w h => hts w (List.mem_cons_of_mem _ h)
  intro x1 M F B H locs ls hJ hl h
  unfold fJh_checkPlace_0 at h
  refine lv_iload_n hx hb dJh_checkPlace_0 rfl (lv_at hl 1 rfl) ?_
  refine lv_if_lt (tgt := 15) hx hb dJh_checkPlace_1 (by decide) (fun c1 => ?_) (fun c1 => ?_)
  · replace h := jif_t c1 h
    exact uJh_checkPlace_15 l dC dI cA A Ap hC hA _ _ _ _ _ _ hJ (lv_sub hl [] rfl) h
  · replace h := jif_f c1 h
    refine lv_iload_n hx hb dJh_checkPlace_4 rfl (lv_at hl 1 rfl) ?_
    refine lv_aload_n hx hb dJh_checkPlace_5 rfl (lv_at hl 0 rfl) ?_
    refine va_get (D := (dC, dI)) (ci := 0) (v := .ref (A 3)) (C := RJh) (T := TJh) (N := 4) hx hb hj iJh hown hJ.1 hJ.2.1 0 rfl rfl 2 (by decide) (hj _ jw_182) (fun _ h9 => h9) rfl dJh_checkPlace_6 ?_
    refine va_getN (D := (dC, dI)) (ci := 3) (v := .int (F 0)) (C := RQu) (T := TQu) (N := 10) hx hb hj iQu hown hJ.1 hJ.2.1 3 rfl rfl 8 (by decide) (jnw_use hN jnw_8) (fun _ h9 => h9) rfl dJh_checkPlace_9 ?_
    refine lv_icmp_lt (tgt := 25) hx hb dJh_checkPlace_12 (by decide) (fun c2 => ?_) (fun c2 => ?_)
    · replace h := jif_t c2 h
      cases h
      exact jretv (u := B) hx hb hr hlocks hJ dJh_checkPlace_25
    · replace h := jif_f c2 h
      exact uJh_checkPlace_15 l dC dI cA A Ap hC hA _ _ _ _ _ _ hJ (lv_sub hl [] rfl) h
set_option maxHeartbeats 4000000 in
set_option maxRecDepth 100000 in
theorem cJh_checkPlace (l : Launch) (dC : Nat → ClassId) (dI : Nat → Nat → Nat) (cA : ClassId) (A : Nat → Nat) (x1 : Int32) (M : jM) (F : jF) (B : Nat → Nat) (sz : Nat) {r : Int32} {M' : jM} {F' : jF} (h : fJh_checkPlace x1 M F = some (0, r, M', F')) : jCv l yJh_checkPlace wJh_checkPlace rJh_checkPlace (dC, dI) jCl [(cA, .int)] [.ref (A 0), .int x1] (jW cA A B M F) sz (fun B => jW cA A B (M') (F')) :=
  jOf (Qc := fun Ap => va_Qv (fun _ : Nat → Nat => True) (jPost (dC, dI) jCl [(cA, .int)] (fun B => jW cA A B (M') (F')) Ap) Ap) (by decide) rfl (Nat.le_of_ble_eq_true rfl) (fun p e s m below meth c Ap ls hC hA hJ hl => uJh_checkPlace_0 l dC dI cA A Ap hC hA _ _ _ _ _ _ _ hJ (lv_sub hl [0, 1] rfl) h)
set_option maxHeartbeats 4000000 in
set_option maxRecDepth 100000 in
theorem uxJh_checkPlace_15 {p : Program} {e : Env} {s : State} {m : MethodId} {args : Array Value} {below : List Frame} {meth : Method} {c : Code} (l : Launch) (dC : Nat → ClassId) (dI : Nat → Nat → Nat) (cA : ClassId) (A : Nat → Nat) (Ap : Nat → Prop) (hX : jAtX l Ap s c) (hC : jAt p s m args meth c bJh_checkPlace 2 none wJh_checkPlace RJh) (hA : ∀ q : Nat, s.heap.size ≤ q → Ap q) {k : Nat} (hk : ¬ k = 0) {r : Int32} {M' : jM} {F' : jF} : ∀ (M : jM) (F : jF) (B : Nat → Nat) (H : Heap) (locs : List Loc) (ls : Array Slot), jH (dC, dI) jCl [(cA, .int)] (jW cA A B M F) Ap s H locs → lv_has ls 2 [] → fJh_checkPlace_15 M F = some (k, r, M', F') → W p l e (headSpec wJh_checkPlace rxJh_checkPlace).room s m args below meth c H locs 0 0 (jQx below (dC, dI) jCl [(cA, .int)] (fun B => jW cA A B (M') (F')) Ap args s k) (F0 m 15 ls []) := by
  obtain ⟨hx, hb, hml, hr, hts, hown, hlocks, hN⟩ := id hC
  have hj : ∀ w ∈ jw, w.before args s = true := fun w h => hts w (List.mem_cons_of_mem _ h)
  intro  M F B H locs ls hJ hl h
  unfold fJh_checkPlace_15 at h
  cases h
  exact jthrow_3 (text := "no such place") (u := B) hx hb hml hown hj hX hlocks hl.1 hJ (by decide) dJh_checkPlace_15 dJh_checkPlace_18 dJh_checkPlace_19 dJh_checkPlace_21 dJh_checkPlace_24 (Nat.le_of_ble_eq_true rfl) (Nat.le_of_ble_eq_true rfl) (Nat.le_of_ble_eq_true rfl) (Nat.le_of_ble_eq_true rfl)
set_option maxHeartbeats 4000000 in
set_option maxRecDepth 100000 in
theorem uxJh_checkPlace_0 {p : Program} {e : Env} {s : State} {m : MethodId} {args : Array Value} {below : List Frame} {meth : Method} {c : Code} (l : Launch) (dC : Nat → ClassId) (dI : Nat → Nat → Nat) (cA : ClassId) (A : Nat → Nat) (Ap : Nat → Prop) (hX : jAtX l Ap s c) (hC : jAt p s m args meth c bJh_checkPlace 2 none wJh_checkPlace RJh) (hA : ∀ q : Nat, s.heap.size ≤ q → Ap q) {k : Nat} (hk : ¬ k = 0) {r : Int32} {M' : jM} {F' : jF} : ∀ (x1 : Int32) (M : jM) (F : jF) (B : Nat → Nat) (H : Heap) (locs : List Loc) (ls : Array Slot), jH (dC, dI) jCl [(cA, .int)] (jW cA A B M F) Ap s H locs → lv_has ls 2 [(0, .ref (A 0)), (1, .int x1)] → fJh_checkPlace_0 x1 M F = some (k, r, M', F') → W p l e (headSpec wJh_checkPlace rxJh_checkPlace).room s m args below meth c H locs 0 0 (jQx below (dC, dI) jCl [(cA, .int)] (fun B => jW cA A B (M') (F')) Ap args s k) (F0 m 0 ls []) := by
  obtain ⟨hx, hb, hml, hr, hts, hown, hlocks, hN⟩ := id hC
  have hj : ∀ w ∈ jw, w.before args s = true := fun w h => hts w (List.mem_cons_of_mem _ h)
  intro x1 M F B H locs ls hJ hl h
  unfold fJh_checkPlace_0 at h
  refine lv_iload_n hx hb dJh_checkPlace_0 rfl (lv_at hl 1 rfl) ?_
  refine lv_if_lt (tgt := 15) hx hb dJh_checkPlace_1 (by decide) (fun c1 => ?_) (fun c1 => ?_)
  · replace h := jif_t c1 h
    exact uxJh_checkPlace_15 l dC dI cA A Ap hX hC hA hk _ _ _ _ _ _ hJ (lv_sub hl [] rfl) h
  · replace h := jif_f c1 h
    refine lv_iload_n hx hb dJh_checkPlace_4 rfl (lv_at hl 1 rfl) ?_
    refine lv_aload_n hx hb dJh_checkPlace_5 rfl (lv_at hl 0 rfl) ?_
    refine va_get (D := (dC, dI)) (ci := 0) (v := .ref (A 3)) (C := RJh) (T := TJh) (N := 4) hx hb hj iJh hown hJ.1 hJ.2.1 0 rfl rfl 2 (by decide) (hj _ jw_182) (fun _ h9 => h9) rfl dJh_checkPlace_6 ?_
    refine va_getN (D := (dC, dI)) (ci := 3) (v := .int (F 0)) (C := RQu) (T := TQu) (N := 10) hx hb hj iQu hown hJ.1 hJ.2.1 3 rfl rfl 8 (by decide) (jnw_use hN jnw_8) (fun _ h9 => h9) rfl dJh_checkPlace_9 ?_
    refine lv_icmp_lt (tgt := 25) hx hb dJh_checkPlace_12 (by decide) (fun c2 => ?_) (fun c2 => ?_)
    · replace h := jif_t c2 h
      exact (jk_no3 hk h.symm).elim
    · replace h := jif_f c2 h
      exact uxJh_checkPlace_15 l dC dI cA A Ap hX hC hA hk _ _ _ _ _ _ hJ (lv_sub hl [] rfl) h
set_option maxHeartbeats 4000000 in
set_option maxRecDepth 100000 in
theorem cxJh_checkPlace (l : Launch) (dC : Nat → ClassId) (dI : Nat → Nat → Nat) (cA : ClassId) (A : Nat → Nat) (hl0 : l.stackTraces = false) (x1 : Int32) (M : jM) (F : jF) (B : Nat → Nat) (sz : Nat) {k : Nat} (hk : ¬ k = 0) {r : Int32} {M' : jM} {F' : jF} (h : fJh_checkPlace x1 M F = some (k, r, M', F')) : jCx l yJh_checkPlace wJh_checkPlace rxJh_checkPlace (dC, dI) jCl [(cA, .int)] [.ref (A 0), .int x1] (jW cA A B M F) sz k (fun B => jW cA A B (M') (F')) :=
  jOfX hl0 (by decide) rfl (Nat.le_of_ble_eq_true rfl) (fun p e s m below meth c Ap ls hC hX hA hJ hl => uxJh_checkPlace_0 l dC dI cA A Ap hX hC hA hk _ _ _ _ _ _ _ hJ (lv_sub hl [0, 1] rfl) h)
abbrev bJh_plan : ByteArray := prog_1_method_9_code
abbrev yJh_plan : MethodName := ⟨RJh, "plan", "(I)I"⟩
abbrev wJh_plan : List Cond := .code yJh_plan bJh_plan 2 (some .int) :: jw
theorem dJh_plan_0 : decode bJh_plan 0 = .ok (.aload_n 0, 1) := by decide +kernel
theorem dJh_plan_1 : decode bJh_plan 1 = .ok (.iload_n 1, 1) := by decide +kernel
theorem dJh_plan_2 : decode bJh_plan 2 = .ok (.invokevirtual 87, 3) := by decide +kernel
theorem dJh_plan_5 : decode bJh_plan 5 = .ok (.aload_n 0, 1) := by decide +kernel
theorem dJh_plan_6 : decode bJh_plan 6 = .ok (.getfield 20, 3) := by decide +kernel
theorem dJh_plan_9 : decode bJh_plan 9 = .ok (.invokevirtual 91, 3) := by decide +kernel
theorem dJh_plan_12 : decode bJh_plan 12 = .ok (.aload_n 0, 1) := by decide +kernel
theorem dJh_plan_13 : decode bJh_plan 13 = .ok (.getfield 20, 3) := by decide +kernel
theorem dJh_plan_16 : decode bJh_plan 16 = .ok (.getfield 94, 3) := by decide +kernel
theorem dJh_plan_19 : decode bJh_plan 19 = .ok (.iload_n 1, 1) := by decide +kernel
theorem dJh_plan_20 : decode bJh_plan 20 = .ok (.iaload, 1) := by decide +kernel
theorem dJh_plan_21 : decode bJh_plan 21 = .ok (.ireturn, 1) := by decide +kernel
abbrev rJh_plan : Room := { frames := 5, cells := 0, slots := 0, locals := 111 }
abbrev rxJh_plan : Room := { frames := 7, cells := 1, slots := 6, locals := 111 }
def fJh_plan_0 (x1 : Int32) (M : jM) (F : jF) : Option (Nat × Int32 × jM × jF) := ((fJh_checkPlace x1 M F).bind fun q1 => if q1.1 = 0 then ((fPl_make q1.2.2.1 q1.2.2.2).bind fun q3 => (if jib x1 6 then some (0, q3.2.1 19 x1.toNatClampNeg, q3.2.1, q3.2.2) else none)) else some (q1.1, 0, q1.2.2.1, q1.2.2.2))
abbrev fJh_plan (x1 : Int32) (M : jM) (F : jF) : Option (Nat × Int32 × jM × jF) := fJh_plan_0 x1 M F
set_option maxHeartbeats 4000000 in
set_option maxRecDepth 100000 in
theorem uJh_plan_0 {p : Program} {e : Env} {s : State} {m : MethodId} {args : Array Value} {below : List Frame} {meth : Method} {c : Code} (l : Launch) (dC : Nat → ClassId) (dI : Nat → Nat → Nat) (cA : ClassId) (A : Nat → Nat) (Ap : Nat → Prop) (hC : jAt p s m args meth c bJh_plan 2 (some .int) wJh_plan RJh) (hA : ∀ q : Nat, s.heap.size ≤ q → Ap q) {r : Int32} {M' : jM} {F' : jF} : ∀ (x1 : Int32) (M : jM) (F : jF) (B : Nat → Nat) (H : Heap) (locs : List Loc) (ls : Array Slot), jH (dC, dI) jCl [(cA, .int)] (jW cA A B M F) Ap s H locs → lv_has ls 2 [(0, .ref (A 0)), (1, .int x1)] → fJh_plan_0 x1 M F = some (0, r, M', F') → W p l e (headSpec wJh_plan rJh_plan).room s m args below meth c H locs 0 0 (jQi below (dC, dI) jCl [(cA, .int)] (fun B => jW cA A B (M') (F')) Ap args s r) (F0 m 0 ls []) := by
  obtain ⟨hx, hb, hml, hr, hts, hown, hlocks, hN⟩ := id hC
  have hj : ∀ w ∈ jw, w.before args s = true := fun w h => hts w (List.mem_cons_of_mem _ h)
  intro x1 M F B H locs ls hJ hl h
  unfold fJh_plan_0 at h
  refine lv_aload_n hx hb dJh_plan_0 rfl (lv_at hl 0 rfl) ?_
  refine lv_iload_n hx hb dJh_plan_1 rfl (lv_at hl 1 rfl) ?_
  obtain ⟨q1, hq1, h⟩ := jbi_h h
  by_cases cq1 : q1.1 = 0
  · replace h := jif_t cq1 h
    refine jcallv (w' := fun B => jW cA A B q1.2.2.1 q1.2.2.2) (va_runV (As := [.int x1]) (rest := []) ⟨hx, hb, hml, hown, hts⟩ (cJh_checkPlace l dC dI cA A x1 M F B H.size (hq1.trans (congrArg some (Prod.ext cq1 rfl)))) (cwV 1 hts (jgoodV jw_388 jw_390 jws_5 jw_1 jw_391) rfl rfl rfl (by decide +kernel) ⟨Nat.le_of_ble_eq_true rfl, Nat.le_of_ble_eq_true rfl⟩) (jpreV hN hJ (ci := 0) (q0 := 0) rfl rfl) rfl rfl hl.1 rfl (lv_room (Nat.le_of_ble_eq_true rfl)) dJh_plan_2 ⟨Nat.zero_le _, Nat.zero_le _⟩) hA hJ (fun B2 H locs hJ => ?_)
    refine lv_aload_n hx hb dJh_plan_5 rfl (lv_at hl 0 rfl) ?_
    refine va_get (D := (dC, dI)) (ci := 0) (v := .ref (A 2)) (C := RJh) (T := TJh) (N := 4) hx hb hj iJh hown hJ.1 hJ.2.1 0 rfl rfl 1 (by decide) (hj _ jw_181) (fun _ h9 => h9) rfl dJh_plan_6 ?_
    obtain ⟨q3, hq3, h⟩ := jbi_h h
    refine jcallv (w' := fun B => jW cA A B q3.2.1 q3.2.2) (va_runV (As := []) (rest := []) ⟨hx, hb, hml, hown, hts⟩ (cPl_make l dC dI cA A q1.2.2.1 q1.2.2.2 B2 H.size hq3) (cwV 0 hts (jgoodV jw_408 jw_409 jw_410 jw_3 jw_411) rfl rfl rfl (by decide +kernel) ⟨Nat.le_of_ble_eq_true rfl, Nat.le_of_ble_eq_true rfl⟩) (jpreV hN hJ (ci := 2) (q0 := 2) rfl rfl) rfl rfl hl.1 rfl (lv_room (Nat.le_of_ble_eq_true rfl)) dJh_plan_9 ⟨Nat.zero_le _, Nat.zero_le _⟩) hA hJ (fun B4 H locs hJ => ?_)
    refine lv_aload_n hx hb dJh_plan_12 rfl (lv_at hl 0 rfl) ?_
    refine va_get (D := (dC, dI)) (ci := 0) (v := .ref (A 2)) (C := RJh) (T := TJh) (N := 4) hx hb hj iJh hown hJ.1 hJ.2.1 0 rfl rfl 1 (by decide) (hj _ jw_181) (fun _ h9 => h9) rfl dJh_plan_13 ?_
    refine va_getN (D := (dC, dI)) (ci := 2) (v := .ref (A 19)) (C := RPl) (T := TPl) (N := 4) hx hb hj iPl hown hJ.1 hJ.2.1 2 rfl rfl 3 (by decide) (jnw_use hN jnw_15) (fun _ h9 => h9) rfl dJh_plan_16 ?_
    refine lv_iload_n hx hb dJh_plan_19 rfl (lv_at hl 1 rfl) ?_
    obtain ⟨hi5, h⟩ := jib_h h
    refine jald_19 hx hb hJ hi5 dJh_plan_20 ?_
    cases h
    exact jreti (u := B4) hx hb hr rfl hlocks hJ dJh_plan_21 rfl
  · replace h := jif_f cq1 h
    exact (jk_no3 cq1 h).elim
set_option maxHeartbeats 4000000 in
set_option maxRecDepth 100000 in
theorem cJh_plan (l : Launch) (dC : Nat → ClassId) (dI : Nat → Nat → Nat) (cA : ClassId) (A : Nat → Nat) (x1 : Int32) (M : jM) (F : jF) (B : Nat → Nat) (sz : Nat) {r : Int32} {M' : jM} {F' : jF} (h : fJh_plan x1 M F = some (0, r, M', F')) : jCi l yJh_plan wJh_plan rJh_plan (dC, dI) jCl [(cA, .int)] [.ref (A 0), .int x1] (jW cA A B M F) sz r (fun B => jW cA A B (M') (F')) :=
  jOf (Qc := fun Ap => va_Qi (fun q (_ : Nat → Nat) => q = r) (jPost (dC, dI) jCl [(cA, .int)] (fun B => jW cA A B (M') (F')) Ap) Ap) (by decide) rfl (Nat.le_of_ble_eq_true rfl) (fun p e s m below meth c Ap ls hC hA hJ hl => uJh_plan_0 l dC dI cA A Ap hC hA _ _ _ _ _ _ _ hJ (lv_sub hl [0, 1] rfl) h)
set_option maxHeartbeats 4000000 in
set_option maxRecDepth 100000 in
theorem uxJh_plan_0 {p : Program} {e : Env} {s : State} {m : MethodId} {args : Array Value} {below : List Frame} {meth : Method} {c : Code} (l : Launch) (dC : Nat → ClassId) (dI : Nat → Nat → Nat) (cA : ClassId) (A : Nat → Nat) (Ap : Nat → Prop) (hX : jAtX l Ap s c) (hC : jAt p s m args meth c bJh_plan 2 (some .int) wJh_plan RJh) (hA : ∀ q : Nat, s.heap.size ≤ q → Ap q) {k : Nat} (hk : ¬ k = 0) {r : Int32} {M' : jM} {F' : jF} : ∀ (x1 : Int32) (M : jM) (F : jF) (B : Nat → Nat) (H : Heap) (locs : List Loc) (ls : Array Slot), jH (dC, dI) jCl [(cA, .int)] (jW cA A B M F) Ap s H locs → lv_has ls 2 [(0, .ref (A 0)), (1, .int x1)] → fJh_plan_0 x1 M F = some (k, r, M', F') → W p l e (headSpec wJh_plan rxJh_plan).room s m args below meth c H locs 0 0 (jQx below (dC, dI) jCl [(cA, .int)] (fun B => jW cA A B (M') (F')) Ap args s k) (F0 m 0 ls []) := by
  obtain ⟨hx, hb, hml, hr, hts, hown, hlocks, hN⟩ := id hC
  have hj : ∀ w ∈ jw, w.before args s = true := fun w h => hts w (List.mem_cons_of_mem _ h)
  intro x1 M F B H locs ls hJ hl h
  unfold fJh_plan_0 at h
  refine lv_aload_n hx hb dJh_plan_0 rfl (lv_at hl 0 rfl) ?_
  refine lv_iload_n hx hb dJh_plan_1 rfl (lv_at hl 1 rfl) ?_
  obtain ⟨q1, hq1, h⟩ := jbi_h h
  by_cases cq1 : q1.1 = 0
  · replace h := jif_t cq1 h
    refine jcallv (w' := fun B => jW cA A B q1.2.2.1 q1.2.2.2) (va_runV (As := [.int x1]) (rest := []) ⟨hx, hb, hml, hown, hts⟩ (cJh_checkPlace l dC dI cA A x1 M F B H.size (hq1.trans (congrArg some (Prod.ext cq1 rfl)))) (cwV 1 hts (jgoodV jw_388 jw_390 jws_5 jw_1 jw_391) rfl rfl rfl (by decide +kernel) ⟨Nat.le_of_ble_eq_true rfl, Nat.le_of_ble_eq_true rfl⟩) (jpreV hN hJ (ci := 0) (q0 := 0) rfl rfl) rfl rfl hl.1 rfl (lv_room (Nat.le_of_ble_eq_true rfl)) dJh_plan_2 ⟨Nat.zero_le _, Nat.zero_le _⟩) hA hJ (fun B2 H locs hJ => ?_)
    refine lv_aload_n hx hb dJh_plan_5 rfl (lv_at hl 0 rfl) ?_
    refine va_get (D := (dC, dI)) (ci := 0) (v := .ref (A 2)) (C := RJh) (T := TJh) (N := 4) hx hb hj iJh hown hJ.1 hJ.2.1 0 rfl rfl 1 (by decide) (hj _ jw_181) (fun _ h9 => h9) rfl dJh_plan_6 ?_
    obtain ⟨q3, hq3, h⟩ := jbi_h h
    refine jcallv (w' := fun B => jW cA A B q3.2.1 q3.2.2) (va_runV (As := []) (rest := []) ⟨hx, hb, hml, hown, hts⟩ (cPl_make l dC dI cA A q1.2.2.1 q1.2.2.2 B2 H.size hq3) (cwV 0 hts (jgoodV jw_408 jw_409 jw_410 jw_3 jw_411) rfl rfl rfl (by decide +kernel) ⟨Nat.le_of_ble_eq_true rfl, Nat.le_of_ble_eq_true rfl⟩) (jpreV hN hJ (ci := 2) (q0 := 2) rfl rfl) rfl rfl hl.1 rfl (lv_room (Nat.le_of_ble_eq_true rfl)) dJh_plan_9 ⟨Nat.zero_le _, Nat.zero_le _⟩) hA hJ (fun B4 H locs hJ => ?_)
    refine lv_aload_n hx hb dJh_plan_12 rfl (lv_at hl 0 rfl) ?_
    refine va_get (D := (dC, dI)) (ci := 0) (v := .ref (A 2)) (C := RJh) (T := TJh) (N := 4) hx hb hj iJh hown hJ.1 hJ.2.1 0 rfl rfl 1 (by decide) (hj _ jw_181) (fun _ h9 => h9) rfl dJh_plan_13 ?_
    refine va_getN (D := (dC, dI)) (ci := 2) (v := .ref (A 19)) (C := RPl) (T := TPl) (N := 4) hx hb hj iPl hown hJ.1 hJ.2.1 2 rfl rfl 3 (by decide) (jnw_use hN jnw_15) (fun _ h9 => h9) rfl dJh_plan_16 ?_
    refine lv_iload_n hx hb dJh_plan_19 rfl (lv_at hl 1 rfl) ?_
    obtain ⟨hi5, h⟩ := jib_h h
    refine jald_19 hx hb hJ hi5 dJh_plan_20 ?_
    exact (jk_no3 hk h.symm).elim
  · replace h := jif_f cq1 h
    cases h
    exact jxcall (vx_runV (As := [.int x1]) (rest := []) ⟨hx, hb, hml, hown, hts⟩ (cxJh_checkPlace l dC dI cA A hX.1 x1 M F B H.size cq1 hq1) (cwV 1 hts (jgoodV jw_388 jw_390 jws_5 jw_1 jw_391) rfl rfl rfl (by decide +kernel) ⟨Nat.le_of_ble_eq_true rfl, Nat.le_of_ble_eq_true rfl⟩) (jpreVX hX.2.1 hA hN hJ (ci := 0) (q0 := 0) rfl rfl) rfl rfl hl.1 rfl (lv_room (Nat.le_of_ble_eq_true rfl)) dJh_plan_2 ⟨Nat.le_of_ble_eq_true rfl, Nat.le_of_ble_eq_true rfl⟩) hA hJ hX.2.2 hlocks
set_option maxHeartbeats 4000000 in
set_option maxRecDepth 100000 in
theorem cxJh_plan (l : Launch) (dC : Nat → ClassId) (dI : Nat → Nat → Nat) (cA : ClassId) (A : Nat → Nat) (hl0 : l.stackTraces = false) (x1 : Int32) (M : jM) (F : jF) (B : Nat → Nat) (sz : Nat) {k : Nat} (hk : ¬ k = 0) {r : Int32} {M' : jM} {F' : jF} (h : fJh_plan x1 M F = some (k, r, M', F')) : jCx l yJh_plan wJh_plan rxJh_plan (dC, dI) jCl [(cA, .int)] [.ref (A 0), .int x1] (jW cA A B M F) sz k (fun B => jW cA A B (M') (F')) :=
  jOfX hl0 (by decide) rfl (Nat.le_of_ble_eq_true rfl) (fun p e s m below meth c Ap ls hC hX hA hJ hl => uxJh_plan_0 l dC dI cA A Ap hX hC hA hk _ _ _ _ _ _ _ hJ (lv_sub hl [0, 1] rfl) h)
abbrev bJh_method : ByteArray := prog_1_method_10_code
abbrev yJh_method : MethodName := ⟨RJh, "method", "(I)I"⟩
abbrev wJh_method : List Cond := .code yJh_method bJh_method 2 (some .int) :: jw
theorem dJh_method_0 : decode bJh_method 0 = .ok (.aload_n 0, 1) := by decide +kernel
theorem dJh_method_1 : decode bJh_method 1 = .ok (.iload_n 1, 1) := by decide +kernel
theorem dJh_method_2 : decode bJh_method 2 = .ok (.invokevirtual 87, 3) := by decide +kernel
theorem dJh_method_5 : decode bJh_method 5 = .ok (.aload_n 0, 1) := by decide +kernel
theorem dJh_method_6 : decode bJh_method 6 = .ok (.getfield 20, 3) := by decide +kernel
theorem dJh_method_9 : decode bJh_method 9 = .ok (.invokevirtual 91, 3) := by decide +kernel
theorem dJh_method_12 : decode bJh_method 12 = .ok (.aload_n 0, 1) := by decide +kernel
theorem dJh_method_13 : decode bJh_method 13 = .ok (.getfield 20, 3) := by decide +kernel
theorem dJh_method_16 : decode bJh_method 16 = .ok (.iload_n 1, 1) := by decide +kernel
theorem dJh_method_17 : decode bJh_method 17 = .ok (.invokevirtual 98, 3) := by decide +kernel
theorem dJh_method_20 : decode bJh_method 20 = .ok (.ireturn, 1) := by decide +kernel
abbrev rJh_method : Room := { frames := 5, cells := 0, slots := 0, locals := 115 }
abbrev rxJh_method : Room := { frames := 7, cells := 1, slots := 6, locals := 115 }
def fJh_method_0 (x1 : Int32) (M : jM) (F : jF) : Option (Nat × Int32 × jM × jF) := ((fJh_checkPlace x1 M F).bind fun q1 => if q1.1 = 0 then ((fPl_make q1.2.2.1 q1.2.2.2).bind fun q3 => ((fPl_methodAt x1 q3.2.1 q3.2.2).bind fun q5 => some (0, q5, q3.2.1, q3.2.2))) else some (q1.1, 0, q1.2.2.1, q1.2.2.2))
abbrev fJh_method (x1 : Int32) (M : jM) (F : jF) : Option (Nat × Int32 × jM × jF) := fJh_method_0 x1 M F
set_option maxHeartbeats 4000000 in
set_option maxRecDepth 100000 in
theorem uJh_method_0 {p : Program} {e : Env} {s : State} {m : MethodId} {args : Array Value} {below : List Frame} {meth : Method} {c : Code} (l : Launch) (dC : Nat → ClassId) (dI : Nat → Nat → Nat) (cA : ClassId) (A : Nat → Nat) (Ap : Nat → Prop) (hC : jAt p s m args meth c bJh_method 2 (some .int) wJh_method RJh) (hA : ∀ q : Nat, s.heap.size ≤ q → Ap q) {r : Int32} {M' : jM} {F' : jF} : ∀ (x1 : Int32) (M : jM) (F : jF) (B : Nat → Nat) (H : Heap) (locs : List Loc) (ls : Array Slot), jH (dC, dI) jCl [(cA, .int)] (jW cA A B M F) Ap s H locs → lv_has ls 2 [(0, .ref (A 0)), (1, .int x1)] → fJh_method_0 x1 M F = some (0, r, M', F') → W p l e (headSpec wJh_method rJh_method).room s m args below meth c H locs 0 0 (jQi below (dC, dI) jCl [(cA, .int)] (fun B => jW cA A B (M') (F')) Ap args s r) (F0 m 0 ls []) := by
  obtain ⟨hx, hb, hml, hr, hts, hown, hlocks, hN⟩ := id hC
  have hj : ∀ w ∈ jw, w.before args s = true := fun w h => hts w (List.mem_cons_of_mem _ h)
  intro x1 M F B H locs ls hJ hl h
  unfold fJh_method_0 at h
  refine lv_aload_n hx hb dJh_method_0 rfl (lv_at hl 0 rfl) ?_
  refine lv_iload_n hx hb dJh_method_1 rfl (lv_at hl 1 rfl) ?_
  obtain ⟨q1, hq1, h⟩ := jbi_h h
  by_cases cq1 : q1.1 = 0
  · replace h := jif_t cq1 h
    refine jcallv (w' := fun B => jW cA A B q1.2.2.1 q1.2.2.2) (va_runV (As := [.int x1]) (rest := []) ⟨hx, hb, hml, hown, hts⟩ (cJh_checkPlace l dC dI cA A x1 M F B H.size (hq1.trans (congrArg some (Prod.ext cq1 rfl)))) (cwV 1 hts (jgoodV jw_388 jw_390 jws_5 jw_1 jw_391) rfl rfl rfl (by decide +kernel) ⟨Nat.le_of_ble_eq_true rfl, Nat.le_of_ble_eq_true rfl⟩) (jpreV hN hJ (ci := 0) (q0 := 0) rfl rfl) rfl rfl hl.1 rfl (lv_room (Nat.le_of_ble_eq_true rfl)) dJh_method_2 ⟨Nat.zero_le _, Nat.zero_le _⟩) hA hJ (fun B2 H locs hJ => ?_)
    refine lv_aload_n hx hb dJh_method_5 rfl (lv_at hl 0 rfl) ?_
    refine va_get (D := (dC, dI)) (ci := 0) (v := .ref (A 2)) (C := RJh) (T := TJh) (N := 4) hx hb hj iJh hown hJ.1 hJ.2.1 0 rfl rfl 1 (by decide) (hj _ jw_181) (fun _ h9 => h9) rfl dJh_method_6 ?_
    obtain ⟨q3, hq3, h⟩ := jbi_h h
    refine jcallv (w' := fun B => jW cA A B q3.2.1 q3.2.2) (va_runV (As := []) (rest := []) ⟨hx, hb, hml, hown, hts⟩ (cPl_make l dC dI cA A q1.2.2.1 q1.2.2.2 B2 H.size hq3) (cwV 0 hts (jgoodV jw_408 jw_409 jw_410 jw_3 jw_411) rfl rfl rfl (by decide +kernel) ⟨Nat.le_of_ble_eq_true rfl, Nat.le_of_ble_eq_true rfl⟩) (jpreV hN hJ (ci := 2) (q0 := 2) rfl rfl) rfl rfl hl.1 rfl (lv_room (Nat.le_of_ble_eq_true rfl)) dJh_method_9 ⟨Nat.zero_le _, Nat.zero_le _⟩) hA hJ (fun B4 H locs hJ => ?_)
    refine lv_aload_n hx hb dJh_method_12 rfl (lv_at hl 0 rfl) ?_
    refine va_get (D := (dC, dI)) (ci := 0) (v := .ref (A 2)) (C := RJh) (T := TJh) (N := 4) hx hb hj iJh hown hJ.1 hJ.2.1 0 rfl rfl 1 (by decide) (hj _ jw_181) (fun _ h9 => h9) rfl dJh_method_13 ?_
    refine lv_iload_n hx hb dJh_method_16 rfl (lv_at hl 1 rfl) ?_
    obtain ⟨q5, hq5, h⟩ := jbi_h h
    refine jcalli (w' := fun B => jW cA A B q3.2.1 q3.2.2) (va_runV (As := [.int x1]) (rest := []) ⟨hx, hb, hml, hown, hts⟩ (cPl_methodAt l dC dI cA A x1 q3.2.1 q3.2.2 B4 H.size hq5) (cwV 1 hts (jgoodV jw_458 jw_459 jw_460 jw_3 jw_461) rfl rfl rfl (by decide +kernel) ⟨Nat.le_of_ble_eq_true rfl, Nat.le_of_ble_eq_true rfl⟩) (jpreV hN hJ (ci := 2) (q0 := 2) rfl rfl) rfl rfl hl.1 rfl (lv_room (Nat.le_of_ble_eq_true rfl)) dJh_method_17 ⟨Nat.zero_le _, Nat.zero_le _⟩) hA hJ (fun B4 H locs hJ => ?_)
    cases h
    exact jreti (u := B4) hx hb hr rfl hlocks hJ dJh_method_20 rfl
  · replace h := jif_f cq1 h
    exact (jk_no3 cq1 h).elim
set_option maxHeartbeats 4000000 in
set_option maxRecDepth 100000 in
theorem cJh_method (l : Launch) (dC : Nat → ClassId) (dI : Nat → Nat → Nat) (cA : ClassId) (A : Nat → Nat) (x1 : Int32) (M : jM) (F : jF) (B : Nat → Nat) (sz : Nat) {r : Int32} {M' : jM} {F' : jF} (h : fJh_method x1 M F = some (0, r, M', F')) : jCi l yJh_method wJh_method rJh_method (dC, dI) jCl [(cA, .int)] [.ref (A 0), .int x1] (jW cA A B M F) sz r (fun B => jW cA A B (M') (F')) :=
  jOf (Qc := fun Ap => va_Qi (fun q (_ : Nat → Nat) => q = r) (jPost (dC, dI) jCl [(cA, .int)] (fun B => jW cA A B (M') (F')) Ap) Ap) (by decide) rfl (Nat.le_of_ble_eq_true rfl) (fun p e s m below meth c Ap ls hC hA hJ hl => uJh_method_0 l dC dI cA A Ap hC hA _ _ _ _ _ _ _ hJ (lv_sub hl [0, 1] rfl) h)
set_option maxHeartbeats 4000000 in
set_option maxRecDepth 100000 in
theorem uxJh_method_0 {p : Program} {e : Env} {s : State} {m : MethodId} {args : Array Value} {below : List Frame} {meth : Method} {c : Code} (l : Launch) (dC : Nat → ClassId) (dI : Nat → Nat → Nat) (cA : ClassId) (A : Nat → Nat) (Ap : Nat → Prop) (hX : jAtX l Ap s c) (hC : jAt p s m args meth c bJh_method 2 (some .int) wJh_method RJh) (hA : ∀ q : Nat, s.heap.size ≤ q → Ap q) {k : Nat} (hk : ¬ k = 0) {r : Int32} {M' : jM} {F' : jF} : ∀ (x1 : Int32) (M : jM) (F : jF) (B : Nat → Nat) (H : Heap) (locs : List Loc) (ls : Array Slot), jH (dC, dI) jCl [(cA, .int)] (jW cA A B M F) Ap s H locs → lv_has ls 2 [(0, .ref (A 0)), (1, .int x1)] → fJh_method_0 x1 M F = some (k, r, M', F') → W p l e (headSpec wJh_method rxJh_method).room s m args below meth c H locs 0 0 (jQx below (dC, dI) jCl [(cA, .int)] (fun B => jW cA A B (M') (F')) Ap args s k) (F0 m 0 ls []) := by
  obtain ⟨hx, hb, hml, hr, hts, hown, hlocks, hN⟩ := id hC
  have hj : ∀ w ∈ jw, w.before args s = true := fun w h => hts w (List.mem_cons_of_mem _ h)
  intro x1 M F B H locs ls hJ hl h
  unfold fJh_method_0 at h
  refine lv_aload_n hx hb dJh_method_0 rfl (lv_at hl 0 rfl) ?_
  refine lv_iload_n hx hb dJh_method_1 rfl (lv_at hl 1 rfl) ?_
  obtain ⟨q1, hq1, h⟩ := jbi_h h
  by_cases cq1 : q1.1 = 0
  · replace h := jif_t cq1 h
    refine jcallv (w' := fun B => jW cA A B q1.2.2.1 q1.2.2.2) (va_runV (As := [.int x1]) (rest := []) ⟨hx, hb, hml, hown, hts⟩ (cJh_checkPlace l dC dI cA A x1 M F B H.size (hq1.trans (congrArg some (Prod.ext cq1 rfl)))) (cwV 1 hts (jgoodV jw_388 jw_390 jws_5 jw_1 jw_391) rfl rfl rfl (by decide +kernel) ⟨Nat.le_of_ble_eq_true rfl, Nat.le_of_ble_eq_true rfl⟩) (jpreV hN hJ (ci := 0) (q0 := 0) rfl rfl) rfl rfl hl.1 rfl (lv_room (Nat.le_of_ble_eq_true rfl)) dJh_method_2 ⟨Nat.zero_le _, Nat.zero_le _⟩) hA hJ (fun B2 H locs hJ => ?_)
    refine lv_aload_n hx hb dJh_method_5 rfl (lv_at hl 0 rfl) ?_
    refine va_get (D := (dC, dI)) (ci := 0) (v := .ref (A 2)) (C := RJh) (T := TJh) (N := 4) hx hb hj iJh hown hJ.1 hJ.2.1 0 rfl rfl 1 (by decide) (hj _ jw_181) (fun _ h9 => h9) rfl dJh_method_6 ?_
    obtain ⟨q3, hq3, h⟩ := jbi_h h
    refine jcallv (w' := fun B => jW cA A B q3.2.1 q3.2.2) (va_runV (As := []) (rest := []) ⟨hx, hb, hml, hown, hts⟩ (cPl_make l dC dI cA A q1.2.2.1 q1.2.2.2 B2 H.size hq3) (cwV 0 hts (jgoodV jw_408 jw_409 jw_410 jw_3 jw_411) rfl rfl rfl (by decide +kernel) ⟨Nat.le_of_ble_eq_true rfl, Nat.le_of_ble_eq_true rfl⟩) (jpreV hN hJ (ci := 2) (q0 := 2) rfl rfl) rfl rfl hl.1 rfl (lv_room (Nat.le_of_ble_eq_true rfl)) dJh_method_9 ⟨Nat.zero_le _, Nat.zero_le _⟩) hA hJ (fun B4 H locs hJ => ?_)
    refine lv_aload_n hx hb dJh_method_12 rfl (lv_at hl 0 rfl) ?_
    refine va_get (D := (dC, dI)) (ci := 0) (v := .ref (A 2)) (C := RJh) (T := TJh) (N := 4) hx hb hj iJh hown hJ.1 hJ.2.1 0 rfl rfl 1 (by decide) (hj _ jw_181) (fun _ h9 => h9) rfl dJh_method_13 ?_
    refine lv_iload_n hx hb dJh_method_16 rfl (lv_at hl 1 rfl) ?_
    obtain ⟨q5, hq5, h⟩ := jbi_h h
    refine jcalli (w' := fun B => jW cA A B q3.2.1 q3.2.2) (va_runV (As := [.int x1]) (rest := []) ⟨hx, hb, hml, hown, hts⟩ (cPl_methodAt l dC dI cA A x1 q3.2.1 q3.2.2 B4 H.size hq5) (cwV 1 hts (jgoodV jw_458 jw_459 jw_460 jw_3 jw_461) rfl rfl rfl (by decide +kernel) ⟨Nat.le_of_ble_eq_true rfl, Nat.le_of_ble_eq_true rfl⟩) (jpreV hN hJ (ci := 2) (q0 := 2) rfl rfl) rfl rfl hl.1 rfl (lv_room (Nat.le_of_ble_eq_true rfl)) dJh_method_17 ⟨Nat.zero_le _, Nat.zero_le _⟩) hA hJ (fun B4 H locs hJ => ?_)
    exact (jk_no3 hk h.symm).elim
  · replace h := jif_f cq1 h
    cases h
    exact jxcall (vx_runV (As := [.int x1]) (rest := []) ⟨hx, hb, hml, hown, hts⟩ (cxJh_checkPlace l dC dI cA A hX.1 x1 M F B H.size cq1 hq1) (cwV 1 hts (jgoodV jw_388 jw_390 jws_5 jw_1 jw_391) rfl rfl rfl (by decide +kernel) ⟨Nat.le_of_ble_eq_true rfl, Nat.le_of_ble_eq_true rfl⟩) (jpreVX hX.2.1 hA hN hJ (ci := 0) (q0 := 0) rfl rfl) rfl rfl hl.1 rfl (lv_room (Nat.le_of_ble_eq_true rfl)) dJh_method_2 ⟨Nat.le_of_ble_eq_true rfl, Nat.le_of_ble_eq_true rfl⟩) hA hJ hX.2.2 hlocks
set_option maxHeartbeats 4000000 in
set_option maxRecDepth 100000 in
theorem cxJh_method (l : Launch) (dC : Nat → ClassId) (dI : Nat → Nat → Nat) (cA : ClassId) (A : Nat → Nat) (hl0 : l.stackTraces = false) (x1 : Int32) (M : jM) (F : jF) (B : Nat → Nat) (sz : Nat) {k : Nat} (hk : ¬ k = 0) {r : Int32} {M' : jM} {F' : jF} (h : fJh_method x1 M F = some (k, r, M', F')) : jCx l yJh_method wJh_method rxJh_method (dC, dI) jCl [(cA, .int)] [.ref (A 0), .int x1] (jW cA A B M F) sz k (fun B => jW cA A B (M') (F')) :=
  jOfX hl0 (by decide) rfl (Nat.le_of_ble_eq_true rfl) (fun p e s m below meth c Ap ls hC hX hA hJ hl => uxJh_method_0 l dC dI cA A Ap hX hC hA hk _ _ _ _ _ _ _ hJ (lv_sub hl [0, 1] rfl) h)
abbrev bJh_size : ByteArray := prog_1_method_11_code
abbrev yJh_size : MethodName := ⟨RJh, "size", "(I)I"⟩
abbrev wJh_size : List Cond := .code yJh_size bJh_size 2 (some .int) :: jw
theorem dJh_size_0 : decode bJh_size 0 = .ok (.aload_n 0, 1) := by decide +kernel
theorem dJh_size_1 : decode bJh_size 1 = .ok (.iload_n 1, 1) := by decide +kernel
theorem dJh_size_2 : decode bJh_size 2 = .ok (.invokevirtual 87, 3) := by decide +kernel
theorem dJh_size_5 : decode bJh_size 5 = .ok (.aload_n 0, 1) := by decide +kernel
theorem dJh_size_6 : decode bJh_size 6 = .ok (.getfield 20, 3) := by decide +kernel
theorem dJh_size_9 : decode bJh_size 9 = .ok (.invokevirtual 91, 3) := by decide +kernel
theorem dJh_size_12 : decode bJh_size 12 = .ok (.aload_n 0, 1) := by decide +kernel
theorem dJh_size_13 : decode bJh_size 13 = .ok (.getfield 20, 3) := by decide +kernel
theorem dJh_size_16 : decode bJh_size 16 = .ok (.iload_n 1, 1) := by decide +kernel
theorem dJh_size_17 : decode bJh_size 17 = .ok (.invokevirtual 101, 3) := by decide +kernel
theorem dJh_size_20 : decode bJh_size 20 = .ok (.ireturn, 1) := by decide +kernel
abbrev rJh_size : Room := { frames := 5, cells := 0, slots := 0, locals := 111 }
abbrev rxJh_size : Room := { frames := 7, cells := 1, slots := 6, locals := 111 }
def fJh_size_0 (x1 : Int32) (M : jM) (F : jF) : Option (Nat × Int32 × jM × jF) := ((fJh_checkPlace x1 M F).bind fun q1 => if q1.1 = 0 then ((fPl_make q1.2.2.1 q1.2.2.2).bind fun q3 => ((fPl_sizeAt x1 q3.2.1 q3.2.2).bind fun q5 => some (0, q5, q3.2.1, q3.2.2))) else some (q1.1, 0, q1.2.2.1, q1.2.2.2))
abbrev fJh_size (x1 : Int32) (M : jM) (F : jF) : Option (Nat × Int32 × jM × jF) := fJh_size_0 x1 M F
set_option maxHeartbeats 4000000 in
set_option maxRecDepth 100000 in
theorem uJh_size_0 {p : Program} {e : Env} {s : State} {m : MethodId} {args : Array Value} {below : List Frame} {meth : Method} {c : Code} (l : Launch) (dC : Nat → ClassId) (dI : Nat → Nat → Nat) (cA : ClassId) (A : Nat → Nat) (Ap : Nat → Prop) (hC : jAt p s m args meth c bJh_size 2 (some .int) wJh_size RJh) (hA : ∀ q : Nat, s.heap.size ≤ q → Ap q) {r : Int32} {M' : jM} {F' : jF} : ∀ (x1 : Int32) (M : jM) (F : jF) (B : Nat → Nat) (H : Heap) (locs : List Loc) (ls : Array Slot), jH (dC, dI) jCl [(cA, .int)] (jW cA A B M F) Ap s H locs → lv_has ls 2 [(0, .ref (A 0)), (1, .int x1)] → fJh_size_0 x1 M F = some (0, r, M', F') → W p l e (headSpec wJh_size rJh_size).room s m args below meth c H locs 0 0 (jQi below (dC, dI) jCl [(cA, .int)] (fun B => jW cA A B (M') (F')) Ap args s r) (F0 m 0 ls []) := by
  obtain ⟨hx, hb, hml, hr, hts, hown, hlocks, hN⟩ := id hC
  have hj : ∀ w ∈ jw, w.before args s = true := fun w h => hts w (List.mem_cons_of_mem _ h)
  intro x1 M F B H locs ls hJ hl h
  unfold fJh_size_0 at h
  refine lv_aload_n hx hb dJh_size_0 rfl (lv_at hl 0 rfl) ?_
  refine lv_iload_n hx hb dJh_size_1 rfl (lv_at hl 1 rfl) ?_
  obtain ⟨q1, hq1, h⟩ := jbi_h h
  by_cases cq1 : q1.1 = 0
  · replace h := jif_t cq1 h
    refine jcallv (w' := fun B => jW cA A B q1.2.2.1 q1.2.2.2) (va_runV (As := [.int x1]) (rest := []) ⟨hx, hb, hml, hown, hts⟩ (cJh_checkPlace l dC dI cA A x1 M F B H.size (hq1.trans (congrArg some (Prod.ext cq1 rfl)))) (cwV 1 hts (jgoodV jw_388 jw_390 jws_5 jw_1 jw_391) rfl rfl rfl (by decide +kernel) ⟨Nat.le_of_ble_eq_true rfl, Nat.le_of_ble_eq_true rfl⟩) (jpreV hN hJ (ci := 0) (q0 := 0) rfl rfl) rfl rfl hl.1 rfl (lv_room (Nat.le_of_ble_eq_true rfl)) dJh_size_2 ⟨Nat.zero_le _, Nat.zero_le _⟩) hA hJ (fun B2 H locs hJ => ?_)
    refine lv_aload_n hx hb dJh_size_5 rfl (lv_at hl 0 rfl) ?_
    refine va_get (D := (dC, dI)) (ci := 0) (v := .ref (A 2)) (C := RJh) (T := TJh) (N := 4) hx hb hj iJh hown hJ.1 hJ.2.1 0 rfl rfl 1 (by decide) (hj _ jw_181) (fun _ h9 => h9) rfl dJh_size_6 ?_
    obtain ⟨q3, hq3, h⟩ := jbi_h h
    refine jcallv (w' := fun B => jW cA A B q3.2.1 q3.2.2) (va_runV (As := []) (rest := []) ⟨hx, hb, hml, hown, hts⟩ (cPl_make l dC dI cA A q1.2.2.1 q1.2.2.2 B2 H.size hq3) (cwV 0 hts (jgoodV jw_408 jw_409 jw_410 jw_3 jw_411) rfl rfl rfl (by decide +kernel) ⟨Nat.le_of_ble_eq_true rfl, Nat.le_of_ble_eq_true rfl⟩) (jpreV hN hJ (ci := 2) (q0 := 2) rfl rfl) rfl rfl hl.1 rfl (lv_room (Nat.le_of_ble_eq_true rfl)) dJh_size_9 ⟨Nat.zero_le _, Nat.zero_le _⟩) hA hJ (fun B4 H locs hJ => ?_)
    refine lv_aload_n hx hb dJh_size_12 rfl (lv_at hl 0 rfl) ?_
    refine va_get (D := (dC, dI)) (ci := 0) (v := .ref (A 2)) (C := RJh) (T := TJh) (N := 4) hx hb hj iJh hown hJ.1 hJ.2.1 0 rfl rfl 1 (by decide) (hj _ jw_181) (fun _ h9 => h9) rfl dJh_size_13 ?_
    refine lv_iload_n hx hb dJh_size_16 rfl (lv_at hl 1 rfl) ?_
    obtain ⟨q5, hq5, h⟩ := jbi_h h
    refine jcalli (w' := fun B => jW cA A B q3.2.1 q3.2.2) (va_runV (As := [.int x1]) (rest := []) ⟨hx, hb, hml, hown, hts⟩ (cPl_sizeAt l dC dI cA A x1 q3.2.1 q3.2.2 B4 H.size hq5) (cwV 1 hts (jgoodV jw_498 jw_499 jw_500 jw_3 jw_501) rfl rfl rfl (by decide +kernel) ⟨Nat.le_of_ble_eq_true rfl, Nat.le_of_ble_eq_true rfl⟩) (jpreV hN hJ (ci := 2) (q0 := 2) rfl rfl) rfl rfl hl.1 rfl (lv_room (Nat.le_of_ble_eq_true rfl)) dJh_size_17 ⟨Nat.zero_le _, Nat.zero_le _⟩) hA hJ (fun B4 H locs hJ => ?_)
    cases h
    exact jreti (u := B4) hx hb hr rfl hlocks hJ dJh_size_20 rfl
  · replace h := jif_f cq1 h
    exact (jk_no3 cq1 h).elim
set_option maxHeartbeats 4000000 in
set_option maxRecDepth 100000 in
theorem cJh_size (l : Launch) (dC : Nat → ClassId) (dI : Nat → Nat → Nat) (cA : ClassId) (A : Nat → Nat) (x1 : Int32) (M : jM) (F : jF) (B : Nat → Nat) (sz : Nat) {r : Int32} {M' : jM} {F' : jF} (h : fJh_size x1 M F = some (0, r, M', F')) : jCi l yJh_size wJh_size rJh_size (dC, dI) jCl [(cA, .int)] [.ref (A 0), .int x1] (jW cA A B M F) sz r (fun B => jW cA A B (M') (F')) :=
  jOf (Qc := fun Ap => va_Qi (fun q (_ : Nat → Nat) => q = r) (jPost (dC, dI) jCl [(cA, .int)] (fun B => jW cA A B (M') (F')) Ap) Ap) (by decide) rfl (Nat.le_of_ble_eq_true rfl) (fun p e s m below meth c Ap ls hC hA hJ hl => uJh_size_0 l dC dI cA A Ap hC hA _ _ _ _ _ _ _ hJ (lv_sub hl [0, 1] rfl) h)
set_option maxHeartbeats 4000000 in
set_option maxRecDepth 100000 in
theorem uxJh_size_0 {p : Program} {e : Env} {s : State} {m : MethodId} {args : Array Value} {below : List Frame} {meth : Method} {c : Code} (l : Launch) (dC : Nat → ClassId) (dI : Nat → Nat → Nat) (cA : ClassId) (A : Nat → Nat) (Ap : Nat → Prop) (hX : jAtX l Ap s c) (hC : jAt p s m args meth c bJh_size 2 (some .int) wJh_size RJh) (hA : ∀ q : Nat, s.heap.size ≤ q → Ap q) {k : Nat} (hk : ¬ k = 0) {r : Int32} {M' : jM} {F' : jF} : ∀ (x1 : Int32) (M : jM) (F : jF) (B : Nat → Nat) (H : Heap) (locs : List Loc) (ls : Array Slot), jH (dC, dI) jCl [(cA, .int)] (jW cA A B M F) Ap s H locs → lv_has ls 2 [(0, .ref (A 0)), (1, .int x1)] → fJh_size_0 x1 M F = some (k, r, M', F') → W p l e (headSpec wJh_size rxJh_size).room s m args below meth c H locs 0 0 (jQx below (dC, dI) jCl [(cA, .int)] (fun B => jW cA A B (M') (F')) Ap args s k) (F0 m 0 ls []) := by
  obtain ⟨hx, hb, hml, hr, hts, hown, hlocks, hN⟩ := id hC
  have hj : ∀ w ∈ jw, w.before args s = true := fun w h => hts w (List.mem_cons_of_mem _ h)
  intro x1 M F B H locs ls hJ hl h
  unfold fJh_size_0 at h
  refine lv_aload_n hx hb dJh_size_0 rfl (lv_at hl 0 rfl) ?_
  refine lv_iload_n hx hb dJh_size_1 rfl (lv_at hl 1 rfl) ?_
  obtain ⟨q1, hq1, h⟩ := jbi_h h
  by_cases cq1 : q1.1 = 0
  · replace h := jif_t cq1 h
    refine jcallv (w' := fun B => jW cA A B q1.2.2.1 q1.2.2.2) (va_runV (As := [.int x1]) (rest := []) ⟨hx, hb, hml, hown, hts⟩ (cJh_checkPlace l dC dI cA A x1 M F B H.size (hq1.trans (congrArg some (Prod.ext cq1 rfl)))) (cwV 1 hts (jgoodV jw_388 jw_390 jws_5 jw_1 jw_391) rfl rfl rfl (by decide +kernel) ⟨Nat.le_of_ble_eq_true rfl, Nat.le_of_ble_eq_true rfl⟩) (jpreV hN hJ (ci := 0) (q0 := 0) rfl rfl) rfl rfl hl.1 rfl (lv_room (Nat.le_of_ble_eq_true rfl)) dJh_size_2 ⟨Nat.zero_le _, Nat.zero_le _⟩) hA hJ (fun B2 H locs hJ => ?_)
    refine lv_aload_n hx hb dJh_size_5 rfl (lv_at hl 0 rfl) ?_
    refine va_get (D := (dC, dI)) (ci := 0) (v := .ref (A 2)) (C := RJh) (T := TJh) (N := 4) hx hb hj iJh hown hJ.1 hJ.2.1 0 rfl rfl 1 (by decide) (hj _ jw_181) (fun _ h9 => h9) rfl dJh_size_6 ?_
    obtain ⟨q3, hq3, h⟩ := jbi_h h
    refine jcallv (w' := fun B => jW cA A B q3.2.1 q3.2.2) (va_runV (As := []) (rest := []) ⟨hx, hb, hml, hown, hts⟩ (cPl_make l dC dI cA A q1.2.2.1 q1.2.2.2 B2 H.size hq3) (cwV 0 hts (jgoodV jw_408 jw_409 jw_410 jw_3 jw_411) rfl rfl rfl (by decide +kernel) ⟨Nat.le_of_ble_eq_true rfl, Nat.le_of_ble_eq_true rfl⟩) (jpreV hN hJ (ci := 2) (q0 := 2) rfl rfl) rfl rfl hl.1 rfl (lv_room (Nat.le_of_ble_eq_true rfl)) dJh_size_9 ⟨Nat.zero_le _, Nat.zero_le _⟩) hA hJ (fun B4 H locs hJ => ?_)
    refine lv_aload_n hx hb dJh_size_12 rfl (lv_at hl 0 rfl) ?_
    refine va_get (D := (dC, dI)) (ci := 0) (v := .ref (A 2)) (C := RJh) (T := TJh) (N := 4) hx hb hj iJh hown hJ.1 hJ.2.1 0 rfl rfl 1 (by decide) (hj _ jw_181) (fun _ h9 => h9) rfl dJh_size_13 ?_
    refine lv_iload_n hx hb dJh_size_16 rfl (lv_at hl 1 rfl) ?_
    obtain ⟨q5, hq5, h⟩ := jbi_h h
    refine jcalli (w' := fun B => jW cA A B q3.2.1 q3.2.2) (va_runV (As := [.int x1]) (rest := []) ⟨hx, hb, hml, hown, hts⟩ (cPl_sizeAt l dC dI cA A x1 q3.2.1 q3.2.2 B4 H.size hq5) (cwV 1 hts (jgoodV jw_498 jw_499 jw_500 jw_3 jw_501) rfl rfl rfl (by decide +kernel) ⟨Nat.le_of_ble_eq_true rfl, Nat.le_of_ble_eq_true rfl⟩) (jpreV hN hJ (ci := 2) (q0 := 2) rfl rfl) rfl rfl hl.1 rfl (lv_room (Nat.le_of_ble_eq_true rfl)) dJh_size_17 ⟨Nat.zero_le _, Nat.zero_le _⟩) hA hJ (fun B4 H locs hJ => ?_)
    exact (jk_no3 hk h.symm).elim
  · replace h := jif_f cq1 h
    cases h
    exact jxcall (vx_runV (As := [.int x1]) (rest := []) ⟨hx, hb, hml, hown, hts⟩ (cxJh_checkPlace l dC dI cA A hX.1 x1 M F B H.size cq1 hq1) (cwV 1 hts (jgoodV jw_388 jw_390 jws_5 jw_1 jw_391) rfl rfl rfl (by decide +kernel) ⟨Nat.le_of_ble_eq_true rfl, Nat.le_of_ble_eq_true rfl⟩) (jpreVX hX.2.1 hA hN hJ (ci := 0) (q0 := 0) rfl rfl) rfl rfl hl.1 rfl (lv_room (Nat.le_of_ble_eq_true rfl)) dJh_size_2 ⟨Nat.le_of_ble_eq_true rfl, Nat.le_of_ble_eq_true rfl⟩) hA hJ hX.2.2 hlocks
set_option maxHeartbeats 4000000 in
set_option maxRecDepth 100000 in
theorem cxJh_size (l : Launch) (dC : Nat → ClassId) (dI : Nat → Nat → Nat) (cA : ClassId) (A : Nat → Nat) (hl0 : l.stackTraces = false) (x1 : Int32) (M : jM) (F : jF) (B : Nat → Nat) (sz : Nat) {k : Nat} (hk : ¬ k = 0) {r : Int32} {M' : jM} {F' : jF} (h : fJh_size x1 M F = some (k, r, M', F')) : jCx l yJh_size wJh_size rxJh_size (dC, dI) jCl [(cA, .int)] [.ref (A 0), .int x1] (jW cA A B M F) sz k (fun B => jW cA A B (M') (F')) :=
  jOfX hl0 (by decide) rfl (Nat.le_of_ble_eq_true rfl) (fun p e s m below meth c Ap ls hC hX hA hJ hl => uxJh_size_0 l dC dI cA A Ap hX hC hA hk _ _ _ _ _ _ _ hJ (lv_sub hl [0, 1] rfl) h)
abbrev bJh_run : ByteArray := prog_1_method_12_code
abbrev yJh_run : MethodName := ⟨RJh, "run", "()I"⟩
abbrev wJh_run : List Cond := .code yJh_run bJh_run 1 (some .int) :: jw
theorem dJh_run_0 : decode bJh_run 0 = .ok (.aload_n 0, 1) := by decide +kernel
theorem dJh_run_1 : decode bJh_run 1 = .ok (.getfield 12, 3) := by decide +kernel
theorem dJh_run_4 : decode bJh_run 4 = .ok (.invokevirtual 104, 3) := by decide +kernel
theorem dJh_run_7 : decode bJh_run 7 = .ok (.ifCond .ne 13, 3) := by decide +kernel
theorem dJh_run_10 : decode bJh_run 10 = .ok (.new 58, 3) := by decide +kernel
theorem dJh_run_13 : decode bJh_run 13 = .ok (.dup, 1) := by decide +kernel
theorem dJh_run_14 : decode bJh_run 14 = .ok (.ldc 108, 2) := by decide +kernel
theorem dJh_run_16 : decode bJh_run 16 = .ok (.invokespecial 62, 3) := by decide +kernel
theorem dJh_run_19 : decode bJh_run 19 = .ok (.athrow, 1) := by decide +kernel
theorem dJh_run_20 : decode bJh_run 20 = .ok (.aload_n 0, 1) := by decide +kernel
theorem dJh_run_21 : decode bJh_run 21 = .ok (.getfield 12, 3) := by decide +kernel
theorem dJh_run_24 : decode bJh_run 24 = .ok (.getfield 110, 3) := by decide +kernel
theorem dJh_run_27 : decode bJh_run 27 = .ok (.ireturn, 1) := by decide +kernel
abbrev rJh_run : Room := { frames := 6, cells := 0, slots := 0, locals := 153 }
abbrev rxJh_run : Room := { frames := 6, cells := 1, slots := 6, locals := 153 }
def fJh_run_0 (M : jM) (F : jF) : Option (Nat × Int32 × jM × jF) := ((fRu_go M F).bind fun q1 => (if q1.1 = 0 then some (2, 0, q1.2.1, q1.2.2) else some (0, q1.2.2 6, q1.2.1, q1.2.2)))
abbrev fJh_run (M : jM) (F : jF) : Option (Nat × Int32 × jM × jF) := fJh_run_0  M F
set_option maxHeartbeats 4000000 in
set_option maxRecDepth 100000 in
theorem uJh_run_0 {p : Program} {e : Env} {s : State} {m : MethodId} {args : Array Value} {below : List Frame} {meth : Method} {c : Code} (l : Launch) (dC : Nat → ClassId) (dI : Nat → Nat → Nat) (cA : ClassId) (A : Nat → Nat) (Ap : Nat → Prop) (hC : jAt p s m args meth c bJh_run 1 (some .int) wJh_run RJh) (hA : ∀ q : Nat, s.heap.size ≤ q → Ap q) {r : Int32} {M' : jM} {F' : jF} : ∀ (M : jM) (F : jF) (B : Nat → Nat) (H : Heap) (locs : List Loc) (ls : Array Slot), jH (dC, dI) jCl [(cA, .int)] (jW cA A B M F) Ap s H locs → lv_has ls 1 [(0, .ref (A 0))] → fJh_run_0 M F = some (0, r, M', F') → W p l e (headSpec wJh_run rJh_run).room s m args below meth c H locs 0 0 (jQi below (dC, dI) jCl [(cA, .int)] (fun B => jW cA A B (M') (F')) Ap args s r) (F0 m 0 ls []) := by
  obtain ⟨hx, hb, hml, hr, hts, hown, hlocks, hN⟩ := id hC
  have hj : ∀ w ∈ jw, w.before args s = true := fun w h => hts w (List.mem_cons_of_mem _ h)
  intro  M F B H locs ls hJ hl h
  unfold fJh_run_0 at h
  refine lv_aload_n hx hb dJh_run_0 rfl (lv_at hl 0 rfl) ?_
  refine va_get (D := (dC, dI)) (ci := 0) (v := .ref (A 1)) (C := RJh) (T := TJh) (N := 4) hx hb hj iJh hown hJ.1 hJ.2.1 0 rfl rfl 0 (by decide) (hj _ jw_180) (fun _ h9 => h9) rfl dJh_run_1 ?_
  obtain ⟨q1, hq1, h⟩ := jbi_h h
  refine jcalli (w' := fun B => jW cA A B q1.2.1 q1.2.2) (va_runV (As := []) (rest := []) ⟨hx, hb, hml, hown, hts⟩ (cRu_go l dC dI cA A M F B H.size hq1) (cwV 0 hts (jgoodV jw_509 jw_510 jw_511 jw_2 jw_512) rfl rfl rfl (by decide +kernel) ⟨Nat.le_of_ble_eq_true rfl, Nat.le_of_ble_eq_true rfl⟩) (jpreV hN hJ (ci := 1) (q0 := 1) rfl rfl) rfl rfl hl.1 rfl (lv_room (Nat.le_of_ble_eq_true rfl)) dJh_run_4 ⟨Nat.zero_le _, Nat.zero_le _⟩) hA hJ (fun B2 H locs hJ => ?_)
  refine lv_if_ne (tgt := 20) hx hb dJh_run_7 (by decide) (fun c3 => ?_) (fun c3 => ?_)
  · replace h := jif_f c3 h
    refine lv_aload_n hx hb dJh_run_20 rfl (lv_at hl 0 rfl) ?_
    refine va_get (D := (dC, dI)) (ci := 0) (v := .ref (A 1)) (C := RJh) (T := TJh) (N := 4) hx hb hj iJh hown hJ.1 hJ.2.1 0 rfl rfl 0 (by decide) (hj _ jw_180) (fun _ h9 => h9) rfl dJh_run_21 ?_
    refine va_getN (D := (dC, dI)) (ci := 1) (v := .int (q1.2.2 6)) (C := RRu) (T := TRu) (N := 11) hx hb hj iRu hown hJ.1 hJ.2.1 1 rfl rfl 8 (by decide) (jnw_use hN jnw_19) (fun _ h9 => h9) rfl dJh_run_24 ?_
    cases h
    exact jreti (u := B2) hx hb hr rfl hlocks hJ dJh_run_27 rfl
  · replace h := jif_t c3 h
    exact (jk_no h).elim
set_option maxHeartbeats 4000000 in
set_option maxRecDepth 100000 in
theorem cJh_run (l : Launch) (dC : Nat → ClassId) (dI : Nat → Nat → Nat) (cA : ClassId) (A : Nat → Nat) (M : jM) (F : jF) (B : Nat → Nat) (sz : Nat) {r : Int32} {M' : jM} {F' : jF} (h : fJh_run M F = some (0, r, M', F')) : jCi l yJh_run wJh_run rJh_run (dC, dI) jCl [(cA, .int)] [.ref (A 0)] (jW cA A B M F) sz r (fun B => jW cA A B (M') (F')) :=
  jOf (Qc := fun Ap => va_Qi (fun q (_ : Nat → Nat) => q = r) (jPost (dC, dI) jCl [(cA, .int)] (fun B => jW cA A B (M') (F')) Ap) Ap) (by decide) rfl (Nat.le_of_ble_eq_true rfl) (fun p e s m below meth c Ap ls hC hA hJ hl => uJh_run_0 l dC dI cA A Ap hC hA _ _ _ _ _ _ hJ (lv_sub hl [0] rfl) h)
set_option maxHeartbeats 4000000 in
set_option maxRecDepth 100000 in
theorem uxJh_run_0 {p : Program} {e : Env} {s : State} {m : MethodId} {args : Array Value} {below : List Frame} {meth : Method} {c : Code} (l : Launch) (dC : Nat → ClassId) (dI : Nat → Nat → Nat) (cA : ClassId) (A : Nat → Nat) (Ap : Nat → Prop) (hX : jAtX l Ap s c) (hC : jAt p s m args meth c bJh_run 1 (some .int) wJh_run RJh) (hA : ∀ q : Nat, s.heap.size ≤ q → Ap q) {k : Nat} (hk : ¬ k = 0) {r : Int32} {M' : jM} {F' : jF} : ∀ (M : jM) (F : jF) (B : Nat → Nat) (H : Heap) (locs : List Loc) (ls : Array Slot), jH (dC, dI) jCl [(cA, .int)] (jW cA A B M F) Ap s H locs → lv_has ls 1 [(0, .ref (A 0))] → fJh_run_0 M F = some (k, r, M', F') → W p l e (headSpec wJh_run rxJh_run).room s m args below meth c H locs 0 0 (jQx below (dC, dI) jCl [(cA, .int)] (fun B => jW cA A B (M') (F')) Ap args s k) (F0 m 0 ls []) := by
  obtain ⟨hx, hb, hml, hr, hts, hown, hlocks, hN⟩ := id hC
  have hj : ∀ w ∈ jw, w.before args s = true := fun w h => hts w (List.mem_cons_of_mem _ h)
  intro  M F B H locs ls hJ hl h
  unfold fJh_run_0 at h
  refine lv_aload_n hx hb dJh_run_0 rfl (lv_at hl 0 rfl) ?_
  refine va_get (D := (dC, dI)) (ci := 0) (v := .ref (A 1)) (C := RJh) (T := TJh) (N := 4) hx hb hj iJh hown hJ.1 hJ.2.1 0 rfl rfl 0 (by decide) (hj _ jw_180) (fun _ h9 => h9) rfl dJh_run_1 ?_
  obtain ⟨q1, hq1, h⟩ := jbi_h h
  refine jcalli (w' := fun B => jW cA A B q1.2.1 q1.2.2) (va_runV (As := []) (rest := []) ⟨hx, hb, hml, hown, hts⟩ (cRu_go l dC dI cA A M F B H.size hq1) (cwV 0 hts (jgoodV jw_509 jw_510 jw_511 jw_2 jw_512) rfl rfl rfl (by decide +kernel) ⟨Nat.le_of_ble_eq_true rfl, Nat.le_of_ble_eq_true rfl⟩) (jpreV hN hJ (ci := 1) (q0 := 1) rfl rfl) rfl rfl hl.1 rfl (lv_room (Nat.le_of_ble_eq_true rfl)) dJh_run_4 ⟨Nat.zero_le _, Nat.zero_le _⟩) hA hJ (fun B2 H locs hJ => ?_)
  refine lv_if_ne (tgt := 20) hx hb dJh_run_7 (by decide) (fun c3 => ?_) (fun c3 => ?_)
  · replace h := jif_f c3 h
    refine lv_aload_n hx hb dJh_run_20 rfl (lv_at hl 0 rfl) ?_
    refine va_get (D := (dC, dI)) (ci := 0) (v := .ref (A 1)) (C := RJh) (T := TJh) (N := 4) hx hb hj iJh hown hJ.1 hJ.2.1 0 rfl rfl 0 (by decide) (hj _ jw_180) (fun _ h9 => h9) rfl dJh_run_21 ?_
    refine va_getN (D := (dC, dI)) (ci := 1) (v := .int (q1.2.2 6)) (C := RRu) (T := TRu) (N := 11) hx hb hj iRu hown hJ.1 hJ.2.1 1 rfl rfl 8 (by decide) (jnw_use hN jnw_19) (fun _ h9 => h9) rfl dJh_run_24 ?_
    exact (jk_no3 hk h.symm).elim
  · replace h := jif_t c3 h
    cases h
    exact jthrow_2 (text := "more than 3000 choices at a generator") (u := B2) hx hb hml hown hj hX hlocks hl.1 hJ (by decide) dJh_run_10 dJh_run_13 dJh_run_14 dJh_run_16 dJh_run_19 (Nat.le_of_ble_eq_true rfl) (Nat.le_of_ble_eq_true rfl) (Nat.le_of_ble_eq_true rfl) (Nat.le_of_ble_eq_true rfl)
set_option maxHeartbeats 4000000 in
set_option maxRecDepth 100000 in
theorem cxJh_run (l : Launch) (dC : Nat → ClassId) (dI : Nat → Nat → Nat) (cA : ClassId) (A : Nat → Nat) (hl0 : l.stackTraces = false) (M : jM) (F : jF) (B : Nat → Nat) (sz : Nat) {k : Nat} (hk : ¬ k = 0) {r : Int32} {M' : jM} {F' : jF} (h : fJh_run M F = some (k, r, M', F')) : jCx l yJh_run wJh_run rxJh_run (dC, dI) jCl [(cA, .int)] [.ref (A 0)] (jW cA A B M F) sz k (fun B => jW cA A B (M') (F')) :=
  jOfX hl0 (by decide) rfl (Nat.le_of_ble_eq_true rfl) (fun p e s m below meth c Ap ls hC hX hA hJ hl => uxJh_run_0 l dC dI cA A Ap hX hC hA hk _ _ _ _ _ _ hJ (lv_sub hl [0] rfl) h)
abbrev bJh_looks : ByteArray := prog_1_method_13_code
abbrev yJh_looks : MethodName := ⟨RJh, "looks", "()I"⟩
abbrev wJh_looks : List Cond := .code yJh_looks bJh_looks 1 (some .int) :: jw
theorem dJh_looks_0 : decode bJh_looks 0 = .ok (.aload_n 0, 1) := by decide +kernel
theorem dJh_looks_1 : decode bJh_looks 1 = .ok (.getfield 12, 3) := by decide +kernel
theorem dJh_looks_4 : decode bJh_looks 4 = .ok (.getfield 113, 3) := by decide +kernel
theorem dJh_looks_7 : decode bJh_looks 7 = .ok (.ireturn, 1) := by decide +kernel
abbrev rJh_looks : Room := { frames := 0, cells := 0, slots := 0, locals := 0 }
def fJh_looks_0 (M : jM) (F : jF) : Option Int32 := some (F 8)
abbrev fJh_looks (M : jM) (F : jF) : Option Int32 := fJh_looks_0  M F
set_option maxHeartbeats 4000000 in
set_option maxRecDepth 100000 in
theorem uJh_looks_0 {p : Program} {e : Env} {s : State} {m : MethodId} {args : Array Value} {below : List Frame} {meth : Method} {c : Code} (l : Launch) (dC : Nat → ClassId) (dI : Nat → Nat → Nat) (cA : ClassId) (A : Nat → Nat) (Ap : Nat → Prop) (hC : jAt p s m args meth c bJh_looks 1 (some .int) wJh_looks RJh) (hA : ∀ q : Nat, s.heap.size ≤ q → Ap q) {r : Int32} : ∀ (M : jM) (F : jF) (B : Nat → Nat) (H : Heap) (locs : List Loc) (ls : Array Slot), jH (dC, dI) jCl [(cA, .int)] (jW cA A B M F) Ap s H locs → lv_has ls 1 [(0, .ref (A 0))] → fJh_looks_0 M F = some r → W p l e (headSpec wJh_looks rJh_looks).room s m args below meth c H locs 0 0 (jQi below (dC, dI) jCl [(cA, .int)] (fun B => jW cA A B M F) Ap args s r) (F0 m 0 ls []) := by
  obtain ⟨hx, hb, hml, hr, hts, hown, hlocks, hN⟩ := id hC
  have hj : ∀ w ∈ jw, w.before args s = true := fun w h => hts w (List.mem_cons_of_mem _ h)
  intro  M F B H locs ls hJ hl h
  unfold fJh_looks_0 at h
  refine lv_aload_n hx hb dJh_looks_0 rfl (lv_at hl 0 rfl) ?_
  refine va_get (D := (dC, dI)) (ci := 0) (v := .ref (A 1)) (C := RJh) (T := TJh) (N := 4) hx hb hj iJh hown hJ.1 hJ.2.1 0 rfl rfl 0 (by decide) (hj _ jw_180) (fun _ h9 => h9) rfl dJh_looks_1 ?_
  refine va_getN (D := (dC, dI)) (ci := 1) (v := .int (F 8)) (C := RRu) (T := TRu) (N := 11) hx hb hj iRu hown hJ.1 hJ.2.1 1 rfl rfl 10 (by decide) (jnw_use hN jnw_21) (fun _ h9 => h9) rfl dJh_looks_4 ?_
  exact jreti (u := B) hx hb hr rfl hlocks hJ dJh_looks_7 (Option.some.inj h)
set_option maxHeartbeats 4000000 in
set_option maxRecDepth 100000 in
theorem cJh_looks (l : Launch) (dC : Nat → ClassId) (dI : Nat → Nat → Nat) (cA : ClassId) (A : Nat → Nat) (M : jM) (F : jF) (B : Nat → Nat) (sz : Nat) {r : Int32} (h : fJh_looks M F = some r) : jCi l yJh_looks wJh_looks rJh_looks (dC, dI) jCl [(cA, .int)] [.ref (A 0)] (jW cA A B M F) sz r (fun B => jW cA A B M F) :=
  jOf (Qc := fun Ap => va_Qi (fun q (_ : Nat → Nat) => q = r) (jPost (dC, dI) jCl [(cA, .int)] (fun B => jW cA A B M F) Ap) Ap) (by decide) rfl (Nat.le_of_ble_eq_true rfl) (fun p e s m below meth c Ap ls hC hA hJ hl => uJh_looks_0 l dC dI cA A Ap hC hA _ _ _ _ _ _ hJ (lv_sub hl [0] rfl) h)
abbrev bJh_way : ByteArray := prog_1_method_14_code
abbrev yJh_way : MethodName := ⟨RJh, "way", "(II)I"⟩
abbrev wJh_way : List Cond := .code yJh_way bJh_way 3 (some .int) :: jw
theorem dJh_way_0 : decode bJh_way 0 = .ok (.iload_n 1, 1) := by decide +kernel
theorem dJh_way_1 : decode bJh_way 1 = .ok (.ifCond .lt 14, 3) := by decide +kernel
theorem dJh_way_4 : decode bJh_way 4 = .ok (.iload_n 1, 1) := by decide +kernel
theorem dJh_way_5 : decode bJh_way 5 = .ok (.aload_n 0, 1) := by decide +kernel
theorem dJh_way_6 : decode bJh_way 6 = .ok (.getfield 12, 3) := by decide +kernel
theorem dJh_way_9 : decode bJh_way 9 = .ok (.getfield 110, 3) := by decide +kernel
theorem dJh_way_12 : decode bJh_way 12 = .ok (.if_icmp .lt 13, 3) := by decide +kernel
theorem dJh_way_15 : decode bJh_way 15 = .ok (.new 116, 3) := by decide +kernel
theorem dJh_way_18 : decode bJh_way 18 = .ok (.dup, 1) := by decide +kernel
theorem dJh_way_19 : decode bJh_way 19 = .ok (.ldc 118, 2) := by decide +kernel
theorem dJh_way_21 : decode bJh_way 21 = .ok (.invokespecial 120, 3) := by decide +kernel
theorem dJh_way_24 : decode bJh_way 24 = .ok (.athrow, 1) := by decide +kernel
theorem dJh_way_25 : decode bJh_way 25 = .ok (.iload_n 2, 1) := by decide +kernel
theorem dJh_way_26 : decode bJh_way 26 = .ok (.ifCond .lt 14, 3) := by decide +kernel
theorem dJh_way_29 : decode bJh_way 29 = .ok (.iload_n 2, 1) := by decide +kernel
theorem dJh_way_30 : decode bJh_way 30 = .ok (.aload_n 0, 1) := by decide +kernel
theorem dJh_way_31 : decode bJh_way 31 = .ok (.getfield 12, 3) := by decide +kernel
theorem dJh_way_34 : decode bJh_way 34 = .ok (.getfield 121, 3) := by decide +kernel
theorem dJh_way_37 : decode bJh_way 37 = .ok (.if_icmp .lt 13, 3) := by decide +kernel
theorem dJh_way_40 : decode bJh_way 40 = .ok (.new 116, 3) := by decide +kernel
theorem dJh_way_43 : decode bJh_way 43 = .ok (.dup, 1) := by decide +kernel
theorem dJh_way_44 : decode bJh_way 44 = .ok (.ldc 124, 2) := by decide +kernel
theorem dJh_way_46 : decode bJh_way 46 = .ok (.invokespecial 120, 3) := by decide +kernel
theorem dJh_way_49 : decode bJh_way 49 = .ok (.athrow, 1) := by decide +kernel
theorem dJh_way_50 : decode bJh_way 50 = .ok (.aload_n 0, 1) := by decide +kernel
theorem dJh_way_51 : decode bJh_way 51 = .ok (.getfield 12, 3) := by decide +kernel
theorem dJh_way_54 : decode bJh_way 54 = .ok (.getfield 126, 3) := by decide +kernel
theorem dJh_way_57 : decode bJh_way 57 = .ok (.iload_n 1, 1) := by decide +kernel
theorem dJh_way_58 : decode bJh_way 58 = .ok (.iaload, 1) := by decide +kernel
theorem dJh_way_59 : decode bJh_way 59 = .ok (.iload_n 2, 1) := by decide +kernel
theorem dJh_way_60 : decode bJh_way 60 = .ok (.invokestatic 129, 3) := by decide +kernel
theorem dJh_way_63 : decode bJh_way 63 = .ok (.ireturn, 1) := by decide +kernel
abbrev rJh_way : Room := { frames := 1, cells := 0, slots := 0, locals := 21 }
abbrev rxJh_way : Room := { frames := 6, cells := 1, slots := 6, locals := 90 }
def fJh_way_15 (M : jM) (F : jF) : Option (Nat × Int32 × jM × jF) := some (3, 0, M, F)
def fJh_way_40 (M : jM) (F : jF) : Option (Nat × Int32 × jM × jF) := some (3, 0, M, F)
def fJh_way_0 (x1 : Int32) (x2 : Int32) (M : jM) (F : jF) : Option (Nat × Int32 × jM × jF) := (if x1 < 0 then fJh_way_15  M F else (if x1 < (F 6) then (if x2 < 0 then fJh_way_40  M F else (if x2 < (F 7) then (if jib x1 3000 then ((fJh_rowIn (M 26 x1.toNatClampNeg) x2 M F).bind fun q6 => some (0, q6, M, F)) else none) else fJh_way_40  M F)) else fJh_way_15  M F))
abbrev fJh_way (x1 : Int32) (x2 : Int32) (M : jM) (F : jF) : Option (Nat × Int32 × jM × jF) := fJh_way_0 x1 x2 M F
set_option maxHeartbeats 4000000 in
set_option maxRecDepth 100000 in
theorem uJh_way_15 {p : Program} {e : Env} {s : State} {m : MethodId} {args : Array Value} {below : List Frame} {meth : Method} {c : Code} (l : Launch) (dC : Nat → ClassId) (dI : Nat → Nat → Nat) (cA : ClassId) (A : Nat → Nat) (Ap : Nat → Prop) (hC : jAt p s m args meth c bJh_way 3 (some .int) wJh_way RJh) (hA : ∀ q : Nat, s.heap.size ≤ q → Ap q) {r : Int32} {M' : jM} {F' : jF} : ∀ (M : jM) (F : jF) (B : Nat → Nat) (H : Heap) (locs : List Loc) (ls : Array Slot), jH (dC, dI) jCl [(cA, .int)] (jW cA A B M F) Ap s H locs → lv_has ls 3 [] → fJh_way_15 M F = some (0, r, M', F') → W p l e (headSpec wJh_way rJh_way).room s m args below meth c H locs 0 0 (jQi below (dC, dI) jCl [(cA, .int)] (fun B => jW cA A B (M') (F')) Ap args s r) (F0 m 15 ls []) := by
  obtain ⟨hx, hb, hml, hr, hts, hown, hlocks, hN⟩ := id hC
  have hj : ∀ w ∈ jw, w.before args s = true := fun w h => hts w (List.mem_cons_of_mem _ h)
  intro  M F B H locs ls hJ hl h
  unfold fJh_way_15 at h
  exact (jk_no h).elim
set_option maxHeartbeats 4000000 in
set_option maxRecDepth 100000 in
theorem uJh_way_40 {p : Program} {e : Env} {s : State} {m : MethodId} {args : Array Value} {below : List Frame} {meth : Method} {c : Code} (l : Launch) (dC : Nat → ClassId) (dI : Nat → Nat → Nat) (cA : ClassId) (A : Nat → Nat) (Ap : Nat → Prop) (hC : jAt p s m args meth c bJh_way 3 (some .int) wJh_way RJh) (hA : ∀ q : Nat, s.heap.size ≤ q → Ap q) {r : Int32} {M' : jM} {F' : jF} : ∀ (M : jM) (F : jF) (B : Nat → Nat) (H : Heap) (locs : List Loc) (ls : Array Slot), jH (dC, dI) jCl [(cA, .int)] (jW cA A B M F) Ap s H locs → lv_has ls 3 [] → fJh_way_40 M F = some (0, r, M', F') → W p l e (headSpec wJh_way rJh_way).room s m args below meth c H locs 0 0 (jQi below (dC, dI) jCl [(cA, .int)] (fun B => jW cA A B (M') (F')) Ap args s r) (F0 m 40 ls []) := by
  obtain ⟨hx, hb, hml, hr, hts, hown, hlocks, hN⟩ := id hC
  have hj : ∀ w ∈ jw, w.before args s = true := fun w h => hts w (List.mem_cons_of_mem _ h)
  intro  M F B H locs ls hJ hl h
  unfold fJh_way_40 at h
  exact (jk_no h).elim
set_option maxHeartbeats 4000000 in
set_option maxRecDepth 100000 in
theorem uJh_way_0 {p : Program} {e : Env} {s : State} {m : MethodId} {args : Array Value} {below : List Frame} {meth : Method} {c : Code} (l : Launch) (dC : Nat → ClassId) (dI : Nat → Nat → Nat) (cA : ClassId) (A : Nat → Nat) (Ap : Nat → Prop) (hC : jAt p s m args meth c bJh_way 3 (some .int) wJh_way RJh) (hA : ∀ q : Nat, s.heap.size ≤ q → Ap q) {r : Int32} {M' : jM} {F' : jF} : ∀ (x1 x2 : Int32) (M : jM) (F : jF) (B : Nat → Nat) (H : Heap) (locs : List Loc) (ls : Array Slot), jH (dC, dI) jCl [(cA, .int)] (jW cA A B M F) Ap s H locs → lv_has ls 3 [(0, .ref (A 0)), (1, .int x1), (2, .int x2)] → fJh_way_0 x1 x2 M F = some (0, r, M', F') → W p l e (headSpec wJh_way rJh_way).room s m args below meth c H locs 0 0 (jQi below (dC, dI) jCl [(cA, .int)] (fun B => jW cA A B (M') (F')) Ap args s r) (F0 m 0 ls []) := by
  obtain ⟨hx, hb, hml, hr, hts, hown, hlocks, hN⟩ := id hC
  have hj : ∀ w ∈ jw, w.before args s = true := fun w h => hts w (List.mem_cons_of_mem _ h)
  intro x1 x2 M F B H locs ls hJ hl h
  unfold fJh_way_0 at h
  refine lv_iload_n hx hb dJh_way_0 rfl (lv_at hl 1 rfl) ?_
  refine lv_if_lt (tgt := 15) hx hb dJh_way_1 (by decide) (fun c1 => ?_) (fun c1 => ?_)
  · replace h := jif_t c1 h
    exact uJh_way_15 l dC dI cA A Ap hC hA _ _ _ _ _ _ hJ (lv_sub hl [] rfl) h
  · replace h := jif_f c1 h
    refine lv_iload_n hx hb dJh_way_4 rfl (lv_at hl 1 rfl) ?_
    refine lv_aload_n hx hb dJh_way_5 rfl (lv_at hl 0 rfl) ?_
    refine va_get (D := (dC, dI)) (ci := 0) (v := .ref (A 1)) (C := RJh) (T := TJh) (N := 4) hx hb hj iJh hown hJ.1 hJ.2.1 0 rfl rfl 0 (by decide) (hj _ jw_180) (fun _ h9 => h9) rfl dJh_way_6 ?_
    refine va_getN (D := (dC, dI)) (ci := 1) (v := .int (F 6)) (C := RRu) (T := TRu) (N := 11) hx hb hj iRu hown hJ.1 hJ.2.1 1 rfl rfl 8 (by decide) (jnw_use hN jnw_19) (fun _ h9 => h9) rfl dJh_way_9 ?_
    refine lv_icmp_lt (tgt := 25) hx hb dJh_way_12 (by decide) (fun c2 => ?_) (fun c2 => ?_)
    · replace h := jif_t c2 h
      refine lv_iload_n hx hb dJh_way_25 rfl (lv_at hl 2 rfl) ?_
      refine lv_if_lt (tgt := 40) hx hb dJh_way_26 (by decide) (fun c3 => ?_) (fun c3 => ?_)
      · replace h := jif_t c3 h
        exact uJh_way_40 l dC dI cA A Ap hC hA _ _ _ _ _ _ hJ (lv_sub hl [] rfl) h
      · replace h := jif_f c3 h
        refine lv_iload_n hx hb dJh_way_29 rfl (lv_at hl 2 rfl) ?_
        refine lv_aload_n hx hb dJh_way_30 rfl (lv_at hl 0 rfl) ?_
        refine va_get (D := (dC, dI)) (ci := 0) (v := .ref (A 1)) (C := RJh) (T := TJh) (N := 4) hx hb hj iJh hown hJ.1 hJ.2.1 0 rfl rfl 0 (by decide) (hj _ jw_180) (fun _ h9 => h9) rfl dJh_way_31 ?_
        refine va_getN (D := (dC, dI)) (ci := 1) (v := .int (F 7)) (C := RRu) (T := TRu) (N := 11) hx hb hj iRu hown hJ.1 hJ.2.1 1 rfl rfl 9 (by decide) (jnw_use hN jnw_20) (fun _ h9 => h9) rfl dJh_way_34 ?_
        refine lv_icmp_lt (tgt := 50) hx hb dJh_way_37 (by decide) (fun c4 => ?_) (fun c4 => ?_)
        · replace h := jif_t c4 h
          refine lv_aload_n hx hb dJh_way_50 rfl (lv_at hl 0 rfl) ?_
          refine va_get (D := (dC, dI)) (ci := 0) (v := .ref (A 1)) (C := RJh) (T := TJh) (N := 4) hx hb hj iJh hown hJ.1 hJ.2.1 0 rfl rfl 0 (by decide) (hj _ jw_180) (fun _ h9 => h9) rfl dJh_way_51 ?_
          refine va_getN (D := (dC, dI)) (ci := 1) (v := .ref (B 2)) (C := RRu) (T := TRu) (N := 11) hx hb hj iRu hown hJ.1 hJ.2.1 1 rfl rfl 7 (by decide) (jnw_use hN jnw_18) (fun _ h9 => h9) rfl dJh_way_54 ?_
          refine lv_iload_n hx hb dJh_way_57 rfl (lv_at hl 1 rfl) ?_
          obtain ⟨hi5, h⟩ := jib_h h
          refine jald_26 hx hb hJ hi5 dJh_way_58 ?_
          refine lv_iload_n hx hb dJh_way_59 rfl (lv_at hl 2 rfl) ?_
          obtain ⟨q6, hq6, h⟩ := jbi_h h
          refine jcalli (w' := fun B => jW cA A B M F) (va_runS (As := [.int (M 26 x1.toNatClampNeg), .int x2]) (rest := []) ⟨hx, hb, hml, hown, hts⟩ (cJh_rowIn l dC dI cA A (M 26 x1.toNatClampNeg) x2 M F B H.size hq6) (va_cwS 2 hts (jgoodS jw_592 jw_549 jw_1 jw_550) rfl rfl rfl (by decide +kernel) ⟨Nat.le_of_ble_eq_true rfl, Nat.le_of_ble_eq_true rfl⟩) (jpreS hN hJ) rfl rfl hl.1 rfl (lv_room (Nat.le_of_ble_eq_true rfl)) dJh_way_60 ⟨Nat.zero_le _, Nat.zero_le _⟩) hA hJ (fun B H locs hJ => ?_)
          cases h
          exact jreti (u := B) hx hb hr rfl hlocks hJ dJh_way_63 rfl
        · replace h := jif_f c4 h
          exact uJh_way_40 l dC dI cA A Ap hC hA _ _ _ _ _ _ hJ (lv_sub hl [] rfl) h
    · replace h := jif_f c2 h
      exact uJh_way_15 l dC dI cA A Ap hC hA _ _ _ _ _ _ hJ (lv_sub hl [] rfl) h
set_option maxHeartbeats 4000000 in
set_option maxRecDepth 100000 in
theorem cJh_way (l : Launch) (dC : Nat → ClassId) (dI : Nat → Nat → Nat) (cA : ClassId) (A : Nat → Nat) (x1 : Int32) (x2 : Int32) (M : jM) (F : jF) (B : Nat → Nat) (sz : Nat) {r : Int32} {M' : jM} {F' : jF} (h : fJh_way x1 x2 M F = some (0, r, M', F')) : jCi l yJh_way wJh_way rJh_way (dC, dI) jCl [(cA, .int)] [.ref (A 0), .int x1, .int x2] (jW cA A B M F) sz r (fun B => jW cA A B (M') (F')) :=
  jOf (Qc := fun Ap => va_Qi (fun q (_ : Nat → Nat) => q = r) (jPost (dC, dI) jCl [(cA, .int)] (fun B => jW cA A B (M') (F')) Ap) Ap) (by decide) rfl (Nat.le_of_ble_eq_true rfl) (fun p e s m below meth c Ap ls hC hA hJ hl => uJh_way_0 l dC dI cA A Ap hC hA _ _ _ _ _ _ _ _ hJ (lv_sub hl [0, 1, 2] rfl) h)
set_option maxHeartbeats 4000000 in
set_option maxRecDepth 100000 in
theorem uxJh_way_15 {p : Program} {e : Env} {s : State} {m : MethodId} {args : Array Value} {below : List Frame} {meth : Method} {c : Code} (l : Launch) (dC : Nat → ClassId) (dI : Nat → Nat → Nat) (cA : ClassId) (A : Nat → Nat) (Ap : Nat → Prop) (hX : jAtX l Ap s c) (hC : jAt p s m args meth c bJh_way 3 (some .int) wJh_way RJh) (hA : ∀ q : Nat, s.heap.size ≤ q → Ap q) {k : Nat} (hk : ¬ k = 0) {r : Int32} {M' : jM} {F' : jF} : ∀ (M : jM) (F : jF) (B : Nat → Nat) (H : Heap) (locs : List Loc) (ls : Array Slot), jH (dC, dI) jCl [(cA, .int)] (jW cA A B M F) Ap s H locs → lv_has ls 3 [] → fJh_way_15 M F = some (k, r, M', F') → W p l e (headSpec wJh_way rxJh_way).room s m args below meth c H locs 0 0 (jQx below (dC, dI) jCl [(cA, .int)] (fun B => jW cA A B (M') (F')) Ap args s k) (F0 m 15 ls []) := by
  obtain ⟨hx, hb, hml, hr, hts, hown, hlocks, hN⟩ := id hC
  have hj : ∀ w ∈ jw, w.before args s = true := fun w h => hts w (List.mem_cons_of_mem _ h)
  intro  M F B H locs ls hJ hl h
  unfold fJh_way_15 at h
  cases h
  exact jthrow_3 (text := "no such way") (u := B) hx hb hml hown hj hX hlocks hl.1 hJ (by decide) dJh_way_15 dJh_way_18 dJh_way_19 dJh_way_21 dJh_way_24 (Nat.le_of_ble_eq_true rfl) (Nat.le_of_ble_eq_true rfl) (Nat.le_of_ble_eq_true rfl) (Nat.le_of_ble_eq_true rfl)
set_option maxHeartbeats 4000000 in
set_option maxRecDepth 100000 in
theorem uxJh_way_40 {p : Program} {e : Env} {s : State} {m : MethodId} {args : Array Value} {below : List Frame} {meth : Method} {c : Code} (l : Launch) (dC : Nat → ClassId) (dI : Nat → Nat → Nat) (cA : ClassId) (A : Nat → Nat) (Ap : Nat → Prop) (hX : jAtX l Ap s c) (hC : jAt p s m args meth c bJh_way 3 (some .int) wJh_way RJh) (hA : ∀ q : Nat, s.heap.size ≤ q → Ap q) {k : Nat} (hk : ¬ k = 0) {r : Int32} {M' : jM} {F' : jF} : ∀ (M : jM) (F : jF) (B : Nat → Nat) (H : Heap) (locs : List Loc) (ls : Array Slot), jH (dC, dI) jCl [(cA, .int)] (jW cA A B M F) Ap s H locs → lv_has ls 3 [] → fJh_way_40 M F = some (k, r, M', F') → W p l e (headSpec wJh_way rxJh_way).room s m args below meth c H locs 0 0 (jQx below (dC, dI) jCl [(cA, .int)] (fun B => jW cA A B (M') (F')) Ap args s k) (F0 m 40 ls []) := by
  obtain ⟨hx, hb, hml, hr, hts, hown, hlocks, hN⟩ := id hC
  have hj : ∀ w ∈ jw, w.before args s = true := fun w h => hts w (List.mem_cons_of_mem _ h)
  intro  M F B H locs ls hJ hl h
  unfold fJh_way_40 at h
  cases h
  exact jthrow_3 (text := "the run had no such generator") (u := B) hx hb hml hown hj hX hlocks hl.1 hJ (by decide) dJh_way_40 dJh_way_43 dJh_way_44 dJh_way_46 dJh_way_49 (Nat.le_of_ble_eq_true rfl) (Nat.le_of_ble_eq_true rfl) (Nat.le_of_ble_eq_true rfl) (Nat.le_of_ble_eq_true rfl)
set_option maxHeartbeats 4000000 in
set_option maxRecDepth 100000 in
theorem uxJh_way_0 {p : Program} {e : Env} {s : State} {m : MethodId} {args : Array Value} {below : List Frame} {meth : Method} {c : Code} (l : Launch) (dC : Nat → ClassId) (dI : Nat → Nat → Nat) (cA : ClassId) (A : Nat → Nat) (Ap : Nat → Prop) (hX : jAtX l Ap s c) (hC : jAt p s m args meth c bJh_way 3 (some .int) wJh_way RJh) (hA : ∀ q : Nat, s.heap.size ≤ q → Ap q) {k : Nat} (hk : ¬ k = 0) {r : Int32} {M' : jM} {F' : jF} : ∀ (x1 x2 : Int32) (M : jM) (F : jF) (B : Nat → Nat) (H : Heap) (locs : List Loc) (ls : Array Slot), jH (dC, dI) jCl [(cA, .int)] (jW cA A B M F) Ap s H locs → lv_has ls 3 [(0, .ref (A 0)), (1, .int x1), (2, .int x2)] → fJh_way_0 x1 x2 M F = some (k, r, M', F') → W p l e (headSpec wJh_way rxJh_way).room s m args below meth c H locs 0 0 (jQx below (dC, dI) jCl [(cA, .int)] (fun B => jW cA A B (M') (F')) Ap args s k) (F0 m 0 ls []) := by
  obtain ⟨hx, hb, hml, hr, hts, hown, hlocks, hN⟩ := id hC
  have hj : ∀ w ∈ jw, w.before args s = true := fun w h => hts w (List.mem_cons_of_mem _ h)
  intro x1 x2 M F B H locs ls hJ hl h
  unfold fJh_way_0 at h
  refine lv_iload_n hx hb dJh_way_0 rfl (lv_at hl 1 rfl) ?_
  refine lv_if_lt (tgt := 15) hx hb dJh_way_1 (by decide) (fun c1 => ?_) (fun c1 => ?_)
  · replace h := jif_t c1 h
    exact uxJh_way_15 l dC dI cA A Ap hX hC hA hk _ _ _ _ _ _ hJ (lv_sub hl [] rfl) h
  · replace h := jif_f c1 h
    refine lv_iload_n hx hb dJh_way_4 rfl (lv_at hl 1 rfl) ?_
    refine lv_aload_n hx hb dJh_way_5 rfl (lv_at hl 0 rfl) ?_
    refine va_get (D := (dC, dI)) (ci := 0) (v := .ref (A 1)) (C := RJh) (T := TJh) (N := 4) hx hb hj iJh hown hJ.1 hJ.2.1 0 rfl rfl 0 (by decide) (hj _ jw_180) (fun _ h9 => h9) rfl dJh_way_6 ?_
    refine va_getN (D := (dC, dI)) (ci := 1) (v := .int (F 6)) (C := RRu) (T := TRu) (N := 11) hx hb hj iRu hown hJ.1 hJ.2.1 1 rfl rfl 8 (by decide) (jnw_use hN jnw_19) (fun _ h9 => h9) rfl dJh_way_9 ?_
    refine lv_icmp_lt (tgt := 25) hx hb dJh_way_12 (by decide) (fun c2 => ?_) (fun c2 => ?_)
    · replace h := jif_t c2 h
      refine lv_iload_n hx hb dJh_way_25 rfl (lv_at hl 2 rfl) ?_
      refine lv_if_lt (tgt := 40) hx hb dJh_way_26 (by decide) (fun c3 => ?_) (fun c3 => ?_)
      · replace h := jif_t c3 h
        exact uxJh_way_40 l dC dI cA A Ap hX hC hA hk _ _ _ _ _ _ hJ (lv_sub hl [] rfl) h
      · replace h := jif_f c3 h
        refine lv_iload_n hx hb dJh_way_29 rfl (lv_at hl 2 rfl) ?_
        refine lv_aload_n hx hb dJh_way_30 rfl (lv_at hl 0 rfl) ?_
        refine va_get (D := (dC, dI)) (ci := 0) (v := .ref (A 1)) (C := RJh) (T := TJh) (N := 4) hx hb hj iJh hown hJ.1 hJ.2.1 0 rfl rfl 0 (by decide) (hj _ jw_180) (fun _ h9 => h9) rfl dJh_way_31 ?_
        refine va_getN (D := (dC, dI)) (ci := 1) (v := .int (F 7)) (C := RRu) (T := TRu) (N := 11) hx hb hj iRu hown hJ.1 hJ.2.1 1 rfl rfl 9 (by decide) (jnw_use hN jnw_20) (fun _ h9 => h9) rfl dJh_way_34 ?_
        refine lv_icmp_lt (tgt := 50) hx hb dJh_way_37 (by decide) (fun c4 => ?_) (fun c4 => ?_)
        · replace h := jif_t c4 h
          refine lv_aload_n hx hb dJh_way_50 rfl (lv_at hl 0 rfl) ?_
          refine va_get (D := (dC, dI)) (ci := 0) (v := .ref (A 1)) (C := RJh) (T := TJh) (N := 4) hx hb hj iJh hown hJ.1 hJ.2.1 0 rfl rfl 0 (by decide) (hj _ jw_180) (fun _ h9 => h9) rfl dJh_way_51 ?_
          refine va_getN (D := (dC, dI)) (ci := 1) (v := .ref (B 2)) (C := RRu) (T := TRu) (N := 11) hx hb hj iRu hown hJ.1 hJ.2.1 1 rfl rfl 7 (by decide) (jnw_use hN jnw_18) (fun _ h9 => h9) rfl dJh_way_54 ?_
          refine lv_iload_n hx hb dJh_way_57 rfl (lv_at hl 1 rfl) ?_
          obtain ⟨hi5, h⟩ := jib_h h
          refine jald_26 hx hb hJ hi5 dJh_way_58 ?_
          refine lv_iload_n hx hb dJh_way_59 rfl (lv_at hl 2 rfl) ?_
          obtain ⟨q6, hq6, h⟩ := jbi_h h
          refine jcalli (w' := fun B => jW cA A B M F) (va_runS (As := [.int (M 26 x1.toNatClampNeg), .int x2]) (rest := []) ⟨hx, hb, hml, hown, hts⟩ (cJh_rowIn l dC dI cA A (M 26 x1.toNatClampNeg) x2 M F B H.size hq6) (va_cwS 2 hts (jgoodS jw_592 jw_549 jw_1 jw_550) rfl rfl rfl (by decide +kernel) ⟨Nat.le_of_ble_eq_true rfl, Nat.le_of_ble_eq_true rfl⟩) (jpreS hN hJ) rfl rfl hl.1 rfl (lv_room (Nat.le_of_ble_eq_true rfl)) dJh_way_60 ⟨Nat.zero_le _, Nat.zero_le _⟩) hA hJ (fun B H locs hJ => ?_)
          exact (jk_no3 hk h.symm).elim
        · replace h := jif_f c4 h
          exact uxJh_way_40 l dC dI cA A Ap hX hC hA hk _ _ _ _ _ _ hJ (lv_sub hl [] rfl) h
    · replace h := jif_f c2 h
      exact uxJh_way_15 l dC dI cA A Ap hX hC hA hk _ _ _ _ _ _ hJ (lv_sub hl [] rfl) h
set_option maxHeartbeats 4000000 in
set_option maxRecDepth 100000 in
theorem cxJh_way (l : Launch) (dC : Nat → ClassId) (dI : Nat → Nat → Nat) (cA : ClassId) (A : Nat → Nat) (hl0 : l.stackTraces = false) (x1 : Int32) (x2 : Int32) (M : jM) (F : jF) (B : Nat → Nat) (sz : Nat) {k : Nat} (hk : ¬ k = 0) {r : Int32} {M' : jM} {F' : jF} (h : fJh_way x1 x2 M F = some (k, r, M', F')) : jCx l yJh_way wJh_way rxJh_way (dC, dI) jCl [(cA, .int)] [.ref (A 0), .int x1, .int x2] (jW cA A B M F) sz k (fun B => jW cA A B (M') (F')) :=
  jOfX hl0 (by decide) rfl (Nat.le_of_ble_eq_true rfl) (fun p e s m below meth c Ap ls hC hX hA hJ hl => uxJh_way_0 l dC dI cA A Ap hX hC hA hk _ _ _ _ _ _ _ _ hJ (lv_sub hl [0, 1, 2] rfl) h)
