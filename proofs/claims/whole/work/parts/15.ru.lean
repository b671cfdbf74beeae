abbrev bRu_begin : ByteArray := prog_4_method_3_code
abbrev yRu_begin : MethodName := ⟨RRu, "begin", "(I)V"⟩
abbrev wRu_begin : List Cond := .code yRu_begin bRu_begin 2 none :: jw
theorem dRu_begin_0 : decode bRu_begin 0 = .ok (.aload_n 0, 1) := by decide +kernel
theorem dRu_begin_1 : decode bRu_begin 1 = .ok (.getfield 25, 3) := by decide +kernel
theorem dRu_begin_4 : decode bRu_begin 4 = .ok (.iconst 0, 1) := by decide +kernel
theorem dRu_begin_5 : decode bRu_begin 5 = .ok (.iconst 0, 1) := by decide +kernel
theorem dRu_begin_6 : decode bRu_begin 6 = .ok (.iastore, 1) := by decide +kernel
theorem dRu_begin_7 : decode bRu_begin 7 = .ok (.aload_n 0, 1) := by decide +kernel
theorem dRu_begin_8 : decode bRu_begin 8 = .ok (.iload_n 1, 1) := by decide +kernel
theorem dRu_begin_9 : decode bRu_begin 9 = .ok (.ifCond .ne 7, 3) := by decide +kernel
theorem dRu_begin_12 : decode bRu_begin 12 = .ok (.iconst 0, 1) := by decide +kernel
theorem dRu_begin_13 : decode bRu_begin 13 = .ok (.goto 4, 3) := by decide +kernel
theorem dRu_begin_16 : decode bRu_begin 16 = .ok (.iconst 1, 1) := by decide +kernel
theorem dRu_begin_17 : decode bRu_begin 17 = .ok (.putfield 35, 3) := by decide +kernel
theorem dRu_begin_20 : decode bRu_begin 20 = .ok (.aload_n 0, 1) := by decide +kernel
theorem dRu_begin_21 : decode bRu_begin 21 = .ok (.iconst 0, 1) := by decide +kernel
theorem dRu_begin_22 : decode bRu_begin 22 = .ok (.putfield 39, 3) := by decide +kernel
theorem dRu_begin_25 : decode bRu_begin 25 = .ok (.return_, 1) := by decide +kernel
abbrev rRu_begin : Room := { frames := 0, cells := 0, slots := 0, locals := 0 }
def fRu_begin_17 (s1 : Int32) (M : jM) (F : jF) : Option (Int32 × jM × jF) := some (0, M, jfu (jfu F 4 s1) 5 0)
def fRu_begin_0 (x1 : Int32) (M : jM) (F : jF) : Option (Int32 × jM × jF) := (if jib 0 3000 then (if x1 = 0 then fRu_begin_17 0 (jmu M 23 (0 : Int32).toNatClampNeg 0) F else fRu_begin_17 1 (jmu M 23 (0 : Int32).toNatClampNeg 0) F) else none)
abbrev fRu_begin (x1 : Int32) (M : jM) (F : jF) : Option (Int32 × jM × jF) := fRu_begin_0 x1 M F
set_option maxHeartbeats 4000000 in
set_option maxRecDepth 100000 in
theorem uRu_begin_17 {p : Program} {e : Env} {s : State} {m : MethodId} {args : Array Value} {below : List Frame} {meth : Method} {c : Code} (l : Launch) (dC : Nat → ClassId) (dI : Nat → Nat → Nat) (cA : ClassId) (A : Nat → Nat) (Ap : Nat → Prop) (hC : jAt p s m args meth c bRu_begin 2 none wRu_begin RRu) (hA : ∀ q : Nat, s.heap.size ≤ q → Ap q) {r : Int32} {M' : jM} {F' : jF} : ∀ (s1 : Int32) (M : jM) (F : jF) (B : Nat → Nat) (H : Heap) (locs : List Loc) (ls : Array Slot), jH (dC, dI) jCl [(cA, .int)] (jW cA A B M F) Ap s H locs → lv_has ls 2 [(0, .ref (A 1))] → fRu_begin_17 s1 M F = some (r, M', F') → W p l e (headSpec wRu_begin rRu_begin).room s m args below meth c H locs 0 0 (jQv below (dC, dI) jCl [(cA, .int)] (fun B => jW cA A B (M') (F')) Ap args s) (F0 m 17 ls [.int s1, .ref (A 1)]) := by
  obtain ⟨hx, hb, hml, hr, hts, hown, hlocks, hN⟩ := id hC
  have hj : ∀ w ∈ jw, w.before args s = true := fun w h => hts w (List.mem_cons_of_mem _ h)
  intro s1 M F B H locs ls hJ hl h
  unfold fRu_begin_17 at h
  refine va_put (D := (dC, dI)) (ci := 1) (v := .int s1) (ty := .int) (C := RRu) (T := TRu) (N := 11) hx hb hj iRu tRu tRu_ok nRu hown hJ.1 hJ.2.1 hJ.2.2.1 hJ.2.2.2 1 rfl rfl 5 (by decide) (hj _ jw_147) (fun _ h9 => h9) rfl (by decide +kernel) rfl rfl (Nat.le_of_ble_eq_true rfl) dRu_begin_17 (fun H locs hP hD hS => ?_)
  replace hJ : jH (dC, dI) jCl [(cA, .int)] (jW cA A B M (jfu F 4 s1)) Ap s H locs := ⟨hJ.1, hP, hD, hS⟩
  refine lv_aload_n hx hb dRu_begin_20 rfl (lv_at hl 0 rfl) ?_
  refine lv_iconst (v := 0) hx hb dRu_begin_21 (by decide) ?_
  refine va_put (D := (dC, dI)) (ci := 1) (v := .int 0) (ty := .int) (C := RRu) (T := TRu) (N := 11) hx hb hj iRu tRu tRu_ok nRu hown hJ.1 hJ.2.1 hJ.2.2.1 hJ.2.2.2 1 rfl rfl 6 (by decide) (hj _ jw_148) (fun _ h9 => h9) rfl (by decide +kernel) rfl rfl (Nat.le_of_ble_eq_true rfl) dRu_begin_22 (fun H locs hP hD hS => ?_)
  replace hJ : jH (dC, dI) jCl [(cA, .int)] (jW cA A B M (jfu (jfu F 4 s1) 5 0)) Ap s H locs := ⟨hJ.1, hP, hD, hS⟩
  cases h
  exact jretv (u := B) hx hb hr hlocks hJ dRu_begin_25
set_option maxHeartbeats 4000000 in
set_option maxRecDepth 100000 in
theorem uRu_begin_0 {p : Program} {e : Env} {s : State} {m : MethodId} {args : Array Value} {below : List Frame} {meth : Method} {c : Code} (l : Launch) (dC : Nat → ClassId) (dI : Nat → Nat → Nat) (cA : ClassId) (A : Nat → Nat) (Ap : Nat → Prop) (hC : jAt p s m args meth c bRu_begin 2 none wRu_begin RRu) (hA : ∀ q : Nat, s.heap.size ≤ q → Ap q) {r : Int32} {M' : jM} {F' : jF} : ∀ (x1 : Int32) (M : jM) (F : jF) (B : Nat → Nat) (H : Heap) (locs : List Loc) (ls : Array Slot), jH (dC, dI) jCl [(cA, .int)] (jW cA A B M F) Ap s H locs → lv_has ls 2 [(0, .ref (A 1)), (1, .int x1)] → fRu_begin_0 x1 M F = some (r, M', F') → W p l e (headSpec wRu_begin rRu_begin).room s m args below meth c H locs 0 0 (jQv below (dC, dI) jCl [(cA, .int)] (fun B => jW cA A B (M') (F')) Ap args s) (F0 m 0 ls []) := by
  obtain ⟨hx, hb, hml, hr, hts, hown, hlocks, hN⟩ := id hC
  have hj : ∀ w ∈ jw, w.before args s = true := fun w h => hts w (List.mem_cons_of_mem _ h)
  intro x1 M F B H locs ls hJ hl h
  unfold fRu_begin_0 at h
  refine lv_aload_n hx hb dRu_begin_0 rfl (lv_at hl 0 rfl) ?_
  refine va_get (D := (dC, dI)) (ci := 1) (v := .ref (B 0)) (C := RRu) (T := TRu) (N := 11) hx hb hj iRu hown hJ.1 hJ.2.1 1 rfl rfl 2 (by decide) (hj _ jw_144) (fun _ h9 => h9) rfl dRu_begin_1 ?_
  refine lv_iconst (v := 0) hx hb dRu_begin_4 (by decide) ?_
  refine lv_iconst (v := 0) hx hb dRu_begin_5 (by decide) ?_
  obtain ⟨hi1, h⟩ := jib_h h
  refine jast_23 hx hb hJ hi1 dRu_begin_6 (fun H locs hJ => ?_)
  refine lv_aload_n hx hb dRu_begin_7 rfl (lv_at hl 0 rfl) ?_
  refine lv_iload_n hx hb dRu_begin_8 rfl (lv_at hl 1 rfl) ?_
  refine lv_if_ne (tgt := 16) hx hb dRu_begin_9 (by decide) (fun c2 => ?_) (fun c2 => ?_)
  · replace h := jif_f c2 h
    refine lv_iconst (v := 1) hx hb dRu_begin_16 (by decide) ?_
    exact uRu_begin_17 l dC dI cA A Ap hC hA _ _ _ _ _ _ _ hJ (lv_sub hl [0] rfl) h
  · replace h := jif_t c2 h
    refine lv_iconst (v := 0) hx hb dRu_begin_12 (by decide) ?_
    refine lv_goto (tgt := 17) hx hb dRu_begin_13 (by decide) ?_
    exact uRu_begin_17 l dC dI cA A Ap hC hA _ _ _ _ _ _ _ hJ (lv_sub hl [0] rfl) h
set_option maxHeartbeats 4000000 in
set_option maxRecDepth 100000 in
theorem cRu_begin (l : Launch) (dC : Nat → ClassId) (dI : Nat → Nat → Nat) (cA : ClassId) (A : Nat → Nat) (x1 : Int32) (M : jM) (F : jF) (B : Nat → Nat) (sz : Nat) {r : Int32} {M' : jM} {F' : jF} (h : fRu_begin x1 M F = some (r, M', F')) : jCv l yRu_begin wRu_begin rRu_begin (dC, dI) jCl [(cA, .int)] [.ref (A 1), .int x1] (jW cA A B M F) sz (fun B => jW cA A B (M') (F')) :=
  jOf (Qc := fun Ap => va_Qv (fun _ : Nat → Nat => True) (jPost (dC, dI) jCl [(cA, .int)] (fun B => jW cA A B (M') (F')) Ap) Ap) (by decide) rfl (Nat.le_of_ble_eq_true rfl) (fun p e s m below meth c Ap ls hC hA hJ hl => uRu_begin_0 l dC dI cA A Ap hC hA _ _ _ _ _ _ _ hJ (lv_sub hl [0, 1] rfl) h)
abbrev bRu_extend : ByteArray := prog_4_method_5_code
abbrev yRu_extend : MethodName := ⟨RRu, "extend", "(IIII)I"⟩
abbrev wRu_extend : List Cond := .code yRu_extend bRu_extend 7 (some .int) :: jw
theorem dRu_extend_0 : decode bRu_extend 0 = .ok (.iload 4, 2) := by decide +kernel
theorem dRu_extend_2 : decode bRu_extend 2 = .ok (.istore 5, 2) := by decide +kernel
theorem dRu_extend_4 : decode bRu_extend 4 = .ok (.iconst 0, 1) := by decide +kernel
theorem dRu_extend_5 : decode bRu_extend 5 = .ok (.istore 6, 2) := by decide +kernel
theorem dRu_extend_7 : decode bRu_extend 7 = .ok (.iload 6, 2) := by decide +kernel
theorem dRu_extend_9 : decode bRu_extend 9 = .ok (.bipush 30, 2) := by decide +kernel
theorem dRu_extend_11 : decode bRu_extend 11 = .ok (.if_icmp .ge 43, 3) := by decide +kernel
theorem dRu_extend_14 : decode bRu_extend 14 = .ok (.iload_n 3, 1) := by decide +kernel
theorem dRu_extend_15 : decode bRu_extend 15 = .ok (.iload 6, 2) := by decide +kernel
theorem dRu_extend_17 : decode bRu_extend 17 = .ok (.iushr, 1) := by decide +kernel
theorem dRu_extend_18 : decode bRu_extend 18 = .ok (.ifCond .eq 36, 3) := by decide +kernel
theorem dRu_extend_21 : decode bRu_extend 21 = .ok (.iload_n 3, 1) := by decide +kernel
theorem dRu_extend_22 : decode bRu_extend 22 = .ok (.iload 6, 2) := by decide +kernel
theorem dRu_extend_24 : decode bRu_extend 24 = .ok (.iushr, 1) := by decide +kernel
theorem dRu_extend_25 : decode bRu_extend 25 = .ok (.iconst 1, 1) := by decide +kernel
theorem dRu_extend_26 : decode bRu_extend 26 = .ok (.iand, 1) := by decide +kernel
theorem dRu_extend_27 : decode bRu_extend 27 = .ok (.ifCond .eq 21, 3) := by decide +kernel
theorem dRu_extend_30 : decode bRu_extend 30 = .ok (.aload_n 0, 1) := by decide +kernel
theorem dRu_extend_31 : decode bRu_extend 31 = .ok (.getfield 29, 3) := by decide +kernel
theorem dRu_extend_34 : decode bRu_extend 34 = .ok (.iload 5, 2) := by decide +kernel
theorem dRu_extend_36 : decode bRu_extend 36 = .ok (.iload_n 1, 1) := by decide +kernel
theorem dRu_extend_37 : decode bRu_extend 37 = .ok (.iload 6, 2) := by decide +kernel
theorem dRu_extend_39 : decode bRu_extend 39 = .ok (.iload_n 2, 1) := by decide +kernel
theorem dRu_extend_40 : decode bRu_extend 40 = .ok (.iconst 5, 1) := by decide +kernel
theorem dRu_extend_41 : decode bRu_extend 41 = .ok (.imul, 1) := by decide +kernel
theorem dRu_extend_42 : decode bRu_extend 42 = .ok (.ishl, 1) := by decide +kernel
theorem dRu_extend_43 : decode bRu_extend 43 = .ok (.ior, 1) := by decide +kernel
theorem dRu_extend_44 : decode bRu_extend 44 = .ok (.iastore, 1) := by decide +kernel
theorem dRu_extend_45 : decode bRu_extend 45 = .ok (.iinc 5 1, 3) := by decide +kernel
theorem dRu_extend_48 : decode bRu_extend 48 = .ok (.iinc 6 1, 3) := by decide +kernel
theorem dRu_extend_51 : decode bRu_extend 51 = .ok (.goto (-44), 3) := by decide +kernel
theorem dRu_extend_54 : decode bRu_extend 54 = .ok (.iload 5, 2) := by decide +kernel
theorem dRu_extend_56 : decode bRu_extend 56 = .ok (.ireturn, 1) := by decide +kernel
abbrev rRu_extend : Room := { frames := 0, cells := 0, slots := 0, locals := 0 }
def fRu_extend_7 : Nat → Int32 → Int32 → Int32 → Int32 → Int32 → jM → jF → Option (Int32 × jM × jF)
  | 0, _, _, _, _, _, _, _ => none
  | n + 1, x1, x2, x3, x5, x6, M, F => (if 30 ≤ x6 then some (x5, M, F) else (if (jus x3 x6) = 0 then some (x5, M, F) else (if ((jus x3 x6) &&& 1) = 0 then fRu_extend_7 n x1 x2 x3 x5 (x6 + 1) M F else (if jib x5 3000 then fRu_extend_7 n x1 x2 x3 (x5 + 1) (x6 + 1) (jmu M 24 x5.toNatClampNeg (x1 ||| (x6 <<< ((x2 * 5) &&& 31)))) F else none))))
def fRu_extend_0 (x1 : Int32) (x2 : Int32) (x3 : Int32) (x4 : Int32) (M : jM) (F : jF) : Option (Int32 × jM × jF) := fRu_extend_7 jfuel x1 x2 x3 x4 0 M F
abbrev fRu_extend (x1 : Int32) (x2 : Int32) (x3 : Int32) (x4 : Int32) (M : jM) (F : jF) : Option (Int32 × jM × jF) := fRu_extend_0 x1 x2 x3 x4 M F
set_option maxHeartbeats 4000000 in
set_option maxRecDepth 100000 in
theorem uRu_extend_7 {p : Program} {e : Env} {s : State} {m : MethodId} {args : Array Value} {below : List Frame} {meth : Method} {c : Code} (l : Launch) (dC : Nat → ClassId) (dI : Nat → Nat → Nat) (cA : ClassId) (A : Nat → Nat) (Ap : Nat → Prop) (hC : jAt p s m args meth c bRu_extend 7 (some .int) wRu_extend RRu) (hA : ∀ q : Nat, s.heap.size ≤ q → Ap q) {r : Int32} {M' : jM} {F' : jF} : ∀ (n : Nat) (x1 x2 x3 x5 x6 : Int32) (M : jM) (F : jF) (B : Nat → Nat) (H : Heap) (locs : List Loc) (ls : Array Slot), jH (dC, dI) jCl [(cA, .int)] (jW cA A B M F) Ap s H locs → lv_has ls 7 [(0, .ref (A 1)), (1, .int x1), (2, .int x2), (3, .int x3), (5, .int x5), (6, .int x6)] → fRu_extend_7 n x1 x2 x3 x5 x6 M F = some (r, M', F') → W p l e (headSpec wRu_extend rRu_extend).room s m args below meth c H locs 0 0 (jQi below (dC, dI) jCl [(cA, .int)] (fun B => jW cA A B (M') (F')) Ap args s r) (F0 m 7 ls []) := by
  obtain ⟨hx, hb, hml, hr, hts, hown, hlocks, hN⟩ := id hC
  have hj : ∀ w ∈ jw, w.before args s = true := fun w h => hts w (List.mem_cons_of_mem _ h)
  intro n
  induction n with
  | zero =>
    intro x1 x2 x3 x5 x6 M F B H locs ls hJ hl h
    rw [fRu_extend_7] at h
    cases h
  | succ n ih =>
    intro x1 x2 x3 x5 x6 M F B H locs ls hJ hl h
    rw [fRu_extend_7] at h
    refine lv_iload hx hb dRu_extend_7 (lv_at hl 5 rfl) ?_
    refine lv_bipush (v := 30) hx hb dRu_extend_9 (by decide) ?_
    refine lv_icmp_ge (tgt := 54) hx hb dRu_extend_11 (by decide) (fun c1 => ?_) (fun c1 => ?_)
    · replace h := jif_t c1 h
      refine lv_iload hx hb dRu_extend_54 (lv_at hl 4 rfl) ?_
      cases h
      exact jreti (u := B) hx hb hr rfl hlocks hJ dRu_extend_56 rfl
    · replace h := jif_f c1 h
      refine lv_iload_n hx hb dRu_extend_14 rfl (lv_at hl 3 rfl) ?_
      refine lv_iload hx hb dRu_extend_15 (lv_at hl 5 rfl) ?_
      refine lv_iushr (v := jus x3 x6) hx hb dRu_extend_17 rfl ?_
      refine lv_if_eq (tgt := 54) hx hb dRu_extend_18 (by decide) (fun c2 => ?_) (fun c2 => ?_)
      · replace h := jif_t c2 h
        refine lv_iload hx hb dRu_extend_54 (lv_at hl 4 rfl) ?_
        cases h
        exact jreti (u := B) hx hb hr rfl hlocks hJ dRu_extend_56 rfl
      · replace h := jif_f c2 h
        refine lv_iload_n hx hb dRu_extend_21 rfl (lv_at hl 3 rfl) ?_
        refine lv_iload hx hb dRu_extend_22 (lv_at hl 5 rfl) ?_
        refine lv_iushr (v := jus x3 x6) hx hb dRu_extend_24 rfl ?_
        refine lv_iconst (v := 1) hx hb dRu_extend_25 (by decide) ?_
        refine lv_iand hx hb dRu_extend_26 ?_
        refine lv_if_eq (tgt := 48) hx hb dRu_extend_27 (by decide) (fun c3 => ?_) (fun c3 => ?_)
        · replace h := jif_t c3 h
          refine lv_iinc (v := x6 + 1) (lv' := [(6, .int (x6 + 1)), (0, .ref (A 1)), (1, .int x1), (2, .int x2), (3, .int x3), (5, .int x5)]) hx hb dRu_extend_48 hl (k := 5) rfl rfl (by decide) rfl (fun ls hl => ?_)
          refine lv_goto (tgt := 7) hx hb dRu_extend_51 (by decide) ?_
          exact ih _ _ _ _ _ _ _ _ _ _ _ hJ (lv_sub hl [1, 2, 3, 4, 5, 0] rfl) h
        · replace h := jif_f c3 h
          refine lv_aload_n hx hb dRu_extend_30 rfl (lv_at hl 0 rfl) ?_
          refine va_get (D := (dC, dI)) (ci := 1) (v := .ref (B 1)) (C := RRu) (T := TRu) (N := 11) hx hb hj iRu hown hJ.1 hJ.2.1 1 rfl rfl 3 (by decide) (hj _ jw_145) (fun _ h9 => h9) rfl dRu_extend_31 ?_
          refine lv_iload hx hb dRu_extend_34 (lv_at hl 4 rfl) ?_
          refine lv_iload_n hx hb dRu_extend_36 rfl (lv_at hl 1 rfl) ?_
          refine lv_iload hx hb dRu_extend_37 (lv_at hl 5 rfl) ?_
          refine lv_iload_n hx hb dRu_extend_39 rfl (lv_at hl 2 rfl) ?_
          refine lv_iconst (v := 5) hx hb dRu_extend_40 (by decide) ?_
          refine lv_imul hx hb dRu_extend_41 ?_
          refine lv_ishl hx hb dRu_extend_42 ?_
          refine lv_ior hx hb dRu_extend_43 ?_
          obtain ⟨hi4, h⟩ := jib_h h
          refine jast_24 hx hb hJ hi4 dRu_extend_44 (fun H locs hJ => ?_)
          refine lv_iinc (v := x5 + 1) (lv' := [(5, .int (x5 + 1)), (0, .ref (A 1)), (1, .int x1), (2, .int x2), (3, .int x3), (6, .int x6)]) hx hb dRu_extend_45 hl (k := 4) rfl rfl (by decide) rfl (fun ls hl => ?_)
          refine lv_iinc (v := x6 + 1) (lv' := [(6, .int (x6 + 1)), (5, .int (x5 + 1)), (0, .ref (A 1)), (1, .int x1), (2, .int x2), (3, .int x3)]) hx hb dRu_extend_48 hl (k := 5) rfl rfl (by decide) rfl (fun ls hl => ?_)
          refine lv_goto (tgt := 7) hx hb dRu_extend_51 (by decide) ?_
          exact ih _ _ _ _ _ _ _ _ _ _ _ hJ (lv_sub hl [2, 3, 4, 5, 1, 0] rfl) h
set_option maxHeartbeats 4000000 in
set_option maxRecDepth 100000 in
theorem uRu_extend_0 {p : Program} {e : Env} {s : State} {m : MethodId} {args : Array Value} {below : List Frame} {meth : Method} {c : Code} (l : Launch) (dC : Nat → ClassId) (dI : Nat → Nat → Nat) (cA : ClassId) (A : Nat → Nat) (Ap : Nat → Prop) (hC : jAt p s m args meth c bRu_extend 7 (some .int) wRu_extend RRu) (hA : ∀ q : Nat, s.heap.size ≤ q → Ap q) {r : Int32} {M' : jM} {F' : jF} : ∀ (x1 x2 x3 x4 : Int32) (M : jM) (F : jF) (B : Nat → Nat) (H : Heap) (locs : List Loc) (ls : Array Slot), jH (dC, dI) jCl [(cA, .int)] (jW cA A B M F) Ap s H locs → lv_has ls 7 [(0, .ref (A 1)), (1, .int x1), (2, .int x2), (3, .int x3), (4, .int x4)] → fRu_extend_0 x1 x2 x3 x4 M F = some (r, M', F') → W p l e (headSpec wRu_extend rRu_extend).room s m args below meth c H locs 0 0 (jQi below (dC, dI) jCl [(cA, .int)] (fun B => jW cA A B (M') (F')) Ap args s r) (F0 m 0 ls []) := by
  obtain ⟨hx, hb, hml, hr, hts, hown, hlocks, hN⟩ := id hC
  have hj : ∀ w ∈ jw, w.before args s = true := fun w h => hts w (List.mem_cons_of_mem _ h)
  intro x1 x2 x3 x4 M F B H locs ls hJ hl h
  unfold fRu_extend_0 at h
  refine lv_iload hx hb dRu_extend_0 (lv_at hl 4 rfl) ?_
  refine lv_istore (lv' := [(5, .int x4), (0, .ref (A 1)), (1, .int x1), (2, .int x2), (3, .int x3), (4, .int x4)]) hx hb dRu_extend_2 hl (by decide) rfl (fun ls hl => ?_)
  refine lv_iconst (v := 0) hx hb dRu_extend_4 (by decide) ?_
  refine lv_istore (lv' := [(6, .int 0), (5, .int x4), (0, .ref (A 1)), (1, .int x1), (2, .int x2), (3, .int x3), (4, .int x4)]) hx hb dRu_extend_5 hl (by decide) rfl (fun ls hl => ?_)
  exact uRu_extend_7 l dC dI cA A Ap hC hA jfuel _ _ _ _ _ _ _ _ _ _ _ hJ (lv_sub hl [2, 3, 4, 5, 1, 0] rfl) h
set_option maxHeartbeats 4000000 in
set_option maxRecDepth 100000 in
theorem cRu_extend (l : Launch) (dC : Nat → ClassId) (dI : Nat → Nat → Nat) (cA : ClassId) (A : Nat → Nat) (x1 : Int32) (x2 : Int32) (x3 : Int32) (x4 : Int32) (M : jM) (F : jF) (B : Nat → Nat) (sz : Nat) {r : Int32} {M' : jM} {F' : jF} (h : fRu_extend x1 x2 x3 x4 M F = some (r, M', F')) : jCi l yRu_extend wRu_extend rRu_extend (dC, dI) jCl [(cA, .int)] [.ref (A 1), .int x1, .int x2, .int x3, .int x4] (jW cA A B M F) sz r (fun B => jW cA A B (M') (F')) :=
  jOf (Qc := fun Ap => va_Qi (fun q (_ : Nat → Nat) => q = r) (jPost (dC, dI) jCl [(cA, .int)] (fun B => jW cA A B (M') (F')) Ap) Ap) (by decide) rfl (Nat.le_of_ble_eq_true rfl) (fun p e s m below meth c Ap ls hC hA hJ hl => uRu_extend_0 l dC dI cA A Ap hC hA _ _ _ _ _ _ _ _ _ _ hJ (lv_sub hl [0, 1, 2, 3, 4] rfl) h)
abbrev bRu_swap : ByteArray := prog_4_method_7_code
abbrev yRu_swap : MethodName := ⟨RRu, "swap", "()V"⟩
abbrev wRu_swap : List Cond := .code yRu_swap bRu_swap 2 none :: jw
theorem dRu_swap_0 : decode bRu_swap 0 = .ok (.aload_n 0, 1) := by decide +kernel
theorem dRu_swap_1 : decode bRu_swap 1 = .ok (.getfield 29, 3) := by decide +kernel
theorem dRu_swap_4 : decode bRu_swap 4 = .ok (.astore_n 1, 1) := by decide +kernel
theorem dRu_swap_5 : decode bRu_swap 5 = .ok (.aload_n 0, 1) := by decide +kernel
theorem dRu_swap_6 : decode bRu_swap 6 = .ok (.aload_n 0, 1) := by decide +kernel
theorem dRu_swap_7 : decode bRu_swap 7 = .ok (.getfield 25, 3) := by decide +kernel
theorem dRu_swap_10 : decode bRu_swap 10 = .ok (.putfield 29, 3) := by decide +kernel
theorem dRu_swap_13 : decode bRu_swap 13 = .ok (.aload_n 0, 1) := by decide +kernel
theorem dRu_swap_14 : decode bRu_swap 14 = .ok (.aload_n 1, 1) := by decide +kernel
theorem dRu_swap_15 : decode bRu_swap 15 = .ok (.putfield 25, 3) := by decide +kernel
theorem dRu_swap_18 : decode bRu_swap 18 = .ok (.return_, 1) := by decide +kernel
abbrev rRu_swap : Room := { frames := 0, cells := 0, slots := 0, locals := 0 }
def fRu_swap_0 (M : jM) (F : jF) : Option (Int32 × jM × jF) := some (0, jms M 23 24, F)
abbrev fRu_swap (M : jM) (F : jF) : Option (Int32 × jM × jF) := fRu_swap_0  M F
set_option maxHeartbeats 4000000 in
set_option maxRecDepth 100000 in
theorem uRu_swap_0 {p : Program} {e : Env} {s : State} {m : MethodId} {args : Array Value} {below : List Frame} {meth : Method} {c : Code} (l : Launch) (dC : Nat → ClassId) (dI : Nat → Nat → Nat) (cA : ClassId) (A : Nat → Nat) (Ap : Nat → Prop) (hC : jAt p s m args meth c bRu_swap 2 none wRu_swap RRu) (hA : ∀ q : Nat, s.heap.size ≤ q → Ap q) {r : Int32} {M' : jM} {F' : jF} : ∀ (M : jM) (F : jF) (B : Nat → Nat) (H : Heap) (locs : List Loc) (ls : Array Slot), jH (dC, dI) jCl [(cA, .int)] (jW cA A B M F) Ap s H locs → lv_has ls 2 [(0, .ref (A 1))] → fRu_swap_0 M F = some (r, M', F') → W p l e (headSpec wRu_swap rRu_swap).room s m args below meth c H locs 0 0 (jQv below (dC, dI) jCl [(cA, .int)] (fun B => jW cA A B (M') (F')) Ap args s) (F0 m 0 ls []) := by
  obtain ⟨hx, hb, hml, hr, hts, hown, hlocks, hN⟩ := id hC
  have hj : ∀ w ∈ jw, w.before args s = true := fun w h => hts w (List.mem_cons_of_mem _ h)
  intro  M F B H locs ls hJ hl h
  unfold fRu_swap_0 at h
  refine lv_aload_n hx hb dRu_swap_0 rfl (lv_at hl 0 rfl) ?_
  refine va_get (D := (dC, dI)) (ci := 1) (v := .ref (B 1)) (C := RRu) (T := TRu) (N := 11) hx hb hj iRu hown hJ.1 hJ.2.1 1 rfl rfl 3 (by decide) (hj _ jw_145) (fun _ h9 => h9) rfl dRu_swap_1 ?_
  refine lv_astore_n (lv' := [(1, .ref (B 1)), (0, .ref (A 1))]) hx hb dRu_swap_4 rfl hl (by decide) rfl (fun ls hl => ?_)
  refine lv_aload_n hx hb dRu_swap_5 rfl (lv_at hl 1 rfl) ?_
  refine lv_aload_n hx hb dRu_swap_6 rfl (lv_at hl 1 rfl) ?_
  refine va_get (D := (dC, dI)) (ci := 1) (v := .ref (B 0)) (C := RRu) (T := TRu) (N := 11) hx hb hj iRu hown hJ.1 hJ.2.1 1 rfl rfl 2 (by decide) (hj _ jw_144) (fun _ h9 => h9) rfl dRu_swap_7 ?_
  refine va_put (D := (dC, dI)) (ci := 1) (v := .ref (B 0)) (ty := (.array .int)) (C := RRu) (T := TRu) (N := 11) hx hb hj iRu tRu tRu_ok nRu hown hJ.1 hJ.2.1 hJ.2.2.1 hJ.2.2.2 1 rfl rfl 3 (by decide) (hj _ jw_145) (fun _ h9 => h9) rfl (by decide +kernel) rfl rfl (Nat.le_of_ble_eq_true rfl) dRu_swap_10 (fun H locs hP hD hS => ?_)
  replace hJ : jH (dC, dI) jCl [(cA, .int)] (jWr cA A B M F (B 0) (B 0) (B 2)) Ap s H locs := ⟨hJ.1, hP, hD, hS⟩
  refine lv_aload_n hx hb dRu_swap_13 rfl (lv_at hl 1 rfl) ?_
  refine lv_aload_n hx hb dRu_swap_14 rfl (lv_at hl 0 rfl) ?_
  refine va_put (D := (dC, dI)) (ci := 1) (v := .ref (B 1)) (ty := (.array .int)) (C := RRu) (T := TRu) (N := 11) hx hb hj iRu tRu tRu_ok nRu hown hJ.1 hJ.2.1 hJ.2.2.1 hJ.2.2.2 1 rfl rfl 2 (by decide) (hj _ jw_144) (fun _ h9 => h9) rfl (by decide +kernel) rfl rfl (Nat.le_of_ble_eq_true rfl) dRu_swap_15 (fun H locs hP hD hS => ?_)
  replace hJ : jH (dC, dI) jCl [(cA, .int)] (jWr cA A B M F (B 1) (B 0) (B 2)) Ap s H locs := ⟨hJ.1, hP, hD, hS⟩
  replace hJ : jH (dC, dI) jCl [(cA, .int)] (jW cA A (jbs B 0 1) (jms M 23 24) F) Ap s H locs := ⟨hJ.1, hJ.2.1.sub [0, 1, 2, 3, 4, 5, 6, 7, 8, 9, 10, 11, 12, 13, 14, 15, 16, 17, 18, 19, 20, 21, 22, 24, 23, 25, 26] rfl, hJ.2.2.1.sub [0, 1, 2, 3, 4, 5, 6, 7, 8, 9, 10, 11, 12, 13, 14, 15, 16, 17, 18, 19, 20, 21, 22, 24, 23, 25, 26] (by decide) rfl, hJ.2.2.2⟩
  cases h
  exact jretv (u := (jbs B 0 1)) hx hb hr hlocks hJ dRu_swap_18
set_option maxHeartbeats 4000000 in
set_option maxRecDepth 100000 in
theorem cRu_swap (l : Launch) (dC : Nat → ClassId) (dI : Nat → Nat → Nat) (cA : ClassId) (A : Nat → Nat) (M : jM) (F : jF) (B : Nat → Nat) (sz : Nat) {r : Int32} {M' : jM} {F' : jF} (h : fRu_swap M F = some (r, M', F')) : jCv l yRu_swap wRu_swap rRu_swap (dC, dI) jCl [(cA, .int)] [.ref (A 1)] (jW cA A B M F) sz (fun B => jW cA A B (M') (F')) :=
  jOf (Qc := fun Ap => va_Qv (fun _ : Nat → Nat => True) (jPost (dC, dI) jCl [(cA, .int)] (fun B => jW cA A B (M') (F')) Ap) Ap) (by decide) rfl (Nat.le_of_ble_eq_true rfl) (fun p e s m below meth c Ap ls hC hA hJ hl => uRu_swap_0 l dC dI cA A Ap hC hA _ _ _ _ _ _ hJ (lv_sub hl [0] rfl) h)
abbrev bRu_goTo : ByteArray := prog_4_method_4_code
abbrev yRu_goTo : MethodName := ⟨RRu, "goTo", "(II)Z"⟩
abbrev wRu_goTo : List Cond := .code yRu_goTo bRu_goTo 8 (some .boolean) :: jw
theorem dRu_goTo_0 : decode bRu_goTo 0 = .ok (.aload_n 0, 1) := by decide +kernel
theorem dRu_goTo_1 : decode bRu_goTo 1 = .ok (.getfield 12, 3) := by decide +kernel
theorem dRu_goTo_4 : decode bRu_goTo 4 = .ok (.getfield 54, 3) := by decide +kernel
theorem dRu_goTo_7 : decode bRu_goTo 7 = .ok (.iload_n 1, 1) := by decide +kernel
theorem dRu_goTo_8 : decode bRu_goTo 8 = .ok (.invokevirtual 91, 3) := by decide +kernel
theorem dRu_goTo_11 : decode bRu_goTo 11 = .ok (.istore_n 3, 1) := by decide +kernel
theorem dRu_goTo_12 : decode bRu_goTo 12 = .ok (.iload_n 2, 1) := by decide +kernel
theorem dRu_goTo_13 : decode bRu_goTo 13 = .ok (.iconst (-1), 1) := by decide +kernel
theorem dRu_goTo_14 : decode bRu_goTo 14 = .ok (.if_icmp .eq 28, 3) := by decide +kernel
theorem dRu_goTo_17 : decode bRu_goTo 17 = .ok (.aload_n 0, 1) := by decide +kernel
theorem dRu_goTo_18 : decode bRu_goTo 18 = .ok (.getfield 12, 3) := by decide +kernel
theorem dRu_goTo_21 : decode bRu_goTo 21 = .ok (.getfield 54, 3) := by decide +kernel
theorem dRu_goTo_24 : decode bRu_goTo 24 = .ok (.iload_n 2, 1) := by decide +kernel
theorem dRu_goTo_25 : decode bRu_goTo 25 = .ok (.iload_n 1, 1) := by decide +kernel
theorem dRu_goTo_26 : decode bRu_goTo 26 = .ok (.invokevirtual 95, 3) := by decide +kernel
theorem dRu_goTo_29 : decode bRu_goTo 29 = .ok (.ifCond .ne 13, 3) := by decide +kernel
theorem dRu_goTo_32 : decode bRu_goTo 32 = .ok (.aload_n 0, 1) := by decide +kernel
theorem dRu_goTo_33 : decode bRu_goTo 33 = .ok (.dup, 1) := by decide +kernel
theorem dRu_goTo_34 : decode bRu_goTo 34 = .ok (.getfield 39, 3) := by decide +kernel
theorem dRu_goTo_37 : decode bRu_goTo 37 = .ok (.iload_n 3, 1) := by decide +kernel
theorem dRu_goTo_38 : decode bRu_goTo 38 = .ok (.iadd, 1) := by decide +kernel
theorem dRu_goTo_39 : decode bRu_goTo 39 = .ok (.putfield 39, 3) := by decide +kernel
theorem dRu_goTo_42 : decode bRu_goTo 42 = .ok (.iconst 0, 1) := by decide +kernel
theorem dRu_goTo_43 : decode bRu_goTo 43 = .ok (.istore 4, 2) := by decide +kernel
theorem dRu_goTo_45 : decode bRu_goTo 45 = .ok (.iconst 0, 1) := by decide +kernel
theorem dRu_goTo_46 : decode bRu_goTo 46 = .ok (.istore 5, 2) := by decide +kernel
theorem dRu_goTo_48 : decode bRu_goTo 48 = .ok (.iload 5, 2) := by decide +kernel
theorem dRu_goTo_50 : decode bRu_goTo 50 = .ok (.aload_n 0, 1) := by decide +kernel
theorem dRu_goTo_51 : decode bRu_goTo 51 = .ok (.getfield 35, 3) := by decide +kernel
theorem dRu_goTo_54 : decode bRu_goTo 54 = .ok (.if_icmp .ge 89, 3) := by decide +kernel
theorem dRu_goTo_57 : decode bRu_goTo 57 = .ok (.aload_n 0, 1) := by decide +kernel
theorem dRu_goTo_58 : decode bRu_goTo 58 = .ok (.getfield 25, 3) := by decide +kernel
theorem dRu_goTo_61 : decode bRu_goTo 61 = .ok (.iload 5, 2) := by decide +kernel
theorem dRu_goTo_63 : decode bRu_goTo 63 = .ok (.iaload, 1) := by decide +kernel
theorem dRu_goTo_64 : decode bRu_goTo 64 = .ok (.istore 6, 2) := by decide +kernel
theorem dRu_goTo_66 : decode bRu_goTo 66 = .ok (.aload_n 0, 1) := by decide +kernel
theorem dRu_goTo_67 : decode bRu_goTo 67 = .ok (.dup, 1) := by decide +kernel
theorem dRu_goTo_68 : decode bRu_goTo 68 = .ok (.getfield 39, 3) := by decide +kernel
theorem dRu_goTo_71 : decode bRu_goTo 71 = .ok (.iload_n 2, 1) := by decide +kernel
theorem dRu_goTo_72 : decode bRu_goTo 72 = .ok (.iconst (-1), 1) := by decide +kernel
theorem dRu_goTo_73 : decode bRu_goTo 73 = .ok (.if_icmp .ne 7, 3) := by decide +kernel
theorem dRu_goTo_76 : decode bRu_goTo 76 = .ok (.iload_n 3, 1) := by decide +kernel
theorem dRu_goTo_77 : decode bRu_goTo 77 = .ok (.goto 16, 3) := by decide +kernel
theorem dRu_goTo_80 : decode bRu_goTo 80 = .ok (.aload_n 0, 1) := by decide +kernel
theorem dRu_goTo_81 : decode bRu_goTo 81 = .ok (.getfield 21, 3) := by decide +kernel
theorem dRu_goTo_84 : decode bRu_goTo 84 = .ok (.iload_n 2, 1) := by decide +kernel
theorem dRu_goTo_85 : decode bRu_goTo 85 = .ok (.iload 6, 2) := by decide +kernel
theorem dRu_goTo_87 : decode bRu_goTo 87 = .ok (.invokevirtual 98, 3) := by decide +kernel
theorem dRu_goTo_90 : decode bRu_goTo 90 = .ok (.invokestatic 101, 3) := by decide +kernel
theorem dRu_goTo_93 : decode bRu_goTo 93 = .ok (.iadd, 1) := by decide +kernel
theorem dRu_goTo_94 : decode bRu_goTo 94 = .ok (.putfield 39, 3) := by decide +kernel
theorem dRu_goTo_97 : decode bRu_goTo 97 = .ok (.aload_n 0, 1) := by decide +kernel
theorem dRu_goTo_98 : decode bRu_goTo 98 = .ok (.getfield 21, 3) := by decide +kernel
theorem dRu_goTo_101 : decode bRu_goTo 101 = .ok (.iload 6, 2) := by decide +kernel
theorem dRu_goTo_103 : decode bRu_goTo 103 = .ok (.invokevirtual 106, 3) := by decide +kernel
theorem dRu_goTo_106 : decode bRu_goTo 106 = .ok (.istore 7, 2) := by decide +kernel
theorem dRu_goTo_108 : decode bRu_goTo 108 = .ok (.iload 4, 2) := by decide +kernel
theorem dRu_goTo_110 : decode bRu_goTo 110 = .ok (.iload 7, 2) := by decide +kernel
theorem dRu_goTo_112 : decode bRu_goTo 112 = .ok (.invokestatic 101, 3) := by decide +kernel
theorem dRu_goTo_115 : decode bRu_goTo 115 = .ok (.iadd, 1) := by decide +kernel
theorem dRu_goTo_116 : decode bRu_goTo 116 = .ok (.sipush 3000, 3) := by decide +kernel
theorem dRu_goTo_119 : decode bRu_goTo 119 = .ok (.if_icmp .le 5, 3) := by decide +kernel
theorem dRu_goTo_122 : decode bRu_goTo 122 = .ok (.iconst 0, 1) := by decide +kernel
theorem dRu_goTo_123 : decode bRu_goTo 123 = .ok (.ireturn, 1) := by decide +kernel
theorem dRu_goTo_124 : decode bRu_goTo 124 = .ok (.aload_n 0, 1) := by decide +kernel
theorem dRu_goTo_125 : decode bRu_goTo 125 = .ok (.iload 6, 2) := by decide +kernel
theorem dRu_goTo_127 : decode bRu_goTo 127 = .ok (.iload_n 1, 1) := by decide +kernel
theorem dRu_goTo_128 : decode bRu_goTo 128 = .ok (.iload 7, 2) := by decide +kernel
theorem dRu_goTo_130 : decode bRu_goTo 130 = .ok (.iload 4, 2) := by decide +kernel
theorem dRu_goTo_132 : decode bRu_goTo 132 = .ok (.invokevirtual 109, 3) := by decide +kernel
theorem dRu_goTo_135 : decode bRu_goTo 135 = .ok (.istore 4, 2) := by decide +kernel
theorem dRu_goTo_137 : decode bRu_goTo 137 = .ok (.iinc 5 1, 3) := by decide +kernel
theorem dRu_goTo_140 : decode bRu_goTo 140 = .ok (.goto (-92), 3) := by decide +kernel
theorem dRu_goTo_143 : decode bRu_goTo 143 = .ok (.aload_n 0, 1) := by decide +kernel
theorem dRu_goTo_144 : decode bRu_goTo 144 = .ok (.invokevirtual 113, 3) := by decide +kernel
theorem dRu_goTo_147 : decode bRu_goTo 147 = .ok (.aload_n 0, 1) := by decide +kernel
theorem dRu_goTo_148 : decode bRu_goTo 148 = .ok (.iload 4, 2) := by decide +kernel
theorem dRu_goTo_150 : decode bRu_goTo 150 = .ok (.putfield 35, 3) := by decide +kernel
theorem dRu_goTo_153 : decode bRu_goTo 153 = .ok (.iconst 1, 1) := by decide +kernel
theorem dRu_goTo_154 : decode bRu_goTo 154 = .ok (.ireturn, 1) := by decide +kernel
abbrev rRu_goTo : Room := { frames := 3, cells := 0, slots := 0, locals := 68 }
def fRu_goTo_48 : Nat → Int32 → Int32 → Int32 → Int32 → Int32 → jM → jF → Option (Int32 × jM × jF)
  | 0, _, _, _, _, _, _, _ => none
  | n + 1, x1, x2, x3, x4, x5, M, F => (if (F 4) ≤ x5 then ((fRu_swap M F).bind fun q4 => some (1, q4.2.1, jfu q4.2.2 4 x4)) else (if jib x5 3000 then (if x2 = (-1) then ((fSi_letThrough (M 23 x5.toNatClampNeg) M (jfu F 5 ((F 5) + x3))).bind fun q15 => ((fIn_bitCount q15 M (jfu F 5 ((F 5) + x3))).bind fun q16 => (if (x4 + q16) ≤ 3000 then ((fRu_extend (M 23 x5.toNatClampNeg) x1 q15 x4 M (jfu F 5 ((F 5) + x3))).bind fun q18 => fRu_goTo_48 n x1 x2 x3 q18.1 (x5 + 1) q18.2.1 q18.2.2) else some (0, M, jfu F 5 ((F 5) + x3))))) else ((fSi_letThroughBy x2 (M 23 x5.toNatClampNeg) M F).bind fun q8 => ((fIn_bitCount q8 M F).bind fun q9 => ((fSi_letThrough (M 23 x5.toNatClampNeg) M (jfu F 5 ((F 5) + q9))).bind fun q10 => ((fIn_bitCount q10 M (jfu F 5 ((F 5) + q9))).bind fun q11 => (if (x4 + q11) ≤ 3000 then ((fRu_extend (M 23 x5.toNatClampNeg) x1 q10 x4 M (jfu F 5 ((F 5) + q9))).bind fun q13 => fRu_goTo_48 n x1 x2 x3 q13.1 (x5 + 1) q13.2.1 q13.2.2) else some (0, M, jfu F 5 ((F 5) + q9)))))))) else none))
def fRu_goTo_42 (x1 : Int32) (x2 : Int32) (x3 : Int32) (M : jM) (F : jF) : Option (Int32 × jM × jF) := fRu_goTo_48 jfuel x1 x2 x3 0 0 M F
def fRu_goTo_0 (x1 : Int32) (x2 : Int32) (M : jM) (F : jF) : Option (Int32 × jM × jF) := ((fQu_rowsOf x1 M F).bind fun q1 => (if x2 = (-1) then fRu_goTo_42 x1 x2 q1 M F else ((fQu_tellsByIndex x2 x1 M F).bind fun q20 => (if q20 = 0 then fRu_goTo_42 x1 x2 q1 M (jfu F 5 ((F 5) + q1)) else fRu_goTo_42 x1 x2 q1 M F))))
abbrev fRu_goTo (x1 : Int32) (x2 : Int32) (M : jM) (F : jF) : Option (Int32 × jM × jF) := fRu_goTo_0 x1 x2 M F
set_option maxHeartbeats 4000000 in
set_option maxRecDepth 100000 in
theorem uRu_goTo_48 {p : Program} {e : Env} {s : State} {m : MethodId} {args : Array Value} {below : List Frame} {meth : Method} {c : Code} (l : Launch) (dC : Nat → ClassId) (dI : Nat → Nat → Nat) (cA : ClassId) (A : Nat → Nat) (Ap : Nat → Prop) (hC : jAt p s m args meth c bRu_goTo 8 (some .boolean) wRu_goTo RRu) (hA : ∀ q : Nat, s.heap.size ≤ q → Ap q) {r : Int32} {M' : jM} {F' : jF} : ∀ (n : Nat) (x1 x2 x3 x4 x5 : Int32) (M : jM) (F : jF) (B : Nat → Nat) (H : Heap) (locs : List Loc) (ls : Array Slot), jH (dC, dI) jCl [(cA, .int)] (jW cA A B M F) Ap s H locs → lv_has ls 8 [(0, .ref (A 1)), (1, .int x1), (2, .int x2), (3, .int x3), (4, .int x4), (5, .int x5)] → fRu_goTo_48 n x1 x2 x3 x4 x5 M F = some (r, M', F') → W p l e (headSpec wRu_goTo rRu_goTo).room s m args below meth c H locs 0 0 (jQi below (dC, dI) jCl [(cA, .int)] (fun B => jW cA A B (M') (F')) Ap args s r) (F0 m 48 ls []) := by
  obtain ⟨hx, hb, hml, hr, hts, hown, hlocks, hN⟩ := id hC
  have hj : ∀ w ∈ jw, w.before args s = true := fun w h => hts w (List.mem_cons_of_mem _ h)
  intro n
  induction n with
  | zero =>
    intro x1 x2 x3 x4 x5 M F B H locs ls hJ hl h
    rw [fRu_goTo_48] at h
    cases h
  | succ n ih =>
    intro x1 x2 x3 x4 x5 M F B H locs ls hJ hl h
    rw [fRu_goTo_48] at h
    refine lv_iload hx hb dRu_goTo_48 (lv_at hl 5 rfl) ?_
    refine lv_aload_n hx hb dRu_goTo_50 rfl (lv_at hl 0 rfl) ?_
    refine va_get (D := (dC, dI)) (ci := 1) (v := .int (F 4)) (C := RRu) (T := TRu) (N := 11) hx hb hj iRu hown hJ.1 hJ.2.1 1 rfl rfl 5 (by decide) (hj _ jw_147) (fun _ h9 => h9) rfl dRu_goTo_51 ?_
    refine lv_icmp_ge (tgt := 143) hx hb dRu_goTo_54 (by decide) (fun c3 => ?_) (fun c3 => ?_)
    · replace h := jif_t c3 h
      refine lv_aload_n hx hb dRu_goTo_143 rfl (lv_at hl 0 rfl) ?_
      obtain ⟨q4, hq4, h⟩ := jbi_h h
      refine jcallv (w' := fun B => jW cA A B q4.2.1 q4.2.2) (va_runV (As := []) (rest := []) ⟨hx, hb, hml, hown, hts⟩ (cRu_swap l dC dI cA A M F B H.size hq4) (cwV 0 hts (jgoodV jw_566 jw_568 jws_14 jw_2 jw_569) rfl rfl rfl (by decide +kernel) ⟨Nat.le_of_ble_eq_true rfl, Nat.le_of_ble_eq_true rfl⟩) (jpreV hN hJ (ci := 1) (q0 := 1) rfl rfl) rfl rfl hl.1 rfl (lv_room (Nat.le_of_ble_eq_true rfl)) dRu_goTo_144 ⟨Nat.zero_le _, Nat.zero_le _⟩) hA hJ (fun B5 H locs hJ => ?_)
      refine lv_aload_n hx hb dRu_goTo_147 rfl (lv_at hl 0 rfl) ?_
      refine lv_iload hx hb dRu_goTo_148 (lv_at hl 4 rfl) ?_
      refine va_put (D := (dC, dI)) (ci := 1) (v := .int x4) (ty := .int) (C := RRu) (T := TRu) (N := 11) hx hb hj iRu tRu tRu_ok nRu hown hJ.1 hJ.2.1 hJ.2.2.1 hJ.2.2.2 1 rfl rfl 5 (by decide) (hj _ jw_147) (fun _ h9 => h9) rfl (by decide +kernel) rfl rfl (Nat.le_of_ble_eq_true rfl) dRu_goTo_150 (fun H locs hP hD hS => ?_)
      replace hJ : jH (dC, dI) jCl [(cA, .int)] (jW cA A B5 q4.2.1 (jfu q4.2.2 4 x4)) Ap s H locs := ⟨hJ.1, hP, hD, hS⟩
      refine lv_iconst (v := 1) hx hb dRu_goTo_153 (by decide) ?_
      cases h
      exact jreti (u := B5) hx hb hr rfl hlocks hJ dRu_goTo_154 rfl
    · replace h := jif_f c3 h
      refine lv_aload_n hx hb dRu_goTo_57 rfl (lv_at hl 0 rfl) ?_
      refine va_get (D := (dC, dI)) (ci := 1) (v := .ref (B 0)) (C := RRu) (T := TRu) (N := 11) hx hb hj iRu hown hJ.1 hJ.2.1 1 rfl rfl 2 (by decide) (hj _ jw_144) (fun _ h9 => h9) rfl dRu_goTo_58 ?_
      refine lv_iload hx hb dRu_goTo_61 (lv_at hl 5 rfl) ?_
      obtain ⟨hi6, h⟩ := jib_h h
      refine jald_23 hx hb hJ hi6 dRu_goTo_63 ?_
      refine lv_istore (lv' := [(6, .int (M 23 x5.toNatClampNeg)), (0, .ref (A 1)), (1, .int x1), (2, .int x2), (3, .int x3), (4, .int x4), (5, .int x5)]) hx hb dRu_goTo_64 hl (by decide) rfl (fun ls hl => ?_)
      refine lv_aload_n hx hb dRu_goTo_66 rfl (lv_at hl 1 rfl) ?_
      refine lv_dup hx hb dRu_goTo_67 rfl ?_
      refine va_get (D := (dC, dI)) (ci := 1) (v := .int (F 5)) (C := RRu) (T := TRu) (N := 11) hx hb hj iRu hown hJ.1 hJ.2.1 1 rfl rfl 6 (by decide) (hj _ jw_148) (fun _ h9 => h9) rfl dRu_goTo_68 ?_
      refine lv_iload_n hx hb dRu_goTo_71 rfl (lv_at hl 3 rfl) ?_
      refine lv_iconst (v := (-1)) hx hb dRu_goTo_72 (by decide) ?_
      refine lv_icmp_ne (tgt := 80) hx hb dRu_goTo_73 (by decide) (fun c7 => ?_) (fun c7 => ?_)
      · replace h := jif_f c7 h
        refine lv_aload_n hx hb dRu_goTo_80 rfl (lv_at hl 1 rfl) ?_
        refine va_get (D := (dC, dI)) (ci := 1) (v := .ref (A 5)) (C := RRu) (T := TRu) (N := 11) hx hb hj iRu hown hJ.1 hJ.2.1 1 rfl rfl 1 (by decide) (hj _ jw_143) (fun _ h9 => h9) rfl dRu_goTo_81 ?_
        refine lv_iload_n hx hb dRu_goTo_84 rfl (lv_at hl 3 rfl) ?_
        refine lv_iload hx hb dRu_goTo_85 (lv_at hl 0 rfl) ?_
        obtain ⟨q8, hq8, h⟩ := jbi_h h
        refine jcalli (w' := fun B => jW cA A B M F) (va_runV (As := [.int x2, .int (M 23 x5.toNatClampNeg)]) (rest := [.int (F 5), .ref (A 1)]) ⟨hx, hb, hml, hown, hts⟩ (cSi_letThroughBy l dC dI cA A x2 (M 23 x5.toNatClampNeg) M F B H.size hq8) (cwV 2 hts (jgoodV jw_544 jw_545 jw_546 jw_6 jw_547) rfl rfl rfl (by decide +kernel) ⟨Nat.le_of_ble_eq_true rfl, Nat.le_of_ble_eq_true rfl⟩) (jpreV hN hJ (ci := 5) (q0 := 5) rfl rfl) rfl rfl hl.1 rfl (lv_room (Nat.le_of_ble_eq_true rfl)) dRu_goTo_87 ⟨Nat.zero_le _, Nat.zero_le _⟩) hA hJ (fun B H locs hJ => ?_)
        obtain ⟨q9, hq9, h⟩ := jbi_h h
        refine jcalli (w' := fun B => jW cA A B M F) (va_runS (As := [.int q8]) (rest := [.int (F 5), .ref (A 1)]) ⟨hx, hb, hml, hown, hts⟩ (cIn_bitCount l dC dI cA A q8 M F B H.size hq9) (va_cwS 1 hts (jgoodS jw_551 jw_552 jw_15 jw_553) rfl rfl rfl (by decide +kernel) ⟨Nat.le_of_ble_eq_true rfl, Nat.le_of_ble_eq_true rfl⟩) (jpreS hN hJ) rfl rfl hl.1 rfl (lv_room (Nat.le_of_ble_eq_true rfl)) dRu_goTo_90 ⟨Nat.zero_le _, Nat.zero_le _⟩) hA hJ (fun B H locs hJ => ?_)
        refine lv_iadd hx hb dRu_goTo_93 ?_
        refine va_put (D := (dC, dI)) (ci := 1) (v := .int ((F 5) + q9)) (ty := .int) (C := RRu) (T := TRu) (N := 11) hx hb hj iRu tRu tRu_ok nRu hown hJ.1 hJ.2.1 hJ.2.2.1 hJ.2.2.2 1 rfl rfl 6 (by decide) (hj _ jw_148) (fun _ h9 => h9) rfl (by decide +kernel) rfl rfl (Nat.le_of_ble_eq_true rfl) dRu_goTo_94 (fun H locs hP hD hS => ?_)
        replace hJ : jH (dC, dI) jCl [(cA, .int)] (jW cA A B M (jfu F 5 ((F 5) + q9))) Ap s H locs := ⟨hJ.1, hP, hD, hS⟩
        refine lv_aload_n hx hb dRu_goTo_97 rfl (lv_at hl 1 rfl) ?_
        refine va_get (D := (dC, dI)) (ci := 1) (v := .ref (A 5)) (C := RRu) (T := TRu) (N := 11) hx hb hj iRu hown hJ.1 hJ.2.1 1 rfl rfl 1 (by decide) (hj _ jw_143) (fun _ h9 => h9) rfl dRu_goTo_98 ?_
        refine lv_iload hx hb dRu_goTo_101 (lv_at hl 0 rfl) ?_
        obtain ⟨q10, hq10, h⟩ := jbi_h h
        refine jcalli (w' := fun B => jW cA A B M (jfu F 5 ((F 5) + q9))) (va_runV (As := [.int (M 23 x5.toNatClampNeg)]) (rest := []) ⟨hx, hb, hml, hown, hts⟩ (cSi_letThrough l dC dI cA A (M 23 x5.toNatClampNeg) M (jfu F 5 ((F 5) + q9)) B H.size hq10) (cwV 1 hts (jgoodV jw_557 jw_558 jw_559 jw_6 jw_560) rfl rfl rfl (by decide +kernel) ⟨Nat.le_of_ble_eq_true rfl, Nat.le_of_ble_eq_true rfl⟩) (jpreV hN hJ (ci := 5) (q0 := 5) rfl rfl) rfl rfl hl.1 rfl (lv_room (Nat.le_of_ble_eq_true rfl)) dRu_goTo_103 ⟨Nat.zero_le _, Nat.zero_le _⟩) hA hJ (fun B H locs hJ => ?_)
        refine lv_istore (lv' := [(7, .int q10), (6, .int (M 23 x5.toNatClampNeg)), (0, .ref (A 1)), (1, .int x1), (2, .int x2), (3, .int x3), (4, .int x4), (5, .int x5)]) hx hb dRu_goTo_106 hl (by decide) rfl (fun ls hl => ?_)
        refine lv_iload hx hb dRu_goTo_108 (lv_at hl 6 rfl) ?_
        refine lv_iload hx hb dRu_goTo_110 (lv_at hl 0 rfl) ?_
        obtain ⟨q11, hq11, h⟩ := jbi_h h
        refine jcalli (w' := fun B => jW cA A B M (jfu F 5 ((F 5) + q9))) (va_runS (As := [.int q10]) (rest := [.int x4]) ⟨hx, hb, hml, hown, hts⟩ (cIn_bitCount l dC dI cA A q10 M (jfu F 5 ((F 5) + q9)) B H.size hq11) (va_cwS 1 hts (jgoodS jw_551 jw_552 jw_15 jw_553) rfl rfl rfl (by decide +kernel) ⟨Nat.le_of_ble_eq_true rfl, Nat.le_of_ble_eq_true rfl⟩) (jpreS hN hJ) rfl rfl hl.1 rfl (lv_room (Nat.le_of_ble_eq_true rfl)) dRu_goTo_112 ⟨Nat.zero_le _, Nat.zero_le _⟩) hA hJ (fun B H locs hJ => ?_)
        refine lv_iadd hx hb dRu_goTo_115 ?_
        refine lv_sipush (v := 3000) hx hb dRu_goTo_116 (by decide) ?_
        refine lv_icmp_le (tgt := 124) hx hb dRu_goTo_119 (by decide) (fun c12 => ?_) (fun c12 => ?_)
        · replace h := jif_t c12 h
          refine lv_aload_n hx hb dRu_goTo_124 rfl (lv_at hl 2 rfl) ?_
          refine lv_iload hx hb dRu_goTo_125 (lv_at hl 1 rfl) ?_
          refine lv_iload_n hx hb dRu_goTo_127 rfl (lv_at hl 3 rfl) ?_
          refine lv_iload hx hb dRu_goTo_128 (lv_at hl 0 rfl) ?_
          refine lv_iload hx hb dRu_goTo_130 (lv_at hl 6 rfl) ?_
          obtain ⟨q13, hq13, h⟩ := jbi_h h
          refine jcalli (w' := fun B => jW cA A B q13.2.1 q13.2.2) (va_runV (As := [.int (M 23 x5.toNatClampNeg), .int x1, .int q10, .int x4]) (rest := []) ⟨hx, hb, hml, hown, hts⟩ (cRu_extend l dC dI cA A (M 23 x5.toNatClampNeg) x1 q10 x4 M (jfu F 5 ((F 5) + q9)) B H.size hq13) (cwV 4 hts (jgoodV jw_562 jw_564 jws_13 jw_2 jw_565) rfl rfl rfl (by decide +kernel) ⟨Nat.le_of_ble_eq_true rfl, Nat.le_of_ble_eq_true rfl⟩) (jpreV hN hJ (ci := 1) (q0 := 1) rfl rfl) rfl rfl hl.1 rfl (lv_room (Nat.le_of_ble_eq_true rfl)) dRu_goTo_132 ⟨Nat.zero_le _, Nat.zero_le _⟩) hA hJ (fun B14 H locs hJ => ?_)
          refine lv_istore (lv' := [(4, .int q13.1), (7, .int q10), (6, .int (M 23 x5.toNatClampNeg)), (0, .ref (A 1)), (1, .int x1), (2, .int x2), (3, .int x3), (5, .int x5)]) hx hb dRu_goTo_135 hl (by decide) rfl (fun ls hl => ?_)
          refine lv_iinc (v := x5 + 1) (lv' := [(5, .int (x5 + 1)), (4, .int q13.1), (7, .int q10), (6, .int (M 23 x5.toNatClampNeg)), (0, .ref (A 1)), (1, .int x1), (2, .int x2), (3, .int x3)]) hx hb dRu_goTo_137 hl (k := 7) rfl rfl (by decide) rfl (fun ls hl => ?_)
          refine lv_goto (tgt := 48) hx hb dRu_goTo_140 (by decide) ?_
          exact ih _ _ _ _ _ _ _ _ _ _ _ hJ (lv_sub hl [4, 5, 6, 7, 1, 0] rfl) h
        · replace h := jif_f c12 h
          refine lv_iconst (v := 0) hx hb dRu_goTo_122 (by decide) ?_
          cases h
          exact jreti (u := B) hx hb hr rfl hlocks hJ dRu_goTo_123 rfl
      · replace h := jif_t c7 h
        refine lv_iload_n hx hb dRu_goTo_76 rfl (lv_at hl 4 rfl) ?_
        refine lv_goto (tgt := 93) hx hb dRu_goTo_77 (by decide) ?_
        refine lv_iadd hx hb dRu_goTo_93 ?_
        refine va_put (D := (dC, dI)) (ci := 1) (v := .int ((F 5) + x3)) (ty := .int) (C := RRu) (T := TRu) (N := 11) hx hb hj iRu tRu tRu_ok nRu hown hJ.1 hJ.2.1 hJ.2.2.1 hJ.2.2.2 1 rfl rfl 6 (by decide) (hj _ jw_148) (fun _ h9 => h9) rfl (by decide +kernel) rfl rfl (Nat.le_of_ble_eq_true rfl) dRu_goTo_94 (fun H locs hP hD hS => ?_)
        replace hJ : jH (dC, dI) jCl [(cA, .int)] (jW cA A B M (jfu F 5 ((F 5) + x3))) Ap s H locs := ⟨hJ.1, hP, hD, hS⟩
        refine lv_aload_n hx hb dRu_goTo_97 rfl (lv_at hl 1 rfl) ?_
        refine va_get (D := (dC, dI)) (ci := 1) (v := .ref (A 5)) (C := RRu) (T := TRu) (N := 11) hx hb hj iRu hown hJ.1 hJ.2.1 1 rfl rfl 1 (by decide) (hj _ jw_143) (fun _ h9 => h9) rfl dRu_goTo_98 ?_
        refine lv_iload hx hb dRu_goTo_101 (lv_at hl 0 rfl) ?_
        obtain ⟨q15, hq15, h⟩ := jbi_h h
        refine jcalli (w' := fun B => jW cA A B M (jfu F 5 ((F 5) + x3))) (va_runV (As := [.int (M 23 x5.toNatClampNeg)]) (rest := []) ⟨hx, hb, hml, hown, hts⟩ (cSi_letThrough l dC dI cA A (M 23 x5.toNatClampNeg) M (jfu F 5 ((F 5) + x3)) B H.size hq15) (cwV 1 hts (jgoodV jw_557 jw_558 jw_559 jw_6 jw_560) rfl rfl rfl (by decide +kernel) ⟨Nat.le_of_ble_eq_true rfl, Nat.le_of_ble_eq_true rfl⟩) (jpreV hN hJ (ci := 5) (q0 := 5) rfl rfl) rfl rfl hl.1 rfl (lv_room (Nat.le_of_ble_eq_true rfl)) dRu_goTo_103 ⟨Nat.zero_le _, Nat.zero_le _⟩) hA hJ (fun B H locs hJ => ?_)
        refine lv_istore (lv' := [(7, .int q15), (6, .int (M 23 x5.toNatClampNeg)), (0, .ref (A 1)), (1, .int x1), (2, .int x2), (3, .int x3), (4, .int x4), (5, .int x5)]) hx hb dRu_goTo_106 hl (by decide) rfl (fun ls hl => ?_)
        refine lv_iload hx hb dRu_goTo_108 (lv_at hl 6 rfl) ?_
        refine lv_iload hx hb dRu_goTo_110 (lv_at hl 0 rfl) ?_
        obtain ⟨q16, hq16, h⟩ := jbi_h h
        refine jcalli (w' := fun B => jW cA A B M (jfu F 5 ((F 5) + x3))) (va_runS (As := [.int q15]) (rest := [.int x4]) ⟨hx, hb, hml, hown, hts⟩ (cIn_bitCount l dC dI cA A q15 M (jfu F 5 ((F 5) + x3)) B H.size hq16) (va_cwS 1 hts (jgoodS jw_551 jw_552 jw_15 jw_553) rfl rfl rfl (by decide +kernel) ⟨Nat.le_of_ble_eq_true rfl, Nat.le_of_ble_eq_true rfl⟩) (jpreS hN hJ) rfl rfl hl.1 rfl (lv_room (Nat.le_of_ble_eq_true rfl)) dRu_goTo_112 ⟨Nat.zero_le _, Nat.zero_le _⟩) hA hJ (fun B H locs hJ => ?_)
        refine lv_iadd hx hb dRu_goTo_115 ?_
        refine lv_sipush (v := 3000) hx hb dRu_goTo_116 (by decide) ?_
        refine lv_icmp_le (tgt := 124) hx hb dRu_goTo_119 (by decide) (fun c17 => ?_) (fun c17 => ?_)
        · replace h := jif_t c17 h
          refine lv_aload_n hx hb dRu_goTo_124 rfl (lv_at hl 2 rfl) ?_
          refine lv_iload hx hb dRu_goTo_125 (lv_at hl 1 rfl) ?_
          refine lv_iload_n hx hb dRu_goTo_127 rfl (lv_at hl 3 rfl) ?_
          refine lv_iload hx hb dRu_goTo_128 (lv_at hl 0 rfl) ?_
          refine lv_iload hx hb dRu_goTo_130 (lv_at hl 6 rfl) ?_
          obtain ⟨q18, hq18, h⟩ := jbi_h h
          refine jcalli (w' := fun B => jW cA A B q18.2.1 q18.2.2) (va_runV (As := [.int (M 23 x5.toNatClampNeg), .int x1, .int q15, .int x4]) (rest := []) ⟨hx, hb, hml, hown, hts⟩ (cRu_extend l dC dI cA A (M 23 x5.toNatClampNeg) x1 q15 x4 M (jfu F 5 ((F 5) + x3)) B H.size hq18) (cwV 4 hts (jgoodV jw_562 jw_564 jws_13 jw_2 jw_565) rfl rfl rfl (by decide +kernel) ⟨Nat.le_of_ble_eq_true rfl, Nat.le_of_ble_eq_true rfl⟩) (jpreV hN hJ (ci := 1) (q0 := 1) rfl rfl) rfl rfl hl.1 rfl (lv_room (Nat.le_of_ble_eq_true rfl)) dRu_goTo_132 ⟨Nat.zero_le _, Nat.zero_le _⟩) hA hJ (fun B19 H locs hJ => ?_)
          refine lv_istore (lv' := [(4, .int q18.1), (7, .int q15), (6, .int (M 23 x5.toNatClampNeg)), (0, .ref (A 1)), (1, .int x1), (2, .int x2), (3, .int x3), (5, .int x5)]) hx hb dRu_goTo_135 hl (by decide) rfl (fun ls hl => ?_)
          refine lv_iinc (v := x5 + 1) (lv' := [(5, .int (x5 + 1)), (4, .int q18.1), (7, .int q15), (6, .int (M 23 x5.toNatClampNeg)), (0, .ref (A 1)), (1, .int x1), (2, .int x2), (3, .int x3)]) hx hb dRu_goTo_137 hl (k := 7) rfl rfl (by decide) rfl (fun ls hl => ?_)
          refine lv_goto (tgt := 48) hx hb dRu_goTo_140 (by decide) ?_
          exact ih _ _ _ _ _ _ _ _ _ _ _ hJ (lv_sub hl [4, 5, 6, 7, 1, 0] rfl) h
        · replace h := jif_f c17 h
          refine lv_iconst (v := 0) hx hb dRu_goTo_122 (by decide) ?_
          cases h
          exact jreti (u := B) hx hb hr rfl hlocks hJ dRu_goTo_123 rfl
set_option maxHeartbeats 4000000 in
set_option maxRecDepth 100000 in
theorem uRu_goTo_42 {p : Program} {e : Env} {s : State} {m : MethodId} {args : Array Value} {below : List Frame} {meth : Method} {c : Code} (l : Launch) (dC : Nat → ClassId) (dI : Nat → Nat → Nat) (cA : ClassId) (A : Nat → Nat) (Ap : Nat → Prop) (hC : jAt p s m args meth c bRu_goTo 8 (some .boolean) wRu_goTo RRu) (hA : ∀ q : Nat, s.heap.size ≤ q → Ap q) {r : Int32} {M' : jM} {F' : jF} : ∀ (x1 x2 x3 : Int32) (M : jM) (F : jF) (B : Nat → Nat) (H : Heap) (locs : List Loc) (ls : Array Slot), jH (dC, dI) jCl [(cA, .int)] (jW cA A B M F) Ap s H locs → lv_has ls 8 [(0, .ref (A 1)), (1, .int x1), (2, .int x2), (3, .int x3)] → fRu_goTo_42 x1 x2 x3 M F = some (r, M', F') → W p l e (headSpec wRu_goTo rRu_goTo).room s m args below meth c H locs 0 0 (jQi below (dC, dI) jCl [(cA, .int)] (fun B => jW cA A B (M') (F')) Ap args s r) (F0 m 42 ls []) := by
  obtain ⟨hx, hb, hml, hr, hts, hown, hlocks, hN⟩ := id hC
  have hj : ∀ w ∈ jw, w.before args s = true := fun w h => hts w (List.mem_cons_of_mem _ h)
  intro x1 x2 x3 M F B H locs ls hJ hl h
  unfold fRu_goTo_42 at h
  refine lv_iconst (v := 0) hx hb dRu_goTo_42 (by decide) ?_
  refine lv_istore (lv' := [(4, .int 0), (0, .ref (A 1)), (1, .int x1), (2, .int x2), (3, .int x3)]) hx hb dRu_goTo_43 hl (by decide) rfl (fun ls hl => ?_)
  refine lv_iconst (v := 0) hx hb dRu_goTo_45 (by decide) ?_
  refine lv_istore (lv' := [(5, .int 0), (4, .int 0), (0, .ref (A 1)), (1, .int x1), (2, .int x2), (3, .int x3)]) hx hb dRu_goTo_46 hl (by decide) rfl (fun ls hl => ?_)
  exact uRu_goTo_48 l dC dI cA A Ap hC hA jfuel _ _ _ _ _ _ _ _ _ _ _ hJ (lv_sub hl [2, 3, 4, 5, 1, 0] rfl) h
set_option maxHeartbeats 4000000 in
set_option maxRecDepth 100000 in
theorem uRu_goTo_0 {p : Program} {e : Env} {s : State} {m : MethodId} {args : Array Value} {below : List Frame} {meth : Method} {c : Code} (l : Launch) (dC : Nat → ClassId) (dI : Nat → Nat → Nat) (cA : ClassId) (A : Nat → Nat) (Ap : Nat → Prop) (hC : jAt p s m args meth c bRu_goTo 8 (some .boolean) wRu_goTo RRu) (hA : ∀ q : Nat, s.heap.size ≤ q → Ap q) {r : Int32} {M' : jM} {F' : jF} : ∀ (x1 x2 : Int32) (M : jM) (F : jF) (B : Nat → Nat) (H : Heap) (locs : List Loc) (ls : Array Slot), jH (dC, dI) jCl [(cA, .int)] (jW cA A B M F) Ap s H locs → lv_has ls 8 [(0, .ref (A 1)), (1, .int x1), (2, .int x2)] → fRu_goTo_0 x1 x2 M F = some (r, M', F') → W p l e (headSpec wRu_goTo rRu_goTo).room s m args below meth c H locs 0 0 (jQi below (dC, dI) jCl [(cA, .int)] (fun B => jW cA A B (M') (F')) Ap args s r) (F0 m 0 ls []) := by
  obtain ⟨hx, hb, hml, hr, hts, hown, hlocks, hN⟩ := id hC
  have hj : ∀ w ∈ jw, w.before args s = true := fun w h => hts w (List.mem_cons_of_mem _ h)
  intro x1 x2 M F B H locs ls hJ hl h
  unfold fRu_goTo_0 at h
  refine lv_aload_n hx hb dRu_goTo_0 rfl (lv_at hl 0 rfl) ?_
  refine va_get (D := (dC, dI)) (ci := 1) (v := .ref (A 2)) (C := RRu) (T := TRu) (N := 11) hx hb hj iRu hown hJ.1 hJ.2.1 1 rfl rfl 0 (by decide) (hj _ jw_141) (fun _ h9 => h9) rfl dRu_goTo_1 ?_
  refine va_getN (D := (dC, dI)) (ci := 2) (v := .ref (A 3)) (C := RPl) (T := TPl) (N := 4) hx hb hj iPl hown hJ.1 hJ.2.1 2 rfl rfl 0 (by decide) (jnw_use hN jnw_13) (fun _ h9 => h9) rfl dRu_goTo_4 ?_
  refine lv_iload_n hx hb dRu_goTo_7 rfl (lv_at hl 1 rfl) ?_
  obtain ⟨q1, hq1, h⟩ := jbi_h h
  refine jcalli (w' := fun B => jW cA A B M F) (va_runV (As := [.int x1]) (rest := []) ⟨hx, hb, hml, hown, hts⟩ (cQu_rowsOf l dC dI cA A x1 M F B H.size hq1) (cwV 1 hts (jgoodV jw_542 jw_420 jw_421 jw_4 jw_422) rfl rfl rfl (by decide +kernel) ⟨Nat.le_of_ble_eq_true rfl, Nat.le_of_ble_eq_true rfl⟩) (jpreV hN hJ (ci := 3) (q0 := 3) rfl rfl) rfl rfl hl.1 rfl (lv_room (Nat.le_of_ble_eq_true rfl)) dRu_goTo_8 ⟨Nat.zero_le _, Nat.zero_le _⟩) hA hJ (fun B H locs hJ => ?_)
  refine lv_istore_n (lv' := [(3, .int q1), (0, .ref (A 1)), (1, .int x1), (2, .int x2)]) hx hb dRu_goTo_11 rfl hl (by decide) rfl (fun ls hl => ?_)
  refine lv_iload_n hx hb dRu_goTo_12 rfl (lv_at hl 3 rfl) ?_
  refine lv_iconst (v := (-1)) hx hb dRu_goTo_13 (by decide) ?_
  refine lv_icmp_eq (tgt := 42) hx hb dRu_goTo_14 (by decide) (fun c2 => ?_) (fun c2 => ?_)
  · replace h := jif_t c2 h
    exact uRu_goTo_42 l dC dI cA A Ap hC hA _ _ _ _ _ _ _ _ _ hJ (lv_sub hl [1, 2, 3, 0] rfl) h
  · replace h := jif_f c2 h
    refine lv_aload_n hx hb dRu_goTo_17 rfl (lv_at hl 1 rfl) ?_
    refine va_get (D := (dC, dI)) (ci := 1) (v := .ref (A 2)) (C := RRu) (T := TRu) (N := 11) hx hb hj iRu hown hJ.1 hJ.2.1 1 rfl rfl 0 (by decide) (hj _ jw_141) (fun _ h9 => h9) rfl dRu_goTo_18 ?_
    refine va_getN (D := (dC, dI)) (ci := 2) (v := .ref (A 3)) (C := RPl) (T := TPl) (N := 4) hx hb hj iPl hown hJ.1 hJ.2.1 2 rfl rfl 0 (by decide) (jnw_use hN jnw_13) (fun _ h9 => h9) rfl dRu_goTo_21 ?_
    refine lv_iload_n hx hb dRu_goTo_24 rfl (lv_at hl 3 rfl) ?_
    refine lv_iload_n hx hb dRu_goTo_25 rfl (lv_at hl 2 rfl) ?_
    obtain ⟨q20, hq20, h⟩ := jbi_h h
    refine jcalli (w' := fun B => jW cA A B M F) (va_runV (As := [.int x2, .int x1]) (rest := []) ⟨hx, hb, hml, hown, hts⟩ (cQu_tellsByIndex l dC dI cA A x2 x1 M F B H.size hq20) (cwV 2 hts (jgoodV jw_543 jw_484 jw_485 jw_4 jw_486) rfl rfl rfl (by decide +kernel) ⟨Nat.le_of_ble_eq_true rfl, Nat.le_of_ble_eq_true rfl⟩) (jpreV hN hJ (ci := 3) (q0 := 3) rfl rfl) rfl rfl hl.1 rfl (lv_room (Nat.le_of_ble_eq_true rfl)) dRu_goTo_26 ⟨Nat.zero_le _, Nat.zero_le _⟩) hA hJ (fun B H locs hJ => ?_)
    refine lv_if_ne (tgt := 42) hx hb dRu_goTo_29 (by decide) (fun c21 => ?_) (fun c21 => ?_)
    · replace h := jif_f c21 h
      exact uRu_goTo_42 l dC dI cA A Ap hC hA _ _ _ _ _ _ _ _ _ hJ (lv_sub hl [1, 2, 3, 0] rfl) h
    · replace h := jif_t c21 h
      refine lv_aload_n hx hb dRu_goTo_32 rfl (lv_at hl 1 rfl) ?_
      refine lv_dup hx hb dRu_goTo_33 rfl ?_
      refine va_get (D := (dC, dI)) (ci := 1) (v := .int (F 5)) (C := RRu) (T := TRu) (N := 11) hx hb hj iRu hown hJ.1 hJ.2.1 1 rfl rfl 6 (by decide) (hj _ jw_148) (fun _ h9 => h9) rfl dRu_goTo_34 ?_
      refine lv_iload_n hx hb dRu_goTo_37 rfl (lv_at hl 0 rfl) ?_
      refine lv_iadd hx hb dRu_goTo_38 ?_
      refine va_put (D := (dC, dI)) (ci := 1) (v := .int ((F 5) + q1)) (ty := .int) (C := RRu) (T := TRu) (N := 11) hx hb hj iRu tRu tRu_ok nRu hown hJ.1 hJ.2.1 hJ.2.2.1 hJ.2.2.2 1 rfl rfl 6 (by decide) (hj _ jw_148) (fun _ h9 => h9) rfl (by decide +kernel) rfl rfl (Nat.le_of_ble_eq_true rfl) dRu_goTo_39 (fun H locs hP hD hS => ?_)
      replace hJ : jH (dC, dI) jCl [(cA, .int)] (jW cA A B M (jfu F 5 ((F 5) + q1))) Ap s H locs := ⟨hJ.1, hP, hD, hS⟩
      exact uRu_goTo_42 l dC dI cA A Ap hC hA _ _ _ _ _ _ _ _ _ hJ (lv_sub hl [1, 2, 3, 0] rfl) h
set_option maxHeartbeats 4000000 in
set_option maxRecDepth 100000 in
theorem cRu_goTo (l : Launch) (dC : Nat → ClassId) (dI : Nat → Nat → Nat) (cA : ClassId) (A : Nat → Nat) (x1 : Int32) (x2 : Int32) (M : jM) (F : jF) (B : Nat → Nat) (sz : Nat) {r : Int32} {M' : jM} {F' : jF} (h : fRu_goTo x1 x2 M F = some (r, M', F')) : jCi l yRu_goTo wRu_goTo rRu_goTo (dC, dI) jCl [(cA, .int)] [.ref (A 1), .int x1, .int x2] (jW cA A B M F) sz r (fun B => jW cA A B (M') (F')) :=
  jOf (Qc := fun Ap => va_Qi (fun q (_ : Nat → Nat) => q = r) (jPost (dC, dI) jCl [(cA, .int)] (fun B => jW cA A B (M') (F')) Ap) Ap) (by decide) rfl (Nat.le_of_ble_eq_true rfl) (fun p e s m below meth c Ap ls hC hA hJ hl => uRu_goTo_0 l dC dI cA A Ap hC hA _ _ _ _ _ _ _ _ hJ (lv_sub hl [0, 1, 2] rfl) h)
abbrev bRu_sortBy : ByteArray := prog_4_method_6_code
abbrev yRu_sortBy : MethodName := ⟨RRu, "sortBy", "(I)V"⟩
abbrev wRu_sortBy : List Cond := .code yRu_sortBy bRu_sortBy 4 none :: jw
theorem dRu_sortBy_0 : decode bRu_sortBy 0 = .ok (.aload_n 0, 1) := by decide +kernel
theorem dRu_sortBy_1 : decode bRu_sortBy 1 = .ok (.getfield 32, 3) := by decide +kernel
theorem dRu_sortBy_4 : decode bRu_sortBy 4 = .ok (.iconst 0, 1) := by decide +kernel
theorem dRu_sortBy_5 : decode bRu_sortBy 5 = .ok (.invokestatic 116, 3) := by decide +kernel
theorem dRu_sortBy_8 : decode bRu_sortBy 8 = .ok (.iconst 0, 1) := by decide +kernel
theorem dRu_sortBy_9 : decode bRu_sortBy 9 = .ok (.istore_n 2, 1) := by decide +kernel
theorem dRu_sortBy_10 : decode bRu_sortBy 10 = .ok (.iload_n 2, 1) := by decide +kernel
theorem dRu_sortBy_11 : decode bRu_sortBy 11 = .ok (.aload_n 0, 1) := by decide +kernel
theorem dRu_sortBy_12 : decode bRu_sortBy 12 = .ok (.getfield 35, 3) := by decide +kernel
theorem dRu_sortBy_15 : decode bRu_sortBy 15 = .ok (.if_icmp .ge 30, 3) := by decide +kernel
theorem dRu_sortBy_18 : decode bRu_sortBy 18 = .ok (.aload_n 0, 1) := by decide +kernel
theorem dRu_sortBy_19 : decode bRu_sortBy 19 = .ok (.getfield 32, 3) := by decide +kernel
theorem dRu_sortBy_22 : decode bRu_sortBy 22 = .ok (.aload_n 0, 1) := by decide +kernel
theorem dRu_sortBy_23 : decode bRu_sortBy 23 = .ok (.getfield 25, 3) := by decide +kernel
theorem dRu_sortBy_26 : decode bRu_sortBy 26 = .ok (.iload_n 2, 1) := by decide +kernel
theorem dRu_sortBy_27 : decode bRu_sortBy 27 = .ok (.iaload, 1) := by decide +kernel
theorem dRu_sortBy_28 : decode bRu_sortBy 28 = .ok (.iload_n 1, 1) := by decide +kernel
theorem dRu_sortBy_29 : decode bRu_sortBy 29 = .ok (.invokestatic 122, 3) := by decide +kernel
theorem dRu_sortBy_32 : decode bRu_sortBy 32 = .ok (.iconst 1, 1) := by decide +kernel
theorem dRu_sortBy_33 : decode bRu_sortBy 33 = .ok (.iadd, 1) := by decide +kernel
theorem dRu_sortBy_34 : decode bRu_sortBy 34 = .ok (.dup2, 1) := by decide +kernel
theorem dRu_sortBy_35 : decode bRu_sortBy 35 = .ok (.iaload, 1) := by decide +kernel
theorem dRu_sortBy_36 : decode bRu_sortBy 36 = .ok (.iconst 1, 1) := by decide +kernel
theorem dRu_sortBy_37 : decode bRu_sortBy 37 = .ok (.iadd, 1) := by decide +kernel
theorem dRu_sortBy_38 : decode bRu_sortBy 38 = .ok (.iastore, 1) := by decide +kernel
theorem dRu_sortBy_39 : decode bRu_sortBy 39 = .ok (.iinc 2 1, 3) := by decide +kernel
theorem dRu_sortBy_42 : decode bRu_sortBy 42 = .ok (.goto (-32), 3) := by decide +kernel
theorem dRu_sortBy_45 : decode bRu_sortBy 45 = .ok (.iconst 0, 1) := by decide +kernel
theorem dRu_sortBy_46 : decode bRu_sortBy 46 = .ok (.istore_n 2, 1) := by decide +kernel
theorem dRu_sortBy_47 : decode bRu_sortBy 47 = .ok (.iload_n 2, 1) := by decide +kernel
theorem dRu_sortBy_48 : decode bRu_sortBy 48 = .ok (.bipush 32, 2) := by decide +kernel
theorem dRu_sortBy_50 : decode bRu_sortBy 50 = .ok (.if_icmp .ge 26, 3) := by decide +kernel
theorem dRu_sortBy_53 : decode bRu_sortBy 53 = .ok (.aload_n 0, 1) := by decide +kernel
theorem dRu_sortBy_54 : decode bRu_sortBy 54 = .ok (.getfield 32, 3) := by decide +kernel
theorem dRu_sortBy_57 : decode bRu_sortBy 57 = .ok (.iload_n 2, 1) := by decide +kernel
theorem dRu_sortBy_58 : decode bRu_sortBy 58 = .ok (.iconst 1, 1) := by decide +kernel
theorem dRu_sortBy_59 : decode bRu_sortBy 59 = .ok (.iadd, 1) := by decide +kernel
theorem dRu_sortBy_60 : decode bRu_sortBy 60 = .ok (.dup2, 1) := by decide +kernel
theorem dRu_sortBy_61 : decode bRu_sortBy 61 = .ok (.iaload, 1) := by decide +kernel
theorem dRu_sortBy_62 : decode bRu_sortBy 62 = .ok (.aload_n 0, 1) := by decide +kernel
theorem dRu_sortBy_63 : decode bRu_sortBy 63 = .ok (.getfield 32, 3) := by decide +kernel
theorem dRu_sortBy_66 : decode bRu_sortBy 66 = .ok (.iload_n 2, 1) := by decide +kernel
theorem dRu_sortBy_67 : decode bRu_sortBy 67 = .ok (.iaload, 1) := by decide +kernel
theorem dRu_sortBy_68 : decode bRu_sortBy 68 = .ok (.iadd, 1) := by decide +kernel
theorem dRu_sortBy_69 : decode bRu_sortBy 69 = .ok (.iastore, 1) := by decide +kernel
theorem dRu_sortBy_70 : decode bRu_sortBy 70 = .ok (.iinc 2 1, 3) := by decide +kernel
theorem dRu_sortBy_73 : decode bRu_sortBy 73 = .ok (.goto (-26), 3) := by decide +kernel
theorem dRu_sortBy_76 : decode bRu_sortBy 76 = .ok (.iconst 0, 1) := by decide +kernel
theorem dRu_sortBy_77 : decode bRu_sortBy 77 = .ok (.istore_n 2, 1) := by decide +kernel
theorem dRu_sortBy_78 : decode bRu_sortBy 78 = .ok (.iload_n 2, 1) := by decide +kernel
theorem dRu_sortBy_79 : decode bRu_sortBy 79 = .ok (.aload_n 0, 1) := by decide +kernel
theorem dRu_sortBy_80 : decode bRu_sortBy 80 = .ok (.getfield 35, 3) := by decide +kernel
theorem dRu_sortBy_83 : decode bRu_sortBy 83 = .ok (.if_icmp .ge 47, 3) := by decide +kernel
theorem dRu_sortBy_86 : decode bRu_sortBy 86 = .ok (.aload_n 0, 1) := by decide +kernel
theorem dRu_sortBy_87 : decode bRu_sortBy 87 = .ok (.getfield 25, 3) := by decide +kernel
theorem dRu_sortBy_90 : decode bRu_sortBy 90 = .ok (.iload_n 2, 1) := by decide +kernel
theorem dRu_sortBy_91 : decode bRu_sortBy 91 = .ok (.iaload, 1) := by decide +kernel
theorem dRu_sortBy_92 : decode bRu_sortBy 92 = .ok (.iload_n 1, 1) := by decide +kernel
theorem dRu_sortBy_93 : decode bRu_sortBy 93 = .ok (.invokestatic 122, 3) := by decide +kernel
theorem dRu_sortBy_96 : decode bRu_sortBy 96 = .ok (.istore_n 3, 1) := by decide +kernel
theorem dRu_sortBy_97 : decode bRu_sortBy 97 = .ok (.aload_n 0, 1) := by decide +kernel
theorem dRu_sortBy_98 : decode bRu_sortBy 98 = .ok (.getfield 29, 3) := by decide +kernel
theorem dRu_sortBy_101 : decode bRu_sortBy 101 = .ok (.aload_n 0, 1) := by decide +kernel
theorem dRu_sortBy_102 : decode bRu_sortBy 102 = .ok (.getfield 32, 3) := by decide +kernel
theorem dRu_sortBy_105 : decode bRu_sortBy 105 = .ok (.iload_n 3, 1) := by decide +kernel
theorem dRu_sortBy_106 : decode bRu_sortBy 106 = .ok (.iaload, 1) := by decide +kernel
theorem dRu_sortBy_107 : decode bRu_sortBy 107 = .ok (.aload_n 0, 1) := by decide +kernel
theorem dRu_sortBy_108 : decode bRu_sortBy 108 = .ok (.getfield 25, 3) := by decide +kernel
theorem dRu_sortBy_111 : decode bRu_sortBy 111 = .ok (.iload_n 2, 1) := by decide +kernel
theorem dRu_sortBy_112 : decode bRu_sortBy 112 = .ok (.iaload, 1) := by decide +kernel
theorem dRu_sortBy_113 : decode bRu_sortBy 113 = .ok (.iastore, 1) := by decide +kernel
theorem dRu_sortBy_114 : decode bRu_sortBy 114 = .ok (.aload_n 0, 1) := by decide +kernel
theorem dRu_sortBy_115 : decode bRu_sortBy 115 = .ok (.getfield 32, 3) := by decide +kernel
theorem dRu_sortBy_118 : decode bRu_sortBy 118 = .ok (.iload_n 3, 1) := by decide +kernel
theorem dRu_sortBy_119 : decode bRu_sortBy 119 = .ok (.dup2, 1) := by decide +kernel
theorem dRu_sortBy_120 : decode bRu_sortBy 120 = .ok (.iaload, 1) := by decide +kernel
theorem dRu_sortBy_121 : decode bRu_sortBy 121 = .ok (.iconst 1, 1) := by decide +kernel
theorem dRu_sortBy_122 : decode bRu_sortBy 122 = .ok (.iadd, 1) := by decide +kernel
theorem dRu_sortBy_123 : decode bRu_sortBy 123 = .ok (.iastore, 1) := by decide +kernel
theorem dRu_sortBy_124 : decode bRu_sortBy 124 = .ok (.iinc 2 1, 3) := by decide +kernel
theorem dRu_sortBy_127 : decode bRu_sortBy 127 = .ok (.goto (-49), 3) := by decide +kernel
theorem dRu_sortBy_130 : decode bRu_sortBy 130 = .ok (.aload_n 0, 1) := by decide +kernel
theorem dRu_sortBy_131 : decode bRu_sortBy 131 = .ok (.invokevirtual 113, 3) := by decide +kernel
theorem dRu_sortBy_134 : decode bRu_sortBy 134 = .ok (.return_, 1) := by decide +kernel
abbrev rRu_sortBy : Room := { frames := 1, cells := 0, slots := 0, locals := 23 }
def fRu_sortBy_78 : Nat → Int32 → Int32 → jM → jF → Option (Int32 × jM × jF)
  | 0, _, _, _, _ => none
  | n + 1, x1, x2, M, F => (if (F 4) ≤ x2 then ((fRu_swap M F).bind fun q6 => some (0, q6.2.1, q6.2.2)) else (if jib x2 3000 then ((fJh_rowIn (M 23 x2.toNatClampNeg) x1 M F).bind fun q9 => (if jib q9 33 then (if jib x2 3000 then (if jib (M 25 q9.toNatClampNeg) 3000 then (if jib q9 33 then (if jib q9 33 then fRu_sortBy_78 n x1 (x2 + 1) (jmu (jmu M 24 (M 25 q9.toNatClampNeg).toNatClampNeg (M 23 x2.toNatClampNeg)) 25 q9.toNatClampNeg (((jmu M 24 (M 25 q9.toNatClampNeg).toNatClampNeg (M 23 x2.toNatClampNeg)) 25 q9.toNatClampNeg) + 1)) F else none) else none) else none) else none) else none)) else none))
def fRu_sortBy_47 : Nat → Int32 → Int32 → jM → jF → Option (Int32 × jM × jF)
  | 0, _, _, _, _ => none
  | n + 1, x1, x2, M, F => (if 32 ≤ x2 then fRu_sortBy_78 jfuel x1 0 M F else (if jib (x2 + 1) 33 then (if jib x2 33 then (if jib (x2 + 1) 33 then fRu_sortBy_47 n x1 (x2 + 1) (jmu M 25 (x2 + 1).toNatClampNeg ((M 25 (x2 + 1).toNatClampNeg) + (M 25 x2.toNatClampNeg))) F else none) else none) else none))
def fRu_sortBy_10 : Nat → Int32 → Int32 → jM → jF → Option (Int32 × jM × jF)
  | 0, _, _, _, _ => none
  | n + 1, x1, x2, M, F => (if (F 4) ≤ x2 then fRu_sortBy_47 jfuel x1 0 M F else (if jib x2 3000 then ((fJh_rowIn (M 23 x2.toNatClampNeg) x1 M F).bind fun q19 => (if jib (q19 + 1) 33 then (if jib (q19 + 1) 33 then fRu_sortBy_10 n x1 (x2 + 1) (jmu M 25 (q19 + 1).toNatClampNeg ((M 25 (q19 + 1).toNatClampNeg) + 1)) F else none) else none)) else none))
def fRu_sortBy_0 (x1 : Int32) (M : jM) (F : jF) : Option (Int32 × jM × jF) := ((fAr_fill 0 M F).bind fun q1 => fRu_sortBy_10 jfuel x1 0 q1.2.1 q1.2.2)
abbrev fRu_sortBy (x1 : Int32) (M : jM) (F : jF) : Option (Int32 × jM × jF) := fRu_sortBy_0 x1 M F
set_option maxHeartbeats 4000000 in
set_option maxRecDepth 100000 in
theorem uRu_sortBy_78 {p : Program} {e : Env} {s : State} {m : MethodId} {args : Array Value} {below : List Frame} {meth : Method} {c : Code} (l : Launch) (dC : Nat → ClassId) (dI : Nat → Nat → Nat) (cA : ClassId) (A : Nat → Nat) (Ap : Nat → Prop) (hC : jAt p s m args meth c bRu_sortBy 4 none wRu_sortBy RRu) (hA : ∀ q : Nat, s.heap.size ≤ q → Ap q) {r : Int32} {M' : jM} {F' : jF} : ∀ (n : Nat) (x1 x2 : Int32) (M : jM) (F : jF) (B : Nat → Nat) (H : Heap) (locs : List Loc) (ls : Array Slot), jH (dC, dI) jCl [(cA, .int)] (jW cA A B M F) Ap s H locs → lv_has ls 4 [(0, .ref (A 1)), (1, .int x1), (2, .int x2)] → fRu_sortBy_78 n x1 x2 M F = some (r, M', F') → W p l e (headSpec wRu_sortBy rRu_sortBy).room s m args below meth c H locs 0 0 (jQv below (dC, dI) jCl [(cA, .int)] (fun B => jW cA A B (M') (F')) Ap args s) (F0 m 78 ls []) := by
  obtain ⟨hx, hb, hml, hr, hts, hown, hlocks, hN⟩ := id hC
  have hj : ∀ w ∈ jw, w.before args s = true := fun w h => hts w (List.mem_cons_of_mem _ h)
  intro n
  induction n with
  | zero =>
    intro x1 x2 M F B H locs ls hJ hl h
    rw [fRu_sortBy_78] at h
    cases h
  | succ n ih =>
    intro x1 x2 M F B H locs ls hJ hl h
    rw [fRu_sortBy_78] at h
    refine lv_iload_n hx hb dRu_sortBy_78 rfl (lv_at hl 2 rfl) ?_
    refine lv_aload_n hx hb dRu_sortBy_79 rfl (lv_at hl 0 rfl) ?_
    refine va_get (D := (dC, dI)) (ci := 1) (v := .int (F 4)) (C := RRu) (T := TRu) (N := 11) hx hb hj iRu hown hJ.1 hJ.2.1 1 rfl rfl 5 (by decide) (hj _ jw_147) (fun _ h9 => h9) rfl dRu_sortBy_80 ?_
    refine lv_icmp_ge (tgt := 130) hx hb dRu_sortBy_83 (by decide) (fun c5 => ?_) (fun c5 => ?_)
    · replace h := jif_t c5 h
      refine lv_aload_n hx hb dRu_sortBy_130 rfl (lv_at hl 0 rfl) ?_
      obtain ⟨q6, hq6, h⟩ := jbi_h h
      refine jcallv (w' := fun B => jW cA A B q6.2.1 q6.2.2) (va_runV (As := []) (rest := []) ⟨hx, hb, hml, hown, hts⟩ (cRu_swap l dC dI cA A M F B H.size hq6) (cwV 0 hts (jgoodV jw_566 jw_568 jws_14 jw_2 jw_569) rfl rfl rfl (by decide +kernel) ⟨Nat.le_of_ble_eq_true rfl, Nat.le_of_ble_eq_true rfl⟩) (jpreV hN hJ (ci := 1) (q0 := 1) rfl rfl) rfl rfl hl.1 rfl (lv_room (Nat.le_of_ble_eq_true rfl)) dRu_sortBy_131 ⟨Nat.zero_le _, Nat.zero_le _⟩) hA hJ (fun B7 H locs hJ => ?_)
      cases h
      exact jretv (u := B7) hx hb hr hlocks hJ dRu_sortBy_134
    · replace h := jif_f c5 h
      refine lv_aload_n hx hb dRu_sortBy_86 rfl (lv_at hl 0 rfl) ?_
      refine va_get (D := (dC, dI)) (ci := 1) (v := .ref (B 0)) (C := RRu) (T := TRu) (N := 11) hx hb hj iRu hown hJ.1 hJ.2.1 1 rfl rfl 2 (by decide) (hj _ jw_144) (fun _ h9 => h9) rfl dRu_sortBy_87 ?_
      refine lv_iload_n hx hb dRu_sortBy_90 rfl (lv_at hl 2 rfl) ?_
      obtain ⟨hi8, h⟩ := jib_h h
      refine jald_23 hx hb hJ hi8 dRu_sortBy_91 ?_
      refine lv_iload_n hx hb dRu_sortBy_92 rfl (lv_at hl 1 rfl) ?_
      obtain ⟨q9, hq9, h⟩ := jbi_h h
      refine jcalli (w' := fun B => jW cA A B M F) (va_runSN (As := [.int (M 23 x2.toNatClampNeg), .int x1]) (rest := []) ⟨hx, hb, hml, hown, hts⟩ (cJh_rowIn l dC dI cA A (M 23 x2.toNatClampNeg) x1 M F B H.size hq9) ⟨va_cnB 2 hts (jgood jw_550) rfl rfl rfl (hN _ jnw_24) (hj _ jw_1) (by decide +kernel) ⟨Nat.le_of_ble_eq_true rfl, Nat.le_of_ble_eq_true rfl⟩, hj _ jw_549, trivial⟩ (jpreS hN hJ) rfl rfl hl.1 rfl (lv_room (Nat.le_of_ble_eq_true rfl)) dRu_sortBy_93 ⟨Nat.zero_le _, Nat.zero_le _⟩) hA hJ (fun B H locs hJ => ?_)
      refine lv_istore_n (lv' := [(3, .int q9), (0, .ref (A 1)), (1, .int x1), (2, .int x2)]) hx hb dRu_sortBy_96 rfl hl (by decide) rfl (fun ls hl => ?_)
      refine lv_aload_n hx hb dRu_sortBy_97 rfl (lv_at hl 1 rfl) ?_
      refine va_get (D := (dC, dI)) (ci := 1) (v := .ref (B 1)) (C := RRu) (T := TRu) (N := 11) hx hb hj iRu hown hJ.1 hJ.2.1 1 rfl rfl 3 (by decide) (hj _ jw_145) (fun _ h9 => h9) rfl dRu_sortBy_98 ?_
      refine lv_aload_n hx hb dRu_sortBy_101 rfl (lv_at hl 1 rfl) ?_
      refine va_get (D := (dC, dI)) (ci := 1) (v := .ref (A 25)) (C := RRu) (T := TRu) (N := 11) hx hb hj iRu hown hJ.1 hJ.2.1 1 rfl rfl 4 (by decide) (hj _ jw_146) (fun _ h9 => h9) rfl dRu_sortBy_102 ?_
      refine lv_iload_n hx hb dRu_sortBy_105 rfl (lv_at hl 0 rfl) ?_
      obtain ⟨hi10, h⟩ := jib_h h
      refine jald_25 hx hb hJ hi10 dRu_sortBy_106 ?_
      refine lv_aload_n hx hb dRu_sortBy_107 rfl (lv_at hl 1 rfl) ?_
      refine va_get (D := (dC, dI)) (ci := 1) (v := .ref (B 0)) (C := RRu) (T := TRu) (N := 11) hx hb hj iRu hown hJ.1 hJ.2.1 1 rfl rfl 2 (by decide) (hj _ jw_144) (fun _ h9 => h9) rfl dRu_sortBy_108 ?_
      refine lv_iload_n hx hb dRu_sortBy_111 rfl (lv_at hl 3 rfl) ?_
      obtain ⟨hi11, h⟩ := jib_h h
      refine jald_23 hx hb hJ hi11 dRu_sortBy_112 ?_
      obtain ⟨hi12, h⟩ := jib_h h
      refine jast_24 hx hb hJ hi12 dRu_sortBy_113 (fun H locs hJ => ?_)
      refine lv_aload_n hx hb dRu_sortBy_114 rfl (lv_at hl 1 rfl) ?_
      refine va_get (D := (dC, dI)) (ci := 1) (v := .ref (A 25)) (C := RRu) (T := TRu) (N := 11) hx hb hj iRu hown hJ.1 hJ.2.1 1 rfl rfl 4 (by decide) (hj _ jw_146) (fun _ h9 => h9) rfl dRu_sortBy_115 ?_
      refine lv_iload_n hx hb dRu_sortBy_118 rfl (lv_at hl 0 rfl) ?_
      refine lv_dup2_11 hx hb dRu_sortBy_119 rfl rfl ?_
      obtain ⟨hi13, h⟩ := jib_h h
      refine jald_25 hx hb hJ hi13 dRu_sortBy_120 ?_
      refine lv_iconst (v := 1) hx hb dRu_sortBy_121 (by decide) ?_
      refine lv_iadd hx hb dRu_sortBy_122 ?_
      obtain ⟨hi14, h⟩ := jib_h h
      refine jast_25 hx hb hJ hi14 dRu_sortBy_123 (fun H locs hJ => ?_)
      refine lv_iinc (v := x2 + 1) (lv' := [(2, .int (x2 + 1)), (3, .int q9), (0, .ref (A 1)), (1, .int x1)]) hx hb dRu_sortBy_124 hl (k := 3) rfl rfl (by decide) rfl (fun ls hl => ?_)
      refine lv_goto (tgt := 78) hx hb dRu_sortBy_127 (by decide) ?_
      exact ih _ _ _ _ _ _ _ _ hJ (lv_sub hl [2, 3, 0] rfl) h
set_option maxHeartbeats 4000000 in
set_option maxRecDepth 100000 in
theorem uRu_sortBy_47 {p : Program} {e : Env} {s : State} {m : MethodId} {args : Array Value} {below : List Frame} {meth : Method} {c : Code} (l : Launch) (dC : Nat → ClassId) (dI : Nat → Nat → Nat) (cA : ClassId) (A : Nat → Nat) (Ap : Nat → Prop) (hC : jAt p s m args meth c bRu_sortBy 4 none wRu_sortBy RRu) (hA : ∀ q : Nat, s.heap.size ≤ q → Ap q) {r : Int32} {M' : jM} {F' : jF} : ∀ (n : Nat) (x1 x2 : Int32) (M : jM) (F : jF) (B : Nat → Nat) (H : Heap) (locs : List Loc) (ls : Array Slot), jH (dC, dI) jCl [(cA, .int)] (jW cA A B M F) Ap s H locs → lv_has ls 4 [(0, .ref (A 1)), (1, .int x1), (2, .int x2)] → fRu_sortBy_47 n x1 x2 M F = some (r, M', F') → W p l e (headSpec wRu_sortBy rRu_sortBy).room s m args below meth c H locs 0 0 (jQv below (dC, dI) jCl [(cA, .int)] (fun B => jW cA A B (M') (F')) Ap args s) (F0 m 47 ls []) := by
  obtain ⟨hx, hb, hml, hr, hts, hown, hlocks, hN⟩ := id hC
  have hj : ∀ w ∈ jw, w.before args s = true := fun w h => hts w (List.mem_cons_of_mem _ h)
  intro n
  induction n with
  | zero =>
    intro x1 x2 M F B H locs ls hJ hl h
    rw [fRu_sortBy_47] at h
    cases h
  | succ n ih =>
    intro x1 x2 M F B H locs ls hJ hl h
    rw [fRu_sortBy_47] at h
    refine lv_iload_n hx hb dRu_sortBy_47 rfl (lv_at hl 2 rfl) ?_
    refine lv_bipush (v := 32) hx hb dRu_sortBy_48 (by decide) ?_
    refine lv_icmp_ge (tgt := 76) hx hb dRu_sortBy_50 (by decide) (fun c4 => ?_) (fun c4 => ?_)
    · replace h := jif_t c4 h
      refine lv_iconst (v := 0) hx hb dRu_sortBy_76 (by decide) ?_
      refine lv_istore_n (lv' := [(2, .int 0), (0, .ref (A 1)), (1, .int x1)]) hx hb dRu_sortBy_77 rfl hl (by decide) rfl (fun ls hl => ?_)
      exact uRu_sortBy_78 l dC dI cA A Ap hC hA jfuel _ _ _ _ _ _ _ _ hJ (lv_sub hl [1, 2, 0] rfl) h
    · replace h := jif_f c4 h
      refine lv_aload_n hx hb dRu_sortBy_53 rfl (lv_at hl 0 rfl) ?_
      refine va_get (D := (dC, dI)) (ci := 1) (v := .ref (A 25)) (C := RRu) (T := TRu) (N := 11) hx hb hj iRu hown hJ.1 hJ.2.1 1 rfl rfl 4 (by decide) (hj _ jw_146) (fun _ h9 => h9) rfl dRu_sortBy_54 ?_
      refine lv_iload_n hx hb dRu_sortBy_57 rfl (lv_at hl 2 rfl) ?_
      refine lv_iconst (v := 1) hx hb dRu_sortBy_58 (by decide) ?_
      refine lv_iadd hx hb dRu_sortBy_59 ?_
      refine lv_dup2_11 hx hb dRu_sortBy_60 rfl rfl ?_
      obtain ⟨hi15, h⟩ := jib_h h
      refine jald_25 hx hb hJ hi15 dRu_sortBy_61 ?_
      refine lv_aload_n hx hb dRu_sortBy_62 rfl (lv_at hl 0 rfl) ?_
      refine va_get (D := (dC, dI)) (ci := 1) (v := .ref (A 25)) (C := RRu) (T := TRu) (N := 11) hx hb hj iRu hown hJ.1 hJ.2.1 1 rfl rfl 4 (by decide) (hj _ jw_146) (fun _ h9 => h9) rfl dRu_sortBy_63 ?_
      refine lv_iload_n hx hb dRu_sortBy_66 rfl (lv_at hl 2 rfl) ?_
      obtain ⟨hi16, h⟩ := jib_h h
      refine jald_25 hx hb hJ hi16 dRu_sortBy_67 ?_
      refine lv_iadd hx hb dRu_sortBy_68 ?_
      obtain ⟨hi17, h⟩ := jib_h h
      refine jast_25 hx hb hJ hi17 dRu_sortBy_69 (fun H locs hJ => ?_)
      refine lv_iinc (v := x2 + 1) (lv' := [(2, .int (x2 + 1)), (0, .ref (A 1)), (1, .int x1)]) hx hb dRu_sortBy_70 hl (k := 2) rfl rfl (by decide) rfl (fun ls hl => ?_)
      refine lv_goto (tgt := 47) hx hb dRu_sortBy_73 (by decide) ?_
      exact ih _ _ _ _ _ _ _ _ hJ (lv_sub hl [1, 2, 0] rfl) h
set_option maxHeartbeats 4000000 in
set_option maxRecDepth 100000 in
theorem uRu_sortBy_10 {p : Program} {e : Env} {s : State} {m : MethodId} {args : Array Value} {below : List Frame} {meth : Method} {c : Code} (l : Launch) (dC : Nat → ClassId) (dI : Nat → Nat → Nat) (cA : ClassId) (A : Nat → Nat) (Ap : Nat → Prop) (hC : jAt p s m args meth c bRu_sortBy 4 none wRu_sortBy RRu) (hA : ∀ q : Nat, s.heap.size ≤ q → Ap q) {r : Int32} {M' : jM} {F' : jF} : ∀ (n : Nat) (x1 x2 : Int32) (M : jM) (F : jF) (B : Nat → Nat) (H : Heap) (locs : List Loc) (ls : Array Slot), jH (dC, dI) jCl [(cA, .int)] (jW cA A B M F) Ap s H locs → lv_has ls 4 [(0, .ref (A 1)), (1, .int x1), (2, .int x2)] → fRu_sortBy_10 n x1 x2 M F = some (r, M', F') → W p l e (headSpec wRu_sortBy rRu_sortBy).room s m args below meth c H locs 0 0 (jQv below (dC, dI) jCl [(cA, .int)] (fun B => jW cA A B (M') (F')) Ap args s) (F0 m 10 ls []) := by
  obtain ⟨hx, hb, hml, hr, hts, hown, hlocks, hN⟩ := id hC
  have hj : ∀ w ∈ jw, w.before args s = true := fun w h => hts w (List.mem_cons_of_mem _ h)
  intro n
  induction n with
  | zero =>
    intro x1 x2 M F B H locs ls hJ hl h
    rw [fRu_sortBy_10] at h
    cases h
  | succ n ih =>
    intro x1 x2 M F B H locs ls hJ hl h
    rw [fRu_sortBy_10] at h
    refine lv_iload_n hx hb dRu_sortBy_10 rfl (lv_at hl 2 rfl) ?_
    refine lv_aload_n hx hb dRu_sortBy_11 rfl (lv_at hl 0 rfl) ?_
    refine va_get (D := (dC, dI)) (ci := 1) (v := .int (F 4)) (C := RRu) (T := TRu) (N := 11) hx hb hj iRu hown hJ.1 hJ.2.1 1 rfl rfl 5 (by decide) (hj _ jw_147) (fun _ h9 => h9) rfl dRu_sortBy_12 ?_
    refine lv_icmp_ge (tgt := 45) hx hb dRu_sortBy_15 (by decide) (fun c3 => ?_) (fun c3 => ?_)
    · replace h := jif_t c3 h
      refine lv_iconst (v := 0) hx hb dRu_sortBy_45 (by decide) ?_
      refine lv_istore_n (lv' := [(2, .int 0), (0, .ref (A 1)), (1, .int x1)]) hx hb dRu_sortBy_46 rfl hl (by decide) rfl (fun ls hl => ?_)
      exact uRu_sortBy_47 l dC dI cA A Ap hC hA jfuel _ _ _ _ _ _ _ _ hJ (lv_sub hl [1, 2, 0] rfl) h
    · replace h := jif_f c3 h
      refine lv_aload_n hx hb dRu_sortBy_18 rfl (lv_at hl 0 rfl) ?_
      refine va_get (D := (dC, dI)) (ci := 1) (v := .ref (A 25)) (C := RRu) (T := TRu) (N := 11) hx hb hj iRu hown hJ.1 hJ.2.1 1 rfl rfl 4 (by decide) (hj _ jw_146) (fun _ h9 => h9) rfl dRu_sortBy_19 ?_
      refine lv_aload_n hx hb dRu_sortBy_22 rfl (lv_at hl 0 rfl) ?_
      refine va_get (D := (dC, dI)) (ci := 1) (v := .ref (B 0)) (C := RRu) (T := TRu) (N := 11) hx hb hj iRu hown hJ.1 hJ.2.1 1 rfl rfl 2 (by decide) (hj _ jw_144) (fun _ h9 => h9) rfl dRu_sortBy_23 ?_
      refine lv_iload_n hx hb dRu_sortBy_26 rfl (lv_at hl 2 rfl) ?_
      obtain ⟨hi18, h⟩ := jib_h h
      refine jald_23 hx hb hJ hi18 dRu_sortBy_27 ?_
      refine lv_iload_n hx hb dRu_sortBy_28 rfl (lv_at hl 1 rfl) ?_
      obtain ⟨q19, hq19, h⟩ := jbi_h h
      refine jcalli (w' := fun B => jW cA A B M F) (va_runSN (As := [.int (M 23 x2.toNatClampNeg), .int x1]) (rest := [.ref (A 25)]) ⟨hx, hb, hml, hown, hts⟩ (cJh_rowIn l dC dI cA A (M 23 x2.toNatClampNeg) x1 M F B H.size hq19) ⟨va_cnB 2 hts (jgood jw_550) rfl rfl rfl (hN _ jnw_24) (hj _ jw_1) (by decide +kernel) ⟨Nat.le_of_ble_eq_true rfl, Nat.le_of_ble_eq_true rfl⟩, hj _ jw_549, trivial⟩ (jpreS hN hJ) rfl rfl hl.1 rfl (lv_room (Nat.le_of_ble_eq_true rfl)) dRu_sortBy_29 ⟨Nat.zero_le _, Nat.zero_le _⟩) hA hJ (fun B H locs hJ => ?_)
      refine lv_iconst (v := 1) hx hb dRu_sortBy_32 (by decide) ?_
      refine lv_iadd hx hb dRu_sortBy_33 ?_
      refine lv_dup2_11 hx hb dRu_sortBy_34 rfl rfl ?_
      obtain ⟨hi20, h⟩ := jib_h h
      refine jald_25 hx hb hJ hi20 dRu_sortBy_35 ?_
      refine lv_iconst (v := 1) hx hb dRu_sortBy_36 (by decide) ?_
      refine lv_iadd hx hb dRu_sortBy_37 ?_
      obtain ⟨hi21, h⟩ := jib_h h
      refine jast_25 hx hb hJ hi21 dRu_sortBy_38 (fun H locs hJ => ?_)
      refine lv_iinc (v := x2 + 1) (lv' := [(2, .int (x2 + 1)), (0, .ref (A 1)), (1, .int x1)]) hx hb dRu_sortBy_39 hl (k := 2) rfl rfl (by decide) rfl (fun ls hl => ?_)
      refine lv_goto (tgt := 10) hx hb dRu_sortBy_42 (by decide) ?_
      exact ih _ _ _ _ _ _ _ _ hJ (lv_sub hl [1, 2, 0] rfl) h
set_option maxHeartbeats 4000000 in
set_option maxRecDepth 100000 in
theorem uRu_sortBy_0 {p : Program} {e : Env} {s : State} {m : MethodId} {args : Array Value} {below : List Frame} {meth : Method} {c : Code} (l : Launch) (dC : Nat → ClassId) (dI : Nat → Nat → Nat) (cA : ClassId) (A : Nat → Nat) (Ap : Nat → Prop) (hC : jAt p s m args meth c bRu_sortBy 4 none wRu_sortBy RRu) (hA : ∀ q : Nat, s.heap.size ≤ q → Ap q) {r : Int32} {M' : jM} {F' : jF} : ∀ (x1 : Int32) (M : jM) (F : jF) (B : Nat → Nat) (H : Heap) (locs : List Loc) (ls : Array Slot), jH (dC, dI) jCl [(cA, .int)] (jW cA A B M F) Ap s H locs → lv_has ls 4 [(0, .ref (A 1)), (1, .int x1)] → fRu_sortBy_0 x1 M F = some (r, M', F') → W p l e (headSpec wRu_sortBy rRu_sortBy).room s m args below meth c H locs 0 0 (jQv below (dC, dI) jCl [(cA, .int)] (fun B => jW cA A B (M') (F')) Ap args s) (F0 m 0 ls []) := by
  obtain ⟨hx, hb, hml, hr, hts, hown, hlocks, hN⟩ := id hC
  have hj : ∀ w ∈ jw, w.before args s = true := fun w h => hts w (List.mem_cons_of_mem _ h)
  intro x1 M F B H locs ls hJ hl h
  unfold fRu_sortBy_0 at h
  refine lv_aload_n hx hb dRu_sortBy_0 rfl (lv_at hl 0 rfl) ?_
  refine va_get (D := (dC, dI)) (ci := 1) (v := .ref (A 25)) (C := RRu) (T := TRu) (N := 11) hx hb hj iRu hown hJ.1 hJ.2.1 1 rfl rfl 4 (by decide) (hj _ jw_146) (fun _ h9 => h9) rfl dRu_sortBy_1 ?_
  refine lv_iconst (v := 0) hx hb dRu_sortBy_4 (by decide) ?_
  obtain ⟨q1, hq1, h⟩ := jbi_h h
  refine jcallv (w' := fun B => jW cA A B q1.2.1 q1.2.2) (va_runS (As := [.ref (A 25), .int 0]) (rest := []) ⟨hx, hb, hml, hown, hts⟩ (cAr_fill l dC dI cA A 0 M F B H.size hq1) (va_cwS 2 hts (jgoodS jw_574 jw_575 jw_16 jw_576) rfl rfl rfl (by decide +kernel) ⟨Nat.le_of_ble_eq_true rfl, Nat.le_of_ble_eq_true rfl⟩) (jpreS hN hJ) rfl rfl hl.1 rfl (lv_room (Nat.le_of_ble_eq_true rfl)) dRu_sortBy_5 ⟨Nat.zero_le _, Nat.zero_le _⟩) hA hJ (fun B2 H locs hJ => ?_)
  refine lv_iconst (v := 0) hx hb dRu_sortBy_8 (by decide) ?_
  refine lv_istore_n (lv' := [(2, .int 0), (0, .ref (A 1)), (1, .int x1)]) hx hb dRu_sortBy_9 rfl hl (by decide) rfl (fun ls hl => ?_)
  exact uRu_sortBy_10 l dC dI cA A Ap hC hA jfuel _ _ _ _ _ _ _ _ hJ (lv_sub hl [1, 2, 0] rfl) h
set_option maxHeartbeats 4000000 in
set_option maxRecDepth 100000 in
theorem cRu_sortBy (l : Launch) (dC : Nat → ClassId) (dI : Nat → Nat → Nat) (cA : ClassId) (A : Nat → Nat) (x1 : Int32) (M : jM) (F : jF) (B : Nat → Nat) (sz : Nat) {r : Int32} {M' : jM} {F' : jF} (h : fRu_sortBy x1 M F = some (r, M', F')) : jCv l yRu_sortBy wRu_sortBy rRu_sortBy (dC, dI) jCl [(cA, .int)] [.ref (A 1), .int x1] (jW cA A B M F) sz (fun B => jW cA A B (M') (F')) :=
  jOf (Qc := fun Ap => va_Qv (fun _ : Nat → Nat => True) (jPost (dC, dI) jCl [(cA, .int)] (fun B => jW cA A B (M') (F')) Ap) Ap) (by decide) rfl (Nat.le_of_ble_eq_true rfl) (fun p e s m below meth c Ap ls hC hA hJ hl => uRu_sortBy_0 l dC dI cA A Ap hC hA _ _ _ _ _ _ _ hJ (lv_sub hl [0, 1] rfl) h)
abbrev bRu_keep : ByteArray := prog_4_method_8_code
abbrev yRu_keep : MethodName := ⟨RRu, "keep", "(I)V"⟩
abbrev wRu_keep : List Cond := .code yRu_keep bRu_keep 3 none :: jw
theorem dRu_keep_0 : decode bRu_keep 0 = .ok (.aload_n 0, 1) := by decide +kernel
theorem dRu_keep_1 : decode bRu_keep 1 = .ok (.getfield 42, 3) := by decide +kernel
theorem dRu_keep_4 : decode bRu_keep 4 = .ok (.astore_n 2, 1) := by decide +kernel
theorem dRu_keep_5 : decode bRu_keep 5 = .ok (.aload_n 0, 1) := by decide +kernel
theorem dRu_keep_6 : decode bRu_keep 6 = .ok (.aload_n 0, 1) := by decide +kernel
theorem dRu_keep_7 : decode bRu_keep 7 = .ok (.getfield 25, 3) := by decide +kernel
theorem dRu_keep_10 : decode bRu_keep 10 = .ok (.putfield 42, 3) := by decide +kernel
theorem dRu_keep_13 : decode bRu_keep 13 = .ok (.aload_n 0, 1) := by decide +kernel
theorem dRu_keep_14 : decode bRu_keep 14 = .ok (.aload_n 2, 1) := by decide +kernel
theorem dRu_keep_15 : decode bRu_keep 15 = .ok (.putfield 25, 3) := by decide +kernel
theorem dRu_keep_18 : decode bRu_keep 18 = .ok (.aload_n 0, 1) := by decide +kernel
theorem dRu_keep_19 : decode bRu_keep 19 = .ok (.aload_n 0, 1) := by decide +kernel
theorem dRu_keep_20 : decode bRu_keep 20 = .ok (.getfield 35, 3) := by decide +kernel
theorem dRu_keep_23 : decode bRu_keep 23 = .ok (.putfield 45, 3) := by decide +kernel
theorem dRu_keep_26 : decode bRu_keep 26 = .ok (.aload_n 0, 1) := by decide +kernel
theorem dRu_keep_27 : decode bRu_keep 27 = .ok (.iload_n 1, 1) := by decide +kernel
theorem dRu_keep_28 : decode bRu_keep 28 = .ok (.putfield 48, 3) := by decide +kernel
theorem dRu_keep_31 : decode bRu_keep 31 = .ok (.aload_n 0, 1) := by decide +kernel
theorem dRu_keep_32 : decode bRu_keep 32 = .ok (.aload_n 0, 1) := by decide +kernel
theorem dRu_keep_33 : decode bRu_keep 33 = .ok (.getfield 39, 3) := by decide +kernel
theorem dRu_keep_36 : decode bRu_keep 36 = .ok (.putfield 51, 3) := by decide +kernel
theorem dRu_keep_39 : decode bRu_keep 39 = .ok (.return_, 1) := by decide +kernel
abbrev rRu_keep : Room := { frames := 0, cells := 0, slots := 0, locals := 0 }
def fRu_keep_0 (x1 : Int32) (M : jM) (F : jF) : Option (Int32 × jM × jF) := some (0, jms M 23 26, jfu (jfu (jfu F 6 (F 4)) 7 x1) 8 (F 5))
abbrev fRu_keep (x1 : Int32) (M : jM) (F : jF) : Option (Int32 × jM × jF) := fRu_keep_0 x1 M F
set_option maxHeartbeats 4000000 in
set_option maxRecDepth 100000 in
theorem uRu_keep_0 {p : Program} {e : Env} {s : State} {m : MethodId} {args : Array Value} {below : List Frame} {meth : Method} {c : Code} (l : Launch) (dC : Nat → ClassId) (dI : Nat → Nat → Nat) (cA : ClassId) (A : Nat → Nat) (Ap : Nat → Prop) (hC : jAt p s m args meth c bRu_keep 3 none wRu_keep RRu) (hA : ∀ q : Nat, s.heap.size ≤ q → Ap q) {r : Int32} {M' : jM} {F' : jF} : ∀ (x1 : Int32) (M : jM) (F : jF) (B : Nat → Nat) (H : Heap) (locs : List Loc) (ls : Array Slot), jH (dC, dI) jCl [(cA, .int)] (jW cA A B M F) Ap s H locs → lv_has ls 3 [(0, .ref (A 1)), (1, .int x1)] → fRu_keep_0 x1 M F = some (r, M', F') → W p l e (headSpec wRu_keep rRu_keep).room s m args below meth c H locs 0 0 (jQv below (dC, dI) jCl [(cA, .int)] (fun B => jW cA A B (M') (F')) Ap args s) (F0 m 0 ls []) := by
  obtain ⟨hx, hb, hml, hr, hts, hown, hlocks, hN⟩ := id hC
  have hj : ∀ w ∈ jw, w.before args s = true := fun w h => hts w (List.mem_cons_of_mem _ h)
  intro x1 M F B H locs ls hJ hl h
  unfold fRu_keep_0 at h
  refine lv_aload_n hx hb dRu_keep_0 rfl (lv_at hl 0 rfl) ?_
  refine va_get (D := (dC, dI)) (ci := 1) (v := .ref (B 2)) (C := RRu) (T := TRu) (N := 11) hx hb hj iRu hown hJ.1 hJ.2.1 1 rfl rfl 7 (by decide) (hj _ jw_149) (fun _ h9 => h9) rfl dRu_keep_1 ?_
  refine lv_astore_n (lv' := [(2, .ref (B 2)), (0, .ref (A 1)), (1, .int x1)]) hx hb dRu_keep_4 rfl hl (by decide) rfl (fun ls hl => ?_)
  refine lv_aload_n hx hb dRu_keep_5 rfl (lv_at hl 1 rfl) ?_
  refine lv_aload_n hx hb dRu_keep_6 rfl (lv_at hl 1 rfl) ?_
  refine va_get (D := (dC, dI)) (ci := 1) (v := .ref (B 0)) (C := RRu) (T := TRu) (N := 11) hx hb hj iRu hown hJ.1 hJ.2.1 1 rfl rfl 2 (by decide) (hj _ jw_144) (fun _ h9 => h9) rfl dRu_keep_7 ?_
  refine va_put (D := (dC, dI)) (ci := 1) (v := .ref (B 0)) (ty := (.array .int)) (C := RRu) (T := TRu) (N := 11) hx hb hj iRu tRu tRu_ok nRu hown hJ.1 hJ.2.1 hJ.2.2.1 hJ.2.2.2 1 rfl rfl 7 (by decide) (hj _ jw_149) (fun _ h9 => h9) rfl (by decide +kernel) rfl rfl (Nat.le_of_ble_eq_true rfl) dRu_keep_10 (fun H locs hP hD hS => ?_)
  replace hJ : jH (dC, dI) jCl [(cA, .int)] (jWr cA A B M F (B 0) (B 1) (B 0)) Ap s H locs := ⟨hJ.1, hP, hD, hS⟩
  refine lv_aload_n hx hb dRu_keep_13 rfl (lv_at hl 1 rfl) ?_
  refine lv_aload_n hx hb dRu_keep_14 rfl (lv_at hl 0 rfl) ?_
  refine va_put (D := (dC, dI)) (ci := 1) (v := .ref (B 2)) (ty := (.array .int)) (C := RRu) (T := TRu) (N := 11) hx hb hj iRu tRu tRu_ok nRu hown hJ.1 hJ.2.1 hJ.2.2.1 hJ.2.2.2 1 rfl rfl 2 (by decide) (hj _ jw_144) (fun _ h9 => h9) rfl (by decide +kernel) rfl rfl (Nat.le_of_ble_eq_true rfl) dRu_keep_15 (fun H locs hP hD hS => ?_)
  replace hJ : jH (dC, dI) jCl [(cA, .int)] (jWr cA A B M F (B 2) (B 1) (B 0)) Ap s H locs := ⟨hJ.1, hP, hD, hS⟩
  refine lv_aload_n hx hb dRu_keep_18 rfl (lv_at hl 1 rfl) ?_
  refine lv_aload_n hx hb dRu_keep_19 rfl (lv_at hl 1 rfl) ?_
  refine va_get (D := (dC, dI)) (ci := 1) (v := .int (F 4)) (C := RRu) (T := TRu) (N := 11) hx hb hj iRu hown hJ.1 hJ.2.1 1 rfl rfl 5 (by decide) (hj _ jw_147) (fun _ h9 => h9) rfl dRu_keep_20 ?_
  refine va_put (D := (dC, dI)) (ci := 1) (v := .int (F 4)) (ty := .int) (C := RRu) (T := TRu) (N := 11) hx hb hj iRu tRu tRu_ok nRu hown hJ.1 hJ.2.1 hJ.2.2.1 hJ.2.2.2 1 rfl rfl 8 (by decide) (hj _ jw_151) (fun _ h9 => h9) rfl (by decide +kernel) rfl rfl (Nat.le_of_ble_eq_true rfl) dRu_keep_23 (fun H locs hP hD hS => ?_)
  replace hJ : jH (dC, dI) jCl [(cA, .int)] (jWr cA A B M (jfu F 6 (F 4)) (B 2) (B 1) (B 0)) Ap s H locs := ⟨hJ.1, hP, hD, hS⟩
  refine lv_aload_n hx hb dRu_keep_26 rfl (lv_at hl 1 rfl) ?_
  refine lv_iload_n hx hb dRu_keep_27 rfl (lv_at hl 2 rfl) ?_
  refine va_put (D := (dC, dI)) (ci := 1) (v := .int x1) (ty := .int) (C := RRu) (T := TRu) (N := 11) hx hb hj iRu tRu tRu_ok nRu hown hJ.1 hJ.2.1 hJ.2.2.1 hJ.2.2.2 1 rfl rfl 9 (by decide) (hj _ jw_153) (fun _ h9 => h9) rfl (by decide +kernel) rfl rfl (Nat.le_of_ble_eq_true rfl) dRu_keep_28 (fun H locs hP hD hS => ?_)
  replace hJ : jH (dC, dI) jCl [(cA, .int)] (jWr cA A B M (jfu (jfu F 6 (F 4)) 7 x1) (B 2) (B 1) (B 0)) Ap s H locs := ⟨hJ.1, hP, hD, hS⟩
  refine lv_aload_n hx hb dRu_keep_31 rfl (lv_at hl 1 rfl) ?_
  refine lv_aload_n hx hb dRu_keep_32 rfl (lv_at hl 1 rfl) ?_
  refine va_get (D := (dC, dI)) (ci := 1) (v := .int (F 5)) (C := RRu) (T := TRu) (N := 11) hx hb hj iRu hown hJ.1 hJ.2.1 1 rfl rfl 6 (by decide) (hj _ jw_148) (fun _ h9 => h9) rfl dRu_keep_33 ?_
  refine va_put (D := (dC, dI)) (ci := 1) (v := .int (F 5)) (ty := .int) (C := RRu) (T := TRu) (N := 11) hx hb hj iRu tRu tRu_ok nRu hown hJ.1 hJ.2.1 hJ.2.2.1 hJ.2.2.2 1 rfl rfl 10 (by decide) (hj _ jw_155) (fun _ h9 => h9) rfl (by decide +kernel) rfl rfl (Nat.le_of_ble_eq_true rfl) dRu_keep_36 (fun H locs hP hD hS => ?_)
  replace hJ : jH (dC, dI) jCl [(cA, .int)] (jWr cA A B M (jfu (jfu (jfu F 6 (F 4)) 7 x1) 8 (F 5)) (B 2) (B 1) (B 0)) Ap s H locs := ⟨hJ.1, hP, hD, hS⟩
  replace hJ : jH (dC, dI) jCl [(cA, .int)] (jW cA A (jbs B 0 2) (jms M 23 26) (jfu (jfu (jfu F 6 (F 4)) 7 x1) 8 (F 5))) Ap s H locs := ⟨hJ.1, hJ.2.1.sub [0, 1, 2, 3, 4, 5, 6, 7, 8, 9, 10, 11, 12, 13, 14, 15, 16, 17, 18, 19, 20, 21, 22, 26, 24, 25, 23] rfl, hJ.2.2.1.sub [0, 1, 2, 3, 4, 5, 6, 7, 8, 9, 10, 11, 12, 13, 14, 15, 16, 17, 18, 19, 20, 21, 22, 26, 24, 25, 23] (by decide) rfl, hJ.2.2.2⟩
  cases h
  exact jretv (u := (jbs B 0 2)) hx hb hr hlocks hJ dRu_keep_39
set_option maxHeartbeats 4000000 in
set_option maxRecDepth 100000 in
theorem cRu_keep (l : Launch) (dC : Nat → ClassId) (dI : Nat → Nat → Nat) (cA : ClassId) (A : Nat → Nat) (x1 : Int32) (M : jM) (F : jF) (B : Nat → Nat) (sz : Nat) {r : Int32} {M' : jM} {F' : jF} (h : fRu_keep x1 M F = some (r, M', F')) : jCv l yRu_keep wRu_keep rRu_keep (dC, dI) jCl [(cA, .int)] [.ref (A 1), .int x1] (jW cA A B M F) sz (fun B => jW cA A B (M') (F')) :=
  jOf (Qc := fun Ap => va_Qv (fun _ : Nat → Nat => True) (jPost (dC, dI) jCl [(cA, .int)] (fun B => jW cA A B (M') (F')) Ap) Ap) (by decide) rfl (Nat.le_of_ble_eq_true rfl) (fun p e s m below meth c Ap ls hC hA hJ hl => uRu_keep_0 l dC dI cA A Ap hC hA _ _ _ _ _ _ _ hJ (lv_sub hl [0, 1] rfl) h)
abbrev bRu_go : ByteArray := prog_4_method_2_code
abbrev yRu_go : MethodName := ⟨RRu, "go", "()Z"⟩
abbrev wRu_go : List Cond := .code yRu_go bRu_go 5 (some .boolean) :: jw
theorem dRu_go_0 : decode bRu_go 0 = .ok (.aload_n 0, 1) := by decide +kernel
theorem dRu_go_1 : decode bRu_go 1 = .ok (.getfield 12, 3) := by decide +kernel
theorem dRu_go_4 : decode bRu_go 4 = .ok (.getfield 54, 3) := by decide +kernel
theorem dRu_go_7 : decode bRu_go 7 = .ok (.getfield 58, 3) := by decide +kernel
theorem dRu_go_10 : decode bRu_go 10 = .ok (.istore_n 1, 1) := by decide +kernel
theorem dRu_go_11 : decode bRu_go 11 = .ok (.aload_n 0, 1) := by decide +kernel
theorem dRu_go_12 : decode bRu_go 12 = .ok (.getfield 12, 3) := by decide +kernel
theorem dRu_go_15 : decode bRu_go 15 = .ok (.invokevirtual 63, 3) := by decide +kernel
theorem dRu_go_18 : decode bRu_go 18 = .ok (.aload_n 0, 1) := by decide +kernel
theorem dRu_go_19 : decode bRu_go 19 = .ok (.iload_n 1, 1) := by decide +kernel
theorem dRu_go_20 : decode bRu_go 20 = .ok (.invokevirtual 66, 3) := by decide +kernel
theorem dRu_go_23 : decode bRu_go 23 = .ok (.iconst 0, 1) := by decide +kernel
theorem dRu_go_24 : decode bRu_go 24 = .ok (.istore_n 2, 1) := by decide +kernel
theorem dRu_go_25 : decode bRu_go 25 = .ok (.iconst 0, 1) := by decide +kernel
theorem dRu_go_26 : decode bRu_go 26 = .ok (.istore_n 3, 1) := by decide +kernel
theorem dRu_go_27 : decode bRu_go 27 = .ok (.iload_n 3, 1) := by decide +kernel
theorem dRu_go_28 : decode bRu_go 28 = .ok (.iload_n 1, 1) := by decide +kernel
theorem dRu_go_29 : decode bRu_go 29 = .ok (.if_icmp .ge 65, 3) := by decide +kernel
theorem dRu_go_32 : decode bRu_go 32 = .ok (.aload_n 0, 1) := by decide +kernel
theorem dRu_go_33 : decode bRu_go 33 = .ok (.getfield 12, 3) := by decide +kernel
theorem dRu_go_36 : decode bRu_go 36 = .ok (.getfield 70, 3) := by decide +kernel
theorem dRu_go_39 : decode bRu_go 39 = .ok (.iload_n 3, 1) := by decide +kernel
theorem dRu_go_40 : decode bRu_go 40 = .ok (.iaload, 1) := by decide +kernel
theorem dRu_go_41 : decode bRu_go 41 = .ok (.istore 4, 2) := by decide +kernel
theorem dRu_go_43 : decode bRu_go 43 = .ok (.aload_n 0, 1) := by decide +kernel
theorem dRu_go_44 : decode bRu_go 44 = .ok (.getfield 21, 3) := by decide +kernel
theorem dRu_go_47 : decode bRu_go 47 = .ok (.aload_n 0, 1) := by decide +kernel
theorem dRu_go_48 : decode bRu_go 48 = .ok (.getfield 12, 3) := by decide +kernel
theorem dRu_go_51 : decode bRu_go 51 = .ok (.getfield 54, 3) := by decide +kernel
theorem dRu_go_54 : decode bRu_go 54 = .ok (.iload 4, 2) := by decide +kernel
theorem dRu_go_56 : decode bRu_go 56 = .ok (.iload_n 2, 1) := by decide +kernel
theorem dRu_go_57 : decode bRu_go 57 = .ok (.invokevirtual 73, 3) := by decide +kernel
theorem dRu_go_60 : decode bRu_go 60 = .ok (.aload_n 0, 1) := by decide +kernel
theorem dRu_go_61 : decode bRu_go 61 = .ok (.iload 4, 2) := by decide +kernel
theorem dRu_go_63 : decode bRu_go 63 = .ok (.aload_n 0, 1) := by decide +kernel
theorem dRu_go_64 : decode bRu_go 64 = .ok (.getfield 12, 3) := by decide +kernel
theorem dRu_go_67 : decode bRu_go 67 = .ok (.iload 4, 2) := by decide +kernel
theorem dRu_go_69 : decode bRu_go 69 = .ok (.iload_n 2, 1) := by decide +kernel
theorem dRu_go_70 : decode bRu_go 70 = .ok (.invokevirtual 77, 3) := by decide +kernel
theorem dRu_go_73 : decode bRu_go 73 = .ok (.invokevirtual 81, 3) := by decide +kernel
theorem dRu_go_76 : decode bRu_go 76 = .ok (.ifCond .ne 5, 3) := by decide +kernel
theorem dRu_go_79 : decode bRu_go 79 = .ok (.iconst 0, 1) := by decide +kernel
theorem dRu_go_80 : decode bRu_go 80 = .ok (.ireturn, 1) := by decide +kernel
theorem dRu_go_81 : decode bRu_go 81 = .ok (.iload_n 2, 1) := by decide +kernel
theorem dRu_go_82 : decode bRu_go 82 = .ok (.iconst 1, 1) := by decide +kernel
theorem dRu_go_83 : decode bRu_go 83 = .ok (.iload 4, 2) := by decide +kernel
theorem dRu_go_85 : decode bRu_go 85 = .ok (.ishl, 1) := by decide +kernel
theorem dRu_go_86 : decode bRu_go 86 = .ok (.ior, 1) := by decide +kernel
theorem dRu_go_87 : decode bRu_go 87 = .ok (.istore_n 2, 1) := by decide +kernel
theorem dRu_go_88 : decode bRu_go 88 = .ok (.iinc 3 1, 3) := by decide +kernel
theorem dRu_go_91 : decode bRu_go 91 = .ok (.goto (-64), 3) := by decide +kernel
theorem dRu_go_94 : decode bRu_go 94 = .ok (.iload_n 1, 1) := by decide +kernel
theorem dRu_go_95 : decode bRu_go 95 = .ok (.iconst 1, 1) := by decide +kernel
theorem dRu_go_96 : decode bRu_go 96 = .ok (.isub, 1) := by decide +kernel
theorem dRu_go_97 : decode bRu_go 97 = .ok (.istore_n 3, 1) := by decide +kernel
theorem dRu_go_98 : decode bRu_go 98 = .ok (.iload_n 3, 1) := by decide +kernel
theorem dRu_go_99 : decode bRu_go 99 = .ok (.ifCond .lt 14, 3) := by decide +kernel
theorem dRu_go_102 : decode bRu_go 102 = .ok (.aload_n 0, 1) := by decide +kernel
theorem dRu_go_103 : decode bRu_go 103 = .ok (.iload_n 3, 1) := by decide +kernel
theorem dRu_go_104 : decode bRu_go 104 = .ok (.invokevirtual 85, 3) := by decide +kernel
theorem dRu_go_107 : decode bRu_go 107 = .ok (.iinc 3 (-1), 3) := by decide +kernel
theorem dRu_go_110 : decode bRu_go 110 = .ok (.goto (-12), 3) := by decide +kernel
theorem dRu_go_113 : decode bRu_go 113 = .ok (.aload_n 0, 1) := by decide +kernel
theorem dRu_go_114 : decode bRu_go 114 = .ok (.iload_n 1, 1) := by decide +kernel
theorem dRu_go_115 : decode bRu_go 115 = .ok (.invokevirtual 88, 3) := by decide +kernel
theorem dRu_go_118 : decode bRu_go 118 = .ok (.iconst 1, 1) := by decide +kernel
theorem dRu_go_119 : decode bRu_go 119 = .ok (.ireturn, 1) := by decide +kernel
abbrev rRu_go : Room := { frames := 5, cells := 0, slots := 0, locals := 129 }
def fRu_go_98 : Nat → Int32 → Int32 → jM → jF → Option (Int32 × jM × jF)
  | 0, _, _, _, _ => none
  | n + 1, x1, x3, M, F => (if x3 < 0 then ((fRu_keep x1 M F).bind fun q7 => some (1, q7.2.1, q7.2.2)) else ((fRu_sortBy x3 M F).bind fun q9 => fRu_go_98 n x1 (x3 + (-1)) q9.2.1 q9.2.2))
def fRu_go_27 : Nat → Int32 → Int32 → Int32 → jM → jF → Option (Int32 × jM × jF)
  | 0, _, _, _, _, _ => none
  | n + 1, x1, x2, x3, M, F => (if x1 ≤ x3 then fRu_go_98 jfuel x1 (x1 - 1) M F else (if jib x3 6 then ((fSi_prepare (M 19 x3.toNatClampNeg) x2 M F).bind fun q12 => ((fPl_conditionFor (M 19 x3.toNatClampNeg) x2 q12.2.1 q12.2.2).bind fun q14 => ((fRu_goTo (M 19 x3.toNatClampNeg) q14 q12.2.1 q12.2.2).bind fun q15 => (if q15.1 = 0 then some (0, q15.2.1, q15.2.2) else fRu_go_27 n x1 (x2 ||| (1 <<< ((M 19 x3.toNatClampNeg) &&& 31))) (x3 + 1) q15.2.1 q15.2.2)))) else none))
def fRu_go_0 (M : jM) (F : jF) : Option (Int32 × jM × jF) := ((fPl_make M F).bind fun q1 => ((fRu_begin (F 0) q1.2.1 q1.2.2).bind fun q3 => fRu_go_27 jfuel (F 0) 0 0 q3.2.1 q3.2.2))
abbrev fRu_go (M : jM) (F : jF) : Option (Int32 × jM × jF) := fRu_go_0  M F
set_option maxHeartbeats 4000000 in
set_option maxRecDepth 100000 in
theorem uRu_go_98 {p : Program} {e : Env} {s : State} {m : MethodId} {args : Array Value} {below : List Frame} {meth : Method} {c : Code} (l : Launch) (dC : Nat → ClassId) (dI : Nat → Nat → Nat) (cA : ClassId) (A : Nat → Nat) (Ap : Nat → Prop) (hC : jAt p s m args meth c bRu_go 5 (some .boolean) wRu_go RRu) (hA : ∀ q : Nat, s.heap.size ≤ q → Ap q) {r : Int32} {M' : jM} {F' : jF} : ∀ (n : Nat) (x1 x3 : Int32) (M : jM) (F : jF) (B : Nat → Nat) (H : Heap) (locs : List Loc) (ls : Array Slot), jH (dC, dI) jCl [(cA, .int)] (jW cA A B M F) Ap s H locs → lv_has ls 5 [(0, .ref (A 1)), (1, .int x1), (3, .int x3)] → fRu_go_98 n x1 x3 M F = some (r, M', F') → W p l e (headSpec wRu_go rRu_go).room s m args below meth c H locs 0 0 (jQi below (dC, dI) jCl [(cA, .int)] (fun B => jW cA A B (M') (F')) Ap args s r) (F0 m 98 ls []) := by
  obtain ⟨hx, hb, hml, hr, hts, hown, hlocks, hN⟩ := id hC
  have hj : ∀ w ∈ jw, w.before args s = true := fun w h => hts w (List.mem_cons_of_mem _ h)
  intro n
  induction n with
  | zero =>
    intro x1 x3 M F B H locs ls hJ hl h
    rw [fRu_go_98] at h
    cases h
  | succ n ih =>
    intro x1 x3 M F B H locs ls hJ hl h
    rw [fRu_go_98] at h
    refine lv_iload_n hx hb dRu_go_98 rfl (lv_at hl 2 rfl) ?_
    refine lv_if_lt (tgt := 113) hx hb dRu_go_99 (by decide) (fun c6 => ?_) (fun c6 => ?_)
    · replace h := jif_t c6 h
      refine lv_aload_n hx hb dRu_go_113 rfl (lv_at hl 0 rfl) ?_
      refine lv_iload_n hx hb dRu_go_114 rfl (lv_at hl 1 rfl) ?_
      obtain ⟨q7, hq7, h⟩ := jbi_h h
      refine jcallv (w' := fun B => jW cA A B q7.2.1 q7.2.2) (va_runV (As := [.int x1]) (rest := []) ⟨hx, hb, hml, hown, hts⟩ (cRu_keep l dC dI cA A x1 M F B H.size hq7) (cwV 1 hts (jgoodV jw_578 jw_580 jws_16 jw_2 jw_581) rfl rfl rfl (by decide +kernel) ⟨Nat.le_of_ble_eq_true rfl, Nat.le_of_ble_eq_true rfl⟩) (jpreV hN hJ (ci := 1) (q0 := 1) rfl rfl) rfl rfl hl.1 rfl (lv_room (Nat.le_of_ble_eq_true rfl)) dRu_go_115 ⟨Nat.zero_le _, Nat.zero_le _⟩) hA hJ (fun B8 H locs hJ => ?_)
      refine lv_iconst (v := 1) hx hb dRu_go_118 (by decide) ?_
      cases h
      exact jreti (u := B8) hx hb hr rfl hlocks hJ dRu_go_119 rfl
    · replace h := jif_f c6 h
      refine lv_aload_n hx hb dRu_go_102 rfl (lv_at hl 0 rfl) ?_
      refine lv_iload_n hx hb dRu_go_103 rfl (lv_at hl 2 rfl) ?_
      obtain ⟨q9, hq9, h⟩ := jbi_h h
      refine jcallv (w' := fun B => jW cA A B q9.2.1 q9.2.2) (va_runV (As := [.int x3]) (rest := []) ⟨hx, hb, hml, hown, hts⟩ (cRu_sortBy l dC dI cA A x3 M F B H.size hq9) (cwV 1 hts (jgoodV jw_570 jw_572 jws_15 jw_2 jw_573) rfl rfl rfl (by decide +kernel) ⟨Nat.le_of_ble_eq_true rfl, Nat.le_of_ble_eq_true rfl⟩) (jpreV hN hJ (ci := 1) (q0 := 1) rfl rfl) rfl rfl hl.1 rfl (lv_room (Nat.le_of_ble_eq_true rfl)) dRu_go_104 ⟨Nat.zero_le _, Nat.zero_le _⟩) hA hJ (fun B10 H locs hJ => ?_)
      refine lv_iinc (v := x3 + (-1)) (lv' := [(3, .int (x3 + (-1))), (0, .ref (A 1)), (1, .int x1)]) hx hb dRu_go_107 hl (k := 2) rfl (congrArg (fun z => x3 + z) (by decide)) (by decide) rfl (fun ls hl => ?_)
      refine lv_goto (tgt := 98) hx hb dRu_go_110 (by decide) ?_
      exact ih _ _ _ _ _ _ _ _ hJ (lv_sub hl [1, 2, 0] rfl) h
set_option maxHeartbeats 4000000 in
set_option maxRecDepth 100000 in
theorem uRu_go_27 {p : Program} {e : Env} {s : State} {m : MethodId} {args : Array Value} {below : List Frame} {meth : Method} {c : Code} (l : Launch) (dC : Nat → ClassId) (dI : Nat → Nat → Nat) (cA : ClassId) (A : Nat → Nat) (Ap : Nat → Prop) (hC : jAt p s m args meth c bRu_go 5 (some .boolean) wRu_go RRu) (hA : ∀ q : Nat, s.heap.size ≤ q → Ap q) {r : Int32} {M' : jM} {F' : jF} : ∀ (n : Nat) (x1 x2 x3 : Int32) (M : jM) (F : jF) (B : Nat → Nat) (H : Heap) (locs : List Loc) (ls : Array Slot), jH (dC, dI) jCl [(cA, .int)] (jW cA A B M F) Ap s H locs → lv_has ls 5 [(0, .ref (A 1)), (1, .int x1), (2, .int x2), (3, .int x3)] → fRu_go_27 n x1 x2 x3 M F = some (r, M', F') → W p l e (headSpec wRu_go rRu_go).room s m args below meth c H locs 0 0 (jQi below (dC, dI) jCl [(cA, .int)] (fun B => jW cA A B (M') (F')) Ap args s r) (F0 m 27 ls []) := by
  obtain ⟨hx, hb, hml, hr, hts, hown, hlocks, hN⟩ := id hC
  have hj : ∀ w ∈ jw, w.before args s = true := fun w h => hts w (List.mem_cons_of_mem _ h)
  intro n
  induction n with
  | zero =>
    intro x1 x2 x3 M F B H locs ls hJ hl h
    rw [fRu_go_27] at h
    cases h
  | succ n ih =>
    intro x1 x2 x3 M F B H locs ls hJ hl h
    rw [fRu_go_27] at h
    refine lv_iload_n hx hb dRu_go_27 rfl (lv_at hl 3 rfl) ?_
    refine lv_iload_n hx hb dRu_go_28 rfl (lv_at hl 1 rfl) ?_
    refine lv_icmp_ge (tgt := 94) hx hb dRu_go_29 (by decide) (fun c5 => ?_) (fun c5 => ?_)
    · replace h := jif_t c5 h
      refine lv_iload_n hx hb dRu_go_94 rfl (lv_at hl 1 rfl) ?_
      refine lv_iconst (v := 1) hx hb dRu_go_95 (by decide) ?_
      refine lv_isub hx hb dRu_go_96 ?_
      refine lv_istore_n (lv' := [(3, .int (x1 - 1)), (0, .ref (A 1)), (1, .int x1), (2, .int x2)]) hx hb dRu_go_97 rfl hl (by decide) rfl (fun ls hl => ?_)
      exact uRu_go_98 l dC dI cA A Ap hC hA jfuel _ _ _ _ _ _ _ _ hJ (lv_sub hl [1, 2, 0] rfl) h
    · replace h := jif_f c5 h
      refine lv_aload_n hx hb dRu_go_32 rfl (lv_at hl 0 rfl) ?_
      refine va_get (D := (dC, dI)) (ci := 1) (v := .ref (A 2)) (C := RRu) (T := TRu) (N := 11) hx hb hj iRu hown hJ.1 hJ.2.1 1 rfl rfl 0 (by decide) (hj _ jw_141) (fun _ h9 => h9) rfl dRu_go_33 ?_
      refine va_getN (D := (dC, dI)) (ci := 2) (v := .ref (A 19)) (C := RPl) (T := TPl) (N := 4) hx hb hj iPl hown hJ.1 hJ.2.1 2 rfl rfl 3 (by decide) (jnw_use hN jnw_14) (fun _ h9 => h9) rfl dRu_go_36 ?_
      refine lv_iload_n hx hb dRu_go_39 rfl (lv_at hl 3 rfl) ?_
      obtain ⟨hi11, h⟩ := jib_h h
      refine jald_19 hx hb hJ hi11 dRu_go_40 ?_
      refine lv_istore (lv' := [(4, .int (M 19 x3.toNatClampNeg)), (0, .ref (A 1)), (1, .int x1), (2, .int x2), (3, .int x3)]) hx hb dRu_go_41 hl (by decide) rfl (fun ls hl => ?_)
      refine lv_aload_n hx hb dRu_go_43 rfl (lv_at hl 1 rfl) ?_
      refine va_get (D := (dC, dI)) (ci := 1) (v := .ref (A 5)) (C := RRu) (T := TRu) (N := 11) hx hb hj iRu hown hJ.1 hJ.2.1 1 rfl rfl 1 (by decide) (hj _ jw_143) (fun _ h9 => h9) rfl dRu_go_44 ?_
      refine lv_aload_n hx hb dRu_go_47 rfl (lv_at hl 1 rfl) ?_
      refine va_get (D := (dC, dI)) (ci := 1) (v := .ref (A 2)) (C := RRu) (T := TRu) (N := 11) hx hb hj iRu hown hJ.1 hJ.2.1 1 rfl rfl 0 (by decide) (hj _ jw_141) (fun _ h9 => h9) rfl dRu_go_48 ?_
      refine va_getN (D := (dC, dI)) (ci := 2) (v := .ref (A 3)) (C := RPl) (T := TPl) (N := 4) hx hb hj iPl hown hJ.1 hJ.2.1 2 rfl rfl 0 (by decide) (jnw_use hN jnw_13) (fun _ h9 => h9) rfl dRu_go_51 ?_
      refine lv_iload hx hb dRu_go_54 (lv_at hl 0 rfl) ?_
      refine lv_iload_n hx hb dRu_go_56 rfl (lv_at hl 3 rfl) ?_
      obtain ⟨q12, hq12, h⟩ := jbi_h h
      refine jcallv (w' := fun B => jW cA A B q12.2.1 q12.2.2) (va_runV (As := [.ref (A 3), .int (M 19 x3.toNatClampNeg), .int x2]) (rest := []) ⟨hx, hb, hml, hown, hts⟩ (cSi_prepare l dC dI cA A (M 19 x3.toNatClampNeg) x2 M F B H.size hq12) (cwV 3 hts (jgoodV jw_518 jw_519 jw_520 jw_6 jw_521) rfl rfl rfl (by decide +kernel) ⟨Nat.le_of_ble_eq_true rfl, Nat.le_of_ble_eq_true rfl⟩) (jpreV hN hJ (ci := 5) (q0 := 5) rfl rfl) rfl rfl hl.1 rfl (lv_room (Nat.le_of_ble_eq_true rfl)) dRu_go_57 ⟨Nat.zero_le _, Nat.zero_le _⟩) hA hJ (fun B13 H locs hJ => ?_)
      refine lv_aload_n hx hb dRu_go_60 rfl (lv_at hl 1 rfl) ?_
      refine lv_iload hx hb dRu_go_61 (lv_at hl 0 rfl) ?_
      refine lv_aload_n hx hb dRu_go_63 rfl (lv_at hl 1 rfl) ?_
      refine va_get (D := (dC, dI)) (ci := 1) (v := .ref (A 2)) (C := RRu) (T := TRu) (N := 11) hx hb hj iRu hown hJ.1 hJ.2.1 1 rfl rfl 0 (by decide) (hj _ jw_141) (fun _ h9 => h9) rfl dRu_go_64 ?_
      refine lv_iload hx hb dRu_go_67 (lv_at hl 0 rfl) ?_
      refine lv_iload_n hx hb dRu_go_69 rfl (lv_at hl 3 rfl) ?_
      obtain ⟨q14, hq14, h⟩ := jbi_h h
      refine jcalli (w' := fun B => jW cA A B q12.2.1 q12.2.2) (va_runV (As := [.int (M 19 x3.toNatClampNeg), .int x2]) (rest := [.int (M 19 x3.toNatClampNeg), .ref (A 1)]) ⟨hx, hb, hml, hown, hts⟩ (cPl_conditionFor l dC dI cA A (M 19 x3.toNatClampNeg) x2 q12.2.1 q12.2.2 B13 H.size hq14) (cwV 2 hts (jgoodV jw_537 jw_467 jw_468 jw_3 jw_469) rfl rfl rfl (by decide +kernel) ⟨Nat.le_of_ble_eq_true rfl, Nat.le_of_ble_eq_true rfl⟩) (jpreV hN hJ (ci := 2) (q0 := 2) rfl rfl) rfl rfl hl.1 rfl (lv_room (Nat.le_of_ble_eq_true rfl)) dRu_go_70 ⟨Nat.zero_le _, Nat.zero_le _⟩) hA hJ (fun B13 H locs hJ => ?_)
      obtain ⟨q15, hq15, h⟩ := jbi_h h
      refine jcalli (w' := fun B => jW cA A B q15.2.1 q15.2.2) (va_runV (As := [.int (M 19 x3.toNatClampNeg), .int q14]) (rest := []) ⟨hx, hb, hml, hown, hts⟩ (cRu_goTo l dC dI cA A (M 19 x3.toNatClampNeg) q14 q12.2.1 q12.2.2 B13 H.size hq15) (cwV 2 hts (jgoodV jw_538 jw_540 jws_12 jw_2 jw_541) rfl rfl rfl (by decide +kernel) ⟨Nat.le_of_ble_eq_true rfl, Nat.le_of_ble_eq_true rfl⟩) (jpreV hN hJ (ci := 1) (q0 := 1) rfl rfl) rfl rfl hl.1 rfl (lv_room (Nat.le_of_ble_eq_true rfl)) dRu_go_73 ⟨Nat.zero_le _, Nat.zero_le _⟩) hA hJ (fun B16 H locs hJ => ?_)
      refine lv_if_ne (tgt := 81) hx hb dRu_go_76 (by decide) (fun c17 => ?_) (fun c17 => ?_)
      · replace h := jif_f c17 h
        refine lv_iload_n hx hb dRu_go_81 rfl (lv_at hl 3 rfl) ?_
        refine lv_iconst (v := 1) hx hb dRu_go_82 (by decide) ?_
        refine lv_iload hx hb dRu_go_83 (lv_at hl 0 rfl) ?_
        refine lv_ishl hx hb dRu_go_85 ?_
        refine lv_ior hx hb dRu_go_86 ?_
        refine lv_istore_n (lv' := [(2, .int (x2 ||| (1 <<< ((M 19 x3.toNatClampNeg) &&& 31)))), (4, .int (M 19 x3.toNatClampNeg)), (0, .ref (A 1)), (1, .int x1), (3, .int x3)]) hx hb dRu_go_87 rfl hl (by decide) rfl (fun ls hl => ?_)
        refine lv_iinc (v := x3 + 1) (lv' := [(3, .int (x3 + 1)), (2, .int (x2 ||| (1 <<< ((M 19 x3.toNatClampNeg) &&& 31)))), (4, .int (M 19 x3.toNatClampNeg)), (0, .ref (A 1)), (1, .int x1)]) hx hb dRu_go_88 hl (k := 4) rfl rfl (by decide) rfl (fun ls hl => ?_)
        refine lv_goto (tgt := 27) hx hb dRu_go_91 (by decide) ?_
        exact ih _ _ _ _ _ _ _ _ _ hJ (lv_sub hl [3, 4, 1, 0] rfl) h
      · replace h := jif_t c17 h
        refine lv_iconst (v := 0) hx hb dRu_go_79 (by decide) ?_
        cases h
        exact jreti (u := B16) hx hb hr rfl hlocks hJ dRu_go_80 rfl
set_option maxHeartbeats 4000000 in
set_option maxRecDepth 100000 in
theorem uRu_go_0 {p : Program} {e : Env} {s : State} {m : MethodId} {args : Array Value} {below : List Frame} {meth : Method} {c : Code} (l : Launch) (dC : Nat → ClassId) (dI : Nat → Nat → Nat) (cA : ClassId) (A : Nat → Nat) (Ap : Nat → Prop) (hC : jAt p s m args meth c bRu_go 5 (some .boolean) wRu_go RRu) (hA : ∀ q : Nat, s.heap.size ≤ q → Ap q) {r : Int32} {M' : jM} {F' : jF} : ∀ (M : jM) (F : jF) (B : Nat → Nat) (H : Heap) (locs : List Loc) (ls : Array Slot), jH (dC, dI) jCl [(cA, .int)] (jW cA A B M F) Ap s H locs → lv_has ls 5 [(0, .ref (A 1))] → fRu_go_0 M F = some (r, M', F') → W p l e (headSpec wRu_go rRu_go).room s m args below meth c H locs 0 0 (jQi below (dC, dI) jCl [(cA, .int)] (fun B => jW cA A B (M') (F')) Ap args s r) (F0 m 0 ls []) := by
  obtain ⟨hx, hb, hml, hr, hts, hown, hlocks, hN⟩ := id hC
  have hj : ∀ w ∈ jw, w.before args s = true := fun w h => hts w (List.mem_cons_of_mem _ h)
  intro  M F B H locs ls hJ hl h
  unfold fRu_go_0 at h
  refine lv_aload_n hx hb dRu_go_0 rfl (lv_at hl 0 rfl) ?_
  refine va_get (D := (dC, dI)) (ci := 1) (v := .ref (A 2)) (C := RRu) (T := TRu) (N := 11) hx hb hj iRu hown hJ.1 hJ.2.1 1 rfl rfl 0 (by decide) (hj _ jw_141) (fun _ h9 => h9) rfl dRu_go_1 ?_
  refine va_getN (D := (dC, dI)) (ci := 2) (v := .ref (A 3)) (C := RPl) (T := TPl) (N := 4) hx hb hj iPl hown hJ.1 hJ.2.1 2 rfl rfl 0 (by decide) (jnw_use hN jnw_13) (fun _ h9 => h9) rfl dRu_go_4 ?_
  refine va_getN (D := (dC, dI)) (ci := 3) (v := .int (F 0)) (C := RQu) (T := TQu) (N := 10) hx hb hj iQu hown hJ.1 hJ.2.1 3 rfl rfl 8 (by decide) (jnw_use hN jnw_7) (fun _ h9 => h9) rfl dRu_go_7 ?_
  refine lv_istore_n (lv' := [(1, .int (F 0)), (0, .ref (A 1))]) hx hb dRu_go_10 rfl hl (by decide) rfl (fun ls hl => ?_)
  refine lv_aload_n hx hb dRu_go_11 rfl (lv_at hl 1 rfl) ?_
  refine va_get (D := (dC, dI)) (ci := 1) (v := .ref (A 2)) (C := RRu) (T := TRu) (N := 11) hx hb hj iRu hown hJ.1 hJ.2.1 1 rfl rfl 0 (by decide) (hj _ jw_141) (fun _ h9 => h9) rfl dRu_go_12 ?_
  obtain ⟨q1, hq1, h⟩ := jbi_h h
  refine jcallv (w' := fun B => jW cA A B q1.2.1 q1.2.2) (va_runV (As := []) (rest := []) ⟨hx, hb, hml, hown, hts⟩ (cPl_make l dC dI cA A M F B H.size hq1) (cwV 0 hts (jgoodV jw_513 jw_409 jw_410 jw_3 jw_411) rfl rfl rfl (by decide +kernel) ⟨Nat.le_of_ble_eq_true rfl, Nat.le_of_ble_eq_true rfl⟩) (jpreV hN hJ (ci := 2) (q0 := 2) rfl rfl) rfl rfl hl.1 rfl (lv_room (Nat.le_of_ble_eq_true rfl)) dRu_go_15 ⟨Nat.zero_le _, Nat.zero_le _⟩) hA hJ (fun B2 H locs hJ => ?_)
  refine lv_aload_n hx hb dRu_go_18 rfl (lv_at hl 1 rfl) ?_
  refine lv_iload_n hx hb dRu_go_19 rfl (lv_at hl 0 rfl) ?_
  obtain ⟨q3, hq3, h⟩ := jbi_h h
  refine jcallv (w' := fun B => jW cA A B q3.2.1 q3.2.2) (va_runV (As := [.int (F 0)]) (rest := []) ⟨hx, hb, hml, hown, hts⟩ (cRu_begin l dC dI cA A (F 0) q1.2.1 q1.2.2 B2 H.size hq3) (cwV 1 hts (jgoodV jw_514 jw_516 jws_10 jw_2 jw_517) rfl rfl rfl (by decide +kernel) ⟨Nat.le_of_ble_eq_true rfl, Nat.le_of_ble_eq_true rfl⟩) (jpreV hN hJ (ci := 1) (q0 := 1) rfl rfl) rfl rfl hl.1 rfl (lv_room (Nat.le_of_ble_eq_true rfl)) dRu_go_20 ⟨Nat.zero_le _, Nat.zero_le _⟩) hA hJ (fun B4 H locs hJ => ?_)
  refine lv_iconst (v := 0) hx hb dRu_go_23 (by decide) ?_
  refine lv_istore_n (lv' := [(2, .int 0), (1, .int (F 0)), (0, .ref (A 1))]) hx hb dRu_go_24 rfl hl (by decide) rfl (fun ls hl => ?_)
  refine lv_iconst (v := 0) hx hb dRu_go_25 (by decide) ?_
  refine lv_istore_n (lv' := [(3, .int 0), (2, .int 0), (1, .int (F 0)), (0, .ref (A 1))]) hx hb dRu_go_26 rfl hl (by decide) rfl (fun ls hl => ?_)
  exact uRu_go_27 l dC dI cA A Ap hC hA jfuel _ _ _ _ _ _ _ _ _ hJ (lv_sub hl [3, 2, 1, 0] rfl) h
set_option maxHeartbeats 4000000 in
set_option maxRecDepth 100000 in
theorem cRu_go (l : Launch) (dC : Nat → ClassId) (dI : Nat → Nat → Nat) (cA : ClassId) (A : Nat → Nat) (M : jM) (F : jF) (B : Nat → Nat) (sz : Nat) {r : Int32} {M' : jM} {F' : jF} (h : fRu_go M F = some (r, M', F')) : jCi l yRu_go wRu_go rRu_go (dC, dI) jCl [(cA, .int)] [.ref (A 1)] (jW cA A B M F) sz r (fun B => jW cA A B (M') (F')) :=
  jOf (Qc := fun Ap => va_Qi (fun q (_ : Nat → Nat) => q = r) (jPost (dC, dI) jCl [(cA, .int)] (fun B => jW cA A B (M') (F')) Ap) Ap) (by decide) rfl (Nat.le_of_ble_eq_true rfl) (fun p e s m below meth c Ap ls hC hA hJ hl => uRu_go_0 l dC dI cA A Ap hC hA _ _ _ _ _ _ hJ (lv_sub hl [0] rfl) h)
