abbrev bMo_thrown : ByteArray := prog_8_method_2_code
abbrev yMo_thrown : MethodName := ⟨RMo, "thrown", "()I"⟩
abbrev wMo_thrown : List Cond := .code yMo_thrown bMo_thrown 1 (some .int) :: jw
theorem dMo_thrown_0 : decode bMo_thrown 0 = .ok (.aload_n 0, 1) := by decide +kernel
theorem dMo_thrown_1 : decode bMo_thrown 1 = .ok (.getfield 56, 3) := by decide +kernel
theorem dMo_thrown_4 : decode bMo_thrown 4 = .ok (.ireturn, 1) := by decide +kernel
abbrev rMo_thrown : Room := { frames := 0, cells := 0, slots := 0, locals := 0 }
def fMo_thrown_0 (M : jM) (F : jF) (L : jL) : Option Int32 := some (F 0)
abbrev fMo_thrown (M : jM) (F : jF) (L : jL) : Option Int32 := fMo_thrown_0  M F L
set_option maxHeartbeats 4000000 in
set_option maxRecDepth 100000 in
theorem uMo_thrown_0 {p : Program} {e : Env} {s : State} {m : MethodId} {args : Array Value} {below : List Frame} {meth : Method} {c : Code} (l : Launch) (dC : Nat → ClassId) (dI : Nat → Nat → Nat) (cA cL : ClassId) (A : Nat → Nat) (Ap : Nat → Prop) (hC : jAt p s m args meth c bMo_thrown 1 (some .int) wMo_thrown RMo) (hA : ∀ q : Nat, s.heap.size ≤ q → Ap q) {r : Int32} : ∀ (M : jM) (F : jF) (L : jL) (B : Nat → Nat) (H : Heap) (locs : List Loc) (ls : Array Slot), jH (dC, dI) jCl [(cA, .int), (cL, .long)] (mW cA cL A M F L) Ap s H locs → lv_has ls 1 [(0, .ref (A 0))] → fMo_thrown_0 M F L = some r → W p l e (headSpec wMo_thrown rMo_thrown).room s m args below meth c H locs 0 0 (jQi below (dC, dI) jCl [(cA, .int), (cL, .long)] (fun _ : Nat → Nat => mW cA cL A M F L) Ap args s r) (F0 m 0 ls []) := by
  obtain ⟨hx, hb, hml, hr, hts, hown, hlocks, hN⟩ := id hC
  have hj : ∀ w ∈ jw, w.before args s = true := fun w h => hts w (List.mem_cons_of_mem _ h)
  intro  M F L B H locs ls hJ hl h
  unfold fMo_thrown_0 at h
  refine lv_aload_n hx hb dMo_thrown_0 rfl (lv_at hl 0 rfl) ?_
  refine mget_0 hx hb hj hown hJ (hj _ jw_599) dMo_thrown_1 ?_
  exact jreti (u := B) hx hb hr rfl hlocks hJ dMo_thrown_4 (Option.some.inj h)
set_option maxHeartbeats 4000000 in
set_option maxRecDepth 100000 in
theorem cMo_thrown (l : Launch) (dC : Nat → ClassId) (dI : Nat → Nat → Nat) (cA cL : ClassId) (A : Nat → Nat) (M : jM) (F : jF) (L : jL) (B : Nat → Nat) (sz : Nat) {r : Int32} (h : fMo_thrown M F L = some r) : jCi l yMo_thrown wMo_thrown rMo_thrown (dC, dI) jCl [(cA, .int), (cL, .long)] [.ref (A 0)] (mW cA cL A M F L) sz r (fun _ : Nat → Nat => mW cA cL A M F L) :=
  jOf (Qc := fun Ap => va_Qi (fun q (_ : Nat → Nat) => q = r) (jPost (dC, dI) jCl [(cA, .int), (cL, .long)] (fun _ : Nat → Nat => mW cA cL A M F L) Ap) Ap) (by decide) rfl (Nat.le_of_ble_eq_true rfl) (fun p e s m below meth c Ap ls hC hA hJ hl => uMo_thrown_0 l dC dI cA cL A Ap hC hA _ _ _ B _ _ _ hJ (lv_sub hl [0] rfl) h)
abbrev bMo_is : ByteArray := prog_8_method_3_code
abbrev yMo_is : MethodName := ⟨RMo, "is", "(III)Z"⟩
abbrev wMo_is : List Cond := .code yMo_is bMo_is 3 (some .boolean) :: jw
theorem dMo_is_0 : decode bMo_is 0 = .ok (.iload_n 0, 1) := by decide +kernel
theorem dMo_is_1 : decode bMo_is 1 = .ok (.iload_n 1, 1) := by decide +kernel
theorem dMo_is_2 : decode bMo_is 2 = .ok (.if_icmp .lt 12, 3) := by decide +kernel
theorem dMo_is_5 : decode bMo_is 5 = .ok (.iload_n 0, 1) := by decide +kernel
theorem dMo_is_6 : decode bMo_is 6 = .ok (.iload_n 2, 1) := by decide +kernel
theorem dMo_is_7 : decode bMo_is 7 = .ok (.if_icmp .gt 7, 3) := by decide +kernel
theorem dMo_is_10 : decode bMo_is 10 = .ok (.iconst 1, 1) := by decide +kernel
theorem dMo_is_11 : decode bMo_is 11 = .ok (.goto 4, 3) := by decide +kernel
theorem dMo_is_14 : decode bMo_is 14 = .ok (.iconst 0, 1) := by decide +kernel
theorem dMo_is_15 : decode bMo_is 15 = .ok (.ireturn, 1) := by decide +kernel
abbrev rMo_is : Room := { frames := 0, cells := 0, slots := 0, locals := 0 }
def fMo_is_0 (x0 : Int32) (x1 : Int32) (x2 : Int32) (M : jM) (F : jF) (L : jL) : Option Int32 := (if x0 < x1 then some 0 else (if x2 < x0 then some 0 else some 1))
abbrev fMo_is (x0 : Int32) (x1 : Int32) (x2 : Int32) (M : jM) (F : jF) (L : jL) : Option Int32 := fMo_is_0 x0 x1 x2 M F L
set_option maxHeartbeats 4000000 in
set_option maxRecDepth 100000 in
theorem uMo_is_0 {p : Program} {e : Env} {s : State} {m : MethodId} {args : Array Value} {below : List Frame} {meth : Method} {c : Code} (l : Launch) (dC : Nat → ClassId) (dI : Nat → Nat → Nat) (cA cL : ClassId) (A : Nat → Nat) (Ap : Nat → Prop) (hC : jAt p s m args meth c bMo_is 3 (some .boolean) wMo_is RMo) (hA : ∀ q : Nat, s.heap.size ≤ q → Ap q) {r : Int32} : ∀ (x0 : Int32) (x1 : Int32) (x2 : Int32) (M : jM) (F : jF) (L : jL) (B : Nat → Nat) (H : Heap) (locs : List Loc) (ls : Array Slot), jH (dC, dI) jCl [(cA, .int), (cL, .long)] (mW cA cL A M F L) Ap s H locs → lv_has ls 3 [(0, .int x0), (1, .int x1), (2, .int x2)] → fMo_is_0 x0 x1 x2 M F L = some r → W p l e (headSpec wMo_is rMo_is).room s m args below meth c H locs 0 0 (jQi below (dC, dI) jCl [(cA, .int), (cL, .long)] (fun _ : Nat → Nat => mW cA cL A M F L) Ap args s r) (F0 m 0 ls []) := by
  obtain ⟨hx, hb, hml, hr, hts, hown, hlocks, hN⟩ := id hC
  have hj : ∀ w ∈ jw, w.before args s = true := fun w h => hts w (List.mem_cons_of_mem _ h)
  intro x0 x1 x2 M F L B H locs ls hJ hl h
  unfold fMo_is_0 at h
  refine lv_iload_n hx hb dMo_is_0 rfl (lv_at hl 0 rfl) ?_
  refine lv_iload_n hx hb dMo_is_1 rfl (lv_at hl 1 rfl) ?_
  refine lv_icmp_lt (tgt := 14) hx hb dMo_is_2 (by decide) (fun c1 => ?_) (fun c1 => ?_)
  · replace h := jif_t c1 h
    refine lv_iconst (v := 0) hx hb dMo_is_14 (by decide) ?_
    exact jreti (u := B) hx hb hr rfl hlocks hJ dMo_is_15 (Option.some.inj h)
  · replace h := jif_f c1 h
    refine lv_iload_n hx hb dMo_is_5 rfl (lv_at hl 0 rfl) ?_
    refine lv_iload_n hx hb dMo_is_6 rfl (lv_at hl 2 rfl) ?_
    refine lv_icmp_gt (tgt := 14) hx hb dMo_is_7 (by decide) (fun c2 => ?_) (fun c2 => ?_)
    · replace h := jif_t c2 h
      refine lv_iconst (v := 0) hx hb dMo_is_14 (by decide) ?_
      exact jreti (u := B) hx hb hr rfl hlocks hJ dMo_is_15 (Option.some.inj h)
    · replace h := jif_f c2 h
      refine lv_iconst (v := 1) hx hb dMo_is_10 (by decide) ?_
      refine lv_goto (tgt := 15) hx hb dMo_is_11 (by decide) ?_
      exact jreti (u := B) hx hb hr rfl hlocks hJ dMo_is_15 (Option.some.inj h)
set_option maxHeartbeats 4000000 in
set_option maxRecDepth 100000 in
theorem cMo_is (l : Launch) (dC : Nat → ClassId) (dI : Nat → Nat → Nat) (cA cL : ClassId) (A : Nat → Nat) (x0 : Int32) (x1 : Int32) (x2 : Int32) (M : jM) (F : jF) (L : jL) (B : Nat → Nat) (sz : Nat) {r : Int32} (h : fMo_is x0 x1 x2 M F L = some r) : jCi l yMo_is wMo_is rMo_is (dC, dI) jCl [(cA, .int), (cL, .long)] [.int x0, .int x1, .int x2] (mW cA cL A M F L) sz r (fun _ : Nat → Nat => mW cA cL A M F L) :=
  jOf (Qc := fun Ap => va_Qi (fun q (_ : Nat → Nat) => q = r) (jPost (dC, dI) jCl [(cA, .int), (cL, .long)] (fun _ : Nat → Nat => mW cA cL A M F L) Ap) Ap) (by decide) rfl (Nat.le_of_ble_eq_true rfl) (fun p e s m below meth c Ap ls hC hA hJ hl => uMo_is_0 l dC dI cA cL A Ap hC hA _ _ _ _ _ _ B _ _ _ hJ (lv_sub hl [0, 1, 2] rfl) h)
abbrev bMo_table : ByteArray := prog_8_method_4_code
abbrev yMo_table : MethodName := ⟨RMo, "table", "(II)V"⟩
abbrev wMo_table : List Cond := .code yMo_table bMo_table 3 none :: jw
theorem dMo_table_0 : decode bMo_table 0 = .ok (.aload_n 0, 1) := by decide +kernel
theorem dMo_table_1 : decode bMo_table 1 = .ok (.iload_n 1, 1) := by decide +kernel
theorem dMo_table_2 : decode bMo_table 2 = .ok (.iconst 0, 1) := by decide +kernel
theorem dMo_table_3 : decode bMo_table 3 = .ok (.iconst 5, 1) := by decide +kernel
theorem dMo_table_4 : decode bMo_table 4 = .ok (.invokestatic 60, 3) := by decide +kernel
theorem dMo_table_7 : decode bMo_table 7 = .ok (.ifCond .eq 17, 3) := by decide +kernel
theorem dMo_table_10 : decode bMo_table 10 = .ok (.iload_n 2, 1) := by decide +kernel
theorem dMo_table_11 : decode bMo_table 11 = .ok (.iconst 0, 1) := by decide +kernel
theorem dMo_table_12 : decode bMo_table 12 = .ok (.bipush 15, 2) := by decide +kernel
theorem dMo_table_14 : decode bMo_table 14 = .ok (.invokestatic 60, 3) := by decide +kernel
theorem dMo_table_17 : decode bMo_table 17 = .ok (.ifCond .eq 7, 3) := by decide +kernel
theorem dMo_table_20 : decode bMo_table 20 = .ok (.iconst 0, 1) := by decide +kernel
theorem dMo_table_21 : decode bMo_table 21 = .ok (.goto 4, 3) := by decide +kernel
theorem dMo_table_24 : decode bMo_table 24 = .ok (.iconst 1, 1) := by decide +kernel
theorem dMo_table_25 : decode bMo_table 25 = .ok (.putfield 56, 3) := by decide +kernel
theorem dMo_table_28 : decode bMo_table 28 = .ok (.aload_n 0, 1) := by decide +kernel
theorem dMo_table_29 : decode bMo_table 29 = .ok (.getfield 56, 3) := by decide +kernel
theorem dMo_table_32 : decode bMo_table 32 = .ok (.ifCond .le 4, 3) := by decide +kernel
theorem dMo_table_35 : decode bMo_table 35 = .ok (.return_, 1) := by decide +kernel
theorem dMo_table_36 : decode bMo_table 36 = .ok (.aload_n 0, 1) := by decide +kernel
theorem dMo_table_37 : decode bMo_table 37 = .ok (.getfield 13, 3) := by decide +kernel
theorem dMo_table_40 : decode bMo_table 40 = .ok (.iload_n 1, 1) := by decide +kernel
theorem dMo_table_41 : decode bMo_table 41 = .ok (.iconst 0, 1) := by decide +kernel
theorem dMo_table_42 : decode bMo_table 42 = .ok (.iastore, 1) := by decide +kernel
theorem dMo_table_43 : decode bMo_table 43 = .ok (.aload_n 0, 1) := by decide +kernel
theorem dMo_table_44 : decode bMo_table 44 = .ok (.getfield 16, 3) := by decide +kernel
theorem dMo_table_47 : decode bMo_table 47 = .ok (.iload_n 1, 1) := by decide +kernel
theorem dMo_table_48 : decode bMo_table 48 = .ok (.iload_n 2, 1) := by decide +kernel
theorem dMo_table_49 : decode bMo_table 49 = .ok (.iastore, 1) := by decide +kernel
theorem dMo_table_50 : decode bMo_table 50 = .ok (.return_, 1) := by decide +kernel
abbrev rMo_table : Room := { frames := 1, cells := 0, slots := 0, locals := 22 }
def fMo_table_25 (x1 : Int32) (x2 : Int32) (s1 : Int32) (M : jM) (F : jF) (L : jL) : Option (Int32 × jM × jF × jL) := (if ((jfu F 0 s1) 0) ≤ 0 then (if jib x1 6 then (if jib x1 6 then some (0, jmu (jmu M 2 x1.toNatClampNeg 0) 3 x1.toNatClampNeg x2, jfu F 0 s1, L) else none) else none) else some (0, M, jfu F 0 s1, L))
def fMo_table_24 (x1 : Int32) (x2 : Int32) (M : jM) (F : jF) (L : jL) : Option (Int32 × jM × jF × jL) := fMo_table_25 x1 x2 1 M F L
def fMo_table_0 (x1 : Int32) (x2 : Int32) (M : jM) (F : jF) (L : jL) : Option (Int32 × jM × jF × jL) := ((fMo_is x1 0 5 M F L).bind fun q1 => (if q1 = 0 then fMo_table_24 x1 x2 M F L else ((fMo_is x2 0 15 M F L).bind fun q6 => (if q6 = 0 then fMo_table_24 x1 x2 M F L else fMo_table_25 x1 x2 0 M F L))))
abbrev fMo_table (x1 : Int32) (x2 : Int32) (M : jM) (F : jF) (L : jL) : Option (Int32 × jM × jF × jL) := fMo_table_0 x1 x2 M F L
set_option maxHeartbeats 4000000 in
set_option maxRecDepth 100000 in
theorem uMo_table_25 {p : Program} {e : Env} {s : State} {m : MethodId} {args : Array Value} {below : List Frame} {meth : Method} {c : Code} (l : Launch) (dC : Nat → ClassId) (dI : Nat → Nat → Nat) (cA cL : ClassId) (A : Nat → Nat) (Ap : Nat → Prop) (hC : jAt p s m args meth c bMo_table 3 none wMo_table RMo) (hA : ∀ q : Nat, s.heap.size ≤ q → Ap q) {r : Int32} {M' : jM} {F' : jF} {L' : jL} : ∀ (x1 : Int32) (x2 : Int32) (s1 : Int32) (M : jM) (F : jF) (L : jL) (B : Nat → Nat) (H : Heap) (locs : List Loc) (ls : Array Slot), jH (dC, dI) jCl [(cA, .int), (cL, .long)] (mW cA cL A M F L) Ap s H locs → lv_has ls 3 [(0, .ref (A 0)), (1, .int x1), (2, .int x2)] → fMo_table_25 x1 x2 s1 M F L = some (r, M', F', L') → W p l e (headSpec wMo_table rMo_table).room s m args below meth c H locs 0 0 (jQv below (dC, dI) jCl [(cA, .int), (cL, .long)] (fun _ : Nat → Nat => mW cA cL A (M') (F') (L')) Ap args s) (F0 m 25 ls [.int s1, .ref (A 0)]) := by
  obtain ⟨hx, hb, hml, hr, hts, hown, hlocks, hN⟩ := id hC
  have hj : ∀ w ∈ jw, w.before args s = true := fun w h => hts w (List.mem_cons_of_mem _ h)
  intro x1 x2 s1 M F L B H locs ls hJ hl h
  unfold fMo_table_25 at h
  refine mput_0 hx hb hj hown hJ (hj _ jw_599) dMo_table_25 (fun H locs hJ => ?_)
  refine lv_aload_n hx hb dMo_table_28 rfl (lv_at hl 0 rfl) ?_
  refine mget_0 hx hb hj hown hJ (hj _ jw_599) dMo_table_29 ?_
  refine lv_if_le (tgt := 36) hx hb dMo_table_32 (by decide) (fun c3 => ?_) (fun c3 => ?_)
  · replace h := jif_t c3 h
    refine lv_aload_n hx hb dMo_table_36 rfl (lv_at hl 0 rfl) ?_
    refine mget_2 hx hb hj hown hJ (hj _ jw_601) dMo_table_37 ?_
    refine lv_iload_n hx hb dMo_table_40 rfl (lv_at hl 1 rfl) ?_
    refine lv_iconst (v := 0) hx hb dMo_table_41 (by decide) ?_
    obtain ⟨hi4, h⟩ := jib_h h
    refine mast_2 hx hb hJ hi4 dMo_table_42 (fun H locs hJ => ?_)
    refine lv_aload_n hx hb dMo_table_43 rfl (lv_at hl 0 rfl) ?_
    refine mget_3 hx hb hj hown hJ (hj _ jw_602) dMo_table_44 ?_
    refine lv_iload_n hx hb dMo_table_47 rfl (lv_at hl 1 rfl) ?_
    refine lv_iload_n hx hb dMo_table_48 rfl (lv_at hl 2 rfl) ?_
    obtain ⟨hi5, h⟩ := jib_h h
    refine mast_3 hx hb hJ hi5 dMo_table_49 (fun H locs hJ => ?_)
    cases h
    exact jretv (u := B) hx hb hr hlocks hJ dMo_table_50
  · replace h := jif_f c3 h
    cases h
    exact jretv (u := B) hx hb hr hlocks hJ dMo_table_35
set_option maxHeartbeats 4000000 in
set_option maxRecDepth 100000 in
theorem uMo_table_24 {p : Program} {e : Env} {s : State} {m : MethodId} {args : Array Value} {below : List Frame} {meth : Method} {c : Code} (l : Launch) (dC : Nat → ClassId) (dI : Nat → Nat → Nat) (cA cL : ClassId) (A : Nat → Nat) (Ap : Nat → Prop) (hC : jAt p s m args meth c bMo_table 3 none wMo_table RMo) (hA : ∀ q : Nat, s.heap.size ≤ q → Ap q) {r : Int32} {M' : jM} {F' : jF} {L' : jL} : ∀ (x1 : Int32) (x2 : Int32) (M : jM) (F : jF) (L : jL) (B : Nat → Nat) (H : Heap) (locs : List Loc) (ls : Array Slot), jH (dC, dI) jCl [(cA, .int), (cL, .long)] (mW cA cL A M F L) Ap s H locs → lv_has ls 3 [(0, .ref (A 0)), (1, .int x1), (2, .int x2)] → fMo_table_24 x1 x2 M F L = some (r, M', F', L') → W p l e (headSpec wMo_table rMo_table).room s m args below meth c H locs 0 0 (jQv below (dC, dI) jCl [(cA, .int), (cL, .long)] (fun _ : Nat → Nat => mW cA cL A (M') (F') (L')) Ap args s) (F0 m 24 ls [.ref (A 0)]) := by
  obtain ⟨hx, hb, hml, hr, hts, hown, hlocks, hN⟩ := id hC
  have hj : ∀ w ∈ jw, w.before args s = true := fun w h => hts w (List.mem_cons_of_mem _ h)
  intro x1 x2 M F L B H locs ls hJ hl h
  unfold fMo_table_24 at h
  refine lv_iconst (v := 1) hx hb dMo_table_24 (by decide) ?_
  exact uMo_table_25 l dC dI cA cL A Ap hC hA _ _ _ _ _ _ B _ _ _ hJ (lv_sub hl [0, 1, 2] rfl) h
set_option maxHeartbeats 4000000 in
set_option maxRecDepth 100000 in
theorem uMo_table_0 {p : Program} {e : Env} {s : State} {m : MethodId} {args : Array Value} {below : List Frame} {meth : Method} {c : Code} (l : Launch) (dC : Nat → ClassId) (dI : Nat → Nat → Nat) (cA cL : ClassId) (A : Nat → Nat) (Ap : Nat → Prop) (hC : jAt p s m args meth c bMo_table 3 none wMo_table RMo) (hA : ∀ q : Nat, s.heap.size ≤ q → Ap q) {r : Int32} {M' : jM} {F' : jF} {L' : jL} : ∀ (x1 : Int32) (x2 : Int32) (M : jM) (F : jF) (L : jL) (B : Nat → Nat) (H : Heap) (locs : List Loc) (ls : Array Slot), jH (dC, dI) jCl [(cA, .int), (cL, .long)] (mW cA cL A M F L) Ap s H locs → lv_has ls 3 [(0, .ref (A 0)), (1, .int x1), (2, .int x2)] → fMo_table_0 x1 x2 M F L = some (r, M', F', L') → W p l e (headSpec wMo_table rMo_table).room s m args below meth c H locs 0 0 (jQv below (dC, dI) jCl [(cA, .int), (cL, .long)] (fun _ : Nat → Nat => mW cA cL A (M') (F') (L')) Ap args s) (F0 m 0 ls []) := by
  obtain ⟨hx, hb, hml, hr, hts, hown, hlocks, hN⟩ := id hC
  have hj : ∀ w ∈ jw, w.before args s = true := fun w h => hts w (List.mem_cons_of_mem _ h)
  intro x1 x2 M F L B H locs ls hJ hl h
  unfold fMo_table_0 at h
  refine lv_aload_n hx hb dMo_table_0 rfl (lv_at hl 0 rfl) ?_
  refine lv_iload_n hx hb dMo_table_1 rfl (lv_at hl 1 rfl) ?_
  refine lv_iconst (v := 0) hx hb dMo_table_2 (by decide) ?_
  refine lv_iconst (v := 5) hx hb dMo_table_3 (by decide) ?_
  obtain ⟨q1, hq1, h⟩ := jbi_h h
  refine jcalli (w' := fun _ : Nat → Nat => mW cA cL A M F L) (va_runS (As := [.int x1, .int 0, .int 5]) (rest := [.ref (A 0)]) ⟨hx, hb, hml, hown, hts⟩ (cMo_is l dC dI cA cL A x1 0 5 M F L B H.size hq1) (va_cwS 3 hts (jgoodS jw_672 jw_673 jw_7 jw_674) rfl rfl rfl (by decide +kernel) ⟨Nat.le_of_ble_eq_true rfl, Nat.le_of_ble_eq_true rfl⟩) (jpreS hN hJ) rfl rfl hl.1 rfl (lv_room (Nat.le_of_ble_eq_true rfl)) dMo_table_4 ⟨Nat.zero_le _, Nat.zero_le _⟩) hA hJ (fun B H locs hJ => ?_)
  refine lv_if_eq (tgt := 24) hx hb dMo_table_7 (by decide) (fun c2 => ?_) (fun c2 => ?_)
  · replace h := jif_t c2 h
    exact uMo_table_24 l dC dI cA cL A Ap hC hA _ _ _ _ _ B _ _ _ hJ (lv_sub hl [0, 1, 2] rfl) h
  · replace h := jif_f c2 h
    refine lv_iload_n hx hb dMo_table_10 rfl (lv_at hl 2 rfl) ?_
    refine lv_iconst (v := 0) hx hb dMo_table_11 (by decide) ?_
    refine lv_bipush (v := 15) hx hb dMo_table_12 (by decide) ?_
    obtain ⟨q6, hq6, h⟩ := jbi_h h
    refine jcalli (w' := fun _ : Nat → Nat => mW cA cL A M F L) (va_runS (As := [.int x2, .int 0, .int 15]) (rest := [.ref (A 0)]) ⟨hx, hb, hml, hown, hts⟩ (cMo_is l dC dI cA cL A x2 0 15 M F L B H.size hq6) (va_cwS 3 hts (jgoodS jw_672 jw_673 jw_7 jw_674) rfl rfl rfl (by decide +kernel) ⟨Nat.le_of_ble_eq_true rfl, Nat.le_of_ble_eq_true rfl⟩) (jpreS hN hJ) rfl rfl hl.1 rfl (lv_room (Nat.le_of_ble_eq_true rfl)) dMo_table_14 ⟨Nat.zero_le _, Nat.zero_le _⟩) hA hJ (fun B H locs hJ => ?_)
    refine lv_if_eq (tgt := 24) hx hb dMo_table_17 (by decide) (fun c7 => ?_) (fun c7 => ?_)
    · replace h := jif_t c7 h
      exact uMo_table_24 l dC dI cA cL A Ap hC hA _ _ _ _ _ B _ _ _ hJ (lv_sub hl [0, 1, 2] rfl) h
    · replace h := jif_f c7 h
      refine lv_iconst (v := 0) hx hb dMo_table_20 (by decide) ?_
      refine lv_goto (tgt := 25) hx hb dMo_table_21 (by decide) ?_
      exact uMo_table_25 l dC dI cA cL A Ap hC hA _ _ _ _ _ _ B _ _ _ hJ (lv_sub hl [0, 1, 2] rfl) h
set_option maxHeartbeats 4000000 in
set_option maxRecDepth 100000 in
theorem cMo_table (l : Launch) (dC : Nat → ClassId) (dI : Nat → Nat → Nat) (cA cL : ClassId) (A : Nat → Nat) (x1 : Int32) (x2 : Int32) (M : jM) (F : jF) (L : jL) (B : Nat → Nat) (sz : Nat) {r : Int32} {M' : jM} {F' : jF} {L' : jL} (h : fMo_table x1 x2 M F L = some (r, M', F', L')) : jCv l yMo_table wMo_table rMo_table (dC, dI) jCl [(cA, .int), (cL, .long)] [.ref (A 0), .int x1, .int x2] (mW cA cL A M F L) sz (fun _ : Nat → Nat => mW cA cL A (M') (F') (L')) :=
  jOf (Qc := fun Ap => va_Qv (fun _ : Nat → Nat => True) (jPost (dC, dI) jCl [(cA, .int), (cL, .long)] (fun _ : Nat → Nat => mW cA cL A (M') (F') (L')) Ap) Ap) (by decide) rfl (Nat.le_of_ble_eq_true rfl) (fun p e s m below meth c Ap ls hC hA hJ hl => uMo_table_0 l dC dI cA cL A Ap hC hA _ _ _ _ _ B _ _ _ hJ (lv_sub hl [0, 1, 2] rfl) h)
abbrev bMo_row : ByteArray := prog_8_method_5_code
abbrev yMo_row : MethodName := ⟨RMo, "row", "(IIIII)I"⟩
abbrev wMo_row : List Cond := .code yMo_row bMo_row 7 (some .int) :: jw
theorem dMo_row_0 : decode bMo_row 0 = .ok (.aload_n 0, 1) := by decide +kernel
theorem dMo_row_1 : decode bMo_row 1 = .ok (.iload_n 1, 1) := by decide +kernel
theorem dMo_row_2 : decode bMo_row 2 = .ok (.iconst 0, 1) := by decide +kernel
theorem dMo_row_3 : decode bMo_row 3 = .ok (.iconst 5, 1) := by decide +kernel
theorem dMo_row_4 : decode bMo_row 4 = .ok (.invokestatic 60, 3) := by decide +kernel
theorem dMo_row_7 : decode bMo_row 7 = .ok (.ifCond .ne 7, 3) := by decide +kernel
theorem dMo_row_10 : decode bMo_row 10 = .ok (.iconst 1, 1) := by decide +kernel
theorem dMo_row_11 : decode bMo_row 11 = .ok (.goto 19, 3) := by decide +kernel
theorem dMo_row_14 : decode bMo_row 14 = .ok (.aload_n 0, 1) := by decide +kernel
theorem dMo_row_15 : decode bMo_row 15 = .ok (.getfield 13, 3) := by decide +kernel
theorem dMo_row_18 : decode bMo_row 18 = .ok (.iload_n 1, 1) := by decide +kernel
theorem dMo_row_19 : decode bMo_row 19 = .ok (.iaload, 1) := by decide +kernel
theorem dMo_row_20 : decode bMo_row 20 = .ok (.bipush 30, 2) := by decide +kernel
theorem dMo_row_22 : decode bMo_row 22 = .ok (.if_icmp .ne 7, 3) := by decide +kernel
theorem dMo_row_25 : decode bMo_row 25 = .ok (.iconst 2, 1) := by decide +kernel
theorem dMo_row_26 : decode bMo_row 26 = .ok (.goto 4, 3) := by decide +kernel
theorem dMo_row_29 : decode bMo_row 29 = .ok (.iconst 0, 1) := by decide +kernel
theorem dMo_row_30 : decode bMo_row 30 = .ok (.putfield 56, 3) := by decide +kernel
theorem dMo_row_33 : decode bMo_row 33 = .ok (.aload_n 0, 1) := by decide +kernel
theorem dMo_row_34 : decode bMo_row 34 = .ok (.getfield 56, 3) := by decide +kernel
theorem dMo_row_37 : decode bMo_row 37 = .ok (.ifCond .le 5, 3) := by decide +kernel
theorem dMo_row_40 : decode bMo_row 40 = .ok (.iconst 0, 1) := by decide +kernel
theorem dMo_row_41 : decode bMo_row 41 = .ok (.ireturn, 1) := by decide +kernel
theorem dMo_row_42 : decode bMo_row 42 = .ok (.iconst 4, 1) := by decide +kernel
theorem dMo_row_43 : decode bMo_row 43 = .ok (.bipush 30, 2) := by decide +kernel
theorem dMo_row_45 : decode bMo_row 45 = .ok (.iload_n 1, 1) := by decide +kernel
theorem dMo_row_46 : decode bMo_row 46 = .ok (.imul, 1) := by decide +kernel
theorem dMo_row_47 : decode bMo_row 47 = .ok (.aload_n 0, 1) := by decide +kernel
theorem dMo_row_48 : decode bMo_row 48 = .ok (.getfield 13, 3) := by decide +kernel
theorem dMo_row_51 : decode bMo_row 51 = .ok (.iload_n 1, 1) := by decide +kernel
theorem dMo_row_52 : decode bMo_row 52 = .ok (.iaload, 1) := by decide +kernel
theorem dMo_row_53 : decode bMo_row 53 = .ok (.iadd, 1) := by decide +kernel
theorem dMo_row_54 : decode bMo_row 54 = .ok (.imul, 1) := by decide +kernel
theorem dMo_row_55 : decode bMo_row 55 = .ok (.istore 6, 2) := by decide +kernel
theorem dMo_row_57 : decode bMo_row 57 = .ok (.aload_n 0, 1) := by decide +kernel
theorem dMo_row_58 : decode bMo_row 58 = .ok (.getfield 7, 3) := by decide +kernel
theorem dMo_row_61 : decode bMo_row 61 = .ok (.iload 6, 2) := by decide +kernel
theorem dMo_row_63 : decode bMo_row 63 = .ok (.iload_n 2, 1) := by decide +kernel
theorem dMo_row_64 : decode bMo_row 64 = .ok (.iastore, 1) := by decide +kernel
theorem dMo_row_65 : decode bMo_row 65 = .ok (.aload_n 0, 1) := by decide +kernel
theorem dMo_row_66 : decode bMo_row 66 = .ok (.getfield 7, 3) := by decide +kernel
theorem dMo_row_69 : decode bMo_row 69 = .ok (.iload 6, 2) := by decide +kernel
theorem dMo_row_71 : decode bMo_row 71 = .ok (.iconst 1, 1) := by decide +kernel
theorem dMo_row_72 : decode bMo_row 72 = .ok (.iadd, 1) := by decide +kernel
theorem dMo_row_73 : decode bMo_row 73 = .ok (.iload_n 3, 1) := by decide +kernel
theorem dMo_row_74 : decode bMo_row 74 = .ok (.iastore, 1) := by decide +kernel
theorem dMo_row_75 : decode bMo_row 75 = .ok (.aload_n 0, 1) := by decide +kernel
theorem dMo_row_76 : decode bMo_row 76 = .ok (.getfield 7, 3) := by decide +kernel
theorem dMo_row_79 : decode bMo_row 79 = .ok (.iload 6, 2) := by decide +kernel
theorem dMo_row_81 : decode bMo_row 81 = .ok (.iconst 2, 1) := by decide +kernel
theorem dMo_row_82 : decode bMo_row 82 = .ok (.iadd, 1) := by decide +kernel
theorem dMo_row_83 : decode bMo_row 83 = .ok (.iload 4, 2) := by decide +kernel
theorem dMo_row_85 : decode bMo_row 85 = .ok (.iastore, 1) := by decide +kernel
theorem dMo_row_86 : decode bMo_row 86 = .ok (.aload_n 0, 1) := by decide +kernel
theorem dMo_row_87 : decode bMo_row 87 = .ok (.getfield 7, 3) := by decide +kernel
theorem dMo_row_90 : decode bMo_row 90 = .ok (.iload 6, 2) := by decide +kernel
theorem dMo_row_92 : decode bMo_row 92 = .ok (.iconst 3, 1) := by decide +kernel
theorem dMo_row_93 : decode bMo_row 93 = .ok (.iadd, 1) := by decide +kernel
theorem dMo_row_94 : decode bMo_row 94 = .ok (.iload 5, 2) := by decide +kernel
theorem dMo_row_96 : decode bMo_row 96 = .ok (.iastore, 1) := by decide +kernel
theorem dMo_row_97 : decode bMo_row 97 = .ok (.aload_n 0, 1) := by decide +kernel
theorem dMo_row_98 : decode bMo_row 98 = .ok (.getfield 13, 3) := by decide +kernel
theorem dMo_row_101 : decode bMo_row 101 = .ok (.iload_n 1, 1) := by decide +kernel
theorem dMo_row_102 : decode bMo_row 102 = .ok (.dup2, 1) := by decide +kernel
theorem dMo_row_103 : decode bMo_row 103 = .ok (.iaload, 1) := by decide +kernel
theorem dMo_row_104 : decode bMo_row 104 = .ok (.iconst 1, 1) := by decide +kernel
theorem dMo_row_105 : decode bMo_row 105 = .ok (.iadd, 1) := by decide +kernel
theorem dMo_row_106 : decode bMo_row 106 = .ok (.iastore, 1) := by decide +kernel
theorem dMo_row_107 : decode bMo_row 107 = .ok (.aload_n 0, 1) := by decide +kernel
theorem dMo_row_108 : decode bMo_row 108 = .ok (.getfield 13, 3) := by decide +kernel
theorem dMo_row_111 : decode bMo_row 111 = .ok (.iload_n 1, 1) := by decide +kernel
theorem dMo_row_112 : decode bMo_row 112 = .ok (.iaload, 1) := by decide +kernel
theorem dMo_row_113 : decode bMo_row 113 = .ok (.iconst 1, 1) := by decide +kernel
theorem dMo_row_114 : decode bMo_row 114 = .ok (.isub, 1) := by decide +kernel
theorem dMo_row_115 : decode bMo_row 115 = .ok (.ireturn, 1) := by decide +kernel
abbrev rMo_row : Room := { frames := 1, cells := 0, slots := 0, locals := 22 }
def fMo_row_30 (x1 : Int32) (x2 : Int32) (x3 : Int32) (x4 : Int32) (x5 : Int32) (s1 : Int32) (M : jM) (F : jF) (L : jL) : Option (Int32 × jM × jF × jL) := (if ((jfu F 0 s1) 0) ≤ 0 then (if jib x1 6 then (if jib (4 * ((30 * x1) + (M 2 x1.toNatClampNeg))) 720 then (if jib ((4 * ((30 * x1) + (M 2 x1.toNatClampNeg))) + 1) 720 then (if jib ((4 * ((30 * x1) + (M 2 x1.toNatClampNeg))) + 2) 720 then (if jib ((4 * ((30 * x1) + (M 2 x1.toNatClampNeg))) + 3) 720 then (if jib x1 6 then (if jib x1 6 then (if jib x1 6 then some (((jmu (jmu (jmu (jmu (jmu M 1 (4 * ((30 * x1) + (M 2 x1.toNatClampNeg))).toNatClampNeg x2) 1 ((4 * ((30 * x1) + (M 2 x1.toNatClampNeg))) + 1).toNatClampNeg x3) 1 ((4 * ((30 * x1) + (M 2 x1.toNatClampNeg))) + 2).toNatClampNeg x4) 1 ((4 * ((30 * x1) + (M 2 x1.toNatClampNeg))) + 3).toNatClampNeg x5) 2 x1.toNatClampNeg (((jmu (jmu (jmu (jmu M 1 (4 * ((30 * x1) + (M 2 x1.toNatClampNeg))).toNatClampNeg x2) 1 ((4 * ((30 * x1) + (M 2 x1.toNatClampNeg))) + 1).toNatClampNeg x3) 1 ((4 * ((30 * x1) + (M 2 x1.toNatClampNeg))) + 2).toNatClampNeg x4) 1 ((4 * ((30 * x1) + (M 2 x1.toNatClampNeg))) + 3).toNatClampNeg x5) 2 x1.toNatClampNeg) + 1)) 2 x1.toNatClampNeg) - 1, jmu (jmu (jmu (jmu (jmu M 1 (4 * ((30 * x1) + (M 2 x1.toNatClampNeg))).toNatClampNeg x2) 1 ((4 * ((30 * x1) + (M 2 x1.toNatClampNeg))) + 1).toNatClampNeg x3) 1 ((4 * ((30 * x1) + (M 2 x1.toNatClampNeg))) + 2).toNatClampNeg x4) 1 ((4 * ((30 * x1) + (M 2 x1.toNatClampNeg))) + 3).toNatClampNeg x5) 2 x1.toNatClampNeg (((jmu (jmu (jmu (jmu M 1 (4 * ((30 * x1) + (M 2 x1.toNatClampNeg))).toNatClampNeg x2) 1 ((4 * ((30 * x1) + (M 2 x1.toNatClampNeg))) + 1).toNatClampNeg x3) 1 ((4 * ((30 * x1) + (M 2 x1.toNatClampNeg))) + 2).toNatClampNeg x4) 1 ((4 * ((30 * x1) + (M 2 x1.toNatClampNeg))) + 3).toNatClampNeg x5) 2 x1.toNatClampNeg) + 1), jfu F 0 s1, L) else none) else none) else none) else none) else none) else none) else none) else none) else some (0, M, jfu F 0 s1, L))
def fMo_row_0 (x1 : Int32) (x2 : Int32) (x3 : Int32) (x4 : Int32) (x5 : Int32) (M : jM) (F : jF) (L : jL) : Option (Int32 × jM × jF × jL) := ((fMo_is x1 0 5 M F L).bind fun q1 => (if q1 = 0 then fMo_row_30 x1 x2 x3 x4 x5 1 M F L else (if jib x1 6 then (if (M 2 x1.toNatClampNeg) = 30 then fMo_row_30 x1 x2 x3 x4 x5 2 M F L else fMo_row_30 x1 x2 x3 x4 x5 0 M F L) else none)))
abbrev fMo_row (x1 : Int32) (x2 : Int32) (x3 : Int32) (x4 : Int32) (x5 : Int32) (M : jM) (F : jF) (L : jL) : Option (Int32 × jM × jF × jL) := fMo_row_0 x1 x2 x3 x4 x5 M F L
set_option maxHeartbeats 4000000 in
set_option maxRecDepth 100000 in
theorem uMo_row_30 {p : Program} {e : Env} {s : State} {m : MethodId} {args : Array Value} {below : List Frame} {meth : Method} {c : Code} (l : Launch) (dC : Nat → ClassId) (dI : Nat → Nat → Nat) (cA cL : ClassId) (A : Nat → Nat) (Ap : Nat → Prop) (hC : jAt p s m args meth c bMo_row 7 (some .int) wMo_row RMo) (hA : ∀ q : Nat, s.heap.size ≤ q → Ap q) {r : Int32} {M' : jM} {F' : jF} {L' : jL} : ∀ (x1 : Int32) (x2 : Int32) (x3 : Int32) (x4 : Int32) (x5 : Int32) (s1 : Int32) (M : jM) (F : jF) (L : jL) (B : Nat → Nat) (H : Heap) (locs : List Loc) (ls : Array Slot), jH (dC, dI) jCl [(cA, .int), (cL, .long)] (mW cA cL A M F L) Ap s H locs → lv_has ls 7 [(0, .ref (A 0)), (1, .int x1), (2, .int x2), (3, .int x3), (4, .int x4), (5, .int x5)] → fMo_row_30 x1 x2 x3 x4 x5 s1 M F L = some (r, M', F', L') → W p l e (headSpec wMo_row rMo_row).room s m args below meth c H locs 0 0 (jQi below (dC, dI) jCl [(cA, .int), (cL, .long)] (fun _ : Nat → Nat => mW cA cL A (M') (F') (L')) Ap args s r) (F0 m 30 ls [.int s1, .ref (A 0)]) := by
  obtain ⟨hx, hb, hml, hr, hts, hown, hlocks, hN⟩ := id hC
  have hj : ∀ w ∈ jw, w.before args s = true := fun w h => hts w (List.mem_cons_of_mem _ h)
  intro x1 x2 x3 x4 x5 s1 M F L B H locs ls hJ hl h
  unfold fMo_row_30 at h
  refine mput_0 hx hb hj hown hJ (hj _ jw_599) dMo_row_30 (fun H locs hJ => ?_)
  refine lv_aload_n hx hb dMo_row_33 rfl (lv_at hl 0 rfl) ?_
  refine mget_0 hx hb hj hown hJ (hj _ jw_599) dMo_row_34 ?_
  refine lv_if_le (tgt := 42) hx hb dMo_row_37 (by decide) (fun c5 => ?_) (fun c5 => ?_)
  · replace h := jif_t c5 h
    refine lv_iconst (v := 4) hx hb dMo_row_42 (by decide) ?_
    refine lv_bipush (v := 30) hx hb dMo_row_43 (by decide) ?_
    refine lv_iload_n hx hb dMo_row_45 rfl (lv_at hl 1 rfl) ?_
    refine lv_imul hx hb dMo_row_46 ?_
    refine lv_aload_n hx hb dMo_row_47 rfl (lv_at hl 0 rfl) ?_
    refine mget_2 hx hb hj hown hJ (hj _ jw_601) dMo_row_48 ?_
    refine lv_iload_n hx hb dMo_row_51 rfl (lv_at hl 1 rfl) ?_
    obtain ⟨hi6, h⟩ := jib_h h
    refine mald_2 hx hb hJ hi6 dMo_row_52 ?_
    refine lv_iadd hx hb dMo_row_53 ?_
    refine lv_imul hx hb dMo_row_54 ?_
    refine lv_istore (lv' := [(6, .int (4 * ((30 * x1) + (M 2 x1.toNatClampNeg)))), (0, .ref (A 0)), (1, .int x1), (2, .int x2), (3, .int x3), (4, .int x4), (5, .int x5)]) hx hb dMo_row_55 hl (by decide) rfl (fun ls hl => ?_)
    refine lv_aload_n hx hb dMo_row_57 rfl (lv_at hl 1 rfl) ?_
    refine mget_1 hx hb hj hown hJ (hj _ jw_600) dMo_row_58 ?_
    refine lv_iload hx hb dMo_row_61 (lv_at hl 0 rfl) ?_
    refine lv_iload_n hx hb dMo_row_63 rfl (lv_at hl 3 rfl) ?_
    obtain ⟨hi7, h⟩ := jib_h h
    refine mast_1 hx hb hJ hi7 dMo_row_64 (fun H locs hJ => ?_)
    refine lv_aload_n hx hb dMo_row_65 rfl (lv_at hl 1 rfl) ?_
    refine mget_1 hx hb hj hown hJ (hj _ jw_600) dMo_row_66 ?_
    refine lv_iload hx hb dMo_row_69 (lv_at hl 0 rfl) ?_
    refine lv_iconst (v := 1) hx hb dMo_row_71 (by decide) ?_
    refine lv_iadd hx hb dMo_row_72 ?_
    refine lv_iload_n hx hb dMo_row_73 rfl (lv_at hl 4 rfl) ?_
    obtain ⟨hi8, h⟩ := jib_h h
    refine mast_1 hx hb hJ hi8 dMo_row_74 (fun H locs hJ => ?_)
    refine lv_aload_n hx hb dMo_row_75 rfl (lv_at hl 1 rfl) ?_
    refine mget_1 hx hb hj hown hJ (hj _ jw_600) dMo_row_76 ?_
    refine lv_iload hx hb dMo_row_79 (lv_at hl 0 rfl) ?_
    refine lv_iconst (v := 2) hx hb dMo_row_81 (by decide) ?_
    refine lv_iadd hx hb dMo_row_82 ?_
    refine lv_iload hx hb dMo_row_83 (lv_at hl 5 rfl) ?_
    obtain ⟨hi9, h⟩ := jib_h h
    refine mast_1 hx hb hJ hi9 dMo_row_85 (fun H locs hJ => ?_)
    refine lv_aload_n hx hb dMo_row_86 rfl (lv_at hl 1 rfl) ?_
    refine mget_1 hx hb hj hown hJ (hj _ jw_600) dMo_row_87 ?_
    refine lv_iload hx hb dMo_row_90 (lv_at hl 0 rfl) ?_
    refine lv_iconst (v := 3) hx hb dMo_row_92 (by decide) ?_
    refine lv_iadd hx hb dMo_row_93 ?_
    refine lv_iload hx hb dMo_row_94 (lv_at hl 6 rfl) ?_
    obtain ⟨hi10, h⟩ := jib_h h
    refine mast_1 hx hb hJ hi10 dMo_row_96 (fun H locs hJ => ?_)
    refine lv_aload_n hx hb dMo_row_97 rfl (lv_at hl 1 rfl) ?_
    refine mget_2 hx hb hj hown hJ (hj _ jw_601) dMo_row_98 ?_
    refine lv_iload_n hx hb dMo_row_101 rfl (lv_at hl 2 rfl) ?_
    refine lv_dup2_11 hx hb dMo_row_102 rfl rfl ?_
    obtain ⟨hi11, h⟩ := jib_h h
    refine mald_2 hx hb hJ hi11 dMo_row_103 ?_
    refine lv_iconst (v := 1) hx hb dMo_row_104 (by decide) ?_
    refine lv_iadd hx hb dMo_row_105 ?_
    obtain ⟨hi12, h⟩ := jib_h h
    refine mast_2 hx hb hJ hi12 dMo_row_106 (fun H locs hJ => ?_)
    refine lv_aload_n hx hb dMo_row_107 rfl (lv_at hl 1 rfl) ?_
    refine mget_2 hx hb hj hown hJ (hj _ jw_601) dMo_row_108 ?_
    refine lv_iload_n hx hb dMo_row_111 rfl (lv_at hl 2 rfl) ?_
    obtain ⟨hi13, h⟩ := jib_h h
    refine mald_2 hx hb hJ hi13 dMo_row_112 ?_
    refine lv_iconst (v := 1) hx hb dMo_row_113 (by decide) ?_
    refine lv_isub hx hb dMo_row_114 ?_
    cases h
    exact jreti (u := B) hx hb hr rfl hlocks hJ dMo_row_115 rfl
  · replace h := jif_f c5 h
    refine lv_iconst (v := 0) hx hb dMo_row_40 (by decide) ?_
    cases h
    exact jreti (u := B) hx hb hr rfl hlocks hJ dMo_row_41 rfl
set_option maxHeartbeats 4000000 in
set_option maxRecDepth 100000 in
theorem uMo_row_0 {p : Program} {e : Env} {s : State} {m : MethodId} {args : Array Value} {below : List Frame} {meth : Method} {c : Code} (l : Launch) (dC : Nat → ClassId) (dI : Nat → Nat → Nat) (cA cL : ClassId) (A : Nat → Nat) (Ap : Nat → Prop) (hC : jAt p s m args meth c bMo_row 7 (some .int) wMo_row RMo) (hA : ∀ q : Nat, s.heap.size ≤ q → Ap q) {r : Int32} {M' : jM} {F' : jF} {L' : jL} : ∀ (x1 : Int32) (x2 : Int32) (x3 : Int32) (x4 : Int32) (x5 : Int32) (M : jM) (F : jF) (L : jL) (B : Nat → Nat) (H : Heap) (locs : List Loc) (ls : Array Slot), jH (dC, dI) jCl [(cA, .int), (cL, .long)] (mW cA cL A M F L) Ap s H locs → lv_has ls 7 [(0, .ref (A 0)), (1, .int x1), (2, .int x2), (3, .int x3), (4, .int x4), (5, .int x5)] → fMo_row_0 x1 x2 x3 x4 x5 M F L = some (r, M', F', L') → W p l e (headSpec wMo_row rMo_row).room s m args below meth c H locs 0 0 (jQi below (dC, dI) jCl [(cA, .int), (cL, .long)] (fun _ : Nat → Nat => mW cA cL A (M') (F') (L')) Ap args s r) (F0 m 0 ls []) := by
  obtain ⟨hx, hb, hml, hr, hts, hown, hlocks, hN⟩ := id hC
  have hj : ∀ w ∈ jw, w.before args s = true := fun w h => hts w (List.mem_cons_of_mem _ h)
  intro x1 x2 x3 x4 x5 M F L B H locs ls hJ hl h
  unfold fMo_row_0 at h
  refine lv_aload_n hx hb dMo_row_0 rfl (lv_at hl 0 rfl) ?_
  refine lv_iload_n hx hb dMo_row_1 rfl (lv_at hl 1 rfl) ?_
  refine lv_iconst (v := 0) hx hb dMo_row_2 (by decide) ?_
  refine lv_iconst (v := 5) hx hb dMo_row_3 (by decide) ?_
  obtain ⟨q1, hq1, h⟩ := jbi_h h
  refine jcalli (w' := fun _ : Nat → Nat => mW cA cL A M F L) (va_runS (As := [.int x1, .int 0, .int 5]) (rest := [.ref (A 0)]) ⟨hx, hb, hml, hown, hts⟩ (cMo_is l dC dI cA cL A x1 0 5 M F L B H.size hq1) (va_cwS 3 hts (jgoodS jw_672 jw_673 jw_7 jw_674) rfl rfl rfl (by decide +kernel) ⟨Nat.le_of_ble_eq_true rfl, Nat.le_of_ble_eq_true rfl⟩) (jpreS hN hJ) rfl rfl hl.1 rfl (lv_room (Nat.le_of_ble_eq_true rfl)) dMo_row_4 ⟨Nat.zero_le _, Nat.zero_le _⟩) hA hJ (fun B H locs hJ => ?_)
  refine lv_if_ne (tgt := 14) hx hb dMo_row_7 (by decide) (fun c2 => ?_) (fun c2 => ?_)
  · replace h := jif_f c2 h
    refine lv_aload_n hx hb dMo_row_14 rfl (lv_at hl 0 rfl) ?_
    refine mget_2 hx hb hj hown hJ (hj _ jw_601) dMo_row_15 ?_
    refine lv_iload_n hx hb dMo_row_18 rfl (lv_at hl 1 rfl) ?_
    obtain ⟨hi3, h⟩ := jib_h h
    refine mald_2 hx hb hJ hi3 dMo_row_19 ?_
    refine lv_bipush (v := 30) hx hb dMo_row_20 (by decide) ?_
    refine lv_icmp_ne (tgt := 29) hx hb dMo_row_22 (by decide) (fun c4 => ?_) (fun c4 => ?_)
    · replace h := jif_f c4 h
      refine lv_iconst (v := 0) hx hb dMo_row_29 (by decide) ?_
      exact uMo_row_30 l dC dI cA cL A Ap hC hA _ _ _ _ _ _ _ _ _ B _ _ _ hJ (lv_sub hl [0, 1, 2, 3, 4, 5] rfl) h
    · replace h := jif_t c4 h
      refine lv_iconst (v := 2) hx hb dMo_row_25 (by decide) ?_
      refine lv_goto (tgt := 30) hx hb dMo_row_26 (by decide) ?_
      exact uMo_row_30 l dC dI cA cL A Ap hC hA _ _ _ _ _ _ _ _ _ B _ _ _ hJ (lv_sub hl [0, 1, 2, 3, 4, 5] rfl) h
  · replace h := jif_t c2 h
    refine lv_iconst (v := 1) hx hb dMo_row_10 (by decide) ?_
    refine lv_goto (tgt := 30) hx hb dMo_row_11 (by decide) ?_
    exact uMo_row_30 l dC dI cA cL A Ap hC hA _ _ _ _ _ _ _ _ _ B _ _ _ hJ (lv_sub hl [0, 1, 2, 3, 4, 5] rfl) h
set_option maxHeartbeats 4000000 in
set_option maxRecDepth 100000 in
theorem cMo_row (l : Launch) (dC : Nat → ClassId) (dI : Nat → Nat → Nat) (cA cL : ClassId) (A : Nat → Nat) (x1 : Int32) (x2 : Int32) (x3 : Int32) (x4 : Int32) (x5 : Int32) (M : jM) (F : jF) (L : jL) (B : Nat → Nat) (sz : Nat) {r : Int32} {M' : jM} {F' : jF} {L' : jL} (h : fMo_row x1 x2 x3 x4 x5 M F L = some (r, M', F', L')) : jCi l yMo_row wMo_row rMo_row (dC, dI) jCl [(cA, .int), (cL, .long)] [.ref (A 0), .int x1, .int x2, .int x3, .int x4, .int x5] (mW cA cL A M F L) sz r (fun _ : Nat → Nat => mW cA cL A (M') (F') (L')) :=
  jOf (Qc := fun Ap => va_Qi (fun q (_ : Nat → Nat) => q = r) (jPost (dC, dI) jCl [(cA, .int), (cL, .long)] (fun _ : Nat → Nat => mW cA cL A (M') (F') (L')) Ap) Ap) (by decide) rfl (Nat.le_of_ble_eq_true rfl) (fun p e s m below meth c Ap ls hC hA hJ hl => uMo_row_0 l dC dI cA cL A Ap hC hA _ _ _ _ _ _ _ _ B _ _ _ hJ (lv_sub hl [0, 1, 2, 3, 4, 5] rfl) h)
abbrev bMo_clear : ByteArray := prog_8_method_6_code
abbrev yMo_clear : MethodName := ⟨RMo, "clear", "()V"⟩
abbrev wMo_clear : List Cond := .code yMo_clear bMo_clear 1 none :: jw
theorem dMo_clear_0 : decode bMo_clear 0 = .ok (.aload_n 0, 1) := by decide +kernel
theorem dMo_clear_1 : decode bMo_clear 1 = .ok (.iconst 0, 1) := by decide +kernel
theorem dMo_clear_2 : decode bMo_clear 2 = .ok (.putfield 56, 3) := by decide +kernel
theorem dMo_clear_5 : decode bMo_clear 5 = .ok (.aload_n 0, 1) := by decide +kernel
theorem dMo_clear_6 : decode bMo_clear 6 = .ok (.iconst 0, 1) := by decide +kernel
theorem dMo_clear_7 : decode bMo_clear 7 = .ok (.putfield 64, 3) := by decide +kernel
theorem dMo_clear_10 : decode bMo_clear 10 = .ok (.aload_n 0, 1) := by decide +kernel
theorem dMo_clear_11 : decode bMo_clear 11 = .ok (.iconst 0, 1) := by decide +kernel
theorem dMo_clear_12 : decode bMo_clear 12 = .ok (.putfield 67, 3) := by decide +kernel
theorem dMo_clear_15 : decode bMo_clear 15 = .ok (.return_, 1) := by decide +kernel
abbrev rMo_clear : Room := { frames := 0, cells := 0, slots := 0, locals := 0 }
def fMo_clear_0 (M : jM) (F : jF) (L : jL) : Option (Int32 × jM × jF × jL) := some (0, M, jfu (jfu (jfu F 0 0) 1 0) 2 0, L)
abbrev fMo_clear (M : jM) (F : jF) (L : jL) : Option (Int32 × jM × jF × jL) := fMo_clear_0  M F L
set_option maxHeartbeats 4000000 in
set_option maxRecDepth 100000 in
theorem uMo_clear_0 {p : Program} {e : Env} {s : State} {m : MethodId} {args : Array Value} {below : List Frame} {meth : Method} {c : Code} (l : Launch) (dC : Nat → ClassId) (dI : Nat → Nat → Nat) (cA cL : ClassId) (A : Nat → Nat) (Ap : Nat → Prop) (hC : jAt p s m args meth c bMo_clear 1 none wMo_clear RMo) (hA : ∀ q : Nat, s.heap.size ≤ q → Ap q) {r : Int32} {M' : jM} {F' : jF} {L' : jL} : ∀ (M : jM) (F : jF) (L : jL) (B : Nat → Nat) (H : Heap) (locs : List Loc) (ls : Array Slot), jH (dC, dI) jCl [(cA, .int), (cL, .long)] (mW cA cL A M F L) Ap s H locs → lv_has ls 1 [(0, .ref (A 0))] → fMo_clear_0 M F L = some (r, M', F', L') → W p l e (headSpec wMo_clear rMo_clear).room s m args below meth c H locs 0 0 (jQv below (dC, dI) jCl [(cA, .int), (cL, .long)] (fun _ : Nat → Nat => mW cA cL A (M') (F') (L')) Ap args s) (F0 m 0 ls []) := by
  obtain ⟨hx, hb, hml, hr, hts, hown, hlocks, hN⟩ := id hC
  have hj : ∀ w ∈ jw, w.before args s = true := fun w h => hts w (List.mem_cons_of_mem _ h)
  intro  M F L B H locs ls hJ hl h
  unfold fMo_clear_0 at h
  refine lv_aload_n hx hb dMo_clear_0 rfl (lv_at hl 0 rfl) ?_
  refine lv_iconst (v := 0) hx hb dMo_clear_1 (by decide) ?_
  refine mput_0 hx hb hj hown hJ (hj _ jw_599) dMo_clear_2 (fun H locs hJ => ?_)
  refine lv_aload_n hx hb dMo_clear_5 rfl (lv_at hl 0 rfl) ?_
  refine lv_iconst (v := 0) hx hb dMo_clear_6 (by decide) ?_
  refine mput_4 hx hb hj hown hJ (hj _ jw_603) dMo_clear_7 (fun H locs hJ => ?_)
  refine lv_aload_n hx hb dMo_clear_10 rfl (lv_at hl 0 rfl) ?_
  refine lv_iconst (v := 0) hx hb dMo_clear_11 (by decide) ?_
  refine mput_6 hx hb hj hown hJ (hj _ jw_605) dMo_clear_12 (fun H locs hJ => ?_)
  cases h
  exact jretv (u := B) hx hb hr hlocks hJ dMo_clear_15
set_option maxHeartbeats 4000000 in
set_option maxRecDepth 100000 in
theorem cMo_clear (l : Launch) (dC : Nat → ClassId) (dI : Nat → Nat → Nat) (cA cL : ClassId) (A : Nat → Nat) (M : jM) (F : jF) (L : jL) (B : Nat → Nat) (sz : Nat) {r : Int32} {M' : jM} {F' : jF} {L' : jL} (h : fMo_clear M F L = some (r, M', F', L')) : jCv l yMo_clear wMo_clear rMo_clear (dC, dI) jCl [(cA, .int), (cL, .long)] [.ref (A 0)] (mW cA cL A M F L) sz (fun _ : Nat → Nat => mW cA cL A (M') (F') (L')) :=
  jOf (Qc := fun Ap => va_Qv (fun _ : Nat → Nat => True) (jPost (dC, dI) jCl [(cA, .int), (cL, .long)] (fun _ : Nat → Nat => mW cA cL A (M') (F') (L')) Ap) Ap) (by decide) rfl (Nat.le_of_ble_eq_true rfl) (fun p e s m below meth c Ap ls hC hA hJ hl => uMo_clear_0 l dC dI cA cL A Ap hC hA _ _ _ B _ _ _ hJ (lv_sub hl [0] rfl) h)
abbrev bMo_generator : ByteArray := prog_8_method_7_code
abbrev yMo_generator : MethodName := ⟨RMo, "generator", "(I)I"⟩
abbrev wMo_generator : List Cond := .code yMo_generator bMo_generator 2 (some .int) :: jw
theorem dMo_generator_0 : decode bMo_generator 0 = .ok (.aload_n 0, 1) := by decide +kernel
theorem dMo_generator_1 : decode bMo_generator 1 = .ok (.iload_n 1, 1) := by decide +kernel
theorem dMo_generator_2 : decode bMo_generator 2 = .ok (.iconst 0, 1) := by decide +kernel
theorem dMo_generator_3 : decode bMo_generator 3 = .ok (.iconst 5, 1) := by decide +kernel
theorem dMo_generator_4 : decode bMo_generator 4 = .ok (.invokestatic 60, 3) := by decide +kernel
theorem dMo_generator_7 : decode bMo_generator 7 = .ok (.ifCond .ne 7, 3) := by decide +kernel
theorem dMo_generator_10 : decode bMo_generator 10 = .ok (.iconst 1, 1) := by decide +kernel
theorem dMo_generator_11 : decode bMo_generator 11 = .ok (.goto 17, 3) := by decide +kernel
theorem dMo_generator_14 : decode bMo_generator 14 = .ok (.aload_n 0, 1) := by decide +kernel
theorem dMo_generator_15 : decode bMo_generator 15 = .ok (.getfield 64, 3) := by decide +kernel
theorem dMo_generator_18 : decode bMo_generator 18 = .ok (.bipush 6, 2) := by decide +kernel
theorem dMo_generator_20 : decode bMo_generator 20 = .ok (.if_icmp .ne 7, 3) := by decide +kernel
theorem dMo_generator_23 : decode bMo_generator 23 = .ok (.iconst 2, 1) := by decide +kernel
theorem dMo_generator_24 : decode bMo_generator 24 = .ok (.goto 4, 3) := by decide +kernel
theorem dMo_generator_27 : decode bMo_generator 27 = .ok (.iconst 0, 1) := by decide +kernel
theorem dMo_generator_28 : decode bMo_generator 28 = .ok (.putfield 56, 3) := by decide +kernel
theorem dMo_generator_31 : decode bMo_generator 31 = .ok (.aload_n 0, 1) := by decide +kernel
theorem dMo_generator_32 : decode bMo_generator 32 = .ok (.getfield 56, 3) := by decide +kernel
theorem dMo_generator_35 : decode bMo_generator 35 = .ok (.ifCond .le 5, 3) := by decide +kernel
theorem dMo_generator_38 : decode bMo_generator 38 = .ok (.iconst 0, 1) := by decide +kernel
theorem dMo_generator_39 : decode bMo_generator 39 = .ok (.ireturn, 1) := by decide +kernel
theorem dMo_generator_40 : decode bMo_generator 40 = .ok (.aload_n 0, 1) := by decide +kernel
theorem dMo_generator_41 : decode bMo_generator 41 = .ok (.getfield 19, 3) := by decide +kernel
theorem dMo_generator_44 : decode bMo_generator 44 = .ok (.aload_n 0, 1) := by decide +kernel
theorem dMo_generator_45 : decode bMo_generator 45 = .ok (.getfield 64, 3) := by decide +kernel
theorem dMo_generator_48 : decode bMo_generator 48 = .ok (.iload_n 1, 1) := by decide +kernel
theorem dMo_generator_49 : decode bMo_generator 49 = .ok (.iastore, 1) := by decide +kernel
theorem dMo_generator_50 : decode bMo_generator 50 = .ok (.aload_n 0, 1) := by decide +kernel
theorem dMo_generator_51 : decode bMo_generator 51 = .ok (.dup, 1) := by decide +kernel
theorem dMo_generator_52 : decode bMo_generator 52 = .ok (.getfield 64, 3) := by decide +kernel
theorem dMo_generator_55 : decode bMo_generator 55 = .ok (.iconst 1, 1) := by decide +kernel
theorem dMo_generator_56 : decode bMo_generator 56 = .ok (.iadd, 1) := by decide +kernel
theorem dMo_generator_57 : decode bMo_generator 57 = .ok (.putfield 64, 3) := by decide +kernel
theorem dMo_generator_60 : decode bMo_generator 60 = .ok (.aload_n 0, 1) := by decide +kernel
theorem dMo_generator_61 : decode bMo_generator 61 = .ok (.getfield 64, 3) := by decide +kernel
theorem dMo_generator_64 : decode bMo_generator 64 = .ok (.iconst 1, 1) := by decide +kernel
theorem dMo_generator_65 : decode bMo_generator 65 = .ok (.isub, 1) := by decide +kernel
theorem dMo_generator_66 : decode bMo_generator 66 = .ok (.ireturn, 1) := by decide +kernel
abbrev rMo_generator : Room := { frames := 1, cells := 0, slots := 0, locals := 22 }
def fMo_generator_28 (x1 : Int32) (s1 : Int32) (M : jM) (F : jF) (L : jL) : Option (Int32 × jM × jF × jL) := (if ((jfu F 0 s1) 0) ≤ 0 then (if jib ((jfu F 0 s1) 1) 6 then some (((jfu (jfu F 0 s1) 1 (((jfu F 0 s1) 1) + 1)) 1) - 1, jmu M 4 ((jfu F 0 s1) 1).toNatClampNeg x1, jfu (jfu F 0 s1) 1 (((jfu F 0 s1) 1) + 1), L) else none) else some (0, M, jfu F 0 s1, L))
def fMo_generator_0 (x1 : Int32) (M : jM) (F : jF) (L : jL) : Option (Int32 × jM × jF × jL) := ((fMo_is x1 0 5 M F L).bind fun q1 => (if q1 = 0 then fMo_generator_28 x1 1 M F L else (if (F 1) = 6 then fMo_generator_28 x1 2 M F L else fMo_generator_28 x1 0 M F L)))
abbrev fMo_generator (x1 : Int32) (M : jM) (F : jF) (L : jL) : Option (Int32 × jM × jF × jL) := fMo_generator_0 x1 M F L
set_option maxHeartbeats 4000000 in
set_option maxRecDepth 100000 in
theorem uMo_generator_28 {p : Program} {e : Env} {s : State} {m : MethodId} {args : Array Value} {below : List Frame} {meth : Method} {c : Code} (l : Launch) (dC : Nat → ClassId) (dI : Nat → Nat → Nat) (cA cL : ClassId) (A : Nat → Nat) (Ap : Nat → Prop) (hC : jAt p s m args meth c bMo_generator 2 (some .int) wMo_generator RMo) (hA : ∀ q : Nat, s.heap.size ≤ q → Ap q) {r : Int32} {M' : jM} {F' : jF} {L' : jL} : ∀ (x1 : Int32) (s1 : Int32) (M : jM) (F : jF) (L : jL) (B : Nat → Nat) (H : Heap) (locs : List Loc) (ls : Array Slot), jH (dC, dI) jCl [(cA, .int), (cL, .long)] (mW cA cL A M F L) Ap s H locs → lv_has ls 2 [(0, .ref (A 0)), (1, .int x1)] → fMo_generator_28 x1 s1 M F L = some (r, M', F', L') → W p l e (headSpec wMo_generator rMo_generator).room s m args below meth c H locs 0 0 (jQi below (dC, dI) jCl [(cA, .int), (cL, .long)] (fun _ : Nat → Nat => mW cA cL A (M') (F') (L')) Ap args s r) (F0 m 28 ls [.int s1, .ref (A 0)]) := by
  obtain ⟨hx, hb, hml, hr, hts, hown, hlocks, hN⟩ := id hC
  have hj : ∀ w ∈ jw, w.before args s = true := fun w h => hts w (List.mem_cons_of_mem _ h)
  intro x1 s1 M F L B H locs ls hJ hl h
  unfold fMo_generator_28 at h
  refine mput_0 hx hb hj hown hJ (hj _ jw_599) dMo_generator_28 (fun H locs hJ => ?_)
  refine lv_aload_n hx hb dMo_generator_31 rfl (lv_at hl 0 rfl) ?_
  refine mget_0 hx hb hj hown hJ (hj _ jw_599) dMo_generator_32 ?_
  refine lv_if_le (tgt := 40) hx hb dMo_generator_35 (by decide) (fun c4 => ?_) (fun c4 => ?_)
  · replace h := jif_t c4 h
    refine lv_aload_n hx hb dMo_generator_40 rfl (lv_at hl 0 rfl) ?_
    refine mget_5 hx hb hj hown hJ (hj _ jw_604) dMo_generator_41 ?_
    refine lv_aload_n hx hb dMo_generator_44 rfl (lv_at hl 0 rfl) ?_
    refine mget_4 hx hb hj hown hJ (hj _ jw_603) dMo_generator_45 ?_
    refine lv_iload_n hx hb dMo_generator_48 rfl (lv_at hl 1 rfl) ?_
    obtain ⟨hi5, h⟩ := jib_h h
    refine mast_4 hx hb hJ hi5 dMo_generator_49 (fun H locs hJ => ?_)
    refine lv_aload_n hx hb dMo_generator_50 rfl (lv_at hl 0 rfl) ?_
    refine lv_dup hx hb dMo_generator_51 rfl ?_
    refine mget_4 hx hb hj hown hJ (hj _ jw_603) dMo_generator_52 ?_
    refine lv_iconst (v := 1) hx hb dMo_generator_55 (by decide) ?_
    refine lv_iadd hx hb dMo_generator_56 ?_
    refine mput_4 hx hb hj hown hJ (hj _ jw_603) dMo_generator_57 (fun H locs hJ => ?_)
    refine lv_aload_n hx hb dMo_generator_60 rfl (lv_at hl 0 rfl) ?_
    refine mget_4 hx hb hj hown hJ (hj _ jw_603) dMo_generator_61 ?_
    refine lv_iconst (v := 1) hx hb dMo_generator_64 (by decide) ?_
    refine lv_isub hx hb dMo_generator_65 ?_
    cases h
    exact jreti (u := B) hx hb hr rfl hlocks hJ dMo_generator_66 rfl
  · replace h := jif_f c4 h
    refine lv_iconst (v := 0) hx hb dMo_generator_38 (by decide) ?_
    cases h
    exact jreti (u := B) hx hb hr rfl hlocks hJ dMo_generator_39 rfl
set_option maxHeartbeats 4000000 in
set_option maxRecDepth 100000 in
theorem uMo_generator_0 {p : Program} {e : Env} {s : State} {m : MethodId} {args : Array Value} {below : List Frame} {meth : Method} {c : Code} (l : Launch) (dC : Nat → ClassId) (dI : Nat → Nat → Nat) (cA cL : ClassId) (A : Nat → Nat) (Ap : Nat → Prop) (hC : jAt p s m args meth c bMo_generator 2 (some .int) wMo_generator RMo) (hA : ∀ q : Nat, s.heap.size ≤ q → Ap q) {r : Int32} {M' : jM} {F' : jF} {L' : jL} : ∀ (x1 : Int32) (M : jM) (F : jF) (L : jL) (B : Nat → Nat) (H : Heap) (locs : List Loc) (ls : Array Slot), jH (dC, dI) jCl [(cA, .int), (cL, .long)] (mW cA cL A M F L) Ap s H locs → lv_has ls 2 [(0, .ref (A 0)), (1, .int x1)] → fMo_generator_0 x1 M F L = some (r, M', F', L') → W p l e (headSpec wMo_generator rMo_generator).room s m args below meth c H locs 0 0 (jQi below (dC, dI) jCl [(cA, .int), (cL, .long)] (fun _ : Nat → Nat => mW cA cL A (M') (F') (L')) Ap args s r) (F0 m 0 ls []) := by
  obtain ⟨hx, hb, hml, hr, hts, hown, hlocks, hN⟩ := id hC
  have hj : ∀ w ∈ jw, w.before args s = true := fun w h => hts w (List.mem_cons_of_mem _ h)
  intro x1 M F L B H locs ls hJ hl h
  unfold fMo_generator_0 at h
  refine lv_aload_n hx hb dMo_generator_0 rfl (lv_at hl 0 rfl) ?_
  refine lv_iload_n hx hb dMo_generator_1 rfl (lv_at hl 1 rfl) ?_
  refine lv_iconst (v := 0) hx hb dMo_generator_2 (by decide) ?_
  refine lv_iconst (v := 5) hx hb dMo_generator_3 (by decide) ?_
  obtain ⟨q1, hq1, h⟩ := jbi_h h
  refine jcalli (w' := fun _ : Nat → Nat => mW cA cL A M F L) (va_runS (As := [.int x1, .int 0, .int 5]) (rest := [.ref (A 0)]) ⟨hx, hb, hml, hown, hts⟩ (cMo_is l dC dI cA cL A x1 0 5 M F L B H.size hq1) (va_cwS 3 hts (jgoodS jw_672 jw_673 jw_7 jw_674) rfl rfl rfl (by decide +kernel) ⟨Nat.le_of_ble_eq_true rfl, Nat.le_of_ble_eq_true rfl⟩) (jpreS hN hJ) rfl rfl hl.1 rfl (lv_room (Nat.le_of_ble_eq_true rfl)) dMo_generator_4 ⟨Nat.zero_le _, Nat.zero_le _⟩) hA hJ (fun B H locs hJ => ?_)
  refine lv_if_ne (tgt := 14) hx hb dMo_generator_7 (by decide) (fun c2 => ?_) (fun c2 => ?_)
  · replace h := jif_f c2 h
    refine lv_aload_n hx hb dMo_generator_14 rfl (lv_at hl 0 rfl) ?_
    refine mget_4 hx hb hj hown hJ (hj _ jw_603) dMo_generator_15 ?_
    refine lv_bipush (v := 6) hx hb dMo_generator_18 (by decide) ?_
    refine lv_icmp_ne (tgt := 27) hx hb dMo_generator_20 (by decide) (fun c3 => ?_) (fun c3 => ?_)
    · replace h := jif_f c3 h
      refine lv_iconst (v := 0) hx hb dMo_generator_27 (by decide) ?_
      exact uMo_generator_28 l dC dI cA cL A Ap hC hA _ _ _ _ _ B _ _ _ hJ (lv_sub hl [0, 1] rfl) h
    · replace h := jif_t c3 h
      refine lv_iconst (v := 2) hx hb dMo_generator_23 (by decide) ?_
      refine lv_goto (tgt := 28) hx hb dMo_generator_24 (by decide) ?_
      exact uMo_generator_28 l dC dI cA cL A Ap hC hA _ _ _ _ _ B _ _ _ hJ (lv_sub hl [0, 1] rfl) h
  · replace h := jif_t c2 h
    refine lv_iconst (v := 1) hx hb dMo_generator_10 (by decide) ?_
    refine lv_goto (tgt := 28) hx hb dMo_generator_11 (by decide) ?_
    exact uMo_generator_28 l dC dI cA cL A Ap hC hA _ _ _ _ _ B _ _ _ hJ (lv_sub hl [0, 1] rfl) h
set_option maxHeartbeats 4000000 in
set_option maxRecDepth 100000 in
theorem cMo_generator (l : Launch) (dC : Nat → ClassId) (dI : Nat → Nat → Nat) (cA cL : ClassId) (A : Nat → Nat) (x1 : Int32) (M : jM) (F : jF) (L : jL) (B : Nat → Nat) (sz : Nat) {r : Int32} {M' : jM} {F' : jF} {L' : jL} (h : fMo_generator x1 M F L = some (r, M', F', L')) : jCi l yMo_generator wMo_generator rMo_generator (dC, dI) jCl [(cA, .int), (cL, .long)] [.ref (A 0), .int x1] (mW cA cL A M F L) sz r (fun _ : Nat → Nat => mW cA cL A (M') (F') (L')) :=
  jOf (Qc := fun Ap => va_Qi (fun q (_ : Nat → Nat) => q = r) (jPost (dC, dI) jCl [(cA, .int), (cL, .long)] (fun _ : Nat → Nat => mW cA cL A (M') (F') (L')) Ap) Ap) (by decide) rfl (Nat.le_of_ble_eq_true rfl) (fun p e s m below meth c Ap ls hC hA hJ hl => uMo_generator_0 l dC dI cA cL A Ap hC hA _ _ _ _ B _ _ _ hJ (lv_sub hl [0, 1] rfl) h)
abbrev bMo_isColumn : ByteArray := prog_8_method_8_code
abbrev yMo_isColumn : MethodName := ⟨RMo, "isColumn", "(II)Z"⟩
abbrev wMo_isColumn : List Cond := .code yMo_isColumn bMo_isColumn 3 (some .boolean) :: jw
theorem dMo_isColumn_0 : decode bMo_isColumn 0 = .ok (.iload_n 1, 1) := by decide +kernel
theorem dMo_isColumn_1 : decode bMo_isColumn 1 = .ok (.iconst 0, 1) := by decide +kernel
theorem dMo_isColumn_2 : decode bMo_isColumn 2 = .ok (.aload_n 0, 1) := by decide +kernel
theorem dMo_isColumn_3 : decode bMo_isColumn 3 = .ok (.getfield 64, 3) := by decide +kernel
theorem dMo_isColumn_6 : decode bMo_isColumn 6 = .ok (.iconst 1, 1) := by decide +kernel
theorem dMo_isColumn_7 : decode bMo_isColumn 7 = .ok (.isub, 1) := by decide +kernel
theorem dMo_isColumn_8 : decode bMo_isColumn 8 = .ok (.invokestatic 60, 3) := by decide +kernel
theorem dMo_isColumn_11 : decode bMo_isColumn 11 = .ok (.ifCond .eq 16, 3) := by decide +kernel
theorem dMo_isColumn_14 : decode bMo_isColumn 14 = .ok (.iload_n 2, 1) := by decide +kernel
theorem dMo_isColumn_15 : decode bMo_isColumn 15 = .ok (.iconst 0, 1) := by decide +kernel
theorem dMo_isColumn_16 : decode bMo_isColumn 16 = .ok (.iconst 3, 1) := by decide +kernel
theorem dMo_isColumn_17 : decode bMo_isColumn 17 = .ok (.invokestatic 60, 3) := by decide +kernel
theorem dMo_isColumn_20 : decode bMo_isColumn 20 = .ok (.ifCond .eq 7, 3) := by decide +kernel
theorem dMo_isColumn_23 : decode bMo_isColumn 23 = .ok (.iconst 1, 1) := by decide +kernel
theorem dMo_isColumn_24 : decode bMo_isColumn 24 = .ok (.goto 4, 3) := by decide +kernel
theorem dMo_isColumn_27 : decode bMo_isColumn 27 = .ok (.iconst 0, 1) := by decide +kernel
theorem dMo_isColumn_28 : decode bMo_isColumn 28 = .ok (.ireturn, 1) := by decide +kernel
abbrev rMo_isColumn : Room := { frames := 1, cells := 0, slots := 0, locals := 22 }
def fMo_isColumn_0 (x1 : Int32) (x2 : Int32) (M : jM) (F : jF) (L : jL) : Option Int32 := ((fMo_is x1 0 ((F 1) - 1) M F L).bind fun q1 => (if q1 = 0 then some 0 else ((fMo_is x2 0 3 M F L).bind fun q3 => (if q3 = 0 then some 0 else some 1))))
abbrev fMo_isColumn (x1 : Int32) (x2 : Int32) (M : jM) (F : jF) (L : jL) : Option Int32 := fMo_isColumn_0 x1 x2 M F L
set_option maxHeartbeats 4000000 in
set_option maxRecDepth 100000 in
theorem uMo_isColumn_0 {p : Program} {e : Env} {s : State} {m : MethodId} {args : Array Value} {below : List Frame} {meth : Method} {c : Code} (l : Launch) (dC : Nat → ClassId) (dI : Nat → Nat → Nat) (cA cL : ClassId) (A : Nat → Nat) (Ap : Nat → Prop) (hC : jAt p s m args meth c bMo_isColumn 3 (some .boolean) wMo_isColumn RMo) (hA : ∀ q : Nat, s.heap.size ≤ q → Ap q) {r : Int32} : ∀ (x1 : Int32) (x2 : Int32) (M : jM) (F : jF) (L : jL) (B : Nat → Nat) (H : Heap) (locs : List Loc) (ls : Array Slot), jH (dC, dI) jCl [(cA, .int), (cL, .long)] (mW cA cL A M F L) Ap s H locs → lv_has ls 3 [(0, .ref (A 0)), (1, .int x1), (2, .int x2)] → fMo_isColumn_0 x1 x2 M F L = some r → W p l e (headSpec wMo_isColumn rMo_isColumn).room s m args below meth c H locs 0 0 (jQi below (dC, dI) jCl [(cA, .int), (cL, .long)] (fun _ : Nat → Nat => mW cA cL A M F L) Ap args s r) (F0 m 0 ls []) := by
  obtain ⟨hx, hb, hml, hr, hts, hown, hlocks, hN⟩ := id hC
  have hj : ∀ w ∈ jw, w.before args s = true := fun w h => hts w (List.mem_cons_of_mem _ h)
  intro x1 x2 M F L B H locs ls hJ hl h
  unfold fMo_isColumn_0 at h
  refine lv_iload_n hx hb dMo_isColumn_0 rfl (lv_at hl 1 rfl) ?_
  refine lv_iconst (v := 0) hx hb dMo_isColumn_1 (by decide) ?_
  refine lv_aload_n hx hb dMo_isColumn_2 rfl (lv_at hl 0 rfl) ?_
  refine mget_4 hx hb hj hown hJ (hj _ jw_603) dMo_isColumn_3 ?_
  refine lv_iconst (v := 1) hx hb dMo_isColumn_6 (by decide) ?_
  refine lv_isub hx hb dMo_isColumn_7 ?_
  obtain ⟨q1, hq1, h⟩ := jbi_h h
  refine jcalli (w' := fun _ : Nat → Nat => mW cA cL A M F L) (va_runS (As := [.int x1, .int 0, .int ((F 1) - 1)]) (rest := []) ⟨hx, hb, hml, hown, hts⟩ (cMo_is l dC dI cA cL A x1 0 ((F 1) - 1) M F L B H.size hq1) (va_cwS 3 hts (jgoodS jw_672 jw_673 jw_7 jw_674) rfl rfl rfl (by decide +kernel) ⟨Nat.le_of_ble_eq_true rfl, Nat.le_of_ble_eq_true rfl⟩) (jpreS hN hJ) rfl rfl hl.1 rfl (lv_room (Nat.le_of_ble_eq_true rfl)) dMo_isColumn_8 ⟨Nat.zero_le _, Nat.zero_le _⟩) hA hJ (fun B H locs hJ => ?_)
  refine lv_if_eq (tgt := 27) hx hb dMo_isColumn_11 (by decide) (fun c2 => ?_) (fun c2 => ?_)
  · replace h := jif_t c2 h
    refine lv_iconst (v := 0) hx hb dMo_isColumn_27 (by decide) ?_
    exact jreti (u := B) hx hb hr rfl hlocks hJ dMo_isColumn_28 (Option.some.inj h)
  · replace h := jif_f c2 h
    refine lv_iload_n hx hb dMo_isColumn_14 rfl (lv_at hl 2 rfl) ?_
    refine lv_iconst (v := 0) hx hb dMo_isColumn_15 (by decide) ?_
    refine lv_iconst (v := 3) hx hb dMo_isColumn_16 (by decide) ?_
    obtain ⟨q3, hq3, h⟩ := jbi_h h
    refine jcalli (w' := fun _ : Nat → Nat => mW cA cL A M F L) (va_runS (As := [.int x2, .int 0, .int 3]) (rest := []) ⟨hx, hb, hml, hown, hts⟩ (cMo_is l dC dI cA cL A x2 0 3 M F L B H.size hq3) (va_cwS 3 hts (jgoodS jw_672 jw_673 jw_7 jw_674) rfl rfl rfl (by decide +kernel) ⟨Nat.le_of_ble_eq_true rfl, Nat.le_of_ble_eq_true rfl⟩) (jpreS hN hJ) rfl rfl hl.1 rfl (lv_room (Nat.le_of_ble_eq_true rfl)) dMo_isColumn_17 ⟨Nat.zero_le _, Nat.zero_le _⟩) hA hJ (fun B H locs hJ => ?_)
    refine lv_if_eq (tgt := 27) hx hb dMo_isColumn_20 (by decide) (fun c4 => ?_) (fun c4 => ?_)
    · replace h := jif_t c4 h
      refine lv_iconst (v := 0) hx hb dMo_isColumn_27 (by decide) ?_
      exact jreti (u := B) hx hb hr rfl hlocks hJ dMo_isColumn_28 (Option.some.inj h)
    · replace h := jif_f c4 h
      refine lv_iconst (v := 1) hx hb dMo_isColumn_23 (by decide) ?_
      refine lv_goto (tgt := 28) hx hb dMo_isColumn_24 (by decide) ?_
      exact jreti (u := B) hx hb hr rfl hlocks hJ dMo_isColumn_28 (Option.some.inj h)
set_option maxHeartbeats 4000000 in
set_option maxRecDepth 100000 in
theorem cMo_isColumn (l : Launch) (dC : Nat → ClassId) (dI : Nat → Nat → Nat) (cA cL : ClassId) (A : Nat → Nat) (x1 : Int32) (x2 : Int32) (M : jM) (F : jF) (L : jL) (B : Nat → Nat) (sz : Nat) {r : Int32} (h : fMo_isColumn x1 x2 M F L = some r) : jCi l yMo_isColumn wMo_isColumn rMo_isColumn (dC, dI) jCl [(cA, .int), (cL, .long)] [.ref (A 0), .int x1, .int x2] (mW cA cL A M F L) sz r (fun _ : Nat → Nat => mW cA cL A M F L) :=
  jOf (Qc := fun Ap => va_Qi (fun q (_ : Nat → Nat) => q = r) (jPost (dC, dI) jCl [(cA, .int), (cL, .long)] (fun _ : Nat → Nat => mW cA cL A M F L) Ap) Ap) (by decide) rfl (Nat.le_of_ble_eq_true rfl) (fun p e s m below meth c Ap ls hC hA hJ hl => uMo_isColumn_0 l dC dI cA cL A Ap hC hA _ _ _ _ _ B _ _ _ hJ (lv_sub hl [0, 1, 2] rfl) h)
abbrev bMo_condition : ByteArray := prog_8_method_9_code
abbrev yMo_condition : MethodName := ⟨RMo, "condition", "(IIIIIZ)I"⟩
abbrev wMo_condition : List Cond := .code yMo_condition bMo_condition 7 (some .int) :: jw
theorem dMo_condition_0 : decode bMo_condition 0 = .ok (.aload_n 0, 1) := by decide +kernel
theorem dMo_condition_1 : decode bMo_condition 1 = .ok (.iload 6, 2) := by decide +kernel
theorem dMo_condition_3 : decode bMo_condition 3 = .ok (.ifCond .ne 7, 3) := by decide +kernel
theorem dMo_condition_6 : decode bMo_condition 6 = .ok (.iconst 1, 1) := by decide +kernel
theorem dMo_condition_7 : decode bMo_condition 7 = .ok (.goto 17, 3) := by decide +kernel
theorem dMo_condition_10 : decode bMo_condition 10 = .ok (.aload_n 0, 1) := by decide +kernel
theorem dMo_condition_11 : decode bMo_condition 11 = .ok (.getfield 67, 3) := by decide +kernel
theorem dMo_condition_14 : decode bMo_condition 14 = .ok (.bipush 12, 2) := by decide +kernel
theorem dMo_condition_16 : decode bMo_condition 16 = .ok (.if_icmp .ne 7, 3) := by decide +kernel
theorem dMo_condition_19 : decode bMo_condition 19 = .ok (.iconst 2, 1) := by decide +kernel
theorem dMo_condition_20 : decode bMo_condition 20 = .ok (.goto 4, 3) := by decide +kernel
theorem dMo_condition_23 : decode bMo_condition 23 = .ok (.iconst 0, 1) := by decide +kernel
theorem dMo_condition_24 : decode bMo_condition 24 = .ok (.putfield 56, 3) := by decide +kernel
theorem dMo_condition_27 : decode bMo_condition 27 = .ok (.aload_n 0, 1) := by decide +kernel
theorem dMo_condition_28 : decode bMo_condition 28 = .ok (.getfield 56, 3) := by decide +kernel
theorem dMo_condition_31 : decode bMo_condition 31 = .ok (.ifCond .le 5, 3) := by decide +kernel
theorem dMo_condition_34 : decode bMo_condition 34 = .ok (.iconst 0, 1) := by decide +kernel
theorem dMo_condition_35 : decode bMo_condition 35 = .ok (.ireturn, 1) := by decide +kernel
theorem dMo_condition_36 : decode bMo_condition 36 = .ok (.aload_n 0, 1) := by decide +kernel
theorem dMo_condition_37 : decode bMo_condition 37 = .ok (.getfield 22, 3) := by decide +kernel
theorem dMo_condition_40 : decode bMo_condition 40 = .ok (.aload_n 0, 1) := by decide +kernel
theorem dMo_condition_41 : decode bMo_condition 41 = .ok (.getfield 67, 3) := by decide +kernel
theorem dMo_condition_44 : decode bMo_condition 44 = .ok (.iload_n 1, 1) := by decide +kernel
theorem dMo_condition_45 : decode bMo_condition 45 = .ok (.iastore, 1) := by decide +kernel
theorem dMo_condition_46 : decode bMo_condition 46 = .ok (.aload_n 0, 1) := by decide +kernel
theorem dMo_condition_47 : decode bMo_condition 47 = .ok (.getfield 25, 3) := by decide +kernel
theorem dMo_condition_50 : decode bMo_condition 50 = .ok (.aload_n 0, 1) := by decide +kernel
theorem dMo_condition_51 : decode bMo_condition 51 = .ok (.getfield 67, 3) := by decide +kernel
theorem dMo_condition_54 : decode bMo_condition 54 = .ok (.iload_n 2, 1) := by decide +kernel
theorem dMo_condition_55 : decode bMo_condition 55 = .ok (.iastore, 1) := by decide +kernel
theorem dMo_condition_56 : decode bMo_condition 56 = .ok (.aload_n 0, 1) := by decide +kernel
theorem dMo_condition_57 : decode bMo_condition 57 = .ok (.getfield 28, 3) := by decide +kernel
theorem dMo_condition_60 : decode bMo_condition 60 = .ok (.aload_n 0, 1) := by decide +kernel
theorem dMo_condition_61 : decode bMo_condition 61 = .ok (.getfield 67, 3) := by decide +kernel
theorem dMo_condition_64 : decode bMo_condition 64 = .ok (.iload_n 3, 1) := by decide +kernel
theorem dMo_condition_65 : decode bMo_condition 65 = .ok (.iastore, 1) := by decide +kernel
theorem dMo_condition_66 : decode bMo_condition 66 = .ok (.aload_n 0, 1) := by decide +kernel
theorem dMo_condition_67 : decode bMo_condition 67 = .ok (.getfield 31, 3) := by decide +kernel
theorem dMo_condition_70 : decode bMo_condition 70 = .ok (.aload_n 0, 1) := by decide +kernel
theorem dMo_condition_71 : decode bMo_condition 71 = .ok (.getfield 67, 3) := by decide +kernel
theorem dMo_condition_74 : decode bMo_condition 74 = .ok (.iload 4, 2) := by decide +kernel
theorem dMo_condition_76 : decode bMo_condition 76 = .ok (.iastore, 1) := by decide +kernel
theorem dMo_condition_77 : decode bMo_condition 77 = .ok (.aload_n 0, 1) := by decide +kernel
theorem dMo_condition_78 : decode bMo_condition 78 = .ok (.getfield 34, 3) := by decide +kernel
theorem dMo_condition_81 : decode bMo_condition 81 = .ok (.aload_n 0, 1) := by decide +kernel
theorem dMo_condition_82 : decode bMo_condition 82 = .ok (.getfield 67, 3) := by decide +kernel
theorem dMo_condition_85 : decode bMo_condition 85 = .ok (.iload 5, 2) := by decide +kernel
theorem dMo_condition_87 : decode bMo_condition 87 = .ok (.iastore, 1) := by decide +kernel
theorem dMo_condition_88 : decode bMo_condition 88 = .ok (.aload_n 0, 1) := by decide +kernel
theorem dMo_condition_89 : decode bMo_condition 89 = .ok (.dup, 1) := by decide +kernel
theorem dMo_condition_90 : decode bMo_condition 90 = .ok (.getfield 67, 3) := by decide +kernel
theorem dMo_condition_93 : decode bMo_condition 93 = .ok (.iconst 1, 1) := by decide +kernel
theorem dMo_condition_94 : decode bMo_condition 94 = .ok (.iadd, 1) := by decide +kernel
theorem dMo_condition_95 : decode bMo_condition 95 = .ok (.putfield 67, 3) := by decide +kernel
theorem dMo_condition_98 : decode bMo_condition 98 = .ok (.aload_n 0, 1) := by decide +kernel
theorem dMo_condition_99 : decode bMo_condition 99 = .ok (.getfield 67, 3) := by decide +kernel
theorem dMo_condition_102 : decode bMo_condition 102 = .ok (.iconst 1, 1) := by decide +kernel
theorem dMo_condition_103 : decode bMo_condition 103 = .ok (.isub, 1) := by decide +kernel
theorem dMo_condition_104 : decode bMo_condition 104 = .ok (.ireturn, 1) := by decide +kernel
abbrev rMo_condition : Room := { frames := 0, cells := 0, slots := 0, locals := 0 }
def fMo_condition_24 (x1 : Int32) (x2 : Int32) (x3 : Int32) (x4 : Int32) (x5 : Int32) (s1 : Int32) (M : jM) (F : jF) (L : jL) : Option (Int32 × jM × jF × jL) := (if ((jfu F 0 s1) 0) ≤ 0 then (if jib ((jfu F 0 s1) 2) 12 then (if jib ((jfu F 0 s1) 2) 12 then (if jib ((jfu F 0 s1) 2) 12 then (if jib ((jfu F 0 s1) 2) 12 then (if jib ((jfu F 0 s1) 2) 12 then some (((jfu (jfu F 0 s1) 2 (((jfu F 0 s1) 2) + 1)) 2) - 1, jmu (jmu (jmu (jmu (jmu M 5 ((jfu F 0 s1) 2).toNatClampNeg x1) 6 ((jfu F 0 s1) 2).toNatClampNeg x2) 7 ((jfu F 0 s1) 2).toNatClampNeg x3) 8 ((jfu F 0 s1) 2).toNatClampNeg x4) 9 ((jfu F 0 s1) 2).toNatClampNeg x5, jfu (jfu F 0 s1) 2 (((jfu F 0 s1) 2) + 1), L) else none) else none) else none) else none) else none) else some (0, M, jfu F 0 s1, L))
def fMo_condition_0 (x1 : Int32) (x2 : Int32) (x3 : Int32) (x4 : Int32) (x5 : Int32) (x6 : Int32) (M : jM) (F : jF) (L : jL) : Option (Int32 × jM × jF × jL) := (if x6 = 0 then fMo_condition_24 x1 x2 x3 x4 x5 1 M F L else (if (F 2) = 12 then fMo_condition_24 x1 x2 x3 x4 x5 2 M F L else fMo_condition_24 x1 x2 x3 x4 x5 0 M F L))
abbrev fMo_condition (x1 : Int32) (x2 : Int32) (x3 : Int32) (x4 : Int32) (x5 : Int32) (x6 : Int32) (M : jM) (F : jF) (L : jL) : Option (Int32 × jM × jF × jL) := fMo_condition_0 x1 x2 x3 x4 x5 x6 M F L
set_option maxHeartbeats 4000000 in
set_option maxRecDepth 100000 in
theorem uMo_condition_24 {p : Program} {e : Env} {s : State} {m : MethodId} {args : Array Value} {below : List Frame} {meth : Method} {c : Code} (l : Launch) (dC : Nat → ClassId) (dI : Nat → Nat → Nat) (cA cL : ClassId) (A : Nat → Nat) (Ap : Nat → Prop) (hC : jAt p s m args meth c bMo_condition 7 (some .int) wMo_condition RMo) (hA : ∀ q : Nat, s.heap.size ≤ q → Ap q) {r : Int32} {M' : jM} {F' : jF} {L' : jL} : ∀ (x1 : Int32) (x2 : Int32) (x3 : Int32) (x4 : Int32) (x5 : Int32) (s1 : Int32) (M : jM) (F : jF) (L : jL) (B : Nat → Nat) (H : Heap) (locs : List Loc) (ls : Array Slot), jH (dC, dI) jCl [(cA, .int), (cL, .long)] (mW cA cL A M F L) Ap s H locs → lv_has ls 7 [(0, .ref (A 0)), (1, .int x1), (2, .int x2), (3, .int x3), (4, .int x4), (5, .int x5)] → fMo_condition_24 x1 x2 x3 x4 x5 s1 M F L = some (r, M', F', L') → W p l e (headSpec wMo_condition rMo_condition).room s m args below meth c H locs 0 0 (jQi below (dC, dI) jCl [(cA, .int), (cL, .long)] (fun _ : Nat → Nat => mW cA cL A (M') (F') (L')) Ap args s r) (F0 m 24 ls [.int s1, .ref (A 0)]) := by
  obtain ⟨hx, hb, hml, hr, hts, hown, hlocks, hN⟩ := id hC
  have hj : ∀ w ∈ jw, w.before args s = true := fun w h => hts w (List.mem_cons_of_mem _ h)
  intro x1 x2 x3 x4 x5 s1 M F L B H locs ls hJ hl h
  unfold fMo_condition_24 at h
  refine mput_0 hx hb hj hown hJ (hj _ jw_599) dMo_condition_24 (fun H locs hJ => ?_)
  refine lv_aload_n hx hb dMo_condition_27 rfl (lv_at hl 0 rfl) ?_
  refine mget_0 hx hb hj hown hJ (hj _ jw_599) dMo_condition_28 ?_
  refine lv_if_le (tgt := 36) hx hb dMo_condition_31 (by decide) (fun c3 => ?_) (fun c3 => ?_)
  · replace h := jif_t c3 h
    refine lv_aload_n hx hb dMo_condition_36 rfl (lv_at hl 0 rfl) ?_
    refine mget_7 hx hb hj hown hJ (hj _ jw_606) dMo_condition_37 ?_
    refine lv_aload_n hx hb dMo_condition_40 rfl (lv_at hl 0 rfl) ?_
    refine mget_6 hx hb hj hown hJ (hj _ jw_605) dMo_condition_41 ?_
    refine lv_iload_n hx hb dMo_condition_44 rfl (lv_at hl 1 rfl) ?_
    obtain ⟨hi4, h⟩ := jib_h h
    refine mast_5 hx hb hJ hi4 dMo_condition_45 (fun H locs hJ => ?_)
    refine lv_aload_n hx hb dMo_condition_46 rfl (lv_at hl 0 rfl) ?_
    refine mget_8 hx hb hj hown hJ (hj _ jw_607) dMo_condition_47 ?_
    refine lv_aload_n hx hb dMo_condition_50 rfl (lv_at hl 0 rfl) ?_
    refine mget_6 hx hb hj hown hJ (hj _ jw_605) dMo_condition_51 ?_
    refine lv_iload_n hx hb dMo_condition_54 rfl (lv_at hl 2 rfl) ?_
    obtain ⟨hi5, h⟩ := jib_h h
    refine mast_6 hx hb hJ hi5 dMo_condition_55 (fun H locs hJ => ?_)
    refine lv_aload_n hx hb dMo_condition_56 rfl (lv_at hl 0 rfl) ?_
    refine mget_9 hx hb hj hown hJ (hj _ jw_608) dMo_condition_57 ?_
    refine lv_aload_n hx hb dMo_condition_60 rfl (lv_at hl 0 rfl) ?_
    refine mget_6 hx hb hj hown hJ (hj _ jw_605) dMo_condition_61 ?_
    refine lv_iload_n hx hb dMo_condition_64 rfl (lv_at hl 3 rfl) ?_
    obtain ⟨hi6, h⟩ := jib_h h
    refine mast_7 hx hb hJ hi6 dMo_condition_65 (fun H locs hJ => ?_)
    refine lv_aload_n hx hb dMo_condition_66 rfl (lv_at hl 0 rfl) ?_
    refine mget_10 hx hb hj hown hJ (hj _ jw_609) dMo_condition_67 ?_
    refine lv_aload_n hx hb dMo_condition_70 rfl (lv_at hl 0 rfl) ?_
    refine mget_6 hx hb hj hown hJ (hj _ jw_605) dMo_condition_71 ?_
    refine lv_iload hx hb dMo_condition_74 (lv_at hl 4 rfl) ?_
    obtain ⟨hi7, h⟩ := jib_h h
    refine mast_8 hx hb hJ hi7 dMo_condition_76 (fun H locs hJ => ?_)
    refine lv_aload_n hx hb dMo_condition_77 rfl (lv_at hl 0 rfl) ?_
    refine mget_11 hx hb hj hown hJ (hj _ jw_610) dMo_condition_78 ?_
    refine lv_aload_n hx hb dMo_condition_81 rfl (lv_at hl 0 rfl) ?_
    refine mget_6 hx hb hj hown hJ (hj _ jw_605) dMo_condition_82 ?_
    refine lv_iload hx hb dMo_condition_85 (lv_at hl 5 rfl) ?_
    obtain ⟨hi8, h⟩ := jib_h h
    refine mast_9 hx hb hJ hi8 dMo_condition_87 (fun H locs hJ => ?_)
    refine lv_aload_n hx hb dMo_condition_88 rfl (lv_at hl 0 rfl) ?_
    refine lv_dup hx hb dMo_condition_89 rfl ?_
    refine mget_6 hx hb hj hown hJ (hj _ jw_605) dMo_condition_90 ?_
    refine lv_iconst (v := 1) hx hb dMo_condition_93 (by decide) ?_
    refine lv_iadd hx hb dMo_condition_94 ?_
    refine mput_6 hx hb hj hown hJ (hj _ jw_605) dMo_condition_95 (fun H locs hJ => ?_)
    refine lv_aload_n hx hb dMo_condition_98 rfl (lv_at hl 0 rfl) ?_
    refine mget_6 hx hb hj hown hJ (hj _ jw_605) dMo_condition_99 ?_
    refine lv_iconst (v := 1) hx hb dMo_condition_102 (by decide) ?_
    refine lv_isub hx hb dMo_condition_103 ?_
    cases h
    exact jreti (u := B) hx hb hr rfl hlocks hJ dMo_condition_104 rfl
  · replace h := jif_f c3 h
    refine lv_iconst (v := 0) hx hb dMo_condition_34 (by decide) ?_
    cases h
    exact jreti (u := B) hx hb hr rfl hlocks hJ dMo_condition_35 rfl
set_option maxHeartbeats 4000000 in
set_option maxRecDepth 100000 in
theorem uMo_condition_0 {p : Program} {e : Env} {s : State} {m : MethodId} {args : Array Value} {below : List Frame} {meth : Method} {c : Code} (l : Launch) (dC : Nat → ClassId) (dI : Nat → Nat → Nat) (cA cL : ClassId) (A : Nat → Nat) (Ap : Nat → Prop) (hC : jAt p s m args meth c bMo_condition 7 (some .int) wMo_condition RMo) (hA : ∀ q : Nat, s.heap.size ≤ q → Ap q) {r : Int32} {M' : jM} {F' : jF} {L' : jL} : ∀ (x1 : Int32) (x2 : Int32) (x3 : Int32) (x4 : Int32) (x5 : Int32) (x6 : Int32) (M : jM) (F : jF) (L : jL) (B : Nat → Nat) (H : Heap) (locs : List Loc) (ls : Array Slot), jH (dC, dI) jCl [(cA, .int), (cL, .long)] (mW cA cL A M F L) Ap s H locs → lv_has ls 7 [(0, .ref (A 0)), (1, .int x1), (2, .int x2), (3, .int x3), (4, .int x4), (5, .int x5), (6, .int x6)] → fMo_condition_0 x1 x2 x3 x4 x5 x6 M F L = some (r, M', F', L') → W p l e (headSpec wMo_condition rMo_condition).room s m args below meth c H locs 0 0 (jQi below (dC, dI) jCl [(cA, .int), (cL, .long)] (fun _ : Nat → Nat => mW cA cL A (M') (F') (L')) Ap args s r) (F0 m 0 ls []) := by
  obtain ⟨hx, hb, hml, hr, hts, hown, hlocks, hN⟩ := id hC
  have hj : ∀ w ∈ jw, w.before args s = true := fun w h => hts w (List.mem_cons_of_mem _ h)
  intro x1 x2 x3 x4 x5 x6 M F L B H locs ls hJ hl h
  unfold fMo_condition_0 at h
  refine lv_aload_n hx hb dMo_condition_0 rfl (lv_at hl 0 rfl) ?_
  refine lv_iload hx hb dMo_condition_1 (lv_at hl 6 rfl) ?_
  refine lv_if_ne (tgt := 10) hx hb dMo_condition_3 (by decide) (fun c1 => ?_) (fun c1 => ?_)
  · replace h := jif_f c1 h
    refine lv_aload_n hx hb dMo_condition_10 rfl (lv_at hl 0 rfl) ?_
    refine mget_6 hx hb hj hown hJ (hj _ jw_605) dMo_condition_11 ?_
    refine lv_bipush (v := 12) hx hb dMo_condition_14 (by decide) ?_
    refine lv_icmp_ne (tgt := 23) hx hb dMo_condition_16 (by decide) (fun c2 => ?_) (fun c2 => ?_)
    · replace h := jif_f c2 h
      refine lv_iconst (v := 0) hx hb dMo_condition_23 (by decide) ?_
      exact uMo_condition_24 l dC dI cA cL A Ap hC hA _ _ _ _ _ _ _ _ _ B _ _ _ hJ (lv_sub hl [0, 1, 2, 3, 4, 5] rfl) h
    · replace h := jif_t c2 h
      refine lv_iconst (v := 2) hx hb dMo_condition_19 (by decide) ?_
      refine lv_goto (tgt := 24) hx hb dMo_condition_20 (by decide) ?_
      exact uMo_condition_24 l dC dI cA cL A Ap hC hA _ _ _ _ _ _ _ _ _ B _ _ _ hJ (lv_sub hl [0, 1, 2, 3, 4, 5] rfl) h
  · replace h := jif_t c1 h
    refine lv_iconst (v := 1) hx hb dMo_condition_6 (by decide) ?_
    refine lv_goto (tgt := 24) hx hb dMo_condition_7 (by decide) ?_
    exact uMo_condition_24 l dC dI cA cL A Ap hC hA _ _ _ _ _ _ _ _ _ B _ _ _ hJ (lv_sub hl [0, 1, 2, 3, 4, 5] rfl) h
set_option maxHeartbeats 4000000 in
set_option maxRecDepth 100000 in
theorem cMo_condition (l : Launch) (dC : Nat → ClassId) (dI : Nat → Nat → Nat) (cA cL : ClassId) (A : Nat → Nat) (x1 : Int32) (x2 : Int32) (x3 : Int32) (x4 : Int32) (x5 : Int32) (x6 : Int32) (M : jM) (F : jF) (L : jL) (B : Nat → Nat) (sz : Nat) {r : Int32} {M' : jM} {F' : jF} {L' : jL} (h : fMo_condition x1 x2 x3 x4 x5 x6 M F L = some (r, M', F', L')) : jCi l yMo_condition wMo_condition rMo_condition (dC, dI) jCl [(cA, .int), (cL, .long)] [.ref (A 0), .int x1, .int x2, .int x3, .int x4, .int x5, .int x6] (mW cA cL A M F L) sz r (fun _ : Nat → Nat => mW cA cL A (M') (F') (L')) :=
  jOf (Qc := fun Ap => va_Qi (fun q (_ : Nat → Nat) => q = r) (jPost (dC, dI) jCl [(cA, .int), (cL, .long)] (fun _ : Nat → Nat => mW cA cL A (M') (F') (L')) Ap) Ap) (by decide) rfl (Nat.le_of_ble_eq_true rfl) (fun p e s m below meth c Ap ls hC hA hJ hl => uMo_condition_0 l dC dI cA cL A Ap hC hA _ _ _ _ _ _ _ _ _ B _ _ _ hJ (lv_sub hl [0, 1, 2, 3, 4, 5, 6] rfl) h)
abbrev bMo_equal : ByteArray := prog_8_method_10_code
abbrev yMo_equal : MethodName := ⟨RMo, "equal", "(IIII)I"⟩
abbrev wMo_equal : List Cond := .code yMo_equal bMo_equal 5 (some .int) :: jw
theorem dMo_equal_0 : decode bMo_equal 0 = .ok (.aload_n 0, 1) := by decide +kernel
theorem dMo_equal_1 : decode bMo_equal 1 = .ok (.iconst 0, 1) := by decide +kernel
theorem dMo_equal_2 : decode bMo_equal 2 = .ok (.iload_n 1, 1) := by decide +kernel
theorem dMo_equal_3 : decode bMo_equal 3 = .ok (.iload_n 2, 1) := by decide +kernel
theorem dMo_equal_4 : decode bMo_equal 4 = .ok (.iload_n 3, 1) := by decide +kernel
theorem dMo_equal_5 : decode bMo_equal 5 = .ok (.iload 4, 2) := by decide +kernel
theorem dMo_equal_7 : decode bMo_equal 7 = .ok (.aload_n 0, 1) := by decide +kernel
theorem dMo_equal_8 : decode bMo_equal 8 = .ok (.iload_n 1, 1) := by decide +kernel
theorem dMo_equal_9 : decode bMo_equal 9 = .ok (.iload_n 2, 1) := by decide +kernel
theorem dMo_equal_10 : decode bMo_equal 10 = .ok (.invokevirtual 70, 3) := by decide +kernel
theorem dMo_equal_13 : decode bMo_equal 13 = .ok (.ifCond .eq 17, 3) := by decide +kernel
theorem dMo_equal_16 : decode bMo_equal 16 = .ok (.aload_n 0, 1) := by decide +kernel
theorem dMo_equal_17 : decode bMo_equal 17 = .ok (.iload_n 3, 1) := by decide +kernel
theorem dMo_equal_18 : decode bMo_equal 18 = .ok (.iload 4, 2) := by decide +kernel
theorem dMo_equal_20 : decode bMo_equal 20 = .ok (.invokevirtual 70, 3) := by decide +kernel
theorem dMo_equal_23 : decode bMo_equal 23 = .ok (.ifCond .eq 7, 3) := by decide +kernel
theorem dMo_equal_26 : decode bMo_equal 26 = .ok (.iconst 1, 1) := by decide +kernel
theorem dMo_equal_27 : decode bMo_equal 27 = .ok (.goto 4, 3) := by decide +kernel
theorem dMo_equal_30 : decode bMo_equal 30 = .ok (.iconst 0, 1) := by decide +kernel
theorem dMo_equal_31 : decode bMo_equal 31 = .ok (.invokevirtual 74, 3) := by decide +kernel
theorem dMo_equal_34 : decode bMo_equal 34 = .ok (.ireturn, 1) := by decide +kernel
abbrev rMo_equal : Room := { frames := 2, cells := 0, slots := 0, locals := 44 }
def fMo_equal_31 (s1 : Int32) (s2 : Int32) (s3 : Int32) (s4 : Int32) (s5 : Int32) (s6 : Int32) (M : jM) (F : jF) (L : jL) : Option (Int32 × jM × jF × jL) := ((fMo_condition s1 s2 s3 s4 s5 s6 M F L).bind fun q3 => some (q3.1, q3.2.1, q3.2.2.1, q3.2.2.2))
def fMo_equal_30 (s1 : Int32) (s2 : Int32) (s3 : Int32) (s4 : Int32) (s5 : Int32) (M : jM) (F : jF) (L : jL) : Option (Int32 × jM × jF × jL) := fMo_equal_31 s1 s2 s3 s4 s5 0 M F L
def fMo_equal_0 (x1 : Int32) (x2 : Int32) (x3 : Int32) (x4 : Int32) (M : jM) (F : jF) (L : jL) : Option (Int32 × jM × jF × jL) := ((fMo_isColumn x1 x2 M F L).bind fun q1 => (if q1 = 0 then fMo_equal_30 0 x1 x2 x3 x4 M F L else ((fMo_isColumn x3 x4 M F L).bind fun q4 => (if q4 = 0 then fMo_equal_30 0 x1 x2 x3 x4 M F L else fMo_equal_31 0 x1 x2 x3 x4 1 M F L))))
abbrev fMo_equal (x1 : Int32) (x2 : Int32) (x3 : Int32) (x4 : Int32) (M : jM) (F : jF) (L : jL) : Option (Int32 × jM × jF × jL) := fMo_equal_0 x1 x2 x3 x4 M F L
set_option maxHeartbeats 4000000 in
set_option maxRecDepth 100000 in
theorem uMo_equal_31 {p : Program} {e : Env} {s : State} {m : MethodId} {args : Array Value} {below : List Frame} {meth : Method} {c : Code} (l : Launch) (dC : Nat → ClassId) (dI : Nat → Nat → Nat) (cA cL : ClassId) (A : Nat → Nat) (Ap : Nat → Prop) (hC : jAt p s m args meth c bMo_equal 5 (some .int) wMo_equal RMo) (hA : ∀ q : Nat, s.heap.size ≤ q → Ap q) {r : Int32} {M' : jM} {F' : jF} {L' : jL} : ∀ (s1 : Int32) (s2 : Int32) (s3 : Int32) (s4 : Int32) (s5 : Int32) (s6 : Int32) (M : jM) (F : jF) (L : jL) (B : Nat → Nat) (H : Heap) (locs : List Loc) (ls : Array Slot), jH (dC, dI) jCl [(cA, .int), (cL, .long)] (mW cA cL A M F L) Ap s H locs → lv_has ls 5 [] → fMo_equal_31 s1 s2 s3 s4 s5 s6 M F L = some (r, M', F', L') → W p l e (headSpec wMo_equal rMo_equal).room s m args below meth c H locs 0 0 (jQi below (dC, dI) jCl [(cA, .int), (cL, .long)] (fun _ : Nat → Nat => mW cA cL A (M') (F') (L')) Ap args s r) (F0 m 31 ls [.int s6, .int s5, .int s4, .int s3, .int s2, .int s1, .ref (A 0)]) := by
  obtain ⟨hx, hb, hml, hr, hts, hown, hlocks, hN⟩ := id hC
  have hj : ∀ w ∈ jw, w.before args s = true := fun w h => hts w (List.mem_cons_of_mem _ h)
  intro s1 s2 s3 s4 s5 s6 M F L B H locs ls hJ hl h
  unfold fMo_equal_31 at h
  obtain ⟨q3, hq3, h⟩ := jbi_h h
  refine jcalli (w' := fun _ : Nat → Nat => mW cA cL A q3.2.1 q3.2.2.1 q3.2.2.2) (va_runV (As := [.int s1, .int s2, .int s3, .int s4, .int s5, .int s6]) (rest := []) ⟨hx, hb, hml, hown, hts⟩ (cMo_condition l dC dI cA cL A s1 s2 s3 s4 s5 s6 M F L B H.size hq3) (cwV 6 hts (jgoodV jw_695 jw_697 jws_18 jw_7 jw_698) rfl rfl rfl (by decide +kernel) ⟨Nat.le_of_ble_eq_true rfl, Nat.le_of_ble_eq_true rfl⟩) (jpreV hN hJ (ci := 6) (q0 := 0) rfl rfl) rfl rfl hl.1 rfl (lv_room (Nat.le_of_ble_eq_true rfl)) dMo_equal_31 ⟨Nat.zero_le _, Nat.zero_le _⟩) hA hJ (fun B H locs hJ => ?_)
  cases h
  exact jreti (u := B) hx hb hr rfl hlocks hJ dMo_equal_34 rfl
set_option maxHeartbeats 4000000 in
set_option maxRecDepth 100000 in
theorem uMo_equal_30 {p : Program} {e : Env} {s : State} {m : MethodId} {args : Array Value} {below : List Frame} {meth : Method} {c : Code} (l : Launch) (dC : Nat → ClassId) (dI : Nat → Nat → Nat) (cA cL : ClassId) (A : Nat → Nat) (Ap : Nat → Prop) (hC : jAt p s m args meth c bMo_equal 5 (some .int) wMo_equal RMo) (hA : ∀ q : Nat, s.heap.size ≤ q → Ap q) {r : Int32} {M' : jM} {F' : jF} {L' : jL} : ∀ (s1 : Int32) (s2 : Int32) (s3 : Int32) (s4 : Int32) (s5 : Int32) (M : jM) (F : jF) (L : jL) (B : Nat → Nat) (H : Heap) (locs : List Loc) (ls : Array Slot), jH (dC, dI) jCl [(cA, .int), (cL, .long)] (mW cA cL A M F L) Ap s H locs → lv_has ls 5 [] → fMo_equal_30 s1 s2 s3 s4 s5 M F L = some (r, M', F', L') → W p l e (headSpec wMo_equal rMo_equal).room s m args below meth c H locs 0 0 (jQi below (dC, dI) jCl [(cA, .int), (cL, .long)] (fun _ : Nat → Nat => mW cA cL A (M') (F') (L')) Ap args s r) (F0 m 30 ls [.int s5, .int s4, .int s3, .int s2, .int s1, .ref (A 0)]) := by
  obtain ⟨hx, hb, hml, hr, hts, hown, hlocks, hN⟩ := id hC
  have hj : ∀ w ∈ jw, w.before args s = true := fun w h => hts w (List.mem_cons_of_mem _ h)
  intro s1 s2 s3 s4 s5 M F L B H locs ls hJ hl h
  unfold fMo_equal_30 at h
  refine lv_iconst (v := 0) hx hb dMo_equal_30 (by decide) ?_
  exact uMo_equal_31 l dC dI cA cL A Ap hC hA _ _ _ _ _ _ _ _ _ B _ _ _ hJ (lv_sub hl [] rfl) h
set_option maxHeartbeats 4000000 in
set_option maxRecDepth 100000 in
theorem uMo_equal_0 {p : Program} {e : Env} {s : State} {m : MethodId} {args : Array Value} {below : List Frame} {meth : Method} {c : Code} (l : Launch) (dC : Nat → ClassId) (dI : Nat → Nat → Nat) (cA cL : ClassId) (A : Nat → Nat) (Ap : Nat → Prop) (hC : jAt p s m args meth c bMo_equal 5 (some .int) wMo_equal RMo) (hA : ∀ q : Nat, s.heap.size ≤ q → Ap q) {r : Int32} {M' : jM} {F' : jF} {L' : jL} : ∀ (x1 : Int32) (x2 : Int32) (x3 : Int32) (x4 : Int32) (M : jM) (F : jF) (L : jL) (B : Nat → Nat) (H : Heap) (locs : List Loc) (ls : Array Slot), jH (dC, dI) jCl [(cA, .int), (cL, .long)] (mW cA cL A M F L) Ap s H locs → lv_has ls 5 [(0, .ref (A 0)), (1, .int x1), (2, .int x2), (3, .int x3), (4, .int x4)] → fMo_equal_0 x1 x2 x3 x4 M F L = some (r, M', F', L') → W p l e (headSpec wMo_equal rMo_equal).room s m args below meth c H locs 0 0 (jQi below (dC, dI) jCl [(cA, .int), (cL, .long)] (fun _ : Nat → Nat => mW cA cL A (M') (F') (L')) Ap args s r) (F0 m 0 ls []) := by
  obtain ⟨hx, hb, hml, hr, hts, hown, hlocks, hN⟩ := id hC
  have hj : ∀ w ∈ jw, w.before args s = true := fun w h => hts w (List.mem_cons_of_mem _ h)
  intro x1 x2 x3 x4 M F L B H locs ls hJ hl h
  unfold fMo_equal_0 at h
  refine lv_aload_n hx hb dMo_equal_0 rfl (lv_at hl 0 rfl) ?_
  refine lv_iconst (v := 0) hx hb dMo_equal_1 (by decide) ?_
  refine lv_iload_n hx hb dMo_equal_2 rfl (lv_at hl 1 rfl) ?_
  refine lv_iload_n hx hb dMo_equal_3 rfl (lv_at hl 2 rfl) ?_
  refine lv_iload_n hx hb dMo_equal_4 rfl (lv_at hl 3 rfl) ?_
  refine lv_iload hx hb dMo_equal_5 (lv_at hl 4 rfl) ?_
  refine lv_aload_n hx hb dMo_equal_7 rfl (lv_at hl 0 rfl) ?_
  refine lv_iload_n hx hb dMo_equal_8 rfl (lv_at hl 1 rfl) ?_
  refine lv_iload_n hx hb dMo_equal_9 rfl (lv_at hl 2 rfl) ?_
  obtain ⟨q1, hq1, h⟩ := jbi_h h
  refine jcalli (w' := fun _ : Nat → Nat => mW cA cL A M F L) (va_runV (As := [.int x1, .int x2]) (rest := [.int x4, .int x3, .int x2, .int x1, .int 0, .ref (A 0)]) ⟨hx, hb, hml, hown, hts⟩ (cMo_isColumn l dC dI cA cL A x1 x2 M F L B H.size hq1) (cwV 2 hts (jgoodV jw_691 jw_693 jws_17 jw_7 jw_694) rfl rfl rfl (by decide +kernel) ⟨Nat.le_of_ble_eq_true rfl, Nat.le_of_ble_eq_true rfl⟩) (jpreV hN hJ (ci := 6) (q0 := 0) rfl rfl) rfl rfl hl.1 rfl (lv_room (Nat.le_of_ble_eq_true rfl)) dMo_equal_10 ⟨Nat.zero_le _, Nat.zero_le _⟩) hA hJ (fun B H locs hJ => ?_)
  refine lv_if_eq (tgt := 30) hx hb dMo_equal_13 (by decide) (fun c2 => ?_) (fun c2 => ?_)
  · replace h := jif_t c2 h
    exact uMo_equal_30 l dC dI cA cL A Ap hC hA _ _ _ _ _ _ _ _ B _ _ _ hJ (lv_sub hl [] rfl) h
  · replace h := jif_f c2 h
    refine lv_aload_n hx hb dMo_equal_16 rfl (lv_at hl 0 rfl) ?_
    refine lv_iload_n hx hb dMo_equal_17 rfl (lv_at hl 3 rfl) ?_
    refine lv_iload hx hb dMo_equal_18 (lv_at hl 4 rfl) ?_
    obtain ⟨q4, hq4, h⟩ := jbi_h h
    refine jcalli (w' := fun _ : Nat → Nat => mW cA cL A M F L) (va_runV (As := [.int x3, .int x4]) (rest := [.int x4, .int x3, .int x2, .int x1, .int 0, .ref (A 0)]) ⟨hx, hb, hml, hown, hts⟩ (cMo_isColumn l dC dI cA cL A x3 x4 M F L B H.size hq4) (cwV 2 hts (jgoodV jw_691 jw_693 jws_17 jw_7 jw_694) rfl rfl rfl (by decide +kernel) ⟨Nat.le_of_ble_eq_true rfl, Nat.le_of_ble_eq_true rfl⟩) (jpreV hN hJ (ci := 6) (q0 := 0) rfl rfl) rfl rfl hl.1 rfl (lv_room (Nat.le_of_ble_eq_true rfl)) dMo_equal_20 ⟨Nat.zero_le _, Nat.zero_le _⟩) hA hJ (fun B H locs hJ => ?_)
    refine lv_if_eq (tgt := 30) hx hb dMo_equal_23 (by decide) (fun c5 => ?_) (fun c5 => ?_)
    · replace h := jif_t c5 h
      exact uMo_equal_30 l dC dI cA cL A Ap hC hA _ _ _ _ _ _ _ _ B _ _ _ hJ (lv_sub hl [] rfl) h
    · replace h := jif_f c5 h
      refine lv_iconst (v := 1) hx hb dMo_equal_26 (by decide) ?_
      refine lv_goto (tgt := 31) hx hb dMo_equal_27 (by decide) ?_
      exact uMo_equal_31 l dC dI cA cL A Ap hC hA _ _ _ _ _ _ _ _ _ B _ _ _ hJ (lv_sub hl [] rfl) h
set_option maxHeartbeats 4000000 in
set_option maxRecDepth 100000 in
theorem cMo_equal (l : Launch) (dC : Nat → ClassId) (dI : Nat → Nat → Nat) (cA cL : ClassId) (A : Nat → Nat) (x1 : Int32) (x2 : Int32) (x3 : Int32) (x4 : Int32) (M : jM) (F : jF) (L : jL) (B : Nat → Nat) (sz : Nat) {r : Int32} {M' : jM} {F' : jF} {L' : jL} (h : fMo_equal x1 x2 x3 x4 M F L = some (r, M', F', L')) : jCi l yMo_equal wMo_equal rMo_equal (dC, dI) jCl [(cA, .int), (cL, .long)] [.ref (A 0), .int x1, .int x2, .int x3, .int x4] (mW cA cL A M F L) sz r (fun _ : Nat → Nat => mW cA cL A (M') (F') (L')) :=
  jOf (Qc := fun Ap => va_Qi (fun q (_ : Nat → Nat) => q = r) (jPost (dC, dI) jCl [(cA, .int), (cL, .long)] (fun _ : Nat → Nat => mW cA cL A (M') (F') (L')) Ap) Ap) (by decide) rfl (Nat.le_of_ble_eq_true rfl) (fun p e s m below meth c Ap ls hC hA hJ hl => uMo_equal_0 l dC dI cA cL A Ap hC hA _ _ _ _ _ _ _ B _ _ _ hJ (lv_sub hl [0, 1, 2, 3, 4] rfl) h)
abbrev bMo_number : ByteArray := prog_8_method_11_code
abbrev yMo_number : MethodName := ⟨RMo, "number", "(III)I"⟩
abbrev wMo_number : List Cond := .code yMo_number bMo_number 4 (some .int) :: jw
theorem dMo_number_0 : decode bMo_number 0 = .ok (.aload_n 0, 1) := by decide +kernel
theorem dMo_number_1 : decode bMo_number 1 = .ok (.iconst 1, 1) := by decide +kernel
theorem dMo_number_2 : decode bMo_number 2 = .ok (.iload_n 1, 1) := by decide +kernel
theorem dMo_number_3 : decode bMo_number 3 = .ok (.iload_n 2, 1) := by decide +kernel
theorem dMo_number_4 : decode bMo_number 4 = .ok (.iload_n 1, 1) := by decide +kernel
theorem dMo_number_5 : decode bMo_number 5 = .ok (.iload_n 3, 1) := by decide +kernel
theorem dMo_number_6 : decode bMo_number 6 = .ok (.aload_n 0, 1) := by decide +kernel
theorem dMo_number_7 : decode bMo_number 7 = .ok (.iload_n 1, 1) := by decide +kernel
theorem dMo_number_8 : decode bMo_number 8 = .ok (.iload_n 2, 1) := by decide +kernel
theorem dMo_number_9 : decode bMo_number 9 = .ok (.invokevirtual 70, 3) := by decide +kernel
theorem dMo_number_12 : decode bMo_number 12 = .ok (.invokevirtual 74, 3) := by decide +kernel
theorem dMo_number_15 : decode bMo_number 15 = .ok (.ireturn, 1) := by decide +kernel
abbrev rMo_number : Room := { frames := 2, cells := 0, slots := 0, locals := 44 }
def fMo_number_0 (x1 : Int32) (x2 : Int32) (x3 : Int32) (M : jM) (F : jF) (L : jL) : Option (Int32 × jM × jF × jL) := ((fMo_isColumn x1 x2 M F L).bind fun q1 => ((fMo_condition 1 x1 x2 x1 x3 q1 M F L).bind fun q2 => some (q2.1, q2.2.1, q2.2.2.1, q2.2.2.2)))
abbrev fMo_number (x1 : Int32) (x2 : Int32) (x3 : Int32) (M : jM) (F : jF) (L : jL) : Option (Int32 × jM × jF × jL) := fMo_number_0 x1 x2 x3 M F L
set_option maxHeartbeats 4000000 in
set_option maxRecDepth 100000 in
theorem uMo_number_0 {p : Program} {e : Env} {s : State} {m : MethodId} {args : Array Value} {below : List Frame} {meth : Method} {c : Code} (l : Launch) (dC : Nat → ClassId) (dI : Nat → Nat → Nat) (cA cL : ClassId) (A : Nat → Nat) (Ap : Nat → Prop) (hC : jAt p s m args meth c bMo_number 4 (some .int) wMo_number RMo) (hA : ∀ q : Nat, s.heap.size ≤ q → Ap q) {r : Int32} {M' : jM} {F' : jF} {L' : jL} : ∀ (x1 : Int32) (x2 : Int32) (x3 : Int32) (M : jM) (F : jF) (L : jL) (B : Nat → Nat) (H : Heap) (locs : List Loc) (ls : Array Slot), jH (dC, dI) jCl [(cA, .int), (cL, .long)] (mW cA cL A M F L) Ap s H locs → lv_has ls 4 [(0, .ref (A 0)), (1, .int x1), (2, .int x2), (3, .int x3)] → fMo_number_0 x1 x2 x3 M F L = some (r, M', F', L') → W p l e (headSpec wMo_number rMo_number).room s m args below meth c H locs 0 0 (jQi below (dC, dI) jCl [(cA, .int), (cL, .long)] (fun _ : Nat → Nat => mW cA cL A (M') (F') (L')) Ap args s r) (F0 m 0 ls []) := by
  obtain ⟨hx, hb, hml, hr, hts, hown, hlocks, hN⟩ := id hC
  have hj : ∀ w ∈ jw, w.before args s = true := fun w h => hts w (List.mem_cons_of_mem _ h)
  intro x1 x2 x3 M F L B H locs ls hJ hl h
  unfold fMo_number_0 at h
  refine lv_aload_n hx hb dMo_number_0 rfl (lv_at hl 0 rfl) ?_
  refine lv_iconst (v := 1) hx hb dMo_number_1 (by decide) ?_
  refine lv_iload_n hx hb dMo_number_2 rfl (lv_at hl 1 rfl) ?_
  refine lv_iload_n hx hb dMo_number_3 rfl (lv_at hl 2 rfl) ?_
  refine lv_iload_n hx hb dMo_number_4 rfl (lv_at hl 1 rfl) ?_
  refine lv_iload_n hx hb dMo_number_5 rfl (lv_at hl 3 rfl) ?_
  refine lv_aload_n hx hb dMo_number_6 rfl (lv_at hl 0 rfl) ?_
  refine lv_iload_n hx hb dMo_number_7 rfl (lv_at hl 1 rfl) ?_
  refine lv_iload_n hx hb dMo_number_8 rfl (lv_at hl 2 rfl) ?_
  obtain ⟨q1, hq1, h⟩ := jbi_h h
  refine jcalli (w' := fun _ : Nat → Nat => mW cA cL A M F L) (va_runV (As := [.int x1, .int x2]) (rest := [.int x3, .int x1, .int x2, .int x1, .int 1, .ref (A 0)]) ⟨hx, hb, hml, hown, hts⟩ (cMo_isColumn l dC dI cA cL A x1 x2 M F L B H.size hq1) (cwV 2 hts (jgoodV jw_691 jw_693 jws_17 jw_7 jw_694) rfl rfl rfl (by decide +kernel) ⟨Nat.le_of_ble_eq_true rfl, Nat.le_of_ble_eq_true rfl⟩) (jpreV hN hJ (ci := 6) (q0 := 0) rfl rfl) rfl rfl hl.1 rfl (lv_room (Nat.le_of_ble_eq_true rfl)) dMo_number_9 ⟨Nat.zero_le _, Nat.zero_le _⟩) hA hJ (fun B H locs hJ => ?_)
  obtain ⟨q2, hq2, h⟩ := jbi_h h
  refine jcalli (w' := fun _ : Nat → Nat => mW cA cL A q2.2.1 q2.2.2.1 q2.2.2.2) (va_runV (As := [.int 1, .int x1, .int x2, .int x1, .int x3, .int q1]) (rest := []) ⟨hx, hb, hml, hown, hts⟩ (cMo_condition l dC dI cA cL A 1 x1 x2 x1 x3 q1 M F L B H.size hq2) (cwV 6 hts (jgoodV jw_695 jw_697 jws_18 jw_7 jw_698) rfl rfl rfl (by decide +kernel) ⟨Nat.le_of_ble_eq_true rfl, Nat.le_of_ble_eq_true rfl⟩) (jpreV hN hJ (ci := 6) (q0 := 0) rfl rfl) rfl rfl hl.1 rfl (lv_room (Nat.le_of_ble_eq_true rfl)) dMo_number_12 ⟨Nat.zero_le _, Nat.zero_le _⟩) hA hJ (fun B H locs hJ => ?_)
  cases h
  exact jreti (u := B) hx hb hr rfl hlocks hJ dMo_number_15 rfl
set_option maxHeartbeats 4000000 in
set_option maxRecDepth 100000 in
theorem cMo_number (l : Launch) (dC : Nat → ClassId) (dI : Nat → Nat → Nat) (cA cL : ClassId) (A : Nat → Nat) (x1 : Int32) (x2 : Int32) (x3 : Int32) (M : jM) (F : jF) (L : jL) (B : Nat → Nat) (sz : Nat) {r : Int32} {M' : jM} {F' : jF} {L' : jL} (h : fMo_number x1 x2 x3 M F L = some (r, M', F', L')) : jCi l yMo_number wMo_number rMo_number (dC, dI) jCl [(cA, .int), (cL, .long)] [.ref (A 0), .int x1, .int x2, .int x3] (mW cA cL A M F L) sz r (fun _ : Nat → Nat => mW cA cL A (M') (F') (L')) :=
  jOf (Qc := fun Ap => va_Qi (fun q (_ : Nat → Nat) => q = r) (jPost (dC, dI) jCl [(cA, .int), (cL, .long)] (fun _ : Nat → Nat => mW cA cL A (M') (F') (L')) Ap) Ap) (by decide) rfl (Nat.le_of_ble_eq_true rfl) (fun p e s m below meth c Ap ls hC hA hJ hl => uMo_number_0 l dC dI cA cL A Ap hC hA _ _ _ _ _ _ B _ _ _ hJ (lv_sub hl [0, 1, 2, 3] rfl) h)
abbrev bMo_less : ByteArray := prog_8_method_12_code
abbrev yMo_less : MethodName := ⟨RMo, "less", "(IIII)I"⟩
abbrev wMo_less : List Cond := .code yMo_less bMo_less 5 (some .int) :: jw
theorem dMo_less_0 : decode bMo_less 0 = .ok (.aload_n 0, 1) := by decide +kernel
theorem dMo_less_1 : decode bMo_less 1 = .ok (.iconst 2, 1) := by decide +kernel
theorem dMo_less_2 : decode bMo_less 2 = .ok (.iload_n 1, 1) := by decide +kernel
theorem dMo_less_3 : decode bMo_less 3 = .ok (.iload_n 2, 1) := by decide +kernel
theorem dMo_less_4 : decode bMo_less 4 = .ok (.iload_n 3, 1) := by decide +kernel
theorem dMo_less_5 : decode bMo_less 5 = .ok (.iload 4, 2) := by decide +kernel
theorem dMo_less_7 : decode bMo_less 7 = .ok (.aload_n 0, 1) := by decide +kernel
theorem dMo_less_8 : decode bMo_less 8 = .ok (.iload_n 1, 1) := by decide +kernel
theorem dMo_less_9 : decode bMo_less 9 = .ok (.iload_n 2, 1) := by decide +kernel
theorem dMo_less_10 : decode bMo_less 10 = .ok (.invokevirtual 70, 3) := by decide +kernel
theorem dMo_less_13 : decode bMo_less 13 = .ok (.ifCond .eq 17, 3) := by decide +kernel
theorem dMo_less_16 : decode bMo_less 16 = .ok (.aload_n 0, 1) := by decide +kernel
theorem dMo_less_17 : decode bMo_less 17 = .ok (.iload_n 3, 1) := by decide +kernel
theorem dMo_less_18 : decode bMo_less 18 = .ok (.iload 4, 2) := by decide +kernel
theorem dMo_less_20 : decode bMo_less 20 = .ok (.invokevirtual 70, 3) := by decide +kernel
theorem dMo_less_23 : decode bMo_less 23 = .ok (.ifCond .eq 7, 3) := by decide +kernel
theorem dMo_less_26 : decode bMo_less 26 = .ok (.iconst 1, 1) := by decide +kernel
theorem dMo_less_27 : decode bMo_less 27 = .ok (.goto 4, 3) := by decide +kernel
theorem dMo_less_30 : decode bMo_less 30 = .ok (.iconst 0, 1) := by decide +kernel
theorem dMo_less_31 : decode bMo_less 31 = .ok (.invokevirtual 74, 3) := by decide +kernel
theorem dMo_less_34 : decode bMo_less 34 = .ok (.ireturn, 1) := by decide +kernel
abbrev rMo_less : Room := { frames := 2, cells := 0, slots := 0, locals := 44 }
def fMo_less_31 (s1 : Int32) (s2 : Int32) (s3 : Int32) (s4 : Int32) (s5 : Int32) (s6 : Int32) (M : jM) (F : jF) (L : jL) : Option (Int32 × jM × jF × jL) := ((fMo_condition s1 s2 s3 s4 s5 s6 M F L).bind fun q3 => some (q3.1, q3.2.1, q3.2.2.1, q3.2.2.2))
def fMo_less_30 (s1 : Int32) (s2 : Int32) (s3 : Int32) (s4 : Int32) (s5 : Int32) (M : jM) (F : jF) (L : jL) : Option (Int32 × jM × jF × jL) := fMo_less_31 s1 s2 s3 s4 s5 0 M F L
def fMo_less_0 (x1 : Int32) (x2 : Int32) (x3 : Int32) (x4 : Int32) (M : jM) (F : jF) (L : jL) : Option (Int32 × jM × jF × jL) := ((fMo_isColumn x1 x2 M F L).bind fun q1 => (if q1 = 0 then fMo_less_30 2 x1 x2 x3 x4 M F L else ((fMo_isColumn x3 x4 M F L).bind fun q4 => (if q4 = 0 then fMo_less_30 2 x1 x2 x3 x4 M F L else fMo_less_31 2 x1 x2 x3 x4 1 M F L))))
abbrev fMo_less (x1 : Int32) (x2 : Int32) (x3 : Int32) (x4 : Int32) (M : jM) (F : jF) (L : jL) : Option (Int32 × jM × jF × jL) := fMo_less_0 x1 x2 x3 x4 M F L
set_option maxHeartbeats 4000000 in
set_option maxRecDepth 100000 in
theorem uMo_less_31 {p : Program} {e : Env} {s : State} {m : MethodId} {args : Array Value} {below : List Frame} {meth : Method} {c : Code} (l : Launch) (dC : Nat → ClassId) (dI : Nat → Nat → Nat) (cA cL : ClassId) (A : Nat → Nat) (Ap : Nat → Prop) (hC : jAt p s m args meth c bMo_less 5 (some .int) wMo_less RMo) (hA : ∀ q : Nat, s.heap.size ≤ q → Ap q) {r : Int32} {M' : jM} {F' : jF} {L' : jL} : ∀ (s1 : Int32) (s2 : Int32) (s3 : Int32) (s4 : Int32) (s5 : Int32) (s6 : Int32) (M : jM) (F : jF) (L : jL) (B : Nat → Nat) (H : Heap) (locs : List Loc) (ls : Array Slot), jH (dC, dI) jCl [(cA, .int), (cL, .long)] (mW cA cL A M F L) Ap s H locs → lv_has ls 5 [] → fMo_less_31 s1 s2 s3 s4 s5 s6 M F L = some (r, M', F', L') → W p l e (headSpec wMo_less rMo_less).room s m args below meth c H locs 0 0 (jQi below (dC, dI) jCl [(cA, .int), (cL, .long)] (fun _ : Nat → Nat => mW cA cL A (M') (F') (L')) Ap args s r) (F0 m 31 ls [.int s6, .int s5, .int s4, .int s3, .int s2, .int s1, .ref (A 0)]) := by
  obtain ⟨hx, hb, hml, hr, hts, hown, hlocks, hN⟩ := id hC
  have hj : ∀ w ∈ jw, w.before args s = true := fun w h => hts w (List.mem_cons_of_mem _ h)
  intro s1 s2 s3 s4 s5 s6 M F L B H locs ls hJ hl h
  unfold fMo_less_31 at h
  obtain ⟨q3, hq3, h⟩ := jbi_h h
  refine jcalli (w' := fun _ : Nat → Nat => mW cA cL A q3.2.1 q3.2.2.1 q3.2.2.2) (va_runV (As := [.int s1, .int s2, .int s3, .int s4, .int s5, .int s6]) (rest := []) ⟨hx, hb, hml, hown, hts⟩ (cMo_condition l dC dI cA cL A s1 s2 s3 s4 s5 s6 M F L B H.size hq3) (cwV 6 hts (jgoodV jw_695 jw_697 jws_18 jw_7 jw_698) rfl rfl rfl (by decide +kernel) ⟨Nat.le_of_ble_eq_true rfl, Nat.le_of_ble_eq_true rfl⟩) (jpreV hN hJ (ci := 6) (q0 := 0) rfl rfl) rfl rfl hl.1 rfl (lv_room (Nat.le_of_ble_eq_true rfl)) dMo_less_31 ⟨Nat.zero_le _, Nat.zero_le _⟩) hA hJ (fun B H locs hJ => ?_)
  cases h
  exact jreti (u := B) hx hb hr rfl hlocks hJ dMo_less_34 rfl
set_option maxHeartbeats 4000000 in
set_option maxRecDepth 100000 in
theorem uMo_less_30 {p : Program} {e : Env} {s : State} {m : MethodId} {args : Array Value} {below : List Frame} {meth : Method} {c : Code} (l : Launch) (dC : Nat → ClassId) (dI : Nat → Nat → Nat) (cA cL : ClassId) (A : Nat → Nat) (Ap : Nat → Prop) (hC : jAt p s m args meth c bMo_less 5 (some .int) wMo_less RMo) (hA : ∀ q : Nat, s.heap.size ≤ q → Ap q) {r : Int32} {M' : jM} {F' : jF} {L' : jL} : ∀ (s1 : Int32) (s2 : Int32) (s3 : Int32) (s4 : Int32) (s5 : Int32) (M : jM) (F : jF) (L : jL) (B : Nat → Nat) (H : Heap) (locs : List Loc) (ls : Array Slot), jH (dC, dI) jCl [(cA, .int), (cL, .long)] (mW cA cL A M F L) Ap s H locs → lv_has ls 5 [] → fMo_less_30 s1 s2 s3 s4 s5 M F L = some (r, M', F', L') → W p l e (headSpec wMo_less rMo_less).room s m args below meth c H locs 0 0 (jQi below (dC, dI) jCl [(cA, .int), (cL, .long)] (fun _ : Nat → Nat => mW cA cL A (M') (F') (L')) Ap args s r) (F0 m 30 ls [.int s5, .int s4, .int s3, .int s2, .int s1, .ref (A 0)]) := by
  obtain ⟨hx, hb, hml, hr, hts, hown, hlocks, hN⟩ := id hC
  have hj : ∀ w ∈ jw, w.before args s = true := fun w h => hts w (List.mem_cons_of_mem _ h)
  intro s1 s2 s3 s4 s5 M F L B H locs ls hJ hl h
  unfold fMo_less_30 at h
  refine lv_iconst (v := 0) hx hb dMo_less_30 (by decide) ?_
  exact uMo_less_31 l dC dI cA cL A Ap hC hA _ _ _ _ _ _ _ _ _ B _ _ _ hJ (lv_sub hl [] rfl) h
set_option maxHeartbeats 4000000 in
set_option maxRecDepth 100000 in
theorem uMo_less_0 {p : Program} {e : Env} {s : State} {m : MethodId} {args : Array Value} {below : List Frame} {meth : Method} {c : Code} (l : Launch) (dC : Nat → ClassId) (dI : Nat → Nat → Nat) (cA cL : ClassId) (A : Nat → Nat) (Ap : Nat → Prop) (hC : jAt p s m args meth c bMo_less 5 (some .int) wMo_less RMo) (hA : ∀ q : Nat, s.heap.size ≤ q → Ap q) {r : Int32} {M' : jM} {F' : jF} {L' : jL} : ∀ (x1 : Int32) (x2 : Int32) (x3 : Int32) (x4 : Int32) (M : jM) (F : jF) (L : jL) (B : Nat → Nat) (H : Heap) (locs : List Loc) (ls : Array Slot), jH (dC, dI) jCl [(cA, .int), (cL, .long)] (mW cA cL A M F L) Ap s H locs → lv_has ls 5 [(0, .ref (A 0)), (1, .int x1), (2, .int x2), (3, .int x3), (4, .int x4)] → fMo_less_0 x1 x2 x3 x4 M F L = some (r, M', F', L') → W p l e (headSpec wMo_less rMo_less).room s m args below meth c H locs 0 0 (jQi below (dC, dI) jCl [(cA, .int), (cL, .long)] (fun _ : Nat → Nat => mW cA cL A (M') (F') (L')) Ap args s r) (F0 m 0 ls []) := by
  obtain ⟨hx, hb, hml, hr, hts, hown, hlocks, hN⟩ := id hC
  have hj : ∀ w ∈ jw, w.before args s = true := fun w h => hts w (List.mem_cons_of_mem _ h)
  intro x1 x2 x3 x4 M F L B H locs ls hJ hl h
  unfold fMo_less_0 at h
  refine lv_aload_n hx hb dMo_less_0 rfl (lv_at hl 0 rfl) ?_
  refine lv_iconst (v := 2) hx hb dMo_less_1 (by decide) ?_
  refine lv_iload_n hx hb dMo_less_2 rfl (lv_at hl 1 rfl) ?_
  refine lv_iload_n hx hb dMo_less_3 rfl (lv_at hl 2 rfl) ?_
  refine lv_iload_n hx hb dMo_less_4 rfl (lv_at hl 3 rfl) ?_
  refine lv_iload hx hb dMo_less_5 (lv_at hl 4 rfl) ?_
  refine lv_aload_n hx hb dMo_less_7 rfl (lv_at hl 0 rfl) ?_
  refine lv_iload_n hx hb dMo_less_8 rfl (lv_at hl 1 rfl) ?_
  refine lv_iload_n hx hb dMo_less_9 rfl (lv_at hl 2 rfl) ?_
  obtain ⟨q1, hq1, h⟩ := jbi_h h
  refine jcalli (w' := fun _ : Nat → Nat => mW cA cL A M F L) (va_runV (As := [.int x1, .int x2]) (rest := [.int x4, .int x3, .int x2, .int x1, .int 2, .ref (A 0)]) ⟨hx, hb, hml, hown, hts⟩ (cMo_isColumn l dC dI cA cL A x1 x2 M F L B H.size hq1) (cwV 2 hts (jgoodV jw_691 jw_693 jws_17 jw_7 jw_694) rfl rfl rfl (by decide +kernel) ⟨Nat.le_of_ble_eq_true rfl, Nat.le_of_ble_eq_true rfl⟩) (jpreV hN hJ (ci := 6) (q0 := 0) rfl rfl) rfl rfl hl.1 rfl (lv_room (Nat.le_of_ble_eq_true rfl)) dMo_less_10 ⟨Nat.zero_le _, Nat.zero_le _⟩) hA hJ (fun B H locs hJ => ?_)
  refine lv_if_eq (tgt := 30) hx hb dMo_less_13 (by decide) (fun c2 => ?_) (fun c2 => ?_)
  · replace h := jif_t c2 h
    exact uMo_less_30 l dC dI cA cL A Ap hC hA _ _ _ _ _ _ _ _ B _ _ _ hJ (lv_sub hl [] rfl) h
  · replace h := jif_f c2 h
    refine lv_aload_n hx hb dMo_less_16 rfl (lv_at hl 0 rfl) ?_
    refine lv_iload_n hx hb dMo_less_17 rfl (lv_at hl 3 rfl) ?_
    refine lv_iload hx hb dMo_less_18 (lv_at hl 4 rfl) ?_
    obtain ⟨q4, hq4, h⟩ := jbi_h h
    refine jcalli (w' := fun _ : Nat → Nat => mW cA cL A M F L) (va_runV (As := [.int x3, .int x4]) (rest := [.int x4, .int x3, .int x2, .int x1, .int 2, .ref (A 0)]) ⟨hx, hb, hml, hown, hts⟩ (cMo_isColumn l dC dI cA cL A x3 x4 M F L B H.size hq4) (cwV 2 hts (jgoodV jw_691 jw_693 jws_17 jw_7 jw_694) rfl rfl rfl (by decide +kernel) ⟨Nat.le_of_ble_eq_true rfl, Nat.le_of_ble_eq_true rfl⟩) (jpreV hN hJ (ci := 6) (q0 := 0) rfl rfl) rfl rfl hl.1 rfl (lv_room (Nat.le_of_ble_eq_true rfl)) dMo_less_20 ⟨Nat.zero_le _, Nat.zero_le _⟩) hA hJ (fun B H locs hJ => ?_)
    refine lv_if_eq (tgt := 30) hx hb dMo_less_23 (by decide) (fun c5 => ?_) (fun c5 => ?_)
    · replace h := jif_t c5 h
      exact uMo_less_30 l dC dI cA cL A Ap hC hA _ _ _ _ _ _ _ _ B _ _ _ hJ (lv_sub hl [] rfl) h
    · replace h := jif_f c5 h
      refine lv_iconst (v := 1) hx hb dMo_less_26 (by decide) ?_
      refine lv_goto (tgt := 31) hx hb dMo_less_27 (by decide) ?_
      exact uMo_less_31 l dC dI cA cL A Ap hC hA _ _ _ _ _ _ _ _ _ B _ _ _ hJ (lv_sub hl [] rfl) h
set_option maxHeartbeats 4000000 in
set_option maxRecDepth 100000 in
theorem cMo_less (l : Launch) (dC : Nat → ClassId) (dI : Nat → Nat → Nat) (cA cL : ClassId) (A : Nat → Nat) (x1 : Int32) (x2 : Int32) (x3 : Int32) (x4 : Int32) (M : jM) (F : jF) (L : jL) (B : Nat → Nat) (sz : Nat) {r : Int32} {M' : jM} {F' : jF} {L' : jL} (h : fMo_less x1 x2 x3 x4 M F L = some (r, M', F', L')) : jCi l yMo_less wMo_less rMo_less (dC, dI) jCl [(cA, .int), (cL, .long)] [.ref (A 0), .int x1, .int x2, .int x3, .int x4] (mW cA cL A M F L) sz r (fun _ : Nat → Nat => mW cA cL A (M') (F') (L')) :=
  jOf (Qc := fun Ap => va_Qi (fun q (_ : Nat → Nat) => q = r) (jPost (dC, dI) jCl [(cA, .int), (cL, .long)] (fun _ : Nat → Nat => mW cA cL A (M') (F') (L')) Ap) Ap) (by decide) rfl (Nat.le_of_ble_eq_true rfl) (fun p e s m below meth c Ap ls hC hA hJ hl => uMo_less_0 l dC dI cA cL A Ap hC hA _ _ _ _ _ _ _ B _ _ _ hJ (lv_sub hl [0, 1, 2, 3, 4] rfl) h)
abbrev bMo_cell : ByteArray := prog_8_method_13_code
abbrev yMo_cell : MethodName := ⟨RMo, "cell", "(III)I"⟩
abbrev wMo_cell : List Cond := .code yMo_cell bMo_cell 4 (some .int) :: jw
theorem dMo_cell_0 : decode bMo_cell 0 = .ok (.aload_n 0, 1) := by decide +kernel
theorem dMo_cell_1 : decode bMo_cell 1 = .ok (.getfield 7, 3) := by decide +kernel
theorem dMo_cell_4 : decode bMo_cell 4 = .ok (.iconst 4, 1) := by decide +kernel
theorem dMo_cell_5 : decode bMo_cell 5 = .ok (.bipush 30, 2) := by decide +kernel
theorem dMo_cell_7 : decode bMo_cell 7 = .ok (.aload_n 0, 1) := by decide +kernel
theorem dMo_cell_8 : decode bMo_cell 8 = .ok (.getfield 19, 3) := by decide +kernel
theorem dMo_cell_11 : decode bMo_cell 11 = .ok (.iload_n 1, 1) := by decide +kernel
theorem dMo_cell_12 : decode bMo_cell 12 = .ok (.iaload, 1) := by decide +kernel
theorem dMo_cell_13 : decode bMo_cell 13 = .ok (.imul, 1) := by decide +kernel
theorem dMo_cell_14 : decode bMo_cell 14 = .ok (.iload_n 2, 1) := by decide +kernel
theorem dMo_cell_15 : decode bMo_cell 15 = .ok (.iadd, 1) := by decide +kernel
theorem dMo_cell_16 : decode bMo_cell 16 = .ok (.imul, 1) := by decide +kernel
theorem dMo_cell_17 : decode bMo_cell 17 = .ok (.iload_n 3, 1) := by decide +kernel
theorem dMo_cell_18 : decode bMo_cell 18 = .ok (.iadd, 1) := by decide +kernel
theorem dMo_cell_19 : decode bMo_cell 19 = .ok (.iaload, 1) := by decide +kernel
theorem dMo_cell_20 : decode bMo_cell 20 = .ok (.ireturn, 1) := by decide +kernel
abbrev rMo_cell : Room := { frames := 0, cells := 0, slots := 0, locals := 0 }
def fMo_cell_0 (x1 : Int32) (x2 : Int32) (x3 : Int32) (M : jM) (F : jF) (L : jL) : Option Int32 := (if jib x1 6 then (if jib ((4 * ((30 * (M 4 x1.toNatClampNeg)) + x2)) + x3) 720 then some (M 1 ((4 * ((30 * (M 4 x1.toNatClampNeg)) + x2)) + x3).toNatClampNeg) else none) else none)
abbrev fMo_cell (x1 : Int32) (x2 : Int32) (x3 : Int32) (M : jM) (F : jF) (L : jL) : Option Int32 := fMo_cell_0 x1 x2 x3 M F L
set_option maxHeartbeats 4000000 in
set_option maxRecDepth 100000 in
theorem uMo_cell_0 {p : Program} {e : Env} {s : State} {m : MethodId} {args : Array Value} {below : List Frame} {meth : Method} {c : Code} (l : Launch) (dC : Nat → ClassId) (dI : Nat → Nat → Nat) (cA cL : ClassId) (A : Nat → Nat) (Ap : Nat → Prop) (hC : jAt p s m args meth c bMo_cell 4 (some .int) wMo_cell RMo) (hA : ∀ q : Nat, s.heap.size ≤ q → Ap q) {r : Int32} : ∀ (x1 : Int32) (x2 : Int32) (x3 : Int32) (M : jM) (F : jF) (L : jL) (B : Nat → Nat) (H : Heap) (locs : List Loc) (ls : Array Slot), jH (dC, dI) jCl [(cA, .int), (cL, .long)] (mW cA cL A M F L) Ap s H locs → lv_has ls 4 [(0, .ref (A 0)), (1, .int x1), (2, .int x2), (3, .int x3)] → fMo_cell_0 x1 x2 x3 M F L = some r → W p l e (headSpec wMo_cell rMo_cell).room s m args below meth c H locs 0 0 (jQi below (dC, dI) jCl [(cA, .int), (cL, .long)] (fun _ : Nat → Nat => mW cA cL A M F L) Ap args s r) (F0 m 0 ls []) := by
  obtain ⟨hx, hb, hml, hr, hts, hown, hlocks, hN⟩ := id hC
  have hj : ∀ w ∈ jw, w.before args s = true := fun w h => hts w (List.mem_cons_of_mem _ h)
  intro x1 x2 x3 M F L B H locs ls hJ hl h
  unfold fMo_cell_0 at h
  refine lv_aload_n hx hb dMo_cell_0 rfl (lv_at hl 0 rfl) ?_
  refine mget_1 hx hb hj hown hJ (hj _ jw_600) dMo_cell_1 ?_
  refine lv_iconst (v := 4) hx hb dMo_cell_4 (by decide) ?_
  refine lv_bipush (v := 30) hx hb dMo_cell_5 (by decide) ?_
  refine lv_aload_n hx hb dMo_cell_7 rfl (lv_at hl 0 rfl) ?_
  refine mget_5 hx hb hj hown hJ (hj _ jw_604) dMo_cell_8 ?_
  refine lv_iload_n hx hb dMo_cell_11 rfl (lv_at hl 1 rfl) ?_
  obtain ⟨hi1, h⟩ := jib_h h
  refine mald_4 hx hb hJ hi1 dMo_cell_12 ?_
  refine lv_imul hx hb dMo_cell_13 ?_
  refine lv_iload_n hx hb dMo_cell_14 rfl (lv_at hl 2 rfl) ?_
  refine lv_iadd hx hb dMo_cell_15 ?_
  refine lv_imul hx hb dMo_cell_16 ?_
  refine lv_iload_n hx hb dMo_cell_17 rfl (lv_at hl 3 rfl) ?_
  refine lv_iadd hx hb dMo_cell_18 ?_
  obtain ⟨hi2, h⟩ := jib_h h
  refine mald_1 hx hb hJ hi2 dMo_cell_19 ?_
  exact jreti (u := B) hx hb hr rfl hlocks hJ dMo_cell_20 (Option.some.inj h)
set_option maxHeartbeats 4000000 in
set_option maxRecDepth 100000 in
theorem cMo_cell (l : Launch) (dC : Nat → ClassId) (dI : Nat → Nat → Nat) (cA cL : ClassId) (A : Nat → Nat) (x1 : Int32) (x2 : Int32) (x3 : Int32) (M : jM) (F : jF) (L : jL) (B : Nat → Nat) (sz : Nat) {r : Int32} (h : fMo_cell x1 x2 x3 M F L = some r) : jCi l yMo_cell wMo_cell rMo_cell (dC, dI) jCl [(cA, .int), (cL, .long)] [.ref (A 0), .int x1, .int x2, .int x3] (mW cA cL A M F L) sz r (fun _ : Nat → Nat => mW cA cL A M F L) :=
  jOf (Qc := fun Ap => va_Qi (fun q (_ : Nat → Nat) => q = r) (jPost (dC, dI) jCl [(cA, .int), (cL, .long)] (fun _ : Nat → Nat => mW cA cL A M F L) Ap) Ap) (by decide) rfl (Nat.le_of_ble_eq_true rfl) (fun p e s m below meth c Ap ls hC hA hJ hl => uMo_cell_0 l dC dI cA cL A Ap hC hA _ _ _ _ _ _ B _ _ _ hJ (lv_sub hl [0, 1, 2, 3] rfl) h)
abbrev bMo_spread : ByteArray := prog_8_method_14_code
abbrev yMo_spread : MethodName := ⟨RMo, "spread", "(II)I"⟩
abbrev wMo_spread : List Cond := .code yMo_spread bMo_spread 7 (some .int) :: jw
theorem dMo_spread_0 : decode bMo_spread 0 = .ok (.iconst 0, 1) := by decide +kernel
theorem dMo_spread_1 : decode bMo_spread 1 = .ok (.istore_n 3, 1) := by decide +kernel
theorem dMo_spread_2 : decode bMo_spread 2 = .ok (.iconst 0, 1) := by decide +kernel
theorem dMo_spread_3 : decode bMo_spread 3 = .ok (.istore 4, 2) := by decide +kernel
theorem dMo_spread_5 : decode bMo_spread 5 = .ok (.iload 4, 2) := by decide +kernel
theorem dMo_spread_7 : decode bMo_spread 7 = .ok (.aload_n 0, 1) := by decide +kernel
theorem dMo_spread_8 : decode bMo_spread 8 = .ok (.getfield 13, 3) := by decide +kernel
theorem dMo_spread_11 : decode bMo_spread 11 = .ok (.aload_n 0, 1) := by decide +kernel
theorem dMo_spread_12 : decode bMo_spread 12 = .ok (.getfield 19, 3) := by decide +kernel
theorem dMo_spread_15 : decode bMo_spread 15 = .ok (.iload_n 1, 1) := by decide +kernel
theorem dMo_spread_16 : decode bMo_spread 16 = .ok (.iaload, 1) := by decide +kernel
theorem dMo_spread_17 : decode bMo_spread 17 = .ok (.iaload, 1) := by decide +kernel
theorem dMo_spread_18 : decode bMo_spread 18 = .ok (.if_icmp .ge 72, 3) := by decide +kernel
theorem dMo_spread_21 : decode bMo_spread 21 = .ok (.iconst 1, 1) := by decide +kernel
theorem dMo_spread_22 : decode bMo_spread 22 = .ok (.istore 5, 2) := by decide +kernel
theorem dMo_spread_24 : decode bMo_spread 24 = .ok (.iconst 0, 1) := by decide +kernel
theorem dMo_spread_25 : decode bMo_spread 25 = .ok (.istore 6, 2) := by decide +kernel
theorem dMo_spread_27 : decode bMo_spread 27 = .ok (.iload 6, 2) := by decide +kernel
theorem dMo_spread_29 : decode bMo_spread 29 = .ok (.iload 4, 2) := by decide +kernel
theorem dMo_spread_31 : decode bMo_spread 31 = .ok (.if_icmp .ge 40, 3) := by decide +kernel
theorem dMo_spread_34 : decode bMo_spread 34 = .ok (.iload 5, 2) := by decide +kernel
theorem dMo_spread_36 : decode bMo_spread 36 = .ok (.ifCond .eq 26, 3) := by decide +kernel
theorem dMo_spread_39 : decode bMo_spread 39 = .ok (.aload_n 0, 1) := by decide +kernel
theorem dMo_spread_40 : decode bMo_spread 40 = .ok (.iload_n 1, 1) := by decide +kernel
theorem dMo_spread_41 : decode bMo_spread 41 = .ok (.iload 6, 2) := by decide +kernel
theorem dMo_spread_43 : decode bMo_spread 43 = .ok (.iload_n 2, 1) := by decide +kernel
theorem dMo_spread_44 : decode bMo_spread 44 = .ok (.invokevirtual 78, 3) := by decide +kernel
theorem dMo_spread_47 : decode bMo_spread 47 = .ok (.aload_n 0, 1) := by decide +kernel
theorem dMo_spread_48 : decode bMo_spread 48 = .ok (.iload_n 1, 1) := by decide +kernel
theorem dMo_spread_49 : decode bMo_spread 49 = .ok (.iload 4, 2) := by decide +kernel
theorem dMo_spread_51 : decode bMo_spread 51 = .ok (.iload_n 2, 1) := by decide +kernel
theorem dMo_spread_52 : decode bMo_spread 52 = .ok (.invokevirtual 78, 3) := by decide +kernel
theorem dMo_spread_55 : decode bMo_spread 55 = .ok (.if_icmp .eq 7, 3) := by decide +kernel
theorem dMo_spread_58 : decode bMo_spread 58 = .ok (.iconst 1, 1) := by decide +kernel
theorem dMo_spread_59 : decode bMo_spread 59 = .ok (.goto 4, 3) := by decide +kernel
theorem dMo_spread_62 : decode bMo_spread 62 = .ok (.iconst 0, 1) := by decide +kernel
theorem dMo_spread_63 : decode bMo_spread 63 = .ok (.istore 5, 2) := by decide +kernel
theorem dMo_spread_65 : decode bMo_spread 65 = .ok (.iinc 6 1, 3) := by decide +kernel
theorem dMo_spread_68 : decode bMo_spread 68 = .ok (.goto (-41), 3) := by decide +kernel
theorem dMo_spread_71 : decode bMo_spread 71 = .ok (.iload_n 3, 1) := by decide +kernel
theorem dMo_spread_72 : decode bMo_spread 72 = .ok (.iload 5, 2) := by decide +kernel
theorem dMo_spread_74 : decode bMo_spread 74 = .ok (.ifCond .eq 7, 3) := by decide +kernel
theorem dMo_spread_77 : decode bMo_spread 77 = .ok (.iconst 1, 1) := by decide +kernel
theorem dMo_spread_78 : decode bMo_spread 78 = .ok (.goto 4, 3) := by decide +kernel
theorem dMo_spread_81 : decode bMo_spread 81 = .ok (.iconst 0, 1) := by decide +kernel
theorem dMo_spread_82 : decode bMo_spread 82 = .ok (.iadd, 1) := by decide +kernel
theorem dMo_spread_83 : decode bMo_spread 83 = .ok (.istore_n 3, 1) := by decide +kernel
theorem dMo_spread_84 : decode bMo_spread 84 = .ok (.iinc 4 1, 3) := by decide +kernel
theorem dMo_spread_87 : decode bMo_spread 87 = .ok (.goto (-82), 3) := by decide +kernel
theorem dMo_spread_90 : decode bMo_spread 90 = .ok (.iload_n 3, 1) := by decide +kernel
theorem dMo_spread_91 : decode bMo_spread 91 = .ok (.ifCond .ne 7, 3) := by decide +kernel
theorem dMo_spread_94 : decode bMo_spread 94 = .ok (.iconst 1, 1) := by decide +kernel
theorem dMo_spread_95 : decode bMo_spread 95 = .ok (.goto 4, 3) := by decide +kernel
theorem dMo_spread_98 : decode bMo_spread 98 = .ok (.iload_n 3, 1) := by decide +kernel
theorem dMo_spread_99 : decode bMo_spread 99 = .ok (.ireturn, 1) := by decide +kernel
abbrev rMo_spread : Room := { frames := 1, cells := 0, slots := 0, locals := 23 }
def fMo_spread_27 (k71 : Int32 → Int32 → Int32 → Int32 → Int32 → jM → jF → jL → Option Int32) : Nat → Int32 → Int32 → Int32 → Int32 → Int32 → Int32 → jM → jF → jL → Option Int32
  | 0, _, _, _, _, _, _, _, _, _ => none
  | n + 1, x1, x2, x3, x4, x5, x6, M, F, L => (if x4 ≤ x6 then k71 x1 x2 x3 x4 x5 M F L else (if x5 = 0 then fMo_spread_27 k71 n x1 x2 x3 x4 0 (x6 + 1) M F L else ((fMo_cell x1 x6 x2 M F L).bind fun q7 => ((fMo_cell x1 x4 x2 M F L).bind fun q8 => (if q7 = q8 then fMo_spread_27 k71 n x1 x2 x3 x4 0 (x6 + 1) M F L else fMo_spread_27 k71 n x1 x2 x3 x4 1 (x6 + 1) M F L)))))
def fMo_spread_82 (k5 : Int32 → Int32 → Int32 → Int32 → jM → jF → jL → Option Int32) (x1 : Int32) (x2 : Int32) (x4 : Int32) (s0 : Int32) (s1 : Int32) (M : jM) (F : jF) (L : jL) : Option Int32 := k5 x1 x2 (s0 + s1) (x4 + 1) M F L
def fMo_spread_5 : Nat → Int32 → Int32 → Int32 → Int32 → jM → jF → jL → Option Int32
  | 0, _, _, _, _, _, _, _ => none
  | n + 1, x1, x2, x3, x4, M, F, L => (if jib x1 6 then (if jib (M 4 x1.toNatClampNeg) 6 then (if (M 2 (M 4 x1.toNatClampNeg).toNatClampNeg) ≤ x4 then (if x3 = 0 then some 1 else some x3) else fMo_spread_27 (fun x1 x2 x3 x4 x5 M F L => (if x5 = 0 then fMo_spread_82 (fun x1 x2 x3 x4 M F L => fMo_spread_5 n x1 x2 x3 x4 M F L) x1 x2 x4 x3 0 M F L else fMo_spread_82 (fun x1 x2 x3 x4 M F L => fMo_spread_5 n x1 x2 x3 x4 M F L) x1 x2 x4 x3 1 M F L)) jfuel x1 x2 x3 x4 1 0 M F L) else none) else none)
def fMo_spread_0 (x1 : Int32) (x2 : Int32) (M : jM) (F : jF) (L : jL) : Option Int32 := fMo_spread_5 jfuel x1 x2 0 0 M F L
abbrev fMo_spread (x1 : Int32) (x2 : Int32) (M : jM) (F : jF) (L : jL) : Option Int32 := fMo_spread_0 x1 x2 M F L
set_option maxHeartbeats 4000000 in
set_option maxRecDepth 100000 in
theorem uMo_spread_27 {p : Program} {e : Env} {s : State} {m : MethodId} {args : Array Value} {below : List Frame} {meth : Method} {c : Code} (l : Launch) (dC : Nat → ClassId) (dI : Nat → Nat → Nat) (cA cL : ClassId) (A : Nat → Nat) (Ap : Nat → Prop) (hC : jAt p s m args meth c bMo_spread 7 (some .int) wMo_spread RMo) (hA : ∀ q : Nat, s.heap.size ≤ q → Ap q) {r : Int32} (k71 : Int32 → Int32 → Int32 → Int32 → Int32 → jM → jF → jL → Option Int32) (hk71 : ∀ (x1 : Int32) (x2 : Int32) (x3 : Int32) (x4 : Int32) (x5 : Int32) (M : jM) (F : jF) (L : jL) (B : Nat → Nat) (H : Heap) (locs : List Loc) (ls : Array Slot), jH (dC, dI) jCl [(cA, .int), (cL, .long)] (mW cA cL A M F L) Ap s H locs → lv_has ls 7 [(0, .ref (A 0)), (1, .int x1), (2, .int x2), (3, .int x3), (4, .int x4), (5, .int x5)] → k71 x1 x2 x3 x4 x5 M F L = some r → W p l e (headSpec wMo_spread rMo_spread).room s m args below meth c H locs 0 0 (jQi below (dC, dI) jCl [(cA, .int), (cL, .long)] (fun _ : Nat → Nat => mW cA cL A M F L) Ap args s r) (F0 m 71 ls [])) : ∀ (n : Nat) (x1 : Int32) (x2 : Int32) (x3 : Int32) (x4 : Int32) (x5 : Int32) (x6 : Int32) (M : jM) (F : jF) (L : jL) (B : Nat → Nat) (H : Heap) (locs : List Loc) (ls : Array Slot), jH (dC, dI) jCl [(cA, .int), (cL, .long)] (mW cA cL A M F L) Ap s H locs → lv_has ls 7 [(0, .ref (A 0)), (1, .int x1), (2, .int x2), (3, .int x3), (4, .int x4), (5, .int x5), (6, .int x6)] → fMo_spread_27 k71 n x1 x2 x3 x4 x5 x6 M F L = some r → W p l e (headSpec wMo_spread rMo_spread).room s m args below meth c H locs 0 0 (jQi below (dC, dI) jCl [(cA, .int), (cL, .long)] (fun _ : Nat → Nat => mW cA cL A M F L) Ap args s r) (F0 m 27 ls []) := by
  obtain ⟨hx, hb, hml, hr, hts, hown, hlocks, hN⟩ := id hC
  have hj : ∀ w ∈ jw, w.before args s = true := fun w h => hts w (List.mem_cons_of_mem _ h)
  intro n
  induction n with
  | zero =>
    intro x1 x2 x3 x4 x5 x6 M F L B H locs ls hJ hl h
    rw [fMo_spread_27] at h
    cases h
  | succ n ih =>
    intro x1 x2 x3 x4 x5 x6 M F L B H locs ls hJ hl h
    rw [fMo_spread_27] at h
    refine lv_iload hx hb dMo_spread_27 (lv_at hl 6 rfl) ?_
    refine lv_iload hx hb dMo_spread_29 (lv_at hl 4 rfl) ?_
    refine lv_icmp_ge (tgt := 71) hx hb dMo_spread_31 (by decide) (fun c5 => ?_) (fun c5 => ?_)
    · replace h := jif_t c5 h
      exact hk71 _ _ _ _ _ _ _ _ B _ _ _ hJ (lv_sub hl [0, 1, 2, 3, 4, 5] rfl) h
    · replace h := jif_f c5 h
      refine lv_iload hx hb dMo_spread_34 (lv_at hl 5 rfl) ?_
      refine lv_if_eq (tgt := 62) hx hb dMo_spread_36 (by decide) (fun c6 => ?_) (fun c6 => ?_)
      · replace h := jif_t c6 h
        refine lv_iconst (v := 0) hx hb dMo_spread_62 (by decide) ?_
        refine lv_istore (lv' := [(5, .int 0), (0, .ref (A 0)), (1, .int x1), (2, .int x2), (3, .int x3), (4, .int x4), (6, .int x6)]) hx hb dMo_spread_63 hl (by decide) rfl (fun ls hl => ?_)
        refine lv_iinc (v := x6 + 1) (lv' := [(6, .int (x6 + 1)), (5, .int 0), (0, .ref (A 0)), (1, .int x1), (2, .int x2), (3, .int x3), (4, .int x4)]) hx hb dMo_spread_65 hl (k := 6) rfl rfl (by decide) rfl (fun ls hl => ?_)
        refine lv_goto (tgt := 27) hx hb dMo_spread_68 (by decide) ?_
        exact ih _ _ _ _ _ _ _ _ _ B _ _ _ hJ (lv_sub hl [2, 3, 4, 5, 6, 1, 0] rfl) h
      · replace h := jif_f c6 h
        refine lv_aload_n hx hb dMo_spread_39 rfl (lv_at hl 0 rfl) ?_
        refine lv_iload_n hx hb dMo_spread_40 rfl (lv_at hl 1 rfl) ?_
        refine lv_iload hx hb dMo_spread_41 (lv_at hl 6 rfl) ?_
        refine lv_iload_n hx hb dMo_spread_43 rfl (lv_at hl 2 rfl) ?_
        obtain ⟨q7, hq7, h⟩ := jbi_h h
        refine jcalli (w' := fun _ : Nat → Nat => mW cA cL A M F L) (va_runV (As := [.int x1, .int x6, .int x2]) (rest := []) ⟨hx, hb, hml, hown, hts⟩ (cMo_cell l dC dI cA cL A x1 x6 x2 M F L B H.size hq7) (cwV 3 hts (jgoodV jw_735 jw_737 jws_25 jw_7 jw_738) rfl rfl rfl (by decide +kernel) ⟨Nat.le_of_ble_eq_true rfl, Nat.le_of_ble_eq_true rfl⟩) (jpreV hN hJ (ci := 6) (q0 := 0) rfl rfl) rfl rfl hl.1 rfl (lv_room (Nat.le_of_ble_eq_true rfl)) dMo_spread_44 ⟨Nat.zero_le _, Nat.zero_le _⟩) hA hJ (fun B H locs hJ => ?_)
        refine lv_aload_n hx hb dMo_spread_47 rfl (lv_at hl 0 rfl) ?_
        refine lv_iload_n hx hb dMo_spread_48 rfl (lv_at hl 1 rfl) ?_
        refine lv_iload hx hb dMo_spread_49 (lv_at hl 4 rfl) ?_
        refine lv_iload_n hx hb dMo_spread_51 rfl (lv_at hl 2 rfl) ?_
        obtain ⟨q8, hq8, h⟩ := jbi_h h
        refine jcalli (w' := fun _ : Nat → Nat => mW cA cL A M F L) (va_runV (As := [.int x1, .int x4, .int x2]) (rest := [.int q7]) ⟨hx, hb, hml, hown, hts⟩ (cMo_cell l dC dI cA cL A x1 x4 x2 M F L B H.size hq8) (cwV 3 hts (jgoodV jw_735 jw_737 jws_25 jw_7 jw_738) rfl rfl rfl (by decide +kernel) ⟨Nat.le_of_ble_eq_true rfl, Nat.le_of_ble_eq_true rfl⟩) (jpreV hN hJ (ci := 6) (q0 := 0) rfl rfl) rfl rfl hl.1 rfl (lv_room (Nat.le_of_ble_eq_true rfl)) dMo_spread_52 ⟨Nat.zero_le _, Nat.zero_le _⟩) hA hJ (fun B H locs hJ => ?_)
        refine lv_icmp_eq (tgt := 62) hx hb dMo_spread_55 (by decide) (fun c9 => ?_) (fun c9 => ?_)
        · replace h := jif_t c9 h
          refine lv_iconst (v := 0) hx hb dMo_spread_62 (by decide) ?_
          refine lv_istore (lv' := [(5, .int 0), (0, .ref (A 0)), (1, .int x1), (2, .int x2), (3, .int x3), (4, .int x4), (6, .int x6)]) hx hb dMo_spread_63 hl (by decide) rfl (fun ls hl => ?_)
          refine lv_iinc (v := x6 + 1) (lv' := [(6, .int (x6 + 1)), (5, .int 0), (0, .ref (A 0)), (1, .int x1), (2, .int x2), (3, .int x3), (4, .int x4)]) hx hb dMo_spread_65 hl (k := 6) rfl rfl (by decide) rfl (fun ls hl => ?_)
          refine lv_goto (tgt := 27) hx hb dMo_spread_68 (by decide) ?_
          exact ih _ _ _ _ _ _ _ _ _ B _ _ _ hJ (lv_sub hl [2, 3, 4, 5, 6, 1, 0] rfl) h
        · replace h := jif_f c9 h
          refine lv_iconst (v := 1) hx hb dMo_spread_58 (by decide) ?_
          refine lv_goto (tgt := 63) hx hb dMo_spread_59 (by decide) ?_
          refine lv_istore (lv' := [(5, .int 1), (0, .ref (A 0)), (1, .int x1), (2, .int x2), (3, .int x3), (4, .int x4), (6, .int x6)]) hx hb dMo_spread_63 hl (by decide) rfl (fun ls hl => ?_)
          refine lv_iinc (v := x6 + 1) (lv' := [(6, .int (x6 + 1)), (5, .int 1), (0, .ref (A 0)), (1, .int x1), (2, .int x2), (3, .int x3), (4, .int x4)]) hx hb dMo_spread_65 hl (k := 6) rfl rfl (by decide) rfl (fun ls hl => ?_)
          refine lv_goto (tgt := 27) hx hb dMo_spread_68 (by decide) ?_
          exact ih _ _ _ _ _ _ _ _ _ B _ _ _ hJ (lv_sub hl [2, 3, 4, 5, 6, 1, 0] rfl) h
set_option maxHeartbeats 4000000 in
set_option maxRecDepth 100000 in
theorem uMo_spread_82 {p : Program} {e : Env} {s : State} {m : MethodId} {args : Array Value} {below : List Frame} {meth : Method} {c : Code} (l : Launch) (dC : Nat → ClassId) (dI : Nat → Nat → Nat) (cA cL : ClassId) (A : Nat → Nat) (Ap : Nat → Prop) (hC : jAt p s m args meth c bMo_spread 7 (some .int) wMo_spread RMo) (hA : ∀ q : Nat, s.heap.size ≤ q → Ap q) {r : Int32} (k5 : Int32 → Int32 → Int32 → Int32 → jM → jF → jL → Option Int32) (hk5 : ∀ (x1 : Int32) (x2 : Int32) (x3 : Int32) (x4 : Int32) (M : jM) (F : jF) (L : jL) (B : Nat → Nat) (H : Heap) (locs : List Loc) (ls : Array Slot), jH (dC, dI) jCl [(cA, .int), (cL, .long)] (mW cA cL A M F L) Ap s H locs → lv_has ls 7 [(0, .ref (A 0)), (1, .int x1), (2, .int x2), (3, .int x3), (4, .int x4)] → k5 x1 x2 x3 x4 M F L = some r → W p l e (headSpec wMo_spread rMo_spread).room s m args below meth c H locs 0 0 (jQi below (dC, dI) jCl [(cA, .int), (cL, .long)] (fun _ : Nat → Nat => mW cA cL A M F L) Ap args s r) (F0 m 5 ls [])) : ∀ (x1 : Int32) (x2 : Int32) (x4 : Int32) (s0 : Int32) (s1 : Int32) (M : jM) (F : jF) (L : jL) (B : Nat → Nat) (H : Heap) (locs : List Loc) (ls : Array Slot), jH (dC, dI) jCl [(cA, .int), (cL, .long)] (mW cA cL A M F L) Ap s H locs → lv_has ls 7 [(0, .ref (A 0)), (1, .int x1), (2, .int x2), (4, .int x4)] → fMo_spread_82 k5 x1 x2 x4 s0 s1 M F L = some r → W p l e (headSpec wMo_spread rMo_spread).room s m args below meth c H locs 0 0 (jQi below (dC, dI) jCl [(cA, .int), (cL, .long)] (fun _ : Nat → Nat => mW cA cL A M F L) Ap args s r) (F0 m 82 ls [.int s1, .int s0]) := by
  obtain ⟨hx, hb, hml, hr, hts, hown, hlocks, hN⟩ := id hC
  have hj : ∀ w ∈ jw, w.before args s = true := fun w h => hts w (List.mem_cons_of_mem _ h)
  intro x1 x2 x4 s0 s1 M F L B H locs ls hJ hl h
  unfold fMo_spread_82 at h
  refine lv_iadd hx hb dMo_spread_82 ?_
  refine lv_istore_n (lv' := [(3, .int (s0 + s1)), (0, .ref (A 0)), (1, .int x1), (2, .int x2), (4, .int x4)]) hx hb dMo_spread_83 rfl hl (by decide) rfl (fun ls hl => ?_)
  refine lv_iinc (v := x4 + 1) (lv' := [(4, .int (x4 + 1)), (3, .int (s0 + s1)), (0, .ref (A 0)), (1, .int x1), (2, .int x2)]) hx hb dMo_spread_84 hl (k := 4) rfl rfl (by decide) rfl (fun ls hl => ?_)
  refine lv_goto (tgt := 5) hx hb dMo_spread_87 (by decide) ?_
  exact hk5 _ _ _ _ _ _ _ B _ _ _ hJ (lv_sub hl [2, 3, 4, 1, 0] rfl) h
set_option maxHeartbeats 4000000 in
set_option maxRecDepth 100000 in
theorem uMo_spread_5 {p : Program} {e : Env} {s : State} {m : MethodId} {args : Array Value} {below : List Frame} {meth : Method} {c : Code} (l : Launch) (dC : Nat → ClassId) (dI : Nat → Nat → Nat) (cA cL : ClassId) (A : Nat → Nat) (Ap : Nat → Prop) (hC : jAt p s m args meth c bMo_spread 7 (some .int) wMo_spread RMo) (hA : ∀ q : Nat, s.heap.size ≤ q → Ap q) {r : Int32} : ∀ (n : Nat) (x1 : Int32) (x2 : Int32) (x3 : Int32) (x4 : Int32) (M : jM) (F : jF) (L : jL) (B : Nat → Nat) (H : Heap) (locs : List Loc) (ls : Array Slot), jH (dC, dI) jCl [(cA, .int), (cL, .long)] (mW cA cL A M F L) Ap s H locs → lv_has ls 7 [(0, .ref (A 0)), (1, .int x1), (2, .int x2), (3, .int x3), (4, .int x4)] → fMo_spread_5 n x1 x2 x3 x4 M F L = some r → W p l e (headSpec wMo_spread rMo_spread).room s m args below meth c H locs 0 0 (jQi below (dC, dI) jCl [(cA, .int), (cL, .long)] (fun _ : Nat → Nat => mW cA cL A M F L) Ap args s r) (F0 m 5 ls []) := by
  obtain ⟨hx, hb, hml, hr, hts, hown, hlocks, hN⟩ := id hC
  have hj : ∀ w ∈ jw, w.before args s = true := fun w h => hts w (List.mem_cons_of_mem _ h)
  intro n
  induction n with
  | zero =>
    intro x1 x2 x3 x4 M F L B H locs ls hJ hl h
    rw [fMo_spread_5] at h
    cases h
  | succ n ih =>
    intro x1 x2 x3 x4 M F L B H locs ls hJ hl h
    rw [fMo_spread_5] at h
    refine lv_iload hx hb dMo_spread_5 (lv_at hl 4 rfl) ?_
    refine lv_aload_n hx hb dMo_spread_7 rfl (lv_at hl 0 rfl) ?_
    refine mget_2 hx hb hj hown hJ (hj _ jw_601) dMo_spread_8 ?_
    refine lv_aload_n hx hb dMo_spread_11 rfl (lv_at hl 0 rfl) ?_
    refine mget_5 hx hb hj hown hJ (hj _ jw_604) dMo_spread_12 ?_
    refine lv_iload_n hx hb dMo_spread_15 rfl (lv_at hl 1 rfl) ?_
    obtain ⟨hi1, h⟩ := jib_h h
    refine mald_4 hx hb hJ hi1 dMo_spread_16 ?_
    obtain ⟨hi2, h⟩ := jib_h h
    refine mald_2 hx hb hJ hi2 dMo_spread_17 ?_
    refine lv_icmp_ge (tgt := 90) hx hb dMo_spread_18 (by decide) (fun c3 => ?_) (fun c3 => ?_)
    · replace h := jif_t c3 h
      refine lv_iload_n hx hb dMo_spread_90 rfl (lv_at hl 3 rfl) ?_
      refine lv_if_ne (tgt := 98) hx hb dMo_spread_91 (by decide) (fun c4 => ?_) (fun c4 => ?_)
      · replace h := jif_f c4 h
        refine lv_iload_n hx hb dMo_spread_98 rfl (lv_at hl 3 rfl) ?_
        exact jreti (u := B) hx hb hr rfl hlocks hJ dMo_spread_99 (Option.some.inj h)
      · replace h := jif_t c4 h
        refine lv_iconst (v := 1) hx hb dMo_spread_94 (by decide) ?_
        refine lv_goto (tgt := 99) hx hb dMo_spread_95 (by decide) ?_
        exact jreti (u := B) hx hb hr rfl hlocks hJ dMo_spread_99 (Option.some.inj h)
    · replace h := jif_f c3 h
      refine lv_iconst (v := 1) hx hb dMo_spread_21 (by decide) ?_
      refine lv_istore (lv' := [(5, .int 1), (0, .ref (A 0)), (1, .int x1), (2, .int x2), (3, .int x3), (4, .int x4)]) hx hb dMo_spread_22 hl (by decide) rfl (fun ls hl => ?_)
      refine lv_iconst (v := 0) hx hb dMo_spread_24 (by decide) ?_
      refine lv_istore (lv' := [(6, .int 0), (5, .int 1), (0, .ref (A 0)), (1, .int x1), (2, .int x2), (3, .int x3), (4, .int x4)]) hx hb dMo_spread_25 hl (by decide) rfl (fun ls hl => ?_)
      refine uMo_spread_27 l dC dI cA cL A Ap hC hA _ ?_ jfuel _ _ _ _ _ _ _ _ _ B _ _ _ hJ (lv_sub hl [2, 3, 4, 5, 6, 1, 0] rfl) h
      · intro x1 x2 x3 x4 x5 M F L B H locs ls hJ hl h
        refine lv_iload_n hx hb dMo_spread_71 rfl (lv_at hl 3 rfl) ?_
        refine lv_iload hx hb dMo_spread_72 (lv_at hl 5 rfl) ?_
        refine lv_if_eq (tgt := 81) hx hb dMo_spread_74 (by decide) (fun c10 => ?_) (fun c10 => ?_)
        · replace h := jif_t c10 h
          refine lv_iconst (v := 0) hx hb dMo_spread_81 (by decide) ?_
          refine uMo_spread_82 l dC dI cA cL A Ap hC hA _ ?_ _ _ _ _ _ _ _ _ B _ _ _ hJ (lv_sub hl [0, 1, 2, 4] rfl) h
          · intro x1 x2 x3 x4 M F L B H locs ls hJ hl h
            exact ih _ _ _ _ _ _ _ B _ _ _ hJ (lv_sub hl [0, 1, 2, 3, 4] rfl) h
        · replace h := jif_f c10 h
          refine lv_iconst (v := 1) hx hb dMo_spread_77 (by decide) ?_
          refine lv_goto (tgt := 82) hx hb dMo_spread_78 (by decide) ?_
          refine uMo_spread_82 l dC dI cA cL A Ap hC hA _ ?_ _ _ _ _ _ _ _ _ B _ _ _ hJ (lv_sub hl [0, 1, 2, 4] rfl) h
          · intro x1 x2 x3 x4 M F L B H locs ls hJ hl h
            exact ih _ _ _ _ _ _ _ B _ _ _ hJ (lv_sub hl [0, 1, 2, 3, 4] rfl) h
set_option maxHeartbeats 4000000 in
set_option maxRecDepth 100000 in
theorem uMo_spread_0 {p : Program} {e : Env} {s : State} {m : MethodId} {args : Array Value} {below : List Frame} {meth : Method} {c : Code} (l : Launch) (dC : Nat → ClassId) (dI : Nat → Nat → Nat) (cA cL : ClassId) (A : Nat → Nat) (Ap : Nat → Prop) (hC : jAt p s m args meth c bMo_spread 7 (some .int) wMo_spread RMo) (hA : ∀ q : Nat, s.heap.size ≤ q → Ap q) {r : Int32} : ∀ (x1 : Int32) (x2 : Int32) (M : jM) (F : jF) (L : jL) (B : Nat → Nat) (H : Heap) (locs : List Loc) (ls : Array Slot), jH (dC, dI) jCl [(cA, .int), (cL, .long)] (mW cA cL A M F L) Ap s H locs → lv_has ls 7 [(0, .ref (A 0)), (1, .int x1), (2, .int x2)] → fMo_spread_0 x1 x2 M F L = some r → W p l e (headSpec wMo_spread rMo_spread).room s m args below meth c H locs 0 0 (jQi below (dC, dI) jCl [(cA, .int), (cL, .long)] (fun _ : Nat → Nat => mW cA cL A M F L) Ap args s r) (F0 m 0 ls []) := by
  obtain ⟨hx, hb, hml, hr, hts, hown, hlocks, hN⟩ := id hC
  have hj : ∀ w ∈ jw, w.before args s = true := fun w h => hts w (List.mem_cons_of_mem _ h)
  intro x1 x2 M F L B H locs ls hJ hl h
  unfold fMo_spread_0 at h
  refine lv_iconst (v := 0) hx hb dMo_spread_0 (by decide) ?_
  refine lv_istore_n (lv' := [(3, .int 0), (0, .ref (A 0)), (1, .int x1), (2, .int x2)]) hx hb dMo_spread_1 rfl hl (by decide) rfl (fun ls hl => ?_)
  refine lv_iconst (v := 0) hx hb dMo_spread_2 (by decide) ?_
  refine lv_istore (lv' := [(4, .int 0), (3, .int 0), (0, .ref (A 0)), (1, .int x1), (2, .int x2)]) hx hb dMo_spread_3 hl (by decide) rfl (fun ls hl => ?_)
  exact uMo_spread_5 l dC dI cA cL A Ap hC hA jfuel _ _ _ _ _ _ _ B _ _ _ hJ (lv_sub hl [2, 3, 4, 1, 0] rfl) h
set_option maxHeartbeats 4000000 in
set_option maxRecDepth 100000 in
theorem cMo_spread (l : Launch) (dC : Nat → ClassId) (dI : Nat → Nat → Nat) (cA cL : ClassId) (A : Nat → Nat) (x1 : Int32) (x2 : Int32) (M : jM) (F : jF) (L : jL) (B : Nat → Nat) (sz : Nat) {r : Int32} (h : fMo_spread x1 x2 M F L = some r) : jCi l yMo_spread wMo_spread rMo_spread (dC, dI) jCl [(cA, .int), (cL, .long)] [.ref (A 0), .int x1, .int x2] (mW cA cL A M F L) sz r (fun _ : Nat → Nat => mW cA cL A M F L) :=
  jOf (Qc := fun Ap => va_Qi (fun q (_ : Nat → Nat) => q = r) (jPost (dC, dI) jCl [(cA, .int), (cL, .long)] (fun _ : Nat → Nat => mW cA cL A M F L) Ap) Ap) (by decide) rfl (Nat.le_of_ble_eq_true rfl) (fun p e s m below meth c Ap ls hC hA hJ hl => uMo_spread_0 l dC dI cA cL A Ap hC hA _ _ _ _ _ B _ _ _ hJ (lv_sub hl [0, 1, 2] rfl) h)
abbrev bMo_divisor : ByteArray := prog_8_method_15_code
abbrev yMo_divisor : MethodName := ⟨RMo, "divisor", "(I)I"⟩
abbrev wMo_divisor : List Cond := .code yMo_divisor bMo_divisor 4 (some .int) :: jw
theorem dMo_divisor_0 : decode bMo_divisor 0 = .ok (.aload_n 0, 1) := by decide +kernel
theorem dMo_divisor_1 : decode bMo_divisor 1 = .ok (.getfield 22, 3) := by decide +kernel
theorem dMo_divisor_4 : decode bMo_divisor 4 = .ok (.iload_n 1, 1) := by decide +kernel
theorem dMo_divisor_5 : decode bMo_divisor 5 = .ok (.iaload, 1) := by decide +kernel
theorem dMo_divisor_6 : decode bMo_divisor 6 = .ok (.iconst 2, 1) := by decide +kernel
theorem dMo_divisor_7 : decode bMo_divisor 7 = .ok (.if_icmp .ne 5, 3) := by decide +kernel
theorem dMo_divisor_10 : decode bMo_divisor 10 = .ok (.iconst 3, 1) := by decide +kernel
theorem dMo_divisor_11 : decode bMo_divisor 11 = .ok (.ireturn, 1) := by decide +kernel
theorem dMo_divisor_12 : decode bMo_divisor 12 = .ok (.aload_n 0, 1) := by decide +kernel
theorem dMo_divisor_13 : decode bMo_divisor 13 = .ok (.aload_n 0, 1) := by decide +kernel
theorem dMo_divisor_14 : decode bMo_divisor 14 = .ok (.getfield 25, 3) := by decide +kernel
theorem dMo_divisor_17 : decode bMo_divisor 17 = .ok (.iload_n 1, 1) := by decide +kernel
theorem dMo_divisor_18 : decode bMo_divisor 18 = .ok (.iaload, 1) := by decide +kernel
theorem dMo_divisor_19 : decode bMo_divisor 19 = .ok (.aload_n 0, 1) := by decide +kernel
theorem dMo_divisor_20 : decode bMo_divisor 20 = .ok (.getfield 28, 3) := by decide +kernel
theorem dMo_divisor_23 : decode bMo_divisor 23 = .ok (.iload_n 1, 1) := by decide +kernel
theorem dMo_divisor_24 : decode bMo_divisor 24 = .ok (.iaload, 1) := by decide +kernel
theorem dMo_divisor_25 : decode bMo_divisor 25 = .ok (.invokevirtual 82, 3) := by decide +kernel
theorem dMo_divisor_28 : decode bMo_divisor 28 = .ok (.istore_n 2, 1) := by decide +kernel
theorem dMo_divisor_29 : decode bMo_divisor 29 = .ok (.aload_n 0, 1) := by decide +kernel
theorem dMo_divisor_30 : decode bMo_divisor 30 = .ok (.getfield 22, 3) := by decide +kernel
theorem dMo_divisor_33 : decode bMo_divisor 33 = .ok (.iload_n 1, 1) := by decide +kernel
theorem dMo_divisor_34 : decode bMo_divisor 34 = .ok (.iaload, 1) := by decide +kernel
theorem dMo_divisor_35 : decode bMo_divisor 35 = .ok (.iconst 1, 1) := by decide +kernel
theorem dMo_divisor_36 : decode bMo_divisor 36 = .ok (.if_icmp .ne 7, 3) := by decide +kernel
theorem dMo_divisor_39 : decode bMo_divisor 39 = .ok (.iload_n 2, 1) := by decide +kernel
theorem dMo_divisor_40 : decode bMo_divisor 40 = .ok (.goto 19, 3) := by decide +kernel
theorem dMo_divisor_43 : decode bMo_divisor 43 = .ok (.aload_n 0, 1) := by decide +kernel
theorem dMo_divisor_44 : decode bMo_divisor 44 = .ok (.aload_n 0, 1) := by decide +kernel
theorem dMo_divisor_45 : decode bMo_divisor 45 = .ok (.getfield 31, 3) := by decide +kernel
theorem dMo_divisor_48 : decode bMo_divisor 48 = .ok (.iload_n 1, 1) := by decide +kernel
theorem dMo_divisor_49 : decode bMo_divisor 49 = .ok (.iaload, 1) := by decide +kernel
theorem dMo_divisor_50 : decode bMo_divisor 50 = .ok (.aload_n 0, 1) := by decide +kernel
theorem dMo_divisor_51 : decode bMo_divisor 51 = .ok (.getfield 34, 3) := by decide +kernel
theorem dMo_divisor_54 : decode bMo_divisor 54 = .ok (.iload_n 1, 1) := by decide +kernel
theorem dMo_divisor_55 : decode bMo_divisor 55 = .ok (.iaload, 1) := by decide +kernel
theorem dMo_divisor_56 : decode bMo_divisor 56 = .ok (.invokevirtual 82, 3) := by decide +kernel
theorem dMo_divisor_59 : decode bMo_divisor 59 = .ok (.istore_n 3, 1) := by decide +kernel
theorem dMo_divisor_60 : decode bMo_divisor 60 = .ok (.iload_n 2, 1) := by decide +kernel
theorem dMo_divisor_61 : decode bMo_divisor 61 = .ok (.iload_n 3, 1) := by decide +kernel
theorem dMo_divisor_62 : decode bMo_divisor 62 = .ok (.if_icmp .le 7, 3) := by decide +kernel
theorem dMo_divisor_65 : decode bMo_divisor 65 = .ok (.iload_n 2, 1) := by decide +kernel
theorem dMo_divisor_66 : decode bMo_divisor 66 = .ok (.goto 4, 3) := by decide +kernel
theorem dMo_divisor_69 : decode bMo_divisor 69 = .ok (.iload_n 3, 1) := by decide +kernel
theorem dMo_divisor_70 : decode bMo_divisor 70 = .ok (.ireturn, 1) := by decide +kernel
abbrev rMo_divisor : Room := { frames := 2, cells := 0, slots := 0, locals := 49 }
def fMo_divisor_59 (x2 : Int32) (s0 : Int32) (M : jM) (F : jF) (L : jL) : Option Int32 := (if x2 ≤ s0 then some s0 else some x2)
def fMo_divisor_0 (x1 : Int32) (M : jM) (F : jF) (L : jL) : Option Int32 := (if jib x1 12 then (if (M 5 x1.toNatClampNeg) = 2 then some 3 else (if jib x1 12 then (if jib x1 12 then ((fMo_spread (M 6 x1.toNatClampNeg) (M 7 x1.toNatClampNeg) M F L).bind fun q5 => (if jib x1 12 then (if (M 5 x1.toNatClampNeg) = 1 then fMo_divisor_59 q5 q5 M F L else (if jib x1 12 then (if jib x1 12 then ((fMo_spread (M 8 x1.toNatClampNeg) (M 9 x1.toNatClampNeg) M F L).bind fun q10 => fMo_divisor_59 q5 q10 M F L) else none) else none)) else none)) else none) else none)) else none)
abbrev fMo_divisor (x1 : Int32) (M : jM) (F : jF) (L : jL) : Option Int32 := fMo_divisor_0 x1 M F L
set_option maxHeartbeats 4000000 in
set_option maxRecDepth 100000 in
theorem uMo_divisor_59 {p : Program} {e : Env} {s : State} {m : MethodId} {args : Array Value} {below : List Frame} {meth : Method} {c : Code} (l : Launch) (dC : Nat → ClassId) (dI : Nat → Nat → Nat) (cA cL : ClassId) (A : Nat → Nat) (Ap : Nat → Prop) (hC : jAt p s m args meth c bMo_divisor 4 (some .int) wMo_divisor RMo) (hA : ∀ q : Nat, s.heap.size ≤ q → Ap q) {r : Int32} : ∀ (x2 : Int32) (s0 : Int32) (M : jM) (F : jF) (L : jL) (B : Nat → Nat) (H : Heap) (locs : List Loc) (ls : Array Slot), jH (dC, dI) jCl [(cA, .int), (cL, .long)] (mW cA cL A M F L) Ap s H locs → lv_has ls 4 [(2, .int x2)] → fMo_divisor_59 x2 s0 M F L = some r → W p l e (headSpec wMo_divisor rMo_divisor).room s m args below meth c H locs 0 0 (jQi below (dC, dI) jCl [(cA, .int), (cL, .long)] (fun _ : Nat → Nat => mW cA cL A M F L) Ap args s r) (F0 m 59 ls [.int s0]) := by
  obtain ⟨hx, hb, hml, hr, hts, hown, hlocks, hN⟩ := id hC
  have hj : ∀ w ∈ jw, w.before args s = true := fun w h => hts w (List.mem_cons_of_mem _ h)
  intro x2 s0 M F L B H locs ls hJ hl h
  unfold fMo_divisor_59 at h
  refine lv_istore_n (lv' := [(3, .int s0), (2, .int x2)]) hx hb dMo_divisor_59 rfl hl (by decide) rfl (fun ls hl => ?_)
  refine lv_iload_n hx hb dMo_divisor_60 rfl (lv_at hl 1 rfl) ?_
  refine lv_iload_n hx hb dMo_divisor_61 rfl (lv_at hl 0 rfl) ?_
  refine lv_icmp_le (tgt := 69) hx hb dMo_divisor_62 (by decide) (fun c11 => ?_) (fun c11 => ?_)
  · replace h := jif_t c11 h
    refine lv_iload_n hx hb dMo_divisor_69 rfl (lv_at hl 0 rfl) ?_
    exact jreti (u := B) hx hb hr rfl hlocks hJ dMo_divisor_70 (Option.some.inj h)
  · replace h := jif_f c11 h
    refine lv_iload_n hx hb dMo_divisor_65 rfl (lv_at hl 1 rfl) ?_
    refine lv_goto (tgt := 70) hx hb dMo_divisor_66 (by decide) ?_
    exact jreti (u := B) hx hb hr rfl hlocks hJ dMo_divisor_70 (Option.some.inj h)
set_option maxHeartbeats 4000000 in
set_option maxRecDepth 100000 in
theorem uMo_divisor_0 {p : Program} {e : Env} {s : State} {m : MethodId} {args : Array Value} {below : List Frame} {meth : Method} {c : Code} (l : Launch) (dC : Nat → ClassId) (dI : Nat → Nat → Nat) (cA cL : ClassId) (A : Nat → Nat) (Ap : Nat → Prop) (hC : jAt p s m args meth c bMo_divisor 4 (some .int) wMo_divisor RMo) (hA : ∀ q : Nat, s.heap.size ≤ q → Ap q) {r : Int32} : ∀ (x1 : Int32) (M : jM) (F : jF) (L : jL) (B : Nat → Nat) (H : Heap) (locs : List Loc) (ls : Array Slot), jH (dC, dI) jCl [(cA, .int), (cL, .long)] (mW cA cL A M F L) Ap s H locs → lv_has ls 4 [(0, .ref (A 0)), (1, .int x1)] → fMo_divisor_0 x1 M F L = some r → W p l e (headSpec wMo_divisor rMo_divisor).room s m args below meth c H locs 0 0 (jQi below (dC, dI) jCl [(cA, .int), (cL, .long)] (fun _ : Nat → Nat => mW cA cL A M F L) Ap args s r) (F0 m 0 ls []) := by
  obtain ⟨hx, hb, hml, hr, hts, hown, hlocks, hN⟩ := id hC
  have hj : ∀ w ∈ jw, w.before args s = true := fun w h => hts w (List.mem_cons_of_mem _ h)
  intro x1 M F L B H locs ls hJ hl h
  unfold fMo_divisor_0 at h
  refine lv_aload_n hx hb dMo_divisor_0 rfl (lv_at hl 0 rfl) ?_
  refine mget_7 hx hb hj hown hJ (hj _ jw_606) dMo_divisor_1 ?_
  refine lv_iload_n hx hb dMo_divisor_4 rfl (lv_at hl 1 rfl) ?_
  obtain ⟨hi1, h⟩ := jib_h h
  refine mald_5 hx hb hJ hi1 dMo_divisor_5 ?_
  refine lv_iconst (v := 2) hx hb dMo_divisor_6 (by decide) ?_
  refine lv_icmp_ne (tgt := 12) hx hb dMo_divisor_7 (by decide) (fun c2 => ?_) (fun c2 => ?_)
  · replace h := jif_f c2 h
    refine lv_aload_n hx hb dMo_divisor_12 rfl (lv_at hl 0 rfl) ?_
    refine lv_aload_n hx hb dMo_divisor_13 rfl (lv_at hl 0 rfl) ?_
    refine mget_8 hx hb hj hown hJ (hj _ jw_607) dMo_divisor_14 ?_
    refine lv_iload_n hx hb dMo_divisor_17 rfl (lv_at hl 1 rfl) ?_
    obtain ⟨hi3, h⟩ := jib_h h
    refine mald_6 hx hb hJ hi3 dMo_divisor_18 ?_
    refine lv_aload_n hx hb dMo_divisor_19 rfl (lv_at hl 0 rfl) ?_
    refine mget_9 hx hb hj hown hJ (hj _ jw_608) dMo_divisor_20 ?_
    refine lv_iload_n hx hb dMo_divisor_23 rfl (lv_at hl 1 rfl) ?_
    obtain ⟨hi4, h⟩ := jib_h h
    refine mald_7 hx hb hJ hi4 dMo_divisor_24 ?_
    obtain ⟨q5, hq5, h⟩ := jbi_h h
    refine jcalli (w' := fun _ : Nat → Nat => mW cA cL A M F L) (va_runV (As := [.int (M 6 x1.toNatClampNeg), .int (M 7 x1.toNatClampNeg)]) (rest := []) ⟨hx, hb, hml, hown, hts⟩ (cMo_spread l dC dI cA cL A (M 6 x1.toNatClampNeg) (M 7 x1.toNatClampNeg) M F L B H.size hq5) (cwV 2 hts (jgoodV jw_731 jw_733 jws_24 jw_7 jw_734) rfl rfl rfl (by decide +kernel) ⟨Nat.le_of_ble_eq_true rfl, Nat.le_of_ble_eq_true rfl⟩) (jpreV hN hJ (ci := 6) (q0 := 0) rfl rfl) rfl rfl hl.1 rfl (lv_room (Nat.le_of_ble_eq_true rfl)) dMo_divisor_25 ⟨Nat.zero_le _, Nat.zero_le _⟩) hA hJ (fun B H locs hJ => ?_)
    refine lv_istore_n (lv' := [(2, .int q5), (0, .ref (A 0)), (1, .int x1)]) hx hb dMo_divisor_28 rfl hl (by decide) rfl (fun ls hl => ?_)
    refine lv_aload_n hx hb dMo_divisor_29 rfl (lv_at hl 1 rfl) ?_
    refine mget_7 hx hb hj hown hJ (hj _ jw_606) dMo_divisor_30 ?_
    refine lv_iload_n hx hb dMo_divisor_33 rfl (lv_at hl 2 rfl) ?_
    obtain ⟨hi6, h⟩ := jib_h h
    refine mald_5 hx hb hJ hi6 dMo_divisor_34 ?_
    refine lv_iconst (v := 1) hx hb dMo_divisor_35 (by decide) ?_
    refine lv_icmp_ne (tgt := 43) hx hb dMo_divisor_36 (by decide) (fun c7 => ?_) (fun c7 => ?_)
    · replace h := jif_f c7 h
      refine lv_aload_n hx hb dMo_divisor_43 rfl (lv_at hl 1 rfl) ?_
      refine lv_aload_n hx hb dMo_divisor_44 rfl (lv_at hl 1 rfl) ?_
      refine mget_10 hx hb hj hown hJ (hj _ jw_609) dMo_divisor_45 ?_
      refine lv_iload_n hx hb dMo_divisor_48 rfl (lv_at hl 2 rfl) ?_
      obtain ⟨hi8, h⟩ := jib_h h
      refine mald_8 hx hb hJ hi8 dMo_divisor_49 ?_
      refine lv_aload_n hx hb dMo_divisor_50 rfl (lv_at hl 1 rfl) ?_
      refine mget_11 hx hb hj hown hJ (hj _ jw_610) dMo_divisor_51 ?_
      refine lv_iload_n hx hb dMo_divisor_54 rfl (lv_at hl 2 rfl) ?_
      obtain ⟨hi9, h⟩ := jib_h h
      refine mald_9 hx hb hJ hi9 dMo_divisor_55 ?_
      obtain ⟨q10, hq10, h⟩ := jbi_h h
      refine jcalli (w' := fun _ : Nat → Nat => mW cA cL A M F L) (va_runV (As := [.int (M 8 x1.toNatClampNeg), .int (M 9 x1.toNatClampNeg)]) (rest := []) ⟨hx, hb, hml, hown, hts⟩ (cMo_spread l dC dI cA cL A (M 8 x1.toNatClampNeg) (M 9 x1.toNatClampNeg) M F L B H.size hq10) (cwV 2 hts (jgoodV jw_731 jw_733 jws_24 jw_7 jw_734) rfl rfl rfl (by decide +kernel) ⟨Nat.le_of_ble_eq_true rfl, Nat.le_of_ble_eq_true rfl⟩) (jpreV hN hJ (ci := 6) (q0 := 0) rfl rfl) rfl rfl hl.1 rfl (lv_room (Nat.le_of_ble_eq_true rfl)) dMo_divisor_56 ⟨Nat.zero_le _, Nat.zero_le _⟩) hA hJ (fun B H locs hJ => ?_)
      exact uMo_divisor_59 l dC dI cA cL A Ap hC hA _ _ _ _ _ B _ _ _ hJ (lv_sub hl [0] rfl) h
    · replace h := jif_t c7 h
      refine lv_iload_n hx hb dMo_divisor_39 rfl (lv_at hl 0 rfl) ?_
      refine lv_goto (tgt := 59) hx hb dMo_divisor_40 (by decide) ?_
      exact uMo_divisor_59 l dC dI cA cL A Ap hC hA _ _ _ _ _ B _ _ _ hJ (lv_sub hl [0] rfl) h
  · replace h := jif_t c2 h
    refine lv_iconst (v := 3) hx hb dMo_divisor_10 (by decide) ?_
    exact jreti (u := B) hx hb hr rfl hlocks hJ dMo_divisor_11 (Option.some.inj h)
set_option maxHeartbeats 4000000 in
set_option maxRecDepth 100000 in
theorem cMo_divisor (l : Launch) (dC : Nat → ClassId) (dI : Nat → Nat → Nat) (cA cL : ClassId) (A : Nat → Nat) (x1 : Int32) (M : jM) (F : jF) (L : jL) (B : Nat → Nat) (sz : Nat) {r : Int32} (h : fMo_divisor x1 M F L = some r) : jCi l yMo_divisor wMo_divisor rMo_divisor (dC, dI) jCl [(cA, .int), (cL, .long)] [.ref (A 0), .int x1] (mW cA cL A M F L) sz r (fun _ : Nat → Nat => mW cA cL A M F L) :=
  jOf (Qc := fun Ap => va_Qi (fun q (_ : Nat → Nat) => q = r) (jPost (dC, dI) jCl [(cA, .int), (cL, .long)] (fun _ : Nat → Nat => mW cA cL A M F L) Ap) Ap) (by decide) rfl (Nat.le_of_ble_eq_true rfl) (fun p e s m below meth c Ap ls hC hA hJ hl => uMo_divisor_0 l dC dI cA cL A Ap hC hA _ _ _ _ B _ _ _ hJ (lv_sub hl [0, 1] rfl) h)
abbrev bMo_isAmong : ByteArray := prog_8_method_16_code
abbrev yMo_isAmong : MethodName := ⟨RMo, "isAmong", "(II)Z"⟩
abbrev wMo_isAmong : List Cond := .code yMo_isAmong bMo_isAmong 3 (some .boolean) :: jw
theorem dMo_isAmong_0 : decode bMo_isAmong 0 = .ok (.iload_n 2, 1) := by decide +kernel
theorem dMo_isAmong_1 : decode bMo_isAmong 1 = .ok (.aload_n 0, 1) := by decide +kernel
theorem dMo_isAmong_2 : decode bMo_isAmong 2 = .ok (.getfield 25, 3) := by decide +kernel
theorem dMo_isAmong_5 : decode bMo_isAmong 5 = .ok (.iload_n 1, 1) := by decide +kernel
theorem dMo_isAmong_6 : decode bMo_isAmong 6 = .ok (.iaload, 1) := by decide +kernel
theorem dMo_isAmong_7 : decode bMo_isAmong 7 = .ok (.ishr, 1) := by decide +kernel
theorem dMo_isAmong_8 : decode bMo_isAmong 8 = .ok (.iconst 1, 1) := by decide +kernel
theorem dMo_isAmong_9 : decode bMo_isAmong 9 = .ok (.iand, 1) := by decide +kernel
theorem dMo_isAmong_10 : decode bMo_isAmong 10 = .ok (.iconst 1, 1) := by decide +kernel
theorem dMo_isAmong_11 : decode bMo_isAmong 11 = .ok (.if_icmp .ne 21, 3) := by decide +kernel
theorem dMo_isAmong_14 : decode bMo_isAmong 14 = .ok (.iload_n 2, 1) := by decide +kernel
theorem dMo_isAmong_15 : decode bMo_isAmong 15 = .ok (.aload_n 0, 1) := by decide +kernel
theorem dMo_isAmong_16 : decode bMo_isAmong 16 = .ok (.getfield 31, 3) := by decide +kernel
theorem dMo_isAmong_19 : decode bMo_isAmong 19 = .ok (.iload_n 1, 1) := by decide +kernel
theorem dMo_isAmong_20 : decode bMo_isAmong 20 = .ok (.iaload, 1) := by decide +kernel
theorem dMo_isAmong_21 : decode bMo_isAmong 21 = .ok (.ishr, 1) := by decide +kernel
theorem dMo_isAmong_22 : decode bMo_isAmong 22 = .ok (.iconst 1, 1) := by decide +kernel
theorem dMo_isAmong_23 : decode bMo_isAmong 23 = .ok (.iand, 1) := by decide +kernel
theorem dMo_isAmong_24 : decode bMo_isAmong 24 = .ok (.iconst 1, 1) := by decide +kernel
theorem dMo_isAmong_25 : decode bMo_isAmong 25 = .ok (.if_icmp .ne 7, 3) := by decide +kernel
theorem dMo_isAmong_28 : decode bMo_isAmong 28 = .ok (.iconst 1, 1) := by decide +kernel
theorem dMo_isAmong_29 : decode bMo_isAmong 29 = .ok (.goto 4, 3) := by decide +kernel
theorem dMo_isAmong_32 : decode bMo_isAmong 32 = .ok (.iconst 0, 1) := by decide +kernel
theorem dMo_isAmong_33 : decode bMo_isAmong 33 = .ok (.ireturn, 1) := by decide +kernel
abbrev rMo_isAmong : Room := { frames := 0, cells := 0, slots := 0, locals := 0 }
def fMo_isAmong_0 (x1 : Int32) (x2 : Int32) (M : jM) (F : jF) (L : jL) : Option Int32 := (if jib x1 12 then (if ((x2 >>> ((M 6 x1.toNatClampNeg) &&& 31)) &&& 1) = 1 then (if jib x1 12 then (if ((x2 >>> ((M 8 x1.toNatClampNeg) &&& 31)) &&& 1) = 1 then some 1 else some 0) else none) else some 0) else none)
abbrev fMo_isAmong (x1 : Int32) (x2 : Int32) (M : jM) (F : jF) (L : jL) : Option Int32 := fMo_isAmong_0 x1 x2 M F L
set_option maxHeartbeats 4000000 in
set_option maxRecDepth 100000 in
theorem uMo_isAmong_0 {p : Program} {e : Env} {s : State} {m : MethodId} {args : Array Value} {below : List Frame} {meth : Method} {c : Code} (l : Launch) (dC : Nat → ClassId) (dI : Nat → Nat → Nat) (cA cL : ClassId) (A : Nat → Nat) (Ap : Nat → Prop) (hC : jAt p s m args meth c bMo_isAmong 3 (some .boolean) wMo_isAmong RMo) (hA : ∀ q : Nat, s.heap.size ≤ q → Ap q) {r : Int32} : ∀ (x1 : Int32) (x2 : Int32) (M : jM) (F : jF) (L : jL) (B : Nat → Nat) (H : Heap) (locs : List Loc) (ls : Array Slot), jH (dC, dI) jCl [(cA, .int), (cL, .long)] (mW cA cL A M F L) Ap s H locs → lv_has ls 3 [(0, .ref (A 0)), (1, .int x1), (2, .int x2)] → fMo_isAmong_0 x1 x2 M F L = some r → W p l e (headSpec wMo_isAmong rMo_isAmong).room s m args below meth c H locs 0 0 (jQi below (dC, dI) jCl [(cA, .int), (cL, .long)] (fun _ : Nat → Nat => mW cA cL A M F L) Ap args s r) (F0 m 0 ls []) := by
  obtain ⟨hx, hb, hml, hr, hts, hown, hlocks, hN⟩ := id hC
  have hj : ∀ w ∈ jw, w.before args s = true := fun w h => hts w (List.mem_cons_of_mem _ h)
  intro x1 x2 M F L B H locs ls hJ hl h
  unfold fMo_isAmong_0 at h
  refine lv_iload_n hx hb dMo_isAmong_0 rfl (lv_at hl 2 rfl) ?_
  refine lv_aload_n hx hb dMo_isAmong_1 rfl (lv_at hl 0 rfl) ?_
  refine mget_8 hx hb hj hown hJ (hj _ jw_607) dMo_isAmong_2 ?_
  refine lv_iload_n hx hb dMo_isAmong_5 rfl (lv_at hl 1 rfl) ?_
  obtain ⟨hi1, h⟩ := jib_h h
  refine mald_6 hx hb hJ hi1 dMo_isAmong_6 ?_
  refine lv_ishr hx hb dMo_isAmong_7 ?_
  refine lv_iconst (v := 1) hx hb dMo_isAmong_8 (by decide) ?_
  refine lv_iand hx hb dMo_isAmong_9 ?_
  refine lv_iconst (v := 1) hx hb dMo_isAmong_10 (by decide) ?_
  refine lv_icmp_ne (tgt := 32) hx hb dMo_isAmong_11 (by decide) (fun c2 => ?_) (fun c2 => ?_)
  · replace h := jif_f c2 h
    refine lv_iconst (v := 0) hx hb dMo_isAmong_32 (by decide) ?_
    exact jreti (u := B) hx hb hr rfl hlocks hJ dMo_isAmong_33 (Option.some.inj h)
  · replace h := jif_t c2 h
    refine lv_iload_n hx hb dMo_isAmong_14 rfl (lv_at hl 2 rfl) ?_
    refine lv_aload_n hx hb dMo_isAmong_15 rfl (lv_at hl 0 rfl) ?_
    refine mget_10 hx hb hj hown hJ (hj _ jw_609) dMo_isAmong_16 ?_
    refine lv_iload_n hx hb dMo_isAmong_19 rfl (lv_at hl 1 rfl) ?_
    obtain ⟨hi3, h⟩ := jib_h h
    refine mald_8 hx hb hJ hi3 dMo_isAmong_20 ?_
    refine lv_ishr hx hb dMo_isAmong_21 ?_
    refine lv_iconst (v := 1) hx hb dMo_isAmong_22 (by decide) ?_
    refine lv_iand hx hb dMo_isAmong_23 ?_
    refine lv_iconst (v := 1) hx hb dMo_isAmong_24 (by decide) ?_
    refine lv_icmp_ne (tgt := 32) hx hb dMo_isAmong_25 (by decide) (fun c4 => ?_) (fun c4 => ?_)
    · replace h := jif_f c4 h
      refine lv_iconst (v := 0) hx hb dMo_isAmong_32 (by decide) ?_
      exact jreti (u := B) hx hb hr rfl hlocks hJ dMo_isAmong_33 (Option.some.inj h)
    · replace h := jif_t c4 h
      refine lv_iconst (v := 1) hx hb dMo_isAmong_28 (by decide) ?_
      refine lv_goto (tgt := 33) hx hb dMo_isAmong_29 (by decide) ?_
      exact jreti (u := B) hx hb hr rfl hlocks hJ dMo_isAmong_33 (Option.some.inj h)
set_option maxHeartbeats 4000000 in
set_option maxRecDepth 100000 in
theorem cMo_isAmong (l : Launch) (dC : Nat → ClassId) (dI : Nat → Nat → Nat) (cA cL : ClassId) (A : Nat → Nat) (x1 : Int32) (x2 : Int32) (M : jM) (F : jF) (L : jL) (B : Nat → Nat) (sz : Nat) {r : Int32} (h : fMo_isAmong x1 x2 M F L = some r) : jCi l yMo_isAmong wMo_isAmong rMo_isAmong (dC, dI) jCl [(cA, .int), (cL, .long)] [.ref (A 0), .int x1, .int x2] (mW cA cL A M F L) sz r (fun _ : Nat → Nat => mW cA cL A M F L) :=
  jOf (Qc := fun Ap => va_Qi (fun q (_ : Nat → Nat) => q = r) (jPost (dC, dI) jCl [(cA, .int), (cL, .long)] (fun _ : Nat → Nat => mW cA cL A M F L) Ap) Ap) (by decide) rfl (Nat.le_of_ble_eq_true rfl) (fun p e s m below meth c Ap ls hC hA hJ hl => uMo_isAmong_0 l dC dI cA cL A Ap hC hA _ _ _ _ _ B _ _ _ hJ (lv_sub hl [0, 1, 2] rfl) h)
abbrev bMo_tied : ByteArray := prog_8_method_25_code
abbrev yMo_tied : MethodName := ⟨RMo, "tied", "(III)I"⟩
abbrev wMo_tied : List Cond := .code yMo_tied bMo_tied 4 (some .int) :: jw
theorem dMo_tied_0 : decode bMo_tied 0 = .ok (.aload_n 0, 1) := by decide +kernel
theorem dMo_tied_1 : decode bMo_tied 1 = .ok (.getfield 22, 3) := by decide +kernel
theorem dMo_tied_4 : decode bMo_tied 4 = .ok (.iload_n 1, 1) := by decide +kernel
theorem dMo_tied_5 : decode bMo_tied 5 = .ok (.iaload, 1) := by decide +kernel
theorem dMo_tied_6 : decode bMo_tied 6 = .ok (.iconst 2, 1) := by decide +kernel
theorem dMo_tied_7 : decode bMo_tied 7 = .ok (.if_icmp .ne 5, 3) := by decide +kernel
theorem dMo_tied_10 : decode bMo_tied 10 = .ok (.iconst (-1), 1) := by decide +kernel
theorem dMo_tied_11 : decode bMo_tied 11 = .ok (.ireturn, 1) := by decide +kernel
theorem dMo_tied_12 : decode bMo_tied 12 = .ok (.aload_n 0, 1) := by decide +kernel
theorem dMo_tied_13 : decode bMo_tied 13 = .ok (.getfield 22, 3) := by decide +kernel
theorem dMo_tied_16 : decode bMo_tied 16 = .ok (.iload_n 1, 1) := by decide +kernel
theorem dMo_tied_17 : decode bMo_tied 17 = .ok (.iaload, 1) := by decide +kernel
theorem dMo_tied_18 : decode bMo_tied 18 = .ok (.iconst 1, 1) := by decide +kernel
theorem dMo_tied_19 : decode bMo_tied 19 = .ok (.if_icmp .ne 24, 3) := by decide +kernel
theorem dMo_tied_22 : decode bMo_tied 22 = .ok (.aload_n 0, 1) := by decide +kernel
theorem dMo_tied_23 : decode bMo_tied 23 = .ok (.getfield 25, 3) := by decide +kernel
theorem dMo_tied_26 : decode bMo_tied 26 = .ok (.iload_n 1, 1) := by decide +kernel
theorem dMo_tied_27 : decode bMo_tied 27 = .ok (.iaload, 1) := by decide +kernel
theorem dMo_tied_28 : decode bMo_tied 28 = .ok (.iload_n 2, 1) := by decide +kernel
theorem dMo_tied_29 : decode bMo_tied 29 = .ok (.if_icmp .ne 12, 3) := by decide +kernel
theorem dMo_tied_32 : decode bMo_tied 32 = .ok (.aload_n 0, 1) := by decide +kernel
theorem dMo_tied_33 : decode bMo_tied 33 = .ok (.getfield 28, 3) := by decide +kernel
theorem dMo_tied_36 : decode bMo_tied 36 = .ok (.iload_n 1, 1) := by decide +kernel
theorem dMo_tied_37 : decode bMo_tied 37 = .ok (.iaload, 1) := by decide +kernel
theorem dMo_tied_38 : decode bMo_tied 38 = .ok (.goto 4, 3) := by decide +kernel
theorem dMo_tied_41 : decode bMo_tied 41 = .ok (.iconst (-1), 1) := by decide +kernel
theorem dMo_tied_42 : decode bMo_tied 42 = .ok (.ireturn, 1) := by decide +kernel
theorem dMo_tied_43 : decode bMo_tied 43 = .ok (.aload_n 0, 1) := by decide +kernel
theorem dMo_tied_44 : decode bMo_tied 44 = .ok (.getfield 25, 3) := by decide +kernel
theorem dMo_tied_47 : decode bMo_tied 47 = .ok (.iload_n 1, 1) := by decide +kernel
theorem dMo_tied_48 : decode bMo_tied 48 = .ok (.iaload, 1) := by decide +kernel
theorem dMo_tied_49 : decode bMo_tied 49 = .ok (.iload_n 2, 1) := by decide +kernel
theorem dMo_tied_50 : decode bMo_tied 50 = .ok (.if_icmp .ne 24, 3) := by decide +kernel
theorem dMo_tied_53 : decode bMo_tied 53 = .ok (.iload_n 3, 1) := by decide +kernel
theorem dMo_tied_54 : decode bMo_tied 54 = .ok (.aload_n 0, 1) := by decide +kernel
theorem dMo_tied_55 : decode bMo_tied 55 = .ok (.getfield 31, 3) := by decide +kernel
theorem dMo_tied_58 : decode bMo_tied 58 = .ok (.iload_n 1, 1) := by decide +kernel
theorem dMo_tied_59 : decode bMo_tied 59 = .ok (.iaload, 1) := by decide +kernel
theorem dMo_tied_60 : decode bMo_tied 60 = .ok (.ishr, 1) := by decide +kernel
theorem dMo_tied_61 : decode bMo_tied 61 = .ok (.iconst 1, 1) := by decide +kernel
theorem dMo_tied_62 : decode bMo_tied 62 = .ok (.iand, 1) := by decide +kernel
theorem dMo_tied_63 : decode bMo_tied 63 = .ok (.iconst 1, 1) := by decide +kernel
theorem dMo_tied_64 : decode bMo_tied 64 = .ok (.if_icmp .ne 10, 3) := by decide +kernel
theorem dMo_tied_67 : decode bMo_tied 67 = .ok (.aload_n 0, 1) := by decide +kernel
theorem dMo_tied_68 : decode bMo_tied 68 = .ok (.getfield 28, 3) := by decide +kernel
theorem dMo_tied_71 : decode bMo_tied 71 = .ok (.iload_n 1, 1) := by decide +kernel
theorem dMo_tied_72 : decode bMo_tied 72 = .ok (.iaload, 1) := by decide +kernel
theorem dMo_tied_73 : decode bMo_tied 73 = .ok (.ireturn, 1) := by decide +kernel
theorem dMo_tied_74 : decode bMo_tied 74 = .ok (.aload_n 0, 1) := by decide +kernel
theorem dMo_tied_75 : decode bMo_tied 75 = .ok (.getfield 31, 3) := by decide +kernel
theorem dMo_tied_78 : decode bMo_tied 78 = .ok (.iload_n 1, 1) := by decide +kernel
theorem dMo_tied_79 : decode bMo_tied 79 = .ok (.iaload, 1) := by decide +kernel
theorem dMo_tied_80 : decode bMo_tied 80 = .ok (.iload_n 2, 1) := by decide +kernel
theorem dMo_tied_81 : decode bMo_tied 81 = .ok (.if_icmp .ne 26, 3) := by decide +kernel
theorem dMo_tied_84 : decode bMo_tied 84 = .ok (.iload_n 3, 1) := by decide +kernel
theorem dMo_tied_85 : decode bMo_tied 85 = .ok (.aload_n 0, 1) := by decide +kernel
theorem dMo_tied_86 : decode bMo_tied 86 = .ok (.getfield 25, 3) := by decide +kernel
theorem dMo_tied_89 : decode bMo_tied 89 = .ok (.iload_n 1, 1) := by decide +kernel
theorem dMo_tied_90 : decode bMo_tied 90 = .ok (.iaload, 1) := by decide +kernel
theorem dMo_tied_91 : decode bMo_tied 91 = .ok (.ishr, 1) := by decide +kernel
theorem dMo_tied_92 : decode bMo_tied 92 = .ok (.iconst 1, 1) := by decide +kernel
theorem dMo_tied_93 : decode bMo_tied 93 = .ok (.iand, 1) := by decide +kernel
theorem dMo_tied_94 : decode bMo_tied 94 = .ok (.iconst 1, 1) := by decide +kernel
theorem dMo_tied_95 : decode bMo_tied 95 = .ok (.if_icmp .ne 12, 3) := by decide +kernel
theorem dMo_tied_98 : decode bMo_tied 98 = .ok (.aload_n 0, 1) := by decide +kernel
theorem dMo_tied_99 : decode bMo_tied 99 = .ok (.getfield 34, 3) := by decide +kernel
theorem dMo_tied_102 : decode bMo_tied 102 = .ok (.iload_n 1, 1) := by decide +kernel
theorem dMo_tied_103 : decode bMo_tied 103 = .ok (.iaload, 1) := by decide +kernel
theorem dMo_tied_104 : decode bMo_tied 104 = .ok (.goto 4, 3) := by decide +kernel
theorem dMo_tied_107 : decode bMo_tied 107 = .ok (.iconst (-1), 1) := by decide +kernel
theorem dMo_tied_108 : decode bMo_tied 108 = .ok (.ireturn, 1) := by decide +kernel
abbrev rMo_tied : Room := { frames := 0, cells := 0, slots := 0, locals := 0 }
def fMo_tied_74 (x1 : Int32) (x2 : Int32) (x3 : Int32) (M : jM) (F : jF) (L : jL) : Option Int32 := (if jib x1 12 then (if (M 8 x1.toNatClampNeg) = x2 then (if jib x1 12 then (if ((x3 >>> ((M 6 x1.toNatClampNeg) &&& 31)) &&& 1) = 1 then (if jib x1 12 then some (M 9 x1.toNatClampNeg) else none) else some (-1)) else none) else some (-1)) else none)
def fMo_tied_0 (x1 : Int32) (x2 : Int32) (x3 : Int32) (M : jM) (F : jF) (L : jL) : Option Int32 := (if jib x1 12 then (if (M 5 x1.toNatClampNeg) = 2 then some (-1) else (if jib x1 12 then (if (M 5 x1.toNatClampNeg) = 1 then (if jib x1 12 then (if (M 6 x1.toNatClampNeg) = x2 then (if jib x1 12 then some (M 7 x1.toNatClampNeg) else none) else some (-1)) else none) else (if jib x1 12 then (if (M 6 x1.toNatClampNeg) = x2 then (if jib x1 12 then (if ((x3 >>> ((M 8 x1.toNatClampNeg) &&& 31)) &&& 1) = 1 then (if jib x1 12 then some (M 7 x1.toNatClampNeg) else none) else fMo_tied_74 x1 x2 x3 M F L) else none) else fMo_tied_74 x1 x2 x3 M F L) else none)) else none)) else none)
abbrev fMo_tied (x1 : Int32) (x2 : Int32) (x3 : Int32) (M : jM) (F : jF) (L : jL) : Option Int32 := fMo_tied_0 x1 x2 x3 M F L
set_option maxHeartbeats 4000000 in
set_option maxRecDepth 100000 in
theorem uMo_tied_74 {p : Program} {e : Env} {s : State} {m : MethodId} {args : Array Value} {below : List Frame} {meth : Method} {c : Code} (l : Launch) (dC : Nat → ClassId) (dI : Nat → Nat → Nat) (cA cL : ClassId) (A : Nat → Nat) (Ap : Nat → Prop) (hC : jAt p s m args meth c bMo_tied 4 (some .int) wMo_tied RMo) (hA : ∀ q : Nat, s.heap.size ≤ q → Ap q) {r : Int32} : ∀ (x1 : Int32) (x2 : Int32) (x3 : Int32) (M : jM) (F : jF) (L : jL) (B : Nat → Nat) (H : Heap) (locs : List Loc) (ls : Array Slot), jH (dC, dI) jCl [(cA, .int), (cL, .long)] (mW cA cL A M F L) Ap s H locs → lv_has ls 4 [(0, .ref (A 0)), (1, .int x1), (2, .int x2), (3, .int x3)] → fMo_tied_74 x1 x2 x3 M F L = some r → W p l e (headSpec wMo_tied rMo_tied).room s m args below meth c H locs 0 0 (jQi below (dC, dI) jCl [(cA, .int), (cL, .long)] (fun _ : Nat → Nat => mW cA cL A M F L) Ap args s r) (F0 m 74 ls []) := by
  obtain ⟨hx, hb, hml, hr, hts, hown, hlocks, hN⟩ := id hC
  have hj : ∀ w ∈ jw, w.before args s = true := fun w h => hts w (List.mem_cons_of_mem _ h)
  intro x1 x2 x3 M F L B H locs ls hJ hl h
  unfold fMo_tied_74 at h
  refine lv_aload_n hx hb dMo_tied_74 rfl (lv_at hl 0 rfl) ?_
  refine mget_10 hx hb hj hown hJ (hj _ jw_609) dMo_tied_75 ?_
  refine lv_iload_n hx hb dMo_tied_78 rfl (lv_at hl 1 rfl) ?_
  obtain ⟨hi7, h⟩ := jib_h h
  refine mald_8 hx hb hJ hi7 dMo_tied_79 ?_
  refine lv_iload_n hx hb dMo_tied_80 rfl (lv_at hl 2 rfl) ?_
  refine lv_icmp_ne (tgt := 107) hx hb dMo_tied_81 (by decide) (fun c8 => ?_) (fun c8 => ?_)
  · replace h := jif_f c8 h
    refine lv_iconst (v := (-1)) hx hb dMo_tied_107 (by decide) ?_
    exact jreti (u := B) hx hb hr rfl hlocks hJ dMo_tied_108 (Option.some.inj h)
  · replace h := jif_t c8 h
    refine lv_iload_n hx hb dMo_tied_84 rfl (lv_at hl 3 rfl) ?_
    refine lv_aload_n hx hb dMo_tied_85 rfl (lv_at hl 0 rfl) ?_
    refine mget_8 hx hb hj hown hJ (hj _ jw_607) dMo_tied_86 ?_
    refine lv_iload_n hx hb dMo_tied_89 rfl (lv_at hl 1 rfl) ?_
    obtain ⟨hi9, h⟩ := jib_h h
    refine mald_6 hx hb hJ hi9 dMo_tied_90 ?_
    refine lv_ishr hx hb dMo_tied_91 ?_
    refine lv_iconst (v := 1) hx hb dMo_tied_92 (by decide) ?_
    refine lv_iand hx hb dMo_tied_93 ?_
    refine lv_iconst (v := 1) hx hb dMo_tied_94 (by decide) ?_
    refine lv_icmp_ne (tgt := 107) hx hb dMo_tied_95 (by decide) (fun c10 => ?_) (fun c10 => ?_)
    · replace h := jif_f c10 h
      refine lv_iconst (v := (-1)) hx hb dMo_tied_107 (by decide) ?_
      exact jreti (u := B) hx hb hr rfl hlocks hJ dMo_tied_108 (Option.some.inj h)
    · replace h := jif_t c10 h
      refine lv_aload_n hx hb dMo_tied_98 rfl (lv_at hl 0 rfl) ?_
      refine mget_11 hx hb hj hown hJ (hj _ jw_610) dMo_tied_99 ?_
      refine lv_iload_n hx hb dMo_tied_102 rfl (lv_at hl 1 rfl) ?_
      obtain ⟨hi11, h⟩ := jib_h h
      refine mald_9 hx hb hJ hi11 dMo_tied_103 ?_
      refine lv_goto (tgt := 108) hx hb dMo_tied_104 (by decide) ?_
      exact jreti (u := B) hx hb hr rfl hlocks hJ dMo_tied_108 (Option.some.inj h)
set_option maxHeartbeats 4000000 in
set_option maxRecDepth 100000 in
theorem uMo_tied_0 {p : Program} {e : Env} {s : State} {m : MethodId} {args : Array Value} {below : List Frame} {meth : Method} {c : Code} (l : Launch) (dC : Nat → ClassId) (dI : Nat → Nat → Nat) (cA cL : ClassId) (A : Nat → Nat) (Ap : Nat → Prop) (hC : jAt p s m args meth c bMo_tied 4 (some .int) wMo_tied RMo) (hA : ∀ q : Nat, s.heap.size ≤ q → Ap q) {r : Int32} : ∀ (x1 : Int32) (x2 : Int32) (x3 : Int32) (M : jM) (F : jF) (L : jL) (B : Nat → Nat) (H : Heap) (locs : List Loc) (ls : Array Slot), jH (dC, dI) jCl [(cA, .int), (cL, .long)] (mW cA cL A M F L) Ap s H locs → lv_has ls 4 [(0, .ref (A 0)), (1, .int x1), (2, .int x2), (3, .int x3)] → fMo_tied_0 x1 x2 x3 M F L = some r → W p l e (headSpec wMo_tied rMo_tied).room s m args below meth c H locs 0 0 (jQi below (dC, dI) jCl [(cA, .int), (cL, .long)] (fun _ : Nat → Nat => mW cA cL A M F L) Ap args s r) (F0 m 0 ls []) := by
  obtain ⟨hx, hb, hml, hr, hts, hown, hlocks, hN⟩ := id hC
  have hj : ∀ w ∈ jw, w.before args s = true := fun w h => hts w (List.mem_cons_of_mem _ h)
  intro x1 x2 x3 M F L B H locs ls hJ hl h
  unfold fMo_tied_0 at h
  refine lv_aload_n hx hb dMo_tied_0 rfl (lv_at hl 0 rfl) ?_
  refine mget_7 hx hb hj hown hJ (hj _ jw_606) dMo_tied_1 ?_
  refine lv_iload_n hx hb dMo_tied_4 rfl (lv_at hl 1 rfl) ?_
  obtain ⟨hi1, h⟩ := jib_h h
  refine mald_5 hx hb hJ hi1 dMo_tied_5 ?_
  refine lv_iconst (v := 2) hx hb dMo_tied_6 (by decide) ?_
  refine lv_icmp_ne (tgt := 12) hx hb dMo_tied_7 (by decide) (fun c2 => ?_) (fun c2 => ?_)
  · replace h := jif_f c2 h
    refine lv_aload_n hx hb dMo_tied_12 rfl (lv_at hl 0 rfl) ?_
    refine mget_7 hx hb hj hown hJ (hj _ jw_606) dMo_tied_13 ?_
    refine lv_iload_n hx hb dMo_tied_16 rfl (lv_at hl 1 rfl) ?_
    obtain ⟨hi3, h⟩ := jib_h h
    refine mald_5 hx hb hJ hi3 dMo_tied_17 ?_
    refine lv_iconst (v := 1) hx hb dMo_tied_18 (by decide) ?_
    refine lv_icmp_ne (tgt := 43) hx hb dMo_tied_19 (by decide) (fun c4 => ?_) (fun c4 => ?_)
    · replace h := jif_f c4 h
      refine lv_aload_n hx hb dMo_tied_43 rfl (lv_at hl 0 rfl) ?_
      refine mget_8 hx hb hj hown hJ (hj _ jw_607) dMo_tied_44 ?_
      refine lv_iload_n hx hb dMo_tied_47 rfl (lv_at hl 1 rfl) ?_
      obtain ⟨hi5, h⟩ := jib_h h
      refine mald_6 hx hb hJ hi5 dMo_tied_48 ?_
      refine lv_iload_n hx hb dMo_tied_49 rfl (lv_at hl 2 rfl) ?_
      refine lv_icmp_ne (tgt := 74) hx hb dMo_tied_50 (by decide) (fun c6 => ?_) (fun c6 => ?_)
      · replace h := jif_f c6 h
        exact uMo_tied_74 l dC dI cA cL A Ap hC hA _ _ _ _ _ _ B _ _ _ hJ (lv_sub hl [0, 1, 2, 3] rfl) h
      · replace h := jif_t c6 h
        refine lv_iload_n hx hb dMo_tied_53 rfl (lv_at hl 3 rfl) ?_
        refine lv_aload_n hx hb dMo_tied_54 rfl (lv_at hl 0 rfl) ?_
        refine mget_10 hx hb hj hown hJ (hj _ jw_609) dMo_tied_55 ?_
        refine lv_iload_n hx hb dMo_tied_58 rfl (lv_at hl 1 rfl) ?_
        obtain ⟨hi12, h⟩ := jib_h h
        refine mald_8 hx hb hJ hi12 dMo_tied_59 ?_
        refine lv_ishr hx hb dMo_tied_60 ?_
        refine lv_iconst (v := 1) hx hb dMo_tied_61 (by decide) ?_
        refine lv_iand hx hb dMo_tied_62 ?_
        refine lv_iconst (v := 1) hx hb dMo_tied_63 (by decide) ?_
        refine lv_icmp_ne (tgt := 74) hx hb dMo_tied_64 (by decide) (fun c13 => ?_) (fun c13 => ?_)
        · replace h := jif_f c13 h
          exact uMo_tied_74 l dC dI cA cL A Ap hC hA _ _ _ _ _ _ B _ _ _ hJ (lv_sub hl [0, 1, 2, 3] rfl) h
        · replace h := jif_t c13 h
          refine lv_aload_n hx hb dMo_tied_67 rfl (lv_at hl 0 rfl) ?_
          refine mget_9 hx hb hj hown hJ (hj _ jw_608) dMo_tied_68 ?_
          refine lv_iload_n hx hb dMo_tied_71 rfl (lv_at hl 1 rfl) ?_
          obtain ⟨hi14, h⟩ := jib_h h
          refine mald_7 hx hb hJ hi14 dMo_tied_72 ?_
          exact jreti (u := B) hx hb hr rfl hlocks hJ dMo_tied_73 (Option.some.inj h)
    · replace h := jif_t c4 h
      refine lv_aload_n hx hb dMo_tied_22 rfl (lv_at hl 0 rfl) ?_
      refine mget_8 hx hb hj hown hJ (hj _ jw_607) dMo_tied_23 ?_
      refine lv_iload_n hx hb dMo_tied_26 rfl (lv_at hl 1 rfl) ?_
      obtain ⟨hi15, h⟩ := jib_h h
      refine mald_6 hx hb hJ hi15 dMo_tied_27 ?_
      refine lv_iload_n hx hb dMo_tied_28 rfl (lv_at hl 2 rfl) ?_
      refine lv_icmp_ne (tgt := 41) hx hb dMo_tied_29 (by decide) (fun c16 => ?_) (fun c16 => ?_)
      · replace h := jif_f c16 h
        refine lv_iconst (v := (-1)) hx hb dMo_tied_41 (by decide) ?_
        exact jreti (u := B) hx hb hr rfl hlocks hJ dMo_tied_42 (Option.some.inj h)
      · replace h := jif_t c16 h
        refine lv_aload_n hx hb dMo_tied_32 rfl (lv_at hl 0 rfl) ?_
        refine mget_9 hx hb hj hown hJ (hj _ jw_608) dMo_tied_33 ?_
        refine lv_iload_n hx hb dMo_tied_36 rfl (lv_at hl 1 rfl) ?_
        obtain ⟨hi17, h⟩ := jib_h h
        refine mald_7 hx hb hJ hi17 dMo_tied_37 ?_
        refine lv_goto (tgt := 42) hx hb dMo_tied_38 (by decide) ?_
        exact jreti (u := B) hx hb hr rfl hlocks hJ dMo_tied_42 (Option.some.inj h)
  · replace h := jif_t c2 h
    refine lv_iconst (v := (-1)) hx hb dMo_tied_10 (by decide) ?_
    exact jreti (u := B) hx hb hr rfl hlocks hJ dMo_tied_11 (Option.some.inj h)
set_option maxHeartbeats 4000000 in
set_option maxRecDepth 100000 in
theorem cMo_tied (l : Launch) (dC : Nat → ClassId) (dI : Nat → Nat → Nat) (cA cL : ClassId) (A : Nat → Nat) (x1 : Int32) (x2 : Int32) (x3 : Int32) (M : jM) (F : jF) (L : jL) (B : Nat → Nat) (sz : Nat) {r : Int32} (h : fMo_tied x1 x2 x3 M F L = some r) : jCi l yMo_tied wMo_tied rMo_tied (dC, dI) jCl [(cA, .int), (cL, .long)] [.ref (A 0), .int x1, .int x2, .int x3] (mW cA cL A M F L) sz r (fun _ : Nat → Nat => mW cA cL A M F L) :=
  jOf (Qc := fun Ap => va_Qi (fun q (_ : Nat → Nat) => q = r) (jPost (dC, dI) jCl [(cA, .int), (cL, .long)] (fun _ : Nat → Nat => mW cA cL A M F L) Ap) Ap) (by decide) rfl (Nat.le_of_ble_eq_true rfl) (fun p e s m below meth c Ap ls hC hA hJ hl => uMo_tied_0 l dC dI cA cL A Ap hC hA _ _ _ _ _ _ B _ _ _ hJ (lv_sub hl [0, 1, 2, 3] rfl) h)
abbrev bMo_digit : ByteArray := prog_8_method_30_code
abbrev yMo_digit : MethodName := ⟨RMo, "digit", "(I)I"⟩
abbrev wMo_digit : List Cond := .code yMo_digit bMo_digit 3 (some .int) :: jw
theorem dMo_digit_0 : decode bMo_digit 0 = .ok (.iconst 1, 1) := by decide +kernel
theorem dMo_digit_1 : decode bMo_digit 1 = .ok (.istore_n 1, 1) := by decide +kernel
theorem dMo_digit_2 : decode bMo_digit 2 = .ok (.iconst 5, 1) := by decide +kernel
theorem dMo_digit_3 : decode bMo_digit 3 = .ok (.istore_n 2, 1) := by decide +kernel
theorem dMo_digit_4 : decode bMo_digit 4 = .ok (.iload_n 2, 1) := by decide +kernel
theorem dMo_digit_5 : decode bMo_digit 5 = .ok (.iload_n 0, 1) := by decide +kernel
theorem dMo_digit_6 : decode bMo_digit 6 = .ok (.if_icmp .le 14, 3) := by decide +kernel
theorem dMo_digit_9 : decode bMo_digit 9 = .ok (.iload_n 1, 1) := by decide +kernel
theorem dMo_digit_10 : decode bMo_digit 10 = .ok (.bipush 30, 2) := by decide +kernel
theorem dMo_digit_12 : decode bMo_digit 12 = .ok (.imul, 1) := by decide +kernel
theorem dMo_digit_13 : decode bMo_digit 13 = .ok (.istore_n 1, 1) := by decide +kernel
theorem dMo_digit_14 : decode bMo_digit 14 = .ok (.iinc 2 (-1), 3) := by decide +kernel
theorem dMo_digit_17 : decode bMo_digit 17 = .ok (.goto (-13), 3) := by decide +kernel
theorem dMo_digit_20 : decode bMo_digit 20 = .ok (.iload_n 1, 1) := by decide +kernel
theorem dMo_digit_21 : decode bMo_digit 21 = .ok (.ireturn, 1) := by decide +kernel
abbrev rMo_digit : Room := { frames := 0, cells := 0, slots := 0, locals := 0 }
def fMo_digit_4 : Nat → Int32 → Int32 → Int32 → jM → jF → jL → Option Int32
  | 0, _, _, _, _, _, _ => none
  | n + 1, x0, x1, x2, M, F, L => (if x2 ≤ x0 then some x1 else fMo_digit_4 n x0 (x1 * 30) (x2 + (-1)) M F L)
def fMo_digit_0 (x0 : Int32) (M : jM) (F : jF) (L : jL) : Option Int32 := fMo_digit_4 jfuel x0 1 5 M F L
abbrev fMo_digit (x0 : Int32) (M : jM) (F : jF) (L : jL) : Option Int32 := fMo_digit_0 x0 M F L
set_option maxHeartbeats 4000000 in
set_option maxRecDepth 100000 in
theorem uMo_digit_4 {p : Program} {e : Env} {s : State} {m : MethodId} {args : Array Value} {below : List Frame} {meth : Method} {c : Code} (l : Launch) (dC : Nat → ClassId) (dI : Nat → Nat → Nat) (cA cL : ClassId) (A : Nat → Nat) (Ap : Nat → Prop) (hC : jAt p s m args meth c bMo_digit 3 (some .int) wMo_digit RMo) (hA : ∀ q : Nat, s.heap.size ≤ q → Ap q) {r : Int32} : ∀ (n : Nat) (x0 : Int32) (x1 : Int32) (x2 : Int32) (M : jM) (F : jF) (L : jL) (B : Nat → Nat) (H : Heap) (locs : List Loc) (ls : Array Slot), jH (dC, dI) jCl [(cA, .int), (cL, .long)] (mW cA cL A M F L) Ap s H locs → lv_has ls 3 [(0, .int x0), (1, .int x1), (2, .int x2)] → fMo_digit_4 n x0 x1 x2 M F L = some r → W p l e (headSpec wMo_digit rMo_digit).room s m args below meth c H locs 0 0 (jQi below (dC, dI) jCl [(cA, .int), (cL, .long)] (fun _ : Nat → Nat => mW cA cL A M F L) Ap args s r) (F0 m 4 ls []) := by
  obtain ⟨hx, hb, hml, hr, hts, hown, hlocks, hN⟩ := id hC
  have hj : ∀ w ∈ jw, w.before args s = true := fun w h => hts w (List.mem_cons_of_mem _ h)
  intro n
  induction n with
  | zero =>
    intro x0 x1 x2 M F L B H locs ls hJ hl h
    rw [fMo_digit_4] at h
    cases h
  | succ n ih =>
    intro x0 x1 x2 M F L B H locs ls hJ hl h
    rw [fMo_digit_4] at h
    refine lv_iload_n hx hb dMo_digit_4 rfl (lv_at hl 2 rfl) ?_
    refine lv_iload_n hx hb dMo_digit_5 rfl (lv_at hl 0 rfl) ?_
    refine lv_icmp_le (tgt := 20) hx hb dMo_digit_6 (by decide) (fun c1 => ?_) (fun c1 => ?_)
    · replace h := jif_t c1 h
      refine lv_iload_n hx hb dMo_digit_20 rfl (lv_at hl 1 rfl) ?_
      exact jreti (u := B) hx hb hr rfl hlocks hJ dMo_digit_21 (Option.some.inj h)
    · replace h := jif_f c1 h
      refine lv_iload_n hx hb dMo_digit_9 rfl (lv_at hl 1 rfl) ?_
      refine lv_bipush (v := 30) hx hb dMo_digit_10 (by decide) ?_
      refine lv_imul hx hb dMo_digit_12 ?_
      refine lv_istore_n (lv' := [(1, .int (x1 * 30)), (0, .int x0), (2, .int x2)]) hx hb dMo_digit_13 rfl hl (by decide) rfl (fun ls hl => ?_)
      refine lv_iinc (v := x2 + (-1)) (lv' := [(2, .int (x2 + (-1))), (1, .int (x1 * 30)), (0, .int x0)]) hx hb dMo_digit_14 hl (k := 2) rfl (congrArg (fun z => x2 + z) (by decide)) (by decide) rfl (fun ls hl => ?_)
      refine lv_goto (tgt := 4) hx hb dMo_digit_17 (by decide) ?_
      exact ih _ _ _ _ _ _ B _ _ _ hJ (lv_sub hl [2, 1, 0] rfl) h
set_option maxHeartbeats 4000000 in
set_option maxRecDepth 100000 in
theorem uMo_digit_0 {p : Program} {e : Env} {s : State} {m : MethodId} {args : Array Value} {below : List Frame} {meth : Method} {c : Code} (l : Launch) (dC : Nat → ClassId) (dI : Nat → Nat → Nat) (cA cL : ClassId) (A : Nat → Nat) (Ap : Nat → Prop) (hC : jAt p s m args meth c bMo_digit 3 (some .int) wMo_digit RMo) (hA : ∀ q : Nat, s.heap.size ≤ q → Ap q) {r : Int32} : ∀ (x0 : Int32) (M : jM) (F : jF) (L : jL) (B : Nat → Nat) (H : Heap) (locs : List Loc) (ls : Array Slot), jH (dC, dI) jCl [(cA, .int), (cL, .long)] (mW cA cL A M F L) Ap s H locs → lv_has ls 3 [(0, .int x0)] → fMo_digit_0 x0 M F L = some r → W p l e (headSpec wMo_digit rMo_digit).room s m args below meth c H locs 0 0 (jQi below (dC, dI) jCl [(cA, .int), (cL, .long)] (fun _ : Nat → Nat => mW cA cL A M F L) Ap args s r) (F0 m 0 ls []) := by
  obtain ⟨hx, hb, hml, hr, hts, hown, hlocks, hN⟩ := id hC
  have hj : ∀ w ∈ jw, w.before args s = true := fun w h => hts w (List.mem_cons_of_mem _ h)
  intro x0 M F L B H locs ls hJ hl h
  unfold fMo_digit_0 at h
  refine lv_iconst (v := 1) hx hb dMo_digit_0 (by decide) ?_
  refine lv_istore_n (lv' := [(1, .int 1), (0, .int x0)]) hx hb dMo_digit_1 rfl hl (by decide) rfl (fun ls hl => ?_)
  refine lv_iconst (v := 5) hx hb dMo_digit_2 (by decide) ?_
  refine lv_istore_n (lv' := [(2, .int 5), (1, .int 1), (0, .int x0)]) hx hb dMo_digit_3 rfl hl (by decide) rfl (fun ls hl => ?_)
  exact uMo_digit_4 l dC dI cA cL A Ap hC hA jfuel _ _ _ _ _ _ B _ _ _ hJ (lv_sub hl [2, 1, 0] rfl) h
set_option maxHeartbeats 4000000 in
set_option maxRecDepth 100000 in
theorem cMo_digit (l : Launch) (dC : Nat → ClassId) (dI : Nat → Nat → Nat) (cA cL : ClassId) (A : Nat → Nat) (x0 : Int32) (M : jM) (F : jF) (L : jL) (B : Nat → Nat) (sz : Nat) {r : Int32} (h : fMo_digit x0 M F L = some r) : jCi l yMo_digit wMo_digit rMo_digit (dC, dI) jCl [(cA, .int), (cL, .long)] [.int x0] (mW cA cL A M F L) sz r (fun _ : Nat → Nat => mW cA cL A M F L) :=
  jOf (Qc := fun Ap => va_Qi (fun q (_ : Nat → Nat) => q = r) (jPost (dC, dI) jCl [(cA, .int), (cL, .long)] (fun _ : Nat → Nat => mW cA cL A M F L) Ap) Ap) (by decide) rfl (Nat.le_of_ble_eq_true rfl) (fun p e s m below meth c Ap ls hC hA hJ hl => uMo_digit_0 l dC dI cA cL A Ap hC hA _ _ _ _ B _ _ _ hJ (lv_sub hl [0] rfl) h)
abbrev bMo_rowIn : ByteArray := prog_8_method_31_code
abbrev yMo_rowIn : MethodName := ⟨RMo, "rowIn", "(II)I"⟩
abbrev wMo_rowIn : List Cond := .code yMo_rowIn bMo_rowIn 2 (some .int) :: jw
theorem dMo_rowIn_0 : decode bMo_rowIn 0 = .ok (.iload_n 0, 1) := by decide +kernel
theorem dMo_rowIn_1 : decode bMo_rowIn 1 = .ok (.iload_n 1, 1) := by decide +kernel
theorem dMo_rowIn_2 : decode bMo_rowIn 2 = .ok (.invokestatic 130, 3) := by decide +kernel
theorem dMo_rowIn_5 : decode bMo_rowIn 5 = .ok (.idiv, 1) := by decide +kernel
theorem dMo_rowIn_6 : decode bMo_rowIn 6 = .ok (.bipush 30, 2) := by decide +kernel
theorem dMo_rowIn_8 : decode bMo_rowIn 8 = .ok (.irem, 1) := by decide +kernel
theorem dMo_rowIn_9 : decode bMo_rowIn 9 = .ok (.ireturn, 1) := by decide +kernel
abbrev rMo_rowIn : Room := { frames := 1, cells := 0, slots := 0, locals := 22 }
def fMo_rowIn_0 (x0 : Int32) (x1 : Int32) (M : jM) (F : jF) (L : jL) : Option Int32 := ((fMo_digit x1 M F L).bind fun q1 => (if q1 = 0 then none else (if (30 : Int32) = 0 then none else some ((x0 / q1) - (x0 / q1) / 30 * 30))))
abbrev fMo_rowIn (x0 : Int32) (x1 : Int32) (M : jM) (F : jF) (L : jL) : Option Int32 := fMo_rowIn_0 x0 x1 M F L
set_option maxHeartbeats 4000000 in
set_option maxRecDepth 100000 in
theorem uMo_rowIn_0 {p : Program} {e : Env} {s : State} {m : MethodId} {args : Array Value} {below : List Frame} {meth : Method} {c : Code} (l : Launch) (dC : Nat → ClassId) (dI : Nat → Nat → Nat) (cA cL : ClassId) (A : Nat → Nat) (Ap : Nat → Prop) (hC : jAt p s m args meth c bMo_rowIn 2 (some .int) wMo_rowIn RMo) (hA : ∀ q : Nat, s.heap.size ≤ q → Ap q) {r : Int32} : ∀ (x0 : Int32) (x1 : Int32) (M : jM) (F : jF) (L : jL) (B : Nat → Nat) (H : Heap) (locs : List Loc) (ls : Array Slot), jH (dC, dI) jCl [(cA, .int), (cL, .long)] (mW cA cL A M F L) Ap s H locs → lv_has ls 2 [(0, .int x0), (1, .int x1)] → fMo_rowIn_0 x0 x1 M F L = some r → W p l e (headSpec wMo_rowIn rMo_rowIn).room s m args below meth c H locs 0 0 (jQi below (dC, dI) jCl [(cA, .int), (cL, .long)] (fun _ : Nat → Nat => mW cA cL A M F L) Ap args s r) (F0 m 0 ls []) := by
  obtain ⟨hx, hb, hml, hr, hts, hown, hlocks, hN⟩ := id hC
  have hj : ∀ w ∈ jw, w.before args s = true := fun w h => hts w (List.mem_cons_of_mem _ h)
  intro x0 x1 M F L B H locs ls hJ hl h
  unfold fMo_rowIn_0 at h
  refine lv_iload_n hx hb dMo_rowIn_0 rfl (lv_at hl 0 rfl) ?_
  refine lv_iload_n hx hb dMo_rowIn_1 rfl (lv_at hl 1 rfl) ?_
  obtain ⟨q1, hq1, h⟩ := jbi_h h
  refine jcalli (w' := fun _ : Nat → Nat => mW cA cL A M F L) (va_runS (As := [.int x1]) (rest := [.int x0]) ⟨hx, hb, hml, hown, hts⟩ (cMo_digit l dC dI cA cL A x1 M F L B H.size hq1) (va_cwS 1 hts (jgoodS jw_791 jw_792 jw_7 jw_793) rfl rfl rfl (by decide +kernel) ⟨Nat.le_of_ble_eq_true rfl, Nat.le_of_ble_eq_true rfl⟩) (jpreS hN hJ) rfl rfl hl.1 rfl (lv_room (Nat.le_of_ble_eq_true rfl)) dMo_rowIn_2 ⟨Nat.zero_le _, Nat.zero_le _⟩) hA hJ (fun B H locs hJ => ?_)
  obtain ⟨hz, h⟩ := jdz_h h
  refine lv_idiv hx hb dMo_rowIn_5 hz ?_
  refine lv_bipush (v := 30) hx hb dMo_rowIn_6 (by decide) ?_
  obtain ⟨hz, h⟩ := jdz_h h
  refine lv_irem hx hb dMo_rowIn_8 hz ?_
  exact jreti (u := B) hx hb hr rfl hlocks hJ dMo_rowIn_9 (Option.some.inj h)
set_option maxHeartbeats 4000000 in
set_option maxRecDepth 100000 in
theorem cMo_rowIn (l : Launch) (dC : Nat → ClassId) (dI : Nat → Nat → Nat) (cA cL : ClassId) (A : Nat → Nat) (x0 : Int32) (x1 : Int32) (M : jM) (F : jF) (L : jL) (B : Nat → Nat) (sz : Nat) {r : Int32} (h : fMo_rowIn x0 x1 M F L = some r) : jCi l yMo_rowIn wMo_rowIn rMo_rowIn (dC, dI) jCl [(cA, .int), (cL, .long)] [.int x0, .int x1] (mW cA cL A M F L) sz r (fun _ : Nat → Nat => mW cA cL A M F L) :=
  jOf (Qc := fun Ap => va_Qi (fun q (_ : Nat → Nat) => q = r) (jPost (dC, dI) jCl [(cA, .int), (cL, .long)] (fun _ : Nat → Nat => mW cA cL A M F L) Ap) Ap) (by decide) rfl (Nat.le_of_ble_eq_true rfl) (fun p e s m below meth c Ap ls hC hA hJ hl => uMo_rowIn_0 l dC dI cA cL A Ap hC hA _ _ _ _ _ B _ _ _ hJ (lv_sub hl [0, 1] rfl) h)
abbrev bMo_valueIn : ByteArray := prog_8_method_32_code
abbrev yMo_valueIn : MethodName := ⟨RMo, "valueIn", "(III)I"⟩
abbrev wMo_valueIn : List Cond := .code yMo_valueIn bMo_valueIn 4 (some .int) :: jw
theorem dMo_valueIn_0 : decode bMo_valueIn 0 = .ok (.aload_n 0, 1) := by decide +kernel
theorem dMo_valueIn_1 : decode bMo_valueIn 1 = .ok (.iload_n 2, 1) := by decide +kernel
theorem dMo_valueIn_2 : decode bMo_valueIn 2 = .ok (.iload_n 1, 1) := by decide +kernel
theorem dMo_valueIn_3 : decode bMo_valueIn 3 = .ok (.iload_n 2, 1) := by decide +kernel
theorem dMo_valueIn_4 : decode bMo_valueIn 4 = .ok (.invokestatic 133, 3) := by decide +kernel
theorem dMo_valueIn_7 : decode bMo_valueIn 7 = .ok (.iload_n 3, 1) := by decide +kernel
theorem dMo_valueIn_8 : decode bMo_valueIn 8 = .ok (.invokevirtual 78, 3) := by decide +kernel
theorem dMo_valueIn_11 : decode bMo_valueIn 11 = .ok (.ireturn, 1) := by decide +kernel
abbrev rMo_valueIn : Room := { frames := 2, cells := 0, slots := 0, locals := 43 }
def fMo_valueIn_0 (x1 : Int32) (x2 : Int32) (x3 : Int32) (M : jM) (F : jF) (L : jL) : Option Int32 := ((fMo_rowIn x1 x2 M F L).bind fun q1 => ((fMo_cell x2 q1 x3 M F L).bind fun q2 => some q2))
abbrev fMo_valueIn (x1 : Int32) (x2 : Int32) (x3 : Int32) (M : jM) (F : jF) (L : jL) : Option Int32 := fMo_valueIn_0 x1 x2 x3 M F L
set_option maxHeartbeats 4000000 in
set_option maxRecDepth 100000 in
theorem uMo_valueIn_0 {p : Program} {e : Env} {s : State} {m : MethodId} {args : Array Value} {below : List Frame} {meth : Method} {c : Code} (l : Launch) (dC : Nat → ClassId) (dI : Nat → Nat → Nat) (cA cL : ClassId) (A : Nat → Nat) (Ap : Nat → Prop) (hC : jAt p s m args meth c bMo_valueIn 4 (some .int) wMo_valueIn RMo) (hA : ∀ q : Nat, s.heap.size ≤ q → Ap q) {r : Int32} : ∀ (x1 : Int32) (x2 : Int32) (x3 : Int32) (M : jM) (F : jF) (L : jL) (B : Nat → Nat) (H : Heap) (locs : List Loc) (ls : Array Slot), jH (dC, dI) jCl [(cA, .int), (cL, .long)] (mW cA cL A M F L) Ap s H locs → lv_has ls 4 [(0, .ref (A 0)), (1, .int x1), (2, .int x2), (3, .int x3)] → fMo_valueIn_0 x1 x2 x3 M F L = some r → W p l e (headSpec wMo_valueIn rMo_valueIn).room s m args below meth c H locs 0 0 (jQi below (dC, dI) jCl [(cA, .int), (cL, .long)] (fun _ : Nat → Nat => mW cA cL A M F L) Ap args s r) (F0 m 0 ls []) := by
  obtain ⟨hx, hb, hml, hr, hts, hown, hlocks, hN⟩ := id hC
  have hj : ∀ w ∈ jw, w.before args s = true := fun w h => hts w (List.mem_cons_of_mem _ h)
  intro x1 x2 x3 M F L B H locs ls hJ hl h
  unfold fMo_valueIn_0 at h
  refine lv_aload_n hx hb dMo_valueIn_0 rfl (lv_at hl 0 rfl) ?_
  refine lv_iload_n hx hb dMo_valueIn_1 rfl (lv_at hl 2 rfl) ?_
  refine lv_iload_n hx hb dMo_valueIn_2 rfl (lv_at hl 1 rfl) ?_
  refine lv_iload_n hx hb dMo_valueIn_3 rfl (lv_at hl 2 rfl) ?_
  obtain ⟨q1, hq1, h⟩ := jbi_h h
  refine jcalli (w' := fun _ : Nat → Nat => mW cA cL A M F L) (va_runS (As := [.int x1, .int x2]) (rest := [.int x2, .ref (A 0)]) ⟨hx, hb, hml, hown, hts⟩ (cMo_rowIn l dC dI cA cL A x1 x2 M F L B H.size hq1) (va_cwS 2 hts (jgoodS jw_788 jw_789 jw_7 jw_790) rfl rfl rfl (by decide +kernel) ⟨Nat.le_of_ble_eq_true rfl, Nat.le_of_ble_eq_true rfl⟩) (jpreS hN hJ) rfl rfl hl.1 rfl (lv_room (Nat.le_of_ble_eq_true rfl)) dMo_valueIn_4 ⟨Nat.zero_le _, Nat.zero_le _⟩) hA hJ (fun B H locs hJ => ?_)
  refine lv_iload_n hx hb dMo_valueIn_7 rfl (lv_at hl 3 rfl) ?_
  obtain ⟨q2, hq2, h⟩ := jbi_h h
  refine jcalli (w' := fun _ : Nat → Nat => mW cA cL A M F L) (va_runV (As := [.int x2, .int q1, .int x3]) (rest := []) ⟨hx, hb, hml, hown, hts⟩ (cMo_cell l dC dI cA cL A x2 q1 x3 M F L B H.size hq2) (cwV 3 hts (jgoodV jw_735 jw_737 jws_25 jw_7 jw_738) rfl rfl rfl (by decide +kernel) ⟨Nat.le_of_ble_eq_true rfl, Nat.le_of_ble_eq_true rfl⟩) (jpreV hN hJ (ci := 6) (q0 := 0) rfl rfl) rfl rfl hl.1 rfl (lv_room (Nat.le_of_ble_eq_true rfl)) dMo_valueIn_8 ⟨Nat.zero_le _, Nat.zero_le _⟩) hA hJ (fun B H locs hJ => ?_)
  exact jreti (u := B) hx hb hr rfl hlocks hJ dMo_valueIn_11 (Option.some.inj h)
set_option maxHeartbeats 4000000 in
set_option maxRecDepth 100000 in
theorem cMo_valueIn (l : Launch) (dC : Nat → ClassId) (dI : Nat → Nat → Nat) (cA cL : ClassId) (A : Nat → Nat) (x1 : Int32) (x2 : Int32) (x3 : Int32) (M : jM) (F : jF) (L : jL) (B : Nat → Nat) (sz : Nat) {r : Int32} (h : fMo_valueIn x1 x2 x3 M F L = some r) : jCi l yMo_valueIn wMo_valueIn rMo_valueIn (dC, dI) jCl [(cA, .int), (cL, .long)] [.ref (A 0), .int x1, .int x2, .int x3] (mW cA cL A M F L) sz r (fun _ : Nat → Nat => mW cA cL A M F L) :=
  jOf (Qc := fun Ap => va_Qi (fun q (_ : Nat → Nat) => q = r) (jPost (dC, dI) jCl [(cA, .int), (cL, .long)] (fun _ : Nat → Nat => mW cA cL A M F L) Ap) Ap) (by decide) rfl (Nat.le_of_ble_eq_true rfl) (fun p e s m below meth c Ap ls hC hA hJ hl => uMo_valueIn_0 l dC dI cA cL A Ap hC hA _ _ _ _ _ _ B _ _ _ hJ (lv_sub hl [0, 1, 2, 3] rfl) h)
abbrev bMo_holds : ByteArray := prog_8_method_33_code
abbrev yMo_holds : MethodName := ⟨RMo, "holds", "(II)Z"⟩
abbrev wMo_holds : List Cond := .code yMo_holds bMo_holds 5 (some .boolean) :: jw
theorem dMo_holds_0 : decode bMo_holds 0 = .ok (.aload_n 0, 1) := by decide +kernel
theorem dMo_holds_1 : decode bMo_holds 1 = .ok (.iload_n 2, 1) := by decide +kernel
theorem dMo_holds_2 : decode bMo_holds 2 = .ok (.aload_n 0, 1) := by decide +kernel
theorem dMo_holds_3 : decode bMo_holds 3 = .ok (.getfield 25, 3) := by decide +kernel
theorem dMo_holds_6 : decode bMo_holds 6 = .ok (.iload_n 1, 1) := by decide +kernel
theorem dMo_holds_7 : decode bMo_holds 7 = .ok (.iaload, 1) := by decide +kernel
theorem dMo_holds_8 : decode bMo_holds 8 = .ok (.aload_n 0, 1) := by decide +kernel
theorem dMo_holds_9 : decode bMo_holds 9 = .ok (.getfield 28, 3) := by decide +kernel
theorem dMo_holds_12 : decode bMo_holds 12 = .ok (.iload_n 1, 1) := by decide +kernel
theorem dMo_holds_13 : decode bMo_holds 13 = .ok (.iaload, 1) := by decide +kernel
theorem dMo_holds_14 : decode bMo_holds 14 = .ok (.invokevirtual 136, 3) := by decide +kernel
theorem dMo_holds_17 : decode bMo_holds 17 = .ok (.istore_n 3, 1) := by decide +kernel
theorem dMo_holds_18 : decode bMo_holds 18 = .ok (.aload_n 0, 1) := by decide +kernel
theorem dMo_holds_19 : decode bMo_holds 19 = .ok (.getfield 22, 3) := by decide +kernel
theorem dMo_holds_22 : decode bMo_holds 22 = .ok (.iload_n 1, 1) := by decide +kernel
theorem dMo_holds_23 : decode bMo_holds 23 = .ok (.iaload, 1) := by decide +kernel
theorem dMo_holds_24 : decode bMo_holds 24 = .ok (.iconst 1, 1) := by decide +kernel
theorem dMo_holds_25 : decode bMo_holds 25 = .ok (.if_icmp .ne 12, 3) := by decide +kernel
theorem dMo_holds_28 : decode bMo_holds 28 = .ok (.aload_n 0, 1) := by decide +kernel
theorem dMo_holds_29 : decode bMo_holds 29 = .ok (.getfield 34, 3) := by decide +kernel
theorem dMo_holds_32 : decode bMo_holds 32 = .ok (.iload_n 1, 1) := by decide +kernel
theorem dMo_holds_33 : decode bMo_holds 33 = .ok (.iaload, 1) := by decide +kernel
theorem dMo_holds_34 : decode bMo_holds 34 = .ok (.goto 20, 3) := by decide +kernel
theorem dMo_holds_37 : decode bMo_holds 37 = .ok (.aload_n 0, 1) := by decide +kernel
theorem dMo_holds_38 : decode bMo_holds 38 = .ok (.iload_n 2, 1) := by decide +kernel
theorem dMo_holds_39 : decode bMo_holds 39 = .ok (.aload_n 0, 1) := by decide +kernel
theorem dMo_holds_40 : decode bMo_holds 40 = .ok (.getfield 31, 3) := by decide +kernel
theorem dMo_holds_43 : decode bMo_holds 43 = .ok (.iload_n 1, 1) := by decide +kernel
theorem dMo_holds_44 : decode bMo_holds 44 = .ok (.iaload, 1) := by decide +kernel
theorem dMo_holds_45 : decode bMo_holds 45 = .ok (.aload_n 0, 1) := by decide +kernel
theorem dMo_holds_46 : decode bMo_holds 46 = .ok (.getfield 34, 3) := by decide +kernel
theorem dMo_holds_49 : decode bMo_holds 49 = .ok (.iload_n 1, 1) := by decide +kernel
theorem dMo_holds_50 : decode bMo_holds 50 = .ok (.iaload, 1) := by decide +kernel
theorem dMo_holds_51 : decode bMo_holds 51 = .ok (.invokevirtual 136, 3) := by decide +kernel
theorem dMo_holds_54 : decode bMo_holds 54 = .ok (.istore 4, 2) := by decide +kernel
theorem dMo_holds_56 : decode bMo_holds 56 = .ok (.aload_n 0, 1) := by decide +kernel
theorem dMo_holds_57 : decode bMo_holds 57 = .ok (.getfield 22, 3) := by decide +kernel
theorem dMo_holds_60 : decode bMo_holds 60 = .ok (.iload_n 1, 1) := by decide +kernel
theorem dMo_holds_61 : decode bMo_holds 61 = .ok (.iaload, 1) := by decide +kernel
theorem dMo_holds_62 : decode bMo_holds 62 = .ok (.iconst 2, 1) := by decide +kernel
theorem dMo_holds_63 : decode bMo_holds 63 = .ok (.if_icmp .ne 17, 3) := by decide +kernel
theorem dMo_holds_66 : decode bMo_holds 66 = .ok (.iload_n 3, 1) := by decide +kernel
theorem dMo_holds_67 : decode bMo_holds 67 = .ok (.iload 4, 2) := by decide +kernel
theorem dMo_holds_69 : decode bMo_holds 69 = .ok (.if_icmp .ge 7, 3) := by decide +kernel
theorem dMo_holds_72 : decode bMo_holds 72 = .ok (.iconst 1, 1) := by decide +kernel
theorem dMo_holds_73 : decode bMo_holds 73 = .ok (.goto 18, 3) := by decide +kernel
theorem dMo_holds_76 : decode bMo_holds 76 = .ok (.iconst 0, 1) := by decide +kernel
theorem dMo_holds_77 : decode bMo_holds 77 = .ok (.goto 14, 3) := by decide +kernel
theorem dMo_holds_80 : decode bMo_holds 80 = .ok (.iload_n 3, 1) := by decide +kernel
theorem dMo_holds_81 : decode bMo_holds 81 = .ok (.iload 4, 2) := by decide +kernel
theorem dMo_holds_83 : decode bMo_holds 83 = .ok (.if_icmp .ne 7, 3) := by decide +kernel
theorem dMo_holds_86 : decode bMo_holds 86 = .ok (.iconst 1, 1) := by decide +kernel
theorem dMo_holds_87 : decode bMo_holds 87 = .ok (.goto 4, 3) := by decide +kernel
theorem dMo_holds_90 : decode bMo_holds 90 = .ok (.iconst 0, 1) := by decide +kernel
theorem dMo_holds_91 : decode bMo_holds 91 = .ok (.ireturn, 1) := by decide +kernel
abbrev rMo_holds : Room := { frames := 3, cells := 0, slots := 0, locals := 66 }
def fMo_holds_54 (x1 : Int32) (x3 : Int32) (s0 : Int32) (M : jM) (F : jF) (L : jL) : Option Int32 := (if jib x1 12 then (if (M 5 x1.toNatClampNeg) = 2 then (if s0 ≤ x3 then some 0 else some 1) else (if x3 = s0 then some 1 else some 0)) else none)
def fMo_holds_0 (x1 : Int32) (x2 : Int32) (M : jM) (F : jF) (L : jL) : Option Int32 := (if jib x1 12 then (if jib x1 12 then ((fMo_valueIn x2 (M 6 x1.toNatClampNeg) (M 7 x1.toNatClampNeg) M F L).bind fun q3 => (if jib x1 12 then (if (M 5 x1.toNatClampNeg) = 1 then (if jib x1 12 then fMo_holds_54 x1 q3 (M 9 x1.toNatClampNeg) M F L else none) else (if jib x1 12 then (if jib x1 12 then ((fMo_valueIn x2 (M 8 x1.toNatClampNeg) (M 9 x1.toNatClampNeg) M F L).bind fun q8 => fMo_holds_54 x1 q3 q8 M F L) else none) else none)) else none)) else none) else none)
abbrev fMo_holds (x1 : Int32) (x2 : Int32) (M : jM) (F : jF) (L : jL) : Option Int32 := fMo_holds_0 x1 x2 M F L
set_option maxHeartbeats 4000000 in
set_option maxRecDepth 100000 in
theorem uMo_holds_54 {p : Program} {e : Env} {s : State} {m : MethodId} {args : Array Value} {below : List Frame} {meth : Method} {c : Code} (l : Launch) (dC : Nat → ClassId) (dI : Nat → Nat → Nat) (cA cL : ClassId) (A : Nat → Nat) (Ap : Nat → Prop) (hC : jAt p s m args meth c bMo_holds 5 (some .boolean) wMo_holds RMo) (hA : ∀ q : Nat, s.heap.size ≤ q → Ap q) {r : Int32} : ∀ (x1 : Int32) (x3 : Int32) (s0 : Int32) (M : jM) (F : jF) (L : jL) (B : Nat → Nat) (H : Heap) (locs : List Loc) (ls : Array Slot), jH (dC, dI) jCl [(cA, .int), (cL, .long)] (mW cA cL A M F L) Ap s H locs → lv_has ls 5 [(0, .ref (A 0)), (1, .int x1), (3, .int x3)] → fMo_holds_54 x1 x3 s0 M F L = some r → W p l e (headSpec wMo_holds rMo_holds).room s m args below meth c H locs 0 0 (jQi below (dC, dI) jCl [(cA, .int), (cL, .long)] (fun _ : Nat → Nat => mW cA cL A M F L) Ap args s r) (F0 m 54 ls [.int s0]) := by
  obtain ⟨hx, hb, hml, hr, hts, hown, hlocks, hN⟩ := id hC
  have hj : ∀ w ∈ jw, w.before args s = true := fun w h => hts w (List.mem_cons_of_mem _ h)
  intro x1 x3 s0 M F L B H locs ls hJ hl h
  unfold fMo_holds_54 at h
  refine lv_istore (lv' := [(4, .int s0), (0, .ref (A 0)), (1, .int x1), (3, .int x3)]) hx hb dMo_holds_54 hl (by decide) rfl (fun ls hl => ?_)
  refine lv_aload_n hx hb dMo_holds_56 rfl (lv_at hl 1 rfl) ?_
  refine mget_7 hx hb hj hown hJ (hj _ jw_606) dMo_holds_57 ?_
  refine lv_iload_n hx hb dMo_holds_60 rfl (lv_at hl 2 rfl) ?_
  obtain ⟨hi9, h⟩ := jib_h h
  refine mald_5 hx hb hJ hi9 dMo_holds_61 ?_
  refine lv_iconst (v := 2) hx hb dMo_holds_62 (by decide) ?_
  refine lv_icmp_ne (tgt := 80) hx hb dMo_holds_63 (by decide) (fun c10 => ?_) (fun c10 => ?_)
  · replace h := jif_f c10 h
    refine lv_iload_n hx hb dMo_holds_80 rfl (lv_at hl 3 rfl) ?_
    refine lv_iload hx hb dMo_holds_81 (lv_at hl 0 rfl) ?_
    refine lv_icmp_ne (tgt := 90) hx hb dMo_holds_83 (by decide) (fun c11 => ?_) (fun c11 => ?_)
    · replace h := jif_f c11 h
      refine lv_iconst (v := 0) hx hb dMo_holds_90 (by decide) ?_
      exact jreti (u := B) hx hb hr rfl hlocks hJ dMo_holds_91 (Option.some.inj h)
    · replace h := jif_t c11 h
      refine lv_iconst (v := 1) hx hb dMo_holds_86 (by decide) ?_
      refine lv_goto (tgt := 91) hx hb dMo_holds_87 (by decide) ?_
      exact jreti (u := B) hx hb hr rfl hlocks hJ dMo_holds_91 (Option.some.inj h)
  · replace h := jif_t c10 h
    refine lv_iload_n hx hb dMo_holds_66 rfl (lv_at hl 3 rfl) ?_
    refine lv_iload hx hb dMo_holds_67 (lv_at hl 0 rfl) ?_
    refine lv_icmp_ge (tgt := 76) hx hb dMo_holds_69 (by decide) (fun c12 => ?_) (fun c12 => ?_)
    · replace h := jif_t c12 h
      refine lv_iconst (v := 0) hx hb dMo_holds_76 (by decide) ?_
      refine lv_goto (tgt := 91) hx hb dMo_holds_77 (by decide) ?_
      exact jreti (u := B) hx hb hr rfl hlocks hJ dMo_holds_91 (Option.some.inj h)
    · replace h := jif_f c12 h
      refine lv_iconst (v := 1) hx hb dMo_holds_72 (by decide) ?_
      refine lv_goto (tgt := 91) hx hb dMo_holds_73 (by decide) ?_
      exact jreti (u := B) hx hb hr rfl hlocks hJ dMo_holds_91 (Option.some.inj h)
set_option maxHeartbeats 4000000 in
set_option maxRecDepth 100000 in
theorem uMo_holds_0 {p : Program} {e : Env} {s : State} {m : MethodId} {args : Array Value} {below : List Frame} {meth : Method} {c : Code} (l : Launch) (dC : Nat → ClassId) (dI : Nat → Nat → Nat) (cA cL : ClassId) (A : Nat → Nat) (Ap : Nat → Prop) (hC : jAt p s m args meth c bMo_holds 5 (some .boolean) wMo_holds RMo) (hA : ∀ q : Nat, s.heap.size ≤ q → Ap q) {r : Int32} : ∀ (x1 : Int32) (x2 : Int32) (M : jM) (F : jF) (L : jL) (B : Nat → Nat) (H : Heap) (locs : List Loc) (ls : Array Slot), jH (dC, dI) jCl [(cA, .int), (cL, .long)] (mW cA cL A M F L) Ap s H locs → lv_has ls 5 [(0, .ref (A 0)), (1, .int x1), (2, .int x2)] → fMo_holds_0 x1 x2 M F L = some r → W p l e (headSpec wMo_holds rMo_holds).room s m args below meth c H locs 0 0 (jQi below (dC, dI) jCl [(cA, .int), (cL, .long)] (fun _ : Nat → Nat => mW cA cL A M F L) Ap args s r) (F0 m 0 ls []) := by
  obtain ⟨hx, hb, hml, hr, hts, hown, hlocks, hN⟩ := id hC
  have hj : ∀ w ∈ jw, w.before args s = true := fun w h => hts w (List.mem_cons_of_mem _ h)
  intro x1 x2 M F L B H locs ls hJ hl h
  unfold fMo_holds_0 at h
  refine lv_aload_n hx hb dMo_holds_0 rfl (lv_at hl 0 rfl) ?_
  refine lv_iload_n hx hb dMo_holds_1 rfl (lv_at hl 2 rfl) ?_
  refine lv_aload_n hx hb dMo_holds_2 rfl (lv_at hl 0 rfl) ?_
  refine mget_8 hx hb hj hown hJ (hj _ jw_607) dMo_holds_3 ?_
  refine lv_iload_n hx hb dMo_holds_6 rfl (lv_at hl 1 rfl) ?_
  obtain ⟨hi1, h⟩ := jib_h h
  refine mald_6 hx hb hJ hi1 dMo_holds_7 ?_
  refine lv_aload_n hx hb dMo_holds_8 rfl (lv_at hl 0 rfl) ?_
  refine mget_9 hx hb hj hown hJ (hj _ jw_608) dMo_holds_9 ?_
  refine lv_iload_n hx hb dMo_holds_12 rfl (lv_at hl 1 rfl) ?_
  obtain ⟨hi2, h⟩ := jib_h h
  refine mald_7 hx hb hJ hi2 dMo_holds_13 ?_
  obtain ⟨q3, hq3, h⟩ := jbi_h h
  refine jcalli (w' := fun _ : Nat → Nat => mW cA cL A M F L) (va_runV (As := [.int x2, .int (M 6 x1.toNatClampNeg), .int (M 7 x1.toNatClampNeg)]) (rest := []) ⟨hx, hb, hml, hown, hts⟩ (cMo_valueIn l dC dI cA cL A x2 (M 6 x1.toNatClampNeg) (M 7 x1.toNatClampNeg) M F L B H.size hq3) (cwV 3 hts (jgoodV jw_784 jw_786 jws_34 jw_7 jw_787) rfl rfl rfl (by decide +kernel) ⟨Nat.le_of_ble_eq_true rfl, Nat.le_of_ble_eq_true rfl⟩) (jpreV hN hJ (ci := 6) (q0 := 0) rfl rfl) rfl rfl hl.1 rfl (lv_room (Nat.le_of_ble_eq_true rfl)) dMo_holds_14 ⟨Nat.zero_le _, Nat.zero_le _⟩) hA hJ (fun B H locs hJ => ?_)
  refine lv_istore_n (lv' := [(3, .int q3), (0, .ref (A 0)), (1, .int x1), (2, .int x2)]) hx hb dMo_holds_17 rfl hl (by decide) rfl (fun ls hl => ?_)
  refine lv_aload_n hx hb dMo_holds_18 rfl (lv_at hl 1 rfl) ?_
  refine mget_7 hx hb hj hown hJ (hj _ jw_606) dMo_holds_19 ?_
  refine lv_iload_n hx hb dMo_holds_22 rfl (lv_at hl 2 rfl) ?_
  obtain ⟨hi4, h⟩ := jib_h h
  refine mald_5 hx hb hJ hi4 dMo_holds_23 ?_
  refine lv_iconst (v := 1) hx hb dMo_holds_24 (by decide) ?_
  refine lv_icmp_ne (tgt := 37) hx hb dMo_holds_25 (by decide) (fun c5 => ?_) (fun c5 => ?_)
  · replace h := jif_f c5 h
    refine lv_aload_n hx hb dMo_holds_37 rfl (lv_at hl 1 rfl) ?_
    refine lv_iload_n hx hb dMo_holds_38 rfl (lv_at hl 3 rfl) ?_
    refine lv_aload_n hx hb dMo_holds_39 rfl (lv_at hl 1 rfl) ?_
    refine mget_10 hx hb hj hown hJ (hj _ jw_609) dMo_holds_40 ?_
    refine lv_iload_n hx hb dMo_holds_43 rfl (lv_at hl 2 rfl) ?_
    obtain ⟨hi6, h⟩ := jib_h h
    refine mald_8 hx hb hJ hi6 dMo_holds_44 ?_
    refine lv_aload_n hx hb dMo_holds_45 rfl (lv_at hl 1 rfl) ?_
    refine mget_11 hx hb hj hown hJ (hj _ jw_610) dMo_holds_46 ?_
    refine lv_iload_n hx hb dMo_holds_49 rfl (lv_at hl 2 rfl) ?_
    obtain ⟨hi7, h⟩ := jib_h h
    refine mald_9 hx hb hJ hi7 dMo_holds_50 ?_
    obtain ⟨q8, hq8, h⟩ := jbi_h h
    refine jcalli (w' := fun _ : Nat → Nat => mW cA cL A M F L) (va_runV (As := [.int x2, .int (M 8 x1.toNatClampNeg), .int (M 9 x1.toNatClampNeg)]) (rest := []) ⟨hx, hb, hml, hown, hts⟩ (cMo_valueIn l dC dI cA cL A x2 (M 8 x1.toNatClampNeg) (M 9 x1.toNatClampNeg) M F L B H.size hq8) (cwV 3 hts (jgoodV jw_784 jw_786 jws_34 jw_7 jw_787) rfl rfl rfl (by decide +kernel) ⟨Nat.le_of_ble_eq_true rfl, Nat.le_of_ble_eq_true rfl⟩) (jpreV hN hJ (ci := 6) (q0 := 0) rfl rfl) rfl rfl hl.1 rfl (lv_room (Nat.le_of_ble_eq_true rfl)) dMo_holds_51 ⟨Nat.zero_le _, Nat.zero_le _⟩) hA hJ (fun B H locs hJ => ?_)
    exact uMo_holds_54 l dC dI cA cL A Ap hC hA _ _ _ _ _ _ B _ _ _ hJ (lv_sub hl [1, 2, 0] rfl) h
  · replace h := jif_t c5 h
    refine lv_aload_n hx hb dMo_holds_28 rfl (lv_at hl 1 rfl) ?_
    refine mget_11 hx hb hj hown hJ (hj _ jw_610) dMo_holds_29 ?_
    refine lv_iload_n hx hb dMo_holds_32 rfl (lv_at hl 2 rfl) ?_
    obtain ⟨hi13, h⟩ := jib_h h
    refine mald_9 hx hb hJ hi13 dMo_holds_33 ?_
    refine lv_goto (tgt := 54) hx hb dMo_holds_34 (by decide) ?_
    exact uMo_holds_54 l dC dI cA cL A Ap hC hA _ _ _ _ _ _ B _ _ _ hJ (lv_sub hl [1, 2, 0] rfl) h
set_option maxHeartbeats 4000000 in
set_option maxRecDepth 100000 in
theorem cMo_holds (l : Launch) (dC : Nat → ClassId) (dI : Nat → Nat → Nat) (cA cL : ClassId) (A : Nat → Nat) (x1 : Int32) (x2 : Int32) (M : jM) (F : jF) (L : jL) (B : Nat → Nat) (sz : Nat) {r : Int32} (h : fMo_holds x1 x2 M F L = some r) : jCi l yMo_holds wMo_holds rMo_holds (dC, dI) jCl [(cA, .int), (cL, .long)] [.ref (A 0), .int x1, .int x2] (mW cA cL A M F L) sz r (fun _ : Nat → Nat => mW cA cL A M F L) :=
  jOf (Qc := fun Ap => va_Qi (fun q (_ : Nat → Nat) => q = r) (jPost (dC, dI) jCl [(cA, .int), (cL, .long)] (fun _ : Nat → Nat => mW cA cL A M F L) Ap) Ap) (by decide) rfl (Nat.le_of_ble_eq_true rfl) (fun p e s m below meth c Ap ls hC hA hJ hl => uMo_holds_0 l dC dI cA cL A Ap hC hA _ _ _ _ _ B _ _ _ hJ (lv_sub hl [0, 1, 2] rfl) h)
abbrev bMo_allHold : ByteArray := prog_8_method_34_code
abbrev yMo_allHold : MethodName := ⟨RMo, "allHold", "(II)Z"⟩
abbrev wMo_allHold : List Cond := .code yMo_allHold bMo_allHold 4 (some .boolean) :: jw
theorem dMo_allHold_0 : decode bMo_allHold 0 = .ok (.iconst 0, 1) := by decide +kernel
theorem dMo_allHold_1 : decode bMo_allHold 1 = .ok (.istore_n 3, 1) := by decide +kernel
theorem dMo_allHold_2 : decode bMo_allHold 2 = .ok (.iload_n 3, 1) := by decide +kernel
theorem dMo_allHold_3 : decode bMo_allHold 3 = .ok (.aload_n 0, 1) := by decide +kernel
theorem dMo_allHold_4 : decode bMo_allHold 4 = .ok (.getfield 67, 3) := by decide +kernel
theorem dMo_allHold_7 : decode bMo_allHold 7 = .ok (.if_icmp .ge 29, 3) := by decide +kernel
theorem dMo_allHold_10 : decode bMo_allHold 10 = .ok (.aload_n 0, 1) := by decide +kernel
theorem dMo_allHold_11 : decode bMo_allHold 11 = .ok (.iload_n 3, 1) := by decide +kernel
theorem dMo_allHold_12 : decode bMo_allHold 12 = .ok (.iload_n 2, 1) := by decide +kernel
theorem dMo_allHold_13 : decode bMo_allHold 13 = .ok (.invokevirtual 86, 3) := by decide +kernel
theorem dMo_allHold_16 : decode bMo_allHold 16 = .ok (.ifCond .eq 14, 3) := by decide +kernel
theorem dMo_allHold_19 : decode bMo_allHold 19 = .ok (.aload_n 0, 1) := by decide +kernel
theorem dMo_allHold_20 : decode bMo_allHold 20 = .ok (.iload_n 3, 1) := by decide +kernel
theorem dMo_allHold_21 : decode bMo_allHold 21 = .ok (.iload_n 1, 1) := by decide +kernel
theorem dMo_allHold_22 : decode bMo_allHold 22 = .ok (.invokevirtual 139, 3) := by decide +kernel
theorem dMo_allHold_25 : decode bMo_allHold 25 = .ok (.ifCond .ne 5, 3) := by decide +kernel
theorem dMo_allHold_28 : decode bMo_allHold 28 = .ok (.iconst 0, 1) := by decide +kernel
theorem dMo_allHold_29 : decode bMo_allHold 29 = .ok (.ireturn, 1) := by decide +kernel
theorem dMo_allHold_30 : decode bMo_allHold 30 = .ok (.iinc 3 1, 3) := by decide +kernel
theorem dMo_allHold_33 : decode bMo_allHold 33 = .ok (.goto (-31), 3) := by decide +kernel
theorem dMo_allHold_36 : decode bMo_allHold 36 = .ok (.iconst 1, 1) := by decide +kernel
theorem dMo_allHold_37 : decode bMo_allHold 37 = .ok (.ireturn, 1) := by decide +kernel
abbrev rMo_allHold : Room := { frames := 4, cells := 0, slots := 0, locals := 90 }
def fMo_allHold_2 : Nat → Int32 → Int32 → Int32 → jM → jF → jL → Option Int32
  | 0, _, _, _, _, _, _ => none
  | n + 1, x1, x2, x3, M, F, L => (if (F 2) ≤ x3 then some 1 else ((fMo_isAmong x3 x2 M F L).bind fun q2 => (if q2 = 0 then fMo_allHold_2 n x1 x2 (x3 + 1) M F L else ((fMo_holds x3 x1 M F L).bind fun q4 => (if q4 = 0 then some 0 else fMo_allHold_2 n x1 x2 (x3 + 1) M F L)))))
def fMo_allHold_0 (x1 : Int32) (x2 : Int32) (M : jM) (F : jF) (L : jL) : Option Int32 := fMo_allHold_2 jfuel x1 x2 0 M F L
abbrev fMo_allHold (x1 : Int32) (x2 : Int32) (M : jM) (F : jF) (L : jL) : Option Int32 := fMo_allHold_0 x1 x2 M F L
set_option maxHeartbeats 4000000 in
set_option maxRecDepth 100000 in
theorem uMo_allHold_2 {p : Program} {e : Env} {s : State} {m : MethodId} {args : Array Value} {below : List Frame} {meth : Method} {c : Code} (l : Launch) (dC : Nat → ClassId) (dI : Nat → Nat → Nat) (cA cL : ClassId) (A : Nat → Nat) (Ap : Nat → Prop) (hC : jAt p s m args meth c bMo_allHold 4 (some .boolean) wMo_allHold RMo) (hA : ∀ q : Nat, s.heap.size ≤ q → Ap q) {r : Int32} : ∀ (n : Nat) (x1 : Int32) (x2 : Int32) (x3 : Int32) (M : jM) (F : jF) (L : jL) (B : Nat → Nat) (H : Heap) (locs : List Loc) (ls : Array Slot), jH (dC, dI) jCl [(cA, .int), (cL, .long)] (mW cA cL A M F L) Ap s H locs → lv_has ls 4 [(0, .ref (A 0)), (1, .int x1), (2, .int x2), (3, .int x3)] → fMo_allHold_2 n x1 x2 x3 M F L = some r → W p l e (headSpec wMo_allHold rMo_allHold).room s m args below meth c H locs 0 0 (jQi below (dC, dI) jCl [(cA, .int), (cL, .long)] (fun _ : Nat → Nat => mW cA cL A M F L) Ap args s r) (F0 m 2 ls []) := by
  obtain ⟨hx, hb, hml, hr, hts, hown, hlocks, hN⟩ := id hC
  have hj : ∀ w ∈ jw, w.before args s = true := fun w h => hts w (List.mem_cons_of_mem _ h)
  intro n
  induction n with
  | zero =>
    intro x1 x2 x3 M F L B H locs ls hJ hl h
    rw [fMo_allHold_2] at h
    cases h
  | succ n ih =>
    intro x1 x2 x3 M F L B H locs ls hJ hl h
    rw [fMo_allHold_2] at h
    refine lv_iload_n hx hb dMo_allHold_2 rfl (lv_at hl 3 rfl) ?_
    refine lv_aload_n hx hb dMo_allHold_3 rfl (lv_at hl 0 rfl) ?_
    refine mget_6 hx hb hj hown hJ (hj _ jw_605) dMo_allHold_4 ?_
    refine lv_icmp_ge (tgt := 36) hx hb dMo_allHold_7 (by decide) (fun c1 => ?_) (fun c1 => ?_)
    · replace h := jif_t c1 h
      refine lv_iconst (v := 1) hx hb dMo_allHold_36 (by decide) ?_
      exact jreti (u := B) hx hb hr rfl hlocks hJ dMo_allHold_37 (Option.some.inj h)
    · replace h := jif_f c1 h
      refine lv_aload_n hx hb dMo_allHold_10 rfl (lv_at hl 0 rfl) ?_
      refine lv_iload_n hx hb dMo_allHold_11 rfl (lv_at hl 3 rfl) ?_
      refine lv_iload_n hx hb dMo_allHold_12 rfl (lv_at hl 2 rfl) ?_
      obtain ⟨q2, hq2, h⟩ := jbi_h h
      refine jcalli (w' := fun _ : Nat → Nat => mW cA cL A M F L) (va_runV (As := [.int x3, .int x2]) (rest := []) ⟨hx, hb, hml, hown, hts⟩ (cMo_isAmong l dC dI cA cL A x3 x2 M F L B H.size hq2) (cwV 2 hts (jgoodV jw_723 jw_725 jws_22 jw_7 jw_726) rfl rfl rfl (by decide +kernel) ⟨Nat.le_of_ble_eq_true rfl, Nat.le_of_ble_eq_true rfl⟩) (jpreV hN hJ (ci := 6) (q0 := 0) rfl rfl) rfl rfl hl.1 rfl (lv_room (Nat.le_of_ble_eq_true rfl)) dMo_allHold_13 ⟨Nat.zero_le _, Nat.zero_le _⟩) hA hJ (fun B H locs hJ => ?_)
      refine lv_if_eq (tgt := 30) hx hb dMo_allHold_16 (by decide) (fun c3 => ?_) (fun c3 => ?_)
      · replace h := jif_t c3 h
        refine lv_iinc (v := x3 + 1) (lv' := [(3, .int (x3 + 1)), (0, .ref (A 0)), (1, .int x1), (2, .int x2)]) hx hb dMo_allHold_30 hl (k := 3) rfl rfl (by decide) rfl (fun ls hl => ?_)
        refine lv_goto (tgt := 2) hx hb dMo_allHold_33 (by decide) ?_
        exact ih _ _ _ _ _ _ B _ _ _ hJ (lv_sub hl [1, 2, 3, 0] rfl) h
      · replace h := jif_f c3 h
        refine lv_aload_n hx hb dMo_allHold_19 rfl (lv_at hl 0 rfl) ?_
        refine lv_iload_n hx hb dMo_allHold_20 rfl (lv_at hl 3 rfl) ?_
        refine lv_iload_n hx hb dMo_allHold_21 rfl (lv_at hl 1 rfl) ?_
        obtain ⟨q4, hq4, h⟩ := jbi_h h
        refine jcalli (w' := fun _ : Nat → Nat => mW cA cL A M F L) (va_runV (As := [.int x3, .int x1]) (rest := []) ⟨hx, hb, hml, hown, hts⟩ (cMo_holds l dC dI cA cL A x3 x1 M F L B H.size hq4) (cwV 2 hts (jgoodV jw_798 jw_800 jws_36 jw_7 jw_801) rfl rfl rfl (by decide +kernel) ⟨Nat.le_of_ble_eq_true rfl, Nat.le_of_ble_eq_true rfl⟩) (jpreV hN hJ (ci := 6) (q0 := 0) rfl rfl) rfl rfl hl.1 rfl (lv_room (Nat.le_of_ble_eq_true rfl)) dMo_allHold_22 ⟨Nat.zero_le _, Nat.zero_le _⟩) hA hJ (fun B H locs hJ => ?_)
        refine lv_if_ne (tgt := 30) hx hb dMo_allHold_25 (by decide) (fun c5 => ?_) (fun c5 => ?_)
        · replace h := jif_f c5 h
          refine lv_iinc (v := x3 + 1) (lv' := [(3, .int (x3 + 1)), (0, .ref (A 0)), (1, .int x1), (2, .int x2)]) hx hb dMo_allHold_30 hl (k := 3) rfl rfl (by decide) rfl (fun ls hl => ?_)
          refine lv_goto (tgt := 2) hx hb dMo_allHold_33 (by decide) ?_
          exact ih _ _ _ _ _ _ B _ _ _ hJ (lv_sub hl [1, 2, 3, 0] rfl) h
        · replace h := jif_t c5 h
          refine lv_iconst (v := 0) hx hb dMo_allHold_28 (by decide) ?_
          exact jreti (u := B) hx hb hr rfl hlocks hJ dMo_allHold_29 (Option.some.inj h)
set_option maxHeartbeats 4000000 in
set_option maxRecDepth 100000 in
theorem uMo_allHold_0 {p : Program} {e : Env} {s : State} {m : MethodId} {args : Array Value} {below : List Frame} {meth : Method} {c : Code} (l : Launch) (dC : Nat → ClassId) (dI : Nat → Nat → Nat) (cA cL : ClassId) (A : Nat → Nat) (Ap : Nat → Prop) (hC : jAt p s m args meth c bMo_allHold 4 (some .boolean) wMo_allHold RMo) (hA : ∀ q : Nat, s.heap.size ≤ q → Ap q) {r : Int32} : ∀ (x1 : Int32) (x2 : Int32) (M : jM) (F : jF) (L : jL) (B : Nat → Nat) (H : Heap) (locs : List Loc) (ls : Array Slot), jH (dC, dI) jCl [(cA, .int), (cL, .long)] (mW cA cL A M F L) Ap s H locs → lv_has ls 4 [(0, .ref (A 0)), (1, .int x1), (2, .int x2)] → fMo_allHold_0 x1 x2 M F L = some r → W p l e (headSpec wMo_allHold rMo_allHold).room s m args below meth c H locs 0 0 (jQi below (dC, dI) jCl [(cA, .int), (cL, .long)] (fun _ : Nat → Nat => mW cA cL A M F L) Ap args s r) (F0 m 0 ls []) := by
  obtain ⟨hx, hb, hml, hr, hts, hown, hlocks, hN⟩ := id hC
  have hj : ∀ w ∈ jw, w.before args s = true := fun w h => hts w (List.mem_cons_of_mem _ h)
  intro x1 x2 M F L B H locs ls hJ hl h
  unfold fMo_allHold_0 at h
  refine lv_iconst (v := 0) hx hb dMo_allHold_0 (by decide) ?_
  refine lv_istore_n (lv' := [(3, .int 0), (0, .ref (A 0)), (1, .int x1), (2, .int x2)]) hx hb dMo_allHold_1 rfl hl (by decide) rfl (fun ls hl => ?_)
  exact uMo_allHold_2 l dC dI cA cL A Ap hC hA jfuel _ _ _ _ _ _ B _ _ _ hJ (lv_sub hl [1, 2, 3, 0] rfl) h
set_option maxHeartbeats 4000000 in
set_option maxRecDepth 100000 in
theorem cMo_allHold (l : Launch) (dC : Nat → ClassId) (dI : Nat → Nat → Nat) (cA cL : ClassId) (A : Nat → Nat) (x1 : Int32) (x2 : Int32) (M : jM) (F : jF) (L : jL) (B : Nat → Nat) (sz : Nat) {r : Int32} (h : fMo_allHold x1 x2 M F L = some r) : jCi l yMo_allHold wMo_allHold rMo_allHold (dC, dI) jCl [(cA, .int), (cL, .long)] [.ref (A 0), .int x1, .int x2] (mW cA cL A M F L) sz r (fun _ : Nat → Nat => mW cA cL A M F L) :=
  jOf (Qc := fun Ap => va_Qi (fun q (_ : Nat → Nat) => q = r) (jPost (dC, dI) jCl [(cA, .int), (cL, .long)] (fun _ : Nat → Nat => mW cA cL A M F L) Ap) Ap) (by decide) rfl (Nat.le_of_ble_eq_true rfl) (fun p e s m below meth c Ap ls hC hA hJ hl => uMo_allHold_0 l dC dI cA cL A Ap hC hA _ _ _ _ _ B _ _ _ hJ (lv_sub hl [0, 1, 2] rfl) h)
abbrev bMo_isLooked : ByteArray := prog_8_method_35_code
abbrev yMo_isLooked : MethodName := ⟨RMo, "isLooked", "(IIIII)Z"⟩
abbrev wMo_isLooked : List Cond := .code yMo_isLooked bMo_isLooked 9 (some .boolean) :: jw
theorem dMo_isLooked_0 : decode bMo_isLooked 0 = .ok (.aload_n 0, 1) := by decide +kernel
theorem dMo_isLooked_1 : decode bMo_isLooked 1 = .ok (.iload_n 1, 1) := by decide +kernel
theorem dMo_isLooked_2 : decode bMo_isLooked 2 = .ok (.iload_n 2, 1) := by decide +kernel
theorem dMo_isLooked_3 : decode bMo_isLooked 3 = .ok (.iload 5, 2) := by decide +kernel
theorem dMo_isLooked_5 : decode bMo_isLooked 5 = .ok (.invokevirtual 118, 3) := by decide +kernel
theorem dMo_isLooked_8 : decode bMo_isLooked 8 = .ok (.istore 6, 2) := by decide +kernel
theorem dMo_isLooked_10 : decode bMo_isLooked 10 = .ok (.aload_n 0, 1) := by decide +kernel
theorem dMo_isLooked_11 : decode bMo_isLooked 11 = .ok (.iload_n 2, 1) := by decide +kernel
theorem dMo_isLooked_12 : decode bMo_isLooked 12 = .ok (.iload_n 3, 1) := by decide +kernel
theorem dMo_isLooked_13 : decode bMo_isLooked 13 = .ok (.iload 6, 2) := by decide +kernel
theorem dMo_isLooked_15 : decode bMo_isLooked 15 = .ok (.invokevirtual 78, 3) := by decide +kernel
theorem dMo_isLooked_18 : decode bMo_isLooked 18 = .ok (.istore 7, 2) := by decide +kernel
theorem dMo_isLooked_20 : decode bMo_isLooked 20 = .ok (.aload_n 0, 1) := by decide +kernel
theorem dMo_isLooked_21 : decode bMo_isLooked 21 = .ok (.getfield 22, 3) := by decide +kernel
theorem dMo_isLooked_24 : decode bMo_isLooked 24 = .ok (.iload_n 1, 1) := by decide +kernel
theorem dMo_isLooked_25 : decode bMo_isLooked 25 = .ok (.iaload, 1) := by decide +kernel
theorem dMo_isLooked_26 : decode bMo_isLooked 26 = .ok (.iconst 1, 1) := by decide +kernel
theorem dMo_isLooked_27 : decode bMo_isLooked 27 = .ok (.if_icmp .ne 20, 3) := by decide +kernel
theorem dMo_isLooked_30 : decode bMo_isLooked 30 = .ok (.iload 7, 2) := by decide +kernel
theorem dMo_isLooked_32 : decode bMo_isLooked 32 = .ok (.aload_n 0, 1) := by decide +kernel
theorem dMo_isLooked_33 : decode bMo_isLooked 33 = .ok (.getfield 34, 3) := by decide +kernel
theorem dMo_isLooked_36 : decode bMo_isLooked 36 = .ok (.iload_n 1, 1) := by decide +kernel
theorem dMo_isLooked_37 : decode bMo_isLooked 37 = .ok (.iaload, 1) := by decide +kernel
theorem dMo_isLooked_38 : decode bMo_isLooked 38 = .ok (.if_icmp .ne 7, 3) := by decide +kernel
theorem dMo_isLooked_41 : decode bMo_isLooked 41 = .ok (.iconst 1, 1) := by decide +kernel
theorem dMo_isLooked_42 : decode bMo_isLooked 42 = .ok (.goto 4, 3) := by decide +kernel
theorem dMo_isLooked_45 : decode bMo_isLooked 45 = .ok (.iconst 0, 1) := by decide +kernel
theorem dMo_isLooked_46 : decode bMo_isLooked 46 = .ok (.ireturn, 1) := by decide +kernel
theorem dMo_isLooked_47 : decode bMo_isLooked 47 = .ok (.aload_n 0, 1) := by decide +kernel
theorem dMo_isLooked_48 : decode bMo_isLooked 48 = .ok (.getfield 25, 3) := by decide +kernel
theorem dMo_isLooked_51 : decode bMo_isLooked 51 = .ok (.iload_n 1, 1) := by decide +kernel
theorem dMo_isLooked_52 : decode bMo_isLooked 52 = .ok (.iaload, 1) := by decide +kernel
theorem dMo_isLooked_53 : decode bMo_isLooked 53 = .ok (.iload_n 2, 1) := by decide +kernel
theorem dMo_isLooked_54 : decode bMo_isLooked 54 = .ok (.if_icmp .ne 22, 3) := by decide +kernel
theorem dMo_isLooked_57 : decode bMo_isLooked 57 = .ok (.iload 5, 2) := by decide +kernel
theorem dMo_isLooked_59 : decode bMo_isLooked 59 = .ok (.aload_n 0, 1) := by decide +kernel
theorem dMo_isLooked_60 : decode bMo_isLooked 60 = .ok (.getfield 31, 3) := by decide +kernel
theorem dMo_isLooked_63 : decode bMo_isLooked 63 = .ok (.iload_n 1, 1) := by decide +kernel
theorem dMo_isLooked_64 : decode bMo_isLooked 64 = .ok (.iaload, 1) := by decide +kernel
theorem dMo_isLooked_65 : decode bMo_isLooked 65 = .ok (.ishr, 1) := by decide +kernel
theorem dMo_isLooked_66 : decode bMo_isLooked 66 = .ok (.iconst 1, 1) := by decide +kernel
theorem dMo_isLooked_67 : decode bMo_isLooked 67 = .ok (.iand, 1) := by decide +kernel
theorem dMo_isLooked_68 : decode bMo_isLooked 68 = .ok (.iconst 1, 1) := by decide +kernel
theorem dMo_isLooked_69 : decode bMo_isLooked 69 = .ok (.if_icmp .ne 7, 3) := by decide +kernel
theorem dMo_isLooked_72 : decode bMo_isLooked 72 = .ok (.iconst 1, 1) := by decide +kernel
theorem dMo_isLooked_73 : decode bMo_isLooked 73 = .ok (.goto 4, 3) := by decide +kernel
theorem dMo_isLooked_76 : decode bMo_isLooked 76 = .ok (.iconst 0, 1) := by decide +kernel
theorem dMo_isLooked_77 : decode bMo_isLooked 77 = .ok (.istore 8, 2) := by decide +kernel
theorem dMo_isLooked_79 : decode bMo_isLooked 79 = .ok (.iload 7, 2) := by decide +kernel
theorem dMo_isLooked_81 : decode bMo_isLooked 81 = .ok (.iload 8, 2) := by decide +kernel
theorem dMo_isLooked_83 : decode bMo_isLooked 83 = .ok (.ifCond .eq 24, 3) := by decide +kernel
theorem dMo_isLooked_86 : decode bMo_isLooked 86 = .ok (.aload_n 0, 1) := by decide +kernel
theorem dMo_isLooked_87 : decode bMo_isLooked 87 = .ok (.iload 4, 2) := by decide +kernel
theorem dMo_isLooked_89 : decode bMo_isLooked 89 = .ok (.aload_n 0, 1) := by decide +kernel
theorem dMo_isLooked_90 : decode bMo_isLooked 90 = .ok (.getfield 31, 3) := by decide +kernel
theorem dMo_isLooked_93 : decode bMo_isLooked 93 = .ok (.iload_n 1, 1) := by decide +kernel
theorem dMo_isLooked_94 : decode bMo_isLooked 94 = .ok (.iaload, 1) := by decide +kernel
theorem dMo_isLooked_95 : decode bMo_isLooked 95 = .ok (.aload_n 0, 1) := by decide +kernel
theorem dMo_isLooked_96 : decode bMo_isLooked 96 = .ok (.getfield 34, 3) := by decide +kernel
theorem dMo_isLooked_99 : decode bMo_isLooked 99 = .ok (.iload_n 1, 1) := by decide +kernel
theorem dMo_isLooked_100 : decode bMo_isLooked 100 = .ok (.iaload, 1) := by decide +kernel
theorem dMo_isLooked_101 : decode bMo_isLooked 101 = .ok (.invokevirtual 136, 3) := by decide +kernel
theorem dMo_isLooked_104 : decode bMo_isLooked 104 = .ok (.goto 21, 3) := by decide +kernel
theorem dMo_isLooked_107 : decode bMo_isLooked 107 = .ok (.aload_n 0, 1) := by decide +kernel
theorem dMo_isLooked_108 : decode bMo_isLooked 108 = .ok (.iload 4, 2) := by decide +kernel
theorem dMo_isLooked_110 : decode bMo_isLooked 110 = .ok (.aload_n 0, 1) := by decide +kernel
theorem dMo_isLooked_111 : decode bMo_isLooked 111 = .ok (.getfield 25, 3) := by decide +kernel
theorem dMo_isLooked_114 : decode bMo_isLooked 114 = .ok (.iload_n 1, 1) := by decide +kernel
theorem dMo_isLooked_115 : decode bMo_isLooked 115 = .ok (.iaload, 1) := by decide +kernel
theorem dMo_isLooked_116 : decode bMo_isLooked 116 = .ok (.aload_n 0, 1) := by decide +kernel
theorem dMo_isLooked_117 : decode bMo_isLooked 117 = .ok (.getfield 28, 3) := by decide +kernel
theorem dMo_isLooked_120 : decode bMo_isLooked 120 = .ok (.iload_n 1, 1) := by decide +kernel
theorem dMo_isLooked_121 : decode bMo_isLooked 121 = .ok (.iaload, 1) := by decide +kernel
theorem dMo_isLooked_122 : decode bMo_isLooked 122 = .ok (.invokevirtual 136, 3) := by decide +kernel
theorem dMo_isLooked_125 : decode bMo_isLooked 125 = .ok (.if_icmp .ne 7, 3) := by decide +kernel
theorem dMo_isLooked_128 : decode bMo_isLooked 128 = .ok (.iconst 1, 1) := by decide +kernel
theorem dMo_isLooked_129 : decode bMo_isLooked 129 = .ok (.goto 4, 3) := by decide +kernel
theorem dMo_isLooked_132 : decode bMo_isLooked 132 = .ok (.iconst 0, 1) := by decide +kernel
theorem dMo_isLooked_133 : decode bMo_isLooked 133 = .ok (.ireturn, 1) := by decide +kernel
abbrev rMo_isLooked : Room := { frames := 3, cells := 0, slots := 0, locals := 66 }
def fMo_isLooked_125 (s0 : Int32) (s1 : Int32) (M : jM) (F : jF) (L : jL) : Option Int32 := (if s0 = s1 then some 1 else some 0)
def fMo_isLooked_77 (x1 : Int32) (x4 : Int32) (x7 : Int32) (s0 : Int32) (M : jM) (F : jF) (L : jL) : Option Int32 := (if s0 = 0 then (if jib x1 12 then (if jib x1 12 then ((fMo_valueIn x4 (M 6 x1.toNatClampNeg) (M 7 x1.toNatClampNeg) M F L).bind fun q10 => fMo_isLooked_125 x7 q10 M F L) else none) else none) else (if jib x1 12 then (if jib x1 12 then ((fMo_valueIn x4 (M 8 x1.toNatClampNeg) (M 9 x1.toNatClampNeg) M F L).bind fun q14 => fMo_isLooked_125 x7 q14 M F L) else none) else none))
def fMo_isLooked_76 (x1 : Int32) (x4 : Int32) (x7 : Int32) (M : jM) (F : jF) (L : jL) : Option Int32 := fMo_isLooked_77 x1 x4 x7 0 M F L
def fMo_isLooked_0 (x1 : Int32) (x2 : Int32) (x3 : Int32) (x4 : Int32) (x5 : Int32) (M : jM) (F : jF) (L : jL) : Option Int32 := ((fMo_tied x1 x2 x5 M F L).bind fun q1 => ((fMo_cell x2 x3 q1 M F L).bind fun q2 => (if jib x1 12 then (if (M 5 x1.toNatClampNeg) = 1 then (if jib x1 12 then (if q2 = (M 9 x1.toNatClampNeg) then some 1 else some 0) else none) else (if jib x1 12 then (if (M 6 x1.toNatClampNeg) = x2 then (if jib x1 12 then (if ((x5 >>> ((M 8 x1.toNatClampNeg) &&& 31)) &&& 1) = 1 then fMo_isLooked_77 x1 x4 q2 1 M F L else fMo_isLooked_76 x1 x4 q2 M F L) else none) else fMo_isLooked_76 x1 x4 q2 M F L) else none)) else none)))
abbrev fMo_isLooked (x1 : Int32) (x2 : Int32) (x3 : Int32) (x4 : Int32) (x5 : Int32) (M : jM) (F : jF) (L : jL) : Option Int32 := fMo_isLooked_0 x1 x2 x3 x4 x5 M F L
set_option maxHeartbeats 4000000 in
set_option maxRecDepth 100000 in
theorem uMo_isLooked_125 {p : Program} {e : Env} {s : State} {m : MethodId} {args : Array Value} {below : List Frame} {meth : Method} {c : Code} (l : Launch) (dC : Nat → ClassId) (dI : Nat → Nat → Nat) (cA cL : ClassId) (A : Nat → Nat) (Ap : Nat → Prop) (hC : jAt p s m args meth c bMo_isLooked 9 (some .boolean) wMo_isLooked RMo) (hA : ∀ q : Nat, s.heap.size ≤ q → Ap q) {r : Int32} : ∀ (s0 : Int32) (s1 : Int32) (M : jM) (F : jF) (L : jL) (B : Nat → Nat) (H : Heap) (locs : List Loc) (ls : Array Slot), jH (dC, dI) jCl [(cA, .int), (cL, .long)] (mW cA cL A M F L) Ap s H locs → lv_has ls 9 [] → fMo_isLooked_125 s0 s1 M F L = some r → W p l e (headSpec wMo_isLooked rMo_isLooked).room s m args below meth c H locs 0 0 (jQi below (dC, dI) jCl [(cA, .int), (cL, .long)] (fun _ : Nat → Nat => mW cA cL A M F L) Ap args s r) (F0 m 125 ls [.int s1, .int s0]) := by
  obtain ⟨hx, hb, hml, hr, hts, hown, hlocks, hN⟩ := id hC
  have hj : ∀ w ∈ jw, w.before args s = true := fun w h => hts w (List.mem_cons_of_mem _ h)
  intro s0 s1 M F L B H locs ls hJ hl h
  unfold fMo_isLooked_125 at h
  refine lv_icmp_ne (tgt := 132) hx hb dMo_isLooked_125 (by decide) (fun c11 => ?_) (fun c11 => ?_)
  · replace h := jif_f c11 h
    refine lv_iconst (v := 0) hx hb dMo_isLooked_132 (by decide) ?_
    exact jreti (u := B) hx hb hr rfl hlocks hJ dMo_isLooked_133 (Option.some.inj h)
  · replace h := jif_t c11 h
    refine lv_iconst (v := 1) hx hb dMo_isLooked_128 (by decide) ?_
    refine lv_goto (tgt := 133) hx hb dMo_isLooked_129 (by decide) ?_
    exact jreti (u := B) hx hb hr rfl hlocks hJ dMo_isLooked_133 (Option.some.inj h)
set_option maxHeartbeats 4000000 in
set_option maxRecDepth 100000 in
theorem uMo_isLooked_77 {p : Program} {e : Env} {s : State} {m : MethodId} {args : Array Value} {below : List Frame} {meth : Method} {c : Code} (l : Launch) (dC : Nat → ClassId) (dI : Nat → Nat → Nat) (cA cL : ClassId) (A : Nat → Nat) (Ap : Nat → Prop) (hC : jAt p s m args meth c bMo_isLooked 9 (some .boolean) wMo_isLooked RMo) (hA : ∀ q : Nat, s.heap.size ≤ q → Ap q) {r : Int32} : ∀ (x1 : Int32) (x4 : Int32) (x7 : Int32) (s0 : Int32) (M : jM) (F : jF) (L : jL) (B : Nat → Nat) (H : Heap) (locs : List Loc) (ls : Array Slot), jH (dC, dI) jCl [(cA, .int), (cL, .long)] (mW cA cL A M F L) Ap s H locs → lv_has ls 9 [(0, .ref (A 0)), (1, .int x1), (4, .int x4), (7, .int x7)] → fMo_isLooked_77 x1 x4 x7 s0 M F L = some r → W p l e (headSpec wMo_isLooked rMo_isLooked).room s m args below meth c H locs 0 0 (jQi below (dC, dI) jCl [(cA, .int), (cL, .long)] (fun _ : Nat → Nat => mW cA cL A M F L) Ap args s r) (F0 m 77 ls [.int s0]) := by
  obtain ⟨hx, hb, hml, hr, hts, hown, hlocks, hN⟩ := id hC
  have hj : ∀ w ∈ jw, w.before args s = true := fun w h => hts w (List.mem_cons_of_mem _ h)
  intro x1 x4 x7 s0 M F L B H locs ls hJ hl h
  unfold fMo_isLooked_77 at h
  refine lv_istore (lv' := [(8, .int s0), (0, .ref (A 0)), (1, .int x1), (4, .int x4), (7, .int x7)]) hx hb dMo_isLooked_77 hl (by decide) rfl (fun ls hl => ?_)
  refine lv_iload hx hb dMo_isLooked_79 (lv_at hl 4 rfl) ?_
  refine lv_iload hx hb dMo_isLooked_81 (lv_at hl 0 rfl) ?_
  refine lv_if_eq (tgt := 107) hx hb dMo_isLooked_83 (by decide) (fun c7 => ?_) (fun c7 => ?_)
  · replace h := jif_t c7 h
    refine lv_aload_n hx hb dMo_isLooked_107 rfl (lv_at hl 1 rfl) ?_
    refine lv_iload hx hb dMo_isLooked_108 (lv_at hl 3 rfl) ?_
    refine lv_aload_n hx hb dMo_isLooked_110 rfl (lv_at hl 1 rfl) ?_
    refine mget_8 hx hb hj hown hJ (hj _ jw_607) dMo_isLooked_111 ?_
    refine lv_iload_n hx hb dMo_isLooked_114 rfl (lv_at hl 2 rfl) ?_
    obtain ⟨hi8, h⟩ := jib_h h
    refine mald_6 hx hb hJ hi8 dMo_isLooked_115 ?_
    refine lv_aload_n hx hb dMo_isLooked_116 rfl (lv_at hl 1 rfl) ?_
    refine mget_9 hx hb hj hown hJ (hj _ jw_608) dMo_isLooked_117 ?_
    refine lv_iload_n hx hb dMo_isLooked_120 rfl (lv_at hl 2 rfl) ?_
    obtain ⟨hi9, h⟩ := jib_h h
    refine mald_7 hx hb hJ hi9 dMo_isLooked_121 ?_
    obtain ⟨q10, hq10, h⟩ := jbi_h h
    refine jcalli (w' := fun _ : Nat → Nat => mW cA cL A M F L) (va_runV (As := [.int x4, .int (M 6 x1.toNatClampNeg), .int (M 7 x1.toNatClampNeg)]) (rest := [.int x7]) ⟨hx, hb, hml, hown, hts⟩ (cMo_valueIn l dC dI cA cL A x4 (M 6 x1.toNatClampNeg) (M 7 x1.toNatClampNeg) M F L B H.size hq10) (cwV 3 hts (jgoodV jw_784 jw_786 jws_34 jw_7 jw_787) rfl rfl rfl (by decide +kernel) ⟨Nat.le_of_ble_eq_true rfl, Nat.le_of_ble_eq_true rfl⟩) (jpreV hN hJ (ci := 6) (q0 := 0) rfl rfl) rfl rfl hl.1 rfl (lv_room (Nat.le_of_ble_eq_true rfl)) dMo_isLooked_122 ⟨Nat.zero_le _, Nat.zero_le _⟩) hA hJ (fun B H locs hJ => ?_)
    exact uMo_isLooked_125 l dC dI cA cL A Ap hC hA _ _ _ _ _ B _ _ _ hJ (lv_sub hl [] rfl) h
  · replace h := jif_f c7 h
    refine lv_aload_n hx hb dMo_isLooked_86 rfl (lv_at hl 1 rfl) ?_
    refine lv_iload hx hb dMo_isLooked_87 (lv_at hl 3 rfl) ?_
    refine lv_aload_n hx hb dMo_isLooked_89 rfl (lv_at hl 1 rfl) ?_
    refine mget_10 hx hb hj hown hJ (hj _ jw_609) dMo_isLooked_90 ?_
    refine lv_iload_n hx hb dMo_isLooked_93 rfl (lv_at hl 2 rfl) ?_
    obtain ⟨hi12, h⟩ := jib_h h
    refine mald_8 hx hb hJ hi12 dMo_isLooked_94 ?_
    refine lv_aload_n hx hb dMo_isLooked_95 rfl (lv_at hl 1 rfl) ?_
    refine mget_11 hx hb hj hown hJ (hj _ jw_610) dMo_isLooked_96 ?_
    refine lv_iload_n hx hb dMo_isLooked_99 rfl (lv_at hl 2 rfl) ?_
    obtain ⟨hi13, h⟩ := jib_h h
    refine mald_9 hx hb hJ hi13 dMo_isLooked_100 ?_
    obtain ⟨q14, hq14, h⟩ := jbi_h h
    refine jcalli (w' := fun _ : Nat → Nat => mW cA cL A M F L) (va_runV (As := [.int x4, .int (M 8 x1.toNatClampNeg), .int (M 9 x1.toNatClampNeg)]) (rest := [.int x7]) ⟨hx, hb, hml, hown, hts⟩ (cMo_valueIn l dC dI cA cL A x4 (M 8 x1.toNatClampNeg) (M 9 x1.toNatClampNeg) M F L B H.size hq14) (cwV 3 hts (jgoodV jw_784 jw_786 jws_34 jw_7 jw_787) rfl rfl rfl (by decide +kernel) ⟨Nat.le_of_ble_eq_true rfl, Nat.le_of_ble_eq_true rfl⟩) (jpreV hN hJ (ci := 6) (q0 := 0) rfl rfl) rfl rfl hl.1 rfl (lv_room (Nat.le_of_ble_eq_true rfl)) dMo_isLooked_101 ⟨Nat.zero_le _, Nat.zero_le _⟩) hA hJ (fun B H locs hJ => ?_)
    refine lv_goto (tgt := 125) hx hb dMo_isLooked_104 (by decide) ?_
    exact uMo_isLooked_125 l dC dI cA cL A Ap hC hA _ _ _ _ _ B _ _ _ hJ (lv_sub hl [] rfl) h
set_option maxHeartbeats 4000000 in
set_option maxRecDepth 100000 in
theorem uMo_isLooked_76 {p : Program} {e : Env} {s : State} {m : MethodId} {args : Array Value} {below : List Frame} {meth : Method} {c : Code} (l : Launch) (dC : Nat → ClassId) (dI : Nat → Nat → Nat) (cA cL : ClassId) (A : Nat → Nat) (Ap : Nat → Prop) (hC : jAt p s m args meth c bMo_isLooked 9 (some .boolean) wMo_isLooked RMo) (hA : ∀ q : Nat, s.heap.size ≤ q → Ap q) {r : Int32} : ∀ (x1 : Int32) (x4 : Int32) (x7 : Int32) (M : jM) (F : jF) (L : jL) (B : Nat → Nat) (H : Heap) (locs : List Loc) (ls : Array Slot), jH (dC, dI) jCl [(cA, .int), (cL, .long)] (mW cA cL A M F L) Ap s H locs → lv_has ls 9 [(0, .ref (A 0)), (1, .int x1), (4, .int x4), (7, .int x7)] → fMo_isLooked_76 x1 x4 x7 M F L = some r → W p l e (headSpec wMo_isLooked rMo_isLooked).room s m args below meth c H locs 0 0 (jQi below (dC, dI) jCl [(cA, .int), (cL, .long)] (fun _ : Nat → Nat => mW cA cL A M F L) Ap args s r) (F0 m 76 ls []) := by
  obtain ⟨hx, hb, hml, hr, hts, hown, hlocks, hN⟩ := id hC
  have hj : ∀ w ∈ jw, w.before args s = true := fun w h => hts w (List.mem_cons_of_mem _ h)
  intro x1 x4 x7 M F L B H locs ls hJ hl h
  unfold fMo_isLooked_76 at h
  refine lv_iconst (v := 0) hx hb dMo_isLooked_76 (by decide) ?_
  exact uMo_isLooked_77 l dC dI cA cL A Ap hC hA _ _ _ _ _ _ _ B _ _ _ hJ (lv_sub hl [0, 1, 2, 3] rfl) h
set_option maxHeartbeats 4000000 in
set_option maxRecDepth 100000 in
theorem uMo_isLooked_0 {p : Program} {e : Env} {s : State} {m : MethodId} {args : Array Value} {below : List Frame} {meth : Method} {c : Code} (l : Launch) (dC : Nat → ClassId) (dI : Nat → Nat → Nat) (cA cL : ClassId) (A : Nat → Nat) (Ap : Nat → Prop) (hC : jAt p s m args meth c bMo_isLooked 9 (some .boolean) wMo_isLooked RMo) (hA : ∀ q : Nat, s.heap.size ≤ q → Ap q) {r : Int32} : ∀ (x1 : Int32) (x2 : Int32) (x3 : Int32) (x4 : Int32) (x5 : Int32) (M : jM) (F : jF) (L : jL) (B : Nat → Nat) (H : Heap) (locs : List Loc) (ls : Array Slot), jH (dC, dI) jCl [(cA, .int), (cL, .long)] (mW cA cL A M F L) Ap s H locs → lv_has ls 9 [(0, .ref (A 0)), (1, .int x1), (2, .int x2), (3, .int x3), (4, .int x4), (5, .int x5)] → fMo_isLooked_0 x1 x2 x3 x4 x5 M F L = some r → W p l e (headSpec wMo_isLooked rMo_isLooked).room s m args below meth c H locs 0 0 (jQi below (dC, dI) jCl [(cA, .int), (cL, .long)] (fun _ : Nat → Nat => mW cA cL A M F L) Ap args s r) (F0 m 0 ls []) := by
  obtain ⟨hx, hb, hml, hr, hts, hown, hlocks, hN⟩ := id hC
  have hj : ∀ w ∈ jw, w.before args s = true := fun w h => hts w (List.mem_cons_of_mem _ h)
  intro x1 x2 x3 x4 x5 M F L B H locs ls hJ hl h
  unfold fMo_isLooked_0 at h
  refine lv_aload_n hx hb dMo_isLooked_0 rfl (lv_at hl 0 rfl) ?_
  refine lv_iload_n hx hb dMo_isLooked_1 rfl (lv_at hl 1 rfl) ?_
  refine lv_iload_n hx hb dMo_isLooked_2 rfl (lv_at hl 2 rfl) ?_
  refine lv_iload hx hb dMo_isLooked_3 (lv_at hl 5 rfl) ?_
  obtain ⟨q1, hq1, h⟩ := jbi_h h
  refine jcalli (w' := fun _ : Nat → Nat => mW cA cL A M F L) (va_runV (As := [.int x1, .int x2, .int x5]) (rest := []) ⟨hx, hb, hml, hown, hts⟩ (cMo_tied l dC dI cA cL A x1 x2 x5 M F L B H.size hq1) (cwV 3 hts (jgoodV jw_768 jw_770 jws_32 jw_7 jw_771) rfl rfl rfl (by decide +kernel) ⟨Nat.le_of_ble_eq_true rfl, Nat.le_of_ble_eq_true rfl⟩) (jpreV hN hJ (ci := 6) (q0 := 0) rfl rfl) rfl rfl hl.1 rfl (lv_room (Nat.le_of_ble_eq_true rfl)) dMo_isLooked_5 ⟨Nat.zero_le _, Nat.zero_le _⟩) hA hJ (fun B H locs hJ => ?_)
  refine lv_istore (lv' := [(6, .int q1), (0, .ref (A 0)), (1, .int x1), (2, .int x2), (3, .int x3), (4, .int x4), (5, .int x5)]) hx hb dMo_isLooked_8 hl (by decide) rfl (fun ls hl => ?_)
  refine lv_aload_n hx hb dMo_isLooked_10 rfl (lv_at hl 1 rfl) ?_
  refine lv_iload_n hx hb dMo_isLooked_11 rfl (lv_at hl 3 rfl) ?_
  refine lv_iload_n hx hb dMo_isLooked_12 rfl (lv_at hl 4 rfl) ?_
  refine lv_iload hx hb dMo_isLooked_13 (lv_at hl 0 rfl) ?_
  obtain ⟨q2, hq2, h⟩ := jbi_h h
  refine jcalli (w' := fun _ : Nat → Nat => mW cA cL A M F L) (va_runV (As := [.int x2, .int x3, .int q1]) (rest := []) ⟨hx, hb, hml, hown, hts⟩ (cMo_cell l dC dI cA cL A x2 x3 q1 M F L B H.size hq2) (cwV 3 hts (jgoodV jw_735 jw_737 jws_25 jw_7 jw_738) rfl rfl rfl (by decide +kernel) ⟨Nat.le_of_ble_eq_true rfl, Nat.le_of_ble_eq_true rfl⟩) (jpreV hN hJ (ci := 6) (q0 := 0) rfl rfl) rfl rfl hl.1 rfl (lv_room (Nat.le_of_ble_eq_true rfl)) dMo_isLooked_15 ⟨Nat.zero_le _, Nat.zero_le _⟩) hA hJ (fun B H locs hJ => ?_)
  refine lv_istore (lv' := [(7, .int q2), (6, .int q1), (0, .ref (A 0)), (1, .int x1), (2, .int x2), (3, .int x3), (4, .int x4), (5, .int x5)]) hx hb dMo_isLooked_18 hl (by decide) rfl (fun ls hl => ?_)
  refine lv_aload_n hx hb dMo_isLooked_20 rfl (lv_at hl 2 rfl) ?_
  refine mget_7 hx hb hj hown hJ (hj _ jw_606) dMo_isLooked_21 ?_
  refine lv_iload_n hx hb dMo_isLooked_24 rfl (lv_at hl 3 rfl) ?_
  obtain ⟨hi3, h⟩ := jib_h h
  refine mald_5 hx hb hJ hi3 dMo_isLooked_25 ?_
  refine lv_iconst (v := 1) hx hb dMo_isLooked_26 (by decide) ?_
  refine lv_icmp_ne (tgt := 47) hx hb dMo_isLooked_27 (by decide) (fun c4 => ?_) (fun c4 => ?_)
  · replace h := jif_f c4 h
    refine lv_aload_n hx hb dMo_isLooked_47 rfl (lv_at hl 2 rfl) ?_
    refine mget_8 hx hb hj hown hJ (hj _ jw_607) dMo_isLooked_48 ?_
    refine lv_iload_n hx hb dMo_isLooked_51 rfl (lv_at hl 3 rfl) ?_
    obtain ⟨hi5, h⟩ := jib_h h
    refine mald_6 hx hb hJ hi5 dMo_isLooked_52 ?_
    refine lv_iload_n hx hb dMo_isLooked_53 rfl (lv_at hl 4 rfl) ?_
    refine lv_icmp_ne (tgt := 76) hx hb dMo_isLooked_54 (by decide) (fun c6 => ?_) (fun c6 => ?_)
    · replace h := jif_f c6 h
      exact uMo_isLooked_76 l dC dI cA cL A Ap hC hA _ _ _ _ _ _ B _ _ _ hJ (lv_sub hl [2, 3, 6, 0] rfl) h
    · replace h := jif_t c6 h
      refine lv_iload hx hb dMo_isLooked_57 (lv_at hl 7 rfl) ?_
      refine lv_aload_n hx hb dMo_isLooked_59 rfl (lv_at hl 2 rfl) ?_
      refine mget_10 hx hb hj hown hJ (hj _ jw_609) dMo_isLooked_60 ?_
      refine lv_iload_n hx hb dMo_isLooked_63 rfl (lv_at hl 3 rfl) ?_
      obtain ⟨hi15, h⟩ := jib_h h
      refine mald_8 hx hb hJ hi15 dMo_isLooked_64 ?_
      refine lv_ishr hx hb dMo_isLooked_65 ?_
      refine lv_iconst (v := 1) hx hb dMo_isLooked_66 (by decide) ?_
      refine lv_iand hx hb dMo_isLooked_67 ?_
      refine lv_iconst (v := 1) hx hb dMo_isLooked_68 (by decide) ?_
      refine lv_icmp_ne (tgt := 76) hx hb dMo_isLooked_69 (by decide) (fun c16 => ?_) (fun c16 => ?_)
      · replace h := jif_f c16 h
        exact uMo_isLooked_76 l dC dI cA cL A Ap hC hA _ _ _ _ _ _ B _ _ _ hJ (lv_sub hl [2, 3, 6, 0] rfl) h
      · replace h := jif_t c16 h
        refine lv_iconst (v := 1) hx hb dMo_isLooked_72 (by decide) ?_
        refine lv_goto (tgt := 77) hx hb dMo_isLooked_73 (by decide) ?_
        exact uMo_isLooked_77 l dC dI cA cL A Ap hC hA _ _ _ _ _ _ _ B _ _ _ hJ (lv_sub hl [2, 3, 6, 0] rfl) h
  · replace h := jif_t c4 h
    refine lv_iload hx hb dMo_isLooked_30 (lv_at hl 0 rfl) ?_
    refine lv_aload_n hx hb dMo_isLooked_32 rfl (lv_at hl 2 rfl) ?_
    refine mget_11 hx hb hj hown hJ (hj _ jw_610) dMo_isLooked_33 ?_
    refine lv_iload_n hx hb dMo_isLooked_36 rfl (lv_at hl 3 rfl) ?_
    obtain ⟨hi17, h⟩ := jib_h h
    refine mald_9 hx hb hJ hi17 dMo_isLooked_37 ?_
    refine lv_icmp_ne (tgt := 45) hx hb dMo_isLooked_38 (by decide) (fun c18 => ?_) (fun c18 => ?_)
    · replace h := jif_f c18 h
      refine lv_iconst (v := 0) hx hb dMo_isLooked_45 (by decide) ?_
      exact jreti (u := B) hx hb hr rfl hlocks hJ dMo_isLooked_46 (Option.some.inj h)
    · replace h := jif_t c18 h
      refine lv_iconst (v := 1) hx hb dMo_isLooked_41 (by decide) ?_
      refine lv_goto (tgt := 46) hx hb dMo_isLooked_42 (by decide) ?_
      exact jreti (u := B) hx hb hr rfl hlocks hJ dMo_isLooked_46 (Option.some.inj h)
set_option maxHeartbeats 4000000 in
set_option maxRecDepth 100000 in
theorem cMo_isLooked (l : Launch) (dC : Nat → ClassId) (dI : Nat → Nat → Nat) (cA cL : ClassId) (A : Nat → Nat) (x1 : Int32) (x2 : Int32) (x3 : Int32) (x4 : Int32) (x5 : Int32) (M : jM) (F : jF) (L : jL) (B : Nat → Nat) (sz : Nat) {r : Int32} (h : fMo_isLooked x1 x2 x3 x4 x5 M F L = some r) : jCi l yMo_isLooked wMo_isLooked rMo_isLooked (dC, dI) jCl [(cA, .int), (cL, .long)] [.ref (A 0), .int x1, .int x2, .int x3, .int x4, .int x5] (mW cA cL A M F L) sz r (fun _ : Nat → Nat => mW cA cL A M F L) :=
  jOf (Qc := fun Ap => va_Qi (fun q (_ : Nat → Nat) => q = r) (jPost (dC, dI) jCl [(cA, .int), (cL, .long)] (fun _ : Nat → Nat => mW cA cL A M F L) Ap) Ap) (by decide) rfl (Nat.le_of_ble_eq_true rfl) (fun p e s m below meth c Ap ls hC hA hJ hl => uMo_isLooked_0 l dC dI cA cL A Ap hC hA _ _ _ _ _ _ _ _ B _ _ _ hJ (lv_sub hl [0, 1, 2, 3, 4, 5] rfl) h)
abbrev bMo_looks : ByteArray := prog_8_method_38_code
abbrev yMo_looks : MethodName := ⟨RMo, "looks", "()I"⟩
abbrev wMo_looks : List Cond := .code yMo_looks bMo_looks 1 (some .int) :: jw
theorem dMo_looks_0 : decode bMo_looks 0 = .ok (.aload_n 0, 1) := by decide +kernel
theorem dMo_looks_1 : decode bMo_looks 1 = .ok (.iconst 0, 1) := by decide +kernel
theorem dMo_looks_2 : decode bMo_looks 2 = .ok (.putfield 56, 3) := by decide +kernel
theorem dMo_looks_5 : decode bMo_looks 5 = .ok (.aload_n 0, 1) := by decide +kernel
theorem dMo_looks_6 : decode bMo_looks 6 = .ok (.getfield 156, 3) := by decide +kernel
theorem dMo_looks_9 : decode bMo_looks 9 = .ok (.ireturn, 1) := by decide +kernel
abbrev rMo_looks : Room := { frames := 0, cells := 0, slots := 0, locals := 0 }
def fMo_looks_0 (M : jM) (F : jF) (L : jL) : Option (Int32 × jM × jF × jL) := some ((jfu F 0 0) 5, M, jfu F 0 0, L)
abbrev fMo_looks (M : jM) (F : jF) (L : jL) : Option (Int32 × jM × jF × jL) := fMo_looks_0  M F L
set_option maxHeartbeats 4000000 in
set_option maxRecDepth 100000 in
theorem uMo_looks_0 {p : Program} {e : Env} {s : State} {m : MethodId} {args : Array Value} {below : List Frame} {meth : Method} {c : Code} (l : Launch) (dC : Nat → ClassId) (dI : Nat → Nat → Nat) (cA cL : ClassId) (A : Nat → Nat) (Ap : Nat → Prop) (hC : jAt p s m args meth c bMo_looks 1 (some .int) wMo_looks RMo) (hA : ∀ q : Nat, s.heap.size ≤ q → Ap q) {r : Int32} {M' : jM} {F' : jF} {L' : jL} : ∀ (M : jM) (F : jF) (L : jL) (B : Nat → Nat) (H : Heap) (locs : List Loc) (ls : Array Slot), jH (dC, dI) jCl [(cA, .int), (cL, .long)] (mW cA cL A M F L) Ap s H locs → lv_has ls 1 [(0, .ref (A 0))] → fMo_looks_0 M F L = some (r, M', F', L') → W p l e (headSpec wMo_looks rMo_looks).room s m args below meth c H locs 0 0 (jQi below (dC, dI) jCl [(cA, .int), (cL, .long)] (fun _ : Nat → Nat => mW cA cL A (M') (F') (L')) Ap args s r) (F0 m 0 ls []) := by
  obtain ⟨hx, hb, hml, hr, hts, hown, hlocks, hN⟩ := id hC
  have hj : ∀ w ∈ jw, w.before args s = true := fun w h => hts w (List.mem_cons_of_mem _ h)
  intro  M F L B H locs ls hJ hl h
  unfold fMo_looks_0 at h
  refine lv_aload_n hx hb dMo_looks_0 rfl (lv_at hl 0 rfl) ?_
  refine lv_iconst (v := 0) hx hb dMo_looks_1 (by decide) ?_
  refine mput_0 hx hb hj hown hJ (hj _ jw_599) dMo_looks_2 (fun H locs hJ => ?_)
  refine lv_aload_n hx hb dMo_looks_5 rfl (lv_at hl 0 rfl) ?_
  refine mget_17 hx hb hj hown hJ (hj _ jw_616) dMo_looks_6 ?_
  cases h
  exact jreti (u := B) hx hb hr rfl hlocks hJ dMo_looks_9 rfl
set_option maxHeartbeats 4000000 in
set_option maxRecDepth 100000 in
theorem cMo_looks (l : Launch) (dC : Nat → ClassId) (dI : Nat → Nat → Nat) (cA cL : ClassId) (A : Nat → Nat) (M : jM) (F : jF) (L : jL) (B : Nat → Nat) (sz : Nat) {r : Int32} {M' : jM} {F' : jF} {L' : jL} (h : fMo_looks M F L = some (r, M', F', L')) : jCi l yMo_looks wMo_looks rMo_looks (dC, dI) jCl [(cA, .int), (cL, .long)] [.ref (A 0)] (mW cA cL A M F L) sz r (fun _ : Nat → Nat => mW cA cL A (M') (F') (L')) :=
  jOf (Qc := fun Ap => va_Qi (fun q (_ : Nat → Nat) => q = r) (jPost (dC, dI) jCl [(cA, .int), (cL, .long)] (fun _ : Nat → Nat => mW cA cL A (M') (F') (L')) Ap) Ap) (by decide) rfl (Nat.le_of_ble_eq_true rfl) (fun p e s m below meth c Ap ls hC hA hJ hl => uMo_looks_0 l dC dI cA cL A Ap hC hA _ _ _ B _ _ _ hJ (lv_sub hl [0] rfl) h)
abbrev bMo_way : ByteArray := prog_8_method_39_code
abbrev yMo_way : MethodName := ⟨RMo, "way", "(II)I"⟩
abbrev wMo_way : List Cond := .code yMo_way bMo_way 3 (some .int) :: jw
theorem dMo_way_0 : decode bMo_way 0 = .ok (.aload_n 0, 1) := by decide +kernel
theorem dMo_way_1 : decode bMo_way 1 = .ok (.iload_n 1, 1) := by decide +kernel
theorem dMo_way_2 : decode bMo_way 2 = .ok (.iconst 0, 1) := by decide +kernel
theorem dMo_way_3 : decode bMo_way 3 = .ok (.aload_n 0, 1) := by decide +kernel
theorem dMo_way_4 : decode bMo_way 4 = .ok (.getfield 153, 3) := by decide +kernel
theorem dMo_way_7 : decode bMo_way 7 = .ok (.iconst 1, 1) := by decide +kernel
theorem dMo_way_8 : decode bMo_way 8 = .ok (.isub, 1) := by decide +kernel
theorem dMo_way_9 : decode bMo_way 9 = .ok (.invokestatic 60, 3) := by decide +kernel
theorem dMo_way_12 : decode bMo_way 12 = .ok (.ifCond .eq 21, 3) := by decide +kernel
theorem dMo_way_15 : decode bMo_way 15 = .ok (.iload_n 2, 1) := by decide +kernel
theorem dMo_way_16 : decode bMo_way 16 = .ok (.iconst 0, 1) := by decide +kernel
theorem dMo_way_17 : decode bMo_way 17 = .ok (.aload_n 0, 1) := by decide +kernel
theorem dMo_way_18 : decode bMo_way 18 = .ok (.getfield 159, 3) := by decide +kernel
theorem dMo_way_21 : decode bMo_way 21 = .ok (.iconst 1, 1) := by decide +kernel
theorem dMo_way_22 : decode bMo_way 22 = .ok (.isub, 1) := by decide +kernel
theorem dMo_way_23 : decode bMo_way 23 = .ok (.invokestatic 60, 3) := by decide +kernel
theorem dMo_way_26 : decode bMo_way 26 = .ok (.ifCond .eq 7, 3) := by decide +kernel
theorem dMo_way_29 : decode bMo_way 29 = .ok (.iconst 0, 1) := by decide +kernel
theorem dMo_way_30 : decode bMo_way 30 = .ok (.goto 4, 3) := by decide +kernel
theorem dMo_way_33 : decode bMo_way 33 = .ok (.iconst 1, 1) := by decide +kernel
theorem dMo_way_34 : decode bMo_way 34 = .ok (.putfield 56, 3) := by decide +kernel
theorem dMo_way_37 : decode bMo_way 37 = .ok (.aload_n 0, 1) := by decide +kernel
theorem dMo_way_38 : decode bMo_way 38 = .ok (.getfield 56, 3) := by decide +kernel
theorem dMo_way_41 : decode bMo_way 41 = .ok (.ifCond .le 7, 3) := by decide +kernel
theorem dMo_way_44 : decode bMo_way 44 = .ok (.iconst 0, 1) := by decide +kernel
theorem dMo_way_45 : decode bMo_way 45 = .ok (.goto 13, 3) := by decide +kernel
theorem dMo_way_48 : decode bMo_way 48 = .ok (.aload_n 0, 1) := by decide +kernel
theorem dMo_way_49 : decode bMo_way 49 = .ok (.getfield 47, 3) := by decide +kernel
theorem dMo_way_52 : decode bMo_way 52 = .ok (.iload_n 1, 1) := by decide +kernel
theorem dMo_way_53 : decode bMo_way 53 = .ok (.iaload, 1) := by decide +kernel
theorem dMo_way_54 : decode bMo_way 54 = .ok (.iload_n 2, 1) := by decide +kernel
theorem dMo_way_55 : decode bMo_way 55 = .ok (.invokestatic 133, 3) := by decide +kernel
theorem dMo_way_58 : decode bMo_way 58 = .ok (.ireturn, 1) := by decide +kernel
abbrev rMo_way : Room := { frames := 2, cells := 0, slots := 0, locals := 43 }
def fMo_way_34 (x1 : Int32) (x2 : Int32) (s1 : Int32) (M : jM) (F : jF) (L : jL) : Option (Int32 × jM × jF × jL) := (if ((jfu F 0 s1) 0) ≤ 0 then (if jib x1 3000 then ((fMo_rowIn (M 13 x1.toNatClampNeg) x2 M (jfu F 0 s1) L).bind fun q5 => some (q5, M, jfu F 0 s1, L)) else none) else some (0, M, jfu F 0 s1, L))
def fMo_way_33 (x1 : Int32) (x2 : Int32) (M : jM) (F : jF) (L : jL) : Option (Int32 × jM × jF × jL) := fMo_way_34 x1 x2 1 M F L
def fMo_way_0 (x1 : Int32) (x2 : Int32) (M : jM) (F : jF) (L : jL) : Option (Int32 × jM × jF × jL) := ((fMo_is x1 0 ((F 4) - 1) M F L).bind fun q1 => (if q1 = 0 then fMo_way_33 x1 x2 M F L else ((fMo_is x2 0 ((F 3) - 1) M F L).bind fun q6 => (if q6 = 0 then fMo_way_33 x1 x2 M F L else fMo_way_34 x1 x2 0 M F L))))
abbrev fMo_way (x1 : Int32) (x2 : Int32) (M : jM) (F : jF) (L : jL) : Option (Int32 × jM × jF × jL) := fMo_way_0 x1 x2 M F L
set_option maxHeartbeats 4000000 in
set_option maxRecDepth 100000 in
theorem uMo_way_34 {p : Program} {e : Env} {s : State} {m : MethodId} {args : Array Value} {below : List Frame} {meth : Method} {c : Code} (l : Launch) (dC : Nat → ClassId) (dI : Nat → Nat → Nat) (cA cL : ClassId) (A : Nat → Nat) (Ap : Nat → Prop) (hC : jAt p s m args meth c bMo_way 3 (some .int) wMo_way RMo) (hA : ∀ q : Nat, s.heap.size ≤ q → Ap q) {r : Int32} {M' : jM} {F' : jF} {L' : jL} : ∀ (x1 : Int32) (x2 : Int32) (s1 : Int32) (M : jM) (F : jF) (L : jL) (B : Nat → Nat) (H : Heap) (locs : List Loc) (ls : Array Slot), jH (dC, dI) jCl [(cA, .int), (cL, .long)] (mW cA cL A M F L) Ap s H locs → lv_has ls 3 [(0, .ref (A 0)), (1, .int x1), (2, .int x2)] → fMo_way_34 x1 x2 s1 M F L = some (r, M', F', L') → W p l e (headSpec wMo_way rMo_way).room s m args below meth c H locs 0 0 (jQi below (dC, dI) jCl [(cA, .int), (cL, .long)] (fun _ : Nat → Nat => mW cA cL A (M') (F') (L')) Ap args s r) (F0 m 34 ls [.int s1, .ref (A 0)]) := by
  obtain ⟨hx, hb, hml, hr, hts, hown, hlocks, hN⟩ := id hC
  have hj : ∀ w ∈ jw, w.before args s = true := fun w h => hts w (List.mem_cons_of_mem _ h)
  intro x1 x2 s1 M F L B H locs ls hJ hl h
  unfold fMo_way_34 at h
  refine mput_0 hx hb hj hown hJ (hj _ jw_599) dMo_way_34 (fun H locs hJ => ?_)
  refine lv_aload_n hx hb dMo_way_37 rfl (lv_at hl 0 rfl) ?_
  refine mget_0 hx hb hj hown hJ (hj _ jw_599) dMo_way_38 ?_
  refine lv_if_le (tgt := 48) hx hb dMo_way_41 (by decide) (fun c3 => ?_) (fun c3 => ?_)
  · replace h := jif_t c3 h
    refine lv_aload_n hx hb dMo_way_48 rfl (lv_at hl 0 rfl) ?_
    refine mget_18 hx hb hj hown hJ (hj _ jw_617) dMo_way_49 ?_
    refine lv_iload_n hx hb dMo_way_52 rfl (lv_at hl 1 rfl) ?_
    obtain ⟨hi4, h⟩ := jib_h h
    refine mald_13 hx hb hJ hi4 dMo_way_53 ?_
    refine lv_iload_n hx hb dMo_way_54 rfl (lv_at hl 2 rfl) ?_
    obtain ⟨q5, hq5, h⟩ := jbi_h h
    refine jcalli (w' := fun _ : Nat → Nat => mW cA cL A M (jfu F 0 s1) L) (va_runS (As := [.int (M 13 x1.toNatClampNeg), .int x2]) (rest := []) ⟨hx, hb, hml, hown, hts⟩ (cMo_rowIn l dC dI cA cL A (M 13 x1.toNatClampNeg) x2 M (jfu F 0 s1) L B H.size hq5) (va_cwS 2 hts (jgoodS jw_788 jw_789 jw_7 jw_790) rfl rfl rfl (by decide +kernel) ⟨Nat.le_of_ble_eq_true rfl, Nat.le_of_ble_eq_true rfl⟩) (jpreS hN hJ) rfl rfl hl.1 rfl (lv_room (Nat.le_of_ble_eq_true rfl)) dMo_way_55 ⟨Nat.zero_le _, Nat.zero_le _⟩) hA hJ (fun B H locs hJ => ?_)
    cases h
    exact jreti (u := B) hx hb hr rfl hlocks hJ dMo_way_58 rfl
  · replace h := jif_f c3 h
    refine lv_iconst (v := 0) hx hb dMo_way_44 (by decide) ?_
    refine lv_goto (tgt := 58) hx hb dMo_way_45 (by decide) ?_
    cases h
    exact jreti (u := B) hx hb hr rfl hlocks hJ dMo_way_58 rfl
set_option maxHeartbeats 4000000 in
set_option maxRecDepth 100000 in
theorem uMo_way_33 {p : Program} {e : Env} {s : State} {m : MethodId} {args : Array Value} {below : List Frame} {meth : Method} {c : Code} (l : Launch) (dC : Nat → ClassId) (dI : Nat → Nat → Nat) (cA cL : ClassId) (A : Nat → Nat) (Ap : Nat → Prop) (hC : jAt p s m args meth c bMo_way 3 (some .int) wMo_way RMo) (hA : ∀ q : Nat, s.heap.size ≤ q → Ap q) {r : Int32} {M' : jM} {F' : jF} {L' : jL} : ∀ (x1 : Int32) (x2 : Int32) (M : jM) (F : jF) (L : jL) (B : Nat → Nat) (H : Heap) (locs : List Loc) (ls : Array Slot), jH (dC, dI) jCl [(cA, .int), (cL, .long)] (mW cA cL A M F L) Ap s H locs → lv_has ls 3 [(0, .ref (A 0)), (1, .int x1), (2, .int x2)] → fMo_way_33 x1 x2 M F L = some (r, M', F', L') → W p l e (headSpec wMo_way rMo_way).room s m args below meth c H locs 0 0 (jQi below (dC, dI) jCl [(cA, .int), (cL, .long)] (fun _ : Nat → Nat => mW cA cL A (M') (F') (L')) Ap args s r) (F0 m 33 ls [.ref (A 0)]) := by
  obtain ⟨hx, hb, hml, hr, hts, hown, hlocks, hN⟩ := id hC
  have hj : ∀ w ∈ jw, w.before args s = true := fun w h => hts w (List.mem_cons_of_mem _ h)
  intro x1 x2 M F L B H locs ls hJ hl h
  unfold fMo_way_33 at h
  refine lv_iconst (v := 1) hx hb dMo_way_33 (by decide) ?_
  exact uMo_way_34 l dC dI cA cL A Ap hC hA _ _ _ _ _ _ B _ _ _ hJ (lv_sub hl [0, 1, 2] rfl) h
set_option maxHeartbeats 4000000 in
set_option maxRecDepth 100000 in
theorem uMo_way_0 {p : Program} {e : Env} {s : State} {m : MethodId} {args : Array Value} {below : List Frame} {meth : Method} {c : Code} (l : Launch) (dC : Nat → ClassId) (dI : Nat → Nat → Nat) (cA cL : ClassId) (A : Nat → Nat) (Ap : Nat → Prop) (hC : jAt p s m args meth c bMo_way 3 (some .int) wMo_way RMo) (hA : ∀ q : Nat, s.heap.size ≤ q → Ap q) {r : Int32} {M' : jM} {F' : jF} {L' : jL} : ∀ (x1 : Int32) (x2 : Int32) (M : jM) (F : jF) (L : jL) (B : Nat → Nat) (H : Heap) (locs : List Loc) (ls : Array Slot), jH (dC, dI) jCl [(cA, .int), (cL, .long)] (mW cA cL A M F L) Ap s H locs → lv_has ls 3 [(0, .ref (A 0)), (1, .int x1), (2, .int x2)] → fMo_way_0 x1 x2 M F L = some (r, M', F', L') → W p l e (headSpec wMo_way rMo_way).room s m args below meth c H locs 0 0 (jQi below (dC, dI) jCl [(cA, .int), (cL, .long)] (fun _ : Nat → Nat => mW cA cL A (M') (F') (L')) Ap args s r) (F0 m 0 ls []) := by
  obtain ⟨hx, hb, hml, hr, hts, hown, hlocks, hN⟩ := id hC
  have hj : ∀ w ∈ jw, w.before args s = true := fun w h => hts w (List.mem_cons_of_mem _ h)
  intro x1 x2 M F L B H locs ls hJ hl h
  unfold fMo_way_0 at h
  refine lv_aload_n hx hb dMo_way_0 rfl (lv_at hl 0 rfl) ?_
  refine lv_iload_n hx hb dMo_way_1 rfl (lv_at hl 1 rfl) ?_
  refine lv_iconst (v := 0) hx hb dMo_way_2 (by decide) ?_
  refine lv_aload_n hx hb dMo_way_3 rfl (lv_at hl 0 rfl) ?_
  refine mget_16 hx hb hj hown hJ (hj _ jw_615) dMo_way_4 ?_
  refine lv_iconst (v := 1) hx hb dMo_way_7 (by decide) ?_
  refine lv_isub hx hb dMo_way_8 ?_
  obtain ⟨q1, hq1, h⟩ := jbi_h h
  refine jcalli (w' := fun _ : Nat → Nat => mW cA cL A M F L) (va_runS (As := [.int x1, .int 0, .int ((F 4) - 1)]) (rest := [.ref (A 0)]) ⟨hx, hb, hml, hown, hts⟩ (cMo_is l dC dI cA cL A x1 0 ((F 4) - 1) M F L B H.size hq1) (va_cwS 3 hts (jgoodS jw_672 jw_673 jw_7 jw_674) rfl rfl rfl (by decide +kernel) ⟨Nat.le_of_ble_eq_true rfl, Nat.le_of_ble_eq_true rfl⟩) (jpreS hN hJ) rfl rfl hl.1 rfl (lv_room (Nat.le_of_ble_eq_true rfl)) dMo_way_9 ⟨Nat.zero_le _, Nat.zero_le _⟩) hA hJ (fun B H locs hJ => ?_)
  refine lv_if_eq (tgt := 33) hx hb dMo_way_12 (by decide) (fun c2 => ?_) (fun c2 => ?_)
  · replace h := jif_t c2 h
    exact uMo_way_33 l dC dI cA cL A Ap hC hA _ _ _ _ _ B _ _ _ hJ (lv_sub hl [0, 1, 2] rfl) h
  · replace h := jif_f c2 h
    refine lv_iload_n hx hb dMo_way_15 rfl (lv_at hl 2 rfl) ?_
    refine lv_iconst (v := 0) hx hb dMo_way_16 (by decide) ?_
    refine lv_aload_n hx hb dMo_way_17 rfl (lv_at hl 0 rfl) ?_
    refine mget_15 hx hb hj hown hJ (hj _ jw_614) dMo_way_18 ?_
    refine lv_iconst (v := 1) hx hb dMo_way_21 (by decide) ?_
    refine lv_isub hx hb dMo_way_22 ?_
    obtain ⟨q6, hq6, h⟩ := jbi_h h
    refine jcalli (w' := fun _ : Nat → Nat => mW cA cL A M F L) (va_runS (As := [.int x2, .int 0, .int ((F 3) - 1)]) (rest := [.ref (A 0)]) ⟨hx, hb, hml, hown, hts⟩ (cMo_is l dC dI cA cL A x2 0 ((F 3) - 1) M F L B H.size hq6) (va_cwS 3 hts (jgoodS jw_672 jw_673 jw_7 jw_674) rfl rfl rfl (by decide +kernel) ⟨Nat.le_of_ble_eq_true rfl, Nat.le_of_ble_eq_true rfl⟩) (jpreS hN hJ) rfl rfl hl.1 rfl (lv_room (Nat.le_of_ble_eq_true rfl)) dMo_way_23 ⟨Nat.zero_le _, Nat.zero_le _⟩) hA hJ (fun B H locs hJ => ?_)
    refine lv_if_eq (tgt := 33) hx hb dMo_way_26 (by decide) (fun c7 => ?_) (fun c7 => ?_)
    · replace h := jif_t c7 h
      exact uMo_way_33 l dC dI cA cL A Ap hC hA _ _ _ _ _ B _ _ _ hJ (lv_sub hl [0, 1, 2] rfl) h
    · replace h := jif_f c7 h
      refine lv_iconst (v := 0) hx hb dMo_way_29 (by decide) ?_
      refine lv_goto (tgt := 34) hx hb dMo_way_30 (by decide) ?_
      exact uMo_way_34 l dC dI cA cL A Ap hC hA _ _ _ _ _ _ B _ _ _ hJ (lv_sub hl [0, 1, 2] rfl) h
set_option maxHeartbeats 4000000 in
set_option maxRecDepth 100000 in
theorem cMo_way (l : Launch) (dC : Nat → ClassId) (dI : Nat → Nat → Nat) (cA cL : ClassId) (A : Nat → Nat) (x1 : Int32) (x2 : Int32) (M : jM) (F : jF) (L : jL) (B : Nat → Nat) (sz : Nat) {r : Int32} {M' : jM} {F' : jF} {L' : jL} (h : fMo_way x1 x2 M F L = some (r, M', F', L')) : jCi l yMo_way wMo_way rMo_way (dC, dI) jCl [(cA, .int), (cL, .long)] [.ref (A 0), .int x1, .int x2] (mW cA cL A M F L) sz r (fun _ : Nat → Nat => mW cA cL A (M') (F') (L')) :=
  jOf (Qc := fun Ap => va_Qi (fun q (_ : Nat → Nat) => q = r) (jPost (dC, dI) jCl [(cA, .int), (cL, .long)] (fun _ : Nat → Nat => mW cA cL A (M') (F') (L')) Ap) Ap) (by decide) rfl (Nat.le_of_ble_eq_true rfl) (fun p e s m below meth c Ap ls hC hA hJ hl => uMo_way_0 l dC dI cA cL A Ap hC hA _ _ _ _ _ B _ _ _ hJ (lv_sub hl [0, 1, 2] rfl) h)
