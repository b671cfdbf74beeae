abbrev bPl_dividedUp : ByteArray := prog_2_method_8_code
abbrev yPl_dividedUp : MethodName := ⟨RPl, "dividedUp", "(II)I"⟩
abbrev wPl_dividedUp : List Cond := .code yPl_dividedUp bPl_dividedUp 2 (some .int) :: jw
theorem dPl_dividedUp_0 : decode bPl_dividedUp 0 = .ok (.iload_n 1, 1) := by decide +kernel
theorem dPl_dividedUp_1 : decode bPl_dividedUp 1 = .ok (.iconst 1, 1) := by decide +kernel
theorem dPl_dividedUp_2 : decode bPl_dividedUp 2 = .ok (.if_icmp .le 13, 3) := by decide +kernel
theorem dPl_dividedUp_5 : decode bPl_dividedUp 5 = .ok (.iload_n 0, 1) := by decide +kernel
theorem dPl_dividedUp_6 : decode bPl_dividedUp 6 = .ok (.iload_n 1, 1) := by decide +kernel
theorem dPl_dividedUp_7 : decode bPl_dividedUp 7 = .ok (.iadd, 1) := by decide +kernel
theorem dPl_dividedUp_8 : decode bPl_dividedUp 8 = .ok (.iconst 1, 1) := by decide +kernel
theorem dPl_dividedUp_9 : decode bPl_dividedUp 9 = .ok (.isub, 1) := by decide +kernel
theorem dPl_dividedUp_10 : decode bPl_dividedUp 10 = .ok (.iload_n 1, 1) := by decide +kernel
theorem dPl_dividedUp_11 : decode bPl_dividedUp 11 = .ok (.idiv, 1) := by decide +kernel
theorem dPl_dividedUp_12 : decode bPl_dividedUp 12 = .ok (.goto 4, 3) := by decide +kernel
theorem dPl_dividedUp_15 : decode bPl_dividedUp 15 = .ok (.iload_n 0, 1) := by decide +kernel
theorem dPl_dividedUp_16 : decode bPl_dividedUp 16 = .ok (.ireturn, 1) := by decide +kernel
abbrev rPl_dividedUp : Room := { frames := 0, cells := 0, slots := 0, locals := 0 }
def fPl_dividedUp_0 (x0 : Int32) (x1 : Int32) (M : jM) (F : jF) : Option Int32 := (if x1 ≤ 1 then some x0 else if x1 = 0 then none else some (((x0 + x1) - 1) / x1))
abbrev fPl_dividedUp (x0 : Int32) (x1 : Int32) (M : jM) (F : jF) : Option Int32 := fPl_dividedUp_0 x0 x1 M F
set_option maxHeartbeats 4000000 in
set_option maxRecDepth 100000 in
theorem uPl_dividedUp_0 {p : Program} {e : Env} {s : State} {m : MethodId} {args : Array Value} {below : List Frame} {meth : Method} {c : Code} (l : Launch) (dC : Nat → ClassId) (dI : Nat → Nat → Nat) (cA : ClassId) (A : Nat → Nat) (Ap : Nat → Prop) (hC : jAt p s m args meth c bPl_dividedUp 2 (some .int) wPl_dividedUp RPl) (hA : ∀ q : Nat, s.heap.size ≤ q → Ap q) {r : Int32} : ∀ (x0 x1 : Int32) (M : jM) (F : jF) (B : Nat → Nat) (H : Heap) (locs : List Loc) (ls : Array Slot), jH (dC, dI) jCl [(cA, .int)] (jW cA A B M F) Ap s H locs → lv_has ls 2 [(0, .int x0), (1, .int x1)] → fPl_dividedUp_0 x0 x1 M F = some r → W p l e (headSpec wPl_dividedUp rPl_dividedUp).room s m args below meth c H locs 0 0 (jQi below (dC, dI) jCl [(cA, .int)] (fun B => jW cA A B M F) Ap args s r) (F0 m 0 ls []) := by
  obtain ⟨hx, hb, hml, hr, hts, hown, hlocks, hN⟩ := id hC
  have hj : ∀ w ∈ jw, w.before args s = true := fun w h => hts w (List.mem_cons_of_mem _ h)
  intro x0 x1 M F B H locs ls hJ hl h
  unfold fPl_dividedUp_0 at h
  refine lv_iload_n hx hb dPl_dividedUp_0 rfl (lv_at hl 1 rfl) ?_
  refine lv_iconst (v := 1) hx hb dPl_dividedUp_1 (by decide) ?_
  refine lv_icmp_le (tgt := 15) hx hb dPl_dividedUp_2 (by decide) (fun c1 => ?_) (fun c1 => ?_)
  · replace h := jif_t c1 h
    refine lv_iload_n hx hb dPl_dividedUp_15 rfl (lv_at hl 0 rfl) ?_
    exact jreti (u := B) hx hb hr rfl hlocks hJ dPl_dividedUp_16 (Option.some.inj h)
  · replace h := jif_f c1 h
    refine lv_iload_n hx hb dPl_dividedUp_5 rfl (lv_at hl 0 rfl) ?_
    refine lv_iload_n hx hb dPl_dividedUp_6 rfl (lv_at hl 1 rfl) ?_
    refine lv_iadd hx hb dPl_dividedUp_7 ?_
    refine lv_iconst (v := 1) hx hb dPl_dividedUp_8 (by decide) ?_
    refine lv_isub hx hb dPl_dividedUp_9 ?_
    refine lv_iload_n hx hb dPl_dividedUp_10 rfl (lv_at hl 1 rfl) ?_
    obtain ⟨hz, h⟩ := jdz_h h
    refine lv_idiv hx hb dPl_dividedUp_11 hz ?_
    refine lv_goto (tgt := 16) hx hb dPl_dividedUp_12 (by decide) ?_
    exact jreti (u := B) hx hb hr rfl hlocks hJ dPl_dividedUp_16 (Option.some.inj h)
set_option maxHeartbeats 4000000 in
set_option maxRecDepth 100000 in
theorem cPl_dividedUp (l : Launch) (dC : Nat → ClassId) (dI : Nat → Nat → Nat) (cA : ClassId) (A : Nat → Nat) (x0 : Int32) (x1 : Int32) (M : jM) (F : jF) (B : Nat → Nat) (sz : Nat) {r : Int32} (h : fPl_dividedUp x0 x1 M F = some r) : jCi l yPl_dividedUp wPl_dividedUp rPl_dividedUp (dC, dI) jCl [(cA, .int)] [.int x0, .int x1] (jW cA A B M F) sz r (fun B => jW cA A B M F) :=
  jOf (Qc := fun Ap => va_Qi (fun q (_ : Nat → Nat) => q = r) (jPost (dC, dI) jCl [(cA, .int)] (fun B => jW cA A B M F) Ap) Ap) (by decide) rfl (Nat.le_of_ble_eq_true rfl) (fun p e s m below meth c Ap ls hC hA hJ hl => uPl_dividedUp_0 l dC dI cA A Ap hC hA _ _ _ _ _ _ _ _ hJ (lv_sub hl [0, 1] rfl) h)
abbrev bPl_sizeOf : ByteArray := prog_2_method_7_code
abbrev yPl_sizeOf : MethodName := ⟨RPl, "sizeOf", "(I)I"⟩
abbrev wPl_sizeOf : List Cond := .code yPl_sizeOf bPl_sizeOf 4 (some .int) :: jw
theorem dPl_sizeOf_0 : decode bPl_sizeOf 0 = .ok (.iconst 1, 1) := by decide +kernel
theorem dPl_sizeOf_1 : decode bPl_sizeOf 1 = .ok (.istore_n 2, 1) := by decide +kernel
theorem dPl_sizeOf_2 : decode bPl_sizeOf 2 = .ok (.iconst 0, 1) := by decide +kernel
theorem dPl_sizeOf_3 : decode bPl_sizeOf 3 = .ok (.istore_n 3, 1) := by decide +kernel
theorem dPl_sizeOf_4 : decode bPl_sizeOf 4 = .ok (.iload_n 3, 1) := by decide +kernel
theorem dPl_sizeOf_5 : decode bPl_sizeOf 5 = .ok (.aload_n 0, 1) := by decide +kernel
theorem dPl_sizeOf_6 : decode bPl_sizeOf 6 = .ok (.getfield 12, 3) := by decide +kernel
theorem dPl_sizeOf_9 : decode bPl_sizeOf 9 = .ok (.getfield 28, 3) := by decide +kernel
theorem dPl_sizeOf_12 : decode bPl_sizeOf 12 = .ok (.if_icmp .ge 28, 3) := by decide +kernel
theorem dPl_sizeOf_15 : decode bPl_sizeOf 15 = .ok (.iload_n 1, 1) := by decide +kernel
theorem dPl_sizeOf_16 : decode bPl_sizeOf 16 = .ok (.iload_n 3, 1) := by decide +kernel
theorem dPl_sizeOf_17 : decode bPl_sizeOf 17 = .ok (.invokestatic 63, 3) := by decide +kernel
theorem dPl_sizeOf_20 : decode bPl_sizeOf 20 = .ok (.ifCond .eq 14, 3) := by decide +kernel
theorem dPl_sizeOf_23 : decode bPl_sizeOf 23 = .ok (.iload_n 2, 1) := by decide +kernel
theorem dPl_sizeOf_24 : decode bPl_sizeOf 24 = .ok (.aload_n 0, 1) := by decide +kernel
theorem dPl_sizeOf_25 : decode bPl_sizeOf 25 = .ok (.getfield 12, 3) := by decide +kernel
theorem dPl_sizeOf_28 : decode bPl_sizeOf 28 = .ok (.iload_n 3, 1) := by decide +kernel
theorem dPl_sizeOf_29 : decode bPl_sizeOf 29 = .ok (.invokevirtual 66, 3) := by decide +kernel
theorem dPl_sizeOf_32 : decode bPl_sizeOf 32 = .ok (.imul, 1) := by decide +kernel
theorem dPl_sizeOf_33 : decode bPl_sizeOf 33 = .ok (.istore_n 2, 1) := by decide +kernel
theorem dPl_sizeOf_34 : decode bPl_sizeOf 34 = .ok (.iinc 3 1, 3) := by decide +kernel
theorem dPl_sizeOf_37 : decode bPl_sizeOf 37 = .ok (.goto (-33), 3) := by decide +kernel
theorem dPl_sizeOf_40 : decode bPl_sizeOf 40 = .ok (.iconst 0, 1) := by decide +kernel
theorem dPl_sizeOf_41 : decode bPl_sizeOf 41 = .ok (.istore_n 3, 1) := by decide +kernel
theorem dPl_sizeOf_42 : decode bPl_sizeOf 42 = .ok (.iload_n 3, 1) := by decide +kernel
theorem dPl_sizeOf_43 : decode bPl_sizeOf 43 = .ok (.aload_n 0, 1) := by decide +kernel
theorem dPl_sizeOf_44 : decode bPl_sizeOf 44 = .ok (.getfield 12, 3) := by decide +kernel
theorem dPl_sizeOf_47 : decode bPl_sizeOf 47 = .ok (.getfield 53, 3) := by decide +kernel
theorem dPl_sizeOf_50 : decode bPl_sizeOf 50 = .ok (.if_icmp .ge 34, 3) := by decide +kernel
theorem dPl_sizeOf_53 : decode bPl_sizeOf 53 = .ok (.aload_n 0, 1) := by decide +kernel
theorem dPl_sizeOf_54 : decode bPl_sizeOf 54 = .ok (.getfield 12, 3) := by decide +kernel
theorem dPl_sizeOf_57 : decode bPl_sizeOf 57 = .ok (.iload_n 3, 1) := by decide +kernel
theorem dPl_sizeOf_58 : decode bPl_sizeOf 58 = .ok (.iload_n 1, 1) := by decide +kernel
theorem dPl_sizeOf_59 : decode bPl_sizeOf 59 = .ok (.invokevirtual 69, 3) := by decide +kernel
theorem dPl_sizeOf_62 : decode bPl_sizeOf 62 = .ok (.ifCond .eq 16, 3) := by decide +kernel
theorem dPl_sizeOf_65 : decode bPl_sizeOf 65 = .ok (.iload_n 2, 1) := by decide +kernel
theorem dPl_sizeOf_66 : decode bPl_sizeOf 66 = .ok (.aload_n 0, 1) := by decide +kernel
theorem dPl_sizeOf_67 : decode bPl_sizeOf 67 = .ok (.getfield 12, 3) := by decide +kernel
theorem dPl_sizeOf_70 : decode bPl_sizeOf 70 = .ok (.iload_n 3, 1) := by decide +kernel
theorem dPl_sizeOf_71 : decode bPl_sizeOf 71 = .ok (.invokevirtual 72, 3) := by decide +kernel
theorem dPl_sizeOf_74 : decode bPl_sizeOf 74 = .ok (.invokestatic 75, 3) := by decide +kernel
theorem dPl_sizeOf_77 : decode bPl_sizeOf 77 = .ok (.istore_n 2, 1) := by decide +kernel
theorem dPl_sizeOf_78 : decode bPl_sizeOf 78 = .ok (.iinc 3 1, 3) := by decide +kernel
theorem dPl_sizeOf_81 : decode bPl_sizeOf 81 = .ok (.goto (-39), 3) := by decide +kernel
theorem dPl_sizeOf_84 : decode bPl_sizeOf 84 = .ok (.iload_n 2, 1) := by decide +kernel
theorem dPl_sizeOf_85 : decode bPl_sizeOf 85 = .ok (.ireturn, 1) := by decide +kernel
abbrev rPl_sizeOf : Room := { frames := 3, cells := 0, slots := 0, locals := 65 }
def fPl_sizeOf_42 : Nat → Int32 → Int32 → Int32 → jM → jF → Option Int32
  | 0, _, _, _, _, _ => none
  | n + 1, x1, x2, x3, M, F => (if (F 1) ≤ x3 then some x2 else ((fQu_isWithin x3 x1 M F).bind fun q3 => (if q3 = 0 then fPl_sizeOf_42 n x1 x2 (x3 + 1) M F else ((fQu_divisor x3 M F).bind fun q5 => ((fPl_dividedUp x2 q5 M F).bind fun q6 => fPl_sizeOf_42 n x1 q6 (x3 + 1) M F)))))
def fPl_sizeOf_4 : Nat → Int32 → Int32 → Int32 → jM → jF → Option Int32
  | 0, _, _, _, _, _ => none
  | n + 1, x1, x2, x3, M, F => (if (F 0) ≤ x3 then fPl_sizeOf_42 jfuel x1 x2 0 M F else ((fJh_isIn x1 x3 M F).bind fun q7 => (if q7 = 0 then fPl_sizeOf_4 n x1 x2 (x3 + 1) M F else ((fQu_rowsOf x3 M F).bind fun q9 => fPl_sizeOf_4 n x1 (x2 * q9) (x3 + 1) M F))))
def fPl_sizeOf_0 (x1 : Int32) (M : jM) (F : jF) : Option Int32 := fPl_sizeOf_4 jfuel x1 1 0 M F
abbrev fPl_sizeOf (x1 : Int32) (M : jM) (F : jF) : Option Int32 := fPl_sizeOf_0 x1 M F
set_option maxHeartbeats 4000000 in
set_option maxRecDepth 100000 in
theorem uPl_sizeOf_42 {p : Program} {e : Env} {s : State} {m : MethodId} {args : Array Value} {below : List Frame} {meth : Method} {c : Code} (l : Launch) (dC : Nat → ClassId) (dI : Nat → Nat → Nat) (cA : ClassId) (A : Nat → Nat) (Ap : Nat → Prop) (hC : jAt p s m args meth c bPl_sizeOf 4 (some .int) wPl_sizeOf RPl) (hA : ∀ q : Nat, s.heap.size ≤ q → Ap q) {r : Int32} : ∀ (n : Nat) (x1 x2 x3 : Int32) (M : jM) (F : jF) (B : Nat → Nat) (H : Heap) (locs : List Loc) (ls : Array Slot), jH (dC, dI) jCl [(cA, .int)] (jW cA A B M F) Ap s H locs → lv_has ls 4 [(0, .ref (A 2)), (1, .int x1), (2, .int x2), (3, .int x3)] → fPl_sizeOf_42 n x1 x2 x3 M F = some r → W p l e (headSpec wPl_sizeOf rPl_sizeOf).room s m args below meth c H locs 0 0 (jQi below (dC, dI) jCl [(cA, .int)] (fun B => jW cA A B M F) Ap args s r) (F0 m 42 ls []) := by
  obtain ⟨hx, hb, hml, hr, hts, hown, hlocks, hN⟩ := id hC
  have hj : ∀ w ∈ jw, w.before args s = true := fun w h => hts w (List.mem_cons_of_mem _ h)
  intro n
  induction n with
  | zero =>
    intro x1 x2 x3 M F B H locs ls hJ hl h
    rw [fPl_sizeOf_42] at h
    cases h
  | succ n ih =>
    intro x1 x2 x3 M F B H locs ls hJ hl h
    rw [fPl_sizeOf_42] at h
    refine lv_iload_n hx hb dPl_sizeOf_42 rfl (lv_at hl 3 rfl) ?_
    refine lv_aload_n hx hb dPl_sizeOf_43 rfl (lv_at hl 0 rfl) ?_
    refine va_get (D := (dC, dI)) (ci := 2) (v := .ref (A 3)) (C := RPl) (T := TPl) (N := 4) hx hb hj iPl hown hJ.1 hJ.2.1 2 rfl rfl 0 (by decide) (hj _ jw_102) (fun _ h9 => h9) rfl dPl_sizeOf_44 ?_
    refine va_getN (D := (dC, dI)) (ci := 3) (v := .int (F 1)) (C := RQu) (T := TQu) (N := 10) hx hb hj iQu hown hJ.1 hJ.2.1 3 rfl rfl 9 (by decide) (jnw_use hN jnw_10) (fun _ h9 => h9) rfl dPl_sizeOf_47 ?_
    refine lv_icmp_ge (tgt := 84) hx hb dPl_sizeOf_50 (by decide) (fun c2 => ?_) (fun c2 => ?_)
    · replace h := jif_t c2 h
      refine lv_iload_n hx hb dPl_sizeOf_84 rfl (lv_at hl 2 rfl) ?_
      exact jreti (u := B) hx hb hr rfl hlocks hJ dPl_sizeOf_85 (Option.some.inj h)
    · replace h := jif_f c2 h
      refine lv_aload_n hx hb dPl_sizeOf_53 rfl (lv_at hl 0 rfl) ?_
      refine va_get (D := (dC, dI)) (ci := 2) (v := .ref (A 3)) (C := RPl) (T := TPl) (N := 4) hx hb hj iPl hown hJ.1 hJ.2.1 2 rfl rfl 0 (by decide) (hj _ jw_102) (fun _ h9 => h9) rfl dPl_sizeOf_54 ?_
      refine lv_iload_n hx hb dPl_sizeOf_57 rfl (lv_at hl 3 rfl) ?_
      refine lv_iload_n hx hb dPl_sizeOf_58 rfl (lv_at hl 1 rfl) ?_
      obtain ⟨q3, hq3, h⟩ := jbi_h h
      refine jcalli (w' := fun B => jW cA A B M F) (va_runV (As := [.int x3, .int x1]) (rest := []) ⟨hx, hb, hml, hown, hts⟩ (cQu_isWithin l dC dI cA A x3 x1 M F B H.size hq3) (cwV 2 hts (jgoodV jw_424 jw_425 jw_426 jw_4 jw_427) rfl rfl rfl (by decide +kernel) ⟨Nat.le_of_ble_eq_true rfl, Nat.le_of_ble_eq_true rfl⟩) (jpreV hN hJ (ci := 3) (q0 := 3) rfl rfl) rfl rfl hl.1 rfl (lv_room (Nat.le_of_ble_eq_true rfl)) dPl_sizeOf_59 ⟨Nat.zero_le _, Nat.zero_le _⟩) hA hJ (fun B H locs hJ => ?_)
      refine lv_if_eq (tgt := 78) hx hb dPl_sizeOf_62 (by decide) (fun c4 => ?_) (fun c4 => ?_)
      · replace h := jif_t c4 h
        refine lv_iinc (v := x3 + 1) (lv' := [(3, .int (x3 + 1)), (0, .ref (A 2)), (1, .int x1), (2, .int x2)]) hx hb dPl_sizeOf_78 hl (k := 3) rfl rfl (by decide) rfl (fun ls hl => ?_)
        refine lv_goto (tgt := 42) hx hb dPl_sizeOf_81 (by decide) ?_
        exact ih _ _ _ _ _ _ _ _ _ hJ (lv_sub hl [1, 2, 3, 0] rfl) h
      · replace h := jif_f c4 h
        refine lv_iload_n hx hb dPl_sizeOf_65 rfl (lv_at hl 2 rfl) ?_
        refine lv_aload_n hx hb dPl_sizeOf_66 rfl (lv_at hl 0 rfl) ?_
        refine va_get (D := (dC, dI)) (ci := 2) (v := .ref (A 3)) (C := RPl) (T := TPl) (N := 4) hx hb hj iPl hown hJ.1 hJ.2.1 2 rfl rfl 0 (by decide) (hj _ jw_102) (fun _ h9 => h9) rfl dPl_sizeOf_67 ?_
        refine lv_iload_n hx hb dPl_sizeOf_70 rfl (lv_at hl 3 rfl) ?_
        obtain ⟨q5, hq5, h⟩ := jbi_h h
        refine jcalli (w' := fun B => jW cA A B M F) (va_runV (As := [.int x3]) (rest := [.int x2]) ⟨hx, hb, hml, hown, hts⟩ (cQu_divisor l dC dI cA A x3 M F B H.size hq5) (cwV 1 hts (jgoodV jw_428 jw_429 jw_430 jw_4 jw_431) rfl rfl rfl (by decide +kernel) ⟨Nat.le_of_ble_eq_true rfl, Nat.le_of_ble_eq_true rfl⟩) (jpreV hN hJ (ci := 3) (q0 := 3) rfl rfl) rfl rfl hl.1 rfl (lv_room (Nat.le_of_ble_eq_true rfl)) dPl_sizeOf_71 ⟨Nat.zero_le _, Nat.zero_le _⟩) hA hJ (fun B H locs hJ => ?_)
        obtain ⟨q6, hq6, h⟩ := jbi_h h
        refine jcalli (w' := fun B => jW cA A B M F) (va_runS (As := [.int x2, .int q5]) (rest := []) ⟨hx, hb, hml, hown, hts⟩ (cPl_dividedUp l dC dI cA A x2 q5 M F B H.size hq6) (va_cwS 2 hts (jgoodS jw_440 jw_441 jw_3 jw_442) rfl rfl rfl (by decide +kernel) ⟨Nat.le_of_ble_eq_true rfl, Nat.le_of_ble_eq_true rfl⟩) (jpreS hN hJ) rfl rfl hl.1 rfl (lv_room (Nat.le_of_ble_eq_true rfl)) dPl_sizeOf_74 ⟨Nat.zero_le _, Nat.zero_le _⟩) hA hJ (fun B H locs hJ => ?_)
        refine lv_istore_n (lv' := [(2, .int q6), (0, .ref (A 2)), (1, .int x1), (3, .int x3)]) hx hb dPl_sizeOf_77 rfl hl (by decide) rfl (fun ls hl => ?_)
        refine lv_iinc (v := x3 + 1) (lv' := [(3, .int (x3 + 1)), (2, .int q6), (0, .ref (A 2)), (1, .int x1)]) hx hb dPl_sizeOf_78 hl (k := 3) rfl rfl (by decide) rfl (fun ls hl => ?_)
        refine lv_goto (tgt := 42) hx hb dPl_sizeOf_81 (by decide) ?_
        exact ih _ _ _ _ _ _ _ _ _ hJ (lv_sub hl [2, 3, 1, 0] rfl) h
set_option maxHeartbeats 4000000 in
set_option maxRecDepth 100000 in
theorem uPl_sizeOf_4 {p : Program} {e : Env} {s : State} {m : MethodId} {args : Array Value} {below : List Frame} {meth : Method} {c : Code} (l : Launch) (dC : Nat → ClassId) (dI : Nat → Nat → Nat) (cA : ClassId) (A : Nat → Nat) (Ap : Nat → Prop) (hC : jAt p s m args meth c bPl_sizeOf 4 (some .int) wPl_sizeOf RPl) (hA : ∀ q : Nat, s.heap.size ≤ q → Ap q) {r : Int32} : ∀ (n : Nat) (x1 x2 x3 : Int32) (M : jM) (F : jF) (B : Nat → Nat) (H : Heap) (locs : List Loc) (ls : Array Slot), jH (dC, dI) jCl [(cA, .int)] (jW cA A B M F) Ap s H locs → lv_has ls 4 [(0, .ref (A 2)), (1, .int x1), (2, .int x2), (3, .int x3)] → fPl_sizeOf_4 n x1 x2 x3 M F = some r → W p l e (headSpec wPl_sizeOf rPl_sizeOf).room s m args below meth c H locs 0 0 (jQi below (dC, dI) jCl [(cA, .int)] (fun B => jW cA A B M F) Ap args s r) (F0 m 4 ls []) := by
  obtain ⟨hx, hb, hml, hr, hts, hown, hlocks, hN⟩ := id hC
  have hj : ∀ w ∈ jw, w.before args s = true := fun w h => hts w (List.mem_cons_of_mem _ h)
  intro n
  induction n with
  | zero =>
    intro x1 x2 x3 M F B H locs ls hJ hl h
    rw [fPl_sizeOf_4] at h
    cases h
  | succ n ih =>
    intro x1 x2 x3 M F B H locs ls hJ hl h
    rw [fPl_sizeOf_4] at h
    refine lv_iload_n hx hb dPl_sizeOf_4 rfl (lv_at hl 3 rfl) ?_
    refine lv_aload_n hx hb dPl_sizeOf_5 rfl (lv_at hl 0 rfl) ?_
    refine va_get (D := (dC, dI)) (ci := 2) (v := .ref (A 3)) (C := RPl) (T := TPl) (N := 4) hx hb hj iPl hown hJ.1 hJ.2.1 2 rfl rfl 0 (by decide) (hj _ jw_102) (fun _ h9 => h9) rfl dPl_sizeOf_6 ?_
    refine va_getN (D := (dC, dI)) (ci := 3) (v := .int (F 0)) (C := RQu) (T := TQu) (N := 10) hx hb hj iQu hown hJ.1 hJ.2.1 3 rfl rfl 8 (by decide) (jnw_use hN jnw_6) (fun _ h9 => h9) rfl dPl_sizeOf_9 ?_
    refine lv_icmp_ge (tgt := 40) hx hb dPl_sizeOf_12 (by decide) (fun c1 => ?_) (fun c1 => ?_)
    · replace h := jif_t c1 h
      refine lv_iconst (v := 0) hx hb dPl_sizeOf_40 (by decide) ?_
      refine lv_istore_n (lv' := [(3, .int 0), (0, .ref (A 2)), (1, .int x1), (2, .int x2)]) hx hb dPl_sizeOf_41 rfl hl (by decide) rfl (fun ls hl => ?_)
      exact uPl_sizeOf_42 l dC dI cA A Ap hC hA jfuel _ _ _ _ _ _ _ _ _ hJ (lv_sub hl [1, 2, 3, 0] rfl) h
    · replace h := jif_f c1 h
      refine lv_iload_n hx hb dPl_sizeOf_15 rfl (lv_at hl 1 rfl) ?_
      refine lv_iload_n hx hb dPl_sizeOf_16 rfl (lv_at hl 3 rfl) ?_
      obtain ⟨q7, hq7, h⟩ := jbi_h h
      refine jcalli (w' := fun B => jW cA A B M F) (va_runSN (As := [.int x1, .int x3]) (rest := []) ⟨hx, hb, hml, hown, hts⟩ (cJh_isIn l dC dI cA A x1 x3 M F B H.size hq7) ⟨va_cnB 2 hts (jgood jw_418) rfl rfl rfl (hN _ jnw_22) (hj _ jw_1) (by decide +kernel) ⟨Nat.le_of_ble_eq_true rfl, Nat.le_of_ble_eq_true rfl⟩, hj _ jw_417, trivial⟩ (jpreS hN hJ) rfl rfl hl.1 rfl (lv_room (Nat.le_of_ble_eq_true rfl)) dPl_sizeOf_17 ⟨Nat.zero_le _, Nat.zero_le _⟩) hA hJ (fun B H locs hJ => ?_)
      refine lv_if_eq (tgt := 34) hx hb dPl_sizeOf_20 (by decide) (fun c8 => ?_) (fun c8 => ?_)
      · replace h := jif_t c8 h
        refine lv_iinc (v := x3 + 1) (lv' := [(3, .int (x3 + 1)), (0, .ref (A 2)), (1, .int x1), (2, .int x2)]) hx hb dPl_sizeOf_34 hl (k := 3) rfl rfl (by decide) rfl (fun ls hl => ?_)
        refine lv_goto (tgt := 4) hx hb dPl_sizeOf_37 (by decide) ?_
        exact ih _ _ _ _ _ _ _ _ _ hJ (lv_sub hl [1, 2, 3, 0] rfl) h
      · replace h := jif_f c8 h
        refine lv_iload_n hx hb dPl_sizeOf_23 rfl (lv_at hl 2 rfl) ?_
        refine lv_aload_n hx hb dPl_sizeOf_24 rfl (lv_at hl 0 rfl) ?_
        refine va_get (D := (dC, dI)) (ci := 2) (v := .ref (A 3)) (C := RPl) (T := TPl) (N := 4) hx hb hj iPl hown hJ.1 hJ.2.1 2 rfl rfl 0 (by decide) (hj _ jw_102) (fun _ h9 => h9) rfl dPl_sizeOf_25 ?_
        refine lv_iload_n hx hb dPl_sizeOf_28 rfl (lv_at hl 3 rfl) ?_
        obtain ⟨q9, hq9, h⟩ := jbi_h h
        refine jcalli (w' := fun B => jW cA A B M F) (va_runV (As := [.int x3]) (rest := [.int x2]) ⟨hx, hb, hml, hown, hts⟩ (cQu_rowsOf l dC dI cA A x3 M F B H.size hq9) (cwV 1 hts (jgoodV jw_419 jw_420 jw_421 jw_4 jw_422) rfl rfl rfl (by decide +kernel) ⟨Nat.le_of_ble_eq_true rfl, Nat.le_of_ble_eq_true rfl⟩) (jpreV hN hJ (ci := 3) (q0 := 3) rfl rfl) rfl rfl hl.1 rfl (lv_room (Nat.le_of_ble_eq_true rfl)) dPl_sizeOf_29 ⟨Nat.zero_le _, Nat.zero_le _⟩) hA hJ (fun B H locs hJ => ?_)
        refine lv_imul hx hb dPl_sizeOf_32 ?_
        refine lv_istore_n (lv' := [(2, .int (x2 * q9)), (0, .ref (A 2)), (1, .int x1), (3, .int x3)]) hx hb dPl_sizeOf_33 rfl hl (by decide) rfl (fun ls hl => ?_)
        refine lv_iinc (v := x3 + 1) (lv' := [(3, .int (x3 + 1)), (2, .int (x2 * q9)), (0, .ref (A 2)), (1, .int x1)]) hx hb dPl_sizeOf_34 hl (k := 3) rfl rfl (by decide) rfl (fun ls hl => ?_)
        refine lv_goto (tgt := 4) hx hb dPl_sizeOf_37 (by decide) ?_
        exact ih _ _ _ _ _ _ _ _ _ hJ (lv_sub hl [2, 3, 1, 0] rfl) h
set_option maxHeartbeats 4000000 in
set_option maxRecDepth 100000 in
theorem uPl_sizeOf_0 {p : Program} {e : Env} {s : State} {m : MethodId} {args : Array Value} {below : List Frame} {meth : Method} {c : Code} (l : Launch) (dC : Nat → ClassId) (dI : Nat → Nat → Nat) (cA : ClassId) (A : Nat → Nat) (Ap : Nat → Prop) (hC : jAt p s m args meth c bPl_sizeOf 4 (some .int) wPl_sizeOf RPl) (hA : ∀ q : Nat, s.heap.size ≤ q → Ap q) {r : Int32} : ∀ (x1 : Int32) (M : jM) (F : jF) (B : Nat → Nat) (H : Heap) (locs : List Loc) (ls : Array Slot), jH (dC, dI) jCl [(cA, .int)] (jW cA A B M F) Ap s H locs → lv_has ls 4 [(0, .ref (A 2)), (1, .int x1)] → fPl_sizeOf_0 x1 M F = some r → W p l e (headSpec wPl_sizeOf rPl_sizeOf).room s m args below meth c H locs 0 0 (jQi below (dC, dI) jCl [(cA, .int)] (fun B => jW cA A B M F) Ap args s r) (F0 m 0 ls []) := by
  obtain ⟨hx, hb, hml, hr, hts, hown, hlocks, hN⟩ := id hC
  have hj : ∀ w ∈ jw, w.before args s = true := fun w h => hts w (List.mem_cons_of_mem _ h)
  intro x1 M F B H locs ls hJ hl h
  unfold fPl_sizeOf_0 at h
  refine lv_iconst (v := 1) hx hb dPl_sizeOf_0 (by decide) ?_
  refine lv_istore_n (lv' := [(2, .int 1), (0, .ref (A 2)), (1, .int x1)]) hx hb dPl_sizeOf_1 rfl hl (by decide) rfl (fun ls hl => ?_)
  refine lv_iconst (v := 0) hx hb dPl_sizeOf_2 (by decide) ?_
  refine lv_istore_n (lv' := [(3, .int 0), (2, .int 1), (0, .ref (A 2)), (1, .int x1)]) hx hb dPl_sizeOf_3 rfl hl (by decide) rfl (fun ls hl => ?_)
  exact uPl_sizeOf_4 l dC dI cA A Ap hC hA jfuel _ _ _ _ _ _ _ _ _ hJ (lv_sub hl [2, 3, 1, 0] rfl) h
set_option maxHeartbeats 4000000 in
set_option maxRecDepth 100000 in
theorem cPl_sizeOf (l : Launch) (dC : Nat → ClassId) (dI : Nat → Nat → Nat) (cA : ClassId) (A : Nat → Nat) (x1 : Int32) (M : jM) (F : jF) (B : Nat → Nat) (sz : Nat) {r : Int32} (h : fPl_sizeOf x1 M F = some r) : jCi l yPl_sizeOf wPl_sizeOf rPl_sizeOf (dC, dI) jCl [(cA, .int)] [.ref (A 2), .int x1] (jW cA A B M F) sz r (fun B => jW cA A B M F) :=
  jOf (Qc := fun Ap => va_Qi (fun q (_ : Nat → Nat) => q = r) (jPost (dC, dI) jCl [(cA, .int)] (fun B => jW cA A B M F) Ap) Ap) (by decide) rfl (Nat.le_of_ble_eq_true rfl) (fun p e s m below meth c Ap ls hC hA hJ hl => uPl_sizeOf_0 l dC dI cA A Ap hC hA _ _ _ _ _ _ _ hJ (lv_sub hl [0, 1] rfl) h)
abbrev bPl_sumFrom : ByteArray := prog_2_method_10_code
abbrev yPl_sumFrom : MethodName := ⟨RPl, "sumFrom", "(II)I"⟩
abbrev wPl_sumFrom : List Cond := .code yPl_sumFrom bPl_sumFrom 4 (some .int) :: jw
theorem dPl_sumFrom_0 : decode bPl_sumFrom 0 = .ok (.iload_n 2, 1) := by decide +kernel
theorem dPl_sumFrom_1 : decode bPl_sumFrom 1 = .ok (.iconst (-1), 1) := by decide +kernel
theorem dPl_sumFrom_2 : decode bPl_sumFrom 2 = .ok (.if_icmp .ne 5, 3) := by decide +kernel
theorem dPl_sumFrom_5 : decode bPl_sumFrom 5 = .ok (.iconst 0, 1) := by decide +kernel
theorem dPl_sumFrom_6 : decode bPl_sumFrom 6 = .ok (.ireturn, 1) := by decide +kernel
theorem dPl_sumFrom_7 : decode bPl_sumFrom 7 = .ok (.iload_n 1, 1) := by decide +kernel
theorem dPl_sumFrom_8 : decode bPl_sumFrom 8 = .ok (.iconst 1, 1) := by decide +kernel
theorem dPl_sumFrom_9 : decode bPl_sumFrom 9 = .ok (.iload_n 2, 1) := by decide +kernel
theorem dPl_sumFrom_10 : decode bPl_sumFrom 10 = .ok (.ishl, 1) := by decide +kernel
theorem dPl_sumFrom_11 : decode bPl_sumFrom 11 = .ok (.ior, 1) := by decide +kernel
theorem dPl_sumFrom_12 : decode bPl_sumFrom 12 = .ok (.istore_n 3, 1) := by decide +kernel
theorem dPl_sumFrom_13 : decode bPl_sumFrom 13 = .ok (.aload_n 0, 1) := by decide +kernel
theorem dPl_sumFrom_14 : decode bPl_sumFrom 14 = .ok (.getfield 18, 3) := by decide +kernel
theorem dPl_sumFrom_17 : decode bPl_sumFrom 17 = .ok (.iload_n 3, 1) := by decide +kernel
theorem dPl_sumFrom_18 : decode bPl_sumFrom 18 = .ok (.iaload, 1) := by decide +kernel
theorem dPl_sumFrom_19 : decode bPl_sumFrom 19 = .ok (.aload_n 0, 1) := by decide +kernel
theorem dPl_sumFrom_20 : decode bPl_sumFrom 20 = .ok (.getfield 22, 3) := by decide +kernel
theorem dPl_sumFrom_23 : decode bPl_sumFrom 23 = .ok (.iload_n 3, 1) := by decide +kernel
theorem dPl_sumFrom_24 : decode bPl_sumFrom 24 = .ok (.iaload, 1) := by decide +kernel
theorem dPl_sumFrom_25 : decode bPl_sumFrom 25 = .ok (.iadd, 1) := by decide +kernel
theorem dPl_sumFrom_26 : decode bPl_sumFrom 26 = .ok (.ireturn, 1) := by decide +kernel
abbrev rPl_sumFrom : Room := { frames := 0, cells := 0, slots := 0, locals := 0 }
def fPl_sumFrom_0 (x1 : Int32) (x2 : Int32) (M : jM) (F : jF) : Option Int32 := (if x2 = (-1) then some 0 else (if jib (x1 ||| (1 <<< (x2 &&& 31))) 64 then (if jib (x1 ||| (1 <<< (x2 &&& 31))) 64 then some ((M 17 (x1 ||| (1 <<< (x2 &&& 31))).toNatClampNeg) + (M 18 (x1 ||| (1 <<< (x2 &&& 31))).toNatClampNeg)) else none) else none))
abbrev fPl_sumFrom (x1 : Int32) (x2 : Int32) (M : jM) (F : jF) : Option Int32 := fPl_sumFrom_0 x1 x2 M F
set_option maxHeartbeats 4000000 in
set_option maxRecDepth 100000 in
theorem uPl_sumFrom_0 {p : Program} {e : Env} {s : State} {m : MethodId} {args : Array Value} {below : List Frame} {meth : Method} {c : Code} (l : Launch) (dC : Nat → ClassId) (dI : Nat → Nat → Nat) (cA : ClassId) (A : Nat → Nat) (Ap : Nat → Prop) (hC : jAt p s m args meth c bPl_sumFrom 4 (some .int) wPl_sumFrom RPl) (hA : ∀ q : Nat, s.heap.size ≤ q → Ap q) {r : Int32} : ∀ (x1 x2 : Int32) (M : jM) (F : jF) (B : Nat → Nat) (H : Heap) (locs : List Loc) (ls : Array Slot), jH (dC, dI) jCl [(cA, .int)] (jW cA A B M F) Ap s H locs → lv_has ls 4 [(0, .ref (A 2)), (1, .int x1), (2, .int x2)] → fPl_sumFrom_0 x1 x2 M F = some r → W p l e (headSpec wPl_sumFrom rPl_sumFrom).room s m args below meth c H locs 0 0 (jQi below (dC, dI) jCl [(cA, .int)] (fun B => jW cA A B M F) Ap args s r) (F0 m 0 ls []) := by
  obtain ⟨hx, hb, hml, hr, hts, hown, hlocks, hN⟩ := id hC
  have hj : ∀ w ∈ jw, w.before args s = true := fun w h => hts w (List.mem_cons_of_mem _ h)
  intro x1 x2 M F B H locs ls hJ hl h
  unfold fPl_sumFrom_0 at h
  refine lv_iload_n hx hb dPl_sumFrom_0 rfl (lv_at hl 2 rfl) ?_
  refine lv_iconst (v := (-1)) hx hb dPl_sumFrom_1 (by decide) ?_
  refine lv_icmp_ne (tgt := 7) hx hb dPl_sumFrom_2 (by decide) (fun c1 => ?_) (fun c1 => ?_)
  · replace h := jif_f c1 h
    refine lv_iload_n hx hb dPl_sumFrom_7 rfl (lv_at hl 1 rfl) ?_
    refine lv_iconst (v := 1) hx hb dPl_sumFrom_8 (by decide) ?_
    refine lv_iload_n hx hb dPl_sumFrom_9 rfl (lv_at hl 2 rfl) ?_
    refine lv_ishl hx hb dPl_sumFrom_10 ?_
    refine lv_ior hx hb dPl_sumFrom_11 ?_
    refine lv_istore_n (lv' := [(3, .int (x1 ||| (1 <<< (x2 &&& 31)))), (0, .ref (A 2)), (1, .int x1), (2, .int x2)]) hx hb dPl_sumFrom_12 rfl hl (by decide) rfl (fun ls hl => ?_)
    refine lv_aload_n hx hb dPl_sumFrom_13 rfl (lv_at hl 1 rfl) ?_
    refine va_get (D := (dC, dI)) (ci := 2) (v := .ref (A 17)) (C := RPl) (T := TPl) (N := 4) hx hb hj iPl hown hJ.1 hJ.2.1 2 rfl rfl 1 (by decide) (hj _ jw_105) (fun _ h9 => h9) rfl dPl_sumFrom_14 ?_
    refine lv_iload_n hx hb dPl_sumFrom_17 rfl (lv_at hl 0 rfl) ?_
    obtain ⟨hi2, h⟩ := jib_h h
    refine jald_17 hx hb hJ hi2 dPl_sumFrom_18 ?_
    refine lv_aload_n hx hb dPl_sumFrom_19 rfl (lv_at hl 1 rfl) ?_
    refine va_get (D := (dC, dI)) (ci := 2) (v := .ref (A 18)) (C := RPl) (T := TPl) (N := 4) hx hb hj iPl hown hJ.1 hJ.2.1 2 rfl rfl 2 (by decide) (hj _ jw_106) (fun _ h9 => h9) rfl dPl_sumFrom_20 ?_
    refine lv_iload_n hx hb dPl_sumFrom_23 rfl (lv_at hl 0 rfl) ?_
    obtain ⟨hi3, h⟩ := jib_h h
    refine jald_18 hx hb hJ hi3 dPl_sumFrom_24 ?_
    refine lv_iadd hx hb dPl_sumFrom_25 ?_
    exact jreti (u := B) hx hb hr rfl hlocks hJ dPl_sumFrom_26 (Option.some.inj h)
  · replace h := jif_t c1 h
    refine lv_iconst (v := 0) hx hb dPl_sumFrom_5 (by decide) ?_
    exact jreti (u := B) hx hb hr rfl hlocks hJ dPl_sumFrom_6 (Option.some.inj h)
set_option maxHeartbeats 4000000 in
set_option maxRecDepth 100000 in
theorem cPl_sumFrom (l : Launch) (dC : Nat → ClassId) (dI : Nat → Nat → Nat) (cA : ClassId) (A : Nat → Nat) (x1 : Int32) (x2 : Int32) (M : jM) (F : jF) (B : Nat → Nat) (sz : Nat) {r : Int32} (h : fPl_sumFrom x1 x2 M F = some r) : jCi l yPl_sumFrom wPl_sumFrom rPl_sumFrom (dC, dI) jCl [(cA, .int)] [.ref (A 2), .int x1, .int x2] (jW cA A B M F) sz r (fun B => jW cA A B M F) :=
  jOf (Qc := fun Ap => va_Qi (fun q (_ : Nat → Nat) => q = r) (jPost (dC, dI) jCl [(cA, .int)] (fun B => jW cA A B M F) Ap) Ap) (by decide) rfl (Nat.le_of_ble_eq_true rfl) (fun p e s m below meth c Ap ls hC hA hJ hl => uPl_sumFrom_0 l dC dI cA A Ap hC hA _ _ _ _ _ _ _ _ hJ (lv_sub hl [0, 1, 2] rfl) h)
abbrev bPl_bestAfter : ByteArray := prog_2_method_9_code
abbrev yPl_bestAfter : MethodName := ⟨RPl, "bestAfter", "(I)I"⟩
abbrev wPl_bestAfter : List Cond := .code yPl_bestAfter bPl_bestAfter 4 (some .int) :: jw
theorem dPl_bestAfter_0 : decode bPl_bestAfter 0 = .ok (.iconst (-1), 1) := by decide +kernel
theorem dPl_bestAfter_1 : decode bPl_bestAfter 1 = .ok (.istore_n 2, 1) := by decide +kernel
theorem dPl_bestAfter_2 : decode bPl_bestAfter 2 = .ok (.iconst 0, 1) := by decide +kernel
theorem dPl_bestAfter_3 : decode bPl_bestAfter 3 = .ok (.istore_n 3, 1) := by decide +kernel
theorem dPl_bestAfter_4 : decode bPl_bestAfter 4 = .ok (.iload_n 3, 1) := by decide +kernel
theorem dPl_bestAfter_5 : decode bPl_bestAfter 5 = .ok (.aload_n 0, 1) := by decide +kernel
theorem dPl_bestAfter_6 : decode bPl_bestAfter 6 = .ok (.getfield 12, 3) := by decide +kernel
theorem dPl_bestAfter_9 : decode bPl_bestAfter 9 = .ok (.getfield 28, 3) := by decide +kernel
theorem dPl_bestAfter_12 : decode bPl_bestAfter 12 = .ok (.if_icmp .ge 42, 3) := by decide +kernel
theorem dPl_bestAfter_15 : decode bPl_bestAfter 15 = .ok (.iload_n 1, 1) := by decide +kernel
theorem dPl_bestAfter_16 : decode bPl_bestAfter 16 = .ok (.iload_n 3, 1) := by decide +kernel
theorem dPl_bestAfter_17 : decode bPl_bestAfter 17 = .ok (.invokestatic 63, 3) := by decide +kernel
theorem dPl_bestAfter_20 : decode bPl_bestAfter 20 = .ok (.ifCond .eq 6, 3) := by decide +kernel
theorem dPl_bestAfter_23 : decode bPl_bestAfter 23 = .ok (.goto 25, 3) := by decide +kernel
theorem dPl_bestAfter_26 : decode bPl_bestAfter 26 = .ok (.iload_n 2, 1) := by decide +kernel
theorem dPl_bestAfter_27 : decode bPl_bestAfter 27 = .ok (.iconst (-1), 1) := by decide +kernel
theorem dPl_bestAfter_28 : decode bPl_bestAfter 28 = .ok (.if_icmp .eq 18, 3) := by decide +kernel
theorem dPl_bestAfter_31 : decode bPl_bestAfter 31 = .ok (.aload_n 0, 1) := by decide +kernel
theorem dPl_bestAfter_32 : decode bPl_bestAfter 32 = .ok (.iload_n 1, 1) := by decide +kernel
theorem dPl_bestAfter_33 : decode bPl_bestAfter 33 = .ok (.iload_n 3, 1) := by decide +kernel
theorem dPl_bestAfter_34 : decode bPl_bestAfter 34 = .ok (.invokevirtual 39, 3) := by decide +kernel
theorem dPl_bestAfter_37 : decode bPl_bestAfter 37 = .ok (.aload_n 0, 1) := by decide +kernel
theorem dPl_bestAfter_38 : decode bPl_bestAfter 38 = .ok (.iload_n 1, 1) := by decide +kernel
theorem dPl_bestAfter_39 : decode bPl_bestAfter 39 = .ok (.iload_n 2, 1) := by decide +kernel
theorem dPl_bestAfter_40 : decode bPl_bestAfter 40 = .ok (.invokevirtual 39, 3) := by decide +kernel
theorem dPl_bestAfter_43 : decode bPl_bestAfter 43 = .ok (.if_icmp .ge 5, 3) := by decide +kernel
theorem dPl_bestAfter_46 : decode bPl_bestAfter 46 = .ok (.iload_n 3, 1) := by decide +kernel
theorem dPl_bestAfter_47 : decode bPl_bestAfter 47 = .ok (.istore_n 2, 1) := by decide +kernel
theorem dPl_bestAfter_48 : decode bPl_bestAfter 48 = .ok (.iinc 3 1, 3) := by decide +kernel
theorem dPl_bestAfter_51 : decode bPl_bestAfter 51 = .ok (.goto (-47), 3) := by decide +kernel
theorem dPl_bestAfter_54 : decode bPl_bestAfter 54 = .ok (.iload_n 2, 1) := by decide +kernel
theorem dPl_bestAfter_55 : decode bPl_bestAfter 55 = .ok (.ireturn, 1) := by decide +kernel
abbrev rPl_bestAfter : Room := { frames := 1, cells := 0, slots := 0, locals := 23 }
def fPl_bestAfter_4 : Nat → Int32 → Int32 → Int32 → jM → jF → Option Int32
  | 0, _, _, _, _, _ => none
  | n + 1, x1, x2, x3, M, F => (if (F 0) ≤ x3 then some x2 else ((fJh_isIn x1 x3 M F).bind fun q2 => (if q2 = 0 then (if x2 = (-1) then fPl_bestAfter_4 n x1 x3 (x3 + 1) M F else ((fPl_sumFrom x1 x3 M F).bind fun q5 => ((fPl_sumFrom x1 x2 M F).bind fun q6 => (if q6 ≤ q5 then fPl_bestAfter_4 n x1 x2 (x3 + 1) M F else fPl_bestAfter_4 n x1 x3 (x3 + 1) M F)))) else fPl_bestAfter_4 n x1 x2 (x3 + 1) M F)))
def fPl_bestAfter_0 (x1 : Int32) (M : jM) (F : jF) : Option Int32 := fPl_bestAfter_4 jfuel x1 (-1) 0 M F
abbrev fPl_bestAfter (x1 : Int32) (M : jM) (F : jF) : Option Int32 := fPl_bestAfter_0 x1 M F
set_option maxHeartbeats 4000000 in
set_option maxRecDepth 100000 in
theorem uPl_bestAfter_4 {p : Program} {e : Env} {s : State} {m : MethodId} {args : Array Value} {below : List Frame} {meth : Method} {c : Code} (l : Launch) (dC : Nat → ClassId) (dI : Nat → Nat → Nat) (cA : ClassId) (A : Nat → Nat) (Ap : Nat → Prop) (hC : jAt p s m args meth c bPl_bestAfter 4 (some .int) wPl_bestAfter RPl) (hA : ∀ q : Nat, s.heap.size ≤ q → Ap q) {r : Int32} : ∀ (n : Nat) (x1 x2 x3 : Int32) (M : jM) (F : jF) (B : Nat → Nat) (H : Heap) (locs : List Loc) (ls : Array Slot), jH (dC, dI) jCl [(cA, .int)] (jW cA A B M F) Ap s H locs → lv_has ls 4 [(0, .ref (A 2)), (1, .int x1), (2, .int x2), (3, .int x3)] → fPl_bestAfter_4 n x1 x2 x3 M F = some r → W p l e (headSpec wPl_bestAfter rPl_bestAfter).room s m args below meth c H locs 0 0 (jQi below (dC, dI) jCl [(cA, .int)] (fun B => jW cA A B M F) Ap args s r) (F0 m 4 ls []) := by
  obtain ⟨hx, hb, hml, hr, hts, hown, hlocks, hN⟩ := id hC
  have hj : ∀ w ∈ jw, w.before args s = true := fun w h => hts w (List.mem_cons_of_mem _ h)
  intro n
  induction n with
  | zero =>
    intro x1 x2 x3 M F B H locs ls hJ hl h
    rw [fPl_bestAfter_4] at h
    cases h
  | succ n ih =>
    intro x1 x2 x3 M F B H locs ls hJ hl h
    rw [fPl_bestAfter_4] at h
    refine lv_iload_n hx hb dPl_bestAfter_4 rfl (lv_at hl 3 rfl) ?_
    refine lv_aload_n hx hb dPl_bestAfter_5 rfl (lv_at hl 0 rfl) ?_
    refine va_get (D := (dC, dI)) (ci := 2) (v := .ref (A 3)) (C := RPl) (T := TPl) (N := 4) hx hb hj iPl hown hJ.1 hJ.2.1 2 rfl rfl 0 (by decide) (hj _ jw_102) (fun _ h9 => h9) rfl dPl_bestAfter_6 ?_
    refine va_getN (D := (dC, dI)) (ci := 3) (v := .int (F 0)) (C := RQu) (T := TQu) (N := 10) hx hb hj iQu hown hJ.1 hJ.2.1 3 rfl rfl 8 (by decide) (jnw_use hN jnw_6) (fun _ h9 => h9) rfl dPl_bestAfter_9 ?_
    refine lv_icmp_ge (tgt := 54) hx hb dPl_bestAfter_12 (by decide) (fun c1 => ?_) (fun c1 => ?_)
    · replace h := jif_t c1 h
      refine lv_iload_n hx hb dPl_bestAfter_54 rfl (lv_at hl 2 rfl) ?_
      exact jreti (u := B) hx hb hr rfl hlocks hJ dPl_bestAfter_55 (Option.some.inj h)
    · replace h := jif_f c1 h
      refine lv_iload_n hx hb dPl_bestAfter_15 rfl (lv_at hl 1 rfl) ?_
      refine lv_iload_n hx hb dPl_bestAfter_16 rfl (lv_at hl 3 rfl) ?_
      obtain ⟨q2, hq2, h⟩ := jbi_h h
      refine jcalli (w' := fun B => jW cA A B M F) (va_runSN (As := [.int x1, .int x3]) (rest := []) ⟨hx, hb, hml, hown, hts⟩ (cJh_isIn l dC dI cA A x1 x3 M F B H.size hq2) ⟨va_cnB 2 hts (jgood jw_418) rfl rfl rfl (hN _ jnw_22) (hj _ jw_1) (by decide +kernel) ⟨Nat.le_of_ble_eq_true rfl, Nat.le_of_ble_eq_true rfl⟩, hj _ jw_417, trivial⟩ (jpreS hN hJ) rfl rfl hl.1 rfl (lv_room (Nat.le_of_ble_eq_true rfl)) dPl_bestAfter_17 ⟨Nat.zero_le _, Nat.zero_le _⟩) hA hJ (fun B H locs hJ => ?_)
      refine lv_if_eq (tgt := 26) hx hb dPl_bestAfter_20 (by decide) (fun c3 => ?_) (fun c3 => ?_)
      · replace h := jif_t c3 h
        refine lv_iload_n hx hb dPl_bestAfter_26 rfl (lv_at hl 2 rfl) ?_
        refine lv_iconst (v := (-1)) hx hb dPl_bestAfter_27 (by decide) ?_
        refine lv_icmp_eq (tgt := 46) hx hb dPl_bestAfter_28 (by decide) (fun c4 => ?_) (fun c4 => ?_)
        · replace h := jif_t c4 h
          refine lv_iload_n hx hb dPl_bestAfter_46 rfl (lv_at hl 3 rfl) ?_
          refine lv_istore_n (lv' := [(2, .int x3), (0, .ref (A 2)), (1, .int x1), (3, .int x3)]) hx hb dPl_bestAfter_47 rfl hl (by decide) rfl (fun ls hl => ?_)
          refine lv_iinc (v := x3 + 1) (lv' := [(3, .int (x3 + 1)), (2, .int x3), (0, .ref (A 2)), (1, .int x1)]) hx hb dPl_bestAfter_48 hl (k := 3) rfl rfl (by decide) rfl (fun ls hl => ?_)
          refine lv_goto (tgt := 4) hx hb dPl_bestAfter_51 (by decide) ?_
          exact ih _ _ _ _ _ _ _ _ _ hJ (lv_sub hl [2, 3, 1, 0] rfl) h
        · replace h := jif_f c4 h
          refine lv_aload_n hx hb dPl_bestAfter_31 rfl (lv_at hl 0 rfl) ?_
          refine lv_iload_n hx hb dPl_bestAfter_32 rfl (lv_at hl 1 rfl) ?_
          refine lv_iload_n hx hb dPl_bestAfter_33 rfl (lv_at hl 3 rfl) ?_
          obtain ⟨q5, hq5, h⟩ := jbi_h h
          refine jcalli (w' := fun B => jW cA A B M F) (va_runV (As := [.int x1, .int x3]) (rest := []) ⟨hx, hb, hml, hown, hts⟩ (cPl_sumFrom l dC dI cA A x1 x3 M F B H.size hq5) (cwV 2 hts (jgoodV jw_447 jw_449 jws_8 jw_3 jw_450) rfl rfl rfl (by decide +kernel) ⟨Nat.le_of_ble_eq_true rfl, Nat.le_of_ble_eq_true rfl⟩) (jpreV hN hJ (ci := 2) (q0 := 2) rfl rfl) rfl rfl hl.1 rfl (lv_room (Nat.le_of_ble_eq_true rfl)) dPl_bestAfter_34 ⟨Nat.zero_le _, Nat.zero_le _⟩) hA hJ (fun B H locs hJ => ?_)
          refine lv_aload_n hx hb dPl_bestAfter_37 rfl (lv_at hl 0 rfl) ?_
          refine lv_iload_n hx hb dPl_bestAfter_38 rfl (lv_at hl 1 rfl) ?_
          refine lv_iload_n hx hb dPl_bestAfter_39 rfl (lv_at hl 2 rfl) ?_
          obtain ⟨q6, hq6, h⟩ := jbi_h h
          refine jcalli (w' := fun B => jW cA A B M F) (va_runV (As := [.int x1, .int x2]) (rest := [.int q5]) ⟨hx, hb, hml, hown, hts⟩ (cPl_sumFrom l dC dI cA A x1 x2 M F B H.size hq6) (cwV 2 hts (jgoodV jw_447 jw_449 jws_8 jw_3 jw_450) rfl rfl rfl (by decide +kernel) ⟨Nat.le_of_ble_eq_true rfl, Nat.le_of_ble_eq_true rfl⟩) (jpreV hN hJ (ci := 2) (q0 := 2) rfl rfl) rfl rfl hl.1 rfl (lv_room (Nat.le_of_ble_eq_true rfl)) dPl_bestAfter_40 ⟨Nat.zero_le _, Nat.zero_le _⟩) hA hJ (fun B H locs hJ => ?_)
          refine lv_icmp_ge (tgt := 48) hx hb dPl_bestAfter_43 (by decide) (fun c7 => ?_) (fun c7 => ?_)
          · replace h := jif_t c7 h
            refine lv_iinc (v := x3 + 1) (lv' := [(3, .int (x3 + 1)), (0, .ref (A 2)), (1, .int x1), (2, .int x2)]) hx hb dPl_bestAfter_48 hl (k := 3) rfl rfl (by decide) rfl (fun ls hl => ?_)
            refine lv_goto (tgt := 4) hx hb dPl_bestAfter_51 (by decide) ?_
            exact ih _ _ _ _ _ _ _ _ _ hJ (lv_sub hl [1, 2, 3, 0] rfl) h
          · replace h := jif_f c7 h
            refine lv_iload_n hx hb dPl_bestAfter_46 rfl (lv_at hl 3 rfl) ?_
            refine lv_istore_n (lv' := [(2, .int x3), (0, .ref (A 2)), (1, .int x1), (3, .int x3)]) hx hb dPl_bestAfter_47 rfl hl (by decide) rfl (fun ls hl => ?_)
            refine lv_iinc (v := x3 + 1) (lv' := [(3, .int (x3 + 1)), (2, .int x3), (0, .ref (A 2)), (1, .int x1)]) hx hb dPl_bestAfter_48 hl (k := 3) rfl rfl (by decide) rfl (fun ls hl => ?_)
            refine lv_goto (tgt := 4) hx hb dPl_bestAfter_51 (by decide) ?_
            exact ih _ _ _ _ _ _ _ _ _ hJ (lv_sub hl [2, 3, 1, 0] rfl) h
      · replace h := jif_f c3 h
        refine lv_goto (tgt := 48) hx hb dPl_bestAfter_23 (by decide) ?_
        refine lv_iinc (v := x3 + 1) (lv' := [(3, .int (x3 + 1)), (0, .ref (A 2)), (1, .int x1), (2, .int x2)]) hx hb dPl_bestAfter_48 hl (k := 3) rfl rfl (by decide) rfl (fun ls hl => ?_)
        refine lv_goto (tgt := 4) hx hb dPl_bestAfter_51 (by decide) ?_
        exact ih _ _ _ _ _ _ _ _ _ hJ (lv_sub hl [1, 2, 3, 0] rfl) h
set_option maxHeartbeats 4000000 in
set_option maxRecDepth 100000 in
theorem uPl_bestAfter_0 {p : Program} {e : Env} {s : State} {m : MethodId} {args : Array Value} {below : List Frame} {meth : Method} {c : Code} (l : Launch) (dC : Nat → ClassId) (dI : Nat → Nat → Nat) (cA : ClassId) (A : Nat → Nat) (Ap : Nat → Prop) (hC : jAt p s m args meth c bPl_bestAfter 4 (some .int) wPl_bestAfter RPl) (hA : ∀ q : Nat, s.heap.size ≤ q → Ap q) {r : Int32} : ∀ (x1 : Int32) (M : jM) (F : jF) (B : Nat → Nat) (H : Heap) (locs : List Loc) (ls : Array Slot), jH (dC, dI) jCl [(cA, .int)] (jW cA A B M F) Ap s H locs → lv_has ls 4 [(0, .ref (A 2)), (1, .int x1)] → fPl_bestAfter_0 x1 M F = some r → W p l e (headSpec wPl_bestAfter rPl_bestAfter).room s m args below meth c H locs 0 0 (jQi below (dC, dI) jCl [(cA, .int)] (fun B => jW cA A B M F) Ap args s r) (F0 m 0 ls []) := by
  obtain ⟨hx, hb, hml, hr, hts, hown, hlocks, hN⟩ := id hC
  have hj : ∀ w ∈ jw, w.before args s = true := fun w h => hts w (List.mem_cons_of_mem _ h)
  intro x1 M F B H locs ls hJ hl h
  unfold fPl_bestAfter_0 at h
  refine lv_iconst (v := (-1)) hx hb dPl_bestAfter_0 (by decide) ?_
  refine lv_istore_n (lv' := [(2, .int (-1)), (0, .ref (A 2)), (1, .int x1)]) hx hb dPl_bestAfter_1 rfl hl (by decide) rfl (fun ls hl => ?_)
  refine lv_iconst (v := 0) hx hb dPl_bestAfter_2 (by decide) ?_
  refine lv_istore_n (lv' := [(3, .int 0), (2, .int (-1)), (0, .ref (A 2)), (1, .int x1)]) hx hb dPl_bestAfter_3 rfl hl (by decide) rfl (fun ls hl => ?_)
  exact uPl_bestAfter_4 l dC dI cA A Ap hC hA jfuel _ _ _ _ _ _ _ _ _ hJ (lv_sub hl [2, 3, 1, 0] rfl) h
set_option maxHeartbeats 4000000 in
set_option maxRecDepth 100000 in
theorem cPl_bestAfter (l : Launch) (dC : Nat → ClassId) (dI : Nat → Nat → Nat) (cA : ClassId) (A : Nat → Nat) (x1 : Int32) (M : jM) (F : jF) (B : Nat → Nat) (sz : Nat) {r : Int32} (h : fPl_bestAfter x1 M F = some r) : jCi l yPl_bestAfter wPl_bestAfter rPl_bestAfter (dC, dI) jCl [(cA, .int)] [.ref (A 2), .int x1] (jW cA A B M F) sz r (fun B => jW cA A B M F) :=
  jOf (Qc := fun Ap => va_Qi (fun q (_ : Nat → Nat) => q = r) (jPost (dC, dI) jCl [(cA, .int)] (fun B => jW cA A B M F) Ap) Ap) (by decide) rfl (Nat.le_of_ble_eq_true rfl) (fun p e s m below meth c Ap ls hC hA hJ hl => uPl_bestAfter_0 l dC dI cA A Ap hC hA _ _ _ _ _ _ _ hJ (lv_sub hl [0, 1] rfl) h)
abbrev bPl_make : ByteArray := prog_2_method_2_code
abbrev yPl_make : MethodName := ⟨RPl, "make", "()V"⟩
abbrev wPl_make : List Cond := .code yPl_make bPl_make 4 none :: jw
theorem dPl_make_0 : decode bPl_make 0 = .ok (.iconst 1, 1) := by decide +kernel
theorem dPl_make_1 : decode bPl_make 1 = .ok (.aload_n 0, 1) := by decide +kernel
theorem dPl_make_2 : decode bPl_make 2 = .ok (.getfield 12, 3) := by decide +kernel
theorem dPl_make_5 : decode bPl_make 5 = .ok (.getfield 28, 3) := by decide +kernel
theorem dPl_make_8 : decode bPl_make 8 = .ok (.ishl, 1) := by decide +kernel
theorem dPl_make_9 : decode bPl_make 9 = .ok (.iconst 1, 1) := by decide +kernel
theorem dPl_make_10 : decode bPl_make 10 = .ok (.isub, 1) := by decide +kernel
theorem dPl_make_11 : decode bPl_make 11 = .ok (.istore_n 1, 1) := by decide +kernel
theorem dPl_make_12 : decode bPl_make 12 = .ok (.iconst 0, 1) := by decide +kernel
theorem dPl_make_13 : decode bPl_make 13 = .ok (.istore_n 2, 1) := by decide +kernel
theorem dPl_make_14 : decode bPl_make 14 = .ok (.iload_n 2, 1) := by decide +kernel
theorem dPl_make_15 : decode bPl_make 15 = .ok (.iload_n 1, 1) := by decide +kernel
theorem dPl_make_16 : decode bPl_make 16 = .ok (.if_icmp .gt 20, 3) := by decide +kernel
theorem dPl_make_19 : decode bPl_make 19 = .ok (.aload_n 0, 1) := by decide +kernel
theorem dPl_make_20 : decode bPl_make 20 = .ok (.getfield 18, 3) := by decide +kernel
theorem dPl_make_23 : decode bPl_make 23 = .ok (.iload_n 2, 1) := by decide +kernel
theorem dPl_make_24 : decode bPl_make 24 = .ok (.aload_n 0, 1) := by decide +kernel
theorem dPl_make_25 : decode bPl_make 25 = .ok (.iload_n 2, 1) := by decide +kernel
theorem dPl_make_26 : decode bPl_make 26 = .ok (.invokevirtual 32, 3) := by decide +kernel
theorem dPl_make_29 : decode bPl_make 29 = .ok (.iastore, 1) := by decide +kernel
theorem dPl_make_30 : decode bPl_make 30 = .ok (.iinc 2 1, 3) := by decide +kernel
theorem dPl_make_33 : decode bPl_make 33 = .ok (.goto (-19), 3) := by decide +kernel
theorem dPl_make_36 : decode bPl_make 36 = .ok (.iload_n 1, 1) := by decide +kernel
theorem dPl_make_37 : decode bPl_make 37 = .ok (.istore_n 2, 1) := by decide +kernel
theorem dPl_make_38 : decode bPl_make 38 = .ok (.iload_n 2, 1) := by decide +kernel
theorem dPl_make_39 : decode bPl_make 39 = .ok (.ifCond .lt 25, 3) := by decide +kernel
theorem dPl_make_42 : decode bPl_make 42 = .ok (.aload_n 0, 1) := by decide +kernel
theorem dPl_make_43 : decode bPl_make 43 = .ok (.getfield 22, 3) := by decide +kernel
theorem dPl_make_46 : decode bPl_make 46 = .ok (.iload_n 2, 1) := by decide +kernel
theorem dPl_make_47 : decode bPl_make 47 = .ok (.aload_n 0, 1) := by decide +kernel
theorem dPl_make_48 : decode bPl_make 48 = .ok (.iload_n 2, 1) := by decide +kernel
theorem dPl_make_49 : decode bPl_make 49 = .ok (.aload_n 0, 1) := by decide +kernel
theorem dPl_make_50 : decode bPl_make 50 = .ok (.iload_n 2, 1) := by decide +kernel
theorem dPl_make_51 : decode bPl_make 51 = .ok (.invokevirtual 36, 3) := by decide +kernel
theorem dPl_make_54 : decode bPl_make 54 = .ok (.invokevirtual 39, 3) := by decide +kernel
theorem dPl_make_57 : decode bPl_make 57 = .ok (.iastore, 1) := by decide +kernel
theorem dPl_make_58 : decode bPl_make 58 = .ok (.iinc 2 (-1), 3) := by decide +kernel
theorem dPl_make_61 : decode bPl_make 61 = .ok (.goto (-23), 3) := by decide +kernel
theorem dPl_make_64 : decode bPl_make 64 = .ok (.iconst 0, 1) := by decide +kernel
theorem dPl_make_65 : decode bPl_make 65 = .ok (.istore_n 2, 1) := by decide +kernel
theorem dPl_make_66 : decode bPl_make 66 = .ok (.iconst 0, 1) := by decide +kernel
theorem dPl_make_67 : decode bPl_make 67 = .ok (.istore_n 3, 1) := by decide +kernel
theorem dPl_make_68 : decode bPl_make 68 = .ok (.iload_n 3, 1) := by decide +kernel
theorem dPl_make_69 : decode bPl_make 69 = .ok (.aload_n 0, 1) := by decide +kernel
theorem dPl_make_70 : decode bPl_make 70 = .ok (.getfield 12, 3) := by decide +kernel
theorem dPl_make_73 : decode bPl_make 73 = .ok (.getfield 28, 3) := by decide +kernel
theorem dPl_make_76 : decode bPl_make 76 = .ok (.if_icmp .ge 31, 3) := by decide +kernel
theorem dPl_make_79 : decode bPl_make 79 = .ok (.aload_n 0, 1) := by decide +kernel
theorem dPl_make_80 : decode bPl_make 80 = .ok (.getfield 25, 3) := by decide +kernel
theorem dPl_make_83 : decode bPl_make 83 = .ok (.iload_n 3, 1) := by decide +kernel
theorem dPl_make_84 : decode bPl_make 84 = .ok (.aload_n 0, 1) := by decide +kernel
theorem dPl_make_85 : decode bPl_make 85 = .ok (.iload_n 2, 1) := by decide +kernel
theorem dPl_make_86 : decode bPl_make 86 = .ok (.invokevirtual 36, 3) := by decide +kernel
theorem dPl_make_89 : decode bPl_make 89 = .ok (.iastore, 1) := by decide +kernel
theorem dPl_make_90 : decode bPl_make 90 = .ok (.iload_n 2, 1) := by decide +kernel
theorem dPl_make_91 : decode bPl_make 91 = .ok (.iconst 1, 1) := by decide +kernel
theorem dPl_make_92 : decode bPl_make 92 = .ok (.aload_n 0, 1) := by decide +kernel
theorem dPl_make_93 : decode bPl_make 93 = .ok (.getfield 25, 3) := by decide +kernel
theorem dPl_make_96 : decode bPl_make 96 = .ok (.iload_n 3, 1) := by decide +kernel
theorem dPl_make_97 : decode bPl_make 97 = .ok (.iaload, 1) := by decide +kernel
theorem dPl_make_98 : decode bPl_make 98 = .ok (.ishl, 1) := by decide +kernel
theorem dPl_make_99 : decode bPl_make 99 = .ok (.ior, 1) := by decide +kernel
theorem dPl_make_100 : decode bPl_make 100 = .ok (.istore_n 2, 1) := by decide +kernel
theorem dPl_make_101 : decode bPl_make 101 = .ok (.iinc 3 1, 3) := by decide +kernel
theorem dPl_make_104 : decode bPl_make 104 = .ok (.goto (-36), 3) := by decide +kernel
theorem dPl_make_107 : decode bPl_make 107 = .ok (.return_, 1) := by decide +kernel
abbrev rPl_make : Room := { frames := 4, cells := 0, slots := 0, locals := 88 }
def fPl_make_68 : Nat → Int32 → Int32 → jM → jF → Option (Int32 × jM × jF)
  | 0, _, _, _, _ => none
  | n + 1, x2, x3, M, F => (if (F 0) ≤ x3 then some (0, M, F) else ((fPl_bestAfter x2 M F).bind fun q4 => (if jib x3 6 then (if jib x3 6 then fPl_make_68 n (x2 ||| (1 <<< (((jmu M 19 x3.toNatClampNeg q4) 19 x3.toNatClampNeg) &&& 31))) (x3 + 1) (jmu M 19 x3.toNatClampNeg q4) F else none) else none)))
def fPl_make_38 : Nat → Int32 → jM → jF → Option (Int32 × jM × jF)
  | 0, _, _, _ => none
  | n + 1, x2, M, F => (if x2 < 0 then fPl_make_68 jfuel 0 0 M F else ((fPl_bestAfter x2 M F).bind fun q7 => ((fPl_sumFrom x2 q7 M F).bind fun q8 => (if jib x2 64 then fPl_make_38 n (x2 + (-1)) (jmu M 18 x2.toNatClampNeg q8) F else none))))
def fPl_make_14 : Nat → Int32 → Int32 → jM → jF → Option (Int32 × jM × jF)
  | 0, _, _, _, _ => none
  | n + 1, x1, x2, M, F => (if x1 < x2 then fPl_make_38 jfuel x1 M F else ((fPl_sizeOf x2 M F).bind fun q10 => (if jib x2 64 then fPl_make_14 n x1 (x2 + 1) (jmu M 17 x2.toNatClampNeg q10) F else none)))
def fPl_make_0 (M : jM) (F : jF) : Option (Int32 × jM × jF) := fPl_make_14 jfuel ((1 <<< ((F 0) &&& 31)) - 1) 0 M F
abbrev fPl_make (M : jM) (F : jF) : Option (Int32 × jM × jF) := fPl_make_0  M F
set_option maxHeartbeats 4000000 in
set_option maxRecDepth 100000 in
theorem uPl_make_68 {p : Program} {e : Env} {s : State} {m : MethodId} {args : Array Value} {below : List Frame} {meth : Method} {c : Code} (l : Launch) (dC : Nat → ClassId) (dI : Nat → Nat → Nat) (cA : ClassId) (A : Nat → Nat) (Ap : Nat → Prop) (hC : jAt p s m args meth c bPl_make 4 none wPl_make RPl) (hA : ∀ q : Nat, s.heap.size ≤ q → Ap q) {r : Int32} {M' : jM} {F' : jF} : ∀ (n : Nat) (x2 x3 : Int32) (M : jM) (F : jF) (B : Nat → Nat) (H : Heap) (locs : List Loc) (ls : Array Slot), jH (dC, dI) jCl [(cA, .int)] (jW cA A B M F) Ap s H locs → lv_has ls 4 [(0, .ref (A 2)), (2, .int x2), (3, .int x3)] → fPl_make_68 n x2 x3 M F = some (r, M', F') → W p l e (headSpec wPl_make rPl_make).room s m args below meth c H locs 0 0 (jQv below (dC, dI) jCl [(cA, .int)] (fun B => jW cA A B (M') (F')) Ap args s) (F0 m 68 ls []) := by
  obtain ⟨hx, hb, hml, hr, hts, hown, hlocks, hN⟩ := id hC
  have hj : ∀ w ∈ jw, w.before args s = true := fun w h => hts w (List.mem_cons_of_mem _ h)
  intro n
  induction n with
  | zero =>
    intro x2 x3 M F B H locs ls hJ hl h
    rw [fPl_make_68] at h
    cases h
  | succ n ih =>
    intro x2 x3 M F B H locs ls hJ hl h
    rw [fPl_make_68] at h
    refine lv_iload_n hx hb dPl_make_68 rfl (lv_at hl 2 rfl) ?_
    refine lv_aload_n hx hb dPl_make_69 rfl (lv_at hl 0 rfl) ?_
    refine va_get (D := (dC, dI)) (ci := 2) (v := .ref (A 3)) (C := RPl) (T := TPl) (N := 4) hx hb hj iPl hown hJ.1 hJ.2.1 2 rfl rfl 0 (by decide) (hj _ jw_102) (fun _ h9 => h9) rfl dPl_make_70 ?_
    refine va_getN (D := (dC, dI)) (ci := 3) (v := .int (F 0)) (C := RQu) (T := TQu) (N := 10) hx hb hj iQu hown hJ.1 hJ.2.1 3 rfl rfl 8 (by decide) (jnw_use hN jnw_6) (fun _ h9 => h9) rfl dPl_make_73 ?_
    refine lv_icmp_ge (tgt := 107) hx hb dPl_make_76 (by decide) (fun c3 => ?_) (fun c3 => ?_)
    · replace h := jif_t c3 h
      cases h
      exact jretv (u := B) hx hb hr hlocks hJ dPl_make_107
    · replace h := jif_f c3 h
      refine lv_aload_n hx hb dPl_make_79 rfl (lv_at hl 0 rfl) ?_
      refine va_get (D := (dC, dI)) (ci := 2) (v := .ref (A 19)) (C := RPl) (T := TPl) (N := 4) hx hb hj iPl hown hJ.1 hJ.2.1 2 rfl rfl 3 (by decide) (hj _ jw_107) (fun _ h9 => h9) rfl dPl_make_80 ?_
      refine lv_iload_n hx hb dPl_make_83 rfl (lv_at hl 2 rfl) ?_
      refine lv_aload_n hx hb dPl_make_84 rfl (lv_at hl 0 rfl) ?_
      refine lv_iload_n hx hb dPl_make_85 rfl (lv_at hl 1 rfl) ?_
      obtain ⟨q4, hq4, h⟩ := jbi_h h
      refine jcalli (w' := fun B => jW cA A B M F) (va_runV (As := [.int x2]) (rest := [.int x3, .ref (A 19)]) ⟨hx, hb, hml, hown, hts⟩ (cPl_bestAfter l dC dI cA A x2 M F B H.size hq4) (cwV 1 hts (jgoodV jw_443 jw_445 jws_7 jw_3 jw_446) rfl rfl rfl (by decide +kernel) ⟨Nat.le_of_ble_eq_true rfl, Nat.le_of_ble_eq_true rfl⟩) (jpreV hN hJ (ci := 2) (q0 := 2) rfl rfl) rfl rfl hl.1 rfl (lv_room (Nat.le_of_ble_eq_true rfl)) dPl_make_86 ⟨Nat.zero_le _, Nat.zero_le _⟩) hA hJ (fun B H locs hJ => ?_)
      obtain ⟨hi5, h⟩ := jib_h h
      refine jast_19 hx hb hJ hi5 dPl_make_89 (fun H locs hJ => ?_)
      refine lv_iload_n hx hb dPl_make_90 rfl (lv_at hl 1 rfl) ?_
      refine lv_iconst (v := 1) hx hb dPl_make_91 (by decide) ?_
      refine lv_aload_n hx hb dPl_make_92 rfl (lv_at hl 0 rfl) ?_
      refine va_get (D := (dC, dI)) (ci := 2) (v := .ref (A 19)) (C := RPl) (T := TPl) (N := 4) hx hb hj iPl hown hJ.1 hJ.2.1 2 rfl rfl 3 (by decide) (hj _ jw_107) (fun _ h9 => h9) rfl dPl_make_93 ?_
      refine lv_iload_n hx hb dPl_make_96 rfl (lv_at hl 2 rfl) ?_
      obtain ⟨hi6, h⟩ := jib_h h
      refine jald_19 hx hb hJ hi6 dPl_make_97 ?_
      refine lv_ishl hx hb dPl_make_98 ?_
      refine lv_ior hx hb dPl_make_99 ?_
      refine lv_istore_n (lv' := [(2, .int (x2 ||| (1 <<< (((jmu M 19 x3.toNatClampNeg q4) 19 x3.toNatClampNeg) &&& 31)))), (0, .ref (A 2)), (3, .int x3)]) hx hb dPl_make_100 rfl hl (by decide) rfl (fun ls hl => ?_)
      refine lv_iinc (v := x3 + 1) (lv' := [(3, .int (x3 + 1)), (2, .int (x2 ||| (1 <<< (((jmu M 19 x3.toNatClampNeg q4) 19 x3.toNatClampNeg) &&& 31)))), (0, .ref (A 2))]) hx hb dPl_make_101 hl (k := 2) rfl rfl (by decide) rfl (fun ls hl => ?_)
      refine lv_goto (tgt := 68) hx hb dPl_make_104 (by decide) ?_
      exact ih _ _ _ _ _ _ _ _ hJ (lv_sub hl [2, 1, 0] rfl) h
set_option maxHeartbeats 4000000 in
set_option maxRecDepth 100000 in
theorem uPl_make_38 {p : Program} {e : Env} {s : State} {m : MethodId} {args : Array Value} {below : List Frame} {meth : Method} {c : Code} (l : Launch) (dC : Nat → ClassId) (dI : Nat → Nat → Nat) (cA : ClassId) (A : Nat → Nat) (Ap : Nat → Prop) (hC : jAt p s m args meth c bPl_make 4 none wPl_make RPl) (hA : ∀ q : Nat, s.heap.size ≤ q → Ap q) {r : Int32} {M' : jM} {F' : jF} : ∀ (n : Nat) (x2 : Int32) (M : jM) (F : jF) (B : Nat → Nat) (H : Heap) (locs : List Loc) (ls : Array Slot), jH (dC, dI) jCl [(cA, .int)] (jW cA A B M F) Ap s H locs → lv_has ls 4 [(0, .ref (A 2)), (2, .int x2)] → fPl_make_38 n x2 M F = some (r, M', F') → W p l e (headSpec wPl_make rPl_make).room s m args below meth c H locs 0 0 (jQv below (dC, dI) jCl [(cA, .int)] (fun B => jW cA A B (M') (F')) Ap args s) (F0 m 38 ls []) := by
  obtain ⟨hx, hb, hml, hr, hts, hown, hlocks, hN⟩ := id hC
  have hj : ∀ w ∈ jw, w.before args s = true := fun w h => hts w (List.mem_cons_of_mem _ h)
  intro n
  induction n with
  | zero =>
    intro x2 M F B H locs ls hJ hl h
    rw [fPl_make_38] at h
    cases h
  | succ n ih =>
    intro x2 M F B H locs ls hJ hl h
    rw [fPl_make_38] at h
    refine lv_iload_n hx hb dPl_make_38 rfl (lv_at hl 1 rfl) ?_
    refine lv_if_lt (tgt := 64) hx hb dPl_make_39 (by decide) (fun c2 => ?_) (fun c2 => ?_)
    · replace h := jif_t c2 h
      refine lv_iconst (v := 0) hx hb dPl_make_64 (by decide) ?_
      refine lv_istore_n (lv' := [(2, .int 0), (0, .ref (A 2))]) hx hb dPl_make_65 rfl hl (by decide) rfl (fun ls hl => ?_)
      refine lv_iconst (v := 0) hx hb dPl_make_66 (by decide) ?_
      refine lv_istore_n (lv' := [(3, .int 0), (2, .int 0), (0, .ref (A 2))]) hx hb dPl_make_67 rfl hl (by decide) rfl (fun ls hl => ?_)
      exact uPl_make_68 l dC dI cA A Ap hC hA jfuel _ _ _ _ _ _ _ _ hJ (lv_sub hl [2, 1, 0] rfl) h
    · replace h := jif_f c2 h
      refine lv_aload_n hx hb dPl_make_42 rfl (lv_at hl 0 rfl) ?_
      refine va_get (D := (dC, dI)) (ci := 2) (v := .ref (A 18)) (C := RPl) (T := TPl) (N := 4) hx hb hj iPl hown hJ.1 hJ.2.1 2 rfl rfl 2 (by decide) (hj _ jw_106) (fun _ h9 => h9) rfl dPl_make_43 ?_
      refine lv_iload_n hx hb dPl_make_46 rfl (lv_at hl 1 rfl) ?_
      refine lv_aload_n hx hb dPl_make_47 rfl (lv_at hl 0 rfl) ?_
      refine lv_iload_n hx hb dPl_make_48 rfl (lv_at hl 1 rfl) ?_
      refine lv_aload_n hx hb dPl_make_49 rfl (lv_at hl 0 rfl) ?_
      refine lv_iload_n hx hb dPl_make_50 rfl (lv_at hl 1 rfl) ?_
      obtain ⟨q7, hq7, h⟩ := jbi_h h
      refine jcalli (w' := fun B => jW cA A B M F) (va_runV (As := [.int x2]) (rest := [.int x2, .ref (A 2), .int x2, .ref (A 18)]) ⟨hx, hb, hml, hown, hts⟩ (cPl_bestAfter l dC dI cA A x2 M F B H.size hq7) (cwV 1 hts (jgoodV jw_443 jw_445 jws_7 jw_3 jw_446) rfl rfl rfl (by decide +kernel) ⟨Nat.le_of_ble_eq_true rfl, Nat.le_of_ble_eq_true rfl⟩) (jpreV hN hJ (ci := 2) (q0 := 2) rfl rfl) rfl rfl hl.1 rfl (lv_room (Nat.le_of_ble_eq_true rfl)) dPl_make_51 ⟨Nat.zero_le _, Nat.zero_le _⟩) hA hJ (fun B H locs hJ => ?_)
      obtain ⟨q8, hq8, h⟩ := jbi_h h
      refine jcalli (w' := fun B => jW cA A B M F) (va_runV (As := [.int x2, .int q7]) (rest := [.int x2, .ref (A 18)]) ⟨hx, hb, hml, hown, hts⟩ (cPl_sumFrom l dC dI cA A x2 q7 M F B H.size hq8) (cwV 2 hts (jgoodV jw_447 jw_449 jws_8 jw_3 jw_450) rfl rfl rfl (by decide +kernel) ⟨Nat.le_of_ble_eq_true rfl, Nat.le_of_ble_eq_true rfl⟩) (jpreV hN hJ (ci := 2) (q0 := 2) rfl rfl) rfl rfl hl.1 rfl (lv_room (Nat.le_of_ble_eq_true rfl)) dPl_make_54 ⟨Nat.zero_le _, Nat.zero_le _⟩) hA hJ (fun B H locs hJ => ?_)
      obtain ⟨hi9, h⟩ := jib_h h
      refine jast_18 hx hb hJ hi9 dPl_make_57 (fun H locs hJ => ?_)
      refine lv_iinc (v := x2 + (-1)) (lv' := [(2, .int (x2 + (-1))), (0, .ref (A 2))]) hx hb dPl_make_58 hl (k := 1) rfl (congrArg (fun z => x2 + z) (by decide)) (by decide) rfl (fun ls hl => ?_)
      refine lv_goto (tgt := 38) hx hb dPl_make_61 (by decide) ?_
      exact ih _ _ _ _ _ _ _ hJ (lv_sub hl [1, 0] rfl) h
set_option maxHeartbeats 4000000 in
set_option maxRecDepth 100000 in
theorem uPl_make_14 {p : Program} {e : Env} {s : State} {m : MethodId} {args : Array Value} {below : List Frame} {meth : Method} {c : Code} (l : Launch) (dC : Nat → ClassId) (dI : Nat → Nat → Nat) (cA : ClassId) (A : Nat → Nat) (Ap : Nat → Prop) (hC : jAt p s m args meth c bPl_make 4 none wPl_make RPl) (hA : ∀ q : Nat, s.heap.size ≤ q → Ap q) {r : Int32} {M' : jM} {F' : jF} : ∀ (n : Nat) (x1 x2 : Int32) (M : jM) (F : jF) (B : Nat → Nat) (H : Heap) (locs : List Loc) (ls : Array Slot), jH (dC, dI) jCl [(cA, .int)] (jW cA A B M F) Ap s H locs → lv_has ls 4 [(0, .ref (A 2)), (1, .int x1), (2, .int x2)] → fPl_make_14 n x1 x2 M F = some (r, M', F') → W p l e (headSpec wPl_make rPl_make).room s m args below meth c H locs 0 0 (jQv below (dC, dI) jCl [(cA, .int)] (fun B => jW cA A B (M') (F')) Ap args s) (F0 m 14 ls []) := by
  obtain ⟨hx, hb, hml, hr, hts, hown, hlocks, hN⟩ := id hC
  have hj : ∀ w ∈ jw, w.before args s = true := fun w h => hts w (List.mem_cons_of_mem _ h)
  intro n
  induction n with
  | zero =>
    intro x1 x2 M F B H locs ls hJ hl h
    rw [fPl_make_14] at h
    cases h
  | succ n ih =>
    intro x1 x2 M F B H locs ls hJ hl h
    rw [fPl_make_14] at h
    refine lv_iload_n hx hb dPl_make_14 rfl (lv_at hl 2 rfl) ?_
    refine lv_iload_n hx hb dPl_make_15 rfl (lv_at hl 1 rfl) ?_
    refine lv_icmp_gt (tgt := 36) hx hb dPl_make_16 (by decide) (fun c1 => ?_) (fun c1 => ?_)
    · replace h := jif_t c1 h
      refine lv_iload_n hx hb dPl_make_36 rfl (lv_at hl 1 rfl) ?_
      refine lv_istore_n (lv' := [(2, .int x1), (0, .ref (A 2)), (1, .int x1)]) hx hb dPl_make_37 rfl hl (by decide) rfl (fun ls hl => ?_)
      exact uPl_make_38 l dC dI cA A Ap hC hA jfuel _ _ _ _ _ _ _ hJ (lv_sub hl [1, 0] rfl) h
    · replace h := jif_f c1 h
      refine lv_aload_n hx hb dPl_make_19 rfl (lv_at hl 0 rfl) ?_
      refine va_get (D := (dC, dI)) (ci := 2) (v := .ref (A 17)) (C := RPl) (T := TPl) (N := 4) hx hb hj iPl hown hJ.1 hJ.2.1 2 rfl rfl 1 (by decide) (hj _ jw_105) (fun _ h9 => h9) rfl dPl_make_20 ?_
      refine lv_iload_n hx hb dPl_make_23 rfl (lv_at hl 2 rfl) ?_
      refine lv_aload_n hx hb dPl_make_24 rfl (lv_at hl 0 rfl) ?_
      refine lv_iload_n hx hb dPl_make_25 rfl (lv_at hl 2 rfl) ?_
      obtain ⟨q10, hq10, h⟩ := jbi_h h
      refine jcalli (w' := fun B => jW cA A B M F) (va_runV (As := [.int x2]) (rest := [.int x2, .ref (A 17)]) ⟨hx, hb, hml, hown, hts⟩ (cPl_sizeOf l dC dI cA A x2 M F B H.size hq10) (cwV 1 hts (jgoodV jw_412 jw_414 jws_6 jw_3 jw_415) rfl rfl rfl (by decide +kernel) ⟨Nat.le_of_ble_eq_true rfl, Nat.le_of_ble_eq_true rfl⟩) (jpreV hN hJ (ci := 2) (q0 := 2) rfl rfl) rfl rfl hl.1 rfl (lv_room (Nat.le_of_ble_eq_true rfl)) dPl_make_26 ⟨Nat.zero_le _, Nat.zero_le _⟩) hA hJ (fun B H locs hJ => ?_)
      obtain ⟨hi11, h⟩ := jib_h h
      refine jast_17 hx hb hJ hi11 dPl_make_29 (fun H locs hJ => ?_)
      refine lv_iinc (v := x2 + 1) (lv' := [(2, .int (x2 + 1)), (0, .ref (A 2)), (1, .int x1)]) hx hb dPl_make_30 hl (k := 2) rfl rfl (by decide) rfl (fun ls hl => ?_)
      refine lv_goto (tgt := 14) hx hb dPl_make_33 (by decide) ?_
      exact ih _ _ _ _ _ _ _ _ hJ (lv_sub hl [1, 2, 0] rfl) h
set_option maxHeartbeats 4000000 in
set_option maxRecDepth 100000 in
theorem uPl_make_0 {p : Program} {e : Env} {s : State} {m : MethodId} {args : Array Value} {below : List Frame} {meth : Method} {c : Code} (l : Launch) (dC : Nat → ClassId) (dI : Nat → Nat → Nat) (cA : ClassId) (A : Nat → Nat) (Ap : Nat → Prop) (hC : jAt p s m args meth c bPl_make 4 none wPl_make RPl) (hA : ∀ q : Nat, s.heap.size ≤ q → Ap q) {r : Int32} {M' : jM} {F' : jF} : ∀ (M : jM) (F : jF) (B : Nat → Nat) (H : Heap) (locs : List Loc) (ls : Array Slot), jH (dC, dI) jCl [(cA, .int)] (jW cA A B M F) Ap s H locs → lv_has ls 4 [(0, .ref (A 2))] → fPl_make_0 M F = some (r, M', F') → W p l e (headSpec wPl_make rPl_make).room s m args below meth c H locs 0 0 (jQv below (dC, dI) jCl [(cA, .int)] (fun B => jW cA A B (M') (F')) Ap args s) (F0 m 0 ls []) := by
  obtain ⟨hx, hb, hml, hr, hts, hown, hlocks, hN⟩ := id hC
  have hj : ∀ w ∈ jw, w.before args s = true := fun w h => hts w (List.mem_cons_of_mem _ h)
  intro  M F B H locs ls hJ hl h
  unfold fPl_make_0 at h
  refine lv_iconst (v := 1) hx hb dPl_make_0 (by decide) ?_
  refine lv_aload_n hx hb dPl_make_1 rfl (lv_at hl 0 rfl) ?_
  refine va_get (D := (dC, dI)) (ci := 2) (v := .ref (A 3)) (C := RPl) (T := TPl) (N := 4) hx hb hj iPl hown hJ.1 hJ.2.1 2 rfl rfl 0 (by decide) (hj _ jw_102) (fun _ h9 => h9) rfl dPl_make_2 ?_
  refine va_getN (D := (dC, dI)) (ci := 3) (v := .int (F 0)) (C := RQu) (T := TQu) (N := 10) hx hb hj iQu hown hJ.1 hJ.2.1 3 rfl rfl 8 (by decide) (jnw_use hN jnw_6) (fun _ h9 => h9) rfl dPl_make_5 ?_
  refine lv_ishl hx hb dPl_make_8 ?_
  refine lv_iconst (v := 1) hx hb dPl_make_9 (by decide) ?_
  refine lv_isub hx hb dPl_make_10 ?_
  refine lv_istore_n (lv' := [(1, .int ((1 <<< ((F 0) &&& 31)) - 1)), (0, .ref (A 2))]) hx hb dPl_make_11 rfl hl (by decide) rfl (fun ls hl => ?_)
  refine lv_iconst (v := 0) hx hb dPl_make_12 (by decide) ?_
  refine lv_istore_n (lv' := [(2, .int 0), (1, .int ((1 <<< ((F 0) &&& 31)) - 1)), (0, .ref (A 2))]) hx hb dPl_make_13 rfl hl (by decide) rfl (fun ls hl => ?_)
  exact uPl_make_14 l dC dI cA A Ap hC hA jfuel _ _ _ _ _ _ _ _ hJ (lv_sub hl [2, 1, 0] rfl) h
set_option maxHeartbeats 4000000 in
set_option maxRecDepth 100000 in
theorem cPl_make (l : Launch) (dC : Nat → ClassId) (dI : Nat → Nat → Nat) (cA : ClassId) (A : Nat → Nat) (M : jM) (F : jF) (B : Nat → Nat) (sz : Nat) {r : Int32} {M' : jM} {F' : jF} (h : fPl_make M F = some (r, M', F')) : jCv l yPl_make wPl_make rPl_make (dC, dI) jCl [(cA, .int)] [.ref (A 2)] (jW cA A B M F) sz (fun B => jW cA A B (M') (F')) :=
  jOf (Qc := fun Ap => va_Qv (fun _ : Nat → Nat => True) (jPost (dC, dI) jCl [(cA, .int)] (fun B => jW cA A B (M') (F')) Ap) Ap) (by decide) rfl (Nat.le_of_ble_eq_true rfl) (fun p e s m below meth c Ap ls hC hA hJ hl => uPl_make_0 l dC dI cA A Ap hC hA _ _ _ _ _ _ hJ (lv_sub hl [0] rfl) h)
abbrev bPl_aheadOf : ByteArray := prog_2_method_6_code
abbrev yPl_aheadOf : MethodName := ⟨RPl, "aheadOf", "(I)I"⟩
abbrev wPl_aheadOf : List Cond := .code yPl_aheadOf bPl_aheadOf 4 (some .int) :: jw
theorem dPl_aheadOf_0 : decode bPl_aheadOf 0 = .ok (.iconst 0, 1) := by decide +kernel
theorem dPl_aheadOf_1 : decode bPl_aheadOf 1 = .ok (.istore_n 2, 1) := by decide +kernel
theorem dPl_aheadOf_2 : decode bPl_aheadOf 2 = .ok (.iconst 0, 1) := by decide +kernel
theorem dPl_aheadOf_3 : decode bPl_aheadOf 3 = .ok (.istore_n 3, 1) := by decide +kernel
theorem dPl_aheadOf_4 : decode bPl_aheadOf 4 = .ok (.iload_n 3, 1) := by decide +kernel
theorem dPl_aheadOf_5 : decode bPl_aheadOf 5 = .ok (.iload_n 1, 1) := by decide +kernel
theorem dPl_aheadOf_6 : decode bPl_aheadOf 6 = .ok (.if_icmp .ge 20, 3) := by decide +kernel
theorem dPl_aheadOf_9 : decode bPl_aheadOf 9 = .ok (.iload_n 2, 1) := by decide +kernel
theorem dPl_aheadOf_10 : decode bPl_aheadOf 10 = .ok (.iconst 1, 1) := by decide +kernel
theorem dPl_aheadOf_11 : decode bPl_aheadOf 11 = .ok (.aload_n 0, 1) := by decide +kernel
theorem dPl_aheadOf_12 : decode bPl_aheadOf 12 = .ok (.getfield 25, 3) := by decide +kernel
theorem dPl_aheadOf_15 : decode bPl_aheadOf 15 = .ok (.iload_n 3, 1) := by decide +kernel
theorem dPl_aheadOf_16 : decode bPl_aheadOf 16 = .ok (.iaload, 1) := by decide +kernel
theorem dPl_aheadOf_17 : decode bPl_aheadOf 17 = .ok (.ishl, 1) := by decide +kernel
theorem dPl_aheadOf_18 : decode bPl_aheadOf 18 = .ok (.ior, 1) := by decide +kernel
theorem dPl_aheadOf_19 : decode bPl_aheadOf 19 = .ok (.istore_n 2, 1) := by decide +kernel
theorem dPl_aheadOf_20 : decode bPl_aheadOf 20 = .ok (.iinc 3 1, 3) := by decide +kernel
theorem dPl_aheadOf_23 : decode bPl_aheadOf 23 = .ok (.goto (-19), 3) := by decide +kernel
theorem dPl_aheadOf_26 : decode bPl_aheadOf 26 = .ok (.iload_n 2, 1) := by decide +kernel
theorem dPl_aheadOf_27 : decode bPl_aheadOf 27 = .ok (.ireturn, 1) := by decide +kernel
abbrev rPl_aheadOf : Room := { frames := 0, cells := 0, slots := 0, locals := 0 }
def fPl_aheadOf_4 : Nat → Int32 → Int32 → Int32 → jM → jF → Option Int32
  | 0, _, _, _, _, _ => none
  | n + 1, x1, x2, x3, M, F => (if x1 ≤ x3 then some x2 else (if jib x3 6 then fPl_aheadOf_4 n x1 (x2 ||| (1 <<< ((M 19 x3.toNatClampNeg) &&& 31))) (x3 + 1) M F else none))
def fPl_aheadOf_0 (x1 : Int32) (M : jM) (F : jF) : Option Int32 := fPl_aheadOf_4 jfuel x1 0 0 M F
abbrev fPl_aheadOf (x1 : Int32) (M : jM) (F : jF) : Option Int32 := fPl_aheadOf_0 x1 M F
set_option maxHeartbeats 4000000 in
set_option maxRecDepth 100000 in
theorem uPl_aheadOf_4 {p : Program} {e : Env} {s : State} {m : MethodId} {args : Array Value} {below : List Frame} {meth : Method} {c : Code} (l : Launch) (dC : Nat → ClassId) (dI : Nat → Nat → Nat) (cA : ClassId) (A : Nat → Nat) (Ap : Nat → Prop) (hC : jAt p s m args meth c bPl_aheadOf 4 (some .int) wPl_aheadOf RPl) (hA : ∀ q : Nat, s.heap.size ≤ q → Ap q) {r : Int32} : ∀ (n : Nat) (x1 x2 x3 : Int32) (M : jM) (F : jF) (B : Nat → Nat) (H : Heap) (locs : List Loc) (ls : Array Slot), jH (dC, dI) jCl [(cA, .int)] (jW cA A B M F) Ap s H locs → lv_has ls 4 [(0, .ref (A 2)), (1, .int x1), (2, .int x2), (3, .int x3)] → fPl_aheadOf_4 n x1 x2 x3 M F = some r → W p l e (headSpec wPl_aheadOf rPl_aheadOf).room s m args below meth c H locs 0 0 (jQi below (dC, dI) jCl [(cA, .int)] (fun B => jW cA A B M F) Ap args s r) (F0 m 4 ls []) := by
  obtain ⟨hx, hb, hml, hr, hts, hown, hlocks, hN⟩ := id hC
  have hj : ∀ w ∈ jw, w.before args s = true := fun w h => hts w (List.mem_cons_of_mem _ h)
  intro n
  induction n with
  | zero =>
    intro x1 x2 x3 M F B H locs ls hJ hl h
    rw [fPl_aheadOf_4] at h
    cases h
  | succ n ih =>
    intro x1 x2 x3 M F B H locs ls hJ hl h
    rw [fPl_aheadOf_4] at h
    refine lv_iload_n hx hb dPl_aheadOf_4 rfl (lv_at hl 3 rfl) ?_
    refine lv_iload_n hx hb dPl_aheadOf_5 rfl (lv_at hl 1 rfl) ?_
    refine lv_icmp_ge (tgt := 26) hx hb dPl_aheadOf_6 (by decide) (fun c1 => ?_) (fun c1 => ?_)
    · replace h := jif_t c1 h
      refine lv_iload_n hx hb dPl_aheadOf_26 rfl (lv_at hl 2 rfl) ?_
      exact jreti (u := B) hx hb hr rfl hlocks hJ dPl_aheadOf_27 (Option.some.inj h)
    · replace h := jif_f c1 h
      refine lv_iload_n hx hb dPl_aheadOf_9 rfl (lv_at hl 2 rfl) ?_
      refine lv_iconst (v := 1) hx hb dPl_aheadOf_10 (by decide) ?_
      refine lv_aload_n hx hb dPl_aheadOf_11 rfl (lv_at hl 0 rfl) ?_
      refine va_get (D := (dC, dI)) (ci := 2) (v := .ref (A 19)) (C := RPl) (T := TPl) (N := 4) hx hb hj iPl hown hJ.1 hJ.2.1 2 rfl rfl 3 (by decide) (hj _ jw_107) (fun _ h9 => h9) rfl dPl_aheadOf_12 ?_
      refine lv_iload_n hx hb dPl_aheadOf_15 rfl (lv_at hl 3 rfl) ?_
      obtain ⟨hi2, h⟩ := jib_h h
      refine jald_19 hx hb hJ hi2 dPl_aheadOf_16 ?_
      refine lv_ishl hx hb dPl_aheadOf_17 ?_
      refine lv_ior hx hb dPl_aheadOf_18 ?_
      refine lv_istore_n (lv' := [(2, .int (x2 ||| (1 <<< ((M 19 x3.toNatClampNeg) &&& 31)))), (0, .ref (A 2)), (1, .int x1), (3, .int x3)]) hx hb dPl_aheadOf_19 rfl hl (by decide) rfl (fun ls hl => ?_)
      refine lv_iinc (v := x3 + 1) (lv' := [(3, .int (x3 + 1)), (2, .int (x2 ||| (1 <<< ((M 19 x3.toNatClampNeg) &&& 31)))), (0, .ref (A 2)), (1, .int x1)]) hx hb dPl_aheadOf_20 hl (k := 3) rfl rfl (by decide) rfl (fun ls hl => ?_)
      refine lv_goto (tgt := 4) hx hb dPl_aheadOf_23 (by decide) ?_
      exact ih _ _ _ _ _ _ _ _ _ hJ (lv_sub hl [2, 3, 1, 0] rfl) h
set_option maxHeartbeats 4000000 in
set_option maxRecDepth 100000 in
theorem uPl_aheadOf_0 {p : Program} {e : Env} {s : State} {m : MethodId} {args : Array Value} {below : List Frame} {meth : Method} {c : Code} (l : Launch) (dC : Nat → ClassId) (dI : Nat → Nat → Nat) (cA : ClassId) (A : Nat → Nat) (Ap : Nat → Prop) (hC : jAt p s m args meth c bPl_aheadOf 4 (some .int) wPl_aheadOf RPl) (hA : ∀ q : Nat, s.heap.size ≤ q → Ap q) {r : Int32} : ∀ (x1 : Int32) (M : jM) (F : jF) (B : Nat → Nat) (H : Heap) (locs : List Loc) (ls : Array Slot), jH (dC, dI) jCl [(cA, .int)] (jW cA A B M F) Ap s H locs → lv_has ls 4 [(0, .ref (A 2)), (1, .int x1)] → fPl_aheadOf_0 x1 M F = some r → W p l e (headSpec wPl_aheadOf rPl_aheadOf).room s m args below meth c H locs 0 0 (jQi below (dC, dI) jCl [(cA, .int)] (fun B => jW cA A B M F) Ap args s r) (F0 m 0 ls []) := by
  obtain ⟨hx, hb, hml, hr, hts, hown, hlocks, hN⟩ := id hC
  have hj : ∀ w ∈ jw, w.before args s = true := fun w h => hts w (List.mem_cons_of_mem _ h)
  intro x1 M F B H locs ls hJ hl h
  unfold fPl_aheadOf_0 at h
  refine lv_iconst (v := 0) hx hb dPl_aheadOf_0 (by decide) ?_
  refine lv_istore_n (lv' := [(2, .int 0), (0, .ref (A 2)), (1, .int x1)]) hx hb dPl_aheadOf_1 rfl hl (by decide) rfl (fun ls hl => ?_)
  refine lv_iconst (v := 0) hx hb dPl_aheadOf_2 (by decide) ?_
  refine lv_istore_n (lv' := [(3, .int 0), (2, .int 0), (0, .ref (A 2)), (1, .int x1)]) hx hb dPl_aheadOf_3 rfl hl (by decide) rfl (fun ls hl => ?_)
  exact uPl_aheadOf_4 l dC dI cA A Ap hC hA jfuel _ _ _ _ _ _ _ _ _ hJ (lv_sub hl [2, 3, 1, 0] rfl) h
set_option maxHeartbeats 4000000 in
set_option maxRecDepth 100000 in
theorem cPl_aheadOf (l : Launch) (dC : Nat → ClassId) (dI : Nat → Nat → Nat) (cA : ClassId) (A : Nat → Nat) (x1 : Int32) (M : jM) (F : jF) (B : Nat → Nat) (sz : Nat) {r : Int32} (h : fPl_aheadOf x1 M F = some r) : jCi l yPl_aheadOf wPl_aheadOf rPl_aheadOf (dC, dI) jCl [(cA, .int)] [.ref (A 2), .int x1] (jW cA A B M F) sz r (fun B => jW cA A B M F) :=
  jOf (Qc := fun Ap => va_Qi (fun q (_ : Nat → Nat) => q = r) (jPost (dC, dI) jCl [(cA, .int)] (fun B => jW cA A B M F) Ap) Ap) (by decide) rfl (Nat.le_of_ble_eq_true rfl) (fun p e s m below meth c Ap ls hC hA hJ hl => uPl_aheadOf_0 l dC dI cA A Ap hC hA _ _ _ _ _ _ _ hJ (lv_sub hl [0, 1] rfl) h)
abbrev bPl_sizeAt : ByteArray := prog_2_method_3_code
abbrev yPl_sizeAt : MethodName := ⟨RPl, "sizeAt", "(I)I"⟩
abbrev wPl_sizeAt : List Cond := .code yPl_sizeAt bPl_sizeAt 2 (some .int) :: jw
theorem dPl_sizeAt_0 : decode bPl_sizeAt 0 = .ok (.aload_n 0, 1) := by decide +kernel
theorem dPl_sizeAt_1 : decode bPl_sizeAt 1 = .ok (.getfield 18, 3) := by decide +kernel
theorem dPl_sizeAt_4 : decode bPl_sizeAt 4 = .ok (.aload_n 0, 1) := by decide +kernel
theorem dPl_sizeAt_5 : decode bPl_sizeAt 5 = .ok (.iload_n 1, 1) := by decide +kernel
theorem dPl_sizeAt_6 : decode bPl_sizeAt 6 = .ok (.invokevirtual 43, 3) := by decide +kernel
theorem dPl_sizeAt_9 : decode bPl_sizeAt 9 = .ok (.iconst 1, 1) := by decide +kernel
theorem dPl_sizeAt_10 : decode bPl_sizeAt 10 = .ok (.aload_n 0, 1) := by decide +kernel
theorem dPl_sizeAt_11 : decode bPl_sizeAt 11 = .ok (.getfield 25, 3) := by decide +kernel
theorem dPl_sizeAt_14 : decode bPl_sizeAt 14 = .ok (.iload_n 1, 1) := by decide +kernel
theorem dPl_sizeAt_15 : decode bPl_sizeAt 15 = .ok (.iaload, 1) := by decide +kernel
theorem dPl_sizeAt_16 : decode bPl_sizeAt 16 = .ok (.ishl, 1) := by decide +kernel
theorem dPl_sizeAt_17 : decode bPl_sizeAt 17 = .ok (.ior, 1) := by decide +kernel
theorem dPl_sizeAt_18 : decode bPl_sizeAt 18 = .ok (.iaload, 1) := by decide +kernel
theorem dPl_sizeAt_19 : decode bPl_sizeAt 19 = .ok (.ireturn, 1) := by decide +kernel
abbrev rPl_sizeAt : Room := { frames := 1, cells := 0, slots := 0, locals := 23 }
def fPl_sizeAt_0 (x1 : Int32) (M : jM) (F : jF) : Option Int32 := ((fPl_aheadOf x1 M F).bind fun q1 => (if jib x1 6 then (if jib (q1 ||| (1 <<< ((M 19 x1.toNatClampNeg) &&& 31))) 64 then some (M 17 (q1 ||| (1 <<< ((M 19 x1.toNatClampNeg) &&& 31))).toNatClampNeg) else none) else none))
abbrev fPl_sizeAt (x1 : Int32) (M : jM) (F : jF) : Option Int32 := fPl_sizeAt_0 x1 M F
set_option maxHeartbeats 4000000 in
set_option maxRecDepth 100000 in
theorem uPl_sizeAt_0 {p : Program} {e : Env} {s : State} {m : MethodId} {args : Array Value} {below : List Frame} {meth : Method} {c : Code} (l : Launch) (dC : Nat → ClassId) (dI : Nat → Nat → Nat) (cA : ClassId) (A : Nat → Nat) (Ap : Nat → Prop) (hC : jAt p s m args meth c bPl_sizeAt 2 (some .int) wPl_sizeAt RPl) (hA : ∀ q : Nat, s.heap.size ≤ q → Ap q) {r : Int32} : ∀ (x1 : Int32) (M : jM) (F : jF) (B : Nat → Nat) (H : Heap) (locs : List Loc) (ls : Array Slot), jH (dC, dI) jCl [(cA, .int)] (jW cA A B M F) Ap s H locs → lv_has ls 2 [(0, .ref (A 2)), (1, .int x1)] → fPl_sizeAt_0 x1 M F = some r → W p l e (headSpec wPl_sizeAt rPl_sizeAt).room s m args below meth c H locs 0 0 (jQi below (dC, dI) jCl [(cA, .int)] (fun B => jW cA A B M F) Ap args s r) (F0 m 0 ls []) := by
  obtain ⟨hx, hb, hml, hr, hts, hown, hlocks, hN⟩ := id hC
  have hj : ∀ w ∈ jw, w.before args s = true := fun w h => hts w (List.mem_cons_of_mem _ h)
  intro x1 M F B H locs ls hJ hl h
  unfold fPl_sizeAt_0 at h
  refine lv_aload_n hx hb dPl_sizeAt_0 rfl (lv_at hl 0 rfl) ?_
  refine va_get (D := (dC, dI)) (ci := 2) (v := .ref (A 17)) (C := RPl) (T := TPl) (N := 4) hx hb hj iPl hown hJ.1 hJ.2.1 2 rfl rfl 1 (by decide) (hj _ jw_105) (fun _ h9 => h9) rfl dPl_sizeAt_1 ?_
  refine lv_aload_n hx hb dPl_sizeAt_4 rfl (lv_at hl 0 rfl) ?_
  refine lv_iload_n hx hb dPl_sizeAt_5 rfl (lv_at hl 1 rfl) ?_
  obtain ⟨q1, hq1, h⟩ := jbi_h h
  refine jcalli (w' := fun B => jW cA A B M F) (va_runV (As := [.int x1]) (rest := [.ref (A 17)]) ⟨hx, hb, hml, hown, hts⟩ (cPl_aheadOf l dC dI cA A x1 M F B H.size hq1) (cwV 1 hts (jgoodV jw_462 jw_464 jws_9 jw_3 jw_465) rfl rfl rfl (by decide +kernel) ⟨Nat.le_of_ble_eq_true rfl, Nat.le_of_ble_eq_true rfl⟩) (jpreV hN hJ (ci := 2) (q0 := 2) rfl rfl) rfl rfl hl.1 rfl (lv_room (Nat.le_of_ble_eq_true rfl)) dPl_sizeAt_6 ⟨Nat.zero_le _, Nat.zero_le _⟩) hA hJ (fun B H locs hJ => ?_)
  refine lv_iconst (v := 1) hx hb dPl_sizeAt_9 (by decide) ?_
  refine lv_aload_n hx hb dPl_sizeAt_10 rfl (lv_at hl 0 rfl) ?_
  refine va_get (D := (dC, dI)) (ci := 2) (v := .ref (A 19)) (C := RPl) (T := TPl) (N := 4) hx hb hj iPl hown hJ.1 hJ.2.1 2 rfl rfl 3 (by decide) (hj _ jw_107) (fun _ h9 => h9) rfl dPl_sizeAt_11 ?_
  refine lv_iload_n hx hb dPl_sizeAt_14 rfl (lv_at hl 1 rfl) ?_
  obtain ⟨hi2, h⟩ := jib_h h
  refine jald_19 hx hb hJ hi2 dPl_sizeAt_15 ?_
  refine lv_ishl hx hb dPl_sizeAt_16 ?_
  refine lv_ior hx hb dPl_sizeAt_17 ?_
  obtain ⟨hi3, h⟩ := jib_h h
  refine jald_17 hx hb hJ hi3 dPl_sizeAt_18 ?_
  exact jreti (u := B) hx hb hr rfl hlocks hJ dPl_sizeAt_19 (Option.some.inj h)
set_option maxHeartbeats 4000000 in
set_option maxRecDepth 100000 in
theorem cPl_sizeAt (l : Launch) (dC : Nat → ClassId) (dI : Nat → Nat → Nat) (cA : ClassId) (A : Nat → Nat) (x1 : Int32) (M : jM) (F : jF) (B : Nat → Nat) (sz : Nat) {r : Int32} (h : fPl_sizeAt x1 M F = some r) : jCi l yPl_sizeAt wPl_sizeAt rPl_sizeAt (dC, dI) jCl [(cA, .int)] [.ref (A 2), .int x1] (jW cA A B M F) sz r (fun B => jW cA A B M F) :=
  jOf (Qc := fun Ap => va_Qi (fun q (_ : Nat → Nat) => q = r) (jPost (dC, dI) jCl [(cA, .int)] (fun B => jW cA A B M F) Ap) Ap) (by decide) rfl (Nat.le_of_ble_eq_true rfl) (fun p e s m below meth c Ap ls hC hA hJ hl => uPl_sizeAt_0 l dC dI cA A Ap hC hA _ _ _ _ _ _ _ hJ (lv_sub hl [0, 1] rfl) h)
abbrev bPl_conditionFor : ByteArray := prog_2_method_5_code
abbrev yPl_conditionFor : MethodName := ⟨RPl, "conditionFor", "(II)I"⟩
abbrev wPl_conditionFor : List Cond := .code yPl_conditionFor bPl_conditionFor 5 (some .int) :: jw
theorem dPl_conditionFor_0 : decode bPl_conditionFor 0 = .ok (.iconst (-1), 1) := by decide +kernel
theorem dPl_conditionFor_1 : decode bPl_conditionFor 1 = .ok (.istore_n 3, 1) := by decide +kernel
theorem dPl_conditionFor_2 : decode bPl_conditionFor 2 = .ok (.iconst 0, 1) := by decide +kernel
theorem dPl_conditionFor_3 : decode bPl_conditionFor 3 = .ok (.istore 4, 2) := by decide +kernel
theorem dPl_conditionFor_5 : decode bPl_conditionFor 5 = .ok (.iload 4, 2) := by decide +kernel
theorem dPl_conditionFor_7 : decode bPl_conditionFor 7 = .ok (.aload_n 0, 1) := by decide +kernel
theorem dPl_conditionFor_8 : decode bPl_conditionFor 8 = .ok (.getfield 12, 3) := by decide +kernel
theorem dPl_conditionFor_11 : decode bPl_conditionFor 11 = .ok (.getfield 53, 3) := by decide +kernel
theorem dPl_conditionFor_14 : decode bPl_conditionFor 14 = .ok (.if_icmp .ge 63, 3) := by decide +kernel
theorem dPl_conditionFor_17 : decode bPl_conditionFor 17 = .ok (.aload_n 0, 1) := by decide +kernel
theorem dPl_conditionFor_18 : decode bPl_conditionFor 18 = .ok (.getfield 12, 3) := by decide +kernel
theorem dPl_conditionFor_21 : decode bPl_conditionFor 21 = .ok (.iload 4, 2) := by decide +kernel
theorem dPl_conditionFor_23 : decode bPl_conditionFor 23 = .ok (.iload_n 1, 1) := by decide +kernel
theorem dPl_conditionFor_24 : decode bPl_conditionFor 24 = .ok (.iload_n 2, 1) := by decide +kernel
theorem dPl_conditionFor_25 : decode bPl_conditionFor 25 = .ok (.invokevirtual 56, 3) := by decide +kernel
theorem dPl_conditionFor_28 : decode bPl_conditionFor 28 = .ok (.ifCond .ne 6, 3) := by decide +kernel
theorem dPl_conditionFor_31 : decode bPl_conditionFor 31 = .ok (.goto 40, 3) := by decide +kernel
theorem dPl_conditionFor_34 : decode bPl_conditionFor 34 = .ok (.aload_n 0, 1) := by decide +kernel
theorem dPl_conditionFor_35 : decode bPl_conditionFor 35 = .ok (.getfield 12, 3) := by decide +kernel
theorem dPl_conditionFor_38 : decode bPl_conditionFor 38 = .ok (.iload 4, 2) := by decide +kernel
theorem dPl_conditionFor_40 : decode bPl_conditionFor 40 = .ok (.iload_n 1, 1) := by decide +kernel
theorem dPl_conditionFor_41 : decode bPl_conditionFor 41 = .ok (.invokevirtual 49, 3) := by decide +kernel
theorem dPl_conditionFor_44 : decode bPl_conditionFor 44 = .ok (.ifCond .eq 6, 3) := by decide +kernel
theorem dPl_conditionFor_47 : decode bPl_conditionFor 47 = .ok (.iload 4, 2) := by decide +kernel
theorem dPl_conditionFor_49 : decode bPl_conditionFor 49 = .ok (.ireturn, 1) := by decide +kernel
theorem dPl_conditionFor_50 : decode bPl_conditionFor 50 = .ok (.iload_n 3, 1) := by decide +kernel
theorem dPl_conditionFor_51 : decode bPl_conditionFor 51 = .ok (.iconst (-1), 1) := by decide +kernel
theorem dPl_conditionFor_52 : decode bPl_conditionFor 52 = .ok (.if_icmp .ne 19, 3) := by decide +kernel
theorem dPl_conditionFor_55 : decode bPl_conditionFor 55 = .ok (.aload_n 0, 1) := by decide +kernel
theorem dPl_conditionFor_56 : decode bPl_conditionFor 56 = .ok (.getfield 12, 3) := by decide +kernel
theorem dPl_conditionFor_59 : decode bPl_conditionFor 59 = .ok (.getfield 60, 3) := by decide +kernel
theorem dPl_conditionFor_62 : decode bPl_conditionFor 62 = .ok (.iload 4, 2) := by decide +kernel
theorem dPl_conditionFor_64 : decode bPl_conditionFor 64 = .ok (.iaload, 1) := by decide +kernel
theorem dPl_conditionFor_65 : decode bPl_conditionFor 65 = .ok (.ifCond .ne 6, 3) := by decide +kernel
theorem dPl_conditionFor_68 : decode bPl_conditionFor 68 = .ok (.iload 4, 2) := by decide +kernel
theorem dPl_conditionFor_70 : decode bPl_conditionFor 70 = .ok (.istore_n 3, 1) := by decide +kernel
theorem dPl_conditionFor_71 : decode bPl_conditionFor 71 = .ok (.iinc 4 1, 3) := by decide +kernel
theorem dPl_conditionFor_74 : decode bPl_conditionFor 74 = .ok (.goto (-69), 3) := by decide +kernel
theorem dPl_conditionFor_77 : decode bPl_conditionFor 77 = .ok (.iload_n 3, 1) := by decide +kernel
theorem dPl_conditionFor_78 : decode bPl_conditionFor 78 = .ok (.ireturn, 1) := by decide +kernel
abbrev rPl_conditionFor : Room := { frames := 3, cells := 0, slots := 0, locals := 68 }
def fPl_conditionFor_5 : Nat → Int32 → Int32 → Int32 → Int32 → jM → jF → Option Int32
  | 0, _, _, _, _, _, _ => none
  | n + 1, x1, x2, x3, x4, M, F => (if (F 1) ≤ x4 then some x3 else ((fQu_tellsValue x4 x1 x2 M F).bind fun q2 => (if q2 = 0 then fPl_conditionFor_5 n x1 x2 x3 (x4 + 1) M F else ((fQu_tellsByIndex x4 x1 M F).bind fun q4 => (if q4 = 0 then (if x3 = (-1) then (if jib x4 12 then (if (M 11 x4.toNatClampNeg) = 0 then fPl_conditionFor_5 n x1 x2 x4 (x4 + 1) M F else fPl_conditionFor_5 n x1 x2 x3 (x4 + 1) M F) else none) else fPl_conditionFor_5 n x1 x2 x3 (x4 + 1) M F) else some x4)))))
def fPl_conditionFor_0 (x1 : Int32) (x2 : Int32) (M : jM) (F : jF) : Option Int32 := fPl_conditionFor_5 jfuel x1 x2 (-1) 0 M F
abbrev fPl_conditionFor (x1 : Int32) (x2 : Int32) (M : jM) (F : jF) : Option Int32 := fPl_conditionFor_0 x1 x2 M F
set_option maxHeartbeats 4000000 in
set_option maxRecDepth 100000 in
theorem uPl_conditionFor_5 {p : Program} {e : Env} {s : State} {m : MethodId} {args : Array Value} {below : List Frame} {meth : Method} {c : Code} (l : Launch) (dC : Nat → ClassId) (dI : Nat → Nat → Nat) (cA : ClassId) (A : Nat → Nat) (Ap : Nat → Prop) (hC : jAt p s m args meth c bPl_conditionFor 5 (some .int) wPl_conditionFor RPl) (hA : ∀ q : Nat, s.heap.size ≤ q → Ap q) {r : Int32} : ∀ (n : Nat) (x1 x2 x3 x4 : Int32) (M : jM) (F : jF) (B : Nat → Nat) (H : Heap) (locs : List Loc) (ls : Array Slot), jH (dC, dI) jCl [(cA, .int)] (jW cA A B M F) Ap s H locs → lv_has ls 5 [(0, .ref (A 2)), (1, .int x1), (2, .int x2), (3, .int x3), (4, .int x4)] → fPl_conditionFor_5 n x1 x2 x3 x4 M F = some r → W p l e (headSpec wPl_conditionFor rPl_conditionFor).room s m args below meth c H locs 0 0 (jQi below (dC, dI) jCl [(cA, .int)] (fun B => jW cA A B M F) Ap args s r) (F0 m 5 ls []) := by
  obtain ⟨hx, hb, hml, hr, hts, hown, hlocks, hN⟩ := id hC
  have hj : ∀ w ∈ jw, w.before args s = true := fun w h => hts w (List.mem_cons_of_mem _ h)
  intro n
  induction n with
  | zero =>
    intro x1 x2 x3 x4 M F B H locs ls hJ hl h
    rw [fPl_conditionFor_5] at h
    cases h
  | succ n ih =>
    intro x1 x2 x3 x4 M F B H locs ls hJ hl h
    rw [fPl_conditionFor_5] at h
    refine lv_iload hx hb dPl_conditionFor_5 (lv_at hl 4 rfl) ?_
    refine lv_aload_n hx hb dPl_conditionFor_7 rfl (lv_at hl 0 rfl) ?_
    refine va_get (D := (dC, dI)) (ci := 2) (v := .ref (A 3)) (C := RPl) (T := TPl) (N := 4) hx hb hj iPl hown hJ.1 hJ.2.1 2 rfl rfl 0 (by decide) (hj _ jw_102) (fun _ h9 => h9) rfl dPl_conditionFor_8 ?_
    refine va_getN (D := (dC, dI)) (ci := 3) (v := .int (F 1)) (C := RQu) (T := TQu) (N := 10) hx hb hj iQu hown hJ.1 hJ.2.1 3 rfl rfl 9 (by decide) (jnw_use hN jnw_10) (fun _ h9 => h9) rfl dPl_conditionFor_11 ?_
    refine lv_icmp_ge (tgt := 77) hx hb dPl_conditionFor_14 (by decide) (fun c1 => ?_) (fun c1 => ?_)
    · replace h := jif_t c1 h
      refine lv_iload_n hx hb dPl_conditionFor_77 rfl (lv_at hl 3 rfl) ?_
      exact jreti (u := B) hx hb hr rfl hlocks hJ dPl_conditionFor_78 (Option.some.inj h)
    · replace h := jif_f c1 h
      refine lv_aload_n hx hb dPl_conditionFor_17 rfl (lv_at hl 0 rfl) ?_
      refine va_get (D := (dC, dI)) (ci := 2) (v := .ref (A 3)) (C := RPl) (T := TPl) (N := 4) hx hb hj iPl hown hJ.1 hJ.2.1 2 rfl rfl 0 (by decide) (hj _ jw_102) (fun _ h9 => h9) rfl dPl_conditionFor_18 ?_
      refine lv_iload hx hb dPl_conditionFor_21 (lv_at hl 4 rfl) ?_
      refine lv_iload_n hx hb dPl_conditionFor_23 rfl (lv_at hl 1 rfl) ?_
      refine lv_iload_n hx hb dPl_conditionFor_24 rfl (lv_at hl 2 rfl) ?_
      obtain ⟨q2, hq2, h⟩ := jbi_h h
      refine jcalli (w' := fun B => jW cA A B M F) (va_runV (As := [.int x4, .int x1, .int x2]) (rest := []) ⟨hx, hb, hml, hown, hts⟩ (cQu_tellsValue l dC dI cA A x4 x1 x2 M F B H.size hq2) (cwV 3 hts (jgoodV jw_470 jw_471 jw_472 jw_4 jw_473) rfl rfl rfl (by decide +kernel) ⟨Nat.le_of_ble_eq_true rfl, Nat.le_of_ble_eq_true rfl⟩) (jpreV hN hJ (ci := 3) (q0 := 3) rfl rfl) rfl rfl hl.1 rfl (lv_room (Nat.le_of_ble_eq_true rfl)) dPl_conditionFor_25 ⟨Nat.zero_le _, Nat.zero_le _⟩) hA hJ (fun B H locs hJ => ?_)
      refine lv_if_ne (tgt := 34) hx hb dPl_conditionFor_28 (by decide) (fun c3 => ?_) (fun c3 => ?_)
      · replace h := jif_f c3 h
        refine lv_aload_n hx hb dPl_conditionFor_34 rfl (lv_at hl 0 rfl) ?_
        refine va_get (D := (dC, dI)) (ci := 2) (v := .ref (A 3)) (C := RPl) (T := TPl) (N := 4) hx hb hj iPl hown hJ.1 hJ.2.1 2 rfl rfl 0 (by decide) (hj _ jw_102) (fun _ h9 => h9) rfl dPl_conditionFor_35 ?_
        refine lv_iload hx hb dPl_conditionFor_38 (lv_at hl 4 rfl) ?_
        refine lv_iload_n hx hb dPl_conditionFor_40 rfl (lv_at hl 1 rfl) ?_
        obtain ⟨q4, hq4, h⟩ := jbi_h h
        refine jcalli (w' := fun B => jW cA A B M F) (va_runV (As := [.int x4, .int x1]) (rest := []) ⟨hx, hb, hml, hown, hts⟩ (cQu_tellsByIndex l dC dI cA A x4 x1 M F B H.size hq4) (cwV 2 hts (jgoodV jw_483 jw_484 jw_485 jw_4 jw_486) rfl rfl rfl (by decide +kernel) ⟨Nat.le_of_ble_eq_true rfl, Nat.le_of_ble_eq_true rfl⟩) (jpreV hN hJ (ci := 3) (q0 := 3) rfl rfl) rfl rfl hl.1 rfl (lv_room (Nat.le_of_ble_eq_true rfl)) dPl_conditionFor_41 ⟨Nat.zero_le _, Nat.zero_le _⟩) hA hJ (fun B H locs hJ => ?_)
        refine lv_if_eq (tgt := 50) hx hb dPl_conditionFor_44 (by decide) (fun c5 => ?_) (fun c5 => ?_)
        · replace h := jif_t c5 h
          refine lv_iload_n hx hb dPl_conditionFor_50 rfl (lv_at hl 3 rfl) ?_
          refine lv_iconst (v := (-1)) hx hb dPl_conditionFor_51 (by decide) ?_
          refine lv_icmp_ne (tgt := 71) hx hb dPl_conditionFor_52 (by decide) (fun c6 => ?_) (fun c6 => ?_)
          · replace h := jif_f c6 h
            refine lv_iinc (v := x4 + 1) (lv' := [(4, .int (x4 + 1)), (0, .ref (A 2)), (1, .int x1), (2, .int x2), (3, .int x3)]) hx hb dPl_conditionFor_71 hl (k := 4) rfl rfl (by decide) rfl (fun ls hl => ?_)
            refine lv_goto (tgt := 5) hx hb dPl_conditionFor_74 (by decide) ?_
            exact ih _ _ _ _ _ _ _ _ _ _ hJ (lv_sub hl [1, 2, 3, 4, 0] rfl) h
          · replace h := jif_t c6 h
            refine lv_aload_n hx hb dPl_conditionFor_55 rfl (lv_at hl 0 rfl) ?_
            refine va_get (D := (dC, dI)) (ci := 2) (v := .ref (A 3)) (C := RPl) (T := TPl) (N := 4) hx hb hj iPl hown hJ.1 hJ.2.1 2 rfl rfl 0 (by decide) (hj _ jw_102) (fun _ h9 => h9) rfl dPl_conditionFor_56 ?_
            refine va_getN (D := (dC, dI)) (ci := 3) (v := .ref (A 11)) (C := RQu) (T := TQu) (N := 10) hx hb hj iQu hown hJ.1 hJ.2.1 3 rfl rfl 2 (by decide) (jnw_use hN jnw_5) (fun _ h9 => h9) rfl dPl_conditionFor_59 ?_
            refine lv_iload hx hb dPl_conditionFor_62 (lv_at hl 4 rfl) ?_
            obtain ⟨hi7, h⟩ := jib_h h
            refine jald_11 hx hb hJ hi7 dPl_conditionFor_64 ?_
            refine lv_if_ne (tgt := 71) hx hb dPl_conditionFor_65 (by decide) (fun c8 => ?_) (fun c8 => ?_)
            · replace h := jif_f c8 h
              refine lv_iinc (v := x4 + 1) (lv' := [(4, .int (x4 + 1)), (0, .ref (A 2)), (1, .int x1), (2, .int x2), (3, .int x3)]) hx hb dPl_conditionFor_71 hl (k := 4) rfl rfl (by decide) rfl (fun ls hl => ?_)
              refine lv_goto (tgt := 5) hx hb dPl_conditionFor_74 (by decide) ?_
              exact ih _ _ _ _ _ _ _ _ _ _ hJ (lv_sub hl [1, 2, 3, 4, 0] rfl) h
            · replace h := jif_t c8 h
              refine lv_iload hx hb dPl_conditionFor_68 (lv_at hl 4 rfl) ?_
              refine lv_istore_n (lv' := [(3, .int x4), (0, .ref (A 2)), (1, .int x1), (2, .int x2), (4, .int x4)]) hx hb dPl_conditionFor_70 rfl hl (by decide) rfl (fun ls hl => ?_)
              refine lv_iinc (v := x4 + 1) (lv' := [(4, .int (x4 + 1)), (3, .int x4), (0, .ref (A 2)), (1, .int x1), (2, .int x2)]) hx hb dPl_conditionFor_71 hl (k := 4) rfl rfl (by decide) rfl (fun ls hl => ?_)
              refine lv_goto (tgt := 5) hx hb dPl_conditionFor_74 (by decide) ?_
              exact ih _ _ _ _ _ _ _ _ _ _ hJ (lv_sub hl [2, 3, 4, 1, 0] rfl) h
        · replace h := jif_f c5 h
          refine lv_iload hx hb dPl_conditionFor_47 (lv_at hl 4 rfl) ?_
          exact jreti (u := B) hx hb hr rfl hlocks hJ dPl_conditionFor_49 (Option.some.inj h)
      · replace h := jif_t c3 h
        refine lv_goto (tgt := 71) hx hb dPl_conditionFor_31 (by decide) ?_
        refine lv_iinc (v := x4 + 1) (lv' := [(4, .int (x4 + 1)), (0, .ref (A 2)), (1, .int x1), (2, .int x2), (3, .int x3)]) hx hb dPl_conditionFor_71 hl (k := 4) rfl rfl (by decide) rfl (fun ls hl => ?_)
        refine lv_goto (tgt := 5) hx hb dPl_conditionFor_74 (by decide) ?_
        exact ih _ _ _ _ _ _ _ _ _ _ hJ (lv_sub hl [1, 2, 3, 4, 0] rfl) h
set_option maxHeartbeats 4000000 in
set_option maxRecDepth 100000 in
theorem uPl_conditionFor_0 {p : Program} {e : Env} {s : State} {m : MethodId} {args : Array Value} {below : List Frame} {meth : Method} {c : Code} (l : Launch) (dC : Nat → ClassId) (dI : Nat → Nat → Nat) (cA : ClassId) (A : Nat → Nat) (Ap : Nat → Prop) (hC : jAt p s m args meth c bPl_conditionFor 5 (some .int) wPl_conditionFor RPl) (hA : ∀ q : Nat, s.heap.size ≤ q → Ap q) {r : Int32} : ∀ (x1 x2 : Int32) (M : jM) (F : jF) (B : Nat → Nat) (H : Heap) (locs : List Loc) (ls : Array Slot), jH (dC, dI) jCl [(cA, .int)] (jW cA A B M F) Ap s H locs → lv_has ls 5 [(0, .ref (A 2)), (1, .int x1), (2, .int x2)] → fPl_conditionFor_0 x1 x2 M F = some r → W p l e (headSpec wPl_conditionFor rPl_conditionFor).room s m args below meth c H locs 0 0 (jQi below (dC, dI) jCl [(cA, .int)] (fun B => jW cA A B M F) Ap args s r) (F0 m 0 ls []) := by
  obtain ⟨hx, hb, hml, hr, hts, hown, hlocks, hN⟩ := id hC
  have hj : ∀ w ∈ jw, w.before args s = true := fun w h => hts w (List.mem_cons_of_mem _ h)
  intro x1 x2 M F B H locs ls hJ hl h
  unfold fPl_conditionFor_0 at h
  refine lv_iconst (v := (-1)) hx hb dPl_conditionFor_0 (by decide) ?_
  refine lv_istore_n (lv' := [(3, .int (-1)), (0, .ref (A 2)), (1, .int x1), (2, .int x2)]) hx hb dPl_conditionFor_1 rfl hl (by decide) rfl (fun ls hl => ?_)
  refine lv_iconst (v := 0) hx hb dPl_conditionFor_2 (by decide) ?_
  refine lv_istore (lv' := [(4, .int 0), (3, .int (-1)), (0, .ref (A 2)), (1, .int x1), (2, .int x2)]) hx hb dPl_conditionFor_3 hl (by decide) rfl (fun ls hl => ?_)
  exact uPl_conditionFor_5 l dC dI cA A Ap hC hA jfuel _ _ _ _ _ _ _ _ _ _ hJ (lv_sub hl [2, 3, 4, 1, 0] rfl) h
set_option maxHeartbeats 4000000 in
set_option maxRecDepth 100000 in
theorem cPl_conditionFor (l : Launch) (dC : Nat → ClassId) (dI : Nat → Nat → Nat) (cA : ClassId) (A : Nat → Nat) (x1 : Int32) (x2 : Int32) (M : jM) (F : jF) (B : Nat → Nat) (sz : Nat) {r : Int32} (h : fPl_conditionFor x1 x2 M F = some r) : jCi l yPl_conditionFor wPl_conditionFor rPl_conditionFor (dC, dI) jCl [(cA, .int)] [.ref (A 2), .int x1, .int x2] (jW cA A B M F) sz r (fun B => jW cA A B M F) :=
  jOf (Qc := fun Ap => va_Qi (fun q (_ : Nat → Nat) => q = r) (jPost (dC, dI) jCl [(cA, .int)] (fun B => jW cA A B M F) Ap) Ap) (by decide) rfl (Nat.le_of_ble_eq_true rfl) (fun p e s m below meth c Ap ls hC hA hJ hl => uPl_conditionFor_0 l dC dI cA A Ap hC hA _ _ _ _ _ _ _ _ hJ (lv_sub hl [0, 1, 2] rfl) h)
abbrev bPl_methodAt : ByteArray := prog_2_method_4_code
abbrev yPl_methodAt : MethodName := ⟨RPl, "methodAt", "(I)I"⟩
abbrev wPl_methodAt : List Cond := .code yPl_methodAt bPl_methodAt 4 (some .int) :: jw
theorem dPl_methodAt_0 : decode bPl_methodAt 0 = .ok (.aload_n 0, 1) := by decide +kernel
theorem dPl_methodAt_1 : decode bPl_methodAt 1 = .ok (.getfield 25, 3) := by decide +kernel
theorem dPl_methodAt_4 : decode bPl_methodAt 4 = .ok (.iload_n 1, 1) := by decide +kernel
theorem dPl_methodAt_5 : decode bPl_methodAt 5 = .ok (.iaload, 1) := by decide +kernel
theorem dPl_methodAt_6 : decode bPl_methodAt 6 = .ok (.istore_n 2, 1) := by decide +kernel
theorem dPl_methodAt_7 : decode bPl_methodAt 7 = .ok (.aload_n 0, 1) := by decide +kernel
theorem dPl_methodAt_8 : decode bPl_methodAt 8 = .ok (.iload_n 2, 1) := by decide +kernel
theorem dPl_methodAt_9 : decode bPl_methodAt 9 = .ok (.aload_n 0, 1) := by decide +kernel
theorem dPl_methodAt_10 : decode bPl_methodAt 10 = .ok (.iload_n 1, 1) := by decide +kernel
theorem dPl_methodAt_11 : decode bPl_methodAt 11 = .ok (.invokevirtual 43, 3) := by decide +kernel
theorem dPl_methodAt_14 : decode bPl_methodAt 14 = .ok (.invokevirtual 46, 3) := by decide +kernel
theorem dPl_methodAt_17 : decode bPl_methodAt 17 = .ok (.istore_n 3, 1) := by decide +kernel
theorem dPl_methodAt_18 : decode bPl_methodAt 18 = .ok (.iload_n 3, 1) := by decide +kernel
theorem dPl_methodAt_19 : decode bPl_methodAt 19 = .ok (.iconst (-1), 1) := by decide +kernel
theorem dPl_methodAt_20 : decode bPl_methodAt 20 = .ok (.if_icmp .ne 5, 3) := by decide +kernel
theorem dPl_methodAt_23 : decode bPl_methodAt 23 = .ok (.iconst 3, 1) := by decide +kernel
theorem dPl_methodAt_24 : decode bPl_methodAt 24 = .ok (.ireturn, 1) := by decide +kernel
theorem dPl_methodAt_25 : decode bPl_methodAt 25 = .ok (.aload_n 0, 1) := by decide +kernel
theorem dPl_methodAt_26 : decode bPl_methodAt 26 = .ok (.getfield 12, 3) := by decide +kernel
theorem dPl_methodAt_29 : decode bPl_methodAt 29 = .ok (.iload_n 3, 1) := by decide +kernel
theorem dPl_methodAt_30 : decode bPl_methodAt 30 = .ok (.iload_n 2, 1) := by decide +kernel
theorem dPl_methodAt_31 : decode bPl_methodAt 31 = .ok (.invokevirtual 49, 3) := by decide +kernel
theorem dPl_methodAt_34 : decode bPl_methodAt 34 = .ok (.ifCond .eq 7, 3) := by decide +kernel
theorem dPl_methodAt_37 : decode bPl_methodAt 37 = .ok (.iconst 1, 1) := by decide +kernel
theorem dPl_methodAt_38 : decode bPl_methodAt 38 = .ok (.goto 4, 3) := by decide +kernel
theorem dPl_methodAt_41 : decode bPl_methodAt 41 = .ok (.iconst 2, 1) := by decide +kernel
theorem dPl_methodAt_42 : decode bPl_methodAt 42 = .ok (.ireturn, 1) := by decide +kernel
abbrev rPl_methodAt : Room := { frames := 4, cells := 0, slots := 0, locals := 92 }
def fPl_methodAt_0 (x1 : Int32) (M : jM) (F : jF) : Option Int32 := (if jib x1 6 then ((fPl_aheadOf x1 M F).bind fun q2 => ((fPl_conditionFor (M 19 x1.toNatClampNeg) q2 M F).bind fun q3 => (if q3 = (-1) then some 3 else ((fQu_tellsByIndex q3 (M 19 x1.toNatClampNeg) M F).bind fun q5 => (if q5 = 0 then some 2 else some 1))))) else none)
abbrev fPl_methodAt (x1 : Int32) (M : jM) (F : jF) : Option Int32 := fPl_methodAt_0 x1 M F
set_option maxHeartbeats 4000000 in
set_option maxRecDepth 100000 in
theorem uPl_methodAt_0 {p : Program} {e : Env} {s : State} {m : MethodId} {args : Array Value} {below : List Frame} {meth : Method} {c : Code} (l : Launch) (dC : Nat → ClassId) (dI : Nat → Nat → Nat) (cA : ClassId) (A : Nat → Nat) (Ap : Nat → Prop) (hC : jAt p s m args meth c bPl_methodAt 4 (some .int) wPl_methodAt RPl) (hA : ∀ q : Nat, s.heap.size ≤ q → Ap q) {r : Int32} : ∀ (x1 : Int32) (M : jM) (F : jF) (B : Nat → Nat) (H : Heap) (locs : List Loc) (ls : Array Slot), jH (dC, dI) jCl [(cA, .int)] (jW cA A B M F) Ap s H locs → lv_has ls 4 [(0, .ref (A 2)), (1, .int x1)] → fPl_methodAt_0 x1 M F = some r → W p l e (headSpec wPl_methodAt rPl_methodAt).room s m args below meth c H locs 0 0 (jQi below (dC, dI) jCl [(cA, .int)] (fun B => jW cA A B M F) Ap args s r) (F0 m 0 ls []) := by
  obtain ⟨hx, hb, hml, hr, hts, hown, hlocks, hN⟩ := id hC
  have hj : ∀ w ∈ jw, w.before args s = true := fun w h => hts w (List.mem_cons_of_mem _ h)
  intro x1 M F B H locs ls hJ hl h
  unfold fPl_methodAt_0 at h
  refine lv_aload_n hx hb dPl_methodAt_0 rfl (lv_at hl 0 rfl) ?_
  refine va_get (D := (dC, dI)) (ci := 2) (v := .ref (A 19)) (C := RPl) (T := TPl) (N := 4) hx hb hj iPl hown hJ.1 hJ.2.1 2 rfl rfl 3 (by decide) (hj _ jw_107) (fun _ h9 => h9) rfl dPl_methodAt_1 ?_
  refine lv_iload_n hx hb dPl_methodAt_4 rfl (lv_at hl 1 rfl) ?_
  obtain ⟨hi1, h⟩ := jib_h h
  refine jald_19 hx hb hJ hi1 dPl_methodAt_5 ?_
  refine lv_istore_n (lv' := [(2, .int (M 19 x1.toNatClampNeg)), (0, .ref (A 2)), (1, .int x1)]) hx hb dPl_methodAt_6 rfl hl (by decide) rfl (fun ls hl => ?_)
  refine lv_aload_n hx hb dPl_methodAt_7 rfl (lv_at hl 1 rfl) ?_
  refine lv_iload_n hx hb dPl_methodAt_8 rfl (lv_at hl 0 rfl) ?_
  refine lv_aload_n hx hb dPl_methodAt_9 rfl (lv_at hl 1 rfl) ?_
  refine lv_iload_n hx hb dPl_methodAt_10 rfl (lv_at hl 2 rfl) ?_
  obtain ⟨q2, hq2, h⟩ := jbi_h h
  refine jcalli (w' := fun B => jW cA A B M F) (va_runV (As := [.int x1]) (rest := [.int (M 19 x1.toNatClampNeg), .ref (A 2)]) ⟨hx, hb, hml, hown, hts⟩ (cPl_aheadOf l dC dI cA A x1 M F B H.size hq2) (cwV 1 hts (jgoodV jw_462 jw_464 jws_9 jw_3 jw_465) rfl rfl rfl (by decide +kernel) ⟨Nat.le_of_ble_eq_true rfl, Nat.le_of_ble_eq_true rfl⟩) (jpreV hN hJ (ci := 2) (q0 := 2) rfl rfl) rfl rfl hl.1 rfl (lv_room (Nat.le_of_ble_eq_true rfl)) dPl_methodAt_11 ⟨Nat.zero_le _, Nat.zero_le _⟩) hA hJ (fun B H locs hJ => ?_)
  obtain ⟨q3, hq3, h⟩ := jbi_h h
  refine jcalli (w' := fun B => jW cA A B M F) (va_runV (As := [.int (M 19 x1.toNatClampNeg), .int q2]) (rest := []) ⟨hx, hb, hml, hown, hts⟩ (cPl_conditionFor l dC dI cA A (M 19 x1.toNatClampNeg) q2 M F B H.size hq3) (cwV 2 hts (jgoodV jw_466 jw_467 jw_468 jw_3 jw_469) rfl rfl rfl (by decide +kernel) ⟨Nat.le_of_ble_eq_true rfl, Nat.le_of_ble_eq_true rfl⟩) (jpreV hN hJ (ci := 2) (q0 := 2) rfl rfl) rfl rfl hl.1 rfl (lv_room (Nat.le_of_ble_eq_true rfl)) dPl_methodAt_14 ⟨Nat.zero_le _, Nat.zero_le _⟩) hA hJ (fun B H locs hJ => ?_)
  refine lv_istore_n (lv' := [(3, .int q3), (2, .int (M 19 x1.toNatClampNeg)), (0, .ref (A 2)), (1, .int x1)]) hx hb dPl_methodAt_17 rfl hl (by decide) rfl (fun ls hl => ?_)
  refine lv_iload_n hx hb dPl_methodAt_18 rfl (lv_at hl 0 rfl) ?_
  refine lv_iconst (v := (-1)) hx hb dPl_methodAt_19 (by decide) ?_
  refine lv_icmp_ne (tgt := 25) hx hb dPl_methodAt_20 (by decide) (fun c4 => ?_) (fun c4 => ?_)
  · replace h := jif_f c4 h
    refine lv_aload_n hx hb dPl_methodAt_25 rfl (lv_at hl 2 rfl) ?_
    refine va_get (D := (dC, dI)) (ci := 2) (v := .ref (A 3)) (C := RPl) (T := TPl) (N := 4) hx hb hj iPl hown hJ.1 hJ.2.1 2 rfl rfl 0 (by decide) (hj _ jw_102) (fun _ h9 => h9) rfl dPl_methodAt_26 ?_
    refine lv_iload_n hx hb dPl_methodAt_29 rfl (lv_at hl 0 rfl) ?_
    refine lv_iload_n hx hb dPl_methodAt_30 rfl (lv_at hl 1 rfl) ?_
    obtain ⟨q5, hq5, h⟩ := jbi_h h
    refine jcalli (w' := fun B => jW cA A B M F) (va_runV (As := [.int q3, .int (M 19 x1.toNatClampNeg)]) (rest := []) ⟨hx, hb, hml, hown, hts⟩ (cQu_tellsByIndex l dC dI cA A q3 (M 19 x1.toNatClampNeg) M F B H.size hq5) (cwV 2 hts (jgoodV jw_483 jw_484 jw_485 jw_4 jw_486) rfl rfl rfl (by decide +kernel) ⟨Nat.le_of_ble_eq_true rfl, Nat.le_of_ble_eq_true rfl⟩) (jpreV hN hJ (ci := 3) (q0 := 3) rfl rfl) rfl rfl hl.1 rfl (lv_room (Nat.le_of_ble_eq_true rfl)) dPl_methodAt_31 ⟨Nat.zero_le _, Nat.zero_le _⟩) hA hJ (fun B H locs hJ => ?_)
    refine lv_if_eq (tgt := 41) hx hb dPl_methodAt_34 (by decide) (fun c6 => ?_) (fun c6 => ?_)
    · replace h := jif_t c6 h
      refine lv_iconst (v := 2) hx hb dPl_methodAt_41 (by decide) ?_
      exact jreti (u := B) hx hb hr rfl hlocks hJ dPl_methodAt_42 (Option.some.inj h)
    · replace h := jif_f c6 h
      refine lv_iconst (v := 1) hx hb dPl_methodAt_37 (by decide) ?_
      refine lv_goto (tgt := 42) hx hb dPl_methodAt_38 (by decide) ?_
      exact jreti (u := B) hx hb hr rfl hlocks hJ dPl_methodAt_42 (Option.some.inj h)
  · replace h := jif_t c4 h
    refine lv_iconst (v := 3) hx hb dPl_methodAt_23 (by decide) ?_
    exact jreti (u := B) hx hb hr rfl hlocks hJ dPl_methodAt_24 (Option.some.inj h)
set_option maxHeartbeats 4000000 in
set_option maxRecDepth 100000 in
theorem cPl_methodAt (l : Launch) (dC : Nat → ClassId) (dI : Nat → Nat → Nat) (cA : ClassId) (A : Nat → Nat) (x1 : Int32) (M : jM) (F : jF) (B : Nat → Nat) (sz : Nat) {r : Int32} (h : fPl_methodAt x1 M F = some r) : jCi l yPl_methodAt wPl_methodAt rPl_methodAt (dC, dI) jCl [(cA, .int)] [.ref (A 2), .int x1] (jW cA A B M F) sz r (fun B => jW cA A B M F) :=
  jOf (Qc := fun Ap => va_Qi (fun q (_ : Nat → Nat) => q = r) (jPost (dC, dI) jCl [(cA, .int)] (fun B => jW cA A B M F) Ap) Ap) (by decide) rfl (Nat.le_of_ble_eq_true rfl) (fun p e s m below meth c Ap ls hC hA hJ hl => uPl_methodAt_0 l dC dI cA A Ap hC hA _ _ _ _ _ _ _ hJ (lv_sub hl [0, 1] rfl) h)
