abbrev bSi_rowsThatHold : ByteArray := prog_5_method_6_code
abbrev ySi_rowsThatHold : MethodName := ⟨RSi, "rowsThatHold", "(LJoinHouse$Query;III)I"⟩
abbrev wSi_rowsThatHold : List Cond := .code ySi_rowsThatHold bSi_rowsThatHold 7 (some .int) :: jw
theorem dSi_rowsThatHold_0 : decode bSi_rowsThatHold 0 = .ok (.iconst 0, 1) := by decide +kernel
theorem dSi_rowsThatHold_1 : decode bSi_rowsThatHold 1 = .ok (.istore 4, 2) := by decide +kernel
theorem dSi_rowsThatHold_3 : decode bSi_rowsThatHold 3 = .ok (.aload_n 0, 1) := by decide +kernel
theorem dSi_rowsThatHold_4 : decode bSi_rowsThatHold 4 = .ok (.iload_n 2, 1) := by decide +kernel
theorem dSi_rowsThatHold_5 : decode bSi_rowsThatHold 5 = .ok (.invokevirtual 28, 3) := by decide +kernel
theorem dSi_rowsThatHold_8 : decode bSi_rowsThatHold 8 = .ok (.istore 5, 2) := by decide +kernel
theorem dSi_rowsThatHold_10 : decode bSi_rowsThatHold 10 = .ok (.iconst 0, 1) := by decide +kernel
theorem dSi_rowsThatHold_11 : decode bSi_rowsThatHold 11 = .ok (.istore 6, 2) := by decide +kernel
theorem dSi_rowsThatHold_13 : decode bSi_rowsThatHold 13 = .ok (.iload 6, 2) := by decide +kernel
theorem dSi_rowsThatHold_15 : decode bSi_rowsThatHold 15 = .ok (.iload 5, 2) := by decide +kernel
theorem dSi_rowsThatHold_17 : decode bSi_rowsThatHold 17 = .ok (.if_icmp .ge 30, 3) := by decide +kernel
theorem dSi_rowsThatHold_20 : decode bSi_rowsThatHold 20 = .ok (.aload_n 0, 1) := by decide +kernel
theorem dSi_rowsThatHold_21 : decode bSi_rowsThatHold 21 = .ok (.iload_n 1, 1) := by decide +kernel
theorem dSi_rowsThatHold_22 : decode bSi_rowsThatHold 22 = .ok (.iload_n 2, 1) := by decide +kernel
theorem dSi_rowsThatHold_23 : decode bSi_rowsThatHold 23 = .ok (.iload 6, 2) := by decide +kernel
theorem dSi_rowsThatHold_25 : decode bSi_rowsThatHold 25 = .ok (.iload_n 3, 1) := by decide +kernel
theorem dSi_rowsThatHold_26 : decode bSi_rowsThatHold 26 = .ok (.invokevirtual 59, 3) := by decide +kernel
theorem dSi_rowsThatHold_29 : decode bSi_rowsThatHold 29 = .ok (.ifCond .eq 12, 3) := by decide +kernel
theorem dSi_rowsThatHold_32 : decode bSi_rowsThatHold 32 = .ok (.iload 4, 2) := by decide +kernel
theorem dSi_rowsThatHold_34 : decode bSi_rowsThatHold 34 = .ok (.iconst 1, 1) := by decide +kernel
theorem dSi_rowsThatHold_35 : decode bSi_rowsThatHold 35 = .ok (.iload 6, 2) := by decide +kernel
theorem dSi_rowsThatHold_37 : decode bSi_rowsThatHold 37 = .ok (.ishl, 1) := by decide +kernel
theorem dSi_rowsThatHold_38 : decode bSi_rowsThatHold 38 = .ok (.ior, 1) := by decide +kernel
theorem dSi_rowsThatHold_39 : decode bSi_rowsThatHold 39 = .ok (.istore 4, 2) := by decide +kernel
theorem dSi_rowsThatHold_41 : decode bSi_rowsThatHold 41 = .ok (.iinc 6 1, 3) := by decide +kernel
theorem dSi_rowsThatHold_44 : decode bSi_rowsThatHold 44 = .ok (.goto (-31), 3) := by decide +kernel
theorem dSi_rowsThatHold_47 : decode bSi_rowsThatHold 47 = .ok (.iload 4, 2) := by decide +kernel
theorem dSi_rowsThatHold_49 : decode bSi_rowsThatHold 49 = .ok (.ireturn, 1) := by decide +kernel
abbrev rSi_rowsThatHold : Room := { frames := 2, cells := 0, slots := 0, locals := 53 }
def fSi_rowsThatHold_13 : Nat → Int32 → Int32 → Int32 → Int32 → Int32 → Int32 → jM → jF → Option Int32
  | 0, _, _, _, _, _, _, _, _ => none
  | n + 1, x1, x2, x3, x4, x5, x6, M, F => (if x5 ≤ x6 then some x4 else ((fQu_holds x1 x2 x6 x3 M F).bind fun q3 => (if q3 = 0 then fSi_rowsThatHold_13 n x1 x2 x3 x4 x5 (x6 + 1) M F else fSi_rowsThatHold_13 n x1 x2 x3 (x4 ||| (1 <<< (x6 &&& 31))) x5 (x6 + 1) M F)))
def fSi_rowsThatHold_0 (x1 : Int32) (x2 : Int32) (x3 : Int32) (M : jM) (F : jF) : Option Int32 := ((fQu_rowsOf x2 M F).bind fun q1 => fSi_rowsThatHold_13 jfuel x1 x2 x3 0 q1 0 M F)
abbrev fSi_rowsThatHold (x1 : Int32) (x2 : Int32) (x3 : Int32) (M : jM) (F : jF) : Option Int32 := fSi_rowsThatHold_0 x1 x2 x3 M F
set_option maxHeartbeats 4000000 in
set_option maxRecDepth 100000 in
theorem uSi_rowsThatHold_13 {p : Program} {e : Env} {s : State} {m : MethodId} {args : Array Value} {below : List Frame} {meth : Method} {c : Code} (l : Launch) (dC : Nat → ClassId) (dI : Nat → Nat → Nat) (cA : ClassId) (A : Nat → Nat) (Ap : Nat → Prop) (hC : jAt p s m args meth c bSi_rowsThatHold 7 (some .int) wSi_rowsThatHold RSi) (hA : ∀ q : Nat, s.heap.size ≤ q → Ap q) {r : Int32} : ∀ (n : Nat) (x1 x2 x3 x4 x5 x6 : Int32) (M : jM) (F : jF) (B : Nat → Nat) (H : Heap) (locs : List Loc) (ls : Array Slot), jH (dC, dI) jCl [(cA, .int)] (jW cA A B M F) Ap s H locs → lv_has ls 7 [(0, .ref (A 3)), (1, .int x1), (2, .int x2), (3, .int x3), (4, .int x4), (5, .int x5), (6, .int x6)] → fSi_rowsThatHold_13 n x1 x2 x3 x4 x5 x6 M F = some r → W p l e (headSpec wSi_rowsThatHold rSi_rowsThatHold).room s m args below meth c H locs 0 0 (jQi below (dC, dI) jCl [(cA, .int)] (fun B => jW cA A B M F) Ap args s r) (F0 m 13 ls []) := by
  obtain ⟨hx, hb, hml, hr, hts, hown, hlocks, hN⟩ := id hC
  have hj : ∀ w ∈ jw, w.before args s = true := fun w h => hts w (List.mem_cons_of_mem _ h)
  intro n
  induction n with
  | zero =>
    intro x1 x2 x3 x4 x5 x6 M F B H locs ls hJ hl h
    rw [fSi_rowsThatHold_13] at h
    cases h
  | succ n ih =>
    intro x1 x2 x3 x4 x5 x6 M F B H locs ls hJ hl h
    rw [fSi_rowsThatHold_13] at h
    refine lv_iload hx hb dSi_rowsThatHold_13 (lv_at hl 6 rfl) ?_
    refine lv_iload hx hb dSi_rowsThatHold_15 (lv_at hl 5 rfl) ?_
    refine lv_icmp_ge (tgt := 47) hx hb dSi_rowsThatHold_17 (by decide) (fun c2 => ?_) (fun c2 => ?_)
    · replace h := jif_t c2 h
      refine lv_iload hx hb dSi_rowsThatHold_47 (lv_at hl 4 rfl) ?_
      exact jreti (u := B) hx hb hr rfl hlocks hJ dSi_rowsThatHold_49 (Option.some.inj h)
    · replace h := jif_f c2 h
      refine lv_aload_n hx hb dSi_rowsThatHold_20 rfl (lv_at hl 0 rfl) ?_
      refine lv_iload_n hx hb dSi_rowsThatHold_21 rfl (lv_at hl 1 rfl) ?_
      refine lv_iload_n hx hb dSi_rowsThatHold_22 rfl (lv_at hl 2 rfl) ?_
      refine lv_iload hx hb dSi_rowsThatHold_23 (lv_at hl 6 rfl) ?_
      refine lv_iload_n hx hb dSi_rowsThatHold_25 rfl (lv_at hl 3 rfl) ?_
      obtain ⟨q3, hq3, h⟩ := jbi_h h
      refine jcalli (w' := fun B => jW cA A B M F) (va_runV (As := [.int x1, .int x2, .int x6, .int x3]) (rest := []) ⟨hx, hb, hml, hown, hts⟩ (cQu_holds l dC dI cA A x1 x2 x6 x3 M F B H.size hq3) (cwV 4 hts (jgoodV jw_532 jw_533 jw_534 jw_4 jw_535) rfl rfl rfl (by decide +kernel) ⟨Nat.le_of_ble_eq_true rfl, Nat.le_of_ble_eq_true rfl⟩) (jpreV hN hJ (ci := 3) (q0 := 3) rfl rfl) rfl rfl hl.1 rfl (lv_room (Nat.le_of_ble_eq_true rfl)) dSi_rowsThatHold_26 ⟨Nat.zero_le _, Nat.zero_le _⟩) hA hJ (fun B H locs hJ => ?_)
      refine lv_if_eq (tgt := 41) hx hb dSi_rowsThatHold_29 (by decide) (fun c4 => ?_) (fun c4 => ?_)
      · replace h := jif_t c4 h
        refine lv_iinc (v := x6 + 1) (lv' := [(6, .int (x6 + 1)), (0, .ref (A 3)), (1, .int x1), (2, .int x2), (3, .int x3), (4, .int x4), (5, .int x5)]) hx hb dSi_rowsThatHold_41 hl (k := 6) rfl rfl (by decide) rfl (fun ls hl => ?_)
        refine lv_goto (tgt := 13) hx hb dSi_rowsThatHold_44 (by decide) ?_
        exact ih _ _ _ _ _ _ _ _ _ _ _ _ hJ (lv_sub hl [1, 2, 3, 4, 5, 6, 0] rfl) h
      · replace h := jif_f c4 h
        refine lv_iload hx hb dSi_rowsThatHold_32 (lv_at hl 4 rfl) ?_
        refine lv_iconst (v := 1) hx hb dSi_rowsThatHold_34 (by decide) ?_
        refine lv_iload hx hb dSi_rowsThatHold_35 (lv_at hl 6 rfl) ?_
        refine lv_ishl hx hb dSi_rowsThatHold_37 ?_
        refine lv_ior hx hb dSi_rowsThatHold_38 ?_
        refine lv_istore (lv' := [(4, .int (x4 ||| (1 <<< (x6 &&& 31)))), (0, .ref (A 3)), (1, .int x1), (2, .int x2), (3, .int x3), (5, .int x5), (6, .int x6)]) hx hb dSi_rowsThatHold_39 hl (by decide) rfl (fun ls hl => ?_)
        refine lv_iinc (v := x6 + 1) (lv' := [(6, .int (x6 + 1)), (4, .int (x4 ||| (1 <<< (x6 &&& 31)))), (0, .ref (A 3)), (1, .int x1), (2, .int x2), (3, .int x3), (5, .int x5)]) hx hb dSi_rowsThatHold_41 hl (k := 6) rfl rfl (by decide) rfl (fun ls hl => ?_)
        refine lv_goto (tgt := 13) hx hb dSi_rowsThatHold_44 (by decide) ?_
        exact ih _ _ _ _ _ _ _ _ _ _ _ _ hJ (lv_sub hl [2, 3, 4, 5, 1, 6, 0] rfl) h
set_option maxHeartbeats 4000000 in
set_option maxRecDepth 100000 in
theorem uSi_rowsThatHold_0 {p : Program} {e : Env} {s : State} {m : MethodId} {args : Array Value} {below : List Frame} {meth : Method} {c : Code} (l : Launch) (dC : Nat → ClassId) (dI : Nat → Nat → Nat) (cA : ClassId) (A : Nat → Nat) (Ap : Nat → Prop) (hC : jAt p s m args meth c bSi_rowsThatHold 7 (some .int) wSi_rowsThatHold RSi) (hA : ∀ q : Nat, s.heap.size ≤ q → Ap q) {r : Int32} : ∀ (x1 x2 x3 : Int32) (M : jM) (F : jF) (B : Nat → Nat) (H : Heap) (locs : List Loc) (ls : Array Slot), jH (dC, dI) jCl [(cA, .int)] (jW cA A B M F) Ap s H locs → lv_has ls 7 [(0, .ref (A 3)), (1, .int x1), (2, .int x2), (3, .int x3)] → fSi_rowsThatHold_0 x1 x2 x3 M F = some r → W p l e (headSpec wSi_rowsThatHold rSi_rowsThatHold).room s m args below meth c H locs 0 0 (jQi below (dC, dI) jCl [(cA, .int)] (fun B => jW cA A B M F) Ap args s r) (F0 m 0 ls []) := by
  obtain ⟨hx, hb, hml, hr, hts, hown, hlocks, hN⟩ := id hC
  have hj : ∀ w ∈ jw, w.before args s = true := fun w h => hts w (List.mem_cons_of_mem _ h)
  intro x1 x2 x3 M F B H locs ls hJ hl h
  unfold fSi_rowsThatHold_0 at h
  refine lv_iconst (v := 0) hx hb dSi_rowsThatHold_0 (by decide) ?_
  refine lv_istore (lv' := [(4, .int 0), (0, .ref (A 3)), (1, .int x1), (2, .int x2), (3, .int x3)]) hx hb dSi_rowsThatHold_1 hl (by decide) rfl (fun ls hl => ?_)
  refine lv_aload_n hx hb dSi_rowsThatHold_3 rfl (lv_at hl 1 rfl) ?_
  refine lv_iload_n hx hb dSi_rowsThatHold_4 rfl (lv_at hl 3 rfl) ?_
  obtain ⟨q1, hq1, h⟩ := jbi_h h
  refine jcalli (w' := fun B => jW cA A B M F) (va_runV (As := [.int x2]) (rest := []) ⟨hx, hb, hml, hown, hts⟩ (cQu_rowsOf l dC dI cA A x2 M F B H.size hq1) (cwV 1 hts (jgoodV jw_522 jw_420 jw_421 jw_4 jw_422) rfl rfl rfl (by decide +kernel) ⟨Nat.le_of_ble_eq_true rfl, Nat.le_of_ble_eq_true rfl⟩) (jpreV hN hJ (ci := 3) (q0 := 3) rfl rfl) rfl rfl hl.1 rfl (lv_room (Nat.le_of_ble_eq_true rfl)) dSi_rowsThatHold_5 ⟨Nat.zero_le _, Nat.zero_le _⟩) hA hJ (fun B H locs hJ => ?_)
  refine lv_istore (lv' := [(5, .int q1), (4, .int 0), (0, .ref (A 3)), (1, .int x1), (2, .int x2), (3, .int x3)]) hx hb dSi_rowsThatHold_8 hl (by decide) rfl (fun ls hl => ?_)
  refine lv_iconst (v := 0) hx hb dSi_rowsThatHold_10 (by decide) ?_
  refine lv_istore (lv' := [(6, .int 0), (5, .int q1), (4, .int 0), (0, .ref (A 3)), (1, .int x1), (2, .int x2), (3, .int x3)]) hx hb dSi_rowsThatHold_11 hl (by decide) rfl (fun ls hl => ?_)
  exact uSi_rowsThatHold_13 l dC dI cA A Ap hC hA jfuel _ _ _ _ _ _ _ _ _ _ _ _ hJ (lv_sub hl [3, 4, 5, 6, 2, 1, 0] rfl) h
set_option maxHeartbeats 4000000 in
set_option maxRecDepth 100000 in
theorem cSi_rowsThatHold (l : Launch) (dC : Nat → ClassId) (dI : Nat → Nat → Nat) (cA : ClassId) (A : Nat → Nat) (x1 : Int32) (x2 : Int32) (x3 : Int32) (M : jM) (F : jF) (B : Nat → Nat) (sz : Nat) {r : Int32} (h : fSi_rowsThatHold x1 x2 x3 M F = some r) : jCi l ySi_rowsThatHold wSi_rowsThatHold rSi_rowsThatHold (dC, dI) jCl [(cA, .int)] [.ref (A 3), .int x1, .int x2, .int x3] (jW cA A B M F) sz r (fun B => jW cA A B M F) :=
  jOf (Qc := fun Ap => va_Qi (fun q (_ : Nat → Nat) => q = r) (jPost (dC, dI) jCl [(cA, .int)] (fun B => jW cA A B M F) Ap) Ap) (by decide) rfl (Nat.le_of_ble_eq_true rfl) (fun p e s m below meth c Ap ls hC hA hJ hl => uSi_rowsThatHold_0 l dC dI cA A Ap hC hA _ _ _ _ _ _ _ _ _ hJ (lv_sub hl [0, 1, 2, 3] rfl) h)
abbrev bSi_judge : ByteArray := prog_5_method_5_code
abbrev ySi_judge : MethodName := ⟨RSi, "judge", "(LJoinHouse$Query;II)V"⟩
abbrev wSi_judge : List Cond := .code ySi_judge bSi_judge 7 none :: jw
theorem dSi_judge_0 : decode bSi_judge 0 = .ok (.aload_n 1, 1) := by decide +kernel
theorem dSi_judge_1 : decode bSi_judge 1 = .ok (.iload_n 2, 1) := by decide +kernel
theorem dSi_judge_2 : decode bSi_judge 2 = .ok (.iload_n 3, 1) := by decide +kernel
theorem dSi_judge_3 : decode bSi_judge 3 = .ok (.invokevirtual 52, 3) := by decide +kernel
theorem dSi_judge_6 : decode bSi_judge 6 = .ok (.istore 4, 2) := by decide +kernel
theorem dSi_judge_8 : decode bSi_judge 8 = .ok (.iload 4, 2) := by decide +kernel
theorem dSi_judge_10 : decode bSi_judge 10 = .ok (.iconst (-1), 1) := by decide +kernel
theorem dSi_judge_11 : decode bSi_judge 11 = .ok (.if_icmp .ne 7, 3) := by decide +kernel
theorem dSi_judge_14 : decode bSi_judge 14 = .ok (.iconst 1, 1) := by decide +kernel
theorem dSi_judge_15 : decode bSi_judge 15 = .ok (.goto 9, 3) := by decide +kernel
theorem dSi_judge_18 : decode bSi_judge 18 = .ok (.aload_n 1, 1) := by decide +kernel
theorem dSi_judge_19 : decode bSi_judge 19 = .ok (.iload 4, 2) := by decide +kernel
theorem dSi_judge_21 : decode bSi_judge 21 = .ok (.invokevirtual 28, 3) := by decide +kernel
theorem dSi_judge_24 : decode bSi_judge 24 = .ok (.istore 5, 2) := by decide +kernel
theorem dSi_judge_26 : decode bSi_judge 26 = .ok (.aload_n 0, 1) := by decide +kernel
theorem dSi_judge_27 : decode bSi_judge 27 = .ok (.getfield 15, 3) := by decide +kernel
theorem dSi_judge_30 : decode bSi_judge 30 = .ok (.iload_n 2, 1) := by decide +kernel
theorem dSi_judge_31 : decode bSi_judge 31 = .ok (.iload 4, 2) := by decide +kernel
theorem dSi_judge_33 : decode bSi_judge 33 = .ok (.iastore, 1) := by decide +kernel
theorem dSi_judge_34 : decode bSi_judge 34 = .ok (.iconst 0, 1) := by decide +kernel
theorem dSi_judge_35 : decode bSi_judge 35 = .ok (.istore 6, 2) := by decide +kernel
theorem dSi_judge_37 : decode bSi_judge 37 = .ok (.iload 6, 2) := by decide +kernel
theorem dSi_judge_39 : decode bSi_judge 39 = .ok (.iload 5, 2) := by decide +kernel
theorem dSi_judge_41 : decode bSi_judge 41 = .ok (.if_icmp .ge 29, 3) := by decide +kernel
theorem dSi_judge_44 : decode bSi_judge 44 = .ok (.aload_n 0, 1) := by decide +kernel
theorem dSi_judge_45 : decode bSi_judge 45 = .ok (.getfield 18, 3) := by decide +kernel
theorem dSi_judge_48 : decode bSi_judge 48 = .ok (.iload_n 2, 1) := by decide +kernel
theorem dSi_judge_49 : decode bSi_judge 49 = .ok (.bipush 32, 2) := by decide +kernel
theorem dSi_judge_51 : decode bSi_judge 51 = .ok (.imul, 1) := by decide +kernel
theorem dSi_judge_52 : decode bSi_judge 52 = .ok (.iload 6, 2) := by decide +kernel
theorem dSi_judge_54 : decode bSi_judge 54 = .ok (.iadd, 1) := by decide +kernel
theorem dSi_judge_55 : decode bSi_judge 55 = .ok (.aload_n 1, 1) := by decide +kernel
theorem dSi_judge_56 : decode bSi_judge 56 = .ok (.iload_n 2, 1) := by decide +kernel
theorem dSi_judge_57 : decode bSi_judge 57 = .ok (.iload_n 3, 1) := by decide +kernel
theorem dSi_judge_58 : decode bSi_judge 58 = .ok (.iload 6, 2) := by decide +kernel
theorem dSi_judge_60 : decode bSi_judge 60 = .ok (.invokestatic 55, 3) := by decide +kernel
theorem dSi_judge_63 : decode bSi_judge 63 = .ok (.iastore, 1) := by decide +kernel
theorem dSi_judge_64 : decode bSi_judge 64 = .ok (.iinc 6 1, 3) := by decide +kernel
theorem dSi_judge_67 : decode bSi_judge 67 = .ok (.goto (-30), 3) := by decide +kernel
theorem dSi_judge_70 : decode bSi_judge 70 = .ok (.return_, 1) := by decide +kernel
abbrev rSi_judge : Room := { frames := 3, cells := 0, slots := 0, locals := 79 }
def fSi_judge_37 : Nat → Int32 → Int32 → Int32 → Int32 → jM → jF → Option (Int32 × jM × jF)
  | 0, _, _, _, _, _, _ => none
  | n + 1, x2, x3, x5, x6, M, F => (if x5 ≤ x6 then some (0, M, F) else ((fSi_rowsThatHold x2 x3 x6 M F).bind fun q6 => (if jib ((x2 * 32) + x6) 384 then fSi_judge_37 n x2 x3 x5 (x6 + 1) (jmu M 22 ((x2 * 32) + x6).toNatClampNeg q6) F else none)))
def fSi_judge_24 (x2 : Int32) (x3 : Int32) (x4 : Int32) (s0 : Int32) (M : jM) (F : jF) : Option (Int32 × jM × jF) := (if jib x2 12 then fSi_judge_37 jfuel x2 x3 s0 0 (jmu M 21 x2.toNatClampNeg x4) F else none)
def fSi_judge_0 (x2 : Int32) (x3 : Int32) (M : jM) (F : jF) : Option (Int32 × jM × jF) := ((fQu_partner x2 x3 M F).bind fun q1 => (if q1 = (-1) then fSi_judge_24 x2 x3 q1 1 M F else ((fQu_rowsOf q1 M F).bind fun q3 => fSi_judge_24 x2 x3 q1 q3 M F)))
abbrev fSi_judge (x2 : Int32) (x3 : Int32) (M : jM) (F : jF) : Option (Int32 × jM × jF) := fSi_judge_0 x2 x3 M F
set_option maxHeartbeats 4000000 in
set_option maxRecDepth 100000 in
theorem uSi_judge_37 {p : Program} {e : Env} {s : State} {m : MethodId} {args : Array Value} {below : List Frame} {meth : Method} {c : Code} (l : Launch) (dC : Nat → ClassId) (dI : Nat → Nat → Nat) (cA : ClassId) (A : Nat → Nat) (Ap : Nat → Prop) (hC : jAt p s m args meth c bSi_judge 7 none wSi_judge RSi) (hA : ∀ q : Nat, s.heap.size ≤ q → Ap q) {r : Int32} {M' : jM} {F' : jF} : ∀ (n : Nat) (x2 x3 x5 x6 : Int32) (M : jM) (F : jF) (B : Nat → Nat) (H : Heap) (locs : List Loc) (ls : Array Slot), jH (dC, dI) jCl [(cA, .int)] (jW cA A B M F) Ap s H locs → lv_has ls 7 [(0, .ref (A 5)), (1, .ref (A 3)), (2, .int x2), (3, .int x3), (5, .int x5), (6, .int x6)] → fSi_judge_37 n x2 x3 x5 x6 M F = some (r, M', F') → W p l e (headSpec wSi_judge rSi_judge).room s m args below meth c H locs 0 0 (jQv below (dC, dI) jCl [(cA, .int)] (fun B => jW cA A B (M') (F')) Ap args s) (F0 m 37 ls []) := by
  obtain ⟨hx, hb, hml, hr, hts, hown, hlocks, hN⟩ := id hC
  have hj : ∀ w ∈ jw, w.before args s = true := fun w h => hts w (List.mem_cons_of_mem _ h)
  intro n
  induction n with
  | zero =>
    intro x2 x3 x5 x6 M F B H locs ls hJ hl h
    rw [fSi_judge_37] at h
    cases h
  | succ n ih =>
    intro x2 x3 x5 x6 M F B H locs ls hJ hl h
    rw [fSi_judge_37] at h
    refine lv_iload hx hb dSi_judge_37 (lv_at hl 5 rfl) ?_
    refine lv_iload hx hb dSi_judge_39 (lv_at hl 4 rfl) ?_
    refine lv_icmp_ge (tgt := 70) hx hb dSi_judge_41 (by decide) (fun c5 => ?_) (fun c5 => ?_)
    · replace h := jif_t c5 h
      cases h
      exact jretv (u := B) hx hb hr hlocks hJ dSi_judge_70
    · replace h := jif_f c5 h
      refine lv_aload_n hx hb dSi_judge_44 rfl (lv_at hl 0 rfl) ?_
      refine va_get (D := (dC, dI)) (ci := 5) (v := .ref (A 22)) (C := RSi) (T := TSi) (N := 5) hx hb hj iSi hown hJ.1 hJ.2.1 5 rfl rfl 2 (by decide) (hj _ jw_127) (fun _ h9 => h9) rfl dSi_judge_45 ?_
      refine lv_iload_n hx hb dSi_judge_48 rfl (lv_at hl 2 rfl) ?_
      refine lv_bipush (v := 32) hx hb dSi_judge_49 (by decide) ?_
      refine lv_imul hx hb dSi_judge_51 ?_
      refine lv_iload hx hb dSi_judge_52 (lv_at hl 5 rfl) ?_
      refine lv_iadd hx hb dSi_judge_54 ?_
      refine lv_aload_n hx hb dSi_judge_55 rfl (lv_at hl 1 rfl) ?_
      refine lv_iload_n hx hb dSi_judge_56 rfl (lv_at hl 2 rfl) ?_
      refine lv_iload_n hx hb dSi_judge_57 rfl (lv_at hl 3 rfl) ?_
      refine lv_iload hx hb dSi_judge_58 (lv_at hl 5 rfl) ?_
      obtain ⟨q6, hq6, h⟩ := jbi_h h
      refine jcalli (w' := fun B => jW cA A B M F) (va_runS (As := [.ref (A 3), .int x2, .int x3, .int x6]) (rest := [.int ((x2 * 32) + x6), .ref (A 22)]) ⟨hx, hb, hml, hown, hts⟩ (cSi_rowsThatHold l dC dI cA A x2 x3 x6 M F B H.size hq6) (va_cwS 4 hts (jgoodS jw_529 jw_530 jw_6 jw_531) rfl rfl rfl (by decide +kernel) ⟨Nat.le_of_ble_eq_true rfl, Nat.le_of_ble_eq_true rfl⟩) (jpreS hN hJ) rfl rfl hl.1 rfl (lv_room (Nat.le_of_ble_eq_true rfl)) dSi_judge_60 ⟨Nat.zero_le _, Nat.zero_le _⟩) hA hJ (fun B H locs hJ => ?_)
      obtain ⟨hi7, h⟩ := jib_h h
      refine jast_22 hx hb hJ hi7 dSi_judge_63 (fun H locs hJ => ?_)
      refine lv_iinc (v := x6 + 1) (lv' := [(6, .int (x6 + 1)), (0, .ref (A 5)), (1, .ref (A 3)), (2, .int x2), (3, .int x3), (5, .int x5)]) hx hb dSi_judge_64 hl (k := 5) rfl rfl (by decide) rfl (fun ls hl => ?_)
      refine lv_goto (tgt := 37) hx hb dSi_judge_67 (by decide) ?_
      exact ih _ _ _ _ _ _ _ _ _ _ hJ (lv_sub hl [1, 2, 3, 4, 5, 0] rfl) h
set_option maxHeartbeats 4000000 in
set_option maxRecDepth 100000 in
theorem uSi_judge_24 {p : Program} {e : Env} {s : State} {m : MethodId} {args : Array Value} {below : List Frame} {meth : Method} {c : Code} (l : Launch) (dC : Nat → ClassId) (dI : Nat → Nat → Nat) (cA : ClassId) (A : Nat → Nat) (Ap : Nat → Prop) (hC : jAt p s m args meth c bSi_judge 7 none wSi_judge RSi) (hA : ∀ q : Nat, s.heap.size ≤ q → Ap q) {r : Int32} {M' : jM} {F' : jF} : ∀ (x2 x3 x4 s0 : Int32) (M : jM) (F : jF) (B : Nat → Nat) (H : Heap) (locs : List Loc) (ls : Array Slot), jH (dC, dI) jCl [(cA, .int)] (jW cA A B M F) Ap s H locs → lv_has ls 7 [(0, .ref (A 5)), (1, .ref (A 3)), (2, .int x2), (3, .int x3), (4, .int x4)] → fSi_judge_24 x2 x3 x4 s0 M F = some (r, M', F') → W p l e (headSpec wSi_judge rSi_judge).room s m args below meth c H locs 0 0 (jQv below (dC, dI) jCl [(cA, .int)] (fun B => jW cA A B (M') (F')) Ap args s) (F0 m 24 ls [.int s0]) := by
  obtain ⟨hx, hb, hml, hr, hts, hown, hlocks, hN⟩ := id hC
  have hj : ∀ w ∈ jw, w.before args s = true := fun w h => hts w (List.mem_cons_of_mem _ h)
  intro x2 x3 x4 s0 M F B H locs ls hJ hl h
  unfold fSi_judge_24 at h
  refine lv_istore (lv' := [(5, .int s0), (0, .ref (A 5)), (1, .ref (A 3)), (2, .int x2), (3, .int x3), (4, .int x4)]) hx hb dSi_judge_24 hl (by decide) rfl (fun ls hl => ?_)
  refine lv_aload_n hx hb dSi_judge_26 rfl (lv_at hl 1 rfl) ?_
  refine va_get (D := (dC, dI)) (ci := 5) (v := .ref (A 21)) (C := RSi) (T := TSi) (N := 5) hx hb hj iSi hown hJ.1 hJ.2.1 5 rfl rfl 1 (by decide) (hj _ jw_126) (fun _ h9 => h9) rfl dSi_judge_27 ?_
  refine lv_iload_n hx hb dSi_judge_30 rfl (lv_at hl 3 rfl) ?_
  refine lv_iload hx hb dSi_judge_31 (lv_at hl 5 rfl) ?_
  obtain ⟨hi4, h⟩ := jib_h h
  refine jast_21 hx hb hJ hi4 dSi_judge_33 (fun H locs hJ => ?_)
  refine lv_iconst (v := 0) hx hb dSi_judge_34 (by decide) ?_
  refine lv_istore (lv' := [(6, .int 0), (5, .int s0), (0, .ref (A 5)), (1, .ref (A 3)), (2, .int x2), (3, .int x3), (4, .int x4)]) hx hb dSi_judge_35 hl (by decide) rfl (fun ls hl => ?_)
  exact uSi_judge_37 l dC dI cA A Ap hC hA jfuel _ _ _ _ _ _ _ _ _ _ hJ (lv_sub hl [2, 3, 4, 5, 1, 0] rfl) h
set_option maxHeartbeats 4000000 in
set_option maxRecDepth 100000 in
theorem uSi_judge_0 {p : Program} {e : Env} {s : State} {m : MethodId} {args : Array Value} {below : List Frame} {meth : Method} {c : Code} (l : Launch) (dC : Nat → ClassId) (dI : Nat → Nat → Nat) (cA : ClassId) (A : Nat → Nat) (Ap : Nat → Prop) (hC : jAt p s m args meth c bSi_judge 7 none wSi_judge RSi) (hA : ∀ q : Nat, s.heap.size ≤ q → Ap q) {r : Int32} {M' : jM} {F' : jF} : ∀ (x2 x3 : Int32) (M : jM) (F : jF) (B : Nat → Nat) (H : Heap) (locs : List Loc) (ls : Array Slot), jH (dC, dI) jCl [(cA, .int)] (jW cA A B M F) Ap s H locs → lv_has ls 7 [(0, .ref (A 5)), (1, .ref (A 3)), (2, .int x2), (3, .int x3)] → fSi_judge_0 x2 x3 M F = some (r, M', F') → W p l e (headSpec wSi_judge rSi_judge).room s m args below meth c H locs 0 0 (jQv below (dC, dI) jCl [(cA, .int)] (fun B => jW cA A B (M') (F')) Ap args s) (F0 m 0 ls []) := by
  obtain ⟨hx, hb, hml, hr, hts, hown, hlocks, hN⟩ := id hC
  have hj : ∀ w ∈ jw, w.before args s = true := fun w h => hts w (List.mem_cons_of_mem _ h)
  intro x2 x3 M F B H locs ls hJ hl h
  unfold fSi_judge_0 at h
  refine lv_aload_n hx hb dSi_judge_0 rfl (lv_at hl 1 rfl) ?_
  refine lv_iload_n hx hb dSi_judge_1 rfl (lv_at hl 2 rfl) ?_
  refine lv_iload_n hx hb dSi_judge_2 rfl (lv_at hl 3 rfl) ?_
  obtain ⟨q1, hq1, h⟩ := jbi_h h
  refine jcalli (w' := fun B => jW cA A B M F) (va_runV (As := [.int x2, .int x3]) (rest := []) ⟨hx, hb, hml, hown, hts⟩ (cQu_partner l dC dI cA A x2 x3 M F B H.size hq1) (cwV 2 hts (jgoodV jw_528 jw_480 jw_481 jw_4 jw_482) rfl rfl rfl (by decide +kernel) ⟨Nat.le_of_ble_eq_true rfl, Nat.le_of_ble_eq_true rfl⟩) (jpreV hN hJ (ci := 3) (q0 := 3) rfl rfl) rfl rfl hl.1 rfl (lv_room (Nat.le_of_ble_eq_true rfl)) dSi_judge_3 ⟨Nat.zero_le _, Nat.zero_le _⟩) hA hJ (fun B H locs hJ => ?_)
  refine lv_istore (lv' := [(4, .int q1), (0, .ref (A 5)), (1, .ref (A 3)), (2, .int x2), (3, .int x3)]) hx hb dSi_judge_6 hl (by decide) rfl (fun ls hl => ?_)
  refine lv_iload hx hb dSi_judge_8 (lv_at hl 0 rfl) ?_
  refine lv_iconst (v := (-1)) hx hb dSi_judge_10 (by decide) ?_
  refine lv_icmp_ne (tgt := 18) hx hb dSi_judge_11 (by decide) (fun c2 => ?_) (fun c2 => ?_)
  · replace h := jif_f c2 h
    refine lv_aload_n hx hb dSi_judge_18 rfl (lv_at hl 2 rfl) ?_
    refine lv_iload hx hb dSi_judge_19 (lv_at hl 0 rfl) ?_
    obtain ⟨q3, hq3, h⟩ := jbi_h h
    refine jcalli (w' := fun B => jW cA A B M F) (va_runV (As := [.int q1]) (rest := []) ⟨hx, hb, hml, hown, hts⟩ (cQu_rowsOf l dC dI cA A q1 M F B H.size hq3) (cwV 1 hts (jgoodV jw_522 jw_420 jw_421 jw_4 jw_422) rfl rfl rfl (by decide +kernel) ⟨Nat.le_of_ble_eq_true rfl, Nat.le_of_ble_eq_true rfl⟩) (jpreV hN hJ (ci := 3) (q0 := 3) rfl rfl) rfl rfl hl.1 rfl (lv_room (Nat.le_of_ble_eq_true rfl)) dSi_judge_21 ⟨Nat.zero_le _, Nat.zero_le _⟩) hA hJ (fun B H locs hJ => ?_)
    exact uSi_judge_24 l dC dI cA A Ap hC hA _ _ _ _ _ _ _ _ _ _ hJ (lv_sub hl [1, 2, 3, 4, 0] rfl) h
  · replace h := jif_t c2 h
    refine lv_iconst (v := 1) hx hb dSi_judge_14 (by decide) ?_
    refine lv_goto (tgt := 24) hx hb dSi_judge_15 (by decide) ?_
    exact uSi_judge_24 l dC dI cA A Ap hC hA _ _ _ _ _ _ _ _ _ _ hJ (lv_sub hl [1, 2, 3, 4, 0] rfl) h
set_option maxHeartbeats 4000000 in
set_option maxRecDepth 100000 in
theorem cSi_judge (l : Launch) (dC : Nat → ClassId) (dI : Nat → Nat → Nat) (cA : ClassId) (A : Nat → Nat) (x2 : Int32) (x3 : Int32) (M : jM) (F : jF) (B : Nat → Nat) (sz : Nat) {r : Int32} {M' : jM} {F' : jF} (h : fSi_judge x2 x3 M F = some (r, M', F')) : jCv l ySi_judge wSi_judge rSi_judge (dC, dI) jCl [(cA, .int)] [.ref (A 5), .ref (A 3), .int x2, .int x3] (jW cA A B M F) sz (fun B => jW cA A B (M') (F')) :=
  jOf (Qc := fun Ap => va_Qv (fun _ : Nat → Nat => True) (jPost (dC, dI) jCl [(cA, .int)] (fun B => jW cA A B (M') (F')) Ap) Ap) (by decide) rfl (Nat.le_of_ble_eq_true rfl) (fun p e s m below meth c Ap ls hC hA hJ hl => uSi_judge_0 l dC dI cA A Ap hC hA _ _ _ _ _ _ _ _ hJ (lv_sub hl [0, 1, 2, 3] rfl) h)
abbrev bSi_prepare : ByteArray := prog_5_method_2_code
abbrev ySi_prepare : MethodName := ⟨RSi, "prepare", "(LJoinHouse$Query;II)V"⟩
abbrev wSi_prepare : List Cond := .code ySi_prepare bSi_prepare 5 none :: jw
theorem dSi_prepare_0 : decode bSi_prepare 0 = .ok (.aload_n 0, 1) := by decide +kernel
theorem dSi_prepare_1 : decode bSi_prepare 1 = .ok (.iconst 0, 1) := by decide +kernel
theorem dSi_prepare_2 : decode bSi_prepare 2 = .ok (.putfield 21, 3) := by decide +kernel
theorem dSi_prepare_5 : decode bSi_prepare 5 = .ok (.aload_n 0, 1) := by decide +kernel
theorem dSi_prepare_6 : decode bSi_prepare 6 = .ok (.iconst 1, 1) := by decide +kernel
theorem dSi_prepare_7 : decode bSi_prepare 7 = .ok (.aload_n 1, 1) := by decide +kernel
theorem dSi_prepare_8 : decode bSi_prepare 8 = .ok (.iload_n 2, 1) := by decide +kernel
theorem dSi_prepare_9 : decode bSi_prepare 9 = .ok (.invokevirtual 28, 3) := by decide +kernel
theorem dSi_prepare_12 : decode bSi_prepare 12 = .ok (.ishl, 1) := by decide +kernel
theorem dSi_prepare_13 : decode bSi_prepare 13 = .ok (.iconst 1, 1) := by decide +kernel
theorem dSi_prepare_14 : decode bSi_prepare 14 = .ok (.isub, 1) := by decide +kernel
theorem dSi_prepare_15 : decode bSi_prepare 15 = .ok (.putfield 25, 3) := by decide +kernel
theorem dSi_prepare_18 : decode bSi_prepare 18 = .ok (.iconst 0, 1) := by decide +kernel
theorem dSi_prepare_19 : decode bSi_prepare 19 = .ok (.istore 4, 2) := by decide +kernel
theorem dSi_prepare_21 : decode bSi_prepare 21 = .ok (.iload 4, 2) := by decide +kernel
theorem dSi_prepare_23 : decode bSi_prepare 23 = .ok (.aload_n 1, 1) := by decide +kernel
theorem dSi_prepare_24 : decode bSi_prepare 24 = .ok (.getfield 34, 3) := by decide +kernel
theorem dSi_prepare_27 : decode bSi_prepare 27 = .ok (.if_icmp .ge 49, 3) := by decide +kernel
theorem dSi_prepare_30 : decode bSi_prepare 30 = .ok (.aload_n 1, 1) := by decide +kernel
theorem dSi_prepare_31 : decode bSi_prepare 31 = .ok (.iload 4, 2) := by decide +kernel
theorem dSi_prepare_33 : decode bSi_prepare 33 = .ok (.iload_n 2, 1) := by decide +kernel
theorem dSi_prepare_34 : decode bSi_prepare 34 = .ok (.iload_n 3, 1) := by decide +kernel
theorem dSi_prepare_35 : decode bSi_prepare 35 = .ok (.invokevirtual 37, 3) := by decide +kernel
theorem dSi_prepare_38 : decode bSi_prepare 38 = .ok (.ifCond .eq 32, 3) := by decide +kernel
theorem dSi_prepare_41 : decode bSi_prepare 41 = .ok (.aload_n 0, 1) := by decide +kernel
theorem dSi_prepare_42 : decode bSi_prepare 42 = .ok (.getfield 9, 3) := by decide +kernel
theorem dSi_prepare_45 : decode bSi_prepare 45 = .ok (.aload_n 0, 1) := by decide +kernel
theorem dSi_prepare_46 : decode bSi_prepare 46 = .ok (.getfield 21, 3) := by decide +kernel
theorem dSi_prepare_49 : decode bSi_prepare 49 = .ok (.iload 4, 2) := by decide +kernel
theorem dSi_prepare_51 : decode bSi_prepare 51 = .ok (.iastore, 1) := by decide +kernel
theorem dSi_prepare_52 : decode bSi_prepare 52 = .ok (.aload_n 0, 1) := by decide +kernel
theorem dSi_prepare_53 : decode bSi_prepare 53 = .ok (.dup, 1) := by decide +kernel
theorem dSi_prepare_54 : decode bSi_prepare 54 = .ok (.getfield 21, 3) := by decide +kernel
theorem dSi_prepare_57 : decode bSi_prepare 57 = .ok (.iconst 1, 1) := by decide +kernel
theorem dSi_prepare_58 : decode bSi_prepare 58 = .ok (.iadd, 1) := by decide +kernel
theorem dSi_prepare_59 : decode bSi_prepare 59 = .ok (.putfield 21, 3) := by decide +kernel
theorem dSi_prepare_62 : decode bSi_prepare 62 = .ok (.aload_n 0, 1) := by decide +kernel
theorem dSi_prepare_63 : decode bSi_prepare 63 = .ok (.aload_n 1, 1) := by decide +kernel
theorem dSi_prepare_64 : decode bSi_prepare 64 = .ok (.iload 4, 2) := by decide +kernel
theorem dSi_prepare_66 : decode bSi_prepare 66 = .ok (.iload_n 2, 1) := by decide +kernel
theorem dSi_prepare_67 : decode bSi_prepare 67 = .ok (.invokevirtual 41, 3) := by decide +kernel
theorem dSi_prepare_70 : decode bSi_prepare 70 = .ok (.iinc 4 1, 3) := by decide +kernel
theorem dSi_prepare_73 : decode bSi_prepare 73 = .ok (.goto (-52), 3) := by decide +kernel
theorem dSi_prepare_76 : decode bSi_prepare 76 = .ok (.return_, 1) := by decide +kernel
abbrev rSi_prepare : Room := { frames := 4, cells := 0, slots := 0, locals := 105 }
def fSi_prepare_21 : Nat → Int32 → Int32 → Int32 → jM → jF → Option (Int32 × jM × jF)
  | 0, _, _, _, _, _ => none
  | n + 1, x2, x3, x4, M, F => (if (F 1) ≤ x4 then some (0, M, F) else ((fQu_isJudgedAt x4 x2 x3 M F).bind fun q3 => (if q3 = 0 then fSi_prepare_21 n x2 x3 (x4 + 1) M F else (if jib (F 2) 12 then ((fSi_judge x4 x2 (jmu M 20 (F 2).toNatClampNeg x4) (jfu F 2 ((F 2) + 1))).bind fun q6 => fSi_prepare_21 n x2 x3 (x4 + 1) q6.2.1 q6.2.2) else none))))
def fSi_prepare_0 (x2 : Int32) (x3 : Int32) (M : jM) (F : jF) : Option (Int32 × jM × jF) := ((fQu_rowsOf x2 M (jfu F 2 0)).bind fun q1 => fSi_prepare_21 jfuel x2 x3 0 M (jfu (jfu F 2 0) 3 ((1 <<< (q1 &&& 31)) - 1)))
abbrev fSi_prepare (x2 : Int32) (x3 : Int32) (M : jM) (F : jF) : Option (Int32 × jM × jF) := fSi_prepare_0 x2 x3 M F
set_option maxHeartbeats 4000000 in
set_option maxRecDepth 100000 in
theorem uSi_prepare_21 {p : Program} {e : Env} {s : State} {m : MethodId} {args : Array Value} {below : List Frame} {meth : Method} {c : Code} (l : Launch) (dC : Nat → ClassId) (dI : Nat → Nat → Nat) (cA : ClassId) (A : Nat → Nat) (Ap : Nat → Prop) (hC : jAt p s m args meth c bSi_prepare 5 none wSi_prepare RSi) (hA : ∀ q : Nat, s.heap.size ≤ q → Ap q) {r : Int32} {M' : jM} {F' : jF} : ∀ (n : Nat) (x2 x3 x4 : Int32) (M : jM) (F : jF) (B : Nat → Nat) (H : Heap) (locs : List Loc) (ls : Array Slot), jH (dC, dI) jCl [(cA, .int)] (jW cA A B M F) Ap s H locs → lv_has ls 5 [(0, .ref (A 5)), (1, .ref (A 3)), (2, .int x2), (3, .int x3), (4, .int x4)] → fSi_prepare_21 n x2 x3 x4 M F = some (r, M', F') → W p l e (headSpec wSi_prepare rSi_prepare).room s m args below meth c H locs 0 0 (jQv below (dC, dI) jCl [(cA, .int)] (fun B => jW cA A B (M') (F')) Ap args s) (F0 m 21 ls []) := by
  obtain ⟨hx, hb, hml, hr, hts, hown, hlocks, hN⟩ := id hC
  have hj : ∀ w ∈ jw, w.before args s = true := fun w h => hts w (List.mem_cons_of_mem _ h)
  intro n
  induction n with
  | zero =>
    intro x2 x3 x4 M F B H locs ls hJ hl h
    rw [fSi_prepare_21] at h
    cases h
  | succ n ih =>
    intro x2 x3 x4 M F B H locs ls hJ hl h
    rw [fSi_prepare_21] at h
    refine lv_iload hx hb dSi_prepare_21 (lv_at hl 4 rfl) ?_
    refine lv_aload_n hx hb dSi_prepare_23 rfl (lv_at hl 1 rfl) ?_
    refine va_getN (D := (dC, dI)) (ci := 3) (v := .int (F 1)) (C := RQu) (T := TQu) (N := 10) hx hb hj iQu hown hJ.1 hJ.2.1 3 rfl rfl 9 (by decide) (jnw_use hN jnw_9) (fun _ h9 => h9) rfl dSi_prepare_24 ?_
    refine lv_icmp_ge (tgt := 76) hx hb dSi_prepare_27 (by decide) (fun c2 => ?_) (fun c2 => ?_)
    · replace h := jif_t c2 h
      cases h
      exact jretv (u := B) hx hb hr hlocks hJ dSi_prepare_76
    · replace h := jif_f c2 h
      refine lv_aload_n hx hb dSi_prepare_30 rfl (lv_at hl 1 rfl) ?_
      refine lv_iload hx hb dSi_prepare_31 (lv_at hl 4 rfl) ?_
      refine lv_iload_n hx hb dSi_prepare_33 rfl (lv_at hl 2 rfl) ?_
      refine lv_iload_n hx hb dSi_prepare_34 rfl (lv_at hl 3 rfl) ?_
      obtain ⟨q3, hq3, h⟩ := jbi_h h
      refine jcalli (w' := fun B => jW cA A B M F) (va_runV (As := [.int x4, .int x2, .int x3]) (rest := []) ⟨hx, hb, hml, hown, hts⟩ (cQu_isJudgedAt l dC dI cA A x4 x2 x3 M F B H.size hq3) (cwV 3 hts (jgoodV jw_523 jw_475 jw_476 jw_4 jw_477) rfl rfl rfl (by decide +kernel) ⟨Nat.le_of_ble_eq_true rfl, Nat.le_of_ble_eq_true rfl⟩) (jpreV hN hJ (ci := 3) (q0 := 3) rfl rfl) rfl rfl hl.1 rfl (lv_room (Nat.le_of_ble_eq_true rfl)) dSi_prepare_35 ⟨Nat.zero_le _, Nat.zero_le _⟩) hA hJ (fun B H locs hJ => ?_)
      refine lv_if_eq (tgt := 70) hx hb dSi_prepare_38 (by decide) (fun c4 => ?_) (fun c4 => ?_)
      · replace h := jif_t c4 h
        refine lv_iinc (v := x4 + 1) (lv' := [(4, .int (x4 + 1)), (0, .ref (A 5)), (1, .ref (A 3)), (2, .int x2), (3, .int x3)]) hx hb dSi_prepare_70 hl (k := 4) rfl rfl (by decide) rfl (fun ls hl => ?_)
        refine lv_goto (tgt := 21) hx hb dSi_prepare_73 (by decide) ?_
        exact ih _ _ _ _ _ _ _ _ _ hJ (lv_sub hl [1, 2, 3, 4, 0] rfl) h
      · replace h := jif_f c4 h
        refine lv_aload_n hx hb dSi_prepare_41 rfl (lv_at hl 0 rfl) ?_
        refine va_get (D := (dC, dI)) (ci := 5) (v := .ref (A 20)) (C := RSi) (T := TSi) (N := 5) hx hb hj iSi hown hJ.1 hJ.2.1 5 rfl rfl 0 (by decide) (hj _ jw_125) (fun _ h9 => h9) rfl dSi_prepare_42 ?_
        refine lv_aload_n hx hb dSi_prepare_45 rfl (lv_at hl 0 rfl) ?_
        refine va_get (D := (dC, dI)) (ci := 5) (v := .int (F 2)) (C := RSi) (T := TSi) (N := 5) hx hb hj iSi hown hJ.1 hJ.2.1 5 rfl rfl 3 (by decide) (hj _ jw_128) (fun _ h9 => h9) rfl dSi_prepare_46 ?_
        refine lv_iload hx hb dSi_prepare_49 (lv_at hl 4 rfl) ?_
        obtain ⟨hi5, h⟩ := jib_h h
        refine jast_20 hx hb hJ hi5 dSi_prepare_51 (fun H locs hJ => ?_)
        refine lv_aload_n hx hb dSi_prepare_52 rfl (lv_at hl 0 rfl) ?_
        refine lv_dup hx hb dSi_prepare_53 rfl ?_
        refine va_get (D := (dC, dI)) (ci := 5) (v := .int (F 2)) (C := RSi) (T := TSi) (N := 5) hx hb hj iSi hown hJ.1 hJ.2.1 5 rfl rfl 3 (by decide) (hj _ jw_128) (fun _ h9 => h9) rfl dSi_prepare_54 ?_
        refine lv_iconst (v := 1) hx hb dSi_prepare_57 (by decide) ?_
        refine lv_iadd hx hb dSi_prepare_58 ?_
        refine va_put (D := (dC, dI)) (ci := 5) (v := .int ((F 2) + 1)) (ty := .int) (C := RSi) (T := TSi) (N := 5) hx hb hj iSi tSi tSi_ok nSi hown hJ.1 hJ.2.1 hJ.2.2.1 hJ.2.2.2 5 rfl rfl 3 (by decide) (hj _ jw_128) (fun _ h9 => h9) rfl (by decide +kernel) rfl rfl (Nat.le_of_ble_eq_true rfl) dSi_prepare_59 (fun H locs hP hD hS => ?_)
        replace hJ : jH (dC, dI) jCl [(cA, .int)] (jW cA A B (jmu M 20 (F 2).toNatClampNeg x4) (jfu F 2 ((F 2) + 1))) Ap s H locs := ⟨hJ.1, hP, hD, hS⟩
        refine lv_aload_n hx hb dSi_prepare_62 rfl (lv_at hl 0 rfl) ?_
        refine lv_aload_n hx hb dSi_prepare_63 rfl (lv_at hl 1 rfl) ?_
        refine lv_iload hx hb dSi_prepare_64 (lv_at hl 4 rfl) ?_
        refine lv_iload_n hx hb dSi_prepare_66 rfl (lv_at hl 2 rfl) ?_
        obtain ⟨q6, hq6, h⟩ := jbi_h h
        refine jcallv (w' := fun B => jW cA A B q6.2.1 q6.2.2) (va_runV (As := [.ref (A 3), .int x4, .int x2]) (rest := []) ⟨hx, hb, hml, hown, hts⟩ (cSi_judge l dC dI cA A x4 x2 (jmu M 20 (F 2).toNatClampNeg x4) (jfu F 2 ((F 2) + 1)) B H.size hq6) (cwV 3 hts (jgoodV jw_524 jw_526 jws_11 jw_6 jw_527) rfl rfl rfl (by decide +kernel) ⟨Nat.le_of_ble_eq_true rfl, Nat.le_of_ble_eq_true rfl⟩) (jpreV hN hJ (ci := 5) (q0 := 5) rfl rfl) rfl rfl hl.1 rfl (lv_room (Nat.le_of_ble_eq_true rfl)) dSi_prepare_67 ⟨Nat.zero_le _, Nat.zero_le _⟩) hA hJ (fun B7 H locs hJ => ?_)
        refine lv_iinc (v := x4 + 1) (lv' := [(4, .int (x4 + 1)), (0, .ref (A 5)), (1, .ref (A 3)), (2, .int x2), (3, .int x3)]) hx hb dSi_prepare_70 hl (k := 4) rfl rfl (by decide) rfl (fun ls hl => ?_)
        refine lv_goto (tgt := 21) hx hb dSi_prepare_73 (by decide) ?_
        exact ih _ _ _ _ _ _ _ _ _ hJ (lv_sub hl [1, 2, 3, 4, 0] rfl) h
set_option maxHeartbeats 4000000 in
set_option maxRecDepth 100000 in
theorem uSi_prepare_0 {p : Program} {e : Env} {s : State} {m : MethodId} {args : Array Value} {below : List Frame} {meth : Method} {c : Code} (l : Launch) (dC : Nat → ClassId) (dI : Nat → Nat → Nat) (cA : ClassId) (A : Nat → Nat) (Ap : Nat → Prop) (hC : jAt p s m args meth c bSi_prepare 5 none wSi_prepare RSi) (hA : ∀ q : Nat, s.heap.size ≤ q → Ap q) {r : Int32} {M' : jM} {F' : jF} : ∀ (x2 x3 : Int32) (M : jM) (F : jF) (B : Nat → Nat) (H : Heap) (locs : List Loc) (ls : Array Slot), jH (dC, dI) jCl [(cA, .int)] (jW cA A B M F) Ap s H locs → lv_has ls 5 [(0, .ref (A 5)), (1, .ref (A 3)), (2, .int x2), (3, .int x3)] → fSi_prepare_0 x2 x3 M F = some (r, M', F') → W p l e (headSpec wSi_prepare rSi_prepare).room s m args below meth c H locs 0 0 (jQv below (dC, dI) jCl [(cA, .int)] (fun B => jW cA A B (M') (F')) Ap args s) (F0 m 0 ls []) := by
  obtain ⟨hx, hb, hml, hr, hts, hown, hlocks, hN⟩ := id hC
  have hj : ∀ w ∈ jw, w.before args s = true := fun w h => hts w (List.mem_cons_of_mem _ h)
  intro x2 x3 M F B H locs ls hJ hl h
  unfold fSi_prepare_0 at h
  refine lv_aload_n hx hb dSi_prepare_0 rfl (lv_at hl 0 rfl) ?_
  refine lv_iconst (v := 0) hx hb dSi_prepare_1 (by decide) ?_
  refine va_put (D := (dC, dI)) (ci := 5) (v := .int 0) (ty := .int) (C := RSi) (T := TSi) (N := 5) hx hb hj iSi tSi tSi_ok nSi hown hJ.1 hJ.2.1 hJ.2.2.1 hJ.2.2.2 5 rfl rfl 3 (by decide) (hj _ jw_128) (fun _ h9 => h9) rfl (by decide +kernel) rfl rfl (Nat.le_of_ble_eq_true rfl) dSi_prepare_2 (fun H locs hP hD hS => ?_)
  replace hJ : jH (dC, dI) jCl [(cA, .int)] (jW cA A B M (jfu F 2 0)) Ap s H locs := ⟨hJ.1, hP, hD, hS⟩
  refine lv_aload_n hx hb dSi_prepare_5 rfl (lv_at hl 0 rfl) ?_
  refine lv_iconst (v := 1) hx hb dSi_prepare_6 (by decide) ?_
  refine lv_aload_n hx hb dSi_prepare_7 rfl (lv_at hl 1 rfl) ?_
  refine lv_iload_n hx hb dSi_prepare_8 rfl (lv_at hl 2 rfl) ?_
  obtain ⟨q1, hq1, h⟩ := jbi_h h
  refine jcalli (w' := fun B => jW cA A B M (jfu F 2 0)) (va_runV (As := [.int x2]) (rest := [.int 1, .ref (A 5)]) ⟨hx, hb, hml, hown, hts⟩ (cQu_rowsOf l dC dI cA A x2 M (jfu F 2 0) B H.size hq1) (cwV 1 hts (jgoodV jw_522 jw_420 jw_421 jw_4 jw_422) rfl rfl rfl (by decide +kernel) ⟨Nat.le_of_ble_eq_true rfl, Nat.le_of_ble_eq_true rfl⟩) (jpreV hN hJ (ci := 3) (q0 := 3) rfl rfl) rfl rfl hl.1 rfl (lv_room (Nat.le_of_ble_eq_true rfl)) dSi_prepare_9 ⟨Nat.zero_le _, Nat.zero_le _⟩) hA hJ (fun B H locs hJ => ?_)
  refine lv_ishl hx hb dSi_prepare_12 ?_
  refine lv_iconst (v := 1) hx hb dSi_prepare_13 (by decide) ?_
  refine lv_isub hx hb dSi_prepare_14 ?_
  refine va_put (D := (dC, dI)) (ci := 5) (v := .int ((1 <<< (q1 &&& 31)) - 1)) (ty := .int) (C := RSi) (T := TSi) (N := 5) hx hb hj iSi tSi tSi_ok nSi hown hJ.1 hJ.2.1 hJ.2.2.1 hJ.2.2.2 5 rfl rfl 4 (by decide) (hj _ jw_129) (fun _ h9 => h9) rfl (by decide +kernel) rfl rfl (Nat.le_of_ble_eq_true rfl) dSi_prepare_15 (fun H locs hP hD hS => ?_)
  replace hJ : jH (dC, dI) jCl [(cA, .int)] (jW cA A B M (jfu (jfu F 2 0) 3 ((1 <<< (q1 &&& 31)) - 1))) Ap s H locs := ⟨hJ.1, hP, hD, hS⟩
  refine lv_iconst (v := 0) hx hb dSi_prepare_18 (by decide) ?_
  refine lv_istore (lv' := [(4, .int 0), (0, .ref (A 5)), (1, .ref (A 3)), (2, .int x2), (3, .int x3)]) hx hb dSi_prepare_19 hl (by decide) rfl (fun ls hl => ?_)
  exact uSi_prepare_21 l dC dI cA A Ap hC hA jfuel _ _ _ _ _ _ _ _ _ hJ (lv_sub hl [1, 2, 3, 4, 0] rfl) h
set_option maxHeartbeats 4000000 in
set_option maxRecDepth 100000 in
theorem cSi_prepare (l : Launch) (dC : Nat → ClassId) (dI : Nat → Nat → Nat) (cA : ClassId) (A : Nat → Nat) (x2 : Int32) (x3 : Int32) (M : jM) (F : jF) (B : Nat → Nat) (sz : Nat) {r : Int32} {M' : jM} {F' : jF} (h : fSi_prepare x2 x3 M F = some (r, M', F')) : jCv l ySi_prepare wSi_prepare rSi_prepare (dC, dI) jCl [(cA, .int)] [.ref (A 5), .ref (A 3), .int x2, .int x3] (jW cA A B M F) sz (fun B => jW cA A B (M') (F')) :=
  jOf (Qc := fun Ap => va_Qv (fun _ : Nat → Nat => True) (jPost (dC, dI) jCl [(cA, .int)] (fun B => jW cA A B (M') (F')) Ap) Ap) (by decide) rfl (Nat.le_of_ble_eq_true rfl) (fun p e s m below meth c Ap ls hC hA hJ hl => uSi_prepare_0 l dC dI cA A Ap hC hA _ _ _ _ _ _ _ _ hJ (lv_sub hl [0, 1, 2, 3] rfl) h)
abbrev bSi_letThroughBy : ByteArray := prog_5_method_3_code
abbrev ySi_letThroughBy : MethodName := ⟨RSi, "letThroughBy", "(II)I"⟩
abbrev wSi_letThroughBy : List Cond := .code ySi_letThroughBy bSi_letThroughBy 5 (some .int) :: jw
theorem dSi_letThroughBy_0 : decode bSi_letThroughBy 0 = .ok (.aload_n 0, 1) := by decide +kernel
theorem dSi_letThroughBy_1 : decode bSi_letThroughBy 1 = .ok (.getfield 15, 3) := by decide +kernel
theorem dSi_letThroughBy_4 : decode bSi_letThroughBy 4 = .ok (.iload_n 1, 1) := by decide +kernel
theorem dSi_letThroughBy_5 : decode bSi_letThroughBy 5 = .ok (.iaload, 1) := by decide +kernel
theorem dSi_letThroughBy_6 : decode bSi_letThroughBy 6 = .ok (.istore_n 3, 1) := by decide +kernel
theorem dSi_letThroughBy_7 : decode bSi_letThroughBy 7 = .ok (.iload_n 3, 1) := by decide +kernel
theorem dSi_letThroughBy_8 : decode bSi_letThroughBy 8 = .ok (.iconst (-1), 1) := by decide +kernel
theorem dSi_letThroughBy_9 : decode bSi_letThroughBy 9 = .ok (.if_icmp .ne 7, 3) := by decide +kernel
theorem dSi_letThroughBy_12 : decode bSi_letThroughBy 12 = .ok (.iconst 0, 1) := by decide +kernel
theorem dSi_letThroughBy_13 : decode bSi_letThroughBy 13 = .ok (.goto 8, 3) := by decide +kernel
theorem dSi_letThroughBy_16 : decode bSi_letThroughBy 16 = .ok (.iload_n 2, 1) := by decide +kernel
theorem dSi_letThroughBy_17 : decode bSi_letThroughBy 17 = .ok (.iload_n 3, 1) := by decide +kernel
theorem dSi_letThroughBy_18 : decode bSi_letThroughBy 18 = .ok (.invokestatic 45, 3) := by decide +kernel
theorem dSi_letThroughBy_21 : decode bSi_letThroughBy 21 = .ok (.istore 4, 2) := by decide +kernel
theorem dSi_letThroughBy_23 : decode bSi_letThroughBy 23 = .ok (.aload_n 0, 1) := by decide +kernel
theorem dSi_letThroughBy_24 : decode bSi_letThroughBy 24 = .ok (.getfield 18, 3) := by decide +kernel
theorem dSi_letThroughBy_27 : decode bSi_letThroughBy 27 = .ok (.iload_n 1, 1) := by decide +kernel
theorem dSi_letThroughBy_28 : decode bSi_letThroughBy 28 = .ok (.bipush 32, 2) := by decide +kernel
theorem dSi_letThroughBy_30 : decode bSi_letThroughBy 30 = .ok (.imul, 1) := by decide +kernel
theorem dSi_letThroughBy_31 : decode bSi_letThroughBy 31 = .ok (.iload 4, 2) := by decide +kernel
theorem dSi_letThroughBy_33 : decode bSi_letThroughBy 33 = .ok (.iadd, 1) := by decide +kernel
theorem dSi_letThroughBy_34 : decode bSi_letThroughBy 34 = .ok (.iaload, 1) := by decide +kernel
theorem dSi_letThroughBy_35 : decode bSi_letThroughBy 35 = .ok (.ireturn, 1) := by decide +kernel
abbrev rSi_letThroughBy : Room := { frames := 1, cells := 0, slots := 0, locals := 21 }
def fSi_letThroughBy_21 (x1 : Int32) (s0 : Int32) (M : jM) (F : jF) : Option Int32 := (if jib ((x1 * 32) + s0) 384 then some (M 22 ((x1 * 32) + s0).toNatClampNeg) else none)
def fSi_letThroughBy_0 (x1 : Int32) (x2 : Int32) (M : jM) (F : jF) : Option Int32 := (if jib x1 12 then (if (M 21 x1.toNatClampNeg) = (-1) then fSi_letThroughBy_21 x1 0 M F else ((fJh_rowIn x2 (M 21 x1.toNatClampNeg) M F).bind fun q3 => fSi_letThroughBy_21 x1 q3 M F)) else none)
abbrev fSi_letThroughBy (x1 : Int32) (x2 : Int32) (M : jM) (F : jF) : Option Int32 := fSi_letThroughBy_0 x1 x2 M F
set_option maxHeartbeats 4000000 in
set_option maxRecDepth 100000 in
theorem uSi_letThroughBy_21 {p : Program} {e : Env} {s : State} {m : MethodId} {args : Array Value} {below : List Frame} {meth : Method} {c : Code} (l : Launch) (dC : Nat → ClassId) (dI : Nat → Nat → Nat) (cA : ClassId) (A : Nat → Nat) (Ap : Nat → Prop) (hC : jAt p s m args meth c bSi_letThroughBy 5 (some .int) wSi_letThroughBy RSi) (hA : ∀ q : Nat, s.heap.size ≤ q → Ap q) {r : Int32} : ∀ (x1 s0 : Int32) (M : jM) (F : jF) (B : Nat → Nat) (H : Heap) (locs : List Loc) (ls : Array Slot), jH (dC, dI) jCl [(cA, .int)] (jW cA A B M F) Ap s H locs → lv_has ls 5 [(0, .ref (A 5)), (1, .int x1)] → fSi_letThroughBy_21 x1 s0 M F = some r → W p l e (headSpec wSi_letThroughBy rSi_letThroughBy).room s m args below meth c H locs 0 0 (jQi below (dC, dI) jCl [(cA, .int)] (fun B => jW cA A B M F) Ap args s r) (F0 m 21 ls [.int s0]) := by
  obtain ⟨hx, hb, hml, hr, hts, hown, hlocks, hN⟩ := id hC
  have hj : ∀ w ∈ jw, w.before args s = true := fun w h => hts w (List.mem_cons_of_mem _ h)
  intro x1 s0 M F B H locs ls hJ hl h
  unfold fSi_letThroughBy_21 at h
  refine lv_istore (lv' := [(4, .int s0), (0, .ref (A 5)), (1, .int x1)]) hx hb dSi_letThroughBy_21 hl (by decide) rfl (fun ls hl => ?_)
  refine lv_aload_n hx hb dSi_letThroughBy_23 rfl (lv_at hl 1 rfl) ?_
  refine va_get (D := (dC, dI)) (ci := 5) (v := .ref (A 22)) (C := RSi) (T := TSi) (N := 5) hx hb hj iSi hown hJ.1 hJ.2.1 5 rfl rfl 2 (by decide) (hj _ jw_127) (fun _ h9 => h9) rfl dSi_letThroughBy_24 ?_
  refine lv_iload_n hx hb dSi_letThroughBy_27 rfl (lv_at hl 2 rfl) ?_
  refine lv_bipush (v := 32) hx hb dSi_letThroughBy_28 (by decide) ?_
  refine lv_imul hx hb dSi_letThroughBy_30 ?_
  refine lv_iload hx hb dSi_letThroughBy_31 (lv_at hl 0 rfl) ?_
  refine lv_iadd hx hb dSi_letThroughBy_33 ?_
  obtain ⟨hi4, h⟩ := jib_h h
  refine jald_22 hx hb hJ hi4 dSi_letThroughBy_34 ?_
  exact jreti (u := B) hx hb hr rfl hlocks hJ dSi_letThroughBy_35 (Option.some.inj h)
set_option maxHeartbeats 4000000 in
set_option maxRecDepth 100000 in
theorem uSi_letThroughBy_0 {p : Program} {e : Env} {s : State} {m : MethodId} {args : Array Value} {below : List Frame} {meth : Method} {c : Code} (l : Launch) (dC : Nat → ClassId) (dI : Nat → Nat → Nat) (cA : ClassId) (A : Nat → Nat) (Ap : Nat → Prop) (hC : jAt p s m args meth c bSi_letThroughBy 5 (some .int) wSi_letThroughBy RSi) (hA : ∀ q : Nat, s.heap.size ≤ q → Ap q) {r : Int32} : ∀ (x1 x2 : Int32) (M : jM) (F : jF) (B : Nat → Nat) (H : Heap) (locs : List Loc) (ls : Array Slot), jH (dC, dI) jCl [(cA, .int)] (jW cA A B M F) Ap s H locs → lv_has ls 5 [(0, .ref (A 5)), (1, .int x1), (2, .int x2)] → fSi_letThroughBy_0 x1 x2 M F = some r → W p l e (headSpec wSi_letThroughBy rSi_letThroughBy).room s m args below meth c H locs 0 0 (jQi below (dC, dI) jCl [(cA, .int)] (fun B => jW cA A B M F) Ap args s r) (F0 m 0 ls []) := by
  obtain ⟨hx, hb, hml, hr, hts, hown, hlocks, hN⟩ := id hC
  have hj : ∀ w ∈ jw, w.before args s = true := fun w h => hts w (List.mem_cons_of_mem _ h)
  intro x1 x2 M F B H locs ls hJ hl h
  unfold fSi_letThroughBy_0 at h
  refine lv_aload_n hx hb dSi_letThroughBy_0 rfl (lv_at hl 0 rfl) ?_
  refine va_get (D := (dC, dI)) (ci := 5) (v := .ref (A 21)) (C := RSi) (T := TSi) (N := 5) hx hb hj iSi hown hJ.1 hJ.2.1 5 rfl rfl 1 (by decide) (hj _ jw_126) (fun _ h9 => h9) rfl dSi_letThroughBy_1 ?_
  refine lv_iload_n hx hb dSi_letThroughBy_4 rfl (lv_at hl 1 rfl) ?_
  obtain ⟨hi1, h⟩ := jib_h h
  refine jald_21 hx hb hJ hi1 dSi_letThroughBy_5 ?_
  refine lv_istore_n (lv' := [(3, .int (M 21 x1.toNatClampNeg)), (0, .ref (A 5)), (1, .int x1), (2, .int x2)]) hx hb dSi_letThroughBy_6 rfl hl (by decide) rfl (fun ls hl => ?_)
  refine lv_iload_n hx hb dSi_letThroughBy_7 rfl (lv_at hl 0 rfl) ?_
  refine lv_iconst (v := (-1)) hx hb dSi_letThroughBy_8 (by decide) ?_
  refine lv_icmp_ne (tgt := 16) hx hb dSi_letThroughBy_9 (by decide) (fun c2 => ?_) (fun c2 => ?_)
  · replace h := jif_f c2 h
    refine lv_iload_n hx hb dSi_letThroughBy_16 rfl (lv_at hl 3 rfl) ?_
    refine lv_iload_n hx hb dSi_letThroughBy_17 rfl (lv_at hl 0 rfl) ?_
    obtain ⟨q3, hq3, h⟩ := jbi_h h
    refine jcalli (w' := fun B => jW cA A B M F) (va_runSN (As := [.int x2, .int (M 21 x1.toNatClampNeg)]) (rest := []) ⟨hx, hb, hml, hown, hts⟩ (cJh_rowIn l dC dI cA A x2 (M 21 x1.toNatClampNeg) M F B H.size hq3) ⟨va_cnB 2 hts (jgood jw_550) rfl rfl rfl (hN _ jnw_23) (hj _ jw_1) (by decide +kernel) ⟨Nat.le_of_ble_eq_true rfl, Nat.le_of_ble_eq_true rfl⟩, hj _ jw_549, trivial⟩ (jpreS hN hJ) rfl rfl hl.1 rfl (lv_room (Nat.le_of_ble_eq_true rfl)) dSi_letThroughBy_18 ⟨Nat.zero_le _, Nat.zero_le _⟩) hA hJ (fun B H locs hJ => ?_)
    exact uSi_letThroughBy_21 l dC dI cA A Ap hC hA _ _ _ _ _ _ _ _ hJ (lv_sub hl [1, 2] rfl) h
  · replace h := jif_t c2 h
    refine lv_iconst (v := 0) hx hb dSi_letThroughBy_12 (by decide) ?_
    refine lv_goto (tgt := 21) hx hb dSi_letThroughBy_13 (by decide) ?_
    exact uSi_letThroughBy_21 l dC dI cA A Ap hC hA _ _ _ _ _ _ _ _ hJ (lv_sub hl [1, 2] rfl) h
set_option maxHeartbeats 4000000 in
set_option maxRecDepth 100000 in
theorem cSi_letThroughBy (l : Launch) (dC : Nat → ClassId) (dI : Nat → Nat → Nat) (cA : ClassId) (A : Nat → Nat) (x1 : Int32) (x2 : Int32) (M : jM) (F : jF) (B : Nat → Nat) (sz : Nat) {r : Int32} (h : fSi_letThroughBy x1 x2 M F = some r) : jCi l ySi_letThroughBy wSi_letThroughBy rSi_letThroughBy (dC, dI) jCl [(cA, .int)] [.ref (A 5), .int x1, .int x2] (jW cA A B M F) sz r (fun B => jW cA A B M F) :=
  jOf (Qc := fun Ap => va_Qi (fun q (_ : Nat → Nat) => q = r) (jPost (dC, dI) jCl [(cA, .int)] (fun B => jW cA A B M F) Ap) Ap) (by decide) rfl (Nat.le_of_ble_eq_true rfl) (fun p e s m below meth c Ap ls hC hA hJ hl => uSi_letThroughBy_0 l dC dI cA A Ap hC hA _ _ _ _ _ _ _ _ hJ (lv_sub hl [0, 1, 2] rfl) h)
abbrev bSi_letThrough : ByteArray := prog_5_method_4_code
abbrev ySi_letThrough : MethodName := ⟨RSi, "letThrough", "(I)I"⟩
abbrev wSi_letThrough : List Cond := .code ySi_letThrough bSi_letThrough 4 (some .int) :: jw
theorem dSi_letThrough_0 : decode bSi_letThrough 0 = .ok (.aload_n 0, 1) := by decide +kernel
theorem dSi_letThrough_1 : decode bSi_letThrough 1 = .ok (.getfield 25, 3) := by decide +kernel
theorem dSi_letThrough_4 : decode bSi_letThrough 4 = .ok (.istore_n 2, 1) := by decide +kernel
theorem dSi_letThrough_5 : decode bSi_letThrough 5 = .ok (.iconst 0, 1) := by decide +kernel
theorem dSi_letThrough_6 : decode bSi_letThrough 6 = .ok (.istore_n 3, 1) := by decide +kernel
theorem dSi_letThrough_7 : decode bSi_letThrough 7 = .ok (.iload_n 3, 1) := by decide +kernel
theorem dSi_letThrough_8 : decode bSi_letThrough 8 = .ok (.aload_n 0, 1) := by decide +kernel
theorem dSi_letThrough_9 : decode bSi_letThrough 9 = .ok (.getfield 21, 3) := by decide +kernel
theorem dSi_letThrough_12 : decode bSi_letThrough 12 = .ok (.if_icmp .ge 23, 3) := by decide +kernel
theorem dSi_letThrough_15 : decode bSi_letThrough 15 = .ok (.iload_n 2, 1) := by decide +kernel
theorem dSi_letThrough_16 : decode bSi_letThrough 16 = .ok (.aload_n 0, 1) := by decide +kernel
theorem dSi_letThrough_17 : decode bSi_letThrough 17 = .ok (.aload_n 0, 1) := by decide +kernel
theorem dSi_letThrough_18 : decode bSi_letThrough 18 = .ok (.getfield 9, 3) := by decide +kernel
theorem dSi_letThrough_21 : decode bSi_letThrough 21 = .ok (.iload_n 3, 1) := by decide +kernel
theorem dSi_letThrough_22 : decode bSi_letThrough 22 = .ok (.iaload, 1) := by decide +kernel
theorem dSi_letThrough_23 : decode bSi_letThrough 23 = .ok (.iload_n 1, 1) := by decide +kernel
theorem dSi_letThrough_24 : decode bSi_letThrough 24 = .ok (.invokevirtual 49, 3) := by decide +kernel
theorem dSi_letThrough_27 : decode bSi_letThrough 27 = .ok (.iand, 1) := by decide +kernel
theorem dSi_letThrough_28 : decode bSi_letThrough 28 = .ok (.istore_n 2, 1) := by decide +kernel
theorem dSi_letThrough_29 : decode bSi_letThrough 29 = .ok (.iinc 3 1, 3) := by decide +kernel
theorem dSi_letThrough_32 : decode bSi_letThrough 32 = .ok (.goto (-25), 3) := by decide +kernel
theorem dSi_letThrough_35 : decode bSi_letThrough 35 = .ok (.iload_n 2, 1) := by decide +kernel
theorem dSi_letThrough_36 : decode bSi_letThrough 36 = .ok (.ireturn, 1) := by decide +kernel
abbrev rSi_letThrough : Room := { frames := 2, cells := 0, slots := 0, locals := 45 }
def fSi_letThrough_7 : Nat → Int32 → Int32 → Int32 → jM → jF → Option Int32
  | 0, _, _, _, _, _ => none
  | n + 1, x1, x2, x3, M, F => (if (F 2) ≤ x3 then some x2 else (if jib x3 12 then ((fSi_letThroughBy (M 20 x3.toNatClampNeg) x1 M F).bind fun q3 => fSi_letThrough_7 n x1 (x2 &&& q3) (x3 + 1) M F) else none))
def fSi_letThrough_0 (x1 : Int32) (M : jM) (F : jF) : Option Int32 := fSi_letThrough_7 jfuel x1 (F 3) 0 M F
abbrev fSi_letThrough (x1 : Int32) (M : jM) (F : jF) : Option Int32 := fSi_letThrough_0 x1 M F
set_option maxHeartbeats 4000000 in
set_option maxRecDepth 100000 in
theorem uSi_letThrough_7 {p : Program} {e : Env} {s : State} {m : MethodId} {args : Array Value} {below : List Frame} {meth : Method} {c : Code} (l : Launch) (dC : Nat → ClassId) (dI : Nat → Nat → Nat) (cA : ClassId) (A : Nat → Nat) (Ap : Nat → Prop) (hC : jAt p s m args meth c bSi_letThrough 4 (some .int) wSi_letThrough RSi) (hA : ∀ q : Nat, s.heap.size ≤ q → Ap q) {r : Int32} : ∀ (n : Nat) (x1 x2 x3 : Int32) (M : jM) (F : jF) (B : Nat → Nat) (H : Heap) (locs : List Loc) (ls : Array Slot), jH (dC, dI) jCl [(cA, .int)] (jW cA A B M F) Ap s H locs → lv_has ls 4 [(0, .ref (A 5)), (1, .int x1), (2, .int x2), (3, .int x3)] → fSi_letThrough_7 n x1 x2 x3 M F = some r → W p l e (headSpec wSi_letThrough rSi_letThrough).room s m args below meth c H locs 0 0 (jQi below (dC, dI) jCl [(cA, .int)] (fun B => jW cA A B M F) Ap args s r) (F0 m 7 ls []) := by
  obtain ⟨hx, hb, hml, hr, hts, hown, hlocks, hN⟩ := id hC
  have hj : ∀ w ∈ jw, w.before args s = true := fun w h => hts w (List.mem_cons_of_mem _ h)
  intro n
  induction n with
  | zero =>
    intro x1 x2 x3 M F B H locs ls hJ hl h
    rw [fSi_letThrough_7] at h
    cases h
  | succ n ih =>
    intro x1 x2 x3 M F B H locs ls hJ hl h
    rw [fSi_letThrough_7] at h
    refine lv_iload_n hx hb dSi_letThrough_7 rfl (lv_at hl 3 rfl) ?_
    refine lv_aload_n hx hb dSi_letThrough_8 rfl (lv_at hl 0 rfl) ?_
    refine va_get (D := (dC, dI)) (ci := 5) (v := .int (F 2)) (C := RSi) (T := TSi) (N := 5) hx hb hj iSi hown hJ.1 hJ.2.1 5 rfl rfl 3 (by decide) (hj _ jw_128) (fun _ h9 => h9) rfl dSi_letThrough_9 ?_
    refine lv_icmp_ge (tgt := 35) hx hb dSi_letThrough_12 (by decide) (fun c1 => ?_) (fun c1 => ?_)
    · replace h := jif_t c1 h
      refine lv_iload_n hx hb dSi_letThrough_35 rfl (lv_at hl 2 rfl) ?_
      exact jreti (u := B) hx hb hr rfl hlocks hJ dSi_letThrough_36 (Option.some.inj h)
    · replace h := jif_f c1 h
      refine lv_iload_n hx hb dSi_letThrough_15 rfl (lv_at hl 2 rfl) ?_
      refine lv_aload_n hx hb dSi_letThrough_16 rfl (lv_at hl 0 rfl) ?_
      refine lv_aload_n hx hb dSi_letThrough_17 rfl (lv_at hl 0 rfl) ?_
      refine va_get (D := (dC, dI)) (ci := 5) (v := .ref (A 20)) (C := RSi) (T := TSi) (N := 5) hx hb hj iSi hown hJ.1 hJ.2.1 5 rfl rfl 0 (by decide) (hj _ jw_125) (fun _ h9 => h9) rfl dSi_letThrough_18 ?_
      refine lv_iload_n hx hb dSi_letThrough_21 rfl (lv_at hl 3 rfl) ?_
      obtain ⟨hi2, h⟩ := jib_h h
      refine jald_20 hx hb hJ hi2 dSi_letThrough_22 ?_
      refine lv_iload_n hx hb dSi_letThrough_23 rfl (lv_at hl 1 rfl) ?_
      obtain ⟨q3, hq3, h⟩ := jbi_h h
      refine jcalli (w' := fun B => jW cA A B M F) (va_runV (As := [.int (M 20 x3.toNatClampNeg), .int x1]) (rest := [.int x2]) ⟨hx, hb, hml, hown, hts⟩ (cSi_letThroughBy l dC dI cA A (M 20 x3.toNatClampNeg) x1 M F B H.size hq3) (cwV 2 hts (jgoodV jw_561 jw_545 jw_546 jw_6 jw_547) rfl rfl rfl (by decide +kernel) ⟨Nat.le_of_ble_eq_true rfl, Nat.le_of_ble_eq_true rfl⟩) (jpreV hN hJ (ci := 5) (q0 := 5) rfl rfl) rfl rfl hl.1 rfl (lv_room (Nat.le_of_ble_eq_true rfl)) dSi_letThrough_24 ⟨Nat.zero_le _, Nat.zero_le _⟩) hA hJ (fun B H locs hJ => ?_)
      refine lv_iand hx hb dSi_letThrough_27 ?_
      refine lv_istore_n (lv' := [(2, .int (x2 &&& q3)), (0, .ref (A 5)), (1, .int x1), (3, .int x3)]) hx hb dSi_letThrough_28 rfl hl (by decide) rfl (fun ls hl => ?_)
      refine lv_iinc (v := x3 + 1) (lv' := [(3, .int (x3 + 1)), (2, .int (x2 &&& q3)), (0, .ref (A 5)), (1, .int x1)]) hx hb dSi_letThrough_29 hl (k := 3) rfl rfl (by decide) rfl (fun ls hl => ?_)
      refine lv_goto (tgt := 7) hx hb dSi_letThrough_32 (by decide) ?_
      exact ih _ _ _ _ _ _ _ _ _ hJ (lv_sub hl [2, 3, 1, 0] rfl) h
set_option maxHeartbeats 4000000 in
set_option maxRecDepth 100000 in
theorem uSi_letThrough_0 {p : Program} {e : Env} {s : State} {m : MethodId} {args : Array Value} {below : List Frame} {meth : Method} {c : Code} (l : Launch) (dC : Nat → ClassId) (dI : Nat → Nat → Nat) (cA : ClassId) (A : Nat → Nat) (Ap : Nat → Prop) (hC : jAt p s m args meth c bSi_letThrough 4 (some .int) wSi_letThrough RSi) (hA : ∀ q : Nat, s.heap.size ≤ q → Ap q) {r : Int32} : ∀ (x1 : Int32) (M : jM) (F : jF) (B : Nat → Nat) (H : Heap) (locs : List Loc) (ls : Array Slot), jH (dC, dI) jCl [(cA, .int)] (jW cA A B M F) Ap s H locs → lv_has ls 4 [(0, .ref (A 5)), (1, .int x1)] → fSi_letThrough_0 x1 M F = some r → W p l e (headSpec wSi_letThrough rSi_letThrough).room s m args below meth c H locs 0 0 (jQi below (dC, dI) jCl [(cA, .int)] (fun B => jW cA A B M F) Ap args s r) (F0 m 0 ls []) := by
  obtain ⟨hx, hb, hml, hr, hts, hown, hlocks, hN⟩ := id hC
  have hj : ∀ w ∈ jw, w.before args s = true := fun w h => hts w (List.mem_cons_of_mem _ h)
  intro x1 M F B H locs ls hJ hl h
  unfold fSi_letThrough_0 at h
  refine lv_aload_n hx hb dSi_letThrough_0 rfl (lv_at hl 0 rfl) ?_
  refine va_get (D := (dC, dI)) (ci := 5) (v := .int (F 3)) (C := RSi) (T := TSi) (N := 5) hx hb hj iSi hown hJ.1 hJ.2.1 5 rfl rfl 4 (by decide) (hj _ jw_129) (fun _ h9 => h9) rfl dSi_letThrough_1 ?_
  refine lv_istore_n (lv' := [(2, .int (F 3)), (0, .ref (A 5)), (1, .int x1)]) hx hb dSi_letThrough_4 rfl hl (by decide) rfl (fun ls hl => ?_)
  refine lv_iconst (v := 0) hx hb dSi_letThrough_5 (by decide) ?_
  refine lv_istore_n (lv' := [(3, .int 0), (2, .int (F 3)), (0, .ref (A 5)), (1, .int x1)]) hx hb dSi_letThrough_6 rfl hl (by decide) rfl (fun ls hl => ?_)
  exact uSi_letThrough_7 l dC dI cA A Ap hC hA jfuel _ _ _ _ _ _ _ _ _ hJ (lv_sub hl [2, 3, 1, 0] rfl) h
set_option maxHeartbeats 4000000 in
set_option maxRecDepth 100000 in
theorem cSi_letThrough (l : Launch) (dC : Nat → ClassId) (dI : Nat → Nat → Nat) (cA : ClassId) (A : Nat → Nat) (x1 : Int32) (M : jM) (F : jF) (B : Nat → Nat) (sz : Nat) {r : Int32} (h : fSi_letThrough x1 M F = some r) : jCi l ySi_letThrough wSi_letThrough rSi_letThrough (dC, dI) jCl [(cA, .int)] [.ref (A 5), .int x1] (jW cA A B M F) sz r (fun B => jW cA A B M F) :=
  jOf (Qc := fun Ap => va_Qi (fun q (_ : Nat → Nat) => q = r) (jPost (dC, dI) jCl [(cA, .int)] (fun B => jW cA A B M F) Ap) Ap) (by decide) rfl (Nat.le_of_ble_eq_true rfl) (fun p e s m below meth c Ap ls hC hA hJ hl => uSi_letThrough_0 l dC dI cA A Ap hC hA _ _ _ _ _ _ _ hJ (lv_sub hl [0, 1] rfl) h)
