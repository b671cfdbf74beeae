abbrev bMo_sizeOf : ByteArray := prog_8_method_17_code
abbrev yMo_sizeOf : MethodName := ⟨RMo, "sizeOf", "(I)J"⟩
abbrev wMo_sizeOf : List Cond := .code yMo_sizeOf bMo_sizeOf 6 (some .long) :: jw
theorem dMo_sizeOf_0 : decode bMo_sizeOf 0 = .ok (.lconst 1, 1) := by decide +kernel
theorem dMo_sizeOf_1 : decode bMo_sizeOf 1 = .ok (.lstore_n 2, 1) := by decide +kernel
theorem dMo_sizeOf_2 : decode bMo_sizeOf 2 = .ok (.iconst 0, 1) := by decide +kernel
theorem dMo_sizeOf_3 : decode bMo_sizeOf 3 = .ok (.istore 4, 2) := by decide +kernel
theorem dMo_sizeOf_5 : decode bMo_sizeOf 5 = .ok (.iload 4, 2) := by decide +kernel
theorem dMo_sizeOf_7 : decode bMo_sizeOf 7 = .ok (.aload_n 0, 1) := by decide +kernel
theorem dMo_sizeOf_8 : decode bMo_sizeOf 8 = .ok (.getfield 64, 3) := by decide +kernel
theorem dMo_sizeOf_11 : decode bMo_sizeOf 11 = .ok (.if_icmp .ge 39, 3) := by decide +kernel
theorem dMo_sizeOf_14 : decode bMo_sizeOf 14 = .ok (.lload_n 2, 1) := by decide +kernel
theorem dMo_sizeOf_15 : decode bMo_sizeOf 15 = .ok (.iload_n 1, 1) := by decide +kernel
theorem dMo_sizeOf_16 : decode bMo_sizeOf 16 = .ok (.iload 4, 2) := by decide +kernel
theorem dMo_sizeOf_18 : decode bMo_sizeOf 18 = .ok (.ishr, 1) := by decide +kernel
theorem dMo_sizeOf_19 : decode bMo_sizeOf 19 = .ok (.iconst 1, 1) := by decide +kernel
theorem dMo_sizeOf_20 : decode bMo_sizeOf 20 = .ok (.iand, 1) := by decide +kernel
theorem dMo_sizeOf_21 : decode bMo_sizeOf 21 = .ok (.iconst 1, 1) := by decide +kernel
theorem dMo_sizeOf_22 : decode bMo_sizeOf 22 = .ok (.if_icmp .ne 19, 3) := by decide +kernel
theorem dMo_sizeOf_25 : decode bMo_sizeOf 25 = .ok (.aload_n 0, 1) := by decide +kernel
theorem dMo_sizeOf_26 : decode bMo_sizeOf 26 = .ok (.getfield 13, 3) := by decide +kernel
theorem dMo_sizeOf_29 : decode bMo_sizeOf 29 = .ok (.aload_n 0, 1) := by decide +kernel
theorem dMo_sizeOf_30 : decode bMo_sizeOf 30 = .ok (.getfield 19, 3) := by decide +kernel
theorem dMo_sizeOf_33 : decode bMo_sizeOf 33 = .ok (.iload 4, 2) := by decide +kernel
theorem dMo_sizeOf_35 : decode bMo_sizeOf 35 = .ok (.iaload, 1) := by decide +kernel
theorem dMo_sizeOf_36 : decode bMo_sizeOf 36 = .ok (.iaload, 1) := by decide +kernel
theorem dMo_sizeOf_37 : decode bMo_sizeOf 37 = .ok (.i2l, 1) := by decide +kernel
theorem dMo_sizeOf_38 : decode bMo_sizeOf 38 = .ok (.goto 4, 3) := by decide +kernel
theorem dMo_sizeOf_41 : decode bMo_sizeOf 41 = .ok (.lconst 1, 1) := by decide +kernel
theorem dMo_sizeOf_42 : decode bMo_sizeOf 42 = .ok (.lmul, 1) := by decide +kernel
theorem dMo_sizeOf_43 : decode bMo_sizeOf 43 = .ok (.lstore_n 2, 1) := by decide +kernel
theorem dMo_sizeOf_44 : decode bMo_sizeOf 44 = .ok (.iinc 4 1, 3) := by decide +kernel
theorem dMo_sizeOf_47 : decode bMo_sizeOf 47 = .ok (.goto (-42), 3) := by decide +kernel
theorem dMo_sizeOf_50 : decode bMo_sizeOf 50 = .ok (.iconst 0, 1) := by decide +kernel
theorem dMo_sizeOf_51 : decode bMo_sizeOf 51 = .ok (.istore 4, 2) := by decide +kernel
theorem dMo_sizeOf_53 : decode bMo_sizeOf 53 = .ok (.iload 4, 2) := by decide +kernel
theorem dMo_sizeOf_55 : decode bMo_sizeOf 55 = .ok (.aload_n 0, 1) := by decide +kernel
theorem dMo_sizeOf_56 : decode bMo_sizeOf 56 = .ok (.getfield 67, 3) := by decide +kernel
theorem dMo_sizeOf_59 : decode bMo_sizeOf 59 = .ok (.if_icmp .ge 39, 3) := by decide +kernel
theorem dMo_sizeOf_62 : decode bMo_sizeOf 62 = .ok (.aload_n 0, 1) := by decide +kernel
theorem dMo_sizeOf_63 : decode bMo_sizeOf 63 = .ok (.iload 4, 2) := by decide +kernel
theorem dMo_sizeOf_65 : decode bMo_sizeOf 65 = .ok (.iload_n 1, 1) := by decide +kernel
theorem dMo_sizeOf_66 : decode bMo_sizeOf 66 = .ok (.invokevirtual 86, 3) := by decide +kernel
theorem dMo_sizeOf_69 : decode bMo_sizeOf 69 = .ok (.ifCond .eq 23, 3) := by decide +kernel
theorem dMo_sizeOf_72 : decode bMo_sizeOf 72 = .ok (.aload_n 0, 1) := by decide +kernel
theorem dMo_sizeOf_73 : decode bMo_sizeOf 73 = .ok (.iload 4, 2) := by decide +kernel
theorem dMo_sizeOf_75 : decode bMo_sizeOf 75 = .ok (.invokevirtual 89, 3) := by decide +kernel
theorem dMo_sizeOf_78 : decode bMo_sizeOf 78 = .ok (.istore 5, 2) := by decide +kernel
theorem dMo_sizeOf_80 : decode bMo_sizeOf 80 = .ok (.lload_n 2, 1) := by decide +kernel
theorem dMo_sizeOf_81 : decode bMo_sizeOf 81 = .ok (.iload 5, 2) := by decide +kernel
theorem dMo_sizeOf_83 : decode bMo_sizeOf 83 = .ok (.i2l, 1) := by decide +kernel
theorem dMo_sizeOf_84 : decode bMo_sizeOf 84 = .ok (.ladd, 1) := by decide +kernel
theorem dMo_sizeOf_85 : decode bMo_sizeOf 85 = .ok (.lconst 1, 1) := by decide +kernel
theorem dMo_sizeOf_86 : decode bMo_sizeOf 86 = .ok (.lsub, 1) := by decide +kernel
theorem dMo_sizeOf_87 : decode bMo_sizeOf 87 = .ok (.iload 5, 2) := by decide +kernel
theorem dMo_sizeOf_89 : decode bMo_sizeOf 89 = .ok (.i2l, 1) := by decide +kernel
theorem dMo_sizeOf_90 : decode bMo_sizeOf 90 = .ok (.ldiv, 1) := by decide +kernel
theorem dMo_sizeOf_91 : decode bMo_sizeOf 91 = .ok (.lstore_n 2, 1) := by decide +kernel
theorem dMo_sizeOf_92 : decode bMo_sizeOf 92 = .ok (.iinc 4 1, 3) := by decide +kernel
theorem dMo_sizeOf_95 : decode bMo_sizeOf 95 = .ok (.goto (-42), 3) := by decide +kernel
theorem dMo_sizeOf_98 : decode bMo_sizeOf 98 = .ok (.lload_n 2, 1) := by decide +kernel
theorem dMo_sizeOf_99 : decode bMo_sizeOf 99 = .ok (.lreturn, 1) := by decide +kernel
abbrev rMo_sizeOf : Room := { frames := 3, cells := 0, slots := 0, locals := 72 }
def fMo_sizeOf_53 : Nat → Int32 → Int64 → Int32 → jM → jF → jL → Option Int64
  | 0, _, _, _, _, _, _ => none
  | n + 1, x1, x2, x4, M, F, L => (if (F 2) ≤ x4 then some x2 else ((fMo_isAmong x4 x1 M F L).bind fun q3 => (if q3 = 0 then fMo_sizeOf_53 n x1 x2 (x4 + 1) M F L else ((fMo_divisor x4 M F L).bind fun q5 => (if (Int32.toInt64 q5) = 0 then none else fMo_sizeOf_53 n x1 (((x2 + (Int32.toInt64 q5)) - 1) / (Int32.toInt64 q5)) (x4 + 1) M F L)))))
def fMo_sizeOf_42 (k5 : Int32 → Int64 → Int32 → jM → jF → jL → Option Int64) (x1 : Int32) (x4 : Int32) (s0 : Int64) (s1 : Int64) (M : jM) (F : jF) (L : jL) : Option Int64 := k5 x1 (s0 * s1) (x4 + 1) M F L
def fMo_sizeOf_5 : Nat → Int32 → Int64 → Int32 → jM → jF → jL → Option Int64
  | 0, _, _, _, _, _, _ => none
  | n + 1, x1, x2, x4, M, F, L => (if (F 1) ≤ x4 then fMo_sizeOf_53 jfuel x1 x2 0 M F L else (if ((x1 >>> (x4 &&& 31)) &&& 1) = 1 then (if jib x4 6 then (if jib (M 4 x4.toNatClampNeg) 6 then fMo_sizeOf_42 (fun x1 x2 x4 M F L => fMo_sizeOf_5 n x1 x2 x4 M F L) x1 x4 x2 (Int32.toInt64 (M 2 (M 4 x4.toNatClampNeg).toNatClampNeg)) M F L else none) else none) else fMo_sizeOf_42 (fun x1 x2 x4 M F L => fMo_sizeOf_5 n x1 x2 x4 M F L) x1 x4 x2 1 M F L))
def fMo_sizeOf_0 (x1 : Int32) (M : jM) (F : jF) (L : jL) : Option Int64 := fMo_sizeOf_5 jfuel x1 1 0 M F L
abbrev fMo_sizeOf (x1 : Int32) (M : jM) (F : jF) (L : jL) : Option Int64 := fMo_sizeOf_0 x1 M F L
set_option maxHeartbeats 4000000 in
set_option maxRecDepth 100000 in
theorem uMo_sizeOf_53 {p : Program} {e : Env} {s : State} {m : MethodId} {args : Array Value} {below : List Frame} {meth : Method} {c : Code} (l : Launch) (dC : Nat → ClassId) (dI : Nat → Nat → Nat) (cA cL : ClassId) (A : Nat → Nat) (Ap : Nat → Prop) (hC : jAt p s m args meth c bMo_sizeOf 6 (some .long) wMo_sizeOf RMo) (hA : ∀ q : Nat, s.heap.size ≤ q → Ap q) {r : Int64} : ∀ (n : Nat) (x1 : Int32) (x2 : Int64) (x4 : Int32) (M : jM) (F : jF) (L : jL) (B : Nat → Nat) (H : Heap) (locs : List Loc) (ls : Array Slot), jH (dC, dI) jCl [(cA, .int), (cL, .long)] (mW cA cL A M F L) Ap s H locs → lv_has ls 6 [(0, .ref (A 0)), (1, .int x1), (2, .long x2), (4, .int x4)] → fMo_sizeOf_53 n x1 x2 x4 M F L = some r → W p l e (headSpec wMo_sizeOf rMo_sizeOf).room s m args below meth c H locs 0 0 (jQl below (dC, dI) jCl [(cA, .int), (cL, .long)] (fun _ : Nat → Nat => mW cA cL A M F L) Ap args s r) (F0 m 53 ls []) := by
  obtain ⟨hx, hb, hml, hr, hts, hown, hlocks, hN⟩ := id hC
  have hj : ∀ w ∈ jw, w.before args s = true := fun w h => hts w (List.mem_cons_of_mem _ h)
  intro n
  induction n with
  | zero =>
    intro x1 x2 x4 M F L B H locs ls hJ hl h
    rw [fMo_sizeOf_53] at h
    cases h
  | succ n ih =>
    intro x1 x2 x4 M F L B H locs ls hJ hl h
    rw [fMo_sizeOf_53] at h
    refine lv_iload hx hb dMo_sizeOf_53 (lv_at hl 3 rfl) ?_
    refine lv_aload_n hx hb dMo_sizeOf_55 rfl (lv_at hl 0 rfl) ?_
    refine mget_6 hx hb hj hown hJ (hj _ jw_605) dMo_sizeOf_56 ?_
    refine lv_icmp_ge (tgt := 98) hx hb dMo_sizeOf_59 (by decide) (fun c2 => ?_) (fun c2 => ?_)
    · replace h := jif_t c2 h
      refine lv_lload_n hx hb dMo_sizeOf_98 rfl (lv_at hl 2 rfl) ?_
      exact jretl (u := B) hx hb hr hlocks hJ dMo_sizeOf_99 (Option.some.inj h)
    · replace h := jif_f c2 h
      refine lv_aload_n hx hb dMo_sizeOf_62 rfl (lv_at hl 0 rfl) ?_
      refine lv_iload hx hb dMo_sizeOf_63 (lv_at hl 3 rfl) ?_
      refine lv_iload_n hx hb dMo_sizeOf_65 rfl (lv_at hl 1 rfl) ?_
      obtain ⟨q3, hq3, h⟩ := jbi_h h
      refine jcalli (w' := fun _ : Nat → Nat => mW cA cL A M F L) (va_runV (As := [.int x4, .int x1]) (rest := []) ⟨hx, hb, hml, hown, hts⟩ (cMo_isAmong l dC dI cA cL A x4 x1 M F L B H.size hq3) (cwV 2 hts (jgoodV jw_723 jw_725 jws_22 jw_7 jw_726) rfl rfl rfl (by decide +kernel) ⟨Nat.le_of_ble_eq_true rfl, Nat.le_of_ble_eq_true rfl⟩) (jpreV hN hJ (ci := 6) (q0 := 0) rfl rfl) rfl rfl hl.1 rfl (lv_room (Nat.le_of_ble_eq_true rfl)) dMo_sizeOf_66 ⟨Nat.zero_le _, Nat.zero_le _⟩) hA hJ (fun B H locs hJ => ?_)
      refine lv_if_eq (tgt := 92) hx hb dMo_sizeOf_69 (by decide) (fun c4 => ?_) (fun c4 => ?_)
      · replace h := jif_t c4 h
        refine lv_iinc (v := x4 + 1) (lv' := [(4, .int (x4 + 1)), (0, .ref (A 0)), (1, .int x1), (2, .long x2)]) hx hb dMo_sizeOf_92 hl (k := 3) rfl rfl (by decide) rfl (fun ls hl => ?_)
        refine lv_goto (tgt := 53) hx hb dMo_sizeOf_95 (by decide) ?_
        exact ih _ _ _ _ _ _ B _ _ _ hJ (lv_sub hl [1, 2, 3, 0] rfl) h
      · replace h := jif_f c4 h
        refine lv_aload_n hx hb dMo_sizeOf_72 rfl (lv_at hl 0 rfl) ?_
        refine lv_iload hx hb dMo_sizeOf_73 (lv_at hl 3 rfl) ?_
        obtain ⟨q5, hq5, h⟩ := jbi_h h
        refine jcalli (w' := fun _ : Nat → Nat => mW cA cL A M F L) (va_runV (As := [.int x4]) (rest := []) ⟨hx, hb, hml, hown, hts⟩ (cMo_divisor l dC dI cA cL A x4 M F L B H.size hq5) (cwV 1 hts (jgoodV jw_727 jw_729 jws_23 jw_7 jw_730) rfl rfl rfl (by decide +kernel) ⟨Nat.le_of_ble_eq_true rfl, Nat.le_of_ble_eq_true rfl⟩) (jpreV hN hJ (ci := 6) (q0 := 0) rfl rfl) rfl rfl hl.1 rfl (lv_room (Nat.le_of_ble_eq_true rfl)) dMo_sizeOf_75 ⟨Nat.zero_le _, Nat.zero_le _⟩) hA hJ (fun B H locs hJ => ?_)
        refine lv_istore (lv' := [(5, .int q5), (0, .ref (A 0)), (1, .int x1), (2, .long x2), (4, .int x4)]) hx hb dMo_sizeOf_78 hl (by decide) rfl (fun ls hl => ?_)
        refine lv_lload_n hx hb dMo_sizeOf_80 rfl (lv_at hl 3 rfl) ?_
        refine lv_iload hx hb dMo_sizeOf_81 (lv_at hl 0 rfl) ?_
        refine lv_i2l hx hb dMo_sizeOf_83 rfl ?_
        refine lv_ladd hx hb dMo_sizeOf_84 ?_
        refine lv_lconst (v := 1) hx hb dMo_sizeOf_85 (by decide) ?_
        refine lv_lsub hx hb dMo_sizeOf_86 ?_
        refine lv_iload hx hb dMo_sizeOf_87 (lv_at hl 0 rfl) ?_
        refine lv_i2l hx hb dMo_sizeOf_89 rfl ?_
        obtain ⟨hz, h⟩ := jdzl_h h
        refine lv_ldiv hx hb dMo_sizeOf_90 hz ?_
        refine lv_lstore_n (lv' := [(2, .long (((x2 + (Int32.toInt64 q5)) - 1) / (Int32.toInt64 q5))), (5, .int q5), (0, .ref (A 0)), (1, .int x1), (4, .int x4)]) hx hb dMo_sizeOf_91 rfl hl (by decide) rfl (fun ls hl => ?_)
        refine lv_iinc (v := x4 + 1) (lv' := [(4, .int (x4 + 1)), (2, .long (((x2 + (Int32.toInt64 q5)) - 1) / (Int32.toInt64 q5))), (5, .int q5), (0, .ref (A 0)), (1, .int x1)]) hx hb dMo_sizeOf_92 hl (k := 4) rfl rfl (by decide) rfl (fun ls hl => ?_)
        refine lv_goto (tgt := 53) hx hb dMo_sizeOf_95 (by decide) ?_
        exact ih _ _ _ _ _ _ B _ _ _ hJ (lv_sub hl [3, 4, 1, 0] rfl) h
set_option maxHeartbeats 4000000 in
set_option maxRecDepth 100000 in
theorem uMo_sizeOf_42 {p : Program} {e : Env} {s : State} {m : MethodId} {args : Array Value} {below : List Frame} {meth : Method} {c : Code} (l : Launch) (dC : Nat → ClassId) (dI : Nat → Nat → Nat) (cA cL : ClassId) (A : Nat → Nat) (Ap : Nat → Prop) (hC : jAt p s m args meth c bMo_sizeOf 6 (some .long) wMo_sizeOf RMo) (hA : ∀ q : Nat, s.heap.size ≤ q → Ap q) {r : Int64} (k5 : Int32 → Int64 → Int32 → jM → jF → jL → Option Int64) (hk5 : ∀ (x1 : Int32) (x2 : Int64) (x4 : Int32) (M : jM) (F : jF) (L : jL) (B : Nat → Nat) (H : Heap) (locs : List Loc) (ls : Array Slot), jH (dC, dI) jCl [(cA, .int), (cL, .long)] (mW cA cL A M F L) Ap s H locs → lv_has ls 6 [(0, .ref (A 0)), (1, .int x1), (2, .long x2), (4, .int x4)] → k5 x1 x2 x4 M F L = some r → W p l e (headSpec wMo_sizeOf rMo_sizeOf).room s m args below meth c H locs 0 0 (jQl below (dC, dI) jCl [(cA, .int), (cL, .long)] (fun _ : Nat → Nat => mW cA cL A M F L) Ap args s r) (F0 m 5 ls [])) : ∀ (x1 : Int32) (x4 : Int32) (s0 : Int64) (s1 : Int64) (M : jM) (F : jF) (L : jL) (B : Nat → Nat) (H : Heap) (locs : List Loc) (ls : Array Slot), jH (dC, dI) jCl [(cA, .int), (cL, .long)] (mW cA cL A M F L) Ap s H locs → lv_has ls 6 [(0, .ref (A 0)), (1, .int x1), (4, .int x4)] → fMo_sizeOf_42 k5 x1 x4 s0 s1 M F L = some r → W p l e (headSpec wMo_sizeOf rMo_sizeOf).room s m args below meth c H locs 0 0 (jQl below (dC, dI) jCl [(cA, .int), (cL, .long)] (fun _ : Nat → Nat => mW cA cL A M F L) Ap args s r) (F0 m 42 ls [.long s1, .long s0]) := by
  obtain ⟨hx, hb, hml, hr, hts, hown, hlocks, hN⟩ := id hC
  have hj : ∀ w ∈ jw, w.before args s = true := fun w h => hts w (List.mem_cons_of_mem _ h)
  intro x1 x4 s0 s1 M F L B H locs ls hJ hl h
  unfold fMo_sizeOf_42 at h
  refine lv_lmul hx hb dMo_sizeOf_42 ?_
  refine lv_lstore_n (lv' := [(2, .long (s0 * s1)), (0, .ref (A 0)), (1, .int x1), (4, .int x4)]) hx hb dMo_sizeOf_43 rfl hl (by decide) rfl (fun ls hl => ?_)
  refine lv_iinc (v := x4 + 1) (lv' := [(4, .int (x4 + 1)), (2, .long (s0 * s1)), (0, .ref (A 0)), (1, .int x1)]) hx hb dMo_sizeOf_44 hl (k := 3) rfl rfl (by decide) rfl (fun ls hl => ?_)
  refine lv_goto (tgt := 5) hx hb dMo_sizeOf_47 (by decide) ?_
  exact hk5 _ _ _ _ _ _ B _ _ _ hJ (lv_sub hl [2, 3, 1, 0] rfl) h
set_option maxHeartbeats 4000000 in
set_option maxRecDepth 100000 in
theorem uMo_sizeOf_5 {p : Program} {e : Env} {s : State} {m : MethodId} {args : Array Value} {below : List Frame} {meth : Method} {c : Code} (l : Launch) (dC : Nat → ClassId) (dI : Nat → Nat → Nat) (cA cL : ClassId) (A : Nat → Nat) (Ap : Nat → Prop) (hC : jAt p s m args meth c bMo_sizeOf 6 (some .long) wMo_sizeOf RMo) (hA : ∀ q : Nat, s.heap.size ≤ q → Ap q) {r : Int64} : ∀ (n : Nat) (x1 : Int32) (x2 : Int64) (x4 : Int32) (M : jM) (F : jF) (L : jL) (B : Nat → Nat) (H : Heap) (locs : List Loc) (ls : Array Slot), jH (dC, dI) jCl [(cA, .int), (cL, .long)] (mW cA cL A M F L) Ap s H locs → lv_has ls 6 [(0, .ref (A 0)), (1, .int x1), (2, .long x2), (4, .int x4)] → fMo_sizeOf_5 n x1 x2 x4 M F L = some r → W p l e (headSpec wMo_sizeOf rMo_sizeOf).room s m args below meth c H locs 0 0 (jQl below (dC, dI) jCl [(cA, .int), (cL, .long)] (fun _ : Nat → Nat => mW cA cL A M F L) Ap args s r) (F0 m 5 ls []) := by
  obtain ⟨hx, hb, hml, hr, hts, hown, hlocks, hN⟩ := id hC
  have hj : ∀ w ∈ jw, w.before args s = true := fun w h => hts w (List.mem_cons_of_mem _ h)
  intro n
  induction n with
  | zero =>
    intro x1 x2 x4 M F L B H locs ls hJ hl h
    rw [fMo_sizeOf_5] at h
    cases h
  | succ n ih =>
    intro x1 x2 x4 M F L B H locs ls hJ hl h
    rw [fMo_sizeOf_5] at h
    refine lv_iload hx hb dMo_sizeOf_5 (lv_at hl 3 rfl) ?_
    refine lv_aload_n hx hb dMo_sizeOf_7 rfl (lv_at hl 0 rfl) ?_
    refine mget_4 hx hb hj hown hJ (hj _ jw_603) dMo_sizeOf_8 ?_
    refine lv_icmp_ge (tgt := 50) hx hb dMo_sizeOf_11 (by decide) (fun c1 => ?_) (fun c1 => ?_)
    · replace h := jif_t c1 h
      refine lv_iconst (v := 0) hx hb dMo_sizeOf_50 (by decide) ?_
      refine lv_istore (lv' := [(4, .int 0), (0, .ref (A 0)), (1, .int x1), (2, .long x2)]) hx hb dMo_sizeOf_51 hl (by decide) rfl (fun ls hl => ?_)
      exact uMo_sizeOf_53 l dC dI cA cL A Ap hC hA jfuel _ _ _ _ _ _ B _ _ _ hJ (lv_sub hl [1, 2, 3, 0] rfl) h
    · replace h := jif_f c1 h
      refine lv_lload_n hx hb dMo_sizeOf_14 rfl (lv_at hl 2 rfl) ?_
      refine lv_iload_n hx hb dMo_sizeOf_15 rfl (lv_at hl 1 rfl) ?_
      refine lv_iload hx hb dMo_sizeOf_16 (lv_at hl 3 rfl) ?_
      refine lv_ishr hx hb dMo_sizeOf_18 ?_
      refine lv_iconst (v := 1) hx hb dMo_sizeOf_19 (by decide) ?_
      refine lv_iand hx hb dMo_sizeOf_20 ?_
      refine lv_iconst (v := 1) hx hb dMo_sizeOf_21 (by decide) ?_
      refine lv_icmp_ne (tgt := 41) hx hb dMo_sizeOf_22 (by decide) (fun c6 => ?_) (fun c6 => ?_)
      · replace h := jif_f c6 h
        refine lv_lconst (v := 1) hx hb dMo_sizeOf_41 (by decide) ?_
        refine uMo_sizeOf_42 l dC dI cA cL A Ap hC hA _ ?_ _ _ _ _ _ _ _ B _ _ _ hJ (lv_sub hl [0, 1, 3] rfl) h
        · intro x1 x2 x4 M F L B H locs ls hJ hl h
          exact ih _ _ _ _ _ _ B _ _ _ hJ (lv_sub hl [0, 1, 2, 3] rfl) h
      · replace h := jif_t c6 h
        refine lv_aload_n hx hb dMo_sizeOf_25 rfl (lv_at hl 0 rfl) ?_
        refine mget_2 hx hb hj hown hJ (hj _ jw_601) dMo_sizeOf_26 ?_
        refine lv_aload_n hx hb dMo_sizeOf_29 rfl (lv_at hl 0 rfl) ?_
        refine mget_5 hx hb hj hown hJ (hj _ jw_604) dMo_sizeOf_30 ?_
        refine lv_iload hx hb dMo_sizeOf_33 (lv_at hl 3 rfl) ?_
        obtain ⟨hi7, h⟩ := jib_h h
        refine mald_4 hx hb hJ hi7 dMo_sizeOf_35 ?_
        obtain ⟨hi8, h⟩ := jib_h h
        refine mald_2 hx hb hJ hi8 dMo_sizeOf_36 ?_
        refine lv_i2l hx hb dMo_sizeOf_37 rfl ?_
        refine lv_goto (tgt := 42) hx hb dMo_sizeOf_38 (by decide) ?_
        refine uMo_sizeOf_42 l dC dI cA cL A Ap hC hA _ ?_ _ _ _ _ _ _ _ B _ _ _ hJ (lv_sub hl [0, 1, 3] rfl) h
        · intro x1 x2 x4 M F L B H locs ls hJ hl h
          exact ih _ _ _ _ _ _ B _ _ _ hJ (lv_sub hl [0, 1, 2, 3] rfl) h
set_option maxHeartbeats 4000000 in
set_option maxRecDepth 100000 in
theorem uMo_sizeOf_0 {p : Program} {e : Env} {s : State} {m : MethodId} {args : Array Value} {below : List Frame} {meth : Method} {c : Code} (l : Launch) (dC : Nat → ClassId) (dI : Nat → Nat → Nat) (cA cL : ClassId) (A : Nat → Nat) (Ap : Nat → Prop) (hC : jAt p s m args meth c bMo_sizeOf 6 (some .long) wMo_sizeOf RMo) (hA : ∀ q : Nat, s.heap.size ≤ q → Ap q) {r : Int64} : ∀ (x1 : Int32) (M : jM) (F : jF) (L : jL) (B : Nat → Nat) (H : Heap) (locs : List Loc) (ls : Array Slot), jH (dC, dI) jCl [(cA, .int), (cL, .long)] (mW cA cL A M F L) Ap s H locs → lv_has ls 6 [(0, .ref (A 0)), (1, .int x1)] → fMo_sizeOf_0 x1 M F L = some r → W p l e (headSpec wMo_sizeOf rMo_sizeOf).room s m args below meth c H locs 0 0 (jQl below (dC, dI) jCl [(cA, .int), (cL, .long)] (fun _ : Nat → Nat => mW cA cL A M F L) Ap args s r) (F0 m 0 ls []) := by
  obtain ⟨hx, hb, hml, hr, hts, hown, hlocks, hN⟩ := id hC
  have hj : ∀ w ∈ jw, w.before args s = true := fun w h => hts w (List.mem_cons_of_mem _ h)
  intro x1 M F L B H locs ls hJ hl h
  unfold fMo_sizeOf_0 at h
  refine lv_lconst (v := 1) hx hb dMo_sizeOf_0 (by decide) ?_
  refine lv_lstore_n (lv' := [(2, .long 1), (0, .ref (A 0)), (1, .int x1)]) hx hb dMo_sizeOf_1 rfl hl (by decide) rfl (fun ls hl => ?_)
  refine lv_iconst (v := 0) hx hb dMo_sizeOf_2 (by decide) ?_
  refine lv_istore (lv' := [(4, .int 0), (2, .long 1), (0, .ref (A 0)), (1, .int x1)]) hx hb dMo_sizeOf_3 hl (by decide) rfl (fun ls hl => ?_)
  exact uMo_sizeOf_5 l dC dI cA cL A Ap hC hA jfuel _ _ _ _ _ _ B _ _ _ hJ (lv_sub hl [2, 3, 1, 0] rfl) h
set_option maxHeartbeats 4000000 in
set_option maxRecDepth 100000 in
theorem cMo_sizeOf (l : Launch) (dC : Nat → ClassId) (dI : Nat → Nat → Nat) (cA cL : ClassId) (A : Nat → Nat) (x1 : Int32) (M : jM) (F : jF) (L : jL) (B : Nat → Nat) (sz : Nat) {r : Int64} (h : fMo_sizeOf x1 M F L = some r) : jCl2 l yMo_sizeOf wMo_sizeOf rMo_sizeOf (dC, dI) jCl [(cA, .int), (cL, .long)] [.ref (A 0), .int x1] (mW cA cL A M F L) sz r (fun _ : Nat → Nat => mW cA cL A M F L) :=
  jOf (Qc := fun Ap => va_Ql (fun q (_ : Nat → Nat) => q = r) (jPost (dC, dI) jCl [(cA, .int), (cL, .long)] (fun _ : Nat → Nat => mW cA cL A M F L) Ap) Ap) (by decide) rfl (Nat.le_of_ble_eq_true rfl) (fun p e s m below meth c Ap ls hC hA hJ hl => uMo_sizeOf_0 l dC dI cA cL A Ap hC hA _ _ _ _ B _ _ _ hJ (lv_sub hl [0, 1] rfl) h)
abbrev bMo_swap : ByteArray := prog_8_method_18_code
abbrev yMo_swap : MethodName := ⟨RMo, "swap", "(II)V"⟩
abbrev wMo_swap : List Cond := .code yMo_swap bMo_swap 4 none :: jw
theorem dMo_swap_0 : decode bMo_swap 0 = .ok (.aload_n 0, 1) := by decide +kernel
theorem dMo_swap_1 : decode bMo_swap 1 = .ok (.getfield 41, 3) := by decide +kernel
theorem dMo_swap_4 : decode bMo_swap 4 = .ok (.iload_n 1, 1) := by decide +kernel
theorem dMo_swap_5 : decode bMo_swap 5 = .ok (.iaload, 1) := by decide +kernel
theorem dMo_swap_6 : decode bMo_swap 6 = .ok (.istore_n 3, 1) := by decide +kernel
theorem dMo_swap_7 : decode bMo_swap 7 = .ok (.aload_n 0, 1) := by decide +kernel
theorem dMo_swap_8 : decode bMo_swap 8 = .ok (.getfield 41, 3) := by decide +kernel
theorem dMo_swap_11 : decode bMo_swap 11 = .ok (.iload_n 1, 1) := by decide +kernel
theorem dMo_swap_12 : decode bMo_swap 12 = .ok (.aload_n 0, 1) := by decide +kernel
theorem dMo_swap_13 : decode bMo_swap 13 = .ok (.getfield 41, 3) := by decide +kernel
theorem dMo_swap_16 : decode bMo_swap 16 = .ok (.iload_n 2, 1) := by decide +kernel
theorem dMo_swap_17 : decode bMo_swap 17 = .ok (.iaload, 1) := by decide +kernel
theorem dMo_swap_18 : decode bMo_swap 18 = .ok (.iastore, 1) := by decide +kernel
theorem dMo_swap_19 : decode bMo_swap 19 = .ok (.aload_n 0, 1) := by decide +kernel
theorem dMo_swap_20 : decode bMo_swap 20 = .ok (.getfield 41, 3) := by decide +kernel
theorem dMo_swap_23 : decode bMo_swap 23 = .ok (.iload_n 2, 1) := by decide +kernel
theorem dMo_swap_24 : decode bMo_swap 24 = .ok (.iload_n 3, 1) := by decide +kernel
theorem dMo_swap_25 : decode bMo_swap 25 = .ok (.iastore, 1) := by decide +kernel
theorem dMo_swap_26 : decode bMo_swap 26 = .ok (.return_, 1) := by decide +kernel
abbrev rMo_swap : Room := { frames := 0, cells := 0, slots := 0, locals := 0 }
def fMo_swap_0 (x1 : Int32) (x2 : Int32) (M : jM) (F : jF) (L : jL) : Option (Int32 × jM × jF × jL) := (if jib x1 6 then (if jib x2 6 then (if jib x1 6 then (if jib x2 6 then some (0, jmu (jmu M 11 x1.toNatClampNeg (M 11 x2.toNatClampNeg)) 11 x2.toNatClampNeg (M 11 x1.toNatClampNeg), F, L) else none) else none) else none) else none)
abbrev fMo_swap (x1 : Int32) (x2 : Int32) (M : jM) (F : jF) (L : jL) : Option (Int32 × jM × jF × jL) := fMo_swap_0 x1 x2 M F L
set_option maxHeartbeats 4000000 in
set_option maxRecDepth 100000 in
theorem uMo_swap_0 {p : Program} {e : Env} {s : State} {m : MethodId} {args : Array Value} {below : List Frame} {meth : Method} {c : Code} (l : Launch) (dC : Nat → ClassId) (dI : Nat → Nat → Nat) (cA cL : ClassId) (A : Nat → Nat) (Ap : Nat → Prop) (hC : jAt p s m args meth c bMo_swap 4 none wMo_swap RMo) (hA : ∀ q : Nat, s.heap.size ≤ q → Ap q) {r : Int32} {M' : jM} {F' : jF} {L' : jL} : ∀ (x1 : Int32) (x2 : Int32) (M : jM) (F : jF) (L : jL) (B : Nat → Nat) (H : Heap) (locs : List Loc) (ls : Array Slot), jH (dC, dI) jCl [(cA, .int), (cL, .long)] (mW cA cL A M F L) Ap s H locs → lv_has ls 4 [(0, .ref (A 0)), (1, .int x1), (2, .int x2)] → fMo_swap_0 x1 x2 M F L = some (r, M', F', L') → W p l e (headSpec wMo_swap rMo_swap).room s m args below meth c H locs 0 0 (jQv below (dC, dI) jCl [(cA, .int), (cL, .long)] (fun _ : Nat → Nat => mW cA cL A (M') (F') (L')) Ap args s) (F0 m 0 ls []) := by
  obtain ⟨hx, hb, hml, hr, hts, hown, hlocks, hN⟩ := id hC
  have hj : ∀ w ∈ jw, w.before args s = true := fun w h => hts w (List.mem_cons_of_mem _ h)
  intro x1 x2 M F L B H locs ls hJ hl h
  unfold fMo_swap_0 at h
  refine lv_aload_n hx hb dMo_swap_0 rfl (lv_at hl 0 rfl) ?_
  refine mget_13 hx hb hj hown hJ (hj _ jw_612) dMo_swap_1 ?_
  refine lv_iload_n hx hb dMo_swap_4 rfl (lv_at hl 1 rfl) ?_
  obtain ⟨hi1, h⟩ := jib_h h
  refine mald_11 hx hb hJ hi1 dMo_swap_5 ?_
  refine lv_istore_n (lv' := [(3, .int (M 11 x1.toNatClampNeg)), (0, .ref (A 0)), (1, .int x1), (2, .int x2)]) hx hb dMo_swap_6 rfl hl (by decide) rfl (fun ls hl => ?_)
  refine lv_aload_n hx hb dMo_swap_7 rfl (lv_at hl 1 rfl) ?_
  refine mget_13 hx hb hj hown hJ (hj _ jw_612) dMo_swap_8 ?_
  refine lv_iload_n hx hb dMo_swap_11 rfl (lv_at hl 2 rfl) ?_
  refine lv_aload_n hx hb dMo_swap_12 rfl (lv_at hl 1 rfl) ?_
  refine mget_13 hx hb hj hown hJ (hj _ jw_612) dMo_swap_13 ?_
  refine lv_iload_n hx hb dMo_swap_16 rfl (lv_at hl 3 rfl) ?_
  obtain ⟨hi2, h⟩ := jib_h h
  refine mald_11 hx hb hJ hi2 dMo_swap_17 ?_
  obtain ⟨hi3, h⟩ := jib_h h
  refine mast_11 hx hb hJ hi3 dMo_swap_18 (fun H locs hJ => ?_)
  refine lv_aload_n hx hb dMo_swap_19 rfl (lv_at hl 1 rfl) ?_
  refine mget_13 hx hb hj hown hJ (hj _ jw_612) dMo_swap_20 ?_
  refine lv_iload_n hx hb dMo_swap_23 rfl (lv_at hl 3 rfl) ?_
  refine lv_iload_n hx hb dMo_swap_24 rfl (lv_at hl 0 rfl) ?_
  obtain ⟨hi4, h⟩ := jib_h h
  refine mast_11 hx hb hJ hi4 dMo_swap_25 (fun H locs hJ => ?_)
  cases h
  exact jretv (u := B) hx hb hr hlocks hJ dMo_swap_26
set_option maxHeartbeats 4000000 in
set_option maxRecDepth 100000 in
theorem cMo_swap (l : Launch) (dC : Nat → ClassId) (dI : Nat → Nat → Nat) (cA cL : ClassId) (A : Nat → Nat) (x1 : Int32) (x2 : Int32) (M : jM) (F : jF) (L : jL) (B : Nat → Nat) (sz : Nat) {r : Int32} {M' : jM} {F' : jF} {L' : jL} (h : fMo_swap x1 x2 M F L = some (r, M', F', L')) : jCv l yMo_swap wMo_swap rMo_swap (dC, dI) jCl [(cA, .int), (cL, .long)] [.ref (A 0), .int x1, .int x2] (mW cA cL A M F L) sz (fun _ : Nat → Nat => mW cA cL A (M') (F') (L')) :=
  jOf (Qc := fun Ap => va_Qv (fun _ : Nat → Nat => True) (jPost (dC, dI) jCl [(cA, .int), (cL, .long)] (fun _ : Nat → Nat => mW cA cL A (M') (F') (L')) Ap) Ap) (by decide) rfl (Nat.le_of_ble_eq_true rfl) (fun p e s m below meth c Ap ls hC hA hJ hl => uMo_swap_0 l dC dI cA cL A Ap hC hA _ _ _ _ _ B _ _ _ hJ (lv_sub hl [0, 1, 2] rfl) h)
abbrev bMo_nextOrder : ByteArray := prog_8_method_19_code
abbrev yMo_nextOrder : MethodName := ⟨RMo, "nextOrder", "()Z"⟩
abbrev wMo_nextOrder : List Cond := .code yMo_nextOrder bMo_nextOrder 5 (some .boolean) :: jw
theorem dMo_nextOrder_0 : decode bMo_nextOrder 0 = .ok (.aload_n 0, 1) := by decide +kernel
theorem dMo_nextOrder_1 : decode bMo_nextOrder 1 = .ok (.getfield 64, 3) := by decide +kernel
theorem dMo_nextOrder_4 : decode bMo_nextOrder 4 = .ok (.iconst 2, 1) := by decide +kernel
theorem dMo_nextOrder_5 : decode bMo_nextOrder 5 = .ok (.isub, 1) := by decide +kernel
theorem dMo_nextOrder_6 : decode bMo_nextOrder 6 = .ok (.istore_n 1, 1) := by decide +kernel
theorem dMo_nextOrder_7 : decode bMo_nextOrder 7 = .ok (.iload_n 1, 1) := by decide +kernel
theorem dMo_nextOrder_8 : decode bMo_nextOrder 8 = .ok (.ifCond .lt 26, 3) := by decide +kernel
theorem dMo_nextOrder_11 : decode bMo_nextOrder 11 = .ok (.aload_n 0, 1) := by decide +kernel
theorem dMo_nextOrder_12 : decode bMo_nextOrder 12 = .ok (.getfield 41, 3) := by decide +kernel
theorem dMo_nextOrder_15 : decode bMo_nextOrder 15 = .ok (.iload_n 1, 1) := by decide +kernel
theorem dMo_nextOrder_16 : decode bMo_nextOrder 16 = .ok (.iaload, 1) := by decide +kernel
theorem dMo_nextOrder_17 : decode bMo_nextOrder 17 = .ok (.aload_n 0, 1) := by decide +kernel
theorem dMo_nextOrder_18 : decode bMo_nextOrder 18 = .ok (.getfield 41, 3) := by decide +kernel
theorem dMo_nextOrder_21 : decode bMo_nextOrder 21 = .ok (.iload_n 1, 1) := by decide +kernel
theorem dMo_nextOrder_22 : decode bMo_nextOrder 22 = .ok (.iconst 1, 1) := by decide +kernel
theorem dMo_nextOrder_23 : decode bMo_nextOrder 23 = .ok (.iadd, 1) := by decide +kernel
theorem dMo_nextOrder_24 : decode bMo_nextOrder 24 = .ok (.iaload, 1) := by decide +kernel
theorem dMo_nextOrder_25 : decode bMo_nextOrder 25 = .ok (.if_icmp .le 9, 3) := by decide +kernel
theorem dMo_nextOrder_28 : decode bMo_nextOrder 28 = .ok (.iinc 1 (-1), 3) := by decide +kernel
theorem dMo_nextOrder_31 : decode bMo_nextOrder 31 = .ok (.goto (-24), 3) := by decide +kernel
theorem dMo_nextOrder_34 : decode bMo_nextOrder 34 = .ok (.iload_n 1, 1) := by decide +kernel
theorem dMo_nextOrder_35 : decode bMo_nextOrder 35 = .ok (.ifCond .ge 5, 3) := by decide +kernel
theorem dMo_nextOrder_38 : decode bMo_nextOrder 38 = .ok (.iconst 0, 1) := by decide +kernel
theorem dMo_nextOrder_39 : decode bMo_nextOrder 39 = .ok (.ireturn, 1) := by decide +kernel
theorem dMo_nextOrder_40 : decode bMo_nextOrder 40 = .ok (.aload_n 0, 1) := by decide +kernel
theorem dMo_nextOrder_41 : decode bMo_nextOrder 41 = .ok (.getfield 64, 3) := by decide +kernel
theorem dMo_nextOrder_44 : decode bMo_nextOrder 44 = .ok (.iconst 1, 1) := by decide +kernel
theorem dMo_nextOrder_45 : decode bMo_nextOrder 45 = .ok (.isub, 1) := by decide +kernel
theorem dMo_nextOrder_46 : decode bMo_nextOrder 46 = .ok (.istore_n 2, 1) := by decide +kernel
theorem dMo_nextOrder_47 : decode bMo_nextOrder 47 = .ok (.aload_n 0, 1) := by decide +kernel
theorem dMo_nextOrder_48 : decode bMo_nextOrder 48 = .ok (.getfield 41, 3) := by decide +kernel
theorem dMo_nextOrder_51 : decode bMo_nextOrder 51 = .ok (.iload_n 2, 1) := by decide +kernel
theorem dMo_nextOrder_52 : decode bMo_nextOrder 52 = .ok (.iaload, 1) := by decide +kernel
theorem dMo_nextOrder_53 : decode bMo_nextOrder 53 = .ok (.aload_n 0, 1) := by decide +kernel
theorem dMo_nextOrder_54 : decode bMo_nextOrder 54 = .ok (.getfield 41, 3) := by decide +kernel
theorem dMo_nextOrder_57 : decode bMo_nextOrder 57 = .ok (.iload_n 1, 1) := by decide +kernel
theorem dMo_nextOrder_58 : decode bMo_nextOrder 58 = .ok (.iaload, 1) := by decide +kernel
theorem dMo_nextOrder_59 : decode bMo_nextOrder 59 = .ok (.if_icmp .ge 9, 3) := by decide +kernel
theorem dMo_nextOrder_62 : decode bMo_nextOrder 62 = .ok (.iinc 2 (-1), 3) := by decide +kernel
theorem dMo_nextOrder_65 : decode bMo_nextOrder 65 = .ok (.goto (-18), 3) := by decide +kernel
theorem dMo_nextOrder_68 : decode bMo_nextOrder 68 = .ok (.aload_n 0, 1) := by decide +kernel
theorem dMo_nextOrder_69 : decode bMo_nextOrder 69 = .ok (.iload_n 1, 1) := by decide +kernel
theorem dMo_nextOrder_70 : decode bMo_nextOrder 70 = .ok (.iload_n 2, 1) := by decide +kernel
theorem dMo_nextOrder_71 : decode bMo_nextOrder 71 = .ok (.invokevirtual 93, 3) := by decide +kernel
theorem dMo_nextOrder_74 : decode bMo_nextOrder 74 = .ok (.iload_n 1, 1) := by decide +kernel
theorem dMo_nextOrder_75 : decode bMo_nextOrder 75 = .ok (.iconst 1, 1) := by decide +kernel
theorem dMo_nextOrder_76 : decode bMo_nextOrder 76 = .ok (.iadd, 1) := by decide +kernel
theorem dMo_nextOrder_77 : decode bMo_nextOrder 77 = .ok (.istore_n 3, 1) := by decide +kernel
theorem dMo_nextOrder_78 : decode bMo_nextOrder 78 = .ok (.aload_n 0, 1) := by decide +kernel
theorem dMo_nextOrder_79 : decode bMo_nextOrder 79 = .ok (.getfield 64, 3) := by decide +kernel
theorem dMo_nextOrder_82 : decode bMo_nextOrder 82 = .ok (.iconst 1, 1) := by decide +kernel
theorem dMo_nextOrder_83 : decode bMo_nextOrder 83 = .ok (.isub, 1) := by decide +kernel
theorem dMo_nextOrder_84 : decode bMo_nextOrder 84 = .ok (.istore 4, 2) := by decide +kernel
theorem dMo_nextOrder_86 : decode bMo_nextOrder 86 = .ok (.iload_n 3, 1) := by decide +kernel
theorem dMo_nextOrder_87 : decode bMo_nextOrder 87 = .ok (.iload 4, 2) := by decide +kernel
theorem dMo_nextOrder_89 : decode bMo_nextOrder 89 = .ok (.if_icmp .ge 19, 3) := by decide +kernel
theorem dMo_nextOrder_92 : decode bMo_nextOrder 92 = .ok (.aload_n 0, 1) := by decide +kernel
theorem dMo_nextOrder_93 : decode bMo_nextOrder 93 = .ok (.iload_n 3, 1) := by decide +kernel
theorem dMo_nextOrder_94 : decode bMo_nextOrder 94 = .ok (.iload 4, 2) := by decide +kernel
theorem dMo_nextOrder_96 : decode bMo_nextOrder 96 = .ok (.invokevirtual 93, 3) := by decide +kernel
theorem dMo_nextOrder_99 : decode bMo_nextOrder 99 = .ok (.iinc 3 1, 3) := by decide +kernel
theorem dMo_nextOrder_102 : decode bMo_nextOrder 102 = .ok (.iinc 4 (-1), 3) := by decide +kernel
theorem dMo_nextOrder_105 : decode bMo_nextOrder 105 = .ok (.goto (-19), 3) := by decide +kernel
theorem dMo_nextOrder_108 : decode bMo_nextOrder 108 = .ok (.iconst 1, 1) := by decide +kernel
theorem dMo_nextOrder_109 : decode bMo_nextOrder 109 = .ok (.ireturn, 1) := by decide +kernel
abbrev rMo_nextOrder : Room := { frames := 1, cells := 0, slots := 0, locals := 23 }
def fMo_nextOrder_86 : Nat → Int32 → Int32 → jM → jF → jL → Option (Int32 × jM × jF × jL)
  | 0, _, _, _, _, _ => none
  | n + 1, x3, x4, M, F, L => (if x4 ≤ x3 then some (1, M, F, L) else ((fMo_swap x3 x4 M F L).bind fun q8 => fMo_nextOrder_86 n (x3 + 1) (x4 + (-1)) q8.2.1 q8.2.2.1 q8.2.2.2))
def fMo_nextOrder_47 : Nat → Int32 → Int32 → jM → jF → jL → Option (Int32 × jM × jF × jL)
  | 0, _, _, _, _, _ => none
  | n + 1, x1, x2, M, F, L => (if jib x2 6 then (if jib x1 6 then (if (M 11 x1.toNatClampNeg) ≤ (M 11 x2.toNatClampNeg) then ((fMo_swap x1 x2 M F L).bind fun q6 => fMo_nextOrder_86 jfuel (x1 + 1) ((q6.2.2.1 1) - 1) q6.2.1 q6.2.2.1 q6.2.2.2) else fMo_nextOrder_47 n x1 (x2 + (-1)) M F L) else none) else none)
def fMo_nextOrder_34 (x1 : Int32) (M : jM) (F : jF) (L : jL) : Option (Int32 × jM × jF × jL) := (if 0 ≤ x1 then fMo_nextOrder_47 jfuel x1 ((F 1) - 1) M F L else some (0, M, F, L))
def fMo_nextOrder_7 : Nat → Int32 → jM → jF → jL → Option (Int32 × jM × jF × jL)
  | 0, _, _, _, _ => none
  | n + 1, x1, M, F, L => (if x1 < 0 then fMo_nextOrder_34 x1 M F L else (if jib x1 6 then (if jib (x1 + 1) 6 then (if (M 11 x1.toNatClampNeg) ≤ (M 11 (x1 + 1).toNatClampNeg) then fMo_nextOrder_34 x1 M F L else fMo_nextOrder_7 n (x1 + (-1)) M F L) else none) else none))
def fMo_nextOrder_0 (M : jM) (F : jF) (L : jL) : Option (Int32 × jM × jF × jL) := fMo_nextOrder_7 jfuel ((F 1) - 2) M F L
abbrev fMo_nextOrder (M : jM) (F : jF) (L : jL) : Option (Int32 × jM × jF × jL) := fMo_nextOrder_0  M F L
set_option maxHeartbeats 4000000 in
set_option maxRecDepth 100000 in
theorem uMo_nextOrder_86 {p : Program} {e : Env} {s : State} {m : MethodId} {args : Array Value} {below : List Frame} {meth : Method} {c : Code} (l : Launch) (dC : Nat → ClassId) (dI : Nat → Nat → Nat) (cA cL : ClassId) (A : Nat → Nat) (Ap : Nat → Prop) (hC : jAt p s m args meth c bMo_nextOrder 5 (some .boolean) wMo_nextOrder RMo) (hA : ∀ q : Nat, s.heap.size ≤ q → Ap q) {r : Int32} {M' : jM} {F' : jF} {L' : jL} : ∀ (n : Nat) (x3 : Int32) (x4 : Int32) (M : jM) (F : jF) (L : jL) (B : Nat → Nat) (H : Heap) (locs : List Loc) (ls : Array Slot), jH (dC, dI) jCl [(cA, .int), (cL, .long)] (mW cA cL A M F L) Ap s H locs → lv_has ls 5 [(0, .ref (A 0)), (3, .int x3), (4, .int x4)] → fMo_nextOrder_86 n x3 x4 M F L = some (r, M', F', L') → W p l e (headSpec wMo_nextOrder rMo_nextOrder).room s m args below meth c H locs 0 0 (jQi below (dC, dI) jCl [(cA, .int), (cL, .long)] (fun _ : Nat → Nat => mW cA cL A (M') (F') (L')) Ap args s r) (F0 m 86 ls []) := by
  obtain ⟨hx, hb, hml, hr, hts, hown, hlocks, hN⟩ := id hC
  have hj : ∀ w ∈ jw, w.before args s = true := fun w h => hts w (List.mem_cons_of_mem _ h)
  intro n
  induction n with
  | zero =>
    intro x3 x4 M F L B H locs ls hJ hl h
    rw [fMo_nextOrder_86] at h
    cases h
  | succ n ih =>
    intro x3 x4 M F L B H locs ls hJ hl h
    rw [fMo_nextOrder_86] at h
    refine lv_iload_n hx hb dMo_nextOrder_86 rfl (lv_at hl 1 rfl) ?_
    refine lv_iload hx hb dMo_nextOrder_87 (lv_at hl 2 rfl) ?_
    refine lv_icmp_ge (tgt := 108) hx hb dMo_nextOrder_89 (by decide) (fun c7 => ?_) (fun c7 => ?_)
    · replace h := jif_t c7 h
      refine lv_iconst (v := 1) hx hb dMo_nextOrder_108 (by decide) ?_
      cases h
      exact jreti (u := B) hx hb hr rfl hlocks hJ dMo_nextOrder_109 rfl
    · replace h := jif_f c7 h
      refine lv_aload_n hx hb dMo_nextOrder_92 rfl (lv_at hl 0 rfl) ?_
      refine lv_iload_n hx hb dMo_nextOrder_93 rfl (lv_at hl 1 rfl) ?_
      refine lv_iload hx hb dMo_nextOrder_94 (lv_at hl 2 rfl) ?_
      obtain ⟨q8, hq8, h⟩ := jbi_h h
      refine jcallv (w' := fun _ : Nat → Nat => mW cA cL A q8.2.1 q8.2.2.1 q8.2.2.2) (va_runV (As := [.int x3, .int x4]) (rest := []) ⟨hx, hb, hml, hown, hts⟩ (cMo_swap l dC dI cA cL A x3 x4 M F L B H.size hq8) (cwV 2 hts (jgoodV jw_748 jw_750 jws_28 jw_7 jw_751) rfl rfl rfl (by decide +kernel) ⟨Nat.le_of_ble_eq_true rfl, Nat.le_of_ble_eq_true rfl⟩) (jpreV hN hJ (ci := 6) (q0 := 0) rfl rfl) rfl rfl hl.1 rfl (lv_room (Nat.le_of_ble_eq_true rfl)) dMo_nextOrder_96 ⟨Nat.zero_le _, Nat.zero_le _⟩) hA hJ (fun B H locs hJ => ?_)
      refine lv_iinc (v := x3 + 1) (lv' := [(3, .int (x3 + 1)), (0, .ref (A 0)), (4, .int x4)]) hx hb dMo_nextOrder_99 hl (k := 1) rfl rfl (by decide) rfl (fun ls hl => ?_)
      refine lv_iinc (v := x4 + (-1)) (lv' := [(4, .int (x4 + (-1))), (3, .int (x3 + 1)), (0, .ref (A 0))]) hx hb dMo_nextOrder_102 hl (k := 2) rfl (congrArg (fun z => x4 + z) (by decide)) (by decide) rfl (fun ls hl => ?_)
      refine lv_goto (tgt := 86) hx hb dMo_nextOrder_105 (by decide) ?_
      exact ih _ _ _ _ _ B _ _ _ hJ (lv_sub hl [2, 1, 0] rfl) h
set_option maxHeartbeats 4000000 in
set_option maxRecDepth 100000 in
theorem uMo_nextOrder_47 {p : Program} {e : Env} {s : State} {m : MethodId} {args : Array Value} {below : List Frame} {meth : Method} {c : Code} (l : Launch) (dC : Nat → ClassId) (dI : Nat → Nat → Nat) (cA cL : ClassId) (A : Nat → Nat) (Ap : Nat → Prop) (hC : jAt p s m args meth c bMo_nextOrder 5 (some .boolean) wMo_nextOrder RMo) (hA : ∀ q : Nat, s.heap.size ≤ q → Ap q) {r : Int32} {M' : jM} {F' : jF} {L' : jL} : ∀ (n : Nat) (x1 : Int32) (x2 : Int32) (M : jM) (F : jF) (L : jL) (B : Nat → Nat) (H : Heap) (locs : List Loc) (ls : Array Slot), jH (dC, dI) jCl [(cA, .int), (cL, .long)] (mW cA cL A M F L) Ap s H locs → lv_has ls 5 [(0, .ref (A 0)), (1, .int x1), (2, .int x2)] → fMo_nextOrder_47 n x1 x2 M F L = some (r, M', F', L') → W p l e (headSpec wMo_nextOrder rMo_nextOrder).room s m args below meth c H locs 0 0 (jQi below (dC, dI) jCl [(cA, .int), (cL, .long)] (fun _ : Nat → Nat => mW cA cL A (M') (F') (L')) Ap args s r) (F0 m 47 ls []) := by
  obtain ⟨hx, hb, hml, hr, hts, hown, hlocks, hN⟩ := id hC
  have hj : ∀ w ∈ jw, w.before args s = true := fun w h => hts w (List.mem_cons_of_mem _ h)
  intro n
  induction n with
  | zero =>
    intro x1 x2 M F L B H locs ls hJ hl h
    rw [fMo_nextOrder_47] at h
    cases h
  | succ n ih =>
    intro x1 x2 M F L B H locs ls hJ hl h
    rw [fMo_nextOrder_47] at h
    refine lv_aload_n hx hb dMo_nextOrder_47 rfl (lv_at hl 0 rfl) ?_
    refine mget_13 hx hb hj hown hJ (hj _ jw_612) dMo_nextOrder_48 ?_
    refine lv_iload_n hx hb dMo_nextOrder_51 rfl (lv_at hl 2 rfl) ?_
    obtain ⟨hi3, h⟩ := jib_h h
    refine mald_11 hx hb hJ hi3 dMo_nextOrder_52 ?_
    refine lv_aload_n hx hb dMo_nextOrder_53 rfl (lv_at hl 0 rfl) ?_
    refine mget_13 hx hb hj hown hJ (hj _ jw_612) dMo_nextOrder_54 ?_
    refine lv_iload_n hx hb dMo_nextOrder_57 rfl (lv_at hl 1 rfl) ?_
    obtain ⟨hi4, h⟩ := jib_h h
    refine mald_11 hx hb hJ hi4 dMo_nextOrder_58 ?_
    refine lv_icmp_ge (tgt := 68) hx hb dMo_nextOrder_59 (by decide) (fun c5 => ?_) (fun c5 => ?_)
    · replace h := jif_t c5 h
      refine lv_aload_n hx hb dMo_nextOrder_68 rfl (lv_at hl 0 rfl) ?_
      refine lv_iload_n hx hb dMo_nextOrder_69 rfl (lv_at hl 1 rfl) ?_
      refine lv_iload_n hx hb dMo_nextOrder_70 rfl (lv_at hl 2 rfl) ?_
      obtain ⟨q6, hq6, h⟩ := jbi_h h
      refine jcallv (w' := fun _ : Nat → Nat => mW cA cL A q6.2.1 q6.2.2.1 q6.2.2.2) (va_runV (As := [.int x1, .int x2]) (rest := []) ⟨hx, hb, hml, hown, hts⟩ (cMo_swap l dC dI cA cL A x1 x2 M F L B H.size hq6) (cwV 2 hts (jgoodV jw_748 jw_750 jws_28 jw_7 jw_751) rfl rfl rfl (by decide +kernel) ⟨Nat.le_of_ble_eq_true rfl, Nat.le_of_ble_eq_true rfl⟩) (jpreV hN hJ (ci := 6) (q0 := 0) rfl rfl) rfl rfl hl.1 rfl (lv_room (Nat.le_of_ble_eq_true rfl)) dMo_nextOrder_71 ⟨Nat.zero_le _, Nat.zero_le _⟩) hA hJ (fun B H locs hJ => ?_)
      refine lv_iload_n hx hb dMo_nextOrder_74 rfl (lv_at hl 1 rfl) ?_
      refine lv_iconst (v := 1) hx hb dMo_nextOrder_75 (by decide) ?_
      refine lv_iadd hx hb dMo_nextOrder_76 ?_
      refine lv_istore_n (lv' := [(3, .int (x1 + 1)), (0, .ref (A 0)), (1, .int x1), (2, .int x2)]) hx hb dMo_nextOrder_77 rfl hl (by decide) rfl (fun ls hl => ?_)
      refine lv_aload_n hx hb dMo_nextOrder_78 rfl (lv_at hl 1 rfl) ?_
      refine mget_4 hx hb hj hown hJ (hj _ jw_603) dMo_nextOrder_79 ?_
      refine lv_iconst (v := 1) hx hb dMo_nextOrder_82 (by decide) ?_
      refine lv_isub hx hb dMo_nextOrder_83 ?_
      refine lv_istore (lv' := [(4, .int ((q6.2.2.1 1) - 1)), (3, .int (x1 + 1)), (0, .ref (A 0)), (1, .int x1), (2, .int x2)]) hx hb dMo_nextOrder_84 hl (by decide) rfl (fun ls hl => ?_)
      exact uMo_nextOrder_86 l dC dI cA cL A Ap hC hA jfuel _ _ _ _ _ B _ _ _ hJ (lv_sub hl [2, 1, 0] rfl) h
    · replace h := jif_f c5 h
      refine lv_iinc (v := x2 + (-1)) (lv' := [(2, .int (x2 + (-1))), (0, .ref (A 0)), (1, .int x1)]) hx hb dMo_nextOrder_62 hl (k := 2) rfl (congrArg (fun z => x2 + z) (by decide)) (by decide) rfl (fun ls hl => ?_)
      refine lv_goto (tgt := 47) hx hb dMo_nextOrder_65 (by decide) ?_
      exact ih _ _ _ _ _ B _ _ _ hJ (lv_sub hl [1, 2, 0] rfl) h
set_option maxHeartbeats 4000000 in
set_option maxRecDepth 100000 in
theorem uMo_nextOrder_34 {p : Program} {e : Env} {s : State} {m : MethodId} {args : Array Value} {below : List Frame} {meth : Method} {c : Code} (l : Launch) (dC : Nat → ClassId) (dI : Nat → Nat → Nat) (cA cL : ClassId) (A : Nat → Nat) (Ap : Nat → Prop) (hC : jAt p s m args meth c bMo_nextOrder 5 (some .boolean) wMo_nextOrder RMo) (hA : ∀ q : Nat, s.heap.size ≤ q → Ap q) {r : Int32} {M' : jM} {F' : jF} {L' : jL} : ∀ (x1 : Int32) (M : jM) (F : jF) (L : jL) (B : Nat → Nat) (H : Heap) (locs : List Loc) (ls : Array Slot), jH (dC, dI) jCl [(cA, .int), (cL, .long)] (mW cA cL A M F L) Ap s H locs → lv_has ls 5 [(0, .ref (A 0)), (1, .int x1)] → fMo_nextOrder_34 x1 M F L = some (r, M', F', L') → W p l e (headSpec wMo_nextOrder rMo_nextOrder).room s m args below meth c H locs 0 0 (jQi below (dC, dI) jCl [(cA, .int), (cL, .long)] (fun _ : Nat → Nat => mW cA cL A (M') (F') (L')) Ap args s r) (F0 m 34 ls []) := by
  obtain ⟨hx, hb, hml, hr, hts, hown, hlocks, hN⟩ := id hC
  have hj : ∀ w ∈ jw, w.before args s = true := fun w h => hts w (List.mem_cons_of_mem _ h)
  intro x1 M F L B H locs ls hJ hl h
  unfold fMo_nextOrder_34 at h
  refine lv_iload_n hx hb dMo_nextOrder_34 rfl (lv_at hl 1 rfl) ?_
  refine lv_if_ge (tgt := 40) hx hb dMo_nextOrder_35 (by decide) (fun c2 => ?_) (fun c2 => ?_)
  · replace h := jif_t c2 h
    refine lv_aload_n hx hb dMo_nextOrder_40 rfl (lv_at hl 0 rfl) ?_
    refine mget_4 hx hb hj hown hJ (hj _ jw_603) dMo_nextOrder_41 ?_
    refine lv_iconst (v := 1) hx hb dMo_nextOrder_44 (by decide) ?_
    refine lv_isub hx hb dMo_nextOrder_45 ?_
    refine lv_istore_n (lv' := [(2, .int ((F 1) - 1)), (0, .ref (A 0)), (1, .int x1)]) hx hb dMo_nextOrder_46 rfl hl (by decide) rfl (fun ls hl => ?_)
    exact uMo_nextOrder_47 l dC dI cA cL A Ap hC hA jfuel _ _ _ _ _ B _ _ _ hJ (lv_sub hl [1, 2, 0] rfl) h
  · replace h := jif_f c2 h
    refine lv_iconst (v := 0) hx hb dMo_nextOrder_38 (by decide) ?_
    cases h
    exact jreti (u := B) hx hb hr rfl hlocks hJ dMo_nextOrder_39 rfl
set_option maxHeartbeats 4000000 in
set_option maxRecDepth 100000 in
theorem uMo_nextOrder_7 {p : Program} {e : Env} {s : State} {m : MethodId} {args : Array Value} {below : List Frame} {meth : Method} {c : Code} (l : Launch) (dC : Nat → ClassId) (dI : Nat → Nat → Nat) (cA cL : ClassId) (A : Nat → Nat) (Ap : Nat → Prop) (hC : jAt p s m args meth c bMo_nextOrder 5 (some .boolean) wMo_nextOrder RMo) (hA : ∀ q : Nat, s.heap.size ≤ q → Ap q) {r : Int32} {M' : jM} {F' : jF} {L' : jL} : ∀ (n : Nat) (x1 : Int32) (M : jM) (F : jF) (L : jL) (B : Nat → Nat) (H : Heap) (locs : List Loc) (ls : Array Slot), jH (dC, dI) jCl [(cA, .int), (cL, .long)] (mW cA cL A M F L) Ap s H locs → lv_has ls 5 [(0, .ref (A 0)), (1, .int x1)] → fMo_nextOrder_7 n x1 M F L = some (r, M', F', L') → W p l e (headSpec wMo_nextOrder rMo_nextOrder).room s m args below meth c H locs 0 0 (jQi below (dC, dI) jCl [(cA, .int), (cL, .long)] (fun _ : Nat → Nat => mW cA cL A (M') (F') (L')) Ap args s r) (F0 m 7 ls []) := by
  obtain ⟨hx, hb, hml, hr, hts, hown, hlocks, hN⟩ := id hC
  have hj : ∀ w ∈ jw, w.before args s = true := fun w h => hts w (List.mem_cons_of_mem _ h)
  intro n
  induction n with
  | zero =>
    intro x1 M F L B H locs ls hJ hl h
    rw [fMo_nextOrder_7] at h
    cases h
  | succ n ih =>
    intro x1 M F L B H locs ls hJ hl h
    rw [fMo_nextOrder_7] at h
    refine lv_iload_n hx hb dMo_nextOrder_7 rfl (lv_at hl 1 rfl) ?_
    refine lv_if_lt (tgt := 34) hx hb dMo_nextOrder_8 (by decide) (fun c1 => ?_) (fun c1 => ?_)
    · replace h := jif_t c1 h
      exact uMo_nextOrder_34 l dC dI cA cL A Ap hC hA _ _ _ _ B _ _ _ hJ (lv_sub hl [0, 1] rfl) h
    · replace h := jif_f c1 h
      refine lv_aload_n hx hb dMo_nextOrder_11 rfl (lv_at hl 0 rfl) ?_
      refine mget_13 hx hb hj hown hJ (hj _ jw_612) dMo_nextOrder_12 ?_
      refine lv_iload_n hx hb dMo_nextOrder_15 rfl (lv_at hl 1 rfl) ?_
      obtain ⟨hi9, h⟩ := jib_h h
      refine mald_11 hx hb hJ hi9 dMo_nextOrder_16 ?_
      refine lv_aload_n hx hb dMo_nextOrder_17 rfl (lv_at hl 0 rfl) ?_
      refine mget_13 hx hb hj hown hJ (hj _ jw_612) dMo_nextOrder_18 ?_
      refine lv_iload_n hx hb dMo_nextOrder_21 rfl (lv_at hl 1 rfl) ?_
      refine lv_iconst (v := 1) hx hb dMo_nextOrder_22 (by decide) ?_
      refine lv_iadd hx hb dMo_nextOrder_23 ?_
      obtain ⟨hi10, h⟩ := jib_h h
      refine mald_11 hx hb hJ hi10 dMo_nextOrder_24 ?_
      refine lv_icmp_le (tgt := 34) hx hb dMo_nextOrder_25 (by decide) (fun c11 => ?_) (fun c11 => ?_)
      · replace h := jif_t c11 h
        exact uMo_nextOrder_34 l dC dI cA cL A Ap hC hA _ _ _ _ B _ _ _ hJ (lv_sub hl [0, 1] rfl) h
      · replace h := jif_f c11 h
        refine lv_iinc (v := x1 + (-1)) (lv' := [(1, .int (x1 + (-1))), (0, .ref (A 0))]) hx hb dMo_nextOrder_28 hl (k := 1) rfl (congrArg (fun z => x1 + z) (by decide)) (by decide) rfl (fun ls hl => ?_)
        refine lv_goto (tgt := 7) hx hb dMo_nextOrder_31 (by decide) ?_
        exact ih _ _ _ _ B _ _ _ hJ (lv_sub hl [1, 0] rfl) h
set_option maxHeartbeats 4000000 in
set_option maxRecDepth 100000 in
theorem uMo_nextOrder_0 {p : Program} {e : Env} {s : State} {m : MethodId} {args : Array Value} {below : List Frame} {meth : Method} {c : Code} (l : Launch) (dC : Nat → ClassId) (dI : Nat → Nat → Nat) (cA cL : ClassId) (A : Nat → Nat) (Ap : Nat → Prop) (hC : jAt p s m args meth c bMo_nextOrder 5 (some .boolean) wMo_nextOrder RMo) (hA : ∀ q : Nat, s.heap.size ≤ q → Ap q) {r : Int32} {M' : jM} {F' : jF} {L' : jL} : ∀ (M : jM) (F : jF) (L : jL) (B : Nat → Nat) (H : Heap) (locs : List Loc) (ls : Array Slot), jH (dC, dI) jCl [(cA, .int), (cL, .long)] (mW cA cL A M F L) Ap s H locs → lv_has ls 5 [(0, .ref (A 0))] → fMo_nextOrder_0 M F L = some (r, M', F', L') → W p l e (headSpec wMo_nextOrder rMo_nextOrder).room s m args below meth c H locs 0 0 (jQi below (dC, dI) jCl [(cA, .int), (cL, .long)] (fun _ : Nat → Nat => mW cA cL A (M') (F') (L')) Ap args s r) (F0 m 0 ls []) := by
  obtain ⟨hx, hb, hml, hr, hts, hown, hlocks, hN⟩ := id hC
  have hj : ∀ w ∈ jw, w.before args s = true := fun w h => hts w (List.mem_cons_of_mem _ h)
  intro  M F L B H locs ls hJ hl h
  unfold fMo_nextOrder_0 at h
  refine lv_aload_n hx hb dMo_nextOrder_0 rfl (lv_at hl 0 rfl) ?_
  refine mget_4 hx hb hj hown hJ (hj _ jw_603) dMo_nextOrder_1 ?_
  refine lv_iconst (v := 2) hx hb dMo_nextOrder_4 (by decide) ?_
  refine lv_isub hx hb dMo_nextOrder_5 ?_
  refine lv_istore_n (lv' := [(1, .int ((F 1) - 2)), (0, .ref (A 0))]) hx hb dMo_nextOrder_6 rfl hl (by decide) rfl (fun ls hl => ?_)
  exact uMo_nextOrder_7 l dC dI cA cL A Ap hC hA jfuel _ _ _ _ B _ _ _ hJ (lv_sub hl [1, 0] rfl) h
set_option maxHeartbeats 4000000 in
set_option maxRecDepth 100000 in
theorem cMo_nextOrder (l : Launch) (dC : Nat → ClassId) (dI : Nat → Nat → Nat) (cA cL : ClassId) (A : Nat → Nat) (M : jM) (F : jF) (L : jL) (B : Nat → Nat) (sz : Nat) {r : Int32} {M' : jM} {F' : jF} {L' : jL} (h : fMo_nextOrder M F L = some (r, M', F', L')) : jCi l yMo_nextOrder wMo_nextOrder rMo_nextOrder (dC, dI) jCl [(cA, .int), (cL, .long)] [.ref (A 0)] (mW cA cL A M F L) sz r (fun _ : Nat → Nat => mW cA cL A (M') (F') (L')) :=
  jOf (Qc := fun Ap => va_Qi (fun q (_ : Nat → Nat) => q = r) (jPost (dC, dI) jCl [(cA, .int), (cL, .long)] (fun _ : Nat → Nat => mW cA cL A (M') (F') (L')) Ap) Ap) (by decide) rfl (Nat.le_of_ble_eq_true rfl) (fun p e s m below meth c Ap ls hC hA hJ hl => uMo_nextOrder_0 l dC dI cA cL A Ap hC hA _ _ _ B _ _ _ hJ (lv_sub hl [0] rfl) h)
abbrev bMo_sumOfOrder : ByteArray := prog_8_method_20_code
abbrev yMo_sumOfOrder : MethodName := ⟨RMo, "sumOfOrder", "()J"⟩
abbrev wMo_sumOfOrder : List Cond := .code yMo_sumOfOrder bMo_sumOfOrder 5 (some .long) :: jw
theorem dMo_sumOfOrder_0 : decode bMo_sumOfOrder 0 = .ok (.lconst 0, 1) := by decide +kernel
theorem dMo_sumOfOrder_1 : decode bMo_sumOfOrder 1 = .ok (.lstore_n 1, 1) := by decide +kernel
theorem dMo_sumOfOrder_2 : decode bMo_sumOfOrder 2 = .ok (.iconst 0, 1) := by decide +kernel
theorem dMo_sumOfOrder_3 : decode bMo_sumOfOrder 3 = .ok (.istore_n 3, 1) := by decide +kernel
theorem dMo_sumOfOrder_4 : decode bMo_sumOfOrder 4 = .ok (.iconst 0, 1) := by decide +kernel
theorem dMo_sumOfOrder_5 : decode bMo_sumOfOrder 5 = .ok (.istore 4, 2) := by decide +kernel
theorem dMo_sumOfOrder_7 : decode bMo_sumOfOrder 7 = .ok (.iload 4, 2) := by decide +kernel
theorem dMo_sumOfOrder_9 : decode bMo_sumOfOrder 9 = .ok (.aload_n 0, 1) := by decide +kernel
theorem dMo_sumOfOrder_10 : decode bMo_sumOfOrder 10 = .ok (.getfield 64, 3) := by decide +kernel
theorem dMo_sumOfOrder_13 : decode bMo_sumOfOrder 13 = .ok (.if_icmp .ge 30, 3) := by decide +kernel
theorem dMo_sumOfOrder_16 : decode bMo_sumOfOrder 16 = .ok (.iload_n 3, 1) := by decide +kernel
theorem dMo_sumOfOrder_17 : decode bMo_sumOfOrder 17 = .ok (.iconst 1, 1) := by decide +kernel
theorem dMo_sumOfOrder_18 : decode bMo_sumOfOrder 18 = .ok (.aload_n 0, 1) := by decide +kernel
theorem dMo_sumOfOrder_19 : decode bMo_sumOfOrder 19 = .ok (.getfield 41, 3) := by decide +kernel
theorem dMo_sumOfOrder_22 : decode bMo_sumOfOrder 22 = .ok (.iload 4, 2) := by decide +kernel
theorem dMo_sumOfOrder_24 : decode bMo_sumOfOrder 24 = .ok (.iaload, 1) := by decide +kernel
theorem dMo_sumOfOrder_25 : decode bMo_sumOfOrder 25 = .ok (.ishl, 1) := by decide +kernel
theorem dMo_sumOfOrder_26 : decode bMo_sumOfOrder 26 = .ok (.ior, 1) := by decide +kernel
theorem dMo_sumOfOrder_27 : decode bMo_sumOfOrder 27 = .ok (.istore_n 3, 1) := by decide +kernel
theorem dMo_sumOfOrder_28 : decode bMo_sumOfOrder 28 = .ok (.lload_n 1, 1) := by decide +kernel
theorem dMo_sumOfOrder_29 : decode bMo_sumOfOrder 29 = .ok (.aload_n 0, 1) := by decide +kernel
theorem dMo_sumOfOrder_30 : decode bMo_sumOfOrder 30 = .ok (.getfield 37, 3) := by decide +kernel
theorem dMo_sumOfOrder_33 : decode bMo_sumOfOrder 33 = .ok (.iload_n 3, 1) := by decide +kernel
theorem dMo_sumOfOrder_34 : decode bMo_sumOfOrder 34 = .ok (.laload, 1) := by decide +kernel
theorem dMo_sumOfOrder_35 : decode bMo_sumOfOrder 35 = .ok (.ladd, 1) := by decide +kernel
theorem dMo_sumOfOrder_36 : decode bMo_sumOfOrder 36 = .ok (.lstore_n 1, 1) := by decide +kernel
theorem dMo_sumOfOrder_37 : decode bMo_sumOfOrder 37 = .ok (.iinc 4 1, 3) := by decide +kernel
theorem dMo_sumOfOrder_40 : decode bMo_sumOfOrder 40 = .ok (.goto (-33), 3) := by decide +kernel
theorem dMo_sumOfOrder_43 : decode bMo_sumOfOrder 43 = .ok (.lload_n 1, 1) := by decide +kernel
theorem dMo_sumOfOrder_44 : decode bMo_sumOfOrder 44 = .ok (.lreturn, 1) := by decide +kernel
abbrev rMo_sumOfOrder : Room := { frames := 0, cells := 0, slots := 0, locals := 0 }
def fMo_sumOfOrder_7 : Nat → Int64 → Int32 → Int32 → jM → jF → jL → Option Int64
  | 0, _, _, _, _, _, _ => none
  | n + 1, x1, x3, x4, M, F, L => (if (F 1) ≤ x4 then some x1 else (if jib x4 6 then (if jib (x3 ||| (1 <<< ((M 11 x4.toNatClampNeg) &&& 31))) 64 then fMo_sumOfOrder_7 n (x1 + (L (x3 ||| (1 <<< ((M 11 x4.toNatClampNeg) &&& 31))).toNatClampNeg)) (x3 ||| (1 <<< ((M 11 x4.toNatClampNeg) &&& 31))) (x4 + 1) M F L else none) else none))
def fMo_sumOfOrder_0 (M : jM) (F : jF) (L : jL) : Option Int64 := fMo_sumOfOrder_7 jfuel 0 0 0 M F L
abbrev fMo_sumOfOrder (M : jM) (F : jF) (L : jL) : Option Int64 := fMo_sumOfOrder_0  M F L
set_option maxHeartbeats 4000000 in
set_option maxRecDepth 100000 in
theorem uMo_sumOfOrder_7 {p : Program} {e : Env} {s : State} {m : MethodId} {args : Array Value} {below : List Frame} {meth : Method} {c : Code} (l : Launch) (dC : Nat → ClassId) (dI : Nat → Nat → Nat) (cA cL : ClassId) (A : Nat → Nat) (Ap : Nat → Prop) (hC : jAt p s m args meth c bMo_sumOfOrder 5 (some .long) wMo_sumOfOrder RMo) (hA : ∀ q : Nat, s.heap.size ≤ q → Ap q) {r : Int64} : ∀ (n : Nat) (x1 : Int64) (x3 : Int32) (x4 : Int32) (M : jM) (F : jF) (L : jL) (B : Nat → Nat) (H : Heap) (locs : List Loc) (ls : Array Slot), jH (dC, dI) jCl [(cA, .int), (cL, .long)] (mW cA cL A M F L) Ap s H locs → lv_has ls 5 [(0, .ref (A 0)), (1, .long x1), (3, .int x3), (4, .int x4)] → fMo_sumOfOrder_7 n x1 x3 x4 M F L = some r → W p l e (headSpec wMo_sumOfOrder rMo_sumOfOrder).room s m args below meth c H locs 0 0 (jQl below (dC, dI) jCl [(cA, .int), (cL, .long)] (fun _ : Nat → Nat => mW cA cL A M F L) Ap args s r) (F0 m 7 ls []) := by
  obtain ⟨hx, hb, hml, hr, hts, hown, hlocks, hN⟩ := id hC
  have hj : ∀ w ∈ jw, w.before args s = true := fun w h => hts w (List.mem_cons_of_mem _ h)
  intro n
  induction n with
  | zero =>
    intro x1 x3 x4 M F L B H locs ls hJ hl h
    rw [fMo_sumOfOrder_7] at h
    cases h
  | succ n ih =>
    intro x1 x3 x4 M F L B H locs ls hJ hl h
    rw [fMo_sumOfOrder_7] at h
    refine lv_iload hx hb dMo_sumOfOrder_7 (lv_at hl 3 rfl) ?_
    refine lv_aload_n hx hb dMo_sumOfOrder_9 rfl (lv_at hl 0 rfl) ?_
    refine mget_4 hx hb hj hown hJ (hj _ jw_603) dMo_sumOfOrder_10 ?_
    refine lv_icmp_ge (tgt := 43) hx hb dMo_sumOfOrder_13 (by decide) (fun c1 => ?_) (fun c1 => ?_)
    · replace h := jif_t c1 h
      refine lv_lload_n hx hb dMo_sumOfOrder_43 rfl (lv_at hl 1 rfl) ?_
      exact jretl (u := B) hx hb hr hlocks hJ dMo_sumOfOrder_44 (Option.some.inj h)
    · replace h := jif_f c1 h
      refine lv_iload_n hx hb dMo_sumOfOrder_16 rfl (lv_at hl 2 rfl) ?_
      refine lv_iconst (v := 1) hx hb dMo_sumOfOrder_17 (by decide) ?_
      refine lv_aload_n hx hb dMo_sumOfOrder_18 rfl (lv_at hl 0 rfl) ?_
      refine mget_13 hx hb hj hown hJ (hj _ jw_612) dMo_sumOfOrder_19 ?_
      refine lv_iload hx hb dMo_sumOfOrder_22 (lv_at hl 3 rfl) ?_
      obtain ⟨hi2, h⟩ := jib_h h
      refine mald_11 hx hb hJ hi2 dMo_sumOfOrder_24 ?_
      refine lv_ishl hx hb dMo_sumOfOrder_25 ?_
      refine lv_ior hx hb dMo_sumOfOrder_26 ?_
      refine lv_istore_n (lv' := [(3, .int (x3 ||| (1 <<< ((M 11 x4.toNatClampNeg) &&& 31)))), (0, .ref (A 0)), (1, .long x1), (4, .int x4)]) hx hb dMo_sumOfOrder_27 rfl hl (by decide) rfl (fun ls hl => ?_)
      refine lv_lload_n hx hb dMo_sumOfOrder_28 rfl (lv_at hl 2 rfl) ?_
      refine lv_aload_n hx hb dMo_sumOfOrder_29 rfl (lv_at hl 1 rfl) ?_
      refine mget_12 hx hb hj hown hJ (hj _ jw_611) dMo_sumOfOrder_30 ?_
      refine lv_iload_n hx hb dMo_sumOfOrder_33 rfl (lv_at hl 0 rfl) ?_
      obtain ⟨hi3, h⟩ := jib_h h
      refine mald_10 hx hb hJ hi3 dMo_sumOfOrder_34 ?_
      refine lv_ladd hx hb dMo_sumOfOrder_35 ?_
      refine lv_lstore_n (lv' := [(1, .long (x1 + (L (x3 ||| (1 <<< ((M 11 x4.toNatClampNeg) &&& 31))).toNatClampNeg))), (3, .int (x3 ||| (1 <<< ((M 11 x4.toNatClampNeg) &&& 31)))), (0, .ref (A 0)), (4, .int x4)]) hx hb dMo_sumOfOrder_36 rfl hl (by decide) rfl (fun ls hl => ?_)
      refine lv_iinc (v := x4 + 1) (lv' := [(4, .int (x4 + 1)), (1, .long (x1 + (L (x3 ||| (1 <<< ((M 11 x4.toNatClampNeg) &&& 31))).toNatClampNeg))), (3, .int (x3 ||| (1 <<< ((M 11 x4.toNatClampNeg) &&& 31)))), (0, .ref (A 0))]) hx hb dMo_sumOfOrder_37 hl (k := 3) rfl rfl (by decide) rfl (fun ls hl => ?_)
      refine lv_goto (tgt := 7) hx hb dMo_sumOfOrder_40 (by decide) ?_
      exact ih _ _ _ _ _ _ B _ _ _ hJ (lv_sub hl [3, 1, 2, 0] rfl) h
set_option maxHeartbeats 4000000 in
set_option maxRecDepth 100000 in
theorem uMo_sumOfOrder_0 {p : Program} {e : Env} {s : State} {m : MethodId} {args : Array Value} {below : List Frame} {meth : Method} {c : Code} (l : Launch) (dC : Nat → ClassId) (dI : Nat → Nat → Nat) (cA cL : ClassId) (A : Nat → Nat) (Ap : Nat → Prop) (hC : jAt p s m args meth c bMo_sumOfOrder 5 (some .long) wMo_sumOfOrder RMo) (hA : ∀ q : Nat, s.heap.size ≤ q → Ap q) {r : Int64} : ∀ (M : jM) (F : jF) (L : jL) (B : Nat → Nat) (H : Heap) (locs : List Loc) (ls : Array Slot), jH (dC, dI) jCl [(cA, .int), (cL, .long)] (mW cA cL A M F L) Ap s H locs → lv_has ls 5 [(0, .ref (A 0))] → fMo_sumOfOrder_0 M F L = some r → W p l e (headSpec wMo_sumOfOrder rMo_sumOfOrder).room s m args below meth c H locs 0 0 (jQl below (dC, dI) jCl [(cA, .int), (cL, .long)] (fun _ : Nat → Nat => mW cA cL A M F L) Ap args s r) (F0 m 0 ls []) := by
  obtain ⟨hx, hb, hml, hr, hts, hown, hlocks, hN⟩ := id hC
  have hj : ∀ w ∈ jw, w.before args s = true := fun w h => hts w (List.mem_cons_of_mem _ h)
  intro  M F L B H locs ls hJ hl h
  unfold fMo_sumOfOrder_0 at h
  refine lv_lconst (v := 0) hx hb dMo_sumOfOrder_0 (by decide) ?_
  refine lv_lstore_n (lv' := [(1, .long 0), (0, .ref (A 0))]) hx hb dMo_sumOfOrder_1 rfl hl (by decide) rfl (fun ls hl => ?_)
  refine lv_iconst (v := 0) hx hb dMo_sumOfOrder_2 (by decide) ?_
  refine lv_istore_n (lv' := [(3, .int 0), (1, .long 0), (0, .ref (A 0))]) hx hb dMo_sumOfOrder_3 rfl hl (by decide) rfl (fun ls hl => ?_)
  refine lv_iconst (v := 0) hx hb dMo_sumOfOrder_4 (by decide) ?_
  refine lv_istore (lv' := [(4, .int 0), (3, .int 0), (1, .long 0), (0, .ref (A 0))]) hx hb dMo_sumOfOrder_5 hl (by decide) rfl (fun ls hl => ?_)
  exact uMo_sumOfOrder_7 l dC dI cA cL A Ap hC hA jfuel _ _ _ _ _ _ B _ _ _ hJ (lv_sub hl [3, 2, 1, 0] rfl) h
set_option maxHeartbeats 4000000 in
set_option maxRecDepth 100000 in
theorem cMo_sumOfOrder (l : Launch) (dC : Nat → ClassId) (dI : Nat → Nat → Nat) (cA cL : ClassId) (A : Nat → Nat) (M : jM) (F : jF) (L : jL) (B : Nat → Nat) (sz : Nat) {r : Int64} (h : fMo_sumOfOrder M F L = some r) : jCl2 l yMo_sumOfOrder wMo_sumOfOrder rMo_sumOfOrder (dC, dI) jCl [(cA, .int), (cL, .long)] [.ref (A 0)] (mW cA cL A M F L) sz r (fun _ : Nat → Nat => mW cA cL A M F L) :=
  jOf (Qc := fun Ap => va_Ql (fun q (_ : Nat → Nat) => q = r) (jPost (dC, dI) jCl [(cA, .int), (cL, .long)] (fun _ : Nat → Nat => mW cA cL A M F L) Ap) Ap) (by decide) rfl (Nat.le_of_ble_eq_true rfl) (fun p e s m below meth c Ap ls hC hA hJ hl => uMo_sumOfOrder_0 l dC dI cA cL A Ap hC hA _ _ _ B _ _ _ hJ (lv_sub hl [0] rfl) h)
abbrev bMo_makePlan : ByteArray := prog_8_method_21_code
abbrev yMo_makePlan : MethodName := ⟨RMo, "makePlan", "()V"⟩
abbrev wMo_makePlan : List Cond := .code yMo_makePlan bMo_makePlan 7 none :: jw
theorem dMo_makePlan_0 : decode bMo_makePlan 0 = .ok (.iconst 1, 1) := by decide +kernel
theorem dMo_makePlan_1 : decode bMo_makePlan 1 = .ok (.istore_n 1, 1) := by decide +kernel
theorem dMo_makePlan_2 : decode bMo_makePlan 2 = .ok (.iload_n 1, 1) := by decide +kernel
theorem dMo_makePlan_3 : decode bMo_makePlan 3 = .ok (.iconst 1, 1) := by decide +kernel
theorem dMo_makePlan_4 : decode bMo_makePlan 4 = .ok (.aload_n 0, 1) := by decide +kernel
theorem dMo_makePlan_5 : decode bMo_makePlan 5 = .ok (.getfield 64, 3) := by decide +kernel
theorem dMo_makePlan_8 : decode bMo_makePlan 8 = .ok (.ishl, 1) := by decide +kernel
theorem dMo_makePlan_9 : decode bMo_makePlan 9 = .ok (.if_icmp .ge 20, 3) := by decide +kernel
theorem dMo_makePlan_12 : decode bMo_makePlan 12 = .ok (.aload_n 0, 1) := by decide +kernel
theorem dMo_makePlan_13 : decode bMo_makePlan 13 = .ok (.getfield 37, 3) := by decide +kernel
theorem dMo_makePlan_16 : decode bMo_makePlan 16 = .ok (.iload_n 1, 1) := by decide +kernel
theorem dMo_makePlan_17 : decode bMo_makePlan 17 = .ok (.aload_n 0, 1) := by decide +kernel
theorem dMo_makePlan_18 : decode bMo_makePlan 18 = .ok (.iload_n 1, 1) := by decide +kernel
theorem dMo_makePlan_19 : decode bMo_makePlan 19 = .ok (.invokevirtual 97, 3) := by decide +kernel
theorem dMo_makePlan_22 : decode bMo_makePlan 22 = .ok (.lastore, 1) := by decide +kernel
theorem dMo_makePlan_23 : decode bMo_makePlan 23 = .ok (.iinc 1 1, 3) := by decide +kernel
theorem dMo_makePlan_26 : decode bMo_makePlan 26 = .ok (.goto (-24), 3) := by decide +kernel
theorem dMo_makePlan_29 : decode bMo_makePlan 29 = .ok (.iconst 0, 1) := by decide +kernel
theorem dMo_makePlan_30 : decode bMo_makePlan 30 = .ok (.istore_n 1, 1) := by decide +kernel
theorem dMo_makePlan_31 : decode bMo_makePlan 31 = .ok (.iload_n 1, 1) := by decide +kernel
theorem dMo_makePlan_32 : decode bMo_makePlan 32 = .ok (.aload_n 0, 1) := by decide +kernel
theorem dMo_makePlan_33 : decode bMo_makePlan 33 = .ok (.getfield 64, 3) := by decide +kernel
theorem dMo_makePlan_36 : decode bMo_makePlan 36 = .ok (.if_icmp .ge 16, 3) := by decide +kernel
theorem dMo_makePlan_39 : decode bMo_makePlan 39 = .ok (.aload_n 0, 1) := by decide +kernel
theorem dMo_makePlan_40 : decode bMo_makePlan 40 = .ok (.getfield 41, 3) := by decide +kernel
theorem dMo_makePlan_43 : decode bMo_makePlan 43 = .ok (.iload_n 1, 1) := by decide +kernel
theorem dMo_makePlan_44 : decode bMo_makePlan 44 = .ok (.iload_n 1, 1) := by decide +kernel
theorem dMo_makePlan_45 : decode bMo_makePlan 45 = .ok (.iastore, 1) := by decide +kernel
theorem dMo_makePlan_46 : decode bMo_makePlan 46 = .ok (.iinc 1 1, 3) := by decide +kernel
theorem dMo_makePlan_49 : decode bMo_makePlan 49 = .ok (.goto (-18), 3) := by decide +kernel
theorem dMo_makePlan_52 : decode bMo_makePlan 52 = .ok (.ldc2_w 101, 3) := by decide +kernel
theorem dMo_makePlan_55 : decode bMo_makePlan 55 = .ok (.lstore_n 1, 1) := by decide +kernel
theorem dMo_makePlan_56 : decode bMo_makePlan 56 = .ok (.iconst 1, 1) := by decide +kernel
theorem dMo_makePlan_57 : decode bMo_makePlan 57 = .ok (.istore_n 3, 1) := by decide +kernel
theorem dMo_makePlan_58 : decode bMo_makePlan 58 = .ok (.iload_n 3, 1) := by decide +kernel
theorem dMo_makePlan_59 : decode bMo_makePlan 59 = .ok (.ifCond .eq 65, 3) := by decide +kernel
theorem dMo_makePlan_62 : decode bMo_makePlan 62 = .ok (.aload_n 0, 1) := by decide +kernel
theorem dMo_makePlan_63 : decode bMo_makePlan 63 = .ok (.invokevirtual 103, 3) := by decide +kernel
theorem dMo_makePlan_66 : decode bMo_makePlan 66 = .ok (.lstore 4, 2) := by decide +kernel
theorem dMo_makePlan_68 : decode bMo_makePlan 68 = .ok (.lload_n 1, 1) := by decide +kernel
theorem dMo_makePlan_69 : decode bMo_makePlan 69 = .ok (.lconst 0, 1) := by decide +kernel
theorem dMo_makePlan_70 : decode bMo_makePlan 70 = .ok (.lcmp, 1) := by decide +kernel
theorem dMo_makePlan_71 : decode bMo_makePlan 71 = .ok (.ifCond .lt 10, 3) := by decide +kernel
theorem dMo_makePlan_74 : decode bMo_makePlan 74 = .ok (.lload 4, 2) := by decide +kernel
theorem dMo_makePlan_76 : decode bMo_makePlan 76 = .ok (.lload_n 1, 1) := by decide +kernel
theorem dMo_makePlan_77 : decode bMo_makePlan 77 = .ok (.lcmp, 1) := by decide +kernel
theorem dMo_makePlan_78 : decode bMo_makePlan 78 = .ok (.ifCond .ge 38, 3) := by decide +kernel
theorem dMo_makePlan_81 : decode bMo_makePlan 81 = .ok (.lload 4, 2) := by decide +kernel
theorem dMo_makePlan_83 : decode bMo_makePlan 83 = .ok (.lstore_n 1, 1) := by decide +kernel
theorem dMo_makePlan_84 : decode bMo_makePlan 84 = .ok (.iconst 0, 1) := by decide +kernel
theorem dMo_makePlan_85 : decode bMo_makePlan 85 = .ok (.istore 6, 2) := by decide +kernel
theorem dMo_makePlan_87 : decode bMo_makePlan 87 = .ok (.iload 6, 2) := by decide +kernel
theorem dMo_makePlan_89 : decode bMo_makePlan 89 = .ok (.aload_n 0, 1) := by decide +kernel
theorem dMo_makePlan_90 : decode bMo_makePlan 90 = .ok (.getfield 64, 3) := by decide +kernel
theorem dMo_makePlan_93 : decode bMo_makePlan 93 = .ok (.if_icmp .ge 23, 3) := by decide +kernel
theorem dMo_makePlan_96 : decode bMo_makePlan 96 = .ok (.aload_n 0, 1) := by decide +kernel
theorem dMo_makePlan_97 : decode bMo_makePlan 97 = .ok (.getfield 44, 3) := by decide +kernel
theorem dMo_makePlan_100 : decode bMo_makePlan 100 = .ok (.iload 6, 2) := by decide +kernel
theorem dMo_makePlan_102 : decode bMo_makePlan 102 = .ok (.aload_n 0, 1) := by decide +kernel
theorem dMo_makePlan_103 : decode bMo_makePlan 103 = .ok (.getfield 41, 3) := by decide +kernel
theorem dMo_makePlan_106 : decode bMo_makePlan 106 = .ok (.iload 6, 2) := by decide +kernel
theorem dMo_makePlan_108 : decode bMo_makePlan 108 = .ok (.iaload, 1) := by decide +kernel
theorem dMo_makePlan_109 : decode bMo_makePlan 109 = .ok (.iastore, 1) := by decide +kernel
theorem dMo_makePlan_110 : decode bMo_makePlan 110 = .ok (.iinc 6 1, 3) := by decide +kernel
theorem dMo_makePlan_113 : decode bMo_makePlan 113 = .ok (.goto (-26), 3) := by decide +kernel
theorem dMo_makePlan_116 : decode bMo_makePlan 116 = .ok (.aload_n 0, 1) := by decide +kernel
theorem dMo_makePlan_117 : decode bMo_makePlan 117 = .ok (.invokevirtual 107, 3) := by decide +kernel
theorem dMo_makePlan_120 : decode bMo_makePlan 120 = .ok (.istore_n 3, 1) := by decide +kernel
theorem dMo_makePlan_121 : decode bMo_makePlan 121 = .ok (.goto (-63), 3) := by decide +kernel
theorem dMo_makePlan_124 : decode bMo_makePlan 124 = .ok (.return_, 1) := by decide +kernel
abbrev rMo_makePlan : Room := { frames := 4, cells := 0, slots := 0, locals := 97 }
def fMo_makePlan_87 (k116 : Int64 → jM → jF → jL → Option (Int32 × jM × jF × jL)) : Nat → Int64 → Int32 → jM → jF → jL → Option (Int32 × jM × jF × jL)
  | 0, _, _, _, _, _ => none
  | n + 1, x1, x6, M, F, L => (if (F 1) ≤ x6 then k116 x1 M F L else (if jib x6 6 then (if jib x6 6 then fMo_makePlan_87 k116 n x1 (x6 + 1) (jmu M 12 x6.toNatClampNeg (M 11 x6.toNatClampNeg)) F L else none) else none))
def fMo_makePlan_116 (k58 : Int64 → Int32 → jM → jF → jL → Option (Int32 × jM × jF × jL)) (x1 : Int64) (M : jM) (F : jF) (L : jL) : Option (Int32 × jM × jF × jL) := ((fMo_nextOrder M F L).bind fun q9 => k58 x1 q9.1 q9.2.1 q9.2.2.1 q9.2.2.2)
def fMo_makePlan_81 (k58 : Int64 → Int32 → jM → jF → jL → Option (Int32 × jM × jF × jL)) (x4 : Int64) (M : jM) (F : jF) (L : jL) : Option (Int32 × jM × jF × jL) := fMo_makePlan_87 (fun x1 M F L => fMo_makePlan_116 (fun x1 x3 M F L => k58 x1 x3 M F L) x1 M F L) jfuel x4 0 M F L
def fMo_makePlan_58 : Nat → Int64 → Int32 → jM → jF → jL → Option (Int32 × jM × jF × jL)
  | 0, _, _, _, _, _ => none
  | n + 1, x1, x3, M, F, L => (if x3 = 0 then some (0, M, F, L) else ((fMo_sumOfOrder M F L).bind fun q4 => (if (lg_cmp x1 0) < 0 then fMo_makePlan_81 (fun x1 x3 M F L => fMo_makePlan_58 n x1 x3 M F L) q4 M F L else (if 0 ≤ (lg_cmp q4 x1) then fMo_makePlan_116 (fun x1 x3 M F L => fMo_makePlan_58 n x1 x3 M F L) x1 M F L else fMo_makePlan_81 (fun x1 x3 M F L => fMo_makePlan_58 n x1 x3 M F L) q4 M F L))))
def fMo_makePlan_31 : Nat → Int32 → jM → jF → jL → Option (Int32 × jM × jF × jL)
  | 0, _, _, _, _ => none
  | n + 1, x1, M, F, L => (if (F 1) ≤ x1 then fMo_makePlan_58 jfuel (-1) 1 M F L else (if jib x1 6 then fMo_makePlan_31 n (x1 + 1) (jmu M 11 x1.toNatClampNeg x1) F L else none))
def fMo_makePlan_2 : Nat → Int32 → jM → jF → jL → Option (Int32 × jM × jF × jL)
  | 0, _, _, _, _ => none
  | n + 1, x1, M, F, L => (if (1 <<< ((F 1) &&& 31)) ≤ x1 then fMo_makePlan_31 jfuel 0 M F L else ((fMo_sizeOf x1 M F L).bind fun q12 => (if jib x1 64 then fMo_makePlan_2 n (x1 + 1) M F (vp_updL L x1.toNatClampNeg q12) else none)))
def fMo_makePlan_0 (M : jM) (F : jF) (L : jL) : Option (Int32 × jM × jF × jL) := fMo_makePlan_2 jfuel 1 M F L
abbrev fMo_makePlan (M : jM) (F : jF) (L : jL) : Option (Int32 × jM × jF × jL) := fMo_makePlan_0  M F L
set_option maxHeartbeats 4000000 in
set_option maxRecDepth 100000 in
theorem uMo_makePlan_87 {p : Program} {e : Env} {s : State} {m : MethodId} {args : Array Value} {below : List Frame} {meth : Method} {c : Code} (l : Launch) (dC : Nat → ClassId) (dI : Nat → Nat → Nat) (cA cL : ClassId) (A : Nat → Nat) (Ap : Nat → Prop) (hC : jAt p s m args meth c bMo_makePlan 7 none wMo_makePlan RMo) (hA : ∀ q : Nat, s.heap.size ≤ q → Ap q) {r : Int32} {M' : jM} {F' : jF} {L' : jL} (k116 : Int64 → jM → jF → jL → Option (Int32 × jM × jF × jL)) (hk116 : ∀ (x1 : Int64) (M : jM) (F : jF) (L : jL) (B : Nat → Nat) (H : Heap) (locs : List Loc) (ls : Array Slot), jH (dC, dI) jCl [(cA, .int), (cL, .long)] (mW cA cL A M F L) Ap s H locs → lv_has ls 7 [(0, .ref (A 0)), (1, .long x1)] → k116 x1 M F L = some (r, M', F', L') → W p l e (headSpec wMo_makePlan rMo_makePlan).room s m args below meth c H locs 0 0 (jQv below (dC, dI) jCl [(cA, .int), (cL, .long)] (fun _ : Nat → Nat => mW cA cL A (M') (F') (L')) Ap args s) (F0 m 116 ls [])) : ∀ (n : Nat) (x1 : Int64) (x6 : Int32) (M : jM) (F : jF) (L : jL) (B : Nat → Nat) (H : Heap) (locs : List Loc) (ls : Array Slot), jH (dC, dI) jCl [(cA, .int), (cL, .long)] (mW cA cL A M F L) Ap s H locs → lv_has ls 7 [(0, .ref (A 0)), (1, .long x1), (6, .int x6)] → fMo_makePlan_87 k116 n x1 x6 M F L = some (r, M', F', L') → W p l e (headSpec wMo_makePlan rMo_makePlan).room s m args below meth c H locs 0 0 (jQv below (dC, dI) jCl [(cA, .int), (cL, .long)] (fun _ : Nat → Nat => mW cA cL A (M') (F') (L')) Ap args s) (F0 m 87 ls []) := by
  obtain ⟨hx, hb, hml, hr, hts, hown, hlocks, hN⟩ := id hC
  have hj : ∀ w ∈ jw, w.before args s = true := fun w h => hts w (List.mem_cons_of_mem _ h)
  intro n
  induction n with
  | zero =>
    intro x1 x6 M F L B H locs ls hJ hl h
    rw [fMo_makePlan_87] at h
    cases h
  | succ n ih =>
    intro x1 x6 M F L B H locs ls hJ hl h
    rw [fMo_makePlan_87] at h
    refine lv_iload hx hb dMo_makePlan_87 (lv_at hl 2 rfl) ?_
    refine lv_aload_n hx hb dMo_makePlan_89 rfl (lv_at hl 0 rfl) ?_
    refine mget_4 hx hb hj hown hJ (hj _ jw_603) dMo_makePlan_90 ?_
    refine lv_icmp_ge (tgt := 116) hx hb dMo_makePlan_93 (by decide) (fun c6 => ?_) (fun c6 => ?_)
    · replace h := jif_t c6 h
      exact hk116 _ _ _ _ B _ _ _ hJ (lv_sub hl [0, 1] rfl) h
    · replace h := jif_f c6 h
      refine lv_aload_n hx hb dMo_makePlan_96 rfl (lv_at hl 0 rfl) ?_
      refine mget_14 hx hb hj hown hJ (hj _ jw_613) dMo_makePlan_97 ?_
      refine lv_iload hx hb dMo_makePlan_100 (lv_at hl 2 rfl) ?_
      refine lv_aload_n hx hb dMo_makePlan_102 rfl (lv_at hl 0 rfl) ?_
      refine mget_13 hx hb hj hown hJ (hj _ jw_612) dMo_makePlan_103 ?_
      refine lv_iload hx hb dMo_makePlan_106 (lv_at hl 2 rfl) ?_
      obtain ⟨hi7, h⟩ := jib_h h
      refine mald_11 hx hb hJ hi7 dMo_makePlan_108 ?_
      obtain ⟨hi8, h⟩ := jib_h h
      refine mast_12 hx hb hJ hi8 dMo_makePlan_109 (fun H locs hJ => ?_)
      refine lv_iinc (v := x6 + 1) (lv' := [(6, .int (x6 + 1)), (0, .ref (A 0)), (1, .long x1)]) hx hb dMo_makePlan_110 hl (k := 2) rfl rfl (by decide) rfl (fun ls hl => ?_)
      refine lv_goto (tgt := 87) hx hb dMo_makePlan_113 (by decide) ?_
      exact ih _ _ _ _ _ B _ _ _ hJ (lv_sub hl [1, 2, 0] rfl) h
set_option maxHeartbeats 4000000 in
set_option maxRecDepth 100000 in
theorem uMo_makePlan_116 {p : Program} {e : Env} {s : State} {m : MethodId} {args : Array Value} {below : List Frame} {meth : Method} {c : Code} (l : Launch) (dC : Nat → ClassId) (dI : Nat → Nat → Nat) (cA cL : ClassId) (A : Nat → Nat) (Ap : Nat → Prop) (hC : jAt p s m args meth c bMo_makePlan 7 none wMo_makePlan RMo) (hA : ∀ q : Nat, s.heap.size ≤ q → Ap q) {r : Int32} {M' : jM} {F' : jF} {L' : jL} (k58 : Int64 → Int32 → jM → jF → jL → Option (Int32 × jM × jF × jL)) (hk58 : ∀ (x1 : Int64) (x3 : Int32) (M : jM) (F : jF) (L : jL) (B : Nat → Nat) (H : Heap) (locs : List Loc) (ls : Array Slot), jH (dC, dI) jCl [(cA, .int), (cL, .long)] (mW cA cL A M F L) Ap s H locs → lv_has ls 7 [(0, .ref (A 0)), (1, .long x1), (3, .int x3)] → k58 x1 x3 M F L = some (r, M', F', L') → W p l e (headSpec wMo_makePlan rMo_makePlan).room s m args below meth c H locs 0 0 (jQv below (dC, dI) jCl [(cA, .int), (cL, .long)] (fun _ : Nat → Nat => mW cA cL A (M') (F') (L')) Ap args s) (F0 m 58 ls [])) : ∀ (x1 : Int64) (M : jM) (F : jF) (L : jL) (B : Nat → Nat) (H : Heap) (locs : List Loc) (ls : Array Slot), jH (dC, dI) jCl [(cA, .int), (cL, .long)] (mW cA cL A M F L) Ap s H locs → lv_has ls 7 [(0, .ref (A 0)), (1, .long x1)] → fMo_makePlan_116 k58 x1 M F L = some (r, M', F', L') → W p l e (headSpec wMo_makePlan rMo_makePlan).room s m args below meth c H locs 0 0 (jQv below (dC, dI) jCl [(cA, .int), (cL, .long)] (fun _ : Nat → Nat => mW cA cL A (M') (F') (L')) Ap args s) (F0 m 116 ls []) := by
  obtain ⟨hx, hb, hml, hr, hts, hown, hlocks, hN⟩ := id hC
  have hj : ∀ w ∈ jw, w.before args s = true := fun w h => hts w (List.mem_cons_of_mem _ h)
  intro x1 M F L B H locs ls hJ hl h
  unfold fMo_makePlan_116 at h
  refine lv_aload_n hx hb dMo_makePlan_116 rfl (lv_at hl 0 rfl) ?_
  obtain ⟨q9, hq9, h⟩ := jbi_h h
  refine jcalli (w' := fun _ : Nat → Nat => mW cA cL A q9.2.1 q9.2.2.1 q9.2.2.2) (va_runV (As := []) (rest := []) ⟨hx, hb, hml, hown, hts⟩ (cMo_nextOrder l dC dI cA cL A M F L B H.size hq9) (cwV 0 hts (jgoodV jw_744 jw_746 jws_27 jw_7 jw_747) rfl rfl rfl (by decide +kernel) ⟨Nat.le_of_ble_eq_true rfl, Nat.le_of_ble_eq_true rfl⟩) (jpreV hN hJ (ci := 6) (q0 := 0) rfl rfl) rfl rfl hl.1 rfl (lv_room (Nat.le_of_ble_eq_true rfl)) dMo_makePlan_117 ⟨Nat.zero_le _, Nat.zero_le _⟩) hA hJ (fun B H locs hJ => ?_)
  refine lv_istore_n (lv' := [(3, .int q9.1), (0, .ref (A 0)), (1, .long x1)]) hx hb dMo_makePlan_120 rfl hl (by decide) rfl (fun ls hl => ?_)
  refine lv_goto (tgt := 58) hx hb dMo_makePlan_121 (by decide) ?_
  exact hk58 _ _ _ _ _ B _ _ _ hJ (lv_sub hl [1, 2, 0] rfl) h
set_option maxHeartbeats 4000000 in
set_option maxRecDepth 100000 in
theorem uMo_makePlan_81 {p : Program} {e : Env} {s : State} {m : MethodId} {args : Array Value} {below : List Frame} {meth : Method} {c : Code} (l : Launch) (dC : Nat → ClassId) (dI : Nat → Nat → Nat) (cA cL : ClassId) (A : Nat → Nat) (Ap : Nat → Prop) (hC : jAt p s m args meth c bMo_makePlan 7 none wMo_makePlan RMo) (hA : ∀ q : Nat, s.heap.size ≤ q → Ap q) {r : Int32} {M' : jM} {F' : jF} {L' : jL} (k58 : Int64 → Int32 → jM → jF → jL → Option (Int32 × jM × jF × jL)) (hk58 : ∀ (x1 : Int64) (x3 : Int32) (M : jM) (F : jF) (L : jL) (B : Nat → Nat) (H : Heap) (locs : List Loc) (ls : Array Slot), jH (dC, dI) jCl [(cA, .int), (cL, .long)] (mW cA cL A M F L) Ap s H locs → lv_has ls 7 [(0, .ref (A 0)), (1, .long x1), (3, .int x3)] → k58 x1 x3 M F L = some (r, M', F', L') → W p l e (headSpec wMo_makePlan rMo_makePlan).room s m args below meth c H locs 0 0 (jQv below (dC, dI) jCl [(cA, .int), (cL, .long)] (fun _ : Nat → Nat => mW cA cL A (M') (F') (L')) Ap args s) (F0 m 58 ls [])) : ∀ (x4 : Int64) (M : jM) (F : jF) (L : jL) (B : Nat → Nat) (H : Heap) (locs : List Loc) (ls : Array Slot), jH (dC, dI) jCl [(cA, .int), (cL, .long)] (mW cA cL A M F L) Ap s H locs → lv_has ls 7 [(0, .ref (A 0)), (4, .long x4)] → fMo_makePlan_81 k58 x4 M F L = some (r, M', F', L') → W p l e (headSpec wMo_makePlan rMo_makePlan).room s m args below meth c H locs 0 0 (jQv below (dC, dI) jCl [(cA, .int), (cL, .long)] (fun _ : Nat → Nat => mW cA cL A (M') (F') (L')) Ap args s) (F0 m 81 ls []) := by
  obtain ⟨hx, hb, hml, hr, hts, hown, hlocks, hN⟩ := id hC
  have hj : ∀ w ∈ jw, w.before args s = true := fun w h => hts w (List.mem_cons_of_mem _ h)
  intro x4 M F L B H locs ls hJ hl h
  unfold fMo_makePlan_81 at h
  refine lv_lload hx hb dMo_makePlan_81 (lv_at hl 1 rfl) ?_
  refine lv_lstore_n (lv' := [(1, .long x4), (0, .ref (A 0)), (4, .long x4)]) hx hb dMo_makePlan_83 rfl hl (by decide) rfl (fun ls hl => ?_)
  refine lv_iconst (v := 0) hx hb dMo_makePlan_84 (by decide) ?_
  refine lv_istore (lv' := [(6, .int 0), (1, .long x4), (0, .ref (A 0)), (4, .long x4)]) hx hb dMo_makePlan_85 hl (by decide) rfl (fun ls hl => ?_)
  refine uMo_makePlan_87 l dC dI cA cL A Ap hC hA _ ?_ jfuel _ _ _ _ _ B _ _ _ hJ (lv_sub hl [2, 1, 0] rfl) h
  · intro x1 M F L B H locs ls hJ hl h
    refine uMo_makePlan_116 l dC dI cA cL A Ap hC hA _ ?_ _ _ _ _ B _ _ _ hJ (lv_sub hl [0, 1] rfl) h
    · intro x1 x3 M F L B H locs ls hJ hl h
      exact hk58 _ _ _ _ _ B _ _ _ hJ (lv_sub hl [0, 1, 2] rfl) h
set_option maxHeartbeats 4000000 in
set_option maxRecDepth 100000 in
theorem uMo_makePlan_58 {p : Program} {e : Env} {s : State} {m : MethodId} {args : Array Value} {below : List Frame} {meth : Method} {c : Code} (l : Launch) (dC : Nat → ClassId) (dI : Nat → Nat → Nat) (cA cL : ClassId) (A : Nat → Nat) (Ap : Nat → Prop) (hC : jAt p s m args meth c bMo_makePlan 7 none wMo_makePlan RMo) (hA : ∀ q : Nat, s.heap.size ≤ q → Ap q) {r : Int32} {M' : jM} {F' : jF} {L' : jL} : ∀ (n : Nat) (x1 : Int64) (x3 : Int32) (M : jM) (F : jF) (L : jL) (B : Nat → Nat) (H : Heap) (locs : List Loc) (ls : Array Slot), jH (dC, dI) jCl [(cA, .int), (cL, .long)] (mW cA cL A M F L) Ap s H locs → lv_has ls 7 [(0, .ref (A 0)), (1, .long x1), (3, .int x3)] → fMo_makePlan_58 n x1 x3 M F L = some (r, M', F', L') → W p l e (headSpec wMo_makePlan rMo_makePlan).room s m args below meth c H locs 0 0 (jQv below (dC, dI) jCl [(cA, .int), (cL, .long)] (fun _ : Nat → Nat => mW cA cL A (M') (F') (L')) Ap args s) (F0 m 58 ls []) := by
  obtain ⟨hx, hb, hml, hr, hts, hown, hlocks, hN⟩ := id hC
  have hj : ∀ w ∈ jw, w.before args s = true := fun w h => hts w (List.mem_cons_of_mem _ h)
  intro n
  induction n with
  | zero =>
    intro x1 x3 M F L B H locs ls hJ hl h
    rw [fMo_makePlan_58] at h
    cases h
  | succ n ih =>
    intro x1 x3 M F L B H locs ls hJ hl h
    rw [fMo_makePlan_58] at h
    refine lv_iload_n hx hb dMo_makePlan_58 rfl (lv_at hl 2 rfl) ?_
    refine lv_if_eq (tgt := 124) hx hb dMo_makePlan_59 (by decide) (fun c3 => ?_) (fun c3 => ?_)
    · replace h := jif_t c3 h
      cases h
      exact jretv (u := B) hx hb hr hlocks hJ dMo_makePlan_124
    · replace h := jif_f c3 h
      refine lv_aload_n hx hb dMo_makePlan_62 rfl (lv_at hl 0 rfl) ?_
      obtain ⟨q4, hq4, h⟩ := jbi_h h
      refine jcalll (w' := fun _ : Nat → Nat => mW cA cL A M F L) (va_runV (As := []) (rest := []) ⟨hx, hb, hml, hown, hts⟩ (cMo_sumOfOrder l dC dI cA cL A M F L B H.size hq4) (cwV 0 hts (jgoodV jw_740 jw_742 jws_26 jw_7 jw_743) rfl rfl rfl (by decide +kernel) ⟨Nat.le_of_ble_eq_true rfl, Nat.le_of_ble_eq_true rfl⟩) (jpreV hN hJ (ci := 6) (q0 := 0) rfl rfl) rfl rfl hl.1 rfl (lv_room (Nat.le_of_ble_eq_true rfl)) dMo_makePlan_63 ⟨Nat.zero_le _, Nat.zero_le _⟩) hA hJ (fun B H locs hJ => ?_)
      refine lv_lstore (lv' := [(4, .long q4), (0, .ref (A 0)), (1, .long x1), (3, .int x3)]) hx hb dMo_makePlan_66 hl (by decide) rfl (fun ls hl => ?_)
      refine lv_lload_n hx hb dMo_makePlan_68 rfl (lv_at hl 2 rfl) ?_
      refine lv_lconst (v := 0) hx hb dMo_makePlan_69 (by decide) ?_
      refine W.lcmp hx hb dMo_makePlan_70 ?_
      refine lv_if_lt (tgt := 81) hx hb dMo_makePlan_71 (by decide) (fun c5 => ?_) (fun c5 => ?_)
      · replace h := jif_t c5 h
        refine uMo_makePlan_81 l dC dI cA cL A Ap hC hA _ ?_ _ _ _ _ B _ _ _ hJ (lv_sub hl [1, 0] rfl) h
        · intro x1 x3 M F L B H locs ls hJ hl h
          exact ih _ _ _ _ _ B _ _ _ hJ (lv_sub hl [0, 1, 2] rfl) h
      · replace h := jif_f c5 h
        refine lv_lload hx hb dMo_makePlan_74 (lv_at hl 0 rfl) ?_
        refine lv_lload_n hx hb dMo_makePlan_76 rfl (lv_at hl 2 rfl) ?_
        refine W.lcmp hx hb dMo_makePlan_77 ?_
        refine lv_if_ge (tgt := 116) hx hb dMo_makePlan_78 (by decide) (fun c10 => ?_) (fun c10 => ?_)
        · replace h := jif_t c10 h
          refine uMo_makePlan_116 l dC dI cA cL A Ap hC hA _ ?_ _ _ _ _ B _ _ _ hJ (lv_sub hl [1, 2] rfl) h
          · intro x1 x3 M F L B H locs ls hJ hl h
            exact ih _ _ _ _ _ B _ _ _ hJ (lv_sub hl [0, 1, 2] rfl) h
        · replace h := jif_f c10 h
          refine uMo_makePlan_81 l dC dI cA cL A Ap hC hA _ ?_ _ _ _ _ B _ _ _ hJ (lv_sub hl [1, 0] rfl) h
          · intro x1 x3 M F L B H locs ls hJ hl h
            exact ih _ _ _ _ _ B _ _ _ hJ (lv_sub hl [0, 1, 2] rfl) h
set_option maxHeartbeats 4000000 in
set_option maxRecDepth 100000 in
theorem uMo_makePlan_31 {p : Program} {e : Env} {s : State} {m : MethodId} {args : Array Value} {below : List Frame} {meth : Method} {c : Code} (l : Launch) (dC : Nat → ClassId) (dI : Nat → Nat → Nat) (cA cL : ClassId) (A : Nat → Nat) (Ap : Nat → Prop) (hC : jAt p s m args meth c bMo_makePlan 7 none wMo_makePlan RMo) (hA : ∀ q : Nat, s.heap.size ≤ q → Ap q) {r : Int32} {M' : jM} {F' : jF} {L' : jL} : ∀ (n : Nat) (x1 : Int32) (M : jM) (F : jF) (L : jL) (B : Nat → Nat) (H : Heap) (locs : List Loc) (ls : Array Slot), jH (dC, dI) jCl [(cA, .int), (cL, .long)] (mW cA cL A M F L) Ap s H locs → lv_has ls 7 [(0, .ref (A 0)), (1, .int x1)] → fMo_makePlan_31 n x1 M F L = some (r, M', F', L') → W p l e (headSpec wMo_makePlan rMo_makePlan).room s m args below meth c H locs 0 0 (jQv below (dC, dI) jCl [(cA, .int), (cL, .long)] (fun _ : Nat → Nat => mW cA cL A (M') (F') (L')) Ap args s) (F0 m 31 ls []) := by
  obtain ⟨hx, hb, hml, hr, hts, hown, hlocks, hN⟩ := id hC
  have hj : ∀ w ∈ jw, w.before args s = true := fun w h => hts w (List.mem_cons_of_mem _ h)
  intro n
  induction n with
  | zero =>
    intro x1 M F L B H locs ls hJ hl h
    rw [fMo_makePlan_31] at h
    cases h
  | succ n ih =>
    intro x1 M F L B H locs ls hJ hl h
    rw [fMo_makePlan_31] at h
    refine lv_iload_n hx hb dMo_makePlan_31 rfl (lv_at hl 1 rfl) ?_
    refine lv_aload_n hx hb dMo_makePlan_32 rfl (lv_at hl 0 rfl) ?_
    refine mget_4 hx hb hj hown hJ (hj _ jw_603) dMo_makePlan_33 ?_
    refine lv_icmp_ge (tgt := 52) hx hb dMo_makePlan_36 (by decide) (fun c2 => ?_) (fun c2 => ?_)
    · replace h := jif_t c2 h
      refine lv_ldc2 (v := (-1)) hx hb hown (hj _ jw_739) dMo_makePlan_52 ?_
      refine lv_lstore_n (lv' := [(1, .long (-1)), (0, .ref (A 0))]) hx hb dMo_makePlan_55 rfl hl (by decide) rfl (fun ls hl => ?_)
      refine lv_iconst (v := 1) hx hb dMo_makePlan_56 (by decide) ?_
      refine lv_istore_n (lv' := [(3, .int 1), (1, .long (-1)), (0, .ref (A 0))]) hx hb dMo_makePlan_57 rfl hl (by decide) rfl (fun ls hl => ?_)
      exact uMo_makePlan_58 l dC dI cA cL A Ap hC hA jfuel _ _ _ _ _ B _ _ _ hJ (lv_sub hl [2, 1, 0] rfl) h
    · replace h := jif_f c2 h
      refine lv_aload_n hx hb dMo_makePlan_39 rfl (lv_at hl 0 rfl) ?_
      refine mget_13 hx hb hj hown hJ (hj _ jw_612) dMo_makePlan_40 ?_
      refine lv_iload_n hx hb dMo_makePlan_43 rfl (lv_at hl 1 rfl) ?_
      refine lv_iload_n hx hb dMo_makePlan_44 rfl (lv_at hl 1 rfl) ?_
      obtain ⟨hi11, h⟩ := jib_h h
      refine mast_11 hx hb hJ hi11 dMo_makePlan_45 (fun H locs hJ => ?_)
      refine lv_iinc (v := x1 + 1) (lv' := [(1, .int (x1 + 1)), (0, .ref (A 0))]) hx hb dMo_makePlan_46 hl (k := 1) rfl rfl (by decide) rfl (fun ls hl => ?_)
      refine lv_goto (tgt := 31) hx hb dMo_makePlan_49 (by decide) ?_
      exact ih _ _ _ _ B _ _ _ hJ (lv_sub hl [1, 0] rfl) h
set_option maxHeartbeats 4000000 in
set_option maxRecDepth 100000 in
theorem uMo_makePlan_2 {p : Program} {e : Env} {s : State} {m : MethodId} {args : Array Value} {below : List Frame} {meth : Method} {c : Code} (l : Launch) (dC : Nat → ClassId) (dI : Nat → Nat → Nat) (cA cL : ClassId) (A : Nat → Nat) (Ap : Nat → Prop) (hC : jAt p s m args meth c bMo_makePlan 7 none wMo_makePlan RMo) (hA : ∀ q : Nat, s.heap.size ≤ q → Ap q) {r : Int32} {M' : jM} {F' : jF} {L' : jL} : ∀ (n : Nat) (x1 : Int32) (M : jM) (F : jF) (L : jL) (B : Nat → Nat) (H : Heap) (locs : List Loc) (ls : Array Slot), jH (dC, dI) jCl [(cA, .int), (cL, .long)] (mW cA cL A M F L) Ap s H locs → lv_has ls 7 [(0, .ref (A 0)), (1, .int x1)] → fMo_makePlan_2 n x1 M F L = some (r, M', F', L') → W p l e (headSpec wMo_makePlan rMo_makePlan).room s m args below meth c H locs 0 0 (jQv below (dC, dI) jCl [(cA, .int), (cL, .long)] (fun _ : Nat → Nat => mW cA cL A (M') (F') (L')) Ap args s) (F0 m 2 ls []) := by
  obtain ⟨hx, hb, hml, hr, hts, hown, hlocks, hN⟩ := id hC
  have hj : ∀ w ∈ jw, w.before args s = true := fun w h => hts w (List.mem_cons_of_mem _ h)
  intro n
  induction n with
  | zero =>
    intro x1 M F L B H locs ls hJ hl h
    rw [fMo_makePlan_2] at h
    cases h
  | succ n ih =>
    intro x1 M F L B H locs ls hJ hl h
    rw [fMo_makePlan_2] at h
    refine lv_iload_n hx hb dMo_makePlan_2 rfl (lv_at hl 1 rfl) ?_
    refine lv_iconst (v := 1) hx hb dMo_makePlan_3 (by decide) ?_
    refine lv_aload_n hx hb dMo_makePlan_4 rfl (lv_at hl 0 rfl) ?_
    refine mget_4 hx hb hj hown hJ (hj _ jw_603) dMo_makePlan_5 ?_
    refine lv_ishl hx hb dMo_makePlan_8 ?_
    refine lv_icmp_ge (tgt := 29) hx hb dMo_makePlan_9 (by decide) (fun c1 => ?_) (fun c1 => ?_)
    · replace h := jif_t c1 h
      refine lv_iconst (v := 0) hx hb dMo_makePlan_29 (by decide) ?_
      refine lv_istore_n (lv' := [(1, .int 0), (0, .ref (A 0))]) hx hb dMo_makePlan_30 rfl hl (by decide) rfl (fun ls hl => ?_)
      exact uMo_makePlan_31 l dC dI cA cL A Ap hC hA jfuel _ _ _ _ B _ _ _ hJ (lv_sub hl [1, 0] rfl) h
    · replace h := jif_f c1 h
      refine lv_aload_n hx hb dMo_makePlan_12 rfl (lv_at hl 0 rfl) ?_
      refine mget_12 hx hb hj hown hJ (hj _ jw_611) dMo_makePlan_13 ?_
      refine lv_iload_n hx hb dMo_makePlan_16 rfl (lv_at hl 1 rfl) ?_
      refine lv_aload_n hx hb dMo_makePlan_17 rfl (lv_at hl 0 rfl) ?_
      refine lv_iload_n hx hb dMo_makePlan_18 rfl (lv_at hl 1 rfl) ?_
      obtain ⟨q12, hq12, h⟩ := jbi_h h
      refine jcalll (w' := fun _ : Nat → Nat => mW cA cL A M F L) (va_runV (As := [.int x1]) (rest := [.int x1, .ref (A 10)]) ⟨hx, hb, hml, hown, hts⟩ (cMo_sizeOf l dC dI cA cL A x1 M F L B H.size hq12) (cwV 1 hts (jgoodV jw_719 jw_721 jws_21 jw_7 jw_722) rfl rfl rfl (by decide +kernel) ⟨Nat.le_of_ble_eq_true rfl, Nat.le_of_ble_eq_true rfl⟩) (jpreV hN hJ (ci := 6) (q0 := 0) rfl rfl) rfl rfl hl.1 rfl (lv_room (Nat.le_of_ble_eq_true rfl)) dMo_makePlan_19 ⟨Nat.zero_le _, Nat.zero_le _⟩) hA hJ (fun B H locs hJ => ?_)
      obtain ⟨hi13, h⟩ := jib_h h
      refine mast_10 hx hb hJ hi13 dMo_makePlan_22 (fun H locs hJ => ?_)
      refine lv_iinc (v := x1 + 1) (lv' := [(1, .int (x1 + 1)), (0, .ref (A 0))]) hx hb dMo_makePlan_23 hl (k := 1) rfl rfl (by decide) rfl (fun ls hl => ?_)
      refine lv_goto (tgt := 2) hx hb dMo_makePlan_26 (by decide) ?_
      exact ih _ _ _ _ B _ _ _ hJ (lv_sub hl [1, 0] rfl) h
set_option maxHeartbeats 4000000 in
set_option maxRecDepth 100000 in
theorem uMo_makePlan_0 {p : Program} {e : Env} {s : State} {m : MethodId} {args : Array Value} {below : List Frame} {meth : Method} {c : Code} (l : Launch) (dC : Nat → ClassId) (dI : Nat → Nat → Nat) (cA cL : ClassId) (A : Nat → Nat) (Ap : Nat → Prop) (hC : jAt p s m args meth c bMo_makePlan 7 none wMo_makePlan RMo) (hA : ∀ q : Nat, s.heap.size ≤ q → Ap q) {r : Int32} {M' : jM} {F' : jF} {L' : jL} : ∀ (M : jM) (F : jF) (L : jL) (B : Nat → Nat) (H : Heap) (locs : List Loc) (ls : Array Slot), jH (dC, dI) jCl [(cA, .int), (cL, .long)] (mW cA cL A M F L) Ap s H locs → lv_has ls 7 [(0, .ref (A 0))] → fMo_makePlan_0 M F L = some (r, M', F', L') → W p l e (headSpec wMo_makePlan rMo_makePlan).room s m args below meth c H locs 0 0 (jQv below (dC, dI) jCl [(cA, .int), (cL, .long)] (fun _ : Nat → Nat => mW cA cL A (M') (F') (L')) Ap args s) (F0 m 0 ls []) := by
  obtain ⟨hx, hb, hml, hr, hts, hown, hlocks, hN⟩ := id hC
  have hj : ∀ w ∈ jw, w.before args s = true := fun w h => hts w (List.mem_cons_of_mem _ h)
  intro  M F L B H locs ls hJ hl h
  unfold fMo_makePlan_0 at h
  refine lv_iconst (v := 1) hx hb dMo_makePlan_0 (by decide) ?_
  refine lv_istore_n (lv' := [(1, .int 1), (0, .ref (A 0))]) hx hb dMo_makePlan_1 rfl hl (by decide) rfl (fun ls hl => ?_)
  exact uMo_makePlan_2 l dC dI cA cL A Ap hC hA jfuel _ _ _ _ B _ _ _ hJ (lv_sub hl [1, 0] rfl) h
set_option maxHeartbeats 4000000 in
set_option maxRecDepth 100000 in
theorem cMo_makePlan (l : Launch) (dC : Nat → ClassId) (dI : Nat → Nat → Nat) (cA cL : ClassId) (A : Nat → Nat) (M : jM) (F : jF) (L : jL) (B : Nat → Nat) (sz : Nat) {r : Int32} {M' : jM} {F' : jF} {L' : jL} (h : fMo_makePlan M F L = some (r, M', F', L')) : jCv l yMo_makePlan wMo_makePlan rMo_makePlan (dC, dI) jCl [(cA, .int), (cL, .long)] [.ref (A 0)] (mW cA cL A M F L) sz (fun _ : Nat → Nat => mW cA cL A (M') (F') (L')) :=
  jOf (Qc := fun Ap => va_Qv (fun _ : Nat → Nat => True) (jPost (dC, dI) jCl [(cA, .int), (cL, .long)] (fun _ : Nat → Nat => mW cA cL A (M') (F') (L')) Ap) Ap) (by decide) rfl (Nat.le_of_ble_eq_true rfl) (fun p e s m below meth c Ap ls hC hA hJ hl => uMo_makePlan_0 l dC dI cA cL A Ap hC hA _ _ _ B _ _ _ hJ (lv_sub hl [0] rfl) h)
abbrev bMo_plansTo : ByteArray := prog_8_method_22_code
abbrev yMo_plansTo : MethodName := ⟨RMo, "plansTo", "(I)Z"⟩
abbrev wMo_plansTo : List Cond := .code yMo_plansTo bMo_plansTo 2 (some .boolean) :: jw
theorem dMo_plansTo_0 : decode bMo_plansTo 0 = .ok (.aload_n 0, 1) := by decide +kernel
theorem dMo_plansTo_1 : decode bMo_plansTo 1 = .ok (.iload_n 1, 1) := by decide +kernel
theorem dMo_plansTo_2 : decode bMo_plansTo 2 = .ok (.iconst 0, 1) := by decide +kernel
theorem dMo_plansTo_3 : decode bMo_plansTo 3 = .ok (.aload_n 0, 1) := by decide +kernel
theorem dMo_plansTo_4 : decode bMo_plansTo 4 = .ok (.getfield 64, 3) := by decide +kernel
theorem dMo_plansTo_7 : decode bMo_plansTo 7 = .ok (.iconst 1, 1) := by decide +kernel
theorem dMo_plansTo_8 : decode bMo_plansTo 8 = .ok (.isub, 1) := by decide +kernel
theorem dMo_plansTo_9 : decode bMo_plansTo 9 = .ok (.invokestatic 60, 3) := by decide +kernel
theorem dMo_plansTo_12 : decode bMo_plansTo 12 = .ok (.ifCond .eq 7, 3) := by decide +kernel
theorem dMo_plansTo_15 : decode bMo_plansTo 15 = .ok (.iconst 0, 1) := by decide +kernel
theorem dMo_plansTo_16 : decode bMo_plansTo 16 = .ok (.goto 4, 3) := by decide +kernel
theorem dMo_plansTo_19 : decode bMo_plansTo 19 = .ok (.iconst 1, 1) := by decide +kernel
theorem dMo_plansTo_20 : decode bMo_plansTo 20 = .ok (.putfield 56, 3) := by decide +kernel
theorem dMo_plansTo_23 : decode bMo_plansTo 23 = .ok (.aload_n 0, 1) := by decide +kernel
theorem dMo_plansTo_24 : decode bMo_plansTo 24 = .ok (.getfield 56, 3) := by decide +kernel
theorem dMo_plansTo_27 : decode bMo_plansTo 27 = .ok (.ifCond .le 5, 3) := by decide +kernel
theorem dMo_plansTo_30 : decode bMo_plansTo 30 = .ok (.iconst 0, 1) := by decide +kernel
theorem dMo_plansTo_31 : decode bMo_plansTo 31 = .ok (.ireturn, 1) := by decide +kernel
theorem dMo_plansTo_32 : decode bMo_plansTo 32 = .ok (.aload_n 0, 1) := by decide +kernel
theorem dMo_plansTo_33 : decode bMo_plansTo 33 = .ok (.invokevirtual 111, 3) := by decide +kernel
theorem dMo_plansTo_36 : decode bMo_plansTo 36 = .ok (.iconst 1, 1) := by decide +kernel
theorem dMo_plansTo_37 : decode bMo_plansTo 37 = .ok (.ireturn, 1) := by decide +kernel
abbrev rMo_plansTo : Room := { frames := 5, cells := 0, slots := 0, locals := 123 }
def fMo_plansTo_20 (s1 : Int32) (M : jM) (F : jF) (L : jL) : Option (Int32 × jM × jF × jL) := (if ((jfu F 0 s1) 0) ≤ 0 then ((fMo_makePlan M (jfu F 0 s1) L).bind fun q4 => some (1, q4.2.1, q4.2.2.1, q4.2.2.2)) else some (0, M, jfu F 0 s1, L))
def fMo_plansTo_0 (x1 : Int32) (M : jM) (F : jF) (L : jL) : Option (Int32 × jM × jF × jL) := ((fMo_is x1 0 ((F 1) - 1) M F L).bind fun q1 => (if q1 = 0 then fMo_plansTo_20 1 M F L else fMo_plansTo_20 0 M F L))
abbrev fMo_plansTo (x1 : Int32) (M : jM) (F : jF) (L : jL) : Option (Int32 × jM × jF × jL) := fMo_plansTo_0 x1 M F L
set_option maxHeartbeats 4000000 in
set_option maxRecDepth 100000 in
theorem uMo_plansTo_20 {p : Program} {e : Env} {s : State} {m : MethodId} {args : Array Value} {below : List Frame} {meth : Method} {c : Code} (l : Launch) (dC : Nat → ClassId) (dI : Nat → Nat → Nat) (cA cL : ClassId) (A : Nat → Nat) (Ap : Nat → Prop) (hC : jAt p s m args meth c bMo_plansTo 2 (some .boolean) wMo_plansTo RMo) (hA : ∀ q : Nat, s.heap.size ≤ q → Ap q) {r : Int32} {M' : jM} {F' : jF} {L' : jL} : ∀ (s1 : Int32) (M : jM) (F : jF) (L : jL) (B : Nat → Nat) (H : Heap) (locs : List Loc) (ls : Array Slot), jH (dC, dI) jCl [(cA, .int), (cL, .long)] (mW cA cL A M F L) Ap s H locs → lv_has ls 2 [(0, .ref (A 0))] → fMo_plansTo_20 s1 M F L = some (r, M', F', L') → W p l e (headSpec wMo_plansTo rMo_plansTo).room s m args below meth c H locs 0 0 (jQi below (dC, dI) jCl [(cA, .int), (cL, .long)] (fun _ : Nat → Nat => mW cA cL A (M') (F') (L')) Ap args s r) (F0 m 20 ls [.int s1, .ref (A 0)]) := by
  obtain ⟨hx, hb, hml, hr, hts, hown, hlocks, hN⟩ := id hC
  have hj : ∀ w ∈ jw, w.before args s = true := fun w h => hts w (List.mem_cons_of_mem _ h)
  intro s1 M F L B H locs ls hJ hl h
  unfold fMo_plansTo_20 at h
  refine mput_0 hx hb hj hown hJ (hj _ jw_599) dMo_plansTo_20 (fun H locs hJ => ?_)
  refine lv_aload_n hx hb dMo_plansTo_23 rfl (lv_at hl 0 rfl) ?_
  refine mget_0 hx hb hj hown hJ (hj _ jw_599) dMo_plansTo_24 ?_
  refine lv_if_le (tgt := 32) hx hb dMo_plansTo_27 (by decide) (fun c3 => ?_) (fun c3 => ?_)
  · replace h := jif_t c3 h
    refine lv_aload_n hx hb dMo_plansTo_32 rfl (lv_at hl 0 rfl) ?_
    obtain ⟨q4, hq4, h⟩ := jbi_h h
    refine jcallv (w' := fun _ : Nat → Nat => mW cA cL A q4.2.1 q4.2.2.1 q4.2.2.2) (va_runV (As := []) (rest := []) ⟨hx, hb, hml, hown, hts⟩ (cMo_makePlan l dC dI cA cL A M (jfu F 0 s1) L B H.size hq4) (cwV 0 hts (jgoodV jw_715 jw_717 jws_20 jw_7 jw_718) rfl rfl rfl (by decide +kernel) ⟨Nat.le_of_ble_eq_true rfl, Nat.le_of_ble_eq_true rfl⟩) (jpreV hN hJ (ci := 6) (q0 := 0) rfl rfl) rfl rfl hl.1 rfl (lv_room (Nat.le_of_ble_eq_true rfl)) dMo_plansTo_33 ⟨Nat.zero_le _, Nat.zero_le _⟩) hA hJ (fun B H locs hJ => ?_)
    refine lv_iconst (v := 1) hx hb dMo_plansTo_36 (by decide) ?_
    cases h
    exact jreti (u := B) hx hb hr rfl hlocks hJ dMo_plansTo_37 rfl
  · replace h := jif_f c3 h
    refine lv_iconst (v := 0) hx hb dMo_plansTo_30 (by decide) ?_
    cases h
    exact jreti (u := B) hx hb hr rfl hlocks hJ dMo_plansTo_31 rfl
set_option maxHeartbeats 4000000 in
set_option maxRecDepth 100000 in
theorem uMo_plansTo_0 {p : Program} {e : Env} {s : State} {m : MethodId} {args : Array Value} {below : List Frame} {meth : Method} {c : Code} (l : Launch) (dC : Nat → ClassId) (dI : Nat → Nat → Nat) (cA cL : ClassId) (A : Nat → Nat) (Ap : Nat → Prop) (hC : jAt p s m args meth c bMo_plansTo 2 (some .boolean) wMo_plansTo RMo) (hA : ∀ q : Nat, s.heap.size ≤ q → Ap q) {r : Int32} {M' : jM} {F' : jF} {L' : jL} : ∀ (x1 : Int32) (M : jM) (F : jF) (L : jL) (B : Nat → Nat) (H : Heap) (locs : List Loc) (ls : Array Slot), jH (dC, dI) jCl [(cA, .int), (cL, .long)] (mW cA cL A M F L) Ap s H locs → lv_has ls 2 [(0, .ref (A 0)), (1, .int x1)] → fMo_plansTo_0 x1 M F L = some (r, M', F', L') → W p l e (headSpec wMo_plansTo rMo_plansTo).room s m args below meth c H locs 0 0 (jQi below (dC, dI) jCl [(cA, .int), (cL, .long)] (fun _ : Nat → Nat => mW cA cL A (M') (F') (L')) Ap args s r) (F0 m 0 ls []) := by
  obtain ⟨hx, hb, hml, hr, hts, hown, hlocks, hN⟩ := id hC
  have hj : ∀ w ∈ jw, w.before args s = true := fun w h => hts w (List.mem_cons_of_mem _ h)
  intro x1 M F L B H locs ls hJ hl h
  unfold fMo_plansTo_0 at h
  refine lv_aload_n hx hb dMo_plansTo_0 rfl (lv_at hl 0 rfl) ?_
  refine lv_iload_n hx hb dMo_plansTo_1 rfl (lv_at hl 1 rfl) ?_
  refine lv_iconst (v := 0) hx hb dMo_plansTo_2 (by decide) ?_
  refine lv_aload_n hx hb dMo_plansTo_3 rfl (lv_at hl 0 rfl) ?_
  refine mget_4 hx hb hj hown hJ (hj _ jw_603) dMo_plansTo_4 ?_
  refine lv_iconst (v := 1) hx hb dMo_plansTo_7 (by decide) ?_
  refine lv_isub hx hb dMo_plansTo_8 ?_
  obtain ⟨q1, hq1, h⟩ := jbi_h h
  refine jcalli (w' := fun _ : Nat → Nat => mW cA cL A M F L) (va_runS (As := [.int x1, .int 0, .int ((F 1) - 1)]) (rest := [.ref (A 0)]) ⟨hx, hb, hml, hown, hts⟩ (cMo_is l dC dI cA cL A x1 0 ((F 1) - 1) M F L B H.size hq1) (va_cwS 3 hts (jgoodS jw_672 jw_673 jw_7 jw_674) rfl rfl rfl (by decide +kernel) ⟨Nat.le_of_ble_eq_true rfl, Nat.le_of_ble_eq_true rfl⟩) (jpreS hN hJ) rfl rfl hl.1 rfl (lv_room (Nat.le_of_ble_eq_true rfl)) dMo_plansTo_9 ⟨Nat.zero_le _, Nat.zero_le _⟩) hA hJ (fun B H locs hJ => ?_)
  refine lv_if_eq (tgt := 19) hx hb dMo_plansTo_12 (by decide) (fun c2 => ?_) (fun c2 => ?_)
  · replace h := jif_t c2 h
    refine lv_iconst (v := 1) hx hb dMo_plansTo_19 (by decide) ?_
    exact uMo_plansTo_20 l dC dI cA cL A Ap hC hA _ _ _ _ B _ _ _ hJ (lv_sub hl [0] rfl) h
  · replace h := jif_f c2 h
    refine lv_iconst (v := 0) hx hb dMo_plansTo_15 (by decide) ?_
    refine lv_goto (tgt := 20) hx hb dMo_plansTo_16 (by decide) ?_
    exact uMo_plansTo_20 l dC dI cA cL A Ap hC hA _ _ _ _ B _ _ _ hJ (lv_sub hl [0] rfl) h
set_option maxHeartbeats 4000000 in
set_option maxRecDepth 100000 in
theorem cMo_plansTo (l : Launch) (dC : Nat → ClassId) (dI : Nat → Nat → Nat) (cA cL : ClassId) (A : Nat → Nat) (x1 : Int32) (M : jM) (F : jF) (L : jL) (B : Nat → Nat) (sz : Nat) {r : Int32} {M' : jM} {F' : jF} {L' : jL} (h : fMo_plansTo x1 M F L = some (r, M', F', L')) : jCi l yMo_plansTo wMo_plansTo rMo_plansTo (dC, dI) jCl [(cA, .int), (cL, .long)] [.ref (A 0), .int x1] (mW cA cL A M F L) sz r (fun _ : Nat → Nat => mW cA cL A (M') (F') (L')) :=
  jOf (Qc := fun Ap => va_Qi (fun q (_ : Nat → Nat) => q = r) (jPost (dC, dI) jCl [(cA, .int), (cL, .long)] (fun _ : Nat → Nat => mW cA cL A (M') (F') (L')) Ap) Ap) (by decide) rfl (Nat.le_of_ble_eq_true rfl) (fun p e s m below meth c Ap ls hC hA hJ hl => uMo_plansTo_0 l dC dI cA cL A Ap hC hA _ _ _ _ B _ _ _ hJ (lv_sub hl [0, 1] rfl) h)
abbrev bMo_plan : ByteArray := prog_8_method_23_code
abbrev yMo_plan : MethodName := ⟨RMo, "plan", "(I)I"⟩
abbrev wMo_plan : List Cond := .code yMo_plan bMo_plan 2 (some .int) :: jw
theorem dMo_plan_0 : decode bMo_plan 0 = .ok (.aload_n 0, 1) := by decide +kernel
theorem dMo_plan_1 : decode bMo_plan 1 = .ok (.iload_n 1, 1) := by decide +kernel
theorem dMo_plan_2 : decode bMo_plan 2 = .ok (.invokevirtual 114, 3) := by decide +kernel
theorem dMo_plan_5 : decode bMo_plan 5 = .ok (.ifCond .eq 12, 3) := by decide +kernel
theorem dMo_plan_8 : decode bMo_plan 8 = .ok (.aload_n 0, 1) := by decide +kernel
theorem dMo_plan_9 : decode bMo_plan 9 = .ok (.getfield 44, 3) := by decide +kernel
theorem dMo_plan_12 : decode bMo_plan 12 = .ok (.iload_n 1, 1) := by decide +kernel
theorem dMo_plan_13 : decode bMo_plan 13 = .ok (.iaload, 1) := by decide +kernel
theorem dMo_plan_14 : decode bMo_plan 14 = .ok (.goto 4, 3) := by decide +kernel
theorem dMo_plan_17 : decode bMo_plan 17 = .ok (.iconst 0, 1) := by decide +kernel
theorem dMo_plan_18 : decode bMo_plan 18 = .ok (.ireturn, 1) := by decide +kernel
abbrev rMo_plan : Room := { frames := 6, cells := 0, slots := 0, locals := 144 }
def fMo_plan_0 (x1 : Int32) (M : jM) (F : jF) (L : jL) : Option (Int32 × jM × jF × jL) := ((fMo_plansTo x1 M F L).bind fun q1 => (if q1.1 = 0 then some (0, q1.2.1, q1.2.2.1, q1.2.2.2) else (if jib x1 6 then some (q1.2.1 12 x1.toNatClampNeg, q1.2.1, q1.2.2.1, q1.2.2.2) else none)))
abbrev fMo_plan (x1 : Int32) (M : jM) (F : jF) (L : jL) : Option (Int32 × jM × jF × jL) := fMo_plan_0 x1 M F L
set_option maxHeartbeats 4000000 in
set_option maxRecDepth 100000 in
theorem uMo_plan_0 {p : Program} {e : Env} {s : State} {m : MethodId} {args : Array Value} {below : List Frame} {meth : Method} {c : Code} (l : Launch) (dC : Nat → ClassId) (dI : Nat → Nat → Nat) (cA cL : ClassId) (A : Nat → Nat) (Ap : Nat → Prop) (hC : jAt p s m args meth c bMo_plan 2 (some .int) wMo_plan RMo) (hA : ∀ q : Nat, s.heap.size ≤ q → Ap q) {r : Int32} {M' : jM} {F' : jF} {L' : jL} : ∀ (x1 : Int32) (M : jM) (F : jF) (L : jL) (B : Nat → Nat) (H : Heap) (locs : List Loc) (ls : Array Slot), jH (dC, dI) jCl [(cA, .int), (cL, .long)] (mW cA cL A M F L) Ap s H locs → lv_has ls 2 [(0, .ref (A 0)), (1, .int x1)] → fMo_plan_0 x1 M F L = some (r, M', F', L') → W p l e (headSpec wMo_plan rMo_plan).room s m args below meth c H locs 0 0 (jQi below (dC, dI) jCl [(cA, .int), (cL, .long)] (fun _ : Nat → Nat => mW cA cL A (M') (F') (L')) Ap args s r) (F0 m 0 ls []) := by
  obtain ⟨hx, hb, hml, hr, hts, hown, hlocks, hN⟩ := id hC
  have hj : ∀ w ∈ jw, w.before args s = true := fun w h => hts w (List.mem_cons_of_mem _ h)
  intro x1 M F L B H locs ls hJ hl h
  unfold fMo_plan_0 at h
  refine lv_aload_n hx hb dMo_plan_0 rfl (lv_at hl 0 rfl) ?_
  refine lv_iload_n hx hb dMo_plan_1 rfl (lv_at hl 1 rfl) ?_
  obtain ⟨q1, hq1, h⟩ := jbi_h h
  refine jcalli (w' := fun _ : Nat → Nat => mW cA cL A q1.2.1 q1.2.2.1 q1.2.2.2) (va_runV (As := [.int x1]) (rest := []) ⟨hx, hb, hml, hown, hts⟩ (cMo_plansTo l dC dI cA cL A x1 M F L B H.size hq1) (cwV 1 hts (jgoodV jw_711 jw_713 jws_19 jw_7 jw_714) rfl rfl rfl (by decide +kernel) ⟨Nat.le_of_ble_eq_true rfl, Nat.le_of_ble_eq_true rfl⟩) (jpreV hN hJ (ci := 6) (q0 := 0) rfl rfl) rfl rfl hl.1 rfl (lv_room (Nat.le_of_ble_eq_true rfl)) dMo_plan_2 ⟨Nat.zero_le _, Nat.zero_le _⟩) hA hJ (fun B H locs hJ => ?_)
  refine lv_if_eq (tgt := 17) hx hb dMo_plan_5 (by decide) (fun c2 => ?_) (fun c2 => ?_)
  · replace h := jif_t c2 h
    refine lv_iconst (v := 0) hx hb dMo_plan_17 (by decide) ?_
    cases h
    exact jreti (u := B) hx hb hr rfl hlocks hJ dMo_plan_18 rfl
  · replace h := jif_f c2 h
    refine lv_aload_n hx hb dMo_plan_8 rfl (lv_at hl 0 rfl) ?_
    refine mget_14 hx hb hj hown hJ (hj _ jw_613) dMo_plan_9 ?_
    refine lv_iload_n hx hb dMo_plan_12 rfl (lv_at hl 1 rfl) ?_
    obtain ⟨hi3, h⟩ := jib_h h
    refine mald_12 hx hb hJ hi3 dMo_plan_13 ?_
    refine lv_goto (tgt := 18) hx hb dMo_plan_14 (by decide) ?_
    cases h
    exact jreti (u := B) hx hb hr rfl hlocks hJ dMo_plan_18 rfl
set_option maxHeartbeats 4000000 in
set_option maxRecDepth 100000 in
theorem cMo_plan (l : Launch) (dC : Nat → ClassId) (dI : Nat → Nat → Nat) (cA cL : ClassId) (A : Nat → Nat) (x1 : Int32) (M : jM) (F : jF) (L : jL) (B : Nat → Nat) (sz : Nat) {r : Int32} {M' : jM} {F' : jF} {L' : jL} (h : fMo_plan x1 M F L = some (r, M', F', L')) : jCi l yMo_plan wMo_plan rMo_plan (dC, dI) jCl [(cA, .int), (cL, .long)] [.ref (A 0), .int x1] (mW cA cL A M F L) sz r (fun _ : Nat → Nat => mW cA cL A (M') (F') (L')) :=
  jOf (Qc := fun Ap => va_Qi (fun q (_ : Nat → Nat) => q = r) (jPost (dC, dI) jCl [(cA, .int), (cL, .long)] (fun _ : Nat → Nat => mW cA cL A (M') (F') (L')) Ap) Ap) (by decide) rfl (Nat.le_of_ble_eq_true rfl) (fun p e s m below meth c Ap ls hC hA hJ hl => uMo_plan_0 l dC dI cA cL A Ap hC hA _ _ _ _ B _ _ _ hJ (lv_sub hl [0, 1] rfl) h)
abbrev bMo_ahead : ByteArray := prog_8_method_24_code
abbrev yMo_ahead : MethodName := ⟨RMo, "ahead", "(I)I"⟩
abbrev wMo_ahead : List Cond := .code yMo_ahead bMo_ahead 4 (some .int) :: jw
theorem dMo_ahead_0 : decode bMo_ahead 0 = .ok (.iconst 0, 1) := by decide +kernel
theorem dMo_ahead_1 : decode bMo_ahead 1 = .ok (.istore_n 2, 1) := by decide +kernel
theorem dMo_ahead_2 : decode bMo_ahead 2 = .ok (.iconst 0, 1) := by decide +kernel
theorem dMo_ahead_3 : decode bMo_ahead 3 = .ok (.istore_n 3, 1) := by decide +kernel
theorem dMo_ahead_4 : decode bMo_ahead 4 = .ok (.iload_n 3, 1) := by decide +kernel
theorem dMo_ahead_5 : decode bMo_ahead 5 = .ok (.iload_n 1, 1) := by decide +kernel
theorem dMo_ahead_6 : decode bMo_ahead 6 = .ok (.if_icmp .ge 20, 3) := by decide +kernel
theorem dMo_ahead_9 : decode bMo_ahead 9 = .ok (.iload_n 2, 1) := by decide +kernel
theorem dMo_ahead_10 : decode bMo_ahead 10 = .ok (.iconst 1, 1) := by decide +kernel
theorem dMo_ahead_11 : decode bMo_ahead 11 = .ok (.aload_n 0, 1) := by decide +kernel
theorem dMo_ahead_12 : decode bMo_ahead 12 = .ok (.getfield 44, 3) := by decide +kernel
theorem dMo_ahead_15 : decode bMo_ahead 15 = .ok (.iload_n 3, 1) := by decide +kernel
theorem dMo_ahead_16 : decode bMo_ahead 16 = .ok (.iaload, 1) := by decide +kernel
theorem dMo_ahead_17 : decode bMo_ahead 17 = .ok (.ishl, 1) := by decide +kernel
theorem dMo_ahead_18 : decode bMo_ahead 18 = .ok (.ior, 1) := by decide +kernel
theorem dMo_ahead_19 : decode bMo_ahead 19 = .ok (.istore_n 2, 1) := by decide +kernel
theorem dMo_ahead_20 : decode bMo_ahead 20 = .ok (.iinc 3 1, 3) := by decide +kernel
theorem dMo_ahead_23 : decode bMo_ahead 23 = .ok (.goto (-19), 3) := by decide +kernel
theorem dMo_ahead_26 : decode bMo_ahead 26 = .ok (.iload_n 2, 1) := by decide +kernel
theorem dMo_ahead_27 : decode bMo_ahead 27 = .ok (.ireturn, 1) := by decide +kernel
abbrev rMo_ahead : Room := { frames := 0, cells := 0, slots := 0, locals := 0 }
def fMo_ahead_4 : Nat → Int32 → Int32 → Int32 → jM → jF → jL → Option Int32
  | 0, _, _, _, _, _, _ => none
  | n + 1, x1, x2, x3, M, F, L => (if x1 ≤ x3 then some x2 else (if jib x3 6 then fMo_ahead_4 n x1 (x2 ||| (1 <<< ((M 12 x3.toNatClampNeg) &&& 31))) (x3 + 1) M F L else none))
def fMo_ahead_0 (x1 : Int32) (M : jM) (F : jF) (L : jL) : Option Int32 := fMo_ahead_4 jfuel x1 0 0 M F L
abbrev fMo_ahead (x1 : Int32) (M : jM) (F : jF) (L : jL) : Option Int32 := fMo_ahead_0 x1 M F L
set_option maxHeartbeats 4000000 in
set_option maxRecDepth 100000 in
theorem uMo_ahead_4 {p : Program} {e : Env} {s : State} {m : MethodId} {args : Array Value} {below : List Frame} {meth : Method} {c : Code} (l : Launch) (dC : Nat → ClassId) (dI : Nat → Nat → Nat) (cA cL : ClassId) (A : Nat → Nat) (Ap : Nat → Prop) (hC : jAt p s m args meth c bMo_ahead 4 (some .int) wMo_ahead RMo) (hA : ∀ q : Nat, s.heap.size ≤ q → Ap q) {r : Int32} : ∀ (n : Nat) (x1 : Int32) (x2 : Int32) (x3 : Int32) (M : jM) (F : jF) (L : jL) (B : Nat → Nat) (H : Heap) (locs : List Loc) (ls : Array Slot), jH (dC, dI) jCl [(cA, .int), (cL, .long)] (mW cA cL A M F L) Ap s H locs → lv_has ls 4 [(0, .ref (A 0)), (1, .int x1), (2, .int x2), (3, .int x3)] → fMo_ahead_4 n x1 x2 x3 M F L = some r → W p l e (headSpec wMo_ahead rMo_ahead).room s m args below meth c H locs 0 0 (jQi below (dC, dI) jCl [(cA, .int), (cL, .long)] (fun _ : Nat → Nat => mW cA cL A M F L) Ap args s r) (F0 m 4 ls []) := by
  obtain ⟨hx, hb, hml, hr, hts, hown, hlocks, hN⟩ := id hC
  have hj : ∀ w ∈ jw, w.before args s = true := fun w h => hts w (List.mem_cons_of_mem _ h)
  intro n
  induction n with
  | zero =>
    intro x1 x2 x3 M F L B H locs ls hJ hl h
    rw [fMo_ahead_4] at h
    cases h
  | succ n ih =>
    intro x1 x2 x3 M F L B H locs ls hJ hl h
    rw [fMo_ahead_4] at h
    refine lv_iload_n hx hb dMo_ahead_4 rfl (lv_at hl 3 rfl) ?_
    refine lv_iload_n hx hb dMo_ahead_5 rfl (lv_at hl 1 rfl) ?_
    refine lv_icmp_ge (tgt := 26) hx hb dMo_ahead_6 (by decide) (fun c1 => ?_) (fun c1 => ?_)
    · replace h := jif_t c1 h
      refine lv_iload_n hx hb dMo_ahead_26 rfl (lv_at hl 2 rfl) ?_
      exact jreti (u := B) hx hb hr rfl hlocks hJ dMo_ahead_27 (Option.some.inj h)
    · replace h := jif_f c1 h
      refine lv_iload_n hx hb dMo_ahead_9 rfl (lv_at hl 2 rfl) ?_
      refine lv_iconst (v := 1) hx hb dMo_ahead_10 (by decide) ?_
      refine lv_aload_n hx hb dMo_ahead_11 rfl (lv_at hl 0 rfl) ?_
      refine mget_14 hx hb hj hown hJ (hj _ jw_613) dMo_ahead_12 ?_
      refine lv_iload_n hx hb dMo_ahead_15 rfl (lv_at hl 3 rfl) ?_
      obtain ⟨hi2, h⟩ := jib_h h
      refine mald_12 hx hb hJ hi2 dMo_ahead_16 ?_
      refine lv_ishl hx hb dMo_ahead_17 ?_
      refine lv_ior hx hb dMo_ahead_18 ?_
      refine lv_istore_n (lv' := [(2, .int (x2 ||| (1 <<< ((M 12 x3.toNatClampNeg) &&& 31)))), (0, .ref (A 0)), (1, .int x1), (3, .int x3)]) hx hb dMo_ahead_19 rfl hl (by decide) rfl (fun ls hl => ?_)
      refine lv_iinc (v := x3 + 1) (lv' := [(3, .int (x3 + 1)), (2, .int (x2 ||| (1 <<< ((M 12 x3.toNatClampNeg) &&& 31)))), (0, .ref (A 0)), (1, .int x1)]) hx hb dMo_ahead_20 hl (k := 3) rfl rfl (by decide) rfl (fun ls hl => ?_)
      refine lv_goto (tgt := 4) hx hb dMo_ahead_23 (by decide) ?_
      exact ih _ _ _ _ _ _ B _ _ _ hJ (lv_sub hl [2, 3, 1, 0] rfl) h
set_option maxHeartbeats 4000000 in
set_option maxRecDepth 100000 in
theorem uMo_ahead_0 {p : Program} {e : Env} {s : State} {m : MethodId} {args : Array Value} {below : List Frame} {meth : Method} {c : Code} (l : Launch) (dC : Nat → ClassId) (dI : Nat → Nat → Nat) (cA cL : ClassId) (A : Nat → Nat) (Ap : Nat → Prop) (hC : jAt p s m args meth c bMo_ahead 4 (some .int) wMo_ahead RMo) (hA : ∀ q : Nat, s.heap.size ≤ q → Ap q) {r : Int32} : ∀ (x1 : Int32) (M : jM) (F : jF) (L : jL) (B : Nat → Nat) (H : Heap) (locs : List Loc) (ls : Array Slot), jH (dC, dI) jCl [(cA, .int), (cL, .long)] (mW cA cL A M F L) Ap s H locs → lv_has ls 4 [(0, .ref (A 0)), (1, .int x1)] → fMo_ahead_0 x1 M F L = some r → W p l e (headSpec wMo_ahead rMo_ahead).room s m args below meth c H locs 0 0 (jQi below (dC, dI) jCl [(cA, .int), (cL, .long)] (fun _ : Nat → Nat => mW cA cL A M F L) Ap args s r) (F0 m 0 ls []) := by
  obtain ⟨hx, hb, hml, hr, hts, hown, hlocks, hN⟩ := id hC
  have hj : ∀ w ∈ jw, w.before args s = true := fun w h => hts w (List.mem_cons_of_mem _ h)
  intro x1 M F L B H locs ls hJ hl h
  unfold fMo_ahead_0 at h
  refine lv_iconst (v := 0) hx hb dMo_ahead_0 (by decide) ?_
  refine lv_istore_n (lv' := [(2, .int 0), (0, .ref (A 0)), (1, .int x1)]) hx hb dMo_ahead_1 rfl hl (by decide) rfl (fun ls hl => ?_)
  refine lv_iconst (v := 0) hx hb dMo_ahead_2 (by decide) ?_
  refine lv_istore_n (lv' := [(3, .int 0), (2, .int 0), (0, .ref (A 0)), (1, .int x1)]) hx hb dMo_ahead_3 rfl hl (by decide) rfl (fun ls hl => ?_)
  exact uMo_ahead_4 l dC dI cA cL A Ap hC hA jfuel _ _ _ _ _ _ B _ _ _ hJ (lv_sub hl [2, 3, 1, 0] rfl) h
set_option maxHeartbeats 4000000 in
set_option maxRecDepth 100000 in
theorem cMo_ahead (l : Launch) (dC : Nat → ClassId) (dI : Nat → Nat → Nat) (cA cL : ClassId) (A : Nat → Nat) (x1 : Int32) (M : jM) (F : jF) (L : jL) (B : Nat → Nat) (sz : Nat) {r : Int32} (h : fMo_ahead x1 M F L = some r) : jCi l yMo_ahead wMo_ahead rMo_ahead (dC, dI) jCl [(cA, .int), (cL, .long)] [.ref (A 0), .int x1] (mW cA cL A M F L) sz r (fun _ : Nat → Nat => mW cA cL A M F L) :=
  jOf (Qc := fun Ap => va_Qi (fun q (_ : Nat → Nat) => q = r) (jPost (dC, dI) jCl [(cA, .int), (cL, .long)] (fun _ : Nat → Nat => mW cA cL A M F L) Ap) Ap) (by decide) rfl (Nat.le_of_ble_eq_true rfl) (fun p e s m below meth c Ap ls hC hA hJ hl => uMo_ahead_0 l dC dI cA cL A Ap hC hA _ _ _ _ B _ _ _ hJ (lv_sub hl [0, 1] rfl) h)
abbrev bMo_conditionFor : ByteArray := prog_8_method_26_code
abbrev yMo_conditionFor : MethodName := ⟨RMo, "conditionFor", "(III)I"⟩
abbrev wMo_conditionFor : List Cond := .code yMo_conditionFor bMo_conditionFor 6 (some .int) :: jw
theorem dMo_conditionFor_0 : decode bMo_conditionFor 0 = .ok (.iconst 0, 1) := by decide +kernel
theorem dMo_conditionFor_1 : decode bMo_conditionFor 1 = .ok (.istore 4, 2) := by decide +kernel
theorem dMo_conditionFor_3 : decode bMo_conditionFor 3 = .ok (.iload 4, 2) := by decide +kernel
theorem dMo_conditionFor_5 : decode bMo_conditionFor 5 = .ok (.aload_n 0, 1) := by decide +kernel
theorem dMo_conditionFor_6 : decode bMo_conditionFor 6 = .ok (.getfield 67, 3) := by decide +kernel
theorem dMo_conditionFor_9 : decode bMo_conditionFor 9 = .ok (.if_icmp .ge 69, 3) := by decide +kernel
theorem dMo_conditionFor_12 : decode bMo_conditionFor 12 = .ok (.aload_n 0, 1) := by decide +kernel
theorem dMo_conditionFor_13 : decode bMo_conditionFor 13 = .ok (.iload 4, 2) := by decide +kernel
theorem dMo_conditionFor_15 : decode bMo_conditionFor 15 = .ok (.iload_n 2, 1) := by decide +kernel
theorem dMo_conditionFor_16 : decode bMo_conditionFor 16 = .ok (.iload_n 3, 1) := by decide +kernel
theorem dMo_conditionFor_17 : decode bMo_conditionFor 17 = .ok (.invokevirtual 118, 3) := by decide +kernel
theorem dMo_conditionFor_20 : decode bMo_conditionFor 20 = .ok (.istore 5, 2) := by decide +kernel
theorem dMo_conditionFor_22 : decode bMo_conditionFor 22 = .ok (.iload 5, 2) := by decide +kernel
theorem dMo_conditionFor_24 : decode bMo_conditionFor 24 = .ok (.iconst (-1), 1) := by decide +kernel
theorem dMo_conditionFor_25 : decode bMo_conditionFor 25 = .ok (.if_icmp .ne 6, 3) := by decide +kernel
theorem dMo_conditionFor_28 : decode bMo_conditionFor 28 = .ok (.goto 44, 3) := by decide +kernel
theorem dMo_conditionFor_31 : decode bMo_conditionFor 31 = .ok (.iload_n 1, 1) := by decide +kernel
theorem dMo_conditionFor_32 : decode bMo_conditionFor 32 = .ok (.iconst 1, 1) := by decide +kernel
theorem dMo_conditionFor_33 : decode bMo_conditionFor 33 = .ok (.if_icmp .ne 26, 3) := by decide +kernel
theorem dMo_conditionFor_36 : decode bMo_conditionFor 36 = .ok (.aload_n 0, 1) := by decide +kernel
theorem dMo_conditionFor_37 : decode bMo_conditionFor 37 = .ok (.getfield 16, 3) := by decide +kernel
theorem dMo_conditionFor_40 : decode bMo_conditionFor 40 = .ok (.aload_n 0, 1) := by decide +kernel
theorem dMo_conditionFor_41 : decode bMo_conditionFor 41 = .ok (.getfield 19, 3) := by decide +kernel
theorem dMo_conditionFor_44 : decode bMo_conditionFor 44 = .ok (.iload_n 2, 1) := by decide +kernel
theorem dMo_conditionFor_45 : decode bMo_conditionFor 45 = .ok (.iaload, 1) := by decide +kernel
theorem dMo_conditionFor_46 : decode bMo_conditionFor 46 = .ok (.iaload, 1) := by decide +kernel
theorem dMo_conditionFor_47 : decode bMo_conditionFor 47 = .ok (.iload 5, 2) := by decide +kernel
theorem dMo_conditionFor_49 : decode bMo_conditionFor 49 = .ok (.ishr, 1) := by decide +kernel
theorem dMo_conditionFor_50 : decode bMo_conditionFor 50 = .ok (.iconst 1, 1) := by decide +kernel
theorem dMo_conditionFor_51 : decode bMo_conditionFor 51 = .ok (.iand, 1) := by decide +kernel
theorem dMo_conditionFor_52 : decode bMo_conditionFor 52 = .ok (.iconst 1, 1) := by decide +kernel
theorem dMo_conditionFor_53 : decode bMo_conditionFor 53 = .ok (.if_icmp .ne 19, 3) := by decide +kernel
theorem dMo_conditionFor_56 : decode bMo_conditionFor 56 = .ok (.goto 13, 3) := by decide +kernel
theorem dMo_conditionFor_59 : decode bMo_conditionFor 59 = .ok (.aload_n 0, 1) := by decide +kernel
theorem dMo_conditionFor_60 : decode bMo_conditionFor 60 = .ok (.getfield 22, 3) := by decide +kernel
theorem dMo_conditionFor_63 : decode bMo_conditionFor 63 = .ok (.iload 4, 2) := by decide +kernel
theorem dMo_conditionFor_65 : decode bMo_conditionFor 65 = .ok (.iaload, 1) := by decide +kernel
theorem dMo_conditionFor_66 : decode bMo_conditionFor 66 = .ok (.ifCond .ne 6, 3) := by decide +kernel
theorem dMo_conditionFor_69 : decode bMo_conditionFor 69 = .ok (.iload 4, 2) := by decide +kernel
theorem dMo_conditionFor_71 : decode bMo_conditionFor 71 = .ok (.ireturn, 1) := by decide +kernel
theorem dMo_conditionFor_72 : decode bMo_conditionFor 72 = .ok (.iinc 4 1, 3) := by decide +kernel
theorem dMo_conditionFor_75 : decode bMo_conditionFor 75 = .ok (.goto (-72), 3) := by decide +kernel
theorem dMo_conditionFor_78 : decode bMo_conditionFor 78 = .ok (.iconst (-1), 1) := by decide +kernel
theorem dMo_conditionFor_79 : decode bMo_conditionFor 79 = .ok (.ireturn, 1) := by decide +kernel
abbrev rMo_conditionFor : Room := { frames := 1, cells := 0, slots := 0, locals := 23 }
def fMo_conditionFor_3 : Nat → Int32 → Int32 → Int32 → Int32 → jM → jF → jL → Option Int32
  | 0, _, _, _, _, _, _, _ => none
  | n + 1, x1, x2, x3, x4, M, F, L => (if (F 2) ≤ x4 then some (-1) else ((fMo_tied x4 x2 x3 M F L).bind fun q2 => (if q2 = (-1) then fMo_conditionFor_3 n x1 x2 x3 (x4 + 1) M F L else (if x1 = 1 then (if jib x2 6 then (if jib (M 4 x2.toNatClampNeg) 6 then (if (((M 3 (M 4 x2.toNatClampNeg).toNatClampNeg) >>> (q2 &&& 31)) &&& 1) = 1 then some x4 else fMo_conditionFor_3 n x1 x2 x3 (x4 + 1) M F L) else none) else none) else (if jib x4 12 then (if (M 5 x4.toNatClampNeg) = 0 then some x4 else fMo_conditionFor_3 n x1 x2 x3 (x4 + 1) M F L) else none)))))
def fMo_conditionFor_0 (x1 : Int32) (x2 : Int32) (x3 : Int32) (M : jM) (F : jF) (L : jL) : Option Int32 := fMo_conditionFor_3 jfuel x1 x2 x3 0 M F L
abbrev fMo_conditionFor (x1 : Int32) (x2 : Int32) (x3 : Int32) (M : jM) (F : jF) (L : jL) : Option Int32 := fMo_conditionFor_0 x1 x2 x3 M F L
set_option maxHeartbeats 4000000 in
set_option maxRecDepth 100000 in
theorem uMo_conditionFor_3 {p : Program} {e : Env} {s : State} {m : MethodId} {args : Array Value} {below : List Frame} {meth : Method} {c : Code} (l : Launch) (dC : Nat → ClassId) (dI : Nat → Nat → Nat) (cA cL : ClassId) (A : Nat → Nat) (Ap : Nat → Prop) (hC : jAt p s m args meth c bMo_conditionFor 6 (some .int) wMo_conditionFor RMo) (hA : ∀ q : Nat, s.heap.size ≤ q → Ap q) {r : Int32} : ∀ (n : Nat) (x1 : Int32) (x2 : Int32) (x3 : Int32) (x4 : Int32) (M : jM) (F : jF) (L : jL) (B : Nat → Nat) (H : Heap) (locs : List Loc) (ls : Array Slot), jH (dC, dI) jCl [(cA, .int), (cL, .long)] (mW cA cL A M F L) Ap s H locs → lv_has ls 6 [(0, .ref (A 0)), (1, .int x1), (2, .int x2), (3, .int x3), (4, .int x4)] → fMo_conditionFor_3 n x1 x2 x3 x4 M F L = some r → W p l e (headSpec wMo_conditionFor rMo_conditionFor).room s m args below meth c H locs 0 0 (jQi below (dC, dI) jCl [(cA, .int), (cL, .long)] (fun _ : Nat → Nat => mW cA cL A M F L) Ap args s r) (F0 m 3 ls []) := by
  obtain ⟨hx, hb, hml, hr, hts, hown, hlocks, hN⟩ := id hC
  have hj : ∀ w ∈ jw, w.before args s = true := fun w h => hts w (List.mem_cons_of_mem _ h)
  intro n
  induction n with
  | zero =>
    intro x1 x2 x3 x4 M F L B H locs ls hJ hl h
    rw [fMo_conditionFor_3] at h
    cases h
  | succ n ih =>
    intro x1 x2 x3 x4 M F L B H locs ls hJ hl h
    rw [fMo_conditionFor_3] at h
    refine lv_iload hx hb dMo_conditionFor_3 (lv_at hl 4 rfl) ?_
    refine lv_aload_n hx hb dMo_conditionFor_5 rfl (lv_at hl 0 rfl) ?_
    refine mget_6 hx hb hj hown hJ (hj _ jw_605) dMo_conditionFor_6 ?_
    refine lv_icmp_ge (tgt := 78) hx hb dMo_conditionFor_9 (by decide) (fun c1 => ?_) (fun c1 => ?_)
    · replace h := jif_t c1 h
      refine lv_iconst (v := (-1)) hx hb dMo_conditionFor_78 (by decide) ?_
      exact jreti (u := B) hx hb hr rfl hlocks hJ dMo_conditionFor_79 (Option.some.inj h)
    · replace h := jif_f c1 h
      refine lv_aload_n hx hb dMo_conditionFor_12 rfl (lv_at hl 0 rfl) ?_
      refine lv_iload hx hb dMo_conditionFor_13 (lv_at hl 4 rfl) ?_
      refine lv_iload_n hx hb dMo_conditionFor_15 rfl (lv_at hl 2 rfl) ?_
      refine lv_iload_n hx hb dMo_conditionFor_16 rfl (lv_at hl 3 rfl) ?_
      obtain ⟨q2, hq2, h⟩ := jbi_h h
      refine jcalli (w' := fun _ : Nat → Nat => mW cA cL A M F L) (va_runV (As := [.int x4, .int x2, .int x3]) (rest := []) ⟨hx, hb, hml, hown, hts⟩ (cMo_tied l dC dI cA cL A x4 x2 x3 M F L B H.size hq2) (cwV 3 hts (jgoodV jw_768 jw_770 jws_32 jw_7 jw_771) rfl rfl rfl (by decide +kernel) ⟨Nat.le_of_ble_eq_true rfl, Nat.le_of_ble_eq_true rfl⟩) (jpreV hN hJ (ci := 6) (q0 := 0) rfl rfl) rfl rfl hl.1 rfl (lv_room (Nat.le_of_ble_eq_true rfl)) dMo_conditionFor_17 ⟨Nat.zero_le _, Nat.zero_le _⟩) hA hJ (fun B H locs hJ => ?_)
      refine lv_istore (lv' := [(5, .int q2), (0, .ref (A 0)), (1, .int x1), (2, .int x2), (3, .int x3), (4, .int x4)]) hx hb dMo_conditionFor_20 hl (by decide) rfl (fun ls hl => ?_)
      refine lv_iload hx hb dMo_conditionFor_22 (lv_at hl 0 rfl) ?_
      refine lv_iconst (v := (-1)) hx hb dMo_conditionFor_24 (by decide) ?_
      refine lv_icmp_ne (tgt := 31) hx hb dMo_conditionFor_25 (by decide) (fun c3 => ?_) (fun c3 => ?_)
      · replace h := jif_f c3 h
        refine lv_iload_n hx hb dMo_conditionFor_31 rfl (lv_at hl 2 rfl) ?_
        refine lv_iconst (v := 1) hx hb dMo_conditionFor_32 (by decide) ?_
        refine lv_icmp_ne (tgt := 59) hx hb dMo_conditionFor_33 (by decide) (fun c4 => ?_) (fun c4 => ?_)
        · replace h := jif_f c4 h
          refine lv_aload_n hx hb dMo_conditionFor_59 rfl (lv_at hl 1 rfl) ?_
          refine mget_7 hx hb hj hown hJ (hj _ jw_606) dMo_conditionFor_60 ?_
          refine lv_iload hx hb dMo_conditionFor_63 (lv_at hl 5 rfl) ?_
          obtain ⟨hi5, h⟩ := jib_h h
          refine mald_5 hx hb hJ hi5 dMo_conditionFor_65 ?_
          refine lv_if_ne (tgt := 72) hx hb dMo_conditionFor_66 (by decide) (fun c6 => ?_) (fun c6 => ?_)
          · replace h := jif_f c6 h
            refine lv_iinc (v := x4 + 1) (lv' := [(4, .int (x4 + 1)), (5, .int q2), (0, .ref (A 0)), (1, .int x1), (2, .int x2), (3, .int x3)]) hx hb dMo_conditionFor_72 hl (k := 5) rfl rfl (by decide) rfl (fun ls hl => ?_)
            refine lv_goto (tgt := 3) hx hb dMo_conditionFor_75 (by decide) ?_
            exact ih _ _ _ _ _ _ _ B _ _ _ hJ (lv_sub hl [2, 3, 4, 5, 0] rfl) h
          · replace h := jif_t c6 h
            refine lv_iload hx hb dMo_conditionFor_69 (lv_at hl 5 rfl) ?_
            exact jreti (u := B) hx hb hr rfl hlocks hJ dMo_conditionFor_71 (Option.some.inj h)
        · replace h := jif_t c4 h
          refine lv_aload_n hx hb dMo_conditionFor_36 rfl (lv_at hl 1 rfl) ?_
          refine mget_3 hx hb hj hown hJ (hj _ jw_602) dMo_conditionFor_37 ?_
          refine lv_aload_n hx hb dMo_conditionFor_40 rfl (lv_at hl 1 rfl) ?_
          refine mget_5 hx hb hj hown hJ (hj _ jw_604) dMo_conditionFor_41 ?_
          refine lv_iload_n hx hb dMo_conditionFor_44 rfl (lv_at hl 3 rfl) ?_
          obtain ⟨hi7, h⟩ := jib_h h
          refine mald_4 hx hb hJ hi7 dMo_conditionFor_45 ?_
          obtain ⟨hi8, h⟩ := jib_h h
          refine mald_3 hx hb hJ hi8 dMo_conditionFor_46 ?_
          refine lv_iload hx hb dMo_conditionFor_47 (lv_at hl 0 rfl) ?_
          refine lv_ishr hx hb dMo_conditionFor_49 ?_
          refine lv_iconst (v := 1) hx hb dMo_conditionFor_50 (by decide) ?_
          refine lv_iand hx hb dMo_conditionFor_51 ?_
          refine lv_iconst (v := 1) hx hb dMo_conditionFor_52 (by decide) ?_
          refine lv_icmp_ne (tgt := 72) hx hb dMo_conditionFor_53 (by decide) (fun c9 => ?_) (fun c9 => ?_)
          · replace h := jif_f c9 h
            refine lv_iinc (v := x4 + 1) (lv' := [(4, .int (x4 + 1)), (5, .int q2), (0, .ref (A 0)), (1, .int x1), (2, .int x2), (3, .int x3)]) hx hb dMo_conditionFor_72 hl (k := 5) rfl rfl (by decide) rfl (fun ls hl => ?_)
            refine lv_goto (tgt := 3) hx hb dMo_conditionFor_75 (by decide) ?_
            exact ih _ _ _ _ _ _ _ B _ _ _ hJ (lv_sub hl [2, 3, 4, 5, 0] rfl) h
          · replace h := jif_t c9 h
            refine lv_goto (tgt := 69) hx hb dMo_conditionFor_56 (by decide) ?_
            refine lv_iload hx hb dMo_conditionFor_69 (lv_at hl 5 rfl) ?_
            exact jreti (u := B) hx hb hr rfl hlocks hJ dMo_conditionFor_71 (Option.some.inj h)
      · replace h := jif_t c3 h
        refine lv_goto (tgt := 72) hx hb dMo_conditionFor_28 (by decide) ?_
        refine lv_iinc (v := x4 + 1) (lv' := [(4, .int (x4 + 1)), (5, .int q2), (0, .ref (A 0)), (1, .int x1), (2, .int x2), (3, .int x3)]) hx hb dMo_conditionFor_72 hl (k := 5) rfl rfl (by decide) rfl (fun ls hl => ?_)
        refine lv_goto (tgt := 3) hx hb dMo_conditionFor_75 (by decide) ?_
        exact ih _ _ _ _ _ _ _ B _ _ _ hJ (lv_sub hl [2, 3, 4, 5, 0] rfl) h
set_option maxHeartbeats 4000000 in
set_option maxRecDepth 100000 in
theorem uMo_conditionFor_0 {p : Program} {e : Env} {s : State} {m : MethodId} {args : Array Value} {below : List Frame} {meth : Method} {c : Code} (l : Launch) (dC : Nat → ClassId) (dI : Nat → Nat → Nat) (cA cL : ClassId) (A : Nat → Nat) (Ap : Nat → Prop) (hC : jAt p s m args meth c bMo_conditionFor 6 (some .int) wMo_conditionFor RMo) (hA : ∀ q : Nat, s.heap.size ≤ q → Ap q) {r : Int32} : ∀ (x1 : Int32) (x2 : Int32) (x3 : Int32) (M : jM) (F : jF) (L : jL) (B : Nat → Nat) (H : Heap) (locs : List Loc) (ls : Array Slot), jH (dC, dI) jCl [(cA, .int), (cL, .long)] (mW cA cL A M F L) Ap s H locs → lv_has ls 6 [(0, .ref (A 0)), (1, .int x1), (2, .int x2), (3, .int x3)] → fMo_conditionFor_0 x1 x2 x3 M F L = some r → W p l e (headSpec wMo_conditionFor rMo_conditionFor).room s m args below meth c H locs 0 0 (jQi below (dC, dI) jCl [(cA, .int), (cL, .long)] (fun _ : Nat → Nat => mW cA cL A M F L) Ap args s r) (F0 m 0 ls []) := by
  obtain ⟨hx, hb, hml, hr, hts, hown, hlocks, hN⟩ := id hC
  have hj : ∀ w ∈ jw, w.before args s = true := fun w h => hts w (List.mem_cons_of_mem _ h)
  intro x1 x2 x3 M F L B H locs ls hJ hl h
  unfold fMo_conditionFor_0 at h
  refine lv_iconst (v := 0) hx hb dMo_conditionFor_0 (by decide) ?_
  refine lv_istore (lv' := [(4, .int 0), (0, .ref (A 0)), (1, .int x1), (2, .int x2), (3, .int x3)]) hx hb dMo_conditionFor_1 hl (by decide) rfl (fun ls hl => ?_)
  exact uMo_conditionFor_3 l dC dI cA cL A Ap hC hA jfuel _ _ _ _ _ _ _ B _ _ _ hJ (lv_sub hl [1, 2, 3, 4, 0] rfl) h
set_option maxHeartbeats 4000000 in
set_option maxRecDepth 100000 in
theorem cMo_conditionFor (l : Launch) (dC : Nat → ClassId) (dI : Nat → Nat → Nat) (cA cL : ClassId) (A : Nat → Nat) (x1 : Int32) (x2 : Int32) (x3 : Int32) (M : jM) (F : jF) (L : jL) (B : Nat → Nat) (sz : Nat) {r : Int32} (h : fMo_conditionFor x1 x2 x3 M F L = some r) : jCi l yMo_conditionFor wMo_conditionFor rMo_conditionFor (dC, dI) jCl [(cA, .int), (cL, .long)] [.ref (A 0), .int x1, .int x2, .int x3] (mW cA cL A M F L) sz r (fun _ : Nat → Nat => mW cA cL A M F L) :=
  jOf (Qc := fun Ap => va_Qi (fun q (_ : Nat → Nat) => q = r) (jPost (dC, dI) jCl [(cA, .int), (cL, .long)] (fun _ : Nat → Nat => mW cA cL A M F L) Ap) Ap) (by decide) rfl (Nat.le_of_ble_eq_true rfl) (fun p e s m below meth c Ap ls hC hA hJ hl => uMo_conditionFor_0 l dC dI cA cL A Ap hC hA _ _ _ _ _ _ B _ _ _ hJ (lv_sub hl [0, 1, 2, 3] rfl) h)
abbrev bMo_methodAt : ByteArray := prog_8_method_27_code
abbrev yMo_methodAt : MethodName := ⟨RMo, "methodAt", "(I)I"⟩
abbrev wMo_methodAt : List Cond := .code yMo_methodAt bMo_methodAt 3 (some .int) :: jw
theorem dMo_methodAt_0 : decode bMo_methodAt 0 = .ok (.aload_n 0, 1) := by decide +kernel
theorem dMo_methodAt_1 : decode bMo_methodAt 1 = .ok (.iload_n 1, 1) := by decide +kernel
theorem dMo_methodAt_2 : decode bMo_methodAt 2 = .ok (.invokevirtual 121, 3) := by decide +kernel
theorem dMo_methodAt_5 : decode bMo_methodAt 5 = .ok (.istore_n 2, 1) := by decide +kernel
theorem dMo_methodAt_6 : decode bMo_methodAt 6 = .ok (.aload_n 0, 1) := by decide +kernel
theorem dMo_methodAt_7 : decode bMo_methodAt 7 = .ok (.iconst 1, 1) := by decide +kernel
theorem dMo_methodAt_8 : decode bMo_methodAt 8 = .ok (.aload_n 0, 1) := by decide +kernel
theorem dMo_methodAt_9 : decode bMo_methodAt 9 = .ok (.getfield 44, 3) := by decide +kernel
theorem dMo_methodAt_12 : decode bMo_methodAt 12 = .ok (.iload_n 1, 1) := by decide +kernel
theorem dMo_methodAt_13 : decode bMo_methodAt 13 = .ok (.iaload, 1) := by decide +kernel
theorem dMo_methodAt_14 : decode bMo_methodAt 14 = .ok (.iload_n 2, 1) := by decide +kernel
theorem dMo_methodAt_15 : decode bMo_methodAt 15 = .ok (.invokevirtual 124, 3) := by decide +kernel
theorem dMo_methodAt_18 : decode bMo_methodAt 18 = .ok (.iconst (-1), 1) := by decide +kernel
theorem dMo_methodAt_19 : decode bMo_methodAt 19 = .ok (.if_icmp .eq 5, 3) := by decide +kernel
theorem dMo_methodAt_22 : decode bMo_methodAt 22 = .ok (.iconst 1, 1) := by decide +kernel
theorem dMo_methodAt_23 : decode bMo_methodAt 23 = .ok (.ireturn, 1) := by decide +kernel
theorem dMo_methodAt_24 : decode bMo_methodAt 24 = .ok (.aload_n 0, 1) := by decide +kernel
theorem dMo_methodAt_25 : decode bMo_methodAt 25 = .ok (.iconst 2, 1) := by decide +kernel
theorem dMo_methodAt_26 : decode bMo_methodAt 26 = .ok (.aload_n 0, 1) := by decide +kernel
theorem dMo_methodAt_27 : decode bMo_methodAt 27 = .ok (.getfield 44, 3) := by decide +kernel
theorem dMo_methodAt_30 : decode bMo_methodAt 30 = .ok (.iload_n 1, 1) := by decide +kernel
theorem dMo_methodAt_31 : decode bMo_methodAt 31 = .ok (.iaload, 1) := by decide +kernel
theorem dMo_methodAt_32 : decode bMo_methodAt 32 = .ok (.iload_n 2, 1) := by decide +kernel
theorem dMo_methodAt_33 : decode bMo_methodAt 33 = .ok (.invokevirtual 124, 3) := by decide +kernel
theorem dMo_methodAt_36 : decode bMo_methodAt 36 = .ok (.iconst (-1), 1) := by decide +kernel
theorem dMo_methodAt_37 : decode bMo_methodAt 37 = .ok (.if_icmp .eq 7, 3) := by decide +kernel
theorem dMo_methodAt_40 : decode bMo_methodAt 40 = .ok (.iconst 2, 1) := by decide +kernel
theorem dMo_methodAt_41 : decode bMo_methodAt 41 = .ok (.goto 4, 3) := by decide +kernel
theorem dMo_methodAt_44 : decode bMo_methodAt 44 = .ok (.iconst 3, 1) := by decide +kernel
theorem dMo_methodAt_45 : decode bMo_methodAt 45 = .ok (.ireturn, 1) := by decide +kernel
abbrev rMo_methodAt : Room := { frames := 2, cells := 0, slots := 0, locals := 48 }
def fMo_methodAt_0 (x1 : Int32) (M : jM) (F : jF) (L : jL) : Option Int32 := ((fMo_ahead x1 M F L).bind fun q1 => (if jib x1 6 then ((fMo_conditionFor 1 (M 12 x1.toNatClampNeg) q1 M F L).bind fun q3 => (if q3 = (-1) then (if jib x1 6 then ((fMo_conditionFor 2 (M 12 x1.toNatClampNeg) q1 M F L).bind fun q6 => (if q6 = (-1) then some 3 else some 2)) else none) else some 1)) else none))
abbrev fMo_methodAt (x1 : Int32) (M : jM) (F : jF) (L : jL) : Option Int32 := fMo_methodAt_0 x1 M F L
set_option maxHeartbeats 4000000 in
set_option maxRecDepth 100000 in
theorem uMo_methodAt_0 {p : Program} {e : Env} {s : State} {m : MethodId} {args : Array Value} {below : List Frame} {meth : Method} {c : Code} (l : Launch) (dC : Nat → ClassId) (dI : Nat → Nat → Nat) (cA cL : ClassId) (A : Nat → Nat) (Ap : Nat → Prop) (hC : jAt p s m args meth c bMo_methodAt 3 (some .int) wMo_methodAt RMo) (hA : ∀ q : Nat, s.heap.size ≤ q → Ap q) {r : Int32} : ∀ (x1 : Int32) (M : jM) (F : jF) (L : jL) (B : Nat → Nat) (H : Heap) (locs : List Loc) (ls : Array Slot), jH (dC, dI) jCl [(cA, .int), (cL, .long)] (mW cA cL A M F L) Ap s H locs → lv_has ls 3 [(0, .ref (A 0)), (1, .int x1)] → fMo_methodAt_0 x1 M F L = some r → W p l e (headSpec wMo_methodAt rMo_methodAt).room s m args below meth c H locs 0 0 (jQi below (dC, dI) jCl [(cA, .int), (cL, .long)] (fun _ : Nat → Nat => mW cA cL A M F L) Ap args s r) (F0 m 0 ls []) := by
  obtain ⟨hx, hb, hml, hr, hts, hown, hlocks, hN⟩ := id hC
  have hj : ∀ w ∈ jw, w.before args s = true := fun w h => hts w (List.mem_cons_of_mem _ h)
  intro x1 M F L B H locs ls hJ hl h
  unfold fMo_methodAt_0 at h
  refine lv_aload_n hx hb dMo_methodAt_0 rfl (lv_at hl 0 rfl) ?_
  refine lv_iload_n hx hb dMo_methodAt_1 rfl (lv_at hl 1 rfl) ?_
  obtain ⟨q1, hq1, h⟩ := jbi_h h
  refine jcalli (w' := fun _ : Nat → Nat => mW cA cL A M F L) (va_runV (As := [.int x1]) (rest := []) ⟨hx, hb, hml, hown, hts⟩ (cMo_ahead l dC dI cA cL A x1 M F L B H.size hq1) (cwV 1 hts (jgoodV jw_760 jw_762 jws_30 jw_7 jw_763) rfl rfl rfl (by decide +kernel) ⟨Nat.le_of_ble_eq_true rfl, Nat.le_of_ble_eq_true rfl⟩) (jpreV hN hJ (ci := 6) (q0 := 0) rfl rfl) rfl rfl hl.1 rfl (lv_room (Nat.le_of_ble_eq_true rfl)) dMo_methodAt_2 ⟨Nat.zero_le _, Nat.zero_le _⟩) hA hJ (fun B H locs hJ => ?_)
  refine lv_istore_n (lv' := [(2, .int q1), (0, .ref (A 0)), (1, .int x1)]) hx hb dMo_methodAt_5 rfl hl (by decide) rfl (fun ls hl => ?_)
  refine lv_aload_n hx hb dMo_methodAt_6 rfl (lv_at hl 1 rfl) ?_
  refine lv_iconst (v := 1) hx hb dMo_methodAt_7 (by decide) ?_
  refine lv_aload_n hx hb dMo_methodAt_8 rfl (lv_at hl 1 rfl) ?_
  refine mget_14 hx hb hj hown hJ (hj _ jw_613) dMo_methodAt_9 ?_
  refine lv_iload_n hx hb dMo_methodAt_12 rfl (lv_at hl 2 rfl) ?_
  obtain ⟨hi2, h⟩ := jib_h h
  refine mald_12 hx hb hJ hi2 dMo_methodAt_13 ?_
  refine lv_iload_n hx hb dMo_methodAt_14 rfl (lv_at hl 0 rfl) ?_
  obtain ⟨q3, hq3, h⟩ := jbi_h h
  refine jcalli (w' := fun _ : Nat → Nat => mW cA cL A M F L) (va_runV (As := [.int 1, .int (M 12 x1.toNatClampNeg), .int q1]) (rest := []) ⟨hx, hb, hml, hown, hts⟩ (cMo_conditionFor l dC dI cA cL A 1 (M 12 x1.toNatClampNeg) q1 M F L B H.size hq3) (cwV 3 hts (jgoodV jw_764 jw_766 jws_31 jw_7 jw_767) rfl rfl rfl (by decide +kernel) ⟨Nat.le_of_ble_eq_true rfl, Nat.le_of_ble_eq_true rfl⟩) (jpreV hN hJ (ci := 6) (q0 := 0) rfl rfl) rfl rfl hl.1 rfl (lv_room (Nat.le_of_ble_eq_true rfl)) dMo_methodAt_15 ⟨Nat.zero_le _, Nat.zero_le _⟩) hA hJ (fun B H locs hJ => ?_)
  refine lv_iconst (v := (-1)) hx hb dMo_methodAt_18 (by decide) ?_
  refine lv_icmp_eq (tgt := 24) hx hb dMo_methodAt_19 (by decide) (fun c4 => ?_) (fun c4 => ?_)
  · replace h := jif_t c4 h
    refine lv_aload_n hx hb dMo_methodAt_24 rfl (lv_at hl 1 rfl) ?_
    refine lv_iconst (v := 2) hx hb dMo_methodAt_25 (by decide) ?_
    refine lv_aload_n hx hb dMo_methodAt_26 rfl (lv_at hl 1 rfl) ?_
    refine mget_14 hx hb hj hown hJ (hj _ jw_613) dMo_methodAt_27 ?_
    refine lv_iload_n hx hb dMo_methodAt_30 rfl (lv_at hl 2 rfl) ?_
    obtain ⟨hi5, h⟩ := jib_h h
    refine mald_12 hx hb hJ hi5 dMo_methodAt_31 ?_
    refine lv_iload_n hx hb dMo_methodAt_32 rfl (lv_at hl 0 rfl) ?_
    obtain ⟨q6, hq6, h⟩ := jbi_h h
    refine jcalli (w' := fun _ : Nat → Nat => mW cA cL A M F L) (va_runV (As := [.int 2, .int (M 12 x1.toNatClampNeg), .int q1]) (rest := []) ⟨hx, hb, hml, hown, hts⟩ (cMo_conditionFor l dC dI cA cL A 2 (M 12 x1.toNatClampNeg) q1 M F L B H.size hq6) (cwV 3 hts (jgoodV jw_764 jw_766 jws_31 jw_7 jw_767) rfl rfl rfl (by decide +kernel) ⟨Nat.le_of_ble_eq_true rfl, Nat.le_of_ble_eq_true rfl⟩) (jpreV hN hJ (ci := 6) (q0 := 0) rfl rfl) rfl rfl hl.1 rfl (lv_room (Nat.le_of_ble_eq_true rfl)) dMo_methodAt_33 ⟨Nat.zero_le _, Nat.zero_le _⟩) hA hJ (fun B H locs hJ => ?_)
    refine lv_iconst (v := (-1)) hx hb dMo_methodAt_36 (by decide) ?_
    refine lv_icmp_eq (tgt := 44) hx hb dMo_methodAt_37 (by decide) (fun c7 => ?_) (fun c7 => ?_)
    · replace h := jif_t c7 h
      refine lv_iconst (v := 3) hx hb dMo_methodAt_44 (by decide) ?_
      exact jreti (u := B) hx hb hr rfl hlocks hJ dMo_methodAt_45 (Option.some.inj h)
    · replace h := jif_f c7 h
      refine lv_iconst (v := 2) hx hb dMo_methodAt_40 (by decide) ?_
      refine lv_goto (tgt := 45) hx hb dMo_methodAt_41 (by decide) ?_
      exact jreti (u := B) hx hb hr rfl hlocks hJ dMo_methodAt_45 (Option.some.inj h)
  · replace h := jif_f c4 h
    refine lv_iconst (v := 1) hx hb dMo_methodAt_22 (by decide) ?_
    exact jreti (u := B) hx hb hr rfl hlocks hJ dMo_methodAt_23 (Option.some.inj h)
set_option maxHeartbeats 4000000 in
set_option maxRecDepth 100000 in
theorem cMo_methodAt (l : Launch) (dC : Nat → ClassId) (dI : Nat → Nat → Nat) (cA cL : ClassId) (A : Nat → Nat) (x1 : Int32) (M : jM) (F : jF) (L : jL) (B : Nat → Nat) (sz : Nat) {r : Int32} (h : fMo_methodAt x1 M F L = some r) : jCi l yMo_methodAt wMo_methodAt rMo_methodAt (dC, dI) jCl [(cA, .int), (cL, .long)] [.ref (A 0), .int x1] (mW cA cL A M F L) sz r (fun _ : Nat → Nat => mW cA cL A M F L) :=
  jOf (Qc := fun Ap => va_Qi (fun q (_ : Nat → Nat) => q = r) (jPost (dC, dI) jCl [(cA, .int), (cL, .long)] (fun _ : Nat → Nat => mW cA cL A M F L) Ap) Ap) (by decide) rfl (Nat.le_of_ble_eq_true rfl) (fun p e s m below meth c Ap ls hC hA hJ hl => uMo_methodAt_0 l dC dI cA cL A Ap hC hA _ _ _ _ B _ _ _ hJ (lv_sub hl [0, 1] rfl) h)
abbrev bMo_method : ByteArray := prog_8_method_28_code
abbrev yMo_method : MethodName := ⟨RMo, "method", "(I)I"⟩
abbrev wMo_method : List Cond := .code yMo_method bMo_method 2 (some .int) :: jw
theorem dMo_method_0 : decode bMo_method 0 = .ok (.aload_n 0, 1) := by decide +kernel
theorem dMo_method_1 : decode bMo_method 1 = .ok (.iload_n 1, 1) := by decide +kernel
theorem dMo_method_2 : decode bMo_method 2 = .ok (.invokevirtual 114, 3) := by decide +kernel
theorem dMo_method_5 : decode bMo_method 5 = .ok (.ifCond .eq 11, 3) := by decide +kernel
theorem dMo_method_8 : decode bMo_method 8 = .ok (.aload_n 0, 1) := by decide +kernel
theorem dMo_method_9 : decode bMo_method 9 = .ok (.iload_n 1, 1) := by decide +kernel
theorem dMo_method_10 : decode bMo_method 10 = .ok (.invokevirtual 127, 3) := by decide +kernel
theorem dMo_method_13 : decode bMo_method 13 = .ok (.goto 4, 3) := by decide +kernel
theorem dMo_method_16 : decode bMo_method 16 = .ok (.iconst 0, 1) := by decide +kernel
theorem dMo_method_17 : decode bMo_method 17 = .ok (.ireturn, 1) := by decide +kernel
abbrev rMo_method : Room := { frames := 6, cells := 0, slots := 0, locals := 144 }
def fMo_method_0 (x1 : Int32) (M : jM) (F : jF) (L : jL) : Option (Int32 × jM × jF × jL) := ((fMo_plansTo x1 M F L).bind fun q1 => (if q1.1 = 0 then some (0, q1.2.1, q1.2.2.1, q1.2.2.2) else ((fMo_methodAt x1 q1.2.1 q1.2.2.1 q1.2.2.2).bind fun q3 => some (q3, q1.2.1, q1.2.2.1, q1.2.2.2))))
abbrev fMo_method (x1 : Int32) (M : jM) (F : jF) (L : jL) : Option (Int32 × jM × jF × jL) := fMo_method_0 x1 M F L
set_option maxHeartbeats 4000000 in
set_option maxRecDepth 100000 in
theorem uMo_method_0 {p : Program} {e : Env} {s : State} {m : MethodId} {args : Array Value} {below : List Frame} {meth : Method} {c : Code} (l : Launch) (dC : Nat → ClassId) (dI : Nat → Nat → Nat) (cA cL : ClassId) (A : Nat → Nat) (Ap : Nat → Prop) (hC : jAt p s m args meth c bMo_method 2 (some .int) wMo_method RMo) (hA : ∀ q : Nat, s.heap.size ≤ q → Ap q) {r : Int32} {M' : jM} {F' : jF} {L' : jL} : ∀ (x1 : Int32) (M : jM) (F : jF) (L : jL) (B : Nat → Nat) (H : Heap) (locs : List Loc) (ls : Array Slot), jH (dC, dI) jCl [(cA, .int), (cL, .long)] (mW cA cL A M F L) Ap s H locs → lv_has ls 2 [(0, .ref (A 0)), (1, .int x1)] → fMo_method_0 x1 M F L = some (r, M', F', L') → W p l e (headSpec wMo_method rMo_method).room s m args below meth c H locs 0 0 (jQi below (dC, dI) jCl [(cA, .int), (cL, .long)] (fun _ : Nat → Nat => mW cA cL A (M') (F') (L')) Ap args s r) (F0 m 0 ls []) := by
  obtain ⟨hx, hb, hml, hr, hts, hown, hlocks, hN⟩ := id hC
  have hj : ∀ w ∈ jw, w.before args s = true := fun w h => hts w (List.mem_cons_of_mem _ h)
  intro x1 M F L B H locs ls hJ hl h
  unfold fMo_method_0 at h
  refine lv_aload_n hx hb dMo_method_0 rfl (lv_at hl 0 rfl) ?_
  refine lv_iload_n hx hb dMo_method_1 rfl (lv_at hl 1 rfl) ?_
  obtain ⟨q1, hq1, h⟩ := jbi_h h
  refine jcalli (w' := fun _ : Nat → Nat => mW cA cL A q1.2.1 q1.2.2.1 q1.2.2.2) (va_runV (As := [.int x1]) (rest := []) ⟨hx, hb, hml, hown, hts⟩ (cMo_plansTo l dC dI cA cL A x1 M F L B H.size hq1) (cwV 1 hts (jgoodV jw_711 jw_713 jws_19 jw_7 jw_714) rfl rfl rfl (by decide +kernel) ⟨Nat.le_of_ble_eq_true rfl, Nat.le_of_ble_eq_true rfl⟩) (jpreV hN hJ (ci := 6) (q0 := 0) rfl rfl) rfl rfl hl.1 rfl (lv_room (Nat.le_of_ble_eq_true rfl)) dMo_method_2 ⟨Nat.zero_le _, Nat.zero_le _⟩) hA hJ (fun B H locs hJ => ?_)
  refine lv_if_eq (tgt := 16) hx hb dMo_method_5 (by decide) (fun c2 => ?_) (fun c2 => ?_)
  · replace h := jif_t c2 h
    refine lv_iconst (v := 0) hx hb dMo_method_16 (by decide) ?_
    cases h
    exact jreti (u := B) hx hb hr rfl hlocks hJ dMo_method_17 rfl
  · replace h := jif_f c2 h
    refine lv_aload_n hx hb dMo_method_8 rfl (lv_at hl 0 rfl) ?_
    refine lv_iload_n hx hb dMo_method_9 rfl (lv_at hl 1 rfl) ?_
    obtain ⟨q3, hq3, h⟩ := jbi_h h
    refine jcalli (w' := fun _ : Nat → Nat => mW cA cL A q1.2.1 q1.2.2.1 q1.2.2.2) (va_runV (As := [.int x1]) (rest := []) ⟨hx, hb, hml, hown, hts⟩ (cMo_methodAt l dC dI cA cL A x1 q1.2.1 q1.2.2.1 q1.2.2.2 B H.size hq3) (cwV 1 hts (jgoodV jw_756 jw_758 jws_29 jw_7 jw_759) rfl rfl rfl (by decide +kernel) ⟨Nat.le_of_ble_eq_true rfl, Nat.le_of_ble_eq_true rfl⟩) (jpreV hN hJ (ci := 6) (q0 := 0) rfl rfl) rfl rfl hl.1 rfl (lv_room (Nat.le_of_ble_eq_true rfl)) dMo_method_10 ⟨Nat.zero_le _, Nat.zero_le _⟩) hA hJ (fun B H locs hJ => ?_)
    refine lv_goto (tgt := 17) hx hb dMo_method_13 (by decide) ?_
    cases h
    exact jreti (u := B) hx hb hr rfl hlocks hJ dMo_method_17 rfl
set_option maxHeartbeats 4000000 in
set_option maxRecDepth 100000 in
theorem cMo_method (l : Launch) (dC : Nat → ClassId) (dI : Nat → Nat → Nat) (cA cL : ClassId) (A : Nat → Nat) (x1 : Int32) (M : jM) (F : jF) (L : jL) (B : Nat → Nat) (sz : Nat) {r : Int32} {M' : jM} {F' : jF} {L' : jL} (h : fMo_method x1 M F L = some (r, M', F', L')) : jCi l yMo_method wMo_method rMo_method (dC, dI) jCl [(cA, .int), (cL, .long)] [.ref (A 0), .int x1] (mW cA cL A M F L) sz r (fun _ : Nat → Nat => mW cA cL A (M') (F') (L')) :=
  jOf (Qc := fun Ap => va_Qi (fun q (_ : Nat → Nat) => q = r) (jPost (dC, dI) jCl [(cA, .int), (cL, .long)] (fun _ : Nat → Nat => mW cA cL A (M') (F') (L')) Ap) Ap) (by decide) rfl (Nat.le_of_ble_eq_true rfl) (fun p e s m below meth c Ap ls hC hA hJ hl => uMo_method_0 l dC dI cA cL A Ap hC hA _ _ _ _ B _ _ _ hJ (lv_sub hl [0, 1] rfl) h)
abbrev bMo_size : ByteArray := prog_8_method_29_code
abbrev yMo_size : MethodName := ⟨RMo, "size", "(I)I"⟩
abbrev wMo_size : List Cond := .code yMo_size bMo_size 2 (some .int) :: jw
theorem dMo_size_0 : decode bMo_size 0 = .ok (.aload_n 0, 1) := by decide +kernel
theorem dMo_size_1 : decode bMo_size 1 = .ok (.iload_n 1, 1) := by decide +kernel
theorem dMo_size_2 : decode bMo_size 2 = .ok (.invokevirtual 114, 3) := by decide +kernel
theorem dMo_size_5 : decode bMo_size 5 = .ok (.ifCond .eq 19, 3) := by decide +kernel
theorem dMo_size_8 : decode bMo_size 8 = .ok (.aload_n 0, 1) := by decide +kernel
theorem dMo_size_9 : decode bMo_size 9 = .ok (.getfield 37, 3) := by decide +kernel
theorem dMo_size_12 : decode bMo_size 12 = .ok (.aload_n 0, 1) := by decide +kernel
theorem dMo_size_13 : decode bMo_size 13 = .ok (.iload_n 1, 1) := by decide +kernel
theorem dMo_size_14 : decode bMo_size 14 = .ok (.iconst 1, 1) := by decide +kernel
theorem dMo_size_15 : decode bMo_size 15 = .ok (.iadd, 1) := by decide +kernel
theorem dMo_size_16 : decode bMo_size 16 = .ok (.invokevirtual 121, 3) := by decide +kernel
theorem dMo_size_19 : decode bMo_size 19 = .ok (.laload, 1) := by decide +kernel
theorem dMo_size_20 : decode bMo_size 20 = .ok (.l2i, 1) := by decide +kernel
theorem dMo_size_21 : decode bMo_size 21 = .ok (.goto 4, 3) := by decide +kernel
theorem dMo_size_24 : decode bMo_size 24 = .ok (.iconst 0, 1) := by decide +kernel
theorem dMo_size_25 : decode bMo_size 25 = .ok (.ireturn, 1) := by decide +kernel
abbrev rMo_size : Room := { frames := 6, cells := 0, slots := 0, locals := 144 }
def fMo_size_0 (x1 : Int32) (M : jM) (F : jF) (L : jL) : Option (Int32 × jM × jF × jL) := ((fMo_plansTo x1 M F L).bind fun q1 => (if q1.1 = 0 then some (0, q1.2.1, q1.2.2.1, q1.2.2.2) else ((fMo_ahead (x1 + 1) q1.2.1 q1.2.2.1 q1.2.2.2).bind fun q3 => (if jib q3 64 then some (Int64.toInt32 (q1.2.2.2 q3.toNatClampNeg), q1.2.1, q1.2.2.1, q1.2.2.2) else none))))
abbrev fMo_size (x1 : Int32) (M : jM) (F : jF) (L : jL) : Option (Int32 × jM × jF × jL) := fMo_size_0 x1 M F L
set_option maxHeartbeats 4000000 in
set_option maxRecDepth 100000 in
theorem uMo_size_0 {p : Program} {e : Env} {s : State} {m : MethodId} {args : Array Value} {below : List Frame} {meth : Method} {c : Code} (l : Launch) (dC : Nat → ClassId) (dI : Nat → Nat → Nat) (cA cL : ClassId) (A : Nat → Nat) (Ap : Nat → Prop) (hC : jAt p s m args meth c bMo_size 2 (some .int) wMo_size RMo) (hA : ∀ q : Nat, s.heap.size ≤ q → Ap q) {r : Int32} {M' : jM} {F' : jF} {L' : jL} : ∀ (x1 : Int32) (M : jM) (F : jF) (L : jL) (B : Nat → Nat) (H : Heap) (locs : List Loc) (ls : Array Slot), jH (dC, dI) jCl [(cA, .int), (cL, .long)] (mW cA cL A M F L) Ap s H locs → lv_has ls 2 [(0, .ref (A 0)), (1, .int x1)] → fMo_size_0 x1 M F L = some (r, M', F', L') → W p l e (headSpec wMo_size rMo_size).room s m args below meth c H locs 0 0 (jQi below (dC, dI) jCl [(cA, .int), (cL, .long)] (fun _ : Nat → Nat => mW cA cL A (M') (F') (L')) Ap args s r) (F0 m 0 ls []) := by
  obtain ⟨hx, hb, hml, hr, hts, hown, hlocks, hN⟩ := id hC
  have hj : ∀ w ∈ jw, w.before args s = true := fun w h => hts w (List.mem_cons_of_mem _ h)
  intro x1 M F L B H locs ls hJ hl h
  unfold fMo_size_0 at h
  refine lv_aload_n hx hb dMo_size_0 rfl (lv_at hl 0 rfl) ?_
  refine lv_iload_n hx hb dMo_size_1 rfl (lv_at hl 1 rfl) ?_
  obtain ⟨q1, hq1, h⟩ := jbi_h h
  refine jcalli (w' := fun _ : Nat → Nat => mW cA cL A q1.2.1 q1.2.2.1 q1.2.2.2) (va_runV (As := [.int x1]) (rest := []) ⟨hx, hb, hml, hown, hts⟩ (cMo_plansTo l dC dI cA cL A x1 M F L B H.size hq1) (cwV 1 hts (jgoodV jw_711 jw_713 jws_19 jw_7 jw_714) rfl rfl rfl (by decide +kernel) ⟨Nat.le_of_ble_eq_true rfl, Nat.le_of_ble_eq_true rfl⟩) (jpreV hN hJ (ci := 6) (q0 := 0) rfl rfl) rfl rfl hl.1 rfl (lv_room (Nat.le_of_ble_eq_true rfl)) dMo_size_2 ⟨Nat.zero_le _, Nat.zero_le _⟩) hA hJ (fun B H locs hJ => ?_)
  refine lv_if_eq (tgt := 24) hx hb dMo_size_5 (by decide) (fun c2 => ?_) (fun c2 => ?_)
  · replace h := jif_t c2 h
    refine lv_iconst (v := 0) hx hb dMo_size_24 (by decide) ?_
    cases h
    exact jreti (u := B) hx hb hr rfl hlocks hJ dMo_size_25 rfl
  · replace h := jif_f c2 h
    refine lv_aload_n hx hb dMo_size_8 rfl (lv_at hl 0 rfl) ?_
    refine mget_12 hx hb hj hown hJ (hj _ jw_611) dMo_size_9 ?_
    refine lv_aload_n hx hb dMo_size_12 rfl (lv_at hl 0 rfl) ?_
    refine lv_iload_n hx hb dMo_size_13 rfl (lv_at hl 1 rfl) ?_
    refine lv_iconst (v := 1) hx hb dMo_size_14 (by decide) ?_
    refine lv_iadd hx hb dMo_size_15 ?_
    obtain ⟨q3, hq3, h⟩ := jbi_h h
    refine jcalli (w' := fun _ : Nat → Nat => mW cA cL A q1.2.1 q1.2.2.1 q1.2.2.2) (va_runV (As := [.int (x1 + 1)]) (rest := [.ref (A 10)]) ⟨hx, hb, hml, hown, hts⟩ (cMo_ahead l dC dI cA cL A (x1 + 1) q1.2.1 q1.2.2.1 q1.2.2.2 B H.size hq3) (cwV 1 hts (jgoodV jw_760 jw_762 jws_30 jw_7 jw_763) rfl rfl rfl (by decide +kernel) ⟨Nat.le_of_ble_eq_true rfl, Nat.le_of_ble_eq_true rfl⟩) (jpreV hN hJ (ci := 6) (q0 := 0) rfl rfl) rfl rfl hl.1 rfl (lv_room (Nat.le_of_ble_eq_true rfl)) dMo_size_16 ⟨Nat.zero_le _, Nat.zero_le _⟩) hA hJ (fun B H locs hJ => ?_)
    obtain ⟨hi4, h⟩ := jib_h h
    refine mald_10 hx hb hJ hi4 dMo_size_19 ?_
    refine lv_l2i hx hb dMo_size_20 rfl ?_
    refine lv_goto (tgt := 25) hx hb dMo_size_21 (by decide) ?_
    cases h
    exact jreti (u := B) hx hb hr rfl hlocks hJ dMo_size_25 rfl
set_option maxHeartbeats 4000000 in
set_option maxRecDepth 100000 in
theorem cMo_size (l : Launch) (dC : Nat → ClassId) (dI : Nat → Nat → Nat) (cA cL : ClassId) (A : Nat → Nat) (x1 : Int32) (M : jM) (F : jF) (L : jL) (B : Nat → Nat) (sz : Nat) {r : Int32} {M' : jM} {F' : jF} {L' : jL} (h : fMo_size x1 M F L = some (r, M', F', L')) : jCi l yMo_size wMo_size rMo_size (dC, dI) jCl [(cA, .int), (cL, .long)] [.ref (A 0), .int x1] (mW cA cL A M F L) sz r (fun _ : Nat → Nat => mW cA cL A (M') (F') (L')) :=
  jOf (Qc := fun Ap => va_Qi (fun q (_ : Nat → Nat) => q = r) (jPost (dC, dI) jCl [(cA, .int), (cL, .long)] (fun _ : Nat → Nat => mW cA cL A (M') (F') (L')) Ap) Ap) (by decide) rfl (Nat.le_of_ble_eq_true rfl) (fun p e s m below meth c Ap ls hC hA hJ hl => uMo_size_0 l dC dI cA cL A Ap hC hA _ _ _ _ B _ _ _ hJ (lv_sub hl [0, 1] rfl) h)
